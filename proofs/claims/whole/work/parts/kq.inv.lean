/-! Level 2: what stands all the while exps with met are worked out. -/
/-- at operation e of an exp that ends at ce -/
def IZ (c0 : t_S) (P : Nat → Int64) (TS : Nat → Nat → Nat → Prop) (wt : Nat → Nat) (ce e : Nat) (c r : t_S) : Prop := e ≤ ce → 240 * sm wt 60 + 240 * q34 c0 ce ≤ 360000 + 240 * q34 c0 e ∧ (∃ τ, KM τ c) ∧ (∃ ρ, KS2 ρ r) ∧ (∃ σ, KN σ r ∧ σ < 2 ^ 30 ∧ (r.1 950 138 ≠ 0 → σ + ce + 1 ≤ 2 ^ 30 + e)) ∧ (∃ dep, r.1 950 138 = nI dep ∧ dep ≤ e) ∧ (r.1 950 138 ≠ 0 → (∃ pc, r.1 950 135 = nI pc ∧ pc + 240 * rem wt r + 240 * q34 c0 ce ≤ 360000 + 240 * q34 c0 e) ∧ Tld P TS r)
section
variable {c0 : t_S} {P : Nat → Int64} {TS : Nat → Nat → Nat → Prop} {wt : Nat → Nat} {ce k g ks : Nat} {r : t_S}
theorem sm_le {f h : Nat → Nat} (e : ∀ u, f u ≤ h u) : ∀ n, sm f n ≤ sm h n := fun n => by
  induction n with
  | zero => exact Nat.le_refl _
  | succ n ih => exact Nat.add_le_add ih (e n)
theorem rem_le : rem wt r ≤ sm wt 60 := by
  unfold rem
  exact sm_le (fun u => by split <;> omega) 60
theorem cl_IZ (hc : ce ≤ 16000) : Cl ⟨k, g, ks, IZ c0 P TS wt ce⟩ c0 P TS wt := by
  intro Z Y e e' c r c' r' h kc kr h97 he'
  obtain ⟨hxy, k138, kS, kT, k5⟩ := kr
  obtain ⟨bud, ⟨τ, hτ⟩, ⟨ρ, hρ⟩, ⟨σ, hσ, s1, s2⟩, ⟨dep, d1, d2⟩, h5⟩ := h (by omega)
  obtain ⟨τ', hτ'⟩ := kc.2 τ hτ
  obtain ⟨ρ', hρ', _⟩ := kT ρ hρ
  have q1 := q34_up (c := c0) hxy
  have q2 := q34_up (c := c0) he'
  refine ⟨by omega, ⟨τ', hτ'⟩, ⟨ρ', hρ'⟩, ?_, ⟨dep, by rw [k138]; exact d1, by omega⟩, fun n0 => ?_⟩
  · by_cases z : r.1 950 138 = 0
    · obtain ⟨σ', g1, g2⟩ := (kS σ hσ).2 z s1 (by omega)
      exact ⟨σ', g1, by omega, fun y => absurd (k138.trans z) y⟩
    · have s3 := s2 z
      obtain ⟨σ', g1, g2⟩ := (kS σ hσ).1 z (by omega)
      exact ⟨σ', g1, by omega, fun _ => by omega⟩
  · rw [k138] at n0
    obtain ⟨⟨pc, p1, p2⟩, hT⟩ := h5 n0
    obtain ⟨R1, _, _⟩ := (k5 h97).2 n0
    obtain ⟨pc', x1, x2, x3, x4, x5⟩ := R1 pc p1 (by omega)
    exact ⟨⟨pc', x1, by omega⟩, x5 hT⟩
end
/-- an exp has an operation -/
theorem XR.pos {WN AN TN : Nat → Nat → Prop} {SN : Nat → Nat → Prop} {c r : t_S} {p1 s1 : Nat} : ∀ f lv rr e0 e1 t0 t1 m0 m1 n, XR WN AN TN SN c r p1 s1 f 0 lv rr e0 e1 t0 t1 m0 m1 n → e0 < e1 := by
  intro f
  induction f with
  | zero => intro lv rr e0 e1 t0 t1 m0 m1 n h; exact h.elim
  | succ f ih =>
    intro lv rr e0 e1 t0 t1 m0 m1 n h
    obtain ⟨_, _, _, _, h⟩ := h
    rcases h with ⟨_, h⟩ | ⟨⟨q, _⟩, _⟩ | ⟨⟨q, _⟩, _⟩
    · rcases h with ⟨_, a2, _⟩ | ⟨_, _, _, _, x⟩ | ⟨_, a, _⟩ | ⟨_, a, _⟩ | ⟨a, _⟩ | ⟨_, a, _⟩ | ⟨_, _, v, _, _, _, _, _, _, a, _⟩ | ⟨_, a, _⟩
      · omega
      · exact ih _ _ _ _ _ _ _ _ _ x
      · exact a
      · exact a
      · exact a
      · exact a
      · omega
      · exact a
    · exact absurd q (by decide)
    · exact absurd q (by decide)
