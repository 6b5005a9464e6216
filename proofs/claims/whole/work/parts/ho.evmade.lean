/-! Level 2: exps worked out: the row that is made, part by part. -/
/-- v parts lie in the row that is made, from h on; each is a VALUE of cells AD j .. of cc -/
def MR (cc R : Nat → Int64) (h v : Nat) (AD P N : Nat → Nat) : Prop := ∀ j, j < v → (P j < P (j + 1) ∧ P (j + 1) ≤ P v) ∧ R (h + P j) ≠ lN 4 ∧ VW cc R 120 (AD j) (h + P j) (N j) (P (j + 1) - P j)
section
variable {s : t_S} {cc R c2 : Nat → Int64} {h v e m k a : Nat} {AD P N S : Nat → Nat}
theorem mr_step (M : MR cc (s.2.1 1007) h v AD P N) (V : VW cc (s.2.1 1006) 120 (AD v) e (N v) m) (hm : P (v + 1) = P v + m) (hne : s.2.1 1006 e ≠ lN 4) (he : e + m ≤ 626600) (hx : h + P (v + 1) ≤ 8600) : t_hk (f_X13_putMade (nI (h + P v)) (nI e) s) (fun y => y.1 = nI (h + P (v + 1)) ∧ MR cc (y.2.2.1 1007) h (v + 1) AD P N ∧ l2_fr (fun b j => b = 1007 ∧ h + P v ≤ j) s y.2) := by
  have pp := V.pos
  obtain ⟨y, ey, y1, y2, y3⟩ := rs_putMade (x := h + P v) V (by decide) he (by omega)
  refine ⟨y, ey, by rw [y1, hm, Nat.add_assoc], fun j hj => ?_, y3.mono (fun b j q => by omega)⟩
  by_cases c : j = v
  · subst c
    refine ⟨⟨by omega, Nat.le_refl _⟩, ?_, ?_⟩
    · have := y2 0 (by omega)
      rw [Nat.add_zero, Nat.add_zero] at this
      rw [this]; exact hne
    · rw [hm, show P j + m - P j = m by omega]
      exact VW.copy _ _ _ _ _ _ _ V (fun _ _ => rfl) (fun d hd => y2 d hd)
  · obtain ⟨⟨q1, q2⟩, q3, q4⟩ := M j (by omega)
    refine ⟨⟨q1, by omega⟩, ?_, VW.copy _ _ _ _ _ _ _ q4 (fun _ _ => rfl) (fun d hd => (y3 1007 _ (by omega)).2.1)⟩
    rw [(y3 1007 _ (by omega)).2.1]; exact q3
theorem mr_mono (hS : ∀ j, j < v → S (j + 1) = S j + N j) : ∀ d j, j + d ≤ v → S j ≤ S (j + d) := by
  intro d
  induction d with
  | zero => intro j _; exact Nat.le_refl _
  | succ d ih =>
    intro j hj
    have := ih j (by omega)
    rw [show j + (d + 1) = (j + d) + 1 by omega, hS (j + d) (by omega)]
    omega
theorem mr_w (hk : k = 6 ∨ k = 8) (e0 : s.2.1 1007 0 = lN k) (e1 : s.2.1 1007 1 = lN v) (hv : v ≤ 16) (hh : h = vr_w k v) (M : MR cc (s.2.1 1007) h v AD P N) (P0 : P 0 = 0) (S0 : S 0 = 0) (hS : ∀ j, j < v → S (j + 1) = S j + N j) (hb : h + P v ≤ 8600) (hSb : S v < 1000000) : f_X13_weightOf 1007 (0 : Int32) s = some (nI (vr_c k v + S v)) :=
  mw_weight (r := s) (cc := cc) (f := 120) (I := AD) (P := P) (N := N) (S := S) (by omega) e0 (fun _ => e1) (fun z => by omega) (by omega) hh P0 S0 (by decide) (fun j hj => by
    obtain ⟨⟨q1, q2⟩, q3, q4⟩ := M j hj
    exact ⟨by omega, by omega, hS j hj, q4⟩) (by omega) hSb
/-- a LIST -/
theorem mr_list (e0 : R 0 = lN 8) (e1 : R 1 = lN v) (hv : v ≤ 16) (M : MR cc R 2 v AD P N) (P0 : P 0 = 0) (S0 : S 0 = 0) (hS : ∀ j, j < v → S (j + 1) = S j + N j) (hd : vl_c v (1 + S v) 8 (c2 a)) (h120 : 1 + S v ≤ 120) (cp : ∀ j, j < v → ∀ d, d < N j → c2 (a + 1 + S j + d) = cc (AD j + d)) : VW c2 R 120 a 0 (1 + S v) (2 + P v) := by
  refine ⟨⟨by omega, h120, by omega⟩, v, 8, hd, e0, Or.inr (Or.inr (Or.inr (Or.inr (Or.inr (Or.inl ⟨v, S, P, rfl, rfl, hv, e1, by omega, S0, P0, by omega, by omega, fun j hj => ?_⟩)))))⟩
  obtain ⟨⟨q1, q2⟩, q3, q4⟩ := M j hj
  have pp := q4.pos
  have s1 := hS j hj
  have s2 := mr_mono hS (v - (j + 1)) (j + 1) (by omega)
  rw [show j + 1 + (v - (j + 1)) = v by omega] at s2
  refine ⟨⟨by omega, by omega, by omega, by omega⟩, by rw [Nat.zero_add]; exact q3, ?_⟩
  rw [Nat.zero_add, s1, show S j + N j - S j = N j by omega]
  exact VW.copy _ _ _ _ _ _ _ (VW.dep _ _ _ _ _ q4 119 (by omega)) (fun d hd => cp j hj d hd) (fun _ _ => rfl)
end
