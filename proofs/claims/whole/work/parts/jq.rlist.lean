/-! Level 2: the reference holds a part against a templ: [ ], one piece. -/
section
variable {c r s : t_S} {a i p E σ : Nat} {ti : Nat → Nat} {NS : Nat → Prop} {n g v m P x : Nat} {G Qe : Nat → Nat}
/-- the elements of a part -/
theorem pd_elems (pb : p + 260 ≤ 626600) (pr : ∀ x, x ≤ E → wq (r.2.1 1006) p x < p + 250) (pd : ∀ x, x < E → PD (c.2.1 a) (r.2.1 1006) i p E x) (hx : x < E) (h8 : r.2.1 1006 (wq (r.2.1 1006) p x) = lN 8) : ∃ (m : Nat) (Qe : Nat → Nat), r.2.1 1006 (wq (r.2.1 1006) p x + 1) = lN m ∧ m ≤ 16 ∧ ∀ e, e < m → (∀ s : t_S, s.2.1 1006 = r.2.1 1006 → f_X13_partOf (nI (wq (r.2.1 1006) p x)) (nI e) s = some (nI (Qe e))) ∧ Qe e < 626600 ∧ ∃ num, PQ r p E (some (Qe e)) (nI (Qe e)) num := by
  obtain ⟨f, n0, m0, t, k, ⟨f120, V⟩, hc, ⟨hr, z, z1, z2, z3, _⟩, hk⟩ := pd x hx
  have xl := pr z z2
  rw [h8] at hr
  have k8 : k = 8 := (lN_inj (by decide) (by have := hc.2.2; omega) hr).symm
  rcases hk with ⟨_, _, y⟩ | ⟨y, _⟩ | ⟨v, I, P, C, _, y2, v16, y3, y4, I0, P0, Iv, Pv, hj⟩ | ⟨v, I, P, X', C, y, _⟩
  · exact absurd k8 y
  · omega
  · refine ⟨v, fun e => wq (r.2.1 1006) p (C e), y3, v16, fun e he => ?_⟩
    obtain ⟨h1, h2, h3, h4, h5, h6, h7⟩ := hj e he
    have Pm : ∀ j, j < v → wq (r.2.1 1006) p x + 2 + P (j + 1) ≤ 626600 := fun j jv => by have := (hj j jv).1; omega
    have hb := pr _ (Nat.le_of_lt h5)
    refine ⟨fun s e6 => ?_, (by show wq (r.2.1 1006) p (C e) < 626600; omega), _, PQ.mk h5 (by rw [h7]; exact h2)⟩
    show _ = some (nI (wq (r.2.1 1006) p (C e)))
    have F := vw_part (s := s) (c := c.2.1 a) (f := f - 1) (v := v) (p := wq (r.2.1 1006) p x) (q0 := wq (r.2.1 1006) p x + 2) (k := 8) (j := e) (I := fun j => wv (c.2.1 a) i x + 1 + I j) (P := P) (L := fun j => I (j + 1) - I j) (by rw [e6]; exact h8) (by decide) (by rw [if_neg (by decide)]) (fun y => absurd y (by decide)) (by omega) P0 (fun j jv => ⟨(hj j jv).1.2.1, Pm j jv, by rw [e6]; exact (hj j jv).2.2.1⟩) (by omega) (by omega) (by omega)
    rw [F, h7]
  · omega
theorem rcS_le {F : Nat → Option Nat → Prop} {q : Nat} : ∀ u e, rcS r F n q m u e → e ≤ m := by
  intro u e h
  cases u with
  | zero =>
    have : e = 0 := h
    omega
  | succ u => exact h.1
theorem rcS_emp {F : Nat → Option Nat → Prop} {q u : Nat} (h : ∀ e, ¬ rcS r F n q m u e) : ∀ d e, ¬ rcS r F n q m (u + d) e := by
  intro d
  induction d with
  | zero => exact h
  | succ d ih =>
    intro e ⟨_, h2⟩
    rcases h2 with ⟨_, e1, _, h3⟩ | ⟨_, e1, h3, _⟩ | ⟨_, _, e1, _, h3, _⟩
    · exact ih e1 h3
    · exact ih e1 h3
    · exact ih e1 h3
/-- one step: from e elements to e' -/
def stS (r : t_S) (F : Nat → Option Nat → Prop) (q gu e e' : Nat) : Prop := (isS r gu ∧ e ≤ e') ∨ (r.1 955 gu = 39 ∧ e' = e + cn r gu ∧ kp_L (fun x y => y < cn r gu ∧ ∃ q', eL r q (e + x) q' ∧ F (gn r gu y) (some q')) (cn r gu)) ∨ (¬ isS r gu ∧ r.1 955 gu ≠ 39 ∧ e' = e + 1 ∧ ∃ q', eL r q e q' ∧ F gu (some q'))
theorem rcS_st {F : Nat → Option Nat → Prop} {q u e' : Nat} : rcS r F n q m (u + 1) e' ↔ e' ≤ m ∧ ∃ e, rcS r F n q m u e ∧ stS r F q (gn r n u) e e' := by
  show (e' ≤ m ∧ _) ↔ _
  refine and_congr Iff.rfl ⟨fun h => ?_, fun ⟨e, h1, h2⟩ => ?_⟩
  · rcases h with ⟨h0, e1, h1, h2⟩ | ⟨h0, e1, h1, h2, h3⟩ | ⟨h0, h00, e1, q', h1, h2, h3, h4⟩
    · exact ⟨e1, h2, Or.inl ⟨h0, h1⟩⟩
    · exact ⟨e1, h1, Or.inr (Or.inl ⟨h0, h2, h3⟩)⟩
    · exact ⟨e1, h1, Or.inr (Or.inr ⟨h0, h00, h2, q', h3, h4⟩)⟩
  · rcases h2 with ⟨h0, h2⟩ | ⟨h0, h2, h3⟩ | ⟨h0, h00, h2, q', h3, h4⟩
    · exact Or.inl ⟨h0, e, h2, h1⟩
    · exact Or.inr (Or.inl ⟨h0, e, h1, h2, h3⟩)
    · exact Or.inr (Or.inr ⟨h0, h00, e, q', h1, h2, h3, h4⟩)
theorem pcn_go (hc : ch_R r n v G) (hv : v ≤ 16) (fr : l2_fr rmW r s) (hn : n < 13000) : f_X13_partCount (nI n) s = some (nI v) := by
  have f59 : s.1 959 n = nxG v G 0 := ((rm_fr fr (by omega)).1).trans hc.1
  unfold f_X13_partCount
  rw [if_pos (l2_ix hn (by decide)), nI_clamp (n := n) (by omega), f59]
  have := l2_srch (b := b_X13_partCount_9 s) (Y := fun j => (nI j, nxG v G j)) (j := v) (r := nI v) (by omega) (fun j hj => ?_) ?_
  · exact this
  · obtain ⟨g1, _, _, _⟩ := hc.2 j hj
    have e60 : s.1 960 (G j) = nxG v G (j + 1) := ((rm_fr fr (by omega)).1).trans (ch_nx hc hj)
    show k_X13_partCount_9 _ _ s = _
    unfold k_X13_partCount_9
    rw [nx_in hj, if_neg (nI_pos (by omega)), if_pos (l2_ix g1 (by decide)), nI_clamp (n := G j) (by omega), e60, nI_1]
  · show k_X13_partCount_9 _ _ s = _
    unfold k_X13_partCount_9
    rw [nx_out (j := v) (v := v) (by omega), if_pos (show (-1 : Int32) < 0 by decide)]
    rfl
end
