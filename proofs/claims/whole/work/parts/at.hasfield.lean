/-! Level 2: has a record of templs such a field already? -/
theorem tc_has {c : t_S} {t0 v x : Nat} {F X : Nat → Nat} (h : tc_R c t0 v F) (ht : t0 < 6100) (hv : v ≤ 16) (hx : x < 100000) (hF : ∀ j, j < v → F j < 6100) (hX : ∀ j, j < v → X j < 100000 ∧ c.1 357 (F j) = nI (66 + X j)) : t_hk (f_X6_hasField (nI t0) (nI (66 + x)) c) (fun y => (y = 1 ∧ ∃ j, j < v ∧ X j = x) ∨ (y = 0 ∧ ∀ j, j < v → X j ≠ x)) := by
  obtain ⟨h1, h2⟩ := h
  unfold f_X6_hasField
  refine l2_ck (l2_ix ht (by decide)) ?_
  rw [nI_clamp (by omega), h1]
  refine l2_lp (fun w y => ∃ j, j + w = v ∧ y = (nI (66 + x), (if j < v then nI (F j) else -1), nI j) ∧ ∀ i, i < j → X i ≠ x) ?_ (m := v) (Nat.lt_trans (show v < 1000000000 by omega) l2_N) ⟨0, by omega, rfl, fun i hi => by omega⟩
  rintro w y ⟨j, hj, rfl, hh⟩
  show t_hk (k_X6_hasField_13 (nI (66 + x)) (if j < v then nI (F j) else -1) (nI j) c) _
  unfold k_X6_hasField_13
  by_cases z : j < v
  · have n16 : ¬ (16 : Int32) ≤ nI j := fun y => by
      have := (nI_leI (a := 16) (by decide) (by omega)).mp y
      omega
    refine l2_no n16 ?_
    rw [if_pos z]
    have q1 := hF j z
    obtain ⟨q2, q3⟩ := hX j z
    refine l2_no (nI_pos (by omega)) (l2_ck (l2_ix q1 (by decide)) ?_)
    rw [nI_clamp (by omega), q3, h2 j z, nI_1]
    refine l2_if (fun e => ?_) (fun e => ?_)
    · have e := (nI_eq (by omega) (by omega)).mp e
      exact l2_mp (l2_sm (Or.inl ⟨rfl, j, z, by omega⟩))
    · refine l2_sm ⟨w - 1, by omega, j + 1, by omega, rfl, fun i hi => ?_⟩
      by_cases y : i = j
      · rw [y]
        exact fun q => e (by rw [q])
      · exact hh i (by omega)
  · rw [if_neg z]
    have fin : ∀ i, i < v → X i ≠ x := fun i hi => hh i (by omega)
    refine l2_if (fun _ => l2_mp (l2_sm (Or.inr ⟨rfl, fin⟩))) (fun _ => l2_ck ch_m1 (l2_mp (l2_sm (Or.inr ⟨rfl, fin⟩))))
