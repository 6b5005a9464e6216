/-! Level 2: the reference's check of a node: a timer that runs. -/
section
variable {X k j d : Nat} {nt : Nat → Nat} {q v w kc : Int32} {S : Nat → Int32 → Prop} {r : t_S}
/-- in a component or a function: its component's timer -/
theorem rn_63 (hk : k < 13000) (h5 : r.1 955 k = nI 63) (h8 : r.2.1 958 k = lN d) (d0 : d ≠ 0) (hd : d < 3000) (hc : f_X13_componentOf (nI d) r = some kc) (hkc : kc < 0 ∨ ∃ j w, j < 8 ∧ kc = nI j ∧ f_X13_find 973 (4 * kc) (r.1 974 kc.toNatClampNeg) (nI X) r = some w) (h7 : (r.2.1 957 k).toInt32 = nI X) (h6 : r.1 961 k = q) (L : ls_R (r.1 950 88) (r.1 950 89) S) : t_hk (f_X13_checkNode (nI k) r) (rN_Q (no_R 973 974 4 r kc X) q S r) := by
  obtain ⟨e0, e3⟩ := rn_d hd
  have bad : no_R 973 974 4 r kc X → t_hk (k_X13_checkNode_351 (nI k) r) (rN_Q (no_R 973 974 4 r kc X) q S r) := fun u => by
    unfold k_X13_checkNode_351 k_X13_checkNode_362
    rw [if_pos (l2_ix hk (by decide)), nI_clamp (n := k) (by omega), h6]
    exact rN_bad L u
  unfold f_X13_checkNode
  rw [if_pos (l2_ix hk (by decide)), nI_clamp (n := k) (by omega), h5, h8, h7]
  rw [if_neg (show ¬ (nI 63).toInt = 8 by decide), if_neg (show ¬ (nI 63).toInt = 28 by decide), if_neg (show ¬ (nI 63).toInt = 55 by decide), if_neg (show ¬ (nI 63).toInt = 56 by decide), if_neg (show ¬ (nI 63).toInt = 57 by decide), if_neg (show ¬ (nI 63).toInt = 58 by decide), if_neg (show ¬ (nI 63).toInt = 61 by decide), if_neg (show ¬ (nI 63).toInt = 62 by decide), if_pos (show (nI 63).toInt = 63 by decide), if_neg (fun y => d0 (e0.mp y)), if_pos e3, if_pos (show nI 63 = (63 : Int32) from rfl), show (lN d).toInt32 = nI d from lN_w d, hc, l2_bs]
  rcases hkc with z | ⟨j, w, hj, rfl, hw⟩
  · rw [if_pos z]
    exact bad (Or.inl z)
  · rw [if_neg (nI_pos (by omega)), if_pos (l2_ix hj (by decide)), hw, l2_bs]
    by_cases z : w < 0
    · rw [if_neg (Int32.not_le.mpr z)]
      exact bad (Or.inr ⟨w, hw, z⟩)
    · rw [if_pos (Int32.not_lt.mp z)]
      refine rN_ok L (fun y => ?_)
      rcases y with y | ⟨i, i1, i2⟩
      · exact nI_pos (n := j) (by omega) y
      · rw [hw] at i1
        cases i1
        exact z i2
end
