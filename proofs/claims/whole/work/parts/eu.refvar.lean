/-! Level 2: the reference's look for a var from within a function. -/
section
variable {X ln f j : Nat} {nt : Nat → Nat} {q u v w kc td : Int32} {S : Nat → Int32 → Prop} {r : t_S} {Q : t_S → Prop}
/-- none of the function's own: its component's -/
theorem rv_fn (hf : f < 40) (hu : f_X13_find 984 (8 * nI f) td (nI X) r = some u) (u0 : u < 0) (hc : f_X13_componentOf (2000 + nI f) r = some kc) (hkc : kc < 0 ∨ ∃ j w, j < 8 ∧ kc = nI j ∧ f_X13_find 975 (8 * kc) (r.1 979 kc.toNatClampNeg) (nI X) r = some w ∧ (w = -1 ∨ ∃ i, i < 8 ∧ w = nI i)) : ∃ z, f_X13_varOf (nI X) (2000 + nI f) td r = some z ∧ (0 ≤ z ↔ ¬ no_R 975 979 8 r kc X) := by
  have e2 : (2000 : Int32) + nI f = nI (2000 + f) := nI_add 2000 f
  rw [e2] at hc ⊢
  have n2 : ¬ nI (2000 + f) < (2000 : Int32) := Int32.not_lt.mpr (show (2000 : Int32) ≤ nI (2000 + f) from nI_le (a := 2000) (by omega) (by omega))
  have n1 : ¬ nI (2000 + f) < (1000 : Int32) := Int32.not_lt.mpr (show (1000 : Int32) ≤ nI (2000 + f) from nI_le (a := 1000) (by omega) (by omega))
  have k42 : ∃ z, k_X13_varOf_42 (nI X) (nI (2000 + f)) td r = some z ∧ (0 ≤ z ↔ ¬ no_R 975 979 8 r kc X) := by
    unfold k_X13_varOf_42
    rw [hc, l2_bs]
    rcases hkc with z | ⟨j, w, hj, rfl, hw, h3⟩
    · rw [if_neg (Int32.not_le.mpr z)]
      unfold k_X13_varOf_97
      rw [if_neg (by decide)]
      exact ⟨-1, rfl, fun y => absurd y (by decide), fun y => absurd (Or.inl z) y⟩
    · rw [if_pos (nI_pos' (by omega)), if_neg n1, if_pos (Int32.not_lt.mp n2)]
      unfold k_X13_varOf_86 k_X13_varOf_93 k_X13_varOf_97
      rw [if_pos (l2_ix hj (by decide)), hw, l2_bs]
      rcases h3 with rfl | ⟨i, hi, rfl⟩
      · rw [if_neg (by decide)]
        exact ⟨-1, rfl, fun y => absurd y (by decide), fun y => absurd (Or.inr ⟨-1, hw, by decide⟩) y⟩
      · rw [if_pos (nI_pos' (by omega))]
        refine ⟨_, rfl, fun _ y => ?_, fun _ => ?_⟩
        · rcases y with y | ⟨i', i1, i2⟩
          · exact nI_pos (n := j) (by omega) y
          · rw [hw] at i1
            cases i1
            exact nI_pos (n := i) (by omega) i2
        · rw [show (100 : Int32) + nI i = nI (100 + i) from nI_add 100 i]
          exact nI_pos' (by omega)
  obtain ⟨z, z1, z2⟩ := k42
  refine ⟨z, ?_, z2⟩
  unfold f_X13_varOf
  rw [if_neg n2, if_neg (show ¬ (3000 : Int32) ≤ nI (2000 + f) from nI_ge (b := 3000) (by omega) (by decide)), show nI (2000 + f) - (2000 : Int32) = nI f from (pk_sub (b := 2000) (by omega)).trans (by rw [show 2000 + f - 2000 = f by omega]), hu, l2_bs, if_pos u0, z1]
end
