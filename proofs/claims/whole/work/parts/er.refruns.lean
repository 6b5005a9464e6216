/-! Level 2: the reference's check of a node: runs, met. -/
section
variable {X k K d : Nat} {nt : Nat → Nat} {q v w : Int32} {S : Nat → Int32 → Prop} {r : t_S}
theorem rn_d (hd : d < 3000) : (lg_cmp (lN d) 0 = 0 ↔ d = 0) ∧ lg_cmp (lN d) 3000 < 0 := by
  have e : (lN d).toInt = d := pk_lT (by omega)
  constructor
  · rw [l2_cmp0]
    exact ⟨fun y => by
      rw [y] at e
      have : (0 : Int64).toInt = 0 := rfl
      omega, fun y => by rw [y]; rfl⟩
  · rw [t_cmp_lt, e]
    have : (3000 : Int64).toInt = 3000 := rfl
    omega
/-- outside functions and components it may not stand -/
theorem rn_run (hs : K = 55 ∨ K = 56 ∨ K = 57 ∨ K = 61 ∨ K = 62) (hk : k < 13000) (h5 : r.1 955 k = nI K) (h8 : r.2.1 958 k = lN d) (hd : d < 3000) (h6 : r.1 956 k = q) (L : ls_R (r.1 950 88) (r.1 950 89) S) : t_hk (f_X13_checkNode (nI k) r) (rN_Q (d = 0) q S r) := by
  obtain ⟨d0, d3⟩ := rn_d hd
  have bad : d = 0 → t_hk (k_X13_checkNode_283 (nI k) r) (rN_Q (d = 0) q S r) := fun u => by
    unfold k_X13_checkNode_283
    rw [if_pos (l2_ix hk (by decide)), nI_clamp (n := k) (by omega), h6]
    exact rN_bad L u
  unfold f_X13_checkNode
  rw [if_pos (l2_ix hk (by decide)), nI_clamp (n := k) (by omega), h5, h8]
  by_cases z : lg_cmp (lN d) 0 = 0
  · have u := d0.mp z
    rcases hs with rfl | rfl | rfl | rfl | rfl
    · rw [if_neg (show ¬ (nI 55).toInt = 8 by decide), if_neg (show ¬ (nI 55).toInt = 28 by decide), if_pos (show (nI 55).toInt = 55 by decide), if_pos z]
      exact bad u
    · rw [if_neg (show ¬ (nI 56).toInt = 8 by decide), if_neg (show ¬ (nI 56).toInt = 28 by decide), if_neg (show ¬ (nI 56).toInt = 55 by decide), if_pos (show (nI 56).toInt = 56 by decide), if_pos z]
      exact bad u
    · rw [if_neg (show ¬ (nI 57).toInt = 8 by decide), if_neg (show ¬ (nI 57).toInt = 28 by decide), if_neg (show ¬ (nI 57).toInt = 55 by decide), if_neg (show ¬ (nI 57).toInt = 56 by decide), if_pos (show (nI 57).toInt = 57 by decide), if_pos z]
      exact bad u
    · rw [if_neg (show ¬ (nI 61).toInt = 8 by decide), if_neg (show ¬ (nI 61).toInt = 28 by decide), if_neg (show ¬ (nI 61).toInt = 55 by decide), if_neg (show ¬ (nI 61).toInt = 56 by decide), if_neg (show ¬ (nI 61).toInt = 57 by decide), if_neg (show ¬ (nI 61).toInt = 58 by decide), if_pos (show (nI 61).toInt = 61 by decide), if_pos z]
      exact bad u
    · rw [if_neg (show ¬ (nI 62).toInt = 8 by decide), if_neg (show ¬ (nI 62).toInt = 28 by decide), if_neg (show ¬ (nI 62).toInt = 55 by decide), if_neg (show ¬ (nI 62).toInt = 56 by decide), if_neg (show ¬ (nI 62).toInt = 57 by decide), if_neg (show ¬ (nI 62).toInt = 58 by decide), if_neg (show ¬ (nI 62).toInt = 61 by decide), if_pos (show (nI 62).toInt = 62 by decide), if_pos z]
      exact bad u
  · have u : ¬ d = 0 := fun y => z (d0.mpr y)
    rcases hs with rfl | rfl | rfl | rfl | rfl
    · rw [if_neg (show ¬ (nI 55).toInt = 8 by decide), if_neg (show ¬ (nI 55).toInt = 28 by decide), if_pos (show (nI 55).toInt = 55 by decide), if_neg z, if_pos d3, if_neg (show ¬ nI 55 = (63 : Int32) by decide)]
      exact rN_ok L u
    · rw [if_neg (show ¬ (nI 56).toInt = 8 by decide), if_neg (show ¬ (nI 56).toInt = 28 by decide), if_neg (show ¬ (nI 56).toInt = 55 by decide), if_pos (show (nI 56).toInt = 56 by decide), if_neg z, if_pos d3, if_neg (show ¬ nI 56 = (63 : Int32) by decide)]
      exact rN_ok L u
    · rw [if_neg (show ¬ (nI 57).toInt = 8 by decide), if_neg (show ¬ (nI 57).toInt = 28 by decide), if_neg (show ¬ (nI 57).toInt = 55 by decide), if_neg (show ¬ (nI 57).toInt = 56 by decide), if_pos (show (nI 57).toInt = 57 by decide), if_neg z, if_pos d3, if_neg (show ¬ nI 57 = (63 : Int32) by decide)]
      exact rN_ok L u
    · rw [if_neg (show ¬ (nI 61).toInt = 8 by decide), if_neg (show ¬ (nI 61).toInt = 28 by decide), if_neg (show ¬ (nI 61).toInt = 55 by decide), if_neg (show ¬ (nI 61).toInt = 56 by decide), if_neg (show ¬ (nI 61).toInt = 57 by decide), if_neg (show ¬ (nI 61).toInt = 58 by decide), if_pos (show (nI 61).toInt = 61 by decide), if_neg z, if_pos d3, if_neg (show ¬ nI 61 = (63 : Int32) by decide)]
      exact rN_ok L u
    · rw [if_neg (show ¬ (nI 62).toInt = 8 by decide), if_neg (show ¬ (nI 62).toInt = 28 by decide), if_neg (show ¬ (nI 62).toInt = 55 by decide), if_neg (show ¬ (nI 62).toInt = 56 by decide), if_neg (show ¬ (nI 62).toInt = 57 by decide), if_neg (show ¬ (nI 62).toInt = 58 by decide), if_neg (show ¬ (nI 62).toInt = 61 by decide), if_pos (show (nI 62).toInt = 62 by decide), if_neg z, if_pos d3, if_neg (show ¬ nI 62 = (63 : Int32) by decide)]
      exact rN_ok L u
end
