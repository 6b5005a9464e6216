/-! Level 2: the reference's check of a node: a var, a word of an enum. -/
section
variable {X k d m : Nat} {q z : Int32} {V : Prop} {S : Nat → Int32 → Prop} {r : t_S}
theorem rn_58 (hk : k < 13000) (h5 : r.1 955 k = nI 58) (h8 : r.2.1 958 k = lN d) (hd : d < 3000) (h7 : (r.2.1 957 k).toInt32 = nI X) (hX : X < 7934) (h6 : r.1 956 k = q) (hv : f_X13_varOf (nI X) (nI d) (r.1 961 k) r = some z) (hz : 0 ≤ z ↔ ¬ V) (hm : m ≤ 13000) (e90 : r.1 950 90 = nI m) (hb : r.1 1004 k = 0 ∨ r.1 1004 k = 1) (hw : ¬ (d = 0 ∧ r.1 961 k = 0 ∧ r.1 1004 k = 1)) (L : ls_R (r.1 950 88) (r.1 950 89) S) : t_hk (f_X13_checkNode (nI k) r) (rN_Q (V ∧ ¬ ew_W m r X) q S r) := by
  obtain ⟨e0, e3⟩ := rn_d hd
  have go : t_hk (k_X13_checkNode_204 (nI k) r) (rN_Q (V ∧ ¬ ew_W m r X) q S r) := by
    unfold k_X13_checkNode_204
    rw [if_pos (l2_ix hk (by decide)), nI_clamp (n := k) (by omega), h7, h8, show (lN d).toInt32 = nI d from lN_w d, hv, l2_bs]
    by_cases a : 0 ≤ z
    · rw [if_pos a]
      exact rN_ok L (fun y => hz.mp a y.1)
    · rw [if_neg a]
      have v : V := Classical.byContradiction (fun x => a (hz.mpr x))
      obtain ⟨w, e1, e2, e4⟩ := ew_is hm e90 hX
      rw [e1, l2_bs, h6]
      by_cases y : w = 0
      · rw [if_pos y]
        exact rN_bad L ⟨v, fun x => by rw [e4.mpr x] at y; exact absurd y (by decide)⟩
      · rw [if_neg y]
        exact rN_ok L (fun x => x.2 (e4.mp (e2.resolve_left y)))
  unfold f_X13_checkNode f_X13_isWay
  rw [if_pos (l2_ix hk (by decide)), nI_clamp (n := k) (by omega), h5, h8]
  rw [if_neg (show ¬ (nI 58).toInt = 8 by decide), if_neg (show ¬ (nI 58).toInt = 28 by decide), if_neg (show ¬ (nI 58).toInt = 55 by decide), if_neg (show ¬ (nI 58).toInt = 56 by decide), if_neg (show ¬ (nI 58).toInt = 57 by decide), if_pos (show (nI 58).toInt = 58 by decide)]
  by_cases a : lg_cmp (lN d) 0 = 0
  · rw [if_pos a]
    by_cases b : r.1 961 k = 0
    · rw [if_pos b, if_pos hb, if_pos (l2_ix hk (by decide)), l2_bs, if_pos (hb.resolve_right (fun y => hw ⟨e0.mp a, b, y⟩))]
      exact go
    · rw [if_neg b]
      exact go
  · rw [if_neg a]
    exact go
/-- the ways of an assignment are no words -/
theorem rn_way (hk : k < 13000) (h5 : r.1 955 k = nI 58) (h8 : r.2.1 958 k = lN 0) (h61 : r.1 961 k = 0) (hb : r.1 1004 k = 1) : f_X13_checkNode (nI k) r = some r := by
  obtain ⟨e0, e3⟩ := rn_d (d := 0) (by decide)
  unfold f_X13_checkNode f_X13_isWay
  rw [if_pos (l2_ix hk (by decide)), nI_clamp (n := k) (by omega), h5, h8]
  rw [if_neg (show ¬ (nI 58).toInt = 8 by decide), if_neg (show ¬ (nI 58).toInt = 28 by decide), if_neg (show ¬ (nI 58).toInt = 55 by decide), if_neg (show ¬ (nI 58).toInt = 56 by decide), if_neg (show ¬ (nI 58).toInt = 57 by decide), if_pos (show (nI 58).toInt = 58 by decide), if_pos (e0.mpr rfl), if_pos h61, if_pos (Or.inr hb), if_pos (l2_ix hk (by decide)), l2_bs, if_neg (by rw [hb]; decide)]
end
