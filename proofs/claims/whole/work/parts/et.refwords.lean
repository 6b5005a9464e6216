/-! Level 2: the reference's check of a line: its words. -/
section
variable {X ln j m : Nat} {nt : Nat → Nat} {q v w kc l2 : Int32} {S : Nat → Int32 → Prop} {r : t_S} {Q : t_S → Prop}
theorem rl_bad {U : Prop} (L : ls_R (r.1 950 88) (r.1 950 89) S) (u : U) {F : t_S → Option t_S} (go : ∀ r', rN_Q U q S r r' → t_hk (F r') Q) : t_hk ((f_X13_wrong 4 q r).bind F) Q := by
  obtain ⟨r1, x1, x2, x3⟩ := ls_wrong (q := q) L (k := 4) (by decide)
  rw [show (4 : Int32) = nI 4 from rfl, x1, l2_bs]
  exact go r1 ⟨x2, x3.iff (fun a b => or_congr Iff.rfl ⟨fun y => ⟨y.2, y.1, u⟩, fun y => ⟨y.2.1, y.1⟩⟩)⟩
theorem rl_ok {U : Prop} (L : ls_R (r.1 950 88) (r.1 950 89) S) (u : ¬ U) : rN_Q U q S r r := ⟨l2_fr.rf, L.iff (fun a b => ⟨Or.inl, fun y => y.elim id (fun z => absurd z.2.2 u)⟩)⟩
theorem rl_port (hl : ln < 400) (hkc : kc < 0 ∨ ∃ j w, j < 8 ∧ kc = nI j ∧ f_X13_find 971 (6 * kc) (r.1 972 kc.toNatClampNeg) (nI X) r = some w) (h1 : r.1 991 ln = nI X) (h2 : r.1 992 ln = q) (L : ls_R (r.1 950 88) (r.1 950 89) S) (go : ∀ r', rN_Q (no_R 971 972 6 r kc X) q S r r' → t_hk (k_X13_checkLine_442 (nI ln) l2 r') Q) : t_hk (k_X13_checkLine_324 (nI ln) l2 kc r) Q := by
  have il : t_ix (nI ln) 401 = true := l2_ix (by omega) (by decide)
  have cl : (nI ln).toNatClampNeg = ln := nI_clamp (by omega)
  have bad : no_R 971 972 6 r kc X → t_hk (k_X13_checkLine_355 (nI ln) l2 r) Q := fun u => by
    unfold k_X13_checkLine_355
    rw [if_pos il, cl, h2]
    exact rl_bad L u go
  unfold k_X13_checkLine_324
  rcases hkc with z | ⟨j, w, hj, rfl, hw⟩
  · rw [if_pos z]
    exact bad (Or.inl z)
  · rw [if_neg (nI_pos (by omega)), if_pos (l2_ix hj (by decide)), if_pos il, cl, h1, hw, l2_bs]
    by_cases z : w < 0
    · rw [if_neg (Int32.not_le.mpr z)]
      exact bad (Or.inr ⟨w, hw, z⟩)
    · rw [if_pos (Int32.not_lt.mp z)]
      refine go r (rl_ok L (fun y => ?_))
      rcases y with y | ⟨i, i1, i2⟩
      · exact nI_pos (n := j) (by omega) y
      · rw [hw] at i1
        cases i1
        exact z i2
theorem rl_timer (hl : ln < 400) (hkc : kc < 0 ∨ ∃ j w, j < 8 ∧ kc = nI j ∧ f_X13_find 973 (4 * kc) (r.1 974 kc.toNatClampNeg) (nI X) r = some w) (h1 : r.1 991 ln = nI X) (h2 : r.1 992 ln = q) (L : ls_R (r.1 950 88) (r.1 950 89) S) (go : ∀ r', rN_Q (no_R 973 974 4 r kc X) q S r r' → t_hk (k_X13_checkLine_442 (nI ln) l2 r') Q) : t_hk (k_X13_checkLine_401 (nI ln) l2 kc r) Q := by
  have il : t_ix (nI ln) 401 = true := l2_ix (by omega) (by decide)
  have cl : (nI ln).toNatClampNeg = ln := nI_clamp (by omega)
  have bad : no_R 973 974 4 r kc X → t_hk (k_X13_checkLine_431 (nI ln) l2 r) Q := fun u => by
    unfold k_X13_checkLine_431
    rw [if_pos il, cl, h2]
    exact rl_bad L u go
  unfold k_X13_checkLine_401
  rcases hkc with z | ⟨j, w, hj, rfl, hw⟩
  · rw [if_pos z]
    exact bad (Or.inl z)
  · rw [if_neg (nI_pos (by omega)), if_pos (l2_ix hj (by decide)), if_pos il, cl, h1, hw, l2_bs]
    by_cases z : w < 0
    · rw [if_neg (Int32.not_le.mpr z)]
      exact bad (Or.inr ⟨w, hw, z⟩)
    · rw [if_pos (Int32.not_lt.mp z)]
      refine go r (rl_ok L (fun y => ?_))
      rcases y with y | ⟨i, i1, i2⟩
      · exact nI_pos (n := j) (by omega) y
      · rw [hw] at i1
        cases i1
        exact z i2
/-- CONNECT's second port -/
theorem rl_port2 (hl : ln < 400) (hp : ∃ w : Int32, f_X13_isPort (nI X) r = some w ∧ (w = 0 ∨ w = 1) ∧ (w = 1 ↔ pt_R m r X)) (h3 : r.1 993 ln = nI X) (h4 : r.1 994 ln = q) (L : ls_R (r.1 950 88) (r.1 950 89) S) (go : ∀ r', rN_Q (¬ pt_R m r X) q S r r' → t_hk (k_X13_checkLine_442 (nI ln) l2 r') Q) : t_hk (k_X13_checkLine_277 (nI ln) l2 r) Q := by
  obtain ⟨w, e1, e2, e3⟩ := hp
  unfold k_X13_checkLine_277
  rw [if_pos (l2_ix (show ln < 401 by omega) (by decide)), nI_clamp (n := ln) (by omega), h3, e1, l2_bs]
  by_cases z : w = 0
  · rw [if_pos z, h4]
    exact rl_bad L (fun y => by rw [e3.mpr y] at z; exact absurd z (by decide)) go
  · rw [if_neg z]
    exact go r (rl_ok L (fun y => y (e3.mp (e2.resolve_left z))))
end
