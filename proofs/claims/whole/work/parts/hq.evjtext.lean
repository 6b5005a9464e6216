/-! Level 2: exps worked out: & of two TEXTS, both sides. -/
theorem ext_of {v n k : Nat} {w : Int64} (h : vl_c v n k w) (hk : k = 2 ∨ k = 8 ∨ k = 6) (hv : v ≤ 120) : ∀ s, f_X8_extent w s = nI v := by
  intro s
  have kd : (w.toInt32 &&& (15 : Int32)) = nI k := vl_kind h (s := s)
  have td : (w >>> ((12 : Int32).toInt64 &&& 63)) = lN v := Int64.toInt_inj.mp (by rw [pk_lT (by omega)]; exact vl_told h (s := s))
  have q : ∀ y : Nat, y < 100 → (nI k = nI y ↔ k = y) := fun y hy => nI_eq (by omega) (by omega)
  have q2 : nI k = (2 : Int32) ↔ k = 2 := q 2 (by decide)
  have q8 : nI k = (8 : Int32) ↔ k = 8 := q 8 (by decide)
  have q6 : nI k = (6 : Int32) ↔ k = 6 := q 6 (by decide)
  unfold f_X8_extent k_X8_extent_23
  rw [kd, td, lN_w]
  rcases hk with e | e | e
  · rw [if_pos (q2.mpr e)]
  · rw [if_neg (fun y => by have := q2.mp y; omega), if_pos (q8.mpr e)]
  · rw [if_neg (fun y => by have := q2.mp y; omega), if_neg (fun y => by have := q8.mp y; omega), if_pos (q6.mpr e)]
/-- a TEXT out of its cells and its row -/
theorem vw_text {c r : Nat → Int64} {a p v : Nat} {B : Nat → Nat} (hv : v ≤ 40) (hB : ∀ j, j < v → 32 ≤ B j ∧ B j ≤ 126) (hd : vl_c v (1 + (v + 7) / 8) 2 (c a)) (e0 : r p = lN 2) (e1 : r (p + 1) = lN v) (ec : ∀ q, q < (v + 7) / 8 → c (a + 1 + q) = lN (16 * x8 (x8_S B v q) + 10)) (er : ∀ q, q < (v + 7) / 8 → r (p + 2 + q) = lN (y8 (x8_S B v q))) : VW c r 120 a p (1 + (v + 7) / 8) (2 + (v + 7) / 8) := by
  refine ⟨⟨by omega, by omega, by omega⟩, v, 2, hd, e0, Or.inr (Or.inr (Or.inr (Or.inl ⟨v, rfl, rfl, hv, rfl, rfl, e1, B, hB, fun q hq => ⟨x8_S B v q, fun e he => rfl, ?_⟩⟩)))⟩
  have sb : ∀ e, e < 8 → x8_S B v q e < 128 := fun e he => by
    unfold x8_S
    split
    · have := hB _ (by assumption); omega
    · omega
  have xl := x8_lt (S := x8_S B v q) 8 (Nat.le_refl _) sb (fun _ h1 h2 => by omega)
  have yl := y8_lt (S := x8_S B v q) 8 (Nat.le_refl _) sb (fun _ h1 h2 => by omega)
  simp only [Nat.reducePow] at xl yl
  rw [ec q hq, er q hq, pk_lT (by omega), pk_lT (by omega)]
  unfold x8 y8
  refine ⟨by omega, by omega, by omega⟩
section
variable {c1 r1 : t_S} {D a H n1 k1 n2 k2 : Nat}
theorem uo_jtext (h : T2 D a H n1 k1 n2 k2 c1 r1) (p0 : r1.2.1 1006 (260 * (40 + H)) = lN 2) (p0' : r1.2.1 1006 (260 * (41 + H)) = lN 2) : UO D a H c1 r1 (f_X0_join (c1.2.1 338 a) (c1.2.1 338 (a + n1)) c1) (f_X13_joinRows (nI (260 * (40 + H))) (nI (260 * (41 + H))) r1) := by
  obtain ⟨v1, B1, hd, v40, e1, em1, q1, hB1, x1⟩ := h.1.1.txt p0
  obtain ⟨v2, B2, hd', v40', e2, em2, q2, hB2, x2⟩ := h.1.2.txt p0'
  obtain ⟨rs, hrs, s98, s97, fs, sJ, ee2, eu, et⟩ := t2_off h
  have bb := h.2.2.2
  obtain ⟨T, hT⟩ : ∃ T, T = 260 * (40 + H) := ⟨_, rfl⟩
  obtain ⟨U, hU⟩ : ∃ U, U = 260 * (41 + H) := ⟨_, rfl⟩
  have C := (cj_at h hd hd').2 rfl (Or.inl rfl)
  have R := (rj_at (r1 := r1) (T := T) (U := U) (k := 2) (k' := 2) (by omega) (by omega) (by rw [hT]; exact p0) (by rw [hU]; exact p0') (by decide) (by decide)).2.1 rfl rfl
  rw [← hT] at p0 q1 x1
  rw [← hU] at p0' q2 x2
  rw [← hT, ← hU, C, R, ext_of hd (Or.inl rfl) (by omega), ext_of hd' (Or.inl rfl) (by omega), nI_add]
  unfold k_X0_join_86 k_X0_join_101 k_X0_join_118 k_X13_joinRows_80 k_X13_joinRows_118
  rw [if_pos (show nI 2 = (2 : Int32) from rfl), nI_1, nI_1, if_pos (l2_ix (by omega) (by decide)), if_pos (l2_ix (by omega) (by decide)), nI_clamp (n := T + 1) (by omega), nI_clamp (n := U + 1) (by omega), q1, q2, lN_w, lN_w, nI_add, if_neg (show ¬ (1 : Int32) = 0 by decide)]
  by_cases big : 40 < v1 + v2
  · rw [if_pos (show (40 : Int32) < nI (v1 + v2) from (nI_ltI (a := 40) (by decide) (by omega)).mpr big), t_let, cj_e (by decide), if_neg (show ¬ nI (v1 + v2) ≤ (40 : Int32) from nI_ge (a := 40) big (by omega))]
    exact uo_err (er := 3) (by decide) rfl (l2_fr.rf) h.2.2.1.2 rfl
  · have n8 : ¬ nI 2 = (8 : Int32) := by decide
    rw [if_neg (show ¬ (40 : Int32) < nI (v1 + v2) from nI_nlt (a := 40) (by omega) (by decide)), if_neg n8, if_pos (show nI (v1 + v2) ≤ (40 : Int32) from nI_le (b := 40) (by omega) (by decide)), ee2, ← hrs, t_let, if_neg (show ¬ (1 : Int32) = 0 by decide), t_let, t_let]
    -- the class
    obtain ⟨TT, F1, F2⟩ := t2_t1 h
    have t71 := t2_7 h
    unfold k_X0_join_123
    rw [if_pos h.2.1.2.2.2.2, t_let, t71, if_neg n8]
    have csJ : (t_setI c1 334 7 (nI (D + 1))).2.1 = c1.2.1 := rfl
    have cs7 : (t_setI c1 334 7 (nI (D + 1))).1 334 7 = nI (D + 1) := TT.2.1.2.2.1
    have cs12 : (t_setI c1 334 7 (nI (D + 1))).1 334 12 = 0 := TT.2.1.2.2.2
    generalize t_setI c1 334 7 (nI (D + 1)) = cs at *
    obtain ⟨w, w1, w2⟩ := tc_cell (v := v1 + v2) (by omega) cs
    rw [w1, l2_bs, t_let, show (0 : Int32).toNatClampNeg = 0 from rfl, show (1 : Int32).toNatClampNeg = 1 from rfl]
    have fa : l2_fr (fun b j => b = 340) cs (t_setJ cs 340 0 w) := l2_fr.setJ rfl
    have va : (t_setJ cs 340 0 w).2.1 340 0 = w := by rw [l2_jJ, l2_upif, if_pos rfl]
    generalize t_setJ cs 340 0 w = s2 at *
    obtain ⟨B, hBd⟩ : ∃ B : Nat → Nat, B = fun j => if j < v1 then B1 j else B2 (j - v1) := ⟨_, rfl⟩
    have Bl : ∀ j, j < v1 → B j = B1 j := fun j hj => by rw [hBd]; exact if_pos hj
    have Br : ∀ j, B (v1 + j) = B2 j := fun j => by rw [hBd]; show (if v1 + j < v1 then _ else B2 (v1 + j - v1)) = _; rw [if_neg (by omega), show v1 + j - v1 = j by omega]
    have hB : ∀ j, j < v1 + v2 → 32 ≤ B j ∧ B j ≤ 126 := fun j hj => by
      by_cases c : j < v1
      · rw [Bl j c]; exact hB1 j c
      · have := Br (j - v1)
        rw [show v1 + (j - v1) = j by omega] at this
        rw [this]; exact hB2 _ (by omega)
    have e338 : ∀ j, s2.2.1 338 j = c1.2.1 338 j := fun j => by rw [(fa 338 j (show ¬ 338 = 340 by decide)).2.1, csJ]
    obtain ⟨c', z1, z2, z3, z4, z5⟩ := jt_c (s2 := s2) (a := a) (b := a + n1) (v1 := v1) (v2 := v2) (D := D) (B := B) (w := w) (l1 := c1.2.1 338 a) (ext_of hd (Or.inl rfl) (by omega)) (by omega) (fun j hj => by have := hB j hj; omega) va w2 (by rw [(fa 334 7 (by decide)).1]; exact cs7) (by omega) (by omega) (fun s hs => ⟨fun i hi => by
      rw [Bl i hi]
      exact (sg_both (r := r1) (T := T) (by decide +kernel) (by decide +kernel) hB1 (fun q hq => by rw [hs, e338]; exact x1 q hq) hi v40 (by show a + 1 + i / 8 < 48000; omega) (by omega)).1, fun i hi => by
      rw [Br i]
      exact (sg_both (r := r1) (T := U) (by decide +kernel) (by decide +kernel) hB2 (fun q hq => by rw [hs, e338]; exact x2 q hq) hi v40' (by show a + n1 + 1 + i / 8 < 48000; omega) (by omega)).1⟩)
    rw [z1]
    -- the reference
    have r1007 : (nI (v1 + v2)).toInt64 = lN (v1 + v2) := nI_l (by omega)
    rw [r1007]
    obtain ⟨s3, hs3⟩ : ∃ s3, s3 = t_setJ (t_setJ rs 1007 0 (2 : Int64)) 1007 1 (lN (v1 + v2)) := ⟨_, rfl⟩
    rw [← hs3]
    have f3 : l2_fr (fun b j => b = 1007 ∧ j < 2) rs s3 := by
      rw [hs3]; exact (l2_fr.setJ ⟨rfl, by decide⟩).trans (l2_fr.setJ ⟨rfl, by decide⟩)
    have a0 : s3.2.1 1007 0 = lN 2 := by rw [hs3, l2_jJ, l2_upif, if_neg (by decide), l2_jJ, l2_upif, if_pos rfl]; rfl
    have a1 : s3.2.1 1007 1 = lN (v1 + v2) := by rw [hs3, l2_jJ, l2_upif, if_pos rfl]
    have e1006 : ∀ j, s3.2.1 1006 j = r1.2.1 1006 j := fun j => by rw [(f3 1006 j (by omega)).2.1, sJ]
    obtain ⟨r', y1, y2⟩ := jt_r (s3 := s3) (T := T) (U := U) (v1 := v1) (v2 := v2) (B := B) (by omega) (fun j hj => by have := hB j hj; omega) (fun s hs => ⟨fun i hi => by
      rw [Bl i hi]
      exact (sg_both (c := c1) (r := s) (arr := 338) (a := a) (T := T) (by decide +kernel) (by decide +kernel) hB1 (fun q hq => by rw [hs, e1006]; exact x1 q hq) hi v40 (by show a + 1 + i / 8 < 48000; omega) (by omega)).2, fun i hi => by
      rw [Br i]
      exact (sg_both (c := c1) (r := s) (arr := 338) (a := a + n1) (T := U) (by decide +kernel) (by decide +kernel) hB2 (fun q hq => by rw [hs, e1006]; exact x2 q hq) hi v40' (by show a + n1 + 1 + i / 8 < 48000; omega) (by omega)).2⟩)
      (Q := fun r' => r'.1 950 98 = nI (H + 1) ∧ r'.1 950 97 = 0 ∧ l2_fr (oWr H) rs r' ∧ VW (c'.2.1 338) (r'.2.1 1006) 120 a (260 * (40 + H)) (1 + (v1 + v2 + 7) / 8) (2 + (v1 + v2 + 7) / 8)) (fun s g fr => by
      have b98 : s.1 950 98 = nI H := by rw [(fr 950 98 (by omega)).1, (f3 950 98 (by omega)).1]; exact s98
      have b97 : s.1 950 97 = 0 := by rw [(fr 950 97 (by omega)).1, (f3 950 97 (by omega)).1]; exact s97
      have V4 : VW (c'.2.1 338) (s.2.1 1007) 120 a 0 (1 + (v1 + v2 + 7) / 8) (2 + (v1 + v2 + 7) / 8) := vw_text (by omega) hB (by rw [z3]; exact w2) (by rw [(fr 1007 0 (by omega)).2.1]; exact a0) (by rw [(fr 1007 (0 + 1) (by omega)).2.1]; exact a1) z4 (fun q hq => by rw [Nat.zero_add]; exact g q (by omega))
      obtain ⟨y, o1, o2, o3, o4⟩ := rs_pushMade b98 (by omega) V4 (by decide) (by omega)
      refine ⟨y, o1, o2, by rw [(o4 950 97 (by omega)).1]; exact b97, (f3.mono (fun b j y => by unfold oWr; omega)).trans ((fr.mono (fun b j y => by unfold oWr; omega)).trans (o4.mono (fun b j y => by unfold oWr; omega))), VW.copy _ _ _ _ _ _ _ V4 (fun _ _ => rfl) (fun d hd => by rw [o3 d hd, Nat.zero_add])⟩)
    obtain ⟨y3, y4, y5, y6⟩ := y2
    refine ⟨c', r', rfl, y1, F1.trans ((fa.mono (fun b j y => by unfold oWc; omega)).trans (z5.mono (fun b j y => by unfold oWc; omega))), (fs.mono (fun b j y => by unfold oWr; omega)).trans y5, Or.inl ⟨_, _, y6, z2, ?_, ?_, y3, y4⟩⟩
    · rw [(z5 334 7 (by omega)).1, (fa 334 7 (by decide)).1]; exact cs7
    · rw [(z5 334 12 (by omega)).1, (fa 334 12 (by decide)).1]; exact cs12
end
