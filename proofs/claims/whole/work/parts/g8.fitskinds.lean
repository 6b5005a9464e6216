/-! Level 2: FITS: one cell against a type's node, by the node's kind, on each side. -/
section
variable {s s1 : t_S} {l i0 i nd k n : Nat} {t : Int}
theorem hh1 (hok : t_oka l 2 (t_ln l) = true) (hL : t_ln l < 1000000000) (hi : i0 + i < t_ln l) (hn : nd < 3000) (e : s1.1 317 nd = nI 1) (hc : vl_c t n k (s1.2.1 l (i0 + i))) (k8 : k ≤ 8) : f_X11_holdsHere l (nI i0) (nI i) (nI nd) s1 = (if k = 0 then ((f_X11_inRanges (nI nd) (f_X8_told (s1.2.1 l (i0 + i)) s1) s1).bind (fun r6 => if r6 = (0 : Int32) then (some ((0 : Int32), s1)) else (some ((1 : Int32), s1)))) else (some ((0 : Int32), s1))) := by
  have ke : nI k = (0 : Int32) ↔ k = 0 := vr_ke k8 0 (by decide) 0 rfl
  unfold f_X11_holdsHere
  rw [if_pos hok, nI_add, if_pos (l2_ix hi (by omega)), if_pos (l2_ix (by omega) (by decide)), nI_clamp (n := nd) (by omega), nI_clamp (n := i0 + i) (by omega), e, vl_kind hc, if_neg (show ¬ ((nI 1).toInt < 1 ∨ 7 < (nI 1).toInt) by decide), if_pos (show (nI 1).toInt = 1 by decide)]
  by_cases z : k = 0
  · rw [if_pos (ke.mpr z), if_pos z]
  · rw [if_neg (fun y => z (ke.mp y)), if_neg z]
theorem hh2 (hok : t_oka l 2 (t_ln l) = true) (hL : t_ln l < 1000000000) (hi : i0 + i < t_ln l) (hn : nd < 3000) (e : s1.1 317 nd = nI 2) (hc : vl_c t n k (s1.2.1 l (i0 + i))) (k8 : k ≤ 8) : f_X11_holdsHere l (nI i0) (nI i) (nI nd) s1 = (if k = 1 then (some ((1 : Int32), s1)) else (some ((0 : Int32), s1))) := by
  have ke : nI k = (1 : Int32) ↔ k = 1 := vr_ke k8 1 (by decide) 1 rfl
  unfold f_X11_holdsHere
  rw [if_pos hok, nI_add, if_pos (l2_ix hi (by omega)), if_pos (l2_ix (by omega) (by decide)), nI_clamp (n := nd) (by omega), nI_clamp (n := i0 + i) (by omega), e, vl_kind hc, if_neg (show ¬ ((nI 2).toInt < 1 ∨ 7 < (nI 2).toInt) by decide), if_neg (show ¬ (nI 2).toInt = 1 by decide), if_pos (show (nI 2).toInt = 2 by decide)]
  by_cases z : k = 1
  · rw [if_pos (ke.mpr z), if_pos z]
  · rw [if_neg (fun y => z (ke.mp y)), if_neg z]
theorem hh3 (hok : t_oka l 2 (t_ln l) = true) (hL : t_ln l < 1000000000) (hi : i0 + i < t_ln l) (hn : nd < 3000) (e : s1.1 317 nd = nI 3) (hc : vl_c t n k (s1.2.1 l (i0 + i))) (k8 : k ≤ 8) : f_X11_holdsHere l (nI i0) (nI i) (nI nd) s1 = (if k = 2 then (if (lg_cmp (f_X8_told (s1.2.1 l (i0 + i)) s1) (s1.2.1 322 nd)) < (0 : Int32) then (some ((0 : Int32), s1)) else (if (0 : Int32) < (lg_cmp (f_X8_told (s1.2.1 l (i0 + i)) s1) (s1.2.1 323 nd)) then (some ((0 : Int32), s1)) else (some ((1 : Int32), s1)))) else (some ((0 : Int32), s1))) := by
  have ke : nI k = (2 : Int32) ↔ k = 2 := vr_ke k8 2 (by decide) 2 rfl
  unfold f_X11_holdsHere
  rw [if_pos hok, nI_add, if_pos (l2_ix hi (by omega)), if_pos (l2_ix (by omega) (by decide)), nI_clamp (n := nd) (by omega), nI_clamp (n := i0 + i) (by omega), e, vl_kind hc, if_neg (show ¬ ((nI 3).toInt < 1 ∨ 7 < (nI 3).toInt) by decide), if_neg (show ¬ (nI 3).toInt = 1 by decide), if_neg (show ¬ (nI 3).toInt = 2 by decide), if_pos (show (nI 3).toInt = 3 by decide)]
  by_cases z : k = 2
  · rw [if_pos (ke.mpr z), if_pos z]
  · rw [if_neg (fun y => z (ke.mp y)), if_neg z]
theorem hh4 (hok : t_oka l 2 (t_ln l) = true) (hL : t_ln l < 1000000000) (hi : i0 + i < t_ln l) (hn : nd < 3000) (e : s1.1 317 nd = nI 4) (hc : vl_c t n k (s1.2.1 l (i0 + i))) (k8 : k ≤ 8) : f_X11_holdsHere l (nI i0) (nI i) (nI nd) s1 = (if k = 3 then ((f_X11_memberOf (nI nd) (f_X8_wordOf (s1.2.1 l (i0 + i)) s1) s1).bind (fun r10 => if r10 < (0 : Int32) then (some ((0 : Int32), s1)) else (some ((1 : Int32), s1)))) else (some ((0 : Int32), s1))) := by
  have ke : nI k = (3 : Int32) ↔ k = 3 := vr_ke k8 3 (by decide) 3 rfl
  unfold f_X11_holdsHere
  rw [if_pos hok, nI_add, if_pos (l2_ix hi (by omega)), if_pos (l2_ix (by omega) (by decide)), nI_clamp (n := nd) (by omega), nI_clamp (n := i0 + i) (by omega), e, vl_kind hc, if_neg (show ¬ ((nI 4).toInt < 1 ∨ 7 < (nI 4).toInt) by decide), if_neg (show ¬ (nI 4).toInt = 1 by decide), if_neg (show ¬ (nI 4).toInt = 2 by decide), if_neg (show ¬ (nI 4).toInt = 3 by decide), if_pos (show (nI 4).toInt = 4 by decide)]
  by_cases z : k = 3
  · rw [if_pos (ke.mpr z), if_pos z]
  · rw [if_neg (fun y => z (ke.mp y)), if_neg z]
theorem hh5 (hok : t_oka l 2 (t_ln l) = true) (hL : t_ln l < 1000000000) (hi : i0 + i < t_ln l) (hn : nd < 3000) (e : s1.1 317 nd = nI 5) (hc : vl_c t n k (s1.2.1 l (i0 + i))) (k8 : k ≤ 8) : f_X11_holdsHere l (nI i0) (nI i) (nI nd) s1 = (if k = 6 then ((f_X11_holdsRecord l (nI i0) (nI i) (nI nd) s1).bind (fun r11 => if r11.1 = (0 : Int32) then (some ((0 : Int32), r11.2)) else (some ((1 : Int32), r11.2)))) else (some ((0 : Int32), s1))) := by
  have ke : nI k = (6 : Int32) ↔ k = 6 := vr_ke k8 6 (by decide) 6 rfl
  unfold f_X11_holdsHere
  rw [if_pos hok, nI_add, if_pos (l2_ix hi (by omega)), if_pos (l2_ix (by omega) (by decide)), nI_clamp (n := nd) (by omega), nI_clamp (n := i0 + i) (by omega), e, vl_kind hc, if_neg (show ¬ ((nI 5).toInt < 1 ∨ 7 < (nI 5).toInt) by decide), if_neg (show ¬ (nI 5).toInt = 1 by decide), if_neg (show ¬ (nI 5).toInt = 2 by decide), if_neg (show ¬ (nI 5).toInt = 3 by decide), if_neg (show ¬ (nI 5).toInt = 4 by decide), if_pos (show (nI 5).toInt = 5 by decide)]
  by_cases z : k = 6
  · rw [if_pos (ke.mpr z), if_pos z]
  · rw [if_neg (fun y => z (ke.mp y)), if_neg z]
theorem hh6 (hok : t_oka l 2 (t_ln l) = true) (hL : t_ln l < 1000000000) (hi : i0 + i < t_ln l) (hn : nd < 3000) (e : s1.1 317 nd = nI 6) (hc : vl_c t n k (s1.2.1 l (i0 + i))) (k8 : k ≤ 8) : f_X11_holdsHere l (nI i0) (nI i) (nI nd) s1 = (if k = 7 then ((f_X11_fieldOf (nI nd) (f_X8_wordOf (s1.2.1 l (i0 + i)) s1) s1).bind (fun r13 => k_X11_holdsHere_243 (nI i) r13 s1)) else (some ((0 : Int32), s1))) := by
  have ke : nI k = (7 : Int32) ↔ k = 7 := vr_ke k8 7 (by decide) 7 rfl
  unfold f_X11_holdsHere
  rw [if_pos hok, nI_add, if_pos (l2_ix hi (by omega)), if_pos (l2_ix (by omega) (by decide)), nI_clamp (n := nd) (by omega), nI_clamp (n := i0 + i) (by omega), e, vl_kind hc, if_neg (show ¬ ((nI 6).toInt < 1 ∨ 7 < (nI 6).toInt) by decide), if_neg (show ¬ (nI 6).toInt = 1 by decide), if_neg (show ¬ (nI 6).toInt = 2 by decide), if_neg (show ¬ (nI 6).toInt = 3 by decide), if_neg (show ¬ (nI 6).toInt = 4 by decide), if_neg (show ¬ (nI 6).toInt = 5 by decide), if_pos (show (nI 6).toInt = 6 by decide)]
  by_cases z : k = 7
  · rw [if_pos (ke.mpr z), if_pos z]
  · rw [if_neg (fun y => z (ke.mp y)), if_neg z]
    unfold k_X11_holdsHere_243 k_X11_holdsHere_265
    rw [if_pos (show (-1 : Int32) < 0 by decide), if_pos (show (-1 : Int32) < 0 by decide)]
theorem hh7 (hok : t_oka l 2 (t_ln l) = true) (hL : t_ln l < 1000000000) (hi : i0 + i < t_ln l) (hn : nd < 3000) (e : s1.1 317 nd = nI 7) (hc : vl_c t n k (s1.2.1 l (i0 + i))) (k8 : k ≤ 8) : f_X11_holdsHere l (nI i0) (nI i) (nI nd) s1 = (if k = 8 then ((f_X11_holdsList l (nI i0) (nI i) (nI nd) s1).bind (fun r14 => if r14.1 = (0 : Int32) then (some ((0 : Int32), r14.2)) else (some ((1 : Int32), r14.2)))) else (some ((0 : Int32), s1))) := by
  have ke : nI k = (8 : Int32) ↔ k = 8 := vr_ke k8 8 (by decide) 8 rfl
  unfold f_X11_holdsHere
  rw [if_pos hok, nI_add, if_pos (l2_ix hi (by omega)), if_pos (l2_ix (by omega) (by decide)), nI_clamp (n := nd) (by omega), nI_clamp (n := i0 + i) (by omega), e, vl_kind hc, if_neg (show ¬ ((nI 7).toInt < 1 ∨ 7 < (nI 7).toInt) by decide), if_neg (show ¬ (nI 7).toInt = 1 by decide), if_neg (show ¬ (nI 7).toInt = 2 by decide), if_neg (show ¬ (nI 7).toInt = 3 by decide), if_neg (show ¬ (nI 7).toInt = 4 by decide), if_neg (show ¬ (nI 7).toInt = 5 by decide), if_neg (show ¬ (nI 7).toInt = 6 by decide)]
  by_cases z : k = 8
  · rw [if_pos (ke.mpr z), if_pos z]
  · rw [if_neg (fun y => z (ke.mp y)), if_neg z]
theorem rh1 {rc : RT_X13_fitsAt} {kd : Nat} (hi : i + 1 < 626600) (hn : nd < 13000) (hm : f_X13_meant (nI kd) s = some (nI nd)) (e : s.1 955 nd = nI 1) (hc : s.2.1 1006 i = lN k) (k8 : k ≤ 8) : m_X13_fitsAt rc (nI i) (nI kd) s = (if k = 0 then ((f_X13_inRanges (nI nd) (s.2.1 1006 (i + 1)) s).bind (fun r6 => if r6 = (0 : Int32) then (some (0 : Int32)) else (some (1 : Int32)))) else (some (0 : Int32))) := by
  have ke : nI k = (0 : Int32) ↔ k = 0 := vr_ke k8 0 (by decide) 0 rfl
  have ix1 : t_ix (nI (i + 1)) 626600 = true := l2_ix (by omega) (by decide)
  unfold m_X13_fitsAt
  rw [hm, l2_bs, if_pos (l2_ix (by omega) (by decide)), if_pos (l2_ix hn (by decide)), nI_clamp (n := nd) (by omega), nI_clamp (n := i) (by omega), e, hc, lN_i, if_neg (show ¬ ((nI 1).toInt < 1 ∨ 7 < (nI 1).toInt) by decide), if_pos (show (nI 1).toInt = 1 by decide)]
  by_cases z : k = 0
  · rw [if_pos (ke.mpr z), if_pos z, nI_1, if_pos ix1, nI_clamp (n := i + 1) (by omega)]
  · rw [if_neg (fun y => z (ke.mp y)), if_neg z]
theorem rh2 {rc : RT_X13_fitsAt} {kd : Nat} (hi : i + 1 < 626600) (hn : nd < 13000) (hm : f_X13_meant (nI kd) s = some (nI nd)) (e : s.1 955 nd = nI 2) (hc : s.2.1 1006 i = lN k) (k8 : k ≤ 8) : m_X13_fitsAt rc (nI i) (nI kd) s = (if k = 1 then (some (1 : Int32)) else (some (0 : Int32))) := by
  have ke : nI k = (1 : Int32) ↔ k = 1 := vr_ke k8 1 (by decide) 1 rfl
  have ix1 : t_ix (nI (i + 1)) 626600 = true := l2_ix (by omega) (by decide)
  unfold m_X13_fitsAt
  rw [hm, l2_bs, if_pos (l2_ix (by omega) (by decide)), if_pos (l2_ix hn (by decide)), nI_clamp (n := nd) (by omega), nI_clamp (n := i) (by omega), e, hc, lN_i, if_neg (show ¬ ((nI 2).toInt < 1 ∨ 7 < (nI 2).toInt) by decide), if_neg (show ¬ (nI 2).toInt = 1 by decide), if_pos (show (nI 2).toInt = 2 by decide)]
  by_cases z : k = 1
  · rw [if_pos (ke.mpr z), if_pos z]
  · rw [if_neg (fun y => z (ke.mp y)), if_neg z]
theorem rh3 {rc : RT_X13_fitsAt} {kd : Nat} (hi : i + 1 < 626600) (hn : nd < 13000) (hm : f_X13_meant (nI kd) s = some (nI nd)) (e : s.1 955 nd = nI 3) (hc : s.2.1 1006 i = lN k) (k8 : k ≤ 8) : m_X13_fitsAt rc (nI i) (nI kd) s = (if k = 2 then (if (f_X13_in (s.2.1 1006 (i + 1)) (s.2.1 957 nd) (s.2.1 958 nd) s) = (0 : Int32) then (some (0 : Int32)) else (some (1 : Int32))) else (some (0 : Int32))) := by
  have ke : nI k = (2 : Int32) ↔ k = 2 := vr_ke k8 2 (by decide) 2 rfl
  have ix1 : t_ix (nI (i + 1)) 626600 = true := l2_ix (by omega) (by decide)
  unfold m_X13_fitsAt
  rw [hm, l2_bs, if_pos (l2_ix (by omega) (by decide)), if_pos (l2_ix hn (by decide)), nI_clamp (n := nd) (by omega), nI_clamp (n := i) (by omega), e, hc, lN_i, if_neg (show ¬ ((nI 3).toInt < 1 ∨ 7 < (nI 3).toInt) by decide), if_neg (show ¬ (nI 3).toInt = 1 by decide), if_neg (show ¬ (nI 3).toInt = 2 by decide), if_pos (show (nI 3).toInt = 3 by decide)]
  by_cases z : k = 2
  · rw [if_pos (ke.mpr z), if_pos z, nI_1, if_pos ix1, nI_clamp (n := i + 1) (by omega)]
  · rw [if_neg (fun y => z (ke.mp y)), if_neg z]
theorem rh4 {rc : RT_X13_fitsAt} {kd : Nat} (hi : i + 1 < 626600) (hn : nd < 13000) (hm : f_X13_meant (nI kd) s = some (nI nd)) (e : s.1 955 nd = nI 4) (hc : s.2.1 1006 i = lN k) (k8 : k ≤ 8) : m_X13_fitsAt rc (nI i) (nI kd) s = (if k = 3 then ((f_X13_hasPart (nI nd) (s.2.1 1006 (i + 1)) s).bind (fun r10 => if r10 = (0 : Int32) then (some (0 : Int32)) else (some (1 : Int32)))) else (some (0 : Int32))) := by
  have ke : nI k = (3 : Int32) ↔ k = 3 := vr_ke k8 3 (by decide) 3 rfl
  have ix1 : t_ix (nI (i + 1)) 626600 = true := l2_ix (by omega) (by decide)
  unfold m_X13_fitsAt
  rw [hm, l2_bs, if_pos (l2_ix (by omega) (by decide)), if_pos (l2_ix hn (by decide)), nI_clamp (n := nd) (by omega), nI_clamp (n := i) (by omega), e, hc, lN_i, if_neg (show ¬ ((nI 4).toInt < 1 ∨ 7 < (nI 4).toInt) by decide), if_neg (show ¬ (nI 4).toInt = 1 by decide), if_neg (show ¬ (nI 4).toInt = 2 by decide), if_neg (show ¬ (nI 4).toInt = 3 by decide), if_pos (show (nI 4).toInt = 4 by decide)]
  by_cases z : k = 3
  · rw [if_pos (ke.mpr z), if_pos z, nI_1, if_pos ix1, nI_clamp (n := i + 1) (by omega)]
  · rw [if_neg (fun y => z (ke.mp y)), if_neg z]
theorem rh5 {rc : RT_X13_fitsAt} {kd : Nat} (hi : i + 1 < 626600) (hn : nd < 13000) (hm : f_X13_meant (nI kd) s = some (nI nd)) (e : s.1 955 nd = nI 5) (hc : s.2.1 1006 i = lN k) (k8 : k ≤ 8) : m_X13_fitsAt rc (nI i) (nI kd) s = (if k = 6 then ((rc.2 (nI i) (nI nd) s).bind (fun r11 => if r11 = (0 : Int32) then (some (0 : Int32)) else (some (1 : Int32)))) else (some (0 : Int32))) := by
  have ke : nI k = (6 : Int32) ↔ k = 6 := vr_ke k8 6 (by decide) 6 rfl
  have ix1 : t_ix (nI (i + 1)) 626600 = true := l2_ix (by omega) (by decide)
  unfold m_X13_fitsAt
  rw [hm, l2_bs, if_pos (l2_ix (by omega) (by decide)), if_pos (l2_ix hn (by decide)), nI_clamp (n := nd) (by omega), nI_clamp (n := i) (by omega), e, hc, lN_i, if_neg (show ¬ ((nI 5).toInt < 1 ∨ 7 < (nI 5).toInt) by decide), if_neg (show ¬ (nI 5).toInt = 1 by decide), if_neg (show ¬ (nI 5).toInt = 2 by decide), if_neg (show ¬ (nI 5).toInt = 3 by decide), if_neg (show ¬ (nI 5).toInt = 4 by decide), if_pos (show (nI 5).toInt = 5 by decide)]
  by_cases z : k = 6
  · rw [if_pos (ke.mpr z), if_pos z]
  · rw [if_neg (fun y => z (ke.mp y)), if_neg z]
theorem rh6 {rc : RT_X13_fitsAt} {kd : Nat} (hi : i + 1 < 626600) (hn : nd < 13000) (hm : f_X13_meant (nI kd) s = some (nI nd)) (e : s.1 955 nd = nI 6) (hc : s.2.1 1006 i = lN k) (k8 : k ≤ 8) : m_X13_fitsAt rc (nI i) (nI kd) s = (if k = 7 then ((f_X13_fieldNode (nI nd) (s.2.1 1006 (i + 1)) s).bind (fun r13 => k_X13_fitsAt_189 rc (nI i) r13 s)) else (some (0 : Int32))) := by
  have ke : nI k = (7 : Int32) ↔ k = 7 := vr_ke k8 7 (by decide) 7 rfl
  have ix1 : t_ix (nI (i + 1)) 626600 = true := l2_ix (by omega) (by decide)
  unfold m_X13_fitsAt
  rw [hm, l2_bs, if_pos (l2_ix (by omega) (by decide)), if_pos (l2_ix hn (by decide)), nI_clamp (n := nd) (by omega), nI_clamp (n := i) (by omega), e, hc, lN_i, if_neg (show ¬ ((nI 6).toInt < 1 ∨ 7 < (nI 6).toInt) by decide), if_neg (show ¬ (nI 6).toInt = 1 by decide), if_neg (show ¬ (nI 6).toInt = 2 by decide), if_neg (show ¬ (nI 6).toInt = 3 by decide), if_neg (show ¬ (nI 6).toInt = 4 by decide), if_neg (show ¬ (nI 6).toInt = 5 by decide), if_pos (show (nI 6).toInt = 6 by decide)]
  by_cases z : k = 7
  · rw [if_pos (ke.mpr z), if_pos z, nI_1, if_pos ix1, nI_clamp (n := i + 1) (by omega)]
  · rw [if_neg (fun y => z (ke.mp y)), if_neg z]
    unfold k_X13_fitsAt_189
    rw [if_pos (show (-1 : Int32) < 0 by decide)]
theorem rh7 {rc : RT_X13_fitsAt} {kd : Nat} (hi : i + 1 < 626600) (hn : nd < 13000) (hm : f_X13_meant (nI kd) s = some (nI nd)) (e : s.1 955 nd = nI 7) (hc : s.2.1 1006 i = lN k) (k8 : k ≤ 8) : m_X13_fitsAt rc (nI i) (nI kd) s = (if k = 8 then (if (f_X13_in (s.2.1 1006 (i + 1)) (s.2.1 957 nd) (s.2.1 958 nd) s) = (0 : Int32) then (some (0 : Int32)) else (k_X13_fitsAt_255 rc (nI i) (nI nd) 1 s)) else (some (0 : Int32))) := by
  have ke : nI k = (8 : Int32) ↔ k = 8 := vr_ke k8 8 (by decide) 8 rfl
  have ix1 : t_ix (nI (i + 1)) 626600 = true := l2_ix (by omega) (by decide)
  unfold m_X13_fitsAt
  rw [hm, l2_bs, if_pos (l2_ix (by omega) (by decide)), if_pos (l2_ix hn (by decide)), nI_clamp (n := nd) (by omega), nI_clamp (n := i) (by omega), e, hc, lN_i, if_neg (show ¬ ((nI 7).toInt < 1 ∨ 7 < (nI 7).toInt) by decide), if_neg (show ¬ (nI 7).toInt = 1 by decide), if_neg (show ¬ (nI 7).toInt = 2 by decide), if_neg (show ¬ (nI 7).toInt = 3 by decide), if_neg (show ¬ (nI 7).toInt = 4 by decide), if_neg (show ¬ (nI 7).toInt = 5 by decide), if_neg (show ¬ (nI 7).toInt = 6 by decide)]
  by_cases z : k = 8
  · rw [if_pos (ke.mpr z), if_pos z, nI_1, if_pos ix1, nI_clamp (n := i + 1) (by omega)]
    unfold k_X13_fitsAt_254 k_X13_fitsAt_255
    by_cases y : (f_X13_in (s.2.1 1006 (i + 1)) (s.2.1 957 nd) (s.2.1 958 nd) s) = (0 : Int32)
    · rw [if_pos y, if_pos y]
      refine l2_tnR (u := 0) l2_tn.nil (by omega) ?_
      show k_X13_fitsAt_260 rc (nI i) (nI nd) 0 0 s = _
      unfold k_X13_fitsAt_260
      rw [if_pos rfl, if_pos (Or.inl rfl)]; rfl
    · rw [if_neg y, if_neg y]
  · rw [if_neg (fun y => z (ke.mp y)), if_neg z]
    unfold k_X13_fitsAt_254 k_X13_fitsAt_255
    refine l2_tnR (u := 0) l2_tn.nil (by omega) ?_
    show k_X13_fitsAt_260 rc (nI i) (nI nd) 0 0 s = _
    unfold k_X13_fitsAt_260
    rw [if_pos rfl, if_pos (Or.inl rfl)]; rfl
end
