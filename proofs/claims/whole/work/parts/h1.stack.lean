/-! Level 2: the class's stack of VALUES: what one operation on it does. -/
/-- what may be written where depth is D and the next free cell a -/
def cF (a D b j : Nat) : Prop := (b = 334 ∧ j = 7) ∨ (b = 338 ∧ a ≤ j) ∨ (b = 339 ∧ D < j)
/-- a row copied: what is where afterwards -/
theorem cp_at {s : t_S} {a b x y m : Nat} (hx : x < 2 ^ 31) (hy : y < 2 ^ 31) (hm : m < 2 ^ 31) : (t_cpJ s a b (nI x) (nI y) (nI m)).1 = s.1 ∧ (∀ d, d < m → (t_cpJ s a b (nI x) (nI y) (nI m)).2.1 b (y + d) = s.2.1 a (x + d)) ∧ l2_fr (fun q j => q = b ∧ y ≤ j ∧ j < y + m) s (t_cpJ s a b (nI x) (nI y) (nI m)) := by
  have p2 : (t_cpJ s a b (nI x) (nI y) (nI m)).2.1 b = va_cpy (s.2.1 a) (s.2.1 b) x y m := by
    have := (vl_cp (s := s) (a := a) (b := b) (x := nI x) (y := nI y) (m := nI m)).2.1
    rw [nI_clamp hx, nI_clamp hy, nI_clamp hm] at this
    exact this
  refine ⟨rfl, fun d hd => ?_, fun q j hq => ⟨rfl, ?_, rfl⟩⟩
  · rw [p2, vl_cpy, if_pos ⟨by omega, by omega⟩, show y + d - y = d by omega]
  · by_cases e : q = b
    · subst e
      rw [p2, vl_cpy, if_neg (fun z => hq ⟨rfl, z.1, z.2⟩)]
    · exact ((vl_cp (s := s) (a := a) (b := b) (x := nI x) (y := nI y) (m := nI m)).2.2 q j e).2.1
theorem cp_ok {x y m n0 n1 : Nat} (hx : x < 2 ^ 31) (hy : y < 2 ^ 31) (hm : m < 2 ^ 31) (h0 : x + m ≤ n0) (h1 : y + m ≤ n1) : t_cpok (nI x) (nI y) (nI m) n0 n1 = true := by
  unfold t_cpok
  rw [nI_toInt hx, nI_toInt hy, nI_toInt hm]
  exact decide_eq_true ⟨by omega, by omega, by omega, by omega, by omega⟩
section
variable {c : t_S} {D a n k i arr : Nat} {t : Int} {w : Int64}
theorem cs_room {x : Nat} (h7 : c.1 334 7 = nI D) (hA : c.1 339 D = nI a) (hD : D < 3200) (ha : a + x ≤ 48000) : f_X0_hasRoom (nI x) c = some (1, c) := by
  unfold f_X0_hasRoom
  rw [h7, if_neg (show ¬ (3200 : Int32) ≤ nI D from nI_ge (b := 3200) hD (by decide)), if_pos (l2_ix (by omega) (by decide)), nI_clamp (n := D) (by omega), hA, nI_add, if_neg (show ¬ (48000 : Int32) < nI (a + x) from nI_nlt (a := 48000) ha (by decide))]
theorem cs_pushCell (h7 : c.1 334 7 = nI D) (hA : c.1 339 D = nI a) (hD : D < 3200) (ha : a + 1 ≤ 48000) : t_hk (f_X0_pushCell w c) (fun c' => c'.1 334 7 = nI (D + 1) ∧ c'.1 339 (D + 1) = nI (a + 1) ∧ c'.2.1 338 a = w ∧ l2_fr (fun b j => (b = 334 ∧ j = 7) ∨ (b = 338 ∧ j = a) ∨ (b = 339 ∧ j = D + 1)) c c') := by
  unfold f_X0_pushCell
  rw [show f_X0_hasRoom (1 : Int32) c = some (1, c) from cs_room (x := 1) h7 hA hD ha, l2_bs, if_neg (show ¬ (1 : Int32) = 0 by decide)]
  refine l2_ck (by rw [h7]; exact l2_ix (by omega) (by decide)) (l2_ck (by rw [h7, nI_clamp (n := D) (by omega), hA]; exact l2_ix (by omega) (by decide)) (l2_lt ?_))
  rw [h7, nI_clamp (n := D) (by omega), hA, nI_clamp (n := a) (by omega)]
  have f1 : l2_fr (fun b j => b = 338 ∧ j = a) c (t_setJ c 338 a w) := l2_fr.setJ ⟨rfl, rfl⟩
  have v1 : (t_setJ c 338 a w).2.1 338 a = w := by rw [l2_jJ, l2_upif, if_pos rfl]
  have e1 : (t_setJ c 338 a w).1 = c.1 := l2_jI
  generalize t_setJ c 338 a w = c1 at *
  rw [e1, h7, nI_1 D, nI_clamp (n := D) (by omega), hA, nI_1 a, nI_clamp (n := D + 1) (by omega)]
  refine l2_ck (l2_ix (by omega) (by decide)) (l2_ck (l2_ix (by omega) (by decide)) (l2_lt (l2_lt (l2_sm ?_))))
  refine ⟨?_, ?_, v1, ?_⟩
  · show (t_setI (t_setI c1 339 (D + 1) (nI (a + 1))) 334 7 _).1 334 7 = _
    rw [l2_g, if_pos rfl, l2_sO (by decide), e1, h7, nI_1]
  · rw [l2_sO (by decide), l2_g, if_pos rfl]
  · exact (f1.mono (fun b j y => Or.inr (Or.inl y))).trans ((l2_fr.set (Or.inr (Or.inr ⟨rfl, rfl⟩))).trans (l2_fr.set (Or.inl ⟨rfl, rfl⟩)))
theorem cs_pushFrom (h7 : c.1 334 7 = nI D) (hA : c.1 339 D = nI a) (hD : D < 3200) (ha : a + n ≤ 48000) (hok : t_oka arr 2 (t_ln arr) = true) (hL : t_ln arr < 1000000000) (hi : i + n ≤ t_ln arr) (hn : 0 < n) (hc : vl_c t n k (c.2.1 arr i)) : t_hk (f_X0_pushFrom arr (nI i) c) (fun c' => c'.1 334 7 = nI (D + 1) ∧ c'.1 339 (D + 1) = nI (a + n) ∧ (∀ d, d < n → c'.2.1 338 (a + d) = c.2.1 arr (i + d)) ∧ l2_fr (fun b j => (b = 334 ∧ j = 7) ∨ (b = 338 ∧ a ≤ j ∧ j < a + n) ∨ (b = 339 ∧ j = D + 1)) c c') := by
  unfold f_X0_pushFrom
  have n255 := hc.2.1
  refine l2_ck hok (l2_ck (l2_ix (by omega) (by omega)) ?_)
  rw [nI_clamp (n := i) (by omega), vl_size hc, cs_room h7 hA hD ha, l2_bs, if_neg (show ¬ (1 : Int32) = 0 by decide)]
  refine l2_ck (by rw [h7]; exact l2_ix (by omega) (by decide)) ?_
  rw [h7, nI_clamp (n := D) (by omega), hA]
  refine l2_ck (cp_ok (by omega) (by omega) (by omega) hi ha) (l2_lt ?_)
  obtain ⟨p1, p2, p3⟩ := cp_at (s := c) (a := arr) (b := 338) (x := i) (y := a) (m := n) (by omega) (by omega) (by omega)
  generalize t_cpJ c arr 338 (nI i) (nI a) (nI n) = c1 at *
  rw [p1, h7, nI_1, nI_clamp (n := D) (by omega), hA, nI_add, nI_clamp (n := D + 1) (by omega)]
  refine l2_ck (l2_ix (by omega) (by decide)) (l2_ck (l2_ix (by omega) (by decide)) (l2_lt (l2_lt (l2_sm ?_))))
  refine ⟨?_, ?_, fun d hd => ?_, ?_⟩
  · show (t_setI (t_setI c1 339 (D + 1) (nI (a + n))) 334 7 _).1 334 7 = _
    rw [l2_g, if_pos rfl, l2_sO (by decide), p1, h7, nI_1]
  · rw [l2_sO (by decide), l2_g, if_pos rfl]
  · exact p2 d hd
  · exact (p3.mono (fun b j y => Or.inr (Or.inl y))).trans ((l2_fr.set (Or.inr (Or.inr ⟨rfl, rfl⟩))).trans (l2_fr.set (Or.inl ⟨rfl, rfl⟩)))
/-- the top VALUE becomes one cell -/
theorem cs_replace (h7 : c.1 334 7 = nI (D + 1)) (hA : c.1 339 D = nI a) (hD : D < 3200) (ha : a + 1 ≤ 48000) : t_hk (f_X0_replaceTop w c) (fun c' => c'.1 334 7 = nI (D + 1) ∧ c'.1 339 (D + 1) = nI (a + 1) ∧ c'.2.1 338 a = w ∧ l2_fr (fun b j => (b = 338 ∧ j = a) ∨ (b = 339 ∧ j = D + 1)) c c') := by
  unfold f_X0_replaceTop
  rw [h7, sy_m1n (by omega), show D + 1 - 1 = D by omega]
  refine l2_ck (l2_ix (by omega) (by decide)) (l2_ck (by rw [nI_clamp (n := D) (by omega), hA]; exact l2_ix (by omega) (by decide)) (l2_lt ?_))
  rw [nI_clamp (n := D) (by omega), hA, nI_clamp (n := a) (by omega)]
  have f1 : l2_fr (fun b j => b = 338 ∧ j = a) c (t_setJ c 338 a w) := l2_fr.setJ ⟨rfl, rfl⟩
  have v1 : (t_setJ c 338 a w).2.1 338 a = w := by rw [l2_jJ, l2_upif, if_pos rfl]
  have e1 : (t_setJ c 338 a w).1 = c.1 := l2_jI
  generalize t_setJ c 338 a w = c1 at *
  rw [e1, h7, sy_m1n (by omega), show D + 1 - 1 = D by omega]
  refine l2_ck (l2_ix (by omega) (by decide)) (l2_ck (l2_ix (by omega) (by decide)) (l2_lt (l2_sm ?_)))
  rw [nI_clamp (n := D) (by omega), hA, nI_1, nI_clamp (n := D + 1) (by omega)]
  refine ⟨?_, ?_, v1, ?_⟩
  · rw [l2_sO (by decide), e1]; exact h7
  · rw [l2_g, if_pos rfl]
  · exact (f1.mono (fun b j y => Or.inl y)).trans (l2_fr.set (Or.inr ⟨rfl, rfl⟩))
/-- .. a part of itself -/
theorem cs_become (h7 : c.1 334 7 = nI (D + 1)) (hA : c.1 339 D = nI a) (hD : D < 3200) (hn : 0 < n) (ha : a + n ≤ 48000) (hi : i + n ≤ 48000) (hc : vl_c t n k (c.2.1 338 i)) : t_hk (f_X0_topBecomes (nI i) c) (fun c' => c'.1 334 7 = nI (D + 1) ∧ c'.1 339 (D + 1) = nI (a + n) ∧ (∀ d, d < n → c'.2.1 338 (a + d) = c.2.1 338 (i + d)) ∧ l2_fr (fun b j => (b = 338 ∧ a ≤ j ∧ j < a + n) ∨ (b = 339 ∧ j = D + 1)) c c') := by
  unfold f_X0_topBecomes k_X0_topBecomes_33 k_X0_topBecomes_64
  rw [h7, sy_m1n (by omega), show D + 1 - 1 = D by omega, nI_clamp (n := D) (by omega), hA]
  refine l2_ck (l2_ix (by omega) (by decide)) (l2_ck (nI_pos' (by omega)) (l2_ck (l2_ix (by omega) (by decide)) (l2_ck (nI_pos' (by omega)) ?_)))
  rw [nI_clamp (n := i) (by omega), vl_sz hc]
  refine l2_ck (cp_ok (by omega) (by omega) (by omega) hi ha) (l2_lt ?_)
  obtain ⟨p1, p2, p3⟩ := cp_at (s := c) (a := 338) (b := 338) (x := i) (y := a) (m := n) (by omega) (by omega) (by omega)
  generalize t_cpJ c 338 338 (nI i) (nI a) (nI n) = c1 at *
  rw [p1, h7, nI_clamp (n := D + 1) (by omega), nI_add]
  refine l2_ck (l2_ix (by omega) (by decide)) (l2_lt (l2_sm ?_))
  refine ⟨?_, ?_, fun d hd => p2 d hd, (p3.mono (fun b j y => Or.inl y)).trans (l2_fr.set (Or.inr ⟨rfl, rfl⟩))⟩
  · rw [l2_sO (by decide), p1]; exact h7
  · rw [l2_g, if_pos rfl]
theorem om_cell : vl_c 0 1 4 (20 : Int64) := ⟨by decide, by decide, by decide⟩
/-- .. OMIT -/
theorem cs_omit (h7 : c.1 334 7 = nI (D + 1)) (hA : c.1 339 D = nI a) (hD : D < 3200) (ha : a + 1 ≤ 48000) : t_hk (f_X0_topBecomes (-1) c) (fun c' => c'.1 334 7 = nI (D + 1) ∧ c'.1 339 (D + 1) = nI (a + 1) ∧ c'.2.1 338 a = 20 ∧ l2_fr (fun b j => (b = 338 ∧ j = a) ∨ (b = 339 ∧ j = D + 1)) c c') := by
  unfold f_X0_topBecomes k_X0_topBecomes_33 k_X0_topBecomes_64
  rw [h7, sy_m1n (by omega), show D + 1 - 1 = D by omega, nI_clamp (n := D) (by omega), hA]
  refine l2_ck (l2_ix (by omega) (by decide)) (l2_no (by decide) (l2_no (by decide) (l2_ck (l2_ix (by omega) (by decide)) (l2_lt ?_))))
  rw [nI_clamp (n := a) (by omega)]
  have f1 : l2_fr (fun b j => b = 338 ∧ j = a) c (t_setJ c 338 a 20) := l2_fr.setJ ⟨rfl, rfl⟩
  have v1 : (t_setJ c 338 a 20).2.1 338 a = 20 := by rw [l2_jJ, l2_upif, if_pos rfl]
  have e1 : (t_setJ c 338 a 20).1 = c.1 := l2_jI
  generalize t_setJ c 338 a 20 = c1 at *
  rw [e1, h7, nI_clamp (n := D + 1) (by omega), nI_1 a]
  refine l2_ck (l2_ix (by omega) (by decide)) (l2_lt (l2_sm ⟨?_, ?_, v1, (f1.mono (fun b j y => Or.inl y)).trans (l2_fr.set (Or.inr ⟨rfl, rfl⟩))⟩))
  · rw [l2_sO (by decide), e1]; exact h7
  · rw [l2_g, if_pos rfl]

end
