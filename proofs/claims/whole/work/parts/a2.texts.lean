/-! Level 2: a TEXT taken into the class's pool and among the reference's signs. -/
theorem tc_cell {v : Nat} (hv : v ≤ 40) (s : t_S) : ∃ w, f_X8_textCell (nI v) s = some w ∧ vl_c v (1 + (v + 7) / 8) 2 w := by
  refine ⟨_, rfl, ?_⟩
  rw [nI_l (n := v) (by omega), show (nI v + (7 : Int32)) / (8 : Int32) = nI ((v + 7) / 8) by rw [show nI v + (7 : Int32) = nI (v + 7) from nI_add v 7]; exact pk_div (a := v + 7) (d := 8) (by omega) (by decide) (by decide), show (1 : Int32) + nI ((v + 7) / 8) = nI (1 + (v + 7) / 8) from nI_add 1 _, nI_l (n := 1 + (v + 7) / 8) (by omega), show ((12 : Int32).toInt64 &&& 63) = ((nI 12).toInt64 &&& 63) from rfl, show ((4 : Int32).toInt64 &&& 63) = ((nI 4).toInt64 &&& 63) from rfl, wb_shl v (by decide), wb_shl (1 + (v + 7) / 8) (by decide), wb_or (by omega) (by omega), show (2 : Int64) = lN 2 from rfl]
  have e1 : v * 2 ^ 12 ||| (1 + (v + 7) / 8) * 2 ^ 4 = v * 4096 + (1 + (v + 7) / 8) * 16 := by
    rw [Nat.mul_comm v, ← Nat.two_pow_add_eq_or_of_lt (by omega)]
  have e2 : (v * 4096 + (1 + (v + 7) / 8) * 16) ||| 2 = v * 4096 + (1 + (v + 7) / 8) * 16 + 2 := by
    have := Nat.two_pow_add_eq_or_of_lt (i := 4) (b := 2) (by decide) (v * 256 + (1 + (v + 7) / 8))
    rw [show v * 4096 + (1 + (v + 7) / 8) * 16 = 2 ^ 4 * (v * 256 + (1 + (v + 7) / 8)) by omega]
    exact this.symm
  rw [e1, wb_or (by omega) (by omega), e2]
  refine ⟨?_, by omega, by decide⟩
  rw [pk_lT (by omega)]
  omega
theorem pl_text {c : t_S} {p v a : Nat} {B : Nat → Nat} (h4 : c.1 334 4 = nI p) (hp : p + 10 < 26000) (hv : v ≤ 40) (h9 : c.1 1 9 = nI a) (h10 : c.2.1 1 10 = lN v) (ha : a + 1 + v < 12000) (hB : ∀ j, j < v → 32 ≤ B j ∧ B j ≤ 126 ∧ c.1 2 (a + 1 + j) = tx_c (B j)) : t_hk (f_X6_poolText c) (fun y => y.1 = nI p ∧ l2_fr (fun b j => (b = 334 ∧ j = 4) ∨ (b = 337 ∧ p ≤ j)) c y.2 ∧ y.2.1 334 4 = nI (p + 1 + (v + 7) / 8) ∧ vl_c v (1 + (v + 7) / 8) 2 (y.2.2.1 337 p) ∧ ∀ q, q < (v + 7) / 8 → y.2.2.1 337 (p + 1 + q) = lN (16 * x8 (x8_S B v q) + 10)) := by
  obtain ⟨w, e, hw⟩ := tc_cell hv c
  have al : t_hk (f_X0_poolText (nI v) c) (fun y => y.1 = nI p ∧ l2_fr (fun b j => (b = 334 ∧ j = 4) ∨ (b = 337 ∧ j = p)) c y.2 ∧ y.2.1 334 4 = nI (p + 1 + (v + 7) / 8) ∧ y.2.2.1 337 p = w) := by
    unfold f_X0_poolText
    rw [h4, show (nI v + (7 : Int32)) / (8 : Int32) = nI ((v + 7) / 8) by rw [show nI v + (7 : Int32) = nI (v + 7) from nI_add v 7]; exact pk_div (a := v + 7) (d := 8) (by omega) (by decide) (by decide), show (1 : Int32) + nI ((v + 7) / 8) = nI (1 + (v + 7) / 8) from nI_add 1 _, nI_add]
    refine l2_ck (show nI (p + (1 + (v + 7) / 8)) ≤ (26000 : Int32) from nI_le (b := 26000) (by omega) (by decide)) (l2_eq e (l2_ck (l2_ix (by omega) (by decide)) (l2_lt (l2_lt ?_))))
    rw [nI_clamp (by omega)]
    refine l2_sm ⟨rfl, (l2_fr.setJ (Or.inr ⟨rfl, rfl⟩)).trans (l2_fr.set (Or.inl ⟨rfl, rfl⟩)), ?_, ?_⟩
    · simp only [l2_gI, l2_gJI, reduceIte]
      rw [h4, nI_add, Nat.add_assoc]
    · simp only [l2_gIJ, l2_gJ, reduceIte]
  unfold f_X6_poolText
  rw [h10, lN_i]
  refine l2_bd _ al (fun y hy => ?_)
  obtain ⟨y1, y2, y3, y4⟩ := hy
  rw [y1]
  refine l2_lp (fun k z => ∃ i c1, i + k = v ∧ z = (nI p, nI i, c1) ∧ l2_fr (fun b j => b = 337 ∧ p < j) y.2 c1 ∧ ∀ q, q < (i + 7) / 8 → c1.2.1 337 (p + 1 + q) = lN (16 * x8 (x8_S B i q) + 10)) ?_ (m := v) (Nat.lt_trans (show v < 1000000000 by omega) l2_N) ⟨0, y.2, by omega, rfl, l2_fr.rf, fun q hq => by omega⟩
  rintro k z ⟨i, c1, hi, rfl, f1, g1⟩
  show t_hk (k_X6_poolText_18 (nI p) (nI i) c1) _
  unfold k_X6_poolText_18
  have t9 : c1.1 1 9 = nI a := by rw [(f1 1 9 (by omega)).1, (y2 1 9 (by omega)).1]; exact h9
  have t10 : c1.2.1 1 10 = lN v := by rw [(f1 1 10 (by omega)).2.1, (y2 1 10 (by omega)).2.1]; exact h10
  rw [t10, nI_l (n := i) (by omega)]
  have tv : (lN v).toInt = v := pk_lT (by omega)
  have ti : (lN i).toInt = i := pk_lT (by omega)
  by_cases z : i = v
  · subst z
    refine l2_ck (Int32.not_lt.mp (fun h => by rw [t_cmp_lt] at h; omega)) (l2_mp (l2_sm ⟨rfl, (y2.mono (fun b j q => by omega)).trans (f1.mono (fun b j q => Or.inr ⟨q.1, by omega⟩)), by rw [(f1 334 4 (by omega)).1]; exact y3, by rw [(f1 337 p (by omega)).2.1, y4]; exact hw, g1⟩))
  · have lt : lg_cmp (lN i) (lN v) < 0 := by rw [t_cmp_lt, ti, tv]; omega
    refine l2_no (Int32.not_le.mpr lt) ?_
    obtain ⟨b1, b2, b3⟩ := hB i (by omega)
    have sg : f_X2_signOfText (nI i) c1 = some (nI (B i)) := by
      unfold f_X2_signOfText
      rw [t9, nI_1, nI_add, if_neg (nI_pos (by omega)), if_neg (show ¬ (12000 : Int32) ≤ nI (a + 1 + i) from nI_ge (b := 12000) (by omega) (by decide)), if_pos (l2_ix (by omega) (by decide)), nI_clamp (by omega), (f1 2 _ (by omega)).1, (y2 2 _ (by omega)).1, b3, tx_127 _ (by omega) b1]
    refine l2_eq sg (l2_bd _ (px_put (B := B) hp (by omega) (fun j hj => by have := hB j (by omega); omega) rfl (fun n0 => g1 _ (by omega))) (fun c2 hc2 => ?_))
    obtain ⟨f2, g2⟩ := hc2
    rw [nI_1]
    refine l2_sm ⟨k - 1, by omega, i + 1, c2, by omega, rfl, f1.trans (f2.mono (fun b j q => ⟨q.1, by omega⟩)), fun q hq => ?_⟩
    by_cases e : q = i / 8
    · subst e
      exact g2
    · rw [(f2 337 _ (fun y => by omega)).2.1, g1 q (by omega)]
      have ex : ∀ e, e < 8 → x8_S B (i + 1) q e = x8_S B i q e := fun e he => by
        unfold x8_S
        by_cases l : 8 * q + e < i
        · rw [if_pos (by omega), if_pos l]
        · rw [if_neg (by omega), if_neg l]
      have ee : x8 (x8_S B (i + 1) q) = x8 (x8_S B i q) := by
        unfold x8
        rw [ex 0 (by decide), ex 1 (by decide), ex 2 (by decide), ex 3 (by decide), ex 4 (by decide), ex 5 (by decide), ex 6 (by decide), ex 7 (by decide)]
      rw [ee]
theorem kt_text {r : t_S} {s v a n : Nat} {B : Nat → Nat} (h36 : r.1 950 36 = nI s) (hs : s + v ≤ 24300) (hn : n < 13000) (hv : v ≤ 40) (h6 : r.1 950 6 = nI a) (h7 : r.1 950 7 = nI v) (h0 : r.1 950 2 = 0) (ha : a + 1 + v < 12000) (hB : ∀ j, j < v → r.1 951 (a + 1 + j) = nI (B j)) : t_hk (f_X13_keepText (nI n) r) (fun r' => l2_fr (fun b j => ((b = 957 ∨ b = 958) ∧ j = n) ∨ (b = 963 ∧ s ≤ j) ∨ (b = 950 ∧ j = 36)) r r' ∧ r'.1 950 36 = nI (s + v) ∧ r'.2.1 957 n = lN s ∧ r'.2.1 958 n = lN v ∧ ∀ j, j < v → r'.1 963 (s + j) = nI (B j)) := by
  unfold f_X13_keepText
  refine l2_ck (l2_ix hn (by decide)) ?_
  rw [nI_clamp (by omega)]
  refine l2_lt (l2_lt ?_)
  have f1 : l2_fr (fun b j => (b = 957 ∨ b = 958) ∧ j = n) r (t_setJ (t_setJ r 957 n (r.1 950 36).toInt64) 958 n ((t_setJ r 957 n (r.1 950 36).toInt64).1 950 7).toInt64) := (l2_fr.setJ ⟨Or.inl rfl, rfl⟩).trans (l2_fr.setJ ⟨Or.inr rfl, rfl⟩)
  have e7 : (t_setJ (t_setJ r 957 n (r.1 950 36).toInt64) 958 n ((t_setJ r 957 n (r.1 950 36).toInt64).1 950 7).toInt64).2.1 957 n = lN s := by
    simp only [l2_gJ, Nat.reduceEqDiff, reduceIte]
    rw [h36, nI_l (by omega)]
  have e8 : (t_setJ (t_setJ r 957 n (r.1 950 36).toInt64) 958 n ((t_setJ r 957 n (r.1 950 36).toInt64).1 950 7).toInt64).2.1 958 n = lN v := by
    simp only [l2_gJ, l2_gJI, reduceIte]
    rw [h7, nI_l (by omega)]
  generalize t_setJ (t_setJ r 957 n (r.1 950 36).toInt64) 958 n ((t_setJ r 957 n (r.1 950 36).toInt64).1 950 7).toInt64 = r1 at *
  refine l2_lp (fun k z => ∃ i r2, i + k = v ∧ z = (nI i, r2) ∧ l2_fr (fun b j => (b = 963 ∧ s ≤ j) ∨ (b = 950 ∧ j = 36)) r1 r2 ∧ r2.1 950 36 = nI (s + i) ∧ ∀ j, j < i → r2.1 963 (s + j) = nI (B j)) ?_ (m := v) (Nat.lt_trans (show v < 1000000000 by omega) l2_N) ⟨0, r1, by omega, rfl, l2_fr.rf, by rw [(f1 950 36 (by omega)).1]; exact h36, fun j hj => by omega⟩
  rintro k z ⟨i, r2, hi, rfl, f2, g1, g2⟩
  show t_hk (k_X13_keepText_24 (nI i) r2) _
  unfold k_X13_keepText_24
  have t7 : r2.1 950 7 = nI v := by rw [(f2 950 7 (by omega)).1, (f1 950 7 (by omega)).1]; exact h7
  have t2 : r2.1 950 2 = 0 := by rw [(f2 950 2 (by omega)).1, (f1 950 2 (by omega)).1]; exact h0
  have t6 : r2.1 950 6 = nI a := by rw [(f2 950 6 (by omega)).1, (f1 950 6 (by omega)).1]; exact h6
  rw [t7]
  by_cases z : i = v
  · subst z
    refine l2_ck (nI_le (Nat.le_refl _) (by omega)) (l2_mp (l2_sm ⟨(f1.mono (fun b j q => Or.inl q)).trans (f2.mono (fun b j q => by omega)), g1, by rw [(f2 957 n (by omega)).2.1]; exact e7, by rw [(f2 958 n (by omega)).2.1]; exact e8, g2⟩))
  · refine l2_no (nI_ge (by omega) (by omega)) (l2_ck t2 ?_)
    rw [t6, nI_1, nI_add, g1]
    refine l2_ck (l2_ix (by omega) (by decide)) (l2_ck (l2_ix (by omega) (by decide)) (l2_lt (l2_lt ?_)))
    rw [nI_clamp (by omega), nI_clamp (by omega), nI_1, (f2 951 _ (by omega)).1, (f1 951 _ (by omega)).1, hB i (by omega)]
    have f3 : l2_fr (fun b j => (b = 963 ∧ j = s + i) ∨ (b = 950 ∧ j = 36)) r2 (t_setI (t_setI r2 963 (s + i) (nI (B i))) 950 36 ((t_setI r2 963 (s + i) (nI (B i))).1 950 36 + 1)) := (l2_fr.set (Or.inl ⟨rfl, rfl⟩)).trans (l2_fr.set (Or.inr ⟨rfl, rfl⟩))
    have g3 : (t_setI (t_setI r2 963 (s + i) (nI (B i))) 950 36 ((t_setI r2 963 (s + i) (nI (B i))).1 950 36 + 1)).1 950 36 = nI (s + (i + 1)) := by
      simp only [l2_gI, Nat.reduceEqDiff, reduceIte]
      rw [g1, nI_1]
      congr 1
    have g4 : (t_setI (t_setI r2 963 (s + i) (nI (B i))) 950 36 ((t_setI r2 963 (s + i) (nI (B i))).1 950 36 + 1)).1 963 (s + i) = nI (B i) := by
      simp only [l2_gI, Nat.reduceEqDiff, reduceIte]
    generalize t_setI (t_setI r2 963 (s + i) (nI (B i))) 950 36 ((t_setI r2 963 (s + i) (nI (B i))).1 950 36 + 1) = r3 at *
    refine l2_sm ⟨k - 1, by omega, i + 1, r3, by omega, rfl, f2.trans (f3.mono (fun b j q => by omega)), g3, fun j hj => ?_⟩
    by_cases e : j = i
    · rw [e]; exact g4
    · rw [(f3 963 (s + j) (by omega)).1]
      exact g2 j (by omega)
/-- both tell one TEXT -/
theorem px_T.mk {c r : t_S} {p1 s1 p s v n : Nat} {B : Nat → Nat} (hv : v ≤ 40) (hB : ∀ j, j < v → 32 ≤ B j ∧ B j ≤ 126) (h1 : r.2.1 957 n = lN s) (h2 : r.2.1 958 n = lN v) (h3 : s + v ≤ s1) (h4 : p + 1 + (v + 7) / 8 ≤ p1) (h5 : ∀ j, j < v → r.1 963 (s + j) = nI (B j)) (h6 : vl_c v (1 + (v + 7) / 8) 2 (c.2.1 337 p)) (h7 : ∀ q, q < (v + 7) / 8 → c.2.1 337 (p + 1 + q) = lN (16 * x8 (x8_S B v q) + 10)) : px_T c r p1 s1 p n := by
  refine ⟨v, s, B, hv, h1, h2, h3, h4, fun j hj => ⟨(hB j hj).1, (hB j hj).2, h5 j hj⟩, h6, fun q hq => ⟨x8_S B v q, fun e he => rfl, ?_⟩⟩
  have lt : x8 (x8_S B v q) < 128 ^ 8 := x8_lt 8 (by decide) (fun k hk => by
    unfold x8_S
    split
    · have := hB (8 * q + k) (by omega); omega
    · omega) (fun k a b => by omega)
  rw [h7 q hq, pk_lT (by omega)]
  unfold x8 at *
  omega
