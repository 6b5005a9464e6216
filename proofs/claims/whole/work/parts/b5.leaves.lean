/-! Level 2: bases on both sides: numbers, truths, TEXTS, omit. -/
section
variable {P : pc_S} {E : en_S} {x : Int32} {EB PB IB K u q m t e p l w o s i dd : Nat} {c r : t_S} {rc rc2 : RT_X6_readBase} {rR rW : RT_X13_base}
/-- a cell in the pool, an operation -/
theorem bs_pool {v : Int32} {wv : Int64} {c2 r2 r3 : t_S} (hb : xb P EB PB IB u q t e p l w o s i dd) (B : bG P E K u q m t e p l w o s i dd c r c2 r2) (hK : 50 ≤ K ∧ K ≤ 54) (h8 : c2.1 1 8 = v) (hv : v = 2 ∨ v = 221 ∨ v = 222 ∨ v = 223) (f3 : l2_fr (fun b j => (b = 957 ∨ b = 958 ∨ b = 961) ∧ j = m) r2 r3) (hX : ∀ WN AN c4, px_o c4 e 1 (nI p) → c4.2.1 337 p = wv → px_leaf WN AN c4 r3 (p + 1) s e m) : t_h2 ((f_X0_poolCell wv c2).bind (fun r3 => (f_X0_emit 1 r3.1 r3.2).bind (fun r4 => k_X6_readBase_326 rc2 x v r4.2))) ((f_X13_next r3).bind (fun r4 => some (nI m, r4))) (bO_R P E u q m t e p l w o s i dd c r) := by
  have fcB := B.fc
  obtain ⟨hm, hq, X, g1, g2, d1, d2, d3, d4, d5, d6, d7⟩ := B
  have ple := X.1.ple
  have hb' := hb
  unfold xb at hb'
  have n14 : v ≠ 1 ∧ v ≠ 4 := by rcases hv with rfl | rfl | rfl | rfl <;> decide
  have plt := X.1.plt' (by rw [h8]; exact n14.2)
  have cle := pc_c_le P u
  refine h2_bL _ (pl_cell wv X.2.2.2.2.1 (by omega)) (fun a ha => ?_)
  obtain ⟨a0, c3⟩ := a
  obtain ⟨a1, a2, a3, a4⟩ := ha
  have a1 : a0 = nI p := a1
  subst a1
  have a2 : l2_fr (fun b j => (b = 334 ∧ j = 4) ∨ (b = 337 ∧ j = p)) c2 c3 := a2
  have a3 : c3.1 334 4 = nI (p + 1) := a3
  have a4 : c3.2.1 337 p = wv := a4
  refine h2_bL _ (em_emit (s := c3) (e := e) 1 (nI p) (by rw [(a2 334 2 (by omega)).1]; exact X.2.2.2.1) (by omega)) (fun y hy => ?_)
  obtain ⟨y0, c4⟩ := y
  obtain ⟨_, y2, y3, y4, y5⟩ := hy
  have y2 : l2_fr (fun b j => (b = 334 ∧ j = 2) ∨ ((b = 335 ∨ b = 336) ∧ j = e)) c3 c4 := y2
  have y3 : c4.1 334 2 = nI (e + 1) := y3
  have fcs : l2_fr (fun b j => (b = 334 ∧ j = 4) ∨ (b = 337 ∧ j = p) ∨ (b = 334 ∧ j = 2) ∨ ((b = 335 ∨ b = 336) ∧ j = e)) c2 c4 := (a2.mono (fun b j y => by omega)).trans (y2.mono (fun b j y => by omega))
  show t_h2 (k_X6_readBase_326 rc2 x v c4) _ _
  rw [k326p (by rcases hv with rfl | rfl | rfl | rfl <;> decide)]
  have k8 : c4.1 1 8 = v := by rw [(fcs 1 8 (by omega)).1]; exact h8
  have k5 : r3.1 955 m = nI K := by rw [(f3 955 m (by omega)).1]; exact d1
  refine bs_fin (d1 := 0) (p1 := p + 1) (l1 := l) (s1 := s) hb (Or.inr (by rw [k8]; exact n14.1)) (by rw [k8]; exact n14.2) (X.up fcs f3 (fun b j y => by omega) (fun b j y => by omega) y3 (by rw [(y2 334 4 (by omega)).1]; exact a3) (by rw [(fcs 846 6 (by omega)).1]; exact X.2.2.2.2.2.1) (by rw [(f3 950 36 (by omega)).1]; exact X.2.2.2.2.2.2.2.2.1)) ⟨by omega, by omega⟩ ⟨Nat.le_refl _, by omega⟩ ⟨Nat.le_refl _, by omega⟩ (fcB.1.trans (fcs.mono (fun b j y => ?_))) (fcB.2.trans (f3.mono (fun b j y => Or.inr (Or.inr (Or.inl ⟨by omega, by omega, by omega⟩))))) (hX _ _ _ ⟨y4, y5⟩ (by rw [(y2 337 p (by omega)).2.1]; exact a4)) (xD.plain (K := K) k5 (by omega) (by omega) ?_ ?_ (fun y => by omega)) (by rw [(f3 960 m (by omega)).1]; exact d6)
  · rcases y with ⟨rfl, rfl⟩ | ⟨rfl, rfl⟩ | ⟨rfl, rfl⟩ | ⟨y, rfl⟩
    · exact xWc.i334 (Or.inr rfl)
    · exact xWc.ipl (Nat.le_refl _)
    · exact xWc.i334 (Or.inl rfl)
    · exact xWc.iop y (Nat.le_refl _)
  · rw [(fcs 846 7 (by omega)).1, (g1 846 7 (by omega)).1]
  · rw [(fcs 846 8 (by omega)).1, (g1 846 8 (by omega)).1]
/-- a NUMBER -/
theorem bs_num (hC : ∀ a s, rc.1 a s = m_X6_readBase rc2 a s) (X : xp P E u 0 0 q m t e p l w o s i dd c r) (hb : xb P EB PB IB u q t e p l w o s i dd) (h : c.1 1 8 = 2) : t_h2 (bsC rc x c) (m_X13_base rR r) (bO_R P E u q m t e p l w o s i dd c r) := by
  obtain ⟨_, s2, _, _, _, s5, _⟩ := X.1.sort
  have h2 := s2.mp h
  have f0 := X.1.f0
  have eR : m_X13_base rR r = (f_X13_node (nI 50) 1 r).bind (fun r1 => if (r1.2.1 950 5) = (2 : Int32) then (if t_ix r1.1 13000 = true then t_let (t_setJ r1.2 957 (r1.1.toNatClampNeg) (r1.2.2.1 950 8)) (fun s1 => k_X13_base_72 rR r1.1 s1) else none) else ((f_X13_keepText r1.1 r1.2).bind (fun r2 => k_X13_base_72 rR r1.1 r2))) := by
    unfold m_X13_base
    rw [if_pos f0.2, if_pos h2]
    unfold k_X13_base_25
    rw [if_pos h2]
    rfl
  rw [eR]
  refine bs_mk X hb (by decide) (fun f p0 j r1 z1 z2 z3 z4 _ => ?_) (fun c2 r2 B => ?_)
  · refine l2_ck (z4.trans h2) (l2_ck (l2_ix z3 (by decide)) (l2_lt ?_))
    rw [nI_clamp (by omega)]
    unfold k_X13_base_72
    exact l2_bd _ (z1.setJ ⟨by decide, by decide, z2⟩).next (fun r2 hr => l2_sm hr)
  have B' := B
  obtain ⟨hm, hq, X2, g1, g2, d1, d2, d3, d4, d5, d6, d7⟩ := B
  have e8 : c2.1 1 8 = 2 := by rw [(g1 1 8 (by omega)).1]; exact h
  have g5 : r2.1 950 5 = 2 := by rw [(g2 950 5 (by unfold xn_W; omega)).1]; exact h2
  obtain ⟨_, _, _, _, _, t5, _⟩ := X2.1.sort
  obtain ⟨v, v1, v2, v3⟩ := t5 e8
  refine h2_ckR g5 (h2_ckR (l2_ix (by omega) (by decide)) (h2_lR ?_))
  rw [hC, mb_0 e8 (by unfold wq_T; decide), nI_clamp (n := m) (by omega)]
  unfold k_X6_readBase_82 k_X13_base_72
  rw [if_neg (by decide), if_pos (by decide)]
  have f3 : l2_fr (fun b j => (b = 957 ∨ b = 958 ∨ b = 961) ∧ j = m) r2 (t_setJ r2 957 m (r2.2.1 950 8)) := l2_fr.setJ ⟨Or.inl rfl, rfl⟩
  have k7 : (t_setJ r2 957 m (r2.2.1 950 8)).2.1 957 m = lN v := by
    simp only [l2_gJ, reduceIte]
    exact v3
  have k5 : (t_setJ r2 957 m (r2.2.1 950 8)).1 955 m = 50 := d1
  rw [v2]
  refine bs_pool hb B' (by decide) e8 (Or.inl rfl) f3 (fun WN AN c4 h1 h2 => Or.inl ⟨k5, p, v, by omega, v1, h1, k7, ?_⟩)
  rw [h2]
  exact pn_cell v1 c2
/-- a TEXT -/
theorem bs_txt (hC : ∀ a s, rc.1 a s = m_X6_readBase rc2 a s) (X : xp P E u 0 0 q m t e p l w o s i dd c r) (hb : xb P EB PB IB u q t e p l w o s i dd) (h : c.1 1 8 = 3) : t_h2 (bsC rc x c) (m_X13_base rR r) (bO_R P E u q m t e p l w o s i dd c r) := by
  obtain ⟨_, _, s3, _, _, _, _⟩ := X.1.sort
  have h3 := s3.mp h
  have f0 := X.1.f0
  have eR : m_X13_base rR r = (f_X13_node (nI 53) 1 r).bind (fun r1 => if (r1.2.1 950 5) = (2 : Int32) then (if t_ix r1.1 13000 = true then t_let (t_setJ r1.2 957 (r1.1.toNatClampNeg) (r1.2.2.1 950 8)) (fun s1 => k_X13_base_72 rR r1.1 s1) else none) else ((f_X13_keepText r1.1 r1.2).bind (fun r2 => k_X13_base_72 rR r1.1 r2))) := by
    unfold m_X13_base
    rw [if_pos f0.2, h3, if_neg (by decide), if_pos rfl]
    unfold k_X13_base_25
    rw [h3, if_neg (by decide)]
    rfl
  rw [eR]
  refine bs_mk X hb (by decide) (fun f p0 j r1 z1 z2 z3 z4 _ => ?_) (fun c2 r2 B => ?_)
  · refine l2_no (by rw [z4, h3]; decide) (l2_bd _ (z1.keepText z2 z3) (fun r2 h2 => ?_))
    unfold k_X13_base_72
    exact l2_bd _ h2.next (fun r2 hr => l2_sm hr)
  have B' := B
  have fcB := B.fc
  obtain ⟨hm, hq, X2, g1, g2, d1, d2, d3, d4, d5, d6, d7⟩ := B
  have ple := X2.1.ple
  have hb' := hb
  unfold xb at hb'
  have e8 : c2.1 1 8 = 3 := by rw [(g1 1 8 (by omega)).1]; exact h
  have g5 : r2.1 950 5 = 3 := by rw [(g2 950 5 (by unfold xn_W; omega)).1]; exact h3
  have cle := X2.1.cle
  have pcl := pc_c_le P u
  obtain ⟨v, B, v1, v2, v3, v4, v5, v6⟩ := X2.1.text e8
  refine h2_noR (by rw [g5]; decide) ?_
  rw [hC, mb_0 e8 (by unfold wq_T; decide)]
  unfold k_X6_readBase_82 k_X13_base_72
  rw [if_neg (by decide), if_neg (by decide), if_pos (by decide)]
  refine h2_bL _ (pl_text (B := B) X2.2.2.2.2.1 (by omega) v1 cle.2.1 v2 (by omega) (fun j hj => ⟨(v4 j hj).1, (v4 j hj).2.1, (v4 j hj).2.2.1⟩)) (fun y hy => ?_)
  obtain ⟨y0, c3⟩ := y
  obtain ⟨y1, y2, y3, y4, y5⟩ := hy
  have y1 : y0 = nI p := y1
  subst y1
  have y2 : l2_fr (fun b j => (b = 334 ∧ j = 4) ∨ (b = 337 ∧ p ≤ j)) c2 c3 := y2
  have y3 : c3.1 334 4 = nI (p + 1 + (v + 7) / 8) := y3
  refine h2_bR _ (kt_text (B := B) (n := m) X2.2.2.2.2.2.2.2.2.1 (by omega) (by omega) v1 cle.2.2.1 v3 X2.1.f0.2 (by omega) (fun j hj => (v4 j hj).2.2.2)) (fun r3 hr => ?_)
  obtain ⟨z1, z2, z3, z4, z5⟩ := hr
  have T : px_T c3 r3 (p + 1 + (v + 7) / 8) (s + v) p m := px_T.mk v1 (fun j hj => ⟨(v4 j hj).1, (v4 j hj).2.1⟩) z3 z4 (Nat.le_refl _) (Nat.le_refl _) z5 y4 y5
  refine h2_bL _ (em_emit (s := c3) (e := e) 1 (nI p) (by rw [(y2 334 2 (by omega)).1]; exact X2.2.2.2.1) (by omega)) (fun a ha => ?_)
  obtain ⟨a0, c4⟩ := a
  obtain ⟨_, a2, a3, a4, a5⟩ := ha
  have a2 : l2_fr (fun b j => (b = 334 ∧ j = 2) ∨ ((b = 335 ∨ b = 336) ∧ j = e)) c3 c4 := a2
  have a3 : c4.1 334 2 = nI (e + 1) := a3
  have fcs : l2_fr (fun b j => (b = 334 ∧ j = 4) ∨ (b = 337 ∧ p ≤ j) ∨ (b = 334 ∧ j = 2) ∨ ((b = 335 ∨ b = 336) ∧ j = e)) c2 c4 := (y2.mono (fun b j y => by omega)).trans (a2.mono (fun b j y => by omega))
  show t_h2 (k_X6_readBase_326 rc2 x 3 c4) _ _
  rw [k326p (by decide)]
  have k8 : c4.1 1 8 = 3 := by rw [(fcs 1 8 (by omega)).1]; exact e8
  have k5 : r3.1 955 m = nI 53 := by rw [(z1 955 m (by omega)).1]; exact d1
  refine bs_fin (d1 := 0) (p1 := p + 1 + (v + 7) / 8) (l1 := l) (s1 := s + v) hb (Or.inr (by rw [k8]; decide)) (by rw [k8]; decide) (X2.up fcs z1 (fun b j y => by omega) (fun b j y => by omega) a3 (by rw [(a2 334 4 (by omega)).1]; exact y3) (by rw [(fcs 846 6 (by omega)).1]; exact X2.2.2.2.2.2.1) z2) ⟨by omega, by omega⟩ ⟨Nat.le_refl _, by omega⟩ ⟨by omega, by omega⟩ (fcB.1.trans (fcs.mono (fun b j y => ?_))) (fcB.2.trans (z1.mono (fun b j y => ?_))) (Or.inr (Or.inr (Or.inl ⟨k5, p, ⟨a4, a5⟩, ?_⟩))) (xD.plain (K := 53) k5 (by decide) (by decide) ?_ ?_ (fun y => by omega)) (by rw [(z1 960 m (by omega)).1]; exact d6)
  · rcases y with ⟨rfl, rfl⟩ | ⟨rfl, y⟩ | ⟨rfl, rfl⟩ | ⟨y, rfl⟩
    · exact xWc.i334 (Or.inr rfl)
    · exact xWc.ipl y
    · exact xWc.i334 (Or.inl rfl)
    · exact xWc.iop y (Nat.le_refl _)
  · rcases y with ⟨y, rfl⟩ | ⟨rfl, y⟩ | ⟨rfl, rfl⟩
    · exact Or.inr (Or.inr (Or.inl ⟨by omega, by omega, Nat.le_refl _⟩))
    · exact Or.inr (Or.inr (Or.inr (Or.inl ⟨rfl, y⟩)))
    · exact Or.inl ⟨rfl, by omega⟩
  · obtain ⟨v, s0, B, a1, a2', a3, a4, a5, a6, a7, a8⟩ := T
    exact ⟨v, s0, B, a1, a2', a3, a4, a5, a6, by rw [(a2 337 p (by omega)).2.1]; exact a7, fun q hq => by rw [(a2 337 _ (by omega)).2.1]; exact a8 q hq⟩
  · rw [(fcs 846 7 (by omega)).1, (g1 846 7 (by omega)).1]
  · rw [(fcs 846 8 (by omega)).1, (g1 846 8 (by omega)).1]
end
