/-! Level 2: bases on both sides: words of the language that stand alone. -/
theorem lN_inj {a b : Nat} (ha : a < 2 ^ 62) (hb : b < 2 ^ 62) (h : lN a = lN b) : a = b := by
  have e := congrArg Int64.toInt h
  rw [pk_lT (by omega), pk_lT (by omega)] at e
  omega
theorem lt_N.run {E : en_S} {r : t_S} {k K pl : Nat} (h5 : r.1 955 k = nI K) (hK : (55 ≤ K ∧ K ≤ 57) ∨ (61 ≤ K ∧ K ≤ 63)) (h6 : r.1 956 k = nI pl) (hp : pl ≤ 12000) : ∀ p, lt_N E r k p ↔ (E.2.2.2.1 = 1 ∧ p = pl) := by
  intro p
  refine ⟨fun ⟨p1, y⟩ => ?_, fun ⟨y1, y2⟩ => ⟨by omega, Or.inl ⟨y1, by rw [y2]; exact h6, K, hK, h5⟩⟩⟩
  rcases y with ⟨a, b, _⟩ | ⟨_, K', X, k1, k2, _⟩
  · exact ⟨a, (nI_eq (by omega) (by omega)).mp (b.symm.trans h6)⟩
  · have := (nI_eq (a := K') (b := K) (by omega) (by omega)).mp (k2.symm.trans h5)
    omega
theorem lt_N.name {E : en_S} {r : t_S} {k K X pl : Nat} (h5 : r.1 955 k = nI K) (hK : K = 67 ∨ K = 68 ∨ K = 71) (h3 : r.1 1003 k = nI pl) (h7 : r.2.1 957 k = lN X) (hX : X < 7934) (hp : pl ≤ 12000) : ∀ p, lt_N E r k p ↔ (E.2.2.2.2.1 ≤ 66 + X ∧ p = pl) := by
  intro p
  refine ⟨fun ⟨p1, y⟩ => ?_, fun ⟨y1, y2⟩ => ⟨by omega, Or.inr ⟨by rw [y2]; exact h3, K, X, hK, h5, hX, h7, y1⟩⟩⟩
  rcases y with ⟨a, b, K', k1, k2⟩ | ⟨a, K', X', k1, k2, k3, k4, k5⟩
  · have := (nI_eq (a := K') (b := K) (by omega) (by omega)).mp (k2.symm.trans h5)
    omega
  · have := lN_inj (by omega) (by omega) (k4.symm.trans h7)
    exact ⟨by omega, (nI_eq (by omega) (by omega)).mp (a.symm.trans h3)⟩
/-- the reference's kind of a base that is a word of the language -/
def wb_T (i K : Nat) : Prop := (i = 21 ∧ K = 51) ∨ (i = 22 ∧ K = 52) ∨ (i = 23 ∧ K = 54) ∨ (i = 31 ∧ K = 55) ∨ (i = 32 ∧ K = 56) ∨ (i = 33 ∧ K = 57) ∨ (i = 34 ∧ K = 61) ∨ (i = 35 ∧ K = 62) ∨ (i = 36 ∧ K = 63)
noncomputable def wbR (rW : RT_X13_base) (l1 : Int32) (y : Int32 × t_S) : Option (Int32 × t_S) := if t_ix y.1 13000 = true then t_let (t_setJ y.2 958 (y.1.toNatClampNeg) ((y.2.1 950 33).toInt64)) (fun s1 => t_let (t_setI s1 961 (y.1.toNatClampNeg) (s1.1 950 34)) (fun s2 => k_X13_wordBase_199 rW l1 y.1 s2)) else none
theorem wb_res {P : pc_S} {u d z q m i K : Nat} {c r : t_S} {rR rW : RT_X13_base} (hK : wb_T i K) (h : c.1 1 8 = nI (200 + i)) (J : pj P u d z q m c r) (hW : ∀ s, rR.2.2.2.2.2.2.2.2.2.2.1 s = m_X13_wordBase rW s) : m_X13_base rR r = (f_X13_node (nI K) 1 r).bind (wbR rW (nI i)) := by
  have f0 := J.f0
  have i1 : i < 66 := by unfold wb_T at hK; omega
  have pvy : pv i = i := by
    rcases hK with ⟨rfl, _⟩ | ⟨rfl, _⟩ | ⟨rfl, _⟩ | ⟨rfl, _⟩ | ⟨rfl, _⟩ | ⟨rfl, _⟩ | ⟨rfl, _⟩ | ⟨rfl, _⟩ | ⟨rfl, _⟩ <;> rfl
  have h10 : r.1 950 5 = 1 ∧ r.1 950 10 = nI i := by
    rcases J.isW (x := i) i1 with ⟨_, b⟩ | ⟨b, _⟩
    · unfold f_X13_isWord at b
      by_cases z : r.1 950 5 = 1
      · rw [if_pos z] at b
        by_cases z2 : r.1 950 10 = nI (pv i)
        · exact ⟨z, by rw [z2, pvy]⟩
        · rw [if_neg z2] at b; exact absurd b (by decide)
      · rw [if_neg z] at b; exact absurd b (by decide)
    · exact absurd h b
  have bs : ∀ o : Option (Int32 × t_S), o.bind (fun r10 => some (r10.1, r10.2)) = o := fun o => by cases o <;> rfl
  have e1 := lx_rin (s := r) (x := i) (a := 21) (b := 23) (by omega) (by decide) (by decide)
  have e2 := lx_rin (s := r) (x := i) (a := 31) (b := 36) (by omega) (by decide) (by decide)
  have e1 : f_X13_in (nI i).toInt64 (21 : Int64) (23 : Int64) r = if 21 ≤ i ∧ i ≤ 23 then 1 else 0 := e1
  have e2 : f_X13_in (nI i).toInt64 (31 : Int64) (36 : Int64) r = if 31 ≤ i ∧ i ≤ 36 then 1 else 0 := e2
  have p0 : (0 : Int32) ≤ nI i := nI_pos' (by omega)
  have n0 : ¬ nI i < (0 : Int32) := nI_pos (by omega)
  have e37 : m_X13_wordBase rW r = k_X13_wordBase_37 rW (nI i) r := by
    unfold m_X13_wordBase
    rw [h10.2, if_neg n0, e1, e2]
    by_cases g : 21 ≤ i ∧ i ≤ 23
    · rw [if_pos g, if_neg (by decide)]
    · have g2 : 31 ≤ i ∧ i ≤ 36 := by unfold wb_T at hK; omega
      rw [if_neg g, if_pos rfl, if_pos g2, if_neg (by decide)]
  have e158 : k_X13_wordBase_37 rW (nI i) r = k_X13_wordBase_158 rW (nI i) (nI K) r := by
    unfold k_X13_wordBase_37 k_X13_wordBase_42
    rw [if_neg (by decide), if_pos p0]
    rcases hK with ⟨rfl, rfl⟩ | ⟨rfl, rfl⟩ | ⟨rfl, rfl⟩ | ⟨rfl, rfl⟩ | ⟨rfl, rfl⟩ | ⟨rfl, rfl⟩ | ⟨rfl, rfl⟩ | ⟨rfl, rfl⟩ | ⟨rfl, rfl⟩
    · rw [if_pos (by decide)]; rfl
    · rw [if_neg (by decide), if_pos (by decide)]; rfl
    · rw [if_neg (by decide), if_neg (by decide), if_pos (by decide)]; rfl
    · rw [if_neg (by decide), if_neg (by decide), if_neg (by decide), if_pos (by decide)]; rfl
    · rw [if_neg (by decide), if_neg (by decide), if_neg (by decide), if_neg (by decide), if_pos (by decide)]; rfl
    · rw [if_neg (by decide), if_neg (by decide), if_neg (by decide), if_neg (by decide), if_neg (by decide), if_pos (by decide)]; rfl
    · rw [if_neg (by decide), if_neg (by decide), if_neg (by decide), if_neg (by decide), if_neg (by decide), if_neg (by decide), if_pos (by decide)]; rfl
    · rw [if_neg (by decide), if_neg (by decide), if_neg (by decide), if_neg (by decide), if_neg (by decide), if_neg (by decide), if_neg (by decide), if_pos (by decide)]; rfl
    · rw [if_neg (by decide), if_neg (by decide), if_neg (by decide), if_neg (by decide), if_neg (by decide), if_neg (by decide), if_neg (by decide), if_neg (by decide)]; rfl
  unfold m_X13_base
  rw [if_pos f0.2, h10.1, if_neg (by decide), if_neg (by decide), if_pos rfl, bs, hW, e37, e158]
  unfold k_X13_wordBase_158
  refine congrArg (Option.bind (f_X13_node (nI K) 1 r)) (funext fun y => ?_)
  unfold wbR
  by_cases z : t_ix y.1 13000 = true
  · rw [if_pos z, if_pos z]
    exact if_pos p0
  · rw [if_neg z, if_neg z]
theorem xR.wbF {P : pc_S} {f p0 m s j : Nat} {l1 : Int32} {r0 r1 : t_S} {rW : RT_X13_base} (T : xT rW) (h : xR P f p0 m s r0 r1) (h1 : m ≤ j) (h2 : j < 13000) : t_hk (wbR rW l1 (nI j, r1)) (fun y => xR P f p0 m s r0 y.2) := by
  unfold wbR
  refine l2_ck (l2_ix h2 (by decide)) (l2_lt (l2_lt ?_))
  rw [nI_clamp (n := j) (by omega)]
  exact ((h.setJ (b := 958) ⟨by decide, by decide, h1⟩).set (b := 961) (Or.inl ⟨by decide, by decide, h1⟩)).wb199 T h1 h2 _
theorem k199p {rW : RT_X13_base} {i : Nat} {n : Int32} {s : t_S} (h : i = 21 ∨ i = 22 ∨ i = 23 ∨ i = 31 ∨ i = 32 ∨ i = 33) : k_X13_wordBase_199 rW (nI i) n s = (f_X13_next s).bind (fun r4 => some (n, r4)) := by
  unfold k_X13_wordBase_199
  cases f_X13_next s with
  | none => rfl
  | some r1 =>
    rw [l2_bs, l2_bs]
    rcases h with rfl | rfl | rfl | rfl | rfl | rfl <;> rw [if_neg (by decide), if_neg (by decide), if_neg (by decide)]
/-- what the reference tells at the node of a word -/
theorem wb_set {P : pc_S} {E : en_S} {u d z q m t e p l w o s i dd n : Nat} {l1 : Int32} {c2 r2 : t_S} {rW : RT_X13_base} (X : xp P E u d z q m t e p l w o s i dd c2 r2) (hn : n < 13000) : ∃ r3, wbR rW l1 (nI n, r2) = k_X13_wordBase_199 rW l1 (nI n) r3 ∧ l2_fr (fun b j => (b = 957 ∨ b = 958 ∨ b = 961) ∧ j = n) r2 r3 ∧ r3.2.1 958 n = lN E.2.1 ∧ r3.1 961 n = nI E.2.2.1 := by
  have kn := X.2.1.kn
  refine ⟨t_setI (t_setJ r2 958 n ((r2.1 950 33).toInt64)) 961 n ((t_setJ r2 958 n ((r2.1 950 33).toInt64)).1 950 34), ?_, (l2_fr.setJ ⟨Or.inr (Or.inl rfl), rfl⟩).trans (l2_fr.set ⟨Or.inr (Or.inr rfl), rfl⟩), ?_, ?_⟩
  · unfold wbR
    rw [if_pos (l2_ix hn (by decide))]
    show k_X13_wordBase_199 rW l1 (nI n) (t_setI (t_setJ r2 958 (nI n).toNatClampNeg _) 961 (nI n).toNatClampNeg _) = _
    rw [nI_clamp (n := n) (by omega)]
  · simp only [l2_gJ, l2_gIJ, Nat.reduceEqDiff, reduceIte]
    rw [kn.2.2.2.2.1, nI_l (by have := kn.2.2.2.2.2.1; omega)]
  · simp only [l2_gI, l2_gJI, Nat.reduceEqDiff, reduceIte]
    exact kn.2.2.2.2.2.2.1
section
variable {P : pc_S} {E : en_S} {x : Int32} {EB PB IB u q m t e p l w o s i dd : Nat} {c r : t_S} {rc rc2 : RT_X6_readBase} {rR rW : RT_X13_base}
/-- true, false, omit -/
theorem bs_truth {y K : Nat} (hC : ∀ a s, rc.1 a s = m_X6_readBase rc2 a s) (hW : ∀ s, rR.2.2.2.2.2.2.2.2.2.2.1 s = m_X13_wordBase rW s) (T : xT rW) (X : xp P E u 0 0 q m t e p l w o s i dd c r) (hb : xb P EB PB IB u q t e p l w o s i dd) (hy : y = 21 ∧ K = 51 ∨ y = 22 ∧ K = 52 ∨ y = 23 ∧ K = 54) (h : c.1 1 8 = nI (200 + y)) : t_h2 (bsC rc x c) (m_X13_base rR r) (bO_R P E u q m t e p l w o s i dd c r) := by
  rw [wb_res (i := y) (K := K) (by unfold wb_T; rcases hy with ⟨rfl, rfl⟩ | ⟨rfl, rfl⟩ | ⟨rfl, rfl⟩ <;> decide) h X.1 hW]
  refine bs_mk X hb (by omega) (fun f p0 j r1 z1 z2 z3 _ _ => z1.wbF T z2 z3) (fun c2 r2 B => ?_)
  have B' := B
  obtain ⟨hm, hq, X2, g1, g2, d1, d2, d3, d4, d5, d6, d7⟩ := B
  have e8 : c2.1 1 8 = nI (200 + y) := by rw [(g1 1 8 (by omega)).1]; exact h
  obtain ⟨r3, w1, w2, w3, w4⟩ := wb_set (rW := rW) (l1 := nI y) (n := m) X2 (by omega)
  rw [w1, k199p (by omega), hC, mb_0 e8 (by unfold wq_T; rcases hy with ⟨rfl, _⟩ | ⟨rfl, _⟩ | ⟨rfl, _⟩ <;> decide)]
  have k5 : r3.1 955 m = nI K := by rw [(w2 955 m (by omega)).1]; exact d1
  unfold k_X6_readBase_82
  rcases hy with ⟨rfl, rfl⟩ | ⟨rfl, rfl⟩ | ⟨rfl, rfl⟩
  · rw [if_neg (by decide), if_neg (by decide), if_neg (by decide), if_pos (by decide)]
    refine bs_pool (wv := f_X0_truth 1 c2) hb B' (by decide) e8 (by decide) w2 (fun WN AN c4 h1 h2 => Or.inr (Or.inl ⟨Or.inl k5, p, by omega, h1, ?_⟩))
    rw [k5, if_pos (by decide), h2, show f_X0_truth 1 c2 = 4113 from rfl]
    exact ⟨by decide, by decide, by decide⟩
  · rw [if_neg (by decide), if_neg (by decide), if_neg (by decide), if_neg (by decide), if_pos (by decide)]
    refine bs_pool (wv := f_X0_truth 0 c2) hb B' (by decide) e8 (by decide) w2 (fun WN AN c4 h1 h2 => Or.inr (Or.inl ⟨Or.inr k5, p, by omega, h1, ?_⟩))
    rw [k5, if_neg (by decide), h2, show f_X0_truth 0 c2 = 17 from rfl]
    exact ⟨by decide, by decide, by decide⟩
  · rw [if_neg (by decide), if_neg (by decide), if_neg (by decide), if_neg (by decide), if_neg (by decide), if_pos (by decide)]
    refine bs_pool (wv := 20) hb B' (by decide) e8 (by decide) w2 (fun WN AN c4 h1 h2 => Or.inr (Or.inr (Or.inr (Or.inl ⟨k5, p, by omega, h1, ?_⟩))))
    rw [h2]
    exact ⟨by decide, by decide, by decide⟩
/-- me, now, verdict -/
theorem bs_run {y K : Nat} (hC : ∀ a s, rc.1 a s = m_X6_readBase rc2 a s) (hW : ∀ s, rR.2.2.2.2.2.2.2.2.2.2.1 s = m_X13_wordBase rW s) (T : xT rW) (X : xp P E u 0 0 q m t e p l w o s i dd c r) (hb : xb P EB PB IB u q t e p l w o s i dd) (hy : y = 31 ∧ K = 55 ∨ y = 32 ∧ K = 56 ∨ y = 33 ∧ K = 57) (h : c.1 1 8 = nI (200 + y)) : t_h2 (bsC rc x c) (m_X13_base rR r) (bO_R P E u q m t e p l w o s i dd c r) := by
  rw [wb_res (i := y) (K := K) (by unfold wb_T; rcases hy with ⟨rfl, rfl⟩ | ⟨rfl, rfl⟩ | ⟨rfl, rfl⟩ <;> decide) h X.1 hW]
  refine bs_mk X hb (by omega) (fun f p0 j r1 z1 z2 z3 _ _ => z1.wbF T z2 z3) (fun c2 r2 B => ?_)
  have fcB := B.fc
  obtain ⟨hm, hq, X2, g1, g2, d1, d2, d3, d4, d5, d6, d7⟩ := B
  have ple := X2.1.ple
  have cle := X.1.cle
  have hb' := hb
  unfold xb at hb'
  have e8 : c2.1 1 8 = nI (200 + y) := by rw [(g1 1 8 (by omega)).1]; exact h
  have n14 : nI (200 + y) ≠ 1 ∧ nI (200 + y) ≠ 4 := by rcases hy with ⟨rfl, _⟩ | ⟨rfl, _⟩ | ⟨rfl, _⟩ <;> decide
  have plt := X2.1.plt' (by rw [e8]; exact n14.2)
  have pcl := pc_c_le P u
  obtain ⟨r3, w1, w2, w3, w4⟩ := wb_set (rW := rW) (l1 := nI y) (n := m) X2 (by omega)
  rw [w1, k199p (by omega), hC, mb_1 e8 (by unfold wq_T; rcases hy with ⟨rfl, _⟩ | ⟨rfl, _⟩ | ⟨rfl, _⟩ <;> decide)]
  have k5 : r3.1 955 m = nI K := by rw [(w2 955 m (by omega)).1]; exact d1
  have k6 : r3.1 956 m = nI (pc_p P u) := by rw [(w2 956 m (by omega)).1, d2]; exact cle.2.2.1
  refine h2_bL _ (ltI_h X2) (fun c3 hc3 => ?_)
  obtain ⟨h1, h2⟩ := hc3
  have key : ∀ op : Int32, op = nI (K - 50) → t_h2 ((f_X0_emit op 0 c3).bind (fun r15 => k_X6_readBase_326 rc2 x (nI (200 + y)) r15.2)) ((f_X13_next r3).bind (fun r4 => some (nI m, r4))) (bO_R P E u q m t e p l w o s i dd c r) := by
    rintro op rfl
    refine h2_bL _ (em_emit (s := c3) (e := e) (nI (K - 50)) 0 (by rw [(h1 334 2 (by omega)).1]; exact X2.2.2.2.1) (by omega)) (fun a ha => ?_)
    obtain ⟨a0, c4⟩ := a
    obtain ⟨_, a2, a3, a4, a5⟩ := ha
    have a2 : l2_fr (fun b j => (b = 334 ∧ j = 2) ∨ ((b = 335 ∨ b = 336) ∧ j = e)) c3 c4 := a2
    have a3 : c4.1 334 2 = nI (e + 1) := a3
    have fcs : l2_fr (fun b j => (b = 846 ∧ (j = 7 ∨ j = 8)) ∨ (b = 334 ∧ j = 2) ∨ ((b = 335 ∨ b = 336) ∧ j = e)) c2 c4 := (h1.mono (fun b j y => by omega)).trans (a2.mono (fun b j y => by omega))
    show t_h2 (k_X6_readBase_326 rc2 x (nI (200 + y)) c4) _ _
    rw [k326p (by rcases hy with ⟨rfl, _⟩ | ⟨rfl, _⟩ | ⟨rfl, _⟩ <;> decide)]
    have k8 : c4.1 1 8 = nI (200 + y) := by rw [(fcs 1 8 (by omega)).1]; exact e8
    refine bs_fin (d1 := 0) (p1 := p) (l1 := l) (s1 := s) hb (Or.inr (by rw [k8]; exact n14.1)) (by rw [k8]; exact n14.2) (X2.up fcs w2 (fun b j y => by omega) (fun b j y => by omega) a3 (by rw [(fcs 334 4 (by omega)).1]; exact X2.2.2.2.2.1) (by rw [(fcs 846 6 (by omega)).1]; exact X2.2.2.2.2.2.1) (by rw [(w2 950 36 (by omega)).1]; exact X2.2.2.2.2.2.2.2.2.1)) ⟨Nat.le_refl _, by omega⟩ ⟨Nat.le_refl _, by omega⟩ ⟨Nat.le_refl _, by omega⟩ (fcB.1.trans (fcs.mono (fun b j y => ?_))) (fcB.2.trans (w2.mono (fun b j y => Or.inr (Or.inr (Or.inl ⟨by omega, by omega, by omega⟩))))) (Or.inr (Or.inr (Or.inr (Or.inr (Or.inl ⟨K, by omega, by omega, k5, a4, a5⟩))))) (xD.mk1 (K := K) (T := fun p => E.2.2.2.1 = 1 ∧ p = pc_p P u) k5 (by omega) ⟨K, by omega, by omega, k5, fun z => by omega, fun z => by omega, fun _ => ⟨w3, _, cle.2.2.2, k6⟩, fun z => by omega⟩ (fun a y1 y2 => by omega) (lt_N.run k5 (by omega) k6 cle.2.2.2) (fun S hS => ?_) (fun z => by omega)) (by rw [(w2 960 m (by omega)).1]; exact d6)
    · rcases y with ⟨rfl, y⟩ | ⟨rfl, rfl⟩ | ⟨y, rfl⟩
      · exact xWc.i846 (by omega)
      · exact xWc.i334 (Or.inl rfl)
      · exact xWc.iop y (Nat.le_refl _)
    · exact (h2 S (hS.same (g1 846 7 (by omega)).1 (g1 846 8 (by omega)).1)).same (a2 846 7 (by omega)).1 (a2 846 8 (by omega)).1
  unfold k_X6_readBase_82
  rcases hy with ⟨rfl, rfl⟩ | ⟨rfl, rfl⟩ | ⟨rfl, rfl⟩
  · rw [if_neg (by decide), if_neg (by decide), if_neg (by decide), if_neg (by decide), if_neg (by decide), if_neg (by decide), if_pos (by decide)]
    exact key 5 (by decide)
  · rw [if_neg (by decide), if_neg (by decide), if_neg (by decide), if_neg (by decide), if_neg (by decide), if_neg (by decide), if_neg (by decide), if_pos (by decide)]
    exact key 6 (by decide)
  · rw [if_neg (by decide), if_neg (by decide), if_neg (by decide), if_neg (by decide), if_neg (by decide), if_neg (by decide), if_neg (by decide), if_neg (by decide), if_pos (by decide)]
    exact key 7 (by decide)
end
