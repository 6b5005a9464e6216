/-! Level 2: bases on both sides: WORDS, active. -/
section
variable {P : pc_S} {E : en_S} {x : Int32} {EB PB IB u q m t e p l w o s i dd : Nat} {c r : t_S} {rc rc2 : RT_X6_readBase} {rR rW : RT_X13_base}
/-- a WORD -/
theorem bs_word (hC : ∀ a s, rc.1 a s = m_X6_readBase rc2 a s) (hW : ∀ s, rR.2.2.2.2.2.2.2.2.2.2.1 s = m_X13_wordBase rW s) (X : xp P E u 0 0 q m t e p l w o s i dd c r) (hb : xb P EB PB IB u q t e p l w o s i dd) (h : c.1 1 8 = 1) : t_h2 (bsC rc x c) (m_X13_base rR r) (bO_R P E u q m t e p l w o s i dd c r) := by
  have hb' := hb
  unfold xb at hb'
  have ple := X.1.ple
  have f0 := X.1.f0
  obtain ⟨h5, h10⟩ := X.1.sort.1.mp h
  have n4 : c.1 1 8 ≠ 4 := by rw [h]; decide
  have plt := X.1.plt' n4
  have cw := X.1.cword h
  have cle := X.1.cle
  have bs : ∀ o : Option (Int32 × t_S), o.bind (fun r10 => some (r10.1, r10.2)) = o := fun o => by cases o <;> rfl
  have n0 : ¬ (0 : Int32) ≤ r.1 950 10 := Int32.not_le.mpr h10
  have ne : ∀ k : Int32, 0 ≤ k → ¬ r.1 950 10 = k := fun k hk y => n0 (by rw [y]; exact hk)
  have p199 : ∀ (n : Int32) (s : t_S), k_X13_wordBase_199 rW (r.1 950 10) n s = (f_X13_next s).bind (fun r4 => some (n, r4)) := fun n s => by
    unfold k_X13_wordBase_199
    refine congrArg (Option.bind _) (funext fun r1 => ?_)
    rw [if_neg (ne 34 (by decide)), if_neg (ne 35 (by decide)), if_neg (ne 36 (by decide))]
  have eR : m_X13_base rR r = (f_X13_node (nI 58) 1 r).bind (fun r1 => if t_ix r1.1 13000 = true then t_let (t_setJ r1.2 958 (r1.1.toNatClampNeg) ((r1.2.1 950 33).toInt64)) (fun s1 => t_let (t_setI s1 961 (r1.1.toNatClampNeg) (s1.1 950 34)) (fun s2 => (f_X13_name s2).bind (fun r3 => t_let (t_setJ r3.2 957 (r1.1.toNatClampNeg) r3.1.toInt64) (fun s3 => (f_X13_next s3).bind (fun r4 => some (r1.1, r4)))))) else none) := by
    unfold m_X13_base
    rw [if_pos f0.2, h5, if_neg (by decide), if_neg (by decide), if_pos rfl, bs, hW]
    unfold m_X13_wordBase
    rw [if_pos h10]
    unfold k_X13_wordBase_37 k_X13_wordBase_42
    rw [if_neg (by decide), if_neg n0]
    unfold k_X13_wordBase_158
    show (f_X13_node (nI 58) 1 r).bind _ = _
    refine congrArg (Option.bind (f_X13_node (nI 58) 1 r)) (funext fun y => ?_)
    by_cases z : t_ix y.1 13000 = true
    · rw [if_pos z, if_pos z]
      unfold t_let
      dsimp only
      rw [if_neg n0]
      refine congrArg (Option.bind _) (funext fun v => ?_)
      exact p199 _ _
    · rw [if_neg z, if_neg z]
  rw [eR]
  refine bs_mk X hb (by decide) (fun f p0 j r1 z1 z2 z3 z4 z5 => ?_) (fun c2 r2 B => ?_)
  · refine l2_ck (l2_ix z3 (by decide)) (l2_lt (l2_lt ?_))
    rw [nI_clamp (n := j) (by omega)]
    have h1 := ((z1.setJ (b := 958) (v := (r1.1 950 33).toInt64) ⟨by decide, by decide, z2⟩).set (b := 961) (v := (t_setJ r1 958 j (r1.1 950 33).toInt64).1 950 34) (Or.inl ⟨by decide, by decide, z2⟩))
    refine l2_bd _ (h1.name1 ?_ ?_) (fun y hy => l2_lt (l2_bd _ ((hy.setJ ⟨by decide, by decide, z2⟩).next) (fun z hz => l2_sm hz)))
    · simp only [l2_gI, l2_gJI, Nat.reduceEqDiff, reduceIte]
      exact z4.trans h5
    · simp only [l2_gI, l2_gJI, Nat.reduceEqDiff, reduceIte]
      rw [z5]; exact h10
  have fcB := B.fc
  obtain ⟨hm, hq, X2, g1, g2, d1, d2, d3, d4, d5, d6, d7⟩ := B
  have e8 : c2.1 1 8 = 1 := by rw [(g1 1 8 (by omega)).1]; exact h
  have kn := X2.2.1.kn
  -- the reference
  refine h2_ckR (l2_ix (by omega) (by decide)) (h2_lR (h2_lR ?_))
  rw [nI_clamp (n := m) (by omega)]
  have f1 : l2_fr (fun b j => (b = 958 ∨ b = 961) ∧ j = m) r2 (t_setI (t_setJ r2 958 m ((r2.1 950 33).toInt64)) 961 m ((t_setJ r2 958 m ((r2.1 950 33).toInt64)).1 950 34)) := (l2_fr.setJ ⟨Or.inl rfl, rfl⟩).trans (l2_fr.set ⟨Or.inr rfl, rfl⟩)
  have w8 : (t_setI (t_setJ r2 958 m ((r2.1 950 33).toInt64)) 961 m ((t_setJ r2 958 m ((r2.1 950 33).toInt64)).1 950 34)).2.1 958 m = lN E.2.1 := by
    simp only [l2_gJ, l2_gIJ, Nat.reduceEqDiff, reduceIte]
    rw [kn.2.2.2.2.1, nI_l (by have := kn.2.2.2.2.2.1; omega)]
  have w1 : (t_setI (t_setJ r2 958 m ((r2.1 950 33).toInt64)) 961 m ((t_setJ r2 958 m ((r2.1 950 33).toInt64)).1 950 34)).1 961 m = nI E.2.2.1 := by
    simp only [l2_gI, l2_gJI, Nat.reduceEqDiff, reduceIte]
    exact kn.2.2.2.2.2.2.1
  generalize t_setI (t_setJ r2 958 m ((r2.1 950 33).toInt64)) 961 m ((t_setJ r2 958 m ((r2.1 950 33).toInt64)).1 950 34) = r3 at *
  have X3 := X2.own (l2_fr.rf (W := fun _ _ => False)) f1 (fun b j y => y.elim) (fun b j y => by omega)
  refine h2_bR _ (pj_name1 X3.1 e8) (fun y hy => ?_)
  obtain ⟨y0, r4⟩ := y
  obtain ⟨Y, hY, v1, v2, v3, v4⟩ := hy
  have v2 : y0 = nI Y := v2
  subst v2
  have v3 : l2_fr nm_W r3 r4 := v3
  have v4 : pj P u 1 1 (q + 1) (m + 1) c2 r4 := v4
  refine h2_lR ?_
  show t_h2 _ ((f_X13_next (t_setJ r4 957 m (nI Y).toInt64)).bind (fun r4 => some (nI m, r4))) _
  rw [nI_l (n := Y) (by omega)]
  have f5 : l2_fr (fun b j => b = 957 ∧ j = m) r4 (t_setJ r4 957 m (lN Y)) := l2_fr.setJ ⟨rfl, rfl⟩
  have w7 : (t_setJ r4 957 m (lN Y)).2.1 957 m = lN Y := by simp only [l2_gJ, reduceIte]
  generalize t_setJ r4 957 m (lN Y) = r5 at *
  have frs : l2_fr (fun b j => nm_W b j ∨ ((b = 957 ∨ b = 958 ∨ b = 961) ∧ j = m)) r2 r5 := ((f1.mono (fun b j z => Or.inr ⟨by omega, z.2⟩)).trans (v3.mono (fun b j z => Or.inl z))).trans (f5.mono (fun b j z => Or.inr ⟨Or.inl z.1, z.2⟩))
  have fr35 : l2_fr (fun b j => nm_W b j ∨ (b = 957 ∧ j = m)) r3 r5 := (v3.mono (fun b j z => Or.inl z)).trans (f5.mono (fun b j z => Or.inr z))
  -- the class
  rw [hC, mb_0 e8 (by unfold wq_T; decide)]
  unfold k_X6_readBase_82
  rw [if_pos (by decide)]
  refine h2_bL _ (en_word X2.2.1 X2.2.2.2.1 (by omega) X2.2.2.2.2.2.1 (by omega) v1 hY) (fun c3 hc3 => ?_)
  obtain ⟨q1, q2, q3⟩ := hc3
  rw [k326p (by decide)]
  have k8 : c3.1 1 8 = 1 := by rw [(q1 1 8 (by omega)).1]; exact e8
  have X2' := X2
  obtain ⟨x1, x2, x3, x4, x5, x6, x7, x8, x9, x10, x11⟩ := X2'
  have J3 : pj P u 1 1 (q + 1) (m + 1) c3 r5 := v4.fr q1 f5 (fun j => by omega) (fun b i _ _ => by omega) (fun b i _ _ => by omega) (by omega) (fun j _ => by omega) (fun b i _ _ => by omega)
  have aR : ∀ b, 955 ≤ b → b ≤ 962 → b ≠ 957 → b ≠ 958 → b ≠ 961 → r5.1 b m = r2.1 b m := fun b x y z1 z2 z3 => (frs b m (by unfold nm_W; omega)).1
  have k55 : r5.1 955 m = nI 58 := by rw [aR 955 (by decide) (by decide) (by decide) (by decide) (by decide)]; exact d1
  have k56 : r5.1 956 m = nI (pc_p P u) := by rw [aR 956 (by decide) (by decide) (by decide) (by decide) (by decide), d2]; exact cle.2.2.1
  have k58 : r5.2.1 958 m = lN E.2.1 := by rw [(fr35 958 m (by unfold nm_W; omega)).2.1]; exact w8
  have k61 : r5.1 961 m = nI E.2.2.1 := by rw [(fr35 961 m (by unfold nm_W; omega)).1]; exact w1
  have k60 : r5.1 960 m = -1 := by rw [aR 960 (by decide) (by decide) (by decide) (by decide) (by decide)]; exact d6
  have p9 : c2.1 1 9 = nI (pc_p P u) := by rw [(g1 1 9 (by omega)).1]; exact cle.2.1
  have e7' : c3.1 846 7 = c.1 846 7 := by rw [(q1 846 7 (by omega)).1, (g1 846 7 (by omega)).1]
  have e8' : c3.1 846 8 = c.1 846 8 := by rw [(q1 846 8 (by omega)).1, (g1 846 8 (by omega)).1]
  have nT : ∀ p, lt_N E r5 m p ↔ False := fun p => ⟨fun y => by
    obtain ⟨_, ⟨_, _, K', k1, k2⟩ | ⟨_, K', Z, k1, k2, _⟩⟩ := y
    · have := (nI_eq (a := K') (b := 58) (by omega) (by decide)).mp (k2.symm.trans k55)
      omega
    · have := (nI_eq (a := K') (b := 58) (by omega) (by decide)).mp (k2.symm.trans k55)
      omega, fun y => y.elim⟩
  have nL : ∀ S, lt_R c S → lt_R c3 (fun p => S p ∨ False) := fun S hS => (hS.same e7' e8').iff (fun x => ⟨Or.inl, fun y => y.elim id (fun z => z.elim)⟩)
  have fin : ∀ l1, l ≤ l1 → l1 ≤ l + 1 → c3.1 846 6 = nI l1 → wn_R E c3 r5 l l1 e m → xD_A E c3 r5 l l1 m → (∀ a, l ≤ a → a < l1 → xD_B E c3 r5 a m) → t_h2 (f_X2_advance c3) ((f_X13_next r5).bind (fun r4 => some (nI m, r4))) (bO_R P E u q m t e p l w o s i dd c r) := by
    intro l1 la lb k6 hWN hA hB
    refine bs_fin (d1 := 1) (p1 := p) (l1 := l1) (s1 := s) hb (Or.inl rfl) (by rw [k8]; decide) ⟨J3, x2.fr q1 frs (fun j _ _ => by omega) (fun b i _ _ => by omega) ⟨by unfold nm_W; omega, by unfold nm_W; omega⟩, ?_, q2, ?_, k6, ?_, ?_, ?_, ?_, ?_⟩ ⟨Nat.le_refl _, by omega⟩ ⟨la, by omega⟩ ⟨Nat.le_refl _, by omega⟩ (fcB.1.trans (q1.mono (fun b j y => ?_))) (fcB.2.trans (frs.mono (fun b j y => ?_))) (Or.inr (Or.inr (Or.inr (Or.inr (Or.inr (Or.inl ⟨k55, hWN⟩)))))) (xD.mk1 (K := 58) k55 (by decide) hA hB nT nL (fun z => by omega)) k60
    · rw [(q1 353 9 (by omega)).1]; exact x3
    · rw [(q1 334 4 (by omega)).1]; exact x5
    · rw [(q1 845 7 (by omega)).1]; exact x7
    · rw [(q1 845 9 (by omega)).1]; exact x8
    · rw [(frs 950 36 (by unfold nm_W; omega)).1]; exact x9
    · rw [(frs 950 26 (by unfold nm_W; omega)).1]; exact x10
    · rw [(frs 950 32 (by unfold nm_W; omega)).1]; exact x11
    · rcases y with ⟨rfl, rfl⟩ | ⟨y, rfl⟩ | ⟨rfl, rfl⟩ | ⟨y1, y2, rfl⟩
      · exact xWc.i334 (Or.inl rfl)
      · exact xWc.iop y (Nat.le_refl _)
      · exact xWc.i846 (by decide)
      · exact xWc.iln y1 y2 (Nat.le_refl _)
    · rcases y with y | ⟨y, rfl⟩
      · exact x_nm y
      · exact Or.inr (Or.inr (Or.inl ⟨by omega, by omega, Nat.le_refl _⟩))
  obtain ⟨hm', cx, td, ba, kn', vv⟩ := E
  rcases q3 with ⟨q3, q4⟩ | ⟨q3, q4, q5, q6, q7, q8, q9, q10⟩
  · refine fin l (Nat.le_refl _) (by omega) q4 ⟨Y, hY, w7, k58, k61, q3.elim Or.inl (fun y => Or.inr (Or.inl y))⟩ ⟨58, by decide, by decide, k55, fun z => absurd z (by decide), fun _ => ⟨Y, hY, w7, k58, k61, Or.inl ?_⟩, fun z => by omega, fun z => absurd z (by decide)⟩ (fun a y1 y2 => by omega)
    rcases q3 with ⟨a, _⟩ | ⟨a, _⟩
    · exact fun y => by have y : vv Y = 0 := y; have a : 1 ≤ vv Y := a; omega
    · exact fun y => by have y : vv Y = 0 := y; have a : 9 ≤ vv Y := a; omega
  · have en3 : w_en hm' c3 r5 l m 12 (r5.1 956 m) := ⟨Y, hY, q7, q8, w7, by rw [q6, k56]; exact p9, q9⟩
    refine fin (l + 1) (by omega) (Nat.le_refl _) q5 ⟨Y, hY, w7, k58, k61, Or.inr (Or.inr ⟨q3, q4, l, Nat.le_refl _, by omega, en3, q10⟩)⟩ ⟨58, by decide, by decide, k55, fun z => absurd z (by decide), fun _ => ⟨Y, hY, w7, k58, k61, Or.inr ⟨l, Nat.le_refl _, by omega, en3⟩⟩, fun z => by omega, fun z => absurd z (by decide)⟩ (fun a y1 y2 => by rw [show a = l by omega]; exact Or.inr (Or.inl ⟨k55, en3, ⟨Y, hY, w7, q3⟩, k58, k61⟩))
end
