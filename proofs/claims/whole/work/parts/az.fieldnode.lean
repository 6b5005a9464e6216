/-! Level 2: records of templs on both sides: a field's nodes. -/
section
variable {P : pc_S} {E : en_S} {lv xd : Int32} {EB PB IB t0 m0 u q m t e p l w o s i dd v u' q' m' t' e' p' l' s' i' : Nat} {T M X : Nat → Nat} {c0 r0 c rh r : t_S} {rcC : RT_X6_readBase} {rR : RT_X13_base} {l5 : Int32}
theorem fd_node {x : Nat} (ht : t0 < t) (ht3 : t0 < 6100) (hm : m0 < m) (hv : v < 16) (hb : xb P EB PB IB u q t e p l w o s i dd) (hT : hT_R rcC rR dd) (hx : xd + 1 = nI dd) (hB : ∀ x y, bC2 (rcC.2.2.2.2.2.2.2.2.2.2.2.2.2.1 x y)) (hR : xT rR) (k1 : rk P u q t e p l s i u' q' t' e' p' l' s' i') (H : fd_H P E lv t0 m0 m t e p l w o s i dd c0 r0 v T M X u' q' m' t' e' p' l' s' i' c rh) (hl5 : l5 = (if 0 < v then nI (T (v - 1)) else -1)) (hx2 : x < 7934) (hne : ∀ j, j < v → X j ≠ x) (k8 : c.1 1 8 = 1) (ww : f_X2_word c = nI (66 + x)) (nr : l2_fr nm_W rh r) (J : pj P u' 1 0 q' m' c r) :
    t_h2 (k_X6_readTemplFields_100 rcC (nI t0) xd lv l5 (nI v) c) ((k_X13_fieldHere_48 (nI m0) 40 (nI x) r).bind (fdR1 rR m0 v)) (h2_nx (b_X6_readTemplFields_30 rcC) (b_X13_fieldTempls_17 rR) (fun x y => ∃ j, j < 17 - v ∧ fdI P E lv xd t0 m0 u q m t e p l w o s i dd c0 r0 j x y) (fdQ P E lv t0 m0 u q m t e p l w o s i dd c0 r0)) := by
  have hb2 := k1.bnd hb
  unfold xb at hb2
  have k2 := k1
  unfold rk at k2
  have ple := J.ple
  have HR : ∀ r : t_S, r.1 950 2 ≠ 0 → rR.2.2.2.2.2.2.2.1 r = some (0, r) := fun r h => (hR.1 r h).2.2.2
  have HH := H
  obtain ⟨X0, hmm, fc, fr, bT, bM, tc, ch, dis, D, Ee, N, bE, hj⟩ := HH
  have Y : xp P E u' 1 0 q' m' t' e' p' l' w o s' i' dd c r := X0.fr J (l2_fr.rf (W := fun _ _ => False)) nr (fun b j _ y => y) (fun b i _ _ y => y) (fun j y => by unfold nm_W; omega)
  have fc0 : l2_fr (xWc t0 e p l w o) c0 c := fc.mono (fun b j y => by
    rcases y with y | ⟨rfl, rfl⟩
    · exact y.sub (by omega) (Nat.le_refl _) (Nat.le_refl _) (Nat.le_refl _) (Nat.le_refl _) (Nat.le_refl _)
    · exact xWc.itm (by decide) (by decide) (Nat.le_refl _))
  have fr0 : l2_fr (xWr m0 s) r0 r := (fr.mono (fun b j y => by
    rcases y with y | ⟨rfl, rfl⟩
    · exact y.sub (by omega) (Nat.le_refl _)
    · exact Or.inr (Or.inr (Or.inl ⟨by decide, by decide, Nat.le_refl _⟩)))).trans (nr.mono (fun b j y => x_nm y))
  unfold k_X6_readTemplFields_100 k_X13_fieldHere_48
  rw [Option.bind_assoc]
  refine h2_bb _ (xp_node (K := 40) Y (by decide) s) (fun c1 y hy => ?_)
  obtain ⟨y0, r1⟩ := y
  rcases hy with ⟨hq, g1, hm2, y1, y2, y3, y4, X1⟩ | ⟨g1, f, p0, y1, y2, ⟨j, j1, j2, j3⟩, y4, y5⟩
  rotate_left
  · have j3 : y0 = nI j := j3
    subst j3
    have hF : xF f p0 t0 e p l w o w c0 c1 := xF.of Y (by omega) (by omega) ⟨Nat.le_refl _, by omega⟩ ⟨by omega, Nat.le_refl _⟩ fc0 g1 (fun b j z => x_la z) ⟨by unfold la_W; omega, by unfold la_W; omega, by unfold la_W; omega⟩ (fun j => by unfold la_W; omega) y1 xw.nil
    have hR' : xR P f p0 m0 s r0 r1 := y2.sub fr0 (by omega) (Nat.le_refl _)
    refine fd_flt (by omega) (l2_no y1.ne (l2_mp (l2_sm ⟨_, rfl, hF⟩))) (l2_bd (fun y => xR P f p0 m0 s r0 y.2) (l2_ck (l2_ix j2 (by decide)) (l2_lt (l2_lt ?_))) (fun y hy => hy.fdR1 HR))
    rw [nI_clamp (n := j) (by omega)]
    have h2 := hR'.setJ (b := 957) (v := (nI x).toInt64) (j := j) ⟨by decide, by decide, by omega⟩
    have h3 := h2.set (b := 1003) (j := j) (v := (t_setJ r1 957 j (nI x).toInt64).1 950 6) (Or.inr (Or.inl ⟨rfl, by omega⟩))
    exact l2_eq (h3.hang _ _) (l2_bd _ h3.next (fun r4 h4 => l2_bd _ (h4.mustBe _) (fun r5 h5 => l2_sm h5)))
  have y1 : y0 = nI m' := y1
  subst y1
  rw [if_pos (by decide)] at X1
  have X1 : xp P E u' 1 1 (q' + 1) (m' + 1) t' e' p' l' w o s' (i' + 1) dd c1 r1 := X1
  have y2 : l2_fr (xn_W m') r r1 := y2
  have y3 : nd_at r1 m' (nI 40) (r.1 950 6) := y3
  have y4 : r1.1 962 m' = nI i' := y4 (by decide)
  refine h2_ckL X1.1.f0.1 (h2_bL _ (tm_add (-1000) X1.2.2.1 (by omega)) (fun z hz => ?_))
  obtain ⟨z0, c2⟩ := z
  obtain ⟨z1, z2, z3, z4⟩ := hz
  have z1 : z0 = nI t' := z1
  subst z1
  have z2 : l2_fr (tm_W t') c1 c2 := z2
  have z3 : c2.1 353 9 = nI (t' + 1) := z3
  have z4 : tm_at c2 t' (-1000) := z4
  obtain ⟨t1, t2, t3, t4, t5, t6, t7, t8, t9⟩ := z4
  obtain ⟨d1, d2, d3, d4, d5, d6, d7⟩ := y3
  refine h2_ckL (l2_ix (by omega) (by decide)) (h2_lL (h2_lL ?_))
  rw [nI_clamp (n := t') (by omega)]
  have e2w : f_X2_word (t_setI c2 354 t' 19) = nI (66 + x) := by
    rw [← ww]
    show (c2.2.1 1 10).toInt32 = (c.2.1 1 10).toInt32
    rw [(z2 1 10 (by unfold tm_W; omega)).2.1, (g1 1 10 (by omega)).2.1]
  have g3 : l2_fr (fun b j => (b = 354 ∨ b = 357) ∧ j = t') c2 (t_setI (t_setI c2 354 t' 19) 357 t' (f_X2_word (t_setI c2 354 t' 19))) := (l2_fr.set ⟨Or.inl rfl, rfl⟩).trans (l2_fr.set ⟨Or.inr rfl, rfl⟩)
  have w54 : (t_setI (t_setI c2 354 t' 19) 357 t' (f_X2_word (t_setI c2 354 t' 19))).1 354 t' = 19 := by simp only [l2_gI, Nat.reduceEqDiff, false_and, reduceIte]
  have w57 : (t_setI (t_setI c2 354 t' 19) 357 t' (f_X2_word (t_setI c2 354 t' 19))).1 357 t' = nI (66 + x) := by
    simp only [l2_gI, reduceIte]
    exact e2w
  generalize t_setI (t_setI c2 354 t' 19) 357 t' (f_X2_word (t_setI c2 354 t' 19)) = c3 at *
  have X2 : xp P E u' 1 1 (q' + 1) (m' + 1) (t' + 1) e' p' l' w o s' (i' + 1) dd c2 r1 := by
    obtain ⟨x1, x2, x3, x4, x5, x6, x7, x8, x9, x10, x11⟩ := X1
    refine ⟨x1.fr z2 (l2_fr.rf (W := fun _ _ => False)) (fun j => by unfold tm_W; omega) (fun b i _ _ => by unfold tm_W; omega) (fun b i _ _ => by unfold tm_W; omega) (by unfold tm_W; omega) (fun j _ y => y) (fun b i _ _ y => y), x2.fr z2 (l2_fr.rf (W := fun _ _ => False)) (fun j _ _ => by unfold tm_W; omega) (fun b i _ _ => by unfold tm_W; omega) ⟨fun y => y, fun y => y⟩, z3, ?_, ?_, ?_, ?_, ?_, x9, x10, x11⟩
    · rw [(z2 334 2 (by unfold tm_W; omega)).1]; exact x4
    · rw [(z2 334 4 (by unfold tm_W; omega)).1]; exact x5
    · rw [(z2 846 6 (by unfold tm_W; omega)).1]; exact x6
    · rw [(z2 845 7 (by unfold tm_W; omega)).1]; exact x7
    · rw [(z2 845 9 (by unfold tm_W; omega)).1]; exact x8
  have Tv : T v = t' := bT.2.1
  have tt : t ≤ t' := by
    have := bT.mono 0 v (Nat.zero_le _) (Nat.le_refl _)
    have := bT.1
    omega
  have Mj : ∀ j, j < v → m ≤ M j ∧ M j < m' := fun j y => by
    have a := bM.in y
    have b := (hj j y).2.2.1
    omega
  -- the class behind a fault, from the templ on
  have cls2 : ∀ {f p0 : Nat} {c5 : t_S}, xF f p0 t0 e p l w o w c0 c5 → t_hk ((rcC.2.2.2.2.2.2.2.2.2.2.2.2.2.1 (xd + 1) (lv + 1) c5).bind (fun r3 => if t_ix (nI t') 6100 = true then t_let (t_setI r3.2 355 ((nI t').toNatClampNeg) r3.1) (fun s1 => (f_X2_take (44 : Int32) s1).bind (fun r5 => if r5.1 = (0 : Int32) then ((k_X6_readTemplFields_248 rcC r5.2).map Sum.inr) else (some (.inl (nI t0, xd, lv, nI t', (nI v + 1), r5.2))))) else none)) (fun y => ∃ r, y = .inr r ∧ xF f p0 t0 e p l w o w c0 r) := fun hF => by
    unfold k_X6_readTemplFields_248
    refine l2_bd _ (hB _ _ _ _ _ _ _ _ _ _ _ _ _ hF) (fun y h1 => l2_ck (l2_ix (by omega) (by decide)) (l2_lt ?_))
    rw [nI_clamp (by omega)]
    have h2 := h1.set (b := 355) (j := t') (v := y.1) (by decide) (by omega)
    exact l2_eq (h2.stay.2.2.1 44 (by decide)).2 (l2_ck rfl (l2_mp (l2_eq (h2.stay.2.2.1 125 (by decide)).1 (l2_sm ⟨_, rfl, h2⟩))))
  have key : ∀ c4, l2_fr (fun b j => (b = 355 ∧ j = t0 ∧ v = 0) ∨ (b = 356 ∧ 0 < v ∧ j = T (v - 1))) c3 c4 → ((v = 0 → c4.1 355 t0 = nI t') ∧ (0 < v → c4.1 356 (T (v - 1)) = nI t')) → t_h2 (k_X6_readTemplFields_187 rcC (nI t0) xd lv (nI v) (nI t') c4) ((if t_ix (nI m') 13000 = true then t_let (t_setJ r1 957 ((nI m').toNatClampNeg) (nI x).toInt64) (fun s1 => t_let (t_setI s1 1003 ((nI m').toNatClampNeg) (s1.1 950 6)) (fun s2 => (f_X13_hang (nI m0) (nI m') s2).bind (fun r3 => (f_X13_next r3).bind (fun r4 => (f_X13_mustBe 14909 r4).bind (fun r5 => some (nI m', r5)))))) else none).bind (fdR1 rR m0 v)) (h2_nx (b_X6_readTemplFields_30 rcC) (b_X13_fieldTempls_17 rR) (fun x y => ∃ j, j < 17 - v ∧ fdI P E lv xd t0 m0 u q m t e p l w o s i dd c0 r0 j x y) (fdQ P E lv t0 m0 u q m t e p l w o s i dd c0 r0)) := by
    intro c4 g4 gv
    rw [if_pos (l2_ix (by omega) (by decide)), nI_clamp (n := m') (by omega)]
    show t_h2 _ (((f_X13_hang (nI m0) (nI m') (t_setI (t_setJ r1 957 m' (nI x).toInt64) 1003 m' ((t_setJ r1 957 m' (nI x).toInt64).1 950 6))).bind (fun r3 => (f_X13_next r3).bind (fun r4 => (f_X13_mustBe 14909 r4).bind (fun r5 => some (nI m', r5))))).bind (fdR1 rR m0 v)) _
    rw [Option.bind_assoc]
    have g5 : l2_fr (fun b j => (b = 957 ∨ b = 1003) ∧ j = m') r1 (t_setI (t_setJ r1 957 m' (nI x).toInt64) 1003 m' ((t_setJ r1 957 m' (nI x).toInt64).1 950 6)) := (l2_fr.setJ ⟨Or.inl rfl, rfl⟩).trans (l2_fr.set ⟨Or.inr rfl, rfl⟩)
    have w7 : (t_setI (t_setJ r1 957 m' (nI x).toInt64) 1003 m' ((t_setJ r1 957 m' (nI x).toInt64).1 950 6)).2.1 957 m' = lN x := by
      show (t_setJ r1 957 m' (nI x).toInt64).2.1 957 m' = lN x
      simp only [l2_gJ, reduceIte]
      exact nI_l (by omega)
    generalize t_setI (t_setJ r1 957 m' (nI x).toInt64) 1003 m' ((t_setJ r1 957 m' (nI x).toInt64).1 950 6) = r2 at *
    have r02 : l2_fr (fun b j => nm_W b j ∨ xn_W m' b j ∨ (b = 1003 ∧ j = m')) rh r2 := ((nr.mono (fun b j y => Or.inl y)).trans (y2.mono (fun b j y => Or.inr (Or.inl y)))).trans (g5.mono (fun b j y => by
      obtain ⟨y | y, rfl⟩ := y
      · exact Or.inr (Or.inl (Or.inl ⟨by omega, by omega, rfl⟩))
      · exact Or.inr (Or.inr ⟨y, rfl⟩)))
    have ch2 : ch_R r2 m0 v M := ⟨by rw [(r02 959 m0 (by unfold nm_W xn_W; omega)).1]; exact ch.1, fun j y => by
      have := Mj j y
      rw [(r02 960 (M j) (by unfold nm_W xn_W; omega)).1]
      exact ch.2 j y⟩
    refine h2_bR _ (ch_hang ch2 (by omega) (by omega) (by omega) (by rw [(g5 950 2 (by omega)).1]; exact X2.1.f0.2) (by rw [(g5 960 m' (by omega)).1]; exact d6) (fun j y => (Mj j y).2)) (fun r3 hr => ?_)
    obtain ⟨ch3, f3⟩ := hr
    have X3 := X2.own g3 g5 (fun b j y => by omega) (fun b j y => by omega)
    have X4 := X3.own g4 f3 (fun b j y => by omega) (fun b j y => by omega)
    have Tl : 0 < v → t ≤ T (v - 1) ∧ T (v - 1) < t' := fun y => by
      have a := bT.in (j := v - 1) (by omega)
      have b := (hj (v - 1) (by omega)).2.1
      omega
    have k84 : c4.1 1 8 = 1 := by rw [(g4 1 8 (by omega)).1, (g3 1 8 (by omega)).1, (z2 1 8 (by unfold tm_W; omega)).1, (g1 1 8 (by omega)).1]; exact k8
    have gc4 : l2_fr (fun b j => la_W b j ∨ (b = 845 ∧ j = 10) ∨ tm_W t' b j ∨ (b = 355 ∧ j = t0 ∧ v = 0) ∨ (b = 356 ∧ 0 < v ∧ j = T (v - 1))) c c4 := ((g1.mono (fun b j y => Or.inr (Or.inl y))).trans (z2.mono (fun b j y => Or.inr (Or.inr (Or.inl y))))).trans ((g3.mono (fun b j y => Or.inr (Or.inr (Or.inl (Or.inl ⟨by omega, by omega, y.2⟩))))).trans (g4.mono (fun b j y => Or.inr (Or.inr (Or.inr y)))))
    have gr3 : l2_fr (fun b j => rn_W b j ∨ nm_W b j ∨ xn_W m' b j ∨ (b = 1003 ∧ j = m') ∨ (b = 959 ∧ j = m0 ∧ v = 0) ∨ (b = 960 ∧ 0 < v ∧ j = M (v - 1))) rh r3 := (r02.mono (fun b j y => by
      rcases y with y | y | y
      · exact Or.inr (Or.inl y)
      · exact Or.inr (Or.inr (Or.inl y))
      · exact Or.inr (Or.inr (Or.inr (Or.inl y))))).trans (f3.mono (fun b j y => Or.inr (Or.inr (Or.inr (Or.inr y)))))
    have fc4 : l2_fr (xWc t0 e p l w o) c0 c4 := fc0.trans (gc4.mono (fun b j y => by
      rcases y with y | ⟨rfl, rfl⟩ | y | ⟨rfl, rfl, _⟩ | ⟨rfl, y, rfl⟩
      · exact x_la y
      · exact xWc.i845 (by decide)
      · rcases y with ⟨y1, y2, rfl⟩ | ⟨rfl, rfl⟩
        · exact xWc.itm y1 y2 (by omega)
        · exact xWc.i353
      · exact xWc.itm (by decide) (by decide) (Nat.le_refl _)
      · exact xWc.itm (by decide) (by decide) (by have := Tl y; omega)))
    have fr3 : l2_fr (xWr m0 s) r0 r3 := ((fr0.trans (y2.mono (fun b j y => (xn_r y).sub (by omega) (Nat.le_refl _)))).trans (g5.mono (fun b j y => by unfold xWr; omega))).trans (f3.mono (fun b j y => by
      rcases y with ⟨rfl, rfl, _⟩ | ⟨rfl, y, rfl⟩
      · exact Or.inr (Or.inr (Or.inl ⟨by decide, by decide, Nat.le_refl _⟩))
      · exact Or.inr (Or.inr (Or.inl ⟨by decide, by decide, by have := Mj (v - 1) (by omega); omega⟩))))
    unfold k_X6_readTemplFields_187
    rw [Option.bind_assoc]
    refine h2_bb _ (xp_adv X4 (by decide) (Or.inl rfl) (by rw [k84]; decide)) (fun c5 r5 hw => ?_)
    obtain ⟨a1, a2, a3⟩ := hw
    have fc5 := fc4.trans (a1.mono (fun b j y => x_la y))
    have fr5 := fr3.trans (a2.mono (fun b j y => x_rn y))
    rcases a3 with ⟨X5, l1, l2⟩ | ⟨f, p0, q1, q2⟩
    rotate_left
    · have hF : xF f p0 t0 e p l w o w c0 c5 := xF.of X4 (by omega) (by omega) ⟨Nat.le_refl _, by omega⟩ ⟨by omega, Nat.le_refl _⟩ fc4 a1 (fun b j z => x_la z) ⟨by unfold la_W; omega, by unfold la_W; omega, by unfold la_W; omega⟩ (fun j => by unfold la_W; omega) q1 xw.nil
      have hR' : xR P f p0 m0 s r0 r5 := (xR.of X4.1 (by decide) a2 q2 (s := s)).sub fr3 (by omega) (Nat.le_refl _)
      exact fd_flt (by omega) (l2_eq (hF.stay.2.2.1 11 (by decide)).1 (cls2 hF)) (l2_bd (fun y => xR P f p0 m0 s r0 y.2) (l2_bd _ (hR'.mustBe _) (fun r6 h6 => l2_sm h6)) (fun y hy => hy.fdR1 HR))
    rw [Option.bind_assoc]
    refine h2_bb _ (xp_need X5 (by decide) (x := 11) (by decide) rfl) (fun c6 r6 hw => ?_)
    obtain ⟨v1, v2, v3⟩ := hw
    rcases v3 with ⟨X6, l3, l4⟩ | ⟨f, p0, q1, q2⟩
    rotate_left
    · have hF : xF f p0 t0 e p l w o w c0 c6 := xF.of X5 (by omega) (by omega) ⟨Nat.le_refl _, by omega⟩ ⟨by omega, Nat.le_refl _⟩ fc5 v1 (fun b j z => x_la z) ⟨by unfold la_W; omega, by unfold la_W; omega, by unfold la_W; omega⟩ (fun j => by unfold la_W; omega) q1 xw.nil
      have hR' : xR P f p0 m0 s r0 r6 := (xR.of X5.1 (by decide) v2 q2 (s := s)).sub fr5 (by omega) (Nat.le_refl _)
      exact fd_flt (by omega) (cls2 hF) (l2_eq rfl (xR.fdR1 (y := (nI m', r6)) HR hR'))
    have cc : ∀ b j, ¬ la_W b j → c6.1 b j = c4.1 b j := fun b j y => by rw [(v1 b j y).1, (a1 b j y).1]
    have rr : ∀ b j, ¬ rn_W b j → r6.1 b j = r3.1 b j ∧ r6.2.1 b j = r3.2.1 b j := fun b j y => by
      rw [(v2 b j y).1, (a2 b j y).1, (v2 b j y).2.1, (a2 b j y).2.1]
      exact ⟨rfl, rfl⟩
    have c3t : ∀ b, 354 ≤ b → b ≤ 362 → (b = 356 → True) → c4.1 b t' = c3.1 b t' := fun b y1 y2 _ => (g4 b t' (fun z => by
      rcases z with ⟨_, z, _⟩ | ⟨_, z1, z⟩
      · omega
      · have := Tl z1; omega)).1
    have m3 : ∀ b, 955 ≤ b → b ≤ 962 → r3.1 b m' = r2.1 b m' ∧ r3.2.1 b m' = r2.2.1 b m' := fun b y1 y2 => by
      have q := f3 b m' (fun z => by
        rcases z with ⟨_, z, _⟩ | ⟨_, z1, z⟩
        · omega
        · have := Mj (v - 1) (by omega); omega)
      exact ⟨q.1, q.2.1⟩
    refine h2_eR rfl (fd_tail ht hm hv hb hT hx hR k1 H hx2 hne ⟨by omega, by omega, by omega⟩ X6 (gc4.trans ((a1.trans v1).mono (fun b j y => Or.inl y))) (gr3.trans ((a2.trans v2).mono (fun b j y => Or.inl y))) ?_ ?_ ?_ ?_ ⟨fun z => ?_, fun z => ?_⟩ ?_ ?_ ?_ ?_ ⟨?_, fun j y => ?_⟩ (fc5.trans (v1.mono (fun b j y => x_la y))) (fr5.trans (v2.mono (fun b j y => x_rn y))))
    · rw [cc 354 t' (by unfold la_W; omega), c3t 354 (by decide) (by decide) (fun _ => trivial)]; exact w54
    · rw [cc 357 t' (by unfold la_W; omega), c3t 357 (by decide) (by decide) (fun _ => trivial)]; exact w57
    · rw [cc 358 t' (by unfold la_W; omega), c3t 358 (by decide) (by decide) (fun _ => trivial), (g3 358 t' (by omega)).1]; exact t5
    · rw [cc 356 t' (by unfold la_W; omega), c3t 356 (by decide) (by decide) (fun _ => trivial), (g3 356 t' (by omega)).1]; exact t3
    · rw [cc 355 t0 (by unfold la_W; omega)]; exact gv.1 z
    · rw [cc 356 _ (by unfold la_W; omega)]; exact gv.2 z
    · rw [(rr 955 m' (by unfold rn_W; omega)).1, (m3 955 (by decide) (by decide)).1, (g5 955 m' (by omega)).1]; exact d1
    · rw [(rr 957 m' (by unfold rn_W; omega)).2, (m3 957 (by decide) (by decide)).2]; exact w7
    · rw [(rr 959 m' (by unfold rn_W; omega)).1, (m3 959 (by decide) (by decide)).1, (g5 959 m' (by omega)).1]; exact d5
    · rw [(rr 962 m' (by unfold rn_W; omega)).1, (m3 962 (by decide) (by decide)).1, (g5 962 m' (by omega)).1]; exact y4
    · rw [(rr 959 m0 (by unfold rn_W; omega)).1]; exact ch3.1
    · rw [(rr 960 _ (by unfold rn_W; omega)).1]; exact ch3.2 j y
  by_cases v0 : v = 0
  · subst v0
    refine h2_ckL rfl (h2_ckL (l2_ix ht3 (by decide)) (h2_lL ?_))
    rw [nI_clamp (n := t0) (by omega)]
    exact key _ (l2_fr.set (Or.inl ⟨rfl, rfl, rfl⟩)) ⟨fun _ => by simp only [l2_gI, reduceIte], fun y => absurd y (by decide)⟩
  · have n0 : ¬ nI v = 0 := fun y => v0 ((nI_eq (b := 0) (by omega) (by decide)).mp y)
    have e5 : l5 = nI (T (v - 1)) := by rw [hl5, if_pos (by omega)]
    have tv := bT.mono (v - 1) v (by omega) (Nat.le_refl _)
    subst e5
    refine h2_noL n0 (h2_ckL (l2_ix (by omega) (by decide)) (h2_lL ?_))
    rw [nI_clamp (n := T (v - 1)) (by omega)]
    exact key _ (l2_fr.set (Or.inr ⟨rfl, by omega, rfl⟩)) ⟨fun y => absurd y v0, fun _ => by simp only [l2_gI, reduceIte]⟩
end
