/-! Level 2: records of exps on both sides: a field's node. -/
theorem h2_aR {T U V W : Type} {a : Option T} {o : Option U} {f : U → Option V} {g : V → Option W} {Q : T → W → Prop} (h : t_h2 a (o.bind (fun x => (f x).bind g)) Q) : t_h2 a ((o.bind f).bind g) Q := by
  rw [Option.bind_assoc]
  exact h
theorem h2_aL {T U V W : Type} {b : Option T} {o : Option U} {f : U → Option V} {g : V → Option W} {Q : W → T → Prop} (h : t_h2 (o.bind (fun x => (f x).bind g)) b Q) : t_h2 ((o.bind f).bind g) b Q := by
  rw [Option.bind_assoc]
  exact h
section
variable {P : pc_S} {E : en_S} {xd : Int32} {EB PB IB m0 u q m t e p l w o s i dd v u' q' m' t' e' p' l' s' i' : Nat} {M X : Nat → Nat} {c0 r0 c rh r : t_S} {rc : RT_X6_readBase} {rR : RT_X13_base}
noncomputable def efC (rc : RT_X6_readBase) (xd : Int32) (o v : Nat) (c : t_S) : Option ((Int32 × Int32 × Int32 × t_S) ⊕ t_S) := (rc.2.2.1 (xd + 1) c).bind (fun r5 => (f_X2_take (44 : Int32) r5.2).bind (fun r6 => if r6.1 = (0 : Int32) then ((k_X6_readExpFields_163 rc (nI o) r6.2).map Sum.inr) else (some (.inl (xd, nI o, (nI v + 1), r6.2)))))
theorem xF.ef2 {f p0 w' : Nat} (hB : ∀ x, bC2 (rc.2.2.1 x)) (h : xF f p0 t e p l w o w' c0 c) : t_hk (efC rc xd o v c) (fun y => ∃ r, y = .inr r ∧ xF f p0 t e p l w o w' c0 r) := by
  unfold efC
  exact l2_bd _ (hB _ _ _ _ _ _ _ _ _ _ _ _ h) (fun y h1 => h1.ef44 _ _)
theorem xg_node {x : Nat} (hm : m0 < m) (hm3 : m0 ≤ 12999) (hv : v < 16) (hb : xb P EB PB IB u q t e p l w o s i dd) (hod : o + 16 ≤ 16 * dd) (hE : hE_R rc rR dd) (hx : xd + 1 = nI dd) (hB : ∀ x, bC2 (rc.2.2.1 x)) (T : xT rR) (k1 : rk P u q t e p l s i u' q' t' e' p' l' s' i') (k2 : 2 * e' + 4 * v + 3 * q ≤ 2 * e + 3 * q') (H : xg_H P E m0 m t e p l w o s i dd c0 r0 v M X u' q' m' t' e' p' l' s' i' c rh) (hx2 : x < 7934) (hne : ∀ j, j < v → X j ≠ x) (k8 : c.1 1 8 = 1) (ww : f_X2_word c = nI (66 + x)) (nr : l2_fr nm_W rh r) (J : pj P u' 1 0 q' m' c r) :
    t_h2 (k_X6_readExpFields_87 rc xd (nI o) (nI v) c) ((k_X13_fieldHere_48 (nI m0) 71 (nI x) r).bind (fxR1 rR m0 v)) (h2_nx (b_X6_readExpFields_19 rc) (b_X13_fieldExps_17 rR) (fun x y => ∃ j, j < 17 - v ∧ xgI P E xd m0 u q m t e p l w o s i dd c0 r0 j x y) (xgQ P E m0 u q m t e p l w o s i dd c0 r0)) := by
  have hb2 := k1.bnd hb
  unfold xb at hb2
  have k1' := k1
  unfold rk at k1'
  have ple := J.ple
  have cle := J.cle
  have HH := H
  obtain ⟨X0, hmm, fc, fr, bM, ch, dis, hX, D, Ee, TT, N, bE, bT, hj⟩ := HH
  have Y : xp P E u' 1 0 q' m' t' e' p' l' w (o + v) s' i' dd c r := X0.fr J (l2_fr.rf (W := fun _ _ => False)) nr (fun b j _ y => y) (fun b i _ _ y => y) (fun j y => by unfold nm_W; omega)
  have fr0 : l2_fr (xWr m0 s) r0 r := (fr.mono (fun b j y => by
    rcases y with y | ⟨rfl, rfl⟩
    · exact y.sub (by omega) (Nat.le_refl _)
    · exact Or.inr (Or.inr (Or.inl ⟨by decide, by decide, Nat.le_refl _⟩)))).trans (nr.mono (fun b j y => x_nm y))
  unfold k_X6_readExpFields_87 k_X13_fieldHere_48
  rw [Option.bind_assoc]
  refine h2_bb _ (xp_node (K := 71) Y (by decide) s) (fun c1 y hy => ?_)
  obtain ⟨y0, r1⟩ := y
  rcases hy with ⟨hq, g1, hm2, y1, y2, y3, y4, X1⟩ | ⟨g1, f, p0, y1, y2, ⟨j, j1, j2, j3⟩, y4, y5⟩
  rotate_left
  · have j3 : y0 = nI j := j3
    subst j3
    have hF : xF f p0 t e p l w o w c0 c1 := xF.of Y (by omega) (by omega) ⟨Nat.le_refl _, by omega⟩ ⟨by omega, by omega⟩ fc g1 (fun b j z => x_la z) ⟨by unfold la_W; omega, by unfold la_W; omega, by unfold la_W; omega⟩ (fun j => by unfold la_W; omega) y1 xw.nil
    have hR' : xR P f p0 m0 s r0 r1 := y2.sub fr0 (by omega) (Nat.le_refl _)
    refine xg_flt (l2_no y1.ne (l2_mp (l2_sm ⟨_, rfl, hF⟩))) (l2_bd (fun y => xR P f p0 m0 s r0 y.2) (l2_ck (l2_ix j2 (by decide)) (l2_lt (l2_lt ?_))) (fun y hy => hy.fxR1a T))
    rw [nI_clamp (n := j) (by omega)]
    have h2 := hR'.setJ (b := 957) (v := (nI x).toInt64) (j := j) ⟨by decide, by decide, by omega⟩
    have h3 := h2.set (b := 1003) (j := j) (v := (t_setJ r1 957 j (nI x).toInt64).1 950 6) (Or.inr (Or.inl ⟨rfl, by omega⟩))
    exact l2_eq (h3.hang _ _) (l2_bd _ h3.next (fun r4 h4 => l2_bd _ (h4.mustBe _) (fun r5 h5 => l2_sm h5)))
  have y1 : y0 = nI m' := y1
  subst y1
  rw [if_neg (by decide)] at X1
  have X1 : xp P E u' 1 1 (q' + 1) (m' + 1) t' e' p' l' w (o + v) s' i' dd c1 r1 := X1
  have y2 : l2_fr (xn_W m') r r1 := y2
  have y3 : nd_at r1 m' (nI 71) (r.1 950 6) := y3
  obtain ⟨d1, d2, d3, d4, d5, d6, d7⟩ := y3
  have k81 : c1.1 1 8 = 1 := by rw [(g1 1 8 (by omega)).1]; exact k8
  have w1 : f_X2_word c1 = nI (66 + x) := by
    rw [← ww]
    show (c1.2.1 1 10).toInt32 = (c.2.1 1 10).toInt32
    rw [(g1 1 10 (by omega)).2.1]
  have o9 : c1.1 845 9 = nI (o + v) := X1.2.2.2.2.2.2.2.1
  refine h2_ckL X1.1.f0.1 ?_
  rw [tk_ltK k81 X1.1.f0.1]
  refine h2_aL (h2_bL _ (ltK_h X1 hx2 w1) (fun c2 hc2 => ?_))
  obtain ⟨g2, hL⟩ := hc2
  -- the reference: the name, its place, the node hangs
  show t_h2 _ ((if t_ix (nI m') 13000 = true then _ else _ : Option (Int32 × t_S)).bind (fxR1 rR m0 v)) _
  rw [if_pos (l2_ix (by omega) (by decide)), nI_clamp (n := m') (by omega)]
  show t_h2 _ (((f_X13_hang (nI m0) (nI m') (t_setI (t_setJ r1 957 m' (nI x).toInt64) 1003 m' ((t_setJ r1 957 m' (nI x).toInt64).1 950 6))).bind (fun r3 => (f_X13_next r3).bind (fun r4 => (f_X13_mustBe 14909 r4).bind (fun r5 => some (nI m', r5))))).bind (fxR1 rR m0 v)) _
  refine h2_aR ?_
  have g5 : l2_fr (fun b j => (b = 957 ∨ b = 1003) ∧ j = m') r1 (t_setI (t_setJ r1 957 m' (nI x).toInt64) 1003 m' ((t_setJ r1 957 m' (nI x).toInt64).1 950 6)) := (l2_fr.setJ ⟨Or.inl rfl, rfl⟩).trans (l2_fr.set ⟨Or.inr rfl, rfl⟩)
  have w7 : (t_setI (t_setJ r1 957 m' (nI x).toInt64) 1003 m' ((t_setJ r1 957 m' (nI x).toInt64).1 950 6)).2.1 957 m' = lN x := by
    show (t_setJ r1 957 m' (nI x).toInt64).2.1 957 m' = lN x
    simp only [l2_gJ, reduceIte]
    exact nI_l (by omega)
  have w3 : (t_setI (t_setJ r1 957 m' (nI x).toInt64) 1003 m' ((t_setJ r1 957 m' (nI x).toInt64).1 950 6)).1 1003 m' = nI (pc_p P u') := by
    simp only [l2_gI, l2_gJI, reduceIte]
    exact X1.1.cle.2.2.1
  generalize t_setI (t_setJ r1 957 m' (nI x).toInt64) 1003 m' ((t_setJ r1 957 m' (nI x).toInt64).1 950 6) = r2 at *
  have Mj : ∀ j, j < v → m ≤ M j ∧ M j < m' := fun j y => by
    have a := bM.in y
    have b := (hj j y).2.1
    omega
  have r02 : l2_fr (fun b j => nm_W b j ∨ xn_W m' b j ∨ (b = 1003 ∧ j = m')) rh r2 := ((nr.mono (fun b j y => Or.inl y)).trans (y2.mono (fun b j y => Or.inr (Or.inl y)))).trans (g5.mono (fun b j y => by
    obtain ⟨y | y, rfl⟩ := y
    · exact Or.inr (Or.inl (Or.inl ⟨by omega, by omega, rfl⟩))
    · exact Or.inr (Or.inr ⟨y, rfl⟩)))
  have ch2 : ch_R r2 m0 v M := ⟨by rw [(r02 959 m0 (by unfold nm_W xn_W; omega)).1]; exact ch.1, fun j y => by
    have := Mj j y
    rw [(r02 960 (M j) (by unfold nm_W xn_W; omega)).1]
    exact ch.2 j y⟩
  refine h2_bR _ (ch_hang ch2 (by omega) (by omega) (by omega) (by rw [(g5 950 2 (by omega)).1]; exact X1.1.f0.2) (by rw [(g5 960 m' (by omega)).1]; exact d6) (fun j y => (Mj j y).2)) (fun r3 hr => ?_)
  obtain ⟨ch3, f3⟩ := hr
  have X3 := X1.own g2 g5 (fun b j y => by omega) (fun b j y => by omega)
  have X4 := X3.own (l2_fr.rf (W := fun _ _ => False)) f3 (fun b j y => y.elim) (fun b j y => by omega)
  have k84 : c2.1 1 8 = 1 := by rw [(g2 1 8 (by omega)).1]; exact k81
  have gr3 : l2_fr (fun b j => rn_W b j ∨ nm_W b j ∨ xn_W m' b j ∨ (b = 1003 ∧ j = m') ∨ (b = 959 ∧ j = m0 ∧ v = 0) ∨ (b = 960 ∧ 0 < v ∧ j = M (v - 1))) rh r3 := (r02.mono (fun b j y => by
    rcases y with y | y | y
    · exact Or.inr (Or.inl y)
    · exact Or.inr (Or.inr (Or.inl y))
    · exact Or.inr (Or.inr (Or.inr (Or.inl y))))).trans (f3.mono (fun b j y => Or.inr (Or.inr (Or.inr (Or.inr y)))))
  have gc2 : l2_fr (fun b j => la_W b j ∨ (b = 845 ∧ (j = 9 ∨ j = 10)) ∨ (b = 846 ∧ (j = 7 ∨ j = 8)) ∨ (b = 855 ∧ j = o + v)) c c2 := (g1.mono (fun b j y => Or.inr (Or.inl ⟨y.1, Or.inr y.2⟩))).trans (g2.mono (fun b j y => Or.inr (Or.inr (Or.inl y))))
  have up : ∀ b j, (la_W b j ∨ (b = 845 ∧ (j = 9 ∨ j = 10)) ∨ (b = 846 ∧ (j = 7 ∨ j = 8)) ∨ (b = 855 ∧ j = o + v)) → xWc t e p l w o b j := fun b j y => by
    rcases y with y | ⟨rfl, y⟩ | ⟨rfl, y⟩ | ⟨rfl, rfl⟩
    · exact x_la y
    · exact xWc.i845 (by omega)
    · exact xWc.i846 (by omega)
    · exact xWc.inm (by omega)
  have fc2 : l2_fr (xWc t e p l w o) c0 c2 := fc.trans (gc2.mono up)
  have fr3 : l2_fr (xWr m0 s) r0 r3 := ((fr0.trans (y2.mono (fun b j y => (xn_r y).sub (by omega) (Nat.le_refl _)))).trans (g5.mono (fun b j y => by unfold xWr; omega))).trans (f3.mono (fun b j y => by
    rcases y with ⟨rfl, rfl, _⟩ | ⟨rfl, y, rfl⟩
    · exact Or.inr (Or.inr (Or.inl ⟨by decide, by decide, Nat.le_refl _⟩))
    · exact Or.inr (Or.inr (Or.inl ⟨by decide, by decide, by have := Mj (v - 1) (by omega); omega⟩))))
  refine h2_aL (h2_aR (h2_bb _ (xp_adv X4 (by decide) (Or.inl rfl) (by rw [k84]; decide)) (fun c3 r4 hw => ?_)))
  obtain ⟨a1, a2, a3⟩ := hw
  have fc3 := fc2.trans (a1.mono (fun b j y => x_la y))
  have fr4 := fr3.trans (a2.mono (fun b j y => x_rn y))
  have o93 : c3.1 845 9 = nI (o + v) := by rw [(a1 845 9 (by unfold la_W; omega)).1, (g2 845 9 (by omega)).1]; exact o9
  -- the name is open
  show t_h2 (if t_ix (c1.1 845 9) 288 = true then t_let (t_setI c3 855 ((c1.1 845 9).toNatClampNeg) (f_X2_word c1)) (fun s1 => t_let (t_setI s1 845 9 ((s1.1 845 9) + (1 : Int32))) (fun s2 => (f_X2_need (11 : Int32) s2).bind (fun r4 => efC rc xd o v r4))) else none) _ _
  rw [o9, if_pos (l2_ix (by omega) (by decide)), nI_clamp (n := o + v) (by omega), w1]
  have n9 : (t_setI c3 855 (o + v) (nI (66 + x))).1 845 9 + (1 : Int32) = nI (o + v + 1) := by
    simp only [l2_gI, Nat.reduceEqDiff, reduceIte]
    rw [o93, nI_1]
  show t_h2 ((f_X2_need 11 (t_setI (t_setI c3 855 (o + v) (nI (66 + x))) 845 9 ((t_setI c3 855 (o + v) (nI (66 + x))).1 845 9 + 1))).bind (fun r4 => efC rc xd o v r4)) _ _
  rw [n9]
  rcases a3 with ⟨X5, l1, l2⟩ | a3
  rotate_left
  · obtain ⟨f, p0, q1, q2⟩ := xf.of (o0 := o) (m0 := m0) (s0 := s) X4 (by decide) (by omega) (by omega) ⟨Nat.le_refl _, by omega⟩ ⟨by omega, by omega, by omega, by omega⟩ fc2 fr3 a1 a2 a3 xw.nil
    have hF := q1.open1 (j := o + v) (n := o + v + 1) (v := nI (66 + x)) (by omega) ⟨by omega, by omega⟩
    exact xg_flt (l2_eq (hF.stay.2.2.1 11 (by decide)).1 (hF.ef2 hB)) (l2_bd (fun y => xR P f p0 m0 s r0 y.2) (l2_bd _ (q2.mustBe _) (fun r6 h6 => l2_sm h6)) (fun y hy => hy.fxR1a T))
  have g4 : l2_fr (fun b i => (b = 855 ∧ i = o + v) ∨ (b = 845 ∧ i = 9)) c3 (t_setI (t_setI c3 855 (o + v) (nI (66 + x))) 845 9 (nI (o + v + 1))) := (l2_fr.set (Or.inl ⟨rfl, rfl⟩)).trans (l2_fr.set (Or.inr ⟨rfl, rfl⟩))
  have v9 : (t_setI (t_setI c3 855 (o + v) (nI (66 + x))) 845 9 (nI (o + v + 1))).1 845 9 = nI (o + v + 1) := by simp only [l2_gI, Nat.reduceEqDiff, reduceIte]
  have v5 : (t_setI (t_setI c3 855 (o + v) (nI (66 + x))) 845 9 (nI (o + v + 1))).1 855 (o + v) = nI (66 + x) := by simp only [l2_gI, Nat.reduceEqDiff, reduceIte]
  generalize t_setI (t_setI c3 855 (o + v) (nI (66 + x))) 845 9 (nI (o + v + 1)) = c4 at *
  have X6 : xp P E (u' + 1) 0 0 (q' + 1) (m' + 1) t' e' p' l' w (o + v + 1) s' i' dd c4 r4 := by
    obtain ⟨x1, x2, x3, x4, x5, x6, x7, x8, x9, x10, x11⟩ := X5
    have nf : l2_fr (fun _ _ => False) r4 r4 := l2_fr.rf
    refine ⟨x1.fr g4 nf (fun j => by omega) (fun b i _ _ => by omega) (fun b i _ _ => by omega) (by omega) (fun j _ y => y) (fun b i _ _ y => y), x2.fr g4 nf (fun j _ _ => by omega) (fun b i _ _ => by omega) ⟨fun y => y, fun y => y⟩, ?_, ?_, ?_, ?_, ?_, v9, x9, x10, x11⟩
    · rw [(g4 353 9 (by omega)).1]; exact x3
    · rw [(g4 334 2 (by omega)).1]; exact x4
    · rw [(g4 334 4 (by omega)).1]; exact x5
    · rw [(g4 846 6 (by omega)).1]; exact x6
    · rw [(g4 845 7 (by omega)).1]; exact x7
  have gc4 : l2_fr (fun b j => la_W b j ∨ (b = 845 ∧ (j = 9 ∨ j = 10)) ∨ (b = 846 ∧ (j = 7 ∨ j = 8)) ∨ (b = 855 ∧ j = o + v)) c c4 := (gc2.trans (a1.mono (fun b j y => Or.inl y))).trans (g4.mono (fun b j y => by
    rcases y with y | y
    · exact Or.inr (Or.inr (Or.inr y))
    · exact Or.inr (Or.inl ⟨y.1, Or.inl y.2⟩)))
  have fc4 : l2_fr (xWc t e p l w o) c0 c4 := fc.trans (gc4.mono up)
  refine h2_aR (h2_bb _ (xp_need X6 (by decide) (x := 11) (by decide) rfl) (fun c6 r6 hw => ?_))
  obtain ⟨v1, v2, v3⟩ := hw
  rcases v3 with ⟨X7, l3, l4⟩ | v3
  rotate_left
  · obtain ⟨f, p0, q1, q2⟩ := xf.of (o0 := o) (m0 := m0) (s0 := s) X6 (by decide) (by omega) (by omega) ⟨Nat.le_refl _, by omega⟩ ⟨by omega, by omega, by omega, by omega⟩ fc4 fr4 v1 v2 v3 xw.nil
    exact xg_flt (q1.ef2 hB) (l2_eq rfl (xR.fxR1a (y := (nI m', r6)) T q2))
  have rr : ∀ b j, ¬ rn_W b j → r6.1 b j = r3.1 b j ∧ r6.2.1 b j = r3.2.1 b j := fun b j y => by
    rw [(v2 b j y).1, (a2 b j y).1, (v2 b j y).2.1, (a2 b j y).2.1]
    exact ⟨rfl, rfl⟩
  have m3 : ∀ b, (955 ≤ b ∧ b ≤ 962) ∨ b = 1003 → r3.1 b m' = r2.1 b m' ∧ r3.2.1 b m' = r2.2.1 b m' := fun b y1 => by
    have q := f3 b m' (fun z => by
      rcases z with ⟨_, z, _⟩ | ⟨_, z1, z⟩
      · omega
      · have := Mj (v - 1) (by omega); omega)
    exact ⟨q.1, q.2.1⟩
  refine h2_eR rfl (xg_tail (pl := pc_p P u') hm hv hb hod hE hx T k1 k2 H hx2 hne cle.2.2.2 ⟨by omega, by omega, by omega⟩ X7 (gc4.trans (v1.mono (fun b j y => Or.inl y))) (gr3.trans ((a2.trans v2).mono (fun b j y => Or.inl y))) ?_ ?_ ?_ ?_ ?_ ⟨?_, fun j y => ?_⟩ (fun S hS => ?_) (fc4.trans (v1.mono (fun b j y => x_la y))) (fr4.trans (v2.mono (fun b j y => x_rn y))))
  · rw [(v1 855 _ (by unfold la_W; omega)).1]; exact v5
  · rw [(rr 955 m' (by unfold rn_W; omega)).1, (m3 955 (by decide)).1, (g5 955 m' (by omega)).1]; exact d1
  · rw [(rr 957 m' (by unfold rn_W; omega)).2, (m3 957 (by decide)).2]; exact w7
  · rw [(rr 1003 m' (by unfold rn_W; omega)).1, (m3 1003 (by decide)).1]; exact w3
  · rw [(rr 959 m' (by unfold rn_W; omega)).1, (m3 959 (by decide)).1, (g5 959 m' (by omega)).1]; exact d5
  · rw [(rr 959 m0 (by unfold rn_W; omega)).1]; exact ch3.1
  · rw [(rr 960 _ (by unfold rn_W; omega)).1]; exact ch3.2 j y
  · have e1 := hL S (hS.same (g1 846 7 (by omega)).1 (g1 846 8 (by omega)).1)
    refine e1.same ?_ ?_
    · rw [(v1 846 7 (by unfold la_W; omega)).1, (g4 846 7 (by omega)).1, (a1 846 7 (by unfold la_W; omega)).1]
    · rw [(v1 846 8 (by unfold la_W; omega)).1, (g4 846 8 (by omega)).1, (a1 846 8 (by unfold la_W; omega)).1]
end
