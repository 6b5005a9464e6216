/-! Level 2: lists and names as types; steps of a type behind a fault. -/
/-- the class's link, added -/
theorem ln_add {s : t_S} {l : Nat} {x1 x2 x3 x4 x5 x6 : Int32} (h : s.1 846 6 = nI l) (hl : l < 6002) : t_hk (f_X3_add x1 x2 x3 x4 x5 x6 s) (fun s' => l2_fr (fun b j => (b = 846 ∧ j = 6) ∨ (848 ≤ b ∧ b ≤ 853 ∧ j = l)) s s' ∧ s'.1 846 6 = nI (l + 1) ∧ s'.1 848 l = x2 ∧ s'.1 849 l = x1 ∧ s'.1 850 l = x3 ∧ s'.1 851 l = x4 ∧ s'.1 852 l = x5 ∧ s'.1 853 l = x6) := by
  unfold f_X3_add
  have ix : t_ix (nI l) 6002 = true := l2_ix hl (by decide)
  have cl : (nI l).toNatClampNeg = l := nI_clamp (by omega)
  rw [h]
  refine l2_ck (show nI l < (6002 : Int32) from nI_lt (b := 6002) hl (by decide)) (l2_ck ix (l2_lt ?_))
  rw [cl, show 848 + 1 * ((0 : Int32).toNatClampNeg) = 848 from rfl]
  have e1 : (t_setI s 848 l x2).1 846 6 = nI l := by rw [l2_sO (by decide)]; exact h
  rw [e1, cl, show 848 + 1 * ((1 : Int32).toNatClampNeg) = 849 from rfl]
  refine l2_ck ix (l2_lt ?_)
  have e2 : (t_setI (t_setI s 848 l x2) 849 l x1).1 846 6 = nI l := by rw [l2_sO (by decide)]; exact e1
  rw [e2, cl, show 848 + 1 * ((2 : Int32).toNatClampNeg) = 850 from rfl]
  refine l2_ck ix (l2_lt ?_)
  have e3 : (t_setI (t_setI (t_setI s 848 l x2) 849 l x1) 850 l x3).1 846 6 = nI l := by rw [l2_sO (by decide)]; exact e2
  rw [e3, cl, show 848 + 1 * ((3 : Int32).toNatClampNeg) = 851 from rfl]
  refine l2_ck ix (l2_lt ?_)
  have e4 : (t_setI (t_setI (t_setI (t_setI s 848 l x2) 849 l x1) 850 l x3) 851 l x4).1 846 6 = nI l := by rw [l2_sO (by decide)]; exact e3
  rw [e4, cl, show 848 + 1 * ((4 : Int32).toNatClampNeg) = 852 from rfl]
  refine l2_ck ix (l2_lt ?_)
  have e5 : (t_setI (t_setI (t_setI (t_setI (t_setI s 848 l x2) 849 l x1) 850 l x3) 851 l x4) 852 l x5).1 846 6 = nI l := by rw [l2_sO (by decide)]; exact e4
  rw [e5, cl, show 848 + 1 * ((5 : Int32).toNatClampNeg) = 853 from rfl]
  refine l2_ck ix (l2_lt ?_)
  have e6 : (t_setI (t_setI (t_setI (t_setI (t_setI (t_setI s 848 l x2) 849 l x1) 850 l x3) 851 l x4) 852 l x5) 853 l x6).1 846 6 = nI l := by rw [l2_sO (by decide)]; exact e5
  rw [e6, nI_1]
  refine l2_lt (l2_sm ⟨?_, ?_, ?_, ?_, ?_, ?_, ?_, ?_⟩)
  · exact ((((((l2_fr.set (Or.inr ⟨by decide, by decide, rfl⟩)).trans (l2_fr.set (Or.inr ⟨by decide, by decide, rfl⟩))).trans (l2_fr.set (Or.inr ⟨by decide, by decide, rfl⟩))).trans (l2_fr.set (Or.inr ⟨by decide, by decide, rfl⟩))).trans (l2_fr.set (Or.inr ⟨by decide, by decide, rfl⟩))).trans (l2_fr.set (Or.inr ⟨by decide, by decide, rfl⟩))).trans (l2_fr.set (Or.inl ⟨rfl, rfl⟩))
  all_goals simp only [l2_gI, Nat.reduceEqDiff, reduceIte, eq_self]
theorem ty_0 {a g l b j : Nat} (h : ty_Wc a g l b j) : ty_Wc 0 0 0 b j := h.sub (Nat.zero_le _) (Nat.zero_le _) (Nat.zero_le _)
/-- .. of: the type behind a list's span -/
theorem ty_257 {P : pc_S} {u v q m a g l dd lo hi : Nat} {c r c4 r4 : t_S} {rcC : RT_X6_readFields} {RC : RT_X13_fields} (HT : ∀ P u q m a g l c r, tp P u 0 0 q m a g l (dd + 1) c r → t_h2 (rcC.2 (nI (dd + 1)) c) (RC.2 r) (ty_R P u q m a g l (dd + 1) c r)) (HC : ∀ c f p, lc_F c f p → ∀ x, t_hk (rcC.2 x c) (fun y => lc_F y.2 f p ∧ l2_fr (ty_Wc 0 0 0) c y.2)) (HR : ∀ P f p r, pr P f p r → RC.2 r = some (0, r)) (hd : dd ≤ 16) (hu : u < v) (h1 : a < 3001) (h2 : m < 12999) (T : tp P v 0 0 (q + 1) (m + 1) (a + 1) g l (dd + 1) c4 r4) (fc : l2_fr (ty_Wc a g l) c c4) (fr : l2_fr (ty_Wr m) r r4) (c17 : c4.1 317 a = nI 7) (r55 : r4.1 955 m = nI 7) (r59 : r4.1 959 m = -1) (r60 : r4.1 960 m = -1) (s1 : lo ≤ hi) (s2 : hi ≤ 16) (s3 : c4.2.1 322 a = lN lo) (s4 : c4.2.1 323 a = lN hi) (s5 : r4.2.1 957 m = lN lo) (s6 : r4.2.1 958 m = lN hi) (D : ty_D c c4 r4 l l m (m + 1)) : t_h2 (k_X6_readType_257 rcC (nI dd) (nI a) c4) (k_X13_type_168 RC (nI m) r4) (ty_R P u q m a g l dd c r) := by
  have J := T.1
  have ca : (nI a).toNatClampNeg = a := nI_clamp (by omega)
  have ix : t_ix (nI a) 3001 = true := l2_ix h1 (by decide)
  unfold k_X6_readType_257 k_X13_type_168
  rw [nI_1]
  refine h2_bb _ (pj_needW J (by decide) (x := 17) (by decide) (s := 17) rfl) (fun c5 r5 w => ?_)
  obtain ⟨w1, w2, w3⟩ := w
  have fc5 : l2_fr (ty_Wc a g l) c c5 := fc.trans (w1.mono (fun b j y => ty_la y))
  have fr5 : l2_fr (ty_Wr m) r r5 := fr.trans (w2.mono (fun b j y => ty_rn y))
  rcases w3 with w3 | ⟨f, p, w3, w4⟩
  rotate_left
  · refine h2_bL _ (HC c5 f p w3 (nI (dd + 1))) (fun y hy => ?_)
    obtain ⟨yv, c6⟩ := y
    refine h2_ckL ix (h2_lL (h2_eR (HR P f p _ w4) (h2_eR (pr_hang w4 _ _) ?_)))
    have w6 : l2_fr (fun b j => b = 318) c6 (t_setI c6 318 (nI a).toNatClampNeg yv) := l2_fr.set rfl
    rw [ty_183]
    exact h2_sm (ty_endF (f := f) (p := p) ((fc5.mono (fun b j y => ty_0 y)).trans ((show l2_fr (ty_Wc 0 0 0) c5 c6 from hy.2).trans (w6.mono (fun b j y => by unfold ty_Wc; omega)))) (fr5.mono (fun b j y => y.sub (Nat.zero_le _))) ((show lc_F c6 f p from hy.1).fr w6 (fun j _ _ => by omega)) w4)
  have T5 : tp P (v + 1) 0 0 (q + 1) (m + 1) (a + 1) g l (dd + 1) c5 r5 := by
    obtain ⟨_, t2, t3, t4, t5, t6, t7, t8⟩ := T
    have cm := pc_c_le P v
    refine ⟨w3, ?_, t3, ?_, by omega, ?_, by omega, ?_⟩
    · rw [(w1 316 8 (by unfold la_W; omega)).1]; exact t2
    · rw [(w1 316 10 (by unfold la_W; omega)).1]; exact t4
    · rw [(w1 846 6 (by unfold la_W; omega)).1]; exact t6
    · rw [(w2 950 31 (by unfold rn_W; omega)).1]; exact t8
  refine h2_bb _ (HT P (v + 1) (q + 1) (m + 1) (a + 1) g l c5 r5 T5) (fun X6 Y6 hXY => ?_)
  obtain ⟨xv, c6⟩ := X6
  obtain ⟨yv, r6⟩ := Y6
  obtain ⟨b1, b2, b3⟩ := hXY
  have b1 : l2_fr (ty_Wc 0 0 0) c5 c6 := b1
  have b2 : l2_fr (ty_Wr 0) r5 r6 := b2
  refine h2_ckL ix (h2_lL ?_)
  have w6 : l2_fr (fun b j => b = 318 ∧ j = a) c6 (t_setI c6 318 (nI a).toNatClampNeg xv) := by rw [ca]; exact l2_fr.set ⟨rfl, rfl⟩
  have v18 : (t_setI c6 318 (nI a).toNatClampNeg xv).1 318 a = xv := by rw [ca]; simp only [l2_gI, reduceIte, eq_self]
  show t_h2 (some (nI a, t_setI c6 318 (nI a).toNatClampNeg xv)) _ _
  generalize t_setI c6 318 (nI a).toNatClampNeg xv = c7 at *
  rcases b3 with ⟨rfl, rfl, u2, q2, m2, a2, g2, l2, o1, o2, o3, o4, o5, o7, o8, o9, o10, o11, o12, o13⟩ | ⟨f, p, b3, b4⟩
  rotate_left
  · have b3 : lc_F c6 f p := b3
    have b4 : pr P f p r6 := b4
    refine h2_eR (pr_hang b4 _ _) ?_
    rw [ty_183]
    exact h2_sm (ty_endF (f := f) (p := p) ((fc5.mono (fun b j y => ty_0 y)).trans (b1.trans (w6.mono (fun b j y => by unfold ty_Wc; omega)))) ((fr5.mono (fun b j y => y.sub (Nat.zero_le _))).trans b2) (b3.fr w6 (fun j _ _ => by omega)) b4)
  have o7 : tp P u2 0 0 q2 m2 a2 g2 l2 (dd + 1) c6 r6 := o7
  have o8 : l2_fr (ty_Wc (a + 1) g l) c5 c6 := o8
  have o9 : l2_fr (ty_Wr (m + 1)) r5 r6 := o9
  have o10 : TY (ty_NM c6 r6 l2) c6 r6 (17 - dd) (a + 1) a2 (m + 1) m2 g2 (a + 1) (m + 1) := by rw [show 17 - dd = 18 - (dd + 1) by omega]; exact o10
  have o11 : r6.1 960 (m + 1) = -1 := o11
  have o12 : ty_D c5 c6 r6 l l2 (m + 1) m2 := o12
  have o13 : ty_s r6 (m + 1) m2 := o13
  have p7 : r6.1 959 m = -1 := by rw [(o9 959 m (by unfold ty_Wr; omega)).1, (w2 959 m (by unfold rn_W; omega)).1]; exact r59
  refine h2_bR _ (ch_hang (v := 0) (G := fun _ => 0) (m0 := m) (x := m + 1) ⟨by rw [if_neg (by decide)]; exact p7, fun j hj => by omega⟩ (by omega) (by decide) (by omega) o7.1.f0.2 o11 (fun j hj => by omega)) (fun r8 hz8 => ?_)
  obtain ⟨⟨e59, e60⟩, z8⟩ := hz8
  have z8 : l2_fr (fun b j => b = 959 ∧ j = m) r6 r8 := z8.mono (fun b j y => by omega)
  rw [if_pos (by decide), mj_up_eq] at e59
  have e60 : r8.1 960 (m + 1) = -1 := by rw [(z8 960 (m + 1) (by omega)).1]; exact o11
  rw [ty_183]
  obtain ⟨oJ, ot2, ot3, ot4, ot5, ot6, ot7, ot8⟩ := o7
  have aC : ∀ b, 317 ≤ b → b ≤ 323 → b ≠ 318 → c7.1 b a = c4.1 b a ∧ c7.2.1 b a = c4.2.1 b a := fun b x1 x2 x3 => by
    have q1 := w6 b a (by omega)
    have q2 := o8 b a (by unfold ty_Wc; omega)
    have q3 := w1 b a (by unfold la_W; omega)
    exact ⟨(q1.1.trans q2.1).trans q3.1, (q1.2.1.trans q2.2.1).trans q3.2.1⟩
  have aR : ∀ b, 955 ≤ b → b ≤ 962 → b ≠ 959 → r8.1 b m = r4.1 b m ∧ r8.2.1 b m = r4.2.1 b m := fun b x1 x2 x3 => by
    have q1 := z8 b m (by omega)
    have q2 := o9 b m (by unfold ty_Wr; omega)
    have q3 := w2 b m (by unfold rn_W; omega)
    exact ⟨(q1.1.trans q2.1).trans q3.1, (q1.2.1.trans q2.2.1).trans q3.2.1⟩
  refine h2_sm (ty_end (u2 := u2) (q2 := q2) (by omega) (by omega) (by omega) o4 o5 ⟨oJ.fr w6 z8 (fun j => by omega) (fun b i _ _ => by omega) (fun b i _ _ => by omega) (by omega) (fun j _ => by omega) (fun b i _ _ => by omega), ?_, ot3, ?_, ot5, ?_, ot7, ?_⟩ ((fc5.trans (o8.mono (fun b j y => y.sub (by omega) (Nat.le_refl _) (Nat.le_refl _)))).trans (w6.mono (fun b j y => Or.inr (Or.inr (Or.inr (Or.inl ⟨by omega, by omega, by omega⟩)))))) ((fr5.trans (o9.mono (fun b j y => y.sub (by omega)))).trans (z8.mono (fun b j y => Or.inr (Or.inr ⟨by omega, by omega, by omega⟩)))) ?_ ?_ ?_ (fun i i1 i2 => ?_))
  · rw [(w6 316 8 (by omega)).1]; exact ot2
  · rw [(w6 316 10 (by omega)).1]; exact ot4
  · rw [(w6 846 6 (by omega)).1]; exact ot6
  · rw [(z8 950 31 (by omega)).1]; exact ot8
  · rw [show 18 - dd = (17 - dd) + 1 by omega]
    refine ⟨Nat.le_refl _, by omega, Nat.le_refl _, by omega, 7, ?_, ?_, Or.inr (Or.inr (Or.inr (Or.inr (Or.inr (Or.inl ⟨rfl, ⟨lo, hi, s1, s2, ?_, ?_, ?_, ?_⟩, a + 1, m + 1, v18, e59, e60, ?_⟩)))))⟩
    · rw [(aC 317 (by decide) (by decide) (by decide)).1]; exact c17
    · rw [(aR 955 (by decide) (by decide) (by decide)).1]; exact r55
    · rw [(aC 322 (by decide) (by decide) (by decide)).2]; exact s3
    · rw [(aC 323 (by decide) (by decide) (by decide)).2]; exact s4
    · rw [(aR 957 (by decide) (by decide) (by decide)).2]; exact s5
    · rw [(aR 958 (by decide) (by decide) (by decide)).2]; exact s6
    · exact TY.fr _ _ _ _ _ _ _ _ o10 (ag_C.of w6 (fun i j _ _ _ _ => by omega) (fun j _ => by omega)) (ag_R.of z8 (fun i j _ _ _ _ => by omega)) (fun a b _ _ _ _ ⟨e, e1, e2, e3⟩ => ⟨e, e1, e2.fr (fun b u v => (w6 b e (by omega)).1) (z8 956 b (by omega)).1 (z8 957 b (by omega)).2.1, by rw [(w6 852 e (by omega)).1]; exact e3⟩) _ _ _ _ (Nat.le_refl _) (Nat.le_refl _) (Nat.le_refl _) (Nat.le_refl _)
  · rw [(aR 960 (by decide) (by decide) (by decide)).1]; exact r60
  · have D5 : ty_D c c5 r5 l l m (m + 1) := D.fr (fun b j y => (w1 b j (by unfold la_W; omega)).1) (fun i _ _ => ⟨(w2 955 i (by unfold rn_W; omega)).1, (w2 956 i (by unfold rn_W; omega)).1, fun _ => (w2 957 i (by unfold rn_W; omega)).2.1⟩)
    have D7 : ty_D c5 c7 r8 l l2 (m + 1) m2 := o12.fr (fun b j y => (w6 b j (by omega)).1) (fun i _ _ => ⟨(z8 955 i (by omega)).1, (z8 956 i (by omega)).1, fun _ => (z8 957 i (by omega)).2.1⟩)
    refine D5.trans D7 ⟨Nat.le_refl _, o5⟩ ⟨by omega, by omega⟩ (fun b e x y z => ?_) (fun i x y => ?_)
    · rw [(w6 b e (by omega)).1, (o8 b e (by unfold ty_Wc; omega)).1]
    · refine ⟨?_, ?_, fun _ => ?_⟩
      · rw [(z8 955 i (by omega)).1, (o9 955 i (by unfold ty_Wr; omega)).1]
      · rw [(z8 956 i (by omega)).1, (o9 956 i (by unfold ty_Wr; omega)).1]
      · rw [(z8 957 i (by omega)).2.1, (o9 957 i (by unfold ty_Wr; omega)).2.1]
  · by_cases e : i = m
    · subst e
      have e55 : r8.1 955 i = nI 7 := by rw [(aR 955 (by decide) (by decide) (by decide)).1]; exact r55
      exact ⟨fun q => absurd q (by rw [e55]; decide), fun q => absurd q (by rw [e55]; decide), fun _ => ⟨i + 1, e59, by omega⟩, fun _ => ⟨lo, by omega, by rw [(aR 957 (by decide) (by decide) (by decide)).2]; exact s5⟩⟩
    · exact (o13 i (by omega) i2).fr (Nat.le_refl _) (z8 955 i (by omega)).1 (z8 959 i (by omega)).1 (z8 960 i (by omega)).1 (z8 957 i (by omega)).2.1 (fun j _ _ => (z8 955 j (by omega)).1)
theorem ty_k7 {P : pc_S} {u q m a g l dd : Nat} {c r c3 r3 : t_S} {rcC : RT_X6_readFields} {RC : RT_X13_fields} (HT : ∀ P u q m a g l c r, tp P u 0 0 q m a g l (dd + 1) c r → t_h2 (rcC.2 (nI (dd + 1)) c) (RC.2 r) (ty_R P u q m a g l (dd + 1) c r)) (HC : ∀ c f p, lc_F c f p → ∀ x, t_hk (rcC.2 x c) (fun y => lc_F y.2 f p ∧ l2_fr (ty_Wc 0 0 0) c y.2)) (HR : ∀ P f p r, pr P f p r → RC.2 r = some (0, r)) (h : ty_S0 P u q m a g l dd 7 c r c3 r3) (hd : dd ≤ 16) : t_h2 (if t_ix (nI a) 3001 = true then t_let (t_setJ c3 323 ((nI a).toNatClampNeg) (16 : Int64)) (fun s2 => if (s2.1 1 8) = (40 : Int32) then ((f_X6_readSpan (16 : Int32) s2).bind (fun r11 => (f_X6_setSpan (nI a) r11.1 r11.2).bind (fun r12 => k_X6_readType_257 rcC (nI dd) (nI a) r12))) else (k_X6_readType_257 rcC (nI dd) (nI a) s2)) else none) (ty_ct RC (nI m, r3)) (ty_R P u q m a g l dd c r) := by
  obtain ⟨h1, h2, T, ⟨c17, c18, c19, c20, c21, c22, c23⟩, ⟨r55, r57, r58, r59, r60⟩, fc, fr, D⟩ := h
  have e107 : ty_ct RC (nI m, r3) = (if f_X13_is 40 r3 = 0 then k_X13_type_168 RC (nI m) (t_setJ (t_setJ r3 957 m 0) 958 m 16) else (f_X13_span (nI m) 16 r3).bind (fun x => k_X13_type_168 RC (nI m) x)) := by
    rw [ty_ct0 T.1.f0.2 (by omega) r55]
    unfold k_X13_type_107
    rw [if_neg (show ¬ nI 7 = (5 : Int32) by decide), if_neg (show ¬ nI 7 = (6 : Int32) by decide), if_pos (show nI 7 = (7 : Int32) from rfl), if_pos (l2_ix (by omega : m < 13000) (by decide)), nI_clamp (n := m) (by omega)]
    rfl
  rw [e107, nI_clamp (n := a) (by omega)]
  refine h2_ckL (l2_ix h1 (by decide)) (h2_lL ?_)
  have w : l2_fr (fun b j => b = 323 ∧ j = a) c3 (t_setJ c3 323 a 16) := l2_fr.setJ ⟨rfl, rfl⟩
  have v23 : (t_setJ c3 323 a 16).2.1 323 a = lN 16 := by simp only [l2_gJ, reduceIte, eq_self]; rfl
  generalize t_setJ c3 323 a 16 = c4 at *
  have fc4 : l2_fr (ty_Wc a g l) c c4 := fc.trans (w.mono (fun b j y => Or.inr (Or.inr (Or.inr (Or.inl ⟨by omega, by omega, by omega⟩)))))
  obtain ⟨J, t2, t3, t4, t5, t6, t7, t8⟩ := T
  have J4 : pj P (u + 1) 0 0 (q + 1) (m + 1) c4 r3 := J.fr w (l2_fr.rf (W := fun _ _ => False)) (fun j => by omega) (fun b i _ _ => by omega) (fun b i _ _ => by omega) (by omega) (fun j _ y => y) (fun b i _ _ y => y)
  have T4 : tp P (u + 1) 0 0 (q + 1) (m + 1) (a + 1) g l (dd + 1) c4 r3 := by
    refine ⟨J4, ?_, t3, ?_, t5, ?_, t7, t8⟩
    · rw [(w 316 8 (by omega)).1]; exact t2
    · rw [(w 316 10 (by omega)).1]; exact t4
    · rw [(w 846 6 (by omega)).1]; exact t6
  have D4 : ty_D c c4 r3 l l m (m + 1) := D.fr (fun b j y => (w b j (by omega)).1) (fun i _ _ => ⟨rfl, rfl, fun _ => rfl⟩)
  have k17 : c4.1 317 a = nI 7 := by rw [(w 317 a (by omega)).1]; exact c17
  have k22 : c4.2.1 322 a = 0 := by rw [(w 322 a (by omega)).2.1]; exact c22
  rcases J4.is (x := 40) (by decide) with ⟨a40, b⟩ | ⟨a40, b⟩
  · have b : f_X13_is 40 r3 = 1 := b
    have a4 : c4.1 1 8 = (40 : Int32) := a40
    rw [b, if_neg (show ¬ (1 : Int32) = 0 by decide), if_pos a4]
    refine h2_bb _ (sp_span (n := m) (b := 16) J4 (by decide) a40 (by omega) (by decide)) (fun x r5 hx => ?_)
    obtain ⟨xv, c5⟩ := x
    obtain ⟨w1, w2, w3⟩ := hx
    have w1 : l2_fr la_W c4 c5 := w1
    refine h2_bL _ (sp_set (c := c5) (x := xv) h1) (fun c6 hc6 => ?_)
    obtain ⟨s1, s2⟩ := hc6
    have fc6 : l2_fr (ty_Wc a g l) c c6 := (fc4.trans (w1.mono (fun b j y => ty_la y))).trans (s1.mono (fun b j y => Or.inr (Or.inr (Or.inr (Or.inl ⟨by omega, by omega, by omega⟩)))))
    have fr5 : l2_fr (ty_Wr m) r r5 := fr.trans (w2.mono (fun b j y => ty_sp y (Nat.le_refl _)))
    rcases w3 with ⟨v, lo, hi, v1, v2, v3, v4, v5, v6, v7⟩ | ⟨f, p, w3, w4⟩
    · obtain ⟨s3, s4⟩ := s2 lo hi (by omega) (by omega) v5
      have cm := pc_c_mono P (u + 1) v (by omega)
      have J6 := (show pj P v 0 0 (q + 1) (m + 1) c5 r5 from v4).fr s1 (l2_fr.rf (W := fun _ _ => False)) (fun j => by omega) (fun b i _ _ => by omega) (fun b i _ _ => by omega) (by omega) (fun j _ y => y) (fun b i _ _ y => y)
      have n : ∀ i, r3.1 955 i = 8 ∨ r3.1 955 i = 11 → i ≠ m := fun i e x => by
        subst x
        rcases e with e | e
        · rw [r55] at e; exact absurd e (by decide)
        · rw [r55] at e; exact absurd e (by decide)
      obtain ⟨_, u2, u3, u4, u5, u6, u7, u8⟩ := T4
      refine ty_257 HT HC HR hd (by omega) h1 h2 ⟨J6, ?_, u3, ?_, by omega, ?_, by omega, ?_⟩ fc6 fr5 ?_ ?_ ?_ ?_ v2 v3 s3 s4 v6 v7 (D4.fr (fun b j y => by rw [(s1 b j (by omega)).1, (w1 b j (by unfold la_W; omega)).1]) (fun i _ _ => ⟨(w2 955 i (by unfold sp_W; omega)).1, (w2 956 i (by unfold sp_W; omega)).1, fun e => (w2 957 i (by have := n i e; unfold sp_W; omega)).2.1⟩))
      · rw [(s1 316 8 (by omega)).1, (w1 316 8 (by unfold la_W; omega)).1]; exact u2
      · rw [(s1 316 10 (by omega)).1, (w1 316 10 (by unfold la_W; omega)).1]; exact u4
      · rw [(s1 846 6 (by omega)).1, (w1 846 6 (by unfold la_W; omega)).1]; exact u6
      · rw [(w2 950 31 (by unfold sp_W; omega)).1]; exact u8
      · rw [(s1 317 a (by omega)).1, (w1 317 a (by unfold la_W; omega)).1]; exact k17
      · rw [(w2 955 m (by unfold sp_W; omega)).1]; exact r55
      · rw [(w2 959 m (by unfold sp_W; omega)).1]; exact r59
      · rw [(w2 960 m (by unfold sp_W; omega)).1]; exact r60
    · have w3 : lc_F c5 f p := w3
      have h6 := w3.fr s1 (fun j _ _ => by omega)
      unfold k_X6_readType_257 k_X13_type_168
      rw [nI_1]
      refine h2_eL (h6.need (x := 217) (by decide)).1 (h2_eR (pr_mustWord w4 17) ?_)
      refine h2_bL _ (HC c6 f p h6 (nI (dd + 1))) (fun y hy => ?_)
      obtain ⟨yv, c7⟩ := y
      refine h2_ckL (l2_ix h1 (by decide)) (h2_lL (h2_eR (HR P f p _ w4.dead) (h2_eR (pr_hang w4.dead _ _) ?_)))
      have w7 : l2_fr (fun b j => b = 318) c7 (t_setI c7 318 (nI a).toNatClampNeg yv) := l2_fr.set rfl
      rw [ty_183]
      exact h2_sm (ty_endF (f := f) (p := p) ((fc6.mono (fun b j y => ty_0 y)).trans ((show l2_fr (ty_Wc 0 0 0) c6 c7 from hy.2).trans (w7.mono (fun b j y => by unfold ty_Wc; omega)))) ((fr5.mono (fun b j y => y.sub (Nat.zero_le _))).trans ty_d5) ((show lc_F c7 f p from hy.1).fr w7 (fun j _ _ => by omega)) w4.dead)
  · have b : f_X13_is 40 r3 = 0 := b
    have a4 : ¬ c4.1 1 8 = (40 : Int32) := a40
    rw [b, if_pos rfl, if_neg a4]
    have z : l2_fr (fun b j => (b = 957 ∨ b = 958) ∧ j = m) r3 (t_setJ (t_setJ r3 957 m 0) 958 m 16) := (l2_fr.setJ ⟨Or.inl rfl, rfl⟩).trans (l2_fr.setJ ⟨Or.inr rfl, rfl⟩)
    have v57 : (t_setJ (t_setJ r3 957 m 0) 958 m 16).2.1 957 m = lN 0 := by simp only [l2_gJ, Nat.reduceEqDiff, reduceIte, eq_self]; rfl
    have v58 : (t_setJ (t_setJ r3 957 m 0) 958 m 16).2.1 958 m = lN 16 := by simp only [l2_gJ, reduceIte, eq_self]; rfl
    generalize t_setJ (t_setJ r3 957 m 0) 958 m 16 = r4 at *
    have n : ∀ i, r3.1 955 i = 8 ∨ r3.1 955 i = 11 → i ≠ m := fun i e x => by
      subst x
      rcases e with e | e
      · rw [r55] at e; exact absurd e (by decide)
      · rw [r55] at e; exact absurd e (by decide)
    obtain ⟨_, u2, u3, u4, u5, u6, u7, u8⟩ := T4
    refine ty_257 HT HC HR hd (by omega) h1 h2 ⟨J4.fr (l2_fr.rf (W := fun _ _ => False)) z (fun j y => y) (fun b i _ _ y => y) (fun b i _ _ y => y) (fun y => y) (fun j _ => by omega) (fun b i _ _ => by omega), u2, u3, u4, u5, u6, u7, ?_⟩ fc4 (fr.trans (z.mono (fun b j y => Or.inr (Or.inr ⟨by omega, by omega, by omega⟩)))) k17 ?_ ?_ ?_ (lo := 0) (hi := 16) (by decide) (by decide) k22 v23 v57 v58 (D4.fr (fun _ _ _ => rfl) (fun i _ _ => ⟨(z 955 i (by omega)).1, (z 956 i (by omega)).1, fun e => (z 957 i (by have := n i e; omega)).2.1⟩))
    · rw [(z 950 31 (by omega)).1]; exact u8
    · rw [(z 955 m (by omega)).1]; exact r55
    · rw [(z 959 m (by omega)).1]; exact r59
    · rw [(z 960 m (by omega)).1]; exact r60
/-- the reference's steps of a type behind a fault -/
theorem pr_ranges {P : pc_S} {f p : Nat} {r : t_S} (h : pr P f p r) (x : Int32) : t_hk (f_X13_ranges x r) (fun r' => pr P f p r' ∧ l2_fr (ty_Wr 0) r r') := by
  unfold f_X13_ranges
  exact pr_rgend h x 1 0 t_N (by have := l2_N; omega)
theorem pr_enumWords {P : pc_S} {f p : Nat} {r : t_S} (h : pr P f p r) (x : Int32) : t_hk (f_X13_enumWords x r) (fun r' => pr P f p r' ∧ l2_fr (ty_Wr 0) r r') := by
  unfold f_X13_enumWords
  refine l2_eq (pr_mustBe h 123) ⟨_, l2_tnR (y := (x, 1, 0, t_setI r 950 5 0)) l2_tn.nil (by decide) (pr_enend h.dead x 1 0), h.dead.dead, ty_d5.trans ty_d5⟩
theorem pr_116 {P : pc_S} {f p j : Nat} {r : t_S} (h : pr P f p r) (hj : j < 13000) (x : Int32) : t_hk (k_X13_typeHere_116 x (nI j) r) (fun y => pr P f p y.2 ∧ l2_fr (ty_Wr 0) r y.2) := by
  unfold k_X13_typeHere_116
  refine l2_if (fun _ => l2_ck (l2_ix hj (by decide)) (l2_lt ?_)) (fun _ => l2_if (fun _ => ?_) (fun _ => l2_sm ⟨h, l2_fr.rf⟩))
  · rw [nI_clamp (n := j) (by omega)]
    have g4 : l2_fr (fun b i => (b = 957 ∨ b = 958) ∧ i = j) r (t_setJ r 958 j 40) := l2_fr.setJ ⟨Or.inr rfl, rfl⟩
    have w : l2_fr (ty_Wr 0) r (t_setJ r 958 j 40) := g4.mono (fun b i y => ty_xy y)
    refine l2_if (fun _ => l2_sm ⟨h.xy g4, w⟩) (fun _ => l2_bd _ (pr_span (h.xy g4) hj) (fun r' hr => l2_sm ⟨hr.2, w.trans (hr.1.mono (fun b i y => ty_sp y (Nat.zero_le _)))⟩))
  · exact l2_bd _ (pr_enumWords h _) (fun r' hr => l2_sm hr)
theorem pr_89 {P : pc_S} {f p j : Nat} {r : t_S} (h : pr P f p r) (hj : j < 13000) (x : Int32) : t_hk (k_X13_typeHere_89 x (nI j) r) (fun y => pr P f p y.2 ∧ l2_fr (ty_Wr 0) r y.2) := by
  unfold k_X13_typeHere_89
  have go : ∀ {r1 : t_S}, pr P f p r1 → l2_fr (ty_Wr 0) r r1 → t_hk (if x = (10 : Int32) then (if (f_X13_is (40 : Int32) r1) = (0 : Int32) then (k_X13_typeHere_116 x (nI j) r1) else ((f_X13_ranges (nI j) r1).bind (fun r3 => some (nI j, r3)))) else (k_X13_typeHere_116 x (nI j) r1)) (fun y => pr P f p y.2 ∧ l2_fr (ty_Wr 0) r y.2) := by
    intro r1 h1 w
    have q : t_hk (k_X13_typeHere_116 x (nI j) r1) (fun y => pr P f p y.2 ∧ l2_fr (ty_Wr 0) r y.2) := l2_imp (pr_116 h1 hj x) (fun y hy => ⟨hy.1, w.trans hy.2⟩)
    exact l2_if (fun _ => l2_if (fun _ => q) (fun _ => l2_bd _ (pr_ranges h1 (nI j)) (fun r' hr => l2_sm ⟨hr.1, w.trans hr.2⟩))) (fun _ => q)
  exact l2_eq (pr_next h).1 (go h.dead ty_d5)
