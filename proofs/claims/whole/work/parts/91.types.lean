/-! Level 2: a type, at any depth, read on both sides. -/
theorem ty_R_F {P : pc_S} {u q m a g l dd f p : Nat} {c r c' r' : t_S} {x y : Int32} (fc : l2_fr (ty_Wc 0 0 0) c c') (fr : l2_fr (ty_Wr 0) r r') (h : lc_F c' f p) (h2 : pr P f p r') : ty_R P u q m a g l dd c r (x, c') (y, r') := ⟨fc, fr, Or.inr ⟨f, p, h, h2⟩⟩
theorem tp.h31 {P : pc_S} {u q m a g l dd : Nat} {c r : t_S} (T : tp P u 0 0 q m a g l dd c r) (v : Int32) : pj P u 0 0 q m c (t_setI r 950 31 v) ∧ l2_fr (fun b j => b = 950 ∧ j = 31) r (t_setI r 950 31 v) ∧ (t_setI r 950 31 v).1 950 31 = v := ⟨T.1.fr (l2_fr.rf (W := fun _ _ => False)) (l2_fr.set (W := fun b j => b = 950 ∧ j = 31) ⟨rfl, rfl⟩) (fun j y => y) (fun b i _ _ y => y) (fun b i _ _ y => y) (fun y => y) (fun j _ => by omega) (fun b i _ _ => by omega), l2_fr.set ⟨rfl, rfl⟩, by simp only [l2_g, reduceIte]⟩
theorem h2_self {T U : Type} {a : Option T} {b : Option U} {Q : T → U → Prop} (h : t_h2 a b Q) : t_h2 a b (fun x y => Q x y ∧ a = some x ∧ b = some y) := by
  obtain ⟨x, y, e, e2, q⟩ := h
  exact ⟨x, y, e, e2, q, e, e2⟩
/-- a node leaves the token as it is -/
theorem nd_tok53 {s : t_S} {k j : Int32} {x : Int32 × t_S} (h : k_X13_node_53 k j s = some x) : x.2.1 950 5 = s.1 950 5 ∧ x.2.1 950 10 = s.1 950 10 := by
  unfold k_X13_node_53 at h
  simp only [t_let] at h
  split at h
  · split at h
    · cases h
      refine ⟨?_, ?_⟩ <;> simp only [l2_gI, l2_gJI, Nat.reduceEqDiff, reduceIte]
    · cases h
      refine ⟨?_, ?_⟩ <;> simp only [l2_gI, l2_gJI, Nat.reduceEqDiff, reduceIte]
  · cases h
theorem nd_tok33 {s : t_S} {k : Int32} {x : Int32 × t_S} (h : k_X13_node_33 k s = some x) : x.2.1 950 5 = s.1 950 5 ∧ x.2.1 950 10 = s.1 950 10 := by
  unfold k_X13_node_33 at h
  split at h
  · exact nd_tok53 h
  · exact nd_tok53 h
theorem nd_tok {s : t_S} {k b : Int32} {x : Int32 × t_S} (h : f_X13_node k b s = some x) : x.2.1 950 5 = s.1 950 5 ∧ x.2.1 950 10 = s.1 950 10 := by
  have st : ∀ (s : t_S) (v : Int32), (t_setI s 950 28 v).1 950 5 = s.1 950 5 ∧ (t_setI s 950 28 v).1 950 10 = s.1 950 10 := fun s v => by
    refine ⟨?_, ?_⟩ <;> simp only [l2_gI, Nat.reduceEqDiff, reduceIte]
  unfold f_X13_node k_X13_node_23 at h
  simp only [t_let] at h
  split at h
  · exact nd_tok33 h
  · split at h
    · cases e : f_X13_fail 5 (s.1 950 6) s with
      | none => rw [e] at h; cases h
      | some r =>
        rw [e] at h
        have q := nd_tok33 h
        have t := st r (r.1 950 28 + 1)
        have g : r.1 950 5 = s.1 950 5 ∧ r.1 950 10 = s.1 950 10 := by
          unfold f_X13_fail at e
          simp only [t_let] at e
          split at e
          · cases e
            refine ⟨?_, ?_⟩ <;> simp only [l2_gI, Nat.reduceEqDiff, reduceIte]
          · cases e
            exact ⟨rfl, rfl⟩
        exact ⟨q.1.trans (t.1.trans g.1), q.2.trans (t.2.trans g.2)⟩
    · have q := nd_tok33 h
      have t := st s (s.1 950 28 + 1)
      exact ⟨q.1.trans t.1, q.2.trans t.2⟩
theorem pr_89b {P : pc_S} {f p j : Nat} {r : t_S} (h : pr P f p r) (hj : j < 13000) (x : Int32) : t_hk (if x = (10 : Int32) then (if (f_X13_is (40 : Int32) r) = (0 : Int32) then (k_X13_typeHere_116 x (nI j) r) else ((f_X13_ranges (nI j) r).bind (fun r3 => some (nI j, r3)))) else (k_X13_typeHere_116 x (nI j) r)) (fun y => pr P f p y.2 ∧ l2_fr (ty_Wr 0) r y.2) := by
  have q := pr_116 h hj x
  exact l2_if (fun _ => l2_if (fun _ => q) (fun _ => l2_bd _ (pr_ranges h (nI j)) (fun r' hr => l2_sm hr))) (fun _ => q)
/-- too deep -/
theorem ty_deep {P : pc_S} {u q m a g l : Nat} {c r : t_S} {rcC : RT_X6_readFields} {rcR : RT_X13_fields} (T : tp P u 0 0 q m a g l 17 c r) : t_h2 (m_X6_readType rcC (nI 17) c) (m_X13_type rcR r) (ty_R P u q m a g l 17 c r) := by
  have J := T.1
  have e31 : r.1 950 31 = nI 17 := T.2.2.2.2.2.2.2
  have f0 := J.f0
  have fin : ∀ f, 0 < f ∧ f < 100 → ∀ A : t_S → Option (Int32 × t_S), (∀ c' f p, lc_F c' f p → t_hk (A c') (fun y => lc_F y.2 f p ∧ l2_fr (ty_Wc 0 0 0) c' y.2)) → t_h2 ((f_X2_fail (nI f) c).bind A) ((f_X13_fail (nI f) (r.1 950 6) r).bind (fun r1 => some ((0 : Int32), r1))) (ty_R P u q m a g l 17 c r) := by
    intro f hf A hA
    refine h2_bb _ (pj_fail J (by decide) hf) (fun c' r' w => ?_)
    obtain ⟨w1, w2, f, p, w3, w4⟩ := w
    refine h2_doneR (l2_imp (hA c' f p w3) (fun y hy => ?_))
    obtain ⟨yv, c2⟩ := y
    exact ty_R_F (f := f) (p := p) ((w1.mono (fun b j y => ty_la y)).trans hy.2) (w2.mono (fun b j y => ty_rn y)) hy.1 w4
  have k35 : ∀ c' f p, lc_F c' f p → t_hk (k_X6_readType_35 rcC (nI 17) c') (fun y => lc_F y.2 f p ∧ l2_fr (ty_Wc 0 0 0) c' y.2) := by
    intro c' f p h
    unfold k_X6_readType_35
    exact l2_bd _ h.node (fun c2 w => l2_no w.1.ne (l2_sm w))
  have k21 : ∀ c' f p, lc_F c' f p → t_hk (k_X6_readType_21 rcC (nI 17) c') (fun y => lc_F y.2 f p ∧ l2_fr (ty_Wc 0 0 0) c' y.2) := by
    intro c' f p h
    unfold k_X6_readType_21
    refine l2_if (fun _ => k35 c' f p h) (fun _ => ?_)
    rw [(lc_stay h).2]
    exact k35 c' f p h
  have go5 : t_h2 (k_X6_readType_21 rcC (nI 17) c) (k_X13_type_66 rcR 5 r) (ty_R P u q m a g l 17 c r) := by
    unfold k_X6_readType_21 k_X13_type_66
    exact h2_noL (by decide) (fin 5 (by decide) _ k35)
  have go2 : t_h2 ((f_X2_fail 2 c).bind (fun r2 => k_X6_readType_21 rcC (nI 17) r2)) (k_X13_type_66 rcR 2 r) (ty_R P u q m a g l 17 c r) := by
    unfold k_X13_type_66
    exact fin 2 (by decide) _ k21
  unfold m_X6_readType m_X13_type
  rw [if_pos f0.2, e31, if_neg (show ¬ nI 17 ≤ (16 : Int32) by decide)]
  unfold k_X13_type_50 k_X13_type_54 k_X13_type_55
  rw [if_pos rfl, if_neg (show ¬ (1 : Int32) = 0 by decide)]
  rcases ty_beg J with ⟨a1, a2, a3, a4⟩ | ⟨i, i1, i2, a1, a2, a3, a4⟩ | ⟨a2, a3⟩
  · rw [a2, if_neg (by decide), if_pos a3, a4, if_pos (by decide)]
    exact go5
  · rw [a2, if_neg (by decide), if_pos a3, a4, if_neg (nI_pos (by omega)), f_in (by omega), if_pos (show 10 ≤ i ∧ i ≤ 16 from ⟨i1, i2⟩), if_neg (by decide)]
    exact go5
  · rw [a2, if_pos rfl]
    rcases a3 with a3 | ⟨v, v1, v2, v3⟩
    · rw [if_neg a3]
      exact go2
    · rw [v2, if_neg (nI_pos (by omega)), f_in (by omega), if_neg v3, if_pos rfl]
      exact h2_ifR (fun _ => go2) (fun _ => go2)
theorem ty_one {P : pc_S} {u q m a g l dd : Nat} {c r : t_S} {rcC rcC2 : RT_X6_readFields} {rcR rcR2 : RT_X13_fields} (hd : dd ≤ 16)
    (HT : ∀ P u q m a g l c r, tp P u 0 0 q m a g l (dd + 1) c r → t_h2 (rcC.2 (nI (dd + 1)) c) (rcR.2 r) (ty_R P u q m a g l (dd + 1) c r)) (HC : ∀ c f p, lc_F c f p → ∀ x, t_hk (rcC.2 x c) (fun y => lc_F y.2 f p ∧ l2_fr (ty_Wc 0 0 0) c y.2)) (HR : ∀ P f p r, pr P f p r → rcR.2 r = some (0, r))
    (HT2 : ∀ P u q m a g l c r, tp P u 0 0 q m a g l (dd + 1) c r → t_h2 (rcC2.2 (nI (dd + 1)) c) (rcR2.2 r) (ty_R P u q m a g l (dd + 1) c r)) (HC2 : ∀ c f p, lc_F c f p → ∀ x, t_hk (rcC2.2 x c) (fun y => lc_F y.2 f p ∧ l2_fr (ty_Wc 0 0 0) c y.2)) (HR2 : ∀ P f p r, pr P f p r → rcR2.2 r = some (0, r))
    (hC1 : ∀ x y z s, rcC.1 x y z s = m_X6_readFields rcC2 x y z s) (hR1 : ∀ x s, rcR.1 x s = m_X13_fields rcR2 x s)
    (T : tp P u 0 0 q m a g l dd c r) : t_h2 (m_X6_readType rcC (nI dd) c) (m_X13_type rcR r) (ty_R P u q m a g l dd c r) := by
  have J := T.1
  have f0 := J.f0
  have HF : ∀ c f p, lc_F c f p → ∀ x y z, t_hk (rcC.1 x y z c) (fun c' => lc_F c' f p ∧ l2_fr (ty_Wc 0 0 0) c c') := fun c f p h x y z => by
    rw [hC1]
    exact h.fields x y z
  obtain ⟨_, t2, t3, t4, t5, t6, t7, t8⟩ := T
  have q3 : q ≤ 3000 := by
    obtain ⟨B, L, W0, W, V, sl, H, T, n, t0, mm⟩ := P
    exact J.2.2.2.2.2.2.2.1
  have beg := ty_beg J
  have T0 : tp P u 0 0 q m a g l dd c r := ⟨J, t2, t3, t4, t5, t6, t7, t8⟩
  unfold m_X6_readType m_X13_type
  rw [if_pos f0.2, t8, if_pos (show nI dd ≤ (16 : Int32) from nI_le (b := 16) hd (by decide)), nI_1]
  obtain ⟨J1, z1, v31⟩ := T0.h31 (nI (dd + 1))
  refine h2_lR ?_
  show t_h2 _ ((f_X13_typeHere (t_setI r 950 31 (nI (dd + 1)))).bind (ty_ct rcR)) _
  have g5 : (t_setI r 950 31 (nI (dd + 1))).1 950 5 = r.1 950 5 := (z1 950 5 (by omega)).1
  have g10 : (t_setI r 950 31 (nI (dd + 1))).1 950 10 = r.1 950 10 := (z1 950 10 (by omega)).1
  generalize t_setI r 950 31 (nI (dd + 1)) = r1 at *
  have fr1 : l2_fr (ty_Wr m) r r1 := z1.mono (fun b j y => Or.inl ⟨y.1, by omega⟩)
  have k35F : ∀ c' f p, lc_F c' f p → t_hk (k_X6_readType_35 rcC (nI dd) c') (fun y => lc_F y.2 f p ∧ l2_fr (ty_Wc 0 0 0) c' y.2) := by
    intro c' f p h
    unfold k_X6_readType_35
    exact l2_bd _ h.node (fun c2 w => l2_no w.1.ne (l2_sm w))
  have e21 : ∀ s, k_X6_readType_21 rcC (nI dd) s = k_X6_readType_35 rcC (nI dd) s := fun s => by
    unfold k_X6_readType_21
    rw [if_pos (show nI dd ≤ (16 : Int32) from nI_le (b := 16) hd (by decide))]
  unfold f_X13_typeHere k_X13_typeHere_17
  rw [g5, g10]
  have no : t_h2 ((f_X2_fail 2 c).bind (fun r2 => k_X6_readType_21 rcC (nI dd) r2)) ((k_X13_typeHere_42 r1).bind (ty_ct rcR)) (ty_R P u q m a g l dd c r) := by
    unfold k_X13_typeHere_42
    rw [Option.bind_assoc]
    refine h2_bb _ (pj_fail (f := 2) J1 (by decide) (by decide)) (fun c' r' w => ?_)
    obtain ⟨w1, w2, f, p, w3, w4⟩ := w
    show t_h2 _ (ty_ct rcR (0, r')) _
    rw [ty_ctF w4.ne, e21]
    refine h2_doneR (l2_imp (k35F c' f p w3) (fun y hy => ?_))
    obtain ⟨yv, c2⟩ := y
    exact ty_endF (f := f) (p := p) ((w1.mono (fun b j y => ty_la y)).trans hy.2) ((fr1.mono (fun b j y => y.sub (Nat.zero_le _))).trans (w2.mono (fun b j y => ty_rn y))) hy.1 w4
  -- a type's node on both sides
  have mk : ∀ (l1 k0 tk : Int32) (K : Nat), K < 20 → k0 = nI K → c.1 1 8 = tk → (tk = 1 → K = 8) → (tk ≠ 1 → ((1 : Int32) + tk) - (210 : Int32) = nI K) → r.1 950 5 = 1 → (¬ (0 : Int32) ≤ l1 → r.1 950 10 < 0) →
      (∀ c2 r2, a < 3001 → m < 12999 → pj P u 0 1 (q + 1) (m + 1) c2 r2 → c2.1 316 8 = nI (a + 1) → c2.1 316 10 = nI g → c2.1 846 6 = nI l → r2.1 950 31 = nI (dd + 1) → ta_at c2 a (nI K) → nd_at r2 m (nI K) (r2.1 950 6) → l2_fr (ty_Wc a g l) c c2 → l2_fr (ty_Wr m) r r2 → (∀ x, c2.1 7 x = c.1 7 x) → c2.1 1 8 = tk → t_h2 (if tk = (1 : Int32) then ((f_X6_link (0 : Int32) (nI a) (0 : Int32) c2).bind (fun r13 => some (nI a, r13))) else ((f_X2_advance c2).bind (fun s => ty_sw rcC (nI dd) tk (nI a) s))) ((if (0 : Int32) ≤ l1 then (k_X13_typeHere_89 l1 (nI m) r2) else ((f_X13_name r2).bind (fun y => if t_ix (nI m) 13000 = true then t_let (t_setJ y.2 957 ((nI m).toNatClampNeg) y.1.toInt64) (fun s1 => k_X13_typeHere_89 l1 (nI m) s1) else none))).bind (ty_ct rcR)) (ty_R P u q m a g l dd c r)) →
      t_h2 (k_X6_readType_35 rcC (nI dd) c) ((k_X13_typeHere_69 l1 k0 r1).bind (ty_ct rcR)) (ty_R P u q m a g l dd c r) := by
    intro l1 k0 tk K hK0 hk htk hK1 hK2 h5 h10 go
    subst hk
    unfold k_X6_readType_35 k_X13_typeHere_69
    rw [Option.bind_assoc]
    refine h2_bb _ (h2_self (nd_both (nd_k20 hK0) J1)) (fun c1 y hy => ?_)
    obtain ⟨hy, _, ey⟩ := hy
    have tok := nd_tok ey
    rcases hy with ⟨hq, rfl, hm9, x1, x2, x3, x4⟩ | ⟨x1, x2, ⟨f, p, x3, x4⟩, j, x5, x6⟩
    rotate_left
    · obtain ⟨y0, r2⟩ := y
      have x6 : y0 = nI j := x6
      subst x6
      have x2 : l2_fr (ty_Wr 0) r1 r2 := x2
      have x4 : pr P f p r2 := x4
      refine h2_noL x3.ne ?_
      have fr2 : l2_fr (ty_Wr 0) r r2 := (fr1.mono (fun b j y => y.sub (Nat.zero_le _))).trans x2
      have fin : ∀ {Y : Option (Int32 × t_S)}, t_hk Y (fun y => pr P f p y.2 ∧ l2_fr (ty_Wr 0) r2 y.2) → t_h2 (some ((0 : Int32), c1)) (Y.bind (ty_ct rcR)) (ty_R P u q m a g l dd c r) := by
        intro Y hY
        refine h2_bR _ hY (fun y hy => ?_)
        obtain ⟨yv, r3⟩ := y
        rw [ty_ctF hy.1.ne]
        exact h2_sm (ty_endF (f := f) (p := p) x1 (fr2.trans hy.2) x3 hy.1)
      refine fin (l2_if (fun _ => pr_89 x4 x5 l1) (fun z => ?_))
      -- the token is still there
      by_cases g : r2.1 950 5 = 1 ∧ r2.1 950 10 < 0
      · refine l2_bd _ (pr_name1 x4 g.1 g.2) (fun y hy => l2_ck (l2_ix x5 (by decide)) (l2_lt ?_))
        rw [nI_clamp (n := j) (by omega)]
        have g4 : l2_fr (fun b i => (b = 957 ∨ b = 958) ∧ i = j) y.2 (t_setJ y.2 957 j y.1.toInt64) := l2_fr.setJ ⟨Or.inl rfl, rfl⟩
        refine l2_imp (pr_89 (hy.2.xy g4) x5 l1) (fun w hw => ⟨hw.1, ((hy.1.mono (fun b i y => ty_nm y)).trans (g4.mono (fun b i y => ty_xy y))).trans hw.2⟩)
      · exfalso
        exact g ⟨tok.1.trans (g5.trans h5), by
          have e : r2.1 950 10 = r.1 950 10 := tok.2.trans g10
          rw [e]
          exact h10 z⟩
    obtain ⟨y0, r2⟩ := y
    have x1 : y0 = nI m := x1
    subst x1
    have x2 : l2_fr (nd_V m) r1 r2 := x2
    have fca : l2_fr (fun b j => b = 845 ∧ j = 10) c (t_setI c 845 10 (nI (q + 1))) := l2_fr.set ⟨rfl, rfl⟩
    generalize t_setI c 845 10 (nI (q + 1)) = c1 at *
    refine h2_ckL x4.f0.1 ?_
    have tk1 : c1.1 1 8 = tk := by rw [(fca 1 8 (by omega)).1]; exact htk
    rw [tk1]
    have e80 : (if tk = (1 : Int32) then (k_X6_readType_80 rcC (nI dd) tk 8 c1) else (k_X6_readType_80 rcC (nI dd) tk (((1 : Int32) + tk) - (210 : Int32)) c1)) = k_X6_readType_80 rcC (nI dd) tk (nI K) c1 := by
      by_cases y : tk = 1
      · rw [if_pos y, hK1 y]
        rfl
      · rw [if_neg y, hK2 y]
    rw [e80]
    unfold k_X6_readType_80
    refine h2_bL _ (ta_add (k := nI K) (n := a) (by rw [(fca 316 8 (by omega)).1]; exact t2) (by omega)) (fun y hy => ?_)
    obtain ⟨y0, c2⟩ := y
    obtain ⟨y1, y2, y3, y4⟩ := hy
    have y1 : y0 = nI a := y1
    subst y1
    have y2 : l2_fr (ta_W a) c1 c2 := y2
    have e6 : r2.1 950 6 = r1.1 950 6 := (x2 950 6 (by unfold nd_V; omega)).1
    refine go c2 r2 (by omega) hm9 (x4.fr y2 (l2_fr.rf (W := fun _ _ => False)) (fun j => by unfold ta_W; omega) (fun b i _ _ => by unfold ta_W; omega) (fun b i _ _ => by unfold ta_W; omega) (by unfold ta_W; omega) (fun j _ y => y) (fun b i _ _ y => y)) y3 ?_ ?_ ?_ y4 (by rw [e6]; exact x3) ((l2_fr.mono (V := ty_Wc a g l) fca (fun b j y => Or.inr (Or.inl y))).trans (l2_fr.mono (V := ty_Wc a g l) y2 (fun b j y => by unfold ta_W at y; unfold ty_Wc; omega))) (fr1.trans (x2.mono (fun b j y => ty_nd y (Nat.le_refl _)))) (fun x => ?_) ?_
    · rw [(y2 316 10 (by unfold ta_W; omega)).1, (fca 316 10 (by omega)).1]; exact t4
    · rw [(y2 846 6 (by unfold ta_W; omega)).1, (fca 846 6 (by omega)).1]; exact t6
    · rw [(x2 950 31 (by unfold nd_V; omega)).1]; exact v31
    · rw [(y2 7 x (by unfold ta_W; omega)).1, (fca 7 x (by omega)).1]
    · rw [(y2 1 8 (by unfold ta_W; omega)).1, (fca 1 8 (by omega)).1]; exact htk
  rcases beg with ⟨a1, a2, a3, a4⟩ | ⟨i, i1, i2, a1, a2, a3, a4⟩ | ⟨a2, a3⟩
  · rw [a2, if_neg (by decide), if_pos a3, a4, if_neg (by decide), if_pos (by decide), e21]
    unfold k_X13_typeHere_53
    rw [if_neg (show ¬ (0 : Int32) ≤ -1 by decide)]
    refine mk (-1) 8 1 8 (by decide) rfl a1 (fun _ => rfl) (fun y => absurd rfl y) a3 (fun _ => by rw [a4]; decide) (fun c2 r2 b1 b2 b3 b4 b5 b6 b7 b8 b9 b10 b11 b12 b13 => ?_)
    rw [if_pos rfl, if_neg (show ¬ (0 : Int32) ≤ -1 by decide)]
    exact ty_k8 (by omega) b1 b2 b3 b4 t3 b5 t5 b6 t7 b7 b8.1 b9.1 b9.2.1 b9.2.2.2.2.2.1 b10 b11 b12 b13 rfl
  · have p0 : (0 : Int32) ≤ nI i := nI_pos' (by omega)
    rw [a2, if_neg (by decide), if_pos a3, a4, if_neg (show ¬ nI i = (-2 : Int32) from fun e => nI_pos (n := i) (by omega) (by rw [e]; decide)), if_neg (nI_pos (by omega)), f_in (by omega), if_pos (show 10 ≤ i ∧ i ≤ 16 from ⟨i1, i2⟩), if_neg (by decide), e21]
    unfold k_X13_typeHere_53
    rw [if_pos p0]
    have n1 : nI (200 + i) ≠ (1 : Int32) := fun e => by
      have := (nI_eq (b := 1) (by omega) (by decide)).mp e
      omega
    refine mk (nI i) _ (nI (200 + i)) (i - 9) (by omega) ?_ a1 (fun e => absurd e n1) (fun _ => ?_) a3 (fun y => absurd p0 y) (fun c2 r2 b1 b2 b3 b4 b5 b6 b7 b8 b9 b10 b11 b12 b13 => ?_)
    · rw [show (1 : Int32) = nI 1 from rfl, nI_add, show (10 : Int32) = nI 10 from rfl, pk_sub (by omega), show 1 + i - 10 = i - 9 by omega]
    · rw [show (1 : Int32) = nI 1 from rfl, nI_add, show (210 : Int32) = nI 210 from rfl, pk_sub (by omega), show 1 + (200 + i) - 210 = i - 9 by omega]
    rw [if_neg n1, if_pos p0]
    unfold k_X13_typeHere_89
    rw [Option.bind_assoc]
    have n4 : c2.1 1 8 ≠ 4 := fun e => by
      rw [b13] at e
      have := (nI_eq (b := 4) (by omega) (by decide)).mp e
      omega
    have n11 : c2.1 1 8 ≠ 1 := by rw [b13]; exact n1
    refine h2_bb _ (pj_adv b3 (by decide) (Or.inr n11) n4) (fun c3 r3 hw => ?_)
    obtain ⟨w1, w2, w3⟩ := hw
    have fc3 : l2_fr (ty_Wc a g l) c c3 := b10.trans (w1.mono (fun b j y => ty_la y))
    have fr3 : l2_fr (ty_Wr m) r r3 := b11.trans (w2.mono (fun b j y => ty_rn y))
    rcases w3 with w3 | ⟨f, p, w3, w4⟩
    rotate_left
    · refine h2_sep _ _ (w3.sw HC HF b1 (nI dd) (nI (200 + i))) (l2_bd _ (pr_89b w4 (by omega) (nI i)) (fun y hy => (?_ : t_hk (ty_ct rcR y) (fun y => ∃ x r', y = (x, t_setI r' 950 31 (r'.1 950 31 - 1)) ∧ pr P f p r' ∧ l2_fr (ty_Wr 0) r3 r')))) (fun x y hx hy => ?_)
      · obtain ⟨yv, r4⟩ := y
        rw [ty_ctF hy.1.ne]
        exact l2_sm ⟨yv, r4, rfl, hy.1, hy.2⟩
      · obtain ⟨xv, c4⟩ := x
        obtain ⟨yv, r4, rfl, y1, y2⟩ := hy
        exact ty_endF (f := f) (p := p) ((fc3.mono (fun b j y => ty_0 y)).trans hx.2) ((fr3.mono (fun b j y => y.sub (Nat.zero_le _))).trans y2) hx.1 y1
    have cm := pc_c_le P u
    have S0 : ty_S0 P u q m a g l dd (i - 9) c r c3 r3 := by
      obtain ⟨k1, k2, k3, k4, k5, k6, k7⟩ := b8
      obtain ⟨d1, d2, d3, d4, d5, d6, d7⟩ := b9
      have aC : ∀ b j, 2 ≤ b → c3.1 b j = c2.1 b j ∧ c3.2.1 b j = c2.2.1 b j := fun b j h => ⟨(w1 b j (by unfold la_W; omega)).1, (w1 b j (by unfold la_W; omega)).2.1⟩
      have aR : ∀ b j, 951 ≤ b → r3.1 b j = r2.1 b j ∧ r3.2.1 b j = r2.2.1 b j := fun b j h => ⟨(w2 b j (by unfold rn_W; omega)).1, (w2 b j (by unfold rn_W; omega)).2.1⟩
      have e55 : r3.1 955 m = nI (i - 9) := by rw [(aR 955 m (by decide)).1]; exact d1
      refine ⟨b1, b2, ⟨w3, ?_, by omega, ?_, by omega, ?_, by omega, ?_⟩, ⟨?_, ?_, ?_, ?_, ?_, ?_, ?_⟩, ⟨e55, ?_, ?_, ?_, ?_⟩, fc3, fr3, ty_D.one (K := i - 9) (by omega) (by omega) (by omega) e55 (fun x => by rw [(aC 7 x (by decide)).1]; exact b12 x)⟩
      · rw [(aC 316 8 (by decide)).1]; exact b4
      · rw [(aC 316 10 (by decide)).1]; exact b5
      · rw [(aC 846 6 (by decide)).1]; exact b6
      · rw [(w2 950 31 (by unfold rn_W; omega)).1]; exact b7
      · rw [(aC 317 a (by decide)).1]; exact k1
      · rw [(aC 318 a (by decide)).1]; exact k2
      · rw [(aC 319 a (by decide)).1]; exact k3
      · rw [(aC 320 a (by decide)).1]; exact k4
      · rw [(aC 321 a (by decide)).1]; exact k5
      · rw [(aC 322 a (by decide)).2]; exact k6
      · rw [(aC 323 a (by decide)).2]; exact k7
      · rw [(aR 957 m (by decide)).2]; exact d3
      · rw [(aR 958 m (by decide)).2]; exact d4
      · rw [(aR 959 m (by decide)).1]; exact d5
      · rw [(aR 960 m (by decide)).1]; exact d6
    have plain : ∀ x : Int32, x ≠ 10 → x ≠ 12 → x ≠ 13 → (if x = (10 : Int32) then (if (f_X13_is (40 : Int32) r3) = (0 : Int32) then (k_X13_typeHere_116 x (nI m) r3) else ((f_X13_ranges (nI m) r3).bind (fun r3 => some (nI m, r3)))) else (k_X13_typeHere_116 x (nI m) r3)) = some (nI m, r3) := fun x x1 x2 x3 => by
      rw [if_neg x1]
      unfold k_X13_typeHere_116
      rw [if_neg x2, if_neg x3]
    have ci : i = 10 ∨ i = 11 ∨ i = 12 ∨ i = 13 ∨ i = 14 ∨ i = 15 ∨ i = 16 := by omega
    unfold ty_sw
    rcases ci with rfl | rfl | rfl | rfl | rfl | rfl | rfl
    · rw [if_neg (by decide), if_pos (by decide), if_pos (show nI 10 = (10 : Int32) from rfl)]
      exact ty_k1 S0 (by omega)
    · rw [if_neg (by decide), if_neg (by decide), if_pos (by decide), plain _ (by decide) (by decide) (by decide)]
      exact ty_k2 S0 (by omega)
    · rw [if_neg (by decide), if_neg (by decide), if_neg (by decide), if_pos (by decide), if_neg (show ¬ nI 12 = (10 : Int32) by decide)]
      exact ty_k3 S0 (by omega)
    · rw [if_neg (by decide), if_neg (by decide), if_neg (by decide), if_neg (by decide), if_pos (by decide), if_neg (show ¬ nI 13 = (10 : Int32) by decide)]
      exact ty_k4 S0 (by omega)
    · rw [if_neg (by decide), if_neg (by decide), if_neg (by decide), if_neg (by decide), if_neg (by decide), if_pos (by decide), plain _ (by decide) (by decide) (by decide), hC1]
      exact ty_k56 HT2 HC2 HR2 hR1 (Or.inl ⟨rfl, rfl, rfl⟩) S0 hd
    · rw [if_neg (by decide), if_neg (by decide), if_neg (by decide), if_neg (by decide), if_neg (by decide), if_neg (by decide), if_pos (by decide), plain _ (by decide) (by decide) (by decide), hC1]
      exact ty_k56 HT2 HC2 HR2 hR1 (Or.inr ⟨rfl, rfl, rfl⟩) S0 hd
    · rw [if_neg (by decide), if_neg (by decide), if_neg (by decide), if_neg (by decide), if_neg (by decide), if_neg (by decide), if_neg (by decide), plain _ (by decide) (by decide) (by decide)]
      exact ty_k7 HT HC HR S0 hd
  · rw [a2, if_pos rfl]
    rcases a3 with a3 | ⟨v, v1, v2, v3⟩
    · rw [if_neg a3, if_pos rfl]
      exact no
    · rw [v2, if_neg (show ¬ nI v = (-2 : Int32) from fun e => nI_pos (n := v) (by omega) (by rw [e]; decide)), if_neg (nI_pos (by omega)), f_in (by omega), if_neg v3, if_pos rfl]
      by_cases y : r.1 950 5 = 1
      · rw [if_pos y]
        exact no
      · rw [if_neg y, if_pos rfl]
        exact no
/-- a type, dd deep -/
theorem ty_type : ∀ k dd, dd ≤ 17 → 2 * (17 - dd) + 1 ≤ k → ∀ P u q m a g l c r, tp P u 0 0 q m a g l dd c r → t_h2 ((R_X6_readFields k).2 (nI dd) c) ((R_X13_fields k).2 r) (ty_R P u q m a g l dd c r) := by
  intro k
  have HCk : ∀ k c f p, lc_F c f p → ∀ x, t_hk ((R_X6_readFields (k + 1)).2 x c) (fun y => lc_F y.2 f p ∧ l2_fr (ty_Wc 0 0 0) c y.2) := fun k c f p h x => h.type x
  have HRk : ∀ k P f p r, pr P f p r → (R_X13_fields (k + 1)).2 r = some (0, r) := fun k P f p r h => pr_type h
  induction k using Nat.strongRecOn with
  | ind k ih =>
    intro dd hd hk P u q m a g l c r T
    obtain ⟨k, rfl⟩ : ∃ j, k = j + 1 := ⟨k - 1, by omega⟩
    show t_h2 (m_X6_readType (R_X6_readFields k) (nI dd) c) (m_X13_type (R_X13_fields k) r) _
    by_cases e : dd = 17
    · subst e
      exact ty_deep T
    · obtain ⟨k, rfl⟩ : ∃ j, k = j + 1 := ⟨k - 1, by omega⟩
      obtain ⟨k, rfl⟩ : ∃ j, k = j + 1 := ⟨k - 1, by omega⟩
      exact ty_one (rcC2 := R_X6_readFields (k + 1)) (rcR2 := R_X13_fields (k + 1)) (by omega) (fun P u q m a g l c r T => ih (k + 1 + 1) (by omega) (dd + 1) (by omega) (by omega) P u q m a g l c r T) (HCk (k + 1)) (HRk (k + 1)) (fun P u q m a g l c r T => ih (k + 1) (by omega) (dd + 1) (by omega) (by omega) P u q m a g l c r T) (HCk k) (HRk k) (fun _ _ _ _ => rfl) (fun _ _ => rfl) T
/-- a whole type on both sides -/
theorem ty_read {P : pc_S} {u q m a g l : Nat} {c r : t_S} (T : tp P u 0 0 q m a g l 0 c r) : t_h2 (f_X6_readType 0 c) (f_X13_type r) (ty_R P u q m a g l 0 c r) := ty_type 100 0 (by decide) (by decide) P u q m a g l c r T
