/-! Level 2: length behind a tone. -/
/-- the word length has six signs -/
theorem pj.len6 {P : pc_S} {u d z q m : Nat} {c r : t_S} (h : pj P u d z q m c r) (h8 : c.1 1 8 = nI (200 + 19)) : pc_p P u + 6 ≤ pc_p P (u + 1) := by
  have hi := h.isW (x := 19) (by decide)
  rcases hi with ⟨_, b⟩ | ⟨a, _⟩
  rotate_left
  · exact absurd h8 a
  obtain ⟨B, L, W0, W, V, sl, H, T, n, t0, mm⟩ := P
  obtain ⟨⟨hc, hr, hR, ht⟩, _⟩ := h
  unfold f_X13_isWord at b
  by_cases h5 : r.1 950 5 = 1
  rotate_left
  · rw [if_neg h5] at b; exact absurd b (by decide)
  rw [if_pos h5] at b
  by_cases h10 : r.1 950 10 = nI (pv 19)
  rotate_left
  · rw [if_neg h10] at b; exact absurd b (by decide)
  show tk_P B L u + 6 ≤ tk_P B L (u + 1)
  rcases hr.2.2.2.2 with ⟨_, w, _⟩ | ⟨w1, _, _, _, rn⟩
  · rw [h5] at w; exact absurd w (by decide)
  have e := (tk_P_mono (B := B) (L := L) (u := u) w1).2
  obtain ⟨o1, _, o2, o3, o4⟩ := rn
  cases le : lx_le (B (tk_P B L u)) with
  | true =>
    obtain ⟨_, _, Q⟩ := o1 le
    unfold tk_e at e
    rw [if_pos le] at e
    have n6 : tk_n B L (tk_P B L u) = 6 := by
      rcases Q with ⟨v, v1, ⟨v2, _⟩, _, v4⟩ | ⟨_, v2⟩
      · rw [h10] at v4
        have : v = 19 := ((nI_eq (by decide) (by omega)).mp v4).symm
        subst this
        exact v2.symm.trans rfl
      · rw [h10] at v2; exact absurd v2 (by decide)
    unfold tk_n at n6
    omega
  | false =>
    cases di : lx_di (B (tk_P B L u)) with
    | true =>
      have w := (o2 le di).1
      rw [h5] at w; exact absurd w (by decide)
    | false =>
      by_cases q : B (tk_P B L u) = 34
      · have w := (o3 le di q).1
        rw [h5] at w; exact absurd w (by decide)
      · have w := (o4 le di q).1
        rw [h5] at w; exact absurd w (by decide)
theorem pj.pmono {P : pc_S} {v d z q m : Nat} {c r : t_S} (h : pj P v d z q m c r) : ∀ k a, a + k = v → 0 < k → pc_p P a < pc_p P v := by
  obtain ⟨B, L, W0, W, V, sl, H, T, n, t0, mm⟩ := P
  obtain ⟨⟨hc, _⟩, _⟩ := h
  obtain ⟨cT, cI, ⟨a1, a2, a3, a4, a5, a6⟩, cu, _⟩ := hc
  intro k
  induction k with
  | zero => intro a _ h0; omega
  | succ k ih =>
    intro a ha _
    have s1 : tk_P B L a < tk_P B L (a + 1) := (tk_P_mono (a5 a (by omega)).1).1
    show tk_P B L a < tk_P B L v
    by_cases z : k = 0
    · subst z
      rw [← ha]
      exact s1
    · have : tk_P B L (a + 1) < tk_P B L v := ih (a + 1) (by omega) (by omega)
      omega
/-- a node that doesn't count -/
theorem xp_node0 {P : pc_S} {E : en_S} {u d q m t e p l w o s i dd K : Nat} {c r : t_S} (h : xp P E u d 0 q m t e p l w o s i dd c r) (hK : K < 100) : t_hk (f_X13_node (nI K) 0 r) (fun x => m < 12999 ∧ x.1 = nI m ∧ l2_fr (xn_W m) r x.2 ∧ nd_at x.2 m (nI K) (r.1 950 6) ∧ (20 ≤ K ∧ K ≤ 41 → x.2.1 962 m = nI i) ∧ xp P E u d 1 q (m + 1) t e p l w o s (if 20 ≤ K ∧ K ≤ 41 then i + 1 else i) dd c x.2) := by
  obtain ⟨J, hE, h2, h3, h4, h5, h6, h7, h8, h9, h10⟩ := h
  have mle := J.mle (by decide)
  obtain ⟨x, e2, w1, w2, w3, w4, w5⟩ := pj_node0 (k := nI K) J
  have ti := nd_ti (by omega) e2 h9 mle.2.1 (by omega) (Or.inl rfl)
  refine ⟨x, e2, w1, w2, w3, w4, fun y => (ti.1 y).1, w5, hE.fr (l2_fr.rf (W := fun _ _ => False)) w3 (fun j _ _ y => y) (fun b i _ _ y => y) ⟨by unfold nd_W; omega, by unfold nd_W; omega⟩, h2, h3, h4, h5, h6, h7, ?_, ?_, ?_⟩
  · rw [(w3 950 36 (by unfold nd_W; omega)).1]; exact h8
  · by_cases y : 20 ≤ K ∧ K ≤ 41
    · rw [if_pos y]; exact (ti.1 y).2
    · rw [if_neg y]; exact ti.2 y
  · rw [(w3 950 32 (by unfold nd_W; omega)).1]; exact h10
/-- behind a tone: the class's, the reference's -/
noncomputable def tlC (rc : RT_X6_readBase) (x : Int32) (c : t_S) : Option (Int32 × t_S) := (f_X2_take (219 : Int32) c).bind (fun r4 => if r4.1 = (0 : Int32) then (k_X6_readTempl_95 rc x r4.2) else ((f_X6_readSpan (40 : Int32) r4.2).bind (fun r5 => if t_ix x 6100 = true then t_let (t_setI r5.2 359 (x.toNatClampNeg) r5.1) (fun s1 => k_X6_readTempl_95 rc x s1) else none)))
noncomputable def tlR (rc : RT_X13_base) (x : Int32) (r : t_S) : Option (Int32 × t_S) := if (f_X13_isWord (19 : Int32) r) = (0 : Int32) then (k_X13_templ_129 rc x r) else ((f_X13_next r).bind (fun r4 => (f_X13_node (41 : Int32) (0 : Int32) r4).bind (fun r5 => if (f_X13_is (40 : Int32) r5.2) = (0 : Int32) then ((f_X13_fail (2 : Int32) (r5.2.1 950 6) r5.2).bind (fun r7 => k_X13_templ_101 rc x r5.1 r7)) else (k_X13_templ_101 rc x r5.1 r5.2))))
theorem xF.t95 {f p0 t e p l w o w' n : Nat} {c0 c : t_S} {rc : RT_X6_readBase} (h : xF f p0 t e p l w o w' c0 c) (hn : n < 6100) (ht : t ≤ n) : t_hk (k_X6_readTempl_95 rc (nI n) c) (fun y => xF f p0 t e p l w o w' c0 y.2) := by
  unfold k_X6_readTempl_95
  exact l2_eq (h.stay.2.2.1 220 (by decide)).2 (l2_ck rfl (l2_sm h))
theorem xF.tailC {f p0 t e p l w o w' n : Nat} {c0 c : t_S} {rc : RT_X6_readBase} (h : xF f p0 t e p l w o w' c0 c) (hn : n < 6100) (ht : t ≤ n) : t_hk (tlC rc (nI n) c) (fun y => xF f p0 t e p l w o w' c0 y.2) := by
  unfold tlC
  exact l2_eq (h.stay.2.2.1 219 (by decide)).2 (l2_ck rfl (h.t95 hn ht))
theorem xR.tailR {P : pc_S} {f p0 m s : Nat} {r0 r : t_S} {rc : RT_X13_base} (hm : m ≤ 12999) (h : xR P f p0 m s r0 r) {n : Nat} (hn : m ≤ n) (h3 : n < 13000) : t_hk (tlR rc (nI n) r) (fun y => xR P f p0 m s r0 y.2) := by
  unfold tlR
  refine l2_if (fun _ => h.templ129 hn h3) (fun _ => l2_bd _ h.next (fun r1 h1 => l2_bd _ (h1.node hm _ _) (fun y hy => ?_)))
  obtain ⟨h2, ⟨j, j1, j2, j3⟩, _⟩ := hy
  rw [j3]
  exact l2_if (fun _ => l2_eq (h2.fail _ _) (h2.templ101 j1 j2 h3)) (fun _ => h2.templ101 j1 j2 h3)
theorem tm_tail {P : pc_S} {E : en_S} {lv : Int32} {EB PB IB u q m t e p l w o s i dd : Nat} {c r c1 r1 : t_S} {rcC : RT_X6_readBase} {rcR : RT_X13_base} (hb : xb P EB PB IB u q t e p l w o s i dd) (hdd : dd ≤ 16) (G : tG P E lv u q m t e p l w o s i (dd + 1) c r c1 r1) : t_h2 (tlC rcC (nI t) c1) (tlR rcR (nI m) r1) (xTm_R P E lv u q m t e p l w o s i dd c r) := by
  obtain ⟨u', q', m', t', e', p', l', s', i', xk1, hm, ht, X, fc, fr, hX, D, h60, h61, h58, h359, h360, h56⟩ := G
  have bd := hb.ebound xk1 X.1.ple.2.2 X.1.ple.1 X.1.ple.2.1
  have ml := (X.1.mle (by decide)).1
  have ee : e ≤ e' ∧ s ≤ s' := by unfold xk at xk1; omega
  unfold tlC tlR
  rcases X.1.isW (x := 19) (by decide) with ⟨a, b⟩ | ⟨a, b⟩
  rotate_left
  · rw [show (19 : Int32) = nI (pv 19) from rfl, b]
    refine h2_ckR rfl (h2_eL (pj_nottook a) (h2_ckL rfl ?_))
    exact tm_95 hb (by omega) ⟨u', q', m', m', t', e', p', l', s', i', xk1, hm, Nat.le_refl _, ht, X, fc, fr, hX, D, h60, ⟨h58, h56⟩, h360, h61, Or.inl ⟨h359, rfl, rfl⟩⟩
  have p6 := X.1.len6 a
  rw [show (19 : Int32) = nI (pv 19) from rfl, b]
  refine h2_noR (by decide) (h2_bb _ (xp_took X (by decide) (x := 200 + 19) (by decide) a) (fun y r2 hy => ?_))
  obtain ⟨y0, c2⟩ := y
  obtain ⟨y1, y2, y3, y4⟩ := hy
  have y1 : y0 = 1 := y1
  subst y1
  have y2 : l2_fr la_W c1 c2 := y2
  have y4 : (xp P E (u' + 1) 0 0 q' m' t' e' p' l' w o s' i' (dd + 1) c2 r2 ∧ pc_p P u' < pc_p P (u' + 1) ∧ pc_c P u' ≤ pc_c P (u' + 1)) ∨ pf P c2 r2 := y4
  refine h2_noL (show ¬ (1 : Int32) = 0 by decide) ?_
  show t_h2 ((f_X6_readSpan (40 : Int32) c2).bind (fun r5 => if t_ix (nI t) 6100 = true then t_let (t_setI r5.2 359 ((nI t).toNatClampNeg) r5.1) (fun s1 => k_X6_readTempl_95 rcC (nI t) s1) else none)) _ _
  have fc2 : l2_fr (xWc t e p l w o) c c2 := fc.trans (y2.mono (fun b j z => x_la z))
  have fr2 : l2_fr (xWr m s) r r2 := fr.trans (y3.mono (fun b j z => x_rn z))
  -- the class behind a fault, from behind the word on
  have clsF : ∀ {f p0 : Nat} {c3 : t_S}, xF f p0 t e p l w o w c c3 → ∀ v : Int32, t_hk (if t_ix (nI t) 6100 = true then t_let (t_setI c3 359 ((nI t).toNatClampNeg) v) (fun s1 => k_X6_readTempl_95 rcC (nI t) s1) else none) (fun y => xF f p0 t e p l w o w c y.2) := fun h v => by
    refine l2_ck (l2_ix (by omega) (by decide)) (l2_lt ?_)
    rw [nI_clamp (by omega)]
    exact (h.set (b := 359) (by decide) (Nat.le_refl _)).t95 (by omega) (Nat.le_refl _)
  rcases y4 with ⟨X2, pl1, pl2⟩ | ⟨f, p0, y4, y5⟩
  rotate_left
  · have hF : xF f p0 t e p l w o w c c2 := xF.of X (by omega) (by omega) ⟨Nat.le_refl _, by omega⟩ ⟨ee.1, Nat.le_refl _⟩ fc y2 (fun b j z => x_la z) ⟨by unfold la_W; omega, by unfold la_W; omega, by unfold la_W; omega⟩ (fun j => by unfold la_W; omega) y4 xw.nil
    have hR : xR P f p0 m s r r2 := (xR.of X.1 (by decide) y3 y5 (s := s')).sub fr (by omega) ee.2
    refine h2_sep (fun x => xF f p0 t e p l w o w c x.2) (fun y => xR P f p0 m s r y.2) ?_ ?_ (fun x y hx hy => Or.inr ⟨f, p0, hx, hy⟩)
    · obtain ⟨z, e1, e2⟩ := lc_F.span y4 40
      refine l2_eq e1 ?_
      rw [e2]
      exact clsF hF z.1
    · refine l2_bd _ (hR.node (by omega) _ _) (fun y hy => ?_)
      obtain ⟨h2, ⟨j, j1, j2, j3⟩, _⟩ := hy
      rw [j3]
      exact l2_if (fun _ => l2_eq (h2.fail _ _) (h2.templ101 j1 j2 (by omega))) (fun _ => h2.templ101 j1 j2 (by omega))
  -- the node of length
  refine h2_bR _ (xp_node0 (K := 41) X2 (by decide)) (fun y hy => ?_)
  obtain ⟨y0, r3⟩ := y
  obtain ⟨n1, n2, n3, n4, n5, X3⟩ := hy
  have n2 : y0 = nI m' := n2
  subst n2
  have n3 : l2_fr (xn_W m') r2 r3 := n3
  have n4 : nd_at r3 m' (nI 41) (r2.1 950 6) := n4
  have n5 : r3.1 962 m' = nI i' := n5 (by decide)
  rw [if_pos (by decide)] at X3
  have X3 : xp P E (u' + 1) 0 1 q' (m' + 1) t' e' p' l' w o s' (i' + 1) (dd + 1) c2 r3 := X3
  show t_h2 _ (if (f_X13_is (40 : Int32) r3) = (0 : Int32) then ((f_X13_fail (2 : Int32) (r3.1 950 6) r3).bind (fun r7 => k_X13_templ_101 rcR (nI m) (nI m') r7)) else (k_X13_templ_101 rcR (nI m) (nI m') r3)) _
  have fr3 : l2_fr (xWr m s) r r3 := fr2.trans (n3.mono (fun b j z => by
    rcases z with ⟨z1, z2, z3⟩ | ⟨z1, z2⟩
    · exact Or.inr (Or.inr (Or.inl ⟨z1, z2, by omega⟩))
    · exact Or.inl ⟨z1, by omega⟩))
  rcases X3.1.is (x := 40) (by decide) with ⟨a4, b4⟩ | ⟨a4, b4⟩
  rotate_left
  · have b4 : f_X13_is (40 : Int32) r3 = 0 := b4
    refine h2_ckR b4 ?_
    -- no bracket
    obtain ⟨c4, r4, e1, e2, g1, g2, f, p0, g3, g4⟩ := pj_fail (f := 2) X3.1 (by decide) (by decide)
    have hF : xF f p0 t e p l w o w c c4 := xF.of X3 (by omega) (by omega) ⟨Nat.le_refl _, by omega⟩ ⟨ee.1, Nat.le_refl _⟩ fc2 g1 (fun b j z => x_la z) ⟨by unfold la_W; omega, by unfold la_W; omega, by unfold la_W; omega⟩ (fun j => by unfold la_W; omega) g3 xw.nil
    have hR : xR P f p0 m s r r4 := (xR.of X3.1 (by decide) g2 g4 (s := s')).sub fr3 (by omega) ee.2
    refine h2_sep (fun x => xF f p0 t e p l w o w c x.2) (fun y => xR P f p0 m s r y.2) ?_ (l2_eq e2 (hR.templ101 (by omega) (by omega) (by omega))) (fun x y hx hy => Or.inr ⟨f, p0, hx, hy⟩)
    have sp : f_X6_readSpan (40 : Int32) c2 = f_X6_readSpan (40 : Int32) c4 := by
      unfold f_X6_readSpan
      rw [(g3.need (x := 40) (by decide)).1]
      unfold f_X2_need
      rw [if_neg (show ¬ c2.1 1 8 = (40 : Int32) from a4)]
      show ((f_X2_fail (nI 2) c2).bind (fun r1 => some r1)).bind _ = _
      rw [e1]
      rfl
    rw [sp]
    obtain ⟨z, e3, e4⟩ := lc_F.span g3 40
    refine l2_eq e3 ?_
    rw [e4]
    exact clsF hF z.1
  have b4 : f_X13_is (40 : Int32) r3 = 1 := b4
  refine h2_noR (by rw [b4]; decide) ?_
  unfold k_X13_templ_101
  refine h2_bb _ (sp_span (n := m') (b := 40) X3.1 (by decide) a4 (by omega) (by decide)) (fun x4 r4 hx => ?_)
  obtain ⟨sv, c4⟩ := x4
  obtain ⟨g1, g2, g3⟩ := hx
  have g1 : l2_fr la_W c2 c4 := g1
  have ix1 : t_ix (nI m') 13000 = true := l2_ix (by omega) (by decide)
  have ix2 : t_ix (nI m) 13000 = true := l2_ix (by omega) (by decide)
  rcases g3 with ⟨v, lo, hi, v1, v2, v3, J4, v4, v5, v6⟩ | ⟨f, p0, g3, g4⟩
  rotate_left
  · have g3 : lc_F c4 f p0 := g3
    have hF : xF f p0 t e p l w o w c c4 := xF.of X3 (by omega) (by omega) ⟨Nat.le_refl _, by omega⟩ ⟨ee.1, Nat.le_refl _⟩ fc2 g1 (fun b j z => x_la z) ⟨by unfold la_W; omega, by unfold la_W; omega, by unfold la_W; omega⟩ (fun j => by unfold la_W; omega) g3 xw.nil
    have hR : xR P f p0 m s r r4 := by
      refine ⟨g4, fr3.trans (g2.mono (fun b j z => ?_)), m' + 1, by omega, by omega, ?_⟩
      · rcases z with ⟨z1, z2⟩ | ⟨z1, z2⟩
        · exact Or.inl ⟨z1, Or.inl z2⟩
        · exact Or.inr (Or.inr (Or.inl ⟨by omega, by omega, by omega⟩))
      · rw [(g2 950 24 (by unfold sp_W; omega)).1]
        exact (X3.1.mle (by decide)).2.1
    refine h2_sep (fun x => xF f p0 t e p l w o w c x.2) (fun y => xR P f p0 m s r y.2) (clsF hF sv) (l2_ck ix1 (l2_lt (l2_ck ix2 (l2_lt ?_)))) (fun x y hx hy => Or.inr ⟨f, p0, hx, hy⟩)
    rw [nI_clamp (n := m') (by omega)]
    exact ((hR.set (b := 959) (Or.inl ⟨by decide, by decide, by omega⟩)).set (b := 956) (Or.inl ⟨by decide, by decide, by omega⟩)).templ129 (by omega) (by omega)
  have v4 : sv = nI (1 + 256 * lo + 65536 * hi) := v4
  subst v4
  have J4 : pj P v 0 0 q' (m' + 1) c4 r4 := J4
  refine h2_ckL (l2_ix (by omega) (by decide)) (h2_lL (h2_ckR ix1 (h2_lR (h2_ckR ix2 (h2_lR ?_)))))
  show t_h2 (k_X6_readTempl_95 rcC (nI t) (t_setI c4 359 (nI t).toNatClampNeg (nI (1 + 256 * lo + 65536 * hi)))) (k_X13_templ_129 rcR (nI m') (t_setI (t_setI r4 959 (nI m').toNatClampNeg (nI m)) 956 (nI m').toNatClampNeg ((t_setI r4 959 (nI m').toNatClampNeg (nI m)).1 956 (nI m).toNatClampNeg))) _
  rw [nI_clamp (n := m') (by omega), nI_clamp (n := m) (by omega), nI_clamp (n := t) (by omega)]
  have f5 : l2_fr (fun b j => b = 359 ∧ j = t) c4 (t_setI c4 359 t (nI (1 + 256 * lo + 65536 * hi))) := l2_fr.set ⟨rfl, rfl⟩
  have w5 : (t_setI c4 359 t (nI (1 + 256 * lo + 65536 * hi))).1 359 t = nI (1 + 256 * lo + 65536 * hi) := by simp only [l2_gI, reduceIte]
  have f6 : l2_fr (fun b j => (b = 959 ∨ b = 956) ∧ j = m') r4 (t_setI (t_setI r4 959 m' (nI m)) 956 m' ((t_setI r4 959 m' (nI m)).1 956 m)) := (l2_fr.set ⟨Or.inl rfl, rfl⟩).trans (l2_fr.set ⟨Or.inr rfl, rfl⟩)
  have w6 : (t_setI (t_setI r4 959 m' (nI m)) 956 m' ((t_setI r4 959 m' (nI m)).1 956 m)).1 959 m' = nI m := by simp only [l2_gI, Nat.reduceEqDiff, reduceIte]
  generalize t_setI c4 359 t (nI (1 + 256 * lo + 65536 * hi)) = c5 at *
  generalize t_setI (t_setI r4 959 m' (nI m)) 956 m' ((t_setI r4 959 m' (nI m)).1 956 m) = r5 at *
  have aC : ∀ b j, 2 ≤ b → ¬ (b = 359 ∧ j = t) → c5.1 b j = c1.1 b j ∧ c5.2.1 b j = c1.2.1 b j := fun b j x y => by
    have q1 := f5 b j y
    have q2 := g1 b j (by unfold la_W; omega)
    have q3 := y2 b j (by unfold la_W; omega)
    exact ⟨q1.1.trans (q2.1.trans q3.1), q1.2.1.trans (q2.2.1.trans q3.2.1)⟩
  have aR : ∀ b j, 951 ≤ b → ¬ (955 ≤ b ∧ b ≤ 962 ∧ j = m') → r5.1 b j = r1.1 b j ∧ r5.2.1 b j = r1.2.1 b j := fun b j x y => by
    have q1 := f6 b j (by omega)
    have q2 := g2 b j (by unfold sp_W; omega)
    have q3 := n3 b j (by unfold xn_W; omega)
    have q4 := y3 b j (by unfold rn_W; omega)
    exact ⟨q1.1.trans (q2.1.trans (q3.1.trans q4.1)), q1.2.1.trans (q2.2.1.trans (q3.2.1.trans q4.2.1))⟩
  obtain ⟨d1, d2, d3, d4, d5, d6, d7⟩ := n4
  have e55 : r5.1 955 m' = nI 41 := by rw [(f6 955 m' (by omega)).1, (g2 955 m' (by unfold sp_W; omega)).1]; exact d1
  have e60 : r5.1 960 m' = -1 := by rw [(f6 960 m' (by omega)).1, (g2 960 m' (by unfold sp_W; omega)).1]; exact d6
  have e61 : r5.1 961 m' = 0 := by rw [(f6 961 m' (by omega)).1, (g2 961 m' (by unfold sp_W; omega)).1]; exact d7
  have e62 : r5.1 962 m' = nI i' := by rw [(f6 962 m' (by omega)).1, (g2 962 m' (by unfold sp_W; omega)).1]; exact n5
  have plt := J4.pmono (v - (u' + 1)) (u' + 1) (by omega) (by omega)
  have cm := pc_c_mono P u' v (by omega)
  have hc : xD_c c1 c5 l' := fun b e y1 y2 _ => (aC b e (by omega) (by omega)).1
  have T5 : XT (wn_R E c5 r5 l l') (an_R E c5 r5 l l') (tn_R E c5 r5 l l') (sn_R c5) c5 r5 p' s' (m' + 1 - m - 1) lv (20 * (dd + 1) + 15) e e' t t' m m' := by
    refine XT.ax (Nat.le_refl _) (Nat.le_refl _) hX ht hm ⟨fun j _ _ => ⟨(aC 335 j (by decide) (by omega)).1, (aC 336 j (by decide) (by omega)).1⟩, fun b j y1 y2 y3 _ _ => (aC b j (by omega) (by omega)).1, fun j _ _ _ => ⟨(aC 361 j (by decide) (by omega)).2, (aC 362 j (by decide) (by omega)).2⟩, fun j _ => (aC 337 j (by decide) (by omega)).2, fun b j y1 y2 y3 y4 _ => aR b j (by omega) (by omega), fun j _ => (aR 963 j (by decide) (by omega)).1⟩ (fun b y => (aC b t (by omega) (by omega)).1) (fun _ => ⟨(aC 361 t (by decide) (by omega)).2, (aC 362 t (by decide) (by omega)).2⟩) (fun b y => aR b m (by omega) (by omega)) (fun a k _ _ y3 y4 g => ?_) (fun a k _ _ y3 y4 g => ?_) (fun a k _ _ y3 y4 g => ?_) (fun a _ _ _ _ _ g => ?_) (by omega)
    · exact g.fr ⟨(aC 335 a (by decide) (by omega)).1, (aC 336 a (by decide) (by omega)).1⟩ hc (aR 956 k (by decide) (by omega)).1 (aR 957 k (by decide) (by omega)).2 (aR 958 k (by decide) (by omega)).2 (aR 961 k (by decide) (by omega)).1 (Nat.le_refl _) (Nat.le_refl _)
    · exact g.fr hc (aR 957 k (by decide) (by omega)).2 (aR 958 k (by decide) (by omega)).2 (aR 961 k (by decide) (by omega)).1 (Nat.le_refl _) (Nat.le_refl _)
    · exact g.fr (aC 354 a (by decide) (by omega)).1 (aC 357 a (by decide) (by omega)).1 hc (aR 956 k (by decide) (by omega)).1 (aR 957 k (by decide) (by omega)).2 (Nat.le_refl _) (Nat.le_refl _)
    · exact ⟨(aC 354 a (by decide) (by omega)).1.trans g.1, (aC 362 a (by decide) (by omega)).2.trans g.2⟩
  have D5 : xD E c c5 r5 l l' i (i' + 1) m (m' + 1) := by
    refine D.trans (xD.plain (K := 41) (i := i') (i' := i' + 1) e55 (by decide) (by decide) (aC 846 7 (by decide) (by omega)).1 (aC 846 8 (by decide) (by omega)).1 (fun _ => ⟨e62, by omega⟩)) ⟨by unfold xk at xk1; omega, Nat.le_refl _⟩ ⟨by unfold xk at xk1; omega, by omega⟩ ⟨by omega, by omega⟩ hc (fun k z1 z2 => ?_)
    exact ⟨(aR 955 k (by decide) (by omega)).1, (aR 956 k (by decide) (by omega)).1, (aR 962 k (by decide) (by omega)).1, (aR 1003 k (by decide) (by omega)).1, (aR 957 k (by decide) (by omega)).2, (aR 958 k (by decide) (by omega)).2, fun _ => (aR 961 k (by decide) (by omega)).1⟩
  refine tm_95 hb (by omega) ⟨v, q', m', m' + 1, t', e', p', l', s', i' + 1, ?_, hm, by omega, ht, ?_, ?_, ?_, T5, D5, e60, ?_, ?_, e61, Or.inr ⟨rfl, rfl, e55, w6, ?_, by rw [(aR 960 m (by decide) (by omega)).1]; exact h60, lo, hi, v2, v3, ?_, ?_, w5⟩⟩
  · unfold xk at *
    omega
  · have X4 : xp P E v 0 0 q' (m' + 1) t' e' p' l' w o s' (i' + 1) (dd + 1) c4 r4 := X3.fr J4 g1 g2 (fun b j y => by unfold la_W; omega) (fun b i _ _ => by unfold la_W; omega) (fun j y => by unfold sp_W; omega)
    exact X4.own f5 f6 (fun b j y => by omega) (fun b j y => by omega)
  · exact (fc2.trans (g1.mono (fun b j y => x_la y))).trans (f5.mono (fun b j y => by obtain ⟨rfl, rfl⟩ := y; exact xWc.itm (by decide) (by decide) (Nat.le_refl _)))
  · refine (fr3.trans (g2.mono (fun b j z => ?_))).trans (f6.mono (fun b j z => Or.inr (Or.inr (Or.inl ⟨by omega, by omega, by omega⟩))))
    rcases z with ⟨z1, z2⟩ | ⟨z1, z2⟩
    · exact Or.inl ⟨z1, Or.inl z2⟩
    · exact Or.inr (Or.inr (Or.inl ⟨by omega, by omega, by omega⟩))
  · exact ⟨by rw [(aC 358 t (by decide) (by omega)).1]; exact h58, by rw [(aC 356 t (by decide) (by omega)).1]; exact h56⟩
  · rw [(aC 360 t (by decide) (by omega)).1]; exact h360
  · rw [(aR 961 m (by decide) (by omega)).1]; exact h61
  · rw [(f6 957 m' (by omega)).2.1]; exact v5
  · rw [(f6 958 m' (by omega)).2.1]; exact v6
