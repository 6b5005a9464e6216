/-! Level 2: a type read on both sides. -/
theorem pj_name1 {P : pc_S} {u d z q m : Nat} {c r : t_S} (h : pj P u d z q m c r) (h8 : c.1 1 8 = 1) : t_hk (f_X13_name r) (fun x => ∃ k, k < 7934 ∧ c.2.1 1 10 = lN (66 + k) ∧ x.1 = nI k ∧ l2_fr nm_W r x.2 ∧ pj P u 1 z q m c x.2) := by
  have hs := h.sort.1.mp h8
  obtain ⟨y, e, k, h1, h2, h3, h4⟩ := pj_name h h8
  unfold f_X13_freeName at e
  rw [if_pos hs.1, if_pos hs.2] at e
  cases q : f_X13_name r with
  | none => rw [q] at e; cases e
  | some x =>
    rw [q] at e
    cases e
    exact ⟨x, rfl, k, h1, h2, h3, h4⟩
theorem pr_name1 {P : pc_S} {f p : Nat} {r : t_S} (h : pr P f p r) (h5 : r.1 950 5 = 1) (h10 : r.1 950 10 < 0) : t_hk (f_X13_name r) (fun x => l2_fr nm_W r x.2 ∧ pr P f p x.2) := by
  obtain ⟨y, e, h1⟩ := pr_name h
  unfold f_X13_freeName at e
  rw [if_pos h5, if_pos h10] at e
  cases q : f_X13_name r with
  | none => rw [q] at e; cases e
  | some x =>
    rw [q] at e
    cases e
    exact ⟨x, rfl, h1⟩
/-- a name as a type -/
theorem ty_k8 {P : pc_S} {u q m a g l dd : Nat} {l1 : Int32} {c r c2 r2 : t_S} {rc : RT_X13_fields} (hd : dd ≤ 17) (h1 : a < 3001) (h2 : m < 12999) (J : pj P u 0 1 (q + 1) (m + 1) c2 r2) (t2 : c2.1 316 8 = nI (a + 1)) (t3 : a ≤ q) (t4 : c2.1 316 10 = nI g) (t5 : g ≤ pc_c P u) (t6 : c2.1 846 6 = nI l) (t7 : l ≤ pc_c P u) (t8 : r2.1 950 31 = nI (dd + 1)) (c17 : c2.1 317 a = nI 8) (r55 : r2.1 955 m = nI 8) (r56 : r2.1 956 m = r2.1 950 6) (r60 : r2.1 960 m = -1) (fc : l2_fr (ty_Wc a g l) c c2) (fr : l2_fr (ty_Wr m) r r2) (c7 : ∀ x, c2.1 7 x = c.1 7 x) (h8 : c2.1 1 8 = 1) (n10 : l1 = -1) :
    t_h2 ((f_X6_link (0 : Int32) (nI a) (0 : Int32) c2).bind (fun r13 => some (nI a, r13))) (((f_X13_name r2).bind (fun y => if t_ix (nI m) 13000 = true then t_let (t_setJ y.2 957 ((nI m).toNatClampNeg) y.1.toInt64) (fun s1 => k_X13_typeHere_89 l1 (nI m) s1) else none)).bind (ty_ct rc)) (ty_R P u q m a g l dd c r) := by
  subst n10
  have cl := J.cle
  unfold f_X6_link
  rw [if_pos h8, Option.bind_assoc]
  refine h2_bL _ (ln_add (x1 := 0) (x2 := c2.1 1 9) (x3 := f_X2_word c2) (x4 := f_X6_home c2) (x5 := nI a) (x6 := 0) t6 (by omega)) (fun c3 hc3 => ?_)
  obtain ⟨w1, w2, w3, w4, w5, w6, w7, w8⟩ := hc3
  rw [Option.bind_assoc, Option.bind_assoc]
  refine h2_bR _ (pj_name1 J h8) (fun y hy => ?_)
  obtain ⟨yv, r3⟩ := y
  obtain ⟨x, x1, x2, x3, x4, x5⟩ := hy
  have x3 : yv = nI x := x3
  subst x3
  have x4 : l2_fr nm_W r2 r3 := x4
  have x5 : pj P u 1 1 (q + 1) (m + 1) c2 r3 := x5
  have ww : f_X2_word c2 = nI (66 + x) := by
    unfold f_X2_word
    rw [x2]
    exact lN_i _
  rw [ww] at w5
  have cm : (nI m).toNatClampNeg = m := nI_clamp (by omega)
  show t_h2 _ ((if t_ix (nI m) 13000 = true then t_let (t_setJ r3 957 ((nI m).toNatClampNeg) (nI x).toInt64) (fun s1 => k_X13_typeHere_89 (-1) (nI m) s1) else none).bind (ty_ct rc)) _
  rw [if_pos (l2_ix (by omega : m < 13000) (by decide)), cm, nI_l (by omega)]
  have z1 : l2_fr (fun b j => b = 957 ∧ j = m) r3 (t_setJ r3 957 m (lN x)) := l2_fr.setJ ⟨rfl, rfl⟩
  have v57 : (t_setJ r3 957 m (lN x)).2.1 957 m = lN x := by simp only [l2_gJ, reduceIte, eq_self]
  show t_h2 _ ((k_X13_typeHere_89 (-1) (nI m) (t_setJ r3 957 m (lN x))).bind (ty_ct rc)) _
  generalize t_setJ r3 957 m (lN x) = r4 at *
  unfold k_X13_typeHere_89
  rw [Option.bind_assoc]
  have J4 : pj P u 1 1 (q + 1) (m + 1) c3 r4 := x5.fr w1 z1 (fun j => by omega) (fun b i _ _ => by omega) (fun b i _ _ => by omega) (by omega) (fun j _ => by omega) (fun b i _ _ => by omega)
  have h83 : c3.1 1 8 = 1 := by rw [(w1 1 8 (by omega)).1]; exact h8
  have cw := J4.cword h83
  refine h2_bb _ (pj_adv J4 (by decide) (Or.inl rfl) (by rw [h83]; decide)) (fun c5 r5 hw => ?_)
  obtain ⟨p1, p2, p3⟩ := hw
  have e89 : (if (-1 : Int32) = (10 : Int32) then (if (f_X13_is (40 : Int32) r5) = (0 : Int32) then (k_X13_typeHere_116 (-1) (nI m) r5) else ((f_X13_ranges (nI m) r5).bind (fun r3 => some (nI m, r3)))) else (k_X13_typeHere_116 (-1) (nI m) r5)) = some (nI m, r5) := by
    rw [if_neg (by decide)]
    unfold k_X13_typeHere_116
    rw [if_neg (by decide), if_neg (by decide)]
  rw [e89]
  show t_h2 (some (nI a, c5)) (ty_ct rc (nI m, r5)) _
  have fc5 : l2_fr (ty_Wc a g l) c c5 := (fc.trans (w1.mono (fun b j y => by unfold ty_Wc; omega))).trans (p1.mono (fun b j y => ty_la y))
  have fr5 : l2_fr (ty_Wr m) r r5 := ((fr.trans (x4.mono (fun b j y => ty_nm y))).trans (z1.mono (fun b j y => Or.inr (Or.inr ⟨by omega, by omega, by omega⟩)))).trans (p2.mono (fun b j y => ty_rn y))
  rcases p3 with p3 | ⟨f, p, p3, p4⟩
  rotate_left
  · rw [ty_ctF p4.ne]
    exact h2_sm (ty_endF (f := f) (p := p) (fc5.mono (fun b j y => ty_0 y)) (fr5.mono (fun b j y => y.sub (Nat.zero_le _))) p3 p4)
  have aC : ∀ b j, 2 ≤ b → c5.1 b j = c3.1 b j := fun b j h => (p1 b j (by unfold la_W; omega)).1
  have aR : ∀ b j, 955 ≤ b → (b = 957 → j ≠ m) → r5.1 b j = r2.1 b j ∧ r5.2.1 b j = r2.2.1 b j := fun b j h h' => by
    have q1 := p2 b j (by unfold rn_W; omega)
    have q2 := z1 b j (fun y => h' y.1 y.2)
    have q3 := x4 b j (by unfold nm_W; omega)
    exact ⟨(q1.1.trans q2.1).trans q3.1, (q1.2.1.trans q2.2.1).trans q3.2.1⟩
  have e55 : r5.1 955 m = nI 8 := by rw [(aR 955 m (by decide) (by omega)).1]; exact r55
  have en : ty_en c5 r5 l m := by
    refine ⟨x, x1, ?_, ?_, ?_, ?_⟩
    · rw [aC 849 l (by decide)]; exact w4
    · rw [aC 850 l (by decide)]; exact w5
    · rw [aC 848 l (by decide), w3, (aR 956 m (by decide) (by omega)).1, r56, cl.2.1, cl.2.2.1]
    · rw [(p2 957 m (by unfold rn_W; omega)).2.1]; exact v57
  rw [ty_ctP p3.f0.2 (by omega) e55 (by decide) (by decide) (by decide) (by decide)]
  refine h2_sm (ty_end (u2 := u + 1) (q2 := q + 1) (m2 := m + 1) (a2 := a + 1) (g2 := g) (l2 := l + 1) (by omega) (by omega) (by omega) (Nat.le_refl _) (by omega) ⟨p3, ?_, by omega, ?_, by omega, ?_, by omega, ?_⟩ fc5 fr5 ?_ ?_ ?_ (ty_s.one (K := 8) e55 (by decide) (by decide) (by decide) (by decide) (by decide) (by decide)))
  · rw [aC 316 8 (by decide), (w1 316 8 (by omega)).1]; exact t2
  · rw [aC 316 10 (by decide), (w1 316 10 (by omega)).1]; exact t4
  · rw [aC 846 6 (by decide)]; exact w2
  · rw [(p2 950 31 (by unfold rn_W; omega)).1, (z1 950 31 (by omega)).1, (x4 950 31 (by unfold nm_W; omega)).1]; exact t8
  · rw [show 18 - dd = (17 - dd) + 1 by omega]
    refine ⟨Nat.le_refl _, by omega, Nat.le_refl _, by omega, 8, ?_, e55, Or.inr (Or.inr (Or.inr (Or.inr (Or.inr (Or.inr ⟨rfl, l, by omega, en, ?_⟩)))))⟩
    · rw [aC 317 a (by decide), (w1 317 a (by omega)).1]; exact c17
    · rw [aC 852 l (by decide)]; exact w7
  · rw [(aR 960 m (by decide) (by omega)).1]; exact r60
  · refine ⟨fun k y z => ⟨8, by decide, by decide, by rw [show k = m by omega]; exact e55, fun _ => ⟨l, by omega, by omega, by rw [show k = m by omega]; exact en⟩⟩, fun e y z => ⟨m, by omega, by omega, e55, by rw [show e = l by omega]; exact en⟩, fun y hy => ?_⟩
    rw [aC 7 _ (by decide), (w1 7 _ (by omega)).1, c7]
    refine ⟨fun z => Or.inl z, fun z => z.elim id (fun ⟨k, y1, y2, y3, _⟩ => ?_)⟩
    rw [show k = m by omega, e55] at y3
    exact absurd y3 (by decide)
/-- the class's switch over the sorts of types -/
noncomputable def ty_sw (rc : RT_X6_readFields) (l1 l2 x : Int32) (r2 : t_S) : Option (Int32 × t_S) := if l2.toInt < 210 ∨ 216 < l2.toInt then (some (x, r2))
 else if l2.toInt = 210 then ((f_X6_readInt x r2).bind (fun r3 => some (x, r3)))
 else if l2.toInt = 211 then (some (x, r2))
 else if l2.toInt = 212 then (if t_ix x 3001 = true then t_let (t_setJ r2 323 (x.toNatClampNeg) (40 : Int64)) (fun s1 => if (s1.1 1 8) = (40 : Int32) then ((f_X6_readSpan (40 : Int32) s1).bind (fun r5 => (f_X6_setSpan x r5.1 r5.2).bind (fun r6 => some (x, r6)))) else (some (x, s1))) else none)
 else if l2.toInt = 213 then ((f_X6_readEnum x r2).bind (fun r7 => some (x, r7)))
 else if l2.toInt = 214 then ((rc.1 x l1 (1 : Int32) r2).bind (fun r8 => some (x, r8)))
 else if l2.toInt = 215 then ((rc.1 x l1 (0 : Int32) r2).bind (fun r9 => some (x, r9)))
 else (if t_ix x 3001 = true then t_let (t_setJ r2 323 (x.toNatClampNeg) (16 : Int64)) (fun s2 => if (s2.1 1 8) = (40 : Int32) then ((f_X6_readSpan (16 : Int32) s2).bind (fun r11 => (f_X6_setSpan x r11.1 r11.2).bind (fun r12 => k_X6_readType_257 rc l1 x r12))) else (k_X6_readType_257 rc l1 x s2)) else none)
theorem lc_F.readInt {c : t_S} {f p n : Nat} (h : lc_F c f p) (hn : n < 3001) : t_hk (f_X6_readInt (nI n) c) (fun c' => lc_F c' f p ∧ l2_fr (ty_Wc 0 0 0) c c') := by
  unfold f_X6_readInt
  refine l2_ck (l2_ix hn (by decide)) ?_
  rw [nI_clamp (n := n) (by omega)]
  have w : l2_fr (fun b j => (b = 322 ∨ b = 323) ∧ j = n) c (t_setJ (t_setJ c 322 n (-1000000000000000)) 323 n 1000000000000000) := (l2_fr.setJ ⟨Or.inl rfl, rfl⟩).trans (l2_fr.setJ ⟨Or.inr rfl, rfl⟩)
  have h2 := h.fr w (fun j _ _ => by omega)
  exact l2_lt (l2_lt (l2_eq (h2.need (x := 40) (by decide)).2 (l2_ck rfl (l2_sm ⟨h2, w.mono (fun b j y => by unfold ty_Wc; omega)⟩))))
theorem lc_F.sw {s : t_S} {f p a : Nat} {rc : RT_X6_readFields} (HC : ∀ c f p, lc_F c f p → ∀ x, t_hk (rc.2 x c) (fun y => lc_F y.2 f p ∧ l2_fr (ty_Wc 0 0 0) c y.2)) (HF : ∀ c f p, lc_F c f p → ∀ x y z, t_hk (rc.1 x y z c) (fun c' => lc_F c' f p ∧ l2_fr (ty_Wc 0 0 0) c c')) (h : lc_F s f p) (ha : a < 3001) (l1 l2 : Int32) : t_hk (ty_sw rc l1 l2 (nI a) s) (fun y => lc_F y.2 f p ∧ l2_fr (ty_Wc 0 0 0) s y.2) := by
  have ix : t_ix (nI a) 3001 = true := l2_ix ha (by decide)
  have ne40 : ¬ (5 : Int32) = (40 : Int32) := by decide
  have set : ∀ v : Int64, lc_F (t_setJ s 323 (nI a).toNatClampNeg v) f p ∧ l2_fr (ty_Wc 0 0 0) s (t_setJ s 323 (nI a).toNatClampNeg v) := fun v => by
    have w : l2_fr (fun b j => b = 323) s (t_setJ s 323 (nI a).toNatClampNeg v) := l2_fr.setJ rfl
    exact ⟨h.fr w (fun j _ _ => by omega), w.mono (fun b j y => by unfold ty_Wc; omega)⟩
  unfold ty_sw
  refine l2_if (fun _ => l2_sm ⟨h, l2_fr.rf⟩) (fun _ => l2_if (fun _ => l2_bd _ (h.readInt ha) (fun y hy => l2_sm hy)) (fun _ => l2_if (fun _ => l2_sm ⟨h, l2_fr.rf⟩) (fun _ => l2_if (fun _ => l2_ck ix (l2_lt ?_)) (fun _ => l2_if (fun _ => l2_bd _ (h.readEnum ha) (fun y hy => l2_sm hy)) (fun _ => l2_if (fun _ => l2_bd _ (HF s f p h _ _ _) (fun y hy => l2_sm hy)) (fun _ => l2_if (fun _ => l2_bd _ (HF s f p h _ _ _) (fun y hy => l2_sm hy)) (fun _ => l2_ck ix (l2_lt ?_))))))))
  · obtain ⟨h2, w⟩ := set 40
    rw [h2.2.2.2.2, if_neg ne40]
    exact l2_sm ⟨h2, w⟩
  · obtain ⟨h2, w⟩ := set 16
    rw [h2.2.2.2.2, if_neg ne40]
    unfold k_X6_readType_257
    refine l2_eq (h2.need (x := 217) (by decide)).1 (l2_bd _ (HC _ f p h2 _) (fun y hy => l2_ck ix (l2_lt (l2_sm ?_))))
    have w7 : l2_fr (fun b j => b = 318) y.2 (t_setI y.2 318 (nI a).toNatClampNeg y.1) := l2_fr.set rfl
    exact ⟨hy.1.fr w7 (fun j _ _ => by omega), (w.trans hy.2).trans (w7.mono (fun b j y => by unfold ty_Wc; omega))⟩
theorem lc_F.type {c : t_S} {f p : Nat} {rc : RT_X6_readFields} (h : lc_F c f p) (x : Int32) : t_hk (m_X6_readType rc x c) (fun y => lc_F y.2 f p ∧ l2_fr (ty_Wc 0 0 0) c y.2) := by
  have k35 : t_hk (k_X6_readType_35 rc x c) (fun y => lc_F y.2 f p ∧ l2_fr (ty_Wc 0 0 0) c y.2) := by
    unfold k_X6_readType_35
    exact l2_bd _ h.node (fun c' w => l2_no w.1.ne (l2_sm w))
  have k21 : t_hk (k_X6_readType_21 rc x c) (fun y => lc_F y.2 f p ∧ l2_fr (ty_Wc 0 0 0) c y.2) := by
    unfold k_X6_readType_21
    refine l2_if (fun _ => k35) (fun _ => ?_)
    rw [(lc_stay h).2]
    exact k35
  unfold m_X6_readType
  refine l2_if (fun _ => ?_) (fun _ => k21)
  rw [(lc_stay h).2]
  exact k21
theorem pr_type {P : pc_S} {f p : Nat} {r : t_S} {rc : RT_X13_fields} (h : pr P f p r) : m_X13_type rc r = some (0, r) := by
  unfold m_X13_type
  rw [if_neg h.ne]
/-- whether a type begins here -/
theorem pv_in : ∀ i, i < 66 → (10 ≤ i ∧ i ≤ 16 ↔ 10 ≤ pv i ∧ pv i ≤ 16) ∧ (10 ≤ i ∧ i ≤ 16 → pv i = i) := by decide +kernel
theorem f_in {v : Nat} (hv : v < 1000) (s : t_S) : f_X13_in (nI v).toInt64 (10 : Int64) (16 : Int64) s = if 10 ≤ v ∧ v ≤ 16 then 1 else 0 := by
  unfold f_X13_in
  rw [nI_l (by omega)]
  have tv : (lN v).toInt = v := pk_lT (by omega)
  have lo : lg_cmp (lN v) 10 < 0 ↔ v < 10 := by rw [t_cmp_lt, tv, show (10 : Int64).toInt = 10 from rfl]; omega
  have hi : 0 < lg_cmp (lN v) 16 ↔ 16 < v := by rw [t_cmp_gt, tv, show (16 : Int64).toInt = 16 from rfl]; omega
  by_cases c1 : v < 10
  · rw [if_pos (lo.mpr c1), if_neg (by omega)]
  · rw [if_neg (fun y => c1 (lo.mp y))]
    by_cases c2 : 16 < v
    · rw [if_pos (hi.mpr c2), if_neg (by omega)]
    · rw [if_neg (fun y => c2 (hi.mp y)), if_pos (by omega)]
theorem ty_beg {P : pc_S} {u d z q m : Nat} {c r : t_S} (h : pj P u d z q m c r) : (c.1 1 8 = 1 ∧ f_X6_beginsType (c.1 1 8) c = 1 ∧ r.1 950 5 = 1 ∧ r.1 950 10 = -1) ∨ (∃ i, 10 ≤ i ∧ i ≤ 16 ∧ c.1 1 8 = nI (200 + i) ∧ f_X6_beginsType (c.1 1 8) c = 1 ∧ r.1 950 5 = 1 ∧ r.1 950 10 = nI i) ∨ (f_X6_beginsType (c.1 1 8) c = 0 ∧ (r.1 950 5 ≠ 1 ∨ ∃ v, v < 66 ∧ r.1 950 10 = nI v ∧ ¬ (10 ≤ v ∧ v ≤ 16))) := by
  have so := h.sort
  unfold f_X6_beginsType k_X6_beginsType_14 k_X6_beginsType_19
  by_cases c8 : c.1 1 8 = 1
  · obtain ⟨B, L, W, V, sl, H, T, n, A⟩ := h.A
    obtain ⟨_, _, _, _, _, _, _, i8, i9, _⟩ := jt_word A c8
    rw [c8]
    exact Or.inl ⟨rfl, by decide, i8, i9⟩
  · by_cases r5 : r.1 950 5 = 1
    · obtain ⟨i, i1, i2, i3⟩ := so.2.2.2.2.2.2 r5 (fun y => c8 (so.1.mpr ⟨r5, y⟩))
      have pv := pv_in i i1
      have pl := (pv_tab i i1).1
      by_cases z : 10 ≤ i ∧ i ≤ 16
      · refine Or.inr (Or.inl ⟨i, z.1, z.2, i2, ?_, r5, by rw [i3, pv.2 z]⟩)
        rw [i2, if_neg (show ¬ nI (200 + i) < (210 : Int32) from nI_nlt (a := 200 + i) (b := 210) (by omega) (by omega)), if_pos (show nI (200 + i) ≤ (216 : Int32) from nI_le (b := 216) (by omega) (by decide))]
      · refine Or.inr (Or.inr ⟨?_, Or.inr ⟨_, pl, i3, fun y => z (pv.1.mpr y)⟩⟩)
        have n1 : ¬ nI (200 + i) = (1 : Int32) := fun e => by
          have := (nI_eq (b := 1) (by omega) (by decide)).mp e
          omega
        rw [i2, if_neg n1]
        by_cases y : nI (200 + i) < (210 : Int32)
        · rw [if_pos y]
        · have y1 : ¬ 200 + i < 210 := fun x => y (nI_lt (b := 210) x (by decide))
          have y2 : ¬ nI (200 + i) ≤ (216 : Int32) := nI_ge (a := 216) (by omega) (by omega)
          rw [if_neg y, if_neg y2]
    · refine Or.inr (Or.inr ⟨?_, Or.inl r5⟩)
      rw [if_neg c8]
      by_cases y : c.1 1 8 < (210 : Int32)
      · rw [if_pos y]
      · rw [if_neg y]
        by_cases y2 : c.1 1 8 ≤ (216 : Int32)
        · exfalso
          have a1 : ¬ (c.1 1 8).toInt < 210 := fun x => y ((t_lt 210 rfl).mpr x)
          have a2 : (c.1 1 8).toInt ≤ 216 := (t_le 216 rfl).mp y2
          obtain ⟨j, hj, e⟩ := t_nI (x := c.1 1 8) (B := 216) (by decide) ⟨by omega, by omega⟩
          rw [e, nI_toInt (by omega)] at a1
          rcases h.isW (x := j - 200) (by omega) with ⟨_, b⟩ | ⟨b, _⟩
          · unfold f_X13_isWord at b
            rw [if_neg r5] at b
            exact absurd b (by decide)
          · exact b (by rw [e, show 200 + (j - 200) = j by omega])
        · rw [if_neg y2]
