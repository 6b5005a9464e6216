/-! Level 2: one field read on both sides. -/
/-- the class behind a fault, from behind the field's type on -/
theorem lc_F.f7 {s : t_S} {f p n a : Nat} {k last l2 ir : Int32} {rc : RT_X6_readFields} (h : lc_F s f p) (hn : n < 3001) (hl : k ≠ 0 → ∃ i, i < 3001 ∧ last = nI i) : t_hk (if ir = (0 : Int32) then (k_X6_readFields_209 rc (nI n) l2 ir last k (nI a) s) else ((f_X2_take (218 : Int32) s).bind (fun r8 => if r8.1 = (0 : Int32) then (k_X6_readFields_209 rc (nI n) l2 ir last k (nI a) r8.2) else (t_let (t_setI r8.2 321 ((nI a).toNatClampNeg) (1 : Int32)) (fun s3 => k_X6_readFields_209 rc (nI n) l2 ir last k (nI a) s3))))) (fun z => ∃ c', z = .inr c' ∧ lc_F c' f p ∧ l2_fr (ty_Wc 0 0 0) s c') := by
  refine l2_if (fun _ => h.f209 hn hl) (fun _ => l2_eq (h.need (x := 218) (by decide)).2 (l2_ck rfl ?_))
  exact h.f209 hn hl
theorem lc_F.f6 {s : t_S} {f p n a : Nat} {k last l2 ir x : Int32} {rc : RT_X6_readFields} (HC : ∀ c f p, lc_F c f p → ∀ x, t_hk (rc.2 x c) (fun y => lc_F y.2 f p ∧ l2_fr (ty_Wc 0 0 0) c y.2)) (h : lc_F s f p) (hn : n < 3001) (hl : k ≠ 0 → ∃ i, i < 3001 ∧ last = nI i) : t_hk ((rc.2 x s).bind (fun r7 => t_let (t_setI r7.2 318 ((nI a).toNatClampNeg) r7.1) (fun s2 => if ir = (0 : Int32) then (k_X6_readFields_209 rc (nI n) l2 ir last k (nI a) s2) else ((f_X2_take (218 : Int32) s2).bind (fun r8 => if r8.1 = (0 : Int32) then (k_X6_readFields_209 rc (nI n) l2 ir last k (nI a) r8.2) else (t_let (t_setI r8.2 321 ((nI a).toNatClampNeg) (1 : Int32)) (fun s3 => k_X6_readFields_209 rc (nI n) l2 ir last k (nI a) s3))))))) (fun z => ∃ c', z = .inr c' ∧ lc_F c' f p ∧ l2_fr (ty_Wc 0 0 0) s c') := by
  refine l2_bd _ (HC s f p h x) (fun y hy => l2_lt ?_)
  have w : l2_fr (fun b j => b = 318) y.2 (t_setI y.2 318 ((nI a).toNatClampNeg) y.1) := l2_fr.set rfl
  have h2 := hy.1.fr w (fun j _ _ => by omega)
  refine l2_imp (h2.f7 (a := a) (ir := ir) (l2 := l2) (rc := rc) hn hl) (fun z hz => ?_)
  obtain ⟨c', e, q1, q2⟩ := hz
  exact ⟨c', e, q1, (hy.2.trans (w.mono (fun b j y => by unfold ty_Wc; omega))).trans q2⟩
theorem lc_F.f5 {s : t_S} {f p n a : Nat} {k last l2 ir x : Int32} {rc : RT_X6_readFields} (HC : ∀ c f p, lc_F c f p → ∀ x, t_hk (rc.2 x c) (fun y => lc_F y.2 f p ∧ l2_fr (ty_Wc 0 0 0) c y.2)) (h : lc_F s f p) (hn : n < 3001) (hl : k ≠ 0 → ∃ i, i < 3001 ∧ last = nI i) : t_hk ((f_X2_need (58 : Int32) s).bind (fun r6 => (rc.2 x r6).bind (fun r7 => t_let (t_setI r7.2 318 ((nI a).toNatClampNeg) r7.1) (fun s2 => if ir = (0 : Int32) then (k_X6_readFields_209 rc (nI n) l2 ir last k (nI a) s2) else ((f_X2_take (218 : Int32) s2).bind (fun r8 => if r8.1 = (0 : Int32) then (k_X6_readFields_209 rc (nI n) l2 ir last k (nI a) r8.2) else (t_let (t_setI r8.2 321 ((nI a).toNatClampNeg) (1 : Int32)) (fun s3 => k_X6_readFields_209 rc (nI n) l2 ir last k (nI a) s3)))))))) (fun z => ∃ c', z = .inr c' ∧ lc_F c' f p ∧ l2_fr (ty_Wc 0 0 0) s c') := by
  rw [(h.need (x := 58) (by decide)).1]
  exact h.f6 HC hn hl
/-- the reference behind a fault, from the field's type on -/
theorem pr_f5 {P : pc_S} {f p j : Nat} {r : t_S} {rc : RT_X13_fields} (HR : ∀ P f p r, pr P f p r → rc.2 r = some (0, r)) (h : pr P f p r) (hj : j < 13000) (l1 l2 l4 : Int32) : t_hk ((rc.2 r).bind (fun r6 => (f_X13_hang (nI j) r6.1 r6.2).bind (fun r7 => if l2 = (0 : Int32) then (if (f_X13_isWord (18 : Int32) r7) = (0 : Int32) then (k_X13_fields_176 rc l1 l2 l4 r7) else (t_let (t_setJ r7 958 ((nI j).toNatClampNeg) (1 : Int64)) (fun s2 => (f_X13_next s2).bind (fun r9 => k_X13_fields_176 rc l1 l2 l4 r9)))) else (k_X13_fields_176 rc l1 l2 l4 r7)))) (fun z => ∃ x r', z = .inl (l1, l2, x, l4 + 1, r') ∧ pr P f p r' ∧ l2_fr (ty_Wr 0) r r') := by
  exact l2_eq (HR P f p _ h) (l2_eq (pr_hang h _ _) (pr_f7 h hj l1 l2 l4))
theorem pr_f6 {P : pc_S} {f p j : Nat} {r : t_S} {x : Int32} {rc : RT_X13_fields} (h : pr P f p r) (hj : j < 13000) (l1 l2 l4 : Int32) : t_hk ((f_X13_hang (nI j) x r).bind (fun r7 => if l2 = (0 : Int32) then (if (f_X13_isWord (18 : Int32) r7) = (0 : Int32) then (k_X13_fields_176 rc l1 l2 l4 r7) else (t_let (t_setJ r7 958 ((nI j).toNatClampNeg) (1 : Int64)) (fun s2 => (f_X13_next s2).bind (fun r9 => k_X13_fields_176 rc l1 l2 l4 r9)))) else (k_X13_fields_176 rc l1 l2 l4 r7))) (fun z => ∃ x r', z = .inl (l1, l2, x, l4 + 1, r') ∧ pr P f p r' ∧ l2_fr (ty_Wr 0) r r') := by
  exact l2_eq (pr_hang h _ _) (pr_f7 h hj l1 l2 l4)
theorem fi_go {P : pc_S} {n m0 a0 m g l K dd u0 q0 u1 q1 m1 a1 g1 l1 k x : Nat} {ir ch last : Int32} {c0 r0 c r r1 : t_S} {F G X O : Nat → Nat} {rcC : RT_X6_readFields} {rcR : RT_X13_fields} (HT : ∀ P u q m a g l c r, tp P u 0 0 q m a g l (dd + 1) c r → t_h2 (rcC.2 (nI (dd + 1)) c) (rcR.2 r) (ty_R P u q m a g l (dd + 1) c r)) (HC : ∀ c f p, lc_F c f p → ∀ x, t_hk (rcC.2 x c) (fun y => lc_F y.2 f p ∧ l2_fr (ty_Wc 0 0 0) c y.2)) (HR : ∀ P f p r, pr P f p r → rcR.2 r = some (0, r))
    (hk : k < 16) (hn : n < a0) (h3 : n < 3001) (hm0 : m0 < m) (hu : u0 < u1 ∧ q0 ≤ q1) (hir : (ir = 1 ∧ ch = 0 ∧ K = 5) ∨ (ir = 0 ∧ ch = 1 ∧ K = 6))
    (T : tp P u1 0 0 q1 m1 a1 g1 l1 (dd + 1) c r) (KK : fi_K n m0 a0 m g l K (17 - dd) c0 r0 c r a1 m1 g1 l1 k F G X O) (hl : 0 < k → last = nI (F (k - 1))) (fcc : l2_fr (ty_Wc 0 0 0) c0 c) (frr : l2_fr (ty_Wr 0) r0 r)
    (h8 : c.1 1 8 = 1) (hx : x < 7934) (hw : c.2.1 1 10 = lN (66 + x)) (J : pj P u1 1 0 q1 m1 c r1) (fr1 : l2_fr nm_W r r1) (nx : ∀ j, j < k → X j ≠ x) :
    t_h2 (k_X6_readFields_105 rcC (nI n) (nI dd) ir last (nI k) c) (k_X13_fields_105 rcR (nI m0) ch (nI k) (nI x) r1) (h2_nx (b_X6_readFields_32 rcC) (b_X13_fields_45 rcR) (fun x y => ∃ w, w < 17 - k ∧ fi_I P n m0 a0 m g l K dd u0 q0 ir ch c0 r0 w x y) (fi_Q P n m0 a0 m g l K dd u0 q0 c0 r0)) := by
  obtain ⟨_, t2, t3, t4, t5, t6, t7, t8⟩ := T
  have KK0 := KK
  obtain ⟨k1, k2, k3, k4, k5, k6, k7, k8, k9, k10, k11, k12, k13⟩ := KK
  have q3 : q1 ≤ 3000 := by
    obtain ⟨B, L, W0, W, V, sl, H, T, n, t0, mm⟩ := P
    exact J.2.2.2.2.2.2.2.1
  have hl3 : nI k ≠ (0 : Int32) → ∃ i, i < 3001 ∧ last = nI i := fun z => by
    have z : 0 < k := by
      by_cases e : k = 0
      · subst e; exact absurd rfl z
      · omega
    exact ⟨F (k - 1), (k7.2 (k - 1) (by omega)).1, hl z⟩
  have frr1 : l2_fr (ty_Wr 0) r0 r1 := frr.trans (fr1.mono (fun b j y => ty_nm y))
  unfold k_X6_readFields_105 k_X13_fields_105
  refine h2_bb _ (nd_both (nd_k20 (K := 10) (by decide)) J) (fun c1 y hy => ?_)
  rcases hy with ⟨hq, rfl, hm9, x1, x2, x3, x4⟩ | ⟨x1, x2, ⟨f, p, x3, x4⟩, j, x5, x6⟩
  rotate_left
  · obtain ⟨y0, r2⟩ := y
    have x6 : y0 = nI j := x6
    subst x6
    exact fi_bad (fcc.trans x1) (frr1.trans x2) (l2_no x3.ne (l2_mp (l2_sm ⟨c1, rfl, x3, l2_fr.rf⟩))) (pr_f105 HR x4 x5 (nI m0) ch (nI k) (nI x))
  obtain ⟨y0, r2⟩ := y
  have x1 : y0 = nI m1 := x1
  subst x1
  have x2 : l2_fr (nd_V m1) r1 r2 := x2
  have fca : l2_fr (fun b j => b = 845 ∧ j = 10) c (t_setI c 845 10 (nI (q1 + 1))) := l2_fr.set ⟨rfl, rfl⟩
  generalize t_setI c 845 10 (nI (q1 + 1)) = c1 at *
  refine h2_ckL x4.f0.1 (h2_bL _ (ta_add (k := 9) (n := a1) (by rw [(fca 316 8 (by omega)).1]; exact t2) (by omega)) (fun y hy => ?_))
  obtain ⟨y0, c2⟩ := y
  obtain ⟨y1, y2, y3, y4⟩ := hy
  have y1 : y0 = nI a1 := y1
  subst y1
  have y2 : l2_fr (ta_W a1) c1 c2 := y2
  have y3 : c2.1 316 8 = nI (a1 + 1) := y3
  obtain ⟨g17, g18, g19, g20, g21, g22, g23⟩ := y4
  obtain ⟨d1, d2, d3, d4, d5, d6, d7⟩ := x3
  have ca : (nI a1).toNatClampNeg = a1 := nI_clamp (by omega)
  have cm : (nI m1).toNatClampNeg = m1 := nI_clamp (by omega)
  have ww : f_X2_word c2 = nI (66 + x) := by
    unfold f_X2_word
    rw [(y2 1 10 (by unfold ta_W; omega)).2.1, (fca 1 10 (by omega)).2.1, hw]
    exact lN_i _
  refine h2_ckL (l2_ix (by omega) (by decide)) (h2_ckR (l2_ix (by omega) (by decide)) ?_)
  refine h2_lL (h2_lR ?_)
  show t_h2 ((f_X2_advance (t_setI c2 320 (nI a1).toNatClampNeg (f_X2_word c2))).bind _) ((f_X13_hang (nI m0) (nI m1) (t_setJ r2 957 (nI m1).toNatClampNeg (nI x).toInt64)).bind _) _
  have e20 : t_setI c2 320 (nI a1).toNatClampNeg (f_X2_word c2) = t_setI c2 320 a1 (nI (66 + x)) := by rw [ca, ww]
  have e57 : t_setJ r2 957 (nI m1).toNatClampNeg (nI x).toInt64 = t_setJ r2 957 m1 (lN x) := by rw [cm, nI_l (by omega)]
  rw [e20, e57]
  have w3 : l2_fr (fun b j => b = 320 ∧ j = a1) c2 (t_setI c2 320 a1 (nI (66 + x))) := l2_fr.set ⟨rfl, rfl⟩
  have v20 : (t_setI c2 320 a1 (nI (66 + x))).1 320 a1 = nI (66 + x) := by simp only [l2_gI, reduceIte, eq_self]
  have z3 : l2_fr (fun b j => b = 957 ∧ j = m1) r2 (t_setJ r2 957 m1 (lN x)) := l2_fr.setJ ⟨rfl, rfl⟩
  have v57 : (t_setJ r2 957 m1 (lN x)).2.1 957 m1 = lN x := by simp only [l2_gJ, reduceIte, eq_self]
  generalize t_setI c2 320 a1 (nI (66 + x)) = c3 at *
  generalize t_setJ r2 957 m1 (lN x) = r3 at *
  have fc3 : l2_fr (fun b j => (b = 845 ∧ j = 10) ∨ ta_W a1 b j) c c3 := ((fca.mono (fun b j y => Or.inl y)).trans (y2.mono (fun b j y => Or.inr y))).trans (w3.mono (fun b j y => Or.inr (by unfold ta_W; omega)))
  have fr3 : l2_fr (fun b j => nm_W b j ∨ nd_V m1 b j) r r3 := ((fr1.mono (fun b j y => Or.inl y)).trans (x2.mono (fun b j y => Or.inr y))).trans (z3.mono (fun b j y => Or.inr (by unfold nd_V; omega)))
  have J3 : pj P u1 1 1 (q1 + 1) (m1 + 1) c3 r3 := x4.fr ((y2.mono (fun b j y => (Or.inr y : (b = 845 ∧ j = 11) ∨ ta_W a1 b j))).trans (w3.mono (fun b j y => Or.inr (by unfold ta_W; omega)))) z3 (fun j => by unfold ta_W; omega) (fun b i _ _ => by unfold ta_W; omega) (fun b i _ _ => by unfold ta_W; omega) (by unfold ta_W; omega) (fun j _ => by omega) (fun b i _ _ => by omega)
  have eR : ∀ b j, 955 ≤ b → b ≤ 962 → j ≠ m1 → r3.1 b j = r.1 b j := fun b j x y z => (fr3 b j (by unfold nm_W nd_V; omega)).1
  have ct : ch_R r3 m0 k G := by
    refine ⟨by rw [eR 959 m0 (by decide) (by decide) (by omega)]; exact k8.1, fun j hj => ?_⟩
    obtain ⟨y1, y2, y3, y4⟩ := k8.2 j hj
    have := k11 j hj
    exact ⟨y1, y2, by rw [eR 960 (G j) (by decide) (by decide) (by omega)]; exact y3, y4⟩
  refine h2_bR _ (ch_hang ct (by omega) (by omega) (by omega) J3.f0.2 (by rw [(z3 960 m1 (by omega)).1]; exact d6) (fun j hj => by have := k11 j hj; omega)) (fun r4 hz => ?_)
  obtain ⟨z1, z2⟩ := hz
  have z2' : l2_fr (fun b j => b = 959 ∨ b = 960) r3 r4 := z2.mono (fun b j y => by omega)
  have J4 : pj P u1 1 1 (q1 + 1) (m1 + 1) c3 r4 := J3.fr (l2_fr.rf (W := fun _ _ => False)) z2' (fun j y => y) (fun b i _ _ y => y) (fun b i _ _ y => y) (fun y => y) (fun j _ => by omega) (fun b i _ _ => by omega)
  have w8 : c3.1 1 8 = 1 := by rw [(fc3 1 8 (by unfold ta_W; omega)).1]; exact h8
  have cw := J4.cword w8
  -- frames so far
  have fC : l2_fr (ty_Wc a1 g1 l1) c c3 := fc3.mono (fun b j y => by unfold ta_W at y; unfold ty_Wc; omega)
  have fR : l2_fr (fun b j => ty_Wr m1 b j ∨ (b = 959 ∧ j = m0 ∧ k = 0) ∨ (b = 960 ∧ 0 < k ∧ j = G (k - 1))) r r4 := (fr3.mono (fun b j y => Or.inl (y.elim (fun y => ty_nm y) (fun y => ty_nd y (Nat.le_refl _))))).trans (z2.mono (fun b j y => Or.inr y))
  have cc0 : ∀ {s}, l2_fr (ty_Wc a1 g1 l1) c s → l2_fr (ty_Wc 0 0 0) c0 s := fun w => fcc.trans (w.mono (fun b j y => y.sub (Nat.zero_le _) (Nat.zero_le _) (Nat.zero_le _)))
  have rr0 : ∀ {t}, l2_fr (fun b j => ty_Wr m1 b j ∨ (b = 959 ∧ j = m0 ∧ k = 0) ∨ (b = 960 ∧ 0 < k ∧ j = G (k - 1))) r t → l2_fr (ty_Wr 0) r0 t := fun w => frr.trans (w.mono (fun b j y => by
    rcases y with y | ⟨y1, y2, y3⟩ | ⟨y1, y2, y3⟩
    · exact y.sub (Nat.zero_le _)
    · exact Or.inr (Or.inr ⟨by omega, by omega, by omega⟩)
    · exact Or.inr (Or.inr ⟨by omega, by omega, by omega⟩)))
  rw [nI_1 dd]
  refine h2_bb _ (pj_adv J4 (by decide) (Or.inl rfl) (by rw [w8]; decide)) (fun c4 r5 hw2 => ?_)
  obtain ⟨p1, p2, p3⟩ := hw2
  have fC4 : l2_fr (ty_Wc a1 g1 l1) c c4 := fC.trans (p1.mono (fun b j y => ty_la y))
  have fR5 := fR.trans (p2.mono (fun b j y => (Or.inl (ty_rn y) : ty_Wr m1 b j ∨ (b = 959 ∧ j = m0 ∧ k = 0) ∨ (b = 960 ∧ 0 < k ∧ j = G (k - 1)))))
  rcases p3 with p3 | ⟨f, p, p3, p4⟩
  rotate_left
  · exact fi_bad (cc0 fC4) (rr0 fR5) (p3.f5 (a := a1) HC h3 hl3) (pr_f4 HR p4 (by omega) (nI m0) ch (nI k))
  refine h2_bb _ (pj_need p3 (by decide) (x := 58) (by decide) (s := 58) rfl) (fun c5 r6 hw3 => ?_)
  obtain ⟨s1, s2, s3⟩ := hw3
  have fC5 := fC4.trans (s1.mono (fun b j y => ty_la y))
  have fR6 := fR5.trans (s2.mono (fun b j y => (Or.inl (ty_rn y) : ty_Wr m1 b j ∨ (b = 959 ∧ j = m0 ∧ k = 0) ∨ (b = 960 ∧ 0 < k ∧ j = G (k - 1)))))
  rcases s3 with s3 | ⟨f, p, s3, s4⟩
  rotate_left
  · exact fi_bad (cc0 fC5) (rr0 fR6) (s3.f6 (a := a1) HC h3 hl3) (pr_f5 HR s4 (by omega) (nI m0) ch (nI k))
  have aC : ∀ b j, 2 ≤ b → c5.1 b j = c3.1 b j ∧ c5.2.1 b j = c3.2.1 b j := fun b j h => ⟨((s1 b j (by unfold la_W; omega)).1).trans (p1 b j (by unfold la_W; omega)).1, ((s1 b j (by unfold la_W; omega)).2.1).trans (p1 b j (by unfold la_W; omega)).2.1⟩
  have aR : ∀ b j, 951 ≤ b → r6.1 b j = r4.1 b j ∧ r6.2.1 b j = r4.2.1 b j := fun b j h => ⟨((s2 b j (by unfold rn_W; omega)).1).trans (p2 b j (by unfold rn_W; omega)).1, ((s2 b j (by unfold rn_W; omega)).2.1).trans (p2 b j (by unfold rn_W; omega)).2.1⟩
  have cm1 := pc_c_le P u1
  have cm2 := pc_c_le P (u1 + 1)
  have T6 : tp P (u1 + 1 + 1) 0 0 (q1 + 1) (m1 + 1) (a1 + 1) g1 l1 (dd + 1) c5 r6 := by
    refine ⟨s3, ?_, by omega, ?_, by omega, ?_, by omega, ?_⟩
    · rw [(aC 316 8 (by decide)).1, (w3 316 8 (by omega)).1]; exact y3
    · rw [(aC 316 10 (by decide)).1, (fc3 316 10 (by unfold ta_W; omega)).1]; exact t4
    · rw [(aC 846 6 (by decide)).1, (fc3 846 6 (by unfold ta_W; omega)).1]; exact t6
    · rw [(s2 950 31 (by unfold rn_W; omega)).1, (p2 950 31 (by unfold rn_W; omega)).1, (z2' 950 31 (by omega)).1, (fr3 950 31 (by unfold nm_W nd_V; omega)).1]; exact t8
  -- the field's own cells, ahead of its type
  have h17 : c5.1 317 a1 = 9 := by rw [(aC 317 a1 (by decide)).1, (w3 317 a1 (by omega)).1]; exact g17
  have h19 : c5.1 319 a1 = -1 := by rw [(aC 319 a1 (by decide)).1, (w3 319 a1 (by omega)).1]; exact g19
  have h20 : c5.1 320 a1 = nI (66 + x) := by rw [(aC 320 a1 (by decide)).1]; exact v20
  have h21 : c5.1 321 a1 = 0 := by rw [(aC 321 a1 (by decide)).1, (w3 321 a1 (by omega)).1]; exact g21
  have i55 : r6.1 955 m1 = 10 := by rw [(aR 955 m1 (by decide)).1, (z2' 955 m1 (by omega)).1, (z3 955 m1 (by omega)).1]; exact d1
  have i57 : r6.2.1 957 m1 = lN x := by rw [(aR 957 m1 (by decide)).2, (z2' 957 m1 (by omega)).2.1]; exact v57
  have i58 : r6.2.1 958 m1 = 0 := by rw [(aR 958 m1 (by decide)).2, (z2' 958 m1 (by omega)).2.1, (z3 958 m1 (by omega)).2.1]; exact d4
  have Gl : ∀ j, j < k → G j < m1 := fun j hj => (k11 j hj).2.2.2.1
  have i59 : r6.1 959 m1 = -1 := by
    rw [(aR 959 m1 (by decide)).1, (z2 959 m1 (by omega)).1, (z3 959 m1 (by omega)).1]; exact d5
  have ct6 : ch_R r6 m0 (k + 1) (va_up G k m1) := by
    refine ⟨by rw [(aR 959 m0 (by decide)).1]; exact z1.1, fun j hj => ?_⟩
    rw [(aR 960 _ (by decide)).1]; exact z1.2 j hj
  have D6 : ty_D c c5 r6 l1 l1 m1 (m1 + 1) := ty_D.one (K := 10) (by decide) (by decide) (by decide) i55 (fun x => by rw [(aC 7 x (by decide)).1, (fc3 7 x (by unfold ta_W; omega)).1])
  -- the field's type
  refine h2_bb _ (HT P (u1 + 1 + 1) (q1 + 1) (m1 + 1) (a1 + 1) g1 l1 c5 r6 T6) (fun X6 Y6 hXY => ?_)
  obtain ⟨xv, c6⟩ := X6
  obtain ⟨yv, r7⟩ := Y6
  obtain ⟨b1, b2, b3⟩ := hXY
  have b1 : l2_fr (ty_Wc 0 0 0) c5 c6 := b1
  have b2 : l2_fr (ty_Wr 0) r6 r7 := b2
  refine h2_lL ?_
  have w6 : l2_fr (fun b j => b = 318 ∧ j = a1) c6 (t_setI c6 318 (nI a1).toNatClampNeg xv) := by rw [ca]; exact l2_fr.set ⟨rfl, rfl⟩
  have v18 : (t_setI c6 318 (nI a1).toNatClampNeg xv).1 318 a1 = xv := by rw [ca]; simp only [l2_gI, reduceIte, eq_self]
  show t_h2 (if ir = (0 : Int32) then (k_X6_readFields_209 rcC (nI n) (nI dd) ir last (nI k) (nI a1) (t_setI c6 318 (nI a1).toNatClampNeg xv)) else _) _ _
  generalize t_setI c6 318 (nI a1).toNatClampNeg xv = c7 at *
  rcases b3 with ⟨rfl, rfl, u2, q2, m2, a2, g2, l2, o1, o2, o3, o4, o5, o7, o8, o9, o10, o11, o12, o13⟩ | ⟨f, p, b3, b4⟩
  rotate_left
  · have b3 : lc_F c6 f p := b3
    have b4 : pr P f p r7 := b4
    have h7 := b3.fr w6 (fun j _ _ => by omega)
    refine fi_bad ((cc0 fC5).trans (b1.trans (w6.mono (fun b j y => by unfold ty_Wc; omega)))) ((rr0 fR6).trans b2) (h7.f7 (a := a1) h3 hl3) (pr_f6 b4 (by omega) (nI m0) ch (nI k))
  have o7 : tp P u2 0 0 q2 m2 a2 g2 l2 (dd + 1) c6 r7 := o7
  have o8 : l2_fr (ty_Wc (a1 + 1) g1 l1) c5 c6 := o8
  have o9 : l2_fr (ty_Wr (m1 + 1)) r6 r7 := o9
  have e18 : (18 : Nat) - (dd + 1) = 17 - dd := by omega
  have o10 : TY (ty_NM c6 r7 l2) c6 r7 (17 - dd) (a1 + 1) a2 (m1 + 1) m2 g2 (a1 + 1) (m1 + 1) := by rw [← e18]; exact o10
  have o11 : r7.1 960 (m1 + 1) = -1 := o11
  have o12 : ty_D c5 c6 r7 l1 l2 (m1 + 1) m2 := o12
  have o13 : ty_s r7 (m1 + 1) m2 := o13
  have q4 : q2 ≤ 3000 ∧ m2 ≤ 12999 := by
    obtain ⟨B, L, W0, W, V, sl, H, T, n, t0, mm⟩ := P
    have := o7.1.2.2.2.2.2.2.2.2.2.1
    have := o7.1.2.2.2.2.2.2.2.2.2.2
    have := o7.1.1.2.1.2.2.2.1
    exact ⟨o7.1.2.2.2.2.2.2.2.1, by omega⟩
  have p7 : r7.1 959 m1 = -1 := by rw [(o9 959 m1 (by unfold ty_Wr; omega)).1]; exact i59
  -- the type hung at the field
  refine h2_bR _ (ch_hang (v := 0) (G := fun _ => 0) (m0 := m1) (x := m1 + 1) ⟨by rw [if_neg (by decide)]; exact p7, fun j hj => by omega⟩ (by omega) (by decide) (by omega) o7.1.f0.2 o11 (fun j hj => by omega)) (fun r8 hz8 => ?_)
  obtain ⟨⟨e59, e60⟩, z8⟩ := hz8
  have z8 : l2_fr (fun b j => b = 959 ∧ j = m1) r7 r8 := z8.mono (fun b j y => by omega)
  rw [if_pos (by decide), mj_up_eq] at e59
  have e60 : r8.1 960 (m1 + 1) = -1 := by rw [(z8 960 (m1 + 1) (by omega)).1]; exact o11
  have o7' := o7
  obtain ⟨oJ, ot2, ot3, ot4, ot5, ot6, ot7, ot8⟩ := o7
  have J8 : pj P u2 0 0 q2 m2 c7 r8 := oJ.fr w6 z8 (fun j => by omega) (fun b i _ _ => by omega) (fun b i _ _ => by omega) (by omega) (fun j _ => by omega) (fun b i _ _ => by omega)
  have T8 : tp P u2 0 0 q2 m2 a2 g2 l2 (dd + 1) c7 r8 := by
    refine ⟨J8, ?_, ot3, ?_, ot5, ?_, ot7, ?_⟩
    · rw [(w6 316 8 (by omega)).1]; exact ot2
    · rw [(w6 316 10 (by omega)).1]; exact ot4
    · rw [(w6 846 6 (by omega)).1]; exact ot6
    · rw [(z8 950 31 (by omega)).1]; exact ot8
  have fC7 : l2_fr (ty_Wc a1 g1 l1) c c7 := (fC5.trans (o8.mono (fun b j y => y.sub (by omega) (Nat.le_refl _) (Nat.le_refl _)))).trans (w6.mono (fun b j y => by unfold ty_Wc; omega))
  have fR8 := (fR6.trans (o9.mono (fun b j y => (Or.inl (y.sub (by omega)) : ty_Wr m1 b j ∨ (b = 959 ∧ j = m0 ∧ k = 0) ∨ (b = 960 ∧ 0 < k ∧ j = G (k - 1)))))).trans (z8.mono (fun b j y => Or.inl (Or.inr (Or.inr ⟨by omega, by omega, by omega⟩))))
  -- cells of the field behind its type
  have aC7 : ∀ b, 317 ≤ b → b ≤ 323 → b ≠ 318 → c7.1 b a1 = c5.1 b a1 := fun b x1 x2 x3 => by rw [(w6 b a1 (by omega)).1, (o8 b a1 (by unfold ty_Wc; omega)).1]
  have aR8 : ∀ b, 955 ≤ b → b ≤ 962 → b ≠ 959 → r8.1 b m1 = r6.1 b m1 ∧ r8.2.1 b m1 = r6.2.1 b m1 := fun b x1 x2 x3 => by rw [(z8 b m1 (by omega)).1, (z8 b m1 (by omega)).2.1, (o9 b m1 (by unfold ty_Wr; omega)).1, (o9 b m1 (by unfold ty_Wr; omega)).2.1]; exact ⟨rfl, rfl⟩
  have ct8 : ch_R r8 m0 (k + 1) (va_up G k m1) := by
    have up : ∀ j, j < k + 1 → va_up G k m1 j < m1 + 1 := fun j hj => by
      by_cases e : j = k
      · rw [e, mj_up_eq]; omega
      · rw [mj_up_ne _ _ e]
        have := Gl j (by omega)
        omega
    refine ⟨by rw [(z8 959 m0 (by omega)).1, (o9 959 m0 (by unfold ty_Wr; omega)).1]; exact ct6.1, fun j hj => ?_⟩
    have := up j hj
    rw [(z8 960 _ (by omega)).1, (o9 960 _ (by unfold ty_Wr; omega)).1]
    exact ct6.2 j hj
  have TY8 : TY (ty_NM c7 r8 l2) c7 r8 (17 - dd) (a1 + 1) a2 (m1 + 1) m2 g2 (a1 + 1) (m1 + 1) := TY.fr _ _ _ _ _ _ _ _ o10 (ag_C.of w6 (fun i j _ _ _ _ => by omega) (fun j _ => by omega)) (ag_R.of z8 (fun i j _ _ _ _ => by omega)) (fun a b _ _ _ _ ⟨e, e1, e2, e3⟩ => ⟨e, e1, e2.fr (fun b u v => (w6 b e (by omega)).1) (z8 956 b (by omega)).1 (z8 957 b (by omega)).2.1, by rw [(w6 852 e (by omega)).1]; exact e3⟩) _ _ _ _ (Nat.le_refl _) (Nat.le_refl _) (Nat.le_refl _) (Nat.le_refl _)
  have D8 : ty_D c c7 r8 l1 l2 m1 m2 := by
    have D7 : ty_D c5 c7 r8 l1 l2 (m1 + 1) m2 := o12.fr (fun b j y => (w6 b j (by omega)).1) (fun i x y => ⟨(z8 955 i (by omega)).1, (z8 956 i (by omega)).1, fun _ => (z8 957 i (by omega)).2.1⟩)
    refine D6.trans D7 ⟨Nat.le_refl _, o5⟩ ⟨by omega, by omega⟩ (fun b e x y z => ?_) (fun i x y => ?_)
    · rw [(w6 b e (by omega)).1, (o8 b e (by unfold ty_Wc; omega)).1]
    · have e : i = m1 := by omega
      subst e
      exact ⟨(aR8 955 (by decide) (by decide) (by decide)).1, (aR8 956 (by decide) (by decide) (by decide)).1, fun _ => (aR8 957 (by decide) (by decide) (by decide)).2⟩
  have Sh8 : ty_s r8 (m1 + 1) m2 := o13.fr (fun i i1 _ => ⟨(z8 955 i (by omega)).1, (z8 959 i (by omega)).1, (z8 960 i (by omega)).1, (z8 957 i (by omega)).2.1⟩)
  have ff : ty_f c7 r8 a1 m1 x 0 := by
    refine ⟨?_, ?_, hx, ?_, ?_, by decide, ?_, ?_⟩
    · rw [aC7 317 (by decide) (by decide) (by decide)]; exact h17
    · rw [(aR8 955 (by decide) (by decide) (by decide)).1]; exact i55
    · rw [aC7 320 (by decide) (by decide) (by decide)]; exact h20
    · rw [(aR8 957 (by decide) (by decide) (by decide)).2]; exact i57
    · rw [aC7 321 (by decide) (by decide) (by decide)]; exact h21
    · rw [(aR8 958 (by decide) (by decide) (by decide)).2]; exact i58
  have c19 : c7.1 319 a1 = -1 := by rw [aC7 319 (by decide) (by decide) (by decide)]; exact h19
  have plain : t_h2 (k_X6_readFields_209 rcC (nI n) (nI dd) ir last (nI k) (nI a1) c7) (k_X13_fields_176 rcR (nI m0) ch (nI k) r8) (h2_nx (b_X6_readFields_32 rcC) (b_X13_fields_45 rcR) (fun x y => ∃ w, w < 17 - k ∧ fi_I P n m0 a0 m g l K dd u0 q0 ir ch c0 r0 w x y) (fi_Q P n m0 a0 m g l K dd u0 q0 c0 r0)) := fi_join hk hn hm0 ⟨hu.1, by omega⟩ (by omega) KK0 hl fcc frr T8 (by omega) (by omega) o4 o5 fC7 fR8 ct8 c19 ff (fun _ => rfl) nx v18 e59 e60 TY8 D8 Sh8
  rcases hir with ⟨rfl, rfl, rfl⟩ | ⟨rfl, rfl, rfl⟩
  rotate_left
  · exact h2_ckL rfl (h2_noR (by decide) plain)
  refine h2_noL (by decide) (h2_ckR rfl ?_)
  rcases J8.isW (x := 18) (by decide) with ⟨a, b⟩ | ⟨a, b⟩
  rotate_left
  · rw [show (18 : Int32) = nI (pv 18) from rfl, b]
    refine h2_ckR rfl (h2_eL (pj_nottook a) (h2_ckL rfl ?_))
    exact plain
  rw [show (18 : Int32) = nI (pv 18) from rfl, b]
  refine h2_noR (by decide) (h2_lR ?_)
  rw [cm]
  have z9 : l2_fr (fun b j => b = 958 ∧ j = m1) r8 (t_setJ r8 958 m1 1) := l2_fr.setJ ⟨rfl, rfl⟩
  have v58 : (t_setJ r8 958 m1 1).2.1 958 m1 = 1 := by simp only [l2_gJ, reduceIte, eq_self]
  generalize t_setJ r8 958 m1 1 = r9 at *
  have J9 : pj P u2 0 0 q2 m2 c7 r9 := J8.fr (l2_fr.rf (W := fun _ _ => False)) z9 (fun j y => y) (fun b i _ _ y => y) (fun b i _ _ y => y) (fun y => y) (fun j _ => by omega) (fun b i _ _ => by omega)
  refine h2_bb _ (pj_took J9 (by decide) (x := 200 + 18) (by decide) a) (fun y r10 hy => ?_)
  obtain ⟨y0, c8⟩ := y
  obtain ⟨s5, s6, s7, s8⟩ := hy
  have s5 : y0 = 1 := s5
  subst s5
  have s6 : l2_fr la_W c7 c8 := s6
  have s8 : pj P (u2 + 1) 0 0 q2 m2 c8 r10 ∨ pf P c8 r10 := s8
  refine h2_noL (show ¬ (1 : Int32) = 0 by decide) (h2_lL ?_)
  show t_h2 (k_X6_readFields_209 rcC (nI n) (nI dd) 1 last (nI k) (nI a1) (t_setI c8 321 (nI a1).toNatClampNeg 1)) (k_X13_fields_176 rcR (nI m0) 0 (nI k) r10) _
  rw [ca]
  have w9 : l2_fr (fun b j => b = 321 ∧ j = a1) c8 (t_setI c8 321 a1 1) := l2_fr.set ⟨rfl, rfl⟩
  have v21 : (t_setI c8 321 a1 1).1 321 a1 = 1 := by simp only [l2_gI, reduceIte, eq_self]
  generalize t_setI c8 321 a1 1 = c9 at *
  have fC9 : l2_fr (ty_Wc a1 g1 l1) c c9 := (fC7.trans (s6.mono (fun b j y => ty_la y))).trans (w9.mono (fun b j y => by unfold ty_Wc; omega))
  have fR10 := (fR8.trans (z9.mono (fun b j y => (Or.inl (Or.inr (Or.inr ⟨by omega, by omega, by omega⟩)) : ty_Wr m1 b j ∨ (b = 959 ∧ j = m0 ∧ k = 0) ∨ (b = 960 ∧ 0 < k ∧ j = G (k - 1)))))).trans (s7.mono (fun b j y => Or.inl (ty_rn y)))
  rcases s8 with s8 | ⟨f, p, s8, s9⟩
  rotate_left
  · have h9 := s8.fr w9 (fun j _ _ => by omega)
    exact fi_bad (cc0 fC9) (rr0 fR10) (h9.f209 h3 hl3) (pr_176 s9 (nI m0) 0 (nI k))
  have aC9 : ∀ b j, 2 ≤ b → (b = 321 → j ≠ a1) → c9.1 b j = c7.1 b j ∧ c9.2.1 b j = c7.2.1 b j := fun b j h h' => by
    have q1 := w9 b j (fun y => h' y.1 y.2)
    have q2 := s6 b j (by unfold la_W; omega)
    exact ⟨q1.1.trans q2.1, q1.2.1.trans q2.2.1⟩
  have aR10 : ∀ b j, 951 ≤ b → (b = 958 → j ≠ m1) → r10.1 b j = r8.1 b j ∧ r10.2.1 b j = r8.2.1 b j := fun b j h h' => by
    have q1 := s7 b j (by unfold rn_W; omega)
    have q2 := z9 b j (fun y => h' y.1 y.2)
    exact ⟨q1.1.trans q2.1, q1.2.1.trans q2.2.1⟩
  have J10 : pj P (u2 + 1) 0 0 q2 m2 c9 r10 := s8.fr w9 (l2_fr.rf (W := fun _ _ => False)) (fun j => by omega) (fun b i _ _ => by omega) (fun b i _ _ => by omega) (by omega) (fun j _ y => y) (fun b i _ _ y => y)
  have cm3 := pc_c_le P u2
  have T10 : tp P (u2 + 1) 0 0 q2 m2 a2 g2 l2 (dd + 1) c9 r10 := by
    obtain ⟨_, t2, t3, t4, t5, t6, t7, t8⟩ := T8
    refine ⟨J10, ?_, t3, ?_, by omega, ?_, by omega, ?_⟩
    · rw [(aC9 316 8 (by decide) (by omega)).1]; exact t2
    · rw [(aC9 316 10 (by decide) (by omega)).1]; exact t4
    · rw [(aC9 846 6 (by decide) (by omega)).1]; exact t6
    · rw [(s7 950 31 (by unfold rn_W; omega)).1, (z9 950 31 (by omega)).1]; exact t8
  have ct10 : ch_R r10 m0 (k + 1) (va_up G k m1) := by
    refine ⟨by rw [(aR10 959 m0 (by decide) (by omega)).1]; exact ct8.1, fun j hj => ?_⟩
    rw [(aR10 960 _ (by decide) (by omega)).1]; exact ct8.2 j hj
  refine fi_join (o := 1) hk hn hm0 ⟨hu.1, by omega⟩ (by omega) KK0 hl fcc frr T10 (by omega) (by omega) o4 o5 fC9 fR10 ct10 ?_ ?_ (fun e => absurd e (by decide)) nx (n' := a1 + 1) (m' := m1 + 1) ?_ ?_ ?_ ?_ ?_ ?_
  · rw [(aC9 319 a1 (by decide) (by omega)).1]; exact c19
  · obtain ⟨f1, f2, f3, f4, f5, f6, f7, f8⟩ := ff
    refine ⟨?_, ?_, f3, ?_, ?_, by decide, v21, ?_⟩
    · rw [(aC9 317 a1 (by decide) (by omega)).1]; exact f1
    · rw [(aR10 955 m1 (by decide) (by omega)).1]; exact f2
    · rw [(aC9 320 a1 (by decide) (by omega)).1]; exact f4
    · rw [(aR10 957 m1 (by decide) (by omega)).2]; exact f5
    · rw [(s7 958 m1 (by unfold rn_W; omega)).2.1]; exact v58
  · rw [(aC9 318 a1 (by decide) (by omega)).1]; exact v18
  · rw [(aR10 959 m1 (by decide) (by omega)).1]; exact e59
  · rw [(aR10 960 (m1 + 1) (by decide) (by omega)).1]; exact e60
  · exact TY.fr _ _ _ _ _ _ _ _ TY8 ⟨fun i j x1 x2 x3 x4 => aC9 i j (by omega) (by omega), fun j _ => (aC9 325 j (by decide) (by omega)).1⟩ (fun i j x1 x2 x3 x4 => aR10 i j (by omega) (by omega)) (fun a b _ _ _ _ ⟨e, e1, e2, e3⟩ => ⟨e, e1, e2.fr (fun b u v => (aC9 b e (by omega) (by omega)).1) (aR10 956 b (by decide) (by omega)).1 (aR10 957 b (by decide) (by omega)).2, by rw [(aC9 852 e (by decide) (by omega)).1]; exact e3⟩) _ _ _ _ (Nat.le_refl _) (Nat.le_refl _) (Nat.le_refl _) (Nat.le_refl _)
  · exact D8.fr (fun b j y => (aC9 b j (by omega) (by omega)).1) (fun i _ _ => ⟨(aR10 955 i (by decide) (by omega)).1, (aR10 956 i (by decide) (by omega)).1, fun _ => (aR10 957 i (by decide) (by omega)).2⟩)
  · exact Sh8.fr (fun i i1 _ => ⟨(aR10 955 i (by decide) (by omega)).1, (aR10 959 i (by decide) (by omega)).1, (aR10 960 i (by decide) (by omega)).1, (aR10 957 i (by decide) (by omega)).2⟩)
