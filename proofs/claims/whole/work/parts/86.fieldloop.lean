/-! Level 2: the fields of a record or choice: one turn, all turns. -/
theorem fi_turns {P : pc_S} {n m0 a0 m g l K dd u0 q0 : Nat} {ir ch : Int32} {c0 r0 : t_S} {rcC : RT_X6_readFields} {rcR : RT_X13_fields} (HT : ∀ P u q m a g l c r, tp P u 0 0 q m a g l (dd + 1) c r → t_h2 (rcC.2 (nI (dd + 1)) c) (rcR.2 r) (ty_R P u q m a g l (dd + 1) c r)) (HC : ∀ c f p, lc_F c f p → ∀ x, t_hk (rcC.2 x c) (fun y => lc_F y.2 f p ∧ l2_fr (ty_Wc 0 0 0) c y.2)) (HR : ∀ P f p r, pr P f p r → rcR.2 r = some (0, r)) (hn : n < a0) (h3 : n < 3001) (hm0 : m0 < m) (hm : m0 < 13000) (hir : (ir = 1 ∧ ch = 0 ∧ K = 5) ∨ (ir = 0 ∧ ch = 1 ∧ K = 6)) : ∀ (w : Nat) (x : Int32 × Int32 × Int32 × Int32 × Int32 × t_S) (y : Int32 × Int32 × Int32 × Int32 × t_S), fi_I P n m0 a0 m g l K dd u0 q0 ir ch c0 r0 w x y → t_h2 (b_X6_readFields_32 rcC x) (b_X13_fields_45 rcR y) (h2_nx (b_X6_readFields_32 rcC) (b_X13_fields_45 rcR) (fun x y => ∃ j, j < w ∧ fi_I P n m0 a0 m g l K dd u0 q0 ir ch c0 r0 j x y) (fi_Q P n m0 a0 m g l K dd u0 q0 c0 r0)) := by
  rintro w x y ⟨k, last, c, r, h1, h2, rfl, rfl, h6, h7, h8⟩
  have hw : w = 17 - k := by omega
  subst hw
  have n16 : ¬ (16 : Int32) < nI k := nI_nlt (a := 16) h2 (by decide)
  rcases h8 with ⟨u1, q1, m1, a1, g1, l1, F, G, X, O, e1, e2, e3, e4⟩ | ⟨f, p, e1, e2⟩
  rotate_left
  · refine h2_sep _ _ (show t_hk (b_X6_readFields_32 rcC (nI n, nI dd, ir, last, nI k, c)) _ from e1.f32 n16) (l2_of (pr_fiend e2 (nI m0) ch 1 (nI k)) (Q := fun z => z = .inr (t_setI r 950 5 0)) rfl) (fun x y hx hy => ?_)
    obtain ⟨c', rfl, q1, q2⟩ := hx
    subst hy
    exact ⟨h6.trans q2, h7.trans ty_d5, Or.inr ⟨f, p, q1, e2.dead⟩⟩
  have J := e2.1
  have f0 := J.f0
  show t_h2 (k_X6_readFields_32 rcC (nI n) (nI dd) ir last (nI k) c) (k_X13_fields_45 rcR (nI m0) ch 1 (nI k) r) _
  unfold k_X6_readFields_32 k_X13_fields_45
  refine h2_noL n16 (h2_noR (by decide) (h2_ckR f0.2 ?_))
  by_cases c8 : c.1 1 8 = 1
  · refine h2_ckL c8 (h2_bR _ (pj_name J c8) (fun y hy => ?_))
    obtain ⟨y0, r1⟩ := y
    obtain ⟨x, x1, x2, x3, x4, x5⟩ := hy
    have x3 : y0 = nI x := x3
    subst x3
    have x4 : l2_fr nm_W r r1 := x4
    have x5 : pj P u1 1 0 q1 m1 c r1 := x5
    have ww : f_X2_word c = nI (66 + x) := by
      unfold f_X2_word
      rw [x2]
      exact lN_i _
    have E3 := e3
    obtain ⟨k1, k2, k3, k4, k5, k6, k7, k8, k9, k10, k11, k12, k13⟩ := e3
    have fr1 : l2_fr (ty_Wr 0) r0 r1 := h7.trans (x4.mono (fun b j y => ty_nm y))
    refine h2_ckR x5.f0.2 ?_
    rw [ww]
    have eX : ∀ b j, 955 ≤ b → r1.1 b j = r.1 b j ∧ r1.2.1 b j = r.2.1 b j := fun b j h => ⟨(x4 b j (by unfold nm_W; omega)).1, (x4 b j (by unfold nm_W; omega)).2.1⟩
    have ch1 : ch_R r1 m0 k G := by
      refine ⟨by rw [(eX 959 m0 (by decide)).1]; exact k8.1, fun j hj => ?_⟩
      rw [(eX 960 _ (by decide)).1]; exact k8.2 j hj
    refine h2_bL _ (cc_fld (X := X) h3 k7 k9 (by omega) (fun j hj => ⟨by have := (k11 j hj).2.2.2.2.1.2.2.1; omega, (k11 j hj).2.2.2.2.1.2.2.2.1⟩) (x := x) (by omega)) (fun z hz => ?_)
    refine h2_bR _ (ch_has (X := X) ch1 hm (by omega) (x := x) (by omega) (fun j hj => ⟨by have := (k11 j hj).2.2.2.2.1.2.2.1; omega, by rw [(eX 957 _ (by decide)).2]; exact (k11 j hj).2.2.2.2.1.2.2.2.2.1⟩)) (fun z' hz' => ?_)
    rcases hz with ⟨j, j1, j2, rfl⟩ | ⟨rfl, nx⟩
    · rcases hz' with ⟨rfl, _⟩ | ⟨rfl, no⟩
      · have gj := (k7.2 j j1).1
        refine h2_noL (nI_pos (by omega)) (h2_noR (by decide) ?_)
        refine h2_bb _ (pj_fail (f := 3) x5 (by decide) (by decide)) (fun c' r' w => ?_)
        obtain ⟨w1, w2, f, p, w3, w4⟩ := w
        exact fi_bad (l1 := nI m0) (l2 := ch) (l3 := nI k + 1) (h6.trans (w1.mono (fun b j y => ty_la y))) (fr1.trans (w2.mono (fun b j y => ty_rn y))) (w3.f105 _ _ _ _ _) (pr_fi89 HR w4 _ _ _ _)
      · exact absurd j2 (no j j1)
    · rcases hz' with ⟨rfl, j, j1, j2⟩ | ⟨rfl, no⟩
      · exact absurd j2 (nx j j1)
      · refine h2_ckL ch_m1 (h2_ckR rfl ?_)
        unfold k_X13_fields_89
        refine h2_two Iff.rfl (fun _ _ => ?_) (fun kn _ => ?_)
        · refine h2_bb _ (pj_fail (f := 5) x5 (by decide) (by decide)) (fun c' r' w => ?_)
          obtain ⟨w1, w2, f, p, w3, w4⟩ := w
          exact fi_bad (l1 := nI m0) (l2 := ch) (l3 := nI k + 1) (h6.trans (w1.mono (fun b j y => ty_la y))) (fr1.trans (w2.mono (fun b j y => ty_rn y))) (w3.f105 _ _ _ _ _) (pr_fi105 HR w4 _ _ _ _)
        · have hk : k < 16 := by
            by_cases e : k = 16
            · exact absurd (by rw [e]; rfl) kn
            · omega
          exact fi_go HT HC HR hk hn h3 hm0 e1 hir e2 E3 e4 h6 h7 c8 x1 x2 x5 x4 nx
  · refine h2_noL c8 ?_
    refine h2_bb _ (pj_noname J (by decide) c8) (fun c' y w => ?_)
    obtain ⟨y0, r1⟩ := y
    obtain ⟨w1, w2, f, p, w3, w4⟩ := w
    have w4 : pr P f p r1 := w4
    have w2 : l2_fr rn_W r r1 := w2
    refine fi_bad (l1 := nI m0) (l2 := ch) (l3 := nI k + 1) (h6.trans (w1.mono (fun b j y => ty_la y))) (h7.trans (w2.mono (fun b j y => ty_rn y))) (w3.f105 _ _ _ _ _) ?_
    exact l2_no w4.ne (pr_fi89 HR w4 _ _ _ _)
/-- the class behind a fault -/
theorem lc_F.fields {c : t_S} {f p : Nat} {rc : RT_X6_readFields} (h : lc_F c f p) (x1 x2 x3 : Int32) : t_hk (m_X6_readFields rc x1 x2 x3 c) (fun c' => lc_F c' f p ∧ l2_fr (ty_Wc 0 0 0) c c') := by
  have go : t_hk (k_X6_readFields_26 rc x1 x2 x3 c) (fun c' => lc_F c' f p ∧ l2_fr (ty_Wc 0 0 0) c c') := by
    unfold k_X6_readFields_26
    obtain ⟨z, e, c', rfl, q1, q2⟩ := h.f32 (rc := rc) (l1 := x1) (l2 := x2) (l3 := x3) (l4 := -1) (l5 := 0) (by decide)
    exact ⟨c', l2_tnR (y := (x1, x2, x3, -1, 0, c)) l2_tn.nil (by decide) e, q1, q2⟩
  unfold m_X6_readFields
  refine l2_eq (h.need (x := 123) (by decide)).1 (l2_if (fun _ => go) (fun _ => ?_))
  exact l2_eq (h.need (x := 125) (by decide)).2 (l2_ck rfl go)
/-- { .. } of a record or choice on both sides -/
theorem fi_fields {P : pc_S} {n m0 a m g l K dd u q : Nat} {ir ch : Int32} {c r : t_S} {rcC : RT_X6_readFields} {rcR : RT_X13_fields} (HT : ∀ P u q m a g l c r, tp P u 0 0 q m a g l (dd + 1) c r → t_h2 (rcC.2 (nI (dd + 1)) c) (rcR.2 r) (ty_R P u q m a g l (dd + 1) c r)) (HC : ∀ c f p, lc_F c f p → ∀ x, t_hk (rcC.2 x c) (fun y => lc_F y.2 f p ∧ l2_fr (ty_Wc 0 0 0) c y.2)) (HR : ∀ P f p r, pr P f p r → rcR.2 r = some (0, r)) (hn : n < a) (h3 : n < 3001) (hm0 : m0 < m) (hm : m0 < 13000) (hir : (ir = 1 ∧ ch = 0 ∧ K = 5) ∨ (ir = 0 ∧ ch = 1 ∧ K = 6)) (T : tp P u 0 0 q m a g l (dd + 1) c r) (c18 : c.1 318 n = -1) (c21 : c.1 321 n = 0) (r55 : r.1 955 m0 = nI K) (r59 : r.1 959 m0 = -1) : t_h2 (m_X6_readFields rcC (nI n) (nI dd) ir c) (m_X13_fields rcR (nI m0) r) (fi_Q P n m0 a m g l K dd u q c r) := by
  have J := T.1
  unfold m_X6_readFields m_X13_fields
  refine h2_ckR (l2_ix hm (by decide)) ?_
  rw [nI_clamp (n := m0) (by omega), r55]
  have start : ∀ {u1 : Nat} {c1 r1 : t_S}, u < u1 → l2_fr la_W c c1 → l2_fr rn_W r r1 → pj P u1 0 0 q m c1 r1 → tp P u1 0 0 q m a g l (dd + 1) c1 r1 ∧ fi_K n m0 a m g l K (17 - dd) c r c1 r1 a m g l 0 (fun _ => 0) (fun _ => 0) (fun _ => 0) (fun _ => 0) := by
    intro u1 c1 r1 hu w1 w2 j
    obtain ⟨_, t2, t3, t4, t5, t6, t7, t8⟩ := T
    have cm := pc_c_mono P u u1 (by omega)
    refine ⟨⟨j, ?_, t3, ?_, by omega, ?_, by omega, ?_⟩, Nat.le_refl _, Nat.le_refl _, Nat.le_refl _, Nat.le_refl _, w1.mono (fun b j y => Or.inl (ty_la y)), w2.mono (fun b j y => Or.inl (ty_rn y)), ⟨?_, fun j hj => by omega⟩, ⟨?_, fun j hj => by omega⟩, ?_, fun i j _ hj => by omega, fun j hj => by omega, ⟨fun k x y => by omega, fun e x y => by omega, fun x hx => ?_⟩, fun i i1 i2 => by omega⟩
    · rw [(w1 316 8 (by unfold la_W; omega)).1]; exact t2
    · rw [(w1 316 10 (by unfold la_W; omega)).1]; exact t4
    · rw [(w1 846 6 (by unfold la_W; omega)).1]; exact t6
    · rw [(w2 950 31 (by unfold rn_W; omega)).1]; exact t8
    · rw [(w1 318 n (by unfold la_W; omega)).1, if_neg (by decide)]; exact c18
    · rw [(w2 959 m0 (by unfold rn_W; omega)).1, if_neg (by decide)]; exact r59
    · rw [(w1 321 n (by unfold la_W; omega)).1, c21]; rfl
    · rw [(w1 7 _ (by unfold la_W; omega)).1]
      exact ⟨fun y => Or.inl y, fun y => y.elim id (fun ⟨k, a1, a2, _⟩ => by omega)⟩
  have loop : ∀ {c1 r1 : t_S}, l2_fr la_W c c1 → l2_fr rn_W r r1 → ((∃ u1, u < u1 ∧ pj P u1 0 0 q m c1 r1) ∨ pf P c1 r1) → t_h2 (k_X6_readFields_26 rcC (nI n) (nI dd) ir c1) (k_X13_fields_41 rcR (nI m0) ch 1 r1) (fi_Q P n m0 a m g l K dd u q c r) := by
    intro c1 r1 w1 w2 hj
    unfold k_X6_readFields_26 k_X13_fields_41
    refine h2_lpN (fun w x y => fi_I P n m0 a m g l K dd u q ir ch c r w x y) (fi_turns HT HC HR hn h3 hm0 hm hir) (k := 17) (by decide) ⟨0, -1, c1, r1, by decide, by decide, rfl, rfl, w1.mono (fun b j y => ty_la y), w2.mono (fun b j y => ty_rn y), ?_⟩
    rcases hj with ⟨u1, hu, j⟩ | j
    · obtain ⟨s1, s2⟩ := start hu w1 w2 j
      exact Or.inl ⟨u1, q, m, a, g, l, _, _, _, _, ⟨hu, Nat.le_refl _⟩, s1, s2, fun z => by omega⟩
    · exact Or.inr j
  rcases hir with ⟨rfl, rfl, rfl⟩ | ⟨rfl, rfl, rfl⟩
  · refine h2_noR (show ¬ nI 5 = (6 : Int32) by decide) ?_
    unfold k_X13_fields_16 k_X13_fields_36
    refine h2_bb _ (pj_need J (by decide) (x := 123) (by decide) (s := 123) rfl) (fun c1 r1 w => ?_)
    obtain ⟨w1, w2, w3⟩ := w
    refine h2_noL (by decide) (h2_ckR rfl ?_)
    rcases w3 with w3 | ⟨f, p, w3, w4⟩
    · rcases w3.is (x := 125) (by decide) with ⟨a125, b⟩ | ⟨a125, b⟩
      · rw [show (125 : Int32) = nI (sg 125) from rfl, b]
        refine h2_noR (by decide) ?_
        obtain ⟨y, r2, e1, e2, s5, s6, s7, s8⟩ := pj_took w3 (by decide) (x := 125) (by decide) a125
        obtain ⟨y0, c2⟩ := y
        have s5 : y0 = 1 := s5
        subst s5
        have s6 : l2_fr la_W c1 c2 := s6
        have s8 : pj P (u + 1 + 1) 0 0 q m c2 r2 ∨ pf P c2 r2 := s8
        refine h2_eL e1 (h2_noL (show ¬ (1 : Int32) = 0 by decide) (h2_doneL ?_))
        unfold k_X13_fields_41
        refine ⟨r2, l2_tnR (y := (nI m0, 0, 0, 0, r1)) l2_tn.nil (by decide) ?_, (w1.trans s6).mono (fun b j y => ty_la y), (w2.trans s7).mono (fun b j y => ty_rn y), ?_⟩
        · show k_X13_fields_45 rcR (nI m0) 0 0 0 r1 = _
          unfold k_X13_fields_45 k_X13_fields_197 f_X13_mustBe k_X13_mustBe_17
          rw [show (125 : Int32) = nI (sg 125) from rfl, if_pos rfl, b, if_neg (by decide), e2]
          rfl
        · rcases s8 with s8 | s8
          · obtain ⟨t1, t2⟩ := start (by omega : u < u + 1 + 1) (w1.trans s6) (w2.trans s7) s8
            exact Or.inl ⟨0, u + 1 + 1, q, m, a, g, l, _, _, _, _, by decide, fun e => absurd e (by decide), by omega, t1, t2⟩
          · exact Or.inr s8
      · rw [show (125 : Int32) = nI (sg 125) from rfl, b]
        refine h2_ckR rfl (h2_eL (pj_nottook a125) (h2_ckL rfl ?_))
        exact loop w1 w2 (Or.inl ⟨u + 1, by omega, w3⟩)
    · refine h2_eL (w3.need (x := 125) (by decide)).2 (h2_ckL rfl (h2_ifR (fun _ => loop w1 w2 (Or.inr ⟨f, p, w3, w4⟩)) (fun _ => ?_)))
      unfold k_X13_fields_41 k_X6_readFields_26
      obtain ⟨z, e, c', rfl, q1, q2⟩ := w3.f32 (rc := rcC) (l1 := nI n) (l2 := nI dd) (l3 := 1) (l4 := -1) (l5 := 0) (by decide)
      exact ⟨c', _, l2_tnR (y := (nI n, nI dd, 1, -1, 0, c1)) l2_tn.nil (by decide) e, l2_tnR (y := (nI m0, 0, 0, 0, r1)) l2_tn.nil (by decide) (pr_fiend w4 (nI m0) 0 0 0), (w1.mono (fun b j y => ty_la y)).trans q2, (w2.mono (fun b j y => ty_rn y)).trans ty_d5, Or.inr ⟨f, p, q1, w4.dead⟩⟩
  · refine h2_ckR (show nI 6 = (6 : Int32) from rfl) ?_
    unfold k_X13_fields_16 k_X13_fields_36
    refine h2_bb _ (pj_need J (by decide) (x := 123) (by decide) (s := 123) rfl) (fun c1 r1 w => ?_)
    obtain ⟨w1, w2, w3⟩ := w
    refine h2_ckL rfl (h2_noR (by decide) (loop w1 w2 ?_))
    rcases w3 with w3 | w3
    · exact Or.inl ⟨u + 1, by omega, w3⟩
    · exact Or.inr w3
