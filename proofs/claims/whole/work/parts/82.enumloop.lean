/-! Level 2: the words of an enum: one turn, all turns. -/
theorem ew_turns {P : pc_S} {n m0 a m g l dd u0 q : Nat} {c0 r0 : t_S} (hn : n < a) (h3 : n < 3001) (hm0 : m0 < m) (hm : m0 < 13000) : ∀ (w : Nat) (x : Int32 × Int32 × t_S) (y : Int32 × Int32 × Int32 × t_S), ew_I P n m0 a m g l dd u0 q c0 r0 w x y → t_h2 (b_X6_readEnum_27 x) (b_X13_enumWords_10 y) (h2_nx b_X6_readEnum_27 b_X13_enumWords_10 (fun x y => ∃ j, j < w ∧ ew_I P n m0 a m g l dd u0 q c0 r0 j x y) (ew_Q P n m0 a m g l dd u0 q c0 r0)) := by
  rintro w x y ⟨k, c, r, h1, h2, rfl, rfl, h6, h7, h8⟩
  have hw : w = 17 - k := by omega
  subst hw
  have n16 : ¬ (16 : Int32) < nI k := nI_nlt (a := 16) h2 (by decide)
  rcases h8 with ⟨u1, m1, G, X, g1, g2, g3⟩ | ⟨f, p, g1, g2⟩
  rotate_left
  · refine ⟨_, _, (show b_X6_readEnum_27 (nI n, nI k, c) = some (.inr c) from g1.enum27 n16), pr_enend g2 (nI m0) 1 (nI k), ?_⟩
    exact ⟨h6, h7.trans ty_d5, Or.inr ⟨f, p, g1, g2.dead⟩⟩
  have J := g2.1
  have e1 := g3.1
  subst e1
  have f0 := J.f0
  show t_h2 (k_X6_readEnum_27 (nI n) (nI k) c) (k_X13_enumWords_10 (nI m0) 1 (nI k) r) _
  unfold k_X6_readEnum_27 k_X13_enumWords_10
  refine h2_noL n16 (h2_noR (by decide) (h2_ckR f0.2 ?_))
  by_cases c8 : c.1 1 8 = 1
  · refine h2_ckL c8 (h2_bR _ (pj_name J c8) (fun y hy => ?_))
    obtain ⟨y0, r1⟩ := y
    obtain ⟨x, x1, x2, x3, x4, x5⟩ := hy
    have x3 : y0 = nI x := x3
    subst x3
    have x4 : l2_fr nm_W r r1 := x4
    have x5 : pj P u1 1 0 q (m + k) c r1 := x5
    have ww : f_X2_word c = nI (66 + x) := by
      unfold f_X2_word
      rw [x2]
      exact lN_i _
    obtain ⟨_, t2, t3, t4, t5, t6, t7, t8⟩ := g2
    have cle := J.cle.1
    have G3 := g3
    obtain ⟨k1, k2, k3, k4, k5, k6, k7, k8, k9⟩ := g3
    have ff : f_X13_fail = f_X13_fail := rfl
    have fr1 : l2_fr (ty_Wr 0) r0 r1 := h7.trans (x4.mono (fun b j y => ty_nm y))
    refine h2_ckR x5.f0.2 ?_
    rw [ww]
    have eX : ∀ b j, 955 ≤ b → r1.1 b j = r.1 b j ∧ r1.2.1 b j = r.2.1 b j := fun b j h => ⟨(x4 b j (by unfold nm_W; omega)).1, (x4 b j (by unfold nm_W; omega)).2.1⟩
    have ch1 : ch_R r1 m0 k G := by
      refine ⟨by rw [(eX 959 m0 (by decide)).1]; exact k6.1, fun j hj => ?_⟩
      rw [(eX 960 _ (by decide)).1]; exact k6.2 j hj
    refine h2_bL _ (cc_mem (X := X) h3 k4 k5 (by omega) (fun j hj => ⟨by have := (k7 j hj).2.2.1; omega, (k7 j hj).2.2.2.2⟩) (by omega)) (fun z hz => ?_)
    refine h2_bR _ (ch_has (X := X) ch1 hm (by omega) (x := x) (by omega) (fun j hj => ⟨by have := (k7 j hj).2.2.1; omega, by rw [(eX 957 _ (by decide)).2]; exact (k7 j hj).2.2.2.1⟩)) (fun z' hz' => ?_)
    have bad : ∀ f, 0 < f ∧ f < 100 → t_h2 ((f_X2_fail (nI f) c).bind (fun r4 => k_X6_readEnum_98 (nI n) (nI k) r4)) ((f_X13_fail (nI f) (r1.1 950 6) r1).bind (fun r3 => k_X13_enumWords_69 (nI m0) (nI k) (nI x) r3)) (h2_nx b_X6_readEnum_27 b_X13_enumWords_10 (fun x y => ∃ j, j < 17 - k ∧ ew_I P n m0 a m g l dd u0 q c0 r0 j x y) (ew_Q P n m0 a m g l dd u0 q c0 r0)) := by
      intro f hf
      refine h2_bb _ (pj_fail x5 (by decide) hf) (fun c' r' w => ?_)
      obtain ⟨w1, w2, f, p, w3, w4⟩ := w
      exact ew_bad (h6.trans (w1.mono (fun b j y => ty_la y))) (fr1.trans (w2.mono (fun b j y => ty_rn y))) (w3.enum98 _ _) w3 (pr_en69 w4 _ _ _)
    unfold k_X13_enumWords_54
    rcases hz with ⟨j, j1, j2, rfl⟩ | ⟨rfl, nx⟩
    · rcases hz' with ⟨rfl, _⟩ | ⟨rfl, no⟩
      · refine h2_noL (nI_pos (by omega)) (h2_noR (by decide) ?_)
        refine h2_bb _ (pj_fail (f := 3) x5 (by decide) (by decide)) (fun c' r' w => ?_)
        obtain ⟨w1, w2, f, p, w3, w4⟩ := w
        refine ew_bad (l1 := nI m0) (l3 := nI k + 1) (h6.trans (w1.mono (fun b j y => ty_la y))) (fr1.trans (w2.mono (fun b j y => ty_rn y))) (w3.enum98 _ _) w3 ?_
        have q := pr_en54 w4 (nI m0) (nI k) (nI x)
        unfold k_X13_enumWords_54 at q
        exact q
      · exact absurd j2 (no j j1)
    · rcases hz' with ⟨rfl, j, j1, j2⟩ | ⟨rfl, no⟩
      · exact absurd j2 (nx j j1)
      · refine h2_ckL ch_m1 (h2_ckR rfl (h2_two Iff.rfl (fun _ _ => bad 5 (by decide)) (fun kn _ => ?_)))
        have hk : k < 16 := by
          by_cases e : k = 16
          · exact absurd (by rw [e]; rfl) kn
          · omega
        exact ew_word hk hn h3 hm0 hm g1 ⟨J, t2, t3, t4, t5, t6, t7, t8⟩ G3 h6 h7 c8 x1 x2 x5 x4 nx
  · refine h2_noL c8 ?_
    refine h2_bb _ (pj_noname J (by decide) c8) (fun c' y w => ?_)
    obtain ⟨y0, r1⟩ := y
    obtain ⟨w1, w2, f, p, w3, w4⟩ := w
    have w4 : pr P f p r1 := w4
    have w2 : l2_fr rn_W r r1 := w2
    refine ew_bad (l1 := nI m0) (l3 := nI k + 1) (h6.trans (w1.mono (fun b j y => ty_la y))) (h7.trans (w2.mono (fun b j y => ty_rn y))) (w3.enum98 _ _) w3 ?_
    exact l2_no w4.ne (pr_en54 w4 _ _ _)
/-- the class behind a fault -/
theorem lc_F.readEnum {c : t_S} {f p n : Nat} (h : lc_F c f p) (hn : n < 3001) : t_hk (f_X6_readEnum (nI n) c) (fun c' => lc_F c' f p ∧ l2_fr (ty_Wc 0 0 0) c c') := by
  unfold f_X6_readEnum
  refine l2_eq (h.need (x := 123) (by decide)).1 (l2_ck (l2_ix hn (by decide)) ?_)
  rw [nI_clamp (n := n) (by omega)]
  have w : l2_fr (fun b j => b = 318 ∧ j = n) c (t_setI c 318 n (c.1 316 10)) := l2_fr.set ⟨rfl, rfl⟩
  refine l2_lt ?_
  have h' := h.fr w (fun j _ _ => by omega)
  refine ⟨t_setI c 318 n (c.1 316 10), l2_tnR (y := (nI n, 0, t_setI c 318 n (c.1 316 10))) l2_tn.nil (by decide) ?_, h', w.mono (fun b j y => by unfold ty_Wc; omega)⟩
  exact h'.enum27 (show ¬ (16 : Int32) < 0 by decide)
/-- enum { .. } on both sides -/
theorem ew_enum {P : pc_S} {n m0 a m g l dd u q : Nat} {c r : t_S} (hn : n < a) (h3 : n < 3001) (hm0 : m0 < m) (hm : m0 < 13000) (T : tp P u 0 0 q m a g l dd c r) (c21 : c.1 321 n = 0) (r59 : r.1 959 m0 = -1) : t_h2 (f_X6_readEnum (nI n) c) (f_X13_enumWords (nI m0) r) (ew_Q P n m0 a m g l dd u q c r) := by
  have J := T.1
  unfold f_X6_readEnum f_X13_enumWords
  refine h2_bb _ (pj_need J (by decide) (x := 123) (by decide) (s := 123) rfl) (fun c1 r1 w => ?_)
  obtain ⟨w1, w2, w3⟩ := w
  refine h2_ckL (l2_ix h3 (by decide)) ?_
  rw [nI_clamp (n := n) (by omega)]
  have w : l2_fr (fun b j => b = 318 ∧ j = n) c1 (t_setI c1 318 n (c1.1 316 10)) := l2_fr.set ⟨rfl, rfl⟩
  have e18 : (t_setI c1 318 n (c1.1 316 10)).1 318 n = c1.1 316 10 := by simp only [l2_gI, reduceIte, eq_self]
  refine h2_lL ?_
  generalize t_setI c1 318 n (c1.1 316 10) = c2 at *
  have fcc : l2_fr (ty_Wc 0 0 0) c c2 := (w1.mono (fun b j y => ty_la y)).trans (w.mono (fun b j y => by unfold ty_Wc; omega))
  refine h2_lpN (fun w x y => ew_I P n m0 a m g l dd u q c r w x y) (ew_turns hn h3 hm0 hm) (k := 17) (by decide) ⟨0, c2, r1, by decide, by decide, rfl, rfl, fcc, w2.mono (fun b j y => ty_rn y), ?_⟩
  rcases w3 with w3 | ⟨f, p, w3, w4⟩
  · obtain ⟨_, t2, t3, t4, t5, t6, t7, t8⟩ := T
    have cm := pc_c_le P u
    have J2 : pj P (u + 1) 0 0 q m c2 r1 := w3.fr w (l2_fr.rf (W := fun _ _ => False)) (fun j => by omega) (fun b i _ _ => by omega) (fun b i _ _ => by omega) (by omega) (fun j _ y => y) (fun b i _ _ y => y)
    refine Or.inl ⟨u + 1, m, fun _ => 0, fun _ => 0, by omega, ⟨J2, ?_, t3, ?_, by omega, ?_, by omega, ?_⟩, rfl, (w1.mono (fun b j y => Or.inl (ty_la y))).trans (w.mono (fun b j y => Or.inr ⟨by omega, y.2⟩)), w2.mono (fun b j y => Or.inl (ty_rn y)), ?_, ?_, ⟨?_, fun j hj => by omega⟩, fun j hj => by omega, fun i j _ hj => by omega, fun z hz => ?_⟩
    · rw [(w 316 8 (by omega)).1, (w1 316 8 (by unfold la_W; omega)).1]; exact t2
    · rw [(w 316 10 (by omega)).1, (w1 316 10 (by unfold la_W; omega)).1]; exact t4
    · rw [(w 846 6 (by omega)).1, (w1 846 6 (by unfold la_W; omega)).1]; exact t6
    · rw [(w2 950 31 (by unfold rn_W; omega)).1]; exact t8
    · rw [(w 321 n (by omega)).1, (w1 321 n (by unfold la_W; omega)).1, c21]; rfl
    · rw [e18, (w1 316 10 (by unfold la_W; omega)).1]; exact t4
    · rw [(w2 959 m0 (by unfold rn_W; omega)).1, if_neg (by decide)]; exact r59
    · rw [(w 7 _ (by omega)).1, (w1 7 _ (by unfold la_W; omega)).1]
      exact ⟨fun y => Or.inl y, fun y => y.elim id (fun ⟨j, hj, _⟩ => by omega)⟩
  · exact Or.inr ⟨f, p, w3.fr w (fun j _ _ => by omega), w4⟩
