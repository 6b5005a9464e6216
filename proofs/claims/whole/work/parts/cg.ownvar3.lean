/-! Level 2: a component's own: a var, both sides. -/
section
variable {P : pc_S} {nt : Nat → Nat} {u q m a g t e p l s i st f p0 k v0 v1 v2 : Nat} {A B D : Nat → Nat} {c0 r0 c r : t_S}
theorem ow_var {X : Nat} {r3 : t_S} (M : mp P nt u q m a g t e p l s i st (-1) (nI k) (-1) c r) (hc : cw_R c r k v0 v1 v2 A B D) (hk : k < 8) (hX : X < 7934) (hv : v2 < 8) (n3 : l2_fr nm_W r r3) (J : pj P u 1 0 q m c r3) (h8 : c.1 1 8 = 1) (wd : f_X2_word c = nI (66 + X)) : t_h2 (k_X6_readOwn_227 209 433 (nI 8) 434 c) (k_X13_own_134 (nI k) (nI 9) (nI X) r3) (ow_O P nt k v0 v1 v2 u q m a g t e p l s i st c r) := by
  have M0 := M
  have hc0 := hc
  obtain ⟨J0, N, ⟨k1, k2, k3, k4, k5, k6, k7⟩, ⟨x1, x2, x3, x4, x5, x6, x7⟩, ⟨s1, s2, s3⟩, ⟨b1, b2, b3, b4, b5, b6, b7, b8, b9⟩⟩ := M
  obtain ⟨h0, h1, h2, h3, h4, h5, h6⟩ := hc
  have e1 : c.1 433 k = nI v2 := h3.1
  have e2 : r3.1 979 k = nI v2 := by rw [(n3 979 k (by unfold nm_W; omega)).1]; exact h3.2
  unfold k_X6_readOwn_227 k_X13_own_134
  rw [if_pos J.f0.1, if_pos J.f0.2, x4, nI_clamp (n := k) (by omega), e1, show nI k * nI 8 = nI (8 * k) from (pk_mul k 8).trans (by rw [Nat.mul_comm]), nI_add, nI_clamp (n := 8 * k + v2) (by omega)]
  refine h2_ckL rfl (h2_ckL (l2_ix hk (by decide)) (h2_ckL rfl (h2_ckL (l2_ix (show 8 * k + v2 < 64 by omega) (by decide)) (h2_lL ?_))))
  rw [wd]
  have f1 : l2_fr (fun b j => b = 434 ∧ j = 8 * k + v2) c (t_setI c 434 (8 * k + v2) (nI (66 + X))) := l2_fr.set ⟨rfl, rfl⟩
  have v1' : (t_setI c 434 (8 * k + v2) (nI (66 + X))).1 434 (8 * k + v2) = nI (66 + X) := by simp only [l2_gI, reduceIte]
  generalize t_setI c 434 (8 * k + v2) (nI (66 + X)) = c1 at *
  have nf : ∀ x : t_S, l2_fr (fun _ _ => False) x x := fun _ => l2_fr.rf
  have J1 : pj P u 1 0 q m c1 r3 := J.fr f1 (nf _) (fun j => by omega) (fun b i _ _ => by omega) (fun b i _ _ => by omega) (by omega) (fun j _ y => y) (fun b i _ _ y => y)
  refine h2_bb _ (pj_adv J1 (by decide) (Or.inl rfl) (by rw [(f1 1 8 (by omega)).1, h8]; decide)) (fun c2 r4 hw => ?_)
  obtain ⟨y1, y2, y3⟩ := hw
  refine h2_ckL rfl (h2_ckL (l2_ix (show 8 * k + v2 < 64 by omega) (by decide)) (h2_noR (by decide) (h2_noR (by decide) ?_)))
  show t_h2 (ovA (8 * k + v2) c2) _ _
  have e979 : r4.1 979 k = nI v2 := by rw [(y2 979 k (by unfold rn_W; omega)).1]; exact e2
  have C2 : l2_fr (fun b j => hi_Wc l b j ∨ ((b = 434 ∨ b = 435) ∧ j = 8 * k + v2)) c c2 := (f1.mono (fun b j y => Or.inr ⟨Or.inl y.1, y.2⟩)).trans (y1.mono (fun b j y => Or.inl (Or.inl y)))
  have R4 : l2_fr hi_Wr r r4 := (n3.mono (fun b j y => Or.inl (Or.inr y))).trans (y2.mono (fun b j y => Or.inl (Or.inl y)))
  have mo2 : ∀ {x : t_S}, l2_fr (fun b j => hi_Wc l b j ∨ ((b = 434 ∨ b = 435) ∧ j = 8 * k + v2)) c x → l2_fr mo_Wc c x := fun h => h.mono (fun b j y => by unfold hi_Wc la_W at y; unfold mo_Wc; omega)
  have k13 : ∀ {x : t_S}, l2_fr (fun b j => hi_Wc l b j ∨ ((b = 434 ∨ b = 435) ∧ j = 8 * k + v2)) c x → x.1 845 13 = nI k := fun h => by rw [(h 845 13 (by unfold hi_Wc la_W; omega)).1]; exact x4
  have mf : ∀ {x : t_S} {f p0 : Nat}, l2_fr (fun b j => hi_Wc l b j ∨ ((b = 434 ∨ b = 435) ∧ j = 8 * k + v2)) c x → lc_F x f p0 → zF f p0 c x := fun h y => ⟨M0.mF y (h 334 2 (by unfold hi_Wc la_W; omega)).1 (h 845 9 (by unfold hi_Wc la_W; omega)).1 (h 845 7 (by unfold hi_Wc la_W; omega)).1, mo2 h⟩
  rcases y3 with J2 | ⟨f, p0, y3, y4⟩
  rotate_left
  · exact h2_sep _ _ ((mf C2 y3).gvA hk (k13 C2)) ((y4.y.at (hi_mr R4)).own hk e979 hv) (fun x y hx hy => ⟨hx.2, hy.2, Or.inr ⟨f, p0, hx.1, hy.1⟩⟩)
  unfold ovA
  refine h2_lL ?_
  have f3 : l2_fr (fun b j => b = 435 ∧ j = 8 * k + v2) c2 (t_setI c2 435 (8 * k + v2) (-1)) := l2_fr.set ⟨rfl, rfl⟩
  have v3' : (t_setI c2 435 (8 * k + v2) (-1)).1 435 (8 * k + v2) = -1 := by simp only [l2_gI, reduceIte]
  generalize t_setI c2 435 (8 * k + v2) (-1) = c3 at *
  have C3 : l2_fr (fun b j => hi_Wc l b j ∨ ((b = 434 ∨ b = 435) ∧ j = 8 * k + v2)) c c3 := C2.trans (f3.mono (fun b j y => Or.inr ⟨Or.inr y.1, y.2⟩))
  have J3 : pj P (u + 1) 0 0 q m c3 r4 := J2.fr f3 (nf _) (fun j => by omega) (fun b i _ _ => by omega) (fun b i _ _ => by omega) (by omega) (fun j _ y => y) (fun b i _ _ y => y)
  have M3 : mp P nt (u + 1) q m a g t e p l s i st (-1) (nI k) (-1) c3 r4 := M0.go (by omega) (Nat.le_refl _) J3 (((f1.mono (fun b j y => Or.inr ⟨Or.inl y.1, y.2⟩)).trans (y1.mono (fun b j y => Or.inl y))).trans (f3.mono (W := fun b j => b = 435 ∧ j = 8 * k + v2) (V := fun b j => la_W b j ∨ ((b = 434 ∨ b = 435) ∧ j = 8 * k + v2)) (fun b j y => Or.inr ⟨Or.inr y.1, y.2⟩))) R4 (fun b j y => by unfold la_W; omega) (fun b j y => by unfold hi_Wr nk_W rn_W nm_W; omega)
  obtain ⟨c4, r5, q1, q2, g1, g2, g3⟩ := hi_hint (so := 2) (spot := nI (8 * k + v2)) M3
  rw [q1, l2_bs, ov_eq hk q2 (by rw [(g2 979 k (by unfold hi_Wr nk_W rn_W nm_W; omega)).1]; exact e979) hv]
  obtain ⟨r6, q3, f6, w975, w976, w977, w33, w34, w979⟩ := ovQ_st k X (8 * k + v2) v2 r5
  rw [q3]
  have C4 : l2_fr (fun b j => hi_Wc l b j ∨ ((b = 434 ∨ b = 435) ∧ j = 8 * k + v2)) c c4 := C3.trans (g1.mono (fun b j y => Or.inl y))
  have R6 : l2_fr (fun b j => hi_Wr b j ∨ (975 ≤ b ∧ b ≤ 977 ∧ j = 8 * k + v2) ∨ (b = 950 ∧ 32 ≤ j ∧ j ≤ 34) ∨ (b = 979 ∧ j = k)) r r6 := ((R4.mono (fun b j y => Or.inl y)).trans (g2.mono (fun b j y => Or.inl y))).trans (f6.mono (fun b j y => by omega))
  have mr6 : ∀ {x : t_S}, l2_fr (fun b j => hi_Wr b j ∨ (975 ≤ b ∧ b ≤ 977 ∧ j = 8 * k + v2) ∨ (b = 950 ∧ 32 ≤ j ∧ j ≤ 34) ∨ (b = 979 ∧ j = k)) r x → l2_fr mo_Wr r x := fun h => h.mono (fun b j y => by unfold hi_Wr nk_W rn_W nm_W at y; unfold mo_Wr; omega)
  rcases g3 with ⟨u4, l4, hu4, hl4, hp4, M4, hh⟩ | ⟨f, p0, y3, y4⟩
  rotate_left
  · have z4 := mf C4 y3.1
    rw [z4.need (by decide), l2_bs]
    have w6 : pr P f p0 r6 := y4.fr f6 (fun j _ => by omega) (fun b i _ _ => by omega)
    exact h2_sep _ _ (z4.gvC hk (k13 C4)) (l2_bd _ ((w6.y.at (mr6 R6)).mustBe _) (fun z hz => hz.gvR)) (fun x y hx hy => ⟨hx.2, hy.2, Or.inr ⟨f, p0, hx.1, hy.1⟩⟩)
  have J4 : pj P u4 0 0 q m c4 r6 := M4.1.fr (nf _) f6 (fun j y => y) (fun b i _ _ y => y) (fun b i _ _ y => y) (fun y => y) (fun j _ => by omega) (fun b i _ _ => by omega)
  have M4' : mp P nt u4 q m a g t e p l4 s i st (-1) (nI k) (-1) c4 r6 := M4.go (Nat.le_refl _) (Nat.le_refl _) J4 (nf _) f6 (fun b j _ y => y) (fun b j y => by omega)
  refine h2_bb _ (pj_need J4 (by decide) (x := 11) (by decide) (s := 14909) rfl) (fun c5 r7 hw => ?_)
  obtain ⟨z1, z2, z3⟩ := hw
  have C5 : l2_fr (fun b j => hi_Wc l b j ∨ ((b = 434 ∨ b = 435) ∧ j = 8 * k + v2)) c c5 := C4.trans (z1.mono (fun b j y => Or.inl (Or.inl y)))
  have R7 : l2_fr (fun b j => hi_Wr b j ∨ (975 ≤ b ∧ b ≤ 977 ∧ j = 8 * k + v2) ∨ (b = 950 ∧ 32 ≤ j ∧ j ≤ 34) ∨ (b = 979 ∧ j = k)) r r7 := R6.trans (z2.mono (fun b j y => Or.inl (Or.inl (Or.inl y))))
  rcases z3 with J5 | ⟨f, p0, y3, y4⟩
  rotate_left
  · exact h2_sep _ _ ((mf C5 y3).gvC hk (k13 C5)) ((y4.y.at (mr6 R7)).gvR) (fun x y hx hy => ⟨hx.2, hy.2, Or.inr ⟨f, p0, hx.1, hy.1⟩⟩)
  unfold ovC ovR
  refine h2_lR ?_
  have f8 : l2_fr (fun b j => b = 950 ∧ j = 32) r7 (t_setI r7 950 32 0) := l2_fr.set ⟨rfl, rfl⟩
  have v8 : (t_setI r7 950 32 0).1 950 32 = 0 := by simp only [l2_gI, reduceIte]
  generalize t_setI r7 950 32 0 = r8 at *
  have R8 : l2_fr (fun b j => hi_Wr b j ∨ (975 ≤ b ∧ b ≤ 977 ∧ j = 8 * k + v2) ∨ (b = 950 ∧ 32 ≤ j ∧ j ≤ 34) ∨ (b = 979 ∧ j = k)) r r8 := R7.trans (f8.mono (fun b j y => by omega))
  have J6 : pj P (u4 + 1) 0 0 q m c5 r8 := J5.fr (nf _) f8 (fun j y => y) (fun b i _ _ y => y) (fun b i _ _ y => y) (fun y => y) (fun j _ => by omega) (fun b i _ _ => by omega)
  have R68 : l2_fr (fun b j => rn_W b j ∨ (b = 950 ∧ j = 32)) r6 r8 := (z2.mono (fun b j y => Or.inl y)).trans (f8.mono (fun b j y => Or.inr y))
  have M5 : mp P nt (u4 + 1) q m a g t e p l4 s i st (-1) (nI k) (-1) c5 r8 := M4'.go (by omega) (Nat.le_refl _) J6 z1 R68 (fun b j y => by unfold la_W; omega) (fun b j y => by unfold rn_W; omega)
  obtain ⟨v, hV⟩ := en_V.ex v2 9 D (by decide)
  have M5' := M5
  obtain ⟨_, _, _, ⟨a1, a2, a3, a4, a5, a6, a7⟩, _, _⟩ := M5'
  have hE : en (E_v k v2 v) c5 r8 := by
    refine ⟨?_, ?_, by omega, ?_, by omega, a6, ?_, a7, by decide, Or.inr (Or.inr ⟨k, v2, D, hk, a3, a4, ?_, ⟨by omega, fun i hi => ⟨(h6 i hi).1, ?_⟩⟩, hV⟩)⟩
    · unfold f_X6_home
      rw [a3, a4, if_pos (by decide), if_neg (nI_pos (by omega))]
    · rw [(R68 950 33 (by unfold rn_W; omega)).1]; exact w33
    · rw [(R68 950 34 (by unfold rn_W; omega)).1]; exact w34
    · rw [if_neg (by omega)]
    · rw [(C5 433 k (by unfold hi_Wc la_W; omega)).1]; exact e1
    · rw [(C5 434 _ (by unfold hi_Wc la_W; omega)).1]; exact (h6 i hi).2.1
  refine h2_bb _ (ew_exp M5 hE v8) (fun x y hxy => ?_)
  obtain ⟨xv, c6⟩ := x
  obtain ⟨yv, r9⟩ := y
  obtain ⟨hx, hxy⟩ := hxy
  have hx : xv = nI e := hx
  subst hx
  rcases hxy with ⟨n, hy, G⟩ | ⟨f, p0, B1, B2, B3⟩
  rotate_left
  · have B2 : l2_fr (xWc t e p l4 0 0) c5 c6 := B2
    have B1 : mF f p0 c6 := B1
    have z6 : zF f p0 c c6 := ⟨B1, (mo2 C5).trans (mo_xc (B2.mono (fun b j y => y.sub (Nat.zero_le _) (Nat.zero_le _) (Nat.zero_le _) (Nat.zero_le _) (Nat.le_refl _) (Nat.zero_le _))))⟩
    have k6' : c6.1 845 13 = nI k := by rw [(B2 845 13 (by unfold xWc; omega)).1]; exact k13 C5
    refine h2_lL (h2_lR ?_)
    have z7 := z6.set (b := 436) (j := 8 * k + v2) (v := nI e) (by unfold mo_Wc; omega) (by omega)
    have y7 := (B3.ry (mr6 R8)).set (b := 978) (j := 8 * k + v2) (v := yv) (by unfold mo_Wr; omega) (by omega)
    refine h2_sep _ _ (z7.ow321 (by decide) hk ?_) (show t_hk (k_X13_own_223 (t_setI r9 978 (8 * k + v2) yv)) (yR P f p0 r) from ?_) (fun x y hx hy => ⟨hx.2, hy.2, Or.inr ⟨f, p0, hx.1, hy.1⟩⟩)
    · simp only [l2_gI, Nat.reduceEqDiff, reduceIte]
      exact k6'
    · unfold k_X13_own_223
      exact l2_bd _ (y7.mb (by unfold rj_no; decide)) (fun z hz => l2_sm hz)
  have hy : yv = nI n := hy
  subst hy
  refine h2_lL (h2_lR ?_)
  obtain ⟨u', q', m', t', e', p', l', s', i', G0⟩ := G
  have G := G0
  obtain ⟨⟨o1, o2, o3, o4, o5, o6, o7, o8, o9⟩, M6, eb, g4, g5, gz, _⟩ := G
  have f7 : l2_fr (fun b j => b = 436 ∧ j = 8 * k + v2) c6 (t_setI c6 436 (8 * k + v2) (nI e)) := l2_fr.set ⟨rfl, rfl⟩
  have v7 : (t_setI c6 436 (8 * k + v2) (nI e)).1 436 (8 * k + v2) = nI e := by simp only [l2_gI, reduceIte]
  have f10 : l2_fr (fun b j => b = 978 ∧ j = 8 * k + v2) r9 (t_setI r9 978 (8 * k + v2) (nI n)) := l2_fr.set ⟨rfl, rfl⟩
  have v10 : (t_setI r9 978 (8 * k + v2) (nI n)).1 978 (8 * k + v2) = nI n := by simp only [l2_gI, reduceIte]
  show t_h2 (k_X6_readOwn_321 433 (t_setI c6 436 (8 * k + v2) (nI e))) (k_X13_own_223 (t_setI r9 978 (8 * k + v2) (nI n))) _
  generalize t_setI c6 436 (8 * k + v2) (nI e) = c7 at *
  generalize t_setI r9 978 (8 * k + v2) (nI n) = r10 at *
  have J7 : pj P u' 0 0 q' m' c7 r10 := M6.1.fr f7 f10 (fun j => by omega) (fun b i _ _ => by omega) (fun b i _ _ => by omega) (by omega) (fun j _ => by omega) (fun b i _ _ => by omega)
  unfold k_X6_readOwn_321 k_X13_own_223
  refine h2_bb _ (pj_need J7 (by decide) (x := 59) (by decide) rfl) (fun c8 r11 hw => ?_)
  obtain ⟨t1, t2, t3⟩ := hw
  have k8 : c8.1 845 13 = nI k := by rw [(t1 845 13 (by unfold la_W; omega)).1, (f7 845 13 (by omega)).1, (g4 845 13 (by unfold xWc; omega)).1]; exact k13 C5
  have e8 : c8.1 433 k = nI v2 := by rw [(t1 433 k (by unfold la_W; omega)).1, (f7 433 k (by omega)).1, (g4 433 k (by unfold xWc; omega)).1, (C5 433 k (by unfold hi_Wc la_W; omega)).1]; exact e1
  rw [k8, nI_clamp (n := k) (by omega), e8, nI_1]
  refine h2_ckL rfl (h2_ckL (l2_ix hk (by decide)) (h2_lL (h2_sm ?_)))
  have f9 : l2_fr (fun b j => b = 433 ∧ j = k) c8 (t_setI c8 433 k (nI (v2 + 1))) := l2_fr.set ⟨rfl, rfl⟩
  have v9 : (t_setI c8 433 k (nI (v2 + 1))).1 433 k = nI (v2 + 1) := by simp only [l2_gI, reduceIte]
  generalize t_setI c8 433 k (nI (v2 + 1)) = c9 at *
  have mo9 : l2_fr mo_Wc c c9 := ((((mo2 C5).trans (mo_xc (g4.mono (fun b j y => y.sub (Nat.zero_le _) (Nat.zero_le _) (Nat.zero_le _) (Nat.zero_le _) (Nat.le_refl _) (Nat.zero_le _))))).trans (f7.mono (fun b j y => by unfold mo_Wc; omega))).trans (mo_la t1)).trans (f9.mono (fun b j y => by unfold mo_Wc; omega))
  have mr11 : l2_fr mo_Wr r r11 := (((mr6 R8).trans (mo_x (g5.mono (fun b j y => y.sub (Nat.zero_le _) (Nat.zero_le _))))).trans (f10.mono (fun b j y => by unfold mo_Wr; omega))).trans (mo_rn t2)
  refine ⟨mo9, mr11, ?_⟩
  rcases t3 with J8 | ⟨f, p0, y3, y4⟩
  rotate_left
  · exact Or.inr ⟨f, p0, y3.fr f9 (fun j _ _ => by omega), y4⟩
  have w435 : c5.1 435 (8 * k + v2) = -1 := by rw [(z1 435 _ (by unfold la_W; omega)).1, (g1 435 _ (by unfold hi_Wc la_W; omega)).1]; exact v3'
  have w434 : c5.1 434 (8 * k + v2) = nI (66 + X) := by rw [(z1 434 _ (by unfold la_W; omega)).1, (g1 434 _ (by unfold hi_Wc la_W; omega)).1, (f3 434 _ (by omega)).1, (y1 434 _ (by unfold la_W; omega)).1]; exact v1'
  have eh : f_X6_home c3 = -2 - nI k := by
    unfold f_X6_home
    have a12 : c3.1 845 12 = -1 := by rw [(C3 845 12 (by unfold hi_Wc la_W; omega)).1]; exact x3
    rw [a12, k13 C3, if_pos (by decide), if_neg (nI_pos (by omega))]
  refine Or.inl (ov_end hc0 hk hX hv (u5 := u4 + 1) (l5 := l4) (by omega) hl4 C5 R8 w434 w435 ?_ ?_ ?_ hV G0 f7 v7 f10 v10 t1 t2 f9 v9 (J8.fr f9 (nf _) (fun j => by omega) (fun b i _ _ => by omega) (fun b i _ _ => by omega) (by omega) (fun j _ y => y) (fun b i _ _ y => y)))
  · rw [(R68 975 _ (by unfold rn_W; omega)).1]; exact w975
  · rw [(R68 979 _ (by unfold rn_W; omega)).1]; exact w979
  · rw [(R68 976 _ (by unfold rn_W; omega)).1, (R68 977 _ (by unfold rn_W; omega)).1, w976, w977]
    rcases hh with ⟨y5, y6⟩ | ⟨y5, X', pl, y6, y7, y8, y9, y10⟩
    · exact Or.inl ⟨y5, y6⟩
    · exact Or.inr ⟨y5, X', pl, y6, y7, (eh ▸ y8).fr (fun b a1 a2 => (z1 b l (by unfold la_W; omega)).1), y9, y10⟩
end
