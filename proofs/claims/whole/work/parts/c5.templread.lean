/-! Level 2: a template as an item, read. -/
section
variable {P : pc_S} {nt : Nat → Nat} {u q m a g t e p l s i st f p0 : Nat} {c0 r0 c r : t_S}
theorem mm_good {c7 r8 c8 r9 c9 r10 c11 r11 : t_S} {n' u3 : Nat} (M : mo P nt u q m a g t e p l s i st c r) (g5 : nt 1 < 60) (hu : u < u3) (pu : pc_p P u ≤ pc_p P u3) (C7 : l2_fr (mm_Wc (nt 1) t e p l) c c7) (R8 : l2_fr (mm_Wr (nt 1) m s) r r8) (N8 : nt_R (pc_W P) (nt_up nt 1) c7 r8) (e78 : c.1 846 7 = c7.1 846 7 ∧ c.1 846 8 = c7.1 846 8) (row : c7.1 (364 + nt 1) 2 = nI e ∧ c7.1 (364 + nt 1) 3 = nI t ∧ ∃ pl, pl ≤ 12000 ∧ c7.1 (364 + nt 1) 1 = nI pl ∧ r8.1 969 (nt 1) = nI pl) {u' q' m' t' e' p' l' s' i' : Nat} (k1 : xk P u3 q t e p l s i u' q' t' e' p' l' s' i') (k2 : m < m') (X : xp P E_t u' 0 0 q' m' t' e' p' l' 0 0 s' i' 0 c8 r9) (k4 : l2_fr (xWc t e p l 0 0) c7 c8) (k5 : l2_fr (xWr m s) r8 r9) (k6 : XR (wn_R E_t c8 r9 l l') (an_R E_t c8 r9 l l') (tn_R E_t c8 r9 l l') (sn_R c8) c8 r9 p' s' (m' - m) 1 1 15 e e' t t' m m' n') (k7 : xD E_t c7 c8 r9 l l' i i' m m') (k8 : r9.1 960 n' = -1) (k9 : c8.1 356 t = -1) (C89 : l2_fr (fun b j => (b = 364 + nt 1 ∧ (j = 0 ∨ j = 4)) ∨ (b = 334 ∧ j = 2) ∨ ((b = 335 ∨ b = 336) ∧ j = e') ∨ (b = 845 ∧ j = 15)) c8 c9) (R910 : l2_fr (fun b j => b = 968 ∧ j = nt 1) r9 r10) (w : c9.1 (364 + nt 1) 0 = nI t ∧ c9.1 (364 + nt 1) 4 = nI t' ∧ c9.1 334 2 = nI (e' + 1) ∧ c9.1 845 15 = 0 ∧ px_o c9 e' 0 0) (w8 : r10.1 968 (nt 1) = nI n') (C911 : l2_fr la_W c9 c11) (R1011 : l2_fr rn_W r10 r11) (J : pj P (u' + 1) 0 0 q' m' c11 r11) : mm_tG P nt u q m a g t e p l s i st c r c11 r11 := by
  obtain ⟨J0, N, ⟨a1, a2, a3, a4, a5, a6, a7⟩, ⟨v1, v2, v3, v4, v5, v6, v7⟩, ⟨s1, s2, s3⟩, ⟨b1, b2, b3, b4, b5, b6, b7, b8, b9⟩⟩ := M
  have tt := k6.tlt (by decide)
  have at' := k6.at
  unfold xk at k1
  have q1 := J.pmono 1 u' rfl (by omega)
  have q2 := J.pmono (u' + 1 - u) u (by omega) (by omega)
  have q3 := J.pmono (u' + 1 - u3) u3 (by omega) (by omega)
  have c1 := pc_c_le P u'
  have c2 := pc_c_mono P u u3 (by omega)
  have c3 := pc_c_mono P u3 u' (by omega)
  have mle := J.mle (by decide)
  have W8 : l2_fr (fun b j => la_W b j ∨ (b = 364 + nt 1 ∧ (j = 0 ∨ j = 4)) ∨ (b = 334 ∧ j = 2) ∨ ((b = 335 ∨ b = 336) ∧ j = e') ∨ (b = 845 ∧ j = 15)) c8 c11 := (C89.mono (fun b j y => Or.inr y)).trans (C911.mono (fun b j y => Or.inl y))
  have V9 : l2_fr (fun b j => rn_W b j ∨ (b = 968 ∧ j = nt 1)) r9 r11 := (R910.mono (fun b j y => Or.inr y)).trans (R1011.mono (fun b j y => Or.inl y))
  have C11 : l2_fr (mm_Wc (nt 1) t e p l) c c11 := (C7.trans (k4.mono (V := mm_Wc (nt 1) t e p l) (fun b j y => Or.inl y))).trans (W8.mono (V := mm_Wc (nt 1) t e p l) (fun b j y => by
    rcases y with y | y | y | y | y
    · exact Or.inl (x_la y)
    · exact Or.inr (Or.inr (Or.inr (Or.inl ⟨y.1, by omega⟩)))
    · exact Or.inl (y.1 ▸ y.2 ▸ xWc.i334 (Or.inl rfl))
    · exact Or.inl (xWc.iop y.1 (by omega))
    · exact Or.inr (Or.inr (Or.inr (Or.inr y)))))
  have R11 : l2_fr (mm_Wr (nt 1) m s) r r11 := (R8.trans (k5.mono (V := mm_Wr (nt 1) m s) (fun b j y => Or.inl y))).trans (V9.mono (V := mm_Wr (nt 1) m s) (fun b j y => by
    rcases y with y | y
    · exact Or.inl (x_rn y)
    · exact Or.inr (Or.inr ⟨by omega, by omega, y.2⟩)))
  obtain ⟨x1, x2, x3, x4, x5, x6, x7, x8, x9, x10, x11⟩ := X
  refine ⟨u' + 1, q', m', t', e', p', l', s', i', n', ⟨J, ?_, ⟨?_, ?_, ?_, ?_, ?_, ?_, ?_⟩, ⟨?_, ?_, ?_, ?_, ?_, ?_, ?_⟩, ⟨?_, ?_, ?_⟩, ⟨by omega, by omega, by omega, by omega, by omega, by omega, by omega, by omega, b9⟩⟩, ⟨by omega, by omega, k2, by omega, by omega, by omega, by omega, by omega, by omega⟩, g5, C11, R11, ⟨?_, ?_, ?_, ?_⟩, ?_, ?_, ?_, ?_, ?_, ?_, ?_⟩
  · exact (N8.fr k4 k5 (fun j => by unfold xWc; omega) ⟨by unfold xWc; omega, by unfold xWc; omega, by unfold xWc; omega, by unfold xWc; omega⟩ ⟨by unfold xWr; omega, by unfold xWr; omega, by unfold xWr; omega, by unfold xWr; omega⟩ (fun b j y => by unfold xWr; omega)).fr W8 V9 (fun j => by unfold la_W; omega) ⟨by unfold la_W; omega, by unfold la_W; omega, by unfold la_W; omega, by unfold la_W; omega⟩ ⟨by unfold rn_W; omega, by unfold rn_W; omega, by unfold rn_W; omega, by unfold rn_W; omega⟩ (fun b j y => by unfold rn_W; omega)
  · rw [(C11 316 8 (by unfold mm_Wc xWc; omega)).1]; exact a1
  · rw [(C11 316 10 (by unfold mm_Wc xWc; omega)).1]; exact a2
  · rw [(W8 353 9 (by unfold la_W; omega)).1]; exact x3
  · rw [(C911 334 2 (by unfold la_W; omega)).1]; exact w.2.2.1
  · rw [(W8 334 4 (by unfold la_W; omega)).1]; exact x5
  · rw [(W8 846 6 (by unfold la_W; omega)).1]; exact x6
  · rw [(C11 428 18 (by unfold mm_Wc xWc; omega)).1]; exact a7
  · rw [(W8 845 7 (by unfold la_W; omega)).1]; exact x7
  · rw [(W8 845 9 (by unfold la_W; omega)).1]; exact x8
  · rw [(C11 845 12 (by unfold mm_Wc xWc; omega)).1]; exact v3
  · rw [(C11 845 13 (by unfold mm_Wc xWc; omega)).1]; exact v4
  · rw [(C11 845 14 (by unfold mm_Wc xWc; omega)).1]; exact v5
  · rw [(C911 845 15 (by unfold la_W; omega)).1]; exact w.2.2.2.1
  · rw [(C11 845 16 (by unfold mm_Wc xWc; omega)).1]; exact v7
  · rw [(V9 950 36 (by unfold rn_W; omega)).1]; exact x9
  · rw [(V9 950 26 (by unfold rn_W; omega)).1]; exact x10
  · rw [(R11 950 81 (by unfold mm_Wr xWr; omega)).1]; exact s3
  · rw [(C911 _ 0 (by unfold la_W; omega)).1]; exact w.1
  · rw [(W8 _ 2 (by unfold la_W; omega)).1, (k4 _ 2 (by unfold xWc; omega)).1]; exact row.1
  · rw [(W8 _ 3 (by unfold la_W; omega)).1, (k4 _ 3 (by unfold xWc; omega)).1]; exact row.2.1
  · rw [(C911 _ 4 (by unfold la_W; omega)).1]; exact w.2.1
  · obtain ⟨pl, p1, p2, p3⟩ := row.2.2
    exact ⟨pl, p1, by rw [(W8 _ 1 (by unfold la_W; omega)).1, (k4 _ 1 (by unfold xWc; omega)).1]; exact p2, by rw [(V9 969 _ (by unfold rn_W; omega)).1, (k5 969 _ (by unfold xWr; omega)).1]; exact p3⟩
  · rw [(R1011 968 _ (by unfold rn_W; omega)).1]; exact w8
  · obtain ⟨o1, o2⟩ := w.2.2.2.2
    exact ⟨by rw [(C911 335 _ (by unfold la_W; omega)).1]; exact o1, by rw [(C911 336 _ (by unfold la_W; omega)).1]; exact o2⟩
  · exact k6.own W8 V9 (Nat.le_refl _) (Nat.le_refl _) (Nat.le_refl _) ⟨Nat.le_refl _, Nat.le_refl _⟩ (fun b j y => by unfold la_W at y; omega) (fun b j y => by unfold rn_W at y; omega)
  · refine (k7.base e78.1.symm e78.2.symm).fr (fun b j h1 h2 h3 => (W8 b j (by unfold la_W; omega)).1) (W8 846 7 (by unfold la_W; omega)).1 (W8 846 8 (by unfold la_W; omega)).1 (fun k h1 h2 => ?_)
    have g : ∀ b, (955 ≤ b ∧ b ≤ 962) ∨ b = 1003 → r11.1 b k = r9.1 b k ∧ r11.2.1 b k = r9.2.1 b k := fun b y => ⟨(V9 b k (by unfold rn_W; omega)).1, (V9 b k (by unfold rn_W; omega)).2.1⟩
    exact ⟨(g 955 (by decide)).1, (g 956 (by decide)).1, (g 962 (by decide)).1, (g 1003 (by decide)).1, (g 957 (by decide)).2, (g 958 (by decide)).2, fun _ => (g 961 (by decide)).1⟩
  · rw [(V9 960 _ (by unfold rn_W; omega)).1]; exact k8
  · rw [(W8 356 _ (by unfold la_W; omega)).1]; exact k9
/-- behind its name -/
theorem mm_item2 {c4 r6 : t_S} (M : mo P nt u q m a g t e p l s i st c r) (g5 : nt 1 < 60) (J4 : pj P (u + 1) 1 0 q m c4 r6) (n4 : c4.1 1 8 ≠ 4) (C4 : l2_fr (fun b j => la_W b j ∨ b = 6 ∨ (b = 353 ∧ j = 11) ∨ (b = 364 + nt 1 ∧ j = 1)) c c4) (R4 : l2_fr (fun b j => nk_W b j ∨ (b = 950 ∧ ((31 ≤ j ∧ j ≤ 34) ∨ j = 44)) ∨ (967 ≤ b ∧ b ≤ 969 ∧ j = nt 1)) r r6) (N4 : nt_R (pc_W P) (nt_up nt 1) c4 r6) (z : r6.1 950 32 = 0 ∧ r6.1 950 33 = 0 ∧ r6.1 950 34 = 0) (row : ∃ pl, pl ≤ 12000 ∧ c4.1 (364 + nt 1) 1 = nI pl ∧ r6.1 969 (nt 1) = nI pl) : t_h2 ((f_X2_advance c4).bind (fun r4 => (f_X2_need (61 : Int32) r4).bind (mcC (nt 1)))) (k_X13_item_218 (nI (nt 1)) r6) (mm_tP P nt u q m a g t e p l s i st c r) := by
  have M0 := M
  have C4m : l2_fr mo_Wc c c4 := C4.mono (fun b j y => by unfold mo_Wc; unfold la_W at y; omega)
  have R4m : l2_fr mo_Wr r r6 := R4.mono (fun b j y => by unfold mo_Wr; unfold nk_W rn_W nm_W at y; omega)
  unfold k_X13_item_218
  rw [nI_clamp (n := nt 1) (by omega)]
  refine h2_bb _ (pj_adv J4 (by decide) (Or.inl rfl) n4) (fun c5 r7 hw => ?_)
  obtain ⟨y1, y2, y3⟩ := hw
  have C5 : l2_fr (fun b j => la_W b j ∨ b = 6 ∨ (b = 353 ∧ j = 11) ∨ (b = 364 + nt 1 ∧ j = 1)) c c5 := C4.trans (y1.mono (fun b j y => Or.inl y))
  rcases y3 with J5 | ⟨f, p0, y3, y4⟩
  rotate_left
  · have m5 : mF f p0 c5 := M0.mF y3 (C5 334 2 (by unfold la_W; omega)).1 (C5 845 9 (by unfold la_W; omega)).1 (C5 845 7 (by unfold la_W; omega)).1
    refine h2_sep _ _ (l2_eq (y3.need (by decide)).1 (m5.gC g5)) (l2_bd _ ((pr.xR y4).mustBe _) (fun z hz => hz.ittem _ _)) (fun x y hx hy => ⟨(C4m.trans (mo_la y1)).trans hx.2, (R4m.trans (mo_rn y2)).trans (mo_x hy.2.1), Or.inr ⟨f, p0, hx.1, hy.1⟩⟩)
  refine h2_bb _ (pj_need J5 (by decide) (x := 61) (by decide) rfl) (fun c6 r8 hw => ?_)
  obtain ⟨z1, z2, z3⟩ := hw
  have C6 : l2_fr (fun b j => la_W b j ∨ b = 6 ∨ (b = 353 ∧ j = 11) ∨ (b = 364 + nt 1 ∧ j = 1)) c c6 := C5.trans (z1.mono (fun b j y => Or.inl y))
  have C6m : l2_fr mo_Wc c c6 := (C4m.trans (mo_la y1)).trans (mo_la z1)
  have R8m : l2_fr mo_Wr r r8 := (R4m.trans (mo_rn y2)).trans (mo_rn z2)
  have R68 : l2_fr rn_W r6 r8 := y2.trans z2
  have C46 : l2_fr la_W c4 c6 := y1.trans z1
  rcases z3 with J6 | ⟨f, p0, z3, z4⟩
  rotate_left
  · have m6 : mF f p0 c6 := M0.mF z3 (C6 334 2 (by unfold la_W; omega)).1 (C6 845 9 (by unfold la_W; omega)).1 (C6 845 7 (by unfold la_W; omega)).1
    exact h2_sep _ _ (m6.gC g5) ((pr.xR z4).ittem _ _) (fun x y hx hy => ⟨C6m.trans hx.2, R8m.trans (mo_x hy.2.1), Or.inr ⟨f, p0, hx.1, hy.1⟩⟩)
  unfold mcC
  refine h2_lL (h2_lL (h2_lL ?_))
  have M1 := M
  obtain ⟨J, N, ⟨k1, k2, k3, k4, k5, k6, k7⟩, ⟨v1, v2, v3, v4, v5, v6, v7⟩, ⟨s1, s2, s3⟩, ⟨b1, b2, b3, b4, b5, b6, b7, b8, b9⟩⟩ := M1
  have q1 : (t_setI c6 845 15 1).1 334 2 = nI e := by
    simp only [l2_gI, Nat.reduceEqDiff, reduceIte]
    rw [(C6 334 2 (by unfold la_W; omega)).1]; exact k4
  rw [q1]
  have n845 : ¬ 353 = 364 + nt 1 := by omega
  have q2 : (t_setI (t_setI c6 845 15 1) (364 + nt 1) 2 (nI e)).1 353 9 = nI t := by
    simp only [l2_gI, Nat.reduceEqDiff, reduceIte, if_neg n845]
    rw [(C6 353 9 (by unfold la_W; omega)).1]; exact k3
  rw [q2]
  have n8 : ¬ 845 = 364 + nt 1 := by omega
  have i1 : ¬ (364 + nt 1 = 845) := by omega
  have w15 : (t_setI (t_setI (t_setI c6 845 15 1) (364 + nt 1) 2 (nI e)) (364 + nt 1) 3 (nI t)).1 845 15 = 1 := by
    simp only [l2_gI, if_neg n8, reduceIte]
  have w2 : (t_setI (t_setI (t_setI c6 845 15 1) (364 + nt 1) 2 (nI e)) (364 + nt 1) 3 (nI t)).1 (364 + nt 1) 2 = nI e := by
    simp only [l2_gI, Nat.reduceEqDiff, reduceIte]
  have w3 : (t_setI (t_setI (t_setI c6 845 15 1) (364 + nt 1) 2 (nI e)) (364 + nt 1) 3 (nI t)).1 (364 + nt 1) 3 = nI t := by
    simp only [l2_gI, reduceIte]
  have g : l2_fr (fun b j => (b = 845 ∧ j = 15) ∨ (b = 364 + nt 1 ∧ (j = 2 ∨ j = 3))) c6 (t_setI (t_setI (t_setI c6 845 15 1) (364 + nt 1) 2 (nI e)) (364 + nt 1) 3 (nI t)) := ((l2_fr.set (Or.inl ⟨rfl, rfl⟩)).trans (l2_fr.set (Or.inr ⟨rfl, Or.inl rfl⟩))).trans (l2_fr.set (Or.inr ⟨rfl, Or.inr rfl⟩))
  generalize t_setI (t_setI (t_setI c6 845 15 1) (364 + nt 1) 2 (nI e)) (364 + nt 1) 3 (nI t) = c7 at *
  have J7 : pj P (u + 1 + 1 + 1) 0 0 q m c7 r8 := J6.fr g (l2_fr.rf (W := fun _ _ => False)) (fun j => by omega) (fun b i _ _ => by omega) (fun b i _ _ => by omega) (by omega) (fun j _ y => y) (fun b i _ _ y => y)
  obtain ⟨X7, B7⟩ := mo_xp M (u3 := u + 1 + 1 + 1) (by omega) J7 w15 (fun b j y => by rw [(g b j (by omega)).1, (C6 b j (by unfold la_W; omega)).1]) ⟨by rw [(R68 950 36 (by unfold rn_W; omega)).1, (R4 950 36 (by unfold nk_W rn_W nm_W; omega)).1], by rw [(R68 950 26 (by unfold rn_W; omega)).1, (R4 950 26 (by unfold nk_W rn_W nm_W; omega)).1]⟩ ⟨by rw [(R68 950 32 (by unfold rn_W; omega)).1]; exact z.1, by rw [(R68 950 33 (by unfold rn_W; omega)).1]; exact z.2.1, by rw [(R68 950 34 (by unfold rn_W; omega)).1]; exact z.2.2⟩
  have T : hT_R (R_X6_readBase 250) (R_X13_base 300) 0 := (hA_0 (dd := 0) (by decide) 250 300 (by decide) (by decide)).2
  refine h2_bb _ (show t_h2 (f_X6_readTempl 0 1 c7) (f_X13_templ r8) _ from T P E_t _ _ _ 1 _ _ _ _ _ _ _ _ _ _ _ _ _ X7 B7) (fun x y hxy => ?_)
  have C7 : l2_fr (fun b j => la_W b j ∨ b = 6 ∨ (b = 353 ∧ j = 11) ∨ (b = 364 + nt 1 ∧ 1 ≤ j ∧ j ≤ 3) ∨ (b = 845 ∧ j = 15)) c c7 := (C6.mono (fun b j y => by unfold la_W at y ⊢; omega)).trans (g.mono (fun b j y => by omega))
  have C7m : l2_fr mo_Wc c c7 := C7.mono (fun b j y => by unfold mo_Wc; unfold la_W at y; omega)
  rcases hxy with ⟨n', x1, y1', G⟩ | ⟨f, p0, x1, y1'⟩
  rotate_left
  · exact h2_noR y1'.ne (h2_sep _ _ (x1.me.gE g5) ((pr.xR y1'.1).it250) (fun x y hx hy => ⟨(C7m.trans (mo_xc (x1.2.1.mono (fun b j y => y.sub (Nat.zero_le _) (Nat.zero_le _) (Nat.zero_le _) (Nat.zero_le _) (Nat.le_refl _) (Nat.le_refl _))))).trans hx.2, (R8m.trans (mo_x (y1'.2.1.mono (fun b j y => y.sub (Nat.zero_le _) (Nat.zero_le _))))).trans (mo_x hy.2.1), Or.inr ⟨f, p0, hx.1, hy.1⟩⟩))
  obtain ⟨u', q', m', t', e', p', l', s', i', k1', k2', X, k4', k5', k6', k7', k8', k9'⟩ := G
  obtain ⟨xv, c8⟩ := x
  obtain ⟨yv, r9⟩ := y
  have x1 : xv = nI t := x1
  have y1' : yv = nI n' := y1'
  subst x1 y1'
  have B7' := B7
  unfold xb at B7'
  have K := k1'
  unfold xk at K
  have e2 : c8.1 334 2 = nI e' := X.2.2.2.1
  have e9 : c8.1 353 9 = nI t' := X.2.2.1
  have mle' := X.1.mle (by decide)
  refine h2_ckR X.1.f0.2 (h2_ckR (l2_ix g5 (by decide)) (h2_lR ?_))
  unfold mcE
  refine h2_lL (h2_lL ?_)
  have d9 : (t_setI c8 (364 + nt 1) 0 (nI t)).1 353 9 = nI t' := by
    simp only [l2_gI, if_neg n845]
    exact e9
  show t_h2 (Option.bind (f_X0_emit 0 0 (t_setI (t_setI c8 (364 + nt 1) 0 (nI t)) (364 + nt 1) 4 ((t_setI c8 (364 + nt 1) 0 (nI t)).1 353 9))) _) (k_X13_item_250 (t_setI r9 968 (nt 1) (nI n'))) _
  rw [d9]
  have a1 : l2_fr (fun b j => b = 364 + nt 1 ∧ (j = 0 ∨ j = 4)) c8 (t_setI (t_setI c8 (364 + nt 1) 0 (nI t)) (364 + nt 1) 4 (nI t')) := (l2_fr.set ⟨rfl, Or.inl rfl⟩).trans (l2_fr.set ⟨rfl, Or.inr rfl⟩)
  have a2 : (t_setI (t_setI c8 (364 + nt 1) 0 (nI t)) (364 + nt 1) 4 (nI t')).1 (364 + nt 1) 0 = nI t := by
    simp only [l2_gI, Nat.reduceEqDiff, reduceIte]
  have a3 : (t_setI (t_setI c8 (364 + nt 1) 0 (nI t)) (364 + nt 1) 4 (nI t')).1 (364 + nt 1) 4 = nI t' := by
    simp only [l2_gI, reduceIte]
  generalize t_setI (t_setI c8 (364 + nt 1) 0 (nI t)) (364 + nt 1) 4 (nI t') = c81 at *
  refine h2_bL _ (em_emit 0 0 (show c81.1 334 2 = nI e' by rw [(a1 334 2 (by omega)).1]; exact e2) (by omega)) (fun y hy => h2_lL ?_)
  obtain ⟨_, a4, a5, a6, a7⟩ := hy
  have a8 : l2_fr (fun b j => b = 845 ∧ j = 15) y.2 (t_setI y.2 845 15 0) := l2_fr.set ⟨rfl, rfl⟩
  have a9 : (t_setI y.2 845 15 0).1 845 15 = 0 := by simp only [l2_gI, reduceIte]
  generalize t_setI y.2 845 15 0 = c9 at *
  have fb : l2_fr (fun b j => b = 968 ∧ j = nt 1) r9 (t_setI r9 968 (nt 1) (nI n')) := l2_fr.set ⟨rfl, rfl⟩
  have vb : (t_setI r9 968 (nt 1) (nI n')).1 968 (nt 1) = nI n' := by simp only [l2_gI, reduceIte]
  generalize t_setI r9 968 (nt 1) (nI n') = r10 at *
  have C89 : l2_fr (fun b j => (b = 364 + nt 1 ∧ (j = 0 ∨ j = 4)) ∨ (b = 334 ∧ j = 2) ∨ ((b = 335 ∨ b = 336) ∧ j = e') ∨ (b = 845 ∧ j = 15)) c8 c9 := ((a1.mono (fun b j y => Or.inl y)).trans (a4.mono (fun b j y => by omega))).trans (a8.mono (fun b j y => by omega))
  have J9 : pj P u' 0 0 q' m' c9 r10 := X.1.fr C89 fb (fun j => by omega) (fun b i _ _ => by omega) (fun b i _ _ => by omega) (by omega) (fun j _ => by omega) (fun b i _ _ => by omega)
  unfold k_X13_item_250
  refine h2_bb _ (pj_need J9 (by decide) (x := 59) (by decide) rfl) (fun c11 r11 hw => h2_sm ?_)
  obtain ⟨q1', q3, q4⟩ := hw
  refine ⟨((C7m.trans (mo_xc (k4'.mono (fun b j y => y.sub (Nat.zero_le _) (Nat.zero_le _) (Nat.zero_le _) (Nat.zero_le _) (Nat.le_refl _) (Nat.le_refl _))))).trans (C89.mono (fun b j y => by unfold mo_Wc; omega))).trans (mo_la q1'), ((R8m.trans (mo_x (k5'.mono (fun b j y => y.sub (Nat.zero_le _) (Nat.zero_le _))))).trans (fb.mono (fun b j y => by unfold mo_Wr; omega))).trans (mo_rn q3), ?_⟩
  rcases q4 with J11 | q4
  rotate_left
  · exact Or.inr q4
  refine Or.inl (mm_good M0 g5 (u3 := u + 1 + 1 + 1) (by omega) (Nat.le_of_lt (J7.pmono 3 u rfl (by decide))) (C7.mono (V := mm_Wc (nt 1) t e p l) (fun b j y => ?_)) ((R4.mono (V := mm_Wr (nt 1) m s) (fun b j y => ?_)).trans (R68.mono (V := mm_Wr (nt 1) m s) (fun b j y => Or.inl (x_rn y)))) (N4.fr (C46.trans (l2_fr.rf (W := la_W))) R68 (fun j => by unfold la_W; omega) ⟨by unfold la_W; omega, by unfold la_W; omega, by unfold la_W; omega, by unfold la_W; omega⟩ ⟨by unfold rn_W; omega, by unfold rn_W; omega, by unfold rn_W; omega, by unfold rn_W; omega⟩ (fun b j y => by unfold rn_W; omega) |>.fr g (l2_fr.rf (W := fun _ _ => False)) (fun j => by omega) ⟨by omega, by omega, by omega, by omega⟩ ⟨fun y => y, fun y => y, fun y => y, fun y => y⟩ (fun b j _ y => y)) ⟨(C7 846 7 (by unfold la_W; omega)).1.symm, (C7 846 8 (by unfold la_W; omega)).1.symm⟩ ⟨w2, w3, ?_⟩ k1' k2' X k4' k5' k6' k7' k8' (k9' (by decide)) C89 fb ⟨?_, ?_, ?_, a9, ?_, ?_⟩ vb q1' q3 J11)
  · rcases y with y | y | y | y | y
    · exact Or.inl (x_la y)
    · exact Or.inr (Or.inl y)
    · exact Or.inr (Or.inr (Or.inl y))
    · exact Or.inr (Or.inr (Or.inr (Or.inl ⟨y.1, by omega⟩)))
    · exact Or.inr (Or.inr (Or.inr (Or.inr y)))
  · rcases y with (y | y) | y | y
    · exact Or.inl (x_rn y)
    · exact Or.inl (x_nm y)
    · exact Or.inr (Or.inl y)
    · exact Or.inr (Or.inr y)
  · obtain ⟨pl, p1, p2, p3⟩ := row
    exact ⟨pl, p1, by rw [(g _ 1 (by omega)).1, (C46 _ 1 (by unfold la_W; omega)).1]; exact p2, by rw [(R68 969 _ (by unfold rn_W; omega)).1]; exact p3⟩
  · rw [(a8 _ 0 (by omega)).1, (a4 _ 0 (by omega)).1]; exact a2
  · rw [(a8 _ 4 (by omega)).1, (a4 _ 4 (by omega)).1]; exact a3
  · rw [(a8 334 2 (by omega)).1]; exact a5
  · rw [(a8 335 _ (by omega)).1]; exact a6
  · rw [(a8 336 _ (by omega)).1]; exact a7
end
