/-! Level 2: behind a base on both sides: [ exp ] -/
section
variable {P : pc_S} {E : en_S} {EB PB IB u q m t e p l w o s i dd n : Nat} {c0 r0 c r : t_S} {rc : RT_X6_readBase} {rR : RT_X13_base}
noncomputable def atR (rR : RT_X13_base) (l4 : Int32) (r : t_S) : Option (Int32 × t_S) := (f_X13_node 69 1 r).bind (fun r1 => (f_X13_next r1.2).bind (fun r2 => (f_X13_hang r1.1 l4 r2).bind (fun r3 => (rR.2.1 r3).bind (fun r4 => (f_X13_hang r1.1 r4.1 r4.2).bind (fun r5 => (f_X13_mustBe 93 r5).bind (fun r6 => some (r1.1, r6)))))))
theorem xF.at2 {f p0 w' : Nat} (h : xF f p0 t e p l w o w' c0 c) : t_hk ((f_X2_need (nI 93) c).bind (fun r5 => (f_X0_emit 15 0 r5).bind (fun r6 => some r6.2))) (xF f p0 t e p l w o w' c0) := l2_eq (h.stay.2.2.1 (nI 93) (by decide)).1 (l2_bd _ (h.emit _ _) (fun v hv => l2_sm hv.1))
theorem xF.at1 {f p0 w' : Nat} (hB : ∀ x, bC2 (rc.2.2.1 x)) (h : xF f p0 t e p l w o w' c0 c) : t_hk ((rc.2.2.1 (nI dd) c).bind (fun r4 => (f_X2_need (nI 93) r4.2).bind (fun r5 => (f_X0_emit 15 0 r5).bind (fun r6 => some r6.2)))) (xF f p0 t e p l w o w' c0) := l2_bd _ (hB _ _ _ _ _ _ _ _ _ _ _ _ h) (fun y hy => hy.at2)
theorem xR.at1 {f p0 : Nat} (hR : ∀ r : t_S, r.1 950 2 ≠ 0 → rR.2.1 r = some (0, r)) (h : xR P f p0 m s r0 r) (x l4 : Int32) : t_hk ((f_X13_hang x l4 r).bind (fun r3 => (rR.2.1 r3).bind (fun r4 => (f_X13_hang x r4.1 r4.2).bind (fun r5 => (f_X13_mustBe 93 r5).bind (fun r6 => some (x, r6)))))) (fun y => xR P f p0 m s r0 y.2) := l2_eq (h.hang _ _) (l2_eq (hR r h.ne) (l2_eq (h.hang _ _) (l2_bd _ (h.mustBe _) (fun z hz => l2_sm hz))))
/-- [ exp ] -/
theorem po_at {v qq : Nat} (hb : xb P EB PB IB u q t e p l w o s i dd) (hE : hE_R rc rR dd) (hB : ∀ x, bC2 (rc.2.2.1 x)) (hR : ∀ r : t_S, r.1 950 2 ≠ 0 → rR.2.1 r = some (0, r)) (hv : v ≤ qq ∧ qq ≤ 3000) (h10 : c.1 845 10 = nI qq) (G : xG P E 0 0 (20 * dd) u q m t e p l w o s i dd c0 r0 n c r) (h : c.1 1 8 = nI 91) : t_h2 (pkC rc dd c) (atR rR (nI n) r) (po_R P E u q m t e p l w o s i dd c0 r0 (v + 1)) := by
  obtain ⟨u', q', m', t', e', p', l', s', i', G1, G2, X, G3, G4, G5, G6, G7, _⟩ := G
  have G1' := G1
  unfold xk at G1'
  obtain ⟨n1, n2, n3, n4⟩ := G5.at
  have ple := X.1.ple
  have cle := X.1.cle
  have bd := hb.ebound G1 ple.2.2 ple.1 ple.2.1
  have qe : qq = q' := by
    have := X.1.mle (by decide)
    exact (nI_eq (by omega) (by omega)).mp (h10.symm.trans this.2.2.2)
  subst qe
  unfold pkC atR
  refine h2_bb _ (xp_node (K := 69) X (by decide) s) (fun c1 y hy => ?_)
  obtain ⟨y0, r1⟩ := y
  rcases hy with ⟨hq, g1, hm, y1, y2, y3, y4, X1⟩ | ⟨g1, f, p0, y1, y2, ⟨j, j1, j2, j3⟩, y4, y5⟩
  rotate_left
  · have j3 : y0 = nI j := j3
    subst j3
    have hF : xF f p0 t e p l w o w c0 c1 := xF.of X (by omega) (by omega) ⟨Nat.le_refl _, by omega⟩ ⟨by omega, Nat.le_refl _⟩ G3 g1 (fun b j z => x_la z) ⟨by unfold la_W; omega, by unfold la_W; omega, by unfold la_W; omega⟩ (fun j => by unfold la_W; omega) y1 xw.nil
    have hRR : xR P f p0 m s r0 r1 := y2.sub G4 (by omega) (Nat.le_refl _)
    exact h2_sep _ _ (l2_eq (hF.stay.2.2.1 46 (by decide)).2 (l2_ck rfl (l2_eq (hF.stay.2.2.1 91 (by decide)).2 (l2_ck rfl (l2_sm hF))))) (l2_bd _ hRR.next (fun r2 h2 => h2.at1 hR _ _)) (fun z y hz hy => Or.inr ⟨f, p0, hz, hy⟩)
  have y1 : y0 = nI m' := y1
  subst y1
  rw [if_neg (by decide)] at X1
  have X1 : xp P E u' 0 1 (qq + 1) (m' + 1) t' e' p' l' w o s' i' dd c1 r1 := X1
  have y2 : l2_fr (xn_W m') r r1 := y2
  have y3 : nd_at r1 m' (nI 69) (r.1 950 6) := y3
  obtain ⟨d1, d2, d3, d4, d5, d6, d7⟩ := y3
  have k8 : c1.1 1 8 = nI 91 := by rw [(g1 1 8 (by omega)).1]; exact h
  have fc1 : l2_fr (xWc t e p l w o) c0 c1 := G3.trans (g1.mono (fun b j y => by obtain ⟨rfl, rfl⟩ := y; exact xWc.i845 (by decide)))
  have fr1 : l2_fr (xWr m s) r0 r1 := G4.trans (y2.mono (fun b j y => (xn_r y).sub (by omega) (Nat.le_refl _)))
  refine h2_eL (pj_nottook (x := 46) (by rw [k8]; decide)) (h2_ckL rfl ?_)
  refine h2_bb _ (xp_took X1 (by decide) (x := 91) (by decide) k8) (fun y r2 hy => ?_)
  obtain ⟨y0, c2⟩ := y
  obtain ⟨a1, a2, a3, a4⟩ := hy
  have a1 : y0 = 1 := a1
  subst a1
  have a2 : l2_fr la_W c1 c2 := a2
  refine h2_noL (show ¬ (1 : Int32) = 0 by decide) ?_
  show t_h2 ((rc.2.2.1 (nI dd) c2).bind _) _ _
  rcases a4 with ⟨X2, l1, l2⟩ | a4
  rotate_left
  · obtain ⟨f, p0, q1, q2⟩ := xf.of (o0 := o) (m0 := m) (s0 := s) X1 (by decide) (by omega) (by omega) ⟨Nat.le_refl _, by omega⟩ ⟨by omega, Nat.le_refl _, by omega, by omega⟩ fc1 fr1 a2 a3 a4 xw.nil
    exact h2_sep _ _ (q1.at1 hB) (q2.at1 hR _ _) (fun z y hz hy => Or.inr ⟨f, p0, hz, hy⟩)
  have X2 : xp P E (u' + 1) 0 0 (qq + 1) (m' + 1) t' e' p' l' w o s' i' dd c2 r2 := X2
  -- the base hangs there
  have r02 : l2_fr (fun b j => xn_W m' b j ∨ rn_W b j) r r2 := (y2.mono (fun b j y => Or.inl y)).trans (a3.mono (fun b j y => Or.inr y))
  have h59 : r2.1 959 m' = -1 := by rw [(a3 959 m' (by unfold rn_W; omega)).1]; exact d5
  have h60 : r2.1 960 n = -1 := by rw [(r02 960 n (by unfold xn_W rn_W; omega)).1]; exact G7
  refine h2_eR (hg_0 (by omega) X2.1.f0.2 h59) ?_
  have f3 : l2_fr (fun b j => b = 959 ∧ j = m') r2 (t_setI r2 959 m' (nI n)) := l2_fr.set ⟨rfl, rfl⟩
  have c9 : (t_setI r2 959 m' (nI n)).1 959 m' = nI n := by simp only [l2_gI, reduceIte]
  generalize t_setI r2 959 m' (nI n) = r3 at *
  have X3 := X2.own (l2_fr.rf (W := fun _ _ => False)) f3 (fun b j y => y.elim) (fun b j y => by omega)
  have fc2 : l2_fr (xWc t e p l w o) c0 c2 := fc1.trans (a2.mono (fun b j y => x_la y))
  have fr3 : l2_fr (xWr m s) r0 r3 := (fr1.trans (a3.mono (fun b j y => x_rn y))).trans (f3.mono (fun b j y => Or.inr (Or.inr (Or.inl ⟨by omega, by omega, by omega⟩))))
  have hb3 : xb P EB PB IB (u' + 1) (qq + 1) t' e' p' l' w o s' i' dd := by
    unfold xb at hb ⊢
    omega
  refine h2_bb _ (hE P E EB PB IB _ _ _ _ _ _ _ _ _ _ _ _ _ X3 hb3) (fun a b hab => ?_)
  obtain ⟨z1, ⟨n9, b1, hab⟩ | ⟨f, p0, q1, q2⟩⟩ := hab
  rotate_left
  · have hF : xF f p0 t e p l w o w c0 a.2 := q1.sub fc2 (by omega) (by omega) (by omega) (by omega) (Nat.le_refl _)
    have hRR : xR P f p0 m s r0 b.2 := q2.sub fr3 (by omega) (by omega)
    exact h2_sep _ _ hF.at2 (l2_eq (hRR.hang _ _) (l2_bd _ (hRR.mustBe _) (fun z hz => l2_sm hz))) (fun z y hz hy => Or.inr ⟨f, p0, hz, hy⟩)
  obtain ⟨b0, r9⟩ := b
  have b1 : b0 = nI n9 := b1
  subst b1
  obtain ⟨a0, c9'⟩ := a
  rcases hab with G9 | ⟨h1, h2, h3, p0, y1, y0⟩
  rotate_left
  · -- a comparison that can't come
    have y0 : rj P p0 (m' + 1) s' r3 r9 := y0
    have hF : xF 2 p0 t e p l w o w c0 c9' := y1.sub fc2 (by omega) (by omega) (by omega) (by omega) (Nat.le_refl _)
    have g5 : l2_fr (xWr (m' + 1) s') r3 r9 ∧ r9.1 950 2 = 0 := by
      obtain ⟨z0, _, _, _, g5, _⟩ := y0
      exact ⟨g5, z0⟩
    have y2' : rj P p0 m s r0 r9 := rj.sub y0 fr3 (by omega) (by omega)
    have j9 : r9.1 959 m' = nI n := by rw [(g5.1 959 m' (by unfold xWr; omega)).1]; exact c9
    have j0 : r9.1 960 n = -1 := by rw [(g5.1 960 n (by unfold xWr; omega)).1, (f3 960 n (by omega)).1]; exact h60
    refine h2_eR (hg_1 (by omega) (by omega) g5.2 j9 j0) ?_
    have f6 : l2_fr (fun b j => b = 960 ∧ j = n) r9 (t_setI r9 960 n (nI n9)) := l2_fr.set ⟨rfl, rfl⟩
    have y6 := y2'.fr f6 (fun b j y => Or.inl ⟨by omega, by omega, by omega⟩)
    exact h2_sep _ _ hF.at2 (l2_bd _ (y6.mustBe (x := 93) (by unfold rj_no; decide)) (fun z hz => l2_sm hz)) (fun z y hz hy => Or.inr ⟨2, p0, hz, hy⟩)
  obtain ⟨u2, q2, m2, t2, e2, p2, l2', s2, i2, H1, H2, X9, H3, H4, H5, H6, H7, _⟩ := G9
  have X9 : xp P E u2 0 0 q2 m2 t2 e2 p2 l2' w o s2 i2 dd c9' r9 := X9
  have H3 : l2_fr (xWc t' e' p' l' w o) c2 c9' := H3
  have H4 : l2_fr (xWr (m' + 1) s') r3 r9 := H4
  have H7 : r9.1 960 n9 = -1 := H7
  have H1' := H1
  unfold xk at H1'
  obtain ⟨o1, o2, o3, o4⟩ := H5.at
  have ple9 := X9.1.ple
  have bd9 := hb3.ebound H1 ple9.2.2 ple9.1 ple9.2.1
  obtain ⟨ml, m24, ql, qc⟩ := X9.1.mle (by decide)
  have j9 : r9.1 959 m' = nI n := by rw [(H4 959 m' (by unfold xWr; omega)).1]; exact c9
  have j0 : r9.1 960 n = -1 := by rw [(H4 960 n (by unfold xWr; omega)).1, (f3 960 n (by omega)).1]; exact h60
  refine h2_eR (hg_1 (by omega) (by omega) X9.1.f0.2 j9 j0) ?_
  have f6 : l2_fr (fun b j => b = 960 ∧ j = n) r9 (t_setI r9 960 n (nI n9)) := l2_fr.set ⟨rfl, rfl⟩
  have q0 : (t_setI r9 960 n (nI n9)).1 960 n = nI n9 := by simp only [l2_gI, reduceIte]
  generalize t_setI r9 960 n (nI n9) = r10 at *
  have X10 := X9.own (l2_fr.rf (W := fun _ _ => False)) f6 (fun b j y => y.elim) (fun b j y => by omega)
  have fc9 : l2_fr (xWc t e p l w o) c0 c9' := fc2.trans (H3.mono (fun b j y => y.sub (by omega) (by omega) (by omega) (by omega) (Nat.le_refl _) (Nat.le_refl _)))
  have fr10 : l2_fr (xWr m s) r0 r10 := (fr3.trans (H4.mono (fun b j y => y.sub (by omega) (by omega)))).trans (f6.mono (fun b j y => Or.inr (Or.inr (Or.inl ⟨by omega, by omega, by omega⟩))))
  refine h2_bb _ (xp_need X10 (by decide) (x := 93) (by decide) rfl) (fun c11 r11 hw => ?_)
  obtain ⟨w1, w2, w3⟩ := hw
  rcases w3 with ⟨X11, l3, l4⟩ | w3
  rotate_left
  · obtain ⟨f, p0, q1, q2⟩ := xf.of (o0 := o) (m0 := m) (s0 := s) X10 (by decide) (by omega) (by omega) ⟨Nat.le_refl _, by omega⟩ ⟨by omega, Nat.le_refl _, by omega, by omega⟩ fc9 fr10 w1 w2 w3 xw.nil
    exact h2_doneR (l2_bd _ (q1.emit _ _) (fun z hz => l2_sm (Or.inr ⟨f, p0, hz.1, q2⟩)))
  refine h2_bL _ (em_emit (s := c11) (e := e2) 15 0 X11.2.2.2.1 (by omega)) (fun a ha => h2_sm ?_)
  obtain ⟨a0, c12⟩ := a
  obtain ⟨_, v2, v3, v4, v5⟩ := ha
  have v2 : l2_fr (fun b j => (b = 334 ∧ j = 2) ∨ ((b = 335 ∨ b = 336) ∧ j = e2)) c11 c12 := v2
  have v3 : c12.1 334 2 = nI (e2 + 1) := v3
  have v4 : c12.1 335 e2 = 15 := v4
  have v5 : c12.1 336 e2 = 0 := v5
  show po_R P E u q m t e p l w o s i dd c0 r0 (v + 1) c12 (nI m', r11)
  have X12 := bO_emit X11 v2 v3
  have gc : l2_fr (fun b j => (b = 845 ∧ j = 10) ∨ la_W b j ∨ xWc t' e' p' l' w o b j ∨ (b = 334 ∧ j = 2) ∨ ((b = 335 ∨ b = 336) ∧ j = e2)) c c12 := ((((g1.mono (fun b j y => Or.inl y)).trans (a2.mono (fun b j y => Or.inr (Or.inl y)))).trans (H3.mono (fun b j y => Or.inr (Or.inr (Or.inl y))))).trans (w1.mono (fun b j y => Or.inr (Or.inl y)))).trans (v2.mono (fun b j y => Or.inr (Or.inr (Or.inr y))))
  have gr : l2_fr (fun b j => xn_W m' b j ∨ rn_W b j ∨ (b = 959 ∧ j = m') ∨ xWr (m' + 1) s' b j ∨ (b = 960 ∧ j = n)) r r11 := (((((y2.mono (fun b j y => Or.inl y)).trans (a3.mono (fun b j y => Or.inr (Or.inl y)))).trans (f3.mono (fun b j y => Or.inr (Or.inr (Or.inl y))))).trans (H4.mono (fun b j y => Or.inr (Or.inr (Or.inr (Or.inl y)))))).trans (f6.mono (fun b j y => Or.inr (Or.inr (Or.inr (Or.inr y)))))).trans (w2.mono (fun b j y => Or.inr (Or.inl y)))
  have gc2 : l2_fr (fun b j => la_W b j ∨ (b = 334 ∧ j = 2) ∨ ((b = 335 ∨ b = 336) ∧ j = e2)) c9' c12 := (w1.mono (fun b j y => Or.inl y)).trans (v2.mono (fun b j y => Or.inr y))
  have gr2 : l2_fr (fun b j => rn_W b j ∨ (b = 960 ∧ j = n)) r9 r11 := (f6.mono (fun b j y => Or.inr y)).trans (w2.mono (fun b j y => Or.inl y))
  have q3 : ∀ b, b = 955 ∨ b = 956 ∨ b = 960 ∨ b = 961 → r11.1 b m' = r1.1 b m' := fun b y => by rw [(gr2 b m' (by unfold rn_W; omega)).1, (H4 b m' (by unfold xWr; omega)).1, (f3 b m' (by omega)).1, (a3 b m' (by unfold rn_W; omega)).1]
  have k55 : r11.1 955 m' = nI 69 := by rw [q3 955 (by decide)]; exact d1
  have k59 : r11.1 959 m' = nI n := by rw [(gr2 959 m' (by unfold rn_W; omega)).1]; exact j9
  have k60 : r11.1 960 n = nI n9 := by rw [(w2 960 n (by unfold rn_W; omega)).1]; exact q0
  have k10 : c12.1 845 10 = nI q2 := (X12.1.mle (by decide)).2.2.2
  have q5 : q2 ≤ 3000 := (X12.1.mle (by decide)).2.2.1
  have d3t : r3.1 955 m' = nI 69 := by rw [(f3 955 m' (by omega)).1, (a3 955 m' (by unfold rn_W; omega)).1]; exact d1
  have dD1 : xD E c c2 r3 l' l' i' i' m' (m' + 1) := xD.plain (K := 69) d3t (by decide) (by decide) (by rw [(a2 846 7 (by unfold la_W; omega)).1, (g1 846 7 (by omega)).1]) (by rw [(a2 846 8 (by unfold la_W; omega)).1, (g1 846 8 (by omega)).1]) (fun y => by omega)
  have r03 : l2_fr (fun b j => xn_W m' b j ∨ rn_W b j ∨ (b = 959 ∧ j = m')) r r3 := (r02.mono (fun b j y => y.elim Or.inl (fun z => Or.inr (Or.inl z)))).trans (f3.mono (fun b j y => Or.inr (Or.inr y)))
  have dD2 : xD E c0 c2 r3 l l' i i' m (m' + 1) := G6.trans dD1 (by omega) (by omega) (by omega) (fun b a y1 y2 y3 => by rw [(a2 b a (by unfold la_W; omega)).1, (g1 b a (by omega)).1]) (fun k y1 y2 => by
      have q1 : ∀ b, (955 ≤ b ∧ b ≤ 962) ∨ b = 1003 → r3.1 b k = r.1 b k ∧ r3.2.1 b k = r.2.1 b k := fun b z => ⟨(r03 b k (by unfold xn_W rn_W; omega)).1, (r03 b k (by unfold xn_W rn_W; omega)).2.1⟩
      exact ⟨(q1 955 (by decide)).1, (q1 956 (by decide)).1, (q1 962 (by decide)).1, (q1 1003 (by decide)).1, (q1 957 (by decide)).2, (q1 958 (by decide)).2, fun _ => (q1 961 (by decide)).1⟩)
  have dD3 : xD E c0 c9' r9 l l2' i i2 m m2 := dD2.trans H6 (by omega) (by omega) (by omega) (fun b a y1 y2 y3 => (H3 b a (by unfold xWc; omega)).1) (fun k y1 y2 => by
      have q1 : ∀ b, (955 ≤ b ∧ b ≤ 962) ∨ b = 1003 → r9.1 b k = r3.1 b k ∧ r9.2.1 b k = r3.2.1 b k := fun b z => ⟨(H4 b k (by unfold xWr; omega)).1, (H4 b k (by unfold xWr; omega)).2.1⟩
      exact ⟨(q1 955 (by decide)).1, (q1 956 (by decide)).1, (q1 962 (by decide)).1, (q1 1003 (by decide)).1, (q1 957 (by decide)).2, (q1 958 (by decide)).2, fun _ => (q1 961 (by decide)).1⟩)
  refine Or.inl ⟨m', q2, rfl, by omega, q5, k10, u2 + 1, q2, m2, t2, e2 + 1, p2, l2', s2, i2, ?_, by omega, X12, ?_, ?_, ?_, dD3.own gc2 gr2 (fun b j y => by unfold la_W at y; omega) (fun b j y => by unfold rn_W at y; omega), ?_, fun y => absurd rfl y⟩
  · unfold xk
    omega
  · exact G3.trans (gc.mono (fun b j y => by
      rcases y with ⟨rfl, rfl⟩ | y | y | ⟨rfl, rfl⟩ | ⟨y, rfl⟩
      · exact xWc.i845 (by decide)
      · exact x_la y
      · exact y.sub (by omega) (by omega) (by omega) (by omega) (Nat.le_refl _) (Nat.le_refl _)
      · exact xWc.i334 (Or.inl rfl)
      · exact xWc.iop y (by omega)))
  · exact G4.trans (gr.mono (fun b j y => by
      rcases y with y | y | ⟨rfl, rfl⟩ | y | ⟨rfl, rfl⟩
      · exact (xn_r y).sub (by omega) (Nat.le_refl _)
      · exact x_rn y
      · exact Or.inr (Or.inr (Or.inl ⟨by decide, by decide, by omega⟩))
      · exact y.sub (by omega) (by omega)
      · exact Or.inr (Or.inr (Or.inl ⟨by decide, by decide, by omega⟩))))
  · rw [show m2 - m = (m2 - m - 1) + 1 by omega]
    refine ⟨by omega, by omega, by omega, by omega, Or.inl ⟨⟨rfl, (by have q0 := hb; unfold xb at q0; omega)⟩, Or.inr (Or.inr (Or.inr (Or.inr (Or.inl ⟨by omega, e', t', n, n9, by omega, k59, k60, ?_, Or.inl ⟨k55, ⟨?_, ?_⟩, ?_⟩⟩))))⟩⟩
    · exact G5.own gc gr (by omega) (by omega) (by omega) ⟨Nat.le_refl _, by omega⟩ (fun b j y => by unfold la_W xWc at y; omega) (fun b j y => by unfold xn_W rn_W xWr at y; omega)
    · rw [show e2 + 1 - 1 = e2 by omega]; exact v4
    · rw [show e2 + 1 - 1 = e2 by omega]; exact v5
    · rw [show e2 + 1 - 1 = e2 by omega]
      exact H5.own gc2 gr2 (Nat.le_refl _) (Nat.le_refl _) (by omega) ⟨by omega, Nat.le_refl _⟩ (fun b j y => by unfold la_W at y; omega) (fun b j y => by unfold rn_W at y; omega)
  · show r11.1 960 m' = -1
    rw [q3 960 (by decide)]; exact d6
end
