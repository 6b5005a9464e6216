/-! Level 2: bases on both sides: met ( exp , templ ). -/
section
variable {P : pc_S} {E : en_S} {x : Int32} {EB PB IB u q m t e p l w o s i dd : Nat} {c r : t_S} {rc rc2 rc3 : RT_X6_readBase} {rR rW : RT_X13_base}
noncomputable def mtC2 (rc : RT_X6_readBase) (dd : Nat) (r3 : t_S) : Option t_S := (rc.2.2.2.2.2.2.2.2.2.2.2.2.2.1 (nI dd) (-1000) r3).bind (fun r4 => (f_X0_emit 36 r4.1 r4.2).bind (fun r5 => (f_X2_need (nI 41) r5.2).bind (fun r6 => some r6)))
noncomputable def mtR2 (rW : RT_X13_base) (m : Nat) (r4 : t_S) : Option (Int32 × t_S) := (rW.2.2.2.2.2.2.2.1 r4).bind (fun r5 => (f_X13_hang (nI m) r5.1 r5.2).bind (fun r6 => (f_X13_mustBe 41 r6).bind (fun r7 => some (nI m, r7))))
noncomputable def mtC (rc : RT_X6_readBase) (dd : Nat) (c : t_S) : Option t_S := (f_X2_need 40 c).bind (fun r1 => ((rc.2.2.1 (nI dd) r1).bind (fun r2 => f_X2_need (nI 44) r2.2)).bind (fun r3 => mtC2 rc dd r3))
noncomputable def mtR (rW : RT_X13_base) (m : Nat) (r : t_S) : Option (Int32 × t_S) := (f_X13_mustBe 40 r).bind (fun r1 => ((rW.2.1 r1).bind (fun r2 => (f_X13_hang (nI m) r2.1 r2.2).bind (fun r3 => f_X13_mustBe 44 r3))).bind (fun r4 => mtR2 rW m r4))
theorem xF.mt2 {f p0 w' : Nat} {c0 c1 : t_S} (hT : ∀ x y, bC2 (rc.2.2.2.2.2.2.2.2.2.2.2.2.2.1 x y)) (h : xF f p0 t e p l w o w' c0 c1) : t_hk (mtC2 rc dd c1) (xF f p0 t e p l w o w' c0) := by
  unfold mtC2
  exact l2_bd _ (hT _ _ _ _ _ _ _ _ _ _ _ _ _ h) (fun z hz => l2_bd _ (hz.emit _ _) (fun v hv => l2_eq (hv.1.stay.2.2.1 (nI 41) (by decide)).1 (l2_sm hv.1)))
theorem xF.mt1 {f p0 w' : Nat} {c0 c1 : t_S} (hB : ∀ x, bC2 (rc.2.2.1 x)) (hT : ∀ x y, bC2 (rc.2.2.2.2.2.2.2.2.2.2.2.2.2.1 x y)) (h : xF f p0 t e p l w o w' c0 c1) : t_hk (((rc.2.2.1 (nI dd) c1).bind (fun r2 => f_X2_need (nI 44) r2.2)).bind (fun r3 => mtC2 rc dd r3)) (xF f p0 t e p l w o w' c0) := l2_bd _ (l2_bd _ (hB _ _ _ _ _ _ _ _ _ _ _ _ h) (fun z hz => l2_of (hz.stay.2.2.1 (nI 44) (by decide)).1 hz)) (fun z hz => hz.mt2 hT)
theorem xR.mt2 {f p0 : Nat} {r0 r1 : t_S} (T : xT rW) (h : xR P f p0 m s r0 r1) : t_hk (mtR2 rW m r1) (fun y => xR P f p0 m s r0 y.2) := by
  unfold mtR2
  exact l2_eq (T.1 r1 h.ne).2.2.2 (l2_eq (h.hang _ _) (l2_bd _ (h.mustBe _) (fun r3 h3 => l2_sm h3)))
theorem xR.mt1 {f p0 : Nat} {r0 r1 : t_S} (T : xT rW) (h : xR P f p0 m s r0 r1) : t_hk (((rW.2.1 r1).bind (fun r2 => (f_X13_hang (nI m) r2.1 r2.2).bind (fun r3 => f_X13_mustBe 44 r3))).bind (fun r4 => mtR2 rW m r4)) (fun y => xR P f p0 m s r0 y.2) := l2_bd _ (l2_eq (T.1 r1 h.ne).2.1 (l2_eq (h.hang _ _) (h.mustBe _))) (fun r3 h3 => h3.mt2 T)
/-- behind the comma -/
theorem mt_end {c3 r3 c7 r7 : t_S} (hb : xb P EB PB IB u q t e p l w o s i dd) (hT : hT_R rc rW dd) (HT : ∀ x y, bC2 (rc.2.2.2.2.2.2.2.2.2.2.2.2.2.1 x y)) (T : xT rW) (k5 : r3.1 955 m = nI 61) (hm : m < 12999) (H : bP P E u q m t e p l w o s i dd c r c3 r3 c7 r7) : t_h2 (mtC2 rc dd c7) (mtR2 rW m r7) (bO_R P E u q m t e p l w o s i dd c r) := by
  obtain ⟨n, u', q', m', t', e', p', l', s', i', G1, G2, G3, X7, F1, F2, F3, F4, G4, G5, G6, G7, G8, G9⟩ := H
  have ple7 := X7.1.ple
  have bd := hb.ebound G1 ple7.2.2 ple7.1 ple7.2.1
  have G1' := G1
  unfold xk at G1'
  obtain ⟨n1, n2, n3, n4⟩ := G5.at
  have hb7 : xb P EB PB IB u' q' t' e' p' l' w o s' i' dd := by
    unfold xb at hb ⊢
    omega
  unfold mtC2 mtR2
  refine h2_bb _ (hT P E EB PB IB (-1000) _ _ _ _ _ _ _ _ _ _ _ _ _ X7 hb7) (fun a b hab => ?_)
  rcases hab with ⟨n9, a1, b1, G⟩ | ⟨f, p0, y1, y2⟩
  rotate_left
  · have hF : xF f p0 t e p l w o w c a.2 := y1.sub F1 (by omega) (by omega) (by omega) (by omega) (Nat.le_refl _)
    have hR : xR P f p0 m s r b.2 := y2.sub F2 (by omega) (by omega)
    exact h2_sep _ _ (l2_bd _ (hF.emit _ _) (fun v hv => l2_eq (hv.1.stay.2.2.1 (nI 41) (by decide)).1 (l2_sm hv.1))) (l2_eq (hR.hang _ _) (l2_bd _ (hR.mustBe _) (fun r3 h3 => l2_sm h3))) (fun z y hz hy => Or.inr ⟨f, p0, hz, hy⟩)
  obtain ⟨a0, c9⟩ := a
  obtain ⟨b0, r9⟩ := b
  have a1 : a0 = nI t' := a1
  have b1 : b0 = nI n9 := b1
  subst a1
  subst b1
  obtain ⟨u2, q2, m2, t2, e2, p2, l2, s2, i2, H1, H2, X9, H3, H4, H5, H6, H7, H8⟩ := G
  have H3 : l2_fr (xWc t' e' p' l' w o) c7 c9 := H3
  have H4 : l2_fr (xWr m' s') r7 r9 := H4
  have H7 : r9.1 960 n9 = -1 := H7
  have H1' := H1
  unfold xk at H1'
  obtain ⟨o1, o2, o3, o4⟩ := H5.at
  have ple9 := X9.1.ple
  have bd9 := hb7.ebound H1 ple9.2.2 ple9.1 ple9.2.1
  obtain ⟨ml, m24, ql, qc⟩ := X9.1.mle (by decide)
  -- the class emits
  refine h2_bL _ (em_emit (s := c9) (e := e2) 36 (nI t') X9.2.2.2.1 (by omega)) (fun a ha => ?_)
  obtain ⟨a0, c10⟩ := a
  obtain ⟨_, a2, a3, a4, a5⟩ := ha
  have a2 : l2_fr (fun b j => (b = 334 ∧ j = 2) ∨ ((b = 335 ∨ b = 336) ∧ j = e2)) c9 c10 := a2
  have a3 : c10.1 334 2 = nI (e2 + 1) := a3
  have a4 : c10.1 335 e2 = 36 := a4
  have a5 : c10.1 336 e2 = nI t' := a5
  -- the templ hangs behind the exp
  have hch : ch_R r9 m 1 (fun _ => n) := by
    refine ⟨by rw [(H4 959 m (by unfold xWr; omega)).1, if_pos (by decide)]; exact G4, fun j hj => ⟨show n < 13000 by omega, show m < n by omega, ?_, fun z => by omega⟩⟩
    show r9.1 960 n = _
    rw [(H4 960 n (by unfold xWr; omega)).1, if_neg (by omega)]
    exact G9
  refine h2_bR _ (ch_hang hch (by omega) (by decide) (by omega) X9.1.f0.2 H7 (fun j hj => by omega)) (fun r10 hr => ?_)
  obtain ⟨⟨q9, q10⟩, f6⟩ := hr
  have q9 : r10.1 959 m = nI n := by
    rw [q9, if_pos (by decide)]
    rw [show va_up (fun _ => n) 1 n9 0 = n from mj_up_ne _ _ (by decide)]
  have q0 : r10.1 960 n = nI n9 := by
    have := (q10 0 (by decide)).2.2.1
    rw [if_pos (by decide)] at this
    rw [show va_up (fun _ => n) 1 n9 0 = n from mj_up_ne _ _ (by decide), show va_up (fun _ => n) 1 n9 (0 + 1) = n9 from mj_up_eq _ _ _] at this
    exact this
  have f6 : l2_fr (fun b j => b = 960 ∧ j = n) r9 r10 := f6.mono (fun b j y => by omega)
  have X10 := bO_emit (X9.own (l2_fr.rf (W := fun _ _ => False)) f6 (fun b j y => y.elim) (fun b j y => by omega)) a2 a3
  have fc10 : l2_fr (xWc t e p l w o) c c10 := (F1.trans (H3.mono (fun b j y => y.sub (by omega) (by omega) (by omega) (by omega) (Nat.le_refl _) (Nat.le_refl _)))).trans (a2.mono (fun b j y => by
    rcases y with ⟨rfl, rfl⟩ | ⟨y, rfl⟩
    · exact xWc.i334 (Or.inl rfl)
    · exact xWc.iop y (by omega)))
  have fr10 : l2_fr (xWr m s) r r10 := (F2.trans (H4.mono (fun b j y => y.sub (by omega) (by omega)))).trans (f6.mono (fun b j y => Or.inr (Or.inr (Or.inl ⟨by omega, by omega, by omega⟩))))
  refine h2_bb _ (xp_need X10 (by decide) (x := 41) (by decide) rfl) (fun c11 r11 hw => h2_sm ?_)
  obtain ⟨w1, w2, w3⟩ := hw
  rcases w3 with ⟨X11, l3, l4⟩ | w3
  rotate_left
  · exact Or.inr (xf.of X10 (by decide) (by omega) (by omega) ⟨Nat.le_refl _, by omega⟩ ⟨by omega, Nat.le_refl _, by omega, by omega⟩ fc10 fr10 w1 w2 w3 xw.nil)
  have gc : l2_fr (fun b j => xWc t' e' p' l' w o b j ∨ (b = 334 ∧ j = 2) ∨ ((b = 335 ∨ b = 336) ∧ j = e2)) c7 c11 := ((H3.mono (fun b j y => Or.inl y)).trans (a2.mono (fun b j y => Or.inr y))).trans (w1.mono (fun b j y => Or.inl (x_la y)))
  have gr : l2_fr (fun b j => xWr m' s' b j ∨ (b = 960 ∧ j = n)) r7 r11 := ((H4.mono (fun b j y => Or.inl y)).trans (f6.mono (fun b j y => Or.inr y))).trans (w2.mono (fun b j y => Or.inl (x_rn y)))
  have gc2 : l2_fr (fun b j => la_W b j ∨ (b = 334 ∧ j = 2) ∨ ((b = 335 ∨ b = 336) ∧ j = e2)) c9 c11 := (a2.mono (fun b j y => Or.inr y)).trans (w1.mono (fun b j y => Or.inl y))
  have gr2 : l2_fr (fun b j => rn_W b j ∨ (b = 960 ∧ j = n)) r9 r11 := (f6.mono (fun b j y => Or.inr y)).trans (w2.mono (fun b j y => Or.inl y))
  have k55 : r11.1 955 m = nI 61 := by rw [(gr 955 m (by unfold xWr; omega)).1, G8]; exact k5
  refine bO_ok (n := m) (u' := u2 + 1) (q' := q2) (m' := m2) (t' := t2) (e' := e2 + 1) (p' := p2) (l' := l2) (s' := s2) (i' := i2) ?_ (by omega) X11 (fc10.trans (w1.mono (fun b j y => x_la y))) (fr10.trans (w2.mono (fun b j y => x_rn y))) ?_ ?_ ?_
  · unfold xk
    omega
  · rw [show m2 - m = (m2 - (m + 1)) + 1 by omega]
    refine ⟨by omega, by omega, Nat.le_refl _, by omega, Or.inl ⟨⟨rfl, (by have q0 := hb; unfold xb at q0; omega)⟩, Or.inr (Or.inr (Or.inr (Or.inr (Or.inr (Or.inr (Or.inr ⟨rfl, by omega, k55, e', t', m', n, n9, by omega, by omega, by omega, ?_, ?_, ⟨?_, ?_⟩, ?_, ?_⟩))))))⟩⟩
    · rw [(w2 959 m (by unfold rn_W; omega)).1]; exact q9
    · rw [(w2 960 n (by unfold rn_W; omega)).1]; exact q0
    · rw [(w1 335 _ (by unfold la_W; omega)).1, show e2 + 1 - 1 = e2 by omega]; exact a4
    · rw [(w1 336 _ (by unfold la_W; omega)).1, show e2 + 1 - 1 = e2 by omega]; exact a5
    · exact G5.own gc gr (by omega) (by omega) (by omega) ⟨Nat.le_refl _, by omega⟩ (fun b j y => by unfold xWc at y; omega) (fun b j y => by unfold xWr at y; omega)
    · rw [show e2 + 1 - 1 = e2 by omega]
      exact H5.own gc2 gr2 (Nat.le_refl _) (Nat.le_refl _) (by omega) ⟨by omega, Nat.le_refl _⟩ (fun b j y => by unfold la_W at y; omega) (fun b j y => by unfold rn_W at y; omega)
  · refine (G6.trans H6 (by omega) (by omega) (by omega) (fun b a y1 y2 y3 => (H3 b a (by unfold xWc; omega)).1) (fun k y1 y2 => ?_)).own gc2 gr2 (fun b j y => by unfold la_W at y; omega) (fun b j y => by unfold rn_W at y; omega)
    have q1 : ∀ b, (955 ≤ b ∧ b ≤ 962) ∨ b = 1003 → r9.1 b k = r7.1 b k ∧ r9.2.1 b k = r7.2.1 b k := fun b z => ⟨(H4 b k (by unfold xWr; omega)).1, (H4 b k (by unfold xWr; omega)).2.1⟩
    exact ⟨(q1 955 (by decide)).1, (q1 956 (by decide)).1, (q1 962 (by decide)).1, (q1 1003 (by decide)).1, (q1 957 (by decide)).2, (q1 958 (by decide)).2, fun _ => (q1 961 (by decide)).1⟩
  · rw [(gr 960 m (by unfold xWr; omega)).1]; exact G7
/-- met ( exp , templ ) -/
theorem bs_met (hC : ∀ a s, rc.1 a s = m_X6_readBase rc2 a s) (hM : ∀ a s, rc2.2.2.2.2.2.2.1 a s = m_X6_readMet rc3 a s) (hW : ∀ s, rR.2.2.2.2.2.2.2.2.2.2.1 s = m_X13_wordBase rW s) (T : xT rW) (hE : hE_R rc3 rW dd) (hT : hT_R rc3 rW dd) (hx : x + 1 = nI dd) (hB : ∀ x, bC2 (rc3.2.2.1 x)) (HT : ∀ x y, bC2 (rc3.2.2.2.2.2.2.2.2.2.2.2.2.2.1 x y)) (X : xp P E u 0 0 q m t e p l w o s i dd c r) (hb : xb P EB PB IB u q t e p l w o s i dd) (h : c.1 1 8 = nI (200 + 34)) : t_h2 (bsC rc x c) (m_X13_base rR r) (bO_R P E u q m t e p l w o s i dd c r) := by
  have hb' := hb
  unfold xb at hb'
  refine bs_runs (y := 34) (K := 61) (FC := mtC rc3 dd) (FR := mtR rW m) (by decide) hC hW T X hb h (fun s => ?_) (fun s => ?_) (fun f p0 c1 r1 y1 y2 => ?_) ?_
  · unfold k_X6_readBase_326 mtC
    refine congrArg (Option.bind _) (funext fun r1 => ?_)
    rw [if_neg (by decide), if_neg (by decide), if_neg (by decide), if_pos (by decide), hM]
    unfold m_X6_readMet mtC2
    rw [hx, Option.bind_assoc]
    refine congrArg (Option.bind _) (funext fun r7 => ?_)
    rw [Option.bind_assoc, Option.bind_assoc]
    refine congrArg (Option.bind _) (funext fun r8 => ?_)
    rw [Option.bind_assoc]
    refine congrArg (Option.bind _) (funext fun r9 => ?_)
    rw [Option.bind_assoc]
    refine congrArg (Option.bind _) (funext fun r10 => ?_)
    rw [Option.bind_assoc]
    refine congrArg (Option.bind _) (funext fun r11 => ?_)
    show (Option.bind (f_X2_need 41 r11.2) (fun r6 => some r6)).bind (fun v => some v) = (f_X2_need 41 r11.2).bind (fun r6 => some r6)
    cases f_X2_need 41 r11.2 <;> rfl
  · unfold k_X13_wordBase_199 mtR
    refine congrArg (Option.bind _) (funext fun r1 => ?_)
    rw [if_pos (by decide)]
    unfold k_X13_wordBase_215 k_X13_wordBase_251 mtR2
    refine congrArg (Option.bind _) (funext fun r2 => ?_)
    rw [Option.bind_assoc]
    refine congrArg (Option.bind _) (funext fun r3 => ?_)
    rw [Option.bind_assoc]
    refine congrArg (Option.bind _) (funext fun r4 => ?_)
    rw [if_pos (by decide)]
  · unfold mtC mtR
    exact h2_sep _ _ (l2_eq (y1.stay.2.2.1 40 (by decide)).1 (y1.mt1 hB HT)) (l2_bd _ (y2.mustBe _) (fun r2 h2 => h2.mt1 T)) (fun z y hz hy => Or.inr ⟨f, p0, hz, hy⟩)
  intro c2 r2 c4 r4 B fc fr X4 k8 k1 hL k6 k5 pl1 pl2
  have fcB := B.fc
  have cle := X.1.cle
  have B' := B
  obtain ⟨hm, hq, X2, g1, g2, d1, d2, d3, d4, d5, d6, d7⟩ := B
  have ple := X4.1.ple
  have fc4 : l2_fr (xWc t e p l w o) c c4 := fcB.1.trans (fc.mono (fun b j y => fn_Cx y))
  have fr4 : l2_fr (xWr m s) r r4 := fcB.2.trans (fr.mono (fun b j y => by
    rcases y with y | ⟨y, rfl⟩
    · exact x_rn y
    · exact Or.inr (Or.inr (Or.inl ⟨by omega, by omega, Nat.le_refl _⟩))))
  unfold mtC mtR
  refine h2_bb _ (xp_need X4 (by decide) (x := 40) (by decide) rfl) (fun c5 r5 hw => ?_)
  obtain ⟨w1, w2, w3⟩ := hw
  rcases w3 with ⟨X5, l1, l2⟩ | w3
  rotate_left
  · obtain ⟨f, p0, y1, y2⟩ := xf.of (c0 := c) (r0 := r) X4 (by decide) (by omega) (by omega) ⟨Nat.le_refl _, by omega⟩ ⟨Nat.le_refl _, Nat.le_refl _, by omega, Nat.le_refl _⟩ fc4 fr4 w1 w2 w3 xw.nil
    exact h2_sep _ _ (y1.mt1 hB HT) (y2.mt1 T) (fun z y hz hy => Or.inr ⟨f, p0, hz, hy⟩)
  have k9 : r5.1 959 m = -1 := by rw [(w2 959 m (by unfold rn_W; omega)).1, (fr 959 m (by unfold rn_W; omega)).1]; exact d5
  have fc5 : l2_fr fn_C c2 c5 := fc.trans (w1.mono (fun b j y => Or.inl y))
  have fr5 : l2_fr (fun b j => rn_W b j ∨ ((b = 957 ∨ b = 958 ∨ b = 961) ∧ j = m)) r2 r5 := fr.trans (w2.mono (fun b j y => Or.inl y))
  have k55 : r5.1 955 m = nI 61 := by rw [(w2 955 m (by unfold rn_W; omega)).1]; exact k5
  have D1 : xD E c c5 r5 l l i i m (m + 1) := xD.mk1 (K := 61) (T := fun p => E.2.2.2.1 = 1 ∧ p = pc_p P u) k55 (by decide) ⟨61, by decide, by decide, k55, fun z => absurd z (by decide), fun z => absurd z (by decide), fun _ => ⟨by rw [(w2 958 m (by unfold rn_W; omega)).2.1]; exact k8, _, cle.2.2.2, by rw [(w2 956 m (by unfold rn_W; omega)).1]; exact k6⟩, fun z => absurd z (by decide)⟩ (fun a y1 y2 => by omega) (lt_N.run k55 (by decide) (by rw [(w2 956 m (by unfold rn_W; omega)).1]; exact k6) cle.2.2.2) (fun S hS => (hL S hS).same (w1 846 7 (by unfold la_W; omega)).1 (w1 846 8 (by unfold la_W; omega)).1) (fun z => by omega)
  refine h2_bb _ (bx_one hE X5 (hb.go (v := u + 1 + 1) (by omega) (by omega) (by omega)) k9 (x := 44) (by decide) rfl (by unfold rj_no; decide)) (fun c7 r7 hh => ?_)
  rcases hh with H | ⟨f, p0, y1, y2⟩
  rotate_left
  · have hF : xF f p0 t e p l w o w c c7 := y1.sub (fc4.trans (w1.mono (fun b j y => x_la y))) (Nat.le_refl _) (Nat.le_refl _) (Nat.le_refl _) (Nat.le_refl _) (Nat.le_refl _)
    have hRR : xR P f p0 m s r r7 := y2.sub (fr4.trans (w2.mono (fun b j y => x_rn y))) (Nat.le_refl _) (Nat.le_refl _)
    exact h2_sep _ _ (hF.mt2 HT) (hRR.mt2 T) (fun z y hz hy => Or.inr ⟨f, p0, hz, hy⟩)
  exact mt_end hb hT HT T k55 hm (bP.mk B' fc5 fr5 D1 (by omega) X5.1 H)
end
