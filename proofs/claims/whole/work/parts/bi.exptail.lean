/-! Level 2: records of exps on both sides: what the loop comes to, behind := . -/
def xgQ (P : pc_S) (E : en_S) (m0 u q m t e p l w o s i dd : Nat) (c0 r0 c' r' : t_S) : Prop := (∃ (v : Nat) (M X Ee T N : Nat → Nat) (u' q' m' t' e' p' l' s' i' : Nat), v ≤ 16 ∧ rk P u q t e p l s i u' q' t' e' p' l' s' i' ∧ 2 * e' + 4 * v + 3 * q ≤ 2 * e + 3 * q' ∧ xp P E u' 0 0 q' m' t' (e' + 1 + v) p' l' w o s' i' dd c' r' ∧ m ≤ m' ∧ l2_fr (xWc t e p l w o) c0 c' ∧ l2_fr (rwr m0 m s) r0 r' ∧ px_B v m m' M ∧ ch_R r' m0 v M ∧ (∀ i j, i < j → j < v → X i ≠ X j) ∧ px_o c' e' 32 (nI v) ∧ (∀ j, j < v → px_o c' (e' + 1 + j) 33 (nI (66 + X j))) ∧ xD E c0 c' r' l l' i i' m m' ∧ px_B v e e' Ee ∧ px_B v t t' T ∧ ∀ j, j < v → fx_1 E c' r' l l' p' s' (m' - m) (20 * dd + 15) (Ee j) (Ee (j + 1)) (T j) (T (j + 1)) (M j) (M (j + 1)) (X j) (N j)) ∨ xf P t e p l w o w m0 s c0 r0 c' r'
def xgI (P : pc_S) (E : en_S) (xd : Int32) (m0 u q m t e p l w o s i dd : Nat) (c0 r0 : t_S) (k : Nat) (x : Int32 × Int32 × Int32 × t_S) (y : Int32 × Int32 × Int32 × t_S) : Prop := ∃ (v : Nat) (c r : t_S), v ≤ 16 ∧ k = 17 - v ∧ x = (xd, nI o, nI v, c) ∧ y = (nI m0, 1, nI v, r) ∧ ((∃ (M X : Nat → Nat) (u' q' m' t' e' p' l' s' i' : Nat), rk P u q t e p l s i u' q' t' e' p' l' s' i' ∧ 2 * e' + 4 * v + 3 * q ≤ 2 * e + 3 * q' ∧ xg_H P E m0 m t e p l w o s i dd c0 r0 v M X u' q' m' t' e' p' l' s' i' c r) ∨ xf P t e p l w o w m0 s c0 r0 c r)
section
variable {P : pc_S} {E : en_S} {xd : Int32} {EB PB IB m0 u q m t e p l w o s i dd v u' q' m' t' e' p' l' s' i' : Nat} {M X : Nat → Nat} {c0 r0 c r : t_S} {rc : RT_X6_readBase} {rR : RT_X13_base}
theorem xF.ef163b {f p0 w' : Nat} (h : xF f p0 t e p l w o w' c0 c) : t_hk ((f_X0_emit (32 : Int32) ((c.1 845 9) - nI o) c).bind (fun r2 => t_loop (b_X6_readExpFields_190 rc) t_N (nI o, nI o, r2.2))) (xF f p0 t e p l w o w' c0) := by
  have g := h.ef163 (rc := rc)
  unfold k_X6_readExpFields_163 at g
  rw [(h.stay.2.2.1 125 (by decide)).1, l2_bs] at g
  exact g
theorem xF.ef44 {f p0 w' : Nat} {z : Int32 × t_S} (h : xF f p0 t e p l w o w' c0 z.2) (a b : Int32) : t_hk ((f_X2_take (44 : Int32) z.2).bind (fun (r6 : Int32 × t_S) => ((if r6.1 = (0 : Int32) then ((k_X6_readExpFields_163 rc (nI o) r6.2).map Sum.inr) else (some (.inl (a, nI o, b, r6.2)))) : Option ((Int32 × Int32 × Int32 × t_S) ⊕ t_S)))) (fun y => ∃ r, y = .inr r ∧ xF f p0 t e p l w o w' c0 r) := l2_eq (h.stay.2.2.1 44 (by decide)).2 (l2_ck rfl (xl_inr h.ef163))
noncomputable def fxR1 (rR : RT_X13_base) (m0 v : Nat) (y : Int32 × t_S) : Option ((Int32 × Int32 × Int32 × t_S) ⊕ t_S) := (rR.2.1 y.2).bind (fun r2 => (f_X13_hang y.1 r2.1 r2.2).bind (fun r3 => if (f_X13_is (44 : Int32) r3) = (0 : Int32) then (some (.inl (nI m0, (f_X13_is (44 : Int32) r3), (nI v + 1), r3))) else ((f_X13_next r3).bind (fun r5 => some (.inl (nI m0, (f_X13_is (44 : Int32) r3), (nI v + 1), r5))))))
theorem xR.fxa {f p0 n : Nat} {y : Int32 × t_S} (x : Int32) (h : xR P f p0 m s r0 y.2) : t_hk ((f_X13_hang x y.1 y.2).bind (fun r3 => if (f_X13_is (44 : Int32) r3) = (0 : Int32) then (some (.inl (nI m0, (f_X13_is (44 : Int32) r3), (nI v + 1), r3)) : Option ((Int32 × Int32 × Int32 × t_S) ⊕ t_S)) else ((f_X13_next r3).bind (fun r5 => some (.inl (nI m0, (f_X13_is (44 : Int32) r3), (nI v + 1), r5)))))) (fun z => (∃ r', z = .inr r' ∧ xR P f p0 m s r0 r') ∨ ∃ g1 g2 g3 r', z = .inl (g1, g2, g3, r') ∧ xR P f p0 m s r0 r') := l2_eq (h.hang _ _) (l2_if (fun _ => l2_sm (Or.inr ⟨_, _, _, _, rfl, h⟩)) (fun _ => l2_bd _ h.next (fun r5 h5 => l2_sm (Or.inr ⟨_, _, _, _, rfl, h5⟩))))
theorem xR.fxR1a {f p0 : Nat} {y : Int32 × t_S} (T : xT rR) (h : xR P f p0 m s r0 y.2) : t_hk (fxR1 rR m0 v y) (fun z => (∃ r', z = .inr r' ∧ xR P f p0 m s r0 r') ∨ ∃ g1 g2 g3 r', z = .inl (g1, g2, g3, r') ∧ xR P f p0 m s r0 r') := by
  unfold fxR1
  exact l2_eq (T.1 _ h.ne).2.1 (xR.fxa (n := 0) (y := (0, y.2)) y.1 h)
theorem xg_flt {f p0 k : Nat} {a : Option ((Int32 × Int32 × Int32 × t_S) ⊕ t_S)} {b : Option ((Int32 × Int32 × Int32 × t_S) ⊕ t_S)} (ha : t_hk a (fun y => ∃ r, y = .inr r ∧ xF f p0 t e p l w o w c0 r)) (hb : t_hk b (fun z => (∃ r', z = .inr r' ∧ xR P f p0 m0 s r0 r') ∨ ∃ g1 g2 g3 r', z = .inl (g1, g2, g3, r') ∧ xR P f p0 m0 s r0 r')) : t_h2 a b (h2_nx (b_X6_readExpFields_19 rc) (b_X13_fieldExps_17 rR) (fun x y => ∃ j, j < k ∧ xgI P E xd m0 u q m t e p l w o s i dd c0 r0 j x y) (xgQ P E m0 u q m t e p l w o s i dd c0 r0)) := by
  refine h2_sep _ _ ha hb (fun x y hx hy => ?_)
  obtain ⟨c1, rfl, hF⟩ := hx
  rcases hy with ⟨r1, rfl, hR⟩ | ⟨g1, g2, g3, r1, rfl, hR⟩
  · exact Or.inr ⟨f, p0, hF, hR⟩
  · refine xl_go (l2_imp (hR.fe17 g1 g2 g3) (fun z hz => ?_))
    obtain ⟨r2, rfl, h2⟩ := hz
    exact ⟨r2, rfl, Or.inr ⟨f, p0, hF, h2⟩⟩
/-- behind the bracket that closes -/
theorem xg_close (hv : v ≤ 16) (k1 : rk P u q t e p l s i u' q' t' e' p' l' s' i') (k2 : 2 * e' + 4 * v + 3 * q ≤ 2 * e + 3 * q') (he : e' + 1 + v ≤ 16000) (ho : o + v ≤ 288) (H : xg_H P E m0 m t e p l w o s i dd c0 r0 v M X u' q' m' t' e' p' l' s' i' c r) : t_hk ((f_X0_emit 32 ((c.1 845 9) - nI o) c).bind (fun r2 => t_loop (b_X6_readExpFields_190 rc) t_N (nI o, nI o, r2.2))) (fun c' => xgQ P E m0 u q m t e p l w o s i dd c0 r0 c' r) := by
  obtain ⟨Y, hmm, fc, fr, bM, ch, dis, hX, D, Ee, T, N, bE, bT, hj⟩ := H
  have k1' := k1
  unfold rk at k1'
  refine l2_imp (ef_end Y he ho hX) (fun c' hc => ?_)
  obtain ⟨g, g1, g2, g3, g4⟩ := hc
  have nf : l2_fr (fun _ _ => False) r r := l2_fr.rf
  refine Or.inl ⟨v, M, X, Ee, T, N, u', q', m', t', e', p', l', s', i', hv, k1, k2, ?_, hmm, fc.trans (g.mono (fun b j y => ?_)), fr, bM, ch, dis, g3, g4, D.own g nf (fun b j y => by omega) (fun b j y => y.elim), bE, bT, fun j y => (hj j y).own g nf (Nat.le_refl _) (Nat.le_refl _) (Nat.le_refl _) ⟨Nat.le_refl _, Nat.le_refl _⟩ (fun b k z => ?_) (fun b k z => z.elim)⟩
  · obtain ⟨x1, x2, x3, x4, x5, x6, x7, x8, x9, x10, x11⟩ := Y
    refine ⟨x1.fr g nf (fun j => by omega) (fun b i _ _ => by omega) (fun b i _ _ => by omega) (by omega) (fun j _ y => y) (fun b i _ _ y => y), x2.fr g nf (fun j _ _ => by omega) (fun b i _ _ => by omega) ⟨fun y => y, fun y => y⟩, ?_, g1, ?_, ?_, ?_, g2, x9, x10, x11⟩
    · rw [(g 353 9 (by omega)).1]; exact x3
    · rw [(g 334 4 (by omega)).1]; exact x5
    · rw [(g 846 6 (by omega)).1]; exact x6
    · rw [(g 845 7 (by omega)).1]; exact x7
  · rcases y with ⟨rfl, rfl⟩ | ⟨y, z⟩ | ⟨rfl, rfl⟩
    · exact xWc.i334 (Or.inl rfl)
    · exact xWc.iop y (by omega)
    · exact xWc.i845 (by decide)
  · have d := bE.in (j := j) y
    omega
/-- .. and that bracket -/
theorem xg_shut (hb : xb P EB PB IB u q t e p l w o s i dd) (hod : o + 16 ≤ 16 * dd) (hv : v ≤ 16) (k1 : ∀ z : Nat, pc_p P u' < pc_p P (u' + 1) → pc_c P u' ≤ pc_c P (u' + 1) → rk P u q t e p l s i (u' + 1) q' t' e' p' l' s' i') (k2 : 2 * e' + 4 * v + 3 * q ≤ 2 * e + 3 * q') (k3 : e ≤ e' ∧ m0 ≤ m ∧ m0 ≤ m' ∧ s ≤ s') (H : xg_H P E m0 m t e p l w o s i dd c0 r0 v M X u' q' m' t' e' p' l' s' i' c r) : t_h2 (k_X6_readExpFields_163 rc (nI o) c) (f_X13_mustBe 125 r) (xgQ P E m0 u q m t e p l w o s i dd c0 r0) := by
  have HH := H
  obtain ⟨Y, hmm, fc, fr, _⟩ := HH
  have ple := Y.1.ple
  have hb' := hb
  unfold xb at hb'
  unfold k_X6_readExpFields_163
  have eid : f_X13_mustBe 125 r = (f_X13_mustBe 125 r).bind (fun v => some v) := by cases f_X13_mustBe 125 r <;> rfl
  rw [eid]
  refine h2_bb _ (xp_need Y (by decide) (x := 125) (by decide) rfl) (fun c1 r1 hw => h2_doneR ?_)
  obtain ⟨w1, w2, w3⟩ := hw
  rcases w3 with ⟨Y1, z1, z2⟩ | w3
  · exact xg_close hv (k1 0 z1 z2) k2 (by omega) (by omega) (H.la Y1 w1 w2)
  · obtain ⟨f, p0, y1, y2⟩ := xf.of (o0 := o) (m0 := m0) (s0 := s) Y (by decide) (by omega) (by omega) ⟨Nat.le_refl _, by omega⟩ ⟨k3.1, by omega, k3.2.2.1, k3.2.2.2⟩ fc (fr.mono (fun b j y => by
      rcases y with y | ⟨rfl, rfl⟩
      · exact y.sub k3.2.1 (Nat.le_refl _)
      · exact Or.inr (Or.inr (Or.inl ⟨by decide, by decide, Nat.le_refl _⟩)))) w1 w2 w3 xw.nil
    exact l2_imp y1.ef163b (fun c' hc => Or.inr ⟨f, p0, hc, y2⟩)
/-- behind := : the exp, the comma -/
theorem xg_tail {u2 x pl : Nat} {c3 r3 : t_S} (hm : m0 < m) (hv : v < 16) (hb : xb P EB PB IB u q t e p l w o s i dd) (hod : o + 16 ≤ 16 * dd) (hE : hE_R rc rR dd) (hx : xd + 1 = nI dd) (T : xT rR) (k1 : rk P u q t e p l s i u' q' t' e' p' l' s' i') (k2 : 2 * e' + 4 * v + 3 * q ≤ 2 * e + 3 * q') (H : xg_H P E m0 m t e p l w o s i dd c0 r0 v M X u' q' m' t' e' p' l' s' i' c r) (hx2 : x < 7934) (hne : ∀ j, j < v → X j ≠ x) (hpl : pl ≤ 12000) (hu : pc_p P u' + 2 ≤ pc_p P u2 ∧ pc_c P u' ≤ pc_c P u2 ∧ u' < u2)
    (X3 : xp P E u2 0 0 (q' + 1) (m' + 1) t' e' p' l' w (o + v + 1) s' i' dd c3 r3) (gA : l2_fr (fun b j => la_W b j ∨ (b = 845 ∧ (j = 9 ∨ j = 10)) ∨ (b = 846 ∧ (j = 7 ∨ j = 8)) ∨ (b = 855 ∧ j = o + v)) c c3) (rA : l2_fr (fun b j => rn_W b j ∨ nm_W b j ∨ xn_W m' b j ∨ (b = 1003 ∧ j = m') ∨ (b = 959 ∧ j = m0 ∧ v = 0) ∨ (b = 960 ∧ 0 < v ∧ j = M (v - 1))) r r3)
    (c5 : c3.1 855 (o + v) = nI (66 + x)) (r55 : r3.1 955 m' = 71) (r57 : r3.2.1 957 m' = lN x) (r53 : r3.1 1003 m' = nI pl) (r59 : r3.1 959 m' = -1) (ch3 : ch_R r3 m0 (v + 1) (va_up M v m')) (hL : ∀ S, lt_R c S → lt_R c3 (fun p => S p ∨ (E.2.2.2.2.1 ≤ 66 + x ∧ p = pl))) (fc3 : l2_fr (xWc t e p l w o) c0 c3) (fr3 : l2_fr (xWr m0 s) r0 r3) :
    t_h2 ((rc.2.2.1 (xd + 1) c3).bind (fun r5 => (f_X2_take (44 : Int32) r5.2).bind (fun r6 => if r6.1 = (0 : Int32) then ((k_X6_readExpFields_163 rc (nI o) r6.2).map Sum.inr) else (some (.inl (xd, nI o, (nI v + 1), r6.2)))))) (fxR1 rR m0 v (nI m', r3)) (h2_nx (b_X6_readExpFields_19 rc) (b_X13_fieldExps_17 rR) (fun x y => ∃ j, j < 17 - v ∧ xgI P E xd m0 u q m t e p l w o s i dd c0 r0 j x y) (xgQ P E m0 u q m t e p l w o s i dd c0 r0)) := by
  have hb1 := k1.bnd hb
  have hb2 := hb1
  unfold xb at hb2
  have k1' := k1
  unfold rk at k1'
  have ple := X3.1.ple
  have hmm := H.2.1
  obtain ⟨ml, _, _, _⟩ := X3.1.mle (by decide)
  have hb3 : xb P EB PB IB u2 (q' + 1) t' e' p' l' w (o + v + 1) s' i' dd := by
    unfold xb
    omega
  unfold fxR1
  rw [hx]
  have nv : nI v + 1 = nI (v + 1) := by rw [nI_succ]
  refine h2_bb _ (hE P E EB PB IB _ _ _ _ _ _ _ _ _ _ _ _ _ X3 hb3) (fun a b hab => ?_)
  obtain ⟨a1, ⟨n, b1, hab⟩ | ⟨f, p0, y1, y2⟩⟩ := hab
  rotate_left
  · have hF : xF f p0 t e p l w o w c0 a.2 := y1.sub fc3 (by omega) (by omega) (by omega) (by omega) (by omega)
    have hR' : xR P f p0 m0 s r0 b.2 := y2.sub fr3 (by omega) (by omega)
    exact xg_flt (hF.ef44 _ _) (xR.fxa (n := 0) _ hR')
  obtain ⟨b0, r4⟩ := b
  have b1 : b0 = nI n := b1
  subst b1
  rcases hab with G | ⟨h1, h2, h3, p0, y1, y0⟩
  rotate_left
  · -- a comparison that can't come
    have y0 : rj P p0 (m' + 1) s' r3 r4 := y0
    have h3 : r4.1 960 n = -1 := h3
    have hF : xF 2 p0 t e p l w o w c0 a.2 := y1.sub fc3 (by omega) (by omega) (by omega) (by omega) (by omega)
    have g5 : l2_fr (xWr (m' + 1) s') r3 r4 := by
      obtain ⟨_, _, _, _, g5, _⟩ := y0
      exact g5
    have y2 : rj P p0 m0 s r0 r4 := rj.sub y0 fr3 (by omega) (by omega)
    have ch1 : ch_R r4 m' 0 (fun _ => 0) := ⟨by rw [(g5 959 m' (by unfold xWr; omega)).1, r59, if_neg (by decide)], fun j hj => by omega⟩
    refine h2_bR _ (y2.hang ch1 (by omega) (by omega) (by decide) h2 h3 (fun j hj => by omega)) (fun r6 h6 => ?_)
    rw [h6.is (x := 44) (by unfold rj_no; decide)]
    refine h2_ckR rfl (h2_doneR (l2_imp (hF.ef44 _ _) (fun z hz => ?_)))
    obtain ⟨z1, rfl, hz⟩ := hz
    refine xl_go ?_
    show t_hk (k_X13_fieldExps_17 rR (nI m0) 0 (nI v + 1) r6) _
    unfold k_X13_fieldExps_17 k_X13_fieldExps_69
    exact l2_ck rfl (xl_inr (l2_bd _ (h6.mustBe (x := 125) (by unfold rj_no; decide)) (fun r7 h7 => l2_sm (Or.inr ⟨2, p0, hz, h7⟩))))
  obtain ⟨a0, c4⟩ := a
  refine h2_bR _ (xg_add hm (by omega) (by omega) (by omega) (by omega) (by omega) (by omega) (by omega) H hx2 hne hpl gA rA c5 r55 r57 r53 r59 ch3 hL G) (fun r5 hr => ?_)
  obtain ⟨u5, q5, m5, t5, e5, p5, l5, s5, i5, x1, x2, H5⟩ := hr
  have H5 : xg_H P E m0 m t e p l w o s i dd c0 r0 (v + 1) (va_up M (v + 1) m5) (va_up X v x) u5 q5 m5 t5 e5 p5 l5 s5 i5 c4 r5 := H5
  have X5 := H5.1
  have gr : xk P u q t e p l s i u5 q5 t5 e5 p5 l5 s5 i5 ∧ 2 * e5 + 4 * (v + 1) + 3 * q ≤ 2 * e + 3 * q5 := by
    unfold xk at *
    omega
  obtain ⟨gr, gr4⟩ := gr
  have gr2 := gr
  unfold xk at gr2
  have ple2 := X5.1.ple
  have bd := hb.ebound gr ple2.2.2 ple2.1 ple2.2.1
  have HH := H5
  obtain ⟨_, hmm5, fc5, fr5, _⟩ := HH
  have fr6 : l2_fr (xWr m0 s) r0 r5 := fr5.mono (fun b j y => by
    rcases y with y | ⟨rfl, rfl⟩
    · exact y.sub (by omega) (Nat.le_refl _)
    · exact Or.inr (Or.inr (Or.inl ⟨by decide, by decide, Nat.le_refl _⟩)))
  have flt2 : ∀ {c6 r6 : t_S}, l2_fr la_W c4 c6 → l2_fr rn_W r5 r6 → pf P c6 r6 → xf P t e p l w o w m0 s c0 r0 c6 r6 := fun w1 w2 w3 => xf.of (o0 := o) X5 (by decide) (by omega) (by omega) ⟨Nat.le_refl _, by omega⟩ ⟨by omega, by omega, by omega, by omega⟩ fc5 fr6 w1 w2 w3 xw.nil
  rcases X5.1.is (x := 44) (by decide) with ⟨a, b⟩ | ⟨a, b⟩
  · have b : f_X13_is 44 r5 = 1 := b
    refine h2_noR (by rw [b]; decide) (h2_bb _ (xp_took X5 (by decide) (x := 44) (by decide) a) (fun y r6 hy => ?_))
    obtain ⟨y0, c6⟩ := y
    obtain ⟨y1, y2, y3, y4⟩ := hy
    have y1 : y0 = 1 := y1
    subst y1
    have y2 : l2_fr la_W c4 c6 := y2
    refine h2_noL (show ¬ (1 : Int32) = 0 by decide) (h2_sm ⟨17 - (v + 1), by omega, v + 1, c6, r6, by omega, rfl, ?_, ?_, ?_⟩)
    · show (xd, nI o, nI v + 1, c6) = _
      rw [nv]
    · show (nI m0, f_X13_is 44 r5, nI v + 1, r6) = _
      rw [nv, b]
    · rcases y4 with ⟨X6, z1, z2⟩ | y4
      · exact Or.inl ⟨va_up M (v + 1) m5, va_up X v x, u5 + 1, q5, m5, t5, e5, p5, l5, s5, i5, gr.head z1 z2, gr4, H5.la X6 y2 y3⟩
      · exact Or.inr (flt2 y2 y3 y4)
  · have b : f_X13_is 44 r5 = 0 := b
    refine h2_ckR b (h2_eL (pj_nottook (x := 44) a) (h2_ckL rfl ?_))
    obtain ⟨c6, r6, k8, k9, Q⟩ := xg_shut (rc := rc) hb hod (by omega) (fun _ z1 z2 => gr.head z1 z2) gr4 ⟨by omega, by omega, by omega, by omega⟩ H5
    refine ⟨.inr c6, .inl (nI m0, f_X13_is 44 r5, nI v + 1, r5), ?_, rfl, ?_⟩
    · show (k_X6_readExpFields_163 rc (nI o) c4).map Sum.inr = _
      rw [k8]
      rfl
    · refine xl_go ⟨.inr r6, ?_, r6, rfl, Q⟩
      show k_X13_fieldExps_17 rR (nI m0) (f_X13_is 44 r5) (nI v + 1) r5 = _
      unfold k_X13_fieldExps_17 k_X13_fieldExps_69
      rw [if_pos b, k9]
      rfl
end
