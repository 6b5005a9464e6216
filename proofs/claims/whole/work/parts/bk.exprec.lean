/-! Level 2: bases on both sides: { fields := exps }. -/
section
variable {P : pc_S} {E : en_S} {xd x : Int32} {EB PB IB m0 u q m t e p l w o s i dd : Nat} {c0 r0 c r : t_S} {rc rc2 rc3 : RT_X6_readBase} {rR rR3 : RT_X13_base}
theorem xg_turn (hm : m0 < m) (hm3 : m0 ≤ 12999) (hb : xb P EB PB IB u q t e p l w o s i dd) (hod : o + 16 ≤ 16 * dd) (hE : hE_R rc rR dd) (hx : xd + 1 = nI dd) (hB : ∀ x, bC2 (rc.2.2.1 x)) (T : xT rR) : ∀ k x y, xgI P E xd m0 u q m t e p l w o s i dd c0 r0 k x y → t_h2 (b_X6_readExpFields_19 rc x) (b_X13_fieldExps_17 rR y) (h2_nx (b_X6_readExpFields_19 rc) (b_X13_fieldExps_17 rR) (fun x y => ∃ j, j < k ∧ xgI P E xd m0 u q m t e p l w o s i dd c0 r0 j x y) (xgQ P E m0 u q m t e p l w o s i dd c0 r0)) := by
  rintro k x y ⟨v, c, r, hv, rfl, rfl, rfl, h⟩
  rcases h with ⟨M, X, u', q', m', t', e', p', l', s', i', k1, k2, H⟩ | ⟨f, p0, hF, hRR⟩
  rotate_left
  · exact xg_flt (hF.ef19 hv _ _) (l2_imp (hRR.fe17 _ _ _) (fun z hz => Or.inl hz))
  have Y := H.1
  have hmm := H.2.1
  have f0 := Y.1.f0
  have ple := Y.1.ple
  have hb2 := k1.bnd hb
  unfold xb at hb2
  have k1' := k1
  unfold rk at k1'
  obtain ⟨ml, _, _, _⟩ := Y.1.mle (by decide)
  have HH := H
  obtain ⟨_, _, fc, fr, bM, ch, dis, hX, D, Ee, TT, N, bE, bT, hj⟩ := HH
  have fr0 : l2_fr (xWr m0 s) r0 r := fr.mono (fun b j y => by
    rcases y with y | ⟨rfl, rfl⟩
    · exact y.sub (by omega) (Nat.le_refl _)
    · exact Or.inr (Or.inr (Or.inl ⟨by decide, by decide, Nat.le_refl _⟩)))
  show t_h2 (k_X6_readExpFields_19 rc xd (nI o) (nI v) c) (k_X13_fieldExps_17 rR (nI m0) 1 (nI v) r) _
  unfold k_X6_readExpFields_19 k_X13_fieldExps_17
  refine h2_noL (nI_nlt (a := 16) hv (by decide)) (h2_noR (by decide) (h2_ckR f0.2 ?_))
  show t_h2 _ ((f_X13_fieldHere (nI m0) (nI v) 71 r).bind (fxR1 rR m0 v)) _
  unfold f_X13_fieldHere
  refine h2_aR ?_
  by_cases k8 : c.1 1 8 = 1
  rotate_left
  · refine h2_noL k8 (h2_bb _ (pj_noname Y.1 (by decide) k8) (fun c6 y6 hw => ?_))
    obtain ⟨v1, v2, w3⟩ := hw
    obtain ⟨f, p0, q1, q2⟩ := xf.of (o0 := o) (m0 := m0) (s0 := s) Y (by decide) (by omega) (by omega) ⟨Nat.le_refl _, by omega⟩ ⟨by omega, by omega, by omega, by omega⟩ fc fr0 v1 v2 w3 xw.nil
    exact xg_flt (q1.ef87 _ _ _) (l2_bd (fun y => xR P f p0 m0 s r0 y.2) (l2_no q2.ne (q2.fh33 (by omega) _ _ _ _)) (fun y hy => hy.fxR1a T))
  refine h2_ckL k8 (h2_bR _ (pj_name Y.1 k8) (fun y hy => ?_))
  obtain ⟨y0, r1⟩ := y
  obtain ⟨x, hx2, n1, n2, n3, n4⟩ := hy
  have n2 : y0 = nI x := n2
  subst n2
  have n3 : l2_fr nm_W r r1 := n3
  have n4 : pj P u' 1 0 q' m' c r1 := n4
  have ww : f_X2_word c = nI (66 + x) := pj.wd n1
  have fr1 : l2_fr (xWr m0 s) r0 r1 := fr0.trans (n3.mono (fun b j y => x_nm y))
  have Y1 : xp P E u' 1 0 q' m' t' e' p' l' w (o + v) s' i' dd c r1 := Y.fr n4 (l2_fr.rf (W := fun _ _ => False)) n3 (fun b j _ y => y) (fun b i _ _ y => y) (fun j y => by unfold nm_W; omega)
  -- a fault told here
  have flt : ∀ f : Nat, 0 < f ∧ f < 100 → ∀ {F : t_S → Option (Int32 × t_S)}, (∀ f p0 r2, xR P f p0 m0 s r0 r2 → t_hk (F r2) (fun y => xR P f p0 m0 s r0 y.2)) → t_h2 ((f_X2_fail (nI f) c).bind (fun r3 => k_X6_readExpFields_87 rc xd (nI o) (nI v) r3)) (((f_X13_fail (nI f) (r1.1 950 6) r1).bind F).bind (fxR1 rR m0 v)) (h2_nx (b_X6_readExpFields_19 rc) (b_X13_fieldExps_17 rR) (fun x y => ∃ j, j < 17 - v ∧ xgI P E xd m0 u q m t e p l w o s i dd c0 r0 j x y) (xgQ P E m0 u q m t e p l w o s i dd c0 r0)) := by
    intro f hf F hFF
    refine h2_aR (h2_bb _ (pj_fail (f := f) n4 (by decide) hf) (fun c6 r6 hw => ?_))
    obtain ⟨w1, w2, w3⟩ := hw
    obtain ⟨f2, p0, q1, q2⟩ := xf.of (o0 := o) (m0 := m0) (s0 := s) Y1 (by decide) (by omega) (by omega) ⟨Nat.le_refl _, by omega⟩ ⟨by omega, by omega, by omega, by omega⟩ fc fr1 w1 w2 w3 xw.nil
    exact xg_flt (q1.ef87 _ _ _) (l2_bd _ (hFF _ _ _ q2) (fun y hy => hy.fxR1a T))
  have Xs : ∀ j, j < v → X j < 7934 ∧ r1.2.1 957 (M j) = lN (X j) := fun j y => by
    have a := hj j y
    have b := bM.in y
    refine ⟨a.1, ?_⟩
    rw [(n3 957 (M j) (by unfold nm_W; omega)).2.1]
    exact a.2.2.2.1
  have ch1 : ch_R r1 m0 v M := ⟨by rw [(n3 959 m0 (by unfold nm_W; omega)).1]; exact ch.1, fun j y => by rw [(n3 960 _ (by unfold nm_W; omega)).1]; exact ch.2 j y⟩
  rw [ww]
  refine h2_bL _ (xo_has (X := X) Y.2.2.2.2.2.2.2.1 (by omega) hx2 (fun j y => ⟨(Xs j y).1, hX j y⟩)) (fun z hz => ?_)
  have z0 : ((nI x, r1) : Int32 × t_S).2.1 950 2 = 0 := n4.f0.2
  rw [if_pos z0]
  refine h2_aR (h2_bR _ (ch_has (X := X) ch1 (by omega) (by omega) (x := x) (by omega) (fun j y => ⟨by have := (Xs j y).1; omega, (Xs j y).2⟩)) (fun z' hz' => ?_))
  rcases hz with ⟨rfl, j, j1, j2⟩ | ⟨rfl, hn⟩
  · rcases hz' with ⟨rfl, _⟩ | ⟨rfl, hn'⟩
    · refine h2_noL (by decide) ?_
      rw [if_neg (show ¬ (1 : Int32) = 0 by decide)]
      exact flt 3 (by decide) (fun f p0 r2 h => h.fh33 (by omega) _ _ _ _)
    · exact absurd j2 (hn' j j1)
  · rcases hz' with ⟨rfl, j, j1, j2⟩ | ⟨rfl, _⟩
    · exact absurd j2 (hn j j1)
    · refine h2_ckL rfl ?_
      rw [if_pos rfl]
      unfold k_X13_fieldHere_33
      by_cases v16 : v = 16
      · subst v16
        refine h2_ckL rfl ?_
        rw [if_pos (show nI 16 = (16 : Int32) from rfl)]
        exact flt 5 (by decide) (fun f p0 r2 h => h.fh48 (by omega) _ _ _)
      · have n16 : ¬ nI v = 16 := fun y => v16 ((nI_eq (b := 16) (by omega) (by decide)).mp y)
        refine h2_noL n16 ?_
        rw [if_neg n16]
        exact xg_node hm hm3 (by omega) hb hod hE hx hB T k1 k2 H hx2 hn k8 ww n3 n4
/-- the base made of it -/
theorem xg_end {v1 : Nat} {c2 r2 c3 r3 c' r' : t_S} (hb : xb P EB PB IB u q t e p l w o s i dd) (B : bG P E 59 u q m t e p l w o s i dd c r c2 r2) (fc : l2_fr la_W c2 c3) (fr : l2_fr rn_W r2 r3) (hu : u < v1) (J : pj P v1 0 0 (q + 1) (m + 1) c3 r3) (Q : xgQ P E m v1 (q + 1) (m + 1) t e p l w o s i dd c3 r3 c' r') : bO_R P E u q m t e p l w o s i dd c r c' (nI m, r') := by
  have fcB := B.fc
  obtain ⟨hm, hq, X2, g1, g2, d1, d2, d3, d4, d5, d6, d7⟩ := B
  have pm := J.pmono (v1 - u) u (by omega) (by omega)
  have cm := pc_c_mono P u v1 (by omega)
  have fc3 : l2_fr (xWc t e p l w o) c c3 := fcB.1.trans (fc.mono (fun b j y => x_la y))
  have fr3 : l2_fr (xWr m s) r r3 := fcB.2.trans (fr.mono (fun b j y => x_rn y))
  rcases Q with ⟨v, M, X, Ee, T, N, u', q', m', t', e', p', l', s', i', hv, k1, k2, Y, hmm, F1, F2, bM, ch, dis, o1, o2, D, bE, bT, hj⟩ | ⟨f, p0, y1, y2⟩
  rotate_left
  · exact Or.inr ⟨f, p0, y1.sub fc3 (Nat.le_refl _) (Nat.le_refl _) (Nat.le_refl _) (Nat.le_refl _) (Nat.le_refl _), y2.sub fr3 (Nat.le_refl _) (Nat.le_refl _)⟩
  unfold rk at k1
  have q3 : ∀ b, b ≠ 959 → (955 ≤ b ∧ b ≤ 962) ∨ b = 1003 → r'.1 b m = r3.1 b m ∧ r'.2.1 b m = r3.2.1 b m := fun b z1 z2 => ⟨(F2 b m (by unfold rwr xWr; omega)).1, (F2 b m (by unfold rwr xWr; omega)).2.1⟩
  have k5 : r3.1 955 m = nI 59 := by rw [(fr 955 m (by unfold rn_W; omega)).1]; exact d1
  have D1 : xD E c c3 r3 l l i i m (m + 1) := xD.plain (K := 59) k5 (by decide) (by decide) (by rw [(fc 846 7 (by unfold la_W; omega)).1, (g1 846 7 (by omega)).1]) (by rw [(fc 846 8 (by unfold la_W; omega)).1, (g1 846 8 (by omega)).1]) (fun y => by omega)
  refine bO_ok (n := m) (u' := u') (q' := q') (m' := m') (t' := t') (e' := e' + 1 + v) (p' := p') (l' := l') (s' := s') (i' := i') ?_ (by omega) Y (fc3.trans F1) (fr3.trans (F2.mono (fun b j y => ?_))) ?_ ?_ (by rw [(q3 960 (by decide) (by decide)).1, (fr 960 m (by unfold rn_W; omega)).1]; exact d6)
  · unfold xk
    omega
  · rcases y with y | ⟨rfl, rfl⟩
    · exact y.sub (by omega) (Nat.le_refl _)
    · exact Or.inr (Or.inr (Or.inl ⟨by decide, by decide, Nat.le_refl _⟩))
  · rw [show m' - m = (m' - (m + 1)) + 1 by omega]
    refine ⟨by omega, by omega, Nat.le_refl _, by omega, Or.inl ⟨⟨rfl, (by have q0 := hb; unfold xb at q0; omega)⟩, Or.inr (Or.inr (Or.inr (Or.inr (Or.inr (Or.inr (Or.inl ⟨rfl, by rw [(q3 955 (by decide) (by decide)).1]; exact k5, v, Ee, T, M, X, N, hv, by omega, ?_, bT, bM, ?_, ch, dis, fun j hj2 => ?_⟩))))))⟩⟩
    · rw [show e' + 1 + v - 1 - v = e' by omega]; exact bE
    · rw [show e' + 1 + v - 1 - v = e' by omega]; exact o1
    · have z := hj j hj2
      unfold fx_1 at z
      obtain ⟨z1, z2, z3, z4, z5, z6⟩ := z
      refine ⟨z1, ?_, z2, z3, z4, z5, z6⟩
      rw [show e' + 1 + v - v + j = e' + 1 + j by omega]
      exact o2 j hj2
  · exact D1.trans D (by omega) (by omega) (by omega) (fun b a y1 y2 y3 => (F1 b a (by unfold xWc; omega)).1) (fun k y1 y2 => by
      have e : k = m := by omega
      subst e
      exact ⟨(q3 955 (by decide) (by decide)).1, (q3 956 (by decide) (by decide)).1, (q3 962 (by decide) (by decide)).1, (q3 1003 (by decide) (by decide)).1, (q3 957 (by decide) (by decide)).2, (q3 958 (by decide) (by decide)).2, fun _ => (q3 961 (by decide) (by decide)).1⟩)
/-- { fields := exps } -/
theorem bs_rec (hC : ∀ a s, rc.1 a s = m_X6_readBase rc2 a s) (hF : ∀ a s, rc2.2.2.2.1 a s = m_X6_readExpFields rc3 a s) (hFx : ∀ a s, rR.2.2.2.1 a s = m_X13_fieldExps rR3 a s) (hx : x + 1 = nI dd) (hE : hE_R rc3 rR3 dd) (hB : ∀ x, bC2 (rc3.2.2.1 x)) (T : xT rR) (T3 : xT rR3) (X : xp P E u 0 0 q m t e p l w o s i dd c r) (hb : xb P EB PB IB u q t e p l w o s i dd) (hod : o + 16 ≤ 16 * dd) (h : c.1 1 8 = nI 123) : t_h2 (bsC rc x c) (m_X13_base rR r) (bO_R P E u q m t e p l w o s i dd c r) := by
  have hb' := hb
  unfold xb at hb'
  have ple := X.1.ple
  have f0 := X.1.f0
  have b123 : f_X13_is 123 r = 1 := by
    rcases X.1.is (x := 123) (by decide) with ⟨_, b⟩ | ⟨b, _⟩
    · exact b
    · exact absurd h b
  obtain ⟨h5, h9⟩ : r.1 950 5 = 4 ∧ r.1 950 9 = 123 := is_1 b123
  have nis : ∀ x : Int32, x ≠ 123 → f_X13_is x r = 0 := fun x hx => by
    unfold f_X13_is
    rw [if_pos h5, h9, if_neg (fun y => hx y.symm)]
  have eR : m_X13_base rR r = (f_X13_node (nI 59) 1 r).bind (fun r5 => (f_X13_next r5.2).bind (fun r6 => (rR.2.2.2.1 r5.1 r6).bind (fun r7 => some (r5.1, r7)))) := by
    unfold m_X13_base
    rw [if_pos f0.2, h5, if_neg (by decide), if_neg (by decide), if_neg (by decide), nis 40 (by decide), if_pos rfl, b123, if_neg (by decide)]
    unfold k_X13_base_158
    rw [b123, if_neg (by decide)]
    unfold k_X13_base_177
    refine congrArg (Option.bind _) (funext fun r5 => congrArg (Option.bind _) (funext fun r6 => ?_))
    rw [if_neg (by decide)]
  rw [eR]
  have mle := (X.1.mle (by decide)).1
  refine bs_mk X hb (by decide) (fun f p0 j r1 z1 z2 z3 _ _ => ?_) (fun c2 r2 B => ?_)
  · exact l2_bd _ z1.next (fun r2 h2 => l2_bd _ (T.2.2.2.1 _ _ _ _ _ _ _ _ mle h2) (fun r3 h3 => l2_sm h3))
  have B' := B
  have fcB := B.fc
  obtain ⟨hm, hq, X2, g1, g2, d1, d2, d3, d4, d5, d6, d7⟩ := B
  have e8 : c2.1 1 8 = nI 123 := by rw [(g1 1 8 (by omega)).1]; exact h
  rw [hC, mb_0 e8 (by unfold wq_T; decide)]
  unfold k_X6_readBase_82
  rw [if_neg (by decide), if_neg (by decide), if_neg (by decide), if_neg (by decide), if_neg (by decide), if_neg (by decide), if_neg (by decide), if_neg (by decide), if_neg (by decide)]
  unfold k_X6_readBase_326
  refine h2_bb _ (xp_adv X2 (by decide) (Or.inr (by rw [e8]; decide)) (by rw [e8]; decide)) (fun c3 r3 hw => ?_)
  obtain ⟨w1, w2, w3⟩ := hw
  have eC : (rc2.2.2.2.1 x c3).bind (fun r5 => some r5) = (m_X6_readExpFields rc3 x c3).bind (fun v => some v) := by rw [hF]
  rw [if_neg (by decide), if_neg (by decide), if_pos (by decide), eC]
  have fc3 : l2_fr (xWc t e p l w o) c c3 := fcB.1.trans (w1.mono (fun b j y => x_la y))
  have fr3 : l2_fr (xWr m s) r r3 := fcB.2.trans (w2.mono (fun b j y => x_rn y))
  rcases w3 with ⟨X3, l1, l2⟩ | w3
  rotate_left
  · obtain ⟨f, p0, y1, y2⟩ := xf.of (c0 := c) (r0 := r) X2 (by decide) (by omega) (by omega) ⟨Nat.le_refl _, by omega⟩ ⟨Nat.le_refl _, Nat.le_refl _, by omega, Nat.le_refl _⟩ fcB.1 fcB.2 w1 w2 w3 xw.nil
    exact h2_sep _ _ (l2_bd _ (bf_fields rc3 x _ _ _ _ _ _ _ _ _ _ _ y1) (fun z hz => l2_sm hz)) (l2_bd _ (T.2.2.2.1 _ _ _ _ _ _ _ _ mle y2) (fun r3 h3 => l2_sm h3)) (fun z y hz hy => Or.inr ⟨f, p0, hz, hy⟩)
  have k9 : r3.1 959 m = -1 := by rw [(w2 959 m (by unfold rn_W; omega)).1]; exact d5
  have hb3 := hb.go (v := u + 1) (q' := q + 1) (by omega) l2 (by omega)
  rw [hFx]
  have o9 : c3.1 845 9 = nI o := X3.2.2.2.2.2.2.2.1
  unfold m_X6_readExpFields m_X13_fieldExps k_X13_fieldExps_14
  rw [o9]
  rcases X3.1.is (x := 125) (by decide) with ⟨a, b⟩ | ⟨a, b⟩
  rotate_left
  · -- a field at least
    have b : f_X13_is 125 r3 = 0 := b
    have a : c3.1 1 8 ≠ 125 := a
    rw [if_neg a, b, if_pos rfl]
    refine h2_bb _ (h2_lpN (fun k x' y => xgI P E x m (u + 1) (q + 1) (m + 1) t e p l w o s i dd c3 r3 k x' y) (xg_turn (by omega) (by omega) hb3 hod hE hx hB T3) (k := 17) (by decide) ⟨0, c3, r3, by decide, rfl, rfl, rfl, Or.inl ⟨fun _ => m + 1, fun _ => 0, u + 1, q + 1, m + 1, t, e, p, l, s, i, rk.nil, by omega, xg_H.nil X3 k9⟩⟩) (fun c' r' Q => h2_sm ?_)
    exact xg_end hb B' w1 w2 (by omega) X3.1 Q
  -- none
  have b : f_X13_is 125 r3 = 1 := b
  have a : c3.1 1 8 = 125 := a
  rw [if_pos a, b, if_neg (by decide)]
  obtain ⟨c5, r5, e1, e2, Q⟩ := xg_shut (rc := rc3) (m0 := m) (v := 0) hb3 hod (by decide) (fun _ z1 z2 => by unfold rk; omega) (by omega) ⟨Nat.le_refl _, by omega, by omega, Nat.le_refl _⟩ (xg_H.nil X3 k9)
  have e3 : b_X13_fieldExps_17 rR3 (nI m, 0, 0, r3) = some (.inr r5) := by
    show k_X13_fieldExps_17 rR3 (nI m) 0 0 r3 = _
    unfold k_X13_fieldExps_17 k_X13_fieldExps_69
    rw [if_pos rfl, e2]
    rfl
  rw [l2_tnR (y := (nI m, 0, 0, r3)) l2_tn.nil (by decide) e3, e1]
  exact h2_sm (xg_end hb B' w1 w2 (by omega) X3.1 Q)
end
