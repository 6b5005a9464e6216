/-! Level 2: bases on both sides: [ exps ]. -/
section
variable {P : pc_S} {E : en_S} {x : Int32} {EB PB IB u q m t e p l w o s i dd : Nat} {c r : t_S} {rc rc2 rc3 rc4 rc5 : RT_X6_readBase} {rR rR3 : RT_X13_base}
noncomputable def elC (rc : RT_X6_readBase) (dd : Nat) (c : t_S) : Option t_S := if (c.1 1 8) = (93 : Int32) then k_X6_readElements_23 rc 0 c else (rc.2.2.2.2.1 (nI dd) c).bind (fun r1 => k_X6_readElements_23 rc r1.1 r1.2)
noncomputable def elR (rR : RT_X13_base) (n : Int32) (r : t_S) : Option (Int32 × t_S) := if f_X13_is 93 r = 0 then (rR.2.2.1 n r).bind (fun r4 => k_X13_base_212 rR n r4) else k_X13_base_212 rR n r
theorem xF.el1 {f p0 w' : Nat} {c0 c1 : t_S} (hB : ∀ x, bC2 (rc.2.2.2.2.1 x)) (h : xF f p0 t e p l w o w' c0 c1) : t_hk (elC rc dd c1) (xF f p0 t e p l w o w' c0) := by
  unfold elC
  exact l2_no (by rw [h.stay.2.2.2.1]; decide) (l2_bd _ (hB _ _ _ _ _ _ _ _ _ _ _ _ h) (fun y hy => xF.elem23 hy _))
theorem xR.el212 {f p0 : Nat} {r0 r1 : t_S} {n : Int32} (h : xR P f p0 m s r0 r1) : t_hk (k_X13_base_212 rR n r1) (fun y => xR P f p0 m s r0 y.2) := by
  unfold k_X13_base_212
  exact l2_bd _ (h.mustBe _) (fun r2 h2 => l2_sm h2)
theorem xR.el1 {f p0 : Nat} {r0 r1 : t_S} {n : Int32} (T : xT rR) (hm : m ≤ 12999) (h : xR P f p0 m s r0 r1) : t_hk (elR rR n r1) (fun y => xR P f p0 m s r0 y.2) := by
  unfold elR
  exact l2_if (fun _ => l2_bd _ (T.2.2.1 n _ _ _ _ _ _ _ hm h) (fun r2 h2 => h2.el212)) (fun _ => h.el212)
/-- behind the bracket that closes -/
theorem el_end {v v1 u' q' m' t' e' p' l' s' i' : Nat} {c2 r2 c3 r3 c' r' : t_S} (hb : xb P EB PB IB u q t e p l w o s i dd) (B : bG P E 60 u q m t e p l w o s i dd c r c2 r2) (fc : l2_fr la_W c2 c3) (fr : l2_fr rn_W r2 r3) (hu : u < v1) (J : pj P v1 0 0 (q + 1) (m + 1) c3 r3) (hv : v ≤ 12) (k1 : rk P v1 (q + 1) t e p l s i u' q' t' e' p' l' s' i') (H : xe_H P E m (m + 1) t e p l w o s i dd c3 r3 v u' q' m' t' e' p' l' s' i' c' r') : t_hk (f_X0_emit 31 (nI v) c') (fun y => bO_R P E u q m t e p l w o s i dd c r y.2 (nI m, r')) := by
  have fcB := B.fc
  obtain ⟨hm, hq, X2, g1, g2, d1, d2, d3, d4, d5, d6, d7⟩ := B
  have pm := J.pmono (v1 - u) u (by omega) (by omega)
  have cm := pc_c_mono P u v1 (by omega)
  obtain ⟨X, hmm, F1, F2, D, Ee, T, M, GG, bE, bT, bM, ch, hj⟩ := H
  unfold rk at k1
  have ple := X.1.ple
  have hb' := hb
  unfold xb at hb'
  have f1c : l2_fr (xWc t e p l w o) c c' := (fcB.1.trans (fc.mono (fun b j y => x_la y))).trans F1
  have f1r : l2_fr (xWr m s) r r' := (fcB.2.trans (fr.mono (fun b j y => x_rn y))).trans (F2.mono (fun b j y => by
    rcases y with y | ⟨rfl, rfl⟩
    · exact y.sub (by omega) (Nat.le_refl _)
    · exact Or.inr (Or.inr (Or.inl ⟨by decide, by decide, Nat.le_refl _⟩))))
  refine l2_imp (em_emit (s := c') (e := e') 31 (nI v) X.2.2.2.1 (by omega)) (fun a ha => ?_)
  obtain ⟨a0, c8⟩ := a
  obtain ⟨_, a2, a3, a4, a5⟩ := ha
  have a2 : l2_fr (fun b j => (b = 334 ∧ j = 2) ∨ ((b = 335 ∨ b = 336) ∧ j = e')) c' c8 := a2
  have a3 : c8.1 334 2 = nI (e' + 1) := a3
  have a4 : c8.1 335 e' = 31 := a4
  have a5 : c8.1 336 e' = nI v := a5
  show bO_R P E u q m t e p l w o s i dd c r c8 (nI m, r')
  have k5 : r3.1 955 m = nI 60 := by rw [(fr 955 m (by unfold rn_W; omega)).1]; exact d1
  have D1 : xD E c c3 r3 l l i i m (m + 1) := xD.plain (K := 60) k5 (by decide) (by decide) (by rw [(fc 846 7 (by unfold la_W; omega)).1, (g1 846 7 (by omega)).1]) (by rw [(fc 846 8 (by unfold la_W; omega)).1, (g1 846 8 (by omega)).1]) (fun y => by omega)
  have q3 : ∀ b, b ≠ 959 → (955 ≤ b ∧ b ≤ 962) ∨ b = 1003 → r'.1 b m = r3.1 b m ∧ r'.2.1 b m = r3.2.1 b m := fun b z1 z2 => ⟨(F2 b m (by unfold rwr xWr; omega)).1, (F2 b m (by unfold rwr xWr; omega)).2.1⟩
  have nf : l2_fr (fun _ _ => False) r' r' := l2_fr.rf
  refine bO_ok (n := m) (u' := u') (q' := q') (m' := m') (t' := t') (e' := e' + 1) (p' := p') (l' := l') (s' := s') (i' := i') ?_ (by omega) (bO_emit X a2 a3) (f1c.trans (a2.mono (fun b j y => ?_))) f1r ?_ ?_ (by rw [(q3 960 (by decide) (by decide)).1, (fr 960 m (by unfold rn_W; omega)).1]; exact d6)
  · unfold xk
    omega
  · rcases y with ⟨rfl, rfl⟩ | ⟨y, rfl⟩
    · exact xWc.i334 (Or.inl rfl)
    · exact xWc.iop y (by omega)
  · rw [show m' - m = (m' - (m + 1)) + 1 by omega]
    refine ⟨by omega, by omega, Nat.le_refl _, by omega, Or.inl ⟨⟨rfl, (by have q0 := hb; unfold xb at q0; omega)⟩, Or.inr (Or.inr (Or.inr (Or.inr (Or.inr (Or.inl ⟨rfl, by omega, by rw [(q3 955 (by decide) (by decide)).1]; exact k5, v, Ee, T, M, GG, hv, ?_, bT, bM, ?_, ch, fun j hj2 => ?_⟩)))))⟩⟩
    · rw [show e' + 1 - 1 = e' by omega]; exact bE
    · rw [show e' + 1 - 1 = e' by omega]; exact ⟨a4, a5⟩
    · have d := bE.in (j := j) hj2
      exact (hj j hj2).own a2 nf (Nat.le_refl _) (Nat.le_refl _) (Nat.le_refl _) ⟨Nat.le_refl _, Nat.le_refl _⟩ (fun b k y => by omega) (fun b k y => y.elim)
  · refine (D1.trans D (by omega) (by omega) (by omega) (fun b a y1 y2 y3 => (F1 b a (by unfold xWc; omega)).1) (fun k y1 y2 => ?_)).own a2 nf (fun b j y => by omega) (fun b j y => y.elim)
    have e : k = m := by omega
    subst e
    exact ⟨(q3 955 (by decide) (by decide)).1, (q3 956 (by decide) (by decide)).1, (q3 962 (by decide) (by decide)).1, (q3 1003 (by decide) (by decide)).1, (q3 957 (by decide) (by decide)).2, (q3 958 (by decide) (by decide)).2, fun _ => (q3 961 (by decide) (by decide)).1⟩
/-- [ exps ] -/
theorem bs_list (hC : ∀ a s, rc.1 a s = m_X6_readBase rc2 a s) (hEl : ∀ a s, rc2.2.1 a s = m_X6_readElements rc3 a s) (hEs : ∀ a s, rc3.2.2.2.2.1 a s = m_X6_readExps rc4 a s) (hXs : ∀ a s, rR.2.2.1 a s = m_X13_exps rR3 a s) (hx : x + 1 = nI dd) (hE : hE_R rc4 rR3 dd) (hB : ∀ x, bC2 (rc4.2.2.1 x)) (hEC : ∀ a s, rc4.2.2.1 a s = m_X6_readExp rc5 a s) (hB5 : ∀ x, bC (rc5.2.2.2.2.2.2.2.1 x)) (hBs : ∀ x, bC2 (rc3.2.2.2.2.1 x)) (T : xT rR) (T3 : xT rR3) (X : xp P E u 0 0 q m t e p l w o s i dd c r) (hb : xb P EB PB IB u q t e p l w o s i dd) (h : c.1 1 8 = nI 91) : t_h2 (bsC rc x c) (m_X13_base rR r) (bO_R P E u q m t e p l w o s i dd c r) := by
  have hb' := hb
  unfold xb at hb'
  have ple := X.1.ple
  have f0 := X.1.f0
  have b91 : f_X13_is 91 r = 1 := by
    rcases X.1.is (x := 91) (by decide) with ⟨_, b⟩ | ⟨b, _⟩
    · exact b
    · exact absurd h b
  obtain ⟨h5, h9⟩ : r.1 950 5 = 4 ∧ r.1 950 9 = 91 := is_1 b91
  have nis : ∀ x : Int32, x ≠ 91 → f_X13_is x r = 0 := fun x hx => by
    unfold f_X13_is
    rw [if_pos h5, h9, if_neg (fun y => hx y.symm)]
  have eR : m_X13_base rR r = (f_X13_node (nI 60) 1 r).bind (fun r5 => (f_X13_next r5.2).bind (fun r6 => elR rR r5.1 r6)) := by
    unfold m_X13_base
    rw [if_pos f0.2, h5, if_neg (by decide), if_neg (by decide), if_neg (by decide), nis 40 (by decide), if_pos rfl, nis 123 (by decide), if_pos rfl, b91, if_neg (by decide)]
    unfold k_X13_base_158
    rw [nis 123 (by decide), if_pos rfl]
    unfold k_X13_base_177
    refine congrArg (Option.bind _) (funext fun r5 => congrArg (Option.bind _) (funext fun r6 => ?_))
    rw [if_pos rfl]
    rfl
  rw [eR]
  have mle := (X.1.mle (by decide)).1
  refine bs_mk X hb (by decide) (fun f p0 j r1 z1 z2 z3 _ _ => ?_) (fun c2 r2 B => ?_)
  · exact l2_bd _ z1.next (fun r2 h2 => h2.el1 T mle)
  have B' := B
  have fcB := B.fc
  obtain ⟨hm, hq, X2, g1, g2, d1, d2, d3, d4, d5, d6, d7⟩ := B
  have e8 : c2.1 1 8 = nI 91 := by rw [(g1 1 8 (by omega)).1]; exact h
  rw [hC, mb_0 e8 (by unfold wq_T; decide)]
  unfold k_X6_readBase_82
  rw [if_neg (by decide), if_neg (by decide), if_neg (by decide), if_neg (by decide), if_neg (by decide), if_neg (by decide), if_neg (by decide), if_neg (by decide), if_neg (by decide)]
  unfold k_X6_readBase_326
  refine h2_bb _ (xp_adv X2 (by decide) (Or.inr (by rw [e8]; decide)) (by rw [e8]; decide)) (fun c3 r3 hw => ?_)
  obtain ⟨w1, w2, w3⟩ := hw
  have eC : (rc2.2.1 x c3).bind (fun r4 => some r4) = elC rc3 dd c3 := by
    rw [hEl]
    unfold m_X6_readElements elC
    rw [hx]
    split
    · cases k_X6_readElements_23 rc3 0 c3 <;> rfl
    · cases (rc3.2.2.2.2.1 (nI dd) c3).bind (fun r1 => k_X6_readElements_23 rc3 r1.1 r1.2) <;> rfl
  rw [if_neg (by decide), if_pos (by decide), eC]
  have fc3 : l2_fr (xWc t e p l w o) c c3 := fcB.1.trans (w1.mono (fun b j y => x_la y))
  have fr3 : l2_fr (xWr m s) r r3 := fcB.2.trans (w2.mono (fun b j y => x_rn y))
  rcases w3 with ⟨X3, l1, l2⟩ | w3
  rotate_left
  · obtain ⟨f, p0, y1, y2⟩ := xf.of (c0 := c) (r0 := r) X2 (by decide) (by omega) (by omega) ⟨Nat.le_refl _, by omega⟩ ⟨Nat.le_refl _, Nat.le_refl _, by omega, Nat.le_refl _⟩ fcB.1 fcB.2 w1 w2 w3 xw.nil
    exact h2_sep _ _ (y1.el1 hBs) (y2.el1 T mle) (fun z y hz hy => Or.inr ⟨f, p0, hz, hy⟩)
  have k9 : r3.1 959 m = -1 := by rw [(w2 959 m (by unfold rn_W; omega)).1]; exact d5
  unfold elC elR
  -- the bracket that closes
  have close : ∀ v u' q' m' t' e' p' l' s' i' c' r', v ≤ 12 → (∀ z1 z2 : Nat, pc_p P u' < pc_p P (u' + 1) → pc_c P u' ≤ pc_c P (u' + 1) → rk P (u + 1) (q + 1) t e p l s i (u' + 1) q' t' e' p' l' s' i') → xe_H P E m (m + 1) t e p l w o s i dd c3 r3 v u' q' m' t' e' p' l' s' i' c' r' → e ≤ e' ∧ e' ≤ 15999 ∧ m ≤ m' ∧ s ≤ s' → t_h2 (k_X6_readElements_23 rc3 (nI v) c') (k_X13_base_212 rR (nI m) r') (bO_R P E u q m t e p l w o s i dd c r) := by
    intro v u' q' m' t' e' p' l' s' i' c' r' hv hk H he
    unfold k_X6_readElements_23 k_X13_base_212
    have HH := H
    obtain ⟨XX, hmm, F1, F2, _⟩ := HH
    have ple2 := XX.1.ple
    refine h2_bb _ (xp_need XX (by decide) (x := 93) (by decide) rfl) (fun c5 r5 hw => ?_)
    obtain ⟨v1, v2, v3⟩ := hw
    rcases v3 with ⟨X5, l3, l4⟩ | v3
    · exact h2_doneR (l2_bd _ (el_end hb B' w1 w2 (by omega) X3.1 hv (hk 0 0 l3 l4) (H.la X5 v1 v2)) (fun y hy => l2_sm hy))
    · obtain ⟨f, p0, y1, y2⟩ := xf.of (c0 := c) (r0 := r) (m0 := m) (s0 := s) XX (by decide) (by omega) (by omega) ⟨Nat.le_refl _, by omega⟩ ⟨he.1, Nat.le_refl _, he.2.2.1, he.2.2.2⟩ (fc3.trans F1) (fr3.trans (F2.mono (fun b j y => by
        rcases y with y | ⟨rfl, rfl⟩
        · exact y.sub (by omega) (Nat.le_refl _)
        · exact Or.inr (Or.inr (Or.inl ⟨by decide, by decide, Nat.le_refl _⟩))))) v1 v2 v3 xw.nil
      exact h2_doneR (l2_bd _ (y1.emit _ _) (fun z hz => l2_sm (Or.inr ⟨f, p0, hz.1, y2⟩)))
  rcases X3.1.is (x := 93) (by decide) with ⟨a, b⟩ | ⟨a, b⟩
  · have b : f_X13_is 93 r3 = 1 := b
    refine h2_ckL a (h2_noR (by rw [b]; decide) ?_)
    exact close 0 (u + 1) (q + 1) (m + 1) t e p l s i c3 r3 (by decide) (fun _ _ z1 z2 => by unfold rk; omega) (xe_H.nil X3 k9) ⟨Nat.le_refl _, by omega, by omega, Nat.le_refl _⟩
  · have b : f_X13_is 93 r3 = 0 := b
    refine h2_noL a (h2_ckR b ?_)
    rw [hEs, hXs]
    have hb3 := hb.go (v := u + 1) (q' := q + 1) (by omega) l2 (by omega)
    refine h2_bb _ (xe_loop (m0 := m) (by omega) (by omega) hb3 hE hB hEC hB5 T3 X3 k9) (fun z r4 hz => ?_)
    rcases hz with ⟨v, u', q', m', t', e', p', l', s', i', v0, hv, z1, G1, G2, H⟩ | ⟨f, p0, y1, y2⟩ | ⟨p0, y1, y2⟩
    · rw [z1]
      have ple2 := H.1.1.ple
      have bd := hb3.ebound G1 ple2.2.2 ple2.1 ple2.2.1
      have G1' := G1
      unfold xk at G1'
      exact close v u' q' m' t' e' p' l' s' i' z.2 r4 hv (fun _ _ z1 z2 => G1.head z1 z2) H ⟨by omega, by omega, by omega, by omega⟩
    · have hF : xF f p0 t e p l w o w c z.2 := y1.sub fc3 (Nat.le_refl _) (Nat.le_refl _) (Nat.le_refl _) (Nat.le_refl _) (Nat.le_refl _)
      have hR : xR P f p0 m s r r4 := y2.sub fr3 (Nat.le_refl _) (Nat.le_refl _)
      exact h2_sep _ _ (hF.elem23 _) hR.el212 (fun z y hz hy => Or.inr ⟨f, p0, hz, hy⟩)
    · have hF : xF 2 p0 t e p l w o w c z.2 := y1.sub fc3 (Nat.le_refl _) (Nat.le_refl _) (Nat.le_refl _) (Nat.le_refl _) (Nat.le_refl _)
      have hR : rj P p0 m s r r4 := y2.sub fr3 (Nat.le_refl _) (Nat.le_refl _)
      refine h2_sep (fun c' => xF 2 p0 t e p l w o w c c') (fun y => xR P 2 p0 m s r y.2) (hF.elem23 _) ?_ (fun z y hz hy => Or.inr ⟨2, p0, hz, hy⟩)
      unfold k_X13_base_212
      exact l2_bd _ (hR.mustBe (x := 93) (by unfold rj_no; decide)) (fun r2 h2 => l2_sm h2)
end
