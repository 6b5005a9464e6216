/-! Level 2: rows of exps on both sides: a turn, the loop. -/
section
variable {P : pc_S} {E : en_S} {EB PB IB m0 u q m t e p l w o s i dd : Nat} {c0 r0 c r : t_S} {rc rc5 : RT_X6_readBase} {rR : RT_X13_base}
theorem xe_turn (hm : m0 < m) (hm3 : m0 ≤ 12999) (hb : xb P EB PB IB u q t e p l w o s i dd) (hE : hE_R rc rR dd) (hB : ∀ x, bC2 (rc.2.2.1 x)) (hEC : ∀ a s, rc.2.2.1 a s = m_X6_readExp rc5 a s) (hB5 : ∀ x, bC (rc5.2.2.2.2.2.2.2.1 x)) (T : xT rR) : ∀ k x y, xeI P E (nI dd) m0 u q m t e p l w o s i dd c0 r0 k x y → t_h2 (b_X6_readExps_2 rc x) (b_X13_exps_4 rR y) (h2_nx (b_X6_readExps_2 rc) (b_X13_exps_4 rR) (fun x y => ∃ j, j < k ∧ xeI P E (nI dd) m0 u q m t e p l w o s i dd c0 r0 j x y) (xeQ P E m0 u q m t e p l w o s i dd c0 r0)) := by
  rintro k x y ⟨v, c, r, hv, rfl, rfl, rfl, h⟩
  rcases h with ⟨u', q', m', t', e', p', l', s', i', k1, H⟩ | ⟨f, p0, hF, hRR⟩
  rotate_left
  · exact xe_flt (hF.ex2 _ _) (l2_imp (hRR.exps4 _ _ _) (fun z hz => Or.inl hz))
  have X := H.1
  have hmm := H.2.1
  have f0 := X.1.f0
  have ple := X.1.ple
  have hb' := k1.bnd hb
  have hb2 := hb'
  unfold xb at hb2
  have k2 := k1
  unfold rk at k2
  obtain ⟨ml, _, _, _⟩ := X.1.mle (by decide)
  have HH := H
  obtain ⟨_, _, fc, fr, _, Ee, TT, M, GG, _, _, bM, ch, hj⟩ := HH
  have fr0 : l2_fr (xWr m0 s) r0 r := fr.mono (fun b j y => by
    rcases y with y | ⟨rfl, rfl⟩
    · exact y.sub (by omega) (Nat.le_refl _)
    · exact Or.inr (Or.inr (Or.inl ⟨by decide, by decide, Nat.le_refl _⟩)))
  show t_h2 (k_X6_readExps_2 rc (nI dd) (nI v) c) (k_X13_exps_4 rR (nI m0) 1 (nI v) r) _
  unfold k_X6_readExps_2 k_X13_exps_4
  refine h2_noL (nI_nlt (a := 12) hv (by decide)) (h2_ckL f0.1 (h2_noR (by decide) (h2_ckR f0.2 ?_)))
  -- a fault told here
  have flt : ∀ f : Nat, 0 < f ∧ f < 100 → ∀ {F : t_S → Option ((Int32 × Int32 × t_S) ⊕ (Int32 × t_S))}, (∀ f p0 c1, xF f p0 t e p l w o w c0 c1 → t_hk (F c1) (fun y => ∃ r, y = .inr r ∧ xF f p0 t e p l w o w c0 r.2)) → t_h2 ((f_X2_fail (nI f) c).bind F) (k_X13_exps_34 rR (nI m0) (nI v) (nI f) r) (h2_nx (b_X6_readExps_2 rc) (b_X13_exps_4 rR) (fun x y => ∃ j, j < 13 - v ∧ xeI P E (nI dd) m0 u q m t e p l w o s i dd c0 r0 j x y) (xeQ P E m0 u q m t e p l w o s i dd c0 r0)) := by
    intro f hf F hFF
    unfold k_X13_exps_34
    refine h2_bb _ (pj_fail (f := f) X.1 (by decide) hf) (fun c1 r1 hw => ?_)
    obtain ⟨w1, w2, w3⟩ := hw
    obtain ⟨f2, p0, y1, y2⟩ := xf.of (c0 := c0) (r0 := r0) X (by decide) (by omega) (by omega) ⟨Nat.le_refl _, by omega⟩ ⟨by omega, Nat.le_refl _, by omega, by omega⟩ fc fr0 w1 w2 w3 xw.nil
    refine xe_flt (hFF _ _ _ y1) (l2_imp (y2.ex41 T _ _) (fun z hz => ?_))
    obtain ⟨a, b, r', rfl, h'⟩ := hz
    exact Or.inr ⟨_, _, _, _, rfl, h'⟩
  by_cases v12 : v = 12
  · subst v12
    refine h2_ckL rfl (h2_ckR rfl ?_)
    rcases X.1.be with ⟨b1, b2⟩ | ⟨b1, b2⟩
    · refine h2_noL (by rw [b1]; decide) (h2_noR (by rw [b2]; decide) ?_)
      exact flt 5 (by decide) (fun f p0 c1 h => h.ex45 hB _ _)
    · refine h2_ckL b1 (h2_ckR b2 ?_)
      unfold k_X6_readExps_45
      rw [hEC]
      unfold m_X6_readExp
      rw [if_pos b1, Option.bind_assoc]
      exact flt 2 (by decide) (fun f p0 c1 h => l2_bd _ (h.e29 hB5 _ _) (fun y h1 => h1.1.ex45b _ _))
  have n12 : ¬ nI v = 12 := fun y => v12 ((nI_eq (b := 12) (by omega) (by decide)).mp y)
  refine h2_noL n12 (h2_noR n12 ?_)
  unfold k_X6_readExps_45 k_X13_exps_41
  refine h2_bb _ (hE P E EB PB IB _ _ _ _ _ _ _ _ _ _ _ _ _ X hb') (fun a b hab => ?_)
  obtain ⟨a1, ⟨n, b1, hab⟩ | ⟨f, p0, y1, y2⟩⟩ := hab
  rotate_left
  · have hF : xF f p0 t e p l w o w c0 a.2 := y1.sub fc (by omega) (by omega) (by omega) (by omega) (Nat.le_refl _)
    have hR' : xR P f p0 m0 s r0 b.2 := y2.sub fr0 (by omega) (by omega)
    exact xe_flt (hF.ex45b _ _) (l2_eq (hR'.hang _ _) (l2_if (fun _ => l2_sm (Or.inr ⟨_, _, _, _, rfl, hR'⟩)) (fun _ => l2_bd _ hR'.next (fun r3 h3 => l2_sm (Or.inr ⟨_, _, _, _, rfl, h3⟩)))))
  obtain ⟨b0, r1⟩ := b
  have b1 : b0 = nI n := b1
  subst b1
  have nv : nI v + 1 = nI (v + 1) := by rw [nI_succ]
  rcases hab with G | ⟨h1, h2, h3, p0, y1, y0⟩
  rotate_left
  · -- a comparison that can't come
    have y0 : rj P p0 m' s' r r1 := y0
    have h3 : r1.1 960 n = -1 := h3
    have hF : xF 2 p0 t e p l w o w c0 a.2 := y1.sub fc (by omega) (by omega) (by omega) (by omega) (Nat.le_refl _)
    have g5 : l2_fr (xWr m' s') r r1 := by
      obtain ⟨_, _, _, _, g5, _⟩ := y0
      exact g5
    have y2 : rj P p0 m0 s r0 r1 := rj.sub y0 fr0 (by omega) (by omega)
    have Mj : ∀ j, j < v → m ≤ M j ∧ M j ≤ GG j ∧ GG j < M (j + 1) ∧ M (j + 1) ≤ m' := fun j y => by
      have a := bM.in y
      have b := (hj j y).at
      omega
    have ch1 : ch_R r1 m0 v GG := by
      refine ⟨by rw [(g5 959 m0 (by unfold xWr; omega)).1]; exact ch.1, fun j y => ?_⟩
      have := Mj j y
      rw [(g5 960 (GG j) (by unfold xWr; omega)).1]
      exact ch.2 j y
    refine h2_bR _ (y2.hang ch1 (Nat.le_refl _) (by omega) (by omega) h2 h3 (fun j y => by have := Mj j y; omega)) (fun r6 h6 => ?_)
    rw [h6.is (x := 44) (by unfold rj_no; decide)]
    refine h2_ckR rfl (h2_doneR (l2_imp (hF.ex45b _ _) (fun z hz => ?_)))
    obtain ⟨z1, rfl, hz⟩ := hz
    refine xl_go ⟨.inr r6, ?_, r6, rfl, Or.inr (Or.inr ⟨p0, hz, h6⟩)⟩
    show k_X13_exps_4 rR (nI m0) 0 (nI v + 1) r6 = _
    unfold k_X13_exps_4
    rw [if_pos rfl]
    rfl
  obtain ⟨a0, c1⟩ := a
  refine h2_bR _ (xe_add hm (by omega) (by omega) (by omega) (by omega) (by omega) (by omega) (by omega) H G) (fun r2 hr => ?_)
  obtain ⟨u2, q2, m2, t2, e2, p2, l2, s2, i2, x1, x2, H2⟩ := hr
  have H2 : xe_H P E m0 m t e p l w o s i dd c0 r0 (v + 1) u2 q2 m2 t2 e2 p2 l2 s2 i2 c1 r2 := H2
  have X2 := H2.1
  have gr := k1.then x1
  have gr2 := gr
  unfold xk at gr2
  have ple2 := X2.1.ple
  have bd := hb.ebound gr ple2.2.2 ple2.1 ple2.2.1
  have HH2 := H2
  obtain ⟨_, hmm2, fc2, fr2, _⟩ := HH2
  have fr3 : l2_fr (xWr m0 s) r0 r2 := fr2.mono (fun b j y => by
    rcases y with y | ⟨rfl, rfl⟩
    · exact y.sub (by omega) (Nat.le_refl _)
    · exact Or.inr (Or.inr (Or.inl ⟨by decide, by decide, Nat.le_refl _⟩)))
  have flt2 : ∀ {c3 r3 : t_S}, l2_fr la_W c1 c3 → l2_fr rn_W r2 r3 → pf P c3 r3 → xf P t e p l w o w m0 s c0 r0 c3 r3 := fun w1 w2 w3 => xf.of X2 (by decide) (by omega) (by omega) ⟨Nat.le_refl _, by omega⟩ ⟨by omega, Nat.le_refl _, by omega, by omega⟩ fc2 fr3 w1 w2 w3 xw.nil
  rcases X2.1.is (x := 44) (by decide) with ⟨a, b⟩ | ⟨a, b⟩
  · have b : f_X13_is 44 r2 = 1 := b
    refine h2_noR (by rw [b]; decide) (h2_bb _ (xp_took X2 (by decide) (x := 44) (by decide) a) (fun y r3 hy => ?_))
    obtain ⟨y0, c3⟩ := y
    obtain ⟨y1, y2, y3, y4⟩ := hy
    have y1 : y0 = 1 := y1
    subst y1
    have y2 : l2_fr la_W c1 c3 := y2
    refine h2_noL (show ¬ (1 : Int32) = 0 by decide) (h2_sm ⟨13 - (v + 1), by omega, v + 1, c3, r3, by omega, rfl, ?_, ?_, ?_⟩)
    · show (nI dd, nI v + 1, c3) = _
      rw [nv]
    · show (nI m0, f_X13_is 44 r2, nI v + 1, r3) = _
      rw [nv, b]
    · rcases y4 with ⟨X3, z1, z2⟩ | y4
      · exact Or.inl ⟨u2 + 1, q2, m2, t2, e2, p2, l2, s2, i2, gr.head z1 z2, H2.la X3 y2 y3⟩
      · exact Or.inr (flt2 y2 y3 y4)
  · have b : f_X13_is 44 r2 = 0 := b
    refine h2_ckR b (h2_eL (pj_nottook (x := 44) a) (h2_ckL rfl ?_))
    refine ⟨.inr (nI v + 1, c1), .inl (nI m0, f_X13_is 44 r2, nI v + 1, r2), rfl, rfl, ?_⟩
    refine xl_go ⟨.inr r2, ?_, r2, rfl, Or.inl ⟨v + 1, u2, q2, m2, t2, e2, p2, l2, s2, i2, by omega, by omega, nv, gr, by omega, H2⟩⟩
    show k_X13_exps_4 rR (nI m0) (f_X13_is 44 r2) (nI v + 1) r2 = _
    unfold k_X13_exps_4
    rw [if_pos b]
    rfl
/-- the loop -/
theorem xe_loop (hm : m0 < m) (hm3 : m0 ≤ 12999) (hb : xb P EB PB IB u q t e p l w o s i dd) (hE : hE_R rc rR dd) (hB : ∀ x, bC2 (rc.2.2.1 x)) (hEC : ∀ a s, rc.2.2.1 a s = m_X6_readExp rc5 a s) (hB5 : ∀ x, bC (rc5.2.2.2.2.2.2.2.1 x)) (T : xT rR) (X : xp P E u 0 0 q m t e p l w o s i dd c r) (k9 : r.1 959 m0 = -1) : t_h2 (m_X6_readExps rc (nI dd) c) (m_X13_exps rR (nI m0) r) (xeQ P E m0 u q m t e p l w o s i dd c r) := by
  unfold m_X6_readExps m_X13_exps
  exact h2_lpN (fun k x y => xeI P E (nI dd) m0 u q m t e p l w o s i dd c r k x y) (xe_turn hm hm3 hb hE hB hEC hB5 T) (k := 13) (by decide) ⟨0, c, r, by decide, rfl, rfl, rfl, Or.inl ⟨u, q, m, t, e, p, l, s, i, rk.nil, xe_H.nil X k9⟩⟩
end
