/-! Level 2: rows of templs on both sides: a turn, whole. -/
section
variable {P : pc_S} {E : en_S} {lv xd : Int32} {EB PB IB t0 m0 u q m t e p l w o s i dd : Nat} {c0 r0 : t_S} {rc4 rcC : RT_X6_readBase} {rR : RT_X13_base}
theorem rw_turn (ht : t0 < t) (ht3 : t0 < 6100) (hm : m0 < m) (hb : xb P EB PB IB u q t e p l w o s i dd) (hT : hT_R rcC rR dd) (hx : xd + 1 = nI dd) (hTC : ∀ a b s, rcC.2.2.2.2.2.2.2.2.2.2.2.2.2.1 a b s = m_X6_readTempl rc4 a b s) (hB : ∀ x y, bC2 (rcC.2.2.2.2.2.2.2.2.2.2.2.2.2.1 x y)) (hR : xT rR) : ∀ k x y, rwI P E lv xd t0 m0 u q m t e p l w o s i dd c0 r0 k x y → t_h2 (b_X6_readInner_16 rcC x) (b_X13_templs_5 rR y) (h2_nx (b_X6_readInner_16 rcC) (b_X13_templs_5 rR) (fun x y => ∃ j, j < k ∧ rwI P E lv xd t0 m0 u q m t e p l w o s i dd c0 r0 j x y) (fun c' r1 => t_hk (f_X13_mustBe 41 r1) (rwQ P E lv False t0 m0 u q m t e p l w o s i dd c0 r0 c'))) := by
  rintro k x y ⟨v, c, r, l5, hv, rfl, rfl, rfl, h⟩
  rcases h with ⟨T, u', q', m', t', e', p', l', s', i', k1, H, hl5⟩ | ⟨f, p0, hF, hRR⟩
  rotate_left
  · refine rw_flt (hF.in16 hB _ _ _ _ hv) (l2_imp (hRR.templs5 _ _ _ _) (fun z hz => Or.inl hz))
  have X := H.1
  have hmm := H.2.1
  have f0 := X.1.f0
  have ple := X.1.ple
  have hb' := k1.bnd hb
  have hb2 := hb'
  unfold xb at hb2
  have k2 := k1
  unfold rk at k2
  obtain ⟨ml, _, _, _⟩ := X.1.mle (by decide)
  have HH := H
  obtain ⟨_, _, fc, fr, bT, _⟩ := HH
  -- frames at the row's own marks
  have fc0 : l2_fr (xWc t0 e p l w o) c0 c := fc.mono (fun b j y => by
    rcases y with y | ⟨rfl, rfl⟩
    · exact y.sub (by omega) (Nat.le_refl _) (Nat.le_refl _) (Nat.le_refl _) (Nat.le_refl _) (Nat.le_refl _)
    · exact xWc.itm (by decide) (by decide) (Nat.le_refl _))
  have fr0 : l2_fr (xWr m0 s) r0 r := fr.mono (fun b j y => by
    rcases y with y | ⟨rfl, rfl⟩
    · exact y.sub (by omega) (Nat.le_refl _)
    · exact Or.inr (Or.inr (Or.inl ⟨by decide, by decide, Nat.le_refl _⟩)))
  show t_h2 (k_X6_readInner_16 rcC (nI t0) xd lv l5 (nI v) c) (k_X13_templs_5 rR (nI m0) 0 1 (nI v) r) _
  unfold k_X6_readInner_16 k_X13_templs_5
  refine h2_noL (nI_nlt (a := 12) hv (by decide)) (h2_noR (by decide) (h2_ckR f0.2 (h2_ckR rfl ?_)))
  unfold k_X13_templs_33 k_X13_templs_34
  -- a fault told here
  have flt : ∀ f : Nat, 0 < f ∧ f < 100 → ∀ {F : t_S → Option ((Int32 × Int32 × Int32 × Int32 × Int32 × t_S) ⊕ t_S)}, (∀ f p0 c1, xF f p0 t0 e p l w o w c0 c1 → t_hk (F c1) (fun y => ∃ r, y = .inr r ∧ xF f p0 t0 e p l w o w c0 r)) → t_h2 ((f_X2_fail (nI f) c).bind F) ((f_X13_fail (nI f) (r.1 950 6) r).bind (fun r1 => k_X13_templs_68 rR (nI m0) 0 (nI v) 0 r1)) (h2_nx (b_X6_readInner_16 rcC) (b_X13_templs_5 rR) (fun x y => ∃ j, j < 13 - v ∧ rwI P E lv xd t0 m0 u q m t e p l w o s i dd c0 r0 j x y) (fun c' r1 => t_hk (f_X13_mustBe 41 r1) (rwQ P E lv False t0 m0 u q m t e p l w o s i dd c0 r0 c'))) := by
    intro f hf F hFF
    refine h2_bb _ (pj_fail (f := f) X.1 (by decide) hf) (fun c1 r1 hw => ?_)
    obtain ⟨w1, w2, f2, p0, w3, w4⟩ := hw
    have hF : xF f2 p0 t0 e p l w o w c0 c1 := xF.of X (by omega) (by omega) ⟨Nat.le_refl _, by omega⟩ ⟨by omega, Nat.le_refl _⟩ fc0 w1 (fun b j z => x_la z) ⟨by unfold la_W; omega, by unfold la_W; omega, by unfold la_W; omega⟩ (fun j => by unfold la_W; omega) w3 xw.nil
    have hR' : xR P f2 p0 m0 s r0 r1 := (xR.of X.1 (by decide) w2 w4 (s := s)).sub fr0 (by omega) (Nat.le_refl _)
    exact rw_flt (hFF _ _ _ hF) (l2_imp (hR'.templs68 hR (by omega) _ _ _ _) (fun z hz => by
      obtain ⟨a, b, d, r', rfl, h'⟩ := hz
      exact Or.inr ⟨_, _, _, _, _, rfl, h'⟩))
  by_cases v12 : v = 12
  · subst v12
    refine h2_ckL rfl (h2_ckR rfl (h2_ckR rfl ?_))
    rcases X.1.bt with ⟨b1, b2, _⟩ | ⟨b1, b2⟩
    · refine h2_noL (by rw [b1]; decide) (h2_noR (by rw [b2]; decide) ?_)
      unfold k_X13_templs_56 k_X13_templs_61
      exact flt 5 (by decide) (fun f p0 c1 h => h.in51 hB _ _ _ _ _)
    · refine h2_ckL b1 (h2_ckR b2 ?_)
      unfold k_X13_templs_61 k_X6_readInner_51
      rw [hTC]
      unfold m_X6_readTempl
      rw [if_pos b1, Option.bind_assoc]
      exact flt 2 (by decide) (fun f p0 c1 h => l2_bd _ (h.t21 _ _) (fun y h1 => h1.in51b _ _ _ _ _))
  have n12 : ¬ nI v = 12 := fun y => v12 ((nI_eq (b := 12) (by omega) (by decide)).mp y)
  refine h2_noL n12 (h2_noR n12 ?_)
  unfold k_X6_readInner_51 k_X13_templs_68
  rw [hx]
  refine h2_ckR rfl (h2_bb _ (hT P E EB PB IB (lv + 1) _ _ _ _ _ _ _ _ _ _ _ _ _ X hb') (fun a b hab => ?_))
  rcases hab with ⟨n, a1, b1, G⟩ | ⟨f, p0, y1, y2⟩
  rotate_left
  · have hF : xF f p0 t0 e p l w o w c0 a.2 := y1.sub fc0 (by omega) (by omega) (by omega) (by omega) (Nat.le_refl _)
    have hR' : xR P f p0 m0 s r0 b.2 := y2.sub fr0 (by omega) (by omega)
    refine rw_flt (hF.in51b _ _ _ _ _) (l2_eq (hR'.hang _ _) (l2_imp (hR'.templs124 _ _ _) (fun z hz => ?_)))
    obtain ⟨a, b, d, r', rfl, h'⟩ := hz
    exact Or.inr ⟨_, _, _, _, _, rfl, h'⟩
  obtain ⟨a0, c1⟩ := a
  obtain ⟨b0, r1⟩ := b
  have a1 : a0 = nI t' := a1
  have b1 : b0 = nI n := b1
  subst a1
  subst b1
  have c11 : c1.1 1 11 = 0 := by
    obtain ⟨_, _, _, _, _, _, _, _, _, _, _, X1, _⟩ := G
    exact X1.1.f0.1
  refine h2_ckL c11 ?_
  have key : ∀ c2, l2_fr (fun b j => (b = 355 ∧ j = t0 ∧ v = 0) ∨ (b = 356 ∧ 0 < v ∧ j = T (v - 1))) c1 c2 → ((v = 0 → c2.1 355 t0 = nI t') ∧ (0 < v → c2.1 356 (T (v - 1)) = nI t')) → t_h2 (k_X6_readInner_106 rcC (nI t0) xd lv (nI v) (nI t') c2) ((f_X13_hang (nI m0) (nI n) r1).bind (fun r2 => k_X13_templs_124 rR (nI m0) 0 (nI v) r2)) (h2_nx (b_X6_readInner_16 rcC) (b_X13_templs_5 rR) (fun x y => ∃ j, j < 13 - v ∧ rwI P E lv xd t0 m0 u q m t e p l w o s i dd c0 r0 j x y) (fun c' r1 => t_hk (f_X13_mustBe 41 r1) (rwQ P E lv False t0 m0 u q m t e p l w o s i dd c0 r0 c'))) := by
    intro c2 g gv
    refine h2_bR _ (rw_add ht hm (by omega) (by omega) (by omega) (by omega) (by omega) (by omega) H (Or.inl rfl) G g gv) (fun r2 hr => ?_)
    obtain ⟨u2, q2, m2, t2, e2, p2, l2, s2, i2, x1, x2, H2⟩ := hr
    have X2 := H2.1
    have gr := k1.then x1
    have gr2 := gr
    unfold xk at gr2
    have ple2 := X2.1.ple
    have bd := hb.ebound gr ple2.2.2 ple2.1 ple2.2.1
    have HH2 := H2
    obtain ⟨_, hmm2, fc2, fr2, _⟩ := HH2
    have fc3 : l2_fr (xWc t0 e p l w o) c0 c2 := fc2.mono (fun b j y => by
      rcases y with y | ⟨rfl, rfl⟩
      · exact y.sub (by omega) (Nat.le_refl _) (Nat.le_refl _) (Nat.le_refl _) (Nat.le_refl _) (Nat.le_refl _)
      · exact xWc.itm (by decide) (by decide) (Nat.le_refl _))
    have fr3 : l2_fr (xWr m0 s) r0 r2 := fr2.mono (fun b j y => by
      rcases y with y | ⟨rfl, rfl⟩
      · exact y.sub (by omega) (Nat.le_refl _)
      · exact Or.inr (Or.inr (Or.inl ⟨by decide, by decide, Nat.le_refl _⟩)))
    have flt2 : ∀ {c3 r3 : t_S}, l2_fr la_W c2 c3 → l2_fr rn_W r2 r3 → pf P c3 r3 → xf P t0 e p l w o w m0 s c0 r0 c3 r3 := fun w1 w2 w3 => xf.of X2 (by decide) (by omega) (by omega) ⟨Nat.le_refl _, by omega⟩ ⟨by omega, Nat.le_refl _, by omega, by omega⟩ fc3 fr3 w1 w2 w3 xw.nil
    have nv : nI v + 1 = nI (v + 1) := by rw [nI_succ]
    unfold k_X6_readInner_106 k_X13_templs_124
    rcases X2.1.is (x := 44) (by decide) with ⟨a, b⟩ | ⟨a, b⟩
    · have b : f_X13_is 44 r2 = 1 := b
      refine h2_noR (by rw [b]; decide) (h2_bb _ (xp_took X2 (by decide) (x := 44) (by decide) a) (fun y r3 hy => ?_))
      obtain ⟨y0, c3⟩ := y
      obtain ⟨y1, y2, y3, y4⟩ := hy
      have y1 : y0 = 1 := y1
      subst y1
      have y2 : l2_fr la_W c2 c3 := y2
      refine h2_noL (show ¬ (1 : Int32) = 0 by decide) (h2_sm ⟨13 - (v + 1), by omega, v + 1, c3, r3, nI t', by omega, rfl, ?_, ?_, ?_⟩)
      · show (nI t0, xd, lv, nI t', nI v + 1, c3) = _
        rw [nv]
      · show (nI m0, (0 : Int32), f_X13_is 44 r2, nI v + 1, r3) = _
        rw [nv, b]
      · rcases y4 with ⟨X3, z1, z2⟩ | y4
        · refine Or.inl ⟨va_up T (v + 1) t2, u2 + 1, q2, m2, t2, e2, p2, l2, s2, i2, gr.head z1 z2, H2.la X3 y2 y3, ?_⟩
          rw [if_pos (by omega), show v + 1 - 1 = v by omega, mj_up_ne _ _ (by omega), bT.2.1]
        · exact Or.inr (flt2 y2 y3 y4)
    · have b : f_X13_is 44 r2 = 0 := b
      refine h2_ckR b (h2_eL (pj_nottook (x := 44) a) (h2_ckL rfl ?_))
      obtain ⟨c4, r4, k8, k9, w1, w2, w3⟩ := xp_need X2 (by decide) (x := 41) (by decide) (sn := 41) rfl
      have k8 : f_X2_need 41 c2 = some c4 := k8
      refine ⟨.inr c4, .inl (nI m0, 0, f_X13_is 44 r2, nI v + 1, r2), ?_, rfl, ?_⟩
      · show (k_X6_readInner_131 rcC c2).map Sum.inr = _
        unfold k_X6_readInner_131
        rw [k8]
        rfl
      · refine xl_go ⟨.inr r2, ?_, r2, rfl, r4, k9, ?_⟩
        · show k_X13_templs_5 rR (nI m0) 0 (f_X13_is 44 r2) (nI v + 1) r2 = _
          unfold k_X13_templs_5
          rw [if_pos b]
          rfl
        · rcases w3 with ⟨X3, z1, z2⟩ | w3
          · exact Or.inl ⟨v + 1, va_up T (v + 1) t2, u2 + 1, q2, m2, t2, e2, p2, l2, s2, i2, by omega, by omega, gr.adv z1 z2, by omega, H2.la X3 w1 w2⟩
          · exact Or.inr (flt2 w1 w2 w3)
  by_cases v0 : v = 0
  · subst v0
    refine h2_ckL rfl (h2_ckL (l2_ix ht3 (by decide)) (h2_lL ?_))
    rw [nI_clamp (n := t0) (by omega)]
    exact key _ (l2_fr.set (Or.inl ⟨rfl, rfl, rfl⟩)) ⟨fun _ => by simp only [l2_gI, reduceIte], fun y => absurd y (by decide)⟩
  · have n0 : ¬ nI v = 0 := fun y => v0 ((nI_eq (b := 0) (by omega) (by decide)).mp y)
    have e5 : l5 = nI (T (v - 1)) := by rw [hl5, if_pos (by omega)]
    have tv := bT.mono (v - 1) v (by omega) (Nat.le_refl _)
    have tv2 := bT.2.1
    subst e5
    refine h2_noL n0 (h2_ckL (l2_ix (by omega) (by decide)) (h2_lL ?_))
    rw [nI_clamp (n := T (v - 1)) (by omega)]
    exact key _ (l2_fr.set (Or.inr ⟨rfl, by omega, rfl⟩)) ⟨fun y => absurd y v0, fun _ => by simp only [l2_gI, reduceIte]⟩
end
