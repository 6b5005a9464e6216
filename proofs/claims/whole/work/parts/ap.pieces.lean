/-! Level 2: [ pieces ] on both sides: a turn. -/
section
variable {P : pc_S} {E : en_S} {lv xd : Int32} {EB PB IB t0 m0 u q m t e p l w o s i dd v : Nat} {c0 r0 c r : t_S} {rc rc2 rc3 rc4 rc5 rcC : RT_X6_readBase} {rR rR3 : RT_X13_base}
theorem bf_perm (rc : RT_X6_readBase) (x y : Int32) : bC2 (m_X6_readPerm rc x y) := by
  intro f p0 t e p l w o w' c0 c h
  unfold m_X6_readPerm
  exact l2_bd _ h.node (fun c1 h1 => l2_no h1.stay.2.2.2.2 (l2_sm h1))
theorem xF.pc116 {f p0 w' : Nat} (a1 a2 a3 a4 a5 k0 : Int32) (h : xF f p0 t e p l w o w' c0 c) : t_hk (k_X6_readPieces_116 rc a1 a2 a3 a4 a5 k0 c) (fun y => ∃ r, y = .inr r ∧ xF f p0 t e p l w o w' c0 r) := by
  unfold k_X6_readPieces_116
  exact l2_no h.stay.2.2.2.2 (l2_mp (l2_sm ⟨_, rfl, h⟩))
theorem xF.pc90 {f p0 w' : Nat} (HT : ∀ x y, bC2 (rc.2.2.2.2.2.2.2.2.2.2.2.2.2.1 x y)) (HP : ∀ x y, bC2 (rc.2.2.2.2.2.2.2.2.1 x y)) (a1 a2 a3 a4 a5 a6 : Int32) (h : xF f p0 t e p l w o w' c0 c) : t_hk (k_X6_readPieces_90 rc a1 a2 a3 a4 a5 a6 c) (fun y => ∃ r, y = .inr r ∧ xF f p0 t e p l w o w' c0 r) := by
  unfold k_X6_readPieces_90
  exact l2_if (fun _ => l2_bd _ (HT _ _ _ _ _ _ _ _ _ _ _ _ _ h) (fun y h1 => h1.pc116 _ _ _ _ _ _)) (fun _ => l2_bd _ (HP _ _ _ _ _ _ _ _ _ _ _ _ _ h) (fun y h1 => h1.pc116 _ _ _ _ _ _))
theorem xF.pc55 {f p0 w' : Nat} (HT : ∀ x y, bC2 (rc.2.2.2.2.2.2.2.2.2.2.2.2.2.1 x y)) (HP : ∀ x y, bC2 (rc.2.2.2.2.2.2.2.2.1 x y)) (a1 a2 a3 a4 a5 a6 : Int32) (h : xF f p0 t e p l w o w' c0 c) : t_hk (k_X6_readPieces_55 rc a1 a2 a3 a4 a5 a6 c) (fun y => ∃ r, y = .inr r ∧ xF f p0 t e p l w o w' c0 r) := by
  unfold k_X6_readPieces_55 k_X6_readPieces_82
  have z := h.pc90 HT HP a1 a2 a3 a4 a5 a6
  exact l2_if (fun _ => l2_if (fun _ => l2_if (fun _ => z) (fun _ => l2_eq (h.stay.2.1 _) z)) (fun _ => l2_eq (h.stay.2.1 _) z)) (fun _ => z)
theorem xF.pc30 {f p0 w' : Nat} (HT : ∀ x y, bC2 (rc.2.2.2.2.2.2.2.2.2.2.2.2.2.1 x y)) (HP : ∀ x y, bC2 (rc.2.2.2.2.2.2.2.2.1 x y)) (a1 a3 a4 a5 : Int32) (hv : v ≤ 12) (h : xF f p0 t e p l w o w' c0 c) : t_hk (k_X6_readPieces_30 rc a1 a3 a4 a5 (nI v) c) (fun y => ∃ r, y = .inr r ∧ xF f p0 t e p l w o w' c0 r) := by
  unfold k_X6_readPieces_30
  exact l2_no (nI_nlt (a := 12) hv (by decide)) (l2_if (fun _ => h.pc55 HT HP _ _ _ _ _ _) (fun _ => h.pc55 HT HP _ _ _ _ _ _))
def pcI (P : pc_S) (E : en_S) (lv xd : Int32) (t0 m0 u q m t e p l w o s i dd : Nat) (c0 r0 : t_S) (k : Nat) (x : Int32 × Int32 × Int32 × Int32 × Int32 × t_S) (y : Int32 × Int32 × Int32 × Int32 × t_S) : Prop := ∃ (v : Nat) (c r : t_S) (l5 : Int32), v ≤ 12 ∧ k = 13 - v ∧ x = (nI t0, xd, lv, l5, nI v, c) ∧ y = (nI m0, 1, 1, nI v, r) ∧ ((∃ (T : Nat → Nat) (u' q' m' t' e' p' l' s' i' : Nat), rk P u q t e p l s i u' q' t' e' p' l' s' i' ∧ rw_H P E lv True t0 m0 m t e p l w o s i dd c0 r0 v T u' q' m' t' e' p' l' s' i' c r ∧ l5 = (if 0 < v then nI (T (v - 1)) else -1)) ∨ xf P t0 e p l w o w m0 s c0 r0 c r)
theorem pc_flt {f p0 k : Nat} {a : Option ((Int32 × Int32 × Int32 × Int32 × Int32 × t_S) ⊕ t_S)} {b : Option ((Int32 × Int32 × Int32 × Int32 × t_S) ⊕ t_S)} (ha : t_hk a (fun y => ∃ r, y = .inr r ∧ xF f p0 t0 e p l w o w c0 r)) (hb : t_hk b (fun z => (∃ r', z = .inr r' ∧ xR P f p0 m0 s r0 r') ∨ ∃ g1 g2 g3 g4 r', z = .inl (g1, g2, g3, g4, r') ∧ xR P f p0 m0 s r0 r')) : t_h2 a b (h2_nx (b_X6_readPieces_30 rcC) (b_X13_templs_5 rR) (fun x y => ∃ j, j < k ∧ pcI P E lv xd t0 m0 u q m t e p l w o s i dd c0 r0 j x y) (fun c' r1 => t_hk (f_X13_mustBe 93 r1) (rwQ P E lv True t0 m0 u q m t e p l w o s i dd c0 r0 c'))) := by
  refine h2_sep _ _ ha hb (fun x y hx hy => ?_)
  obtain ⟨c1, rfl, hF⟩ := hx
  have fin : ∀ r1, xR P f p0 m0 s r0 r1 → t_hk (f_X13_mustBe 93 r1) (rwQ P E lv True t0 m0 u q m t e p l w o s i dd c0 r0 c1) := fun r1 h1 => l2_imp (h1.mustBe 93) (fun r2 h2 => Or.inr ⟨f, p0, hF, h2⟩)
  rcases hy with ⟨r1, rfl, hR⟩ | ⟨g1, g2, g3, g4, r1, rfl, hR⟩
  · exact fin r1 hR
  · refine xl_go (l2_imp (hR.templs5 g1 g2 g3 g4) (fun z hz => ?_))
    obtain ⟨r2, rfl, h2⟩ := hz
    exact ⟨r2, rfl, fin r2 h2⟩
/-- a part is read: the row's chain, the comma -/
theorem pc_key {T : Nat → Nat} {u' q' m' t' e' p' l' s' i' fl n : Nat} {c1 r1 : t_S} {l5 : Int32} (ht : t0 < t) (ht3 : t0 < 6100) (hm : m0 < m) (hv : v ≤ 12) (v12 : v ≠ 12) (hb : xb P EB PB IB u q t e p l w o s i dd) (k1 : rk P u q t e p l s i u' q' t' e' p' l' s' i') (H : rw_H P E lv True t0 m0 m t e p l w o s i dd c0 r0 v T u' q' m' t' e' p' l' s' i' c r) (hl5 : l5 = (if 0 < v then nI (T (v - 1)) else -1)) (hfl : fl = 1 ∨ fl = 2 ∧ True) (G : xG P E fl (lv + 1) (20 * dd + 15) u' q' m' t' e' p' l' w o s' i' dd c r n c1 r1) : t_h2 (k_X6_readPieces_116 rcC (nI t0) xd lv l5 (nI v) (nI t') c1) ((f_X13_hang (nI m0) (nI n) r1).bind (fun r2 => k_X13_templs_124 rR (nI m0) 1 (nI v) r2)) (h2_nx (b_X6_readPieces_30 rcC) (b_X13_templs_5 rR) (fun x y => ∃ j, j < 13 - v ∧ pcI P E lv xd t0 m0 u q m t e p l w o s i dd c0 r0 j x y) (fun c' r1 => t_hk (f_X13_mustBe 93 r1) (rwQ P E lv True t0 m0 u q m t e p l w o s i dd c0 r0 c'))) := by
  have X := H.1
  have hmm := H.2.1
  have ple := X.1.ple
  have hb2 := k1.bnd hb
  unfold xb at hb2
  have k2 := k1
  unfold rk at k2
  have HH := H
  obtain ⟨_, _, fc, fr, bT, _⟩ := HH
  have c11 : c1.1 1 11 = 0 := by
    obtain ⟨_, _, _, _, _, _, _, _, _, _, _, X1, _⟩ := G
    exact X1.1.f0.1
  unfold k_X6_readPieces_116
  refine h2_ckL c11 ?_
  have key : ∀ c2, l2_fr (fun b j => (b = 355 ∧ j = t0 ∧ v = 0) ∨ (b = 356 ∧ 0 < v ∧ j = T (v - 1))) c1 c2 → ((v = 0 → c2.1 355 t0 = nI t') ∧ (0 < v → c2.1 356 (T (v - 1)) = nI t')) → t_h2 (k_X6_readPieces_160 rcC (nI t0) xd lv (nI v) (nI t') c2) ((f_X13_hang (nI m0) (nI n) r1).bind (fun r2 => k_X13_templs_124 rR (nI m0) 1 (nI v) r2)) (h2_nx (b_X6_readPieces_30 rcC) (b_X13_templs_5 rR) (fun x y => ∃ j, j < 13 - v ∧ pcI P E lv xd t0 m0 u q m t e p l w o s i dd c0 r0 j x y) (fun c' r1 => t_hk (f_X13_mustBe 93 r1) (rwQ P E lv True t0 m0 u q m t e p l w o s i dd c0 r0 c'))) := by
    intro c2 g gv
    refine h2_bR _ (rw_add ht hm (by omega) (by omega) (by omega) (by omega) (by omega) (by omega) H hfl G g gv) (fun r2 hr => ?_)
    obtain ⟨u2, q2, m2, t2, e2, p2, l2, s2, i2, x1, x2, H2⟩ := hr
    have X2 := H2.1
    have gr := k1.then x1
    have gr2 := gr
    unfold xk at gr2
    have ple2 := X2.1.ple
    have bd := hb.ebound gr ple2.2.2 ple2.1 ple2.2.1
    have HH2 := H2
    obtain ⟨_, hmm2, fc2, fr2, _⟩ := HH2
    have fc3 : l2_fr (xWc t0 e p l w o) c0 c2 := fc2.mono (fun b j y => by
      rcases y with y | ⟨rfl, rfl⟩
      · exact y.sub (by omega) (Nat.le_refl _) (Nat.le_refl _) (Nat.le_refl _) (Nat.le_refl _) (Nat.le_refl _)
      · exact xWc.itm (by decide) (by decide) (Nat.le_refl _))
    have fr3 : l2_fr (xWr m0 s) r0 r2 := fr2.mono (fun b j y => by
      rcases y with y | ⟨rfl, rfl⟩
      · exact y.sub (by omega) (Nat.le_refl _)
      · exact Or.inr (Or.inr (Or.inl ⟨by decide, by decide, Nat.le_refl _⟩)))
    have flt2 : ∀ {c3 r3 : t_S}, l2_fr la_W c2 c3 → l2_fr rn_W r2 r3 → pf P c3 r3 → xf P t0 e p l w o w m0 s c0 r0 c3 r3 := fun w1 w2 w3 => xf.of X2 (by decide) (by omega) (by omega) ⟨Nat.le_refl _, by omega⟩ ⟨by omega, Nat.le_refl _, by omega, by omega⟩ fc3 fr3 w1 w2 w3 xw.nil
    have nv : nI v + 1 = nI (v + 1) := by rw [nI_succ]
    unfold k_X6_readPieces_160 k_X13_templs_124
    rcases X2.1.is (x := 44) (by decide) with ⟨a, b⟩ | ⟨a, b⟩
    · have b : f_X13_is 44 r2 = 1 := b
      refine h2_noR (by rw [b]; decide) (h2_bb _ (xp_took X2 (by decide) (x := 44) (by decide) a) (fun y r3 hy => ?_))
      obtain ⟨y0, c3⟩ := y
      obtain ⟨y1, y2, y3, y4⟩ := hy
      have y1 : y0 = 1 := y1
      subst y1
      have y2 : l2_fr la_W c2 c3 := y2
      refine h2_noL (show ¬ (1 : Int32) = 0 by decide) (h2_sm ⟨13 - (v + 1), by omega, v + 1, c3, r3, nI t', by omega, rfl, ?_, ?_, ?_⟩)
      · show (nI t0, xd, lv, nI t', nI v + 1, c3) = _
        rw [nv]
      · show (nI m0, (1 : Int32), f_X13_is 44 r2, nI v + 1, r3) = _
        rw [nv, b]
      · rcases y4 with ⟨X3, z1, z2⟩ | y4
        · refine Or.inl ⟨va_up T (v + 1) t2, u2 + 1, q2, m2, t2, e2, p2, l2, s2, i2, gr.head z1 z2, H2.la X3 y2 y3, ?_⟩
          rw [if_pos (by omega), show v + 1 - 1 = v by omega, mj_up_ne _ _ (by omega), bT.2.1]
        · exact Or.inr (flt2 y2 y3 y4)
    · have b : f_X13_is 44 r2 = 0 := b
      refine h2_ckR b (h2_eL (pj_nottook (x := 44) a) (h2_ckL rfl ?_))
      obtain ⟨c4, r4, k8, k9, w1, w2, w3⟩ := xp_need X2 (by decide) (x := 93) (by decide) (sn := 93) rfl
      have k8 : f_X2_need 93 c2 = some c4 := k8
      refine ⟨.inr c4, .inl (nI m0, 1, f_X13_is 44 r2, nI v + 1, r2), ?_, rfl, ?_⟩
      · show (k_X6_readPieces_185 rcC c2).map Sum.inr = _
        unfold k_X6_readPieces_185
        rw [k8]
        rfl
      · refine xl_go ⟨.inr r2, ?_, r2, rfl, r4, k9, ?_⟩
        · show k_X13_templs_5 rR (nI m0) 1 (f_X13_is 44 r2) (nI v + 1) r2 = _
          unfold k_X13_templs_5
          rw [if_pos b]
          rfl
        · rcases w3 with ⟨X3, z1, z2⟩ | w3
          · exact Or.inl ⟨v + 1, va_up T (v + 1) t2, u2 + 1, q2, m2, t2, e2, p2, l2, s2, i2, by omega, by omega, gr.adv z1 z2, by omega, H2.la X3 w1 w2⟩
          · exact Or.inr (flt2 w1 w2 w3)
  by_cases v0 : v = 0
  · subst v0
    refine h2_ckL rfl (h2_ckL (l2_ix ht3 (by decide)) (h2_lL ?_))
    rw [nI_clamp (n := t0) (by omega)]
    exact key _ (l2_fr.set (Or.inl ⟨rfl, rfl, rfl⟩)) ⟨fun _ => by simp only [l2_gI, reduceIte], fun y => absurd y (by decide)⟩
  · have n0 : ¬ nI v = 0 := fun y => v0 ((nI_eq (b := 0) (by omega) (by decide)).mp y)
    have e5 : l5 = nI (T (v - 1)) := by rw [hl5, if_pos (by omega)]
    have tv := bT.mono (v - 1) v (by omega) (Nat.le_refl _)
    have tv2 := bT.2.1
    subst e5
    refine h2_noL n0 (h2_ckL (l2_ix (by omega) (by decide)) (h2_lL ?_))
    rw [nI_clamp (n := T (v - 1)) (by omega)]
    exact key _ (l2_fr.set (Or.inr ⟨rfl, by omega, rfl⟩)) ⟨fun y => absurd y v0, fun _ => by simp only [l2_gI, reduceIte]⟩
end
