/-! Level 2: [ pieces ] on both sides: a turn, whole. -/
section
variable {P : pc_S} {E : en_S} {lv xd : Int32} {EB PB IB t0 m0 u q m t e p l w o s i dd : Nat} {c0 r0 : t_S} {rc2 rc3 rc4 rc5 rc6 rcC : RT_X6_readBase} {rR rR3 : RT_X13_base}
theorem pm_ref (hTs : ∀ a b s, rR.2.2.2.2.2.2.2.2.1 a b s = m_X13_templs rR3 a b s) {F : Int32 × t_S → Option ((Int32 × Int32 × Int32 × Int32 × t_S) ⊕ t_S)} (r : t_S) : ((f_X13_node (39 : Int32) (1 : Int32) r).bind (fun r3 => (f_X13_next r3.2).bind (fun r4 => (f_X13_mustBe (40 : Int32) r4).bind (fun r5 => (rR.2.2.2.2.2.2.2.2.1 r3.1 (0 : Int32) r5).bind (fun r6 => (f_X13_mustBe (41 : Int32) r6).bind (fun r7 => F (r3.1, r7))))))) = (pmR rR3 r).bind F := by
  unfold pmR rowWR rowR
  show _ = ((f_X13_node 39 1 r).bind _).bind _
  cases f_X13_node 39 1 r with
  | none => rfl
  | some r1 =>
    simp only [l2_bs]
    cases f_X13_next r1.2 with
    | none => rfl
    | some r2 =>
      simp only [l2_bs]
      cases f_X13_mustBe 40 r2 with
      | none => rfl
      | some r3 =>
        simp only [l2_bs]
        rw [hTs]
        cases m_X13_templs rR3 r1.1 0 r3 with
        | none => rfl
        | some r4 =>
          simp only [l2_bs]
          cases f_X13_mustBe 41 r4 <;> rfl
theorem pc_turn (ht : t0 < t) (ht3 : t0 < 6100) (hm : m0 < m) (hb : xb P EB PB IB u q t e p l w o s i dd) (hT : hT_R rcC rR dd) (hx : xd + 1 = nI dd) (hTC : ∀ a b s, rcC.2.2.2.2.2.2.2.2.2.2.2.2.2.1 a b s = m_X6_readTempl rc6 a b s) (hB : ∀ x y, bC2 (rcC.2.2.2.2.2.2.2.2.2.2.2.2.2.1 x y)) (hR : xT rR) (hP : ∀ a b s, rcC.2.2.2.2.2.2.2.2.1 a b s = m_X6_readPerm rc2 a b s) (hTs : ∀ a b s, rR.2.2.2.2.2.2.2.2.1 a b s = m_X13_templs rR3 a b s) (hW : ∀ a b d g s, rc2.2.2.2.2.2.2.2.2.2.2.1 a b d g s = m_X6_readRow rc5 a b d g s) (hI : ∀ a b d g s, rc5.2.2.2.2.2.1 a b d g s = m_X6_readInner rc3 a b d g s) (hT3 : hT_R rc3 rR3 dd) (hTC3 : ∀ a b s, rc3.2.2.2.2.2.2.2.2.2.2.2.2.2.1 a b s = m_X6_readTempl rc4 a b s) (hB3 : ∀ x y, bC2 (rc3.2.2.2.2.2.2.2.2.2.2.2.2.2.1 x y)) (hR3 : xT rR3) : ∀ k x y, pcI P E lv xd t0 m0 u q m t e p l w o s i dd c0 r0 k x y → t_h2 (b_X6_readPieces_30 rcC x) (b_X13_templs_5 rR y) (h2_nx (b_X6_readPieces_30 rcC) (b_X13_templs_5 rR) (fun x y => ∃ j, j < k ∧ pcI P E lv xd t0 m0 u q m t e p l w o s i dd c0 r0 j x y) (fun c' r1 => t_hk (f_X13_mustBe 93 r1) (rwQ P E lv True t0 m0 u q m t e p l w o s i dd c0 r0 c'))) := by
  have hPB : ∀ x y, bC2 (rcC.2.2.2.2.2.2.2.2.1 x y) := fun x y f p0 t e p l w o w' c0 c h => by
    rw [hP]
    exact bf_perm rc2 x y f p0 t e p l w o w' c0 c h
  rintro k x y ⟨v, c, r, l5, hv, rfl, rfl, rfl, h⟩
  rcases h with ⟨T, u', q', m', t', e', p', l', s', i', k1, H, hl5⟩ | ⟨f, p0, hF, hRR⟩
  rotate_left
  · refine pc_flt (hF.pc30 hB hPB _ _ _ _ hv) (l2_imp (hRR.templs5 _ _ _ _) (fun z hz => Or.inl hz))
  have X := H.1
  have hmm := H.2.1
  have f0 := X.1.f0
  have ple := X.1.ple
  have hb' := k1.bnd hb
  have hb2 := hb'
  unfold xb at hb2
  have k2 := k1
  unfold rk at k2
  obtain ⟨ml, _, _, _⟩ := X.1.mle (by decide)
  have HH := H
  obtain ⟨_, _, fc, fr, bT, _⟩ := HH
  have fc0 : l2_fr (xWc t0 e p l w o) c0 c := fc.mono (fun b j y => by
    rcases y with y | ⟨rfl, rfl⟩
    · exact y.sub (by omega) (Nat.le_refl _) (Nat.le_refl _) (Nat.le_refl _) (Nat.le_refl _) (Nat.le_refl _)
    · exact xWc.itm (by decide) (by decide) (Nat.le_refl _))
  have fr0 : l2_fr (xWr m0 s) r0 r := fr.mono (fun b j y => by
    rcases y with y | ⟨rfl, rfl⟩
    · exact y.sub (by omega) (Nat.le_refl _)
    · exact Or.inr (Or.inr (Or.inl ⟨by decide, by decide, Nat.le_refl _⟩)))
  show t_h2 (k_X6_readPieces_30 rcC (nI t0) xd lv l5 (nI v) c) (k_X13_templs_5 rR (nI m0) 1 1 (nI v) r) _
  unfold k_X6_readPieces_30 k_X13_templs_5
  refine h2_noL (nI_nlt (a := 12) hv (by decide)) (h2_noR (by decide) (h2_ckR f0.2 (h2_noR (by decide) ?_)))
  -- a fault told here
  have flt : ∀ f : Nat, 0 < f ∧ f < 100 → ∀ (z : Int32) {F : t_S → Option ((Int32 × Int32 × Int32 × Int32 × Int32 × t_S) ⊕ t_S)}, (∀ f p0 c1, xF f p0 t0 e p l w o w c0 c1 → t_hk (F c1) (fun y => ∃ r, y = .inr r ∧ xF f p0 t0 e p l w o w c0 r)) → t_h2 ((f_X2_fail (nI f) c).bind F) ((f_X13_fail (nI f) (r.1 950 6) r).bind (fun r1 => k_X13_templs_68 rR (nI m0) 1 (nI v) z r1)) (h2_nx (b_X6_readPieces_30 rcC) (b_X13_templs_5 rR) (fun x y => ∃ j, j < 13 - v ∧ pcI P E lv xd t0 m0 u q m t e p l w o s i dd c0 r0 j x y) (fun c' r1 => t_hk (f_X13_mustBe 93 r1) (rwQ P E lv True t0 m0 u q m t e p l w o s i dd c0 r0 c'))) := by
    intro f hf z F hFF
    refine h2_bb _ (pj_fail (f := f) X.1 (by decide) hf) (fun c1 r1 hw => ?_)
    obtain ⟨w1, w2, f2, p0, w3, w4⟩ := hw
    have hF : xF f2 p0 t0 e p l w o w c0 c1 := xF.of X (by omega) (by omega) ⟨Nat.le_refl _, by omega⟩ ⟨by omega, Nat.le_refl _⟩ fc0 w1 (fun b j z => x_la z) ⟨by unfold la_W; omega, by unfold la_W; omega, by unfold la_W; omega⟩ (fun j => by unfold la_W; omega) w3 xw.nil
    have hR' : xR P f2 p0 m0 s r0 r1 := (xR.of X.1 (by decide) w2 w4 (s := s)).sub fr0 (by omega) (Nat.le_refl _)
    exact pc_flt (hFF _ _ _ hF) (l2_imp (hR'.templs68 hR (by omega) _ _ _ _) (fun z hz => by
      obtain ⟨a, b, d, r', rfl, h'⟩ := hz
      exact Or.inr ⟨_, _, _, _, _, rfl, h'⟩))
  -- behind a part that met a fault
  have bad : ∀ {f p0 : Nat} {c1 r1 : t_S} (z1 z2 : Int32), xF f p0 t' e' p' l' w o w c c1 → xR P f p0 m' s' r r1 → t_h2 (k_X6_readPieces_116 rcC (nI t0) xd lv l5 (nI v) z1 c1) ((f_X13_hang (nI m0) z2 r1).bind (fun r2 => k_X13_templs_124 rR (nI m0) 1 (nI v) r2)) (h2_nx (b_X6_readPieces_30 rcC) (b_X13_templs_5 rR) (fun x y => ∃ j, j < 13 - v ∧ pcI P E lv xd t0 m0 u q m t e p l w o s i dd c0 r0 j x y) (fun c' r1 => t_hk (f_X13_mustBe 93 r1) (rwQ P E lv True t0 m0 u q m t e p l w o s i dd c0 r0 c'))) := fun z1 z2 y1 y2 => by
    have hF := y1.sub fc0 (by omega) (by omega) (by omega) (by omega) (Nat.le_refl _)
    have hR' := y2.sub fr0 (by omega) (by omega)
    refine pc_flt (hF.pc116 _ _ _ _ _ _) (l2_eq (hR'.hang _ _) (l2_imp (hR'.templs124 _ _ _) (fun z hz => ?_)))
    obtain ⟨a, b, d, r', rfl, h'⟩ := hz
    exact Or.inr ⟨_, _, _, _, _, rfl, h'⟩
  have n12 : v ≠ 12 → ¬ nI v = 12 := fun z y => z ((nI_eq (b := 12) (by omega) (by decide)).mp y)
  rcases X.1.isW (x := 29) (by decide) with ⟨a, b⟩ | ⟨a, b⟩
  · -- perm
    refine h2_ckL (show c.1 1 8 = 229 from a) (h2_noR (by rw [show (29 : Int32) = nI (pv 29) from rfl, b]; decide) ?_)
    unfold k_X6_readPieces_55 k_X13_templs_34
    by_cases v12 : v = 12
    · subst v12
      refine h2_ckL rfl (h2_ckR rfl (h2_noL (by decide) (h2_noR (by decide) ?_)))
      unfold k_X6_readPieces_82 k_X13_templs_56 k_X13_templs_61
      exact flt 5 (by decide) _ (fun f p0 c1 h => h.pc90 hB hPB _ _ _ _ _ _)
    refine h2_noL (n12 v12) (h2_noR (n12 v12) ?_)
    unfold k_X6_readPieces_90 k_X13_templs_68
    refine h2_noL (by decide) (h2_noR (by decide) ?_)
    rw [hP, pm_ref hTs (F := fun y => (f_X13_hang (nI m0) y.1 y.2).bind (fun r8 => k_X13_templs_124 rR (nI m0) 1 (nI v) r8))]
    refine h2_bb _ (pm_perm (lv := lv + 1) hW hI hT3 hx hTC3 hB3 hR3 X hb' a) (fun a b hab => ?_)
    rcases hab with ⟨n, a1, b1, G⟩ | ⟨f, p0, y1, y2⟩
    · rw [a1, b1]
      exact pc_key ht ht3 hm hv v12 hb k1 H hl5 (Or.inr ⟨rfl, trivial⟩) G
    · exact bad _ _ y1 y2
  refine h2_noL (show ¬ c.1 1 8 = 229 from a) (h2_ckR (by rw [show (29 : Int32) = nI (pv 29) from rfl, b]) ?_)
  unfold k_X6_readPieces_55 k_X13_templs_33 k_X13_templs_34
  by_cases v12 : v = 12
  · subst v12
    refine h2_ckL rfl (h2_ckR rfl (h2_ckL rfl (h2_ckR rfl ?_)))
    rcases X.1.bt with ⟨b1, b2, _⟩ | ⟨b1, b2⟩
    · refine h2_noL (by rw [b1]; decide) (h2_noR (by rw [b2]; decide) ?_)
      unfold k_X6_readPieces_82 k_X13_templs_56 k_X13_templs_61
      exact flt 5 (by decide) _ (fun f p0 c1 h => h.pc90 hB hPB _ _ _ _ _ _)
    · refine h2_ckL b1 (h2_ckR b2 ?_)
      unfold k_X13_templs_61 k_X6_readPieces_90
      rw [if_pos rfl, hTC]
      unfold m_X6_readTempl
      rw [if_pos b1, Option.bind_assoc]
      exact flt 2 (by decide) _ (fun f p0 c1 h => l2_bd _ (h.t21 _ _) (fun y h1 => h1.pc116 _ _ _ _ _ _))
  refine h2_noL (n12 v12) (h2_noR (n12 v12) ?_)
  unfold k_X6_readPieces_90 k_X13_templs_68
  rw [hx]
  refine h2_ckL rfl (h2_ckR rfl (h2_bb _ (hT P E EB PB IB (lv + 1) _ _ _ _ _ _ _ _ _ _ _ _ _ X hb') (fun a b hab => ?_)))
  rcases hab with ⟨n, a1, b1, G⟩ | ⟨f, p0, y1, y2⟩
  · rw [a1, b1]
    exact pc_key ht ht3 hm hv v12 hb k1 H hl5 (Or.inl rfl) G
  · exact bad _ _ y1 y2
end
