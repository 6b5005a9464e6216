/-! Level 2: a templ on both sides, once its tones are known. -/
/-- what is told from a later state of the reference -/
theorem xTm_R.back {P : pc_S} {E : en_S} {lv : Int32} {u q m t e p l w o s i dd : Nat} {c r r' : t_S} {x y : Int32 × t_S} (h : xTm_R P E lv u q m t e p l w o s i dd c r' x y) (g : l2_fr (xWr m s) r r') : xTm_R P E lv u q m t e p l w o s i dd c r x y := by
  rcases h with ⟨n, h1, h2, u', q', m', t', e', p', l', s', i', k1, k2, k3, k4, k5, k6⟩ | ⟨f, p0, h1, h2⟩
  · exact Or.inl ⟨n, h1, h2, u', q', m', t', e', p', l', s', i', k1, k2, k3, k4, g.trans k5, k6⟩
  · exact Or.inr ⟨f, p0, h1, h2.sub g (Nat.le_refl _) (Nat.le_refl _)⟩
section
variable {dd : Nat} {rcC rc2 : RT_X6_readBase} {rcR rR2 rR3 : RT_X13_base}
theorem tm_step (hTC : ∀ a b s, rcC.2.2.2.2.2.2.2.2.2.2.2.2.2.1 a b s = m_X6_readTempl rc2 a b s) (hRT : ∀ s, rcR.2.2.2.2.2.2.2.1 s = m_X13_templ rR2 s) (hRt : ∀ s, rR2.2.2.2.2.2.2.2.2.2.1 s = m_X13_tone rR3 s) (hTone : dd ≤ 16 → ∀ P E EB PB IB lv u q m t e p l w o s i c r, xp P E u 0 0 q m t e p l w o s i (dd + 1) c r → xb P EB PB IB u q t e p l w o s i (dd + 1) → (∃ k, k ∈ bt_L ∧ c.1 1 8 = nI k) → t_h2 (tcC rc2 lv (nI dd) c) (m_X13_tone rR3 r) (tO_R P E lv u q m t e p l w o s i (dd + 1) c r)) : hT_R rcC rcR dd := by
  intro P E EB PB IB lv u q m t e p l w o s i c r X hb
  have hb' := hb
  unfold xb at hb'
  have ple := X.1.ple
  have f0 := X.1.f0
  have e32 : r.1 950 32 = nI dd := X.2.2.2.2.2.2.2.2.2.2
  rw [hTC, hRT]
  unfold m_X6_readTempl m_X13_templ
  refine h2_ckR f0.2 ?_
  -- a fault told here
  have flt : ∀ f : Nat, 0 < f ∧ f < 100 → ∀ {F : t_S → Option (Int32 × t_S)}, (∀ f p0 c1, xF f p0 t e p l w o w c c1 → t_hk (F c1) (fun y => xF f p0 t e p l w o w c y.2)) → t_h2 ((f_X2_fail (nI f) c).bind F) (k_X13_templ_38 rR2 (nI f) r) (xTm_R P E lv u q m t e p l w o s i dd c r) := by
    intro f hf F hFF
    unfold k_X13_templ_38
    refine h2_bb _ (pj_fail (f := f) X.1 (by decide) hf) (fun c1 r1 hw => ?_)
    obtain ⟨w1, w2, f2, p0, w3, w4⟩ := hw
    have hF : xF f2 p0 t e p l w o w c c1 := xF.of X (by omega) (by omega) ⟨Nat.le_refl _, by omega⟩ ⟨Nat.le_refl _, Nat.le_refl _⟩ l2_fr.rf w1 (fun b j z => x_la z) ⟨by unfold la_W; omega, by unfold la_W; omega, by unfold la_W; omega⟩ (fun j => by unfold la_W; omega) w3 xw.nil
    have hR' : xR P f2 p0 m s r r1 := xR.of X.1 (by decide) w2 w4 (s := s)
    exact h2_doneR (l2_imp (hFF _ _ _ hF) (fun y hy => Or.inr ⟨f2, p0, hy, hR'⟩))
  rcases X.1.bt with ⟨b1, b2, b3⟩ | ⟨b1, b2⟩
  rotate_left
  · refine h2_ckL b1 ?_
    have e25 : k_X13_templ_25 rR2 r = k_X13_templ_38 rR2 (nI 2) r := by
      unfold k_X13_templ_25
      rw [if_pos b2]
      rfl
    have er : ∀ G : Option (Int32 × t_S), (if (16 : Int32) < r.1 950 32 then k_X13_templ_25 rR2 r else (if f_X13_beginsTempl r = 0 then k_X13_templ_25 rR2 r else G)) = k_X13_templ_38 rR2 (nI 2) r := fun G => by
      rw [e25, if_pos b2]
      by_cases z : (16 : Int32) < r.1 950 32
      · rw [if_pos z]
      · rw [if_neg z]
    rw [er]
    exact flt 2 (by decide) (fun f p0 c1 h => h.t21 _ _)
  refine h2_noL (by rw [b1]; decide) ?_
  unfold k_X6_readTempl_21
  by_cases dp : dd ≤ 16
  rotate_left
  · have n1 : ¬ nI dd ≤ (16 : Int32) := fun y => Int32.not_le.mpr ((nI_ltI (a := 16) (b := dd) (by decide) (by omega)).mpr (by omega)) y
    have n2 : (16 : Int32) < r.1 950 32 := by rw [e32]; exact (nI_ltI (a := 16) (b := dd) (by decide) (by omega)).mpr (by omega)
    refine h2_noL n1 (h2_ckR n2 ?_)
    unfold k_X13_templ_25
    refine h2_noR (by rw [b2]; decide) (flt 5 (by decide) (fun f p0 c1 h => ?_))
    unfold k_X6_readTempl_35
    exact l2_bd _ h.node (fun c2 h1 => l2_no h1.stay.2.2.2.2 (l2_sm h1))
  have n2 : ¬ (16 : Int32) < r.1 950 32 := by
    rw [e32]
    exact nI_nlt (a := 16) dp (by decide)
  have n1 : nI dd ≤ (16 : Int32) := Int32.not_lt.mp (nI_nlt (a := 16) dp (by decide))
  refine h2_ckL n1 (h2_noR n2 (h2_noR (by rw [b2]; decide) (h2_lR ?_)))
  have ed : r.1 950 32 + 1 = nI (dd + 1) := by rw [e32, nI_succ]
  rw [ed, k35_eq, hRt]
  have g : l2_fr (fun b j => b = 950 ∧ j = 32) r (t_setI r 950 32 (nI (dd + 1))) := l2_fr.set ⟨rfl, rfl⟩
  have v32 : (t_setI r 950 32 (nI (dd + 1))).1 950 32 = nI (dd + 1) := by simp only [l2_gI, reduceIte]
  generalize t_setI r 950 32 (nI (dd + 1)) = r2 at *
  have X2 : xp P E u 0 0 q m t e p l w o s i (dd + 1) c r2 := by
    obtain ⟨x1, x2, x3, x4, x5, x6, x7, x8, x9, x10, x11⟩ := X
    exact ⟨x1.fr (l2_fr.rf (W := fun _ _ => False)) g (fun j y => y) (fun b i _ _ y => y) (fun b i _ _ y => y) (fun y => y) (fun j _ => by omega) (fun b i _ _ => by omega), x2.fr (l2_fr.rf (W := fun _ _ => False)) g (fun j _ _ y => y) (fun b i _ _ y => y) ⟨by omega, by omega⟩, x3, x4, x5, x6, x7, x8, by rw [(g 950 36 (by omega)).1]; exact x9, by rw [(g 950 26 (by omega)).1]; exact x10, v32⟩
  have hb2 : xb P EB PB IB u q t e p l w o s i (dd + 1) := by
    unfold xb
    omega
  have gw : l2_fr (xWr m s) r r2 := g.mono (fun b j y => Or.inl ⟨y.1, by omega⟩)
  refine h2_bb _ (hTone dp P E EB PB IB lv u q m t e p l w o s i c r2 X2 hb2 b3) (fun z y hz => ?_)
  rcases hz with ⟨z1, z2, z3, G⟩ | ⟨⟨j, j1, j2, j3⟩, z2, f, p0, hF, hR⟩
  · refine h2_noL (by rw [z2]; decide) ?_
    rw [z1]
    show t_h2 _ (tlR rR2 y.1 y.2) _
    rw [z3]
    exact h2_imp (tm_tail hb dp G) (fun a b hab => hab.back gw)
  · obtain ⟨ml, _, _, _⟩ := X.1.mle (by decide)
    refine h2_sep (fun x => xF f p0 t e p l w o w c x.2) (fun v => xR P f p0 m s r2 v.2) ?_ ?_ (fun x v hx hv => xTm_R.back (Or.inr ⟨f, p0, hx, hv⟩) gw)
    · rcases z2 with z2 | ⟨z1, z2⟩
      · exact l2_ck z2 (l2_sm hF)
      · refine l2_no (by rw [z2]; decide) ?_
        rw [z1]
        exact hF.tailC (by omega) (Nat.le_refl _)
    · show t_hk (tlR rR2 y.1 y.2) _
      rw [j3]
      exact hR.tailR (by omega) j1 j2
end
