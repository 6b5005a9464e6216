/-! Level 2: exps on both sides: all levels, an exp whole. -/
theorem lv_all {k j dd : Nat} (hA : hA_R (k + 6) (j + 3) dd) : LVs k j 0 dd := lv_step (by decide) (lv_step (by decide) (lv_step (by decide) (lv_step (by decide) (lv_step (by decide) (lv_5 hA)))))
/-- the end of the class's readExp -/
noncomputable def exF (l1 l2 : Int32) (r1 : t_S) : Option (Int32 × t_S) := if l1 = (-1 : Int32) then ((f_X0_emit (0 : Int32) (0 : Int32) r1).bind (fun r2 => some (l2, r2.2))) else (some (l2, r1))
section
variable {P : pc_S} {E : en_S} {EB PB IB u q m t e p l w o s i dd k j : Nat} {c r : t_S}
/-- an exp from its first token on -/
theorem ex_core {xd l1 l2 : Int32} (hA : hA_R (k + 6) (j + 3) dd) (hl : (if (0 : Int32) < l1 then l1 else (0 : Int32)) = xd) (hx : xd + 1 = nI dd) (hod : o + 16 ≤ 16 * dd) (X : xp P E u 0 0 q m t e p l w o s i dd c r) (hb : xb P EB PB IB u q t e p l w o s i dd) : ∃ y, (R_X13_base (j + 12)).2.2.2.2.2.1 (nI 0) r = some y ∧ ((∃ n c2, y.1 = nI n ∧ k_X6_readExp_43 (R_X6_readBase (k + 10)) l1 l2 c = exF l1 l2 c2 ∧ xG P E 0 0 (20 * dd - 5) u q m t e p l w o s i dd c r n c2 y.2) ∨ (∃ n p0, y.1 = nI n ∧ m ≤ n ∧ n < 13000 ∧ y.2.1 960 n = -1 ∧ t_hk (k_X6_readExp_43 (R_X6_readBase (k + 10)) l1 l2 c) (fun z => z.1 = l2 ∧ xF 2 p0 t e p l w o w c z.2) ∧ rj P p0 m s r y.2) ∨ (∃ f p0, t_hk (k_X6_readExp_43 (R_X6_readBase (k + 10)) l1 l2 c) (fun z => z.1 = l2 ∧ xF f p0 t e p l w o w c z.2) ∧ xR P f p0 m s r y.2)) := by
  have ple := X.1.ple
  have hb' := hb
  unfold xb at hb'
  obtain ⟨y, e1, h⟩ := lv_all (k := k) (j := j) hA P E EB PB IB xd l1 l2 0 t e p l w m s c r u q m t e p l w o s i c r 0 X hb hod hl hx (Nat.zero_le _) ⟨Nat.le_refl _, Nat.le_refl _, Nat.le_refl _, Nat.le_refl _, Nat.le_refl _, Nat.le_refl _⟩ l2_fr.rf l2_fr.rf xw.nil ⟨Nat.le_refl _, Or.inl ⟨rfl, rfl⟩⟩ (Nat.le_refl _)
  have e43 : k_X6_readExp_43 (R_X6_readBase (k + 10)) l1 l2 c = exL (R_X6_readBase (k + 10)) l1 l2 w t_N 0 c := by
    unfold k_X6_readExp_43 exL
    have h7 : c.1 845 7 = nI w := X.2.2.2.2.2.2.1
    rw [h7]
    rfl
  have tN : 3002 ≤ t_N + 0 := Nat.le_of_lt (Nat.lt_trans (show 3002 < 1000000000 by decide) l2_N)
  rw [e43]
  refine ⟨y, e1, ?_⟩
  rcases h with ⟨n, b, y1, hb0, j1, c1, c2, qq, EQ, G, L, eb, etk, h10, hq⟩ | ⟨f, p0, hC, hR⟩ | ⟨_, n, p0, y1, y2, y3, y4, hC, hJ⟩
  · refine Or.inl ⟨n, c2, y1, ?_, G⟩
    have b0 : b = 0 := by omega
    subst b0
    have h7 : c2.1 845 7 = nI w := by
      obtain ⟨_, _, _, _, _, _, _, _, _, _, _, X', _⟩ := G
      exact X'.2.2.2.2.2.2.1
    obtain ⟨N, eN⟩ : ∃ N, t_N = N + 1 + j1 := ⟨t_N - 1 - j1, by omega⟩
    have ls : f_X6_lower (nI w) (nI 0) c1 = some c2 := L.lower (by omega) (Nat.zero_le _) (lw_stop h7 (by omega) (tb := 0) ⟨Nat.le_refl _, Or.inl ⟨rfl, rfl⟩⟩ (by decide) (Or.inr (Or.inr rfl)))
    rw [eN, EQ, lp_1]
    show Option.bind (k_X6_readExp_60 (R_X6_readBase (k + 10)) l1 l2 (nI w) (nI (0 + j1)) c1) _ = _
    have e60 : k_X6_readExp_60 (R_X6_readBase (k + 10)) l1 l2 (nI w) (nI (0 + j1)) c1 = (exF l1 l2 c2).map Sum.inr := by
      unfold k_X6_readExp_60
      rw [if_neg (show ¬ (3000 : Int32) ≤ nI (0 + j1) from nI_ge (b := 3000) (by omega) (by decide)), eb, if_pos (show nI 0 = (0 : Int32) from rfl)]
      unfold k_X6_readExp_175
      show Option.map _ ((f_X6_lower (nI w) (nI 0) c1).bind _) = _
      rw [ls]
      rfl
    rw [e60]
    cases exF l1 l2 c2 <;> rfl
  · exact Or.inr (Or.inr ⟨f, p0, hC _ tN, hR⟩)
  · exact Or.inr (Or.inl ⟨n, p0, y1, y2, y3, y4, hC _ tN, hJ⟩)
/-- .. told one depth up -/
theorem xG.dp {n : Nat} {r2 c' r' : t_S} (h : xG P E 0 0 (20 * (dd + 1) - 5) u q m t e p l w o s i (dd + 1) c r2 n c' r') (g : l2_fr (fun b j => b = 950 ∧ j = 32) r r2) : xG P E 0 0 (20 * dd + 15) u q m t e p l w o s i dd c r n c' (t_setI r' 950 32 (nI dd)) := by
  obtain ⟨u', q', m', t', e', p', l', s', i', k1, k2, X, k4, k5, k6, k7, k8, k9⟩ := h
  have f : l2_fr (fun b j => b = 950 ∧ j = 32) r' (t_setI r' 950 32 (nI dd)) := l2_fr.set ⟨rfl, rfl⟩
  have v : (t_setI r' 950 32 (nI dd)).1 950 32 = nI dd := by simp only [l2_gI, reduceIte]
  generalize t_setI r' 950 32 (nI dd) = r3 at *
  have nf : l2_fr (fun _ _ => False) c' c' := l2_fr.rf
  rw [show 20 * (dd + 1) - 5 = 20 * dd + 15 by omega] at k6
  refine ⟨u', q', m', t', e', p', l', s', i', k1, k2, ?_, k4, ((g.mono (fun b j y => Or.inl ⟨y.1, by omega⟩)).trans k5).trans (f.mono (fun b j y => Or.inl ⟨y.1, by omega⟩)), k6.own nf f (Nat.le_refl _) (Nat.le_refl _) (Nat.le_refl _) ⟨Nat.le_refl _, Nat.le_refl _⟩ (fun b j y => y.elim) (fun b j y => by omega), k7.own nf f (fun b j y => y.elim) (fun b j y => by omega), by rw [(f 960 n (by omega)).1]; exact k8, k9⟩
  obtain ⟨x1, x2, x3, x4, x5, x6, x7, x8, x9, x10, x11⟩ := X
  exact ⟨x1.fr nf f (fun j y => y) (fun b i _ _ y => y) (fun b i _ _ y => y) (fun y => y) (fun j _ => by omega) (fun b i _ _ => by omega), x2.fr nf f (fun j _ _ y => y) (fun b i _ _ y => y) ⟨by omega, by omega⟩, x3, x4, x5, x6, x7, x8, by rw [(f 950 36 (by omega)).1]; exact x9, by rw [(f 950 26 (by omega)).1]; exact x10, v⟩
theorem xp.dp (X : xp P E u 0 0 q m t e p l w o s i dd c r) (d' : Nat) : xp P E u 0 0 q m t e p l w o s i d' c (t_setI r 950 32 (nI d')) := by
  have g : l2_fr (fun b j => b = 950 ∧ j = 32) r (t_setI r 950 32 (nI d')) := l2_fr.set ⟨rfl, rfl⟩
  have v32 : (t_setI r 950 32 (nI d')).1 950 32 = nI d' := by simp only [l2_gI, reduceIte]
  generalize t_setI r 950 32 (nI d') = r2 at *
  obtain ⟨x1, x2, x3, x4, x5, x6, x7, x8, x9, x10, x11⟩ := X
  exact ⟨x1.fr (l2_fr.rf (W := fun _ _ => False)) g (fun j y => y) (fun b i _ _ y => y) (fun b i _ _ y => y) (fun y => y) (fun j _ => by omega) (fun b i _ _ => by omega), x2.fr (l2_fr.rf (W := fun _ _ => False)) g (fun j _ _ y => y) (fun b i _ _ y => y) ⟨by omega, by omega⟩, x3, x4, x5, x6, x7, x8, by rw [(g 950 36 (by omega)).1]; exact x9, by rw [(g 950 26 (by omega)).1]; exact x10, v32⟩
/-- an exp that is read by its own: what both come to; l1: its depth, or -1 for a whole one -/
def exO (P : pc_S) (E : en_S) (l1 : Int32) (u q m t e p l w o s i dd : Nat) (c r : t_S) (a : Option (Int32 × t_S)) (y : Int32 × t_S) : Prop := (∃ n c2, y.1 = nI n ∧ a = exF l1 (nI e) c2 ∧ xG P E 0 0 (20 * dd + 15) u q m t e p l w o s i dd c r n c2 y.2) ∨ (∃ n p0, y.1 = nI n ∧ m ≤ n ∧ n < 13000 ∧ y.2.1 960 n = -1 ∧ t_hk a (fun z => z.1 = nI e ∧ xF 2 p0 t e p l w o w c z.2) ∧ rj P p0 m s r y.2) ∨ (∃ f p0, t_hk a (fun z => z.1 = nI e ∧ xF f p0 t e p l w o w c z.2) ∧ xR P f p0 m s r y.2)
theorem ex_any {l1 : Int32} (hA : dd ≤ 16 → hA_R (k + 6) (j + 3) (dd + 1)) (hl : (if (0 : Int32) < l1 then l1 else (0 : Int32)) = nI dd) (h16 : l1 ≤ 16 ↔ dd ≤ 16) (X : xp P E u 0 0 q m t e p l w o s i dd c r) (hb : xb P EB PB IB u q t e p l w o s i dd) : ∃ y, m_X13_exp (R_X13_base (j + 12)) r = some y ∧ exO P E l1 u q m t e p l w o s i dd c r (m_X6_readExp (R_X6_readBase (k + 10)) l1 c) y := by
  have hb' := hb
  unfold xb at hb'
  have ple := X.1.ple
  have f0 := X.1.f0
  have e32 : r.1 950 32 = nI dd := X.2.2.2.2.2.2.2.2.2.2
  have e2 : c.1 334 2 = nI e := X.2.2.2.1
  have S10 := xS_R (k + 6)
  have hB1 : ∀ x, bC ((R_X6_readBase (k + 10)).2.2.2.2.2.2.2.1 x) := S10.2.2.2.2.2.2.1
  unfold m_X6_readExp m_X13_exp
  rw [if_pos f0.2, e2]
  -- a fault told here
  have flt : ∀ f : Nat, 0 < f ∧ f < 100 → ∀ {F : t_S → Option (Int32 × t_S)}, (∀ f p0 c1, xF f p0 t e p l w o w c c1 → t_hk (F c1) (fun y => y.1 = nI e ∧ xF f p0 t e p l w o w c y.2)) → ∃ y, k_X13_exp_38 (R_X13_base (j + 12)) (nI f) r = some y ∧ exO P E l1 u q m t e p l w o s i dd c r ((f_X2_fail (nI f) c).bind F) y := by
    intro f hf F hFF
    unfold k_X13_exp_38
    obtain ⟨c1, r1, g1, g2, w1, w2, f2, p0, w3, w4⟩ := pj_fail (f := f) X.1 (by decide) hf
    have hF : xF f2 p0 t e p l w o w c c1 := xF.of X (by omega) (by omega) ⟨Nat.le_refl _, by omega⟩ ⟨Nat.le_refl _, Nat.le_refl _⟩ l2_fr.rf w1 (fun b j z => x_la z) ⟨by unfold la_W; omega, by unfold la_W; omega, by unfold la_W; omega⟩ (fun j => by unfold la_W; omega) w3 xw.nil
    have hR' : xR P f2 p0 m s r r1 := xR.of X.1 (by decide) w2 w4 (s := s)
    rw [g1, g2]
    exact ⟨_, rfl, Or.inr (Or.inr ⟨f2, p0, hFF _ _ _ hF, hR'⟩)⟩
  have e43 : ∀ f p0 c1, xF f p0 t e p l w o w c c1 → t_hk (k_X6_readExp_43 (R_X6_readBase (k + 10)) l1 (nI e) c1) (fun y => y.1 = nI e ∧ xF f p0 t e p l w o w c y.2) := fun f p0 c1 h => l2_imp (h.exp43 hB1 _ _) (fun z hz => ⟨hz.2, hz.1⟩)
  rcases X.1.be with ⟨b1, b2⟩ | ⟨b1, b2⟩
  rotate_left
  · rw [if_pos b1]
    have e25 : k_X13_exp_25 (R_X13_base (j + 12)) r = k_X13_exp_38 (R_X13_base (j + 12)) (nI 2) r := by
      unfold k_X13_exp_25
      rw [if_pos b2]
      rfl
    have er : ∀ G : Option (Int32 × t_S), (if (16 : Int32) < r.1 950 32 then k_X13_exp_25 (R_X13_base (j + 12)) r else (if f_X13_beginsExp r = 0 then k_X13_exp_25 (R_X13_base (j + 12)) r else G)) = k_X13_exp_38 (R_X13_base (j + 12)) (nI 2) r := fun G => by
      rw [e25, if_pos b2]
      by_cases z : (16 : Int32) < r.1 950 32
      · rw [if_pos z]
      · rw [if_neg z]
    rw [er]
    refine flt 2 (by decide) (fun f p0 c1 h => ?_)
    unfold k_X6_readExp_29
    exact l2_if (fun _ => e43 _ _ _ h) (fun _ => l2_eq (h.stay.2.1 _) (e43 _ _ _ h))
  rw [if_neg (show ¬ f_X6_beginsExp (c.1 1 8) c = 0 by rw [b1]; decide)]
  unfold k_X6_readExp_29
  by_cases dp : dd ≤ 16
  rotate_left
  · have n2 : (16 : Int32) < r.1 950 32 := by rw [e32]; exact (nI_ltI (a := 16) (b := dd) (by decide) (by omega)).mpr (by omega)
    rw [if_neg (fun y => dp (h16.mp y)), if_pos n2]
    unfold k_X13_exp_25
    rw [if_neg (by rw [b2]; decide)]
    exact flt 5 (by decide) e43
  have n2 : ¬ (16 : Int32) < r.1 950 32 := by
    rw [e32]
    exact nI_nlt (a := 16) dp (by decide)
  rw [if_pos (h16.mpr dp), if_neg n2, if_neg (show ¬ f_X13_beginsExp r = 0 by rw [b2]; decide)]
  have ed : r.1 950 32 + 1 = nI (dd + 1) := by rw [e32, nI_succ]
  rw [ed]
  show ∃ y, ((R_X13_base (j + 12)).2.2.2.2.2.1 (nI 0) (t_setI r 950 32 (nI (dd + 1)))).bind (fun r2 => some (r2.1, t_setI r2.2 950 32 ((r2.2.1 950 32) - (1 : Int32)))) = some y ∧ _
  have g : l2_fr (fun b j => b = 950 ∧ j = 32) r (t_setI r 950 32 (nI (dd + 1))) := l2_fr.set ⟨rfl, rfl⟩
  have X2 := X.dp (dd + 1)
  generalize t_setI r 950 32 (nI (dd + 1)) = r2 at *
  have hb2 : xb P EB PB IB u q t e p l w o s i (dd + 1) := by
    unfold xb
    omega
  have gw : l2_fr (xWr m s) r r2 := g.mono (fun b j y => Or.inl ⟨y.1, by omega⟩)
  obtain ⟨y, e1, h⟩ := ex_core (k := k) (j := j) (l2 := nI e) (hA dp) hl (by rw [nI_succ]) (by omega) X2 hb2
  rw [e1]
  refine ⟨_, rfl, ?_⟩
  have f : l2_fr (fun b j => b = 950 ∧ j = 32) y.2 (t_setI y.2 950 32 ((y.2.1 950 32) - (1 : Int32))) := l2_fr.set ⟨rfl, rfl⟩
  rcases h with ⟨n, c2, y1, y2, G⟩ | ⟨n, p0, y1, y2, y3, y4, y5, y6⟩ | ⟨f', p0, y1, y2⟩
  · have e33 : y.2.1 950 32 - 1 = nI dd := by
      obtain ⟨_, _, _, _, _, _, _, _, _, _, _, X', _⟩ := G
      have e : y.2.1 950 32 = nI (dd + 1) := X'.2.2.2.2.2.2.2.2.2.2
      rw [e, nI_pred]
    refine Or.inl ⟨n, c2, y1, y2, ?_⟩
    show xG P E 0 0 (20 * dd + 15) u q m t e p l w o s i dd c r n c2 (t_setI y.2 950 32 ((y.2.1 950 32) - (1 : Int32)))
    rw [e33]
    exact G.dp g
  · exact Or.inr (Or.inl ⟨n, p0, y1, y2, y3, by rw [(f 960 n (by omega)).1]; exact y4, y5, (y6.fr f (fun b j y => Or.inr (Or.inr y))).sub gw (Nat.le_refl _) (Nat.le_refl _)⟩)
  · exact Or.inr (Or.inr ⟨f', p0, y1, (y2.fr f (fun b j y => Or.inl ⟨y.1, by omega⟩) (fun j _ => by omega) (fun b i _ _ => by omega)).sub gw (Nat.le_refl _) (Nat.le_refl _)⟩)
/-- an exp within another -/
theorem ex_step (hA : dd ≤ 16 → hA_R (k + 6) (j + 3) (dd + 1)) : hE_R (R_X6_readBase (k + 11)) (R_X13_base (j + 13)) dd := by
  intro P E EB PB IB u q m t e p l w o s i c r X hb
  have hb' := hb
  unfold xb at hb'
  have h16 : nI dd ≤ 16 ↔ dd ≤ 16 := ⟨fun y => by
    by_cases z : dd ≤ 16
    · exact z
    · exact absurd y (fun y => Int32.not_le.mpr ((nI_ltI (a := 16) (b := dd) (by decide) (by omega)).mpr (by omega)) y), fun y => Int32.not_lt.mp (nI_nlt (a := 16) y (by decide))⟩
  have hl : (if (0 : Int32) < nI dd then nI dd else (0 : Int32)) = nI dd := by
    by_cases z : (0 : Int32) < nI dd
    · rw [if_pos z]
    · rw [if_neg z]
      by_cases z2 : dd = 0
      · rw [z2]; rfl
      · exact absurd ((nI_ltI (a := 0) (b := dd) (by decide) (by omega)).mpr (by omega)) z
  have nm : ¬ nI dd = (-1 : Int32) := fun y => nI_pos (n := dd) (by omega) (by rw [y]; decide)
  obtain ⟨y, e1, h⟩ := ex_any (l1 := nI dd) hA hl h16 X hb
  show t_h2 (m_X6_readExp (R_X6_readBase (k + 10)) (nI dd) c) (m_X13_exp (R_X13_base (j + 12)) r) _
  rcases h with ⟨n, c2, y1, y2, G⟩ | ⟨n, p0, y1, y2, y3, y4, ⟨z, z1, z2, z3⟩, y6⟩ | ⟨f, p0, ⟨z, z1, z2, z3⟩, y2⟩
  · refine ⟨(nI e, c2), y, ?_, e1, rfl, Or.inl ⟨n, y1, Or.inl G⟩⟩
    rw [y2]
    unfold exF
    rw [if_neg nm]
  · exact ⟨z, y, z1, e1, z2, Or.inl ⟨n, y1, Or.inr ⟨y2, y3, y4, p0, z3, y6⟩⟩⟩
  · exact ⟨z, y, z1, e1, z2, Or.inr ⟨f, p0, z3, y2⟩⟩
end
