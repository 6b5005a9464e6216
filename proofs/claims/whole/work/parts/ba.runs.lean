/-! Level 2: bases on both sides: words of what runs, with something behind them; ended ( exp ). -/
section
variable {P : pc_S} {E : en_S} {x : Int32} {EB PB IB u q m t e p l w o s i dd : Nat} {c r : t_S} {rc rc2 : RT_X6_readBase} {rR rW : RT_X13_base}
theorem bs_runs {y K : Nat} {FC : t_S → Option t_S} {FR : t_S → Option (Int32 × t_S)} (hy : y = 34 ∧ K = 61 ∨ y = 35 ∧ K = 62 ∨ y = 36 ∧ K = 63) (hC : ∀ a s, rc.1 a s = m_X6_readBase rc2 a s) (hW : ∀ s, rR.2.2.2.2.2.2.2.2.2.2.1 s = m_X13_wordBase rW s) (T : xT rW) (X : xp P E u 0 0 q m t e p l w o s i dd c r) (hb : xb P EB PB IB u q t e p l w o s i dd) (h : c.1 1 8 = nI (200 + y)) (eC : ∀ s, k_X6_readBase_326 rc2 x (nI (200 + y)) s = (f_X2_advance s).bind FC) (eR : ∀ s, k_X13_wordBase_199 rW (nI y) (nI m) s = (f_X13_next s).bind FR) (flt : ∀ f p0 c1 r1, xF f p0 t e p l w o w c c1 → xR P f p0 m s r r1 → t_h2 (FC c1) (FR r1) (bO_R P E u q m t e p l w o s i dd c r)) (main : ∀ c2 r2 c4 r4, bG P E K u q m t e p l w o s i dd c r c2 r2 → l2_fr fn_C c2 c4 → l2_fr (fun b j => rn_W b j ∨ ((b = 957 ∨ b = 958 ∨ b = 961) ∧ j = m)) r2 r4 → xp P E (u + 1) 0 0 (q + 1) (m + 1) t e p l w o s i dd c4 r4 → r4.2.1 958 m = lN E.2.1 → r4.1 961 m = nI E.2.2.1 → (∀ S, lt_R c S → lt_R c4 (fun p => S p ∨ (E.2.2.2.1 = 1 ∧ p = pc_p P u))) → r4.1 956 m = nI (pc_p P u) → r4.1 955 m = nI K → pc_p P u < pc_p P (u + 1) → pc_c P u ≤ pc_c P (u + 1) → t_h2 (FC c4) (FR r4) (bO_R P E u q m t e p l w o s i dd c r)) : t_h2 (bsC rc x c) (m_X13_base rR r) (bO_R P E u q m t e p l w o s i dd c r) := by
  rw [wb_res (i := y) (K := K) (by unfold wb_T; rcases hy with ⟨rfl, rfl⟩ | ⟨rfl, rfl⟩ | ⟨rfl, rfl⟩ <;> decide) h X.1 hW]
  refine bs_mk X hb (by omega) (fun f p0 j r1 z1 z2 z3 _ _ => z1.wbF T z2 z3) (fun c2 r2 B => ?_)
  have B' := B
  have fcB := B.fc
  obtain ⟨hm, hq, X2, g1, g2, d1, d2, d3, d4, d5, d6, d7⟩ := B
  have ple := X2.1.ple
  have cle := X.1.cle
  have hb' := hb
  unfold xb at hb'
  have e8 : c2.1 1 8 = nI (200 + y) := by rw [(g1 1 8 (by omega)).1]; exact h
  have n14 : nI (200 + y) ≠ 1 ∧ nI (200 + y) ≠ 4 := by rcases hy with ⟨rfl, _⟩ | ⟨rfl, _⟩ | ⟨rfl, _⟩ <;> decide
  obtain ⟨r3, w1, w2, w3, w4⟩ := wb_set (rW := rW) (l1 := nI y) (n := m) X2 (by omega)
  rw [w1, eR, hC, mb_1 e8 (by unfold wq_T; rcases hy with ⟨rfl, _⟩ | ⟨rfl, _⟩ | ⟨rfl, _⟩ <;> decide)]
  refine h2_bL _ (ltI_h X2) (fun c3 hc3 => ?_)
  obtain ⟨h1, h2⟩ := hc3
  have e82 : k_X6_readBase_82 rc2 x (nI (200 + y)) c3 = k_X6_readBase_326 rc2 x (nI (200 + y)) c3 := by
    unfold k_X6_readBase_82
    rcases hy with ⟨rfl, _⟩ | ⟨rfl, _⟩ | ⟨rfl, _⟩ <;> rw [if_neg (by decide), if_neg (by decide), if_neg (by decide), if_neg (by decide), if_neg (by decide), if_neg (by decide), if_neg (by decide), if_neg (by decide), if_neg (by decide)]
  rw [e82, eC]
  have X3 := X2.own h1 w2 (fun b j y => by omega) (fun b j y => by omega)
  have k8 : c3.1 1 8 = nI (200 + y) := by rw [(h1 1 8 (by omega)).1]; exact e8
  have k5 : r3.1 955 m = nI K := by rw [(w2 955 m (by omega)).1]; exact d1
  have k6 : r3.1 956 m = nI (pc_p P u) := by rw [(w2 956 m (by omega)).1, d2]; exact cle.2.2.1
  have fc3 : l2_fr (xWc t e p l w o) c c3 := fcB.1.trans (h1.mono (fun b j y => fn_Cx (Or.inr y)))
  have fr3 : l2_fr (xWr m s) r r3 := fcB.2.trans (w2.mono (fun b j y => Or.inr (Or.inr (Or.inl ⟨by omega, by omega, by omega⟩))))
  refine h2_bb _ (xp_adv X3 (by decide) (Or.inr (by rw [k8]; exact n14.1)) (by rw [k8]; exact n14.2)) (fun c4 r4 hw => ?_)
  obtain ⟨v1, v2, v3⟩ := hw
  rcases v3 with ⟨X4, l1, l2⟩ | v3
  · refine main c2 r2 c4 r4 B' ((h1.mono (fun b j y => Or.inr y)).trans (v1.mono (fun b j y => Or.inl y))) ((w2.mono (fun b j y => Or.inr y)).trans (v2.mono (fun b j y => Or.inl y))) X4 (by rw [(v2 958 m (by unfold rn_W; omega)).2.1]; exact w3) (by rw [(v2 961 m (by unfold rn_W; omega)).1]; exact w4) (fun S hS => ?_) (by rw [(v2 956 m (by unfold rn_W; omega)).1]; exact k6) (by rw [(v2 955 m (by unfold rn_W; omega)).1]; exact k5) l1 l2
    exact (h2 S (hS.same (g1 846 7 (by omega)).1 (g1 846 8 (by omega)).1)).same (v1 846 7 (by unfold la_W; omega)).1 (v1 846 8 (by unfold la_W; omega)).1
  · obtain ⟨f, p0, y1, y2⟩ := xf.of (c0 := c) (r0 := r) X3 (by decide) (by omega) (by omega) ⟨Nat.le_refl _, by omega⟩ ⟨Nat.le_refl _, Nat.le_refl _, by omega, Nat.le_refl _⟩ fc3 fr3 v1 v2 v3 xw.nil
    exact flt f p0 c4 r4 y1 y2
/-- an emitted operation behind a base -/
theorem bO_emit {c' r' c8 : t_S} {u' q' m' t' e' p' l' s' i' : Nat} (X : xp P E u' 0 0 q' m' t' e' p' l' w o s' i' dd c' r') (g : l2_fr (fun b j => (b = 334 ∧ j = 2) ∨ ((b = 335 ∨ b = 336) ∧ j = e')) c' c8) (g2 : c8.1 334 2 = nI (e' + 1)) : xp P E u' 0 0 q' m' t' (e' + 1) p' l' w o s' i' dd c8 r' := X.up g (l2_fr.rf (W := fun _ _ => False)) (fun b j y => by omega) (fun b j y => y.elim) g2 (by rw [(g 334 4 (by omega)).1]; exact X.2.2.2.2.1) (by rw [(g 846 6 (by omega)).1]; exact X.2.2.2.2.2.1) X.2.2.2.2.2.2.2.2.1
noncomputable def edC (rc : RT_X6_readBase) (dd : Nat) (c : t_S) : Option t_S := (f_X2_need 40 c).bind (fun r7 => ((rc.2.2.1 (nI dd) r7).bind (fun r8 => f_X2_need (nI 41) r8.2)).bind (fun r9 => (f_X0_emit 9 0 r9).bind (fun r10 => some r10.2)))
noncomputable def edR (rW : RT_X13_base) (m : Nat) (r : t_S) : Option (Int32 × t_S) := (f_X13_mustBe 40 r).bind (fun r1 => ((rW.2.1 r1).bind (fun r2 => (f_X13_hang (nI m) r2.1 r2.2).bind (fun r3 => f_X13_mustBe 41 r3))).bind (fun r9 => some (nI m, r9)))
theorem xF.ed1 {f p0 w' : Nat} {c0 c1 : t_S} (hB : ∀ x, bC2 (rc.2.2.1 x)) (h : xF f p0 t e p l w o w' c0 c1) : t_hk (edC rc dd c1) (xF f p0 t e p l w o w' c0) := by
  unfold edC
  exact l2_eq (h.stay.2.2.1 40 (by decide)).1 (l2_bd _ (l2_bd _ (hB _ _ _ _ _ _ _ _ _ _ _ _ h) (fun z hz => l2_of (hz.stay.2.2.1 (nI 41) (by decide)).1 hz)) (fun z hz => l2_bd _ (hz.emit _ _) (fun v hv => l2_sm hv.1)))
theorem xR.ed1 {f p0 : Nat} {r0 r1 : t_S} (hR : ∀ r : t_S, r.1 950 2 ≠ 0 → rW.2.1 r = some (0, r)) (h : xR P f p0 m s r0 r1) : t_hk (edR rW m r1) (fun y => xR P f p0 m s r0 y.2) := by
  unfold edR
  exact l2_bd _ (h.mustBe _) (fun r2 h2 => l2_bd _ (l2_eq (hR r2 h2.ne) (l2_eq (h2.hang _ _) (h2.mustBe _))) (fun r3 h3 => l2_sm h3))
/-- ended ( exp ) -/
theorem bs_ended (hC : ∀ a s, rc.1 a s = m_X6_readBase rc2 a s) (hW : ∀ s, rR.2.2.2.2.2.2.2.2.2.2.1 s = m_X13_wordBase rW s) (T : xT rW) (hE : hE_R rc2 rW dd) (hx : x + 1 = nI dd) (hB : ∀ x, bC2 (rc2.2.2.1 x)) (X : xp P E u 0 0 q m t e p l w o s i dd c r) (hb : xb P EB PB IB u q t e p l w o s i dd) (h : c.1 1 8 = nI (200 + 35)) : t_h2 (bsC rc x c) (m_X13_base rR r) (bO_R P E u q m t e p l w o s i dd c r) := by
  have hR : ∀ r : t_S, r.1 950 2 ≠ 0 → rW.2.1 r = some (0, r) := fun r z => (T.1 r z).2.1
  have hb' := hb
  unfold xb at hb'
  refine bs_runs (y := 35) (K := 62) (FC := edC rc2 dd) (FR := edR rW m) (by decide) hC hW T X hb h (fun s => ?_) (fun s => ?_) (fun f p0 c1 r1 y1 y2 => h2_sep _ _ (y1.ed1 hB) (y2.ed1 hR) (fun z y hz hy => Or.inr ⟨f, p0, hz, hy⟩)) ?_
  · unfold k_X6_readBase_326 edC
    refine congrArg (Option.bind _) (funext fun r1 => ?_)
    rw [if_neg (by decide), if_neg (by decide), if_neg (by decide), if_neg (by decide), if_pos (by decide), hx]
    refine congrArg (Option.bind _) (funext fun r7 => ?_)
    rw [Option.bind_assoc]
    rfl
  · unfold k_X13_wordBase_199 edR
    refine congrArg (Option.bind _) (funext fun r1 => ?_)
    rw [if_neg (by decide), if_pos (by decide)]
    unfold k_X13_wordBase_215 k_X13_wordBase_251
    refine congrArg (Option.bind _) (funext fun r2 => ?_)
    rw [Option.bind_assoc]
    refine congrArg (Option.bind _) (funext fun r3 => ?_)
    rw [Option.bind_assoc]
    refine congrArg (Option.bind _) (funext fun r4 => ?_)
    rw [if_neg (by decide)]
  intro c2 r2 c4 r4 B fc fr X4 k8 k1 hL k6 k5 pl1 pl2
  have fcB := B.fc
  have cle := X.1.cle
  have B' := B
  obtain ⟨hm, hq, X2, g1, g2, d1, d2, d3, d4, d5, d6, d7⟩ := B
  have ple := X4.1.ple
  have fc4 : l2_fr (xWc t e p l w o) c c4 := fcB.1.trans (fc.mono (fun b j y => fn_Cx y))
  have fr4 : l2_fr (xWr m s) r r4 := fcB.2.trans (fr.mono (fun b j y => by
    rcases y with y | ⟨y, rfl⟩
    · exact x_rn y
    · exact Or.inr (Or.inr (Or.inl ⟨by omega, by omega, Nat.le_refl _⟩))))
  unfold edC edR
  refine h2_bb _ (xp_need X4 (by decide) (x := 40) (by decide) rfl) (fun c5 r5 hw => ?_)
  obtain ⟨w1, w2, w3⟩ := hw
  rcases w3 with ⟨X5, l1, l2⟩ | w3
  rotate_left
  · obtain ⟨f, p0, y1, y2⟩ := xf.of (c0 := c) (r0 := r) X4 (by decide) (by omega) (by omega) ⟨Nat.le_refl _, by omega⟩ ⟨Nat.le_refl _, Nat.le_refl _, by omega, Nat.le_refl _⟩ fc4 fr4 w1 w2 w3 xw.nil
    refine h2_sep _ _ (l2_bd _ (l2_bd _ (hB _ _ _ _ _ _ _ _ _ _ _ _ y1) (fun z hz => l2_of (hz.stay.2.2.1 (nI 41) (by decide)).1 hz)) (fun z hz => l2_bd _ (hz.emit _ _) (fun v hv => l2_sm hv.1))) (l2_bd _ (l2_eq (hR r5 y2.ne) (l2_eq (y2.hang _ _) (y2.mustBe _))) (fun r8 h8 => l2_sm h8)) (fun z y hz hy => Or.inr ⟨f, p0, hz, hy⟩)
  have k9 : r5.1 959 m = -1 := by rw [(w2 959 m (by unfold rn_W; omega)).1, (fr 959 m (by unfold rn_W; omega)).1]; exact d5
  have fc5 : l2_fr fn_C c2 c5 := fc.trans (w1.mono (fun b j y => Or.inl y))
  have fr5 : l2_fr (fun b j => rn_W b j ∨ ((b = 957 ∨ b = 958 ∨ b = 961) ∧ j = m)) r2 r5 := fr.trans (w2.mono (fun b j y => Or.inl y))
  have k55 : r5.1 955 m = nI 62 := by rw [(w2 955 m (by unfold rn_W; omega)).1]; exact k5
  have D1 : xD E c c5 r5 l l i i m (m + 1) := xD.mk1 (K := 62) (T := fun p => E.2.2.2.1 = 1 ∧ p = pc_p P u) k55 (by decide) ⟨62, by decide, by decide, k55, fun z => absurd z (by decide), fun z => absurd z (by decide), fun _ => ⟨by rw [(w2 958 m (by unfold rn_W; omega)).2.1]; exact k8, _, cle.2.2.2, by rw [(w2 956 m (by unfold rn_W; omega)).1]; exact k6⟩, fun z => absurd z (by decide)⟩ (fun a y1 y2 => by omega) (lt_N.run k55 (by decide) (by rw [(w2 956 m (by unfold rn_W; omega)).1]; exact k6) cle.2.2.2) (fun S hS => (hL S hS).same (w1 846 7 (by unfold la_W; omega)).1 (w1 846 8 (by unfold la_W; omega)).1) (fun z => by omega)
  refine h2_bb _ (bx_one hE X5 (hb.go (v := u + 1 + 1) (by omega) (by omega) (by omega)) k9 (x := 41) (by decide) rfl (by unfold rj_no; decide)) (fun c7 r7 hh => ?_)
  rcases hh with H | ⟨f, p0, y1, y2⟩
  rotate_left
  · have hF : xF f p0 t e p l w o w c c7 := y1.sub (fc4.trans (w1.mono (fun b j y => x_la y))) (Nat.le_refl _) (Nat.le_refl _) (Nat.le_refl _) (Nat.le_refl _) (Nat.le_refl _)
    have hRR : xR P f p0 m s r r7 := y2.sub (fr4.trans (w2.mono (fun b j y => x_rn y))) (Nat.le_refl _) (Nat.le_refl _)
    exact h2_doneR (l2_bd _ (hF.emit _ _) (fun z hz => l2_sm (Or.inr ⟨f, p0, hz.1, hRR⟩)))
  obtain ⟨n, u', q', m', t', e', p', l', s', i', G1, G2, G3, X7, F1, F2, F3, F4, G4, G5, G6, G7, G8, G9⟩ := bP.mk B' fc5 fr5 D1 (by omega) X5.1 H
  have ple7 := X7.1.ple
  have bd := hb.ebound G1 ple7.2.2 ple7.1 ple7.2.1
  obtain ⟨n1, n2, n3, n4⟩ := G5.at
  refine h2_bL _ (em_emit (s := c7) (e := e') 9 0 X7.2.2.2.1 (by omega)) (fun a ha => h2_sm ?_)
  obtain ⟨a0, c8⟩ := a
  obtain ⟨_, a2, a3, a4, a5⟩ := ha
  have a2 : l2_fr (fun b j => (b = 334 ∧ j = 2) ∨ ((b = 335 ∨ b = 336) ∧ j = e')) c7 c8 := a2
  have a3 : c8.1 334 2 = nI (e' + 1) := a3
  have a4 : c8.1 335 e' = 9 := a4
  have a5 : c8.1 336 e' = 0 := a5
  show bO_R P E u q m t e p l w o s i dd c r c8 (nI m, r7)
  refine bO_ok (n := m) (e' := e' + 1) ?_ (by omega) (bO_emit X7 a2 a3) (F1.trans (a2.mono (fun b j y => ?_))) F2 ?_ (G6.own a2 (l2_fr.rf (W := fun _ _ => False)) (fun b j y => by omega) (fun b j y => y.elim)) G7
  · unfold xk at *
    omega
  · rcases y with ⟨rfl, rfl⟩ | ⟨y, rfl⟩
    · exact xWc.i334 (Or.inl rfl)
    · exact xWc.iop y (by omega)
  · rw [show m' - m = (m' - (m + 1)) + 1 by omega]
    refine ⟨by omega, n2, Nat.le_refl _, by omega, Or.inl ⟨⟨rfl, (by have q0 := hb; unfold xb at q0; omega)⟩, Or.inr (Or.inr (Or.inl ⟨rfl, by omega, 62, 9, 0, n, Or.inl ⟨rfl, rfl, rfl⟩, by rw [G8]; exact k55, ⟨a4, a5⟩, G4, ?_⟩))⟩⟩
    rw [if_pos rfl]
    exact (G5.low (rr' := 20 * dd + 15) (by omega)).own a2 (l2_fr.rf (W := fun _ _ => False)) (Nat.le_refl _) (Nat.le_refl _) (Nat.le_refl _) ⟨Nat.le_refl _, Nat.le_refl _⟩ (fun b j y => by omega) (fun b j y => y.elim)
end
