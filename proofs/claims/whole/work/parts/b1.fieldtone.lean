/-! Level 2: tones on both sides: { fields }. -/
section
variable {P : pc_S} {E : en_S} {lv x : Int32} {EB PB IB u q m t e p l w o s i dd : Nat} {c r : t_S} {rc rc2 rc3 : RT_X6_readBase} {rR rR3 : RT_X13_base}
noncomputable def flC (rc : RT_X6_readBase) (t : Nat) (x lv : Int32) (c : t_S) : Option (Int32 × Int32 × t_S) := (m_X6_readTemplFields rc (nI t) x lv c).bind (fun z => some (nI t, (1 : Int32), z))
noncomputable def flR (rR : RT_X13_base) (n : Int32) (r : t_S) : Option (Int32 × t_S) := (m_X13_fieldTempls rR n r).bind (fun r4 => some (n, r4))
theorem xF.fl1 {f p0 w' : Nat} {c0 c1 : t_S} (ht : t < 6100) (h : xF f p0 t e p l w o w' c0 c1) : t_hk (flC rc t x lv c1) (fun z => z.1 = nI t ∧ z.2.1 = 1 ∧ xF f p0 t e p l w o w' c0 z.2.2) := l2_bd _ (bf_tfields rc ht x lv _ _ _ _ _ _ _ _ _ _ _ h (Nat.le_refl _)) (fun z hz => l2_sm ⟨rfl, rfl, hz⟩)
theorem xR.fl1 {f p0 : Nat} {r0 r1 : t_S} {n : Int32} (h : xR P f p0 m s r0 r1) : t_hk (flR rR n r1) (fun z => z.1 = n ∧ xR P f p0 m s r0 z.2) := by
  unfold flR m_X13_fieldTempls k_X13_fieldTempls_14
  exact l2_bd _ (l2_if (fun _ => xl_one (h.ft17 n 1 0)) (fun _ => xl_one (h.ft17 n 0 0))) (fun r2 h2 => l2_sm ⟨rfl, h2⟩)
theorem fl_cls (hF : ∀ a b d s, rc2.2.2.2.2.2.2.2.2.2.2.2.2.2.2.1 a b d s = m_X6_readTemplFields rc3 a b d s) (c3 : t_S) : ((rc2.2.2.2.2.2.2.2.2.2.2.2.2.2.2.1 (nI t) x lv c3).bind (fun r3 => some r3)).bind (fun r3 => some (nI t, (1 : Int32), r3)) = flC rc3 t x lv c3 := by
  rw [hF]
  unfold flC
  cases m_X6_readTemplFields rc3 (nI t) x lv c3 <;> rfl
theorem fd_H.nil {t0 m0 : Nat} (X : xp P E u 0 0 q m t e p l w o s i dd c r) (k5 : c.1 355 t0 = -1) (k9 : r.1 959 m0 = -1) : fd_H P E lv t0 m0 m t e p l w o s i dd c r 0 (fun _ => t) (fun _ => m) (fun _ => 0) u q m t e p l s i c r := ⟨X, Nat.le_refl _, l2_fr.rf, l2_fr.rf, ⟨rfl, rfl, fun j hj => by omega⟩, ⟨rfl, rfl, fun j hj => by omega⟩, ⟨by rw [if_neg (by decide)]; exact k5, fun j hj => by omega⟩, ⟨by rw [if_neg (by decide)]; exact k9, fun j hj => by omega⟩, fun i j _ hj => by omega, xD.nil rfl rfl, fun _ => e, fun _ => 0, ⟨rfl, rfl, fun j hj => by omega⟩, fun j hj => by omega⟩
/-- behind the bracket -/
theorem fl_go {v1 : Nat} {c2 r2 c3 r3 : t_S} (hb : xb P EB PB IB u q t e p l w o s i dd) (S : sG P E lv 29 u q m t e p l w o s i dd c r c2 r2) (hu : u < v1) (X : xp P E v1 0 0 (q + 1) (m + 1) (t + 1) e p l w o s (i + 1) dd c3 r3) (fc : l2_fr la_W c2 c3) (fr : l2_fr rn_W r2 r3) (hT : hT_R rc3 rR3 dd) (hx : x + 1 = nI dd) (hB : ∀ x y, bC2 (rc3.2.2.2.2.2.2.2.2.2.2.2.2.2.1 x y)) (hR : xT rR3) : t_h2 (flC rc3 t x lv c3) (flR rR3 (nI m) r3) (tO_R P E lv u q m t e p l w o s i dd c r) := by
  have S' := S
  have hb' := hb
  unfold xb at hb'
  obtain ⟨ht, hm, hq, X0, g1, g2, ⟨t1, t2, t3, t4, t5, t6, t7, t8, t9⟩, ⟨d1, d2, d3, d4, d5, d6, d7⟩, d8⟩ := S
  have bnd := S'.bnd hb hu X.1
  unfold flC m_X6_readTemplFields
  rw [if_pos (l2_ix ht (by decide)), nI_clamp (n := t) (by omega)]
  show t_h2 (((f_X2_take 125 (t_setI c3 354 t 8)).bind (fun r2 => if r2.1 = (0 : Int32) then (t_loop (b_X6_readTemplFields_30 rc3) t_N (nI t, x, lv, (-1), 0, r2.2)) else (some (r2.2)))).bind _) _ _
  have g : l2_fr (fun b j => b = 354 ∧ j = t) c3 (t_setI c3 354 t 8) := l2_fr.set ⟨rfl, rfl⟩
  have k4 : (t_setI c3 354 t 8).1 354 t = 8 := by simp only [l2_gI, reduceIte]
  generalize t_setI c3 354 t 8 = c4 at *
  have X4 := X.own g (l2_fr.rf (W := fun _ _ => False)) (fun b j y => by omega) (fun b j y => y.elim)
  have fc4 : l2_fr (fun b j => la_W b j ∨ (b = 354 ∧ j = t)) c2 c4 := (fc.mono (fun b j y => Or.inl y)).trans (g.mono (fun b j y => Or.inr y))
  have up : ∀ b j, la_W b j ∨ (b = 354 ∧ j = t) → xWc t e p l w o b j := fun b j y => by
    rcases y with y | ⟨rfl, rfl⟩
    · exact x_la y
    · exact xWc.itm (by decide) (by decide) (Nat.le_refl _)
  have frr : l2_fr (xWr m s) r r3 := S'.fc.2.trans (fr.mono (fun b j y => x_rn y))
  have k5 : c4.1 355 t = -1 := by rw [(g 355 t (by omega)).1, (fc 355 t (by unfold la_W; omega)).1]; exact t2
  have k9 : r3.1 959 m = -1 := by rw [(fr 959 m (by unfold rn_W; omega)).1]; exact d5
  unfold flR m_X13_fieldTempls k_X13_fieldTempls_14
  rw [Option.bind_assoc]
  rcases X4.1.is (x := 125) (by decide) with ⟨a, b⟩ | ⟨a, b⟩
  rotate_left
  · -- a field at least
    have b : f_X13_is 125 r3 = 0 := b
    rw [b, if_pos rfl]
    refine h2_eL (pj_nottook (x := 125) a) ?_
    show t_h2 ((t_loop (b_X6_readTemplFields_30 rc3) t_N (nI t, x, lv, (-1), 0, c4)).bind _) _ _
    refine h2_bb _ (h2_lpN (fun k x' y => fdI P E lv x t m v1 (q + 1) (m + 1) (t + 1) e p l w o s (i + 1) dd c4 r3 k x' y) (fd_turn (by omega) ht (by omega) (by omega) bnd hT hx hB hR) (k := 17) (by decide) ⟨0, c4, r3, -1, by decide, rfl, rfl, rfl, Or.inl ⟨fun _ => t + 1, fun _ => m + 1, fun _ => 0, v1, q + 1, m + 1, t + 1, e, p, l, s, i + 1, rk.nil, fd_H.nil X4 k5 k9, rfl⟩⟩) (fun c' r' Q => h2_sm ?_)
    exact fd_end hb S' hu X4.1 fc4 fr k4 Q
  -- none
  have b : f_X13_is 125 r3 = 1 := b
  obtain ⟨y, r5, e1, e2, y1, y2, y3, y4⟩ := xp_took X4 (by decide) (x := 125) (by decide) a
  obtain ⟨y0, c5⟩ := y
  have y1 : y0 = 1 := y1
  subst y1
  have y2 : l2_fr la_W c4 c5 := y2
  have e3 : b_X13_fieldTempls_17 rR3 (nI m, 0, 0, r3) = some (.inr r5) := by
    show k_X13_fieldTempls_17 rR3 (nI m) 0 0 r3 = _
    unfold k_X13_fieldTempls_17 k_X13_fieldTempls_69 f_X13_mustBe k_X13_mustBe_17
    rw [if_pos rfl, b, if_neg (by decide), e2]
    rfl
  rw [b, if_neg (by decide), l2_tnR (y := (nI m, 0, 0, r3)) l2_tn.nil (by decide) e3]
  refine h2_eL e1 (h2_eL (x := c5) (if_neg (show ¬ (1 : Int32) = 0 by decide)) (h2_sm ?_))
  rcases y4 with ⟨X5, l1, l2⟩ | ⟨f, p0, z1, z2⟩
  rotate_left
  · exact Or.inr ⟨⟨m, Nat.le_refl _, by omega, rfl⟩, Or.inr ⟨rfl, rfl⟩, f, p0, xF.of X4 (by omega) (by omega) ⟨Nat.le_refl _, by omega⟩ ⟨Nat.le_refl _, Nat.le_refl _⟩ (S'.fc.1.trans (fc4.mono up)) y2 (fun b j z => x_la z) ⟨by unfold la_W; omega, by unfold la_W; omega, by unfold la_W; omega⟩ (fun j => by unfold la_W; omega) z1 xw.nil, (xR.of X4.1 (by decide) y3 z2 (s := s)).sub frr (by omega) (Nat.le_refl _)⟩
  have X5 : xp P E (v1 + 1) 0 0 (q + 1) (m + 1) (t + 1) e p l w o s (i + 1) dd c5 r5 := X5
  have fc5 := fc4.trans (y2.mono (fun b j y => Or.inl y))
  have fr5 : l2_fr rn_W r2 r5 := fr.trans y3
  have k45 : c5.1 354 t = 8 := by rw [(y2 354 t (by unfold la_W; omega)).1]; exact k4
  have k55 : c5.1 355 t = -1 := by rw [(y2 355 t (by unfold la_W; omega)).1]; exact k5
  have k95 : r5.1 959 m = -1 := by rw [(y3 959 m (by unfold rn_W; omega)).1]; exact k9
  exact fd_end hb S' (by omega) X5.1 fc5 fr5 k45 (Or.inl ⟨0, fun _ => t + 1, fun _ => m + 1, fun _ => 0, v1 + 1, q + 1, m + 1, t + 1, e, p, l, s, i + 1, by decide, rk.nil, fd_H.nil X5 k55 k95⟩)
/-- { fields } -/
theorem tn_fields (hC : ∀ a b d s, rc.2.2.2.2.2.2.2.2.2.2.2.2.2.2.2 a b d s = m_X6_readTone rc2 a b d s) (hF : ∀ a b d s, rc2.2.2.2.2.2.2.2.2.2.2.2.2.2.2.1 a b d s = m_X6_readTemplFields rc3 a b d s) (hFs : ∀ a s, rR.2.2.2.2.1 a s = m_X13_fieldTempls rR3 a s) (hT : hT_R rc3 rR3 dd) (hx : x + 1 = nI dd) (hB : ∀ x y, bC2 (rc3.2.2.2.2.2.2.2.2.2.2.2.2.2.1 x y)) (hR : xT rR3) (X : xp P E u 0 0 q m t e p l w o s i dd c r) (hb : xb P EB PB IB u q t e p l w o s i dd) (h : c.1 1 8 = nI 123) : t_h2 (tcC rc lv x c) (m_X13_tone rR r) (tO_R P E lv u q m t e p l w o s i dd c r) := by
  have hb' := hb
  unfold xb at hb'
  have ple := X.1.ple
  obtain ⟨h5, h9⟩ : r.1 950 5 = 4 ∧ r.1 950 9 = 123 := by
    rcases X.1.is (x := 123) (by decide) with ⟨_, b⟩ | ⟨b, _⟩
    · exact is_1 b
    · exact absurd h b
  have n45 : f_X13_is 45 r = 0 := by
    unfold f_X13_is
    rw [if_pos h5, h9, if_neg (by decide)]
  have eR : m_X13_tone rR r = (f_X13_node (nI 29) 1 r).bind (fun r1 => (f_X13_next r1.2).bind (fun r2 => flR rR3 r1.1 r2)) := by
    unfold m_X13_tone
    rw [h5, if_neg (by decide), if_neg (by decide), if_neg (by decide), n45, if_pos rfl, h9, if_neg (by decide), if_neg (by decide), if_pos (by decide)]
    unfold k_X13_tone_136
    show (f_X13_node (nI 29) 1 r).bind _ = _
    cases f_X13_node (nI 29) 1 r with
    | none => rfl
    | some r1 =>
      rw [l2_bs, l2_bs]
      cases f_X13_next r1.2 with
      | none => rfl
      | some r2 =>
        rw [l2_bs, l2_bs, if_neg (by decide), if_neg (by decide), if_neg (by decide), if_neg (by decide), if_pos (by decide), hFs]
        rfl
  rw [eR]
  refine tn_mk (K := 29) X hb (by decide) (fun f p0 j r1 z1 z2 z3 _ _ => ?_) (fun c2 r2 S => ?_)
  · exact l2_bd _ z1.next (fun r2 hr => l2_imp hr.fl1 (fun y hy => ⟨⟨j, z2, z3, hy.1⟩, hy.2⟩))
  rw [hC]
  have S' := S
  obtain ⟨ht, hm, hq, X2, g1, g2, ta, nd, d8⟩ := S
  have e8 : c2.1 1 8 = nI 123 := by rw [(g1 1 8 (by unfold tm_W; omega)).1]; exact h
  unfold m_X6_readTone
  rw [e8, if_neg (by decide), if_neg (by decide), if_neg (by decide), if_neg (by decide), if_neg (by decide), if_neg (by decide), if_neg (by decide), if_neg (by decide), if_neg (by decide)]
  unfold k_X6_readTone_310
  rw [Option.bind_assoc]
  refine h2_bb _ (xp_adv X2 (by decide) (Or.inr (by rw [e8]; decide)) (by rw [e8]; decide)) (fun c3 r3 hw => ?_)
  obtain ⟨w1, w2, w3⟩ := hw
  rw [if_neg (by decide), if_neg (by decide), if_neg (by decide), if_neg (by decide), if_pos (by decide), fl_cls hF]
  rcases w3 with ⟨X3, l1, l2⟩ | ⟨f, p0, y1, y2⟩
  rotate_left
  · have hF : xF f p0 t e p l w o w c c3 := xF.of X2 (by omega) (by omega) ⟨Nat.le_refl _, by omega⟩ ⟨Nat.le_refl _, Nat.le_refl _⟩ S'.fc.1 w1 (fun b j z => x_la z) ⟨by unfold la_W; omega, by unfold la_W; omega, by unfold la_W; omega⟩ (fun j => by unfold la_W; omega) y1 xw.nil
    have hR' : xR P f p0 m s r r3 := (xR.of X2.1 (by decide) w2 y2 (s := s)).sub S'.fc.2 (by omega) (Nat.le_refl _)
    exact h2_sep _ _ (hF.fl1 ht) hR'.fl1 (fun z y hz hy => Or.inr ⟨⟨m, Nat.le_refl _, by omega, hy.1⟩, Or.inr ⟨hz.1, hz.2.1⟩, _, _, hz.2.2, hy.2⟩)
  exact fl_go hb S' (by omega) X3 w1 w2 hT hx hB hR
end
