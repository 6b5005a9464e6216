/-! Level 2: tones on both sides: = ( exp ), whole. -/
section
variable {P : pc_S} {E : en_S} {lv x : Int32} {EB PB IB u q m t e p l w o s i dd : Nat} {c r : t_S} {rc rc2 rc3 : RT_X6_readBase} {rR : RT_X13_base}
theorem sm_cls (hS : ∀ a b s, rc2.2.2.2.2.2.2.2.2.2.2.2.1 a b s = m_X6_readSame rc3 a b s) (ht : t < 6100) (c3 : t_S) : ((rc2.2.2.2.2.2.2.2.2.2.2.2.1 (nI t) x c3).bind (fun r3 => some r3)).bind (fun r3 => some (nI t, (1 : Int32), r3)) = smC rc3 x t c3 := by
  rw [hS]
  unfold m_X6_readSame smC smC2
  rw [if_pos (l2_ix ht (by decide)), nI_clamp (by omega)]
  simp only [t_let]
  cases f_X2_need 40 (t_setI c3 354 t 17) with
  | none => rfl
  | some r2 =>
    simp only [l2_bs]
    cases rc3.2.2.1 (x + 1) r2 with
    | none => rfl
    | some r3 =>
      simp only [l2_bs]
      cases f_X2_need 41 r3.2 with
      | none => rfl
      | some r4 =>
        simp only [l2_bs]
        cases f_X0_emit 34 (nI t) r4 <;> rfl
/-- = ( exp ) -/
theorem tn_same (hC : ∀ a b d s, rc.2.2.2.2.2.2.2.2.2.2.2.2.2.2.2 a b d s = m_X6_readTone rc2 a b d s) (hS : ∀ a b s, rc2.2.2.2.2.2.2.2.2.2.2.2.1 a b s = m_X6_readSame rc3 a b s) (hB : ∀ x, bC2 (rc3.2.2.1 x)) (hR : ∀ r : t_S, r.1 950 2 ≠ 0 → rR.2.1 r = some (0, r)) (hE : hE_R rc3 rR dd) (hx : x + 1 = nI dd) (X : xp P E u 0 0 q m t e p l w o s i dd c r) (hb : xb P EB PB IB u q t e p l w o s i dd) (h : c.1 1 8 = nI 61) : t_h2 (tcC rc lv x c) (m_X13_tone rR r) (tO_R P E lv u q m t e p l w o s i dd c r) := by
  have hb' := hb
  unfold xb at hb'
  have ple := X.1.ple
  have h59 : r.1 950 5 = 4 ∧ r.1 950 9 = 61 := by
    rcases X.1.is (x := 61) (by decide) with ⟨_, b⟩ | ⟨b, _⟩
    · exact is_1 b
    · exact absurd h b
  obtain ⟨h5, h9⟩ := h59
  have n45 : f_X13_is 45 r = 0 := by
    unfold f_X13_is
    rw [if_pos h5, h9, if_neg (by decide)]
  have eR : m_X13_tone rR r = (f_X13_node (nI 38) 1 r).bind (fun r1 => (f_X13_next r1.2).bind (fun r2 => smR rR r1.1 r2)) := by
    unfold m_X13_tone
    rw [h5, if_neg (by decide), if_neg (by decide), if_neg (by decide), n45, if_pos rfl, h9, if_neg (by decide), if_neg (by decide), if_neg (by decide), if_neg (by decide), if_neg (by decide), if_neg (by decide)]
    unfold k_X13_tone_136
    show (f_X13_node (nI 38) 1 r).bind _ = _
    cases f_X13_node (nI 38) 1 r with
    | none => rfl
    | some r1 =>
      rw [l2_bs, l2_bs]
      cases f_X13_next r1.2 with
      | none => rfl
      | some r2 =>
        rw [l2_bs, l2_bs, if_neg (by decide), if_pos (by decide)]
        rfl
  rw [eR]
  refine tn_mk (K := 38) X hb (by decide) (fun f p0 j r1 z1 z2 z3 _ _ => ?_) (fun c2 r2 S => ?_)
  · exact l2_bd _ z1.next (fun r2 hr => l2_imp (hr.sm1R hR) (fun y hy => ⟨⟨j, z2, z3, hy.1⟩, hy.2⟩))
  rw [hC]
  have S' := S
  obtain ⟨ht, hm, hq, X2, g1, g2, ta, nd, d8⟩ := S
  have e8 : c2.1 1 8 = nI 61 := by rw [(g1 1 8 (by unfold tm_W; omega)).1]; exact h
  unfold m_X6_readTone
  rw [e8, if_neg (by decide), if_neg (by decide), if_neg (by decide), if_neg (by decide), if_neg (by decide), if_neg (by decide), if_neg (by decide), if_neg (by decide), if_neg (by decide)]
  unfold k_X6_readTone_310
  rw [Option.bind_assoc]
  refine h2_bb _ (xp_adv X2 (by decide) (Or.inr (by rw [e8]; decide)) (by rw [e8]; decide)) (fun c3 r3 hw => ?_)
  obtain ⟨w1, w2, w3⟩ := hw
  rw [if_neg (by decide), if_pos (by decide), sm_cls hS ht]
  have join : ∀ {f p0 : Nat} {z : Int32 × Int32 × t_S} {y : Int32 × t_S}, (z.1 = nI t ∧ z.2.1 = 1 ∧ xF f p0 t e p l w o w c z.2.2) → (y.1 = nI m ∧ xR P f p0 m s r y.2) → tO_R P E lv u q m t e p l w o s i dd c r z y := fun hz hy => Or.inr ⟨⟨m, Nat.le_refl _, by omega, hy.1⟩, Or.inr ⟨hz.1, hz.2.1⟩, _, _, hz.2.2, hy.2⟩
  have fr3 := S'.fc.2.trans (w2.mono (fun b j y => x_rn y))
  rcases w3 with ⟨X3, l1, l2⟩ | ⟨f, p0, y1, y2⟩
  rotate_left
  · have hF : xF f p0 t e p l w o w c c3 := xF.of X2 (by omega) (by omega) ⟨Nat.le_refl _, by omega⟩ ⟨Nat.le_refl _, Nat.le_refl _⟩ S'.fc.1 w1 (fun b j z => x_la z) ⟨by unfold la_W; omega, by unfold la_W; omega, by unfold la_W; omega⟩ (fun j => by unfold la_W; omega) y1 xw.nil
    have hR' : xR P f p0 m s r r3 := (xR.of X2.1 (by decide) w2 y2 (s := s)).sub S'.fc.2 (by omega) (Nat.le_refl _)
    exact h2_sep _ _ (hF.sm1C hB (Nat.le_refl _)) (hR'.sm1R hR) (fun z y hz hy => join hz hy)
  have f4 : l2_fr (fun b j => b = 354 ∧ j = t) c3 (t_setI c3 354 t 17) := l2_fr.set ⟨rfl, rfl⟩
  have v4 : (t_setI c3 354 t 17).1 354 t = 17 := by simp only [l2_gI, reduceIte]
  have X4 := X3.own f4 (l2_fr.rf (W := fun _ _ => False)) (fun b j y => by omega) (fun b j y => y.elim)
  unfold smC smR
  generalize t_setI c3 354 t 17 = c4 at *
  have fc4 : l2_fr (fun b j => la_W b j ∨ (b = 354 ∧ j = t)) c2 c4 := (w1.mono (fun b j y => Or.inl y)).trans (f4.mono (fun b j y => Or.inr y))
  have up : ∀ b j, la_W b j ∨ (b = 354 ∧ j = t) → xWc t e p l w o b j := fun b j y => by
    rcases y with y | ⟨rfl, rfl⟩
    · exact x_la y
    · exact xWc.itm (by decide) (by decide) (Nat.le_refl _)
  refine h2_bb _ (xp_need X4 (by decide) (x := 40) (by decide) rfl) (fun c5 r5 hw => ?_)
  obtain ⟨v1, v2, v3⟩ := hw
  have fc5 : l2_fr (fun b j => la_W b j ∨ (b = 354 ∧ j = t)) c2 c5 := fc4.trans (v1.mono (fun b j y => Or.inl y))
  have fr5 : l2_fr rn_W r2 r5 := w2.trans v2
  have fcc : l2_fr (xWc t e p l w o) c c5 := S'.fc.1.trans (fc5.mono up)
  have frr : l2_fr (xWr m s) r r5 := S'.fc.2.trans (fr5.mono (fun b j y => x_rn y))
  rcases v3 with ⟨X5, l3, l4⟩ | ⟨f, p0, y1, y2⟩
  rotate_left
  · have hF : xF f p0 t e p l w o w c c5 := xF.of X4 (by omega) (by omega) ⟨Nat.le_refl _, by omega⟩ ⟨Nat.le_refl _, Nat.le_refl _⟩ (S'.fc.1.trans (fc4.mono up)) v1 (fun b j z => x_la z) ⟨by unfold la_W; omega, by unfold la_W; omega, by unfold la_W; omega⟩ (fun j => by unfold la_W; omega) y1 xw.nil
    have hR' : xR P f p0 m s r r5 := (xR.of X4.1 (by decide) v2 y2 (s := s)).sub fr3 (by omega) (Nat.le_refl _)
    exact h2_sep _ _ (l2_bd _ (hB _ _ _ _ _ _ _ _ _ _ _ _ hF) (fun y h1 => h1.sm2C)) (l2_eq (hR r5 hR'.ne) (xR.sm2R (y := (0, r5)) hR')) (fun z y hz hy => join hz hy)
  rw [hx]
  have k5 : c5.1 354 t = 17 := by rw [(v1 354 t (by unfold la_W; omega)).1]; exact v4
  refine h2_bb _ (hE P E EB PB IB _ _ _ _ _ _ _ _ _ _ _ _ _ X5 (S'.bnd hb (by omega) X5.1)) (fun a b hab => ?_)
  obtain ⟨a1, hab⟩ := hab
  rcases hab with ⟨n, b1, hab | hab⟩ | ⟨f, p0, y1, y2⟩
  · exact sm_end hb S' (by omega) X5 fc5 fr5 k5 b1 hab
  · obtain ⟨n1, n2, n3, p0, y1, y2⟩ := hab
    have hF : xF 2 p0 t e p l w o w c a.2 := y1.sub fcc (by omega) (Nat.le_refl _) (Nat.le_refl _) (Nat.le_refl _) (Nat.le_refl _)
    obtain ⟨t1, t2, t3, t4, t5, t6, t7, t8, t9⟩ := ta
    obtain ⟨d1, d2, d3, d4, d5, d6, d7⟩ := nd
    have y2' := y2
    obtain ⟨_, _, _, _, gg, _⟩ := y2'
    have hch : ch_R b.2 m 0 (fun _ => 0) := ⟨by rw [(gg 959 m (by unfold xWr; omega)).1, (fr5 959 m (by unfold rn_W; omega)).1, d5, if_neg (by decide)], fun j hj => by omega⟩
    refine h2_sep (fun z => z.1 = nI t ∧ z.2.1 = 1 ∧ xF 2 p0 t e p l w o w c z.2.2) (fun y => y.1 = nI m ∧ xR P 2 p0 m s r y.2) hF.sm2C ?_ (fun z y hz hy => join hz hy)
    unfold smR2
    rw [b1]
    have y3 : rj P p0 m s r b.2 := y2.sub frr (by omega) (Nat.le_refl _)
    exact l2_bd _ (y3.hang hch (Nat.le_refl _) (by omega) (by decide) n2 n3 (fun j hj => by omega)) (fun r7 h7 => l2_bd _ (h7.mustBe (by unfold rj_no; decide)) (fun r8 h8 => l2_sm ⟨rfl, h8⟩))
  · have hF : xF f p0 t e p l w o w c a.2 := y1.sub fcc (by omega) (Nat.le_refl _) (Nat.le_refl _) (Nat.le_refl _) (Nat.le_refl _)
    have hR' : xR P f p0 m s r b.2 := y2.sub frr (by omega) (Nat.le_refl _)
    exact h2_sep _ _ hF.sm2C (xR.sm2R hR') (fun z y hz hy => join hz hy)
end
