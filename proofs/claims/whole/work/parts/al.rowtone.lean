/-! Level 2: tones on both sides: ( templs ). -/
section
variable {P : pc_S} {E : en_S} {lv x : Int32} {EB PB IB u q m t e p l w o s i dd : Nat} {c r : t_S} {rc rc2 rc3 rc4 : RT_X6_readBase} {rR rR3 : RT_X13_base}
noncomputable def rowC (rc : RT_X6_readBase) (t C : Nat) (x lv : Int32) (c : t_S) : Option (Int32 × Int32 × t_S) := (m_X6_readInner rc (nI t) (nI C) x lv c).bind (fun z => some (nI t, (1 : Int32), z))
noncomputable def rowR (rR : RT_X13_base) (n : Int32) (r : t_S) : Option (Int32 × t_S) := (m_X13_templs rR n 0 r).bind (fun r4 => (f_X13_mustBe 41 r4).bind (fun r5 => some (n, r5)))
theorem xF.rowC {f p0 w' C : Nat} {c0 c1 : t_S} (hB : ∀ x y, bC2 (rc.2.2.2.2.2.2.2.2.2.2.2.2.2.1 x y)) (ht : t < 6100) (h : xF f p0 t e p l w o w' c0 c1) : t_hk (rowC rc t C x lv c1) (fun z => z.1 = nI t ∧ z.2.1 = 1 ∧ xF f p0 t e p l w o w' c0 z.2.2) := l2_bd _ (bf_inner hB ht _ _ _ _ _ _ _ _ _ _ _ _ _ _ h (Nat.le_refl _)) (fun z hz => l2_sm ⟨rfl, rfl, hz⟩)
theorem xR.rowR {f p0 : Nat} {r0 r1 : t_S} {n : Int32} (h : xR P f p0 m s r0 r1) : t_hk (rowR rR n r1) (fun z => z.1 = n ∧ xR P f p0 m s r0 z.2) := l2_bd _ (xl_one (h.templs5 n 0 1 0)) (fun r2 h2 => l2_bd _ (h2.mustBe _) (fun r3 h3 => l2_sm ⟨rfl, h3⟩))
/-- behind the bracket -/
theorem row_go {K C v1 : Nat} {c2 r2 c3 r3 : t_S} (hb : xb P EB PB IB u q t e p l w o s i dd) (S : sG P E lv K u q m t e p l w o s i dd c r c2 r2) (hu : u < v1) (X : xp P E v1 0 0 (q + 1) (m + 1) (t + 1) e p l w o s (i + 1) dd c3 r3) (fc : l2_fr la_W c2 c3) (fr : l2_fr rn_W r2 r3) (hr : px_row K C) (hK : K ≠ 39) (hT : hT_R rc3 rR3 dd) (hx : x + 1 = nI dd) (hTC : ∀ a b s, rc3.2.2.2.2.2.2.2.2.2.2.2.2.2.1 a b s = m_X6_readTempl rc4 a b s) (hB : ∀ x y, bC2 (rc3.2.2.2.2.2.2.2.2.2.2.2.2.2.1 x y)) (hR : xT rR3) : t_h2 (rowC rc3 t C x lv c3) (rowR rR3 (nI m) r3) (tO_R P E lv u q m t e p l w o s i dd c r) := by
  have S' := S
  obtain ⟨ht, hm, hq, X0, g1, g2, ⟨t1, t2, t3, t4, t5, t6, t7, t8, t9⟩, ⟨d1, d2, d3, d4, d5, d6, d7⟩, d8⟩ := S
  unfold rowC rowR
  refine h2_bb _ (rw_inner (rcC := rc3) (rc4 := rc4) (rR := rR3) (t0 := t) (m0 := m) C (by omega) ht (by omega) (S'.bnd hb hu X.1) hT hx hTC hB hR X (by rw [(fc 355 t (by unfold la_W; omega)).1]; exact t2) (by rw [(fr 959 m (by unfold rn_W; omega)).1]; exact d5)) (fun c' r1 hq2 => ?_)
  obtain ⟨r', e1, Q⟩ := hq2
  have g : l2_fr (fun b j => b = 354 ∧ j = t) c3 (t_setI c3 354 t (nI C)) := l2_fr.set ⟨rfl, rfl⟩
  have k4 : (t_setI c3 354 t (nI C)).1 354 t = nI C := by simp only [l2_gI, reduceIte]
  have X4 := X.own g (l2_fr.rf (W := fun _ _ => False)) (fun b j y => by omega) (fun b j y => y.elim)
  refine h2_eR e1 (h2_sm ?_)
  exact rw_end hb S' hu X4.1 ((fc.mono (fun b j y => Or.inl y)).trans (g.mono (fun b j y => Or.inr y))) fr k4 hr hK (fun y => y.elim) Q
theorem row_cls (hI : ∀ a b d g s, rc2.2.2.2.2.2.1 a b d g s = m_X6_readInner rc3 a b d g s) {C : Nat} (c3 : t_S) : ((rc2.2.2.2.2.2.1 (nI t) (nI C) x lv c3).bind (fun r3 => some r3)).bind (fun r3 => some (nI t, (1 : Int32), r3)) = rowC rc3 t C x lv c3 := by
  rw [hI]
  unfold rowC
  cases m_X6_readInner rc3 (nI t) (nI C) x lv c3 <;> rfl
/-- ( templs ) -/
theorem tn_paren (hC : ∀ a b d s, rc.2.2.2.2.2.2.2.2.2.2.2.2.2.2.2 a b d s = m_X6_readTone rc2 a b d s) (hI : ∀ a b d g s, rc2.2.2.2.2.2.1 a b d g s = m_X6_readInner rc3 a b d g s) (hTs : ∀ a b s, rR.2.2.2.2.2.2.2.2.1 a b s = m_X13_templs rR3 a b s) (hT : hT_R rc3 rR3 dd) (hx : x + 1 = nI dd) (hTC : ∀ a b s, rc3.2.2.2.2.2.2.2.2.2.2.2.2.2.1 a b s = m_X6_readTempl rc4 a b s) (hB : ∀ x y, bC2 (rc3.2.2.2.2.2.2.2.2.2.2.2.2.2.1 x y)) (hR : xT rR3) (X : xp P E u 0 0 q m t e p l w o s i dd c r) (hb : xb P EB PB IB u q t e p l w o s i dd) (h : c.1 1 8 = nI 40) : t_h2 (tcC rc lv x c) (m_X13_tone rR r) (tO_R P E lv u q m t e p l w o s i dd c r) := by
  have hb' := hb
  unfold xb at hb'
  have ple := X.1.ple
  obtain ⟨h5, h9⟩ : r.1 950 5 = 4 ∧ r.1 950 9 = 40 := by
    rcases X.1.is (x := 40) (by decide) with ⟨_, b⟩ | ⟨b, _⟩
    · exact is_1 b
    · exact absurd h b
  have n45 : f_X13_is 45 r = 0 := by
    unfold f_X13_is
    rw [if_pos h5, h9, if_neg (by decide)]
  have eR : m_X13_tone rR r = (f_X13_node (nI 34) 1 r).bind (fun r1 => (f_X13_next r1.2).bind (fun r2 => rowR rR3 r1.1 r2)) := by
    unfold m_X13_tone
    rw [h5, if_neg (by decide), if_neg (by decide), if_neg (by decide), n45, if_pos rfl, h9, if_neg (by decide), if_neg (by decide), if_neg (by decide), if_neg (by decide), if_neg (by decide), if_pos (by decide)]
    unfold k_X13_tone_136
    show (f_X13_node (nI 34) 1 r).bind _ = _
    cases f_X13_node (nI 34) 1 r with
    | none => rfl
    | some r1 =>
      rw [l2_bs, l2_bs]
      cases f_X13_next r1.2 with
      | none => rfl
      | some r2 =>
        rw [l2_bs, l2_bs, if_pos (by decide), hTs]
        rfl
  rw [eR]
  refine tn_mk (K := 34) X hb (by decide) (fun f p0 j r1 z1 z2 z3 _ _ => ?_) (fun c2 r2 S => ?_)
  · exact l2_bd _ z1.next (fun r2 hr => l2_imp hr.rowR (fun y hy => ⟨⟨j, z2, z3, hy.1⟩, hy.2⟩))
  rw [hC]
  have S' := S
  obtain ⟨ht, hm, hq, X2, g1, g2, ta, nd, d8⟩ := S
  have e8 : c2.1 1 8 = nI 40 := by rw [(g1 1 8 (by unfold tm_W; omega)).1]; exact h
  unfold m_X6_readTone
  rw [e8, if_neg (by decide), if_neg (by decide), if_neg (by decide), if_neg (by decide), if_neg (by decide), if_neg (by decide), if_neg (by decide), if_neg (by decide), if_neg (by decide)]
  unfold k_X6_readTone_310
  rw [Option.bind_assoc]
  refine h2_bb _ (xp_adv X2 (by decide) (Or.inr (by rw [e8]; decide)) (by rw [e8]; decide)) (fun c3 r3 hw => ?_)
  obtain ⟨w1, w2, w3⟩ := hw
  rw [if_pos (by decide), show (13 : Int32) = nI 13 from rfl, row_cls hI]
  rcases w3 with ⟨X3, l1, l2⟩ | ⟨f, p0, y1, y2⟩
  rotate_left
  · have hF : xF f p0 t e p l w o w c c3 := xF.of X2 (by omega) (by omega) ⟨Nat.le_refl _, by omega⟩ ⟨Nat.le_refl _, Nat.le_refl _⟩ S'.fc.1 w1 (fun b j z => x_la z) ⟨by unfold la_W; omega, by unfold la_W; omega, by unfold la_W; omega⟩ (fun j => by unfold la_W; omega) y1 xw.nil
    have hR' : xR P f p0 m s r r3 := (xR.of X2.1 (by decide) w2 y2 (s := s)).sub S'.fc.2 (by omega) (Nat.le_refl _)
    exact h2_sep _ _ (hF.rowC hB ht) hR'.rowR (fun z y hz hy => Or.inr ⟨⟨m, Nat.le_refl _, by omega, hy.1⟩, Or.inr ⟨hz.1, hz.2.1⟩, _, _, hz.2.2, hy.2⟩)
  exact row_go hb S' (by omega) X3 w1 w2 (by unfold px_row; omega) (by decide) hT hx hTC hB hR
end
