/-! Level 2: perm ( templs ) on both sides, whole. -/
section
variable {P : pc_S} {E : en_S} {lv x : Int32} {EB PB IB u q m t e p l w o s i dd : Nat} {c r : t_S} {rc rc2 rc3 rc4 rc5 : RT_X6_readBase} {rR rR2 rR3 : RT_X13_base}
/-- behind the bracket -/
theorem pm_go {v1 : Nat} {c2 r2 c3 r3 : t_S} (hb : xb P EB PB IB u q t e p l w o s i dd) (S : sG P E lv 39 u q m t e p l w o s i dd c r c2 r2) (hu : u < v1) (X : xp P E v1 0 0 (q + 1) (m + 1) (t + 1) e p l w o s (i + 1) dd c3 r3) (fc : l2_fr la_W c2 c3) (fr : l2_fr rn_W r2 r3) (hT : hT_R rc3 rR3 dd) (hx : x + 1 = nI dd) (hTC : ∀ a b s, rc3.2.2.2.2.2.2.2.2.2.2.2.2.2.1 a b s = m_X6_readTempl rc4 a b s) (hB : ∀ x y, bC2 (rc3.2.2.2.2.2.2.2.2.2.2.2.2.2.1 x y)) (hR : xT rR3) : t_h2 (rowC rc3 t 18 x lv c3) (rowR rR3 (nI m) r3) (pO_R P E lv u q m t e p l w o s i dd c r) := by
  have S' := S
  obtain ⟨ht, hm, hq, X0, g1, g2, ⟨t1, t2, t3, t4, t5, t6, t7, t8, t9⟩, ⟨d1, d2, d3, d4, d5, d6, d7⟩, d8⟩ := S
  unfold rowC rowR
  refine h2_bb _ (rw_inner (rcC := rc3) (rc4 := rc4) (rR := rR3) (t0 := t) (m0 := m) 18 (by omega) ht (by omega) (S'.bnd hb hu X.1) hT hx hTC hB hR X (by rw [(fc 355 t (by unfold la_W; omega)).1]; exact t2) (by rw [(fr 959 m (by unfold rn_W; omega)).1]; exact d5)) (fun c' r1 hq2 => ?_)
  obtain ⟨r', e1, Q⟩ := hq2
  have g : l2_fr (fun b j => b = 354 ∧ j = t) c3 (t_setI c3 354 t (nI 18)) := l2_fr.set ⟨rfl, rfl⟩
  have k4 : (t_setI c3 354 t (nI 18)).1 354 t = nI 18 := by simp only [l2_gI, reduceIte]
  have X4 := X.own g (l2_fr.rf (W := fun _ _ => False)) (fun b j y => by omega) (fun b j y => y.elim)
  refine h2_eR e1 (h2_sm ?_)
  exact pm_end hb S' hu X4.1 ((fc.mono (fun b j y => Or.inl y)).trans (g.mono (fun b j y => Or.inr y))) fr k4 Q
/-- readPerm as a tone -/
noncomputable def pmT (rc : RT_X6_readBase) : RT_X6_readBase := ⟨rc.1, rc.2.1, rc.2.2.1, rc.2.2.2.1, rc.2.2.2.2.1, rc.2.2.2.2.2.1, rc.2.2.2.2.2.2.1, rc.2.2.2.2.2.2.2.1, rc.2.2.2.2.2.2.2.2.1, rc.2.2.2.2.2.2.2.2.2.1, rc.2.2.2.2.2.2.2.2.2.2.1, rc.2.2.2.2.2.2.2.2.2.2.2.1, rc.2.2.2.2.2.2.2.2.2.2.2.2.1, rc.2.2.2.2.2.2.2.2.2.2.2.2.2.1, rc.2.2.2.2.2.2.2.2.2.2.2.2.2.2.1, fun a b d s => (f_X2_advance s).bind (fun r3 => rc.2.2.2.2.2.2.2.2.2.2.1 a 18 b d r3)⟩
theorem pm_eq (x lv : Int32) (c : t_S) : m_X6_readPerm rc x lv c = (tcC (pmT rc) lv x c).bind (fun z => some (z.1, z.2.2)) := by
  unfold m_X6_readPerm tcC
  cases f_X6_node c with
  | none => rfl
  | some r1 =>
    rw [l2_bs, l2_bs]
    by_cases z : r1.1 1 11 = 0
    · rw [if_pos z, if_pos z]
      cases f_X10_add lv r1 with
      | none => rfl
      | some r2 =>
        rw [l2_bs, l2_bs]
        show _ = (((f_X2_advance r2.2).bind (fun r3 => rc.2.2.2.2.2.2.2.2.2.2.1 r2.1 18 x lv r3)).bind _).bind _
        cases f_X2_advance r2.2 with
        | none => rfl
        | some r3 =>
          rw [l2_bs, l2_bs]
          cases rc.2.2.2.2.2.2.2.2.2.2.1 r2.1 18 x lv r3 <;> rfl
    · rw [if_neg z, if_neg z]; rfl
noncomputable def pmR (rR : RT_X13_base) (r : t_S) : Option (Int32 × t_S) := (f_X13_node (nI 39) 1 r).bind (fun r1 => (f_X13_next r1.2).bind (fun r2 => rowWR rR r1.1 r2))
/-- perm ( templs ) -/
theorem pm_perm (hW : ∀ a b d g s, rc2.2.2.2.2.2.2.2.2.2.2.1 a b d g s = m_X6_readRow rc5 a b d g s) (hI : ∀ a b d g s, rc5.2.2.2.2.2.1 a b d g s = m_X6_readInner rc3 a b d g s) (hT : hT_R rc3 rR3 dd) (hx : x + 1 = nI dd) (hTC : ∀ a b s, rc3.2.2.2.2.2.2.2.2.2.2.2.2.2.1 a b s = m_X6_readTempl rc4 a b s) (hB : ∀ x y, bC2 (rc3.2.2.2.2.2.2.2.2.2.2.2.2.2.1 x y)) (hR : xT rR3) (X : xp P E u 0 0 q m t e p l w o s i dd c r) (hb : xb P EB PB IB u q t e p l w o s i dd) (h : c.1 1 8 = nI 229) : t_h2 (m_X6_readPerm rc2 x lv c) (pmR rR3 r) (fun a b => (∃ n, a.1 = nI t ∧ b.1 = nI n ∧ xG P E 2 lv (20 * dd + 15) u q m t e p l w o s i dd c r n a.2 b.2) ∨ xf P t e p l w o w m s c r a.2 b.2) := by
  have hb' := hb
  unfold xb at hb'
  have ple := X.1.ple
  rw [pm_eq]
  have idR : pmR rR3 r = (pmR rR3 r).bind (fun y => some y) := by cases pmR rR3 r <;> rfl
  rw [idR]
  refine h2_bb (pO_R P E lv u q m t e p l w o s i dd c r) ?_ (fun z y hz => h2_sm ?_)
  rotate_left
  · rcases hz with ⟨h1, h2, h3, h4⟩ | ⟨h1, h2, h3⟩
    · exact Or.inl ⟨m, h1, h3, h4⟩
    · exact Or.inr h3
  unfold pmR
  refine tn_mkQ (K := 39) X hb (by decide) (fun z y hz => Or.inr hz) (fun f p0 j r1 z1 z2 z3 _ _ => ?_) (fun c2 r2 S => ?_)
  · exact l2_bd _ z1.next (fun r2 hr => l2_imp hr.rowWR (fun y hy => ⟨⟨j, z2, z3, hy.1⟩, hy.2⟩))
  have S' := S
  obtain ⟨ht, hm, hq, X2, g1, g2, ta, nd, d8⟩ := S
  have e8 : c2.1 1 8 = nI 229 := by rw [(g1 1 8 (by unfold tm_W; omega)).1]; exact h
  have n14 : c2.1 1 8 ≠ 1 ∧ c2.1 1 8 ≠ 4 := by rw [e8]; decide
  have eC : ((pmT rc2).2.2.2.2.2.2.2.2.2.2.2.2.2.2.2 (nI t) x lv c2).bind (fun r3 => some (nI t, (1 : Int32), r3)) = (f_X2_advance c2).bind (fun c3 => rowWC rc3 t 18 x lv c3) := by
    show ((f_X2_advance c2).bind (fun r3 => rc2.2.2.2.2.2.2.2.2.2.2.1 (nI t) 18 x lv r3)).bind _ = _
    rw [Option.bind_assoc]
    refine congrArg (Option.bind (f_X2_advance c2)) (funext fun c3 => ?_)
    rw [← rww_cls (C := 18) hW hI c3]
    show (rc2.2.2.2.2.2.2.2.2.2.2.1 (nI t) (nI 18) x lv c3).bind _ = _
    cases rc2.2.2.2.2.2.2.2.2.2.2.1 (nI t) (nI 18) x lv c3 <;> rfl
  rw [eC]
  have join : ∀ {f p0 : Nat} {z : Int32 × Int32 × t_S} {y : Int32 × t_S}, (z.1 = nI t ∧ z.2.1 = 1 ∧ xF f p0 t e p l w o w c z.2.2) → (y.1 = nI m ∧ xR P f p0 m s r y.2) → pO_R P E lv u q m t e p l w o s i dd c r z y := fun hz hy => Or.inr ⟨⟨m, Nat.le_refl _, by omega, hy.1⟩, Or.inr ⟨hz.1, hz.2.1⟩, _, _, hz.2.2, hy.2⟩
  refine h2_bb _ (xp_adv X2 (by decide) (Or.inr n14.1) n14.2) (fun c3 r3 hw => ?_)
  obtain ⟨w1, w2, w3⟩ := hw
  rcases w3 with ⟨X3, l1, l2⟩ | ⟨f, p0, y1, y2⟩
  rotate_left
  · have hF : xF f p0 t e p l w o w c c3 := xF.of X2 (by omega) (by omega) ⟨Nat.le_refl _, by omega⟩ ⟨Nat.le_refl _, Nat.le_refl _⟩ S'.fc.1 w1 (fun b j z => x_la z) ⟨by unfold la_W; omega, by unfold la_W; omega, by unfold la_W; omega⟩ (fun j => by unfold la_W; omega) y1 xw.nil
    have hR' : xR P f p0 m s r r3 := (xR.of X2.1 (by decide) w2 y2 (s := s)).sub S'.fc.2 (by omega) (Nat.le_refl _)
    exact h2_sep _ _ (hF.rowWC hB ht) hR'.rowWR (fun z y hz hy => join hz hy)
  unfold rowWC rowWR
  refine h2_bb _ (xp_need X3 (by decide) (x := 40) (by decide) rfl) (fun c4 r4 hw => ?_)
  obtain ⟨v1, v2, v3⟩ := hw
  have fc4 : l2_fr la_W c2 c4 := w1.trans v1
  have fr4 : l2_fr rn_W r2 r4 := w2.trans v2
  rcases v3 with ⟨X4, l3, l4⟩ | ⟨f, p0, y1, y2⟩
  rotate_left
  · have hF : xF f p0 t e p l w o w c c4 := xF.of X3 (by omega) (by omega) ⟨Nat.le_refl _, by omega⟩ ⟨Nat.le_refl _, Nat.le_refl _⟩ (S'.fc.1.trans (w1.mono (fun b j y => x_la y))) v1 (fun b j z => x_la z) ⟨by unfold la_W; omega, by unfold la_W; omega, by unfold la_W; omega⟩ (fun j => by unfold la_W; omega) y1 xw.nil
    have hR' : xR P f p0 m s r r4 := (xR.of X3.1 (by decide) v2 y2 (s := s)).sub (S'.fc.2.trans (w2.mono (fun b j y => x_rn y))) (by omega) (Nat.le_refl _)
    exact h2_sep _ _ (hF.rowC hB ht) hR'.rowR (fun z y hz hy => join hz hy)
  exact pm_go hb S' (by omega) X4 fc4 fr4 hT hx hTC hB hR
end
