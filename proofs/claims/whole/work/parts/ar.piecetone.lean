/-! Level 2: tones on both sides: [ pieces ]. -/
section
variable {P : pc_S} {E : en_S} {lv x : Int32} {EB PB IB u q m t e p l w o s i dd : Nat} {c r : t_S} {rc rc2 rc3 rc4 rc5 rc6 rc7 rc8 : RT_X6_readBase} {rR rR3 rR4 : RT_X13_base}
noncomputable def pcC (rc : RT_X6_readBase) (t : Nat) (x lv : Int32) (c : t_S) : Option (Int32 × Int32 × t_S) := (m_X6_readPieces rc (nI t) x lv c).bind (fun z => some (nI t, (1 : Int32), z))
noncomputable def pcR (rR rR3 : RT_X13_base) (n : Int32) (r : t_S) : Option (Int32 × t_S) := if f_X13_is 93 r = 0 then (m_X13_templs rR3 n 1 r).bind (fun r15 => k_X13_tone_256 rR n r15) else k_X13_tone_256 rR n r
theorem xF.pc1C {f p0 w' : Nat} {c0 c1 : t_S} (hB : ∀ x y, bC2 (rc.2.2.2.2.2.2.2.2.2.2.2.2.2.1 x y)) (ht : t < 6100) (h : xF f p0 t e p l w o w' c0 c1) : t_hk (pcC rc t x lv c1) (fun z => z.1 = nI t ∧ z.2.1 = 1 ∧ xF f p0 t e p l w o w' c0 z.2.2) := l2_bd _ (bf_pieces hB ht _ _ _ _ _ _ _ _ _ _ _ _ _ h (Nat.le_refl _)) (fun z hz => l2_sm ⟨rfl, rfl, hz⟩)
theorem xR.t256 {f p0 : Nat} {r0 r1 : t_S} {n : Int32} (h : xR P f p0 m s r0 r1) : t_hk (k_X13_tone_256 rR n r1) (fun z => z.1 = n ∧ xR P f p0 m s r0 z.2) := by
  unfold k_X13_tone_256
  exact l2_bd _ (h.mustBe _) (fun r2 h2 => l2_sm ⟨rfl, h2⟩)
theorem xR.pc1R {f p0 : Nat} {r0 r1 : t_S} {n : Int32} (h : xR P f p0 m s r0 r1) : t_hk (pcR rR rR3 n r1) (fun z => z.1 = n ∧ xR P f p0 m s r0 z.2) := l2_if (fun _ => l2_bd _ (xl_one (h.templs5 n 1 1 0)) (fun r2 h2 => h2.t256)) (fun _ => h.t256)
theorem pc_cls (hPc : ∀ a b d s, rc2.2.2.2.2.2.2.2.2.2.1 a b d s = m_X6_readPieces rc3 a b d s) (c3 : t_S) : ((rc2.2.2.2.2.2.2.2.2.2.1 (nI t) x lv c3).bind (fun r3 => some r3)).bind (fun r3 => some (nI t, (1 : Int32), r3)) = pcC rc3 t x lv c3 := by
  rw [hPc]
  unfold pcC
  cases m_X6_readPieces rc3 (nI t) x lv c3 <;> rfl
/-- behind the bracket -/
theorem pc_go {v1 : Nat} {c2 r2 c3 r3 : t_S} (hb : xb P EB PB IB u q t e p l w o s i dd) (S : sG P E lv 31 u q m t e p l w o s i dd c r c2 r2) (hu : u < v1) (X : xp P E v1 0 0 (q + 1) (m + 1) (t + 1) e p l w o s (i + 1) dd c3 r3) (fc : l2_fr la_W c2 c3) (fr : l2_fr rn_W r2 r3) (hT : hT_R rc3 rR3 dd) (hx : x + 1 = nI dd) (hTC : ∀ a b s, rc3.2.2.2.2.2.2.2.2.2.2.2.2.2.1 a b s = m_X6_readTempl rc6 a b s) (hB : ∀ x y, bC2 (rc3.2.2.2.2.2.2.2.2.2.2.2.2.2.1 x y)) (hR : xT rR3) (hP : ∀ a b s, rc3.2.2.2.2.2.2.2.2.1 a b s = m_X6_readPerm rc4 a b s) (hTs3 : ∀ a b s, rR3.2.2.2.2.2.2.2.2.1 a b s = m_X13_templs rR4 a b s) (hW : ∀ a b d g s, rc4.2.2.2.2.2.2.2.2.2.2.1 a b d g s = m_X6_readRow rc5 a b d g s) (hI : ∀ a b d g s, rc5.2.2.2.2.2.1 a b d g s = m_X6_readInner rc7 a b d g s) (hT3 : hT_R rc7 rR4 dd) (hTC3 : ∀ a b s, rc7.2.2.2.2.2.2.2.2.2.2.2.2.2.1 a b s = m_X6_readTempl rc8 a b s) (hB3 : ∀ x y, bC2 (rc7.2.2.2.2.2.2.2.2.2.2.2.2.2.1 x y)) (hR3 : xT rR4) : t_h2 (pcC rc3 t x lv c3) (pcR rR rR3 (nI m) r3) (tO_R P E lv u q m t e p l w o s i dd c r) := by
  have S' := S
  have hb' := hb
  unfold xb at hb'
  obtain ⟨ht, hm, hq, X0, g1, g2, ⟨t1, t2, t3, t4, t5, t6, t7, t8, t9⟩, ⟨d1, d2, d3, d4, d5, d6, d7⟩, d8⟩ := S
  have bnd := S'.bnd hb hu X.1
  have pm' := X.1.pmono (v1 - u) u (by omega) (by omega)
  have cm := pc_c_mono P u v1 (by omega)
  unfold pcC m_X6_readPieces
  rw [if_pos (l2_ix ht (by decide)), nI_clamp (n := t) (by omega)]
  show t_h2 (((f_X2_take 93 (t_setI c3 354 t 10)).bind (fun r2 => if r2.1 = (0 : Int32) then (t_loop (b_X6_readPieces_30 rc3) t_N (nI t, x, lv, (-1), 0, r2.2)) else (some (r2.2)))).bind _) _ _
  have g : l2_fr (fun b j => b = 354 ∧ j = t) c3 (t_setI c3 354 t 10) := l2_fr.set ⟨rfl, rfl⟩
  have k4 : (t_setI c3 354 t 10).1 354 t = nI 10 := by simp only [l2_gI, reduceIte]; rfl
  generalize t_setI c3 354 t 10 = c4 at *
  have X4 := X.own g (l2_fr.rf (W := fun _ _ => False)) (fun b j y => by omega) (fun b j y => y.elim)
  have fc4 : l2_fr (fun b j => la_W b j ∨ (b = 354 ∧ j = t)) c2 c4 := (fc.mono (fun b j y => Or.inl y)).trans (g.mono (fun b j y => Or.inr y))
  have up : ∀ b j, la_W b j ∨ (b = 354 ∧ j = t) → xWc t e p l w o b j := fun b j y => by
    rcases y with y | ⟨rfl, rfl⟩
    · exact x_la y
    · exact xWc.itm (by decide) (by decide) (Nat.le_refl _)
  have frr : l2_fr (xWr m s) r r3 := S'.fc.2.trans (fr.mono (fun b j y => x_rn y))
  unfold pcR
  rw [Option.bind_assoc]
  rcases X4.1.is (x := 93) (by decide) with ⟨a, b⟩ | ⟨a, b⟩
  rotate_left
  · -- a part at least
    have b : f_X13_is 93 r3 = 0 := b
    refine h2_ckR b (h2_eL (pj_nottook (x := 93) a) ?_)
    show t_h2 ((t_loop (b_X6_readPieces_30 rc3) t_N (nI t, x, lv, (-1), 0, c4)).bind _) _ _
    refine h2_bb _ (h2_lpN (fun k x' y => pcI P E lv x t m v1 (q + 1) (m + 1) (t + 1) e p l w o s (i + 1) dd c4 r3 k x' y) (pc_turn (by omega) ht (by omega) bnd hT hx hTC hB hR hP hTs3 hW hI hT3 hTC3 hB3 hR3) (k := 13) (by decide) ⟨0, c4, r3, -1, by decide, rfl, rfl, rfl, Or.inl ⟨fun _ => t + 1, v1, q + 1, m + 1, t + 1, e, p, l, s, i + 1, rk.nil, rw_H.nil X4 (by rw [(g 355 t (by omega)).1, (fc 355 t (by unfold la_W; omega)).1]; exact t2) (by rw [(fr 959 m (by unfold rn_W; omega)).1]; exact d5), rfl⟩⟩) (fun c' r1 hq2 => ?_)
    obtain ⟨r', e1, Q⟩ := hq2
    unfold k_X13_tone_256
    refine h2_eR e1 (h2_sm ?_)
    exact rw_end hb S' hu X4.1 fc4 fr k4 (by unfold px_row; omega) (by decide) (fun _ => rfl) Q
  -- none
  have b : f_X13_is 93 r3 = 1 := b
  refine h2_noR (by rw [b]; decide) ?_
  have mb : k_X13_tone_256 rR (nI m) r3 = (f_X13_next r3).bind (fun r1 => some (nI m, r1)) := by
    unfold k_X13_tone_256 f_X13_mustBe k_X13_mustBe_17
    rw [b, if_neg (by decide)]
    cases f_X13_next r3 <;> rfl
  rw [mb]
  refine h2_bb _ (xp_took X4 (by decide) (x := 93) (by decide) a) (fun y r5 hy => ?_)
  obtain ⟨y0, c5⟩ := y
  obtain ⟨y1, y2, y3, y4⟩ := hy
  have y1 : y0 = 1 := y1
  subst y1
  have y2 : l2_fr la_W c4 c5 := y2
  refine h2_eL (x := c5) (if_neg (show ¬ (1 : Int32) = 0 by decide)) (h2_sm ?_)
  rcases y4 with ⟨X5, l1, l2⟩ | ⟨f, p0, z1, z2⟩
  rotate_left
  · exact Or.inr ⟨⟨m, Nat.le_refl _, by omega, rfl⟩, Or.inr ⟨rfl, rfl⟩, f, p0, xF.of X4 (by omega) (by omega) ⟨Nat.le_refl _, by omega⟩ ⟨Nat.le_refl _, Nat.le_refl _⟩ (S'.fc.1.trans (fc4.mono up)) y2 (fun b j z => x_la z) ⟨by unfold la_W; omega, by unfold la_W; omega, by unfold la_W; omega⟩ (fun j => by unfold la_W; omega) z1 xw.nil, (xR.of X4.1 (by decide) y3 z2 (s := s)).sub frr (by omega) (Nat.le_refl _)⟩
  have X5 : xp P E (v1 + 1) 0 0 (q + 1) (m + 1) (t + 1) e p l w o s (i + 1) dd c5 r5 := X5
  have fc5 := fc4.trans (y2.mono (fun b j y => Or.inl y))
  have fr5 : l2_fr rn_W r2 r5 := fr.trans y3
  have aC : ∀ b, 355 ≤ b → b ≤ 362 → c5.1 b t = c2.1 b t := fun b y1 y2 => (fc5 b t (by unfold la_W; omega)).1
  have aR : ∀ b, 955 ≤ b → b ≤ 962 → r5.1 b m = r2.1 b m := fun b y1 y2 => (fr5 b m (by unfold rn_W; omega)).1
  have h55 : r5.1 955 m = nI 31 := by rw [aR 955 (by decide) (by decide)]; exact d1
  have k5 : c5.1 354 t = nI 10 := by rw [(y2 354 t (by unfold la_W; omega)).1]; exact k4
  have e7 : c5.1 846 7 = c.1 846 7 := by rw [(fc5 846 7 (by unfold la_W; omega)).1, (g1 846 7 (by unfold tm_W; omega)).1]
  have e8 : c5.1 846 8 = c.1 846 8 := by rw [(fc5 846 8 (by unfold la_W; omega)).1, (g1 846 8 (by unfold tm_W; omega)).1]
  refine tn_ok (u' := v1 + 1) (q' := q + 1) (m' := m + 1) (t' := t + 1) (e' := e) (p' := p) (l' := l) (s' := s) (i' := i + 1) ?_ (by omega) (by omega) X5 (S'.fc.1.trans (fc5.mono up)) (S'.fc.2.trans (fr5.mono (fun b j y => x_rn y))) (Or.inr (Or.inr (Or.inr (Or.inr ⟨31, 10, by unfold px_row; omega, by decide, h55, k5, 0, fun _ => e, fun _ => t + 1, fun _ => m + 1, fun _ => 0, fun _ => 0, by decide, fun y => absurd rfl y, ⟨rfl, rfl, fun j hj => by omega⟩, ⟨rfl, rfl, fun j hj => by omega⟩, ⟨rfl, rfl, fun j hj => by omega⟩, ⟨by rw [aC 355 (by decide) (by decide), t2, if_neg (by decide)], fun j hj => by omega⟩, ⟨by rw [aR 959 (by decide) (by decide), d5, if_neg (by decide)], fun j hj => by omega⟩, fun j hj => by omega⟩)))) (xD.plain (K := 31) h55 (by decide) (by decide) e7 e8 (fun _ => ⟨by rw [aR 962 (by decide) (by decide)]; exact d8, by omega⟩)) ?_ ?_ (by rw [aC 358 (by decide) (by decide)]; exact t5) (by rw [aC 359 (by decide) (by decide)]; exact t6) ⟨by rw [aC 360 (by decide) (by decide)]; exact t7, by rw [aC 356 (by decide) (by decide)]; exact t3⟩
  · unfold xk
    omega
  · rw [aR 960 (by decide) (by decide)]; exact d6
  · rw [aR 961 (by decide) (by decide)]; exact d7
/-- [ pieces ] -/
theorem tn_pieces (hC : ∀ a b d s, rc.2.2.2.2.2.2.2.2.2.2.2.2.2.2.2 a b d s = m_X6_readTone rc2 a b d s) (hPc : ∀ a b d s, rc2.2.2.2.2.2.2.2.2.2.1 a b d s = m_X6_readPieces rc3 a b d s) (hTs : ∀ a b s, rR.2.2.2.2.2.2.2.2.1 a b s = m_X13_templs rR3 a b s) (hT : hT_R rc3 rR3 dd) (hx : x + 1 = nI dd) (hTC : ∀ a b s, rc3.2.2.2.2.2.2.2.2.2.2.2.2.2.1 a b s = m_X6_readTempl rc6 a b s) (hB : ∀ x y, bC2 (rc3.2.2.2.2.2.2.2.2.2.2.2.2.2.1 x y)) (hR : xT rR3) (hP : ∀ a b s, rc3.2.2.2.2.2.2.2.2.1 a b s = m_X6_readPerm rc4 a b s) (hTs3 : ∀ a b s, rR3.2.2.2.2.2.2.2.2.1 a b s = m_X13_templs rR4 a b s) (hW : ∀ a b d g s, rc4.2.2.2.2.2.2.2.2.2.2.1 a b d g s = m_X6_readRow rc5 a b d g s) (hI : ∀ a b d g s, rc5.2.2.2.2.2.1 a b d g s = m_X6_readInner rc7 a b d g s) (hT3 : hT_R rc7 rR4 dd) (hTC3 : ∀ a b s, rc7.2.2.2.2.2.2.2.2.2.2.2.2.2.1 a b s = m_X6_readTempl rc8 a b s) (hB3 : ∀ x y, bC2 (rc7.2.2.2.2.2.2.2.2.2.2.2.2.2.1 x y)) (hR3 : xT rR4) (X : xp P E u 0 0 q m t e p l w o s i dd c r) (hb : xb P EB PB IB u q t e p l w o s i dd) (h : c.1 1 8 = nI 91) : t_h2 (tcC rc lv x c) (m_X13_tone rR r) (tO_R P E lv u q m t e p l w o s i dd c r) := by
  have hb' := hb
  unfold xb at hb'
  have ple := X.1.ple
  obtain ⟨h5, h9⟩ : r.1 950 5 = 4 ∧ r.1 950 9 = 91 := by
    rcases X.1.is (x := 91) (by decide) with ⟨_, b⟩ | ⟨b, _⟩
    · exact is_1 b
    · exact absurd h b
  have n45 : f_X13_is 45 r = 0 := by
    unfold f_X13_is
    rw [if_pos h5, h9, if_neg (by decide)]
  have eR : m_X13_tone rR r = (f_X13_node (nI 31) 1 r).bind (fun r1 => (f_X13_next r1.2).bind (fun r2 => pcR rR rR3 r1.1 r2)) := by
    unfold m_X13_tone
    rw [h5, if_neg (by decide), if_neg (by decide), if_neg (by decide), n45, if_pos rfl, h9, if_neg (by decide), if_neg (by decide), if_neg (by decide), if_neg (by decide), if_pos (by decide)]
    unfold k_X13_tone_136
    show (f_X13_node (nI 31) 1 r).bind _ = _
    cases f_X13_node (nI 31) 1 r with
    | none => rfl
    | some r1 =>
      rw [l2_bs, l2_bs]
      cases f_X13_next r1.2 with
      | none => rfl
      | some r2 =>
        rw [l2_bs, l2_bs, if_neg (by decide), if_neg (by decide), if_neg (by decide), if_pos (by decide), hTs]
        rfl
  rw [eR]
  refine tn_mk (K := 31) X hb (by decide) (fun f p0 j r1 z1 z2 z3 _ _ => ?_) (fun c2 r2 S => ?_)
  · exact l2_bd _ z1.next (fun r2 hr => l2_imp hr.pc1R (fun y hy => ⟨⟨j, z2, z3, hy.1⟩, hy.2⟩))
  rw [hC]
  have S' := S
  obtain ⟨ht, hm, hq, X2, g1, g2, ta, nd, d8⟩ := S
  have e8 : c2.1 1 8 = nI 91 := by rw [(g1 1 8 (by unfold tm_W; omega)).1]; exact h
  unfold m_X6_readTone
  rw [e8, if_neg (by decide), if_neg (by decide), if_neg (by decide), if_neg (by decide), if_neg (by decide), if_neg (by decide), if_neg (by decide), if_neg (by decide), if_neg (by decide)]
  unfold k_X6_readTone_310
  rw [Option.bind_assoc]
  refine h2_bb _ (xp_adv X2 (by decide) (Or.inr (by rw [e8]; decide)) (by rw [e8]; decide)) (fun c3 r3 hw => ?_)
  obtain ⟨w1, w2, w3⟩ := hw
  rw [if_neg (by decide), if_neg (by decide), if_neg (by decide), if_pos (by decide), pc_cls hPc]
  rcases w3 with ⟨X3, l1, l2⟩ | ⟨f, p0, y1, y2⟩
  rotate_left
  · have hF : xF f p0 t e p l w o w c c3 := xF.of X2 (by omega) (by omega) ⟨Nat.le_refl _, by omega⟩ ⟨Nat.le_refl _, Nat.le_refl _⟩ S'.fc.1 w1 (fun b j z => x_la z) ⟨by unfold la_W; omega, by unfold la_W; omega, by unfold la_W; omega⟩ (fun j => by unfold la_W; omega) y1 xw.nil
    have hR' : xR P f p0 m s r r3 := (xR.of X2.1 (by decide) w2 y2 (s := s)).sub S'.fc.2 (by omega) (Nat.le_refl _)
    exact h2_sep _ _ (hF.pc1C hB ht) hR'.pc1R (fun z y hz hy => Or.inr ⟨⟨m, Nat.le_refl _, by omega, hy.1⟩, Or.inr ⟨hz.1, hz.2.1⟩, _, _, hz.2.2, hy.2⟩)
  exact pc_go hb S' (by omega) X3 w1 w2 hT hx hTC hB hR hP hTs3 hW hI hT3 hTC3 hB3 hR3
end
