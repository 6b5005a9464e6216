/-! Level 2: tones on both sides: a pattern, a number, a WORD. -/
theorem pj.z1 {P : pc_S} {u d q m : Nat} {c r : t_S} (h : pj P u d 0 q m c r) : pj P u d 1 q m c r := by
  obtain ⟨B, L, W0, W, V, sl, H, T, n, t0, mm⟩ := P
  obtain ⟨a1, a2, a3, a4, a5, a6, a7, a8, a9, a10, a11⟩ := h
  exact ⟨a1, a2, a3, a4, a5, a6, a7, a8, a9, by omega, a11⟩
theorem xp.z1 {P : pc_S} {E : en_S} {u d q m t e p l w o s i dd : Nat} {c r : t_S} (h : xp P E u d 0 q m t e p l w o s i dd c r) : xp P E u d 1 q m t e p l w o s i dd c r := ⟨h.1.z1, h.2⟩
section
variable {P : pc_S} {E : en_S} {lv x : Int32} {EB PB IB u q m t e p l w o s i dd : Nat} {c r : t_S} {rc rc2 : RT_X6_readBase} {rR rR2 : RT_X13_base}
theorem sG.fc {K : Nat} {c2 r2 : t_S} (S : sG P E lv K u q m t e p l w o s i dd c r c2 r2) : l2_fr (xWc t e p l w o) c c2 ∧ l2_fr (xWr m s) r r2 := ⟨S.2.2.2.2.1.mono (fun b j y => sG.w y), S.2.2.2.2.2.1.mono (fun b j y => xn_r y)⟩
/-- both behind a fault, from a later state -/
theorem tO_F {z1 z2 : Int32} {c' r' : t_S} {j f p0 : Nat} (h1 : m ≤ j ∧ j < 13000) (h2 : z2 = 0 ∨ z1 = nI t ∧ z2 = 1) (hF : xF f p0 t e p l w o w c c') (hR : xR P f p0 m s r r') : tO_R P E lv u q m t e p l w o s i dd c r (z1, z2, c') (nI j, r') := Or.inr ⟨⟨j, h1.1, h1.2, rfl⟩, h2, f, p0, hF, hR⟩
/-- pattern -/
theorem tn_pat (hC : ∀ a b d s, rc.2.2.2.2.2.2.2.2.2.2.2.2.2.2.2 a b d s = m_X6_readTone rc2 a b d s) (hR : ∀ s, rR.2.2.2.2.2.2.2.2.2.2.2 s = m_X13_wordTone rR2 s) (X : xp P E u 0 0 q m t e p l w o s i dd c r) (hb : xb P EB PB IB u q t e p l w o s i dd) (h : c.1 1 8 = nI (200 + 26)) : t_h2 (tcC rc lv x c) (m_X13_tone rR r) (tO_R P E lv u q m t e p l w o s i dd c r) := by
  have hb' := hb
  unfold xb at hb'
  have ple := X.1.ple
  have h10 : r.1 950 5 = 1 ∧ r.1 950 10 = nI 26 := by
    rcases X.1.isW (x := 26) (by omega) with ⟨_, b⟩ | ⟨b, _⟩
    · unfold f_X13_isWord at b
      by_cases z : r.1 950 5 = 1
      · rw [if_pos z] at b
        by_cases z2 : r.1 950 10 = nI (pv 26)
        · exact ⟨z, z2⟩
        · rw [if_neg z2] at b; exact absurd b (by decide)
      · rw [if_neg z] at b; exact absurd b (by decide)
    · exact absurd h b
  have n4 : c.1 1 8 ≠ 4 := by rw [h]; decide
  have plt := X.1.plt' n4
  have bs : ∀ s : t_S, (rR.2.2.2.2.2.2.2.2.2.2.2 s).bind (fun r5 => some (r5.1, r5.2)) = rR.2.2.2.2.2.2.2.2.2.2.2 s := fun s => by cases rR.2.2.2.2.2.2.2.2.2.2.2 s <;> rfl
  have eR : m_X13_tone rR r = (f_X13_node (nI 35) 1 r).bind (fun r1 => (f_X13_next r1.2).bind (fun r2 => if (r2.1 950 5) = (3 : Int32) then (k_X13_wordTone_152 rR2 r1.1 r2) else ((f_X13_fail (2 : Int32) (r2.1 950 6) r2).bind (fun r3 => k_X13_wordTone_152 rR2 r1.1 r3)))) := by
    unfold m_X13_tone
    rw [if_pos h10.1, bs, hR]
    unfold m_X13_wordTone
    rw [h10.2, if_pos (by decide), if_neg (by decide), if_neg (by decide), if_neg (by decide), if_neg (by decide), if_neg (by decide), if_pos (by decide)]
    unfold k_X13_wordTone_94
    show (f_X13_node (nI 35) 1 r).bind _ = _
    cases f_X13_node (nI 35) 1 r with
    | none => rfl
    | some r1 =>
      rw [l2_bs, l2_bs, if_pos (by decide)]
      unfold k_X13_wordTone_125
      cases f_X13_next r1.2 with
      | none => rfl
      | some r2 =>
        rw [l2_bs, l2_bs, if_pos (by decide)]
  rw [eR]
  refine tn_mk X hb (by decide) (fun f p0 j r1 z1 z2 z3 _ _ => ?_) (fun c2 r2 S => ?_)
  · refine l2_bd _ z1.next (fun r2 hr => ?_)
    have e : ∀ r3, xR P f p0 m s r r3 → t_hk (k_X13_wordTone_152 rR2 (nI j) r3) (fun y => (∃ j, m ≤ j ∧ j < 13000 ∧ y.1 = nI j) ∧ xR P f p0 m s r y.2) := fun r3 h3 => by
      unfold k_X13_wordTone_152
      exact l2_bd _ (h3.keepText z2 z3) (fun r4 h4 => nxF h4 z2 z3)
    exact l2_if (fun _ => e r2 hr) (fun _ => l2_eq (hr.fail _ _) (e r2 hr))
  rw [hC]
  have S' := S
  obtain ⟨ht, hm, hq, X2, g1, g2, ta, nd, d8⟩ := S
  have e8 : c2.1 1 8 = nI (200 + 26) := by rw [(g1 1 8 (by unfold tm_W; omega)).1]; exact h
  unfold m_X6_readTone
  rw [e8, if_neg (by decide), if_neg (by decide), if_neg (by decide), if_neg (by decide), if_neg (by decide), if_neg (by decide), if_neg (by decide), if_neg (by decide), if_neg (by decide)]
  unfold k_X6_readTone_310
  rw [Option.bind_assoc]
  refine h2_bb _ (xp_adv X2 (by decide) (Or.inr (by rw [e8]; decide)) (by rw [e8]; decide)) (fun c3 r3 hw => ?_)
  obtain ⟨w1, w2, w3⟩ := hw
  rw [if_neg (by decide), if_neg (by decide), if_neg (by decide), if_neg (by decide), if_neg (by decide), if_neg (by decide), if_neg (by decide), if_pos (by decide)]
  have ixt : t_ix (nI t) 6100 = true := l2_ix (by omega) (by decide)
  have fc3 := S'.fc.1.trans (w1.mono (fun b j y => x_la y))
  have fr3 := S'.fc.2.trans (w2.mono (fun b j y => x_rn y))
  have k530 : ∀ c4 : t_S, (k_X6_readTone_530 rc2 (nI t) c4).bind (fun r3 => some (nI t, (1 : Int32), r3)) = (f_X2_need 3 (t_setI c4 354 t 14)).bind (fun r3 => some (nI t, (1 : Int32), r3)) := fun c4 => by
    unfold k_X6_readTone_530
    rw [if_pos ixt, nI_clamp (by omega)]
    show ((f_X2_need 3 (t_setI c4 354 t 14)).bind (fun r2 => some r2)).bind _ = _
    cases f_X2_need 3 (t_setI c4 354 t 14) <;> rfl
  -- the class's end behind a fault
  have cls : ∀ {f p0 : Nat} {c4 : t_S}, xF f p0 t e p l w o w c c4 → t_hk ((k_X6_readTone_530 rc2 (nI t) c4).bind (fun r3 => some (nI t, (1 : Int32), r3))) (fun z => z.1 = nI t ∧ z.2.1 = 1 ∧ xF f p0 t e p l w o w c z.2.2) := fun hF => by
    rw [k530]
    have h2 := hF.set (b := 354) (j := t) (v := 14) (by decide) (Nat.le_refl _)
    exact l2_eq (h2.stay.2.2.1 3 (by decide)).1 (l2_sm ⟨rfl, rfl, h2⟩)
  have ref : ∀ {f p0 : Nat} {r4 : t_S}, xR P f p0 m s r r4 → t_hk (k_X13_wordTone_152 rR2 (nI m) r4) (fun y => y.1 = nI m ∧ xR P f p0 m s r y.2) := fun hR => by
    unfold k_X13_wordTone_152
    exact l2_bd _ (hR.keepText (Nat.le_refl _) (by omega)) (fun r4 h4 => l2_bd _ h4.next (fun r5 h5 => l2_sm ⟨rfl, h5⟩))
  have join : ∀ {f p0 : Nat} {z : Int32 × Int32 × t_S} {y : Int32 × t_S}, (z.1 = nI t ∧ z.2.1 = 1 ∧ xF f p0 t e p l w o w c z.2.2) → (y.1 = nI m ∧ xR P f p0 m s r y.2) → tO_R P E lv u q m t e p l w o s i dd c r z y := fun hz hy => Or.inr ⟨⟨m, Nat.le_refl _, by omega, hy.1⟩, Or.inr ⟨hz.1, hz.2.1⟩, _, _, hz.2.2, hy.2⟩
  rcases w3 with ⟨X3, l1, l2⟩ | ⟨f, p0, y1, y2⟩
  rotate_left
  · have hF : xF f p0 t e p l w o w c c3 := xF.of X2 (by omega) (by omega) ⟨Nat.le_refl _, by omega⟩ ⟨Nat.le_refl _, Nat.le_refl _⟩ S'.fc.1 w1 (fun b j z => x_la z) ⟨by unfold la_W; omega, by unfold la_W; omega, by unfold la_W; omega⟩ (fun j => by unfold la_W; omega) y1 xw.nil
    have hR : xR P f p0 m s r r3 := (xR.of X2.1 (by decide) w2 y2 (s := s)).sub S'.fc.2 (by omega) (Nat.le_refl _)
    refine h2_sep _ _ ?_ (l2_if (fun _ => ref hR) (fun _ => l2_eq (hR.fail _ _) (ref hR))) (fun z y hz hy => join hz hy)
    rw [if_neg (show ¬ c3.1 1 8 = (3 : Int32) by rw [hF.stay.2.2.2.1]; decide)]
    exact cls hF
  by_cases h3 : c3.1 1 8 = 3
  rotate_left
  · have h5 : ¬ r3.1 950 5 = 3 := fun y => h3 (X3.1.sort.2.2.1.mpr y)
    rw [if_neg h3, if_neg h5, k530]
    have g5 : l2_fr (fun b j => b = 354 ∧ j = t) c3 (t_setI c3 354 t 14) := l2_fr.set ⟨rfl, rfl⟩
    have X5 := X3.own g5 (l2_fr.rf (W := fun _ _ => False)) (fun b j y => by omega) (fun b j y => y.elim)
    have e5 : ¬ (t_setI c3 354 t 14).1 1 8 = 3 := by rw [(g5 1 8 (by omega)).1]; exact h3
    generalize t_setI c3 354 t 14 = c5 at *
    unfold f_X2_need
    rw [if_neg e5, Option.bind_assoc]
    refine h2_bb _ (pj_fail (f := 2) X5.1 (by decide) (by decide)) (fun c6 r6 hw => ?_)
    obtain ⟨v1, v2, f, p0, v3, v4⟩ := hw
    have hF : xF f p0 t e p l w o w c c6 := xF.of X5 (by omega) (by omega) ⟨Nat.le_refl _, by omega⟩ ⟨Nat.le_refl _, Nat.le_refl _⟩ (fc3.trans (g5.mono (fun b j y => by obtain ⟨rfl, rfl⟩ := y; exact xWc.itm (by decide) (by decide) (Nat.le_refl _)))) v1 (fun b j z => x_la z) ⟨by unfold la_W; omega, by unfold la_W; omega, by unfold la_W; omega⟩ (fun j => by unfold la_W; omega) v3 xw.nil
    have hR : xR P f p0 m s r r6 := (xR.of X5.1 (by decide) v2 v4 (s := s)).sub fr3 (by omega) (Nat.le_refl _)
    exact h2_doneL (l2_imp (ref hR) (fun y hy => join ⟨rfl, rfl, hF⟩ hy))
  have h5 : r3.1 950 5 = 3 := X3.1.sort.2.2.1.mp h3
  rw [if_pos h3, if_pos h5]
  have k55 : r3.1 955 m = nI 35 := by rw [(w2 955 m (by unfold rn_W; omega)).1]; exact nd.1
  obtain ⟨p1, s1, a1, a2, a3, a4, a5, a6, a7⟩ := tn_text hb (Nat.le_of_lt l1) hq hm X3 h3 k55
  unfold k_X13_wordTone_152
  rw [Option.bind_assoc]
  refine h2_bL _ a7 (fun y hy => ?_)
  obtain ⟨y0, c4⟩ := y
  obtain ⟨y1, y2, y3, y4, y5⟩ := hy
  have y1 : y0 = nI p := y1
  subst y1
  have y2 : l2_fr (fun b j => (b = 334 ∧ j = 4) ∨ (b = 337 ∧ p ≤ j)) c3 c4 := y2
  have y3 : c4.1 334 4 = nI p1 := y3
  rw [Option.bind_assoc]
  refine h2_bR _ y5 (fun r4 hr => ?_)
  obtain ⟨z1, z2, z3⟩ := hr
  refine h2_bL _ (tm_lit (t := t) (p := p) (s := c4) ht (by omega)) (fun c5 hc5 => ?_)
  obtain ⟨b1, b2, b3⟩ := hc5
  rw [k530]
  have g6 : l2_fr (fun b j => (b = 354 ∨ b = 357) ∧ j = t) c5 (t_setI c5 354 t 14) := l2_fr.set ⟨Or.inl rfl, rfl⟩
  have w6 : (t_setI c5 354 t 14).1 354 t = 14 := by simp only [l2_gI, reduceIte]
  have w7 : (t_setI c5 354 t 14).1 357 t = nI p := by
    simp only [l2_gI, Nat.reduceEqDiff, reduceIte]
    exact b3
  generalize t_setI c5 354 t 14 = c6 at *
  have e6 : c6.1 1 8 = 3 := by rw [(g6 1 8 (by omega)).1, (b1 1 8 (by omega)).1, (y2 1 8 (by omega)).1]; exact h3
  have nd3 : (f_X2_need 3 c6).bind (fun r3 => some (nI t, (1 : Int32), r3)) = (f_X2_advance c6).bind (fun r3 => some (nI t, (1 : Int32), r3)) := by
    unfold f_X2_need
    rw [if_pos e6]
    cases f_X2_advance c6 <;> rfl
  rw [nd3]
  exact tn_textfin hb S' (by omega) ⟨by omega, l2⟩ (Or.inr ⟨rfl, rfl⟩) w1 w2 X3.z1 h3 ⟨a1, a2⟩ ⟨a3, a4⟩ y2 y3 (b1.trans g6) z1 z2 z3 w6 w7
/-- a tone of several tokens, at its end -/
theorem tn_ok {c' r' : t_S} {u' q' m' t' e' p' l' s' i' : Nat} (h1 : xk P u q t e p l s i u' q' t' e' p' l' s' i') (h2 : m < m') (h3 : t < t') (X : xp P E u' 0 0 q' m' t' e' p' l' w o s' i' dd c' r') (fc : l2_fr (xWc t e p l w o) c c') (fr : l2_fr (xWr m s) r r') (hX : XT (wn_R E c' r' l l') (an_R E c' r' l l') (tn_R E c' r' l l') (sn_R c') c' r' p' s' (m' - m - 1) lv (20 * dd + 15) e e' t t' m m') (D : xD E c c' r' l l' i i' m m') (h60 : r'.1 960 m = -1) (h61 : r'.1 961 m = 0) (h58 : c'.1 358 t = lv) (h59 : c'.1 359 t = 0) (h360 : c'.1 360 t = 0 ∧ c'.1 356 t = -1) : tO_R P E lv u q m t e p l w o s i dd c r (nI t, (1 : Int32), c') (nI m, r') := Or.inl ⟨rfl, rfl, rfl, u', q', m', t', e', p', l', s', i', h1, h2, h3, X, fc, fr, hX, D, h60, h61, h58, h59, h360⟩
/-- a WORD -/
theorem tn_word (hC : ∀ a b d s, rc.2.2.2.2.2.2.2.2.2.2.2.2.2.2.2 a b d s = m_X6_readTone rc2 a b d s) (hR : ∀ s, rR.2.2.2.2.2.2.2.2.2.2.2 s = m_X13_wordTone rR2 s) (X : xp P E u 0 0 q m t e p l w o s i dd c r) (hb : xb P EB PB IB u q t e p l w o s i dd) (h : c.1 1 8 = 1) : t_h2 (tcC rc lv x c) (m_X13_tone rR r) (tO_R P E lv u q m t e p l w o s i dd c r) := by
  have hb' := hb
  unfold xb at hb'
  have ple := X.1.ple
  obtain ⟨h5, h10⟩ := X.1.sort.1.mp h
  have n4 : c.1 1 8 ≠ 4 := by rw [h]; decide
  have plt := X.1.plt' n4
  have cw := X.1.cword h
  have cle := X.1.cle
  have bs : ∀ s : t_S, (rR.2.2.2.2.2.2.2.2.2.2.2 s).bind (fun r5 => some (r5.1, r5.2)) = rR.2.2.2.2.2.2.2.2.2.2.2 s := fun s => by cases rR.2.2.2.2.2.2.2.2.2.2.2 s <;> rfl
  have n0 : ¬ (0 : Int32) ≤ r.1 950 10 := Int32.not_le.mpr h10
  have p125 : ∀ (l2 : Int32) (s : t_S), k_X13_wordTone_125 rR2 (r.1 950 10) l2 s = (f_X13_next s).bind (fun r1 => some (l2, r1)) := fun l2 s => by
    unfold k_X13_wordTone_125
    cases f_X13_next s with
    | none => rfl
    | some r1 =>
      show (if r.1 950 10 = (26 : Int32) then _ else _) = some (l2, r1)
      have ne : ∀ k : Int32, 0 ≤ k → ¬ r.1 950 10 = k := fun k hk y => n0 (by rw [y]; exact hk)
      rw [if_neg (ne 26 (by decide)), if_neg (ne 24 (by decide)), if_neg (ne 25 (by decide)), if_pos (Int32.lt_trans h10 (by decide))]
  have eR : m_X13_tone rR r = (f_X13_node (nI 28) 1 r).bind (fun r1 => (f_X13_name r1.2).bind (fun r2 => if t_ix r1.1 13000 = true then t_let (t_setJ r2.2 957 (r1.1.toNatClampNeg) r2.1.toInt64) (fun s1 => t_let (t_setJ s1 958 (r1.1.toNatClampNeg) ((s1.1 950 33).toInt64)) (fun s2 => (f_X13_next s2).bind (fun r3 => some (r1.1, r3)))) else none)) := by
    unfold m_X13_tone
    rw [if_pos h5, bs, hR]
    unfold m_X13_wordTone
    rw [if_neg n0]
    unfold k_X13_wordTone_94
    show (f_X13_node (nI 28) 1 r).bind _ = _
    cases f_X13_node (nI 28) 1 r with
    | none => rfl
    | some r1 =>
      show (if (0 : Int32) ≤ r.1 950 10 then _ else _) = (f_X13_name r1.2).bind _
      rw [if_neg n0]
      cases f_X13_name r1.2 with
      | none => rfl
      | some r2 =>
        show (if t_ix r1.1 13000 = true then _ else _) = (if t_ix r1.1 13000 = true then _ else _)
        by_cases z : t_ix r1.1 13000 = true
        · rw [if_pos z, if_pos z]
          exact p125 _ _
        · rw [if_neg z, if_neg z]
  rw [eR]
  refine tn_mk X hb (by decide) (fun f p0 j r1 z1 z2 z3 z4 z5 => ?_) (fun c2 r2 S => ?_)
  · refine l2_bd _ (z1.name1 (z4.trans h5) (by rw [z5]; exact h10)) (fun y hy => l2_ck (l2_ix z3 (by decide)) (l2_lt (l2_lt ?_)))
    rw [nI_clamp (by omega)]
    exact nxF ((hy.setJ ⟨by decide, by decide, z2⟩).setJ ⟨by decide, by decide, z2⟩) z2 z3
  rw [hC]
  have S' := S
  obtain ⟨ht, hm, hq, X2, g1, g2, ⟨t1, t2, t3, t4, t5, t6, t7, t8, t9⟩, ⟨d1, d2, d3, d4, d5, d6, d7⟩, d8⟩ := S
  have e8 : c2.1 1 8 = 1 := by rw [(g1 1 8 (by unfold tm_W; omega)).1]; exact h
  obtain ⟨x1, x2, x3, x4, x5, x6, x7, x8, x9, x10, x11⟩ := X2
  refine h2_bR _ (pj_name1 x1 e8) (fun y hy => ?_)
  obtain ⟨y0, r3⟩ := y
  obtain ⟨X, hX, v1, v2, v3, v4⟩ := hy
  have v2 : y0 = nI X := v2
  subst v2
  have v3 : l2_fr nm_W r2 r3 := v3
  have v4 : pj P u 1 1 (q + 1) (m + 1) c2 r3 := v4
  have ww : f_X2_word c2 = nI (66 + X) := by
    unfold f_X2_word
    rw [v1]
    exact lN_i _
  refine h2_ckR (l2_ix (by omega) (by decide)) (h2_lR (h2_lR ?_))
  rw [nI_clamp (n := m) (by omega), nI_l (n := X) (by omega)]
  have f4 : l2_fr (fun b j => (b = 957 ∨ b = 958) ∧ j = m) r3 (t_setJ (t_setJ r3 957 m (lN X)) 958 m (((t_setJ r3 957 m (lN X)).1 950 33).toInt64)) := (l2_fr.setJ ⟨Or.inl rfl, rfl⟩).trans (l2_fr.setJ ⟨Or.inr rfl, rfl⟩)
  have w7 : (t_setJ (t_setJ r3 957 m (lN X)) 958 m (((t_setJ r3 957 m (lN X)).1 950 33).toInt64)).2.1 957 m = lN X := by simp only [l2_gJ, Nat.reduceEqDiff, reduceIte]
  generalize t_setJ (t_setJ r3 957 m (lN X)) 958 m (((t_setJ r3 957 m (lN X)).1 950 33).toInt64) = r4 at *
  -- the class
  have ixt : t_ix (nI t) 6100 = true := l2_ix (by omega) (by decide)
  unfold m_X6_readTone
  rw [e8, if_pos (by decide), if_pos ixt, nI_clamp (n := t) (by omega)]
  have g5 : l2_fr (fun b j => (b = 354 ∨ b = 357) ∧ j = t) c2 (t_setI (t_setI c2 354 t 6) 357 t (f_X2_word (t_setI c2 354 t 6))) := (l2_fr.set ⟨Or.inl rfl, rfl⟩).trans (l2_fr.set ⟨Or.inr rfl, rfl⟩)
  have ww2 : f_X2_word (t_setI c2 354 t 6) = nI (66 + X) := ww
  have k4 : (t_setI (t_setI c2 354 t 6) 357 t (f_X2_word (t_setI c2 354 t 6))).1 354 t = 6 := by simp only [l2_gI, Nat.reduceEqDiff, reduceIte]
  have k7 : (t_setI (t_setI c2 354 t 6) 357 t (f_X2_word (t_setI c2 354 t 6))).1 357 t = nI (66 + X) := by
    simp only [l2_gI, Nat.reduceEqDiff, reduceIte]
    exact ww2
  show t_h2 (((f_X0_emit 35 (nI t) (t_setI (t_setI c2 354 t 6) 357 t (f_X2_word (t_setI c2 354 t 6)))).bind (fun r3 => (f_X6_link 13 (nI t) 0 r3.2).bind (fun r4 => some r4))).bind _) _ _
  generalize t_setI (t_setI c2 354 t 6) 357 t (f_X2_word (t_setI c2 354 t 6)) = c3 at *
  rw [Option.bind_assoc]
  refine h2_bL _ (em_emit (s := c3) (e := e) 35 (nI t) (by rw [(g5 334 2 (by omega)).1]; exact x4) (by omega)) (fun y hy => ?_)
  obtain ⟨y0, c4⟩ := y
  obtain ⟨_, y2, y3, y4, y5⟩ := hy
  have y2 : l2_fr (fun b j => (b = 334 ∧ j = 2) ∨ ((b = 335 ∨ b = 336) ∧ j = e)) c3 c4 := y2
  have y3 : c4.1 334 2 = nI (e + 1) := y3
  have y4 : c4.1 335 e = 35 := y4
  have y5 : c4.1 336 e = nI t := y5
  have e84 : c4.1 1 8 = 1 := by rw [(y2 1 8 (by omega)).1, (g5 1 8 (by omega)).1]; exact e8
  have w4 : f_X2_word c4 = nI (66 + X) := by
    unfold f_X2_word
    rw [(y2 1 10 (by omega)).2.1, (g5 1 10 (by omega)).2.1, v1]
    exact lN_i _
  have hm4 : f_X6_home c4 = E.1 := by
    have q : en E c4 r2 := x2.fr (Wc := fun b j => ((b = 354 ∨ b = 357) ∧ j = t) ∨ (b = 334 ∧ j = 2) ∨ ((b = 335 ∨ b = 336) ∧ j = e)) ((g5.mono (fun b j z => Or.inl z)).trans (y2.mono (fun b j z => Or.inr z))) (l2_fr.rf (W := fun _ _ => False)) (fun j _ _ => by omega) (fun b i _ _ => by omega) ⟨fun y => y, fun y => y⟩
    obtain ⟨hm', cx, td, ba, kn, vv⟩ := E
    exact q.1
  have p9 : c4.1 1 9 = nI (pc_p P u) := by rw [(y2 1 9 (by omega)).1, (g5 1 9 (by omega)).1]; exact x1.cle.2.1
  unfold f_X6_link
  show t_h2 (((if c4.1 1 8 = (1 : Int32) then _ else _ : Option t_S).bind (fun r4 => some r4)).bind _) _ _
  rw [if_pos e84, w4, hm4, p9]
  rw [Option.bind_assoc, Option.bind_assoc]
  refine h2_bL _ (ln_add (s := c4) (l := l) (by rw [(y2 846 6 (by omega)).1, (g5 846 6 (by omega)).1]; exact x6) (by omega)) (fun c5 hc5 => ?_)
  obtain ⟨q1, q2, q3, q4, q5, q6, q7, q8⟩ := hc5
  have ass : ∀ {F : t_S → Option (Int32 × Int32 × t_S)}, ((f_X2_advance c5).bind (fun r4 => some r4)).bind (fun x => (some x).bind F) = (f_X2_advance c5).bind F := fun {F} => by cases f_X2_advance c5 <;> rfl
  rw [ass]
  have fcs : l2_fr (fun b j => ((b = 354 ∨ b = 357) ∧ j = t) ∨ (b = 334 ∧ j = 2) ∨ ((b = 335 ∨ b = 336) ∧ j = e) ∨ (b = 846 ∧ j = 6) ∨ (848 ≤ b ∧ b ≤ 853 ∧ j = l)) c2 c5 := ((g5.mono (fun b j z => Or.inl z)).trans (y2.mono (fun b j z => by omega))).trans (q1.mono (fun b j z => by omega))
  have frs : l2_fr (fun b j => nm_W b j ∨ ((b = 957 ∨ b = 958) ∧ j = m)) r2 r4 := (v3.mono (fun b j z => Or.inl z)).trans (f4.mono (fun b j z => Or.inr z))
  have X5 : xp P E u 1 1 (q + 1) (m + 1) (t + 1) (e + 1) p (l + 1) w o s (i + 1) dd c5 r4 := by
    refine ⟨v4.fr fcs f4 (fun j => by omega) (fun b i _ _ => by omega) (fun b i _ _ => by omega) (by omega) (fun j _ => by omega) (fun b i _ _ => by omega), x2.fr fcs frs (fun j _ _ => by omega) (fun b i _ _ => by omega) ⟨by unfold nm_W; omega, by unfold nm_W; omega⟩, ?_, ?_, ?_, q2, ?_, ?_, ?_, ?_, ?_⟩
    · rw [(fcs 353 9 (by omega)).1]; exact x3
    · rw [(q1 334 2 (by omega)).1]; exact y3
    · rw [(fcs 334 4 (by omega)).1]; exact x5
    · rw [(fcs 845 7 (by omega)).1]; exact x7
    · rw [(fcs 845 9 (by omega)).1]; exact x8
    · rw [(frs 950 36 (by unfold nm_W; omega)).1]; exact x9
    · rw [(frs 950 26 (by unfold nm_W; omega)).1]; exact x10
    · rw [(frs 950 32 (by unfold nm_W; omega)).1]; exact x11
  have aC : ∀ b, 358 ≤ b → b ≤ 360 → c5.1 b t = c2.1 b t := fun b x y => (fcs b t (by omega)).1
  have aR : ∀ b, 955 ≤ b → b ≤ 962 → b ≠ 957 → b ≠ 958 → r4.1 b m = r2.1 b m := fun b x y z1 z2 => (frs b m (by unfold nm_W; omega)).1
  have k55 : r4.1 955 m = nI 28 := by rw [aR 955 (by decide) (by decide) (by decide) (by decide)]; exact d1
  have k56 : r4.1 956 m = nI (pc_p P u) := by rw [aR 956 (by decide) (by decide) (by decide) (by decide), d2]; exact cle.2.2.1
  have en5 : w_en E.1 c5 r4 l m 13 (r4.1 956 m) := ⟨X, hX, q4, q5, w7, by rw [q3, k56], q6⟩
  have e7' : c5.1 846 7 = c.1 846 7 := by rw [(fcs 846 7 (by omega)).1, (g1 846 7 (by unfold tm_W; omega)).1]
  have e8' : c5.1 846 8 = c.1 846 8 := by rw [(fcs 846 8 (by omega)).1, (g1 846 8 (by unfold tm_W; omega)).1]
  refine tn_fin (u1 := u) (d1 := 1) hb (Or.inl rfl) (by rw [(fcs 1 8 (by omega)).1, e8]; decide) X5 (Nat.le_refl _) ⟨by omega, Nat.le_refl _⟩ ⟨Nat.le_refl _, by omega⟩ ⟨by omega, by omega⟩ ⟨Nat.le_refl _, by omega⟩ (Nat.le_refl _) (Nat.le_refl _) (S'.fc.1.trans (fcs.mono (fun b j y => ?_))) (S'.fc.2.trans (frs.mono (fun b j y => ?_))) (Or.inr ⟨rfl, k55, ⟨by rw [(q1 335 e (by omega)).1]; exact y4, by rw [(q1 336 e (by omega)).1]; exact y5⟩, ?_⟩) (xD.mk1 (K := 28) (T := fun _ => False) k55 (by decide) ⟨28, by decide, by decide, k55, fun _ => ⟨l, Nat.le_refl _, by omega, en5⟩, fun z => absurd z (by decide), fun z => by omega, fun z => absurd z (by decide)⟩ (fun a y1 y2 => by rw [show a = l by omega]; exact Or.inl ⟨k55, en5⟩) (fun p => ⟨fun y => ?_, fun y => y.elim⟩) (fun S hS => (hS.same e7' e8').iff (fun x => ⟨Or.inl, fun y => y.elim id (fun z => z.elim)⟩)) (fun _ => ⟨by rw [aR 962 (by decide) (by decide) (by decide) (by decide)]; exact d8, by omega⟩)) ?_ ?_ (by rw [aC 358 (by decide) (by decide)]; exact t5) (by rw [aC 359 (by decide) (by decide)]; exact t6) ⟨by rw [aC 360 (by decide) (by decide)]; exact t7, by rw [(fcs 356 t (by omega)).1]; exact t3⟩
  · rcases y with ⟨y, rfl⟩ | ⟨rfl, rfl⟩ | ⟨y, rfl⟩ | ⟨rfl, rfl⟩ | ⟨y1, y2, rfl⟩
    · exact xWc.itm (by omega) (by omega) (Nat.le_refl _)
    · exact xWc.i334 (Or.inl rfl)
    · exact xWc.iop y (Nat.le_refl _)
    · exact xWc.i846 (by decide)
    · exact xWc.iln y1 y2 (Nat.le_refl _)
  · rcases y with y | ⟨y, rfl⟩
    · exact x_nm y
    · exact Or.inr (Or.inr (Or.inl ⟨by omega, by omega, Nat.le_refl _⟩))
  · obtain ⟨hm', cx, td, ba, kn, vv⟩ := E
    exact ⟨by rw [(q1 354 t (by omega)).1, (y2 354 t (by omega)).1]; exact k4, l, Nat.le_refl _, by omega, en5, q7, by rw [q5, (q1 357 t (by omega)).1, (y2 357 t (by omega)).1]; exact k7⟩
  · obtain ⟨_, ⟨_, _, K', k1, k2⟩ | ⟨_, K', Z, k1, k2, _⟩⟩ := y
    · have := (nI_eq (a := K') (b := 28) (by omega) (by decide)).mp (k2.symm.trans k55)
      omega
    · have := (nI_eq (a := K') (b := 28) (by omega) (by decide)).mp (k2.symm.trans k55)
      omega
  · rw [aR 960 (by decide) (by decide) (by decide) (by decide)]; exact d6
  · rw [aR 961 (by decide) (by decide) (by decide) (by decide)]; exact d7
end
