/-! Level 2: tones on both sides: @ NAME templ, whole. -/
noncomputable def tgRn (rR : RT_X13_base) (n : Int32) (r2 : t_S) : Option (Int32 × t_S) := if t_ix n 13000 = true then t_let (t_setI r2 1003 (n.toNatClampNeg) (r2.1 950 6)) (fun s1 => (f_X13_freeName s1).bind (fun r10 => t_let (t_setJ r10.2 957 (n.toNatClampNeg) r10.1.toInt64) (fun s2 => (f_X13_next s2).bind (fun r11 => (rR.2.2.2.2.2.2.2.1 r11).bind (fun r12 => (f_X13_hang n r12.1 r12.2).bind (fun r13 => some (n, r13))))))) else none
theorem tgRn_eq {rR : RT_X13_base} {j : Nat} (hj : j < 13000) (r : t_S) : tgRn rR (nI j) r = tgR rR j r := by
  unfold tgRn tgR
  rw [if_pos (l2_ix hj (by decide)), nI_clamp (by omega)]
  rfl
section
variable {P : pc_S} {E : en_S} {lv x : Int32} {EB PB IB u q m t e p l w o s i dd : Nat} {c r : t_S} {rc rc2 rc3 : RT_X6_readBase} {rR : RT_X13_base}
theorem tg_fin (c5 : t_S) : (k_X6_readTag_38 rc3 (nI t) x lv c5).bind (fun r3 => some (nI t, (1 : Int32), r3)) = (f_X2_need 1 c5).bind (fun r1 => (rc3.2.2.2.2.2.2.2.2.2.2.2.2.2.1 (x + 1) (lv + 1) r1).bind (fun y => (if t_ix (nI t) 6100 = true then some (t_setI y.2 355 (nI t).toNatClampNeg y.1) else none).bind (fun r3 => some (nI t, (1 : Int32), r3)))) := by
  unfold k_X6_readTag_38
  cases f_X2_need 1 c5 with
  | none => rfl
  | some r1 =>
    simp only [l2_bs]
    cases rc3.2.2.2.2.2.2.2.2.2.2.2.2.2.1 (x + 1) (lv + 1) r1 with
    | none => rfl
    | some y =>
      simp only [l2_bs, t_let]
theorem tg_38 (ht : t < 6100) (c5 : t_S) : (k_X6_readTag_38 rc3 (nI t) x lv c5).bind (fun r3 => some (nI t, (1 : Int32), r3)) = tgC rc3 x lv t c5 := by
  rw [tg_fin]
  unfold tgC
  congr 1
  funext r1
  congr 1
  funext y
  rw [if_pos (l2_ix ht (by decide)), nI_clamp (by omega)]
  rfl
theorem tg_cls (hG : ∀ a b d s, rc2.2.2.2.2.2.2.2.2.2.2.2.2.1 a b d s = m_X6_readTag rc3 a b d s) (ht : t < 6100) (c3 : t_S) : ((rc2.2.2.2.2.2.2.2.2.2.2.2.2.1 (nI t) x lv c3).bind (fun r3 => some r3)).bind (fun r3 => some (nI t, (1 : Int32), r3)) = tgC rc3 x lv t (if c3.1 1 8 = 1 then t_setI (t_setI c3 354 t 9) 357 t (f_X2_word c3) else t_setI c3 354 t 9) := by
  have id : ∀ z : Option t_S, z.bind (fun r3 => some r3) = z := fun z => by cases z <;> rfl
  rw [hG, id]
  unfold m_X6_readTag
  rw [if_pos (l2_ix ht (by decide)), nI_clamp (by omega)]
  simp only [t_let]
  have e8 : (t_setI c3 354 t 9).1 1 8 = c3.1 1 8 := by simp only [l2_gI, Nat.reduceEqDiff, false_and, reduceIte]
  have ew : f_X2_word (t_setI c3 354 t 9) = f_X2_word c3 := rfl
  rw [e8, ew]
  by_cases z : c3.1 1 8 = 1
  · rw [if_pos z, if_pos z]; exact tg_38 ht _
  · rw [if_neg z, if_neg z]; exact tg_38 ht _
/-- @ NAME templ -/
theorem tn_tag (hC : ∀ a b d s, rc.2.2.2.2.2.2.2.2.2.2.2.2.2.2.2 a b d s = m_X6_readTone rc2 a b d s) (hG : ∀ a b d s, rc2.2.2.2.2.2.2.2.2.2.2.2.2.1 a b d s = m_X6_readTag rc3 a b d s) (hB : ∀ x y, bC2 (rc3.2.2.2.2.2.2.2.2.2.2.2.2.2.1 x y)) (hR : ∀ r : t_S, r.1 950 2 ≠ 0 → rR.2.2.2.2.2.2.2.1 r = some (0, r)) (hT : hT_R rc3 rR dd) (hx : x + 1 = nI dd) (X : xp P E u 0 0 q m t e p l w o s i dd c r) (hb : xb P EB PB IB u q t e p l w o s i dd) (h : c.1 1 8 = nI 64) : t_h2 (tcC rc lv x c) (m_X13_tone rR r) (tO_R P E lv u q m t e p l w o s i dd c r) := by
  have hb' := hb
  unfold xb at hb'
  have ple := X.1.ple
  obtain ⟨h5, h9⟩ : r.1 950 5 = 4 ∧ r.1 950 9 = 64 := by
    rcases X.1.is (x := 64) (by decide) with ⟨_, b⟩ | ⟨b, _⟩
    · exact is_1 b
    · exact absurd h b
  have n45 : f_X13_is 45 r = 0 := by
    unfold f_X13_is
    rw [if_pos h5, h9, if_neg (by decide)]
  have eR : m_X13_tone rR r = (f_X13_node (nI 30) 1 r).bind (fun r1 => (f_X13_next r1.2).bind (fun r2 => tgRn rR r1.1 r2)) := by
    unfold m_X13_tone
    rw [h5, if_neg (by decide), if_neg (by decide), if_neg (by decide), n45, if_pos rfl, h9, if_neg (by decide), if_neg (by decide), if_neg (by decide), if_pos (by decide)]
    unfold k_X13_tone_136
    show (f_X13_node (nI 30) 1 r).bind _ = _
    cases f_X13_node (nI 30) 1 r with
    | none => rfl
    | some r1 =>
      rw [l2_bs, l2_bs]
      cases f_X13_next r1.2 with
      | none => rfl
      | some r2 =>
        rw [l2_bs, l2_bs, if_neg (by decide), if_neg (by decide), if_pos (by decide)]
        rfl
  rw [eR]
  refine tn_mk (K := 30) X hb (by decide) (fun f p0 j r1 z1 z2 z3 _ _ => ?_) (fun c2 r2 S => ?_)
  · refine l2_bd _ z1.next (fun r2 hr => ?_)
    rw [tgRn_eq z3]
    exact l2_imp (hr.tag0R hR z2) (fun y hy => ⟨⟨j, z2, z3, hy.1⟩, hy.2⟩)
  rw [hC]
  have S' := S
  obtain ⟨ht, hm, hq, X2, g1, g2, ta, nd, d8⟩ := S
  have e8 : c2.1 1 8 = nI 64 := by rw [(g1 1 8 (by unfold tm_W; omega)).1]; exact h
  unfold m_X6_readTone
  rw [e8, if_neg (by decide), if_neg (by decide), if_neg (by decide), if_neg (by decide), if_neg (by decide), if_neg (by decide), if_neg (by decide), if_neg (by decide), if_neg (by decide)]
  unfold k_X6_readTone_310
  rw [Option.bind_assoc]
  refine h2_bb _ (xp_adv X2 (by decide) (Or.inr (by rw [e8]; decide)) (by rw [e8]; decide)) (fun c3 r3 hw => ?_)
  obtain ⟨w1, w2, w3⟩ := hw
  rw [if_neg (by decide), if_neg (by decide), if_pos (by decide), tg_cls hG ht, tgRn_eq (by omega)]
  have join : ∀ {f p0 : Nat} {z : Int32 × Int32 × t_S} {y : Int32 × t_S}, (z.1 = nI t ∧ z.2.1 = 1 ∧ xF f p0 t e p l w o w c z.2.2) → (y.1 = nI m ∧ xR P f p0 m s r y.2) → tO_R P E lv u q m t e p l w o s i dd c r z y := fun hz hy => Or.inr ⟨⟨m, Nat.le_refl _, by omega, hy.1⟩, Or.inr ⟨hz.1, hz.2.1⟩, _, _, hz.2.2, hy.2⟩
  have fr3 := S'.fc.2.trans (w2.mono (fun b j y => x_rn y))
  have fc3 := S'.fc.1.trans (w1.mono (fun b j y => x_la y))
  rcases w3 with ⟨X3, l1, l2⟩ | ⟨f, p0, y1, y2⟩
  rotate_left
  · have hF : xF f p0 t e p l w o w c c3 := xF.of X2 (by omega) (by omega) ⟨Nat.le_refl _, by omega⟩ ⟨Nat.le_refl _, Nat.le_refl _⟩ S'.fc.1 w1 (fun b j z => x_la z) ⟨by unfold la_W; omega, by unfold la_W; omega, by unfold la_W; omega⟩ (fun j => by unfold la_W; omega) y1 xw.nil
    have hR' : xR P f p0 m s r r3 := (xR.of X2.1 (by decide) w2 y2 (s := s)).sub S'.fc.2 (by omega) (Nat.le_refl _)
    rw [if_neg hF.word]
    exact h2_sep _ _ ((hF.set (b := 354) (j := t) (v := 9) (by decide) (Nat.le_refl _)).tag1C hB) (hR'.tag0R hR (Nat.le_refl _)) (fun z y hz hy => join hz hy)
  -- the reference notes its place
  unfold tgR
  have g4 : l2_fr (fun b j => b = 1003 ∧ j = m) r3 (t_setI r3 1003 m (r3.1 950 6)) := l2_fr.set ⟨rfl, rfl⟩
  generalize t_setI r3 1003 m (r3.1 950 6) = r4 at *
  have fr4 : l2_fr (xWr m s) r r4 := fr3.trans (g4.mono (fun b j y => by unfold xWr; omega))
  unfold tgC
  by_cases k8 : c3.1 1 8 = 1
  rotate_left
  · rw [if_neg k8]
    have f4 : l2_fr (fun b j => b = 354 ∧ j = t) c3 (t_setI c3 354 t 9) := l2_fr.set ⟨rfl, rfl⟩
    generalize t_setI c3 354 t 9 = c4 at *
    have X4 := X3.own f4 g4 (fun b j y => by omega) (fun b j y => by omega)
    have k84 : ¬ c4.1 1 8 = 1 := by rw [(f4 1 8 (by omega)).1]; exact k8
    have fc4 : l2_fr (xWc t e p l w o) c c4 := fc3.trans (f4.mono (fun b j y => by obtain ⟨rfl, rfl⟩ := y; exact xWc.itm (by decide) (by decide) (Nat.le_refl _)))
    unfold f_X2_need
    rw [if_neg k84, Option.bind_assoc]
    refine h2_bb _ (pj_noname X4.1 (by decide) k84) (fun c6 y6 hw => ?_)
    obtain ⟨v1, v2, f, p0, v3, v4⟩ := hw
    have hF : xF f p0 t e p l w o w c c6 := xF.of X4 (by omega) (by omega) ⟨Nat.le_refl _, by omega⟩ ⟨Nat.le_refl _, Nat.le_refl _⟩ fc4 v1 (fun b j z => x_la z) ⟨by unfold la_W; omega, by unfold la_W; omega, by unfold la_W; omega⟩ (fun j => by unfold la_W; omega) v3 xw.nil
    have hR' : xR P f p0 m s r y6.2 := (xR.of X4.1 (by decide) v2 v4 (s := s)).sub fr4 (by omega) (Nat.le_refl _)
    exact h2_sep _ _ (l2_eq rfl (l2_bd _ (hB _ _ _ _ _ _ _ _ _ _ _ _ _ hF) (fun y h1 => h1.tag2C))) (hR'.tag1R hR (Nat.le_refl _)) (fun z y hz hy => join hz hy)
  rw [if_pos k8]
  have f4 : l2_fr (fun b j => (b = 354 ∨ b = 357) ∧ j = t) c3 (t_setI (t_setI c3 354 t 9) 357 t (f_X2_word c3)) := (l2_fr.set ⟨Or.inl rfl, rfl⟩).trans (l2_fr.set ⟨Or.inr rfl, rfl⟩)
  have v4 : (t_setI (t_setI c3 354 t 9) 357 t (f_X2_word c3)).1 354 t = 9 := by simp only [l2_gI, Nat.reduceEqDiff, false_and, reduceIte]
  have v7 : (t_setI (t_setI c3 354 t 9) 357 t (f_X2_word c3)).1 357 t = f_X2_word c3 := by simp only [l2_gI, reduceIte]
  generalize t_setI (t_setI c3 354 t 9) 357 t (f_X2_word c3) = c4 at *
  have X4 := X3.own f4 g4 (fun b j y => by omega) (fun b j y => by omega)
  have k84 : c4.1 1 8 = 1 := by rw [(f4 1 8 (by omega)).1]; exact k8
  refine h2_bR _ (pj_name X4.1 k84) (fun y hy => ?_)
  obtain ⟨y0, r5⟩ := y
  obtain ⟨k, hk, n1, n2, n3, n4⟩ := hy
  have n2 : y0 = nI k := n2
  subst n2
  have n3 : l2_fr nm_W r4 r5 := n3
  have n4 : pj P (u + 1) 1 0 (q + 1) (m + 1) c4 r5 := n4
  have ww : f_X2_word c3 = nI (66 + k) := by
    unfold f_X2_word
    rw [← (f4 1 10 (by omega)).2.1, n1]
    exact lN_i _
  rw [ww] at v7
  have X5 : xp P E (u + 1) 1 0 (q + 1) (m + 1) (t + 1) e p l w o s (i + 1) dd c4 r5 := X4.fr n4 (l2_fr.rf (W := fun _ _ => False)) n3 (fun b j _ y => y) (fun b i _ _ y => y) (fun j y => by unfold nm_W; omega)
  unfold tgR1
  have g6 : l2_fr (fun b j => b = 957 ∧ j = m) r5 (t_setJ r5 957 m (nI k).toInt64) := l2_fr.setJ ⟨rfl, rfl⟩
  have v6 : (t_setJ r5 957 m (nI k).toInt64).2.1 957 m = lN k := by
    simp only [l2_gJ, reduceIte]
    exact nI_l (by omega)
  show t_h2 _ ((f_X13_next (t_setJ r5 957 m (nI k).toInt64)).bind _) _
  generalize t_setJ r5 957 m (nI k).toInt64 = r6 at *
  have X6 := X5.own (l2_fr.rf (W := fun _ _ => False)) g6 (fun b j y => y.elim) (fun b j y => by omega)
  have fc4 : l2_fr (fun b j => la_W b j ∨ ((b = 354 ∨ b = 357) ∧ j = t)) c2 c4 := (w1.mono (fun b j y => Or.inl y)).trans (f4.mono (fun b j y => Or.inr y))
  have fr6 : l2_fr (fun b j => rn_W b j ∨ nm_W b j ∨ ((b = 1003 ∨ b = 957) ∧ j = m)) r2 r6 := ((w2.mono (fun b j y => Or.inl y)).trans (g4.mono (fun b j y => Or.inr (Or.inr ⟨Or.inl y.1, y.2⟩)))).trans ((n3.mono (fun b j y => Or.inr (Or.inl y))).trans (g6.mono (fun b j y => Or.inr (Or.inr ⟨Or.inr y.1, y.2⟩))))
  have upc : ∀ b j, la_W b j ∨ ((b = 354 ∨ b = 357) ∧ j = t) → xWc t e p l w o b j := fun b j y => by
    rcases y with y | ⟨y, rfl⟩
    · exact x_la y
    · exact xWc.itm (by omega) (by omega) (Nat.le_refl _)
  have upr : ∀ b j, rn_W b j ∨ nm_W b j ∨ ((b = 1003 ∨ b = 957) ∧ j = m) → xWr m s b j := fun b j y => by
    rcases y with y | y | ⟨y, rfl⟩
    · exact x_rn y
    · exact x_nm y
    · unfold xWr; omega
  have nd1 : f_X2_need 1 c4 = f_X2_advance c4 := by
    unfold f_X2_need
    rw [if_pos k84]
    cases f_X2_advance c4 <;> rfl
  rw [nd1]
  refine h2_bb _ (xp_adv X6 (by decide) (Or.inl rfl) (by rw [k84]; decide)) (fun c7 r7 hw => ?_)
  obtain ⟨a1, a2, a3⟩ := hw
  have fc7 := fc4.trans (a1.mono (fun b j y => Or.inl y))
  have fr7 := fr6.trans (a2.mono (fun b j y => Or.inl y))
  have fcc : l2_fr (xWc t e p l w o) c c7 := S'.fc.1.trans (fc7.mono upc)
  have frr : l2_fr (xWr m s) r r7 := S'.fc.2.trans (fr7.mono upr)
  rcases a3 with ⟨X7, l3, l4⟩ | ⟨f, p0, y1, y2⟩
  rotate_left
  · have hF : xF f p0 t e p l w o w c c7 := xF.of X6 (by omega) (by omega) ⟨Nat.le_refl _, by omega⟩ ⟨Nat.le_refl _, Nat.le_refl _⟩ (S'.fc.1.trans (fc4.mono upc)) a1 (fun b j z => x_la z) ⟨by unfold la_W; omega, by unfold la_W; omega, by unfold la_W; omega⟩ (fun j => by unfold la_W; omega) y1 xw.nil
    have hR' : xR P f p0 m s r r7 := (xR.of X6.1 (by decide) a2 y2 (s := s)).sub (S'.fc.2.trans (fr6.mono upr)) (by omega) (Nat.le_refl _)
    exact h2_sep _ _ (l2_bd _ (hB _ _ _ _ _ _ _ _ _ _ _ _ _ hF) (fun y h1 => h1.tag2C)) (l2_eq (hR r7 hR'.ne) (xR.tag2R (y := (0, r7)) hR')) (fun z y hz hy => join hz hy)
  rw [hx]
  have k7 : c7.1 354 t = 9 := by rw [(a1 354 t (by unfold la_W; omega)).1]; exact v4
  have k77 : c7.1 357 t = nI (66 + k) := by rw [(a1 357 t (by unfold la_W; omega)).1]; exact v7
  have k97 : r7.2.1 957 m = lN k := by rw [(a2 957 m (by unfold rn_W; omega)).2.1]; exact v6
  refine h2_bb _ (hT P E EB PB IB _ _ _ _ _ _ _ _ _ _ _ _ _ _ X7 (S'.bnd hb (by omega) X7.1)) (fun a b hab => ?_)
  rcases hab with ⟨n, b0, b1, hab⟩ | ⟨f, p0, y1, y2⟩
  · exact tg_end hb S' (by omega) X7 fc7 fr7 hk k7 k77 k97 b0 b1 hab
  · have hF : xF f p0 t e p l w o w c a.2 := y1.sub fcc (by omega) (Nat.le_refl _) (Nat.le_refl _) (Nat.le_refl _) (Nat.le_refl _)
    have hR' : xR P f p0 m s r b.2 := y2.sub frr (by omega) (Nat.le_refl _)
    exact h2_sep _ _ hF.tag2C (xR.tag2R hR') (fun z y hz hy => join hz hy)
end
