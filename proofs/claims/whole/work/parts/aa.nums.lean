/-! Level 2: tones on both sides: a number, or from one to another. -/
section
variable {P : pc_S} {E : en_S} {lv x : Int32} {EB PB IB u q m t e p l w o s i dd : Nat} {c r : t_S} {rc rc2 : RT_X6_readBase} {rR rR2 : RT_X13_base}
noncomputable def ntC (t : Nat) (n : Int64) (c : t_S) : Option (Int32 × Int32 × t_S) := (f_X2_take (10 : Int32) c).bind (fun r7 => if r7.1 = (0 : Int32) then some (nI t, (1 : Int32), t_setJ r7.2 362 t n) else (f_X6_readNumber n r7.2).bind (fun r8 => some (nI t, (1 : Int32), t_setJ r8.2 362 t r8.1)))
noncomputable def ntR (m : Nat) (r : t_S) : Option (Int32 × t_S) := if (f_X13_is (11822 : Int32) r) = (0 : Int32) then (some (nI m, r)) else ((f_X13_next r).bind (fun r5 => (f_X13_num ((t_setI r5 955 m 23).2.1 957 m) (t_setI r5 955 m 23)).bind (fun r6 => some (nI m, t_setJ r6.2 958 m r6.1))))
/-- the end of a number's tone -/
theorem nt_end {K d v z : Nat} {c2 r2 c' r' : t_S} (hz : z ≤ 1) (hb : xb P EB PB IB u q t e p l w o s i dd) (S : sG P E lv K u q m t e p l w o s i dd c r c2 r2) (hu : u < v) (X : xp P E v 0 0 (q + 1) (m + 1) (t + 1) e p l w o s (i + 1) dd c' r') (fc : l2_fr (fun b j => la_W b j ∨ ((b = 354 ∨ b = 361 ∨ b = 362) ∧ j = t)) c2 c') (fr : l2_fr (fun b j => rn_W b j ∨ ((b = 955 ∨ b = 957 ∨ b = 958) ∧ j = m)) r2 r') (k5 : r'.1 955 m = 22 ∨ r'.1 955 m = 23) (k4 : c'.1 354 t = 3) (k1 : c'.2.1 361 t = r'.2.1 957 m) (k2 : c'.2.1 362 t = r'.2.1 958 m) : tO_R P E lv u q m t e p l w o s i dd c r (nI t, (1 : Int32), c') (nI m, r') := by
  obtain ⟨ht, hm, hq, X0, g1, g2, ⟨t1, t2, t3, t4, t5, t6, t7, t8, t9⟩, ⟨d1, d2, d3, d4, d5, d6, d7⟩, d8⟩ := S
  have pm := X.1.pmono (v - u) u (by omega) (by omega)
  have cm := pc_c_mono P u v (by omega)
  have aC : ∀ b, 358 ≤ b → b ≤ 360 → c'.1 b t = c2.1 b t := fun b x y => (fc b t (by unfold la_W; omega)).1
  have aR : ∀ b, 955 ≤ b → b ≤ 962 → b ≠ 955 → b ≠ 957 → b ≠ 958 → r'.1 b m = r2.1 b m := fun b x y z0 z1 z2 => (fr b m (by unfold rn_W; omega)).1
  have e7 : c'.1 846 7 = c.1 846 7 := by rw [(fc 846 7 (by unfold la_W; omega)).1, (g1 846 7 (by unfold tm_W; omega)).1]
  have e8 : c'.1 846 8 = c.1 846 8 := by rw [(fc 846 8 (by unfold la_W; omega)).1, (g1 846 8 (by unfold tm_W; omega)).1]
  have e62 : r'.1 962 m = nI i := by rw [aR 962 (by decide) (by decide) (by decide) (by decide) (by decide)]; exact d8
  refine tn_ok (u' := v) (q' := q + 1) (m' := m + 1) (t' := t + 1) (e' := e) (p' := p) (l' := l) (s' := s) (i' := i + 1) (by unfold xk; omega) (by omega) (by omega) X ((g1.mono (fun b j y => sG.w y)).trans (fc.mono (fun b j y => ?_))) ((g2.mono (fun b j y => xn_r y)).trans (fr.mono (fun b j y => ?_))) (Or.inl ⟨rfl, rfl, Or.inl ⟨rfl, by rw [aR 959 (by decide) (by decide) (by decide) (by decide) (by decide)]; exact d5, Or.inr (Or.inr (Or.inr (Or.inl ⟨k5, k4, k1, k2⟩)))⟩⟩) ?_ ?_ ?_ (by rw [aC 358 (by decide) (by decide)]; exact t5) (by rw [aC 359 (by decide) (by decide)]; exact t6) ⟨by rw [aC 360 (by decide) (by decide)]; exact t7, by rw [(fc 356 t (by unfold la_W; omega)).1]; exact t3⟩
  · rcases y with y | ⟨y, rfl⟩
    · exact x_la y
    · exact xWc.itm (by omega) (by omega) (Nat.le_refl _)
  · rcases y with y | ⟨y, rfl⟩
    · exact x_rn y
    · exact Or.inr (Or.inr (Or.inl ⟨by omega, by omega, Nat.le_refl _⟩))
  · rcases k5 with k5 | k5
    · exact xD.plain (K := 22) k5 (by decide) (by decide) e7 e8 (fun _ => ⟨e62, by omega⟩)
    · exact xD.plain (K := 23) k5 (by decide) (by decide) e7 e8 (fun _ => ⟨e62, by omega⟩)
  · rw [aR 960 (by decide) (by decide) (by decide) (by decide) (by decide)]; exact d6
  · rw [aR 961 (by decide) (by decide) (by decide) (by decide) (by decide)]; exact d7
theorem xF.numC {f p0 w' n : Nat} {v : Int64} {c0 c1 : t_S} (h : xF f p0 t e p l w o w' c0 c1) (hn : t ≤ n) : t_hk (ntC n v c1) (fun z => z.1 = nI n ∧ z.2.1 = 1 ∧ xF f p0 t e p l w o w' c0 z.2.2) := by
  unfold ntC
  exact l2_eq (h.stay.2.2.1 10 (by decide)).2 (l2_ck rfl (l2_sm ⟨rfl, rfl, h.setJ (by decide) hn⟩))
theorem xR.numR {f p0 n : Nat} {r0 r1 : t_S} (h : xR P f p0 m s r0 r1) (hn : m ≤ n) (h3 : n < 13000) : t_hk (ntR n r1) (fun y => y.1 = nI n ∧ xR P f p0 m s r0 y.2) := by
  unfold ntR
  refine l2_if (fun _ => l2_sm ⟨rfl, h⟩) (fun _ => l2_bd _ h.next (fun r2 h2 => ?_))
  have h3 := h2.set (b := 955) (j := n) (v := 23) (Or.inl ⟨by decide, by decide, hn⟩)
  exact l2_bd _ (h3.num _) (fun y hy => l2_sm ⟨rfl, hy.setJ ⟨by decide, by decide, hn⟩⟩)
/-- the reference behind a fault in the first number -/
theorem xR.numR0 {f p0 n : Nat} {r0 r1 : t_S} (h : xR P f p0 m s r0 r1) (hn : m ≤ n) (h3 : n < 13000) : t_hk ((f_X13_num (-1000000000000000 : Int64) r1).bind (fun r2 => ntR n (t_setJ (t_setJ r2.2 957 n r2.1) 958 n ((t_setJ r2.2 957 n r2.1).2.1 957 n)))) (fun y => (∃ j, m ≤ j ∧ j < 13000 ∧ y.1 = nI j) ∧ xR P f p0 m s r0 y.2) := l2_bd _ (h.num _) (fun y hy => l2_imp ((hy.setJ (b := 957) ⟨by decide, by decide, hn⟩).setJ (b := 958) ⟨by decide, by decide, hn⟩ |>.numR hn h3) (fun z hz => ⟨⟨n, hn, h3, hz.1⟩, hz.2⟩))
theorem tn_num (hC : ∀ a b d s, rc.2.2.2.2.2.2.2.2.2.2.2.2.2.2.2 a b d s = m_X6_readTone rc2 a b d s) (X : xp P E u 0 0 q m t e p l w o s i dd c r) (hb : xb P EB PB IB u q t e p l w o s i dd) (h : c.1 1 8 = 2 ∨ c.1 1 8 = nI 45) : t_h2 (tcC rc lv x c) (m_X13_tone rR r) (tO_R P E lv u q m t e p l w o s i dd c r) := by
  have hb' := hb
  unfold xb at hb'
  have ple := X.1.ple
  have nR : ∀ s : t_S, f_X13_numberTone s = (f_X13_node (nI 22) 1 s).bind (fun r1 => (f_X13_num (-1000000000000000 : Int64) r1.2).bind (fun r2 => if t_ix r1.1 13000 = true then ntR r1.1.toNatClampNeg (t_setJ (t_setJ r2.2 957 r1.1.toNatClampNeg r2.1) 958 r1.1.toNatClampNeg ((t_setJ r2.2 957 r1.1.toNatClampNeg r2.1).2.1 957 r1.1.toNatClampNeg)) |>.map (fun z => (r1.1, z.2)) else none)) := fun s => by
    unfold f_X13_numberTone ntR
    show (f_X13_node (nI 22) 1 s).bind _ = _
    cases f_X13_node (nI 22) 1 s with
    | none => rfl
    | some r1 =>
      rw [l2_bs, l2_bs]
      cases f_X13_num (-1000000000000000 : Int64) r1.2 with
      | none => rfl
      | some r2 =>
        rw [l2_bs, l2_bs]
        by_cases z : t_ix r1.1 13000 = true
        · rw [if_pos z, if_pos z]
          simp only [t_let]
          by_cases y : f_X13_is 11822 (t_setJ (t_setJ r2.2 957 r1.1.toNatClampNeg r2.1) 958 r1.1.toNatClampNeg ((t_setJ r2.2 957 r1.1.toNatClampNeg r2.1).2.1 957 r1.1.toNatClampNeg)) = 0
          · rw [if_pos y, if_pos y]; rfl
          · rw [if_neg y, if_neg y]
            cases f_X13_next (t_setJ (t_setJ r2.2 957 r1.1.toNatClampNeg r2.1) 958 r1.1.toNatClampNeg ((t_setJ r2.2 957 r1.1.toNatClampNeg r2.1).2.1 957 r1.1.toNatClampNeg)) with
            | none => rfl
            | some r5 =>
              rw [l2_bs, l2_bs]
              cases f_X13_num ((t_setI r5 955 r1.1.toNatClampNeg 23).2.1 957 r1.1.toNatClampNeg) (t_setI r5 955 r1.1.toNatClampNeg 23) <;> rfl
        · rw [if_neg z, if_neg z]
  have eR : m_X13_tone rR r = f_X13_numberTone r := by
    have id : ∀ s : t_S, (f_X13_numberTone s).bind (fun r1 => some (r1.1, r1.2)) = f_X13_numberTone s := fun s => by cases f_X13_numberTone s <;> rfl
    unfold m_X13_tone k_X13_tone_57
    rcases h with h | h
    · have h5 := X.1.sort.2.1.mp h
      rw [h5, if_neg (by decide), if_neg (by decide), if_pos rfl]
      exact id r
    · rcases X.1.is (x := 45) (by decide) with ⟨_, b⟩ | ⟨b, _⟩
      · have b45 : f_X13_is 45 r = 1 := b
        rw [(is_1 b).1, b45, if_neg (by decide), if_neg (by decide), if_neg (by decide), if_neg (by decide)]
        exact id r
      · exact absurd h b
  rw [eR, nR]
  refine tn_mk X hb (by decide) (fun f p0 j r1 z1 z2 z3 _ _ => ?_) (fun c2 r2 S => ?_)
  · refine l2_bd _ (z1.num _) (fun y hy => l2_ck (l2_ix z3 (by decide)) (l2_mp ?_))
    rw [nI_clamp (by omega)]
    exact l2_imp ((hy.setJ (b := 957) ⟨by decide, by decide, z2⟩).setJ (b := 958) ⟨by decide, by decide, z2⟩ |>.numR z2 z3) (fun z hz => ⟨⟨j, z2, z3, rfl⟩, hz.2⟩)
  rw [hC]
  have S' := S
  obtain ⟨ht, hm, hq, X2, g1, g2, ta, nd, d8⟩ := S
  have e8 : c2.1 1 8 = 2 ∨ c2.1 1 8 = nI 45 := by rw [(g1 1 8 (by unfold tm_W; omega)).1]; exact h
  have ixt : t_ix (nI t) 6100 = true := l2_ix (by omega) (by decide)
  have k163 : ∀ (n : Int64) (s : t_S), k_X6_readTone_163 rc2 n (nI t) s = some (t_setJ s 362 t n) := fun n s => by
    unfold k_X6_readTone_163
    rw [if_pos ixt, nI_clamp (by omega)]
    rfl
  have eC : (m_X6_readTone rc2 (nI t) x lv c2).bind (fun r3 => some (nI t, (1 : Int32), r3)) = (f_X6_readNumber (-1000000000000000 : Int64) (t_setI c2 354 t 3)).bind (fun r6 => (f_X2_take (10 : Int32) (t_setJ r6.2 361 t r6.1)).bind (fun r7 => if r7.1 = (0 : Int32) then some (nI t, (1 : Int32), t_setJ r7.2 362 t (r7.2.2.1 361 t)) else (f_X6_readNumber (r7.2.2.1 361 t) r7.2).bind (fun r8 => some (nI t, (1 : Int32), t_setJ r8.2 362 t r8.1)))) := by
    have body : (t_let (t_setI c2 354 ((nI t).toNatClampNeg) (3 : Int32)) (fun s3 => (f_X6_readNumber (-1000000000000000 : Int64) s3).bind (fun r6 => t_let (t_setJ r6.2 361 ((nI t).toNatClampNeg) r6.1) (fun s4 => (f_X2_take (10 : Int32) s4).bind (fun r7 => if r7.1 = (0 : Int32) then (k_X6_readTone_163 rc2 (r7.2.2.1 361 ((nI t).toNatClampNeg)) (nI t) r7.2) else ((f_X6_readNumber (r7.2.2.1 361 ((nI t).toNatClampNeg)) r7.2).bind (fun r8 => k_X6_readTone_163 rc2 r8.1 (nI t) r8.2))))))).bind (fun r3 => some (nI t, (1 : Int32), r3)) = (f_X6_readNumber (-1000000000000000 : Int64) (t_setI c2 354 t 3)).bind (fun r6 => (f_X2_take (10 : Int32) (t_setJ r6.2 361 t r6.1)).bind (fun r7 => if r7.1 = (0 : Int32) then some (nI t, (1 : Int32), t_setJ r7.2 362 t (r7.2.2.1 361 t)) else (f_X6_readNumber (r7.2.2.1 361 t) r7.2).bind (fun r8 => some (nI t, (1 : Int32), t_setJ r8.2 362 t r8.1)))) := by
      rw [nI_clamp (by omega)]
      simp only [t_let]
      cases f_X6_readNumber (-1000000000000000 : Int64) (t_setI c2 354 t 3) with
      | none => rfl
      | some r6 =>
        rw [l2_bs, l2_bs]
        cases f_X2_take (10 : Int32) (t_setJ r6.2 361 t r6.1) with
        | none => rfl
        | some r7 =>
          rw [l2_bs, l2_bs]
          by_cases y : r7.1 = 0
          · rw [if_pos y, if_pos y, k163]; rfl
          · rw [if_neg y, if_neg y]
            cases f_X6_readNumber (r7.2.2.1 361 t) r7.2 with
            | none => rfl
            | some r8 => rw [l2_bs, l2_bs, k163]; rfl
    unfold m_X6_readTone
    rcases e8 with e8 | e8
    · rw [e8, if_neg (by decide), if_pos (by decide), if_pos ixt]
      exact body
    · rw [e8, if_neg (by decide), if_neg (by decide), if_neg (by decide), if_neg (by decide), if_pos (by decide), if_pos ixt]
      exact body
  rw [eC]
  have f3 : l2_fr (fun b j => b = 354 ∧ j = t) c2 (t_setI c2 354 t 3) := l2_fr.set ⟨rfl, rfl⟩
  have v3 : (t_setI c2 354 t 3).1 354 t = 3 := by simp only [l2_gI, reduceIte]
  have X3 := X2.own f3 (l2_fr.rf (W := fun _ _ => False)) (fun b j y => by omega) (fun b j y => y.elim)
  generalize t_setI c2 354 t 3 = c3 at *
  have fc3 := S'.fc.1.trans (f3.mono (fun b j y => (by obtain ⟨rfl, rfl⟩ := y; exact xWc.itm (by decide) (by decide) (Nat.le_refl _) : xWc t e p l w o b j)))
  refine h2_bb _ (nb_num X3.1 (by decide)) (fun a b hab => ?_)
  obtain ⟨n1, c4⟩ := a
  obtain ⟨n2, r4⟩ := b
  obtain ⟨w1, w2, w3⟩ := hab
  have w1 : l2_fr la_W c3 c4 := w1
  have w2 : l2_fr rn_W r2 r4 := w2
  refine h2_ckR (l2_ix (by omega) (by decide)) (h2_mR ?_)
  show t_h2 ((f_X2_take (10 : Int32) (t_setJ c4 361 t n1)).bind _) (ntR (nI m).toNatClampNeg (t_setJ (t_setJ r4 957 (nI m).toNatClampNeg n2) 958 (nI m).toNatClampNeg ((t_setJ r4 957 (nI m).toNatClampNeg n2).2.1 957 (nI m).toNatClampNeg))) _
  rw [nI_clamp (n := m) (by omega)]
  have n957 : (t_setJ r4 957 m n2).2.1 957 m = n2 := by simp only [l2_gJ, reduceIte]
  rw [n957]
  have f5 : l2_fr (fun b j => b = 361 ∧ j = t) c4 (t_setJ c4 361 t n1) := l2_fr.setJ ⟨rfl, rfl⟩
  have v5 : (t_setJ c4 361 t n1).2.1 361 t = n1 := by simp only [l2_gJ, reduceIte]
  have f6 : l2_fr (fun b j => (b = 957 ∨ b = 958) ∧ j = m) r4 (t_setJ (t_setJ r4 957 m n2) 958 m n2) := (l2_fr.setJ ⟨Or.inl rfl, rfl⟩).trans (l2_fr.setJ ⟨Or.inr rfl, rfl⟩)
  have v6 : (t_setJ (t_setJ r4 957 m n2) 958 m n2).2.1 957 m = n2 ∧ (t_setJ (t_setJ r4 957 m n2) 958 m n2).2.1 958 m = n2 := by
    refine ⟨?_, ?_⟩ <;> simp only [l2_gJ, Nat.reduceEqDiff, reduceIte]
  generalize t_setJ c4 361 t n1 = c5 at *
  generalize t_setJ (t_setJ r4 957 m n2) 958 m n2 = r5 at *
  rcases w3 with ⟨v, vu, J, rfl, _⟩ | ⟨f, p0, y1, y2⟩
  rotate_left
  · have hF : xF f p0 t e p l w o w c c5 := (xF.of X3 (by omega) (by omega) ⟨Nat.le_refl _, by omega⟩ ⟨Nat.le_refl _, Nat.le_refl _⟩ fc3 w1 (fun b j z => x_la z) ⟨by unfold la_W; omega, by unfold la_W; omega, by unfold la_W; omega⟩ (fun j => by unfold la_W; omega) y1 xw.nil).fr f5 (fun b j y => by obtain ⟨rfl, rfl⟩ := y; exact xWc.itm (by decide) (by decide) (Nat.le_refl _)) (fun j _ _ => by omega) (by omega) (by omega) (fun j => by omega)
    have hR : xR P f p0 m s r r5 := ((xR.of X3.1 (by decide) w2 y2 (s := s)).sub S'.fc.2 (by omega) (Nat.le_refl _)).fr f6 (fun b j y => Or.inr (Or.inr (Or.inl ⟨by omega, by omega, by omega⟩))) (fun j _ => by omega) (fun b i _ _ => by omega)
    exact h2_sep (fun z => z = (nI t, (1 : Int32), t_setJ c5 362 t (c5.2.1 361 t))) _ (l2_eq (hF.stay.2.2.1 10 (by decide)).2 (l2_ck rfl (l2_sm rfl))) (hR.numR (Nat.le_refl _) (by omega)) (fun a b ha hb => by
      subst ha
      exact Or.inr ⟨⟨m, Nat.le_refl _, by omega, rfl⟩, Or.inr ⟨rfl, rfl⟩, f, p0, hF.setJ (b := 362) (j := t) (v := c5.2.1 361 t) (by decide) (Nat.le_refl _), hb.2⟩)
  have J : pj P v 0 0 (q + 1) (m + 1) c4 r4 := J
  have X4 := X3.la J w1 w2
  have X5 := X4.own f5 f6 (fun b j y => by omega) (fun b j y => by omega)
  have fcc : l2_fr (fun b j => la_W b j ∨ ((b = 354 ∨ b = 361 ∨ b = 362) ∧ j = t)) c2 c5 := ((f3.mono (fun b j y => Or.inr ⟨Or.inl y.1, y.2⟩)).trans (w1.mono (fun b j y => Or.inl y))).trans (f5.mono (fun b j y => Or.inr ⟨Or.inr (Or.inl y.1), y.2⟩))
  have frr : l2_fr (fun b j => rn_W b j ∨ ((b = 955 ∨ b = 957 ∨ b = 958) ∧ j = m)) r2 r5 := (w2.mono (fun b j y => Or.inl y)).trans (f6.mono (fun b j y => Or.inr ⟨by omega, y.2⟩))
  have k4 : c5.1 354 t = 3 := by rw [(f5 354 t (by omega)).1, (w1 354 t (by unfold la_W; omega)).1]; exact v3
  have k5 : r5.1 955 m = nI 22 := by rw [(f6 955 m (by omega)).1, (w2 955 m (by unfold rn_W; omega)).1]; exact nd.1
  have fc5 : l2_fr (xWc t e p l w o) c c5 := (fc3.trans (w1.mono (fun b j y => x_la y))).trans (f5.mono (fun b j y => by obtain ⟨rfl, rfl⟩ := y; exact xWc.itm (by decide) (by decide) (Nat.le_refl _)))
  have fr5 : l2_fr (xWr m s) r r5 := (S'.fc.2.trans (w2.mono (fun b j y => x_rn y))).trans (f6.mono (fun b j y => Or.inr (Or.inr (Or.inl ⟨by omega, by omega, by omega⟩))))
  unfold ntR
  rcases X5.1.is (x := 10) (by decide) with ⟨a, b⟩ | ⟨a, b⟩
  rotate_left
  · have b : f_X13_is 11822 r5 = 0 := b
    rw [if_pos b]
    refine h2_eL (pj_nottook (x := 10) a) (h2_ckL rfl (h2_sm ?_))
    show tO_R P E lv u q m t e p l w o s i dd c r (nI t, (1 : Int32), t_setJ c5 362 t (c5.2.1 361 t)) (nI m, r5)
    rw [v5]
    have f7 : l2_fr (fun b j => b = 362 ∧ j = t) c5 (t_setJ c5 362 t n1) := l2_fr.setJ ⟨rfl, rfl⟩
    have v7 : (t_setJ c5 362 t n1).2.1 362 t = n1 := by simp only [l2_gJ, reduceIte]
    generalize t_setJ c5 362 t n1 = c7 at *
    exact nt_end (d := 0) (z := 0) (by decide) hb S' vu (X5.own f7 (l2_fr.rf (W := fun _ _ => False)) (fun b j y => by omega) (fun b j y => y.elim)) (fcc.trans (f7.mono (fun b j y => Or.inr ⟨Or.inr (Or.inr y.1), y.2⟩))) frr (Or.inl k5) (by rw [(f7 354 t (by omega)).1]; exact k4) (by rw [(f7 361 t (by omega)).2.1, v5, v6.1]) (by rw [v7, v6.2])
  have b : f_X13_is 11822 r5 = 1 := b
  rw [if_neg (by rw [b]; decide)]
  refine h2_bb _ (xp_took X5 (by decide) (x := 10) (by decide) a) (fun y r6 hy => ?_)
  obtain ⟨y0, c6⟩ := y
  obtain ⟨y1, y2, y3, y4⟩ := hy
  have y1 : y0 = 1 := y1
  subst y1
  have y2 : l2_fr la_W c5 c6 := y2
  have y4 : (xp P E (v + 1) 0 0 (q + 1) (m + 1) (t + 1) e p l w o s (i + 1) dd c6 r6 ∧ pc_p P v < pc_p P (v + 1) ∧ pc_c P v ≤ pc_c P (v + 1)) ∨ pf P c6 r6 := y4
  refine h2_noL (show ¬ (1 : Int32) = 0 by decide) ?_
  show t_h2 ((f_X6_readNumber (c6.2.1 361 t) c6).bind (fun r8 => some (nI t, (1 : Int32), t_setJ r8.2 362 t r8.1))) _ _
  have f7 : l2_fr (fun b j => b = 955 ∧ j = m) r6 (t_setI r6 955 m 23) := l2_fr.set ⟨rfl, rfl⟩
  have v7 : (t_setI r6 955 m 23).1 955 m = 23 := by simp only [l2_gI, reduceIte]
  generalize t_setI r6 955 m 23 = r7 at *
  have e361 : c6.2.1 361 t = n1 := by rw [(y2 361 t (by unfold la_W; omega)).2.1]; exact v5
  have e957 : r7.2.1 957 m = n1 := by rw [(f7 957 m (by omega)).2.1, (y3 957 m (by unfold rn_W; omega)).2.1]; exact v6.1
  rw [e361, e957]
  rcases y4 with ⟨X6, l1, l2⟩ | ⟨f, p0, y4, y5⟩
  rotate_left
  · have hF : xF f p0 t e p l w o w c c6 := xF.of X5 (by omega) (by omega) ⟨Nat.le_refl _, by omega⟩ ⟨Nat.le_refl _, Nat.le_refl _⟩ fc5 y2 (fun b j z => x_la z) ⟨by unfold la_W; omega, by unfold la_W; omega, by unfold la_W; omega⟩ (fun j => by unfold la_W; omega) y4 xw.nil
    have hR : xR P f p0 m s r r7 := ((xR.of X5.1 (by decide) y3 y5 (s := s)).sub fr5 (by omega) (Nat.le_refl _)).fr f7 (fun b j y => Or.inr (Or.inr (Or.inl ⟨by omega, by omega, by omega⟩))) (fun j _ => by omega) (fun b i _ _ => by omega)
    refine h2_sep (fun z => z.1 = nI t ∧ z.2.1 = 1 ∧ xF f p0 t e p l w o w c z.2.2) (fun y => xR P f p0 m s r y.2) ?_ (l2_bd _ (hR.num _) (fun y hy => l2_sm (hy.setJ ⟨by decide, by decide, Nat.le_refl _⟩))) (fun a b ha hb => Or.inr ⟨⟨m, Nat.le_refl _, by omega, rfl⟩, Or.inr ⟨ha.1, ha.2.1⟩, f, p0, ha.2.2, hb⟩)
    rw [y4.num]
    exact l2_sm ⟨rfl, rfl, hF.setJ (b := 362) (j := t) (by decide) (Nat.le_refl _)⟩
  have X7 := X6.own (l2_fr.rf (W := fun _ _ => False)) f7 (fun b j y => y.elim) (fun b j y => by omega)
  refine h2_bb _ (nb_num (least := n1) X7.1 (by decide)) (fun a b hab => ?_)
  obtain ⟨n3, c8⟩ := a
  obtain ⟨n4, r8⟩ := b
  obtain ⟨z1, z2, z3⟩ := hab
  have z1 : l2_fr la_W c6 c8 := z1
  have z2 : l2_fr rn_W r7 r8 := z2
  refine h2_sm ?_
  show tO_R P E lv u q m t e p l w o s i dd c r (nI t, (1 : Int32), t_setJ c8 362 t n3) (nI m, t_setJ r8 958 m n4)
  have f9 : l2_fr (fun b j => b = 362 ∧ j = t) c8 (t_setJ c8 362 t n3) := l2_fr.setJ ⟨rfl, rfl⟩
  have v9 : (t_setJ c8 362 t n3).2.1 362 t = n3 := by simp only [l2_gJ, reduceIte]
  have g9 : l2_fr (fun b j => b = 958 ∧ j = m) r8 (t_setJ r8 958 m n4) := l2_fr.setJ ⟨rfl, rfl⟩
  have u9 : (t_setJ r8 958 m n4).2.1 958 m = n4 := by simp only [l2_gJ, reduceIte]
  generalize t_setJ c8 362 t n3 = c9 at *
  generalize t_setJ r8 958 m n4 = r9 at *
  have fc6 : l2_fr (xWc t e p l w o) c c6 := fc5.trans (y2.mono (fun b j y => x_la y))
  have fr7 : l2_fr (xWr m s) r r7 := (fr5.trans (y3.mono (fun b j y => x_rn y))).trans (f7.mono (fun b j y => Or.inr (Or.inr (Or.inl ⟨by omega, by omega, by omega⟩))))
  rcases z3 with ⟨v', vu', J8, rfl, _⟩ | ⟨f, p0, z3, z4⟩
  rotate_left
  · have hF : xF f p0 t e p l w o w c c9 := (xF.of X7 (by omega) (by omega) ⟨Nat.le_refl _, by omega⟩ ⟨Nat.le_refl _, Nat.le_refl _⟩ fc6 z1 (fun b j z => x_la z) ⟨by unfold la_W; omega, by unfold la_W; omega, by unfold la_W; omega⟩ (fun j => by unfold la_W; omega) z3 xw.nil).fr f9 (fun b j y => by obtain ⟨rfl, rfl⟩ := y; exact xWc.itm (by decide) (by decide) (Nat.le_refl _)) (fun j _ _ => by omega) (by omega) (by omega) (fun j => by omega)
    have hR : xR P f p0 m s r r9 := ((xR.of X7.1 (by decide) z2 z4 (s := s)).sub fr7 (by omega) (Nat.le_refl _)).fr g9 (fun b j y => Or.inr (Or.inr (Or.inl ⟨by omega, by omega, by omega⟩))) (fun j _ => by omega) (fun b i _ _ => by omega)
    exact Or.inr ⟨⟨m, Nat.le_refl _, by omega, rfl⟩, Or.inr ⟨rfl, rfl⟩, f, p0, hF, hR⟩
  have J8 : pj P v' 0 0 (q + 1) (m + 1) c8 r8 := J8
  have X9 := (X7.la J8 z1 z2).own f9 g9 (fun b j y => by omega) (fun b j y => by omega)
  refine nt_end (d := 0) (z := 0) (by decide) hb S' (by omega) X9 (((fcc.trans (y2.mono (fun b j y => Or.inl y))).trans (z1.mono (fun b j y => Or.inl y))).trans (f9.mono (fun b j y => Or.inr ⟨Or.inr (Or.inr y.1), y.2⟩))) ((((frr.trans (y3.mono (fun b j y => Or.inl y))).trans (f7.mono (fun b j y => Or.inr ⟨Or.inl y.1, y.2⟩))).trans (z2.mono (fun b j y => Or.inl y))).trans (g9.mono (fun b j y => Or.inr ⟨Or.inr (Or.inr y.1), y.2⟩))) (Or.inr ?_) ?_ ?_ (by rw [v9, u9])
  · rw [(g9 955 m (by omega)).1, (z2 955 m (by unfold rn_W; omega)).1]; exact v7
  · rw [(f9 354 t (by omega)).1, (z1 354 t (by unfold la_W; omega)).1, (y2 354 t (by unfold la_W; omega)).1]; exact k4
  · rw [(f9 361 t (by omega)).2.1, (z1 361 t (by unfold la_W; omega)).2.1, e361, (g9 957 m (by omega)).2.1, (z2 957 m (by unfold rn_W; omega)).2.1, e957]
end
