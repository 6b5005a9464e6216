/-! Level 2: tones on both sides: @ NAME templ. -/
noncomputable def tgC2 (t : Nat) (y : Int32 × t_S) : Option (Int32 × Int32 × t_S) := some (nI t, (1 : Int32), t_setI y.2 355 t y.1)
noncomputable def tgC (rc : RT_X6_readBase) (x lv : Int32) (t : Nat) (c : t_S) : Option (Int32 × Int32 × t_S) := (f_X2_need 1 c).bind (fun r1 => (rc.2.2.2.2.2.2.2.2.2.2.2.2.2.1 (x + 1) (lv + 1) r1).bind (tgC2 t))
noncomputable def tgR2 (n : Int32) (y : Int32 × t_S) : Option (Int32 × t_S) := (f_X13_hang n y.1 y.2).bind (fun r7 => some (n, r7))
noncomputable def tgR1 (rR : RT_X13_base) (m : Nat) (y : Int32 × t_S) : Option (Int32 × t_S) := (f_X13_next (t_setJ y.2 957 m y.1.toInt64)).bind (fun r11 => (rR.2.2.2.2.2.2.2.1 r11).bind (tgR2 (nI m)))
noncomputable def tgR (rR : RT_X13_base) (m : Nat) (r : t_S) : Option (Int32 × t_S) := (f_X13_freeName (t_setI r 1003 m (r.1 950 6))).bind (tgR1 rR m)
section
variable {P : pc_S} {E : en_S} {lv x : Int32} {EB PB IB u q m t e p l w o s i dd : Nat} {c r : t_S} {rc rc2 rc3 : RT_X6_readBase} {rR : RT_X13_base}
theorem xF.tag2C {f p0 w' : Nat} {c0 : t_S} {y : Int32 × t_S} (h : xF f p0 t e p l w o w' c0 y.2) : t_hk (tgC2 t y) (fun z => z.1 = nI t ∧ z.2.1 = 1 ∧ xF f p0 t e p l w o w' c0 z.2.2) := l2_sm ⟨rfl, rfl, h.set (b := 355) (j := t) (by decide) (Nat.le_refl _)⟩
theorem xF.tag1C {f p0 w' : Nat} {c0 c1 : t_S} (HT : ∀ x y, bC2 (rc.2.2.2.2.2.2.2.2.2.2.2.2.2.1 x y)) (h : xF f p0 t e p l w o w' c0 c1) : t_hk (tgC rc x lv t c1) (fun z => z.1 = nI t ∧ z.2.1 = 1 ∧ xF f p0 t e p l w o w' c0 z.2.2) := by
  unfold tgC
  exact l2_eq (h.stay.2.2.1 1 (by decide)).1 (l2_bd _ (HT _ _ _ _ _ _ _ _ _ _ _ _ _ h) (fun y h1 => h1.tag2C))
theorem xR.tag2R {f p0 : Nat} {r0 : t_S} {n : Int32} {y : Int32 × t_S} (h : xR P f p0 m s r0 y.2) : t_hk (tgR2 n y) (fun z => z.1 = n ∧ xR P f p0 m s r0 z.2) := by
  unfold tgR2
  exact l2_eq (h.hang _ _) (l2_sm ⟨rfl, h⟩)
theorem xR.tag1R {f p0 j : Nat} {r0 : t_S} {y : Int32 × t_S} (HR : ∀ r : t_S, r.1 950 2 ≠ 0 → rR.2.2.2.2.2.2.2.1 r = some (0, r)) (hj : m ≤ j) (h : xR P f p0 m s r0 y.2) : t_hk (tgR1 rR j y) (fun z => z.1 = nI j ∧ xR P f p0 m s r0 z.2) := by
  unfold tgR1
  exact l2_bd _ (h.setJ (b := 957) (j := j) ⟨by decide, by decide, hj⟩).next (fun r5 h5 => l2_eq (HR r5 h5.ne) (xR.tag2R (y := (0, r5)) h5))
theorem xR.tag0R {f p0 j : Nat} {r0 r1 : t_S} (HR : ∀ r : t_S, r.1 950 2 ≠ 0 → rR.2.2.2.2.2.2.2.1 r = some (0, r)) (hj : m ≤ j) (h : xR P f p0 m s r0 r1) : t_hk (tgR rR j r1) (fun z => z.1 = nI j ∧ xR P f p0 m s r0 z.2) := by
  unfold tgR
  exact l2_bd _ (h.set (b := 1003) (j := j) (v := r1.1 950 6) (Or.inr (Or.inl ⟨rfl, hj⟩))).name (fun y hy => hy.tag1R HR hj)
/-- .. from the templ on -/
theorem tg_end {v X : Nat} {c2 r2 c4 r4 : t_S} {n : Nat} {a : Int32 × t_S} {b : Int32 × t_S} (hb : xb P EB PB IB u q t e p l w o s i dd) (S : sG P E lv 30 u q m t e p l w o s i dd c r c2 r2) (hu : u < v) (X4 : xp P E v 0 0 (q + 1) (m + 1) (t + 1) e p l w o s (i + 1) dd c4 r4) (fc : l2_fr (fun b j => la_W b j ∨ ((b = 354 ∨ b = 357) ∧ j = t)) c2 c4) (fr : l2_fr (fun b j => rn_W b j ∨ nm_W b j ∨ ((b = 1003 ∨ b = 957) ∧ j = m)) r2 r4) (hX : X < 7934) (k4 : c4.1 354 t = 9) (k7 : c4.1 357 t = nI (66 + X)) (k9 : r4.2.1 957 m = lN X) (ha : a.1 = nI (t + 1)) (hy : b.1 = nI n) (G : xG P E 1 (lv + 1) (20 * dd + 15) v (q + 1) (m + 1) (t + 1) e p l w o s (i + 1) dd c4 r4 n a.2 b.2) : t_h2 (tgC2 t a) (tgR2 (nI m) b) (tO_R P E lv u q m t e p l w o s i dd c r) := by
  obtain ⟨a0, c5⟩ := a
  obtain ⟨b0, r5⟩ := b
  have hy : b0 = nI n := hy
  have ha : a0 = nI (t + 1) := ha
  subst hy
  subst ha
  have S' := S
  have hb' := hb
  unfold xb at hb'
  obtain ⟨ht, hm, hq, X0, g1, g2, ⟨t1, t2, t3, t4, t5, t6, t7, t8, t9⟩, ⟨d1, d2, d3, d4, d5, d6, d7⟩, d8⟩ := S
  have pm := X4.1.pmono (v - u) u (by omega) (by omega)
  have cm := pc_c_mono P u v (by omega)
  obtain ⟨u', q', m', t', e', p', l', s', i', G1, G2, X5, G3, G4, G5, G6, G7⟩ := G
  have X5 : xp P E u' 0 0 q' m' t' e' p' l' w o s' i' dd c5 r5 := X5
  have G3 : l2_fr (xWc (t + 1) e p l w o) c4 c5 := G3
  have G4 : l2_fr (xWr (m + 1) s) r4 r5 := G4
  have G5 : XR (wn_R E c5 r5 l l') (an_R E c5 r5 l l') (tn_R E c5 r5 l l') (sn_R c5) c5 r5 p' s' (m' - (m + 1)) 1 (lv + 1) (20 * dd + 15) e e' (t + 1) t' (m + 1) m' n := G5
  have G6 : xD E c4 c5 r5 l l' (i + 1) i' (m + 1) m' := G6
  have G7 : r5.1 960 n = -1 := G7.1
  unfold xk at G1
  obtain ⟨n1, n2, n3, n4⟩ := G5.at
  obtain ⟨ml, m24, ql, qc⟩ := X5.1.mle (by decide)
  unfold tgC2 tgR2
  have r9 : ∀ b, 955 ≤ b → b ≤ 962 → b ≠ 957 → r5.1 b m = r2.1 b m := fun b y1 y2 y3 => by rw [(G4 b m (by unfold xWr; omega)).1, (fr b m (by unfold rn_W nm_W; omega)).1]
  have hch : ch_R r5 m 0 (fun _ => 0) := ⟨by rw [r9 959 (by decide) (by decide) (by decide), d5, if_neg (by decide)], fun j hj => by omega⟩
  refine h2_bR _ (ch_hang hch (by omega) (by decide) (by omega) X5.1.f0.2 G7 (fun j hj => by omega)) (fun r6 hr => h2_sm ?_)
  obtain ⟨⟨c9, _⟩, f6⟩ := hr
  have c9 : r6.1 959 m = nI n := by
    rw [c9, if_pos (by decide)]
    rw [show va_up (fun _ => 0) 0 n 0 = n from mj_up_eq _ _ _]
  have f6 : l2_fr (fun b j => b = 959 ∧ j = m) r5 r6 := f6.mono (fun b j y => by omega)
  show tO_R P E lv u q m t e p l w o s i dd c r (nI t, (1 : Int32), t_setI c5 355 t (nI (t + 1))) (nI m, r6)
  have f7 : l2_fr (fun b j => b = 355 ∧ j = t) c5 (t_setI c5 355 t (nI (t + 1))) := l2_fr.set ⟨rfl, rfl⟩
  have v7 : (t_setI c5 355 t (nI (t + 1))).1 355 t = nI (t + 1) := by simp only [l2_gI, reduceIte]
  have X8 := X5.own f7 f6 (fun b j y => by omega) (fun b j y => by omega)
  generalize t_setI c5 355 t (nI (t + 1)) = c8 at *
  have fc4 : l2_fr (xWc t e p l w o) c c4 := S'.fc.1.trans (fc.mono (fun b j y => by
    rcases y with y | ⟨y, rfl⟩
    · exact x_la y
    · exact xWc.itm (by omega) (by omega) (Nat.le_refl _)))
  have fc8 : l2_fr (xWc t e p l w o) c c8 := (fc4.trans (G3.mono (fun b j y => y.sub (by omega) (Nat.le_refl _) (Nat.le_refl _) (Nat.le_refl _) (Nat.le_refl _) (Nat.le_refl _)))).trans (f7.mono (fun b j y => by obtain ⟨rfl, rfl⟩ := y; exact xWc.itm (by decide) (by decide) (Nat.le_refl _)))
  have fr4 : l2_fr (xWr m s) r r4 := S'.fc.2.trans (fr.mono (fun b j y => by
    rcases y with y | y | ⟨y, rfl⟩
    · exact x_rn y
    · exact x_nm y
    · unfold xWr; omega))
  have fr6 : l2_fr (xWr m s) r r6 := (fr4.trans (G4.mono (fun b j y => y.sub (by omega) (Nat.le_refl _)))).trans (f6.mono (fun b j y => Or.inr (Or.inr (Or.inl ⟨by omega, by omega, by omega⟩))))
  have aC : ∀ b, 358 ≤ b → b ≤ 362 → c8.1 b t = c2.1 b t := fun b y1 y2 => by rw [(f7 b t (by omega)).1, (G3 b t (by unfold xWc; omega)).1, (fc b t (by unfold la_W; omega)).1]
  have k48 : c8.1 354 t = 9 := by rw [(f7 354 t (by omega)).1, (G3 354 t (by unfold xWc; omega)).1]; exact k4
  have k78 : c8.1 357 t = nI (66 + X) := by rw [(f7 357 t (by omega)).1, (G3 357 t (by unfold xWc; omega)).1]; exact k7
  have k98 : r6.2.1 957 m = lN X := by rw [(f6 957 m (by omega)).2.1, (G4 957 m (by unfold xWr; omega)).2.1]; exact k9
  have aR : ∀ b, 955 ≤ b → b ≤ 962 → b ≠ 957 → b ≠ 959 → r6.1 b m = r2.1 b m := fun b y1 y2 y4 y3 => by rw [(f6 b m (by omega)).1, r9 b y1 y2 y4]
  have h55 : r6.1 955 m = 30 := by rw [aR 955 (by decide) (by decide) (by decide) (by decide)]; exact d1
  have XR8 : XR (wn_R E c8 r6 l l') (an_R E c8 r6 l l') (tn_R E c8 r6 l l') (sn_R c8) c8 r6 p' s' (m' - m - 1) 1 (lv + 1) (20 * dd + 15) e e' (t + 1) t' (m + 1) m' n := by
    refine G5.own f7 f6 (Nat.le_refl _) (Nat.le_refl _) (by omega) ⟨Nat.le_refl _, Nat.le_refl _⟩ (fun b j y => ?_) (fun b j y => ?_)
    · omega
    · omega
  have e7 : c4.1 846 7 = c.1 846 7 := by rw [(fc 846 7 (by unfold la_W; omega)).1, (g1 846 7 (by unfold tm_W; omega)).1]
  have e8 : c4.1 846 8 = c.1 846 8 := by rw [(fc 846 8 (by unfold la_W; omega)).1, (g1 846 8 (by unfold tm_W; omega)).1]
  have h54 : r4.1 955 m = nI 30 := by rw [(fr 955 m (by unfold rn_W nm_W; omega)).1]; exact d1
  have h64 : r4.1 962 m = nI i := by rw [(fr 962 m (by unfold rn_W nm_W; omega)).1]; exact d8
  have D1 : xD E c c4 r4 l l i (i + 1) m (m + 1) := xD.plain (K := 30) h54 (by decide) (by decide) e7 e8 (fun _ => ⟨h64, by omega⟩)
  have D2 : xD E c4 c8 r6 l l' (i + 1) i' (m + 1) m' := G6.own f7 f6 (fun b j y => by omega) (fun b j y => by omega)
  have D : xD E c c8 r6 l l' i i' m m' := D1.trans D2 (by omega) (by omega) (by omega) (fun b a y1 y2 y3 => by rw [(f7 b a (by omega)).1, (G3 b a (by unfold xWc; omega)).1]) (fun k y1 y2 => by
    have e : k = m := by omega
    subst e
    have q1 : ∀ b, b ≠ 959 → (955 ≤ b ∧ b ≤ 962) ∨ b = 1003 → r6.1 b k = r4.1 b k ∧ r6.2.1 b k = r4.2.1 b k := fun b z1 z2 => by
      rw [(f6 b k (by omega)).1, (f6 b k (by omega)).2.1, (G4 b k (by unfold xWr; omega)).1, (G4 b k (by unfold xWr; omega)).2.1]
      exact ⟨rfl, rfl⟩
    exact ⟨(q1 955 (by decide) (by decide)).1, (q1 956 (by decide) (by decide)).1, (q1 962 (by decide) (by decide)).1, (q1 1003 (by decide) (by decide)).1, (q1 957 (by decide) (by decide)).2, (q1 958 (by decide) (by decide)).2, fun _ => (q1 961 (by decide) (by decide)).1⟩)
  refine tn_ok (u' := u') (q' := q') (m' := m') (t' := t') (e' := e') (p' := p') (l' := l') (s' := s') (i' := i') ?_ (by omega) (by omega) X8 fc8 fr6 (Or.inr (Or.inr (Or.inl ⟨h55, k48, X, n, hX, k78, k98, v7, c9, by rw [(f6 960 n (by omega)).1]; exact G7, XR8⟩))) D ?_ ?_ (by rw [aC 358 (by decide) (by decide)]; exact t5) (by rw [aC 359 (by decide) (by decide)]; exact t6) ⟨by rw [aC 360 (by decide) (by decide)]; exact t7, by rw [(f7 356 t (by omega)).1, (G3 356 t (by unfold xWc; omega)).1, (fc 356 t (by unfold la_W; omega)).1]; exact t3⟩
  · unfold xk
    omega
  · rw [aR 960 (by decide) (by decide) (by decide) (by decide)]; exact d6
  · rw [aR 961 (by decide) (by decide) (by decide) (by decide)]; exact d7
end
