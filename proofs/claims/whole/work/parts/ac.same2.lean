/-! Level 2: tones on both sides: = ( exp ). -/
noncomputable def smC2 (t : Nat) (c : t_S) : Option (Int32 × Int32 × t_S) := (f_X2_need 41 c).bind (fun r4 => (f_X0_emit 34 (nI t) r4).bind (fun r5 => some (nI t, (1 : Int32), r5.2)))
noncomputable def smC (rc : RT_X6_readBase) (x : Int32) (t : Nat) (c : t_S) : Option (Int32 × Int32 × t_S) := (f_X2_need 40 (t_setI c 354 t 17)).bind (fun r2 => (rc.2.2.1 (x + 1) r2).bind (fun r3 => smC2 t r3.2))
noncomputable def smR2 (n : Int32) (y : Int32 × t_S) : Option (Int32 × t_S) := (f_X13_hang n y.1 y.2).bind (fun r7 => (f_X13_mustBe 41 r7).bind (fun r8 => some (n, r8)))
noncomputable def smR (rR : RT_X13_base) (n : Int32) (r : t_S) : Option (Int32 × t_S) := (f_X13_mustBe 40 r).bind (fun r5 => (rR.2.1 r5).bind (fun r6 => smR2 n r6))
section
variable {P : pc_S} {E : en_S} {lv x : Int32} {EB PB IB u q m t e p l w o s i dd : Nat} {c r : t_S} {rc rc2 rc3 : RT_X6_readBase} {rR : RT_X13_base}
theorem xF.sm2C {f p0 w' n : Nat} {c0 c1 : t_S} (h : xF f p0 t e p l w o w' c0 c1) : t_hk (smC2 n c1) (fun z => z.1 = nI n ∧ z.2.1 = 1 ∧ xF f p0 t e p l w o w' c0 z.2.2) := by
  unfold smC2
  exact l2_eq (h.stay.2.2.1 41 (by decide)).1 (l2_bd _ (h.emit _ _) (fun v hv => l2_sm ⟨rfl, rfl, hv.1⟩))
theorem xF.sm1C {f p0 w' n : Nat} {c0 c1 : t_S} (HE : ∀ x, bC2 (rc.2.2.1 x)) (h : xF f p0 t e p l w o w' c0 c1) (ht : t ≤ n) : t_hk (smC rc x n c1) (fun z => z.1 = nI n ∧ z.2.1 = 1 ∧ xF f p0 t e p l w o w' c0 z.2.2) := by
  unfold smC
  have h := h.set (b := 354) (j := n) (v := 17) (by decide) ht
  exact l2_eq (h.stay.2.2.1 40 (by decide)).1 (l2_bd _ (HE _ _ _ _ _ _ _ _ _ _ _ _ h) (fun y h1 => h1.sm2C))
theorem xR.sm2R {f p0 : Nat} {r0 : t_S} {n : Int32} {y : Int32 × t_S} (h : xR P f p0 m s r0 y.2) : t_hk (smR2 n y) (fun z => z.1 = n ∧ xR P f p0 m s r0 z.2) := by
  unfold smR2
  exact l2_eq (h.hang _ _) (l2_bd _ (h.mustBe _) (fun r8 h8 => l2_sm ⟨rfl, h8⟩))
theorem xR.sm1R {f p0 : Nat} {r0 r1 : t_S} {n : Int32} (HR : ∀ r : t_S, r.1 950 2 ≠ 0 → rR.2.1 r = some (0, r)) (h : xR P f p0 m s r0 r1) : t_hk (smR rR n r1) (fun z => z.1 = n ∧ xR P f p0 m s r0 z.2) := by
  unfold smR
  exact l2_bd _ (h.mustBe _) (fun r5 h5 => l2_eq (HR r5 h5.ne) (xR.sm2R (y := (0, r5)) h5))
/-- .. from the exp on -/
theorem sm_end {v : Nat} {c2 r2 c4 r4 : t_S} {n : Nat} {a : Int32 × t_S} {b : Int32 × t_S} (hb : xb P EB PB IB u q t e p l w o s i dd) (S : sG P E lv 38 u q m t e p l w o s i dd c r c2 r2) (hu : u < v) (X4 : xp P E v 0 0 (q + 1) (m + 1) (t + 1) e p l w o s (i + 1) dd c4 r4) (fc : l2_fr (fun b j => la_W b j ∨ (b = 354 ∧ j = t)) c2 c4) (fr : l2_fr rn_W r2 r4) (k4 : c4.1 354 t = 17) (hy : b.1 = nI n) (G : xG P E 0 0 (20 * dd + 15) v (q + 1) (m + 1) (t + 1) e p l w o s (i + 1) dd c4 r4 n a.2 b.2) : t_h2 (smC2 t a.2) (smR2 (nI m) b) (tO_R P E lv u q m t e p l w o s i dd c r) := by
  obtain ⟨a0, c5⟩ := a
  obtain ⟨b0, r5⟩ := b
  have hy : b0 = nI n := hy
  subst hy
  have S' := S
  have hb' := hb
  unfold xb at hb'
  obtain ⟨ht, hm, hq, X0, g1, g2, ⟨t1, t2, t3, t4, t5, t6, t7, t8, t9⟩, ⟨d1, d2, d3, d4, d5, d6, d7⟩, d8⟩ := S
  have pm := X4.1.pmono (v - u) u (by omega) (by omega)
  have cm := pc_c_mono P u v (by omega)
  obtain ⟨u', q', m', t', e', p', l', s', i', G1, G2, X5, G3, G4, G5, G6, G7⟩ := G
  have X5 : xp P E u' 0 0 q' m' t' e' p' l' w o s' i' dd c5 r5 := X5
  have G3 : l2_fr (xWc (t + 1) e p l w o) c4 c5 := G3
  have G4 : l2_fr (xWr (m + 1) s) r4 r5 := G4
  have G5 : XR (wn_R E c5 r5 l l') (an_R E c5 r5 l l') (tn_R E c5 r5 l l') (sn_R c5) c5 r5 p' s' (m' - (m + 1)) 0 0 (20 * dd + 15) e e' (t + 1) t' (m + 1) m' n := G5
  have G6 : xD E c4 c5 r5 l l' (i + 1) i' (m + 1) m' := G6
  have G7 : r5.1 960 n = -1 := G7.1
  unfold xk at G1
  obtain ⟨n1, n2, n3, n4⟩ := G5.at
  obtain ⟨ml, m24, ql, qc⟩ := X5.1.mle (by decide)
  have mle2 := X5.1.mle (by decide)
  unfold smC2 smR2
  have r9 : ∀ b, 955 ≤ b → b ≤ 962 → r5.1 b m = r2.1 b m := fun b y1 y2 => by rw [(G4 b m (by unfold xWr; omega)).1, (fr b m (by unfold rn_W; omega)).1]
  have hch : ch_R r5 m 0 (fun _ => 0) := ⟨by rw [r9 959 (by decide) (by decide), d5, if_neg (by decide)], fun j hj => by omega⟩
  refine h2_bR _ (ch_hang hch (by omega) (by decide) (by omega) X5.1.f0.2 G7 (fun j hj => by omega)) (fun r6 hr => ?_)
  obtain ⟨⟨c9, _⟩, f6⟩ := hr
  have c9 : r6.1 959 m = nI n := by
    rw [c9, if_pos (by decide)]
    rw [show va_up (fun _ => 0) 0 n 0 = n from mj_up_eq _ _ _]
  have f6 : l2_fr (fun b j => b = 959 ∧ j = m) r5 r6 := f6.mono (fun b j y => by omega)
  have X6 := X5.own (l2_fr.rf (W := fun _ _ => False)) f6 (fun b j y => y.elim) (fun b j y => by omega)
  refine h2_bb _ (xp_need X6 (by decide) (x := 41) (by decide) rfl) (fun c7 r7 hw => ?_)
  obtain ⟨w1, w2, w3⟩ := hw
  have fc4 : l2_fr (xWc t e p l w o) c c4 := S'.fc.1.trans (fc.mono (fun b j y => by
    rcases y with y | ⟨rfl, rfl⟩
    · exact x_la y
    · exact xWc.itm (by decide) (by decide) (Nat.le_refl _)))
  have fc5 : l2_fr (xWc t e p l w o) c c5 := fc4.trans (G3.mono (fun b j y => y.sub (by omega) (Nat.le_refl _) (Nat.le_refl _) (Nat.le_refl _) (Nat.le_refl _) (Nat.le_refl _)))
  have fr4 : l2_fr (xWr m s) r r4 := S'.fc.2.trans (fr.mono (fun b j y => x_rn y))
  have fr6 : l2_fr (xWr m s) r r6 := (fr4.trans (G4.mono (fun b j y => y.sub (by omega) (Nat.le_refl _)))).trans (f6.mono (fun b j y => Or.inr (Or.inr (Or.inl ⟨by omega, by omega, by omega⟩))))
  rcases w3 with ⟨X7, l1, l2⟩ | ⟨f, p0, y1, y2⟩
  rotate_left
  · have hF : xF f p0 t e p l w o w c c7 := xF.of X6 (by omega) (by omega) ⟨Nat.le_refl _, by omega⟩ ⟨by omega, Nat.le_refl _⟩ fc5 w1 (fun b j z => x_la z) ⟨by unfold la_W; omega, by unfold la_W; omega, by unfold la_W; omega⟩ (fun j => by unfold la_W; omega) y1 xw.nil
    have hR : xR P f p0 m s r r7 := (xR.of X6.1 (by decide) w2 y2 (s := s)).sub fr6 (by omega) (Nat.le_refl _)
    exact h2_doneR (l2_bd _ (hF.emit _ _) (fun z hz => l2_sm (Or.inr ⟨⟨m, Nat.le_refl _, by omega, rfl⟩, Or.inr ⟨rfl, rfl⟩, f, p0, hz.1, hR⟩)))
  have x7 := X7
  obtain ⟨_, _, _, e2, _, _, _, _, _⟩ := x7
  refine h2_bL _ (em_emit 34 (nI t) e2 (by omega)) (fun z hz => h2_sm ?_)
  obtain ⟨z0, c8⟩ := z
  obtain ⟨z1, z2, z3, z4, z5⟩ := hz
  have z2 : l2_fr (fun b j => (b = 334 ∧ j = 2) ∨ ((b = 335 ∨ b = 336) ∧ j = e')) c7 c8 := z2
  have z3 : c8.1 334 2 = nI (e' + 1) := z3
  have z4 : c8.1 335 e' = 34 := z4
  have z5 : c8.1 336 e' = nI t := z5
  show tO_R P E lv u q m t e p l w o s i dd c r (nI t, (1 : Int32), c8) (nI m, r7)
  have fe1 : l2_fr (xWc t e p l w o) c c8 := (fc5.trans (w1.mono (fun b j y => x_la y))).trans (z2.mono (fun b j y => by
    rcases y with ⟨rfl, rfl⟩ | ⟨y, rfl⟩
    · exact xWc.i334 (Or.inl rfl)
    · exact xWc.iop y (by omega)))
  have fr7 : l2_fr (xWr m s) r r7 := fr6.trans (w2.mono (fun b j y => x_rn y))
  -- from the exp's end on
  have c58 : l2_fr (fun b j => la_W b j ∨ (b = 334 ∧ j = 2) ∨ ((b = 335 ∨ b = 336) ∧ j = e')) c5 c8 := (w1.mono (fun b j y => Or.inl y)).trans (z2.mono (fun b j y => Or.inr y))
  have r57 : l2_fr (fun b j => rn_W b j ∨ (b = 959 ∧ j = m)) r5 r7 := (f6.mono (fun b j y => Or.inr y)).trans (w2.mono (fun b j y => Or.inl y))
  have X8 : xp P E (u' + 1) 0 0 q' m' t' (e' + 1) p' l' w o s' i' dd c8 r7 := by
    obtain ⟨x1, x2, x3, x4, x5, x6, x7, x8, x9, x10, x11⟩ := X7
    refine ⟨x1.fr z2 (l2_fr.rf (W := fun _ _ => False)) (fun j => by omega) (fun b i _ _ => by omega) (fun b i _ _ => by omega) (by omega) (fun j _ y => y) (fun b i _ _ y => y), x2.fr z2 (l2_fr.rf (W := fun _ _ => False)) (fun j _ _ => by omega) (fun b i _ _ => by omega) ⟨fun y => y, fun y => y⟩, ?_, z3, ?_, ?_, ?_, ?_, x9, x10, x11⟩
    · rw [(z2 353 9 (by omega)).1]; exact x3
    · rw [(z2 334 4 (by omega)).1]; exact x5
    · rw [(z2 846 6 (by omega)).1]; exact x6
    · rw [(z2 845 7 (by omega)).1]; exact x7
    · rw [(z2 845 9 (by omega)).1]; exact x8
  have aC : ∀ b, 355 ≤ b → b ≤ 362 → c8.1 b t = c2.1 b t := fun b y1 y2 => by rw [(c58 b t (by unfold la_W; omega)).1, (G3 b t (by unfold xWc; omega)).1, (fc b t (by unfold la_W; omega)).1]
  have k48 : c8.1 354 t = 17 := by rw [(c58 354 t (by unfold la_W; omega)).1, (G3 354 t (by unfold xWc; omega)).1]; exact k4
  have k62 : c8.2.1 362 t = 0 := by rw [(c58 362 t (by unfold la_W; omega)).2.1, (G3 362 t (by unfold xWc; omega)).2.1, (fc 362 t (by unfold la_W; omega)).2.1]; exact t9
  have aR : ∀ b, 955 ≤ b → b ≤ 962 → b ≠ 959 → r7.1 b m = r2.1 b m := fun b y1 y2 y3 => by rw [(r57 b m (by unfold rn_W; omega)).1, r9 b y1 y2]
  have h55 : r7.1 955 m = 38 := by rw [aR 955 (by decide) (by decide) (by decide)]; exact d1
  have XR8 : XR (wn_R E c8 r7 l l') (an_R E c8 r7 l l') (tn_R E c8 r7 l l') (sn_R c8) c8 r7 p' s' (m' - m - 1) 0 lv (20 * dd + 15) e e' (t + 1) t' (m + 1) m' n := by
    refine (XR.lv _ _ _ _ _ _ _ _ _ G5).own c58 r57 (Nat.le_refl _) (Nat.le_refl _) (by omega) ⟨Nat.le_refl _, Nat.le_refl _⟩ (fun b j y => ?_) (fun b j y => ?_)
    · unfold la_W at y; omega
    · unfold rn_W at y; omega
  have e7 : c4.1 846 7 = c.1 846 7 := by rw [(fc 846 7 (by unfold la_W; omega)).1, (g1 846 7 (by unfold tm_W; omega)).1]
  have e8 : c4.1 846 8 = c.1 846 8 := by rw [(fc 846 8 (by unfold la_W; omega)).1, (g1 846 8 (by unfold tm_W; omega)).1]
  have h54 : r4.1 955 m = nI 38 := by rw [(fr 955 m (by unfold rn_W; omega)).1]; exact d1
  have h64 : r4.1 962 m = nI i := by rw [(fr 962 m (by unfold rn_W; omega)).1]; exact d8
  have D1 : xD E c c4 r4 l l i (i + 1) m (m + 1) := xD.plain (K := 38) h54 (by decide) (by decide) e7 e8 (fun _ => ⟨h64, by omega⟩)
  have D2 : xD E c4 c8 r7 l l' (i + 1) i' (m + 1) m' := G6.own c58 r57 (fun b j y => by unfold la_W at y; omega) (fun b j y => by unfold rn_W at y; omega)
  have D : xD E c c8 r7 l l' i i' m m' := D1.trans D2 (by omega) (by omega) (by omega) (fun b a y1 y2 y3 => by rw [(c58 b a (by unfold la_W; omega)).1, (G3 b a (by unfold xWc; omega)).1]) (fun k y1 y2 => by
    have e : k = m := by omega
    subst e
    have q1 : ∀ b, b ≠ 959 → (955 ≤ b ∧ b ≤ 962) ∨ b = 1003 → r7.1 b k = r4.1 b k ∧ r7.2.1 b k = r4.2.1 b k := fun b z1 z2 => by
      rw [(r57 b k (by unfold rn_W; omega)).1, (r57 b k (by unfold rn_W; omega)).2.1, (G4 b k (by unfold xWr; omega)).1, (G4 b k (by unfold xWr; omega)).2.1]
      exact ⟨rfl, rfl⟩
    exact ⟨(q1 955 (by decide) (by decide)).1, (q1 956 (by decide) (by decide)).1, (q1 962 (by decide) (by decide)).1, (q1 1003 (by decide) (by decide)).1, (q1 957 (by decide) (by decide)).2, (q1 958 (by decide) (by decide)).2, fun _ => (q1 961 (by decide) (by decide)).1⟩)
  refine tn_ok (u' := u' + 1) (q' := q') (m' := m') (t' := t') (e' := e' + 1) (p' := p') (l' := l') (s' := s') (i' := i') ?_ (by omega) (by omega) X8 fe1 fr7 (Or.inr (Or.inl ⟨by omega, h55, ⟨k48, k62⟩, ⟨z4, z5⟩, n, ?_, XR8⟩)) D ?_ ?_ (by rw [aC 358 (by decide) (by decide)]; exact t5) (by rw [aC 359 (by decide) (by decide)]; exact t6) ⟨by rw [aC 360 (by decide) (by decide)]; exact t7, by rw [aC 356 (by decide) (by decide)]; exact t3⟩
  · unfold xk
    omega
  · rw [(w2 959 m (by unfold rn_W; omega)).1]; exact c9
  · rw [aR 960 (by decide) (by decide) (by decide)]; exact d6
  · rw [aR 961 (by decide) (by decide) (by decide)]; exact d7
end
