/-! Level 2: perm ( templs ) on both sides. -/
/-- what a perm comes to -/
def pO_R (P : pc_S) (E : en_S) (lv : Int32) (u q m t e p l w o s i dd : Nat) (c r : t_S) (z : Int32 × Int32 × t_S) (y : Int32 × t_S) : Prop := (z.1 = nI t ∧ z.2.1 = 1 ∧ y.1 = nI m ∧ xG P E 2 lv (20 * dd + 15) u q m t e p l w o s i dd c r m z.2.2 y.2) ∨ ((∃ j, m ≤ j ∧ j < 13000 ∧ y.1 = nI j) ∧ (z.2.1 = 0 ∨ z.1 = nI t ∧ z.2.1 = 1) ∧ xf P t e p l w o w m s c r z.2.2 y.2)
theorem tn_mkQ {Q : Int32 × Int32 × t_S → Int32 × t_S → Prop} {P : pc_S} {E : en_S} {lv : Int32} {EB PB IB K u q m t e p l w o s i dd : Nat} {x : Int32} {c r : t_S} {rc : RT_X6_readBase} {G : Int32 × t_S → Option (Int32 × t_S)} (X : xp P E u 0 0 q m t e p l w o s i dd c r) (hb : xb P EB PB IB u q t e p l w o s i dd) (hK : 20 ≤ K ∧ K ≤ 41) (hQ : ∀ z y, ((∃ j, m ≤ j ∧ j < 13000 ∧ y.1 = nI j) ∧ (z.2.1 = 0 ∨ z.1 = nI t ∧ z.2.1 = 1) ∧ xf P t e p l w o w m s c r z.2.2 y.2) → Q z y) (hF : ∀ f p0 j r1, xR P f p0 m s r r1 → m ≤ j → j < 13000 → r1.1 950 5 = r.1 950 5 → r1.1 950 10 = r.1 950 10 → t_hk (G (nI j, r1)) (fun y => (∃ j, m ≤ j ∧ j < 13000 ∧ y.1 = nI j) ∧ xR P f p0 m s r y.2)) (main : ∀ c2 r2, sG P E lv K u q m t e p l w o s i dd c r c2 r2 → t_h2 ((rc.2.2.2.2.2.2.2.2.2.2.2.2.2.2.2 (nI t) x lv c2).bind (fun r3 => some (nI t, (1 : Int32), r3))) (G (nI m, r2)) Q) : t_h2 (tcC rc lv x c) ((f_X13_node (nI K) 1 r).bind G) Q := by
  have ple := X.1.ple
  have hb' := hb
  unfold xb at hb'
  unfold tcC
  refine h2_bb _ (xp_node X (by omega) s) (fun c1 y hy => ?_)
  obtain ⟨y0, r1⟩ := y
  rcases hy with ⟨hq, g1, hm, y1, y2, y3, y4, X1⟩ | ⟨g1, f, p0, y1, y2, ⟨j, j1, j2, j3⟩, y4, y5⟩
  rotate_left
  · have j3 : y0 = nI j := j3
    subst j3
    refine h2_noL y1.ne (h2_doneL (l2_imp (hF f p0 j r1 y2 j1 j2 y4 y5) (fun y hy => hQ _ _ ⟨hy.1, Or.inl rfl, f, p0, ?_, hy.2⟩)))
    exact xF.of X (by omega) (by omega) ⟨Nat.le_refl _, by omega⟩ ⟨Nat.le_refl _, Nat.le_refl _⟩ l2_fr.rf g1 (fun b j z => x_la z) ⟨by unfold la_W; omega, by unfold la_W; omega, by unfold la_W; omega⟩ (fun j => by unfold la_W; omega) y1 xw.nil
  have y1 : y0 = nI m := y1
  subst y1
  rw [if_pos hK] at X1
  have X1 : xp P E u 0 1 (q + 1) (m + 1) t e p l w o s (i + 1) dd c1 r1 := X1
  refine h2_ckL X1.1.f0.1 (h2_bL _ (tm_add lv X1.2.2.1 (by omega)) (fun z hz => ?_))
  obtain ⟨z0, c2⟩ := z
  obtain ⟨z1, z2, z3, z4⟩ := hz
  have z1 : z0 = nI t := z1
  subst z1
  have z2 : l2_fr (tm_W t) c1 c2 := z2
  refine main c2 r1 ⟨by omega, hm, hq, ?_, (g1.mono (fun b j h => Or.inl h)).trans (z2.mono (fun b j h => Or.inr h)), y2, z4, y3, y4 hK⟩
  obtain ⟨x1, x2, x3, x4, x5, x6, x7, x8, x9, x10, x11⟩ := X1
  refine ⟨x1.fr z2 (l2_fr.rf (W := fun _ _ => False)) (fun j => by unfold tm_W; omega) (fun b i _ _ => by unfold tm_W; omega) (fun b i _ _ => by unfold tm_W; omega) (by unfold tm_W; omega) (fun j _ y => y) (fun b i _ _ y => y), x2.fr z2 (l2_fr.rf (W := fun _ _ => False)) (fun j _ _ => by unfold tm_W; omega) (fun b i _ _ => by unfold tm_W; omega) ⟨fun y => y, fun y => y⟩, z3, ?_, ?_, ?_, ?_, ?_, x9, x10, x11⟩
  · rw [(z2 334 2 (by unfold tm_W; omega)).1]; exact x4
  · rw [(z2 334 4 (by unfold tm_W; omega)).1]; exact x5
  · rw [(z2 846 6 (by unfold tm_W; omega)).1]; exact x6
  · rw [(z2 845 7 (by unfold tm_W; omega)).1]; exact x7
  · rw [(z2 845 9 (by unfold tm_W; omega)).1]; exact x8
section
variable {P : pc_S} {E : en_S} {lv x : Int32} {EB PB IB u q m t e p l w o s i dd : Nat} {c r : t_S}
/-- the perm made of it -/
theorem pm_end {v1 : Nat} {c2 r2 c3 r3 c' r' : t_S} (hb : xb P EB PB IB u q t e p l w o s i dd) (S : sG P E lv 39 u q m t e p l w o s i dd c r c2 r2) (hu : u < v1) (J : pj P v1 0 0 (q + 1) (m + 1) c3 r3) (fc : l2_fr (fun b j => la_W b j ∨ (b = 354 ∧ j = t)) c2 c3) (fr : l2_fr rn_W r2 r3) (k4 : c3.1 354 t = nI 18) (Q : rwQ P E lv False t m v1 (q + 1) (m + 1) (t + 1) e p l w o s (i + 1) dd c3 r3 c' r') : pO_R P E lv u q m t e p l w o s i dd c r (nI t, (1 : Int32), c') (nI m, r') := by
  have S' := S
  have hb' := hb
  unfold xb at hb'
  obtain ⟨ht, hm, hq, X0, g1, g2, ⟨t1, t2, t3, t4, t5, t6, t7, t8, t9⟩, ⟨d1, d2, d3, d4, d5, d6, d7⟩, d8⟩ := S
  have pm' := J.pmono (v1 - u) u (by omega) (by omega)
  have cm := pc_c_mono P u v1 (by omega)
  have fc3 : l2_fr (xWc t e p l w o) c c3 := S'.fc.1.trans (fc.mono (fun b j y => by
    rcases y with y | ⟨rfl, rfl⟩
    · exact x_la y
    · exact xWc.itm (by decide) (by decide) (Nat.le_refl _)))
  have fr3 : l2_fr (xWr m s) r r3 := S'.fc.2.trans (fr.mono (fun b j y => x_rn y))
  rcases Q with ⟨v, T, u', q', m', t', e', p', l', s', i', v0, v12, G1, G2, H⟩ | ⟨f, p0, hF, hR⟩
  rotate_left
  · exact Or.inr ⟨⟨m, Nat.le_refl _, by omega, rfl⟩, Or.inr ⟨rfl, rfl⟩, f, p0, hF.sub fc3 (Nat.le_refl _) (Nat.le_refl _) (Nat.le_refl _) (Nat.le_refl _) (Nat.le_refl _), hR.sub fr3 (Nat.le_refl _) (Nat.le_refl _)⟩
  obtain ⟨X, hmm, f1, f2, bT, tc, D, Ee, M, GG, W, bE, bM, ch, hj⟩ := H
  unfold xk at G1
  have fcc : l2_fr (xWc t e p l w o) c c' := fc3.trans (f1.mono (fun b j y => by
    rcases y with y | ⟨rfl, rfl⟩
    · exact y.sub (by omega) (Nat.le_refl _) (Nat.le_refl _) (Nat.le_refl _) (Nat.le_refl _) (Nat.le_refl _)
    · exact xWc.itm (by decide) (by decide) (Nat.le_refl _)))
  have frr : l2_fr (xWr m s) r r' := fr3.trans (f2.mono (fun b j y => by
    rcases y with y | ⟨rfl, rfl⟩
    · exact y.sub (by omega) (Nat.le_refl _)
    · exact Or.inr (Or.inr (Or.inl ⟨by decide, by decide, Nat.le_refl _⟩))))
  have aC : ∀ b, 356 ≤ b → b ≤ 362 → c'.1 b t = c2.1 b t := fun b y1 y2 => by rw [(f1 b t (by unfold rwc xWc; omega)).1, (fc b t (by unfold la_W; omega)).1]
  have k48 : c'.1 354 t = nI 18 := by rw [(f1 354 t (by unfold rwc xWc; omega)).1]; exact k4
  have q3 : ∀ b, b ≠ 959 → (955 ≤ b ∧ b ≤ 962) ∨ b = 1003 → r'.1 b m = r3.1 b m ∧ r'.2.1 b m = r3.2.1 b m := fun b z1 z2 => ⟨(f2 b m (by unfold rwr xWr; omega)).1, (f2 b m (by unfold rwr xWr; omega)).2.1⟩
  have aR : ∀ b, 955 ≤ b → b ≤ 962 → b ≠ 959 → r'.1 b m = r2.1 b m := fun b y1 y2 y3 => by rw [(q3 b y3 (Or.inl ⟨y1, y2⟩)).1, (fr b m (by unfold rn_W; omega)).1]
  have h55 : r'.1 955 m = nI 39 := by rw [aR 955 (by decide) (by decide) (by decide)]; exact d1
  have e7 : c3.1 846 7 = c.1 846 7 := by rw [(fc 846 7 (by unfold la_W; omega)).1, (g1 846 7 (by unfold tm_W; omega)).1]
  have e8 : c3.1 846 8 = c.1 846 8 := by rw [(fc 846 8 (by unfold la_W; omega)).1, (g1 846 8 (by unfold tm_W; omega)).1]
  have h54 : r3.1 955 m = nI 39 := by rw [(fr 955 m (by unfold rn_W; omega)).1]; exact d1
  have h64 : r3.1 962 m = nI i := by rw [(fr 962 m (by unfold rn_W; omega)).1]; exact d8
  have D1 : xD E c c3 r3 l l i (i + 1) m (m + 1) := xD.plain (K := 39) h54 (by decide) (by decide) e7 e8 (fun _ => ⟨h64, by omega⟩)
  have DD : xD E c c' r' l l' i i' m m' := D1.trans D (by omega) (by omega) (by omega) (fun b a y1 y2 y3 => (f1 b a (by unfold rwc xWc; omega)).1) (fun k y1 y2 => by
    have e : k = m := by omega
    subst e
    exact ⟨(q3 955 (by decide) (by decide)).1, (q3 956 (by decide) (by decide)).1, (q3 962 (by decide) (by decide)).1, (q3 1003 (by decide) (by decide)).1, (q3 957 (by decide) (by decide)).2, (q3 958 (by decide) (by decide)).2, fun _ => (q3 961 (by decide) (by decide)).1⟩)
  obtain ⟨bt0, bt1, bt2⟩ := bT
  refine Or.inl ⟨rfl, rfl, rfl, u', q', m', t', e', p', l', s', i', ?_, by omega, X, fcc, frr, ?_, DD, ?_, fun _ => by rw [aC 356 (by decide) (by decide)]; exact t3⟩
  · unfold xk
    omega
  · rw [show m' - m = (m' - (m + 1)) + 1 by omega]
    refine ⟨by omega, by omega, Nat.le_refl _, by omega, Or.inr (Or.inr ⟨⟨rfl, (by have q0 := hb; unfold xb at q0; omega)⟩, by omega, rfl, h55, ?_, k48, by rw [aC 358 (by decide) (by decide)]; exact t5, by rw [aC 359 (by decide) (by decide)]; exact t6, by rw [aC 360 (by decide) (by decide)]; exact t7, v, Ee, T, M, GG, v12, v0, bE, ⟨bt0, bt1, bt2⟩, bM, tc, ch, fun j y => ?_⟩)⟩
    · rw [aR 961 (by decide) (by decide) (by decide)]; exact d7
    · have z := hj j y
      have w1 : W j = 1 := z.1.elim id (fun q => q.2.elim)
      rw [w1] at z
      exact z.2
  · rw [aR 960 (by decide) (by decide) (by decide)]; exact d6
end
