/-! Level 2: events: a templ of a line, FROM. -/
/-- a line's templ: operations from column 9, node in column 8 / row 995 -/
def eT (n2 n3 : Nat) (E : en_S) (c r : t_S) (t e p l s m ln : Nat) : Prop := ∃ lo hi t0 n, c.1 (445 + ln) 9 = nI lo ∧ c.1 (445 + ln) 8 = nI t0 ∧ r.1 995 ln = nI n ∧ hi + 1 ≤ e ∧ px_o c hi 0 0 ∧ xe_R n2 n3 E c r t e p l s m 1 (-1000) lo hi t0 n ∧ r.1 960 n = -1 ∧ c.1 356 t0 = -1
section
variable {P : pc_S} {nt : Nat → Nat} {f n n' n2 n3 a2 a3 Y a g f2 p0 ln so K V : Nat} {L L' v : Nat → Nat} {ka : Int32} {k k0 k1 k2 k' : Nat → Nat} {c0 r0 c r c1 r1 c2 r2 c' r' : t_S} {A B A' B' : Nat → Prop} {E : en_S}
theorem eT.fr {Wc Wr : Nat → Nat → Prop} {t e p l s m t2 e2 p2 l2 s2 m2 : Nat} (h : eT n2 n3 E c r t e p l s m ln) (fc : l2_fr Wc c c') (fr : l2_fr Wr r r') (w1 : cp_c Wc t e p l) (w2 : cp_r Wr m s) (hk : mK n2 n3 r r') (h2 : n2 ≤ a2) (h3 : n3 ≤ a3) (o : t ≤ t2 ∧ e ≤ e2 ∧ p ≤ p2 ∧ l ≤ l2 ∧ s ≤ s2 ∧ m ≤ m2) (hc : ∀ j, j = 8 ∨ j = 9 → c'.1 (445 + ln) j = c.1 (445 + ln) j) (hr : r'.1 995 ln = r.1 995 ln) : eT a2 a3 E c' r' t2 e2 p2 l2 s2 m2 ln := by
  obtain ⟨lo, hi, t0, n, y1, y2, y3, y4, ⟨y5, y5'⟩, y6, y7, y8⟩ := h
  have tt := y6.2.2.2.2
  obtain ⟨t1, l0, l1, m0, m1, p1, s1, ff, ⟨z1, _⟩, z2⟩ := tt
  have tlt := z2.tlt (by decide)
  refine ⟨lo, hi, t0, n, by rw [hc 9 (Or.inr rfl)]; exact y1, by rw [hc 8 (Or.inl rfl)]; exact y2, by rw [hr]; exact y3, by omega, ⟨?_, ?_⟩, y6.fr fc fr w1 w2 hk h2 h3 o, ?_, ?_⟩
  · rw [(fc 335 _ (fun y => (w1 _ _ y).1 ⟨Or.inl rfl, by omega⟩)).1]; exact y5
  · rw [(fc 336 _ (fun y => (w1 _ _ y).1 ⟨Or.inr rfl, by omega⟩)).1]; exact y5'
  · rw [(fr 960 n (fun y => (w2 _ _ y).1 ⟨by omega, y6.2.2.2.1⟩)).1]; exact y7
  · rw [(fc 356 t0 (fun y => (w1 _ _ y).2.1 ⟨by decide, by decide, by omega⟩)).1]; exact y8
noncomputable def tp_C (ln : Nat) (F : t_S → Option t_S) (s : t_S) : Option t_S := t_let (t_setI s (445 + ln) 9 (s.1 334 2)) (fun s1 => (f_X6_readTempl 0 (-1000) s1).bind (fun y => t_let (t_setI y.2 (445 + ln) 8 y.1) (fun s2 => (f_X0_emit 0 0 s2).bind (fun z => F z.2))))
noncomputable def tp_R (ln : Nat) (K : t_S → Option t_S) (s : t_S) : Option t_S := (f_X13_templ s).bind (fun y => t_let (t_setI y.2 995 ln y.1) K)
theorem fs_tpl {F K : t_S → Option t_S} {Q : t_S → t_S → Prop} (S : fs P nt f n2 Y n L ka a g k c r) (h32 : r.1 950 32 = 0) (hV : en_V n 1 L v) (hl : ln < 400) (gc : l2_fr mo_Wc c0 c) (gr' : l2_fr mo_Wr r0 r) (hg : ∀ k' c' r', fs P nt f n2 Y n L ka a g k' c' r' → r'.1 950 32 = 0 → k' 9 = k 9 → k 0 < k' 0 → (∀ x, k 4 + x ≤ 2 * k 1 + 2 * k 9 → k' 4 + x ≤ 2 * k' 1 + 2 * k' 9) → (∀ n3, sn n2 n3 f n ln (fun j => j = 8 ∨ j = 9) (fun y => y = 995) k c r k' c' r') → (∀ n3, f < n3 → mB False n2 n3 c c' r' (k 6) (k' 6) (k 8) (k' 8) (k 2) (k' 2) ln ln ∧ eT n2 n3 (E_f f n v) c' r' (k' 3) (k' 4) (k' 5) (k' 6) (k' 7) (k' 2) ln) → t_h2 (F c') (K r') Q) (hb : ∀ f2 p0 c' r', zS f f2 p0 c0 c' → yS P f f2 p0 r0 r' → t_h2 (F c') (K r') Q) : t_h2 (tp_C ln F c) (tp_R ln K r) Q := by
  unfold tp_C tp_R
  have e4 : c.1 334 2 = nI (k 4) := S.1.2.2.1.2.2.2.1
  rw [e4]
  refine h2_lL ?_
  have f1 : l2_fr (fun b j => b = 445 + ln ∧ j = 9) c (t_setI c (445 + ln) 9 (nI (k 4))) := l2_fr.set ⟨rfl, rfl⟩
  have v1 : (t_setI c (445 + ln) 9 (nI (k 4))).1 (445 + ln) 9 = nI (k 4) := by simp only [l2_gI, reduceIte]
  generalize t_setI c (445 + ln) 9 (nI (k 4)) = c1 at *
  obtain ⟨S1, sn1, q1⟩ := S.cell (A := fun j => j = 9) (B := fun _ => False) hl (f1.mono (fun b j y => ⟨y.1, by omega⟩)) (l2_fr.rf (s := r)) (fun j _ y => (f1 _ j (fun z => y z.2)).1) (fun _ _ _ _ => rfl)
  obtain ⟨y, y', e1, e2, h⟩ := ew_templ (lv := -1000) S1.1 (S1.en hV) h32
  rw [e1, e2, l2_bs, l2_bs]
  refine h2_lL (h2_lR ?_)
  obtain ⟨yv, c2⟩ := y
  obtain ⟨yv', r2⟩ := y'
  show t_h2 ((f_X0_emit 0 0 (t_setI c2 (445 + ln) 8 yv)).bind (fun z => F z.2)) (K (t_setI r2 995 ln yv')) Q
  rcases h with ⟨nd, hy1, hy2, u', q', m', t', e', p', l', s', i', G⟩ | ⟨f2, p0, B1, B2, B3⟩
  rotate_left
  · have B1 : mF f2 p0 c2 := B1
    have B2 : l2_fr (xWc (k 3) (k 4) (k 5) (k 6) 0 0) c1 c2 := B2
    have z1 : zS f f2 p0 c0 c2 := ⟨⟨B1, ((sn1 0).mc gc).trans (mo_xc (B2.mono (fun b j y => y.sub (Nat.zero_le _) (Nat.zero_le _) (Nat.zero_le _) (Nat.zero_le _) (Nat.le_refl _) (Nat.zero_le _))))⟩, S1.lk.templ _ _ _ e1, by rw [(B2 845 12 (by unfold xWc; omega)).1]; exact S1.1.2.2.2.1.2.2.1⟩
    have B3 : xR P f2 p0 (k 2) (k 7) r r2 := B3
    have w1 : yS P f f2 p0 r0 r2 := ⟨⟨B3.1, gr'.trans (B3.2.1.mono (fun b j y => by unfold xWr at y; unfold mo_Wr; omega))⟩, by rw [(B3.2.1 950 33 (by unfold xWr; omega)).1]; exact S.2.2.2.2.1⟩
    have z2 := z1.set (b := 445 + ln) (j := 8) (x := yv) (by unfold mo_Wc; omega) (by omega)
    obtain ⟨z, ez, hz⟩ := z2.emit 0 0
    rw [ez, l2_bs]
    exact hb f2 p0 _ _ hz (w1.set (by unfold mo_Wr; omega) (by omega))
  have hy1 : yv = nI (k 3) := hy1
  have hy2 : yv' = nI nd := hy2
  subst hy1 hy2
  obtain ⟨k2, hk2, S2, h322, sn2, kl, pc, _, n960, n356⟩ := fs_ew (ln := ln) S1 G (fun n3 h3 => S1.mE hV h3) hl (by decide)
  have f3 : l2_fr (fun b j => b = 445 + ln ∧ j = 8) c2 (t_setI c2 (445 + ln) 8 (nI (k 3))) := l2_fr.set ⟨rfl, rfl⟩
  have v3 : (t_setI c2 (445 + ln) 8 (nI (k 3))).1 (445 + ln) 8 = nI (k 3) := by simp only [l2_gI, reduceIte]
  have f4 : l2_fr (fun b j => b = 995 ∧ j = ln) r2 (t_setI r2 995 ln (nI nd)) := l2_fr.set ⟨rfl, rfl⟩
  have v4 : (t_setI r2 995 ln (nI nd)).1 995 ln = nI nd := by simp only [l2_gI, reduceIte]
  have n960 : r2.1 960 nd = -1 := n960
  have n356 : c2.1 356 (k 3) = -1 := n356 (by decide)
  generalize t_setI c2 (445 + ln) 8 (nI (k 3)) = c3 at *
  generalize t_setI r2 995 ln (nI nd) = r3 at *
  obtain ⟨S3, sn3, q3⟩ := S2.cell (A := fun j => j = 8) (B := fun y => y = 995) hl (f3.mono (fun b j y => ⟨y.1, by omega⟩)) (f4.mono (fun b j y => Or.inl ⟨by omega, by omega, y.2⟩)) (fun j _ y => (f3 _ j (fun z => y z.2)).1) (fun y _ _ z => (f4 y ln (fun w => z w.1)).1)
  have k24 : k2 4 = e' := by rw [hk2]; rfl
  have k21 : k2 1 = q' := by rw [hk2]; rfl
  have k29 : k2 9 = k 9 := by rw [hk2]; rfl
  have sl3 : ∀ x, k 4 + x ≤ 2 * k 1 + 2 * k 9 → k2 4 + 1 + x ≤ 2 * k2 1 + 2 * k2 9 := fun x hx => by
    rw [k24, k21, k29]
    have := kl.2
    omega
  have b4 : k 4 ≤ 2 * k 1 + 2 * k 9 := S.1.2.2.2.2.2.2.2.2.2.1
  refine fs_emit S3 hl (by have := sl3 0 (by omega); omega) (fun k' c' hk' S4 sn4 q4 px => ?_)
  have sn34 : ∀ n3, sn n2 n3 f n ln (fun j => j = 8) (fun y => y = 995) k2 c2 r2 k' c' r3 := fun n3 => ((sn3 n3).trans (sn4 n3)).mono (fun j y => y.elim id False.elim) (fun x y => y.elim id False.elim)
  have k44 : k' 4 = k2 4 + 1 := by rw [hk']; rfl
  have k41 : k' 1 = k2 1 := by rw [hk']; rfl
  have k49 : k' 9 = k2 9 := by rw [hk']; rfl
  have k40 : k' 0 = k2 0 := by rw [hk']; rfl
  have k46 : k' 6 = k2 6 := by rw [hk']; rfl
  have k48 : k' 8 = k2 8 := by rw [hk']; rfl
  have k42 : k' 2 = k2 2 := by rw [hk']; rfl
  refine hg k' c' r3 S4 (by rw [(f4 950 32 (by omega)).1]; exact h322) (k49.trans k29) (by rw [k40]; exact kl.1) (fun x hx => by rw [k44, k41, k49]; exact sl3 x hx) (fun n3 => ((sn1 n3).trans ((sn2 n3).trans (sn34 n3))).mono (fun j y => y.elim (fun y => Or.inr y) (fun y => y.elim False.elim (fun z => Or.inl z))) (fun x y => y.elim False.elim (fun y => y.elim False.elim id))) (fun n3 h3 => ⟨?_, ?_⟩)
  · rw [k46, k48, k42]
    have m1 := (((pc n3 h3).1 ln).at (sn34 n3)).base q1.1 q1.2.1 q1.2.2
    have m2 : mB False n2 n3 c2 c' r3 (k2 6) (k2 6) (k2 8) (k2 8) (k2 2) (k2 2) ln ln := mB.nil (q3.trans q4).1 (q3.trans q4).2.1 (q3.trans q4).2.2 _ _ _ ln
    have o2 := (sn2 0).1
    exact m1.same m2 ⟨o2.2.2.2.2.2.2.1, Nat.le_refl _, o2.2.2.2.2.2.2.2.2.1, Nat.le_refl _, o2.2.2.1, Nat.le_refl _⟩ (sf_mL (sn34 0).2.1)
  · have o4 := (sn34 n3).1
    have xx := ((pc n3 h3).2).fr (sn34 n3).2.1 (sn34 n3).2.2.1 sf_cp sf_cr (sn34 n3).2.2.2.2.2 (Nat.le_refl _) (Nat.le_refl _) (t2 := k' 3) (e2 := k' 4) (p2 := k' 5) (l2 := k' 6) (s2 := k' 7) (m2 := k' 2) ⟨o4.2.2.2.1, o4.2.2.2.2.1, o4.2.2.2.2.2.1, o4.2.2.2.2.2.2.1, o4.2.2.2.2.2.2.2.1, o4.2.2.1⟩
    obtain ⟨t1, l0, l1, m0, m1, p1, s1, ff, ⟨z1, _⟩, z2⟩ := (pc n3 h3).2.2.2.2.2
    have tlt := z2.tlt (by decide)
    refine ⟨k 4, e', k 3, nd, ?_, ?_, v4, ?_, ?_, xx, ?_, ?_⟩
    · rw [(sn34 0).2.2.2.1 9 (by decide) (by decide), (sn2 0).2.2.2.1 9 (by decide) (fun y => y)]; exact v1
    · rw [(sn4 0).2.2.2.1 8 (by decide) (fun y => y)]; exact v3
    · rw [k44, k24]; exact Nat.le_refl _
    · rw [← k24]; exact px
    · rw [(f4 960 nd (by omega)).1]; exact n960
    · rw [((sn34 0).2.1 356 (k 3) (fun w => (sf_cp _ _ w).2.1 ⟨by decide, by decide, by omega⟩)).1]; exact n356
end
