/-! Level 2: the joint state while exps and templs are read, one step on. -/
/-- no fault, both at token u; the class has t nodes of templates, e operations, p cells of its pool, l links, w that wait, o names open; the reference s signs, i templs numbered, dd deep -/
def xp (P : pc_S) (E : en_S) (u d z q m t e p l w o s i dd : Nat) (c r : t_S) : Prop := pj P u d z q m c r ∧ en E c r ∧ c.1 353 9 = nI t ∧ c.1 334 2 = nI e ∧ c.1 334 4 = nI p ∧ c.1 846 6 = nI l ∧ c.1 845 7 = nI w ∧ c.1 845 9 = nI o ∧ r.1 950 36 = nI s ∧ r.1 950 26 = nI i ∧ r.1 950 32 = nI dd
/-- the numbers keep their bounds: at the beginning of an exp or templ -/
def xb (P : pc_S) (EB PB IB u q t e p l w o s i dd : Nat) : Prop := t ≤ 3000 + q ∧ 2 * e + 9000 ≤ 3 * q + EB ∧ EB ≤ 31000 ∧ 2 * p ≤ PB + pc_p P u ∧ PB ≤ 39000 ∧ l ≤ pc_c P u ∧ w ≤ q ∧ o ≤ 16 * dd ∧ dd ≤ 17 ∧ s ≤ 12000 + pc_p P u ∧ 7 * i ≤ 6 * q + pc_p P u + IB ∧ IB ≤ 100000
/-- how they have grown behind one -/
def xk (P : pc_S) (u q t e p l s i u' q' t' e' p' l' s' i' : Nat) : Prop := u < u' ∧ q < q' ∧ t ≤ t' ∧ t' + q ≤ t + q' ∧ e ≤ e' ∧ 2 * e' + 1 + 3 * q ≤ 2 * e + 3 * q' ∧ p ≤ p' ∧ 2 * p' + pc_p P u ≤ 2 * p + pc_p P u' + 1 ∧ l ≤ l' ∧ l' + pc_c P u ≤ l + pc_c P u' ∧ s ≤ s' ∧ s' + pc_p P u ≤ s + pc_p P u' ∧ i ≤ i' ∧ 7 * i' + 6 * q + pc_p P u ≤ 7 * i + 6 * q' + pc_p P u' ∧ pc_p P u < pc_p P u' ∧ pc_c P u ≤ pc_c P u'
theorem xp.fr {P : pc_S} {E : en_S} {u d z q m t e p l w o s i dd u2 d2 z2 q2 m2 : Nat} {c r c' r' : t_S} {Wc Wr : Nat → Nat → Prop} (h : xp P E u d z q m t e p l w o s i dd c r) (J : pj P u2 d2 z2 q2 m2 c' r') (fc : l2_fr Wc c c') (fr : l2_fr Wr r r') (w1 : ∀ b j, b = 845 ∧ (j = 7 ∨ j = 9 ∨ (12 ≤ j ∧ j ≤ 16)) ∨ b = 353 ∧ j = 9 ∨ b = 334 ∧ (j = 2 ∨ j = 4) ∨ b = 846 ∧ j = 6 → ¬ Wc b j) (w2 : ∀ b i, 433 ≤ b → b ≤ 442 → ¬ Wc b i) (w3 : ∀ j, j = 26 ∨ j = 32 ∨ j = 33 ∨ j = 34 ∨ j = 36 → ¬ Wr 950 j) : xp P E u2 d2 z2 q2 m2 t e p l w o s i dd c' r' := by
  obtain ⟨_, h1, h2, h3, h4, h5, h6, h7, h8, h9, h10⟩ := h
  refine ⟨J, h1.fr fc fr (fun j a b => w1 845 j (by omega)) w2 ⟨w3 33 (by decide), w3 34 (by decide)⟩, ?_, ?_, ?_, ?_, ?_, ?_, ?_, ?_, ?_⟩
  · rw [(fc 353 9 (w1 353 9 (by decide))).1]; exact h2
  · rw [(fc 334 2 (w1 334 2 (by decide))).1]; exact h3
  · rw [(fc 334 4 (w1 334 4 (by decide))).1]; exact h4
  · rw [(fc 846 6 (w1 846 6 (by decide))).1]; exact h5
  · rw [(fc 845 7 (w1 845 7 (by decide))).1]; exact h6
  · rw [(fc 845 9 (w1 845 9 (by decide))).1]; exact h7
  · rw [(fr 950 36 (w3 36 (by decide))).1]; exact h8
  · rw [(fr 950 26 (w3 26 (by decide))).1]; exact h9
  · rw [(fr 950 32 (w3 32 (by decide))).1]; exact h10
theorem xp.la {P : pc_S} {E : en_S} {u d z q m t e p l w o s i dd u2 d2 z2 q2 m2 : Nat} {c r c' r' : t_S} (h : xp P E u d z q m t e p l w o s i dd c r) (J : pj P u2 d2 z2 q2 m2 c' r') (fc : l2_fr la_W c c') (fr : l2_fr rn_W r r') : xp P E u2 d2 z2 q2 m2 t e p l w o s i dd c' r' := h.fr J fc fr (fun b j y => by unfold la_W; omega) (fun b i _ _ => by unfold la_W; omega) (fun j y => by unfold rn_W; omega)
/-- a step of one side alone that touches nothing of all this -/
theorem xp.own {P : pc_S} {E : en_S} {u d z q m t e p l w o s i dd : Nat} {c r c' r' : t_S} {Wc Wr : Nat → Nat → Prop} (h : xp P E u d z q m t e p l w o s i dd c r) (fc : l2_fr Wc c c') (fr : l2_fr Wr r r') (w1 : ∀ b j, Wc b j → (335 ≤ b ∧ b ≤ 337) ∨ (354 ≤ b ∧ b ≤ 362) ∨ (848 ≤ b ∧ b ≤ 855) ∨ (b = 846 ∧ 7 ≤ j ∧ j ≤ 8)) (w2 : ∀ b j, Wr b j → (955 ≤ b ∧ b ≤ 963) ∨ b = 1003) : xp P E u d z q m t e p l w o s i dd c' r' := by
  refine h.fr (h.1.fr fc fr (fun j y => ?_) (fun b i _ _ y => ?_) (fun b i _ _ y => ?_) (fun y => ?_) (fun j _ y => ?_) (fun b i _ _ y => ?_)) fc fr (fun b j a y => ?_) (fun b i _ _ y => ?_) (fun j _ y => ?_)
  · have := w1 _ _ y; omega
  · have := w1 _ _ y; omega
  · have := w1 _ _ y; omega
  · have := w1 _ _ y; omega
  · have := w2 _ _ y; omega
  · have := w2 _ _ y; omega
  · have := w1 _ _ y; omega
  · have := w1 _ _ y; omega
  · have := w2 _ _ y; omega
/-- the place of the next token lies behind this one's -/
theorem pj.plt {P : pc_S} {u d z q m d2 z2 q2 m2 : Nat} {c r c2 r2 : t_S} (_ : pj P u d z q m c r) (h : pj P (u + 1) d2 z2 q2 m2 c2 r2) : pc_p P u < pc_p P (u + 1) := by
  obtain ⟨B, L, W0, W, V, sl, H, T, n, t0, mm⟩ := P
  obtain ⟨⟨hc, _⟩, _⟩ := h
  obtain ⟨cT, cI, ⟨a1, a2, a3, a4, a5, a6⟩, cu, _⟩ := hc
  exact (tk_P_mono (a5 u (by omega)).1).1
theorem pj.mle {P : pc_S} {u d z q m : Nat} {c r : t_S} (h : pj P u d z q m c r) (hz : z ≤ 1) : m ≤ 12999 ∧ r.1 950 24 = nI m ∧ q ≤ 3000 ∧ c.1 845 10 = nI q := by
  obtain ⟨B, L, W0, W, V, sl, H, T, n, t0, mm⟩ := P
  obtain ⟨⟨hc, hr, _⟩, _, _, _, _, h6, _, h8, h9, h10, h11⟩ := h
  have := hr.2.2.2.1
  exact ⟨by omega, h9, h8, h6⟩
theorem xR.of {P : pc_S} {f p0 u d z q m s : Nat} {c r r' : t_S} (J : pj P u d z q m c r) (hz : z ≤ 1) (fr : l2_fr rn_W r r') (h : pr P f p0 r') : xR P f p0 m s r r' := by
  obtain ⟨a, b, _⟩ := J.mle hz
  exact ⟨h, fr.mono (fun b j y => x_rn y), m, Nat.le_refl _, by omega, by rw [(fr 950 24 (by unfold rn_W; omega)).1]; exact b⟩
/-- what waits is fit to be let go -/
def xw (e w w' : Nat) (c : t_S) : Prop := ∀ i, w ≤ i → i < w' → c.1 854 (2 * i) = 16 ∨ c.1 854 (2 * i) = 17 → ∃ j, e ≤ j ∧ j < 16000 ∧ c.1 854 (2 * i + 1) = nI j
theorem xw.nil {e w : Nat} {c : t_S} : xw e w w c := fun i a b => by omega
theorem xF.of {P : pc_S} {E : en_S} {f p0 u d z q m t e p l w' o s i dd t0 e0 pp l0 w o0 : Nat} {c0 c r c' : t_S} {W : Nat → Nat → Prop} (X : xp P E u d z q m t e p l w' o s i dd c r) (he : e ≤ 16000) (ho : o ≤ 288) (hw : w ≤ w' ∧ w' ≤ 3001) (h0 : e0 ≤ e ∧ o0 ≤ o) (fc : l2_fr (xWc t0 e0 pp l0 w o0) c0 c) (g : l2_fr W c c') (gw : ∀ b j, W b j → xWc t0 e0 pp l0 w o0 b j) (g1 : ¬ W 334 2 ∧ ¬ W 845 9 ∧ ¬ W 845 7) (g2 : ∀ j, ¬ W 854 j) (h : lc_F c' f p0) (xx : xw e0 w w' c) : xF f p0 t0 e0 pp l0 w o0 w' c0 c' := by
  obtain ⟨_, _, _, h3, _, _, h6, h7, _⟩ := X
  refine ⟨h, fc.trans (g.mono gw), ⟨e, h0.1, he, by rw [(g 334 2 g1.1).1]; exact h3⟩, ⟨o, h0.2, ho, by rw [(g 845 9 g1.2.1).1]; exact h7⟩, by rw [(g 845 7 g1.2.2).1]; exact h6, hw.1, hw.2, fun i a b q => ?_⟩
  rw [(g 854 _ (g2 _)).1] at q ⊢
  exact xx i a b q
/-- both behind a fault, from the state ahead of the step that met it -/
theorem xf.of {P : pc_S} {E : en_S} {u d z q m t e p l w' o s i dd t0 e0 pp l0 w o0 m0 s0 : Nat} {c0 r0 c r c' r' : t_S} (X : xp P E u d z q m t e p l w' o s i dd c r) (hz : z ≤ 1) (he : e ≤ 16000) (ho : o ≤ 288) (hw : w ≤ w' ∧ w' ≤ 3001) (h0 : e0 ≤ e ∧ o0 ≤ o ∧ m0 ≤ m ∧ s0 ≤ s) (fc : l2_fr (xWc t0 e0 pp l0 w o0) c0 c) (fr : l2_fr (xWr m0 s0) r0 r) (g : l2_fr la_W c c') (gr : l2_fr rn_W r r') (h : pf P c' r') (xx : xw e0 w w' c) : xf P t0 e0 pp l0 w o0 w' m0 s0 c0 r0 c' r' := by
  obtain ⟨f, p0, h1, h2⟩ := h
  exact ⟨f, p0, xF.of X he ho hw ⟨h0.1, h0.2.1⟩ fc g (fun b j y => x_la y) ⟨by unfold la_W; omega, by unfold la_W; omega, by unfold la_W; omega⟩ (fun j => by unfold la_W; omega) h1 xx, (xR.of X.1 hz gr h2 (s := s0)).sub fr h0.2.2.1 (Nat.le_refl _)⟩
/-- steps of both sides -/
theorem xp_adv {P : pc_S} {E : en_S} {u d z q m t e p l w o s i dd : Nat} {c r : t_S} (h : xp P E u d z q m t e p l w o s i dd c r) (hz : z ≤ 1) (hd : d = 1 ∨ c.1 1 8 ≠ 1) (h4 : c.1 1 8 ≠ 4) : t_h2 (f_X2_advance c) (f_X13_next r) (fun c' r' => l2_fr la_W c c' ∧ l2_fr rn_W r r' ∧ ((xp P E (u + 1) 0 0 q m t e p l w o s i dd c' r' ∧ pc_p P u < pc_p P (u + 1) ∧ pc_c P u ≤ pc_c P (u + 1)) ∨ pf P c' r')) := h2_imp (pj_adv h.1 hz hd h4) (fun c' r' y => ⟨y.1, y.2.1, y.2.2.elim (fun J => Or.inl ⟨h.la J y.1 y.2.1, h.1.plt J, pc_c_le P u⟩) Or.inr⟩)
theorem xp_need {P : pc_S} {E : en_S} {u d z q m t e p l w o s i dd : Nat} {c r : t_S} (h : xp P E u d z q m t e p l w o s i dd c r) (hz : z ≤ 1) {x : Nat} (hx : (33 ≤ x ∧ x ≤ 125) ∨ (10 ≤ x ∧ x ≤ 17)) {sn : Int32} (hs : sn = nI (sg x)) : t_h2 (f_X2_need (nI x) c) (f_X13_mustBe sn r) (fun c' r' => l2_fr la_W c c' ∧ l2_fr rn_W r r' ∧ ((xp P E (u + 1) 0 0 q m t e p l w o s i dd c' r' ∧ pc_p P u < pc_p P (u + 1) ∧ pc_c P u ≤ pc_c P (u + 1)) ∨ pf P c' r')) := h2_imp (pj_need h.1 hz hx hs) (fun c' r' y => ⟨y.1, y.2.1, y.2.2.elim (fun J => Or.inl ⟨h.la J y.1 y.2.1, h.1.plt J, pc_c_le P u⟩) Or.inr⟩)
theorem xp_took {P : pc_S} {E : en_S} {u d z q m t e p l w o s i dd : Nat} {c r : t_S} (h : xp P E u d z q m t e p l w o s i dd c r) (hz : z ≤ 1) {x : Nat} (hx : 5 < x ∧ x < 300) (a : c.1 1 8 = nI x) : t_h2 (f_X2_take (nI x) c) (f_X13_next r) (fun y r' => y.1 = 1 ∧ l2_fr la_W c y.2 ∧ l2_fr rn_W r r' ∧ ((xp P E (u + 1) 0 0 q m t e p l w o s i dd y.2 r' ∧ pc_p P u < pc_p P (u + 1) ∧ pc_c P u ≤ pc_c P (u + 1)) ∨ pf P y.2 r')) := h2_imp (pj_took h.1 hz hx a) (fun c' r' y => ⟨y.1, y.2.1, y.2.2.1, y.2.2.2.elim (fun J => Or.inl ⟨h.la J y.2.1 y.2.2.1, h.1.plt J, pc_c_le P u⟩) Or.inr⟩)
/-- the number of a templ's node, as it is made -/
theorem nd_ti {s : t_S} {K m i : Nat} {b : Int32} {x : Int32 × t_S} (hK : K < 1000) (h : f_X13_node (nI K) b s = some x) (h26 : s.1 950 26 = nI i) (h24 : s.1 950 24 = nI m) (hm : m < 12999) (hb : b = 0 ∨ s.1 950 28 ≠ 3000) : (20 ≤ K ∧ K ≤ 41 → x.2.1 962 m = nI i ∧ x.2.1 950 26 = nI (i + 1)) ∧ (¬ (20 ≤ K ∧ K ≤ 41) → x.2.1 950 26 = nI i) := by
  have go : ∀ s1 : t_S, s1.1 950 26 = nI i → s1.1 950 24 = nI m → k_X13_node_33 (nI K) s1 = some x → (20 ≤ K ∧ K ≤ 41 → x.2.1 962 m = nI i ∧ x.2.1 950 26 = nI (i + 1)) ∧ (¬ (20 ≤ K ∧ K ≤ 41) → x.2.1 950 26 = nI i) := by
    intro s1 g1 g2 g3
    unfold k_X13_node_33 at g3
    rw [g2, if_neg (show ¬ (12999 : Int32) ≤ nI m from nI_ge (b := 12999) hm (by decide))] at g3
    exact nd_ti53 hK g1 (by omega) g3
  unfold f_X13_node k_X13_node_23 at h
  simp only [t_let] at h
  by_cases z : b = 0
  · rw [if_pos z] at h
    exact go s h26 h24 h
  · rw [if_neg z, if_neg (hb.resolve_left z)] at h
    refine go _ ?_ ?_ h
    · simp only [l2_gI, Nat.reduceEqDiff, reduceIte]; exact h26
    · simp only [l2_gI, Nat.reduceEqDiff, reduceIte]; exact h24
def xn_W (m b j : Nat) : Prop := (955 ≤ b ∧ b ≤ 962 ∧ j = m) ∨ (b = 950 ∧ (j = 24 ∨ j = 26 ∨ j = 28))
/-- a node that counts, of kind K -/
theorem xp_node {P : pc_S} {E : en_S} {u d q m t e p l w o s i dd K : Nat} {c r : t_S} (h : xp P E u d 0 q m t e p l w o s i dd c r) (hK : K < 100) (s0 : Nat) : t_h2 (f_X6_node c) (f_X13_node (nI K) 1 r) (fun c' x => (q < 3000 ∧ l2_fr (fun b j => b = 845 ∧ j = 10) c c' ∧ m < 12999 ∧ x.1 = nI m ∧ l2_fr (xn_W m) r x.2 ∧ nd_at x.2 m (nI K) (r.1 950 6) ∧ (20 ≤ K ∧ K ≤ 41 → x.2.1 962 m = nI i) ∧ xp P E u d 1 (q + 1) (m + 1) t e p l w o s (if 20 ≤ K ∧ K ≤ 41 then i + 1 else i) dd c' x.2) ∨ (l2_fr la_W c c' ∧ ∃ f p0, lc_F c' f p0 ∧ xR P f p0 m s0 r x.2 ∧ (∃ j, m ≤ j ∧ j < 13000 ∧ x.1 = nI j) ∧ x.2.1 950 5 = r.1 950 5 ∧ x.2.1 950 10 = r.1 950 10)) := by
  obtain ⟨J, hE, h2, h3, h4, h5, h6, h7, h8, h9, h10⟩ := h
  have mle := J.mle (by decide)
  by_cases hq : q < 3000
  · obtain ⟨e1, x, e2, w1, w2, w3, w4, w5⟩ := pj_node (k := nI K) J hq
    have h28 : r.1 950 28 ≠ 3000 := by
      obtain ⟨B, L, W0, W, V, sl, H, T, n, t0, mm⟩ := P
      rw [J.2.2.2.2.2.2.1]
      intro q'
      have := (nI_eq (b := 3000) (by omega) (by decide)).mp q'
      omega
    have ti := nd_ti (by omega) e2 h9 mle.2.1 (by omega) (Or.inr h28)
    have fc : l2_fr (fun b j => b = 845 ∧ j = 10) c (t_setI c 845 10 (nI (q + 1))) := l2_fr.set ⟨rfl, rfl⟩
    generalize t_setI c 845 10 (nI (q + 1)) = c' at *
    refine ⟨_, x, e1, e2, Or.inl ⟨hq, fc, w1, w2, w3, w4, fun y => (ti.1 y).1, w5, hE.fr fc w3 (fun j _ _ => by omega) (fun b i _ _ => by omega) ⟨by unfold nd_W; omega, by unfold nd_W; omega⟩, ?_, ?_, ?_, ?_, ?_, ?_, ?_, ?_, ?_⟩⟩
    · rw [(fc 353 9 (by omega)).1]; exact h2
    · rw [(fc 334 2 (by omega)).1]; exact h3
    · rw [(fc 334 4 (by omega)).1]; exact h4
    · rw [(fc 846 6 (by omega)).1]; exact h5
    · rw [(fc 845 7 (by omega)).1]; exact h6
    · rw [(fc 845 9 (by omega)).1]; exact h7
    · rw [(w3 950 36 (by unfold nd_W; omega)).1]; exact h8
    · by_cases y : 20 ≤ K ∧ K ≤ 41
      · rw [if_pos y]; exact (ti.1 y).2
      · rw [if_neg y]; exact ti.2 y
    · rw [(w3 950 32 (by unfold nd_W; omega)).1]; exact h10
  · have J0 := J
    obtain ⟨B, L, W0, W, V, sl, H, T, n, t0, mm⟩ := P
    obtain ⟨_, _, _, _, _, g7, g8, g9, _⟩ := J
    have eq : q = 3000 := by omega
    subst eq
    unfold f_X6_node f_X13_node
    rw [g7, g8]
    refine h2_noL (by decide) (h2_noR (by decide) (h2_ckR rfl (h2_bb _ (h2_self (pj_fail (f := 5) J0 (by decide) (by decide))) (fun c' r' w => ?_))))
    obtain ⟨⟨w1, w2, f, p0, w3, w4⟩, _, er⟩ := w
    have tk : r'.1 950 5 = r.1 950 5 ∧ r'.1 950 10 = r.1 950 10 := by
      rw [rs_fail J0.f0.2] at er
      cases er
      refine ⟨?_, ?_⟩ <;> simp only [l2_gI, Nat.reduceEqDiff, reduceIte]
    refine h2_doneL ?_
    have X0 : xR (B, L, W0, W, V, sl, H, T, n, t0, mm) f p0 m s0 r r' := xR.of J0 (by decide) w2 w4
    have X1 : xR (B, L, W0, W, V, sl, H, T, n, t0, mm) f p0 m s0 r (t_setI r' 950 28 (r'.1 950 28 + 1)) := X0.fr (W := fun b j => b = 950 ∧ j = 28) (l2_fr.set ⟨rfl, rfl⟩) (fun b j y => Or.inl ⟨y.1, by omega⟩) (fun j _ => by omega) (fun b i _ _ => by omega)
    have qq := X1.node mle.1 (nI K) 0
    unfold f_X13_node at qq
    rw [if_pos rfl] at qq
    unfold k_X13_node_23
    refine l2_lt (l2_imp qq (fun x hx => Or.inr ⟨w1, f, p0, w3, hx.1, hx.2.1, ?_, ?_⟩))
    · rw [hx.2.2.1]
      simp only [l2_gI, Nat.reduceEqDiff, reduceIte]
      exact tk.1
    · rw [hx.2.2.2]
      simp only [l2_gI, Nat.reduceEqDiff, reduceIte]
      exact tk.2
