/-! Level 2: exps and templs in items: the state between, what they come to. -/
/-- .. within an item: the function, the component, the one of the function -/
def mp (P : pc_S) (nt : Nat → Nat) (u q m a g t e p l s i st : Nat) (kf kk ka : Int32) (c r : t_S) : Prop := pj P u 0 0 q m c r ∧ nt_R (pc_W P) nt c r ∧ (c.1 316 8 = nI a ∧ c.1 316 10 = nI g ∧ c.1 353 9 = nI t ∧ c.1 334 2 = nI e ∧ c.1 334 4 = nI p ∧ c.1 846 6 = nI l ∧ c.1 428 18 = nI st) ∧ (c.1 845 7 = 0 ∧ c.1 845 9 = 0 ∧ c.1 845 12 = kf ∧ c.1 845 13 = kk ∧ c.1 845 14 = ka ∧ c.1 845 15 = 0 ∧ c.1 845 16 = nI 2147483647) ∧ (r.1 950 36 = nI s ∧ r.1 950 26 = nI i ∧ r.1 950 81 = nI st) ∧ (a ≤ q ∧ g ≤ pc_c P u ∧ l ≤ pc_c P u ∧ t ≤ q ∧ e ≤ 2 * q + 2 * st ∧ p ≤ pc_p P u ∧ s ≤ pc_p P u ∧ 7 * i ≤ 6 * q + pc_p P u ∧ st ≤ 400)
/-- the reference behind a fault, or at a comparison that is one -/
def rx (P : pc_S) (f p0 m s : Nat) (r0 r : t_S) : Prop := xR P f p0 m s r0 r ∨ (f = 2 ∧ rj P p0 m s r0 r)
section
variable {P : pc_S} {nt : Nat → Nat} {u q m a g t e p l s i st f p0 : Nat} {kf kk ka : Int32} {c0 r0 c r c' r' : t_S} {E : en_S}
theorem mo.mp : mo P nt u q m a g t e p l s i st c r ↔ mp P nt u q m a g t e p l s i st (-1) (-1) (-1) c r := Iff.rfl
theorem rx.fr0 (h : rx P f p0 m s r0 r) : l2_fr (xWr m s) r0 r := h.elim (fun y => y.2.1) (fun y => y.2.2.2.2.2.1)
theorem rx.mustBe (h : rx P f p0 m s r0 r) {x : Int32} (hx : rj_no x) : t_hk (f_X13_mustBe x r) (xR P f p0 m s r0) := h.elim (fun y => y.mustBe x) (fun y => by
  obtain ⟨rfl, y⟩ := y
  exact y.mustBe hx)
theorem rx.mustWord (h : rx P f p0 m s r0 r) (x : Int32) : t_hk (f_X13_mustWord x r) (xR P f p0 m s r0) := h.elim (fun y => y.mustWord x) (fun y => by
  obtain ⟨rfl, y⟩ := y
  exact y.mustWord x)
theorem rx.fr {W : Nat → Nat → Prop} (h : rx P f p0 m s r0 r) (g : l2_fr W r r') (w : ∀ b j, W b j → (955 ≤ b ∧ b ≤ 962 ∧ m ≤ j) ∨ (b = 1003 ∧ m ≤ j) ∨ (b = 950 ∧ j = 32)) : rx P f p0 m s r0 r' := h.elim (fun y => Or.inl (y.fr g (fun b j z => by
  have := w b j z
  unfold xWr
  omega) (fun j _ z => by
  have := w _ _ z
  omega) (fun b i _ _ z => by
  have := w _ _ z
  omega))) (fun y => Or.inr ⟨y.1, y.2.fr g w⟩)
/-- from the state within an item: a fault told there -/
theorem mp.mF (M : mp P nt u q m a g t e p l s i st kf kk ka c r) (h : lc_F c' f p0) (e1 : c'.1 334 2 = c.1 334 2) (e2 : c'.1 845 9 = c.1 845 9) (e3 : c'.1 845 7 = c.1 845 7) : mF f p0 c' := by
  obtain ⟨J, N, ⟨k1, k2, k3, k4, k5, k6, k7⟩, ⟨v1, v2, v3, v4, v5, v6, v7⟩, ⟨s1, s2, s3⟩, ⟨b1, b2, b3, b4, b5, b6, b7, b8, b9⟩⟩ := M
  have ple := J.mle (by decide)
  exact ⟨h, l2_fr.rf, ⟨e, Nat.zero_le _, by omega, by rw [e1]; exact k4⟩, ⟨0, Nat.zero_le _, by decide, by rw [e2]; exact v2⟩, by rw [e3]; exact v1, Nat.le_refl _, by decide, fun j _ a => absurd a (Nat.not_lt_zero _)⟩
/-- .. further on, with its counters and names told -/
theorem mp.mk {nt2 : Nat → Nat} {u2 q2 m2 e2 l2 st2 : Nat} {xf2 xk2 xa2 : Int32} {Wc Wr : Nat → Nat → Prop} (M : mp P nt u q m a g t e p l s i st kf kk ka c r) (hu : u ≤ u2) (hq : q ≤ q2) (J : pj P u2 0 0 q2 m2 c' r') (N2 : nt_R (pc_W P) nt2 c' r') (fc : l2_fr Wc c c') (fr : l2_fr Wr r r') (w1 : ∀ b j, b = 316 ∧ (j = 8 ∨ j = 10) ∨ b = 353 ∧ j = 9 ∨ b = 334 ∧ j = 4 ∨ b = 845 ∧ (j = 7 ∨ j = 9 ∨ j = 15 ∨ j = 16) → ¬ Wc b j) (w2 : ¬ Wr 950 36 ∧ ¬ Wr 950 26) (h6 : c'.1 846 6 = nI l2 ∧ l2 ≤ pc_c P u2) (h2 : c'.1 334 2 = nI e2 ∧ e2 ≤ 2 * q2 + 2 * st2) (h18 : c'.1 428 18 = nI st2 ∧ r'.1 950 81 = nI st2 ∧ st2 ≤ 400) (hx : c'.1 845 12 = xf2 ∧ c'.1 845 13 = xk2 ∧ c'.1 845 14 = xa2) : mp P nt2 u2 q2 m2 a g t e2 p l2 s i st2 xf2 xk2 xa2 c' r' := by
  obtain ⟨J0, N, ⟨k1, k2, k3, k4, k5, k6, k7⟩, ⟨v1, v2, v3, v4, v5, v6, v7⟩, ⟨s1, s2, s3⟩, ⟨b1, b2, b3, b4, b5, b6, b7, b8, b9⟩⟩ := M
  have cm := pc_c_mono P u u2 hu
  have pm : pc_p P u ≤ pc_p P u2 := by
    by_cases z : u = u2
    · rw [z]; exact Nat.le_refl _
    · exact Nat.le_of_lt (J.pmono (u2 - u) u (by omega) (by omega))
  have g : ∀ b j, ¬ Wc b j → c'.1 b j = c.1 b j := fun b j y => (fc b j y).1
  refine ⟨J, N2, ⟨?_, ?_, ?_, h2.1, ?_, h6.1, h18.1⟩, ⟨?_, ?_, hx.1, hx.2.1, hx.2.2, ?_, ?_⟩, ⟨?_, ?_, h18.2.1⟩, ⟨by omega, by omega, h6.2, by omega, h2.2, by omega, by omega, by omega, h18.2.2⟩⟩
  · rw [g 316 8 (w1 _ _ (by omega))]; exact k1
  · rw [g 316 10 (w1 _ _ (by omega))]; exact k2
  · rw [g 353 9 (w1 _ _ (by omega))]; exact k3
  · rw [g 334 4 (w1 _ _ (by omega))]; exact k5
  · rw [g 845 7 (w1 _ _ (by omega))]; exact v1
  · rw [g 845 9 (w1 _ _ (by omega))]; exact v2
  · rw [g 845 15 (w1 _ _ (by omega))]; exact v6
  · rw [g 845 16 (w1 _ _ (by omega))]; exact v7
  · rw [(fr 950 36 w2.1).1]; exact s1
  · rw [(fr 950 26 w2.2).1]; exact s2
/-- .. with its counters told -/
theorem mp.up {u2 q2 m2 e2 l2 st2 : Nat} {xf2 xk2 xa2 : Int32} {Wc Wr : Nat → Nat → Prop} (M : mp P nt u q m a g t e p l s i st kf kk ka c r) (hu : u ≤ u2) (hq : q ≤ q2) (J : pj P u2 0 0 q2 m2 c' r') (fc : l2_fr Wc c c') (fr : l2_fr Wr r r') (w1 : ∀ b j, b = 6 ∨ b = 316 ∧ (j = 8 ∨ j = 10 ∨ j = 13) ∨ b = 353 ∧ (j = 9 ∨ j = 11) ∨ b = 334 ∧ j = 4 ∨ b = 428 ∧ (j = 0 ∨ j = 9) ∨ b = 845 ∧ (j = 7 ∨ j = 9 ∨ j = 15 ∨ j = 16) → ¬ Wc b j) (w2 : ∀ b j, b = 950 ∧ (j = 36 ∨ j = 26 ∨ j = 40 ∨ j = 44 ∨ j = 55 ∨ j = 64) ∨ b = 964 ∨ b = 967 ∨ b = 970 ∨ b = 980 → ¬ Wr b j) (h6 : c'.1 846 6 = nI l2 ∧ l2 ≤ pc_c P u2) (h2 : c'.1 334 2 = nI e2 ∧ e2 ≤ 2 * q2 + 2 * st2) (h18 : c'.1 428 18 = nI st2 ∧ r'.1 950 81 = nI st2 ∧ st2 ≤ 400) (hx : c'.1 845 12 = xf2 ∧ c'.1 845 13 = xk2 ∧ c'.1 845 14 = xa2) : mp P nt u2 q2 m2 a g t e2 p l2 s i st2 xf2 xk2 xa2 c' r' := M.mk hu hq J (M.2.1.fr fc fr (fun j => w1 6 j (by omega)) ⟨w1 _ _ (by omega), w1 _ _ (by omega), w1 _ _ (by omega), w1 _ _ (by omega)⟩ ⟨w2 _ _ (by omega), w2 _ _ (by omega), w2 _ _ (by omega), w2 _ _ (by omega)⟩ (fun b j y => w2 b j (Or.inr y))) fc fr (fun b j y => w1 b j (by omega)) ⟨w2 _ _ (by omega), w2 _ _ (by omega)⟩ h6 h2 h18 hx
/-- .. another token on -/
theorem mp.go {u2 q2 m2 : Nat} {Wc Wr : Nat → Nat → Prop} (M : mp P nt u q m a g t e p l s i st kf kk ka c r) (hu : u ≤ u2) (hq : q ≤ q2) (J : pj P u2 0 0 q2 m2 c' r') (fc : l2_fr Wc c c') (fr : l2_fr Wr r r') (w1 : ∀ b j, b = 6 ∨ b = 316 ∧ (j = 8 ∨ j = 10 ∨ j = 13) ∨ b = 353 ∧ (j = 9 ∨ j = 11) ∨ b = 334 ∧ (j = 2 ∨ j = 4) ∨ b = 846 ∧ j = 6 ∨ b = 428 ∧ (j = 0 ∨ j = 9 ∨ j = 18) ∨ b = 845 ∧ (j = 7 ∨ j = 9 ∨ (12 ≤ j ∧ j ≤ 16)) → ¬ Wc b j) (w2 : ∀ b j, b = 950 ∧ (j = 36 ∨ j = 26 ∨ j = 81 ∨ j = 40 ∨ j = 44 ∨ j = 55 ∨ j = 64) ∨ b = 964 ∨ b = 967 ∨ b = 970 ∨ b = 980 → ¬ Wr b j) : mp P nt u2 q2 m2 a g t e p l s i st kf kk ka c' r' := by
  obtain ⟨J0, N, ⟨k1, k2, k3, k4, k5, k6, k7⟩, ⟨v1, v2, v3, v4, v5, v6, v7⟩, ⟨s1, s2, s3⟩, ⟨b1, b2, b3, b4, b5, b6, b7, b8, b9⟩⟩ := id M
  have cm := pc_c_mono P u u2 hu
  have g : ∀ b j, ¬ Wc b j → c'.1 b j = c.1 b j := fun b j y => (fc b j y).1
  refine M.up hu hq J fc fr (fun b j y => w1 b j (by omega)) (fun b j y => w2 b j (by omega)) ⟨?_, by omega⟩ ⟨?_, by omega⟩ ⟨?_, ?_, b9⟩ ⟨?_, ?_, ?_⟩
  · rw [g 846 6 (w1 _ _ (by omega))]; exact k6
  · rw [g 334 2 (w1 _ _ (by omega))]; exact k4
  · rw [g 428 18 (w1 _ _ (by omega))]; exact k7
  · rw [(fr 950 81 (w2 _ _ (by omega))).1]; exact s3
  · rw [g 845 12 (w1 _ _ (by omega))]; exact v3
  · rw [g 845 13 (w1 _ _ (by omega))]; exact v4
  · rw [g 845 14 (w1 _ _ (by omega))]; exact v5
theorem mp.la {u2 q2 m2 : Nat} (M : mp P nt u q m a g t e p l s i st kf kk ka c r) (hu : u ≤ u2) (hq : q ≤ q2) (J : pj P u2 0 0 q2 m2 c' r') (fc : l2_fr la_W c c') (fr : l2_fr rn_W r r') : mp P nt u2 q2 m2 a g t e p l s i st kf kk ka c' r' := M.go hu hq J fc fr (fun b j y => by unfold la_W; omega) (fun b j y => by unfold rn_W; omega)
/-- the joint state of an exp or templ there -/
theorem mp.xp (M : mp P nt u q m a g t e p l s i st kf kk ka c r) (hE : en E c r) (h32 : r.1 950 32 = 0) : xp P E u 0 0 q m t e p l 0 0 s i 0 c r ∧ xb P (2 * e + 9000) (2 * p) 0 u q t e p l 0 0 s i 0 := by
  obtain ⟨J, N, ⟨k1, k2, k3, k4, k5, k6, k7⟩, ⟨v1, v2, v3, v4, v5, v6, v7⟩, ⟨s1, s2, s3⟩, ⟨b1, b2, b3, b4, b5, b6, b7, b8, b9⟩⟩ := M
  have cle := J.cle
  have mle := J.mle (by decide)
  refine ⟨⟨J, hE, k3, k4, k5, k6, v1, v2, s1, s2, h32⟩, ?_⟩
  unfold xb
  omega
/-- what has been read well: from e operations to e' (with their end or not) -/
def ew_g (P : pc_S) (nt : Nat → Nat) (E : en_S) (fl : Nat) (lv : Int32) (z u q m a g t e p l s i st : Nat) (kf kk ka : Int32) (c r : t_S) (n : Nat) (c' r' : t_S) (u' q' m' t' e' p' l' s' i' : Nat) : Prop := (u < u' ∧ q < q' ∧ m < m' ∧ t ≤ t' ∧ e ≤ e' ∧ p ≤ p' ∧ l ≤ l' ∧ s ≤ s' ∧ i ≤ i') ∧ mp P nt u' q' m' a g t' (e' + z) p' l' s' i' st kf kk ka c' r' ∧ (e' + 1 ≤ 2 * q' + 2 * st ∧ 2 * e' + 1 + 3 * q ≤ 2 * e + 3 * q') ∧ l2_fr (xWc t e p l 0 0) c c' ∧ l2_fr (xWr m s) r r' ∧ (z = 1 → px_o c' e' 0 0) ∧ XR (wn_R E c' r' l l') (an_R E c' r' l l') (tn_R E c' r' l l') (sn_R c') c' r' p' s' (m' - m) fl lv 15 e e' t t' m m' n ∧ xD E c c' r' l l' i i' m m' ∧ r'.1 960 n = -1 ∧ (fl ≠ 0 → c'.1 356 t = -1) ∧ r'.1 950 32 = 0 ∧ en E c' r'
def ew_G (P : pc_S) (nt : Nat → Nat) (E : en_S) (fl : Nat) (lv : Int32) (z u q m a g t e p l s i st : Nat) (kf kk ka : Int32) (c r : t_S) (n : Nat) (c' r' : t_S) : Prop := ∃ u' q' m' t' e' p' l' s' i', ew_g P nt E fl lv z u q m a g t e p l s i st kf kk ka c r n c' r' u' q' m' t' e' p' l' s' i'
def ew_B (P : pc_S) (t e p l m s : Nat) (c r c' r' : t_S) : Prop := ∃ f p0, mF f p0 c' ∧ l2_fr (xWc t e p l 0 0) c c' ∧ rx P f p0 m s r r'
theorem xG.ew {fl n : Nat} {lv : Int32} (M : mp P nt u q m a g t e p l s i st kf kk ka c r) (G : xG P E fl lv 15 u q m t e p l 0 0 s i 0 c r n c' r') : ew_G P nt E fl lv 0 u q m a g t e p l s i st kf kk ka c r n c' r' := by
  obtain ⟨J0, N, ⟨k1, k2, k3, k4, k5, k6, k7⟩, ⟨v1, v2, v3, v4, v5, v6, v7⟩, ⟨s1, s2, s3⟩, ⟨b1, b2, b3, b4, b5, b6, b7, b8, b9⟩⟩ := M
  obtain ⟨u', q', m', t', e', p', l', s', i', g1, g2, ⟨x1, x2, x3, x4, x5, x6, x7, x8, x9, x10, x11⟩, g4, g5, g6, g7, g8, g9⟩ := G
  unfold xk at g1
  refine ⟨u', q', m', t', e', p', l', s', i', ⟨by omega, by omega, g2, by omega, by omega, by omega, by omega, by omega, by omega⟩, ⟨x1, ?_, ⟨?_, ?_, x3, x4, x5, x6, ?_⟩, ⟨x7, x8, ?_, ?_, ?_, ?_, ?_⟩, ⟨x9, x10, ?_⟩, ⟨by omega, by omega, by omega, by omega, by omega, by omega, by omega, by omega, b9⟩⟩, ⟨by omega, by omega⟩, g4, g5, fun y => absurd y (by decide), g6, g7, g8, g9, x11, x2⟩
  · exact N.fr g4 g5 (fun j => by unfold xWc; omega) ⟨by unfold xWc; omega, by unfold xWc; omega, by unfold xWc; omega, by unfold xWc; omega⟩ ⟨by unfold xWr; omega, by unfold xWr; omega, by unfold xWr; omega, by unfold xWr; omega⟩ (fun b j y => by unfold xWr; omega)
  · rw [(g4 316 8 (by unfold xWc; omega)).1]; exact k1
  · rw [(g4 316 10 (by unfold xWc; omega)).1]; exact k2
  · rw [(g4 428 18 (by unfold xWc; omega)).1]; exact k7
  · rw [(g4 845 12 (by unfold xWc; omega)).1]; exact v3
  · rw [(g4 845 13 (by unfold xWc; omega)).1]; exact v4
  · rw [(g4 845 14 (by unfold xWc; omega)).1]; exact v5
  · rw [(g4 845 15 (by unfold xWc; omega)).1]; exact v6
  · rw [(g4 845 16 (by unfold xWc; omega)).1]; exact v7
  · rw [(g5 950 81 (by unfold xWr; omega)).1]; exact s3
/-- .. with an END -/
theorem ew_G.end {fl n : Nat} {lv : Int32} (h : ew_G P nt E fl lv 0 u q m a g t e p l s i st kf kk ka c r n c' r') : t_hk (f_X0_emit 0 0 c') (fun y => ew_G P nt E fl lv 1 u q m a g t e p l s i st kf kk ka c r n y.2 r') := by
  obtain ⟨u', q', m', t', e', p', l', s', i', ⟨o1, o2, o3, o4, o5, o6, o7, o8, o9⟩, M, eb, g4, g5, _, g6, g7, g8, g9, g32, gE⟩ := h
  have M0 := M
  obtain ⟨J0, N, ⟨k1, k2, k3, k4, k5, k6, k7⟩, ⟨v1, v2, v3, v4, v5, v6, v7⟩, ⟨s1, s2, s3⟩, ⟨b1, b2, b3, b4, b5, b6, b7, b8, b9⟩⟩ := M
  have mle := J0.mle (by decide)
  have tt := g6.at
  refine l2_imp (em_emit 0 0 (show c'.1 334 2 = nI e' from k4) (by omega)) (fun y hy => ?_)
  obtain ⟨_, a4, a5, a6, a7⟩ := hy
  have nf : l2_fr (fun _ _ => False) r' r' := l2_fr.rf
  have J1 : pj P u' 0 0 q' m' y.2 r' := J0.fr a4 nf (fun j => by omega) (fun b i _ _ => by omega) (fun b i _ _ => by omega) (by omega) (fun j _ y => y) (fun b i _ _ y => y)
  refine ⟨u', q', m', t', e', p', l', s', i', ⟨o1, o2, o3, o4, o5, o6, o7, o8, o9⟩, ⟨J1, N.fr a4 nf (fun j => by omega) ⟨by omega, by omega, by omega, by omega⟩ ⟨fun y => y, fun y => y, fun y => y, fun y => y⟩ (fun b j _ y => y), ⟨?_, ?_, ?_, a5, ?_, ?_, ?_⟩, ⟨?_, ?_, ?_, ?_, ?_, ?_, ?_⟩, ⟨s1, s2, s3⟩, ⟨b1, b2, b3, b4, eb.1, b6, b7, b8, b9⟩⟩, eb, g4.trans (a4.mono (fun b j y => ?_)), g5, fun _ => ⟨a6, a7⟩, ?_, ?_, g8, fun y => ?_, g32, ?_⟩
  · rw [(a4 316 8 (by omega)).1]; exact k1
  · rw [(a4 316 10 (by omega)).1]; exact k2
  · rw [(a4 353 9 (by omega)).1]; exact k3
  · rw [(a4 334 4 (by omega)).1]; exact k5
  · rw [(a4 846 6 (by omega)).1]; exact k6
  · rw [(a4 428 18 (by omega)).1]; exact k7
  · rw [(a4 845 7 (by omega)).1]; exact v1
  · rw [(a4 845 9 (by omega)).1]; exact v2
  · rw [(a4 845 12 (by omega)).1]; exact v3
  · rw [(a4 845 13 (by omega)).1]; exact v4
  · rw [(a4 845 14 (by omega)).1]; exact v5
  · rw [(a4 845 15 (by omega)).1]; exact v6
  · rw [(a4 845 16 (by omega)).1]; exact v7
  · rcases y with y | y
    · exact y.1 ▸ y.2 ▸ xWc.i334 (Or.inl rfl)
    · exact xWc.iop y.1 (by omega)
  · exact g6.own a4 nf (Nat.le_refl _) (Nat.le_refl _) (Nat.le_refl _) ⟨Nat.le_refl _, Nat.le_refl _⟩ (fun b j y => by omega) (fun b j y => y.elim)
  · exact g7.own a4 nf (fun b j y => by omega) (fun b j y => y.elim)
  · rw [(a4 356 _ (by omega)).1]; exact g9 y
  · exact gE.fr a4 nf (fun j _ _ => by omega) (fun b i _ _ => by omega) ⟨fun y => y, fun y => y⟩
/-- a templ -/
theorem ew_templ {lv : Int32} (M : mp P nt u q m a g t e p l s i st kf kk ka c r) (hE : en E c r) (h32 : r.1 950 32 = 0) : t_h2 (f_X6_readTempl 0 lv c) (f_X13_templ r) (fun x y => (∃ n, x.1 = nI t ∧ y.1 = nI n ∧ ew_G P nt E 1 lv 0 u q m a g t e p l s i st kf kk ka c r n x.2 y.2) ∨ ∃ f p0, mF f p0 x.2 ∧ l2_fr (xWc t e p l 0 0) c x.2 ∧ xR P f p0 m s r y.2) := by
  obtain ⟨X, B⟩ := M.xp hE h32
  have T : hT_R (R_X6_readBase 250) (R_X13_base 300) 0 := (hA_0 (dd := 0) (by decide) 250 300 (by decide) (by decide)).2
  refine h2_imp (show t_h2 (f_X6_readTempl 0 lv c) (f_X13_templ r) _ from T P E _ _ _ lv _ _ _ _ _ _ _ _ _ _ _ _ _ X B) (fun x y h => ?_)
  rcases h with ⟨n, x1, y1, G⟩ | ⟨f, p0, x1, y1⟩
  · exact Or.inl ⟨n, x1, y1, G.ew M⟩
  · exact Or.inr ⟨f, p0, x1.me, x1.2.1, y1⟩
/-- an exp, whole -/
theorem ew_exp (M : mp P nt u q m a g t e p l s i st kf kk ka c r) (hE : en E c r) (h32 : r.1 950 32 = 0) : t_h2 (f_X6_readExp (-1) c) (f_X13_exp r) (fun x y => x.1 = nI e ∧ ((∃ n, y.1 = nI n ∧ ew_G P nt E 0 0 1 u q m a g t e p l s i st kf kk ka c r n x.2 y.2) ∨ ew_B P t e p l m s c r x.2 y.2)) := by
  obtain ⟨X, B⟩ := M.xp hE h32
  have hA : (0 : Nat) ≤ 16 → hA_R (239 + 6) (287 + 3) (0 + 1) := fun _ x y hx hy => hA_0 (dd := 1) (by decide) x y (by omega) (by omega)
  obtain ⟨y, e1, h⟩ := ex_any (l1 := -1) (k := 239) (j := 287) hA (by decide) (by decide) X B
  show t_h2 (m_X6_readExp (R_X6_readBase (239 + 10)) (-1) c) (m_X13_exp (R_X13_base (287 + 12)) r) _
  rcases h with ⟨n, c2, y1, y2, G⟩ | ⟨n, p0, y1, y2, y3, y4, ⟨z, z1, z2, z3⟩, y6⟩ | ⟨f, p0, ⟨z, z1, z2, z3⟩, y2⟩
  · obtain ⟨w, w1, w2⟩ := (G.ew M).end
    refine ⟨(nI e, w.2), y, ?_, e1, rfl, Or.inl ⟨n, y1, w2⟩⟩
    rw [y2]
    unfold exF
    rw [if_pos rfl, w1]
    rfl
  · exact ⟨z, y, z1, e1, z2, Or.inr ⟨2, p0, z3.me, z3.2.1, Or.inr ⟨rfl, y6⟩⟩⟩
  · exact ⟨z, y, z1, e1, z2, Or.inr ⟨f, p0, z3.me, z3.2.1, Or.inl y2⟩⟩
/-- an exp that stands with others -/
theorem ew_exp0 (M : mp P nt u q m a g t e p l s i st kf kk ka c r) (hE : en E c r) (h32 : r.1 950 32 = 0) : t_h2 (f_X6_readExp 0 c) (f_X13_exp r) (fun x y => x.1 = nI e ∧ ((∃ n, y.1 = nI n ∧ ew_G P nt E 0 0 0 u q m a g t e p l s i st kf kk ka c r n x.2 y.2) ∨ ew_B P t e p l m s c r x.2 y.2)) := by
  obtain ⟨X, B⟩ := M.xp hE h32
  have hh : hE_R (R_X6_readBase 250) (R_X13_base 300) 0 := (hA_0 (dd := 0) (by decide) 250 300 (by decide) (by decide)).1
  refine h2_imp (show t_h2 (f_X6_readExp 0 c) (f_X13_exp r) _ from hh P E _ _ _ _ _ _ _ _ _ _ _ _ _ _ _ _ X B) (fun x y h => ⟨h.1, ?_⟩)
  rcases h.2 with ⟨n, y1, G | ⟨y2, y3, y4, p0, z3, y6⟩⟩ | ⟨f, p0, x1, y1⟩
  · exact Or.inl ⟨n, y1, G.ew M⟩
  · exact Or.inr ⟨2, p0, z3.me, z3.2.1, Or.inr ⟨rfl, y6⟩⟩
  · exact Or.inr ⟨f, p0, x1.me, x1.2.1, Or.inl y1⟩
end
