/-! Level 2: what reading an exp or a templ comes to. -/
/-- a tone, but for what is told behind it -/
def XT (WN AN TN : Nat → Nat → Prop) (SN : Nat → Nat → Prop) (c r : t_S) (p1 s1 f : Nat) (lv : Int32) (rr e0 e1 t0 t1 m0 mE : Nat) : Prop :=
      ((t1 = t0 + 1 ∧ mE = m0 + 1 ∧ px_tone TN c r p1 s1 e0 e1 t0 m0) ∨
       (e0 < e1 ∧ r.1 955 m0 = 38 ∧ SN t0 m0 ∧ px_o c (e1 - 1) 34 (nI t0) ∧ ∃ n', r.1 959 m0 = nI n' ∧ XR WN AN TN SN c r p1 s1 f 0 lv rr e0 (e1 - 1) (t0 + 1) t1 (m0 + 1) mE n') ∨
       (r.1 955 m0 = 30 ∧ c.1 354 t0 = 9 ∧ ∃ X n' : Nat, X < 7934 ∧ c.1 357 t0 = nI (66 + X) ∧ r.2.1 957 m0 = lN X ∧ c.1 355 t0 = nI (t0 + 1) ∧ r.1 959 m0 = nI n' ∧ r.1 960 n' = -1 ∧ XR WN AN TN SN c r p1 s1 f 1 (lv + 1) rr e0 e1 (t0 + 1) t1 (m0 + 1) mE n') ∨
       (r.1 955 m0 = 29 ∧ c.1 354 t0 = 8 ∧ ∃ (v : Nat) (E T M X N : Nat → Nat), v ≤ 16 ∧ px_B v e0 e1 E ∧ px_B v (t0 + 1) t1 T ∧ px_B v (m0 + 1) mE M ∧ tc_R c t0 v T ∧ ch_R r m0 v M ∧ (∀ i j, i < j → j < v → X i ≠ X j) ∧ ∀ j, j < v → X j < 7934 ∧ T j < T (j + 1) ∧ M j < M (j + 1) ∧ c.1 354 (T j) = 19 ∧ c.1 357 (T j) = nI (66 + X j) ∧ c.1 358 (T j) = -1000 ∧ c.1 355 (T j) = nI (T j + 1) ∧ r.1 955 (M j) = 40 ∧ r.2.1 957 (M j) = lN (X j) ∧ r.1 959 (M j) = nI (N j) ∧ r.1 960 (N j) = -1 ∧ XR WN AN TN SN c r p1 s1 f 1 (lv + 1) rr (E j) (E (j + 1)) (T j + 1) (T (j + 1)) (M j + 1) (M (j + 1)) (N j)) ∨
       (∃ K C : Nat, px_row K C ∧ K ≠ 39 ∧ r.1 955 m0 = nI K ∧ c.1 354 t0 = nI C ∧ ∃ (v : Nat) (E T M G W : Nat → Nat), v ≤ 12 ∧ (K ≠ 31 → 0 < v) ∧ px_B v e0 e1 E ∧ px_B v (t0 + 1) t1 T ∧ px_B v (m0 + 1) mE M ∧ tc_R c t0 v T ∧ ch_R r m0 v G ∧ ∀ j, j < v → (W j = 1 ∨ W j = 2 ∧ K = 31) ∧ XR WN AN TN SN c r p1 s1 f (W j) (lv + 1) rr (E j) (E (j + 1)) (T j) (T (j + 1)) (M j) (M (j + 1)) (G j)))
theorem XT.wrap {WN AN TN : Nat → Nat → Prop} {SN : Nat → Nat → Prop} {c r : t_S} {p1 s1 f rr e0 e1 t0 t1 m0 mE m1 n : Nat} {lv : Int32} (hR : rr ≤ 360) (h : XT WN AN TN SN c r p1 s1 f lv (rr + 20) e0 e1 t0 t1 m0 mE) (h1 : e0 ≤ e1) (h2 : t0 < t1) (h3 : m0 < mE) (h4 : mE ≤ m1) (hn : m0 ≤ n ∧ n < m1) (w : px_wrap c r lv t0 m0 mE m1 n) : XR WN AN TN SN c r p1 s1 (f + 1) 1 lv rr e0 e1 t0 t1 m0 m1 n := ⟨h1, by omega, hn.1, hn.2, Or.inr (Or.inl ⟨⟨rfl, hR⟩, h2, mE, h3, h4, w, h⟩)⟩
theorem XR.tlt {WN AN TN : Nat → Nat → Prop} {SN : Nat → Nat → Prop} {c r : t_S} {p1 s1 f fl rr e0 e1 t0 t1 m0 m1 n : Nat} {lv : Int32} (h : XR WN AN TN SN c r p1 s1 f fl lv rr e0 e1 t0 t1 m0 m1 n) (hf : fl ≠ 0) : t0 < t1 := by
  cases f with
  | zero => exact h.elim
  | succ f =>
    obtain ⟨_, _, _, _, z⟩ := h
    rcases z with z | z | z
    · exact absurd z.1.1 hf
    · exact z.2.1
    · exact z.2.1
theorem XT.ax {WN AN TN WN' AN' TN' : Nat → Nat → Prop} {SN SN' : Nat → Nat → Prop} {c r c' r' : t_S} {p1 s1 p2 s2 f f2 rr e0 e1 t0 t1 m0 mE : Nat} {lv : Int32} (hp : p1 ≤ p2) (hs : s1 ≤ s2) (h : XT WN AN TN SN c r p1 s1 f lv rr e0 e1 t0 t1 m0 mE) (ht : t0 < t1) (hm : m0 < mE) (A : ax_R p1 s1 c r c' r' e0 e1 (t0 + 1) t1 (m0 + 1) mE t0 m0) (C0 : ∀ b, b = 354 ∨ b = 355 ∨ b = 357 → c'.1 b t0 = c.1 b t0) (L0 : c.1 354 t0 = 3 → c'.2.1 361 t0 = c.2.1 361 t0 ∧ c'.2.1 362 t0 = c.2.1 362 t0) (R0 : ∀ b, b = 955 ∨ b = 957 ∨ b = 958 ∨ b = 959 → r'.1 b m0 = r.1 b m0 ∧ r'.2.1 b m0 = r.2.1 b m0) (hW : ∀ i k, e0 ≤ i → i < e1 → m0 < k → k < mE → WN i k → WN' i k) (hA : ∀ i k, e0 ≤ i → i < e1 → m0 < k → k < mE → AN i k → AN' i k) (hT : ∀ t k, t0 ≤ t → t < t1 → m0 ≤ k → k < mE → TN t k → TN' t k) (hS : ∀ t k, t0 ≤ t → t < t1 → m0 ≤ k → k < mE → SN t k → SN' t k) (hf : f ≤ f2) : XT WN' AN' TN' SN' c' r' p2 s2 f2 lv rr e0 e1 t0 t1 m0 mE := by
  have R : ∀ b j, 955 ≤ b → b ≤ 961 → m0 < j → j < mE → (b = 960 → j ≠ m0) → r'.1 b j = r.1 b j ∧ r'.2.1 b j = r.2.1 b j := fun b j a d g i k => A.2.2.2.2.1 b j a d (by omega) i k
  have C : ∀ b j, 354 ≤ b → b ≤ 360 → t0 < j → j < t1 → c'.1 b j = c.1 b j := fun b j a d g i => A.2.1 b j a d (by omega) i (by omega)
  have go : ∀ fl lv rg a0 a1 b0 b1 d0 d1 n', XR WN AN TN SN c r p1 s1 f fl lv rg a0 a1 b0 b1 d0 d1 n' → e0 ≤ a0 → a1 ≤ e1 → t0 < b0 → b1 ≤ t1 → m0 < d0 → d1 ≤ mE → XR WN' AN' TN' SN' c' r' p2 s2 f2 fl lv rg a0 a1 b0 b1 d0 d1 n' := fun fl lv rg a0 a1 b0 b1 d0 d1 n' q i1 i2 i3 i4 i5 i6 => XR.ax hp hs _ _ _ _ _ _ _ _ _ _ _ q (A.sub i1 i2 (by omega) i4 (by omega) i6 (by omega) (by omega)) (fun i k u1 u2 u3 u4 => hW i k (by omega) (by omega) (by omega) (by omega)) (fun i k u1 u2 u3 u4 => hA i k (by omega) (by omega) (by omega) (by omega)) (fun i k u1 u2 u3 u4 => hT i k (by omega) (by omega) (by omega) (by omega)) (fun t k u1 u2 u3 u4 => hS t k (by omega) (by omega) (by omega) (by omega)) f2 hf
  have j5 : r'.1 955 m0 = r.1 955 m0 := (R0 955 (by decide)).1
  have j7 : r'.2.1 957 m0 = r.2.1 957 m0 := (R0 957 (by decide)).2
  have j8 : r'.2.1 958 m0 = r.2.1 958 m0 := (R0 958 (by decide)).2
  have j9 : r'.1 959 m0 = r.1 959 m0 := (R0 959 (by decide)).1
  have q4 : c'.1 354 t0 = c.1 354 t0 := C0 354 (by decide)
  have q5 : c'.1 355 t0 = c.1 355 t0 := C0 355 (by decide)
  have q7 : c'.1 357 t0 = c.1 357 t0 := C0 357 (by decide)
  have tcx : ∀ v F, tc_R c t0 v F → (∀ j, j < v → t0 < F j ∧ F j < t1) → tc_R c' t0 v F := fun v F g k => ⟨by rw [q5]; exact g.1, fun j hj => by rw [C 356 _ (by decide) (by decide) (k j hj).1 (k j hj).2]; exact g.2 j hj⟩
  have chx : ∀ v G, ch_R r m0 v G → (∀ j, j < v → G j < mE) → ch_R r' m0 v G := fun v G g k => ⟨by rw [j9]; exact g.1, fun j hj => by
    obtain ⟨y1, y2, y3, y4⟩ := g.2 j hj
    rw [(R 960 (G j) (by decide) (by decide) y2 (k j hj) (by omega)).1]
    exact ⟨y1, y2, y3, y4⟩⟩
  have pxo : ∀ i o a, px_o c i o a → e0 ≤ i → i < e1 → px_o c' i o a := fun i o a g u v => g.ax A u v
  unfold XT at *
  rw [j5, j7, j9, q4, q5, q7]
  rcases h with ⟨a1, a2, a3⟩ | ⟨a1, a2, a3, a4, n', a5, a6⟩ | ⟨a1, a2, X, n', a3, a4, a5, a6, a7, a8, a9⟩ | ⟨a1, a2, v, E, T, M, X, N, b1, b2, b3, b4, b5, b6, b7, b8⟩ | ⟨K, Cc, a1, a2, a3, a4, v, E, T, M, G, W, b1, b2, b3, b4, b5, b6, b7, b8⟩
  · refine Or.inl ⟨a1, a2, ?_⟩
    obtain ⟨x1, x2, x3, x4, x5, x6⟩ := A
    have tt : ∀ p, px_T c r p1 s1 p m0 → px_T c' r' p2 s2 p m0 := fun p g => by
      obtain ⟨v, s0, B, y1, y2, y3, y4, y5, y6, y7, y8⟩ := g
      exact ⟨v, s0, B, y1, by rw [j7]; exact y2, by rw [j8]; exact y3, by omega, by omega, fun j hj => by rw [x6 _ (by omega)]; exact y6 j hj, by rw [x4 p (by omega)]; exact y7, fun q hq => by rw [x4 _ (by omega)]; exact y8 q hq⟩
    unfold px_tone at *
    rw [j5, j7, j8, j9, q4, q7]
    rcases a3 with ⟨a, a9, h⟩ | ⟨a, b, d, g⟩
    · refine Or.inl ⟨a, a9, ?_⟩
      rcases h with h | h | h | ⟨b1, b2, b3, b4⟩ | ⟨b1, b2, p, b3, b4, b5⟩ | ⟨b1, p, b2, b3⟩
      · exact Or.inl h
      · exact Or.inr (Or.inl h)
      · exact Or.inr (Or.inr (Or.inl h))
      · rw [(L0 b2).1, (L0 b2).2]
        exact Or.inr (Or.inr (Or.inr (Or.inl ⟨b1, b2, b3, b4⟩)))
      · exact Or.inr (Or.inr (Or.inr (Or.inr (Or.inl ⟨b1, b2, p, by omega, b4, by rw [x4 p b3]; exact b5⟩))))
      · exact Or.inr (Or.inr (Or.inr (Or.inr (Or.inr ⟨b1, p, b2, tt p b3⟩))))
    · exact Or.inr ⟨a, b, pxo _ _ _ d (Nat.le_refl _) (by omega), hT t0 m0 (Nat.le_refl _) ht (Nat.le_refl _) hm g⟩
  · exact Or.inr (Or.inl ⟨a1, a2, hS t0 m0 (Nat.le_refl _) ht (Nat.le_refl _) (by omega) a3, pxo _ _ _ a4 (by omega) (by omega), n', a5, go _ _ _ _ _ _ _ _ _ _ a6 (by omega) (by omega) (by omega) (by omega) (by omega) (by omega)⟩)
  · have q := a9.at
    exact Or.inr (Or.inr (Or.inl ⟨a1, a2, X, n', a3, a4, a5, a6, a7, by rw [(R 960 n' (by decide) (by decide) (by omega) (by omega) (by omega)).1]; exact a8, go _ _ _ _ _ _ _ _ _ _ a9 (by omega) (by omega) (by omega) (by omega) (by omega) (by omega)⟩))
  · refine Or.inr (Or.inr (Or.inr (Or.inl ⟨a1, a2, v, E, T, M, X, N, b1, b2, b3, b4, tcx v T b5 (fun j hj => ?_), chx v M b6 (fun j hj => ?_), b7, fun j hj => ?_⟩)))
    · have := b3.in hj
      have := (b8 j hj).2.1
      omega
    · have := b4.in hj
      have := (b8 j hj).2.2.1
      omega
    · obtain ⟨y1, y2, y3, y4, y5, y6, y7, y8, y9, y10, y11, y12⟩ := b8 j hj
      have q := y12.at
      have := b2.in hj
      have := b3.in hj
      have := b4.in hj
      refine ⟨y1, y2, y3, ?_, ?_, ?_, ?_, ?_, ?_, ?_, ?_, go _ _ _ _ _ _ _ _ _ _ y12 (by omega) (by omega) (by omega) (by omega) (by omega) (by omega)⟩
      · rw [C 354 (T j) (by decide) (by decide) (by omega) (by omega)]; exact y4
      · rw [C 357 (T j) (by decide) (by decide) (by omega) (by omega)]; exact y5
      · rw [C 358 (T j) (by decide) (by decide) (by omega) (by omega)]; exact y6
      · rw [C 355 (T j) (by decide) (by decide) (by omega) (by omega)]; exact y7
      · rw [(R 955 (M j) (by decide) (by decide) (by omega) (by omega) (by omega)).1]; exact y8
      · rw [(R 957 (M j) (by decide) (by decide) (by omega) (by omega) (by omega)).2]; exact y9
      · rw [(R 959 (M j) (by decide) (by decide) (by omega) (by omega) (by omega)).1]; exact y10
      · rw [(R 960 (N j) (by decide) (by decide) (by omega) (by omega) (by omega)).1]; exact y11
  · refine Or.inr (Or.inr (Or.inr (Or.inr ⟨K, Cc, a1, a2, a3, a4, v, E, T, M, G, W, b1, b2, b3, b4, b5, tcx v T b6 (fun j hj => ?_), chx v G b7 (fun j hj => ?_), fun j hj => ?_⟩)))
    · have := b4.in hj
      have := (b8 j hj).2.tlt (by rcases (b8 j hj).1 with w | w <;> omega)
      omega
    · have := b5.in hj
      have q := (b8 j hj).2.at
      omega
    · have := b3.in hj
      have := b4.in hj
      have := b5.in hj
      exact ⟨(b8 j hj).1, go _ _ _ _ _ _ _ _ _ _ (b8 j hj).2 (by omega) (by omega) (by omega) (by omega) (by omega) (by omega)⟩
/-- an exp (flag 0) or templ (1) or perm (2) read well: n its root in the reference -/
def xG (P : pc_S) (E : en_S) (fl : Nat) (lv : Int32) (rx u q m t e p l w o s i dd : Nat) (c r : t_S) (n : Nat) (c' r' : t_S) : Prop := ∃ u' q' m' t' e' p' l' s' i', xk P u q t e p l s i u' q' t' e' p' l' s' i' ∧ m < m' ∧ xp P E u' 0 0 q' m' t' e' p' l' w o s' i' dd c' r' ∧ l2_fr (xWc t e p l w o) c c' ∧ l2_fr (xWr m s) r r' ∧ XR (wn_R E c' r' l l') (an_R E c' r' l l') (tn_R E c' r' l l') (sn_R c') c' r' p' s' (m' - m) fl lv rx e e' t t' m m' n ∧ xD E c c' r' l l' i i' m m' ∧ r'.1 960 n = -1 ∧ (fl ≠ 0 → c'.1 356 t = -1)
/-- a tone read well -/
def tG (P : pc_S) (E : en_S) (lv : Int32) (u q m t e p l w o s i dd : Nat) (c r : t_S) (c' r' : t_S) : Prop := ∃ u' q' m' t' e' p' l' s' i', xk P u q t e p l s i u' q' t' e' p' l' s' i' ∧ m < m' ∧ t < t' ∧ xp P E u' 0 0 q' m' t' e' p' l' w o s' i' dd c' r' ∧ l2_fr (xWc t e p l w o) c c' ∧ l2_fr (xWr m s) r r' ∧ XT (wn_R E c' r' l l') (an_R E c' r' l l') (tn_R E c' r' l l') (sn_R c') c' r' p' s' (m' - m - 1) lv (20 * dd + 15) e e' t t' m m' ∧ xD E c c' r' l l' i i' m m' ∧ r'.1 960 m = -1 ∧ r'.1 961 m = 0 ∧ c'.1 358 t = lv ∧ c'.1 359 t = 0 ∧ (c'.1 360 t = 0 ∧ c'.1 356 t = -1)
/-- the class behind fault 2 at a comparison that can't come, the reference at it -/
def xh (P : pc_S) (t e p l w o w' m s n : Nat) (c0 r0 c r : t_S) : Prop := m ≤ n ∧ n < 13000 ∧ r.1 960 n = -1 ∧ ∃ p0, xF 2 p0 t e p l w o w' c0 c ∧ rj P p0 m s r0 r
def xTm_R (P : pc_S) (E : en_S) (lv : Int32) (u q m t e p l w o s i dd : Nat) (c r : t_S) (x y : Int32 × t_S) : Prop := (∃ n, x.1 = nI t ∧ y.1 = nI n ∧ xG P E 1 lv (20 * dd + 15) u q m t e p l w o s i dd c r n x.2 y.2) ∨ xf P t e p l w o w m s c r x.2 y.2
def xEx_R (P : pc_S) (E : en_S) (u q m t e p l w o s i dd : Nat) (c r : t_S) (x y : Int32 × t_S) : Prop := x.1 = nI e ∧ ((∃ n, y.1 = nI n ∧ (xG P E 0 0 (20 * dd + 15) u q m t e p l w o s i dd c r n x.2 y.2 ∨ xh P t e p l w o w m s n c r x.2 y.2)) ∨ xf P t e p l w o w m s c r x.2 y.2)
def hT_R (rcC : RT_X6_readBase) (rcR : RT_X13_base) (dd : Nat) : Prop := ∀ P E EB PB IB lv u q m t e p l w o s i c r, xp P E u 0 0 q m t e p l w o s i dd c r → xb P EB PB IB u q t e p l w o s i dd → t_h2 (rcC.2.2.2.2.2.2.2.2.2.2.2.2.2.1 (nI dd) lv c) (rcR.2.2.2.2.2.2.2.1 r) (xTm_R P E lv u q m t e p l w o s i dd c r)
def hE_R (rcC : RT_X6_readBase) (rcR : RT_X13_base) (dd : Nat) : Prop := ∀ P E EB PB IB u q m t e p l w o s i c r, xp P E u 0 0 q m t e p l w o s i dd c r → xb P EB PB IB u q t e p l w o s i dd → t_h2 (rcC.2.2.1 (nI dd) c) (rcR.2.1 r) (xEx_R P E u q m t e p l w o s i dd c r)
