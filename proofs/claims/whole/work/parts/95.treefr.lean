/-! Level 2: exps and templs stay what they are. -/
theorem XR.at {WN AN TN : Nat → Nat → Prop} {SN : Nat → Nat → Prop} {c r : t_S} {p1 s1 f fl rr e0 e1 t0 t1 m0 m1 n : Nat} {lv : Int32} (h : XR WN AN TN SN c r p1 s1 f fl lv rr e0 e1 t0 t1 m0 m1 n) : e0 ≤ e1 ∧ t0 ≤ t1 ∧ m0 ≤ n ∧ n < m1 := by
  cases f with
  | zero => exact h.elim
  | succ f => exact ⟨h.1, h.2.1, h.2.2.1, h.2.2.2.1⟩
theorem px_T.up {c r : t_S} {p1 s1 p2 s2 p n : Nat} (h : px_T c r p1 s1 p n) (hp : p1 ≤ p2) (hs : s1 ≤ s2) : px_T c r p2 s2 p n := by
  obtain ⟨v, s0, B, a1, a2, a3, a4, a5, a6⟩ := h
  exact ⟨v, s0, B, a1, a2, a3, by omega, by omega, a6⟩
theorem px_leaf.up {WN AN : Nat → Nat → Prop} {c r : t_S} {p1 s1 p2 s2 e n : Nat} (h : px_leaf WN AN c r p1 s1 e n) (hp : p1 ≤ p2) (hs : s1 ≤ s2) : px_leaf WN AN c r p2 s2 e n := by
  rcases h with ⟨a, p, v, b1, b⟩ | ⟨a, p, b1, b2⟩ | ⟨a, p, b1, b2⟩ | ⟨a, p, b1, b2, b3⟩ | h | h
  · exact Or.inl ⟨a, p, v, by omega, b⟩
  · exact Or.inr (Or.inl ⟨a, p, by omega, b2⟩)
  · exact Or.inr (Or.inr (Or.inl ⟨a, p, b1, b2.up hp hs⟩))
  · exact Or.inr (Or.inr (Or.inr (Or.inl ⟨a, p, by omega, b2, b3⟩)))
  · exact Or.inr (Or.inr (Or.inr (Or.inr (Or.inl h))))
  · exact Or.inr (Or.inr (Or.inr (Or.inr (Or.inr h))))
theorem px_tone.up {TN : Nat → Nat → Prop} {c r : t_S} {p1 s1 p2 s2 e0 e1 t n : Nat} (h : px_tone TN c r p1 s1 e0 e1 t n) (hp : p1 ≤ p2) (hs : s1 ≤ s2) : px_tone TN c r p2 s2 e0 e1 t n := by
  rcases h with ⟨a, a9, h | h | h | h | ⟨b1, b2, p, b3, b4⟩ | ⟨b1, p, b2, b3⟩⟩ | h
  · exact Or.inl ⟨a, a9, Or.inl h⟩
  · exact Or.inl ⟨a, a9, Or.inr (Or.inl h)⟩
  · exact Or.inl ⟨a, a9, Or.inr (Or.inr (Or.inl h))⟩
  · exact Or.inl ⟨a, a9, Or.inr (Or.inr (Or.inr (Or.inl h)))⟩
  · exact Or.inl ⟨a, a9, Or.inr (Or.inr (Or.inr (Or.inr (Or.inl ⟨b1, b2, p, by omega, b4⟩))))⟩
  · exact Or.inl ⟨a, a9, Or.inr (Or.inr (Or.inr (Or.inr (Or.inr ⟨b1, p, b2, b3.up hp hs⟩))))⟩
  · exact Or.inr h
theorem px_B.in {v a b j : Nat} {E : Nat → Nat} (h : px_B v a b E) (hj : j < v) : a ≤ E j ∧ E j ≤ E (j + 1) ∧ E (j + 1) ≤ b := ⟨(h.2.2 j hj).2.2, (h.2.2 j hj).1, (h.2.2 j hj).2.1⟩
theorem XR.ax {WN AN TN WN' AN' TN' : Nat → Nat → Prop} {SN SN' : Nat → Nat → Prop} {c r c' r' : t_S} {p1 s1 p2 s2 : Nat} (hp : p1 ≤ p2) (hs : s1 ≤ s2) : ∀ f fl lv rr e0 e1 t0 t1 m0 m1 n, XR WN AN TN SN c r p1 s1 f fl lv rr e0 e1 t0 t1 m0 m1 n → ax_R p1 s1 c r c' r' e0 e1 t0 t1 m0 m1 t0 n → (∀ i k, e0 ≤ i → i < e1 → m0 ≤ k → k < m1 → WN i k → WN' i k) → (∀ i k, e0 ≤ i → i < e1 → m0 ≤ k → k < m1 → AN i k → AN' i k) → (∀ t k, t0 ≤ t → t < t1 → m0 ≤ k → k < m1 → TN t k → TN' t k) → (∀ t k, t0 ≤ t → t < t1 → m0 ≤ k → k < m1 → SN t k → SN' t k) → ∀ f2, f ≤ f2 → XR WN' AN' TN' SN' c' r' p2 s2 f2 fl lv rr e0 e1 t0 t1 m0 m1 n := by
  intro f
  induction f with
  | zero => intro fl lv rr e0 e1 t0 t1 m0 m1 n h; exact h.elim
  | succ f ih =>
    intro fl lv rr e0 e1 t0 t1 m0 m1 n h A hW hA hT hS f2 hf
    obtain ⟨f2, rfl⟩ : ∃ g, f2 = g + 1 := ⟨f2 - 1, by omega⟩
    obtain ⟨h1, h2, h3, h4, h⟩ := h
    have R : ∀ b j, 955 ≤ b → b ≤ 961 → m0 ≤ j → j < m1 → (b = 960 → j ≠ n) → r'.1 b j = r.1 b j ∧ r'.2.1 b j = r.2.1 b j := A.2.2.2.2.1
    have C : ∀ b j, 354 ≤ b → b ≤ 360 → t0 ≤ j → j < t1 → (b = 356 → j ≠ t0) → c'.1 b j = c.1 b j := A.2.1
    have go : ∀ fl lv rg a0 a1 b0 b1 d0 d1 n', XR WN AN TN SN c r p1 s1 f fl lv rg a0 a1 b0 b1 d0 d1 n' → e0 ≤ a0 → a1 ≤ e1 → t0 ≤ b0 → b1 ≤ t1 → m0 ≤ d0 → d1 ≤ m1 → (n < d0 ∨ d1 ≤ n) → XR WN' AN' TN' SN' c' r' p2 s2 f2 fl lv rg a0 a1 b0 b1 d0 d1 n' := fun fl lv rg a0 a1 b0 b1 d0 d1 n' q i1 i2 i3 i4 i5 i6 i7 => ih fl lv rg a0 a1 b0 b1 d0 d1 n' q (A.sub i1 i2 i3 i4 i5 i6 (by omega) (by omega)) (fun i k u1 u2 u3 u4 => hW i k (by omega) (by omega) (by omega) (by omega)) (fun i k u1 u2 u3 u4 => hA i k (by omega) (by omega) (by omega) (by omega)) (fun i k u1 u2 u3 u4 => hT i k (by omega) (by omega) (by omega) (by omega)) (fun t k u1 u2 u3 u4 => hS t k (by omega) (by omega) (by omega) (by omega)) f2 (by omega)
    have k5 : r'.1 955 n = r.1 955 n := (R 955 n (by decide) (by decide) h3 h4 (by omega)).1
    have k7 : r'.2.1 957 n = r.2.1 957 n := (R 957 n (by decide) (by decide) h3 h4 (by omega)).2
    have k8 : r'.2.1 958 n = r.2.1 958 n := (R 958 n (by decide) (by decide) h3 h4 (by omega)).2
    have k9 : r'.1 959 n = r.1 959 n := (R 959 n (by decide) (by decide) h3 h4 (by omega)).1
    have k1 : r'.1 961 n = r.1 961 n := (R 961 n (by decide) (by decide) h3 h4 (by omega)).1
    refine ⟨h1, h2, h3, h4, ?_⟩
    rcases h with ⟨hfl, h⟩ | ⟨hfl, ht, mE, g1, g2, g3, h⟩ | ⟨hfl, ht, a1, a2, a3, a4, a5, a6, a7, v, E, T, M, G, b1, b2, b3, b4, b5, b6, b7, b8⟩
    · refine Or.inl ⟨hfl, ?_⟩
      rw [k5, k7, k9]
      rcases h with ⟨a1, a2, a3, a4, a5⟩ | ⟨a1, a2, n', a3, a4⟩ | ⟨a1, a2, K, o, a, n', a3, a4, a5, a6, a7⟩ | ⟨a1, a2, a3, X, n', a4, a5, a6, a7, a8⟩ | ⟨a1, ea, ta, a, b, a2, a3, a4, a5, h⟩ | ⟨a1, a2, a3, v, E, T, M, G, b1, b2, b3, b4, b5, b6, b7⟩ | ⟨a1, a2, v, E, T, M, X, N, b1, b2, b3, b4, b5, b6, b7, b8, b9⟩ | ⟨a1, a2, a3, ea, ta, ma, a, b, b1, b2, b3, b4, b5, b6, b7, b8⟩
      · exact Or.inl ⟨a1, a2, a3, a4, (a5.ax A h3 h4 (Nat.le_refl _) (by omega) (hW e0 n (by omega) (by omega) h3 h4) (hA e0 n (by omega) (by omega) h3 h4)).up hp hs⟩
      · exact Or.inr (Or.inl ⟨a1, a2, n', a3, go _ _ _ _ _ _ _ _ _ _ a4 (by omega) (by omega) (by omega) (by omega) (by omega) (by omega) (by omega)⟩)
      · exact Or.inr (Or.inr (Or.inl ⟨a1, a2, K, o, a, n', a3, a4, a5.ax A (by omega) (by omega), a6, go _ _ _ _ _ _ _ _ _ _ a7 (by omega) (by omega) (by omega) (by omega) (by omega) (by omega) (by omega)⟩))
      · exact Or.inr (Or.inr (Or.inr (Or.inl ⟨a1, a2, a3, X, n', a4, a5, a6.ax A (by omega) (by omega), a7, go _ _ _ _ _ _ _ _ _ _ a8 (by omega) (by omega) (by omega) (by omega) (by omega) (by omega) (by omega)⟩)))
      · have q := a5.at
        have qb : r'.1 960 a = r.1 960 a := (R 960 a (by decide) (by decide) (by omega) (by omega) (by omega)).1
        refine Or.inr (Or.inr (Or.inr (Or.inr (Or.inl ⟨a1, ea, ta, a, b, a2, a3, by rw [qb]; exact a4, ?_⟩))))
        have ht : ∀ {rg x y}, XR WN AN TN SN c r p1 s1 f 0 lv rg x y ta t1 (n + 1) m1 b → ta ≤ t1 := fun z => z.at.2.1
        rcases h with ⟨b1, b2, b3⟩ | ⟨b1, x, o, b2, b3, b4, b5⟩ | ⟨b1, x, o, b2, b3, b4, b5, b6⟩
        · have := ht b3
          exact ⟨go _ _ _ _ _ _ _ _ _ _ a5 (by omega) (by omega) (by omega) (by omega) (by omega) (by omega) (by omega), Or.inl ⟨b1, b2.ax A (by omega) (by omega), go _ _ _ _ _ _ _ _ _ _ b3 (by omega) (by omega) (by omega) (by omega) (by omega) (by omega) (by omega)⟩⟩
        · have := ht b5
          exact ⟨go _ _ _ _ _ _ _ _ _ _ a5 (by omega) (by omega) (by omega) (by omega) (by omega) (by omega) (by omega), Or.inr (Or.inl ⟨b1, x, o, b2, b3, b4.ax A (by omega) (by omega), go _ _ _ _ _ _ _ _ _ _ b5 (by omega) (by omega) (by omega) (by omega) (by omega) (by omega) (by omega)⟩)⟩
        · have := ht b6
          exact ⟨go _ _ _ _ _ _ _ _ _ _ a5 (by omega) (by omega) (by omega) (by omega) (by omega) (by omega) (by omega), Or.inr (Or.inr ⟨b1, x, o, b2, b3, b4.ax A (by omega) (by omega), b5.ax A (by omega) (by omega), go _ _ _ _ _ _ _ _ _ _ b6 (by omega) (by omega) (by omega) (by omega) (by omega) (by omega) (by omega)⟩)⟩
      · refine Or.inr (Or.inr (Or.inr (Or.inr (Or.inr (Or.inl ⟨a1, a2, a3, v, E, T, M, G, b1, b2, b3, b4, b5.ax A (by omega) (by omega), b6.ax A h3 h4 (fun j hj => ?_), fun j hj => ?_⟩)))))
        · have q := (b7 j hj).at
          have := b4.in hj
          omega
        · have := b2.in hj
          have := b3.in hj
          have := b4.in hj
          exact go _ _ _ _ _ _ _ _ _ _ (b7 j hj) (by omega) (by omega) (by omega) (by omega) (by omega) (by omega) (by omega)
      · refine Or.inr (Or.inr (Or.inr (Or.inr (Or.inr (Or.inr (Or.inl ⟨a1, a2, v, E, T, M, X, N, b1, b2, b3, b4, b5, b6.ax A (by omega) (by omega), b7.ax A h3 h4 (fun j hj => ?_), b8, fun j hj => ?_⟩))))))
        · have := b5.in hj
          have := (b9 j hj).2.2.1
          omega
        · obtain ⟨y1, y2, y3, y4, y5, y6, y7⟩ := b9 j hj
          have := b3.in hj
          have := b4.in hj
          have := b5.in hj
          refine ⟨y1, y2.ax A (by omega) (by omega), y3, ?_, ?_, ?_, go _ _ _ _ _ _ _ _ _ _ y7 (by omega) (by omega) (by omega) (by omega) (by omega) (by omega) (by omega)⟩
          · rw [(R 955 (M j) (by decide) (by decide) (by omega) (by omega) (by omega)).1]; exact y4
          · rw [(R 957 (M j) (by decide) (by decide) (by omega) (by omega) (by omega)).2]; exact y5
          · rw [(R 959 (M j) (by decide) (by decide) (by omega) (by omega) (by omega)).1]; exact y6
      · have q := b7.at
        have q2 := b8.at
        refine Or.inr (Or.inr (Or.inr (Or.inr (Or.inr (Or.inr (Or.inr ⟨a1, a2, a3, ea, ta, ma, a, b, b1, b2, b3, b4, ?_, b6.ax A (by omega) (by omega), go _ _ _ _ _ _ _ _ _ _ b7 (by omega) (by omega) (by omega) (by omega) (by omega) (by omega) (by omega), go _ _ _ _ _ _ _ _ _ _ b8 (by omega) (by omega) (by omega) (by omega) (by omega) (by omega) (by omega)⟩))))))
        rw [(R 960 a (by decide) (by decide) (by omega) (by omega) (by omega)).1]; exact b5
    · have j5 : r'.1 955 m0 = r.1 955 m0 := (R 955 m0 (by decide) (by decide) (by omega) (by omega) (by omega)).1
      have j7 : r'.2.1 957 m0 = r.2.1 957 m0 := (R 957 m0 (by decide) (by decide) (by omega) (by omega) (by omega)).2
      have j9 : r'.1 959 m0 = r.1 959 m0 := (R 959 m0 (by decide) (by decide) (by omega) (by omega) (by omega)).1
      have j1 : r'.1 961 m0 = r.1 961 m0 := (R 961 m0 (by decide) (by decide) (by omega) (by omega) (by omega)).1
      have q4 : c'.1 354 t0 = c.1 354 t0 := C 354 t0 (by decide) (by decide) (by omega) (by omega) (by omega)
      have q5 : c'.1 355 t0 = c.1 355 t0 := C 355 t0 (by decide) (by decide) (by omega) (by omega) (by omega)
      have q7 : c'.1 357 t0 = c.1 357 t0 := C 357 t0 (by decide) (by decide) (by omega) (by omega) (by omega)
      have nE : n = m0 ∨ n = mE := by
        obtain ⟨_, _, _, _, _, z | z⟩ := g3
        · exact Or.inl z.2.1
        · exact Or.inr z.1
      refine Or.inr (Or.inl ⟨hfl, ht, mE, g1, g2, ?_, ?_⟩)
      · obtain ⟨w1, b, w2, w3, w4, w5⟩ := g3
        unfold px_wrap
        rw [C 358 t0 (by decide) (by decide) (by omega) (by omega) (by omega), C 359 t0 (by decide) (by decide) (by omega) (by omega) (by omega), C 360 t0 (by decide) (by decide) (by omega) (by omega) (by omega), k5, k7, k8, k9, k1, j1]
        refine ⟨w1, b, w2, w3, w4, ?_⟩
        rcases w5 with w5 | ⟨z1, z2, z3, z4, z5, z6, z7⟩
        · exact Or.inl w5
        · exact Or.inr ⟨z1, z2, z3, z4, z5, by rw [(R 960 m0 (by decide) (by decide) (Nat.le_refl _) (by omega) (by omega)).1]; exact z6, z7⟩
      rw [j5, j7, j9, q4, q5, q7]
      rcases h with ⟨a1, a2, a3⟩ | ⟨a1, a2, a3, a4, n', a5, a6⟩ | ⟨a1, a2, X, n', a3, a4, a5, a6, a7, a8, a9⟩ | ⟨a1, a2, v, E, T, M, X, N, b1, b2, b3, b4, b5, b6, b7, b8⟩ | ⟨K, Cc, a1, a2, a3, a4, v, E, T, M, G, W, b1, b2, b3, b4, b5, b6, b7, b8⟩
      · exact Or.inl ⟨a1, a2, (a3.ax A (by omega) (by omega) (Nat.le_refl _) ht (Nat.le_refl _) (Nat.le_refl _) (hT t0 m0 (Nat.le_refl _) ht (Nat.le_refl _) (by omega))).up hp hs⟩
      · exact Or.inr (Or.inl ⟨a1, a2, hS t0 m0 (Nat.le_refl _) ht (Nat.le_refl _) (by omega) a3, a4.ax A (by omega) (by omega), n', a5, go _ _ _ _ _ _ _ _ _ _ a6 (by omega) (by omega) (by omega) (by omega) (by omega) (by omega) (by omega)⟩)
      · have q := a9.at
        exact Or.inr (Or.inr (Or.inl ⟨a1, a2, X, n', a3, a4, a5, a6, a7, by rw [(R 960 n' (by decide) (by decide) (by omega) (by omega) (by omega)).1]; exact a8, go _ _ _ _ _ _ _ _ _ _ a9 (by omega) (by omega) (by omega) (by omega) (by omega) (by omega) (by omega)⟩))
      · refine Or.inr (Or.inr (Or.inr (Or.inl ⟨a1, a2, v, E, T, M, X, N, b1, b2, b3, b4, b5.ax A (Nat.le_refl _) ht (fun j hj => ?_), b6.ax A (Nat.le_refl _) (by omega) (fun j hj => ?_), b7, fun j hj => ?_⟩)))
        · have := b3.in hj
          have := (b8 j hj).2.1
          omega
        · have := b4.in hj
          have := (b8 j hj).2.2.1
          omega
        · obtain ⟨y1, y2, y3, y4, y5, y6, y7, y8, y9, y10, y11, y12⟩ := b8 j hj
          have q := y12.at
          have := b2.in hj
          have := b3.in hj
          have := b4.in hj
          refine ⟨y1, y2, y3, ?_, ?_, ?_, ?_, ?_, ?_, ?_, ?_, go _ _ _ _ _ _ _ _ _ _ y12 (by omega) (by omega) (by omega) (by omega) (by omega) (by omega) (by omega)⟩
          · rw [C 354 (T j) (by decide) (by decide) (by omega) (by omega) (by omega)]; exact y4
          · rw [C 357 (T j) (by decide) (by decide) (by omega) (by omega) (by omega)]; exact y5
          · rw [C 358 (T j) (by decide) (by decide) (by omega) (by omega) (by omega)]; exact y6
          · rw [C 355 (T j) (by decide) (by decide) (by omega) (by omega) (by omega)]; exact y7
          · rw [(R 955 (M j) (by decide) (by decide) (by omega) (by omega) (by omega)).1]; exact y8
          · rw [(R 957 (M j) (by decide) (by decide) (by omega) (by omega) (by omega)).2]; exact y9
          · rw [(R 959 (M j) (by decide) (by decide) (by omega) (by omega) (by omega)).1]; exact y10
          · rw [(R 960 (N j) (by decide) (by decide) (by omega) (by omega) (by omega)).1]; exact y11
      · refine Or.inr (Or.inr (Or.inr (Or.inr ⟨K, Cc, a1, a2, a3, a4, v, E, T, M, G, W, b1, b2, b3, b4, b5, b6.ax A (Nat.le_refl _) ht (fun j hj => ?_), b7.ax A (Nat.le_refl _) (by omega) (fun j hj => ?_), fun j hj => ?_⟩)))
        · have := b4.in hj
          have q := (b8 j hj).2
          cases f with
          | zero => exact q.elim
          | succ f =>
            have : T j < T (j + 1) := by
              obtain ⟨_, _, _, _, z⟩ := q
              rcases z with z | z | z
              · rcases (b8 j hj).1 with w | w <;> omega
              · exact z.2.1
              · exact z.2.1
            omega
        · have := b5.in hj
          have q := (b8 j hj).2.at
          omega
        · have := b3.in hj
          have := b4.in hj
          have := b5.in hj
          exact ⟨(b8 j hj).1, go _ _ _ _ _ _ _ _ _ _ (b8 j hj).2 (by omega) (by omega) (by omega) (by omega) (by omega) (by omega) (by omega)⟩
    · refine Or.inr (Or.inr ⟨hfl, ht, a1, ?_, ?_, ?_, ?_, ?_, ?_, v, E, T, M, G, b1, b2, b3, b4, b5, b6.ax A (Nat.le_refl _) ht (fun j hj => ?_), b7.ax A h3 h4 (fun j hj => ?_), fun j hj => ?_⟩)
      · rw [k5]; exact a2
      · rw [k1]; exact a3
      · rw [C 354 t0 (by decide) (by decide) (by omega) (by omega) (by omega)]; exact a4
      · rw [C 358 t0 (by decide) (by decide) (by omega) (by omega) (by omega)]; exact a5
      · rw [C 359 t0 (by decide) (by decide) (by omega) (by omega) (by omega)]; exact a6
      · rw [C 360 t0 (by decide) (by decide) (by omega) (by omega) (by omega)]; exact a7
      · have := b4.in hj
        have q := b8 j hj
        cases f with
        | zero => exact q.elim
        | succ f =>
          have : T j < T (j + 1) := by
            obtain ⟨_, _, _, _, z⟩ := q
            rcases z with z | z | z
            · omega
            · exact z.2.1
            · exact z.2.1
          omega
      · have := b5.in hj
        have q := (b8 j hj).at
        omega
      · have := b3.in hj
        have := b4.in hj
        have := b5.in hj
        exact go _ _ _ _ _ _ _ _ _ _ (b8 j hj) (by omega) (by omega) (by omega) (by omega) (by omega) (by omega) (by omega)
