/-! Level 2: exps and templs stay what they are, but for names that are settled. -/
/-- what may change of an exp or templ: words' operations, names' nodes -/
def sx_A (p1 s1 : Nat) (c r c' r' : t_S) (e0 e1 t0 t1 m0 m1 : Nat) : Prop :=
  (∀ j, e0 ≤ j → j < e1 → c.1 335 j ≠ 2 → c.1 335 j ≠ 3 → c.1 335 j ≠ 4 → c'.1 335 j = c.1 335 j ∧ (c.1 335 j ≠ 8 → c'.1 336 j = c.1 336 j)) ∧
  (∀ b j, 354 ≤ b → b ≤ 360 → t0 ≤ j → j < t1 → ((b ≠ 354 ∧ b ≠ 357) ∨ (c.1 354 j ≠ 6 ∧ c.1 354 j ≠ 17)) → c'.1 b j = c.1 b j) ∧
  (∀ j, t0 ≤ j → j < t1 → c.1 354 j = 3 → c'.2.1 361 j = c.2.1 361 j ∧ c'.2.1 362 j = c.2.1 362 j) ∧
  (∀ j, j < p1 → c'.2.1 337 j = c.2.1 337 j) ∧
  (∀ b j, 955 ≤ b → b ≤ 961 → m0 ≤ j → j < m1 → r'.1 b j = r.1 b j ∧ r'.2.1 b j = r.2.1 b j) ∧
  ∀ j, j < s1 → r'.1 963 j = r.1 963 j
section
variable {p1 s1 : Nat} {c r c' r' : t_S} {e0 e1 t0 t1 m0 m1 : Nat}
theorem sx_A.sub {a0 a1 b0 b1 d0 d1 : Nat} (h : sx_A p1 s1 c r c' r' e0 e1 t0 t1 m0 m1) (h1 : e0 ≤ a0) (h2 : a1 ≤ e1) (h3 : t0 ≤ b0) (h4 : b1 ≤ t1) (h5 : m0 ≤ d0) (h6 : d1 ≤ m1) : sx_A p1 s1 c r c' r' a0 a1 b0 b1 d0 d1 := by
  obtain ⟨x1, x2, x3, x4, x5, x6⟩ := h
  exact ⟨fun j a b => x1 j (by omega) (by omega), fun b j a d g i => x2 b j a d (by omega) (by omega), fun j a b => x3 j (by omega) (by omega), x4, fun b j a d g i => x5 b j a d (by omega) (by omega), x6⟩
theorem px_no {x o : Nat} (h : px_two x o ∨ px_log x o) : o ≠ 2 ∧ o ≠ 3 ∧ o ≠ 4 ∧ o ≠ 8 ∧ o < 100 := by
  unfold px_two px_log at h
  omega
theorem px_o.sx {i o : Nat} {a : Int32} (h : px_o c i o a) (A : sx_A p1 s1 c r c' r' e0 e1 t0 t1 m0 m1) (h1 : e0 ≤ i) (h2 : i < e1) (ho : o ≠ 2 ∧ o ≠ 3 ∧ o ≠ 4 ∧ o ≠ 8 ∧ o < 100) : px_o c' i o a := by
  have ne : ∀ k : Nat, k < 100 → o ≠ k → c.1 335 i ≠ nI k := fun k hk n y => n ((nI_eq (by omega) (by omega)).mp (h.1.symm.trans y))
  obtain ⟨y1, y2⟩ := A.1 i h1 h2 (ne 2 (by decide) ho.1) (ne 3 (by decide) ho.2.1) (ne 4 (by decide) ho.2.2.1)
  exact ⟨y1.trans h.1, (y2 (ne 8 (by decide) ho.2.2.2.1)).trans h.2⟩
theorem px_T.sx {p n : Nat} (h : px_T c r p1 s1 p n) (A : sx_A p1 s1 c r c' r' e0 e1 t0 t1 m0 m1) (h1 : m0 ≤ n) (h2 : n < m1) : px_T c' r' p1 s1 p n := by
  obtain ⟨_, _, _, x4, x5, x6⟩ := A
  obtain ⟨v, s0, B, a1, a2, a3, a4, a5, a6, a7, a8⟩ := h
  refine ⟨v, s0, B, a1, by rw [(x5 957 n (by decide) (by decide) h1 h2).2]; exact a2, by rw [(x5 958 n (by decide) (by decide) h1 h2).2]; exact a3, a4, a5, fun j hj => ?_, by rw [x4 p (by omega)]; exact a7, fun q hq => ?_⟩
  · rw [x6 _ (by omega)]
    exact a6 j hj
  · rw [x4 _ (by omega)]
    exact a8 q hq
theorem tc_R.sx {v t : Nat} {F : Nat → Nat} (h : tc_R c t v F) (A : sx_A p1 s1 c r c' r' e0 e1 t0 t1 m0 m1) (h1 : t0 ≤ t) (h2 : t < t1) (h3 : ∀ j, j < v → t < F j ∧ F j < t1) : tc_R c' t v F := by
  obtain ⟨_, x2, _⟩ := A
  refine ⟨by rw [x2 355 t (by decide) (by decide) h1 h2 (by omega)]; exact h.1, fun j hj => ?_⟩
  have := h3 j hj
  rw [x2 356 _ (by decide) (by decide) (by omega) this.2 (by omega)]
  exact h.2 j hj
theorem ch_R.sx {v n : Nat} {G : Nat → Nat} (h : ch_R r n v G) (A : sx_A p1 s1 c r c' r' e0 e1 t0 t1 m0 m1) (h1 : m0 ≤ n) (h2 : n < m1) (h3 : ∀ j, j < v → G j < m1 ∧ (G j ≠ n ∨ True)) : ch_R r' n v G := by
  obtain ⟨_, _, _, _, x5, _⟩ := A
  refine ⟨by rw [(x5 959 n (by decide) (by decide) h1 h2).1]; exact h.1, fun j hj => ?_⟩
  obtain ⟨y1, y2, y3, y4⟩ := h.2 j hj
  have := h3 j hj
  rw [(x5 960 (G j) (by decide) (by decide) (by omega) this.1).1]
  exact ⟨y1, y2, y3, y4⟩
theorem px_leaf.sx {WN AN WN' AN' : Nat → Nat → Prop} {e n : Nat} (h : px_leaf WN AN c r p1 s1 e n) (A : sx_A p1 s1 c r c' r' e0 e1 t0 t1 m0 m1) (h1 : m0 ≤ n) (h2 : n < m1) (h3 : e0 ≤ e) (h4 : e < e1) (hW : WN e n → WN' e n) (hA : AN e n → AN' e n) : px_leaf WN' AN' c' r' p1 s1 e n := by
  have A' := A
  obtain ⟨x1, _, _, x4, x5, _⟩ := A
  have k : r'.1 955 n = r.1 955 n := (x5 955 n (by decide) (by decide) h1 h2).1
  have k7 : r'.2.1 957 n = r.2.1 957 n := (x5 957 n (by decide) (by decide) h1 h2).2
  unfold px_leaf at *
  rw [k, k7]
  rcases h with ⟨a, p, v, b1, b2, b3, b4, b5⟩ | ⟨a, p, b1, b2, b3⟩ | ⟨a, p, b1, b2⟩ | ⟨a, p, b1, b2, b3⟩ | ⟨K, a1, a2, a3, a4⟩ | ⟨a, b⟩ | ⟨a, b, d⟩
  · exact Or.inl ⟨a, p, v, b1, b2, b3.sx A' h3 h4 (by omega), b4, by rw [x4 p b1]; exact b5⟩
  · exact Or.inr (Or.inl ⟨a, p, b1, b2.sx A' h3 h4 (by omega), by rw [x4 p b1]; exact b3⟩)
  · exact Or.inr (Or.inr (Or.inl ⟨a, p, b1.sx A' h3 h4 (by omega), b2.sx A' h1 h2⟩))
  · exact Or.inr (Or.inr (Or.inr (Or.inl ⟨a, p, b1, b2.sx A' h3 h4 (by omega), by rw [x4 p b1]; exact b3⟩)))
  · exact Or.inr (Or.inr (Or.inr (Or.inr (Or.inl ⟨K, a1, a2, a3, a4.sx A' h3 h4 (by omega)⟩))))
  · exact Or.inr (Or.inr (Or.inr (Or.inr (Or.inr (Or.inl ⟨a, hW b⟩)))))
  · exact Or.inr (Or.inr (Or.inr (Or.inr (Or.inr (Or.inr ⟨a, (x1 e h3 h4 (by rw [b]; decide) (by rw [b]; decide) (by rw [b]; decide)).1.trans b, hA d⟩)))))
theorem px_tone.sx {TN TN' : Nat → Nat → Prop} {a0 a1 t n : Nat} (h : px_tone TN c r p1 s1 a0 a1 t n) (A : sx_A p1 s1 c r c' r' e0 e1 t0 t1 m0 m1) (h1 : m0 ≤ n) (h2 : n < m1) (h3 : t0 ≤ t) (h4 : t < t1) (h5 : e0 ≤ a0) (h6 : a1 ≤ e1) (hT : TN t n → TN' t n) : px_tone TN' c' r' p1 s1 a0 a1 t n := by
  have A' := A
  obtain ⟨x1, x2, x3, x4, x5, _⟩ := A
  have k : r'.1 955 n = r.1 955 n := (x5 955 n (by decide) (by decide) h1 h2).1
  have k7 : r'.2.1 957 n = r.2.1 957 n := (x5 957 n (by decide) (by decide) h1 h2).2
  have k8 : r'.2.1 958 n = r.2.1 958 n := (x5 958 n (by decide) (by decide) h1 h2).2
  have k9 : r'.1 959 n = r.1 959 n := (x5 959 n (by decide) (by decide) h1 h2).1
  have q : c.1 354 t ≠ 6 ∧ c.1 354 t ≠ 17 → c'.1 354 t = c.1 354 t ∧ c'.1 357 t = c.1 357 t := fun y => ⟨x2 354 t (by decide) (by decide) h3 h4 (Or.inr y), x2 357 t (by decide) (by decide) h3 h4 (Or.inr y)⟩
  unfold px_tone at *
  rw [k, k7, k8, k9]
  rcases h with ⟨a, a9, h⟩ | ⟨a, b, d, g⟩
  · refine Or.inl ⟨a, a9, ?_⟩
    rcases h with ⟨z, h⟩ | ⟨z, h⟩ | ⟨z, h⟩ | ⟨b1, b2, b3, b4⟩ | ⟨b1, b2, p, b3, b4, b5⟩ | ⟨b1, p, b2, b3⟩
    · exact Or.inl ⟨z, (q (by rw [h]; decide)).1.trans h⟩
    · exact Or.inr (Or.inl ⟨z, (q (by rw [h]; decide)).1.trans h⟩)
    · exact Or.inr (Or.inr (Or.inl ⟨z, (q (by rw [h]; decide)).1.trans h⟩))
    · exact Or.inr (Or.inr (Or.inr (Or.inl ⟨b1, (q (by rw [b2]; decide)).1.trans b2, by rw [(x3 t h3 h4 b2).1]; exact b3, by rw [(x3 t h3 h4 b2).2]; exact b4⟩)))
    · exact Or.inr (Or.inr (Or.inr (Or.inr (Or.inl ⟨b1, (q (by rw [b2]; decide)).1.trans b2, p, b3, (q (by rw [b2]; decide)).2.trans b4, by rw [x4 p b3]; exact b5⟩))))
    · rcases b1 with ⟨z, b1⟩ | ⟨z, b1⟩
      · exact Or.inr (Or.inr (Or.inr (Or.inr (Or.inr ⟨Or.inl ⟨z, (q (by rw [b1]; decide)).1.trans b1⟩, p, (q (by rw [b1]; decide)).2.trans b2, b3.sx A' h1 h2⟩))))
      · exact Or.inr (Or.inr (Or.inr (Or.inr (Or.inr ⟨Or.inr ⟨z, (q (by rw [b1]; decide)).1.trans b1⟩, p, (q (by rw [b1]; decide)).2.trans b2, b3.sx A' h1 h2⟩))))
  · exact Or.inr ⟨a, b, d.sx A' (by omega) (by omega) (by omega), hT g⟩
end
theorem XR.sx {WN AN TN WN' AN' TN' : Nat → Nat → Prop} {SN SN' : Nat → Nat → Prop} {c r c' r' : t_S} {p1 s1 : Nat} : ∀ f fl lv rr e0 e1 t0 t1 m0 m1 n, XR WN AN TN SN c r p1 s1 f fl lv rr e0 e1 t0 t1 m0 m1 n → sx_A p1 s1 c r c' r' e0 e1 t0 t1 m0 m1 → (∀ i k, e0 ≤ i → i < e1 → m0 ≤ k → k < m1 → WN i k → WN' i k) → (∀ i k, e0 ≤ i → i < e1 → m0 ≤ k → k < m1 → AN i k → AN' i k) → (∀ t k, t0 ≤ t → t < t1 → m0 ≤ k → k < m1 → TN t k → TN' t k) → (∀ t k, t0 ≤ t → t < t1 → m0 ≤ k → k < m1 → SN t k → SN' t k) → ∀ f2, f ≤ f2 → XR WN' AN' TN' SN' c' r' p1 s1 f2 fl lv rr e0 e1 t0 t1 m0 m1 n := by
  intro f
  induction f with
  | zero => intro fl lv rr e0 e1 t0 t1 m0 m1 n h; exact h.elim
  | succ f ih =>
    intro fl lv rr e0 e1 t0 t1 m0 m1 n h A hW hA hT hS f2 hf
    obtain ⟨f2, rfl⟩ : ∃ g, f2 = g + 1 := ⟨f2 - 1, by omega⟩
    obtain ⟨h1, h2, h3, h4, h⟩ := h
    have R : ∀ b j, 955 ≤ b → b ≤ 961 → m0 ≤ j → j < m1 → True → r'.1 b j = r.1 b j ∧ r'.2.1 b j = r.2.1 b j := fun b j a d g i _ => A.2.2.2.2.1 b j a d g i
    have C : ∀ b j, 354 ≤ b → b ≤ 360 → t0 ≤ j → j < t1 → ((b ≠ 354 ∧ b ≠ 357) ∨ (c.1 354 j ≠ 6 ∧ c.1 354 j ≠ 17)) → c'.1 b j = c.1 b j := A.2.1
    have go : ∀ fl lv rg a0 a1 b0 b1 d0 d1 n', XR WN AN TN SN c r p1 s1 f fl lv rg a0 a1 b0 b1 d0 d1 n' → e0 ≤ a0 → a1 ≤ e1 → t0 ≤ b0 → b1 ≤ t1 → m0 ≤ d0 → d1 ≤ m1 → (n < d0 ∨ d1 ≤ n) → XR WN' AN' TN' SN' c' r' p1 s1 f2 fl lv rg a0 a1 b0 b1 d0 d1 n' := fun fl lv rg a0 a1 b0 b1 d0 d1 n' q i1 i2 i3 i4 i5 i6 i7 => ih fl lv rg a0 a1 b0 b1 d0 d1 n' q (A.sub i1 i2 i3 i4 i5 i6) (fun i k u1 u2 u3 u4 => hW i k (by omega) (by omega) (by omega) (by omega)) (fun i k u1 u2 u3 u4 => hA i k (by omega) (by omega) (by omega) (by omega)) (fun i k u1 u2 u3 u4 => hT i k (by omega) (by omega) (by omega) (by omega)) (fun t k u1 u2 u3 u4 => hS t k (by omega) (by omega) (by omega) (by omega)) f2 (by omega)
    have k5 : r'.1 955 n = r.1 955 n := (R 955 n (by decide) (by decide) h3 h4 trivial).1
    have k7 : r'.2.1 957 n = r.2.1 957 n := (R 957 n (by decide) (by decide) h3 h4 trivial).2
    have k8 : r'.2.1 958 n = r.2.1 958 n := (R 958 n (by decide) (by decide) h3 h4 trivial).2
    have k9 : r'.1 959 n = r.1 959 n := (R 959 n (by decide) (by decide) h3 h4 trivial).1
    have k1 : r'.1 961 n = r.1 961 n := (R 961 n (by decide) (by decide) h3 h4 trivial).1
    refine ⟨h1, h2, h3, h4, ?_⟩
    rcases h with ⟨hfl, h⟩ | ⟨hfl, ht, mE, g1, g2, g3, h⟩ | ⟨hfl, ht, a1, a2, a3, a4, a5, a6, a7, v, E, T, M, G, b1, b2, b3, b4, b5, b6, b7, b8⟩
    · refine Or.inl ⟨hfl, ?_⟩
      rw [k5, k7, k9]
      rcases h with ⟨a1, a2, a3, a4, a5⟩ | ⟨a1, a2, n', a3, a4⟩ | ⟨a1, a2, K, o, a, n', a3, a4, a5, a6, a7⟩ | ⟨a1, a2, a3, X, n', a4, a5, a6, a7, a8⟩ | ⟨a1, ea, ta, a, b, a2, a3, a4, a5, h⟩ | ⟨a1, a2, a3, v, E, T, M, G, b1, b2, b3, b4, b5, b6, b7⟩ | ⟨a1, a2, v, E, T, M, X, N, b1, b2, b3, b4, b5, b6, b7, b8, b9⟩ | ⟨a1, a2, a3, ea, ta, ma, a, b, b1, b2, b3, b4, b5, b6, b7, b8⟩
      · exact Or.inl ⟨a1, a2, a3, a4, a5.sx A h3 h4 (Nat.le_refl _) (by omega) (hW e0 n (by omega) (by omega) h3 h4) (hA e0 n (by omega) (by omega) h3 h4)⟩
      · exact Or.inr (Or.inl ⟨a1, a2, n', a3, go _ _ _ _ _ _ _ _ _ _ a4 (by omega) (by omega) (by omega) (by omega) (by omega) (by omega) (by omega)⟩)
      · have ok : o ≠ 2 ∧ o ≠ 3 ∧ o ≠ 4 ∧ o ≠ 8 ∧ o < 100 := by
          rcases a3 with y | y | y
          · omega
          · omega
          · have := y.2.1
            omega
        exact Or.inr (Or.inr (Or.inl ⟨a1, a2, K, o, a, n', a3, a4, a5.sx A (by omega) (by omega) ok, a6, go _ _ _ _ _ _ _ _ _ _ a7 (by omega) (by omega) (by omega) (by omega) (by omega) (by omega) (by omega)⟩))
      · exact Or.inr (Or.inr (Or.inr (Or.inl ⟨a1, a2, a3, X, n', a4, a5, a6.sx A (by omega) (by omega) (by omega), a7, go _ _ _ _ _ _ _ _ _ _ a8 (by omega) (by omega) (by omega) (by omega) (by omega) (by omega) (by omega)⟩)))
      · have q := a5.at
        have qb : r'.1 960 a = r.1 960 a := (R 960 a (by decide) (by decide) (by omega) (by omega) trivial).1
        refine Or.inr (Or.inr (Or.inr (Or.inr (Or.inl ⟨a1, ea, ta, a, b, a2, a3, by rw [qb]; exact a4, ?_⟩))))
        have ht : ∀ {rg x y}, XR WN AN TN SN c r p1 s1 f 0 lv rg x y ta t1 (n + 1) m1 b → ta ≤ t1 := fun z => z.at.2.1
        rcases h with ⟨b1, b2, b3⟩ | ⟨b1, x, o, b2, b3, b4, b5⟩ | ⟨b1, x, o, b2, b3, b4, b5, b6⟩
        · have := ht b3
          exact ⟨go _ _ _ _ _ _ _ _ _ _ a5 (by omega) (by omega) (by omega) (by omega) (by omega) (by omega) (by omega), Or.inl ⟨b1, b2.sx A (by omega) (by omega) (by omega), go _ _ _ _ _ _ _ _ _ _ b3 (by omega) (by omega) (by omega) (by omega) (by omega) (by omega) (by omega)⟩⟩
        · have := ht b5
          exact ⟨go _ _ _ _ _ _ _ _ _ _ a5 (by omega) (by omega) (by omega) (by omega) (by omega) (by omega) (by omega), Or.inr (Or.inl ⟨b1, x, o, b2, b3, b4.sx A (by omega) (by omega) (px_no (by first | exact Or.inl b2 | exact Or.inr b2)), go _ _ _ _ _ _ _ _ _ _ b5 (by omega) (by omega) (by omega) (by omega) (by omega) (by omega) (by omega)⟩)⟩
        · have := ht b6
          exact ⟨go _ _ _ _ _ _ _ _ _ _ a5 (by omega) (by omega) (by omega) (by omega) (by omega) (by omega) (by omega), Or.inr (Or.inr ⟨b1, x, o, b2, b3, b4.sx A (by omega) (by omega) (px_no (by first | exact Or.inl b2 | exact Or.inr b2)), b5.sx A (by omega) (by omega) (by omega), go _ _ _ _ _ _ _ _ _ _ b6 (by omega) (by omega) (by omega) (by omega) (by omega) (by omega) (by omega)⟩)⟩
      · refine Or.inr (Or.inr (Or.inr (Or.inr (Or.inr (Or.inl ⟨a1, a2, a3, v, E, T, M, G, b1, b2, b3, b4, b5.sx A (by omega) (by omega) (by omega), b6.sx A h3 h4 (fun j hj => ?_), fun j hj => ?_⟩)))))
        · have q := (b7 j hj).at
          have := b4.in hj
          omega
        · have := b2.in hj
          have := b3.in hj
          have := b4.in hj
          exact go _ _ _ _ _ _ _ _ _ _ (b7 j hj) (by omega) (by omega) (by omega) (by omega) (by omega) (by omega) (by omega)
      · refine Or.inr (Or.inr (Or.inr (Or.inr (Or.inr (Or.inr (Or.inl ⟨a1, a2, v, E, T, M, X, N, b1, b2, b3, b4, b5, b6.sx A (by omega) (by omega) (by omega), b7.sx A h3 h4 (fun j hj => ?_), b8, fun j hj => ?_⟩))))))
        · have := b5.in hj
          have := (b9 j hj).2.2.1
          omega
        · obtain ⟨y1, y2, y3, y4, y5, y6, y7⟩ := b9 j hj
          have := b3.in hj
          have := b4.in hj
          have := b5.in hj
          refine ⟨y1, y2.sx A (by omega) (by omega) (by omega), y3, ?_, ?_, ?_, go _ _ _ _ _ _ _ _ _ _ y7 (by omega) (by omega) (by omega) (by omega) (by omega) (by omega) (by omega)⟩
          · rw [(R 955 (M j) (by decide) (by decide) (by omega) (by omega) trivial).1]; exact y4
          · rw [(R 957 (M j) (by decide) (by decide) (by omega) (by omega) trivial).2]; exact y5
          · rw [(R 959 (M j) (by decide) (by decide) (by omega) (by omega) trivial).1]; exact y6
      · have q := b7.at
        have q2 := b8.at
        refine Or.inr (Or.inr (Or.inr (Or.inr (Or.inr (Or.inr (Or.inr ⟨a1, a2, a3, ea, ta, ma, a, b, b1, b2, b3, b4, ?_, b6.sx A (by omega) (by omega) (by omega), go _ _ _ _ _ _ _ _ _ _ b7 (by omega) (by omega) (by omega) (by omega) (by omega) (by omega) (by omega), go _ _ _ _ _ _ _ _ _ _ b8 (by omega) (by omega) (by omega) (by omega) (by omega) (by omega) (by omega)⟩))))))
        rw [(R 960 a (by decide) (by decide) (by omega) (by omega) trivial).1]; exact b5
    · have j5 : r'.1 955 m0 = r.1 955 m0 := (R 955 m0 (by decide) (by decide) (by omega) (by omega) trivial).1
      have j7 : r'.2.1 957 m0 = r.2.1 957 m0 := (R 957 m0 (by decide) (by decide) (by omega) (by omega) trivial).2
      have j9 : r'.1 959 m0 = r.1 959 m0 := (R 959 m0 (by decide) (by decide) (by omega) (by omega) trivial).1
      have j1 : r'.1 961 m0 = r.1 961 m0 := (R 961 m0 (by decide) (by decide) (by omega) (by omega) trivial).1
      have q5 : c'.1 355 t0 = c.1 355 t0 := C 355 t0 (by decide) (by decide) (by omega) (by omega) (by omega)
      have q47 : c.1 354 t0 ≠ 6 ∧ c.1 354 t0 ≠ 17 → c'.1 354 t0 = c.1 354 t0 ∧ c'.1 357 t0 = c.1 357 t0 := fun y => ⟨C 354 t0 (by decide) (by decide) (by omega) (by omega) (Or.inr y), C 357 t0 (by decide) (by decide) (by omega) (by omega) (Or.inr y)⟩
      have nE : n = m0 ∨ n = mE := by
        obtain ⟨_, _, _, _, _, z | z⟩ := g3
        · exact Or.inl z.2.1
        · exact Or.inr z.1
      refine Or.inr (Or.inl ⟨hfl, ht, mE, g1, g2, ?_, ?_⟩)
      · obtain ⟨w1, b, w2, w3, w4, w5⟩ := g3
        unfold px_wrap
        rw [C 358 t0 (by decide) (by decide) (by omega) (by omega) (by omega), C 359 t0 (by decide) (by decide) (by omega) (by omega) (by omega), C 360 t0 (by decide) (by decide) (by omega) (by omega) (by omega), k5, k7, k8, k9, k1, j1]
        refine ⟨w1, b, w2, w3, w4, ?_⟩
        rcases w5 with w5 | ⟨z1, z2, z3, z4, z5, z6, z7⟩
        · exact Or.inl w5
        · exact Or.inr ⟨z1, z2, z3, z4, z5, by rw [(R 960 m0 (by decide) (by decide) (Nat.le_refl _) (by omega) trivial).1]; exact z6, z7⟩
      rw [j5, j7, j9, q5]
      rcases h with ⟨a1, a2, a3⟩ | ⟨a1, a2, a3, a4, n', a5, a6⟩ | ⟨a1, a2, X, n', a3, a4, a5, a6, a7, a8, a9⟩ | ⟨a1, a2, v, E, T, M, X, N, b1, b2, b3, b4, b5, b6, b7, b8⟩ | ⟨K, Cc, a1, a2, a3, a4, v, E, T, M, G, W, b1, b2, b3, b4, b5, b6, b7, b8⟩
      · exact Or.inl ⟨a1, a2, a3.sx A (by omega) (by omega) (Nat.le_refl _) ht (Nat.le_refl _) (Nat.le_refl _) (hT t0 m0 (Nat.le_refl _) ht (Nat.le_refl _) (by omega))⟩
      · exact Or.inr (Or.inl ⟨a1, a2, hS t0 m0 (Nat.le_refl _) ht (Nat.le_refl _) (by omega) a3, a4.sx A (by omega) (by omega) (by omega), n', a5, go _ _ _ _ _ _ _ _ _ _ a6 (by omega) (by omega) (by omega) (by omega) (by omega) (by omega) (by omega)⟩)
      · have q := a9.at
        obtain ⟨q4, q7⟩ := q47 (by rw [a2]; decide)
        rw [q4, q7]
        exact Or.inr (Or.inr (Or.inl ⟨a1, a2, X, n', a3, a4, a5, a6, a7, by rw [(R 960 n' (by decide) (by decide) (by omega) (by omega) trivial).1]; exact a8, go _ _ _ _ _ _ _ _ _ _ a9 (by omega) (by omega) (by omega) (by omega) (by omega) (by omega) (by omega)⟩))
      · obtain ⟨q4, q7⟩ := q47 (by rw [a2]; decide)
        rw [q4]
        refine Or.inr (Or.inr (Or.inr (Or.inl ⟨a1, a2, v, E, T, M, X, N, b1, b2, b3, b4, b5.sx A (Nat.le_refl _) ht (fun j hj => ?_), b6.sx A (Nat.le_refl _) (by omega) (fun j hj => ?_), b7, fun j hj => ?_⟩)))
        · have := b3.in hj
          have := (b8 j hj).2.1
          omega
        · have := b4.in hj
          have := (b8 j hj).2.2.1
          omega
        · obtain ⟨y1, y2, y3, y4, y5, y6, y7, y8, y9, y10, y11, y12⟩ := b8 j hj
          have q := y12.at
          have := b2.in hj
          have := b3.in hj
          have := b4.in hj
          refine ⟨y1, y2, y3, ?_, ?_, ?_, ?_, ?_, ?_, ?_, ?_, go _ _ _ _ _ _ _ _ _ _ y12 (by omega) (by omega) (by omega) (by omega) (by omega) (by omega) (by omega)⟩
          · rw [C 354 (T j) (by decide) (by decide) (by omega) (by omega) (Or.inr (by rw [y4]; decide))]; exact y4
          · rw [C 357 (T j) (by decide) (by decide) (by omega) (by omega) (Or.inr (by rw [y4]; decide))]; exact y5
          · rw [C 358 (T j) (by decide) (by decide) (by omega) (by omega) (by omega)]; exact y6
          · rw [C 355 (T j) (by decide) (by decide) (by omega) (by omega) (by omega)]; exact y7
          · rw [(R 955 (M j) (by decide) (by decide) (by omega) (by omega) trivial).1]; exact y8
          · rw [(R 957 (M j) (by decide) (by decide) (by omega) (by omega) trivial).2]; exact y9
          · rw [(R 959 (M j) (by decide) (by decide) (by omega) (by omega) trivial).1]; exact y10
          · rw [(R 960 (N j) (by decide) (by decide) (by omega) (by omega) trivial).1]; exact y11
      · obtain ⟨q4, q7⟩ := q47 (by rw [a4]; exact ⟨fun y => by have := (nI_eq (b := 6) (by have := row_KC a1; omega) (by decide)).mp y; have := row_KC a1; omega, fun y => by have := (nI_eq (b := 17) (by have := row_KC a1; omega) (by decide)).mp y; have := row_KC a1; omega⟩)
        rw [q4]
        refine Or.inr (Or.inr (Or.inr (Or.inr ⟨K, Cc, a1, a2, a3, a4, v, E, T, M, G, W, b1, b2, b3, b4, b5, b6.sx A (Nat.le_refl _) ht (fun j hj => ?_), b7.sx A (Nat.le_refl _) (by omega) (fun j hj => ?_), fun j hj => ?_⟩)))
        · have := b4.in hj
          have q := (b8 j hj).2
          cases f with
          | zero => exact q.elim
          | succ f =>
            have : T j < T (j + 1) := by
              obtain ⟨_, _, _, _, z⟩ := q
              rcases z with z | z | z
              · rcases (b8 j hj).1 with w | w <;> omega
              · exact z.2.1
              · exact z.2.1
            omega
        · have := b5.in hj
          have q := (b8 j hj).2.at
          omega
        · have := b3.in hj
          have := b4.in hj
          have := b5.in hj
          exact ⟨(b8 j hj).1, go _ _ _ _ _ _ _ _ _ _ (b8 j hj).2 (by omega) (by omega) (by omega) (by omega) (by omega) (by omega) (by omega)⟩
    · refine Or.inr (Or.inr ⟨hfl, ht, a1, ?_, ?_, ?_, ?_, ?_, ?_, v, E, T, M, G, b1, b2, b3, b4, b5, b6.sx A (Nat.le_refl _) ht (fun j hj => ?_), b7.sx A h3 h4 (fun j hj => ?_), fun j hj => ?_⟩)
      · rw [k5]; exact a2
      · rw [k1]; exact a3
      · rw [C 354 t0 (by decide) (by decide) (by omega) (by omega) (Or.inr (by rw [a4]; decide))]; exact a4
      · rw [C 358 t0 (by decide) (by decide) (by omega) (by omega) (by omega)]; exact a5
      · rw [C 359 t0 (by decide) (by decide) (by omega) (by omega) (by omega)]; exact a6
      · rw [C 360 t0 (by decide) (by decide) (by omega) (by omega) (by omega)]; exact a7
      · have := b4.in hj
        have q := b8 j hj
        cases f with
        | zero => exact q.elim
        | succ f =>
          have : T j < T (j + 1) := by
            obtain ⟨_, _, _, _, z⟩ := q
            rcases z with z | z | z
            · omega
            · exact z.2.1
            · exact z.2.1
          omega
      · have := b5.in hj
        have q := (b8 j hj).at
        omega
      · have := b3.in hj
        have := b4.in hj
        have := b5.in hj
        exact go _ _ _ _ _ _ _ _ _ _ (b8 j hj) (by omega) (by omega) (by omega) (by omega) (by omega) (by omega) (by omega)
