/-! Level 2: told templates are settled by the class: what their operations are. -/
/-- an operation of a told tree: of an exp; a = ( ); a name -/
def tkO (TN SN : Nat → Nat → Prop) (c r : t_S) (t0 t1 m0 m1 i : Nat) : Prop := (∃ o : Nat, 0 < o ∧ o < 34 ∧ c.1 335 i = nI o) ∨ (∃ t m : Nat, (t0 ≤ t ∧ t < t1) ∧ (m0 ≤ m ∧ m < m1) ∧ SN t m ∧ r.1 955 m = 38 ∧ px_o c i 34 (nI t)) ∨ ∃ t m : Nat, (t0 ≤ t ∧ t < t1) ∧ (m0 ≤ m ∧ m < m1) ∧ TN t m ∧ r.1 955 m = 28 ∧ px_o c i 35 (nI t) ∧ ∃ l : Nat, 1 ≤ l ∧ l ≤ 40 ∧ c.1 358 t = nI l
section
variable {WN AN TN : Nat → Nat → Prop} {SN : Nat → Nat → Prop} {c r : t_S} {p1 s1 t0 t1 m0 m1 a b x y i : Nat}
theorem tkO.wide (h : tkO TN SN c r t0 t1 m0 m1 i) (h1 : a ≤ t0) (h2 : t1 ≤ b) (h3 : x ≤ m0) (h4 : m1 ≤ y) : tkO TN SN c r a b x y i := by
  rcases h with h | ⟨t, m, a1, a2, a3⟩ | ⟨t, m, a1, a2, a3⟩
  · exact Or.inl h
  · exact Or.inr (Or.inl ⟨t, m, by omega, by omega, a3⟩)
  · exact Or.inr (Or.inr ⟨t, m, by omega, by omega, a3⟩)
/-- all operations of a told tree -/
theorem XR.tko (hW : ∀ e k, WN e k → ∃ o : Nat, 0 < o ∧ o < 34 ∧ c.1 335 e = nI o) : ∀ f fl l rr e0 e1 t0 t1 m0 m1 n, XR WN AN TN SN c r p1 s1 f fl (nI l) rr e0 e1 t0 t1 m0 m1 n → ((fl = 1 ∧ 10 * l ≤ rr + 10) ∨ (fl = 2 ∧ 10 * l ≤ rr)) → 1 ≤ l → (∀ k, m0 ≤ k → k < m1 → r.1 955 k ≠ 61) → ∀ i, e0 ≤ i → i < e1 → tkO TN SN c r t0 t1 m0 m1 i := by
  intro f
  induction f with
  | zero => intro fl l rr e0 e1 t0 t1 m0 m1 n h; exact h.elim
  | succ f ih =>
    intro fl l rr e0 e1 t0 t1 m0 m1 n h hfl hl nm i i0 i1
    obtain ⟨h1, h2, h3, h4, h⟩ := h
    rcases h with ⟨⟨q, _⟩, _⟩ | ⟨⟨q, q2⟩, ht, mE, g1, g2, hw, h⟩ | ⟨⟨q, q2⟩, ht, rfl, a2, a3, a4, a5, a6, a7, v, E, T, M, G, b1, b2, b3, b4, b5, b6, b7, b8⟩
    · omega
    · rcases h with ⟨a1, a2, a3⟩ | ⟨a1, a2, a3, a4, n', a5, a6⟩ | ⟨a1, a2, X, n', a3, a4, a5, a6, a7, a8, a9⟩ | ⟨a1, a2, v, E, T, M, X, N, b1, b2, b3, b4, b5, b6, b7, b8⟩ | ⟨K, Cc, a1, a2, a3, a4, v, E, T, M, G, W, b1, b2, b3, b4, b5, b6, b7, b8⟩
      · rcases a3 with ⟨z, _⟩ | ⟨z, z2, z3, z4⟩
        · omega
        · obtain rfl : i = e0 := by omega
          exact Or.inr (Or.inr ⟨t0, m0, by omega, by omega, z4, z2, z3, l, hl, by omega, hw.1⟩)
      · by_cases e : i = e1 - 1
        · rw [e]
          exact Or.inr (Or.inl ⟨t0, m0, by omega, by omega, a3, a2, a4⟩)
        · exact Or.inl (XR.opn hW _ _ _ _ _ _ _ _ _ _ a6 (fun k x1 x2 => nm k (by omega) (by omega)) i i0 (by omega))
      · rw [nI_1] at a9
        exact (ih _ _ _ _ _ _ _ _ _ _ a9 (by omega) (by omega) (fun k x1 x2 => nm k (by omega) (by omega)) i i0 i1).wide (by omega) (Nat.le_refl _) (by omega) (by omega)
      · obtain ⟨j, j1, j2, j3⟩ := px_B.find b2 i0 i1
        obtain ⟨x1, x2, x3, x4, x5, x6, x7, x8, x9, x10, x11, x12⟩ := b8 j j1
        have bT := b3.2.2 j j1
        have bM := b4.2.2 j j1
        rw [nI_1] at x12
        exact (ih _ _ _ _ _ _ _ _ _ _ x12 (by omega) (by omega) (fun k z1 z2 => nm k (by omega) (by omega)) i j2 j3).wide (by omega) (by omega) (by omega) (by omega)
      · obtain ⟨j, j1, j2, j3⟩ := px_B.find b3 i0 i1
        obtain ⟨x1, x2⟩ := b8 j j1
        have bT := b4.2.2 j j1
        have bM := b5.2.2 j j1
        rw [nI_1] at x2
        exact (ih _ _ _ _ _ _ _ _ _ _ x2 (by omega) (by omega) (fun k z1 z2 => nm k (by omega) (by omega)) i j2 j3).wide (by omega) (by omega) (by omega) (by omega)
    · obtain ⟨j, j1, j2, j3⟩ := px_B.find b3 i0 i1
      have x2 := b8 j j1
      have bT := b4.2.2 j j1
      have bM := b5.2.2 j j1
      rw [nI_1] at x2
      exact (ih _ _ _ _ _ _ _ _ _ _ x2 (by omega) (by omega) (fun k z1 z2 => nm k (by omega) (by omega)) i j2 j3).wide (by omega) (by omega) (by omega) (by omega)
end
