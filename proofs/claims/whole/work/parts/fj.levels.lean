/-! Level 2: nodes of templs within exps have no level that counts. -/
section
variable {WN AN TN : Nat → Nat → Prop} {SN : Nat → Nat → Prop} {c r : t_S} {p1 s1 tE v a b t : Nat} {E : Nat → Nat}
theorem px_B.find (h : px_B v a b E) (h1 : a ≤ t) (h2 : t < b) : ∃ j, j < v ∧ E j ≤ t ∧ t < E (j + 1) := by
  obtain ⟨e0, ev, _⟩ := h
  have : ∀ w, t < E w → ∃ j, j < w ∧ E j ≤ t ∧ t < E (j + 1) := by
    intro w
    induction w with
    | zero => intro y; omega
    | succ w ih =>
      intro y
      by_cases q : t < E w
      · obtain ⟨j, j1, j2⟩ := ih q
        exact ⟨j, by omega, j2⟩
      · exact ⟨w, by omega, by omega, y⟩
  exact this v (by omega)
theorem XR.root {f fl rr e0 e1 t0 t1 m0 m1 n : Nat} {lv : Int32} (h : XR WN AN TN SN c r p1 s1 f fl lv rr e0 e1 t0 t1 m0 m1 n) (hf : fl = 1 ∨ fl = 2) : t0 < t1 ∧ c.1 358 t0 = lv := by
  cases f with
  | zero => exact h.elim
  | succ f =>
    obtain ⟨_, _, _, _, h⟩ := h
    rcases h with ⟨h0, _⟩ | ⟨_, ht, mE, _, _, hw, _⟩ | ⟨_, ht, _, _, _, _, h8, _⟩
    · rcases hf with y | y
      · exact absurd (h0.1.symm.trans y) (by decide)
      · exact absurd (h0.1.symm.trans y) (by decide)
    · exact ⟨ht, hw.1⟩
    · exact ⟨ht, h8⟩
theorem XR.ord {f fl rr e0 e1 t0 t1 m0 m1 n : Nat} {lv : Int32} (h : XR WN AN TN SN c r p1 s1 f fl lv rr e0 e1 t0 t1 m0 m1 n) : t0 ≤ t1 := by
  cases f with
  | zero => exact h.elim
  | succ f => exact h.2.1
theorem lv_nx {x : Int32} (h : x.toInt ≤ -500) : (x + 1).toInt = x.toInt + 1 := by
  have lo := Int32.le_toInt x
  rw [Int32.toInt_add, show (1 : Int32).toInt = 1 from rfl]
  exact Int.bmod_eq_of_le (by omega) (by omega)
/-- levels: far below, or counted -/
def lvG (c : t_S) (tE : Nat) : Prop := ∀ t, t < tE → (c.1 358 t).toInt ≤ -500 ∨ (1 ≤ (c.1 358 t).toInt ∧ (c.1 358 t).toInt ≤ 40)
theorem XR.neg (hL : lvG c tE) : ∀ (f fl : Nat) (lv : Int32) (rr e0 e1 t0 t1 m0 m1 n : Nat), XR WN AN TN SN c r p1 s1 f fl lv rr e0 e1 t0 t1 m0 m1 n → (fl = 0 ∨ lv.toInt ≤ -500) → t1 ≤ tE → ∀ t, t0 ≤ t → t < t1 → (c.1 358 t).toInt ≤ -500 := by
  intro f
  induction f with
  | zero => intro fl lv rr e0 e1 t0 t1 m0 m1 n h; exact h.elim
  | succ f ih =>
    intro fl lv rr e0 e1 t0 t1 m0 m1 n h hf hE t ha hb
    have up : ∀ {fl' rg e0' e1' u0 u1 m0' m1' n'}, XR WN AN TN SN c r p1 s1 f fl' (lv + 1) rg e0' e1' u0 u1 m0' m1' n' → (fl' = 1 ∨ fl' = 2) → lv.toInt ≤ -500 → u1 ≤ tE → (lv + 1).toInt ≤ -500 := fun hx h12 hl hu => by
      obtain ⟨r1, r2⟩ := hx.root h12
      have q := hL _ (show _ < tE from Nat.lt_of_lt_of_le r1 hu)
      rw [r2] at q
      have := lv_nx hl
      omega
    obtain ⟨_, _, _, _, h⟩ := h
    rcases h with ⟨h0, h⟩ | ⟨h1, ht, mE, _, _, hw, h⟩ | ⟨h2, ht, _, _, _, _, h8, _, _, w, E, T, M, G, _, _, _, hT, _, _, _, hx⟩
    · rcases h with ⟨_, _, y, _⟩ | ⟨_, _, n', _, y⟩ | ⟨_, _, K, o, a', n', _, _, _, _, y⟩ | ⟨_, _, _, X, n', _, _, _, _, y⟩ | ⟨_, ea, ta, a', b', _, _, _, y1, y2⟩ | ⟨_, _, _, w, E, T, M, G, _, _, hT, _, _, _, y⟩ | ⟨_, _, w, E, T, M, X, N, _, _, _, hT, _, _, _, _, y⟩ | ⟨_, _, _, ea, ta, ma, a', b', _, _, _, _, _, _, y1, y2⟩
      · omega
      · exact ih _ _ _ _ _ _ _ _ _ _ y (Or.inl rfl) hE t ha hb
      · exact ih _ _ _ _ _ _ _ _ _ _ y (Or.inl rfl) hE t ha hb
      · exact ih _ _ _ _ _ _ _ _ _ _ y (Or.inl rfl) hE t ha hb
      · have o1 := y1.ord
        have fin : ∀ {rg e0' e1' m0' m1' n'}, XR WN AN TN SN c r p1 s1 f 0 lv rg e0' e1' ta t1 m0' m1' n' → (c.1 358 t).toInt ≤ -500 := fun y => by
          have o2 := y.ord
          by_cases q : t < ta
          · exact ih _ _ _ _ _ _ _ _ _ _ y1 (Or.inl rfl) (by omega) t ha q
          · exact ih _ _ _ _ _ _ _ _ _ _ y (Or.inl rfl) hE t (by omega) hb
        rcases y2 with ⟨_, _, y⟩ | ⟨_, _, _, _, _, _, y⟩ | ⟨_, _, _, _, _, _, _, y⟩
        · exact fin y
        · exact fin y
        · exact fin y
      · obtain ⟨j, j1, j2, j3⟩ := hT.find ha hb
        exact ih _ _ _ _ _ _ _ _ _ _ (y j j1) (Or.inl rfl) (by have := (hT.2.2 j j1).2.1; omega) t j2 j3
      · obtain ⟨j, j1, j2, j3⟩ := hT.find ha hb
        obtain ⟨_, _, _, _, _, _, y⟩ := y j j1
        exact ih _ _ _ _ _ _ _ _ _ _ y (Or.inl rfl) (by have := (hT.2.2 j j1).2.1; omega) t j2 j3
      · have o1 := y1.ord
        have o2 := y2.ord
        by_cases q : t < ta
        · exact ih _ _ _ _ _ _ _ _ _ _ y1 (Or.inl rfl) (by omega) t ha q
        · exact ih _ _ _ _ _ _ _ _ _ _ y2 (Or.inr (by decide)) hE t (by omega) hb
    · have hl : lv.toInt ≤ -500 := hf.resolve_left (by omega)
      by_cases q : t = t0
      · rw [q, hw.1]
        exact hl
      rcases h with ⟨y, _⟩ | ⟨_, _, _, _, n', _, y⟩ | ⟨_, _, X, n', _, _, _, _, _, _, y⟩ | ⟨_, _, w, E, T, M, X, N, _, _, hT, _, _, _, _, y⟩ | ⟨K, C, _, _, _, _, w, E, T, M, G, W, _, _, _, hT, _, _, _, y⟩
      · omega
      · exact ih _ _ _ _ _ _ _ _ _ _ y (Or.inl rfl) hE t (by omega) hb
      · exact ih _ _ _ _ _ _ _ _ _ _ y (Or.inr (up y (Or.inl rfl) hl hE)) hE t (by omega) hb
      · obtain ⟨j, j1, j2, j3⟩ := hT.find (show t0 + 1 ≤ t by omega) hb
        obtain ⟨_, _, _, _, _, y8, _, _, _, _, _, y⟩ := y j j1
        have jb := (hT.2.2 j j1).2.1
        by_cases z : t = T j
        · rw [z, y8]
          decide
        · exact ih _ _ _ _ _ _ _ _ _ _ y (Or.inr (up y (Or.inl rfl) hl (by omega))) (by omega) t (by omega) j3
      · obtain ⟨j, j1, j2, j3⟩ := hT.find (show t0 + 1 ≤ t by omega) hb
        obtain ⟨y1, y⟩ := y j j1
        have jb := (hT.2.2 j j1).2.1
        exact ih _ _ _ _ _ _ _ _ _ _ y (Or.inr (up y (by omega) hl (by omega))) (by omega) t j2 j3
    · have hl : lv.toInt ≤ -500 := hf.resolve_left (by omega)
      by_cases q : t = t0
      · rw [q, h8]
        exact hl
      obtain ⟨j, j1, j2, j3⟩ := hT.find (show t0 + 1 ≤ t by omega) hb
      have jb := (hT.2.2 j j1).2.1
      exact ih _ _ _ _ _ _ _ _ _ _ (hx j j1) (Or.inr (up (hx j j1) (Or.inl rfl) hl (by omega))) (by omega) t j2 j3
end
