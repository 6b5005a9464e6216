/-! Level 2: types' trees of both sides lead on within trees: so their least weights are alike. -/
section
variable {s r : t_S} {a m T : Nat} {NM : Nat → Nat → Prop}
/-- nodes that stand in one tree on both sides -/
def bwT (NM : Nat → Nat → Prop) (s r : t_S) (a m n k : Nat) : Prop := ∃ f a0 a1 m0 m1 g : Nat, TY NM s r f a0 a1 m0 m1 g n k ∧ a1 ≤ a ∧ m1 ≤ m
theorem bwE_of (ha : a ≤ 3000) (hm : m ≤ 13000) (hn : ∀ n k, n < a → k < m → NM n k → ∃ v u : Nat, v < T ∧ s.1 326 (s.1 321 n).toNatClampNeg = s.1 326 v ∧ r.1 965 v = nI u ∧ rlNm r k = u ∧ u < 13000) (hr : ∀ v, v < T → ∃ u u' : Nat, s.1 326 v = nI u ∧ r.1 965 v = nI u' ∧ u' < 13000 ∧ bwT NM s r a m u u') : bwE s r a m (bwT NM s r a m) := by
  rintro n k ⟨f, a0, a1, m0, m1, g, h, l1, l2⟩
  cases f with
  | zero => exact h.elim
  | succ f =>
    obtain ⟨b1, b2, b3, b4, K, e1, e2, hc⟩ := h
    refine ⟨by omega, by omega, K, e1, e2, ?_⟩
    rcases hc with ⟨rfl, _⟩ | rfl | ⟨rfl, lo, hi, _, _, t1, _, t2, _⟩ | ⟨rfl, _⟩ | ⟨hK, v, F, G, X, O, v16, _, q1, q2, q3, _, q4⟩ | ⟨rfl, ⟨lo, hi, _, _, t1, _, t2, _⟩, n', m', q1, q2, _, q3⟩ | ⟨rfl, q⟩
    · exact Or.inl (Or.inl rfl)
    · exact Or.inl (Or.inr (Or.inl rfl))
    · refine Or.inr (Or.inl ⟨rfl, ?_⟩)
      unfold lsLo rlLo
      rw [t1, t2]
    · exact Or.inl (Or.inr (Or.inr rfl))
    · refine Or.inr (Or.inr (Or.inl ⟨hK, v, F, G, q1, v16, q2, q3, fun j hj => ?_⟩))
      obtain ⟨f1, f2, ⟨_, _, _, _, _, o1, o2, o3⟩, _, n', m', c1, c2, _, c3⟩ := q4 j hj
      have at3 := c3.at
      have x1 : (if j + 1 < v then F (j + 1) else a1) ≤ a := by
        split
        · have := (q4 (j + 1) (by assumption)).1
          omega
        · exact l1
      have x2 : (if j + 1 < v then G (j + 1) else m1) ≤ m := by
        split
        · have := (q4 (j + 1) (by assumption)).2.1
          omega
        · exact l2
      refine ⟨?_, n', m', c1, c2, by omega, by omega, f, _, _, _, _, _, c3, x1, x2⟩
      rw [o2, o3]
      have : O j = 0 ∨ O j = 1 := by omega
      rcases this with e | e
      · rw [e]; exact ⟨fun _ => rfl, fun _ => rfl⟩
      · rw [e]; exact ⟨fun y => absurd y (by decide), fun y => absurd y (by decide)⟩
    · have at3 := q3.at
      refine Or.inr (Or.inr (Or.inr (Or.inl ⟨rfl, ?_, n', m', q1, q2, by omega, by omega, f, _, _, _, _, _, q3, l1, l2⟩)))
      unfold lsLo rlLo
      rw [t1, t2]
    · obtain ⟨v, u, v1, v2, v3, v4, v5⟩ := hn n k (by omega) (by omega) q
      obtain ⟨w, w', w1, w2, w3, w4⟩ := hr v v1
      have e : u = w' := (nI_eq (by omega) (by omega)).mp (v3.symm.trans w2)
      subst e
      refine Or.inr (Or.inr (Or.inr (Or.inr ⟨rfl, w, v2.trans w1, ?_, ?_⟩)))
      · obtain ⟨f', b0, b1', d0, d1, g', h', y1, y2⟩ := w4
        have := h'.at
        omega
      · rw [v4]
        exact w4
end
