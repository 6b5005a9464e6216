/-! Level 2: .. seen from behind names' settling. -/
section
variable {s r : t_S} {a m T : Nat} {NM : Nat → Nat → Prop}
/-- the same where cell 321 of names has changed since -/
theorem bwE_fr {c r0 : t_S} (ag : ∀ b j, 317 ≤ b → b ≤ 323 → (b = 321 → c.1 317 j ≠ 8) → s.1 b j = c.1 b j ∧ s.2.1 b j = c.2.1 b j) (ar : ∀ b j, 955 ≤ b → b ≤ 961 → r.1 b j = r0.1 b j ∧ r.2.1 b j = r0.2.1 b j) (ha : a ≤ 3000) (hm : m ≤ 13000) (hn : ∀ n k, n < a → k < m → NM n k → ∃ v u : Nat, v < T ∧ s.1 326 (s.1 321 n).toNatClampNeg = s.1 326 v ∧ r.1 965 v = nI u ∧ rlNm r k = u ∧ u < 13000) (hr : ∀ v, v < T → ∃ u u' : Nat, s.1 326 v = nI u ∧ r.1 965 v = nI u' ∧ u' < 13000 ∧ bwT NM c r0 a m u u') : bwE s r a m (bwT NM c r0 a m) := by
  rintro n k ⟨f, a0, a1, m0, m1, g, h, l1, l2⟩
  cases f with
  | zero => exact h.elim
  | succ f =>
    obtain ⟨b1, b2, b3, b4, K, e1, e2, hc⟩ := h
    refine ⟨by omega, by omega, K, (ag 317 n (by decide) (by decide) (fun y => absurd y (by decide))).1.trans e1, (ar 955 k (by decide) (by decide)).1.trans e2, ?_⟩
    rcases hc with ⟨rfl, _⟩ | rfl | ⟨rfl, lo, hi, _, _, t1, _, t2, _⟩ | ⟨rfl, _⟩ | ⟨hK, v, F, G, X, O, v16, _, q1, q2, q3, _, q4⟩ | ⟨rfl, ⟨lo, hi, _, _, t1, _, t2, _⟩, n', m', q1, q2, _, q3⟩ | ⟨rfl, q⟩
    · exact Or.inl (Or.inl rfl)
    · exact Or.inl (Or.inr (Or.inl rfl))
    · refine Or.inr (Or.inl ⟨rfl, ?_⟩)
      unfold lsLo rlLo
      rw [(ag 322 n (by decide) (by decide) (fun y => absurd y (by decide))).2, (ar 957 k (by decide) (by decide)).2, t1, t2]
    · exact Or.inl (Or.inr (Or.inr rfl))
    · refine Or.inr (Or.inr (Or.inl ⟨hK, v, F, G, (ag 321 n (by decide) (by decide) (fun _ => by rw [e1]; rcases hK with rfl | rfl <;> decide)).1.trans q1, v16, ⟨(ag 318 n (by decide) (by decide) (fun y => absurd y (by decide))).1.trans q2.1, fun j hj => ⟨(q2.2 j hj).1, (q2.2 j hj).2.1, (ag 319 (F j) (by decide) (by decide) (fun y => absurd y (by decide))).1.trans (q2.2 j hj).2.2.1, (q2.2 j hj).2.2.2⟩⟩, ⟨(ar 959 k (by decide) (by decide)).1.trans q3.1, fun j hj => ⟨(q3.2 j hj).1, (q3.2 j hj).2.1, (ar 960 (G j) (by decide) (by decide)).1.trans (q3.2 j hj).2.2.1, (q3.2 j hj).2.2.2⟩⟩, fun j hj => ?_⟩))
      obtain ⟨f1, f2, ⟨o9, _, _, _, _, o1, o2, o3⟩, _, n', m', c1, c2, _, c3⟩ := q4 j hj
      have at3 := c3.at
      have x1 : (if j + 1 < v then F (j + 1) else a1) ≤ a := by
        split
        · have := (q4 (j + 1) (by assumption)).1
          omega
        · exact l1
      have x2 : (if j + 1 < v then G (j + 1) else m1) ≤ m := by
        split
        · have := (q4 (j + 1) (by assumption)).2.1
          omega
        · exact l2
      refine ⟨?_, n', m', (ag 318 (F j) (by decide) (by decide) (fun y => absurd y (by decide))).1.trans c1, (ar 959 (G j) (by decide) (by decide)).1.trans c2, by omega, by omega, f, _, _, _, _, _, c3, x1, x2⟩
      rw [(ag 321 (F j) (by decide) (by decide) (fun _ => by rw [o9]; decide)).1, (ar 958 (G j) (by decide) (by decide)).2, o2, o3]
      have : O j = 0 ∨ O j = 1 := by omega
      rcases this with e | e
      · rw [e]; exact ⟨fun _ => rfl, fun _ => rfl⟩
      · rw [e]; exact ⟨fun y => absurd y (by decide), fun y => absurd y (by decide)⟩
    · have at3 := q3.at
      refine Or.inr (Or.inr (Or.inr (Or.inl ⟨rfl, ?_, n', m', (ag 318 n (by decide) (by decide) (fun y => absurd y (by decide))).1.trans q1, (ar 959 k (by decide) (by decide)).1.trans q2, by omega, by omega, f, _, _, _, _, _, q3, l1, l2⟩)))
      unfold lsLo rlLo
      rw [(ag 322 n (by decide) (by decide) (fun y => absurd y (by decide))).2, (ar 957 k (by decide) (by decide)).2, t1, t2]
    · obtain ⟨v, u, v1, v2, v3, v4, v5⟩ := hn n k (by omega) (by omega) q
      obtain ⟨w, w', w1, w2, w3, w4⟩ := hr v v1
      have e : u = w' := (nI_eq (by omega) (by omega)).mp (v3.symm.trans w2)
      subst e
      refine Or.inr (Or.inr (Or.inr (Or.inr ⟨rfl, w, v2.trans w1, ?_, ?_⟩)))
      · obtain ⟨f', b0, b1', d0, d1, g', h', y1, y2⟩ := w4
        have := h'.at
        omega
      · rw [v4]
        exact w4
end
