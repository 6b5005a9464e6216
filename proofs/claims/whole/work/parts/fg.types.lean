/-! Level 2: types' own nodes once names are settled. -/
section
variable {P : pc_S} {nt : Nat → Nat} {a g : Nat} {k : Nat → Nat} {c0 c r s s' : t_S} {S : Nat → Int32 → Prop}
theorem tyF_of (h : mR P nt a g k c0 c r) (Q : sQ (pc_W P) nt a (k 3) (k 4) (k 5) (k 6) (k 7) (k 2) (k 9) s r) (fs : l2_fr (su_W (nt 3)) c s) (O : sQ_O nt (k 6) (k 2) S s r s') : tyF nt s' r := by
  intro x hx
  obtain ⟨a0, a1, m0, m1, g1, ⟨l1, l2, _⟩, e1, e2, e3, hT, _⟩ := h.2.1 x hx
  have a3 : a ≤ 3000 := Q.2.2.2.2.2.2.1.2.2.2.1
  have m13 : k 2 ≤ 13000 := Q.2.2.2.2.2.2.1.2.2.2.2.2.2.2.2.2.1
  obtain ⟨t1, t2, t3, t4, K, k1, k2, hK⟩ := hT
  have c4 : ∀ b j, b ≠ 1 → b ≠ 438 → s.1 b j = c.1 b j := fun b j y1 y2 => (fs b j (by unfold su_W; omega)).1
  have cO : ∀ b j, (317 ≤ b ∧ b ≤ 320) ∨ (322 ≤ b ∧ b ≤ 330) → s'.1 b j = c.1 b j := fun b j y => ((O.1 b j (by unfold sn_W lf_W; omega)).1).trans (c4 b j (by omega) (by omega))
  refine ⟨m0, a0, by omega, by omega, e2, (cO 326 x (by decide)).trans e1, (cO 327 x (by decide)).trans e3, ?_⟩
  rw [cO 317 a0 (by decide)]
  have no : K ≠ 8 → K < 100 → (r.1 955 m0 ≠ 8 ∧ c.1 317 a0 ≠ 8) := fun h1 h2 => ⟨fun y => h1 ((nI_eq (b := 8) (by omega) (by decide)).mp (k2.symm.trans y)), fun y => h1 ((nI_eq (b := 8) (by omega) (by decide)).mp (k1.symm.trans y))⟩
  rcases hK with ⟨y, _⟩ | y | ⟨y, _⟩ | ⟨y, _⟩ | ⟨y, _⟩ | ⟨y, _⟩ | ⟨y, e, he, ⟨X, hX, y9, y0, y8, y7⟩, y2⟩
  · exact Or.inl (no (by omega) (by omega))
  · exact Or.inl (no (by omega) (by omega))
  · exact Or.inl (no (by omega) (by omega))
  · exact Or.inl (no (by omega) (by omega))
  · exact Or.inl (no (by omega) (by omega))
  · exact Or.inl (no (by omega) (by omega))
  · subst y
    have s0 : s.1 850 e = nI (66 + X) := (c4 850 e (by decide) (by decide)).trans y0
    have hw := Q.2.2.2.2.2.2.2.1 e X he s0 hX
    obtain ⟨v, _, v2, v3⟩ := nt_told Q.1.1 (i := 0) (by decide) hX hw
    have D : le_D s e 0 X (s.1 851 e) a0 (s.1 853 e) := ⟨⟨by decide, hX, by omega⟩, (c4 849 e (by decide) (by decide)).trans y9, s0, rfl, (c4 852 e (by decide) (by decide)).trans y2, rfl⟩
    have w := O.2.2.2 e 321 a0 v he ⟨0, X, _, a0, _, D, Or.inl ⟨rfl, rfl, rfl, v2, v3⟩⟩
    exact Or.inr ⟨X, v, hX, k2, y7, k1, ⟨v2, v3⟩, w⟩
end
