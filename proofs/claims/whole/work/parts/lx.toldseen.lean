/-! Level 2: told templates see nothing of a run and hold nothing against a templ. -/
section
variable {c r : t_S} {t e p l s m u t0 t1 e0 e1 m0 m1 n : Nat}
theorem tpE.seen (h : tpE c r t e p l s m u t0 t1 e0 e1 m0 m1 n) (hl : ∀ x q, x < m → ¬ lt_M r x q) (j : Nat) (j0 : m0 ≤ j) (j1 : j < m1) : ¬ TB r j := fun hK => by
  obtain ⟨_, _, _, _, _, ⟨_, _, _, b4, _⟩, _, _, _, _, _, _, _, _, w⟩ := h
  obtain ⟨q1, q, q2, q3⟩ := w j j0 j1 hK
  obtain ⟨K, k1, k2⟩ := hK
  exact hl j q (by omega) ⟨q2, q1, q3, K, k2, k1⟩
end
