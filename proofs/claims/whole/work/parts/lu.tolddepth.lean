/-! Level 2: told templates at a module's end: where they lie, in order, how deep. -/
section
variable {P : pc_S} {nt : Nat → Nat} {a g : Nat} {k : Nat → Nat} {c0 c r s s' : t_S} {S : Nat → Int32 → Prop}
theorem told_depth (h : mR P nt a g k c0 c r) (Q : sQ (pc_W P) nt a (k 3) (k 4) (k 5) (k 6) (k 7) (k 2) (k 9) s r) (fs : l2_fr (su_W (nt 3)) c s) (O : sQ_O nt (k 6) (k 2) S s r s') (h60 : ∃ T0 T1, dpF (nt 1) T0 T1 s' ∧ ∀ x, x < nt 1 → kR (dpV s' T0 T1) (nt 1) 64 x ≤ 60) : ∃ T0 T1 A0 A1 M0 M1 N D : Nat → Nat, (∀ i, i < nt 1 → tpE c r (k 3) (k 4) (k 5) (k 6) (k 7) (k 2) i (T0 i) (T1 i) (A0 i) (A1 i) (M0 i) (M1 i) (N i)) ∧ (∀ i j, i < j → j < nt 1 → T1 i ≤ T0 j ∧ A1 i + 1 ≤ A0 j ∧ M1 i ≤ M0 j) ∧ (∀ u, u < nt 1 → 1 ≤ D u ∧ D u ≤ 60) ∧ (∀ u t v l : Nat, u < nt 1 → T0 u ≤ t → t < T1 u → s'.1 354 t = 7 → s'.1 357 t = nI v → v < nt 1 → 1 ≤ l → l ≤ 40 → s'.1 358 t = nI l → l + D v ≤ D u) ∧ ∀ u t l : Nat, u < nt 1 → T0 u ≤ t → t < T1 u → 1 ≤ l → l ≤ 40 → s'.1 358 t = nI l → l ≤ D u := by
  have n60 : nt 1 ≤ 60 := (h.1.2.1.1 1 (by decide)).1
  have k3 : k 3 ≤ 3000 := Q.2.2.2.2.2.2.1.2.2.2.2.2.1
  have c4 : ∀ b j, b ≠ 1 → b ≠ 438 → s.1 b j = c.1 b j := fun b j y1 y2 => (fs b j (by unfold su_W; omega)).1
  have c36 : ∀ i j, i < nt 1 → j ≠ 6 → j ≠ 7 → s'.1 (364 + i) j = c.1 (364 + i) j := fun i j hi _ _ => ((O.1 _ _ (by unfold sn_W lf_W; omega)).1).trans (c4 _ _ (by omega) (by omega))
  obtain ⟨T0, T1, A0, A1, M0, M1, N, tp, od⟩ := h.2.2.2.2.2.2.2.2.2
  obtain ⟨U0, U1, dF', top⟩ := h60
  obtain ⟨D, d1, d2, d3⟩ := dp_60 dF' n60 top
  have same : ∀ u, u < nt 1 → U0 u = T0 u ∧ U1 u = T1 u := fun u hu => by
    obtain ⟨⟨x1, x2⟩, ⟨x3, x4⟩, _⟩ := dF' u hu
    obtain ⟨_, _, _, _, _, ⟨b1, _⟩, ⟨_, _, y3, y4⟩, _, _, _, ⟨z1, _⟩, _⟩ := tp u hu
    rw [c36 u 3 hu (by decide) (by decide), y3] at x3
    rw [c36 u 4 hu (by decide) (by decide), y4] at x4
    exact ⟨((nI_eq (by omega) (by omega)).mp x3).symm, ((nI_eq (by omega) (by omega)).mp x4).symm⟩
  refine ⟨T0, T1, A0, A1, M0, M1, N, D, tp, od, d1, fun u t v l hu a b => ?_, fun u t l hu a b => ?_⟩
  · obtain ⟨e0, e1⟩ := same u hu
    exact d2 u t v l hu (by omega) (by omega)
  · obtain ⟨e0, e1⟩ := same u hu
    exact d3 u t l hu (by omega) (by omega)
end
