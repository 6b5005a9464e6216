/-! Level 2: told templates at a module's end, names settled: all that settling them wants of trees, places, depths. -/
section
variable {P : pc_S} {nt : Nat → Nat} {a g : Nat} {k : Nat → Nat} {c0 c r s s' : t_S} {S : Nat → Int32 → Prop}
theorem told_end (h : mR P nt a g k c0 c r) (hM : MK (pc_V P) c) (Q : sQ (pc_W P) nt a (k 3) (k 4) (k 5) (k 6) (k 7) (k 2) (k 9) s r) (fs : l2_fr (su_W (nt 3)) c s) (O : sQ_O nt (k 6) (k 2) S s r s') (h60 : ∃ T0 T1, dpF (nt 1) T0 T1 s' ∧ ∀ x, x < nt 1 → kR (dpV s' T0 T1) (nt 1) 64 x ≤ 60) : ∃ T0 T1 A0 A1 M0 M1 N D : Nat → Nat, (∀ u, u < nt 1 → XR (WNs s' r) (fun _ _ => True) (TNs (nt 1) s' r) (sn_R s') s' r (k 5) (k 7) (M1 u - M0 u) 1 1 15 (A0 u) (A1 u) (T0 u) (T1 u) (M0 u) (M1 u) (N u)) ∧ (∀ u, u < nt 1 → (s'.1 335 (A1 u) = 0 ∧ A1 u + 1 ≤ k 4 ∧ s'.1 (364 + u) 2 = nI (A0 u)) ∧ s'.1 (364 + u) 0 = nI (T0 u) ∧ (T1 u ≤ k 3 ∧ M1 u ≤ k 2) ∧ r.1 968 u = nI (N u)) ∧ (∀ i j, i < j → j < nt 1 → T1 i ≤ T0 j ∧ A1 i + 1 ≤ A0 j ∧ M1 i ≤ M0 j) ∧ TD (TNs (nt 1) s' r) s' r (nt 1) T0 T1 D ∧ ∀ u t l : Nat, u < nt 1 → T0 u ≤ t → t < T1 u → 1 ≤ l → l ≤ 40 → s'.1 358 t = nI l → l ≤ D u := by
  obtain ⟨T0, T1, A0, A1, M0, M1, N, D, tp, od, d1, d2, d3⟩ := told_depth h Q fs O h60
  have n60 : nt 1 ≤ 60 := (h.1.2.1.1 1 (by decide)).1
  have k4 : k 4 ≤ 15000 := Q.2.2.2.2.2.2.1.2.2.2.2.2.2.2.1
  have c4 : ∀ b j, b ≠ 1 → b ≠ 438 → s.1 b j = c.1 b j := fun b j y1 y2 => (fs b j (by unfold su_W; omega)).1
  have c36 : ∀ i j, i < nt 1 → j ≠ 6 → j ≠ 7 → s'.1 (364 + i) j = c.1 (364 + i) j := fun i j hi _ _ => ((O.1 _ _ (by unfold sn_W lf_W; omega)).1).trans (c4 _ _ (by omega) (by omega))
  refine ⟨T0, T1, A0, A1, M0, M1, N, D, fun u hu => told_xr h hM Q fs O (tp u hu), fun u hu => ?_, od, ⟨fun t m w => ?_, d1, d2⟩, d3⟩
  · obtain ⟨_, _, _, _, _, ⟨b1, b2, _, b4, _⟩, ⟨y1, y2, _⟩, _, z4, ⟨z5, _⟩, _⟩ := tp u hu
    have e0 : c.1 335 (A1 u) = 0 := z5
    have o := op_same hM Q fs O (j := A1 u) (by omega) (by rw [e0]; decide)
    exact ⟨⟨o.1.trans e0, b2, (c36 u 2 hu (by decide) (by decide)).trans y2⟩, (c36 u 0 hu (by decide) (by decide)).trans y1, ⟨b1, b4⟩, z4⟩
  · obtain ⟨X, _, _, ⟨q, _⟩ | ⟨j, j1, _, j3, j4⟩⟩ := w
    · exact ⟨by rw [q]; decide, fun y => absurd (q.symm.trans y) (by decide)⟩
    · exact ⟨by rw [j3]; decide, fun _ => ⟨j, j1, j4⟩⟩
end
