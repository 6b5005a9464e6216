/-! Level 2: names looked up: ports, timers, vars of a component; ports at large; words of enums. -/
section
variable {P : pc_S} {nt : Nat → Nat} {a g j v0 v1 v2 X n m : Nat} {k A B D : Nat → Nat} {c0 c r : t_S}
theorem own_port (h : cw_R c r j v0 v1 v2 A B D) (hj : j < 8) (hX : X < 7934) : ∃ w : Int32, f_X5_portOf (nI j) (nI (66 + X)) c = some w ∧ f_X13_find 971 (6 * nI j) (r.1 972 j) (nI X) r = some w ∧ ((∃ i, i < v0 ∧ w = nI i ∧ A i = X ∧ ∀ k, k < i → A k ≠ X) ∨ (w = -1 ∧ ∀ i, i < v0 → A i ≠ X)) := by
  obtain ⟨⟨b0, b1, b2⟩, ⟨x1, x2⟩, ⟨x3, x4⟩, ⟨x5, x6⟩, x7, x8, x9⟩ := h
  obtain ⟨w, e1, e2, e3⟩ := fd_both (a := 430) (b := 971) (base := 6 * j) (base' := 0) (x := 0) (y := 0) rfl (show 6 * j + v0 ≤ 48 by omega) (by decide) rfl (show 6 * j + v0 ≤ 48 by omega) (by decide) x7 hX (by omega)
  refine ⟨w, ?_, ?_, e3⟩
  · unfold f_X5_portOf
    rw [if_pos (nI_pos' (by omega)), if_pos (l2_ix hj (by decide)), nI_clamp (n := j) (by omega), x1, show nI j * (6 : Int32) = nI (6 * j) from (pk_mul j 6).trans (by rw [Nat.mul_comm]), e1]
    rfl
  · rw [x2, show (6 : Int32) * nI j = nI (6 * j) from pk_mul 6 j]
    exact e2
theorem own_timer (h : cw_R c r j v0 v1 v2 A B D) (hj : j < 8) (hX : X < 7934) : ∃ w : Int32, f_X5_timerOf (nI j) (nI (66 + X)) c = some w ∧ f_X13_find 973 (4 * nI j) (r.1 974 j) (nI X) r = some w ∧ ((∃ i, i < v1 ∧ w = nI i ∧ B i = X ∧ ∀ k, k < i → B k ≠ X) ∨ (w = -1 ∧ ∀ i, i < v1 → B i ≠ X)) := by
  obtain ⟨⟨b0, b1, b2⟩, ⟨x1, x2⟩, ⟨x3, x4⟩, ⟨x5, x6⟩, x7, x8, x9⟩ := h
  obtain ⟨w, e1, e2, e3⟩ := fd_both (a := 432) (b := 973) (base := 4 * j) (base' := 0) (x := 0) (y := 0) rfl (show 4 * j + v1 ≤ 32 by omega) (by decide) rfl (show 4 * j + v1 ≤ 32 by omega) (by decide) x8 hX (by omega)
  refine ⟨w, ?_, ?_, e3⟩
  · unfold f_X5_timerOf
    rw [if_pos (nI_pos' (by omega)), if_pos (l2_ix hj (by decide)), nI_clamp (n := j) (by omega), x3, show nI j * (4 : Int32) = nI (4 * j) from (pk_mul j 4).trans (by rw [Nat.mul_comm]), e1]
    rfl
  · rw [x4, show (4 : Int32) * nI j = nI (4 * j) from pk_mul 4 j]
    exact e2
theorem own_var (h : cw_R c r j v0 v1 v2 A B D) (hj : j < 8) (hX : X < 7934) : ∃ w : Int32, f_X5_varOf (nI j) (nI (66 + X)) c = some w ∧ f_X13_find 975 (8 * nI j) (r.1 979 j) (nI X) r = some w ∧ ((∃ i, i < v2 ∧ w = nI i ∧ D i = X ∧ ∀ k, k < i → D k ≠ X) ∨ (w = -1 ∧ ∀ i, i < v2 → D i ≠ X)) := by
  obtain ⟨⟨b0, b1, b2⟩, ⟨x1, x2⟩, ⟨x3, x4⟩, ⟨x5, x6⟩, x7, x8, x9⟩ := h
  obtain ⟨w, e1, e2, e3⟩ := fd_both (a := 434) (b := 975) (base := 8 * j) (base' := 0) (x := 0) (y := 0) rfl (show 8 * j + v2 ≤ 64 by omega) (by decide) rfl (show 8 * j + v2 ≤ 64 by omega) (by decide) x9 hX (by omega)
  refine ⟨w, ?_, ?_, e3⟩
  · unfold f_X5_varOf
    rw [if_pos (nI_pos' (by omega)), if_pos (l2_ix hj (by decide)), nI_clamp (n := j) (by omega), x5, show nI j * (8 : Int32) = nI (8 * j) from (pk_mul j 8).trans (by rw [Nat.mul_comm]), e1]
    rfl
  · rw [x6, show (8 : Int32) * nI j = nI (8 * j) from pk_mul 8 j]
    exact e2
/-- some component has such a port -/
def pt_R (n : Nat) (r : t_S) (X : Nat) : Prop := ∃ j, j < n ∧ ∃ i, f_X13_find 971 (6 * nI j) (r.1 972 j) (nI X) r = some i ∧ 0 ≤ i
theorem pt_has (hn : n ≤ 8) (e0 : c.1 428 0 = nI n) (h : ∀ j, j < n → ∃ v0 v1 v2 A B D, cw_R c r j v0 v1 v2 A B D) (hX : X < 7934) : ∃ w : Int32, f_X5_hasPort (nI (66 + X)) c = some w ∧ (w = 0 ∨ w = 1) ∧ (w = 1 ↔ pt_R n r X) := by
  unfold f_X5_hasPort
  refine l2_lp (fun u y => ∃ j, j + u = n ∧ y = (nI (66 + X), nI j) ∧ ∀ i, i < j → ∃ w : Int32, f_X13_find 971 (6 * nI i) (r.1 972 i) (nI X) r = some w ∧ w < 0) ?_ (m := n) (Nat.lt_trans (show n < 1000000000 by omega) l2_N) ⟨0, by omega, rfl, fun i hi => absurd hi (Nat.not_lt_zero _)⟩
  rintro u y ⟨j, hj, rfl, no⟩
  show t_hk (k_X5_hasPort_2 (nI (66 + X)) (nI j) c) _
  unfold k_X5_hasPort_2
  rw [e0]
  by_cases z : n ≤ j
  · refine l2_ck (nI_le z (by omega)) (l2_mp (l2_sm ⟨Or.inl rfl, fun y => absurd y (by decide), fun y => ?_⟩))
    obtain ⟨i, i1, w, w1, w2⟩ := y
    obtain ⟨w', w3, w4⟩ := no i (by omega)
    rw [w1] at w3
    cases w3
    exact absurd w2 (Int32.not_le.mpr w4)
  · obtain ⟨v0, v1, v2, A, B, D, hc⟩ := h j (by omega)
    obtain ⟨w, e1, e2, e3⟩ := own_port hc (show j < 8 by omega) hX
    refine l2_no (nI_ge (by omega) (by omega)) ?_
    rw [e1, l2_bs]
    refine l2_if (fun lt => l2_sm ⟨u - 1, by omega, j + 1, by omega, by rw [nI_1], fun i hi => ?_⟩) (fun nlt => l2_mp (l2_sm ⟨Or.inr rfl, fun _ => ⟨j, by omega, w, e2, Int32.not_lt.mp nlt⟩, fun _ => rfl⟩))
    by_cases ee : i = j
    · rw [ee]
      exact ⟨w, e2, lt⟩
    · exact no i (by omega)
theorem pt_is (hn : n ≤ 8) (e0 : r.1 950 55 = nI n) (h : ∀ j, j < n → ∃ v0 v1 v2 A B D, cw_R c r j v0 v1 v2 A B D) (hX : X < 7934) : ∃ w : Int32, f_X13_isPort (nI X) r = some w ∧ (w = 0 ∨ w = 1) ∧ (w = 1 ↔ pt_R n r X) := by
  unfold f_X13_isPort
  refine l2_lp (fun u y => ∃ (j : Nat) (l2 : Int32), j + u = n ∧ y = (nI X, l2, nI j) ∧ (l2 = 0 ∨ l2 = 1) ∧ (l2 = 1 ↔ pt_R j r X)) ?_ (m := n) (Nat.lt_trans (show n < 1000000000 by omega) l2_N) ⟨0, 0, by omega, rfl, Or.inl rfl, fun y => absurd y (by decide), fun ⟨i, hi, _⟩ => absurd hi (Nat.not_lt_zero _)⟩
  rintro u y ⟨j, l2, hj, rfl, h2, hp⟩
  show t_hk (k_X13_isPort_4 (nI X) l2 (nI j) r) _
  unfold k_X13_isPort_4 k_X13_isPort_38 k_X13_isPort_43
  rw [e0]
  by_cases z : n ≤ j
  · have ej : j = n := by omega
    subst ej
    exact l2_ck (nI_le z (by omega)) (l2_mp (l2_ck h2 (l2_sm ⟨h2, hp⟩)))
  · obtain ⟨v0, v1, v2, A, B, D, hc⟩ := h j (by omega)
    obtain ⟨w, e1, e2, e3⟩ := own_port hc (show j < 8 by omega) hX
    have up : ∀ l : Int32, (l = 1 ↔ l2 = 1 ∨ 0 ≤ w) → (l = 1 ↔ pt_R (j + 1) r X) := fun l hl => hl.trans ⟨fun y => y.elim (fun y => by
      obtain ⟨i, i1, i2⟩ := hp.mp y
      exact ⟨i, by omega, i2⟩) (fun y => ⟨j, Nat.lt_succ_self _, w, e2, y⟩), fun ⟨i, i1, x, x1, x2⟩ => by
      by_cases ee : i = j
      · subst ee
        rw [e2] at x1
        cases x1
        exact Or.inr x2
      · exact Or.inl (hp.mpr ⟨i, by omega, x, x1, x2⟩)⟩
    refine l2_no (nI_ge (by omega) (by omega)) ?_
    rw [nI_1]
    refine l2_if (fun z2 => l2_ck (l2_ix (show j < 8 by omega) (by decide)) ?_) (fun z2 => ?_)
    · rw [nI_clamp (n := j) (by omega), e2, l2_bs]
      refine l2_if (fun lt => l2_sm ⟨u - 1, by omega, j + 1, 0, by omega, rfl, Or.inl rfl, up 0 ⟨fun y => absurd y (by decide), fun y => ?_⟩⟩) (fun nlt => l2_sm ⟨u - 1, by omega, j + 1, 1, by omega, rfl, Or.inr rfl, up 1 ⟨fun _ => Or.inr (Int32.not_lt.mp nlt), fun _ => rfl⟩⟩)
      rcases y with y | y
      · rw [z2] at y
        exact absurd y (by decide)
      · exact absurd y (Int32.not_le.mpr lt)
    · have y1 : l2 = 1 := h2.elim (fun y => absurd y z2) id
      exact l2_sm ⟨u - 1, by omega, j + 1, 1, by omega, rfl, Or.inr rfl, up 1 ⟨fun _ => Or.inl y1, fun _ => rfl⟩⟩
/-- a word of an enum -/
def ew_W (m : Nat) (r : t_S) (X : Nat) : Prop := ∃ k, k < m ∧ r.1 955 k = 11 ∧ r.2.1 957 k = lN X
theorem ew_is (hm : m ≤ 13000) (e0 : r.1 950 90 = nI m) (hX : X < 7934) : ∃ w : Int32, f_X13_isEnumWord (nI X) r = some w ∧ (w = 0 ∨ w = 1) ∧ (w = 1 ↔ ew_W m r X) := by
  unfold f_X13_isEnumWord
  refine l2_lp (fun u y => ∃ (j : Nat) (l2 : Int32), j + u = m ∧ y = (nI X, l2, nI j) ∧ (l2 = 0 ∨ l2 = 1) ∧ (l2 = 1 ↔ ew_W j r X)) ?_ (m := m) (Nat.lt_trans (show m < 1000000000 by omega) l2_N) ⟨0, 0, by omega, rfl, Or.inl rfl, fun y => absurd y (by decide), fun ⟨i, hi, _⟩ => absurd hi (Nat.not_lt_zero _)⟩
  rintro u y ⟨j, l2, hj, rfl, h2, hp⟩
  show t_hk (k_X13_isEnumWord_4 (nI X) l2 (nI j) r) _
  unfold k_X13_isEnumWord_4 k_X13_isEnumWord_43 k_X13_isEnumWord_44
  rw [e0]
  by_cases z : m ≤ j
  · have ej : j = m := by omega
    subst ej
    exact l2_ck (nI_le z (by omega)) (l2_mp (l2_ck h2 (l2_sm ⟨h2, hp⟩)))
  · refine l2_no (nI_ge (by omega) (by omega)) ?_
    rw [nI_1]
    refine l2_if (fun z2 => l2_ck (l2_ix (show j < 13000 by omega) (by decide)) ?_) (fun z2 => l2_mp (l2_ck h2 (l2_sm ⟨h2, ?_⟩)))
    rotate_left
    · have y1 : l2 = 1 := h2.elim (fun y => absurd y z2) id
      obtain ⟨i, i1, i2⟩ := hp.mp y1
      exact ⟨fun _ => ⟨i, by omega, i2⟩, fun _ => y1⟩
    rw [nI_clamp (n := j) (by omega)]
    have old : ¬ ew_W j r X := fun y => by
      have := hp.mpr y
      rw [z2] at this
      exact absurd this (by decide)
    have no : ¬ (r.1 955 j = 11 ∧ r.2.1 957 j = lN X) → ¬ ew_W (j + 1) r X := fun n ⟨i, i1, i2⟩ => by
      by_cases ee : i = j
      · rw [ee] at i2
        exact n i2
      · exact old ⟨i, by omega, i2⟩
    have e7 : (nI X).toInt64 = lN X := nI_l (by omega)
    refine l2_if (fun a1 => l2_if (fun a2 => l2_sm ⟨u - 1, by omega, j + 1, 1, by omega, rfl, Or.inr rfl, fun _ => ⟨j, Nat.lt_succ_self _, a1, ?_⟩, fun _ => rfl⟩) (fun a2 => l2_sm ⟨u - 1, by omega, j + 1, 0, by omega, rfl, Or.inl rfl, fun y => absurd y (by decide), fun y => absurd y (no (fun w => a2 ?_))⟩)) (fun a1 => l2_sm ⟨u - 1, by omega, j + 1, 0, by omega, rfl, Or.inl rfl, fun y => absurd y (by decide), fun y => absurd y (no (fun w => a1 w.1))⟩)
    · rw [e7] at a2
      exact l2_cmp0.mp a2
    · rw [w.2, e7]
      exact l2_cmp0.mpr rfl
end
