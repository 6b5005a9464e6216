/-! Level 2: the reference's rounds of holding: nextStamp. -/
def nsW (b j : Nat) : Prop := (b = 950 ∧ (j = 133 ∨ j = 137)) ∨ b = 1028 ∨ b = 1030
/-- which templates are prepared in this round: stamps -/
def KS2 (ρ : Nat) (s : t_S) : Prop := s.1 950 133 = nI ρ ∧ ρ ≤ 1000000000 ∧ ∀ u, u < 60 → ∃ w : Nat, s.1 1030 u = nI w ∧ w ≤ ρ
section
variable {s : t_S}
theorem ns_67 : ∀ (j i : Nat) (s1 : t_S) (n : Nat), i + j = 60 → j < n → l2_fr (fun b _ => b = 1030) s s1 → (∀ l, l < i → s1.1 1030 l = 0) → ∃ s', t_loop b_X13_nextStamp_67 n (nI i, s1) = some s' ∧ l2_fr (fun b _ => b = 1030) s s' ∧ ∀ l, l < 60 → s'.1 1030 l = 0 := by
  intro j
  induction j with
  | zero =>
    intro i s1 n hi hn fr h
    obtain ⟨n, rfl⟩ : ∃ y, n = y + 1 := ⟨n - 1, by omega⟩
    obtain rfl : i = 60 := by omega
    refine ⟨s1, ?_, fr, h⟩
    have st : b_X13_nextStamp_67 (nI 60, s1) = some (.inr s1) := by
      show k_X13_nextStamp_67 (nI 60) s1 = _
      unfold k_X13_nextStamp_67
      rw [if_pos (show (60 : Int32) ≤ nI 60 from nI_le (Nat.le_refl 60) (by decide))]
      rfl
    exact l2_lpR st
  | succ j ih =>
    intro i s1 n hi hn fr h
    obtain ⟨n, rfl⟩ : ∃ y, n = y + 1 := ⟨n - 1, by omega⟩
    have st : b_X13_nextStamp_67 (nI i, s1) = some (.inl (nI (i + 1), t_setI s1 1030 i 0)) := by
      show k_X13_nextStamp_67 (nI i) s1 = _
      unfold k_X13_nextStamp_67
      rw [if_neg (show ¬ (60 : Int32) ≤ nI i from nI_ge (b := 60) (by omega) (by decide)), if_pos (l2_ix (by omega) (by decide)), t_let, nI_clamp (n := i) (by omega), nI_1]
    rw [l2_lpS st]
    refine ih (i + 1) _ n (by omega) (by omega) (fr.trans (l2_fr.set rfl)) (fun l hl => ?_)
    rw [l2_g]
    by_cases c : l = i
    · rw [if_pos (by omega)]
    · rw [if_neg (by omega)]
      exact h l (by omega)
theorem ns_37 : ∀ (j i : Nat) (s1 : t_S) (n : Nat), i + j = 577000 → j < n → l2_fr (fun b _ => b = 1028) s s1 → (∀ l, l < i → s1.1 1028 l = -2) → ∃ s', t_loop b_X13_nextStamp_37 n (nI i, s1) = t_loop b_X13_nextStamp_67 t_N (0, t_setI s' 950 133 1) ∧ l2_fr (fun b _ => b = 1028) s s' ∧ ∀ l, l < 577000 → s'.1 1028 l = -2 := by
  intro j
  induction j with
  | zero =>
    intro i s1 n hi hn fr h
    obtain ⟨n, rfl⟩ : ∃ y, n = y + 1 := ⟨n - 1, by omega⟩
    have hi : i = 577000 := by omega
    refine ⟨s1, ?_, fr, fun l hl => h l (by omega)⟩
    have st : b_X13_nextStamp_37 (nI i, s1) = (t_loop b_X13_nextStamp_67 t_N (0, t_setI s1 950 133 1)).map Sum.inr := by
      show k_X13_nextStamp_37 (nI i) s1 = _
      unfold k_X13_nextStamp_37
      rw [if_pos (show (577000 : Int32) ≤ nI i from nI_le (a := 577000) (by omega) (by omega)), t_let]
    exact l2_lpM st
  | succ j ih =>
    intro i s1 n hi hn fr h
    obtain ⟨n, rfl⟩ : ∃ y, n = y + 1 := ⟨n - 1, by omega⟩
    have st : b_X13_nextStamp_37 (nI i, s1) = some (.inl (nI (i + 1), t_setI s1 1028 i (-2))) := by
      show k_X13_nextStamp_37 (nI i) s1 = _
      unfold k_X13_nextStamp_37
      rw [if_neg (show ¬ (577000 : Int32) ≤ nI i from nI_ge (b := 577000) (by omega) (by decide)), if_pos (l2_ix (by omega) (by decide)), t_let, nI_clamp (n := i) (by omega), nI_1]
    rw [l2_lpS st]
    refine ih (i + 1) _ n (by omega) (by omega) (fr.trans (l2_fr.set rfl)) (fun l hl => ?_)
    rw [l2_g]
    by_cases c : l = i
    · rw [if_pos (by omega)]
    · rw [if_neg (by omega)]
      exact h l (by omega)
/-- a round begins: no template is prepared -/
theorem ns_go {σ ρ : Nat} (K : KN σ s) (hσ : σ < 2 ^ 30) (R : KS2 ρ s) : ∃ s' σ' ρ', f_X13_nextStamp s = some s' ∧ l2_fr nsW s s' ∧ KN σ' s' ∧ σ' ≤ 1000000000 ∧ s'.1 950 133 = nI ρ' ∧ 0 < ρ' ∧ ρ' ≤ 1000000000 ∧ ∀ u, u < 60 → ∃ w : Nat, s'.1 1030 u = nI w ∧ w < ρ' := by
  obtain ⟨k1, k2⟩ := K
  obtain ⟨r1, r2, r3⟩ := R
  have reset : ∀ s1, l2_fr nsW s s1 → ∃ s' σ' ρ', k_X13_nextStamp_30 s1 = some s' ∧ l2_fr nsW s s' ∧ KN σ' s' ∧ σ' ≤ 1000000000 ∧ s'.1 950 133 = nI ρ' ∧ 0 < ρ' ∧ ρ' ≤ 1000000000 ∧ ∀ u, u < 60 → ∃ w : Nat, s'.1 1030 u = nI w ∧ w < ρ' := fun s1 fr => by
    obtain ⟨s2, a1, a2, a3⟩ := ns_37 (s := t_setI s1 950 137 0) 577000 0 (t_setI s1 950 137 0) t_N (by omega) (by have := l2_N; omega) l2_fr.rf (fun l hl => by omega)
    obtain ⟨s3, b1, b2, b3⟩ := ns_67 (s := t_setI s2 950 133 1) 60 0 (t_setI s2 950 133 1) t_N (by omega) (by have := l2_N; omega) l2_fr.rf (fun l hl => by omega)
    refine ⟨s3, 0, 1, ?_, ?_, ⟨?_, fun j hj => ?_⟩, by omega, ?_, by omega, by omega, fun u hu => ⟨0, b3 u hu, by omega⟩⟩
    · unfold k_X13_nextStamp_30
      rw [t_let]
      exact a1.trans b1
    · refine fr.trans ((l2_fr.set (Or.inl ⟨rfl, Or.inr rfl⟩)).trans ((a2.mono (fun b j w => Or.inr (Or.inl w))).trans ((l2_fr.set (Or.inl ⟨rfl, Or.inl rfl⟩)).trans (b2.mono (fun b j w => Or.inr (Or.inr w))))))
    · rw [(b2 950 137 (show ¬ 950 = 1030 by decide)).1, l2_g, if_neg (by decide), (a2 950 137 (show ¬ 950 = 1028 by decide)).1, l2_g, if_pos rfl]
      rfl
    · rw [(b2 1028 j (show ¬ 1028 = 1030 by decide)).1, l2_sO (by decide), a3 j hj]
      exact ⟨by decide, by decide⟩
    · rw [(b2 950 133 (show ¬ 950 = 1030 by decide)).1, l2_g, if_pos rfl]
      rfl
  unfold f_X13_nextStamp
  rw [t_let]
  have f1 : l2_fr nsW s (t_setI s 950 133 (s.1 950 133 + 1)) := l2_fr.set (Or.inl ⟨rfl, Or.inl rfl⟩)
  have e33 : (t_setI s 950 133 (s.1 950 133 + 1)).1 950 133 = nI (ρ + 1) := by rw [l2_g, if_pos rfl, r1, nI_1]
  have e37 : (t_setI s 950 133 (s.1 950 133 + 1)).1 950 137 = nI σ := by rw [l2_g, if_neg (by decide), k1]
  rw [e37, e33]
  by_cases c : 1000000000 < σ
  · rw [if_pos (show (1000000000 : Int32) < nI σ from (nI_ltI (a := 1000000000) (by decide) (by omega)).mpr c)]
    exact reset _ f1
  · rw [if_neg (show ¬ (1000000000 : Int32) < nI σ from fun z => c ((nI_ltI (a := 1000000000) (by decide) (by omega)).mp z))]
    by_cases d : ρ + 1 ≤ 1000000000
    · rw [if_pos (show nI (ρ + 1) ≤ (1000000000 : Int32) from nI_le (b := 1000000000) d (by decide))]
      refine ⟨_, σ, ρ + 1, rfl, f1, ⟨e37, fun j hj => ?_⟩, by omega, e33, by omega, d, fun u hu => ?_⟩
      · rw [l2_sO (by decide)]
        exact k2 j hj
      · obtain ⟨w, w1, w2⟩ := r3 u hu
        exact ⟨w, by rw [l2_sO (by decide)]; exact w1, by omega⟩
    · rw [if_neg (show ¬ nI (ρ + 1) ≤ (1000000000 : Int32) from nI_ge (b := ρ + 1) (a := 1000000000) (by omega) (by omega))]
      exact reset _ f1
end
