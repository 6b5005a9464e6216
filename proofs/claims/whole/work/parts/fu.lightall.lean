/-! Level 2: the reference's least weights and full types, whole: what its lookup leaves. -/
section
variable {nt : Nat → Nat} {r w : t_S} {m : Nat} {y z : Nat → Nat} {ρ : Nat → Nat}
theorem rgRc.mono (h : ∀ u, y u ≤ z u) (hz : ∀ u, z u ≤ 1) : ∀ k f v v', v ≤ v' → v' ≤ 1 → rgRc r y k f v ≤ rgRc r z k f v' := by
  intro k
  induction k with
  | zero => intro f v v' hv _; exact hv
  | succ k ih =>
    intro f v v' hv h1
    have q := h (r.1 959 f.toNatClampNeg).toNatClampNeg
    have q1 := hz (r.1 959 f.toNatClampNeg).toNatClampNeg
    rw [rgRc.succ, rgRc.succ]
    by_cases c1 : f.toInt < 0
    · rw [if_pos c1, if_pos c1]; exact hv
    rw [if_neg c1, if_neg c1]
    refine ih _ _ _ ?_ ?_
    · by_cases v0 : v' = 0
      · rw [if_pos v0, if_pos (show v = 0 by omega)]
        split <;> omega
      · rw [if_neg v0]
        split
        · split <;> omega
        · exact Nat.le_refl _
    · split
      · split <;> omega
      · exact Nat.le_refl _
theorem rgCh.mono (h : ∀ u, y u ≤ z u) (hz : ∀ u, z u ≤ 1) : ∀ k f v v', v ≤ v' → v' ≤ 1 → rgCh r y k f v ≤ rgCh r z k f v' := by
  intro k
  induction k with
  | zero => intro f v v' hv _; exact hv
  | succ k ih =>
    intro f v v' hv h1
    have q := h (r.1 959 f.toNatClampNeg).toNatClampNeg
    have q1 := hz (r.1 959 f.toNatClampNeg).toNatClampNeg
    rw [rgCh.succ, rgCh.succ]
    by_cases c1 : f.toInt < 0
    · rw [if_pos c1, if_pos c1]; exact hv
    rw [if_neg c1, if_neg c1]
    refine ih _ _ _ ?_ ?_
    · by_cases v0 : v = 0
      · rw [if_pos v0]
        exact Nat.zero_le _
      · rw [if_neg v0, if_neg (by omega)]
        exact q
    · split
      · decide
      · exact q1
theorem rg_rest : gsK (rgF r) m 1 (m + 1) = gsK (rgF r) m 1 m := by
  obtain ⟨k, k1, k2⟩ := gsK.ends (F := rgF r) (N := m) (T := 1)
  rw [gsK.late k2 (j := m + 1) (by omega), gsK.late k2 (j := m) (by omega)]
/-- which are full: 0 -/
noncomputable def rgY (r : t_S) (m : Nat) : Nat → Nat := gsK (rgF r) m 1 m
theorem rg_all {Q : t_S → Prop} (hW : rlW nt r m) (S0 : rgS r m (gsK (rgF r) m 1 0) w) (go : ∀ w1, rgS r m (rgY r m) w1 → l2_fr (fun b _ => b = 1012) w w1 → t_hk (t_loop b_X13_findLight_109 t_N ((1 : Int32), w1)) Q) : t_hk (t_loop b_X13_findLight_47 t_N ((1 : Int32), w)) Q := by
  have m13 := hW.2.1
  have rest := rg_rest (r := r) (m := m)
  refine l2_lp (I := fun j x => ∃ k w1 l, x = (l, w1) ∧ k ≤ m + 1 ∧ j = m + 1 - k ∧ rgS r m (gsK (rgF r) m 1 k) w1 ∧ (l = 0 ∨ l = 1) ∧ (l = 0 → gsK (rgF r) m 1 k = rgY r m) ∧ (k = m + 1 → l = 0) ∧ l2_fr (fun b _ => b = 1012) w w1) ?_ (m := m + 1) (by unfold t_N; omega) ⟨0, w, 1, rfl, by omega, rfl, S0, Or.inr rfl, fun q => absurd q (by decide), fun q => by omega, l2_fr.rf⟩
  rintro j x ⟨k, w1, l, rfl, hk, rfl, hS, hl, g1, g2, fr⟩
  show t_hk (k_X13_findLight_47 l w1) _
  unfold k_X13_findLight_47
  rcases hl with rfl | rfl
  · rw [if_pos rfl]
    have := g1 rfl
    rw [this] at hS
    exact l2_mp (go w1 hS fr)
  rw [if_neg (by decide)]
  have k1 : k ≠ m + 1 := fun q => absurd (g2 q) (by decide)
  obtain ⟨x, e, w2, l', rfl, h1, h2, h3, h4⟩ := rg_round hW hS
  rw [e]
  have fx : l' = 0 → gsK (rgF r) m 1 (k + 1) = gsK (rgF r) m 1 k := fun q => h3.mp q
  refine l2_sm ⟨m + 1 - (k + 1), by omega, k + 1, w2, l', rfl, by omega, rfl, h1, h2, fun q => ?_, fun q => ?_, fr.trans h4⟩
  · rw [fx q]
    by_cases d : k ≤ m
    · exact (gsK.late (fx q) d).symm
    · omega
  · refine h3.mpr ?_
    have e : k = m := by omega
    subst e
    exact rest
/-- what stands in the reference once its least weights have been looked up -/
def rlZ (r : t_S) (m : Nat) (w : t_S) : Prop := l2_fr rl_V r w ∧ w.1 950 108 = 1 ∧ (∀ i, i < m → w.2.1 1011 i = lN (rlY r m i)) ∧ ∀ i, i < m → w.1 1012 i = nI (1 - rgY r m i)
theorem rl_light (hW : rlW nt r m) (hR : rlRk r m ρ) (h0 : r.1 950 108 = 0) : t_hk (f_X13_findLight r) (rlZ r m) := by
  have m13 := hW.2.1
  unfold f_X13_findLight
  rw [if_pos h0]
  refine l2_lt ?_
  have f1 : l2_fr (fun b j => b = 950 ∧ j = 108) r (t_setI r 950 108 1) := l2_fr.set ⟨rfl, rfl⟩
  have v1 : (t_setI r 950 108 1).1 950 108 = 1 := by simp only [l2_gI, and_self, reduceIte]
  generalize t_setI r 950 108 1 = s at *
  refine l2_lp (I := fun k x => ∃ j w1, x = (nI j, w1) ∧ j ≤ m ∧ k = m - j ∧ l2_fr (fun b _ => b = 1011 ∨ b = 1012) s w1 ∧ ∀ i, i < j → w1.2.1 1011 i = lN 4000000000000000000 ∧ w1.1 1012 i = 0) ?_ (m := m) (by unfold t_N; omega) ⟨0, s, rfl, by omega, rfl, l2_fr.rf, fun i hi => by omega⟩
  rintro k x ⟨j, w1, rfl, hj, rfl, fr, g⟩
  show t_hk (k_X13_findLight_15 (nI j) w1) _
  unfold k_X13_findLight_15
  have e29 : w1.1 950 29 = nI m := by rw [(fr 950 29 (by omega)).1, (f1 950 29 (by omega)).1]; exact hW.1
  have frV : l2_fr rl_V r w1 := (f1.mono (fun b j y => Or.inr (Or.inr y))).trans (fr.mono (fun b j y => y.elim Or.inl (fun q => Or.inr (Or.inl q))))
  rw [e29]
  by_cases c : j = m
  · subst c
    rw [if_pos (nI_le (Nat.le_refl _) (by omega))]
    have S0 : rgS r j (gsK (rgF r) j 1 0) w1 := ⟨frV, fun i hi => (g i hi).2, fun i => Nat.le_refl _⟩
    refine l2_mp (rg_all hW S0 (fun w2 h2 fr2 => ?_))
    have S1 : rlS r j (gsK (rlF r) j 4000000000000000000 0) w2 := ⟨h2.1, fun i hi => by rw [(fr2 1011 i (by omega)).2.1]; exact (g i hi).1, fun i => Nat.le_refl _⟩
    refine l2_imp (rl_all hW hR S1) (fun w3 h3 => ⟨h3.1.1, ?_, h3.1.2.1, fun i hi => ?_⟩)
    · rw [(h3.2 950 108 (by omega)).1, (fr2 950 108 (by omega)).1, (fr 950 108 (by omega)).1]
      exact v1
    · rw [(h3.2 1012 i (by omega)).1]
      exact h2.2.1 i hi
  · rw [if_neg (nI_ge (a := j) (b := m) (by omega) (by omega))]
    refine l2_ck (l2_ix (by omega) (by decide)) (l2_lt (l2_lt ?_))
    rw [nI_clamp (n := j) (by omega), nI_1]
    have f2 : l2_fr (fun b i => (b = 1011 ∨ b = 1012) ∧ i = j) w1 (t_setI (t_setJ w1 1011 j 4000000000000000000) 1012 j 0) := (l2_fr.setJ ⟨Or.inl rfl, rfl⟩).trans (l2_fr.set ⟨Or.inr rfl, rfl⟩)
    have q1 : (t_setI (t_setJ w1 1011 j 4000000000000000000) 1012 j 0).2.1 1011 j = lN 4000000000000000000 ∧ (t_setI (t_setJ w1 1011 j 4000000000000000000) 1012 j 0).1 1012 j = 0 := by
      refine ⟨?_, ?_⟩
      · have fz : l2_fr (fun b i => b = 1012 ∧ i = j) (t_setJ w1 1011 j 4000000000000000000) (t_setI (t_setJ w1 1011 j 4000000000000000000) 1012 j 0) := l2_fr.set ⟨rfl, rfl⟩
        rw [(fz 1011 j (by omega)).2.1]
        simp only [l2_gJ, and_self, reduceIte]
        rfl
      · simp only [l2_gI, and_self, reduceIte]
    generalize t_setI (t_setJ w1 1011 j 4000000000000000000) 1012 j 0 = w2 at *
    refine l2_sm ⟨m - (j + 1), by omega, j + 1, _, rfl, by omega, rfl, fr.trans (f2.mono (fun b i y => y.1)), fun i hi => ?_⟩
    by_cases q : i = j
    · subst q
      exact q1
    · rw [(f2 1011 i (by omega)).2.1, (f2 1012 i (by omega)).1]
      exact g i (by omega)
end
