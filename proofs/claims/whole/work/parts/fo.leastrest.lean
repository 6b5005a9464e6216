/-! Level 2: the class's least weights come to rest. -/
section
variable {s : t_S} {a : Nat} {y z : Nat → Nat}
theorem lsV.mono {x : Int32} (h : ∀ u, y u ≤ z u) : lsV a y x ≤ lsV a z x := by
  unfold lsV
  split
  · exact h _
  · exact Nat.le_refl _
theorem lsV.top {x : Int32} (h : ∀ u, y u ≤ 2000000) : lsV a y x ≤ 2000000 := by
  unfold lsV
  split
  · exact h _
  · exact Nat.le_refl _
theorem lsRc.top : ∀ k f w, w ≤ 2000000 → lsRc s a y k f w ≤ 2000000 := by
  intro k
  induction k with
  | zero => intro f w h; exact h
  | succ k ih =>
    intro f w h
    rw [lsRc.succ]
    split
    · exact h
    · split
      · split
        · exact ih _ _ (by omega)
        · exact Nat.le_refl _
      · exact ih _ _ h
theorem lsRc.ge : ∀ k f w, w ≤ 1000000 → w ≤ lsRc s a y k f w := by
  intro k
  induction k with
  | zero => intro f w _; exact Nat.le_refl _
  | succ k ih =>
    intro f w h
    rw [lsRc.succ]
    split
    · exact Nat.le_refl _
    · split
      · split
        · have := ih (s.1 319 f.toNatClampNeg) (min 1000000 (w + 1 + lsV a y (s.1 318 f.toNatClampNeg))) (by omega)
          omega
        · omega
      · exact ih _ _ h
theorem lsRc.mono (h : ∀ u, y u ≤ z u) : ∀ k f w w', w ≤ w' → lsRc s a y k f w ≤ lsRc s a z k f w' := by
  intro k
  induction k with
  | zero => intro f w w' h; exact h
  | succ k ih =>
    intro f w w' hw
    have v := lsV.mono (a := a) (x := s.1 318 f.toNatClampNeg) h
    rw [lsRc.succ, lsRc.succ]
    by_cases c1 : f.toInt < 0
    · rw [if_pos c1, if_pos c1]; exact hw
    rw [if_neg c1, if_neg c1]
    by_cases c2 : s.1 321 f.toNatClampNeg = 0
    · rw [if_pos c2, if_pos c2]
      by_cases c3 : lsV a z (s.1 318 f.toNatClampNeg) < 2000000
      · rw [if_pos (by omega), if_pos c3]
        exact ih _ _ _ (by omega)
      · rw [if_neg c3]
        split
        · exact lsRc.top _ _ _ (by omega)
        · exact Nat.le_refl _
    · rw [if_neg c2, if_neg c2]
      exact ih _ _ _ hw
theorem lsCh.top : ∀ k f w, w ≤ 2000000 → lsCh s a y k f w ≤ 2000000 := by
  intro k
  induction k with
  | zero => intro f w h; exact h
  | succ k ih =>
    intro f w h
    rw [lsCh.succ]
    split
    · exact h
    · refine ih _ _ ?_
      split <;> omega
theorem lsCh.mono (h : ∀ u, y u ≤ z u) : ∀ k f w w', w ≤ w' → lsCh s a y k f w ≤ lsCh s a z k f w' := by
  intro k
  induction k with
  | zero => intro f w w' h; exact h
  | succ k ih =>
    intro f w w' hw
    have v := lsV.mono (a := a) (x := s.1 318 f.toNatClampNeg) h
    rw [lsCh.succ, lsCh.succ]
    by_cases c1 : f.toInt < 0
    · rw [if_pos c1, if_pos c1]; exact hw
    rw [if_neg c1, if_neg c1]
    refine ih _ _ _ ?_
    by_cases c3 : lsV a z (s.1 318 f.toNatClampNeg) < 2000000
    · rw [if_pos (by omega), if_pos c3]
      omega
    · rw [if_neg c3]
      split <;> omega
theorem lsF.mono (h : ∀ u, y u ≤ z u) (n : Nat) : lsF s a y n ≤ lsF s a z n := by
  have v : ∀ x, lsV a y x ≤ lsV a z x := fun x => lsV.mono h
  unfold lsF
  split
  · exact Nat.le_refl _
  split
  · exact Nat.le_refl _
  split
  · exact lsRc.mono h _ _ _ _ (Nat.le_refl _)
  split
  · exact lsCh.mono h _ _ _ _ (Nat.le_refl _)
  split
  · split
    · exact Nat.le_refl _
    · have v1 := v (s.1 318 n)
      by_cases c : lsV a z (s.1 318 n) < 2000000
      · rw [if_pos (by omega), if_pos c]
        have := Nat.mul_le_mul_left (lsLo s n) v1
        omega
      · rw [if_neg c]
        split <;> omega
  split
  · exact v _
  · exact Nat.le_refl _
theorem lsW.lo (hW : lsW s a) {n : Nat} (hn : n < a) (hk : s.1 317 n = 3 ∨ s.1 317 n = 7) : lsLo s n ≤ 255 := by
  have T := (hW.2.2 n hn).2.2.2.2 hk
  unfold tw255 at T
  unfold lsLo
  omega
theorem lsF.top (hW : lsW s a) {n : Nat} (hn : n < a) (h : ∀ u, y u ≤ 2000000) : lsF s a y n ≤ 2000000 := by
  unfold lsF
  split
  · decide
  split
  · rename_i c
    have := hW.lo hn (Or.inl c)
    omega
  split
  · exact lsRc.top _ _ _ (by decide)
  split
  · exact lsCh.top _ _ _ (by decide)
  split
  · split
    · decide
    · split <;> omega
  split
  · exact lsV.top h
  · exact Nat.le_refl _
/-- a weight, or none at all -/
def lsB (v : Nat) : Prop := v ≤ 1000000 ∨ v = 2000000
theorem lsRc.two : ∀ k f w, w ≤ 1000000 → lsB (lsRc s a y k f w) := by
  intro k
  induction k with
  | zero => intro f w h; exact Or.inl h
  | succ k ih =>
    intro f w h
    rw [lsRc.succ]
    split
    · exact Or.inl h
    · split
      · split
        · exact ih _ _ (by omega)
        · exact Or.inr rfl
      · exact ih _ _ h
theorem lsCh.two : ∀ k f w, lsB w → lsB (lsCh s a y k f w) := by
  intro k
  induction k with
  | zero => intro f w h; exact h
  | succ k ih =>
    intro f w h
    rw [lsCh.succ]
    split
    · exact h
    · refine ih _ _ ?_
      unfold lsB at *
      split <;> omega
theorem lsF.two (hW : lsW s a) {n : Nat} (hn : n < a) (h : ∀ u, lsB (y u)) : lsB (lsF s a y n) := by
  unfold lsF
  split
  · exact Or.inl (by decide)
  split
  · rename_i c
    have := hW.lo hn (Or.inl c)
    exact Or.inl (by omega)
  split
  · exact lsRc.two _ _ _ (by decide)
  split
  · exact lsCh.two _ _ _ (Or.inr rfl)
  split
  · split
    · exact Or.inl (by decide)
    · split
      · exact Or.inl (by omega)
      · exact Or.inr rfl
  split
  · unfold lsV
    split
    · exact h _
    · exact Or.inr rfl
  · exact Or.inr rfl
theorem lsV.m {x : Int32} (h : ∀ u, min 1000000 (y u) = min 1000000 (z u)) : min 1000000 (lsV a y x) = min 1000000 (lsV a z x) := by
  unfold lsV
  split
  · exact h _
  · rfl
theorem lsRc.m (h : ∀ u, min 1000000 (y u) = min 1000000 (z u)) : ∀ k f w, w ≤ 1000000 → min 1000000 (lsRc s a y k f w) = min 1000000 (lsRc s a z k f w) := by
  intro k
  induction k with
  | zero => intro f w _; rfl
  | succ k ih =>
    intro f w hw
    have v := lsV.m (a := a) (x := s.1 318 f.toNatClampNeg) h
    rw [lsRc.succ, lsRc.succ]
    by_cases c1 : f.toInt < 0
    · rw [if_pos c1, if_pos c1]
    rw [if_neg c1, if_neg c1]
    by_cases c2 : s.1 321 f.toNatClampNeg = 0
    · rw [if_pos c2, if_pos c2]
      by_cases c3 : lsV a z (s.1 318 f.toNatClampNeg) < 2000000
      · rw [if_pos c3]
        by_cases c4 : lsV a y (s.1 318 f.toNatClampNeg) < 2000000
        · rw [if_pos c4, show min 1000000 (w + 1 + lsV a y (s.1 318 f.toNatClampNeg)) = min 1000000 (w + 1 + lsV a z (s.1 318 f.toNatClampNeg)) by omega]
          exact ih _ _ (by omega)
        · rw [if_neg c4]
          have := lsRc.ge (s := s) (a := a) (y := z) k (s.1 319 f.toNatClampNeg) (min 1000000 (w + 1 + lsV a z (s.1 318 f.toNatClampNeg))) (by omega)
          omega
      · rw [if_neg c3]
        by_cases c4 : lsV a y (s.1 318 f.toNatClampNeg) < 2000000
        · rw [if_pos c4]
          have := lsRc.ge (s := s) (a := a) (y := y) k (s.1 319 f.toNatClampNeg) (min 1000000 (w + 1 + lsV a y (s.1 318 f.toNatClampNeg))) (by omega)
          omega
        · rw [if_neg c4]
    · rw [if_neg c2, if_neg c2]
      exact ih _ _ hw
theorem lsCh.m (h : ∀ u, min 1000000 (y u) = min 1000000 (z u)) : ∀ k f w w', min 1000000 w = min 1000000 w' → min 1000000 (lsCh s a y k f w) = min 1000000 (lsCh s a z k f w') := by
  intro k
  induction k with
  | zero => intro f w w' h; exact h
  | succ k ih =>
    intro f w w' hw
    have v := lsV.m (a := a) (x := s.1 318 f.toNatClampNeg) h
    rw [lsCh.succ, lsCh.succ]
    by_cases c1 : f.toInt < 0
    · rw [if_pos c1, if_pos c1]; exact hw
    rw [if_neg c1, if_neg c1]
    refine ih _ _ _ ?_
    split <;> split <;> omega
theorem lsF.m (h : ∀ u, min 1000000 (y u) = min 1000000 (z u)) (n : Nat) : min 1000000 (lsF s a y n) = min 1000000 (lsF s a z n) := by
  have v : ∀ x, min 1000000 (lsV a y x) = min 1000000 (lsV a z x) := fun x => lsV.m h
  unfold lsF
  split
  · rfl
  split
  · rfl
  split
  · exact lsRc.m h _ _ _ (by decide)
  split
  · exact lsCh.m h _ _ _ _ rfl
  split
  · by_cases c0 : lsLo s n = 0
    · rw [if_pos c0, if_pos c0]
    · rw [if_neg c0, if_neg c0]
      have v1 := v (s.1 318 n)
      have big : ∀ x, 1000000 ≤ x → 1000000 ≤ lsLo s n * x := fun x hx => Nat.le_trans hx (Nat.le_mul_of_pos_left x (by omega))
      by_cases e : lsV a y (s.1 318 n) = lsV a z (s.1 318 n)
      · rw [e]
      · have b1 := big (lsV a y (s.1 318 n)) (by omega)
        have b2 := big (lsV a z (s.1 318 n)) (by omega)
        split <;> split <;> omega
  split
  · exact v _
  · rfl
theorem lsV.b {x : Int32} (h : ∀ u, y u < 2000000 ↔ z u < 2000000) : lsV a y x < 2000000 ↔ lsV a z x < 2000000 := by
  unfold lsV
  split
  · exact h _
  · exact Iff.rfl
theorem lsRc.b (h : ∀ u, y u < 2000000 ↔ z u < 2000000) : ∀ k f w w', w ≤ 1000000 → w' ≤ 1000000 → (lsRc s a y k f w < 2000000 ↔ lsRc s a z k f w' < 2000000) := by
  intro k
  induction k with
  | zero =>
    intro f w w' h1 h2
    show w < 2000000 ↔ w' < 2000000
    omega
  | succ k ih =>
    intro f w w' h1 h2
    have v := lsV.b (a := a) (x := s.1 318 f.toNatClampNeg) h
    rw [lsRc.succ, lsRc.succ]
    by_cases c1 : f.toInt < 0
    · rw [if_pos c1, if_pos c1]; omega
    rw [if_neg c1, if_neg c1]
    by_cases c2 : s.1 321 f.toNatClampNeg = 0
    · rw [if_pos c2, if_pos c2]
      by_cases c3 : lsV a z (s.1 318 f.toNatClampNeg) < 2000000
      · rw [if_pos (v.mpr c3), if_pos c3]
        exact ih _ _ _ (by omega) (by omega)
      · rw [if_neg (fun y => c3 (v.mp y)), if_neg c3]
    · rw [if_neg c2, if_neg c2]
      exact ih _ _ _ h1 h2
theorem lsCh.b (h : ∀ u, y u < 2000000 ↔ z u < 2000000) : ∀ k f w w', (w < 2000000 ↔ w' < 2000000) → (lsCh s a y k f w < 2000000 ↔ lsCh s a z k f w' < 2000000) := by
  intro k
  induction k with
  | zero => intro f w w' h; exact h
  | succ k ih =>
    intro f w w' hw
    have v := lsV.b (a := a) (x := s.1 318 f.toNatClampNeg) h
    rw [lsCh.succ, lsCh.succ]
    by_cases c1 : f.toInt < 0
    · rw [if_pos c1, if_pos c1]; exact hw
    rw [if_neg c1, if_neg c1]
    refine ih _ _ _ ?_
    by_cases c3 : lsV a z (s.1 318 f.toNatClampNeg) < 2000000
    · rw [if_pos (v.mpr c3), if_pos c3]
      omega
    · rw [if_neg (fun y => c3 (v.mp y)), if_neg c3]
      exact hw
theorem lsF.b (h : ∀ u, y u < 2000000 ↔ z u < 2000000) (n : Nat) : lsF s a y n < 2000000 ↔ lsF s a z n < 2000000 := by
  have v : ∀ x, lsV a y x < 2000000 ↔ lsV a z x < 2000000 := fun x => lsV.b h
  unfold lsF
  split
  · exact Iff.rfl
  split
  · exact Iff.rfl
  split
  · exact lsRc.b h _ _ _ _ (by decide) (by decide)
  split
  · exact lsCh.b h _ _ _ _ Iff.rfl
  split
  · by_cases c0 : lsLo s n = 0
    · rw [if_pos c0, if_pos c0]
    · rw [if_neg c0, if_neg c0]
      by_cases c3 : lsV a z (s.1 318 n) < 2000000
      · rw [if_pos ((v _).mpr c3), if_pos c3]
        omega
      · rw [if_neg (fun y => c3 ((v _).mp y)), if_neg c3]
  split
  · exact v _
  · exact Iff.rfl
/-- what is low asks for what is lower -/
theorem lsV.low {x : Int32} {v : Nat} (h : ∀ u, u < a → y u < v → z u ≤ y u) (hv : v < 1000000) (hl : lsV a y x < v) : lsV a z x ≤ lsV a y x := by
  unfold lsV at *
  by_cases c : x.toNatClampNeg < a
  · rw [if_pos c] at hl ⊢
    rw [if_pos c]
    exact h _ c hl
  · rw [if_neg c] at hl
    omega
theorem lsRc.low {v : Nat} (h : ∀ u, u < a → y u < v → z u ≤ y u) (hv : v < 1000000) : ∀ k f w w', w' ≤ w → w ≤ 1000000 → lsRc s a y k f w ≤ v → lsRc s a z k f w' ≤ v := by
  intro k
  induction k with
  | zero =>
    intro f w w' h1 _ h2
    have h2 : w ≤ v := h2
    show w' ≤ v
    omega
  | succ k ih =>
    intro f w w' h1 h0 h2
    rw [lsRc.succ] at h2 ⊢
    by_cases c1 : f.toInt < 0
    · rw [if_pos c1] at h2 ⊢; omega
    rw [if_neg c1] at h2 ⊢
    by_cases c2 : s.1 321 f.toNatClampNeg = 0
    · rw [if_pos c2] at h2 ⊢
      by_cases c3 : lsV a y (s.1 318 f.toNatClampNeg) < 2000000
      · rw [if_pos c3] at h2
        have g := lsRc.ge (s := s) (a := a) (y := y) k (s.1 319 f.toNatClampNeg) (min 1000000 (w + 1 + lsV a y (s.1 318 f.toNatClampNeg))) (by omega)
        have l := lsV.low (x := s.1 318 f.toNatClampNeg) h hv (by omega)
        rw [if_pos (by omega)]
        exact ih _ _ _ (by omega) (by omega) h2
      · rw [if_neg c3] at h2
        omega
    · rw [if_neg c2] at h2 ⊢
      exact ih _ _ _ h1 h0 h2
theorem lsCh.low {v : Nat} (h : ∀ u, u < a → y u < v → z u ≤ y u) (hv : v < 1000000) : ∀ k f w w', (w ≤ v → w' ≤ v) → lsCh s a y k f w ≤ v → lsCh s a z k f w' ≤ v := by
  intro k
  induction k with
  | zero => intro f w w' h1 h2; exact h1 h2
  | succ k ih =>
    intro f w w' h1 h2
    rw [lsCh.succ] at h2 ⊢
    by_cases c1 : f.toInt < 0
    · rw [if_pos c1] at h2 ⊢; exact h1 h2
    rw [if_neg c1] at h2 ⊢
    refine ih _ _ _ (fun q => ?_) h2
    by_cases c3 : lsV a y (s.1 318 f.toNatClampNeg) < 2000000
    · rw [if_pos c3] at q
      by_cases c4 : w ≤ v
      · have := h1 c4
        split <;> omega
      · have l := lsV.low (x := s.1 318 f.toNatClampNeg) h hv (by omega)
        rw [if_pos (by omega)]
        omega
    · rw [if_neg c3] at q
      have := h1 q
      split <;> omega
end
