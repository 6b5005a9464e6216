/-! Level 2: values that only fall, put lower node by node, round by round: they come to rest. -/
section
/-- the sum of N values -/
def gsm (y : Nat → Nat) : Nat → Nat
  | 0 => 0
  | n + 1 => gsm y n + y n
theorem gsm.le {y z : Nat → Nat} : ∀ N, (∀ i, i < N → y i ≤ z i) → gsm y N ≤ gsm z N := by
  intro N
  induction N with
  | zero => intro _; exact Nat.le_refl _
  | succ N ih =>
    intro h
    have a := ih (fun i hi => h i (by omega))
    have b := h N (by omega)
    show gsm y N + y N ≤ gsm z N + z N
    omega
theorem gsm.eq {y z : Nat → Nat} : ∀ N, (∀ i, i < N → y i ≤ z i) → gsm y N = gsm z N → ∀ i, i < N → y i = z i := by
  intro N
  induction N with
  | zero => intro _ _ i hi; omega
  | succ N ih =>
    intro h e i hi
    have e : gsm y N + y N = gsm z N + z N := e
    have a := gsm.le N (fun i hi => h i (by omega))
    have b := h N (by omega)
    by_cases q : i = N
    · subst q
      omega
    · exact ih (fun i hi => h i (by omega)) (by omega) i (by omega)
theorem gsm.lt {y z : Nat → Nat} {N i : Nat} (h : ∀ i, i < N → y i ≤ z i) (hi : i < N) (hl : y i < z i) : gsm y N < gsm z N := by
  have a := gsm.le N h
  by_cases e : gsm y N = gsm z N
  · have := gsm.eq N h e i hi
    omega
  · omega
theorem gsm.top {y : Nat → Nat} {b : Nat} : ∀ N, (∀ i, i < N → y i ≤ b) → gsm y N ≤ N * b := by
  intro N
  induction N with
  | zero => intro _; exact Nat.zero_le _
  | succ N ih =>
    intro h
    have a := ih (fun i hi => h i (by omega))
    have c := h N (by omega)
    show gsm y N + y N ≤ _
    rw [Nat.succ_mul]
    omega
variable {F : (Nat → Nat) → Nat → Nat} {N T : Nat} {y z : Nat → Nat}
/-- node n is put lower -/
def gsS (F : (Nat → Nat) → Nat → Nat) (y : Nat → Nat) (n : Nat) : Nat → Nat := fun i => if i = n then min (y n) (F y n) else y i
/-- nodes n - 1 .. 0 -/
def gsR (F : (Nat → Nat) → Nat → Nat) : Nat → (Nat → Nat) → Nat → Nat
  | 0, y => y
  | n + 1, y => gsR F n (gsS F y n)
/-- k rounds over N nodes, from T on -/
def gsK (F : (Nat → Nat) → Nat → Nat) (N T : Nat) : Nat → Nat → Nat
  | 0 => fun _ => T
  | k + 1 => gsR F N (gsK F N T k)
def gsMono (F : (Nat → Nat) → Nat → Nat) (N : Nat) : Prop := ∀ (y z : Nat → Nat) (n : Nat), n < N → (∀ u, y u ≤ z u) → F y n ≤ F z n
theorem gsS.le {n i : Nat} : gsS F y n i ≤ y i := by
  unfold gsS
  by_cases q : i = n
  · rw [if_pos q, q]
    omega
  · rw [if_neg q]
    exact Nat.le_refl _
theorem gsR.le : ∀ n (y : Nat → Nat) i, gsR F n y i ≤ y i := by
  intro n
  induction n with
  | zero => intro y i; exact Nat.le_refl _
  | succ n ih => intro y i; exact Nat.le_trans (ih (gsS F y n) i) gsS.le
theorem gsR.out : ∀ n (y : Nat → Nat) i, n ≤ i → gsR F n y i = y i := by
  intro n
  induction n with
  | zero => intro y i _; rfl
  | succ n ih =>
    intro y i hi
    show gsR F n (gsS F y n) i = y i
    rw [ih (gsS F y n) i (by omega)]
    unfold gsS
    rw [if_neg (by omega)]
theorem gsR.byF (M : gsMono F N) : ∀ n (y : Nat → Nat), n ≤ N → ∀ i, i < n → gsR F n y i ≤ F y i := by
  intro n
  induction n with
  | zero => intro y _ i hi; omega
  | succ n ih =>
    intro y hn i hi
    show gsR F n (gsS F y n) i ≤ F y i
    by_cases q : i = n
    · subst q
      have a := gsR.le (F := F) i (gsS F y i) i
      have b : gsS F y i i = min (y i) (F y i) := by unfold gsS; rw [if_pos rfl]
      omega
    · have a := ih (gsS F y n) (by omega) i (by omega)
      exact Nat.le_trans a (M _ _ i (by omega) (fun u => gsS.le))
/-- nothing stands too low -/
def gsOk (F : (Nat → Nat) → Nat → Nat) (N : Nat) (y : Nat → Nat) : Prop := ∀ i, i < N → F y i ≤ y i
theorem gsS.ok (M : gsMono F N) {n : Nat} (hn : n < N) (h : gsOk F N y) : gsOk F N (gsS F y n) := by
  intro i hi
  have a := M _ _ i hi (fun u => gsS.le (F := F) (y := y) (n := n) (i := u))
  have b := h i hi
  unfold gsS at a ⊢
  by_cases q : i = n
  · subst q
    simp only [if_true] at a ⊢
    omega
  · simp only [if_neg q]
    omega
theorem gsR.ok (M : gsMono F N) : ∀ n (y : Nat → Nat), n ≤ N → gsOk F N y → gsOk F N (gsR F n y) := by
  intro n
  induction n with
  | zero => intro y _ h; exact h
  | succ n ih => intro y hn h; exact ih (gsS F y n) (by omega) (gsS.ok M (by omega) h)
theorem gsK.ok (M : gsMono F N) (hT : ∀ i, i < N → F (fun _ => T) i ≤ T) : ∀ k, gsOk F N (gsK F N T k) := by
  intro k
  induction k with
  | zero => exact hT
  | succ k ih => exact gsR.ok M N _ (Nat.le_refl _) ih
theorem gsK.le : ∀ k i, gsK F N T (k + 1) i ≤ gsK F N T k i := fun k i => gsR.le N _ i
theorem gsK.down : ∀ j k i, gsK F N T (k + j) i ≤ gsK F N T k i := by
  intro j
  induction j with
  | zero => intro k i; exact Nat.le_refl _
  | succ j ih => intro k i; exact Nat.le_trans (gsK.le (k + j) i) (ih k i)
theorem gsK.leT : ∀ k i, gsK F N T k i ≤ T := by
  intro k
  induction k with
  | zero => intro i; exact Nat.le_refl _
  | succ k ih => intro i; exact Nat.le_trans (gsK.le k i) (ih i)
theorem gsK.out : ∀ k i, N ≤ i → gsK F N T k i = T := by
  intro k
  induction k with
  | zero => intro i _; rfl
  | succ k ih => intro i hi; exact (gsR.out N _ i hi).trans (ih i hi)
/-- at rest: all later rounds change nothing -/
theorem gsK.rest {k : Nat} (h : gsK F N T (k + 1) = gsK F N T k) : ∀ j, gsK F N T (k + j) = gsK F N T k := by
  intro j
  induction j with
  | zero => rfl
  | succ j ih =>
    show gsR F N (gsK F N T (k + j)) = _
    rw [ih]
    exact h
theorem gsK.same {k : Nat} (h : gsm (gsK F N T (k + 1)) N = gsm (gsK F N T k) N) : gsK F N T (k + 1) = gsK F N T k := by
  funext i
  by_cases q : i < N
  · exact gsm.eq N (fun i _ => gsK.le k i) h i q
  · rw [gsK.out _ i (by omega), gsK.out _ i (by omega)]
/-- one round in which nothing changes comes within so many rounds -/
theorem gsK.ends : ∃ k, k ≤ N * T ∧ gsK F N T (k + 1) = gsK F N T k := by
  have go : ∀ k, (∃ j, j < k ∧ gsK F N T (j + 1) = gsK F N T j) ∨ gsm (gsK F N T k) N + k ≤ N * T := by
    intro k
    induction k with
    | zero => exact Or.inr (gsm.top N (fun i _ => gsK.leT 0 i))
    | succ k ih =>
      rcases ih with ⟨j, j1, j2⟩ | h
      · exact Or.inl ⟨j, by omega, j2⟩
      · have a := gsm.le N (fun i (_ : i < N) => gsK.le (F := F) (N := N) (T := T) k i)
        by_cases e : gsm (gsK F N T (k + 1)) N = gsm (gsK F N T k) N
        · exact Or.inl ⟨k, by omega, gsK.same e⟩
        · exact Or.inr (by omega)
  rcases go (N * T + 1) with ⟨j, j1, j2⟩ | h
  · exact ⟨j, by omega, j2⟩
  · omega
/-- what is below T asks for what is lower yet, or as low and nearer -/
def gsLoc (F : (Nat → Nat) → Nat → Nat) (N T : Nat) (ρ : Nat → Nat) : Prop := ∀ (y z : Nat → Nat) (n v : Nat), n < N → v < T → (∀ u, u < N → (y u < v ∨ (y u = v ∧ ρ u < ρ n)) → z u ≤ y u) → F y n ≤ v → F z n ≤ v
/-- then N rounds are enough -/
theorem gsK.fast {ρ : Nat → Nat} (M : gsMono F N) (hT : ∀ i, i < N → F (fun _ => T) i ≤ T) (L : gsLoc F N T ρ) : gsK F N T (N + 1) = gsK F N T N := by
  obtain ⟨K, _, hK⟩ := gsK.ends (F := F) (N := N) (T := T)
  have rest := gsK.rest hK
  have low : ∀ k i, gsK F N T K i ≤ gsK F N T k i := fun k i => by
    by_cases q : k ≤ K
    · have := gsK.down (F := F) (N := N) (T := T) (K - k) k i
      rw [show k + (K - k) = K by omega] at this
      exact this
    · have := rest (k - K)
      rw [show K + (k - K) = k by omega] at this
      rw [this]
      exact Nat.le_refl _
  have ok := gsK.ok M hT K
  -- the least node that is not yet what it will be
  have step : ∀ k, (∃ i, i < N ∧ gsK F N T k i ≠ gsK F N T K i) → ∃ i, i < N ∧ gsK F N T k i ≠ gsK F N T K i ∧ gsK F N T (k + 1) i = gsK F N T K i := by
    intro k h
    have least : ∀ w, (∃ i, i < N ∧ gsK F N T k i ≠ gsK F N T K i ∧ gsK F N T K i < w) → ∃ i, i < N ∧ gsK F N T k i ≠ gsK F N T K i ∧ (∀ j, j < N → gsK F N T k j ≠ gsK F N T K j → gsK F N T K i ≤ gsK F N T K j) := by
      intro w
      induction w with
      | zero => rintro ⟨i, _, _, z⟩; omega
      | succ w ih =>
        rintro ⟨i, i1, i2, i3⟩
        by_cases q : ∃ j, j < N ∧ gsK F N T k j ≠ gsK F N T K j ∧ gsK F N T K j < w
        · exact ih q
        · refine ⟨i, i1, i2, fun j j1 j2 => ?_⟩
          by_cases z : gsK F N T K j < w
          · exact absurd ⟨j, j1, j2, z⟩ q
          · omega
    obtain ⟨i0, h1, h2⟩ := h
    obtain ⟨i1, a1, a2, a3⟩ := least (gsK F N T K i0 + 1) ⟨i0, h1, h2, by omega⟩
    have near : ∀ w, (∃ i, i < N ∧ gsK F N T k i ≠ gsK F N T K i ∧ gsK F N T K i = gsK F N T K i1 ∧ ρ i < w) → ∃ i, i < N ∧ gsK F N T k i ≠ gsK F N T K i ∧ gsK F N T K i = gsK F N T K i1 ∧ (∀ j, j < N → gsK F N T k j ≠ gsK F N T K j → gsK F N T K j = gsK F N T K i1 → ρ i ≤ ρ j) := by
      intro w
      induction w with
      | zero => rintro ⟨i, _, _, _, z⟩; omega
      | succ w ih =>
        rintro ⟨i, b1, b2, b3, b4⟩
        by_cases q : ∃ j, j < N ∧ gsK F N T k j ≠ gsK F N T K j ∧ gsK F N T K j = gsK F N T K i1 ∧ ρ j < w
        · exact ih q
        · refine ⟨i, b1, b2, b3, fun j j1 j2 j3 => ?_⟩
          by_cases z : ρ j < w
          · exact absurd ⟨j, j1, j2, j3, z⟩ q
          · omega
    obtain ⟨i2, b1, b2, b3, b4⟩ := near (ρ i1 + 1) ⟨i1, a1, a2, rfl, by omega⟩
    refine ⟨i2, b1, b2, ?_⟩
    have lo := low (k + 1) i2
    have f1 := gsR.byF M N (gsK F N T k) (Nat.le_refl _) i2 b1
    have lo0 := low k i2
    have tt := gsK.leT (F := F) (N := N) (T := T) k i2
    have q := L (gsK F N T K) (gsK F N T k) i2 (gsK F N T K i2) b1 (by omega) (fun u hu hy => by
      by_cases z : gsK F N T k u = gsK F N T K u
      · rw [z]
        exact Nat.le_refl _
      · have c1 := a3 u hu z
        rcases hy with y | ⟨y1, y2⟩
        · omega
        · have := b4 u hu z (by omega)
          omega) (ok i2 b1)
    have f1 : gsK F N T (k + 1) i2 ≤ _ := f1
    omega
  -- so many are as they will be
  have cnt : ∀ k, k ≤ gsm (fun i => if gsK F N T k i = gsK F N T K i then 1 else 0) N ∨ ∀ i, i < N → gsK F N T k i = gsK F N T K i := by
    intro k
    induction k with
    | zero => exact Or.inl (Nat.zero_le _)
    | succ k ih =>
      have keep : ∀ i, gsK F N T k i = gsK F N T K i → gsK F N T (k + 1) i = gsK F N T K i := fun i h => by
        have a := gsK.le (F := F) (N := N) (T := T) k i
        have b := low (k + 1) i
        omega
      by_cases h : ∃ i, i < N ∧ gsK F N T k i ≠ gsK F N T K i
      · rcases ih with ih | ih
        · obtain ⟨i, i1, i2, i3⟩ := step k h
          left
          have := gsm.lt (y := fun i => if gsK F N T k i = gsK F N T K i then 1 else 0) (z := fun i => if gsK F N T (k + 1) i = gsK F N T K i then 1 else 0) (N := N) (i := i) (fun j _ => by
            show (if gsK F N T k j = gsK F N T K j then 1 else 0) ≤ (if gsK F N T (k + 1) j = gsK F N T K j then 1 else 0)
            by_cases q : gsK F N T k j = gsK F N T K j
            · rw [if_pos q, if_pos (keep j q)]
              exact Nat.le_refl _
            · rw [if_neg q]
              exact Nat.zero_le _) i1 (by
            show (if gsK F N T k i = gsK F N T K i then 1 else 0) < (if gsK F N T (k + 1) i = gsK F N T K i then 1 else 0)
            rw [if_neg i2, if_pos i3]
            decide)
          omega
        · obtain ⟨i, i1, i2⟩ := h
          exact absurd (ih i i1) i2
      · right
        intro i hi
        refine keep i ?_
        by_cases q : gsK F N T k i = gsK F N T K i
        · exact q
        · exact absurd ⟨i, hi, q⟩ h
  have all : ∀ i, i < N → gsK F N T N i = gsK F N T K i := by
    rcases cnt N with h | h
    · have top := gsm.top (y := fun i => if gsK F N T N i = gsK F N T K i then 1 else 0) (b := 1) N (fun i _ => by
        show (if gsK F N T N i = gsK F N T K i then 1 else 0) ≤ 1
        split <;> omega)
      intro i hi
      by_cases q : gsK F N T N i = gsK F N T K i
      · exact q
      · have := gsm.lt (y := fun i => if gsK F N T N i = gsK F N T K i then 1 else 0) (z := fun _ => 1) (N := N) (i := i) (fun j _ => by
          show (if gsK F N T N j = gsK F N T K j then 1 else 0) ≤ 1
          split <;> omega) hi (by
          show (if gsK F N T N i = gsK F N T K i then 1 else 0) < 1
          rw [if_neg q]
          decide)
        have one : ∀ n, gsm (fun _ => 1) n = n := by
          intro n
          induction n with
          | zero => rfl
          | succ n ih => show gsm (fun _ => 1) n + 1 = n + 1; rw [ih]
        rw [one] at this
        omega
    · exact h
  have eqN : gsK F N T N = gsK F N T K := by
    funext i
    by_cases q : i < N
    · exact all i q
    · rw [gsK.out _ i (by omega), gsK.out _ i (by omega)]
  show gsR F N (gsK F N T N) = gsK F N T N
  rw [eqN]
  exact hK
/-- at rest a value is what its parts make it -/
theorem gsK.fix (M : gsMono F N) (hT : ∀ i, i < N → F (fun _ => T) i ≤ T) {k : Nat} (h : gsK F N T (k + 1) = gsK F N T k) : ∀ i, i < N → F (gsK F N T k) i = gsK F N T k i := by
  intro i hi
  have a := gsK.ok M hT k i hi
  have b := gsR.byF M N (gsK F N T k) (Nat.le_refl _) i hi
  have c : gsR F N (gsK F N T k) i = gsK F N T k i := congrFun h i
  omega
/-- what holds of all that is below T: closed under one step -/
theorem gsK.least {Z : Nat → Prop} (hZ : ∀ (y : Nat → Nat) i, i < N → (∀ u, y u < T → Z u) → F y i < T → Z i) : ∀ k i, gsK F N T k i < T → Z i := by
  have rd : ∀ n (y : Nat → Nat), n ≤ N → (∀ u, y u < T → Z u) → ∀ u, gsR F n y u < T → Z u := by
    intro n
    induction n with
    | zero => intro y _ h; exact h
    | succ n ih =>
      intro y hn h
      refine ih (gsS F y n) (by omega) (fun u hu => ?_)
      unfold gsS at hu
      by_cases q : u = n
      · subst q
        rw [if_pos rfl] at hu
        by_cases w : y u < T
        · exact h u w
        · exact hZ y u (by omega) h (by omega)
      · rw [if_neg q] at hu
        exact h u hu
  intro k
  induction k with
  | zero => intro i h; exact absurd h (Nat.lt_irrefl _)
  | succ k ih => exact rd N _ (Nat.le_refl _) ih
end
