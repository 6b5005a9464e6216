/-! Level 2: depths of templs: two ways of counting come to the same above 60. -/
def dU (D : Nat → Nat) (u x : Nat) : Nat → Nat := fun i => if i = u then x else D i
/-- a depth from depths: 1 or more, monotone, capped alike, from one of its parts -/
def dF (n : Nat) (F : (Nat → Nat) → Nat → Nat) : Prop := ∀ u, u < n → (∀ D D', (∀ v, v < n → D v ≤ D' v) → F D u ≤ F D' u) ∧ (∀ D, min 61 (F D u) ≤ min 61 (F (fun v => min 61 (D v)) u)) ∧ (∀ D, 1 ≤ F D u) ∧ ∀ D, ∃ l, 1 ≤ l ∧ ((F D u = l ∧ ∀ D', l ≤ F D' u) ∨ ∃ v, v < n ∧ F D u = l + D v ∧ ∀ D', l + D' v ≤ F D' u)
/-- the class's round, as far as u -/
def gC (F : (Nat → Nat) → Nat → Nat) (D : Nat → Nat) : Nat → Nat → Nat
  | 0 => D
  | u + 1 => dU (gC F D u) u (max (gC F D u u) (min 61 (F (gC F D u) u)))
/-- the reference's -/
def gR (F : (Nat → Nat) → Nat → Nat) (D : Nat → Nat) : Nat → Nat → Nat
  | 0 => D
  | u + 1 => dU (gR F D u) u (min 1000 (F (gR F D u) u))
def kC (F : (Nat → Nat) → Nat → Nat) (n : Nat) : Nat → Nat → Nat
  | 0 => fun _ => 1
  | j + 1 => gC F (kC F n j) n
def kR (F : (Nat → Nat) → Nat → Nat) (n : Nat) : Nat → Nat → Nat
  | 0 => fun _ => 0
  | j + 1 => gR F (kR F n j) n
section
variable {F : (Nat → Nat) → Nat → Nat} {D D' : Nat → Nat} {n u v j J k : Nat}
theorem dU.at (D : Nat → Nat) (u x : Nat) : dU D u x u = x := if_pos rfl
theorem dU.no {x : Nat} (h : v ≠ u) : dU D u x v = D v := if_neg h
theorem gC.ge (h : u ≤ v) : gC F D u v = D v := by
  induction u with
  | zero => rfl
  | succ u ih => exact (dU.no (by omega)).trans (ih (by omega))
theorem gC.lt (h : v < u) : gC F D u v = gC F D (v + 1) v := by
  induction u with
  | zero => omega
  | succ u ih =>
    by_cases c : v = u
    · rw [c]
    · exact (dU.no c).trans (ih (by omega))
theorem gR.ge (h : u ≤ v) : gR F D u v = D v := by
  induction u with
  | zero => rfl
  | succ u ih => exact (dU.no (by omega)).trans (ih (by omega))
theorem gR.lt (h : v < u) : gR F D u v = gR F D (v + 1) v := by
  induction u with
  | zero => omega
  | succ u ih =>
    by_cases c : v = u
    · rw [c]
    · exact (dU.no c).trans (ih (by omega))
theorem kC.nx (h : u < n) : kC F n (j + 1) u = max (kC F n j u) (min 61 (F (gC F (kC F n j) u) u)) := by
  show gC F (kC F n j) n u = _
  rw [gC.lt h]
  refine (dU.at _ _ _).trans ?_
  rw [gC.ge (Nat.le_refl u)]
theorem kR.nx (h : u < n) : kR F n (j + 1) u = min 1000 (F (gR F (kR F n j) u) u) := by
  show gR F (kR F n j) n u = _
  rw [gR.lt h]
  exact dU.at _ _ _
/-- between rounds -/
theorem kC.mix (hu : u ≤ n) : gC F (kC F n j) u v = if v < u then kC F n (j + 1) v else kC F n j v := by
  by_cases c : v < u
  · rw [if_pos c, gC.lt c]
    exact (gC.lt (show v < n by omega)).symm
  · rw [if_neg c, gC.ge (by omega)]
theorem kR.mix (hu : u ≤ n) : gR F (kR F n j) u v = if v < u then kR F n (j + 1) v else kR F n j v := by
  by_cases c : v < u
  · rw [if_pos c, gR.lt c]
    exact (gR.lt (show v < n by omega)).symm
  · rw [if_neg c, gR.ge (by omega)]
theorem kC.inc (h : u < n) : kC F n j u ≤ kC F n (j + 1) u := by
  rw [kC.nx h]
  exact Nat.le_max_left _ _
theorem kC.top (h : u < n) : kC F n j u ≤ 61 := by
  induction j with
  | zero => exact (show 1 ≤ 61 by decide)
  | succ j ih =>
    rw [kC.nx h]
    omega
theorem kR.inc (hF : dF n F) : ∀ j u, u < n → kR F n j u ≤ kR F n (j + 1) u := by
  intro j
  induction j with
  | zero => intro u _; exact Nat.zero_le _
  | succ j ih =>
    intro u
    induction u using Nat.strongRecOn with
    | ind u iu =>
      intro hu
      rw [kR.nx hu, kR.nx (j := j + 1) hu]
      have := (hF u hu).1 (gR F (kR F n j) u) (gR F (kR F n (j + 1)) u) (fun v hv => by
        rw [kR.mix (by omega), kR.mix (by omega)]
        by_cases c : v < u
        · rw [if_pos c, if_pos c]
          exact iu v c hv
        · rw [if_neg c, if_neg c]
          exact ih v hv)
      omega
theorem kR.mono (hF : dF n F) (h : j ≤ k) (hu : u < n) : kR F n j u ≤ kR F n k u := by
  induction k with
  | zero =>
    have : j = 0 := by omega
    rw [this]
    exact Nat.le_refl _
  | succ k ih =>
    by_cases c : j = k + 1
    · rw [c]
      exact Nat.le_refl _
    · exact Nat.le_trans (ih (by omega)) (kR.inc hF k u hu)
theorem kC.low (hF : dF n F) : ∀ j u, u < n → min 61 (kR F n j u) ≤ kC F n j u := by
  intro j
  induction j with
  | zero =>
    intro u _
    show min 61 0 ≤ 1
    decide
  | succ j ih =>
    intro u
    induction u using Nat.strongRecOn with
    | ind u iu =>
      intro hu
      rw [kR.nx hu, kC.nx hu]
      have h1 := (hF u hu).2.1 (gR F (kR F n j) u)
      have h2 := (hF u hu).1 (fun v => min 61 (gR F (kR F n j) u v)) (gC F (kC F n j) u) (fun v hv => by
        show min 61 (gR F (kR F n j) u v) ≤ _
        rw [kR.mix (by omega), kC.mix (by omega)]
        by_cases c : v < u
        · rw [if_pos c, if_pos c]
          exact iu v c hv
        · rw [if_neg c, if_neg c]
          exact ih v hv)
      omega
theorem kC.up (hF : dF n F) : ∀ j u, u < n → kC F n j u ≤ min 61 (kR F n (j + 1) u) := by
  intro j
  induction j with
  | zero =>
    intro u hu
    have h1 := (hF u hu).2.2.1 (gR F (kR F n 0) u)
    rw [kR.nx hu]
    show 1 ≤ _
    omega
  | succ j ih =>
    intro u
    induction u using Nat.strongRecOn with
    | ind u iu =>
      intro hu
      have h0 := ih u hu
      have h1 := kR.inc hF (j + 1) u hu
      have h2 := (hF u hu).1 (gC F (kC F n j) u) (gR F (kR F n (j + 1)) u) (fun v hv => by
        rw [kR.mix (by omega), kC.mix (by omega)]
        by_cases c : v < u
        · rw [if_pos c, if_pos c]
          have := iu v c hv
          omega
        · rw [if_neg c, if_neg c]
          have := ih v hv
          omega)
      have h3 := kR.nx (F := F) (j := j + 1) hu
      rw [kC.nx hu]
      omega
/-- what still grows is already great -/
theorem kC.late (hF : dF n F) : ∀ j u, u < n → kC F n (j + 1) u ≠ kC F n j u → min 61 (j + 1) ≤ kC F n j u := by
  intro j
  induction j with
  | zero =>
    intro u _ _
    show min 61 (0 + 1) ≤ 1
    decide
  | succ j ih =>
    intro u
    induction u using Nat.strongRecOn with
    | ind u iu =>
      intro hu hne
      have e2 := kC.nx (F := F) (j := j + 1) hu
      have e1 := kC.nx (F := F) (j := j) hu
      obtain ⟨l, l1, h⟩ := (hF u hu).2.2.2 (gC F (kC F n (j + 1)) u)
      rcases h with ⟨h1, h2⟩ | ⟨v, hv, h1, h2⟩
      · have := h2 (gC F (kC F n j) u)
        omega
      · have h3 := h2 (gC F (kC F n j) u)
        rw [kC.mix (by omega)] at h1 h3
        by_cases c : v < u
        · rw [if_pos c] at h1 h3
          by_cases q : kC F n (j + 1 + 1) v = kC F n (j + 1) v
          · omega
          · have := iu v c hv q
            omega
        · rw [if_neg c] at h1 h3
          by_cases q : kC F n (j + 1) v = kC F n j v
          · omega
          · have := ih v hv q
            omega
theorem kC.still (hF : dF n F) (h : 60 ≤ j) (hu : u < n) : kC F n (j + 1) u = kC F n j u := by
  refine Classical.byContradiction (fun y => ?_)
  have h1 := kC.late hF j u hu y
  have h2 := kC.inc (F := F) (j := j) hu
  have h3 := kC.top (F := F) (j := j + 1) hu
  omega
theorem gC.cg (hF : dF n F) (h : ∀ v, v < n → D v = D' v) : ∀ u, u ≤ n → ∀ v, v < n → gC F D u v = gC F D' u v := by
  intro u
  induction u with
  | zero => intro _ v hv; exact h v hv
  | succ u ih =>
    intro hu v hv
    have e : ∀ v, v < n → gC F D u v = gC F D' u v := ih (by omega)
    have eF : F (gC F D u) u = F (gC F D' u) u := Nat.le_antisymm ((hF u (by omega)).1 _ _ (fun v hv => Nat.le_of_eq (e v hv))) ((hF u (by omega)).1 _ _ (fun v hv => Nat.le_of_eq (e v hv).symm))
    show dU (gC F D u) u _ v = dU (gC F D' u) u _ v
    rw [eF, e u (by omega)]
    unfold dU
    rw [e v hv]
/-- after a round that changed nothing, or 62 rounds, nothing changes -/
theorem kC.stop (hF : dF n F) (h : 62 ≤ J ∨ ∀ u, u < n → kC F n (J + 1) u = kC F n J u) : ∀ k, J ≤ k → ∀ u, u < n → kC F n k u = kC F n J u := by
  have nx : ∀ k, J ≤ k → ∀ u, u < n → kC F n (k + 1) u = kC F n k u := by
    rcases h with h | h
    · exact fun k hk u hu => kC.still hF (by omega) hu
    · intro k hk
      induction k with
      | zero =>
        have : J = 0 := by omega
        subst this
        exact h
      | succ k ih =>
        by_cases c : J = k + 1
        · subst c
          exact h
        · intro u hu
          exact gC.cg hF (ih (by omega)) n (Nat.le_refl _) u hu
  intro k
  induction k with
  | zero =>
    intro hk u hu
    have : J = 0 := by omega
    rw [this]
  | succ k ih =>
    intro hk u hu
    by_cases c : J = k + 1
    · rw [c]
    · exact (nx k (by omega) u hu).trans (ih (by omega) u hu)
/-- both tell the same templs -/
theorem kC.same (hF : dF n F) (hJ : J ≤ 62) (h : 62 ≤ J ∨ ∀ u, u < n → kC F n (J + 1) u = kC F n J u) (hu : u < n) : 60 < kC F n J u ↔ 60 < kR F n 64 u := by
  have h1 := kC.stop hF h 64 (by omega) u hu
  have h2 := kC.low hF 64 u hu
  have h3 := kC.up hF J u hu
  have h4 := kR.mono hF (show J + 1 ≤ 64 by omega) hu
  omega
end
