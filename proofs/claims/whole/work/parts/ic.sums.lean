/-! Level 2: sums over an order of fields. -/
def sm (f : Nat → Nat) : Nat → Nat
  | 0 => 0
  | m + 1 => sm f m + f m
theorem sm_s (f : Nat → Nat) (m : Nat) : sm f (m + 1) = sm f m + f m := rfl
theorem sm_cg {f g : Nat → Nat} : ∀ m, (∀ i, i < m → f i = g i) → sm f m = sm g m := by
  intro m
  induction m with
  | zero => intro _; rfl
  | succ m ih => intro h; rw [sm_s, sm_s, ih (fun i hi => h i (by omega)), h m (by omega)]
theorem sm_del {g : Nat → Nat} {p : Nat} : ∀ m, p < m + 1 → sm g (m + 1) = sm (fun i => if i < p then g i else g (i + 1)) m + g p := by
  intro m
  induction m with
  | zero => intro h; rw [show p = 0 by omega]; rfl
  | succ m ih =>
    intro h
    by_cases e : p = m + 1
    · subst e
      rw [sm_s g (m + 1)]
      have : sm g (m + 1) = sm (fun i => if i < m + 1 then g i else g (i + 1)) (m + 1) := sm_cg _ (fun i hi => by show g i = if i < m + 1 then g i else g (i + 1); rw [if_pos hi])
      rw [this]
    · have q := ih (by omega)
      rw [sm_s g (m + 1), q, sm_s]
      show _ = sm _ m + (if m < p then g m else g (m + 1)) + g p
      rw [if_neg (by omega)]
      omega
theorem sm_mono {f : Nat → Nat} : ∀ d m, sm f m ≤ sm f (m + d) := by
  intro d
  induction d with
  | zero => intro m; exact Nat.le_refl _
  | succ d ih => intro m; have := ih m; rw [show m + (d + 1) = m + d + 1 by omega, sm_s]; omega
/-- the sum does not change -/
theorem se_sum {f Z : Nat → Nat} : ∀ m (T : Nat → Nat), SE Z m T → sm (fun i => f (T i)) m = sm f m := by
  intro m
  induction m with
  | zero => intro T _; rfl
  | succ m ih =>
    intro T h
    obtain ⟨a, b, d⟩ := h
    obtain ⟨p, hp, q⟩ := d m (by omega)
    have inj : ∀ i j, i < m + 1 → j < m + 1 → T i = T j → i = j := fun i j hi hj e => by
      by_cases c : i < j
      · have := b i j c hj; rw [e] at this; omega
      · by_cases c2 : j < i
        · have := b j i c2 hi; rw [e] at this; omega
        · omega
    have S' : SE Z m (fun i => if i < p then T i else T (i + 1)) := by
      refine ⟨fun i hi => ?_, fun i j hij hj => ?_, fun l hl => ?_⟩
      · show (if i < p then T i else T (i + 1)) < m
        by_cases c : i < p
        · rw [if_pos c]
          have h1 := a i (by omega)
          have h2 : T i ≠ m := fun e => by have := inj i p (by omega) hp (by rw [e, q]); omega
          omega
        · rw [if_neg c]
          have h1 := a (i + 1) (by omega)
          have h2 : T (i + 1) ≠ m := fun e => by have := inj (i + 1) p (by omega) hp (by rw [e, q]); omega
          omega
      · show Z (if i < p then T i else T (i + 1)) < Z (if j < p then T j else T (j + 1))
        by_cases c : j < p
        · rw [if_pos c, if_pos (by omega)]; exact b i j hij (by omega)
        · by_cases c2 : i < p
          · rw [if_pos c2, if_neg c]; exact b i (j + 1) (by omega) (by omega)
          · rw [if_neg c2, if_neg c]; exact b (i + 1) (j + 1) (by omega) (by omega)
      · obtain ⟨i, hi, e⟩ := d l (by omega)
        have ne : i ≠ p := fun z => by rw [z, q] at e; omega
        by_cases c : i < p
        · exact ⟨i, by omega, by show (if i < p then T i else T (i + 1)) = l; rw [if_pos c, e]⟩
        · exact ⟨i - 1, by omega, by show (if i - 1 < p then T (i - 1) else T (i - 1 + 1)) = l; rw [if_neg (by omega), show i - 1 + 1 = i by omega, e]⟩
    rw [sm_del (p := p) m hp, sm_s, q]
    have r := ih _ S'
    have : sm (fun i => if i < p then f (T i) else f (T (i + 1))) m = sm (fun i => f (if i < p then T i else T (i + 1))) m := sm_cg _ (fun i _ => by
      show (if i < p then f (T i) else f (T (i + 1))) = f (if i < p then T i else T (i + 1))
      split <;> rfl)
    rw [this, r]
