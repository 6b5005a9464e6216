/-! Level 2: the parts of a whole VALUE: where they stand; the reference tells their numbers. -/
theorem up_lt {g : Nat → Nat} {E : Nat} (h : ∀ x, x < E → g x < g (x + 1)) : ∀ d x, x + d < E + 1 → g x + d ≤ g (x + d) := by
  intro d
  induction d with
  | zero => intro x _; exact Nat.le_refl _
  | succ d ih =>
    intro x hx
    have h1 := ih x (by omega)
    have h2 := h (x + d) (by omega)
    have e : x + (d + 1) = x + d + 1 := by omega
    rw [e]
    omega
section
variable {c r : Nat → Int64} {i p n m f : Nat}
theorem hl_pos (q : Nat) : 1 ≤ hl r q := by
  unfold hl
  by_cases h4 : r q = lN 4
  · rw [if_pos h4]; omega
  · rw [if_neg h4]
    by_cases h2 : r q = lN 2
    · rw [if_pos h2]; omega
    · rw [if_neg h2]
      by_cases h6 : r q = lN 6
      · rw [if_pos h6]; omega
      · rw [if_neg h6]; omega
theorem sk_ge (u : Nat) : u ≤ sk c u := by
  unfold sk
  by_cases h : vk (c u) = 9
  · rw [if_pos h]; omega
  · rw [if_neg h]; omega
theorem PD.rise {E x : Nat} (h : PD c r i p E x) : wv c i x < wu c i (x + 1) := by
  obtain ⟨f, n, m, t, k, ⟨_, V⟩, hc, _⟩ := h
  have n0 := V.pos.1
  have sc := (vk_of hc).2
  show wv c i x < wv c i x + (if vk (c (wv c i x)) = 2 then vsz (c (wv c i x)) else 1)
  rw [sc]
  by_cases e : vk (c (wv c i x)) = 2
  · rw [if_pos e]; omega
  · rw [if_neg e]; omega
/-- where all parts of a VALUE stand -/
theorem pe_all (V : VW c r f i p n m) (hf : f ≤ 120) : ∃ E, 0 < E ∧ E ≤ 120 ∧ (∀ x, x < E → PD c r i p E x) ∧ wv c i 0 = i ∧ (∀ x, x ≤ E → wu c i x ≤ i + n) ∧ (∀ x, x < E → i ≤ wv c i x ∧ wv c i x < i + n) ∧ (∀ x x', x < E → x' < E → wv c i x = wv c i x' → x = x') ∧ (∀ x, x ≤ E → p ≤ wq r p x ∧ wq r p x ≤ p + m) ∧ (∀ x x', x < E → x' < E → wq r p x = wq r p x' → x = x') ∧ (∀ x, x < E → wq r p x < p + m) ∧ wq r p E = p + m := by
  have hv : wv c i 0 = i := by
    obtain ⟨t, k, h1, h2, _⟩ := VW.hd V
    show sk c i = i
    unfold sk
    rw [(vk_of h1).1, if_neg (by omega)]
  obtain ⟨E, e1, e2, e3, e4⟩ := pe_go (c := c) (r := r) (i := i) (p := p) f i p n m 0 V hf hv rfl
  rw [Nat.zero_add] at e2 e3 e4
  have e4 : ∀ x, x < E → PD c r i p E x := fun x hx => e4 x (Nat.zero_le _) hx
  have n120 := V.pos.2.1
  have A : ∀ x, x < E → wu c i x < wu c i (x + 1) := fun x hx => Nat.lt_of_le_of_lt (sk_ge (c := c) (wu c i x)) (e4 x hx).rise
  have B : ∀ x, x < E → wq r p x < wq r p (x + 1) := fun x _ => by
    have := hl_pos (r := r) (wq r p x)
    show wq r p x < wq r p x + hl r (wq r p x)
    omega
  have A1 : ∀ x, x ≤ E → i + x ≤ wu c i x ∧ wu c i x + (E - x) ≤ i + n := fun x hx => by
    have a := up_lt (g := wu c i) (E := E) A x 0 (by omega)
    have b := up_lt (g := wu c i) (E := E) A (E - x) x (by omega)
    rw [Nat.zero_add] at a
    rw [show x + (E - x) = E by omega, e2] at b
    have z : wu c i 0 = i := rfl
    omega
  have B1 : ∀ x, x ≤ E → p + x ≤ wq r p x ∧ wq r p x + (E - x) ≤ p + m := fun x hx => by
    have a := up_lt (g := wq r p) (E := E) B x 0 (by omega)
    have b := up_lt (g := wq r p) (E := E) B (E - x) x (by omega)
    rw [Nat.zero_add] at a
    rw [show x + (E - x) = E by omega, e3] at b
    have z : wq r p 0 = p := rfl
    omega
  have V1 : ∀ x, x < E → wu c i x ≤ wv c i x ∧ wv c i x < wu c i (x + 1) := fun x hx => ⟨sk_ge (c := c) (wu c i x), (e4 x hx).rise⟩
  have W : ∀ x x', x < x' → x' < E → wv c i x < wv c i x' := fun x x' h1 h2 => by
    have a := (V1 x (by omega)).2
    have b := (V1 x' h2).1
    have d := up_lt (g := wu c i) (E := E) A (x' - (x + 1)) (x + 1) (by omega)
    rw [show x + 1 + (x' - (x + 1)) = x' by omega] at d
    omega
  have X : ∀ x x', x < x' → x' < E → wq r p x < wq r p x' := fun x x' h1 h2 => by
    have d := up_lt (g := wq r p) (E := E) B (x' - x) x (by omega)
    rw [show x + (x' - x) = x' by omega] at d
    omega
  refine ⟨E, e1, ?_, e4, hv, fun x hx => by have := A1 x hx; omega, fun x hx => ?_, fun x x' h1 h2 h => ?_, fun x hx => by have := B1 x hx; omega, fun x x' h1 h2 h => ?_, fun x hx => by have := B1 x (by omega); omega, e3⟩
  · have := A1 E (Nat.le_refl _)
    omega
  · have a := V1 x hx
    have b := A1 x (by omega)
    have d := A1 (x + 1) (by omega)
    omega
  · rcases Nat.lt_trichotomy x x' with y | y | y
    · have := W x x' y h2; omega
    · exact y
    · have := W x' x y h1; omega
  · rcases Nat.lt_trichotomy x x' with y | y | y
    · have := X x x' y h2; omega
    · exact y
    · have := X x' x y h1; omega
end
section
variable {s : t_S} {p E m : Nat}
/-- what the reference writes where it tells the parts' numbers -/
def npW (b _j : Nat) : Prop := b = 1029
theorem np_loop (hb : p + m ≤ 626600) (hm : m < 250) (hE : wq (s.2.1 1006) p E = p + m) (hw : ∀ x, x < E → p ≤ wq (s.2.1 1006) p x ∧ wq (s.2.1 1006) p x < p + m) (E130 : E ≤ 130) (hi : ∀ x x', x < E → x' < E → wq (s.2.1 1006) p x = wq (s.2.1 1006) p x' → x = x') (hk : ∀ x, x < E → ∃ K : Nat, K ≤ 8 ∧ s.2.1 1006 (wq (s.2.1 1006) p x) = lN K ∧ (K ≠ 4 → wq (s.2.1 1006) p x + 2 ≤ p + m) ∧ (K = 2 ∨ K = 6 → ∃ v : Nat, v ≤ 120 ∧ s.2.1 1006 (wq (s.2.1 1006) p x + 1) = lN v)) : ∀ (j x : Nat) (s1 : t_S) (n : Nat), x + j = E → j < n → l2_fr npW s s1 → (∀ y, y < x → s1.1 1029 (wq (s.2.1 1006) p y - p) = nI (y + 1)) → ∃ s', t_loop b_X13_numberParts_14 n (nI p, nI (p + m), nI (x + 1), nI (wq (s.2.1 1006) p x), s1) = some s' ∧ l2_fr npW s s' ∧ ∀ y, y < E → s'.1 1029 (wq (s.2.1 1006) p y - p) = nI (y + 1) := by
  intro j
  induction j with
  | zero =>
    intro x s1 n hx hn fr h
    obtain ⟨n, rfl⟩ : ∃ y, n = y + 1 := ⟨n - 1, by omega⟩
    obtain rfl : x = E := by omega
    refine ⟨s1, ?_, fr, h⟩
    have st : b_X13_numberParts_14 (nI p, nI (p + m), nI (x + 1), nI (wq (s.2.1 1006) p x), s1) = some (.inr s1) := by
      show k_X13_numberParts_14 (nI p) (nI (p + m)) (nI (x + 1)) (nI (wq (s.2.1 1006) p x)) s1 = _
      unfold k_X13_numberParts_14
      rw [hE, if_pos (nI_le (Nat.le_refl _) (by omega))]
      rfl
    exact l2_lpR st
  | succ j ih =>
    intro x s1 n hx hn fr h
    obtain ⟨n, rfl⟩ : ∃ y, n = y + 1 := ⟨n - 1, by omega⟩
    obtain ⟨w1, w2⟩ := hw x (by omega)
    obtain ⟨K, k8, kr, k2, kv⟩ := hk x (by omega)
    have e6 : ∀ q, s1.2.1 1006 q = s.2.1 1006 q := fun q => (fr 1006 q (show ¬ npW 1006 q by unfold npW; decide)).2.1
    have n4 : nI K = (4 : Int32) ↔ K = 4 := nI_eq (b := 4) (by omega) (by decide)
    have n2 : nI K = (2 : Int32) ↔ K = 2 := nI_eq (b := 2) (by omega) (by decide)
    have n6 : nI K = (6 : Int32) ↔ K = 6 := nI_eq (b := 6) (by omega) (by decide)
    have hq : wq (s.2.1 1006) p (x + 1) = wq (s.2.1 1006) p x + hl (s.2.1 1006) (wq (s.2.1 1006) p x) := rfl
    have st : b_X13_numberParts_14 (nI p, nI (p + m), nI (x + 1), nI (wq (s.2.1 1006) p x), s1) = some (.inl (nI p, nI (p + m), nI (x + 1 + 1), nI (wq (s.2.1 1006) p (x + 1)), t_setI s1 1029 (wq (s.2.1 1006) p x - p) (nI (x + 1)))) := by
      show k_X13_numberParts_14 (nI p) (nI (p + m)) (nI (x + 1)) (nI (wq (s.2.1 1006) p x)) s1 = _
      unfold k_X13_numberParts_14 k_X13_numberParts_101
      rw [if_neg (nI_ge (show wq (s.2.1 1006) p x < p + m by omega) (by omega)), nI_dif w1, if_pos (l2_ix (j := wq (s.2.1 1006) p x - p) (n := 270) (by omega) (by decide)), t_let, nI_clamp (n := wq (s.2.1 1006) p x - p) (by omega), if_pos (l2_ix (j := wq (s.2.1 1006) p x) (n := 626600) (by omega) (by decide)), nI_clamp (n := wq (s.2.1 1006) p x) (by omega)]
      have g6 : ∀ q, (t_setI s1 1029 (wq (s.2.1 1006) p x - p) (nI (x + 1))).2.1 1006 q = s.2.1 1006 q := e6
      simp only [g6, kr, lN_w, nI_1]
      rw [hq, hl]
      simp only [kr]
      by_cases c4 : K = 4
      · subst c4
        rw [if_pos (show nI 4 = (4 : Int32) from rfl), if_pos rfl]
      · rw [if_neg (fun y => c4 (n4.mp y)), if_neg (lN_ne (by omega) (by decide) c4)]
        have k2 := k2 c4
        by_cases c2 : K = 2
        · obtain ⟨v, v1, v2⟩ := kv (Or.inl c2)
          subst c2
          rw [if_pos (show nI 2 = (2 : Int32) from rfl), if_pos rfl, if_pos (l2_ix (j := wq (s.2.1 1006) p x + 1) (n := 626600) (by omega) (by decide)), nI_clamp (n := wq (s.2.1 1006) p x + 1) (by omega), v2, vr_packs (by omega), l2_bs, pk_lT (by omega)]
          rw [show (2 : Int32) = nI 2 from rfl, nI_add, nI_add]
          rfl
        · rw [if_neg (fun y => c2 (n2.mp y)), if_neg (lN_ne (by omega) (by decide) c2)]
          by_cases c6 : K = 6
          · obtain ⟨v, v1, v2⟩ := kv (Or.inr c6)
            subst c6
            rw [if_pos (show nI 6 = (6 : Int32) from rfl), if_pos rfl, if_pos (l2_ix (j := wq (s.2.1 1006) p x + 1) (n := 626600) (by omega) (by decide)), nI_clamp (n := wq (s.2.1 1006) p x + 1) (by omega), v2, pk_lT (by omega), lN_w]
            rw [show (2 : Int32) = nI 2 from rfl, nI_add, nI_add]
            rfl
          · rw [if_neg (fun y => c6 (n6.mp y)), if_neg (lN_ne (by omega) (by decide) c6), show (2 : Int32) = nI 2 from rfl, nI_add]
    rw [l2_lpS st]
    refine ih (x + 1) _ n (by omega) (by omega) (fr.trans (l2_fr.set rfl)) (fun y hy => ?_)
    rw [l2_g]
    by_cases c : y = x
    · subst c
      rw [if_pos rfl]
    · rw [if_neg (fun z => by
        have := hi y x (by omega) (by omega) (by have := hw y (by omega); omega)
        omega)]
      exact h y (by omega)
end
