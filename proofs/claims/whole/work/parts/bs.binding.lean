/-! Level 2: operators on both sides: how they bind, how they are let go. -/
/-- operators: the class's token, the reference's sign, how it binds -/
def ob_T (x g b : Nat) : Prop := (x = 12 ∧ g = 15677 ∧ b = 3) ∨ (x = 13 ∧ g = 8509 ∧ b = 3) ∨ (x = 14 ∧ g = 15421 ∧ b = 3) ∨ (x = 15 ∧ g = 15933 ∧ b = 3) ∨ (x = 16 ∧ g = 9766 ∧ b = 2) ∨ (x = 17 ∧ g = 31868 ∧ b = 1) ∨ (x = 37 ∧ g = 37 ∧ b = 5) ∨ (x = 38 ∧ g = 38 ∧ b = 4) ∨ (x = 42 ∧ g = 42 ∧ b = 5) ∨ (x = 43 ∧ g = 43 ∧ b = 4) ∨ (x = 45 ∧ g = 45 ∧ b = 4) ∨ (x = 47 ∧ g = 47 ∧ b = 5) ∨ (x = 60 ∧ g = 60 ∧ b = 3) ∨ (x = 62 ∧ g = 62 ∧ b = 3)
theorem bo_0 {x : Int32} (s : t_S) (h : ∀ k g b, ob_T k g b → x ≠ nI k) : f_X6_bindingOf x s = 0 := by
  by_cases z : x.toInt < 12 ∨ 62 < x.toInt
  · unfold f_X6_bindingOf
    rw [if_pos z]
  · obtain ⟨k, hk1, hk2, rfl⟩ : ∃ k : Nat, 12 ≤ k ∧ k ≤ 62 ∧ x = nI k := ⟨x.toInt.toNat, by omega, by omega, Int32.toInt_inj.mp (by rw [nI_toInt (by omega)]; omega)⟩
    have n : ∀ g b, ¬ ob_T k g b := fun g b y => h k g b y rfl
    have e : k = 12 ∨ k = 13 ∨ k = 14 ∨ k = 15 ∨ k = 16 ∨ k = 17 ∨ k = 18 ∨ k = 19 ∨ k = 20 ∨ k = 21 ∨ k = 22 ∨ k = 23 ∨ k = 24 ∨ k = 25 ∨ k = 26 ∨ k = 27 ∨ k = 28 ∨ k = 29 ∨ k = 30 ∨ k = 31 ∨ k = 32 ∨ k = 33 ∨ k = 34 ∨ k = 35 ∨ k = 36 ∨ k = 37 ∨ k = 38 ∨ k = 39 ∨ k = 40 ∨ k = 41 ∨ k = 42 ∨ k = 43 ∨ k = 44 ∨ k = 45 ∨ k = 46 ∨ k = 47 ∨ k = 48 ∨ k = 49 ∨ k = 50 ∨ k = 51 ∨ k = 52 ∨ k = 53 ∨ k = 54 ∨ k = 55 ∨ k = 56 ∨ k = 57 ∨ k = 58 ∨ k = 59 ∨ k = 60 ∨ k = 61 ∨ k = 62 := by omega
    rcases e with rfl | rfl | rfl | rfl | rfl | rfl | rfl | rfl | rfl | rfl | rfl | rfl | rfl | rfl | rfl | rfl | rfl | rfl | rfl | rfl | rfl | rfl | rfl | rfl | rfl | rfl | rfl | rfl | rfl | rfl | rfl | rfl | rfl | rfl | rfl | rfl | rfl | rfl | rfl | rfl | rfl | rfl | rfl | rfl | rfl | rfl | rfl | rfl | rfl | rfl | rfl
    · exact absurd (show ob_T 12 15677 3 by unfold ob_T; decide) (n 15677 3)
    · exact absurd (show ob_T 13 8509 3 by unfold ob_T; decide) (n 8509 3)
    · exact absurd (show ob_T 14 15421 3 by unfold ob_T; decide) (n 15421 3)
    · exact absurd (show ob_T 15 15933 3 by unfold ob_T; decide) (n 15933 3)
    · exact absurd (show ob_T 16 9766 2 by unfold ob_T; decide) (n 9766 2)
    · exact absurd (show ob_T 17 31868 1 by unfold ob_T; decide) (n 31868 1)
    · rfl
    · rfl
    · rfl
    · rfl
    · rfl
    · rfl
    · rfl
    · rfl
    · rfl
    · rfl
    · rfl
    · rfl
    · rfl
    · rfl
    · rfl
    · rfl
    · rfl
    · rfl
    · rfl
    · exact absurd (show ob_T 37 37 5 by unfold ob_T; decide) (n 37 5)
    · exact absurd (show ob_T 38 38 4 by unfold ob_T; decide) (n 38 4)
    · rfl
    · rfl
    · rfl
    · exact absurd (show ob_T 42 42 5 by unfold ob_T; decide) (n 42 5)
    · exact absurd (show ob_T 43 43 4 by unfold ob_T; decide) (n 43 4)
    · rfl
    · exact absurd (show ob_T 45 45 4 by unfold ob_T; decide) (n 45 4)
    · rfl
    · exact absurd (show ob_T 47 47 5 by unfold ob_T; decide) (n 47 5)
    · rfl
    · rfl
    · rfl
    · rfl
    · rfl
    · rfl
    · rfl
    · rfl
    · rfl
    · rfl
    · rfl
    · rfl
    · exact absurd (show ob_T 60 60 3 by unfold ob_T; decide) (n 60 3)
    · rfl
    · exact absurd (show ob_T 62 62 3 by unfold ob_T; decide) (n 62 3)
theorem bo_1 {x g b : Nat} (h : ob_T x g b) (s : t_S) : f_X6_bindingOf (nI x) s = nI b ∧ 0 < b ∧ b ≤ 5 ∧ sg x = g ∧ ((33 ≤ x ∧ x ≤ 125) ∨ (10 ≤ x ∧ x ≤ 17)) := by
  rcases h with ⟨rfl, rfl, rfl⟩ | ⟨rfl, rfl, rfl⟩ | ⟨rfl, rfl, rfl⟩ | ⟨rfl, rfl, rfl⟩ | ⟨rfl, rfl, rfl⟩ | ⟨rfl, rfl, rfl⟩ | ⟨rfl, rfl, rfl⟩ | ⟨rfl, rfl, rfl⟩ | ⟨rfl, rfl, rfl⟩ | ⟨rfl, rfl, rfl⟩ | ⟨rfl, rfl, rfl⟩ | ⟨rfl, rfl, rfl⟩ | ⟨rfl, rfl, rfl⟩ | ⟨rfl, rfl, rfl⟩ <;> exact ⟨rfl, by decide, by decide, rfl, by decide⟩
theorem jn_1 {x g b : Nat} (h : ob_T x g b) {r : t_S} (h5 : r.1 950 5 = 4) (h9 : r.1 950 9 = nI g) : ∀ l, l ≤ 4 → f_X13_joins (nI l) r = if b = l + 1 then 1 else 0 := by
  intro l hl
  have e : l = 0 ∨ l = 1 ∨ l = 2 ∨ l = 3 ∨ l = 4 := by omega
  unfold f_X13_joins k_X13_joins_130 k_X13_joins_163 k_X13_joins_196
  rw [if_pos h5, h9]
  rcases h with ⟨rfl, rfl, rfl⟩ | ⟨rfl, rfl, rfl⟩ | ⟨rfl, rfl, rfl⟩ | ⟨rfl, rfl, rfl⟩ | ⟨rfl, rfl, rfl⟩ | ⟨rfl, rfl, rfl⟩ | ⟨rfl, rfl, rfl⟩ | ⟨rfl, rfl, rfl⟩ | ⟨rfl, rfl, rfl⟩ | ⟨rfl, rfl, rfl⟩ | ⟨rfl, rfl, rfl⟩ | ⟨rfl, rfl, rfl⟩ | ⟨rfl, rfl, rfl⟩ | ⟨rfl, rfl, rfl⟩ <;> rcases e with rfl | rfl | rfl | rfl | rfl <;> rfl
theorem jn_0 {r : t_S} (h : r.1 950 5 ≠ 4 ∨ ∀ k g b, ob_T k g b → r.1 950 9 ≠ nI g) : ∀ l, l ≤ 4 → f_X13_joins (nI l) r = 0 := by
  intro l hl
  unfold f_X13_joins
  by_cases h5 : r.1 950 5 = 4
  · have h := h.resolve_left (fun y => y h5)
    have n : ∀ k g b, ob_T k g b → ¬ r.1 950 9 = nI g := h
    have n15677 : ¬ r.1 950 9 = 15677 := n 12 15677 3 (by unfold ob_T; decide)
    have n8509 : ¬ r.1 950 9 = 8509 := n 13 8509 3 (by unfold ob_T; decide)
    have n15421 : ¬ r.1 950 9 = 15421 := n 14 15421 3 (by unfold ob_T; decide)
    have n15933 : ¬ r.1 950 9 = 15933 := n 15 15933 3 (by unfold ob_T; decide)
    have n9766 : ¬ r.1 950 9 = 9766 := n 16 9766 2 (by unfold ob_T; decide)
    have n31868 : ¬ r.1 950 9 = 31868 := n 17 31868 1 (by unfold ob_T; decide)
    have n37 : ¬ r.1 950 9 = 37 := n 37 37 5 (by unfold ob_T; decide)
    have n38 : ¬ r.1 950 9 = 38 := n 38 38 4 (by unfold ob_T; decide)
    have n42 : ¬ r.1 950 9 = 42 := n 42 42 5 (by unfold ob_T; decide)
    have n43 : ¬ r.1 950 9 = 43 := n 43 43 4 (by unfold ob_T; decide)
    have n45 : ¬ r.1 950 9 = 45 := n 45 45 4 (by unfold ob_T; decide)
    have n47 : ¬ r.1 950 9 = 47 := n 47 47 5 (by unfold ob_T; decide)
    have n60 : ¬ r.1 950 9 = 60 := n 60 60 3 (by unfold ob_T; decide)
    have n62 : ¬ r.1 950 9 = 62 := n 62 62 3 (by unfold ob_T; decide)
    have e : l = 0 ∨ l = 1 ∨ l = 2 ∨ l = 3 ∨ l = 4 := by omega
    rw [if_pos h5]
    rcases e with rfl | rfl | rfl | rfl | rfl
    · rw [if_neg (by decide), if_pos (by decide), if_neg n31868]
    · rw [if_neg (by decide), if_neg (by decide), if_pos (by decide), if_neg n9766]
    · rw [if_neg (by decide), if_neg (by decide), if_neg (by decide), if_pos (by decide), if_neg n60, if_neg n62, if_neg n15677, if_neg n8509, if_neg n15421, if_neg n15933]
    · rw [if_neg (by decide), if_neg (by decide), if_neg (by decide), if_neg (by decide), if_neg n43, if_neg n45, if_neg n38]
    · rw [if_pos (by decide), if_neg n42, if_neg n47, if_neg n37]
  · rw [if_neg h5]
/-- how the token binds, on both sides -/
theorem pj.jn {P : pc_S} {u d z q m : Nat} {c r : t_S} (h : pj P u d z q m c r) : ∃ b, b ≤ 5 ∧ (∀ s, f_X6_bindingOf (c.1 1 8) s = nI b) ∧ (∀ l, l ≤ 4 → f_X13_joins (nI l) r = if b = l + 1 then 1 else 0) ∧ (0 < b → ∃ x g, ob_T x g b ∧ c.1 1 8 = nI x ∧ r.1 950 5 = 4 ∧ r.1 950 9 = nI g) := by
  have yes : ∀ x g b, ob_T x g b → c.1 1 8 = nI x → ∃ b, b ≤ 5 ∧ (∀ s, f_X6_bindingOf (c.1 1 8) s = nI b) ∧ (∀ l, l ≤ 4 → f_X13_joins (nI l) r = if b = l + 1 then 1 else 0) ∧ (0 < b → ∃ x g, ob_T x g b ∧ c.1 1 8 = nI x ∧ r.1 950 5 = 4 ∧ r.1 950 9 = nI g) := by
    intro x g b t e
    obtain ⟨_, b1, b2, b3, b4⟩ := bo_1 t c
    have is : r.1 950 5 = 4 ∧ r.1 950 9 = nI g := by
      rcases h.is b4 with ⟨_, y⟩ | ⟨y, _⟩
      · rw [b3] at y; exact is_1 y
      · exact absurd e y
    exact ⟨b, b2, fun s => by rw [e]; exact (bo_1 t s).1, jn_1 t is.1 is.2, fun _ => ⟨x, g, t, e, is.1, is.2⟩⟩
  by_cases z : ∃ x g b, ob_T x g b ∧ c.1 1 8 = nI x
  · obtain ⟨x, g, b, t, e⟩ := z
    exact yes x g b t e
  · have nc : ∀ k g b, ob_T k g b → c.1 1 8 ≠ nI k := fun k g b t e => z ⟨k, g, b, t, e⟩
    refine ⟨0, by decide, fun s => bo_0 s nc, fun l hl => ?_, fun y => by omega⟩
    rw [if_neg (by omega)]
    refine jn_0 ?_ l hl
    by_cases h5 : r.1 950 5 = 4
    · refine Or.inr (fun k g b t e => ?_)
      obtain ⟨_, b1, b2, b3, b4⟩ := bo_1 t c
      rcases h.is b4 with ⟨y, _⟩ | ⟨_, y⟩
      · exact nc k g b t y
      · unfold f_X13_is at y
        rw [b3, if_pos h5, if_pos e] at y
        exact absurd y (by decide)
    · exact Or.inl h5
