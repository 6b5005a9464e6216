/-! Level 2: what a templ begins with, on both sides. -/
theorem ti_ne {x k : Int32} (h : x ≠ k) : ¬ x.toInt = k.toInt := fun e => h (Int32.toInt_inj.mp e)
/-- the tokens that begin a templ -/
def bt_L : List Nat := [1, 2, 3, 40, 42, 45, 61, 63, 64, 91, 123, 221, 222, 223, 224, 225, 226, 227, 228]
theorem bt_1 (s : t_S) : ∀ k, k ∈ bt_L → f_X6_beginsTempl (nI k) s = 1 := by
  intro k hk
  unfold bt_L at hk
  simp only [List.mem_cons, List.mem_nil_iff, or_false] at hk
  rcases hk with rfl | rfl | rfl | rfl | rfl | rfl | rfl | rfl | rfl | rfl | rfl | rfl | rfl | rfl | rfl | rfl | rfl | rfl | rfl <;> rfl
theorem bt_0 {x : Int32} (s : t_S) (h : ∀ k, k ∈ bt_L → x ≠ nI k) : f_X6_beginsTempl x s = 0 := by
  have n : ∀ k : Nat, k ∈ bt_L → ¬ x.toInt = (nI k).toInt := fun k hk => ti_ne (h k hk)
  unfold f_X6_beginsTempl
  rw [if_neg (show ¬ x.toInt = 1 from n 1 (by decide)), if_neg (show ¬ x.toInt = 2 from n 2 (by decide)), if_neg (show ¬ x.toInt = 3 from n 3 (by decide)), if_neg (show ¬ x.toInt = 40 from n 40 (by decide)), if_neg (show ¬ x.toInt = 42 from n 42 (by decide)), if_neg (show ¬ x.toInt = 45 from n 45 (by decide)), if_neg (show ¬ x.toInt = 61 from n 61 (by decide)), if_neg (show ¬ x.toInt = 63 from n 63 (by decide)), if_neg (show ¬ x.toInt = 64 from n 64 (by decide)), if_neg (show ¬ x.toInt = 91 from n 91 (by decide)), if_neg (show ¬ x.toInt = 123 from n 123 (by decide)), if_neg (show ¬ x.toInt = 221 from n 221 (by decide)), if_neg (show ¬ x.toInt = 222 from n 222 (by decide)), if_neg (show ¬ x.toInt = 223 from n 223 (by decide)), if_neg (show ¬ x.toInt = 224 from n 224 (by decide)), if_neg (show ¬ x.toInt = 225 from n 225 (by decide)), if_neg (show ¬ x.toInt = 226 from n 226 (by decide)), if_neg (show ¬ x.toInt = 227 from n 227 (by decide)), if_neg (show ¬ x.toInt = 228 from n 228 (by decide))]
theorem pv_2 : ∀ w, w < 66 → ((21 ≤ pv w ∧ pv w ≤ 28) ↔ (21 ≤ w ∧ w ≤ 28)) ∧ (200 + w ∈ bt_L ↔ (21 ≤ w ∧ w ≤ 28)) := by decide
/-- signs alone -/
noncomputable def bt_s (s : t_S) : Int32 := if (f_X13_is (63 : Int32) s) = (0 : Int32) then (if (f_X13_is (42 : Int32) s) = (0 : Int32) then (if (f_X13_is (45 : Int32) s) = (0 : Int32) then (if (f_X13_is (64 : Int32) s) = (0 : Int32) then (if (f_X13_is (123 : Int32) s) = (0 : Int32) then (if (f_X13_is (91 : Int32) s) = (0 : Int32) then (if (f_X13_is (40 : Int32) s) = (0 : Int32) then (if (f_X13_is (61 : Int32) s) = (0 : Int32) then ((0 : Int32)) else 1) else 1) else 1) else 1) else 1) else 1) else 1) else 1
theorem bt_eq {s : t_S} (h1 : s.1 950 5 ≠ 1) (h2 : s.1 950 5 ≠ 2) (h3 : s.1 950 5 ≠ 3) : f_X13_beginsTempl s = bt_s s := by
  unfold f_X13_beginsTempl
  rw [if_neg h2, if_neg h3, if_neg h1]
  rfl
theorem pj.bt {P : pc_S} {u d z q m : Nat} {c r : t_S} (h : pj P u d z q m c r) : (f_X6_beginsTempl (c.1 1 8) c = 1 ∧ f_X13_beginsTempl r = 1 ∧ ∃ k, k ∈ bt_L ∧ c.1 1 8 = nI k) ∨ (f_X6_beginsTempl (c.1 1 8) c = 0 ∧ f_X13_beginsTempl r = 0) := by
  obtain ⟨s1, s2, s3, s4, s5, _, s6⟩ := h.sort
  have yes : ∀ k : Nat, k ∈ bt_L → c.1 1 8 = nI k → f_X13_beginsTempl r = 1 → (f_X6_beginsTempl (c.1 1 8) c = 1 ∧ f_X13_beginsTempl r = 1 ∧ ∃ k, k ∈ bt_L ∧ c.1 1 8 = nI k) ∨ (f_X6_beginsTempl (c.1 1 8) c = 0 ∧ f_X13_beginsTempl r = 0) := fun k hk e hr => Or.inl ⟨by rw [e]; exact bt_1 c k hk, hr, k, hk, e⟩
  by_cases h2 : r.1 950 5 = 2
  · exact yes 2 (by decide) (s2.mpr h2) (by unfold f_X13_beginsTempl; rw [if_pos h2])
  by_cases h3 : r.1 950 5 = 3
  · exact yes 3 (by decide) (s3.mpr h3) (by unfold f_X13_beginsTempl; rw [if_neg h2, if_pos h3])
  by_cases h1 : r.1 950 5 = 1
  · by_cases hn : r.1 950 10 < 0
    · exact yes 1 (by decide) (s1.mpr ⟨h1, hn⟩) (by unfold f_X13_beginsTempl; rw [if_neg h2, if_neg h3, if_pos h1, if_pos hn]; rfl)
    · obtain ⟨i, i1, i2, i3⟩ := s6 h1 hn
      obtain ⟨p1, p2⟩ := pv_2 i i1
      have pb := (pv_tab i i1).1
      have er : f_X13_beginsTempl r = if 21 ≤ pv i ∧ pv i ≤ 28 then 1 else 0 := by
        unfold f_X13_beginsTempl
        rw [if_neg h2, if_neg h3, if_pos h1, if_neg hn, i3]
        have e := lx_rin (s := r) (x := pv i) (a := 21) (b := 28) (by omega) (by decide) (by decide)
        have e : f_X13_in (nI (pv i)).toInt64 (21 : Int64) (28 : Int64) r = if 21 ≤ pv i ∧ pv i ≤ 28 then 1 else 0 := e
        rw [e]
        by_cases g : 21 ≤ pv i ∧ pv i ≤ 28
        · rw [if_pos g, if_neg (by decide)]; rfl
        · rw [if_neg g, if_pos rfl]
      by_cases g : 21 ≤ i ∧ i ≤ 28
      · exact yes (200 + i) (p2.mpr g) i2 (by rw [er, if_pos (p1.mpr g)])
      · refine Or.inr ⟨bt_0 c (fun k hk e => ?_), by rw [er, if_neg (fun y => g (p1.mp y))]⟩
        have kb : k < 300 := by
          revert hk
          have : ∀ k, k ∈ bt_L → k < 300 := by decide
          exact this k
        have := (nI_eq (a := 200 + i) (b := k) (by omega) (by omega)).mp (i2.symm.trans e)
        subst this
        exact g (p2.mp hk)
  rw [bt_eq h1 h2 h3]
  have is : ∀ x : Nat, x = 63 ∨ x = 42 ∨ x = 45 ∨ x = 64 ∨ x = 123 ∨ x = 91 ∨ x = 40 ∨ x = 61 → (c.1 1 8 = nI x ∧ f_X13_is (nI (sg x)) r = 1) ∨ (c.1 1 8 ≠ nI x ∧ f_X13_is (nI (sg x)) r = 0) := fun x hx => h.is (x := x) (by omega)
  have yes' : ∀ k : Nat, k ∈ bt_L → c.1 1 8 = nI k → bt_s r = 1 → (f_X6_beginsTempl (c.1 1 8) c = 1 ∧ bt_s r = 1 ∧ ∃ k, k ∈ bt_L ∧ c.1 1 8 = nI k) ∨ (f_X6_beginsTempl (c.1 1 8) c = 0 ∧ bt_s r = 0) := fun k hk e hr => Or.inl ⟨by rw [e]; exact bt_1 c k hk, hr, k, hk, e⟩
  rcases is 63 (by decide) with ⟨a, b⟩ | ⟨a1, b⟩
  · have b : f_X13_is 63 r = 1 := b
    exact yes' 63 (by decide) a (by unfold bt_s; rw [b]; rfl)
  have b1 : f_X13_is 63 r = 0 := b
  rcases is 42 (by decide) with ⟨a, b⟩ | ⟨a2, b⟩
  · have b : f_X13_is 42 r = 1 := b
    exact yes' 42 (by decide) a (by unfold bt_s; rw [b1, b]; rfl)
  have b2 : f_X13_is 42 r = 0 := b
  rcases is 45 (by decide) with ⟨a, b⟩ | ⟨a3, b⟩
  · have b : f_X13_is 45 r = 1 := b
    exact yes' 45 (by decide) a (by unfold bt_s; rw [b1, b2, b]; rfl)
  have b3 : f_X13_is 45 r = 0 := b
  rcases is 64 (by decide) with ⟨a, b⟩ | ⟨a4, b⟩
  · have b : f_X13_is 64 r = 1 := b
    exact yes' 64 (by decide) a (by unfold bt_s; rw [b1, b2, b3, b]; rfl)
  have b4 : f_X13_is 64 r = 0 := b
  rcases is 123 (by decide) with ⟨a, b⟩ | ⟨a5, b⟩
  · have b : f_X13_is 123 r = 1 := b
    exact yes' 123 (by decide) a (by unfold bt_s; rw [b1, b2, b3, b4, b]; rfl)
  have b5 : f_X13_is 123 r = 0 := b
  rcases is 91 (by decide) with ⟨a, b⟩ | ⟨a6, b⟩
  · have b : f_X13_is 91 r = 1 := b
    exact yes' 91 (by decide) a (by unfold bt_s; rw [b1, b2, b3, b4, b5, b]; rfl)
  have b6 : f_X13_is 91 r = 0 := b
  rcases is 40 (by decide) with ⟨a, b⟩ | ⟨a7, b⟩
  · have b : f_X13_is 40 r = 1 := b
    exact yes' 40 (by decide) a (by unfold bt_s; rw [b1, b2, b3, b4, b5, b6, b]; rfl)
  have b7 : f_X13_is 40 r = 0 := b
  rcases is 61 (by decide) with ⟨a, b⟩ | ⟨a8, b⟩
  · have b : f_X13_is 61 r = 1 := b
    exact yes' 61 (by decide) a (by unfold bt_s; rw [b1, b2, b3, b4, b5, b6, b7, b]; rfl)
  have b8 : f_X13_is 61 r = 0 := b
  refine Or.inr ⟨bt_0 c (fun k hk e => ?_), by unfold bt_s; rw [b1, b2, b3, b4, b5, b6, b7, b8]; rfl⟩
  have w : ∀ x, 21 ≤ x → x ≤ 28 → c.1 1 8 ≠ nI (200 + x) := fun x y1 y2 y => by
    rcases h.isW (x := x) (by omega) with ⟨_, b⟩ | ⟨b, _⟩
    · unfold f_X13_isWord at b
      rw [if_neg h1] at b
      exact absurd b (by decide)
    · exact b y
  unfold bt_L at hk
  simp only [List.mem_cons, List.mem_nil_iff, or_false] at hk
  rcases hk with rfl | rfl | rfl | rfl | rfl | rfl | rfl | rfl | rfl | rfl | rfl | rfl | rfl | rfl | rfl | rfl | rfl | rfl | rfl
  · exact h1 (s1.mp e).1
  · exact h2 (s2.mp e)
  · exact h3 (s3.mp e)
  · exact a7 e
  · exact a2 e
  · exact a3 e
  · exact a8 e
  · exact a1 e
  · exact a4 e
  · exact a6 e
  · exact a5 e
  · exact w 21 (by decide) (by decide) e
  · exact w 22 (by decide) (by decide) e
  · exact w 23 (by decide) (by decide) e
  · exact w 24 (by decide) (by decide) e
  · exact w 25 (by decide) (by decide) e
  · exact w 26 (by decide) (by decide) e
  · exact w 27 (by decide) (by decide) e
  · exact w 28 (by decide) (by decide) e
