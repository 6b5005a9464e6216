/-! Level 2: what an exp begins with, on both sides. -/
/-- the tokens that begin a base -/
def bb_L : List Nat := [1, 2, 3, 40, 91, 123, 221, 222, 223, 231, 232, 233, 234, 235, 236]
theorem bb_1 (s : t_S) : ∀ k, k ∈ bb_L → f_X6_beginsBase (nI k) s = 1 := by
  intro k hk
  unfold bb_L at hk
  simp only [List.mem_cons, List.mem_nil_iff, or_false] at hk
  rcases hk with rfl | rfl | rfl | rfl | rfl | rfl | rfl | rfl | rfl | rfl | rfl | rfl | rfl | rfl | rfl <;> rfl
theorem bb_0 {x : Int32} (s : t_S) (h : ∀ k, k ∈ bb_L → x ≠ nI k) : f_X6_beginsBase x s = 0 := by
  have n : ∀ k : Nat, k ∈ bb_L → ¬ x.toInt = (nI k).toInt := fun k hk => ti_ne (h k hk)
  unfold f_X6_beginsBase
  rw [if_neg (show ¬ x.toInt = 1 from n 1 (by decide)), if_neg (show ¬ x.toInt = 2 from n 2 (by decide)), if_neg (show ¬ x.toInt = 3 from n 3 (by decide)), if_neg (show ¬ x.toInt = 40 from n 40 (by decide)), if_neg (show ¬ x.toInt = 91 from n 91 (by decide)), if_neg (show ¬ x.toInt = 123 from n 123 (by decide)), if_neg (show ¬ x.toInt = 221 from n 221 (by decide)), if_neg (show ¬ x.toInt = 222 from n 222 (by decide)), if_neg (show ¬ x.toInt = 223 from n 223 (by decide)), if_neg (show ¬ x.toInt = 231 from n 231 (by decide)), if_neg (show ¬ x.toInt = 232 from n 232 (by decide)), if_neg (show ¬ x.toInt = 233 from n 233 (by decide)), if_neg (show ¬ x.toInt = 234 from n 234 (by decide)), if_neg (show ¬ x.toInt = 235 from n 235 (by decide)), if_neg (show ¬ x.toInt = 236 from n 236 (by decide))]
theorem pv_3 : ∀ w, w < 66 → ((21 ≤ pv w ∧ pv w ≤ 23) ↔ (21 ≤ w ∧ w ≤ 23)) ∧ ((30 ≤ pv w ∧ pv w ≤ 36) ↔ (30 ≤ w ∧ w ≤ 36)) ∧ ((31 ≤ pv w ∧ pv w ≤ 36) ↔ (31 ≤ w ∧ w ≤ 36)) ∧ (200 + w ∈ bb_L ↔ (21 ≤ w ∧ w ≤ 23) ∨ (31 ≤ w ∧ w ≤ 36)) ∧ (pv w = 30 ↔ w = 30) := by decide
theorem is_in {P : pc_S} {u d z q m : Nat} {c r : t_S} (h : pj P u d z q m c r) {x : Nat} (hx : (33 ≤ x ∧ x ≤ 125) ∨ (10 ≤ x ∧ x ≤ 17)) (h5 : r.1 950 5 ≠ 4) : c.1 1 8 ≠ nI x ∧ f_X13_is (nI (sg x)) r = 0 := by
  have e : f_X13_is (nI (sg x)) r = 0 := by
    unfold f_X13_is
    rw [if_neg h5]
  rcases h.is hx with ⟨_, b⟩ | b
  · rw [e] at b; exact absurd b (by decide)
  · exact b
/-- a base, or none on both sides -/
theorem pj.bb {P : pc_S} {u d z q m : Nat} {c r : t_S} {rR rW : RT_X13_base} (h : pj P u d z q m c r) (hW : ∀ s, rR.2.2.2.2.2.2.2.2.2.2.1 s = m_X13_wordBase rW s) : (f_X6_beginsBase (c.1 1 8) c = 1 ∧ ∃ k, k ∈ bb_L ∧ c.1 1 8 = nI k) ∨ (f_X6_beginsBase (c.1 1 8) c = 0 ∧ m_X13_base rR r = (f_X13_fail 2 (r.1 950 6) r).bind (fun r4 => some ((0 : Int32), r4))) := by
  obtain ⟨s1, s2, s3, s4, s5, _, s6⟩ := h.sort
  have f0 := h.f0
  have yes : ∀ k : Nat, k ∈ bb_L → c.1 1 8 = nI k → (f_X6_beginsBase (c.1 1 8) c = 1 ∧ ∃ k, k ∈ bb_L ∧ c.1 1 8 = nI k) ∨ (f_X6_beginsBase (c.1 1 8) c = 0 ∧ m_X13_base rR r = (f_X13_fail 2 (r.1 950 6) r).bind (fun r4 => some ((0 : Int32), r4))) := fun k hk e => Or.inl ⟨by rw [e]; exact bb_1 c k hk, k, hk, e⟩
  by_cases h2 : r.1 950 5 = 2
  · exact yes 2 (by decide) (s2.mpr h2)
  by_cases h3 : r.1 950 5 = 3
  · exact yes 3 (by decide) (s3.mpr h3)
  by_cases h1 : r.1 950 5 = 1
  · by_cases hn : r.1 950 10 < 0
    · exact yes 1 (by decide) (s1.mpr ⟨h1, hn⟩)
    · obtain ⟨i, i1, i2, i3⟩ := s6 h1 hn
      obtain ⟨p1, _, p3, p4, _⟩ := pv_3 i i1
      have pb := (pv_tab i i1).1
      by_cases g : (21 ≤ i ∧ i ≤ 23) ∨ (31 ≤ i ∧ i ≤ 36)
      · exact yes (200 + i) (p4.mpr g) i2
      · refine Or.inr ⟨bb_0 c (fun k hk e => ?_), ?_⟩
        · have kb : k < 300 := by
            revert hk
            have : ∀ k, k ∈ bb_L → k < 300 := by decide
            exact this k
          have := (nI_eq (a := 200 + i) (b := k) (by omega) (by omega)).mp (i2.symm.trans e)
          subst this
          exact g (p4.mp hk)
        · have e1 := lx_rin (s := r) (x := pv i) (a := 21) (b := 23) (by omega) (by decide) (by decide)
          have e2 := lx_rin (s := r) (x := pv i) (a := 31) (b := 36) (by omega) (by decide) (by decide)
          have e1 : f_X13_in (nI (pv i)).toInt64 (21 : Int64) (23 : Int64) r = if 21 ≤ pv i ∧ pv i ≤ 23 then 1 else 0 := e1
          have e2 : f_X13_in (nI (pv i)).toInt64 (31 : Int64) (36 : Int64) r = if 31 ≤ pv i ∧ pv i ≤ 36 then 1 else 0 := e2
          rw [if_neg (by omega)] at e1 e2
          unfold m_X13_base
          rw [if_pos f0.2, if_neg h2, if_neg h3, if_pos h1, hW]
          unfold m_X13_wordBase
          rw [if_neg hn, i3, e1, if_pos rfl, e2, if_pos rfl]
          unfold k_X13_wordBase_42
          rw [if_pos rfl]
          cases f_X13_fail 2 (r.1 950 6) r <;> rfl
  have w : ∀ x, x < 66 → c.1 1 8 ≠ nI (200 + x) := fun x y1 y => by
    rcases h.isW (x := x) y1 with ⟨_, b⟩ | ⟨b, _⟩
    · unfold f_X13_isWord at b
      rw [if_neg h1] at b
      exact absurd b (by decide)
    · exact b y
  rcases h.is (x := 40) (by decide) with ⟨a, b⟩ | ⟨a1, b⟩
  · exact yes 40 (by decide) a
  have b1 : f_X13_is 40 r = 0 := b
  rcases h.is (x := 123) (by decide) with ⟨a, b⟩ | ⟨a2, b⟩
  · exact yes 123 (by decide) a
  have b2 : f_X13_is 123 r = 0 := b
  rcases h.is (x := 91) (by decide) with ⟨a, b⟩ | ⟨a3, b⟩
  · exact yes 91 (by decide) a
  have b3 : f_X13_is 91 r = 0 := b
  refine Or.inr ⟨bb_0 c (fun k hk e => ?_), ?_⟩
  · unfold bb_L at hk
    simp only [List.mem_cons, List.mem_nil_iff, or_false] at hk
    rcases hk with rfl | rfl | rfl | rfl | rfl | rfl | rfl | rfl | rfl | rfl | rfl | rfl | rfl | rfl | rfl
    · exact h1 (s1.mp e).1
    · exact h2 (s2.mp e)
    · exact h3 (s3.mp e)
    · exact a1 e
    · exact a3 e
    · exact a2 e
    · exact w 21 (by decide) e
    · exact w 22 (by decide) e
    · exact w 23 (by decide) e
    · exact w 31 (by decide) e
    · exact w 32 (by decide) e
    · exact w 33 (by decide) e
    · exact w 34 (by decide) e
    · exact w 35 (by decide) e
    · exact w 36 (by decide) e
  · unfold m_X13_base
    rw [if_pos f0.2, if_neg h2, if_neg h3, if_neg h1, b1, if_pos rfl, b2, if_pos rfl, b3, if_pos rfl]
/-- signs and the word ahead of a base -/
def be_s (x : Int32) : Prop := x = 45 ∨ x = 33 ∨ x = 64 ∨ x = 230
theorem be_1 {x : Int32} (s : t_S) (h : be_s x ∨ f_X6_beginsBase x s = 1) : f_X6_beginsExp x s = 1 := by
  unfold f_X6_beginsExp k_X6_beginsExp_32
  by_cases a1 : x = 45
  · rw [if_pos a1]
  by_cases a2 : x = 33
  · rw [if_neg a1, if_pos a2]
  by_cases a3 : x = 64
  · rw [if_neg a1, if_neg a2, if_pos a3]
  by_cases a4 : x = 230
  · rw [if_neg a1, if_neg a2, if_neg a3, if_pos a4]
  rw [if_neg a1, if_neg a2, if_neg a3, if_neg a4]
  rcases h with h | h
  · rcases h with h | h | h | h
    · exact absurd h a1
    · exact absurd h a2
    · exact absurd h a3
    · exact absurd h a4
  · rw [h, if_neg (by decide)]
theorem be_0 {x : Int32} (s : t_S) (h : ¬ be_s x) (h2 : f_X6_beginsBase x s = 0) : f_X6_beginsExp x s = 0 := by
  unfold be_s at h
  have n1 : x ≠ 45 := fun y => h (Or.inl y)
  have n2 : x ≠ 33 := fun y => h (Or.inr (Or.inl y))
  have n3 : x ≠ 64 := fun y => h (Or.inr (Or.inr (Or.inl y)))
  have n4 : x ≠ 230 := fun y => h (Or.inr (Or.inr (Or.inr y)))
  unfold f_X6_beginsExp
  rw [if_neg n1, if_neg n2, if_neg n3, if_neg n4, h2, if_pos rfl]
/-- signs of the reference alone -/
noncomputable def be_r (s : t_S) : Int32 := if (f_X13_is (45 : Int32) s) = (0 : Int32) then (if (f_X13_is (33 : Int32) s) = (0 : Int32) then (if (f_X13_is (64 : Int32) s) = (0 : Int32) then (if (f_X13_is (123 : Int32) s) = (0 : Int32) then (if (f_X13_is (91 : Int32) s) = (0 : Int32) then (if (f_X13_is (40 : Int32) s) = (0 : Int32) then ((0 : Int32)) else 1) else 1) else 1) else 1) else 1) else 1
theorem pj.be {P : pc_S} {u d z q m : Nat} {c r : t_S} (h : pj P u d z q m c r) : (f_X6_beginsExp (c.1 1 8) c = 1 ∧ f_X13_beginsExp r = 1) ∨ (f_X6_beginsExp (c.1 1 8) c = 0 ∧ f_X13_beginsExp r = 0) := by
  obtain ⟨s1, s2, s3, s4, s5, _, s6⟩ := h.sort
  have yesB : ∀ k : Nat, k ∈ bb_L → c.1 1 8 = nI k → f_X13_beginsExp r = 1 → (f_X6_beginsExp (c.1 1 8) c = 1 ∧ f_X13_beginsExp r = 1) ∨ (f_X6_beginsExp (c.1 1 8) c = 0 ∧ f_X13_beginsExp r = 0) := fun k hk e hr => Or.inl ⟨be_1 c (Or.inr (by rw [e]; exact bb_1 c k hk)), hr⟩
  have yesS : be_s (c.1 1 8) → f_X13_beginsExp r = 1 → (f_X6_beginsExp (c.1 1 8) c = 1 ∧ f_X13_beginsExp r = 1) ∨ (f_X6_beginsExp (c.1 1 8) c = 0 ∧ f_X13_beginsExp r = 0) := fun e hr => Or.inl ⟨be_1 c (Or.inl e), hr⟩
  by_cases h2 : r.1 950 5 = 2
  · exact yesB 2 (by decide) (s2.mpr h2) (by unfold f_X13_beginsExp; rw [if_pos h2])
  by_cases h3 : r.1 950 5 = 3
  · exact yesB 3 (by decide) (s3.mpr h3) (by unfold f_X13_beginsExp; rw [if_neg h2, if_pos h3])
  by_cases h1 : r.1 950 5 = 1
  · by_cases hn : r.1 950 10 < 0
    · exact yesB 1 (by decide) (s1.mpr ⟨h1, hn⟩) (by unfold f_X13_beginsExp; rw [if_neg h2, if_neg h3, if_pos h1, if_pos hn]; rfl)
    · obtain ⟨i, i1, i2, i3⟩ := s6 h1 hn
      obtain ⟨p1, p2, _, p4, p5⟩ := pv_3 i i1
      have pb := (pv_tab i i1).1
      have e1 := lx_rin (s := r) (x := pv i) (a := 21) (b := 23) (by omega) (by decide) (by decide)
      have e2 := lx_rin (s := r) (x := pv i) (a := 30) (b := 36) (by omega) (by decide) (by decide)
      have e1 : f_X13_in (nI (pv i)).toInt64 (21 : Int64) (23 : Int64) r = if 21 ≤ pv i ∧ pv i ≤ 23 then 1 else 0 := e1
      have e2 : f_X13_in (nI (pv i)).toInt64 (30 : Int64) (36 : Int64) r = if 30 ≤ pv i ∧ pv i ≤ 36 then 1 else 0 := e2
      have er : f_X13_beginsExp r = if (21 ≤ pv i ∧ pv i ≤ 23) ∨ (30 ≤ pv i ∧ pv i ≤ 36) then 1 else 0 := by
        unfold f_X13_beginsExp k_X13_beginsExp_67
        rw [if_neg h2, if_neg h3, if_pos h1, if_neg hn, i3, e1, e2]
        by_cases g : 21 ≤ pv i ∧ pv i ≤ 23
        · rw [if_pos g, if_neg (by decide), if_pos (Or.inl g)]
        · rw [if_neg g, if_pos rfl]
          by_cases g2 : 30 ≤ pv i ∧ pv i ≤ 36
          · rw [if_pos g2, if_neg (by decide), if_pos (Or.inr g2)]
          · rw [if_neg g2, if_pos rfl, if_neg (fun y => y.elim g g2)]
      by_cases g : (21 ≤ i ∧ i ≤ 23) ∨ (31 ≤ i ∧ i ≤ 36)
      · exact yesB (200 + i) (p4.mpr g) i2 (by rw [er, if_pos (by omega)])
      · by_cases g30 : i = 30
        · subst g30
          exact yesS (Or.inr (Or.inr (Or.inr (by rw [i2]; rfl)))) (by rw [er, if_pos (by omega)])
        · have tne : ∀ k : Nat, k < 300 → k ≠ 200 + i → c.1 1 8 ≠ nI k := fun k kb n e => n ((nI_eq (a := 200 + i) (b := k) (by omega) (by omega)).mp (i2.symm.trans e)).symm
          refine Or.inr ⟨be_0 c (fun y => ?_) (bb_0 c (fun k hk e => ?_)), by rw [er, if_neg (by omega)]⟩
          · rcases y with y | y | y | y
            · exact tne 45 (by decide) (by omega) y
            · exact tne 33 (by decide) (by omega) y
            · exact tne 64 (by decide) (by omega) y
            · exact tne 230 (by decide) (by omega) y
          · have kb : k < 300 := by
              revert hk
              have : ∀ k, k ∈ bb_L → k < 300 := by decide
              exact this k
            have := (nI_eq (a := 200 + i) (b := k) (by omega) (by omega)).mp (i2.symm.trans e)
            subst this
            exact g (p4.mp hk)
  have eb : f_X13_beginsExp r = be_r r := by
    unfold f_X13_beginsExp
    rw [if_neg h2, if_neg h3, if_neg h1]
    rfl
  have w : ∀ x, x < 66 → c.1 1 8 ≠ nI (200 + x) := fun x y1 y => by
    rcases h.isW (x := x) y1 with ⟨_, b⟩ | ⟨b, _⟩
    · unfold f_X13_isWord at b
      rw [if_neg h1] at b
      exact absurd b (by decide)
    · exact b y
  rw [eb] at yesB yesS ⊢
  rcases h.is (x := 45) (by decide) with ⟨a, b⟩ | ⟨a1, b⟩
  · have b : f_X13_is 45 r = 1 := b
    exact yesS (Or.inl a) (by unfold be_r; rw [b]; rfl)
  have b1 : f_X13_is 45 r = 0 := b
  rcases h.is (x := 33) (by decide) with ⟨a, b⟩ | ⟨a2, b⟩
  · have b : f_X13_is 33 r = 1 := b
    exact yesS (Or.inr (Or.inl a)) (by unfold be_r; rw [b1, b]; rfl)
  have b2 : f_X13_is 33 r = 0 := b
  rcases h.is (x := 64) (by decide) with ⟨a, b⟩ | ⟨a3, b⟩
  · have b : f_X13_is 64 r = 1 := b
    exact yesS (Or.inr (Or.inr (Or.inl a))) (by unfold be_r; rw [b1, b2, b]; rfl)
  have b3 : f_X13_is 64 r = 0 := b
  rcases h.is (x := 123) (by decide) with ⟨a, b⟩ | ⟨a4, b⟩
  · have b : f_X13_is 123 r = 1 := b
    exact yesB 123 (by decide) a (by unfold be_r; rw [b1, b2, b3, b]; rfl)
  have b4 : f_X13_is 123 r = 0 := b
  rcases h.is (x := 91) (by decide) with ⟨a, b⟩ | ⟨a5, b⟩
  · have b : f_X13_is 91 r = 1 := b
    exact yesB 91 (by decide) a (by unfold be_r; rw [b1, b2, b3, b4, b]; rfl)
  have b5 : f_X13_is 91 r = 0 := b
  rcases h.is (x := 40) (by decide) with ⟨a, b⟩ | ⟨a6, b⟩
  · have b : f_X13_is 40 r = 1 := b
    exact yesB 40 (by decide) a (by unfold be_r; rw [b1, b2, b3, b4, b5, b]; rfl)
  have b6 : f_X13_is 40 r = 0 := b
  refine Or.inr ⟨be_0 c (fun y => ?_) (bb_0 c (fun k hk e => ?_)), by unfold be_r; rw [b1, b2, b3, b4, b5, b6]; rfl⟩
  · rcases y with y | y | y | y
    · exact a1 y
    · exact a2 y
    · exact a3 y
    · exact w 30 (by decide) y
  · unfold bb_L at hk
    simp only [List.mem_cons, List.mem_nil_iff, or_false] at hk
    rcases hk with rfl | rfl | rfl | rfl | rfl | rfl | rfl | rfl | rfl | rfl | rfl | rfl | rfl | rfl | rfl
    · exact h1 (s1.mp e).1
    · exact h2 (s2.mp e)
    · exact h3 (s3.mp e)
    · exact a6 e
    · exact a5 e
    · exact a4 e
    · exact w 21 (by decide) e
    · exact w 22 (by decide) e
    · exact w 23 (by decide) e
    · exact w 31 (by decide) e
    · exact w 32 (by decide) e
    · exact w 33 (by decide) e
    · exact w 34 (by decide) e
    · exact w 35 (by decide) e
    · exact w 36 (by decide) e
