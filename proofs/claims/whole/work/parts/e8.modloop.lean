/-! Level 2: a module: its items one after another. -/
/-- the class's item, by its word -/
noncomputable def mIt (s : t_S) : Option t_S := if (s.1 1 8).toInt < 200 ∨ 205 < (s.1 1 8).toInt then f_X2_fail 2 s else if (s.1 1 8).toInt = 200 then f_X6_readTypeItem s else if (s.1 1 8).toInt = 201 then f_X6_readTemplateItem s else if (s.1 1 8).toInt = 202 then f_X6_readComponentItem s else if (s.1 1 8).toInt = 203 then f_X6_readUnitItem 0 s else if (s.1 1 8).toInt = 204 then f_X6_readUnitItem 1 s else f_X6_readUnitItem 2 s
section
variable {P : pc_S} {nt nt' : Nat → Nat} {a g a' g' i so cnt : Nat} {k k' : Nat → Nat} {c0 r0 c r c' r' : t_S} {Q : t_S → Int32 × t_S → Prop}
theorem pv_it : ∀ i, i < 66 → (i < 6 → pv i = i) ∧ (¬ i < 6 → 6 ≤ pv i ∧ pv i < 100) := by decide +kernel
theorem mIt_eq (l1 : Int32) (h1 : ¬ (12002 : Int32) ≤ l1) (h2 : c.1 1 11 = 0) (h3 : ¬ c.1 1 8 = 4) : k_X6_readModule_58 l1 c = (mIt c).bind (k_X6_readModule_185 l1) := by
  unfold k_X6_readModule_58 mIt
  rw [if_neg h1, if_pos h2, if_neg h3]
  by_cases q0 : (c.1 1 8).toInt < 200 ∨ 205 < (c.1 1 8).toInt
  · rw [if_pos q0, if_pos q0]
  rw [if_neg q0, if_neg q0]
  by_cases q1 : (c.1 1 8).toInt = 200
  · rw [if_pos q1, if_pos q1]
  rw [if_neg q1, if_neg q1]
  by_cases q2 : (c.1 1 8).toInt = 201
  · rw [if_pos q2, if_pos q2]
  rw [if_neg q2, if_neg q2]
  by_cases q3 : (c.1 1 8).toInt = 202
  · rw [if_pos q3, if_pos q3]
  rw [if_neg q3, if_neg q3]
  by_cases q4 : (c.1 1 8).toInt = 203
  · rw [if_pos q4, if_pos q4]
  rw [if_neg q4, if_neg q4]
  by_cases q5 : (c.1 1 8).toInt = 204
  · rw [if_pos q5, if_pos q5]
  rw [if_neg q5, if_neg q5]
theorem mR_item (h : mR P nt a g k c0 c r) : t_h2 (mIt c) (f_X13_item r) (mP P k c0 c r) := by
  have J := h.1.1
  have bad : (c.1 1 8).toInt < 200 ∨ 205 < (c.1 1 8).toInt → (∀ k0 : Int32, (k0 = r.1 950 10 ∧ r.1 950 5 = 1 ∨ k0 = -1 ∧ r.1 950 5 ≠ 1) → f_X13_in k0.toInt64 0 5 r = 0) → t_h2 (mIt c) (f_X13_item r) (mP P k c0 c r) := fun h1 h2 => by
    unfold mIt f_X13_item
    rw [if_pos h1]
    have go : ∀ k0 : Int32, f_X13_in k0.toInt64 0 5 r = 0 → t_h2 (f_X2_fail 2 c) (k_X13_item_16 k0 r) (mP P k c0 c r) := fun k0 hk => by
      unfold k_X13_item_16
      rw [if_pos hk, bd_some]
      exact h2_imp (pj_fail (f := 2) J (by decide) (by decide)) (fun x y hw => ⟨mo_la hw.1, mo_rn hw.2.1, Or.inr hw.2.2⟩)
    by_cases z : r.1 950 5 = 1
    · rw [if_pos z]
      exact go _ (h2 _ (Or.inl ⟨rfl, z⟩))
    · rw [if_neg z]
      exact go _ (h2 _ (Or.inr ⟨rfl, z⟩))
  have neg : ∀ k0 : Int32, k0 < 0 → f_X13_in k0.toInt64 0 5 r = 0 := fun k0 hk => by
    have a1 : k0.toInt < (0 : Int32).toInt := Int32.lt_iff_toInt_lt.mp hk
    have a2 : (0 : Int32).toInt = 0 := rfl
    exact l2_in0 (fun y => by
      have := y.1
      omega)
  rcases J.kw with ⟨i, hi, t, h5, h10⟩ | ⟨no, h2⟩
  · obtain ⟨p1, p2⟩ := pv_it i hi
    have ti : (c.1 1 8).toInt = (200 + i : Nat) := by rw [t, nI_toInt (by omega)]
    by_cases z : i < 6
    · have e : f_X13_item r = k_X13_item_16 (nI i) r := by
        unfold f_X13_item
        rw [if_pos h5, h10, p1 z]
      rw [e]
      unfold mIt
      rw [if_neg (by rw [ti]; omega), ti]
      have hc : i = 0 ∨ i = 1 ∨ i = 2 ∨ i = 3 ∨ i = 4 ∨ i = 5 := by omega
      rcases hc with rfl | rfl | rfl | rfl | rfl | rfl
      · rw [if_pos (by decide)]
        exact mR_type h t
      · rw [if_neg (by decide), if_pos (by decide)]
        exact mR_templ h t
      · rw [if_neg (by decide), if_neg (by decide), if_pos (by decide)]
        exact mR_comp h t
      · rw [if_neg (by decide), if_neg (by decide), if_neg (by decide), if_pos (by decide)]
        exact mR_unit (so := 0) h (by decide) t
      · rw [if_neg (by decide), if_neg (by decide), if_neg (by decide), if_neg (by decide), if_pos (by decide)]
        exact mR_unit (so := 1) h (by decide) t
      · rw [if_neg (by decide), if_neg (by decide), if_neg (by decide), if_neg (by decide), if_neg (by decide)]
        exact mR_unit (so := 2) h (by decide) t
    · obtain ⟨q1, q2⟩ := p2 z
      refine bad (Or.inr (by rw [ti]; omega)) (fun k0 hk => ?_)
      rcases hk with ⟨rfl, _⟩ | ⟨_, hk⟩
      · rw [h10]
        have e : ∀ x, x < 100 → 6 ≤ x → f_X13_in (nI x).toInt64 0 5 r = 0 := by
          unfold f_X13_in
          decide +kernel
        exact e _ q2 q1
      · exact absurd h5 hk
  · refine bad ?_ (fun k0 hk => ?_)
    · by_cases z : (c.1 1 8).toInt < 200 ∨ 205 < (c.1 1 8).toInt
      · exact z
      · obtain ⟨i, hi, e⟩ : ∃ i : Nat, i < 66 ∧ (c.1 1 8).toInt = (200 + i : Nat) := ⟨((c.1 1 8).toInt - 200).toNat, by omega, by omega⟩
        exact absurd (show c.1 1 8 = nI (200 + i) by rw [← Int32.toInt_inj, e, nI_toInt (by omega)]) (no i hi)
    · rcases hk with ⟨rfl, z⟩ | ⟨rfl, _⟩
      · exact neg _ (h2 z).1
      · exact neg _ (by decide)
theorem pj.ule {u d z q m : Nat} (h : pj P u d z q m c r) : u ≤ 12000 := by
  obtain ⟨B, L, W0, W, V, sl, H, T, n, t0, m0⟩ := P
  obtain ⟨⟨hc, _⟩, _⟩ := h
  have h1 := hc.2.2.1.2.1
  have h2 := hc.2.2.2.1
  omega
end
