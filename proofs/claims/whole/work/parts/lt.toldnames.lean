/-! Level 2: names of templates, once settled: what both sides find. -/
theorem find_cg {s s' : t_S} {a : Nat} (h : ∀ j, s'.1 a j = s.1 a j) (x2 x3 x4 : Int32) : f_X13_find a x2 x3 x4 s' = f_X13_find a x2 x3 x4 s := by
  have go : ∀ n (i : Int32), t_loop (b_X13_find_3 s') n (a, x2, x3, x4, i) = t_loop (b_X13_find_3 s) n (a, x2, x3, x4, i) := by
    intro n
    induction n with
    | zero => intro i; rfl
    | succ n ih =>
      intro i
      rw [lp_el, lp_el]
      have e : b_X13_find_3 s' (a, x2, x3, x4, i) = b_X13_find_3 s (a, x2, x3, x4, i) := by
        show k_X13_find_3 a x2 x3 x4 i s' = k_X13_find_3 a x2 x3 x4 i s
        unfold k_X13_find_3
        rw [h]
      rw [e]
      show (k_X13_find_3 a x2 x3 x4 i s).bind _ = (k_X13_find_3 a x2 x3 x4 i s).bind _
      unfold k_X13_find_3
      by_cases c1 : x3 ≤ i
      · rw [if_pos c1]
        rfl
      rw [if_neg c1]
      by_cases c2 : t_oka a 1 (t_ln a) = true
      rotate_left
      · rw [if_neg c2]
        rfl
      rw [if_pos c2]
      by_cases c3 : t_ix (x2 + i) (t_ln a) = true
      rotate_left
      · rw [if_neg c3]
        rfl
      rw [if_pos c3]
      by_cases c4 : (s.1 a ((x2 + i).toNatClampNeg)) = x4
      · rw [if_pos c4]
        rfl
      · rw [if_neg c4]
        exact ih (i + 1)
  exact go t_N 0
/-- a templ's name, settled -/
def TNs (n1 : Nat) (c r : t_S) (t m : Nat) : Prop := ∃ X : Nat, X < 7934 ∧ r.2.1 957 m = lN X ∧ ((c.1 354 t = 6 ∧ c.1 357 t = nI (66 + X) ∧ f_X13_find 967 0 (nI n1) (nI X) r = some (-1)) ∨ ∃ j : Nat, j < n1 ∧ f_X13_find 967 0 (nI n1) (nI X) r = some (nI j) ∧ c.1 354 t = 7 ∧ c.1 357 t = nI j)
section
variable {P : pc_S} {nt : Nat → Nat} {a g l l' t m n1 : Nat} {k : Nat → Nat} {c0 c r s s' r' : t_S} {S : Nat → Int32 → Prop} {E : en_S}
theorem tn_told (h : mR P nt a g k c0 c r) (hM : MK (pc_V P) c) (Q : sQ (pc_W P) nt a (k 3) (k 4) (k 5) (k 6) (k 7) (k 2) (k 9) s r) (fs : l2_fr (su_W (nt 3)) c s) (O : sQ_O nt (k 6) (k 2) S s r s') (hn : tn_R E c r l l' t m) (hl : l' ≤ k 6) (ht : t < 6100) : TNs (nt 1) s' r t m := by
  obtain ⟨S1, S2, S3⟩ := tn_set h hM Q fs O
  obtain ⟨hm, cx, td, ba, kn, v⟩ := E
  obtain ⟨h6, e, e0, e1, ⟨X, hX, w1, w2, w3, w4, w5⟩, h52, h57⟩ := hn
  refine ⟨X, hX, w3, ?_⟩
  rcases S3 t e X (by omega) w1 w2 hX h52 ht with ⟨j, j1, j2, j3, j4⟩ | ⟨j1, j2, j3, _⟩
  · exact Or.inr ⟨j, j1, j2, j3, j4⟩
  · exact Or.inl ⟨j2.trans h6, j3.trans (h57.trans w2), j1⟩
/-- .. at any time -/
theorem TNs.fu (h : TNs n1 c r t m) (e67 : ∀ j, r'.1 967 j = r.1 967 j) (e44 : r'.1 950 44 = nI n1) (e57 : r'.2.1 957 m = r.2.1 957 m) : (c.1 354 t = 6 ∧ ∃ (X : Nat) (y : Int32), X < 7934 ∧ c.1 357 t = nI (66 + X) ∧ r.2.1 957 m = lN X ∧ fU r' m = some y ∧ y < 0) ∨ (c.1 354 t = 7 ∧ ∃ v : Nat, v < n1 ∧ c.1 357 t = nI v ∧ fU r' m = some (nI v)) := by
  obtain ⟨X, hX, h57, h⟩ := h
  have eX : (lN X).toInt32 = nI X := lN_w X
  have ef : fU r' m = f_X13_find 967 0 (nI n1) (nI X) r := by
    unfold fU
    rw [e44, e57, h57, eX, find_cg e67]
  rw [ef]
  rcases h with ⟨h1, h2, h3⟩ | ⟨j, h1, h2, h3, h4⟩
  · exact Or.inl ⟨h1, X, -1, hX, h2, h57, h3, by decide⟩
  · exact Or.inr ⟨h3, j, h1, h4, h2⟩
end
