/-! Level 2: names settled: a link by its sort, names told outside. -/
section
variable {P : pc_S} {nt : Nat → Nat} {W X e n i : Nat} {v : Int32} {s r : t_S}
/-- what is told of a name outside: family i -/
def to_R (nt : Nat → Nat) (r : t_S) (i X : Nat) (v : Int32) : Prop := f_X13_find (nt_B i) 0 (nI (nt i)) (nI X) r = some v ∧ ((v = -1 ∧ ∀ j, j < nt i → r.1 (nt_B i) j ≠ nI X) ∨ ∃ j, j < nt i ∧ v = nI j ∧ r.1 (nt_B i) j = nI X)
theorem to_R.neg (h : to_R nt r i X v) (hn : nt i ≤ 60) : v < 0 ↔ v = -1 := by
  rcases h.2 with ⟨y, _⟩ | ⟨j, _, y, _⟩
  · rw [y]; decide
  · rw [y]
    exact ⟨fun z => absurd z (nI_pos (by omega)), fun z => by rw [z]; decide⟩
theorem to_R.eq {w : Int32} (h : to_R nt r i X v) (g : to_R nt r i X w) : v = w := by
  have a := h.1.symm.trans g.1
  cases a
  rfl
/-- settled or not: 1 or 0 -/
def ok_b (v : Int32) : Int32 := if v < 0 then 0 else 1
theorem ok_b.is (v : Int32) : ok_b v = 0 ∨ ok_b v = 1 := by
  unfold ok_b
  split
  · exact Or.inl rfl
  · exact Or.inr rfl
theorem ok_b.iff : ok_b v = 0 ↔ v < 0 := by
  unfold ok_b
  split
  · exact ⟨fun _ => by assumption, fun _ => rfl⟩
  · exact ⟨fun y => absurd y (by decide), fun y => absurd y (by assumption)⟩
/-- a name of a type within a type -/
theorem sn_0 (N : nt_R W nt s r) (hX : X < 7934) (hW : 66 + X < W) (he : e < 6002) (h9 : s.1 849 e = nI 0) (h0 : s.1 850 e = nI (66 + X)) (h2 : s.1 852 e = nI n) (hn : n < 3001) : ∃ v, f_X3_settleName (nI e) s = some (ok_b v, t_setI s 321 n v) ∧ to_R nt r 0 X v := by
  obtain ⟨v, e1, e2, e3⟩ := nt_told N (i := 0) (by decide) hX hW
  refine ⟨v, ?_, e2, e3⟩
  unfold f_X3_settleName
  rw [if_pos (l2_ix he (by decide)), nI_clamp (n := e) (by omega)]
  rw [show s.1 (848 + 1 * ((1 : Int32).toNatClampNeg)) e = nI 0 from h9, show s.1 (848 + 1 * ((2 : Int32).toNatClampNeg)) e = nI (66 + X) from h0, show s.1 (848 + 1 * ((4 : Int32).toNatClampNeg)) e = nI n from h2]
  rw [if_neg (show ¬ ((nI 0).toInt < 0 ∨ 13 < (nI 0).toInt) by decide), if_pos (show (nI 0).toInt = 0 by decide), show (0 : Int32) = nI 0 from rfl, e1, l2_bs, if_pos (l2_ix hn (by decide)), nI_clamp (n := n) (by omega)]
  have w : (t_setI s 321 n v).1 321 n = v := by simp only [l2_gI, reduceIte]
  show (if (t_setI s 321 n v).1 321 n < 0 then some ((0 : Int32), t_setI s 321 n v) else some (1, t_setI s 321 n v)) = _
  rw [w]
  unfold ok_b
  split <;> rfl
/-- the type of a place of a function -/
theorem sn_1 (N : nt_R W nt s r) (hX : X < 7934) (hW : 66 + X < W) (he : e < 6002) (h9 : s.1 849 e = nI 1) (h0 : s.1 850 e = nI (66 + X)) (h2 : s.1 852 e = nI n) (hn : n < 320) : ∃ v, f_X3_settleName (nI e) s = some (ok_b v, t_setI s 443 n v) ∧ to_R nt r 0 X v := by
  obtain ⟨v, e1, e2, e3⟩ := nt_told N (i := 0) (by decide) hX hW
  refine ⟨v, ?_, e2, e3⟩
  unfold f_X3_settleName
  rw [if_pos (l2_ix he (by decide)), nI_clamp (n := e) (by omega)]
  rw [show s.1 (848 + 1 * ((1 : Int32).toNatClampNeg)) e = nI 1 from h9, show s.1 (848 + 1 * ((2 : Int32).toNatClampNeg)) e = nI (66 + X) from h0, show s.1 (848 + 1 * ((4 : Int32).toNatClampNeg)) e = nI n from h2]
  rw [if_neg (show ¬ ((nI 1).toInt < 0 ∨ 13 < (nI 1).toInt) by decide), if_neg (show ¬ (nI 1).toInt = 0 by decide), if_pos (show (nI 1).toInt = 1 by decide), show (0 : Int32) = nI 0 from rfl, e1, l2_bs, if_pos (l2_ix hn (by decide)), nI_clamp (n := n) (by omega)]
  have w : (t_setI s 443 n v).1 443 n = v := by simp only [l2_gI, reduceIte]
  show (if (t_setI s 443 n v).1 443 n < 0 then some ((0 : Int32), t_setI s 443 n v) else some (1, t_setI s 443 n v)) = _
  rw [w]
  unfold ok_b
  split <;> rfl
/-- the type of a var of a component -/
theorem sn_2 (N : nt_R W nt s r) (hX : X < 7934) (hW : 66 + X < W) (he : e < 6002) (h9 : s.1 849 e = nI 2) (h0 : s.1 850 e = nI (66 + X)) (h2 : s.1 852 e = nI n) (hn : n < 64) : ∃ v, f_X3_settleName (nI e) s = some (ok_b v, t_setI s 435 n v) ∧ to_R nt r 0 X v := by
  obtain ⟨v, e1, e2, e3⟩ := nt_told N (i := 0) (by decide) hX hW
  refine ⟨v, ?_, e2, e3⟩
  unfold f_X3_settleName
  rw [if_pos (l2_ix he (by decide)), nI_clamp (n := e) (by omega)]
  rw [show s.1 (848 + 1 * ((1 : Int32).toNatClampNeg)) e = nI 2 from h9, show s.1 (848 + 1 * ((2 : Int32).toNatClampNeg)) e = nI (66 + X) from h0, show s.1 (848 + 1 * ((4 : Int32).toNatClampNeg)) e = nI n from h2]
  rw [if_neg (show ¬ ((nI 2).toInt < 0 ∨ 13 < (nI 2).toInt) by decide), if_neg (show ¬ (nI 2).toInt = 0 by decide), if_neg (show ¬ (nI 2).toInt = 1 by decide), if_pos (show (nI 2).toInt = 2 by decide), show (0 : Int32) = nI 0 from rfl, e1, l2_bs, if_pos (l2_ix hn (by decide)), nI_clamp (n := n) (by omega)]
  have w : (t_setI s 435 n v).1 435 n = v := by simp only [l2_gI, reduceIte]
  show (if (t_setI s 435 n v).1 435 n < 0 then some ((0 : Int32), t_setI s 435 n v) else some (1, t_setI s 435 n v)) = _
  rw [w]
  unfold ok_b
  split <;> rfl
/-- a function's component -/
theorem sn_3 (he : e < 6002) (h9 : s.1 849 e = nI 3) (h2 : s.1 852 e = nI n) (hn : n < 40) : f_X3_settleName (nI e) s = some (ok_b (s.1 438 n), s) := by
  unfold f_X3_settleName
  rw [if_pos (l2_ix he (by decide)), nI_clamp (n := e) (by omega)]
  rw [show s.1 (848 + 1 * ((1 : Int32).toNatClampNeg)) e = nI 3 from h9, show s.1 (848 + 1 * ((4 : Int32).toNatClampNeg)) e = nI n from h2]
  rw [if_neg (show ¬ ((nI 3).toInt < 0 ∨ 13 < (nI 3).toInt) by decide), if_neg (show ¬ (nI 3).toInt = 0 by decide), if_neg (show ¬ (nI 3).toInt = 1 by decide), if_neg (show ¬ (nI 3).toInt = 2 by decide), if_pos (show (nI 3).toInt = 3 by decide), if_pos (l2_ix hn (by decide)), nI_clamp (n := n) (by omega)]
  unfold ok_b
  split <;> rfl
theorem st_put {a j : Nat} (ha : a < 400) (hj : j < 12) : f_X3_put (nI a) (nI j) v s = some (ok_b v, t_setI s (445 + a) j v) := by
  unfold f_X3_put
  rw [if_pos (l2_ix ha (by decide)), if_pos (l2_ix hj (by decide)), nI_clamp (n := a) (by omega), nI_clamp (n := j) (by omega), Nat.one_mul]
  unfold ok_b t_let
  split <;> rfl
/-- a component that is created -/
theorem sn_4 (N : nt_R W nt s r) (hX : X < 7934) (hW : 66 + X < W) (he : e < 6002) (h9 : s.1 849 e = nI 4) (h0 : s.1 850 e = nI (66 + X)) (h2 : s.1 852 e = nI n) (hn : n < 400) : ∃ v, f_X3_settleName (nI e) s = some (ok_b v, t_setI s (445 + n) 6 v) ∧ to_R nt r 2 X v := by
  obtain ⟨v, e1, e2, e3⟩ := nt_told N (i := 2) (by decide) hX hW
  refine ⟨v, ?_, e2, e3⟩
  unfold f_X3_settleName
  rw [if_pos (l2_ix he (by decide)), nI_clamp (n := e) (by omega)]
  rw [show s.1 (848 + 1 * ((1 : Int32).toNatClampNeg)) e = nI 4 from h9, show s.1 (848 + 1 * ((2 : Int32).toNatClampNeg)) e = nI (66 + X) from h0, show s.1 (848 + 1 * ((4 : Int32).toNatClampNeg)) e = nI n from h2]
  rw [if_neg (show ¬ ((nI 4).toInt < 0 ∨ 13 < (nI 4).toInt) by decide), if_neg (show ¬ (nI 4).toInt = 0 by decide), if_neg (show ¬ (nI 4).toInt = 1 by decide), if_neg (show ¬ (nI 4).toInt = 2 by decide), if_neg (show ¬ (nI 4).toInt = 3 by decide), if_pos (show (nI 4).toInt = 4 by decide), show (2 : Int32) = nI 2 from rfl, e1, l2_bs, show (6 : Int32) = nI 6 from rfl, st_put hn (by decide), l2_bs, if_pos (ok_b.is v)]
end
