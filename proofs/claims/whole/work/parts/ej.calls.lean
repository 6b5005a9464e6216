/-! Level 2: names settled: calls. -/
section
variable {P : pc_S} {nt : Nat → Nat} {W X e n f g ln so : Nat} {na q v w kc hm : Int32} {S : Nat → Int32 → Prop} {s r : t_S}
/-- the function called is of the right sort, on the right component -/
def cK (s : t_S) (so f g : Nat) : Prop := s.1 437 g = (if so = 10 then 1 else 0) ∧ (so = 11 ∨ s.1 438 g = s.1 438 f)
/-- what a call's link comes to -/
def cS_O (nt : Nat → Nat) (r s : t_S) (X so f ln : Nat) (na q : Int32) (S : Nat → Int32 → Prop) (x : Int32 × t_S) : Prop := ∃ v, to_R nt r 3 X v ∧ ((v < 0 ∧ x = (0, s)) ∨ ∃ g, g < nt 3 ∧ v = nI g ∧ ((¬ cK s so f g ∧ x = (0, s)) ∨ (cK s so f g ∧ s.1 439 g = na ∧ x = (1, t_setI s (445 + ln) 6 (nI g))) ∨ (cK s so f g ∧ s.1 439 g ≠ na ∧ ∃ s1, x = (1, t_setI s1 (445 + ln) 6 (nI g)) ∧ l2_fr lf_W s s1 ∧ ls_R (s1.1 846 7) (s1.1 846 8) (fun a b => S a b ∨ (a = 6 ∧ b = q)))))
theorem sn_call (N : nt_R W nt s r) (L : ls_R (s.1 846 7) (s.1 846 8) S) (hX : X < 7934) (hW : 66 + X < W) (he : e < 6002) (hs : so = 9 ∨ so = 10 ∨ so = 11) (h9 : s.1 849 e = nI so) (h0 : s.1 850 e = nI (66 + X)) (h1 : s.1 851 e = nI f) (hf : f < 40) (h2 : s.1 852 e = nI ln) (hln : ln < 400) (h3 : s.1 853 e = na) (h8 : s.1 848 e = q) : t_hk (f_X3_settleName (nI e) s) (cS_O nt r s X so f ln na q S) := by
  obtain ⟨v, e1, e2, e3⟩ := nt_told N (i := 3) (by decide) hX hW
  have n40 : nt 3 ≤ 40 := (N.1 3 (by decide)).1
  have tR : to_R nt r 3 X v := ⟨e2, e3⟩
  have c : t_hk (f_X3_settleCall (nI e) s) (fun x => (x.1 = 0 ∨ x.1 = 1) ∧ cS_O nt r s X so f ln na q S x) := by
    unfold f_X3_settleCall
    rw [if_pos (l2_ix he (by decide)), nI_clamp (n := e) (by omega)]
    rw [show s.1 (848 + 1 * ((1 : Int32).toNatClampNeg)) e = nI so from h9, show s.1 (848 + 1 * ((2 : Int32).toNatClampNeg)) e = nI (66 + X) from h0, show (3 : Int32) = nI 3 from rfl, e1, l2_bs]
    rcases e3 with ⟨y, _⟩ | ⟨g, hg, y, _⟩
    · have z : v < 0 := by rw [y]; decide
      rw [if_neg (Int32.not_le.mpr z)]
      exact l2_sm ⟨Or.inl rfl, v, tR, Or.inl ⟨z, rfl⟩⟩
    have eg : v = nI g := y
    subst eg
    rw [if_pos (nI_pos' (by omega)), if_pos (l2_ix (show g < 40 by omega) (by decide)), nI_clamp (n := g) (by omega)]
    -- the last step
    have fin : ∀ s1 : t_S, s1.1 852 e = nI ln → k_X3_settleCall_124 (nI e) (nI g) s1 = some (1, t_setI s1 (445 + ln) 6 (nI g)) := fun s1 h => by
      unfold k_X3_settleCall_124
      have eb : ok_b (nI g) = 1 := by
        unfold ok_b
        rw [if_neg (nI_pos (by omega))]
      rw [if_pos (l2_ix he (by decide)), nI_clamp (n := e) (by omega), show s1.1 (848 + 1 * ((4 : Int32).toNatClampNeg)) e = nI ln from h, show f_X3_put (nI ln) 6 (nI g) s1 = some (ok_b (nI g), t_setI s1 (445 + ln) 6 (nI g)) from st_put hln (j := 6) (by decide), l2_bs, eb, if_pos (Or.inr rfl)]
    have k90 : cK s so f g → t_hk (k_X3_settleCall_90 (nI e) (nI g) s) (fun x => (x.1 = 0 ∨ x.1 = 1) ∧ cS_O nt r s X so f ln na q S x) := fun hc => by
      unfold k_X3_settleCall_90
      rw [if_pos (l2_ix (show g < 40 by omega) (by decide)), if_pos (l2_ix he (by decide)), nI_clamp (n := e) (by omega), nI_clamp (n := g) (by omega), show s.1 (848 + 1 * ((5 : Int32).toNatClampNeg)) e = na from h3, show s.1 (848 + 1 * ((0 : Int32).toNatClampNeg)) e = q from h8]
      by_cases z : s.1 439 g = na
      · rw [if_pos z, fin s h2]
        exact l2_sm ⟨Or.inr rfl, _, tR, Or.inr ⟨g, hg, rfl, Or.inr (Or.inl ⟨hc, z, rfl⟩)⟩⟩
      · rw [if_neg z]
        obtain ⟨s1, x1, x2, x3⟩ := ls_late (q := q) L (k := 6) (by decide)
        rw [show (6 : Int32) = nI 6 from rfl, x1, l2_bs, fin s1 (by rw [(x2 852 e (by unfold lf_W; omega)).1]; exact h2)]
        exact l2_sm ⟨Or.inr rfl, _, tR, Or.inr ⟨g, hg, rfl, Or.inr (Or.inr ⟨hc, z, s1, rfl, x2, x3⟩)⟩⟩
    have no : ¬ cK s so f g → t_hk (some ((0 : Int32), s)) (fun x => (x.1 = 0 ∨ x.1 = 1) ∧ cS_O nt r s X so f ln na q S x) := fun hc => l2_sm ⟨Or.inl rfl, _, tR, Or.inr ⟨g, hg, rfl, Or.inl ⟨hc, rfl⟩⟩⟩
    have k49 : ∀ k0 : Int32, k0 = (if so = 10 then 1 else 0) → t_hk (k_X3_settleCall_49 (nI e) (nI g) (nI so) k0 (s.1 437 g) s) (fun x => (x.1 = 0 ∨ x.1 = 1) ∧ cS_O nt r s X so f ln na q S x) := fun k0 hk => by
      unfold k_X3_settleCall_49
      by_cases z1 : s.1 437 g = k0
      rotate_left
      · rw [if_neg z1]
        exact no (fun y => z1 (y.1.trans hk.symm))
      rw [if_pos z1]
      by_cases z2 : nI so = (11 : Int32)
      · rw [if_pos z2]
        have : so = 11 := (nI_eq (b := 11) (by omega) (by decide)).mp z2
        exact k90 ⟨z1.trans hk, Or.inl this⟩
      · rw [if_neg z2, if_pos (l2_ix (show g < 40 by omega) (by decide)), if_pos (l2_ix he (by decide)), nI_clamp (n := e) (by omega), show s.1 (848 + 1 * ((3 : Int32).toNatClampNeg)) e = nI f from h1, if_pos (l2_ix hf (by decide)), nI_clamp (n := g) (by omega), nI_clamp (n := f) (by omega)]
        have n11 : so ≠ 11 := fun y => z2 (by rw [y]; rfl)
        by_cases z3 : s.1 438 g = s.1 438 f
        · rw [if_pos z3]
          exact k90 ⟨z1.trans hk, Or.inr z3⟩
        · rw [if_neg z3]
          exact no (fun y => y.2.elim n11 z3)
    by_cases z : nI so = (10 : Int32)
    · have e10 : so = 10 := (nI_eq (b := 10) (by omega) (by decide)).mp z
      rw [if_pos z]
      exact k49 1 (by rw [if_pos e10])
    · rw [if_neg z]
      exact k49 0 (by rw [if_neg (fun y => z (by rw [y]; rfl))])
  obtain ⟨x, x1, x2, x3⟩ := c
  refine ⟨x, ?_, x3⟩
  unfold f_X3_settleName
  rw [if_pos (l2_ix he (by decide)), nI_clamp (n := e) (by omega)]
  rw [show s.1 (848 + 1 * ((1 : Int32).toNatClampNeg)) e = nI so from h9]
  rcases hs with rfl | rfl | rfl
  · rw [if_neg (show ¬ ((nI 9).toInt < 0 ∨ 13 < (nI 9).toInt) by decide), if_neg (show ¬ (nI 9).toInt = 0 by decide), if_neg (show ¬ (nI 9).toInt = 1 by decide), if_neg (show ¬ (nI 9).toInt = 2 by decide), if_neg (show ¬ (nI 9).toInt = 3 by decide), if_neg (show ¬ (nI 9).toInt = 4 by decide), if_neg (show ¬ (nI 9).toInt = 5 by decide), if_neg (show ¬ (nI 9).toInt = 6 by decide), if_neg (show ¬ (nI 9).toInt = 7 by decide), if_neg (show ¬ (nI 9).toInt = 8 by decide), if_pos (show (nI 9).toInt = 9 by decide), x1, l2_bs, if_pos x2]
  · rw [if_neg (show ¬ ((nI 10).toInt < 0 ∨ 13 < (nI 10).toInt) by decide), if_neg (show ¬ (nI 10).toInt = 0 by decide), if_neg (show ¬ (nI 10).toInt = 1 by decide), if_neg (show ¬ (nI 10).toInt = 2 by decide), if_neg (show ¬ (nI 10).toInt = 3 by decide), if_neg (show ¬ (nI 10).toInt = 4 by decide), if_neg (show ¬ (nI 10).toInt = 5 by decide), if_neg (show ¬ (nI 10).toInt = 6 by decide), if_neg (show ¬ (nI 10).toInt = 7 by decide), if_neg (show ¬ (nI 10).toInt = 8 by decide), if_neg (show ¬ (nI 10).toInt = 9 by decide), if_pos (show (nI 10).toInt = 10 by decide), x1, l2_bs, if_pos x2]
  · rw [if_neg (show ¬ ((nI 11).toInt < 0 ∨ 13 < (nI 11).toInt) by decide), if_neg (show ¬ (nI 11).toInt = 0 by decide), if_neg (show ¬ (nI 11).toInt = 1 by decide), if_neg (show ¬ (nI 11).toInt = 2 by decide), if_neg (show ¬ (nI 11).toInt = 3 by decide), if_neg (show ¬ (nI 11).toInt = 4 by decide), if_neg (show ¬ (nI 11).toInt = 5 by decide), if_neg (show ¬ (nI 11).toInt = 6 by decide), if_neg (show ¬ (nI 11).toInt = 7 by decide), if_neg (show ¬ (nI 11).toInt = 8 by decide), if_neg (show ¬ (nI 11).toInt = 9 by decide), if_neg (show ¬ (nI 11).toInt = 10 by decide), if_pos (show (nI 11).toInt = 11 by decide), x1, l2_bs, if_pos x2]
end
