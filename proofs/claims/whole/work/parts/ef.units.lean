/-! Level 2: names settled: the components of functions. -/
section
variable {P : pc_S} {nt : Nat → Nat} {a g f e X : Nat} {k : Nat → Nat} {c0 c r s : t_S} {v w : Int32}
/-- a link's word is a word of the text -/
theorem MK.wd {l : Nat} (h : MK (pc_V P) c) (f0 : c.1 1 11 = 0) (e6 : c.1 846 6 = nI l) (hl : l ≤ 6002) (he : e < l) (hx : c.1 850 e = nI (66 + X)) (hX : X < 7934) : 66 + X < pc_W P := by
  obtain ⟨_, h, _⟩ := h
  obtain ⟨i, i1, i2⟩ := (h f0).2.2.2 e (by rw [e6, nI_toInt (by omega)]; omega)
  by_cases z : i < 2147483648
  · have := (nI_eq (by omega) z).mp (hx.symm.trans i2)
    omega
  · omega
/-- the component of function f -/
def ko_R (nt : Nat → Nat) (r : t_S) (f : Nat) (v : Int32) : Prop := ∃ Y, Y < 7934 ∧ r.1 982 f = nI Y ∧ f_X13_find 970 0 (nI (nt 2)) (nI Y) r = some v ∧ ((v = -1 ∧ ∀ j, j < nt 2 → r.1 970 j ≠ nI Y) ∨ ∃ j, j < nt 2 ∧ v = nI j ∧ r.1 970 j = nI Y)
theorem ko_R.eq (h : ko_R nt r f v) (g : ko_R nt r f w) : v = w := by
  obtain ⟨Y, y1, y2, y3, _⟩ := h
  obtain ⟨Z, z1, z2, z3, _⟩ := g
  have e : Y = Z := (nI_eq (by omega) (by omega)).mp (y2.symm.trans z2)
  subst e
  rw [y3] at z3
  cases z3
  rfl
/-- link e tells function f's component -/
theorem mL.unit {m m' st st' n2 n3 : Nat} (h : mL n2 n3 c r m m' st st' e) (h3 : c.1 849 e = 3) : ∃ f X pl, f < n3 ∧ f < 40 ∧ X < 7934 ∧ pl ≤ 12000 ∧ hi_e c e 3 X pl (nI f) (nI f) 0 ∧ r.1 982 f = nI X ∧ r.1 983 f = nI pl := by
  have no : ∀ x : Nat, x < 100 → x ≠ 3 → c.1 849 e ≠ nI x := fun x x1 x2 y => by
    rw [h3] at y
    exact x2 ((nI_eq (a := 3) (by decide) (by omega)).mp y).symm
  rcases h with ⟨q, _, _, _, x, _, y, _⟩ | ⟨E, q, _, _, _, y, _⟩ | ⟨q, i, cnt, X, pl, _, _, _, _, _, _, _, y, _⟩ | h | ⟨s, _, _, K, V, so, side, X, pl, f, spot, ex, _, _, x3, _, _, _, _, _, _, x10, y, _⟩
  · exact absurd y (no 0 (by decide) (by decide))
  · rcases y with ⟨_, X, _, y, _⟩ | ⟨_, ⟨X, _, y, _⟩, _⟩ | ⟨_, ⟨X, _, y, _⟩, _⟩
    · exact absurd y (no 13 (by decide) (by decide))
    · exact absurd y (no 12 (by decide) (by decide))
    · exact absurd y (no 7 (by decide) (by decide))
  · exact absurd y.1 (no 2 (by decide) (by decide))
  · exact h
  · exact absurd y.1 (no so (by omega) (by unfold sl_ok at x10; omega))
def su_W (n : Nat) (b j : Nat) : Prop := (b = 1 ∧ j = 1) ∨ (b = 438 ∧ j < n)
theorem su_unit (N : nt_R (pc_W P) nt c r) (hX : X < 7934) (hW : 66 + X < pc_W P) {pl : Nat} (hf : f < 40) (he : e < 6002) (h : hi_e c e 3 X pl (nI f) (nI f) 0) (h82 : r.1 982 f = nI X) : ∃ v, f_X3_settleUnit (nI e) c = some (t_setI c 438 f v) ∧ ko_R nt r f v := by
  obtain ⟨v, e1, e2, e3⟩ := nt_told N (i := 2) (by decide) hX hW
  obtain ⟨h1, h2, h3, h4, h5, h6⟩ := h
  refine ⟨v, ?_, X, hX, h82, e2, e3⟩
  unfold f_X3_settleUnit
  rw [if_pos (l2_ix he (by decide)), nI_clamp (n := e) (by omega)]
  show ((f_X3_toldAs (c.1 850 e) (nI 2) c).bind _) = _
  rw [h2, e1, l2_bs]
  show (if t_ix (c.1 852 e) 40 = true then t_let (t_setI c 438 ((c.1 852 e).toNatClampNeg) v) (fun s1 => some s1) else none) = _
  rw [h5, if_pos (l2_ix hf (by decide)), nI_clamp (n := f) (by omega)]
  rfl
theorem su_all {Q : t_S → Prop} (h : mR P nt a g k c0 c r) (hM : MK (pc_V P) c) (fs : l2_fr (fun b j => b = 1 ∧ j = 1) c s) (go : ∀ s', l2_fr (su_W (nt 3)) c s' → (∀ f, f < nt 3 → ko_R nt r f (s'.1 438 f)) → t_hk (t_loop b_X3_settleNames_35 t_N (0, s')) Q) : t_hk (f_X3_settleNames s) Q := by
  have J := h.1.1
  have N := h.1.2.1
  have f0 := J.f0.1
  have e6 : c.1 846 6 = nI (k 6) := h.1.2.2.1.2.2.2.2.2.1
  have l6 : k 6 ≤ 6000 := Nat.le_trans h.1.2.2.2.2.2.2.2.1 J.cle.1
  have n40 : nt 3 ≤ 40 := (N.1 3 (by decide)).1
  unfold f_X3_settleNames
  refine l2_lp (fun u y => ∃ (j : Nat) (s' : t_S), j + u = k 6 ∧ y = (nI j, s') ∧ l2_fr (su_W (nt 3)) c s' ∧ ∀ f, f < nt 3 → (∃ e, e < j ∧ c.1 849 e = 3 ∧ c.1 852 e = nI f) → ko_R nt r f (s'.1 438 f)) ?_ (m := k 6) (Nat.lt_trans (show k 6 < 1000000000 by omega) l2_N) ⟨0, s, by omega, rfl, fs.mono (fun b j y => Or.inl y), fun f _ he => absurd he (fun ⟨e, h1, _⟩ => absurd h1 (Nat.not_lt_zero _))⟩
  rintro u y ⟨j, s', hj, rfl, fc, hk⟩
  show t_hk (k_X3_settleNames_2 (nI j) s') _
  unfold k_X3_settleNames_2
  have cc : ∀ b i, (6 ≤ b ∧ b ≤ 437) ∨ 439 ≤ b → s'.1 b i = c.1 b i := fun b i y => (fc b i (by unfold su_W; omega)).1
  rw [cc 846 6 (by omega), e6]
  by_cases z : k 6 ≤ j
  · refine l2_ck (nI_le z (by omega)) (l2_mp (go s' fc (fun f hf => hk f hf ?_)))
    obtain ⟨so, pn, n, Y, pl, e, lo, hi, L, fst, _, _, _, ⟨_, _, el, he, _⟩, _⟩ := h.2.2.2.2.1 f hf
    exact ⟨e, by omega, he.1, he.2.2.2.2.1⟩
  refine l2_no (nI_ge (by omega) (by omega)) (l2_ck (l2_ix (by omega) (by decide)) ?_)
  rw [nI_clamp (n := j) (by omega)]
  show t_hk (if s'.1 849 j = 3 then _ else _) _
  rw [cc 849 j (by omega)]
  refine l2_if (fun z3 => ?_) (fun z3 => ?_)
  · obtain ⟨f, X, pl, f1, f2, hX, hpl, hi, h82, h83⟩ := mL.unit (h.2.2.2.2.2.2.1.2.1 j (Nat.zero_le _) (by omega)) z3
    have hW := hM.wd f0 e6 (by omega) (show j < k 6 by omega) hi.2.1 hX
    have N' : nt_R (pc_W P) nt s' r := N.fr fc (l2_fr.rf (W := fun _ _ => False)) (fun i => by unfold su_W; omega) ⟨by unfold su_W; omega, by unfold su_W; omega, by unfold su_W; omega, by unfold su_W; omega⟩ ⟨fun y => y, fun y => y, fun y => y, fun y => y⟩ (fun b i y => fun y => y)
    obtain ⟨v, e1, ko⟩ := su_unit N' hX hW f2 (show j < 6002 by omega) (hi.fr (fun b b1 b2 => cc b j (by omega))) h82
    rw [e1, l2_bs]
    have fr : l2_fr (fun b i => b = 438 ∧ i = f) s' (t_setI s' 438 f v) := l2_fr.set ⟨rfl, rfl⟩
    have vv : (t_setI s' 438 f v).1 438 f = v := by simp only [l2_gI, reduceIte]
    unfold k_X3_settleNames_27
    rw [nI_1]
    refine l2_sm ⟨u - 1, by omega, j + 1, _, by omega, rfl, fc.trans (fr.mono (fun b i y => Or.inr ⟨y.1, by omega⟩)), fun f' hf' he' => ?_⟩
    by_cases ef : f' = f
    · rw [ef, vv]
      exact ko
    · rw [(fr 438 f' (fun y => ef y.2)).1]
      refine hk f' hf' ?_
      obtain ⟨e', e1', e2', e3'⟩ := he'
      by_cases ee : e' = j
      · rw [ee, hi.2.2.2.2.1] at e3'
        exact absurd ((nI_eq (by omega) (by omega)).mp e3').symm ef
      · exact ⟨e', by omega, e2', e3'⟩
  · unfold k_X3_settleNames_27
    rw [nI_1]
    refine l2_sm ⟨u - 1, by omega, j + 1, s', by omega, rfl, fc, fun f' hf' he' => hk f' hf' ?_⟩
    obtain ⟨e', e1', e2', e3'⟩ := he'
    by_cases ee : e' = j
    · rw [ee] at e2'
      exact absurd e2' z3
    · exact ⟨e', by omega, e2', e3'⟩
end
