/-! Level 2: signs, on both sides. -/
def lx_one (c : Nat) : Bool := [40, 41, 123, 125, 91, 93, 44, 59, 58, 46, 63, 42, 43, 45, 47, 37, 61, 60, 62, 38, 33, 64].contains c
/-- the class's number of two signs that are one token; 0: they are none -/
def lx_two (c d : Nat) : Nat := if c = 46 ∧ d = 46 then 10 else if c = 38 ∧ d = 38 then 16 else if c = 124 ∧ d = 124 then 17 else if d = 61 then (if c = 33 then 13 else if c = 58 then 11 else if c = 60 then 14 else if c = 61 then 12 else if c = 62 then 15 else 0) else 0
theorem lx_cOne : ∀ c, c < 256 → ∀ s : t_S, f_X2_isSign (nI c) s = if lx_one c = true then 1 else 0 := by
  have h : ∀ c, c < 256 → f_X2_isSign (nI c) (fun _ _ => 0, fun _ _ => 0, fun _ _ => 0) = if lx_one c = true then 1 else 0 := by
    unfold f_X2_isSign
    decide +kernel
  intro c hc s
  exact h c hc
theorem l2_and {α : Type} {p q : Prop} [Decidable p] [Decidable q] {A B : α} : (if p then (if q then A else B) else B) = if p ∧ q then A else B := by
  by_cases x : p
  · by_cases y : q
    · rw [if_pos x, if_pos y, if_pos ⟨x, y⟩]
    · rw [if_pos x, if_neg y, if_neg (fun z => y z.2)]
  · rw [if_neg x, if_neg (fun z => x z.1)]
theorem lx_cTwo {c d : Nat} {s : t_S} (hc : c < 256) (hd : d < 256) : f_X2_pairOf (nI c) (nI d) s = nI (lx_two c d) := by
  have a : ∀ k : Nat, k < 256 → ((nI c = nI k) ↔ c = k) := fun k hk => nI_eq (by omega) (by omega)
  have b : ∀ k : Nat, k < 256 → ((nI d = nI k) ↔ d = k) := fun k hk => nI_eq (by omega) (by omega)
  have e : (nI c).toInt = (c : Int) := nI_toInt (by omega)
  have i1 : ((c : Int) = 33) ↔ c = 33 := by omega
  have i2 : ((c : Int) = 58) ↔ c = 58 := by omega
  have i3 : ((c : Int) = 60) ↔ c = 60 := by omega
  have i4 : ((c : Int) = 61) ↔ c = 61 := by omega
  have i5 : ((c : Int) = 62) ↔ c = 62 := by omega
  unfold f_X2_pairOf k_X2_pairOf_15 k_X2_pairOf_30 k_X2_pairOf_45 lx_two
  simp only [show (46 : Int32) = nI 46 from rfl, show (38 : Int32) = nI 38 from rfl, show (124 : Int32) = nI 124 from rfl, show (61 : Int32) = nI 61 from rfl, a 46 (by decide), a 38 (by decide), a 124 (by decide), b 46 (by decide), b 38 (by decide), b 124 (by decide), b 61 (by decide), e, i1, i2, i3, i4, i5, l2_and]
  by_cases x1 : c = 46 ∧ d = 46
  · rw [if_pos x1, if_pos x1]; rfl
  rw [if_neg x1, if_neg x1]
  by_cases x2 : c = 38 ∧ d = 38
  · rw [if_pos x2, if_pos x2]; rfl
  rw [if_neg x2, if_neg x2]
  by_cases x3 : c = 124 ∧ d = 124
  · rw [if_pos x3, if_pos x3]; rfl
  rw [if_neg x3, if_neg x3]
  by_cases x4 : d = 61
  · rw [if_pos x4, if_pos x4]
    by_cases y1 : c = 33
    · rw [if_pos y1, if_pos y1]; rfl
    rw [if_neg y1, if_neg y1]
    by_cases y2 : c = 58
    · rw [if_pos y2, if_pos y2]; rfl
    rw [if_neg y2, if_neg y2]
    by_cases y3 : c = 60
    · rw [if_pos y3, if_pos y3]; rfl
    rw [if_neg y3, if_neg y3]
    by_cases y4 : c = 61
    · rw [if_pos y4, if_pos y4]; rfl
    rw [if_neg y4, if_neg y4]
    by_cases y5 : c = 62
    · rw [if_pos y5, if_pos y5]; rfl
    rw [if_neg y5, if_neg y5]
    rfl
  · rw [if_neg x4, if_neg x4]
    rfl
/-- the reference's test for two signs -/
theorem lx_twoD {c d : Nat} : (lx_two c d = 0 ∨ lx_two c d = 10 ∨ lx_two c d = 16 ∨ lx_two c d = 17 ∨ lx_two c d = 13 ∨ lx_two c d = 11 ∨ lx_two c d = 14 ∨ lx_two c d = 12 ∨ lx_two c d = 15) := by
  unfold lx_two
  repeat' split
  all_goals omega
/-- the class's reading of a sign; n: the sign behind it, 0 at the end -/
def lx_nxt (B : Nat → Nat) (L p : Nat) : Nat := if p + 1 < L then B (p + 1) else 0
def lx_so (B : Nat → Nat) (L p : Nat) : Nat := if lx_two (B p) (lx_nxt B L p) = 0 then (if lx_one (B p) = true then B p else 5) else lx_two (B p) (lx_nxt B L p)
def lx_se (B : Nat → Nat) (L p : Nat) : Nat := if lx_two (B p) (lx_nxt B L p) = 0 then p + 1 else p + 2
theorem lx_nxt_lt {s : t_S} {B : Nat → Nat} {L p : Nat} (hT : tx_Tc s B L) : lx_nxt B L p < 256 := by
  unfold lx_nxt
  split
  · exact (hT.2.2 _ (by omega)).1
  · omega
theorem lx_csign {s : t_S} {B : Nat → Nat} {L p : Nat} (hT : tx_Tc s B L) (hp : p < L) (h : s.1 1 2 = nI p) (h1 : lx_le (B p) = false) (h2 : lx_di (B p) = false) (h3 : B p ≠ 34) : t_hk (f_X2_readToken (nI (B p)) s) (fun r => r.1 = nI (lx_so B L p) ∧ r.2.1 1 2 = nI (lx_se B L p) ∧ l2_fr lx_Wa s r.2) := by
  have hL := hT.1
  obtain ⟨b1, b2⟩ := hT.2.2 p hp
  unfold f_X2_readToken
  rw [lx_isL b1, h1, if_neg (show ¬ false = true by decide)]
  refine l2_ck rfl ?_
  rw [lx_isD b1, h2, if_neg (show ¬ false = true by decide)]
  refine l2_ck rfl ?_
  refine l2_no (fun z => h3 ((l2_eqI (c := 34) (by omega) (by decide)).mp z)) ?_
  have st : ∀ d : Nat, d = lx_nxt B L p → t_hk (k_X2_readToken_67 (nI (B p)) (nI d) s) (fun r => r.1 = nI (lx_so B L p) ∧ r.2.1 1 2 = nI (lx_se B L p) ∧ l2_fr lx_Wa s r.2) := by
    rintro d rfl
    have hd := lx_nxt_lt (p := p) hT
    have b88 : ∀ (k : Nat) (v : Int32), v = nI k → nI (lx_se B L p) = nI p + v → t_hk (k_X2_readToken_88 (nI (B p)) (nI (lx_two (B p) (lx_nxt B L p))) v (nI p) s) (fun r => r.1 = nI (lx_so B L p) ∧ r.2.1 1 2 = nI (lx_se B L p) ∧ l2_fr lx_Wa s r.2) := by
      intro k v hv he
      have rest : (t_setI s 1 2 (nI p + v)).1 1 2 = nI (lx_se B L p) ∧ l2_fr lx_Wa s (t_setI s 1 2 (nI p + v)) := ⟨by rw [l2_sI, mj_up_eq, he], l2_fr.one⟩
      unfold k_X2_readToken_88
      refine l2_lt ?_
      have ht : lx_two (B p) (lx_nxt B L p) < 256 := by rcases lx_twoD (c := B p) (d := lx_nxt B L p) with q | q | q | q | q | q | q | q | q <;> omega
      refine l2_if (fun z => ?_) (fun z => ?_)
      · have z := (l2_z (by omega)).mp z
        rw [lx_cOne _ b1]
        have so : lx_so B L p = if lx_one (B p) = true then B p else 5 := by unfold lx_so; rw [if_pos z]
        by_cases o : lx_one (B p) = true
        · rw [if_pos o]
          refine l2_no l2_10 (l2_sm ⟨?_, rest⟩)
          rw [so, if_pos o]
        · rw [if_neg o]
          refine l2_ck rfl (l2_sm ⟨?_, rest⟩)
          rw [so, if_neg o]
          rfl
      · have z : lx_two (B p) (lx_nxt B L p) ≠ 0 := fun y => z ((l2_z (by omega)).mpr y)
        refine l2_sm ⟨?_, rest⟩
        unfold lx_so
        rw [if_neg z]
    unfold k_X2_readToken_67
    rw [lx_cTwo b1 hd, h]
    have ht : lx_two (B p) (lx_nxt B L p) < 256 := by rcases lx_twoD (c := B p) (d := lx_nxt B L p) with q | q | q | q | q | q | q | q | q <;> omega
    refine l2_if (fun z => ?_) (fun z => ?_)
    · have z := (l2_z (by omega)).mp z
      exact b88 1 1 rfl (by unfold lx_se; rw [if_pos z, nI_1])
    · have z : lx_two (B p) (lx_nxt B L p) ≠ 0 := fun y => z ((l2_z (by omega)).mpr y)
      exact b88 2 2 rfl (by unfold lx_se; rw [if_neg z, show (2 : Int32) = nI 2 from rfl, nI_add])
  rw [hT.2.1, h, nI_1]
  refine l2_if (fun c => ?_) (fun c => ?_)
  · have c := (nI_leI (by omega) (by omega)).mp c
    exact st 0 (by unfold lx_nxt; rw [if_neg (by omega)])
  · have c : ¬ L ≤ p + 1 := fun z => c ((nI_leI (by omega) (by omega)).mpr z)
    refine l2_ck (l2_ix (by omega) (by decide)) ?_
    obtain ⟨b3, b4⟩ := hT.2.2 (p + 1) (by omega)
    rw [nI_clamp (by omega), b4, tx_255 b3]
    exact st _ (by unfold lx_nxt; rw [if_pos (by omega)])
