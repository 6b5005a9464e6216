/-! Level 2: the class's least weights: what one node's is made of. -/
section
/-- a node's value so far -/
def lsV (a : Nat) (y : Nat → Nat) (x : Int32) : Nat := if x.toNatClampNeg < a then y x.toNatClampNeg else 2000000
/-- of a record, its fields from f on -/
def lsRc (s : t_S) (a : Nat) (y : Nat → Nat) : Nat → Int32 → Nat → Nat
  | 0, _, w => w
  | k + 1, f, w => if f.toInt < 0 then w else if s.1 321 f.toNatClampNeg = 0 then (if lsV a y (s.1 318 f.toNatClampNeg) < 2000000 then lsRc s a y k (s.1 319 f.toNatClampNeg) (min 1000000 (w + 1 + lsV a y (s.1 318 f.toNatClampNeg))) else 2000000) else lsRc s a y k (s.1 319 f.toNatClampNeg) w
/-- of a choice -/
def lsCh (s : t_S) (a : Nat) (y : Nat → Nat) : Nat → Int32 → Nat → Nat
  | 0, _, w => w
  | k + 1, f, w => if f.toInt < 0 then w else lsCh s a y k (s.1 319 f.toNatClampNeg) (if lsV a y (s.1 318 f.toNatClampNeg) < 2000000 then min w (min 1000000 (1 + lsV a y (s.1 318 f.toNatClampNeg))) else w)
theorem lsRc.succ {s : t_S} {a : Nat} {y : Nat → Nat} {k w : Nat} {f : Int32} : lsRc s a y (k + 1) f w = if f.toInt < 0 then w else if s.1 321 f.toNatClampNeg = 0 then (if lsV a y (s.1 318 f.toNatClampNeg) < 2000000 then lsRc s a y k (s.1 319 f.toNatClampNeg) (min 1000000 (w + 1 + lsV a y (s.1 318 f.toNatClampNeg))) else 2000000) else lsRc s a y k (s.1 319 f.toNatClampNeg) w := rfl
theorem lsCh.succ {s : t_S} {a : Nat} {y : Nat → Nat} {k w : Nat} {f : Int32} : lsCh s a y (k + 1) f w = if f.toInt < 0 then w else lsCh s a y k (s.1 319 f.toNatClampNeg) (if lsV a y (s.1 318 f.toNatClampNeg) < 2000000 then min w (min 1000000 (1 + lsV a y (s.1 318 f.toNatClampNeg))) else w) := rfl
noncomputable def lsLo (s : t_S) (n : Nat) : Nat := (s.2.1 322 n).toInt.toNat
/-- a node's least weight from its parts' -/
noncomputable def lsF (s : t_S) (a : Nat) (y : Nat → Nat) (n : Nat) : Nat :=
  if s.1 317 n = 1 ∨ s.1 317 n = 2 ∨ s.1 317 n = 4 then 1 else if s.1 317 n = 3 then 1 + (lsLo s n + 7) / 8 else if s.1 317 n = 5 then lsRc s a y (s.1 321 n).toNatClampNeg (s.1 318 n) 1 else if s.1 317 n = 6 then lsCh s a y (s.1 321 n).toNatClampNeg (s.1 318 n) 2000000 else if s.1 317 n = 7 then (if lsLo s n = 0 then 1 else if lsV a y (s.1 318 n) < 2000000 then min 1000000 (1 + lsLo s n * lsV a y (s.1 318 n)) else 2000000) else if s.1 317 n = 8 then lsV a y (s.1 326 (s.1 321 n).toNatClampNeg) else 2000000
def lsL (s : t_S) (a : Nat) (x : Int32) : Prop := x.toInt < 0 ∨ ∃ m, x = nI m ∧ m < a ∧ s.1 317 m = 9
/-- types' nodes as they are behind a module -/
def lsW (s : t_S) (a : Nat) : Prop := s.1 316 8 = nI a ∧ a ≤ 3000 ∧ ∀ n, n < a → ((s.1 317 n = 5 ∨ s.1 317 n = 6) → lsL s a (s.1 318 n)) ∧ (s.1 317 n = 9 → lsL s a (s.1 319 n)) ∧ ((s.1 317 n = 7 ∨ s.1 317 n = 9) → 0 ≤ (s.1 318 n).toInt ∧ (s.1 318 n).toInt < 3001) ∧ (s.1 317 n = 8 → ∃ t u, s.1 321 n = nI t ∧ t < 60 ∧ s.1 326 t = nI u ∧ u < a) ∧ ((s.1 317 n = 3 ∨ s.1 317 n = 7) → tw255 s n)
/-- values y at the nodes -/
def lsS (s : t_S) (a : Nat) (y : Nat → Nat) (w : t_S) : Prop := l2_fr (fun b j => b = 324 ∨ (b = 316 ∧ j = 15)) s w ∧ (∀ i, i < 3001 → w.1 324 i = nI (if i < a then y i else 2000000)) ∧ ∀ i, y i ≤ 2000000
variable {s w : t_S} {a : Nat} {y z : Nat → Nat}
theorem lsS.st (h : lsS s a y w) : ∀ b j, b ≠ 324 → b ≠ 316 → w.1 b j = s.1 b j ∧ w.2.1 b j = s.2.1 b j := fun b j y1 y2 => ⟨(h.1 b j (by omega)).1, (h.1 b j (by omega)).2.1⟩
/-- what stands at a part -/
theorem lsS.at (h : lsS s a y w) {x : Int32} (h0 : 0 ≤ x.toInt) (h1 : x.toInt < 3001) : t_ix x 3001 = true ∧ w.1 324 x.toNatClampNeg = nI (lsV a y x) ∧ lsV a y x ≤ 2000000 := by
  have e : x.toNatClampNeg = x.toInt.toNat := rfl
  refine ⟨t_ixI.mpr ⟨h0, by omega⟩, ?_, ?_⟩
  · rw [h.2.1 _ (by omega)]
    rfl
  · unfold lsV
    split
    · exact h.2.2 _
    · exact Nat.le_refl _
theorem ls_cap {v : Nat} (hv : v < 2 ^ 31) : (if nI v < (1000000 : Int32) then nI v else (1000000 : Int32)) = nI (min 1000000 v) := by
  by_cases c : v < 1000000
  · rw [if_pos (show nI v < (1000000 : Int32) from nI_lt (b := 1000000) c (by decide))]
    congr 1
    omega
  · rw [if_neg (show ¬ nI v < (1000000 : Int32) from nI_nlt (b := 1000000) (by omega) hv), show min 1000000 v = 1000000 by omega]
    rfl
theorem ls_rec (h : lsS s a y w) (hW : lsW s a) {n : Nat} (hn : n < a) (hk : s.1 317 n = 5) : t_hk (f_X11_leastOfRecord (nI n) w) (fun v => v = nI (lsRc s a y (s.1 321 n).toNatClampNeg (s.1 318 n) 1)) := by
  obtain ⟨R, hR⟩ : ∃ R, lsRc s a y (s.1 321 n).toNatClampNeg (s.1 318 n) 1 = R := ⟨_, rfl⟩
  rw [hR]
  have a3 := hW.2.1
  have st := h.st
  unfold f_X11_leastOfRecord
  refine l2_ck (l2_ix (by omega) (by decide)) ?_
  rw [nI_clamp (n := n) (by omega), (st 318 n (by decide) (by decide)).1]
  have cb : (s.1 321 n).toNatClampNeg < 2 ^ 31 := by
    have := Int32.toInt_lt (s.1 321 n)
    show (s.1 321 n).toInt.toNat < 2 ^ 31
    omega
  have L0 := (hW.2.2 n hn).1 (Or.inl hk)
  refine l2_lp (I := fun k x => ∃ i f v, i + k = (s.1 321 n).toNatClampNeg ∧ x = (nI n, nI v, f, nI i) ∧ v ≤ 1000000 ∧ lsL s a f ∧ lsRc s a y k f v = R) ?_ (m := (s.1 321 n).toNatClampNeg) (by unfold t_N; omega) ⟨0, s.1 318 n, 1, by omega, rfl, by decide, L0, hR⟩
  rintro k x ⟨i, f, v, hi, rfl, hv, hf, eq⟩
  show t_hk (k_X11_leastOfRecord_12 (nI n) (nI v) f (nI i) w) _
  unfold k_X11_leastOfRecord_12
  refine l2_ck (l2_ix (by omega) (by decide)) ?_
  rw [nI_clamp (n := n) (by omega), (st 321 n (by decide) (by decide)).1]
  have le : (s.1 321 n ≤ nI i) ↔ k = 0 := by
    rw [Int32.le_iff_toInt_le, nI_toInt (by omega)]
    have e : (s.1 321 n).toNatClampNeg = (s.1 321 n).toInt.toNat := rfl
    omega
  by_cases c : k = 0
  · rw [if_pos (le.mpr c)]
    subst c
    exact l2_mp (l2_sm (congrArg nI eq))
  rw [if_neg (fun y => c (le.mp y))]
  obtain ⟨k, rfl⟩ : ∃ j, k = j + 1 := ⟨k - 1, by omega⟩
  have f0 : f < (0 : Int32) ↔ f.toInt < 0 := Int32.lt_iff_toInt_lt
  by_cases c2 : f.toInt < 0
  · rw [if_pos (f0.mpr c2)]
    have e2 : v = R := by rw [← eq, lsRc.succ, if_pos c2]
    exact l2_mp (l2_sm (congrArg nI e2))
  rw [if_neg (fun y => c2 (f0.mp y))]
  obtain ⟨m, rfl, hm, k9⟩ := hf.resolve_left c2
  have W := hW.2.2 m hm
  obtain ⟨p1, p2⟩ := W.2.2.1 (Or.inr k9)
  obtain ⟨i1, i2, i3⟩ := h.at p1 p2
  have nx : ∀ (v' : Nat), v' ≤ 1000000 → lsRc s a y k (s.1 319 m) v' = R → t_hk (k_X11_leastOfRecord_76 (nI n) (nI v') (nI m) (nI i) w) (l2_nx (fun z => ∃ j, j < k + 1 ∧ ∃ i f v, i + j = (s.1 321 n).toNatClampNeg ∧ z = (nI n, nI v, f, nI i) ∧ v ≤ 1000000 ∧ lsL s a f ∧ lsRc s a y j f v = R) (fun v => v = nI (R))) := fun v' h1 h2 => by
    unfold k_X11_leastOfRecord_76
    refine l2_ck (l2_ix (by omega) (by decide)) (l2_sm ⟨k, by omega, i + 1, s.1 319 m, v', by omega, ?_, h1, W.2.1 k9, h2⟩)
    rw [nI_clamp (n := m) (by omega), (st 319 m (by decide) (by decide)).1, nI_1]
  refine l2_ck (l2_ix (by omega) (by decide)) ?_
  rw [nI_clamp (n := m) (by omega), (st 321 m (by decide) (by decide)).1, (st 318 m (by decide) (by decide)).1]
  rw [lsRc.succ, if_neg c2, nI_clamp (n := m) (by omega)] at eq
  by_cases c3 : s.1 321 m = 0
  · rw [if_pos c3] at eq ⊢
    refine l2_ck i1 ?_
    rw [i2]
    by_cases c4 : lsV a y (s.1 318 m) < 2000000
    · rw [if_pos c4] at eq
      rw [if_pos (show nI (lsV a y (s.1 318 m)) < (2000000 : Int32) from nI_lt (b := 2000000) c4 (by decide)), nI_1, nI_add, ls_cap (by omega)]
      exact nx _ (by omega) eq
    · rw [if_neg c4] at eq
      rw [if_neg (show ¬ nI (lsV a y (s.1 318 m)) < (2000000 : Int32) from nI_nlt (b := 2000000) (by omega) (by omega))]
      exact l2_mp (l2_sm (by rw [← eq]; rfl))
  · rw [if_neg c3] at eq ⊢
    exact nx _ hv eq
theorem ls_cho (h : lsS s a y w) (hW : lsW s a) {n : Nat} (hn : n < a) (hk : s.1 317 n = 6) : t_hk (f_X11_leastOfChoice (nI n) w) (fun v => v = nI (lsCh s a y (s.1 321 n).toNatClampNeg (s.1 318 n) 2000000)) := by
  obtain ⟨R, hR⟩ : ∃ R, lsCh s a y (s.1 321 n).toNatClampNeg (s.1 318 n) 2000000 = R := ⟨_, rfl⟩
  rw [hR]
  have a3 := hW.2.1
  have st := h.st
  unfold f_X11_leastOfChoice
  refine l2_ck (l2_ix (by omega) (by decide)) ?_
  rw [nI_clamp (n := n) (by omega), (st 318 n (by decide) (by decide)).1]
  have cb : (s.1 321 n).toNatClampNeg < 2 ^ 31 := by
    have := Int32.toInt_lt (s.1 321 n)
    show (s.1 321 n).toInt.toNat < 2 ^ 31
    omega
  have L0 := (hW.2.2 n hn).1 (Or.inr hk)
  refine l2_lp (I := fun k x => ∃ i f v, i + k = (s.1 321 n).toNatClampNeg ∧ x = (nI n, nI v, f, nI i) ∧ v ≤ 2000000 ∧ lsL s a f ∧ lsCh s a y k f v = R) ?_ (m := (s.1 321 n).toNatClampNeg) (by unfold t_N; omega) ⟨0, s.1 318 n, 2000000, by omega, rfl, by decide, L0, hR⟩
  rintro k x ⟨i, f, v, hi, rfl, hv, hf, eq⟩
  show t_hk (k_X11_leastOfChoice_13 (nI n) (nI v) f (nI i) w) _
  unfold k_X11_leastOfChoice_13
  refine l2_ck (l2_ix (by omega) (by decide)) ?_
  rw [nI_clamp (n := n) (by omega), (st 321 n (by decide) (by decide)).1]
  have le : (s.1 321 n ≤ nI i) ↔ k = 0 := by
    rw [Int32.le_iff_toInt_le, nI_toInt (by omega)]
    have e : (s.1 321 n).toNatClampNeg = (s.1 321 n).toInt.toNat := rfl
    omega
  by_cases c : k = 0
  · rw [if_pos (le.mpr c)]
    subst c
    exact l2_mp (l2_sm (congrArg nI eq))
  rw [if_neg (fun y => c (le.mp y))]
  obtain ⟨k, rfl⟩ : ∃ j, k = j + 1 := ⟨k - 1, by omega⟩
  have f0 : f < (0 : Int32) ↔ f.toInt < 0 := Int32.lt_iff_toInt_lt
  by_cases c2 : f.toInt < 0
  · rw [if_pos (f0.mpr c2)]
    have e2 : v = R := by rw [← eq, lsCh.succ, if_pos c2]
    exact l2_mp (l2_sm (congrArg nI e2))
  rw [if_neg (fun y => c2 (f0.mp y))]
  obtain ⟨m, rfl, hm, k9⟩ := hf.resolve_left c2
  have W := hW.2.2 m hm
  obtain ⟨p1, p2⟩ := W.2.2.1 (Or.inr k9)
  obtain ⟨i1, i2, i3⟩ := h.at p1 p2
  have nx : ∀ (v' : Nat), v' ≤ 2000000 → lsCh s a y k (s.1 319 m) v' = R → t_hk (k_X11_leastOfChoice_67 (nI n) (nI v') (nI m) (nI i) w) (l2_nx (fun z => ∃ j, j < k + 1 ∧ ∃ i f v, i + j = (s.1 321 n).toNatClampNeg ∧ z = (nI n, nI v, f, nI i) ∧ v ≤ 2000000 ∧ lsL s a f ∧ lsCh s a y j f v = R) (fun v => v = nI (R))) := fun v' h1 h2 => by
    unfold k_X11_leastOfChoice_67
    refine l2_ck (l2_ix (by omega) (by decide)) (l2_sm ⟨k, by omega, i + 1, s.1 319 m, v', by omega, ?_, h1, W.2.1 k9, h2⟩)
    rw [nI_clamp (n := m) (by omega), (st 319 m (by decide) (by decide)).1, nI_1]
  refine l2_ck (l2_ix (by omega) (by decide)) ?_
  rw [nI_clamp (n := m) (by omega), (st 318 m (by decide) (by decide)).1]
  rw [lsCh.succ, if_neg c2, nI_clamp (n := m) (by omega)] at eq
  refine l2_ck i1 ?_
  rw [i2]
  by_cases c4 : lsV a y (s.1 318 m) < 2000000
  · rw [if_pos c4] at eq
    have e1 : (1 : Int32) + nI (lsV a y (s.1 318 m)) = nI (1 + lsV a y (s.1 318 m)) := nI_add 1 _
    rw [if_neg (show ¬ (2000000 : Int32) ≤ nI (lsV a y (s.1 318 m)) from nI_ge (b := 2000000) c4 (by decide)), e1, ls_cap (by omega)]
    by_cases c5 : min 1000000 (1 + lsV a y (s.1 318 m)) < v
    · rw [if_pos (nI_lt c5 (by omega))]
      exact nx _ (by omega) (by rw [show min v (min 1000000 (1 + lsV a y (s.1 318 m))) = min 1000000 (1 + lsV a y (s.1 318 m)) by omega] at eq; exact eq)
    · rw [if_neg (nI_nlt (by omega) (by omega))]
      exact nx _ hv (by rw [show min v (min 1000000 (1 + lsV a y (s.1 318 m))) = v by omega] at eq; exact eq)
  · rw [if_neg c4] at eq
    rw [if_pos (show (2000000 : Int32) ≤ nI (lsV a y (s.1 318 m)) from nI_le (a := 2000000) (by omega) (by omega))]
    exact nx _ hv eq
/-- one node -/
theorem ls_one (h : lsS s a y w) (hW : lsW s a) {n : Nat} (hn : n < a) : t_hk (f_X11_leastOf (nI n) w) (fun v => v = nI (lsF s a y n)) := by
  have a3 := hW.2.1
  have st := h.st
  have W := hW.2.2 n hn
  unfold f_X11_leastOf lsF
  refine l2_ck (l2_ix (by omega) (by decide)) ?_
  rw [nI_clamp (n := n) (by omega), (st 317 n (by decide) (by decide)).1]
  have kk : ∀ j : Nat, j < 100 → ((s.1 317 n).toInt = (j : Int) ↔ s.1 317 n = nI j) := fun j hj => by
    rw [← Int32.toInt_inj, nI_toInt (by omega)]
  have k1 : (s.1 317 n).toInt = 1 ↔ s.1 317 n = 1 := kk 1 (by decide)
  have k2 : (s.1 317 n).toInt = 2 ↔ s.1 317 n = 2 := kk 2 (by decide)
  have k3 : (s.1 317 n).toInt = 3 ↔ s.1 317 n = 3 := kk 3 (by decide)
  have k4 : (s.1 317 n).toInt = 4 ↔ s.1 317 n = 4 := kk 4 (by decide)
  have k5 : (s.1 317 n).toInt = 5 ↔ s.1 317 n = 5 := kk 5 (by decide)
  have k6 : (s.1 317 n).toInt = 6 ↔ s.1 317 n = 6 := kk 6 (by decide)
  have k7 : (s.1 317 n).toInt = 7 ↔ s.1 317 n = 7 := kk 7 (by decide)
  have k8 : (s.1 317 n).toInt = 8 ↔ s.1 317 n = 8 := kk 8 (by decide)
  by_cases c0 : (s.1 317 n).toInt < 1 ∨ 8 < (s.1 317 n).toInt
  · have no : ∀ j : Nat, 1 ≤ j → j ≤ 8 → ¬ s.1 317 n = nI j := fun j j1 j2 y => by
      have := (kk j (by omega)).mpr y
      omega
    have n1 : ¬ s.1 317 n = 1 := no 1 (by decide) (by decide)
    have n2 : ¬ s.1 317 n = 2 := no 2 (by decide) (by decide)
    have n3 : ¬ s.1 317 n = 3 := no 3 (by decide) (by decide)
    have n4 : ¬ s.1 317 n = 4 := no 4 (by decide) (by decide)
    have n5 : ¬ s.1 317 n = 5 := no 5 (by decide) (by decide)
    have n6 : ¬ s.1 317 n = 6 := no 6 (by decide) (by decide)
    have n7 : ¬ s.1 317 n = 7 := no 7 (by decide) (by decide)
    have n8 : ¬ s.1 317 n = 8 := no 8 (by decide) (by decide)
    rw [if_pos c0, if_neg (show ¬ (s.1 317 n = 1 ∨ s.1 317 n = 2 ∨ s.1 317 n = 4) from fun y => y.elim n1 (fun y => y.elim n2 n4)), if_neg n3, if_neg n5, if_neg n6, if_neg n7, if_neg n8]
    exact l2_sm rfl
  rw [if_neg c0]
  by_cases c1 : s.1 317 n = 1
  · rw [if_pos (k1.mpr c1), if_pos (Or.inl c1)]
    exact l2_sm rfl
  rw [if_neg (fun y => c1 (k1.mp y))]
  by_cases c2 : s.1 317 n = 2
  · rw [if_pos (k2.mpr c2), if_pos (Or.inr (Or.inl c2))]
    exact l2_sm rfl
  rw [if_neg (fun y => c2 (k2.mp y))]
  by_cases c3 : s.1 317 n = 3
  · have T := W.2.2.2.2 (Or.inl c3)
    unfold tw255 at T
    rw [if_pos (k3.mpr c3), if_neg (fun y => by rw [c3] at y; exact absurd y (by decide)), if_pos c3, (st 322 n (by decide) (by decide)).2]
    refine l2_sm ?_
    have e : s.2.1 322 n = lN (lsLo s n) := by
      unfold lsLo
      rw [← Int64.toInt_inj, lN_toInt (by omega)]
      omega
    have lo : lsLo s n ≤ 255 := by unfold lsLo; omega
    have e7 : (lN (lsLo s n) + (7 : Int64)).toInt32 = nI (lsLo s n + 7) := by
      rw [show lN (lsLo s n) + (7 : Int64) = lN (lsLo s n + 7) from lN_add _ 7]
      exact lN_i _
    have e8 : nI (lsLo s n + 7) / (8 : Int32) = nI ((lsLo s n + 7) / 8) := pk_div (d := 8) (by omega) (by decide) (by decide)
    rw [e, e7, e8]
    exact nI_add 1 _
  rw [if_neg (fun y => c3 (k3.mp y))]
  by_cases c4 : s.1 317 n = 4
  · rw [if_pos (k4.mpr c4), if_pos (Or.inr (Or.inr c4))]
    exact l2_sm rfl
  rw [if_neg (fun y => c4 (k4.mp y)), if_neg (show ¬ (s.1 317 n = 1 ∨ s.1 317 n = 2 ∨ s.1 317 n = 4) from fun y => y.elim c1 (fun y => y.elim c2 c4)), if_neg c3]
  by_cases c5 : s.1 317 n = 5
  · rw [if_pos (k5.mpr c5), if_pos c5]
    exact l2_bd _ (ls_rec h hW hn c5) (fun r hr => l2_sm hr)
  rw [if_neg (fun y => c5 (k5.mp y)), if_neg c5]
  by_cases c6 : s.1 317 n = 6
  · rw [if_pos (k6.mpr c6), if_pos c6]
    exact l2_bd _ (ls_cho h hW hn c6) (fun r hr => l2_sm hr)
  rw [if_neg (fun y => c6 (k6.mp y)), if_neg c6]
  by_cases c7 : s.1 317 n = 7
  · have T := W.2.2.2.2 (Or.inr c7)
    obtain ⟨p1, p2⟩ := W.2.2.1 (Or.inl c7)
    obtain ⟨i1, i2, i3⟩ := h.at p1 p2
    unfold tw255 at T
    have e : s.2.1 322 n = lN (lsLo s n) := by
      unfold lsLo
      rw [← Int64.toInt_inj, lN_toInt (by omega)]
      omega
    have lo : lsLo s n ≤ 255 := by unfold lsLo; omega
    rw [if_pos (k7.mpr c7), if_pos c7, (st 322 n (by decide) (by decide)).2, (st 318 n (by decide) (by decide)).1, e]
    by_cases z : lsLo s n = 0
    · rw [z, if_pos (by decide), if_pos rfl]
      exact l2_sm rfl
    · have nz : ¬ lg_cmp (lN (lsLo s n)) 0 = 0 := fun y => z (by
        have := l2_cmp0.mp y
        exact lN_inj (b := 0) (by omega) (by decide) this)
      rw [if_neg nz, if_neg z]
      refine l2_ck i1 ?_
      rw [i2]
      by_cases c8 : lsV a y (s.1 318 n) < 2000000
      · have m1 : (lN (lsLo s n)).toInt32 * nI (lsV a y (s.1 318 n)) = nI (lsLo s n * lsV a y (s.1 318 n)) := by
          rw [lN_i]
          exact pk_mul _ _
        have bm : lsLo s n * lsV a y (s.1 318 n) ≤ 255 * 2000000 := Nat.mul_le_mul lo (by omega)
        have e1 : (1 : Int32) + nI (lsLo s n * lsV a y (s.1 318 n)) = nI (1 + lsLo s n * lsV a y (s.1 318 n)) := nI_add 1 _
        rw [if_pos (show nI (lsV a y (s.1 318 n)) < (2000000 : Int32) from nI_lt (b := 2000000) c8 (by decide)), if_pos c8, m1, e1, ls_cap (by omega)]
        exact l2_sm rfl
      · rw [if_neg (show ¬ nI (lsV a y (s.1 318 n)) < (2000000 : Int32) from nI_nlt (b := 2000000) (by omega) (by omega)), if_neg c8]
        exact l2_sm rfl
  rw [if_neg (fun y => c7 (k7.mp y)), if_neg c7]
  have c8 : s.1 317 n = 8 := k8.mp (by
    have h1 := fun y => c1 (k1.mp y)
    have h2 := fun y => c2 (k2.mp y)
    have h3 := fun y => c3 (k3.mp y)
    have h4 := fun y => c4 (k4.mp y)
    have h5 := fun y => c5 (k5.mp y)
    have h6 := fun y => c6 (k6.mp y)
    have h7 := fun y => c7 (k7.mp y)
    have h1 : ¬ (s.1 317 n).toInt = 1 := h1
    have h2 : ¬ (s.1 317 n).toInt = 2 := h2
    have h3 : ¬ (s.1 317 n).toInt = 3 := h3
    have h4 : ¬ (s.1 317 n).toInt = 4 := h4
    have h5 : ¬ (s.1 317 n).toInt = 5 := h5
    have h6 : ¬ (s.1 317 n).toInt = 6 := h6
    have h7 : ¬ (s.1 317 n).toInt = 7 := h7
    omega)
  obtain ⟨t, u, t1, t2, t3, t4⟩ := W.2.2.2.1 c8
  rw [if_pos c8, (st 321 n (by decide) (by decide)).1, t1, nI_clamp (n := t) (by omega), (st 326 t (by decide) (by decide)).1, t3]
  obtain ⟨i1, i2, i3⟩ := h.at (x := nI u) (by rw [nI_toInt (by omega)]; omega) (by rw [nI_toInt (by omega)]; omega)
  refine l2_ck (l2_ix (by omega) (by decide)) (l2_ck i1 ?_)
  rw [i2]
  exact l2_sm rfl
end
