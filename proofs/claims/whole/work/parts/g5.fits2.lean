/-! Level 2: FITS: what a list's, a record's parts are wanted as; loops of both sides over parts. -/
theorem l2_ch {α : Type} [Inhabited α] {P : Nat → α → Prop} {v : Nat} (h : ∀ j, j < v → ∃ w, P j w) : ∃ W : Nat → α, ∀ j, j < v → P j (W j) := by
  classical
  refine ⟨fun j => if q : j < v then Classical.choose (h j q) else default, fun j hj => ?_⟩
  show P j (if q : j < v then Classical.choose (h j q) else default)
  rw [dif_pos hj]
  exact Classical.choose_spec (h j hj)
theorem vl_i32 {n k v : Nat} {w : Int64} (h : vl_c (v : Int) n k w) (hv : v < 2 ^ 31) : (w >>> ((12 : Int32).toInt64 &&& 63)).toInt32 = nI v := by
  have e : w >>> ((12 : Int32).toInt64 &&& 63) = lN v := vr_l (by omega) (by rw [vl_shr]; obtain ⟨a, b, c⟩ := h; omega)
  rw [e, lN_i]
section
variable {T a m : Nat} {R : Nat → Nat → Prop} {s s1 : t_S} {l i0 : Nat}
/-- the class's searches read nothing of what is wanted -/
theorem hs_st (f : l2_fr (fun b _ => b = 333) s s1) : (∀ x, f_X11_resolve x s1 = f_X11_resolve x s) ∧ (∀ x y, f_X11_inRanges x y s1 = f_X11_inRanges x y s) ∧ (∀ x y, f_X11_memberOf x y s1 = f_X11_memberOf x y s) ∧ ∀ x y, f_X11_fieldOf x y s1 = f_X11_fieldOf x y s := by
  have e : ∀ b, b ≠ 333 → s1.1 b = s.1 b := fun b hb => funext fun j => (f b j hb).1
  have e' : ∀ b, b ≠ 333 → s1.2.1 b = s.2.1 b := fun b hb => funext fun j => (f b j hb).2.1
  have b1 : b_X11_lastNamed_4 s1 = b_X11_lastNamed_4 s := funext fun y => by
    show k_X11_lastNamed_4 _ _ s1 = k_X11_lastNamed_4 _ _ s
    unfold k_X11_lastNamed_4
    rw [e 326 (by decide), e 317 (by decide), e 321 (by decide)]
  have b2 : b_X11_inRanges_48 s1 = b_X11_inRanges_48 s := funext fun y => by
    show k_X11_inRanges_48 _ _ _ _ s1 = k_X11_inRanges_48 _ _ _ _ s
    unfold k_X11_inRanges_48 k_X11_inRanges_90
    rw [e 319 (by decide), e 321 (by decide), e' 322 (by decide), e' 323 (by decide)]
  have b3 : b_X11_memberOf_2 s1 = b_X11_memberOf_2 s := funext fun y => by
    show k_X11_memberOf_2 _ _ _ s1 = k_X11_memberOf_2 _ _ _ s
    unfold k_X11_memberOf_2
    rw [e 318 (by decide), e 321 (by decide), e 325 (by decide)]
  have b4 : b_X11_fieldOf_10 s1 = b_X11_fieldOf_10 s := funext fun y => by
    show k_X11_fieldOf_10 _ _ _ _ s1 = k_X11_fieldOf_10 _ _ _ _ s
    unfold k_X11_fieldOf_10
    rw [e 319 (by decide), e 321 (by decide), e 320 (by decide)]
  refine ⟨fun x => ?_, fun x y => ?_, fun x y => ?_, fun x y => ?_⟩
  · unfold f_X11_resolve f_X11_lastNamed
    rw [b1, e 317 (by decide), e 321 (by decide), e 326 (by decide)]
  · unfold f_X11_inRanges
    rw [b2, e 321 (by decide), e 318 (by decide), e' 322 (by decide), e' 323 (by decide)]
  · unfold f_X11_memberOf
    rw [b3]
  · unfold f_X11_fieldOf
    rw [b4, e 318 (by decide)]
/-- parts at A 0, A 1 .. are wanted as x 0, x 1 .. -/
def ftS (s1 : t_S) (A : Nat → Nat) (x : Nat → Int32) : Nat → t_S
  | 0 => s1
  | j + 1 => t_setI (ftS s1 A x j) 333 (A j) (x j)
theorem ftS.fr {A : Nat → Nat} {x : Nat → Int32} : ∀ v, l2_fr (fun b _ => b = 333) s1 (ftS s1 A x v) := by
  intro v
  induction v with
  | zero => exact l2_fr.rf
  | succ v ih => exact ih.trans (l2_fr.set rfl)
theorem ftS.out {A : Nat → Nat} {x : Nat → Int32} {y : Nat} : ∀ v, (∀ j, j < v → y ≠ A j) → (ftS s1 A x v).1 333 y = s1.1 333 y := by
  intro v
  induction v with
  | zero => intro _; rfl
  | succ v ih =>
    intro h
    show (t_setI (ftS s1 A x v) 333 (A v) (x v)).1 333 y = _
    rw [l2_g, if_neg (h v (by omega))]
    exact ih (fun j hj => h j (by omega))
theorem ftS.in {A : Nat → Nat} {x : Nat → Int32} : ∀ v j, (∀ i j, i < j → j < v → A i ≠ A j) → j < v → (ftS s1 A x v).1 333 (A j) = x j := by
  intro v
  induction v with
  | zero => intro j _ h; omega
  | succ v ih =>
    intro j h hj
    show (t_setI (ftS s1 A x v) 333 (A v) (x v)).1 333 (A j) = _
    rw [l2_g]
    by_cases c : j = v
    · rw [c, if_pos rfl]
    · rw [if_neg (h j v (by omega) (by omega))]
      exact ih j (fun i j q1 q2 => h i j q1 (by omega)) (by omega)
/-- a list's elements are wanted -/
theorem hl_go {i nd n' v : Nat} {A N : Nat → Nat} (hok : t_oka l 2 (t_ln l) = true) (hl : l ≠ 333) (hL : t_ln l < 1000000000) (hn : nd < 3001) (h18 : s1.1 318 nd = nI n') (hv : v ≤ 16) (hA : ∀ j, j < v → A (j + 1) = A j + N j ∧ i0 + A j < t_ln l ∧ A j < 120 ∧ ∃ t k, vl_c t (N j) k (s1.2.1 l (i0 + A j))) : t_loop (b_X11_holdsList_48) t_N (l, nI i0, nI nd, nI v, nI (A 0), 0, s1) = some (1, ftS s1 A (fun _ => nI n') v) := by
  have := l2_srch (b := b_X11_holdsList_48) (Y := fun j => (l, nI i0, nI nd, nI v, nI (A j), nI j, ftS s1 A (fun _ => nI n') j)) (j := v) (r := (1, ftS s1 A (fun _ => nI n') v)) (by omega) (fun j hj => ?_) ?_
  · exact this
  · obtain ⟨a1, a2, a3, t, k, a4⟩ := hA j hj
    show k_X11_holdsList_48 l (nI i0) (nI nd) (nI v) (nI (A j)) (nI j) (ftS s1 A (fun _ => nI n') j) = _
    unfold k_X11_holdsList_48
    have F := ftS.fr (s1 := s1) (A := A) (x := fun _ => nI n') j
    rw [if_neg (nI_ge hj (by omega)), if_pos (l2_ix hn (by decide)), if_pos (l2_ix a3 (by decide)), nI_clamp (n := A j) (by omega), nI_clamp (n := nd) (by omega), (F 318 nd (show ¬ (318 : Nat) = 333 by decide)).1, h18]
    show (if t_oka l 2 (t_ln l) = true then if t_ix (nI i0 + nI (A j)) (t_ln l) = true then some (Sum.inl (l, nI i0, nI nd, nI v, nI (A j) + f_X8_size ((ftS s1 A (fun _ => nI n') j).2.1 l (nI i0 + nI (A j)).toNatClampNeg) _, nI j + 1, ftS s1 A (fun _ => nI n') (j + 1))) else none else none) = _
    rw [if_pos hok, nI_add, if_pos (l2_ix a2 (by omega)), nI_clamp (n := i0 + A j) (by omega), (F l _ hl).2.1, vl_size a4, nI_add, nI_1, a1]
  · show k_X11_holdsList_48 l (nI i0) (nI nd) (nI v) (nI (A v)) (nI v) (ftS s1 A (fun _ => nI n') v) = _
    unfold k_X11_holdsList_48
    rw [if_pos (nI_le (Nat.le_refl _) (by omega))]
    rfl
/-- the first of v answers that is no -/
def fz (W : Nat → Int32) (v : Nat) : Nat := ff (fun j => if W j = 0 then 0 else 1) 0 v 0
theorem fz_at {W : Nat → Int32} {v : Nat} : fz W v ≤ v ∧ (∀ j, j < fz W v → W j ≠ 0) ∧ (fz W v < v → W (fz W v) = 0) := by
  obtain ⟨q1, q2, q3, q4⟩ := ff_at (X := fun j => if W j = 0 then 0 else 1) (x := 0) v 0
  have e : fz W v = ff (fun j => if W j = 0 then 0 else 1) 0 v 0 := rfl
  rw [← e] at q1 q2 q3 q4
  refine ⟨by omega, fun j hj z => q3 j (Nat.zero_le _) hj (by show (if W j = 0 then 0 else 1) = 0; rw [if_pos z]), fun h => ?_⟩
  have q := q4 (by omega)
  have q : (if W (fz W v) = 0 then 0 else 1) = 0 := q
  by_cases z : W (fz W v) = 0
  · exact z
  · rw [if_neg z] at q; omega
/-- the reference's walk over a list's elements -/
theorem rl_go {rc : RT_X13_fitsAt} {p nd n' v : Nat} {B : Nat → Nat} {W : Nat → Int32} (hp : p + 1 < 626600) (hv1 : s.2.1 1006 (p + 1) = lN v) (hv : v ≤ 16) (hn : nd < 13000) (h9 : s.1 959 nd = nI n') (hB : ∀ j, j < v → f_X13_partOf (nI p) (nI j) s = some (nI (B j)) ∧ rc.1 (nI (B j)) (nI n') s = some (W j) ∧ (W j = 0 ∨ W j = 1)) : k_X13_fitsAt_255 rc (nI p) (nI nd) 1 s = some (if fz W v < v then 0 else 1) := by
  obtain ⟨q1, q2, q3⟩ := fz_at (W := W) (v := v)
  unfold k_X13_fitsAt_255
  have ix : t_ix (nI p + 1) 626600 = true := by rw [nI_1]; exact l2_ix (by omega) (by decide)
  have := l2_srch (b := b_X13_fitsAt_260 rc s) (Y := fun i => (nI p, nI nd, (if i ≤ fz W v then 1 else 0 : Int32), nI i)) (j := if fz W v < v then fz W v + 1 else v) (r := if fz W v < v then 0 else 1) (by split <;> omega) (fun i hi => ?_) ?_
  · rw [if_pos (Nat.zero_le _)] at this
    exact this
  · have iv : i < v := by split at hi <;> omega
    have ie : i ≤ fz W v := by split at hi <;> omega
    obtain ⟨b1, b2, b3⟩ := hB i iv
    show k_X13_fitsAt_260 rc (nI p) (nI nd) (if i ≤ fz W v then 1 else 0) (nI i) s = _
    unfold k_X13_fitsAt_260
    rw [if_pos ie, if_neg (show ¬ (1 : Int32) = 0 by decide), if_pos ix, nI_1, nI_clamp (n := p + 1) (by omega), hv1, lN_i, if_neg (nI_ge iv (by omega)), b1, l2_bs, if_pos (l2_ix hn (by decide)), nI_clamp (n := nd) (by omega), h9, b2, l2_bs, nI_1]
    have e : W i = if i + 1 ≤ fz W v then 1 else 0 := by
      by_cases c : i + 1 ≤ fz W v
      · rw [if_pos c]
        exact b3.resolve_left (q2 i (by omega))
      · rw [if_neg c]
        have : fz W v = i := by omega
        rw [this] at q3
        exact q3 iv
    rw [e]
  · by_cases c : fz W v < v
    · rw [if_pos c, if_pos c]
      show k_X13_fitsAt_260 rc (nI p) (nI nd) (if fz W v + 1 ≤ fz W v then 1 else 0) (nI (fz W v + 1)) s = _
      unfold k_X13_fitsAt_260
      rw [if_neg (show ¬ fz W v + 1 ≤ fz W v by omega), if_pos (show (0 : Int32) = 0 from rfl), if_pos (Or.inl rfl)]
      rfl
    · rw [if_neg c, if_neg c]
      show k_X13_fitsAt_260 rc (nI p) (nI nd) (if v ≤ fz W v then 1 else 0) (nI v) s = _
      unfold k_X13_fitsAt_260
      rw [if_pos (show v ≤ fz W v by omega), if_neg (show ¬ (1 : Int32) = 0 by decide), if_pos ix, nI_1, nI_clamp (n := p + 1) (by omega), hv1, lN_i, if_pos (nI_le (Nat.le_refl _) (by omega)), if_pos (Or.inr rfl)]
      rfl
end
