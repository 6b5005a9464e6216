/-! Level 2: a VALUE held against a type: turns of the class's walk; parts of a VALUE in the reference. -/
section
variable {T a m : Nat} {R : Nat → Nat → Prop} {s s1 : t_S} {l i0 : Nat}
/-- what the class's walk over n cells from i on comes to -/
def ftO (s : t_S) (l i0 sz i n : Nat) (s1 : t_S) (w : Int32) : Prop := (w = 1 ∧ ∃ u s2, u ≤ n ∧ l2_tn b_X11_holds_31 u (l, nI i0, nI sz, nI i, s1) (l, nI i0, nI sz, nI (i + n), s2) ∧ l2_fr (fun b _ => b = 333) s s2 ∧ ∀ j, j ≤ i ∨ i + n ≤ j → s2.1 333 j = s1.1 333 j) ∨ (w = 0 ∧ ∃ u y s2, u ≤ n ∧ l2_tn b_X11_holds_31 u (l, nI i0, nI sz, nI i, s1) y ∧ b_X11_holds_31 y = some (.inr (0, s2)) ∧ l2_fr (fun b _ => b = 333) s s2)
def ftC (s : t_S) (l i0 i n nd : Nat) (w : Int32) : Prop := ∀ sz s1, i + n ≤ sz → sz ≤ 120 → i0 + sz ≤ t_ln l → l2_fr (fun b _ => b = 333) s s1 → s1.1 333 i = nI nd → (∀ j, i < j → j < i + n → s1.1 333 j = -1) → ftO s l i0 sz i n s1 w
theorem ft_skip {sz : Nat} (hz : sz ≤ 120) : ∀ d i, (∀ j, i ≤ j → j < i + d → s1.1 333 j = -1) → i + d ≤ sz → l2_tn b_X11_holds_31 d (l, nI i0, nI sz, nI i, s1) (l, nI i0, nI sz, nI (i + d), s1) := by
  intro d
  induction d with
  | zero => intro i _ _; exact l2_tn.nil
  | succ d ih =>
    intro i h hi
    have st : b_X11_holds_31 (l, nI i0, nI sz, nI i, s1) = some (.inl (l, nI i0, nI sz, nI (i + 1), s1)) := by
      show k_X11_holds_31 l (nI i0) (nI sz) (nI i) s1 = _
      unfold k_X11_holds_31 k_X11_holds_72
      rw [if_neg (nI_ge (by omega) (by omega)), if_pos (l2_ix (by omega) (by decide)), nI_clamp (n := i) (by omega), h i (Nat.le_refl _) (by omega), if_pos (by decide), nI_1]
    have q := (l2_tn.one st).trans (ih (i + 1) (fun j h1 h2 => h j (by omega) (by omega)) (by omega))
    rw [show 1 + d = d + 1 by omega, show i + 1 + d = i + (d + 1) by omega] at q
    exact q
/-- one turn at a cell that is wanted -/
theorem ft_turn {sz i nd nd' : Nat} {z : Int32 × t_S} (hi : i < sz) (hz : sz ≤ 120) (hw : s1.1 333 i = nI nd) (hd : nd < 3001) (hr : f_X11_resolve (nI nd) s1 = some (nI nd')) (hh : f_X11_holdsHere l (nI i0) (nI i) (nI nd') s1 = some z) : b_X11_holds_31 (l, nI i0, nI sz, nI i, s1) = (if z.1 = 0 then some (.inr (0, z.2)) else some (.inl (l, nI i0, nI sz, nI (i + 1), z.2))) := by
  show k_X11_holds_31 l (nI i0) (nI sz) (nI i) s1 = _
  unfold k_X11_holds_31 k_X11_holds_72
  rw [if_neg (nI_ge (by omega) (by omega)), if_pos (l2_ix (by omega) (by decide)), nI_clamp (n := i) (by omega), hw, if_neg (nI_pos (by omega)), hr, l2_bs, hh, l2_bs, nI_1]
  by_cases z0 : z.1 = 0
  · rw [if_pos z0, if_pos z0]; rfl
  · rw [if_neg z0, if_neg z0]
/-- a cell whose type's answer is known at once -/
theorem ft_leaf {i n nd nd' : Nat} {w : Int32} (hn : 0 < n) (hd : nd < 3001) (h01 : w = 0 ∨ w = 1) (hr : ∀ s1, l2_fr (fun b _ => b = 333) s s1 → f_X11_resolve (nI nd) s1 = some (nI nd')) (hh : ∀ s1, l2_fr (fun b _ => b = 333) s s1 → i < 120 → i0 + i < t_ln l → f_X11_holdsHere l (nI i0) (nI i) (nI nd') s1 = some (w, s1)) : ftC s l i0 i n nd w := by
  intro sz s1 h1 h2 h3 f hw hm
  have t := ft_turn (l := l) (i0 := i0) (by omega) h2 hw hd (hr s1 f) (hh s1 f (by omega) (by omega))
  rcases h01 with rfl | rfl
  · exact Or.inr ⟨rfl, 0, _, s1, by omega, l2_tn.nil, by rw [t, if_pos rfl], f⟩
  · refine Or.inl ⟨rfl, 1 + (n - 1), s1, by omega, ?_, f, fun _ _ => rfl⟩
    rw [if_neg (show ¬ (1 : Int32) = 0 by decide)] at t
    have q := (l2_tn.one t).trans (ft_skip (s1 := s1) (l := l) (i0 := i0) h2 (n - 1) (i + 1) (fun j j1 j2 => hm j (by omega) (by omega)) (by omega))
    rw [show i + 1 + (n - 1) = i + n by omega] at q
    exact q
/-- parts one behind another, each with g cells ahead of it -/
theorem ft_parts {sz g v : Nat} {A N nd : Nat → Nat} {W : Nat → Int32} (hz : sz ≤ 120) (hl : i0 + sz ≤ t_ln l) (hA : ∀ j, j < v → A (j + 1) = A j + g + N j ∧ 0 < N j ∧ ftC s l i0 (A j + g) (N j) (nd j) (W j) ∧ (W j = 0 ∨ W j = 1)) (hv : A v ≤ sz) : ∀ d i s1, d = v - i → i ≤ v → l2_fr (fun b _ => b = 333) s s1 → (∀ j, i ≤ j → j < v → s1.1 333 (A j + g) = nI (nd j) ∧ (∀ y, A j ≤ y → y < A (j + 1) → y ≠ A j + g → s1.1 333 y = -1)) → ((∀ j, i ≤ j → j < v → W j = 1) ∧ ∃ u s2, u ≤ A v - A i ∧ A i ≤ A v ∧ l2_tn b_X11_holds_31 u (l, nI i0, nI sz, nI (A i), s1) (l, nI i0, nI sz, nI (A v), s2) ∧ l2_fr (fun b _ => b = 333) s s2 ∧ ∀ j, j < A i ∨ A v ≤ j → s2.1 333 j = s1.1 333 j) ∨ ((∃ j, i ≤ j ∧ j < v ∧ W j = 0) ∧ ∃ u y s2, u ≤ A v - A i ∧ A i ≤ A v ∧ l2_tn b_X11_holds_31 u (l, nI i0, nI sz, nI (A i), s1) y ∧ b_X11_holds_31 y = some (.inr (0, s2)) ∧ l2_fr (fun b _ => b = 333) s s2) := by
  have mono : ∀ j, j ≤ v → ∀ i, i ≤ j → A i ≤ A j := by
    intro j
    induction j with
    | zero => intro _ i hi; rw [show i = 0 by omega]; exact Nat.le_refl _
    | succ j ih =>
      intro hj i hi
      have e := (hA j (by omega)).1
      by_cases c : i = j + 1
      · rw [c]; exact Nat.le_refl _
      · have := ih (by omega) i (by omega)
        omega
  intro d
  induction d with
  | zero =>
    intro i s1 hd hi f _
    have e : i = v := by omega
    subst e
    exact Or.inl ⟨fun j h1 h2 => by omega, 0, s1, by omega, Nat.le_refl _, l2_tn.nil, f, fun _ _ => rfl⟩
  | succ d ih =>
    intro i s1 hd hi f hs
    have iv : i < v := by omega
    obtain ⟨a1, a2, a3, a4⟩ := hA i iv
    obtain ⟨s1a, s1b⟩ := hs i (Nat.le_refl _) iv
    have mv := mono v (Nat.le_refl _) (i + 1) (by omega)
    have sk := ft_skip (s1 := s1) (l := l) (i0 := i0) (sz := sz) hz g (A i) (fun j j1 j2 => s1b j j1 (by omega) (by omega)) (by omega)
    rcases a3 sz s1 (by omega) hz hl f s1a (fun j j1 j2 => s1b j (by omega) (by omega) (by omega)) with ⟨w1, u, s2, u1, t1, f2, e2⟩ | ⟨w0, u, y, s2, u1, t1, t2, f2⟩
    · have e2' : ∀ j, j ≤ A i + g ∨ A (i + 1) ≤ j → s2.1 333 j = s1.1 333 j := fun j q => e2 j (by omega)
      rw [← a1] at t1
      have next := ih (i + 1) s2 (by omega) (by omega) f2 (fun j j1 j2 => by
        have m1 := mono j (by omega) (i + 1) j1
        obtain ⟨x1, x2⟩ := hs j (by omega) j2
        refine ⟨by rw [e2' _ (by omega)]; exact x1, fun y y1 y2 y3 => by rw [e2' _ (by omega)]; exact x2 y y1 y2 y3⟩)
      rcases next with ⟨n1, u', s3, n2, n3, n4, n5, n6⟩ | ⟨⟨j, j1, j2, j3⟩, u', y, s3, n2, n3, n4, n5, n6⟩
      · refine Or.inl ⟨fun j j1 j2 => ?_, g + u + u', s3, by omega, by omega, (sk.trans t1).trans n4, n5, fun j q => ?_⟩
        · by_cases c : j = i
          · rw [c]; exact w1
          · exact n1 j (by omega) j2
        · rw [n6 j (by omega), e2' j (by omega)]
      · exact Or.inr ⟨⟨j, by omega, j2, j3⟩, g + u + u', y, s3, by omega, by omega, (sk.trans t1).trans n4, n5, n6⟩
    · exact Or.inr ⟨⟨i, Nat.le_refl _, iv, w0⟩, g + u, y, s2, by omega, by omega, sk.trans t1, t2, f2⟩
/-- where the k-th part of a row begins, in the reference -/
theorem vw_part {c : Nat → Int64} {f v p q0 k j : Nat} {I P L : Nat → Nat} (hk : s.2.1 1006 p = lN k) (k9 : k < 9) (hq : q0 = p + 2 + (if k = 6 then v else 0)) (h6 : k = 6 → s.2.1 1006 (p + 1) = lN v) (hv : v ≤ 1000) (P0 : P 0 = 0) (hP : ∀ j, j < v → P j ≤ P (j + 1) ∧ q0 + P (j + 1) ≤ 626600 ∧ VW c (s.2.1 1006) f (I j) (q0 + P j) (L j) (P (j + 1) - P j)) (hf : f ≤ 800) (hp : p + 1 < 626600) (hj : j ≤ v) : f_X13_partOf (nI p) (nI j) s = some (nI (q0 + P j)) := by
  have lp : t_loop (b_X13_partOf_34 s) t_N (nI j, nI q0, 0) = some (nI (q0 + P j)) := by
    have := l2_srch (b := b_X13_partOf_34 s) (Y := fun i => (nI j, nI (q0 + P i), nI i)) (j := j) (r := nI (q0 + P j)) (by omega) (fun i hi => ?_) ?_
    · rw [P0, Nat.add_zero] at this
      exact this
    · obtain ⟨x1, x2, x3⟩ := hP i (by omega)
      show k_X13_partOf_34 (nI j) (nI (q0 + P i)) (nI i) s = _
      unfold k_X13_partOf_34
      rw [if_neg (nI_ge hi (by omega)), vr_end6 hf (VW.vr _ _ _ _ _ x3) (by omega), l2_bs, nI_1, show q0 + P i + (P (i + 1) - P i) = q0 + P (i + 1) by omega]
    · show k_X13_partOf_34 (nI j) (nI (q0 + P j)) (nI j) s = _
      unfold k_X13_partOf_34
      rw [if_pos (nI_le (Nat.le_refl _) (by omega))]
      rfl
  unfold f_X13_partOf k_X13_partOf_29
  rw [if_pos (l2_ix (by omega) (by decide)), nI_clamp (n := p) (by omega), hk]
  by_cases z : k = 6
  · rw [if_pos (l2_cmp0.mpr (by rw [z]; rfl)), nI_1, if_pos (l2_ix (by omega) (by decide)), nI_clamp (n := p + 1) (by omega), h6 z, lN_i, show (2 : Int32) = nI 2 from rfl, nI_add, nI_add]
    rw [if_pos z] at hq
    rw [← hq]
    exact lp
  · rw [if_neg (show ¬ lg_cmp (lN k) (6 : Int64) = 0 from fun y => z ((lN_eq (b := 6) (by omega) (by decide)).mp (show lN k = lN 6 from l2_cmp0.mp y))), show (2 : Int32) = nI 2 from rfl, nI_add, show (0 : Int32) = nI 0 from rfl, nI_add]
    rw [if_neg z] at hq
    rw [show p + 2 + 0 = q0 by omega]
    exact lp
/-- where a field's VALUE begins, in the reference -/
theorem vw_field {c : Nat → Int64} {f v p : Nat} {I P L X : Nat → Nat} (hk : s.2.1 1006 p = lN 6) (h6 : s.2.1 1006 (p + 1) = lN v) (hv : v ≤ 1000) (P0 : P 0 = 0) (hP : ∀ j, j < v → P j ≤ P (j + 1) ∧ p + 2 + v + P (j + 1) ≤ 626600 ∧ VW c (s.2.1 1006) f (I j) (p + 2 + v + P j) (L j) (P (j + 1) - P j)) (hf : f ≤ 800) (hp : p + 2 + v < 626600) (hX : ∀ j, j < v → s.2.1 1006 (p + 2 + j) = lN (X j) ∧ X j < 7934) {x : Nat} (hx : x < 7934) : f_X13_fieldOf (nI p) (lN x) s = some (if ff X x v 0 < v then nI (p + 2 + v + P (ff X x v 0)) else -1) := by
  obtain ⟨q1, q2, q3, q4⟩ := ff_at (X := X) (x := x) v 0
  unfold f_X13_fieldOf
  have ix1 : t_ix (nI p + 1) 626600 = true := by rw [nI_1]; exact l2_ix (by omega) (by decide)
  refine l2_srch (b := b_X13_fieldOf_3 s) (Y := fun i => (nI p, lN x, nI i)) (j := ff X x v 0) (by omega) (fun i hi => ?_) ?_
  · show k_X13_fieldOf_3 (nI p) (lN x) (nI i) s = _
    unfold k_X13_fieldOf_3
    have iv : i < v := by omega
    rw [if_pos ix1, nI_1, nI_clamp (n := p + 1) (by omega), h6, lN_i, if_neg (nI_ge iv (by omega)), show (2 : Int32) = nI 2 from rfl, nI_add, nI_add, if_pos (l2_ix (by omega) (by decide)), nI_clamp (n := p + 2 + i) (by omega), (hX i iv).1, if_neg (fun e => q3 i (Nat.zero_le _) hi (by have := (hX i iv).2; exact (lN_eq (by omega) (by omega)).mp (l2_cmp0.mp e))), nI_1]
  · show k_X13_fieldOf_3 (nI p) (lN x) (nI (ff X x v 0)) s = _
    generalize ff X x v 0 = i at *
    unfold k_X13_fieldOf_3
    rw [if_pos ix1, nI_1, nI_clamp (n := p + 1) (by omega), h6, lN_i]
    by_cases iv : i < v
    · rw [if_neg (nI_ge iv (by omega)), show (2 : Int32) = nI 2 from rfl, nI_add, nI_add, if_pos (l2_ix (by omega) (by decide)), nI_clamp (n := p + 2 + i) (by omega), (hX i iv).1, q4 (by omega), if_pos (l2_cmp0.mpr rfl), if_pos iv, vw_part (k := 6) (q0 := p + 2 + v) hk (by decide) (by rw [if_pos rfl]) (fun _ => h6) hv P0 hP hf (by omega) (by omega)]
      rfl
    · rw [if_pos (nI_le (by omega) (by omega)), if_neg iv]
      rfl
end
