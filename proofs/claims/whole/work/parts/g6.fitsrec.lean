/-! Level 2: FITS: records. -/
/-- which of the type's fields are needed and not among the first i of the VALUE's -/
noncomputable def fn_S (O X Y : Nat → Nat) (i j : Nat) : Nat := @ite Nat (O j = 0 ∧ ∀ q, q < i → Y q ≠ X j) (Classical.propDecidable _) 1 0
theorem fn_le {O X Y : Nat → Nat} {i j : Nat} : fn_S O X Y i j ≤ 1 := by
  unfold fn_S
  split <;> omega
theorem fn_step {O X Y : Nat → Nat} {i e v : Nat} (hX : ∀ i j, i < j → j < v → X i ≠ X j) (he : e < v) (hY : Y i = X e) (hn : ∀ q, q < i → Y q ≠ Y i) : sy_cn (fn_S O X Y i) v = sy_cn (fn_S O X Y (i + 1)) v + (if O e = 0 then 1 else 0) := by
  have ne : ∀ j, j < v → j ≠ e → X j ≠ X e := fun j hj h => by
    by_cases c : j < e
    · exact hX j e c he
    · exact fun q => hX e j (by omega) hj q.symm
  have off : ∀ j, j < v → j ≠ e → fn_S O X Y i j = fn_S O X Y (i + 1) j := fun j hj h => by
    unfold fn_S
    have iff : (O j = 0 ∧ ∀ q, q < i → Y q ≠ X j) ↔ (O j = 0 ∧ ∀ q, q < i + 1 → Y q ≠ X j) := by
      constructor
      · rintro ⟨a, b⟩
        refine ⟨a, fun q hq => ?_⟩
        by_cases c : q = i
        · rw [c, hY]
          exact fun z => ne j hj h z.symm
        · exact b q (by omega)
      · rintro ⟨a, b⟩
        exact ⟨a, fun q hq => b q (by omega)⟩
    by_cases c : O j = 0 ∧ ∀ q, q < i → Y q ≠ X j
    · rw [if_pos c, if_pos (iff.mp c)]
    · rw [if_neg c, if_neg (fun z => c (iff.mpr z))]
  have at1 : fn_S O X Y (i + 1) e = 0 := by
    unfold fn_S
    rw [if_neg (fun z => z.2 i (by omega) hY)]
  have at0 : fn_S O X Y i e = if O e = 0 then 1 else 0 := by
    unfold fn_S
    by_cases c : O e = 0
    · rw [if_pos c, if_pos ⟨c, fun q hq => by rw [← hY]; exact hn q hq⟩]
    · rw [if_neg c, if_neg (fun z => c z.1)]
  have go : ∀ n, n ≤ v → sy_cn (fn_S O X Y i) n = sy_cn (fn_S O X Y (i + 1)) n + (if e < n then (if O e = 0 then 1 else 0) else 0) := by
    intro n
    induction n with
    | zero => intro _; rw [if_neg (by omega)]; rfl
    | succ n ih =>
      intro hn'
      show sy_cn (fn_S O X Y i) n + fn_S O X Y i n = sy_cn (fn_S O X Y (i + 1)) n + fn_S O X Y (i + 1) n + _
      rw [ih (by omega)]
      by_cases c : n = e
      · subst c
        rw [at0, at1, if_neg (show ¬ n < n by omega), if_pos (show n < n + 1 by omega)]
      · rw [off n (by omega) c]
        by_cases d : e < n
        · rw [if_pos d, if_pos (show e < n + 1 by omega)]; omega
        · rw [if_neg d, if_neg (show ¬ e < n + 1 by omega)]; omega
  have := go v (Nat.le_refl _)
  rw [if_pos he] at this
  exact this
theorem sy_cn_z {S : Nat → Nat} : ∀ v, sy_cn S v = 0 ↔ ∀ j, j < v → S j = 0 := by
  intro v
  induction v with
  | zero => exact ⟨fun _ j hj => by omega, fun _ => rfl⟩
  | succ v ih =>
    show sy_cn S v + S v = 0 ↔ _
    constructor
    · intro h j hj
      by_cases c : j = v
      · rw [c]; omega
      · exact ih.mp (by omega) j (by omega)
    · intro h
      have := ih.mpr (fun j hj => h j (by omega))
      have := h v (by omega)
      omega
section
variable {T a m : Nat} {R : Nat → Nat → Prop} {s s1 : t_S} {l i0 : Nat}
/-- a record's VALUES are wanted by their fields' types; what is needed is counted down -/
theorem hr_go {i nd vt v : Nat} {F X O Y A : Nat → Nat} {nn : Nat → Nat} (hok : t_oka l 2 (t_ln l) = true) (hl : l ≠ 333) (hL : t_ln l < 1000000000) (hn : nd < 3000) (h21 : s1.1 321 nd = nI vt) (hvt : vt ≤ 16) (hc : cc_R s1 nd vt F) (hF : ∀ j, j < vt → s1.1 320 (F j) = nI (66 + X j) ∧ X j < 7934 ∧ O j ≤ 1 ∧ s1.1 321 (F j) = nI (O j) ∧ s1.1 318 (F j) = nI (nn j)) (hX : ∀ i j, i < j → j < vt → X i ≠ X j) (hv : v ≤ 120) (hY : ∀ i j, i < j → j < v → Y i ≠ Y j) (hcell : s1.2.1 l (i0 + i) = s.2.1 l (i0 + i)) (hparts : (s.2.1 l (i0 + i) >>> ((12 : Int32).toInt64 &&& 63)).toInt32 = nI v) (hi : i0 + i < t_ln l) (hi2 : i < 120) (hA : A 0 = i + 1) (hV : ∀ j, j < v → A j + 1 < A (j + 1) ∧ A (j + 1) ≤ 120 ∧ i0 + A (j + 1) ≤ t_ln l ∧ Y j < 7934 ∧ vl_c ((Y j + 66 : Nat) : Int) 1 9 (s1.2.1 l (i0 + A j)) ∧ ∃ t k, vl_c t (A (j + 1) - A j - 1) k (s1.2.1 l (i0 + A j + 1))) : f_X11_holdsRecord l (nI i0) (nI i) (nI nd) s1 = some (if ∃ j, j < v ∧ vt ≤ ff X (Y j) vt 0 then (0, ftS s1 (fun j => A j + 1) (fun j => nI (nn (ff X (Y j) vt 0))) (fz (fun j => if vt ≤ ff X (Y j) vt 0 then 0 else 1) v)) else (if sy_cn (fn_S O X Y v) vt = 0 then 1 else 0, ftS s1 (fun j => A j + 1) (fun j => nI (nn (ff X (Y j) vt 0))) v)) := by
  have ixn : t_ix (nI nd) 3001 = true := l2_ix (by omega) (by decide)
  have mono : ∀ j, j ≤ v → i + 1 + j ≤ A j := by
    intro j
    induction j with
    | zero => intro _; omega
    | succ j ih => intro hj; have := ih (by omega); have := (hV j (by omega)).1; omega
  -- the second walk
  obtain ⟨z1, z2, z3⟩ := fz_at (W := fun j => if vt ≤ ff X (Y j) vt 0 then (0 : Int32) else 1) (v := v)
  generalize ez : fz (fun j => if vt ≤ ff X (Y j) vt 0 then (0 : Int32) else 1) v = z at *
  have P : ∀ j, j < z → ff X (Y j) vt 0 < vt := fun j hj => by
    have q := z2 j hj
    refine Nat.lt_of_not_le (fun y => q ?_)
    show (if vt ≤ ff X (Y j) vt 0 then (0 : Int32) else 1) = 0
    rw [if_pos y]
  have second : t_loop (b_X11_holdsRecord_78) t_N (l, nI i0, nI nd, nI v, nI (sy_cn (fn_S O X Y 0) vt), nI (A 0), 0, s1) = some (if z < v then (0, ftS s1 (fun j => A j + 1) (fun j => nI (nn (ff X (Y j) vt 0))) z) else (if sy_cn (fn_S O X Y v) vt = 0 then 1 else 0, ftS s1 (fun j => A j + 1) (fun j => nI (nn (ff X (Y j) vt 0))) v)) := by
    refine l2_srch (b := b_X11_holdsRecord_78) (Y := fun j => (l, nI i0, nI nd, nI v, nI (sy_cn (fn_S O X Y j) vt), nI (A j), nI j, ftS s1 (fun j => A j + 1) (fun j => nI (nn (ff X (Y j) vt 0))) j)) (j := z) (by omega) (fun j hj => ?_) ?_
    · have jv : j < v := by omega
      obtain ⟨a1, a2, a3, a4, a5, t, k, a6⟩ := hV j jv
      have pj := P j hj
      have F2 := ftS.fr (s1 := s1) (A := fun j => A j + 1) (x := fun j => nI (nn (ff X (Y j) vt 0))) j
      have hs := (hs_st F2).2.2.2
      obtain ⟨f1, f2, f3, f4, f5⟩ := hF _ pj
      have cF := (hc.2 _ pj).1
      have w5 : f_X8_wordOf (s1.2.1 l (i0 + A j)) (ftS s1 (fun j => A j + 1) (fun j => nI (nn (ff X (Y j) vt 0))) j) = nI (66 + Y j) := by
        unfold f_X8_wordOf
        rw [vl_i32 a5 (by omega), Nat.add_comm]
      have fo := mt_fc hn hvt h21 hc (fun j hj => ⟨(hF j hj).1, (hF j hj).2.1⟩) a4
      show k_X11_holdsRecord_78 l (nI i0) (nI nd) (nI v) (nI (sy_cn (fn_S O X Y j) vt)) (nI (A j)) (nI j) (ftS s1 (fun j => A j + 1) (fun j => nI (nn (ff X (Y j) vt 0))) j) = _
      unfold k_X11_holdsRecord_78
      rw [if_neg (nI_ge jv (by omega)), if_pos hok, nI_add, if_pos (l2_ix (by omega) (by omega)), nI_clamp (n := i0 + A j) (by omega), (F2 l _ hl).2.1, w5, hs, fo, if_pos pj, l2_bs, if_pos (nI_pos' (by omega)), if_pos (l2_ix cF (by decide)), nI_clamp (n := F (ff X (Y j) vt 0)) (by omega), (F2 321 _ (show ¬ (321 : Nat) = 333 by decide)).1, f4]
      have step := fn_step (O := O) (X := X) (Y := Y) (i := j) (e := ff X (Y j) vt 0) (v := vt) hX pj ((ff_at (X := X) (x := Y j) vt 0).2.2.2 (by omega)).symm (fun q hq => hY q j hq jv)
      have fin : ∀ c : Nat, c = sy_cn (fn_S O X Y (j + 1)) vt → k_X11_holdsRecord_122 l (nI i0) (nI nd) (nI v) (nI c) (nI (A j)) (nI j) (nI (F (ff X (Y j) vt 0))) (ftS s1 (fun j => A j + 1) (fun j => nI (nn (ff X (Y j) vt 0))) j) = some (.inl (l, nI i0, nI nd, nI v, nI (sy_cn (fn_S O X Y (j + 1)) vt), nI (A (j + 1)), nI (j + 1), ftS s1 (fun j => A j + 1) (fun j => nI (nn (ff X (Y j) vt 0))) (j + 1))) := fun c hc => by
        unfold k_X11_holdsRecord_122
        rw [if_pos (l2_ix cF (by decide)), nI_1, if_pos (l2_ix (by omega) (by decide)), nI_clamp (n := F (ff X (Y j) vt 0)) (by omega), nI_clamp (n := A j + 1) (by omega), (F2 318 _ (show ¬ (318 : Nat) = 333 by decide)).1, f5]
        show (if t_oka l 2 (t_ln l) = true then if t_ix (nI i0 + nI (A j) + 1) (t_ln l) = true then some (Sum.inl (l, nI i0, nI nd, nI v, nI c, nI (A j) + (1 + f_X8_size ((ftS s1 (fun j => A j + 1) (fun j => nI (nn (ff X (Y j) vt 0))) (j + 1)).2.1 l (nI i0 + nI (A j) + 1).toNatClampNeg) _), nI j + 1, ftS s1 (fun j => A j + 1) (fun j => nI (nn (ff X (Y j) vt 0))) (j + 1))) else none else none) = _
        have F3 := ftS.fr (s1 := s1) (A := fun j => A j + 1) (x := fun j => nI (nn (ff X (Y j) vt 0))) (j + 1)
        rw [if_pos hok, nI_add, nI_1, if_pos (l2_ix (by omega) (by omega)), nI_clamp (n := i0 + A j + 1) (by omega), (F3 l _ hl).2.1, vl_size a6, nI_1, hc, show (1 : Int32) = nI 1 from rfl, nI_add, nI_add, show A j + (1 + (A (j + 1) - A j - 1)) = A (j + 1) by omega]
      have o1 : O (ff X (Y j) vt 0) = 0 ∨ O (ff X (Y j) vt 0) = 1 := by omega
      rcases o1 with o | o
      · rw [o, if_pos (show nI 0 = 0 from rfl)]
        rw [o, if_pos rfl] at step
        rw [sy_m1, sy_m1n (by omega)]
        exact fin _ (by omega)
      · rw [o, if_neg (show ¬ nI 1 = 0 by decide)]
        rw [o, if_neg (by decide)] at step
        exact fin _ (by omega)
    · have F2 := ftS.fr (s1 := s1) (A := fun j => A j + 1) (x := fun j => nI (nn (ff X (Y j) vt 0))) z
      show k_X11_holdsRecord_78 l (nI i0) (nI nd) (nI v) (nI (sy_cn (fn_S O X Y z) vt)) (nI (A z)) (nI z) (ftS s1 (fun j => A j + 1) (fun j => nI (nn (ff X (Y j) vt 0))) z) = _
      unfold k_X11_holdsRecord_78
      by_cases zv : z < v
      · obtain ⟨a1, a2, a3, a4, a5, t, k, a6⟩ := hV z zv
        have no : ¬ ff X (Y z) vt 0 < vt := fun q => by
          have y := z3 zv
          have y : (if vt ≤ ff X (Y z) vt 0 then (0 : Int32) else 1) = 0 := y
          rw [if_neg (by omega)] at y
          exact absurd y (by decide)
        have hs := (hs_st F2).2.2.2
        have w5 : f_X8_wordOf (s1.2.1 l (i0 + A z)) (ftS s1 (fun j => A j + 1) (fun j => nI (nn (ff X (Y j) vt 0))) z) = nI (66 + Y z) := by
          unfold f_X8_wordOf
          rw [vl_i32 a5 (by omega), Nat.add_comm]
        have fo := mt_fc hn hvt h21 hc (fun j hj => ⟨(hF j hj).1, (hF j hj).2.1⟩) a4
        rw [if_neg (nI_ge zv (by omega)), if_pos hok, nI_add, if_pos (l2_ix (by have := mono z (by omega); omega) (by omega)), nI_clamp (n := i0 + A z) (by omega), (F2 l _ hl).2.1, w5, hs, fo, if_neg no, l2_bs, if_neg (show ¬ (0 : Int32) ≤ -1 by decide), if_pos zv]
        rfl
      · have e : z = v := by omega
        subst e
        rw [if_pos (nI_le (Nat.le_refl _) (by omega)), if_neg zv]
        have b := sy_cn_le (S := fn_S O X Y z) vt (fun _ _ => fn_le)
        by_cases c : sy_cn (fn_S O X Y z) vt = 0
        · rw [if_pos c, if_pos ((l2_z (by omega)).mpr c)]; rfl
        · rw [if_neg c, if_neg (fun q => c ((l2_z (by omega)).mp q))]; rfl
  have ex : (∃ j, j < v ∧ vt ≤ ff X (Y j) vt 0) ↔ z < v := by
    constructor
    · rintro ⟨j, j1, j2⟩
      refine Nat.lt_of_not_le (fun q => ?_)
      have := P j (by omega)
      omega
    · intro q
      have y := z3 q
      refine ⟨z, q, Nat.le_of_not_lt (fun w => ?_)⟩
      have y : (if vt ≤ ff X (Y z) vt 0 then (0 : Int32) else 1) = 0 := y
      rw [if_neg (by omega)] at y
      exact absurd y (by decide)
  unfold f_X11_holdsRecord
  rw [if_pos hok, nI_add, if_pos (l2_ix hi (by omega)), if_pos ixn, nI_clamp (n := i0 + i) (by omega), nI_clamp (n := nd) (by omega), hcell, hc.1]
  show t_loop (b_X11_holdsRecord_25) t_N (l, nI i0, nI i, nI nd, f_X8_partsOf (s.2.1 l (i0 + i)) s1, 0, (if 0 < vt then nI (F 0) else -1), 0, s1) = _
  have pe : f_X8_partsOf (s.2.1 l (i0 + i)) s1 = nI v := hparts
  rw [pe]
  -- the first walk
  have cnt : ∀ j, fn_S O X Y 0 j = @ite Nat (O j = 0) (Classical.propDecidable _) 1 0 := fun j => by
    unfold fn_S
    by_cases c : O j = 0
    · rw [if_pos c, if_pos ⟨c, fun q hq => by omega⟩]
    · rw [if_neg c, if_neg (fun y => c y.1)]
  have := l2_srch (b := b_X11_holdsRecord_25) (Y := fun j => (l, nI i0, nI i, nI nd, nI v, nI (sy_cn (fn_S O X Y 0) j), (if j < vt then nI (F j) else -1), nI j, s1)) (j := vt) (r := if ∃ j, j < v ∧ vt ≤ ff X (Y j) vt 0 then (0, ftS s1 (fun j => A j + 1) (fun j => nI (nn (ff X (Y j) vt 0))) z) else (if sy_cn (fn_S O X Y v) vt = 0 then 1 else 0, ftS s1 (fun j => A j + 1) (fun j => nI (nn (ff X (Y j) vt 0))) v)) (by omega) (fun j hj => ?_) ?_
  · exact this
  · obtain ⟨c1, c2, c3, c4⟩ := hc.2 j hj
    obtain ⟨f1, f2, f3, f4, f5⟩ := hF j hj
    show k_X11_holdsRecord_25 l (nI i0) (nI i) (nI nd) (nI v) (nI (sy_cn (fn_S O X Y 0) j)) (if j < vt then nI (F j) else -1) (nI j) s1 = _
    unfold k_X11_holdsRecord_25 k_X11_holdsRecord_55
    have ixF : t_ix (nI (F j)) 3001 = true := l2_ix c1 (by decide)
    rw [if_pos ixn, nI_clamp (n := nd) (by omega), h21, if_neg (nI_ge hj (by omega)), if_pos hj, if_neg (nI_pos (by omega)), if_pos ixF, nI_clamp (n := F j) (by omega), f4, if_pos ixF, if_pos ixF, c3, nI_1, nI_1]
    show _ = some (Sum.inl (l, nI i0, nI i, nI nd, nI v, nI (sy_cn (fn_S O X Y 0) j + fn_S O X Y 0 j), (if j + 1 < vt then nI (F (j + 1)) else -1), nI (j + 1), s1))
    rw [cnt j]
    have o1 : O j = 0 ∨ O j = 1 := by omega
    rcases o1 with o | o
    · rw [o, if_pos (show nI 0 = 0 from rfl), if_pos rfl]
    · rw [o, if_neg (show ¬ nI 1 = 0 by decide), if_neg (show ¬ (1 : Nat) = 0 by decide)]
      rfl
  · show k_X11_holdsRecord_25 l (nI i0) (nI i) (nI nd) (nI v) (nI (sy_cn (fn_S O X Y 0) vt)) (if vt < vt then nI (F vt) else -1) (nI vt) s1 = _
    unfold k_X11_holdsRecord_25 k_X11_holdsRecord_70
    rw [if_pos ixn, nI_clamp (n := nd) (by omega), h21, if_pos (nI_le (Nat.le_refl _) (by omega)), nI_1, ← hA, second]
    by_cases c : z < v
    · rw [if_pos c, if_pos (ex.mpr c)]; rfl
    · rw [if_neg c, if_neg (fun y => c (ex.mp y))]; rfl
end
