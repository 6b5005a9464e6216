/-! Level 2: exps worked out: the class puts a record's fields in order. -/
theorem t_340 : t_oka 340 2 (t_ln 340) = true ∧ t_ln 340 = 240 := by decide +kernel
theorem t_341 : t_oka 341 2 (t_ln 341) = true ∧ t_ln 341 = 240 := by decide +kernel
/-- fields, one behind the other, behind a head in array 340 -/
def RF (c : Nat → Int64) (w : Nat) (Z L : Nat → Nat) : Prop := ∀ l, l < w → vl_c (Z l + 66) 1 9 (c (1 + sm (fun q => 1 + L q) l)) ∧ ∃ t k, vl_c t (L l) k (c (1 + sm (fun q => 1 + L q) l + 1))
def lstF (Z T : Nat → Nat) (k : Nat) : Int32 := if k = 0 then -1 else nI (66 + Z (T (k - 1)))
def quF (Z T : Nat → Nat) (k l : Nat) : Prop := k = 0 ∨ Z (T (k - 1)) < Z l
section
variable {s : t_S} {w k : Nat} {Z L T : Nat → Nat}
theorem fd_wd {c : t_S} {x : Int64} {t nn kk : Nat} (ht : t < 2 ^ 31) (hc : vl_c t nn kk x) : (x >>> ((12 : Int32).toInt64 &&& 63)).toInt32 = nI t := by
  have td : (x >>> ((12 : Int32).toInt64 &&& 63)) = lN t := Int64.toInt_inj.mp (by rw [pk_lT (by omega)]; exact vl_told hc (s := c))
  rw [td, lN_w]
theorem so_34 (hT : SE Z w T) (hw : w ≤ 16) (hk : k < w) (hZ : ∀ l, l < w → Z l < 7934) (hF : RF (s.2.1 340) w Z L) (hI : 1 + sm (fun q => 1 + L q) w ≤ 120) (hO : sm (fun i => 1 + L (T i)) w ≤ 119) : t_hk (t_loop (b_X8_sortFields_34) t_N (340, 0, 341, nI w, nI (sm (fun i => 1 + L (T i)) k), lstF Z T k, nI k, (-1), (0 : Int32) + (1 : Int32), 0, s)) (fun z => ∃ s', z = .inl (340, 0, 341, nI w, nI (sm (fun i => 1 + L (T i)) (k + 1)), lstF Z T (k + 1), nI (k + 1), s') ∧ (∀ d, d < 1 + L (T k) → s'.2.1 341 (sm (fun i => 1 + L (T i)) k + d) = s.2.1 340 (1 + sm (fun q => 1 + L q) (T k) + d)) ∧ l2_fr (fun b j => b = 341 ∧ sm (fun i => 1 + L (T i)) k ≤ j) s s') := by
  obtain ⟨Ta, Tb, Td⟩ := id hT
  obtain ⟨I, hIe⟩ : ∃ I : Nat → Nat, I = fun l => sm (fun q => 1 + L q) l := ⟨_, rfl⟩
  obtain ⟨O, hOe⟩ : ∃ O : Nat → Nat, O = fun l => sm (fun i => 1 + L (T i)) l := ⟨_, rfl⟩
  have Is : ∀ l, I (l + 1) = I l + (1 + L l) := fun l => by rw [hIe]; rfl
  have Os : ∀ l, O (l + 1) = O l + (1 + L (T l)) := fun l => by rw [hOe]; rfl
  have Ile : ∀ l, l ≤ w → I l ≤ I w := fun l hl => by
    have := sm_mono (f := fun q => 1 + L q) (w - l) l
    rw [show l + (w - l) = w by omega] at this
    rw [hIe]; exact this
  have Ole : O (k + 1) ≤ O w := by
    have := sm_mono (f := fun i => 1 + L (T i)) (w - (k + 1)) (k + 1)
    rw [show k + 1 + (w - (k + 1)) = w by omega] at this
    rw [hOe]; exact this
  have I00 : I 0 = 0 := by rw [hIe]; rfl
  have hF' : ∀ l, l < w → vl_c (Z l + 66) 1 9 (s.2.1 340 (1 + I l)) ∧ ∃ t k, vl_c t (L l) k (s.2.1 340 (1 + I l + 1)) := by rw [hIe]; exact hF
  have hI' : 1 + I w ≤ 120 := by rw [hIe]; exact hI
  have hO' : O w ≤ 119 := by rw [hOe]; exact hO
  show t_hk (t_loop (b_X8_sortFields_34) t_N (340, 0, 341, nI w, nI (sm (fun i => 1 + L (T i)) k), lstF Z T k, nI k, (-1), (0 : Int32) + (1 : Int32), 0, s)) _
  rw [show sm (fun i => 1 + L (T i)) k = O k by rw [hOe], show sm (fun i => 1 + L (T i)) (k + 1) = O (k + 1) by rw [hOe], show sm (fun q => 1 + L q) (T k) = I (T k) by rw [hIe]]
  clear hIe hOe hF hI hO
  obtain ⟨o1, o2⟩ := t_340
  obtain ⟨o3, o4⟩ := t_341
  have wd : ∀ l, l < w → ((s.2.1 340 (1 + I l)) >>> ((12 : Int32).toInt64 &&& 63)).toInt32 = nI (Z l + 66) := fun l hl => fd_wd (c := s) (by have := hZ l hl; omega) (hF' l hl).1
  have qd : ∀ l, l < w → (nI (Z l + 66) ≤ lstF Z T k ↔ ¬ quF Z T k l) := fun l hl => by
    have z1 := hZ l hl
    unfold lstF quF
    by_cases c : k = 0
    · rw [if_pos c]
      exact ⟨fun y => absurd y (by
        have : ¬ nI (Z l + 66) ≤ (-1 : Int32) := by
          rw [Int32.le_iff_toInt_le, nI_toInt (by omega)]
          show ¬ _ ≤ (-1 : Int)
          omega
        exact this), fun y => absurd (Or.inl c) y⟩
    · have z2 := hZ (T (k - 1)) (Ta (k - 1) (by omega))
      rw [if_neg c]
      constructor
      · intro y z
        have q : Z (T (k - 1)) < Z l := z.resolve_left c
        exact nI_ge (a := 66 + Z (T (k - 1))) (b := Z l + 66) (by omega) (by omega) y
      · intro y
        have q : ¬ Z (T (k - 1)) < Z l := fun z => y (Or.inr z)
        exact nI_le (by omega) (by omega)
  have start : (0 : Int32) + (1 : Int32) = nI (1 + I 0) := by rw [I00]; rfl
  rw [start]
  refine l2_lp (fun m z => ∃ l B, l + m = w ∧ z = (340, 0, 341, nI w, nI (O k), lstF Z T k, nI k, B, nI (1 + I l), nI l, s) ∧ ((B = -1 ∧ ∀ q, q < l → ¬ quF Z T k q) ∨ ∃ b, b < l ∧ B = nI (1 + I b) ∧ quF Z T k b ∧ ∀ q, q < l → quF Z T k q → Z b ≤ Z q)) ?_ (m := w) (Nat.lt_trans (show w < 1000000000 by omega) l2_N) ⟨0, -1, by omega, rfl, Or.inl ⟨rfl, fun q hq => by omega⟩⟩
  rintro m z ⟨l, B, hl, rfl, g⟩
  show t_hk (k_X8_sortFields_34 340 0 341 (nI w) (nI (O k)) (lstF Z T k) (nI k) B (nI (1 + I l)) (nI l) s) _
  unfold k_X8_sortFields_34
  by_cases d : l = w
  · subst d
    refine l2_ck (nI_le (Nat.le_refl _) (by omega)) (l2_mp ?_)
    -- the best is T k
    have qT : quF Z T k (T k) := by
      by_cases c : k = 0
      · exact Or.inl c
      · exact Or.inr (Tb (k - 1) k (by omega) hk)
    obtain ⟨b, b1, rfl, b3, b4⟩ : ∃ b, b < l ∧ B = nI (1 + I b) ∧ quF Z T k b ∧ ∀ q, q < l → quF Z T k q → Z b ≤ Z q := by
      rcases g with ⟨_, no⟩ | g
      · exact absurd qT (no _ (Ta k hk))
      · exact g
    have eb : b = T k := by
      obtain ⟨i, hi, e⟩ := Td b b1
      subst e
      have le := b4 _ (Ta k hk) qT
      by_cases c1 : k < i
      · have := Tb k i c1 hi; omega
      · by_cases c2 : i < k
        · rcases b3 with c | c
          · omega
          · by_cases c3 : i = k - 1
            · rw [c3] at c; omega
            · have := Tb i (k - 1) (by omega) (by omega); omega
        · rw [show i = k by omega]
    subst eb
    obtain ⟨t, kk, hc⟩ := (hF' (T k) b1).2
    have le1 := Ile (T k + 1) (by omega)
    have s1 := Is (T k)
    have s2 := Os k
    refine l2_ck (nI_pos' (by omega)) (l2_ck o1 ?_)
    rw [nI_1]
    refine l2_ck (l2_ix (by rw [o2]; omega) (by rw [o2]; decide)) (l2_ck o3 ?_)
    rw [nI_clamp (n := 1 + I (T k) + 1) (by omega), vl_sz hc, show (1 : Int32) = nI 1 from rfl, nI_add, nI_add]
    refine l2_ck (show nI (O k + (1 + L (T k))) ≤ Int32.ofNat (t_ln 341) from by rw [o4]; exact nI_le (b := 240) (by omega) (by decide)) (l2_ck (cp_ok (by omega) (by omega) (by omega) (by rw [o2]; omega) (by rw [o4]; omega)) (l2_lt ?_))
    obtain ⟨p1, p2, p3⟩ := cp_at (s := s) (a := 340) (b := 341) (x := 1 + I (T k)) (y := O k) (m := 1 + L (T k)) (by omega) (by omega) (by omega)
    generalize t_cpJ s 340 341 (nI (1 + I (T k))) (nI (O k)) (nI (1 + L (T k))) = s' at *
    refine l2_ck (l2_ix (by rw [o2]; omega) (by rw [o2]; decide)) ?_
    rw [nI_clamp (n := 1 + I (T k)) (by omega), (p3 340 _ (by omega)).2.1, wd _ b1, nI_add, ← s2]
    refine l2_sm ⟨s', ?_, p2, p3.mono (fun b j y => by omega)⟩
    show Sum.inl _ = Sum.inl _
    have e5 : lstF Z T (k + 1) = nI (Z (T k) + 66) := by
      unfold lstF
      rw [if_neg (by omega), Nat.add_sub_cancel, Nat.add_comm]
    rw [e5]
  · have lw : l < w := by omega
    have le1 := Ile (l + 1) (by omega)
    have s1 := Is l
    obtain ⟨t, kk, hc⟩ := (hF' l lw).2
    have go : ∀ B', ((B' = -1 ∧ ∀ q, q < l + 1 → ¬ quF Z T k q) ∨ ∃ b, b < l + 1 ∧ B' = nI (1 + I b) ∧ quF Z T k b ∧ ∀ q, q < l + 1 → quF Z T k q → Z b ≤ Z q) → k_X8_sortFields_79 340 0 341 (nI w) (nI (O k)) (lstF Z T k) (nI k) B' (nI (1 + I l)) (nI l) s = some (.inl (340, 0, 341, nI w, nI (O k), lstF Z T k, nI k, B', nI (1 + I (l + 1)), nI (l + 1), s)) := fun B' _ => by
      unfold k_X8_sortFields_79
      rw [if_pos o1, nI_1, if_pos (l2_ix (by rw [o2]; omega) (by rw [o2]; decide)), nI_clamp (n := 1 + I l + 1) (by omega), vl_sz hc, show (1 : Int32) = nI 1 from rfl, nI_add, nI_add, nI_add, show 1 + I l + (1 + L l) = 1 + I (l + 1) by omega]
    refine l2_no (nI_ge lw (by omega)) (l2_ck o1 (l2_ck (l2_ix (by rw [o2]; omega) (by rw [o2]; decide)) ?_))
    rw [nI_clamp (n := 1 + I l) (by omega), wd l lw]
    by_cases qc : quF Z T k l
    · refine l2_no (fun y => (qd l lw).mp y qc) ?_
      unfold k_X8_sortFields_75
      rcases g with ⟨rfl, no⟩ | ⟨b, b1, rfl, b3, b4⟩
      · refine l2_ck (show (-1 : Int32) < 0 by decide) ?_
        have G : ((nI (1 + I l) = -1 ∧ ∀ q, q < l + 1 → ¬ quF Z T k q) ∨ ∃ b, b < l + 1 ∧ nI (1 + I l) = nI (1 + I b) ∧ quF Z T k b ∧ ∀ q, q < l + 1 → quF Z T k q → Z b ≤ Z q) := Or.inr ⟨l, by omega, rfl, qc, fun q hq qq => by
          by_cases e : q = l
          · rw [e]; exact Nat.le_refl _
          · exact absurd qq (no q (by omega))⟩
        exact l2_isb (go _ G) (l2_sm ⟨m - 1, by omega, l + 1, _, by omega, rfl, G⟩)
      · have leb := Ile b (by omega)
        refine l2_no (nI_pos (by omega)) (l2_ck (l2_ix (by rw [o2]; omega) (by rw [o2]; decide)) ?_)
        rw [nI_clamp (n := 1 + I b) (by omega), wd b (by omega)]
        have z1 := hZ l lw
        have z2 := hZ b (by omega)
        by_cases c : Z b ≤ Z l
        · refine l2_ck (nI_le (by omega) (by omega)) ?_
          have G : ((nI (1 + I b) = -1 ∧ ∀ q, q < l + 1 → ¬ quF Z T k q) ∨ ∃ b', b' < l + 1 ∧ nI (1 + I b) = nI (1 + I b') ∧ quF Z T k b' ∧ ∀ q, q < l + 1 → quF Z T k q → Z b' ≤ Z q) := Or.inr ⟨b, by omega, rfl, b3, fun q hq qq => by
            by_cases e : q = l
            · rw [e]; exact c
            · exact b4 q (by omega) qq⟩
          exact l2_isb (go _ G) (l2_sm ⟨m - 1, by omega, l + 1, _, by omega, rfl, G⟩)
        · refine l2_no (nI_ge (by omega) (by omega)) ?_
          have G : ((nI (1 + I l) = -1 ∧ ∀ q, q < l + 1 → ¬ quF Z T k q) ∨ ∃ b', b' < l + 1 ∧ nI (1 + I l) = nI (1 + I b') ∧ quF Z T k b' ∧ ∀ q, q < l + 1 → quF Z T k q → Z b' ≤ Z q) := Or.inr ⟨l, by omega, rfl, qc, fun q hq qq => by
            by_cases e : q = l
            · rw [e]; exact Nat.le_refl _
            · have := b4 q (by omega) qq; omega⟩
          exact l2_isb (go _ G) (l2_sm ⟨m - 1, by omega, l + 1, _, by omega, rfl, G⟩)
    · refine l2_ck ((qd l lw).mpr qc) ?_
      have G : ((B = -1 ∧ ∀ q, q < l + 1 → ¬ quF Z T k q) ∨ ∃ b, b < l + 1 ∧ B = nI (1 + I b) ∧ quF Z T k b ∧ ∀ q, q < l + 1 → quF Z T k q → Z b ≤ Z q) := by
        rcases g with ⟨e, no⟩ | ⟨b, b1, e, b3, b4⟩
        · exact Or.inl ⟨e, fun q hq => by
            by_cases c : q = l
            · rw [c]; exact qc
            · exact no q (by omega)⟩
        · exact Or.inr ⟨b, by omega, e, b3, fun q hq qq => by
            by_cases c : q = l
            · rw [c] at qq; exact absurd qq qc
            · exact b4 q (by omega) qq⟩
      exact l2_isb (go _ G) (l2_sm ⟨m - 1, by omega, l + 1, _, by omega, rfl, G⟩)
end
