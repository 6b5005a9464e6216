/-! Level 2: late faults; names looked up on both sides. -/
/-- the fault kept, its place: the one at the least place, then the least, of those in S -/
def ls_R (f p : Int32) (S : Nat → Int32 → Prop) : Prop := (f = 0 ∧ ∀ k q, ¬ S k q) ∨ ∃ k : Nat, (0 < k ∧ k < 100) ∧ f = nI k ∧ S k p ∧ ∀ a b, S a b → p.toInt < b.toInt ∨ (p = b ∧ k ≤ a)
section
variable {W : Nat} {nt : Nat → Nat} {f p f' p' q : Int32} {S S' : Nat → Int32 → Prop} {k n X i : Nat} {c r c' r' : t_S} {L : Nat → Nat}
theorem ls_R.iff (h : ls_R f p S) (g : ∀ a b, S a b ↔ S' a b) : ls_R f p S' := by
  rcases h with ⟨h1, h2⟩ | ⟨k, h1, h2, h4, h5⟩
  · exact Or.inl ⟨h1, fun a b y => h2 a b ((g a b).mpr y)⟩
  · exact Or.inr ⟨k, h1, h2, (g k p).mp h4, fun a b y => h5 a b ((g a b).mpr y)⟩
theorem ls_R.same (h : ls_R f p S) (h' : ls_R f' p' S') (g : ∀ a b, S a b ↔ S' a b) : f = f' ∧ (f ≠ 0 → p = p') := by
  rcases h with ⟨h1, h2⟩ | ⟨k, h1, h2, h4, h5⟩
  · rcases h' with ⟨g1, g2⟩ | ⟨k', g1, g2, g4, g5⟩
    · exact ⟨h1.trans g1.symm, fun y => absurd h1 y⟩
    · exact absurd ((g k' p').mpr g4) (h2 k' p')
  · rcases h' with ⟨g1, g2⟩ | ⟨k', g1, g2, g4, g5⟩
    · exact absurd ((g k p).mp h4) (g2 k p)
    · have a1 := h5 k' p' ((g k' p').mpr g4)
      have a2 := g5 k p ((g k p).mp h4)
      have e1 : p = p' := by
        rcases a1 with a1 | ⟨a1, _⟩
        · rcases a2 with a2 | ⟨a2, _⟩
          · omega
          · exact a2.symm
        · exact a1
      subst e1
      have e2 : k = k' := by omega
      rw [h2, g2, e2]
      exact ⟨rfl, fun _ => rfl⟩
/-- one more -/
theorem ls_R.add (h : ls_R f p S) (hk : 0 < k ∧ k < 100) : (f = 0 → ls_R (nI k) q (fun a b => S a b ∨ (a = k ∧ b = q))) ∧ (f ≠ 0 → q < p → ls_R (nI k) q (fun a b => S a b ∨ (a = k ∧ b = q))) ∧ (f ≠ 0 → ¬ q < p → q = p → f ≤ nI k → ls_R f p (fun a b => S a b ∨ (a = k ∧ b = q))) ∧ (f ≠ 0 → ¬ q < p → q = p → ¬ f ≤ nI k → ls_R (nI k) q (fun a b => S a b ∨ (a = k ∧ b = q))) ∧ (f ≠ 0 → ¬ q < p → q ≠ p → ls_R f p (fun a b => S a b ∨ (a = k ∧ b = q))) := by
  rcases h with ⟨h1, h2⟩ | ⟨k0, ⟨h1, h1'⟩, h2, h4, h5⟩
  · exact ⟨fun _ => Or.inr ⟨k, hk, rfl, Or.inr ⟨rfl, rfl⟩, fun a b y => y.elim (fun z => absurd z (h2 a b)) (fun z => Or.inr ⟨z.2.symm, by omega⟩)⟩, fun y => absurd h1 y, fun y => absurd h1 y, fun y => absurd h1 y, fun y => absurd h1 y⟩
  subst h2
  have lt : q < p ↔ q.toInt < p.toInt := Int32.lt_iff_toInt_lt
  have le : nI k0 ≤ nI k ↔ k0 ≤ k := nI_leI (by omega) (by omega)
  have n0 : ¬ nI k0 = 0 := fun y => by
    have := (nI_eq (b := 0) (by omega) (by decide)).mp y
    omega
  have tr : ∀ {b : Int32}, (p.toInt < b.toInt ∨ p = b) → p.toInt ≤ b.toInt := fun y => y.elim (fun z => by omega) (fun z => by rw [z]; exact Int.le_refl _)
  refine ⟨fun y => absurd y n0, fun _ y => ?_, fun _ y1 y2 y3 => ?_, fun _ y1 y2 y3 => ?_, fun _ y1 y2 => ?_⟩
  · have y := lt.mp y
    refine Or.inr ⟨k, hk, rfl, Or.inr ⟨rfl, rfl⟩, fun a b z => z.elim (fun z => ?_) (fun z => Or.inr ⟨z.2.symm, by omega⟩)⟩
    have a1 := tr ((h5 a b z).imp id (fun w => w.1))
    exact Or.inl (by omega)
  · subst y2
    have y3 := le.mp y3
    exact Or.inr ⟨k0, ⟨h1, h1'⟩, rfl, Or.inl h4, fun a b z => z.elim (fun z => h5 a b z) (fun z => Or.inr ⟨z.2.symm, by omega⟩)⟩
  · subst y2
    have y3 : ¬ k0 ≤ k := fun z => y3 (le.mpr z)
    exact Or.inr ⟨k, hk, rfl, Or.inr ⟨rfl, rfl⟩, fun a b z => z.elim (fun z => (h5 a b z).imp id (fun w => ⟨w.1, by omega⟩)) (fun z => Or.inr ⟨z.2.symm, by omega⟩)⟩
  · have y1 : ¬ q.toInt < p.toInt := fun z => y1 (lt.mpr z)
    have y2 : ¬ q.toInt = p.toInt := fun z => y2 (Int32.toInt_inj.mp z)
    exact Or.inr ⟨k0, ⟨h1, h1'⟩, rfl, Or.inl h4, fun a b z => z.elim (fun z => h5 a b z) (fun z => Or.inl (by rw [z.2]; omega))⟩
def lf_W (b j : Nat) : Prop := b = 846 ∧ (j = 7 ∨ j = 8)
def lg_W (b j : Nat) : Prop := b = 950 ∧ (j = 88 ∨ j = 89)
theorem ls_late (h : ls_R (c.1 846 7) (c.1 846 8) S) (hk : 0 < k ∧ k < 100) : t_hk (f_X3_late (nI k) q c) (fun c' => l2_fr lf_W c c' ∧ ls_R (c'.1 846 7) (c'.1 846 8) (fun a b => S a b ∨ (a = k ∧ b = q))) := by
  obtain ⟨a1, a2, a3, a4, a5⟩ := h.add (q := q) hk
  have set : ls_R (nI k) q (fun a b => S a b ∨ (a = k ∧ b = q)) → t_hk (k_X3_late_31 (nI k) q c) (fun c' => l2_fr lf_W c c' ∧ ls_R (c'.1 846 7) (c'.1 846 8) (fun a b => S a b ∨ (a = k ∧ b = q))) := fun g => by
    unfold k_X3_late_31
    refine l2_lt (l2_lt (l2_sm ⟨(l2_fr.set (W := lf_W) ⟨rfl, Or.inl rfl⟩).trans (l2_fr.set ⟨rfl, Or.inr rfl⟩), ?_⟩))
    have e7 : (t_setI (t_setI c 846 7 (nI k)) 846 8 q).1 846 7 = nI k := by simp only [l2_gI, Nat.reduceEqDiff, reduceIte]
    have e8 : (t_setI (t_setI c 846 7 (nI k)) 846 8 q).1 846 8 = q := by simp only [l2_gI, reduceIte]
    rw [e7, e8]
    exact g
  unfold f_X3_late
  refine l2_if (fun z => set (a1 z)) (fun z => l2_if (fun y => set (a2 z y)) (fun y => l2_if (fun w => l2_if (fun v => l2_sm ⟨l2_fr.rf, a3 z y w v⟩) (fun v => set (a4 z y w v))) (fun w => l2_sm ⟨l2_fr.rf, a5 z y w⟩)))
theorem ls_wrong (h : ls_R (r.1 950 88) (r.1 950 89) S) (hk : 0 < k ∧ k < 100) : t_hk (f_X13_wrong (nI k) q r) (fun r' => l2_fr lg_W r r' ∧ ls_R (r'.1 950 88) (r'.1 950 89) (fun a b => S a b ∨ (a = k ∧ b = q))) := by
  obtain ⟨a1, a2, a3, a4, a5⟩ := h.add (q := q) hk
  have set : ls_R (nI k) q (fun a b => S a b ∨ (a = k ∧ b = q)) → t_hk (k_X13_wrong_31 (nI k) q r) (fun r' => l2_fr lg_W r r' ∧ ls_R (r'.1 950 88) (r'.1 950 89) (fun a b => S a b ∨ (a = k ∧ b = q))) := fun g => by
    unfold k_X13_wrong_31
    refine l2_lt (l2_lt (l2_sm ⟨(l2_fr.set (W := lg_W) ⟨rfl, Or.inl rfl⟩).trans (l2_fr.set ⟨rfl, Or.inr rfl⟩), ?_⟩))
    have e7 : (t_setI (t_setI r 950 88 (nI k)) 950 89 q).1 950 88 = nI k := by simp only [l2_gI, Nat.reduceEqDiff, reduceIte]
    have e8 : (t_setI (t_setI r 950 88 (nI k)) 950 89 q).1 950 89 = q := by simp only [l2_gI, reduceIte]
    rw [e7, e8]
    exact g
  unfold f_X13_wrong
  refine l2_if (fun z => set (a1 z)) (fun z => l2_if (fun y => set (a2 z y)) (fun y => l2_if (fun w => l2_if (fun v => l2_sm ⟨l2_fr.rf, a3 z y w v⟩) (fun v => set (a4 z y w v))) (fun w => l2_sm ⟨l2_fr.rf, a5 z y w⟩)))
/-- the reference's row searched -/
theorem fd_ref {b base : Nat} (ha : t_oka b 1 (t_ln b) = true) (hb : base + n ≤ t_ln b) (hl : t_ln b < 2 ^ 31) (h : ∀ i, i < n → L i < 7934 ∧ r.1 b (base + i) = nI (L i)) (hX : X < 7934) (hn : n ≤ 1000) : t_hk (f_X13_find b (nI base) (nI n) (nI X) r) (fun y => (∃ i, i < n ∧ y = nI i ∧ L i = X ∧ ∀ k, k < i → L k ≠ X) ∨ (y = -1 ∧ ∀ i, i < n → L i ≠ X)) := by
  unfold f_X13_find
  refine l2_lp (fun w y => ∃ j, j + w = n ∧ y = (b, nI base, nI n, nI X, nI j) ∧ ∀ k, k < j → L k ≠ X) ?_ (m := n) (Nat.lt_trans (show n < 1000000000 by omega) l2_N) ⟨0, by omega, rfl, fun k hk => by omega⟩
  rintro w y ⟨j, hj, rfl, hn⟩
  show t_hk (k_X13_find_3 b (nI base) (nI n) (nI X) (nI j) r) _
  unfold k_X13_find_3
  by_cases z : n ≤ j
  · refine l2_ck (nI_le z (by omega)) (l2_mp (l2_sm (Or.inr ⟨rfl, fun i hi => hn i (by omega)⟩)))
  · refine l2_no (nI_ge (by omega) (by omega)) (l2_ck ha ?_)
    rw [nI_add]
    refine l2_ck (l2_ix (by omega) hl) ?_
    rw [nI_clamp (by omega), (h j (by omega)).2]
    by_cases q : L j = X
    · refine l2_ck (by rw [q]) (l2_mp (l2_sm (Or.inl ⟨j, by omega, rfl, q, hn⟩)))
    · refine l2_no (fun e => q ?_) (l2_sm ⟨w - 1, by omega, j + 1, by omega, ?_, fun k hk => ?_⟩)
      · have := (nI_eq (by have := (h j (by omega)).1; omega) (by omega)).mp e
        omega
      · rw [nI_1]
      · by_cases e : k = j
        · rw [e]; exact q
        · exact hn k (by omega)
/-- both search one row: the same place -/
theorem fd_both {a b base base' : Nat} {x y : Int32} (ha : t_oka a 1 (t_ln a) = true) (hb : base + n ≤ t_ln a) (hl : t_ln a < 2 ^ 31) (ha' : t_oka b 1 (t_ln b) = true) (hb' : base + n ≤ t_ln b) (hl' : t_ln b < 2 ^ 31) (h : rw_L c r a b base n L) (hX : X < 7934) (hn : n ≤ 8) : ∃ v : Int32, f_X5_find a (nI base) (nI n) (nI (66 + X)) c = some v ∧ f_X13_find b (nI base) (nI n) (nI X) r = some v ∧ ((∃ i, i < n ∧ v = nI i ∧ L i = X ∧ ∀ k, k < i → L k ≠ X) ∨ (v = -1 ∧ ∀ i, i < n → L i ≠ X)) := by
  obtain ⟨v, e1, h1⟩ := fd_row ha hb hl h hX hn
  obtain ⟨w, e2, h2⟩ := fd_ref ha' hb' hl' (fun i hi => ⟨(h i hi).1, (h i hi).2.2⟩) hX (by omega)
  have e : v = w := by
    rcases h1 with ⟨i, i1, i2, i3, i4⟩ | ⟨i2, i3⟩
    · rcases h2 with ⟨j, j1, j2, j3, j4⟩ | ⟨j2, j3⟩
      · have e : i = j := by
          rcases Nat.lt_trichotomy i j with z | z | z
          · exact absurd i3 (j4 i z)
          · exact z
          · exact absurd j3 (i4 j z)
        rw [i2, j2, e]
      · exact absurd i3 (j3 i i1)
    · rcases h2 with ⟨j, j1, j2, j3, j4⟩ | ⟨j2, j3⟩
      · exact absurd j3 (i3 j j1)
      · rw [i2, j2]
  exact ⟨v, e1, by rw [e2, e], h1⟩
/-- a name told outside, by its family -/
theorem nt_told (N : nt_R W nt c r) (hi : i < 4) (hX : X < 7934) (hW : 66 + X < W) : ∃ v : Int32, f_X3_toldAs (nI (66 + X)) (nI i) c = some v ∧ f_X13_find (nt_B i) 0 (nI (nt i)) (nI X) r = some v ∧ ((v = -1 ∧ ∀ j, j < nt i → r.1 (nt_B i) j ≠ nI X) ∨ ∃ j, j < nt i ∧ v = nI j ∧ r.1 (nt_B i) j = nI X) := by
  have n60 := N.le hi
  have hM := (N.1 i hi).1
  have tl : ∀ j, j < nt i → r.1 (nt_B i) j = nI X → c.1 6 (66 + X) = nI (1 + 100 * i + j) := fun j hj e => by
    obtain ⟨X', y1, y2, y3, y4⟩ := N.2.1 i j hi hj
    have ee : X = X' := (nI_eq (by omega) (by omega)).mp (e.symm.trans y3)
    rw [ee, y4]
  have hL : ∃ L : Nat → Nat, ∀ j, j < nt i → L j < 7934 ∧ r.1 (nt_B i) (0 + j) = nI (L j) := by
    refine ⟨fun j => (r.1 (nt_B i) j).toInt.toNat, fun j hj => ?_⟩
    obtain ⟨X', y1, y2, y3, y4⟩ := N.2.1 i j hi hj
    have e : (r.1 (nt_B i) j).toInt.toNat = X' := by
      rw [y3, nI_toInt (by omega)]
      omega
    show (r.1 (nt_B i) j).toInt.toNat < 7934 ∧ r.1 (nt_B i) (0 + j) = nI (r.1 (nt_B i) j).toInt.toNat
    rw [e, Nat.zero_add]
    exact ⟨y1, y3⟩
  obtain ⟨L, hL⟩ := hL
  have ok : t_oka (nt_B i) 1 (t_ln (nt_B i)) = true ∧ 0 + nt i ≤ t_ln (nt_B i) ∧ t_ln (nt_B i) < 2 ^ 31 := by
    have hc : i = 0 ∨ i = 1 ∨ i = 2 ∨ i = 3 := by omega
    rcases hc with rfl | rfl | rfl | rfl
    · exact ⟨rfl, by have : nt 0 ≤ 60 := hM; have : t_ln (nt_B 0) = 60 := rfl; omega, by decide⟩
    · exact ⟨rfl, by have : nt 1 ≤ 60 := hM; have : t_ln (nt_B 1) = 60 := rfl; omega, by decide⟩
    · exact ⟨rfl, by have : nt 2 ≤ 8 := hM; have : t_ln (nt_B 2) = 8 := rfl; omega, by decide⟩
    · exact ⟨rfl, by have : nt 3 ≤ 40 := hM; have : t_ln (nt_B 3) = 40 := rfl; omega, by decide⟩
  obtain ⟨w, e2, h2⟩ := fd_ref (base := 0) ok.1 ok.2.1 ok.2.2 hL hX (by omega)
  have e2 : f_X13_find (nt_B i) 0 (nI (nt i)) (nI X) r = some w := e2
  have h3 : (w = -1 ∧ ∀ j, j < nt i → r.1 (nt_B i) j ≠ nI X) ∨ ∃ j, j < nt i ∧ w = nI j ∧ r.1 (nt_B i) j = nI X := by
    rcases h2 with ⟨j, j1, j2, j3, _⟩ | ⟨j1, j2⟩
    · have a := (hL j j1).2
      rw [Nat.zero_add, j3] at a
      exact Or.inr ⟨j, j1, j2, a⟩
    · refine Or.inl ⟨j1, fun j hj e => j2 j hj ?_⟩
      have a := hL j hj
      rw [Nat.zero_add] at a
      exact (nI_eq (by omega) (by omega)).mp (a.2.symm.trans e)
  refine ⟨w, ?_, e2, h3⟩
  unfold f_X3_toldAs
  rw [if_pos (l2_ix (show 66 + X < 8000 by omega) (by decide)), nI_clamp (n := 66 + X) (by omega), show (100 : Int32) * nI i = nI (100 * i) from pk_mul 100 i]
  have neg : ∀ m : Nat, m < 100 * i → nI m - nI (100 * i) < 0 := fun m hm => by
    refine Int32.lt_iff_toInt_lt.mpr ?_
    rw [pk_sub_toInt (by omega) (by omega)]
    have : (0 : Int32).toInt = 0 := rfl
    omega
  rcases N.2.2 X hW with h0 | ⟨h, j, h4, hj, hB, hc⟩
  · have no : ∀ j, j < nt i → r.1 (nt_B i) j ≠ nI X := fun j hj e => by
      have a := (tl j hj e).symm.trans h0
      have := (nI_eq (b := 0) (by omega) (by decide)).mp a
      omega
    have ew : w = -1 := by
      rcases h3 with ⟨y, _⟩ | ⟨j, j1, j2, j3⟩
      · exact y
      · exact absurd j3 (no j j1)
    have z : c.1 6 (66 + X) - 1 - nI (100 * i) < 0 := by
      rw [h0]
      have hc : i = 0 ∨ i = 1 ∨ i = 2 ∨ i = 3 := by omega
      rcases hc with rfl | rfl | rfl | rfl <;> decide
    rw [if_pos z, ew]
  · have n60' := N.le h4
    rw [hc, show (1 : Int32) = nI 1 from rfl, pk_sub (by omega), show 1 + 100 * h + j - 1 = 100 * h + j by omega]
    by_cases hh : h = i
    · subst hh
      have ew : w = nI j := by
        rcases h3 with ⟨_, y⟩ | ⟨j', j1, j2, j3⟩
        · exact absurd hB (y j hj)
        · have a := (tl j' j1 j3).symm.trans hc
          have := (nI_eq (by omega) (by omega)).mp a
          rw [j2, show j' = j by omega]
      rw [pk_sub (by omega), show 100 * h + j - 100 * h = j by omega, if_neg (nI_pos (by omega)), if_neg (show ¬ (100 : Int32) ≤ nI j from nI_ge (b := 100) (by omega) (by decide)), ew]
    · have no : ∀ j', j' < nt i → r.1 (nt_B i) j' ≠ nI X := fun j' hj' e => by
        have a := (tl j' hj' e).symm.trans hc
        have := (nI_eq (by omega) (by omega)).mp a
        omega
      have ew : w = -1 := by
        rcases h3 with ⟨y, _⟩ | ⟨j', j1, j2, j3⟩
        · exact y
        · exact absurd j3 (no j' j1)
      rw [ew]
      by_cases hlt : h < i
      · rw [if_pos (neg _ (by omega))]
        rfl
      · rw [pk_sub (by omega), if_neg (nI_pos (by omega)), if_pos (show (100 : Int32) ≤ nI (100 * h + j - 100 * i) from nI_le (a := 100) (by omega) (by omega))]
        rfl
end
