/-! Tools of the typed walks. -/
theorem t_wI {s z : t_S} {a k : Nat} {v : Int32} (w : z = t_setI s a k v) : z.1 a k = v := by
  subst w
  show va_up s.1 a (va_up (s.1 a) k v) a k = v
  rw [mj_up_eq, mj_up_eq]
theorem t_wJ {s z : t_S} {a k : Nat} {v : Int64} (w : z = t_setJ s a k v) : z.2.1 a k = v := by
  subst w
  show va_up s.2.1 a (va_up (s.2.1 a) k v) a k = v
  rw [mj_up_eq, mj_up_eq]
theorem t_wR {s z : t_S} {a k : Nat} {v : Nat} (w : z = t_setR s a k v) : z.2.2 a k = v := by
  subst w
  show va_up s.2.2 a (va_up (s.2.2 a) k v) a k = v
  rw [mj_up_eq, mj_up_eq]
theorem t_oI {s z : t_S} {a k : Nat} {v : Int32} (w : z = t_setI s a k v) (b j : Nat) (h : (b == a && j == k) = false) : z.1 b j = s.1 b j := by
  subst w
  show va_up s.1 a (va_up (s.1 a) k v) b j = _
  by_cases e : b = a
  · subst e
    have e2 : j ≠ k := by
      intro q
      subst q
      simp at h
    rw [mj_up_eq, mj_up_ne _ _ e2]
  · rw [mj_up_ne _ _ e]
theorem t_cIJ {s z : t_S} {a k : Nat} {v : Int32} (w : z = t_setI s a k v) (b j : Nat) : z.2.1 b j = s.2.1 b j := by subst w; rfl
theorem t_cIR {s z : t_S} {a k : Nat} {v : Int32} (w : z = t_setI s a k v) (b j : Nat) : z.2.2 b j = s.2.2 b j := by subst w; rfl
theorem t_oJ {s z : t_S} {a k : Nat} {v : Int64} (w : z = t_setJ s a k v) (b j : Nat) (h : (b == a && j == k) = false) : z.2.1 b j = s.2.1 b j := by
  subst w
  show va_up s.2.1 a (va_up (s.2.1 a) k v) b j = _
  by_cases e : b = a
  · subst e
    have e2 : j ≠ k := by
      intro q
      subst q
      simp at h
    rw [mj_up_eq, mj_up_ne _ _ e2]
  · rw [mj_up_ne _ _ e]
theorem t_cJI {s z : t_S} {a k : Nat} {v : Int64} (w : z = t_setJ s a k v) (b j : Nat) : z.1 b j = s.1 b j := by subst w; rfl
theorem t_cJR {s z : t_S} {a k : Nat} {v : Int64} (w : z = t_setJ s a k v) (b j : Nat) : z.2.2 b j = s.2.2 b j := by subst w; rfl
theorem t_oR {s z : t_S} {a k : Nat} {v : Nat} (w : z = t_setR s a k v) (b j : Nat) (h : (b == a && j == k) = false) : z.2.2 b j = s.2.2 b j := by
  subst w
  show va_up s.2.2 a (va_up (s.2.2 a) k v) b j = _
  by_cases e : b = a
  · subst e
    have e2 : j ≠ k := by
      intro q
      subst q
      simp at h
    rw [mj_up_eq, mj_up_ne _ _ e2]
  · rw [mj_up_ne _ _ e]
theorem t_cRI {s z : t_S} {a k : Nat} {v : Nat} (w : z = t_setR s a k v) (b j : Nat) : z.1 b j = s.1 b j := by subst w; rfl
theorem t_cRJ {s z : t_S} {a k : Nat} {v : Nat} (w : z = t_setR s a k v) (b j : Nat) : z.2.1 b j = s.2.1 b j := by subst w; rfl
/-- only cells of L were written -/
def t_keep (L : List Nat) (s s' : t_S) : Prop := ∀ b, L.contains b = false → s'.1 b = s.1 b ∧ s'.2.1 b = s.2.1 b ∧ s'.2.2 b = s.2.2 b
theorem t_keep.rf {L : List Nat} {s : t_S} : t_keep L s s := fun _ _ => ⟨rfl, rfl, rfl⟩
theorem t_keep.trans {L : List Nat} {s s' s2 : t_S} (h : t_keep L s s') (h2 : t_keep L s' s2) : t_keep L s s2 := fun b hb => ⟨(h2 b hb).1.trans (h b hb).1, (h2 b hb).2.1.trans (h b hb).2.1, (h2 b hb).2.2.trans (h b hb).2.2⟩
theorem t_keep.mono {L M : List Nat} {s s' : t_S} (h : t_keep L s s') (hL : L.all (fun b => M.contains b) = true) : t_keep M s s' := by
  intro b hb
  refine h b ?_
  cases hc : L.contains b with
  | false => rfl
  | true =>
    have h1 := List.all_eq_true.mp hL b (List.contains_iff_mem.mp hc)
    rw [hb] at h1
    cases h1
theorem t_keep_ne {L : List Nat} {a b : Nat} (ha : L.contains a = true) (hb : L.contains b = false) : b ≠ a := by
  intro e
  subst e
  rw [ha] at hb
  cases hb
theorem t_keep_I {L : List Nat} {s z : t_S} {a k : Nat} {v : Int32} (w : z = t_setI s a k v) (ha : L.contains a = true) : t_keep L s z := by
  intro b hb
  subst w
  exact ⟨show va_up s.1 a _ b = s.1 b from mj_up_ne _ _ (t_keep_ne ha hb), rfl, rfl⟩
theorem t_keep_J {L : List Nat} {s z : t_S} {a k : Nat} {v : Int64} (w : z = t_setJ s a k v) (ha : L.contains a = true) : t_keep L s z := by
  intro b hb
  subst w
  exact ⟨rfl, show va_up s.2.1 a _ b = s.2.1 b from mj_up_ne _ _ (t_keep_ne ha hb), rfl⟩
theorem t_keep_R {L : List Nat} {s z : t_S} {a k : Nat} {v : Nat} (w : z = t_setR s a k v) (ha : L.contains a = true) : t_keep L s z := by
  intro b hb
  subst w
  exact ⟨rfl, rfl, show va_up s.2.2 a _ b = s.2.2 b from mj_up_ne _ _ (t_keep_ne ha hb)⟩
theorem t_lt {x l : Int32} (L : Int) (hl : l.toInt = L) : x < l ↔ x.toInt < L := by rw [Int32.lt_iff_toInt_lt, hl]
theorem t_gt {x l : Int32} (L : Int) (hl : l.toInt = L) : l < x ↔ L < x.toInt := by rw [Int32.lt_iff_toInt_lt, hl]
theorem t_le {x l : Int32} (L : Int) (hl : l.toInt = L) : x ≤ l ↔ x.toInt ≤ L := by rw [Int32.le_iff_toInt_le, hl]
theorem t_ge {x l : Int32} (L : Int) (hl : l.toInt = L) : l ≤ x ↔ L ≤ x.toInt := by rw [Int32.le_iff_toInt_le, hl]
theorem t_eq {x l : Int32} (L : Int) (hl : l.toInt = L) : x = l ↔ x.toInt = L := by rw [← Int32.toInt_inj, hl]
theorem t_cmp_lt {x y : Int64} : lg_cmp x y < 0 ↔ x.toInt < y.toInt := by
  rw [← Int64.lt_iff_toInt_lt]
  exact lg_cmp_lt x y
theorem t_cmp_gt {x y : Int64} : 0 < lg_cmp x y ↔ y.toInt < x.toInt := by
  rw [← Int64.lt_iff_toInt_lt]
  exact lg_cmp_gt x y
theorem t_shr0 (y : Int32) : (0 : Int32) >>> y = 0 := by
  apply Int32.toBitVec_inj.mp
  rw [Int32.toBitVec_shiftRight]
  simp
theorem t_nI {x : Int32} {B : Nat} (hB : B < 2 ^ 31) (h : 0 ≤ x.toInt ∧ x.toInt ≤ (B : Int)) : ∃ j : Nat, j ≤ B ∧ x = nI j := by
  refine ⟨x.toInt.toNat, by omega, ?_⟩
  apply Int32.toInt_inj.mp
  rw [nI_toInt (by omega)]
  omega
theorem t_cell {m f c : Int32} (hm : 0 ≤ m.toInt ∧ m.toInt ≤ 3) (hf : 0 ≤ f.toInt ∧ f.toInt ≤ 7) (hc : 0 ≤ c.toInt ∧ c.toInt ≤ 7) : vp_in ((m * 8 + f) * 8 + c) 256 := by
  obtain ⟨a, ha, rfl⟩ := t_nI (B := 3) (by decide) hm
  obtain ⟨b, hb, rfl⟩ := t_nI (B := 7) (by decide) hf
  obtain ⟨e, he, rfl⟩ := t_nI (B := 7) (by decide) hc
  have q : (nI a * 8 + nI b) * 8 + nI e = nI ((a * 8 + b) * 8 + e) := by
    rw [show (8 : Int32) = nI 8 from rfl, pk_mul, nI_add, pk_mul, nI_add]
  rw [q]
  exact vp_in_nI (by omega) (by decide)
theorem t_cell2 {m f c : Int32} (hm : 0 ≤ m.toInt ∧ m.toInt ≤ 3) (hf : 0 ≤ f.toInt ∧ f.toInt ≤ 7) (hc : 0 ≤ c.toInt ∧ c.toInt ≤ 7) : vp_in (64 * m + 8 * f + c) 256 := by
  obtain ⟨a, ha, rfl⟩ := t_nI (B := 3) (by decide) hm
  obtain ⟨b, hb, rfl⟩ := t_nI (B := 7) (by decide) hf
  obtain ⟨e, he, rfl⟩ := t_nI (B := 7) (by decide) hc
  have q : 64 * nI a + 8 * nI b + nI e = nI (64 * a + 8 * b + e) := by
    rw [show (64 : Int32) = nI 64 from rfl, show (8 : Int32) = nI 8 from rfl, pk_mul, pk_mul, nI_add, nI_add]
  rw [q]
  exact vp_in_nI (by omega) (by decide)
theorem t_dec (m : Nat) : nI m + Int32.ofInt (-1) = nI m - 1 := by
  rw [Int32.sub_eq_add_neg, show Int32.ofInt (-1) = -1 by decide]
