/-! Level 2: rows of answers and the row of bits: bit, bits, noBits, letter, why. -/
theorem cd_and1 (w : Int64) : w &&& 1 = 0 ∨ w &&& 1 = 1 := by
  have h : (w &&& 1).toBitVec.toNat = w.toBitVec.toNat % 2 := by
    rw [Int64.toBitVec_and, BitVec.toNat_and]
    exact Nat.and_one_is_mod _
  rcases Nat.mod_two_eq_zero_or_one w.toBitVec.toNat with e | e
  · refine Or.inl (Int64.toBitVec_inj.1 (BitVec.eq_of_toNat_eq ?_))
    rw [h, e]
    rfl
  · refine Or.inr (Int64.toBitVec_inj.1 (BitVec.eq_of_toNat_eq ?_))
    rw [h, e]
    rfl
/-- bit i of a number -/
def cd_b (w : Int64) (i : Nat) : Nat := if (w >>> ((nI i).toInt64 &&& 63)) &&& (1 : Int64) = 0 then 0 else 1
theorem cd_b1 (w : Int64) (i : Nat) : cd_b w i ≤ 1 := by
  unfold cd_b
  split <;> omega
theorem cd_bc (w : Int64) (i : Nat) : (((((w >>> ((nI i).toInt64 &&& 63)) &&& (1 : Int64)).toInt32).toInt8.toInt32).toInt8.toInt32) = nI (cd_b w i) := by
  unfold cd_b
  rcases cd_and1 (w >>> ((nI i).toInt64 &&& 63)) with e | e
  · rw [e, if_pos rfl]
    decide
  · rw [e, if_neg (by decide)]
    decide
theorem cd_br (w : Int64) (i : Nat) : (lg_cmp ((w >>> ((nI i).toInt64 &&& 63)) &&& (1 : Int64)) (1 : Int64) = 0 ↔ cd_b w i = 1) := by
  unfold cd_b
  rcases cd_and1 (w >>> ((nI i).toInt64 &&& 63)) with e | e
  · rw [e, if_pos rfl]
    exact ⟨fun z => absurd z (by decide), fun z => absurd z (by decide)⟩
  · rw [e, if_neg (by decide)]
    exact ⟨fun _ => rfl, fun _ => by decide⟩
def cd_R (s : t_S) : Prop := ∃ (n : Nat) (A : Nat → Nat), n ≤ 8000 ∧ s.1 856 5 = nI n ∧ s.1 950 121 = nI n ∧ ∀ i, i < n → A i ≤ 1 ∧ s.1 858 i = nI (A i) ∧ s.1 1020 i = nI (A i)
def cd_Wc (b j : Nat) : Prop := b = 858 ∨ (b = 856 ∧ j = 5)
def cd_Wr (b j : Nat) : Prop := b = 1020 ∨ (b = 950 ∧ j = 121)
theorem cd_put {s : t_S} {n h : Nat} (w : Int64) (hh : h ≤ 64) (hn : n + h ≤ 8000) (e : s.1 856 5 = nI n) : t_hk (f_X1_put w (nI h) s) (fun s' => s'.1 856 5 = nI (n + h) ∧ (∀ j, j < h → s'.1 858 (n + j) = nI (cd_b w (h - 1 - j))) ∧ (∀ i, i < n → s'.1 858 i = s.1 858 i) ∧ l2_fr cd_Wc s s') := by
  unfold f_X1_put
  refine l2_lp (fun k y => ∃ j s1, j + k = h ∧ y = (w, nI (h - j) - 1, s1) ∧ s1.1 856 5 = nI (n + j) ∧ (∀ i, i < j → s1.1 858 (n + i) = nI (cd_b w (h - 1 - i))) ∧ (∀ i, i < n → s1.1 858 i = s.1 858 i) ∧ l2_fr cd_Wc s s1) ?_ (m := h) (Nat.lt_trans (show h < 1000000000 by omega) l2_N) ⟨0, s, by omega, rfl, e, fun i hi => absurd hi (by omega), fun _ _ => rfl, l2_fr.rf⟩
  rintro k y ⟨j, s1, hj, rfl, h1, h2, h3, h4⟩
  show t_hk (k_X1_put_5 w (nI (h - j) - 1) s1) _
  unfold k_X1_put_5
  by_cases c : j = h
  · subst c
    rw [Nat.sub_self, if_pos (by decide)]
    exact l2_mp (l2_sm ⟨h1, h2, h3, h4⟩)
  · rw [sy_m1n (by omega), if_neg (nI_pos (by omega)), h1, if_neg (show ¬ (8000 : Int32) ≤ nI (n + j) from nI_ge (b := 8000) (by omega) (by decide))]
    refine l2_ck (l2_ix (by omega) (by decide)) ?_
    rw [nI_clamp (by omega), cd_bc, sy_m1]
    refine l2_lt (l2_lt (l2_sm ⟨k - 1, by omega, j + 1, t_setI (t_setI s1 858 (n + j) (nI (cd_b w (h - j - 1)))) 856 5 (nI (n + j) + 1), by omega, ?_, ?_, ?_, ?_, ?_⟩))
    · rw [l2_sO (by decide), h1, show h - (j + 1) = h - j - 1 by omega]
    · rw [l2_sI, mj_up_eq, nI_1]
      rfl
    · intro i hi
      rw [l2_sO (by decide), l2_sI]
      by_cases e2 : i = j
      · rw [e2, mj_up_eq, show h - 1 - j = h - j - 1 by omega]
      · rw [mj_up_ne _ _ (by omega)]
        exact h2 i (by omega)
    · intro i hi
      rw [l2_sO (by decide), l2_sI, mj_up_ne _ _ (by omega)]
      exact h3 i hi
    · exact (h4.trans (l2_fr.set (Or.inl rfl))).trans (l2_fr.set (Or.inr ⟨rfl, rfl⟩))
theorem cd_rput {s : t_S} {n h : Nat} (w : Int64) (hh : h ≤ 64) (hn : n + h ≤ 8000) (e : s.1 950 121 = nI n) : t_hk (f_X13_putBits w (nI h) s) (fun s' => s'.1 950 121 = nI (n + h) ∧ (∀ j, j < h → s'.1 1020 (n + j) = nI (cd_b w (h - 1 - j))) ∧ (∀ i, i < n → s'.1 1020 i = s.1 1020 i) ∧ l2_fr cd_Wr s s') := by
  unfold f_X13_putBits
  refine l2_lp (fun k y => ∃ j s1, j + k = h ∧ y = (w, nI (h - j) - 1, s1) ∧ s1.1 950 121 = nI (n + j) ∧ (∀ i, i < j → s1.1 1020 (n + i) = nI (cd_b w (h - 1 - i))) ∧ (∀ i, i < n → s1.1 1020 i = s.1 1020 i) ∧ l2_fr cd_Wr s s1) ?_ (m := h) (Nat.lt_trans (show h < 1000000000 by omega) l2_N) ⟨0, s, by omega, rfl, e, fun i hi => absurd hi (by omega), fun _ _ => rfl, l2_fr.rf⟩
  rintro k y ⟨j, s1, hj, rfl, h1, h2, h3, h4⟩
  show t_hk (k_X13_putBits_5 w (nI (h - j) - 1) s1) _
  unfold k_X13_putBits_5
  by_cases c : j = h
  · subst c
    rw [Nat.sub_self, if_pos (by decide)]
    exact l2_mp (l2_sm ⟨h1, h2, h3, h4⟩)
  · rw [sy_m1n (by omega), if_neg (nI_pos (by omega)), h1, if_neg (show ¬ (8600 : Int32) ≤ nI (n + j) from nI_ge (b := 8600) (by omega) (by decide))]
    have st : ∀ v : Int32, v = nI (cd_b w (h - j - 1)) → t_hk (k_X13_putBits_44 w (nI (h - j - 1)) v (nI (n + j)) s1) (l2_nx (fun z => ∃ j, j < k ∧ ∃ j_1 s1, j_1 + j = h ∧ z = (w, nI (h - j_1) - 1, s1) ∧ s1.1 950 121 = nI (n + j_1) ∧ (∀ i, i < j_1 → s1.1 1020 (n + i) = nI (cd_b w (h - 1 - i))) ∧ (∀ i, i < n → s1.1 1020 i = s.1 1020 i) ∧ l2_fr cd_Wr s s1) (fun s' => s'.1 950 121 = nI (n + h) ∧ (∀ j, j < h → s'.1 1020 (n + j) = nI (cd_b w (h - 1 - j))) ∧ (∀ i, i < n → s'.1 1020 i = s.1 1020 i) ∧ l2_fr cd_Wr s s')) := by
      intro v hv
      unfold k_X13_putBits_44 k_X13_putBits_55
      refine l2_ck (l2_ix (by omega) (by decide)) (l2_ck ?_ ?_)
      · have := cd_b1 w (h - j - 1)
        rcases (show cd_b w (h - j - 1) = 0 ∨ cd_b w (h - j - 1) = 1 by omega) with q | q
        · rw [hv, q]; exact Or.inl rfl
        · rw [hv, q]; exact Or.inr rfl
      rw [nI_clamp (by omega), sy_m1]
      refine l2_lt (l2_lt (l2_sm ⟨k - 1, by omega, j + 1, t_setI (t_setI s1 1020 (n + j) v) 950 121 (nI (n + j) + 1), by omega, ?_, ?_, ?_, ?_, ?_⟩))
      · rw [l2_sO (by decide), h1, show h - (j + 1) = h - j - 1 by omega]
      · rw [l2_sI, mj_up_eq, nI_1]
        rfl
      · intro i hi
        rw [l2_sO (by decide), l2_sI]
        by_cases e2 : i = j
        · rw [e2, mj_up_eq, show h - 1 - j = h - j - 1 by omega]
          exact hv
        · rw [mj_up_ne _ _ (by omega)]
          exact h2 i (by omega)
      · intro i hi
        rw [l2_sO (by decide), l2_sI, mj_up_ne _ _ (by omega)]
        exact h3 i hi
      · exact (h4.trans (l2_fr.set (Or.inl rfl))).trans (l2_fr.set (Or.inr ⟨rfl, rfl⟩))
    refine l2_if (fun z => ?_) (fun z => ?_)
    · have z := (cd_br w (h - j - 1)).mp z
      exact st 1 (by rw [z]; rfl)
    · have z : ¬ cd_b w (h - j - 1) = 1 := fun y => z ((cd_br w (h - j - 1)).mpr y)
      have := cd_b1 w (h - j - 1)
      exact st 0 (by rw [show cd_b w (h - j - 1) = 0 by omega]; rfl)
theorem cd_bits {s : t_S} (h : cd_R s) (x1 x2 : Int32) : t_hk (f_X12_bits x1 x2 s) (fun r => l2_fr cd_Wc s r.2 ∧ t_hk (f_X13_bits x1 x2 r.2) (fun r' => r'.1 = r.1 ∧ l2_fr cd_Wr r.2 r'.2 ∧ cd_R r'.2)) := by
  have h0 := h
  obtain ⟨n, A, hn, h1, h2, h3⟩ := h
  have e32 : (32 : Int64).toInt = 32 := rfl
  have no : ∀ v : Int32, t_hk (f_X13_bits x1 x2 s) (fun r => r = (v, s)) → t_hk (some (v, s)) (fun r => l2_fr cd_Wc s r.2 ∧ t_hk (f_X13_bits x1 x2 r.2) (fun r' => r'.1 = r.1 ∧ l2_fr cd_Wr r.2 r'.2 ∧ cd_R r'.2)) := fun v q => l2_sm ⟨l2_fr.rf, l2_imp q (fun r e => by rw [e]; exact ⟨rfl, l2_fr.rf, h0⟩)⟩
  unfold f_X12_bits
  by_cases a : 0 ≤ x2.toInt ∧ x2.toInt ≤ 32
  case neg =>
    have q : t_hk (f_X13_bits x1 x2 s) (fun r => r = (-1, s)) := by
      unfold f_X13_bits
      rw [l2_in0 (by rw [e32]; exact a), if_pos rfl]
      exact l2_sm rfl
    by_cases b : x2 < 0
    · rw [if_pos b]; exact no _ q
    · rw [if_neg b]
      have b1 : ¬ x2.toInt < 0 := fun z => b ((t_lt 0 rfl).mpr z)
      rw [if_neg (fun z => a ⟨by omega, (t_le 32 rfl).mp z⟩)]
      exact no _ q
  have j := fun t : t_S => l2_in1 (h := 32) (s := t) a.1 (by rw [e32]; exact a.2)
  rw [if_neg (fun z => by have := (t_lt 0 rfl).mp z; omega), if_pos ((t_le 32 rfl).mpr a.2), h1]
  obtain ⟨m, hm, rfl⟩ := l2_nat (n := 32) (by decide) a
  rw [nI_add]
  by_cases b : n + m ≤ 8000
  · rw [if_pos (show nI (n + m) ≤ (8000 : Int32) from nI_le (b := 8000) b (by decide))]
    refine l2_bd _ (cd_put x1.toInt64 (by omega) b h1) (fun s1 p => l2_sm ⟨p.2.2.2, ?_⟩)
    have g : s1.1 950 121 = nI n := by
      rw [(p.2.2.2 950 121 (by unfold cd_Wc; omega)).1]
      exact h2
    unfold f_X13_bits
    show t_hk (if f_X13_in (nI m).toInt64 0 32 s1 = 0 then _ else if s1.1 950 121 + nI m ≤ (8000 : Int32) then _ else _) _
    rw [j, if_neg l2_10, g, nI_add, if_pos (show nI (n + m) ≤ (8000 : Int32) from nI_le (b := 8000) b (by decide))]
    refine l2_bd _ (cd_rput x1.toInt64 (by omega) b g) (fun s2 q => l2_sm ⟨?_, q.2.2.2, n + m, fun i => if i < n then A i else cd_b x1.toInt64 (m - 1 - (i - n)), b, ?_, q.1, fun i hi => ?_⟩)
    · show s2.1 950 121 = s1.1 856 5
      rw [q.1, p.1]
    · show s2.1 856 5 = _
      rw [(q.2.2.2 856 5 (by unfold cd_Wr; omega)).1]
      exact p.1
    · show _ ∧ s2.1 858 i = _ ∧ s2.1 1020 i = _
      rw [(q.2.2.2 858 i (by unfold cd_Wr; omega)).1]
      by_cases d : i < n
      · simp only [if_pos d]
        refine ⟨(h3 i d).1, (p.2.2.1 i d).trans (h3 i d).2.1, (q.2.2.1 i d).trans ?_⟩
        rw [(p.2.2.2 1020 i (by unfold cd_Wc; omega)).1]
        exact (h3 i d).2.2
      · simp only [if_neg d]
        have u := p.2.1 (i - n) (by omega)
        have v := q.2.1 (i - n) (by omega)
        rw [show n + (i - n) = i by omega] at u v
        exact ⟨cd_b1 _ _, u, v⟩
  · rw [if_neg (show ¬ nI (n + m) ≤ (8000 : Int32) from nI_ge (a := 8000) (by omega) (by omega))]
    refine no _ ?_
    unfold f_X13_bits
    rw [j, if_neg l2_10, h2, nI_add, if_neg (show ¬ nI (n + m) ≤ (8000 : Int32) from nI_ge (a := 8000) (by omega) (by omega))]
    exact l2_sm rfl
theorem cd_noBits {s : t_S} (h : cd_R s) : t_hk (f_X12_noBits s) (fun r => l2_fr cd_Wc s r.2 ∧ t_hk (f_X13_noBits r.2) (fun r' => r'.1 = r.1 ∧ l2_fr cd_Wr r.2 r'.2 ∧ cd_R r'.2)) := by
  obtain ⟨n, A, hn, h1, h2, h3⟩ := h
  unfold f_X12_noBits
  refine l2_lt (l2_sm ⟨l2_fr.set (Or.inr ⟨rfl, rfl⟩), ?_⟩)
  unfold f_X13_noBits
  refine l2_lt (l2_sm ⟨?_, l2_fr.set (Or.inr ⟨rfl, rfl⟩), 0, A, by omega, ?_, ?_, fun i hi => absurd hi (by omega)⟩)
  · show (t_setI s 856 5 0).1 950 121 = s.1 856 5
    rw [l2_sO (by decide), h1, h2]
  · show (t_setI (t_setI s 856 5 0) 950 121 0).1 856 5 = _
    rw [l2_sO (by decide), l2_sI, mj_up_eq]
    rfl
  · show (t_setI (t_setI s 856 5 0) 950 121 0).1 950 121 = _
    rw [l2_sI, mj_up_eq]
    rfl
/-- a place of a row asked for on both sides -/
theorem l2_row {x : Int32} {n m1 m2 : Nat} {f g : Nat → Int32} {s : t_S} (h1 : n ≤ m1) (h2 : n ≤ m2) (hm1 : m1 < 2 ^ 30) (hm2 : m2 < 2 ^ 30) (hfg : ∀ i, i < n → f i = g i) : ∃ r, (if x < (0 : Int32) then some (-2 : Int32) else if x < nI n then (if t_ix x m1 = true then some (f x.toNatClampNeg) else none) else some (-2 : Int32)) = some r ∧ (if f_X13_in x.toInt64 (0 : Int64) ((nI n - (1 : Int32)).toInt64) s = (0 : Int32) then some (-2 : Int32) else if t_ix x m2 = true then some (g x.toNatClampNeg) else none) = some r := by
  have eL : ((nI n - 1).toInt64).toInt = (n : Int) - 1 := by
    rw [l2_s64]
    exact pk_sub_toInt (b := 1) (by omega) (by decide)
  by_cases b : x < 0
  · have b1 := (t_lt 0 rfl).mp b
    rw [if_pos b, l2_in0 (by omega), if_pos rfl]
    exact ⟨_, rfl, rfl⟩
  have b1 : ¬ x.toInt < 0 := fun z => b ((t_lt 0 rfl).mpr z)
  rw [if_neg b]
  by_cases c : x < nI n
  · have c1 := (t_lt (n : Int) (nI_toInt (by omega))).mp c
    rw [if_pos c, l2_in1 (by omega) (by omega), if_neg l2_10]
    obtain ⟨j, hj, rfl⟩ := l2_nat (x := x) (n := n) (by omega) ⟨by omega, by omega⟩
    have hj : j < n := by
      rw [nI_toInt (by omega)] at c1
      omega
    rw [if_pos (l2_ix (by omega) (by omega)), if_pos (l2_ix (by omega) (by omega)), nI_clamp (by omega), hfg j hj]
    exact ⟨_, rfl, rfl⟩
  · have c1 : ¬ x.toInt < (n : Int) := fun z => c ((t_lt (n : Int) (nI_toInt (by omega))).mpr z)
    rw [if_neg c, l2_in0 (by omega), if_pos rfl]
    exact ⟨_, rfl, rfl⟩
theorem cd_bit {s : t_S} (h : cd_R s) (x : Int32) : ∃ r, f_X12_bit x s = some r ∧ f_X13_bit x s = some r := by
  obtain ⟨n, A, hn, h1, h2, h3⟩ := h
  unfold f_X12_bit f_X13_bit k_X12_bit_15
  rw [h1, h2]
  obtain ⟨r, p, q⟩ := l2_row (x := x) (n := n) (m1 := 8000) (m2 := 8600) (f := s.1 858) (g := fun i => if s.1 1020 i = 0 then 0 else 1) (s := s) (by omega) (by omega) (by decide) (by decide) (fun i hi => by
    obtain ⟨a, b, c⟩ := h3 i hi
    show s.1 858 i = if s.1 1020 i = 0 then 0 else 1
    rw [b, c]
    rcases (show A i = 0 ∨ A i = 1 by omega) with z | z
    · rw [z]; decide
    · rw [z]; decide)
  refine ⟨r, p, Eq.trans ?_ q⟩
  have e : ∀ i : Nat, (if s.1 1020 i = (0 : Int32) then some (0 : Int32) else some (1 : Int32)) = some (if s.1 1020 i = (0 : Int32) then (0 : Int32) else 1) := by
    intro i
    by_cases z : s.1 1020 i = 0
    · rw [if_pos z, if_pos z]
    · rw [if_neg z, if_neg z]
  rw [e]
def hd_R (s : t_S) : Prop := ∃ n : Nat, n ≤ 4000 ∧ s.1 856 3 = nI n ∧ s.1 950 106 = nI n ∧ ∀ i, i < n → s.1 857 i = s.1 1010 i
theorem hd_letter {s : t_S} (h : hd_R s) (x : Int32) : ∃ r, f_X12_letter x s = some r ∧ f_X13_letter x s = some r := by
  obtain ⟨n, hn, h1, h2, h3⟩ := h
  unfold f_X12_letter f_X13_letter k_X12_letter_15
  rw [h1, h2]
  exact l2_row (by omega) (by omega) (by decide) (by decide) h3
def wy_R (s : t_S) : Prop := ∃ n : Nat, n ≤ 130 ∧ s.1 353 17 = nI n ∧ s.1 950 146 = nI n ∧ ∀ i, i < n → s.1 425 i = s.1 1034 i
theorem wy_why {s : t_S} (h : wy_R s) (x : Int32) : ∃ r, f_X12_why x s = some r ∧ f_X13_why x s = some r := by
  obtain ⟨n, hn, h1, h2, h3⟩ := h
  unfold f_X12_why f_X13_why k_X12_why_15
  rw [h1, h2]
  exact l2_row (by omega) (by omega) (by decide) (by decide) h3
