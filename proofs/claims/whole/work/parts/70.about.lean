/-! Level 2: what is kept on both sides: about, alike, one more, one less. -/
theorem VR.head {wd : Int → Int → Prop} {c r : Nat → Int64} {f i p n m : Nat} (h : VR wd c r f i p n m) : ∃ (t : Int) (k : Nat), vl_c t n k (c i) ∧ k ≤ 8 ∧ r p = lN k ∧ ((k = 0 ∨ k = 1 ∨ k = 5) → 2 ≤ m ∧ (r (p + 1)).toInt = t) ∧ ((k = 2 ∨ k = 8 ∨ k = 6) → 2 ≤ m ∧ ∃ v : Nat, v ≤ 1000 ∧ t = v ∧ r (p + 1) = lN v) := by
  cases f with
  | zero => exact h.elim
  | succ f =>
  obtain ⟨t, k, h1, h2, h3, h4, h5, h6⟩ := h
  rcases h6 with ⟨a, b, d, e⟩ | ⟨a, b, d, e⟩ | ⟨a, b, d, e⟩ | ⟨v, a, b, d, e, w, l, B, x, y⟩ | ⟨a, b, d, e, w⟩ | ⟨v, a, b, d, e, I, P, x1, x2, x3, x4, x5⟩ | ⟨v, a, b, d, e, I, x1, x3, x5, P, x2, x4, x6⟩
  · exact ⟨t, k, h3, by omega, vr_l (by omega) h5, fun _ => ⟨by omega, e⟩, fun z => by omega⟩
  · exact ⟨t, k, h3, by omega, vr_l (by omega) h5, fun z => by omega, fun z => by omega⟩
  · exact ⟨t, k, h3, by omega, vr_l (by omega) h5, fun z => by omega, fun z => by omega⟩
  · exact ⟨t, k, h3, by omega, vr_l (by omega) h5, fun z => by omega, fun _ => ⟨by omega, v, by omega, b, vr_l (by omega) l⟩⟩
  · exact ⟨t, k, h3, by omega, vr_l (by omega) h5, fun z => by omega, fun z => by omega⟩
  · have q := vr_mono (I := I) (v := v) 1 (fun j hj => by
      have := x5 j hj
      have := this.2.2.2.2.pos
      omega) v (by omega)
    exact ⟨t, k, h3, by omega, vr_l (by omega) h5, fun z => by omega, fun _ => ⟨by omega, v, by omega, b, vr_l (by omega) d⟩⟩
  · have q := vr_mono (I := I) (v := v) 1 (fun j hj => (x5 j hj).1) v (by omega)
    exact ⟨t, k, h3, by omega, vr_l (by omega) h5, fun z => by omega, fun _ => ⟨by omega, v, by omega, b, vr_l (by omega) d⟩⟩
/-- what is kept, K of it: the class's state c, the reference's r -/
def kp_R (wd : Int → Int → Prop) (c r : t_S) (K : Nat) : Prop := c.1 12 2 = nI K ∧ r.1 950 96 = nI K ∧ K ≤ 40 ∧ ∀ v, v < K → ∃ n m, VR wd (c.2.1 13) (r.2.1 1006) 120 (120 * (1548 + v)) (260 * v) n m ∧ c.1 14 (1548 + v) = nI n
theorem kp_R.fr {wd : Int → Int → Prop} {c r c' r' : t_S} {K : Nat} (h : kp_R wd c r K) (a1 : c'.1 12 2 = c.1 12 2) (a2 : ∀ j, 185760 ≤ j → c'.2.1 13 j = c.2.1 13 j) (a3 : ∀ j, 1548 ≤ j → c'.1 14 j = c.1 14 j) (b1 : r'.1 950 96 = r.1 950 96) (b2 : ∀ j, j < 10400 → r'.2.1 1006 j = r.2.1 1006 j) : kp_R wd c' r' K := by
  obtain ⟨h1, h2, h3, h4⟩ := h
  refine ⟨a1.trans h1, b1.trans h2, h3, fun v hv => ?_⟩
  obtain ⟨n, m, w, g⟩ := h4 v hv
  have q := w.pos
  have q2 := w.m2
  exact ⟨n, m, VR.copy _ _ _ _ _ _ _ w (fun d hd => a2 _ (by omega)) (fun d hd => b2 _ (by omega)), (a3 _ (by omega)).trans g⟩
theorem kp_R.dn {wd : Int → Int → Prop} {c r c' r' : t_S} {K : Nat} (h : kp_R wd c r K) (a1 : c'.1 12 2 = nI (K - 1)) (a2 : c'.2.1 13 = c.2.1 13) (a3 : c'.1 14 = c.1 14) (b1 : r'.1 950 96 = nI (K - 1)) (b2 : r'.2.1 1006 = r.2.1 1006) : kp_R wd c' r' (K - 1) := by
  obtain ⟨h1, h2, h3, h4⟩ := h
  refine ⟨a1, b1, by omega, fun v hv => ?_⟩
  rw [a2, a3, b2]
  exact h4 v (by omega)
theorem kp_is {s : t_S} {K : Nat} (h1 : s.1 12 2 = nI K) (h2 : s.1 950 96 = nI K) (hK : K ≤ 40) (x : Int32) : (f_X12_isKept x s = 0 ∧ f_X13_noValue x s = 1) ∨ (f_X12_isKept x s = 1 ∧ f_X13_noValue x s = 0 ∧ ∃ j, j < K ∧ x = nI j) := by
  unfold f_X12_isKept f_X13_noValue k_X13_noValue_12
  rw [h1, h2]
  rcases pk_ix x (n := K) (by omega) with z | z | ⟨j, hj, rfl⟩
  · rw [if_pos z, if_pos z]
    exact Or.inl ⟨rfl, rfl⟩
  · by_cases y : x < 0
    · rw [if_pos y, if_pos y]
      exact Or.inl ⟨rfl, rfl⟩
    · rw [if_neg y, if_neg y, if_pos z, if_neg (Int32.not_lt.mpr z)]
      exact Or.inl ⟨rfl, rfl⟩
  · rw [if_neg (nI_pos (by omega)), if_neg (nI_pos (by omega)), if_neg (nI_ge hj (by omega)), if_pos (nI_lt hj (by omega))]
    exact Or.inr ⟨rfl, rfl, j, hj, rfl⟩
theorem kp_clamp (w : Int64) : (if (if w < (2147483647 : Int64) then w else (2147483647 : Int64)) < (-2147483648 : Int64) then (-2147483648 : Int64) else (if w < (2147483647 : Int64) then w else (2147483647 : Int64))).toInt32 = (if lg_cmp w (2147483647 : Int64) ≤ (0 : Int32) then (if (0 : Int32) ≤ lg_cmp w (-2147483648 : Int64) then w.toInt32 else (-2147483648 : Int64).toInt32) else (2147483647 : Int64).toInt32) := by
  have a : lg_cmp w (2147483647 : Int64) ≤ (0 : Int32) ↔ w.toInt ≤ 2147483647 := by
    rw [← Int32.not_lt, t_cmp_gt, show (2147483647 : Int64).toInt = 2147483647 from rfl]
    omega
  have b : (0 : Int32) ≤ lg_cmp w (-2147483648 : Int64) ↔ -2147483648 ≤ w.toInt := by
    rw [← Int32.not_lt, t_cmp_lt, show (-2147483648 : Int64).toInt = -2147483648 from rfl]
    omega
  have c : w < (2147483647 : Int64) ↔ w.toInt < 2147483647 := Int64.lt_iff_toInt_lt
  have d : w < (-2147483648 : Int64) ↔ w.toInt < -2147483648 := Int64.lt_iff_toInt_lt
  by_cases x : w.toInt < 2147483647
  · rw [if_pos (c.mpr x), if_pos (a.mpr (by omega))]
    by_cases y : w.toInt < -2147483648
    · rw [if_pos (d.mpr y), if_neg (fun z => by have := b.mp z; omega)]
    · rw [if_neg (fun z => y (d.mp z)), if_pos (b.mpr (by omega))]
  · rw [if_neg (fun z => x (c.mp z)), if_neg (show ¬ (2147483647 : Int64) < (-2147483648 : Int64) by decide)]
    by_cases y : w.toInt = 2147483647
    · rw [if_pos (a.mpr (by omega)), if_pos (b.mpr (by omega))]
      have e : w = (2147483647 : Int64) := Int64.toInt_inj.mp y
      rw [e]
    · rw [if_neg (fun z => by have := a.mp z; omega)]
theorem kp_at {s : t_S} {j : Nat} : f_X12_keptAt (nI j) s = nI (120 * (1548 + j)) := by
  unfold f_X12_keptAt
  rw [show (1548 : Int32) = nI 1548 from rfl, nI_add, show (120 : Int32) = nI 120 from rfl, pk_mul, Nat.mul_comm]
theorem kp_rat {j : Nat} : (260 : Int32) * ((0 : Int32) + nI j) = nI (260 * j) := by
  rw [Int32.zero_add, show (260 : Int32) = nI 260 from rfl, pk_mul]
theorem kp_about {wd : Int → Int → Prop} {s : t_S} {K : Nat} (h : kp_R wd s s K) (x y : Int32) : ∃ r, f_X12_about x y s = some r ∧ f_X13_about x y s = some r := by
  obtain ⟨h1, h2, h3, h4⟩ := h
  unfold f_X12_about f_X13_about
  rcases kp_is h1 h2 h3 x with ⟨a, b⟩ | ⟨a, b, j, hj, rfl⟩
  · rw [a, b, if_pos rfl, if_neg (by decide)]
    exact ⟨_, rfl, rfl⟩
  rw [a, b, if_neg (by decide), if_pos rfl, kp_rat, kp_at]
  obtain ⟨n, m, w, g⟩ := h4 j hj
  obtain ⟨t, k, w1, w2, w3, w4, w5⟩ := w.head
  have hp := w.pos
  have hm := w.m2
  have k0 := vl_kind (s := s) w1
  have c0 : t_ix (nI (120 * (1548 + j))) 190680 = true := l2_ix (by omega) (by decide)
  have r0 : t_ix (nI (260 * j)) 626600 = true := l2_ix (by omega) (by decide)
  rw [if_pos c0, if_pos r0, nI_clamp (n := 120 * (1548 + j)) (by omega), nI_clamp (n := 260 * j) (by omega), w3, lN_i]
  have y0 : y < 0 ↔ y.toInt < 0 := t_lt 0 rfl
  have y3 : y ≤ (3 : Int32) ↔ y.toInt ≤ 3 := t_le 3 rfl
  by_cases z : y.toInt < 0 ∨ 3 < y.toInt
  · rw [if_pos z]
    by_cases q : y < 0
    · rw [if_pos q]; exact ⟨_, rfl, rfl⟩
    · rw [if_neg q, if_neg (fun u => by have := y3.mp u; have : ¬ y.toInt < 0 := fun v => q (y0.mpr v); omega)]
      exact ⟨_, rfl, rfl⟩
  rw [if_neg z, if_neg (fun u => by have := y0.mp u; omega), if_pos (y3.mpr (by omega))]
  have hy : y.toInt = 0 ∨ y.toInt = 1 ∨ y.toInt = 2 ∨ y.toInt = 3 := by omega
  rcases hy with e | e | e | e
  · rw [if_neg (show ¬ (y.toInt < 0 ∨ 2 < y.toInt) by omega), if_pos e, if_pos e, k0]
    exact ⟨_, rfl, rfl⟩
  · rw [if_neg (show ¬ (y.toInt < 0 ∨ 2 < y.toInt) by omega), if_neg (show ¬ y.toInt = 0 by omega), if_pos e, if_neg (show ¬ y.toInt = 0 by omega), if_pos e, vl_size w1, vr_weight6 (by decide) w (by omega)]
    exact ⟨_, rfl, rfl⟩
  · rw [if_neg (show ¬ (y.toInt < 0 ∨ 2 < y.toInt) by omega), if_neg (show ¬ y.toInt = 0 by omega), if_neg (show ¬ y.toInt = 1 by omega), if_neg (show ¬ y.toInt = 0 by omega), if_neg (show ¬ y.toInt = 1 by omega), if_pos e]
    have kd : ((s.2.1 13 (120 * (1548 + j))).toInt32 &&& (15 : Int32)) = nI k := k0
    unfold f_X8_extent k_X8_extent_23 k_X13_about_92
    rw [kd, nI_1]
    have fin : (k = 2 ∨ k = 8 ∨ k = 6) → t_ix (nI (260 * j + 1)) 626600 = true ∧ ((s.2.1 13 (120 * (1548 + j))) >>> ((12 : Int32).toInt64 &&& 63)).toInt32 = (s.2.1 1006 ((nI (260 * j + 1)).toNatClampNeg)).toInt32 := by
      intro q
      obtain ⟨q1, v, q2, q3, q4⟩ := w5 q
      have e1 : ((s.2.1 13 (120 * (1548 + j))) >>> ((12 : Int32).toInt64 &&& 63)) = lN v := vr_l (by omega) (by have := vl_told (s := s) w1; rw [q3] at this; exact this)
      refine ⟨l2_ix (by omega) (by decide), ?_⟩
      rw [e1, nI_clamp (n := 260 * j + 1) (by omega), q4]
    by_cases q2 : k = 2
    · obtain ⟨f1, f2⟩ := fin (Or.inl q2)
      rw [if_pos ((vr_ke w2 2 (by decide) 2 rfl).mpr q2), if_pos ((vr_ke w2 2 (by decide) 2 rfl).mpr q2), if_pos f1, f2]
      exact ⟨_, rfl, rfl⟩
    rw [if_neg (fun u => q2 ((vr_ke w2 2 (by decide) 2 rfl).mp u)), if_neg (fun u => q2 ((vr_ke w2 2 (by decide) 2 rfl).mp u))]
    by_cases q8 : k = 8
    · obtain ⟨f1, f2⟩ := fin (Or.inr (Or.inl q8))
      rw [if_pos ((vr_ke w2 8 (by decide) 8 rfl).mpr q8), if_pos ((vr_ke w2 8 (by decide) 8 rfl).mpr q8), if_pos f1, f2]
      exact ⟨_, rfl, rfl⟩
    rw [if_neg (fun u => q8 ((vr_ke w2 8 (by decide) 8 rfl).mp u)), if_neg (fun u => q8 ((vr_ke w2 8 (by decide) 8 rfl).mp u))]
    by_cases q6 : k = 6
    · obtain ⟨f1, f2⟩ := fin (Or.inr (Or.inr q6))
      rw [if_pos ((vr_ke w2 6 (by decide) 6 rfl).mpr q6), if_pos ((vr_ke w2 6 (by decide) 6 rfl).mpr q6), if_pos f1, f2]
      exact ⟨_, rfl, rfl⟩
    rw [if_neg (fun u => q6 ((vr_ke w2 6 (by decide) 6 rfl).mp u)), if_neg (fun u => q6 ((vr_ke w2 6 (by decide) 6 rfl).mp u))]
    exact ⟨_, rfl, rfl⟩
  · rw [if_pos (show (y.toInt < 0 ∨ 2 < y.toInt) by omega), if_neg (show ¬ y.toInt = 0 by omega), if_neg (show ¬ y.toInt = 1 by omega), if_neg (show ¬ y.toInt = 2 by omega)]
    unfold f_X8_plain k_X8_plain_21 k_X13_about_123 k_X13_about_128
    rw [k0, kp_clamp, nI_1]
    have fin : (k = 0 ∨ k = 1 ∨ k = 5) → t_ix (nI (260 * j + 1)) 626600 = true ∧ f_X8_told (s.2.1 13 (120 * (1548 + j))) s = s.2.1 1006 ((nI (260 * j + 1)).toNatClampNeg) := by
      intro q
      obtain ⟨q1, q2⟩ := w4 q
      refine ⟨l2_ix (by omega) (by decide), ?_⟩
      rw [nI_clamp (n := 260 * j + 1) (by omega)]
      exact Int64.toInt_inj.mp ((vl_told w1).trans q2.symm)
    have go : ∀ w : Int64, ∃ r, some (if lg_cmp w (2147483647 : Int64) ≤ (0 : Int32) then (if (0 : Int32) ≤ lg_cmp w (-2147483648 : Int64) then w.toInt32 else (-2147483648 : Int64).toInt32) else (2147483647 : Int64).toInt32) = some r ∧ (if lg_cmp w (2147483647 : Int64) ≤ (0 : Int32) then (if (0 : Int32) ≤ lg_cmp w (-2147483648 : Int64) then some w.toInt32 else some (-2147483648 : Int64).toInt32) else some (2147483647 : Int64).toInt32) = some r := by
      intro w
      refine ⟨_, rfl, ?_⟩
      split
      · split <;> rfl
      · rfl
    by_cases q0 : k = 0
    · obtain ⟨f1, f2⟩ := fin (Or.inl q0)
      rw [if_pos ((vr_ke w2 0 (by decide) 0 rfl).mpr q0), if_pos ((vr_ke w2 0 (by decide) 0 rfl).mpr q0), if_neg (show ¬ (1 : Int32) = 0 by decide), if_pos f1, f2]
      exact go _
    rw [if_neg (fun u => q0 ((vr_ke w2 0 (by decide) 0 rfl).mp u)), if_neg (fun u => q0 ((vr_ke w2 0 (by decide) 0 rfl).mp u))]
    by_cases q1 : k = 1
    · obtain ⟨f1, f2⟩ := fin (Or.inr (Or.inl q1))
      rw [if_pos ((vr_ke w2 1 (by decide) 1 rfl).mpr q1), if_pos ((vr_ke w2 1 (by decide) 1 rfl).mpr q1), if_neg (show ¬ (1 : Int32) = 0 by decide), if_pos f1, f2]
      exact go _
    rw [if_neg (fun u => q1 ((vr_ke w2 1 (by decide) 1 rfl).mp u)), if_neg (fun u => q1 ((vr_ke w2 1 (by decide) 1 rfl).mp u))]
    by_cases q5 : k = 5
    · obtain ⟨f1, f2⟩ := fin (Or.inr (Or.inr q5))
      rw [if_pos ((vr_ke w2 5 (by decide) 5 rfl).mpr q5), if_pos ((vr_ke w2 5 (by decide) 5 rfl).mpr q5), if_neg (show ¬ (1 : Int32) = 0 by decide), if_pos f1, f2]
      exact go _
    rw [if_neg (fun u => q5 ((vr_ke w2 5 (by decide) 5 rfl).mp u)), if_neg (fun u => q5 ((vr_ke w2 5 (by decide) 5 rfl).mp u)), if_pos rfl]
    exact ⟨_, rfl, rfl⟩
/-- the class's word number and the reference's name number of one word -/
def kp_wd (t x : Int) : Prop := t = x + 66
theorem kp_wd1 (t x y : Int) (h : kp_wd t x) (g : kp_wd t y) : x = y := by
  unfold kp_wd at h g
  omega
theorem kp_wd2 (t u x : Int) (h : kp_wd t x) (g : kp_wd u x) : t = u := by
  unfold kp_wd at h g
  omega
theorem kp_alike {wd : Int → Int → Prop} {s : t_S} {K : Nat} (W1 : ∀ t x y, wd t x → wd t y → x = y) (W2 : ∀ t u x, wd t x → wd u x → t = u) (h : kp_R wd s s K) (x y : Int32) : ∃ r, f_X12_alike x y s = some r ∧ f_X13_alike x y s = some r := by
  obtain ⟨h1, h2, h3, h4⟩ := h
  unfold f_X12_alike f_X13_alike k_X13_alike_16
  rcases kp_is h1 h2 h3 x with ⟨a, b⟩ | ⟨a, b, j, hj, rfl⟩
  · rw [a, b, if_pos rfl, if_neg (by decide)]
    exact ⟨_, rfl, rfl⟩
  rw [a, b, if_neg (by decide), if_pos rfl]
  rcases kp_is h1 h2 h3 y with ⟨a2, b2⟩ | ⟨a2, b2, l, hl, rfl⟩
  · rw [a2, b2, if_pos rfl, if_neg (by decide)]
    exact ⟨_, rfl, rfl⟩
  rw [a2, b2, if_neg (by decide), if_pos rfl, kp_rat, kp_rat, kp_at, kp_at]
  obtain ⟨n, m, w, g⟩ := h4 j hj
  obtain ⟨n', m', w', g'⟩ := h4 l hl
  obtain ⟨t, k, w1, w2, w3, w4, w5⟩ := w.head
  have hp := w.pos
  have hm := w.m2
  have hp' := w'.pos
  have hm' := w'.m2
  have l13 := vl_l13
  rw [vl_rows l13.1 l13.1 (by omega) (by omega) (by omega) (by omega) hp.1 w1]
  obtain ⟨v, e, v1, v2⟩ := vr_isAlike (by decide) (by decide) w w' (by omega) (by omega)
  rw [e]
  show ∃ r, (if (if ∀ d, d < n → s.2.1 13 (120 * (1548 + j) + d) = s.2.1 13 (120 * (1548 + l) + d) then (1 : Int32) else 0) = 0 then some (0 : Int32) else some 1) = some r ∧ (if v = 0 then some (0 : Int32) else some 1) = some r
  have iff : (∀ d, d < n → s.2.1 13 (120 * (1548 + j) + d) = s.2.1 13 (120 * (1548 + l) + d)) ↔ v = 1 := by
    rw [v2]
    constructor
    · intro q
      obtain ⟨q1, q2, q3⟩ := VR.sameR W1 _ _ _ _ _ _ _ _ _ _ w w' (fun d hd => (q d hd).symm)
      exact ⟨q2, q3⟩
    · rintro ⟨q1, q2⟩
      obtain ⟨q3, q4, q5⟩ := VR.sameC W2 _ _ _ _ _ _ _ _ _ _ w w' q2
      exact fun d hd => (q5 d hd).symm
  rcases v1 with rfl | rfl
  · rw [if_neg (fun q => absurd (iff.mp q) (by decide))]
    exact ⟨_, rfl, rfl⟩
  · rw [if_pos (iff.mpr rfl)]
    exact ⟨_, rfl, rfl⟩
/-- one more kept on both sides -/
theorem kp_push {wd : Int → Int → Prop} {c r c1 r1 : t_S} {K a f i p n m : Nat} (h : kp_R wd c r K) (hK : K < 40) (hv : VR wd (c.2.1 a) (r.2.1 1006) f i p n m) (hc : vl_P c c1 a i n (1548 + K)) (hr : vr_P r r1 1006 p (260 * K) m) : kp_R wd (t_setI c1 12 2 (nI (K + 1))) (t_setI r1 950 96 (nI (K + 1))) (K + 1) := by
  obtain ⟨h1, h2, h3, h4⟩ := h
  obtain ⟨c2, c3, c4, c5, c6⟩ := hc
  obtain ⟨r2, r3, r4⟩ := hr
  refine ⟨by rw [l2_sI, l2_upif, if_pos rfl], by rw [l2_sI, l2_upif, if_pos rfl], by omega, fun v hv2 => ?_⟩
  have e14 : (t_setI c1 12 2 (nI (K + 1))).1 14 = c1.1 14 := l2_sO (by decide)
  rw [e14]
  show ∃ n m, VR wd (c1.2.1 13) (r1.2.1 1006) 120 (120 * (1548 + v)) (260 * v) n m ∧ c1.1 14 (1548 + v) = nI n
  by_cases e : v = K
  · subst e
    have q := hv.pos
    exact ⟨n, m, VR.dep _ _ _ _ _ (VR.copy _ _ _ _ _ _ _ hv (fun d hd => c2 d hd) (fun d hd => r2 d hd)) 120 (by omega), c4⟩
  · obtain ⟨n2, m2, w, g⟩ := h4 v (by omega)
    have q := w.pos
    have q2 := w.m2
    have q3 := hv.pos
    have q4 := hv.m2
    exact ⟨n2, m2, VR.copy _ _ _ _ _ _ _ w (fun d hd => c3 _ (by omega)) (fun d hd => r3 _ (by omega)), (c5 _ (by omega)).trans g⟩
