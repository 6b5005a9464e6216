/-! Level 2: cells made: kind, size, what is told. -/
theorem vl_bits (x : Int64) : x = lN x.toBitVec.toNat ∧ (x.toInt = (x.toBitVec.toNat : Int) ∨ x.toInt = (x.toBitVec.toNat : Int) - 2 ^ 64) ∧ x.toBitVec.toNat < 2 ^ 64 ∧ (x.toInt < 0 ↔ 2 ^ 63 ≤ x.toBitVec.toNat) := by
  have e1 : x.toInt = (x.toBitVec.toNat : Int) - (if 2 * x.toBitVec.toNat < 2 ^ 64 then 0 else 2 ^ 64) := by
    show x.toBitVec.toInt = _
    rw [BitVec.toInt_eq_toNat_cond]
    split <;> simp
  have lt : x.toBitVec.toNat < 2 ^ 64 := x.toBitVec.isLt
  refine ⟨?_, ?_, lt, ?_⟩
  · apply Int64.toBitVec_inj.1
    show x.toBitVec = BitVec.ofNat 64 x.toBitVec.toNat
    rw [BitVec.ofNat_toNat, BitVec.setWidth_eq]
  · split at e1
    · left; omega
    · right; omega
  · split at e1 <;> omega
theorem lN_mod (a : Nat) : lN (a % 2 ^ 64) = lN a := by
  apply Int64.toBitVec_inj.1
  show BitVec.ofNat 64 (a % 2 ^ 64) = BitVec.ofNat 64 a
  apply BitVec.eq_of_toNat_eq
  rw [BitVec.toNat_ofNat, BitVec.toNat_ofNat, Nat.mod_mod]
theorem lN_neg {m : Nat} (h1 : 2 ^ 63 ≤ m) (h2 : m < 2 ^ 64) : (lN m).toInt = (m : Int) - 2 ^ 64 := by
  have e : (lN m).toBitVec.toNat = m := by
    show (BitVec.ofNat 64 m).toNat = m
    rw [BitVec.toNat_ofNat, Nat.mod_eq_of_lt h2]
  have q := (vl_bits (lN m)).2.1
  have q2 := (vl_bits (lN m)).2.2.2
  rw [e] at q q2
  have := q2.mpr h1
  omega
theorem vl_mk {t : Int} {x : Int64} {n k : Nat} (hx : x.toInt = t) (ht : -(2 ^ 50) ≤ t ∧ t ≤ 2 ^ 50) (hn : n < 256) (hk : k < 16) : vl_c t n k (((x <<< ((12 : Int32).toInt64 &&& 63)) ||| lN (n * 2 ^ 4)) ||| lN k) := by
  obtain ⟨b1, b2, b3, b4⟩ := vl_bits x
  generalize x.toBitVec.toNat = X at *
  obtain ⟨q, hq⟩ : ∃ q : Nat, X * 2 ^ 12 % 2 ^ 64 = 4096 * q ∧ 4096 * q < 2 ^ 64 ∧ ((4096 * q : Int) = 4096 * t ∨ (4096 * q : Int) = 4096 * t + 2 ^ 64) ∧ (t < 0 ↔ 2 ^ 63 ≤ 4096 * q) := by
    refine ⟨X % 2 ^ 52, by omega, by omega, ?_, ?_⟩ <;> omega
  rw [b1, show ((12 : Int32).toInt64 &&& 63) = ((nI 12).toInt64 &&& 63) from rfl, wb_shl X (by decide), ← lN_mod, hq.1]
  have e1 : 4096 * q ||| n * 2 ^ 4 = 4096 * q + n * 16 := by
    rw [show (4096 : Nat) = 2 ^ 12 from rfl, ← Nat.two_pow_add_eq_or_of_lt (by omega)]
  rw [wb_or hq.2.1 (by omega), e1]
  have e2 : 4096 * q + n * 16 ||| k = 4096 * q + n * 16 + k := by
    have := Nat.two_pow_add_eq_or_of_lt (i := 4) (b := k) (by omega) (256 * q + n)
    rw [show 4096 * q + n * 16 = 2 ^ 4 * (256 * q + n) by omega]
    exact this.symm
  have h64 : 4096 * q + n * 16 < 2 ^ 64 := by omega
  rw [wb_or h64 (by omega), e2]
  refine ⟨?_, hn, hk⟩
  by_cases c : t < 0
  · rw [lN_neg (by have := hq.2.2.2.mp c; omega) (by omega)]
    omega
  · rw [pk_lT (by have : ¬ 2 ^ 63 ≤ 4096 * q := fun y => c (hq.2.2.2.mpr y); omega)]
    omega
theorem vl_plain {t : Int} {x : Int64} {k : Nat} (hx : x.toInt = t) (ht : -(2 ^ 50) ≤ t ∧ t ≤ 2 ^ 50) (hk : k < 16) {s : t_S} {y : Int32} (hy : y = nI k) : vl_c t 1 k (f_X8_plainCell y x s) := by
  unfold f_X8_plainCell
  rw [hy, nI_l (by omega)]
  exact vl_mk hx ht (by decide) hk
theorem vl_cell {t : Int} {x : Int64} {n k : Nat} (hx : x.toInt = t) (ht : -(2 ^ 50) ≤ t ∧ t ≤ 2 ^ 50) (hn : n < 256) (hk : k < 16) {s : t_S} {y z : Int32} (hy : y = nI k) (hz : z = nI n) : vl_c t n k (f_X8_cell y z x s) := by
  unfold f_X8_cell
  rw [hy, hz, nI_l (by omega), nI_l (by omega), show ((4 : Int32).toInt64 &&& 63) = ((nI 4).toInt64 &&& 63) from rfl, wb_shl n (by decide)]
  exact vl_mk hx ht hn hk
theorem nI_lT {n : Nat} (h : n < 2 ^ 31) : (nI n).toInt64.toInt = n := by rw [nI_l h, pk_lT (by omega)]
theorem tr_cell {b : Int32} {s : t_S} : vl_c (if b = 0 then 0 else 1) 1 1 (f_X0_truth b s) := by
  unfold f_X0_truth k_X0_truth_10
  by_cases z : b = 0
  · rw [if_pos z, if_pos z]
    exact vl_plain rfl (by decide) (by decide) rfl
  · rw [if_neg z, if_neg z]
    exact vl_plain rfl (by decide) (by decide) rfl
