/-! Level 2: four rows of 16 bits in a long. -/
def LB (x : Int64) (P : Nat → Prop) : Prop := ∀ e, e < 64 → (x.toBitVec.getLsbD e = true ↔ P e)
section
variable {x y : Int64} {P Q : Nat → Prop} {i : Nat}
theorem LB.iff (h : LB x P) (hq : ∀ e, P e ↔ Q e) : LB x Q := fun e he => (h e he).trans (hq e)
theorem LB.zero : LB 0 (fun _ => False) := fun e _ => ⟨fun y => by
  have : (0 : Int64).toBitVec = 0#64 := rfl
  rw [this, BitVec.getLsbD_zero] at y
  exact absurd y (by decide), fun y => y.elim⟩
theorem LB.or (h : LB x P) (g : LB y Q) : LB (x ||| y) (fun e => P e ∨ Q e) := fun e he => by
  show (x.toBitVec ||| y.toBitVec).getLsbD e = true ↔ _
  rw [BitVec.getLsbD_or, Bool.or_eq_true, h e he, g e he]
theorem lb_amt : ∀ i, i < 16 → ((16 : Int32) * (nI i - nI i / (4 : Int32) * (4 : Int32))).toInt64 &&& 63 = lN (16 * (i % 4)) := by decide +kernel
theorem lb_sh : ∀ j, j < 4 → ((lN (16 * j)).toBitVec.smod 64#64).toNat = 16 * j := by decide +kernel
theorem LB.get (h : LB x P) (hi : i < 16) : BS (((x >>> (((16 : Int32) * (nI i - nI i / (4 : Int32) * (4 : Int32))).toInt64 &&& 63)) &&& (65535 : Int64)).toInt32) 16 (fun e => e < 16 ∧ P (16 * (i % 4) + e)) := by
  rw [lb_amt i hi]
  have hj : i % 4 < 4 := Nat.mod_lt _ (by decide)
  generalize i % 4 = j at *
  have eb : ((x >>> lN (16 * j)) &&& (65535 : Int64)).toBitVec = x.toBitVec.sshiftRight (16 * j) &&& 65535#64 := by
    show x.toBitVec.sshiftRight ((lN (16 * j)).toBitVec.smod 64#64).toNat &&& 65535#64 = _
    rw [lb_sh j hj]
  have el : ((x >>> lN (16 * j)) &&& (65535 : Int64)) = lN (x.toBitVec.sshiftRight (16 * j) &&& 65535#64).toNat := by
    apply Int64.toBitVec_inj.1
    rw [eb]
    show _ = BitVec.ofNat 64 _
    rw [BitVec.ofNat_toNat, BitVec.setWidth_eq]
  have lt : (x.toBitVec.sshiftRight (16 * j) &&& 65535#64).toNat < 2 ^ 16 := by
    rw [BitVec.toNat_and]
    exact Nat.lt_of_le_of_lt Nat.and_le_right (by decide)
  refine ⟨_, by rw [el, lN_w], lt, fun e => ?_⟩
  show (x.toBitVec.sshiftRight (16 * j) &&& 65535#64).getLsbD e = true ↔ _
  rw [BitVec.getLsbD_and, Bool.and_eq_true, BitVec.getLsbD_sshiftRight]
  by_cases c : e < 16
  · have m : (65535#64).getLsbD e = true := by
      have : ∀ e, e < 16 → (65535#64).getLsbD e = true := by decide
      exact this e c
    have q := h (16 * j + e) (by omega)
    show _ ↔ e < 16 ∧ P (16 * j + e)
    rw [← q]
    simp [m, c, show ¬ 64 ≤ e by omega, show 16 * j + e < 64 by omega]
  · have m : (65535#64).getLsbD e = false := by
      show (65535 : Nat).testBit e = false
      exact Nat.testBit_lt_two_pow (Nat.lt_of_lt_of_le (show 65535 < 2 ^ 16 by decide) (Nat.pow_le_pow_right (by decide) (by omega)))
    show _ ↔ e < 16 ∧ P (16 * j + e)
    simp [m, c]
theorem nI_lo {a : Nat} (h : a < 2 ^ 31) : (nI a).toInt64 = lN a := by
  apply Int64.toInt_inj.mp
  rw [nI_lT h, pk_lT (by omega)]
theorem LB.row {x : Int32} {A : Nat → Prop} {k : Nat} (h : BS x 16 A) (hk : k < 4) : LB (x.toInt64 <<< (((16 : Int32) * nI k).toInt64 &&& 63)) (fun e => 16 * k ≤ e ∧ A (e - 16 * k)) := by
  obtain ⟨a, rfl, a2, a3⟩ := h
  intro e he
  rw [nI_lo (by omega), show (16 : Int32) = nI 16 from rfl, pk_mul, wb_shl _ (by omega)]
  show (BitVec.ofNat 64 (a * 2 ^ (16 * k))).getLsbD e = true ↔ _
  rw [BitVec.getLsbD_ofNat, Bool.and_eq_true, decide_eq_true_iff, Nat.testBit_mul_two_pow, Bool.and_eq_true, decide_eq_true_iff, a3]
  exact ⟨fun y => y.2, fun y => ⟨he, y⟩⟩
end
