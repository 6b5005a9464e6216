/-! Level 2: sets below 31 as bits of an int. -/
def BS (x : Int32) (n : Nat) (P : Nat → Prop) : Prop := ∃ a : Nat, x = nI a ∧ a < 2 ^ n ∧ ∀ e, a.testBit e = true ↔ P e
section
variable {x y : Int32} {n m e k : Nat} {P Q : Nat → Prop}
theorem p31 (h : n ≤ 31) {a : Nat} (ha : a < 2 ^ n) : a < 2 ^ 31 := Nat.lt_of_lt_of_le ha (Nat.pow_le_pow_right (by decide) h)
theorem BS.iff (h : BS x n P) (hq : ∀ e, P e ↔ Q e) : BS x n Q := by
  obtain ⟨a, a1, a2, a3⟩ := h
  exact ⟨a, a1, a2, fun e => (a3 e).trans (hq e)⟩
theorem BS.up (h : BS x n P) (hn : n ≤ m) : BS x m P := by
  obtain ⟨a, a1, a2, a3⟩ := h
  exact ⟨a, a1, Nat.lt_of_lt_of_le a2 (Nat.pow_le_pow_right (by decide) hn), a3⟩
theorem BS.lt (h : BS x n P) (hp : P e) : e < n := by
  obtain ⟨a, a1, a2, a3⟩ := h
  have t := (a3 e).mpr hp
  refine Classical.byContradiction (fun y => ?_)
  have := Nat.testBit_lt_two_pow (Nat.lt_of_lt_of_le a2 (Nat.pow_le_pow_right (by decide) (Nat.le_of_not_lt y)))
  rw [this] at t
  exact absurd t (by decide)
theorem BS.zero : BS 0 n (fun _ => False) := ⟨0, rfl, Nat.two_pow_pos n, fun e => by rw [Nat.zero_testBit]; exact ⟨fun y => absurd y (by decide), fun y => y.elim⟩⟩
theorem BS.z (h : BS x n P) (hn : n ≤ 31) : x = 0 ↔ ∀ e, ¬ P e := by
  obtain ⟨a, a1, a2, a3⟩ := h
  have a31 := p31 hn a2
  constructor
  · intro h0 e pe
    rw [a1] at h0
    have : a = 0 := (nI_eq (b := 0) a31 (by decide)).mp h0
    have t := (a3 e).mpr pe
    rw [this, Nat.zero_testBit] at t
    exact absurd t (by decide)
  · intro hh
    have : a = 0 := by
      refine Nat.eq_of_testBit_eq (fun i => ?_)
      rw [Nat.zero_testBit]
      cases t : a.testBit i with
      | false => rfl
      | true => exact absurd ((a3 i).mp t) (hh i)
    rw [a1, this]
    rfl
theorem BS.test (h : BS x n P) (hn : n ≤ 31) (he : e < 31) : ((x >>> (nI e &&& 31)) &&& (1 : Int32) = 1 ↔ P e) ∧ ((x >>> (nI e &&& 31)) &&& (1 : Int32) = 0 ↔ ¬ P e) := by
  obtain ⟨a, a1, a2, a3⟩ := h
  rw [a1, l2_bit (p31 hn a2) he]
  have := a3 e
  rw [Nat.testBit_eq_decide_div_mod_eq, decide_eq_true_iff] at this
  have lt : a / 2 ^ e % 2 < 2 := Nat.mod_lt _ (by decide)
  have q1 : nI (a / 2 ^ e % 2) = (1 : Int32) ↔ a / 2 ^ e % 2 = 1 := nI_eq (b := 1) (by omega) (by decide)
  have q0 : nI (a / 2 ^ e % 2) = (0 : Int32) ↔ a / 2 ^ e % 2 = 0 := nI_eq (b := 0) (by omega) (by decide)
  rw [q1, q0, ← this]
  exact ⟨Iff.rfl, by omega⟩
theorem BS.and (h : BS x n P) (g : BS y m Q) : BS (x &&& y) n (fun e => P e ∧ Q e) := by
  obtain ⟨a, a1, a2, a3⟩ := h
  obtain ⟨b, b1, b2, b3⟩ := g
  refine ⟨a &&& b, by rw [a1, b1, fa_and], Nat.lt_of_le_of_lt Nat.and_le_left a2, fun e => ?_⟩
  rw [Nat.testBit_and, Bool.and_eq_true, a3, b3]
theorem BS.or (h : BS x n P) (g : BS y n Q) : BS (x ||| y) n (fun e => P e ∨ Q e) := by
  obtain ⟨a, a1, a2, a3⟩ := h
  obtain ⟨b, b1, b2, b3⟩ := g
  refine ⟨a ||| b, by rw [a1, b1, fa_or], Nat.or_lt_two_pow a2 b2, fun e => ?_⟩
  rw [Nat.testBit_or, Bool.or_eq_true, a3, b3]
theorem BS.bit (he : e < n) (hn : n ≤ 31) : BS ((1 : Int32) <<< (nI e &&& 31)) n (fun x => x = e) := by
  refine ⟨2 ^ e, l2_shl1 (by omega), Nat.pow_lt_pow_right (by decide) he, fun x => ?_⟩
  rw [Nat.testBit_two_pow, decide_eq_true_iff]
  exact eq_comm
theorem BS.bit2 (he : e + 1 < n) (hn : n ≤ 31) : BS ((2 : Int32) <<< (nI e &&& 31)) n (fun x => x = e + 1) := by
  have q : (2 : Int32) <<< (nI e &&& 31) = nI (2 ^ (e + 1)) := by
    have q := pk_shlN (n := 2) (nI e &&& 31) e (s_l e (by omega)) (by
      have : 2 ^ (e + 1) < 2 ^ 32 := Nat.pow_lt_pow_right (by decide) (by omega)
      rw [Nat.pow_succ] at this
      omega)
    rw [show (2 : Int32) = nI 2 from rfl, q, Nat.pow_succ, Nat.mul_comm]
  refine ⟨2 ^ (e + 1), q, Nat.pow_lt_pow_right (by decide) he, fun x => ?_⟩
  rw [Nat.testBit_two_pow, decide_eq_true_iff]
  exact eq_comm
theorem BS.off (h : BS x n P) (hn : n ≤ 31) (he : e < 31) : BS (x &&& (((1 : Int32) <<< (nI e &&& 31)) ^^^ (-1 : Int32))) n (fun x => P x ∧ x ≠ e) := by
  have xl : ∀ x, P x → x < 32 := fun x hx => by have := h.lt hx; omega
  obtain ⟨a, a1, a2, a3⟩ := h
  have q : ((1 : Int32) <<< (nI e &&& 31)) ^^^ (-1 : Int32) = nI (2 ^ 32 - 1 - 2 ^ e) := by
    rw [l2_shl1 he]
    apply Int32.toBitVec_inj.1
    show BitVec.ofNat 32 (2 ^ e) ^^^ BitVec.allOnes 32 = BitVec.ofNat 32 (2 ^ 32 - 1 - 2 ^ e)
    rw [BitVec.xor_allOnes]
    apply BitVec.eq_of_toNat_eq
    have : 2 ^ e < 2 ^ 32 := Nat.pow_lt_pow_right (by decide) (by omega)
    rw [BitVec.toNat_not, BitVec.toNat_ofNat, BitVec.toNat_ofNat, Nat.mod_eq_of_lt this, Nat.mod_eq_of_lt (Nat.lt_of_le_of_lt (Nat.sub_le _ _) (by decide))]
  refine ⟨a &&& (2 ^ 32 - 1 - 2 ^ e), by rw [a1, q, fa_and], Nat.lt_of_le_of_lt Nat.and_le_left a2, fun x => ?_⟩
  rw [Nat.testBit_and, Bool.and_eq_true, a3]
  have lt : 2 ^ e < 2 ^ 32 := Nat.pow_lt_pow_right (by decide) (by omega)
  have := Nat.testBit_two_pow_sub_succ (x := 2 ^ e) (n := 32) lt x
  rw [show 2 ^ 32 - 1 - 2 ^ e = 2 ^ 32 - (2 ^ e + 1) by omega, this, Nat.testBit_two_pow]
  constructor
  · intro ⟨p, q⟩
    refine ⟨p, fun y => ?_⟩
    rw [Bool.and_eq_true, y] at q
    simp at q
  · intro ⟨p, q⟩
    refine ⟨p, ?_⟩
    have h32 := xl x p
    have ne : ¬ e = x := fun y => q y.symm
    simp [h32, ne]
end
