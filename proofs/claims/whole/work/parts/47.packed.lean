/-! Level 2: words as numbers; the wb_ rows are the given ones, pasted. -/
theorem wb_tb (n : Nat) : (lN n).toBitVec = BitVec.ofNat 64 n := rfl
theorem wb_inj {a b : Int64} (h : a.toBitVec = b.toBitVec) : a = b := Int64.toBitVec_inj.mp h
theorem wb_c : ∀ k, k < 64 → ((nI k).toInt64 &&& 63) = lN k := by decide +kernel
theorem wb_sm : ∀ k, k < 64 → (BitVec.ofNat 64 k).smod 64 = BitVec.ofNat 64 k := by decide +kernel
theorem wb_shl (n : Nat) {k : Nat} (hk : k < 64) : lN n <<< ((nI k).toInt64 &&& 63) = lN (n * 2 ^ k) := by
  rw [wb_c k hk]
  apply wb_inj
  rw [Int64.toBitVec_shiftLeft, wb_tb, wb_tb, wb_tb, wb_sm k hk]
  apply BitVec.eq_of_toNat_eq
  rw [BitVec.shiftLeft_eq', BitVec.toNat_shiftLeft, BitVec.toNat_ofNat, BitVec.toNat_ofNat, BitVec.toNat_ofNat, Nat.mod_eq_of_lt (show k < 2 ^ 64 by omega), Nat.shiftLeft_eq, Nat.mul_mod, Nat.mod_mod, ← Nat.mul_mod]
theorem wb_or {a b : Nat} (ha : a < 2 ^ 64) (hb : b < 2 ^ 64) : lN a ||| lN b = lN (a ||| b) := by
  apply wb_inj
  rw [Int64.toBitVec_or, wb_tb, wb_tb, wb_tb]
  apply BitVec.eq_of_toNat_eq
  rw [BitVec.toNat_or, BitVec.toNat_ofNat, BitVec.toNat_ofNat, BitVec.toNat_ofNat, Nat.mod_eq_of_lt ha, Nat.mod_eq_of_lt hb, Nat.mod_eq_of_lt (Nat.or_lt_two_pow ha hb)]
/-- the number that a row of bytes tells, the first the highest -/
def wk_v (B : Nat → Nat) (p : Nat) : Nat → Nat
  | 0 => 0
  | n + 1 => wk_v B p n * 256 + B (p + n)
theorem wk_lt {B : Nat → Nat} {p : Nat} : ∀ n, (∀ i, i < n → B (p + i) < 256) → wk_v B p n < 256 ^ n
  | 0, _ => by show (0 : Nat) < 1; decide
  | n + 1, h => by
    have a := wk_lt n (fun i hi => h i (by omega))
    have b := h n (by omega)
    show wk_v B p n * 256 + B (p + n) < 256 ^ (n + 1)
    rw [Nat.pow_succ]
    omega
theorem wk_ge {B : Nat → Nat} {p : Nat} : ∀ n, (∀ i, i < n → 0 < B (p + i)) → 0 < n → 256 ^ (n - 1) ≤ wk_v B p n
  | 0, _, h => by omega
  | n + 1, h, _ => by
    show 256 ^ n ≤ wk_v B p n * 256 + B (p + n)
    cases n with
    | zero =>
      have := h 0 (by omega)
      show 1 ≤ _
      omega
    | succ n =>
      have a := wk_ge (B := B) (p := p) (n + 1) (fun i hi => h i (by omega)) (by omega)
      rw [Nat.add_sub_cancel] at a
      rw [Nat.pow_succ]
      omega
/-- rows of bytes that are not 0 are told by their number -/
theorem wk_inj {B C : Nat → Nat} {p q : Nat} : ∀ n m, (∀ i, i < n → 0 < B (p + i) ∧ B (p + i) < 256) → (∀ i, i < m → 0 < C (q + i) ∧ C (q + i) < 256) → wk_v B p n = wk_v C q m → n = m ∧ ∀ i, i < n → B (p + i) = C (q + i)
  | 0, 0, _, _, _ => ⟨rfl, fun i h => by omega⟩
  | 0, m + 1, _, hC, e => by
    have a := hC m (by omega)
    have e : 0 = wk_v C q m * 256 + C (q + m) := e
    omega
  | n + 1, 0, hB, _, e => by
    have a := hB n (by omega)
    have e : wk_v B p n * 256 + B (p + n) = 0 := e
    omega
  | n + 1, m + 1, hB, hC, e => by
    have a := hB n (by omega)
    have b := hC m (by omega)
    have e : wk_v B p n * 256 + B (p + n) = wk_v C q m * 256 + C (q + m) := e
    have e1 : B (p + n) = C (q + m) := by omega
    have e2 : wk_v B p n = wk_v C q m := by omega
    obtain ⟨c, d⟩ := wk_inj n m (fun i hi => hB i (by omega)) (fun i hi => hC i (by omega)) e2
    refine ⟨by omega, fun i hi => ?_⟩
    by_cases z : i = n
    · rw [z, e1, c]
    · exact d i (by omega)
theorem wk_packed {s : t_S} {B : Nat → Nat} {L a b : Nat} (hT : tx_Tc s B L) (hb : b ≤ L) (ha : a < 2 ^ 30) (hab : b - a ≤ 8) : f_X2_packed (nI a) (nI b) s = some (lN (wk_v B a (b - a))) := by
  have hL := hT.1
  apply l2_val
  unfold f_X2_packed
  refine l2_lp (fun k y => ∃ n, n + k = b - a ∧ y = (nI b, lN (wk_v B a n), nI (a + n))) ?_ (m := b - a) (Nat.lt_trans (show b - a < 1000000000 by omega) l2_N) ⟨0, by omega, rfl⟩
  rintro k y ⟨n, hk, rfl⟩
  show t_hk (k_X2_packed_5 (nI b) (lN (wk_v B a n)) (nI (a + n)) s) _
  unfold k_X2_packed_5
  refine l2_if (fun c => ?_) (fun c => ?_)
  · have c := (nI_leI (by omega) (by omega)).mp c
    exact l2_mp (l2_sm (show lN (wk_v B a n) = lN (wk_v B a (b - a)) by rw [show n = b - a by omega]))
  have c : ¬ b ≤ a + n := fun z => c ((nI_leI (by omega) (by omega)).mpr z)
  refine l2_ck (l2_ix (by omega) (by decide)) ?_
  obtain ⟨b1, b2⟩ := hT.2.2 (a + n) (by omega)
  have hlt := wk_lt (B := B) (p := a) n (fun i hi => (hT.2.2 (a + i) (by omega)).1)
  have h7 : 256 ^ n ≤ 256 ^ 7 := Nat.pow_le_pow_right (by decide) (by omega)
  have h78 : (256 : Nat) ^ 7 = 2 ^ 56 := by decide
  rw [nI_clamp (by omega), b2, tx_255 b1, nI_l (by omega), show (8 : Int32) = nI 8 from rfl, wb_shl _ (by decide), wb_or (by omega) (by omega), nI_1]
  refine l2_sm ⟨k - 1, by omega, n + 1, by omega, ?_⟩
  have e : wk_v B a n * 2 ^ 8 ||| B (a + n) = wk_v B a (n + 1) := by
    rw [Nat.mul_comm, ← Nat.two_pow_add_eq_or_of_lt (i := 8) b1]
    show _ = wk_v B a n * 256 + B (a + n)
    omega
  rw [e]
  rfl
/-- a word's head and tail -/
def wk_h (B : Nat → Nat) (p n : Nat) : Int64 := lN (wk_v B p (min n 8))
def wk_t (B : Nat → Nat) (p n : Nat) : Int32 := nI (wk_v B (p + 8) (n - 8))
theorem wk_same {B C : Nat → Nat} {p q n m : Nat} (hn : n ≤ 12) (hm : m ≤ 12) (hB : ∀ i, i < n → 0 < B (p + i) ∧ B (p + i) < 256) (hC : ∀ i, i < m → 0 < C (q + i) ∧ C (q + i) < 256) : (wk_h B p n = wk_h C q m ∧ wk_t B p n = wk_t C q m) ↔ (n = m ∧ ∀ i, i < n → B (p + i) = C (q + i)) := by
  have p8 : (256 : Nat) ^ 8 = 2 ^ 64 := by decide
  have p4 : (256 : Nat) ^ 4 = 2 ^ 32 := by decide
  have lt8 : ∀ (D : Nat → Nat) (o k : Nat), (∀ i, i < k → D (o + i) < 256) → wk_v D o (min k 8) < 2 ^ 64 := by
    intro D o k h
    have a := wk_lt (B := D) (p := o) (min k 8) (fun i hi => h i (by omega))
    have b : 256 ^ min k 8 ≤ 256 ^ 8 := Nat.pow_le_pow_right (by decide) (by omega)
    omega
  have lt4 : ∀ (D : Nat → Nat) (o k : Nat), k ≤ 12 → (∀ i, i < k → D (o + i) < 256) → wk_v D (o + 8) (k - 8) < 2 ^ 32 := by
    intro D o k hk h
    have a := wk_lt (B := D) (p := o + 8) (k - 8) (fun i hi => by
      have := h (8 + i) (by omega)
      rw [← Nat.add_assoc] at this
      exact this)
    have b : 256 ^ (k - 8) ≤ 256 ^ 4 := Nat.pow_le_pow_right (by decide) (by omega)
    omega
  constructor
  · rintro ⟨e1, e2⟩
    have f1 : wk_v B p (min n 8) = wk_v C q (min m 8) := by
      have a := lt8 B p n (fun i hi => (hB i hi).2)
      have b := lt8 C q m (fun i hi => (hC i hi).2)
      have c := congrArg (fun x : Int64 => x.toBitVec.toNat) e1
      have d : ∀ x : Nat, x < 2 ^ 64 → (lN x).toBitVec.toNat = x := fun x hx => by
        show (BitVec.ofNat 64 x).toNat = x
        rw [BitVec.toNat_ofNat, Nat.mod_eq_of_lt hx]
      have c : (lN (wk_v B p (min n 8))).toBitVec.toNat = (lN (wk_v C q (min m 8))).toBitVec.toNat := c
      rw [d _ a, d _ b] at c
      exact c
    have f2 : wk_v B (p + 8) (n - 8) = wk_v C (q + 8) (m - 8) := by
      have a := lt4 B p n hn (fun i hi => (hB i hi).2)
      have b := lt4 C q m hm (fun i hi => (hC i hi).2)
      have c : (nI (wk_v B (p + 8) (n - 8))).toBitVec.toNat = (nI (wk_v C (q + 8) (m - 8))).toBitVec.toNat := congrArg (fun x : Int32 => x.toBitVec.toNat) e2
      rw [pk_tn a, pk_tn b] at c
      exact c
    obtain ⟨a1, a2⟩ := wk_inj _ _ (fun i hi => hB i (by omega)) (fun i hi => hC i (by omega)) f1
    obtain ⟨b1, b2⟩ := wk_inj _ _ (fun i hi => by
      have := hB (8 + i) (by omega)
      rw [← Nat.add_assoc] at this
      exact this) (fun i hi => by
      have := hC (8 + i) (by omega)
      rw [← Nat.add_assoc] at this
      exact this) f2
    refine ⟨by omega, fun i hi => ?_⟩
    by_cases z : i < 8
    · exact a2 i (by omega)
    · have := b2 (i - 8) (by omega)
      rw [show p + 8 + (i - 8) = p + i by omega, show q + 8 + (i - 8) = q + i by omega] at this
      exact this
  · rintro ⟨rfl, h⟩
    have g : ∀ (o u k : Nat), (∀ i, i < k → B (o + i) = C (u + i)) → wk_v B o k = wk_v C u k := by
      intro o u k
      induction k with
      | zero => intro _; rfl
      | succ k ih =>
        intro hh
        show wk_v B o k * 256 + B (o + k) = wk_v C u k * 256 + C (u + k)
        rw [ih (fun i hi => hh i (by omega)), hh k (by omega)]
    unfold wk_h wk_t
    rw [g p q (min n 8) (fun i hi => h i (by omega)), g (p + 8) (q + 8) (n - 8) (fun i hi => by
      have := h (8 + i) (by omega)
      rw [← Nat.add_assoc, ← Nat.add_assoc] at this
      exact this)]
    exact ⟨rfl, rfl⟩
theorem wk_wordOf {s : t_S} {B : Nat → Nat} {L p n W : Nat} {V sl : Nat → Nat} {H : Nat → Int64} {T : Nat → Int32} (hT : tx_Tc s B L) (hn : n ≤ 12) (hp : p + n ≤ L) (h : wt_I s W V sl H T) (hW : W < 8000) : t_hk (f_X2_wordOf (nI p) (nI (p + n)) s) (fun r => (∃ i, i < W ∧ H i = wk_h B p n ∧ T i = wk_t B p n ∧ r = (nI i, s)) ∨ ((∀ i, i < W → ¬ (H i = wk_h B p n ∧ T i = wk_t B p n)) ∧ r.1 = nI W ∧ l2_fr wt_W s r.2 ∧ r.2.1 6 W = 0 ∧ r.2.1 7 W = 0 ∧ (∀ i, i < W → r.2.1 6 i = s.1 6 i ∧ r.2.1 7 i = s.1 7 i) ∧ ∃ j, wt_I r.2 (W + 1) (va_up V j (W + 1)) (va_up sl W j) (va_up H W (wk_h B p n)) (va_up T W (wk_t B p n)))) := by
  have hL := hT.1
  unfold f_X2_wordOf
  have e8 : nI p + (8 : Int32) = nI (p + 8) := by rw [show (8 : Int32) = nI 8 from rfl, nI_add]
  rw [e8, lx_min (x := p + n) (y := p + 8) (by omega) (by omega)]
  refine l2_eq (wk_packed hT (by omega) (by omega) (by omega)) ?_
  refine l2_eq (wk_packed hT hp (by omega) (by omega)) ?_
  rw [lN_i, show min (p + n) (p + 8) - p = min n 8 by omega, show p + n - (p + 8) = n - 8 by omega]
  have q := wt_find h hW (wk_h B p n) (wk_t B p n)
  unfold lx_s0 at q
  rw [pk_and _ 14 (by decide)]
  exact q
