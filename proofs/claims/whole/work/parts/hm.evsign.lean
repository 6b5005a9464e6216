/-! Level 2: exps worked out: the signs of a TEXT. -/
theorem nI_and127 (M : Nat) : nI M &&& (127 : Int32) = nI (M % 128) := by
  apply Int32.toBitVec_inj.mp
  show BitVec.ofNat 32 M &&& (127 : Int32).toBitVec = BitVec.ofNat 32 (M % 128)
  apply BitVec.eq_of_toNat_eq
  rw [BitVec.toNat_and, BitVec.toNat_ofNat, BitVec.toNat_ofNat, show (127 : Int32).toBitVec.toNat = 2 ^ 7 - 1 from rfl, Nat.and_two_pow_sub_one_eq_mod]
  omega
theorem lN_and255 (M : Nat) : lN M &&& (255 : Int64) = lN (M % 256) := by
  apply Int64.toBitVec_inj.mp
  show BitVec.ofNat 64 M &&& (255 : Int64).toBitVec = BitVec.ofNat 64 (M % 256)
  apply BitVec.eq_of_toNat_eq
  rw [BitVec.toNat_and, BitVec.toNat_ofNat, BitVec.toNat_ofNat, show (255 : Int64).toBitVec.toNat = 2 ^ 8 - 1 from rfl, Nat.and_two_pow_sub_one_eq_mod]
  omega
theorem lN_shr {N k : Nat} (hN : N < 2 ^ 63) (hk : k < 64) : lN N >>> ((nI k).toInt64 &&& 63) = lN (N / 2 ^ k) := by
  rw [wb_c k hk]
  apply Int64.toInt_inj.mp
  show ((lN N).toBitVec.sshiftRight ((lN k).toBitVec.smod 64).toNat).toInt = _
  rw [wb_tb k, wb_sm k hk, BitVec.toNat_ofNat, Nat.mod_eq_of_lt (show k < 2 ^ 64 by omega), BitVec.toInt_sshiftRight, Int.shiftRight_eq_div_pow, pk_lT (Nat.lt_of_le_of_lt (Nat.div_le_self _ _) hN)]
  show (lN N).toInt / _ = _
  rw [pk_lT hN]
  norm_cast
theorem x8_get {S : Nat → Nat} (h : ∀ e, e < 8 → S e < 128) : ∀ e, e < 8 → (16 * x8 S + 10) / 2 ^ (4 + 7 * e) % 128 = S e := by
  unfold x8
  have a0 := h 0 (by decide)
  have a1 := h 1 (by decide)
  have a2 := h 2 (by decide)
  have a3 := h 3 (by decide)
  have a4 := h 4 (by decide)
  have a5 := h 5 (by decide)
  have a6 := h 6 (by decide)
  have a7 := h 7 (by decide)
  intro e he
  have ce : e = 0 ∨ e = 1 ∨ e = 2 ∨ e = 3 ∨ e = 4 ∨ e = 5 ∨ e = 6 ∨ e = 7 := by omega
  rcases ce with rfl | rfl | rfl | rfl | rfl | rfl | rfl | rfl <;> simp only [Nat.reducePow, Nat.reduceMul, Nat.reduceAdd] <;> omega
theorem y8_get {S : Nat → Nat} (h : ∀ e, e < 8 → S e < 128) : ∀ e, e < 8 → y8 S / 2 ^ (8 * e) % 256 = S e := by
  unfold y8
  have a0 := h 0 (by decide)
  have a1 := h 1 (by decide)
  have a2 := h 2 (by decide)
  have a3 := h 3 (by decide)
  have a4 := h 4 (by decide)
  have a5 := h 5 (by decide)
  have a6 := h 6 (by decide)
  have a7 := h 7 (by decide)
  intro e he
  have ce : e = 0 ∨ e = 1 ∨ e = 2 ∨ e = 3 ∨ e = 4 ∨ e = 5 ∨ e = 6 ∨ e = 7 := by omega
  rcases ce with rfl | rfl | rfl | rfl | rfl | rfl | rfl | rfl <;> simp only [Nat.reducePow, Nat.reduceMul, Nat.reduceAdd] <;> omega
/-- the i-th sign of a TEXT's cells, and of its row -/
theorem sg_both {c r : t_S} {arr a T v i : Nat} {B : Nat → Nat} (hok : t_oka arr 2 (t_ln arr) = true) (hL : t_ln arr < 1000000000) (hB : ∀ j, j < v → 32 ≤ B j ∧ B j ≤ 126) (hx : ∀ q, q < (v + 7) / 8 → vr_X v q B (c.2.1 arr (a + 1 + q)) (r.2.1 1006 (T + 2 + q))) (hi : i < v) (hv : v ≤ 40) (ha : a + 1 + i / 8 < t_ln arr) (hT : T + 2 + i / 8 < 626600) : f_X8_sign arr (nI a) (nI i) c = some (nI (B i)) ∧ f_X13_signOf (nI T) (nI i) r = some (nI (B i)) := by
  obtain ⟨S, s1, s2, s3, s4⟩ := hx (i / 8) (by omega)
  have sb := vr_Sb hB s1
  have se : S (i % 8) = B i := by rw [s1 (i % 8) (by omega), if_pos (by omega), show 8 * (i / 8) + i % 8 = i by omega]
  have d8 : nI i / (8 : Int32) = nI (i / 8) := pk_div (a := i) (d := 8) (by omega) (by decide) (by decide)
  have r8 : nI i - nI i / (8 : Int32) * (8 : Int32) = nI (i % 8) := pk_rem (a := i) (d := 8) (by omega) (by decide) (by decide)
  have xl : x8 S < 128 ^ 8 := x8_lt 8 (Nat.le_refl _) sb (fun _ h1 h2 => by omega)
  have yl := y8_lt (S := S) 8 (Nat.le_refl _) sb (fun _ h1 h2 => by omega)
  simp only [Nat.reducePow] at xl yl
  have cw : c.2.1 arr (a + 1 + i / 8) = lN (16 * x8 S + 10) := by
    apply Int64.toInt_inj.mp
    rw [pk_lT (by omega)]
    unfold x8
    omega
  have rw' : r.2.1 1006 (T + 2 + i / 8) = lN (y8 S) := by
    apply Int64.toInt_inj.mp
    rw [pk_lT (by omega)]
    unfold y8
    omega
  constructor
  · unfold f_X8_sign
    rw [if_pos hok, r8, d8, nI_1, nI_add, if_pos (l2_ix ha (by omega)), nI_clamp (n := a + 1 + i / 8) (by omega), cw, show (4 : Int32) + (7 : Int32) * nI (i % 8) = nI (4 + 7 * (i % 8)) by rw [show (7 : Int32) * nI (i % 8) = nI (7 * (i % 8)) from pk_mul 7 _, show (4 : Int32) = nI 4 from rfl, nI_add], lN_shr (by omega) (by omega), lN_w, nI_and127, x8_get sb _ (by omega), se]
  · unfold f_X13_signOf
    rw [r8, d8, show nI T + (2 : Int32) = nI (T + 2) from nI_add T 2, nI_add, if_pos (l2_ix hT (by decide)), nI_clamp (n := T + 2 + i / 8) (by omega), rw', show (8 : Int32) * nI (i % 8) = nI (8 * (i % 8)) from pk_mul 8 _, lN_shr (by omega) (by omega), lN_and255, y8_get sb _ (by omega), se, lN_w]
theorem pu_put {c : t_S} {p i b : Nat} {B : Nat → Nat} (hp : p + 10 < 240) (hi : i < 40) (hB : ∀ j, j ≤ i → B j < 128) (hb : b = B i) (h : i % 8 ≠ 0 → c.2.1 340 (p + 1 + i / 8) = lN (16 * x8 (x8_S B i (i / 8)) + 10)) : t_hk (f_X8_putSign 340 (nI p) (nI i) (nI b) c) (fun c' => l2_fr (fun x j => x = 340 ∧ j = p + 1 + i / 8) c c' ∧ c'.2.1 340 (p + 1 + i / 8) = lN (16 * x8 (x8_S B (i + 1) (i / 8)) + 10)) := by
  have ok : t_oka 340 2 (t_ln 340) = true := rfl
  have d8 : nI i / (8 : Int32) = nI (i / 8) := pk_div (a := i) (d := 8) (by omega) (by decide) (by decide)
  have r8 : nI i - nI i / (8 : Int32) * (8 : Int32) = nI (i % 8) := pk_rem (a := i) (d := 8) (by omega) (by decide) (by decide)
  have at1 : (nI p + (1 : Int32)) + nI i / (8 : Int32) = nI (p + 1 + i / 8) := by rw [d8, nI_1, nI_add]
  have ix : t_ix (nI (p + 1 + i / 8)) (t_ln 340) = true := l2_ix (show p + 1 + i / 8 < 240 by omega) (by decide)
  have go : ∀ c1 : t_S, l2_fr (fun x j => x = 340 ∧ j = p + 1 + i / 8) c c1 → c1.2.1 340 (p + 1 + i / 8) = lN (16 * x8 (x8_S B i (i / 8)) + 10) → t_hk (k_X8_putSign_24 340 (nI i) (nI b) (nI (p + 1 + i / 8)) c1) (fun c' => l2_fr (fun x j => x = 340 ∧ j = p + 1 + i / 8) c c' ∧ c'.2.1 340 (p + 1 + i / 8) = lN (16 * x8 (x8_S B (i + 1) (i / 8)) + 10)) := by
    intro c1 w g
    unfold k_X8_putSign_24
    refine l2_ck ok (l2_ck ix (l2_lt ?_))
    rw [nI_clamp (by omega), g, r8, nI_l (n := b) (by have := hB i (Nat.le_refl _); omega), show (4 : Int32) + (7 : Int32) * nI (i % 8) = nI (4 + 7 * (i % 8)) by rw [show (7 : Int32) * nI (i % 8) = nI (7 * (i % 8)) from pk_mul 7 _, show (4 : Int32) = nI 4 from rfl, nI_add], wb_shl b (k := 4 + 7 * (i % 8)) (by omega)]
    have lt : x8 (x8_S B i (i / 8)) < 128 ^ (i % 8) := x8_lt (i % 8) (by omega) (fun k hk => by
      unfold x8_S
      split
      · exact hB _ (by omega)
      · omega) (fun k a b => by
      unfold x8_S
      rw [if_neg (by omega)])
    have bb := hB i (Nat.le_refl _)
    have add : x8 (x8_S B (i + 1) (i / 8)) = x8 (x8_S B i (i / 8)) + b * 128 ^ (i % 8) := x8_add (e := i % 8) (by omega) (fun k hk => by
      unfold x8_S
      by_cases e : k = i % 8
      · rw [if_pos e, if_pos (by omega), if_neg (by omega), hb, show 8 * (i / 8) + k = i by omega, Nat.zero_add]
      · rw [if_neg e]
        by_cases l : 8 * (i / 8) + k < i
        · rw [if_pos (by omega), if_pos l]
        · rw [if_neg (by omega), if_neg l])
    have val : lN (16 * x8 (x8_S B i (i / 8)) + 10) ||| lN (b * 2 ^ (4 + 7 * (i % 8))) = lN (16 * x8 (x8_S B (i + 1) (i / 8)) + 10) := by
      have ce : i % 8 = 0 ∨ i % 8 = 1 ∨ i % 8 = 2 ∨ i % 8 = 3 ∨ i % 8 = 4 ∨ i % 8 = 5 ∨ i % 8 = 6 ∨ i % 8 = 7 := by omega
      have key : ∀ k X : Nat, X < 2 ^ k → b * 2 ^ k < 2 ^ 64 → X < 2 ^ 64 → lN X ||| lN (b * 2 ^ k) = lN (X + b * 2 ^ k) := fun k X h1 h2 h3 => by
        rw [wb_or h3 h2, Nat.or_comm, Nat.mul_comm b, ← Nat.two_pow_add_eq_or_of_lt h1, Nat.add_comm]
      rw [add]
      rcases ce with e | e | e | e | e | e | e | e <;> rw [e] at lt ⊢ <;> simp only [Nat.reducePow, Nat.reduceMul, Nat.reduceAdd] at lt ⊢
      · have q := key 4 (16 * x8 (x8_S B i (i / 8)) + 10) (by omega) (by omega) (by omega)
        simp only [Nat.reducePow] at q
        rw [q]; congr 1; omega
      · have q := key 11 (16 * x8 (x8_S B i (i / 8)) + 10) (by omega) (by omega) (by omega)
        simp only [Nat.reducePow] at q
        rw [q]; congr 1; omega
      · have q := key 18 (16 * x8 (x8_S B i (i / 8)) + 10) (by omega) (by omega) (by omega)
        simp only [Nat.reducePow] at q
        rw [q]; congr 1; omega
      · have q := key 25 (16 * x8 (x8_S B i (i / 8)) + 10) (by omega) (by omega) (by omega)
        simp only [Nat.reducePow] at q
        rw [q]; congr 1; omega
      · have q := key 32 (16 * x8 (x8_S B i (i / 8)) + 10) (by omega) (by omega) (by omega)
        simp only [Nat.reducePow] at q
        rw [q]; congr 1; omega
      · have q := key 39 (16 * x8 (x8_S B i (i / 8)) + 10) (by omega) (by omega) (by omega)
        simp only [Nat.reducePow] at q
        rw [q]; congr 1; omega
      · have q := key 46 (16 * x8 (x8_S B i (i / 8)) + 10) (by omega) (by omega) (by omega)
        simp only [Nat.reducePow] at q
        rw [q]; congr 1; omega
      · have q := key 53 (16 * x8 (x8_S B i (i / 8)) + 10) (by omega) (by omega) (by omega)
        simp only [Nat.reducePow] at q
        rw [q]; congr 1; omega
    rw [val]
    refine l2_sm ⟨w.trans (l2_fr.setJ ⟨rfl, rfl⟩), ?_⟩
    simp only [l2_gJ, reduceIte]
  unfold f_X8_putSign
  rw [at1, r8]
  by_cases z : i % 8 = 0
  · rw [z]
    refine l2_ck rfl (l2_ck ok (l2_ck ix (l2_lt ?_)))
    rw [nI_clamp (by omega)]
    refine go _ (l2_fr.setJ ⟨rfl, rfl⟩) ?_
    have e0 : x8 (x8_S B i (i / 8)) = 0 := by
      have := x8_lt (S := x8_S B i (i / 8)) 0 (by decide) (fun k hk => by omega) (fun k a b => by
        unfold x8_S
        rw [if_neg (by omega)])
      omega
    rw [e0]
    simp only [l2_gJ, reduceIte]
    rfl
  · exact l2_no (nI_ne0 (by omega) (by omega)) (go c l2_fr.rf (h z))
