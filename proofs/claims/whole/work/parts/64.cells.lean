/-! Level 2: the class's cells of VALUES: kind, size, what is told. -/
def vl_c (t : Int) (n k : Nat) (w : Int64) : Prop := w.toInt = t * 4096 + n * 16 + k ∧ n < 256 ∧ k < 16
theorem vl_lo (w : Int64) : ∃ j : Int, w.toInt32.toInt = w.toInt + j * 4294967296 := by
  have h : w.toInt32.toInt = w.toInt.bmod (2 ^ 32) := Int64.toInt_toInt32 w
  rw [h]
  refine ⟨- ((w.toInt - w.toInt.bmod (2 ^ 32)) / 4294967296), ?_⟩
  have d := Int.bmod_def w.toInt (2 ^ 32)
  have e := Int.emod_add_mul_ediv w.toInt 4294967296
  simp only [Nat.reducePow] at d ⊢
  omega
theorem vl_nat (y : Int32) : ∃ j : Int, (y.toBitVec.toNat : Int) = y.toInt + j * 4294967296 := by
  have e1 : y.toInt = (y.toBitVec.toNat : Int) - (if 2 * y.toBitVec.toNat < 2 ^ 32 then 0 else 2 ^ 32) := by
    show y.toBitVec.toInt = _
    rw [BitVec.toInt_eq_toNat_cond]
    split <;> simp
  split at e1
  · exact ⟨0, by omega⟩
  · exact ⟨1, by omega⟩
theorem vl_kind {t : Int} {n k : Nat} {w : Int64} {s : t_S} (h : vl_c t n k w) : f_X8_kind w s = nI k := by
  obtain ⟨h1, h2, h3⟩ := h
  obtain ⟨a, ha⟩ := vl_lo w
  obtain ⟨b, hb⟩ := vl_nat w.toInt32
  unfold f_X8_kind
  rw [pk_and _ 4 (by decide)]
  congr 1
  omega
theorem vl_sz {t : Int} {n k : Nat} {w : Int64} (h : vl_c t n k w) : ((w.toInt32 >>> ((4 : Int32) &&& 31)) &&& (255 : Int32)) = nI n := by
  obtain ⟨h1, h2, h3⟩ := h
  obtain ⟨a, ha⟩ := vl_lo w
  have q := pk_shr w.toInt32 ((4 : Int32) &&& 31) 4 (by decide)
  obtain ⟨b, hb⟩ := vl_nat (w.toInt32 >>> ((4 : Int32) &&& 31))
  rw [q, Int.shiftRight_eq_div_pow] at hb
  rw [pk_and _ 8 (by decide)]
  congr 1
  simp only [Nat.reducePow, Int.reducePow] at hb ⊢
  have e : ((2 ^ 4 : Nat) : Int) = 16 := rfl
  omega
theorem vl_size {t : Int} {n k : Nat} {w : Int64} {s : t_S} (h : vl_c t n k w) : f_X8_size w s = nI n := vl_sz h
theorem vl_shr (w : Int64) : (w >>> ((12 : Int32).toInt64 &&& 63)).toInt = w.toInt / 4096 := by
  have e : (((12 : Int32).toInt64 &&& 63).toBitVec.smod 64).toNat = 12 := by decide
  show (w.toBitVec.sshiftRight (((12 : Int32).toInt64 &&& 63).toBitVec.smod 64).toNat).toInt = _
  rw [e, BitVec.toInt_sshiftRight, Int.shiftRight_eq_div_pow]
  rfl
theorem vl_told {t : Int} {n k : Nat} {w : Int64} {s : t_S} (h : vl_c t n k w) : (f_X8_told w s).toInt = t := by
  obtain ⟨h1, h2, h3⟩ := h
  unfold f_X8_told
  rw [vl_shr]
  omega
theorem vl_same {t : Int} {n k : Nat} {w v : Int64} (h : vl_c t n k w) (g : vl_c t n k v) : w = v := Int64.toInt_inj.mp (h.1.trans g.1.symm)
theorem vl_only {t u : Int} {n m k l : Nat} {w : Int64} (h : vl_c t n k w) (g : vl_c u m l w) : t = u ∧ n = m ∧ k = l := by
  obtain ⟨h1, h2, h3⟩ := h
  obtain ⟨g1, g2, g3⟩ := g
  omega
/-- rows of cells compared, the class's way: size n -/
theorem vl_rows {a b : Nat} {i j n : Nat} {s : t_S} {t : Int} {k : Nat} (ha : t_oka a 2 (t_ln a) = true) (hb : t_oka b 2 (t_ln b) = true) (hla : t_ln a < 1000000000) (hlb : t_ln b < 1000000000) (hi : i + n ≤ t_ln a) (hj : j + n ≤ t_ln b) (hn : 0 < n) (hc : vl_c t n k (s.2.1 a i)) : f_X8_same a (nI i) b (nI j) s = some (if ∀ d, d < n → s.2.1 a (i + d) = s.2.1 b (j + d) then 1 else 0) := by
  apply l2_val
  unfold f_X8_same
  refine l2_ck ha (l2_ck (l2_ix (by omega) (by omega)) (l2_ck hb (l2_ck (l2_ix (by omega) (by omega)) ?_)))
  rw [nI_clamp (n := i) (by omega), nI_clamp (n := j) (by omega), vl_sz hc, nI_add, nI_add]
  refine l2_if (fun z => ?_) (fun z => ?_)
  · have z := l2_cmp0.mp z
    refine l2_no (show ¬ nI (t_ln a) < nI (i + n) from nI_nlt hi (by omega)) (l2_ck (show nI (j + n) ≤ nI (t_ln b) from nI_le hj (by omega)) ?_)
    refine l2_lp (fun w y => ∃ d, d + w = n ∧ 0 < d ∧ y = (a, nI i, b, nI j, nI n, nI d) ∧ ∀ e, e < d → s.2.1 a (i + e) = s.2.1 b (j + e)) ?_ (m := n - 1) (Nat.lt_trans (show n - 1 < 1000000000 by omega) l2_N) ⟨1, by omega, by decide, rfl, fun e he => by rw [show e = 0 by omega]; exact z⟩
    rintro w y ⟨d, hd, h0, rfl, hh⟩
    show t_hk (k_X8_same_45 a (nI i) b (nI j) (nI n) (nI d) s) _
    unfold k_X8_same_45
    refine l2_if (fun c => ?_) (fun c => ?_)
    · have c := (nI_leI (by omega) (by omega)).mp c
      refine l2_mp (l2_sm ?_)
      show (1 : Int32) = _
      rw [if_pos (fun e he => hh e (by omega))]
    have c : ¬ n ≤ d := fun x => c ((nI_leI (by omega) (by omega)).mpr x)
    rw [nI_add, nI_add]
    refine l2_ck ha (l2_ck (l2_ix (by omega) (by omega)) (l2_ck hb (l2_ck (l2_ix (by omega) (by omega)) ?_)))
    rw [nI_clamp (n := i + d) (by omega), nI_clamp (n := j + d) (by omega), nI_1]
    refine l2_if (fun x => ?_) (fun x => ?_)
    · have x := l2_cmp0.mp x
      refine l2_sm ⟨w - 1, by omega, d + 1, by omega, by omega, rfl, fun e he => ?_⟩
      by_cases f : e = d
      · rw [f]; exact x
      · exact hh e (by omega)
    · refine l2_mp (l2_sm ?_)
      show (0 : Int32) = _
      rw [if_neg (fun y => x (l2_cmp0.mpr (y d (by omega))))]
  · refine l2_sm ?_
    show (0 : Int32) = _
    rw [if_neg (fun y => z (l2_cmp0.mpr (y 0 hn)))]
