/-! Level 2: how many different words a text can have: pure counting. -/
theorem sy_cn_mono {F G : Nat → Nat} : ∀ n, (∀ v, v < n → F v ≤ G v) → sy_cn F n ≤ sy_cn G n
  | 0, _ => Nat.le_refl _
  | n + 1, h => by
    have a := sy_cn_mono n (fun v hv => h v (by omega))
    have b := h n (by omega)
    show sy_cn F n + F n ≤ sy_cn G n + G n
    omega
theorem sy_cn_split {G : Nat → Nat} (a : Nat) : ∀ b, sy_cn G (a + b) = sy_cn G a + sy_cn (fun d => G (a + d)) b
  | 0 => rfl
  | b + 1 => by
    show sy_cn G (a + b) + G (a + b) = sy_cn G a + (sy_cn (fun d => G (a + d)) b + G (a + b))
    rw [sy_cn_split a b]
    omega
def wq_1 (v : Nat) : Nat := if lx_le v = true then 1 else 0
def wq_w (v : Nat) : Nat := if lx_wd v = true then 1 else 0
def wq_2 (v : Nat) : Nat := if lx_le (v / 256) = true ∧ lx_wd (v % 256) = true then 1 else 0
theorem wq_52 : sy_cn wq_1 256 = 52 := by decide +kernel
theorem wq_63 : sy_cn wq_w 256 = 63 := by decide +kernel
theorem wq_blk : ∀ c, c ≤ 256 → sy_cn wq_2 (256 * c) = 63 * sy_cn wq_1 c
  | 0, _ => rfl
  | c + 1, h => by
    rw [show 256 * (c + 1) = 256 * c + 256 by omega, sy_cn_split, wq_blk c (by omega)]
    show 63 * sy_cn wq_1 c + sy_cn (fun d => wq_2 (256 * c + d)) 256 = 63 * (sy_cn wq_1 c + wq_1 c)
    have e : ∀ n, n ≤ 256 → sy_cn (fun d => wq_2 (256 * c + d)) n = wq_1 c * sy_cn wq_w n := by
      intro n
      induction n with
      | zero => intro _; rfl
      | succ n ih =>
        intro hn
        show sy_cn (fun d => wq_2 (256 * c + d)) n + wq_2 (256 * c + n) = wq_1 c * (sy_cn wq_w n + wq_w n)
        rw [ih (by omega), Nat.mul_add]
        congr 1
        unfold wq_2 wq_1 wq_w
        rw [show (256 * c + n) / 256 = c by omega, show (256 * c + n) % 256 = n by omega]
        cases lx_le c <;> cases lx_wd n <;> decide
    rw [e 256 (Nat.le_refl _), wq_63]
    omega
theorem wq_3276 : sy_cn wq_2 65536 = 3276 := by
  rw [show 65536 = 256 * 256 from rfl, wq_blk 256 (Nat.le_refl _), wq_52]
/-- what stands for the new words: F1, F2 mark those of one and of two signs; a3 counts the others; c: how far the text has been spent -/
def wq_I (W0 W : Nat) (H : Nat → Int64) (T : Nat → Int32) (F1 F2 : Nat → Nat) (a3 c : Nat) : Prop := (∀ v, v < 256 → F1 v ≤ wq_1 v) ∧ (∀ v, v < 65536 → F2 v ≤ wq_2 v) ∧ (∀ v, v < 256 → F1 v ≠ 0 → ∃ i, i < W ∧ H i = lN v ∧ T i = 0) ∧ (∀ v, v < 65536 → F2 v ≠ 0 → ∃ i, i < W ∧ H i = lN v ∧ T i = 0) ∧ W = W0 + sy_cn F1 256 + sy_cn F2 65536 + a3 ∧ 2 * sy_cn F1 256 + 3 * sy_cn F2 65536 + 4 * a3 ≤ c
theorem wq_I.lt {W0 W : Nat} {H : Nat → Int64} {T : Nat → Int32} {F1 F2 : Nat → Nat} {a3 c : Nat} (h : wq_I W0 W H T F1 F2 a3 c) (hc : c ≤ 12001) : W ≤ W0 + 3845 := by
  obtain ⟨h1, h2, _, _, h5, h6⟩ := h
  have a := sy_cn_mono 256 h1
  have b := sy_cn_mono 65536 h2
  rw [wq_52] at a
  rw [wq_3276] at b
  omega
theorem wq_I.grow {W0 W : Nat} {H : Nat → Int64} {T : Nat → Int32} {F1 F2 : Nat → Nat} {a3 c c' : Nat} (h : wq_I W0 W H T F1 F2 a3 c) (hc : c ≤ c') {H' : Nat → Int64} {T' : Nat → Int32} (hH : ∀ i, i < W → H' i = H i ∧ T' i = T i) : wq_I W0 W H' T' F1 F2 a3 c' := by
  obtain ⟨h1, h2, h3, h4, h5, h6⟩ := h
  refine ⟨h1, h2, fun v hv z => ?_, fun v hv z => ?_, h5, by omega⟩
  · obtain ⟨i, a, b, d⟩ := h3 v hv z
    exact ⟨i, a, (hH i a).1.trans b, (hH i a).2.trans d⟩
  · obtain ⟨i, a, b, d⟩ := h4 v hv z
    exact ⟨i, a, (hH i a).1.trans b, (hH i a).2.trans d⟩
/-- a new word of n signs at p -/
theorem wq_I.add {W0 W : Nat} {H : Nat → Int64} {T : Nat → Int32} {F1 F2 : Nat → Nat} {a3 c : Nat} (h : wq_I W0 W H T F1 F2 a3 c) {B : Nat → Nat} {p n : Nat} (hn : 0 < n) (hB : ∀ i, i < n → lx_wd (B (p + i)) = true ∧ B (p + i) < 256) (hl : lx_le (B p) = true) (nf : ∀ i, i < W → ¬ (H i = wk_h B p n ∧ T i = wk_t B p n)) {H' : Nat → Int64} {T' : Nat → Int32} (hH : ∀ i, i < W → H' i = H i ∧ T' i = T i) (e1 : H' W = wk_h B p n) (e2 : T' W = wk_t B p n) : ∃ F1' F2' a3', wq_I W0 (W + 1) H' T' F1' F2' a3' (c + n + 1) := by
  obtain ⟨h1, h2, h3, h4, h5, h6⟩ := h
  have old1 : ∀ v, v < 256 → F1 v ≠ 0 → ∃ i, i < W + 1 ∧ H' i = lN v ∧ T' i = 0 := fun v hv z => by
    obtain ⟨i, a, b, d⟩ := h3 v hv z
    exact ⟨i, by omega, (hH i a).1.trans b, (hH i a).2.trans d⟩
  have old2 : ∀ v, v < 65536 → F2 v ≠ 0 → ∃ i, i < W + 1 ∧ H' i = lN v ∧ T' i = 0 := fun v hv z => by
    obtain ⟨i, a, b, d⟩ := h4 v hv z
    exact ⟨i, by omega, (hH i a).1.trans b, (hH i a).2.trans d⟩
  have b0 := hB 0 (by omega)
  rw [Nat.add_zero] at b0
  by_cases c1 : n = 1
  · subst c1
    have eh : wk_h B p 1 = lN (B p) := by
      show lN (0 * 256 + B (p + 0)) = lN (B p)
      rw [Nat.zero_mul, Nat.zero_add, Nat.add_zero]
    have et : wk_t B p 1 = 0 := rfl
    rw [eh] at nf e1
    rw [et] at nf e2
    have z : F1 (B p) = 0 := by
      by_cases x : F1 (B p) = 0
      · exact x
      · obtain ⟨i, a, b, d⟩ := h3 _ b0.2 x
        exact absurd ⟨b, d⟩ (nf i a)
    refine ⟨va_up F1 (B p) 1, F2, a3, fun v hv => ?_, h2, fun v hv x => ?_, old2, ?_, ?_⟩
    · by_cases e : v = B p
      · rw [e, mj_up_eq]
        unfold wq_1
        rw [if_pos hl]
        exact Nat.le_refl _
      · rw [mj_up_ne _ _ e]; exact h1 v hv
    · by_cases e : v = B p
      · rw [e]
        exact ⟨W, by omega, e1, e2⟩
      · rw [mj_up_ne _ _ e] at x
        exact old1 v hv x
    · rw [sy_cn_up z 256 b0.2]
      omega
    · rw [sy_cn_up z 256 b0.2]
      omega
  · by_cases c2 : n = 2
    · subst c2
      have b1 := hB 1 (by omega)
      have eh : wk_h B p 2 = lN (256 * B p + B (p + 1)) := by
        show lN ((0 * 256 + B (p + 0)) * 256 + B (p + 1)) = _
        rw [Nat.zero_mul, Nat.zero_add, Nat.add_zero, Nat.mul_comm]
      have et : wk_t B p 2 = 0 := rfl
      rw [eh] at nf e1
      rw [et] at nf e2
      have hv2 : 256 * B p + B (p + 1) < 65536 := by omega
      have z : F2 (256 * B p + B (p + 1)) = 0 := by
        by_cases x : F2 (256 * B p + B (p + 1)) = 0
        · exact x
        · obtain ⟨i, a, b, d⟩ := h4 _ hv2 x
          exact absurd ⟨b, d⟩ (nf i a)
      refine ⟨F1, va_up F2 (256 * B p + B (p + 1)) 1, a3, h1, fun v hv => ?_, old1, fun v hv x => ?_, ?_, ?_⟩
      · by_cases e : v = 256 * B p + B (p + 1)
        · rw [e, mj_up_eq]
          unfold wq_2
          rw [show (256 * B p + B (p + 1)) / 256 = B p by omega, show (256 * B p + B (p + 1)) % 256 = B (p + 1) by omega, if_pos ⟨hl, b1.1⟩]
          exact Nat.le_refl _
        · rw [mj_up_ne _ _ e]; exact h2 v hv
      · by_cases e : v = 256 * B p + B (p + 1)
        · rw [e]
          exact ⟨W, by omega, e1, e2⟩
        · rw [mj_up_ne _ _ e] at x
          exact old2 v hv x
      · rw [sy_cn_up z 65536 hv2]
        omega
      · rw [sy_cn_up z 65536 hv2]
        omega
    · exact ⟨F1, F2, a3 + 1, h1, h2, old1, old2, by omega, by omega⟩
