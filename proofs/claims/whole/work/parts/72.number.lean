/-! Level 2: the reference numbers a word when it reads it, the class ahead, in the same order: the numbers differ by 66. -/
/-- the reference's table of N names, t signs in it: name k is the class's word 66 + k; the first N0 lie in the first t0 signs -/
def nk_R (r : t_S) (H : Nat → Int64) (T : Nat → Int32) (N t N0 t0 : Nat) : Prop := ∃ A Z C : Nat → Nat, nm_I r N t A Z C ∧ (∀ k, k < N → Z k ≤ 12 ∧ (∀ i, i < Z k → 0 < C (A k + i) ∧ C (A k + i) < 256) ∧ H (66 + k) = wk_h C (A k) (Z k) ∧ T (66 + k) = wk_t C (A k) (Z k)) ∧ N0 ≤ N ∧ t0 ≤ t ∧ ∀ k, k < N0 → A k + Z k ≤ t0
/-- ahead of token u: which of the text's words have been numbered -/
def nw_R (B : Nat → Nat) (L W0 W : Nat) (H : Nat → Int64) (T : Nat → Int32) (N u t t0 : Nat) : Prop := 66 ≤ W0 ∧ W0 ≤ 66 + N ∧ 66 + N ≤ W ∧ t ≤ t0 + tk_P B L u ∧ t0 ≤ 12000 ∧ (∀ w, W0 ≤ w → w < 66 + N → ∃ k, k < u ∧ sc_o B L H T w k) ∧ ∀ w, 66 + N ≤ w → w < W → ∀ k, k < u → ¬ sc_o B L H T w k
theorem nk_R.fr {P : Nat → Nat → Prop} {r r' : t_S} {H : Nat → Int64} {T : Nat → Int32} {N t N0 t0 : Nat} (h : nk_R r H T N t N0 t0) (f : l2_fr P r r') (w1 : ¬ P 950 14) (w2 : ¬ P 950 15) (w3 : ∀ b i, 952 ≤ b → b ≤ 954 → ¬ P b i) : nk_R r' H T N t N0 t0 := by
  obtain ⟨A, Z, C, h1, h2⟩ := h
  exact ⟨A, Z, C, h1.fr f w1 w2 w3, h2⟩
theorem tk_P_mono {B : Nat → Nat} {L u : Nat} (h : tk_P B L u < L) : tk_P B L u < tk_P B L (u + 1) ∧ tk_e B L (tk_P B L u) ≤ tk_P B L (u + 1) := by
  have a := (tk_e_gt (B := B) h).1
  have b := lx_s_ge (B := B) (L := L) (L - tk_E B L (u + 1)) (tk_E B L (u + 1)) false rfl
  have c : tk_E B L (u + 1) ≤ tk_P B L (u + 1) := b
  have d : tk_E B L (u + 1) = tk_e B L (tk_P B L u) := rfl
  omega
/-- the token that both look at is a free word -/
theorem jt_word {c r : t_S} {B : Nat → Nat} {L W n u : Nat} {V sl : Nat → Nat} {H : Nat → Int64} {T : Nat → Int32} (h : jt_A c r B L W V sl H T n u) (h8 : c.1 1 8 = 1) : ∃ i, 66 ≤ i ∧ i < W ∧ c.2.1 1 10 = lN i ∧ sc_o B L H T i u ∧ tk_P B L u + tk_n B L (tk_P B L u) ≤ L ∧ (∀ j, j < tk_n B L (tk_P B L u) → 0 < B (tk_P B L u + j) ∧ B (tk_P B L u + j) < 256) ∧ r.1 950 5 = 1 ∧ r.1 950 10 = -1 ∧ r.1 950 7 = nI (tk_n B L (tk_P B L u)) := by
  obtain ⟨hc, hr, hR, ht⟩ := h
  unfold ts_A at ht
  rw [h8] at ht
  have hL := hr.1.1
  rcases ht with ⟨a, _⟩ | ⟨i, a, b, _⟩ | ⟨i, m, a1, a2, a3, a4, a5, a6, a7, a8, a9, a10, a11, a12, a13⟩ | ⟨v, _, a, _⟩ | ⟨v, _, _, _, a, _⟩ | ⟨v, a, b, _⟩
  · exact absurd a (by decide)
  · have := (nI_eq (a := 1) (b := 200 + i) (by decide) (by omega)).mp b
    omega
  · obtain ⟨r1, r2, r3, r4, r5⟩ := hr
    rcases r5 with ⟨z, y, _⟩ | ⟨z, y1, y2, y3, y4⟩
    · rw [a11] at y
      exact absurd y (by decide)
    · have le : lx_le (B (tk_P B L u)) = true := by
        cases e1 : lx_le (B (tk_P B L u)) with
        | true => rfl
        | false =>
          exfalso
          obtain ⟨s1, s2, s3, s4, s5⟩ := y4
          cases e2 : lx_di (B (tk_P B L u)) with
          | true =>
            have q := (s3 e1 e2).1
            rw [a11] at q
            exact absurd q (by decide)
          | false =>
            by_cases e3 : B (tk_P B L u) = 34
            · have q := (s4 e1 e2 e3).1
              rw [a11] at q
              exact absurd q (by decide)
            · have q := (s5 e1 e2 e3).1
              rw [a11] at q
              exact absurd q (by decide)
      have q := (y4.1 le).2.1
      have bd := rn_le5 (B := B) (L := L) (p := tk_P B L u) (by omega)
      rw [a13] at q
      have e : m = tk_n B L (tk_P B L u) := (nI_eq (by omega) (by omega)).mp q
      subst e
      exact ⟨i, a1, a2, a10, ⟨z, le, a3, a7, a8⟩, a5, a6, a11, a12, a13⟩
  · exact absurd a (by decide)
  · exact absurd a (by decide)
  · have := (nI_eq (a := 1) (b := v) (by decide) (by omega)).mp b
    omega
/-- a token that is no free word numbers nothing -/
theorem nw_R.skip {B : Nat → Nat} {L W0 W : Nat} {H : Nat → Int64} {T : Nat → Int32} {N u t t0 : Nat} (h : nw_R B L W0 W H T N u t t0) (hu : tk_P B L u < L) (no : ∀ w, 66 ≤ w → w < W → ¬ sc_o B L H T w u) : nw_R B L W0 W H T N (u + 1) t t0 := by
  obtain ⟨h1, h2, h3, h4, h5, h6, h7⟩ := h
  have m := tk_P_mono hu
  refine ⟨h1, h2, h3, by omega, h5, fun w a b => ?_, fun w a b k hk => ?_⟩
  · obtain ⟨k, c, d⟩ := h6 w a b
    exact ⟨k, by omega, d⟩
  · by_cases e : k = u
    · subst e
      exact no w (by omega) b
    · exact h7 w a b k (by omega)
theorem sc_o_one {B : Nat → Nat} {L W u v w : Nat} {H : Nat → Int64} {T : Nat → Int32} (hI : ∀ a b, a < W → b < W → H a = H b → T a = T b → a = b) (hv : v < W) (hw : w < W) (a : sc_o B L H T v u) (b : sc_o B L H T w u) : v = w := by
  obtain ⟨_, _, _, a1, a2⟩ := a
  obtain ⟨_, _, _, b1, b2⟩ := b
  exact hI v w hv hw (a1.trans b1.symm) (a2.trans b2.symm)
/-- the reference's name() at a free word -/
theorem nw_name0 {r : t_S} {B : Nat → Nat} {L W0 W n u v i N t N0 t0 : Nat} {H : Nat → Int64} {T : Nat → Int32} (hT : tx_Tr r B L) (h6 : r.1 950 6 = nI (tk_P B L u)) (i9 : r.1 950 7 = nI (tk_n B L (tk_P B L u))) (hW : W ≤ 8000) (hI : ∀ a b, a < W → b < W → H a = H b → T a = T b → a = b) (i1 : 66 ≤ i) (i2 : i < W) (i4 : sc_o B L H T i u) (i5 : tk_P B L u + tk_n B L (tk_P B L u) ≤ L) (i6 : ∀ j, j < tk_n B L (tk_P B L u) → 0 < B (tk_P B L u + j) ∧ B (tk_P B L u + j) < 256) (hk : nk_R r H T N t N0 t0) (hv : v = u ∨ v = u + 1) (hw : nw_R B L W0 W H T N v t t0) (hD : sc_D B L W0 W H T n) (h16 : r.1 950 16 ≠ 0) : t_hk (f_X13_name r) (fun x => ∃ N' t', i < 66 + N' ∧ 66 + N' ≤ W ∧ x.1 = nI (i - 66) ∧ l2_fr nm_W r x.2 ∧ N ≤ N' ∧ nk_R x.2 H T N' t' N0 t0 ∧ nw_R B L W0 W H T N' (u + 1) t' t0) := by
  have hL := hT.1
  obtain ⟨A, Z, C, k1, k2, k3, k4, k5⟩ := hk
  have hw0 := hw
  obtain ⟨w1, w2, w3, w4, w5, w6, w7⟩ := hw
  have o4 := i4
  obtain ⟨o1, o2, o3, oH, oT⟩ := o4
  have m := tk_P_mono o1
  have me : tk_e B L (tk_P B L u) = tk_P B L u + tk_n B L (tk_P B L u) := by
    unfold tk_e
    rw [if_pos o2]
    exact (rn_le5 (by omega)).1
  have vP : tk_P B L v ≤ tk_P B L (u + 1) := by
    rcases hv with rfl | rfl
    · omega
    · exact Nat.le_refl _
  have tb : v = u → t + tk_n B L (tk_P B L u) ≤ t0 + tk_P B L (u + 1) := fun e => by
    subst e
    omega
  have P1 : tk_P B L (u + 1) ≤ L := lx_s_le (B := B) (L := L) (L - tk_E B L (u + 1)) (tk_E B L (u + 1)) false rfl (by
    have : tk_E B L (u + 1) = tk_e B L (tk_P B L u) := rfl
    omega)
  have same : ∀ k, k < N → (H i = H (66 + k) ∧ T i = T (66 + k) ↔ nm_m A Z C B (tk_P B L u) (tk_n B L (tk_P B L u)) k) := by
    intro k hk
    obtain ⟨z1, z2, z3, z4⟩ := k2 k hk
    have q := wk_same (B := C) (C := B) z1 o3 z2 i6
    rw [z3, z4, oH, oT]
    unfold nm_m
    constructor
    · rintro ⟨x, y⟩
      obtain ⟨e1, e2⟩ := q.mp ⟨x.symm, y.symm⟩
      exact ⟨e1, fun j hj => e2 j (by omega)⟩
    · rintro ⟨x, y⟩
      obtain ⟨e1, e2⟩ := q.mpr ⟨x, fun j hj => y j (by omega)⟩
      exact ⟨e1.symm, e2.symm⟩
  have hN : N < 8200 := by omega
  have hvE : ∀ w, 66 + N ≤ w → w < W → ∀ k, k < u → ¬ sc_o B L H T w k := fun w a b k hk => w7 w a b k (by omega)
  refine l2_imp (nm_name hT i5 h6 i9 k1 hN (by
    rcases hv with rfl | rfl
    · omega
    · omega)) (fun x hx => ?_)
  rcases hx with ⟨k, a, b, rfl⟩ | ⟨_, b, _⟩ | ⟨a, _, b, f, g⟩
  · obtain ⟨e1, e2⟩ := (same k a).mpr b
    have e : i = 66 + k := hI i (66 + k) i2 (by omega) e1 e2
    subst e
    refine ⟨N, t, by omega, w3, by rw [show 66 + k - 66 = k by omega], l2_fr.rf, Nat.le_refl _, ⟨A, Z, C, k1, k2, k3, k4, k5⟩, w1, w2, w3, by omega, w5, fun w x y => ?_, fun w x y k' hk' => ?_⟩
    · obtain ⟨k', c1, c2⟩ := w6 w x y
      exact ⟨k', by omega, c2⟩
    · by_cases e : k' = u
      · subst e
        intro z
        have := sc_o_one hI y i2 z i4
        omega
      · exact hvE w x y k' (by omega)
  · exact absurd b h16
  · have ge : 66 + N ≤ i := by
      by_cases z : i < 66 + N
      · exfalso
        have e : 66 + (i - 66) = i := by omega
        exact a (i - 66) (by omega) ((same (i - 66) (by omega)).mp (by rw [e]; exact ⟨rfl, rfl⟩))
      · omega
    have hvu : v = u := by
      rcases hv with e | e
      · exact e
      · exfalso
        exact w7 i ge i2 u (by omega) i4
    obtain ⟨j, j1, j2, j3, j4⟩ := hD i (by omega) i2
    have ju : j = u := by
      by_cases z : j < u
      · exact absurd j2 (hvE i ge i2 j z)
      · by_cases y : u < j
        · exact absurd i4 (j3 u y)
        · omega
    subst ju
    have ei : i = 66 + N := by
      by_cases z : i = 66 + N
      · exact z
      · obtain ⟨k, q1, q2⟩ := j4 (66 + N) (by omega) (by omega)
        exact absurd q2 (hvE (66 + N) (by omega) (by omega) k q1)
    subst ei
    refine ⟨N + 1, _, by omega, by omega, by rw [b, show 66 + N - 66 = N by omega], f, by omega, ⟨_, _, _, g, fun k hk => ?_, by omega, by omega, fun k hk => by rw [mj_up_ne _ _ (by omega), mj_up_ne _ _ (by omega)]; exact k5 k hk⟩, w1, by omega, by omega, tb hvu, w5, fun w x y => ?_, fun w x y k' hk' => ?_⟩
    · by_cases e : k = N
      · subst e
        rw [mj_up_eq, mj_up_eq]
        have q : ∀ i, i < tk_n B L (tk_P B L j) → (if t + i < t then C (t + i) else B (tk_P B L j + (t + i - t))) = B (tk_P B L j + i) := fun i hi => by
          rw [if_neg (by omega), show t + i - t = i by omega]
        have q2 : ∀ i, i < tk_n B L (tk_P B L j) → 0 < (fun z => if z < t then C z else B (tk_P B L j + (z - t))) (t + i) ∧ (fun z => if z < t then C z else B (tk_P B L j + (z - t))) (t + i) < 256 := fun i hi => by
          show 0 < (if t + i < t then C (t + i) else B (tk_P B L j + (t + i - t))) ∧ (if t + i < t then C (t + i) else B (tk_P B L j + (t + i - t))) < 256
          rw [q i hi]
          exact i6 i hi
        have q3 := (wk_same (B := fun z => if z < t then C z else B (tk_P B L j + (z - t))) (C := B) (p := t) (q := tk_P B L j) o3 o3 q2 i6).mpr ⟨rfl, q⟩
        exact ⟨o3, q2, by rw [oH]; exact q3.1.symm, by rw [oT]; exact q3.2.symm⟩
      · have hk : k < N := by omega
        rw [mj_up_ne _ _ e, mj_up_ne _ _ e]
        obtain ⟨z1, z2, z3, z4⟩ := k2 k hk
        have az := (k1.2.2.2.2.1 k hk).2.2
        have q : ∀ i, i < Z k → (if A k + i < t then C (A k + i) else B (tk_P B L j + (A k + i - t))) = C (A k + i) := fun i hi => by
          rw [if_pos (by omega)]
        have q2 : ∀ i, i < Z k → 0 < (fun z => if z < t then C z else B (tk_P B L j + (z - t))) (A k + i) ∧ (fun z => if z < t then C z else B (tk_P B L j + (z - t))) (A k + i) < 256 := fun i hi => by
          show 0 < (if A k + i < t then C (A k + i) else B (tk_P B L j + (A k + i - t))) ∧ (if A k + i < t then C (A k + i) else B (tk_P B L j + (A k + i - t))) < 256
          rw [q i hi]
          exact z2 i hi
        have q3 := (wk_same (B := fun z => if z < t then C z else B (tk_P B L j + (z - t))) (C := C) (p := A k) (q := A k) z1 z1 q2 z2).mpr ⟨rfl, q⟩
        exact ⟨z1, q2, z3.trans q3.1.symm, z4.trans q3.2.symm⟩
    · by_cases e : w = 66 + N
      · exact ⟨j, by omega, by rw [e]; exact i4⟩
      · obtain ⟨k', c1, c2⟩ := w6 w x (by omega)
        exact ⟨k', by omega, c2⟩
    · by_cases e : k' = j
      · subst e
        intro z
        have := sc_o_one hI y i2 z i4
        omega
      · exact hvE w (by omega) y k' (by omega)
