/-! Level 2: the reference's reserved words and its next token. -/
/-- where each reserved word begins in the reference's row of them -/
def rv_L : List Nat := [0, 5, 14, 24, 33, 41, 46, 49, 54, 60, 64, 68, 73, 78, 83, 90, 97, 102, 105, 114, 121, 131, 136, 142, 147, 151, 156, 164, 171, 180, 185, 190, 193, 197, 205, 209, 215, 222, 225, 230, 236, 243, 248, 253, 257, 262, 269, 274, 278, 283, 287, 293, 298, 305, 308, 314, 322, 325, 330, 335, 341, 349, 357, 362, 370, 375, 380]
def rv_F (w : Nat) : Nat := rv_L.getD w 380
def rv_n (w : Nat) : Nat := rv_F (w + 1) - rv_F w - 1
theorem rv_tab : ∀ w, w < 66 → rv_F w + rv_n w + 1 = rv_F (w + 1) ∧ rv_F (w + 1) ≤ 380 ∧ mj_ch 5 (rv_F w + rv_n w) = 32 ∧ ∀ i, i < rv_n w → mj_ch 5 (rv_F w + i) ≠ 32 := by decide +kernel
theorem rv_66 : rv_F 66 = 380 := by decide
theorem rv_len : mj_len.getD 5 0 = 380 := rfl
def rv_m (B : Nat → Nat) (p n w : Nat) : Prop := rv_n w = n ∧ ∀ i, i < n → mj_ch 5 (rv_F w + i) = nI (B (p + i))
/-- the answer of the reference's look for a reserved word -/
def rv_Q (B : Nat → Nat) (p n : Nat) (r : Int32) : Prop := (∃ w, w < 66 ∧ rv_m B p n w ∧ (∀ v, v < w → ¬ rv_m B p n v) ∧ r = nI w) ∨ ((∀ w, w < 66 → ¬ rv_m B p n w) ∧ r = -1)
theorem rv_read {s : t_S} {B : Nat → Nat} {L p n : Nat} (hT : tx_Tr s B L) (hp : p + n ≤ L) (h6 : s.1 950 6 = nI p) (h7 : s.1 950 7 = nI n) : t_hk (f_X13_reserved s) (rv_Q B p n) := by
  have hL := hT.1
  unfold f_X13_reserved
  refine l2_lp (fun k y => ∃ w, w + k = 66 ∧ y = (nI (rv_F w), nI w) ∧ ∀ v, v < w → ¬ rv_m B p n v) ?_ (m := 66) (Nat.lt_trans (by decide) l2_N) ⟨0, rfl, rfl, fun v hv => absurd hv (by omega)⟩
  rintro k y ⟨w, hk, rfl, hno⟩
  show t_hk (k_X13_reserved_4 (nI (rv_F w)) (nI w) s) _
  unfold k_X13_reserved_4
  rw [rv_len]
  by_cases c : w = 66
  · subst c
    rw [rv_66]
    exact l2_ck (nI_le (Nat.le_refl _) (by decide)) (l2_mp (l2_sm (Or.inr ⟨fun v hv => hno v hv, rfl⟩)))
  obtain ⟨t1, t2, t3, t4⟩ := rv_tab w (by omega)
  refine l2_no (nI_ge (by omega) (by decide)) ?_
  refine l2_lp (fun k2 y => ∃ i, i + k2 = rv_n w ∧ ∃ q : Int32, y = (nI (rv_F w), nI w, nI i, q) ∧ ((q = 1 ∧ ∀ j, j < i → j < n ∧ mj_ch 5 (rv_F w + j) = nI (B (p + j))) ∨ (q = 0 ∧ ∃ j, j < i ∧ ¬ (j < n ∧ mj_ch 5 (rv_F w + j) = nI (B (p + j)))))) ?_ (m := rv_n w) (Nat.lt_trans (show rv_n w < 1000000000 by omega) l2_N) ⟨0, by omega, 1, rfl, Or.inl ⟨rfl, fun j hj => absurd hj (by omega)⟩⟩
  rintro k2 y ⟨i, hi, q, rfl, hq⟩
  show t_hk (k_X13_reserved_19 (nI (rv_F w)) (nI w) (nI i) q s) _
  unfold k_X13_reserved_19
  rw [nI_add, rv_len]
  refine l2_ck (l2_ix (by omega) (by decide)) ?_
  rw [nI_clamp (by omega)]
  by_cases e : i = rv_n w
  · subst e
    refine l2_ck t3 (l2_mp ?_)
    have nx : ¬ rv_m B p n w → t_hk (k_X13_reserved_97 (nI (rv_F w)) (nI w) (nI (rv_n w)) s) (l2_nx (fun z => ∃ j, j < k ∧ ∃ w, w + j = 66 ∧ z = (nI (rv_F w), nI w) ∧ ∀ v, v < w → ¬ rv_m B p n v) (rv_Q B p n)) := by
      intro nm
      unfold k_X13_reserved_97
      rw [nI_add, nI_1, nI_1, t1]
      refine l2_sm ⟨k - 1, by omega, w + 1, by omega, rfl, fun v hv => ?_⟩
      by_cases z : v = w
      · rw [z]; exact nm
      · exact hno v (by omega)
    rcases hq with ⟨rfl, hq⟩ | ⟨rfl, j, hj, hq⟩
    · refine l2_no l2_10 ?_
      rw [h7]
      have hle : rv_n w ≤ n := by
        by_cases z : rv_n w = 0
        · omega
        · have := (hq (rv_n w - 1) (by omega)).1
          omega
      refine l2_if (fun z => ?_) (fun z => ?_)
      · have z := (nI_eq (by omega) (by omega)).mp z
        refine l2_mp (l2_sm (Or.inl ⟨w, by omega, ⟨z, fun j hj => (hq j (by omega)).2⟩, hno, rfl⟩))
      · exact nx (fun m => z (by rw [m.1]))
    · refine l2_ck rfl (nx (fun m => hq ⟨?_, ?_⟩))
      · have := m.1
        omega
      · exact m.2 j (by have := m.1; omega)
  · refine l2_no (t4 i (by omega)) ?_
    have n0 : ¬ (i < n ∧ mj_ch 5 (rv_F w + i) = nI (B (p + i))) ∨ q = 0 → t_hk (k_X13_reserved_73 (nI (rv_F w)) (nI w) (nI i) s) (l2_nx (fun z => ∃ j, j < k2 ∧ ∃ i, i + j = rv_n w ∧ ∃ q : Int32, z = (nI (rv_F w), nI w, nI i, q) ∧ ((q = 1 ∧ ∀ j, j < i → j < n ∧ mj_ch 5 (rv_F w + j) = nI (B (p + j))) ∨ (q = 0 ∧ ∃ j, j < i ∧ ¬ (j < n ∧ mj_ch 5 (rv_F w + j) = nI (B (p + j)))))) (l2_nx (fun z => ∃ j, j < k ∧ ∃ w, w + j = 66 ∧ z = (nI (rv_F w), nI w) ∧ ∀ v, v < w → ¬ rv_m B p n v) (rv_Q B p n))) := by
      intro h
      unfold k_X13_reserved_73 k_X13_reserved_74
      rw [nI_1]
      refine l2_sm ⟨k2 - 1, by omega, i + 1, by omega, 0, rfl, Or.inr ⟨rfl, ?_⟩⟩
      rcases hq with ⟨hq1, hq⟩ | ⟨hq1, j, hj, hq⟩
      · rcases h with h | h
        · exact ⟨i, by omega, h⟩
        · rw [hq1] at h
          exact absurd h l2_10
      · exact ⟨j, by omega, hq⟩
    rcases hq with ⟨rfl, hq⟩ | ⟨rfl, hj⟩
    · refine l2_no l2_10 ?_
      rw [h7, h6]
      refine l2_if (fun z => ?_) (fun z => ?_)
      · have z := (nI_leI (by omega) (by omega)).mp z
        exact n0 (Or.inl (fun x => by omega))
      · have z : ¬ n ≤ i := fun x => z ((nI_leI (by omega) (by omega)).mpr x)
        rw [nI_add]
        refine l2_ck (l2_ix (by omega) (by decide)) ?_
        rw [nI_clamp (by omega), (hT.2.2 (p + i) (by omega)).2]
        refine l2_if (fun x => ?_) (fun x => n0 (Or.inl (fun y => x y.2.symm)))
        unfold k_X13_reserved_74
        rw [nI_1]
        refine l2_sm ⟨k2 - 1, by omega, i + 1, by omega, 1, rfl, Or.inl ⟨rfl, fun j hj => ?_⟩⟩
        by_cases u : j = i
        · rw [u]
          exact ⟨by omega, x.symm⟩
        · exact hq j (by omega)
    · exact l2_ck rfl (n0 (Or.inr rfl))
/-- whether the token at p is one -/
def tk_v (B : Nat → Nat) (L p : Nat) : Prop := (lx_le (B p) = true → tk_n B L p ≤ 12) ∧ (lx_le (B p) = false → lx_di (B p) = true → lx_r lx_di B L p - p ≤ 15) ∧ (lx_le (B p) = false → lx_di (B p) = false → B p = 34 → lx_r lx_tx B L (p + 1) < L ∧ B (lx_r lx_tx B L (p + 1)) = 34 ∧ lx_r lx_tx B L (p + 1) - (p + 1) ≤ 40) ∧ (lx_le (B p) = false → lx_di (B p) = false → B p ≠ 34 → lx_so B L p ≠ 5)
/-- what the reference tells of a token at p -/
def rn_T (B : Nat → Nat) (L p : Nat) (s : t_S) : Prop :=
  (lx_le (B p) = true → s.1 950 5 = 1 ∧ s.1 950 7 = nI (tk_n B L p) ∧ rv_Q B p (tk_n B L p) (s.1 950 10)) ∧
  (lx_le (B p) = false → s.1 950 10 = -1) ∧
  (lx_le (B p) = false → lx_di (B p) = true → s.1 950 5 = 2 ∧ s.1 950 7 = nI (lx_r lx_di B L p - p) ∧ s.2.1 950 8 = lN (lx_num B p (min 15 (lx_r lx_di B L p - p)))) ∧
  (lx_le (B p) = false → lx_di (B p) = false → B p = 34 → s.1 950 5 = 3 ∧ s.1 950 7 = nI (lx_r lx_tx B L (p + 1) - (p + 1))) ∧
  (lx_le (B p) = false → lx_di (B p) = false → B p ≠ 34 → s.1 950 5 = 4 ∧ s.1 950 9 = nI (rs_v B L p))
def rn_W (b j : Nat) : Prop := b = 950 ∧ 2 ≤ j ∧ j ≤ 10
/-- behind the reference's next token, that stands at p -/
def rn_Q (B : Nat → Nat) (L p : Nat) (s s' : t_S) : Prop := s'.1 950 6 = nI p ∧ l2_fr rn_W s s' ∧ ((L ≤ p ∧ s'.1 950 2 = 0 ∧ s'.1 950 5 = 0 ∧ s'.1 950 4 = nI p) ∨ (p < L ∧ tk_v B L p ∧ s'.1 950 2 = 0 ∧ s'.1 950 4 = nI (tk_e B L p) ∧ rn_T B L p s') ∨ (p < L ∧ ¬ tk_v B L p ∧ s'.1 950 2 = 1 ∧ s'.1 950 3 = nI p ∧ s'.1 950 5 = 0))
theorem rn_436 {s : t_S} {Q : t_S → Prop} (h0 : s.1 950 2 = 0 → Q s) (h1 : s.1 950 2 ≠ 0 → Q (t_setI s 950 5 0)) : t_hk (k_X13_next_436 s) Q := by
  unfold k_X13_next_436
  exact l2_if (fun z => l2_sm (h0 z)) (fun z => l2_lt (l2_sm (h1 z)))
