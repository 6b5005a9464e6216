/-! Level 2: the class holds a part against a templ: [ ]. -/
section
variable {c r s : t_S} {a i p E τ x u m x0 : Nat} {n t g k dp v : Nat} {o : Option Nat} {T G I Qe : Nat → Nat}
theorem t_low : ∀ (d e0 b : Nat), (2 ^ e0 * (2 * b + 1)).testBit e0 = true ∧ ∀ e, e < e0 → (2 ^ e0 * (2 * b + 1)).testBit e = false := fun d e0 b => by
  constructor
  · rw [Nat.mul_comm, Nat.testBit_mul_two_pow]
    simp
  · intro e he
    rw [Nat.mul_comm, Nat.testBit_mul_two_pow]
    simp
    omega
/-- the least one's bit -/
theorem BS.low {y : Int32} {Q : Nat → Prop} (h : BS y 17 Q) (hne : y ≠ 0) : ∃ e0, Q e0 ∧ (∀ e, Q e → e0 ≤ e) ∧ f_J6_lowestOneBit_0f7a4 y s = nI (2 ^ e0) := by
  obtain ⟨A, rfl, a2, a3⟩ := h
  have A0 : 0 < A := by
    rcases Nat.eq_zero_or_pos A with e | e
    · exact absurd (by rw [e]; rfl) hne
    · exact e
  have ex : ∃ e0 b, A = 2 ^ e0 * (2 * b + 1) := by
    have : ∀ N A, A ≤ N → 0 < A → ∃ e0 b, A = 2 ^ e0 * (2 * b + 1) := by
      intro N
      induction N with
      | zero => intro A h1 h2; omega
      | succ N ih =>
        intro A h1 h2
        by_cases c : A % 2 = 1
        · exact ⟨0, A / 2, by rw [Nat.pow_zero]; omega⟩
        · obtain ⟨e0, b, hb⟩ := ih (A / 2) (by omega) (by omega)
          refine ⟨e0 + 1, b, ?_⟩
          rw [Nat.pow_succ, Nat.mul_assoc, Nat.mul_comm 2, ← Nat.mul_assoc, ← hb]
          omega
    exact this A A (Nat.le_refl _) A0
  obtain ⟨e0, b, rfl⟩ := ex
  obtain ⟨t1, t2⟩ := t_low 0 e0 b
  refine ⟨e0, (a3 e0).mp t1, fun e he => Classical.byContradiction (fun z => ?_), ?_⟩
  · have := t2 e (by omega)
    rw [(a3 e).mpr he] at this
    exact absurd this (by decide)
  · generalize hA : 2 ^ e0 * (2 * b + 1) = A at *
    have ng : -(nI A) = nI (2 ^ 32 - A) := by
      apply Int32.toBitVec_inj.1
      show -(BitVec.ofNat 32 A) = BitVec.ofNat 32 (2 ^ 32 - A)
      apply BitVec.eq_of_toNat_eq
      rw [BitVec.toNat_neg, BitVec.toNat_ofNat, BitVec.toNat_ofNat, Nat.mod_eq_of_lt (by omega : A < 2 ^ 32)]
    unfold f_J6_lowestOneBit_0f7a4
    rw [ng, fa_and]
    congr 1
    refine Nat.eq_of_testBit_eq (fun j => ?_)
    have e1 : 2 ^ 32 - A = 2 ^ 32 - ((A - 1) + 1) := by omega
    have p0 := Nat.two_pow_pos e0
    have m1 : A - 1 = 2 ^ e0 * (2 * b) + (2 ^ e0 - 1) := by
      rw [← hA, Nat.mul_add, Nat.mul_one]
      omega
    have A1 : A = 2 ^ e0 * (2 * b + 1) + 0 := by rw [hA]; rfl
    have bA : A.testBit j = if j < e0 then (0 : Nat).testBit j else (2 * b + 1).testBit (j - e0) := by
      rw [A1]; exact Nat.testBit_two_pow_mul_add _ p0 j
    have bm : (A - 1).testBit j = if j < e0 then (2 ^ e0 - 1).testBit j else (2 * b).testBit (j - e0) := by
      rw [m1]; exact Nat.testBit_two_pow_mul_add _ (by omega) j
    rw [Nat.testBit_and, e1, Nat.testBit_two_pow_sub_succ (by omega), Nat.testBit_two_pow, bA, bm]
    by_cases c1 : j < e0
    · rw [if_pos c1, Nat.zero_testBit, Bool.false_and]
      simp
      omega
    · rw [if_neg c1, if_neg c1]
      by_cases c2 : j = e0
      · subst c2
        have : j < 17 := Classical.byContradiction (fun y => by
          have := Nat.testBit_lt_two_pow (Nat.lt_of_lt_of_le a2 (Nat.pow_le_pow_right (by decide) (Nat.le_of_not_lt y)))
          rw [this] at t1
          exact absurd t1 (by decide))
        simp [show j < 32 by omega]
      · obtain ⟨w, hw⟩ : ∃ w, j - e0 = w + 1 := ⟨j - e0 - 1, by omega⟩
        rw [hw, Nat.testBit_succ, Nat.testBit_succ, show (2 * b + 1) / 2 = b by omega, show 2 * b / 2 = b by omega]
        have : decide (e0 = j) = false := by simp; omega
        rw [this]
        cases b.testBit w <;> simp
theorem BS.from {e0 m : Nat} (h : e0 ≤ m) (hm : m ≤ 16) : BS (((2 : Int32) <<< (nI m &&& 31)) - nI (2 ^ e0)) 17 (fun e => e0 ≤ e ∧ e ≤ m) := by
  have p1 : 2 ^ e0 ≤ 2 ^ m := Nat.pow_le_pow_right (by decide) h
  have p2 : 2 ^ m ≤ 2 ^ 16 := Nat.pow_le_pow_right (by decide) hm
  have q : (2 : Int32) <<< (nI m &&& 31) = nI (2 * 2 ^ m) := pk_shlN (n := 2) (nI m &&& 31) m (s_l m (by omega)) (by omega)
  have p0 := Nat.two_pow_pos e0
  refine ⟨2 * 2 ^ m - 2 ^ e0, by rw [q, nI_dif (by omega)], by omega, fun e => ?_⟩
  have w : 2 * 2 ^ m - 2 ^ e0 = (2 ^ (m + 1 - e0) - 1) * 2 ^ e0 := by
    rw [Nat.sub_mul, ← Nat.pow_add, show m + 1 - e0 + e0 = m + 1 by omega, Nat.pow_succ, Nat.one_mul, Nat.mul_comm]
  rw [w, Nat.testBit_mul_two_pow, Nat.testBit_two_pow_sub_one, Bool.and_eq_true, decide_eq_true_iff, decide_eq_true_iff]
  omega
/-- one piece of [ ], on both sides -/
def pkX (c r : t_S) (a i p E τ g dp : Nat) (tu gu : Nat) : Prop := tu < 6100 ∧ gu < 13000 ∧
  ((c.1 354 tu ≠ 18 ∧ r.1 955 gu ≠ 39 ∧ ((c.1 354 tu = 2 ∧ c.1 359 tu = 0 ∧ c.1 360 tu = 0) ↔ isS r gu) ∧ CQ c r a i p E τ (g + 2) tu gu (dp + 1)) ∨
   (c.1 354 tu = 18 ∧ r.1 955 gu = 39 ∧ ∃ (v' : Nat) (T' : Nat → Nat), v' ≤ 12 ∧ tc_R c tu v' T' ∧ ch_R r gu v' (gn r gu) ∧ ∀ y, y < v' → T' y < 6100 ∧ CQ c r a i p E τ g (T' y) (gn r gu y) (dp + 1)))
theorem row_in {q gu tu : Nat} {R : Nat → Prop} {l5 : Int32} (C : CC c r a i p E τ) (L : LQ c r a i p E q x0 m I Qe) (ht : tu < 6100) (hQ : CQ c r a i p E τ g tu gu (dp + 1)) (hR : BS l5 17 R) {nx vv : Int32} (hnx : c.1 356 tu = nx) : ∀ (d e : Nat) (l8 : Int32) (s1 : t_S) (N : Nat), e + d = m → d < N → BS l8 17 (fun e' => ∃ e0, e0 < e ∧ R e0 ∧ e' = e0 + 1 ∧ Mn r p E gu (some (Qe e0))) → l2_fr cmW c s1 → MemC c r a i p E τ s1 → (∀ x, x < 12 * dp → s1.1 426 x = s.1 426 x) → ∃ s' l8', t_loop (b_X10_matchesRow_109 (R_X10_behindPerm g)) N (vv, nI dp, nI m, l5, nI tu, nI u, l8, nI (x0 + 1 + I e - i), nI e, s1) = some (.inl (vv, nI dp, nI m, l8', nx, nI (u + 1), s')) ∧ BS l8' 17 (fun e' => ∃ e0, e0 < m ∧ R e0 ∧ e' = e0 + 1 ∧ Mn r p E gu (some (Qe e0))) ∧ l2_fr cmW c s' ∧ MemC c r a i p E τ s' ∧ ∀ x, x < 12 * dp → s'.1 426 x = s.1 426 x := by
  intro d
  have m16 := L.m16
  have lei := L.le
  have ln := C.ln
  induction d with
  | zero =>
    intro e l8 s1 N he hN hb fr hm hk
    obtain ⟨N, rfl⟩ : ∃ y, N = y + 1 := ⟨N - 1, by omega⟩
    obtain rfl : e = m := by omega
    have e56 : s1.1 356 tu = nx := ((cm_fr fr (by omega)).1).trans hnx
    refine ⟨s1, l8, l2_lpR ?_, hb, fr, hm, hk⟩
    show k_X10_matchesRow_109 _ _ _ _ _ _ _ _ _ _ s1 = _
    unfold k_X10_matchesRow_109 k_X10_matchesRow_179
    rw [if_pos (nI_le (Nat.le_refl _) (by omega)), if_pos (l2_ix ht (by decide)), nI_clamp (n := tu) (by omega), e56, nI_1]
    rfl
  | succ d ih =>
    intro e l8 s1 N he hN hb fr hm hk
    obtain ⟨N, rfl⟩ : ∃ y, N = y + 1 := ⟨N - 1, by omega⟩
    obtain ⟨l1, l2, ⟨t', k', l3⟩, l4⟩ := L.el e (by omega)
    have T0 := (hR.test (e := e) (by omega) (by omega)).2
    have ix : nI i + nI (x0 + 1 + I e - i) = nI (x0 + 1 + I e) := by rw [nI_add, show i + (x0 + 1 + I e - i) = x0 + 1 + I e by omega]
    have e149 : ∀ (l8' : Int32) (s2 : t_S), l2_fr cmW c s2 → k_X10_matchesRow_149 (R_X10_behindPerm g) vv (nI dp) (nI m) l5 (nI tu) (nI u) l8' (nI (x0 + 1 + I e - i)) (nI e) s2 = some (.inl (vv, nI dp, nI m, l5, nI tu, nI u, l8', nI (x0 + 1 + I (e + 1) - i), nI (e + 1), s2)) := fun l8' s2 f2 => by
      obtain ⟨fa1, fa2, _, fa4⟩ := C.fa f2
      unfold k_X10_matchesRow_149
      rw [fa1, fa2, if_pos C.ok, ix, if_pos (l2_ix l2 (by omega)), nI_clamp (n := x0 + 1 + I e) (by omega), fa4, vl_size l3, nI_add, nI_1, show x0 + 1 + I e - i + (I (e + 1) - I e) = x0 + 1 + I (e + 1) - i by omega]
    have st0 : b_X10_matchesRow_109 (R_X10_behindPerm g) (vv, nI dp, nI m, l5, nI tu, nI u, l8, nI (x0 + 1 + I e - i), nI e, s1) = k_X10_matchesRow_109 (R_X10_behindPerm g) vv (nI dp) (nI m) l5 (nI tu) (nI u) l8 (nI (x0 + 1 + I e - i)) (nI e) s1 := rfl
    unfold k_X10_matchesRow_109 at st0
    rw [if_neg (nI_ge (show e < m by omega) (by omega))] at st0
    by_cases cR : R e
    · rw [if_neg (fun z => T0.mp z cR)] at st0
      obtain ⟨s2, h1, h2, h3, h4⟩ := hQ s1 _ _ l4 fr hm
      rw [nI_pm] at h1
      rw [nI_1, h1, l2_bs] at st0
      have hk2 : ∀ x, x < 12 * dp → s2.1 426 x = s.1 426 x := fun x hx => (h4 x (by omega)).trans (hk x hx)
      by_cases cM : Mn r p E gu (some (Qe e))
      · rw [bZ_t cM, if_neg (show ¬ (1 : Int32) = 0 by decide), e149 _ s2 h2] at st0
        rw [l2_lpS st0]
        refine ih (e + 1) _ s2 N (by omega) (by omega) ((hb.or (BS.bit2 (e := e) (n := 17) (by omega) (by omega))).iff (fun e' => ⟨fun z => ?_, fun ⟨e0, z1, z2, z3, z4⟩ => ?_⟩)) h2 h3 hk2
        · rcases z with ⟨e0, z1, z2⟩ | z
          · exact ⟨e0, by omega, z2⟩
          · exact ⟨e, by omega, cR, z, cM⟩
        · by_cases ce : e0 = e
          · exact Or.inr (by omega)
          · exact Or.inl ⟨e0, by omega, z2, z3, z4⟩
      · rw [bZ_f cM, if_pos rfl, e149 _ s2 h2] at st0
        rw [l2_lpS st0]
        refine ih (e + 1) _ s2 N (by omega) (by omega) (hb.iff (fun e' => ⟨fun ⟨e0, z1, z2⟩ => ⟨e0, by omega, z2⟩, fun ⟨e0, z1, z2, z3, z4⟩ => ⟨e0, ?_, z2, z3, z4⟩⟩)) h2 h3 hk2
        by_cases ce : e0 = e
        · rw [ce] at z4; exact absurd z4 cM
        · omega
    · rw [if_pos (T0.mpr cR), e149 _ s1 fr] at st0
      rw [l2_lpS st0]
      refine ih (e + 1) _ s1 N (by omega) (by omega) (hb.iff (fun e' => ⟨fun ⟨e0, z1, z2⟩ => ⟨e0, by omega, z2⟩, fun ⟨e0, z1, z2, z3, z4⟩ => ⟨e0, ?_, z2, z3, z4⟩⟩)) fr hm hk
      by_cases ce : e0 = e
      · rw [ce] at z2; exact absurd z2 cR
      · omega
/-- the loop over the pieces -/
theorem rowc_go {q : Nat} (C : CC c r a i p E τ) (L : LQ c r a i p E q x0 m I Qe) (hdp : dp ≤ 100) (hv : v ≤ 12) (hT : tc_R c t v T) (hc : ch_R r n v (gn r n)) (pk : ∀ u, u < v → pkX c r a i p E τ g dp (T u) (gn r n u)) : ∀ (d u : Nat) (l5 : Int32) (s1 : t_S) (N : Nat), u + d = v → d < N → BS l5 17 (rcS r (Mn r p E) n q m u) → l2_fr cmW c s1 → MemC c r a i p E τ s1 → (∀ x, x < 12 * dp → s1.1 426 x = s.1 426 x) → ∃ s', t_loop (b_X10_matchesRow_30 (R_X10_behindPerm (g + 2))) N (nI (x0 - i), nI dp, nI m, l5, nxG v T u, nI u, s1) = some (bZ (rcS r (Mn r p E) n q m v m), s') ∧ l2_fr cmW c s' ∧ MemC c r a i p E τ s' ∧ ∀ x, x < 12 * dp → s'.1 426 x = s.1 426 x := by
  intro d
  have m16 := L.m16
  have lei := L.le
  have fin : ∀ (l5 : Int32) (Q : Nat → Prop) (s1 : t_S), BS l5 17 Q → k_X10_matchesRow_194 (R_X10_behindPerm (g + 2)) (nI m) l5 s1 = some (bZ (Q m), s1) := fun l5 Q s1 hb => by
    have T0 := (hb.test (e := m) (by omega) (by omega)).2
    unfold k_X10_matchesRow_194
    by_cases cq : Q m
    · rw [if_neg (fun z => T0.mp z cq), bZ_t cq]
    · rw [if_pos (T0.mpr cq), bZ_f cq]
  induction d with
  | zero =>
    intro u l5 s1 N hu hN hb fr hm hk
    obtain ⟨N, rfl⟩ : ∃ y, N = y + 1 := ⟨N - 1, by omega⟩
    obtain rfl : u = v := by omega
    refine ⟨s1, l2_lpM ?_, fr, hm, hk⟩
    show k_X10_matchesRow_30 _ _ _ _ _ _ _ s1 = _
    unfold k_X10_matchesRow_30
    rw [nx_out (j := u) (v := u) (by omega), fin l5 _ s1 hb]
    by_cases c12 : (12 : Int32) ≤ nI u
    · rw [if_pos c12]
    · rw [if_neg c12, if_pos (show (-1 : Int32) < 0 by decide)]
  | succ d ih =>
    intro u l5 s1 N hu hN hb fr hm hk
    obtain ⟨N, rfl⟩ : ∃ y, N = y + 1 := ⟨N - 1, by omega⟩
    obtain ⟨tl, gl, pu⟩ := pk u (by omega)
    have hz := hb.z (by omega)
    by_cases e0 : l5 = 0
    · have em := hz.mp e0
      have no := rcS_emp em (v - u) m
      rw [show u + (v - u) = v by omega] at no
      rw [bZ_f no]
      refine ⟨s1, l2_lpM ?_, fr, hm, hk⟩
      show k_X10_matchesRow_30 _ _ _ _ _ _ _ s1 = _
      unfold k_X10_matchesRow_30
      rw [nx_in (j := u) (by omega), if_neg (show ¬ (12 : Int32) ≤ nI u from nI_ge (show u < 12 by omega) (by decide)), if_neg (nI_pos (by omega)), if_pos e0, fin l5 _ s1 hb, bZ_f (em m)]
    · have f54 : s1.1 354 (T u) = c.1 354 (T u) := (cm_fr fr (by omega)).1
      have f59 : s1.1 359 (T u) = c.1 359 (T u) := (cm_fr fr (by omega)).1
      have f60 : s1.1 360 (T u) = c.1 360 (T u) := (cm_fr fr (by omega)).1
      have st0 : b_X10_matchesRow_30 (R_X10_behindPerm (g + 2)) (nI (x0 - i), nI dp, nI m, l5, nxG v T u, nI u, s1) = (if (c.1 354 (T u) = 2 ∧ c.1 359 (T u) = 0 ∧ c.1 360 (T u) = 0) then k_X10_matchesRow_179 (R_X10_behindPerm (g + 2)) (nI (x0 - i)) (nI dp) (nI m) (((2 : Int32) <<< (nI m &&& 31)) - (f_J6_lowestOneBit_0f7a4 l5 s1)) (nI (T u)) (nI u) s1 else if c.1 354 (T u) = 18 then ((m_X10_behindPerm (R_X10_behindPerm (g + 1)) (nI (T u)) (nI (x0 - i)) l5 (nI dp) s1).bind (fun r3 => k_X10_matchesRow_179 (R_X10_behindPerm (g + 2)) (nI (x0 - i)) (nI dp) (nI m) r3.1 (nI (T u)) (nI u) r3.2)) else (t_loop (b_X10_matchesRow_109 (R_X10_behindPerm (g + 2))) t_N (nI (x0 - i), nI dp, nI m, l5, nI (T u), nI u, 0, nI (x0 + 1 + I 0 - i), nI 0, s1))) := by
        have e : (R_X10_behindPerm (g + 2)).1 (nI (T u)) (nI (x0 - i)) l5 (nI dp) s1 = m_X10_behindPerm (R_X10_behindPerm (g + 1)) (nI (T u)) (nI (x0 - i)) l5 (nI dp) s1 := rfl
        have i0 : nI (x0 - i) + 1 = nI (x0 + 1 + I 0 - i) := by rw [nI_1, L.i0, Nat.add_zero, show x0 - i + 1 = x0 + 1 - i by omega]
        show k_X10_matchesRow_30 _ _ _ _ _ _ _ s1 = _
        unfold k_X10_matchesRow_30 f_X10_isRest
        rw [nx_in (j := u) (by omega), if_neg (show ¬ (12 : Int32) ≤ nI u from nI_ge (show u < 12 by omega) (by decide)), if_neg (nI_pos (by omega)), if_neg e0]
        simp only [if_pos (l2_ix (j := T u) (n := 6100) tl (by decide)), nI_clamp (n := T u) (show T u < 2 ^ 31 by omega), f54, f59, f60]
        rw [e, i0]
        by_cases a1 : c.1 354 (T u) = 2
        · rw [if_pos a1]
          by_cases a2 : c.1 359 (T u) = 0
          · rw [if_pos a2]
            by_cases a3 : c.1 360 (T u) = 0
            · rw [if_pos a3, l2_bs, if_neg (show ¬ (1 : Int32) = 0 by decide), if_pos ⟨a1, a2, a3⟩]
            · rw [if_neg a3, l2_bs, if_pos rfl, if_neg (show ¬ (c.1 354 (T u) = 2 ∧ c.1 359 (T u) = 0 ∧ c.1 360 (T u) = 0) from fun z => a3 z.2.2)]
              rfl
          · rw [if_neg a2, l2_bs, if_pos rfl, if_neg (show ¬ (c.1 354 (T u) = 2 ∧ c.1 359 (T u) = 0 ∧ c.1 360 (T u) = 0) from fun z => a2 z.2.1)]
            rfl
        · rw [if_neg a1, l2_bs, if_pos rfl, if_neg (show ¬ (c.1 354 (T u) = 2 ∧ c.1 359 (T u) = 0 ∧ c.1 360 (T u) = 0) from fun z => a1 z.1)]
          rfl
      have turn : ∃ s' l5', b_X10_matchesRow_30 (R_X10_behindPerm (g + 2)) (nI (x0 - i), nI dp, nI m, l5, nxG v T u, nI u, s1) = some (.inl (nI (x0 - i), nI dp, nI m, l5', nxG v T (u + 1), nI (u + 1), s')) ∧ BS l5' 17 (rcS r (Mn r p E) n q m (u + 1)) ∧ l2_fr cmW c s' ∧ MemC c r a i p E τ s' ∧ ∀ x, x < 12 * dp → s'.1 426 x = s.1 426 x := by
        rw [st0]
        rcases pu with ⟨b1, b2, b3, b4⟩ | ⟨b1, b2, v', T', v12, hT', hc', hq'⟩
        · by_cases rest : c.1 354 (T u) = 2 ∧ c.1 359 (T u) = 0 ∧ c.1 360 (T u) = 0
          · -- any number
            have is := b3.mp rest
            rw [if_pos rest]
            obtain ⟨e1, q1, q2, q3⟩ := hb.low (s := s1) e0
            have e1m := rcS_le _ _ q1
            have e56 : s1.1 356 (T u) = nxG v T (u + 1) := ((cm_fr fr (by omega)).1).trans (tc_nx hT (by omega))
            refine ⟨s1, ((2 : Int32) <<< (nI m &&& 31)) - nI (2 ^ e1), ?_, (BS.from e1m m16).iff (fun e' => ?_), fr, hm, hk⟩
            · unfold k_X10_matchesRow_179
              rw [q3, if_pos (l2_ix tl (by decide)), nI_clamp (n := T u) (by omega), e56, nI_1]
            · rw [rcS_st]
              constructor
              · exact fun z => ⟨z.2, e1, q1, Or.inl ⟨is, z.1⟩⟩
              · intro ⟨z1, e, z2, z3⟩
                rcases z3 with ⟨_, z3⟩ | ⟨z3, _⟩ | ⟨z3, _⟩
                · exact ⟨Nat.le_trans (q2 e z2) z3, z1⟩
                · exact absurd z3 b2
                · exact absurd is z3
          · -- a templ
            have nis : ¬ isS r (gn r n u) := fun z => rest (b3.mpr z)
            rw [if_neg rest, if_neg b1]
            obtain ⟨s', l8', h1, h2, h3⟩ := row_in (s := s) (u := u) (vv := nI (x0 - i)) C L tl b4 hb (tc_nx hT (by omega)) m 0 0 s1 t_N (by omega) (by have := l2_N; omega) (BS.zero.iff (fun e => ⟨fun y => y.elim, fun ⟨e0, y, _⟩ => by omega⟩)) fr hm hk
            refine ⟨s', l8', h1, h2.iff (fun e' => ?_), h3⟩
            rw [rcS_st]
            constructor
            · intro ⟨e, z1, z2, z3, z4⟩
              exact ⟨by omega, e, z2, Or.inr (Or.inr ⟨nis, b2, z3, Qe e, (L.eL z1 _).mpr rfl, z4⟩)⟩
            · intro ⟨z1, e, z2, z3⟩
              rcases z3 with ⟨z3, _⟩ | ⟨z3, _⟩ | ⟨_, _, z3, q', z4, z5⟩
              · exact absurd z3 nis
              · exact absurd z3 b2
              · have em : e < m := by omega
                rw [(L.eL em q').mp z4] at z5
                exact ⟨e, em, z2, z3, z5⟩
        · -- perm
          have rest : ¬ (c.1 354 (T u) = 2 ∧ c.1 359 (T u) = 0 ∧ c.1 360 (T u) = 0) := fun z => by rw [b1] at z; exact absurd z.1 (by decide)
          have nis : ¬ isS r (gn r n u) := fun z => by have := z.1; rw [b2] at this; exact absurd this (by decide)
          have ec := ch_cn hc' (by omega)
          rw [if_neg rest, if_pos b1]
          obtain ⟨l7, s', h1, h2, h3, h4, h5⟩ := bp_go (G := gn r (gn r n u)) (gu := 0) C L hdp v12 tl hT' hq' hb fr hm
          have e56 : s'.1 356 (T u) = nxG v T (u + 1) := ((cm_fr h3 (by omega)).1).trans (tc_nx hT (by omega))
          refine ⟨s', l7, ?_, h2.iff (fun e' => ?_), h3, h4, fun x hx => (h5 x hx).trans (hk x hx)⟩
          · unfold k_X10_matchesRow_179
            rw [h1, l2_bs, if_pos (l2_ix tl (by decide)), nI_clamp (n := T u) (by omega), e56, nI_1]
          · have kk : ∀ e, e + v' ≤ m → (kp_L (fun x y => y < v' ∧ e + x < m ∧ Mn r p E (gn r (gn r n u) y) (some (Qe (e + x)))) v' ↔ kp_L (fun x y => y < v' ∧ ∃ q', eL r q (e + x) q' ∧ Mn r p E (gn r (gn r n u) y) (some q')) v') := fun e he => kp_cg (fun x y hx => and_congr_right (fun _ => ⟨fun ⟨w1, w2⟩ => ⟨_, (L.eL w1 _).mpr rfl, w2⟩, fun ⟨q', w1, w2⟩ => ⟨by omega, by rw [(L.eL (by omega) q').mp w1] at w2; exact w2⟩⟩))
            rw [rcS_st]
            constructor
            · intro ⟨z1, e, z2, z3, z4⟩
              exact ⟨z1, e, z2, Or.inr (Or.inl ⟨b2, by rw [ec]; exact z3, by rw [ec]; exact (kk e (by omega)).mp z4⟩)⟩
            · intro ⟨z1, e, z2, z3⟩
              rcases z3 with ⟨z3, _⟩ | ⟨_, z3, z4⟩ | ⟨_, z3, _⟩
              · exact absurd z3 nis
              · rw [ec] at z3 z4
                exact ⟨z1, e, z2, z3, (kk e (by omega)).mpr z4⟩
              · exact absurd b2 z3
      obtain ⟨s2, l5', st, b2, f2, m2, k2⟩ := turn
      rw [l2_lpS st]
      exact ih (u + 1) l5' s2 N (by omega) (by omega) b2 f2 m2 k2
theorem ct_row (C : CC c r a i p E τ) (pb : p + 260 ≤ 626600) (pr : ∀ x, x ≤ E → wq (r.2.1 1006) p x < p + 250) (pd : ∀ x, x < E → PD (c.2.1 a) (r.2.1 1006) i p E x) (ht : t < 6100) (hdp : dp ≤ 100) (hk : r.1 955 n = 31) (h54 : c.1 354 t = 10) (hv : v ≤ 12) (hT : tc_R c t v T) (hc : ch_R r n v (gn r n)) (pk : ∀ u, u < v → pkX c r a i p E τ g dp (T u) (gn r n u)) : CT c r a i p E τ (g + 3) t dp (fun o => Mt r p E (Mn r p E) n o) := by
  intro s o k hV fr hm
  have f54 : s.1 354 t = 10 := ((cm_fr fr (by omega)).1).trans h54
  have f55 : s.1 355 t = nxG v T 0 := ((cm_fr fr (by omega)).1).trans (tc_n0 hT)
  obtain ⟨fa1, fa2, _, fa4⟩ := C.fa fr
  have ec := ch_cn hc (by omega)
  have need : ∀ o, Mt r p E (Mn r p E) n o → ∃ q, o = some q ∧ r.2.1 1006 q = lN 8 := fun o h => by
    unfold Mt at h
    rw [hk, if_neg (by decide), if_neg (by decide), if_neg (by decide), if_pos rfl] at h
    obtain ⟨q, m, h1, h2, _⟩ := h
    exact ⟨q, h1, h2⟩
  cases o with
  | none =>
    have k0 := hV.k0
    subst k0
    refine ⟨s, ?_, fr, hm, fun _ _ => rfl⟩
    rw [bZ_f (fun z => by obtain ⟨q, z, _⟩ := need none z; exact no_ns z)]
    unfold k_X10_matches_61
    rw [if_pos (l2_ix ht (by decide)), nI_clamp (n := t) (by omega), f54, if_neg (by decide), if_neg (by decide), if_neg (by decide), if_neg (by decide), if_neg (by decide), if_neg (by decide), if_neg (by decide), if_neg (by decide), if_neg (by decide), if_neg (by decide), if_pos (by decide), if_pos (show nI 0 - 1 < (0 : Int32) by decide)]
  | some q =>
    obtain ⟨x, hx, hq', hk', _⟩ := hV.nn
    obtain ⟨w1, w2⟩ := C.wb x hx
    obtain ⟨k', rfl⟩ : ∃ k', k = k' + 1 := ⟨k - 1, by omega⟩
    have hl := wv_lt C pd hx
    have ln := C.ln
    obtain ⟨t0, n0, K8, hcl, K16, hr, _⟩ := pd_hd pd hx
    have ne : nI K8 = (8 : Int32) ↔ K8 = 8 := nI_eq (b := 8) (by omega) (by decide)
    have kx : k' = wv (c.2.1 a) i x - i := by omega
    have ix : nI i + nI k' = nI (wv (c.2.1 a) i x) := by rw [nI_add, show i + k' = wv (c.2.1 a) i x by omega]
    have st : k_X10_matches_61 (R_X10_behindPerm (g + 3)) (nI t) (nI (k' + 1) - 1) (nI dp) s = (if nI K8 = (8 : Int32) then ((m_X10_matchesRow (R_X10_behindPerm (g + 2)) (nI t) (nI k') (nI dp) s).bind (fun r23 => if r23.1 = (0 : Int32) then (some ((0 : Int32), r23.2)) else (some ((1 : Int32), r23.2)))) else (some ((0 : Int32), s))) := by
      have e : (R_X10_behindPerm (g + 3)).2.2.2.2.1 (nI t) (nI k') (nI dp) s = m_X10_matchesRow (R_X10_behindPerm (g + 2)) (nI t) (nI k') (nI dp) s := rfl
      unfold k_X10_matches_61
      rw [if_pos (l2_ix ht (by decide)), nI_clamp (n := t) (by omega), f54, if_neg (by decide), if_neg (by decide), if_neg (by decide), if_neg (by decide), if_neg (by decide), if_neg (by decide), if_neg (by decide), if_neg (by decide), if_neg (by decide), if_neg (by decide), if_pos (by decide), nI_pm, if_neg (nI_pos (by omega)), fa1, fa2, if_pos C.ok, ix, if_pos (l2_ix hl (by omega)), nI_clamp (n := wv (c.2.1 a) i x) (by omega), fa4, vl_kind hcl, e]
    rw [st]
    by_cases e8 : K8 = 8
    · rw [if_pos (ne.mpr e8)]
      have h8 : r.2.1 1006 (wq (r.2.1 1006) p x) = lN 8 := by rw [hr, e8]
      obtain ⟨m, I, Qe, L⟩ := pd_k8 C pb pr pd hx h8
      have m16 := L.m16
      obtain ⟨s', h1, h2⟩ := rowc_go (s := s) (n := n) C L hdp hv hT hc pk v 0 1 s t_N (by omega) (by have := l2_N; omega) (((BS.bit (e := 0) (n := 17) (by decide) (by decide)) : BS 1 17 _).iff (fun e => Iff.rfl)) fr hm (fun _ _ => rfl)
      obtain ⟨nn, hd⟩ := L.hd
      have pe : f_X8_partsOf (c.2.1 a (wv (c.2.1 a) i x)) s = nI m := by
        unfold f_X8_partsOf
        rw [vl_i32 hd (by omega)]
      have mr : m_X10_matchesRow (R_X10_behindPerm (g + 2)) (nI t) (nI k') (nI dp) s = some (bZ (rcS r (Mn r p E) n (wq (r.2.1 1006) p x) m v m), s') := by
        unfold m_X10_matchesRow
        rw [fa1, fa2, if_pos C.ok, ix, if_pos (l2_ix hl (by omega)), if_pos (l2_ix ht (by decide)), nI_clamp (n := wv (c.2.1 a) i x) (by omega), nI_clamp (n := t) (by omega), fa4, pe, f55, kx]
        exact h1
      refine ⟨s', ?_, h2⟩
      have hM : Mt r p E (Mn r p E) n (some q) ↔ rcS r (Mn r p E) n (wq (r.2.1 1006) p x) m v m := by
        unfold Mt
        rw [hk, if_neg (by decide), if_neg (by decide), if_neg (by decide), if_pos rfl, ec]
        constructor
        · intro ⟨q', m', a1, a2, a3, a4, a5⟩
          injection a1 with a1
          subst a1
          rw [hq'] at a3 a5
          rw [L.rm] at a3
          rw [lN_inj (by omega) (by omega) a3]
          exact a5
        · intro a5
          exact ⟨q, m, rfl, by rw [hq']; exact h8, by rw [hq']; exact L.rm, m16, by rw [hq']; exact a5⟩
      rw [mr, l2_bs, bZ_i hM]
      rcases bZ_01 (P := rcS r (Mn r p E) n (wq (r.2.1 1006) p x) m v m) with w | w <;> rw [w] <;> rfl
    · rw [if_neg (fun w => e8 (ne.mp w)), bZ_f (fun z => by
        obtain ⟨q', w1, w⟩ := need _ z
        injection w1 with w1
        rw [← w1, hq', hr] at w
        exact e8 (lN_inj (by omega) (by omega) w))]
      exact ⟨s, rfl, fr, hm, fun _ _ => rfl⟩
end
