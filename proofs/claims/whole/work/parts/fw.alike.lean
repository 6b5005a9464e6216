/-! Level 2: both sides' least weights: alike below a million; both sides' full types. -/
section
/-- what is below every value that F makes of such stays below -/
theorem gsK.above {F : (Nat → Nat) → Nat → Nat} {N T : Nat} {P : Nat → Nat → Prop} (hP : ∀ (y : Nat → Nat) i x, i < N → P i x → (∀ u x', P u x' → x' ≤ y u) → x ≤ F y i) (hT : ∀ i x, P i x → x ≤ T) : ∀ k i x, P i x → x ≤ gsK F N T k i := by
  have rd : ∀ n, n ≤ N → ∀ y : Nat → Nat, (∀ u x, P u x → x ≤ y u) → ∀ u x, P u x → x ≤ gsR F n y u := by
    intro n
    induction n with
    | zero => intro _ y h; exact h
    | succ n ih =>
      intro hn y h
      refine ih (by omega) _ (fun u x hx => ?_)
      unfold gsS
      by_cases c : u = n
      · rw [if_pos c]
        subst c
        have h1 := h u x hx
        have h2 := hP y u x (by omega) hx h
        omega
      · rw [if_neg c]
        exact h u x hx
  intro k
  induction k with
  | zero => intro i x hx; exact hT i x hx
  | succ k ih => exact rd N (Nat.le_refl _) _ ih
variable {s r : t_S} {a m n v : Nat} {y z : Nat → Nat} {R : Nat → Nat → Prop} {F G : Nat → Nat}
/-- both sides' fields, side by side -/
def bwF (s r : t_S) (n m v : Nat) (F G : Nat → Nat) (R : Nat → Nat → Prop) : Prop := v ≤ 16 ∧ cc_R s n v F ∧ ch_R r m v G ∧ ∀ j, j < v → (s.1 321 (F j) = 0 ↔ r.2.1 958 (G j) = 0) ∧ ∃ n' m' : Nat, s.1 318 (F j) = nI n' ∧ r.1 959 (G j) = nI m' ∧ n' < 3001 ∧ m' < 13000 ∧ R n' m'
theorem bwF.at (h : bwF s r n m v F G R) {i : Nat} (hi : i < v) : (nI (F i)).toNatClampNeg = F i ∧ (nI (G i)).toNatClampNeg = G i ∧ ¬ (nI (F i)).toInt < 0 ∧ ¬ (nI (G i)).toInt < 0 ∧ s.1 319 (F i) = (if i + 1 < v then nI (F (i + 1)) else -1) ∧ r.1 960 (G i) = (if i + 1 < v then nI (G (i + 1)) else -1) := by
  obtain ⟨f1, f2, f3, f4⟩ := h.2.1.2 i hi
  obtain ⟨g1, g2, g3, g4⟩ := h.2.2.1.2 i hi
  refine ⟨nI_clamp (by omega), nI_clamp (by omega), ?_, ?_, f3, g3⟩
  · rw [nI_toInt (by omega)]; omega
  · rw [nI_toInt (by omega)]; omega
theorem bw_recA (h : bwF s r n m v F G R) (hb : ∀ n' m', R n' m' → min 1000000 (z m') ≤ lsV a y (nI n')) : ∀ d i, d = v - i → i ≤ v → ∀ K, d < K → ∀ w x, min 1000000 x ≤ w → min 1000000 (rlRc r z K (if i < v then nI (G i) else -1) x) ≤ lsRc s a y d (if i < v then nI (F i) else -1) w := by
  intro d
  induction d with
  | zero =>
    intro i hd hi K hK w x hw
    obtain ⟨K, rfl⟩ : ∃ q, K = q + 1 := ⟨K - 1, by omega⟩
    rw [if_neg (by omega), if_neg (by omega), rlRc.succ, if_pos (by decide)]
    exact hw
  | succ d ih =>
    intro i hd hi K hK w x hw
    obtain ⟨K, rfl⟩ : ∃ q, K = q + 1 := ⟨K - 1, by omega⟩
    have iv : i < v := by omega
    obtain ⟨q1, q2, q3, q4, q5, q6⟩ := h.at iv
    obtain ⟨op, n', m', c1, c2, c3, c4, c5⟩ := h.2.2.2 i iv
    have b := hb n' m' c5
    rw [if_pos iv, if_pos iv, rlRc.succ, lsRc.succ, if_neg q3, if_neg q4, q1, q2, q5, q6, c1, c2, nI_clamp (n := m') (by omega)]
    by_cases o : s.1 321 (F i) = 0
    · rw [if_pos o, if_pos (op.mp o)]
      by_cases l : lsV a y (nI n') < 2000000
      · rw [if_pos l]
        exact ih (i + 1) (by omega) (by omega) K (by omega) _ _ (by omega)
      · rw [if_neg l]
        omega
    · rw [if_neg o, if_neg (fun q => o (op.mpr q))]
      exact ih (i + 1) (by omega) (by omega) K (by omega) _ _ hw
theorem bw_recB (h : bwF s r n m v F G R) (hb : ∀ n' m', R n' m' → min 1000000 (lsV a y (nI n')) ≤ z m') : ∀ d i, d = v - i → i ≤ v → ∀ K, d < K → ∀ w x, min 1000000 w ≤ x → x ≤ 4000000000000000000 → min 1000000 (lsRc s a y d (if i < v then nI (F i) else -1) w) ≤ rlRc r z K (if i < v then nI (G i) else -1) x := by
  intro d
  induction d with
  | zero =>
    intro i hd hi K hK w x hw _
    obtain ⟨K, rfl⟩ : ∃ q, K = q + 1 := ⟨K - 1, by omega⟩
    rw [if_neg (by omega), if_neg (by omega), rlRc.succ, if_pos (by decide)]
    exact hw
  | succ d ih =>
    intro i hd hi K hK w x hw hx
    obtain ⟨K, rfl⟩ : ∃ q, K = q + 1 := ⟨K - 1, by omega⟩
    have iv : i < v := by omega
    obtain ⟨q1, q2, q3, q4, q5, q6⟩ := h.at iv
    obtain ⟨op, n', m', c1, c2, c3, c4, c5⟩ := h.2.2.2 i iv
    have b := hb n' m' c5
    rw [if_pos iv, if_pos iv, rlRc.succ, lsRc.succ, if_neg q3, if_neg q4, q1, q2, q5, q6, c1, c2, nI_clamp (n := m') (by omega)]
    by_cases o : s.1 321 (F i) = 0
    · rw [if_pos o, if_pos (op.mp o)]
      by_cases l : lsV a y (nI n') < 2000000
      · rw [if_pos l]
        exact ih (i + 1) (by omega) (by omega) K (by omega) _ _ (by omega) (by omega)
      · rw [if_neg l]
        have g := rlRc.ge (r := r) (y := z) K (if i + 1 < v then nI (G (i + 1)) else -1) (min 4000000000000000000 (x + min 4000000000000000000 (1 + z m'))) (by omega)
        omega
    · rw [if_neg o, if_neg (fun q => o (op.mpr q))]
      exact ih (i + 1) (by omega) (by omega) K (by omega) _ _ hw hx
theorem bw_choA (h : bwF s r n m v F G R) (hb : ∀ n' m', R n' m' → min 1000000 (z m') ≤ lsV a y (nI n')) : ∀ d i, d = v - i → i ≤ v → ∀ K, d < K → ∀ w x, min 1000000 x ≤ w → min 1000000 (rlCh r z K (if i < v then nI (G i) else -1) x) ≤ lsCh s a y d (if i < v then nI (F i) else -1) w := by
  intro d
  induction d with
  | zero =>
    intro i hd hi K hK w x hw
    obtain ⟨K, rfl⟩ : ∃ q, K = q + 1 := ⟨K - 1, by omega⟩
    rw [if_neg (by omega), if_neg (by omega), rlCh.succ, if_pos (by decide)]
    exact hw
  | succ d ih =>
    intro i hd hi K hK w x hw
    obtain ⟨K, rfl⟩ : ∃ q, K = q + 1 := ⟨K - 1, by omega⟩
    have iv : i < v := by omega
    obtain ⟨q1, q2, q3, q4, q5, q6⟩ := h.at iv
    obtain ⟨op, n', m', c1, c2, c3, c4, c5⟩ := h.2.2.2 i iv
    have b := hb n' m' c5
    rw [if_pos iv, if_pos iv, rlCh.succ, lsCh.succ, if_neg q3, if_neg q4, q1, q2, q5, q6, c1, c2, nI_clamp (n := m') (by omega)]
    refine ih (i + 1) (by omega) (by omega) K (by omega) _ _ ?_
    split <;> omega
theorem bw_choB (h : bwF s r n m v F G R) (hb : ∀ n' m', R n' m' → min 1000000 (lsV a y (nI n')) ≤ z m') : ∀ d i, d = v - i → i ≤ v → ∀ K, d < K → ∀ w x, min 1000000 w ≤ x → min 1000000 (lsCh s a y d (if i < v then nI (F i) else -1) w) ≤ rlCh r z K (if i < v then nI (G i) else -1) x := by
  intro d
  induction d with
  | zero =>
    intro i hd hi K hK w x hw
    obtain ⟨K, rfl⟩ : ∃ q, K = q + 1 := ⟨K - 1, by omega⟩
    rw [if_neg (by omega), if_neg (by omega), rlCh.succ, if_pos (by decide)]
    exact hw
  | succ d ih =>
    intro i hd hi K hK w x hw
    obtain ⟨K, rfl⟩ : ∃ q, K = q + 1 := ⟨K - 1, by omega⟩
    have iv : i < v := by omega
    obtain ⟨q1, q2, q3, q4, q5, q6⟩ := h.at iv
    obtain ⟨op, n', m', c1, c2, c3, c4, c5⟩ := h.2.2.2 i iv
    have b := hb n' m' c5
    rw [if_pos iv, if_pos iv, rlCh.succ, lsCh.succ, if_neg q3, if_neg q4, q1, q2, q5, q6, c1, c2, nI_clamp (n := m') (by omega)]
    refine ih (i + 1) (by omega) (by omega) K (by omega) _ _ ?_
    split <;> omega
/-- which types' nodes of both sides are alike: R leads on within R -/
def bwE (s r : t_S) (a m : Nat) (R : Nat → Nat → Prop) : Prop := ∀ n k, R n k → n < a ∧ k < m ∧ ∃ K : Nat, s.1 317 n = nI K ∧ r.1 955 k = nI K ∧ ((K = 1 ∨ K = 2 ∨ K = 4) ∨ (K = 3 ∧ lsLo s n = rlLo r k) ∨ ((K = 5 ∨ K = 6) ∧ ∃ (v : Nat) (F G : Nat → Nat), s.1 321 n = nI v ∧ bwF s r n k v F G R) ∨ (K = 7 ∧ lsLo s n = rlLo r k ∧ ∃ n' k' : Nat, s.1 318 n = nI n' ∧ r.1 959 k = nI k' ∧ n' < 3001 ∧ k' < 13000 ∧ R n' k') ∨ (K = 8 ∧ ∃ n' : Nat, s.1 326 (s.1 321 n).toNatClampNeg = nI n' ∧ n' < 3001 ∧ R n' (rlNm r k)))
theorem lsV.nI {n : Nat} (ha : a ≤ 3000) (hn : n < a) : lsV a y (nI n) = y n := by
  unfold lsV
  rw [nI_clamp (n := n) (by omega), if_pos hn]
theorem lsF.k1 (h : s.1 317 n = 1 ∨ s.1 317 n = 2 ∨ s.1 317 n = 4) : lsF s a y n = 1 := by
  unfold lsF
  rw [if_pos h]
theorem lsF.k3 (h : s.1 317 n = 3) : lsF s a y n = 1 + (lsLo s n + 7) / 8 := by
  unfold lsF
  rw [if_neg (show ¬ (s.1 317 n = 1 ∨ s.1 317 n = 2 ∨ s.1 317 n = 4) by rw [h]; decide), if_pos (show s.1 317 n = 3 from h)]
theorem lsF.k5 (h : s.1 317 n = 5) : lsF s a y n = lsRc s a y (s.1 321 n).toNatClampNeg (s.1 318 n) 1 := by
  unfold lsF
  rw [if_neg (show ¬ (s.1 317 n = 1 ∨ s.1 317 n = 2 ∨ s.1 317 n = 4) by rw [h]; decide), if_neg (show ¬ s.1 317 n = 3 by rw [h]; decide), if_pos (show s.1 317 n = 5 from h)]
theorem lsF.k6 (h : s.1 317 n = 6) : lsF s a y n = lsCh s a y (s.1 321 n).toNatClampNeg (s.1 318 n) 2000000 := by
  unfold lsF
  rw [if_neg (show ¬ (s.1 317 n = 1 ∨ s.1 317 n = 2 ∨ s.1 317 n = 4) by rw [h]; decide), if_neg (show ¬ s.1 317 n = 3 by rw [h]; decide), if_neg (show ¬ s.1 317 n = 5 by rw [h]; decide), if_pos (show s.1 317 n = 6 from h)]
theorem lsF.k7 (h : s.1 317 n = 7) : lsF s a y n = (if lsLo s n = 0 then 1 else if lsV a y (s.1 318 n) < 2000000 then min 1000000 (1 + lsLo s n * lsV a y (s.1 318 n)) else 2000000) := by
  unfold lsF
  rw [if_neg (show ¬ (s.1 317 n = 1 ∨ s.1 317 n = 2 ∨ s.1 317 n = 4) by rw [h]; decide), if_neg (show ¬ s.1 317 n = 3 by rw [h]; decide), if_neg (show ¬ s.1 317 n = 5 by rw [h]; decide), if_neg (show ¬ s.1 317 n = 6 by rw [h]; decide), if_pos (show s.1 317 n = 7 from h)]
theorem lsF.k8 (h : s.1 317 n = 8) : lsF s a y n = lsV a y (s.1 326 (s.1 321 n).toNatClampNeg) := by
  unfold lsF
  rw [if_neg (show ¬ (s.1 317 n = 1 ∨ s.1 317 n = 2 ∨ s.1 317 n = 4) by rw [h]; decide), if_neg (show ¬ s.1 317 n = 3 by rw [h]; decide), if_neg (show ¬ s.1 317 n = 5 by rw [h]; decide), if_neg (show ¬ s.1 317 n = 6 by rw [h]; decide), if_neg (show ¬ s.1 317 n = 7 by rw [h]; decide), if_pos (show s.1 317 n = 8 from h)]
theorem rlF.k1 (h : r.1 955 n = 1 ∨ r.1 955 n = 2 ∨ r.1 955 n = 4) : rlF r y n = 1 := by
  unfold rlF
  rw [if_pos h]
theorem rlF.k3 (h : r.1 955 n = 3) : rlF r y n = 1 + (rlLo r n + 7) / 8 := by
  unfold rlF
  rw [if_neg (show ¬ (r.1 955 n = 1 ∨ r.1 955 n = 2 ∨ r.1 955 n = 4) by rw [h]; decide), if_pos (show r.1 955 n = 3 from h)]
theorem rlF.k5 (h : r.1 955 n = 5) : rlF r y n = rlRc r y 13000 (r.1 959 n) 1 := by
  unfold rlF
  rw [if_neg (show ¬ (r.1 955 n = 1 ∨ r.1 955 n = 2 ∨ r.1 955 n = 4) by rw [h]; decide), if_neg (show ¬ r.1 955 n = 3 by rw [h]; decide), if_pos (show r.1 955 n = 5 from h)]
theorem rlF.k6 (h : r.1 955 n = 6) : rlF r y n = rlCh r y 13000 (r.1 959 n) 4000000000000000000 := by
  unfold rlF
  rw [if_neg (show ¬ (r.1 955 n = 1 ∨ r.1 955 n = 2 ∨ r.1 955 n = 4) by rw [h]; decide), if_neg (show ¬ r.1 955 n = 3 by rw [h]; decide), if_neg (show ¬ r.1 955 n = 5 by rw [h]; decide), if_pos (show r.1 955 n = 6 from h)]
theorem rlF.k7 (h : r.1 955 n = 7) : rlF r y n = (if rlLo r n = 0 then 1 else min 4000000000000000000 (1 + min 4000000000000000000 (rlLo r n * y (r.1 959 n).toNatClampNeg))) := by
  unfold rlF
  rw [if_neg (show ¬ (r.1 955 n = 1 ∨ r.1 955 n = 2 ∨ r.1 955 n = 4) by rw [h]; decide), if_neg (show ¬ r.1 955 n = 3 by rw [h]; decide), if_neg (show ¬ r.1 955 n = 5 by rw [h]; decide), if_neg (show ¬ r.1 955 n = 6 by rw [h]; decide), if_pos (show r.1 955 n = 7 from h)]
theorem rlF.k8 (h : r.1 955 n = 8) : rlF r y n = y (rlNm r n) := by
  unfold rlF
  rw [if_neg (show ¬ (r.1 955 n = 1 ∨ r.1 955 n = 2 ∨ r.1 955 n = 4) by rw [h]; decide), if_neg (show ¬ r.1 955 n = 3 by rw [h]; decide), if_neg (show ¬ r.1 955 n = 5 by rw [h]; decide), if_neg (show ¬ r.1 955 n = 6 by rw [h]; decide), if_neg (show ¬ r.1 955 n = 7 by rw [h]; decide), if_pos (show r.1 955 n = 8 from h)]
theorem bw_A (E : bwE s r a m R) (ha : a ≤ 3000) {k : Nat} (h : R n k) (hb : ∀ n' m', R n' m' → min 1000000 (z m') ≤ y n') : min 1000000 (rlF r z k) ≤ lsF s a y n := by
  have hb' : ∀ n' m', R n' m' → min 1000000 (z m') ≤ lsV a y (nI n') := fun n' m' q => by
    rw [lsV.nI ha (E n' m' q).1]
    exact hb n' m' q
  obtain ⟨n1, k1, K, e1, e2, hc⟩ := E n k h
  rcases hc with q | ⟨rfl, q⟩ | ⟨q, v, F, G, q1, q2⟩ | ⟨rfl, q0, n', k', q1, q2, q3, q4, q5⟩ | ⟨rfl, n', q1, q2, q3⟩
  · have t1 : s.1 317 n = 1 ∨ s.1 317 n = 2 ∨ s.1 317 n = 4 := by
      rcases q with rfl | rfl | rfl
      · exact Or.inl e1
      · exact Or.inr (Or.inl e1)
      · exact Or.inr (Or.inr e1)
    have t2 : r.1 955 k = 1 ∨ r.1 955 k = 2 ∨ r.1 955 k = 4 := by
      rcases q with rfl | rfl | rfl
      · exact Or.inl e2
      · exact Or.inr (Or.inl e2)
      · exact Or.inr (Or.inr e2)
    rw [lsF.k1 t1, rlF.k1 t2]
    decide
  · rw [lsF.k3 e1, rlF.k3 e2, q]
    omega
  · have cl : (nI v).toNatClampNeg = v := nI_clamp (by have := q2.1; omega)
    have c1 := q2.2.1.1
    have g1 := q2.2.2.1.1
    rcases q with rfl | rfl
    · rw [lsF.k5 e1, rlF.k5 e2, q1, cl, c1, g1]
      exact bw_recA q2 hb' v 0 rfl (Nat.zero_le _) 13000 (by have := q2.1; omega) 1 1 (by decide)
    · rw [lsF.k6 e1, rlF.k6 e2, q1, cl, c1, g1]
      exact bw_choA q2 hb' v 0 rfl (Nat.zero_le _) 13000 (by have := q2.1; omega) 2000000 4000000000000000000 (by decide)
  · rw [lsF.k7 e1, rlF.k7 e2, q0, q1, q2, nI_clamp (n := k') (by omega)]
    have b := hb' n' k' q5
    by_cases l0 : rlLo r k = 0
    · rw [if_pos l0, if_pos l0]
      decide
    rw [if_neg l0, if_neg l0]
    by_cases l : lsV a y (nI n') < 2000000
    · rw [if_pos l]
      by_cases w : z k' ≤ 1000000
      · have m1 := Nat.mul_le_mul_left (rlLo r k) (show z k' ≤ lsV a y (nI n') by omega)
        omega
      · have m1 : lsV a y (nI n') ≤ rlLo r k * lsV a y (nI n') := Nat.le_mul_of_pos_left _ (by omega)
        omega
    · rw [if_neg l]
      omega
  · rw [lsF.k8 e1, rlF.k8 e2, q1]
    exact hb' _ _ q3
theorem bw_B (E : bwE s r a m R) (ha : a ≤ 3000) {k : Nat} (h : R n k) (hb : ∀ n' m', R n' m' → min 1000000 (y n') ≤ z m') : min 1000000 (lsF s a y n) ≤ rlF r z k := by
  have hb' : ∀ n' m', R n' m' → min 1000000 (lsV a y (nI n')) ≤ z m' := fun n' m' q => by
    rw [lsV.nI ha (E n' m' q).1]
    exact hb n' m' q
  obtain ⟨n1, k1, K, e1, e2, hc⟩ := E n k h
  rcases hc with q | ⟨rfl, q⟩ | ⟨q, v, F, G, q1, q2⟩ | ⟨rfl, q0, n', k', q1, q2, q3, q4, q5⟩ | ⟨rfl, n', q1, q2, q3⟩
  · have t1 : s.1 317 n = 1 ∨ s.1 317 n = 2 ∨ s.1 317 n = 4 := by
      rcases q with rfl | rfl | rfl
      · exact Or.inl e1
      · exact Or.inr (Or.inl e1)
      · exact Or.inr (Or.inr e1)
    have t2 : r.1 955 k = 1 ∨ r.1 955 k = 2 ∨ r.1 955 k = 4 := by
      rcases q with rfl | rfl | rfl
      · exact Or.inl e2
      · exact Or.inr (Or.inl e2)
      · exact Or.inr (Or.inr e2)
    rw [lsF.k1 t1, rlF.k1 t2]
    decide
  · rw [lsF.k3 e1, rlF.k3 e2, q]
    omega
  · have cl : (nI v).toNatClampNeg = v := nI_clamp (by have := q2.1; omega)
    have c1 := q2.2.1.1
    have g1 := q2.2.2.1.1
    rcases q with rfl | rfl
    · rw [lsF.k5 e1, rlF.k5 e2, q1, cl, c1, g1]
      exact bw_recB q2 hb' v 0 rfl (Nat.zero_le _) 13000 (by have := q2.1; omega) 1 1 (by decide) (by decide)
    · rw [lsF.k6 e1, rlF.k6 e2, q1, cl, c1, g1]
      exact bw_choB q2 hb' v 0 rfl (Nat.zero_le _) 13000 (by have := q2.1; omega) 2000000 4000000000000000000 (by decide)
  · rw [lsF.k7 e1, rlF.k7 e2, q0, q1, q2, nI_clamp (n := k') (by omega)]
    have b := hb' n' k' q5
    by_cases l0 : rlLo r k = 0
    · rw [if_pos l0, if_pos l0]
      decide
    rw [if_neg l0, if_neg l0]
    have m2 : z k' ≤ rlLo r k * z k' := Nat.le_mul_of_pos_left _ (by omega)
    by_cases l : lsV a y (nI n') < 2000000
    · rw [if_pos l]
      by_cases w : lsV a y (nI n') ≤ 1000000
      · have m1 := Nat.mul_le_mul_left (rlLo r k) (show lsV a y (nI n') ≤ z k' by omega)
        omega
      · omega
    · rw [if_neg l]
      omega
  · rw [lsF.k8 e1, rlF.k8 e2, q1]
    exact hb' _ _ q3
/-- both sides' least weights: alike below a million -/
theorem bw_same (E : bwE s r a m R) (ha : a ≤ 3000) {ρ ρ' : Nat → Nat} {nt : Nat → Nat} (hW : lsW s a) (hR : lsRk s a ρ) (hW' : rlW nt r m) (hR' : rlRk r m ρ') {k : Nat} (h : R n k) : min 1000000 (rlY r m k) = min 1000000 (lsY s a n) := by
  have A : ∀ n k, R n k → min 1000000 (rlY r m k) ≤ lsY s a n := fun n k q => by
    refine gsK.above (F := lsF s a) (N := a) (T := 2000000) (P := fun i x => ∃ k, R i k ∧ x = min 1000000 (rlY r m k)) (fun y i x hi ⟨k, q1, q2⟩ hy => ?_) (fun i x ⟨k, _, q2⟩ => by omega) a n _ ⟨k, q, rfl⟩
    subst q2
    have := bw_A (z := rlY r m) E ha q1 (fun n' m' q' => hy n' _ ⟨m', q', rfl⟩)
    rw [rlY.fix hW' hR' (E i k q1).2.1] at this
    exact this
  have B : ∀ n k, R n k → min 1000000 (lsY s a n) ≤ rlY r m k := fun n k q => by
    refine gsK.above (F := rlF r) (N := m) (T := 4000000000000000000) (P := fun i x => ∃ n, R n i ∧ x = min 1000000 (lsY s a n)) (fun y i x hi ⟨n, q1, q2⟩ hy => ?_) (fun i x ⟨k, _, q2⟩ => by omega) m k _ ⟨n, q, rfl⟩
    subst q2
    have := bw_B (y := lsY s a) (z := y) E ha q1 (fun n' m' q' => hy m' _ ⟨n', q', rfl⟩)
    rw [lsY.fix hW hR (E n i q1).1] at this
    exact this
  have := A n k h
  have := B n k h
  omega
end
