/-! Level 2: both sides' full types: the same. -/
section
/-- at rest nothing would fall -/
theorem gsR.stay {F : (Nat → Nat) → Nat → Nat} : ∀ N (y : Nat → Nat), gsR F N y = y → ∀ n, n < N → y n ≤ F y n := by
  intro N
  induction N with
  | zero => intro y _ n hn; omega
  | succ N ih =>
    intro y h n hn
    have h : gsR F N (gsS F y N) = y := h
    have le : ∀ i, y i ≤ gsS F y N i := fun i => by
      have := gsR.le (F := F) N (gsS F y N) i
      rw [h] at this
      exact this
    have e : gsS F y N = y := funext (fun i => Nat.le_antisymm gsS.le (le i))
    rw [e] at h
    by_cases c : n = N
    · subst c
      have := le n
      unfold gsS at this
      rw [if_pos rfl] at this
      omega
    · exact ih y h n (by omega)
variable {s r : t_S} {a m n v : Nat} {y z : Nat → Nat} {R : Nat → Nat → Prop} {F G : Nat → Nat}
theorem rgF.k1 (h : r.1 955 n = 1 ∨ r.1 955 n = 2 ∨ r.1 955 n = 3 ∨ r.1 955 n = 4) : rgF r y n = 0 := by
  unfold rgF
  rw [if_pos h]
theorem rgF.k5 (h : r.1 955 n = 5) : rgF r y n = rgRc r y 13000 (r.1 959 n) 0 := by
  unfold rgF
  rw [if_neg (show ¬ (r.1 955 n = 1 ∨ r.1 955 n = 2 ∨ r.1 955 n = 3 ∨ r.1 955 n = 4) by rw [h]; decide), if_pos h]
theorem rgF.k6 (h : r.1 955 n = 6) : rgF r y n = rgCh r y 13000 (r.1 959 n) 1 := by
  unfold rgF
  rw [if_neg (show ¬ (r.1 955 n = 1 ∨ r.1 955 n = 2 ∨ r.1 955 n = 3 ∨ r.1 955 n = 4) by rw [h]; decide), if_neg (show ¬ r.1 955 n = 5 by rw [h]; decide), if_pos h]
theorem rgF.k7 (h : r.1 955 n = 7) : rgF r y n = (if rlLo r n = 0 then 0 else y (r.1 959 n).toNatClampNeg) := by
  unfold rgF
  rw [if_neg (show ¬ (r.1 955 n = 1 ∨ r.1 955 n = 2 ∨ r.1 955 n = 3 ∨ r.1 955 n = 4) by rw [h]; decide), if_neg (show ¬ r.1 955 n = 5 by rw [h]; decide), if_neg (show ¬ r.1 955 n = 6 by rw [h]; decide), if_pos h]
theorem rgF.k8 (h : r.1 955 n = 8) : rgF r y n = y (rlNm r n) := by
  unfold rgF
  rw [if_neg (show ¬ (r.1 955 n = 1 ∨ r.1 955 n = 2 ∨ r.1 955 n = 3 ∨ r.1 955 n = 4) by rw [h]; decide), if_neg (show ¬ r.1 955 n = 5 by rw [h]; decide), if_neg (show ¬ r.1 955 n = 6 by rw [h]; decide), if_neg (show ¬ r.1 955 n = 7 by rw [h]; decide), if_pos h]
theorem rgRc.not : ∀ k f v, v ≠ 0 → rgRc r y k f v ≠ 0 := by
  intro k
  induction k with
  | zero => intro f v h; exact h
  | succ k ih =>
    intro f v h
    rw [rgRc.succ]
    split
    · exact h
    · exact ih _ _ (by decide)
theorem rgCh.full : ∀ k f, rgCh r y k f 0 = 0 := by
  intro k
  induction k with
  | zero => intro f; rfl
  | succ k ih =>
    intro f
    rw [rgCh.succ]
    split
    · rfl
    · rw [if_pos rfl]
      exact ih _
theorem lsCh.le : ∀ k f w, lsCh s a y k f w ≤ w := by
  intro k
  induction k with
  | zero => intro f w; exact Nat.le_refl _
  | succ k ih =>
    intro f w
    rw [lsCh.succ]
    split
    · exact Nat.le_refl _
    · refine Nat.le_trans (ih _ _) ?_
      split <;> omega
theorem bg_recA (h : bwF s r n m v F G R) (hb : ∀ n' m', R n' m' → z m' ≠ 0 → 2000000 ≤ lsV a y (nI n')) : ∀ d i, d = v - i → i ≤ v → ∀ K, d < K → ∀ w b, rgRc r z K (if i < v then nI (G i) else -1) b ≠ 0 → b ≠ 0 ∨ 2000000 ≤ lsRc s a y d (if i < v then nI (F i) else -1) w := by
  intro d
  induction d with
  | zero =>
    intro i hd hi K hK w b hw
    obtain ⟨K, rfl⟩ : ∃ q, K = q + 1 := ⟨K - 1, by omega⟩
    rw [if_neg (by omega), rgRc.succ, if_pos (by decide)] at hw
    exact Or.inl hw
  | succ d ih =>
    intro i hd hi K hK w b hw
    obtain ⟨K, rfl⟩ : ∃ q, K = q + 1 := ⟨K - 1, by omega⟩
    have iv : i < v := by omega
    obtain ⟨q1, q2, q3, q4, q5, q6⟩ := h.at iv
    obtain ⟨op, n', m', c1, c2, c3, c4, c5⟩ := h.2.2.2 i iv
    by_cases b0 : b = 0
    rotate_left
    · exact Or.inl b0
    refine Or.inr ?_
    rw [if_pos iv, rgRc.succ, if_neg q4, q2, q6, c2, nI_clamp (n := m') (by omega), if_pos b0] at hw
    rw [if_pos iv, lsRc.succ, if_neg q3, q1, q5, c1]
    by_cases o : s.1 321 (F i) = 0
    · rw [if_pos (op.mp o)] at hw
      rw [if_pos o]
      by_cases l : lsV a y (nI n') < 2000000
      · rw [if_pos l]
        exact (ih (i + 1) (by omega) (by omega) K (by omega) _ _ hw).resolve_left (fun q => by
          have := hb n' m' c5 q
          omega)
      · rw [if_neg l]
        exact Nat.le_refl _
    · rw [if_neg (fun q => o (op.mpr q))] at hw
      rw [if_neg o]
      exact (ih (i + 1) (by omega) (by omega) K (by omega) _ _ hw).resolve_left (fun q => q rfl)
theorem bg_recB (h : bwF s r n m v F G R) (hb : ∀ n' m', R n' m' → 2000000 ≤ lsV a y (nI n') → z m' ≠ 0) : ∀ d i, d = v - i → i ≤ v → ∀ K, d < K → ∀ w b, w ≤ 1000000 → 2000000 ≤ lsRc s a y d (if i < v then nI (F i) else -1) w → rgRc r z K (if i < v then nI (G i) else -1) b ≠ 0 := by
  intro d
  induction d with
  | zero =>
    intro i hd hi K hK w b hw h2
    rw [if_neg (by omega)] at h2
    have h2 : 2000000 ≤ w := h2
    omega
  | succ d ih =>
    intro i hd hi K hK w b hw h2
    obtain ⟨K, rfl⟩ : ∃ q, K = q + 1 := ⟨K - 1, by omega⟩
    have iv : i < v := by omega
    obtain ⟨q1, q2, q3, q4, q5, q6⟩ := h.at iv
    obtain ⟨op, n', m', c1, c2, c3, c4, c5⟩ := h.2.2.2 i iv
    rw [if_pos iv, lsRc.succ, if_neg q3, q1, q5, c1] at h2
    rw [if_pos iv, rgRc.succ, if_neg q4, q2, q6, c2, nI_clamp (n := m') (by omega)]
    by_cases o : s.1 321 (F i) = 0
    · rw [if_pos o] at h2
      rw [if_pos (op.mp o)]
      by_cases l : lsV a y (nI n') < 2000000
      · rw [if_pos l] at h2
        exact ih (i + 1) (by omega) (by omega) K (by omega) _ _ (by omega) h2
      · refine rgRc.not _ _ _ ?_
        split
        · exact hb n' m' c5 (by omega)
        · decide
    · rw [if_neg o] at h2
      exact ih (i + 1) (by omega) (by omega) K (by omega) _ _ hw h2
theorem bg_choA (h : bwF s r n m v F G R) (hb : ∀ n' m', R n' m' → z m' ≠ 0 → 2000000 ≤ lsV a y (nI n')) : ∀ d i, d = v - i → i ≤ v → ∀ K, d < K → ∀ w b, 2000000 ≤ w → rgCh r z K (if i < v then nI (G i) else -1) b ≠ 0 → 2000000 ≤ lsCh s a y d (if i < v then nI (F i) else -1) w := by
  intro d
  induction d with
  | zero => intro i hd hi K hK w b hw _; exact hw
  | succ d ih =>
    intro i hd hi K hK w b hw hr
    obtain ⟨K, rfl⟩ : ∃ q, K = q + 1 := ⟨K - 1, by omega⟩
    have iv : i < v := by omega
    obtain ⟨q1, q2, q3, q4, q5, q6⟩ := h.at iv
    obtain ⟨op, n', m', c1, c2, c3, c4, c5⟩ := h.2.2.2 i iv
    rw [if_pos iv, rgCh.succ, if_neg q4, q2, q6, c2, nI_clamp (n := m') (by omega)] at hr
    rw [if_pos iv, lsCh.succ, if_neg q3, q1, q5, c1]
    by_cases b0 : b = 0
    · rw [if_pos b0] at hr
      exact absurd (rgCh.full _ _) hr
    rw [if_neg b0] at hr
    have z1 : z m' ≠ 0 := fun q => by
      rw [q] at hr
      exact hr (rgCh.full _ _)
    rw [if_neg (show ¬ lsV a y (nI n') < 2000000 by have := hb n' m' c5 z1; omega)]
    exact ih (i + 1) (by omega) (by omega) K (by omega) _ _ hw hr
theorem bg_choB (h : bwF s r n m v F G R) (hb : ∀ n' m', R n' m' → 2000000 ≤ lsV a y (nI n') → z m' ≠ 0) : ∀ d i, d = v - i → i ≤ v → ∀ K, d < K → ∀ w b, b ≠ 0 → 2000000 ≤ lsCh s a y d (if i < v then nI (F i) else -1) w → rgCh r z K (if i < v then nI (G i) else -1) b ≠ 0 := by
  intro d
  induction d with
  | zero =>
    intro i hd hi K hK w b hb0 _
    obtain ⟨K, rfl⟩ : ∃ q, K = q + 1 := ⟨K - 1, by omega⟩
    rw [if_neg (by omega), rgCh.succ, if_pos (by decide)]
    exact hb0
  | succ d ih =>
    intro i hd hi K hK w b hb0 h2
    obtain ⟨K, rfl⟩ : ∃ q, K = q + 1 := ⟨K - 1, by omega⟩
    have iv : i < v := by omega
    obtain ⟨q1, q2, q3, q4, q5, q6⟩ := h.at iv
    obtain ⟨op, n', m', c1, c2, c3, c4, c5⟩ := h.2.2.2 i iv
    rw [if_pos iv, lsCh.succ, if_neg q3, q1, q5, c1] at h2
    rw [if_pos iv, rgCh.succ, if_neg q4, q2, q6, c2, nI_clamp (n := m') (by omega), if_neg hb0]
    by_cases l : lsV a y (nI n') < 2000000
    · rw [if_pos l] at h2
      have := lsCh.le (s := s) (a := a) (y := y) d (if i + 1 < v then nI (F (i + 1)) else -1) (min w (min 1000000 (1 + lsV a y (nI n'))))
      omega
    · rw [if_neg l] at h2
      exact ih (i + 1) (by omega) (by omega) K (by omega) _ _ (hb n' m' c5 (by omega)) h2
theorem bg_A (E : bwE s r a m R) (ha : a ≤ 3000) {k : Nat} (h : R n k) (hb : ∀ n' m', R n' m' → z m' ≠ 0 → 2000000 ≤ y n') (hz : rgF r z k ≠ 0) : 2000000 ≤ lsF s a y n := by
  have hb' : ∀ n' m', R n' m' → z m' ≠ 0 → 2000000 ≤ lsV a y (nI n') := fun n' m' q => by
    rw [lsV.nI ha (E n' m' q).1]
    exact hb n' m' q
  obtain ⟨n1, k1, K, e1, e2, hc⟩ := E n k h
  rcases hc with q | ⟨rfl, q⟩ | ⟨q, v, F, G, q1, q2⟩ | ⟨rfl, q0, n', k', q1, q2, q3, q4, q5⟩ | ⟨rfl, n', q1, q2, q3⟩
  · refine absurd (rgF.k1 ?_) hz
    rcases q with rfl | rfl | rfl
    · exact Or.inl e2
    · exact Or.inr (Or.inl e2)
    · exact Or.inr (Or.inr (Or.inr e2))
  · exact absurd (rgF.k1 (Or.inr (Or.inr (Or.inl e2)))) hz
  · have cl : (nI v).toNatClampNeg = v := nI_clamp (by have := q2.1; omega)
    have c1 := q2.2.1.1
    have g1 := q2.2.2.1.1
    rcases q with rfl | rfl
    · rw [lsF.k5 e1, q1, cl, c1]
      rw [rgF.k5 e2, g1] at hz
      exact (bg_recA q2 hb' v 0 rfl (Nat.zero_le _) 13000 (by have := q2.1; omega) 1 0 hz).resolve_left (fun q => q rfl)
    · rw [lsF.k6 e1, q1, cl, c1]
      rw [rgF.k6 e2, g1] at hz
      exact bg_choA q2 hb' v 0 rfl (Nat.zero_le _) 13000 (by have := q2.1; omega) 2000000 1 (Nat.le_refl _) hz
  · rw [rgF.k7 e2, q2, nI_clamp (n := k') (by omega)] at hz
    rw [lsF.k7 e1, q0, q1]
    by_cases l0 : rlLo r k = 0
    · rw [if_pos l0] at hz
      exact absurd rfl hz
    · rw [if_neg l0] at hz ⊢
      have := hb' n' k' q5 hz
      rw [if_neg (by omega)]
      exact Nat.le_refl _
  · rw [rgF.k8 e2] at hz
    rw [lsF.k8 e1, q1]
    exact hb' _ _ q3 hz
theorem bg_B (E : bwE s r a m R) (ha : a ≤ 3000) {k : Nat} (h : R n k) (hb : ∀ n' m', R n' m' → 2000000 ≤ y n' → z m' ≠ 0) (hl : s.1 317 n = 3 → lsLo s n ≤ 255) (hz : 2000000 ≤ lsF s a y n) : rgF r z k ≠ 0 := by
  have hb' : ∀ n' m', R n' m' → 2000000 ≤ lsV a y (nI n') → z m' ≠ 0 := fun n' m' q => by
    rw [lsV.nI ha (E n' m' q).1]
    exact hb n' m' q
  obtain ⟨n1, k1, K, e1, e2, hc⟩ := E n k h
  rcases hc with q | ⟨rfl, q⟩ | ⟨q, v, F, G, q1, q2⟩ | ⟨rfl, q0, n', k', q1, q2, q3, q4, q5⟩ | ⟨rfl, n', q1, q2, q3⟩
  · rw [lsF.k1 (by
      rcases q with rfl | rfl | rfl
      · exact Or.inl e1
      · exact Or.inr (Or.inl e1)
      · exact Or.inr (Or.inr e1))] at hz
    omega
  · rw [lsF.k3 e1] at hz
    have := hl e1
    omega
  · have cl : (nI v).toNatClampNeg = v := nI_clamp (by have := q2.1; omega)
    have c1 := q2.2.1.1
    have g1 := q2.2.2.1.1
    rcases q with rfl | rfl
    · rw [lsF.k5 e1, q1, cl, c1] at hz
      rw [rgF.k5 e2, g1]
      exact bg_recB q2 hb' v 0 rfl (Nat.zero_le _) 13000 (by have := q2.1; omega) 1 0 (by decide) hz
    · rw [lsF.k6 e1, q1, cl, c1] at hz
      rw [rgF.k6 e2, g1]
      exact bg_choB q2 hb' v 0 rfl (Nat.zero_le _) 13000 (by have := q2.1; omega) 2000000 1 (by decide) hz
  · rw [lsF.k7 e1, q0, q1] at hz
    rw [rgF.k7 e2, q2, nI_clamp (n := k') (by omega)]
    by_cases l0 : rlLo r k = 0
    · rw [if_pos l0] at hz
      omega
    · rw [if_neg l0] at hz ⊢
      by_cases l : lsV a y (nI n') < 2000000
      · rw [if_pos l] at hz
        omega
      · exact hb' n' k' q5 (by omega)
  · rw [lsF.k8 e1, q1] at hz
    rw [rgF.k8 e2]
    exact hb' _ _ q3 hz
/-- both sides' full types -/
theorem bg_same (E : bwE s r a m R) (ha : a ≤ 3000) {ρ : Nat → Nat} {nt : Nat → Nat} (hW : lsW s a) (hR : lsRk s a ρ) (hW' : rlW nt r m) {k : Nat} (h : R n k) : rgY r m k = 0 ↔ lsY s a n < 2000000 := by
  have st := gsR.stay m (rgY r m) (rg_rest (r := r) (m := m))
  have A : ∀ n k, R n k → rgY r m k ≠ 0 → 2000000 ≤ lsY s a n := fun n k q q0 => by
    refine gsK.above (F := lsF s a) (N := a) (T := 2000000) (P := fun i x => ∃ k, R i k ∧ rgY r m k ≠ 0 ∧ x = 2000000) (fun y i x hi ⟨k, q1, q2, q3⟩ hy => ?_) (fun i x ⟨k, _, _, q2⟩ => by omega) a n _ ⟨k, q, q0, rfl⟩
    subst q3
    have le := st k (E i k q1).2.1
    exact bg_A (z := rgY r m) E ha q1 (fun n' m' q' q0' => hy n' _ ⟨m', q', q0', rfl⟩) (by omega)
  have B : ∀ n k, R n k → 2000000 ≤ lsY s a n → 1 ≤ rgY r m k := fun n k q q0 => by
    refine gsK.above (F := rgF r) (N := m) (T := 1) (P := fun i x => ∃ n, R n i ∧ 2000000 ≤ lsY s a n ∧ x = 1) (fun y i x hi ⟨n, q1, q2, q3⟩ hy => ?_) (fun i x ⟨k, _, _, q2⟩ => by omega) m k _ ⟨n, q, q0, rfl⟩
    subst q3
    rw [← lsY.fix hW hR (E n i q1).1] at q2
    have := bg_B (y := lsY s a) (z := y) E ha q1 (fun n' m' q' q0' => by
      have := hy m' _ ⟨n', q', q0', rfl⟩
      omega) (fun e => hW.lo (E n i q1).1 (Or.inl e)) q2
    omega
  constructor
  · intro q
    refine Classical.byContradiction (fun w => ?_)
    have := B n k h (by omega)
    omega
  · intro q
    refine Classical.byContradiction (fun w => ?_)
    have := A n k h w
    omega
end
