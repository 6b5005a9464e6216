/-! Level 2: an exp worked out on both sides: leaves. -/
section
variable {κ : KPP} {c0 r0 : t_S} {Kc : t_S → t_S → Prop} {Kr : Nat → Nat → t_S → t_S → Prop} {c r c' r' : t_S} {D a H S rr e0 e1 i g n m0 m1 : Nat}
/-- the reference's walk from node n on comes to r', then goes on with what waits -/
def Rw (g m0 m1 n S : Nat) (r r' : t_S) : Prop := ∀ base N, base ≤ S → m1 - m0 < N → ∃ k, k ≤ m1 - m0 ∧ t_loop (b_X13_work_7 (R_X13_behindFirst g)) N (nI base, nI n, r) = t_loop (b_X13_work_55 (R_X13_behindFirst g)) (t_N - k) (nI base, r')
/-- one exp on both sides -/
def EVp (κ : KPP) (c0 r0 : t_S) (Kc : t_S → t_S → Prop) (Kr : Nat → Nat → t_S → t_S → Prop) (g rr e0 e1 m0 m1 n : Nat) : Prop := ∀ c r D a H S, Ein κ c0 r0 rr D a H S c r → Iv κ Kc Kr e0 c r → S + (m1 - m0) ≤ κ.s → ∃ c' r' i u, (u ≤ e1 - e0 ∧ e0 ≤ i ∧ i ≤ e1 ∧ l2_tn b_X0_work_12 u (nI e0, c) (nI i, c')) ∧ Ef c0 Kc (Kr e0 e1) D a H S c r c' r' ∧ ((i = e1 ∧ Eg D a H S c' r') ∨ Eb e0 e1 S c' r') ∧ Rw g m0 m1 n S r r'
/-- what waits is done: work() itself -/
theorem Rw.work (h : Rw g m0 m1 n S r r') (hm : m1 - m0 ≤ 13000) (h0 : r.1 950 103 = nI S) (h1 : r'.1 950 103 = nI S) (hS : S ≤ 13000) : m_X13_work (R_X13_behindFirst g) (nI n) r = some r' := by
  obtain ⟨k, k1, k2⟩ := h S t_N (Nat.le_refl _) (by have := l2_N; omega)
  unfold m_X13_work
  rw [h0, k2]
  have n := l2_N
  rw [show t_N - k = (t_N - k - 1) + 1 by omega]
  refine l2_lpR ?_
  show k_X13_work_55 _ (nI S) r' = _
  unfold k_X13_work_55
  rw [h1, if_pos (nI_le (Nat.le_refl _) (by omega))]
  rfl
theorem nI_1' (S : Nat) : nI (S + 1) - 1 = nI S := nI_pred S
theorem sp_is {K : Nat} (hK : K < 100) {s : t_S} : ((64 ≤ K ∧ K ≤ 70) ∨ K = 72 → f_X13_isSpine (nI K) s = 1) ∧ (K < 64 ∨ (70 < K ∧ K ≠ 72) → f_X13_isSpine (nI K) s = 0) := by
  have tv : (nI K).toInt64.toInt = K := nI_lT (by omega)
  have q72 : nI K = (72 : Int32) ↔ K = 72 := nI_eq (b := 72) (by omega) (by decide)
  unfold f_X13_isSpine k_X13_isSpine_20
  rw [fin_r, tv, show (64 : Int64).toInt = 64 from rfl, show (70 : Int64).toInt = 70 from rfl]
  by_cases c : (64 : Int) ≤ K ∧ (K : Int) ≤ 70
  · rw [if_pos c, if_neg (show ¬ (1 : Int32) = 0 by decide)]
    exact ⟨fun _ => rfl, fun y => by omega⟩
  · rw [if_neg c, if_pos rfl]
    by_cases d : K = 72
    · rw [if_pos (q72.mpr d)]
      exact ⟨fun _ => rfl, fun y => by omega⟩
    · rw [if_neg (fun y => d (q72.mp y))]
      exact ⟨fun y => by omega, fun _ => rfl⟩
theorem Rw.leaf {K : Nat} (hn : n < 13000) (hk : r.1 955 n = nI K) (hK : K < 64 ∨ (70 < K ∧ K ≠ 72)) (hK2 : K < 100) (hl : (R_X13_behindFirst g).2.1 (nI n) r = some r') : Rw g m0 m1 n S r r' := by
  intro base N hb hN
  refine ⟨0, Nat.zero_le _, ?_⟩
  obtain ⟨N, rfl⟩ : ∃ y, N = y + 1 := ⟨N - 1, by omega⟩
  have sp : f_X13_isSpine (nI K) r = 0 := by
    exact (sp_is hK2).2 hK
  cases e : t_loop (b_X13_work_55 (R_X13_behindFirst g)) (t_N - 0) (nI base, r') with
  | none =>
    have : b_X13_work_7 (R_X13_behindFirst g) (nI base, nI n, r) = none := by
      show k_X13_work_7 _ (nI base) (nI n) r = none
      unfold k_X13_work_7
      rw [if_pos (l2_ix hn (by decide)), nI_clamp (n := n) (by omega), hk, if_pos sp, hl, l2_bs, show t_N = t_N - 0 from rfl, e]
      rfl
    unfold t_loop
    rw [this]
  | some x =>
    refine l2_lpR ?_
    show k_X13_work_7 _ (nI base) (nI n) r = _
    unfold k_X13_work_7
    rw [if_pos (l2_ix hn (by decide)), nI_clamp (n := n) (by omega), hk, if_pos sp, hl, l2_bs, show t_N = t_N - 0 from rfl, e]
    rfl
/-- the reference goes on to a spine node's first part, and comes back to it -/
theorem Rw.spine {K a : Nat} {r1 r2 : t_S} (hn : n < 13000) (hk : r.1 955 n = nI K) (hK : (64 ≤ K ∧ K ≤ 70) ∨ K = 72) (h9 : r.1 959 n = nI a) (h103 : r.1 950 103 = nI S) (hS : S + (m1 - m0) ≤ 13000) {a0 a1 : Nat} (hsz : a1 - a0 < m1 - m0) (H : Rw g a0 a1 a (S + 1) (t_setI (t_setI r 1008 S (nI n)) 950 103 (nI (S + 1))) r1) (h1 : r1.1 950 103 = nI (S + 1)) (h8 : r1.1 1008 S = nI n) (hb : (r1.1 950 97 ≠ 0 ∧ r2 = t_setI r1 950 103 (nI S)) ∨ (r1.1 950 97 = 0 ∧ (R_X13_behindFirst g).1 (nI n) (t_setI r1 950 103 (nI S)) = some r2)) : Rw g m0 m1 n S r r2 := by
  intro base N hb' hN
  obtain ⟨N, rfl⟩ : ∃ y, N = y + 1 := ⟨N - 1, by omega⟩
  obtain ⟨k, k1, k2⟩ := H base N (by omega) (by omega)
  refine ⟨k + 1, by omega, ?_⟩
  have nN := l2_N
  have st : b_X13_work_7 (R_X13_behindFirst g) (nI base, nI n, r) = some (.inl (nI base, nI a, t_setI (t_setI r 1008 S (nI n)) 950 103 (nI (S + 1)))) := by
    show k_X13_work_7 _ (nI base) (nI n) r = _
    unfold k_X13_work_7
    have Kl : K < 100 := by omega
    rw [if_pos (l2_ix hn (by decide)), nI_clamp (n := n) (by omega), hk, (sp_is Kl).1 hK, if_neg (show ¬ (1 : Int32) = 0 by decide), h103, if_pos (l2_ix (by omega) (by decide)), nI_clamp (n := S) (by omega)]
    show some (Sum.inl (nI base, (t_setI (t_setI r 1008 S (nI n)) 950 103 ((t_setI r 1008 S (nI n)).1 950 103 + 1)).1 959 n, t_setI (t_setI r 1008 S (nI n)) 950 103 ((t_setI r 1008 S (nI n)).1 950 103 + 1))) = _
    rw [l2_sO (s := r) (by decide), h103, nI_1, l2_sO (by decide), l2_sO (by decide), h9]
  rw [l2_lpS st, k2, show t_N - k = (t_N - (k + 1)) + 1 by omega]
  refine l2_lpS ?_
  show k_X13_work_55 _ (nI base) r1 = _
  unfold k_X13_work_55
  rw [h1, if_neg (nI_ge (by omega) (by omega)), nI_1' S]
  show (if (t_setI r1 950 103 (nI S)).1 950 97 = 0 then _ else _) = _
  have e97 : (t_setI r1 950 103 (nI S)).1 950 97 = r1.1 950 97 := by rw [l2_g, if_neg (by decide)]
  rw [e97]
  rcases hb with ⟨q, rfl⟩ | ⟨q, e⟩
  · rw [if_neg q]
  · rw [if_pos q, l2_g, if_pos rfl, if_pos (l2_ix (by omega) (by decide)), nI_clamp (n := S) (by omega), l2_sO (by decide), h8, e, l2_bs]
end
