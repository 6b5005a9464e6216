/-! Level 2: systems, THE BREAK on both sides. -/
def sy_it (A : Nat → Nat) : Nat → Nat → Nat
  | 0, p => p
  | k + 1, p => A (sy_it A k p)
theorem sy_dep {A : Nat → Nat} {c q : Nat} (hA : ∀ p, 0 < p → p < c → A p < p) (hq : q < c) : ∃ d, d ≤ q ∧ sy_it A d q = 0 ∧ (∀ k, k < d → 0 < sy_it A k q) ∧ ∀ k, k ≤ d → sy_it A k q ≤ q := by
  have g : ∀ n, (∃ d, d ≤ q ∧ sy_it A d q = 0 ∧ (∀ k, k < d → 0 < sy_it A k q) ∧ ∀ k, k ≤ d → sy_it A k q ≤ q) ∨ ((∀ k, k ≤ n → 0 < sy_it A k q ∧ sy_it A k q + k ≤ q)) := by
    intro n
    induction n with
    | zero =>
      by_cases e : q = 0
      · exact Or.inl ⟨0, by omega, e, fun k h => absurd h (by omega), fun k h => by
          rw [show k = 0 by omega]
          exact Nat.le_refl _⟩
      · refine Or.inr (fun k h => ?_)
        rw [show k = 0 by omega]
        show 0 < q ∧ q + 0 ≤ q
        omega
    | succ n ih =>
      rcases ih with ih | ih
      · exact Or.inl ih
      · have h1 := ih n (Nat.le_refl _)
        have h2 := hA (sy_it A n q) h1.1 (by omega)
        have h3 : sy_it A (n + 1) q = A (sy_it A n q) := rfl
        by_cases e : sy_it A (n + 1) q = 0
        · refine Or.inl ⟨n + 1, by omega, e, fun k h => (ih k (by omega)).1, fun k h => ?_⟩
          by_cases z : k = n + 1
          · rw [z, e]; omega
          · have := (ih k (by omega)).2
            omega
        · refine Or.inr (fun k h => ?_)
          by_cases z : k = n + 1
          · rw [z]
            omega
          · exact ih k (by omega)
  rcases g (q + 1) with h | h
  · exact h
  · have := h (q + 1) (Nat.le_refl _)
    omega
/-- the facts of a chain of parents -/
def sy_ch (c q d : Nat) (P A B : Nat → Nat) : Prop := d ≤ q ∧ q < c ∧ c ≤ 65536 ∧ sy_it A d q = 0 ∧ (∀ k, k < d → 0 < sy_it A k q) ∧ (∀ k, k ≤ d → sy_it A k q ≤ q) ∧ P 0 = 257 ∧ (∀ p, p < c → P p < 65536) ∧ (∀ p, 0 < p → p < c → B p ≤ 8) ∧ (∀ k, k ≤ d → 256 ≤ P (sy_it A k q))
theorem sy_chain {F : Nat → Nat → Int32} {c q : Nat} {P A B S : Nat → Nat} (h : sy_RI F c P A B S) (hq : q < c) (hh : 256 ≤ P q) : ∃ d, sy_ch c q d P A B := by
  have hc := h.le
  obtain ⟨r0, r1, r2, r3, r4, r5, r6⟩ := h
  obtain ⟨d, h1, h2, h3, h4⟩ := sy_dep (A := A) (fun p a b => (r5 p a b).2.1) hq
  refine ⟨d, h1, hq, hc, h2, h3, h4, r1, fun p hp => (r4 p hp).2.1, fun p a b => (r5 p a b).2.2.2.1, ?_⟩
  intro k
  induction k with
  | zero => intro _; exact hh
  | succ k ih =>
    intro hk
    have := h4 k (by omega)
    exact (r5 _ (h3 k (by omega)) (by omega)).2.2.2.2 (ih (by omega))
theorem sy_sub2 (d : Nat) : nI (d + 1) - (2 : Int32) = nI d - 1 := by
  cases d with
  | zero => decide
  | succ e =>
    rw [show (2 : Int32) = nI 2 from rfl, show (1 : Int32) = nI 1 from rfl, pk_sub (by omega), pk_sub (by omega)]
    rfl
theorem sy_m1 (x : Int32) : x + (-1) = x - 1 := (Int32.sub_eq_add_neg x 1).symm
theorem sy_m1n {n : Nat} (h : 0 < n) : nI n - 1 = nI (n - 1) := by
  rw [show (1 : Int32) = nI 1 from rfl, pk_sub h]
theorem sy_wb {s : t_S} {c q d a : Nat} {P A B : Nat → Nat} (h : sy_ch c q d P A B) (h2 : sy_C2 s.1 c P A B) : t_hk (f_X9_writeBreak (nI (P q)) (nI a) s) (fun s' => s'.1 946 3 = nI (d + 1) ∧ s'.1 949 d = nI a ∧ (∀ i, i < d → s'.1 949 i = nI (B (sy_it A (d - 1 - i) q))) ∧ l2_fr sy_Wc s s') := by
  obtain ⟨hd, hq, hc, hz, hpos, hle, hP0, hPb, hB, hhi⟩ := h
  obtain ⟨c1, c2⟩ := h2
  have hPk : ∀ k, k ≤ d → P (sy_it A k q) < 65536 := fun k hk => hPb _ (by have := hle k hk; omega)
  have hfr : ∀ k, k < d → s.1 948 (P (sy_it A k q)) = nI (1 + (P (sy_it A (k + 1) q) * 16 + B (sy_it A k q))) := fun k hk => c2 _ (hpos k hk) (by have := hle k (by omega); omega) (hhi k (by omega))
  have hBk : ∀ k, k < d → B (sy_it A k q) ≤ 8 := fun k hk => hB _ (hpos k hk) (by have := hle k (by omega); omega)
  have eP : ∀ p b : Nat, p < 65536 → b ≤ 8 → (nI (1 + (p * 16 + b)) - (1 : Int32)) >>> ((4 : Int32) &&& 31) = nI p ∧ (nI (1 + (p * 16 + b)) - (1 : Int32)) &&& (15 : Int32) = nI b := by
    intro p b hp hb
    rw [show (1 : Int32) = nI 1 from rfl, pk_sub (by omega), Nat.add_sub_cancel_left]
    refine ⟨?_, ?_⟩
    · rw [pk_shrN (by omega) _ 4 (by decide)]
      congr 1
      omega
    · rw [pk_andN (by omega) 4 (by decide)]
      congr 1
      omega
  unfold f_X9_writeBreak
  refine l2_lt ?_
  refine l2_lp (fun w y => ∃ k, k + w = d ∧ ∃ s1 : t_S, y = (nI (P q), nI a, nI (P (sy_it A k q)), nI k, s1) ∧ s1.1 946 3 = nI (1 + k) ∧ s1.1 948 = s.1 948 ∧ l2_fr sy_Wc s s1) ?_ (m := d) (Nat.lt_trans (show d < 1000000000 by omega) l2_N) ⟨0, by omega, _, rfl, by rw [l2_sI, mj_up_eq]; rfl, l2_sO (by decide), l2_fr.set (Or.inl rfl)⟩
  rintro w y ⟨k, hk, s1, rfl, g1, g2, g3⟩
  show t_hk (k_X9_writeBreak_10 (nI (P q)) (nI a) (nI (P (sy_it A k q))) (nI k) s1) _
  unfold k_X9_writeBreak_10
  rw [if_neg (show ¬ (65536 : Int32) ≤ nI k from nI_ge (b := 65536) (by omega) (by decide)), if_pos (l2_ix (hPk k (by omega)) (by decide)), nI_clamp (by have := hPk k (by omega); omega), g2]
  by_cases e : k = d
  · subst e
    rw [hz, hP0, if_pos c1]
    refine l2_mp ?_
    show t_hk (k_X9_writeBreak_54 (nI (P q)) (nI a) s1) _
    unfold k_X9_writeBreak_54
    rw [g1, show nI (1 + k) - (1 : Int32) = nI k by rw [Nat.add_comm]; exact nI_pred k]
    refine l2_ck (l2_ix (by omega) (by decide)) ?_
    rw [nI_clamp (by omega)]
    refine l2_lt ?_
    refine l2_lp (fun w y => ∃ i, i + w = k ∧ ∃ s2 : t_S, y = (nI (P (sy_it A i q)), nI (k - i) - 1, s2) ∧ s2.1 946 3 = nI (k + 1) ∧ s2.1 948 = s.1 948 ∧ s2.1 949 k = nI a ∧ (∀ j, k - i ≤ j → j < k → s2.1 949 j = nI (B (sy_it A (k - 1 - j) q))) ∧ l2_fr sy_Wc s s2) ?_ (m := k) (Nat.lt_trans (show k < 1000000000 by omega) l2_N) ⟨0, by omega, t_setI s1 949 k (nI a), ?_, ?_, ?_, ?_, ?_, ?_⟩
    · rintro w2 y ⟨i, hi, s2, rfl, u1, u2, u3, u4, u5⟩
      show t_hk (k_X9_writeBreak_76 (nI (P (sy_it A i q))) (nI (k - i) - 1) s2) _
      unfold k_X9_writeBreak_76
      by_cases e2 : i = k
      · subst e2
        rw [Nat.sub_self, if_pos (by decide)]
        exact l2_mp (l2_sm ⟨u1, u3, fun j hj => u4 j (by omega) hj, u5⟩)
      · rw [sy_m1n (by omega), if_neg (nI_pos (by omega))]
        refine l2_ck (l2_ix (hPk i (by omega)) (by decide)) ?_
        refine l2_ck (l2_ix (by omega) (by decide)) ?_
        rw [nI_clamp (n := P (sy_it A i q)) (by have := hPk i (by omega); omega), nI_clamp (n := k - i - 1) (by omega), u2, hfr i (by omega)]
        refine l2_lt ?_
        obtain ⟨p1, p2⟩ := eP (P (sy_it A (i + 1) q)) (B (sy_it A i q)) (hPk _ (by omega)) (hBk _ (by omega))
        rw [l2_sO (by decide), u2, hfr i (by omega), p1, p2]
        refine l2_sm ⟨w2 - 1, by omega, i + 1, by omega, t_setI s2 949 (k - i - 1) (nI (B (sy_it A i q))), ?_, ?_, ?_, ?_, ?_, ?_⟩
        · rw [sy_m1, show k - (i + 1) = k - i - 1 by omega]
        · rw [l2_sO (by decide)]; exact u1
        · rw [l2_sO (by decide)]; exact u2
        · rw [l2_sI, mj_up_ne _ _ (by omega)]; exact u3
        · intro j hj hj2
          rw [l2_sI]
          by_cases z : j = k - i - 1
          · subst z
            rw [mj_up_eq]
            congr 3
            omega
          · rw [mj_up_ne _ _ z]
            exact u4 j (by omega) hj2
        · exact u5.trans (l2_fr.set (Or.inr (Or.inr rfl)))
    · show (nI (P q), (t_setI s1 949 k (nI a)).1 946 3 - 2, t_setI s1 949 k (nI a)) = _
      rw [l2_sO (by decide), g1, Nat.add_comm 1 k, sy_sub2]
      rfl
    · rw [l2_sO (by decide), g1, Nat.add_comm]
    · rw [l2_sO (by decide)]; exact g2
    · rw [l2_sI, mj_up_eq]
    · intro j hj hj2
      omega
    · exact g3.trans (l2_fr.set (Or.inr (Or.inr rfl)))
  · rw [hfr k (by omega)]
    obtain ⟨p1, p2⟩ := eP (P (sy_it A (k + 1) q)) (B (sy_it A k q)) (hPk _ (by omega)) (hBk _ (by omega))
    have b1 := hPk (k + 1) (by omega)
    have b2 := hBk k (by omega)
    refine l2_no (fun z => ?_) ?_
    · have z2 := congrArg Int32.toInt z
      rw [nI_toInt (by omega), show (-1 : Int32).toInt = -1 from rfl] at z2
      omega
    refine l2_lt ?_
    rw [l2_sO (by decide), g2, hfr k (by omega), p1, nI_1]
    refine l2_sm ⟨w - 1, by omega, k + 1, by omega, _, rfl, ?_, ?_, ?_⟩
    · rw [l2_sI, mj_up_eq, g1, nI_1]
      rfl
    · rw [l2_sO (by decide)]; exact g2
    · exact g3.trans (l2_fr.set (Or.inl rfl))
theorem sy_tb {s : t_S} {c c' q d a : Nat} {P A B P' A' B' S' : Nat → Nat} (h : sy_ch c q d P A B) (hR : sy_RI s.1 c' P' A' B' S') (hcc : c ≤ c') (hag : sy_ag c P P' A A' B B') : t_hk (f_X13_tellBreak (nI q) (nI a) s) (fun s' => s'.1 950 183 = nI (d + 1) ∧ s'.1 1060 d = nI a ∧ (∀ i, i < d → s'.1 1060 i = nI (B (sy_it A (d - 1 - i) q))) ∧ l2_fr sy_Wr s s') := by
  obtain ⟨hd, hq, hc, hz, hpos, hle, hP0, hPb, hB, hhi⟩ := h
  have hcl := hR.le
  obtain ⟨r0, r1, r2, r3, r4, r5, r6⟩ := hR
  have hlt : ∀ k, k ≤ d → sy_it A k q < c := fun k hk => by have := hle k hk; omega
  have hA : ∀ k, k < d → s.1 1061 (sy_it A k q) = nI (sy_it A (k + 1) q) ∧ s.1 1062 (sy_it A k q) = nI (B (sy_it A k q)) := by
    intro k hk
    have g := r5 _ (hpos k hk) (by have := hlt k (by omega); omega)
    have g2 := hag _ (hlt k (by omega))
    rw [g2.2.1, g2.2.2] at g
    exact ⟨g.1, g.2.2.1⟩
  unfold f_X13_tellBreak
  refine l2_lp (fun w y => ∃ k, k + w = d ∧ y = (nI q, nI a, nI (1 + k), nI (sy_it A k q), s)) ?_ (m := d) (Nat.lt_trans (show d < 1000000000 by omega) l2_N) ⟨0, by omega, rfl⟩
  rintro w y ⟨k, hk, rfl⟩
  show t_hk (k_X13_tellBreak_5 (nI q) (nI a) (nI (1 + k)) (nI (sy_it A k q)) s) _
  unfold k_X13_tellBreak_5
  rw [if_pos (l2_ix (by have := hlt k (by omega); omega) (by decide)), nI_clamp (by have := hlt k (by omega); omega)]
  by_cases e : k = d
  · subst e
    rw [hz, r2, if_pos (by decide)]
    refine l2_mp (l2_lt ?_)
    rw [show nI (1 + k) - (1 : Int32) = nI k by rw [Nat.add_comm]; exact nI_pred k]
    refine l2_ck (l2_ix (by omega) (by decide)) ?_
    rw [nI_clamp (by omega)]
    refine l2_lt ?_
    refine l2_lp (fun w y => ∃ i, i + w = k ∧ ∃ s2 : t_S, y = (nI (k - i) - 1, nI (sy_it A i q), s2) ∧ s2.1 950 183 = nI (k + 1) ∧ s2.1 1061 = s.1 1061 ∧ s2.1 1062 = s.1 1062 ∧ s2.1 1060 k = nI a ∧ (∀ j, k - i ≤ j → j < k → s2.1 1060 j = nI (B (sy_it A (k - 1 - j) q))) ∧ l2_fr sy_Wr s s2) ?_ (m := k) (Nat.lt_trans (show k < 1000000000 by omega) l2_N) ⟨0, by omega, t_setI (t_setI s 950 183 (nI (1 + k))) 1060 k (nI a), ?_, ?_, ?_, ?_, ?_, ?_, ?_⟩
    · rintro w2 y ⟨i, hi, s2, rfl, u1, u2, u6, u3, u4, u5⟩
      show t_hk (k_X13_tellBreak_52 (nI (k - i) - 1) (nI (sy_it A i q)) s2) _
      unfold k_X13_tellBreak_52
      rw [if_pos (l2_ix (by have := hlt i (by omega); omega) (by decide)), nI_clamp (by have := hlt i (by omega); omega), u2]
      by_cases e2 : i = k
      · subst e2
        rw [hz, r2, if_pos (by decide)]
        exact l2_mp (l2_sm ⟨u1, u3, fun j hj => u4 j (by omega) hj, u5⟩)
      · obtain ⟨a1, a2⟩ := hA i (by omega)
        have b1 := hlt (i + 1) (by omega)
        rw [a1, if_neg (nI_pos (by omega)), sy_m1n (by omega)]
        refine l2_ck (l2_ix (by omega) (by decide)) ?_
        rw [nI_clamp (by omega), u6, a2]
        refine l2_lt ?_
        rw [l2_sO (by decide), u2, a1]
        refine l2_sm ⟨w2 - 1, by omega, i + 1, by omega, t_setI s2 1060 (k - i - 1) (nI (B (sy_it A i q))), ?_, ?_, ?_, ?_, ?_, ?_, ?_⟩
        · rw [sy_m1, show k - (i + 1) = k - i - 1 by omega]
        · rw [l2_sO (by decide)]; exact u1
        · rw [l2_sO (by decide)]; exact u2
        · rw [l2_sO (by decide)]; exact u6
        · rw [l2_sI, mj_up_ne _ _ (by omega)]; exact u3
        · intro j hj hj2
          rw [l2_sI]
          by_cases z : j = k - i - 1
          · subst z
            rw [mj_up_eq]
            congr 3
            omega
          · rw [mj_up_ne _ _ z]
            exact u4 j (by omega) hj2
        · exact u5.trans (l2_fr.set (Or.inr (by omega)))
    · show (nI (1 + k) - 2, nI q, _) = _
      rw [Nat.add_comm 1 k, sy_sub2]
      rfl
    · rw [l2_sO (by decide), l2_sI, mj_up_eq, Nat.add_comm]
    · rw [l2_sO (by decide), l2_sO (by decide)]
    · rw [l2_sO (by decide), l2_sO (by decide)]
    · rw [l2_sI, mj_up_eq]
    · intro j hj hj2
      omega
    · exact (l2_fr.set (Or.inl ⟨rfl, rfl⟩)).trans (l2_fr.set (Or.inr (by omega)))
  · obtain ⟨a1, a2⟩ := hA k (by omega)
    have b1 := hlt (k + 1) (by omega)
    rw [a1, if_neg (nI_pos (by omega)), nI_1]
    exact l2_sm ⟨w - 1, by omega, k + 1, by omega, rfl⟩
