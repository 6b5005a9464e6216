/-! Level 2: the class's slots: a VALUE put, kept, copied. -/
theorem vl_cp {s : t_S} {a b : Nat} {x y m : Int32} : (t_cpJ s a b x y m).1 = s.1 ∧ (t_cpJ s a b x y m).2.1 b = va_cpy (s.2.1 a) (s.2.1 b) x.toNatClampNeg y.toNatClampNeg m.toNatClampNeg ∧ l2_fr (fun c _ => c = b) s (t_cpJ s a b x y m) := by
  refine ⟨rfl, mj_up_eq s.2.1 b _, fun c j h => ⟨rfl, ?_, rfl⟩⟩
  show va_up s.2.1 b _ c j = _
  rw [mj_up_ne _ _ h]
theorem vl_cpy {α : Type} (f g : Nat → α) (sp dp n k : Nat) : va_cpy f g sp dp n k = if dp ≤ k ∧ k < dp + n then f (sp + (k - dp)) else g k := rfl
theorem vl_l13 : t_oka 13 2 (t_ln 13) = true ∧ t_ln 13 = 190680 := by decide +kernel
/-- behind a VALUE of n cells put into slot q -/
def vl_P (s s' : t_S) (a i n q : Nat) : Prop := (∀ d, d < n → s'.2.1 13 (120 * q + d) = s.2.1 a (i + d)) ∧ (∀ k, ¬ (120 * q ≤ k ∧ k < 120 * q + n) → s'.2.1 13 k = s.2.1 13 k) ∧ s'.1 14 q = nI n ∧ (∀ k, k ≠ q → s'.1 14 k = s.1 14 k) ∧ l2_fr (fun b _ => b = 13 ∨ b = 14) s s'
theorem vl_put {a i n q : Nat} {s : t_S} {t : Int} {k : Nat} (ha : t_oka a 2 (t_ln a) = true) (hla : t_ln a < 1000000000) (hi : i + n ≤ t_ln a) (hn : 0 < n ∧ n ≤ 120) (hq : q < 1589) (hc : vl_c t n k (s.2.1 a i)) : t_hk (f_X8_put (nI q) a (nI i) s) (fun s' => vl_P s s' a i n q) := by
  unfold f_X8_put
  refine l2_ck ha (l2_ck (l2_ix (by omega) (by omega)) ?_)
  rw [nI_clamp (n := i) (by omega), vl_size hc, show (120 : Int32) = nI 120 from rfl, pk_mul]
  refine l2_ck ?_ ?_
  · unfold t_cpok
    rw [nI_toInt (by omega), nI_toInt (by omega), nI_toInt (by omega)]
    exact decide_eq_true ⟨by omega, by omega, by omega, by omega, by omega⟩
  refine l2_lt (l2_ck (l2_ix hq (by decide)) ?_)
  obtain ⟨c1, c2, c3⟩ := vl_cp (s := s) (a := a) (b := 13) (x := nI i) (y := nI (q * 120)) (m := nI n)
  rw [nI_clamp (n := i) (by omega), nI_clamp (n := q * 120) (by omega), nI_clamp (n := n) (by omega)] at c2
  rw [nI_clamp (n := q) (by omega)]
  generalize t_cpJ s a 13 (nI i) (nI (q * 120)) (nI n) = s1 at *
  refine l2_lt (l2_sm ⟨fun d hd => ?_, fun k hk => ?_, ?_, fun k hk => ?_, (c3.mono (fun b j x => Or.inl x)).trans (l2_fr.set (Or.inr rfl))⟩)
  · show s1.2.1 13 (120 * q + d) = _
    rw [c2, vl_cpy, if_pos ⟨by omega, by omega⟩, show 120 * q + d - q * 120 = d by omega]
  · show s1.2.1 13 k = _
    rw [c2, vl_cpy, if_neg (by omega)]
  · rw [l2_sI, mj_up_eq]
  · rw [l2_sI, mj_up_ne _ _ hk, c1]
theorem vl_keep {a i n k0 : Nat} {s : t_S} {t : Int} {k : Nat} (ha : t_oka a 2 (t_ln a) = true) (hla : t_ln a < 1000000000) (hi : i + n ≤ t_ln a) (hn : 0 < n ∧ n ≤ 120) (hk : s.1 12 2 = nI k0) (hk0 : k0 < 40) (hc : vl_c t n k (s.2.1 a i)) : t_hk (f_X8_keep a (nI i) s) (fun r => r.1 = nI k0 ∧ r.2.1 12 2 = nI (k0 + 1) ∧ ∃ s1, vl_P s s1 a i n (1548 + k0) ∧ r.2 = t_setI s1 12 2 (nI (k0 + 1))) := by
  unfold f_X8_keep
  rw [hk]
  refine l2_ck (show nI k0 < (40 : Int32) from nI_lt (b := 40) hk0 (by decide)) ?_
  rw [show (1548 : Int32) = nI 1548 from rfl, nI_add]
  refine l2_bd _ (vl_put ha hla hi hn (show 1548 + k0 < 1589 by omega) hc) (fun s1 p => ?_)
  have e : s1.1 12 2 = nI k0 := by rw [(p.2.2.2.2 12 2 (by omega)).1]; exact hk
  rw [e, nI_1]
  refine l2_lt (l2_sm ⟨?_, ?_, s1, p, rfl⟩)
  · simp only [l2_g, reduceIte]
    exact nI_pred k0
  · simp only [l2_g, reduceIte]
theorem vl_copy {p q n : Nat} {s : t_S} (hp : p < 1589) (hq : q < 1589) (hn : n ≤ 120) (h : s.1 14 p = nI n) : t_hk (f_X8_copy (nI p) (nI q) s) (fun s' => (∀ d, d < n → s'.2.1 13 (120 * q + d) = s.2.1 13 (120 * p + d)) ∧ (∀ k, ¬ (120 * q ≤ k ∧ k < 120 * q + n) → s'.2.1 13 k = s.2.1 13 k) ∧ s'.1 14 q = nI n ∧ (∀ k, k ≠ q → s'.1 14 k = s.1 14 k) ∧ l2_fr (fun b _ => b = 13 ∨ b = 14) s s') := by
  unfold f_X8_copy
  refine l2_ck (l2_ix hp (by decide)) ?_
  rw [nI_clamp (n := p) (by omega), h, show (120 : Int32) = nI 120 from rfl, pk_mul, pk_mul]
  refine l2_ck ?_ ?_
  · unfold t_cpok
    rw [nI_toInt (by omega), nI_toInt (by omega), nI_toInt (by omega)]
    exact decide_eq_true ⟨by omega, by omega, by omega, by omega, by omega⟩
  refine l2_lt (l2_ck (l2_ix hq (by decide)) ?_)
  obtain ⟨c1, c2, c3⟩ := vl_cp (s := s) (a := 13) (b := 13) (x := nI (p * 120)) (y := nI (q * 120)) (m := nI n)
  rw [nI_clamp (n := p * 120) (by omega), nI_clamp (n := q * 120) (by omega), nI_clamp (n := n) (by omega)] at c2
  rw [nI_clamp (n := q) (by omega)]
  generalize t_cpJ s 13 13 (nI (p * 120)) (nI (q * 120)) (nI n) = s1 at *
  rw [c1, h]
  refine l2_lt (l2_sm ⟨fun d hd => ?_, fun k hk => ?_, ?_, fun k hk => ?_, (c3.mono (fun b j x => Or.inl x)).trans (l2_fr.set (Or.inr rfl))⟩)
  · show s1.2.1 13 (120 * q + d) = _
    rw [c2, vl_cpy, if_pos ⟨by omega, by omega⟩, show 120 * q + d - q * 120 = d by omega]
    rw [Nat.mul_comm]
  · show s1.2.1 13 k = _
    rw [c2, vl_cpy, if_neg (by omega)]
  · rw [l2_sI, mj_up_eq]
  · rw [l2_sI, mj_up_ne _ _ hk, c1]
