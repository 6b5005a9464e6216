/-! Level 2: the reference's row that is made: a VALUE put into it, the row pushed; a VALUE copied. -/
section
variable {r : t_S} {H k m : Nat} {cc : Nat → Int64} {f i n e : Nat}
/-- a VALUE copied to a slot -/
theorem rs_cp {q : Nat} (V : VW cc (r.2.1 1006) f i e n m) (hf : f ≤ 800) (he : 260 * q ≤ e ∨ e + m ≤ 260 * q) (hm : e + m ≤ 626600) (hq : 260 * q + m ≤ 626600) : t_hk (f_X13_copy (nI e) (nI q) r) (fun y => (∀ d, d < m → y.2.1 1006 (260 * q + d) = r.2.1 1006 (e + d)) ∧ l2_fr (fun b j => b = 1006 ∧ 260 * q ≤ j ∧ j < 260 * q + m) r y) := by
  unfold f_X13_copy
  rw [vr_end6 hf (VW.vr _ _ _ _ _ V) hm, l2_bs, vr_len]
  refine l2_lp (fun w z => ∃ j s, j + w = m ∧ z = (nI e, nI q, nI m, nI j, s) ∧ (∀ d, d < j → s.2.1 1006 (260 * q + d) = r.2.1 1006 (e + d)) ∧ l2_fr (fun b x => b = 1006 ∧ 260 * q ≤ x ∧ x < 260 * q + j) r s) ?_ (m := m) (Nat.lt_trans (show m < 1000000000 by omega) l2_N) ⟨0, r, by omega, rfl, fun d hd => by omega, l2_fr.rf⟩
  rintro w z ⟨j, s, hj, rfl, g, fr⟩
  show t_hk (k_X13_copy_14 (nI e) (nI q) (nI m) (nI j) s) _
  unfold k_X13_copy_14
  by_cases c : j = m
  · subst c
    exact l2_ck (nI_le (Nat.le_refl _) (by omega)) (l2_mp (l2_sm ⟨g, fr⟩))
  · refine l2_no (nI_ge (by omega) (by omega)) ?_
    rw [show (260 : Int32) = nI 260 from rfl, pk_mul, nI_add, nI_add]
    refine l2_ck (l2_ix (by omega) (by decide)) (l2_ck (l2_ix (by omega) (by decide)) (l2_lt ?_))
    rw [nI_clamp (n := e + j) (by omega), nI_clamp (n := 260 * q + j) (by omega), nI_1]
    refine l2_sm ⟨w - 1, by omega, j + 1, _, by omega, rfl, fun d hd => ?_, (fr.mono (fun b x q => by omega)).trans (l2_fr.setJ ⟨rfl, by omega, by omega⟩)⟩
    rw [l2_jJ, l2_upif]
    by_cases q : d = j
    · subst q
      rw [if_pos rfl, (fr 1006 (e + d) (by omega)).2.1]
    · rw [if_neg (by omega)]
      exact g d (by omega)
theorem rs_copy (h : r.1 950 98 = nI H) (hH : H < 790) (V : VW cc (r.2.1 1006) f i e n m) (hf : f ≤ 800) (he : 260 * (40 + H) ≤ e ∨ e + m ≤ 260 * (40 + H)) (hm : e + m ≤ 626600) (hm2 : m ≤ 260) : t_hk (f_X13_pushCopy (nI e) r) (fun y => y.1 950 98 = nI (H + 1) ∧ (∀ d, d < m → y.2.1 1006 (260 * (40 + H) + d) = r.2.1 1006 (e + d)) ∧ l2_fr (fun b j => (b = 950 ∧ j = 98) ∨ (b = 1006 ∧ 260 * (40 + H) ≤ j ∧ j < 260 * (40 + H) + m)) r y) := by
  unfold f_X13_pushCopy
  rw [h, show (40 : Int32) = nI 40 from rfl, nI_add]
  refine l2_bd _ (rs_cp (q := 40 + H) V hf he hm (by omega)) (fun r1 hr => ?_)
  obtain ⟨p1, p3⟩ := hr
  refine l2_lt (l2_sm ⟨?_, fun d hd => p1 d hd, (p3.mono (fun b j y => Or.inr y)).trans (l2_fr.set (Or.inl ⟨rfl, rfl⟩))⟩)
  rw [l2_g, if_pos rfl, (p3 950 98 (by omega)).1, h, nI_1]
/-- a VALUE put into the row that is made, at x -/
theorem rs_putMade {x : Nat} (V : VW cc (r.2.1 1006) f i e n m) (hf : f ≤ 800) (hm : e + m ≤ 626600) (hx : x + m ≤ 8600) : t_hk (f_X13_putMade (nI x) (nI e) r) (fun y => y.1 = nI (x + m) ∧ (∀ d, d < m → y.2.2.1 1007 (x + d) = r.2.1 1006 (e + d)) ∧ l2_fr (fun b j => b = 1007 ∧ x ≤ j ∧ j < x + m) r y.2) := by
  unfold f_X13_putMade
  rw [vr_end6 hf (VW.vr _ _ _ _ _ V) hm, l2_bs, vr_len]
  refine l2_lp (fun w z => ∃ j s, j + w = m ∧ z = (nI x, nI e, nI m, nI j, s) ∧ (∀ d, d < j → s.2.1 1007 (x + d) = r.2.1 1006 (e + d)) ∧ l2_fr (fun b y => b = 1007 ∧ x ≤ y ∧ y < x + j) r s) ?_ (m := m) (Nat.lt_trans (show m < 1000000000 by omega) l2_N) ⟨0, r, by omega, rfl, fun d hd => by omega, l2_fr.rf⟩
  rintro w z ⟨j, s, hj, rfl, g, fr⟩
  show t_hk (k_X13_putMade_14 (nI x) (nI e) (nI m) (nI j) s) _
  unfold k_X13_putMade_14
  by_cases c : j = m
  · subst c
    exact l2_ck (nI_le (Nat.le_refl _) (by omega)) (l2_mp (l2_sm ⟨nI_add _ _, g, fr⟩))
  · refine l2_no (nI_ge (by omega) (by omega)) ?_
    rw [nI_add, nI_add]
    refine l2_ck (l2_ix (by omega) (by decide)) (l2_ck (l2_ix (by omega) (by decide)) (l2_lt ?_))
    rw [nI_clamp (n := e + j) (by omega), nI_clamp (n := x + j) (by omega), nI_1]
    refine l2_sm ⟨w - 1, by omega, j + 1, _, by omega, rfl, fun d hd => ?_, (fr.mono (fun b x q => by omega)).trans (l2_fr.setJ ⟨rfl, by omega, by omega⟩)⟩
    rw [l2_jJ, l2_upif]
    by_cases q : d = j
    · subst q
      rw [if_pos rfl, (fr 1006 (e + d) (by omega)).2.1]
    · rw [if_neg (by omega)]
      exact g d (by omega)
/-- the row that was made becomes the top VALUE -/
theorem rs_pushMade (h : r.1 950 98 = nI H) (hH : H < 790) (V : VW cc (r.2.1 1007) f i 0 n m) (hf : f ≤ 800) (hm2 : m ≤ 260) : t_hk (f_X13_pushMade r) (fun y => y.1 950 98 = nI (H + 1) ∧ (∀ d, d < m → y.2.1 1006 (260 * (40 + H) + d) = r.2.1 1007 d) ∧ l2_fr (fun b j => (b = 950 ∧ j = 98) ∨ (b = 1006 ∧ 260 * (40 + H) ≤ j ∧ j < 260 * (40 + H) + m)) r y) := by
  unfold f_X13_pushMade
  have l7 := vr_l7
  have pos := V.pos
  rw [show f_X13_weightOf 1007 (0 : Int32) r = some (nI n) from vr_weightOf (p := 0) l7.1 (by omega) hf (VW.vr _ _ _ _ _ V) (by omega), l2_bs]
  refine l2_ck (show nI n ≤ (120 : Int32) from nI_le (b := 120) (by omega) (by decide)) ?_
  rw [show f_X13_endOf 1007 (0 : Int32) r = some (nI (0 + m)) from vr_endOf (p := 0) l7.1 (by omega) hf (VW.vr _ _ _ _ _ V) (by omega), l2_bs, Nat.zero_add]
  refine l2_lp (fun w z => ∃ j s, j + w = m ∧ z = (nI m, nI j, s) ∧ (∀ d, d < j → s.2.1 1006 (260 * (40 + H) + d) = r.2.1 1007 d) ∧ l2_fr (fun b x => b = 1006 ∧ 260 * (40 + H) ≤ x ∧ x < 260 * (40 + H) + j) r s) ?_ (m := m) (Nat.lt_trans (show m < 1000000000 by omega) l2_N) ⟨0, r, by omega, rfl, fun d hd => by omega, l2_fr.rf⟩
  rintro w z ⟨j, s, hj, rfl, g, fr⟩
  show t_hk (k_X13_pushMade_30 (nI m) (nI j) s) _
  unfold k_X13_pushMade_30
  have e98 : s.1 950 98 = nI H := ((fr 950 98 (by omega)).1).trans h
  by_cases c : j = m
  · subst c
    refine l2_ck (nI_le (Nat.le_refl _) (by omega)) (l2_mp (l2_lt (l2_sm ⟨?_, fun d hd => g d hd, (fr.mono (fun b x q => Or.inr q)).trans (l2_fr.set (Or.inl ⟨rfl, rfl⟩))⟩)))
    rw [l2_g, if_pos rfl, e98, nI_1]
  · refine l2_no (nI_ge (by omega) (by omega)) ?_
    rw [e98, show (40 : Int32) = nI 40 from rfl, nI_add, show (260 : Int32) = nI 260 from rfl, pk_mul, nI_add]
    refine l2_ck (l2_ix (by omega) (by decide)) (l2_ck (l2_ix (by omega) (by decide)) (l2_lt ?_))
    rw [nI_clamp (n := j) (by omega), nI_clamp (n := 260 * (40 + H) + j) (by omega), nI_1]
    refine l2_sm ⟨w - 1, by omega, j + 1, _, by omega, rfl, fun d hd => ?_, (fr.mono (fun b x q => by omega)).trans (l2_fr.setJ ⟨rfl, by omega, by omega⟩)⟩
    rw [l2_jJ, l2_upif]
    by_cases q : d = j
    · subst q
      rw [if_pos rfl, (fr 1007 d (by omega)).2.1]
    · rw [if_neg (by omega)]
      exact g d (by omega)
end
