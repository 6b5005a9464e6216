/-! Level 2: the reference's stack of VALUES: what one push does. -/
/-- what may be written where H VALUES lie -/
def rsF (H b j : Nat) : Prop := (b = 950 ∧ (j = 97 ∨ j = 98)) ∨ (b = 1006 ∧ 260 * (40 + H) ≤ j ∧ j < 260 * (41 + H))
section
variable {r : t_S} {H k m : Nat} {v : Int64}
theorem rs_push (h : r.1 950 98 = nI H) (hH : H < 790) (hk : k < 100) : t_hk (f_X13_push (nI k) v r) (fun y => y.1 = nI (260 * (40 + H)) ∧ y.2.1 950 98 = nI (H + 1) ∧ y.2.2.1 1006 (260 * (40 + H)) = lN k ∧ y.2.2.1 1006 (260 * (40 + H) + 1) = v ∧ l2_fr (fun b j => (b = 950 ∧ j = 98) ∨ (b = 1006 ∧ 260 * (40 + H) ≤ j ∧ j < 260 * (40 + H) + 2)) r y.2) := by
  unfold f_X13_push
  refine l2_lt ?_
  rw [h, nI_1 H, show (40 : Int32) = nI 40 from rfl, nI_add, show (260 : Int32) = nI 260 from rfl, pk_mul, nI_l (n := k) (by omega), nI_1 (260 * (40 + H)), nI_clamp (n := 260 * (40 + H)) (by omega), nI_clamp (n := 260 * (40 + H) + 1) (by omega)]
  have f1 : l2_fr (fun b j => b = 950 ∧ j = 98) r (t_setI r 950 98 (nI (H + 1))) := l2_fr.set ⟨rfl, rfl⟩
  have v1 : (t_setI r 950 98 (nI (H + 1))).1 950 98 = nI (H + 1) := by rw [l2_g, if_pos rfl]
  generalize t_setI r 950 98 (nI (H + 1)) = r1 at *
  refine l2_ck (l2_ix (by omega) (by decide)) (l2_lt ?_)
  refine l2_ck (l2_ix (by omega) (by decide)) (l2_lt (l2_sm ⟨rfl, ?_, ?_, ?_, ?_⟩))
  · rw [l2_jI, l2_jI]; exact v1
  · show (t_setJ (t_setJ r1 1006 _ (lN k)) 1006 _ v).2.1 1006 _ = _
    rw [l2_jJ, l2_upif, if_neg (by omega), l2_jJ, l2_upif, if_pos rfl]
  · show (t_setJ (t_setJ r1 1006 _ (lN k)) 1006 _ v).2.1 1006 _ = _
    rw [l2_jJ, l2_upif, if_pos rfl]
  · exact (f1.mono (fun b j y => Or.inl y)).trans ((l2_fr.setJ (Or.inr ⟨rfl, by omega, by omega⟩)).trans (l2_fr.setJ (Or.inr ⟨rfl, by omega, by omega⟩)))
theorem rs_error {e : Int32} (h : r.1 950 97 = 0) : t_hk (f_X13_error e r) (fun y => y.1 950 97 = e ∧ l2_fr (fun b j => b = 950 ∧ j = 97) r y) := by
  unfold f_X13_error
  rw [if_pos h]
  exact l2_lt (l2_sm ⟨by rw [l2_g, if_pos rfl], l2_fr.set ⟨rfl, rfl⟩⟩)
/-- a number, in bounds or not -/
theorem rs_number (h : r.1 950 98 = nI H) (h7 : r.1 950 97 = 0) (hH : H < 790) : t_hk (f_X13_pushNumber v r) (fun y => y.1 950 98 = nI (H + 1) ∧ y.2.1 1006 (260 * (40 + H)) = lN 0 ∧ y.2.1 1006 (260 * (40 + H) + 1) = v ∧ y.1 950 97 = (if -(10 ^ 15) ≤ v.toInt ∧ v.toInt ≤ 10 ^ 15 then 0 else 3) ∧ l2_fr (rsF H) r y) := by
  unfold f_X13_pushNumber
  rw [fin_r, show (-1000000000000000 : Int64).toInt = -(10 ^ 15) from rfl, show (1000000000000000 : Int64).toInt = 10 ^ 15 from rfl]
  by_cases c : -(10 ^ 15) ≤ v.toInt ∧ v.toInt ≤ 10 ^ 15
  · rw [if_pos c, if_pos c]
    refine l2_no (by decide) ?_
    unfold k_X13_pushNumber_18
    refine l2_bd _ (rs_push (k := 0) (v := v) h hH (by decide)) (fun y hy => l2_sm ?_)
    obtain ⟨y1, y2, y3, y4, y5⟩ := hy
    exact ⟨y2, y3, y4, ((y5 950 97 (by omega)).1).trans h7, y5.mono (fun b j q => by unfold rsF; omega)⟩
  · rw [if_neg c, if_neg c]
    refine l2_ck rfl (l2_bd _ (rs_error (e := 3) h7) (fun r1 hr => ?_))
    unfold k_X13_pushNumber_18
    refine l2_bd _ (rs_push (k := 0) (v := v) (r := r1) (((hr.2 950 98 (by omega)).1).trans h) hH (by decide)) (fun y hy => l2_sm ?_)
    obtain ⟨y1, y2, y3, y4, y5⟩ := hy
    exact ⟨y2, y3, y4, ((y5 950 97 (by omega)).1).trans hr.1, (hr.2.mono (fun b j q => by unfold rsF; omega)).trans (y5.mono (fun b j q => by unfold rsF; omega))⟩
theorem rs_truth {b : Int32} (h : r.1 950 98 = nI H) (hH : H < 790) : t_hk (f_X13_pushTruth b r) (fun y => y.1 950 98 = nI (H + 1) ∧ y.2.1 1006 (260 * (40 + H)) = lN 1 ∧ y.2.1 1006 (260 * (40 + H) + 1) = (if b = 0 then 0 else 1) ∧ l2_fr (fun b j => (b = 950 ∧ j = 98) ∨ (b = 1006 ∧ 260 * (40 + H) ≤ j ∧ j < 260 * (40 + H) + 2)) r y) := by
  unfold f_X13_pushTruth k_X13_pushTruth_11
  by_cases c : b = 0
  · rw [if_pos c, if_pos c]
    refine l2_bd _ (rs_push (k := 1) (v := 0) h hH (by decide)) (fun y hy => l2_sm ?_)
    exact ⟨hy.2.1, hy.2.2.1, hy.2.2.2.1, hy.2.2.2.2⟩
  · rw [if_neg c, if_neg c]
    refine l2_bd _ (rs_push (k := 1) (v := 1) h hH (by decide)) (fun y hy => l2_sm ?_)
    exact ⟨hy.2.1, hy.2.2.1, hy.2.2.2.1, hy.2.2.2.2⟩
/-- a VALUE's part moved down to where the next one is to lie -/
theorem rs_moveTo {cc : Nat → Int64} {f i n e : Nat} (h : r.1 950 98 = nI H) (hH : H < 790) (V : VW cc (r.2.1 1006) f i e n m) (hf : f ≤ 800) (he : 260 * (40 + H) ≤ e) (hm : e + m ≤ 626600) (hm2 : m ≤ 260) : t_hk (f_X13_moveTo (nI e) r) (fun y => y.1 950 98 = nI (H + 1) ∧ (∀ d, d < m → y.2.1 1006 (260 * (40 + H) + d) = r.2.1 1006 (e + d)) ∧ l2_fr (fun b j => (b = 950 ∧ j = 98) ∨ (b = 1006 ∧ 260 * (40 + H) ≤ j ∧ j < 260 * (40 + H) + m)) r y) := by
  unfold f_X13_moveTo
  rw [vr_end6 hf (VW.vr _ _ _ _ _ V) hm, l2_bs, h, show (40 : Int32) = nI 40 from rfl, nI_add, show (260 : Int32) = nI 260 from rfl, pk_mul, vr_len]
  refine l2_lp (fun w z => ∃ j s, j + w = m ∧ z = (nI e, nI (260 * (40 + H)), nI m, nI j, s) ∧ (∀ d, d < j → s.2.1 1006 (260 * (40 + H) + d) = r.2.1 1006 (e + d)) ∧ l2_fr (fun b x => b = 1006 ∧ 260 * (40 + H) ≤ x ∧ x < 260 * (40 + H) + j) r s) ?_ (m := m) (Nat.lt_trans (show m < 1000000000 by omega) l2_N) ⟨0, r, by omega, rfl, fun d hd => by omega, l2_fr.rf⟩
  rintro w z ⟨j, s, hj, rfl, g, fr⟩
  show t_hk (k_X13_moveTo_26 (nI e) (nI (260 * (40 + H))) (nI m) (nI j) s) _
  unfold k_X13_moveTo_26
  by_cases c : j = m
  · subst c
    refine l2_ck (nI_le (Nat.le_refl _) (by omega)) (l2_mp (l2_lt (l2_sm ⟨?_, fun d hd => ?_, ?_⟩)))
    · rw [l2_g, if_pos rfl, (fr 950 98 (by omega)).1, h, nI_1]
    · exact g d hd
    · exact (fr.mono (fun b x q => Or.inr q)).trans (l2_fr.set (Or.inl ⟨rfl, rfl⟩))
  · refine l2_no (nI_ge (by omega) (by omega)) ?_
    rw [nI_add, nI_add]
    refine l2_ck (l2_ix (by omega) (by decide)) (l2_ck (l2_ix (by omega) (by decide)) (l2_lt ?_))
    rw [nI_clamp (n := e + j) (by omega), nI_clamp (n := 260 * (40 + H) + j) (by omega), nI_1]
    refine l2_sm ⟨w - 1, by omega, j + 1, _, by omega, rfl, fun d hd => ?_, (fr.mono (fun b x q => by omega)).trans (l2_fr.setJ ⟨rfl, by omega, by omega⟩)⟩
    rw [l2_jJ, l2_upif]
    by_cases q : d = j
    · subst q
      rw [if_pos rfl, (fr 1006 (e + d) (by omega)).2.1]
    · rw [if_neg (by omega)]
      exact g d (by omega)
end
