/-! Level 2: exps worked out: two TEXTS, one behind the other. -/
theorem l2_isb {T : Type} {a b : Option T} {Q : T → Prop} (h : a = b) (g : t_hk b Q) : t_hk a Q := by rw [h]; exact g
theorem x8_st {B : Nat → Nat} {i j q : Nat} (h1 : 8 * q + 8 ≤ i) (h2 : 8 * q + 8 ≤ j) : x8 (x8_S B i q) = x8 (x8_S B j q) := by
  have z : ∀ e, e < 8 → x8_S B i q e = x8_S B j q e := fun e he => by unfold x8_S; rw [if_pos (by omega), if_pos (by omega)]
  unfold x8
  rw [z 0 (by decide), z 1 (by decide), z 2 (by decide), z 3 (by decide), z 4 (by decide), z 5 (by decide), z 6 (by decide), z 7 (by decide)]
theorem jt_c {s2 : t_S} {a b v1 v2 D : Nat} {B : Nat → Nat} {w l1 : Int64} (e1 : ∀ s, f_X8_extent l1 s = nI v1) (hv : v1 + v2 ≤ 40) (hB : ∀ j, j < v1 + v2 → B j < 128) (hw : s2.2.1 340 0 = w) (wc : vl_c ((v1 + v2 : Nat) : Int) (1 + (v1 + v2 + 7) / 8) 2 w) (h7 : s2.1 334 7 = nI (D + 1)) (ha : a + 240 ≤ 48000) (hD : D < 3150) (sg : ∀ s : t_S, (∀ j, s.2.1 338 j = s2.2.1 338 j) → (∀ i, i < v1 → f_X8_sign 338 (nI a) (nI i) s = some (nI (B i))) ∧ ∀ i, i < v2 → f_X8_sign 338 (nI b) (nI i) s = some (nI (B (v1 + i)))) : t_hk (t_loop (b_X0_join_217) t_N (l1, nI a, nI b, nI (v1 + v2), 0, s2)) (fun c' => c'.1 339 (D + 1) = nI (a + (1 + (v1 + v2 + 7) / 8)) ∧ c'.2.1 338 a = w ∧ (∀ q, q < (v1 + v2 + 7) / 8 → c'.2.1 338 (a + 1 + q) = lN (16 * x8 (x8_S B (v1 + v2) q) + 10)) ∧ l2_fr (fun b j => b = 340 ∨ (b = 338 ∧ a ≤ j) ∨ (b = 339 ∧ j = D + 1)) s2 c') := by
  obtain ⟨v, hv'⟩ : ∃ v, v = v1 + v2 := ⟨_, rfl⟩
  rw [← hv'] at hv hB wc ⊢
  refine l2_lp (fun m z => ∃ i s, i + m = v ∧ z = (l1, nI a, nI b, nI v, nI i, s) ∧ (∀ q, q < (i + 7) / 8 → s.2.1 340 (1 + q) = lN (16 * x8 (x8_S B i q) + 10)) ∧ l2_fr (fun b j => b = 340 ∧ 1 ≤ j) s2 s) ?_ (m := v) (Nat.lt_trans (show v < 1000000000 by omega) l2_N) ⟨0, s2, by omega, rfl, fun q hq => by omega, l2_fr.rf⟩
  rintro m z ⟨i, s, hi, rfl, g, fr⟩
  show t_hk (k_X0_join_217 l1 (nI a) (nI b) (nI v) (nI i) s) _
  unfold k_X0_join_217
  have w0 : s.2.1 340 0 = w := by rw [(fr 340 0 (by omega)).2.1]; exact hw
  have s7 : s.1 334 7 = nI (D + 1) := by rw [(fr 334 7 (by omega)).1]; exact h7
  have sgs := sg s (fun j => (fr 338 j (by omega)).2.1)
  by_cases d : i = v
  · subst d
    refine l2_ck (nI_le (Nat.le_refl _) (by omega)) (l2_mp ?_)
    rw [show (0 : Int32).toNatClampNeg = 0 from rfl, w0, vl_size wc]
    refine l2_ck (cp_ok (x := 0) (by omega) (by omega) (by omega) (by omega) (by omega)) (l2_lt ?_)
    obtain ⟨p1, p2, p3⟩ := cp_at (s := s) (a := 340) (b := 338) (x := 0) (y := a) (m := 1 + (i + 7) / 8) (by omega) (by omega) (by omega)
    have p1 : (t_cpJ s 340 338 (0 : Int32) (nI a) (nI (1 + (i + 7) / 8))).1 = s.1 := p1
    have p2 : ∀ d, d < 1 + (i + 7) / 8 → (t_cpJ s 340 338 (0 : Int32) (nI a) (nI (1 + (i + 7) / 8))).2.1 338 (a + d) = s.2.1 340 (0 + d) := p2
    have p3 : l2_fr _ s (t_cpJ s 340 338 (0 : Int32) (nI a) (nI (1 + (i + 7) / 8))) := p3
    generalize t_cpJ s 340 338 (0 : Int32) (nI a) (nI (1 + (i + 7) / 8)) = c1 at *
    have q0 : c1.2.1 340 0 = w := by rw [(p3 340 0 (by omega)).2.1]; exact w0
    rw [p1, s7, q0, vl_size wc, nI_add]
    refine l2_ck (l2_ix (by omega) (by decide)) (l2_lt (l2_sm ⟨?_, ?_, fun q hq => ?_, ?_⟩))
    · rw [nI_clamp (n := D + 1) (by omega), l2_g, if_pos rfl]
    · show c1.2.1 338 a = w
      have := p2 0 (by omega)
      rw [Nat.add_zero, Nat.add_zero] at this
      rw [this]; exact w0
    · show c1.2.1 338 (a + 1 + q) = _
      rw [show a + 1 + q = a + (1 + q) by omega, p2 (1 + q) (by omega), show 0 + (1 + q) = 1 + q by omega]
      exact g q hq
    · rw [nI_clamp (n := D + 1) (by omega)]
      exact (fr.mono (fun b j y => by omega)).trans ((p3.mono (fun b j y => by omega)).trans (l2_fr.set (by omega)))
  · have iv : i < v := by omega
    refine l2_no (nI_ge iv (by omega)) ?_
    rw [e1]
    refine l2_isb (b := k_X0_join_272 l1 (nI a) (nI b) (nI v) (nI i) (nI (B i)) (nI i) 0 s) ?_ ?_
    · by_cases c : v1 ≤ i
      · have sb : nI i - nI v1 = nI (i - v1) := by
          have := vr_len (p := v1) (m := i - v1)
          rw [show v1 + (i - v1) = i by omega] at this
          exact this
        have sv := sgs.2 (i - v1) (by omega)
        rw [show v1 + (i - v1) = i by omega] at sv
        rw [if_pos (nI_le c (by omega)), sb, sv, l2_bs]
      · rw [if_neg (nI_ge (by omega) (by omega)), sgs.1 i (by omega), l2_bs]
    · obtain ⟨b', hb⟩ : ∃ b', b' = B i := ⟨_, rfl⟩
      rw [← hb]
      unfold k_X0_join_272
      refine l2_bd _ (pu_put (c := s) (p := 0) (i := i) (b := b') (B := B) (by omega) (by omega) (fun j hj => hB j (by omega)) hb (fun y => by rw [show 0 + 1 + i / 8 = 1 + i / 8 by omega]; exact g (i / 8) (by omega))) (fun c' hc => ?_)
      obtain ⟨q1, q2⟩ := hc
      rw [show 0 + 1 + i / 8 = 1 + i / 8 by omega] at q1 q2
      rw [nI_1]
      refine l2_sm ⟨m - 1, by omega, i + 1, c', by omega, rfl, fun q hq => ?_, fr.trans (q1.mono (fun b j y => by omega))⟩
      by_cases e : q = i / 8
      · rw [e]; exact q2
      · rw [(q1 340 (1 + q) (by omega)).2.1, g q (by omega), x8_st (j := i + 1) (by omega) (by omega)]
/-- the reference: signs into the row that is made -/
theorem jt_r {s3 : t_S} {T U v1 v2 : Nat} {B : Nat → Nat} (hv : v1 + v2 ≤ 40) (hB : ∀ j, j < v1 + v2 → B j < 128) (sg : ∀ s : t_S, (∀ j, s.2.1 1006 j = s3.2.1 1006 j) → (∀ i, i < v1 → f_X13_signOf (nI T) (nI i) s = some (nI (B i))) ∧ ∀ i, i < v2 → f_X13_signOf (nI U) (nI i) s = some (nI (B (v1 + i)))) {Q : t_S → Prop} (fin : ∀ s, (∀ q, q < 5 → s.2.1 1007 (2 + q) = lN (y8 (x8_S B (v1 + v2) q))) → l2_fr (fun b j => b = 1007 ∧ 2 ≤ j) s3 s → t_hk (f_X13_pushMade s) Q) : t_hk (t_loop (b_X13_joinRows_165) t_N (nI T, nI U, nI v1, nI v2, 0, s3)) Q := by
  obtain ⟨v, hv'⟩ : ∃ v, v = v1 + v2 := ⟨_, rfl⟩
  rw [← hv'] at hv hB fin
  refine l2_lp (fun m z => ∃ j s, j + m = 5 ∧ z = (nI T, nI U, nI v1, nI v2, nI j, s) ∧ (∀ q, q < j → s.2.1 1007 (2 + q) = 0) ∧ l2_fr (fun b j => b = 1007 ∧ 2 ≤ j) s3 s) ?_ (m := 5) (Nat.lt_trans (show 5 < 1000000000 by decide) l2_N) ⟨0, s3, by omega, rfl, fun q hq => by omega, l2_fr.rf⟩
  rintro m z ⟨j, s, hj, rfl, g, fr⟩
  show t_hk (k_X13_joinRows_165 (nI T) (nI U) (nI v1) (nI v2) (nI j) s) _
  unfold k_X13_joinRows_165
  by_cases c : j = 5
  · subst c
    refine l2_ck (nI_le (a := 5) (by omega) (by omega)) (l2_mp ?_)
    refine l2_lp (fun m z => ∃ i s', i + m = v ∧ z = (nI T, nI U, nI v1, nI v2, nI i, s') ∧ (∀ q, q < 5 → s'.2.1 1007 (2 + q) = lN (y8 (x8_S B i q))) ∧ l2_fr (fun b j => b = 1007 ∧ 2 ≤ j) s3 s') ?_ (m := v) (Nat.lt_trans (show v < 1000000000 by omega) l2_N) ⟨0, s, by omega, rfl, fun q hq => by rw [g q hq, y8_z (Nat.zero_le _)]; rfl, fr⟩
    rintro m2 z ⟨i, s', hi, rfl, g2, fr2⟩
    show t_hk (k_X13_joinRows_190 (nI T) (nI U) (nI v1) (nI v2) (nI i) s') _
    unfold k_X13_joinRows_190
    rw [nI_add, ← hv']
    have sgs := sg s' (fun j => (fr2 1006 j (by omega)).2.1)
    by_cases d : i = v
    · subst d
      refine l2_ck (nI_le (Nat.le_refl _) (by omega)) (l2_mp ?_)
      unfold k_X13_joinRows_339
      exact l2_bd _ (fin s' g2 fr2) (fun y hy => l2_sm hy)
    · have iv : i < v := by omega
      have d8 : nI i / (8 : Int32) = nI (i / 8) := pk_div (a := i) (d := 8) (by omega) (by decide) (by decide)
      have r8 : nI i - nI i / (8 : Int32) * (8 : Int32) = nI (i % 8) := pk_rem (a := i) (d := 8) (by omega) (by decide) (by decide)
      refine l2_no (nI_ge iv (by omega)) ?_
      rw [d8, show (2 : Int32) = nI 2 from rfl, nI_add, nI_clamp (n := 2 + i / 8) (by omega)]
      refine l2_ck (l2_ix (by omega) (by decide)) (l2_isb (b := k_X13_joinRows_240 (nI T) (nI U) (nI v1) (nI v2) (nI i) (nI (B i)) (s'.2.1 1007 (2 + i / 8)) (nI (2 + i / 8)) s') ?_ ?_)
      · by_cases c : v1 ≤ i
        · have sb : nI i - nI v1 = nI (i - v1) := by
            have := vr_len (p := v1) (m := i - v1)
            rw [show v1 + (i - v1) = i by omega] at this
            exact this
          have sv := sgs.2 (i - v1) (by omega)
          rw [show v1 + (i - v1) = i by omega] at sv
          rw [if_pos (nI_le c (by omega)), sb, sv, l2_bs]
        · rw [if_neg (nI_ge (by omega) (by omega)), sgs.1 i (by omega), l2_bs]
      · obtain ⟨b', hb⟩ : ∃ b', b' = B i := ⟨_, rfl⟩
        rw [← hb]
        unfold k_X13_joinRows_240
        refine l2_ck (l2_ix (by omega) (by decide)) (l2_lt ?_)
        rw [nI_clamp (n := 2 + i / 8) (by omega), r8, g2 (i / 8) (by omega), nI_l (n := b') (by have := hB i iv; omega), show (8 : Int32) * nI (i % 8) = nI (8 * (i % 8)) from pk_mul 8 _, wb_shl b' (k := 8 * (i % 8)) (by omega), hb, y8_or (fun j hj => hB j (by omega)), nI_1]
        refine l2_sm ⟨m2 - 1, by omega, i + 1, _, by omega, rfl, fun q hq => ?_, fr2.trans (l2_fr.setJ ⟨rfl, by omega⟩)⟩
        rw [l2_jJ, l2_upif]
        by_cases u : q = i / 8
        · rw [if_pos (by omega), u]
        · rw [if_neg (by omega), g2 q hq]
          by_cases l : q < i / 8
          · rw [y8_st (j := i + 1) (by omega) (by omega)]
          · rw [y8_z (by omega), y8_z (by omega)]
  · refine l2_no (show ¬ (5 : Int32) ≤ nI j from nI_ge (b := 5) (by omega) (by decide)) ?_
    rw [show (2 : Int32) = nI 2 from rfl, nI_add]
    refine l2_ck (l2_ix (by omega) (by decide)) (l2_lt ?_)
    rw [nI_clamp (n := 2 + j) (by omega), nI_1]
    refine l2_sm ⟨m - 1, by omega, j + 1, _, by omega, rfl, fun q hq => ?_, fr.trans (l2_fr.setJ ⟨rfl, by omega⟩)⟩
    rw [l2_jJ, l2_upif]
    by_cases u : q = j
    · rw [if_pos (by omega)]
    · rw [if_neg (by omega)]
      exact g q (by omega)
