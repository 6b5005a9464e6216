/-! Level 2: exps worked out: an element taken. -/
section
variable {κ : KPP} {c0 r0 : t_S} {Kc : t_S → t_S → Prop} {Kr : Nat → Nat → t_S → t_S → Prop} {c r c1 r1 c' r' cs rs : t_S} {D a H S rr rr2 e0 e1 i g n nn m m0 m1 cnt o K st X b sz n0 n1 n2 k1 k2 : Nat} {oc or : Option t_S}
theorem UO.pre (f1 : l2_fr (oWc D a) c1 cs) (f2 : l2_fr (oWr H) r1 rs) (h : UO D a H cs rs oc or) : UO D a H c1 r1 oc or := by
  obtain ⟨c2, r2, h1, h2, g1, g2, h3⟩ := h
  exact ⟨c2, r2, h1, h2, f1.trans g1, f2.trans g2, h3⟩
theorem t2_t1 (h : T2 D a H n1 k1 n2 k2 c1 r1) : T1 D a H n1 k1 (t_setI c1 334 7 (nI (D + 1))) (t_setI r1 950 98 (nI (H + 1))) ∧ l2_fr (oWc D a) c1 (t_setI c1 334 7 (nI (D + 1))) ∧ l2_fr (oWr H) r1 (t_setI r1 950 98 (nI (H + 1))) := by
  obtain ⟨⟨V, W⟩, ⟨hA, h39, h392, h7, h12⟩, ⟨h98, h97⟩, b1, b2, b3⟩ := h
  refine ⟨⟨V, ⟨?_, ?_, ?_, ?_⟩, ⟨?_, ?_⟩, ⟨by omega, by omega, by omega⟩, b1, b2, b3⟩, l2_fr.set (Or.inl ⟨rfl, Or.inl rfl⟩), l2_fr.set (Or.inl ⟨rfl, Or.inr rfl⟩)⟩
  · rw [l2_sO (by decide)]; exact hA
  · rw [l2_sO (by decide)]; exact h39
  · rw [l2_g, if_pos rfl]
  · rw [l2_g, if_neg (by decide)]; exact h12
  · rw [l2_g, if_pos rfl]
  · rw [l2_g, if_neg (by decide)]; exact h97
theorem ea_at {arr v j L : Nat} {I : Nat → Nat} (hok : t_oka arr 2 (t_ln arr) = true) (hL : t_ln arr < 1000000000) (I0 : I 0 = 0) (hj : j < v) (hv : v ≤ 16) (hI : ∀ i, i < v → a + 1 + I i < t_ln arr ∧ I i ≤ I (i + 1) ∧ ∃ t k, vl_c t (I (i + 1) - I i) k (c.2.1 arr (a + 1 + I i))) (hl : a + 1 + I j < 1000000000) : f_X8_elementAt arr (nI a) (nI j) c = some (nI (a + 1 + I j)) := by
  unfold f_X8_elementAt
  have sr := l2_srch (b := b_X8_elementAt_7 c) (Y := fun i => (arr, nI j, nI (a + 1 + I i), nI i)) (j := j) (r := nI (a + 1 + I j)) (by omega) (fun i hi => ?_) ?_
  · rw [I0, Nat.add_zero] at sr
    rw [nI_1]
    exact sr
  · obtain ⟨i1, i2, t, k, i3⟩ := hI i (by omega)
    show k_X8_elementAt_7 arr (nI j) (nI (a + 1 + I i)) (nI i) c = _
    unfold k_X8_elementAt_7
    rw [if_neg (nI_ge hi (by omega)), if_neg (show ¬ (16 : Int32) ≤ nI i from nI_ge (b := 16) (by omega) (by decide)), if_pos hok, if_pos (l2_ix i1 (by omega)), nI_clamp (n := a + 1 + I i) (by omega), vl_sz i3, nI_1, nI_add, show a + 1 + I i + (I (i + 1) - I i) = a + 1 + I (i + 1) by omega]
  · show k_X8_elementAt_7 arr (nI j) (nI (a + 1 + I j)) (nI j) c = _
    unfold k_X8_elementAt_7
    rw [if_pos (nI_le (Nat.le_refl _) (by omega))]
    rfl
theorem uo_at (h : T2 D a H n1 k1 n2 k2 c1 r1) : UO D a H c1 r1 (f_X0_binary (nI 15) c1) (f_X13_element r1) := by
  obtain ⟨t', k', hd', k8', p0', m2', ps', pn', hx2⟩ := h.1.2.hd
  clear hx2
  obtain ⟨rs, hrs, s98, s97, fs, sJ, e2, eu, et⟩ := t2_off h
  have bb := h.2.2.2
  have V := h.1.1
  have h12 := h.2.1.2.2.2.2
  have h97 := h.2.2.1.2
  obtain ⟨T, hT⟩ : ∃ T, T = 260 * (40 + H) := ⟨_, rfl⟩
  obtain ⟨U, hU⟩ : ∃ U, U = 260 * (41 + H) := ⟨_, rfl⟩
  rw [← hT] at V eu
  rw [← hU] at et p0' ps'
  have q' : nI k' = (0 : Int32) ↔ k' = 0 := nI_eq (b := 0) (by omega) (by decide)
  have z : ∀ (kk y : Nat), kk < 100 → y < 100 → (lg_cmp (lN kk) (lN y) = 0 ↔ kk = y) := fun kk y hk hy => by
    rw [l2_cmp0]
    exact ⟨fun q => lN_inj (by omega) (by omega) q, fun q => by rw [q]⟩
  have z8 : ∀ kk : Nat, kk < 100 → (lg_cmp (lN kk) (8 : Int64) = 0 ↔ kk = 8) := fun kk hk => z kk 8 hk (by decide)
  have z0 : ∀ kk : Nat, kk < 100 → (lg_cmp (lN kk) (0 : Int64) = 0 ↔ kk = 0) := fun kk hk => z kk 0 hk (by decide)
  have er : ∀ e : Nat, 1 ≤ e ∧ e ≤ 7 → UO D a H c1 r1 (some (t_setI c1 334 12 (nI e))) ((f_X13_error (nI e) r1).bind (fun r => some r)) := fun e he => uo_err he rfl (l2_fr.rf) h97 rfl
  have e51 : ∀ (w : Int64) (e : Int32), e ≠ 0 → k_X0_index_51 w (t_setI c1 334 12 e) = some (t_setI c1 334 12 e) := fun w e he => by
    unfold k_X0_index_51
    rw [if_neg (by rw [l2_g, if_pos rfl]; exact he)]
  have B : f_X0_binary (nI 15) c1 = (f_X0_index (c1.2.1 338 a) (c1.2.1 338 (a + n1)) c1).bind (fun r => some r) := by
    rw [bi_x h]
    unfold bX
    rw [if_pos (show nI 15 = (15 : Int32) from rfl)]
  rw [B]
  refine UO.bc ?_
  -- not a LIST
  have no8 : ∀ k t, k ≤ 8 → k ≠ 8 → vl_c t n1 k (c1.2.1 338 a) → r1.2.1 1006 T = lN k → UO D a H c1 r1 (f_X0_index (c1.2.1 338 a) (c1.2.1 338 (a + n1)) c1) (f_X13_element r1) := fun k t h8 hk hd p0 => by
    have n8 : ¬ nI k = (8 : Int32) := fun y => hk ((nI_eq (b := 8) (by omega) (by decide)).mp y)
    unfold f_X0_index k_X0_index_16 f_X13_element k_X13_element_34
    rw [vl_kind hd, if_neg n8, t_let, e51 _ 1 (by decide), eu, if_pos (l2_ix (by omega) (by decide)), nI_clamp (n := T) (by omega), p0, if_neg (fun y => hk ((z8 k (by omega)).mp y))]
    exact er 1 (by decide)
  have V' := V
  obtain ⟨⟨h1, h2, h4⟩, t, k, h3, h5, h6⟩ := V
  rcases h6 with ⟨y, _⟩ | ⟨y, _⟩ | ⟨y, _⟩ | ⟨v, y, _⟩ | ⟨y, _⟩ | ⟨v, I, P, y, y2, v16, d, m2, x1, x2, x3, x4, x5⟩ | ⟨v, I, P, Y, y, _⟩
  · exact no8 k t (by omega) (by omega) h3 h5
  · exact no8 k t (by omega) (by omega) h3 h5
  · exact no8 k t (by omega) (by omega) h3 h5
  · exact no8 k t (by omega) (by omega) h3 h5
  · exact no8 k t (by omega) (by omega) h3 h5
  · subst y y2
    have mm := V'.m2
    unfold f_X0_index k_X0_index_16 k_X0_index_46 f_X13_element k_X13_element_34
    rw [vl_kind h3, vl_kind hd', if_pos (show nI 8 = (8 : Int32) from rfl), eu, et, if_pos (l2_ix (by omega) (by decide)), nI_clamp (n := T) (by omega), h5, if_pos ((z8 8 (by decide)).mpr rfl), if_pos (l2_ix (by omega) (by decide)), nI_clamp (n := U) (by omega), p0']
    by_cases k0 : k' = 0
    · rw [if_pos (q'.mpr k0), if_pos ((z0 k' (by omega)).mpr k0), nI_1, nI_1, if_pos (l2_ix (by omega) (by decide)), if_pos (l2_ix (by omega) (by decide)), nI_clamp (n := U + 1) (by omega), nI_clamp (n := T + 1) (by omega), d]
      have bt := pn' k0
      have tv := ps' (Or.inl ⟨k0, bt⟩)
      have tc : (f_X8_told (c1.2.1 338 (a + n1)) c1).toInt = t' := vl_told hd'
      have pp : f_X8_partsOf (c1.2.1 338 a) c1 = nI v := by
        have td : (c1.2.1 338 a >>> ((12 : Int32).toInt64 &&& 63)) = lN v := Int64.toInt_inj.mp (by rw [pk_lT (by omega)]; exact vl_told h3 (s := c1))
        unfold f_X8_partsOf
        rw [td, lN_w]
      have lm : (lN v - (1 : Int64)).toInt = (v : Int) - 1 := by
        rw [i64_sub (by unfold nB; rw [pk_lT (by omega)]; omega) (by unfold nB; decide), pk_lT (by omega)]
        rfl
      have fin_in : f_X13_in (r1.2.1 1006 (U + 1)) 0 (lN v - 1) r1 = (if 0 ≤ t' ∧ t' ≤ (v : Int) - 1 then 1 else 0) := by
        rw [fin_r, tv, lm]
        rfl
      rw [fin_in, pp]
      by_cases c1n : t' < 0
      · rw [if_pos (t_cmp_lt.mpr (by rw [tc]; exact c1n)), t_let, e51 _ 2 (by decide), if_neg (show ¬ (0 ≤ t' ∧ t' ≤ (v : Int) - 1) by omega), if_pos rfl]
        exact er 2 (by decide)
      · rw [if_neg (fun y => c1n (by have := t_cmp_lt.mp y; rw [tc] at this; exact this))]
        by_cases c2n : t' < v
        · rw [if_pos (t_cmp_lt.mpr (by rw [tc, nI_lT (by omega)]; exact c2n)), if_pos (show 0 ≤ t' ∧ t' ≤ (v : Int) - 1 by omega), if_neg (show ¬ (1 : Int32) = 0 by decide)]
          obtain ⟨j, rfl⟩ : ∃ j : Nat, t' = j := ⟨t'.toNat, by omega⟩
          have wj : f_X8_told (c1.2.1 338 (a + n1)) c1 = lN j := Int64.toInt_inj.mp (by rw [pk_lT (by omega), tc])
          have rj : r1.2.1 1006 (U + 1) = lN j := Int64.toInt_inj.mp (by rw [pk_lT (by omega), tv])
          have t71 := t2_7 h
          obtain ⟨TT, F1, F2⟩ := t2_t1 h
          have eJ : (t_setI c1 334 7 (nI (D + 1))).2.1 = c1.2.1 := rfl
          have e39 : (t_setI c1 334 7 (nI (D + 1))).1 339 D = nI a := TT.2.1.1
          have e7 : (t_setI c1 334 7 (nI (D + 1))).1 334 7 = nI (D + 1) := TT.2.1.2.2.1
          unfold k_X0_index_51
          rw [if_pos h12, t_let, t71, e7, sy_m1n (by omega), show D + 1 - 1 = D by omega, if_pos (l2_ix (by omega) (by decide)), nI_clamp (n := D) (by omega), e39]
          have wj' : ∀ s, f_X8_told (c1.2.1 338 (a + n1)) s = lN j := fun s => wj
          have up : ∀ q, q ≤ v → I q ≤ n1 - 1 ∧ P q ≤ k1 - 2 := fun q hq => by
            by_cases e : q = v
            · rw [e]; omega
            · have := (x5 q (by omega)).1; omega
          rw [wj', lN_w, ea_at (I := I) (v := v) (L := 0) (by decide +kernel) (by decide +kernel) x1 (show j < v by omega) v16 (fun q hq => by
            exact ⟨by have := up q (by omega); show a + 1 + I q < 48000; omega, by have := (x5 q hq).1; omega, by obtain ⟨u, l, hl, _⟩ := (x5 q hq).2.2.hd; exact ⟨u, l, hl⟩⟩) (by have := up j (by omega); omega), l2_bs, rj, lN_w]
          have PO := vw_part (s := r1) (c := c1.2.1 338) (f := 119) (v := v) (p := T) (q0 := T + 2) (k := 8) (j := j) (I := fun q => a + 1 + I q) (P := P) (L := fun q => I (q + 1) - I q) h5 (by decide) (by rw [if_neg (by decide)]) (fun y => absurd y (by decide)) (by omega) x2 (fun q hq => ⟨(x5 q hq).1.2.1, by have := up (q + 1) (by omega); omega, (x5 q hq).2.2⟩) (by decide) (by omega) (by omega)
          rw [PO, l2_bs, t_let, e2, ← hrs]
          obtain ⟨y1, y2, y3⟩ := x5 j (by omega)
          have u1 := up j (by omega)
          have u2 := up (j + 1) (by omega)
          have FS : l2_fr (oWr H) (t_setI r1 950 98 (nI (H + 1))) rs := fun b q hq => by
            rw [hrs, (l2_fr.set (W := fun b j => b = 950 ∧ j = 98) (s := r1) (v := nI H) ⟨rfl, rfl⟩ b q (fun y => hq (Or.inl ⟨y.1, Or.inr y.2⟩))).1, (l2_fr.set (W := fun b j => b = 950 ∧ j = 98) (s := r1) (v := nI (H + 1)) ⟨rfl, rfl⟩ b q (fun y => hq (Or.inl ⟨y.1, Or.inr y.2⟩))).1]
            exact ⟨rfl, rfl, rfl⟩
          refine UO.pre F1 F2 (uo_move TT s98 s97 FS (fun q => sJ _ _) (i := a + 1 + I j) (e := T + 2 + P j) (n1 := I (j + 1) - I j) (k1 := P (j + 1) - P j) (VW.dep _ _ _ _ _ y3 120 (by omega)) ⟨by omega, by omega⟩ ⟨by omega, by omega⟩).bc.br
        · rw [if_neg (fun y => c2n (by have := t_cmp_lt.mp y; rw [tc, nI_lT (by omega)] at this; exact this)), t_let, e51 _ 2 (by decide), if_neg (show ¬ (0 ≤ t' ∧ t' ≤ (v : Int) - 1) by omega), if_pos rfl]
          exact er 2 (by decide)
    · rw [if_neg (fun y => k0 (q'.mp y)), t_let, e51 _ 1 (by decide), if_neg (fun y => k0 ((z0 k' (by omega)).mp y))]
      exact er 1 (by decide)
  · exact no8 k t (by omega) (by omega) h3 h5
end
