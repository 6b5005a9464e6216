/-! Level 2: exps worked out: a TAG put before. -/
section
variable {κ : KPP} {c0 r0 : t_S} {Kc : t_S → t_S → Prop} {Kr : Nat → Nat → t_S → t_S → Prop} {c r c1 r1 c' r' : t_S} {D a H S rr e0 e1 i g n nn m m0 m1 cnt o K st X : Nat} {x : Int32} {oc or : Option t_S}
theorem vw_nk {c r : Nat → Int64} {f a p n m : Nat} (V : VW c r f a p n m) (h : r p ≠ lN 4) : ∀ t k, vl_c t n k (c a) → k ≠ 4 := by
  obtain ⟨t, k, hd, k8, p0, _⟩ := V.hd
  intro u l hl e
  have := (vl_only hd hl).2.2
  exact h (by rw [p0, this, e])
/-- the class: the top VALUE gets a TAG -/
theorem tg_c (hX : X < 7934) (h7 : c.1 334 7 = nI (D + 1)) (hA : c.1 339 D = nI a) (h39 : c.1 339 (D + 1) = nI (a + nn)) (h12 : c.1 334 12 = 0) (hD : D < 3150) (ha : a + 2000 ≤ 48000) (hn : nn ≤ 120) {t : Int} {k : Nat} (hc : vl_c t nn k (c.2.1 338 a)) : t_hk (f_X0_tagTop (nI (66 + X)) c) (fun c' => (k = 4 → c' = t_setI c 334 12 1) ∧ (k ≠ 4 → 120 < nn + 1 → c' = t_setI c 334 12 3) ∧ (k ≠ 4 → nn + 1 ≤ 120 → c'.1 334 7 = nI (D + 1) ∧ c'.1 339 (D + 1) = nI (a + nn + 1) ∧ vl_c ((X : Int) + 66) (nn + 1) 7 (c'.2.1 338 a) ∧ (∀ d, d < nn → c'.2.1 338 (a + 1 + d) = c.2.1 338 (a + d)) ∧ l2_fr (fun b j => (b = 338 ∧ a ≤ j) ∨ (b = 339 ∧ j = D + 1)) c c')) := by
  unfold f_X0_tagTop
  rw [h7, sy_m1n (by omega), show D + 1 - 1 = D by omega, nI_clamp (n := D) (by omega), nI_clamp (n := D + 1) (by omega), hA, h39, nI_clamp (n := a) (by omega), vl_kind hc]
  refine l2_ck (l2_ix (by omega) (by decide)) (l2_ck (l2_ix (by omega) (by decide)) (l2_ck (l2_ix (by omega) (by decide)) ?_))
  have q4 : nI k = (4 : Int32) ↔ k = 4 := nI_eq (b := 4) (by have := hc.2.2; omega) (by decide)
  have sub : nI (a + nn) - nI a = nI nn := by exact vr_len
  rw [sub]
  have ne : ∀ e : Int32, e ≠ 0 → k_X0_tagTop_58 (nI (66 + X)) (nI a) (nI nn) (t_setI c 334 12 e) = some (t_setI c 334 12 e) := fun e he => by
    unfold k_X0_tagTop_58
    rw [if_neg (by rw [l2_g, if_pos rfl]; exact he)]
  by_cases k4 : k = 4
  · rw [if_pos (q4.mpr k4)]
    refine l2_lt ?_
    rw [ne 1 (by decide)]
    exact l2_sm ⟨fun _ => rfl, fun y => absurd k4 y, fun y => absurd k4 y⟩
  · rw [if_neg (fun y => k4 (q4.mp y)), nI_1]
    by_cases hv : nn + 1 ≤ 120
    · refine l2_ck (nI_le (b := 120) hv (by decide)) ?_
      unfold k_X0_tagTop_58
      rw [if_pos h12, show f_X0_hasRoom (1 : Int32) c = some (1, c) from cs_room (x := 1) h7 h39 (by omega) (by omega), l2_bs, if_neg (show ¬ (1 : Int32) = 0 by decide), nI_1]
      refine l2_ck (cp_ok (by omega) (by omega) (by omega) (by omega) (by omega)) (l2_lt ?_)
      obtain ⟨p1, p2, p3⟩ := cp_at (s := c) (a := 338) (b := 338) (x := a) (y := a + 1) (m := nn) (by omega) (by omega) (by omega)
      generalize t_cpJ c 338 338 (nI a) (nI (a + 1)) (nI nn) = c1 at *
      refine l2_ck (l2_ix (by omega) (by decide)) (l2_lt ?_)
      rw [nI_clamp (n := a) (by omega), nI_1]
      have hw : vl_c ((X : Int) + 66) (nn + 1) 7 (f_X8_cell (7 : Int32) (nI (nn + 1)) (nI (66 + X)).toInt64 c1) := by
        have := vl_cell (t := ((66 + X : Nat) : Int)) (x := (nI (66 + X)).toInt64) (n := nn + 1) (k := 7) (nI_lT (by omega)) (by omega) (by omega) (by decide) (s := c1) (y := 7) (z := nI (nn + 1)) rfl rfl
        rw [show ((66 + X : Nat) : Int) = (X : Int) + 66 by omega] at this
        exact this
      generalize f_X8_cell (7 : Int32) (nI (nn + 1)) (nI (66 + X)).toInt64 c1 = w at *
      have f1 : l2_fr (fun b j => b = 338 ∧ j = a) c1 (t_setJ c1 338 a w) := l2_fr.setJ ⟨rfl, rfl⟩
      have v1 : (t_setJ c1 338 a w).2.1 338 a = w := by rw [l2_jJ, l2_upif, if_pos rfl]
      have v2 : ∀ d, (t_setJ c1 338 a w).2.1 338 (a + 1 + d) = c1.2.1 338 (a + 1 + d) := fun d => (f1 338 _ (by omega)).2.1
      have e1 : (t_setJ c1 338 a w).1 = c1.1 := l2_jI
      generalize t_setJ c1 338 a w = c2 at *
      rw [e1, p1, h7]
      refine l2_ck (l2_ix (by omega) (by decide)) (l2_lt ?_)
      rw [nI_clamp (n := D + 1) (by omega), nI_add, nI_1]
      refine l2_sm ⟨fun y => absurd y k4, fun _ y => absurd hv (by omega), fun _ _ => ⟨?_, ?_, ?_, fun d hd => ?_, ?_⟩⟩
      · rw [l2_sO (by decide), e1, p1]; exact h7
      · rw [l2_g, if_pos rfl]
      · show vl_c _ _ _ (c2.2.1 338 a)
        rw [v1]; exact hw
      · show c2.2.1 338 (a + 1 + d) = _
        rw [v2, p2 d hd]
      · exact (p3.mono (fun b j y => Or.inl (by omega))).trans ((f1.mono (fun b j y => Or.inl (by omega))).trans (l2_fr.set (Or.inr ⟨rfl, rfl⟩)))
    · refine l2_no (show ¬ nI (nn + 1) ≤ (120 : Int32) from nI_ge (a := 120) (by omega) (by omega)) (l2_lt ?_)
      rw [ne 3 (by decide)]
      exact l2_sm ⟨fun y => absurd y k4, fun _ _ => rfl, fun _ y => absurd y hv⟩
theorem uo_tag (hn : n < 13000) (hX : X < 7934) (e7 : r1.2.1 957 n = lN X) (h : T1 D a H nn m c1 r1) : UO D a H c1 r1 (f_X0_unary (nI 13) (nI (66 + X)) c1) (f_X13_one (nI n) (nI 67) r1) := by
  obtain ⟨t, k, hd, k8, p0, m2, _⟩ := h.1.hd
  obtain ⟨rs, hrs, s98, s97, fs, sJ, e1, etop⟩ := t1_off h
  obtain ⟨V, ⟨hA, h39, h7, h12⟩, ⟨h98, h97⟩, ⟨b1, b2, b3⟩, bb1, bb2, bb3⟩ := h
  have ps := V.pos
  have mm := V.m2
  obtain ⟨c2, tq, g4, gh, gg⟩ := tg_c hX h7 hA h39 h12 bb2 bb3 ps.2.1 hd
  have C : f_X0_unary (nI 13) (nI (66 + X)) c1 = some c2 := by
    rw [un_c (o := 13) (x := nI (66 + X)) h7 hA b2 (by omega) _ (fun _ => (f_X0_tagTop (nI (66 + X)) c1).bind (fun r => some r)) rfl, tq, l2_bs]
  have R : f_X13_one (nI n) (nI 67) r1 = (if (r1.2.1 1006 (260 * (40 + H))).toInt32 = (4 : Int32) then ((f_X13_error (1 : Int32) rs).bind (fun r => some r)) else (f_X13_putMade (2 : Int32) (nI (260 * (40 + H))) (t_setJ (t_setJ rs 1007 0 (7 : Int64)) 1007 1 (lN X))).bind (fun r15 => (f_X13_pushMade r15.2).bind (fun r16 => some r16))) := by
    unfold f_X13_one
    rw [etop, if_pos (l2_ix (by omega) (by decide)), e1, ← hrs, nI_clamp (n := 260 * (40 + H)) (by omega)]
    rw [t_let, if_neg (by decide), if_neg (by decide), if_neg (by decide), if_neg (by decide), if_neg (by decide), if_neg (by decide)]
    have e : (t_setJ rs 1007 ((0 : Int32).toNatClampNeg) (7 : Int64)).2.1 957 n = lN X := by
      rw [(l2_fr.setJ (W := fun b _ => b = 1007) rfl 957 n (show ¬ 957 = 1007 by decide)).2.1, sJ]; exact e7
    rw [t_let, if_pos (l2_ix hn (by decide)), nI_clamp (n := n) (by omega), e, t_let, show (0 : Int32).toNatClampNeg = 0 from rfl, show (1 : Int32).toNatClampNeg = 1 from rfl]
  rw [p0, lN_w] at R
  have q4 : nI k = (4 : Int32) ↔ k = 4 := nI_eq (b := 4) (by omega) (by decide)
  by_cases k4 : k = 4
  · rw [if_pos (q4.mpr k4)] at R
    exact uo_err (er := 1) (by decide) (by rw [C, g4 k4]; rfl) (fs.mono (fun b j y => by unfold oWr; omega)) s97 R
  · rw [if_neg (fun y => k4 (q4.mp y))] at R
    obtain ⟨ra, hra⟩ : ∃ ra, ra = t_setJ (t_setJ rs 1007 0 (7 : Int64)) 1007 1 (lN X) := ⟨_, rfl⟩
    rw [← hra] at R
    have fa : l2_fr (fun b j => b = 1007 ∧ j < 2) rs ra := by
      rw [hra]; exact (l2_fr.setJ ⟨rfl, by decide⟩).trans (l2_fr.setJ ⟨rfl, by decide⟩)
    have a0 : ra.2.1 1007 0 = lN 7 := by rw [hra, l2_jJ, l2_upif, if_neg (by decide), l2_jJ, l2_upif, if_pos rfl]; rfl
    have a1 : ra.2.1 1007 1 = lN X := by rw [hra, l2_jJ, l2_upif, if_pos rfl]
    have V2 : VW (c1.2.1 338) (ra.2.1 1006) 120 a (260 * (40 + H)) nn m := VW.copy _ _ _ _ _ _ _ V (fun _ _ => rfl) (fun d _ => by rw [(fa 1006 _ (by omega)).2.1, sJ])
    obtain ⟨y, y1, y2, y3, y4⟩ := rs_putMade (x := 2) V2 (by decide) (by omega) (by omega)
    have y0 : y.2.2.1 1007 0 = lN 7 := by rw [(y4 1007 0 (by omega)).2.1]; exact a0
    have y1' : y.2.2.1 1007 1 = lN X := by rw [(y4 1007 1 (by omega)).2.1]; exact a1
    have hk4 : lN k ≠ lN 4 := fun z => k4 (lN_inj (by omega) (by decide) z)
    have yk : y.2.2.1 1007 2 ≠ lN 4 := by
      have := y3 0 (by omega)
      rw [Nat.add_zero, Nat.add_zero] at this
      rw [this, (fa 1006 _ (by omega)).2.1, sJ, p0]; exact hk4
    have V3 : VW (c1.2.1 338) (y.2.2.1 1007) 120 a 2 nn m := VW.copy _ _ _ _ _ _ _ V2 (fun _ _ => rfl) (fun d hd => y3 d hd)
    have f3 : l2_fr (fun b j => b = 1007) ra y.2 := y4.mono (fun b j q => q.1)
    have y98 : y.2.1 950 98 = nI H := by rw [(f3 950 98 (by decide)).1, (fa 950 98 (by omega)).1]; exact s98
    have y97 : y.2.1 950 97 = 0 := by rw [(f3 950 97 (by decide)).1, (fa 950 97 (by omega)).1]; exact s97
    have F3 : l2_fr (oWr H) r1 y.2 := (fs.mono (fun b j y => by unfold oWr; omega)).trans ((fa.mono (fun b j y => by unfold oWr; omega)).trans (f3.mono (fun b j y => by unfold oWr; omega)))
    by_cases hv : nn + 1 ≤ 120
    · obtain ⟨c7, c39, cw, cd, cf⟩ := gg k4 hv
      have V4 : VW (c2.2.1 338) (y.2.2.1 1007) 120 a 0 (nn + 1) (m + 2) := ⟨⟨by omega, hv, by omega⟩, (X : Int) + 66, 7, cw, y0, Or.inr (Or.inr (Or.inr (Or.inr (Or.inl ⟨rfl, by omega, by omega, X, hX, rfl, y1', yk, VW.dep _ _ _ _ _ (VW.copy _ _ _ _ _ _ _ V3 (fun d hd => cd d hd) (fun _ _ => rfl)) 119 (by omega)⟩))))⟩
      obtain ⟨r2, z1, z2, z3⟩ := rs_pushMade y98 b1 V4 (by decide) (by omega)
      refine ⟨c2, r2, C, by rw [R, show (2 : Int32) = nI 2 from rfl, y1, l2_bs, z1, l2_bs], cf.mono (fun b j y => by unfold oWc; omega), F3.trans (z3.2.mono (fun b j y => by unfold oWr; omega)), Or.inl ⟨nn + 1, m + 2, VW.copy _ _ _ _ _ _ _ V4 (fun _ _ => rfl) (fun d hd => by rw [z3.1 d hd, Nat.zero_add]), c39, c7, ?_, z2, ?_⟩⟩
      · rw [(cf 334 12 (by omega)).1]; exact h12
      · rw [(z3.2 950 97 (by omega)).1]; exact y97
    · have W := mw_weight (r := y.2) (k := 7) (v := 1) (h0 := 2) (cc := c1.2.1 338) (f := 120) (I := fun _ => a) (P := fun j => if j = 0 then 0 else m) (N := fun _ => nn) (S := fun j => if j = 0 then 0 else nn) (Or.inr (Or.inl rfl)) y0 (fun z => by omega) (fun _ => rfl) (by decide) rfl rfl rfl (by decide) (fun j hj => by
        have : j = 0 := by omega
        subst this
        exact ⟨Nat.zero_le _, by show 2 + m ≤ 8600; omega, by show nn = 0 + nn; omega, by show VW _ _ 120 a (2 + 0) nn (m - 0); exact V3⟩) (by decide) (by show nn < 1000000; omega)
      have ew : vr_c 7 1 + (if (1 : Nat) = 0 then 0 else nn) = nn + 1 := by
        rw [if_neg (by decide)]
        have : vr_c 7 1 = 1 := by decide
        omega
      rw [ew] at W
      obtain ⟨r2, z1, z2, z3⟩ := rs_heavy W (by omega) (by omega) y97
      refine ⟨c2, r2, C, by rw [R, show (2 : Int32) = nI 2 from rfl, y1, l2_bs, z1, l2_bs], ?_, F3.trans (z3.mono (fun b j y => by unfold oWr; omega)), Or.inr ⟨3, by decide, by decide, ?_, z2⟩⟩
      · rw [gh k4 (by omega)]; exact l2_fr.set (Or.inl ⟨rfl, Or.inr rfl⟩)
      · rw [gh k4 (by omega), l2_g, if_pos rfl]; rfl
end
