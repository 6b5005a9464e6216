/-! Level 2: exps worked out: & of two LISTS, both sides. -/
section
variable {c1 r1 cs : t_S} {D a H n1 k1 n2 k2 T U v1 v2 : Nat} {w v : Int64}
/-- the class's side -/
theorem jl_c (h7 : cs.1 334 7 = nI (D + 1)) (hD : D < 3150) (ha : a + 2000 ≤ 48000) (h1 : 0 < n1) (h2 : 0 < n2) (hn : n1 + n2 - 1 ≤ 120) (hv : v1 + v2 ≤ 16) (hd' : vl_c v2 n2 8 v) : t_hk (if t_cpok (nI (a + n1) + (1 : Int32)) (nI (a + n1)) ((f_X8_size v cs) - (1 : Int32)) 48000 48000 = true then t_let (t_cpJ cs 338 338 (nI (a + n1) + (1 : Int32)) (nI (a + n1)) ((f_X8_size v cs) - (1 : Int32))) (fun s3 => if t_ix (nI a) 48000 = true then t_let (t_setJ s3 338 ((nI a).toNatClampNeg) (f_X8_cell (8 : Int32) (nI (n1 + n2 - 1)) (nI (v1 + v2)).toInt64 s3)) (fun s4 => if t_ix (s4.1 334 7) 3201 = true then t_let (t_setI s4 339 ((s4.1 334 7).toNatClampNeg) (nI a + nI (n1 + n2 - 1))) (fun s5 => some s5) else none) else none) else none) (fun c' => c'.1 339 (D + 1) = nI (a + (n1 + n2 - 1)) ∧ vl_c ((v1 + v2 : Nat) : Int) (n1 + n2 - 1) 8 (c'.2.1 338 a) ∧ (∀ d, 0 < d → d < n1 → c'.2.1 338 (a + d) = cs.2.1 338 (a + d)) ∧ (∀ d, d < n2 - 1 → c'.2.1 338 (a + n1 + d) = cs.2.1 338 (a + n1 + 1 + d)) ∧ l2_fr (fun b j => (b = 338 ∧ a ≤ j) ∨ (b = 339 ∧ j = D + 1)) cs c') := by
  rw [vl_size hd', sy_m1n h2, nI_1]
  refine l2_ck (cp_ok (by omega) (by omega) (by omega) (by omega) (by omega)) (l2_lt ?_)
  obtain ⟨p1, p2, p3⟩ := cp_at (s := cs) (a := 338) (b := 338) (x := a + n1 + 1) (y := a + n1) (m := n2 - 1) (by omega) (by omega) (by omega)
  generalize t_cpJ cs 338 338 (nI (a + n1 + 1)) (nI (a + n1)) (nI (n2 - 1)) = s1 at *
  refine l2_ck (l2_ix (by omega) (by decide)) (l2_lt ?_)
  rw [nI_clamp (n := a) (by omega)]
  have hw : vl_c ((v1 + v2 : Nat) : Int) (n1 + n2 - 1) 8 (f_X8_cell (8 : Int32) (nI (n1 + n2 - 1)) (nI (v1 + v2)).toInt64 s1) := vl_cell (nI_lT (by omega)) (by omega) (by omega) (by decide) rfl rfl
  generalize f_X8_cell (8 : Int32) (nI (n1 + n2 - 1)) (nI (v1 + v2)).toInt64 s1 = x at *
  have f1 : l2_fr (fun b j => b = 338 ∧ j = a) s1 (t_setJ s1 338 a x) := l2_fr.setJ ⟨rfl, rfl⟩
  have va : (t_setJ s1 338 a x).2.1 338 a = x := by rw [l2_jJ, l2_upif, if_pos rfl]
  generalize t_setJ s1 338 a x = s2 at *
  have e7 : s2.1 334 7 = nI (D + 1) := by rw [(f1 334 7 (by omega)).1, p1]; exact h7
  rw [e7, nI_add]
  refine l2_ck (l2_ix (by omega) (by decide)) (l2_lt (l2_sm ⟨?_, ?_, fun d d0 hd => ?_, fun d hd => ?_, ?_⟩))
  · rw [nI_clamp (n := D + 1) (by omega), l2_g, if_pos rfl]
  · show vl_c _ _ _ (s2.2.1 338 a)
    rw [va]; exact hw
  · show s2.2.1 338 (a + d) = _
    rw [(f1 338 (a + d) (by omega)).2.1, (p3 338 (a + d) (by omega)).2.1]
  · show s2.2.1 338 (a + n1 + d) = _
    rw [(f1 338 (a + n1 + d) (by omega)).2.1, p2 d hd]
  · rw [nI_clamp (n := D + 1) (by omega)]
    exact (p3.mono (fun b j y => by omega)).trans ((f1.mono (fun b j y => by omega)).trans (l2_fr.set (by omega)))
/-- the reference's side: all parts put into the row that is made -/
theorem jl_r {s3 : t_S} {cc : Nat → Int64} {AD P N P1 P2 : Nat → Nat} {Q : t_S → Prop} (hv : v1 + v2 ≤ 16) (hb : 2 + P (v1 + v2) ≤ 8600) (P0 : P 0 = 0) (hp1 : ∀ s : t_S, (∀ j, s.2.1 1006 j = s3.2.1 1006 j) → (∀ j, j < v1 → f_X13_partOf (nI T) (nI j) s = some (nI (T + 2 + P1 j)) ∧ ∃ m, P (j + 1) = P j + m ∧ T + 2 + P1 j + m ≤ 626600 ∧ s.2.1 1006 (T + 2 + P1 j) ≠ lN 4 ∧ VW cc (s.2.1 1006) 120 (AD j) (T + 2 + P1 j) (N j) m) ∧ ∀ j, j < v2 → f_X13_partOf (nI U) (nI j) s = some (nI (U + 2 + P2 j)) ∧ ∃ m, P (v1 + j + 1) = P (v1 + j) + m ∧ U + 2 + P2 j + m ≤ 626600 ∧ s.2.1 1006 (U + 2 + P2 j) ≠ lN 4 ∧ VW cc (s.2.1 1006) 120 (AD (v1 + j)) (U + 2 + P2 j) (N (v1 + j)) m) (fin : ∀ s, MR cc (s.2.1 1007) 2 (v1 + v2) AD P N → l2_fr (fun b j => b = 1007 ∧ 2 ≤ j) s3 s → t_hk (f_X13_pushMade s) Q) : t_hk (t_loop (b_X13_joinRows_288) t_N (nI T, nI U, nI v1, nI v2, 2, 0, s3)) Q := by
  obtain ⟨v, hv'⟩ : ∃ v, v = v1 + v2 := ⟨_, rfl⟩
  rw [← hv'] at hv hb fin
  have pm : ∀ j, j < v → P j ≤ P (j + 1) := fun j hj => by
    by_cases c : j < v1
    · obtain ⟨_, m, q, _⟩ := (hp1 s3 (fun _ => rfl)).1 j c; omega
    · obtain ⟨_, m, q, _⟩ := (hp1 s3 (fun _ => rfl)).2 (j - v1) (by omega)
      rw [show v1 + (j - v1) = j by omega] at q; omega
  have pv : ∀ d j, j + d ≤ v → P j ≤ P (j + d) := fun d => by
    induction d with
    | zero => intro j _; exact Nat.le_refl _
    | succ d ih =>
      intro j hj
      have a1 := ih j (by omega)
      have a2 := pm (j + d) (by omega)
      rw [show j + (d + 1) = j + d + 1 by omega]; omega
  refine l2_lp (fun m z => ∃ i s, i + m = v ∧ z = (nI T, nI U, nI v1, nI v2, nI (2 + P i), nI i, s) ∧ MR cc (s.2.1 1007) 2 i AD P N ∧ l2_fr (fun b j => b = 1007 ∧ 2 ≤ j) s3 s) ?_ (m := v) (Nat.lt_trans (show v < 1000000000 by omega) l2_N) ⟨0, s3, by omega, by rw [P0]; rfl, fun j hj => by omega, l2_fr.rf⟩
  rintro m z ⟨i, s, hi, rfl, M, fr⟩
  show t_hk (k_X13_joinRows_288 (nI T) (nI U) (nI v1) (nI v2) (nI (2 + P i)) (nI i) s) _
  unfold k_X13_joinRows_288
  rw [nI_add, ← hv']
  have h1 := hp1 s (fun j => (fr 1006 j (by omega)).2.1)
  by_cases d : i = v
  · subst d
    refine l2_ck (nI_le (Nat.le_refl _) (by omega)) (l2_mp ?_)
    unfold k_X13_joinRows_339
    exact l2_bd _ (fin s M fr) (fun y hy => l2_sm hy)
  · have iv : i < v := by omega
    refine l2_no (nI_ge iv (by omega)) ?_
    obtain ⟨e, mm, g1, g2, g3, g4, g5⟩ : ∃ e mm : Nat, (if nI v1 ≤ nI i then ((f_X13_partOf (nI U) (nI i - nI v1) s).bind (fun r1 => k_X13_joinRows_328 (nI T) (nI U) (nI v1) (nI v2) (nI i) r1 (nI (2 + P i)) s)) else ((f_X13_partOf (nI T) (nI i) s).bind (fun r2 => k_X13_joinRows_328 (nI T) (nI U) (nI v1) (nI v2) (nI i) r2 (nI (2 + P i)) s))) = k_X13_joinRows_328 (nI T) (nI U) (nI v1) (nI v2) (nI i) (nI e) (nI (2 + P i)) s ∧ P (i + 1) = P i + mm ∧ e + mm ≤ 626600 ∧ s.2.1 1006 e ≠ lN 4 ∧ VW cc (s.2.1 1006) 120 (AD i) e (N i) mm := by
      by_cases c : v1 ≤ i
      · have sb : nI i - nI v1 = nI (i - v1) := by
          have := vr_len (p := v1) (m := i - v1)
          rw [show v1 + (i - v1) = i by omega] at this
          exact this
        obtain ⟨a1, m, a2, a3, a4, a5⟩ := h1.2 (i - v1) (by omega)
        rw [show v1 + (i - v1) = i by omega] at a2 a5
        refine ⟨_, m, ?_, a2, a3, a4, a5⟩
        rw [if_pos (nI_le c (by omega)), sb, a1, l2_bs]
      · obtain ⟨a1, m, a2, a3, a4, a5⟩ := h1.1 i (by omega)
        refine ⟨_, m, ?_, a2, a3, a4, a5⟩
        rw [if_neg (nI_ge (by omega) (by omega)), a1, l2_bs]
    refine l2_isb g1 ?_
    unfold k_X13_joinRows_328
    have pi := pv (v - (i + 1)) (i + 1) (by omega)
    rw [show i + 1 + (v - (i + 1)) = v by omega] at pi
    refine l2_bd _ (mr_step M g5 g2 g4 g3 (by omega)) (fun y hy => ?_)
    obtain ⟨y1, y2, y3⟩ := hy
    rw [y1, nI_1]
    exact l2_sm ⟨m - 1, by omega, i + 1, y.2, by omega, rfl, y2, fr.trans (y3.mono (fun b j q => by omega))⟩
theorem uo_jlist (h : T2 D a H n1 k1 n2 k2 c1 r1) (p0 : r1.2.1 1006 (260 * (40 + H)) = lN 8) (p0' : r1.2.1 1006 (260 * (41 + H)) = lN 8) : UO D a H c1 r1 (f_X0_join (c1.2.1 338 a) (c1.2.1 338 (a + n1)) c1) (f_X13_joinRows (nI (260 * (40 + H))) (nI (260 * (41 + H))) r1) := by
  obtain ⟨v1, I1, P1, hd, v16, q1, m1, ⟨i0, z0, iv, zv⟩, x1⟩ := h.1.1.lst p0
  obtain ⟨v2, I2, P2, hd', v16', q2, m2, ⟨i0', z0', iv', zv'⟩, x2⟩ := h.1.2.lst p0'
  have pp1 := h.1.1.pos
  have pp2 := h.1.2.pos
  have mm1 := h.1.1.m2
  have mm2 := h.1.2.m2
  obtain ⟨rs, hrs, s98, s97, fs, sJ, ee2, eu, et⟩ := t2_off h
  have bb := h.2.2.2
  obtain ⟨T, hT⟩ : ∃ T, T = 260 * (40 + H) := ⟨_, rfl⟩
  obtain ⟨U, hU⟩ : ∃ U, U = 260 * (41 + H) := ⟨_, rfl⟩
  have C := (cj_at h hd hd').2 rfl (Or.inr rfl)
  have R := (rj_at (r1 := r1) (T := T) (U := U) (k := 8) (k' := 8) (by omega) (by omega) (by rw [hT]; exact p0) (by rw [hU]; exact p0') (by decide) (by decide)).2.2 rfl rfl
  rw [← hT] at p0 q1 x1
  rw [← hU] at p0' q2 x2
  rw [← hT, ← hU, C, R, ext_of hd (Or.inr (Or.inl rfl)) (by omega), ext_of hd' (Or.inr (Or.inl rfl)) (by omega), nI_add]
  unfold k_X0_join_86 k_X0_join_101 k_X0_join_118 k_X13_joinRows_80 k_X13_joinRows_118
  have n2' : ¬ nI 8 = (2 : Int32) := by decide
  rw [if_neg n2', nI_1, nI_1, if_pos (l2_ix (by omega) (by decide)), if_pos (l2_ix (by omega) (by decide)), nI_clamp (n := T + 1) (by omega), nI_clamp (n := U + 1) (by omega), q1, q2, lN_w, lN_w, nI_add, if_pos (show (0 : Int32) = 0 from rfl)]
  by_cases big : 16 < v1 + v2
  · rw [if_pos (show (16 : Int32) < nI (v1 + v2) from (nI_ltI (a := 16) (by decide) (by omega)).mpr big), t_let, cj_e (by decide), if_neg (show ¬ nI (v1 + v2) ≤ (16 : Int32) from nI_ge (a := 16) big (by omega))]
    exact uo_err (er := 3) (by decide) rfl (l2_fr.rf) h.2.2.1.2 rfl
  · rw [if_neg (show ¬ (16 : Int32) < nI (v1 + v2) from nI_nlt (a := 16) (by omega) (by decide)), if_pos (show nI 8 = (8 : Int32) from rfl), if_pos (show nI (v1 + v2) ≤ (16 : Int32) from nI_le (b := 16) (by omega) (by decide)), ee2, ← hrs, t_let, t_let, if_pos (show (0 : Int32) = 0 from rfl), t_let, t_let, show (0 : Int32).toNatClampNeg = 0 from rfl, show (1 : Int32).toNatClampNeg = 1 from rfl]
    -- the reference's parts
    obtain ⟨P, hP⟩ : ∃ P : Nat → Nat, P = fun j => if j ≤ v1 then P1 j else (k1 - 2) + P2 (j - v1) := ⟨_, rfl⟩
    obtain ⟨S, hS⟩ : ∃ S : Nat → Nat, S = fun j => if j ≤ v1 then I1 j else (n1 - 1) + I2 (j - v1) := ⟨_, rfl⟩
    obtain ⟨AD, hAD⟩ : ∃ AD : Nat → Nat, AD = fun j => if j < v1 then a + 1 + I1 j else a + n1 + 1 + I2 (j - v1) := ⟨_, rfl⟩
    obtain ⟨N, hN⟩ : ∃ N : Nat → Nat, N = fun j => if j < v1 then I1 (j + 1) - I1 j else I2 (j - v1 + 1) - I2 (j - v1) := ⟨_, rfl⟩
    have Pl : ∀ j, j ≤ v1 → P j = P1 j := fun j hj => by rw [hP]; exact if_pos hj
    have Pr : ∀ j, P (v1 + j) = (k1 - 2) + P2 j := fun j => by
      by_cases c : j = 0
      · subst c; rw [Nat.add_zero, Pl v1 (Nat.le_refl _), zv, z0']; rfl
      · rw [hP]; show (if v1 + j ≤ v1 then _ else (k1 - 2) + P2 (v1 + j - v1)) = _; rw [if_neg (by omega), show v1 + j - v1 = j by omega]
    have Sl : ∀ j, j ≤ v1 → S j = I1 j := fun j hj => by rw [hS]; exact if_pos hj
    have Sr : ∀ j, S (v1 + j) = (n1 - 1) + I2 j := fun j => by
      by_cases c : j = 0
      · subst c; rw [Nat.add_zero, Sl v1 (Nat.le_refl _), iv, i0']; rfl
      · rw [hS]; show (if v1 + j ≤ v1 then _ else (n1 - 1) + I2 (v1 + j - v1)) = _; rw [if_neg (by omega), show v1 + j - v1 = j by omega]
    have Al : ∀ j, j < v1 → AD j = a + 1 + I1 j := fun j hj => by rw [hAD]; exact if_pos hj
    have Ar : ∀ j, AD (v1 + j) = a + n1 + 1 + I2 j := fun j => by rw [hAD]; show (if v1 + j < v1 then _ else a + n1 + 1 + I2 (v1 + j - v1)) = _; rw [if_neg (by omega), show v1 + j - v1 = j by omega]
    have Nl : ∀ j, j < v1 → N j = I1 (j + 1) - I1 j := fun j hj => by rw [hN]; exact if_pos hj
    have Nr : ∀ j, N (v1 + j) = I2 (j + 1) - I2 j := fun j => by rw [hN]; show (if v1 + j < v1 then _ else I2 (v1 + j - v1 + 1) - I2 (v1 + j - v1)) = _; rw [if_neg (by omega), show v1 + j - v1 = j by omega]
    have NS : ∀ j, j < v1 + v2 → S (j + 1) = S j + N j := fun j hj => by
      by_cases c : j < v1
      · rw [Sl j (by omega), Sl (j + 1) (by omega), Nl j c]; have := (x1 j c).1; omega
      · have e := Sr (j - v1)
        have e' := Sr (j - v1 + 1)
        have e3 := Nr (j - v1)
        rw [show v1 + (j - v1) = j by omega] at e e3
        rw [show v1 + (j - v1 + 1) = j + 1 by omega] at e'
        have := (x2 (j - v1) (by omega)).1
        omega
    have Sv : S (v1 + v2) = (n1 - 1) + (n2 - 1) := by rw [Sr, iv']
    have Pv : P (v1 + v2) = (k1 - 2) + (k2 - 2) := by rw [Pr, zv']
    have r1007 : (nI (v1 + v2)).toInt64 = lN (v1 + v2) := nI_l (by omega)
    rw [r1007]
    obtain ⟨s3, hs3⟩ : ∃ s3, s3 = t_setJ (t_setJ rs 1007 0 (8 : Int64)) 1007 1 (lN (v1 + v2)) := ⟨_, rfl⟩
    rw [← hs3]
    have f3 : l2_fr (fun b j => b = 1007 ∧ j < 2) rs s3 := by
      rw [hs3]; exact (l2_fr.setJ ⟨rfl, by decide⟩).trans (l2_fr.setJ ⟨rfl, by decide⟩)
    have a0 : s3.2.1 1007 0 = lN 8 := by rw [hs3, l2_jJ, l2_upif, if_neg (by decide), l2_jJ, l2_upif, if_pos rfl]; rfl
    have a1 : s3.2.1 1007 1 = lN (v1 + v2) := by rw [hs3, l2_jJ, l2_upif, if_pos rfl]
    have e1006 : ∀ j, s3.2.1 1006 j = r1.2.1 1006 j := fun j => by rw [(f3 1006 j (by omega)).2.1, sJ]
    have G : ∀ Q : t_S → Prop, (∀ s, MR (c1.2.1 338) (s.2.1 1007) 2 (v1 + v2) AD P N → l2_fr (fun b j => b = 1007 ∧ 2 ≤ j) s3 s → t_hk (f_X13_pushMade s) Q) → t_hk (t_loop (b_X13_joinRows_288) t_N (nI T, nI U, nI v1, nI v2, 2, 0, s3)) Q := fun Q fin => jl_r (cc := c1.2.1 338) (P1 := P1) (P2 := P2) (by omega) (by omega) (by rw [Pl 0 (by omega), z0]) (fun s hs => ⟨fun j hj => by
      have e : ∀ j, s.2.1 1006 j = r1.2.1 1006 j := fun j => (hs j).trans (e1006 j)
      have PO := vw_part (s := s) (c := c1.2.1 338) (f := 119) (v := v1) (p := T) (q0 := T + 2) (k := 8) (j := j) (I := fun q => a + 1 + I1 q) (P := P1) (L := fun q => I1 (q + 1) - I1 q) (by rw [e]; exact p0) (by decide) (by rw [if_neg (by decide)]) (fun y => absurd y (by decide)) (by omega) z0 (fun q hq => ⟨(x1 q hq).1.2.1, by have := (x1 q hq).1; omega, VW.copy _ _ _ _ _ _ _ (x1 q hq).2.2 (fun _ _ => rfl) (fun d _ => e _)⟩) (by decide) (by omega) (by omega)
      have y := x1 j hj
      refine ⟨PO, P1 (j + 1) - P1 j, by rw [Pl j (by omega), Pl (j + 1) (by omega)]; omega, by omega, by rw [e]; exact y.2.1, ?_⟩
      rw [Al j hj, Nl j hj]
      exact VW.dep _ _ _ _ _ (VW.copy _ _ _ _ _ _ _ y.2.2 (fun _ _ => rfl) (fun d _ => e _)) 120 y.2.2.pos.2.1, fun j hj => by
      have e : ∀ j, s.2.1 1006 j = r1.2.1 1006 j := fun j => (hs j).trans (e1006 j)
      have PO := vw_part (s := s) (c := c1.2.1 338) (f := 119) (v := v2) (p := U) (q0 := U + 2) (k := 8) (j := j) (I := fun q => a + n1 + 1 + I2 q) (P := P2) (L := fun q => I2 (q + 1) - I2 q) (by rw [e]; exact p0') (by decide) (by rw [if_neg (by decide)]) (fun y => absurd y (by decide)) (by omega) z0' (fun q hq => ⟨(x2 q hq).1.2.1, by have := (x2 q hq).1; omega, VW.copy _ _ _ _ _ _ _ (x2 q hq).2.2 (fun _ _ => rfl) (fun d _ => e _)⟩) (by decide) (by omega) (by omega)
      have y := x2 j hj
      refine ⟨PO, P2 (j + 1) - P2 j, by rw [Pr j, show v1 + j + 1 = v1 + (j + 1) by omega, Pr (j + 1)]; omega, by omega, by rw [e]; exact y.2.1, ?_⟩
      rw [Ar j, Nr j]
      exact VW.dep _ _ _ _ _ (VW.copy _ _ _ _ _ _ _ y.2.2 (fun _ _ => rfl) (fun d _ => e _)) 120 y.2.2.pos.2.1⟩) fin
    have fin0 : ∀ s, l2_fr (fun b j => b = 1007 ∧ 2 ≤ j) s3 s → s.1 950 98 = nI H ∧ s.1 950 97 = 0 ∧ s.2.1 1007 0 = lN 8 ∧ s.2.1 1007 1 = lN (v1 + v2) ∧ l2_fr (oWr H) r1 s := fun s fr => ⟨by rw [(fr 950 98 (by omega)).1, (f3 950 98 (by omega)).1]; exact s98, by rw [(fr 950 97 (by omega)).1, (f3 950 97 (by omega)).1]; exact s97, by rw [(fr 1007 0 (by omega)).2.1]; exact a0, by rw [(fr 1007 1 (by omega)).2.1]; exact a1, (fs.mono (fun b j y => by unfold oWr; omega)).trans ((f3.mono (fun b j y => by unfold oWr; omega)).trans (fr.mono (fun b j y => by unfold oWr; omega)))⟩
    by_cases hw : n1 + n2 - 1 ≤ 120
    · rw [if_pos (show nI (n1 + n2 - 1) ≤ (120 : Int32) from nI_le (b := 120) hw (by decide))]
      obtain ⟨TT, F1, F2⟩ := t2_t1 h
      have t71 := t2_7 h
      unfold k_X0_join_123
      rw [if_pos h.2.1.2.2.2.2, t_let, t71, if_pos (show nI 8 = (8 : Int32) from rfl)]
      have csJ : (t_setI c1 334 7 (nI (D + 1))).2.1 = c1.2.1 := rfl
      have cs7 : (t_setI c1 334 7 (nI (D + 1))).1 334 7 = nI (D + 1) := TT.2.1.2.2.1
      have cs12 : (t_setI c1 334 7 (nI (D + 1))).1 334 12 = 0 := TT.2.1.2.2.2
      generalize t_setI c1 334 7 (nI (D + 1)) = cs at *
      obtain ⟨c', z1, z2, z3, z4, z5, z6⟩ := jl_c (a := a) (v1 := v1) (v2 := v2) cs7 (by omega) (by omega) pp1.1 pp2.1 hw (by omega) hd'
      rw [z1]
      obtain ⟨r', y1, y3, y4, y5, y6⟩ := G (fun r' => r'.1 950 98 = nI (H + 1) ∧ r'.1 950 97 = 0 ∧ l2_fr (oWr H) r1 r' ∧ VW (c'.2.1 338) (r'.2.1 1006) 120 a (260 * (40 + H)) (1 + S (v1 + v2)) (2 + P (v1 + v2))) (fun s M fr => by
        obtain ⟨b98, b97, b0, b1, bF⟩ := fin0 s fr
        have V4 : VW (c'.2.1 338) (s.2.1 1007) 120 a 0 (1 + S (v1 + v2)) (2 + P (v1 + v2)) := mr_list b0 b1 (by omega) M (by rw [Pl 0 (by omega), z0]) (by rw [Sl 0 (by omega), i0]) NS (by rw [Sv, show 1 + (n1 - 1 + (n2 - 1)) = n1 + n2 - 1 by omega]; exact z3) (by omega) (fun j hj d hd => by
          by_cases c : j < v1
          · have q := (x1 j c).1
            rw [Nl j c] at hd
            rw [Sl j (by omega), Al j c, show a + 1 + I1 j + d = a + (1 + I1 j + d) by omega, z4 _ (by omega) (by omega), csJ]
          · have q := (x2 (j - v1) (by omega)).1
            have e := Sr (j - v1)
            have e3 := Nr (j - v1)
            have e4 := Ar (j - v1)
            rw [show v1 + (j - v1) = j by omega] at e e3 e4
            rw [e3] at hd
            rw [e, e4, show a + 1 + (n1 - 1 + I2 (j - v1)) + d = a + n1 + (I2 (j - v1) + d) by omega, z5 _ (by omega), csJ, show a + n1 + 1 + (I2 (j - v1) + d) = a + n1 + 1 + I2 (j - v1) + d by omega])
        obtain ⟨y, o1, o2, o3, o4⟩ := rs_pushMade b98 (by omega) V4 (by decide) (by omega)
        exact ⟨y, o1, o2, by rw [(o4 950 97 (by omega)).1]; exact b97, bF.trans (o4.mono (fun b j y => by unfold oWr; omega)), VW.copy _ _ _ _ _ _ _ V4 (fun _ _ => rfl) (fun d hd => by rw [o3 d hd, Nat.zero_add])⟩)
      refine ⟨c', r', rfl, y1, F1.trans (z6.mono (fun b j y => by unfold oWc; omega)), y5, Or.inl ⟨_, _, y6, by rw [z2, Sv]; congr 1; omega, ?_, ?_, y3, y4⟩⟩
      · rw [(z6 334 7 (by omega)).1]; exact cs7
      · rw [(z6 334 12 (by omega)).1]; exact cs12
    · rw [if_neg (show ¬ nI (n1 + n2 - 1) ≤ (120 : Int32) from nI_ge (a := 120) (by omega) (by omega)), cj_e (by decide)]
      obtain ⟨r', y1, y2, y3⟩ := G (fun r' => r'.1 950 97 = 3 ∧ l2_fr (oWr H) r1 r') (fun s M fr => by
        obtain ⟨b98, b97, b0, b1, bF⟩ := fin0 s fr
        have W := mr_w (h := 2) (k := 8) (Or.inr rfl) b0 b1 (by omega) rfl M (by rw [Pl 0 (by omega), z0]) (by rw [Sl 0 (by omega), i0]) NS (by omega) (by omega)
        have e : vr_c 8 (v1 + v2) = 1 := by unfold vr_c; rw [if_neg (by decide), if_neg (by decide)]
        rw [e] at W
        obtain ⟨y, o1, o2, o3⟩ := rs_heavy W (by omega) (by omega) b97
        exact ⟨y, o1, o2, bF.trans (o3.mono (fun b j y => by unfold oWr; omega))⟩)
      exact ⟨_, r', rfl, y1, l2_fr.set (Or.inl ⟨rfl, Or.inr rfl⟩), y3, Or.inr ⟨3, by decide, by decide, by rw [l2_g, if_pos rfl]; rfl, y2⟩⟩
theorem uo_join (h : T2 D a H n1 k1 n2 k2 c1 r1) : UO D a H c1 r1 (f_X0_binary (nI 21) c1) (f_X13_join (nI 38) r1) := by
  obtain ⟨t, k, hd, k8, p0, m2, ps, pn, hx1⟩ := h.1.1.hd
  obtain ⟨t', k', hd', k8', p0', m2', ps', pn', hx2⟩ := h.1.2.hd
  clear hx1 hx2
  obtain ⟨rs, hrs, s98, s97, fs, sJ, ee2, eu, et⟩ := t2_off h
  have bb := h.2.2.2
  rw [bi_x h]
  unfold bX f_X13_join
  rw [if_neg (by decide), if_pos (show nI 21 = (21 : Int32) from rfl), if_neg (show ¬ nI 38 = (15677 : Int32) by decide), if_neg (show ¬ nI 38 = (8509 : Int32) by decide), if_pos (show nI 38 = (38 : Int32) from rfl), eu, et]
  refine UO.br (UO.bc ?_)
  by_cases y : k = k' ∧ (k = 2 ∨ k = 8)
  · obtain ⟨e, e2 | e2⟩ := y
    · exact uo_jtext h (by rw [p0, e2]) (by rw [p0', ← e, e2])
    · exact uo_jlist h (by rw [p0, e2]) (by rw [p0', ← e, e2])
  · rw [(cj_at h hd hd').1 y, (rj_at (k := k) (k' := k') (by omega) (by omega) p0 p0' (by omega) (by omega)).1 y]
    exact uo_err (er := 1) (by decide) rfl (l2_fr.rf) h.2.2.1.2 rfl
end
