/-! Level 2: exps worked out: a LIST out of its parts, both sides. -/
section
variable {κ : KPP} {c0 r0 : t_S} {Kc : t_S → t_S → Prop} {Kr : Nat → Nat → t_S → t_S → Prop} {c r c1 r1 c' r' cs : t_S} {D a H S i j g n nn m v rr e0 e1 m0 m1 cnt : Nat} {N M A K E G : Nat → Nat} {rc : RT_X13_behindFirst}
theorem rl_84 (l4 : Int32) (h97 : r1.1 950 97 = 0) (hH : H + v < 790) (hk : ∀ i, i < v → r1.2.1 1006 (260 * (40 + (H + i))) = lN (K i) ∧ K i ≤ 8) (hl : l4 = 0) {Q : t_S → Prop} (f1 : (∀ i, i < v → K i ≠ 4) → t_hk (k_X13_rowOf_136 rc (nI n) (nI H) (nI v) l4 r1) Q) (f2 : (∃ i, i < v ∧ K i = 4) → ∀ r', r'.1 950 97 = 1 → l2_fr (fun b j => b = 950 ∧ j = 97) r1 r' → Q r') : t_hk (k_X13_rowOf_81 rc (nI n) (nI H) (nI v) l4 r1) Q := by
  subst hl
  unfold k_X13_rowOf_81
  refine l2_lp (fun m z => ∃ i s, i + m = v + 1 ∧ z = (nI n, nI H, nI v, 0, nI i, s) ∧ ((s = r1 ∧ i ≤ v ∧ ∀ q, q < i → K q ≠ 4) ∨ ((∃ q, q < v ∧ K q = 4) ∧ s.1 950 97 = 1 ∧ l2_fr (fun b j => b = 950 ∧ j = 97) r1 s))) ?_ (m := v + 1) (Nat.lt_trans (show v + 1 < 1000000000 by omega) l2_N) ⟨0, r1, by omega, rfl, Or.inl ⟨rfl, by omega, fun q hq => by omega⟩⟩
  rintro m z ⟨i, s, hi, rfl, O⟩
  show t_hk (k_X13_rowOf_84 rc (nI n) (nI H) (nI v) 0 (nI i) s) _
  unfold k_X13_rowOf_84
  rcases O with ⟨rfl, iv, g⟩ | ⟨ex, g1, g2⟩
  · by_cases d : i = v
    · subst d
      exact l2_ck (nI_le (Nat.le_refl _) (by omega)) (l2_mp (f1 g))
    · obtain ⟨k1, k2⟩ := hk i (by omega)
      refine l2_no (nI_ge (by omega) (by omega)) (l2_ck rfl (l2_ck h97 ?_))
      rw [show (40 : Int32) = nI 40 from rfl, nI_add, nI_add, show (260 : Int32) = nI 260 from rfl, pk_mul, show 40 + H + i = 40 + (H + i) by omega]
      refine l2_ck (l2_ix (by omega) (by decide)) ?_
      rw [nI_clamp (n := 260 * (40 + (H + i))) (by omega), k1]
      have z4 : lg_cmp (lN (K i)) (4 : Int64) = 0 ↔ K i = 4 := by
        have : lg_cmp (lN (K i)) (lN 4) = 0 ↔ K i = 4 := by
          rw [l2_cmp0]
          exact ⟨fun q => lN_inj (by omega) (by omega) q, fun q => by rw [q]⟩
        exact this
      unfold k_X13_rowOf_130
      by_cases e : K i = 4
      · refine l2_ck (z4.mpr e) (l2_bd _ (rs_error (e := 1) h97) (fun y hy => ?_))
        rw [nI_1]
        exact l2_sm ⟨m - 1, by omega, i + 1, y, by omega, rfl, Or.inr ⟨⟨i, by omega, e⟩, hy.1, hy.2⟩⟩
      · refine l2_no (fun y => e (z4.mp y)) ?_
        rw [nI_1]
        exact l2_sm ⟨m - 1, by omega, i + 1, s, by omega, rfl, Or.inl ⟨rfl, by omega, fun q hq => by
          by_cases c : q = i
          · rw [c]; exact e
          · exact g q (by omega)⟩⟩
  · have ne : ¬ s.1 950 97 = 0 := by rw [g1]; decide
    have fin : t_hk (k_X13_rowOf_136 rc (nI n) (nI H) (nI v) 0 s) Q := by
      unfold k_X13_rowOf_136
      exact l2_no ne (l2_sm (f2 ex s g1 g2))
    by_cases d : nI v ≤ nI i
    · exact l2_ck d (l2_mp fin)
    · exact l2_no d (l2_ck rfl (l2_no ne (l2_mp fin)))
/-- all parts into the row that is made, then that is the top VALUE -/
theorem rl_187 {s3 : t_S} {cc : Nat → Int64} {AD P : Nat → Nat} {Q : t_S → Prop} (hv : v ≤ 16) (hH : H + v < 790) (hb : 2 + P v ≤ 8600) (P0 : P 0 = 0) (PS : ∀ j, P (j + 1) = P j + M j) (hp : ∀ j, j < v → s3.2.1 1006 (260 * (40 + (H + j))) ≠ lN 4 ∧ VW cc (s3.2.1 1006) 120 (AD j) (260 * (40 + (H + j))) (N j) (M j)) (fin : ∀ s, MR cc (s.2.1 1007) 2 v AD P N → l2_fr (fun b j => b = 1007 ∧ 2 ≤ j) s3 s → t_hk (k_X13_rowOf_218 rc (nI H) s) Q) : t_hk (t_loop (b_X13_rowOf_187 rc) t_N (nI H, nI v, 2, 0, s3)) Q := by
  have pv : ∀ d j, P j ≤ P (j + d) := fun d => by
    induction d with
    | zero => intro j; exact Nat.le_refl _
    | succ d ih =>
      intro j
      have a1 := ih j
      have a2 := PS (j + d)
      rw [show j + (d + 1) = j + d + 1 by omega]; omega
  refine l2_lp (fun m z => ∃ i s, i + m = v ∧ z = (nI H, nI v, nI (2 + P i), nI i, s) ∧ MR cc (s.2.1 1007) 2 i AD P N ∧ l2_fr (fun b j => b = 1007 ∧ 2 ≤ j) s3 s) ?_ (m := v) (Nat.lt_trans (show v < 1000000000 by omega) l2_N) ⟨0, s3, by omega, by rw [P0]; rfl, fun j hj => by omega, l2_fr.rf⟩
  rintro m z ⟨i, s, hi, rfl, R, fr⟩
  show t_hk (k_X13_rowOf_187 rc (nI H) (nI v) (nI (2 + P i)) (nI i) s) _
  unfold k_X13_rowOf_187
  by_cases d : i = v
  · subst d
    exact l2_ck (nI_le (Nat.le_refl _) (by omega)) (l2_mp (fin s R fr))
  · have e : ∀ q, s.2.1 1006 q = s3.2.1 1006 q := fun q => (fr 1006 q (by omega)).2.1
    obtain ⟨h4, V⟩ := hp i (by omega)
    have V' : VW cc (s.2.1 1006) 120 (AD i) (260 * (40 + (H + i))) (N i) (M i) := VW.copy _ _ _ _ _ _ _ V (fun _ _ => rfl) (fun d _ => e _)
    have m2 := V.m2
    have pp := V.pos
    have le := pv (v - (i + 1)) (i + 1)
    rw [show i + 1 + (v - (i + 1)) = v by omega] at le
    refine l2_no (nI_ge (by omega) (by omega)) ?_
    rw [show (40 : Int32) = nI 40 from rfl, nI_add, nI_add, show (260 : Int32) = nI 260 from rfl, pk_mul, show 40 + H + i = 40 + (H + i) by omega]
    refine l2_bd _ (mr_step R V' (PS i) (by rw [e]; exact h4) (by omega) (by omega)) (fun y hy => ?_)
    obtain ⟨y1, y2, y3⟩ := hy
    rw [y1, nI_1]
    exact l2_sm ⟨m - 1, by omega, i + 1, y.2, by omega, rfl, y2, fr.trans (y3.mono (fun b j q => by omega))⟩
theorem uo_mklist (T : TV D a H S v N M A c1 r1) (hv : v ≤ 16) (hH : H < 750) (hD : D < 3150) (ha : a + 2000 ≤ 48000) : UO D a H c1 r1 (f_X0_makeList (nI v) c1) (k_X13_rowOf_81 rc (nI n) (nI H) (nI v) 0 r1) := by
  obtain ⟨⟨A0, TA⟩, T39, ⟨T7, T12⟩, T98, T97, T103⟩ := id T
  have lt := T.lt
  obtain ⟨K, hK⟩ : ∃ K : Nat → Nat, ∀ i, i < v → (∃ t, vl_c t (N i) (K i) (c1.2.1 338 (a + A i))) ∧ r1.2.1 1006 (260 * (40 + (H + i))) = lN (K i) ∧ K i ≤ 8 := by
    refine ⟨fun i => (r1.2.1 1006 (260 * (40 + (H + i)))).toInt.toNat, fun i hi => ?_⟩
    obtain ⟨t, k, hd, k8, p0, _⟩ := (TA i hi).2.2.hd1
    have : (r1.2.1 1006 (260 * (40 + (H + i)))).toInt.toNat = k := by rw [p0, pk_lT (by omega)]; rfl
    show (∃ t, vl_c t (N i) ((r1.2.1 1006 (260 * (40 + (H + i)))).toInt.toNat) (c1.2.1 338 (a + A i))) ∧ r1.2.1 1006 (260 * (40 + (H + i))) = lN ((r1.2.1 1006 (260 * (40 + (H + i)))).toInt.toNat) ∧ (r1.2.1 1006 (260 * (40 + (H + i)))).toInt.toNat ≤ 8
    rw [this]
    exact ⟨⟨t, hd⟩, p0, k8⟩
  obtain ⟨P, P0, PS⟩ : ∃ P : Nat → Nat, P 0 = 0 ∧ ∀ j, P (j + 1) = P j + M j := ⟨fun i => Nat.rec 0 (fun k s => s + M k) i, rfl, fun _ => rfl⟩
  have PA : ∀ j, j ≤ v → P j ≤ 2 * A j := fun j => by
    induction j with
    | zero => intro _; omega
    | succ j ih =>
      intro hj
      have q := ih (by omega)
      obtain ⟨t1, t2, t3⟩ := TA j (by omega)
      have m2 := t3.m2
      rw [PS, t1]; omega
  have PAv := PA v (Nat.le_refl _)
  rw [ml_at T hv hD ha]
  by_cases om : ∃ i, i < v ∧ K i = 4
  · -- one is OMIT
    obtain ⟨c2, y1, y2, y3⟩ := ml_go (Q := fun c' => c'.1 334 12 = 1 ∧ l2_fr (fun b j => b = 334 ∧ j = 12) c1 c') T hv hD ha K (fun i hi => (hK i hi).1) (fun s fr _ g => by
      have s12 := g om
      refine l2_no (by rw [s12]; decide) ?_
      unfold k_X0_makeList_112
      exact l2_no (by rw [s12]; decide) (l2_sm ⟨s12, fr⟩))
    obtain ⟨r2, z1, z2, z3⟩ := rl_84 (rc := rc) (n := n) (Q := fun r' => r'.1 950 97 = 1 ∧ l2_fr (fun b j => b = 950 ∧ j = 97) r1 r') 0 T97 (by omega) (fun i hi => (hK i hi).2) rfl (fun no => by obtain ⟨i, hi, h4⟩ := om; exact absurd h4 (no i hi)) (fun _ r' h1 h2 => ⟨h1, h2⟩)
    exact ⟨c2, r2, y1, z1, y3.mono (fun b j y => by unfold oWc; omega), z3.mono (fun b j y => by unfold oWr; omega), Or.inr ⟨1, by decide, by decide, y2, z2⟩⟩
  · have no : ∀ i, i < v → K i ≠ 4 := fun i hi e => om ⟨i, hi, e⟩
    -- the row that is made
    have r1007 : (nI v).toInt64 = lN v := nI_l (by omega)
    obtain ⟨s3, hs3⟩ : ∃ s3, s3 = t_setJ (t_setJ r1 1007 0 (8 : Int64)) 1007 1 (lN v) := ⟨_, rfl⟩
    have f3 : l2_fr (fun b j => b = 1007 ∧ j < 2) r1 s3 := by
      rw [hs3]; exact (l2_fr.setJ ⟨rfl, by decide⟩).trans (l2_fr.setJ ⟨rfl, by decide⟩)
    have a0 : s3.2.1 1007 0 = lN 8 := by rw [hs3, l2_jJ, l2_upif, if_neg (by decide), l2_jJ, l2_upif, if_pos rfl]; rfl
    have a1 : s3.2.1 1007 1 = lN v := by rw [hs3, l2_jJ, l2_upif, if_pos rfl]
    have e1006 : ∀ j, s3.2.1 1006 j = r1.2.1 1006 j := fun j => (f3 1006 j (by omega)).2.1
    have RR : ∀ Q : t_S → Prop, (∀ s, MR (c1.2.1 338) (s.2.1 1007) 2 v (fun j => a + A j) P N → l2_fr (fun b j => b = 1007 ∧ 2 ≤ j) s3 s → t_hk (k_X13_rowOf_218 rc (nI H) s) Q) → t_hk (k_X13_rowOf_81 rc (nI n) (nI H) (nI v) 0 r1) Q := fun Q fin => by
      refine rl_84 (rc := rc) (n := n) 0 T97 (by omega) (fun i hi => (hK i hi).2) rfl (fun _ => ?_) (fun ex => absurd ex om)
      unfold k_X13_rowOf_136
      refine l2_ck T97 (l2_ck rfl (l2_lt (l2_lt ?_)))
      rw [r1007, show (0 : Int32).toNatClampNeg = 0 from rfl, show (1 : Int32).toNatClampNeg = 1 from rfl, ← hs3]
      exact rl_187 hv (by omega) (by omega) P0 PS (fun j hj => ⟨by rw [e1006, (hK j hj).2.1]; exact fun z => no j hj (lN_inj (by have := (hK j hj).2.2; omega) (by decide) z), VW.copy _ _ _ _ _ _ _ (TA j hj).2.2 (fun _ _ => rfl) (fun d _ => e1006 _)⟩) fin
    have fin0 : ∀ s, l2_fr (fun b j => b = 1007 ∧ 2 ≤ j) s3 s → (t_setI s 950 98 (nI H)).1 950 98 = nI H ∧ (t_setI s 950 98 (nI H)).1 950 97 = 0 ∧ (t_setI s 950 98 (nI H)).2.1 1007 0 = lN 8 ∧ (t_setI s 950 98 (nI H)).2.1 1007 1 = lN v ∧ l2_fr (oWr H) r1 (t_setI s 950 98 (nI H)) := fun s fr => ⟨by rw [l2_g, if_pos rfl], by rw [l2_g, if_neg (by decide), (fr 950 97 (by omega)).1, (f3 950 97 (by omega)).1]; exact T97, by show s.2.1 1007 0 = _; rw [(fr 1007 0 (by omega)).2.1]; exact a0, by show s.2.1 1007 1 = _; rw [(fr 1007 1 (by omega)).2.1]; exact a1, (f3.mono (fun b j y => by unfold oWr; omega)).trans ((fr.mono (fun b j y => by unfold oWr; omega)).trans (l2_fr.set (Or.inl ⟨rfl, Or.inr rfl⟩)))⟩
    have NS : ∀ j, j < v → A (j + 1) = A j + N j := fun j hj => (TA j hj).1
    by_cases hw : A v + 1 ≤ 120
    · obtain ⟨c2, y1, y2, y3, y4, y5, y6⟩ := ml_go T hv hD ha K (fun i hi => (hK i hi).1) (Q := fun c' => c'.1 334 7 = nI (D + 1) ∧ c'.1 339 (D + 1) = nI (a + (1 + A v)) ∧ vl_c (v : Int) (1 + A v) 8 (c'.2.1 338 a) ∧ (∀ d, d < A v → c'.2.1 338 (a + 1 + d) = c1.2.1 338 (a + d)) ∧ l2_fr (fun b j => (b = 334 ∧ j = 7) ∨ (b = 338 ∧ a ≤ j) ∨ (b = 339 ∧ j = D + 1)) c1 c') (fun s _ g _ => by
        rw [g no]
        exact l2_ck T12 (l2_ck (nI_le (b := 120) hw (by decide)) (ml_112 T hv hD ha hw)))
      obtain ⟨r2, z1, z2, z3, z4, z5⟩ := RR (fun r' => r'.1 950 98 = nI (H + 1) ∧ r'.1 950 97 = 0 ∧ l2_fr (oWr H) r1 r' ∧ VW (c2.2.1 338) (r'.2.1 1006) 120 a (260 * (40 + H)) (1 + A v) (2 + P v)) (fun s R fr => by
        obtain ⟨b98, b97, b0, b1, bF⟩ := fin0 s fr
        unfold k_X13_rowOf_218
        refine l2_lt ?_
        have R' : MR (c1.2.1 338) ((t_setI s 950 98 (nI H)).2.1 1007) 2 v (fun j => a + A j) P N := R
        generalize t_setI s 950 98 (nI H) = s' at *
        have V4 : VW (c2.2.1 338) (s'.2.1 1007) 120 a 0 (1 + A v) (2 + P v) := mr_list b0 b1 hv R' P0 A0 NS y4 (by omega) (fun j hj d hd => by
          have le := (T.le (v - (j + 1)) (j + 1) (by omega)).1
          rw [show j + 1 + (v - (j + 1)) = v by omega] at le
          have := NS j hj
          rw [show a + 1 + A j + d = a + 1 + (A j + d) by omega, y5 _ (by omega), Nat.add_assoc])
        refine l2_bd _ (rs_pushMade b98 (by omega) V4 (by decide) (by omega)) (fun y hy => ?_)
        obtain ⟨o2, o3, o4⟩ := hy
        exact l2_sm ⟨o2, by rw [(o4 950 97 (by omega)).1]; exact b97, bF.trans (o4.mono (fun b j y => by unfold oWr; omega)), VW.copy _ _ _ _ _ _ _ V4 (fun _ _ => rfl) (fun d hd => by rw [o3 d hd, Nat.zero_add])⟩)
      exact ⟨c2, r2, y1, z1, y6.mono (fun b j y => by unfold oWc; omega), z4, Or.inl ⟨_, _, z5, y3, y2, by rw [(y6 334 12 (by omega)).1]; exact T12, z2, z3⟩⟩
    · obtain ⟨c2, y1, y2, y3⟩ := ml_go T hv hD ha K (fun i hi => (hK i hi).1) (Q := fun c' => c'.1 334 12 = 3 ∧ l2_fr (fun b j => b = 334 ∧ j = 12) c1 c') (fun s _ g _ => by
        rw [g no]
        refine l2_ck T12 (l2_no (show ¬ nI (A v + 1) ≤ (120 : Int32) from nI_ge (a := 120) (by omega) (by omega)) (l2_lt ?_))
        unfold k_X0_makeList_112
        exact l2_no (by rw [l2_g, if_pos rfl]; decide) (l2_sm ⟨by rw [l2_g, if_pos rfl], l2_fr.set ⟨rfl, rfl⟩⟩))
      obtain ⟨r2, z1, z2, z3⟩ := RR (fun r' => r'.1 950 97 = 3 ∧ l2_fr (oWr H) r1 r') (fun s R fr => by
        obtain ⟨b98, b97, b0, b1, bF⟩ := fin0 s fr
        unfold k_X13_rowOf_218
        refine l2_lt ?_
        have R' : MR (c1.2.1 338) ((t_setI s 950 98 (nI H)).2.1 1007) 2 v (fun j => a + A j) P N := R
        generalize t_setI s 950 98 (nI H) = s' at *
        have W := mr_w (h := 2) (k := 8) (Or.inr rfl) b0 b1 hv rfl R' P0 A0 NS (by omega) (by omega)
        have e : vr_c 8 v = 1 := by unfold vr_c; rw [if_neg (by decide), if_neg (by decide)]
        rw [e] at W
        refine l2_bd _ (rs_heavy W (by omega) (by omega) b97) (fun y hy => l2_sm ⟨hy.1, bF.trans (hy.2.mono (fun b j y => by unfold oWr; omega))⟩))
      exact ⟨c2, r2, y1, z1, y3.mono (fun b j y => by unfold oWc; omega), z3, Or.inr ⟨3, by decide, by decide, y2, z2⟩⟩
end
