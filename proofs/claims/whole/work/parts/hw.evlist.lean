/-! Level 2: exps worked out: a LIST out of its parts. -/
section
variable {κ : KPP} {c0 r0 : t_S} {c r c1 r1 c' r' cs : t_S} {D a H S i j g n nn m v : Nat} {N M A : Nat → Nat}
/-- the class's check of the parts: is one OMIT -/
theorem ml_go {Q : t_S → Prop} (T : TV D a H S v N M A cs r1) (hv : v ≤ 16) (hD : D < 3150) (ha : a + 2000 ≤ 48000) (K : Nat → Nat) (hK : ∀ i, i < v → ∃ t, vl_c t (N i) (K i) (cs.2.1 338 (a + A i))) (fin : ∀ s, l2_fr (fun b j => b = 334 ∧ j = 12) cs s → ((∀ i, i < v → K i ≠ 4) → s = cs) → ((∃ i, i < v ∧ K i = 4) → s.1 334 12 = 1) → t_hk (if (s.1 334 12) = (0 : Int32) then (if nI (A v + 1) ≤ (120 : Int32) then (k_X0_makeList_112 (nI v) (nI a) (nI (A v + 1)) s) else (t_let (t_setI s 334 12 (3 : Int32)) (fun s1 => k_X0_makeList_112 (nI v) (nI a) (nI (A v + 1)) s1))) else (k_X0_makeList_112 (nI v) (nI a) (nI (A v + 1)) s)) Q) : t_hk (t_loop (b_X0_makeList_55) t_N (nI v, nI a, nI (A v + 1), nI D, cs)) Q := by
  obtain ⟨⟨A0, TA⟩, T39, ⟨T7, T12⟩, _⟩ := id T
  refine l2_lp (fun m z => ∃ i s, i + m = v ∧ z = (nI v, nI a, nI (A v + 1), nI (D + i), s) ∧ l2_fr (fun b j => b = 334 ∧ j = 12) cs s ∧ ((∀ q, q < i → K q ≠ 4) → s = cs) ∧ ((∃ q, q < i ∧ K q = 4) → s.1 334 12 = 1)) ?_ (m := v) (Nat.lt_trans (show v < 1000000000 by omega) l2_N) ⟨0, cs, by omega, rfl, l2_fr.rf, fun _ => rfl, fun y => by obtain ⟨q, hq, _⟩ := y; omega⟩
  rintro m z ⟨i, s, hi, rfl, fr, g1, g2⟩
  show t_hk (k_X0_makeList_55 (nI v) (nI a) (nI (A v + 1)) (nI (D + i)) s) _
  unfold k_X0_makeList_55
  have s7 : s.1 334 7 = nI (D + v) := by rw [(fr 334 7 (by omega)).1]; exact T7
  rw [s7]
  by_cases d : i = v
  · subst d
    exact l2_ck (nI_le (Nat.le_refl _) (by omega)) (l2_mp (fin s fr g1 g2))
  · have iv : i < v := by omega
    have le := T.le (v - i) i (by omega)
    rw [show i + (v - i) = v by omega] at le
    have lt := T.lt
    have s39 : s.1 339 (D + i) = nI (a + A i) := by rw [(fr 339 (D + i) (by omega)).1]; exact T39 i (by omega)
    obtain ⟨t, ht⟩ := hK i iv
    have s38 : s.2.1 338 (a + A i) = cs.2.1 338 (a + A i) := (fr 338 _ (by omega)).2.1
    have kb := ht.2.2
    have q4 : nI (K i) = (4 : Int32) ↔ K i = 4 := nI_eq (b := 4) (by omega) (by decide)
    refine l2_no (nI_ge (by omega) (by omega)) (l2_ck (l2_ix (by omega) (by decide)) ?_)
    rw [nI_clamp (n := D + i) (by omega), s39]
    refine l2_ck (l2_ix (by omega) (by decide)) ?_
    rw [nI_clamp (n := a + A i) (by omega), s38, vl_kind ht]
    by_cases e : K i = 4
    · refine l2_ck (q4.mpr e) (l2_lt ?_)
      unfold k_X0_makeList_88
      rw [nI_1, show D + i + 1 = D + (i + 1) by omega]
      exact l2_sm ⟨m - 1, by omega, i + 1, _, by omega, rfl, fr.trans (l2_fr.set ⟨rfl, rfl⟩), fun y => absurd e (y i (by omega)), fun _ => by rw [l2_g, if_pos rfl]⟩
    · refine l2_no (fun y => e (q4.mp y)) ?_
      unfold k_X0_makeList_88
      rw [nI_1, show D + i + 1 = D + (i + 1) by omega]
      exact l2_sm ⟨m - 1, by omega, i + 1, s, by omega, rfl, fr, fun y => g1 (fun q hq => y q (by omega)), fun ⟨q, hq, h4⟩ => g2 ⟨q, by
        have : q ≠ i := fun z => e (z ▸ h4)
        omega, h4⟩⟩
/-- the class's LIST -/
theorem ml_112 (T : TV D a H S v N M A cs r1) (hv : v ≤ 16) (hD : D < 3150) (ha : a + 2000 ≤ 48000) (hw : A v + 1 ≤ 120) : t_hk (k_X0_makeList_112 (nI v) (nI a) (nI (A v + 1)) cs) (fun c' => c'.1 334 7 = nI (D + 1) ∧ c'.1 339 (D + 1) = nI (a + (1 + A v)) ∧ vl_c (v : Int) (1 + A v) 8 (c'.2.1 338 a) ∧ (∀ d, d < A v → c'.2.1 338 (a + 1 + d) = cs.2.1 338 (a + d)) ∧ l2_fr (fun b j => (b = 334 ∧ j = 7) ∨ (b = 338 ∧ a ≤ j) ∨ (b = 339 ∧ j = D + 1)) cs c') := by
  obtain ⟨⟨A0, TA⟩, T39, ⟨T7, T12⟩, _⟩ := id T
  unfold k_X0_makeList_112
  refine l2_ck T12 ?_
  rw [sy_m1n (by omega), Nat.add_sub_cancel, nI_1 a]
  refine l2_ck (cp_ok (by omega) (by omega) (by omega) (by omega) (by omega)) (l2_lt ?_)
  obtain ⟨p1, p2, p3⟩ := cp_at (s := cs) (a := 338) (b := 338) (x := a) (y := a + 1) (m := A v) (by omega) (by omega) (by omega)
  generalize t_cpJ cs 338 338 (nI a) (nI (a + 1)) (nI (A v)) = s1 at *
  refine l2_ck (l2_ix (by omega) (by decide)) (l2_lt ?_)
  rw [nI_clamp (n := a) (by omega)]
  have hc : vl_c (v : Int) (1 + A v) 8 (f_X8_cell (8 : Int32) (nI (A v + 1)) (nI v).toInt64 s1) := vl_cell (nI_lT (by omega)) (by omega) (by omega) (by decide) rfl (by rw [Nat.add_comm])
  generalize f_X8_cell (8 : Int32) (nI (A v + 1)) (nI v).toInt64 s1 = x at *
  have f1 : l2_fr (fun b j => b = 338 ∧ j = a) s1 (t_setJ s1 338 a x) := l2_fr.setJ ⟨rfl, rfl⟩
  have va : (t_setJ s1 338 a x).2.1 338 a = x := by rw [l2_jJ, l2_upif, if_pos rfl]
  generalize t_setJ s1 338 a x = s2 at *
  have e7 : s2.1 334 7 = nI (D + v) := by rw [(f1 334 7 (by omega)).1, p1]; exact T7
  have sb : nI (D + v) - nI v = nI D := by rw [Nat.add_comm]; exact vr_len
  rw [e7, sb]
  have f2 : l2_fr (fun b j => b = 334 ∧ j = 7) s2 (t_setI s2 334 7 (nI D)) := l2_fr.set ⟨rfl, rfl⟩
  have v2 : (t_setI s2 334 7 (nI D)).1 334 7 = nI D := by rw [l2_g, if_pos rfl]
  have j2 : (t_setI s2 334 7 (nI D)).2.1 = s2.2.1 := rfl
  generalize t_setI s2 334 7 (nI D) = s3 at *
  refine l2_lt ?_
  rw [v2, nI_1, nI_add]
  refine l2_ck (l2_ix (by omega) (by decide)) (l2_lt (l2_lt (l2_sm ?_)))
  rw [nI_clamp (n := D + 1) (by omega)]
  refine ⟨?_, ?_, ?_, fun d hd => ?_, ?_⟩
  · rw [l2_g, if_pos rfl, l2_sO (by decide), v2, nI_1]
  · rw [l2_sO (by decide), l2_g, if_pos rfl, Nat.add_comm (A v) 1]
  · show vl_c _ _ _ (s3.2.1 338 a)
    rw [j2, va]; exact hc
  · show s3.2.1 338 (a + 1 + d) = _
    rw [j2, (f1 338 (a + 1 + d) (by omega)).2.1, p2 d hd]
  · exact (p3.mono (fun b j y => by omega)).trans ((f1.mono (fun b j y => by omega)).trans ((f2.mono (fun b j y => by omega)).trans ((l2_fr.set (by omega)).trans (l2_fr.set (by omega)))))
theorem ml_at (T : TV D a H S v N M A cs r1) (hv : v ≤ 16) (hD : D < 3150) (ha : a + 2000 ≤ 48000) : f_X0_makeList (nI v) cs = t_loop (b_X0_makeList_55) t_N (nI v, nI a, nI (A v + 1), nI D, cs) := by
  obtain ⟨⟨A0, TA⟩, T39, ⟨T7, T12⟩, _⟩ := id T
  have lt := T.lt
  have sb : nI (D + v) - nI v = nI D := by rw [Nat.add_comm]; exact vr_len
  have sa : nI (a + A v) - nI a = nI (A v) := vr_len
  have t0 : cs.1 339 D = nI a := by
    have := T39 0 (by omega)
    rw [A0] at this
    exact this
  unfold f_X0_makeList
  rw [if_neg (nI_pos (by omega)), T7, if_neg (nI_nlt (by omega) (by omega)), show f_X0_hasRoom (1 : Int32) cs = some (1, cs) from cs_room (x := 1) T7 (T39 v (Nat.le_refl _)) (by omega) (by omega), l2_bs, if_neg (show ¬ (1 : Int32) = 0 by decide)]
  show (if t_ix (cs.1 334 7 - nI v) 3201 = true then _ else _) = _
  rw [T7, sb, if_pos (l2_ix (by omega) (by decide)), if_pos (l2_ix (by omega) (by decide)), nI_clamp (n := D) (by omega), nI_clamp (n := D + v) (by omega), t0, T39 v (Nat.le_refl _), sa, nI_1]
end
