/-! Level 2: systems, the four calls on both sides. -/
theorem l2_fill {a : Nat} {v : Int32} {s : t_S} (h : t_oka a 1 (t_ln a) = true) (hn : t_ln a < 1000000000) : t_hk (f_J7_fill_53178 a v s) (fun s' => (∀ i, i < t_ln a → s'.1 a i = v) ∧ l2_fr (fun b _ => b = a) s s') := by
  unfold f_J7_fill_53178
  refine l2_ck h ?_
  refine l2_lp (fun k y => ∃ j s1, j + k = t_ln a ∧ y = (a, v, nI j, nI (t_ln a), s1) ∧ (∀ i, i < j → s1.1 a i = v) ∧ l2_fr (fun b _ => b = a) s s1) ?_ (m := t_ln a) (Nat.lt_trans hn l2_N) ⟨0, s, by omega, rfl, fun i hi => absurd hi (by omega), l2_fr.rf⟩
  rintro k y ⟨j, s1, hj, rfl, h1, h2⟩
  show t_hk (k_J7_fill_53178_5 a v (nI j) (nI (t_ln a)) s1) _
  unfold k_J7_fill_53178_5
  refine l2_if (fun c => ?_) (fun c => ?_)
  · have c := (nI_leI (by omega) (by omega)).mp c
    exact l2_mp (l2_sm ⟨fun i hi => h1 i (by omega), h2⟩)
  have c : ¬ t_ln a ≤ j := fun z => c ((nI_leI (by omega) (by omega)).mpr z)
  refine l2_ck h (l2_ck (l2_ix (by omega) (by omega)) ?_)
  rw [nI_clamp (by omega), nI_1]
  refine l2_lt (l2_sm ⟨k - 1, by omega, j + 1, _, by omega, rfl, fun i hi => ?_, h2.trans (l2_fr.set rfl)⟩)
  rw [l2_sI]
  by_cases e : i = j
  · rw [e, mj_up_eq]
  · rw [mj_up_ne _ _ e]
    exact h1 i (by omega)
theorem sy_l948 : t_ln 948 = 65536 := by decide +kernel
theorem sy_o948 : t_oka 948 1 (t_ln 948) = true := by decide +kernel
def sy_P0 (_ : Nat) : Nat := 257
def sy_00 (_ : Nat) : Nat := 0
theorem sy_cn0 : ∀ n, sy_cn sy_00 n = 0
  | 0 => rfl
  | n + 1 => by
    show sy_cn sy_00 n + 0 = 0
    rw [sy_cn0 n]
theorem sy_conf {T : Nat → Nat} {m n : Nat} (hm : m < 4) (hn : n < 4) {sc sr : t_S} (hTc : sy_T (sc.1 947) T) (hTr : sy_T (sr.1 1059) T) : ∃ r1 r2, f_X9_follows (nI m) (nI n) sc = some r1 ∧ t_loop b_X13_conforms_28 t_N (nI m, nI n, 0, sr) = some r2 ∧ sy_Q sc sr r1 r2 := by
  obtain ⟨s0, f0, f1, f2⟩ := l2_fill (v := 0) (s := sc) sy_o948 (by rw [sy_l948]; omega)
  rw [sy_l948] at f1
  have ec : f_X9_follows (nI m) (nI n) sc = t_loop b_X9_follows_34 t_N (nI m, nI n, nI 1, nI 0, t_setI (t_setI s0 949 0 257) 948 257 (-1)) := by
    unfold f_X9_follows
    rw [f0, l2_bs]
    simp only [t_let]
    rw [show (0 : Int32).toNatClampNeg = 0 from rfl, l2_sI, mj_up_eq, if_pos (by decide)]
    rfl
  have f3 : l2_fr sy_Wc sc s0 := f2.mono (fun b j e => Or.inr (Or.inl e))
  have f4 : l2_fr sy_Wc s0 (t_setI s0 949 0 257) := l2_fr.set (Or.inr (Or.inr rfl))
  have f5 : l2_fr sy_Wc (t_setI s0 949 0 257) (t_setI (t_setI s0 949 0 257) 948 257 (-1)) := l2_fr.set (Or.inr (Or.inl rfl))
  have hfr : l2_fr sy_Wc sc (t_setI (t_setI s0 949 0 257) 948 257 (-1)) := (f3.trans f4).trans f5
  have hC : sy_CI (t_setI (t_setI s0 949 0 257) 948 257 (-1)).1 1 sy_P0 sy_00 sy_00 (va_up sy_00 257 1) := by
    refine ⟨?_, ⟨?_, ?_⟩, ?_⟩
    · intro p hp _
      rw [show p = 0 by omega, l2_sO (by decide), l2_sI]
      show va_up (s0.1 949) 0 257 0 = nI 257
      rw [mj_up_eq]
      rfl
    · rw [l2_sI, mj_up_eq]
    · intro p h1 h2
      omega
    · intro v _ hv
      rw [l2_sI]
      by_cases e : v = 257
      · rw [e, mj_up_eq, mj_up_eq]
        exact ⟨fun z => absurd z (by decide), fun z => absurd z (by decide)⟩
      · rw [mj_up_ne _ _ e, mj_up_ne _ _ e, l2_sO (by decide), f1 v hv]
        exact ⟨fun _ => rfl, fun _ => rfl⟩
  have key : t_hk (t_loop b_X13_conforms_28 t_N (nI m, nI n, nI 0, sr)) (fun r2 => ∃ r1, f_X9_follows (nI m) (nI n) sc = some r1 ∧ sy_Q sc sr r1 r2) := by
    refine l2_lp (fun k y => ∃ j s1, j + k = 65536 ∧ y = (nI m, nI n, nI j, s1) ∧ (∀ i, i < j → s1.1 1064 i = 0) ∧ l2_fr sy_Wr sr s1) ?_ (m := 65536) (Nat.lt_trans (by decide) l2_N) ⟨0, sr, by omega, rfl, fun i hi => absurd hi (by omega), l2_fr.rf⟩
    rintro k y ⟨j, s1, hj, rfl, h1, h2⟩
    show t_hk (k_X13_conforms_28 (nI m) (nI n) (nI j) s1) _
    unfold k_X13_conforms_28
    refine l2_if (fun c => ?_) (fun c => ?_)
    · have c := (nI_leI (a := 65536) (by decide) (by omega)).mp c
      have ej : j = 65536 := by omega
      subst ej
      refine l2_mp (l2_lt (l2_lt (l2_lt (l2_lt ?_))))
      rw [show (0 : Int32).toNatClampNeg = 0 from rfl, show (257 : Int32).toNatClampNeg = 257 from rfl]
      have hfr2 : l2_fr sy_Wr sr (t_setI (t_setI (t_setI (t_setI s1 950 183 0) 1063 0 257) 1061 0 (-1)) 1064 257 1) := (((h2.trans (l2_fr.set (Or.inl ⟨rfl, rfl⟩))).trans (l2_fr.set (Or.inr (by omega)))).trans (l2_fr.set (Or.inr (by omega)))).trans (l2_fr.set (Or.inr (by omega)))
      have hR : sy_RI (t_setI (t_setI (t_setI (t_setI s1 950 183 0) 1063 0 257) 1061 0 (-1)) 1064 257 1).1 1 sy_P0 sy_00 sy_00 (va_up sy_00 257 1) := by
        refine ⟨by omega, rfl, ?_, ?_, ?_, ?_, ?_⟩
        · rw [l2_sO (by decide), l2_sI, mj_up_eq]
        · rw [sy_cn_up rfl 65536 (by decide), sy_cn0]
        · intro p hp
          rw [show p = 0 by omega, l2_sO (by decide), l2_sO (by decide), l2_sI, mj_up_eq]
          exact ⟨rfl, by decide, by show va_up sy_00 257 1 257 = 1; rw [mj_up_eq]⟩
        · intro p h1 h2
          omega
        · intro v hv
          rw [l2_sI]
          by_cases e : v = 257
          · rw [e, mj_up_eq, mj_up_eq]
            exact ⟨rfl, Nat.le_refl _⟩
          · rw [mj_up_ne _ _ e, mj_up_ne _ _ e, l2_sO (by decide), l2_sO (by decide), l2_sO (by decide), h1 v hv]
            exact ⟨rfl, Nat.zero_le 1⟩
      obtain ⟨r1, r2, i1, i2, i3⟩ := sy_bfs hm hn 65536 0 rfl (nc := t_N) (nr := t_N) (Nat.lt_trans (by decide) l2_N) (Nat.lt_trans (by decide) l2_N) hR hC (hTc.fc hfr) (hTr.fr hfr2) (by rw [l2_sO (by decide), l2_sO (by decide), l2_sO (by decide), l2_sI, mj_up_eq]) (by omega)
      refine ⟨r2, i2, r1, ec.trans i1, i3.1, i3.2.1, i3.2.2.1, hfr.trans i3.2.2.2.1, hfr2.trans i3.2.2.2.2⟩
    · have c : ¬ 65536 ≤ j := fun z => c ((nI_leI (a := 65536) (by decide) (by omega)).mpr z)
      refine l2_ck (l2_ix (by omega) (by decide)) ?_
      rw [nI_clamp (by omega), nI_1]
      refine l2_lt (l2_sm ⟨k - 1, by omega, j + 1, _, by omega, rfl, fun i hi => ?_, h2.trans (l2_fr.set (Or.inr (by omega)))⟩)
      rw [l2_sI]
      by_cases e : i = j
      · rw [e, mj_up_eq]
      · rw [mj_up_ne _ _ e]
        exact h1 i (by omega)
  obtain ⟨r2, e2, r1, e1, q⟩ := key
  exact ⟨r1, r2, e1, e2, q⟩
/-- the relation of both sides' systems -/
def sy_R (s : t_S) : Prop := (∃ T, sy_T (s.1 947) T ∧ sy_T (s.1 1059) T) ∧ sy_out s s
theorem l2_s64 (x : Int32) : x.toInt64.toInt = x.toInt := by simp
theorem l2_in1 {x : Int32} {h : Int64} {s : t_S} (h1 : 0 ≤ x.toInt) (h2 : x.toInt ≤ h.toInt) : f_X13_in x.toInt64 (0 : Int64) h s = 1 := by
  have a : ¬ lg_cmp x.toInt64 (0 : Int64) < 0 := by
    intro z
    have q := t_cmp_lt.mp z
    rw [l2_s64] at q
    have e : (0 : Int64).toInt = 0 := rfl
    omega
  have b : ¬ 0 < lg_cmp x.toInt64 h := by
    intro z
    have q := t_cmp_gt.mp z
    rw [l2_s64] at q
    omega
  unfold f_X13_in
  rw [if_neg a, if_neg b]
theorem l2_in0 {x : Int32} {h : Int64} {s : t_S} (h1 : ¬ (0 ≤ x.toInt ∧ x.toInt ≤ h.toInt)) : f_X13_in x.toInt64 (0 : Int64) h s = 0 := by
  unfold f_X13_in
  by_cases a : lg_cmp x.toInt64 0 < 0
  · rw [if_pos a]
  · rw [if_neg a]
    have e : (0 : Int64).toInt = 0 := rfl
    have g : ¬ x.toInt64.toInt < (0 : Int64).toInt := fun z => a (t_cmp_lt.mpr z)
    rw [l2_s64] at g
    rw [if_pos (t_cmp_gt.mpr (by rw [l2_s64]; omega))]
theorem sy_is1 {j : Nat} {s : t_S} (h : j < 4) : f_X9_is (nI j) s = 1 := by
  unfold f_X9_is
  rw [if_neg (nI_pos (by omega)), if_neg (show ¬ (4 : Int32) ≤ nI j from nI_ge (b := 4) h (by decide))]
theorem sy_is0 {x : Int32} {s : t_S} (h : ¬ (0 ≤ x.toInt ∧ x.toInt ≤ 3)) : f_X9_is x s = 0 := by
  unfold f_X9_is
  by_cases a : x < 0
  · rw [if_pos a]
  · rw [if_neg a]
    have g : ¬ x.toInt < 0 := fun z => a ((t_lt 0 rfl).mpr z)
    rw [if_pos ((t_ge 4 rfl).mpr (by omega))]
theorem l2_nat {x : Int32} {n : Nat} (hn : n < 2 ^ 31) (h : 0 ≤ x.toInt ∧ x.toInt ≤ (n : Int)) : ∃ j : Nat, j ≤ n ∧ x = nI j := t_nI hn h
theorem sy_conforms {s : t_S} (h : sy_R s) (x1 x2 : Int32) : t_hk (f_X12_conforms x1 x2 s) (fun r => l2_fr sy_Wc s r.2 ∧ t_hk (f_X13_conforms x1 x2 r.2) (fun r' => r'.1 = r.1 ∧ l2_fr sy_Wr r.2 r'.2 ∧ sy_R r'.2)) := by
  have e3 : (3 : Int64).toInt = 3 := rfl
  unfold f_X12_conforms
  by_cases a1 : 0 ≤ x1.toInt ∧ x1.toInt ≤ 3
  case neg =>
    rw [sy_is0 a1, if_pos rfl]
    refine l2_sm ⟨l2_fr.rf, ?_⟩
    unfold f_X13_conforms
    rw [l2_in0 (by rw [e3]; exact a1), if_pos rfl]
    exact l2_sm ⟨rfl, l2_fr.rf, h⟩
  by_cases a2 : 0 ≤ x2.toInt ∧ x2.toInt ≤ 3
  case neg =>
    obtain ⟨m, hm, e⟩ := l2_nat (n := 3) (by decide) a1
    have i1 := sy_is1 (s := s) (show m < 4 by omega)
    rw [← e] at i1
    rw [i1, if_neg (by decide), sy_is0 a2, if_pos rfl]
    refine l2_sm ⟨l2_fr.rf, ?_⟩
    unfold f_X13_conforms
    rw [l2_in1 a1.1 (by rw [e3]; exact a1.2), if_neg (by decide), l2_in0 (by rw [e3]; exact a2), if_pos rfl]
    exact l2_sm ⟨rfl, l2_fr.rf, h⟩
  have j1 := l2_in1 (h := 3) (s := s) a1.1 (by rw [e3]; exact a1.2)
  have j2 := l2_in1 (h := 3) (s := s) a2.1 (by rw [e3]; exact a2.2)
  obtain ⟨m, hm, rfl⟩ := l2_nat (n := 3) (by decide) a1
  obtain ⟨n, hn, rfl⟩ := l2_nat (n := 3) (by decide) a2
  have hm : m < 4 := by omega
  have hn : n < 4 := by omega
  obtain ⟨⟨T, hTc, hTr⟩, ho⟩ := h
  rw [sy_is1 hm, if_neg (by decide), sy_is1 hn, if_neg (by decide)]
  obtain ⟨r1, _, e1, _, _, q2, _, q4, _⟩ := sy_conf hm hn hTc hTr
  have hTr2 : sy_T (r1.2.1 1059) T := fun i hi => by
    rw [(q4 1059 i (by unfold sy_Wc; omega)).1]
    exact hTr i hi
  obtain ⟨r1', r2, e1', e2, p1, p2, p3, p4, p5⟩ := sy_conf hm hn hTc hTr2
  have er : r1' = r1 := Option.some.inj (e1'.symm.trans e1)
  subst er
  refine l2_eq e1 ?_
  have fin : l2_fr sy_Wc s r1'.2 ∧ t_hk (f_X13_conforms (nI m) (nI n) r1'.2) (fun r' => r'.1 = r1'.1 ∧ l2_fr sy_Wr r1'.2 r'.2 ∧ sy_R r'.2) := by
    refine ⟨p4, ?_⟩
    unfold f_X13_conforms
    rw [l2_in1 a1.1 (by rw [e3]; exact a1.2), if_neg (by decide), l2_in1 a2.1 (by rw [e3]; exact a2.2), if_neg (by decide)]
    refine l2_of e2 ⟨p1.symm, p5, ⟨T, fun i hi => ?_, hTr2.fr p5⟩, ?_⟩
    · rw [(p5 947 i (by unfold sy_Wr; omega)).1, (p4 947 i (by unfold sy_Wc; omega)).1]
      exact hTc i hi
    · obtain ⟨L, X, o1, o2, o3, o4⟩ := p3
      refine ⟨L, X, o1, ?_, o3, fun i hi => ⟨(o4 i hi).1, ?_, (o4 i hi).2.2⟩⟩
      · rw [(p5 946 3 (by unfold sy_Wr; omega)).1]
        exact o2
      · rw [(p5 949 i (by unfold sy_Wr; omega)).1]
        exact (o4 i hi).2.1
  rcases p2 with p2 | p2
  · rw [if_pos p2]
    rw [p2] at fin
    exact l2_sm fin
  · rw [if_neg (by rw [p2]; decide)]
    rw [p2] at fin
    exact l2_sm fin
