/-! Level 2: the class's table of words: what is found, what is added. -/
theorem l2_cmp0 {x y : Int64} : lg_cmp x y = 0 ↔ x = y := by
  constructor
  · intro h
    have a : ¬ x.toInt < y.toInt := fun z => by
      have := t_cmp_lt.mpr z
      rw [h] at this
      exact absurd this (by decide)
    have b : ¬ y.toInt < x.toInt := fun z => by
      have := t_cmp_gt.mpr z
      rw [h] at this
      exact absurd this (by decide)
    exact Int64.toInt_inj.mp (by omega)
  · rintro rfl
    have a : ¬ lg_cmp x x < 0 := fun z => by
      have := t_cmp_lt.mp z
      omega
    have b : ¬ 0 < lg_cmp x x := fun z => by
      have := t_cmp_gt.mp z
      omega
    apply Int32.toInt_inj.mp
    have a : ¬ (lg_cmp x x).toInt < 0 := fun z => a ((t_lt 0 rfl).mpr z)
    have b : ¬ 0 < (lg_cmp x x).toInt := fun z => b ((t_gt 0 rfl).mpr z)
    have e : (0 : Int32).toInt = 0 := rfl
    omega
theorem lx_s0_lt (H : Int64) (t : Int32) : lx_s0 H t < 16384 := Nat.mod_lt _ (by decide)
def wt_oc (V : Nat → Nat) (j : Nat) : Nat := if V j = 0 then 0 else 1
def wt_I (s : t_S) (W : Nat) (V sl : Nat → Nat) (H : Nat → Int64) (T : Nat → Int32) : Prop := W ≤ 8000 ∧ s.1 1 13 = nI W ∧ (∀ j, j < 16384 → s.1 11 j = nI (V j) ∧ V j ≤ W ∧ (0 < V j → sl (V j - 1) = j)) ∧ (∀ i, i < W → s.1 10 i = nI (sl i) ∧ sl i < 16384 ∧ V (sl i) = i + 1 ∧ s.2.1 8 i = H i ∧ s.1 9 i = T i) ∧ (∀ i, i < W → ∃ d, d < 16384 ∧ sl i = (lx_s0 (H i) (T i) + d) % 16384 ∧ ∀ t, t < d → 0 < V ((lx_s0 (H i) (T i) + t) % 16384) ∧ V ((lx_s0 (H i) (T i) + t) % 16384) ≤ i) ∧ (∀ i j, i < W → j < W → H i = H j → T i = T j → i = j) ∧ sy_cn (wt_oc V) 16384 = W
theorem wt_full {V : Nat → Nat} {o : Nat} (h : ∀ t, t < 16384 → 0 < V ((o + t) % 16384)) : ∀ n, n ≤ 16384 → sy_cn (wt_oc V) n = n
  | 0, _ => rfl
  | n + 1, hn => by
    have a : 0 < V n := by
      have := h ((n + 16384 - o % 16384) % 16384) (Nat.mod_lt _ (by decide))
      rw [show (o + (n + 16384 - o % 16384) % 16384) % 16384 = n by omega] at this
      exact this
    show sy_cn (wt_oc V) n + wt_oc V n = n + 1
    rw [wt_full h n (by omega)]
    unfold wt_oc
    rw [if_neg (by omega)]
theorem wt_cn0 {V : Nat → Nat} {j w : Nat} : ∀ n, n ≤ j → sy_cn (wt_oc (va_up V j w)) n = sy_cn (wt_oc V) n
  | 0, _ => rfl
  | n + 1, h => by
    show sy_cn (wt_oc (va_up V j w)) n + wt_oc (va_up V j w) n = sy_cn (wt_oc V) n + wt_oc V n
    rw [wt_cn0 n (by omega)]
    unfold wt_oc
    rw [mj_up_ne _ _ (by omega)]
theorem wt_cn {V : Nat → Nat} {j w : Nat} (h0 : V j = 0) (hw : 0 < w) : ∀ n, j < n → sy_cn (wt_oc (va_up V j w)) n = sy_cn (wt_oc V) n + 1
  | 0, h => by omega
  | n + 1, h => by
    show sy_cn (wt_oc (va_up V j w)) n + wt_oc (va_up V j w) n = sy_cn (wt_oc V) n + wt_oc V n + 1
    by_cases e : j = n
    · subst e
      rw [wt_cn0 j (Nat.le_refl _)]
      unfold wt_oc
      rw [mj_up_eq, if_neg (by omega), if_pos h0]
    · rw [wt_cn h0 hw n (by omega)]
      unfold wt_oc
      rw [mj_up_ne _ _ (by omega)]
      omega
def wt_W (b j : Nat) : Prop := (b = 1 ∧ j = 13) ∨ (6 ≤ b ∧ b ≤ 11)
/-- behind a word that is new -/
theorem wt_I.add {s s' : t_S} {W : Nat} {V sl : Nat → Nat} {H : Nat → Int64} {T : Nat → Int32} (h : wt_I s W V sl H T) {K : Int64} {t : Int32} {d : Nat} (hW : W < 8000) (hd : d < 16384) (h0 : V ((lx_s0 K t + d) % 16384) = 0) (hp : ∀ u, u < d → 0 < V ((lx_s0 K t + u) % 16384)) (hn : ∀ i, i < W → ¬ (H i = K ∧ T i = t)) (e1 : s'.1 1 13 = nI (W + 1)) (e2 : s'.1 11 = va_up (s.1 11) ((lx_s0 K t + d) % 16384) (nI (W + 1))) (e3 : s'.1 10 = va_up (s.1 10) W (nI ((lx_s0 K t + d) % 16384))) (e4 : s'.2.1 8 = va_up (s.2.1 8) W K) (e5 : s'.1 9 = va_up (s.1 9) W t) : wt_I s' (W + 1) (va_up V ((lx_s0 K t + d) % 16384) (W + 1)) (va_up sl W ((lx_s0 K t + d) % 16384)) (va_up H W K) (va_up T W t) := by
  obtain ⟨g1, g2, g3, g4, g5, g6, g7⟩ := h
  have hj : (lx_s0 K t + d) % 16384 < 16384 := Nat.mod_lt _ (by decide)
  generalize hjj : (lx_s0 K t + d) % 16384 = j at *
  have hne : ∀ i, i < W → sl i ≠ j := fun i hi e => by
    have := (g4 i hi).2.2.1
    rw [e, h0] at this
    omega
  refine ⟨by omega, e1, ?_, ?_, ?_, ?_, ?_⟩
  · intro k hk
    rw [e2]
    by_cases e : k = j
    · rw [e, mj_up_eq, mj_up_eq]
      refine ⟨rfl, Nat.le_refl _, fun _ => ?_⟩
      rw [Nat.add_sub_cancel, mj_up_eq]
    · rw [mj_up_ne _ _ e, mj_up_ne _ _ e]
      obtain ⟨a, b, c⟩ := g3 k hk
      refine ⟨a, by omega, fun z => ?_⟩
      rw [mj_up_ne _ _ (by omega)]
      exact c z
  · intro i hi
    rw [e3, e4, e5]
    by_cases e : i = W
    · rw [e, mj_up_eq, mj_up_eq, mj_up_eq, mj_up_eq, mj_up_eq, mj_up_eq, mj_up_eq]
      exact ⟨rfl, hj, rfl, rfl, rfl⟩
    · rw [mj_up_ne _ _ e, mj_up_ne _ _ e, mj_up_ne _ _ e, mj_up_ne _ _ e, mj_up_ne _ _ e, mj_up_ne _ _ e]
      obtain ⟨a, b, c, f⟩ := g4 i (by omega)
      refine ⟨a, b, ?_, f⟩
      rw [mj_up_ne _ _ (hne i (by omega))]
      exact c
  · intro i hi
    by_cases e : i = W
    · subst e
      rw [mj_up_eq, mj_up_eq, mj_up_eq]
      refine ⟨d, hd, hjj.symm, fun u hu => ?_⟩
      have a := hp u hu
      have ne : (lx_s0 K t + u) % 16384 ≠ j := by omega
      rw [mj_up_ne _ _ ne]
      exact ⟨a, (g3 _ (Nat.mod_lt _ (by decide))).2.1⟩
    · rw [mj_up_ne _ _ e, mj_up_ne _ _ e, mj_up_ne _ _ e]
      obtain ⟨d2, a, b, c⟩ := g5 i (by omega)
      refine ⟨d2, a, b, fun u hu => ?_⟩
      obtain ⟨x, y⟩ := c u hu
      have ne : (lx_s0 (H i) (T i) + u) % 16384 ≠ j := fun z => by
        rw [z, h0] at x
        omega
      rw [mj_up_ne _ _ ne]
      exact ⟨x, y⟩
  · intro i k hi hk eH eT
    by_cases e : i = W
    · by_cases f : k = W
      · omega
      · rw [e, mj_up_eq, mj_up_ne _ _ f] at eH
        rw [e, mj_up_eq, mj_up_ne _ _ f] at eT
        exact absurd ⟨eH.symm, eT.symm⟩ (hn k (by omega))
    · by_cases f : k = W
      · rw [f, mj_up_eq, mj_up_ne _ _ e] at eH
        rw [f, mj_up_eq, mj_up_ne _ _ e] at eT
        exact absurd ⟨eH, eT⟩ (hn i (by omega))
      · rw [mj_up_ne _ _ e, mj_up_ne _ _ f] at eH
        rw [mj_up_ne _ _ e, mj_up_ne _ _ f] at eT
        exact g6 i k (by omega) (by omega) eH eT
  · rw [wt_cn h0 (by omega) 16384 hj, g7]
theorem wt_find {s : t_S} {W : Nat} {V sl : Nat → Nat} {H : Nat → Int64} {T : Nat → Int32} (h : wt_I s W V sl H T) (hW : W < 8000) (K : Int64) (t : Int32) : t_hk (t_loop b_X2_wordOf_56 t_N (K, t, nI (lx_s0 K t), 0, s)) (fun r => (∃ i, i < W ∧ H i = K ∧ T i = t ∧ r = (nI i, s)) ∨ ((∀ i, i < W → ¬ (H i = K ∧ T i = t)) ∧ r.1 = nI W ∧ l2_fr wt_W s r.2 ∧ r.2.1 6 W = 0 ∧ r.2.1 7 W = 0 ∧ (∀ i, i < W → r.2.1 6 i = s.1 6 i ∧ r.2.1 7 i = s.1 7 i) ∧ ∃ j, wt_I r.2 (W + 1) (va_up V j (W + 1)) (va_up sl W j) (va_up H W K) (va_up T W t))) := by
  have h' := h
  obtain ⟨g1, g2, g3, g4, g5, g6, g7⟩ := h
  have hs0 := lx_s0_lt K t
  refine l2_lp (fun k y => ∃ d, d + k = 16384 ∧ y = (K, t, nI (lx_s0 K t), nI d, s) ∧ ∀ u, u < d → 0 < V ((lx_s0 K t + u) % 16384) ∧ ¬ (H (V ((lx_s0 K t + u) % 16384) - 1) = K ∧ T (V ((lx_s0 K t + u) % 16384) - 1) = t)) ?_ (m := 16384) (Nat.lt_trans (by decide) l2_N) ⟨0, rfl, rfl, fun u hu => absurd hu (by omega)⟩
  rintro k y ⟨d, hd, rfl, hu⟩
  show t_hk (k_X2_wordOf_56 K t (nI (lx_s0 K t)) (nI d) s) _
  unfold k_X2_wordOf_56
  refine l2_if (fun c => ?_) (fun c => ?_)
  · have c : 16384 ≤ d := (nI_leI (a := 16384) (by decide) (by omega)).mp c
    have f := wt_full (V := V) (o := lx_s0 K t) (fun u hu2 => (hu u (by omega)).1) 16384 (Nat.le_refl _)
    omega
  have c : ¬ 16384 ≤ d := fun z => c ((nI_leI (a := 16384) (by decide) (by omega)).mpr z)
  have hj : (lx_s0 K t + d) % 16384 < 16384 := Nat.mod_lt _ (by decide)
  obtain ⟨v1, v2, v3⟩ := g3 _ hj
  have em : (nI (lx_s0 K t) + nI d) &&& (16383 : Int32) = nI ((lx_s0 K t + d) % 16384) := by
    rw [nI_add]
    exact pk_andN (by omega) 14 (by decide)
  rw [em]
  refine l2_ck (l2_ix hj (by decide)) ?_
  rw [nI_clamp (by omega), v1]
  by_cases z : V ((lx_s0 K t + d) % 16384) = 0
  · rw [z]
    refine l2_no (by decide) (l2_mp ?_)
    have nf : ∀ i, i < W → ¬ (H i = K ∧ T i = t) := by
      rintro i hi ⟨eH, eT⟩
      obtain ⟨d2, a, b, f⟩ := g5 i hi
      rw [eH, eT] at b f
      have hs := (g4 i hi).2.2.1
      by_cases x : d2 < d
      · have y := (hu d2 x).2
        rw [← b, hs, Nat.add_sub_cancel] at y
        exact y ⟨eH, eT⟩
      · by_cases x2 : d2 = d
        · rw [b, x2, z] at hs
          omega
        · have y := (f d (by omega)).1
          omega
    unfold f_X2_addWord
    rw [g2]
    refine l2_bd (fun r => r.1 = nI W ∧ l2_fr wt_W s r.2 ∧ r.2.1 6 W = 0 ∧ r.2.1 7 W = 0 ∧ (∀ i, i < W → r.2.1 6 i = s.1 6 i ∧ r.2.1 7 i = s.1 7 i) ∧ ∃ j, wt_I r.2 (W + 1) (va_up V j (W + 1)) (va_up sl W j) (va_up H W K) (va_up T W t)) ?_ (fun r hr => l2_sm (Or.inr ⟨nf, hr⟩))
    refine l2_ck (show nI W < (8000 : Int32) from nI_lt (b := 8000) hW (by decide)) (l2_lt (l2_ck (l2_ix hW (by decide)) ?_))
    rw [nI_clamp (by omega), nI_1]
    refine l2_lt (l2_lt (l2_lt (l2_ck (l2_ix hj (by decide)) ?_)))
    rw [nI_clamp (by omega)]
    refine l2_lt (l2_lt (l2_lt (l2_sm ⟨rfl, ?_, ?_, ?_, ?_, (lx_s0 K t + d) % 16384, ?_⟩)))
    · exact ((((((l2_fr.set (Or.inl ⟨rfl, rfl⟩)).trans (l2_fr.setJ (Or.inr (by omega)))).trans (l2_fr.set (Or.inr (by omega)))).trans (l2_fr.set (Or.inr (by omega)))).trans (l2_fr.set (Or.inr (by omega)))).trans (l2_fr.set (Or.inr (by omega)))).trans (l2_fr.set (Or.inr (by omega)))
    · simp only [l2_sI, l2_sO, l2_jI, mj_up_eq, ne_eq, Nat.reduceEqDiff, not_false_eq_true]
    · simp only [l2_sI, l2_sO, l2_jI, mj_up_eq, ne_eq, Nat.reduceEqDiff, not_false_eq_true]
    · intro i hi
      have ne : i ≠ W := by omega
      simp only [l2_sI, l2_sO, l2_jI, mj_up_ne _ _ ne, ne_eq, Nat.reduceEqDiff, not_false_eq_true, and_self]
    · refine h'.add hW (by omega) z (fun u hu2 => (hu u hu2).1) nf ?_ ?_ ?_ ?_ ?_
      · simp only [l2_sI, l2_sO, l2_jI, mj_up_eq, ne_eq, Nat.reduceEqDiff, not_false_eq_true]
      · simp only [l2_sI, l2_sO, l2_jI, ne_eq, Nat.reduceEqDiff, not_false_eq_true]
      · simp only [l2_sI, l2_sO, l2_jI, ne_eq, Nat.reduceEqDiff, not_false_eq_true]
      · show (t_setJ (t_setI s 1 13 (nI (W + 1))) 8 W K).2.1 8 = _
        rw [l2_jJ]
        rfl
      · simp only [l2_sI, l2_sO, l2_jI, ne_eq, Nat.reduceEqDiff, not_false_eq_true]
  · have hv : V ((lx_s0 K t + d) % 16384) - 1 < W := by omega
    obtain ⟨w1, w2, w3, w4, w5⟩ := g4 _ hv
    rw [show (1 : Int32) = nI 1 from rfl, pk_sub (by omega)]
    refine l2_ck (nI_pos' (by omega)) (l2_ck (l2_ix (by omega) (by decide)) ?_)
    rw [nI_clamp (by omega), w4, w5]
    have next : ¬ (H (V ((lx_s0 K t + d) % 16384) - 1) = K ∧ T (V ((lx_s0 K t + d) % 16384) - 1) = t) → t_hk (k_X2_wordOf_128 K t (nI (lx_s0 K t)) (nI d) s) (l2_nx (fun z => ∃ j, j < k ∧ ∃ d, d + j = 16384 ∧ z = (K, t, nI (lx_s0 K t), nI d, s) ∧ ∀ u, u < d → 0 < V ((lx_s0 K t + u) % 16384) ∧ ¬ (H (V ((lx_s0 K t + u) % 16384) - 1) = K ∧ T (V ((lx_s0 K t + u) % 16384) - 1) = t)) (fun r => (∃ i, i < W ∧ H i = K ∧ T i = t ∧ r = (nI i, s)) ∨ ((∀ i, i < W → ¬ (H i = K ∧ T i = t)) ∧ r.1 = nI W ∧ l2_fr wt_W s r.2 ∧ r.2.1 6 W = 0 ∧ r.2.1 7 W = 0 ∧ (∀ i, i < W → r.2.1 6 i = s.1 6 i ∧ r.2.1 7 i = s.1 7 i) ∧ ∃ j, wt_I r.2 (W + 1) (va_up V j (W + 1)) (va_up sl W j) (va_up H W K) (va_up T W t)))) := by
      intro hne
      unfold k_X2_wordOf_128
      rw [nI_1]
      refine l2_sm ⟨k - 1, by omega, d + 1, by omega, rfl, fun u hu2 => ?_⟩
      by_cases e : u = d
      · rw [e]
        exact ⟨by omega, hne⟩
      · exact hu u (by omega)
    refine l2_if (fun a => ?_) (fun a => ?_)
    · have a := l2_cmp0.mp a
      refine l2_if (fun b => ?_) (fun b => ?_)
      · exact l2_mp (l2_sm (Or.inl ⟨_, hv, a, b, rfl⟩))
      · exact next (fun x => b x.2)
    · exact next (fun x => a (l2_cmp0.mpr x.1))
