/-! Level 2: words forgotten; the scan's end. -/
theorem wt_cnd0 {V : Nat → Nat} {j : Nat} : ∀ n, n ≤ j → sy_cn (wt_oc (va_up V j 0)) n = sy_cn (wt_oc V) n := fun n h => wt_cn0 n h
theorem wt_cnd {V : Nat → Nat} {j : Nat} (h0 : 0 < V j) : ∀ n, j < n → sy_cn (wt_oc (va_up V j 0)) n + 1 = sy_cn (wt_oc V) n
  | 0, h => by omega
  | n + 1, h => by
    show sy_cn (wt_oc (va_up V j 0)) n + wt_oc (va_up V j 0) n + 1 = sy_cn (wt_oc V) n + wt_oc V n
    by_cases e : j = n
    · subst e
      rw [wt_cn0 j (Nat.le_refl _)]
      unfold wt_oc
      rw [mj_up_eq, if_pos rfl, if_neg (by omega)]
    · have := wt_cnd h0 n (by omega)
      have q : wt_oc (va_up V j 0) n = wt_oc V n := by
        unfold wt_oc
        rw [mj_up_ne _ _ (by omega)]
      rw [q]
      omega
theorem wt_I.del {s s' : t_S} {w : Nat} {V sl : Nat → Nat} {H : Nat → Int64} {T : Nat → Int32} (h : wt_I s (w + 1) V sl H T) (e1 : s'.1 1 13 = nI w) (e2 : s'.1 11 = va_up (s.1 11) (sl w) 0) (f : l2_fr (fun b j => (b = 1 ∧ j = 13) ∨ b = 11) s s') : wt_I s' w (va_up V (sl w) 0) sl H T := by
  obtain ⟨g1, g2, g3, g4, g5, g6, g7⟩ := h
  obtain ⟨a1, a2, a3, a4, a5⟩ := g4 w (by omega)
  have ne : ∀ i, i < w → sl i ≠ sl w := fun i hi e => by
    have := (g4 i (by omega)).2.2.1
    rw [e, a3] at this
    omega
  refine ⟨by omega, e1, ?_, ?_, ?_, fun i j hi hj => g6 i j (by omega) (by omega), ?_⟩
  · intro j hj
    rw [e2]
    by_cases e : j = sl w
    · rw [e, mj_up_eq, mj_up_eq]
      exact ⟨rfl, Nat.zero_le _, fun z => absurd z (by decide)⟩
    · rw [mj_up_ne _ _ e, mj_up_ne _ _ e]
      obtain ⟨b1, b2, b3⟩ := g3 j hj
      refine ⟨b1, ?_, b3⟩
      by_cases x : V j = w + 1
      · have := b3 (by omega)
        rw [x, Nat.add_sub_cancel] at this
        exact absurd this.symm e
      · omega
  · intro i hi
    obtain ⟨b1, b2, b3, b4, b5⟩ := g4 i (by omega)
    rw [(f 10 i (by omega)).1, (f 8 i (by omega)).2.1, (f 9 i (by omega)).1]
    refine ⟨b1, b2, ?_, b4, b5⟩
    rw [mj_up_ne _ _ (ne i hi)]
    exact b3
  · intro i hi
    obtain ⟨d, b1, b2, b3⟩ := g5 i (by omega)
    refine ⟨d, b1, b2, fun t ht => ?_⟩
    obtain ⟨c1, c2⟩ := b3 t ht
    have x : (lx_s0 (H i) (T i) + t) % 16384 ≠ sl w := fun e => by
      rw [e, a3] at c2
      omega
    rw [mj_up_ne _ _ x]
    exact ⟨c1, c2⟩
  · have := wt_cnd (V := V) (j := sl w) (by omega) 16384 a2
    omega
theorem wt_forget {s : t_S} {W n : Nat} {V sl : Nat → Nat} {H : Nat → Int64} {T : Nat → Int32} (h : wt_I s W V sl H T) (hn : n ≤ W) : t_hk (f_X2_forget (nI n) s) (fun s' => l2_fr (fun b j => (b = 1 ∧ j = 13) ∨ b = 11) s s' ∧ ∃ V', wt_I s' n V' sl H T) := by
  have hW := h.1
  unfold f_X2_forget
  refine l2_lp (fun k y => ∃ s1 V1, y = (nI n, s1) ∧ wt_I s1 (n + k) V1 sl H T ∧ l2_fr (fun b j => (b = 1 ∧ j = 13) ∨ b = 11) s s1) ?_ (m := W - n) (Nat.lt_trans (show W - n < 1000000000 by omega) l2_N) ⟨s, V, rfl, by rw [show n + (W - n) = W by omega]; exact h, l2_fr.rf⟩
  rintro k y ⟨s1, V1, rfl, h1, f1⟩
  show t_hk (k_X2_forget_0 (nI n) s1) _
  unfold k_X2_forget_0
  have hk := h1.1
  rw [h1.2.1]
  cases k with
  | zero => exact l2_ck (nI_le (Nat.le_refl _) (by omega)) (l2_mp (l2_sm ⟨f1, V1, h1⟩))
  | succ k =>
    refine l2_no (nI_ge (by omega) (by omega)) (l2_no (nI_nle (by omega) (by omega)) ?_)
    rw [show nI (n + (k + 1)) - (1 : Int32) = nI (n + k) from nI_pred (n + k)]
    refine l2_lt ?_
    have e13 : (t_setI s1 1 13 (nI (n + k))).1 1 13 = nI (n + k) := by simp only [l2_g, reduceIte]
    rw [e13]
    obtain ⟨a1, a2, a3, a4, a5⟩ := h1.2.2.2.1 (n + k) (by omega)
    refine l2_ck (l2_ix (by omega) (by decide)) ?_
    rw [nI_clamp (by omega), l2_sO (by decide), a1]
    refine l2_ck (l2_ix a2 (by decide)) ?_
    rw [nI_clamp (by omega)]
    have f2 : l2_fr (fun b j => (b = 1 ∧ j = 13) ∨ b = 11) s1 (t_setI (t_setI s1 1 13 (nI (n + k))) 11 (sl (n + k)) 0) := (l2_fr.set (Or.inl ⟨rfl, rfl⟩)).trans (l2_fr.set (Or.inr rfl))
    refine l2_lt (l2_sm ⟨k, by omega, _, _, rfl, h1.del (w := n + k) ?_ ?_ f2, f1.trans f2⟩)
    · rw [l2_sO (by decide)]; exact e13
    · rw [l2_sI, l2_sO (by decide)]
/-- behind the scan: the first token is looked at -/
theorem lc_begin {s0 : t_S} {B : Nat → Nat} {L W0 : Nat} {V0 sl0 : Nat → Nat} {H0 : Nat → Int64} {T0 : Nat → Int32} (hT : tx_Tc s0 B L) (hI : wt_I s0 W0 V0 sl0 H0 T0) (hW : W0 ≤ 3911) : t_hk (f_X2_scan s0) (fun s => ∃ n W V sl H T, W0 ≤ W ∧ W ≤ W0 + 3845 ∧ (∀ i, i < W0 → H i = H0 i ∧ T i = T0 i ∧ s.1 6 i = s0.1 6 i ∧ s.1 7 i = s0.1 7 i) ∧ (∀ i, W0 ≤ i → i < W → s.1 6 i = 0 ∧ s.1 7 i = 0) ∧ l2_fr (fun b j => (b = 1 ∧ j ≠ 1) ∨ (3 ≤ b ∧ b ≤ 11)) s0 s ∧ wt_I s W V sl H T ∧ sc_D B L W0 W H T n ∧ (((L ≤ tk_P B L 0 ∨ tk_v B L (tk_P B L 0)) ∧ lc_A s B L W V sl H T n 0) ∨ (tk_P B L 0 < L ∧ ¬ tk_v B L (tk_P B L 0) ∧ lc_F s 1 (tk_P B L 0)))) := by
  refine sc_scan hT hI hW (fun s n W V sl H T hw hD hA => ?_)
  obtain ⟨w1, w2, w3, w4, w5, w6⟩ := hw
  have hA0 := hA
  obtain ⟨a1, a2, a3, a4, a5, a6⟩ := hA
  have hT1 := hT.fr w6 (by unfold sc_W; omega) (fun i => by unfold sc_W; omega)
  unfold k_X2_scan_116
  refine l2_lt (l2_lt (l2_lt ?_))
  have b11 : (t_setI (t_setI (t_setI s 1 11 0) 1 12 0) 1 7 (-1)).1 1 11 = 0 := by simp only [l2_g, Nat.reduceEqDiff, reduceIte]
  have b7 : (t_setI (t_setI (t_setI s 1 11 0) 1 12 0) 1 7 (-1)).1 1 7 = -1 := by simp only [l2_g, reduceIte]
  have b6 : (t_setI (t_setI (t_setI s 1 11 0) 1 12 0) 1 7 (-1)).1 1 6 = nI n := by
    simp only [l2_g, Nat.reduceEqDiff, reduceIte]
    exact a3
  have f1 : l2_fr (fun b j => b = 1 ∧ (j = 7 ∨ j = 11 ∨ j = 12)) s (t_setI (t_setI (t_setI s 1 11 0) 1 12 0) 1 7 (-1)) := ((l2_fr.set ⟨rfl, by omega⟩).trans (l2_fr.set ⟨rfl, by omega⟩)).trans (l2_fr.set ⟨rfl, by omega⟩)
  generalize t_setI (t_setI (t_setI s 1 11 0) 1 12 0) 1 7 (-1) = s1 at *
  have e : ∀ b j, b ≠ 1 → s1.1 b j = s.1 b j ∧ s1.2.1 b j = s.2.1 b j := fun b j hb => ⟨(f1 b j (by omega)).1, (f1 b j (by omega)).2.1⟩
  unfold f_X2_advance
  refine l2_bd (fun s => ∃ n W V sl H T, W0 ≤ W ∧ W ≤ W0 + 3845 ∧ (∀ i, i < W0 → H i = H0 i ∧ T i = T0 i ∧ s.1 6 i = s0.1 6 i ∧ s.1 7 i = s0.1 7 i) ∧ (∀ i, W0 ≤ i → i < W → s.1 6 i = 0 ∧ s.1 7 i = 0) ∧ l2_fr (fun b j => (b = 1 ∧ j ≠ 1) ∨ (3 ≤ b ∧ b ≤ 11)) s0 s ∧ wt_I s W V sl H T ∧ sc_D B L W0 W H T n ∧ (((L ≤ tk_P B L 0 ∨ tk_v B L (tk_P B L 0)) ∧ lc_A s B L W V sl H T n 0) ∨ (tk_P B L 0 < L ∧ ¬ tk_v B L (tk_P B L 0) ∧ lc_F s 1 (tk_P B L 0)))) ?_ (fun r hr => l2_sm hr)
  refine l2_ck b11 ?_
  rw [b7, b6, show (-1 : Int32) + 1 = nI 0 by decide]
  refine l2_ck (nI_lt a1 (by omega)) (l2_lt ?_)
  have c7 : (t_setI s1 1 7 (nI 0)).1 1 7 = nI 0 := by simp only [l2_g, reduceIte]
  rw [c7]
  refine l2_ck (l2_ix (by decide) (by decide)) ?_
  rw [nI_clamp (by decide), l2_sO (by decide), (e 3 0 (by decide)).1]
  refine l2_lt ?_
  have c72 : (t_setI (t_setI s1 1 7 (nI 0)) 1 8 (s.1 3 0)).1 1 7 = nI 0 := by simp only [l2_g, Nat.reduceEqDiff, reduceIte]
  rw [c72]
  refine l2_ck (l2_ix (by decide) (by decide)) ?_
  rw [nI_clamp (by decide), l2_sO (by decide), l2_sO (by decide), (e 4 0 (by decide)).1, a4 0 a1]
  refine l2_lt ?_
  have c73 : (t_setI (t_setI (t_setI s1 1 7 (nI 0)) 1 8 (s.1 3 0)) 1 9 (nI (tk_P B L 0))).1 1 7 = nI 0 := by simp only [l2_g, Nat.reduceEqDiff, reduceIte]
  rw [c73]
  refine l2_ck (l2_ix (by decide) (by decide)) ?_
  rw [nI_clamp (by decide)]
  refine l2_lt ?_
  have e5 : (t_setI (t_setI (t_setI s1 1 7 (nI 0)) 1 8 (s.1 3 0)) 1 9 (nI (tk_P B L 0))).2.1 5 0 = s.2.1 5 0 := (e 5 0 (by decide)).2
  rw [e5]
  have f4 : l2_fr la_W s1 (t_setJ (t_setI (t_setI (t_setI s1 1 7 (nI 0)) 1 8 (s.1 3 0)) 1 9 (nI (tk_P B L 0))) 1 10 (s.2.1 5 0)) := (((l2_fr.set ⟨rfl, by omega⟩).trans (l2_fr.set ⟨rfl, by omega⟩)).trans (l2_fr.set ⟨rfl, by omega⟩)).trans (l2_fr.setJ ⟨rfl, by omega⟩)
  have g7 : (t_setJ (t_setI (t_setI (t_setI s1 1 7 (nI 0)) 1 8 (s.1 3 0)) 1 9 (nI (tk_P B L 0))) 1 10 (s.2.1 5 0)).1 1 7 = nI 0 := c73
  have g8 : (t_setJ (t_setI (t_setI (t_setI s1 1 7 (nI 0)) 1 8 (s.1 3 0)) 1 9 (nI (tk_P B L 0))) 1 10 (s.2.1 5 0)).1 1 8 = s.1 3 0 := by
    rw [l2_jI]
    simp only [l2_g, Nat.reduceEqDiff, reduceIte]
  have g9 : (t_setJ (t_setI (t_setI (t_setI s1 1 7 (nI 0)) 1 8 (s.1 3 0)) 1 9 (nI (tk_P B L 0))) 1 10 (s.2.1 5 0)).1 1 9 = nI (tk_P B L 0) := by
    rw [l2_jI]
    simp only [l2_g, reduceIte]
  have g10 : (t_setJ (t_setI (t_setI (t_setI s1 1 7 (nI 0)) 1 8 (s.1 3 0)) 1 9 (nI (tk_P B L 0))) 1 10 (s.2.1 5 0)).2.1 1 10 = s.2.1 5 0 := by rw [l2_jJ, mj_up_eq]
  have g11 : (t_setJ (t_setI (t_setI (t_setI s1 1 7 (nI 0)) 1 8 (s.1 3 0)) 1 9 (nI (tk_P B L 0))) 1 10 (s.2.1 5 0)).1 1 11 = 0 := by
    rw [l2_jI]
    simp only [l2_g, Nat.reduceEqDiff, reduceIte]
    exact b11
  generalize t_setJ (t_setI (t_setI (t_setI s1 1 7 (nI 0)) 1 8 (s.1 3 0)) 1 9 (nI (tk_P B L 0))) 1 10 (s.2.1 5 0) = s4 at *
  have f5 : l2_fr (fun b j => b = 1 ∧ 7 ≤ j ∧ j ≤ 12) s s4 := (f1.mono (fun b j x => by omega)).trans (f4.mono (fun b j x => by unfold la_W at x; omega))
  have fin : ∀ s', l2_fr (fun b j => b = 1 ∧ 7 ≤ j ∧ j ≤ 12) s s' → (((L ≤ tk_P B L 0 ∨ tk_v B L (tk_P B L 0)) ∧ lc_A s' B L W V sl H T n 0) ∨ (tk_P B L 0 < L ∧ ¬ tk_v B L (tk_P B L 0) ∧ lc_F s' 1 (tk_P B L 0))) → ∃ n W V sl H T, W0 ≤ W ∧ W ≤ W0 + 3845 ∧ (∀ i, i < W0 → H i = H0 i ∧ T i = T0 i ∧ s'.1 6 i = s0.1 6 i ∧ s'.1 7 i = s0.1 7 i) ∧ (∀ i, W0 ≤ i → i < W → s'.1 6 i = 0 ∧ s'.1 7 i = 0) ∧ l2_fr (fun b j => (b = 1 ∧ j ≠ 1) ∨ (3 ≤ b ∧ b ≤ 11)) s0 s' ∧ wt_I s' W V sl H T ∧ sc_D B L W0 W H T n ∧ (((L ≤ tk_P B L 0 ∨ tk_v B L (tk_P B L 0)) ∧ lc_A s' B L W V sl H T n 0) ∨ (tk_P B L 0 < L ∧ ¬ tk_v B L (tk_P B L 0) ∧ lc_F s' 1 (tk_P B L 0))) := by
    intro s' f r
    refine ⟨n, W, V, sl, H, T, w2, w3, fun i hi => ?_, fun i x y => ?_, (w6.mono (fun b j x => by unfold sc_W at x; omega)).trans (f.mono (fun b j x => by omega)), w1.fr f (by omega) (fun b i _ _ => by omega), hD, r⟩
    · rw [(f 6 i (by omega)).1, (f 7 i (by omega)).1]; exact w4 i hi
    · rw [(f 6 i (by omega)).1, (f 7 i (by omega)).1]; exact w5 i x y
  rw [g8]
  have first : (tk_P B L 0 < L ∧ tk_ok B L W H T (tk_P B L 0) (s.1 3 0) (s.2.1 5 0)) ∨ (L ≤ tk_P B L 0 ∧ s.1 3 0 = 4) := by
    by_cases x : 1 < n
    · exact Or.inl ⟨(a5 0 x).1, (a5 0 x).2.1⟩
    · have x : n - 1 = 0 := by omega
      rw [x] at a6
      rcases a6 with y | y
      · exact Or.inr y
      · exact Or.inl ⟨y.1, y.2.1⟩
  refine l2_if (fun z => ?_) (fun z => ?_)
  · rcases first with ⟨p1, p2⟩ | ⟨p1, p2⟩
    · refine l2_lt (l2_lt (l2_sm (fin _ ((f5.trans (l2_fr.set ⟨rfl, by omega, by omega⟩)).trans (l2_fr.set ⟨rfl, by omega, by omega⟩)) (Or.inr ⟨p1, p2.bad.mp z, by omega, by omega, ?_, ?_, ?_⟩))))
      · simp only [l2_g, Nat.reduceEqDiff, reduceIte]
        rfl
      · simp only [l2_g, Nat.reduceEqDiff, reduceIte]
        exact g9
      · simp only [l2_g, Nat.reduceEqDiff, reduceIte]
        exact g8.trans z
    · rw [p2] at z
      exact absurd z (by decide)
  · refine l2_sm (fin _ f5 (Or.inl ⟨?_, hT1.fr f5 (by omega) (fun i => by omega), w1.fr f5 (by omega) (fun b i _ _ => by omega), ⟨a1, a2, ?_, fun j hj => ?_, fun j hj => ?_, ?_⟩, a1, g7, ?_, g9, ?_, g11, ?_⟩))
    · rcases first with ⟨p1, p2⟩ | ⟨p1, p2⟩
      · refine Or.inr ?_
        by_cases y : tk_v B L (tk_P B L 0)
        · exact y
        · exact absurd (p2.bad.mpr y) z
      · exact Or.inl p1
    · rw [(f5 1 6 (by omega)).1]; exact a3
    · rw [(f5 4 j (by omega)).1]; exact a4 j hj
    · rw [(f5 3 j (by omega)).1, (f5 5 j (by omega)).2.1]; exact a5 j hj
    · rw [(f5 3 (n - 1) (by omega)).1, (f5 5 (n - 1) (by omega)).2.1]; exact a6
    · rw [(f5 3 0 (by omega)).1]; exact g8
    · rw [(f5 5 0 (by omega)).2.1]; exact g10
    · rw [(f5 3 0 (by omega)).1]; exact z
/-- the reference's first token -/
theorem lr_begin {s : t_S} {B : Nat → Nat} {L : Nat} (hT : tx_Tr s B L) (h4 : s.1 950 4 = 0) (h2 : s.1 950 2 = 0) : t_hk (f_X13_next s) (fun s' => l2_fr rn_W s s' ∧ (((L ≤ tk_P B L 0 ∨ tk_v B L (tk_P B L 0)) ∧ lr_A s' B L 0) ∨ (tk_P B L 0 < L ∧ ¬ tk_v B L (tk_P B L 0) ∧ lr_F s' 1 (tk_P B L 0) ∧ s'.1 950 5 = 0))) := by
  refine l2_imp (rn_next (e := 0) hT (Nat.zero_le _) h4 h2) (fun s' q => ?_)
  obtain ⟨q6, qf, q⟩ := q
  have pl : tk_P B L 0 ≤ L := lx_s_le (B := B) (L := L) (L - 0) 0 false rfl (Nat.zero_le _)
  have hT' := hT.fr qf (by unfold rn_W; omega) (fun i => by unfold rn_W; omega)
  refine ⟨qf, ?_⟩
  rcases q with ⟨x1, x2, x3, x4⟩ | ⟨x1, x2, x3, x4, x5⟩ | ⟨x1, x2, x3, x4, x5⟩
  · exact Or.inl ⟨Or.inl x1, hT', x2, q6, pl, Or.inl ⟨x1, x3, x4⟩⟩
  · exact Or.inl ⟨Or.inr x2, hT', x3, q6, pl, Or.inr ⟨x1, x2, x4, x2.le x1, x5⟩⟩
  · exact Or.inr ⟨x1, x2, ⟨by omega, by omega, x3, x4⟩, x5⟩
