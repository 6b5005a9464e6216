/-! Level 2: records of templs on both sides: one more field, whole. -/
theorem ch_R.cg {r : t_S} {m0 v : Nat} {G H : Nat → Nat} (h : ch_R r m0 v G) (e : ∀ j, j < v → H j = G j) : ch_R r m0 v H := by
  obtain ⟨h1, h2⟩ := h
  refine ⟨?_, fun j hj => ?_⟩
  · by_cases z : 0 < v
    · rw [if_pos z] at h1 ⊢
      rw [e 0 z]; exact h1
    · rw [if_neg z] at h1 ⊢
      exact h1
  · obtain ⟨a1, a2, a3, a4⟩ := h2 j hj
    rw [e j hj]
    refine ⟨a1, a2, ?_, fun y => ?_⟩
    · by_cases z : j + 1 < v
      · rw [if_pos z] at a3 ⊢
        rw [e (j + 1) z]; exact a3
      · rw [if_neg z] at a3 ⊢
        exact a3
    · rw [e (j + 1) y]; exact a4 y
section
variable {P : pc_S} {E : en_S} {lv : Int32} {t0 m0 m t e p l w o s i dd v u' q' m' t' e' p' l' s' i' : Nat} {T M X : Nat → Nat} {c0 r0 c r : t_S}
theorem fd_add {u2 n x : Nat} {c3 r3 c4 r4 : t_S} (ht : t0 < t) (hm : m0 < m) (hs : s ≤ s') (he : e ≤ e') (hp : p ≤ p') (hl : l ≤ l') (hi : i ≤ i') (hv : v < 1000) (H : fd_H P E lv t0 m0 m t e p l w o s i dd c0 r0 v T M X u' q' m' t' e' p' l' s' i' c r) (hx : x < 7934) (hne : ∀ j, j < v → X j ≠ x)
    (gA : l2_fr (fun b j => la_W b j ∨ (b = 845 ∧ j = 10) ∨ tm_W t' b j ∨ (b = 355 ∧ j = t0 ∧ v = 0) ∨ (b = 356 ∧ 0 < v ∧ j = T (v - 1))) c c3) (rA : l2_fr (fun b j => rn_W b j ∨ nm_W b j ∨ xn_W m' b j ∨ (b = 1003 ∧ j = m') ∨ (b = 959 ∧ j = m0 ∧ v = 0) ∨ (b = 960 ∧ 0 < v ∧ j = M (v - 1))) r r3)
    (c54 : c3.1 354 t' = 19) (c57 : c3.1 357 t' = nI (66 + x)) (c58 : c3.1 358 t' = -1000) (c56 : c3.1 356 t' = -1) (gv : (v = 0 → c3.1 355 t0 = nI t') ∧ (0 < v → c3.1 356 (T (v - 1)) = nI t')) (r55 : r3.1 955 m' = 40) (r57 : r3.2.1 957 m' = lN x) (r59 : r3.1 959 m' = -1) (r62 : r3.1 962 m' = nI i') (ch3 : ch_R r3 m0 (v + 1) (va_up M v m'))
    (G : xG P E 1 (lv + 1) (20 * dd + 15) u2 (q' + 1) (m' + 1) (t' + 1) e' p' l' w o s' (i' + 1) dd c3 r3 n c4 r4) : t_hk (f_X13_hang (nI m') (nI n) r4) (fun r5 => ∃ u5 q5 m5 t5 e5 p5 l5 s5 i5, xk P u2 (q' + 1) (t' + 1) e' p' l' s' (i' + 1) u5 q5 t5 e5 p5 l5 s5 i5 ∧ m' + 1 < m5 ∧ fd_H P E lv t0 m0 m t e p l w o s i dd c0 r0 (v + 1) (va_up T (v + 1) t5) (va_up M (v + 1) m5) (va_up X v x) u5 q5 m5 t5 e5 p5 l5 s5 i5 (t_setI c4 355 t' (nI (t' + 1))) r5) := by
  obtain ⟨u5, q5, m5, t5, e5, p5, l5, s5, i5, G1, G2, X4, G3, G4, G5, G6, G7, G8⟩ := G
  obtain ⟨X0, hmm, fc, fr, bT, bM, tc, ch, dis, D, Ee, N, bE, hj⟩ := H
  have k1 := G1
  unfold xk at k1
  obtain ⟨n1, n2, n3, n4⟩ := G5.at
  obtain ⟨ml, _, _, _⟩ := X4.1.mle (by decide)
  have Tv : T v = t' := bT.2.1
  have Mv : M v = m' := bM.2.1
  have tt : t ≤ t' := by
    have := bT.mono 0 v (Nat.zero_le _) (Nat.le_refl _)
    have := bT.1
    omega
  have tj : ∀ j, j < v → t ≤ T j ∧ T j < T (j + 1) ∧ T (j + 1) ≤ t' := fun j y => by
    have a := bT.in y
    have b := (hj j y).2.1
    omega
  have Mj : ∀ j, j < v → m ≤ M j ∧ M j < M (j + 1) ∧ M (j + 1) ≤ m' := fun j y => by
    have a := bM.in y
    have b := (hj j y).2.2.1
    omega
  have Tm := bT.mono
  have MM := bM.mono
  have ch4 : ch_R r4 m' 0 (fun _ => 0) := ⟨by rw [(G4 959 m' (by unfold xWr; omega)).1, r59, if_neg (by decide)], fun j hj => by omega⟩
  refine l2_imp (ch_hang ch4 (by omega) (by decide) (by omega) X4.1.f0.2 G7 (fun j hj => by omega)) (fun r5 hr => ?_)
  obtain ⟨⟨c9, _⟩, f5⟩ := hr
  have c9 : r5.1 959 m' = nI n := by
    rw [c9, if_pos (by decide)]
    rw [show va_up (fun _ => 0) 0 n 0 = n from mj_up_eq _ _ _]
  have f5 : l2_fr (fun b j => b = 959 ∧ j = m') r4 r5 := f5.mono (fun b j y => by omega)
  have g5 : l2_fr (fun b j => b = 355 ∧ j = t') c4 (t_setI c4 355 t' (nI (t' + 1))) := l2_fr.set ⟨rfl, rfl⟩
  have v5 : (t_setI c4 355 t' (nI (t' + 1))).1 355 t' = nI (t' + 1) := by simp only [l2_gI, reduceIte]
  generalize t_setI c4 355 t' (nI (t' + 1)) = c5 at *
  refine ⟨u5, q5, m5, t5, e5, p5, l5, s5, i5, G1, G2, ?_⟩
  have g35 : l2_fr (fun b j => xWc (t' + 1) e' p' l' w o b j ∨ (b = 355 ∧ j = t')) c3 c5 := (G3.mono (fun b j y => Or.inl y)).trans (g5.mono (fun b j y => Or.inr y))
  have r35 : l2_fr (fun b j => xWr (m' + 1) s' b j ∨ (b = 959 ∧ j = m')) r3 r5 := (G4.mono (fun b j y => Or.inl y)).trans (f5.mono (fun b j y => Or.inr y))
  have fcc : l2_fr (fun b j => xWc t' e' p' l' w o b j ∨ (b = 355 ∧ j = t0 ∧ v = 0) ∨ (b = 356 ∧ 0 < v ∧ j = T (v - 1))) c c5 := (gA.mono (fun b j y => by
    rcases y with y | ⟨rfl, rfl⟩ | y | y | y
    · exact Or.inl (x_la y)
    · exact Or.inl (xWc.i845 (by decide))
    · exact Or.inl (sG.w (Or.inr y))
    · exact Or.inr (Or.inl y)
    · exact Or.inr (Or.inr y))).trans (g35.mono (fun b j y => by
    rcases y with y | ⟨rfl, rfl⟩
    · exact Or.inl (y.sub (by omega) (Nat.le_refl _) (Nat.le_refl _) (Nat.le_refl _) (Nat.le_refl _) (Nat.le_refl _))
    · exact Or.inl (xWc.itm (by decide) (by decide) (Nat.le_refl _))))
  have frr : l2_fr (fun b j => xWr m' s' b j ∨ (b = 959 ∧ j = m0 ∧ v = 0) ∨ (b = 960 ∧ 0 < v ∧ j = M (v - 1))) r r5 := (rA.mono (fun b j y => by
    rcases y with y | y | y | ⟨rfl, rfl⟩ | y | y
    · exact Or.inl (x_rn y)
    · exact Or.inl (x_nm y)
    · exact Or.inl (xn_r y)
    · exact Or.inl (Or.inr (Or.inr (Or.inr (Or.inr ⟨rfl, Nat.le_refl _⟩))))
    · exact Or.inr (Or.inl y)
    · exact Or.inr (Or.inr y))).trans (r35.mono (fun b j y => by
    rcases y with y | ⟨rfl, rfl⟩
    · exact Or.inl (y.sub (by omega) (Nat.le_refl _))
    · exact Or.inl (Or.inr (Or.inr (Or.inl ⟨by decide, by decide, Nat.le_refl _⟩)))))
  have Tl : 0 < v → t ≤ T (v - 1) ∧ T (v - 1) < t' := fun y => by
    have := tj (v - 1) (by omega)
    have := Tm (v - 1 + 1) v (by omega) (by omega)
    omega
  have Ml : 0 < v → m ≤ M (v - 1) ∧ M (v - 1) < m' := fun y => by
    have := Mj (v - 1) (by omega)
    omega
  have ch5 : ch_R r5 m0 (v + 1) (va_up M (v + 1) m5) := by
    have c3' : ch_R r3 m0 (v + 1) (va_up M (v + 1) m5) := ch3.cg (fun j y => by
      rw [mj_up_ne (j := j) M m5 (by omega)]
      by_cases z : j = v
      · subst z; rw [mj_up_eq, Mv]
      · rw [mj_up_ne (j := j) M m' z])
    have lo : ∀ j, j < v + 1 → va_up M (v + 1) m5 j ≤ m' := fun j y => by
      rw [mj_up_ne (j := j) M m5 (by omega), ← Mv]
      exact MM j v (by omega) (Nat.le_refl _)
    have mb := MM 0 v (Nat.zero_le _) (Nat.le_refl _)
    have mb2 := bM.1
    refine ⟨by rw [(r35 959 m0 (by unfold xWr; omega)).1]; exact c3'.1, fun j y => ?_⟩
    have := lo j y
    rw [(r35 960 _ (by unfold xWr; omega)).1]
    exact c3'.2 j y
  have e7 : c3.1 846 7 = c.1 846 7 := (gA 846 7 (by unfold la_W tm_W; omega)).1
  have e8 : c3.1 846 8 = c.1 846 8 := (gA 846 8 (by unfold la_W tm_W; omega)).1
  have D1 : xD E c c3 r3 l' l' i' (i' + 1) m' (m' + 1) := xD.plain (K := 40) r55 (by decide) (by decide) e7 e8 (fun _ => ⟨r62, by omega⟩)
  have D2 : xD E c0 c3 r3 l l' i (i' + 1) m (m' + 1) := D.trans D1 ⟨hl, Nat.le_refl _⟩ ⟨hi, by omega⟩ ⟨hmm, by omega⟩ (fun b a y1 y2 y3 => (gA b a (by unfold la_W tm_W; omega)).1) (fun k y1 y2 => by
    have q1 : ∀ b, (955 ≤ b ∧ b ≤ 958) ∨ b = 961 ∨ b = 962 ∨ b = 1003 → r3.1 b k = r.1 b k ∧ r3.2.1 b k = r.2.1 b k := fun b z => by
      have q := rA b k (by unfold rn_W nm_W xn_W; omega)
      exact ⟨q.1, q.2.1⟩
    exact ⟨(q1 955 (by decide)).1, (q1 956 (by decide)).1, (q1 962 (by decide)).1, (q1 1003 (by decide)).1, (q1 957 (by decide)).2, (q1 958 (by decide)).2, fun _ => (q1 961 (by decide)).1⟩)
  have D3 : xD E c0 c4 r4 l l5 i i5 m m5 := D2.trans G6 ⟨hl, by omega⟩ ⟨by omega, by omega⟩ ⟨by omega, by omega⟩ (fun b a y1 y2 y3 => (G3 b a (by unfold xWc; omega)).1) (fun k y1 y2 => by
    have q1 : ∀ b, (955 ≤ b ∧ b ≤ 962) ∨ b = 1003 → r4.1 b k = r3.1 b k ∧ r4.2.1 b k = r3.2.1 b k := fun b z => by
      have q := G4 b k (by unfold xWr; omega)
      exact ⟨q.1, q.2.1⟩
    exact ⟨(q1 955 (by decide)).1, (q1 956 (by decide)).1, (q1 962 (by decide)).1, (q1 1003 (by decide)).1, (q1 957 (by decide)).2, (q1 958 (by decide)).2, fun _ => (q1 961 (by decide)).1⟩)
  refine ⟨X4.own g5 f5 (fun b j y => by omega) (fun b j y => by omega), by omega, fc.trans (fcc.mono (fun b j y => ?_)), fr.trans (frr.mono (fun b j y => ?_)), bT.snoc (by omega), bM.snoc (by omega), ⟨?_, fun j y => ?_⟩, ch5, fun a b y1 y2 => ?_, D3.own g5 f5 (fun b j y => by omega) (fun b j y => by omega), va_up Ee (v + 1) e5, va_up N v n, bE.snoc n1, fun j y => ?_⟩
  · rcases y with y | ⟨rfl, rfl, _⟩ | ⟨rfl, y, rfl⟩
    · exact Or.inl (y.sub tt he hp hl (Nat.le_refl _) (Nat.le_refl _))
    · exact Or.inr ⟨rfl, rfl⟩
    · exact Or.inl (xWc.itm (by decide) (by decide) (Tl y).1)
  · rcases y with y | ⟨rfl, rfl, _⟩ | ⟨rfl, y, rfl⟩
    · exact Or.inl (y.sub hmm hs)
    · exact Or.inr ⟨rfl, rfl⟩
    · exact Or.inl (Or.inr (Or.inr (Or.inl ⟨by decide, by decide, (Ml y).1⟩)))
  · rw [if_pos (by omega), mj_up_ne _ _ (by omega), (g35 355 t0 (by unfold xWc; omega)).1]
    by_cases z : v = 0
    · rw [gv.1 z]
      subst z
      rw [Tv]
    · rw [(gA 355 t0 (by unfold la_W tm_W; omega)).1, tc.1, if_pos (by omega)]
  · rw [mj_up_ne (j := j) _ _ (by omega)]
    by_cases z : j = v
    · subst z
      rw [if_neg (by omega), Tv, (g35 356 t' (by unfold xWc; omega)).1]
      exact c56
    · rw [if_pos (by omega), mj_up_ne (j := j + 1) _ _ (by omega)]
      have a := tj j (by omega)
      rw [(g35 356 (T j) (by unfold xWc; omega)).1]
      by_cases z2 : j = v - 1
      · subst z2
        rw [gv.2 (by omega), show v - 1 + 1 = v by omega, Tv]
      · have b := tj (v - 1) (by omega)
        have d := Tm (j + 1) (v - 1) (by omega) (by omega)
        rw [(gA 356 (T j) (by unfold la_W tm_W; omega)).1, tc.2 j (by omega), if_pos (by omega)]
  · rw [mj_up_ne (j := a) X x (by omega)]
    by_cases z : b = v
    · subst z
      rw [mj_up_eq]
      exact hne a y1
    · rw [mj_up_ne (j := b) X x z]
      exact dis a b y1 (by omega)
  · rw [mj_up_ne (j := j) Ee _ (by omega), mj_up_ne (j := j) T _ (by omega), mj_up_ne (j := j) M _ (by omega)]
    by_cases z : j = v
    · subst z
      rw [mj_up_eq, mj_up_eq, mj_up_eq, mj_up_eq, mj_up_eq, bE.2.1, Tv, Mv]
      refine ⟨hx, by omega, by omega, ?_, ?_, ?_, v5, ?_, ?_, c9, by rw [(f5 960 n (by omega)).1]; exact G7, G5.own g5 f5 (Nat.le_refl _) (Nat.le_refl _) (by omega) ⟨hl, Nat.le_refl _⟩ (fun b k y => by omega) (fun b k y => by omega)⟩
      · rw [(g35 354 t' (by unfold xWc; omega)).1]; exact c54
      · rw [(g35 357 t' (by unfold xWc; omega)).1]; exact c57
      · rw [(g35 358 t' (by unfold xWc; omega)).1]; exact c58
      · rw [(r35 955 m' (by unfold xWr; omega)).1]; exact r55
      · rw [(r35 957 m' (by unfold xWr; omega)).2.1]; exact r57
    · rw [mj_up_ne (j := j + 1) Ee _ (by omega), mj_up_ne (j := j + 1) T _ (by omega), mj_up_ne (j := j + 1) M _ (by omega), mj_up_ne (j := j) X _ (by omega), mj_up_ne (j := j) N _ (by omega)]
      have a := tj j (by omega)
      have b := Mj j (by omega)
      have d := bE.in (j := j) (by omega)
      refine (hj j (by omega)).own fcc frr (by omega) (by omega) (by omega) ⟨Nat.le_refl _, by omega⟩ (fun b k y => ?_) (fun b k y => ?_)
      · rcases y with y | y | ⟨rfl, y1, rfl⟩
        · unfold xWc at y
          omega
        · omega
        · refine ⟨by omega, fun ⟨_, _, y4, y5, y6⟩ => ?_, by omega, by omega⟩
          have y6 := y6 rfl
          by_cases z2 : j = v - 1
          · subst z2; exact y6 rfl
          · have := Tm (j + 1) (v - 1) (by omega) (by omega)
            omega
      · rcases y with y | y | ⟨rfl, y1, rfl⟩
        · unfold xWr at y
          omega
        · omega
        · refine ⟨fun ⟨_, _, y4, y5, y6⟩ => ?_, by omega⟩
          have y6 := y6 rfl
          by_cases z2 : j = v - 1
          · subst z2; exact y6 rfl
          · have := MM (j + 1) (v - 1) (by omega) (by omega)
            omega
end
