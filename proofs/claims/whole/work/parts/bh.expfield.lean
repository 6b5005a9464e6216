/-! Level 2: records of exps on both sides: one more field. -/
/-- a field: the reference's node m, its exp behind it -/
def fx_1 (E : en_S) (c r : t_S) (l l' p s f rr e e' t t' m m' X N : Nat) : Prop := X < 7934 ∧ m < m' ∧ r.1 955 m = 71 ∧ r.2.1 957 m = lN X ∧ r.1 959 m = nI N ∧ XR (wn_R E c r l l') (an_R E c r l l') (tn_R E c r l l') (sn_R c) c r p s f 0 0 rr e e' t t' (m + 1) m' N
/-- v fields read, their names open -/
def xg_H (P : pc_S) (E : en_S) (m0 m t e p l w o s i dd : Nat) (c0 r0 : t_S) (v : Nat) (M X : Nat → Nat) (u' q' m' t' e' p' l' s' i' : Nat) (c r : t_S) : Prop := xp P E u' 0 0 q' m' t' e' p' l' w (o + v) s' i' dd c r ∧ m ≤ m' ∧ l2_fr (xWc t e p l w o) c0 c ∧ l2_fr (rwr m0 m s) r0 r ∧ px_B v m m' M ∧ ch_R r m0 v M ∧ (∀ i j, i < j → j < v → X i ≠ X j) ∧ (∀ j, j < v → c.1 855 (o + j) = nI (66 + X j)) ∧ xD E c0 c r l l' i i' m m' ∧ ∃ Ee T N : Nat → Nat, px_B v e e' Ee ∧ px_B v t t' T ∧ ∀ j, j < v → fx_1 E c r l l' p' s' (m' - m) (20 * dd + 15) (Ee j) (Ee (j + 1)) (T j) (T (j + 1)) (M j) (M (j + 1)) (X j) (N j)
theorem fx_1.own {E : en_S} {c r c' r' : t_S} {l l' la lb p s p2 s2 f f2 rr e e' t t' m m' X N : Nat} {Wc Wr : Nat → Nat → Prop} (h : fx_1 E c r l l' p s f rr e e' t t' m m' X N) (fc : l2_fr Wc c c') (fr : l2_fr Wr r r') (hp : p ≤ p2) (hs : s ≤ s2) (hf : f ≤ f2) (hl : la ≤ l ∧ l' ≤ lb) (w1 : ∀ b j, Wc b j → ¬ ((b = 335 ∨ b = 336) ∧ e ≤ j ∧ j < e') ∧ ¬ (354 ≤ b ∧ b ≤ 362 ∧ t ≤ j ∧ j < t') ∧ ¬ (b = 337 ∧ j < p) ∧ ¬ (848 ≤ b ∧ b ≤ 852 ∧ j < l')) (w2 : ∀ b j, Wr b j → ¬ (955 ≤ b ∧ b ≤ 961 ∧ m ≤ j ∧ j < m' ∧ (b = 960 → j ≠ m)) ∧ ¬ (b = 963 ∧ j < s)) : fx_1 E c' r' la lb p2 s2 f2 rr e e' t t' m m' X N := by
  obtain ⟨h1, h3, h8, h9, h10, h11⟩ := h
  have aR : ∀ b, b = 955 ∨ b = 957 ∨ b = 959 → r'.1 b m = r.1 b m ∧ r'.2.1 b m = r.2.1 b m := fun b y => by
    have q := fr b m (fun z => (w2 b m z).1 ⟨by omega, by omega, Nat.le_refl _, h3, fun q => by omega⟩)
    exact ⟨q.1, q.2.1⟩
  obtain ⟨n1, n2, n3, n4⟩ := h11.at
  refine ⟨h1, h3, by rw [(aR 955 (by decide)).1]; exact h8, by rw [(aR 957 (by decide)).2]; exact h9, by rw [(aR 959 (by decide)).1]; exact h10, h11.own fc fr hp hs hf hl (fun b j y => ?_) (fun b j y => ?_)⟩
  · have z := w1 b j y
    exact ⟨z.1, fun q => z.2.1 ⟨q.1, q.2.1, q.2.2.1, q.2.2.2.1⟩, z.2.2.1, z.2.2.2⟩
  · have z := w2 b j y
    exact ⟨fun q => z.1 ⟨q.1, q.2.1, by omega, q.2.2.2.1, fun _ => by omega⟩, z.2⟩
section
variable {P : pc_S} {E : en_S} {m0 m t e p l w o s i dd v u' q' m' t' e' p' l' s' i' : Nat} {M X : Nat → Nat} {c0 r0 c r : t_S}
theorem xg_H.nil {u q : Nat} (Y : xp P E u 0 0 q m t e p l w o s i dd c r) (k9 : r.1 959 m0 = -1) : xg_H P E m0 m t e p l w o s i dd c r 0 (fun _ => m) (fun _ => 0) u q m t e p l s i c r := ⟨Y, Nat.le_refl _, l2_fr.rf, l2_fr.rf, ⟨rfl, rfl, fun j hj => by omega⟩, ⟨by rw [if_neg (by decide)]; exact k9, fun j hj => by omega⟩, fun i j _ hj => by omega, fun j hj => by omega, xD.nil rfl rfl, fun _ => e, fun _ => t, fun _ => 0, ⟨rfl, rfl, fun j hj => by omega⟩, ⟨rfl, rfl, fun j hj => by omega⟩, fun j hj => by omega⟩
theorem xg_H.la {u2 : Nat} {c2 r2 : t_S} (H : xg_H P E m0 m t e p l w o s i dd c0 r0 v M X u' q' m' t' e' p' l' s' i' c r) (Y : xp P E u2 0 0 q' m' t' e' p' l' w (o + v) s' i' dd c2 r2) (g : l2_fr la_W c c2) (f : l2_fr rn_W r r2) : xg_H P E m0 m t e p l w o s i dd c0 r0 v M X u2 q' m' t' e' p' l' s' i' c2 r2 := by
  obtain ⟨_, hmm, fc, fr, bM, ch, dis, hX, D, Ee, T, N, bE, bT, hj⟩ := H
  refine ⟨Y, hmm, fc.trans (g.mono (fun b j y => x_la y)), fr.trans (f.mono (fun b j y => Or.inl (x_rn y))), bM, ⟨by rw [(f 959 m0 (by unfold rn_W; omega)).1]; exact ch.1, fun j y => by rw [(f 960 _ (by unfold rn_W; omega)).1]; exact ch.2 j y⟩, dis, fun j y => by rw [(g 855 _ (by unfold la_W; omega)).1]; exact hX j y, D.own g f (fun b j y => by unfold la_W at y; omega) (fun b j y => by unfold rn_W at y; omega), Ee, T, N, bE, bT, fun j y => (hj j y).own g f (Nat.le_refl _) (Nat.le_refl _) (Nat.le_refl _) ⟨Nat.le_refl _, Nat.le_refl _⟩ (fun b k z => ?_) (fun b k z => ?_)⟩
  · unfold la_W at z; omega
  · unfold rn_W at z; omega
theorem xg_add {u2 n x pl : Nat} {c3 r3 c4 r4 : t_S} (hm : m0 < m) (ht : t ≤ t') (hs : s ≤ s') (he : e ≤ e') (hp : p ≤ p') (hl : l ≤ l') (hi : i ≤ i') (hv : v < 1000) (H : xg_H P E m0 m t e p l w o s i dd c0 r0 v M X u' q' m' t' e' p' l' s' i' c r) (hx : x < 7934) (hne : ∀ j, j < v → X j ≠ x) (hpl : pl ≤ 12000)
    (gA : l2_fr (fun b j => la_W b j ∨ (b = 845 ∧ (j = 9 ∨ j = 10)) ∨ (b = 846 ∧ (j = 7 ∨ j = 8)) ∨ (b = 855 ∧ j = o + v)) c c3) (rA : l2_fr (fun b j => rn_W b j ∨ nm_W b j ∨ xn_W m' b j ∨ (b = 1003 ∧ j = m') ∨ (b = 959 ∧ j = m0 ∧ v = 0) ∨ (b = 960 ∧ 0 < v ∧ j = M (v - 1))) r r3)
    (c5 : c3.1 855 (o + v) = nI (66 + x)) (r55 : r3.1 955 m' = 71) (r57 : r3.2.1 957 m' = lN x) (r53 : r3.1 1003 m' = nI pl) (r59 : r3.1 959 m' = -1) (ch3 : ch_R r3 m0 (v + 1) (va_up M v m')) (hL : ∀ S, lt_R c S → lt_R c3 (fun p => S p ∨ (E.2.2.2.2.1 ≤ 66 + x ∧ p = pl)))
    (G : xG P E 0 0 (20 * dd + 15) u2 (q' + 1) (m' + 1) t' e' p' l' w (o + v + 1) s' i' dd c3 r3 n c4 r4) : t_hk (f_X13_hang (nI m') (nI n) r4) (fun r5 => ∃ u5 q5 m5 t5 e5 p5 l5 s5 i5, xk P u2 (q' + 1) t' e' p' l' s' i' u5 q5 t5 e5 p5 l5 s5 i5 ∧ m' + 1 < m5 ∧ xg_H P E m0 m t e p l w o s i dd c0 r0 (v + 1) (va_up M (v + 1) m5) (va_up X v x) u5 q5 m5 t5 e5 p5 l5 s5 i5 c4 r5) := by
  obtain ⟨u5, q5, m5, t5, e5, p5, l5, s5, i5, G1, G2, X4, G3, G4, G5, G6, G7, _⟩ := G
  obtain ⟨X0, hmm, fc, fr, bM, ch, dis, hX, D, Ee, T, N, bE, bT, hj⟩ := H
  have k1 := G1
  unfold xk at k1
  obtain ⟨n1, n2, n3, n4⟩ := G5.at
  obtain ⟨ml, _, _, _⟩ := X4.1.mle (by decide)
  have Mv : M v = m' := bM.2.1
  have Mj : ∀ j, j < v → m ≤ M j ∧ M j < M (j + 1) ∧ M (j + 1) ≤ m' := fun j y => by
    have a := bM.in y
    have b := (hj j y).2.1
    omega
  have MM := bM.mono
  have ch4 : ch_R r4 m' 0 (fun _ => 0) := ⟨by rw [(G4 959 m' (by unfold xWr; omega)).1, r59, if_neg (by decide)], fun j hj => by omega⟩
  refine l2_imp (ch_hang ch4 (by omega) (by decide) (by omega) X4.1.f0.2 G7 (fun j hj => by omega)) (fun r5 hr => ?_)
  obtain ⟨⟨c9, _⟩, f5⟩ := hr
  have c9 : r5.1 959 m' = nI n := by
    rw [c9, if_pos (by decide)]
    rw [show va_up (fun _ => 0) 0 n 0 = n from mj_up_eq _ _ _]
  have f5 : l2_fr (fun b j => b = 959 ∧ j = m') r4 r5 := f5.mono (fun b j y => by omega)
  have nf : l2_fr (fun _ _ => False) c4 c4 := l2_fr.rf
  refine ⟨u5, q5, m5, t5, e5, p5, l5, s5, i5, G1, G2, ?_⟩
  have r35 : l2_fr (fun b j => xWr (m' + 1) s' b j ∨ (b = 959 ∧ j = m')) r3 r5 := (G4.mono (fun b j y => Or.inl y)).trans (f5.mono (fun b j y => Or.inr y))
  have fcc : l2_fr (xWc t' e' p' l' w (o + v)) c c4 := (gA.mono (fun b j y => by
    rcases y with y | ⟨rfl, y⟩ | ⟨rfl, y⟩ | ⟨rfl, rfl⟩
    · exact x_la y
    · exact xWc.i845 (by omega)
    · exact xWc.i846 (by omega)
    · exact xWc.inm (Nat.le_refl _))).trans (G3.mono (fun b j y => y.sub (Nat.le_refl _) (Nat.le_refl _) (Nat.le_refl _) (Nat.le_refl _) (Nat.le_refl _) (by omega)))
  have frr : l2_fr (fun b j => xWr m' s' b j ∨ (b = 959 ∧ j = m0 ∧ v = 0) ∨ (b = 960 ∧ 0 < v ∧ j = M (v - 1))) r r5 := (rA.mono (fun b j y => by
    rcases y with y | y | y | ⟨rfl, rfl⟩ | y | y
    · exact Or.inl (x_rn y)
    · exact Or.inl (x_nm y)
    · exact Or.inl (xn_r y)
    · exact Or.inl (Or.inr (Or.inr (Or.inr (Or.inr ⟨rfl, Nat.le_refl _⟩))))
    · exact Or.inr (Or.inl y)
    · exact Or.inr (Or.inr y))).trans (r35.mono (fun b j y => by
    rcases y with y | ⟨rfl, rfl⟩
    · exact Or.inl (y.sub (by omega) (Nat.le_refl _))
    · exact Or.inl (Or.inr (Or.inr (Or.inl ⟨by decide, by decide, Nat.le_refl _⟩)))))
  have Ml : 0 < v → m ≤ M (v - 1) ∧ M (v - 1) < m' := fun y => by
    have := Mj (v - 1) (by omega)
    omega
  have ch5 : ch_R r5 m0 (v + 1) (va_up M (v + 1) m5) := by
    have c3' : ch_R r3 m0 (v + 1) (va_up M (v + 1) m5) := ch3.cg (fun j y => by
      rw [mj_up_ne (j := j) M m5 (by omega)]
      by_cases z : j = v
      · subst z; rw [mj_up_eq, Mv]
      · rw [mj_up_ne (j := j) M m' z])
    have lo : ∀ j, j < v + 1 → va_up M (v + 1) m5 j ≤ m' := fun j y => by
      rw [mj_up_ne (j := j) M m5 (by omega), ← Mv]
      exact MM j v (by omega) (Nat.le_refl _)
    have mb := MM 0 v (Nat.zero_le _) (Nat.le_refl _)
    have mb2 := bM.1
    refine ⟨by rw [(r35 959 m0 (by unfold xWr; omega)).1]; exact c3'.1, fun j y => ?_⟩
    have := lo j y
    rw [(r35 960 _ (by unfold xWr; omega)).1]
    exact c3'.2 j y
  have D1 : xD E c c3 r3 l' l' i' i' m' (m' + 1) := xD.mk1 (K := 71) (T := fun p => E.2.2.2.2.1 ≤ 66 + x ∧ p = pl) r55 (by decide) ⟨71, by decide, by decide, r55, fun z => absurd z (by decide), fun z => absurd z (by decide), fun z => by omega, fun z => absurd z (by decide)⟩ (fun a y1 y2 => by omega) (lt_N.name r55 (by decide) r53 r57 hx hpl) hL (fun z => by omega)
  have D2 : xD E c0 c3 r3 l l' i i' m (m' + 1) := D.trans D1 ⟨hl, Nat.le_refl _⟩ ⟨hi, Nat.le_refl _⟩ ⟨hmm, by omega⟩ (fun b a y1 y2 y3 => (gA b a (by unfold la_W; omega)).1) (fun k y1 y2 => by
    have q1 : ∀ b, (955 ≤ b ∧ b ≤ 958) ∨ b = 961 ∨ b = 962 ∨ b = 1003 → r3.1 b k = r.1 b k ∧ r3.2.1 b k = r.2.1 b k := fun b z => by
      have q := rA b k (by unfold rn_W nm_W xn_W; omega)
      exact ⟨q.1, q.2.1⟩
    exact ⟨(q1 955 (by decide)).1, (q1 956 (by decide)).1, (q1 962 (by decide)).1, (q1 1003 (by decide)).1, (q1 957 (by decide)).2, (q1 958 (by decide)).2, fun _ => (q1 961 (by decide)).1⟩)
  have D3 : xD E c0 c4 r4 l l5 i i5 m m5 := D2.trans G6 ⟨hl, by omega⟩ ⟨by omega, by omega⟩ ⟨by omega, by omega⟩ (fun b a y1 y2 y3 => (G3 b a (by unfold xWc; omega)).1) (fun k y1 y2 => by
    have q1 : ∀ b, (955 ≤ b ∧ b ≤ 962) ∨ b = 1003 → r4.1 b k = r3.1 b k ∧ r4.2.1 b k = r3.2.1 b k := fun b z => by
      have q := G4 b k (by unfold xWr; omega)
      exact ⟨q.1, q.2.1⟩
    exact ⟨(q1 955 (by decide)).1, (q1 956 (by decide)).1, (q1 962 (by decide)).1, (q1 1003 (by decide)).1, (q1 957 (by decide)).2, (q1 958 (by decide)).2, fun _ => (q1 961 (by decide)).1⟩)
  refine ⟨X4.own nf f5 (fun b j y => y.elim) (fun b j y => by omega), by omega, fc.trans (fcc.mono (fun b j y => y.sub ht he hp hl (Nat.le_refl _) (by omega))), fr.trans (frr.mono (fun b j y => ?_)), bM.snoc (by omega), ch5, fun a b y1 y2 => ?_, fun j y => ?_, D3.own nf f5 (fun b j y => y.elim) (fun b j y => by omega), va_up Ee (v + 1) e5, va_up T (v + 1) t5, va_up N v n, bE.snoc n1, bT.snoc n2, fun j y => ?_⟩
  · rcases y with y | ⟨rfl, rfl, _⟩ | ⟨rfl, y, rfl⟩
    · exact Or.inl (y.sub hmm hs)
    · exact Or.inr ⟨rfl, rfl⟩
    · exact Or.inl (Or.inr (Or.inr (Or.inl ⟨by decide, by decide, (Ml y).1⟩)))
  · rw [mj_up_ne (j := a) X x (by omega)]
    by_cases z : b = v
    · subst z
      rw [mj_up_eq]
      exact hne a y1
    · rw [mj_up_ne (j := b) X x z]
      exact dis a b y1 (by omega)
  · rw [(G3 855 (o + j) (by unfold xWc; omega)).1]
    by_cases z : j = v
    · subst z
      rw [mj_up_eq]
      exact c5
    · rw [mj_up_ne (j := j) X x z, (gA 855 (o + j) (by unfold la_W; omega)).1]
      exact hX j (by omega)
  · rw [mj_up_ne (j := j) Ee _ (by omega), mj_up_ne (j := j) T _ (by omega), mj_up_ne (j := j) M _ (by omega)]
    by_cases z : j = v
    · subst z
      rw [mj_up_eq, mj_up_eq, mj_up_eq, mj_up_eq, mj_up_eq, bE.2.1, bT.2.1, Mv]
      refine ⟨hx, by omega, ?_, ?_, c9, G5.own nf f5 (Nat.le_refl _) (Nat.le_refl _) (by omega) ⟨hl, Nat.le_refl _⟩ (fun b k y => y.elim) (fun b k y => by omega)⟩
      · rw [(r35 955 m' (by unfold xWr; omega)).1]; exact r55
      · rw [(r35 957 m' (by unfold xWr; omega)).2.1]; exact r57
    · rw [mj_up_ne (j := j + 1) Ee _ (by omega), mj_up_ne (j := j + 1) T _ (by omega), mj_up_ne (j := j + 1) M _ (by omega), mj_up_ne (j := j) X _ (by omega), mj_up_ne (j := j) N _ (by omega)]
      have a := bT.in (j := j) (by omega)
      have b := Mj j (by omega)
      have d := bE.in (j := j) (by omega)
      refine (hj j (by omega)).own fcc frr (by omega) (by omega) (by omega) ⟨Nat.le_refl _, by omega⟩ (fun b k y => ?_) (fun b k y => ?_)
      · unfold xWc at y
        omega
      · rcases y with y | y | ⟨rfl, y1, rfl⟩
        · unfold xWr at y
          omega
        · omega
        · refine ⟨fun ⟨_, _, y4, y5, y6⟩ => ?_, by omega⟩
          have y6 := y6 rfl
          by_cases z2 : j = v - 1
          · subst z2; exact y6 rfl
          · have := MM (j + 1) (v - 1) (by omega) (by omega)
            omega
end
