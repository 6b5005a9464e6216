/-! Level 2: rows of templs on both sides: one more part. -/
/-- how the numbers have grown at the head of a turn -/
def rk (P : pc_S) (u q t e p l s i u' q' t' e' p' l' s' i' : Nat) : Prop := u ≤ u' ∧ q ≤ q' ∧ t ≤ t' ∧ t' + q ≤ t + q' ∧ e ≤ e' ∧ 2 * e' + 3 * q ≤ 2 * e + 3 * q' ∧ p ≤ p' ∧ 2 * p' + pc_p P u ≤ 2 * p + pc_p P u' ∧ l ≤ l' ∧ l' + pc_c P u ≤ l + pc_c P u' ∧ s ≤ s' ∧ s' + pc_p P u ≤ s + pc_p P u' ∧ i ≤ i' ∧ 7 * i' + 6 * q + pc_p P u ≤ 7 * i + 6 * q' + pc_p P u' ∧ pc_p P u ≤ pc_p P u' ∧ pc_c P u ≤ pc_c P u'
theorem rk.nil {P : pc_S} {u q t e p l s i : Nat} : rk P u q t e p l s i u q t e p l s i := by
  unfold rk
  omega
theorem rk.then {P : pc_S} {u q t e p l s i u' q' t' e' p' l' s' i' u2 q2 t2 e2 p2 l2 s2 i2 : Nat} (h : rk P u q t e p l s i u' q' t' e' p' l' s' i') (g : xk P u' q' t' e' p' l' s' i' u2 q2 t2 e2 p2 l2 s2 i2) : xk P u q t e p l s i u2 q2 t2 e2 p2 l2 s2 i2 := by
  unfold rk at h
  unfold xk at *
  omega
theorem xk.head {P : pc_S} {u q t e p l s i u' q' t' e' p' l' s' i' : Nat} (h : xk P u q t e p l s i u' q' t' e' p' l' s' i') (g : pc_p P u' < pc_p P (u' + 1)) (k : pc_c P u' ≤ pc_c P (u' + 1)) : rk P u q t e p l s i (u' + 1) q' t' e' p' l' s' i' := by
  unfold xk at h
  unfold rk
  omega
theorem rk.bnd {P : pc_S} {EB PB IB u q t e p l w o s i dd u' q' t' e' p' l' s' i' : Nat} (hb : xb P EB PB IB u q t e p l w o s i dd) (h : rk P u q t e p l s i u' q' t' e' p' l' s' i') : xb P EB PB IB u' q' t' e' p' l' w o s' i' dd := by
  unfold rk at h
  unfold xb at *
  omega
theorem px_B.snoc {v a b b' : Nat} {E : Nat → Nat} (h : px_B v a b E) (hb : b ≤ b') : px_B (v + 1) a b' (va_up E (v + 1) b') := by
  obtain ⟨h1, h2, h3⟩ := h
  have ab : a ≤ b := by
    by_cases z : v = 0
    · subst z; omega
    · have := h3 (v - 1) (by omega)
      omega
  refine ⟨by rw [mj_up_ne _ _ (by omega)]; exact h1, mj_up_eq _ _ _, fun j hj => ?_⟩
  rw [mj_up_ne (j := j) _ _ (by omega)]
  by_cases z : j = v
  · subst z
    rw [mj_up_eq]
    omega
  · have := h3 j (by omega)
    rw [mj_up_ne (j := j + 1) _ _ (by omega)]
    omega
theorem px_B.mono {v a b : Nat} {E : Nat → Nat} (h : px_B v a b E) : ∀ i j, i ≤ j → j ≤ v → E i ≤ E j := by
  intro i j hij hj
  induction j with
  | zero => rw [show i = 0 by omega]; exact Nat.le_refl _
  | succ j ih =>
    by_cases z : i = j + 1
    · rw [z]; exact Nat.le_refl _
    · exact Nat.le_trans (ih (by omega) (by omega)) (h.2.2 j (by omega)).1
def rwc (t0 t e p l w o b j : Nat) : Prop := xWc t e p l w o b j ∨ (b = 355 ∧ j = t0)
def rwr (m0 m s b j : Nat) : Prop := xWr m s b j ∨ (b = 959 ∧ j = m0)
/-- v parts read -/
def rw_H (P : pc_S) (E : en_S) (lv : Int32) (pm : Prop) (t0 m0 m t e p l w o s i dd : Nat) (c0 r0 : t_S) (v : Nat) (T : Nat → Nat) (u' q' m' t' e' p' l' s' i' : Nat) (c r : t_S) : Prop := xp P E u' 0 0 q' m' t' e' p' l' w o s' i' dd c r ∧ m ≤ m' ∧ l2_fr (rwc t0 t e p l w o) c0 c ∧ l2_fr (rwr m0 m s) r0 r ∧ px_B v t t' T ∧ tc_R c t0 v T ∧ xD E c0 c r l l' i i' m m' ∧ ∃ Ee M G W : Nat → Nat, px_B v e e' Ee ∧ px_B v m m' M ∧ ch_R r m0 v G ∧ ∀ j, j < v → (W j = 1 ∨ W j = 2 ∧ pm) ∧ XR (wn_R E c r l l') (an_R E c r l l') (tn_R E c r l l') (sn_R c) c r p' s' (m' - m) (W j) (lv + 1) (20 * dd + 15) (Ee j) (Ee (j + 1)) (T j) (T (j + 1)) (M j) (M (j + 1)) (G j)
section
variable {P : pc_S} {E : en_S} {lv : Int32} {pm : Prop} {t0 m0 m t e p l w o s i dd v u' q' m' t' e' p' l' s' i' : Nat} {T : Nat → Nat} {c0 r0 c r : t_S}
/-- one more -/
theorem rw_add {fl n : Nat} {c1 r1 c2 : t_S} (ht : t0 < t) (hm : m0 < m) (hs : s ≤ s') (he : e ≤ e') (hp : p ≤ p') (hl : l ≤ l') (hi : i ≤ i') (hv : v < 1000) (H : rw_H P E lv pm t0 m0 m t e p l w o s i dd c0 r0 v T u' q' m' t' e' p' l' s' i' c r) (hfl : fl = 1 ∨ fl = 2 ∧ pm) (G : xG P E fl (lv + 1) (20 * dd + 15) u' q' m' t' e' p' l' w o s' i' dd c r n c1 r1) (g : l2_fr (fun b j => (b = 355 ∧ j = t0 ∧ v = 0) ∨ (b = 356 ∧ 0 < v ∧ j = T (v - 1))) c1 c2) (gv : (v = 0 → c2.1 355 t0 = nI t') ∧ (0 < v → c2.1 356 (T (v - 1)) = nI t')) : t_hk (f_X13_hang (nI m0) (nI n) r1) (fun r2 => ∃ u2 q2 m2 t2 e2 p2 l2 s2 i2, xk P u' q' t' e' p' l' s' i' u2 q2 t2 e2 p2 l2 s2 i2 ∧ m' < m2 ∧ rw_H P E lv pm t0 m0 m t e p l w o s i dd c0 r0 (v + 1) (va_up T (v + 1) t2) u2 q2 m2 t2 e2 p2 l2 s2 i2 c2 r2) := by
  obtain ⟨u2, q2, m2, t2, e2, p2, l2, s2, i2, G1, G2, X1, G3, G4, G5, G6, G7, G8⟩ := G
  obtain ⟨X, hmm, fc, fr, bT, tc, D, Ee, M, GG, W, bE, bM, ch, hj⟩ := H
  have fl0 : fl ≠ 0 := by omega
  have G8 := G8 fl0
  have k1 := G1
  unfold xk at k1
  obtain ⟨n1, n2, n3, n4⟩ := G5.at
  have tlt := G5.tlt fl0
  obtain ⟨ml, _, _, _⟩ := X1.1.mle (by decide)
  have Tv : T v = t' := bT.2.1
  have tt : t ≤ t' := by
    have := bT.mono 0 v (Nat.zero_le _) (Nat.le_refl _)
    have := bT.1
    omega
  have tj : ∀ j, j < v → t ≤ T j ∧ T j < T (j + 1) ∧ T (j + 1) ≤ t' := fun j y => by
    have a := bT.in y
    have b := (hj j y).2.tlt (by have := (hj j y).1; omega)
    omega
  have Mj : ∀ j, j < v → m ≤ M j ∧ M j ≤ GG j ∧ GG j < M (j + 1) ∧ M (j + 1) ≤ m' := fun j y => by
    have a := bM.in y
    have b := (hj j y).2.at
    omega
  have Tm : ∀ i j, i ≤ j → j ≤ v → T i ≤ T j := bT.mono
  have MM : ∀ i j, i ≤ j → j ≤ v → M i ≤ M j := bM.mono
  -- the chain stands where the part was read
  have ch1 : ch_R r1 m0 v GG := by
    refine ⟨by rw [(G4 959 m0 (by unfold xWr; omega)).1]; exact ch.1, fun j y => ?_⟩
    have := Mj j y
    rw [(G4 960 (GG j) (by unfold xWr; omega)).1]
    exact ch.2 j y
  refine l2_imp (ch_hang ch1 (by omega) (by omega) (by omega) X1.1.f0.2 G7 (fun j y => by have := Mj j y; omega)) (fun r2 hr => ?_)
  obtain ⟨ch2, f2⟩ := hr
  refine ⟨u2, q2, m2, t2, e2, p2, l2, s2, i2, G1, G2, ?_⟩
  -- frames from the head
  have fcc : l2_fr (fun b j => xWc t' e' p' l' w o b j ∨ (b = 355 ∧ j = t0 ∧ v = 0) ∨ (b = 356 ∧ 0 < v ∧ j = T (v - 1))) c c2 := (G3.mono (fun b j y => Or.inl y)).trans (g.mono (fun b j y => Or.inr y))
  have frr : l2_fr (fun b j => xWr m' s' b j ∨ (b = 959 ∧ j = m0 ∧ v = 0) ∨ (b = 960 ∧ 0 < v ∧ j = GG (v - 1))) r r2 := (G4.mono (fun b j y => Or.inl y)).trans (f2.mono (fun b j y => Or.inr y))
  have Tl : 0 < v → t ≤ T (v - 1) ∧ T (v - 1) < t' := fun y => by
    have := tj (v - 1) (by omega)
    omega
  have Gl : 0 < v → m ≤ GG (v - 1) ∧ GG (v - 1) < m' := fun y => by
    have := Mj (v - 1) (by omega)
    omega
  refine ⟨X1.own g f2 (fun b j y => by omega) (fun b j y => by omega), by omega, fc.trans (fcc.mono (fun b j y => ?_)), fr.trans (frr.mono (fun b j y => ?_)), bT.snoc (by omega), ⟨?_, fun j y => ?_⟩, ?_, va_up Ee (v + 1) e2, va_up M (v + 1) m2, va_up GG v n, va_up W v fl, bE.snoc n1, bM.snoc (by omega), ch2, fun j y => ?_⟩
  · rcases y with y | ⟨rfl, rfl, _⟩ | ⟨rfl, y, rfl⟩
    · exact Or.inl (y.sub (by have := bT.mono 0 v (Nat.zero_le _) (Nat.le_refl _); have := bT.1; omega) he hp hl (Nat.le_refl _) (Nat.le_refl _))
    · exact Or.inr ⟨rfl, rfl⟩
    · exact Or.inl (xWc.itm (by decide) (by decide) (Tl y).1)
  · rcases y with y | ⟨rfl, rfl, _⟩ | ⟨rfl, y, rfl⟩
    · exact Or.inl (y.sub hmm hs)
    · exact Or.inr ⟨rfl, rfl⟩
    · exact Or.inl (Or.inr (Or.inr (Or.inl ⟨by decide, by decide, (Gl y).1⟩)))
  · rw [if_pos (by omega), mj_up_ne _ _ (by omega)]
    by_cases z : v = 0
    · rw [gv.1 z]
      subst z
      rw [Tv]
    · rw [(g 355 t0 (by omega)).1, (G3 355 t0 (by have := bT.mono 0 v (Nat.zero_le _) (Nat.le_refl _); have := bT.1; unfold xWc; omega)).1, tc.1, if_pos (by omega)]
  · rw [mj_up_ne (j := j) _ _ (by omega)]
    by_cases z : j = v
    · subst z
      rw [if_neg (by omega), Tv, (g 356 t' (by omega)).1]
      exact G8
    · rw [if_pos (by omega), mj_up_ne (j := j + 1) _ _ (by omega)]
      by_cases z2 : j = v - 1
      · subst z2
        rw [gv.2 (by omega), show v - 1 + 1 = v by omega, Tv]
      · have a := tj j (by omega)
        have b := tj (v - 1) (by omega)
        have d := Tm (j + 1) (v - 1) (by omega) (by omega)
        rw [(g 356 (T j) (by omega)).1, (G3 356 (T j) (by unfold xWc; omega)).1, tc.2 j (by omega), if_pos (by omega)]
  · refine (D.trans G6 ⟨hl, by omega⟩ ⟨hi, by omega⟩ ⟨hmm, by omega⟩ (fun b a y1 y2 y3 => (G3 b a (by unfold xWc; omega)).1) (fun k y1 y2 => ?_)).own g f2 (fun b j y => by omega) (fun b j y => by omega)
    have q1 : ∀ b, (955 ≤ b ∧ b ≤ 962) ∨ b = 1003 → r1.1 b k = r.1 b k ∧ r1.2.1 b k = r.2.1 b k := fun b z => ⟨(G4 b k (by unfold xWr; omega)).1, (G4 b k (by unfold xWr; omega)).2.1⟩
    exact ⟨(q1 955 (by decide)).1, (q1 956 (by decide)).1, (q1 962 (by decide)).1, (q1 1003 (by decide)).1, (q1 957 (by decide)).2, (q1 958 (by decide)).2, fun _ => (q1 961 (by decide)).1⟩
  · rw [mj_up_ne (j := j) Ee _ (by omega), mj_up_ne (j := j) T _ (by omega), mj_up_ne (j := j) M _ (by omega)]
    by_cases z : j = v
    · subst z
      rw [mj_up_eq, mj_up_eq, mj_up_eq, mj_up_eq, mj_up_eq, bE.2.1, Tv, bM.2.1]
      refine ⟨hfl, G5.own g f2 (Nat.le_refl _) (Nat.le_refl _) (by omega) ⟨hl, Nat.le_refl _⟩ (fun b k y => ?_) (fun b k y => ?_)⟩
      · rcases y with y | ⟨rfl, y1, rfl⟩
        · omega
        · have := Tl y1
          omega
      · rcases y with y | ⟨rfl, y1, rfl⟩
        · omega
        · have := Gl y1
          omega
    · rw [mj_up_ne (j := j + 1) Ee _ (by omega), mj_up_ne (j := j + 1) T _ (by omega), mj_up_ne (j := j + 1) M _ (by omega), mj_up_ne (j := j) GG _ (by omega), mj_up_ne (j := j) W _ (by omega)]
      have a := tj j (by omega)
      have b := Mj j (by omega)
      have d := bE.in (j := j) (by omega)
      refine ⟨(hj j (by omega)).1, (hj j (by omega)).2.own fcc frr (by omega) (by omega) (by omega) ⟨Nat.le_refl _, by omega⟩ (fun b k y => ?_) (fun b k y => ?_)⟩
      · rcases y with y | y | ⟨rfl, y1, rfl⟩
        · unfold xWc at y
          omega
        · omega
        · refine ⟨by omega, fun ⟨_, _, y4, y5, y6⟩ => ?_, by omega, by omega⟩
          have y6 := y6 rfl
          have d2 := Tm (j + 1) (v - 1)
          by_cases z2 : j = v - 1
          · subst z2; exact y6 rfl
          · have := d2 (by omega) (by omega)
            omega
      · rcases y with y | y | ⟨rfl, y1, rfl⟩
        · unfold xWr at y
          omega
        · omega
        · refine ⟨fun ⟨_, _, y4, y5, y6⟩ => ?_, by omega⟩
          have y6 := y6 rfl
          by_cases z2 : j = v - 1
          · subst z2; exact y6 rfl
          · have := MM (j + 1) (v - 1) (by omega) (by omega)
            have := Mj (v - 1) (by omega)
            omega
end
