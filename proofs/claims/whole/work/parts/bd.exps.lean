/-! Level 2: rows of exps on both sides: one more exp; what the loop comes to. -/
/-- v exps read, hanging at m0 -/
def xe_H (P : pc_S) (E : en_S) (m0 m t e p l w o s i dd : Nat) (c0 r0 : t_S) (v u' q' m' t' e' p' l' s' i' : Nat) (c r : t_S) : Prop := xp P E u' 0 0 q' m' t' e' p' l' w o s' i' dd c r ∧ m ≤ m' ∧ l2_fr (xWc t e p l w o) c0 c ∧ l2_fr (rwr m0 m s) r0 r ∧ xD E c0 c r l l' i i' m m' ∧ ∃ Ee T M G : Nat → Nat, px_B v e e' Ee ∧ px_B v t t' T ∧ px_B v m m' M ∧ ch_R r m0 v G ∧ ∀ j, j < v → XR (wn_R E c r l l') (an_R E c r l l') (tn_R E c r l l') (sn_R c) c r p' s' (m' - m) 0 0 (20 * dd + 15) (Ee j) (Ee (j + 1)) (T j) (T (j + 1)) (M j) (M (j + 1)) (G j)
section
variable {P : pc_S} {E : en_S} {EB PB IB m0 u q m t e p l w o s i dd v u' q' m' t' e' p' l' s' i' : Nat} {c0 r0 c r : t_S} {rc rcC rc5 : RT_X6_readBase} {rR : RT_X13_base}
theorem xe_H.nil (X : xp P E u 0 0 q m t e p l w o s i dd c r) (k9 : r.1 959 m0 = -1) : xe_H P E m0 m t e p l w o s i dd c r 0 u q m t e p l s i c r := ⟨X, Nat.le_refl _, l2_fr.rf, l2_fr.rf, xD.nil rfl rfl, fun _ => e, fun _ => t, fun _ => m, fun _ => 0, ⟨rfl, rfl, fun j hj => by omega⟩, ⟨rfl, rfl, fun j hj => by omega⟩, ⟨rfl, rfl, fun j hj => by omega⟩, ⟨by rw [if_neg (by decide)]; exact k9, fun j hj => by omega⟩, fun j hj => by omega⟩
theorem xe_H.la {u2 : Nat} {c2 r2 : t_S} (H : xe_H P E m0 m t e p l w o s i dd c0 r0 v u' q' m' t' e' p' l' s' i' c r) (X : xp P E u2 0 0 q' m' t' e' p' l' w o s' i' dd c2 r2) (g : l2_fr la_W c c2) (f : l2_fr rn_W r r2) : xe_H P E m0 m t e p l w o s i dd c0 r0 v u2 q' m' t' e' p' l' s' i' c2 r2 := by
  obtain ⟨_, hmm, fc, fr, D, Ee, T, M, GG, bE, bT, bM, ch, hj⟩ := H
  refine ⟨X, hmm, fc.trans (g.mono (fun b j y => x_la y)), fr.trans (f.mono (fun b j y => Or.inl (x_rn y))), D.own g f (fun b j y => by unfold la_W at y; omega) (fun b j y => by unfold rn_W at y; omega), Ee, T, M, GG, bE, bT, bM, ⟨by rw [(f 959 m0 (by unfold rn_W; omega)).1]; exact ch.1, fun j y => by rw [(f 960 _ (by unfold rn_W; omega)).1]; exact ch.2 j y⟩, fun j y => (hj j y).own g f (Nat.le_refl _) (Nat.le_refl _) (Nat.le_refl _) ⟨Nat.le_refl _, Nat.le_refl _⟩ (fun b k z => ?_) (fun b k z => ?_)⟩
  · unfold la_W at z; omega
  · unfold rn_W at z; omega
/-- one more -/
theorem xe_add {n : Nat} {c1 r1 : t_S} (hm : m0 < m) (ht : t ≤ t') (hs : s ≤ s') (he : e ≤ e') (hp : p ≤ p') (hl : l ≤ l') (hi : i ≤ i') (hv : v < 1000) (H : xe_H P E m0 m t e p l w o s i dd c0 r0 v u' q' m' t' e' p' l' s' i' c r) (G : xG P E 0 0 (20 * dd + 15) u' q' m' t' e' p' l' w o s' i' dd c r n c1 r1) : t_hk (f_X13_hang (nI m0) (nI n) r1) (fun r2 => ∃ u2 q2 m2 t2 e2 p2 l2 s2 i2, xk P u' q' t' e' p' l' s' i' u2 q2 t2 e2 p2 l2 s2 i2 ∧ m' < m2 ∧ xe_H P E m0 m t e p l w o s i dd c0 r0 (v + 1) u2 q2 m2 t2 e2 p2 l2 s2 i2 c1 r2) := by
  obtain ⟨u2, q2, m2, t2, e2, p2, l2, s2, i2, G1, G2, X1, G3, G4, G5, G6, G7, _⟩ := G
  obtain ⟨X, hmm, fc, fr, D, Ee, T, M, GG, bE, bT, bM, ch, hj⟩ := H
  have k1 := G1
  unfold xk at k1
  obtain ⟨n1, n2, n3, n4⟩ := G5.at
  obtain ⟨ml, _, _, _⟩ := X1.1.mle (by decide)
  have Mj : ∀ j, j < v → m ≤ M j ∧ M j ≤ GG j ∧ GG j < M (j + 1) ∧ M (j + 1) ≤ m' := fun j y => by
    have a := bM.in y
    have b := (hj j y).at
    omega
  have MM : ∀ i j, i ≤ j → j ≤ v → M i ≤ M j := bM.mono
  have ch1 : ch_R r1 m0 v GG := by
    refine ⟨by rw [(G4 959 m0 (by unfold xWr; omega)).1]; exact ch.1, fun j y => ?_⟩
    have := Mj j y
    rw [(G4 960 (GG j) (by unfold xWr; omega)).1]
    exact ch.2 j y
  refine l2_imp (ch_hang ch1 (by omega) (by omega) (by omega) X1.1.f0.2 G7 (fun j y => by have := Mj j y; omega)) (fun r2 hr => ?_)
  obtain ⟨ch2, f2⟩ := hr
  refine ⟨u2, q2, m2, t2, e2, p2, l2, s2, i2, G1, G2, ?_⟩
  have frr : l2_fr (fun b j => xWr m' s' b j ∨ (b = 959 ∧ j = m0 ∧ v = 0) ∨ (b = 960 ∧ 0 < v ∧ j = GG (v - 1))) r r2 := (G4.mono (fun b j y => Or.inl y)).trans (f2.mono (fun b j y => Or.inr y))
  have Gl : 0 < v → m ≤ GG (v - 1) ∧ GG (v - 1) < m' := fun y => by
    have := Mj (v - 1) (by omega)
    omega
  have nf : l2_fr (fun _ _ => False) c1 c1 := l2_fr.rf
  refine ⟨X1.own nf f2 (fun b j y => y.elim) (fun b j y => by omega), by omega, fc.trans (G3.mono (fun b j y => y.sub ht he hp hl (Nat.le_refl _) (Nat.le_refl _))), fr.trans (frr.mono (fun b j y => ?_)), ?_, va_up Ee (v + 1) e2, va_up T (v + 1) t2, va_up M (v + 1) m2, va_up GG v n, bE.snoc n1, bT.snoc n2, bM.snoc (by omega), ch2, fun j y => ?_⟩
  · rcases y with y | ⟨rfl, rfl, _⟩ | ⟨rfl, y, rfl⟩
    · exact Or.inl (y.sub hmm hs)
    · exact Or.inr ⟨rfl, rfl⟩
    · exact Or.inl (Or.inr (Or.inr (Or.inl ⟨by decide, by decide, (Gl y).1⟩)))
  · refine (D.trans G6 ⟨hl, by omega⟩ ⟨hi, by omega⟩ ⟨hmm, by omega⟩ (fun b a y1 y2 y3 => (G3 b a (by unfold xWc; omega)).1) (fun k y1 y2 => ?_)).own nf f2 (fun b j y => y.elim) (fun b j y => by omega)
    have q1 : ∀ b, (955 ≤ b ∧ b ≤ 962) ∨ b = 1003 → r1.1 b k = r.1 b k ∧ r1.2.1 b k = r.2.1 b k := fun b z => ⟨(G4 b k (by unfold xWr; omega)).1, (G4 b k (by unfold xWr; omega)).2.1⟩
    exact ⟨(q1 955 (by decide)).1, (q1 956 (by decide)).1, (q1 962 (by decide)).1, (q1 1003 (by decide)).1, (q1 957 (by decide)).2, (q1 958 (by decide)).2, fun _ => (q1 961 (by decide)).1⟩
  · rw [mj_up_ne (j := j) Ee _ (by omega), mj_up_ne (j := j) T _ (by omega), mj_up_ne (j := j) M _ (by omega)]
    by_cases z : j = v
    · subst z
      rw [mj_up_eq, mj_up_eq, mj_up_eq, mj_up_eq, bE.2.1, bT.2.1, bM.2.1]
      refine G5.own nf f2 (Nat.le_refl _) (Nat.le_refl _) (by omega) ⟨hl, Nat.le_refl _⟩ (fun b k y => y.elim) (fun b k y => ?_)
      rcases y with y | ⟨rfl, y1, rfl⟩
      · omega
      · have := Gl y1
        omega
    · rw [mj_up_ne (j := j + 1) Ee _ (by omega), mj_up_ne (j := j + 1) T _ (by omega), mj_up_ne (j := j + 1) M _ (by omega), mj_up_ne (j := j) GG _ (by omega)]
      have a := bT.in (j := j) (by omega)
      have b := Mj j (by omega)
      have d := bE.in (j := j) (by omega)
      refine (hj j (by omega)).own G3 frr (by omega) (by omega) (by omega) ⟨Nat.le_refl _, by omega⟩ (fun b k y => ?_) (fun b k y => ?_)
      · unfold xWc at y
        omega
      · rcases y with y | y | ⟨rfl, y1, rfl⟩
        · unfold xWr at y
          omega
        · omega
        · refine ⟨fun ⟨_, _, y4, y5, y6⟩ => ?_, by omega⟩
          have y6 := y6 rfl
          by_cases z2 : j = v - 1
          · subst z2; exact y6 rfl
          · have := MM (j + 1) (v - 1) (by omega) (by omega)
            have := Mj (v - 1) (by omega)
            omega
/-- what the loop of exps comes to -/
def xeQ (P : pc_S) (E : en_S) (m0 u q m t e p l w o s i dd : Nat) (c0 r0 : t_S) (z : Int32 × t_S) (r : t_S) : Prop := (∃ v u' q' m' t' e' p' l' s' i', 0 < v ∧ v ≤ 12 ∧ z.1 = nI v ∧ xk P u q t e p l s i u' q' t' e' p' l' s' i' ∧ m < m' ∧ xe_H P E m0 m t e p l w o s i dd c0 r0 v u' q' m' t' e' p' l' s' i' z.2 r) ∨ xf P t e p l w o w m0 s c0 r0 z.2 r ∨ ∃ p0, xF 2 p0 t e p l w o w c0 z.2 ∧ rj P p0 m0 s r0 r
def xeI (P : pc_S) (E : en_S) (xd : Int32) (m0 u q m t e p l w o s i dd : Nat) (c0 r0 : t_S) (k : Nat) (x : Int32 × Int32 × t_S) (y : Int32 × Int32 × Int32 × t_S) : Prop := ∃ (v : Nat) (c r : t_S), v ≤ 12 ∧ k = 13 - v ∧ x = (xd, nI v, c) ∧ y = (nI m0, 1, nI v, r) ∧ ((∃ u' q' m' t' e' p' l' s' i', rk P u q t e p l s i u' q' t' e' p' l' s' i' ∧ xe_H P E m0 m t e p l w o s i dd c0 r0 v u' q' m' t' e' p' l' s' i' c r) ∨ xf P t e p l w o w m0 s c0 r0 c r)
theorem xF.ex2 {f p0 w' : Nat} {c1 : t_S} (h : xF f p0 t e p l w o w' c0 c1) (a b : Int32) : t_hk (k_X6_readExps_2 rc a b c1) (fun z => ∃ r, z = .inr r ∧ xF f p0 t e p l w o w' c0 r.2) := by
  unfold k_X6_readExps_2
  exact l2_if (fun _ => xl_inr (l2_sm h)) (fun _ => l2_no h.stay.2.2.2.2 (xl_inr (l2_sm h)))
/-- behind the exp -/
theorem xF.ex45b {f p0 w' : Nat} {z : Int32 × t_S} (h : xF f p0 t e p l w o w' c0 z.2) (a b : Int32) : t_hk ((f_X2_take (44 : Int32) z.2).bind (fun (r2 : Int32 × t_S) => ((if r2.1 = (0 : Int32) then ((some ((b + (1 : Int32)), r2.2)).map Sum.inr) else (some (.inl (a, (b + 1), r2.2)))) : Option ((Int32 × Int32 × t_S) ⊕ (Int32 × t_S))))) (fun z => ∃ r, z = .inr r ∧ xF f p0 t e p l w o w' c0 r.2) := l2_eq (h.stay.2.2.1 44 (by decide)).2 (l2_ck rfl (xl_inr (l2_sm h)))
theorem xF.ex45 {f p0 w' : Nat} {c1 : t_S} (hB : ∀ x, bC2 (rc.2.2.1 x)) (h : xF f p0 t e p l w o w' c0 c1) (a b : Int32) : t_hk (k_X6_readExps_45 rc a b c1) (fun z => ∃ r, z = .inr r ∧ xF f p0 t e p l w o w' c0 r.2) := by
  unfold k_X6_readExps_45
  exact l2_bd _ (hB _ _ _ _ _ _ _ _ _ _ _ _ h) (fun y h1 => h1.ex45b a b)
theorem xF.e29 {f p0 w' : Nat} {c1 : t_S} (H : ∀ x, bC (rc.2.2.2.2.2.2.2.1 x)) (h : xF f p0 t e p l w o w' c0 c1) (x y : Int32) : t_hk (k_X6_readExp_29 rc x y c1) (fun z => xF f p0 t e p l w o w' c0 z.2 ∧ z.1 = y) := by
  unfold k_X6_readExp_29
  exact l2_if (fun _ => h.exp43 H _ _) (fun _ => l2_eq (h.stay.2.1 _) (h.exp43 H _ _))
theorem xR.ex41 {f p0 : Nat} {r1 : t_S} (T : xT rR) (h : xR P f p0 m0 s r0 r1) (a b : Int32) : t_hk (k_X13_exps_41 rR a b r1) (fun z => ∃ g1 g2 r', z = .inl (a, g1, g2, r') ∧ xR P f p0 m0 s r0 r') := by
  unfold k_X13_exps_41
  exact l2_eq (T.1 r1 h.ne).2.1 (l2_eq (h.hang _ _) (l2_if (fun _ => l2_sm ⟨_, _, _, rfl, h⟩) (fun _ => l2_bd _ h.next (fun r3 h3 => l2_sm ⟨_, _, _, rfl, h3⟩))))
theorem xe_flt {f p0 k : Nat} {a : Option ((Int32 × Int32 × t_S) ⊕ (Int32 × t_S))} {b : Option ((Int32 × Int32 × Int32 × t_S) ⊕ t_S)} {xd : Int32} (ha : t_hk a (fun y => ∃ r, y = .inr r ∧ xF f p0 t e p l w o w c0 r.2)) (hb : t_hk b (fun z => (∃ r', z = .inr r' ∧ xR P f p0 m0 s r0 r') ∨ ∃ g1 g2 g3 r', z = .inl (g1, g2, g3, r') ∧ xR P f p0 m0 s r0 r')) : t_h2 a b (h2_nx (b_X6_readExps_2 rc) (b_X13_exps_4 rR) (fun x y => ∃ j, j < k ∧ xeI P E xd m0 u q m t e p l w o s i dd c0 r0 j x y) (xeQ P E m0 u q m t e p l w o s i dd c0 r0)) := by
  refine h2_sep _ _ ha hb (fun x y hx hy => ?_)
  obtain ⟨c1, rfl, hF⟩ := hx
  rcases hy with ⟨r1, rfl, hR⟩ | ⟨g1, g2, g3, r1, rfl, hR⟩
  · exact Or.inr (Or.inl ⟨f, p0, hF, hR⟩)
  · refine xl_go (l2_imp (hR.exps4 g1 g2 g3) (fun z hz => ?_))
    obtain ⟨r2, rfl, h2⟩ := hz
    exact ⟨r2, rfl, Or.inr (Or.inl ⟨f, p0, hF, h2⟩)⟩
end
