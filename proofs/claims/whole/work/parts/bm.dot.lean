/-! Level 2: behind a base on both sides: . NAME -/
theorem hg_0 {r : t_S} {x n : Nat} (hx : x < 13000) (h0 : r.1 950 2 = 0) (h9 : r.1 959 x = -1) : f_X13_hang (nI x) (nI n) r = some (t_setI r 959 x (nI n)) := by
  have e : f_X13_lastOf (nI x) r = some (-1) := by
    unfold f_X13_lastOf
    rw [if_pos (l2_ix hx (by decide)), nI_clamp (by omega), h9]
    refine l2_tnR (y := (-1 : Int32)) l2_tn.nil (by decide) (r := (-1 : Int32)) ?_
    show k_X13_lastOf_7 (-1) r = _
    unfold k_X13_lastOf_7
    rw [if_pos ch_m1]
    rfl
  unfold f_X13_hang
  rw [if_pos h0, e, l2_bs, if_neg (by decide), if_pos (l2_ix hx (by decide)), nI_clamp (by omega)]
  rfl
theorem hg_1 {r : t_S} {x n b : Nat} (hx : x < 13000) (hn : n < 13000) (h0 : r.1 950 2 = 0) (h9 : r.1 959 x = nI n) (h60 : r.1 960 n = -1) : f_X13_hang (nI x) (nI b) r = some (t_setI r 960 n (nI b)) := by
  have e : f_X13_lastOf (nI x) r = some (nI n) := by
    unfold f_X13_lastOf
    rw [if_pos (l2_ix hx (by decide)), nI_clamp (by omega), h9]
    refine l2_tnR (y := nI n) l2_tn.nil (by decide) (r := nI n) ?_
    show k_X13_lastOf_7 (nI n) r = _
    unfold k_X13_lastOf_7
    rw [if_neg (nI_pos (by omega)), if_pos (l2_ix hn (by decide)), nI_clamp (by omega), h60, if_pos ch_m1]
    rfl
  unfold f_X13_hang
  rw [if_pos h0, e, l2_bs, if_pos (nI_pos' (by omega)), if_pos (l2_ix hn (by decide)), nI_clamp (by omega)]
  rfl
section
variable {P : pc_S} {E : en_S} {EB PB IB u q m t e p l w o s i dd n : Nat} {c0 r0 c r : t_S} {rc : RT_X6_readBase}
/-- what a step behind a base comes to -/
def po_R (P : pc_S) (E : en_S) (u q m t e p l w o s i dd : Nat) (c0 r0 : t_S) (v : Nat) (c' : t_S) (y : Int32 × t_S) : Prop := (∃ n qq, y.1 = nI n ∧ v ≤ qq ∧ qq ≤ 3000 ∧ c'.1 845 10 = nI qq ∧ xG P E 0 0 (20 * dd) u q m t e p l w o s i dd c0 r0 n c' y.2) ∨ xf P t e p l w o w m s c0 r0 c' y.2
noncomputable def pkC (rc : RT_X6_readBase) (dd : Nat) (c : t_S) : Option t_S := (f_X6_node c).bind (fun r1 => (f_X2_take 46 r1).bind (fun r2 => if r2.1 = (0 : Int32) then (f_X2_take 91 r2.2).bind (fun r3 => if r3.1 = (0 : Int32) then some r3.2 else (rc.2.2.1 (nI dd) r3.2).bind (fun r4 => (f_X2_need (nI 93) r4.2).bind (fun r5 => (f_X0_emit 15 0 r5).bind (fun r6 => some r6.2)))) else (f_X6_takeFieldName r2.2).bind (fun r7 => (f_X0_emit 14 r7.1 r7.2).bind (fun r8 => some r8.2))))
noncomputable def dtR (l4 : Int32) (r : t_S) : Option (Int32 × t_S) := (f_X13_node 68 1 r).bind (fun r1 => (f_X13_next r1.2).bind (fun r2 => (f_X13_hang r1.1 l4 r2).bind (fun r3 => if t_ix r1.1 13000 = true then t_let (t_setI r3 1003 (r1.1.toNatClampNeg) (r3.1 950 6)) (fun s1 => (f_X13_freeName s1).bind (fun r8 => t_let (t_setJ r8.2 957 (r1.1.toNatClampNeg) r8.1.toInt64) (fun s2 => (f_X13_next s2).bind (fun r9 => some (r1.1, r9))))) else none)))
theorem xF.takeName {f p0 w' : Nat} (h : xF f p0 t e p l w o w' c0 c) : f_X6_takeFieldName c = some (0, c) := by
  unfold f_X6_takeFieldName k_X6_takeFieldName_19
  rw [if_neg h.word, h.stay.2.1, l2_bs, if_neg h.stay.2.2.2.2]
/-- the class behind a fault: no token is taken, an operation may come -/
theorem xF.dt1 {f p0 w' : Nat} (h : xF f p0 t e p l w o w' c0 c) : t_hk ((f_X6_takeFieldName c).bind (fun r7 => (f_X0_emit 14 r7.1 r7.2).bind (fun r8 => some r8.2))) (xF f p0 t e p l w o w' c0) := by
  exact l2_eq h.takeName (l2_bd _ (h.emit _ _) (fun v hv => l2_sm hv.1))
theorem xR.dt1 {f p0 j : Nat} (h : xR P f p0 m s r0 r) (h1 : m ≤ j) (h2 : j < 13000) (l4 : Int32) : t_hk ((f_X13_hang (nI j) l4 r).bind (fun r3 => if t_ix (nI j) 13000 = true then t_let (t_setI r3 1003 ((nI j).toNatClampNeg) (r3.1 950 6)) (fun s1 => (f_X13_freeName s1).bind (fun r8 => t_let (t_setJ r8.2 957 ((nI j).toNatClampNeg) r8.1.toInt64) (fun s2 => (f_X13_next s2).bind (fun r9 => some (nI j, r9))))) else none)) (fun y => xR P f p0 m s r0 y.2) := by
  refine l2_eq (h.hang _ _) (l2_ck (l2_ix h2 (by decide)) (l2_lt ?_))
  rw [nI_clamp (n := j) (by omega)]
  exact l2_bd _ ((h.set (b := 1003) (Or.inr (Or.inl ⟨rfl, h1⟩))).name) (fun y hy => l2_lt (l2_bd _ ((hy.setJ ⟨by decide, by decide, h1⟩).next) (fun z hz => l2_sm hz)))
/-- . NAME -/
theorem po_dot {v qq : Nat} (hb : xb P EB PB IB u q t e p l w o s i dd) (hv : v ≤ qq ∧ qq ≤ 3000) (h10 : c.1 845 10 = nI qq) (G : xG P E 0 0 (20 * dd) u q m t e p l w o s i dd c0 r0 n c r) (h : c.1 1 8 = nI 46) : t_h2 (pkC rc dd c) (dtR (nI n) r) (po_R P E u q m t e p l w o s i dd c0 r0 (v + 1)) := by
  obtain ⟨u', q', m', t', e', p', l', s', i', G1, G2, X, G3, G4, G5, G6, G7, _⟩ := G
  have G1' := G1
  unfold xk at G1'
  obtain ⟨n1, n2, n3, n4⟩ := G5.at
  have ple := X.1.ple
  have cle := X.1.cle
  have bd := hb.ebound G1 ple.2.2 ple.1 ple.2.1
  have qe : qq = q' := by
    have := X.1.mle (by decide)
    exact (nI_eq (by omega) (by omega)).mp (h10.symm.trans this.2.2.2)
  subst qe
  unfold pkC dtR
  refine h2_bb _ (xp_node (K := 68) X (by decide) s) (fun c1 y hy => ?_)
  obtain ⟨y0, r1⟩ := y
  rcases hy with ⟨hq, g1, hm, y1, y2, y3, y4, X1⟩ | ⟨g1, f, p0, y1, y2, ⟨j, j1, j2, j3⟩, y4, y5⟩
  rotate_left
  · have j3 : y0 = nI j := j3
    subst j3
    have hF : xF f p0 t e p l w o w c0 c1 := xF.of X (by omega) (by omega) ⟨Nat.le_refl _, by omega⟩ ⟨by omega, Nat.le_refl _⟩ G3 g1 (fun b j z => x_la z) ⟨by unfold la_W; omega, by unfold la_W; omega, by unfold la_W; omega⟩ (fun j => by unfold la_W; omega) y1 xw.nil
    have hR : xR P f p0 m s r0 r1 := y2.sub G4 (by omega) (Nat.le_refl _)
    exact h2_sep _ _ (l2_eq (hF.stay.2.2.1 46 (by decide)).2 (l2_ck rfl (l2_eq (hF.stay.2.2.1 91 (by decide)).2 (l2_ck rfl (l2_sm hF))))) (l2_bd _ hR.next (fun r2 h2 => h2.dt1 (by omega) j2 _)) (fun z y hz hy => Or.inr ⟨f, p0, hz, hy⟩)
  have y1 : y0 = nI m' := y1
  subst y1
  rw [if_neg (by decide)] at X1
  have X1 : xp P E u' 0 1 (qq + 1) (m' + 1) t' e' p' l' w o s' i' dd c1 r1 := X1
  have y2 : l2_fr (xn_W m') r r1 := y2
  have y3 : nd_at r1 m' (nI 68) (r.1 950 6) := y3
  obtain ⟨d1, d2, d3, d4, d5, d6, d7⟩ := y3
  have k8 : c1.1 1 8 = nI 46 := by rw [(g1 1 8 (by omega)).1]; exact h
  have fc1 : l2_fr (xWc t e p l w o) c0 c1 := G3.trans (g1.mono (fun b j y => by obtain ⟨rfl, rfl⟩ := y; exact xWc.i845 (by decide)))
  have fr1 : l2_fr (xWr m s) r0 r1 := G4.trans (y2.mono (fun b j y => (xn_r y).sub (by omega) (Nat.le_refl _)))
  refine h2_bb _ (xp_took X1 (by decide) (x := 46) (by decide) k8) (fun y r2 hy => ?_)
  obtain ⟨y0, c2⟩ := y
  obtain ⟨a1, a2, a3, a4⟩ := hy
  have a1 : y0 = 1 := a1
  subst a1
  have a2 : l2_fr la_W c1 c2 := a2
  refine h2_noL (show ¬ (1 : Int32) = 0 by decide) ?_
  show t_h2 ((f_X6_takeFieldName c2).bind _) _ _
  rcases a4 with ⟨X2, l1, l2⟩ | a4
  rotate_left
  · obtain ⟨f, p0, q1, q2⟩ := xf.of (o0 := o) (m0 := m) (s0 := s) X1 (by decide) (by omega) (by omega) ⟨Nat.le_refl _, by omega⟩ ⟨by omega, Nat.le_refl _, by omega, by omega⟩ fc1 fr1 a2 a3 a4 xw.nil
    exact h2_sep _ _ q1.dt1 (q2.dt1 (by omega) (by omega) _) (fun z y hz hy => Or.inr ⟨f, p0, hz, hy⟩)
  have X2 : xp P E (u' + 1) 0 0 (qq + 1) (m' + 1) t' e' p' l' w o s' i' dd c2 r2 := X2
  -- the base hangs there
  have r02 : l2_fr (fun b j => xn_W m' b j ∨ rn_W b j) r r2 := (y2.mono (fun b j y => Or.inl y)).trans (a3.mono (fun b j y => Or.inr y))
  have h59 : r2.1 959 m' = -1 := by rw [(a3 959 m' (by unfold rn_W; omega)).1]; exact d5
  refine h2_eR (hg_0 (by omega) X2.1.f0.2 h59) ?_
  have f3 : l2_fr (fun b j => b = 959 ∧ j = m') r2 (t_setI r2 959 m' (nI n)) := l2_fr.set ⟨rfl, rfl⟩
  have c9 : (t_setI r2 959 m' (nI n)).1 959 m' = nI n := by simp only [l2_gI, reduceIte]
  generalize t_setI r2 959 m' (nI n) = r3 at *
  have X3 := X2.own (l2_fr.rf (W := fun _ _ => False)) f3 (fun b j y => y.elim) (fun b j y => by omega)
  refine h2_ckR (l2_ix (by omega) (by decide)) (h2_lR ?_)
  rw [nI_clamp (n := m') (by omega)]
  have eR : ((f_X13_freeName (t_setI r3 1003 m' (r3.1 950 6))).bind (fun r8 => t_let (t_setJ r8.2 957 m' r8.1.toInt64) (fun s2 => (f_X13_next s2).bind (fun r9 => some (nI m', r9))))) = (fnR m' r3).bind (fun r9 => some (nI m', r9)) := by
    unfold fnR
    rw [Option.bind_assoc]
    rfl
  rw [eR]
  refine h2_bb _ (fn_take (n := m') X3 (by decide)) (fun y r4 hw => ?_)
  obtain ⟨y0, c4⟩ := y
  obtain ⟨b1, b2, b3⟩ := hw
  have b1 : l2_fr fn_C c2 c4 := b1
  have fc2 : l2_fr (xWc t e p l w o) c0 c2 := fc1.trans (a2.mono (fun b j y => x_la y))
  have fr3 : l2_fr (xWr m s) r0 r3 := (fr1.trans (a3.mono (fun b j y => x_rn y))).trans (f3.mono (fun b j y => Or.inr (Or.inr (Or.inl ⟨by omega, by omega, by omega⟩))))
  rcases b3 with ⟨x, x1, x2, X4, x3, x4, x5, x6, x7⟩ | b3
  rotate_left
  · obtain ⟨f, p0, q1, q2⟩ := xf.ofW (o0 := o) (m0 := m) (s0 := s) X3 (by decide) (by omega) (by omega) ⟨Nat.le_refl _, by omega⟩ ⟨by omega, Nat.le_refl _, by omega⟩ fc2 fr3 b1 b2 (fun b j y => fn_Cx y) (fun b j y => fn_Wx y (by omega)) ⟨by unfold fn_C la_W; omega, by unfold fn_C la_W; omega, by unfold fn_C la_W; omega⟩ (fun j => by unfold fn_C la_W; omega) (by unfold fn_W rn_W nm_W; omega) b3 xw.nil
    exact h2_doneR (l2_bd _ (q1.emit _ _) (fun v hv => l2_sm (Or.inr ⟨f, p0, hv.1, q2⟩)))
  have x2 : y0 = nI (66 + x) := x2
  subst x2
  have X4 : xp P E (u' + 1 + 1) 0 0 (qq + 1) (m' + 1) t' e' p' l' w o s' i' dd c4 r4 := X4
  refine h2_bL _ (em_emit (s := c4) (e := e') 14 (nI (66 + x)) X4.2.2.2.1 (by omega)) (fun a ha => h2_sm ?_)
  obtain ⟨a0, c5⟩ := a
  obtain ⟨_, e2, e3, e4, e5⟩ := ha
  have e2 : l2_fr (fun b j => (b = 334 ∧ j = 2) ∨ ((b = 335 ∨ b = 336) ∧ j = e')) c4 c5 := e2
  have e3 : c5.1 334 2 = nI (e' + 1) := e3
  have e4 : c5.1 335 e' = 14 := e4
  have e5 : c5.1 336 e' = nI (66 + x) := e5
  show po_R P E u q m t e p l w o s i dd c0 r0 (v + 1) c5 (nI m', r4)
  have X5 := bO_emit X4 e2 e3
  have gc : l2_fr (fun b j => (b = 845 ∧ j = 10) ∨ fn_C b j ∨ (b = 334 ∧ j = 2) ∨ ((b = 335 ∨ b = 336) ∧ j = e')) c c5 := (((g1.mono (fun b j y => Or.inl y)).trans (a2.mono (fun b j y => Or.inr (Or.inl (Or.inl y))))).trans (b1.mono (fun b j y => Or.inr (Or.inl y)))).trans (e2.mono (fun b j y => Or.inr (Or.inr y)))
  have gr : l2_fr (fun b j => xn_W m' b j ∨ fn_W m' b j ∨ (b = 959 ∧ j = m')) r r4 := (((y2.mono (fun b j y => Or.inl y)).trans (a3.mono (fun b j y => Or.inr (Or.inl (Or.inl y))))).trans (f3.mono (fun b j y => Or.inr (Or.inr y)))).trans (b2.mono (fun b j y => Or.inr (Or.inl y)))
  have q3 : ∀ b, b = 955 ∨ b = 956 ∨ b = 960 ∨ b = 961 → r4.1 b m' = r1.1 b m' := fun b y => by rw [(b2 b m' (by unfold fn_W rn_W nm_W; omega)).1, (f3 b m' (by omega)).1, (a3 b m' (by unfold rn_W; omega)).1]
  have k55 : r4.1 955 m' = nI 68 := by rw [q3 955 (by decide)]; exact d1
  have k59 : r4.1 959 m' = nI n := by rw [(b2 959 m' (by unfold fn_W rn_W nm_W; omega)).1]; exact c9
  have cle1 := X3.1.cle
  have k10 : c5.1 845 10 = nI (qq + 1) := (X5.1.mle (by decide)).2.2.2
  have q5 : qq + 1 ≤ 3000 := (X5.1.mle (by decide)).2.2.1
  have G6' : xD E c0 c r l l' i i' m m' := G6
  have dD1 : xD E c c5 r4 l' l' i' i' m' (m' + 1) := by
    refine xD.mk1 (K := 68) (T := fun p => E.2.2.2.2.1 ≤ 66 + x ∧ p = pc_p P (u' + 1)) k55 (by decide) ⟨68, by decide, by decide, k55, fun z => absurd z (by decide), fun z => absurd z (by decide), fun z => by omega, fun z => absurd z (by decide)⟩ (fun a y1 y2 => by omega) (lt_N.name k55 (by decide) x3 x4 x1 cle1.2.2.2) (fun S hS => ?_) (fun z => by omega)
    have e1 := x5 S (hS.same (by rw [(a2 846 7 (by unfold la_W; omega)).1, (g1 846 7 (by omega)).1]) (by rw [(a2 846 8 (by unfold la_W; omega)).1, (g1 846 8 (by omega)).1]))
    exact e1.same (e2 846 7 (by omega)).1 (e2 846 8 (by omega)).1
  refine Or.inl ⟨m', qq + 1, rfl, by omega, q5, k10, u' + 1 + 1, qq + 1, m' + 1, t', e' + 1, p', l', s', i', ?_, by omega, X5, ?_, ?_, ?_, ?_, ?_, fun y => absurd rfl y⟩
  · unfold xk
    omega
  · exact G3.trans (gc.mono (fun b j y => by
      rcases y with ⟨rfl, rfl⟩ | y | ⟨rfl, rfl⟩ | ⟨y, rfl⟩
      · exact xWc.i845 (by decide)
      · exact fn_Cx y
      · exact xWc.i334 (Or.inl rfl)
      · exact xWc.iop y (by omega)))
  · exact G4.trans (gr.mono (fun b j y => by
      rcases y with y | y | ⟨rfl, rfl⟩
      · exact (xn_r y).sub (by omega) (Nat.le_refl _)
      · exact fn_Wx y (by omega)
      · exact Or.inr (Or.inr (Or.inl ⟨by decide, by decide, by omega⟩))))
  · rw [show m' + 1 - m = (m' - m) + 1 by omega]
    refine ⟨by omega, n2, by omega, by omega, Or.inl ⟨⟨rfl, (by have q0 := hb; unfold xb at q0; omega)⟩, Or.inr (Or.inr (Or.inr (Or.inl ⟨rfl, by omega, k55, x, n, x1, x4, ⟨e4, e5⟩, k59, ?_⟩)))⟩⟩
    exact G5.own gc gr (Nat.le_refl _) (Nat.le_refl _) (Nat.le_refl _) ⟨Nat.le_refl _, Nat.le_refl _⟩ (fun b j y => by unfold fn_C la_W at y; omega) (fun b j y => by unfold xn_W fn_W rn_W nm_W at y; omega)
  · exact G6'.trans dD1 (by omega) (by omega) (by omega) (fun b a y1 y2 y3 => (gc b a (by unfold fn_C la_W; omega)).1) (fun k y1 y2 => by
      have q1 : ∀ b, (955 ≤ b ∧ b ≤ 962) ∨ b = 1003 → r4.1 b k = r.1 b k ∧ r4.2.1 b k = r.2.1 b k := fun b z => ⟨(gr b k (by unfold xn_W fn_W rn_W nm_W; omega)).1, (gr b k (by unfold xn_W fn_W rn_W nm_W; omega)).2.1⟩
      exact ⟨(q1 955 (by decide)).1, (q1 956 (by decide)).1, (q1 962 (by decide)).1, (q1 1003 (by decide)).1, (q1 957 (by decide)).2, (q1 958 (by decide)).2, fun _ => (q1 961 (by decide)).1⟩)
  · show r4.1 960 m' = -1
    rw [q3 960 (by decide)]; exact d6
end
