/-! Level 2: the words of an enum, on both sides. -/
theorem lc_F.enum98 {c : t_S} {f p : Nat} (h : lc_F c f p) (l1 l2 : Int32) : k_X6_readEnum_98 l1 l2 c = some (.inr c) := by
  unfold k_X6_readEnum_98
  rw [if_neg h.ne]
  rfl
theorem lc_F.enum27 {c : t_S} {f p : Nat} (h : lc_F c f p) {l1 l2 : Int32} (h2 : ¬ (16 : Int32) < l2) : k_X6_readEnum_27 l1 l2 c = some (.inr c) := by
  unfold k_X6_readEnum_27
  rw [if_neg h2, h.2.2.2.2, if_neg (by decide), (lc_stay h).2]
  exact h.enum98 l1 l2
theorem pr_en69 {P : pc_S} {f p : Nat} {r : t_S} (h : pr P f p r) (l1 l3 l4 : Int32) : t_hk (k_X13_enumWords_69 l1 l3 l4 r) (fun z => ∃ x r', z = .inl (l1, x, l3 + 1, r') ∧ pr P f p r' ∧ l2_fr (ty_Wr 0) r r') := by
  unfold k_X13_enumWords_69
  refine l2_bd _ (pr_node2 (nd_k20 (K := 11) (by decide)) h) (fun y hy => ?_)
  obtain ⟨y0, r1⟩ := y
  obtain ⟨j, j1, j2, j3, j4, j5⟩ := hy
  have j2 : y0 = nI j := j2
  subst j2
  refine l2_ck (l2_ix j1 (by decide)) ?_
  rw [nI_clamp (n := j) (by omega)]
  have g4 : l2_fr (fun b i => (b = 957 ∨ b = 958) ∧ i = j) r1 (t_setJ r1 957 j l4.toInt64) := l2_fr.setJ ⟨Or.inl rfl, rfl⟩
  refine l2_lt ?_
  have h2 : pr P f p (t_setJ r1 957 j l4.toInt64) := j5.xy g4
  have w : l2_fr (ty_Wr 0) r (t_setJ r1 957 j l4.toInt64) := (j3.mono (fun b i y => ty_nd y (Nat.zero_le _))).trans (g4.mono (fun b i y => ty_xy y))
  show t_hk ((f_X13_hang l1 (nI j) (t_setJ r1 957 j l4.toInt64)).bind _) _
  generalize t_setJ r1 957 j l4.toInt64 = r2 at *
  refine l2_eq (pr_hang h2 _ _) (l2_eq (pr_next h2).1 (l2_if (fun _ => l2_sm ⟨_, _, rfl, h2.dead, w.trans ty_d5⟩) (fun _ => l2_eq (pr_next h2.dead).1 (l2_sm ⟨_, _, rfl, h2.dead.dead, (w.trans ty_d5).trans ty_d5⟩))))
theorem pr_en54 {P : pc_S} {f p : Nat} {r : t_S} (h : pr P f p r) (l1 l3 l4 : Int32) : t_hk (k_X13_enumWords_54 l1 l3 l4 r) (fun z => ∃ x r', z = .inl (l1, x, l3 + 1, r') ∧ pr P f p r' ∧ l2_fr (ty_Wr 0) r r') := by
  unfold k_X13_enumWords_54
  refine l2_if (fun _ => ?_) (fun _ => pr_en69 h l1 l3 l4)
  rw [(pr_next h).2]
  exact pr_en69 h l1 l3 l4
theorem pr_enend {P : pc_S} {f p : Nat} {r : t_S} (h : pr P f p r) (l1 x l3 : Int32) : b_X13_enumWords_10 (l1, x, l3, r) = some (.inr (t_setI r 950 5 0)) := by
  show k_X13_enumWords_10 l1 x l3 r = _
  unfold k_X13_enumWords_10 k_X13_enumWords_120
  rw [pr_mustBe h, if_neg h.ne]
  split <;> rfl
theorem ty_nm {m b j : Nat} (h : nm_W b j) : ty_Wr m b j := by
  unfold nm_W at h
  unfold ty_Wr
  omega
theorem ty_w5 {n m0 k x b j : Nat} (h : rn_W b j ∨ nm_W b j ∨ nd_V n b j ∨ (b = 959 ∧ j = m0 ∧ k = 0) ∨ (b = 960 ∧ 0 < k ∧ j = x)) : ty_Wr 0 b j := by
  rcases h with y | y | y | ⟨y1, y2, y3⟩ | ⟨y1, y2, y3⟩
  · exact ty_rn y
  · exact ty_nm y
  · exact ty_nd y (Nat.zero_le _)
  · exact Or.inr (Or.inr ⟨by omega, by omega, by omega⟩)
  · exact Or.inr (Or.inr ⟨by omega, by omega, by omega⟩)
/-- k words have been read -/
def ew_K (n m0 a m g l : Nat) (c0 r0 c r : t_S) (m1 k : Nat) (G X : Nat → Nat) : Prop := m1 = m + k ∧ l2_fr (fun b j => ty_Wc a g l b j ∨ ((b = 318 ∨ b = 321) ∧ j = n)) c0 c ∧ l2_fr (fun b j => ty_Wr m b j ∨ (b = 959 ∧ j = m0)) r0 r ∧ c.1 321 n = nI k ∧ c.1 318 n = nI g ∧ ch_R r m0 k G ∧ (∀ j, j < k → G j = m + j ∧ ty_w c r (g + j) (G j) (X j)) ∧ (∀ i j, i < j → j < k → X i ≠ X j) ∧ ∀ x, x < 7934 → (c.1 7 (66 + x) ≠ 0 ↔ c0.1 7 (66 + x) ≠ 0 ∨ ∃ j, j < k ∧ X j = x)
def ew_I (P : pc_S) (n m0 a m g l dd u0 q : Nat) (c0 r0 : t_S) (w : Nat) (x : Int32 × Int32 × t_S) (y : Int32 × Int32 × Int32 × t_S) : Prop := ∃ (k : Nat) (c r : t_S), k + w = 17 ∧ k ≤ 16 ∧ x = (nI n, nI k, c) ∧ y = (nI m0, 1, nI k, r) ∧ l2_fr (ty_Wc 0 0 0) c0 c ∧ l2_fr (ty_Wr 0) r0 r ∧ ((∃ u1 m1 G X, u0 < u1 ∧ tp P u1 0 0 q m1 a (g + k) l dd c r ∧ ew_K n m0 a m g l c0 r0 c r m1 k G X) ∨ pf P c r)
def ew_Q (P : pc_S) (n m0 a m g l dd u0 q : Nat) (c0 r0 c r : t_S) : Prop := l2_fr (ty_Wc 0 0 0) c0 c ∧ l2_fr (ty_Wr 0) r0 r ∧ ((∃ k u1 m1 G X, 0 < k ∧ k ≤ 16 ∧ u0 < u1 ∧ tp P u1 0 0 q m1 a (g + k) l dd c r ∧ ew_K n m0 a m g l c0 r0 c r m1 k G X) ∨ pf P c r)
theorem ew_bad {P : pc_S} {n m0 a m g l dd u0 q w : Nat} {c0 r0 : t_S} {A : Option ((Int32 × Int32 × t_S) ⊕ t_S)} {B : Option ((Int32 × Int32 × Int32 × t_S) ⊕ t_S)} {c r : t_S} {f p : Nat} {l1 l3 : Int32} (fc : l2_fr (ty_Wc 0 0 0) c0 c) (fr : l2_fr (ty_Wr 0) r0 r) (hA : A = some (.inr c)) (hc : lc_F c f p) (hB : t_hk B (fun z => ∃ x r', z = .inl (l1, x, l3, r') ∧ pr P f p r' ∧ l2_fr (ty_Wr 0) r r')) : t_h2 A B (h2_nx b_X6_readEnum_27 b_X13_enumWords_10 (fun x y => ∃ j, j < w ∧ ew_I P n m0 a m g l dd u0 q c0 r0 j x y) (ew_Q P n m0 a m g l dd u0 q c0 r0)) := by
  obtain ⟨y, e, x, r', rfl, h3, h4⟩ := hB
  refine ⟨_, _, hA, e, ?_⟩
  intro N hN
  rw [show N = (N - 1) + 1 by omega, l2_lpR (pr_enend h3 l1 x l3)]
  exact l2_sm ⟨fc, (fr.trans h4).trans ty_d5, Or.inr ⟨f, p, hc, h3.dead⟩⟩
theorem lN_w (n : Nat) : (lN n).toInt32 = nI n := lN_i n
/-- one word, that is new and for which there is room -/
theorem ew_word {P : pc_S} {n m0 a m g l dd u0 u1 q k x : Nat} {c0 r0 c r r1 : t_S} {G X : Nat → Nat} (hk : k < 16) (hn : n < a) (h3 : n < 3001) (hm0 : m0 < m) (hm : m0 < 13000) (hu : u0 < u1) (T : tp P u1 0 0 q (m + k) a (g + k) l dd c r) (K : ew_K n m0 a m g l c0 r0 c r (m + k) k G X) (fcc : l2_fr (ty_Wc 0 0 0) c0 c) (frr : l2_fr (ty_Wr 0) r0 r) (h8 : c.1 1 8 = 1) (hx : x < 7934) (hw : c.2.1 1 10 = lN (66 + x)) (J : pj P u1 1 0 q (m + k) c r1) (fr1 : l2_fr nm_W r r1) (nx : ∀ j, j < k → X j ≠ x) : t_h2 (k_X6_readEnum_98 (nI n) (nI k) c) (k_X13_enumWords_69 (nI m0) (nI k) (nI x) r1) (h2_nx b_X6_readEnum_27 b_X13_enumWords_10 (fun x y => ∃ w, w < 17 - k ∧ ew_I P n m0 a m g l dd u0 q c0 r0 w x y) (ew_Q P n m0 a m g l dd u0 q c0 r0)) := by
  obtain ⟨_, t2, t3, t4, t5, t6, t7, t8⟩ := T
  obtain ⟨k1, k2, k3, k4, k5, k6, k7, k8, k9⟩ := K
  have cle := J.cle.1
  have ww : f_X2_word c = nI (66 + x) := by
    unfold f_X2_word
    rw [hw]
    exact lN_w _
  unfold k_X6_readEnum_98 k_X13_enumWords_69
  rw [ww]
  refine h2_ckL J.f0.1 (h2_ckL (l2_ix (by omega) (by decide)) ?_)
  rw [nI_clamp (n := 66 + x) (by omega)]
  refine h2_lL ?_
  have e10 : (t_setI c 7 (66 + x) 1).1 316 10 = nI (g + k) := by rw [l2_sO (by decide)]; exact t4
  have ew : f_X2_word (t_setI c 7 (66 + x) 1) = nI (66 + x) := ww
  rw [e10, ew]
  refine h2_ckL (l2_ix (by omega) (by decide)) ?_
  rw [nI_clamp (n := g + k) (by omega)]
  refine h2_lL ?_
  have e10b : (t_setI (t_setI c 7 (66 + x) 1) 325 (g + k) (nI (66 + x))).1 316 10 = nI (g + k) := by rw [l2_sO (by decide)]; exact e10
  rw [e10b, nI_1]
  refine h2_lL (h2_ckL (l2_ix h3 (by decide)) ?_)
  rw [nI_clamp (n := n) (by omega)]
  have e21 : (t_setI (t_setI (t_setI c 7 (66 + x) 1) 325 (g + k) (nI (66 + x))) 316 10 (nI (g + k + 1))).1 321 n = nI k := by
    rw [l2_sO (by decide), l2_sO (by decide), l2_sO (by decide)]; exact k4
  rw [e21, nI_1]
  refine h2_lL ?_
  have w1 : l2_fr (fun b j => (b = 7 ∧ j = 66 + x) ∨ (b = 325 ∧ j = g + k) ∨ (b = 316 ∧ j = 10) ∨ (b = 321 ∧ j = n)) c (t_setI (t_setI (t_setI (t_setI c 7 (66 + x) 1) 325 (g + k) (nI (66 + x))) 316 10 (nI (g + k + 1))) 321 n (nI (k + 1))) := (((l2_fr.set (by omega)).trans (l2_fr.set (by omega))).trans (l2_fr.set (by omega))).trans (l2_fr.set (by omega))
  have v7 : (t_setI (t_setI (t_setI (t_setI c 7 (66 + x) 1) 325 (g + k) (nI (66 + x))) 316 10 (nI (g + k + 1))) 321 n (nI (k + 1))).1 7 (66 + x) = 1 := by simp only [l2_gI, Nat.reduceEqDiff, reduceIte, eq_self]
  have v25 : (t_setI (t_setI (t_setI (t_setI c 7 (66 + x) 1) 325 (g + k) (nI (66 + x))) 316 10 (nI (g + k + 1))) 321 n (nI (k + 1))).1 325 (g + k) = nI (66 + x) := by simp only [l2_gI, Nat.reduceEqDiff, reduceIte, eq_self]
  have v10 : (t_setI (t_setI (t_setI (t_setI c 7 (66 + x) 1) 325 (g + k) (nI (66 + x))) 316 10 (nI (g + k + 1))) 321 n (nI (k + 1))).1 316 10 = nI (g + k + 1) := by simp only [l2_gI, Nat.reduceEqDiff, reduceIte]
  have v21 : (t_setI (t_setI (t_setI (t_setI c 7 (66 + x) 1) 325 (g + k) (nI (66 + x))) 316 10 (nI (g + k + 1))) 321 n (nI (k + 1))).1 321 n = nI (k + 1) := by simp only [l2_gI, reduceIte, eq_self]
  generalize t_setI (t_setI (t_setI (t_setI c 7 (66 + x) 1) 325 (g + k) (nI (66 + x))) 316 10 (nI (g + k + 1))) 321 n (nI (k + 1)) = c1 at *
  -- the reference's node
  refine h2_bR _ (pj_node02 (k := 11) (nd_k20 (K := 11) (by decide)) J) (fun y hy => ?_)
  obtain ⟨y0, r2⟩ := y
  obtain ⟨y1, y2, y3, y4, y5⟩ := hy
  have y2 : y0 = nI (m + k) := y2
  subst y2
  have y3 : l2_fr (nd_V (m + k)) r1 r2 := y3
  have y5 : pj P u1 1 1 q (m + k + 1) c r2 := y5
  obtain ⟨d1, d2, d3, d4, d5, d6, d7⟩ := y4
  refine h2_ckR (l2_ix (by omega) (by decide)) ?_
  rw [nI_clamp (n := m + k) (by omega), nI_l (by omega)]
  refine h2_lR ?_
  have g3 : l2_fr (fun b j => b = 957 ∧ j = m + k) r2 (t_setJ r2 957 (m + k) (lN x)) := l2_fr.setJ ⟨rfl, rfl⟩
  have e57 : (t_setJ r2 957 (m + k) (lN x)).2.1 957 (m + k) = lN x := by simp only [l2_gJ, reduceIte, eq_self]
  show t_h2 _ ((f_X13_hang (nI m0) (nI (m + k)) (t_setJ r2 957 (m + k) (lN x))).bind _) _
  generalize t_setJ r2 957 (m + k) (lN x) = r3 at *
  have fr3 : l2_fr (fun b j => nm_W b j ∨ nd_V (m + k) b j) r r3 := ((fr1.mono (fun b j y => Or.inl y)).trans (y3.mono (fun b j y => Or.inr y))).trans (g3.mono (fun b j y => Or.inr (by unfold nd_V; omega)))
  have eR : ∀ b j, 955 ≤ b → b ≤ 962 → j ≠ m + k → r3.1 b j = r.1 b j ∧ r3.2.1 b j = r.2.1 b j := fun b j x y z => ⟨(fr3 b j (by unfold nm_W nd_V; omega)).1, (fr3 b j (by unfold nm_W nd_V; omega)).2.1⟩
  have ct : ch_R r3 m0 k G := by
    refine ⟨by rw [(eR 959 m0 (by decide) (by decide) (by omega)).1]; exact k6.1, fun j hj => ?_⟩
    obtain ⟨y1, y2, y3, y4⟩ := k6.2 j hj
    have := k7 j hj
    exact ⟨y1, y2, by rw [(eR 960 (G j) (by decide) (by decide) (by omega)).1]; exact y3, y4⟩
  have J3 : pj P u1 1 1 q (m + k + 1) c1 r3 := y5.fr w1 g3 (fun j => by omega) (fun b i _ _ => by omega) (fun b i _ _ => by omega) (by omega) (fun j _ => by omega) (fun b i _ _ => by omega)
  refine h2_bR _ (ch_hang ct (by omega) (by omega) (by omega) J3.f0.2 (by rw [(g3 960 (m + k) (by omega)).1]; exact d6) (fun j hj => by have := k7 j hj; omega)) (fun r4 hz => ?_)
  obtain ⟨z1, z2⟩ := hz
  have z2' : l2_fr (fun b j => b = 959 ∨ b = 960) r3 r4 := z2.mono (fun b j y => by omega)
  have J4 : pj P u1 1 1 q (m + k + 1) c1 r4 := J3.fr (l2_fr.rf (W := fun _ _ => False)) z2' (fun j y => y) (fun b i _ _ y => y) (fun b i _ _ y => y) (fun y => y) (fun j _ => by omega) (fun b i _ _ => by omega)
  have w8 : c1.1 1 8 = 1 := by rw [(w1 1 8 (by omega)).1]; exact h8
  have cw := J4.cword w8
  refine h2_bb _ (pj_adv J4 (by decide) (Or.inl rfl) (by rw [w8]; decide)) (fun c2 r5 hw2 => ?_)
  obtain ⟨p1, p2, p3⟩ := hw2
  have fc2 : l2_fr (fun b j => la_W b j ∨ (b = 7 ∧ j = 66 + x) ∨ (b = 325 ∧ j = g + k) ∨ (b = 316 ∧ j = 10) ∨ (b = 321 ∧ j = n)) c c2 := (w1.mono (fun b j y => Or.inr y)).trans (p1.mono (fun b j y => Or.inl y))
  have fr5 : l2_fr (fun b j => rn_W b j ∨ nm_W b j ∨ nd_V (m + k) b j ∨ (b = 959 ∧ j = m0 ∧ k = 0) ∨ (b = 960 ∧ 0 < k ∧ j = G (k - 1))) r r5 := ((fr3.mono (fun b j y => y.elim (fun y => Or.inr (Or.inl y)) (fun y => Or.inr (Or.inr (Or.inl y))))).trans (z2.mono (fun b j y => Or.inr (Or.inr (Or.inr y))))).trans (p2.mono (fun b j y => Or.inl y))
  have fcc2 : l2_fr (ty_Wc 0 0 0) c0 c2 := fcc.trans (fc2.mono (fun b j y => y.elim (fun y => ty_la y) (fun y => by unfold ty_Wc; omega)))
  have frr5 : l2_fr (ty_Wr 0) r0 r5 := frr.trans (fr5.mono (fun b j y => ty_w5 y))
  rcases p3 with p3 | ⟨f, p, p3, p4⟩
  rotate_left
  · -- a fault of the next token
    refine h2_eL (p3.need (x := 44) (by decide)).2 (h2_ckL rfl (h2_mL ?_))
    unfold k_X6_readEnum_201
    refine h2_eL (p3.need (x := 125) (by decide)).1 (h2_doneL ?_)
    have fin : ∀ x r', pr P f p r' → l2_fr (ty_Wr 0) r5 r' → h2_go b_X13_enumWords_10 (nI m0, x, nI (k + 1), r') (fun u => ew_Q P n m0 a m g l dd u0 q c0 r0 c2 u) := by
      intro x r' q1 q2 N hN
      rw [show N = (N - 1) + 1 by omega, l2_lpR (pr_enend q1 _ x _)]
      exact l2_sm ⟨fcc2, (frr5.trans q2).trans ty_d5, Or.inr ⟨f, p, p3, q1.dead⟩⟩
    refine l2_if (fun _ => l2_sm (fin _ _ p4 l2_fr.rf)) (fun _ => l2_eq (pr_next p4).1 (l2_sm (fin _ _ p4.dead ty_d5)))
  have cm := pc_c_le P u1
  have c2' : ∀ b j, ¬ la_W b j → c2.1 b j = c1.1 b j ∧ c2.2.1 b j = c1.2.1 b j := fun b j h => ⟨(p1 b j h).1, (p1 b j h).2.1⟩
  have r5' : ∀ b j, 951 ≤ b → r5.1 b j = r4.1 b j ∧ r5.2.1 b j = r4.2.1 b j := fun b j h => ⟨(p2 b j (by unfold rn_W; omega)).1, (p2 b j (by unfold rn_W; omega)).2.1⟩
  have T2 : tp P (u1 + 1) 0 0 q (m + k + 1) a (g + (k + 1)) l dd c2 r5 := by
    refine ⟨p3, ?_, t3, ?_, by omega, ?_, by omega, ?_⟩
    · rw [(fc2 316 8 (by unfold la_W; omega)).1]; exact t2
    · rw [(c2' 316 10 (by unfold la_W; omega)).1]; exact v10
    · rw [(fc2 846 6 (by unfold la_W; omega)).1]; exact t6
    · rw [(fr5 950 31 (by unfold rn_W nm_W nd_V; omega)).1]; exact t8
  have K2 : ew_K n m0 a m g l c0 r0 c2 r5 (m + k + 1) (k + 1) (va_up G k (m + k)) (va_up X k x) := by
    refine ⟨by omega, k2.trans (fc2.mono (fun b j y => ?_)), k3.trans (fr5.mono (fun b j y => ?_)), ?_, ?_, ?_, fun j hj => ?_, fun i j hi hj => ?_, fun z hz => ?_⟩
    · rcases y with y | y
      · exact Or.inl (ty_la y)
      · unfold ty_Wc
        omega
    · rcases y with y | y | y | ⟨y1, y2, y3⟩ | ⟨y1, y2, y3⟩
      · exact Or.inl (ty_rn y)
      · exact Or.inl (ty_nm y)
      · exact Or.inl (ty_nd y (by omega))
      · exact Or.inr ⟨y1, y2⟩
      · have := (k7 (k - 1) (by omega)).1
        exact Or.inl (Or.inr (Or.inr ⟨by omega, by omega, by omega⟩))
    · rw [(c2' 321 n (by unfold la_W; omega)).1]; exact v21
    · rw [(fc2 318 n (by unfold la_W; omega)).1]; exact k5
    · obtain ⟨z3, z4⟩ := z1
      refine ⟨by rw [(r5' 959 m0 (by decide)).1]; exact z3, fun j hj => ?_⟩
      rw [(r5' 960 _ (by decide)).1]; exact z4 j hj
    · by_cases e : j = k
      · subst e
        rw [mj_up_eq, mj_up_eq]
        refine ⟨rfl, ?_, hx, ?_, ?_⟩
        · rw [(r5' 955 _ (by decide)).1, (z2' 955 _ (by omega)).1, (g3 955 _ (by omega)).1]; exact d1
        · rw [(r5' 957 _ (by decide)).2, (z2' 957 _ (by omega)).2.1]; exact e57
        · rw [(c2' 325 _ (by unfold la_W; omega)).1]; exact v25
      · rw [mj_up_ne _ _ e, mj_up_ne _ _ e]
        obtain ⟨q1, q2, q3, q4, q5⟩ := k7 j (by omega)
        refine ⟨q1, ?_, q3, ?_, ?_⟩
        · rw [(fr5 955 (G j) (by unfold rn_W nm_W nd_V; omega)).1]; exact q2
        · rw [(fr5 957 (G j) (by unfold rn_W nm_W nd_V; omega)).2.1]; exact q4
        · rw [(fc2 325 (g + j) (by unfold la_W; omega)).1]; exact q5
    · by_cases e : j = k
      · subst e
        rw [mj_up_eq, mj_up_ne _ _ (by omega)]
        exact nx i hi
      · rw [mj_up_ne _ _ e, mj_up_ne _ _ (by omega)]
        exact k8 i j hi (by omega)
    · by_cases e : z = x
      · subst e
        rw [(c2' 7 _ (by unfold la_W; omega)).1, v7]
        exact ⟨fun _ => Or.inr ⟨k, by omega, mj_up_eq _ _ _⟩, fun _ => by decide⟩
      · rw [(fc2 7 (66 + z) (by unfold la_W; omega)).1, k9 z hz]
        constructor
        · rintro (y | ⟨j, j1, j2⟩)
          · exact Or.inl y
          · exact Or.inr ⟨j, by omega, by rw [mj_up_ne _ _ (by omega)]; exact j2⟩
        · rintro (y | ⟨j, j1, j2⟩)
          · exact Or.inl y
          · by_cases e2 : j = k
            · rw [e2, mj_up_eq] at j2
              exact absurd j2.symm e
            · rw [mj_up_ne _ _ e2] at j2
              exact Or.inr ⟨j, by omega, j2⟩
  rcases p3.is (x := 44) (by decide) with ⟨s1, s2⟩ | ⟨s1, s2⟩
  · rw [show (44 : Int32) = nI (sg 44) from rfl, s2]
    refine h2_noR (by decide) (h2_bb _ (pj_took p3 (by decide) (x := 44) (by decide) s1) (fun y r6 hy => ?_))
    obtain ⟨y0, c3⟩ := y
    obtain ⟨y1, y2, y3, y4⟩ := hy
    have y1 : y0 = 1 := y1
    subst y1
    have y2 : l2_fr la_W c2 c3 := y2
    have y4 : pj P (u1 + 1 + 1) 0 0 q (m + k + 1) c3 r6 ∨ pf P c3 r6 := y4
    refine h2_noL (show ¬ (1 : Int32) = 0 by decide) (h2_sm ?_)
    refine ⟨16 - k, by omega, k + 1, c3, r6, by omega, by omega, ?_, ?_, fcc2.trans (y2.mono (fun b j y => ty_la y)), frr5.trans (y3.mono (fun b j y => ty_rn y)), ?_⟩
    · rfl
    · rfl
    · rcases y4 with y4 | y4
      · refine Or.inl ⟨u1 + 1 + 1, m + k + 1, va_up G k (m + k), va_up X k x, by omega, ?_, ?_⟩
        · obtain ⟨_, t2, t3, t4, t5, t6, t7, t8⟩ := T2
          have cm := pc_c_le P (u1 + 1)
          refine ⟨y4, ?_, t3, ?_, by omega, ?_, by omega, ?_⟩
          · rw [(y2 316 8 (by unfold la_W; omega)).1]; exact t2
          · rw [(y2 316 10 (by unfold la_W; omega)).1]; exact t4
          · rw [(y2 846 6 (by unfold la_W; omega)).1]; exact t6
          · rw [(y3 950 31 (by unfold rn_W; omega)).1]; exact t8
        · obtain ⟨h1, h2, h3, h4, h5, h6, h7, h8, h9⟩ := K2
          have ac : ∀ b j, 2 ≤ b → c3.1 b j = c2.1 b j := fun b j x => (y2 b j (by unfold la_W; omega)).1
          have ar : ∀ b j, 951 ≤ b → r6.1 b j = r5.1 b j ∧ r6.2.1 b j = r5.2.1 b j := fun b j x => ⟨(y3 b j (by unfold rn_W; omega)).1, (y3 b j (by unfold rn_W; omega)).2.1⟩
          refine ⟨h1, h2.trans (y2.mono (fun b j y => Or.inl (ty_la y))), h3.trans (y3.mono (fun b j y => Or.inl (ty_rn y))), ?_, ?_, ?_, fun j hj => ?_, h8, fun z hz => ?_⟩
          · rw [ac 321 n (by decide)]; exact h4
          · rw [ac 318 n (by decide)]; exact h5
          · refine ⟨by rw [(ar 959 m0 (by decide)).1]; exact h6.1, fun j hj => ?_⟩
            rw [(ar 960 _ (by decide)).1]; exact h6.2 j hj
          · unfold ty_w
            rw [(ar 955 _ (by decide)).1, (ar 957 _ (by decide)).2, ac 325 _ (by decide)]
            exact h7 j hj
          · rw [ac 7 _ (by decide)]; exact h9 z hz
      · exact Or.inr y4
  · rw [show (44 : Int32) = nI (sg 44) from rfl, s2]
    refine h2_eL (pj_nottook s1) (h2_ckL rfl (h2_mL ?_))
    unfold k_X6_readEnum_201
    obtain ⟨c3, r6, e1, e2, y2, y3, y4⟩ := pj_need p3 (by decide) (x := 125) (by decide) (s := 125) rfl
    have fin : ew_Q P n m0 a m g l dd u0 q c0 r0 c3 r6 := by
      refine ⟨fcc2.trans (y2.mono (fun b j y => ty_la y)), frr5.trans (y3.mono (fun b j y => ty_rn y)), ?_⟩
      rcases y4 with y4 | y4
      · refine Or.inl ⟨k + 1, u1 + 1 + 1, m + k + 1, va_up G k (m + k), va_up X k x, by omega, by omega, by omega, ?_, ?_⟩
        · obtain ⟨_, t2, t3, t4, t5, t6, t7, t8⟩ := T2
          have cm := pc_c_le P (u1 + 1)
          refine ⟨y4, ?_, t3, ?_, by omega, ?_, by omega, ?_⟩
          · rw [(y2 316 8 (by unfold la_W; omega)).1]; exact t2
          · rw [(y2 316 10 (by unfold la_W; omega)).1]; exact t4
          · rw [(y2 846 6 (by unfold la_W; omega)).1]; exact t6
          · rw [(y3 950 31 (by unfold rn_W; omega)).1]; exact t8
        · obtain ⟨h1, h2, h3, h4, h5, h6, h7, h8, h9⟩ := K2
          have ac : ∀ b j, 2 ≤ b → c3.1 b j = c2.1 b j := fun b j x => (y2 b j (by unfold la_W; omega)).1
          have ar : ∀ b j, 951 ≤ b → r6.1 b j = r5.1 b j ∧ r6.2.1 b j = r5.2.1 b j := fun b j x => ⟨(y3 b j (by unfold rn_W; omega)).1, (y3 b j (by unfold rn_W; omega)).2.1⟩
          refine ⟨h1, h2.trans (y2.mono (fun b j y => Or.inl (ty_la y))), h3.trans (y3.mono (fun b j y => Or.inl (ty_rn y))), ?_, ?_, ?_, fun j hj => ?_, h8, fun z hz => ?_⟩
          · rw [ac 321 n (by decide)]; exact h4
          · rw [ac 318 n (by decide)]; exact h5
          · refine ⟨by rw [(ar 959 m0 (by decide)).1]; exact h6.1, fun j hj => ?_⟩
            rw [(ar 960 _ (by decide)).1]; exact h6.2 j hj
          · unfold ty_w
            rw [(ar 955 _ (by decide)).1, (ar 957 _ (by decide)).2, ac 325 _ (by decide)]
            exact h7 j hj
          · rw [ac 7 _ (by decide)]; exact h9 z hz
      · exact Or.inr y4
    refine h2_eL e1 (h2_ckR rfl (h2_sm (fun N hN => ?_)))
    have e : b_X13_enumWords_10 (nI m0, 0, nI (k + 1), r5) = some (.inr r6) := by
      show k_X13_enumWords_10 (nI m0) 0 (nI (k + 1)) r5 = _
      unfold k_X13_enumWords_10 k_X13_enumWords_120
      rw [if_pos rfl, e2]
      rfl
    rw [show N = (N - 1) + 1 by omega, l2_lpR e]
    exact l2_sm fin
