/-! Level 2: the ranges of an int, on both sides. -/
theorem lc_F.node {c : t_S} {f p : Nat} (h : lc_F c f p) : t_hk (f_X6_node c) (fun c' => lc_F c' f p ∧ l2_fr (ty_Wc 0 0 0) c c') := by
  unfold f_X6_node
  refine l2_if (fun _ => ?_) (fun _ => ?_)
  · have w : l2_fr (fun b j => b = 845 ∧ j = 10) c (t_setI c 845 10 (c.1 845 10 + 1)) := l2_fr.set ⟨rfl, rfl⟩
    exact l2_lt (l2_sm ⟨h.fr w (fun j _ _ => by omega), w.mono (fun b j y => by unfold ty_Wc; omega)⟩)
  · rw [(lc_stay h).2]
    exact l2_sm ⟨h, l2_fr.rf⟩
theorem lc_F.int92 {c : t_S} {f p : Nat} (h : lc_F c f p) (l1 l2 l3 : Int32) : t_hk (k_X6_readInt_92 l1 l2 l3 c) (fun z => ∃ c', z = .inr c' ∧ lc_F c' f p ∧ l2_fr (ty_Wc 0 0 0) c c') := by
  unfold k_X6_readInt_92
  refine l2_bd _ h.node (fun c' w => ?_)
  exact l2_no w.1.ne (l2_mp (l2_sm ⟨c', rfl, w⟩))
theorem lc_F.int78 {c : t_S} {f p : Nat} (h : lc_F c f p) (l1 l2 l3 : Int32) : t_hk (k_X6_readInt_78 l1 l2 l3 c) (fun z => ∃ c', z = .inr c' ∧ lc_F c' f p ∧ l2_fr (ty_Wc 0 0 0) c c') := by
  unfold k_X6_readInt_78
  refine l2_if (fun _ => ?_) (fun _ => h.int92 l1 l2 l3)
  rw [(lc_stay h).2]
  exact h.int92 l1 l2 l3
theorem lc_F.int346 {c : t_S} {f p : Nat} (h : lc_F c f p) : k_X6_readInt_346 c = some c := by
  unfold k_X6_readInt_346
  rw [(h.need (x := 41) (by decide)).1]
  rfl
theorem ty_xy {j b i : Nat} (h : (b = 957 ∨ b = 958) ∧ i = j) : ty_Wr 0 b i := by
  unfold ty_Wr
  omega
theorem ty_d5 {r : t_S} : l2_fr (ty_Wr 0) r (t_setI r 950 5 0) := l2_fr.set (Or.inl ⟨rfl, by decide⟩)
/-- the reference behind a fault: the end of a range -/
theorem pr_129 {P : pc_S} {f p : Nat} {r : t_S} (h : pr P f p r) (l1 l3 l4 : Int32) : k_X13_ranges_129 l1 l3 l4 r = some (.inl (l1, f_X13_is 44 r, l3 + 1, r)) := by
  unfold k_X13_ranges_129
  rw [pr_hang h]
  rfl
theorem pr_rg3 {P : pc_S} {f p : Nat} {r : t_S} {j : Nat} (h : pr P f p r) (l1 l3 : Int32) : t_hk (if (f_X13_is (11822 : Int32) r) = (0 : Int32) then (k_X13_ranges_129 l1 l3 (nI j) r) else ((f_X13_next r).bind (fun r5 => (f_X13_num (r5.2.1 957 j) r5).bind (fun r6 => t_let (t_setJ r6.2 958 j r6.1) (fun s3 => k_X13_ranges_129 l1 l3 (nI j) s3))))) (fun z => ∃ x r', z = .inl (l1, x, l3 + 1, r') ∧ pr P f p r' ∧ l2_fr (ty_Wr 0) r r') := by
  refine l2_if (fun _ => ?_) (fun _ => ?_)
  · rw [pr_129 h]
    exact l2_sm ⟨_, _, rfl, h, l2_fr.rf⟩
  · refine l2_eq (pr_next h).1 (l2_bd _ (pr_num h.dead) (fun y hy => ?_))
    obtain ⟨v, r2⟩ := y
    have hy : r2 = t_setI (t_setI r 950 5 0) 950 5 0 := hy
    have h2 : pr P f p r2 := by rw [hy]; exact h.dead.dead
    have g4 : l2_fr (fun b i => (b = 957 ∨ b = 958) ∧ i = j) r2 (t_setJ r2 958 j v) := l2_fr.setJ ⟨Or.inr rfl, rfl⟩
    have h3 := h2.xy g4
    refine l2_lt ?_
    show t_hk (k_X13_ranges_129 l1 l3 (nI j) (t_setJ r2 958 j v)) _
    rw [pr_129 h3]
    refine l2_sm ⟨_, _, rfl, h3, ?_⟩
    have g5 : l2_fr (ty_Wr 0) r r2 := by rw [hy]; exact ty_d5.trans ty_d5
    exact g5.trans (g4.mono (fun b i y => ty_xy y))
theorem pr_rgN {P : pc_S} {f p : Nat} {r : t_S} {j : Nat} (h : pr P f p r) (hj : j < 13000) (l1 l3 : Int32) : t_hk ((f_X13_num (-1000000000000000 : Int64) r).bind (fun r2 => if t_ix (nI j) 13000 = true then t_let (t_setJ r2.2 957 ((nI j).toNatClampNeg) r2.1) (fun s1 => t_let (t_setJ s1 958 ((nI j).toNatClampNeg) (s1.2.1 957 ((nI j).toNatClampNeg))) (fun s2 => if (f_X13_is (11822 : Int32) s2) = (0 : Int32) then (k_X13_ranges_129 l1 l3 (nI j) s2) else ((f_X13_next s2).bind (fun r5 => (f_X13_num (r5.2.1 957 ((nI j).toNatClampNeg)) r5).bind (fun r6 => t_let (t_setJ r6.2 958 ((nI j).toNatClampNeg) r6.1) (fun s3 => k_X13_ranges_129 l1 l3 (nI j) s3)))))) else none)) (fun z => ∃ x r', z = .inl (l1, x, l3 + 1, r') ∧ pr P f p r' ∧ l2_fr (ty_Wr 0) r r') := by
  refine l2_bd _ (pr_num h) (fun y hy => ?_)
  obtain ⟨v, r2⟩ := y
  have hy : r2 = t_setI r 950 5 0 := hy
  have h2 : pr P f p r2 := by rw [hy]; exact h.dead
  refine l2_ck (l2_ix hj (by decide)) ?_
  rw [nI_clamp (n := j) (by omega)]
  have g4 : l2_fr (fun b i => (b = 957 ∨ b = 958) ∧ i = j) r2 (t_setJ (t_setJ r2 957 j v) 958 j ((t_setJ r2 957 j v).2.1 957 j)) := (l2_fr.setJ ⟨Or.inl rfl, rfl⟩).trans (l2_fr.setJ ⟨Or.inr rfl, rfl⟩)
  have g5 : l2_fr (ty_Wr 0) r r2 := by rw [hy]; exact ty_d5
  refine l2_lt (l2_lt (l2_imp (pr_rg3 (h2.xy g4) l1 l3) (fun z hz => ?_)))
  obtain ⟨x, r', e, hz, w⟩ := hz
  exact ⟨x, r', e, hz, (g5.trans (g4.mono (fun b i y => ty_xy y))).trans w⟩
theorem pr_rg60 {P : pc_S} {f p : Nat} {r : t_S} (h : pr P f p r) (l1 l3 : Int32) : t_hk (k_X13_ranges_60 l1 l3 r) (fun z => ∃ x r', z = .inl (l1, x, l3 + 1, r') ∧ pr P f p r' ∧ l2_fr (ty_Wr 0) r r') := by
  unfold k_X13_ranges_60
  refine l2_bd _ (pr_node2 (nd_k20 (K := 9) (by decide)) h) (fun y hy => ?_)
  obtain ⟨j, j1, j2, j3, j4, j5⟩ := hy
  rw [j2]
  refine l2_imp (pr_rgN j5 j1 l1 l3) (fun z hz => ?_)
  obtain ⟨x, r', e, hz, w⟩ := hz
  exact ⟨x, r', e, hz, (j3.mono (fun b i y => ty_nd y (Nat.zero_le _))).trans w⟩
theorem pr_rg45 {P : pc_S} {f p : Nat} {r : t_S} (h : pr P f p r) (l1 l3 : Int32) : t_hk (k_X13_ranges_45 l1 l3 r) (fun z => ∃ x r', z = .inl (l1, x, l3 + 1, r') ∧ pr P f p r' ∧ l2_fr (ty_Wr 0) r r') := by
  unfold k_X13_ranges_45
  refine l2_if (fun _ => ?_) (fun _ => pr_rg60 h l1 l3)
  rw [(pr_next h).2]
  exact pr_rg60 h l1 l3
theorem pr_rgend {P : pc_S} {f p : Nat} {r : t_S} (h : pr P f p r) (l1 x l3 : Int32) : h2_go b_X13_ranges_4 (l1, x, l3, r) (fun r' => pr P f p r' ∧ l2_fr (ty_Wr 0) r r') := by
  intro N hN
  have e : b_X13_ranges_4 (l1, x, l3, r) = some (.inr (t_setI r 950 5 0)) := by
    show k_X13_ranges_4 l1 x l3 r = _
    unfold k_X13_ranges_4 k_X13_ranges_149
    rw [pr_mustBe h, if_neg h.ne]
    split <;> rfl
  rw [show N = (N - 1) + 1 by omega, l2_lpR e]
  exact l2_sm ⟨h.dead, ty_d5⟩
/-- k ranges have been read -/
def rg_K (n m0 a0 m g l : Nat) (c0 r0 c r : t_S) (a1 m1 k : Nat) (F G : Nat → Nat) : Prop := a0 ≤ a1 ∧ m ≤ m1 ∧ l2_fr (fun b j => (ty_Wc a0 g l b j ∧ b ≠ 7) ∨ ((b = 318 ∨ b = 321 ∨ b = 322 ∨ b = 323) ∧ j = n)) c0 c ∧ l2_fr (fun b j => ty_Wr m b j ∨ (b = 959 ∧ j = m0)) r0 r ∧ cc_R c n k F ∧ ch_R r m0 k G ∧ c.1 321 n = nI k ∧ (∀ j, j < k → a0 ≤ F j ∧ F j < a1 ∧ m ≤ G j ∧ G j < m1 ∧ ty_g c r (F j) (G j)) ∧ ty_mm c n k F ∧ ∀ i, m ≤ i → i < m1 → r.1 955 i = 9
def rg_I (P : pc_S) (n m0 a0 m g l dd u0 q0 : Nat) (c0 r0 : t_S) (w : Nat) (x y : Int32 × Int32 × Int32 × t_S) : Prop := ∃ (k : Nat) (last : Int32) (c r r1 : t_S), k + w = 7 ∧ k ≤ 6 ∧ x = (nI n, last, nI k, c) ∧ y = (nI m0, 1, nI k, r) ∧ f_X13_next r = some r1 ∧ r.1 950 2 = 0 ∧ l2_fr rn_W r r1 ∧ l2_fr (ty_Wc 0 0 0) c0 c ∧ l2_fr (ty_Wr 0) r0 r ∧ ((∃ u1 q1 m1 a1 F G, (u0 < u1 ∧ q0 ≤ q1) ∧ tp P u1 0 0 q1 m1 a1 g l dd c r1 ∧ rg_K n m0 a0 m g l c0 r0 c r1 a1 m1 k F G ∧ (0 < k → last = nI (F (k - 1)))) ∨ pf P c r1)
def rg_Q (P : pc_S) (n m0 a0 m g l dd u0 q0 : Nat) (c0 r0 c r : t_S) : Prop := l2_fr (ty_Wc 0 0 0) c0 c ∧ l2_fr (ty_Wr 0) r0 r ∧ ((∃ k u1 q1 m1 a1 F G, k ≤ 6 ∧ (u0 < u1 ∧ q0 ≤ q1) ∧ tp P u1 0 0 q1 m1 a1 g l dd c r ∧ rg_K n m0 a0 m g l c0 r0 c r a1 m1 k F G) ∨ pf P c r)
theorem pc_c_mono (P : pc_S) : ∀ u v, u ≤ v → pc_c P u ≤ pc_c P v := by
  intro u v h
  induction v with
  | zero => rw [show u = 0 by omega]; exact Nat.le_refl _
  | succ v ih =>
    by_cases e : u = v + 1
    · rw [e]; exact Nat.le_refl _
    · exact Nat.le_trans (ih (by omega)) (pc_c_le P v)
/-- behind the numbers of a range: both sides hang it there, and look for a comma -/
theorem rg_join {P : pc_S} {n m0 a0 m g l dd u0 q0 u1 v q1 m1 a1 k : Nat} {c0 r0 c r s t : t_S} {last : Int32} {F G : Nat → Nat} {hi : Int64} (hk : k < 6) (hn : n < a0) (hm0 : m0 < m) (hu : u0 < u1 ∧ q0 ≤ q1) (huv : u1 < v)
    (K : rg_K n m0 a0 m g l c0 r0 c r a1 m1 k F G) (hl : 0 < k → last = nI (F (k - 1))) (fcc : l2_fr (ty_Wc 0 0 0) c0 c) (frr : l2_fr (ty_Wr 0) r0 r)
    (J : pj P v 0 0 q1 (m1 + 1) s t) (c8 : s.1 316 8 = nI (a1 + 1)) (ha : a1 + 1 ≤ q1) (c10 : s.1 316 10 = nI g) (hg : g ≤ pc_c P u1) (l6 : s.1 846 6 = nI l) (hl6 : l ≤ pc_c P u1) (d31 : t.1 950 31 = nI dd)
    (fc : l2_fr (fun b j => la_W b j ∨ (b = 845 ∧ j = 10) ∨ (b = 316 ∧ j = 8) ∨ (317 ≤ b ∧ b ≤ 323 ∧ j = a1)) c s) (fr : l2_fr (fun b j => rn_W b j ∨ (b = 950 ∧ (j = 24 ∨ j = 28)) ∨ (955 ≤ b ∧ b ≤ 962 ∧ j = m1)) r t)
    (g17 : s.1 317 a1 = 10) (g19 : s.1 319 a1 = -1) (g55 : t.1 955 m1 = 9) (g60 : t.1 960 m1 = -1) (e22 : s.2.1 322 a1 = t.2.1 957 m1) (e23 : hi = t.2.1 958 m1) (b1 : -(10 ^ 15) ≤ (s.2.1 322 a1).toInt) (b2 : (s.2.1 322 a1).toInt ≤ hi.toInt) (b3 : hi.toInt ≤ 10 ^ 15) :
    t_h2 (k_X6_readInt_183 (nI n) last (nI k) (nI a1) hi (nI a1) s) (k_X13_ranges_129 (nI m0) (nI k) (nI m1) t) (h2_nx b_X6_readInt_41 b_X13_ranges_4 (fun x y => ∃ w, w < 7 - k ∧ rg_I P n m0 a0 m g l dd u0 q0 c0 r0 w x y) (rg_Q P n m0 a0 m g l dd u0 q0 c0 r0)) := by
  obtain ⟨k1, k2, k3, k4, k5, k6, k7, k8, k9, k10⟩ := K
  have q3 : q1 ≤ 3000 := by
    obtain ⟨B, L, W0, W, V, sl, H, T, n, t0, mm⟩ := P
    exact J.2.2.2.2.2.2.2.1
  have m9 : m1 < 12999 := by
    obtain ⟨B, L, W0, W, V, sl, H, T, n, t0, mm⟩ := P
    have := J.2.2.2.2.2.2.2.2.2.1
    have := J.2.2.2.2.2.2.2.2.2.2
    have := J.1.2.1.2.2.2.1
    omega
  have eC : ∀ b j, 317 ≤ b → b ≤ 323 → j ≠ a1 → s.1 b j = c.1 b j ∧ s.2.1 b j = c.2.1 b j := fun b j x y z => ⟨(fc b j (by unfold la_W; omega)).1, (fc b j (by unfold la_W; omega)).2.1⟩
  have eR : ∀ b j, 955 ≤ b → b ≤ 962 → j ≠ m1 → t.1 b j = r.1 b j ∧ t.2.1 b j = r.2.1 b j := fun b j x y z => ⟨(fr b j (by unfold rn_W; omega)).1, (fr b j (by unfold rn_W; omega)).2.1⟩
  have fcs : l2_fr (ty_Wc 0 0 0) c0 s := fcc.trans (fc.mono (fun b j y => by unfold la_W at y; unfold ty_Wc; omega))
  have frt : l2_fr (ty_Wr 0) r0 t := frr.trans (fr.mono (fun b j y => by unfold rn_W at y; unfold ty_Wr; omega))
  have cs : cc_R s n k F := by
    refine ⟨by rw [(eC 318 n (by decide) (by decide) (by omega)).1]; exact k5.1, fun j hj => ?_⟩
    obtain ⟨y1, y2, y3, y4⟩ := k5.2 j hj
    have := k8 j hj
    exact ⟨y1, y2, by rw [(eC 319 (F j) (by decide) (by decide) (by omega)).1]; exact y3, y4⟩
  have ct : ch_R t m0 k G := by
    refine ⟨by rw [(eR 959 m0 (by decide) (by decide) (by omega)).1]; exact k6.1, fun j hj => ?_⟩
    obtain ⟨y1, y2, y3, y4⟩ := k6.2 j hj
    have := k8 j hj
    exact ⟨y1, y2, by rw [(eR 960 (G j) (by decide) (by decide) (by omega)).1]; exact y3, y4⟩
  have mms : ty_mm s n k F := by
    have e0 := fun b x y => (eC b n x y (by omega)).2
    refine ⟨fun z => by rw [e0 322 (by decide) (by decide), e0 323 (by decide) (by decide)]; exact k9.1 z, fun z => ?_⟩
    obtain ⟨y1, ⟨i, y2, y3⟩, i2, y4, y5⟩ := k9.2 z
    have ej : ∀ j, j < k → ∀ b, 317 ≤ b → b ≤ 323 → s.2.1 b (F j) = c.2.1 b (F j) := fun j hj b x y => (eC b (F j) x y (by have := k8 j hj; omega)).2
    refine ⟨fun j hj => ?_, ⟨i, y2, ?_⟩, i2, y4, ?_⟩
    · rw [e0 322 (by decide) (by decide), e0 323 (by decide) (by decide), ej j hj 322 (by decide) (by decide), ej j hj 323 (by decide) (by decide)]
      exact y1 j hj
    · rw [e0 322 (by decide) (by decide), ej i y2 322 (by decide) (by decide)]; exact y3
    · rw [e0 323 (by decide) (by decide), ej i2 y4 323 (by decide) (by decide)]; exact y5
  refine rg_tail (by omega) (by omega) (by omega) cs (fun j hj => by have := k8 j hj; omega) hl (by rw [(eC 321 n (by decide) (by decide) (by omega)).1]; exact k7) g19 mms (fun s' w1 w2 w3 w4 w5 w6 => ?_)
  have f0 := J.f0
  unfold k_X13_ranges_129
  refine h2_bR _ (ch_hang ct (by omega) (by omega) (by omega) f0.2 g60 (fun j hj => by have := k8 j hj; omega)) (fun t' hz => ?_)
  obtain ⟨z1, z2⟩ := hz
  have ws : ∀ j, F j = F j := fun _ => rfl
  have w1' : l2_fr (fun b j => 317 ≤ b ∧ b ≤ 323) s s' := w1.mono (fun b j y => by omega)
  have z2' : l2_fr (fun b j => b = 959 ∨ b = 960) t t' := z2.mono (fun b j y => by omega)
  have J' : pj P v 0 0 q1 (m1 + 1) s' t' := J.fr w1' z2' (fun j => by omega) (fun b i _ _ => by omega) (fun b i _ _ => by omega) (by omega) (fun j _ => by omega) (fun b i _ _ => by omega)
  have T' : tp P v 0 0 q1 (m1 + 1) (a1 + 1) g l dd s' t' := by
    have cm := pc_c_mono P u1 v (by omega)
    refine ⟨J', ?_, ha, ?_, by omega, ?_, by omega, ?_⟩
    · rw [(w1' 316 8 (by omega)).1]; exact c8
    · rw [(w1' 316 10 (by omega)).1]; exact c10
    · rw [(w1' 846 6 (by omega)).1]; exact l6
    · rw [(z2' 950 31 (by omega)).1]; exact d31
  -- what stands behind the range
  have K' : rg_K n m0 a0 m g l c0 r0 s' t' (a1 + 1) (m1 + 1) (k + 1) (va_up F k a1) (va_up G k m1) := by
    refine ⟨by omega, by omega, (k3.trans (fc.mono (fun b j y => ?_))).trans (w1.mono (fun b j y => ?_)), (k4.trans (fr.mono (fun b j y => ?_))).trans (z2.mono (fun b j y => ?_)), w2, z1, w3, fun j hj => ?_, w6, fun i x y => ?_⟩
    · refine Or.inl ?_
      unfold la_W at y
      unfold ty_Wc
      omega
    · rcases y with y | y | ⟨y1, y2, y3⟩
      · exact Or.inr y
      · refine Or.inl ?_
        unfold ty_Wc
        omega
      · refine Or.inl ?_
        have := k8 (k - 1) (by omega)
        unfold ty_Wc
        omega
    · refine Or.inl ?_
      unfold rn_W at y
      unfold ty_Wr
      omega
    · rcases y with ⟨y1, y2, y3⟩ | ⟨y1, y2, y3⟩
      · exact Or.inr ⟨y1, y2⟩
      · refine Or.inl ?_
        have := k8 (k - 1) (by omega)
        unfold ty_Wr
        omega
    · by_cases e : j = k
      · subst e
        rw [mj_up_eq, mj_up_eq]
        refine ⟨by omega, by omega, by omega, by omega, ?_, ?_, ?_, ?_, ?_, ?_, ?_⟩
        · rw [(w1 317 a1 (by omega)).1]; exact g17
        · rw [(z2' 955 m1 (by omega)).1]; exact g55
        · rw [w4, (z2' 957 m1 (by omega)).2.1]; exact e22
        · rw [w5, (z2' 958 m1 (by omega)).2.1]; exact e23
        · rw [w4]; exact b1
        · rw [w4, w5]; exact b2
        · rw [w5]; exact b3
      · obtain ⟨y1, y2, y3, y4, y5, y6, y7, y8, y9⟩ := k8 j (by omega)
        rw [mj_up_ne _ _ e, mj_up_ne _ _ e]
        have c17 := (eC 317 (F j) (by decide) (by decide) (by omega)).1
        have c22 := (eC 322 (F j) (by decide) (by decide) (by omega)).2
        have c23 := (eC 323 (F j) (by decide) (by decide) (by omega)).2
        have r55 := (eR 955 (G j) (by decide) (by decide) (by omega)).1
        have r57 := (eR 957 (G j) (by decide) (by decide) (by omega)).2
        have r58 := (eR 958 (G j) (by decide) (by decide) (by omega)).2
        refine ⟨by omega, by omega, by omega, by omega, ?_, ?_, ?_, ?_, ?_⟩
        · rw [(w1 317 (F j) (by omega)).1, c17]; exact y5
        · rw [(z2' 955 (G j) (by omega)).1, r55]; exact y6
        · rw [(w1 322 (F j) (by omega)).2.1, c22, (z2' 957 (G j) (by omega)).2.1, r57]; exact y7
        · rw [(w1 323 (F j) (by omega)).2.1, c23, (z2' 958 (G j) (by omega)).2.1, r58]; exact y8
        · rw [(w1 322 (F j) (by omega)).2.1, c22, (w1 323 (F j) (by omega)).2.1, c23]; exact y9
    · rw [(z2' 955 i (by omega)).1]
      by_cases e : i = m1
      · rw [e]; exact g55
      · rw [(eR 955 i (by decide) (by decide) e).1]
        exact k10 i x (by omega)
  have fcs' : l2_fr (ty_Wc 0 0 0) c0 s' := fcs.trans (w1'.mono (fun b j y => by unfold ty_Wc; omega))
  have frt' : l2_fr (ty_Wr 0) r0 t' := frt.trans (z2'.mono (fun b j y => by unfold ty_Wr; omega))
  rcases J'.is (x := 44) (by decide) with ⟨a, b⟩ | ⟨a, b⟩
  · rw [show (44 : Int32) = nI (sg 44) from rfl, b]
    obtain ⟨x, r1, e1, e2, y1, y2, y3, y4⟩ := pj_took J' (by decide) (x := 44) (by decide) a
    obtain ⟨x1, x2⟩ := x
    have y1 : x1 = 1 := y1
    subst y1
    refine h2_eL e1 (h2_noL (show ¬ (1 : Int32) = 0 by decide) (h2_sm ?_))
    have y2 : l2_fr la_W s' x2 := y2
    have y4 : pj P (v + 1) 0 0 q1 (m1 + 1) x2 r1 ∨ pf P x2 r1 := y4
    refine ⟨6 - k, by omega, k + 1, nI a1, x2, t', r1, by omega, by omega, ?_, ?_, e2, (J'.f0).2, y3, fcs'.trans (y2.mono (fun b j y => ty_la y)), frt', ?_⟩
    · rw [nI_1]
    · rw [nI_1]
    · rcases y4 with y4 | y4
      · refine Or.inl ⟨v + 1, q1, m1 + 1, a1 + 1, va_up F k a1, va_up G k m1, by omega, ?_, ?_, fun _ => by rw [show k + 1 - 1 = k by omega, mj_up_eq]⟩
        · obtain ⟨_, t2, t3, t4, t5, t6, t7, t8⟩ := T'
          have cm := pc_c_le P v
          refine ⟨y4, ?_, t3, ?_, by omega, ?_, by omega, ?_⟩
          · rw [(y2 316 8 (by unfold la_W; omega)).1]; exact t2
          · rw [(y2 316 10 (by unfold la_W; omega)).1]; exact t4
          · rw [(y2 846 6 (by unfold la_W; omega)).1]; exact t6
          · rw [(y3 950 31 (by unfold rn_W; omega)).1]; exact t8
        · obtain ⟨h1, h2, h3, h4, h5, h6, h7, h8, h9, h10⟩ := K'
          have ac : ∀ b j, 317 ≤ b → b ≤ 323 → x2.1 b j = s'.1 b j ∧ x2.2.1 b j = s'.2.1 b j := fun b j x y => ⟨(y2 b j (by unfold la_W; omega)).1, (y2 b j (by unfold la_W; omega)).2.1⟩
          have ar : ∀ b j, 955 ≤ b → b ≤ 962 → r1.1 b j = t'.1 b j ∧ r1.2.1 b j = t'.2.1 b j := fun b j x y => ⟨(y3 b j (by unfold rn_W; omega)).1, (y3 b j (by unfold rn_W; omega)).2.1⟩
          refine ⟨h1, h2, h3.trans (y2.mono (fun b j y => Or.inl ⟨ty_la y, by unfold la_W at y; omega⟩)), h4.trans (y3.mono (fun b j y => Or.inl (ty_rn y))), ?_, ?_, ?_, fun j hj => ?_, ?_, fun i x y => ?_⟩
          · refine ⟨by rw [(ac 318 n (by decide) (by decide)).1]; exact h5.1, fun j hj => ?_⟩
            rw [(ac 319 _ (by decide) (by decide)).1]; exact h5.2 j hj
          · refine ⟨by rw [(ar 959 m0 (by decide) (by decide)).1]; exact h6.1, fun j hj => ?_⟩
            rw [(ar 960 _ (by decide) (by decide)).1]; exact h6.2 j hj
          · rw [(ac 321 n (by decide) (by decide)).1]; exact h7
          · unfold ty_g
            rw [(ac 317 _ (by decide) (by decide)).1, (ac 322 _ (by decide) (by decide)).2, (ac 323 _ (by decide) (by decide)).2, (ar 955 _ (by decide) (by decide)).1, (ar 957 _ (by decide) (by decide)).2, (ar 958 _ (by decide) (by decide)).2]
            exact h8 j hj
          · unfold ty_mm
            simp only [(ac 322 _ (by decide) (by decide)).2, (ac 323 _ (by decide) (by decide)).2]
            exact h9
          · rw [(ar 955 i (by decide) (by decide)).1]; exact h10 i x y
      · exact Or.inr y4
  · rw [show (44 : Int32) = nI (sg 44) from rfl, b]
    refine h2_eL (pj_nottook a) (h2_ckL rfl (h2_mL ?_))
    unfold k_X6_readInt_346
    obtain ⟨c2, r2, e1, e2, y1, y2, y3⟩ := pj_need J' (by decide) (x := 41) (by decide) (s := 41) rfl
    have fin : rg_Q P n m0 a0 m g l dd u0 q0 c0 r0 c2 r2 := by
      refine ⟨fcs'.trans (y1.mono (fun b j y => ty_la y)), frt'.trans (y2.mono (fun b j y => ty_rn y)), ?_⟩
      rcases y3 with y3 | y3
      · refine Or.inl ⟨k + 1, v + 1, q1, m1 + 1, a1 + 1, va_up F k a1, va_up G k m1, by omega, by omega, ?_, ?_⟩
        · obtain ⟨_, t2, t3, t4, t5, t6, t7, t8⟩ := T'
          have cm := pc_c_le P v
          refine ⟨y3, ?_, t3, ?_, by omega, ?_, by omega, ?_⟩
          · rw [(y1 316 8 (by unfold la_W; omega)).1]; exact t2
          · rw [(y1 316 10 (by unfold la_W; omega)).1]; exact t4
          · rw [(y1 846 6 (by unfold la_W; omega)).1]; exact t6
          · rw [(y2 950 31 (by unfold rn_W; omega)).1]; exact t8
        · obtain ⟨h1, h2, h3, h4, h5, h6, h7, h8, h9, h10⟩ := K'
          have ac : ∀ b j, 317 ≤ b → b ≤ 323 → c2.1 b j = s'.1 b j ∧ c2.2.1 b j = s'.2.1 b j := fun b j x y => ⟨(y1 b j (by unfold la_W; omega)).1, (y1 b j (by unfold la_W; omega)).2.1⟩
          have ar : ∀ b j, 955 ≤ b → b ≤ 962 → r2.1 b j = t'.1 b j ∧ r2.2.1 b j = t'.2.1 b j := fun b j x y => ⟨(y2 b j (by unfold rn_W; omega)).1, (y2 b j (by unfold rn_W; omega)).2.1⟩
          refine ⟨h1, h2, h3.trans (y1.mono (fun b j y => Or.inl ⟨ty_la y, by unfold la_W at y; omega⟩)), h4.trans (y2.mono (fun b j y => Or.inl (ty_rn y))), ?_, ?_, ?_, fun j hj => ?_, ?_, fun i x y => ?_⟩
          · refine ⟨by rw [(ac 318 n (by decide) (by decide)).1]; exact h5.1, fun j hj => ?_⟩
            rw [(ac 319 _ (by decide) (by decide)).1]; exact h5.2 j hj
          · refine ⟨by rw [(ar 959 m0 (by decide) (by decide)).1]; exact h6.1, fun j hj => ?_⟩
            rw [(ar 960 _ (by decide) (by decide)).1]; exact h6.2 j hj
          · rw [(ac 321 n (by decide) (by decide)).1]; exact h7
          · unfold ty_g
            rw [(ac 317 _ (by decide) (by decide)).1, (ac 322 _ (by decide) (by decide)).2, (ac 323 _ (by decide) (by decide)).2, (ar 955 _ (by decide) (by decide)).1, (ar 957 _ (by decide) (by decide)).2, (ar 958 _ (by decide) (by decide)).2]
            exact h8 j hj
          · unfold ty_mm
            simp only [(ac 322 _ (by decide) (by decide)).2, (ac 323 _ (by decide) (by decide)).2]
            exact h9
          · rw [(ar 955 i (by decide) (by decide)).1]; exact h10 i x y
      · exact Or.inr y3
    refine h2_eL e1 (h2_sm (fun N hN => ?_))
    have e : b_X13_ranges_4 (nI m0, 0, nI k + 1, t') = some (.inr r2) := by
      show k_X13_ranges_4 (nI m0) 0 (nI k + 1) t' = _
      unfold k_X13_ranges_4 k_X13_ranges_149
      rw [if_pos rfl, e2]
      rfl
    rw [show N = (N - 1) + 1 by omega, l2_lpR e]
    exact l2_sm fin
