/-! Level 2: the ranges of an int: one turn, all turns. -/
theorem ty_m1 : (-1000000000000000 : Int64).toInt = -(10 ^ 15) := by decide
/-- the class behind a fault: the end of a range -/
theorem lc_F.int183 {s : t_S} {f p n a k : Nat} {hi : Int64} {last : Int32} {F : Nat → Nat} (h : lc_F s f p) (hn : n < a) (ha : a < 3001) (hk : k ≤ 6) (hc : cc_R s n k F) (hF : ∀ j, j < k → F j < a) (hlast : 0 < k → last = nI (F (k - 1))) (h21 : s.1 321 n = nI k) (h19 : s.1 319 a = -1) (hmm : ty_mm s n k F) : t_hk (k_X6_readInt_183 (nI n) last (nI k) (nI a) hi (nI a) s) (fun z => ∃ c', z = .inr c' ∧ lc_F c' f p ∧ l2_fr (ty_Wc 0 0 0) s c') := by
  have q := h2_to (rg_tail (b := some (0 : Nat)) (Q := fun z _ => ∃ c', z = .inr c' ∧ lc_F c' f p ∧ l2_fr (ty_Wc 0 0 0) s c') (hi := hi) hn ha hk hc hF hlast h21 h19 hmm (fun s' w1 w2 w3 w4 w5 w6 => by
    have w1' : l2_fr (fun b j => 317 ≤ b ∧ b ≤ 323) s s' := w1.mono (fun b j y => by omega)
    have h' := h.fr w1' (fun j _ _ => by omega)
    refine h2_eL (h'.need (x := 44) (by decide)).2 (h2_ckL rfl (h2_mL ?_))
    rw [h'.int346]
    exact h2_sm ⟨s', rfl, h', w1'.mono (fun b j y => by unfold ty_Wc; omega)⟩))
  exact l2_imp q (fun z hz => by
    obtain ⟨_, _, w⟩ := hz
    exact w)
/-- both behind a fault, one range's turn ends so -/
theorem rg_bad {P : pc_S} {n m0 a0 m g l dd u0 q0 w : Nat} {c0 r0 : t_S} {A : Option ((Int32 × Int32 × Int32 × t_S) ⊕ t_S)} {B : Option ((Int32 × Int32 × Int32 × t_S) ⊕ t_S)} {c r : t_S} {f p : Nat} {l1 l3 : Int32} (fc : l2_fr (ty_Wc 0 0 0) c0 c) (fr : l2_fr (ty_Wr 0) r0 r) (hA : t_hk A (fun z => ∃ c', z = .inr c' ∧ lc_F c' f p ∧ l2_fr (ty_Wc 0 0 0) c c')) (hB : t_hk B (fun z => ∃ x r', z = .inl (l1, x, l3, r') ∧ pr P f p r' ∧ l2_fr (ty_Wr 0) r r')) : t_h2 A B (h2_nx b_X6_readInt_41 b_X13_ranges_4 (fun x y => ∃ j, j < w ∧ rg_I P n m0 a0 m g l dd u0 q0 c0 r0 j x y) (rg_Q P n m0 a0 m g l dd u0 q0 c0 r0)) := by
  refine h2_sep _ _ hA hB (fun x y hx hy => ?_)
  obtain ⟨c', rfl, h1, h2⟩ := hx
  obtain ⟨x, r', rfl, h3, h4⟩ := hy
  intro N hN
  refine l2_imp (pr_rgend h3 l1 x l3 N hN) (fun r2 hr => ⟨fc.trans h2, (fr.trans h4).trans hr.2, Or.inr ⟨f, p, h1, hr.1⟩⟩)
/-- the class behind a fault in a range's numbers -/
theorem lc_F.int5 {s : t_S} {f p n a k : Nat} {last : Int32} {F : Nat → Nat} (h : lc_F s f p) (hn : n < a) (ha : a < 3001) (hk : k ≤ 6) (hc : cc_R s n k F) (hF : ∀ j, j < k → F j < a) (hlast : 0 < k → last = nI (F (k - 1))) (h21 : s.1 321 n = nI k) (h19 : s.1 319 a = -1) (hmm : ty_mm s n k F) : t_hk ((f_X2_take (10 : Int32) s).bind (fun r5 => if r5.1 = (0 : Int32) then (k_X6_readInt_183 (nI n) last (nI k) (nI a) (r5.2.2.1 322 a) (nI a) r5.2) else ((f_X6_readNumber (r5.2.2.1 322 a) r5.2).bind (fun r6 => k_X6_readInt_183 (nI n) last (nI k) (nI a) r6.1 (nI a) r6.2)))) (fun z => ∃ c', z = .inr c' ∧ lc_F c' f p ∧ l2_fr (ty_Wc 0 0 0) s c') := by
  refine l2_eq (h.need (x := 10) (by decide)).2 (l2_ck rfl ?_)
  exact h.int183 hn ha hk hc hF hlast h21 h19 hmm
theorem cc_R.ac {c c' : t_S} {n v : Nat} {F : Nat → Nat} (h : cc_R c n v F) (e : ∀ b j, 317 ≤ b → b ≤ 323 → (j = n ∨ ∃ i, i < v ∧ j = F i) → c'.1 b j = c.1 b j) : cc_R c' n v F := by
  refine ⟨by rw [e 318 n (by decide) (by decide) (Or.inl rfl)]; exact h.1, fun j hj => ?_⟩
  rw [e 319 (F j) (by decide) (by decide) (Or.inr ⟨j, hj, rfl⟩)]
  exact h.2 j hj
theorem ty_mm.ac {c c' : t_S} {n v : Nat} {F : Nat → Nat} (h : ty_mm c n v F) (e : ∀ b j, 317 ≤ b → b ≤ 323 → (j = n ∨ ∃ i, i < v ∧ j = F i) → c'.2.1 b j = c.2.1 b j) : ty_mm c' n v F := by
  have e0 : ∀ b, 317 ≤ b → b ≤ 323 → c'.2.1 b n = c.2.1 b n := fun b x y => e b n x y (Or.inl rfl)
  have ej : ∀ b j, j < v → 317 ≤ b → b ≤ 323 → c'.2.1 b (F j) = c.2.1 b (F j) := fun b j hj x y => e b (F j) x y (Or.inr ⟨j, hj, rfl⟩)
  refine ⟨fun z => by rw [e0 322 (by decide) (by decide), e0 323 (by decide) (by decide)]; exact h.1 z, fun z => ?_⟩
  obtain ⟨y1, ⟨i, y2, y3⟩, i2, y4, y5⟩ := h.2 z
  refine ⟨fun j hj => ?_, ⟨i, y2, ?_⟩, i2, y4, ?_⟩
  · rw [e0 322 (by decide) (by decide), e0 323 (by decide) (by decide), ej 322 j hj (by decide) (by decide), ej 323 j hj (by decide) (by decide)]
    exact y1 j hj
  · rw [e0 322 (by decide) (by decide), ej 322 i y2 (by decide) (by decide)]; exact y3
  · rw [e0 323 (by decide) (by decide), ej 323 i2 y4 (by decide) (by decide)]; exact y5
/-- one range, from its first sign on -/
theorem rg_go {P : pc_S} {n m0 a0 m g l dd u0 q0 u1 q1 m1 a1 k : Nat} {c0 r0 c r : t_S} {last : Int32} {F G : Nat → Nat} (hk : k ≤ 6) (hn : n < a0) (hm0 : m0 < m) (hu : u0 < u1 ∧ q0 ≤ q1) (T : tp P u1 0 0 q1 m1 a1 g l dd c r) (K : rg_K n m0 a0 m g l c0 r0 c r a1 m1 k F G) (hl : 0 < k → last = nI (F (k - 1))) (fcc : l2_fr (ty_Wc 0 0 0) c0 c) (frr : l2_fr (ty_Wr 0) r0 r) : t_h2 (k_X6_readInt_78 (nI n) last (nI k) c) (k_X13_ranges_45 (nI m0) (nI k) r) (h2_nx b_X6_readInt_41 b_X13_ranges_4 (fun x y => ∃ w, w < 7 - k ∧ rg_I P n m0 a0 m g l dd u0 q0 c0 r0 w x y) (rg_Q P n m0 a0 m g l dd u0 q0 c0 r0)) := by
  obtain ⟨J, t2, t3, t4, t5, t6, t7, t8⟩ := T
  have K0 := K
  obtain ⟨k1, k2, k3, k4, k5, k6, k7, k8, k9, k10⟩ := K
  unfold k_X6_readInt_78 k_X13_ranges_45
  refine h2_two Iff.rfl (fun _ _ => ?_) (fun k6n _ => ?_)
  · refine h2_bb _ (pj_fail (f := 5) J (by decide) (by decide)) (fun c' r' w => ?_)
    obtain ⟨w1, w2, f, p, w3, w4⟩ := w
    exact rg_bad (fcc.trans (w1.mono (fun b j y => ty_la y))) (frr.trans (w2.mono (fun b j y => ty_rn y))) (w3.int92 _ _ _) (pr_rg60 w4 _ _)
  have hk5 : k < 6 := by
    by_cases e : k = 6
    · exact absurd (by rw [e]; rfl) k6n
    · omega
  unfold k_X6_readInt_92 k_X13_ranges_60
  have q3 : q1 ≤ 3000 := by
    obtain ⟨B, L, W0, W, V, sl, H, T, n, t0, mm⟩ := P
    exact J.2.2.2.2.2.2.2.1
  refine h2_bb _ (nd_both (nd_k20 (K := 9) (by decide)) J) (fun c1 x hx => ?_)
  rcases hx with ⟨hq, rfl, hm9, x1, x2, x3, x4⟩ | ⟨x1, x2, ⟨f, p, x3, x4⟩, j, x5, x6⟩
  rotate_left
  · rw [x6]
    exact rg_bad (fcc.trans x1) (frr.trans x2) (l2_no x3.ne (l2_mp (l2_sm ⟨c1, rfl, x3, l2_fr.rf⟩))) (pr_rgN x4 x5 _ _)
  obtain ⟨x0, r1⟩ := x
  have x1 : x0 = nI m1 := x1
  subst x1
  have fca : l2_fr (fun b j => b = 845 ∧ j = 10) c (t_setI c 845 10 (nI (q1 + 1))) := l2_fr.set ⟨rfl, rfl⟩
  generalize t_setI c 845 10 (nI (q1 + 1)) = c1 at *
  refine h2_ckL x4.f0.1 (h2_bL _ (ta_add (k := 10) (n := a1) (by rw [(fca 316 8 (by omega)).1]; exact t2) (by omega)) (fun y hy => ?_))
  obtain ⟨y0, c2⟩ := y
  obtain ⟨y1, y2, y3, y4⟩ := hy
  have y1 : y0 = nI a1 := y1
  subst y1
  have y2 : l2_fr (ta_W a1) c1 c2 := y2
  have J2 : pj P u1 0 1 (q1 + 1) (m1 + 1) c2 r1 := x4.fr y2 (l2_fr.rf (W := fun _ _ => False)) (fun j => by unfold ta_W; omega) (fun b i _ _ => by unfold ta_W; omega) (fun b i _ _ => by unfold ta_W; omega) (by unfold ta_W; omega) (fun j _ y => y) (fun b i _ _ y => y)
  have fc2 : l2_fr (fun b j => la_W b j ∨ (b = 845 ∧ j = 10) ∨ (b = 316 ∧ j = 8) ∨ (317 ≤ b ∧ b ≤ 323 ∧ j = a1)) c c2 := (fca.mono (fun b j y => by omega)).trans (y2.mono (fun b j y => by unfold ta_W at y; omega))
  have fr1 : l2_fr (fun b j => rn_W b j ∨ (b = 950 ∧ (j = 24 ∨ j = 28)) ∨ (955 ≤ b ∧ b ≤ 962 ∧ j = m1)) r r1 := x2.mono (fun b j y => by unfold nd_V at y; omega)
  obtain ⟨g17, g18, g19, g20, g21, g22, g23⟩ := y4
  obtain ⟨d1, d2, d3, d4, d5, d6, d7⟩ := x3
  -- the class's list is untouched by what comes
  have lst : ∀ {s : t_S}, l2_fr (fun b j => la_W b j ∨ (b = 845 ∧ j = 10) ∨ (b = 316 ∧ j = 8) ∨ (317 ≤ b ∧ b ≤ 323 ∧ j = a1)) c s → cc_R s n k F ∧ s.1 321 n = nI k ∧ ty_mm s n k F := fun {s} fs => by
    have e : ∀ b j, 317 ≤ b → b ≤ 323 → (j = n ∨ ∃ i, i < k ∧ j = F i) → s.1 b j = c.1 b j ∧ s.2.1 b j = c.2.1 b j := by
      intro b j x y z
      have : j ≠ a1 := by
        rcases z with z | ⟨i, z1, z2⟩
        · omega
        · have := k8 i z1
          omega
      exact ⟨(fs b j (by unfold la_W; omega)).1, (fs b j (by unfold la_W; omega)).2.1⟩
    exact ⟨k5.ac (fun b j x y z => (e b j x y z).1), by rw [(e 321 n (by decide) (by decide) (Or.inl rfl)).1]; exact k7, k9.ac (fun b j x y z => (e b j x y z).2)⟩
  have Fa : ∀ j, j < k → F j < a1 := fun j hj => by have := k8 j hj; omega
  have cc0 : ∀ {s : t_S}, l2_fr (fun b j => la_W b j ∨ (b = 845 ∧ j = 10) ∨ (b = 316 ∧ j = 8) ∨ (317 ≤ b ∧ b ≤ 323 ∧ j = a1)) c s → l2_fr (ty_Wc 0 0 0) c0 s := fun {s} fs => fcc.trans (fs.mono (fun b j y => by unfold la_W at y; unfold ty_Wc; omega))
  have rr0 : ∀ {t : t_S}, l2_fr (fun b j => rn_W b j ∨ (b = 950 ∧ (j = 24 ∨ j = 28)) ∨ (955 ≤ b ∧ b ≤ 962 ∧ j = m1)) r t → l2_fr (ty_Wr 0) r0 t := fun {t} ft => frr.trans (ft.mono (fun b j y => by unfold rn_W at y; unfold ty_Wr; omega))
  have cm : t_ix (nI a1) 3001 = true := l2_ix (by omega) (by decide)
  have rm : t_ix (nI m1) 13000 = true := l2_ix (by omega) (by decide)
  have la : ∀ {s s' : t_S}, l2_fr la_W s s' → l2_fr (fun b j => la_W b j ∨ (b = 845 ∧ j = 10) ∨ (b = 316 ∧ j = 8) ∨ (317 ≤ b ∧ b ≤ 323 ∧ j = a1)) s s' := fun w => w.mono (fun b j y => Or.inl y)
  have rl : ∀ {s s' : t_S}, l2_fr rn_W s s' → l2_fr (fun b j => rn_W b j ∨ (b = 950 ∧ (j = 24 ∨ j = 28)) ∨ (955 ≤ b ∧ b ≤ 962 ∧ j = m1)) s s' := fun w => w.mono (fun b j y => Or.inl y)
  -- what is left behind the first number
  refine h2_bb _ (nb_num (least := (-1000000000000000 : Int64)) J2 (by decide)) (fun x y hx => ?_)
  obtain ⟨lo, c3⟩ := x
  obtain ⟨lo', r3⟩ := y
  obtain ⟨z1, z2, z3⟩ := hx
  have z1 : l2_fr la_W c2 c3 := z1
  have z2 : l2_fr rn_W r1 r3 := z2
  refine h2_ckL cm (h2_ckR rm ?_)
  rw [nI_clamp (n := a1) (by omega), nI_clamp (n := m1) (by omega)]
  refine h2_lL (h2_lR (h2_lR ?_))
  have f3 : l2_fr (fun b j => b = 322 ∧ j = a1) c3 (t_setJ c3 322 a1 lo) := l2_fr.setJ ⟨rfl, rfl⟩
  have e22 : (t_setJ c3 322 a1 lo).2.1 322 a1 = lo := by simp only [l2_gJ, reduceIte, eq_self]
  have g3 : l2_fr (fun b j => (b = 957 ∨ b = 958) ∧ j = m1) r3 (t_setJ (t_setJ r3 957 m1 lo') 958 m1 ((t_setJ r3 957 m1 lo').2.1 957 m1)) := (l2_fr.setJ ⟨Or.inl rfl, rfl⟩).trans (l2_fr.setJ ⟨Or.inr rfl, rfl⟩)
  have e57 : (t_setJ (t_setJ r3 957 m1 lo') 958 m1 ((t_setJ r3 957 m1 lo').2.1 957 m1)).2.1 957 m1 = lo' := by simp only [l2_gJ, Nat.reduceEqDiff, reduceIte, eq_self]
  have e58 : (t_setJ (t_setJ r3 957 m1 lo') 958 m1 ((t_setJ r3 957 m1 lo').2.1 957 m1)).2.1 958 m1 = lo' := by simp only [l2_gJ, Nat.reduceEqDiff, reduceIte, eq_self]
  show t_h2 ((f_X2_take (10 : Int32) (t_setJ c3 322 a1 lo)).bind (fun r5 => if r5.1 = (0 : Int32) then (k_X6_readInt_183 (nI n) last (nI k) (nI a1) (r5.2.2.1 322 a1) (nI a1) r5.2) else ((f_X6_readNumber (r5.2.2.1 322 a1) r5.2).bind (fun r6 => k_X6_readInt_183 (nI n) last (nI k) (nI a1) r6.1 (nI a1) r6.2)))) (if (f_X13_is (11822 : Int32) (t_setJ (t_setJ r3 957 m1 lo') 958 m1 ((t_setJ r3 957 m1 lo').2.1 957 m1))) = (0 : Int32) then (k_X13_ranges_129 (nI m0) (nI k) (nI m1) (t_setJ (t_setJ r3 957 m1 lo') 958 m1 ((t_setJ r3 957 m1 lo').2.1 957 m1))) else ((f_X13_next (t_setJ (t_setJ r3 957 m1 lo') 958 m1 ((t_setJ r3 957 m1 lo').2.1 957 m1))).bind (fun r5 => (f_X13_num (r5.2.1 957 m1) r5).bind (fun r6 => t_let (t_setJ r6.2 958 m1 r6.1) (fun s3 => k_X13_ranges_129 (nI m0) (nI k) (nI m1) s3))))) _
  generalize t_setJ c3 322 a1 lo = c4 at *
  generalize t_setJ (t_setJ r3 957 m1 lo') 958 m1 ((t_setJ r3 957 m1 lo').2.1 957 m1) = r4 at *
  have fc4 : l2_fr (fun b j => la_W b j ∨ (b = 845 ∧ j = 10) ∨ (b = 316 ∧ j = 8) ∨ (317 ≤ b ∧ b ≤ 323 ∧ j = a1)) c c4 := (fc2.trans (la z1)).trans (f3.mono (fun b j y => by omega))
  have fr4 : l2_fr (fun b j => rn_W b j ∨ (b = 950 ∧ (j = 24 ∨ j = 28)) ∨ (955 ≤ b ∧ b ≤ 962 ∧ j = m1)) r r4 := (fr1.trans (rl z2)).trans (g3.mono (fun b j y => by omega))
  have h19 : ∀ {s : t_S}, l2_fr la_W c4 s → s.1 319 a1 = -1 ∧ s.1 317 a1 = 10 ∧ s.2.1 322 a1 = lo ∧ s.1 316 8 = nI (a1 + 1) := fun {s} w => by
    refine ⟨?_, ?_, ?_, ?_⟩
    · rw [(w 319 a1 (by unfold la_W; omega)).1, (f3 319 a1 (by omega)).1, (z1 319 a1 (by unfold la_W; omega)).1]; exact g19
    · rw [(w 317 a1 (by unfold la_W; omega)).1, (f3 317 a1 (by omega)).1, (z1 317 a1 (by unfold la_W; omega)).1]; exact g17
    · rw [(w 322 a1 (by unfold la_W; omega)).2.1]; exact e22
    · rw [(w 316 8 (by unfold la_W; omega)).1, (f3 316 8 (by omega)).1, (z1 316 8 (by unfold la_W; omega)).1]; exact y3
  have h60 : ∀ {t : t_S}, l2_fr rn_W r4 t → t.1 960 m1 = -1 ∧ t.1 955 m1 = 9 ∧ t.2.1 957 m1 = lo' := fun {t} w => by
    refine ⟨?_, ?_, ?_⟩
    · rw [(w 960 m1 (by unfold rn_W; omega)).1, (g3 960 m1 (by omega)).1, (z2 960 m1 (by unfold rn_W; omega)).1]; exact d6
    · rw [(w 955 m1 (by unfold rn_W; omega)).1, (g3 955 m1 (by omega)).1, (z2 955 m1 (by unfold rn_W; omega)).1]; exact d1
    · rw [(w 957 m1 (by unfold rn_W; omega)).2.1]; exact e57
  have cell : ∀ {s t : t_S}, l2_fr la_W c4 s → l2_fr (fun b j => rn_W b j ∨ (b = 958 ∧ j = m1)) r4 t → s.1 316 10 = nI g ∧ s.1 846 6 = nI l ∧ t.1 950 31 = nI dd := fun {s t} w w2 => by
    refine ⟨?_, ?_, ?_⟩
    · rw [(w 316 10 (by unfold la_W; omega)).1, (fc4 316 10 (by unfold la_W; omega)).1]; exact t4
    · rw [(w 846 6 (by unfold la_W; omega)).1, (fc4 846 6 (by unfold la_W; omega)).1]; exact t6
    · rw [(w2 950 31 (by unfold rn_W; omega)).1, (fr4 950 31 (by unfold rn_W; omega)).1]; exact t8
  rcases z3 with ⟨v, v1, v2, v3, v4, v5, v6⟩ | ⟨f, p, v1, v2⟩
  rotate_left
  · have v1 : lc_F c3 f p := v1
    have h4 := v1.fr f3 (fun j _ _ => by omega)
    have h4r := (show pr P f p r3 from v2).xy g3
    obtain ⟨L1, L2, L3⟩ := lst fc4
    exact rg_bad (cc0 fc4) (rr0 fr4) (h4.int5 (by omega) (by omega) (by omega) L1 Fa hl L2 (h19 l2_fr.rf).1 L3) (pr_rg3 h4r (nI m0) (nI k))
  have v3 : lo = lo' := v3
  subst v3
  have v4 : -(10 ^ 15) ≤ lo.toInt := by
    have := v4
    rw [ty_m1] at this
    exact this
  have v6 : -(10 ^ 15) < lo.toInt ∧ lo.toInt < 10 ^ 15 := ⟨v5, v6⟩
  have J4 : pj P v 0 0 (q1 + 1) (m1 + 1) c4 r4 := (show pj P v 0 0 (q1 + 1) (m1 + 1) c3 r3 from v2).fr f3 g3 (fun j => by omega) (fun b i _ _ => by omega) (fun b i _ _ => by omega) (by omega) (fun j _ => by omega) (fun b i _ _ => by omega)
  rcases J4.is (x := 10) (by decide) with ⟨a, b⟩ | ⟨a, b⟩
  · rw [show (11822 : Int32) = nI (sg 10) from rfl, b]
    refine h2_noR (by decide) (h2_bb _ (pj_took J4 (by decide) (x := 10) (by decide) a) (fun x r5 hx => ?_))
    obtain ⟨x0, c5⟩ := x
    obtain ⟨p1, p2, p3, p4⟩ := hx
    have p1 : x0 = 1 := p1
    subst p1
    have p2 : l2_fr la_W c4 c5 := p2
    refine h2_noL (show ¬ (1 : Int32) = 0 by decide) ?_
    show t_h2 ((f_X6_readNumber (c5.2.1 322 a1) c5).bind (fun r6 => k_X6_readInt_183 (nI n) last (nI k) (nI a1) r6.1 (nI a1) r6.2)) _ _
    rw [(h19 p2).2.2.1, (h60 p3).2.2]
    have fin : ∀ (hi hi' : Int64) (c6 r6 : t_S), l2_fr la_W c5 c6 → l2_fr rn_W r5 r6 → ((∃ w, v < w ∧ pj P w 0 0 (q1 + 1) (m1 + 1) c6 r6 ∧ hi = hi' ∧ lo.toInt ≤ hi.toInt ∧ -(10 ^ 15) < hi.toInt ∧ hi.toInt < 10 ^ 15) ∨ pf P c6 r6) → t_h2 (k_X6_readInt_183 (nI n) last (nI k) (nI a1) hi (nI a1) c6) (k_X13_ranges_129 (nI m0) (nI k) (nI m1) (t_setJ r6 958 m1 hi')) (h2_nx b_X6_readInt_41 b_X13_ranges_4 (fun x y => ∃ w, w < 7 - k ∧ rg_I P n m0 a0 m g l dd u0 q0 c0 r0 w x y) (rg_Q P n m0 a0 m g l dd u0 q0 c0 r0)) := by
      intro hi hi' c6 r6 w1 w2 w3
      have g6 : l2_fr (fun b j => (b = 957 ∨ b = 958) ∧ j = m1) r6 (t_setJ r6 958 m1 hi') := l2_fr.setJ ⟨Or.inr rfl, rfl⟩
      have wc := p2.trans w1
      have wr := p3.trans w2
      have fc6 := fc4.trans (la wc)
      have fr6 := (fr4.trans (rl wr)).trans (g6.mono (fun b j y => (by omega : rn_W b j ∨ (b = 950 ∧ (j = 24 ∨ j = 28)) ∨ (955 ≤ b ∧ b ≤ 962 ∧ j = m1))))
      obtain ⟨L1, L2, L3⟩ := lst fc6
      obtain ⟨i1, i2, i3, i4⟩ := h19 wc
      obtain ⟨i5, i6, i7⟩ := h60 wr
      rcases w3 with ⟨w, w3, w4, rfl, w5, w6⟩ | ⟨f, p, w3, w4⟩
      · have J6 : pj P w 0 0 (q1 + 1) (m1 + 1) c6 (t_setJ r6 958 m1 hi) := w4.fr (l2_fr.rf (W := fun _ _ => False)) g6 (fun j y => y) (fun b i _ _ y => y) (fun b i _ _ y => y) (fun y => y) (fun j _ => by omega) (fun b i _ _ => by omega)
        obtain ⟨c1', c2', c3'⟩ := cell (t := t_setJ r6 958 m1 hi) wc (wr.mono (fun b j y => Or.inl y) |>.trans (l2_fr.setJ (Or.inr ⟨rfl, rfl⟩)))
        refine rg_join hk5 hn hm0 ⟨hu.1, by omega⟩ (by omega) K0 hl fcc frr J6 i4 (by omega) c1' t5 c2' t7 c3' fc6 fr6 i2 i1 ?_ ?_ ?_ ?_ ?_ ?_ ?_
        · rw [(g6 955 m1 (by omega)).1]; exact i6
        · rw [(g6 960 m1 (by omega)).1]; exact i5
        · rw [i3, l2_gJ, if_neg (by decide), i7]
        · rw [l2_gJ, if_pos rfl, if_pos rfl]
        · rw [i3]; exact v4
        · rw [i3]; exact w5
        · omega
      · have h6r := w4.xy g6
        refine rg_bad (l1 := nI m0) (l3 := nI k + 1) (cc0 fc6) (rr0 fr6) (w3.int183 (by omega) (by omega) (by omega) L1 Fa hl L2 i1 L3) ?_
        rw [pr_129 h6r]
        exact l2_sm ⟨_, _, rfl, h6r, l2_fr.rf⟩
    rcases p4 with p4 | ⟨f, p, p4, p5⟩
    · refine h2_bb _ (nb_num (least := lo) p4 (by decide)) (fun x y hx => ?_)
      obtain ⟨hi, c6⟩ := x
      obtain ⟨hi', r6⟩ := y
      obtain ⟨w1, w2, w3⟩ := hx
      refine h2_lR (fin hi hi' c6 r6 w1 w2 ?_)
      rcases w3 with ⟨w, w3, w4⟩ | w3
      · exact Or.inl ⟨w, by omega, w4⟩
      · exact Or.inr w3
    · refine h2_eL ((show lc_F c5 f p from p4).num lo) (h2_bR _ (pr_num p5) (fun y hy => ?_))
      obtain ⟨hi', r6⟩ := y
      have hy : r6 = t_setI r5 950 5 0 := hy
      refine h2_lR (fin 0 hi' c5 r6 l2_fr.rf ?_ (Or.inr ⟨f, p, p4, by rw [hy]; exact p5.dead⟩))
      rw [hy]
      exact l2_fr.set ⟨rfl, by decide, by decide⟩
  · rw [show (11822 : Int32) = nI (sg 10) from rfl, b]
    refine h2_ckR rfl (h2_eL (pj_nottook a) (h2_ckL rfl ?_))
    show t_h2 (k_X6_readInt_183 (nI n) last (nI k) (nI a1) (c4.2.1 322 a1) (nI a1) c4) _ _
    obtain ⟨i1, i2, i3, i4⟩ := h19 (l2_fr.rf (s := c4))
    obtain ⟨i5, i6, i7⟩ := h60 (l2_fr.rf (s := r4))
    obtain ⟨c1', c2', c3'⟩ := cell (l2_fr.rf (s := c4)) (l2_fr.rf (s := r4))
    refine rg_join hk5 hn hm0 ⟨hu.1, by omega⟩ v1 K0 hl fcc frr J4 i4 (by omega) c1' t5 c2' t7 c3' fc4 fr4 i2 i1 i6 i5 ?_ ?_ ?_ ?_ ?_
    · rw [i3, i7]
    · rw [e22, e58]
    · rw [i3]; exact v4
    · exact Int.le_refl _
    · rw [e22]; omega
/-- the ranges of an int, from behind the bracket on the class's side, at it on the reference's -/
theorem rg_turns {P : pc_S} {n m0 a0 m g l dd u0 q0 : Nat} {c0 r0 : t_S} (hn : n < a0) (hm0 : m0 < m) : ∀ (w : Nat) (x y : Int32 × Int32 × Int32 × t_S), rg_I P n m0 a0 m g l dd u0 q0 c0 r0 w x y → t_h2 (b_X6_readInt_41 x) (b_X13_ranges_4 y) (h2_nx b_X6_readInt_41 b_X13_ranges_4 (fun x y => ∃ j, j < w ∧ rg_I P n m0 a0 m g l dd u0 q0 c0 r0 j x y) (rg_Q P n m0 a0 m g l dd u0 q0 c0 r0)) := by
  rintro w x y ⟨k, last, c, r, r1, h1, h2, rfl, rfl, h3, h4, h5, h6, h7, h8⟩
  have hw : w = 7 - k := by omega
  subst hw
  show t_h2 (k_X6_readInt_41 (nI n) last (nI k) c) (k_X13_ranges_4 (nI m0) 1 (nI k) r) _
  unfold k_X6_readInt_41 k_X13_ranges_4
  refine h2_noL (show ¬ (6 : Int32) < nI k from nI_nlt (a := 6) h2 (by decide)) (h2_noR (by decide) (h2_ckR h4 (h2_eR h3 ?_)))
  have fr1 : l2_fr (ty_Wr 0) r0 r1 := h7.trans (h5.mono (fun b j y => ty_rn y))
  rcases h8 with ⟨u1, q1, m1, a1, F, G, g1, g2, g3, g4⟩ | ⟨f, p, g1, g2⟩
  · have J := g2.1
    have go := rg_go h2 hn hm0 g1 g2 g3 g4 h6 fr1
    rcases J.is (x := 45) (by decide) with ⟨a, b⟩ | ⟨a, b⟩
    · rw [show (45 : Int32) = nI (sg 45) from rfl, b]
      exact h2_ckL a (h2_noR (by decide) go)
    · rw [show (45 : Int32) = nI (sg 45) from rfl, b]
      refine h2_noL a (h2_ckR rfl (h2_two J.sort.2.1 (fun _ _ => go) (fun _ _ => ?_)))
      refine h2_bb _ (pj_fail (f := 2) J (by decide) (by decide)) (fun c' r' w => ?_)
      obtain ⟨w1, w2, f, p, w3, w4⟩ := w
      exact rg_bad (h6.trans (w1.mono (fun b j y => ty_la y))) (fr1.trans (w2.mono (fun b j y => ty_rn y))) (w3.int78 _ _ _) (pr_rg45 w4 _ _)
  · have cc : t_hk (if c.1 1 8 = 45 then k_X6_readInt_78 (nI n) last (nI k) c else (if c.1 1 8 = 2 then k_X6_readInt_78 (nI n) last (nI k) c else (f_X2_fail 2 c).bind (fun r1 => k_X6_readInt_78 (nI n) last (nI k) r1))) (fun z => ∃ c', z = .inr c' ∧ lc_F c' f p ∧ l2_fr (ty_Wc 0 0 0) c c') := by
      refine l2_if (fun _ => g1.int78 _ _ _) (fun _ => l2_if (fun _ => g1.int78 _ _ _) (fun _ => ?_))
      rw [(lc_stay g1).2]
      exact g1.int78 _ _ _
    have rr : t_hk (if f_X13_is 45 r1 = 0 then (if r1.1 950 5 = 2 then k_X13_ranges_45 (nI m0) (nI k) r1 else (f_X13_fail 2 (r1.1 950 6) r1).bind (fun r3 => k_X13_ranges_45 (nI m0) (nI k) r3)) else k_X13_ranges_45 (nI m0) (nI k) r1) (fun z => ∃ x r', z = .inl (nI m0, x, nI k + 1, r') ∧ pr P f p r' ∧ l2_fr (ty_Wr 0) r1 r') := by
      refine l2_if (fun _ => l2_if (fun _ => pr_rg45 g2 _ _) (fun _ => ?_)) (fun _ => pr_rg45 g2 _ _)
      rw [(pr_next g2).2]
      exact pr_rg45 g2 _ _
    exact rg_bad h6 fr1 cc rr
/-- int ( .. ): both sides; the class at 'int''s next token -/
theorem rg_int {P : pc_S} {n m0 a m g l dd u q : Nat} {c r : t_S} (hn : n < a) (hm0 : m0 < m) (h3 : n < 3001) (hm : m0 < 13000) (T : tp P u 0 0 q m a g l dd c r) (c18 : c.1 318 n = -1) (c21 : c.1 321 n = 0) (r59 : r.1 959 m0 = -1) : (f_X13_is 40 r = 0 ∧ t_hk (f_X6_readInt (nI n) c) (fun c' => l2_fr (fun b j => (b = 322 ∨ b = 323) ∧ j = n) c c' ∧ (c'.2.1 322 n).toInt = -(10 ^ 15) ∧ (c'.2.1 323 n).toInt = 10 ^ 15)) ∨ (f_X13_is 40 r = 1 ∧ t_h2 (f_X6_readInt (nI n) c) (f_X13_ranges (nI m0) r) (rg_Q P n m0 a m g l dd u q c r)) := by
  have J := T.1
  unfold f_X6_readInt
  have w : l2_fr (fun b j => (b = 322 ∨ b = 323) ∧ j = n) c (t_setJ (t_setJ c 322 n (-1000000000000000)) 323 n 1000000000000000) := (l2_fr.setJ ⟨Or.inl rfl, rfl⟩).trans (l2_fr.setJ ⟨Or.inr rfl, rfl⟩)
  have e22 : (t_setJ (t_setJ c 322 n (-1000000000000000)) 323 n 1000000000000000).2.1 322 n = -1000000000000000 := by simp only [l2_gJ, Nat.reduceEqDiff, reduceIte, eq_self]
  have e23 : (t_setJ (t_setJ c 322 n (-1000000000000000)) 323 n 1000000000000000).2.1 323 n = 1000000000000000 := by simp only [l2_gJ, reduceIte, eq_self]
  have ix : t_ix (nI n) 3001 = true := l2_ix h3 (by decide)
  have cn : (nI n).toNatClampNeg = n := nI_clamp (by omega)
  have p15 : (1000000000000000 : Int64).toInt = 10 ^ 15 := by decide
  rcases J.is (x := 40) (by decide) with ⟨a40, b⟩ | ⟨a40, b⟩
  · refine Or.inr ⟨b, h2_ckL ix (h2_lL (h2_lL ?_))⟩
    rw [cn]
    generalize t_setJ (t_setJ c 322 n (-1000000000000000)) 323 n 1000000000000000 = c1 at *
    have J1 : pj P u 0 0 q m c1 r := J.fr w (l2_fr.rf (W := fun _ _ => False)) (fun j => by omega) (fun b i _ _ => by omega) (fun b i _ _ => by omega) (by omega) (fun j _ y => y) (fun b i _ _ y => y)
    have a1 : c1.1 1 8 = nI 40 := by rw [(w 1 8 (by omega)).1]; exact a40
    obtain ⟨x, r1, e1, e2, y1, y2, y3, y4⟩ := pj_took J1 (by decide) (x := 40) (by decide) a1
    obtain ⟨x1, c2⟩ := x
    have y1 : x1 = 1 := y1
    subst y1
    have y2 : l2_fr la_W c1 c2 := y2
    have y4 : pj P (u + 1) 0 0 q m c2 r1 ∨ pf P c2 r1 := y4
    refine h2_eL e1 (h2_noL (show ¬ (1 : Int32) = 0 by decide) ?_)
    unfold f_X13_ranges
    have fcc : l2_fr (ty_Wc 0 0 0) c c2 := (w.mono (fun b j y => by unfold ty_Wc; omega)).trans (y2.mono (fun b j y => ty_la y))
    refine h2_lpN (fun w x y => rg_I P n m0 a m g l dd u q c r w x y) (rg_turns hn hm0) (k := 7) (by decide) ⟨0, -1, c2, r, r1, by decide, by decide, rfl, rfl, e2, (J.f0).2, y3, fcc, l2_fr.rf, ?_⟩
    rcases y4 with y4 | y4
    · refine Or.inl ⟨u + 1, q, m, a, fun _ => 0, fun _ => 0, by omega, ?_, ?_, fun z => by omega⟩
      · obtain ⟨_, t2, t3, t4, t5, t6, t7, t8⟩ := T
        have cm := pc_c_le P u
        refine ⟨y4, ?_, t3, ?_, by omega, ?_, by omega, ?_⟩
        · rw [(y2 316 8 (by unfold la_W; omega)).1, (w 316 8 (by omega)).1]; exact t2
        · rw [(y2 316 10 (by unfold la_W; omega)).1, (w 316 10 (by omega)).1]; exact t4
        · rw [(y2 846 6 (by unfold la_W; omega)).1, (w 846 6 (by omega)).1]; exact t6
        · rw [(y3 950 31 (by unfold rn_W; omega)).1]; exact t8
      · refine ⟨Nat.le_refl _, Nat.le_refl _, (w.mono (fun b j y => Or.inr ⟨by omega, y.2⟩)).trans (y2.mono (fun b j y => Or.inl ⟨ty_la y, by unfold la_W at y; omega⟩)), y3.mono (fun b j y => Or.inl (ty_rn y)), ⟨?_, fun j hj => by omega⟩, ⟨?_, fun j hj => by omega⟩, ?_, fun j hj => by omega, ⟨fun _ => ?_, fun z => by omega⟩, fun i x y => by omega⟩
        · rw [(y2 318 n (by unfold la_W; omega)).1, (w 318 n (by omega)).1, if_neg (by decide)]; exact c18
        · rw [(y3 959 m0 (by unfold rn_W; omega)).1, if_neg (by decide)]; exact r59
        · rw [(y2 321 n (by unfold la_W; omega)).1, (w 321 n (by omega)).1, c21]; rfl
        · rw [(y2 322 n (by unfold la_W; omega)).2.1, (y2 323 n (by unfold la_W; omega)).2.1, e22, e23]
          exact ⟨ty_m1, p15⟩
    · exact Or.inr y4
  · refine Or.inl ⟨b, l2_ck ix (l2_lt (l2_lt ?_))⟩
    rw [cn]
    have a1 : (t_setJ (t_setJ c 322 n (-1000000000000000)) 323 n 1000000000000000).1 1 8 ≠ nI 40 := by rw [(w 1 8 (by omega)).1]; exact a40
    refine l2_eq (pj_nottook a1) (l2_ck rfl (l2_sm ⟨w, ?_, ?_⟩))
    · show ((t_setJ (t_setJ c 322 n (-1000000000000000)) 323 n 1000000000000000).2.1 322 n).toInt = _
      rw [e22]; exact ty_m1
    · show ((t_setJ (t_setJ c 322 n (-1000000000000000)) 323 n 1000000000000000).2.1 323 n).toInt = _
      rw [e23]; exact p15
