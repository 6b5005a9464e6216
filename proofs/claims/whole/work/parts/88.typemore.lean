/-! Level 2: texts, enums, records, choices and lists as types, on both sides. -/
theorem sp_set {c : t_S} {n : Nat} {x : Int32} (hn : n < 3001) : t_hk (f_X6_setSpan (nI n) x c) (fun c' => l2_fr (fun b j => (b = 322 ∨ b = 323) ∧ j = n) c c' ∧ ∀ lo hi, lo < 256 → hi < 256 → x = nI (1 + 256 * lo + 65536 * hi) → c'.2.1 322 n = lN lo ∧ c'.2.1 323 n = lN hi) := by
  unfold f_X6_setSpan
  refine l2_ck (l2_ix hn (by decide)) ?_
  rw [nI_clamp (n := n) (by omega)]
  refine l2_lt (l2_lt (l2_sm ⟨(l2_fr.setJ ⟨Or.inl rfl, rfl⟩).trans (l2_fr.setJ ⟨Or.inr rfl, rfl⟩), fun lo hi h1 h2 e => ?_⟩))
  subst e
  have a1 : ((nI (1 + 256 * lo + 65536 * hi) >>> ((8 : Int32) &&& 31)) &&& (255 : Int32)).toInt64 = lN lo := by
    rw [pk_shrN (by omega) ((8 : Int32) &&& 31) 8 (by decide), pk_andN (by omega) 8 (by decide), nI_l (by omega)]
    congr 1
    omega
  have a2 : ((nI (1 + 256 * lo + 65536 * hi) >>> ((16 : Int32) &&& 31)) &&& (255 : Int32)).toInt64 = lN hi := by
    rw [pk_shrN (by omega) ((16 : Int32) &&& 31) 16 (by decide), pk_andN (by omega) 8 (by decide), nI_l (by omega)]
    congr 1
    omega
  rw [a1, a2]
  refine ⟨?_, ?_⟩
  · simp only [l2_gJ, Nat.reduceEqDiff, reduceIte, eq_self]
  · simp only [l2_gJ, reduceIte, eq_self]
theorem ty_sp {n b i : Nat} (h : sp_W n b i) {m : Nat} (hm : m ≤ n) : ty_Wr m b i := by
  unfold sp_W at h
  unfold ty_Wr
  omega
theorem ty_k3 {P : pc_S} {u q m a g l dd : Nat} {c r c3 r3 : t_S} {rc : RT_X13_fields} (h : ty_S0 P u q m a g l dd 3 c r c3 r3) (hd : dd ≤ 17) : t_h2 (if t_ix (nI a) 3001 = true then t_let (t_setJ c3 323 ((nI a).toNatClampNeg) (40 : Int64)) (fun s1 => if (s1.1 1 8) = (40 : Int32) then ((f_X6_readSpan (40 : Int32) s1).bind (fun r5 => (f_X6_setSpan (nI a) r5.1 r5.2).bind (fun r6 => some (nI a, r6)))) else (some (nI a, s1))) else none) ((k_X13_typeHere_116 12 (nI m) r3).bind (ty_ct rc)) (ty_R P u q m a g l dd c r) := by
  obtain ⟨h1, h2, T, ⟨c17, c18, c19, c20, c21, c22, c23⟩, ⟨r55, r57, r58, r59, r60⟩, fc, fr, D⟩ := h
  have f18 : 18 - dd = (17 - dd) + 1 := by omega
  unfold k_X13_typeHere_116
  rw [if_pos rfl, nI_clamp (n := a) (by omega), nI_clamp (n := m) (by omega), if_pos (l2_ix h1 (by decide)), if_pos (l2_ix (by omega : m < 13000) (by decide))]
  refine h2_lL ?_
  show t_h2 _ ((if f_X13_is 40 (t_setJ r3 958 m 40) = 0 then some (nI m, t_setJ r3 958 m 40) else (f_X13_span (nI m) 40 (t_setJ r3 958 m 40)).bind (fun r4 => some (nI m, r4))).bind (ty_ct rc)) _
  have w : l2_fr (fun b j => b = 323 ∧ j = a) c3 (t_setJ c3 323 a 40) := l2_fr.setJ ⟨rfl, rfl⟩
  have v23 : (t_setJ c3 323 a 40).2.1 323 a = lN 40 := by simp only [l2_gJ, reduceIte, eq_self]; rfl
  have z : l2_fr (fun b j => b = 958 ∧ j = m) r3 (t_setJ r3 958 m 40) := l2_fr.setJ ⟨rfl, rfl⟩
  have v58 : (t_setJ r3 958 m 40).2.1 958 m = lN 40 := by simp only [l2_gJ, reduceIte, eq_self]; rfl
  generalize t_setJ c3 323 a 40 = c4 at *
  generalize t_setJ r3 958 m 40 = r4 at *
  obtain ⟨J, t2, t3, t4, t5, t6, t7, t8⟩ := T
  have J4 : pj P (u + 1) 0 0 (q + 1) (m + 1) c4 r4 := J.fr w z (fun j => by omega) (fun b i _ _ => by omega) (fun b i _ _ => by omega) (by omega) (fun j _ => by omega) (fun b i _ _ => by omega)
  have fc4 : l2_fr (ty_Wc a g l) c c4 := fc.trans (w.mono (fun b j y => Or.inr (Or.inr (Or.inr (Or.inl ⟨by omega, by omega, by omega⟩)))))
  have fr4 : l2_fr (ty_Wr m) r r4 := fr.trans (z.mono (fun b j y => Or.inr (Or.inr ⟨by omega, by omega, by omega⟩)))
  have D4 : ty_D c c4 r4 l l m (m + 1) := D.fr (fun b j y => (w b j (by omega)).1) (fun i _ _ => ⟨(z 955 i (by omega)).1, (z 956 i (by omega)).1, fun _ => (z 957 i (by omega)).2.1⟩)
  have e55 : r4.1 955 m = nI 3 := by rw [(z 955 m (by omega)).1]; exact r55
  rcases J4.is (x := 40) (by decide) with ⟨a40, b⟩ | ⟨a40, b⟩
  · have b : f_X13_is 40 r4 = 1 := b
    have a4 : c4.1 1 8 = (40 : Int32) := a40
    rw [b, if_neg (show ¬ (1 : Int32) = 0 by decide), if_pos a4, Option.bind_assoc]
    refine h2_bb _ (sp_span (n := m) (b := 40) J4 (by decide) a40 (by omega) (by decide)) (fun x r5 hx => ?_)
    obtain ⟨xv, c5⟩ := x
    obtain ⟨w1, w2, w3⟩ := hx
    have w1 : l2_fr la_W c4 c5 := w1
    show t_h2 _ (ty_ct rc (nI m, r5)) _
    refine h2_bL _ (sp_set (c := c5) (x := xv) h1) (fun c6 hc6 => ?_)
    obtain ⟨s1, s2⟩ := hc6
    have fc6 : l2_fr (ty_Wc a g l) c c6 := (fc4.trans (w1.mono (fun b j y => ty_la y))).trans (s1.mono (fun b j y => Or.inr (Or.inr (Or.inr (Or.inl ⟨by omega, by omega, by omega⟩)))))
    have fr5 : l2_fr (ty_Wr m) r r5 := fr4.trans (w2.mono (fun b j y => ty_sp y (Nat.le_refl _)))
    rcases w3 with ⟨v, lo, hi, v1, v2, v3, v4, v5, v6, v7⟩ | ⟨f, p, w3, w4⟩
    · obtain ⟨s3, s4⟩ := s2 lo hi (by omega) (by omega) v5
      have e55 : r5.1 955 m = nI 3 := by rw [(w2 955 m (by unfold sp_W; omega)).1]; exact e55
      rw [ty_ctP v4.f0.2 (by omega) e55 (by decide) (by decide) (by decide) (by decide)]
      have J6 := (show pj P v 0 0 (q + 1) (m + 1) c5 r5 from v4).fr s1 (l2_fr.rf (W := fun _ _ => False)) (fun j => by omega) (fun b i _ _ => by omega) (fun b i _ _ => by omega) (by omega) (fun j _ y => y) (fun b i _ _ y => y)
      have cm := pc_c_mono P (u + 1) v (by omega)
      refine h2_sm (ty_end (by omega) (by omega) (by omega) (Nat.le_refl _) (Nat.le_refl _) ⟨J6, ?_, t3, ?_, by omega, ?_, by omega, ?_⟩ fc6 fr5 ?_ ?_ (D4.fr (fun b j y => by rw [(s1 b j (by omega)).1, (w1 b j (by unfold la_W; omega)).1]) (fun i _ _ => ⟨(w2 955 i (by unfold sp_W; omega)).1, (w2 956 i (by unfold sp_W; omega)).1, fun e => ?_⟩)) (ty_s.text e55 (by omega) v6))
      · rw [(s1 316 8 (by omega)).1, (w1 316 8 (by unfold la_W; omega)).1, (w 316 8 (by omega)).1]; exact t2
      · rw [(s1 316 10 (by omega)).1, (w1 316 10 (by unfold la_W; omega)).1, (w 316 10 (by omega)).1]; exact t4
      · rw [(s1 846 6 (by omega)).1, (w1 846 6 (by unfold la_W; omega)).1, (w 846 6 (by omega)).1]; exact t6
      · rw [(w2 950 31 (by unfold sp_W; omega)).1, (z 950 31 (by omega)).1]; exact t8
      · rw [f18]
        refine ⟨Nat.le_refl _, by omega, Nat.le_refl _, by omega, 3, ?_, e55, Or.inr (Or.inr (Or.inl ⟨rfl, lo, hi, v2, v3, s3, s4, v6, v7⟩))⟩
        rw [(s1 317 a (by omega)).1, (w1 317 a (by unfold la_W; omega)).1, (w 317 a (by omega)).1]; exact c17
      · rw [(w2 960 m (by unfold sp_W; omega)).1, (z 960 m (by omega)).1]; exact r60
      · have n : i ≠ m := by
          intro x
          subst x
          rcases e with e | e
          · rw [(z 955 i (by omega)).1, r55] at e; exact absurd e (by decide)
          · rw [(z 955 i (by omega)).1, r55] at e; exact absurd e (by decide)
        exact (w2 957 i (by unfold sp_W; omega)).2.1
    · rw [ty_ctF w4.ne]
      refine h2_sm (ty_endF (f := f) (p := p) (fc6.mono (fun b j y => y.sub (Nat.zero_le _) (Nat.zero_le _) (Nat.zero_le _))) (fr5.mono (fun b j y => y.sub (Nat.zero_le _))) ((show lc_F c5 f p from w3).fr s1 (fun j _ _ => by omega)) w4)
  · have b : f_X13_is 40 r4 = 0 := b
    have a4 : ¬ c4.1 1 8 = (40 : Int32) := a40
    rw [b, if_pos rfl, if_neg a4]
    show t_h2 _ (ty_ct rc (nI m, r4)) _
    rw [ty_ctP J4.f0.2 (by omega) e55 (by decide) (by decide) (by decide) (by decide)]
    refine h2_sm (ty_end (by omega) (by omega) (by omega) (Nat.le_refl _) (Nat.le_refl _) ⟨J4, ?_, t3, ?_, t5, ?_, t7, ?_⟩ fc4 fr4 ?_ ?_ D4 (ty_s.text (lo := 0) e55 (by decide) (by rw [(z 957 m (by omega)).2.1]; exact r57)))
    · rw [(w 316 8 (by omega)).1]; exact t2
    · rw [(w 316 10 (by omega)).1]; exact t4
    · rw [(w 846 6 (by omega)).1]; exact t6
    · rw [(z 950 31 (by omega)).1]; exact t8
    · rw [f18]
      refine ⟨Nat.le_refl _, by omega, Nat.le_refl _, by omega, 3, ?_, e55, Or.inr (Or.inr (Or.inl ⟨rfl, 0, 40, by decide, by decide, ?_, v23, ?_, v58⟩))⟩
      · rw [(w 317 a (by omega)).1]; exact c17
      · rw [(w 322 a (by omega)).2.1]; exact c22
      · rw [(z 957 m (by omega)).2.1]; exact r57
    · rw [(z 960 m (by omega)).1]; exact r60
theorem ty_k4 {P : pc_S} {u q m a g l dd : Nat} {c r c3 r3 : t_S} {rc : RT_X13_fields} (h : ty_S0 P u q m a g l dd 4 c r c3 r3) (hd : dd ≤ 17) : t_h2 ((f_X6_readEnum (nI a) c3).bind (fun x => some (nI a, x))) ((k_X13_typeHere_116 13 (nI m) r3).bind (ty_ct rc)) (ty_R P u q m a g l dd c r) := by
  obtain ⟨h1, h2, T, ⟨c17, c18, c19, c20, c21, c22, c23⟩, ⟨r55, r57, r58, r59, r60⟩, fc, fr, D⟩ := h
  have f18 : 18 - dd = (17 - dd) + 1 := by omega
  unfold k_X13_typeHere_116
  rw [if_neg (by decide), if_pos rfl, Option.bind_assoc]
  refine h2_bb _ (ew_enum (n := a) (m0 := m) (by omega) h1 (by omega) (by omega) T c21 r59) (fun c4 r4 hq => ?_)
  obtain ⟨q1, q2, q3⟩ := hq
  show t_h2 _ (ty_ct rc (nI m, r4)) _
  rcases q3 with ⟨k, u1, m1, G, X, k0, k16, hu, T4, k1, k2, k3, k4, k5, k6, k7, k8, k9⟩ | ⟨f, p, q3, q4⟩
  · have e55 : r4.1 955 m = nI 4 := by rw [(k3 955 m (by unfold ty_Wr; omega)).1]; exact r55
    rw [ty_ctP T4.1.f0.2 (by omega) e55 (by decide) (by decide) (by decide) (by decide)]
    have fc4 : l2_fr (ty_Wc a g l) c c4 := fc.trans (k2.mono (fun b j y => by
      rcases y with y | ⟨y1, y2⟩
      · exact y.sub (by omega) (Nat.le_refl _) (Nat.le_refl _)
      · exact Or.inr (Or.inr (Or.inr (Or.inl ⟨by omega, by omega, by omega⟩)))))
    have fr4 : l2_fr (ty_Wr m) r r4 := fr.trans (k3.mono (fun b j y => by
      rcases y with y | ⟨y1, y2⟩
      · exact y.sub (by omega)
      · exact Or.inr (Or.inr ⟨by omega, by omega, by omega⟩)))
    refine h2_sm (ty_end (by omega) (by omega) (by omega) (by omega) (Nat.le_refl _) T4 fc4 fr4 ?_ (by rw [(k3 960 m (by unfold ty_Wr; omega)).1]; exact r60) ?_ (fun i i1 i2 => ?_))
    · rw [f18]
      refine ⟨Nat.le_refl _, by omega, Nat.le_refl _, by omega, 4, by rw [(k2 317 a (by unfold ty_Wc; omega)).1]; exact c17, e55, Or.inr (Or.inr (Or.inr (Or.inl ⟨rfl, k, g, G, X, k0, k16, k4, k5, Nat.le_refl _, k6, fun j hj => ⟨?_, (k7 j hj).2⟩, k8⟩)))⟩
      have := (k7 j hj).1
      omega
    · have eg : ∀ i, m + 1 ≤ i → i < m1 → ∃ j, j < k ∧ i = m + 1 + j ∧ ty_w c4 r4 (g + j) i (X j) := fun i x y => by
        obtain ⟨z1, z2⟩ := k7 (i - (m + 1)) (by omega)
        rw [z1] at z2
        refine ⟨i - (m + 1), by omega, by omega, ?_⟩
        rw [show m + 1 + (i - (m + 1)) = i by omega] at z2
        exact z2
      have D2 : ty_D c3 c4 r4 l l (m + 1) m1 := by
        refine ⟨fun i x y => ?_, fun e x y => by omega, fun x hx => ?_⟩
        · obtain ⟨j, j1, j2, j3⟩ := eg i x y
          exact ⟨11, by decide, by decide, j3.1, fun e => absurd e (by decide)⟩
        · rw [k9 x hx]
          constructor
          · rintro (y | ⟨j, j1, j2⟩)
            · exact Or.inl y
            · obtain ⟨z1, z2, z3, z4, z5⟩ := k7 j j1
              exact Or.inr ⟨G j, by omega, by omega, z2, by rw [z4, j2]⟩
          · rintro (y | ⟨i, i1, i2, i3, i4⟩)
            · exact Or.inl y
            · obtain ⟨j, j1, j2, j3⟩ := eg i i1 i2
              obtain ⟨z2, z3, z4, z5⟩ := j3
              rw [z4] at i4
              exact Or.inr ⟨j, j1, (pk_lEQ (by omega) (by omega)).mp i4⟩
      exact D.trans D2 ⟨Nat.le_refl _, Nat.le_refl _⟩ ⟨by omega, by omega⟩ (fun b e x y z => (k2 b e (by unfold ty_Wc; omega)).1) (fun i x y => ⟨(k3 955 i (by unfold ty_Wr; omega)).1, (k3 956 i (by unfold ty_Wr; omega)).1, fun _ => (k3 957 i (by unfold ty_Wr; omega)).2.1⟩)
    · by_cases e : i = m
      · subst e
        exact ty_p.no (K := 4) e55 (by decide) (by decide) (by decide) (by decide) (by decide) (by decide)
      · obtain ⟨z1, z2⟩ := k7 (i - (m + 1)) (by omega)
        rw [z1, show m + 1 + (i - (m + 1)) = i by omega] at z2
        exact ty_p.no (K := 11) z2.1 (by decide) (by decide) (by decide) (by decide) (by decide) (by decide)
  · rw [ty_ctF q4.ne]
    exact h2_sm (ty_endF ((fc.mono (fun b j y => y.sub (Nat.zero_le _) (Nat.zero_le _) (Nat.zero_le _))).trans q1) ((fr.mono (fun b j y => y.sub (Nat.zero_le _))).trans q2) q3 q4)
theorem ty_k56 {P : pc_S} {u q m a g l dd K : Nat} {ir ch : Int32} {c r c3 r3 : t_S} {rcC : RT_X6_readFields} {rcR RC : RT_X13_fields} (HT : ∀ P u q m a g l c r, tp P u 0 0 q m a g l (dd + 1) c r → t_h2 (rcC.2 (nI (dd + 1)) c) (rcR.2 r) (ty_R P u q m a g l (dd + 1) c r)) (HC : ∀ c f p, lc_F c f p → ∀ x, t_hk (rcC.2 x c) (fun y => lc_F y.2 f p ∧ l2_fr (ty_Wc 0 0 0) c y.2)) (HR : ∀ P f p r, pr P f p r → rcR.2 r = some (0, r)) (hRC : ∀ x s, RC.1 x s = m_X13_fields rcR x s) (hir : (ir = 1 ∧ ch = 0 ∧ K = 5) ∨ (ir = 0 ∧ ch = 1 ∧ K = 6)) (h : ty_S0 P u q m a g l dd K c r c3 r3) (hd : dd ≤ 16) : t_h2 ((m_X6_readFields rcC (nI a) (nI dd) ir c3).bind (fun x => some (nI a, x))) (ty_ct RC (nI m, r3)) (ty_R P u q m a g l dd c r) := by
  obtain ⟨h1, h2, T, ⟨c17, c18, c19, c20, c21, c22, c23⟩, ⟨r55, r57, r58, r59, r60⟩, fc, fr, D⟩ := h
  have f18 : 18 - dd = (17 - dd) + 1 := by omega
  have e119 : ty_ct RC (nI m, r3) = (m_X13_fields rcR (nI m) r3).bind (fun x => k_X13_type_183 RC (nI m) x) := by
    rw [ty_ct0 T.1.f0.2 (by omega) r55]
    unfold k_X13_type_107 k_X13_type_119
    rw [hRC]
    rcases hir with ⟨_, _, rfl⟩ | ⟨_, _, rfl⟩
    · rw [if_pos (show nI 5 = (5 : Int32) from rfl)]
    · rw [if_neg (show ¬ nI 6 = (5 : Int32) by decide), if_pos (show nI 6 = (6 : Int32) from rfl)]
  rw [e119]
  refine h2_bb _ (fi_fields (n := a) (m0 := m) HT HC HR (by omega) h1 (by omega) (by omega) hir T c18 c21 r55 r59) (fun c4 r4 hq => ?_)
  obtain ⟨q1, q2, q3⟩ := hq
  rw [ty_183]
  rcases q3 with ⟨k, u1, qq, m1, a1, g1, l1, F, G, X, O, k16, k6p, hu, T4, k1, k2, k3, k4, k5, k6, k7, k8, k9, k10, k11, k12, k13⟩ | ⟨f, p, q3, q4⟩
  · have e55 : r4.1 955 m = nI K := by rw [(k6 955 m (by unfold ty_Wr; omega)).1]; exact r55
    have fc4 : l2_fr (ty_Wc a g l) c c4 := fc.trans (k5.mono (fun b j y => by
      rcases y with y | ⟨y1, y2⟩
      · exact y.sub (by omega) (Nat.le_refl _) (Nat.le_refl _)
      · exact Or.inr (Or.inr (Or.inr (Or.inl ⟨by omega, by omega, by omega⟩)))))
    have fr4 : l2_fr (ty_Wr m) r r4 := fr.trans (k6.mono (fun b j y => by
      rcases y with y | ⟨y1, y2⟩
      · exact y.sub (by omega)
      · exact Or.inr (Or.inr ⟨by omega, by omega, by omega⟩)))
    refine h2_sm (ty_end (by omega) (by omega) (by omega) k3 k4 T4 fc4 fr4 ?_ (by rw [(k6 960 m (by unfold ty_Wr; omega)).1]; exact r60) ?_ (fun i i1 i2 => ?_))
    · rw [f18]
      refine ⟨Nat.le_refl _, by omega, Nat.le_refl _, by omega, K, by rw [(k5 317 a (by unfold ty_Wc; omega)).1]; exact c17, e55, Or.inr (Or.inr (Or.inr (Or.inr (Or.inl ⟨?_, k, F, G, X, O, k16, k6p, k9, k7, k8, k10, fun j hj => ?_⟩))))⟩
      · rcases hir with ⟨_, _, e⟩ | ⟨_, _, e⟩
        · exact Or.inl e
        · exact Or.inr e
      · obtain ⟨y1, y2, y3, y4, y5⟩ := k11 j hj
        exact ⟨y2, y4, y5⟩
    · exact D.trans k12 ⟨Nat.le_refl _, k4⟩ ⟨by omega, k2⟩ (fun b e x y z => (k5 b e (by unfold ty_Wc; omega)).1) (fun i x y => ⟨(k6 955 i (by unfold ty_Wr; omega)).1, (k6 956 i (by unfold ty_Wr; omega)).1, fun _ => (k6 957 i (by unfold ty_Wr; omega)).2.1⟩)
    · by_cases e : i = m
      · subst e
        refine ⟨fun _ => ?_, fun q => absurd q ?_, fun q => absurd q ?_, fun q => absurd q ?_⟩
        · rw [k8.1]
          by_cases z : 0 < k
          · rw [if_pos z]
            exact Or.inr ⟨G 0, rfl, (k8.2 0 z).2.1, (k11 0 z).2.2.2.1, (k11 0 z).2.2.2.2.1.2.1⟩
          · rw [if_neg z]
            exact Or.inl rfl
        · rw [e55]
          rcases hir with ⟨_, _, rfl⟩ | ⟨_, _, rfl⟩ <;> decide
        · rw [e55]
          rcases hir with ⟨_, _, rfl⟩ | ⟨_, _, rfl⟩ <;> decide
        · rw [e55]
          rcases hir with ⟨_, _, rfl⟩ | ⟨_, _, rfl⟩ <;> decide
      · exact k13 i (by omega) i2
  · exact h2_sm (ty_endF ((fc.mono (fun b j y => y.sub (Nat.zero_le _) (Nat.zero_le _) (Nat.zero_le _))).trans q1) ((fr.mono (fun b j y => y.sub (Nat.zero_le _))).trans q2) q3 q4)
