/-! Level 2: one field of a record or choice, on both sides. -/
def fi_I (P : pc_S) (n m0 a0 m g l K dd u0 q0 : Nat) (ir ch : Int32) (c0 r0 : t_S) (w : Nat) (x : Int32 × Int32 × Int32 × Int32 × Int32 × t_S) (y : Int32 × Int32 × Int32 × Int32 × t_S) : Prop := ∃ (k : Nat) (last : Int32) (c r : t_S), k + w = 17 ∧ k ≤ 16 ∧ x = (nI n, nI dd, ir, last, nI k, c) ∧ y = (nI m0, ch, 1, nI k, r) ∧ l2_fr (ty_Wc 0 0 0) c0 c ∧ l2_fr (ty_Wr 0) r0 r ∧ ((∃ u1 q1 m1 a1 g1 l1 F G X O, (u0 < u1 ∧ q0 ≤ q1) ∧ tp P u1 0 0 q1 m1 a1 g1 l1 (dd + 1) c r ∧ fi_K n m0 a0 m g l K (17 - dd) c0 r0 c r a1 m1 g1 l1 k F G X O ∧ (0 < k → last = nI (F (k - 1)))) ∨ pf P c r)
def fi_Q (P : pc_S) (n m0 a0 m g l K dd u0 q0 : Nat) (c0 r0 c r : t_S) : Prop := l2_fr (ty_Wc 0 0 0) c0 c ∧ l2_fr (ty_Wr 0) r0 r ∧ ((∃ k u1 q1 m1 a1 g1 l1 F G X O, k ≤ 16 ∧ (K = 6 → 0 < k) ∧ (u0 < u1 ∧ q0 ≤ q1) ∧ tp P u1 0 0 q1 m1 a1 g1 l1 (dd + 1) c r ∧ fi_K n m0 a0 m g l K (17 - dd) c0 r0 c r a1 m1 g1 l1 k F G X O) ∨ pf P c r)
theorem fi_bad {P : pc_S} {n m0 a0 m g l K dd u0 q0 w : Nat} {ir ch : Int32} {c0 r0 : t_S} {rcC : RT_X6_readFields} {rcR : RT_X13_fields} {A : Option ((Int32 × Int32 × Int32 × Int32 × Int32 × t_S) ⊕ t_S)} {B : Option ((Int32 × Int32 × Int32 × Int32 × t_S) ⊕ t_S)} {c r : t_S} {f p : Nat} {l1 l2 l3 : Int32} (fc : l2_fr (ty_Wc 0 0 0) c0 c) (fr : l2_fr (ty_Wr 0) r0 r) (hA : t_hk A (fun z => ∃ c', z = .inr c' ∧ lc_F c' f p ∧ l2_fr (ty_Wc 0 0 0) c c')) (hB : t_hk B (fun z => ∃ x r', z = .inl (l1, l2, x, l3, r') ∧ pr P f p r' ∧ l2_fr (ty_Wr 0) r r')) : t_h2 A B (h2_nx (b_X6_readFields_32 rcC) (b_X13_fields_45 rcR) (fun x y => ∃ j, j < w ∧ fi_I P n m0 a0 m g l K dd u0 q0 ir ch c0 r0 j x y) (fi_Q P n m0 a0 m g l K dd u0 q0 c0 r0)) := by
  refine h2_sep _ _ hA hB (fun x y hx hy => ?_)
  obtain ⟨c', rfl, h1, h2⟩ := hx
  obtain ⟨x, r', rfl, h3, h4⟩ := hy
  intro N hN
  rw [show N = (N - 1) + 1 by omega, l2_lpR (pr_fiend h3 l1 l2 x l3)]
  exact l2_sm ⟨fc.trans h2, (fr.trans h4).trans ty_d5, Or.inr ⟨f, p, h1, h3.dead⟩⟩
theorem fi_join {P : pc_S} {n m0 a0 m g l K dd u0 q0 u1 v q2 m1 a1 g1 l1 m2 a2 g2 l2 k x o n' m' : Nat} {ir ch last : Int32} {c0 r0 c r s t : t_S} {F G X O : Nat → Nat} {rcC : RT_X6_readFields} {rcR : RT_X13_fields} (hk : k < 16) (hn : n < a0) (hm0 : m0 < m) (hu : u0 < u1 ∧ q0 ≤ q2) (huv : u1 < v)
    (KK : fi_K n m0 a0 m g l K (17 - dd) c0 r0 c r a1 m1 g1 l1 k F G X O) (hl : 0 < k → last = nI (F (k - 1))) (fcc : l2_fr (ty_Wc 0 0 0) c0 c) (frr : l2_fr (ty_Wr 0) r0 r)
    (T : tp P v 0 0 q2 m2 a2 g2 l2 (dd + 1) s t) (ha : a1 < a2) (hm : m1 < m2) (hg : g1 ≤ g2) (hl2 : l1 ≤ l2)
    (fc : l2_fr (ty_Wc a1 g1 l1) c s) (fr : l2_fr (fun b j => ty_Wr m1 b j ∨ (b = 959 ∧ j = m0 ∧ k = 0) ∨ (b = 960 ∧ 0 < k ∧ j = G (k - 1))) r t)
    (ct : ch_R t m0 (k + 1) (va_up G k m1)) (c19 : s.1 319 a1 = -1) (hf : ty_f s t a1 m1 x o) (ho : K = 6 → o = 0) (nx : ∀ j, j < k → X j ≠ x) (hc : s.1 318 a1 = nI n') (hr : t.1 959 m1 = nI m') (h60 : t.1 960 m' = -1) (hT : TY (ty_NM s t l2) s t (17 - dd) (a1 + 1) a2 (m1 + 1) m2 g2 n' m') (D : ty_D c s t l1 l2 m1 m2) (Sh : ty_s t (m1 + 1) m2) :
    t_h2 (k_X6_readFields_209 rcC (nI n) (nI dd) ir last (nI k) (nI a1) s) (k_X13_fields_176 rcR (nI m0) ch (nI k) t) (h2_nx (b_X6_readFields_32 rcC) (b_X13_fields_45 rcR) (fun x y => ∃ w, w < 17 - k ∧ fi_I P n m0 a0 m g l K dd u0 q0 ir ch c0 r0 w x y) (fi_Q P n m0 a0 m g l K dd u0 q0 c0 r0)) := by
  obtain ⟨k1, k2, k3, k4, k5, k6, k7, k8, k9, k10, k11, k12, k13⟩ := KK
  obtain ⟨J, t2, t3, t4, t5, t6, t7, t8⟩ := T
  have q3 : q2 ≤ 3000 := by
    obtain ⟨B, L, W0, W, V, sl, H, T, n, t0, mm⟩ := P
    exact J.2.2.2.2.2.2.2.1
  have Fa : ∀ j, j < k → F j < a1 := fun j hj => (k11 j hj).2.1
  have cs : cc_R s n k F := k7.ac (fun b j x y z => (fc b j (by
    have : j < a1 := by
      rcases z with z | ⟨i, z1, z2⟩
      · omega
      · have := Fa i z1
        omega
    unfold ty_Wc
    omega)).1)
  have s21 : s.1 321 n = nI k := by rw [(fc 321 n (by unfold ty_Wc; omega)).1]; exact k9
  refine fi_tail (by omega) (by omega) (by omega) cs Fa hl s21 c19 (fun s' w1 w2 w3 => ?_)
  unfold k_X13_fields_176
  have w1' : l2_fr (fun b j => b = 318 ∨ b = 319 ∨ b = 321) s s' := w1.mono (fun b j y => by omega)
  have J' : pj P v 0 0 q2 m2 s' t := J.fr w1' (l2_fr.rf (W := fun _ _ => False)) (fun j => by omega) (fun b i _ _ => by omega) (fun b i _ _ => by omega) (by omega) (fun j _ y => y) (fun b i _ _ y => y)
  have T' : tp P v 0 0 q2 m2 a2 g2 l2 (dd + 1) s' t := by
    refine ⟨J', ?_, t3, ?_, t5, ?_, t7, t8⟩
    · rw [(w1' 316 8 (by omega)).1]; exact t2
    · rw [(w1' 316 10 (by omega)).1]; exact t4
    · rw [(w1' 846 6 (by omega)).1]; exact t6
  have eR : ∀ b j, 955 ≤ b → b ≤ 962 → j < m1 → (b = 959 → j ≠ m0) → (b = 960 → 0 < k → j ≠ G (k - 1)) → t.1 b j = r.1 b j ∧ t.2.1 b j = r.2.1 b j := fun b j x y z h9 h0 => by
    have : ¬ (ty_Wr m1 b j ∨ (b = 959 ∧ j = m0 ∧ k = 0) ∨ (b = 960 ∧ 0 < k ∧ j = G (k - 1))) := by
      rintro (h | ⟨h, h', _⟩ | ⟨h, h', h''⟩)
      · unfold ty_Wr at h
        omega
      · exact h9 h h'
      · exact h0 h h' h''
    exact ⟨(fr b j this).1, (fr b j this).2.1⟩
  have eC : ∀ b j, 317 ≤ b → b ≤ 323 → j < a1 → s.1 b j = c.1 b j ∧ s.2.1 b j = c.2.1 b j := fun b j x y z => ⟨(fc b j (by unfold ty_Wc; omega)).1, (fc b j (by unfold ty_Wc; omega)).2.1⟩
  have eS : ∀ b j, 317 ≤ b → b ≤ 325 → (b = 318 ∨ b = 321 → j ≠ n) → (b = 319 → 0 < k → j ≠ F (k - 1)) → s'.1 b j = s.1 b j ∧ s'.2.1 b j = s.2.1 b j := fun b j x y h1 h2 => by
    have : ¬ (((b = 318 ∨ b = 321) ∧ j = n) ∨ (b = 319 ∧ 0 < k ∧ j = F (k - 1))) := by
      rintro (⟨h, h'⟩ | ⟨h, h', h''⟩)
      · exact h1 h h'
      · exact h2 h h' h''
    exact ⟨(w1 b j this).1, (w1 b j this).2.1⟩
  have enC : ∀ b e, 848 ≤ b → b ≤ 853 → e < l1 → s'.1 b e = c.1 b e := fun b e x y z => by
    rw [(w1' b e (by omega)).1]
    exact (fc b e (by unfold ty_Wc; omega)).1
  have Fl : 0 < k → a0 ≤ F (k - 1) ∧ F (k - 1) < a1 := fun z => ⟨(k11 (k - 1) (by omega)).1, Fa _ (by omega)⟩
  have Gl : 0 < k → m ≤ G (k - 1) ∧ G (k - 1) < m1 := fun z => ⟨(k11 (k - 1) (by omega)).2.2.1, (k11 (k - 1) (by omega)).2.2.2.1⟩
  have Fm : ∀ i j, i < j → j < k → F i < F j := ch_lt (fun j hj => (k7.2 j hj).2.2.2)
  have Gm : ∀ i j, i < j → j < k → G i < G j := ch_lt (fun j hj => (k8.2 j hj).2.2.2)
  have K' : fi_K n m0 a0 m g l K (17 - dd) c0 r0 s' t a2 m2 g2 l2 (k + 1) (va_up F k a1) (va_up G k m1) (va_up X k x) (va_up O k o) := by
    refine ⟨by omega, by omega, by omega, by omega, (k5.trans (fc.mono (fun b j y => Or.inl (y.sub k1 k3 k4)))).trans (w1.mono (fun b j y => ?_)), k6.trans (fr.mono (fun b j y => ?_)), w2, ct, w3, fun i j hi hj => ?_, fun j hj => ?_, ?_, fun i i1 i2 => ?_⟩
    · rcases y with y | ⟨y1, y2, y3⟩
      · exact Or.inr y
      · have := Fl y2
        exact Or.inl (by unfold ty_Wc; omega)
    · rcases y with y | ⟨y1, y2, y3⟩ | ⟨y1, y2, y3⟩
      · exact Or.inl (y.sub k2)
      · exact Or.inr ⟨y1, y2⟩
      · have := Gl y2
        exact Or.inl (Or.inr (Or.inr ⟨by omega, by omega, by omega⟩))
    · by_cases e : j = k
      · subst e
        rw [mj_up_eq, mj_up_ne _ _ (by omega)]
        exact nx i hi
      · rw [mj_up_ne _ _ e, mj_up_ne _ _ (by omega)]
        exact k10 i j hi (by omega)
    · by_cases e : j = k
      · subst e
        rw [mj_up_eq, mj_up_eq, mj_up_eq, mj_up_eq]
        obtain ⟨f1, f2, f3, f4, f5, f6, f7, f8⟩ := hf
        refine ⟨by omega, ha, by omega, hm, ⟨?_, f2, f3, ?_, f5, f6, ?_, f8⟩, ho, n', m', ?_, hr, h60, ?_⟩
        · rw [(eS 317 a1 (by decide) (by decide) (by omega) (by omega)).1]; exact f1
        · rw [(eS 320 a1 (by decide) (by decide) (by omega) (by omega)).1]; exact f4
        · rw [(eS 321 a1 (by decide) (by decide) (by omega) (by omega)).1]; exact f7
        · rw [(eS 318 a1 (by decide) (by decide) (by omega) (by omega)).1]; exact hc
        · rw [if_neg (by omega), if_neg (by omega)]
          refine TY.fr _ _ _ _ _ _ _ _ hT ⟨fun i z x1 x2 x3 x4 => eS i z x1 (by omega) (by omega) (fun _ h => by have := Fl h; omega), fun z hz => (eS 325 z (by decide) (by decide) (by omega) (by omega)).1⟩ (fun i z _ _ _ _ => ⟨rfl, rfl⟩) (fun a b _ _ _ _ ⟨e, e1, e2, e3⟩ => ⟨e, e1, e2.fr (fun b u v => (w1' b e (by omega)).1) rfl rfl, by rw [(w1' 852 e (by omega)).1]; exact e3⟩) _ _ _ _ (Nat.le_refl _) (Nat.le_refl _) (Nat.le_refl _) (Nat.le_refl _)
      · have hj : j < k := by omega
        obtain ⟨y1, y2, y3, y4, ⟨f1, f2, f3, f4, f5, f6, f7, f8⟩, y6, n1, m1', y7, y8, y9, y10⟩ := k11 j hj
        rw [mj_up_ne _ _ e, mj_up_ne _ _ e, mj_up_ne _ _ e, mj_up_ne _ _ e]
        have cF : ∀ b, 317 ≤ b → b ≤ 323 → b ≠ 319 → s'.1 b (F j) = c.1 b (F j) := fun b x1 x2 x3 => by
          rw [(eS b (F j) x1 (by omega) (by omega) (by omega)).1, (eC b (F j) x1 x2 y2).1]
        have rG : ∀ b, 955 ≤ b → b ≤ 962 → b ≠ 960 → t.1 b (G j) = r.1 b (G j) ∧ t.2.1 b (G j) = r.2.1 b (G j) := fun b x1 x2 x3 => eR b (G j) x1 x2 y4 (by omega) (by omega)
        have at10 := y10.at
        have eF : (if j + 1 < k then F (j + 1) else a1) = (if j + 1 < k + 1 then va_up F k a1 (j + 1) else a2) ∧ (if j + 1 < k then F (j + 1) else a1) ≤ a1 := by
          rw [if_pos (show j + 1 < k + 1 by omega)]
          by_cases z : j + 1 < k
          · rw [if_pos z, mj_up_ne _ _ (by omega)]
            exact ⟨rfl, Nat.le_of_lt (Fa _ z)⟩
          · rw [if_neg z, show j + 1 = k by omega, mj_up_eq]
            exact ⟨rfl, Nat.le_refl _⟩
        have eG : (if j + 1 < k then G (j + 1) else m1) = (if j + 1 < k + 1 then va_up G k m1 (j + 1) else m2) ∧ (if j + 1 < k then G (j + 1) else m1) ≤ m1 := by
          rw [if_pos (show j + 1 < k + 1 by omega)]
          by_cases z : j + 1 < k
          · rw [if_pos z, mj_up_ne _ _ (by omega)]
            exact ⟨rfl, Nat.le_of_lt (k11 _ z).2.2.2.1⟩
          · rw [if_neg z, show j + 1 = k by omega, mj_up_eq]
            exact ⟨rfl, Nat.le_refl _⟩
        -- the last node of the list is not among a field's own
        have outF : ∀ z, F j + 1 ≤ z → z < (if j + 1 < k then F (j + 1) else a1) → 0 < k → z ≠ F (k - 1) := by
          intro z z1 z2 z3 z4
          by_cases q : j + 1 < k
          · rw [if_pos q] at z2
            by_cases q2 : j + 1 = k - 1
            · rw [q2] at z2; omega
            · have := Fm (j + 1) (k - 1) (by omega) (by omega)
              omega
          · rw [show k - 1 = j by omega] at z4; omega
        have outG : ∀ z, G j + 1 ≤ z → z < (if j + 1 < k then G (j + 1) else m1) → 0 < k → z ≠ G (k - 1) := by
          intro z z1 z2 z3 z4
          by_cases q : j + 1 < k
          · rw [if_pos q] at z2
            by_cases q2 : j + 1 = k - 1
            · rw [q2] at z2; omega
            · have := Gm (j + 1) (k - 1) (by omega) (by omega)
              omega
          · rw [show k - 1 = j by omega] at z4; omega
        refine ⟨y1, by omega, y3, by omega, ⟨?_, ?_, f3, ?_, ?_, f6, ?_, ?_⟩, y6, n1, m1', ?_, ?_, ?_, ?_⟩
        · rw [cF 317 (by decide) (by decide) (by decide)]; exact f1
        · rw [(rG 955 (by decide) (by decide) (by decide)).1]; exact f2
        · rw [cF 320 (by decide) (by decide) (by decide)]; exact f4
        · rw [(rG 957 (by decide) (by decide) (by decide)).2]; exact f5
        · rw [cF 321 (by decide) (by decide) (by decide)]; exact f7
        · rw [(rG 958 (by decide) (by decide) (by decide)).2]; exact f8
        · rw [cF 318 (by decide) (by decide) (by decide)]; exact y7
        · rw [(rG 959 (by decide) (by decide) (by decide)).1]; exact y8
        · have q := outG m1' at10.2.2.1 at10.2.2.2
          have q2 := eG.2
          rw [(eR 960 m1' (by decide) (by decide) (by omega) (by omega) (fun _ h => q h)).1]; exact y9
        · have q1 := eF.2
          have q2 := eG.2
          rw [← eF.1, ← eG.1]
          refine TY.fr _ _ _ _ _ _ _ _ y10 ⟨fun i z x1 x2 x3 x4 => ?_, fun z hz => ?_⟩ (fun i z x1 x2 x3 x4 => ?_) (fun a b x1 x2 x3 x4 ⟨e, e1, e2, e3⟩ => ⟨e, by omega, e2.fr (fun b u v => enC b e u (by omega) e1) (eR 956 b (by decide) (by decide) (by omega) (by omega) (by omega)).1 (eR 957 b (by decide) (by decide) (by omega) (by omega) (by omega)).2, by rw [enC 852 e (by decide) (by decide) e1]; exact e3⟩) _ _ _ _ (Nat.le_refl _) (Nat.le_refl _) (Nat.le_refl _) hg
          · obtain ⟨p1, p2⟩ := eS i z x1 (by omega) (by omega) (fun _ h => outF z x3 x4 h)
            obtain ⟨p3, p4⟩ := eC i z x1 x2 (by omega)
            exact ⟨p1.trans p3, p2.trans p4⟩
          · rw [(eS 325 z (by decide) (by decide) (by omega) (by omega)).1]
            exact (fc 325 z (by unfold ty_Wc; omega)).1
          · exact eR i z x1 (by omega) (by omega) (by omega) (fun _ h => outG z x3 x4 h)
    · have D' : ty_D c s' t l1 l2 m1 m2 := D.fr (fun b j y => (w1' b j (by omega)).1) (fun k _ _ => ⟨rfl, rfl, fun _ => rfl⟩)
      exact k12.trans D' ⟨k4, hl2⟩ ⟨k2, by omega⟩ (fun b e x y z => enC b e x (by omega) z) (fun i x y => ⟨(eR 955 i (by decide) (by decide) y (by omega) (by omega)).1, (eR 956 i (by decide) (by decide) y (by omega) (by omega)).1, fun _ => (eR 957 i (by decide) (by decide) y (by omega) (by omega)).2⟩)
    · have e55 : ∀ j, j < m1 → t.1 955 j = r.1 955 j := fun j hj => (eR 955 j (by decide) (by decide) hj (by omega) (by omega)).1
      by_cases z : i < m1
      · have P := k13 i i1 z
        by_cases y : 0 < k ∧ i = G (k - 1)
        · obtain ⟨y1, y2⟩ := y
          have t10 : r.1 955 (G (k - 1)) = 10 := (k11 (k - 1) (by omega)).2.2.2.2.1.2.1
          have nx1 : t.1 960 (G (k - 1)) = nI m1 := by
            have := (ct.2 (k - 1) (by omega)).2.2.1
            rw [mj_up_ne _ _ (by omega), if_pos (by omega), show k - 1 + 1 = k by omega, mj_up_eq] at this
            exact this
          have e59 : t.1 959 i = r.1 959 i := (eR 959 i (by decide) (by decide) z (by omega) (by omega)).1
          refine ⟨fun q => absurd q ?_, fun _ => ⟨Or.inr ⟨m1, by rw [y2]; exact nx1, z, by omega, hf.2.1⟩, ?_⟩, fun q => absurd q ?_, fun q => absurd q ?_⟩
          · rw [e55 i z, y2, t10]; decide
          · obtain ⟨j, j1, j2⟩ := (P.2.1 (by rw [y2]; exact t10)).2
            exact ⟨j, e59.trans j1, by omega⟩
          · rw [e55 i z, y2, t10]; decide
          · rw [e55 i z, y2, t10]; decide
        · exact P.fr (by omega) (e55 i z) (eR 959 i (by decide) (by decide) z (by omega) (by omega)).1 (eR 960 i (by decide) (by decide) z (by omega) (fun _ q1 q2 => y ⟨q1, q2⟩)).1 (eR 957 i (by decide) (by decide) z (by omega) (by omega)).2 (fun j _ hj => e55 j hj)
      · by_cases y : i = m1
        · subst y
          have nx1 : t.1 960 i = -1 := by
            have := (ct.2 k (by omega)).2.2.1
            rw [mj_up_eq, if_neg (by omega)] at this
            exact this
          have at10 := hT.at
          refine ⟨fun q => absurd q ?_, fun _ => ⟨Or.inl nx1, m', hr, by omega⟩, fun q => absurd q ?_, fun q => absurd q ?_⟩
          · rw [hf.2.1]; decide
          · rw [hf.2.1]; decide
          · rw [hf.2.1]; decide
        · exact Sh i (by omega) i2
  have fcs' : l2_fr (ty_Wc 0 0 0) c0 s' := (fcc.trans (fc.mono (fun b j y => y.sub (Nat.zero_le _) (Nat.zero_le _) (Nat.zero_le _)))).trans (w1'.mono (fun b j y => by unfold ty_Wc; omega))
  have frt' : l2_fr (ty_Wr 0) r0 t := frr.trans (fr.mono (fun b j y => by
    rcases y with y | ⟨y1, y2, y3⟩ | ⟨y1, y2, y3⟩
    · exact y.sub (Nat.zero_le _)
    · exact Or.inr (Or.inr ⟨by omega, by omega, by omega⟩)
    · exact Or.inr (Or.inr ⟨by omega, by omega, by omega⟩)))
  have lav : ∀ {c2 r2 : t_S}, l2_fr la_W s' c2 → l2_fr rn_W t r2 → pj P (v + 1) 0 0 q2 m2 c2 r2 → tp P (v + 1) 0 0 q2 m2 a2 g2 l2 (dd + 1) c2 r2 := by
    intro c2 r2 y2 y3 y4
    obtain ⟨_, t2, t3, t4, t5, t6, t7, t8⟩ := T'
    have cm := pc_c_le P v
    refine ⟨y4, ?_, t3, ?_, by omega, ?_, by omega, ?_⟩
    · rw [(y2 316 8 (by unfold la_W; omega)).1]; exact t2
    · rw [(y2 316 10 (by unfold la_W; omega)).1]; exact t4
    · rw [(y2 846 6 (by unfold la_W; omega)).1]; exact t6
    · rw [(y3 950 31 (by unfold rn_W; omega)).1]; exact t8
  rw [show (44 : Int32) = nI (sg 44) from rfl]
  rcases J'.is (x := 44) (by decide) with ⟨a, b⟩ | ⟨a, b⟩
  · rw [b]
    refine h2_noR (by decide) (h2_bb _ (pj_took J' (by decide) (x := 44) (by decide) a) (fun y r6 hy => ?_))
    obtain ⟨y0, c3⟩ := y
    obtain ⟨y1, y2, y3, y4⟩ := hy
    have y1 : y0 = 1 := y1
    subst y1
    have y2 : l2_fr la_W s' c3 := y2
    have y4 : pj P (v + 1) 0 0 q2 m2 c3 r6 ∨ pf P c3 r6 := y4
    refine h2_noL (show ¬ (1 : Int32) = 0 by decide) (h2_sm ?_)
    refine ⟨16 - k, by omega, k + 1, nI a1, c3, r6, by omega, by omega, ?_, ?_, fcs'.trans (y2.mono (fun b j y => ty_la y)), frt'.trans (y3.mono (fun b j y => ty_rn y)), ?_⟩
    · rw [nI_1]
    · rw [nI_1]
    · rcases y4 with y4 | y4
      · exact Or.inl ⟨v + 1, q2, m2, a2, g2, l2, _, _, _, _, by omega, lav y2 y3 y4, K'.la y2 y3, fun _ => by rw [show k + 1 - 1 = k by omega, mj_up_eq]⟩
      · exact Or.inr y4
  · rw [b]
    refine h2_ckR rfl (h2_eL (pj_nottook a) (h2_ckL rfl (h2_mL ?_)))
    unfold k_X6_readFields_278
    obtain ⟨c3, r6, e1, e2, y2, y3, y4⟩ := pj_need J' (by decide) (x := 125) (by decide) (s := 125) rfl
    have fin : fi_Q P n m0 a0 m g l K dd u0 q0 c0 r0 c3 r6 := by
      refine ⟨fcs'.trans (y2.mono (fun b j y => ty_la y)), frt'.trans (y3.mono (fun b j y => ty_rn y)), ?_⟩
      rcases y4 with y4 | y4
      · exact Or.inl ⟨k + 1, v + 1, q2, m2, a2, g2, l2, _, _, _, _, by omega, fun _ => by omega, by omega, lav y2 y3 y4, K'.la y2 y3⟩
      · exact Or.inr y4
    refine h2_eL e1 (h2_sm (fun N hN => ?_))
    have e : b_X13_fields_45 rcR (nI m0, ch, 0, nI k + 1, t) = some (.inr r6) := by
      show k_X13_fields_45 rcR (nI m0) ch 0 (nI k + 1) t = _
      unfold k_X13_fields_45 k_X13_fields_197
      rw [if_pos rfl, e2]
      rfl
    rw [show N = (N - 1) + 1 by omega, l2_lpR e]
    exact l2_sm fin
