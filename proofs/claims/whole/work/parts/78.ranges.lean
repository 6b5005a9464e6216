/-! Level 2: the state while types are read; the ranges of an int. -/
def ty_Wc (a g l b j : Nat) : Prop := (b = 1 ∧ 7 ≤ j ∧ j ≤ 12) ∨ (b = 845 ∧ j = 10) ∨ (b = 316 ∧ (j = 8 ∨ j = 10)) ∨ (317 ≤ b ∧ b ≤ 323 ∧ a ≤ j) ∨ (b = 325 ∧ g ≤ j) ∨ (b = 846 ∧ j = 6) ∨ (848 ≤ b ∧ b ≤ 853 ∧ l ≤ j) ∨ b = 7
def ty_Wr (m b j : Nat) : Prop := (b = 950 ∧ ((2 ≤ j ∧ j ≤ 10) ∨ j = 14 ∨ j = 15 ∨ j = 24 ∨ j = 28 ∨ j = 31)) ∨ (952 ≤ b ∧ b ≤ 954) ∨ (955 ≤ b ∧ b ≤ 962 ∧ m ≤ j)
/-- both at token u: a nodes of types, g members, l links, dd deep -/
def tp (P : pc_S) (u d z q m a g l dd : Nat) (c r : t_S) : Prop := pj P u d z q m c r ∧ c.1 316 8 = nI a ∧ a ≤ q ∧ c.1 316 10 = nI g ∧ g ≤ pc_c P u ∧ c.1 846 6 = nI l ∧ l ≤ pc_c P u ∧ r.1 950 31 = nI dd
theorem ty_la {a g l b j : Nat} (h : la_W b j) : ty_Wc a g l b j := Or.inl h
theorem ty_rn {m b j : Nat} (h : rn_W b j) : ty_Wr m b j := Or.inl ⟨h.1, Or.inl h.2⟩
/-- a node that is none of a templ: what is written -/
def nd_V (m b j : Nat) : Prop := (955 ≤ b ∧ b ≤ 962 ∧ j = m) ∨ (b = 950 ∧ (j = 24 ∨ j = 28))
def nd_k (k : Int32) : Prop := ∀ s, f_X13_in k.toInt64 (20 : Int64) (41 : Int64) s = 0
theorem nd_k20 {K : Nat} (h : K < 20) : nd_k (nI K) := by
  intro s
  have e : K = 0 ∨ K = 1 ∨ K = 2 ∨ K = 3 ∨ K = 4 ∨ K = 5 ∨ K = 6 ∨ K = 7 ∨ K = 8 ∨ K = 9 ∨ K = 10 ∨ K = 11 ∨ K = 12 ∨ K = 13 ∨ K = 14 ∨ K = 15 ∨ K = 16 ∨ K = 17 ∨ K = 18 ∨ K = 19 := by omega
  unfold f_X13_in
  rcases e with rfl | rfl | rfl | rfl | rfl | rfl | rfl | rfl | rfl | rfl | rfl | rfl | rfl | rfl | rfl | rfl | rfl | rfl | rfl | rfl <;> decide
theorem nd_v53 {s : t_S} {k j : Int32} {x : Int32 × t_S} (hk : nd_k k) (h : k_X13_node_53 k j s = some x) : l2_fr (nd_V j.toNatClampNeg) s x.2 := by
  unfold k_X13_node_53 at h
  simp only [t_let, hk _, reduceIte] at h
  split at h
  · cases h
    exact (((((((l2_fr.set (Or.inr ⟨rfl, Or.inl rfl⟩)).trans (l2_fr.set (Or.inl ⟨by decide, by decide, rfl⟩))).trans (l2_fr.set (Or.inl ⟨by decide, by decide, rfl⟩))).trans (l2_fr.setJ (Or.inl ⟨by decide, by decide, rfl⟩))).trans (l2_fr.setJ (Or.inl ⟨by decide, by decide, rfl⟩))).trans (l2_fr.set (Or.inl ⟨by decide, by decide, rfl⟩))).trans (l2_fr.set (Or.inl ⟨by decide, by decide, rfl⟩))).trans (l2_fr.set (Or.inl ⟨by decide, by decide, rfl⟩))
  · cases h
theorem nd_v33 {s : t_S} {k : Int32} {x : Int32 × t_S} (hk : nd_k k) (h : k_X13_node_33 k s = some x) : ∃ i, l2_fr (nd_V i) s x.2 := by
  unfold k_X13_node_33 at h
  split at h
  · exact ⟨_, nd_v53 hk h⟩
  · exact ⟨_, nd_v53 hk h⟩
theorem nd_v {s : t_S} {k b : Int32} {x : Int32 × t_S} (hk : nd_k k) (h : f_X13_node k b s = some x) : x.2.1 950 26 = s.1 950 26 ∧ x.2.2.1 950 26 = s.2.1 950 26 ∧ x.2.2.2 950 26 = s.2.2 950 26 := by
  have o : ∀ {i : Nat} {s s' : t_S}, l2_fr (nd_V i) s s' → s'.1 950 26 = s.1 950 26 ∧ s'.2.1 950 26 = s.2.1 950 26 ∧ s'.2.2 950 26 = s.2.2 950 26 := fun f => f 950 26 (by unfold nd_V; omega)
  have p28 : ∀ (r : t_S) (v : Int32), l2_fr (nd_V 0) r (t_setI r 950 28 v) := fun r v => l2_fr.set (Or.inr ⟨rfl, Or.inr rfl⟩)
  unfold f_X13_node k_X13_node_23 at h
  simp only [t_let] at h
  split at h
  · obtain ⟨i, f⟩ := nd_v33 hk h
    exact o f
  · split at h
    · cases e : f_X13_fail 5 (s.1 950 6) s with
      | none => rw [e] at h; cases h
      | some r =>
        rw [e] at h
        obtain ⟨i, f⟩ := nd_v33 hk h
        have g : l2_fr rn_W s r := by
          unfold f_X13_fail at e
          simp only [t_let] at e
          split at e
          · cases e
            exact (l2_fr.set ⟨rfl, by decide⟩).trans (l2_fr.set ⟨rfl, by decide⟩)
          · cases e
            exact l2_fr.rf
        have a1 := g 950 26 (by unfold rn_W; omega)
        have a2 := o (p28 r (r.1 950 28 + 1))
        have a3 := o f
        exact ⟨(a3.1.trans a2.1).trans a1.1, (a3.2.1.trans a2.2.1).trans a1.2.1, (a3.2.2.trans a2.2.2).trans a1.2.2⟩
    · obtain ⟨i, f⟩ := nd_v33 hk h
      have a2 := o (p28 s (s.1 950 28 + 1))
      have a3 := o f
      exact ⟨a3.1.trans a2.1, a3.2.1.trans a2.2.1, a3.2.2.trans a2.2.2⟩
theorem nd_WV {m : Nat} {s : t_S} {k b : Int32} {x : Int32 × t_S} (hk : nd_k k) (h : f_X13_node k b s = some x) (f : l2_fr (nd_W m) s x.2) : l2_fr (nd_V m) s x.2 := fun b j n => by
  by_cases z : b = 950 ∧ j = 26
  · obtain ⟨rfl, rfl⟩ := z
    exact nd_v hk h
  · exact f b j (fun y => n (by unfold nd_W at y; unfold nd_V; omega))
theorem pj_node2 {P : pc_S} {u d q m : Nat} {c r : t_S} {k : Int32} (hk : nd_k k) (h : pj P u d 0 q m c r) (hq : q < 3000) : f_X6_node c = some (t_setI c 845 10 (nI (q + 1))) ∧ t_hk (f_X13_node k 1 r) (fun x => m < 12999 ∧ x.1 = nI m ∧ l2_fr (nd_V m) r x.2 ∧ nd_at x.2 m k (r.1 950 6) ∧ pj P u d 1 (q + 1) (m + 1) (t_setI c 845 10 (nI (q + 1))) x.2) := by
  obtain ⟨e, x, e2, w1, w2, w3, w4⟩ := pj_node (k := k) h hq
  exact ⟨e, x, e2, w1, w2, nd_WV hk e2 w3, w4⟩
theorem pj_node02 {P : pc_S} {u d q m : Nat} {c r : t_S} {k : Int32} (hk : nd_k k) (h : pj P u d 0 q m c r) : t_hk (f_X13_node k 0 r) (fun x => m < 12999 ∧ x.1 = nI m ∧ l2_fr (nd_V m) r x.2 ∧ nd_at x.2 m k (r.1 950 6) ∧ pj P u d 1 q (m + 1) c x.2) := by
  obtain ⟨x, e2, w1, w2, w3, w4⟩ := pj_node0 (k := k) h
  exact ⟨x, e2, w1, w2, nd_WV hk e2 w3, w4⟩
theorem pr_node2 {P : pc_S} {f p : Nat} {r : t_S} {k b : Int32} (hk : nd_k k) (h : pr P f p r) : t_hk (f_X13_node k b r) (fun x => ∃ j, j < 13000 ∧ x.1 = nI j ∧ l2_fr (nd_V j) r x.2 ∧ nd_at x.2 j k (r.1 950 6) ∧ pr P f p x.2) := by
  obtain ⟨x, e2, j, w1, w2, w3, w4⟩ := pr_node (k := k) (b := b) h
  exact ⟨x, e2, j, w1, w2, nd_WV hk e2 w3, w4⟩
theorem ty_nd {m n b j : Nat} (h : nd_V n b j) (hn : m ≤ n) : ty_Wr m b j := by
  rcases h with ⟨h1, h2, h3⟩ | ⟨h1, h2⟩
  · exact Or.inr (Or.inr ⟨h1, h2, by omega⟩)
  · exact Or.inl ⟨h1, by omega⟩
theorem ty_Wc.sub {a g l a2 g2 l2 b j : Nat} (h : ty_Wc a2 g2 l2 b j) (h1 : a ≤ a2) (h2 : g ≤ g2) (h3 : l ≤ l2) : ty_Wc a g l b j := by
  unfold ty_Wc at *
  omega
theorem ty_Wr.sub {m m2 b j : Nat} (h : ty_Wr m2 b j) (h1 : m ≤ m2) : ty_Wr m b j := by
  unfold ty_Wr at *
  omega
/-- a node on both sides, that counts -/
theorem nd_both {P : pc_S} {u d q m : Nat} {c r : t_S} {k : Int32} (hk : nd_k k) (h : pj P u d 0 q m c r) : t_h2 (f_X6_node c) (f_X13_node k 1 r) (fun c' x => (q < 3000 ∧ c' = t_setI c 845 10 (nI (q + 1)) ∧ m < 12999 ∧ x.1 = nI m ∧ l2_fr (nd_V m) r x.2 ∧ nd_at x.2 m k (r.1 950 6) ∧ pj P u d 1 (q + 1) (m + 1) c' x.2) ∨ (l2_fr (ty_Wc 0 0 0) c c' ∧ l2_fr (ty_Wr 0) r x.2 ∧ pf P c' x.2 ∧ ∃ j, j < 13000 ∧ x.1 = nI j)) := by
  by_cases hq : q < 3000
  · obtain ⟨e1, x, e2, w1, w2, w3, w4, w5⟩ := pj_node2 (k := k) hk h hq
    exact ⟨_, x, e1, e2, Or.inl ⟨hq, rfl, w1, w2, w3, w4, w5⟩⟩
  · have hp := h
    obtain ⟨B, L, W0, W, V, sl, H, T, n, t0, m0⟩ := P
    obtain ⟨_, _, _, _, _, h7, h8, h9, _⟩ := h
    have e : q = 3000 := by omega
    subst e
    unfold f_X6_node f_X13_node
    rw [h7, h8]
    refine h2_noL (by decide) (h2_noR (by decide) (h2_ckR rfl (h2_bb _ (pj_fail (f := 5) hp (by decide) (by decide)) (fun c' r' w => ?_))))
    obtain ⟨w1, w2, f, p, w3, w4⟩ := w
    refine h2_doneL ?_
    have q := pr_node2 (k := k) (b := 0) hk (w4.fr (r' := t_setI r' 950 28 (r'.1 950 28 + 1)) (Wr := fun b j => b = 950 ∧ j = 28) (l2_fr.set ⟨rfl, rfl⟩) (fun j _ => by omega) (fun b i _ _ => by omega))
    unfold f_X13_node at q
    rw [if_pos rfl] at q
    unfold k_X13_node_23
    refine l2_lt (l2_imp q (fun x hx => ?_))
    obtain ⟨j, j1, j2, j3, j4, j5⟩ := hx
    refine Or.inr ⟨w1.mono (fun b j y => ty_la y), (w2.mono (fun b j y => ty_rn y)).trans ((l2_fr.set (Or.inl ⟨rfl, by decide⟩)).trans (j3.mono (fun b i y => ty_nd y (Nat.zero_le _)))), ⟨f, p, w3, j5⟩, j, j1, j2⟩
/-- the class's ranges, so far: k of them -/
theorem rg_tail {T : Type} {s : t_S} {n a k : Nat} {hi : Int64} {last : Int32} {F : Nat → Nat} {b : Option T} {Q : ((Int32 × Int32 × Int32 × t_S) ⊕ t_S) → T → Prop} (hn : n < a) (ha : a < 3001) (hk : k ≤ 6) (hc : cc_R s n k F) (hF : ∀ j, j < k → F j < a) (hlast : 0 < k → last = nI (F (k - 1))) (h21 : s.1 321 n = nI k) (h19 : s.1 319 a = -1) (hmm : ty_mm s n k F)
    (K : ∀ s', l2_fr (fun b j => ((b = 318 ∨ b = 321 ∨ b = 322 ∨ b = 323) ∧ j = n) ∨ (b = 323 ∧ j = a) ∨ (b = 319 ∧ 0 < k ∧ j = F (k - 1))) s s' → cc_R s' n (k + 1) (va_up F k a) → s'.1 321 n = nI (k + 1) → s'.2.1 322 a = s.2.1 322 a → s'.2.1 323 a = hi → ty_mm s' n (k + 1) (va_up F k a) → t_h2 ((f_X2_take (44 : Int32) s').bind (fun r3 => if r3.1 = (0 : Int32) then ((k_X6_readInt_346 r3.2).map Sum.inr) else (some (.inl (nI n, nI a, (nI k + 1), r3.2))))) b Q) : t_h2 (k_X6_readInt_183 (nI n) last (nI k) (nI a) hi (nI a) s) b Q := by
  have ixn : t_ix (nI n) 3001 = true := l2_ix (by omega) (by decide)
  have ixa : t_ix (nI a) 3001 = true := l2_ix ha (by decide)
  have cn : (nI n).toNatClampNeg = n := nI_clamp (by omega)
  have ca : (nI a).toNatClampNeg = a := nI_clamp (by omega)
  have an : ¬ a = n := by omega
  have na : ¬ n = a := by omega
  unfold k_X6_readInt_183
  refine h2_ckL ixa (h2_lL ?_)
  rw [cn, ca]
  by_cases z : k = 0
  · subst z
    refine h2_ckL rfl (h2_ckL ixn (h2_lL ?_))
    unfold k_X6_readInt_213
    refine h2_ckL rfl (h2_ckL ixa ?_)
    unfold k_X6_readInt_260
    rw [cn, ca]
    refine h2_ckL ixn (h2_lL (h2_ckL rfl (h2_ckL ixa ?_)))
    unfold k_X6_readInt_308
    rw [cn]
    refine h2_ckL ixn (h2_lL (h2_ckL ixn (h2_lL ?_)))
    have f : l2_fr (fun b j => ((b = 318 ∨ b = 321 ∨ b = 322 ∨ b = 323) ∧ j = n) ∨ (b = 323 ∧ j = a) ∨ (b = 319 ∧ 0 < 0 ∧ j = F (0 - 1))) s (t_setI (t_setI (t_setJ s 323 a hi) 318 n (nI a)) 321 n 0) := ((l2_fr.setJ (Or.inr (Or.inl ⟨rfl, rfl⟩))).trans (l2_fr.set (Or.inl ⟨by omega, rfl⟩))).trans (l2_fr.set (Or.inl ⟨by omega, rfl⟩))
    have g22 : (t_setJ (t_setI (t_setJ s 323 a hi) 318 n (nI a)) 322 n ((t_setI (t_setJ s 323 a hi) 318 n (nI a)).2.1 322 a)).2.1 322 n = s.2.1 322 a := by simp only [l2_gJ, l2_gIJ, Nat.reduceEqDiff, reduceIte, eq_self]
    refine K _ ?_ ?_ ?_ ?_ ?_ ?_
    · exact ((((l2_fr.setJ (Or.inr (Or.inl ⟨rfl, rfl⟩))).trans (l2_fr.set (Or.inl ⟨by omega, rfl⟩))).trans (l2_fr.setJ (Or.inl ⟨by omega, rfl⟩))).trans (l2_fr.setJ (Or.inl ⟨by omega, rfl⟩))).trans (l2_fr.set (Or.inl ⟨by omega, rfl⟩))
    · refine cc_add0 (c := s) hn ha ?_ ?_
      · simp only [l2_gI, l2_gJI, Nat.reduceEqDiff, reduceIte, eq_self]
      · simp only [l2_gI, l2_gJI, Nat.reduceEqDiff, reduceIte]
        exact h19
    · simp only [l2_gI, l2_gJI, Nat.reduceEqDiff, reduceIte, eq_self]
      rw [h21, nI_1]
    · simp only [l2_gIJ, l2_gJ, Nat.reduceEqDiff, reduceIte, if_neg an]
    · simp only [l2_gIJ, l2_gJ, Nat.reduceEqDiff, reduceIte, if_neg an, eq_self]
    · refine ⟨fun y => by omega, fun _ => ⟨fun j hj => ?_, ⟨0, by decide, ?_⟩, 0, by decide, ?_⟩⟩
      · have e : j = 0 := by omega
        subst e
        rw [mj_up_eq]
        simp only [l2_gIJ, l2_gJ, Nat.reduceEqDiff, reduceIte, if_neg an, eq_self]
        exact ⟨Int.le_refl _, Int.le_refl _⟩
      · rw [mj_up_eq]
        simp only [l2_gIJ, l2_gJ, Nat.reduceEqDiff, reduceIte, if_neg an, eq_self]
      · rw [mj_up_eq]
        simp only [l2_gIJ, l2_gJ, Nat.reduceEqDiff, reduceIte, if_neg an, eq_self]
  · have kz : ¬ nI k = (0 : Int32) := nI_ne0 (by omega) (by omega)
    have lt := hF (k - 1) (by omega)
    have gt := (hc.2 (k - 1) (by omega)).2.1
    have hl := hlast (by omega)
    subst hl
    have ixl : t_ix (nI (F (k - 1))) 3001 = true := l2_ix (by omega) (by decide)
    have cl : (nI (F (k - 1))).toNatClampNeg = F (k - 1) := nI_clamp (by omega)
    refine h2_noL kz (h2_ckL ixl (h2_lL ?_))
    unfold k_X6_readInt_213
    refine h2_noL kz (h2_ckL ixn (h2_ckL ixa ?_))
    unfold k_X6_readInt_260
    rw [cn, ca, cl]
    refine h2_ckL ixn (h2_lL (h2_noL kz (h2_ckL ixn (h2_ckL ixa ?_))))
    unfold k_X6_readInt_308
    rw [cn]
    refine h2_ckL ixn (h2_lL (h2_ckL ixn (h2_lL ?_)))
    have m1 : ∀ j, j < k → ¬ F j = a := fun j hj e => by have := hF j hj; omega
    have m2 : ∀ j, j < k → ¬ F j = n := fun j hj e => by have := (hc.2 j hj).2.1; omega
    have al : ¬ a = F (k - 1) := fun e => m1 (k - 1) (by omega) e.symm
    have nl : ¬ n = F (k - 1) := fun e => m2 (k - 1) (by omega) e.symm
    refine K _ ?_ ?_ ?_ ?_ ?_ ?_
    · exact ((((l2_fr.setJ (Or.inr (Or.inl ⟨rfl, rfl⟩))).trans (l2_fr.set (Or.inr (Or.inr ⟨rfl, by omega, rfl⟩)))).trans (l2_fr.setJ (Or.inl ⟨by omega, rfl⟩))).trans (l2_fr.setJ (Or.inl ⟨by omega, rfl⟩))).trans (l2_fr.set (Or.inl ⟨by omega, rfl⟩))
    · refine cc_add (c := s) hc (by omega) hn ha hF ?_ ?_ ?_ (fun j hj => ?_)
      · simp only [l2_gI, l2_gJI, Nat.reduceEqDiff, reduceIte]
      · simp only [l2_gI, l2_gJI, Nat.reduceEqDiff, reduceIte, eq_self]
      · simp only [l2_gI, l2_gJI, Nat.reduceEqDiff, reduceIte, if_neg al]
        exact h19
      · have lt2 := ch_lt (fun j hj => (hc.2 j hj).2.2.2) j (k - 1) (by omega) (by omega)
        have jl : ¬ F j = F (k - 1) := by omega
        simp only [l2_gI, l2_gJI, Nat.reduceEqDiff, reduceIte, if_neg jl]
    · simp only [l2_gI, l2_gJI, Nat.reduceEqDiff, reduceIte, eq_self]
      rw [h21, nI_1]
    · simp only [l2_gIJ, l2_gJ, Nat.reduceEqDiff, reduceIte, if_neg an]
    · simp only [l2_gIJ, l2_gJ, Nat.reduceEqDiff, reduceIte, if_neg an, eq_self]
    · obtain ⟨y1, ⟨i, y2, y3⟩, i2, y4, y5⟩ := hmm.2 (by omega)
      have lo : ∀ x y : Int64, (if x < y then x else y).toInt ≤ x.toInt ∧ (if x < y then x else y).toInt ≤ y.toInt := fun x y => by
        by_cases w : x < y
        · rw [if_pos w]; have := Int64.lt_iff_toInt_lt.mp w; omega
        · rw [if_neg w]; have : ¬ x.toInt < y.toInt := fun v => w (Int64.lt_iff_toInt_lt.mpr v); omega
      have hi2 : ∀ x y : Int64, x.toInt ≤ (if x < y then y else x).toInt ∧ y.toInt ≤ (if x < y then y else x).toInt := fun x y => by
        by_cases w : x < y
        · rw [if_pos w]; have := Int64.lt_iff_toInt_lt.mp w; omega
        · rw [if_neg w]; have : ¬ x.toInt < y.toInt := fun v => w (Int64.lt_iff_toInt_lt.mpr v); omega
      refine ⟨fun y => by omega, fun _ => ⟨fun j hj => ?_, ?_, ?_⟩⟩
      · simp only [l2_gIJ, l2_gJ, Nat.reduceEqDiff, reduceIte, if_neg na, if_neg an, eq_self]
        have a1 := lo (s.2.1 322 a) (s.2.1 322 n)
        have a2 := hi2 hi (s.2.1 323 n)
        by_cases e : j = k
        · subst e
          rw [mj_up_eq, if_neg an, if_neg an, if_pos rfl]
          exact ⟨a1.1, a2.1⟩
        · rw [mj_up_ne _ _ e, if_neg (m2 j (by omega)), if_neg (m2 j (by omega)), if_neg (m1 j (by omega))]
          have := y1 j (by omega)
          omega
      · simp only [l2_gIJ, l2_gJ, Nat.reduceEqDiff, reduceIte, if_neg na, if_neg an, eq_self]
        by_cases w : s.2.1 322 a < s.2.1 322 n
        · refine ⟨k, by omega, ?_⟩
          rw [mj_up_eq, if_neg an, if_pos w]
        · refine ⟨i, by omega, ?_⟩
          rw [mj_up_ne _ _ (by omega), if_neg (m2 i y2), if_neg w]
          exact y3
      · simp only [l2_gIJ, l2_gJ, Nat.reduceEqDiff, reduceIte, if_neg na, if_neg an, eq_self]
        by_cases w : hi < s.2.1 323 n
        · refine ⟨i2, by omega, ?_⟩
          rw [mj_up_ne _ _ (by omega), if_neg (m2 i2 y4), if_neg (m1 i2 y4), if_pos w]
          exact y5
        · refine ⟨k, by omega, ?_⟩
          rw [mj_up_eq, if_neg an, if_pos rfl, if_neg w]
