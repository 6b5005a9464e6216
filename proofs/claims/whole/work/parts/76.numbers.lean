/-! Level 2: a number, a bound, a span: read on both sides. -/
theorem nb_neg {v : Nat} (h : v < 10 ^ 15) : (-(lN v)).toInt = -(v : Int) := by
  rw [Int64.toInt_neg, pk_lT (by omega)]
  have d := Int.bmod_def (-(v : Int)) (2 ^ 64)
  simp only [Nat.reducePow] at d ⊢
  omega
theorem pr_dd {r : t_S} : t_setI (t_setI r 950 5 0) 950 5 0 = t_setI r 950 5 0 := by
  refine Prod.ext (funext fun b => funext fun j => ?_) rfl
  rw [l2_gI, l2_gI]
  by_cases e : b = 950
  · by_cases z : j = 5
    · simp only [if_pos e, if_pos z]
    · simp only [if_pos e, if_neg z]
  · simp only [if_neg e]
/-- behind a fault the reference's steps end with no token -/
theorem pr_bd {P : pc_S} {f p : Nat} {r : t_S} {x y : Int32} (h : pr P f p r) : (f_X13_fail x y r).bind f_X13_next = some (t_setI r 950 5 0) := by
  rw [(pr_next h).2]
  exact (pr_next h).1
theorem pr_num15 {P : pc_S} {f p : Nat} {r : t_S} {x : Int64} {l : Int32} (h : pr P f p r) : t_hk (k_X13_num_15 x l r) (fun y => y.2 = t_setI r 950 5 0) := by
  have s := pr_next h
  have k66 : ∀ k0, t_hk (k_X13_num_66 k0 r) (fun y => y.2 = t_setI r 950 5 0) := fun k0 => by
    unfold k_X13_num_66
    rw [s.1]
    exact l2_sm rfl
  have k48 : ∀ k0, t_hk (k_X13_num_48 x k0 r) (fun y => y.2 = t_setI r 950 5 0) := fun k0 => by
    unfold k_X13_num_48
    refine l2_if (fun _ => k66 k0) (fun _ => ?_)
    rw [s.2]
    exact k66 k0
  have k32 : t_hk (k_X13_num_32 x l r) (fun y => y.2 = t_setI r 950 5 0) := by
    unfold k_X13_num_32
    exact l2_if (fun _ => k48 _) (fun _ => k48 _)
  unfold k_X13_num_15
  refine l2_if (fun _ => k32) (fun _ => ?_)
  rw [s.2]
  exact k32
theorem pr_num {P : pc_S} {f p : Nat} {r : t_S} {x : Int64} (h : pr P f p r) : t_hk (f_X13_num x r) (fun y => y.2 = t_setI r 950 5 0) := by
  have s := pr_next h
  unfold f_X13_num
  refine l2_if (fun _ => pr_num15 h) (fun _ => ?_)
  rw [s.1]
  refine l2_imp (pr_num15 h.dead) (fun y hy => ?_)
  rw [hy]
  exact pr_dd
theorem lc_F.num29 {c : t_S} {f p : Nat} (h : lc_F c f p) (x : Int64) (l : Int32) : k_X6_readNumber_29 x l c = some (0, c) := by
  have s := lc_stay h
  have n := h.ne
  have k90 : ∀ k0, k_X6_readNumber_90 k0 c = some (0, c) := fun k0 => by
    unfold k_X6_readNumber_90
    rw [if_neg n]
  have k51 : ∀ k0, k_X6_readNumber_51 x k0 c = some (0, c) := fun k0 => by
    unfold k_X6_readNumber_51
    rw [h.2.2.2.2, if_neg (by decide), s.2]
    exact k90 k0
  unfold k_X6_readNumber_29
  split
  · exact k51 _
  · exact k51 _
theorem lc_F.num {c : t_S} {f p : Nat} (h : lc_F c f p) (x : Int64) : f_X6_readNumber x c = some (0, c) := by
  unfold f_X6_readNumber k_X6_readNumber_17
  rw [h.2.2.2.2, if_neg (by decide), if_pos rfl]
  exact h.num29 x 0
/-- behind the sign of a number -/
theorem nb_rest {P : pc_S} {u d z q m : Nat} {c r : t_S} {least : Int64} {l l2 : Int32} (h : pj P u d z q m c r) (hz : z ≤ 1) (hl : l = 0 ↔ l2 = 0) : t_h2 (k_X6_readNumber_29 least l c) (k_X13_num_15 least l2 r) (fun x y => l2_fr la_W c x.2 ∧ l2_fr rn_W r y.2 ∧ ((pj P (u + 1) 0 0 q m x.2 y.2 ∧ x.1 = y.1 ∧ least.toInt ≤ x.1.toInt ∧ -(10 ^ 15) < x.1.toInt ∧ x.1.toInt < 10 ^ 15) ∨ pf P x.2 y.2)) := by
  have so := h.sort
  have f0 := h.f0
  -- behind a fault
  have bad : ∀ k : Int64, ∀ f, 0 < f ∧ f < 100 → t_h2 ((f_X2_fail (nI f) c).bind (fun r1 => k_X6_readNumber_90 k r1)) ((f_X13_fail (nI f) (r.1 950 6) r).bind (fun r1 => k_X13_num_66 k r1)) (fun x y => l2_fr la_W c x.2 ∧ l2_fr rn_W r y.2 ∧ ((pj P (u + 1) 0 0 q m x.2 y.2 ∧ x.1 = y.1 ∧ least.toInt ≤ x.1.toInt ∧ -(10 ^ 15) < x.1.toInt ∧ x.1.toInt < 10 ^ 15) ∨ pf P x.2 y.2)) := by
    intro k f hf
    refine h2_bb _ (pj_fail h hz hf) (fun c' r' w => ?_)
    obtain ⟨w1, w2, f, p, w3, w4⟩ := w
    unfold k_X6_readNumber_90 k_X13_num_66
    refine h2_noL w3.ne (h2_eR (pr_next w4).1 (h2_sm ⟨w1, w2.trans (l2_fr.set ⟨rfl, by decide, by decide⟩), Or.inr ⟨f, p, w3, w4.dead⟩⟩))
  by_cases a : c.1 1 8 = 2
  · have b := so.2.1.mp a
    obtain ⟨v, v1, v2, v3⟩ := so.2.2.2.2.2.1 a
    have go : ∀ k : Int64, -(10 ^ 15) < k.toInt → k.toInt < 10 ^ 15 → t_h2 (k_X6_readNumber_51 least k c) (k_X13_num_48 least k r) (fun x y => l2_fr la_W c x.2 ∧ l2_fr rn_W r y.2 ∧ ((pj P (u + 1) 0 0 q m x.2 y.2 ∧ x.1 = y.1 ∧ least.toInt ≤ x.1.toInt ∧ -(10 ^ 15) < x.1.toInt ∧ x.1.toInt < 10 ^ 15) ∨ pf P x.2 y.2)) := by
      intro k k1 k2
      unfold k_X6_readNumber_51 k_X13_num_48
      refine h2_ckL a (h2_two Iff.rfl (fun g _ => ?_) (fun _ _ => bad k 5 (by decide)))
      have g : least.toInt ≤ k.toInt := by
        have : ¬ lg_cmp k least < 0 := Int32.not_lt.mpr g
        rw [t_cmp_lt] at this
        omega
      unfold k_X6_readNumber_90 k_X13_num_66
      refine h2_ckL f0.1 (h2_bb _ (pj_adv h hz (Or.inr (by rw [a]; decide)) (by rw [a]; decide)) (fun c' r' w => h2_sm ?_))
      obtain ⟨w1, w2, w3⟩ := w
      rcases w3 with w3 | w3
      · exact ⟨w1, w2, Or.inl ⟨w3, rfl, g, k1, k2⟩⟩
      · exact ⟨w1, w2, Or.inr w3⟩
    unfold k_X6_readNumber_29 k_X13_num_15 k_X13_num_32
    refine h2_ckR b (h2_two hl (fun _ _ => ?_) (fun _ _ => ?_))
    · rw [v2, v3]
      have t : (lN v).toInt = v := pk_lT (by omega)
      exact go _ (by omega) (by omega)
    · rw [v2, v3]
      have t := nb_neg v1
      exact go _ (by omega) (by omega)
  · have b : ¬ r.1 950 5 = 2 := fun y => a (so.2.1.mpr y)
    unfold k_X6_readNumber_29 k_X13_num_15
    have lf : ∀ k, t_h2 (k_X6_readNumber_51 least k c) ((f_X13_fail 2 (r.1 950 6) r).bind (fun r1 => k_X13_num_32 least l2 r1)) (fun x y => l2_fr la_W c x.2 ∧ l2_fr rn_W r y.2 ∧ ((pj P (u + 1) 0 0 q m x.2 y.2 ∧ x.1 = y.1 ∧ least.toInt ≤ x.1.toInt ∧ -(10 ^ 15) < x.1.toInt ∧ x.1.toInt < 10 ^ 15) ∨ pf P x.2 y.2)) := by
      intro k
      unfold k_X6_readNumber_51
      refine h2_noL a (h2_bb _ (pj_fail (f := 2) h hz (by decide)) (fun c' r' w => ?_))
      obtain ⟨w1, w2, f, p, w3, w4⟩ := w
      unfold k_X6_readNumber_90
      refine h2_noL w3.ne (h2_doneL ?_)
      have q := pr_num15 (x := least) (l := l2) w4
      unfold k_X13_num_15 at q
      have k32 : t_hk (k_X13_num_32 least l2 r') (fun y => y.2 = t_setI r' 950 5 0) := by
        by_cases e : r'.1 950 5 = 2
        · rw [if_pos e] at q; exact q
        · rw [if_neg e, (pr_next w4).2] at q; exact q
      refine l2_imp k32 (fun y hy => ?_)
      rw [hy]
      exact ⟨w1, w2.trans (l2_fr.set ⟨rfl, by decide, by decide⟩), Or.inr ⟨f, p, w3, w4.dead⟩⟩
    refine h2_noR b (h2_ifL (fun _ => lf _) (fun _ => lf _))
/-- a number on both sides -/
theorem nb_num {P : pc_S} {u d z q m : Nat} {c r : t_S} {least : Int64} (h : pj P u d z q m c r) (hz : z ≤ 1) : t_h2 (f_X6_readNumber least c) (f_X13_num least r) (fun x y => l2_fr la_W c x.2 ∧ l2_fr rn_W r y.2 ∧ ((∃ v, u < v ∧ pj P v 0 0 q m x.2 y.2 ∧ x.1 = y.1 ∧ least.toInt ≤ x.1.toInt ∧ -(10 ^ 15) < x.1.toInt ∧ x.1.toInt < 10 ^ 15) ∨ pf P x.2 y.2)) := by
  unfold f_X6_readNumber f_X13_num k_X6_readNumber_17
  rcases h.is (x := 45) (by decide) with ⟨a, b⟩ | ⟨a, b⟩
  · rw [show (45 : Int32) = nI (sg 45) from rfl, b]
    refine h2_ckL a (h2_noL (by decide) (h2_noR (by decide) ?_))
    refine h2_bb _ (pj_adv h hz (Or.inr (by rw [a]; decide)) (by rw [a]; decide)) (fun c' r' w => ?_)
    obtain ⟨w1, w2, w3⟩ := w
    rcases w3 with w3 | ⟨f, p, w3, w4⟩
    · refine h2_imp (nb_rest w3 (by decide) (show (1 : Int32) = 0 ↔ (1 : Int32) = 0 from Iff.rfl)) (fun x y hx => ?_)
      obtain ⟨x1, x2, x3⟩ := hx
      rcases x3 with ⟨y1, y2⟩ | x3
      · exact ⟨w1.trans x1, w2.trans x2, Or.inl ⟨_, by omega, y1, y2⟩⟩
      · exact ⟨w1.trans x1, w2.trans x2, Or.inr x3⟩
    · rw [w3.num29]
      refine h2_doneL (l2_imp (pr_num15 w4) (fun y hy => ?_))
      rw [hy]
      exact ⟨w1, w2.trans (l2_fr.set ⟨rfl, by decide, by decide⟩), Or.inr ⟨f, p, w3, w4.dead⟩⟩
  · rw [show (45 : Int32) = nI (sg 45) from rfl, b]
    refine h2_noL a (h2_ckL rfl (h2_ckR rfl ?_))
    refine h2_imp (nb_rest h hz (show (0 : Int32) = 0 ↔ (0 : Int32) = 0 from Iff.rfl)) (fun x y hx => ?_)
    obtain ⟨x1, x2, x3⟩ := hx
    rcases x3 with ⟨y1, y2⟩ | x3
    · exact ⟨x1, x2, Or.inl ⟨_, by omega, y1, y2⟩⟩
    · exact ⟨x1, x2, Or.inr x3⟩
/-- a bound on both sides -/
theorem pr_bounded {P : pc_S} {f p : Nat} {r : t_S} {x : Int32} {y : Int64} (h : pr P f p r) : t_hk (f_X13_bounded x y r) (fun w => w.2 = t_setI r 950 5 0) := by
  have s := pr_next h
  have k42 : t_hk (k_X13_bounded_42 r) (fun w => w.2 = t_setI r 950 5 0) := by
    unfold k_X13_bounded_42
    rw [s.1]
    exact l2_sm rfl
  unfold f_X13_bounded
  refine l2_if (fun _ => l2_if (fun _ => ?_) (fun _ => k42)) (fun _ => ?_)
  · rw [s.2]; exact k42
  · rw [s.2]; exact k42
theorem lc_F.bound {c : t_S} {f p : Nat} (h : lc_F c f p) (x y : Int32) : f_X6_readBound x y c = some (0, c) := by
  unfold f_X6_readBound
  rw [h.2.2.2.2, if_neg (by decide), (lc_stay h).2]
  show k_X6_readBound_52 _ c = _
  unfold k_X6_readBound_52
  rw [if_neg h.ne]
theorem nb_bound {P : pc_S} {u d z q m a b : Nat} {c r : t_S} (h : pj P u d z q m c r) (hz : z ≤ 1) (ha : a ≤ 1000) (hb : b ≤ 1000) : t_h2 (f_X6_readBound (nI a) (nI b) c) (f_X13_bounded (nI b) (lN a) r) (fun x y => l2_fr la_W c x.2 ∧ l2_fr rn_W r y.2 ∧ ((∃ v, a ≤ v ∧ v ≤ b ∧ pj P (u + 1) 0 0 q m x.2 y.2 ∧ x.1 = nI v ∧ y.1 = lN v) ∨ pf P x.2 y.2)) := by
  have so := h.sort
  have f0 := h.f0
  have bad : ∀ k : Int64, ∀ f, 0 < f ∧ f < 100 → t_h2 ((f_X2_fail (nI f) c).bind (fun r1 => k_X6_readBound_52 k r1)) ((f_X13_fail (nI f) (r.1 950 6) r).bind (fun r1 => k_X13_bounded_42 r1)) (fun x y => l2_fr la_W c x.2 ∧ l2_fr rn_W r y.2 ∧ ((∃ v, a ≤ v ∧ v ≤ b ∧ pj P (u + 1) 0 0 q m x.2 y.2 ∧ x.1 = nI v ∧ y.1 = lN v) ∨ pf P x.2 y.2)) := by
    intro k f hf
    refine h2_bb _ (pj_fail h hz hf) (fun c' r' w => ?_)
    obtain ⟨w1, w2, f, p, w3, w4⟩ := w
    unfold k_X6_readBound_52 k_X13_bounded_42
    exact h2_noL w3.ne (h2_eR (pr_next w4).1 (h2_sm ⟨w1, w2.trans (l2_fr.set ⟨rfl, by decide, by decide⟩), Or.inr ⟨f, p, w3, w4.dead⟩⟩))
  unfold f_X6_readBound f_X13_bounded
  refine h2_two so.2.1 (fun e1 e2 => ?_) (fun _ _ => bad _ 2 (by decide))
  obtain ⟨v, v1, v2, v3⟩ := so.2.2.2.2.2.1 e1
  rw [v2, v3, nI_l (by omega), nI_l (by omega)]
  have tv : (lN v).toInt = v := pk_lT (by omega)
  have tA : (lN a).toInt = a := pk_lT (by omega)
  have tB : (lN b).toInt = b := pk_lT (by omega)
  have lo : lg_cmp (lN v) (lN a) < 0 ↔ v < a := by rw [t_cmp_lt, tv, tA]; omega
  have hi : 0 < lg_cmp (lN v) (lN b) ↔ b < v := by rw [t_cmp_gt, tv, tB]; omega
  unfold f_X13_in k_X6_readBound_44
  by_cases c1 : v < a
  · rw [if_pos (lo.mpr c1), if_pos (lo.mpr c1)]
    exact h2_ckR rfl (bad _ 5 (by decide))
  · rw [if_neg (fun y => c1 (lo.mp y)), if_neg (fun y => c1 (lo.mp y))]
    by_cases c2 : b < v
    · rw [if_neg (Int32.not_le.mpr (hi.mpr c2)), if_pos (hi.mpr c2)]
      exact h2_ckR rfl (bad _ 5 (by decide))
    · rw [if_pos (Int32.not_lt.mp (fun y => c2 (hi.mp y))), if_neg (fun y => c2 (hi.mp y))]
      refine h2_noR (by decide) ?_
      unfold k_X6_readBound_52 k_X13_bounded_42
      refine h2_ckL f0.1 (h2_bb _ (pj_adv h hz (Or.inr (by rw [e1]; decide)) (by rw [e1]; decide)) (fun c' r' w => h2_sm ?_))
      obtain ⟨w1, w2, w3⟩ := w
      rcases w3 with w3 | w3
      · exact ⟨w1, w2, Or.inl ⟨v, by omega, by omega, w3, lN_i v, v3⟩⟩
      · exact ⟨w1, w2, Or.inr w3⟩
/-- a span: the reference's x and y of node n; the class's three bytes -/
def sp_W (n b j : Nat) : Prop := (b = 950 ∧ 2 ≤ j ∧ j ≤ 10) ∨ ((b = 957 ∨ b = 958) ∧ j = n)
theorem pr.xy {P : pc_S} {f p n : Nat} {r r' : t_S} (h : pr P f p r) (w : l2_fr (fun b j => (b = 957 ∨ b = 958) ∧ j = n) r r') : pr P f p r' := h.fr w (fun j _ => by omega) (fun b i _ _ => by omega)
theorem pr_span {P : pc_S} {f p n : Nat} {r : t_S} {x : Int32} (h : pr P f p r) (hn : n < 13000) : t_hk (f_X13_span (nI n) x r) (fun r' => l2_fr (sp_W n) r r' ∧ pr P f p r') := by
  unfold f_X13_span
  have d5 : ∀ r : t_S, l2_fr (sp_W n) r (t_setI r 950 5 0) := fun r => l2_fr.set (Or.inl ⟨rfl, by decide, by decide⟩)
  refine l2_eq (pr_next h).1 (l2_bd _ (pr_bounded h.dead) (fun y hy => ?_))
  obtain ⟨v, r1⟩ := y
  have hy : r1 = t_setI (t_setI r 950 5 0) 950 5 0 := hy
  have h1 : pr P f p r1 := by rw [hy]; exact h.dead.dead
  have g1 : l2_fr (sp_W n) r r1 := by rw [hy]; exact (d5 r).trans (d5 _)
  refine l2_ck (l2_ix hn (by decide)) ?_
  rw [nI_clamp (by omega)]
  have g2 : l2_fr (fun b j => (b = 957 ∨ b = 958) ∧ j = n) r1 (t_setJ (t_setJ r1 957 n v) 958 n ((t_setJ r1 957 n v).2.1 957 n)) := (l2_fr.setJ ⟨Or.inl rfl, rfl⟩).trans (l2_fr.setJ ⟨Or.inr rfl, rfl⟩)
  refine l2_lt (l2_lt ?_)
  show t_hk (if f_X13_is 11822 (t_setJ (t_setJ r1 957 n v) 958 n ((t_setJ r1 957 n v).2.1 957 n)) = 0 then _ else _) _
  generalize t_setJ (t_setJ r1 957 n v) 958 n ((t_setJ r1 957 n v).2.1 957 n) = r2 at *
  have h2 := h1.xy g2
  have g3 : l2_fr (sp_W n) r r2 := g1.trans (g2.mono (fun b j y => by unfold sp_W; omega))
  unfold k_X13_span_59
  refine l2_if (fun _ => ?_) (fun _ => ?_)
  · rw [pr_mustBe h2]
    exact l2_sm ⟨g3.trans (d5 _), h2.dead⟩
  · refine l2_eq (pr_next h2).1 (l2_bd _ (pr_bounded h2.dead) (fun y hy => ?_))
    obtain ⟨w, r3⟩ := y
    have hy : r3 = t_setI (t_setI r2 950 5 0) 950 5 0 := hy
    have h3 : pr P f p r3 := by rw [hy]; exact h2.dead.dead
    have g4 : l2_fr (fun b j => (b = 957 ∨ b = 958) ∧ j = n) r3 (t_setJ r3 958 n w) := l2_fr.setJ ⟨Or.inr rfl, rfl⟩
    refine l2_lt ?_
    show t_hk ((f_X13_mustBe 41 (t_setJ r3 958 n w)).bind _) _
    rw [pr_mustBe (h3.xy g4)]
    refine l2_sm ⟨((g3.trans ?_).trans (g4.mono (fun b j y => by unfold sp_W; omega))).trans (d5 _), (h3.xy g4).dead⟩
    rw [hy]
    exact (d5 r2).trans (d5 _)
theorem lc_F.span {c : t_S} {f p : Nat} (h : lc_F c f p) (x : Int32) : t_hk (f_X6_readSpan x c) (fun y => y.2 = c) := by
  unfold f_X6_readSpan k_X6_readSpan_38
  refine l2_eq (h.need (by decide)).1 (l2_eq (h.bound 0 x) (l2_eq (h.need (by decide)).2 (l2_ck rfl ?_)))
  rw [(h.need (x := 41) (by decide)).1]
  exact l2_sm rfl
theorem sp_or (a b : Nat) (ha : a < 256) (hb : b < 256) : (((1 : Int32) ||| (nI a <<< ((8 : Int32) &&& 31))) ||| (nI b <<< ((16 : Int32) &&& 31))) = nI (1 + 256 * a + 65536 * b) := by
  rw [pk_shlN ((8 : Int32) &&& 31) 8 (by decide) (by omega), pk_shlN ((16 : Int32) &&& 31) 16 (by decide) (by omega), show (1 : Int32) = nI 1 from rfl, fa_or, fa_or]
  congr 1
  have e1 : (1 : Nat) ||| a * 2 ^ 8 = 2 ^ 8 * a + 1 := by
    rw [Nat.or_comm, Nat.mul_comm, ← Nat.two_pow_add_eq_or_of_lt (by decide)]
  rw [e1, Nat.or_comm, Nat.mul_comm b, ← Nat.two_pow_add_eq_or_of_lt (by omega)]
  omega
/-- behind the first bound -/
theorem sp_end {P : pc_S} {u z q m n lo hi : Nat} {c r : t_S} {u0 b : Nat} {c0 r0 : t_S} (h : pj P u 0 z q m c r) (hz : z ≤ 1) (hu : u0 < u) (h1 : lo ≤ hi) (h2 : hi ≤ b) (hb : b ≤ 200) (e1 : r.2.1 957 n = lN lo) (e2 : r.2.1 958 n = lN hi) (fc : l2_fr la_W c0 c) (fr : l2_fr (sp_W n) r0 r) : t_h2 (k_X6_readSpan_38 (nI lo) (nI hi) c) (k_X13_span_59 r) (fun x y => l2_fr la_W c0 x.2 ∧ l2_fr (sp_W n) r0 y ∧ ((∃ v lo hi, u0 < v ∧ lo ≤ hi ∧ hi ≤ b ∧ pj P v 0 0 q m x.2 y ∧ x.1 = nI (1 + 256 * lo + 65536 * hi) ∧ y.2.1 957 n = lN lo ∧ y.2.1 958 n = lN hi) ∨ pf P x.2 y)) := by
  unfold k_X6_readSpan_38 k_X13_span_59
  rw [sp_or lo hi (by omega) (by omega)]
  refine h2_bb _ (pj_need (x := 41) h hz (by decide) rfl) (fun c' r' w => h2_sm ?_)
  obtain ⟨w1, w2, w3⟩ := w
  have ff : l2_fr (sp_W n) r0 r' := fr.trans (w2.mono (fun b j y => by unfold rn_W at y; unfold sp_W; omega))
  rcases w3 with w3 | w3
  · refine ⟨fc.trans w1, ff, Or.inl ⟨_, lo, hi, (by omega : u0 < u + 1), h1, h2, w3, rfl, ?_, ?_⟩⟩
    · rw [(w2 957 n (by unfold rn_W; omega)).2.1]; exact e1
    · rw [(w2 958 n (by unfold rn_W; omega)).2.1]; exact e2
  · exact ⟨fc.trans w1, ff, Or.inr w3⟩
theorem sp_span {P : pc_S} {u d z q m n b : Nat} {c r : t_S} (h : pj P u d z q m c r) (hz : z ≤ 1) (h8 : c.1 1 8 = 40) (hn : n < 13000) (hb : b ≤ 200) : t_h2 (f_X6_readSpan (nI b) c) (f_X13_span (nI n) (nI b) r) (fun x y => l2_fr la_W c x.2 ∧ l2_fr (sp_W n) r y ∧ ((∃ v lo hi, u < v ∧ lo ≤ hi ∧ hi ≤ b ∧ pj P v 0 0 q m x.2 y ∧ x.1 = nI (1 + 256 * lo + 65536 * hi) ∧ y.2.1 957 n = lN lo ∧ y.2.1 958 n = lN hi) ∨ pf P x.2 y)) := by
  unfold f_X6_readSpan f_X13_span
  have need : f_X2_need 40 c = f_X2_advance c := by
    unfold f_X2_need
    rw [if_pos h8]
    cases f_X2_advance c <;> rfl
  have rs : ∀ {x y : t_S}, l2_fr rn_W x y → l2_fr (sp_W n) x y := fun w => w.mono (fun b j y => by unfold rn_W at y; unfold sp_W; omega)
  rw [need]
  refine h2_bb _ (pj_adv h hz (Or.inr (by rw [h8]; decide)) (by rw [h8]; decide)) (fun c1 r1 w => ?_)
  obtain ⟨w1, w2, w3⟩ := w
  -- a fault ahead of the end
  have bad : ∀ (c2 r2 : t_S) (x : Int32), l2_fr la_W c c2 → l2_fr (sp_W n) r r2 → pf P c2 r2 → t_h2 ((f_X2_take 10 c2).bind (fun r3 => if r3.1 = 0 then k_X6_readSpan_38 x x r3.2 else (f_X6_readBound x (nI b) r3.2).bind (fun r4 => k_X6_readSpan_38 x r4.1 r4.2))) (if f_X13_is 11822 r2 = 0 then k_X13_span_59 r2 else (f_X13_next r2).bind (fun r5 => (f_X13_bounded (nI b) (r5.2.1 957 n) r5).bind (fun r6 => t_let (t_setJ r6.2 958 n r6.1) (fun s3 => k_X13_span_59 s3)))) (fun x y => l2_fr la_W c x.2 ∧ l2_fr (sp_W n) r y ∧ ((∃ v lo hi, u < v ∧ lo ≤ hi ∧ hi ≤ b ∧ pj P v 0 0 q m x.2 y ∧ x.1 = nI (1 + 256 * lo + 65536 * hi) ∧ y.2.1 957 n = lN lo ∧ y.2.1 958 n = lN hi) ∨ pf P x.2 y)) := by
    intro c2 r2 x g1 g2 g3
    obtain ⟨f, p, g3, g4⟩ := g3
    have d5 : ∀ r : t_S, l2_fr (sp_W n) r (t_setI r 950 5 0) := fun r => l2_fr.set (Or.inl ⟨rfl, by decide, by decide⟩)
    refine h2_sep (fun x => x.2 = c2) (fun y => l2_fr (sp_W n) r y ∧ pr P f p y) ?_ ?_ (fun x y hx hy => by rw [hx]; exact ⟨g1, hy.1, Or.inr ⟨f, p, g3, hy.2⟩⟩)
    · refine l2_eq (g3.need (by decide)).2 (l2_ck rfl ?_)
      unfold k_X6_readSpan_38
      rw [(g3.need (x := 41) (by decide)).1]
      exact l2_sm rfl
    · unfold k_X13_span_59
      refine l2_if (fun _ => ?_) (fun _ => ?_)
      · rw [pr_mustBe g4]
        exact l2_sm ⟨g2.trans (d5 _), g4.dead⟩
      · refine l2_eq (pr_next g4).1 (l2_bd _ (pr_bounded g4.dead) (fun y hy => ?_))
        obtain ⟨w, r3⟩ := y
        have hy : r3 = t_setI (t_setI r2 950 5 0) 950 5 0 := hy
        have h3 : pr P f p r3 := by rw [hy]; exact g4.dead.dead
        have g4 : l2_fr (fun b j => (b = 957 ∨ b = 958) ∧ j = n) r3 (t_setJ r3 958 n w) := l2_fr.setJ ⟨Or.inr rfl, rfl⟩
        refine l2_lt ?_
        show t_hk ((f_X13_mustBe 41 (t_setJ r3 958 n w)).bind _) _
        rw [pr_mustBe (h3.xy g4)]
        refine l2_sm ⟨((g2.trans ?_).trans (g4.mono (fun b j y => by unfold sp_W; omega))).trans (d5 _), (h3.xy g4).dead⟩
        rw [hy]
        exact (d5 r2).trans (d5 _)
  have ix : t_ix (nI n) 13000 = true := l2_ix hn (by decide)
  rcases w3 with w3 | ⟨f, p, w3, w4⟩
  · refine h2_bb _ (nb_bound (a := 0) w3 (by decide) (by decide) (by omega)) (fun x y hx => ?_)
    obtain ⟨x1, x2, x3⟩ := hx
    refine h2_ckR ix ?_
    rw [nI_clamp (n := n) (by omega)]
    refine h2_lR (h2_lR ?_)
    have g2 : l2_fr (fun b j => (b = 957 ∨ b = 958) ∧ j = n) y.2 (t_setJ (t_setJ y.2 957 n y.1) 958 n ((t_setJ y.2 957 n y.1).2.1 957 n)) := (l2_fr.setJ ⟨Or.inl rfl, rfl⟩).trans (l2_fr.setJ ⟨Or.inr rfl, rfl⟩)
    have v7 : (t_setJ (t_setJ y.2 957 n y.1) 958 n ((t_setJ y.2 957 n y.1).2.1 957 n)).2.1 957 n = y.1 := by simp only [l2_gJ, Nat.reduceEqDiff, reduceIte, eq_self]
    have v8 : (t_setJ (t_setJ y.2 957 n y.1) 958 n ((t_setJ y.2 957 n y.1).2.1 957 n)).2.1 958 n = y.1 := by simp only [l2_gJ, Nat.reduceEqDiff, reduceIte, eq_self]
    generalize t_setJ (t_setJ y.2 957 n y.1) 958 n ((t_setJ y.2 957 n y.1).2.1 957 n) = r2 at *
    have fr2 : l2_fr (sp_W n) r r2 := ((rs w2).trans (rs x2)).trans (g2.mono (fun b j y => by unfold sp_W; omega))
    have fc2 : l2_fr la_W c x.2 := w1.trans x1
    rcases x3 with ⟨lo, l1, l2, l3, l4, l5⟩ | x3
    · have h3 : pj P (u + 1 + 1) 0 0 q m x.2 r2 := l3.fr (l2_fr.rf (W := fun _ _ => False)) g2 (fun _ y => y) (fun _ _ _ _ y => y) (fun _ _ _ _ y => y) (fun y => y) (fun j _ => by omega) (fun b i _ _ => by omega)
      rw [l5] at v7 v8
      rw [l4]
      rcases h3.is (x := 10) (by decide) with ⟨a, e⟩ | ⟨a, e⟩
      · rw [show (11822 : Int32) = nI (sg 10) from rfl, e]
        refine h2_noR (by decide) (h2_bb _ (pj_took h3 (by decide) (x := 10) (by decide) a) (fun x2 r5 hx2 => ?_))
        obtain ⟨k1, k2, k3, k4⟩ := hx2
        rw [k1]
        refine h2_noL (by decide) ?_
        rcases k4 with k4 | ⟨f, p, k4, k5⟩
        · rw [(k3 957 n (by unfold rn_W; omega)).2.1, v7]
          refine h2_bb _ (nb_bound (a := lo) k4 (by decide) (by omega) (by omega)) (fun x6 y6 hx6 => ?_)
          obtain ⟨m1, m2, m3⟩ := hx6
          refine h2_lR ?_
          have g6 : l2_fr (fun b j => (b = 957 ∨ b = 958) ∧ j = n) y6.2 (t_setJ y6.2 958 n y6.1) := l2_fr.setJ ⟨Or.inr rfl, rfl⟩
          have fr6 : l2_fr (sp_W n) r (t_setJ y6.2 958 n y6.1) := ((fr2.trans (rs k3)).trans (rs m2)).trans (g6.mono (fun b j y => by unfold sp_W; omega))
          rcases m3 with ⟨hi, n1, n2, n3, n4, n5⟩ | ⟨f, p, m3, m4⟩
          · rw [n4]
            refine sp_end (u0 := u) (z := 0) (n3.fr (l2_fr.rf (W := fun _ _ => False)) g6 (fun _ y => y) (fun _ _ _ _ y => y) (fun _ _ _ _ y => y) (fun y => y) (fun j _ => by omega) (fun b i _ _ => by omega)) (by decide) (by omega) n1 n2 hb ?_ ?_ ((fc2.trans k2).trans m1) fr6
            · rw [l2_gJ, if_neg (by decide), (m2 957 n (by unfold rn_W; omega)).2.1, (k3 957 n (by unfold rn_W; omega)).2.1, v7]
            · rw [l2_gJ, if_pos rfl, if_pos rfl, n5]
          · unfold k_X6_readSpan_38 k_X13_span_59
            refine h2_eL (m3.need (by decide)).1 (h2_eR (pr_mustBe (m4.xy g6) 41) (h2_sm ⟨(fc2.trans k2).trans m1, fr6.trans (l2_fr.set (Or.inl ⟨rfl, by decide, by decide⟩)), Or.inr ⟨f, p, m3, (m4.xy g6).dead⟩⟩))
        · refine h2_eL (k4.bound _ _) (h2_bR _ (pr_bounded k5) (fun y6 hy6 => ?_))
          obtain ⟨v6, r6⟩ := y6
          have hy6 : r6 = t_setI r5 950 5 0 := hy6
          refine h2_lR ?_
          have h6 : pr P f p r6 := by rw [hy6]; exact k5.dead
          have g6 : l2_fr (fun b j => (b = 957 ∨ b = 958) ∧ j = n) r6 (t_setJ r6 958 n v6) := l2_fr.setJ ⟨Or.inr rfl, rfl⟩
          have g56 : l2_fr (sp_W n) r5 r6 := by rw [hy6]; exact l2_fr.set (Or.inl ⟨rfl, by decide, by decide⟩)
          have fr6 : l2_fr (sp_W n) r (t_setJ r6 958 n v6) := ((fr2.trans (rs k3)).trans g56).trans (g6.mono (fun b j y => by unfold sp_W; omega))
          unfold k_X6_readSpan_38 k_X13_span_59
          refine h2_eL (k4.need (by decide)).1 (h2_eR (pr_mustBe (h6.xy g6) 41) (h2_sm ⟨fc2.trans k2, fr6.trans (l2_fr.set (Or.inl ⟨rfl, by decide, by decide⟩)), Or.inr ⟨f, p, k4, (h6.xy g6).dead⟩⟩))
      · rw [show (11822 : Int32) = nI (sg 10) from rfl, e]
        refine h2_ckR rfl (h2_eL (pj_nottook a) (h2_ckL rfl ?_))
        exact sp_end (u0 := u) (z := 0) h3 (by decide) (by omega) (Nat.le_refl _) l2 hb v7 v8 fc2 fr2
    · obtain ⟨f, p, x3, x4⟩ := x3
      exact bad _ _ _ fc2 fr2 ⟨f, p, x3, x4.xy g2⟩
  · refine h2_eL (w3.bound _ _) (h2_bR _ (pr_bounded w4) (fun y hy => ?_))
    obtain ⟨v, r2⟩ := y
    have hy : r2 = t_setI r1 950 5 0 := hy
    refine h2_ckR ix ?_
    rw [nI_clamp (n := n) (by omega)]
    refine h2_lR (h2_lR ?_)
    have h2 : pr P f p r2 := by rw [hy]; exact w4.dead
    have g12 : l2_fr (sp_W n) r1 r2 := by rw [hy]; exact l2_fr.set (Or.inl ⟨rfl, by decide, by decide⟩)
    have g2 : l2_fr (fun b j => (b = 957 ∨ b = 958) ∧ j = n) r2 (t_setJ (t_setJ r2 957 n v) 958 n ((t_setJ r2 957 n v).2.1 957 n)) := (l2_fr.setJ ⟨Or.inl rfl, rfl⟩).trans (l2_fr.setJ ⟨Or.inr rfl, rfl⟩)
    exact bad _ _ _ w1 (((rs w2).trans g12).trans (g2.mono (fun b j y => by unfold sp_W; omega))) ⟨f, p, w3, h2.xy g2⟩
