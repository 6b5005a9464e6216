/-! Level 2: a component as an item: its loop. -/
/-- what a component as an item writes -/
def kd_Wc (k t e p l b j : Nat) : Prop := xWc t e p l 0 0 b j ∨ b = 6 ∨ (b = 428 ∧ j = 0) ∨ ((b = 429 ∨ b = 431 ∨ b = 433) ∧ j = k) ∨ (b = 430 ∧ 6 * k ≤ j ∧ j < 6 * k + 6) ∨ (b = 432 ∧ 4 * k ≤ j ∧ j < 4 * k + 4) ∨ (434 ≤ b ∧ b ≤ 436 ∧ 8 * k ≤ j ∧ j < 8 * k + 8) ∨ (b = 845 ∧ j = 13)
def kd_Wr (k m s b j : Nat) : Prop := xWr m s b j ∨ (b = 950 ∧ ((31 ≤ j ∧ j ≤ 34) ∨ j = 55 ∨ j = 86 ∨ j = 87)) ∨ ((b = 970 ∨ b = 972 ∨ b = 974 ∨ b = 979) ∧ j = k) ∨ (b = 971 ∧ 6 * k ≤ j ∧ j < 6 * k + 6) ∨ (b = 973 ∧ 4 * k ≤ j ∧ j < 4 * k + 4) ∨ (975 ≤ b ∧ b ≤ 978 ∧ 8 * k ≤ j ∧ j < 8 * k + 8)
theorem kd_mo {k t e p l : Nat} {c c' : t_S} (h : l2_fr (kd_Wc k t e p l) c c') : l2_fr mo_Wc c c' := h.mono (fun b j y => by
  rcases y with y | y | y | y | y | y | y | y
  · unfold xWc at y
    unfold mo_Wc
    omega
  all_goals (unfold mo_Wc; omega))
theorem kd_mr {k m s : Nat} {r r' : t_S} (h : l2_fr (kd_Wr k m s) r r') : l2_fr mo_Wr r r' := h.mono (fun b j y => by
  rcases y with y | y | y | y | y | y
  · unfold xWr at y
    unfold mo_Wr
    omega
  all_goals (unfold mo_Wr; omega))
/-- within a component: so many of its own read -/
def km_R (P : pc_S) (nt : Nat → Nat) (k u q m a g t e p l s i st : Nat) (c r : t_S) (w0 w1 w2 : Nat) (c' r' : t_S) : Prop := ∃ u' q' m' t' e' p' l' s' i' : Nat, ∃ A B D : Nat → Nat, (u ≤ u' ∧ q ≤ q' ∧ m ≤ m' ∧ t ≤ t' ∧ e ≤ e' ∧ p ≤ p' ∧ l ≤ l' ∧ s ≤ s' ∧ i ≤ i') ∧ mp P nt u' q' m' a g t' e' p' l' s' i' st (-1) (nI k) (-1) c' r' ∧ cw_R c' r' k w0 w1 w2 A B D ∧ l2_fr (kd_Wc k t e p l) c c' ∧ l2_fr (kd_Wr k m s) r r' ∧ mB False (k + 1) (nt 3) c c' r' l l' i i' m m' st st ∧ ∀ j, j < w2 → kv_R c' r' k j t' e' p' l' s' m'
section
variable {P : pc_S} {nt : Nat → Nat} {u q m a g t e p l s i st f p0 k v0 v1 v2 : Nat} {c0 r0 c r : t_S}
theorem mK.ow {n3 m1 s1 : Nat} {r1 r2 : t_S} (h : l2_fr (ow_Wr k v0 v1 v2 m1 s1) r1 r2) (h2 : r1.1 979 k = nI v2) (hv : v2 ≤ 8) {w2 : Nat} (h3 : r2.1 979 k = nI w2) (hw : v2 ≤ w2 ∧ w2 ≤ 8) : mK (k + 1) n3 r1 r2 := by
  refine ⟨fun j j1 j2 cnt hc e => ?_, fun f f1 f2 => ⟨⟨(h 982 f (by unfold ow_Wr xWr; omega)).1, (h 983 f (by unfold ow_Wr xWr; omega)).1⟩, fun cnt hc e => ⟨⟨cnt, Nat.le_refl _, hc, by rw [(h 986 f (by unfold ow_Wr xWr; omega)).1]; exact e⟩, fun i _ => (h 984 _ (by unfold ow_Wr xWr; omega)).1⟩⟩⟩
  by_cases z : j = k
  · subst z
    have e2 : cnt = v2 := (nI_eq (by omega) (by omega)).mp (e.symm.trans h2)
    subst e2
    exact ⟨⟨w2, hw.1, hw.2, h3⟩, fun i hi => ⟨(h 975 _ (by unfold ow_Wr xWr; omega)).1, (h 976 _ (by unfold ow_Wr xWr; omega)).1, (h 977 _ (by unfold ow_Wr xWr; omega)).1⟩⟩
  · exact ⟨⟨cnt, Nat.le_refl _, hc, by rw [(h 979 j (by unfold ow_Wr xWr; omega)).1]; exact e⟩, fun i hi => ⟨(h 975 _ (by unfold ow_Wr xWr; omega)).1, (h 976 _ (by unfold ow_Wr xWr; omega)).1, (h 977 _ (by unfold ow_Wr xWr; omega)).1⟩⟩
/-- one more of its own -/
theorem km_R.add {w0 w1 w2 u1 q1 m1 t1 e1 p1 l1 s1 i1 : Nat} {A B D : Nat → Nat} {c1 r1 c2 r2 : t_S} (hk : k < 8) (o : u ≤ u1 ∧ q ≤ q1 ∧ m ≤ m1 ∧ t ≤ t1 ∧ e ≤ e1 ∧ p ≤ p1 ∧ l ≤ l1 ∧ s ≤ s1 ∧ i ≤ i1) (hc : cw_R c1 r1 k w0 w1 w2 A B D) (fc : l2_fr (kd_Wc k t e p l) c c1) (fr : l2_fr (kd_Wr k m s) r r1) (hB : mB False (k + 1) (nt 3) c c1 r1 l l1 i i1 m m1 st st) (hV : ∀ j, j < w2 → kv_R c1 r1 k j t1 e1 p1 l1 s1 m1) (G : ow_G P nt k w0 w1 w2 u1 q1 m1 a g t1 e1 p1 l1 s1 i1 st c1 r1 c2 r2) : ∃ x0 x1 x2, x0 + x1 + x2 = w0 + w1 + w2 + 1 ∧ km_R P nt k u q m a g t e p l s i st c r x0 x1 x2 c2 r2 := by
  obtain ⟨u', q', m', t', e', p', l', s', i', x0, x1, x2, A', B', D', ⟨o1, o2, o3, o4, o5, o6, o7, o8, o9⟩, M, hc', ⟨y0, y1, y2, y3, y4⟩, gc, gr, gB, gV⟩ := G
  have c0' := hc.1
  have c1' := hc'.1
  have kc : l2_fr (kd_Wc k t e p l) c1 c2 := gc.mono (fun b j y => by
    rcases y with y | y | y | y | y
    · exact Or.inl (y.sub (by omega) (by omega) (by omega) (by omega) (Nat.le_refl _) (Nat.le_refl _))
    · exact Or.inr (Or.inr (Or.inr (Or.inl y)))
    · exact Or.inr (Or.inr (Or.inr (Or.inr (Or.inl ⟨y.1, by omega, by omega⟩))))
    · exact Or.inr (Or.inr (Or.inr (Or.inr (Or.inr (Or.inl ⟨y.1, by omega, by omega⟩)))))
    · exact Or.inr (Or.inr (Or.inr (Or.inr (Or.inr (Or.inr (Or.inl ⟨y.1, y.2.1, by omega, by omega⟩)))))))
  have kr : l2_fr (kd_Wr k m s) r1 r2 := gr.mono (fun b j y => by
    rcases y with y | y | y | y | y | y
    · exact Or.inl (y.sub (by omega) (by omega))
    · exact Or.inr (Or.inl ⟨y.1, by omega⟩)
    · exact Or.inr (Or.inr (Or.inl ⟨by omega, y.2⟩))
    · exact Or.inr (Or.inr (Or.inr (Or.inl ⟨y.1, by omega, by omega⟩)))
    · exact Or.inr (Or.inr (Or.inr (Or.inr (Or.inl ⟨y.1, by omega, by omega⟩))))
    · exact Or.inr (Or.inr (Or.inr (Or.inr (Or.inr ⟨y.1, y.2.1, by omega, by omega⟩)))))
  have hk1 : ∀ n3, mK (k + 1) n3 r1 r2 := fun n3 => mK.ow gr hc.2.2.2.1.2 (by omega) hc'.2.2.2.1.2 ⟨y2, by omega⟩
  have mle := M.1.mle (by decide)
  have cpc : cp_c (ow_Wc k w0 w1 w2 t1 e1 p1 l1) t1 e1 p1 l1 := fun b j y => by
    unfold ow_Wc xWc at y
    omega
  have cpr : cp_r (ow_Wr k w0 w1 w2 m1 s1) m1 s1 := fun b j y => by
    unfold ow_Wr xWr at y
    omega
  refine ⟨x0, x1, x2, y4, u', q', m', t', e', p', l', s', i', A', B', D', ⟨by omega, by omega, by omega, by omega, by omega, by omega, by omega, by omega, by omega⟩, M, hc', fc.trans kc, fr.trans kr, hB.trans gB ⟨by omega, o7⟩ ⟨by omega, o9⟩ ⟨by omega, o3⟩ ⟨Nat.le_refl _, Nat.le_refl _⟩ (fun b j h1 h2 h3 => (gc b j (fun w => (cpc b j w).2.2.2 ⟨h1, h2, h3⟩)).1) (fun j h1 h2 => ?_) (fun j h1 h2 => by omega) (hk1 _) (Nat.le_refl _) (Nat.le_refl _) (by omega), fun j hj => ?_⟩
  · have g : ∀ b, (955 ≤ b ∧ b ≤ 962) ∨ b = 1003 → r2.1 b j = r1.1 b j ∧ r2.2.1 b j = r1.2.1 b j := fun b y => ⟨(gr b j (fun w => (cpr b j w).1 ⟨y, h2⟩)).1, (gr b j (fun w => (cpr b j w).1 ⟨y, h2⟩)).2.1⟩
    exact ⟨(g 955 (by decide)).1, (g 956 (by decide)).1, (g 962 (by decide)).1, (g 1003 (by decide)).1, (g 957 (by decide)).2, (g 958 (by decide)).2, fun _ => (g 961 (by decide)).1⟩
  · by_cases z : j < w2
    · exact (hV j z).fr gc gr cpc cpr ⟨by unfold ow_Wc xWc; omega, by unfold ow_Wc xWc; omega⟩ (fun b _ _ => by unfold ow_Wr xWr; omega) (hk1 0) o4 o5 o6 o7 o8 o3
    · have e : j = w2 := by omega
      subst e
      rcases gV with g | g
      · omega
      · exact g
/-- another token on -/
theorem km_R.la {w0 w1 w2 : Nat} {c1 r1 c2 r2 : t_S} {u1 q1 m1 t1 e1 p1 l1 s1 i1 : Nat} {A B D : Nat → Nat} (o : u ≤ u1 ∧ q ≤ q1 ∧ m ≤ m1 ∧ t ≤ t1 ∧ e ≤ e1 ∧ p ≤ p1 ∧ l ≤ l1 ∧ s ≤ s1 ∧ i ≤ i1) (M : mp P nt u1 q1 m1 a g t1 e1 p1 l1 s1 i1 st (-1) (nI k) (-1) c1 r1) (hc : cw_R c1 r1 k w0 w1 w2 A B D) (fc : l2_fr (kd_Wc k t e p l) c c1) (fr : l2_fr (kd_Wr k m s) r r1) (hB : mB False (k + 1) (nt 3) c c1 r1 l l1 i i1 m m1 st st) (hV : ∀ j, j < w2 → kv_R c1 r1 k j t1 e1 p1 l1 s1 m1) (J : pj P (u1 + 1) 0 0 q1 m1 c2 r2) (gc : l2_fr la_W c1 c2) (gr : l2_fr rn_W r1 r2) : km_R P nt k u q m a g t e p l s i st c r w0 w1 w2 c2 r2 := by
  have cpc : ∀ t e p l, cp_c la_W t e p l := fun t e p l b j y => by
    unfold la_W at y
    omega
  have cpr : ∀ m s, cp_r rn_W m s := fun m s b j y => by
    unfold rn_W at y
    omega
  have hk1 : ∀ n3, mK (k + 1) n3 r1 r2 := fun n3 => mK.of gr (fun b j y => by unfold rn_W; omega)
  exact ⟨u1 + 1, q1, m1, t1, e1, p1, l1, s1, i1, A, B, D, ⟨by omega, o.2⟩, M.la (by omega) (Nat.le_refl _) J gc gr, hc.fr gc gr (fun b j _ _ => by unfold la_W; omega) (fun b j _ _ _ => by unfold rn_W; omega), fc.trans (gc.mono (V := kd_Wc k t e p l) (fun b j y => Or.inl (x_la y))), fr.trans (gr.mono (V := kd_Wr k m s) (fun b j y => Or.inl (x_rn y))), hB.cap (t := 0) (e := 0) (p := 0) (s := 0) gc gr (cpc _ _ _ _) (cpr _ _) ⟨by unfold la_W; omega, by unfold la_W; omega⟩ (fun j => by unfold la_W; omega) (fun b j _ _ _ y1 y2 => by omega) (hk1 _) (Nat.le_refl _) (Nat.le_refl _), fun j hj => (hV j hj).fr gc gr (cpc _ _ _ _) (cpr _ _) ⟨by unfold la_W; omega, by unfold la_W; omega⟩ (fun b _ _ => by unfold rn_W; omega) (hk1 0) (Nat.le_refl _) (Nat.le_refl _) (Nat.le_refl _) (Nat.le_refl _) (Nat.le_refl _) (Nat.le_refl _)⟩
/-- the loop over a component's own -/
def kl_I (P : pc_S) (nt : Nat → Nat) (k u q m a g t e p l s i st : Nat) (c r : t_S) (n : Nat) (x y : Int32 × t_S) : Prop := y.1 = nI k ∧ ((∃ w0 w1 w2, n = 20 - (w0 + w1 + w2) ∧ x.1 = nI (w0 + w1 + w2) ∧ km_R P nt k u q m a g t e p l s i st c r w0 w1 w2 x.2 y.2) ∨ (∃ f p0, lc_F x.2 f p0 ∧ pr P f p0 y.2 ∧ l2_fr mo_Wc c x.2 ∧ l2_fr mo_Wr r y.2))
/-- .. behind it -/
def kl_Q (P : pc_S) (nt : Nat → Nat) (k u q m a g t e p l s i st : Nat) (c r : t_S) (c' r' : t_S) : Prop := l2_fr mo_Wc c c' ∧ l2_fr mo_Wr r r' ∧ ((∃ w0 w1 w2 : Nat, ∃ c1 : t_S, km_R P nt k u q m a g t e p l s i st c r w0 w1 w2 c1 r' ∧ c' = t_setI c1 845 13 (-1)) ∨ ∃ f p0, lc_F c' f p0 ∧ pr P f p0 r')
theorem lc_F.ci104 (h : lc_F c f p0) : k_X6_readComponentItem_104 c = some (t_setI c 845 13 (-1)) := by
  unfold k_X6_readComponentItem_104
  rw [(h.need (by decide)).1, l2_bs]
  rfl
theorem kl_bad {n : Nat} {x y : Int32 × t_S} (hy : y.1 = nI k) (h1 : lc_F x.2 f p0) (h2 : pr P f p0 y.2) (h3 : l2_fr mo_Wc c x.2) (h4 : l2_fr mo_Wr r y.2) : t_h2 (b_X6_readComponentItem_65 x) (b_X13_component_72 y) (h2_nx b_X6_readComponentItem_65 b_X13_component_72 (fun x' y' => ∃ j, j < n ∧ kl_I P nt k u q m a g t e p l s i st c r j x' y') (kl_Q P nt k u q m a g t e p l s i st c r)) := by
  obtain ⟨xv, xs⟩ := x
  obtain ⟨yv, ys⟩ := y
  have hy : yv = nI k := hy
  subst hy
  show t_h2 (k_X6_readComponentItem_65 xv xs) (k_X13_component_72 (nI k) ys) _
  have e : k_X6_readComponentItem_65 xv xs = some (.inr (t_setI xs 845 13 (-1))) := by
    unfold k_X6_readComponentItem_65
    rw [lc_F.ci104 h1, if_neg h1.ne]
    split <;> rfl
  unfold k_X13_component_72 k_X13_component_96
  rw [e, if_neg h2.ne, pr_mustBe h2]
  refine h2_sm ?_
  exact ⟨h3.trans (l2_fr.set (by unfold mo_Wc; omega)), h4.trans (l2_fr.set (by unfold mo_Wr; omega)), Or.inr ⟨f, p0, h1.fr (W := fun b j => b = 845 ∧ j = 13) (l2_fr.set ⟨rfl, rfl⟩) (fun j _ _ => by omega), h2.dead⟩⟩
theorem kl_loop (hk : k < 8) {c1 r1 : t_S} (h : km_R P nt k u q m a g t e p l s i st c r 0 0 0 c1 r1 ∨ ∃ f p0, lc_F c1 f p0 ∧ pr P f p0 r1 ∧ l2_fr mo_Wc c c1 ∧ l2_fr mo_Wr r r1) : t_h2 (t_loop b_X6_readComponentItem_65 t_N (0, c1)) (t_loop b_X13_component_72 t_N (nI k, r1)) (kl_Q P nt k u q m a g t e p l s i st c r) := by
  refine h2_lpN (kl_I P nt k u q m a g t e p l s i st c r) (fun n x y hI => ?_) (k := 20) (by decide) ⟨rfl, h.elim (fun h => Or.inl ⟨0, 0, 0, rfl, rfl, h⟩) (fun h => Or.inr h)⟩
  obtain ⟨hy, hI⟩ := hI
  rcases hI with ⟨w0, w1, w2, rfl, hx, hK⟩ | ⟨f, p0, h1, h2, h3, h4⟩
  rotate_left
  · exact kl_bad hy h1 h2 h3 h4
  obtain ⟨xv, xs⟩ := x
  obtain ⟨yv, ys⟩ := y
  have hy : yv = nI k := hy
  have hx : xv = nI (w0 + w1 + w2) := hx
  subst hy hx
  have hK0 := hK
  obtain ⟨u1, q1, m1, t1, e1, p1, l1, s1, i1, A, B, D, o, M, hc, fc, fr, hB, hV⟩ := hK
  have hc0 := hc.1
  have fc : l2_fr (kd_Wc k t e p l) c xs := fc
  have fr : l2_fr (kd_Wr k m s) r ys := fr
  have M : mp P nt u1 q1 m1 a g t1 e1 p1 l1 s1 i1 st (-1) (nI k) (-1) xs ys := M
  have f0 := M.1.f0
  show t_h2 (k_X6_readComponentItem_65 (nI (w0 + w1 + w2)) xs) (k_X13_component_72 (nI k) ys) _
  unfold k_X6_readComponentItem_65 k_X13_component_72
  refine h2_noL (show ¬ (12002 : Int32) ≤ nI (w0 + w1 + w2) from nI_ge (b := 12002) (by omega) (by decide)) (h2_ckL f0.1 (h2_ckR f0.2 ?_))
  rcases M.1.is (x := 125) (by decide) with ⟨a1, a2⟩ | ⟨a1, a2⟩
  · refine h2_ckL a1 (h2_noR (show ¬ f_X13_is 125 ys = 0 by rw [show f_X13_is 125 ys = 1 from a2]; decide) ?_)
    unfold k_X6_readComponentItem_104 k_X13_component_96
    refine h2_mp (h2_bb _ (pj_need M.1 (by decide) (x := 125) (by decide) rfl) (fun c2 r2 hw => h2_lL (h2_sm ?_)))
    obtain ⟨z1, z2, z3⟩ := hw
    show kl_Q P nt k u q m a g t e p l s i st c r (t_setI c2 845 13 (-1)) r2
    refine ⟨((kd_mo fc).trans (mo_la z1)).trans (l2_fr.set (by unfold mo_Wc; omega)), (kd_mr fr).trans (mo_rn z2), ?_⟩
    rcases z3 with J | ⟨f, p0, y1, y2⟩
    · exact Or.inl ⟨w0, w1, w2, c2, km_R.la o M hc fc fr hB hV J z1 z2, rfl⟩
    · exact Or.inr ⟨f, p0, y1.fr (W := fun b j => b = 845 ∧ j = 13) (l2_fr.set ⟨rfl, rfl⟩) (fun j _ _ => by omega), y2⟩
  · refine h2_noL a1 (h2_ckR (show f_X13_is 125 ys = 0 from a2) (h2_bb _ (ow_own M hc hk) (fun c2 r2 hw => h2_sm ?_)))
    obtain ⟨z1, z2, z3⟩ := hw
    rcases z3 with G | ⟨f, p0, y1, y2⟩
    · obtain ⟨x0, x1, x2, e, K⟩ := km_R.add hk o hc fc fr hB hV G
      have b2 : x0 + x1 + x2 ≤ 18 := by
        obtain ⟨_, _, _, _, _, _, _, _, _, _, _, _, _, _, hc', _⟩ := K
        have := hc'.1
        omega
      exact ⟨20 - (x0 + x1 + x2), by omega, rfl, Or.inl ⟨x0, x1, x2, rfl, by rw [e]; exact (nI_succ _).symm, K⟩⟩
    · exact ⟨0, by omega, rfl, Or.inr ⟨f, p0, y1, y2, (kd_mo fc).trans z1, (kd_mr fr).trans z2⟩⟩
end
