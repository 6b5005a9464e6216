/-! Level 2: a component's own: what they come to; ports and timers. -/
def E_v (k n : Nat) (v : Nat → Nat) : en_S := (-2 - nI k, 1000 + k, n, 0, 2147483647, v)
/-- writes that leave what stands below these numbers -/
def cp_c (W : Nat → Nat → Prop) (t e p l : Nat) : Prop := ∀ b j, W b j → ¬ ((b = 335 ∨ b = 336) ∧ j < e) ∧ ¬ (354 ≤ b ∧ b ≤ 362 ∧ j < t) ∧ ¬ (b = 337 ∧ j < p) ∧ ¬ (848 ≤ b ∧ b ≤ 853 ∧ j < l)
def cp_r (W : Nat → Nat → Prop) (m s : Nat) : Prop := ∀ b j, W b j → ¬ (((955 ≤ b ∧ b ≤ 962) ∨ b = 1003) ∧ j < m) ∧ ¬ (b = 963 ∧ j < s)
/-- a component's var: its type, its exp -/
def kv_R (c r : t_S) (k i t e p l s m : Nat) : Prop := ∃ e0 e1 t0 t1 l0 l1 m0 m1 p1 s1 n f : Nat, ∃ v : Nat → Nat, (e1 + 1 ≤ e ∧ t1 ≤ t ∧ p1 ≤ p ∧ l1 ≤ l ∧ s1 ≤ s ∧ m1 ≤ m) ∧ c.1 436 (8 * k + i) = nI e0 ∧ r.1 978 (8 * k + i) = nI n ∧ px_o c e1 0 0 ∧ XR (wn_R (E_v k i v) c r l0 l1) (an_R (E_v k i v) c r l0 l1) (tn_R (E_v k i v) c r l0 l1) (sn_R c) c r p1 s1 f 0 0 15 e0 e1 t0 t1 m0 m1 n ∧ r.1 960 n = -1 ∧ mE (k + 1) 0 r (E_v k i v) ∧ c.1 435 (8 * k + i) = -1 ∧ (r.1 976 (8 * k + i) = -1 ∨ ∃ X pl e', X < 7934 ∧ pl ≤ 12000 ∧ e' < l ∧ hi_e c e' 2 X pl (-2 - nI k) (nI (8 * k + i)) 0 ∧ r.1 976 (8 * k + i) = nI X ∧ r.1 977 (8 * k + i) = nI pl)
theorem kv_R.fr {c r c' r' : t_S} {k i t e p l s m t2 e2 p2 l2 s2 m2 : Nat} {Wc Wr : Nat → Nat → Prop} (h : kv_R c r k i t e p l s m) (fc : l2_fr Wc c c') (fr : l2_fr Wr r r') (w1 : cp_c Wc t e p l) (w2 : cp_r Wr m s) (w3 : ¬ Wc 435 (8 * k + i) ∧ ¬ Wc 436 (8 * k + i)) (w4 : ∀ b, 976 ≤ b → b ≤ 978 → ¬ Wr b (8 * k + i)) (hk : mK (k + 1) 0 r r') (ht : t ≤ t2) (he : e ≤ e2) (hp : p ≤ p2) (hl : l ≤ l2) (hs : s ≤ s2) (hm : m ≤ m2) : kv_R c' r' k i t2 e2 p2 l2 s2 m2 := by
  obtain ⟨e0, e1, t0, t1, l0, l1, m0, m1, p1, s1, n, f, v, ⟨x1, x2, x3, x4, x5, x6⟩, x7, x8, x9, x10, x11, x12, x13, x14⟩ := h
  have q := x10.at
  have g : ∀ b j, ¬ Wc b j → c'.1 b j = c.1 b j := fun b j y => (fc b j y).1
  have g' : ∀ b j, ¬ Wr b j → r'.1 b j = r.1 b j := fun b j y => (fr b j y).1
  refine ⟨e0, e1, t0, t1, l0, l1, m0, m1, p1, s1, n, f, v, ⟨by omega, by omega, by omega, by omega, by omega, by omega⟩, ?_, ?_, ⟨?_, ?_⟩, ?_, ?_, x12.mono hk (Nat.le_refl _) (Nat.le_refl _), ?_, ?_⟩
  · rw [g _ _ w3.2]; exact x7
  · rw [g' _ _ (w4 978 (by decide) (by decide))]; exact x8
  · rw [g 335 e1 (fun y => (w1 _ _ y).1 ⟨Or.inl rfl, by omega⟩)]; exact x9.1
  · rw [g 336 e1 (fun y => (w1 _ _ y).1 ⟨Or.inr rfl, by omega⟩)]; exact x9.2
  · refine x10.own fc fr (Nat.le_refl _) (Nat.le_refl _) (Nat.le_refl _) ⟨Nat.le_refl _, Nat.le_refl _⟩ (fun b j y => ?_) (fun b j y => ?_)
    · obtain ⟨a1, a2, a3, a4⟩ := w1 b j y
      exact ⟨fun z => a1 ⟨z.1, by omega⟩, fun z => a2 ⟨z.1, z.2.1, by omega⟩, fun z => a3 ⟨z.1, by omega⟩, fun z => a4 ⟨z.1, by omega, by omega⟩⟩
    · obtain ⟨a1, a2⟩ := w2 b j y
      exact ⟨fun z => a1 ⟨Or.inl ⟨z.1, by omega⟩, by omega⟩, fun z => a2 ⟨z.1, by omega⟩⟩
  · rw [g' 960 n (fun y => (w2 _ _ y).1 ⟨by omega, by omega⟩)]; exact x11
  · rw [g _ _ w3.1]; exact x13
  · rw [g' _ _ (w4 976 (by decide) (by decide)), g' _ _ (w4 977 (by decide) (by decide))]
    exact x14.elim Or.inl (fun ⟨X, pl, e', y1, y2, y3, y4, y5⟩ => Or.inr ⟨X, pl, e', y1, y2, by omega, y4.fr (fun b a1 a2 => g b e' (fun y => (w1 _ _ y).2.2.2 ⟨a1, a2, y3⟩)), y5⟩)
/-- .. what has been brought stays -/
theorem mB.cap {zT : Prop} {n2 n3 a2 a3 : Nat} {c0 c r c' r' : t_S} {l l' i i' m m' st st' t e p s : Nat} {Wc Wr : Nat → Nat → Prop} (h : mB zT n2 n3 c0 c r l l' i i' m m' st st') (fc : l2_fr Wc c c') (fr : l2_fr Wr r r') (w1 : cp_c Wc t e p l') (w2 : cp_r Wr m' s) (w3 : ¬ Wc 846 7 ∧ ¬ Wc 846 8) (w4 : ∀ j, ¬ Wc 7 j) (w5 : ∀ b j, 988 ≤ b → b ≤ 1002 → b ≠ 989 → st ≤ j → j < st' → ¬ Wr b j) (hk : mK n2 n3 r r') (h2 : n2 ≤ a2) (h3 : n3 ≤ a3) : mB zT a2 a3 c0 c' r' l l' i i' m m' st st' := by
  refine h.fr (fun b e x y z => (fc b e (fun w => (w1 b e w).2.2.2 ⟨x, y, z⟩)).1) (fc 846 7 w3.1).1 (fc 846 8 w3.2).1 (fun j => (fc 7 j (w4 j)).1) (fun k k1 k2 => ?_) (fun x x1 x2 b b1 b2 b3 => (fr b x (w5 b x b1 b2 b3.1 x1 x2)).1) hk h2 h3
  have g : ∀ b, (955 ≤ b ∧ b ≤ 962) ∨ b = 1003 → r'.1 b k = r.1 b k ∧ r'.2.1 b k = r.2.1 b k := fun b y => ⟨(fr b k (fun w => (w2 b k w).1 ⟨y, k2⟩)).1, (fr b k (fun w => (w2 b k w).1 ⟨y, k2⟩)).2.1⟩
  exact ⟨(g 955 (by decide)).1, (g 956 (by decide)).1, (g 962 (by decide)).1, (g 1003 (by decide)).1, (g 957 (by decide)).2, (g 958 (by decide)).2, fun _ => (g 961 (by decide)).1⟩
def ow_Wc (k v0 v1 v2 t e p l b j : Nat) : Prop := xWc t e p l 0 0 b j ∨ ((b = 429 ∨ b = 431 ∨ b = 433) ∧ j = k) ∨ (b = 430 ∧ j = 6 * k + v0 ∧ v0 < 6) ∨ (b = 432 ∧ j = 4 * k + v1 ∧ v1 < 4) ∨ (434 ≤ b ∧ b ≤ 436 ∧ j = 8 * k + v2 ∧ v2 < 8)
def ow_Wr (k v0 v1 v2 m s b j : Nat) : Prop := xWr m s b j ∨ (b = 950 ∧ (j = 33 ∨ j = 34 ∨ j = 86 ∨ j = 87)) ∨ ((b = 972 ∨ b = 974 ∨ b = 979) ∧ j = k) ∨ (b = 971 ∧ j = 6 * k + v0 ∧ v0 < 6) ∨ (b = 973 ∧ j = 4 * k + v1 ∧ v1 < 4) ∨ (975 ≤ b ∧ b ≤ 978 ∧ j = 8 * k + v2 ∧ v2 < 8)
theorem ow_mo {k v0 v1 v2 t e p l : Nat} {c c' : t_S} (h : l2_fr (ow_Wc k v0 v1 v2 t e p l) c c') : l2_fr mo_Wc c c' := h.mono (fun b j y => by
  rcases y with y | y | y | y | y
  · unfold xWc at y
    unfold mo_Wc
    omega
  all_goals (unfold mo_Wc; omega))
theorem ow_mr {k v0 v1 v2 m s : Nat} {r r' : t_S} (h : l2_fr (ow_Wr k v0 v1 v2 m s) r r') : l2_fr mo_Wr r r' := h.mono (fun b j y => by
  rcases y with y | y | y | y | y | y
  · unfold xWr at y
    unfold mo_Wr
    omega
  all_goals (unfold mo_Wr; omega))
/-- one of a component's own, read well -/
def ow_G (P : pc_S) (nt : Nat → Nat) (k v0 v1 v2 u q m a g t e p l s i st : Nat) (c r c' r' : t_S) : Prop := ∃ u' q' m' t' e' p' l' s' i' w0 w1 w2 : Nat, ∃ A' B' D' : Nat → Nat, (u < u' ∧ q ≤ q' ∧ m ≤ m' ∧ t ≤ t' ∧ e ≤ e' ∧ p ≤ p' ∧ l ≤ l' ∧ s ≤ s' ∧ i ≤ i') ∧ mp P nt u' q' m' a g t' e' p' l' s' i' st (-1) (nI k) (-1) c' r' ∧ cw_R c' r' k w0 w1 w2 A' B' D' ∧ (v0 ≤ w0 ∧ v1 ≤ w1 ∧ v2 ≤ w2 ∧ w2 ≤ v2 + 1 ∧ w0 + w1 + w2 = v0 + v1 + v2 + 1) ∧ l2_fr (ow_Wc k v0 v1 v2 t e p l) c c' ∧ l2_fr (ow_Wr k v0 v1 v2 m s) r r' ∧ mB False (k + 1) (nt 3) c c' r' l l' i i' m m' st st ∧ (w2 = v2 ∨ kv_R c' r' k v2 t' e' p' l' s' m')
def ow_O (P : pc_S) (nt : Nat → Nat) (k v0 v1 v2 u q m a g t e p l s i st : Nat) (c r c' r' : t_S) : Prop := l2_fr mo_Wc c c' ∧ l2_fr mo_Wr r r' ∧ (ow_G P nt k v0 v1 v2 u q m a g t e p l s i st c r c' r' ∨ ∃ f p0, lc_F c' f p0 ∧ pr P f p0 r')
section
variable {P : pc_S} {nt : Nat → Nat} {u q m a g t e p l s i st f p0 k v0 v1 v2 : Nat} {A B D : Nat → Nat} {c0 r0 c r : t_S}
theorem zF.ow321 {ca : Nat} (h : zF f p0 c0 c) (hca : ca = 429 ∨ ca = 431 ∨ ca = 433) (hk : k < 8) (h13 : c.1 845 13 = nI k) : t_hk (k_X6_readOwn_321 ca c) (fun c' => lc_F c' f p0 ∧ l2_fr mo_Wc c0 c') := by
  unfold k_X6_readOwn_321
  rw [h.need (by decide), l2_bs, h13]
  have hl : t_oka ca 1 (t_ln ca) = true ∧ t_ln ca = 8 := by
    rcases hca with rfl | rfl | rfl <;> exact ⟨rfl, rfl⟩
  refine l2_ck hl.1 ?_
  rw [hl.2]
  refine l2_ck (l2_ix hk (by decide)) (l2_lt (l2_sm ?_))
  have h2 : zF f p0 c0 (t_setI c ca (nI k).toNatClampNeg (c.1 ca (nI k).toNatClampNeg + 1)) := h.set (by unfold mo_Wc; omega) (by omega)
  exact ⟨h2.1.1, h2.2⟩
theorem yR.ow223 (h : yR P f p0 r0 r) : t_hk (k_X13_own_223 r) (yR P f p0 r0) := by
  unfold k_X13_own_223
  exact l2_bd _ (h.mustBe _) (fun r2 h2 => l2_sm h2)
/-- a port -/
theorem ow_port {X : Nat} {r3 : t_S} (M : mp P nt u q m a g t e p l s i st (-1) (nI k) (-1) c r) (hc : cw_R c r k v0 v1 v2 A B D) (hk : k < 8) (hX : X < 7934) (hv : v0 < 6) (n3 : l2_fr nm_W r r3) (J : pj P u 1 0 q m c r3) (h8 : c.1 1 8 = 1) (wd : f_X2_word c = nI (66 + X)) : t_h2 (k_X6_readOwn_227 207 429 (nI 6) 430 c) (k_X13_own_134 (nI k) (nI 7) (nI X) r3) (ow_O P nt k v0 v1 v2 u q m a g t e p l s i st c r) := by
  have M0 := M
  have hc0 := hc
  obtain ⟨J0, N, ⟨k1, k2, k3, k4, k5, k6, k7⟩, ⟨x1, x2, x3, x4, x5, x6, x7⟩, ⟨s1, s2, s3⟩, ⟨b1, b2, b3, b4, b5, b6, b7, b8, b9⟩⟩ := M
  obtain ⟨h0, h1, h2, h3, h4, h5, h6⟩ := hc
  have e1 : c.1 429 k = nI v0 := h1.1
  have e2 : r3.1 972 k = nI v0 := by rw [(n3 972 k (by unfold nm_W; omega)).1]; exact h1.2
  unfold k_X6_readOwn_227 k_X13_own_134
  rw [if_pos J.f0.1, if_pos J.f0.2, x4, nI_clamp (n := k) (by omega), e1, show nI k * nI 6 = nI (6 * k) from (pk_mul k 6).trans (by rw [Nat.mul_comm]), nI_add, nI_clamp (n := 6 * k + v0) (by omega)]
  refine h2_ckL rfl (h2_ckL (l2_ix hk (by decide)) (h2_ckL rfl (h2_ckL (l2_ix (show 6 * k + v0 < 48 by omega) (by decide)) (h2_lL ?_))))
  rw [wd]
  have f1 : l2_fr (fun b j => b = 430 ∧ j = 6 * k + v0) c (t_setI c 430 (6 * k + v0) (nI (66 + X))) := l2_fr.set ⟨rfl, rfl⟩
  have v1' : (t_setI c 430 (6 * k + v0) (nI (66 + X))).1 430 (6 * k + v0) = nI (66 + X) := by simp only [l2_gI, reduceIte]
  generalize t_setI c 430 (6 * k + v0) (nI (66 + X)) = c1 at *
  have J1 : pj P u 1 0 q m c1 r3 := J.fr f1 (l2_fr.rf (W := fun _ _ => False)) (fun j => by omega) (fun b i _ _ => by omega) (fun b i _ _ => by omega) (by omega) (fun j _ y => y) (fun b i _ _ y => y)
  refine h2_bb _ (pj_adv J1 (by decide) (Or.inl rfl) (by rw [(f1 1 8 (by omega)).1, h8]; decide)) (fun c2 r4 hw => ?_)
  obtain ⟨y1, y2, y3⟩ := hw
  refine h2_noL (by decide) ?_
  refine h2_ckR rfl ?_
  rw [(y2 972 k (by unfold rn_W; omega)).1, e2, show (6 : Int32) * nI k = nI (6 * k) from pk_mul 6 k, nI_add, nI_clamp (n := 6 * k + v0) (by omega)]
  refine h2_ckR (l2_ix hk (by decide)) (h2_ckR (l2_ix (show 6 * k + v0 < 48 by omega) (by decide)) (h2_lR (h2_lR ?_)))
  have e3 : (t_setI r4 971 (6 * k + v0) (nI X)).1 972 k + 1 = nI (v0 + 1) := by
    simp only [l2_gI, Nat.reduceEqDiff, reduceIte]
    rw [(y2 972 k (by unfold rn_W; omega)).1, e2, nI_succ]
  rw [e3]
  have f2 : l2_fr (fun b j => (b = 971 ∧ j = 6 * k + v0) ∨ (b = 972 ∧ j = k)) r4 (t_setI (t_setI r4 971 (6 * k + v0) (nI X)) 972 k (nI (v0 + 1))) := (l2_fr.set (Or.inl ⟨rfl, rfl⟩)).trans (l2_fr.set (Or.inr ⟨rfl, rfl⟩))
  have v2' : (t_setI (t_setI r4 971 (6 * k + v0) (nI X)) 972 k (nI (v0 + 1))).1 971 (6 * k + v0) = nI X := by simp only [l2_gI, Nat.reduceEqDiff, reduceIte]
  have v3' : (t_setI (t_setI r4 971 (6 * k + v0) (nI X)) 972 k (nI (v0 + 1))).1 972 k = nI (v0 + 1) := by simp only [l2_gI, reduceIte]
  generalize t_setI (t_setI r4 971 (6 * k + v0) (nI X)) 972 k (nI (v0 + 1)) = r5 at *
  have C2 : l2_fr (ow_Wc k v0 v1 v2 t e p l) c c2 := (f1.mono (V := ow_Wc k v0 v1 v2 t e p l) (fun b j y => Or.inr (Or.inr (Or.inl ⟨y.1, y.2, hv⟩)))).trans (y1.mono (V := ow_Wc k v0 v1 v2 t e p l) (fun b j y => Or.inl (x_la y)))
  have R5 : l2_fr (ow_Wr k v0 v1 v2 m s) r r5 := ((n3.mono (V := ow_Wr k v0 v1 v2 m s) (fun b j y => Or.inl (x_nm y))).trans (y2.mono (V := ow_Wr k v0 v1 v2 m s) (fun b j y => Or.inl (x_rn y)))).trans (f2.mono (V := ow_Wr k v0 v1 v2 m s) (fun b j y => by rcases y with y | y; exact Or.inr (Or.inr (Or.inr (Or.inl ⟨y.1, y.2, hv⟩))); exact Or.inr (Or.inr (Or.inl ⟨by omega, y.2⟩))))
  have c13 : c2.1 845 13 = nI k := by rw [(y1 845 13 (by unfold la_W; omega)).1, (f1 845 13 (by omega)).1]; exact x4
  have cc : c2.1 429 k = nI v0 := by rw [(y1 429 k (by unfold la_W; omega)).1, (f1 429 k (by omega)).1]; exact e1
  rcases y3 with J2 | ⟨f, p0, y3, y4⟩
  rotate_left
  · have m2 : mF f p0 c2 := M0.mF y3 (by rw [(y1 334 2 (by unfold la_W; omega)).1, (f1 334 2 (by omega)).1]) (by rw [(y1 845 9 (by unfold la_W; omega)).1, (f1 845 9 (by omega)).1]) (by rw [(y1 845 7 (by unfold la_W; omega)).1, (f1 845 7 (by omega)).1])
    have w5 : pr P f p0 r5 := y4.fr f2 (fun j _ => by omega) (fun b i _ _ => by omega)
    exact h2_sep _ _ ((m2.z.at (ow_mo C2)).ow321 (by decide) hk c13) ((w5.y.at (ow_mr R5)).ow223) (fun x y hx hy => ⟨hx.2, hy.2, Or.inr ⟨f, p0, hx.1, hy.1⟩⟩)
  have J3 : pj P (u + 1) 0 0 q m c2 r5 := J2.fr (l2_fr.rf (W := fun _ _ => False)) f2 (fun j y => y) (fun b i _ _ y => y) (fun b i _ _ y => y) (fun y => y) (fun j _ => by omega) (fun b i _ _ => by omega)
  unfold k_X6_readOwn_321 k_X13_own_223
  refine h2_bb _ (pj_need J3 (by decide) (x := 59) (by decide) rfl) (fun c3 r6 hw => ?_)
  obtain ⟨z1, z2, z3⟩ := hw
  have d13 : c3.1 845 13 = nI k := by rw [(z1 845 13 (by unfold la_W; omega)).1]; exact c13
  have dc : c3.1 429 k = nI v0 := by rw [(z1 429 k (by unfold la_W; omega)).1]; exact cc
  rw [d13, nI_clamp (n := k) (by omega), dc, nI_1]
  refine h2_ckL rfl (h2_ckL (l2_ix hk (by decide)) (h2_lL (h2_sm ?_)))
  have f3 : l2_fr (fun b j => b = 429 ∧ j = k) c3 (t_setI c3 429 k (nI (v0 + 1))) := l2_fr.set ⟨rfl, rfl⟩
  have v4' : (t_setI c3 429 k (nI (v0 + 1))).1 429 k = nI (v0 + 1) := by simp only [l2_gI, reduceIte]
  generalize t_setI c3 429 k (nI (v0 + 1)) = c4 at *
  have C4 : l2_fr (ow_Wc k v0 v1 v2 t e p l) c c4 := (C2.trans (z1.mono (V := ow_Wc k v0 v1 v2 t e p l) (fun b j y => Or.inl (x_la y)))).trans (f3.mono (V := ow_Wc k v0 v1 v2 t e p l) (fun b j y => Or.inr (Or.inl ⟨by omega, y.2⟩)))
  have R6 : l2_fr (ow_Wr k v0 v1 v2 m s) r r6 := R5.trans (z2.mono (V := ow_Wr k v0 v1 v2 m s) (fun b j y => Or.inl (x_rn y)))
  refine ⟨ow_mo C4, ow_mr R6, ?_⟩
  rcases z3 with J4 | ⟨f, p0, z3, z4⟩
  rotate_left
  · exact Or.inr ⟨f, p0, z3.fr f3 (fun j _ _ => by omega), z4⟩
  have J5 : pj P (u + 1 + 1) 0 0 q m c4 r6 := J4.fr f3 (l2_fr.rf (W := fun _ _ => False)) (fun j => by omega) (fun b i _ _ => by omega) (fun b i _ _ => by omega) (by omega) (fun j _ y => y) (fun b i _ _ y => y)
  have CC : l2_fr (fun b j => la_W b j ∨ (b = 430 ∧ j = 6 * k + v0) ∨ (b = 429 ∧ j = k)) c c4 := (((f1.mono (fun b j y => Or.inr (Or.inl y))).trans (y1.mono (fun b j y => Or.inl y))).trans (z1.mono (fun b j y => Or.inl y))).trans (f3.mono (fun b j y => Or.inr (Or.inr y)))
  have RR : l2_fr (fun b j => nk_W b j ∨ (b = 971 ∧ j = 6 * k + v0) ∨ (b = 972 ∧ j = k)) r r6 := (((n3.mono (fun b j y => Or.inl (Or.inr y))).trans (y2.mono (fun b j y => Or.inl (Or.inl y)))).trans (f2.mono (fun b j y => Or.inr y))).trans (z2.mono (fun b j y => Or.inl (Or.inl y)))
  refine Or.inl ⟨u + 1 + 1, q, m, t, e, p, l, s, i, (v0 + 1), v1, v2, (va_up A v0 X), B, D, ⟨by omega, Nat.le_refl _, Nat.le_refl _, Nat.le_refl _, Nat.le_refl _, Nat.le_refl _, Nat.le_refl _, Nat.le_refl _, Nat.le_refl _⟩, M0.go (by omega) (Nat.le_refl _) J5 CC RR (fun b j y => by unfold la_W; omega) (fun b j y => by unfold nk_W rn_W nm_W; omega), ?_, ⟨by omega, by omega, by omega, by omega, by omega⟩, C4, R6, mB.nil (CC 846 7 (by unfold la_W; omega)).1 (CC 846 8 (by unfold la_W; omega)).1 (fun j => (CC 7 j (by unfold la_W; omega)).1) l i m st, Or.inl rfl⟩
  have ca' : ∀ b j, 429 ≤ b → b ≤ 436 → ¬ (b = 430 ∧ j = 6 * k + v0) → ¬ (b = 429 ∧ j = k) → c4.1 b j = c.1 b j := fun b j y1 y2 y3 y4 => (CC b j (by unfold la_W; omega)).1
  have ra' : ∀ b j, 971 ≤ b → b ≤ 979 → ¬ (b = 971 ∧ j = 6 * k + v0) → ¬ (b = 972 ∧ j = k) → r6.1 b j = r.1 b j := fun b j y1 y2 y3 y4 => (RR b j (by unfold nk_W rn_W nm_W; omega)).1
  have same : ∀ {a b base n : Nat} {L : Nat → Nat}, rw_L c r a b base n L → 429 ≤ a ∧ a ≤ 436 → 971 ≤ b ∧ b ≤ 979 → (a = 430 → base = 6 * k ∧ n = v0) → a ≠ 429 → (b = 971 → base = 6 * k ∧ n = v0) → b ≠ 972 → rw_L c4 r6 a b base n L := fun h q1 q2 q3 q4 q5 q6 i hi => ⟨(h i hi).1, by rw [ca' _ _ q1.1 q1.2 (by omega) (by omega)]; exact (h i hi).2.1, by rw [ra' _ _ q2.1 q2.2 (by omega) (by omega)]; exact (h i hi).2.2⟩
  refine ⟨by omega, ?_, ?_, ?_, ?_, ?_, ?_⟩
  · exact ⟨v4', by rw [(z2 972 k (by unfold rn_W; omega)).1]; exact v3'⟩
  · exact ⟨by rw [ca' _ _ (by decide) (by decide) (by omega) (by omega)]; exact h2.1, by rw [ra' _ _ (by decide) (by decide) (by omega) (by omega)]; exact h2.2⟩
  · exact ⟨by rw [ca' _ _ (by decide) (by decide) (by omega) (by omega)]; exact h3.1, by rw [ra' _ _ (by decide) (by decide) (by omega) (by omega)]; exact h3.2⟩
  · exact (same h4 (by decide) (by decide) (fun _ => ⟨rfl, rfl⟩) (by decide) (fun _ => ⟨rfl, rfl⟩) (by decide)).add hX (by rw [(f3 _ _ (by omega)).1, (z1 _ _ (by unfold la_W; omega)).1, (y1 _ _ (by unfold la_W; omega)).1]; exact v1') (by rw [(z2 _ _ (by unfold rn_W; omega)).1]; exact v2')
  · exact same h5 (by decide) (by decide) (fun y => absurd y (by decide)) (by decide) (fun y => absurd y (by decide)) (by decide)
  · exact same h6 (by decide) (by decide) (fun y => absurd y (by decide)) (by decide) (fun y => absurd y (by decide)) (by decide)
/-- a timer -/
theorem ow_timer {X : Nat} {r3 : t_S} (M : mp P nt u q m a g t e p l s i st (-1) (nI k) (-1) c r) (hc : cw_R c r k v0 v1 v2 A B D) (hk : k < 8) (hX : X < 7934) (hv : v1 < 4) (n3 : l2_fr nm_W r r3) (J : pj P u 1 0 q m c r3) (h8 : c.1 1 8 = 1) (wd : f_X2_word c = nI (66 + X)) : t_h2 (k_X6_readOwn_227 208 431 (nI 4) 432 c) (k_X13_own_134 (nI k) (nI 8) (nI X) r3) (ow_O P nt k v0 v1 v2 u q m a g t e p l s i st c r) := by
  have M0 := M
  have hc0 := hc
  obtain ⟨J0, N, ⟨k1, k2, k3, k4, k5, k6, k7⟩, ⟨x1, x2, x3, x4, x5, x6, x7⟩, ⟨s1, s2, s3⟩, ⟨b1, b2, b3, b4, b5, b6, b7, b8, b9⟩⟩ := M
  obtain ⟨h0, h1, h2, h3, h4, h5, h6⟩ := hc
  have e1 : c.1 431 k = nI v1 := h2.1
  have e2 : r3.1 974 k = nI v1 := by rw [(n3 974 k (by unfold nm_W; omega)).1]; exact h2.2
  unfold k_X6_readOwn_227 k_X13_own_134
  rw [if_pos J.f0.1, if_pos J.f0.2, x4, nI_clamp (n := k) (by omega), e1, show nI k * nI 4 = nI (4 * k) from (pk_mul k 4).trans (by rw [Nat.mul_comm]), nI_add, nI_clamp (n := 4 * k + v1) (by omega)]
  refine h2_ckL rfl (h2_ckL (l2_ix hk (by decide)) (h2_ckL rfl (h2_ckL (l2_ix (show 4 * k + v1 < 32 by omega) (by decide)) (h2_lL ?_))))
  rw [wd]
  have f1 : l2_fr (fun b j => b = 432 ∧ j = 4 * k + v1) c (t_setI c 432 (4 * k + v1) (nI (66 + X))) := l2_fr.set ⟨rfl, rfl⟩
  have v1' : (t_setI c 432 (4 * k + v1) (nI (66 + X))).1 432 (4 * k + v1) = nI (66 + X) := by simp only [l2_gI, reduceIte]
  generalize t_setI c 432 (4 * k + v1) (nI (66 + X)) = c1 at *
  have J1 : pj P u 1 0 q m c1 r3 := J.fr f1 (l2_fr.rf (W := fun _ _ => False)) (fun j => by omega) (fun b i _ _ => by omega) (fun b i _ _ => by omega) (by omega) (fun j _ y => y) (fun b i _ _ y => y)
  refine h2_bb _ (pj_adv J1 (by decide) (Or.inl rfl) (by rw [(f1 1 8 (by omega)).1, h8]; decide)) (fun c2 r4 hw => ?_)
  obtain ⟨y1, y2, y3⟩ := hw
  refine h2_noL (by decide) ?_
  refine h2_noR (by decide) (h2_ckR rfl ?_)
  rw [(y2 974 k (by unfold rn_W; omega)).1, e2, show (4 : Int32) * nI k = nI (4 * k) from pk_mul 4 k, nI_add, nI_clamp (n := 4 * k + v1) (by omega)]
  refine h2_ckR (l2_ix hk (by decide)) (h2_ckR (l2_ix (show 4 * k + v1 < 32 by omega) (by decide)) (h2_lR (h2_lR ?_)))
  have e3 : (t_setI r4 973 (4 * k + v1) (nI X)).1 974 k + 1 = nI (v1 + 1) := by
    simp only [l2_gI, Nat.reduceEqDiff, reduceIte]
    rw [(y2 974 k (by unfold rn_W; omega)).1, e2, nI_succ]
  rw [e3]
  have f2 : l2_fr (fun b j => (b = 973 ∧ j = 4 * k + v1) ∨ (b = 974 ∧ j = k)) r4 (t_setI (t_setI r4 973 (4 * k + v1) (nI X)) 974 k (nI (v1 + 1))) := (l2_fr.set (Or.inl ⟨rfl, rfl⟩)).trans (l2_fr.set (Or.inr ⟨rfl, rfl⟩))
  have v2' : (t_setI (t_setI r4 973 (4 * k + v1) (nI X)) 974 k (nI (v1 + 1))).1 973 (4 * k + v1) = nI X := by simp only [l2_gI, Nat.reduceEqDiff, reduceIte]
  have v3' : (t_setI (t_setI r4 973 (4 * k + v1) (nI X)) 974 k (nI (v1 + 1))).1 974 k = nI (v1 + 1) := by simp only [l2_gI, reduceIte]
  generalize t_setI (t_setI r4 973 (4 * k + v1) (nI X)) 974 k (nI (v1 + 1)) = r5 at *
  have C2 : l2_fr (ow_Wc k v0 v1 v2 t e p l) c c2 := (f1.mono (V := ow_Wc k v0 v1 v2 t e p l) (fun b j y => Or.inr (Or.inr (Or.inr (Or.inl ⟨y.1, y.2, hv⟩))))).trans (y1.mono (V := ow_Wc k v0 v1 v2 t e p l) (fun b j y => Or.inl (x_la y)))
  have R5 : l2_fr (ow_Wr k v0 v1 v2 m s) r r5 := ((n3.mono (V := ow_Wr k v0 v1 v2 m s) (fun b j y => Or.inl (x_nm y))).trans (y2.mono (V := ow_Wr k v0 v1 v2 m s) (fun b j y => Or.inl (x_rn y)))).trans (f2.mono (V := ow_Wr k v0 v1 v2 m s) (fun b j y => by rcases y with y | y; exact Or.inr (Or.inr (Or.inr (Or.inr (Or.inl ⟨y.1, y.2, hv⟩)))); exact Or.inr (Or.inr (Or.inl ⟨by omega, y.2⟩))))
  have c13 : c2.1 845 13 = nI k := by rw [(y1 845 13 (by unfold la_W; omega)).1, (f1 845 13 (by omega)).1]; exact x4
  have cc : c2.1 431 k = nI v1 := by rw [(y1 431 k (by unfold la_W; omega)).1, (f1 431 k (by omega)).1]; exact e1
  rcases y3 with J2 | ⟨f, p0, y3, y4⟩
  rotate_left
  · have m2 : mF f p0 c2 := M0.mF y3 (by rw [(y1 334 2 (by unfold la_W; omega)).1, (f1 334 2 (by omega)).1]) (by rw [(y1 845 9 (by unfold la_W; omega)).1, (f1 845 9 (by omega)).1]) (by rw [(y1 845 7 (by unfold la_W; omega)).1, (f1 845 7 (by omega)).1])
    have w5 : pr P f p0 r5 := y4.fr f2 (fun j _ => by omega) (fun b i _ _ => by omega)
    exact h2_sep _ _ ((m2.z.at (ow_mo C2)).ow321 (by decide) hk c13) ((w5.y.at (ow_mr R5)).ow223) (fun x y hx hy => ⟨hx.2, hy.2, Or.inr ⟨f, p0, hx.1, hy.1⟩⟩)
  have J3 : pj P (u + 1) 0 0 q m c2 r5 := J2.fr (l2_fr.rf (W := fun _ _ => False)) f2 (fun j y => y) (fun b i _ _ y => y) (fun b i _ _ y => y) (fun y => y) (fun j _ => by omega) (fun b i _ _ => by omega)
  unfold k_X6_readOwn_321 k_X13_own_223
  refine h2_bb _ (pj_need J3 (by decide) (x := 59) (by decide) rfl) (fun c3 r6 hw => ?_)
  obtain ⟨z1, z2, z3⟩ := hw
  have d13 : c3.1 845 13 = nI k := by rw [(z1 845 13 (by unfold la_W; omega)).1]; exact c13
  have dc : c3.1 431 k = nI v1 := by rw [(z1 431 k (by unfold la_W; omega)).1]; exact cc
  rw [d13, nI_clamp (n := k) (by omega), dc, nI_1]
  refine h2_ckL rfl (h2_ckL (l2_ix hk (by decide)) (h2_lL (h2_sm ?_)))
  have f3 : l2_fr (fun b j => b = 431 ∧ j = k) c3 (t_setI c3 431 k (nI (v1 + 1))) := l2_fr.set ⟨rfl, rfl⟩
  have v4' : (t_setI c3 431 k (nI (v1 + 1))).1 431 k = nI (v1 + 1) := by simp only [l2_gI, reduceIte]
  generalize t_setI c3 431 k (nI (v1 + 1)) = c4 at *
  have C4 : l2_fr (ow_Wc k v0 v1 v2 t e p l) c c4 := (C2.trans (z1.mono (V := ow_Wc k v0 v1 v2 t e p l) (fun b j y => Or.inl (x_la y)))).trans (f3.mono (V := ow_Wc k v0 v1 v2 t e p l) (fun b j y => Or.inr (Or.inl ⟨by omega, y.2⟩)))
  have R6 : l2_fr (ow_Wr k v0 v1 v2 m s) r r6 := R5.trans (z2.mono (V := ow_Wr k v0 v1 v2 m s) (fun b j y => Or.inl (x_rn y)))
  refine ⟨ow_mo C4, ow_mr R6, ?_⟩
  rcases z3 with J4 | ⟨f, p0, z3, z4⟩
  rotate_left
  · exact Or.inr ⟨f, p0, z3.fr f3 (fun j _ _ => by omega), z4⟩
  have J5 : pj P (u + 1 + 1) 0 0 q m c4 r6 := J4.fr f3 (l2_fr.rf (W := fun _ _ => False)) (fun j => by omega) (fun b i _ _ => by omega) (fun b i _ _ => by omega) (by omega) (fun j _ y => y) (fun b i _ _ y => y)
  have CC : l2_fr (fun b j => la_W b j ∨ (b = 432 ∧ j = 4 * k + v1) ∨ (b = 431 ∧ j = k)) c c4 := (((f1.mono (fun b j y => Or.inr (Or.inl y))).trans (y1.mono (fun b j y => Or.inl y))).trans (z1.mono (fun b j y => Or.inl y))).trans (f3.mono (fun b j y => Or.inr (Or.inr y)))
  have RR : l2_fr (fun b j => nk_W b j ∨ (b = 973 ∧ j = 4 * k + v1) ∨ (b = 974 ∧ j = k)) r r6 := (((n3.mono (fun b j y => Or.inl (Or.inr y))).trans (y2.mono (fun b j y => Or.inl (Or.inl y)))).trans (f2.mono (fun b j y => Or.inr y))).trans (z2.mono (fun b j y => Or.inl (Or.inl y)))
  refine Or.inl ⟨u + 1 + 1, q, m, t, e, p, l, s, i, v0, (v1 + 1), v2, A, (va_up B v1 X), D, ⟨by omega, Nat.le_refl _, Nat.le_refl _, Nat.le_refl _, Nat.le_refl _, Nat.le_refl _, Nat.le_refl _, Nat.le_refl _, Nat.le_refl _⟩, M0.go (by omega) (Nat.le_refl _) J5 CC RR (fun b j y => by unfold la_W; omega) (fun b j y => by unfold nk_W rn_W nm_W; omega), ?_, ⟨by omega, by omega, by omega, by omega, by omega⟩, C4, R6, mB.nil (CC 846 7 (by unfold la_W; omega)).1 (CC 846 8 (by unfold la_W; omega)).1 (fun j => (CC 7 j (by unfold la_W; omega)).1) l i m st, Or.inl rfl⟩
  have ca' : ∀ b j, 429 ≤ b → b ≤ 436 → ¬ (b = 432 ∧ j = 4 * k + v1) → ¬ (b = 431 ∧ j = k) → c4.1 b j = c.1 b j := fun b j y1 y2 y3 y4 => (CC b j (by unfold la_W; omega)).1
  have ra' : ∀ b j, 971 ≤ b → b ≤ 979 → ¬ (b = 973 ∧ j = 4 * k + v1) → ¬ (b = 974 ∧ j = k) → r6.1 b j = r.1 b j := fun b j y1 y2 y3 y4 => (RR b j (by unfold nk_W rn_W nm_W; omega)).1
  have same : ∀ {a b base n : Nat} {L : Nat → Nat}, rw_L c r a b base n L → 429 ≤ a ∧ a ≤ 436 → 971 ≤ b ∧ b ≤ 979 → (a = 432 → base = 4 * k ∧ n = v1) → a ≠ 431 → (b = 973 → base = 4 * k ∧ n = v1) → b ≠ 974 → rw_L c4 r6 a b base n L := fun h q1 q2 q3 q4 q5 q6 i hi => ⟨(h i hi).1, by rw [ca' _ _ q1.1 q1.2 (by omega) (by omega)]; exact (h i hi).2.1, by rw [ra' _ _ q2.1 q2.2 (by omega) (by omega)]; exact (h i hi).2.2⟩
  refine ⟨by omega, ?_, ?_, ?_, ?_, ?_, ?_⟩
  · exact ⟨by rw [ca' _ _ (by decide) (by decide) (by omega) (by omega)]; exact h1.1, by rw [ra' _ _ (by decide) (by decide) (by omega) (by omega)]; exact h1.2⟩
  · exact ⟨v4', by rw [(z2 974 k (by unfold rn_W; omega)).1]; exact v3'⟩
  · exact ⟨by rw [ca' _ _ (by decide) (by decide) (by omega) (by omega)]; exact h3.1, by rw [ra' _ _ (by decide) (by decide) (by omega) (by omega)]; exact h3.2⟩
  · exact same h4 (by decide) (by decide) (fun y => absurd y (by decide)) (by decide) (fun y => absurd y (by decide)) (by decide)
  · exact (same h5 (by decide) (by decide) (fun _ => ⟨rfl, rfl⟩) (by decide) (fun _ => ⟨rfl, rfl⟩) (by decide)).add hX (by rw [(f3 _ _ (by omega)).1, (z1 _ _ (by unfold la_W; omega)).1, (y1 _ _ (by unfold la_W; omega)).1]; exact v1') (by rw [(z2 _ _ (by unfold rn_W; omega)).1]; exact v2')
  · exact same h6 (by decide) (by decide) (fun y => absurd y (by decide)) (by decide) (fun y => absurd y (by decide)) (by decide)
end
