/-! Level 2: the state while exps and templs are read; steps behind a fault. -/
/-- the class behind a fault: what it has written since c0; w' wait -/
def xF (f p0 t e p l w o w' : Nat) (c0 c : t_S) : Prop := lc_F c f p0 ∧ l2_fr (xWc t e p l w o) c0 c ∧ (∃ e', e ≤ e' ∧ e' ≤ 16000 ∧ c.1 334 2 = nI e') ∧ (∃ o', o ≤ o' ∧ o' ≤ 288 ∧ c.1 845 9 = nI o') ∧ c.1 845 7 = nI w' ∧ w ≤ w' ∧ w' ≤ 3001 ∧ ∀ i, w ≤ i → i < w' → c.1 854 (2 * i) = 16 ∨ c.1 854 (2 * i) = 17 → ∃ j, e ≤ j ∧ j < 16000 ∧ c.1 854 (2 * i + 1) = nI j
/-- the reference behind a fault -/
def xR (P : pc_S) (f p0 m s : Nat) (r0 r : t_S) : Prop := pr P f p0 r ∧ l2_fr (xWr m s) r0 r ∧ ∃ m', m ≤ m' ∧ m' ≤ 13000 ∧ r.1 950 24 = nI m'
def xf (P : pc_S) (t e p l w o w' m s : Nat) (c0 r0 c r : t_S) : Prop := ∃ f p0, xF f p0 t e p l w o w' c0 c ∧ xR P f p0 m s r0 r
theorem xF.fr {f p0 t e p l w o w' : Nat} {c0 c c' : t_S} {W : Nat → Nat → Prop} (h : xF f p0 t e p l w o w' c0 c) (g : l2_fr W c c') (w0 : ∀ b j, W b j → xWc t e p l w o b j) (w1 : ∀ j, 7 ≤ j → j ≤ 12 → ¬ W 1 j) (w2 : ¬ W 334 2) (w3 : ¬ W 845 9 ∧ ¬ W 845 7) (w4 : ∀ j, ¬ W 854 j) : xF f p0 t e p l w o w' c0 c' := by
  obtain ⟨h1, h2, ⟨e', h3, h4, h5⟩, ⟨o', h6, h7, h8⟩, h9, h10, h11, h12⟩ := h
  refine ⟨h1.fr g (fun j a b => w1 j (by omega) b), h2.trans (g.mono w0), ⟨e', h3, h4, by rw [(g 334 2 w2).1]; exact h5⟩, ⟨o', h6, h7, by rw [(g 845 9 w3.1).1]; exact h8⟩, by rw [(g 845 7 w3.2).1]; exact h9, h10, h11, fun i a b d => ?_⟩
  rw [(g 854 _ (w4 _)).1] at d ⊢
  exact h12 i a b d
theorem xF.c {f p0 t e p l w o w' : Nat} {c0 c : t_S} (h : xF f p0 t e p l w o w' c0 c) : lc_F c f p0 := h.1
theorem xF.stay {f p0 t e p l w o w' : Nat} {c0 c : t_S} (h : xF f p0 t e p l w o w' c0 c) : f_X2_advance c = some c ∧ (∀ x, f_X2_fail x c = some c) ∧ (∀ x : Int32, x ≠ 5 → f_X2_need x c = some c ∧ f_X2_take x c = some (0, c)) ∧ c.1 1 8 = 5 ∧ c.1 1 11 ≠ 0 := ⟨(lc_stay h.1).1, fun x => by rw [(lc_stay h.1).2], fun x hx => h.1.need hx, h.1.2.2.2.2, h.1.ne⟩
/-- a template's cell, from t on -/
theorem xF.set {f p0 t e p l w o w' b j : Nat} {v : Int32} {c0 c : t_S} (h : xF f p0 t e p l w o w' c0 c) (hb : 354 ≤ b ∧ b ≤ 362) (hj : t ≤ j) : xF f p0 t e p l w o w' c0 (t_setI c b j v) := h.fr (W := fun x i => x = b ∧ i = j) (l2_fr.set ⟨rfl, rfl⟩) (fun x i y => by obtain ⟨rfl, rfl⟩ := y; exact xWc.itm hb.1 hb.2 hj) (fun j _ _ => by omega) (by omega) (by omega) (fun j => by omega)
theorem xF.setJ {f p0 t e p l w o w' b j : Nat} {v : Int64} {c0 c : t_S} (h : xF f p0 t e p l w o w' c0 c) (hb : 354 ≤ b ∧ b ≤ 362) (hj : t ≤ j) : xF f p0 t e p l w o w' c0 (t_setJ c b j v) := h.fr (W := fun x i => x = b ∧ i = j) (l2_fr.setJ ⟨rfl, rfl⟩) (fun x i y => by obtain ⟨rfl, rfl⟩ := y; exact xWc.itm hb.1 hb.2 hj) (fun j _ _ => by omega) (by omega) (by omega) (fun j => by omega)
theorem xF.emit {f p0 t e p l w o w' : Nat} {c0 c : t_S} (h : xF f p0 t e p l w o w' c0 c) (a b : Int32) : t_hk (f_X0_emit a b c) (fun y => xF f p0 t e p l w o w' c0 y.2 ∧ (∃ j, j < 16000 ∧ y.1 = nI j ∧ e ≤ j + 1) ∧ ∀ i, y.2.1 854 i = c.1 854 i) := by
  obtain ⟨h1, h2, ⟨e', h3, h4, h5⟩, ⟨o', h6, h7, h8⟩, h9, h10, h11, h12⟩ := h
  refine l2_imp (em_any a b h5 h4) (fun y hy => ?_)
  obtain ⟨g, ⟨e2, k1, k2, k3⟩, j, j1, j2, j3⟩ := hy
  refine ⟨⟨h1.fr g (fun j _ _ => by omega), h2.trans (g.mono (fun b i y => by
    rcases y with ⟨rfl, rfl⟩ | ⟨y, z⟩
    · exact xWc.i334 (Or.inl rfl)
    · exact xWc.iop y (by omega))), ⟨e2, by omega, k2, k3⟩, ⟨o', h6, h7, by rw [(g 845 9 (by omega)).1]; exact h8⟩, by rw [(g 845 7 (by omega)).1]; exact h9, h10, h11, fun i a b d => ?_⟩, ⟨j, j1, j3, by omega⟩, fun i => (g 854 i (by omega)).1⟩
  rw [(g 854 _ (by omega)).1] at d ⊢
  exact h12 i a b d
theorem xF.node {f p0 t e p l w o w' : Nat} {c0 c : t_S} (h : xF f p0 t e p l w o w' c0 c) : t_hk (f_X6_node c) (xF f p0 t e p l w o w' c0) := by
  unfold f_X6_node
  refine l2_if (fun _ => l2_lt (l2_sm ?_)) (fun _ => l2_eq (h.stay.2.1 _) (l2_sm h))
  exact h.fr (W := fun x i => x = 845 ∧ i = 10) (l2_fr.set ⟨rfl, rfl⟩) (fun x i y => by obtain ⟨rfl, rfl⟩ := y; exact xWc.i845 (Or.inr (Or.inr rfl))) (fun j _ _ => by omega) (by omega) (by omega) (fun j => by omega)
/-- .. at lower marks -/
theorem xF.sub {f p0 t e p l w o t2 e2 p2 l2 o2 w' : Nat} {c0 c1 c : t_S} (h : xF f p0 t2 e2 p2 l2 w o2 w' c1 c) (g : l2_fr (xWc t e p l w o) c0 c1) (h1 : t ≤ t2) (h2 : e ≤ e2) (h3 : p ≤ p2) (h4 : l ≤ l2) (h6 : o ≤ o2) : xF f p0 t e p l w o w' c0 c := by
  obtain ⟨a1, a2, ⟨e', a3, a4, a5⟩, ⟨o', a6, a7, a8⟩, a9, a10, a11, a12⟩ := h
  exact ⟨a1, g.trans (a2.mono (fun b j y => y.sub h1 h2 h3 h4 (Nat.le_refl _) h6)), ⟨e', by omega, a4, a5⟩, ⟨o', by omega, a7, a8⟩, a9, a10, a11, fun i b d q => by
    obtain ⟨j, j1, j2, j3⟩ := a12 i b d q
    exact ⟨j, by omega, j2, j3⟩⟩
theorem xR.sub {P : pc_S} {f p0 m s m2 s2 : Nat} {r0 r1 r : t_S} (h : xR P f p0 m2 s2 r1 r) (g : l2_fr (xWr m s) r0 r1) (h1 : m ≤ m2) (h2 : s ≤ s2) : xR P f p0 m s r0 r := by
  obtain ⟨a1, a2, m', a3, a4, a5⟩ := h
  exact ⟨a1, g.trans (a2.mono (fun b j y => y.sub h1 h2)), m', by omega, a4, a5⟩
theorem xR.fr {P : pc_S} {f p0 m s : Nat} {r0 r r' : t_S} {W : Nat → Nat → Prop} (h : xR P f p0 m s r0 r) (g : l2_fr W r r') (w0 : ∀ b j, W b j → xWr m s b j) (x1 : ∀ j, (1 ≤ j ∧ j ≤ 10) ∨ (14 ≤ j ∧ j ≤ 16) ∨ j = 24 → ¬ W 950 j) (x2 : ∀ b i, 951 ≤ b → b ≤ 954 → ¬ W b i) : xR P f p0 m s r0 r' := by
  obtain ⟨a1, a2, m', a3, a4, a5⟩ := h
  exact ⟨a1.fr g x1 x2, a2.trans (g.mono w0), m', a3, a4, by rw [(g 950 24 (x1 24 (by decide))).1]; exact a5⟩
theorem xR.ne {P : pc_S} {f p0 m s : Nat} {r0 r : t_S} (h : xR P f p0 m s r0 r) : r.1 950 2 ≠ 0 := h.1.ne
theorem xR.set {P : pc_S} {f p0 m s b j : Nat} {v : Int32} {r0 r : t_S} (h : xR P f p0 m s r0 r) (hb : (955 ≤ b ∧ b ≤ 962 ∧ m ≤ j) ∨ (b = 1003 ∧ m ≤ j) ∨ (b = 950 ∧ j = 32)) : xR P f p0 m s r0 (t_setI r b j v) := h.fr (W := fun x i => x = b ∧ i = j) (l2_fr.set ⟨rfl, rfl⟩) (fun x i y => by unfold xWr; omega) (fun j _ => by omega) (fun b i _ _ => by omega)
theorem xR.setJ {P : pc_S} {f p0 m s b j : Nat} {v : Int64} {r0 r : t_S} (h : xR P f p0 m s r0 r) (hb : 955 ≤ b ∧ b ≤ 962 ∧ m ≤ j) : xR P f p0 m s r0 (t_setJ r b j v) := h.fr (W := fun x i => x = b ∧ i = j) (l2_fr.setJ ⟨rfl, rfl⟩) (fun x i y => by unfold xWr; omega) (fun j _ => by omega) (fun b i _ _ => by omega)
theorem xR.dead {P : pc_S} {f p0 m s : Nat} {r0 r : t_S} (h : xR P f p0 m s r0 r) : xR P f p0 m s r0 (t_setI r 950 5 0) := by
  obtain ⟨a1, a2, m', a3, a4, a5⟩ := h
  refine ⟨a1.dead, a2.trans (l2_fr.set (Or.inl ⟨rfl, by omega⟩)), m', a3, a4, ?_⟩
  simp only [l2_gI, Nat.reduceEqDiff, reduceIte]
  exact a5
theorem xR.next {P : pc_S} {f p0 m s : Nat} {r0 r : t_S} (h : xR P f p0 m s r0 r) : t_hk (f_X13_next r) (xR P f p0 m s r0) := by
  rw [(pr_next h.1).1]
  exact l2_sm h.dead
theorem xR.fail {P : pc_S} {f p0 m s : Nat} {r0 r : t_S} (h : xR P f p0 m s r0 r) (x y : Int32) : f_X13_fail x y r = some r := (pr_next h.1).2 x y
theorem xR.mustBe {P : pc_S} {f p0 m s : Nat} {r0 r : t_S} (h : xR P f p0 m s r0 r) (x : Int32) : t_hk (f_X13_mustBe x r) (xR P f p0 m s r0) := by
  rw [pr_mustBe h.1]
  exact l2_sm h.dead
theorem xR.mustWord {P : pc_S} {f p0 m s : Nat} {r0 r : t_S} (h : xR P f p0 m s r0 r) (x : Int32) : t_hk (f_X13_mustWord x r) (xR P f p0 m s r0) := by
  rw [pr_mustWord h.1]
  exact l2_sm h.dead
theorem xR.hang {P : pc_S} {f p0 m s : Nat} {r0 r : t_S} (h : xR P f p0 m s r0 r) (x y : Int32) : f_X13_hang x y r = some r := pr_hang h.1 x y
theorem xR.name {P : pc_S} {f p0 m s : Nat} {r0 r : t_S} (h : xR P f p0 m s r0 r) : t_hk (f_X13_freeName r) (fun y => xR P f p0 m s r0 y.2) := by
  obtain ⟨a1, a2, m', a3, a4, a5⟩ := h
  refine l2_imp (pr_name a1) (fun y hy => ⟨hy.2, a2.trans (hy.1.mono (fun b j y => x_nm y)), m', a3, a4, ?_⟩)
  rw [(hy.1 950 24 (by unfold nm_W; omega)).1]
  exact a5
theorem xR.name1 {P : pc_S} {f p0 m s : Nat} {r0 r : t_S} (h : xR P f p0 m s r0 r) (h5 : r.1 950 5 = 1) (h10 : r.1 950 10 < 0) : t_hk (f_X13_name r) (fun y => xR P f p0 m s r0 y.2) := by
  obtain ⟨a1, a2, m', a3, a4, a5⟩ := h
  refine l2_imp (pr_name1 a1 h5 h10) (fun y hy => ⟨hy.2, a2.trans (hy.1.mono (fun b j y => x_nm y)), m', a3, a4, ?_⟩)
  rw [(hy.1 950 24 (by unfold nm_W; omega)).1]
  exact a5
/-- a node of the reference behind a fault, its number from m on -/
theorem xR.node {P : pc_S} {f p0 m s : Nat} {r0 r : t_S} (h : xR P f p0 m s r0 r) (hm : m ≤ 12999) (k b : Int32) : t_hk (f_X13_node k b r) (fun y => xR P f p0 m s r0 y.2 ∧ (∃ j, m ≤ j ∧ j < 13000 ∧ y.1 = nI j) ∧ y.2.1 950 5 = r.1 950 5 ∧ y.2.1 950 10 = r.1 950 10) := by
  obtain ⟨a1, a2, m', a3, a4, a5⟩ := h
  obtain ⟨y, e, j, j1, j2, j3, j4, j5⟩ := pr_node (k := k) (b := b) a1
  have tok := nd_tok e
  have n33 : ∀ s1 : t_S, s1.1 950 24 = nI m' → t_hk (k_X13_node_33 k s1) (fun y => ∃ i, m ≤ i ∧ i < 13000 ∧ y.1 = nI i ∧ y.2.1 950 24 = nI (i + 1)) := by
    intro s1 g
    unfold k_X13_node_33
    rw [g]
    by_cases z : 12999 ≤ m'
    · refine l2_ck (show (12999 : Int32) ≤ nI m' from nI_le (a := 12999) z (by omega)) ?_
      exact l2_imp (nd_53 (j := 12999) (by decide)) (fun x hx => ⟨12999, by omega, by omega, hx.1, hx.2.2.1⟩)
    · refine l2_no (fun q => z ((nI_leI (a := 12999) (by decide) (by omega)).mp q)) ?_
      exact l2_imp (nd_53 (j := m') (by omega)) (fun x hx => ⟨m', a3, by omega, hx.1, hx.2.2.1⟩)
  have q : ∃ i, m ≤ i ∧ i < 13000 ∧ y.1 = nI i ∧ y.2.1 950 24 = nI (i + 1) := by
    have st : ∀ v : Int32, (t_setI r 950 28 v).1 950 24 = nI m' := fun v => by
      simp only [l2_gI, Nat.reduceEqDiff, reduceIte]
      exact a5
    have hk : t_hk (f_X13_node k b r) (fun y => ∃ i, m ≤ i ∧ i < 13000 ∧ y.1 = nI i ∧ y.2.1 950 24 = nI (i + 1)) := by
      unfold f_X13_node k_X13_node_23
      refine l2_if (fun _ => n33 r a5) (fun _ => l2_if (fun _ => ?_) (fun _ => l2_lt (n33 _ (st _))))
      rw [(pr_next a1).2]
      exact l2_lt (n33 _ (st _))
    obtain ⟨y', e', z⟩ := hk
    rw [e] at e'
    cases e'
    exact z
  obtain ⟨i, i1, i2, i3, i4⟩ := q
  have ij : i = j := (nI_eq (by omega) (by omega)).mp (i3.symm.trans j2)
  subst ij
  exact ⟨y, e, ⟨j5, a2.trans (j3.mono (fun b j y => x_nd y i1)), i + 1, by omega, by omega, i4⟩, ⟨i, i1, i2, i3⟩, tok⟩
theorem xR.num {P : pc_S} {f p0 m s : Nat} {r0 r : t_S} (h : xR P f p0 m s r0 r) (x : Int64) : t_hk (f_X13_num x r) (fun y => xR P f p0 m s r0 y.2) := l2_imp (pr_num h.1) (fun y hy => by rw [hy]; exact h.dead)
theorem xR.span {P : pc_S} {f p0 m s n : Nat} {r0 r : t_S} (h : xR P f p0 m s r0 r) (hn : m ≤ n) (h3 : n < 13000) (x : Int32) : t_hk (f_X13_span (nI n) x r) (xR P f p0 m s r0) := by
  obtain ⟨a1, a2, m', a3, a4, a5⟩ := h
  refine l2_imp (pr_span a1 h3) (fun y hy => ⟨hy.2, a2.trans (hy.1.mono (fun b j y => by unfold sp_W at y; unfold xWr; omega)), m', a3, a4, ?_⟩)
  rw [(hy.1 950 24 (by unfold sp_W; omega)).1]
  exact a5
theorem xR.keepText {P : pc_S} {f p0 m s n : Nat} {r0 r : t_S} (h : xR P f p0 m s r0 r) (hn : m ≤ n) (h3 : n < 13000) : t_hk (f_X13_keepText (nI n) r) (xR P f p0 m s r0) := by
  unfold f_X13_keepText
  refine l2_ck (l2_ix h3 (by decide)) ?_
  rw [nI_clamp (by omega)]
  refine l2_lt (l2_lt ?_)
  have h2 := (h.setJ (b := 957) (j := n) (v := (r.1 950 36).toInt64) ⟨by decide, by decide, hn⟩)
  have h3 := h2.setJ (b := 958) (j := n) (v := ((t_setJ r 957 n (r.1 950 36).toInt64).1 950 7).toInt64) ⟨by decide, by decide, hn⟩
  generalize t_setJ (t_setJ r 957 n (r.1 950 36).toInt64) 958 n ((t_setJ r 957 n (r.1 950 36).toInt64).1 950 7).toInt64 = r2 at *
  refine l2_lp (fun _ y => y = (0, r2)) ?_ (m := 0) (Nat.lt_trans (by decide) l2_N) rfl
  rintro k y rfl
  show t_hk (k_X13_keepText_24 0 r2) _
  unfold k_X13_keepText_24
  exact l2_if (fun _ => l2_sm h3) (fun _ => l2_no h3.ne (l2_sm h3))
