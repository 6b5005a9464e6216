/-! Level 2: items behind a fault, each side alone. -/
def zF (f p0 : Nat) (c0 c : t_S) : Prop := mF f p0 c ∧ l2_fr mo_Wc c0 c
def yR (P : pc_S) (f p0 : Nat) (r0 r : t_S) : Prop := pr P f p0 r ∧ l2_fr mo_Wr r0 r
section
variable {P : pc_S} {f p0 : Nat} {c0 r0 c r : t_S}
theorem mF.z (h : mF f p0 c) : zF f p0 c c := ⟨h, l2_fr.rf⟩
theorem zF.at {c1 : t_S} (h : zF f p0 c1 c) (g : l2_fr mo_Wc c0 c1) : zF f p0 c0 c := ⟨h.1, g.trans h.2⟩
theorem yR.at {r1 : t_S} (h : yR P f p0 r1 r) (g : l2_fr mo_Wr r0 r1) : yR P f p0 r0 r := ⟨h.1, g.trans h.2⟩
theorem pr.y (h : pr P f p0 r) : yR P f p0 r r := ⟨h, l2_fr.rf⟩
theorem zF.fr {W : Nat → Nat → Prop} {c' : t_S} (h : zF f p0 c0 c) (g : l2_fr W c c') (w0 : ∀ b j, W b j → mo_Wc b j) (w1 : ∀ j, 7 ≤ j → j ≤ 12 → ¬ W 1 j) (w2 : ¬ W 334 2) (w3 : ¬ W 845 9 ∧ ¬ W 845 7) : zF f p0 c0 c' := ⟨h.1.fr g w1 w2 w3, h.2.trans (g.mono w0)⟩
theorem zF.set {b j : Nat} {v : Int32} (h : zF f p0 c0 c) (hb : mo_Wc b j) (h1 : b ≠ 1 ∧ (b = 334 → j ≠ 2) ∧ (b = 845 → j ≠ 9 ∧ j ≠ 7)) : zF f p0 c0 (t_setI c b j v) := h.fr (W := fun x i => x = b ∧ i = j) (l2_fr.set ⟨rfl, rfl⟩) (fun x i y => by obtain ⟨rfl, rfl⟩ := y; exact hb) (fun j _ _ => by omega) (by omega) ⟨by omega, by omega⟩
theorem zF.x {t e p l o : Nat} {c' : t_S} (h : zF f p0 c0 c) (g : xF f p0 t e p l 0 o 0 c c') : zF f p0 c0 c' := ⟨g.me, h.2.trans (mo_xc (g.2.1.mono (fun b j y => y.sub (Nat.zero_le _) (Nat.zero_le _) (Nat.zero_le _) (Nat.zero_le _) (Nat.le_refl _) (Nat.zero_le _))))⟩
theorem zF.ne (h : zF f p0 c0 c) : c.1 1 11 ≠ 0 := h.1.1.ne
theorem zF.tok (h : zF f p0 c0 c) : c.1 1 8 = 5 := h.1.1.2.2.2.2
theorem zF.no (h : zF f p0 c0 c) {x : Int32} (hx : x ≠ 5) : ¬ c.1 1 8 = x := by rw [h.tok]; exact fun y => hx y.symm
theorem zF.adv (h : zF f p0 c0 c) : f_X2_advance c = some c := (lc_stay h.1.1).1
theorem zF.fail (h : zF f p0 c0 c) (x : Int32) : f_X2_fail x c = some c := by rw [(lc_stay h.1.1).2]
theorem zF.need (h : zF f p0 c0 c) {x : Int32} (hx : x ≠ 5) : f_X2_need x c = some c := (h.1.1.need hx).1
theorem zF.take (h : zF f p0 c0 c) {x : Int32} (hx : x ≠ 5) : f_X2_take x c = some (0, c) := (h.1.1.need hx).2
theorem zF.link (h : zF f p0 c0 c) (x y z : Int32) : f_X6_link x y z c = some c := h.1.link x y z
theorem zF.emit (h : zF f p0 c0 c) (a b : Int32) : t_hk (f_X0_emit a b c) (fun y => zF f p0 c0 y.2) := l2_imp (xF.emit h.1 a b) (fun _ hy => h.x hy.1)
theorem zF.node (h : zF f p0 c0 c) : t_hk (f_X6_node c) (zF f p0 c0) := l2_imp (xF.node h.1) (fun _ hy => h.x hy)
theorem zF.exp (h : zF f p0 c0 c) (x : Int32) : t_hk (f_X6_readExp x c) (fun y => zF f p0 c0 y.2) := by
  have S := xS_R 246
  exact l2_imp (show t_hk (f_X6_readExp x c) _ from S.2.1 x _ _ _ _ _ _ _ _ _ _ _ h.1) (fun _ hy => h.x hy)
theorem zF.templ (h : zF f p0 c0 c) (x y : Int32) : t_hk (f_X6_readTempl x y c) (fun y => zF f p0 c0 y.2) := by
  have S := xS_R 246
  exact l2_imp (show t_hk (f_X6_readTempl x y c) _ from S.2.2.2.2.2.2.2.2.2.2.2.1 x y _ _ _ _ _ _ _ _ _ _ _ h.1) (fun _ hy => h.x hy)
theorem zF.vtype (h : zF f p0 c0 c) (x y : Int32) : f_X6_readVarType x y c = some c := by
  unfold f_X6_readVarType
  rw [h.take (by decide), l2_bs, if_pos rfl]
theorem yR.fr {W : Nat → Nat → Prop} {r' : t_S} (h : yR P f p0 r0 r) (g : l2_fr W r r') (w0 : ∀ b j, W b j → mo_Wr b j) (x1 : ∀ j, (1 ≤ j ∧ j ≤ 10) ∨ (14 ≤ j ∧ j ≤ 16) ∨ j = 24 → ¬ W 950 j) (x2 : ∀ b i, 951 ≤ b → b ≤ 954 → ¬ W b i) : yR P f p0 r0 r' := ⟨h.1.fr g x1 x2, h.2.trans (g.mono w0)⟩
theorem yR.set {b j : Nat} {v : Int32} (h : yR P f p0 r0 r) (hb : mo_Wr b j) (h1 : (b = 950 → ¬ ((1 ≤ j ∧ j ≤ 10) ∨ (14 ≤ j ∧ j ≤ 16) ∨ j = 24)) ∧ ¬ (951 ≤ b ∧ b ≤ 954)) : yR P f p0 r0 (t_setI r b j v) := h.fr (W := fun x i => x = b ∧ i = j) (l2_fr.set ⟨rfl, rfl⟩) (fun x i y => by obtain ⟨rfl, rfl⟩ := y; exact hb) (fun i y z => h1.1 z.1.symm (z.2 ▸ y)) (fun x i a b z => h1.2 (z.1 ▸ ⟨a, b⟩))
theorem yR.setJ {b j : Nat} {v : Int64} (h : yR P f p0 r0 r) (hb : mo_Wr b j) (h1 : 955 ≤ b) : yR P f p0 r0 (t_setJ r b j v) := h.fr (W := fun x i => x = b ∧ i = j) (l2_fr.setJ ⟨rfl, rfl⟩) (fun x i y => by obtain ⟨rfl, rfl⟩ := y; exact hb) (fun i y z => by omega) (fun x i a b z => by omega)
theorem yR.x {m s : Nat} {r' : t_S} (h : yR P f p0 r0 r) (g : xR P f p0 m s r r') : yR P f p0 r0 r' := ⟨g.1, h.2.trans (mo_x (g.2.1.mono (fun b j y => y.sub (Nat.zero_le _) (Nat.zero_le _))))⟩
theorem yR.ne (h : yR P f p0 r0 r) : r.1 950 2 ≠ 0 := h.1.ne
theorem yR.fail (h : yR P f p0 r0 r) (x y : Int32) : f_X13_fail x y r = some r := (pr_next h.1).2 x y
theorem yR.next (h : yR P f p0 r0 r) : t_hk (f_X13_next r) (yR P f p0 r0) := l2_imp h.1.xR.next (fun _ hy => h.x hy)
theorem yR.mustBe (h : yR P f p0 r0 r) (x : Int32) : t_hk (f_X13_mustBe x r) (yR P f p0 r0) := l2_imp (h.1.xR.mustBe x) (fun _ hy => h.x hy)
theorem yR.mustWord (h : yR P f p0 r0 r) (x : Int32) : t_hk (f_X13_mustWord x r) (yR P f p0 r0) := l2_imp (h.1.xR.mustWord x) (fun _ hy => h.x hy)
theorem yR.name (h : yR P f p0 r0 r) : t_hk (f_X13_freeName r) (fun y => yR P f p0 r0 y.2) := l2_imp h.1.xR.name (fun _ hy => h.x hy)
theorem yR.exp (h : yR P f p0 r0 r) : f_X13_exp r = some (0, r) := by
  have T : xT (R_X13_base (297 + 3)) := xT_R 297
  exact (T.1 r h.ne).2.1
theorem yR.templ (h : yR P f p0 r0 r) : f_X13_templ r = some (0, r) := by
  have T : xT (R_X13_base (297 + 3)) := xT_R 297
  exact (T.1 r h.ne).2.2.2
theorem yR.node (h : yR P f p0 r0 r) (k b : Int32) : t_hk (f_X13_node k b r) (fun y => yR P f p0 r0 y.2 ∧ ∃ j, j < 13000 ∧ y.1 = nI j) := l2_imp (h.1.xR.node (by decide) k b) (fun _ hy => ⟨h.x hy.1, by
  obtain ⟨_, ⟨j, _, j2, j3⟩, _⟩ := hy
  exact ⟨j, j2, j3⟩⟩)
theorem yR.hang (h : yR P f p0 r0 r) (x y : Int32) : f_X13_hang x y r = some r := pr_hang h.1 x y
theorem yR.hint (h : yR P f p0 r0 r) : t_hk (f_X13_typeHint r) (yR P f p0 r0) := by
  unfold f_X13_typeHint
  refine l2_lt (l2_lt ?_)
  have h2 := (h.set (b := 950) (j := 86) (v := -1) (by unfold mo_Wr; omega) (by omega)).set (b := 950) (j := 87) (v := 0) (by unfold mo_Wr; omega) (by omega)
  refine l2_if (fun _ => l2_sm h2) (fun _ => l2_bd _ h2.next (fun r1 h3 => l2_lt ?_))
  have h4 := h3.set (b := 950) (j := 87) (v := r1.1 950 6) (by unfold mo_Wr; omega) (by omega)
  refine l2_bd _ h4.name (fun x h5 => l2_lt ?_)
  have h6 := h5.set (b := 950) (j := 86) (v := x.1) (by unfold mo_Wr; omega) (by omega)
  exact l2_bd _ h6.next (fun r2 h7 => l2_sm h7)
/-- the reference at a comparison that is a fault, or behind one: the next token told -/
theorem rx.y {m s : Nat} {r' : t_S} (h : rx P f p0 m s r r') (g : l2_fr mo_Wr r0 r) : l2_fr mo_Wr r0 r' := g.trans (mo_x (h.fr0.mono (fun b j y => y.sub (Nat.zero_le _) (Nat.zero_le _))))
theorem rx.mb {m s : Nat} {r' : t_S} (h : rx P f p0 m s r r') (g : l2_fr mo_Wr r0 r) {x : Int32} (hx : rj_no x) : t_hk (f_X13_mustBe x r') (yR P f p0 r0) := l2_imp (h.mustBe hx) (fun _ hy => ⟨hy.1, g.trans (mo_x (hy.2.1.mono (fun b j y => y.sub (Nat.zero_le _) (Nat.zero_le _))))⟩)
theorem rx.mw {m s : Nat} {r' : t_S} (h : rx P f p0 m s r r') (g : l2_fr mo_Wr r0 r) (x : Int32) : t_hk (f_X13_mustWord x r') (yR P f p0 r0) := l2_imp (h.mustWord x) (fun _ hy => ⟨hy.1, g.trans (mo_x (hy.2.1.mono (fun b j y => y.sub (Nat.zero_le _) (Nat.zero_le _))))⟩)
/-- .. whichever of the two, wherever items write -/
def ry (P : pc_S) (f p0 : Nat) (r0 r : t_S) : Prop := yR P f p0 r0 r ∨ (f = 2 ∧ rj P p0 0 0 r r ∧ l2_fr mo_Wr r0 r)
theorem rj.me {m s : Nat} (h : rj P p0 m s r0 r) : rj P p0 0 0 r r := by
  obtain ⟨a1, a2, a3, a4, a5, ⟨m', a6, a7, a8⟩, a9⟩ := h
  exact ⟨a1, a2, a3, a4, l2_fr.rf, ⟨m', Nat.zero_le _, a7, a8⟩, a9⟩
theorem rx.ry {m s : Nat} {r' : t_S} (h : rx P f p0 m s r r') (g : l2_fr mo_Wr r0 r) : ry P f p0 r0 r' := by
  have g2 := h.y g
  rcases h with h | ⟨h, h2⟩
  · exact Or.inl ⟨h.1, g2⟩
  · exact Or.inr ⟨h, h2.me, g2⟩
theorem rj.own {r' : t_S} {W : Nat → Nat → Prop} (h : rj P p0 0 0 r r) (g : l2_fr W r r') (w1 : ∀ j, j < 28 → ¬ W 950 j) (w2 : ∀ b i, 951 ≤ b → b ≤ 954 → ¬ W b i) : rj P p0 0 0 r' r' := by
  obtain ⟨a1, a2, a3, a4, a5, ⟨m', a6, a7, a8⟩, a9⟩ := h
  have e : ∀ j, j < 28 → r'.1 950 j = r.1 950 j := fun j hj => (g 950 j (w1 j hj)).1
  refine ⟨by rw [e 2 (by decide)]; exact a1, by rw [e 5 (by decide)]; exact a2, by rw [e 9 (by decide)]; exact a3, by rw [e 6 (by decide)]; exact a4, l2_fr.rf, ⟨m', a6, a7, by rw [e 24 (by decide)]; exact a8⟩, ?_⟩
  refine pr.fr (Wr := fun b j => W b j ∧ ¬ (b = 950 ∧ (j = 2 ∨ j = 3))) a9 (fun b j n => ?_) (fun j hj y => w1 j (by omega) y.1) (fun b i x1 x2 y => w2 b i x1 x2 y.1)
  by_cases z : b = 950 ∧ (j = 2 ∨ j = 3)
  · obtain ⟨rfl, z⟩ := z
    have gg := g 950 j (w1 j (by omega))
    refine ⟨?_, gg.2.1, gg.2.2⟩
    rcases z with rfl | rfl <;> simp only [l2_gI, Nat.reduceEqDiff, reduceIte]
  · have gg := g b j (fun y => n ⟨y, z⟩)
    refine ⟨?_, gg.2.1, gg.2.2⟩
    simp only [l2_gI]
    rw [gg.1]
theorem ry.fr {W : Nat → Nat → Prop} {r' : t_S} (h : ry P f p0 r0 r) (g : l2_fr W r r') (w0 : ∀ b j, W b j → mo_Wr b j) (w1 : ∀ j, j < 28 → ¬ W 950 j) (w2 : ∀ b i, 951 ≤ b → b ≤ 954 → ¬ W b i) : ry P f p0 r0 r' := by
  rcases h with h | ⟨h, h2, h3⟩
  · exact Or.inl (h.fr g w0 (fun j y => w1 j (by omega)) w2)
  · exact Or.inr ⟨h, h2.own g w1 w2, h3.trans (g.mono w0)⟩
theorem ry.set {b j : Nat} {v : Int32} (h : ry P f p0 r0 r) (hb : mo_Wr b j) (h1 : (b = 950 → 28 ≤ j) ∧ ¬ (951 ≤ b ∧ b ≤ 954)) : ry P f p0 r0 (t_setI r b j v) := h.fr (W := fun x i => x = b ∧ i = j) (l2_fr.set ⟨rfl, rfl⟩) (fun x i y => by obtain ⟨rfl, rfl⟩ := y; exact hb) (fun i y z => by
  have := h1.1 z.1.symm
  omega) (fun x i a b z => h1.2 (z.1 ▸ ⟨a, b⟩))
theorem ry.mb (h : ry P f p0 r0 r) {x : Int32} (hx : rj_no x) : t_hk (f_X13_mustBe x r) (yR P f p0 r0) := by
  rcases h with h | ⟨rfl, h2, h3⟩
  · exact h.mustBe x
  · exact l2_imp (h2.mustBe hx) (fun _ hy => ⟨hy.1, h3.trans (mo_x hy.2.1)⟩)
theorem ry.mw (h : ry P f p0 r0 r) (x : Int32) : t_hk (f_X13_mustWord x r) (yR P f p0 r0) := by
  rcases h with h | ⟨rfl, h2, h3⟩
  · exact h.mustWord x
  · exact l2_imp (h2.mustWord x) (fun _ hy => ⟨hy.1, h3.trans (mo_x hy.2.1)⟩)
/-- a type told behind a name, behind a fault: what is written -/
theorem pr.hint (h : pr P f p0 r) : t_hk (f_X13_typeHint r) (fun r' => pr P f p0 r' ∧ l2_fr hi_Wr r r') := by
  unfold f_X13_typeHint
  refine l2_lt (l2_lt ?_)
  have f1 : l2_fr (fun b j => b = 950 ∧ (j = 86 ∨ j = 87)) r (t_setI (t_setI r 950 86 (-1)) 950 87 0) := (l2_fr.set ⟨rfl, Or.inl rfl⟩).trans (l2_fr.set ⟨rfl, Or.inr rfl⟩)
  have h2 := h.fr f1 (fun j _ => by omega) (fun b i _ _ => by omega)
  generalize t_setI (t_setI r 950 86 (-1)) 950 87 0 = r2 at *
  have g2 : l2_fr hi_Wr r r2 := f1.mono (fun b j y => Or.inr y)
  refine l2_if (fun _ => l2_sm ⟨h2, g2⟩) (fun _ => ?_)
  rw [(pr_next h2).1, l2_bs]
  have f3 : l2_fr hi_Wr r2 (t_setI r2 950 5 0) := l2_fr.set (Or.inl (Or.inl ⟨rfl, by decide, by decide⟩))
  have h3 := h2.dead
  generalize t_setI r2 950 5 0 = r3 at *
  refine l2_lt ?_
  have f4 : l2_fr (fun b j => b = 950 ∧ j = 87) r3 (t_setI r3 950 87 (r3.1 950 6)) := l2_fr.set ⟨rfl, rfl⟩
  have h4 := h3.fr f4 (fun j _ => by omega) (fun b i _ _ => by omega)
  refine l2_bd _ (pr_name h4) (fun x hx => l2_lt ?_)
  have f5 : l2_fr (fun b j => b = 950 ∧ j = 86) x.2 (t_setI x.2 950 86 x.1) := l2_fr.set ⟨rfl, rfl⟩
  have h5 := hx.2.fr f5 (fun j _ => by omega) (fun b i _ _ => by omega)
  rw [(pr_next h5).1, l2_bs]
  exact l2_sm ⟨h5.dead, ((((g2.trans f3).trans (f4.mono (fun b j y => Or.inr ⟨y.1, by omega⟩))).trans (hx.1.mono (fun b j y => Or.inl (Or.inr y)))).trans (f5.mono (fun b j y => Or.inr ⟨y.1, by omega⟩))).trans (l2_fr.set (Or.inl (Or.inl ⟨rfl, by decide, by decide⟩)))⟩
end
