/-! Level 2: within a function: the state between two statements; behind a fault. -/
/-- counters: tokens, nodes, the reference's nodes, templates, operations, pool, links, signs, templs numbered, lines -/
def gr (k k' : Nat → Nat) : Prop := k 0 ≤ k' 0 ∧ k 1 ≤ k' 1 ∧ k 2 ≤ k' 2 ∧ k 3 ≤ k' 3 ∧ k 4 ≤ k' 4 ∧ k 5 ≤ k' 5 ∧ k 6 ≤ k' 6 ∧ k 7 ≤ k' 7 ∧ k 8 ≤ k' 8 ∧ k 9 ≤ k' 9
theorem gr.rf {k : Nat → Nat} : gr k k := by
  unfold gr
  omega
theorem gr.trans {k k1 k2 : Nat → Nat} (h : gr k k1) (g : gr k1 k2) : gr k k2 := by
  unfold gr at *
  omega
def ck (u q m t e p l s i st : Nat) : Nat → Nat
  | 0 => u
  | 1 => q
  | 2 => m
  | 3 => t
  | 4 => e
  | 5 => p
  | 6 => l
  | 7 => s
  | 8 => i
  | _ => st
def fs (P : pc_S) (nt : Nat → Nat) (f n2 Y n : Nat) (L : Nat → Nat) (ka : Int32) (a g : Nat) (k : Nat → Nat) (c r : t_S) : Prop := mp P nt (k 0) (k 1) (k 2) a g (k 3) (k 4) (k 5) (k 6) (k 7) (k 8) (k 9) (nI f) (-1) ka c r ∧ fw_R c r f n L ∧ fh_R c r f n2 Y ka ∧ f < 40 ∧ r.1 950 33 = nI (2000 + f) ∧ r.1 950 34 = nI n
/-- what a statement may write, from line ln on -/
def sf_Wc (f n : Nat) (k : Nat → Nat) (ln b j : Nat) : Prop := xWc (k 3) (k 4) (k 5) (k 6) 0 0 b j ∨ (b = 428 ∧ j = 18) ∨ (b = 440 ∧ j = f) ∨ ((b = 442 ∨ b = 443) ∧ 8 * f + n ≤ j ∧ j < 8 * f + 8) ∨ (445 + ln ≤ b ∧ b < 845)
def sf_Wr (f n : Nat) (k : Nat → Nat) (ln b j : Nat) : Prop := xWr (k 2) (k 7) b j ∨ (b = 950 ∧ (j = 34 ∨ j = 81 ∨ j = 86 ∨ j = 87)) ∨ (b = 986 ∧ j = f) ∨ (b = 984 ∧ 8 * f + n ≤ j ∧ j < 8 * f + 8) ∨ (988 ≤ b ∧ b ≤ 1002 ∧ ln ≤ j)
theorem sf_Wc.sub {f n n' ln ln' b j : Nat} {k k' : Nat → Nat} (h : sf_Wc f n' k' ln' b j) (o : gr k k') (hn : n ≤ n') (hl : ln ≤ ln') : sf_Wc f n k ln b j := by
  unfold gr at o
  rcases h with h | h | h | h | h
  · exact Or.inl (h.sub (by omega) (by omega) (by omega) (by omega) (Nat.le_refl _) (Nat.le_refl _))
  · exact Or.inr (Or.inl h)
  · exact Or.inr (Or.inr (Or.inl h))
  · exact Or.inr (Or.inr (Or.inr (Or.inl ⟨h.1, by omega, h.2.2⟩)))
  · exact Or.inr (Or.inr (Or.inr (Or.inr ⟨by omega, h.2⟩)))
theorem sf_Wr.sub {f n n' ln ln' b j : Nat} {k k' : Nat → Nat} (h : sf_Wr f n' k' ln' b j) (o : gr k k') (hn : n ≤ n') (hl : ln ≤ ln') : sf_Wr f n k ln b j := by
  unfold gr at o
  rcases h with h | h | h | h | h
  · exact Or.inl (h.sub (by omega) (by omega))
  · exact Or.inr (Or.inl h)
  · exact Or.inr (Or.inr (Or.inl h))
  · exact Or.inr (Or.inr (Or.inr (Or.inl ⟨h.1, by omega, h.2.2⟩)))
  · exact Or.inr (Or.inr (Or.inr (Or.inr ⟨h.1, h.2.1, by omega⟩)))
theorem sf_mo {f n ln : Nat} {k : Nat → Nat} {c c' : t_S} (h : l2_fr (sf_Wc f n k ln) c c') : l2_fr mo_Wc c c' := h.mono (fun b j y => by
  rcases y with y | y | y | y | y
  · unfold xWc at y
    unfold mo_Wc
    omega
  all_goals (unfold mo_Wc; omega))
theorem sf_mr {f n ln : Nat} {k : Nat → Nat} {r r' : t_S} (h : l2_fr (sf_Wr f n k ln) r r') : l2_fr mo_Wr r r' := h.mono (fun b j y => by
  rcases y with y | y | y | y | y
  · unfold xWr at y
    unfold mo_Wr
    omega
  all_goals (unfold mo_Wr; omega))
theorem sf_cp {f n ln : Nat} {k : Nat → Nat} : cp_c (sf_Wc f n k ln) (k 3) (k 4) (k 5) (k 6) := fun b j y => by
  unfold sf_Wc xWc at y
  omega
theorem sf_cr {f n ln : Nat} {k : Nat → Nat} : cp_r (sf_Wr f n k ln) (k 2) (k 7) := fun b j y => by
  unfold sf_Wr xWr at y
  omega
section
variable {P : pc_S} {nt : Nat → Nat} {f n2 n3 Y n a g f2 p0 : Nat} {L v : Nat → Nat} {ka : Int32} {k : Nat → Nat} {c0 r0 c r c' r' : t_S}
/-- the class behind a fault within a function -/
def zS (f f2 p0 : Nat) (c0 c : t_S) : Prop := zF f2 p0 c0 c ∧ LK c ∧ c.1 845 12 = nI f
/-- the reference there; at a comparison that is a fault, or behind one -/
def yS (P : pc_S) (f f2 p0 : Nat) (r0 r : t_S) : Prop := yR P f2 p0 r0 r ∧ r.1 950 33 = nI (2000 + f)
def rS (P : pc_S) (f f2 p0 : Nat) (r0 r : t_S) : Prop := ry P f2 p0 r0 r ∧ r.1 950 33 = nI (2000 + f)
theorem yS.toR (h : yS P f f2 p0 r0 r) : rS P f f2 p0 r0 r := ⟨Or.inl h.1, h.2⟩
theorem zS.set {b j : Nat} {x : Int32} (h : zS f f2 p0 c0 c) (hb : mo_Wc b j) (h1 : b ≠ 1 ∧ (b = 334 → j ≠ 2) ∧ (b = 845 → j ≠ 9 ∧ j ≠ 7 ∧ j ≠ 12) ∧ b ≠ 846) : zS f f2 p0 c0 (t_setI c b j x) := ⟨h.1.set hb ⟨h1.1, h1.2.1, fun y => ⟨(h1.2.2.1 y).1, (h1.2.2.1 y).2.1⟩⟩, LK.set h.2.1 (fun y => absurd y h1.2.2.2), by
  rw [l2_gI]
  by_cases z : 845 = b
  · rw [if_pos z, if_neg (fun y => (h1.2.2.1 z.symm).2.2 y.symm)]; exact h.2.2
  · rw [if_neg z]; exact h.2.2⟩
theorem zS.x {t e p l o : Nat} (h : zS f f2 p0 c0 c) (G : xF f2 p0 t e p l 0 o 0 c c') (hl : LK c') : zS f f2 p0 c0 c' := ⟨h.1.x G, hl, by rw [(G.2.1 845 12 (by unfold xWc; omega)).1]; exact h.2.2⟩
theorem zS.emit (h : zS f f2 p0 c0 c) (x y : Int32) : t_hk (f_X0_emit x y c) (fun z => zS f f2 p0 c0 z.2) := by
  obtain ⟨z, e, hz⟩ := xF.emit h.1.1 x y
  exact ⟨z, e, h.x hz.1 (pl_f_X0_emit h.2.1 z e)⟩
theorem zS.node (h : zS f f2 p0 c0 c) : t_hk (f_X6_node c) (zS f f2 p0 c0) := by
  obtain ⟨z, e, hz⟩ := xF.node h.1.1
  exact ⟨z, e, h.x hz (pl_f_X6_node h.2.1 z e)⟩
theorem zS.exp (h : zS f f2 p0 c0 c) (x : Int32) : t_hk (f_X6_readExp x c) (fun z => zS f f2 p0 c0 z.2) := by
  have S := xS_R 246
  obtain ⟨z, e, hz⟩ := show t_hk (f_X6_readExp x c) _ from S.2.1 x _ _ _ _ _ _ _ _ _ _ _ h.1.1
  exact ⟨z, e, h.x hz (h.2.1.exp x z e)⟩
theorem zS.exps (h : zS f f2 p0 c0 c) (x : Int32) : t_hk (f_X6_readExps x c) (fun z => zS f f2 p0 c0 z.2) := by
  have S := xS_R 246
  obtain ⟨z, e, hz⟩ := show t_hk (f_X6_readExps x c) _ from S.2.2.2.1 x _ _ _ _ _ _ _ _ _ _ _ h.1.1
  exact ⟨z, e, h.x hz (h.2.1.exps x z e)⟩
theorem zS.templ (h : zS f f2 p0 c0 c) (x y : Int32) : t_hk (f_X6_readTempl x y c) (fun z => zS f f2 p0 c0 z.2) := by
  have S := xS_R 246
  obtain ⟨z, e, hz⟩ := show t_hk (f_X6_readTempl x y c) _ from S.2.2.2.2.2.2.2.2.2.2.2.1 x y _ _ _ _ _ _ _ _ _ _ _ h.1.1
  exact ⟨z, e, h.x hz (h.2.1.templ x y z e)⟩
theorem zS.add (h : zS f f2 p0 c0 c) (x1 x2 x3 x4 x5 x6 : Int32) : t_hk (f_X3_add x1 x2 x3 x4 x5 x6 c) (zS f f2 p0 c0) := by
  have lk := h.2.1
  obtain ⟨l, l1, l2⟩ := h.2.1
  by_cases z : l < 6002
  · obtain ⟨y, e, fr, _⟩ := ln_add (x1 := x1) (x2 := x2) (x3 := x3) (x4 := x4) (x5 := x5) (x6 := x6) l2 z
    exact ⟨y, e, h.1.fr fr (fun b j y => by unfold mo_Wc; omega) (fun j _ _ => by omega) (by omega) ⟨by omega, by omega⟩, pl_f_X3_add lk y e, by rw [(fr 845 12 (by omega)).1]; exact h.2.2⟩
  · refine ⟨c, ?_, h⟩
    unfold f_X3_add
    have e : l = 6002 := by omega
    rw [l2, e, if_neg (by decide)]
theorem yS.fr {W : Nat → Nat → Prop} (h : yS P f f2 p0 r0 r) (fr : l2_fr W r r') (w0 : ∀ b j, W b j → mo_Wr b j) (x1 : ∀ j, j < 28 ∨ j = 33 → ¬ W 950 j) (x2 : ∀ b i, 951 ≤ b → b ≤ 954 → ¬ W b i) : yS P f f2 p0 r0 r' := ⟨h.1.fr fr w0 (fun j y => x1 j (by omega)) x2, by rw [(fr 950 33 (x1 33 (by decide))).1]; exact h.2⟩
theorem rS.fr {W : Nat → Nat → Prop} (h : rS P f f2 p0 r0 r) (fr : l2_fr W r r') (w0 : ∀ b j, W b j → mo_Wr b j) (x1 : ∀ j, j < 28 ∨ j = 33 → ¬ W 950 j) (x2 : ∀ b i, 951 ≤ b → b ≤ 954 → ¬ W b i) : rS P f f2 p0 r0 r' := ⟨h.1.fr fr w0 (fun j y => x1 j (by omega)) x2, by rw [(fr 950 33 (x1 33 (by decide))).1]; exact h.2⟩
theorem yS.set {b j : Nat} {x : Int32} (h : yS P f f2 p0 r0 r) (hb : mo_Wr b j) (h1 : (b = 950 → 28 ≤ j ∧ j ≠ 33) ∧ ¬ (951 ≤ b ∧ b ≤ 954)) : yS P f f2 p0 r0 (t_setI r b j x) := h.fr (W := fun x i => x = b ∧ i = j) (l2_fr.set ⟨rfl, rfl⟩) (fun x i y => by obtain ⟨rfl, rfl⟩ := y; exact hb) (fun i y z => by
  have := h1.1 z.1.symm
  omega) (fun x i a b z => h1.2 (z.1 ▸ ⟨a, b⟩))
theorem rS.set {b j : Nat} {x : Int32} (h : rS P f f2 p0 r0 r) (hb : mo_Wr b j) (h1 : (b = 950 → 28 ≤ j ∧ j ≠ 33) ∧ ¬ (951 ≤ b ∧ b ≤ 954)) : rS P f f2 p0 r0 (t_setI r b j x) := h.fr (W := fun x i => x = b ∧ i = j) (l2_fr.set ⟨rfl, rfl⟩) (fun x i y => by obtain ⟨rfl, rfl⟩ := y; exact hb) (fun i y z => by
  have := h1.1 z.1.symm
  omega) (fun x i a b z => h1.2 (z.1 ▸ ⟨a, b⟩))
theorem yS.setJ {b j : Nat} {x : Int64} (h : yS P f f2 p0 r0 r) (hb : mo_Wr b j) (h1 : 955 ≤ b) : yS P f f2 p0 r0 (t_setJ r b j x) := ⟨h.1.setJ hb h1, h.2⟩
theorem yS.x {m s : Nat} (h : yS P f f2 p0 r0 r) (G : xR P f2 p0 m s r r') : yS P f f2 p0 r0 r' := ⟨h.1.x G, by rw [(G.2.1 950 33 (by unfold xWr; omega)).1]; exact h.2⟩
theorem yS.next (h : yS P f f2 p0 r0 r) : t_hk (f_X13_next r) (yS P f f2 p0 r0) := l2_imp h.1.1.xR.next (fun _ hy => h.x hy)
theorem yS.mustBe (h : yS P f f2 p0 r0 r) (x : Int32) : t_hk (f_X13_mustBe x r) (yS P f f2 p0 r0) := l2_imp (h.1.1.xR.mustBe x) (fun _ hy => h.x hy)
theorem yS.mustWord (h : yS P f f2 p0 r0 r) (x : Int32) : t_hk (f_X13_mustWord x r) (yS P f f2 p0 r0) := l2_imp (h.1.1.xR.mustWord x) (fun _ hy => h.x hy)
theorem yS.name (h : yS P f f2 p0 r0 r) : t_hk (f_X13_freeName r) (fun y => yS P f f2 p0 r0 y.2) := l2_imp h.1.1.xR.name (fun _ hy => h.x hy)
theorem yS.name1 (h : yS P f f2 p0 r0 r) (h5 : r.1 950 5 = 1) (h10 : r.1 950 10 < 0) : t_hk (f_X13_name r) (fun y => yS P f f2 p0 r0 y.2) := l2_imp (h.1.1.xR.name1 h5 h10) (fun _ hy => h.x hy)
theorem yS.node (h : yS P f f2 p0 r0 r) (x b : Int32) : t_hk (f_X13_node x b r) (fun y => yS P f f2 p0 r0 y.2 ∧ ∃ j, j < 13000 ∧ y.1 = nI j) := l2_imp (h.1.1.xR.node (by decide) x b) (fun _ hy => ⟨h.x hy.1, by
  obtain ⟨_, ⟨j, _, j2, j3⟩, _⟩ := hy
  exact ⟨j, j2, j3⟩⟩)
theorem yS.exps (h : yS P f f2 p0 r0 r) (x : Int32) : t_hk (f_X13_exps x r) (yS P f f2 p0 r0) := by
  have T : xT (R_X13_base (297 + 3)) := xT_R 297
  exact l2_imp (show t_hk (f_X13_exps x r) _ from T.2.2.1 x P f2 p0 0 0 r r (by decide) h.1.1.xR) (fun _ hy => h.x hy)
theorem yS.ne (h : yS P f f2 p0 r0 r) : r.1 950 2 ≠ 0 := h.1.ne
theorem rS.mb (h : rS P f f2 p0 r0 r) {x : Int32} (hx : rj_no x) : t_hk (f_X13_mustBe x r) (yS P f f2 p0 r0) := by
  obtain ⟨h | ⟨rfl, h2, h3⟩, h4⟩ := h
  · exact yS.mustBe ⟨h, h4⟩ x
  · exact l2_imp (h2.mustBe hx) (fun _ hy => ⟨⟨hy.1, h3.trans (mo_x hy.2.1)⟩, by rw [(hy.2.1 950 33 (by unfold xWr; omega)).1]; exact h4⟩)
theorem rS.mw (h : rS P f f2 p0 r0 r) (x : Int32) : t_hk (f_X13_mustWord x r) (yS P f f2 p0 r0) := by
  obtain ⟨h | ⟨rfl, h2, h3⟩, h4⟩ := h
  · exact yS.mustWord ⟨h, h4⟩ x
  · exact l2_imp (h2.mustWord x) (fun _ hy => ⟨⟨hy.1, h3.trans (mo_x hy.2.1)⟩, by rw [(hy.2.1 950 33 (by unfold xWr; omega)).1]; exact h4⟩)
theorem rS.isW (h : rS P f f2 p0 r0 r) (x : Int32) : f_X13_isWord x r = 0 ∨ yS P f f2 p0 r0 r := by
  obtain ⟨h | ⟨rfl, h2, h3⟩, h4⟩ := h
  · exact Or.inr ⟨h, h4⟩
  · exact Or.inl (h2.isWord x)
theorem rS.is (h : rS P f f2 p0 r0 r) {x : Int32} (hx : rj_no x) : f_X13_is x r = 0 ∨ yS P f f2 p0 r0 r := by
  obtain ⟨h | ⟨rfl, h2, h3⟩, h4⟩ := h
  · exact Or.inr ⟨h, h4⟩
  · exact Or.inl (h2.is hx)
theorem yS.exp (h : yS P f f2 p0 r0 r) : f_X13_exp r = some (0, r) := h.1.exp
theorem yS.templ (h : yS P f f2 p0 r0 r) : f_X13_templ r = some (0, r) := h.1.templ
theorem yS.hint (h : yS P f f2 p0 r0 r) : t_hk (f_X13_typeHint r) (yS P f f2 p0 r0) := l2_imp h.1.1.hint (fun x hx => ⟨⟨hx.1, h.1.2.trans (hi_mr hx.2)⟩, by rw [(hx.2 950 33 (by unfold hi_Wr nk_W rn_W nm_W; omega)).1]; exact h.2⟩)
/-- from the state there -/
theorem fs.lk (h : fs P nt f n2 Y n L ka a g k c r) : LK c := by
  obtain ⟨⟨J, _, ⟨_, _, _, _, _, k6, _⟩, _, _, ⟨_, _, b3, _⟩⟩, _⟩ := h
  exact ⟨k 6, by have := J.cle; omega, k6⟩
theorem fs.z (h : fs P nt f n2 Y n L ka a g k c r) (y : lc_F c' f2 p0) (fc : l2_fr la_W c c') (g0 : l2_fr mo_Wc c0 c) : zS f f2 p0 c0 c' := by
  have lk := h.lk
  obtain ⟨M, _⟩ := h
  refine ⟨⟨M.mF y (fc 334 2 (by unfold la_W; omega)).1 (fc 845 9 (by unfold la_W; omega)).1 (fc 845 7 (by unfold la_W; omega)).1, g0.trans (mo_la fc)⟩, ?_, ?_⟩
  · obtain ⟨l, l1, l2⟩ := lk
    exact ⟨l, l1, by rw [(fc 846 6 (by unfold la_W; omega)).1]; exact l2⟩
  · rw [(fc 845 12 (by unfold la_W; omega)).1]
    exact M.2.2.2.1.2.2.1
theorem fs.y (h : fs P nt f n2 Y n L ka a g k c r) (y : pr P f2 p0 r') (fr : l2_fr rn_W r r') (g0 : l2_fr mo_Wr r0 r) : yS P f f2 p0 r0 r' := ⟨⟨y, g0.trans (mo_rn fr)⟩, by
  rw [(fr 950 33 (by unfold rn_W; omega)).1]
  exact h.2.2.2.2.1⟩
theorem fs.en (h : fs P nt f n2 Y n L ka a g k c r) (hV : en_V n 1 L v) : en (E_f f n v) c r := by
  obtain ⟨⟨_, _, _, ⟨_, _, v3, v4, v5, v6, v7⟩, _, _⟩, ⟨w1, w2, w3, w4⟩, _, hf, h33, h34⟩ := h
  refine ⟨?_, h33, by omega, h34, w1, v6, ?_, v7, by decide, Or.inr (Or.inl ⟨f, n, L, hf, v3, v4, w2, ⟨w1, fun i hi => ⟨(w4 i hi).1, (w4 i hi).2.1⟩⟩, hV⟩)⟩
  · unfold f_X6_home
    rw [v3, if_neg (nI_pos (by omega))]
  · rw [if_neg (by omega)]
theorem fs.mE (h : fs P nt f n2 Y n L ka a g k c r) (hV : en_V n 1 L v) (hf : f < n3) {b2 : Nat} : mE b2 n3 r (E_f f n v) := by
  obtain ⟨_, ⟨w1, w2, w3, w4⟩, _, hf', _⟩ := h
  exact ⟨rfl, Or.inr (Or.inr ⟨f, L, n, hf, hf', rfl, rfl, rfl, w1, w3, Nat.le_refl _, fun i hi => ⟨(w4 i hi).1, (w4 i hi).2.2⟩, hV⟩)⟩
/-- further on -/
theorem fs.up {k' : Nat → Nat} {Wc Wr : Nat → Nat → Prop} (h : fs P nt f n2 Y n L ka a g k c r) (hu : k 0 ≤ k' 0) (hq : k 1 ≤ k' 1) (o : k' 3 = k 3 ∧ k' 5 = k 5 ∧ k' 7 = k 7 ∧ k' 8 = k 8) (J : pj P (k' 0) 0 0 (k' 1) (k' 2) c' r') (fc : l2_fr Wc c c') (fr : l2_fr Wr r r') (w1 : ∀ b j, b = 6 ∨ b = 316 ∧ (j = 8 ∨ j = 10 ∨ j = 13) ∨ b = 353 ∧ (j = 9 ∨ j = 11) ∨ b = 334 ∧ j = 4 ∨ b = 428 ∧ (j = 0 ∨ j = 9) ∨ b = 845 ∧ (j = 7 ∨ j = 9 ∨ j = 15 ∨ j = 16) → ¬ Wc b j) (w1a : ¬ Wc 845 12 ∧ ¬ Wc 845 13 ∧ ¬ Wc 845 14) (w1b : ∀ b j, 429 ≤ b → b ≤ 434 → ¬ Wc b j) (w1c : ¬ Wc 440 f ∧ ∀ i, i < n → ¬ Wc 442 (8 * f + i)) (w2 : ∀ b j, b = 950 ∧ (j = 36 ∨ j = 26 ∨ j = 40 ∨ j = 44 ∨ j = 55 ∨ j = 64) ∨ b = 964 ∨ b = 967 ∨ b = 970 ∨ b = 980 → ¬ Wr b j) (w2a : ¬ Wr 950 33 ∧ ¬ Wr 950 34) (w2b : ∀ b j, (b = 950 ∧ j = 55) ∨ (b = 982 ∧ j = f) ∨ (970 ≤ b ∧ b ≤ 979 ∧ b ≠ 976 ∧ b ≠ 977 ∧ b ≠ 978) → ¬ Wr b j) (w2c : ¬ Wr 986 f ∧ ∀ i, i < n → ¬ Wr 984 (8 * f + i)) (h6 : c'.1 846 6 = nI (k' 6) ∧ k' 6 ≤ pc_c P (k' 0)) (h2 : c'.1 334 2 = nI (k' 4) ∧ k' 4 ≤ 2 * k' 1 + 2 * k' 9) (h18 : c'.1 428 18 = nI (k' 9) ∧ r'.1 950 81 = nI (k' 9) ∧ k' 9 ≤ 400) : fs P nt f n2 Y n L ka a g k' c' r' := by
  obtain ⟨M, hw, hh, hf, h33, h34⟩ := h
  have V := M.2.2.2.1
  obtain ⟨o1, o2, o3, o4⟩ := o
  refine ⟨?_, hw.fr fc fr w1c w2c, hh.fr fc fr w1b w2b, hf, ?_, ?_⟩
  · rw [o1, o2, o3, o4]
    exact M.up hu hq J fc fr w1 w2 h6 h2 h18 ⟨by rw [(fc 845 12 w1a.1).1]; exact V.2.2.1, by rw [(fc 845 13 w1a.2.1).1]; exact V.2.2.2.1, by rw [(fc 845 14 w1a.2.2).1]; exact V.2.2.2.2.1⟩
  · rw [(fr 950 33 w2a.1).1]; exact h33
  · rw [(fr 950 34 w2a.2).1]; exact h34
/-- another token on, some cells of rows written -/
def rw_Wc (ln b j : Nat) : Prop := la_W b j ∨ (b = 445 + ln ∧ j < 12)
def rw_Wr (ln b j : Nat) : Prop := nk_W b j ∨ (988 ≤ b ∧ b ≤ 1002 ∧ j = ln) ∨ (b = 950 ∧ j = 32)
theorem fs.go {k' : Nat → Nat} {ln : Nat} (h : fs P nt f n2 Y n L ka a g k c r) (hl : ln < 400) (hu : k 0 ≤ k' 0) (hq : k 1 ≤ k' 1) (o : k' 3 = k 3 ∧ k' 4 = k 4 ∧ k' 5 = k 5 ∧ k' 6 = k 6 ∧ k' 7 = k 7 ∧ k' 8 = k 8 ∧ k' 9 = k 9) (J : pj P (k' 0) 0 0 (k' 1) (k' 2) c' r') (fc : l2_fr (rw_Wc ln) c c') (fr : l2_fr (rw_Wr ln) r r') : fs P nt f n2 Y n L ka a g k' c' r' := by
  have M := h.1
  obtain ⟨J0, N, ⟨k1, k2, k3, k4, k5, k6, k7⟩, ⟨v1, v2, v3, v4, v5, v6, v7⟩, ⟨s1, s2, s3⟩, ⟨b1, b2, b3, b4, b5, b6, b7, b8, b9⟩⟩ := M
  obtain ⟨o3, o4, o5, o6, o7, o8, o9⟩ := o
  have cm := pc_c_mono P (k 0) (k' 0) hu
  refine h.up hu hq ⟨o3, o5, o7, o8⟩ J fc fr (fun b j y => ?_) ⟨?_, ?_, ?_⟩ (fun b j y1 y2 => ?_) ⟨?_, fun i hi => ?_⟩ (fun b j y => ?_) ⟨?_, ?_⟩ (fun b j y => ?_) ⟨?_, fun i hi => ?_⟩ ⟨?_, ?_⟩ ⟨?_, ?_⟩ ⟨?_, ?_, ?_⟩
  · unfold rw_Wc la_W; omega
  · unfold rw_Wc la_W; omega
  · unfold rw_Wc la_W; omega
  · unfold rw_Wc la_W; omega
  · unfold rw_Wc la_W; omega
  · unfold rw_Wc la_W; omega
  · unfold rw_Wc la_W; omega
  · unfold rw_Wr nk_W rn_W nm_W; omega
  · unfold rw_Wr nk_W rn_W nm_W; omega
  · unfold rw_Wr nk_W rn_W nm_W; omega
  · unfold rw_Wr nk_W rn_W nm_W; omega
  · unfold rw_Wr nk_W rn_W nm_W; omega
  · unfold rw_Wr nk_W rn_W nm_W; omega
  · rw [o6, (fc 846 6 (by unfold rw_Wc la_W; omega)).1]; exact k6
  · omega
  · rw [o4, (fc 334 2 (by unfold rw_Wc la_W; omega)).1]; exact k4
  · omega
  · rw [o9, (fc 428 18 (by unfold rw_Wc la_W; omega)).1]; exact k7
  · rw [o9, (fr 950 81 (by unfold rw_Wr nk_W rn_W nm_W; omega)).1]; exact s3
  · omega
end
