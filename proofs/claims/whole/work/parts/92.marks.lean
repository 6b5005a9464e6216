/-! Level 2: what reading exps and templs may write; small steps of the class's side. -/
/-- what the class may write: nodes of templates from t on, operations from e, the pool from p, links from l, what waits from w, names from o -/
def xWc (t e p l w o b j : Nat) : Prop := (b = 1 ∧ 7 ≤ j ∧ j ≤ 12) ∨ (b = 845 ∧ (j = 7 ∨ j = 9 ∨ j = 10)) ∨ (b = 334 ∧ (j = 2 ∨ j = 4)) ∨ ((b = 335 ∨ b = 336) ∧ e ≤ j) ∨ (b = 337 ∧ p ≤ j) ∨ (354 ≤ b ∧ b ≤ 362 ∧ t ≤ j) ∨ (b = 353 ∧ j = 9) ∨ (b = 846 ∧ 6 ≤ j ∧ j ≤ 8) ∨ (848 ≤ b ∧ b ≤ 853 ∧ l ≤ j) ∨ (b = 854 ∧ 2 * w ≤ j) ∨ (b = 855 ∧ o ≤ j)
/-- .. the reference: nodes from m on, signs from s -/
def xWr (m s b j : Nat) : Prop := (b = 950 ∧ ((2 ≤ j ∧ j ≤ 10) ∨ j = 14 ∨ j = 15 ∨ j = 24 ∨ j = 26 ∨ j = 28 ∨ j = 32 ∨ j = 36)) ∨ (952 ≤ b ∧ b ≤ 954) ∨ (955 ≤ b ∧ b ≤ 962 ∧ m ≤ j) ∨ (b = 963 ∧ s ≤ j) ∨ (b = 1003 ∧ m ≤ j)
theorem xWc.sub {t e p l w o t2 e2 p2 l2 w2 o2 b j : Nat} (h : xWc t2 e2 p2 l2 w2 o2 b j) (h1 : t ≤ t2) (h2 : e ≤ e2) (h3 : p ≤ p2) (h4 : l ≤ l2) (h5 : w ≤ w2) (h6 : o ≤ o2) : xWc t e p l w o b j := by
  rcases h with h | h | h | h | h | h | h | h | h | h | h
  · exact Or.inl h
  · exact Or.inr (Or.inl h)
  · exact Or.inr (Or.inr (Or.inl h))
  · exact Or.inr (Or.inr (Or.inr (Or.inl ⟨h.1, Nat.le_trans h2 h.2⟩)))
  · exact Or.inr (Or.inr (Or.inr (Or.inr (Or.inl ⟨h.1, Nat.le_trans h3 h.2⟩))))
  · exact Or.inr (Or.inr (Or.inr (Or.inr (Or.inr (Or.inl ⟨h.1, h.2.1, Nat.le_trans h1 h.2.2⟩)))))
  · exact Or.inr (Or.inr (Or.inr (Or.inr (Or.inr (Or.inr (Or.inl h))))))
  · exact Or.inr (Or.inr (Or.inr (Or.inr (Or.inr (Or.inr (Or.inr (Or.inl h)))))))
  · exact Or.inr (Or.inr (Or.inr (Or.inr (Or.inr (Or.inr (Or.inr (Or.inr (Or.inl ⟨h.1, h.2.1, Nat.le_trans h4 h.2.2⟩))))))))
  · exact Or.inr (Or.inr (Or.inr (Or.inr (Or.inr (Or.inr (Or.inr (Or.inr (Or.inr (Or.inl ⟨h.1, by omega⟩)))))))))
  · exact Or.inr (Or.inr (Or.inr (Or.inr (Or.inr (Or.inr (Or.inr (Or.inr (Or.inr (Or.inr ⟨h.1, Nat.le_trans h6 h.2⟩)))))))))
/-- cells told one by one -/
theorem xWc.i1 {t e p l w o j : Nat} (h : 7 ≤ j ∧ j ≤ 12) : xWc t e p l w o 1 j := Or.inl ⟨rfl, h⟩
theorem xWc.i845 {t e p l w o j : Nat} (h : j = 7 ∨ j = 9 ∨ j = 10) : xWc t e p l w o 845 j := Or.inr (Or.inl ⟨rfl, h⟩)
theorem xWc.i334 {t e p l w o j : Nat} (h : j = 2 ∨ j = 4) : xWc t e p l w o 334 j := Or.inr (Or.inr (Or.inl ⟨rfl, h⟩))
theorem xWc.iop {t e p l w o b j : Nat} (h : b = 335 ∨ b = 336) (g : e ≤ j) : xWc t e p l w o b j := Or.inr (Or.inr (Or.inr (Or.inl ⟨h, g⟩)))
theorem xWc.ipl {t e p l w o j : Nat} (g : p ≤ j) : xWc t e p l w o 337 j := Or.inr (Or.inr (Or.inr (Or.inr (Or.inl ⟨rfl, g⟩))))
theorem xWc.itm {t e p l w o b j : Nat} (h : 354 ≤ b) (h2 : b ≤ 362) (g : t ≤ j) : xWc t e p l w o b j := Or.inr (Or.inr (Or.inr (Or.inr (Or.inr (Or.inl ⟨h, h2, g⟩)))))
theorem xWc.i353 {t e p l w o : Nat} : xWc t e p l w o 353 9 := Or.inr (Or.inr (Or.inr (Or.inr (Or.inr (Or.inr (Or.inl ⟨rfl, rfl⟩))))))
theorem xWc.i846 {t e p l w o j : Nat} (h : 6 ≤ j ∧ j ≤ 8) : xWc t e p l w o 846 j := Or.inr (Or.inr (Or.inr (Or.inr (Or.inr (Or.inr (Or.inr (Or.inl ⟨rfl, h⟩)))))))
theorem xWc.iln {t e p l w o b j : Nat} (h : 848 ≤ b) (h2 : b ≤ 853) (g : l ≤ j) : xWc t e p l w o b j := Or.inr (Or.inr (Or.inr (Or.inr (Or.inr (Or.inr (Or.inr (Or.inr (Or.inl ⟨h, h2, g⟩))))))))
theorem xWc.iwt {t e p l w o j : Nat} (g : 2 * w ≤ j) : xWc t e p l w o 854 j := Or.inr (Or.inr (Or.inr (Or.inr (Or.inr (Or.inr (Or.inr (Or.inr (Or.inr (Or.inl ⟨rfl, g⟩)))))))))
theorem xWc.inm {t e p l w o j : Nat} (g : o ≤ j) : xWc t e p l w o 855 j := Or.inr (Or.inr (Or.inr (Or.inr (Or.inr (Or.inr (Or.inr (Or.inr (Or.inr (Or.inr ⟨rfl, g⟩)))))))))
theorem xWr.sub {m s m2 s2 b j : Nat} (h : xWr m2 s2 b j) (h1 : m ≤ m2) (h2 : s ≤ s2) : xWr m s b j := by
  rcases h with h | h | h | h | h
  · exact Or.inl h
  · exact Or.inr (Or.inl h)
  · exact Or.inr (Or.inr (Or.inl ⟨h.1, h.2.1, Nat.le_trans h1 h.2.2⟩))
  · exact Or.inr (Or.inr (Or.inr (Or.inl ⟨h.1, Nat.le_trans h2 h.2⟩)))
  · exact Or.inr (Or.inr (Or.inr (Or.inr ⟨h.1, Nat.le_trans h1 h.2⟩)))
theorem x_la {t e p l w o b j : Nat} (h : la_W b j) : xWc t e p l w o b j := Or.inl h
theorem x_rn {m s b j : Nat} (h : rn_W b j) : xWr m s b j := Or.inl ⟨h.1, Or.inl h.2⟩
theorem x_nm {m s b j : Nat} (h : nm_W b j) : xWr m s b j := by
  rcases h with h | ⟨h, g⟩
  · exact Or.inr (Or.inl h)
  · exact Or.inl ⟨h, by omega⟩
theorem x_nd {m n s b j : Nat} (h : nd_W n b j) (hn : m ≤ n) : xWr m s b j := by
  rcases h with h | ⟨h, g⟩
  · exact Or.inr (Or.inr (Or.inl ⟨h.1, h.2.1, by omega⟩))
  · exact Or.inl ⟨h, by omega⟩
/-- an operation -/
theorem em_emit {s : t_S} {e : Nat} (x1 x2 : Int32) (h : s.1 334 2 = nI e) (he : e < 16000) : t_hk (f_X0_emit x1 x2 s) (fun y => y.1 = nI e ∧ l2_fr (fun b j => (b = 334 ∧ j = 2) ∨ ((b = 335 ∨ b = 336) ∧ j = e)) s y.2 ∧ y.2.1 334 2 = nI (e + 1) ∧ y.2.1 335 e = x1 ∧ y.2.1 336 e = x2) := by
  have ix : t_ix (nI e) 16000 = true := l2_ix he (by decide)
  unfold f_X0_emit
  rw [h]
  refine l2_ck (show nI e < (16000 : Int32) from nI_lt (b := 16000) he (by decide)) (l2_ck ix (l2_lt ?_))
  rw [nI_clamp (by omega)]
  have g1 : (t_setI s 335 e x1).1 334 2 = nI e := by
    simp only [l2_gI, Nat.reduceEqDiff, reduceIte]
    exact h
  rw [g1]
  refine l2_ck ix (l2_lt (l2_lt (l2_sm ⟨?_, ?_, ?_, ?_, ?_⟩)))
  · simp only [l2_gI, Nat.reduceEqDiff, reduceIte]
    rw [h, nI_1, nI_pred]
  · rw [nI_clamp (by omega)]
    exact ((l2_fr.set (Or.inr ⟨Or.inl rfl, rfl⟩)).trans (l2_fr.set (Or.inr ⟨Or.inr rfl, rfl⟩))).trans (l2_fr.set (Or.inl ⟨rfl, rfl⟩))
  · simp only [l2_gI, Nat.reduceEqDiff, reduceIte]
    rw [h, nI_1]
  · simp only [l2_gI, Nat.reduceEqDiff, reduceIte]
  · rw [nI_clamp (by omega)]
    simp only [l2_gI, Nat.reduceEqDiff, reduceIte]
/-- .. with or without room -/
theorem em_any {s : t_S} {e : Nat} (x1 x2 : Int32) (h : s.1 334 2 = nI e) (he : e ≤ 16000) : t_hk (f_X0_emit x1 x2 s) (fun y => l2_fr (fun b j => (b = 334 ∧ j = 2) ∨ ((b = 335 ∨ b = 336) ∧ e ≤ j)) s y.2 ∧ (∃ e', e ≤ e' ∧ e' ≤ 16000 ∧ y.2.1 334 2 = nI e') ∧ ∃ j, j < 16000 ∧ e ≤ j + 1 ∧ y.1 = nI j) := by
  by_cases z : e < 16000
  · refine l2_imp (em_emit x1 x2 h z) (fun y hy => ?_)
    obtain ⟨y1, y2, y3, _⟩ := hy
    exact ⟨y2.mono (fun b j w => by omega), ⟨e + 1, by omega, by omega, y3⟩, e, z, by omega, y1⟩
  · have e1 : e = 16000 := by omega
    subst e1
    unfold f_X0_emit
    rw [h]
    exact l2_no (by decide) (l2_sm ⟨l2_fr.rf, ⟨16000, by omega, by omega, h⟩, 15999, by omega, by omega, rfl⟩)
/-- a cell of the pool -/
theorem pl_cell {s : t_S} {p : Nat} (x : Int64) (h : s.1 334 4 = nI p) (hp : p < 26000) : t_hk (f_X0_poolCell x s) (fun y => y.1 = nI p ∧ l2_fr (fun b j => (b = 334 ∧ j = 4) ∨ (b = 337 ∧ j = p)) s y.2 ∧ y.2.1 334 4 = nI (p + 1) ∧ y.2.2.1 337 p = x) := by
  unfold f_X0_poolCell
  rw [h]
  refine l2_ck (show nI p < (26000 : Int32) from nI_lt (b := 26000) hp (by decide)) (l2_ck (l2_ix hp (by decide)) (l2_lt (l2_lt ?_)))
  rw [nI_clamp (by omega)]
  have g1 : (t_setJ s 337 p x).1 334 4 = nI p := h
  refine l2_sm ⟨?_, (l2_fr.setJ (Or.inr ⟨rfl, rfl⟩)).trans (l2_fr.set (Or.inl ⟨rfl, rfl⟩)), ?_, ?_⟩
  · simp only [l2_gI, l2_gJI, reduceIte]
    rw [h, nI_1, nI_pred]
  · simp only [l2_gI, l2_gJI, reduceIte]
    rw [h, nI_1]
  · simp only [l2_gIJ, l2_gJ, reduceIte]
/-- a node of the class's templates as it is made -/
def tm_at (c : t_S) (t : Nat) (lv : Int32) : Prop := c.1 354 t = 1 ∧ c.1 355 t = -1 ∧ c.1 356 t = -1 ∧ c.1 357 t = -1 ∧ c.1 358 t = lv ∧ c.1 359 t = 0 ∧ c.1 360 t = 0 ∧ c.2.1 361 t = 0 ∧ c.2.1 362 t = 0
def tm_W (t b j : Nat) : Prop := (354 ≤ b ∧ b ≤ 362 ∧ j = t) ∨ (b = 353 ∧ j = 9)
theorem tm_add {s : t_S} {t : Nat} (lv : Int32) (h : s.1 353 9 = nI t) (ht : t < 6100) : t_hk (f_X10_add lv s) (fun y => y.1 = nI t ∧ l2_fr (tm_W t) s y.2 ∧ y.2.1 353 9 = nI (t + 1) ∧ tm_at y.2 t lv) := by
  unfold f_X10_add
  rw [h]
  refine l2_ck (show nI t < (6100 : Int32) from nI_lt (b := 6100) ht (by decide)) ?_
  rw [nI_1]
  refine l2_lt (l2_ck (l2_ix ht (by decide)) ?_)
  rw [nI_clamp (by omega)]
  refine l2_lt (l2_lt (l2_lt (l2_lt (l2_lt (l2_lt (l2_lt (l2_lt (l2_lt (l2_sm ⟨rfl, ?_, ?_, ?_⟩)))))))))
  · exact (((((((((l2_fr.set (Or.inr ⟨rfl, rfl⟩)).trans (l2_fr.set (Or.inl ⟨by decide, by decide, rfl⟩))).trans (l2_fr.set (Or.inl ⟨by decide, by decide, rfl⟩))).trans (l2_fr.set (Or.inl ⟨by decide, by decide, rfl⟩))).trans (l2_fr.set (Or.inl ⟨by decide, by decide, rfl⟩))).trans (l2_fr.set (Or.inl ⟨by decide, by decide, rfl⟩))).trans (l2_fr.set (Or.inl ⟨by decide, by decide, rfl⟩))).trans (l2_fr.set (Or.inl ⟨by decide, by decide, rfl⟩))).trans (l2_fr.setJ (Or.inl ⟨by decide, by decide, rfl⟩))).trans (l2_fr.setJ (Or.inl ⟨by decide, by decide, rfl⟩))
  · simp only [l2_gI, l2_gJI, Nat.reduceEqDiff, reduceIte]
  · refine ⟨?_, ?_, ?_, ?_, ?_, ?_, ?_, ?_, ?_⟩ <;> simp only [l2_gI, l2_gJI, l2_gJ, l2_gIJ, Nat.reduceEqDiff, reduceIte, eq_self]
/-- a literal -/
theorem tm_lit {s : t_S} {t p : Nat} (ht : t < 6100) (hp : p < 26000) : t_hk (f_X10_setLiteral (nI t) (nI p) s) (fun s' => l2_fr (fun b j => (b = 354 ∨ b = 357) ∧ j = t) s s' ∧ s'.1 354 t = (if f_X8_kind (s.2.1 337 p) s = 4 then 5 else 4) ∧ s'.1 357 t = nI p) := by
  have ixt : t_ix (nI t) 6100 = true := l2_ix ht (by decide)
  have go : ∀ k : Int32, t_hk (k_X10_setLiteral_26 (nI t) (nI p) k (nI t) s) (fun s' => l2_fr (fun b j => (b = 354 ∨ b = 357) ∧ j = t) s s' ∧ s'.1 354 t = k ∧ s'.1 357 t = nI p) := by
    intro k
    unfold k_X10_setLiteral_26
    refine l2_ck ixt (l2_lt (l2_ck ixt (l2_lt ?_)))
    rw [nI_clamp (n := t) (by omega)]
    refine l2_sm ⟨(l2_fr.set ⟨Or.inl rfl, rfl⟩).trans (l2_fr.set ⟨Or.inr rfl, rfl⟩), ?_, ?_⟩ <;> simp only [l2_gI, Nat.reduceEqDiff, reduceIte]
  unfold f_X10_setLiteral
  refine l2_ck (l2_ix hp (by decide)) ?_
  rw [nI_clamp (n := p) (by omega)]
  by_cases z : f_X8_kind (s.2.1 337 p) s = 4
  · rw [if_pos z, if_pos z]; exact go 5
  · rw [if_neg z, if_neg z]; exact go 4
/-- what waits -/
theorem pw_push {s : t_S} {w : Nat} (x y : Int32) (h : s.1 845 7 = nI w) (hw : w ≤ 3000) : t_hk (f_X6_pushWaiting x y s) (fun s' => l2_fr (fun b j => (b = 845 ∧ j = 7) ∨ (b = 854 ∧ (j = 2 * w ∨ j = 2 * w + 1))) s s' ∧ s'.1 845 7 = nI (w + 1) ∧ s'.1 854 (2 * w) = x ∧ s'.1 854 (2 * w + 1) = y) := by
  unfold f_X6_pushWaiting
  rw [h]
  refine l2_ck (show nI w ≤ (3000 : Int32) from nI_le (b := 3000) hw (by decide)) ?_
  have e2 : (2 : Int32) * nI w = nI (2 * w) := pk_mul 2 w
  rw [e2]
  refine l2_ck (l2_ix (by omega) (by decide)) (l2_lt ?_)
  rw [nI_clamp (by omega)]
  have g1 : (t_setI s 854 (2 * w) x).1 845 7 = nI w := by
    simp only [l2_gI, Nat.reduceEqDiff, reduceIte]
    exact h
  rw [g1, e2, nI_1]
  refine l2_ck (l2_ix (by omega) (by decide)) (l2_lt ?_)
  rw [nI_clamp (by omega)]
  have ne : ¬ 2 * w = 2 * w + 1 := by omega
  refine l2_lt (l2_sm ⟨((l2_fr.set (Or.inr ⟨rfl, Or.inl rfl⟩)).trans (l2_fr.set (Or.inr ⟨rfl, Or.inr rfl⟩))).trans (l2_fr.set (Or.inl ⟨rfl, rfl⟩)), ?_, ?_, ?_⟩)
  · simp only [l2_gI, Nat.reduceEqDiff, reduceIte]
    rw [h, nI_1]
  · simp only [l2_gI, Nat.reduceEqDiff, reduceIte, if_neg ne]
  · simp only [l2_gI, Nat.reduceEqDiff, reduceIte]
/-- what waits on top: it waits no more -/
theorem pw_top {s : t_S} {w : Nat} (h : s.1 845 7 = nI (w + 1)) (hw : w ≤ 3000) : f_X6_bindingOfTop s = some (f_X6_bindingOf (s.1 854 (2 * w)) s) := by
  unfold f_X6_bindingOfTop
  have e2 : (2 : Int32) * nI (w + 1) - 2 = nI (2 * w) := by
    rw [show (2 : Int32) * nI (w + 1) = nI (2 * (w + 1)) from pk_mul 2 (w + 1), show (2 : Int32) = nI 2 from rfl, pk_sub (by omega)]
    congr 1
  rw [h, e2, if_pos (l2_ix (by omega) (by decide)), nI_clamp (by omega)]
/-- a fault that counts if reading meets none: nothing but its cells changes -/
theorem lt_fr (x y : Int32) (s : t_S) : t_hk (f_X3_late x y s) (fun s' => l2_fr (fun b j => b = 846 ∧ (j = 7 ∨ j = 8)) s s' ∧ ((s' = s ∧ s.1 846 7 ≠ 0 ∧ (s.1 846 8 < y ∨ s.1 846 8 = y ∧ s.1 846 7 ≤ x)) ∨ (s'.1 846 7 = x ∧ s'.1 846 8 = y ∧ (s.1 846 7 = 0 ∨ y < s.1 846 8 ∨ y = s.1 846 8 ∧ x < s.1 846 7)))) := by
  have go : (s.1 846 7 = 0 ∨ y < s.1 846 8 ∨ y = s.1 846 8 ∧ x < s.1 846 7) → t_hk (k_X3_late_31 x y s) (fun s' => l2_fr (fun b j => b = 846 ∧ (j = 7 ∨ j = 8)) s s' ∧ ((s' = s ∧ s.1 846 7 ≠ 0 ∧ (s.1 846 8 < y ∨ s.1 846 8 = y ∧ s.1 846 7 ≤ x)) ∨ (s'.1 846 7 = x ∧ s'.1 846 8 = y ∧ (s.1 846 7 = 0 ∨ y < s.1 846 8 ∨ y = s.1 846 8 ∧ x < s.1 846 7)))) := by
    intro q
    unfold k_X3_late_31
    refine l2_lt (l2_lt (l2_sm ⟨(l2_fr.set ⟨rfl, Or.inl rfl⟩).trans (l2_fr.set ⟨rfl, Or.inr rfl⟩), Or.inr ⟨?_, ?_, q⟩⟩)) <;> simp only [l2_gI, Nat.reduceEqDiff, reduceIte]
  unfold f_X3_late
  refine l2_if (fun a => go (Or.inl a)) (fun a => l2_if (fun b => go (Or.inr (Or.inl b))) (fun b => l2_if (fun d => l2_if (fun g => l2_sm ⟨l2_fr.rf, Or.inl ⟨rfl, a, Or.inr ⟨d.symm, g⟩⟩⟩) (fun g => go (Or.inr (Or.inr ⟨d, Int32.not_le.mp g⟩)))) (fun d => l2_sm ⟨l2_fr.rf, Or.inl ⟨rfl, a, Or.inl ?_⟩⟩)))
  rw [Int32.lt_iff_toInt_lt] at b ⊢
  have : y.toInt ≠ (s.1 846 8).toInt := fun e => d (Int32.toInt_inj.mp e)
  omega
/-- the number of a templ's node in the reference -/
theorem nd_ti53 {s : t_S} {K j i : Nat} {x : Int32 × t_S} (hK : K < 1000) (h26 : s.1 950 26 = nI i) (hj : j < 13000) (h : k_X13_node_53 (nI K) (nI j) s = some x) : (20 ≤ K ∧ K ≤ 41 → x.2.1 962 j = nI i ∧ x.2.1 950 26 = nI (i + 1)) ∧ (¬ (20 ≤ K ∧ K ≤ 41) → x.2.1 950 26 = nI i) := by
  have fin : ∀ s : t_S, f_X13_in (nI K).toInt64 20 41 s = if 20 ≤ K ∧ K ≤ 41 then 1 else 0 := by
    intro s
    unfold f_X13_in
    rw [nI_l (by omega)]
    have tv : (lN K).toInt = K := pk_lT (by omega)
    have lo : lg_cmp (lN K) 20 < 0 ↔ K < 20 := by rw [t_cmp_lt, tv, show (20 : Int64).toInt = 20 from rfl]; omega
    have hi : 0 < lg_cmp (lN K) 41 ↔ 41 < K := by rw [t_cmp_gt, tv, show (41 : Int64).toInt = 41 from rfl]; omega
    by_cases c1 : K < 20
    · rw [if_pos (lo.mpr c1), if_neg (by omega)]
    · rw [if_neg (fun y => c1 (lo.mp y))]
      by_cases c2 : 41 < K
      · rw [if_pos (hi.mpr c2), if_neg (by omega)]
      · rw [if_neg (fun y => c2 (hi.mp y)), if_pos (by omega)]
  unfold k_X13_node_53 at h
  simp only [t_let] at h
  rw [if_pos (l2_ix hj (by decide)), nI_clamp (by omega), fin] at h
  by_cases z : 20 ≤ K ∧ K ≤ 41
  · rw [if_pos z, if_neg (by decide)] at h
    refine ⟨fun _ => ?_, fun y => absurd z y⟩
    cases h
    refine ⟨?_, ?_⟩
    · simp only [l2_gI, l2_gJI, Nat.reduceEqDiff, reduceIte, eq_self]
      exact h26
    · simp only [l2_gI, l2_gJI, Nat.reduceEqDiff, reduceIte]
      rw [h26, nI_1]
  · rw [if_neg z, if_pos rfl] at h
    refine ⟨fun y => absurd y z, fun _ => ?_⟩
    cases h
    simp only [l2_gI, l2_gJI, Nat.reduceEqDiff, reduceIte]
    exact h26
