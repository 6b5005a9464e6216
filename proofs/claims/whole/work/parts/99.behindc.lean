/-! Level 2: the class behind a fault, in an exp or templ. -/
theorem xl_one {σ ρ : Type} {b : σ → Option (σ ⊕ ρ)} {x : σ} {Q : ρ → Prop} (h : t_hk (b x) (fun z => ∃ r, z = .inr r ∧ Q r)) : t_hk (t_loop b t_N x) Q := by
  obtain ⟨z, e, r, rfl, q⟩ := h
  exact ⟨r, l2_tnR (y := x) l2_tn.nil (by decide) e, q⟩
def bC (F : t_S → Option t_S) : Prop := ∀ f p0 t e p l w o w' c0 c, xF f p0 t e p l w o w' c0 c → t_hk (F c) (xF f p0 t e p l w o w' c0)
def bC2 (F : t_S → Option (Int32 × t_S)) : Prop := ∀ f p0 t e p l w o w' c0 c, xF f p0 t e p l w o w' c0 c → t_hk (F c) (fun y => xF f p0 t e p l w o w' c0 y.2)
def bCn (n : Nat) (F : t_S → Option t_S) : Prop := ∀ f p0 t e p l w o w' c0 c, xF f p0 t e p l w o w' c0 c → t ≤ n → t_hk (F c) (xF f p0 t e p l w o w' c0)
theorem xF.tok {f p0 t e p l w o w' : Nat} {c0 c : t_S} (h : xF f p0 t e p l w o w' c0 c) : f_X6_beginsBase (c.1 1 8) c = 0 ∧ f_X6_beginsExp (c.1 1 8) c = 0 ∧ f_X6_beginsTempl (c.1 1 8) c = 0 ∧ f_X6_bindingOf (c.1 1 8) c = 0 := by
  rw [h.stay.2.2.2.1]
  exact ⟨rfl, rfl, rfl, rfl⟩
theorem xF.word {f p0 t e p l w o w' : Nat} {c0 c : t_S} (h : xF f p0 t e p l w o w' c0 c) : ¬ c.1 1 8 = 1 := by
  rw [h.stay.2.2.2.1]
  decide
theorem ite_P {α : Type} (P : α → Prop) {c : Prop} [Decidable c] {a b : α} (ha : P a) (hb : P b) : P (if c then a else b) := by
  by_cases z : c
  · rw [if_pos z]; exact ha
  · rw [if_neg z]; exact hb
theorem bo_all (P : Int32 → Prop) (x : Int32) (s : t_S) (h0 : P 0) (h1 : P 1) (h2 : P 2) (h3 : P 3) (h4 : P 4) (h5 : P 5) : P (f_X6_bindingOf x s) := by
  unfold f_X6_bindingOf
  repeat' (first | assumption | refine ite_P P ?_ ?_)
theorem bo_le (x : Int32) (s : t_S) : ∃ n : Nat, n ≤ 5 ∧ f_X6_bindingOf x s = nI n := bo_all (fun v => ∃ n : Nat, n ≤ 5 ∧ v = nI n) x s ⟨0, by decide, rfl⟩ ⟨1, by decide, rfl⟩ ⟨2, by decide, rfl⟩ ⟨3, by decide, rfl⟩ ⟨4, by decide, rfl⟩ ⟨5, by decide, rfl⟩
/-- one that waits is let go -/
theorem xF.down {f p0 t e p l w o w' : Nat} {c0 c : t_S} (h : xF f p0 t e p l w o (w' + 1) c0 c) (hw : w ≤ w') : xF f p0 t e p l w o w' c0 (t_setI c 845 7 (nI w')) := by
  obtain ⟨h1, h2, ⟨e', h3, h4, h5⟩, ⟨o', h6, h7, h8⟩, h9, h10, h11, h12⟩ := h
  have g : l2_fr (fun b j => b = 845 ∧ j = 7) c (t_setI c 845 7 (nI w')) := l2_fr.set ⟨rfl, rfl⟩
  have v : (t_setI c 845 7 (nI w')).1 845 7 = nI w' := by simp only [l2_gI, reduceIte]
  generalize t_setI c 845 7 (nI w') = c' at *
  refine ⟨h1.fr g (fun j _ _ => by omega), h2.trans (g.mono (fun b j y => by obtain ⟨rfl, rfl⟩ := y; exact xWc.i845 (Or.inl rfl))), ⟨e', h3, h4, by rw [(g 334 2 (by omega)).1]; exact h5⟩, ⟨o', h6, h7, by rw [(g 845 9 (by omega)).1]; exact h8⟩, v, hw, by omega, fun i a b d => ?_⟩
  rw [(g 854 _ (by omega)).1] at d ⊢
  exact h12 i a (by omega) d
/-- all that waits above wb is let go: behind a base -/
theorem xF.pops {f p0 t e p l w o wb : Nat} {c0 : t_S} {rc : RT_X6_readBase} (hb : w ≤ wb) : ∀ (w' : Nat) (c : t_S), wb ≤ w' → xF f p0 t e p l w o w' c0 c → t_hk (t_loop (b_X6_readOne_313 rc) t_N (nI wb, c)) (xF f p0 t e p l w o wb c0) := by
  intro w' c hw h
  refine l2_lp (fun k y => ∃ c1, y = (nI wb, c1) ∧ wb + k ≤ 3001 ∧ xF f p0 t e p l w o (wb + k) c0 c1) ?_ (m := w' - wb) (Nat.lt_trans (show w' - wb < 1000000000 by have := h.2.2.2.2.2.2.1; omega) l2_N) ⟨c, rfl, by have := h.2.2.2.2.2.2.1; omega, by rw [show wb + (w' - wb) = w' by omega]; exact h⟩
  rintro k y ⟨c1, rfl, hk, h⟩
  show t_hk (k_X6_readOne_313 rc (nI wb) c1) _
  unfold k_X6_readOne_313
  have e7 : c1.1 845 7 = nI (wb + k) := h.2.2.2.2.1
  rw [e7]
  by_cases z : k = 0
  · subst z
    exact l2_ck (nI_le (Nat.le_refl _) (by omega)) (l2_mp (l2_sm h))
  · obtain ⟨j, rfl⟩ : ∃ j, k = j + 1 := ⟨k - 1, by omega⟩
    refine l2_no (nI_ge (by omega) (by omega)) ?_
    rw [show wb + (j + 1) = wb + j + 1 by omega, nI_pred]
    have h2 := xF.down (w' := wb + j) h (by omega)
    have g7 : (t_setI c1 845 7 (nI (wb + j))).1 845 7 = nI (wb + j) := h2.2.2.2.2.1
    refine l2_lt ?_
    rw [g7, show (2 : Int32) * nI (wb + j) = nI (2 * (wb + j)) from pk_mul 2 _, nI_1]
    refine l2_ck (l2_ix (by omega) (by decide)) (l2_ck (l2_ix (by omega) (by decide)) (l2_bd _ (h2.emit _ _) (fun y hy => l2_sm ⟨j, by omega, y.2, rfl, by omega, hy.1⟩)))
/-- .. of operators: lower -/
theorem xF.lower {f p0 t e p l w o wb w' : Nat} {c0 c : t_S} (hb : w ≤ wb) (hw : wb ≤ w') (h : xF f p0 t e p l w o w' c0 c) : t_hk (f_X6_lower (nI wb) 0 c) (xF f p0 t e p l w o wb c0) := by
  unfold f_X6_lower
  refine l2_lp (fun k y => ∃ c1, y = (nI wb, 0, c1) ∧ wb + k ≤ 3001 ∧ xF f p0 t e p l w o (wb + k) c0 c1) ?_ (m := w' - wb) (Nat.lt_trans (show w' - wb < 1000000000 by have := h.2.2.2.2.2.2.1; omega) l2_N) ⟨c, rfl, by have := h.2.2.2.2.2.2.1; omega, by rw [show wb + (w' - wb) = w' by omega]; exact h⟩
  rintro k y ⟨c1, rfl, hk, h⟩
  show t_hk (k_X6_lower_0 (nI wb) 0 c1) _
  unfold k_X6_lower_0
  have e7 : c1.1 845 7 = nI (wb + k) := h.2.2.2.2.1
  by_cases z : k = 0
  · subst z
    rw [e7]
    exact l2_ck (nI_le (Nat.le_refl _) (by omega)) (l2_mp (l2_sm h))
  · obtain ⟨j, rfl⟩ : ∃ j, k = j + 1 := ⟨k - 1, by omega⟩
    have e7' : c1.1 845 7 = nI (wb + j + 1) := e7
    have ok := h.2.2.2.2.2.2.2 (wb + j) (by omega) (by omega)
    have h2 := xF.down (w' := wb + j) h (by omega)
    have go : t_hk (k_X6_lower_29 (nI wb) 0 c1) (l2_nx (fun z => ∃ i, i < j + 1 ∧ ∃ c2, z = (nI wb, 0, c2) ∧ wb + i ≤ 3001 ∧ xF f p0 t e p l w o (wb + i) c0 c2) (xF f p0 t e p l w o wb c0)) := by
      unfold k_X6_lower_29
      rw [e7', nI_pred]
      have g7 : (t_setI c1 845 7 (nI (wb + j))).1 845 7 = nI (wb + j) := h2.2.2.2.2.1
      have g8 : ∀ i, (t_setI c1 845 7 (nI (wb + j))).1 854 i = c1.1 854 i := fun i => by simp only [l2_gI, Nat.reduceEqDiff, reduceIte]
      generalize t_setI c1 845 7 (nI (wb + j)) = c2 at *
      refine l2_lt ?_
      rw [g7, show (2 : Int32) * nI (wb + j) = nI (2 * (wb + j)) from pk_mul 2 _]
      refine l2_ck (l2_ix (by omega) (by decide)) ?_
      rw [nI_clamp (by omega), g8]
      have logic : (c1.1 854 (2 * (wb + j)) = 16 ∨ c1.1 854 (2 * (wb + j)) = 17) → t_hk (k_X6_lower_63 (nI wb) 0 c2) (l2_nx (fun z => ∃ i, i < j + 1 ∧ ∃ c2, z = (nI wb, 0, c2) ∧ wb + i ≤ 3001 ∧ xF f p0 t e p l w o (wb + i) c0 c2) (xF f p0 t e p l w o wb c0)) := by
        intro q
        obtain ⟨x, x1, x2, x3⟩ := ok q
        unfold k_X6_lower_63
        refine l2_bd _ (h2.emit 30 0) (fun y hy => ?_)
        obtain ⟨y1, _, y3⟩ := hy
        rw [y1.2.2.2.2.1, show (2 : Int32) * nI (wb + j) = nI (2 * (wb + j)) from pk_mul 2 _, nI_1]
        refine l2_ck (l2_ix (by omega) (by decide)) ?_
        rw [nI_clamp (by omega), y3, g8, x3]
        refine l2_ck (l2_ix x2 (by decide)) (l2_lt (l2_sm ⟨j, by omega, _, rfl, by omega, ?_⟩))
        rw [nI_clamp (by omega)]
        exact y1.fr (W := fun b i => b = 336 ∧ i = x) (l2_fr.set ⟨rfl, rfl⟩) (fun b i z => xWc.iop (Or.inr z.1) (by omega)) (fun j _ _ => by omega) (by omega) (by omega) (fun j => by omega)
      refine l2_if (fun q => logic (Or.inl q)) (fun _ => l2_if (fun q => logic (Or.inr q)) (fun _ => l2_bd _ (h2.emit _ _) (fun y hy => l2_sm ⟨j, by omega, y.2, rfl, by omega, hy.1⟩)))
    rw [e7]
    refine l2_no (nI_ge (by omega) (by omega)) ?_
    rw [pw_top e7' (by omega)]
    refine l2_if (fun _ => go) (fun n0 => l2_if (fun _ => l2_no (by decide) go) (fun y => ?_))
    exfalso
    obtain ⟨v, v1, v2⟩ := bo_le (c1.1 854 (2 * (wb + j))) c1
    rw [v2] at n0 y
    by_cases v0 : v = 0
    · exact y (by rw [v0]; rfl)
    · exact n0 ((nI_ltI (a := 0) (by decide) (by omega)).mpr (by omega))
/-- readOne, behind its first signs -/
theorem xF.one144 {f p0 t e p l w o w' wb : Nat} {c0 c : t_S} {rc : RT_X6_readBase} (h : xF f p0 t e p l w o w' c0 c) (hb : w ≤ wb) (hw : wb ≤ w') (x : Int32) : t_hk (k_X6_readOne_144 rc x (nI wb) c) (xF f p0 t e p l w o wb c0) := by
  unfold k_X6_readOne_144
  refine l2_ck h.tok.1 (l2_eq (h.stay.2.1 _) ?_)
  unfold k_X6_readOne_165
  refine l2_bd _ h.node (fun c1 h1 => l2_no h1.stay.2.2.2.2 ?_)
  unfold k_X6_readOne_184
  refine xl_one ?_
  show t_hk (k_X6_readOne_186 rc x (nI wb) 0 c1) _
  unfold k_X6_readOne_186
  refine l2_no (by decide) (l2_no h1.stay.2.2.2.2 (l2_mp (l2_imp (xF.pops hb w' c1 hw h1) (fun c2 h2 => ⟨c2, rfl, h2⟩))))
theorem xF.one186 {f p0 t e p l w o w' wb : Nat} {k : Int32} {c0 c : t_S} {rc : RT_X6_readBase} (h : xF f p0 t e p l w o w' c0 c) (hb : w ≤ wb) (hw : wb ≤ w') (x : Int32) : t_hk (t_loop (b_X6_readOne_186 rc) t_N (x, nI wb, k, c)) (xF f p0 t e p l w o wb c0) := by
  refine xl_one ?_
  show t_hk (k_X6_readOne_186 rc x (nI wb) k c) _
  unfold k_X6_readOne_186
  have q := l2_imp (xF.pops (rc := rc) hb w' c hw h) (fun c2 h2 => (⟨c2, rfl, h2⟩ : ∃ r, (Sum.inr c2 : (Int32 × Int32 × Int32 × t_S) ⊕ t_S) = .inr r ∧ xF f p0 t e p l w o wb c0 r))
  exact l2_if (fun _ => l2_mp q) (fun _ => l2_no h.stay.2.2.2.2 (l2_mp q))
theorem xF.one7 {f p0 t e p l w o w' wb : Nat} {k : Int32} {c0 c : t_S} {rc : RT_X6_readBase} (h : xF f p0 t e p l w o w' c0 c) (hb : w ≤ wb) (hw : wb ≤ w') (x : Int32) : t_hk (t_loop (b_X6_readOne_7 rc) t_N (x, nI wb, k, c)) (xF f p0 t e p l w o wb c0) := by
  refine xl_one ?_
  show t_hk (k_X6_readOne_7 rc x (nI wb) k c) _
  unfold k_X6_readOne_7
  have q := l2_imp (h.one144 (rc := rc) hb hw x) (fun c2 h2 => (⟨c2, rfl, h2⟩ : ∃ r, (Sum.inr c2 : (Int32 × Int32 × Int32 × t_S) ⊕ t_S) = .inr r ∧ xF f p0 t e p l w o wb c0 r))
  exact l2_if (fun _ => l2_mp q) (fun _ => l2_no h.stay.2.2.2.2 (l2_mp q))
theorem bf_one (rc : RT_X6_readBase) (x : Int32) : bC (m_X6_readOne rc x) := by
  intro f p0 t e p l w o w' c0 c h
  unfold m_X6_readOne
  rw [h.2.2.2.2.1]
  exact h.one7 h.2.2.2.2.2.1 (Nat.le_refl _) x
theorem xF.exp175 {f p0 t e p l w o w' wb : Nat} {c0 c : t_S} {rc : RT_X6_readBase} (h : xF f p0 t e p l w o w' c0 c) (hb : w ≤ wb) (hw : wb ≤ w') (x y : Int32) : t_hk (k_X6_readExp_175 rc x y (nI wb) c) (fun z => xF f p0 t e p l w o wb c0 z.2 ∧ z.1 = y) := by
  unfold k_X6_readExp_175
  refine l2_bd _ (h.lower hb hw) (fun c1 h1 => l2_if (fun _ => l2_bd _ (h1.emit 0 0) (fun z hz => l2_sm ⟨hz.1, rfl⟩)) (fun _ => l2_sm ⟨h1, rfl⟩))
theorem xF.exp60 {f p0 t e p l w o w' wb : Nat} {k : Int32} {c0 c : t_S} {rc : RT_X6_readBase} (h : xF f p0 t e p l w o w' c0 c) (hb : w ≤ wb) (hw : wb ≤ w') (x y : Int32) : t_hk (k_X6_readExp_60 rc x y (nI wb) k c) (fun z => ∃ r, z = .inr r ∧ xF f p0 t e p l w o wb c0 r.2 ∧ r.1 = y) := by
  unfold k_X6_readExp_60
  have q := l2_imp (h.exp175 (rc := rc) hb hw x y) (fun c2 h2 => (⟨c2, rfl, h2.1, h2.2⟩ : ∃ r, (Sum.inr c2 : (Int32 × Int32 × Int32 × Int32 × t_S) ⊕ (Int32 × t_S)) = .inr r ∧ xF f p0 t e p l w o wb c0 r.2 ∧ r.1 = y))
  exact l2_if (fun _ => l2_mp q) (fun _ => l2_ck h.tok.2.2.2 (l2_mp q))
theorem xF.exp43 {f p0 t e p l w o w' : Nat} {c0 c : t_S} {rc : RT_X6_readBase} (H : ∀ x, bC (rc.2.2.2.2.2.2.2.1 x)) (h : xF f p0 t e p l w o w' c0 c) (x y : Int32) : t_hk (k_X6_readExp_43 rc x y c) (fun z => xF f p0 t e p l w o w' c0 z.2 ∧ z.1 = y) := by
  unfold k_X6_readExp_43
  rw [h.2.2.2.2.1]
  refine l2_bd _ (H _ _ _ _ _ _ _ _ _ _ _ _ h) (fun c1 h1 => xl_one ?_)
  exact h1.exp60 h.2.2.2.2.2.1 (Nat.le_refl _) x y
theorem bf_expn {rc : RT_X6_readBase} (H : ∀ x, bC (rc.2.2.2.2.2.2.2.1 x)) {f p0 t e p l w o w' : Nat} {c0 c : t_S} (h : xF f p0 t e p l w o w' c0 c) (x : Int32) : t_hk (m_X6_readExp rc x c) (fun z => xF f p0 t e p l w o w' c0 z.2 ∧ z.1 = c.1 334 2) := by
  unfold m_X6_readExp
  refine l2_ck h.tok.2.1 (l2_eq (h.stay.2.1 _) ?_)
  unfold k_X6_readExp_29
  exact l2_if (fun _ => h.exp43 H _ _) (fun _ => l2_eq (h.stay.2.1 _) (h.exp43 H _ _))
theorem bf_exp {rc : RT_X6_readBase} (H : ∀ x, bC (rc.2.2.2.2.2.2.2.1 x)) (x : Int32) : bC2 (m_X6_readExp rc x) := fun _ _ _ _ _ _ _ _ _ _ _ h => l2_imp (bf_expn H h x) (fun _ hz => hz.1)
theorem bf_exps (rc : RT_X6_readBase) (x : Int32) : bC2 (m_X6_readExps rc x) := by
  intro f p0 t e p l w o w' c0 c h
  unfold m_X6_readExps
  refine xl_one ?_
  show t_hk (k_X6_readExps_2 rc x 0 c) _
  unfold k_X6_readExps_2
  exact l2_no (by decide) (l2_no h.stay.2.2.2.2 (l2_mp (l2_sm ⟨_, rfl, h⟩)))
theorem xF.elem23 {f p0 t e p l w o w' : Nat} {c0 c : t_S} {rc : RT_X6_readBase} (h : xF f p0 t e p l w o w' c0 c) (x : Int32) : t_hk (k_X6_readElements_23 rc x c) (xF f p0 t e p l w o w' c0) := by
  unfold k_X6_readElements_23
  exact l2_eq (h.stay.2.2.1 93 (by decide)).1 (l2_bd _ (h.emit _ _) (fun y hy => l2_sm hy.1))
theorem bf_elem {rc : RT_X6_readBase} (H : ∀ x, bC2 (rc.2.2.2.2.1 x)) (x : Int32) : bC (m_X6_readElements rc x) := by
  intro f p0 t e p l w o w' c0 c h
  unfold m_X6_readElements
  exact l2_if (fun _ => h.elem23 _) (fun _ => l2_bd _ (H _ _ _ _ _ _ _ _ _ _ _ _ h) (fun y hy => xF.elem23 hy _))
theorem bf_fields (rc : RT_X6_readBase) (x : Int32) : bC (m_X6_readExpFields rc x) := by
  intro f p0 t e p l w o w' c0 c h
  unfold m_X6_readExpFields
  refine l2_no (by rw [h.stay.2.2.2.1]; decide) (xl_one ?_)
  show t_hk (k_X6_readExpFields_19 rc x (c.1 845 9) 0 c) _
  unfold k_X6_readExpFields_19
  refine l2_no (by decide) (l2_no h.word (l2_eq (h.stay.2.1 _) ?_))
  unfold k_X6_readExpFields_87
  exact l2_bd _ h.node (fun c1 h1 => l2_no h1.stay.2.2.2.2 (l2_mp (l2_sm ⟨_, rfl, h1⟩)))
theorem bf_met {rc : RT_X6_readBase} (HE : ∀ x, bC2 (rc.2.2.1 x)) (HT : ∀ x y, bC2 (rc.2.2.2.2.2.2.2.2.2.2.2.2.2.1 x y)) (x : Int32) : bC (m_X6_readMet rc x) := by
  intro f p0 t e p l w o w' c0 c h
  unfold m_X6_readMet
  refine l2_eq (h.stay.2.2.1 40 (by decide)).1 (l2_bd _ (HE _ _ _ _ _ _ _ _ _ _ _ _ h) (fun y h1 => l2_eq (h1.stay.2.2.1 44 (by decide)).1 (l2_bd _ (HT _ _ _ _ _ _ _ _ _ _ _ _ _ h1) (fun z h2 => l2_bd _ (h2.emit _ _) (fun v hv => l2_eq (hv.1.stay.2.2.1 41 (by decide)).1 (l2_sm hv.1))))))
theorem bf_templ (rc : RT_X6_readBase) (x y : Int32) : bC2 (m_X6_readTempl rc x y) := by
  intro f p0 t e p l w o w' c0 c h
  have go : t_hk (k_X6_readTempl_35 rc x y c) (fun z => xF f p0 t e p l w o w' c0 z.2) := by
    unfold k_X6_readTempl_35
    exact l2_bd _ h.node (fun c1 h1 => l2_no h1.stay.2.2.2.2 (l2_sm h1))
  unfold m_X6_readTempl
  refine l2_ck h.tok.2.2.1 (l2_eq (h.stay.2.1 _) ?_)
  unfold k_X6_readTempl_21
  exact l2_if (fun _ => go) (fun _ => l2_eq (h.stay.2.1 _) go)
theorem bf_inner {rc : RT_X6_readBase} (HT : ∀ x y, bC2 (rc.2.2.2.2.2.2.2.2.2.2.2.2.2.1 x y)) {n : Nat} (hn : n < 6100) (x y z : Int32) : bCn n (m_X6_readInner rc (nI n) x y z) := by
  intro f p0 t e p l w o w' c0 c h ht
  unfold m_X6_readInner
  refine l2_ck (l2_ix hn (by decide)) (l2_lt ?_)
  rw [nI_clamp (by omega)]
  have h := h.set (b := 354) (j := n) (v := x) (by decide) ht
  refine xl_one ?_
  show t_hk (k_X6_readInner_16 rc (nI n) y z (-1) 0 _) _
  unfold k_X6_readInner_16
  refine l2_no (by decide) (l2_no (by decide) ?_)
  unfold k_X6_readInner_51
  exact l2_bd _ (HT _ _ _ _ _ _ _ _ _ _ _ _ _ h) (fun y h1 => l2_no h1.stay.2.2.2.2 (l2_mp (l2_sm ⟨_, rfl, h1⟩)))
theorem bf_row {rc : RT_X6_readBase} {n : Nat} (HI : ∀ x y z, bCn n (rc.2.2.2.2.2.1 (nI n) x y z)) (x y z : Int32) : bCn n (m_X6_readRow rc (nI n) x y z) := by
  intro f p0 t e p l w o w' c0 c h ht
  unfold m_X6_readRow
  exact l2_eq (h.stay.2.2.1 40 (by decide)).1 (l2_bd _ (HI _ _ _ _ _ _ _ _ _ _ _ _ _ _ h ht) (fun y h1 => l2_sm h1))
theorem bf_pieces {rc : RT_X6_readBase} (HT : ∀ x y, bC2 (rc.2.2.2.2.2.2.2.2.2.2.2.2.2.1 x y)) {n : Nat} (hn : n < 6100) (y z : Int32) : bCn n (m_X6_readPieces rc (nI n) y z) := by
  intro f p0 t e p l w o w' c0 c h ht
  unfold m_X6_readPieces
  refine l2_ck (l2_ix hn (by decide)) (l2_lt ?_)
  rw [nI_clamp (by omega)]
  have h := h.set (b := 354) (j := n) (v := 10) (by decide) ht
  refine l2_eq (h.stay.2.2.1 93 (by decide)).2 (l2_ck rfl (xl_one ?_))
  show t_hk (k_X6_readPieces_30 rc (nI n) y z (-1) 0 _) _
  unfold k_X6_readPieces_30
  refine l2_no (by decide) (l2_no (by rw [h.stay.2.2.2.1]; decide) ?_)
  unfold k_X6_readPieces_55
  refine l2_no (by decide) ?_
  unfold k_X6_readPieces_90
  refine l2_ck rfl (l2_bd _ (HT _ _ _ _ _ _ _ _ _ _ _ _ _ h) (fun y h1 => ?_))
  unfold k_X6_readPieces_116
  exact l2_no h1.stay.2.2.2.2 (l2_mp (l2_sm ⟨_, rfl, h1⟩))
theorem bf_tag {rc : RT_X6_readBase} (HT : ∀ x y, bC2 (rc.2.2.2.2.2.2.2.2.2.2.2.2.2.1 x y)) {n : Nat} (hn : n < 6100) (y z : Int32) : bCn n (m_X6_readTag rc (nI n) y z) := by
  intro f p0 t e p l w o w' c0 c h ht
  unfold m_X6_readTag
  refine l2_ck (l2_ix hn (by decide)) (l2_lt ?_)
  rw [nI_clamp (by omega)]
  have h := h.set (b := 354) (j := n) (v := 9) (by decide) ht
  refine l2_no h.word ?_
  unfold k_X6_readTag_38
  refine l2_eq (h.stay.2.2.1 1 (by decide)).1 (l2_bd _ (HT _ _ _ _ _ _ _ _ _ _ _ _ _ h) (fun y h1 => l2_ck (l2_ix hn (by decide)) (l2_lt (l2_sm ?_))))
  rw [nI_clamp (by omega)]
  exact h1.set (by decide) ht
theorem bf_tfields (rc : RT_X6_readBase) {n : Nat} (hn : n < 6100) (y z : Int32) : bCn n (m_X6_readTemplFields rc (nI n) y z) := by
  intro f p0 t e p l w o w' c0 c h ht
  unfold m_X6_readTemplFields
  refine l2_ck (l2_ix hn (by decide)) (l2_lt ?_)
  rw [nI_clamp (by omega)]
  have h := h.set (b := 354) (j := n) (v := 8) (by decide) ht
  refine l2_eq (h.stay.2.2.1 125 (by decide)).2 (l2_ck rfl (xl_one ?_))
  show t_hk (k_X6_readTemplFields_30 rc (nI n) y z (-1) 0 _) _
  unfold k_X6_readTemplFields_30
  refine l2_no (by decide) (l2_no h.word (l2_eq (h.stay.2.1 _) ?_))
  unfold k_X6_readTemplFields_100
  exact l2_bd _ h.node (fun c1 h1 => l2_no h1.stay.2.2.2.2 (l2_mp (l2_sm ⟨_, rfl, h1⟩)))
theorem bf_same {rc : RT_X6_readBase} (HE : ∀ x, bC2 (rc.2.2.1 x)) {n : Nat} (hn : n < 6100) (y : Int32) : bCn n (m_X6_readSame rc (nI n) y) := by
  intro f p0 t e p l w o w' c0 c h ht
  unfold m_X6_readSame
  refine l2_ck (l2_ix hn (by decide)) (l2_lt ?_)
  rw [nI_clamp (by omega)]
  have h := h.set (b := 354) (j := n) (v := 17) (by decide) ht
  exact l2_eq (h.stay.2.2.1 40 (by decide)).1 (l2_bd _ (HE _ _ _ _ _ _ _ _ _ _ _ _ h) (fun y h1 => l2_eq (h1.stay.2.2.1 41 (by decide)).1 (l2_bd _ (h1.emit _ _) (fun v hv => l2_sm hv.1))))
/-- all of them -/
def xS (rc : RT_X6_readBase) : Prop := (∀ x, bC (rc.2.1 x)) ∧ (∀ x, bC2 (rc.2.2.1 x)) ∧ (∀ x, bC (rc.2.2.2.1 x)) ∧ (∀ x, bC2 (rc.2.2.2.2.1 x)) ∧ (∀ n, n < 6100 → ∀ x y z, bCn n (rc.2.2.2.2.2.1 (nI n) x y z)) ∧ (∀ x, bC (rc.2.2.2.2.2.2.1 x)) ∧ (∀ x, bC (rc.2.2.2.2.2.2.2.1 x)) ∧ (∀ n, n < 6100 → ∀ y z, bCn n (rc.2.2.2.2.2.2.2.2.2.1 (nI n) y z)) ∧ (∀ n, n < 6100 → ∀ x y z, bCn n (rc.2.2.2.2.2.2.2.2.2.2.1 (nI n) x y z)) ∧ (∀ n, n < 6100 → ∀ y, bCn n (rc.2.2.2.2.2.2.2.2.2.2.2.1 (nI n) y)) ∧ (∀ n, n < 6100 → ∀ y z, bCn n (rc.2.2.2.2.2.2.2.2.2.2.2.2.1 (nI n) y z)) ∧ (∀ x y, bC2 (rc.2.2.2.2.2.2.2.2.2.2.2.2.2.1 x y)) ∧ (∀ n, n < 6100 → ∀ y z, bCn n (rc.2.2.2.2.2.2.2.2.2.2.2.2.2.2.1 (nI n) y z))
theorem xS_R (k : Nat) : xS (R_X6_readBase (k + 4)) := by
  have one : ∀ k x, bC ((R_X6_readBase (k + 1)).2.2.2.2.2.2.2.1 x) := fun k x => bf_one (R_X6_readBase k) x
  have exp : ∀ k x, bC2 ((R_X6_readBase (k + 2)).2.2.1 x) := fun k x => bf_exp (one k) x
  have templ : ∀ k x y, bC2 ((R_X6_readBase (k + 1)).2.2.2.2.2.2.2.2.2.2.2.2.2.1 x y) := fun k x y => bf_templ (R_X6_readBase k) x y
  have inner : ∀ k n, n < 6100 → ∀ x y z, bCn n ((R_X6_readBase (k + 2)).2.2.2.2.2.1 (nI n) x y z) := fun k n hn x y z => bf_inner (templ k) hn x y z
  exact ⟨fun x => bf_elem (fun y => bf_exps (R_X6_readBase (k + 2)) y) x, exp (k + 2), fun x => bf_fields (R_X6_readBase (k + 3)) x, fun x => bf_exps (R_X6_readBase (k + 3)) x, inner (k + 2), fun x => bf_met (exp (k + 1)) (templ (k + 2)) x, one (k + 3), fun n hn y z => bf_pieces (templ (k + 2)) hn y z, fun n hn x y z => bf_row (inner (k + 1) n hn) x y z, fun n hn y => bf_same (exp (k + 1)) hn y, fun n hn y z => bf_tag (templ (k + 2)) hn y z, templ (k + 3), fun n hn y z => bf_tfields (R_X6_readBase (k + 3)) hn y z⟩
