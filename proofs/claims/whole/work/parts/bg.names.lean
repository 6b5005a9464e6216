/-! Level 2: records of exps on both sides: open names, the name's place, the end. -/
/-- is a name open? -/
theorem xo_has {c : t_S} {o v x : Nat} {X : Nat → Nat} (h9 : c.1 845 9 = nI (o + v)) (ho : o + v ≤ 288) (hx : x < 7934) (hX : ∀ j, j < v → X j < 7934 ∧ c.1 855 (o + j) = nI (66 + X j)) : t_hk (f_X6_isOpen (nI o) (nI (66 + x)) c) (fun y => (y = 1 ∧ ∃ j, j < v ∧ X j = x) ∨ (y = 0 ∧ ∀ j, j < v → X j ≠ x)) := by
  unfold f_X6_isOpen
  refine l2_lp (fun w y => ∃ j, j + w = v ∧ y = (nI (66 + x), nI (o + j)) ∧ ∀ i, i < j → X i ≠ x) ?_ (m := v) (Nat.lt_trans (show v < 1000000000 by omega) l2_N) ⟨0, by omega, rfl, fun i hi => by omega⟩
  rintro w y ⟨j, hj, rfl, hh⟩
  show t_hk (k_X6_isOpen_2 (nI (66 + x)) (nI (o + j)) c) _
  unfold k_X6_isOpen_2
  rw [h9]
  by_cases z : j < v
  · refine l2_no (nI_ge (by omega) (by omega)) (l2_ck (l2_ix (by omega) (by decide)) ?_)
    obtain ⟨q1, q2⟩ := hX j z
    rw [nI_clamp (by omega), q2, nI_1]
    refine l2_if (fun e => ?_) (fun e => ?_)
    · have e := (nI_eq (by omega) (by omega)).mp e
      exact l2_mp (l2_sm (Or.inl ⟨rfl, j, z, by omega⟩))
    · refine l2_sm ⟨w - 1, by omega, j + 1, by omega, rfl, fun i hi => ?_⟩
      by_cases y : i = j
      · rw [y]
        exact fun q => e (by rw [q])
      · exact hh i (by omega)
  · exact l2_ck (nI_le (by omega) (by omega)) (l2_mp (l2_sm (Or.inr ⟨rfl, fun i hi => hh i (by omega)⟩)))
/-- a fault that counts if reading meets none, at a name that isn't of the module -/
noncomputable def ltK (c : t_S) : Option t_S := if (f_X2_word c) < (c.1 845 16) then some c else f_X3_late 4 (c.1 1 9) c
theorem tk_ltK {c : t_S} (h8 : c.1 1 8 = 1) (h0 : c.1 1 11 = 0) : f_X6_takeFieldName c = (ltK c).bind (fun c' => (f_X2_advance c').bind (fun r1 => some (f_X2_word c, r1))) := by
  unfold f_X6_takeFieldName k_X6_takeFieldName_19 k_X6_takeFieldName_62 ltK
  rw [if_pos h8, if_pos h0]
  by_cases z : (f_X2_word c) < (c.1 845 16)
  · rw [if_pos z, if_pos z]; rfl
  · rw [if_neg z, if_neg z]
theorem ltK_h {P : pc_S} {E : en_S} {u d z q m t e p l w o s i dd x : Nat} {c r : t_S} (X : xp P E u d z q m t e p l w o s i dd c r) (hx : x < 7934) (ww : f_X2_word c = nI (66 + x)) : t_hk (ltK c) (fun c' => l2_fr (fun b j => b = 846 ∧ (j = 7 ∨ j = 8)) c c' ∧ ∀ S, lt_R c S → lt_R c' (fun p => S p ∨ (E.2.2.2.2.1 ≤ 66 + x ∧ p = pc_p P u))) := by
  have kn := X.2.1.kn
  have cle := X.1.cle
  unfold ltK
  rw [ww, kn.1, cle.2.1]
  by_cases g : 66 + x < E.2.2.2.2.1
  · exact l2_ck ((nI_ltI (by omega) kn.2.1).mpr g) (l2_sm ⟨l2_fr.rf, fun S hS => hS.iff (fun y => ⟨Or.inl, fun z => z.elim id (fun q => by omega)⟩)⟩)
  · exact l2_no (fun y => g ((nI_ltI (by omega) kn.2.1).mp y)) (l2_imp (lt_late cle.2.2.2) (fun c' hc => ⟨hc.1, fun S hS => (hc.2 S hS).iff (fun y => ⟨fun z => z.elim Or.inl (fun q => Or.inr ⟨by omega, q⟩), fun z => z.elim Or.inl (fun q => Or.inr q.2)⟩)⟩))
section
variable {P : pc_S} {E : en_S} {f p0 t e p l w o w' : Nat} {c0 c : t_S} {rc : RT_X6_readBase}
/-- a name more is open -/
theorem xF.open1 {j n : Nat} {v : Int32} (h : xF f p0 t e p l w o w' c0 c) (hj : o ≤ j) (hn : o ≤ n ∧ n ≤ 288) : xF f p0 t e p l w o w' c0 (t_setI (t_setI c 855 j v) 845 9 (nI n)) := by
  obtain ⟨h1, h2, h3, h4, h5, h6, h7, h8⟩ := h
  have g : l2_fr (fun b i => (b = 855 ∧ i = j) ∨ (b = 845 ∧ i = 9)) c (t_setI (t_setI c 855 j v) 845 9 (nI n)) := (l2_fr.set (Or.inl ⟨rfl, rfl⟩)).trans (l2_fr.set (Or.inr ⟨rfl, rfl⟩))
  have e9 : (t_setI (t_setI c 855 j v) 845 9 (nI n)).1 845 9 = nI n := by simp only [l2_gI, Nat.reduceEqDiff, reduceIte]
  generalize t_setI (t_setI c 855 j v) 845 9 (nI n) = c' at *
  refine ⟨h1.fr g (fun j _ _ => by omega), h2.trans (g.mono (fun b i y => ?_)), ?_, ⟨n, hn.1, hn.2, e9⟩, by rw [(g 845 7 (by omega)).1]; exact h5, h6, h7, fun i a b d => ?_⟩
  · rcases y with ⟨rfl, rfl⟩ | ⟨rfl, rfl⟩
    · exact xWc.inm hj
    · exact xWc.i845 (by decide)
  · obtain ⟨e', a, b, d⟩ := h3
    exact ⟨e', a, b, by rw [(g 334 2 (by omega)).1]; exact d⟩
  · rw [(g 854 _ (by omega)).1] at d ⊢
    exact h8 i a b d
theorem xF.close1 {n : Nat} (h : xF f p0 t e p l w o w' c0 c) (hn : o ≤ n ∧ n ≤ 288) : xF f p0 t e p l w o w' c0 (t_setI c 845 9 (nI n)) := by
  obtain ⟨h1, h2, h3, h4, h5, h6, h7, h8⟩ := h
  have g : l2_fr (fun b i => b = 845 ∧ i = 9) c (t_setI c 845 9 (nI n)) := l2_fr.set ⟨rfl, rfl⟩
  have e9 : (t_setI c 845 9 (nI n)).1 845 9 = nI n := by simp only [l2_gI, reduceIte]
  generalize t_setI c 845 9 (nI n) = c' at *
  refine ⟨h1.fr g (fun j _ _ => by omega), h2.trans (g.mono (fun b i y => ?_)), ?_, ⟨n, hn.1, hn.2, e9⟩, by rw [(g 845 7 (by omega)).1]; exact h5, h6, h7, fun i a b d => ?_⟩
  · obtain ⟨rfl, rfl⟩ := y
    exact xWc.i845 (by decide)
  · obtain ⟨e', a, b, d⟩ := h3
    exact ⟨e', a, b, by rw [(g 334 2 (by omega)).1]; exact d⟩
  · rw [(g 854 _ (by omega)).1] at d ⊢
    exact h8 i a b d
/-- the end of a record behind a fault -/
theorem xF.ef163 (h : xF f p0 t e p l w o w' c0 c) : t_hk (k_X6_readExpFields_163 rc (nI o) c) (xF f p0 t e p l w o w' c0) := by
  unfold k_X6_readExpFields_163
  refine l2_eq (h.stay.2.2.1 125 (by decide)).1 (l2_bd _ (h.emit _ _) (fun y hy => ?_))
  obtain ⟨h1, _, _⟩ := hy
  obtain ⟨o', o1, o2, o3⟩ := h1.2.2.2.1
  refine l2_lp (fun k z => ∃ j c1, j + k = o' ∧ o ≤ j ∧ z = (nI o, nI j, c1) ∧ c1.1 845 9 = nI o' ∧ xF f p0 t e p l w o w' c0 c1) ?_ (m := o' - o) (Nat.lt_trans (show o' - o < 1000000000 by omega) l2_N) ⟨o, y.2, by omega, Nat.le_refl _, rfl, o3, h1⟩
  rintro k z ⟨j, c1, j1, j2, rfl, j3, j4⟩
  show t_hk (k_X6_readExpFields_190 rc (nI o) (nI j) c1) _
  unfold k_X6_readExpFields_190
  rw [j3]
  by_cases z : k = 0
  · refine l2_ck (nI_le (by omega) (by omega)) (l2_mp (l2_lt (l2_sm ?_)))
    exact j4.close1 ⟨Nat.le_refl _, by omega⟩
  · refine l2_no (nI_ge (by omega) (by omega)) (l2_ck (l2_ix (by omega) (by decide)) ?_)
    have j4' := j4
    obtain ⟨g1, g2, ⟨e', g3, g4, g5⟩, g6⟩ := j4'
    obtain ⟨y1, ey, yf, _, _⟩ := em_any (33 : Int32) (c1.1 855 ((nI j).toNatClampNeg)) g5 g4
    obtain ⟨v, ev, hv⟩ := j4.emit (33 : Int32) (c1.1 855 ((nI j).toNatClampNeg))
    have : y1 = v := Option.some.inj (ey.symm.trans ev)
    subst this
    rw [ev, l2_bs]
    refine l2_sm ⟨k - 1, by omega, j + 1, y1.2, by omega, by omega, ?_, ?_, hv.1⟩
    · rw [nI_1]
    · rw [(yf 845 9 (by omega)).1]; exact j3
theorem xF.ef87 (h : xF f p0 t e p l w o w' c0 c) (a b d : Int32) : t_hk (k_X6_readExpFields_87 rc a b d c) (fun y => ∃ r, y = .inr r ∧ xF f p0 t e p l w o w' c0 r) := by
  unfold k_X6_readExpFields_87
  exact l2_bd _ h.node (fun c1 h1 => l2_no h1.stay.2.2.2.2 (l2_mp (l2_sm ⟨_, rfl, h1⟩)))
theorem xF.ef19 {v : Nat} (h : xF f p0 t e p l w o w' c0 c) (hv : v ≤ 16) (a b : Int32) : t_hk (k_X6_readExpFields_19 rc a b (nI v) c) (fun y => ∃ r, y = .inr r ∧ xF f p0 t e p l w o w' c0 r) := by
  unfold k_X6_readExpFields_19
  exact l2_no (nI_nlt (a := 16) hv (by decide)) (l2_no h.word (l2_eq (h.stay.2.1 _) (h.ef87 _ _ _)))
end
/-- the end of a record: its operation, and its names -/
theorem ef_end {P : pc_S} {E : en_S} {u d z q m t e p l w o s i dd v : Nat} {c r : t_S} {X : Nat → Nat} {rc : RT_X6_readBase} (Y : xp P E u d z q m t e p l w (o + v) s i dd c r) (he : e + 1 + v ≤ 16000) (ho : o + v ≤ 288) (hX : ∀ j, j < v → c.1 855 (o + j) = nI (66 + X j)) : t_hk ((f_X0_emit 32 ((c.1 845 9) - nI o) c).bind (fun r2 => t_loop (b_X6_readExpFields_190 rc) t_N (nI o, nI o, r2.2))) (fun c' => l2_fr (fun b j => (b = 334 ∧ j = 2) ∨ ((b = 335 ∨ b = 336) ∧ e ≤ j) ∨ (b = 845 ∧ j = 9)) c c' ∧ c'.1 334 2 = nI (e + 1 + v) ∧ c'.1 845 9 = nI o ∧ px_o c' e 32 (nI v) ∧ ∀ j, j < v → px_o c' (e + 1 + j) 33 (nI (66 + X j))) := by
  have e9 : c.1 845 9 = nI (o + v) := Y.2.2.2.2.2.2.2.1
  rw [e9, pk_sub (by omega), show o + v - o = v by omega]
  refine l2_bd _ (em_emit (s := c) (e := e) 32 (nI v) Y.2.2.2.1 (by omega)) (fun a ha => ?_)
  obtain ⟨a0, c2⟩ := a
  obtain ⟨_, a2, a3, a4, a5⟩ := ha
  have a2 : l2_fr (fun b j => (b = 334 ∧ j = 2) ∨ ((b = 335 ∨ b = 336) ∧ j = e)) c c2 := a2
  have a3 : c2.1 334 2 = nI (e + 1) := a3
  have a4 : c2.1 335 e = 32 := a4
  have a5 : c2.1 336 e = nI v := a5
  refine l2_lp (fun k z => ∃ j c1, j + k = v ∧ z = (nI o, nI (o + j), c1) ∧ l2_fr (fun b i => (b = 334 ∧ i = 2) ∨ ((b = 335 ∨ b = 336) ∧ e + 1 ≤ i)) c2 c1 ∧ c1.1 334 2 = nI (e + 1 + j) ∧ ∀ i, i < j → px_o c1 (e + 1 + i) 33 (nI (66 + X i))) ?_ (m := v) (Nat.lt_trans (show v < 1000000000 by omega) l2_N) ⟨0, c2, by omega, rfl, l2_fr.rf, a3, fun i hi => by omega⟩
  rintro k z ⟨j, c1, j1, rfl, j3, j4, j5⟩
  show t_hk (k_X6_readExpFields_190 rc (nI o) (nI (o + j)) c1) _
  unfold k_X6_readExpFields_190
  have k9 : c1.1 845 9 = nI (o + v) := by rw [(j3 845 9 (by omega)).1, (a2 845 9 (by omega)).1]; exact e9
  rw [k9]
  by_cases z : k = 0
  · have jv : j = v := by omega
    subst jv
    refine l2_ck (nI_le (Nat.le_refl _) (by omega)) (l2_mp (l2_lt (l2_sm ?_)))
    have g : l2_fr (fun b i => b = 845 ∧ i = 9) c1 (t_setI c1 845 9 (nI o)) := l2_fr.set ⟨rfl, rfl⟩
    have v9 : (t_setI c1 845 9 (nI o)).1 845 9 = nI o := by simp only [l2_gI, reduceIte]
    generalize t_setI c1 845 9 (nI o) = c3 at *
    refine ⟨((a2.mono (fun b i y => by omega)).trans (j3.mono (fun b i y => by omega))).trans (g.mono (fun b i y => by omega)), by rw [(g 334 2 (by omega)).1]; exact j4, v9, ⟨?_, ?_⟩, fun i hi => ?_⟩
    · rw [(g 335 e (by omega)).1, (j3 335 e (by omega)).1]; exact a4
    · rw [(g 336 e (by omega)).1, (j3 336 e (by omega)).1]; exact a5
    · have := j5 i hi
      exact ⟨by rw [(g 335 _ (by omega)).1]; exact this.1, by rw [(g 336 _ (by omega)).1]; exact this.2⟩
  · refine l2_no (nI_ge (by omega) (by omega)) (l2_ck (l2_ix (by omega) (by decide)) ?_)
    rw [nI_clamp (by omega), (j3 855 _ (by omega)).1, (a2 855 _ (by omega)).1, hX j (by omega), nI_1]
    refine l2_bd _ (em_emit (s := c1) (e := e + 1 + j) 33 (nI (66 + X j)) j4 (by omega)) (fun y hy => l2_sm ⟨k - 1, by omega, j + 1, y.2, by omega, by rw [show o + (j + 1) = o + j + 1 by omega], j3.trans (hy.2.1.mono (fun b i y => by omega)), hy.2.2.1, fun i hi => ?_⟩)
    by_cases q : i = j
    · subst q
      exact ⟨hy.2.2.2.1, hy.2.2.2.2⟩
    · have := j5 i (by omega)
      exact ⟨by rw [(hy.2.1 335 _ (by omega)).1]; exact this.1, by rw [(hy.2.1 336 _ (by omega)).1]; exact this.2⟩
