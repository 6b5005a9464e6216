/-! Level 2: the reference behind a fault, in an exp or templ. -/
theorem xl_go {σ ρ : Type} {b : σ → Option (σ ⊕ ρ)} {x : σ} {Q : ρ → Prop} (h : t_hk (b x) (fun z => ∃ r, z = .inr r ∧ Q r)) : h2_go b x Q := by
  intro N hN
  obtain ⟨n, rfl⟩ : ∃ a, N = a + 1 := ⟨N - 1, by omega⟩
  obtain ⟨z, e, r, rfl, q⟩ := h
  exact ⟨r, l2_lpR e, q⟩
theorem xl_inr {σ ρ : Type} {o : Option ρ} {Q : ρ → Prop} (h : t_hk o Q) : t_hk (o.map (Sum.inr : ρ → σ ⊕ ρ)) (fun z => ∃ r, z = .inr r ∧ Q r) := l2_mp (l2_imp h (fun r q => ⟨r, rfl, q⟩))
def bR (F : t_S → Option t_S) : Prop := ∀ P f p0 m s r0 r, m ≤ 12999 → xR P f p0 m s r0 r → t_hk (F r) (xR P f p0 m s r0)
def bR2 (F : t_S → Option (Int32 × t_S)) : Prop := ∀ P f p0 m s r0 r, m ≤ 12999 → xR P f p0 m s r0 r → t_hk (F r) (fun y => xR P f p0 m s r0 y.2)
def xT (rc : RT_X13_base) : Prop := (∀ r : t_S, r.1 950 2 ≠ 0 → rc.1 r = some (0, r) ∧ rc.2.1 r = some (0, r) ∧ (∀ x, rc.2.2.2.2.2.1 x r = some (0, r)) ∧ rc.2.2.2.2.2.2.2.1 r = some (0, r)) ∧ bR2 rc.2.2.2.2.2.2.1 ∧ (∀ x, bR (rc.2.2.1 x)) ∧ (∀ x, bR (rc.2.2.2.1 x)) ∧ (∀ x, bR (rc.2.2.2.2.1 x)) ∧ (∀ x y, bR (rc.2.2.2.2.2.2.2.2.1 x y))
section
variable {P : pc_S} {f p0 m s : Nat} {r0 r : t_S} {rc : RT_X13_base}
theorem xR.exps4 (h : xR P f p0 m s r0 r) (x y z : Int32) : t_hk (k_X13_exps_4 rc x y z r) (fun w => ∃ r', w = .inr r' ∧ xR P f p0 m s r0 r') := by
  unfold k_X13_exps_4
  exact l2_if (fun _ => xl_inr (l2_sm h)) (fun _ => l2_no h.ne (xl_inr (l2_sm h)))
theorem xR.templs5 (h : xR P f p0 m s r0 r) (x y z v : Int32) : t_hk (k_X13_templs_5 rc x y z v r) (fun w => ∃ r', w = .inr r' ∧ xR P f p0 m s r0 r') := by
  unfold k_X13_templs_5
  exact l2_if (fun _ => xl_inr (l2_sm h)) (fun _ => l2_no h.ne (xl_inr (l2_sm h)))
theorem xR.fe69 (h : xR P f p0 m s r0 r) : t_hk (k_X13_fieldExps_69 rc r) (xR P f p0 m s r0) := by
  unfold k_X13_fieldExps_69
  exact l2_bd _ (h.mustBe _) (fun y hy => l2_sm hy)
theorem xR.fe17 (h : xR P f p0 m s r0 r) (x y z : Int32) : t_hk (k_X13_fieldExps_17 rc x y z r) (fun w => ∃ r', w = .inr r' ∧ xR P f p0 m s r0 r') := by
  unfold k_X13_fieldExps_17
  exact l2_if (fun _ => xl_inr h.fe69) (fun _ => l2_no h.ne (xl_inr h.fe69))
theorem xR.ft69 (h : xR P f p0 m s r0 r) : t_hk (k_X13_fieldTempls_69 rc r) (xR P f p0 m s r0) := by
  unfold k_X13_fieldTempls_69
  exact l2_bd _ (h.mustBe _) (fun y hy => l2_sm hy)
theorem xR.ft17 (h : xR P f p0 m s r0 r) (x y z : Int32) : t_hk (k_X13_fieldTempls_17 rc x y z r) (fun w => ∃ r', w = .inr r' ∧ xR P f p0 m s r0 r') := by
  unfold k_X13_fieldTempls_17
  exact l2_if (fun _ => xl_inr h.ft69) (fun _ => l2_no h.ne (xl_inr h.ft69))
theorem xR.level33 (h : xR P f p0 m s r0 r) (x y z : Int32) : t_hk (k_X13_level_33 rc x y z r) (fun w => ∃ r', w = .inr r' ∧ xR P f p0 m s r0 r'.2) := by
  unfold k_X13_level_33
  exact l2_if (fun _ => xl_inr (l2_sm h)) (fun _ => l2_no h.ne (xl_inr (l2_sm h)))
theorem xR.single295 (h : xR P f p0 m s r0 r) {y : Int32} (hy : y < 0 ∨ ∃ j, m ≤ j ∧ j < 13000 ∧ y = nI j) (x z : Int32) : t_hk (k_X13_single_295 rc x y z r) (fun w => xR P f p0 m s r0 w.2) := by
  unfold k_X13_single_295
  have e : ∀ r1, xR P f p0 m s r0 r1 → t_hk (k_X13_single_307 rc x z r1) (fun w => xR P f p0 m s r0 w.2) := fun r1 h1 => by
    unfold k_X13_single_307
    exact l2_if (fun _ => l2_sm h1) (fun _ => l2_sm h1)
  refine l2_if (fun _ => e r h) (fun n => ?_)
  obtain ⟨j, j1, j2, rfl⟩ := hy.resolve_left n
  refine l2_ck (l2_ix j2 (by decide)) (l2_lt ?_)
  rw [nI_clamp (by omega)]
  exact e _ (h.set (Or.inl ⟨by decide, by decide, j1⟩))
theorem xR.single173 (h : xR P f p0 m s r0 r) {y : Int32} (hy : y < 0 ∨ ∃ j, m ≤ j ∧ j < 13000 ∧ y = nI j) (x z : Int32) : t_hk (k_X13_single_173 rc x y z r) (fun w => ∃ r', w = .inr r' ∧ xR P f p0 m s r0 r'.2) := by
  unfold k_X13_single_173
  exact l2_no h.ne (xl_inr (h.single295 hy x z))
theorem xR.single167 (T : xT rc) (h : xR P f p0 m s r0 r) {y : Int32} (hy : y < 0 ∨ ∃ j, m ≤ j ∧ j < 13000 ∧ y = nI j) (x : Int32) : t_hk (k_X13_single_167 rc x y r) (fun w => xR P f p0 m s r0 w.2) := by
  unfold k_X13_single_167
  exact l2_eq (T.1 r h.ne).1 (xl_one (h.single173 hy x 0))
theorem xR.single6 (T : xT rc) (h : xR P f p0 m s r0 r) {y : Int32} (hy : y < 0 ∨ ∃ j, m ≤ j ∧ j < 13000 ∧ y = nI j) (x z : Int32) : t_hk (k_X13_single_6 rc x y z r) (fun w => ∃ r', w = .inr r' ∧ xR P f p0 m s r0 r'.2) := by
  unfold k_X13_single_6
  exact l2_if (fun _ => xl_inr (h.single167 T hy x)) (fun _ => l2_no h.ne (xl_inr (h.single167 T hy x)))
theorem xR.templ149 (h : xR P f p0 m s r0 r) (x : Int32) : t_hk (k_X13_templ_149 rc x r) (fun w => xR P f p0 m s r0 w.2) := by
  unfold k_X13_templ_149
  exact l2_lt (l2_sm (h.set (Or.inr (Or.inr ⟨rfl, rfl⟩))))
theorem xR.templ129 (h : xR P f p0 m s r0 r) {n : Nat} (hn : m ≤ n) (h3 : n < 13000) : t_hk (k_X13_templ_129 rc (nI n) r) (fun w => xR P f p0 m s r0 w.2) := by
  unfold k_X13_templ_129
  refine l2_if (fun _ => h.templ149 _) (fun _ => l2_bd _ h.next (fun r1 h1 => l2_ck (l2_ix h3 (by decide)) (l2_lt ?_)))
  rw [nI_clamp (by omega)]
  exact (h1.set (b := 961) (Or.inl ⟨by decide, by decide, hn⟩)).templ149 _
theorem xR.templ101 (h : xR P f p0 m s r0 r) {n k : Nat} (hn : m ≤ n) (h3 : n < 13000) (hk : k < 13000) : t_hk (k_X13_templ_101 rc (nI k) (nI n) r) (fun w => xR P f p0 m s r0 w.2) := by
  unfold k_X13_templ_101
  refine l2_bd _ (h.span hn h3 _) (fun r1 h1 => l2_ck (l2_ix h3 (by decide)) (l2_lt (l2_ck (l2_ix hk (by decide)) (l2_lt ?_))))
  rw [nI_clamp (n := n) (by omega)]
  exact ((h1.set (b := 959) (Or.inl ⟨by decide, by decide, hn⟩)).set (b := 956) (Or.inl ⟨by decide, by decide, hn⟩)).templ129 hn h3
theorem xR.templs124 (h : xR P f p0 m s r0 r) (x y v : Int32) : t_hk (k_X13_templs_124 rc x y v r) (fun w => ∃ a b d r', w = .inl (x, a, b, d, r') ∧ xR P f p0 m s r0 r') := by
  unfold k_X13_templs_124
  exact l2_if (fun _ => l2_sm ⟨_, _, _, _, rfl, h⟩) (fun _ => l2_bd _ h.next (fun r1 h1 => l2_sm ⟨_, _, _, _, rfl, h1⟩))
theorem xR.templs68 (T : xT rc) (hm : m ≤ 12999) (h : xR P f p0 m s r0 r) (x y v z : Int32) : t_hk (k_X13_templs_68 rc x y v z r) (fun w => ∃ a b d r', w = .inl (x, a, b, d, r') ∧ xR P f p0 m s r0 r') := by
  unfold k_X13_templs_68
  refine l2_if (fun _ => l2_eq (T.1 r h.ne).2.2.2 (l2_eq (h.hang _ _) (h.templs124 x y v))) (fun _ => l2_bd _ (h.node hm _ _) (fun y1 h1 => l2_bd _ h1.1.next (fun r2 h2 => l2_bd _ (h2.mustBe _) (fun r3 h3 => l2_bd _ (T.2.2.2.2.2 _ _ _ _ _ _ _ _ _ hm h3) (fun r4 h4 => l2_bd _ (h4.mustBe _) (fun r5 h5 => l2_eq (h5.hang _ _) (h5.templs124 x y v)))))))
theorem xR.tone256 (h : xR P f p0 m s r0 r) (x : Int32) : t_hk (k_X13_tone_256 rc x r) (fun w => xR P f p0 m s r0 w.2) := by
  unfold k_X13_tone_256
  exact l2_bd _ (h.mustBe _) (fun y hy => l2_sm hy)
theorem xR.wt152 (h : xR P f p0 m s r0 r) {n : Nat} (hn : m ≤ n) (h3 : n < 13000) : t_hk (k_X13_wordTone_152 rc (nI n) r) (fun w => xR P f p0 m s r0 w.2) := by
  unfold k_X13_wordTone_152
  exact l2_bd _ (h.keepText hn h3) (fun y hy => l2_bd _ hy.next (fun z hz => l2_sm hz))
theorem xR.wt182 (T : xT rc) (hm : m ≤ 12999) (h : xR P f p0 m s r0 r) (x : Int32) : t_hk (k_X13_wordTone_182 rc x r) (fun w => xR P f p0 m s r0 w.2) := by
  unfold k_X13_wordTone_182
  exact l2_bd _ (h.mustBe _) (fun r1 h1 => l2_bd _ (T.2.2.2.2.2 _ _ _ _ _ _ _ _ _ hm h1) (fun r4 h4 => l2_bd _ (h4.mustBe _) (fun r5 h5 => l2_sm h5)))
theorem xR.wt125 (T : xT rc) (hm : m ≤ 12999) (h : xR P f p0 m s r0 r) {n : Nat} (hn : m ≤ n) (h3 : n < 13000) (x : Int32) : t_hk (k_X13_wordTone_125 rc x (nI n) r) (fun w => xR P f p0 m s r0 w.2) := by
  unfold k_X13_wordTone_125
  exact l2_bd _ h.next (fun r1 h1 => l2_if (fun _ => l2_if (fun _ => h1.wt152 hn h3) (fun _ => l2_eq (h1.fail _ _) (h1.wt152 hn h3))) (fun _ => l2_if (fun _ => h1.wt182 T hm _) (fun _ => l2_if (fun _ => h1.wt182 T hm _) (fun _ => l2_if (fun _ => l2_sm h1) (fun _ => h1.wt182 T hm _)))))
theorem xR.wb251 (h : xR P f p0 m s r0 r) (x : Int32) : t_hk (k_X13_wordBase_251 rc x r) (fun w => xR P f p0 m s r0 w.2) := by
  unfold k_X13_wordBase_251
  exact l2_bd _ (h.mustBe _) (fun y hy => l2_sm hy)
theorem xR.wb215 (T : xT rc) (h : xR P f p0 m s r0 r) (x y : Int32) : t_hk (k_X13_wordBase_215 rc x y r) (fun w => xR P f p0 m s r0 w.2) := by
  unfold k_X13_wordBase_215
  refine l2_bd _ (h.mustBe _) (fun r1 h1 => l2_eq (T.1 r1 h1.ne).2.1 (l2_eq (h1.hang _ _) (l2_if (fun _ => l2_bd _ (h1.mustBe _) (fun r2 h2 => l2_eq (T.1 r2 h2.ne).2.2.2 (l2_eq (h2.hang _ _) (h2.wb251 _)))) (fun _ => h1.wb251 _))))
theorem xR.wb199 (T : xT rc) (h : xR P f p0 m s r0 r) {n : Nat} (hn : m ≤ n) (h3 : n < 13000) (x : Int32) : t_hk (k_X13_wordBase_199 rc x (nI n) r) (fun w => xR P f p0 m s r0 w.2) := by
  unfold k_X13_wordBase_199
  refine l2_bd _ h.next (fun r1 h1 => l2_if (fun _ => h1.wb215 T _ _) (fun _ => l2_if (fun _ => h1.wb215 T _ _) (fun _ => l2_if (fun _ => l2_ck (l2_ix h3 (by decide)) (l2_lt ?_)) (fun _ => l2_sm h1))))
  rw [nI_clamp (by omega)]
  exact l2_bd _ ((h1.set (b := 961) (Or.inl ⟨by decide, by decide, hn⟩)).name) (fun y hy => l2_lt (l2_bd _ ((hy.setJ ⟨by decide, by decide, hn⟩).next) (fun z hz => l2_sm hz)))
theorem xR.fh48 (hm : m ≤ 12999) (h : xR P f p0 m s r0 r) (x y z : Int32) : t_hk (k_X13_fieldHere_48 x y z r) (fun w => xR P f p0 m s r0 w.2) := by
  unfold k_X13_fieldHere_48
  refine l2_bd _ (h.node hm _ _) (fun v hv => ?_)
  obtain ⟨h1, ⟨j, j1, j2, j3⟩, _⟩ := hv
  rw [j3]
  refine l2_ck (l2_ix j2 (by decide)) (l2_lt (l2_lt ?_))
  rw [nI_clamp (by omega)]
  have h2 := (h1.setJ (b := 957) (v := z.toInt64) ⟨by decide, by decide, j1⟩)
  have h3 := h2.set (b := 1003) (v := (t_setJ v.2 957 j z.toInt64).1 950 6) (Or.inr (Or.inl ⟨rfl, j1⟩))
  exact l2_eq (h3.hang _ _) (l2_bd _ h3.next (fun r4 h4 => l2_bd _ (h4.mustBe _) (fun r5 h5 => l2_sm h5)))
theorem xR.fh33 (hm : m ≤ 12999) (h : xR P f p0 m s r0 r) (x y z v : Int32) : t_hk (k_X13_fieldHere_33 x y z v r) (fun w => xR P f p0 m s r0 w.2) := by
  unfold k_X13_fieldHere_33
  exact l2_if (fun _ => l2_eq (h.fail _ _) (h.fh48 hm _ _ _)) (fun _ => h.fh48 hm _ _ _)
end
theorem xT_R (k : Nat) : xT (R_X13_base (k + 3)) := by
  have base : ∀ k (r : t_S), r.1 950 2 ≠ 0 → (R_X13_base (k + 1)).1 r = some (0, r) := fun k r h => by
    show m_X13_base _ r = _
    unfold m_X13_base
    rw [if_neg h]
  have exp : ∀ k (r : t_S), r.1 950 2 ≠ 0 → (R_X13_base (k + 1)).2.1 r = some (0, r) := fun k r h => by
    show m_X13_exp _ r = _
    unfold m_X13_exp
    rw [if_neg h]
  have level : ∀ k (r : t_S), r.1 950 2 ≠ 0 → ∀ x, (R_X13_base (k + 1)).2.2.2.2.2.1 x r = some (0, r) := fun k r h x => by
    show m_X13_level _ x r = _
    unfold m_X13_level
    rw [if_neg h]
  have templ : ∀ k (r : t_S), r.1 950 2 ≠ 0 → (R_X13_base (k + 1)).2.2.2.2.2.2.2.1 r = some (0, r) := fun k r h => by
    show m_X13_templ _ r = _
    unfold m_X13_templ
    rw [if_neg h]
  refine ⟨fun r h => ⟨base _ r h, exp _ r h, level _ r h, templ _ r h⟩, ?_, ?_, ?_, ?_, ?_⟩
  · intro P f p0 m s r0 r hm h
    show t_hk (m_X13_single (R_X13_base (k + 2)) r) _
    unfold m_X13_single
    refine xl_one ?_
    show t_hk (k_X13_single_6 (R_X13_base (k + 2)) (-1) (-1) 1 r) _
    unfold k_X13_single_6
    refine l2_no (by decide) (l2_no h.ne (xl_inr ?_))
    unfold k_X13_single_167
    exact l2_eq (base _ r h.ne) (xl_one (h.single173 (y := -1) (Or.inl ch_m1) (-1) 0))
  · intro x P f p0 m s r0 r hm h
    show t_hk (m_X13_exps (R_X13_base (k + 2)) x r) _
    unfold m_X13_exps
    exact xl_one (h.exps4 x 1 0)
  · intro x P f p0 m s r0 r hm h
    show t_hk (m_X13_fieldExps (R_X13_base (k + 2)) x r) _
    unfold m_X13_fieldExps k_X13_fieldExps_14
    exact l2_if (fun _ => xl_one (h.fe17 x 1 0)) (fun _ => xl_one (h.fe17 x 0 0))
  · intro x P f p0 m s r0 r hm h
    show t_hk (m_X13_fieldTempls (R_X13_base (k + 2)) x r) _
    unfold m_X13_fieldTempls k_X13_fieldTempls_14
    exact l2_if (fun _ => xl_one (h.ft17 x 1 0)) (fun _ => xl_one (h.ft17 x 0 0))
  · intro x y P f p0 m s r0 r hm h
    show t_hk (m_X13_templs (R_X13_base (k + 2)) x y r) _
    unfold m_X13_templs
    exact xl_one (h.templs5 x y 1 0)
/-- the reference at a comparison that can't come: the class has told fault 2 there -/
def rj (P : pc_S) (p0 m s : Nat) (r0 r : t_S) : Prop := r.1 950 2 = 0 ∧ r.1 950 5 = 4 ∧ (r.1 950 9 = 60 ∨ r.1 950 9 = 62 ∨ r.1 950 9 = 15677 ∨ r.1 950 9 = 8509 ∨ r.1 950 9 = 15421 ∨ r.1 950 9 = 15933) ∧ r.1 950 6 = nI p0 ∧ l2_fr (xWr m s) r0 r ∧ (∃ m', m ≤ m' ∧ m' ≤ 13000 ∧ r.1 950 24 = nI m') ∧ pr P 2 p0 (t_setI (t_setI r 950 2 2) 950 3 (nI p0))
def rj_no (x : Int32) : Prop := x ≠ 60 ∧ x ≠ 62 ∧ x ≠ 15677 ∧ x ≠ 8509 ∧ x ≠ 15421 ∧ x ≠ 15933
theorem rj.is {P : pc_S} {p0 m s : Nat} {r0 r : t_S} (h : rj P p0 m s r0 r) {x : Int32} (hx : rj_no x) : f_X13_is x r = 0 := by
  unfold f_X13_is
  rw [if_pos h.2.1, if_neg (fun e => ?_)]
  obtain ⟨_, _, h3, _⟩ := h
  rw [e] at h3
  obtain ⟨a, b, d, e2, g, i⟩ := hx
  rcases h3 with q | q | q | q | q | q
  · exact a q
  · exact b q
  · exact d q
  · exact e2 q
  · exact g q
  · exact i q
theorem rj.isWord {P : pc_S} {p0 m s : Nat} {r0 r : t_S} (h : rj P p0 m s r0 r) (x : Int32) : f_X13_isWord x r = 0 := by
  unfold f_X13_isWord
  rw [h.2.1, if_neg (by decide)]
theorem rj.sub {P : pc_S} {p0 m s m2 s2 : Nat} {r0 r1 r : t_S} (h : rj P p0 m2 s2 r1 r) (g : l2_fr (xWr m s) r0 r1) (h1 : m ≤ m2) (h2 : s ≤ s2) : rj P p0 m s r0 r := by
  obtain ⟨a1, a2, a3, a4, a5, ⟨m', a6, a7, a8⟩, a9⟩ := h
  exact ⟨a1, a2, a3, a4, g.trans (a5.mono (fun b j y => y.sub h1 h2)), ⟨m', by omega, a7, a8⟩, a9⟩
theorem rj.fail {P : pc_S} {p0 m s : Nat} {r0 r : t_S} (h : rj P p0 m s r0 r) : t_hk (f_X13_fail 2 (r.1 950 6) r) (xR P 2 p0 m s r0) := by
  obtain ⟨a1, a2, a3, a4, a5, ⟨m', a6, a7, a8⟩, a9⟩ := h
  rw [rs_fail a1, a4]
  refine l2_sm ⟨a9, a5.trans ((l2_fr.set (Or.inl ⟨rfl, by omega⟩)).trans (l2_fr.set (Or.inl ⟨rfl, by omega⟩))), m', a6, a7, ?_⟩
  simp only [l2_gI, Nat.reduceEqDiff, reduceIte]
  exact a8
theorem rj.mustBe {P : pc_S} {p0 m s : Nat} {r0 r : t_S} (h : rj P p0 m s r0 r) {x : Int32} (hx : rj_no x) : t_hk (f_X13_mustBe x r) (xR P 2 p0 m s r0) := by
  unfold f_X13_mustBe k_X13_mustBe_17
  rw [h.is hx]
  exact l2_ck rfl (l2_bd _ h.fail (fun r1 h1 => l2_bd _ h1.next (fun r2 h2 => l2_sm h2)))
theorem rj.mustWord {P : pc_S} {p0 m s : Nat} {r0 r : t_S} (h : rj P p0 m s r0 r) (x : Int32) : t_hk (f_X13_mustWord x r) (xR P 2 p0 m s r0) := by
  unfold f_X13_mustWord k_X13_mustWord_17
  rw [h.isWord]
  exact l2_ck rfl (l2_bd _ h.fail (fun r1 h1 => l2_bd _ h1.next (fun r2 h2 => l2_sm h2)))
theorem rj.fr {P : pc_S} {p0 m s : Nat} {r0 r r' : t_S} {W : Nat → Nat → Prop} (h : rj P p0 m s r0 r) (g : l2_fr W r r') (w : ∀ b j, W b j → (955 ≤ b ∧ b ≤ 962 ∧ m ≤ j) ∨ (b = 1003 ∧ m ≤ j) ∨ (b = 950 ∧ j = 32)) : rj P p0 m s r0 r' := by
  obtain ⟨a1, a2, a3, a4, a5, ⟨m', a6, a7, a8⟩, a9⟩ := h
  have e : ∀ j, j ≠ 32 → r'.1 950 j = r.1 950 j := fun j hj => (g 950 j (fun y => by have := w _ _ y; omega)).1
  refine ⟨by rw [e 2 (by decide)]; exact a1, by rw [e 5 (by decide)]; exact a2, by rw [e 9 (by decide)]; exact a3, by rw [e 6 (by decide)]; exact a4, a5.trans (g.mono (fun b j y => ?_)), ⟨m', a6, a7, by rw [e 24 (by decide)]; exact a8⟩, ?_⟩
  · rcases w b j y with z | z | z
    · exact Or.inr (Or.inr (Or.inl z))
    · exact Or.inr (Or.inr (Or.inr (Or.inr z)))
    · exact Or.inl ⟨z.1, by omega⟩
  · refine pr.fr (Wr := fun b j => W b j ∧ ¬ (b = 950 ∧ (j = 2 ∨ j = 3))) a9 (fun b j n => ?_) (fun j hj y => ?_) (fun b i x1 x2 y => ?_)
    · by_cases z : b = 950 ∧ (j = 2 ∨ j = 3)
      · obtain ⟨rfl, z⟩ := z
        have gg := g 950 j (fun y => by have := w _ _ y; omega)
        refine ⟨?_, gg.2.1, gg.2.2⟩
        rcases z with rfl | rfl <;> simp only [l2_gI, Nat.reduceEqDiff, reduceIte]
      · have gg := g b j (fun y => n ⟨y, z⟩)
        refine ⟨?_, gg.2.1, gg.2.2⟩
        simp only [l2_gI]
        rw [gg.1]
    · have := w _ _ y.1; omega
    · have := w _ _ y.1; omega
/-- a part hangs there -/
theorem rj.hang {P : pc_S} {p0 m s n v x : Nat} {r0 r : t_S} {G : Nat → Nat} (h : rj P p0 m s r0 r) (hc : ch_R r n v G) (hn : m ≤ n) (hx : n < x) (hv : v < 1000000) (h3 : x < 13000) (hb : r.1 960 x = -1) (hG : ∀ j, j < v → G j < x) : t_hk (f_X13_hang (nI n) (nI x) r) (rj P p0 m s r0) := by
  refine l2_imp (ch_hang hc hx hv h3 h.1 hb hG) (fun r' hr => h.fr hr.2 (fun b j y => ?_))
  rcases y with ⟨rfl, rfl, _⟩ | ⟨rfl, z, rfl⟩
  · exact Or.inl ⟨by decide, by decide, hn⟩
  · have := (hc.2 (v - 1) (by omega)).2.1
    exact Or.inl ⟨by decide, by decide, by omega⟩
