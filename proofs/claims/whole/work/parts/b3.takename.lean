/-! Level 2: exps on both sides: the name of a field, small things. -/
/-- both behind a fault, whatever the step wrote -/
theorem xf.ofW {P : pc_S} {E : en_S} {u d z q m t e p l w' o s i dd t0 e0 pp l0 w o0 m0 s0 : Nat} {c0 r0 c r c' r' : t_S} {Wc Wr : Nat → Nat → Prop} (X : xp P E u d z q m t e p l w' o s i dd c r) (hz : z ≤ 1) (he : e ≤ 16000) (ho : o ≤ 288) (hw : w ≤ w' ∧ w' ≤ 3001) (h0 : e0 ≤ e ∧ o0 ≤ o ∧ m0 ≤ m) (fc : l2_fr (xWc t0 e0 pp l0 w o0) c0 c) (fr : l2_fr (xWr m0 s0) r0 r) (g : l2_fr Wc c c') (gr : l2_fr Wr r r') (gw : ∀ b j, Wc b j → xWc t0 e0 pp l0 w o0 b j) (grw : ∀ b j, Wr b j → xWr m0 s0 b j) (g1 : ¬ Wc 334 2 ∧ ¬ Wc 845 9 ∧ ¬ Wc 845 7) (g2 : ∀ j, ¬ Wc 854 j) (g3 : ¬ Wr 950 24) (h : pf P c' r') (xx : xw e0 w w' c) : xf P t0 e0 pp l0 w o0 w' m0 s0 c0 r0 c' r' := by
  obtain ⟨f, p0, h1, h2⟩ := h
  obtain ⟨a, b, _⟩ := X.1.mle hz
  exact ⟨f, p0, xF.of X he ho hw ⟨h0.1, h0.2.1⟩ fc g gw g1 g2 h1 xx, h2, fr.trans (gr.mono grw), m, h0.2.2, by omega, by rw [(gr 950 24 g3).1]; exact b⟩
/-- the word at the class's token -/
theorem pj.wd {c : t_S} {x : Nat} (h : c.2.1 1 10 = lN (66 + x)) : f_X2_word c = nI (66 + x) := by
  unfold f_X2_word
  rw [h]
  exact lN_i _
/-- the name of a field or a choice, taken by the reference at node n -/
noncomputable def fnR (n : Nat) (r : t_S) : Option t_S := (f_X13_freeName (t_setI r 1003 n (r.1 950 6))).bind (fun r4 => f_X13_next (t_setJ r4.2 957 n r4.1.toInt64))
def fn_C (b j : Nat) : Prop := la_W b j ∨ (b = 846 ∧ (j = 7 ∨ j = 8))
def fn_W (n b j : Nat) : Prop := rn_W b j ∨ nm_W b j ∨ (b = 1003 ∧ j = n) ∨ (b = 957 ∧ j = n)
theorem en.kn {E : en_S} {c r : t_S} (h : en E c r) : c.1 845 16 = nI E.2.2.2.2.1 ∧ E.2.2.2.2.1 < 2 ^ 31 ∧ c.1 845 15 = nI E.2.2.2.1 ∧ E.2.2.2.1 ≤ 1 ∧ r.1 950 33 = nI E.2.1 ∧ E.2.1 < 4000 ∧ r.1 950 34 = nI E.2.2.1 ∧ E.2.2.1 ≤ 8 ∧ f_X6_home c = E.1 := by
  obtain ⟨hm, cx, td, ba, kn, v⟩ := E
  obtain ⟨h1, h2, h3, h4, h5, h6, h7, h8, h9, h10⟩ := h
  refine ⟨h8, h9, h6, ?_, h2, h3, h4, h5, h1⟩
  show ba ≤ 1
  rw [h7]
  split <;> omega
theorem fn_take {P : pc_S} {E : en_S} {u d z q m t e p l w o s i dd n : Nat} {c r : t_S} (X : xp P E u d z q m t e p l w o s i dd c r) (hz : z ≤ 1) : t_h2 (f_X6_takeFieldName c) (fnR n r) (fun y r' => l2_fr fn_C c y.2 ∧ l2_fr (fn_W n) r r' ∧ ((∃ x, x < 7934 ∧ y.1 = nI (66 + x) ∧ xp P E (u + 1) 0 0 q m t e p l w o s i dd y.2 r' ∧ r'.1 1003 n = nI (pc_p P u) ∧ r'.2.1 957 n = lN x ∧ (∀ S, lt_R c S → lt_R y.2 (fun p => S p ∨ (E.2.2.2.2.1 ≤ 66 + x ∧ p = pc_p P u))) ∧ pc_p P u < pc_p P (u + 1) ∧ pc_c P (u + 1) = pc_c P u + 1) ∨ pf P y.2 r')) := by
  have cle := X.1.cle
  have f1 : l2_fr (fun b j => b = 1003 ∧ j = n) r (t_setI r 1003 n (r.1 950 6)) := l2_fr.set ⟨rfl, rfl⟩
  have v1 : (t_setI r 1003 n (r.1 950 6)).1 1003 n = nI (pc_p P u) := by simp only [l2_gI, reduceIte]; exact cle.2.2.1
  have X1 := X.own (l2_fr.rf (W := fun _ _ => False)) f1 (fun b j y => y.elim) (fun b j y => by omega)
  unfold fnR f_X6_takeFieldName
  generalize t_setI r 1003 n (r.1 950 6) = r1 at *
  by_cases k8 : c.1 1 8 = 1
  · refine h2_ckL k8 ?_
    unfold k_X6_takeFieldName_19
    refine h2_ckL X.1.f0.1 (h2_bR _ (pj_name X1.1 k8) (fun y hy => ?_))
    obtain ⟨y0, r2⟩ := y
    obtain ⟨x, hx, n1, n2, n3, n4⟩ := hy
    have n2 : y0 = nI x := n2
    subst n2
    have n3 : l2_fr nm_W r1 r2 := n3
    have n4 : pj P u 1 z q m c r2 := n4
    have ww : f_X2_word c = nI (66 + x) := pj.wd n1
    have kn := X.2.1.kn
    have cw := X.1.cword k8
    have n4' : c.1 1 8 ≠ 4 := by rw [k8]; decide
    have plt := X.1.plt' n4'
    have f3 : l2_fr (fun b j => b = 957 ∧ j = n) r2 (t_setJ r2 957 n (nI x).toInt64) := l2_fr.setJ ⟨rfl, rfl⟩
    have v3 : (t_setJ r2 957 n (nI x).toInt64).2.1 957 n = lN x := by
      simp only [l2_gJ, reduceIte]
      exact nI_l (by omega)
    have v31 : (t_setJ r2 957 n (nI x).toInt64).1 1003 n = nI (pc_p P u) := by
      rw [(f3 1003 n (by omega)).1, (n3 1003 n (by unfold nm_W; omega)).1]
      exact v1
    generalize t_setJ r2 957 n (nI x).toInt64 = r3 at *
    have fr3 : l2_fr (fn_W n) r r3 := ((f1.mono (fun b j y => Or.inr (Or.inr (Or.inl y)))).trans (n3.mono (fun b j y => Or.inr (Or.inl y)))).trans (f3.mono (fun b j y => Or.inr (Or.inr (Or.inr y))))
    have J3 : pj P u 1 z q m c r3 := n4.fr (l2_fr.rf (W := fun _ _ => False)) f3 (fun j y => y) (fun b i _ _ y => y) (fun b i _ _ y => y) (fun y => y) (fun j _ => by omega) (fun b i _ _ => by omega)
    -- one more token
    have key : ∀ c', l2_fr (fun b j => b = 846 ∧ (j = 7 ∨ j = 8)) c c' → (∀ S, lt_R c S → lt_R c' (fun p => S p ∨ (E.2.2.2.2.1 ≤ 66 + x ∧ p = pc_p P u))) → t_h2 (k_X6_takeFieldName_62 (nI (66 + x)) c') (f_X13_next r3) (fun y r' => l2_fr fn_C c y.2 ∧ l2_fr (fn_W n) r r' ∧ ((∃ x, x < 7934 ∧ y.1 = nI (66 + x) ∧ xp P E (u + 1) 0 0 q m t e p l w o s i dd y.2 r' ∧ r'.1 1003 n = nI (pc_p P u) ∧ r'.2.1 957 n = lN x ∧ (∀ S, lt_R c S → lt_R y.2 (fun p => S p ∨ (E.2.2.2.2.1 ≤ 66 + x ∧ p = pc_p P u))) ∧ pc_p P u < pc_p P (u + 1) ∧ pc_c P (u + 1) = pc_c P u + 1) ∨ pf P y.2 r')) := by
      intro c' g hL
      have J' : pj P u 1 z q m c' r3 := J3.fr g (l2_fr.rf (W := fun _ _ => False)) (fun j => by omega) (fun b i _ _ => by omega) (fun b i _ _ => by omega) (by omega) (fun j _ y => y) (fun b i _ _ y => y)
      have X' : xp P E u 1 z q m t e p l w o s i dd c' r3 := X.fr J' g fr3 (fun b j y => by omega) (fun b i _ _ => by omega) (fun j y => by unfold fn_W rn_W nm_W; omega)
      unfold k_X6_takeFieldName_62
      have eid : f_X13_next r3 = (f_X13_next r3).bind (fun v => some v) := by cases f_X13_next r3 <;> rfl
      rw [eid]
      refine h2_bb _ (xp_adv X' hz (Or.inl rfl) (by rw [(g 1 8 (by omega)).1]; exact n4')) (fun c4 r4 hw => h2_sm ?_)
      obtain ⟨w1, w2, w3⟩ := hw
      refine ⟨(g.mono (fun b j y => Or.inr y)).trans (w1.mono (fun b j y => Or.inl y)), fr3.trans (w2.mono (fun b j y => Or.inl y)), ?_⟩
      rcases w3 with ⟨X4, l1, l2⟩ | w3
      · refine Or.inl ⟨x, hx, rfl, X4, by rw [(w2 1003 n (by unfold rn_W; omega)).1]; exact v31, by rw [(w2 957 n (by unfold rn_W; omega)).2.1]; exact v3, fun S hS => ?_, l1, cw⟩
        exact (hL S hS).same (w1 846 7 (by unfold la_W; omega)).1 (w1 846 8 (by unfold la_W; omega)).1
      · exact Or.inr w3
    rw [ww, kn.1]
    by_cases g : 66 + x < E.2.2.2.2.1
    · refine h2_ckL ((nI_ltI (by omega) kn.2.1).mpr g) ?_
      exact key c l2_fr.rf (fun S hS => hS.iff (fun y => ⟨Or.inl, fun z => z.elim id (fun q => by omega)⟩))
    · refine h2_noL (fun y => g ((nI_ltI (by omega) kn.2.1).mp y)) ?_
      rw [cle.2.1]
      refine h2_bL _ (lt_late (c := c) cle.2.2.2) (fun c' hc => ?_)
      exact key c' hc.1 (fun S hS => (hc.2 S hS).iff (fun y => ⟨fun z => z.elim Or.inl (fun q => Or.inr ⟨by omega, q⟩), fun z => z.elim Or.inl (fun q => Or.inr q.2)⟩))
  · refine h2_noL k8 (h2_bb _ (pj_noname X1.1 hz k8) (fun c' y hw => ?_))
    obtain ⟨w1, w2, f, p0, w3, w4⟩ := hw
    obtain ⟨y0, r2⟩ := y
    have w2 : l2_fr rn_W r1 r2 := w2
    have w4 : pr P f p0 r2 := w4
    unfold k_X6_takeFieldName_19
    have f3 : l2_fr (fun b j => b = 957 ∧ j = n) r2 (t_setJ r2 957 n y0.toInt64) := l2_fr.setJ ⟨rfl, rfl⟩
    have w5 : pr P f p0 (t_setJ r2 957 n y0.toInt64) := w4.fr f3 (fun j _ => by omega) (fun b i _ _ => by omega)
    refine h2_noL w3.ne ?_
    show t_h2 _ (f_X13_next (t_setJ r2 957 n y0.toInt64)) _
    rw [(pr_next w5).1]
    have f4 : l2_fr rn_W (t_setJ r2 957 n y0.toInt64) (t_setI (t_setJ r2 957 n y0.toInt64) 950 5 0) := l2_fr.set (by unfold rn_W; omega)
    refine h2_sm ⟨w1.mono (fun b j y => Or.inl y), ?_, Or.inr ⟨f, p0, w3, w5.dead⟩⟩
    exact (((f1.mono (fun b j y => Or.inr (Or.inr (Or.inl y)))).trans (w2.mono (fun b j y => Or.inl y))).trans (f3.mono (fun b j y => Or.inr (Or.inr (Or.inr y))))).trans (f4.mono (fun b j y => Or.inl y))
theorem fn_Cx {t e p l w o b j : Nat} (h : fn_C b j) : xWc t e p l w o b j := by
  rcases h with h | ⟨rfl, h⟩
  · exact x_la h
  · exact xWc.i846 (by omega)
theorem fn_Wx {m s n b j : Nat} (h : fn_W n b j) (hn : m ≤ n) : xWr m s b j := by
  rcases h with h | h | ⟨rfl, rfl⟩ | ⟨rfl, rfl⟩
  · exact x_rn h
  · exact x_nm h
  · exact Or.inr (Or.inr (Or.inr (Or.inr ⟨rfl, hn⟩)))
  · exact Or.inr (Or.inr (Or.inl ⟨by decide, by decide, hn⟩))
