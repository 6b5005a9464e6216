/-! Level 2: a word that is linked; a type told behind a name. -/
/-- what a link writes in the class, from l on -/
def hi_Wc (l b j : Nat) : Prop := la_W b j ∨ (b = 846 ∧ j = 6) ∨ (848 ≤ b ∧ b ≤ 853 ∧ l ≤ j)
def hi_Wr (b j : Nat) : Prop := nk_W b j ∨ (b = 950 ∧ (j = 86 ∨ j = 87))
/-- a link's row -/
def hi_e (c : t_S) (e : Nat) (so : Int32) (X pl : Nat) (hm spot ex : Int32) : Prop := c.1 849 e = so ∧ c.1 850 e = nI (66 + X) ∧ c.1 848 e = nI pl ∧ c.1 851 e = hm ∧ c.1 852 e = spot ∧ c.1 853 e = ex
theorem hi_e.fr {c c' : t_S} {e X pl : Nat} {so hm spot ex : Int32} (h : hi_e c e so X pl hm spot ex) (g : ∀ b, 848 ≤ b → b ≤ 853 → c'.1 b e = c.1 b e) : hi_e c' e so X pl hm spot ex := by
  unfold hi_e at *
  rw [g 849 (by decide) (by decide), g 850 (by decide) (by decide), g 848 (by decide) (by decide), g 851 (by decide) (by decide), g 852 (by decide) (by decide), g 853 (by decide) (by decide)]
  exact h
section
variable {P : pc_S} {nt : Nat → Nat} {u q m a g t e p l s i st f p0 : Nat} {kf kk ka : Int32} {c0 r0 c r c' r' : t_S}
theorem hi_mo (h : l2_fr (hi_Wc l) c0 c) : l2_fr mo_Wc c0 c := h.mono (fun b j y => by unfold hi_Wc la_W at y; unfold mo_Wc; omega)
theorem hi_mr (h : l2_fr hi_Wr r0 r) : l2_fr mo_Wr r0 r := h.mono (fun b j y => by unfold hi_Wr nk_W rn_W nm_W at y; unfold mo_Wr; omega)
theorem mF.link (h : mF f p0 c) (x y z : Int32) : f_X6_link x y z c = some c := by
  unfold f_X6_link
  rw [if_neg (by rw [h.1.2.2.2.2]; decide), (lc_stay h.1).2]
  rfl
theorem hk_link {T : Type} {U : Type} {F : t_S → Option T} {K : t_S → Option U} {Q : T → U → Prop} {S : Int32 → t_S → t_S} {Wr : Nat → Nat → Prop} {so spot ex : Int32} (M : mp P nt u q m a g t e p l s i st kf kk ka c r) (hs : ∀ v x, l2_fr Wr x (S v x)) (hw : ∀ b j, Wr b j → (b = 950 ∧ (j = 86 ∨ j = 87)) ∨ (976 ≤ b ∧ b ≤ 978) ∨ (982 ≤ b ∧ b ≤ 983) ∨ (988 ≤ b ∧ b ≤ 1002)) (hg : ∀ X pl c' r1 r', X < 7934 → pl ≤ 12000 → mp P nt (u + 1) q m a g t e p (l + 1) s i st kf kk ka c' r' → l2_fr (hi_Wc l) c c' → l2_fr nm_W r r1 → l2_fr rn_W (S (nI X) r1) r' → hi_e c' l so X pl (f_X6_home c) spot ex → c.1 1 9 = nI pl → r.1 950 6 = nI pl → c.2.1 1 10 = lN (66 + X) → pc_p P u < pc_p P (u + 1) → t_h2 (F c') (K r') Q) (hb : ∀ f p0 c' r', mF f p0 c' → l2_fr (hi_Wc l) c c' → l2_fr (fun b j => Wr b j ∨ nk_W b j) r r' → pr P f p0 r' → t_h2 (F c') (K r') Q) : t_h2 ((f_X6_link so spot ex c).bind F) ((f_X13_freeName r).bind (fun x => (f_X13_next (S x.1 x.2)).bind K)) Q := by
  have M0 := M
  obtain ⟨J, N, ⟨k1, k2, k3, k4, k5, k6, k7⟩, ⟨v1, v2, v3, v4, v5, v6, v7⟩, ⟨s1, s2, s3⟩, ⟨b1, b2, b3, b4, b5, b6, b7, b8, b9⟩⟩ := M
  unfold f_X6_link
  by_cases h8 : c.1 1 8 = 1
  rotate_left
  · rw [if_neg h8]
    obtain ⟨c1, x, e1, e2, w1, w2, f2, p0, w3, w4⟩ := pj_noname J (by decide) h8
    rw [e1, e2, l2_bs, l2_bs, l2_bs]
    have w5 : pr P f2 p0 (S x.1 x.2) := w4.fr (hs _ _) (fun j y z => by have := hw _ _ z; omega) (fun b i _ _ z => by have := hw _ _ z; omega)
    rw [(pr_next w5).1, l2_bs]
    refine hb f2 p0 c1 _ (M0.mF w3 (w1 334 2 (by unfold la_W; omega)).1 (w1 845 9 (by unfold la_W; omega)).1 (w1 845 7 (by unfold la_W; omega)).1) (w1.mono (fun b j y => Or.inl y)) (((w2.mono (fun b j y => Or.inr (Or.inl y))).trans ((hs _ _).mono (fun b j y => Or.inl y))).trans ((l2_fr.set (W := rn_W) ⟨rfl, by decide, by decide⟩).mono (fun b j y => Or.inr (Or.inl y)))) w5.dead
  · rw [if_pos h8]
    obtain ⟨x, e1, X, hX, n1, n2, n3, J1⟩ := pj_name J h8
    have cl := J.cle
    have cw := J.cword h8
    have wd : f_X2_word c = nI (66 + X) := pj.wd n1
    rw [e1, l2_bs, wd, cl.2.1]
    obtain ⟨c1, e2, z1, z2, z3, z4, z5, z6, z7, z8⟩ := ln_add (l := l) (x1 := so) (x2 := nI (pc_p P u)) (x3 := nI (66 + X)) (x4 := f_X6_home c) (x5 := spot) (x6 := ex) k6 (by omega)
    rw [e2, l2_bs, n2]
    have J2 : pj P u 1 0 q m c1 (S (nI X) x.2) := J1.fr z1 (hs _ _) (fun j => by omega) (fun b i _ _ => by omega) (fun b i _ _ => by omega) (by omega) (fun j y z => by have := hw _ _ z; omega) (fun b i _ _ z => by have := hw _ _ z; omega)
    have h8' : c1.1 1 8 = 1 := by rw [(z1 1 8 (by omega)).1]; exact h8
    rw [show ∀ o : Option t_S, (o.bind (fun r4 => some r4)).bind F = o.bind F from fun o => by cases o <;> rfl]
    refine h2_bb _ (pj_adv J2 (by decide) (Or.inl rfl) (by rw [h8']; decide)) (fun c2 r2 hw2 => ?_)
    obtain ⟨y1, y2, y3⟩ := hw2
    have fc : l2_fr (hi_Wc l) c c2 := (z1.mono (fun b j y => by unfold hi_Wc; omega)).trans (y1.mono (fun b j y => Or.inl y))
    have f4 : l2_fr (fun b j => Wr b j ∨ nk_W b j) r r2 := ((n3.mono (fun b j y => Or.inr (Or.inr y))).trans ((hs _ _).mono (fun b j y => Or.inl y))).trans (y2.mono (fun b j y => Or.inr (Or.inl y)))
    have e7 : ∀ b j, b = 334 ∨ b = 845 ∨ b = 428 → c2.1 b j = c.1 b j := fun b j y => (fc b j (by unfold hi_Wc la_W; omega)).1
    rcases y3 with J3 | ⟨f2, p0, y3, y4⟩
    · have cm := pc_c_le P u
      refine hg X (pc_p P u) c2 x.2 r2 hX cl.2.2.2 ?_ fc n3 y2 ?_ cl.2.1 cl.2.2.1 n1 (J.plt J3) 
      · refine M0.up (by omega) (Nat.le_refl _) J3 fc f4 (fun b j y => by unfold hi_Wc la_W; omega) (fun b j y z => ?_) ⟨by rw [(y1 846 6 (by unfold la_W; omega)).1]; exact z2, by omega⟩ ⟨by rw [e7 334 2 (by decide)]; exact k4, by omega⟩ ⟨by rw [e7 428 18 (by decide)]; exact k7, ?_, b9⟩ ⟨by rw [e7 845 12 (by decide)]; exact v3, by rw [e7 845 13 (by decide)]; exact v4, by rw [e7 845 14 (by decide)]; exact v5⟩
        · rcases z with z | z
          · have := hw b j z
            omega
          · unfold nk_W rn_W nm_W at z
            omega
        · rw [(f4 950 81 (fun z => by
            rcases z with z | z
            · have := hw _ _ z
              omega
            · unfold nk_W rn_W nm_W at z
              omega)).1]
          exact s3
      · refine hi_e.fr (c := c1) ⟨z4, z5, z3, z6, z7, z8⟩ (fun b a1 a2 => (y1 b l (by unfold la_W; omega)).1)
    · exact hb f2 p0 c2 r2 (M0.mF y3 (e7 334 2 (by decide)) (e7 845 9 (by decide)) (e7 845 7 (by decide))) fc f4 y4
/-- a type told behind a name: [: WORD] -/
theorem hi_hint {so spot : Int32} (M : mp P nt u q m a g t e p l s i st kf kk ka c r) : t_h2 (f_X6_readVarType so spot c) (f_X13_typeHint r) (fun c' r' => l2_fr (hi_Wc l) c c' ∧ l2_fr hi_Wr r r' ∧ ((∃ u' l', u ≤ u' ∧ l ≤ l' ∧ pc_p P u ≤ pc_p P u' ∧ mp P nt u' q m a g t e p l' s i st kf kk ka c' r' ∧ ((l' = l ∧ r'.1 950 86 = -1) ∨ (l' = l + 1 ∧ ∃ X pl, X < 7934 ∧ pl ≤ 12000 ∧ hi_e c' l so X pl (f_X6_home c) spot 0 ∧ r'.1 950 86 = nI X ∧ r'.1 950 87 = nI pl))) ∨ ∃ f p0, mF f p0 c' ∧ pr P f p0 r')) := by
  have M0 := M
  obtain ⟨J, N, _⟩ := M
  unfold f_X6_readVarType f_X13_typeHint
  refine h2_lR (h2_lR ?_)
  have f1 : l2_fr (fun b j => b = 950 ∧ (j = 86 ∨ j = 87)) r (t_setI (t_setI r 950 86 (-1)) 950 87 0) := (l2_fr.set ⟨rfl, Or.inl rfl⟩).trans (l2_fr.set ⟨rfl, Or.inr rfl⟩)
  have v86 : (t_setI (t_setI r 950 86 (-1)) 950 87 0).1 950 86 = -1 := by simp only [l2_gI, Nat.reduceEqDiff, reduceIte]
  generalize t_setI (t_setI r 950 86 (-1)) 950 87 0 = r1 at *
  have nf : l2_fr (fun _ _ => False) c c := l2_fr.rf
  have J1 : pj P u 0 0 q m c r1 := J.fr nf f1 (fun j y => y) (fun b i _ _ y => y) (fun b i _ _ y => y) (fun y => y) (fun j _ => by omega) (fun b i _ _ => by omega)
  have M1 : mp P nt u q m a g t e p l s i st kf kk ka c r1 := M0.go (Nat.le_refl _) (Nat.le_refl _) J1 nf f1 (fun b j _ y => y) (fun b j y => by omega)
  have R1 : l2_fr hi_Wr r r1 := f1.mono (fun b j y => Or.inr y)
  rcases J1.is (x := 58) (by decide) with ⟨a1, a2⟩ | ⟨a1, a2⟩
  rotate_left
  · rw [pj_nottook (x := 58) a1, l2_bs, if_pos rfl, if_pos (show f_X13_is 58 r1 = 0 from a2)]
    exact h2_sm ⟨l2_fr.rf, R1, Or.inl ⟨u, l, Nat.le_refl _, Nat.le_refl _, Nat.le_refl _, M1, Or.inl ⟨rfl, v86⟩⟩⟩
  · refine h2_noR (show ¬ f_X13_is 58 r1 = 0 by rw [show f_X13_is 58 r1 = 1 from a2]; decide) ?_
    refine h2_bb _ (pj_took J1 (by decide) (x := 58) (by decide) a1) (fun y r2 hw => ?_)
    obtain ⟨w0, w1, w2, w3⟩ := hw
    obtain ⟨y1, c1⟩ := y
    have w0 : y1 = 1 := w0
    subst w0
    have w1 : l2_fr la_W c c1 := w1
    have C1 : l2_fr (hi_Wc l) c c1 := w1.mono (fun b j y => Or.inl y)
    refine h2_noL (show ¬ (1 : Int32) = 0 by decide) (h2_lR ?_)
    have f3 : l2_fr (fun b j => b = 950 ∧ (j = 86 ∨ j = 87)) r2 (t_setI r2 950 87 (r2.1 950 6)) := l2_fr.set ⟨rfl, Or.inr rfl⟩
    have v87 : (t_setI r2 950 87 (r2.1 950 6)).1 950 87 = r2.1 950 6 := by simp only [l2_gI, reduceIte]
    have v6 : (t_setI r2 950 87 (r2.1 950 6)).1 950 6 = r2.1 950 6 := by simp only [l2_gI, Nat.reduceEqDiff, reduceIte]
    generalize t_setI r2 950 87 (r2.1 950 6) = r3 at *
    have R3 : l2_fr hi_Wr r r3 := (R1.trans (w2.mono (fun b j y => Or.inl (Or.inl y)))).trans (f3.mono (fun b j y => Or.inr y))
    rcases w3 with J2 | ⟨f, p0, w3, w4⟩
    rotate_left
    · have w3 : lc_F c1 f p0 := w3
      have m1 : mF f p0 c1 := M1.mF w3 (w1 334 2 (by unfold la_W; omega)).1 (w1 845 9 (by unfold la_W; omega)).1 (w1 845 7 (by unfold la_W; omega)).1
      show t_h2 ((f_X6_link so spot 0 c1).bind _) _ _
      rw [m1.link, l2_bs]
      refine h2_doneL (l2_bd _ (pr_name (w4.fr f3 (fun j _ => by omega) (fun b i _ _ => by omega))) (fun x hx => l2_lt ?_))
      have f5 : l2_fr (fun b j => b = 950 ∧ (j = 86 ∨ j = 87)) x.2 (t_setI x.2 950 86 x.1) := l2_fr.set ⟨rfl, Or.inl rfl⟩
      have w5 := hx.2.fr f5 (fun j _ => by omega) (fun b i _ _ => by omega)
      rw [(pr_next w5).1, l2_bs]
      exact l2_sm ⟨C1, ((R3.trans (hx.1.mono (fun b j y => Or.inl (Or.inr y)))).trans (f5.mono (fun b j y => Or.inr y))).trans (l2_fr.set (Or.inl (Or.inl ⟨rfl, by decide, by decide⟩))), Or.inr ⟨f, p0, m1, w5.dead⟩⟩
    · have J2 : pj P (u + 1) 0 0 q m c1 r2 := J2
      have J3 : pj P (u + 1) 0 0 q m c1 r3 := J2.fr (l2_fr.rf (W := fun _ _ => False)) f3 (fun j y => y) (fun b i _ _ y => y) (fun b i _ _ y => y) (fun y => y) (fun j _ => by omega) (fun b i _ _ => by omega)
      have M3 : mp P nt (u + 1) q m a g t e p l s i st kf kk ka c1 r3 := M1.go (by omega) (Nat.le_refl _) J3 w1 ((w2.mono (fun b j y => Or.inl y)).trans (f3.mono (fun b j y => Or.inr y))) (fun b j y => by unfold la_W; omega) (fun b j y => by unfold rn_W; omega)
      have eh : f_X6_home c1 = f_X6_home c := by
        unfold f_X6_home
        rw [(w1 845 12 (by unfold la_W; omega)).1, (w1 845 13 (by unfold la_W; omega)).1]
      have pl1 := J1.plt J2
      refine hk_link (S := fun v x => t_setI x 950 86 v) (Wr := fun b j => b = 950 ∧ j = 86) (F := fun r2 => some r2) (K := fun r4 => some r4) M3 (fun v x => l2_fr.set ⟨rfl, rfl⟩) (fun b j y => by omega) (fun X pl c' r4 r' hX hpl M' C' n3 n4 he e9 e6 _ hp => h2_sm ?_) (fun f p0 c' r' m1 C' R' w => h2_sm ⟨C1.trans C', R3.trans (R'.mono (fun b j y => by rcases y with y | y; exact Or.inr ⟨y.1, by omega⟩; exact Or.inl y)), Or.inr ⟨f, p0, m1, w⟩⟩)
      have f6 : l2_fr (fun b j => b = 950 ∧ j = 86) r4 (t_setI r4 950 86 (nI X)) := l2_fr.set ⟨rfl, rfl⟩
      refine ⟨C1.trans C', ((R3.trans (n3.mono (fun b j y => Or.inl (Or.inr y)))).trans (f6.mono (fun b j y => Or.inr ⟨y.1, by omega⟩))).trans (n4.mono (fun b j y => Or.inl (Or.inl y))), Or.inl ⟨u + 1 + 1, l + 1, by omega, by omega, by omega, M', Or.inr ⟨rfl, X, pl, hX, hpl, eh ▸ he, ?_, ?_⟩⟩⟩
      · rw [(n4 950 86 (by unfold rn_W; omega)).1]
        simp only [l2_gI, reduceIte]
      · rw [(n4 950 87 (by unfold rn_W; omega)).1, (f6 950 87 (by omega)).1, (n3 950 87 (by unfold nm_W; omega)).1, v87, ← v6]
        exact e6
end
