/-! Level 2: a module's items on both sides: their names; a fault at hand. -/
section
variable {P : pc_S} {nt : Nat → Nat} {u q m a g t e p l s i st f p0 : Nat} {c0 r0 c r : t_S}
/-- one more name told: from the states ahead of the taking -/
theorem nt_grow {W X : Nat} {c4 r6 : t_S} {Wc Wr : Nat → Nat → Prop} (N : nt_R W nt c r) (hf : f < 4) (hX : X < 7934) (hW : 66 + X < W) (g5 : nt f < nt_M f) (g6 : c.1 6 (66 + X) = 0) (fc : l2_fr Wc c c4) (fr : l2_fr Wr r r6) (w6 : ∀ j, j ≠ 66 + X → ¬ Wc 6 j) (e6 : c4.1 6 (66 + X) = nI (1 + 100 * f + nt f)) (e1 : nt_cc c4 f = nI (nt f + 1)) (e2 : nt_rc r6 f = nI (nt f + 1)) (hc : ∀ h, h < 4 → h ≠ f → nt_cc c4 h = nt_cc c h) (hr : ∀ h, h < 4 → h ≠ f → nt_rc r6 h = nt_rc r h) (wB : ∀ b k, (b = 964 ∧ k < nt 0) ∨ (b = 967 ∧ k < nt 1) ∨ (b = 970 ∧ k < nt 2) ∨ (b = 980 ∧ k < nt 3) → ¬ Wr b k) (eB : r6.1 (nt_B f) (nt f) = nI X) : nt_R W (nt_up nt f) c4 r6 := by
  refine N.add (X := X) hf hX hW g5 g6 (fun j hj => (fc 6 j (w6 j hj)).1) e6 (fun h hh => ?_) (fun h k hh hk => (fr _ k ?_).1) eB
  rotate_left
  · have hc : h = 0 ∨ h = 1 ∨ h = 2 ∨ h = 3 := by omega
    rcases hc with rfl | rfl | rfl | rfl
    · exact wB 964 k (Or.inl ⟨rfl, hk⟩)
    · exact wB 967 k (Or.inr (Or.inl ⟨rfl, hk⟩))
    · exact wB 970 k (Or.inr (Or.inr (Or.inl ⟨rfl, hk⟩)))
    · exact wB 980 k (Or.inr (Or.inr (Or.inr ⟨rfl, hk⟩)))
  show nt_cc c4 h = nI (if h = f then nt f + 1 else nt h) ∧ nt_rc r6 h = nI (if h = f then nt f + 1 else nt h)
  by_cases z : h = f
  · rw [if_pos z, z]
    exact ⟨e1, e2⟩
  · rw [if_neg z, hc h hh z, hr h hh z]
    exact (N.1 h hh).2
/-- behind a fault, told from the state itself -/
def mF (f p0 : Nat) (c : t_S) : Prop := xF f p0 0 0 0 0 0 0 0 c c
theorem xF.me {t e p l o : Nat} (h : xF f p0 t e p l 0 o 0 c0 c) : mF f p0 c := by
  obtain ⟨h1, h2, ⟨e', h3, h4, h5⟩, ⟨o', h6, h7, h8⟩, h9, h10, h11, h12⟩ := h
  exact ⟨h1, l2_fr.rf, ⟨e', Nat.zero_le _, h4, h5⟩, ⟨o', Nat.zero_le _, h7, h8⟩, h9, Nat.le_refl _, h11, fun j _ a => absurd a (Nat.not_lt_zero _)⟩
theorem mF.fr {W : Nat → Nat → Prop} {c' : t_S} (h : mF f p0 c) (g : l2_fr W c c') (w1 : ∀ j, 7 ≤ j → j ≤ 12 → ¬ W 1 j) (w2 : ¬ W 334 2) (w3 : ¬ W 845 9 ∧ ¬ W 845 7) : mF f p0 c' := by
  obtain ⟨h1, h2, ⟨e', h3, h4, h5⟩, ⟨o', h6, h7, h8⟩, h9, h10, h11, h12⟩ := h
  exact ⟨h1.fr g (fun j a b => w1 j (by omega) b), l2_fr.rf, ⟨e', h3, h4, by rw [(g 334 2 w2).1]; exact h5⟩, ⟨o', h6, h7, by rw [(g 845 9 w3.1).1]; exact h8⟩, by rw [(g 845 7 w3.2).1]; exact h9, h10, h11, fun j _ a => absurd a (Nat.not_lt_zero _)⟩
theorem mF.set {b j : Nat} {v : Int32} (h : mF f p0 c) (hb : b ≠ 1 ∧ (b = 334 → j ≠ 2) ∧ (b = 845 → j ≠ 9 ∧ j ≠ 7)) : mF f p0 (t_setI c b j v) := h.fr (W := fun x i => x = b ∧ i = j) (l2_fr.set ⟨rfl, rfl⟩) (fun j _ _ => by omega) (by omega) ⟨by omega, by omega⟩
theorem mo_xc (h : l2_fr (xWc 0 0 0 0 0 0) c0 c) : l2_fr mo_Wc c0 c := h.mono (fun b j y => by unfold mo_Wc; unfold xWc at y; omega)
/-- from the state between two items: a fault told there -/
theorem mo.mF {c' : t_S} (M : mo P nt u q m a g t e p l s i st c r) (h : lc_F c' f p0) (e1 : c'.1 334 2 = c.1 334 2) (e2 : c'.1 845 9 = c.1 845 9) (e3 : c'.1 845 7 = c.1 845 7) : mF f p0 c' := by
  obtain ⟨J, N, ⟨k1, k2, k3, k4, k5, k6, k7⟩, ⟨v1, v2, v3, v4, v5, v6, v7⟩, ⟨s1, s2, s3⟩, ⟨b1, b2, b3, b4, b5, b6, b7, b8, b9⟩⟩ := M
  have ple := J.mle (by decide)
  exact ⟨h, l2_fr.rf, ⟨e, Nat.zero_le _, by omega, by rw [e1]; exact k4⟩, ⟨0, Nat.zero_le _, by decide, by rw [e2]; exact v2⟩, by rw [e3]; exact v1, Nat.le_refl _, by decide, fun j _ a => absurd a (Nat.not_lt_zero _)⟩
/-- an item's name: what follows it is told for both ends -/
theorem mi_pre {F : t_S → Int32 × t_S → Option t_S} {G : t_S → Int32 × t_S → Option t_S} {G2 : t_S → t_S → Option t_S} {cc rc : t_S → Int32} {nf nM : Int32} {Q : t_S → t_S → Prop} (M : mo P nt u q m a g t e p l s i st c r) (hf : f < 4) (n8 : c.1 1 8 ≠ 1 ∧ c.1 1 8 ≠ 4) (hcc : ∀ s, cc s = nt_cc s f) (hrc : ∀ s, rc s = nt_rc s f) (hnf : nf = nI f) (hnM : nM = nI (nt_M f)) (hG : ∀ r2 s4, G2 r2 s4 = (f_X13_outside (rc s4) nM s4).bind (G r2)) (hg : ∀ c1 r1 c2 r3 X, X < 7934 → 66 + X < pc_W P → nt f < nt_M f → c.1 6 (66 + X) = 0 → l2_fr la_W c c1 → c2.1 6 (66 + X) = nI (1 + 100 * f + nt f) → l2_fr (fun b j => la_W b j ∨ (b = 6 ∧ j = 66 + X)) c c2 → l2_fr (fun b j => nk_W b j ∨ (b = 950 ∧ 31 ≤ j ∧ j ≤ 34)) r r3 → (r3.1 950 31 = 0 ∧ r3.1 950 32 = 0 ∧ r3.1 950 33 = 0 ∧ r3.1 950 34 = 0) → pj P (u + 1) 1 0 q m c2 r3 → c2.1 1 8 = 1 → (∃ pl, pl ≤ 12000 ∧ c2.1 1 9 = nI pl ∧ r1.1 950 6 = nI pl) → t_h2 (F c1 (1, c2)) (G r1 (nI X, r3)) Q) (hb : ∀ c1 r1 c2 x3 f2 p0, l2_fr la_W c c2 → l2_fr mo_Wr r x3.2 → lc_F c2 f2 p0 → pr P f2 p0 x3.2 → t_h2 (F c1 (0, c2)) (G r1 x3) Q) : t_h2 ((f_X2_advance c).bind (fun r1 => (f_X6_takeName nf (cc r1) nM r1).bind (F r1))) ((f_X13_next r).bind (fun r2 => t_let (t_setI r2 950 31 0) (fun s1 => t_let (t_setI s1 950 32 0) (fun s2 => t_let (t_setI s2 950 33 0) (fun s3 => t_let (t_setI s3 950 34 0) (fun s4 => G2 r2 s4)))))) Q := by
  obtain ⟨J, N, _⟩ := M
  refine h2_bb _ (pj_adv J (by decide) (Or.inr n8.1) n8.2) (fun c1 r1 hw => ?_)
  obtain ⟨w1, w2, w3⟩ := hw
  refine h2_lR (h2_lR (h2_lR (h2_lR ?_)))
  rw [hG]
  have f1 : l2_fr (fun b j => b = 950 ∧ 31 ≤ j ∧ j ≤ 34) r1 (t_setI (t_setI (t_setI (t_setI r1 950 31 0) 950 32 0) 950 33 0) 950 34 0) := (((l2_fr.set (W := fun b j => b = 950 ∧ 31 ≤ j ∧ j ≤ 34) ⟨rfl, by decide⟩).trans (l2_fr.set ⟨rfl, by decide⟩)).trans (l2_fr.set ⟨rfl, by decide⟩)).trans (l2_fr.set ⟨rfl, by decide⟩)
  have v31 : (t_setI (t_setI (t_setI (t_setI r1 950 31 0) 950 32 0) 950 33 0) 950 34 0).1 950 31 = 0 := by simp only [l2_gI, Nat.reduceEqDiff, reduceIte]
  have v32 : (t_setI (t_setI (t_setI (t_setI r1 950 31 0) 950 32 0) 950 33 0) 950 34 0).1 950 32 = 0 := by simp only [l2_gI, Nat.reduceEqDiff, reduceIte]
  have v33 : (t_setI (t_setI (t_setI (t_setI r1 950 31 0) 950 32 0) 950 33 0) 950 34 0).1 950 33 = 0 := by simp only [l2_gI, Nat.reduceEqDiff, reduceIte]
  have v34 : (t_setI (t_setI (t_setI (t_setI r1 950 31 0) 950 32 0) 950 33 0) 950 34 0).1 950 34 = 0 := by simp only [l2_gI, Nat.reduceEqDiff, reduceIte]
  generalize t_setI (t_setI (t_setI (t_setI r1 950 31 0) 950 32 0) 950 33 0) 950 34 0 = r2 at *
  have f1m : l2_fr mo_Wr r1 r2 := f1.mono (fun b j y => by unfold mo_Wr; omega)
  rw [hnf, hnM]
  rcases w3 with J1 | ⟨f2, p0, w3, w4⟩
  rotate_left
  · rw [w3.takeName, l2_bs]
    have w5 : pr P f2 p0 r2 := w4.fr f1 (fun j y => by omega) (fun b i _ _ => by omega)
    exact h2_bR _ (w5.xR.out _ _) (fun y hy => hb c1 r1 c1 y f2 p0 w1 (((mo_rn w2).trans f1m).trans (mo_x hy.2.1)) w3 hy.1)
  have J2 : pj P (u + 1) 0 0 q m c1 r2 := J1.fr (l2_fr.rf (W := fun _ _ => False)) f1 (fun j y => y) (fun b i _ _ y => y) (fun b i _ _ y => y) (fun y => y) (fun j _ => by omega) (fun b i _ _ => by omega)
  have N2 : nt_R (pc_W P) nt c1 r2 := (N.fr w1 w2 (fun j => by unfold la_W; omega) ⟨by unfold la_W; omega, by unfold la_W; omega, by unfold la_W; omega, by unfold la_W; omega⟩ ⟨by unfold rn_W; omega, by unfold rn_W; omega, by unfold rn_W; omega, by unfold rn_W; omega⟩ (fun b j y => by unfold rn_W; omega)).fr (l2_fr.rf (W := fun _ _ => False)) f1 (fun j y => y) ⟨fun y => y, fun y => y, fun y => y, fun y => y⟩ ⟨by omega, by omega, by omega, by omega⟩ (fun b j y => by omega)
  rw [(hcc c1).trans (N2.1 f hf).2.1, (hrc r2).trans (N2.1 f hf).2.2]
  refine h2_bb _ (nt_take J2 (by decide) N2 (f := f) hf) (fun y x hy => ?_)
  obtain ⟨y1, c2⟩ := y
  obtain ⟨x1, r3⟩ := x
  rcases hy with ⟨X, hX, hW, g1, g2, g3, g4, g5, g6, g7, g8, g9, J3⟩ | ⟨g1, g2, g3, f2, p0, w3, w4⟩
  rotate_left
  · have g1 : y1 = 0 := g1
    subst g1
    exact hb c1 r1 c2 (x1, r3) f2 p0 (w1.trans g2) (((mo_rn w2).trans f1m).trans (mo_nk g3)) w3 w4
  have g1 : y1 = 1 := g1
  have g2 : x1 = nI X := g2
  subst g1 g2
  have g7 : l2_fr (fun b j => b = 6 ∧ j = 66 + X) c1 c2 := g7
  have g9 : l2_fr nm_W r2 r3 := g9
  have cl := J1.cle
  refine hg c1 r1 c2 r3 X hX hW g5 (by rw [← (w1 6 (66 + X) (by unfold la_W; omega)).1]; exact g6) w1 g8 ((w1.mono (fun b j y => Or.inl y)).trans (g7.mono (fun b j y => Or.inr y))) (((w2.mono (fun b j y => Or.inl (Or.inl y))).trans (f1.mono (fun b j y => Or.inr y))).trans (g9.mono (fun b j y => Or.inl (Or.inr y)))) ⟨?_, ?_, ?_, ?_⟩ J3 (by rw [(g7 1 8 (by omega)).1]; exact g3) ⟨pc_p P (u + 1), cl.2.2.2, by rw [(g7 1 9 (by omega)).1]; exact cl.2.1, cl.2.2.1⟩
  · rw [(g9 950 31 (by unfold nm_W; omega)).1]; exact v31
  · rw [(g9 950 32 (by unfold nm_W; omega)).1]; exact v32
  · rw [(g9 950 33 (by unfold nm_W; omega)).1]; exact v33
  · rw [(g9 950 34 (by unfold nm_W; omega)).1]; exact v34
end
