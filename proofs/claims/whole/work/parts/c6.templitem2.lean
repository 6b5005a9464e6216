/-! Level 2: a template as an item, whole. -/
section
variable {P : pc_S} {nt : Nat → Nat} {u q m a g t e p l s i st f p0 : Nat} {c0 r0 c r : t_S}
theorem mm_item (M : mo P nt u q m a g t e p l s i st c r) (h8 : c.1 1 8 = nI 201) : t_h2 (f_X6_readTemplateItem c) (k_X13_item_16 1 r) (mm_tP P nt u q m a g t e p l s i st c r) := by
  have n8 : c.1 1 8 ≠ 1 ∧ c.1 1 8 ≠ 4 := ⟨fun y => absurd (h8.symm.trans y) (by decide), fun y => absurd (h8.symm.trans y) (by decide)⟩
  unfold f_X6_readTemplateItem k_X13_item_16
  refine h2_noR (show ¬ f_X13_in (1 : Int32).toInt64 0 5 r = 0 by unfold f_X13_in; decide) ?_
  refine mi_pre (f := 1) (cc := fun s => s.1 353 11) (rc := fun s => s.1 950 44) (nf := 1) (nM := 60) (G := fun r2 r5 => if (r5.2.1 950 2) = (0 : Int32) then (if t_ix (r5.2.1 950 44) 60 = true then t_let (t_setI r5.2 967 ((r5.2.1 950 44).toNatClampNeg) r5.1) (fun s5 => t_let (t_setI s5 969 ((r5.2.1 950 44).toNatClampNeg) (r2.1 950 6)) (fun s6 => t_let (t_setI s6 950 44 ((s6.1 950 44) + (1 : Int32))) (fun s7 => k_X13_item_218 (r5.2.1 950 44) s7))) else none) else (k_X13_item_218 (r5.2.1 950 44) r5.2)) M (by decide) n8 (fun _ => rfl) (fun _ => rfl) rfl rfl (fun r2 s4 => by rw [if_neg (by decide), if_pos rfl]) ?_ ?_
  rotate_left
  · intro c1 r1 c2 x3 f2 p0 w1 w2 w3 w4
    refine h2_ckL rfl (h2_doneL (l2_no w4.ne (l2_imp ((pr.xR w4).it218 _) (fun z hz => ⟨mo_la w1, w2.trans (mo_x hz.2.1), Or.inr ⟨f2, p0, w3, hz.1⟩⟩))))
  intro c1 r1 c2 r3 X hX hW g5 g6 w1 g8 C2 R3 z J3 h1 pl
  have M0 := M
  obtain ⟨J, N, ⟨k1, k2, k3, k4, k5, k6, k7⟩, ⟨v1, v2, v3, v4, v5, v6, v7⟩, ⟨s1, s2, s3⟩, ⟨b1, b2, b3, b4, b5, b6, b7, b8, b9⟩⟩ := M
  have g5 : nt 1 < 60 := g5
  have g8 : c2.1 6 (66 + X) = nI (1 + 100 * 1 + nt 1) := g8
  have e11 : c1.1 353 11 = nI (nt 1) := by rw [(w1 353 11 (by unfold la_W; omega)).1]; exact (N.1 1 (by decide)).2.1
  have e11' : c2.1 353 11 = nI (nt 1) := by rw [(C2 353 11 (by unfold la_W; omega)).1]; exact (N.1 1 (by decide)).2.1
  have e44 : r3.1 950 44 = nI (nt 1) := by rw [(R3 950 44 (by unfold nk_W rn_W nm_W; omega)).1]; exact (N.1 1 (by decide)).2.2
  rw [e11]
  refine h2_noL (show ¬ (1 : Int32) = 0 by decide) (h2_ckL (l2_ix g5 (by decide)) ?_)
  rw [nI_clamp (n := nt 1) (by omega)]
  simp only [Nat.one_mul]
  show t_h2 (mcB (nt 1) c2) _ _
  unfold mcB
  refine h2_lL (h2_lL ?_)
  show t_h2 _ (if r3.1 950 2 = 0 then (if t_ix (r3.1 950 44) 60 = true then t_let (t_setI r3 967 ((r3.1 950 44).toNatClampNeg) (nI X)) (fun s5 => t_let (t_setI s5 969 ((r3.1 950 44).toNatClampNeg) (r1.1 950 6)) (fun s6 => t_let (t_setI s6 950 44 ((s6.1 950 44) + (1 : Int32))) (fun s7 => k_X13_item_218 (r3.1 950 44) s7))) else none) else (k_X13_item_218 (r3.1 950 44) r3)) _
  rw [e44]
  refine h2_ckR J3.f0.2 (h2_ckR (l2_ix g5 (by decide)) (h2_lR (h2_lR (h2_lR ?_))))
  rw [nI_clamp (n := nt 1) (by omega)]
  have nn : ¬ 353 = 364 + nt 1 := by omega
  have e12 : (t_setI c2 (364 + nt 1) 1 (c2.1 1 9)).1 353 11 + 1 = nI (nt 1 + 1) := by
    simp only [l2_gI, if_neg nn]
    rw [e11', nI_succ]
  have e45 : (t_setI (t_setI r3 967 (nt 1) (nI X)) 969 (nt 1) (r1.1 950 6)).1 950 44 + 1 = nI (nt 1 + 1) := by
    simp only [l2_gI, Nat.reduceEqDiff, reduceIte, false_and]
    rw [e44, nI_succ]
  rw [e12, e45]
  have gc : l2_fr (fun b j => (b = 364 + nt 1 ∧ j = 1) ∨ (b = 353 ∧ j = 11)) c2 (t_setI (t_setI c2 (364 + nt 1) 1 (c2.1 1 9)) 353 11 (nI (nt 1 + 1))) := (l2_fr.set (Or.inl ⟨rfl, rfl⟩)).trans (l2_fr.set (Or.inr ⟨rfl, rfl⟩))
  have gr : l2_fr (fun b j => ((b = 967 ∨ b = 969) ∧ j = nt 1) ∨ (b = 950 ∧ j = 44)) r3 (t_setI (t_setI (t_setI r3 967 (nt 1) (nI X)) 969 (nt 1) (r1.1 950 6)) 950 44 (nI (nt 1 + 1))) := ((l2_fr.set (Or.inl ⟨Or.inl rfl, rfl⟩)).trans (l2_fr.set (Or.inl ⟨Or.inr rfl, rfl⟩))).trans (l2_fr.set (Or.inr ⟨rfl, rfl⟩))
  have nn2 : ¬ (364 + nt 1 = 353) := by omega
  have x1 : (t_setI (t_setI c2 (364 + nt 1) 1 (c2.1 1 9)) 353 11 (nI (nt 1 + 1))).1 (364 + nt 1) 1 = c2.1 1 9 := by simp only [l2_gI, if_neg nn2, reduceIte]
  have x2 : (t_setI (t_setI c2 (364 + nt 1) 1 (c2.1 1 9)) 353 11 (nI (nt 1 + 1))).1 353 11 = nI (nt 1 + 1) := by simp only [l2_gI, reduceIte]
  have x3 : (t_setI (t_setI (t_setI r3 967 (nt 1) (nI X)) 969 (nt 1) (r1.1 950 6)) 950 44 (nI (nt 1 + 1))).1 967 (nt 1) = nI X := by simp only [l2_gI, Nat.reduceEqDiff, reduceIte, false_and]
  have x4 : (t_setI (t_setI (t_setI r3 967 (nt 1) (nI X)) 969 (nt 1) (r1.1 950 6)) 950 44 (nI (nt 1 + 1))).1 969 (nt 1) = r1.1 950 6 := by simp only [l2_gI, Nat.reduceEqDiff, reduceIte, false_and]
  have x5 : (t_setI (t_setI (t_setI r3 967 (nt 1) (nI X)) 969 (nt 1) (r1.1 950 6)) 950 44 (nI (nt 1 + 1))).1 950 44 = nI (nt 1 + 1) := by simp only [l2_gI, reduceIte]
  generalize t_setI (t_setI c2 (364 + nt 1) 1 (c2.1 1 9)) 353 11 (nI (nt 1 + 1)) = c4 at *
  generalize t_setI (t_setI (t_setI r3 967 (nt 1) (nI X)) 969 (nt 1) (r1.1 950 6)) 950 44 (nI (nt 1 + 1)) = r6 at *
  have J4 : pj P (u + 1) 1 0 q m c4 r6 := J3.fr gc gr (fun j => by omega) (fun b i _ _ => by omega) (fun b i _ _ => by omega) (by omega) (fun j _ => by omega) (fun b i _ _ => by omega)
  have C4 : l2_fr (fun b j => la_W b j ∨ (b = 6 ∧ j = 66 + X) ∨ (b = 353 ∧ j = 11) ∨ (b = 364 + nt 1 ∧ j = 1)) c c4 := (C2.mono (fun b j y => by unfold la_W at y ⊢; omega)).trans (gc.mono (fun b j y => by omega))
  have R4 : l2_fr (fun b j => nk_W b j ∨ (b = 950 ∧ ((31 ≤ j ∧ j ≤ 34) ∨ j = 44)) ∨ (967 ≤ b ∧ b ≤ 969 ∧ j = nt 1)) r r6 := (R3.mono (fun b j y => by unfold nk_W rn_W nm_W at y ⊢; omega)).trans (gr.mono (fun b j y => by omega))
  have N4 : nt_R (pc_W P) (nt_up nt 1) c4 r6 := by
    refine nt_grow N (f := 1) (X := X) (by decide) hX hW g5 g6 C4 R4 (fun j hj => by unfold la_W; omega) (by rw [(gc 6 _ (by omega)).1]; exact g8) x2 x5 (fun h hh hn => ?_) (fun h hh hn => ?_) (fun b k y => by unfold nk_W rn_W nm_W; omega) x3
    · have hc : h = 0 ∨ h = 2 ∨ h = 3 := by omega
      rcases hc with rfl | rfl | rfl
      · exact (C4 316 13 (by unfold la_W; omega)).1
      · exact (C4 428 0 (by unfold la_W; omega)).1
      · exact (C4 428 9 (by unfold la_W; omega)).1
    · have hc : h = 0 ∨ h = 2 ∨ h = 3 := by omega
      rcases hc with rfl | rfl | rfl
      · exact (R4 950 40 (by unfold nk_W rn_W nm_W; omega)).1
      · exact (R4 950 55 (by unfold nk_W rn_W nm_W; omega)).1
      · exact (R4 950 64 (by unfold nk_W rn_W nm_W; omega)).1
  have n4 : c4.1 1 8 ≠ 4 := by
    rw [(gc 1 8 (by omega)).1, h1]
    decide
  refine mm_item2 M0 g5 J4 n4 (C4.mono (fun b j y => by unfold la_W at y ⊢; omega)) R4 N4 ⟨?_, ?_, ?_⟩ ?_
  · rw [(gr 950 32 (by omega)).1]; exact z.2.1
  · rw [(gr 950 33 (by omega)).1]; exact z.2.2.1
  · rw [(gr 950 34 (by omega)).1]; exact z.2.2.2
  · obtain ⟨pl, p1, p2, p3⟩ := pl
    exact ⟨pl, p1, by rw [x1]; exact p2, by rw [x4]; exact p3⟩
end
