/-! Level 2: a component as an item, from its first token on. -/
section
variable {P : pc_S} {nt : Nat → Nat} {u q m a g t e p l s i st f p0 k v0 v1 v2 : Nat} {c0 r0 c r : t_S}
theorem bd_some {T : Type} (o : Option T) : o.bind (fun x => some x) = o := by cases o <;> rfl
theorem kd_item (M : mo P nt u q m a g t e p l s i st c r) (h8 : c.1 1 8 = nI 202) : t_h2 (f_X6_readComponentItem c) (k_X13_item_16 2 r) (kd_tP P nt u q m a g t e p l s i st c r) := by
  have n8 : c.1 1 8 ≠ 1 ∧ c.1 1 8 ≠ 4 := ⟨fun y => absurd (h8.symm.trans y) (by decide), fun y => absurd (h8.symm.trans y) (by decide)⟩
  unfold f_X6_readComponentItem k_X13_item_16
  refine h2_noR (show ¬ f_X13_in (2 : Int32).toInt64 0 5 r = 0 by unfold f_X13_in; decide) ?_
  refine mi_pre (f := 2) (cc := fun s => s.1 428 0) (rc := fun s => s.1 950 55) (nf := 2) (nM := 8) (G := fun _ r1 => if (r1.2.1 950 2) = (0 : Int32) then (t_let (t_setI r1.2 950 55 ((r1.2.1 950 55) + (1 : Int32))) (fun s1 => if t_ix (r1.2.1 950 55) 8 = true then t_let (t_setI s1 970 ((r1.2.1 950 55).toNatClampNeg) r1.1) (fun s2 => t_let (t_setI s2 972 ((r1.2.1 950 55).toNatClampNeg) (0 : Int32)) (fun s3 => t_let (t_setI s3 974 ((r1.2.1 950 55).toNatClampNeg) (0 : Int32)) (fun s4 => t_let (t_setI s4 979 ((r1.2.1 950 55).toNatClampNeg) (0 : Int32)) (fun s5 => (f_X13_next s5).bind (fun r3 => (f_X13_mustBe (123 : Int32) r3).bind (fun r4 => t_loop (b_X13_component_72) t_N ((r1.2.1 950 55), r4))))))) else none)) else (some (r1.2))) M (by decide) n8 (fun _ => rfl) (fun _ => rfl) rfl rfl (fun r2 s4 => by
    rw [if_neg (by decide), if_neg (by decide), if_pos rfl]
    exact bd_some _) ?_ ?_
  rotate_left
  · intro c1 r1 c2 x3 f2 p0 w1 w2 w3 w4
    exact h2_ckL rfl (h2_doneL (l2_no w4.ne (l2_sm ⟨mo_la w1, w2, Or.inr ⟨f2, p0, w3, w4⟩⟩)))
  intro c1 r1 c2 r3 X hX hW g5 g6 w1 g8 C2 R3 z J3 h1 pl
  have M0 := M
  obtain ⟨J, N, ⟨k1, k2, k3, k4, k5, k6, k7⟩, ⟨v1, v2, v3, v4, v5, v6, v7⟩, ⟨s1, s2, s3⟩, ⟨b1, b2, b3, b4, b5, b6, b7, b8, b9⟩⟩ := M
  have g5 : nt 2 < 8 := g5
  have g8 : c2.1 6 (66 + X) = nI (1 + 100 * 2 + nt 2) := g8
  have e0 : c2.1 428 0 = nI (nt 2) := by rw [(C2 428 0 (by unfold la_W; omega)).1]; exact (N.1 2 (by decide)).2.1
  have e55 : r3.1 950 55 = nI (nt 2) := by rw [(R3 950 55 (by unfold nk_W rn_W nm_W; omega)).1]; exact (N.1 2 (by decide)).2.2
  refine h2_noL (show ¬ (1 : Int32) = 0 by decide) (h2_lL ?_)
  show t_h2 (Option.bind (f_X5_addKind ((t_setI c2 845 13 (c2.1 428 0)).1 845 13) (t_setI c2 845 13 (c2.1 428 0))) (fun r3 => kcA r3)) (if r3.1 950 2 = 0 then (t_let (t_setI r3 950 55 ((r3.1 950 55) + (1 : Int32))) (fun s1 => if t_ix (r3.1 950 55) 8 = true then t_let (t_setI s1 970 ((r3.1 950 55).toNatClampNeg) (nI X)) (fun s2 => t_let (t_setI s2 972 ((r3.1 950 55).toNatClampNeg) (0 : Int32)) (fun s3 => t_let (t_setI s3 974 ((r3.1 950 55).toNatClampNeg) (0 : Int32)) (fun s4 => t_let (t_setI s4 979 ((r3.1 950 55).toNatClampNeg) (0 : Int32)) (fun s5 => (f_X13_next s5).bind (fun r3' => (f_X13_mustBe (123 : Int32) r3').bind (fun r4 => t_loop (b_X13_component_72) t_N ((r3.1 950 55), r4))))))) else none)) else (some r3)) _
  rw [e0, e55]
  have q1 : (t_setI c2 845 13 (nI (nt 2))).1 845 13 = nI (nt 2) := by simp only [l2_gI, reduceIte]
  rw [q1, nI_clamp (n := nt 2) (by omega), nI_1]
  refine h2_ckR J3.f0.2 (h2_lR (h2_ckR (l2_ix g5 (by decide)) (h2_lR (h2_lR (h2_lR (h2_lR ?_))))))
  unfold f_X5_addKind
  rw [nI_clamp (n := nt 2) (by omega), nI_1]
  simp only [t_let]
  rw [if_pos (l2_ix g5 (by decide)), l2_bs]
  have gc : l2_fr (fun b j => (b = 428 ∧ j = 0) ∨ ((b = 429 ∨ b = 431 ∨ b = 433) ∧ j = nt 2) ∨ (b = 845 ∧ j = 13)) c2 (t_setI (t_setI (t_setI (t_setI (t_setI c2 845 13 (nI (nt 2))) 428 0 (nI (nt 2 + 1))) 429 (nt 2) 0) 431 (nt 2) 0) 433 (nt 2) 0) := ((((l2_fr.set (Or.inr (Or.inr ⟨rfl, rfl⟩))).trans (l2_fr.set (Or.inl ⟨rfl, rfl⟩))).trans (l2_fr.set (Or.inr (Or.inl ⟨Or.inl rfl, rfl⟩)))).trans (l2_fr.set (Or.inr (Or.inl ⟨Or.inr (Or.inl rfl), rfl⟩)))).trans (l2_fr.set (Or.inr (Or.inl ⟨Or.inr (Or.inr rfl), rfl⟩)))
  have gr : l2_fr (fun b j => (b = 950 ∧ j = 55) ∨ ((b = 970 ∨ b = 972 ∨ b = 974 ∨ b = 979) ∧ j = nt 2)) r3 (t_setI (t_setI (t_setI (t_setI (t_setI r3 950 55 (nI (nt 2 + 1))) 970 (nt 2) (nI X)) 972 (nt 2) 0) 974 (nt 2) 0) 979 (nt 2) 0) := ((((l2_fr.set (Or.inl ⟨rfl, rfl⟩)).trans (l2_fr.set (Or.inr ⟨Or.inl rfl, rfl⟩))).trans (l2_fr.set (Or.inr ⟨Or.inr (Or.inl rfl), rfl⟩))).trans (l2_fr.set (Or.inr ⟨Or.inr (Or.inr (Or.inl rfl)), rfl⟩))).trans (l2_fr.set (Or.inr ⟨Or.inr (Or.inr (Or.inr rfl)), rfl⟩))
  have x1 : (t_setI (t_setI (t_setI (t_setI (t_setI c2 845 13 (nI (nt 2))) 428 0 (nI (nt 2 + 1))) 429 (nt 2) 0) 431 (nt 2) 0) 433 (nt 2) 0).1 428 0 = nI (nt 2 + 1) ∧ ((t_setI (t_setI (t_setI (t_setI (t_setI c2 845 13 (nI (nt 2))) 428 0 (nI (nt 2 + 1))) 429 (nt 2) 0) 431 (nt 2) 0) 433 (nt 2) 0).1 845 13 = nI (nt 2) ∧ (t_setI (t_setI (t_setI (t_setI (t_setI c2 845 13 (nI (nt 2))) 428 0 (nI (nt 2 + 1))) 429 (nt 2) 0) 431 (nt 2) 0) 433 (nt 2) 0).1 429 (nt 2) = 0 ∧ (t_setI (t_setI (t_setI (t_setI (t_setI c2 845 13 (nI (nt 2))) 428 0 (nI (nt 2 + 1))) 429 (nt 2) 0) 431 (nt 2) 0) 433 (nt 2) 0).1 431 (nt 2) = 0 ∧ (t_setI (t_setI (t_setI (t_setI (t_setI c2 845 13 (nI (nt 2))) 428 0 (nI (nt 2 + 1))) 429 (nt 2) 0) 431 (nt 2) 0) 433 (nt 2) 0).1 433 (nt 2) = 0) := by
    refine ⟨?_, ?_, ?_, ?_, ?_⟩ <;> simp only [l2_gI, Nat.reduceEqDiff, reduceIte]
  have x2 : (t_setI (t_setI (t_setI (t_setI (t_setI r3 950 55 (nI (nt 2 + 1))) 970 (nt 2) (nI X)) 972 (nt 2) 0) 974 (nt 2) 0) 979 (nt 2) 0).1 950 55 = nI (nt 2 + 1) ∧ (t_setI (t_setI (t_setI (t_setI (t_setI r3 950 55 (nI (nt 2 + 1))) 970 (nt 2) (nI X)) 972 (nt 2) 0) 974 (nt 2) 0) 979 (nt 2) 0).1 970 (nt 2) = nI X ∧ ((t_setI (t_setI (t_setI (t_setI (t_setI r3 950 55 (nI (nt 2 + 1))) 970 (nt 2) (nI X)) 972 (nt 2) 0) 974 (nt 2) 0) 979 (nt 2) 0).1 972 (nt 2) = 0 ∧ (t_setI (t_setI (t_setI (t_setI (t_setI r3 950 55 (nI (nt 2 + 1))) 970 (nt 2) (nI X)) 972 (nt 2) 0) 974 (nt 2) 0) 979 (nt 2) 0).1 974 (nt 2) = 0 ∧ (t_setI (t_setI (t_setI (t_setI (t_setI r3 950 55 (nI (nt 2 + 1))) 970 (nt 2) (nI X)) 972 (nt 2) 0) 974 (nt 2) 0) 979 (nt 2) 0).1 979 (nt 2) = 0) := by
    refine ⟨?_, ?_, ?_, ?_, ?_⟩ <;> simp only [l2_gI, Nat.reduceEqDiff, reduceIte]
  generalize t_setI (t_setI (t_setI (t_setI (t_setI c2 845 13 (nI (nt 2))) 428 0 (nI (nt 2 + 1))) 429 (nt 2) 0) 431 (nt 2) 0) 433 (nt 2) 0 = c4 at *
  generalize t_setI (t_setI (t_setI (t_setI (t_setI r3 950 55 (nI (nt 2 + 1))) 970 (nt 2) (nI X)) 972 (nt 2) 0) 974 (nt 2) 0) 979 (nt 2) 0 = r6 at *
  have J4 : pj P (u + 1) 1 0 q m c4 r6 := J3.fr gc gr (fun j => by omega) (fun b i _ _ => by omega) (fun b i _ _ => by omega) (by omega) (fun j _ => by omega) (fun b i _ _ => by omega)
  have C4 : l2_fr (fun b j => la_W b j ∨ (b = 6 ∧ j = 66 + X) ∨ (b = 428 ∧ j = 0) ∨ ((b = 429 ∨ b = 431 ∨ b = 433) ∧ j = nt 2) ∨ (b = 845 ∧ j = 13)) c c4 := (C2.mono (fun b j y => by unfold la_W at y ⊢; omega)).trans (gc.mono (fun b j y => by omega))
  have R4 : l2_fr (fun b j => nk_W b j ∨ (b = 950 ∧ ((31 ≤ j ∧ j ≤ 34) ∨ j = 55)) ∨ ((b = 970 ∨ b = 972 ∨ b = 974 ∨ b = 979) ∧ j = nt 2)) r r6 := (R3.mono (fun b j y => by unfold nk_W rn_W nm_W at y ⊢; omega)).trans (gr.mono (fun b j y => by omega))
  have N4 : nt_R (pc_W P) (nt_up nt 2) c4 r6 := by
    refine nt_grow N (f := 2) (X := X) (by decide) hX hW g5 g6 C4 R4 (fun j hj => by unfold la_W; omega) (by rw [(gc 6 _ (by omega)).1]; exact g8) x1.1 x2.1 (fun h hh hn => ?_) (fun h hh hn => ?_) (fun b k y => by unfold nk_W rn_W nm_W; omega) x2.2.1
    · have hc : h = 0 ∨ h = 1 ∨ h = 3 := by omega
      rcases hc with rfl | rfl | rfl
      · exact (C4 316 13 (by unfold la_W; omega)).1
      · exact (C4 353 11 (by unfold la_W; omega)).1
      · exact (C4 428 9 (by unfold la_W; omega)).1
    · have hc : h = 0 ∨ h = 1 ∨ h = 3 := by omega
      rcases hc with rfl | rfl | rfl
      · exact (R4 950 40 (by unfold nk_W rn_W nm_W; omega)).1
      · exact (R4 950 44 (by unfold nk_W rn_W nm_W; omega)).1
      · exact (R4 950 64 (by unfold nk_W rn_W nm_W; omega)).1
  have n4 : c4.1 1 8 ≠ 4 := by
    rw [(gc 1 8 (by omega)).1, h1]
    decide
  exact kd_item2 M0 g5 J4 n4 N4 C4 R4 x1.2 x2.2.2
end
