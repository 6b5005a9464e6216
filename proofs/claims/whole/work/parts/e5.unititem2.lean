/-! Level 2: a function as an item, from its first token on. -/
section
variable {P : pc_S} {nt : Nat → Nat} {f n n2 n3 a g f2 p0 so : Nat} {ka : Int32} {k : Nat → Nat} {c0 r0 c r c1 r1 c' r' : t_S}
/-- the reference behind its name -/
noncomputable def unRq (kd x : Int32) (s : t_S) : Option t_S := (f_X13_next s).bind (fun r3 => (f_X13_mustWord 6 r3).bind (fun r4 => t_let (t_setI r4 983 (x.toNatClampNeg) (r4.1 950 6)) (fun s7 => (f_X13_freeName s7).bind (fun r5 => t_let (t_setI r5.2 982 (x.toNatClampNeg) r5.1) (fun s8 => (f_X13_next s8).bind (fun r6 => (f_X13_mustBe 40 r6).bind (fun r7 => if (f_X13_is 41 r7) = 0 then ((f_X13_parameters x r7).bind (fun r9 => k_X13_function_123 kd x r9)) else (k_X13_function_123 kd x r7))))))))
theorem unRq_eq (hf : f < 40) (kd : Int32) (s : t_S) : unRq kd (nI f) s = unR kd f s := by
  unfold unRq
  rw [nI_clamp (n := f) (by omega)]
  rfl
noncomputable def unG (kd : Int32) (r1 : Int32 × t_S) : Option t_S := if (r1.2.1 950 2) = (0 : Int32) then (t_let (t_setI r1.2 950 64 ((r1.2.1 950 64) + (1 : Int32))) (fun s1 => if t_ix (r1.2.1 950 64) 40 = true then t_let (t_setI s1 980 ((r1.2.1 950 64).toNatClampNeg) r1.1) (fun s2 => t_let (t_setI s2 981 ((r1.2.1 950 64).toNatClampNeg) kd) (fun s3 => t_let (t_setI s3 985 ((r1.2.1 950 64).toNatClampNeg) (0 : Int32)) (fun s4 => t_let (t_setI s4 986 ((r1.2.1 950 64).toNatClampNeg) (0 : Int32)) (fun s5 => t_let (t_setI s5 987 ((r1.2.1 950 64).toNatClampNeg) (-1 : Int32)) (fun s6 => unRq kd (r1.2.1 950 64) s6))))) else none)) else (some (r1.2))
/-- from its name on -/
theorem un_item2 {c4 r6 : t_S} {X : Nat} (M : mo P nt (k 0) (k 1) (k 2) a g (k 3) (k 4) (k 5) (k 6) (k 7) (k 8) (k 9) c r) (hcw : ∀ i, i < nt 2 → ∃ v0 v1 v2 A B D, cw_R c r i v0 v1 v2 A B D) (hso : so ≤ 2) (g5 : nt 3 < 40) (J4 : pj P (k 0 + 1) 1 0 (k 1) (k 2) c4 r6) (n4 : c4.1 1 8 ≠ 4) (N4 : nt_R (pc_W P) (nt_up nt 3) c4 r6) (C4 : l2_fr (fun b j => la_W b j ∨ (b = 6 ∧ j = 66 + X) ∨ (b = 428 ∧ j = 9) ∨ (437 ≤ b ∧ b ≤ 441 ∧ j = nt 3) ∨ (b = 845 ∧ j = 12)) c c4) (R4 : l2_fr (fun b j => nk_W b j ∨ (b = 950 ∧ ((31 ≤ j ∧ j ≤ 34) ∨ j = 64)) ∨ (980 ≤ b ∧ b ≤ 987 ∧ b ≠ 984 ∧ j = nt 3)) r r6) (z1 : c4.1 845 12 = nI (nt 3) ∧ c4.1 437 (nt 3) = nI so ∧ c4.1 438 (nt 3) = -1 ∧ c4.1 439 (nt 3) = nI 0 ∧ c4.1 440 (nt 3) = nI 0) (z2 : r6.1 981 (nt 3) = nI (3 + so) ∧ r6.1 985 (nt 3) = nI 0 ∧ r6.1 986 (nt 3) = nI 0) : t_h2 (unA (nI so) c4) (unR (nI (3 + so)) (nt 3) r6) (un_tP P nt a g k so c r) := by
  have M0 := M
  obtain ⟨J, N, ⟨k1, k2, k3, k4, k5, k6, k7⟩, ⟨x1, x2, x3, x4, x5, x6, x7⟩, ⟨s1, s2, s3⟩, ⟨b1, b2, b3, b4, b5, b6, b7, b8, b9⟩⟩ := M
  have cl := J.cle
  have g4 : ∀ b j, (b = 334 ∨ b = 846 ∨ (b = 845 ∧ j ≠ 12)) → c4.1 b j = c.1 b j := fun b j y => (C4 b j (by unfold la_W; omega)).1
  have C4m : l2_fr mo_Wc c c4 := C4.mono (fun b j y => by unfold la_W at y; unfold mo_Wc; omega)
  have R4m : l2_fr mo_Wr r r6 := R4.mono (fun b j y => by unfold nk_W rn_W nm_W at y; unfold mo_Wr; omega)
  have mf : ∀ {x : t_S} {f2 p0 : Nat}, l2_fr la_W c4 x → lc_F x f2 p0 → zS (nt 3) f2 p0 c x := fun h y => ⟨⟨mp.mF (mo.mp.mp M0) y (by rw [(h 334 2 (by unfold la_W; omega)).1]; exact g4 _ _ (by omega)) (by rw [(h 845 9 (by unfold la_W; omega)).1]; exact g4 _ _ (by omega)) (by rw [(h 845 7 (by unfold la_W; omega)).1]; exact g4 _ _ (by omega)), C4m.trans (mo_la h)⟩, ⟨k 6, by omega, by rw [(h 846 6 (by unfold la_W; omega)).1, g4 _ _ (by omega)]; exact k6⟩, by rw [(h 845 12 (by unfold la_W; omega)).1]; exact z1.1⟩
  unfold unA unR
  refine h2_bb _ (pj_adv J4 (by decide) (Or.inl rfl) n4) (fun c5 r7 hw => ?_)
  obtain ⟨y1, y2, y3⟩ := hw
  rcases y3 with J5 | ⟨f2, p0, y3, y4⟩
  rotate_left
  · have zz := mf y1 y3
    have h := zz.uA g5 (nI so)
    unfold unA at h
    rw [zz.1.adv, l2_bs] at h
    exact h2_sep _ _ h (l2_bd _ ((show yR P f2 p0 r r7 from ⟨y4, R4m.trans (mo_rn y2)⟩).mustWord 6) (fun z hz => hz.uR2 g5 (nI (3 + so)))) (fun x y hx hy => ⟨hx.2, hy.2, Or.inr ⟨f2, p0, hx.1.1, hy.1⟩⟩)
  refine h2_bb _ (pj_needW J5 (by decide) (x := 6) (by decide) (s := 6) (by decide)) (fun c6 r8 hw => ?_)
  obtain ⟨w1, w2, w3⟩ := hw
  have C46 : l2_fr la_W c4 c6 := y1.trans w1
  have R68 : l2_fr rn_W r6 r8 := y2.trans w2
  rcases w3 with J6 | ⟨f2, p0, w3, w4⟩
  rotate_left
  · exact h2_sep _ _ ((mf C46 w3).uB g5 (nI so)) ((show yR P f2 p0 r r8 from ⟨w4, R4m.trans (mo_rn R68)⟩).uR2 g5 (nI (3 + so))) (fun x y hx hy => ⟨hx.2, hy.2, Or.inr ⟨f2, p0, hx.1.1, hy.1⟩⟩)
  have C6 : l2_fr (fun b j => la_W b j ∨ (b = 6 ∧ j = 66 + X) ∨ (b = 428 ∧ j = 9) ∨ (437 ≤ b ∧ b ≤ 441 ∧ j = nt 3) ∨ (b = 845 ∧ j = 12)) c c6 := C4.trans (C46.mono (fun b j y => Or.inl y))
  have R8 : l2_fr (fun b j => nk_W b j ∨ (b = 950 ∧ ((31 ≤ j ∧ j ≤ 34) ∨ j = 64)) ∨ (980 ≤ b ∧ b ≤ 987 ∧ b ≠ 984 ∧ j = nt 3)) r r8 := R4.trans (R68.mono (fun b j y => Or.inl (Or.inl y)))
  have cm := pc_c_mono P (k 0) (k 0 + 1 + 1 + 1) (by omega)
  have M6 : mp P (nt_up nt 3) (k 0 + 1 + 1 + 1) (k 1) (k 2) a g (k 3) (k 4) (k 5) (k 6) (k 7) (k 8) (k 9) (nI (nt 3)) (-1) (-1) c6 r8 := by
    refine mp.mk (mo.mp.mp M0) (by omega) (Nat.le_refl _) J6 (N4.fr C46 R68 (fun j => by unfold la_W; omega) ⟨by unfold la_W; omega, by unfold la_W; omega, by unfold la_W; omega, by unfold la_W; omega⟩ ⟨by unfold rn_W; omega, by unfold rn_W; omega, by unfold rn_W; omega, by unfold rn_W; omega⟩ (fun b j y => by unfold rn_W; omega)) C6 R8 (fun b j y => by unfold la_W; omega) ⟨by unfold nk_W rn_W nm_W; omega, by unfold nk_W rn_W nm_W; omega⟩ ⟨?_, by omega⟩ ⟨?_, b5⟩ ⟨?_, ?_, b9⟩ ⟨?_, ?_, ?_⟩
    · rw [(C6 846 6 (by unfold la_W; omega)).1]; exact k6
    · rw [(C6 334 2 (by unfold la_W; omega)).1]; exact k4
    · rw [(C6 428 18 (by unfold la_W; omega)).1]; exact k7
    · rw [(R8 950 81 (by unfold nk_W rn_W nm_W; omega)).1]; exact s3
    · rw [(C46 845 12 (by unfold la_W; omega)).1]; exact z1.1
    · rw [(C6 845 13 (by unfold la_W; omega)).1]; exact x4
    · rw [(C6 845 14 (by unfold la_W; omega)).1]; exact x5
  have e2 : nt_up nt 3 2 = nt 2 := by
    unfold nt_up
    rw [if_neg (by decide)]
  have ca : ∀ b, 437 ≤ b ∧ b ≤ 441 → c6.1 b (nt 3) = c4.1 b (nt 3) := fun b y => (C46 b _ (by unfold la_W; omega)).1
  have ra : ∀ b, 980 ≤ b ∧ b ≤ 987 → r8.1 b (nt 3) = r6.1 b (nt 3) := fun b y => (R68 b _ (by unfold rn_W; omega)).1
  refine h2_imp (u_B (k := ck (k 0 + 1 + 1 + 1) (k 1) (k 2) (k 3) (k 4) (k 5) (k 6) (k 7) (k 8) (k 9)) (so := so) M6 g5 (fun i hi => ?_) ⟨by rw [ca 439 (by decide)]; exact z1.2.2.2.1, by rw [ca 440 (by decide)]; exact z1.2.2.2.2, by rw [ra 981 (by decide)]; exact z2.1, by rw [ra 985 (by decide)]; exact z2.2.1, by rw [ra 986 (by decide)]; exact z2.2.2⟩ hso) (fun c' r' h => ?_)
  · rw [e2] at hi
    obtain ⟨v0, v1, v2, A, B, D, h⟩ := hcw i hi
    exact ⟨v0, v1, v2, A, B, D, h.fr C6 R8 (fun b j _ _ => by unfold la_W; omega) (fun b j _ _ _ => by unfold nk_W rn_W nm_W; omega)⟩
  · have C6' : l2_fr (fun b j => la_W b j ∨ b = 6 ∨ (b = 428 ∧ j = 9) ∨ (437 ≤ b ∧ b ≤ 441 ∧ j = nt 3) ∨ (b = 845 ∧ j = 12)) c c6 := C6.mono (fun b j y => y.elim Or.inl (fun y => Or.inr (by omega)))
    rcases h with h | ⟨f2, p0, z, y⟩
    · have G := un_all g5 C6' R8 (by rw [ca 437 (by decide)]; exact z1.2.1) (by rw [ca 438 (by decide)]; exact z1.2.2.1) (by rw [ra 981 (by decide)]; exact z2.1) e2 (by have := (J.mle (by decide)).1; omega) h rfl
      have G' := G
      obtain ⟨k', pn, n', Y, pl, L', fst, _, _, _, _, q1, q2, _⟩ := G'
      exact ⟨un_mo q1, un_mr q2, Or.inl G⟩
    · exact ⟨(C4m.trans (mo_la C46)).trans z.2, (R4m.trans (mo_rn R68)).trans y.2, Or.inr ⟨f2, p0, z.1.1, y.1⟩⟩
theorem un_item (M : mo P nt (k 0) (k 1) (k 2) a g (k 3) (k 4) (k 5) (k 6) (k 7) (k 8) (k 9) c r) (hcw : ∀ i, i < nt 2 → ∃ v0 v1 v2 A B D, cw_R c r i v0 v1 v2 A B D) (hso : so ≤ 2) (h8 : c.1 1 8 = nI (203 + so)) : t_h2 (f_X6_readUnitItem (nI so) c) (k_X13_item_16 (nI (3 + so)) r) (un_tP P nt a g k so c r) := by
  have n8 : c.1 1 8 ≠ 1 ∧ c.1 1 8 ≠ 4 := ⟨fun y => by have := (nI_eq (b := 1) (by omega) (by decide)).mp (h8.symm.trans y); omega, fun y => by have := (nI_eq (b := 4) (by omega) (by decide)).mp (h8.symm.trans y); omega⟩
  have nk : ∀ b, b < 3 → ¬ nI (3 + so) = nI b := fun b hb y => by
    have := (nI_eq (by omega) (by omega)).mp y
    omega
  have hin : ¬ f_X13_in (nI (3 + so)).toInt64 0 5 r = 0 := by
    have hs : so = 0 ∨ so = 1 ∨ so = 2 := by omega
    rcases hs with rfl | rfl | rfl <;> (unfold f_X13_in; decide)
  unfold f_X6_readUnitItem k_X13_item_16
  refine h2_noR hin ?_
  refine mi_pre (f := 3) (cc := fun s => s.1 428 9) (rc := fun s => s.1 950 64) (nf := 3) (nM := 40) (G := fun _ r1 => unG (nI (3 + so)) r1) M (by decide) n8 (fun _ => rfl) (fun _ => rfl) rfl rfl (fun r2 s4 => by
    rw [if_neg (show ¬ nI (3 + so) = (0 : Int32) from nk 0 (by decide)), if_neg (show ¬ nI (3 + so) = (1 : Int32) from nk 1 (by decide)), if_neg (show ¬ nI (3 + so) = (2 : Int32) from nk 2 (by decide))]
    exact bd_some _) ?_ ?_
  rotate_left
  · intro c1 r1 c2 x3 f2 p0 w1 w2 w3 w4
    unfold unG
    exact h2_ckL rfl (h2_doneL (l2_no w4.ne (l2_sm ⟨mo_la w1, w2, Or.inr ⟨f2, p0, w3, w4⟩⟩)))
  intro c1 r1 c2 r3 X hX hW g5 g6 w1 g8 C2 R3 z J3 h1 pl
  have M0 := M
  obtain ⟨J, N, ⟨k1, k2, k3, k4, k5, k6, k7⟩, ⟨v1, v2, v3, v4, v5, v6, v7⟩, ⟨s1, s2, s3⟩, ⟨b1, b2, b3, b4, b5, b6, b7, b8, b9⟩⟩ := M
  have g5 : nt 3 < 40 := g5
  have g8 : c2.1 6 (66 + X) = nI (1 + 100 * 3 + nt 3) := g8
  have e9 : c2.1 428 9 = nI (nt 3) := by rw [(C2 428 9 (by unfold la_W; omega)).1]; exact (N.1 3 (by decide)).2.1
  have e64 : r3.1 950 64 = nI (nt 3) := by rw [(R3 950 64 (by unfold nk_W rn_W nm_W; omega)).1]; exact (N.1 3 (by decide)).2.2
  refine h2_noL (show ¬ (1 : Int32) = 0 by decide) (h2_lL ?_)
  show t_h2 (Option.bind (f_X5_addUnit ((t_setI c2 845 12 (c2.1 428 9)).1 845 12) (nI so) (t_setI c2 845 12 (c2.1 428 9))) (fun r3 => unA (nI so) r3)) (unG (nI (3 + so)) (nI X, r3)) _
  unfold unG
  show t_h2 _ (if r3.1 950 2 = 0 then (t_let (t_setI r3 950 64 ((r3.1 950 64) + (1 : Int32))) (fun s1 => if t_ix (r3.1 950 64) 40 = true then t_let (t_setI s1 980 ((r3.1 950 64).toNatClampNeg) (nI X)) (fun s2 => t_let (t_setI s2 981 ((r3.1 950 64).toNatClampNeg) (nI (3 + so))) (fun s3 => t_let (t_setI s3 985 ((r3.1 950 64).toNatClampNeg) (0 : Int32)) (fun s4 => t_let (t_setI s4 986 ((r3.1 950 64).toNatClampNeg) (0 : Int32)) (fun s5 => t_let (t_setI s5 987 ((r3.1 950 64).toNatClampNeg) (-1 : Int32)) (fun s6 => unRq (nI (3 + so)) (r3.1 950 64) s6))))) else none)) else (some r3)) _
  rw [e9, e64]
  have q1 : (t_setI c2 845 12 (nI (nt 3))).1 845 12 = nI (nt 3) := by simp only [l2_gI, reduceIte]
  rw [q1, nI_clamp (n := nt 3) (by omega), nI_1]
  refine h2_ckR J3.f0.2 (h2_lR (h2_ckR (l2_ix g5 (by decide)) (h2_lR (h2_lR (h2_lR (h2_lR (h2_lR ?_)))))))
  rw [unRq_eq g5]
  unfold f_X5_addUnit
  rw [nI_clamp (n := nt 3) (by omega), nI_1]
  simp only [t_let]
  rw [if_pos (l2_ix g5 (by decide)), l2_bs]
  have gc : l2_fr (fun b j => (b = 428 ∧ j = 9) ∨ (437 ≤ b ∧ b ≤ 441 ∧ j = nt 3) ∨ (b = 845 ∧ j = 12)) c2 (t_setI (t_setI (t_setI (t_setI (t_setI (t_setI (t_setI c2 845 12 (nI (nt 3))) 428 9 (nI (nt 3 + 1))) 437 (nt 3) (nI so)) 438 (nt 3) (-1)) 439 (nt 3) 0) 440 (nt 3) 0) 441 (nt 3) (-1)) := ((((((l2_fr.set (Or.inr (Or.inr ⟨rfl, rfl⟩))).trans (l2_fr.set (Or.inl ⟨rfl, rfl⟩))).trans (l2_fr.set (Or.inr (Or.inl ⟨by decide, by decide, rfl⟩)))).trans (l2_fr.set (Or.inr (Or.inl ⟨by decide, by decide, rfl⟩)))).trans (l2_fr.set (Or.inr (Or.inl ⟨by decide, by decide, rfl⟩)))).trans (l2_fr.set (Or.inr (Or.inl ⟨by decide, by decide, rfl⟩)))).trans (l2_fr.set (Or.inr (Or.inl ⟨by decide, by decide, rfl⟩)))
  have gr : l2_fr (fun b j => (b = 950 ∧ j = 64) ∨ (980 ≤ b ∧ b ≤ 987 ∧ b ≠ 984 ∧ j = nt 3)) r3 (t_setI (t_setI (t_setI (t_setI (t_setI (t_setI r3 950 64 (nI (nt 3 + 1))) 980 (nt 3) (nI X)) 981 (nt 3) (nI (3 + so))) 985 (nt 3) 0) 986 (nt 3) 0) 987 (nt 3) (-1)) := (((((l2_fr.set (Or.inl ⟨rfl, rfl⟩)).trans (l2_fr.set (Or.inr ⟨by decide, by decide, by decide, rfl⟩))).trans (l2_fr.set (Or.inr ⟨by decide, by decide, by decide, rfl⟩))).trans (l2_fr.set (Or.inr ⟨by decide, by decide, by decide, rfl⟩))).trans (l2_fr.set (Or.inr ⟨by decide, by decide, by decide, rfl⟩))).trans (l2_fr.set (Or.inr ⟨by decide, by decide, by decide, rfl⟩))
  have x0 : (t_setI (t_setI (t_setI (t_setI (t_setI (t_setI (t_setI c2 845 12 (nI (nt 3))) 428 9 (nI (nt 3 + 1))) 437 (nt 3) (nI so)) 438 (nt 3) (-1)) 439 (nt 3) 0) 440 (nt 3) 0) 441 (nt 3) (-1)).1 428 9 = nI (nt 3 + 1) := by simp only [l2_gI, Nat.reduceEqDiff, reduceIte]
  have x1 : (t_setI (t_setI (t_setI (t_setI (t_setI (t_setI (t_setI c2 845 12 (nI (nt 3))) 428 9 (nI (nt 3 + 1))) 437 (nt 3) (nI so)) 438 (nt 3) (-1)) 439 (nt 3) 0) 440 (nt 3) 0) 441 (nt 3) (-1)).1 845 12 = nI (nt 3) ∧ (t_setI (t_setI (t_setI (t_setI (t_setI (t_setI (t_setI c2 845 12 (nI (nt 3))) 428 9 (nI (nt 3 + 1))) 437 (nt 3) (nI so)) 438 (nt 3) (-1)) 439 (nt 3) 0) 440 (nt 3) 0) 441 (nt 3) (-1)).1 437 (nt 3) = nI so ∧ (t_setI (t_setI (t_setI (t_setI (t_setI (t_setI (t_setI c2 845 12 (nI (nt 3))) 428 9 (nI (nt 3 + 1))) 437 (nt 3) (nI so)) 438 (nt 3) (-1)) 439 (nt 3) 0) 440 (nt 3) 0) 441 (nt 3) (-1)).1 438 (nt 3) = -1 ∧ (t_setI (t_setI (t_setI (t_setI (t_setI (t_setI (t_setI c2 845 12 (nI (nt 3))) 428 9 (nI (nt 3 + 1))) 437 (nt 3) (nI so)) 438 (nt 3) (-1)) 439 (nt 3) 0) 440 (nt 3) 0) 441 (nt 3) (-1)).1 439 (nt 3) = nI 0 ∧ (t_setI (t_setI (t_setI (t_setI (t_setI (t_setI (t_setI c2 845 12 (nI (nt 3))) 428 9 (nI (nt 3 + 1))) 437 (nt 3) (nI so)) 438 (nt 3) (-1)) 439 (nt 3) 0) 440 (nt 3) 0) 441 (nt 3) (-1)).1 440 (nt 3) = nI 0 := by
    refine ⟨?_, ?_, ?_, ?_, ?_⟩ <;> simp only [l2_gI, Nat.reduceEqDiff, reduceIte] <;> rfl
  have y0 : (t_setI (t_setI (t_setI (t_setI (t_setI (t_setI r3 950 64 (nI (nt 3 + 1))) 980 (nt 3) (nI X)) 981 (nt 3) (nI (3 + so))) 985 (nt 3) 0) 986 (nt 3) 0) 987 (nt 3) (-1)).1 950 64 = nI (nt 3 + 1) ∧ (t_setI (t_setI (t_setI (t_setI (t_setI (t_setI r3 950 64 (nI (nt 3 + 1))) 980 (nt 3) (nI X)) 981 (nt 3) (nI (3 + so))) 985 (nt 3) 0) 986 (nt 3) 0) 987 (nt 3) (-1)).1 980 (nt 3) = nI X := by
    refine ⟨?_, ?_⟩ <;> simp only [l2_gI, Nat.reduceEqDiff, reduceIte]
  have y1 : (t_setI (t_setI (t_setI (t_setI (t_setI (t_setI r3 950 64 (nI (nt 3 + 1))) 980 (nt 3) (nI X)) 981 (nt 3) (nI (3 + so))) 985 (nt 3) 0) 986 (nt 3) 0) 987 (nt 3) (-1)).1 981 (nt 3) = nI (3 + so) ∧ (t_setI (t_setI (t_setI (t_setI (t_setI (t_setI r3 950 64 (nI (nt 3 + 1))) 980 (nt 3) (nI X)) 981 (nt 3) (nI (3 + so))) 985 (nt 3) 0) 986 (nt 3) 0) 987 (nt 3) (-1)).1 985 (nt 3) = nI 0 ∧ (t_setI (t_setI (t_setI (t_setI (t_setI (t_setI r3 950 64 (nI (nt 3 + 1))) 980 (nt 3) (nI X)) 981 (nt 3) (nI (3 + so))) 985 (nt 3) 0) 986 (nt 3) 0) 987 (nt 3) (-1)).1 986 (nt 3) = nI 0 := by
    refine ⟨?_, ?_, ?_⟩ <;> simp only [l2_gI, Nat.reduceEqDiff, reduceIte] <;> rfl
  generalize t_setI (t_setI (t_setI (t_setI (t_setI (t_setI (t_setI c2 845 12 (nI (nt 3))) 428 9 (nI (nt 3 + 1))) 437 (nt 3) (nI so)) 438 (nt 3) (-1)) 439 (nt 3) 0) 440 (nt 3) 0) 441 (nt 3) (-1) = c4 at *
  generalize t_setI (t_setI (t_setI (t_setI (t_setI (t_setI r3 950 64 (nI (nt 3 + 1))) 980 (nt 3) (nI X)) 981 (nt 3) (nI (3 + so))) 985 (nt 3) 0) 986 (nt 3) 0) 987 (nt 3) (-1) = r6 at *
  have J4 : pj P (k 0 + 1) 1 0 (k 1) (k 2) c4 r6 := J3.fr gc gr (fun j => by omega) (fun b i _ _ => by omega) (fun b i _ _ => by omega) (by omega) (fun j _ => by omega) (fun b i _ _ => by omega)
  have C4 : l2_fr (fun b j => la_W b j ∨ (b = 6 ∧ j = 66 + X) ∨ (b = 428 ∧ j = 9) ∨ (437 ≤ b ∧ b ≤ 441 ∧ j = nt 3) ∨ (b = 845 ∧ j = 12)) c c4 := (C2.mono (fun b j y => y.elim Or.inl (fun y => Or.inr (Or.inl y)))).trans (gc.mono (fun b j y => Or.inr (Or.inr y)))
  have R4 : l2_fr (fun b j => nk_W b j ∨ (b = 950 ∧ ((31 ≤ j ∧ j ≤ 34) ∨ j = 64)) ∨ (980 ≤ b ∧ b ≤ 987 ∧ b ≠ 984 ∧ j = nt 3)) r r6 := (R3.mono (fun b j y => y.elim Or.inl (fun y => Or.inr (Or.inl ⟨y.1, Or.inl y.2⟩)))).trans (gr.mono (fun b j y => y.elim (fun y => Or.inr (Or.inl ⟨y.1, Or.inr y.2⟩)) (fun y => Or.inr (Or.inr y))))
  have N4 : nt_R (pc_W P) (nt_up nt 3) c4 r6 := by
    refine nt_grow N (f := 3) (X := X) (by decide) hX hW g5 g6 C4 R4 (fun j hj => by unfold la_W; omega) (by rw [(gc 6 _ (by omega)).1]; exact g8) x0 y0.1 (fun h hh hn => ?_) (fun h hh hn => ?_) (fun b k y => by unfold nk_W rn_W nm_W; omega) y0.2
    · have hc : h = 0 ∨ h = 1 ∨ h = 2 := by omega
      rcases hc with rfl | rfl | rfl
      · exact (C4 316 13 (by unfold la_W; omega)).1
      · exact (C4 353 11 (by unfold la_W; omega)).1
      · exact (C4 428 0 (by unfold la_W; omega)).1
    · have hc : h = 0 ∨ h = 1 ∨ h = 2 := by omega
      rcases hc with rfl | rfl | rfl
      · exact (R4 950 40 (by unfold nk_W rn_W nm_W; omega)).1
      · exact (R4 950 44 (by unfold nk_W rn_W nm_W; omega)).1
      · exact (R4 950 55 (by unfold nk_W rn_W nm_W; omega)).1
  have n4 : c4.1 1 8 ≠ 4 := by
    rw [(gc 1 8 (by omega)).1, h1]
    decide
  exact un_item2 M0 hcw hso g5 J4 n4 N4 C4 R4 x1 y1
end
