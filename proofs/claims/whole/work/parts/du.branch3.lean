/-! Level 2: a branch whole. -/
noncomputable def brC0 (rc : RT_X6_readAlts) (d : Int32) (ln : Nat) (s : t_S) : Option (Int32 × t_S) := (f_X2_need 93 s).bind (brC1 rc d ln)
noncomputable def brR0 (rc : RT_X13_block) (d : Int32) (ln : Nat) (s : t_S) : Option (Int32 × t_S) := (f_X13_mustBe 93 s).bind (brR1 rc d ln)
noncomputable def bhC (rc : RT_X6_readAlts) (d : Int32) (ln : Nat) (s : t_S) : Option (Int32 × t_S) := (f_X2_advance s).bind (fun r3 => (f_X2_take 238 r3).bind (fun r4 => if r4.1 = 0 then (if (r4.2.1 1 8) = 93 then brC0 rc d ln r4.2 else (f_X6_readExp (-1) r4.2).bind (fun r5 => t_let (t_setI r5.2 (445 + ln) 11 r5.1) (brC0 rc d ln))) else (f_X2_need 93 r4.2).bind (bkC1 rc d ln)))
noncomputable def bhR (rc : RT_X13_block) (d : Int32) (ln : Nat) (s : t_S) : Option (Int32 × t_S) := (f_X13_next s).bind (fun r3 => if f_X13_isWord 38 r3 = 0 then (if f_X13_is 93 r3 = 0 then (f_X13_exp r3).bind (fun r6 => t_let (t_setI r6.2 997 ln r6.1) (brR0 rc d ln)) else brR0 rc d ln r3) else (f_X13_next r3).bind (fun r8 => (f_X13_mustBe 93 r8).bind (fun r9 => t_let (t_setI r9 1000 ln (nI 4)) (bkR1 rc d ln))))
/-- the reference's branch behind its line -/
noncomputable def bnR (rc : RT_X13_block) (x3 l : Int32) (s : t_S) : Option (Int32 × t_S) := (f_X13_next s).bind (fun r3 => if (f_X13_isWord (38 : Int32) r3) = (0 : Int32) then (if (f_X13_is (93 : Int32) r3) = (0 : Int32) then ((f_X13_exp r3).bind (fun r6 => if t_ix l 401 = true then t_let (t_setI r6.2 997 (l.toNatClampNeg) r6.1) (fun s2 => k_X13_branch_98 rc x3 l s2) else none)) else (k_X13_branch_98 rc x3 l r3)) else ((f_X13_next r3).bind (fun r8 => (f_X13_mustBe (93 : Int32) r8).bind (fun r9 => if t_ix l 401 = true then t_let (t_setI r9 1000 (l.toNatClampNeg) (4 : Int32)) (fun s3 => (rc.1 l (x3 + (1 : Int32)) s3).bind (fun r11 => t_let (t_setI r11.2 998 (l.toNatClampNeg) r11.1) (fun s4 => some (l, s4)))) else none))))
theorem brn_eq (rc : RT_X13_block) (up x3 : Int32) (r : t_S) : m_X13_branch rc up x3 r = if (f_X13_is (91 : Int32) r) = (0 : Int32) then ((f_X13_fail (2 : Int32) (r.1 950 6) r).bind (fun r12 => some ((0 : Int32), r12))) else (t_let (t_setI r 950 32 (0 : Int32)) (fun s1 => (f_X13_line (20 : Int32) up s1).bind (fun r2 => bnR rc x3 r2.1 r2.2))) := rfl
section
variable {P : pc_S} {nt : Nat → Nat} {f n n' n2 n3 Y a g f2 p0 so K V d dd i ln : Nat} {L L' v : Nat → Nat} {ka up w3 w4 : Int32} {k k0 k' : Nat → Nat} {c0 r0 c r c1 r1 c' r' : t_S} {A B : Nat → Prop} {rcC : RT_X6_readAlts} {rcR : RT_X13_block}
theorem zS.br0 (h : zS f f2 p0 c0 c) (hC : bkC rcC) (hl : ln < 400) (x : Int32) : t_hk (brC0 rcC x ln c) (fun y => zS f f2 p0 c0 y.2) := by
  unfold brC0
  rw [h.1.need (by decide), l2_bs]
  exact h.br1 hC hl x
theorem rS.br0 (h : rS P f f2 p0 r0 r) (hR : bkR rcR) (hl : ln < 400) (x : Int32) : t_hk (brR0 rcR x ln r) (fun y => yS P f f2 p0 r0 y.2) := l2_bd _ (h.mb (x := 93) (by unfold rj_no; decide)) (fun _ hy => hy.br1 hR hl x)
/-- behind its [ -/
theorem zS.bh1 (h : zS f f2 p0 c0 c) (hC : bkC rcC) (hl : ln < 400) (x : Int32) : t_hk ((f_X2_take 238 c).bind (fun r4 => if r4.1 = 0 then (if (r4.2.1 1 8) = 93 then brC0 rcC x ln r4.2 else (f_X6_readExp (-1) r4.2).bind (fun r5 => t_let (t_setI r5.2 (445 + ln) 11 r5.1) (brC0 rcC x ln))) else (f_X2_need 93 r4.2).bind (bkC1 rcC x ln))) (fun y => zS f f2 p0 c0 y.2) := by
  rw [h.1.take (by decide), l2_bs, if_pos rfl]
  exact l2_if (fun _ => h.br0 hC hl x) (fun _ => l2_bd _ (h.exp _) (fun y hy => l2_lt ((hy.set (by unfold mo_Wc; omega) (by omega)).br0 hC hl x)))
theorem yS.bh1 (h : yS P f f2 p0 r0 r) (hR : bkR rcR) (hl : ln < 400) (x : Int32) : t_hk (if f_X13_isWord 38 r = 0 then (if f_X13_is 93 r = 0 then (f_X13_exp r).bind (fun r6 => t_let (t_setI r6.2 997 ln r6.1) (brR0 rcR x ln)) else brR0 rcR x ln r) else (f_X13_next r).bind (fun r8 => (f_X13_mustBe 93 r8).bind (fun r9 => t_let (t_setI r9 1000 ln (nI 4)) (bkR1 rcR x ln)))) (fun y => yS P f f2 p0 r0 y.2) := by
  refine l2_if (fun _ => l2_if (fun _ => ?_) (fun _ => h.toR.br0 hR hl x)) (fun _ => l2_bd _ h.next (fun r8 h8 => l2_bd _ (h8.mustBe 93) (fun r9 h9 => l2_lt ((h9.set (by unfold mo_Wr; omega) (by omega)).toR.bs hR x))))
  rw [h.exp, l2_bs]
  exact l2_lt ((h.set (by unfold mo_Wr; omega) (by omega)).toR.br0 hR hl x)
theorem br_head (S0 : fs P nt f n2 Y n L ka a g k0 c0 r0) (h9 : k0 9 < 400) (S1 : fs P nt f n2 Y n L ka a g (ox k0) c1 r1) (h32 : r1.1 950 32 = 0) (hV : en_V n 1 L v) (hf : f < n3) (sn1 : ∀ n3, sn n2 n3 f n (k0 9) (fun _ => True) (fun _ => True) k0 c0 r0 (ox k0) c1 r1) (q1 : sq c0 c1) (op : op_R c1 r1 f n (k0 9) (nI 22) up (nI 20)) (hu : up = -1 ∨ ∃ j, j < k0 9 ∧ up = nI j) (t : c1.1 1 8 = nI 91) (hG : bkG rcC rcR d) (hC : bkC rcC) (hR : bkR rcR) : t_h2 (bhC rcC (nI d) (k0 9) c1) (bhR rcR (nI d) (k0 9) r1) (so_O P nt f n2 n3 Y n L ka a g k0 c0 r0) := by
  have b4 : k0 4 ≤ 2 * k0 1 + 2 * k0 9 := S0.1.2.2.2.2.2.2.2.2.2.1
  have bad : ∀ f2 p0 c' r', zS f f2 p0 c0 c' → yS P f f2 p0 r0 r' → t_h2 ((f_X2_take 238 c').bind (fun r4 => if r4.1 = 0 then (if (r4.2.1 1 8) = 93 then brC0 rcC (nI d) (k0 9) r4.2 else (f_X6_readExp (-1) r4.2).bind (fun r5 => t_let (t_setI r5.2 (445 + k0 9) 11 r5.1) (brC0 rcC (nI d) (k0 9)))) else (f_X2_need 93 r4.2).bind (bkC1 rcC (nI d) (k0 9)))) (if f_X13_isWord 38 r' = 0 then (if f_X13_is 93 r' = 0 then (f_X13_exp r').bind (fun r6 => t_let (t_setI r6.2 997 (k0 9) r6.1) (brR0 rcR (nI d) (k0 9))) else brR0 rcR (nI d) (k0 9) r') else (f_X13_next r').bind (fun r8 => (f_X13_mustBe 93 r8).bind (fun r9 => t_let (t_setI r9 1000 (k0 9) (nI 4)) (bkR1 rcR (nI d) (k0 9))))) (so_O P nt f n2 n3 Y n L ka a g k0 c0 r0) := fun f2 p0 c' r' z y => h2_sep _ _ (z.bh1 hC h9 (nI d)) (y.bh1 hR h9 (nI d)) (fun _ _ z y => Or.inr ⟨f2, p0, z, y⟩)
  unfold bhC bhR
  refine fs_adv (c0 := c0) (r0 := r0) S1 S1.1.1 (Or.inr (by rw [t]; decide)) (by rw [t]; decide) h9 ((sn1 0).mc l2_fr.rf) ((sn1 0).mr l2_fr.rf) (fun c r S2 sn2 q2 y1 y2 => ?_) bad
  have op2 := op.fr y1 y2
  have sn02 : sn n2 n3 f n (k0 9) (fun _ => True) (fun _ => True) k0 c0 r0 (nx (ox k0)) c r := ((sn1 n3).trans (sn2 n3 (fun _ => True) (fun _ => True))).mono (fun _ _ => trivial) (fun _ _ => trivial)
  have q02 := q1.trans q2
  have r32 : r.1 950 32 = 0 := by rw [(y2 950 32 (by unfold rn_W; omega)).1]; exact h32
  obtain ⟨⟨a1, a2, a3⟩, b1, b2, b3, b4', b5, b6, b7, b8, b9, b10, b11, b12, b13⟩ := id op2
  have mc := sn02.mc l2_fr.rf
  have mr := sn02.mr l2_fr.rf
  rcases S2.1.1.isW (x := 38) (by decide) with ⟨x1, x2⟩ | ⟨x1, x2⟩
  · have x2 : f_X13_isWord 38 r = 1 := x2
    rw [if_neg (show ¬ f_X13_isWord 38 r = 0 by rw [x2]; decide)]
    have bad3 : ∀ f2 p0 c' r', zS f f2 p0 c0 c' → yS P f f2 p0 r0 r' → t_h2 (bkC1 rcC (nI d) (k0 9) c') (t_let (t_setI r' 1000 (k0 9) (nI 4)) (bkR1 rcR (nI d) (k0 9))) (so_O P nt f n2 n3 Y n L ka a g k0 c0 r0) := fun f2 p0 c' r' z y => h2_sep _ _ (z.bs hC h9 (nI d)) (l2_lt ((y.set (by unfold mo_Wr; omega) (by omega)).toR.bs hR (nI d))) (fun _ _ z y => Or.inr ⟨f2, p0, z, y⟩)
    refine h2_bb _ (pj_took S2.1.1 (by decide) (x := 238) (by decide) x1) (fun y r3 hw => ?_)
    obtain ⟨y0, z1, z2, z3⟩ := hw
    obtain ⟨yv, c3⟩ := y
    have y0 : yv = 1 := y0
    have z1 : l2_fr la_W c c3 := z1
    subst y0
    rw [if_neg (show ¬ (1 : Int32) = 0 by decide)]
    rcases z3 with J3 | ⟨f2, p0, z3, z4⟩
    rotate_left
    · have z := S2.z z3 z1 mc
      have y := S2.y z4 z2 mr
      obtain ⟨y1', e, h1⟩ := y.mustBe 93
      rw [z.1.need (by decide), e, l2_bs, l2_bs]
      exact bad3 f2 p0 c3 y1' z h1
    obtain ⟨S3, sn3, q3⟩ := S2.la (n2 := n2) (n3 := n3) (ln := k0 9) (A := fun _ => False) (B := fun _ => False) (k' := nx (nx (ox k0))) h9 rfl ⟨rfl, rfl, rfl, rfl, rfl, rfl, rfl, rfl, rfl⟩ J3 z1 z2
    have op3 := op2.fr z1 z2
    have sn03 := sn02.trans sn3
    refine fs_need (c0 := c0) (r0 := r0) (x := 93) (s := 93) S3 h9 (by decide) rfl (sn03.mc l2_fr.rf) (sn03.mr l2_fr.rf) (fun c4 r4 S4 sn4 q4 w1 w2 => ?_) bad3
    have op4 := op3.fr w1 w2
    have sn04 : sn n2 n3 f n (k0 9) (fun _ => True) (fun _ => True) k0 c0 r0 (nx (nx (nx (ox k0)))) c4 r4 := (sn03.trans (sn4 n3 (fun _ => True) (fun _ => True))).mono (fun _ _ => trivial) (fun _ _ => trivial)
    have q04 := (q02.trans q3).trans q4
    refine h2_lR ?_
    have fr : l2_fr (fun b j => b = 1000 ∧ j = k0 9) r4 (t_setI r4 1000 (k0 9) (nI 4)) := l2_fr.set ⟨rfl, rfl⟩
    have vr : (t_setI r4 1000 (k0 9) (nI 4)).1 1000 (k0 9) = nI 4 := by simp only [l2_gI, reduceIte]
    generalize t_setI r4 1000 (k0 9) (nI 4) = r5 at *
    obtain ⟨S5, sn5, q5⟩ := S4.cell (n2 := n2) (A := fun _ => True) (B := fun _ => True) h9 (l2_fr.rf (s := c4)) (fr.mono (fun b j y => Or.inl ⟨by omega, by omega, y.2⟩)) (fun j _ y => absurd trivial y) (fun x _ _ y => absurd trivial y)
    have rr : ∀ x, x ≠ 1000 → r5.1 x (k0 9) = r4.1 x (k0 9) := fun x y => (fr x _ (fun z => y z.1)).1
    obtain ⟨⟨a1, a2, a3⟩, b1, b2, b3, b4', b5, b6, b7, b8, b9, b10, b11, b12, b13⟩ := id op4
    have e88 : r5.1 988 (k0 9) = nI 20 := by rw [rr 988 (by decide)]; exact b1
    have no2 : ∀ x, k0 9 ≤ x → x < k0 9 + 1 → r5.1 988 x ≠ 2 := fun x x1 x2 y => by
      have e : x = k0 9 := by omega
      rw [e, e88] at y
      exact absurd y (by decide)
    have h' : cS P nt f n2 n3 Y n v ka a g k0 c0 r0 22 20 4 up (-1) (-1) n L (nx (nx (nx (ox k0)))) c4 r5 := cS.mk S5 (sn04.trans (sn5 n3)) rfl (show k0 0 < k0 0 + 1 + 1 + 1 by omega) ((mB.nil q04.1 q04.2.1 q04.2.2 _ _ _ (k0 9)).wide no2) ⟨a1, a3 1 (by decide) (by decide) (by decide), a2, a3 3 (by decide) (by decide) (by decide), a3 4 (by decide) (by decide) (by decide), e88, by rw [rr 989 (by decide)]; exact b2, by rw [rr 990 (by decide)]; exact b3, by rw [rr 998 (by decide)]; exact b9, by rw [rr 999 (by decide)]; exact b10, vr, by rw [rr 1001 (by decide)]; exact b12, by rw [rr 1002 (by decide)]; exact b13⟩ (fun _ => Or.inl ⟨a3 11 (by decide) (by decide) (by decide), by rw [rr 997 (by decide)]; exact b8⟩) (Or.inr (Or.inr (Or.inr (Or.inr (Or.inr (Or.inr (Or.inr (Or.inr (Or.inr (Or.inr (Or.inr (Or.inr (Or.inr (Or.inr (Or.inr (Or.inl ⟨rfl, rfl, rfl⟩))))))))))))))))
    unfold bkC1 bkR1
    exact cS_bs (w := 0) h' (hG P nt f n2 n3 Y n L ka a g _ c4 r5 (nI (k0 9)) h'.1 hf (Or.inr ⟨k0 9, h'.2.1.2.1, rfl⟩)).1 (by decide) h9 (fun k' n'' L'' w3' w4' c' r' h' => h2_sm (h'.out S0 hV hf (by decide) hu)) (fun f2 p0 c' r' z y => h2_sm (Or.inr ⟨f2, p0, z, y⟩))
  have x2 : f_X13_isWord 38 r = 0 := x2
  rw [pj_nottook (x := 238) x1, l2_bs, if_pos rfl, if_pos x2]
  rcases S2.1.1.is (x := 93) (by decide) with ⟨u1, u2⟩ | ⟨u1, u2⟩
  · have u2 : f_X13_is 93 r = 1 := u2
    rw [if_pos (show c.1 1 8 = 93 from u1), if_neg (show ¬ f_X13_is 93 r = 0 by rw [u2]; decide)]
    have h1 : brS P nt f n2 n3 Y n L v ka a g k0 up (nx (ox k0)) c r c0 r0 := ⟨S2, r32, sn02, mB.nil q02.1 q02.2.1 q02.2.2 _ _ _ (k0 9), ⟨rfl, Nat.lt_succ_self _, show k0 4 + 2 ≤ 2 * k0 1 + 2 * (k0 9 + 1) by omega⟩, ⟨a1, a2, fun j x1 x2 x3 => a3 j (by omega) x2 x3⟩, ⟨b1, b2, b3, b5, b7, b9, b10, b12, b13⟩, Or.inl ⟨a3 11 (by decide) (by decide) (by decide), b8⟩⟩
    exact h1.rest S0 h9 hV hf hu hG hC hR
  have u2 : f_X13_is 93 r = 0 := u2
  rw [if_neg (show ¬ c.1 1 8 = 93 from u1), if_pos u2]
  refine fs_exp (j := 11) (x := 997) S2 r32 hV h9 (by decide) (by decide) mc mr (fun k3 c3 r3 S3 h323 k39 k30 slk sn3 pc => ?_) (fun f2 p0 c' r' z y => h2_sep _ _ (z.br0 hC h9 (nI d)) (y.br0 hR h9 (nI d)) (fun _ _ z y => Or.inr ⟨f2, p0, z, y⟩))
  have cc : ∀ j, j < 12 → j ≠ 11 → c3.1 (445 + k0 9) j = c.1 (445 + k0 9) j := fun j x y => (sn3 0).2.2.2.1 j x y
  have rr : ∀ x, 988 ≤ x → x ≤ 1002 → x ≠ 997 → r3.1 x (k0 9) = r.1 x (k0 9) := (sn3 0).2.2.2.2.1
  have k30 : k0 0 + 1 < k3 0 := k30
  have h1 : brS P nt f n2 n3 Y n L v ka a g k0 up k3 c3 r3 c0 r0 := by
    refine ⟨S3, h323, (sn02.trans (sn3 n3)).mono (fun _ _ => trivial) (fun _ _ => trivial), ((pc n3 hf).1 (k0 9)).base q02.1 q02.2.1 q02.2.2, ⟨k39, by omega, slk 2 (show k0 4 + 2 ≤ 2 * k0 1 + 2 * (k0 9 + 1) by omega)⟩, ⟨by rw [cc 0 (by decide) (by decide)]; exact a1, by rw [cc 2 (by decide) (by decide)]; exact a2, fun j x1 x2 x3 => by rw [cc j (by omega) (by omega)]; exact a3 j (by omega) x2 x3⟩, ⟨?_, ?_, ?_, ?_, ?_, ?_, ?_, ?_, ?_⟩, Or.inr (pc n3 hf).2⟩
    · rw [rr 988 (by decide) (by decide) (by decide)]; exact b1
    · rw [rr 989 (by decide) (by decide) (by decide)]; exact b2
    · rw [rr 990 (by decide) (by decide) (by decide)]; exact b3
    · rw [rr 993 (by decide) (by decide) (by decide)]; exact b5
    · rw [rr 996 (by decide) (by decide) (by decide)]; exact b7
    · rw [rr 998 (by decide) (by decide) (by decide)]; exact b9
    · rw [rr 999 (by decide) (by decide) (by decide)]; exact b10
    · rw [rr 1001 (by decide) (by decide) (by decide)]; exact b12
    · rw [rr 1002 (by decide) (by decide) (by decide)]; exact b13
  exact h1.rest S0 h9 hV hf hu hG hC hR
theorem k41_eq {d0 : Int32} (hl : ln < 400) (hd : d0 + 1 = nI d) (h0 : c.1 1 11 = 0) (o1 : f_X5_addStep 22 up c = some (nI ln, c1)) : k_X6_readBranch_41 rcC d0 up c = bhC rcC (nI d) ln c1 := by
  unfold k_X6_readBranch_41
  rw [if_pos h0, o1, l2_bs, if_pos (l2_ix hl (by decide)), nI_clamp (n := ln) (by omega)]
  unfold bhC
  refine congrArg (Option.bind _) (funext (fun r3 => congrArg (Option.bind _) (funext (fun r4 => ?_))))
  have e0 : ∀ s, k_X6_readBranch_140 rcC d0 (nI ln) (445 + 1 * ln) s = brC0 rcC (nI d) ln s := fun s => by
    rw [Nat.one_mul]
    exact k140_eq hl hd s
  simp only [e0]
  by_cases z : r4.1 = 0
  · rw [if_pos z, if_pos z]
    simp only [Nat.one_mul]
    rfl
  · rw [if_neg z, if_neg z, hd]
    simp only [Nat.one_mul]
    rfl
theorem bnR_eq {d0 : Int32} (hl : ln < 400) (hd : d0 + 1 = nI d) (s : t_S) : bnR rcR d0 (nI ln) s = bhR rcR (nI d) ln s := by
  have ix : t_ix (nI ln) 401 = true := l2_ix (by omega) (by decide)
  unfold bnR bhR brR0 bkR1
  simp only [ix, if_true, nI_clamp (n := ln) (show ln < 2147483648 by omega), k98_eq hl hd, hd]
  rfl
/-- a branch whole -/
theorem br_all (S : fs P nt f n2 Y n L ka a g k c r) (hf : f < n3) (hu : up = -1 ∨ ∃ j, j < k 9 ∧ up = nI j) (hG : bkG rcC rcR (dd + 1)) (hC : bkC rcC) (hR : bkR rcR) : t_h2 (m_X6_readBranch rcC (nI dd) up c) (m_X13_branch rcR up (nI dd) r) (so_O P nt f n2 n3 Y n L ka a g k c r) := by
  obtain ⟨v, hV⟩ := en_V.ex n 1 L (Nat.le_refl _)
  have hd : nI dd + 1 = nI (dd + 1) := nI_1 dd
  have e18 : c.1 428 18 = nI (k 9) := S.1.2.2.1.2.2.2.2.2.2
  have e81 : r.1 950 81 = nI (k 9) := S.1.2.2.2.2.1.2.2
  have s9 : k 9 ≤ 400 := S.1.2.2.2.2.2.2.2.2.2.2.2.2.2
  have z41 : ∀ {f2 p0 c1}, zS f f2 p0 c c1 → k_X6_readBranch_41 rcC (nI dd) up c1 = some (-1, c1) := fun z => by
    unfold k_X6_readBranch_41
    rw [if_neg z.1.ne]
  rw [brn_eq]
  unfold m_X6_readBranch
  rcases S.1.1.is (x := 91) (by decide) with ⟨t, u2⟩ | ⟨t, u2⟩
  rotate_left
  · have u2 : f_X13_is 91 r = 0 := u2
    rw [if_neg (show ¬ c.1 1 8 = 91 from t), if_pos u2]
    refine h2_bb _ (pj_fail (f := 2) S.1.1 (by decide) (by decide)) (fun c1 r1 hw => ?_)
    obtain ⟨w1, w2, f2, p0, w3, w4⟩ := hw
    have z1 : zS f f2 p0 c c1 := S.z w3 w1 l2_fr.rf
    unfold k_X6_readBranch_20
    rw [z1.1.fail, l2_bs, z41 z1, ite_self]
    exact h2_sm (Or.inr ⟨f2, p0, z1, S.y w4 w2 l2_fr.rf⟩)
  have u2 : f_X13_is 91 r = 1 := u2
  rw [if_pos (show c.1 1 8 = 91 from t), if_neg (show ¬ f_X13_is 91 r = 0 by rw [u2]; decide)]
  refine h2_lR ?_
  have f1 : l2_fr (fun b j => b = 950 ∧ j = 32) r (t_setI r 950 32 0) := l2_fr.set ⟨rfl, rfl⟩
  have v1 : (t_setI r 950 32 0).1 950 32 = 0 := by simp only [l2_gI, reduceIte]
  generalize t_setI r 950 32 0 = r0 at *
  have S' := (S.cell (n2 := n2) (ln := 0) (A := fun _ => False) (B := fun _ => False) (by decide) (l2_fr.rf (s := c)) (f1.mono (fun b j y => Or.inr y)) (fun _ _ _ => rfl) (fun x a b y => (f1 x 0 (by omega)).1)).1
  have back : ∀ x y, so_O P nt f n2 n3 Y n L ka a g k c r0 x y → so_O P nt f n2 n3 Y n L ka a g k c r x y := fun x y h => by
    rcases h with ⟨h1, h2, k', n', L', x1, x2, x3, x4, x5, x6, x7, x8, x9, x10⟩ | ⟨f2, p0, z, y⟩
    · refine Or.inl ⟨h1, h2, k', n', L', x1, x2, x3, x4, x5, x6, (f1.mono (fun b j y => Or.inl (Or.inl (by omega)))).trans x7, mK.trans (mK.of f1 (fun b j y => by omega)) x8, x9, x10⟩
    · exact Or.inr ⟨f2, p0, z, y.at (f1.mono (fun b j y => by unfold mo_Wr; omega))⟩
  unfold k_X6_readBranch_20
  rw [e18]
  by_cases z : k 9 < 400
  · rw [if_pos (show nI (k 9) < (400 : Int32) from nI_lt (b := 400) z (by decide))]
    obtain ⟨c1, r1, o1, o2, S1, sn1, q1, op, fc, fr, r92⟩ := fs_open S' z (nI 22) (nI 20) up
    rw [k41_eq (d := dd + 1) z hd S.1.1.f0.1 o1, show (20 : Int32) = nI 20 from rfl, o2, l2_bs, bnR_eq z hd]
    exact h2_imp (br_head S' z S1 (by rw [(fr 950 32 (by omega)).1]; exact v1) hV hf sn1 q1 op hu (by rw [(fc 1 8 (by omega)).1]; exact t) hG hC hR) (fun x y h => back x y h)
  · have e9 : k 9 = 400 := by omega
    rw [if_neg (show ¬ nI (k 9) < (400 : Int32) by rw [e9]; decide)]
    unfold f_X13_line
    rw [show r0.1 950 81 = 400 by rw [(f1 950 81 (by omega)).1, e81, e9]; rfl, if_pos rfl, Option.bind_assoc]
    refine h2_bb _ (h2_self (pj_fail (f := 5) S'.1.1 (by decide) (by decide))) (fun c1 r1 hw => ?_)
    obtain ⟨⟨w1, w2, f2, p0, w3, w4⟩, _, er⟩ := hw
    have z1 : zS f f2 p0 c c1 := S'.z w3 w1 l2_fr.rf
    have y1 : yS P f f2 p0 r0 r1 := S'.y w4 w2 l2_fr.rf
    have tk : r1.1 950 81 = r0.1 950 81 := by
      rw [rs_fail S'.1.1.f0.2] at er
      cases er
      simp only [l2_gI, Nat.reduceEqDiff, reduceIte]
    rw [z41 z1]
    unfold k_X13_line_19
    rw [tk, (f1 950 81 (by omega)).1, e81, e9, if_pos (by decide)]
    have y2 : yS P f f2 p0 r r1 := y1.at (f1.mono (fun b j y => by unfold mo_Wr; omega))
    refine h2_doneL (l2_bd _ (y2.l39 20 up) (fun y hy => ?_))
    obtain ⟨h1, h2, _, _⟩ := hy
    rw [h1, bnR_eq (ln := 399) (by decide) hd]
    unfold bhR
    exact l2_bd _ h2.next (fun r3 h3 => l2_imp (h3.bh1 hR (by decide) _) (fun w hw => Or.inr ⟨f2, p0, z1, hw⟩))
end
