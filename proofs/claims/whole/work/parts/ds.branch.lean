/-! Level 2: a branch: behind a fault; from its ] on. -/
section
variable {P : pc_S} {nt : Nat → Nat} {f n n' n2 n3 Y a g f2 p0 so K V d dd i ln : Nat} {L L' v : Nat → Nat} {ka up w3 w4 : Int32} {k k0 k' : Nat → Nat} {c0 r0 c r c1 r1 c' r' : t_S} {A B : Nat → Prop} {rcC : RT_X6_readAlts} {rcR : RT_X13_block}
theorem zS.event (h : zS f f2 p0 c0 c) (hl : ln < 400) : t_hk (f_X6_readEvent (nI ln) c) (zS f f2 p0 c0) := by
  rw [re_0 hl]
  refine l2_lt ?_
  have h2 := h.set (b := 445 + ln) (j := 0) (x := f_X6_sortOf (c.1 1 8) c) (by unfold mo_Wc; omega) (by omega)
  rw [h2.1.adv, l2_bs]
  exact h2.evF hl
/-- a block, its first line told: the class, the reference -/
noncomputable def bkC1 (rc : RT_X6_readAlts) (d : Int32) (ln : Nat) (s : t_S) : Option (Int32 × t_S) := (rc.2.1 d (nI ln) s).bind (fun x => t_let (t_setI x.2 (445 + ln) (3 + 0) x.1) (fun s => some (nI ln, s)))
noncomputable def bkR1 (rc : RT_X13_block) (d : Int32) (ln : Nat) (s : t_S) : Option (Int32 × t_S) := (rc.1 (nI ln) d s).bind (fun x => t_let (t_setI x.2 (998 + 0) ln x.1) (fun s => some (nI ln, s)))
theorem zS.bs (h : zS f f2 p0 c0 c) (hC : bkC rcC) (hl : ln < 400) (x : Int32) : t_hk (bkC1 rcC x ln c) (fun y => zS f f2 p0 c0 y.2) := by
  unfold bkC1
  exact l2_bd _ (hC f f2 p0 c0 _ x (nI ln) h).1 (fun z hz => l2_lt (l2_sm (hz.set (b := 445 + ln) (j := 3 + 0) (by unfold mo_Wc; omega) (by omega))))
theorem rS.bs (h : rS P f f2 p0 r0 r) (hR : bkR rcR) (x : Int32) : t_hk (bkR1 rcR x ln r) (fun y => yS P f f2 p0 r0 y.2) := by
  unfold bkR1
  exact l2_bd _ (hR P f f2 p0 r0 _ x (nI ln) h).1 (fun z hz => l2_lt (l2_sm (hz.set (b := 998 + 0) (j := ln) (by unfold mo_Wr; omega) (by omega))))
/-- from its ] on -/
noncomputable def brC2 (rc : RT_X6_readAlts) (d : Int32) (ln : Nat) (s : t_S) : Option (Int32 × t_S) := (f_X6_readEvent (nI ln) s).bind (bkC1 rc d ln)
noncomputable def brC3 (ln : Nat) (s : t_S) : Option (Int32 × t_S) := t_let (t_setI s (445 + ln) 0 (nI 23)) (fun s1 => (f_X6_readCall (nI ln) (nI 10) s1).bind (fun r8 => (f_X2_need 59 r8).bind (fun r9 => some (nI ln, r9))))
noncomputable def brC1 (rc : RT_X6_readAlts) (d : Int32) (ln : Nat) (s : t_S) : Option (Int32 × t_S) := (f_X2_take 261 s).bind (fun r2 => if r2.1 = 0 then (if f_X6_isEvent (f_X6_sortOf (r2.2.1 1 8) r2.2) r2.2 = 0 then (f_X2_fail 2 r2.2).bind (brC2 rc d ln) else brC2 rc d ln r2.2) else brC3 ln r2.2)
noncomputable def brR2 (rc : RT_X13_block) (d : Int32) (ln : Nat) (s : t_S) : Option (Int32 × t_S) := (f_X13_event (nI ln) s).bind (bkR1 rc d ln)
noncomputable def brR3 (ln : Nat) (s : t_S) : Option (Int32 × t_S) := t_let (t_setI s 1000 ln (nI 3)) (fun s2 => (f_X13_callOf (nI ln) s2).bind (fun r8 => t_let (t_setI r8.2 995 ln r8.1) (fun s3 => (f_X13_mustBe 59 s3).bind (fun r9 => some (nI ln, r9)))))
noncomputable def brR1 (rc : RT_X13_block) (d : Int32) (ln : Nat) (s : t_S) : Option (Int32 × t_S) := if f_X13_isWord 65 s = 0 then brR2 rc d ln s else (f_X13_next s).bind (brR3 ln)
theorem k140_eq {d0 : Int32} (hl : ln < 400) (hd : d0 + 1 = nI d) (s : t_S) : k_X6_readBranch_140 rcC d0 (nI ln) (445 + ln) s = (f_X2_need 93 s).bind (brC1 rcC (nI d) ln) := by
  obtain ⟨s1, s2⟩ := st_sh ln hl
  have e210 : ∀ s, k_X6_readBranch_210 rcC d0 (nI ln) (445 + ln) s = brC2 rcC (nI d) ln s := fun s => by
    unfold k_X6_readBranch_210 brC2 bkC1
    rw [hd, s1, s2]
    simp only [show t_ix (3 : Int32) 12 = true from by decide, if_true]
    rfl
  unfold k_X6_readBranch_140
  refine congrArg (Option.bind _) (funext (fun r1 => ?_))
  unfold brC1
  refine congrArg (Option.bind _) (funext (fun r2 => ?_))
  by_cases z : r2.1 = 0
  · rw [if_pos z, if_pos z]
    by_cases z2 : f_X6_isEvent (f_X6_sortOf (r2.2.1 1 8) r2.2) r2.2 = 0
    · rw [if_pos z2, if_pos z2]
      refine congrArg (Option.bind _) (funext (fun r3 => e210 r3))
    · rw [if_neg z2, if_neg z2, e210]
  · rw [if_neg z, if_neg z, s1, s2]
    unfold brC3
    simp only [show t_ix (0 : Int32) 12 = true from by decide, if_true]
    rfl
theorem k98_eq {d0 : Int32} (hl : ln < 400) (hd : d0 + 1 = nI d) (s : t_S) : k_X13_branch_98 rcR d0 (nI ln) s = (f_X13_mustBe 93 s).bind (brR1 rcR (nI d) ln) := by
  have ix : t_ix (nI ln) 401 = true := l2_ix (by omega) (by decide)
  unfold k_X13_branch_98
  refine congrArg (Option.bind _) (funext (fun r1 => ?_))
  unfold brR1 brR2 brR3 bkR1
  by_cases z : f_X13_isWord 65 r1 = 0
  · rw [if_pos z, if_pos z]
    refine congrArg (Option.bind _) (funext (fun r2 => ?_))
    simp only [ix, if_true, nI_clamp (n := ln) (show ln < 2147483648 by omega), hd]
  · rw [if_neg z, if_neg z]
    refine congrArg (Option.bind _) (funext (fun r2 => ?_))
    simp only [ix, if_true, nI_clamp (n := ln) (show ln < 2147483648 by omega)]
    rfl
theorem zS.br2 (h : zS f f2 p0 c0 c) (hC : bkC rcC) (hl : ln < 400) (x : Int32) : t_hk (brC2 rcC x ln c) (fun y => zS f f2 p0 c0 y.2) := l2_bd _ (h.event hl) (fun _ hy => hy.bs hC hl x)
theorem zS.br3 (h : zS f f2 p0 c0 c) (hl : ln < 400) : t_hk (brC3 ln c) (fun y => zS f f2 p0 c0 y.2) := by
  unfold brC3
  refine l2_lt (l2_bd _ ((h.set (b := 445 + ln) (j := 0) (x := nI 23) (by unfold mo_Wc; omega) (by omega)).call hl (nI 10)) (fun y hy => ?_))
  rw [hy.1.need (by decide), l2_bs]
  exact l2_sm hy
theorem zS.br1 (h : zS f f2 p0 c0 c) (hC : bkC rcC) (hl : ln < 400) (x : Int32) : t_hk (brC1 rcC x ln c) (fun y => zS f f2 p0 c0 y.2) := by
  unfold brC1
  rw [h.1.take (by decide), l2_bs, if_pos rfl]
  refine l2_if (fun _ => ?_) (fun _ => h.br2 hC hl x)
  rw [h.1.fail, l2_bs]
  exact h.br2 hC hl x
theorem yS.br2 (h : yS P f f2 p0 r0 r) (hR : bkR rcR) (hl : ln < 400) (x : Int32) : t_hk (brR2 rcR x ln r) (fun y => yS P f f2 p0 r0 y.2) := l2_bd _ (h.event hl) (fun _ hy => hy.bs hR x)
theorem yS.br3 (h : yS P f f2 p0 r0 r) (hl : ln < 400) : t_hk (brR3 ln r) (fun y => yS P f f2 p0 r0 y.2) := by
  unfold brR3
  exact l2_lt (l2_bd _ ((h.set (b := 1000) (j := ln) (x := nI 3) (by unfold mo_Wr; omega) (by omega)).callOf hl) (fun y hy => l2_lt (l2_bd _ ((hy.set (b := 995) (j := ln) (x := y.1) (by unfold mo_Wr; omega) (by omega)).mustBe 59) (fun z hz => l2_sm hz))))
theorem yS.br1 (h : yS P f f2 p0 r0 r) (hR : bkR rcR) (hl : ln < 400) (x : Int32) : t_hk (brR1 rcR x ln r) (fun y => yS P f f2 p0 r0 y.2) := l2_if (fun _ => h.br2 hR hl x) (fun _ => l2_bd _ h.next (fun _ hy => hy.br3 hl))
/-- before its ] -/
def brS (P : pc_S) (nt : Nat → Nat) (f n2 n3 Y n : Nat) (L v : Nat → Nat) (ka : Int32) (a g : Nat) (k0 : Nat → Nat) (up : Int32) (k : Nat → Nat) (c r c0 r0 : t_S) : Prop := fs P nt f n2 Y n L ka a g k c r ∧ r.1 950 32 = 0 ∧ sn n2 n3 f n (k0 9) (fun _ => True) (fun _ => True) k0 c0 r0 k c r ∧ mB False n2 n3 c0 c r (k0 6) (k 6) (k0 8) (k 8) (k0 2) (k 2) (k0 9) (k0 9) ∧ (k 9 = k0 9 + 1 ∧ k0 0 < k 0 ∧ k 4 + 2 ≤ 2 * k 1 + 2 * k 9) ∧ (c.1 (445 + k0 9) 0 = nI 22 ∧ c.1 (445 + k0 9) 2 = up ∧ ∀ j, j < 11 → j ≠ 0 → j ≠ 2 → c.1 (445 + k0 9) j = -1) ∧ (r.1 988 (k0 9) = nI 20 ∧ r.1 989 (k0 9) = -1 ∧ r.1 990 (k0 9) = up ∧ r.1 993 (k0 9) = -1 ∧ r.1 996 (k0 9) = -1 ∧ r.1 998 (k0 9) = -1 ∧ r.1 999 (k0 9) = -1 ∧ r.1 1001 (k0 9) = nI f ∧ r.1 1002 (k0 9) = nI n) ∧ ((c.1 (445 + k0 9) 11 = -1 ∧ r.1 997 (k0 9) = -1) ∨ sx_R n2 n3 (E_f f n v) c r (k 3) (k 4) (k 5) (k 6) (k 7) (k 2) (c.1 (445 + k0 9) 11) (r.1 997 (k0 9)))
/-- further on: its row's cells but 0, 5 .. 10 and 991 .. 996, 1000 as they were -/
theorem brS.go (h : brS P nt f n2 n3 Y n L v ka a g k0 up k c r c0 r0) (S' : fs P nt f n2 Y n L ka a g (nx k) c' r') (y1 : l2_fr la_W c c') (y2 : l2_fr rn_W r r') : brS P nt f n2 n3 Y n L v ka a g k0 up (nx k) c' r' c0 r0 := by
  obtain ⟨S, h32, sn0, m0, ⟨k9, k00, sl⟩, ⟨a0, a2, a3⟩, b, gd⟩ := h
  have hc : ∀ j, c'.1 (445 + k0 9) j = c.1 (445 + k0 9) j := fun j => (y1 _ j (by unfold la_W; omega)).1
  have hr : ∀ x, 988 ≤ x → r'.1 x (k0 9) = r.1 x (k0 9) := fun x y => (y2 x _ (by unfold rn_W; omega)).1
  have kk : mK n2 n3 r r' := mK.of y2 (fun b j y => by unfold rn_W; omega)
  have la_cp : cp_c la_W (k 3) (k 4) (k 5) (k 6) := fun b j y => by unfold la_W at y; omega
  have rn_cp : cp_r rn_W (k 2) (k 7) := fun b j y => by unfold rn_W at y; omega
  refine ⟨S', by rw [(y2 950 32 (by unfold rn_W; omega)).1]; exact h32, ?_, ?_, ⟨k9, Nat.lt_succ_of_lt k00, sl⟩, ⟨by rw [hc]; exact a0, by rw [hc]; exact a2, fun j x1 x2 x3 => by rw [hc]; exact a3 j x1 x2 x3⟩, ?_, ?_⟩
  · obtain ⟨q1, q2, q3, q4, q5, q6⟩ := sn0
    exact ⟨q1.trans ⟨Nat.le_succ _, Nat.le_refl _, Nat.le_refl _, Nat.le_refl _, Nat.le_refl _, Nat.le_refl _, Nat.le_refl _, Nat.le_refl _, Nat.le_refl _, Nat.le_refl _⟩, q2.trans (y1.mono (fun b j y => Or.inl (x_la y))), q3.trans (y2.mono (fun b j y => Or.inl (x_rn y))), fun _ _ y => absurd trivial y, fun _ _ _ y => absurd trivial y, mK.trans q6 kk⟩
  · exact m0.cap y1 y2 (t := k 3) (e := k 4) (p := k 5) (s := k 7) la_cp rn_cp ⟨by unfold la_W; omega, by unfold la_W; omega⟩ (fun j => by unfold la_W; omega) (fun b j _ _ _ x1 x2 => by omega) kk (Nat.le_refl _) (Nat.le_refl _)
  · rw [hr 988 (by decide), hr 989 (by decide), hr 990 (by decide), hr 993 (by decide), hr 996 (by decide), hr 998 (by decide), hr 999 (by decide), hr 1001 (by decide), hr 1002 (by decide)]
    exact b
  · rw [hc, hr 997 (by decide)]
    exact gd.elim Or.inl (fun z => Or.inr (z.fr y1 y2 la_cp rn_cp kk (Nat.le_refl _) (Nat.le_refl _) ⟨Nat.le_refl _, Nat.le_refl _, Nat.le_refl _, Nat.le_refl _, Nat.le_refl _, Nat.le_refl _⟩))
end
