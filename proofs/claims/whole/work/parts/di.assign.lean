/-! Level 2: an assignment whole. -/
theorem set_self (s : t_S) (b j : Nat) : t_setI s b j (s.1 b j) = s := Prod.ext (funext fun x => funext fun i => by
  rw [l2_gI]
  by_cases h : x = b
  · rw [if_pos h]
    by_cases e : i = j
    · rw [if_pos e, e, h]
    · rw [if_neg e]
  · rw [if_neg h]) rfl
theorem nd_k58 : nd_k (nI 58) := by
  intro s
  unfold f_X13_in
  decide
noncomputable def as_N (ln : Nat) (r : t_S) : Option t_S := (f_X13_node 58 0 r).bind (fun r4 => if t_ix r4.1 13000 = true then t_let (t_setJ r4.2 957 (r4.1.toNatClampNeg) ((r4.2.1 991 ln).toInt64)) (fun s3 => t_loop b_X13_assignment_42 t_N (nI ln, r4.1, s3)) else none)
noncomputable def as_C (ln : Nat) (s : t_S) : Option t_S := t_let (t_setI s (445 + ln) 5 (s.1 334 2)) (fun s1 => t_loop b_X6_readAssignment_27 t_N (445 + ln, 0, s1))
noncomputable def ae_C3 (s : t_S) : Option t_S := (f_X2_need 59 s).bind (fun x => some x)
noncomputable def ae_C2 (s : t_S) : Option t_S := (f_X0_emit 0 0 s).bind (fun x => ae_C3 x.2)
noncomputable def ae_R2 (s : t_S) : Option t_S := (f_X13_mustBe 59 s).bind (fun x => some x)
section
variable {P : pc_S} {nt : Nat → Nat} {f n n2 n3 Y a g f2 p0 ln w lo vv : Nat} {L v EE G : Nat → Nat} {ka : Int32} {k kb k0 k' : Nat → Nat} {c0 r0 cb rb c r c1 r1 c' r' : t_S} {A B : Nat → Prop} {E : en_S} {Q : t_S → t_S → Prop}
theorem as_Req (hl : ln < 400) (h5 : r.1 950 5 = 1) (h10 : r.1 950 10 < 0) (h92 : r.1 992 ln = r.1 950 6) : f_X13_assignment (nI ln) r = t_let (t_setI r 988 ln 2) (fun s => (fw_W 0 ln s).bind (as_N ln)) := by
  unfold f_X13_assignment
  rw [if_pos (l2_ix (by omega) (by decide)), nI_clamp (n := ln) (by omega)]
  have f1 : l2_fr (fun b j => b = 988 ∧ j = ln) r (t_setI r 988 ln 2) := l2_fr.set ⟨rfl, rfl⟩
  show (f_X13_name (t_setI r 988 ln 2)).bind _ = (fw_W 0 ln (t_setI r 988 ln 2)).bind (as_N ln)
  generalize t_setI r 988 ln 2 = s at *
  have e6 : s.1 950 6 = s.1 992 ln := by rw [(f1 950 6 (by omega)).1, (f1 992 ln (by omega)).1, h92]
  have e5 : s.1 950 5 = 1 := by rw [(f1 950 5 (by omega)).1]; exact h5
  have e10 : s.1 950 10 < 0 := by rw [(f1 950 10 (by omega)).1]; exact h10
  unfold fw_W
  show _ = Option.bind (Option.bind (f_X13_freeName (t_setI s 992 ln (s.1 950 6))) (fun r2 => t_let (t_setI r2.2 991 ln r2.1) (fun s2 => (f_X13_next s2).bind (fun r3 => some r3)))) (as_N ln)
  rw [e6, set_self]
  unfold f_X13_freeName
  rw [if_pos e5, if_pos e10, bd_some]
  simp only [t_let, Option.bind_assoc, l2_bs]
  rfl
theorem as_Ceq (hl : ln < 400) (c : t_S) : f_X6_readAssignment (nI ln) c = (f_X6_takeVar (nI ln) c).bind (as_C ln) := by
  unfold f_X6_readAssignment as_C
  rw [if_pos (l2_ix hl (by decide)), nI_clamp (n := ln) (by omega)]
  simp only [Nat.one_mul]
  rfl
theorem ae_Ceq (hl : ln < 400) (c : t_S) : k_X6_readAssignment_152 (445 + ln) c = (f_X2_need 11 c).bind (fun s => t_let (t_setI s (445 + ln) 9 (s.1 334 2)) (fun s => (f_X6_readExp 0 s).bind (fun y => ae_C2 y.2))) := by
  obtain ⟨s1, s2⟩ := st_sh ln hl
  unfold k_X6_readAssignment_152 ae_C2 ae_C3
  rw [s1, s2]
  simp only [show t_ix (9 : Int32) 12 = true from by decide, if_true]
  rfl
theorem ae_Req (hl : ln < 400) (x : Int32) (r : t_S) : k_X13_assignment_146 (nI ln) x r = t_let (t_setI r 996 ln x) (fun s => (f_X13_mustBe 14909 s).bind (fun s => (f_X13_exp s).bind (fun y => t_let (t_setI y.2 995 ln y.1) ae_R2))) := by
  unfold k_X13_assignment_146 ae_R2
  rw [if_pos (l2_ix (by omega) (by decide)), nI_clamp (n := ln) (by omega)]
theorem zS.ae3 (h : zS f f2 p0 c0 c) : ae_C3 c = some c := by
  unfold ae_C3
  rw [h.1.need (by decide), l2_bs]
theorem zS.ae2 (h : zS f f2 p0 c0 c) : t_hk (ae_C2 c) (zS f f2 p0 c0) := by
  unfold ae_C2
  refine l2_bd _ (h.emit 0 0) (fun y hy => ?_)
  rw [hy.ae3]
  exact l2_sm hy
theorem zS.ae (h : zS f f2 p0 c0 c) (hl : ln < 400) : t_hk (t_let (t_setI c (445 + ln) 9 (c.1 334 2)) (fun s => (f_X6_readExp 0 s).bind (fun y => ae_C2 y.2))) (zS f f2 p0 c0) := l2_lt (l2_bd _ ((h.set (by unfold mo_Wc; omega) (by omega)).exp 0) (fun _ hy => hy.ae2))
theorem zS.ae1 (h : zS f f2 p0 c0 c) (hl : ln < 400) : t_hk (k_X6_readAssignment_152 (445 + ln) c) (zS f f2 p0 c0) := by
  rw [ae_Ceq hl, h.1.need (by decide), l2_bs]
  exact h.ae hl
theorem yS.ae2 (h : yS P f f2 p0 r0 r) : t_hk (ae_R2 r) (yS P f f2 p0 r0) := l2_bd _ (h.mustBe 59) (fun _ hy => l2_sm hy)
theorem rS.ae2 (h : rS P f f2 p0 r0 r) : t_hk (ae_R2 r) (yS P f f2 p0 r0) := l2_bd _ (h.mb (x := 59) (by unfold rj_no; decide)) (fun _ hy => l2_sm hy)
theorem yS.ae (h : yS P f f2 p0 r0 r) : t_hk ((f_X13_exp r).bind (fun y => t_let (t_setI y.2 995 ln y.1) ae_R2)) (yS P f f2 p0 r0) := by
  rw [h.exp, l2_bs]
  exact l2_lt (h.set (by unfold mo_Wr; omega) (by omega)).ae2
theorem yS.ae1 (h : yS P f f2 p0 r0 r) (hl : ln < 400) (x : Int32) : t_hk (k_X13_assignment_146 (nI ln) x r) (yS P f f2 p0 r0) := by
  rw [ae_Req hl]
  exact l2_lt (l2_bd _ ((h.set (by unfold mo_Wr; omega) (by omega)).mustBe _) (fun _ hy => hy.ae))
/-- the loops behind a fault -/
theorem zS.asC (h : zS f f2 p0 c0 c) (hl : ln < 400) : t_hk (as_C ln c) (zS f f2 p0 c0) := by
  unfold as_C
  refine l2_lt ?_
  have h2 := h.set (b := 445 + ln) (j := 5) (x := c.1 334 2) (by unfold mo_Wc; omega) (by omega)
  obtain ⟨x, e, hx⟩ := h2.ae1 hl
  refine ⟨x, ?_, hx⟩
  obtain ⟨N, hN⟩ : ∃ N, t_N = N + 1 := ⟨t_N - 1, by have := l2_N; omega⟩
  rw [hN]
  refine l2_lpR ?_
  show k_X6_readAssignment_27 (445 + ln) 0 _ = _
  unfold k_X6_readAssignment_27
  rw [if_neg (by decide), if_neg h2.1.ne, e]
  rfl
theorem yS.asN (h : yS P f f2 p0 r0 r) (hl : ln < 400) : t_hk (as_N ln r) (yS P f f2 p0 r0) := by
  unfold as_N
  refine l2_bd _ (h.node 58 0) (fun y hy => ?_)
  obtain ⟨hy, j, j1, j2⟩ := hy
  rw [j2, nI_clamp (n := j) (by omega)]
  refine l2_ck (l2_ix j1 (by decide)) (l2_lt ?_)
  have h2 := hy.setJ (b := 957) (j := j) (x := (y.2.1 991 ln).toInt64) (by unfold mo_Wr; omega) (by decide)
  obtain ⟨x, e, hx⟩ := h2.ae1 hl (nI j)
  refine ⟨x, ?_, hx⟩
  obtain ⟨N, hN⟩ : ∃ N, t_N = N + 1 := ⟨t_N - 1, by have := l2_N; omega⟩
  rw [hN]
  refine l2_lpR ?_
  show k_X13_assignment_42 (nI ln) (nI j) _ = _
  unfold k_X13_assignment_42
  rw [if_neg h2.ne, e]
  rfl
theorem yS.assign (h : yS P f f2 p0 r0 r) (hl : ln < 400) (h5 : r.1 950 5 = 1) (h10 : r.1 950 10 < 0) : t_hk (f_X13_assignment (nI ln) r) (yS P f f2 p0 r0) := by
  unfold f_X13_assignment
  rw [if_pos (l2_ix (by omega) (by decide)), nI_clamp (n := ln) (by omega)]
  refine l2_lt ?_
  have h2 := h.set (b := 988) (j := ln) (x := 2) (by unfold mo_Wr; omega) (by omega)
  have f1 : l2_fr (fun b j => b = 988 ∧ j = ln) r (t_setI r 988 ln 2) := l2_fr.set ⟨rfl, rfl⟩
  refine l2_bd _ (h2.name1 (by rw [(f1 950 5 (by omega)).1]; exact h5) (by rw [(f1 950 10 (by omega)).1]; exact h10)) (fun x hx => l2_lt (l2_bd _ ((hx.set (b := 991) (j := ln) (x := x.1) (by unfold mo_Wr; omega) (by omega)).next) (fun r3 h3 => ?_)))
  show t_hk (as_N ln r3) _
  exact h3.asN hl
end
