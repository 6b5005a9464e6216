/-! Level 2: a function as an item: behind a fault. -/
/-- the class's steps behind a unit's name -/
noncomputable def unC (so : Int32) (s : t_S) : Option t_S := (f_X2_need 40 s).bind (fun r2 => if so = 2 then (k_X6_readUnitItem_165 so r2) else (if (r2.1 1 8) = 41 then (k_X6_readUnitItem_165 so r2) else ((f_X6_readParameters r2).bind (fun r3 => k_X6_readUnitItem_165 so r3))))
noncomputable def unB (so : Int32) (s : t_S) : Option t_S := if (s.1 1 8) = 1 then (if t_ix (f_X2_word s) 8000 = true then k_X6_readUnitItem_97 so ((s.1 6 ((f_X2_word s).toNatClampNeg)) - 1) s else none) else (k_X6_readUnitItem_97 so (-1) s)
noncomputable def unA (so : Int32) (s : t_S) : Option t_S := (f_X2_advance s).bind (fun r4 => (f_X2_need 206 r4).bind (unB so))
/-- the reference's -/
noncomputable def unR3 (kd : Int32) (f : Nat) (s : t_S) : Option t_S := (f_X13_mustBe 40 s).bind (fun r7 => if (f_X13_is 41 r7) = 0 then ((f_X13_parameters (nI f) r7).bind (fun r9 => k_X13_function_123 kd (nI f) r9)) else (k_X13_function_123 kd (nI f) r7))
noncomputable def unR2 (kd : Int32) (f : Nat) (s : t_S) : Option t_S := t_let (t_setI s 983 f (s.1 950 6)) (fun s7 => (f_X13_freeName s7).bind (fun x => (f_X13_next (t_setI x.2 982 f x.1)).bind (unR3 kd f)))
noncomputable def unR (kd : Int32) (f : Nat) (s : t_S) : Option t_S := (f_X13_next s).bind (fun r3 => (f_X13_mustWord 6 r3).bind (unR2 kd f))
section
variable {P : pc_S} {f f2 p0 : Nat} {c0 r0 c r : t_S}
theorem zS.alts (h : zS f f2 p0 c0 c) (x up : Int32) : t_hk (f_X6_readAlts x up c) (fun y => zS f f2 p0 c0 y.2) := (bkC_R 98 f f2 p0 c0 c x up h).2
theorem rS.alts (h : rS P f f2 p0 r0 r) (x up : Int32) : t_hk (f_X13_branches up x r) (fun y => yS P f f2 p0 r0 y.2) := (bkR_R 99 P f f2 p0 r0 r x up h).2
theorem zS.u205 (h : zS f f2 p0 c0 c) (hf : f < 40) (x : Int32) : t_hk (k_X6_readUnitItem_205 x (nI f) c) (zF f2 p0 c0) := by
  unfold k_X6_readUnitItem_205
  refine l2_ck (l2_ix hf (by decide)) ?_
  rw [nI_clamp (n := f) (by omega)]
  refine l2_lt (l2_lt (l2_lt (l2_sm ?_)))
  exact ((h.1.set (b := 441) (j := f) (v := x) (by unfold mo_Wc; omega) (by omega)).set (b := 845) (j := 12) (v := -1) (by unfold mo_Wc; omega) (by omega)).set (b := 845) (j := 14) (v := -1) (by unfold mo_Wc; omega) (by omega)
theorem zS.u165 (h : zS f f2 p0 c0 c) (hf : f < 40) (so : Int32) : t_hk (k_X6_readUnitItem_165 so c) (zF f2 p0 c0) := by
  unfold k_X6_readUnitItem_165
  rw [h.1.need (by decide), l2_bs, h.2.2]
  exact l2_if (fun _ => l2_bd _ (h.alts 0 (-1)) (fun y hy => hy.u205 hf _)) (fun _ => l2_bd _ (h.block 0 (-1)) (fun y hy => hy.u205 hf _))
theorem zF.place (h : zF f2 p0 c0 c) : f_X6_takePlace c = some (-1, c) := by
  unfold f_X6_takePlace k_X6_takePlace_100
  rw [if_neg (h.no (by decide)), h.fail, l2_bs, if_neg h.ne]
theorem zF.params (h : zF f2 p0 c0 c) : f_X6_readParameters c = some c := by
  unfold f_X6_readParameters
  obtain ⟨N, hN⟩ : ∃ N, t_N = N + 1 := ⟨t_N - 1, by have := l2_N; omega⟩
  rw [hN]
  refine l2_lpR ?_
  show k_X6_readParameters_2 0 c = _
  unfold k_X6_readParameters_2
  rw [if_neg (by decide), h.place, l2_bs, if_neg (show ¬ (0 : Int32) ≤ -1 by decide)]
  rfl
theorem zS.uC (h : zS f f2 p0 c0 c) (hf : f < 40) (so : Int32) : t_hk (unC so c) (zF f2 p0 c0) := by
  unfold unC
  rw [h.1.need (by decide), l2_bs, h.1.params, l2_bs, ite_self, ite_self]
  exact h.u165 hf so
theorem zS.u122 (h : zS f f2 p0 c0 c) (hf : f < 40) (so ka : Int32) : t_hk (k_X6_readUnitItem_122 so ka c) (zF f2 p0 c0) := by
  have h1 := h.set (b := 845) (j := 14) (x := ka) (by unfold mo_Wc; omega) (by omega)
  unfold k_X6_readUnitItem_122
  refine l2_lt ?_
  rw [h1.1.link, l2_bs]
  exact h1.uC hf so
theorem zS.uB (h : zS f f2 p0 c0 c) (hf : f < 40) (so : Int32) : t_hk (unB so c) (zF f2 p0 c0) := by
  unfold unB k_X6_readUnitItem_97 k_X6_readUnitItem_121
  rw [if_neg (h.1.no (by decide)), if_pos (by decide)]
  exact h.u122 hf so (-1)
theorem zS.uA (h : zS f f2 p0 c0 c) (hf : f < 40) (so : Int32) : t_hk (unA so c) (zF f2 p0 c0) := by
  unfold unA
  rw [h.1.adv, l2_bs, h.1.need (by decide), l2_bs]
  exact h.uB hf so
theorem yR.u173 (h : yR P f2 p0 r0 r) (hf : f < 40) (x : Int32) : t_hk (k_X13_function_173 x (nI f) r) (yR P f2 p0 r0) := by
  unfold k_X13_function_173
  exact l2_ck (l2_ix hf (by decide)) (l2_lt (l2_sm (h.set (by unfold mo_Wr; omega) (by omega))))
/-- from the body on -/
theorem yR.ubody (h : yR P f2 p0 r0 r) (hf : f < 40) (kd : Int32) : t_hk (t_let (t_setI r 950 33 (2000 + nI f)) (fun s1 => if t_ix (nI f) 40 = true then t_let (t_setI s1 950 34 (s1.1 985 ((nI f).toNatClampNeg))) (fun s2 => if kd = 4 then ((f_X13_branches (-1) 0 s2).bind (fun r4 => k_X13_function_173 r4.1 (nI f) r4.2)) else ((f_X13_block (-1) 0 s2).bind (fun r3 => k_X13_function_173 r3.1 (nI f) r3.2))) else none)) (yR P f2 p0 r0) := by
  refine l2_lt (l2_ck (l2_ix hf (by decide)) ?_)
  have h1 := h.set (b := 950) (j := 33) (v := 2000 + nI f) (by unfold mo_Wr; omega) (by omega)
  have e1 : (t_setI r 950 33 (2000 + nI f)).1 950 33 = nI (2000 + f) := by
    simp only [l2_gI, reduceIte]
    exact nI_add 2000 f
  generalize t_setI r 950 33 (2000 + nI f) = r1 at *
  refine l2_lt ?_
  have h2 : yS P f f2 p0 r0 r1 := ⟨h1, e1⟩
  have h3 := h2.set (b := 950) (j := 34) (x := r1.1 985 ((nI f).toNatClampNeg)) (by unfold mo_Wr; omega) (by omega)
  exact l2_if (fun _ => l2_bd _ (h3.toR.alts 0 (-1)) (fun y hy => hy.1.u173 hf _)) (fun _ => l2_bd _ (h3.toR.block 0 (-1)) (fun y hy => hy.1.u173 hf _))
theorem yR.u123 (h : yR P f2 p0 r0 r) (hf : f < 40) (kd : Int32) : t_hk (k_X13_function_123 kd (nI f) r) (yR P f2 p0 r0) := by
  unfold k_X13_function_123
  exact l2_bd _ (h.mustBe 41) (fun r1 h1 => h1.ubody hf kd)
theorem yR.adl (h : yR P f2 p0 r0 r) (hf : f < 40) : t_hk (f_X13_addLocal (nI f) r) (yR P f2 p0 r0) := by
  have k50 : ∀ {s : t_S} (x : Int32), yR P f2 p0 r0 s → t_hk (k_X13_addLocal_50 (nI f) x s) (yR P f2 p0 r0) := fun x hs => by
    unfold k_X13_addLocal_50 k_X13_addLocal_84
    exact l2_no hs.ne (l2_bd _ hs.next (fun _ hy => l2_sm hy))
  unfold f_X13_addLocal k_X13_addLocal_30
  refine l2_bd _ h.name (fun y hy => l2_no hy.ne (l2_ck (l2_ix hf (by decide)) (l2_if (fun _ => ?_) (fun _ => k50 _ hy))))
  rw [hy.fail, l2_bs]
  exact k50 _ hy
theorem yR.u55 (h : yR P f2 p0 r0 r) (hf : f < 40) : t_hk (k_X13_parameters_55 (nI f) r) (yR P f2 p0 r0) := by
  unfold k_X13_parameters_55
  exact l2_ck (l2_ix hf (by decide)) (l2_lt (l2_sm (h.set (by unfold mo_Wr; omega) (by omega))))
/-- its parameters' loop, left alone -/
theorem yR.pgo (h : yR P f2 p0 r0 r) (hf : f < 40) (x : Int32) : h2_go b_X13_parameters_2 (nI f, x, r) (yR P f2 p0 r0) := fun N hN => by
  obtain ⟨M, rfl⟩ : ∃ M, N = M + 1 := ⟨N - 1, by omega⟩
  obtain ⟨y, e, hy⟩ := h.u55 hf
  refine ⟨y, l2_lpR ?_, hy⟩
  show k_X13_parameters_2 (nI f) x r = _
  unfold k_X13_parameters_2
  rw [if_neg h.ne, e, ite_self]
  rfl
theorem yR.params (h : yR P f2 p0 r0 r) (hf : f < 40) : t_hk (f_X13_parameters (nI f) r) (yR P f2 p0 r0) := h.pgo hf 1 t_N (by have := l2_N; omega)
theorem yR.u32 (h : yR P f2 p0 r0 r) (hf : f < 40) : t_hk (k_X13_parameters_32 (nI f) r) (fun z => ∃ x r', z = Sum.inl (nI f, x, r') ∧ yR P f2 p0 r0 r') := by
  unfold k_X13_parameters_32
  exact l2_bd _ (h.adl hf) (fun r1 h1 => l2_if (fun _ => l2_sm ⟨_, _, rfl, h1⟩) (fun _ => l2_bd _ h1.next (fun r2 h2 => l2_sm ⟨_, _, rfl, h2⟩)))
theorem yR.uR3 (h : yR P f2 p0 r0 r) (hf : f < 40) (kd : Int32) : t_hk (unR3 kd f r) (yR P f2 p0 r0) := by
  unfold unR3
  exact l2_bd _ (h.mustBe 40) (fun r1 h1 => l2_if (fun _ => l2_bd _ (h1.params hf) (fun r2 h2 => h2.u123 hf kd)) (fun _ => h1.u123 hf kd))
theorem yR.uR2 (h : yR P f2 p0 r0 r) (hf : f < 40) (kd : Int32) : t_hk (unR2 kd f r) (yR P f2 p0 r0) := by
  unfold unR2
  exact l2_lt (l2_bd _ ((h.set (b := 983) (j := f) (by unfold mo_Wr; omega) (by omega)).name) (fun x hx => l2_bd _ ((hx.set (b := 982) (j := f) (v := x.1) (by unfold mo_Wr; omega) (by omega)).next) (fun r1 h1 => h1.uR3 hf kd)))
theorem yR.uR (h : yR P f2 p0 r0 r) (hf : f < 40) (kd : Int32) : t_hk (unR kd f r) (yR P f2 p0 r0) := by
  unfold unR
  exact l2_bd _ h.next (fun r1 h1 => l2_bd _ (h1.mustWord 6) (fun r2 h2 => h2.uR2 hf kd))
end
