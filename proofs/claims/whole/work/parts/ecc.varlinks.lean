/-! Level 2: links: a var's name that is to be found stands on a line that has no var of its own. By gen_vp.py. -/
section
variable {z x zl xl : Nat}
def ARv (a : Nat) : Prop := a < 428 ∨ (428 < a ∧ a < 445)
def RWv (a : Nat) : Prop := 445 ≤ a ∧ a < 845
/-- links of sort 14 stand on lines with no var of its own; 0: none on line x -/
def VL (z x : Nat) (s : t_S) : Prop := (∀ e : Nat, (e : Int) < (s.1 846 6).toInt → s.1 849 e = 14 → ∃ n : Nat, s.1 852 e = nI n ∧ n < 400 ∧ (n : Int) < (s.1 428 18).toInt ∧ (s.1 (445 + n) 7).toInt < 0) ∧ (z = 0 → x < 400 ∧ (x : Int) < (s.1 428 18).toInt ∧ ∀ e : Nat, (e : Int) < (s.1 846 6).toInt → s.1 849 e = 14 → s.1 852 e ≠ nI x)
theorem VL.any {y : Nat} {s : t_S} (h : VL z x s) : VL 2 y s := ⟨h.1, fun y => absurd y (by decide)⟩
def vl_W (a k : Nat) : Prop := a ≠ 849 ∧ a ≠ 852 ∧ ¬ (a = 846 ∧ k = 6) ∧ ¬ (a = 428 ∧ k = 18) ∧ ¬ (445 ≤ a ∧ a < 845 ∧ k = 7)
theorem VL.fr {s s' : t_S} (h : VL z x s) (f : l2_fr (fun a k => vl_W a k) s s') : VL z x s' := by
  have e : ∀ a k, ¬ vl_W a k → s'.1 a k = s.1 a k := fun a k y => (f a k y).1
  have e9 : ∀ i, s'.1 849 i = s.1 849 i := fun i => e 849 i (by unfold vl_W; omega)
  have e2 : ∀ i, s'.1 852 i = s.1 852 i := fun i => e 852 i (by unfold vl_W; omega)
  have e6 := e 846 6 (by unfold vl_W; omega)
  have e8 := e 428 18 (by unfold vl_W; omega)
  obtain ⟨h1, h2⟩ := h
  refine ⟨fun i i1 i2 => ?_, fun y => ?_⟩
  · rw [e6] at i1
    rw [e9] at i2
    obtain ⟨n, n1, n2, n3, n4⟩ := h1 i i1 i2
    exact ⟨n, by rw [e2]; exact n1, n2, by rw [e8]; exact n3, by rw [e (445 + n) 7 (by unfold vl_W; omega)]; exact n4⟩
  · obtain ⟨x1, x2, x3⟩ := h2 y
    refine ⟨x1, by rw [e8]; exact x2, fun i i1 i2 => ?_⟩
    rw [e6] at i1
    rw [e9] at i2
    rw [e2]
    exact x3 i i1 i2
theorem VL.set {s : t_S} {a k : Nat} {v : Int32} (h : VL z x s) (hk : vl_W a k) : VL z x (t_setI s a k v) := h.fr (l2_fr.set hk)
theorem VL.setJ {s : t_S} {a k : Nat} {v : Int64} (h : VL z x s) : VL z x (t_setJ s a k v) := h
/-- any cell of line x -/
theorem VL.own {s : t_S} {k : Nat} {v : Int32} (h : VL 0 x s) : VL 0 x (t_setI s (445 + 1 * x) k v) := by
  obtain ⟨h1, h2⟩ := h
  obtain ⟨x1, x2, x3⟩ := h2 rfl
  have e : ∀ a j, ¬ (a = 445 + x ∧ j = k) → (t_setI s (445 + 1 * x) k v).1 a j = s.1 a j := fun a j y => by
    have f : l2_fr (fun a j => a = 445 + x ∧ j = k) s (t_setI s (445 + 1 * x) k v) := by
      rw [Nat.one_mul]
      exact l2_fr.set ⟨rfl, rfl⟩
    exact (f a j y).1
  have e6 := e 846 6 (by omega)
  have e8 := e 428 18 (by omega)
  have e9 : ∀ i, (t_setI s (445 + 1 * x) k v).1 849 i = s.1 849 i := fun i => e 849 i (by omega)
  have e2 : ∀ i, (t_setI s (445 + 1 * x) k v).1 852 i = s.1 852 i := fun i => e 852 i (by omega)
  generalize t_setI s (445 + 1 * x) k v = w at *
  refine ⟨fun i i1 i2 => ?_, fun _ => ⟨x1, by rw [e8]; exact x2, fun i i1 i2 => ?_⟩⟩
  · rw [e6] at i1
    rw [e9] at i2
    obtain ⟨n, n1, n2, n3, n4⟩ := h1 i i1 i2
    have ne : n ≠ x := fun y => x3 i i1 i2 (by rw [n1, y])
    exact ⟨n, by rw [e2]; exact n1, n2, by rw [e8]; exact n3, by rw [e (445 + n) 7 (by omega)]; exact n4⟩
  · rw [e6] at i1
    rw [e9] at i2
    rw [e2]
    exact x3 i i1 i2
theorem vl_ar {a k : Nat} (h : ARv a) : vl_W a k := by
  unfold ARv at h
  unfold vl_W
  omega
theorem vl_rw {a k : Nat} (h : RWv a) (hk : k ≠ 7) : vl_W a k := by
  unfold RWv at h
  unfold vl_W
  omega
theorem vl_arr {a n : Nat} {y : Int32} (h : t_ix y n = true) (hn : (428 < a ∧ a + n ≤ 445) ∨ a + n ≤ 428) : ARv (a + 1 * y.toNatClampNeg) := by
  have q := t_ixI.mp h
  have e : y.toNatClampNeg = y.toInt.toNat := rfl
  unfold ARv
  rw [e]
  omega
theorem vl_row {y : Int32} (h : t_ix y 400 = true) : RWv (445 + 1 * y.toNatClampNeg) := by
  have q := t_ixI.mp h
  have e : y.toNatClampNeg = y.toInt.toNat := rfl
  unfold RWv
  rw [e]
  omega
theorem vl_st {T : Type} {a : t_S} {f : t_S → Option T} {Q : T → Prop} (h : VL z x a) (g : ∀ s, VL z x s → t_pq (f s) Q) : t_pq (t_let a f) Q := g a h
theorem vl_add {z' x' : Nat} {x1 x2 x3 x4 x5 x6 : Int32} {s : t_S} (h : VL z x s) (hz : z' = 0 → z = 0 ∧ x' = x ∧ x1 ≠ 14) (hs : x1 = 14 → ∃ n : Nat, x5 = nI n ∧ n < 400 ∧ (n : Int) < (s.1 428 18).toInt ∧ (s.1 (445 + n) 7).toInt < 0) : t_pq (f_X3_add x1 x2 x3 x4 x5 x6 s) (fun y => VL z' x' y) := by
  have h0 : VL z' x' s := ⟨h.1, fun y => by rw [(hz y).2.1]; exact h.2 (hz y).1⟩
  unfold f_X3_add
  refine pc_if (fun c => ?_) (fun _ => pc_some h0)
  by_cases y : t_ix (s.1 846 6) 6002 = true
  rotate_left
  · rw [if_neg y]
    exact pc_none
  have q := t_ixI.mp y
  obtain ⟨l, hl, e6⟩ : ∃ l : Nat, l < 6002 ∧ s.1 846 6 = nI l := ⟨(s.1 846 6).toInt.toNat, by omega, by
    rw [← Int32.toInt_inj, nI_toInt (by omega)]
    omega⟩
  have g : t_pq (f_X3_add x1 x2 x3 x4 x5 x6 s) (fun y => VL z' x' y) := by
    obtain ⟨w, w0, z1, z2, z3, z4, z5, z6, z7, z8⟩ := ln_add (l := l) (x1 := x1) (x2 := x2) (x3 := x3) (x4 := x4) (x5 := x5) (x6 := x6) e6 hl
    intro v hv
    rw [w0] at hv
    cases hv
    have e : ∀ a k, ¬ ((a = 846 ∧ k = 6) ∨ (848 ≤ a ∧ a ≤ 853 ∧ k = l)) → w.1 a k = s.1 a k := fun a k y => (z1 a k y).1
    have e9 : ∀ i, i ≠ l → w.1 849 i = s.1 849 i := fun i y => e 849 i (by omega)
    have e2 : ∀ i, i ≠ l → w.1 852 i = s.1 852 i := fun i y => e 852 i (by omega)
    have e8 := e 428 18 (by omega)
    obtain ⟨h1, h2⟩ := h0
    have lt : ∀ i : Nat, (i : Int) < (w.1 846 6).toInt → i ≠ l → (i : Int) < (s.1 846 6).toInt := fun i i1 i2 => by
      rw [z2, nI_toInt (by omega)] at i1
      rw [e6, nI_toInt (by omega)]
      omega
    refine ⟨fun i i1 i2 => ?_, fun y => ?_⟩
    · by_cases il : i = l
      · subst il
        rw [z4] at i2
        obtain ⟨n, n1, n2, n3, n4⟩ := hs i2
        exact ⟨n, by rw [z7]; exact n1, n2, by rw [e8]; exact n3, by rw [e (445 + n) 7 (by omega)]; exact n4⟩
      · rw [e9 i il] at i2
        obtain ⟨n, n1, n2, n3, n4⟩ := h1 i (lt i i1 il) i2
        exact ⟨n, by rw [e2 i il]; exact n1, n2, by rw [e8]; exact n3, by rw [e (445 + n) 7 (by omega)]; exact n4⟩
    · obtain ⟨a1, a2, a3⟩ := h2 y
      refine ⟨a1, by rw [e8]; exact a2, fun i i1 i2 => ?_⟩
      by_cases il : i = l
      · subst il
        rw [z4] at i2
        exact absurd i2 (hz y).2.2
      · rw [e9 i il] at i2
        rw [e2 i il]
        exact a3 i (lt i i1 il) i2
  unfold f_X3_add at g
  rw [if_pos c] at g
  exact g
theorem vl_addo {x1 x2 x3 x4 x5 x6 : Int32} {s : t_S} (hs : x1 ≠ 14) (h : VL z x s) : t_pq (f_X3_add x1 x2 x3 x4 x5 x6 s) (fun y => VL z x y) := vl_add h (fun y => ⟨y, rfl, hs⟩) (fun y => absurd y hs)
theorem vl_lk {z' x' : Nat} {x1 x2 x3 : Int32} {s : t_S} (h0 : VL z' x' s) (h : ∀ a b d : Int32, t_pq (f_X3_add x1 a b d x2 x3 s) (fun y => VL z' x' y)) (adv : ∀ t, VL z' x' t → t_pq (f_X2_advance t) (fun y => VL z' x' y)) (fl : ∀ t, VL z' x' t → t_pq (f_X2_fail 2 t) (fun y => VL z' x' y)) : t_pq (f_X6_link x1 x2 x3 s) (fun y => VL z' x' y) := by
  unfold f_X6_link
  exact pc_if (fun _ => pc_bd (h _ _ _) (fun r1 h1 => pc_bd (adv r1 h1) (fun r2 h2 => pc_some h2))) (fun _ => pc_bd (fl s h0) (fun r5 h5 => pc_some h5))
theorem vl_any {T : Type} {y w : Nat} {o : Option T} {q : T → t_S} (h : t_pq o (fun v => VL y w (q v))) : t_pq o (fun v => VL 2 0 (q v)) := fun v e => (h v e).any
theorem vl_fail5 {s : t_S} (h : VL z x s) : t_pq (f_X2_fail 5 s) (fun y => VL z x y ∧ y.1 1 11 ≠ 0) := by
  unfold f_X2_fail
  have c : ∀ k, vl_W 1 k := fun k => by unfold vl_W; omega
  refine pc_if (fun _ => pc_lt (pc_lt (pc_lt (pc_some ⟨((h.set (c _)).set (c _)).set (c _), ?_⟩)))) (fun w => pc_some ⟨h, w⟩)
  simp only [l2_gI, Nat.reduceEqDiff, reduceIte, if_false, and_false]
  decide
theorem vl_fill {v : Int32} {s : t_S} (h : VL 0 x s) : t_pq (f_J7_fill_53178 (445 + 1 * x) v s) (fun y => VL 0 x y) := by
  unfold f_J7_fill_53178
  refine pc_if (fun _ => ?_) (fun _ => pc_none)
  refine pc_lp (I := fun q => q.1 = 445 + 1 * x ∧ VL 0 x q.2.2.2.2) (fun q hq => ?_) ⟨rfl, h⟩
  unfold b_J7_fill_53178_5 k_J7_fill_53178_5
  refine pc_if (fun _ => pc_mp (pc_some hq.2)) (fun _ => pc_if (fun _ => pc_if (fun _ => pc_lt (pc_some ⟨hq.1, ?_⟩)) (fun _ => pc_none)) (fun _ => pc_none))
  rw [hq.1]
  exact VL.own hq.2
theorem vl_f_X5_addStep {x1 x2 : Int32} {s : t_S} (hc : s.1 428 18 < 400) (h : VL 2 0 s) : t_pq (f_X5_addStep x1 x2 s) (fun y => VL 0 y.1.toNatClampNeg y.2) := by
  unfold f_X5_addStep
  refine pc_if (fun _ => pc_lt (pc_if (fun c => ?_) (fun _ => pc_none))) (fun w => absurd hc w)
  have q := t_ixI.mp c
  obtain ⟨n, hn, e⟩ : ∃ n : Nat, n < 400 ∧ s.1 428 18 = nI n := ⟨(s.1 428 18).toInt.toNat, by omega, by
    rw [← Int32.toInt_inj, nI_toInt (by omega)]
    omega⟩
  rw [e, nI_clamp (n := n) (by omega), nI_1]
  have g : VL 0 n (t_setI s 428 18 (nI (n + 1))) := by
    have f : l2_fr (fun a k => a = 428 ∧ k = 18) s (t_setI s 428 18 (nI (n + 1))) := l2_fr.set ⟨rfl, rfl⟩
    have ee : ∀ a k, ¬ (a = 428 ∧ k = 18) → (t_setI s 428 18 (nI (n + 1))).1 a k = s.1 a k := fun a k y => (f a k y).1
    have e6 := ee 846 6 (by omega)
    have e9 : ∀ i, (t_setI s 428 18 (nI (n + 1))).1 849 i = s.1 849 i := fun i => ee 849 i (by omega)
    have e2 : ∀ i, (t_setI s 428 18 (nI (n + 1))).1 852 i = s.1 852 i := fun i => ee 852 i (by omega)
    have e8 : (t_setI s 428 18 (nI (n + 1))).1 428 18 = nI (n + 1) := by simp only [l2_gI, reduceIte]
    generalize t_setI s 428 18 (nI (n + 1)) = w at *
    refine ⟨fun i i1 i2 => ?_, fun _ => ⟨hn, by rw [e8, nI_toInt (by omega)]; omega, fun i i1 i2 y => ?_⟩⟩
    · rw [e6] at i1
      rw [e9] at i2
      obtain ⟨j, j1, j2, j3, j4⟩ := h.1 i i1 i2
      rw [e, nI_toInt (by omega)] at j3
      exact ⟨j, by rw [e2]; exact j1, j2, by rw [e8, nI_toInt (by omega)]; omega, by rw [ee (445 + j) 7 (by omega)]; exact j4⟩
    · rw [e6] at i1
      rw [e9] at i2
      rw [e2] at y
      obtain ⟨j, j1, j2, j3, j4⟩ := h.1 i i1 i2
      rw [e, nI_toInt (by omega)] at j3
      rw [j1] at y
      have := congrArg Int32.toInt y
      rw [nI_toInt (by omega), nI_toInt (by omega)] at this
      omega
  refine pc_bd (vl_fill g) (fun r2 h2 => pc_lt (pc_lt (pc_some ?_)))
  show VL 0 ((nI n).toNatClampNeg) _
  rw [nI_clamp (n := n) (by omega)]
  exact VL.own (VL.own h2)
theorem vl_start {s : t_S} (h : s.1 846 6 = 0) : VL 2 0 s := ⟨fun i i1 => by
  rw [h] at i1
  have q : (0 : Int32).toInt = 0 := rfl
  omega, fun y => absurd y (by decide)⟩
theorem vl_f_X2_fail {x1 : Int32} {s : t_S} (h_s : VL zl xl s) : t_pq (f_X2_fail x1 s) (fun y => VL zl xl y) := by
  unfold f_X2_fail
  exact pc_if (fun _ => vl_st (VL.set h_s ⟨by decide, by decide, fun y => absurd y.1 (by decide), fun y => absurd y.1 (by decide), fun y => absurd y.1 (by decide)⟩) (fun s1 h_s1 => vl_st (VL.set h_s1 ⟨by decide, by decide, fun y => absurd y.1 (by decide), fun y => absurd y.1 (by decide), fun y => absurd y.1 (by decide)⟩) (fun s2 h_s2 => vl_st (VL.set h_s2 ⟨by decide, by decide, fun y => absurd y.1 (by decide), fun y => absurd y.1 (by decide), fun y => absurd y.1 (by decide)⟩) (fun s3 h_s3 => pc_some h_s3)))) (fun _ => pc_some h_s)
theorem vl_f_X2_advance {s : t_S} (h_s : VL zl xl s) : t_pq (f_X2_advance s) (fun y => VL zl xl y) := by
  unfold f_X2_advance
  exact pc_if (fun _ => pc_if (fun _ => vl_st (VL.set h_s ⟨by decide, by decide, fun y => absurd y.1 (by decide), fun y => absurd y.1 (by decide), fun y => absurd y.1 (by decide)⟩) (fun s1 h_s1 => pc_if (fun z1 => vl_st (VL.set h_s1 ⟨by decide, by decide, fun y => absurd y.1 (by decide), fun y => absurd y.1 (by decide), fun y => absurd y.1 (by decide)⟩) (fun s2 h_s2 => pc_if (fun z2 => vl_st (VL.set h_s2 ⟨by decide, by decide, fun y => absurd y.1 (by decide), fun y => absurd y.1 (by decide), fun y => absurd y.1 (by decide)⟩) (fun s3 h_s3 => pc_if (fun z3 => vl_st (VL.setJ h_s3) (fun s4 h_s4 => pc_if (fun _ => vl_st (VL.set h_s4 ⟨by decide, by decide, fun y => absurd y.1 (by decide), fun y => absurd y.1 (by decide), fun y => absurd y.1 (by decide)⟩) (fun s5 h_s5 => vl_st (VL.set h_s5 ⟨by decide, by decide, fun y => absurd y.1 (by decide), fun y => absurd y.1 (by decide), fun y => absurd y.1 (by decide)⟩) (fun s6 h_s6 => pc_some h_s6))) (fun _ => pc_some h_s4))) (fun _ => pc_none))) (fun _ => pc_none))) (fun _ => pc_none))) (fun _ => pc_some h_s)) (fun _ => pc_some h_s)
theorem vl_f_X2_need {x1 : Int32} {s : t_S} (h_s : VL zl xl s) : t_pq (f_X2_need x1 s) (fun y => VL zl xl y) := by
  unfold f_X2_need
  exact pc_if (fun _ => pc_bd (vl_f_X2_advance h_s) (fun r2 h_r2 => pc_some h_r2)) (fun _ => pc_bd (vl_f_X2_fail h_s) (fun r1 h_r1 => pc_some h_r1))
theorem vl_k_X3_late_31 {l1 : Int32} {l2 : Int32} {s : t_S} (h_s : VL zl xl s) : t_pq (k_X3_late_31 l1 l2 s) (fun y => VL zl xl y) := by
  unfold k_X3_late_31
  exact vl_st (VL.set h_s ⟨by decide, by decide, fun y => absurd y.2 (by decide), fun y => absurd y.1 (by decide), fun y => absurd y.2.1 (by decide)⟩) (fun s1 h_s1 => vl_st (VL.set h_s1 ⟨by decide, by decide, fun y => absurd y.2 (by decide), fun y => absurd y.1 (by decide), fun y => absurd y.2.1 (by decide)⟩) (fun s2 h_s2 => pc_some h_s2))
theorem vl_f_X3_late {x1 : Int32} {x2 : Int32} {s : t_S} (h_s : VL zl xl s) : t_pq (f_X3_late x1 x2 s) (fun y => VL zl xl y) := by
  unfold f_X3_late
  exact pc_if (fun _ => (vl_k_X3_late_31 h_s)) (fun _ => pc_if (fun _ => (vl_k_X3_late_31 h_s)) (fun _ => pc_if (fun _ => pc_if (fun _ => pc_some h_s) (fun _ => (vl_k_X3_late_31 h_s))) (fun _ => pc_some h_s)))
theorem vl_k_X6_takeName_64 {l1 : Int32} {l2 : Int32} {s : t_S} (h_s : VL zl xl s) : t_pq (k_X6_takeName_64 l1 l2 s) (fun y => VL zl xl y.2) := by
  unfold k_X6_takeName_64
  exact pc_if (fun _ => pc_if (fun z1 => vl_st (VL.set h_s ⟨by decide, by decide, fun y => absurd y.1 (by decide), fun y => absurd y.1 (by decide), fun y => absurd y.1 (by decide)⟩) (fun s1 h_s1 => pc_some h_s1)) (fun _ => pc_none)) (fun _ => pc_some h_s)
theorem vl_f_X6_takeName {x1 : Int32} {x2 : Int32} {x3 : Int32} {s : t_S} (h_s : VL zl xl s) : t_pq (f_X6_takeName x1 x2 x3 s) (fun y => VL zl xl y.2) := by
  unfold f_X6_takeName
  exact pc_if (fun _ => pc_if (fun z1 => pc_if (fun _ => pc_if (fun _ => (vl_k_X6_takeName_64 h_s)) (fun _ => pc_bd (vl_f_X2_fail h_s) (fun r3 h_r3 => (vl_k_X6_takeName_64 h_r3)))) (fun _ => pc_bd (vl_f_X2_fail h_s) (fun r4 h_r4 => (vl_k_X6_takeName_64 h_r4)))) (fun _ => pc_none)) (fun _ => pc_bd (vl_f_X2_fail h_s) (fun r5 h_r5 => (vl_k_X6_takeName_64 h_r5)))
def VLB_X6_readFields (zl xl : Nat) (rc : RT_X6_readFields) : Prop := (∀ (x0 : Int32) (x1 : Int32) (x2 : Int32) (s : t_S), VL zl xl s → t_pq (rc.1 x0 x1 x2 s) (fun y => VL zl xl y)) ∧ (∀ (x0 : Int32) (s : t_S), VL zl xl s → t_pq (rc.2 x0 s) (fun y => VL zl xl y.2))
theorem vl_k_X6_readFields_278 {rc : RT_X6_readFields} {s : t_S} (hrc : VLB_X6_readFields zl xl rc) (h_s : VL zl xl s) : t_pq (k_X6_readFields_278 rc s) (fun y => VL zl xl y) := by
  unfold k_X6_readFields_278
  exact pc_bd (vl_f_X2_need h_s) (fun r1 h_r1 => pc_some h_r1)
theorem vl_f_X6_node {s : t_S} (h_s : VL zl xl s) : t_pq (f_X6_node s) (fun y => VL zl xl y) := by
  unfold f_X6_node
  exact pc_if (fun _ => vl_st (VL.set h_s ⟨by decide, by decide, fun y => absurd y.1 (by decide), fun y => absurd y.1 (by decide), fun y => absurd y.2.1 (by decide)⟩) (fun s1 h_s1 => pc_some h_s1)) (fun _ => pc_bd (vl_f_X2_fail h_s) (fun r1 h_r1 => pc_some h_r1))
theorem vl_f_X11_add {x1 : Int32} {s : t_S} (h_s : VL zl xl s) : t_pq (f_X11_add x1 s) (fun y => VL zl xl y.2) := by
  unfold f_X11_add
  exact pc_if (fun _ => vl_st (VL.set h_s ⟨by decide, by decide, fun y => absurd y.1 (by decide), fun y => absurd y.1 (by decide), fun y => absurd y.1 (by decide)⟩) (fun s1 h_s1 => pc_if (fun z1 => vl_st (VL.set h_s1 ⟨by decide, by decide, fun y => absurd y.1 (by decide), fun y => absurd y.1 (by decide), fun y => absurd y.1 (by decide)⟩) (fun s2 h_s2 => vl_st (VL.set h_s2 ⟨by decide, by decide, fun y => absurd y.1 (by decide), fun y => absurd y.1 (by decide), fun y => absurd y.1 (by decide)⟩) (fun s3 h_s3 => vl_st (VL.set h_s3 ⟨by decide, by decide, fun y => absurd y.1 (by decide), fun y => absurd y.1 (by decide), fun y => absurd y.1 (by decide)⟩) (fun s4 h_s4 => vl_st (VL.set h_s4 ⟨by decide, by decide, fun y => absurd y.1 (by decide), fun y => absurd y.1 (by decide), fun y => absurd y.1 (by decide)⟩) (fun s5 h_s5 => vl_st (VL.set h_s5 ⟨by decide, by decide, fun y => absurd y.1 (by decide), fun y => absurd y.1 (by decide), fun y => absurd y.1 (by decide)⟩) (fun s6 h_s6 => vl_st (VL.setJ h_s6) (fun s7 h_s7 => vl_st (VL.setJ h_s7) (fun s8 h_s8 => pc_some h_s8)))))))) (fun _ => pc_none))) (fun _ => pc_some h_s)
theorem vl_f_X2_take {x1 : Int32} {s : t_S} (h_s : VL zl xl s) : t_pq (f_X2_take x1 s) (fun y => VL zl xl y.2) := by
  unfold f_X2_take
  exact pc_if (fun _ => pc_bd (vl_f_X2_advance h_s) (fun r1 h_r1 => pc_some h_r1)) (fun _ => pc_some h_s)
theorem vl_k_X6_readFields_240 {rc : RT_X6_readFields} {l1 : Int32} {l2 : Int32} {l3 : Int32} {l5 : Int32} {l6 : Int32} {s : t_S} (hrc : VLB_X6_readFields zl xl rc) (h_s : VL zl xl s) : t_pq (k_X6_readFields_240 rc l1 l2 l3 l5 l6 s) (fun z => Sum.elim (fun y => VL zl xl y.2.2.2.2.2) (fun y => VL zl xl y) z) := by
  unfold k_X6_readFields_240
  exact pc_if (fun z1 => vl_st (VL.set h_s ⟨by decide, by decide, fun y => absurd y.1 (by decide), fun y => absurd y.1 (by decide), fun y => absurd y.1 (by decide)⟩) (fun s1 h_s1 => pc_bd (vl_f_X2_take h_s1) (fun r2 h_r2 => pc_if (fun _ => pc_mp ((vl_k_X6_readFields_278 hrc h_r2))) (fun _ => pc_some h_r2)))) (fun _ => pc_none)
theorem vl_k_X6_readFields_209 {rc : RT_X6_readFields} {l1 : Int32} {l2 : Int32} {l3 : Int32} {l4 : Int32} {l5 : Int32} {l6 : Int32} {s : t_S} (hrc : VLB_X6_readFields zl xl rc) (h_s : VL zl xl s) : t_pq (k_X6_readFields_209 rc l1 l2 l3 l4 l5 l6 s) (fun z => Sum.elim (fun y => VL zl xl y.2.2.2.2.2) (fun y => VL zl xl y) z) := by
  unfold k_X6_readFields_209
  exact pc_if (fun _ => pc_if (fun z1 => vl_st (VL.set h_s ⟨by decide, by decide, fun y => absurd y.1 (by decide), fun y => absurd y.1 (by decide), fun y => absurd y.1 (by decide)⟩) (fun s2 h_s2 => (vl_k_X6_readFields_240 hrc h_s2))) (fun _ => pc_none)) (fun _ => pc_if (fun z2 => vl_st (VL.set h_s ⟨by decide, by decide, fun y => absurd y.1 (by decide), fun y => absurd y.1 (by decide), fun y => absurd y.1 (by decide)⟩) (fun s1 h_s1 => (vl_k_X6_readFields_240 hrc h_s1))) (fun _ => pc_none))
theorem vl_k_X6_readFields_105 {rc : RT_X6_readFields} {l1 : Int32} {l2 : Int32} {l3 : Int32} {l4 : Int32} {l5 : Int32} {s : t_S} (hrc : VLB_X6_readFields zl xl rc) (h_s : VL zl xl s) : t_pq (k_X6_readFields_105 rc l1 l2 l3 l4 l5 s) (fun z => Sum.elim (fun y => VL zl xl y.2.2.2.2.2) (fun y => VL zl xl y) z) := by
  unfold k_X6_readFields_105
  exact pc_bd (vl_f_X6_node h_s) (fun r1 h_r1 => pc_if (fun _ => pc_bd (vl_f_X11_add h_r1) (fun r2 h_r2 => pc_if (fun z1 => vl_st (VL.set h_r2 ⟨by decide, by decide, fun y => absurd y.1 (by decide), fun y => absurd y.1 (by decide), fun y => absurd y.1 (by decide)⟩) (fun s1 h_s1 => pc_bd (vl_f_X2_advance h_s1) (fun r5 h_r5 => pc_bd (vl_f_X2_need h_r5) (fun r6 h_r6 => pc_bd (hrc.2 _ _ h_r6) (fun r7 h_r7 => vl_st (VL.set h_r7 ⟨by decide, by decide, fun y => absurd y.1 (by decide), fun y => absurd y.1 (by decide), fun y => absurd y.1 (by decide)⟩) (fun s2 h_s2 => pc_if (fun _ => (vl_k_X6_readFields_209 hrc h_s2)) (fun _ => pc_bd (vl_f_X2_take h_s2) (fun r8 h_r8 => pc_if (fun _ => (vl_k_X6_readFields_209 hrc h_r8)) (fun _ => vl_st (VL.set h_r8 ⟨by decide, by decide, fun y => absurd y.1 (by decide), fun y => absurd y.1 (by decide), fun y => absurd y.1 (by decide)⟩) (fun s3 h_s3 => (vl_k_X6_readFields_209 hrc h_s3))))))))))) (fun _ => pc_none))) (fun _ => pc_mp (pc_some h_r1)))
theorem vl_k_X6_readFields_32 {rc : RT_X6_readFields} {l1 : Int32} {l2 : Int32} {l3 : Int32} {l4 : Int32} {l5 : Int32} {s : t_S} (hrc : VLB_X6_readFields zl xl rc) (h_s : VL zl xl s) : t_pq (k_X6_readFields_32 rc l1 l2 l3 l4 l5 s) (fun z => Sum.elim (fun y => VL zl xl y.2.2.2.2.2) (fun y => VL zl xl y) z) := by
  unfold k_X6_readFields_32
  exact pc_if (fun _ => pc_mp ((vl_k_X6_readFields_278 hrc h_s))) (fun _ => pc_if (fun _ => pc_bd pc_any (fun r2 h_r2 => pc_if (fun _ => pc_if (fun _ => pc_bd (vl_f_X2_fail h_s) (fun r3 h_r3 => (vl_k_X6_readFields_105 hrc h_r3))) (fun _ => (vl_k_X6_readFields_105 hrc h_s))) (fun _ => pc_bd (vl_f_X2_fail h_s) (fun r4 h_r4 => (vl_k_X6_readFields_105 hrc h_r4))))) (fun _ => pc_bd (vl_f_X2_fail h_s) (fun r5 h_r5 => (vl_k_X6_readFields_105 hrc h_r5))))
theorem vl_b_X6_readFields_32 {rc : RT_X6_readFields} {x9 : Int32 × Int32 × Int32 × Int32 × Int32 × t_S} (hrc : VLB_X6_readFields zl xl rc) (h : VL zl xl x9.2.2.2.2.2) : t_pq (b_X6_readFields_32 rc x9) (fun z => Sum.elim (fun y => VL zl xl y.2.2.2.2.2) (fun y => VL zl xl y) z) := vl_k_X6_readFields_32 hrc h
theorem vl_k_X6_readFields_26 {rc : RT_X6_readFields} {l1 : Int32} {l2 : Int32} {l3 : Int32} {s : t_S} (hrc : VLB_X6_readFields zl xl rc) (h_s : VL zl xl s) : t_pq (k_X6_readFields_26 rc l1 l2 l3 s) (fun y => VL zl xl y) := by
  unfold k_X6_readFields_26
  exact pc_lp (fun x h => vl_b_X6_readFields_32 hrc h) h_s
theorem vl_m_X6_readFields {rc : RT_X6_readFields} {x1 : Int32} {x2 : Int32} {x3 : Int32} {s : t_S} (hrc : VLB_X6_readFields zl xl rc) (h_s : VL zl xl s) : t_pq (m_X6_readFields rc x1 x2 x3 s) (fun y => VL zl xl y) := by
  unfold m_X6_readFields
  exact pc_bd (vl_f_X2_need h_s) (fun r1 h_r1 => pc_if (fun _ => (vl_k_X6_readFields_26 hrc h_r1)) (fun _ => pc_bd (vl_f_X2_take h_r1) (fun r2 h_r2 => pc_if (fun _ => (vl_k_X6_readFields_26 hrc h_r2)) (fun _ => pc_some h_r2))))
theorem vl_linko {x1 x2 x3 : Int32} {s : t_S} (hs : x1 ≠ 14) (h : VL zl xl s) : t_pq (f_X6_link x1 x2 x3 s) (fun y => VL zl xl y) := vl_lk h (fun _ _ _ => vl_addo hs h) (fun _ q => vl_f_X2_advance q) (fun _ q => vl_f_X2_fail q)
theorem vl_k_X6_readInt_346 {s : t_S} (h_s : VL zl xl s) : t_pq (k_X6_readInt_346 s) (fun y => VL zl xl y) := by
  unfold k_X6_readInt_346
  exact pc_bd (vl_f_X2_need h_s) (fun r1 h_r1 => pc_some h_r1)
theorem vl_k_X6_readNumber_90 {l4 : Int64} {s : t_S} (h_s : VL zl xl s) : t_pq (k_X6_readNumber_90 l4 s) (fun y => VL zl xl y.2) := by
  unfold k_X6_readNumber_90
  exact pc_if (fun _ => pc_bd (vl_f_X2_advance h_s) (fun r1 h_r1 => pc_some h_r1)) (fun _ => pc_some h_s)
theorem vl_k_X6_readNumber_51 {l1 : Int64} {k0 : Int64} {s : t_S} (h_s : VL zl xl s) : t_pq (k_X6_readNumber_51 l1 k0 s) (fun y => VL zl xl y.2) := by
  unfold k_X6_readNumber_51
  exact pc_if (fun _ => pc_if (fun _ => (vl_k_X6_readNumber_90 h_s)) (fun _ => pc_bd (vl_f_X2_fail h_s) (fun r1 h_r1 => (vl_k_X6_readNumber_90 h_r1)))) (fun _ => pc_bd (vl_f_X2_fail h_s) (fun r2 h_r2 => (vl_k_X6_readNumber_90 h_r2)))
theorem vl_k_X6_readNumber_29 {l1 : Int64} {l3 : Int32} {s : t_S} (h_s : VL zl xl s) : t_pq (k_X6_readNumber_29 l1 l3 s) (fun y => VL zl xl y.2) := by
  unfold k_X6_readNumber_29
  exact pc_if (fun _ => (vl_k_X6_readNumber_51 h_s)) (fun _ => (vl_k_X6_readNumber_51 h_s))
theorem vl_k_X6_readNumber_17 {l1 : Int64} {k0 : Int32} {s : t_S} (h_s : VL zl xl s) : t_pq (k_X6_readNumber_17 l1 k0 s) (fun y => VL zl xl y.2) := by
  unfold k_X6_readNumber_17
  exact pc_if (fun _ => (vl_k_X6_readNumber_29 h_s)) (fun _ => pc_bd (vl_f_X2_advance h_s) (fun r1 h_r1 => (vl_k_X6_readNumber_29 h_r1)))
theorem vl_f_X6_readNumber {x1 : Int64} {s : t_S} (h_s : VL zl xl s) : t_pq (f_X6_readNumber x1 s) (fun y => VL zl xl y.2) := by
  unfold f_X6_readNumber
  exact pc_if (fun _ => (vl_k_X6_readNumber_17 h_s)) (fun _ => (vl_k_X6_readNumber_17 h_s))
theorem vl_k_X6_readInt_308 {l1 : Int32} {l3 : Int32} {l4 : Int32} {k0 : Int64} {k1 : Int32} {s : t_S} (h_s : VL zl xl s) : t_pq (k_X6_readInt_308 l1 l3 l4 k0 k1 s) (fun z => Sum.elim (fun y => VL zl xl y.2.2.2) (fun y => VL zl xl y) z) := by
  unfold k_X6_readInt_308
  exact pc_if (fun z1 => vl_st (VL.setJ h_s) (fun s1 h_s1 => pc_if (fun z2 => vl_st (VL.set h_s1 ⟨by decide, by decide, fun y => absurd y.1 (by decide), fun y => absurd y.1 (by decide), fun y => absurd y.1 (by decide)⟩) (fun s2 h_s2 => pc_bd (vl_f_X2_take h_s2) (fun r3 h_r3 => pc_if (fun _ => pc_mp ((vl_k_X6_readInt_346 h_r3))) (fun _ => pc_some h_r3)))) (fun _ => pc_none))) (fun _ => pc_none)
theorem vl_k_X6_readInt_260 {l1 : Int32} {l3 : Int32} {l4 : Int32} {k0 : Int64} {k1 : Int32} {s : t_S} (h_s : VL zl xl s) : t_pq (k_X6_readInt_260 l1 l3 l4 k0 k1 s) (fun z => Sum.elim (fun y => VL zl xl y.2.2.2) (fun y => VL zl xl y) z) := by
  unfold k_X6_readInt_260
  exact pc_if (fun z1 => vl_st (VL.setJ h_s) (fun s1 h_s1 => pc_if (fun _ => pc_if (fun z2 => (vl_k_X6_readInt_308 h_s1)) (fun _ => pc_none)) (fun _ => pc_if (fun z3 => pc_if (fun z4 => (vl_k_X6_readInt_308 h_s1)) (fun _ => pc_none)) (fun _ => pc_none)))) (fun _ => pc_none)
theorem vl_k_X6_readInt_213 {l1 : Int32} {l3 : Int32} {l4 : Int32} {s : t_S} (h_s : VL zl xl s) : t_pq (k_X6_readInt_213 l1 l3 l4 s) (fun z => Sum.elim (fun y => VL zl xl y.2.2.2) (fun y => VL zl xl y) z) := by
  unfold k_X6_readInt_213
  exact pc_if (fun _ => pc_if (fun z1 => (vl_k_X6_readInt_260 h_s)) (fun _ => pc_none)) (fun _ => pc_if (fun z2 => pc_if (fun z3 => (vl_k_X6_readInt_260 h_s)) (fun _ => pc_none)) (fun _ => pc_none))
theorem vl_k_X6_readInt_183 {l1 : Int32} {l2 : Int32} {l3 : Int32} {l4 : Int32} {k0 : Int64} {k1 : Int32} {s : t_S} (h_s : VL zl xl s) : t_pq (k_X6_readInt_183 l1 l2 l3 l4 k0 k1 s) (fun z => Sum.elim (fun y => VL zl xl y.2.2.2) (fun y => VL zl xl y) z) := by
  unfold k_X6_readInt_183
  exact pc_if (fun z1 => vl_st (VL.setJ h_s) (fun s1 h_s1 => pc_if (fun _ => pc_if (fun z2 => vl_st (VL.set h_s1 ⟨by decide, by decide, fun y => absurd y.1 (by decide), fun y => absurd y.1 (by decide), fun y => absurd y.1 (by decide)⟩) (fun s3 h_s3 => (vl_k_X6_readInt_213 h_s3))) (fun _ => pc_none)) (fun _ => pc_if (fun z3 => vl_st (VL.set h_s1 ⟨by decide, by decide, fun y => absurd y.1 (by decide), fun y => absurd y.1 (by decide), fun y => absurd y.1 (by decide)⟩) (fun s2 h_s2 => (vl_k_X6_readInt_213 h_s2))) (fun _ => pc_none)))) (fun _ => pc_none)
theorem vl_k_X6_readInt_92 {l1 : Int32} {l2 : Int32} {l3 : Int32} {s : t_S} (h_s : VL zl xl s) : t_pq (k_X6_readInt_92 l1 l2 l3 s) (fun z => Sum.elim (fun y => VL zl xl y.2.2.2) (fun y => VL zl xl y) z) := by
  unfold k_X6_readInt_92
  exact pc_bd (vl_f_X6_node h_s) (fun r1 h_r1 => pc_if (fun _ => pc_bd (vl_f_X11_add h_r1) (fun r2 h_r2 => pc_bd (vl_f_X6_readNumber h_r2) (fun r3 h_r3 => pc_if (fun z1 => vl_st (VL.setJ h_r3) (fun s1 h_s1 => pc_bd (vl_f_X2_take h_s1) (fun r5 h_r5 => pc_if (fun _ => (vl_k_X6_readInt_183 h_r5)) (fun _ => pc_bd (vl_f_X6_readNumber h_r5) (fun r6 h_r6 => (vl_k_X6_readInt_183 h_r6)))))) (fun _ => pc_none)))) (fun _ => pc_mp (pc_some h_r1)))
theorem vl_k_X6_readInt_78 {l1 : Int32} {l2 : Int32} {l3 : Int32} {s : t_S} (h_s : VL zl xl s) : t_pq (k_X6_readInt_78 l1 l2 l3 s) (fun z => Sum.elim (fun y => VL zl xl y.2.2.2) (fun y => VL zl xl y) z) := by
  unfold k_X6_readInt_78
  exact pc_if (fun _ => pc_bd (vl_f_X2_fail h_s) (fun r1 h_r1 => (vl_k_X6_readInt_92 h_r1))) (fun _ => (vl_k_X6_readInt_92 h_s))
theorem vl_k_X6_readInt_41 {l1 : Int32} {l2 : Int32} {l3 : Int32} {s : t_S} (h_s : VL zl xl s) : t_pq (k_X6_readInt_41 l1 l2 l3 s) (fun z => Sum.elim (fun y => VL zl xl y.2.2.2) (fun y => VL zl xl y) z) := by
  unfold k_X6_readInt_41
  exact pc_if (fun _ => pc_mp ((vl_k_X6_readInt_346 h_s))) (fun _ => pc_if (fun _ => (vl_k_X6_readInt_78 h_s)) (fun _ => pc_if (fun _ => (vl_k_X6_readInt_78 h_s)) (fun _ => pc_bd (vl_f_X2_fail h_s) (fun r1 h_r1 => (vl_k_X6_readInt_78 h_r1)))))
theorem vl_b_X6_readInt_41 {x9 : Int32 × Int32 × Int32 × t_S} (h : VL zl xl x9.2.2.2) : t_pq (b_X6_readInt_41 x9) (fun z => Sum.elim (fun y => VL zl xl y.2.2.2) (fun y => VL zl xl y) z) := vl_k_X6_readInt_41 h
theorem vl_f_X6_readInt {x1 : Int32} {s : t_S} (h_s : VL zl xl s) : t_pq (f_X6_readInt x1 s) (fun y => VL zl xl y) := by
  unfold f_X6_readInt
  exact pc_if (fun z1 => vl_st (VL.setJ h_s) (fun s1 h_s1 => vl_st (VL.setJ h_s1) (fun s2 h_s2 => pc_bd (vl_f_X2_take h_s2) (fun r2 h_r2 => pc_if (fun _ => pc_some h_r2) (fun _ => pc_lp (fun x h => vl_b_X6_readInt_41 h) h_r2))))) (fun _ => pc_none)
theorem vl_k_X6_readBound_52 {l3 : Int64} {s : t_S} (h_s : VL zl xl s) : t_pq (k_X6_readBound_52 l3 s) (fun y => VL zl xl y.2) := by
  unfold k_X6_readBound_52
  exact pc_if (fun _ => pc_bd (vl_f_X2_advance h_s) (fun r1 h_r1 => pc_some h_r1)) (fun _ => pc_some h_s)
theorem vl_k_X6_readBound_44 {l3 : Int64} {s : t_S} (h_s : VL zl xl s) : t_pq (k_X6_readBound_44 l3 s) (fun y => VL zl xl y.2) := by
  unfold k_X6_readBound_44
  exact pc_bd (vl_f_X2_fail h_s) (fun r1 h_r1 => (vl_k_X6_readBound_52 h_r1))
theorem vl_f_X6_readBound {x1 : Int32} {x2 : Int32} {s : t_S} (h_s : VL zl xl s) : t_pq (f_X6_readBound x1 x2 s) (fun y => VL zl xl y.2) := by
  unfold f_X6_readBound
  exact pc_if (fun _ => pc_if (fun _ => (vl_k_X6_readBound_44 h_s)) (fun _ => pc_if (fun _ => (vl_k_X6_readBound_52 h_s)) (fun _ => (vl_k_X6_readBound_44 h_s)))) (fun _ => pc_bd (vl_f_X2_fail h_s) (fun r1 h_r1 => (vl_k_X6_readBound_52 h_r1)))
theorem vl_k_X6_readSpan_38 {l2 : Int32} {k0 : Int32} {s : t_S} (h_s : VL zl xl s) : t_pq (k_X6_readSpan_38 l2 k0 s) (fun y => VL zl xl y.2) := by
  unfold k_X6_readSpan_38
  exact pc_bd (vl_f_X2_need h_s) (fun r1 h_r1 => pc_some h_r1)
theorem vl_f_X6_readSpan {x1 : Int32} {s : t_S} (h_s : VL zl xl s) : t_pq (f_X6_readSpan x1 s) (fun y => VL zl xl y.2) := by
  unfold f_X6_readSpan
  exact pc_bd (vl_f_X2_need h_s) (fun r1 h_r1 => pc_bd (vl_f_X6_readBound h_r1) (fun r2 h_r2 => pc_bd (vl_f_X2_take h_r2) (fun r3 h_r3 => pc_if (fun _ => (vl_k_X6_readSpan_38 h_r3)) (fun _ => pc_bd (vl_f_X6_readBound h_r3) (fun r4 h_r4 => (vl_k_X6_readSpan_38 h_r4))))))
theorem vl_f_X6_setSpan {x1 : Int32} {x2 : Int32} {s : t_S} (h_s : VL zl xl s) : t_pq (f_X6_setSpan x1 x2 s) (fun y => VL zl xl y) := by
  unfold f_X6_setSpan
  exact pc_if (fun z1 => vl_st (VL.setJ h_s) (fun s1 h_s1 => vl_st (VL.setJ h_s1) (fun s2 h_s2 => pc_some h_s2))) (fun _ => pc_none)
theorem vl_k_X6_readEnum_201 {s : t_S} (h_s : VL zl xl s) : t_pq (k_X6_readEnum_201 s) (fun y => VL zl xl y) := by
  unfold k_X6_readEnum_201
  exact pc_bd (vl_f_X2_need h_s) (fun r1 h_r1 => pc_some h_r1)
theorem vl_k_X6_readEnum_98 {l1 : Int32} {l2 : Int32} {s : t_S} (h_s : VL zl xl s) : t_pq (k_X6_readEnum_98 l1 l2 s) (fun z => Sum.elim (fun y => VL zl xl y.2.2) (fun y => VL zl xl y) z) := by
  unfold k_X6_readEnum_98
  exact pc_if (fun _ => pc_if (fun z1 => vl_st (VL.set h_s ⟨by decide, by decide, fun y => absurd y.1 (by decide), fun y => absurd y.1 (by decide), fun y => absurd y.1 (by decide)⟩) (fun s1 h_s1 => pc_if (fun z2 => vl_st (VL.set h_s1 ⟨by decide, by decide, fun y => absurd y.1 (by decide), fun y => absurd y.1 (by decide), fun y => absurd y.1 (by decide)⟩) (fun s2 h_s2 => vl_st (VL.set h_s2 ⟨by decide, by decide, fun y => absurd y.1 (by decide), fun y => absurd y.1 (by decide), fun y => absurd y.1 (by decide)⟩) (fun s3 h_s3 => pc_if (fun z3 => vl_st (VL.set h_s3 ⟨by decide, by decide, fun y => absurd y.1 (by decide), fun y => absurd y.1 (by decide), fun y => absurd y.1 (by decide)⟩) (fun s4 h_s4 => pc_bd (vl_f_X2_advance h_s4) (fun r6 h_r6 => pc_bd (vl_f_X2_take h_r6) (fun r7 h_r7 => pc_if (fun _ => pc_mp ((vl_k_X6_readEnum_201 h_r7))) (fun _ => pc_some h_r7))))) (fun _ => pc_none)))) (fun _ => pc_none))) (fun _ => pc_none)) (fun _ => pc_mp (pc_some h_s))
theorem vl_k_X6_readEnum_27 {l1 : Int32} {l2 : Int32} {s : t_S} (h_s : VL zl xl s) : t_pq (k_X6_readEnum_27 l1 l2 s) (fun z => Sum.elim (fun y => VL zl xl y.2.2) (fun y => VL zl xl y) z) := by
  unfold k_X6_readEnum_27
  exact pc_if (fun _ => pc_mp ((vl_k_X6_readEnum_201 h_s))) (fun _ => pc_if (fun _ => pc_bd pc_any (fun r2 h_r2 => pc_if (fun _ => pc_if (fun _ => pc_bd (vl_f_X2_fail h_s) (fun r3 h_r3 => (vl_k_X6_readEnum_98 h_r3))) (fun _ => (vl_k_X6_readEnum_98 h_s))) (fun _ => pc_bd (vl_f_X2_fail h_s) (fun r4 h_r4 => (vl_k_X6_readEnum_98 h_r4))))) (fun _ => pc_bd (vl_f_X2_fail h_s) (fun r5 h_r5 => (vl_k_X6_readEnum_98 h_r5))))
theorem vl_b_X6_readEnum_27 {x9 : Int32 × Int32 × t_S} (h : VL zl xl x9.2.2) : t_pq (b_X6_readEnum_27 x9) (fun z => Sum.elim (fun y => VL zl xl y.2.2) (fun y => VL zl xl y) z) := vl_k_X6_readEnum_27 h
theorem vl_f_X6_readEnum {x1 : Int32} {s : t_S} (h_s : VL zl xl s) : t_pq (f_X6_readEnum x1 s) (fun y => VL zl xl y) := by
  unfold f_X6_readEnum
  exact pc_bd (vl_f_X2_need h_s) (fun r1 h_r1 => pc_if (fun z1 => vl_st (VL.set h_r1 ⟨by decide, by decide, fun y => absurd y.1 (by decide), fun y => absurd y.1 (by decide), fun y => absurd y.1 (by decide)⟩) (fun s1 h_s1 => pc_lp (fun x h => vl_b_X6_readEnum_27 h) h_s1)) (fun _ => pc_none))
theorem vl_k_X6_readType_257 {rc : RT_X6_readFields} {l1 : Int32} {l3 : Int32} {s : t_S} (hrc : VLB_X6_readFields zl xl rc) (h_s : VL zl xl s) : t_pq (k_X6_readType_257 rc l1 l3 s) (fun y => VL zl xl y.2) := by
  unfold k_X6_readType_257
  exact pc_bd (vl_f_X2_need h_s) (fun r1 h_r1 => pc_bd (hrc.2 _ _ h_r1) (fun r2 h_r2 => pc_if (fun z1 => vl_st (VL.set h_r2 ⟨by decide, by decide, fun y => absurd y.1 (by decide), fun y => absurd y.1 (by decide), fun y => absurd y.1 (by decide)⟩) (fun s1 h_s1 => pc_some h_s1)) (fun _ => pc_none)))
theorem vl_k_X6_readType_80 {rc : RT_X6_readFields} {l1 : Int32} {l2 : Int32} {k0 : Int32} {s : t_S} (hrc : VLB_X6_readFields zl xl rc) (h_s : VL zl xl s) : t_pq (k_X6_readType_80 rc l1 l2 k0 s) (fun y => VL zl xl y.2) := by
  unfold k_X6_readType_80
  exact pc_bd (vl_f_X11_add h_s) (fun r1 h_r1 => pc_if (fun _ => pc_bd (vl_linko (by decide) h_r1) (fun r13 h_r13 => pc_some h_r13)) (fun _ => pc_bd (vl_f_X2_advance h_r1) (fun r2 h_r2 => pc_if (fun _ => pc_some h_r2) (fun _ => pc_if (fun _ => pc_bd (vl_f_X6_readInt h_r2) (fun r3 h_r3 => pc_some h_r3)) (fun _ => pc_if (fun _ => pc_some h_r2) (fun _ => pc_if (fun _ => pc_if (fun z1 => vl_st (VL.setJ h_r2) (fun s1 h_s1 => pc_if (fun _ => pc_bd (vl_f_X6_readSpan h_s1) (fun r5 h_r5 => pc_bd (vl_f_X6_setSpan h_r5) (fun r6 h_r6 => pc_some h_r6))) (fun _ => pc_some h_s1))) (fun _ => pc_none)) (fun _ => pc_if (fun _ => pc_bd (vl_f_X6_readEnum h_r2) (fun r7 h_r7 => pc_some h_r7)) (fun _ => pc_if (fun _ => pc_bd (hrc.1 _ _ _ _ h_r2) (fun r8 h_r8 => pc_some h_r8)) (fun _ => pc_if (fun _ => pc_bd (hrc.1 _ _ _ _ h_r2) (fun r9 h_r9 => pc_some h_r9)) (fun _ => pc_if (fun z2 => vl_st (VL.setJ h_r2) (fun s2 h_s2 => pc_if (fun _ => pc_bd (vl_f_X6_readSpan h_s2) (fun r11 h_r11 => pc_bd (vl_f_X6_setSpan h_r11) (fun r12 h_r12 => (vl_k_X6_readType_257 hrc h_r12)))) (fun _ => (vl_k_X6_readType_257 hrc h_s2)))) (fun _ => pc_none)))))))))))
theorem vl_k_X6_readType_35 {rc : RT_X6_readFields} {l1 : Int32} {s : t_S} (hrc : VLB_X6_readFields zl xl rc) (h_s : VL zl xl s) : t_pq (k_X6_readType_35 rc l1 s) (fun y => VL zl xl y.2) := by
  unfold k_X6_readType_35
  exact pc_bd (vl_f_X6_node h_s) (fun r1 h_r1 => pc_if (fun _ => pc_if (fun _ => (vl_k_X6_readType_80 hrc h_r1)) (fun _ => (vl_k_X6_readType_80 hrc h_r1))) (fun _ => pc_some h_r1))
theorem vl_k_X6_readType_21 {rc : RT_X6_readFields} {l1 : Int32} {s : t_S} (hrc : VLB_X6_readFields zl xl rc) (h_s : VL zl xl s) : t_pq (k_X6_readType_21 rc l1 s) (fun y => VL zl xl y.2) := by
  unfold k_X6_readType_21
  exact pc_if (fun _ => (vl_k_X6_readType_35 hrc h_s)) (fun _ => pc_bd (vl_f_X2_fail h_s) (fun r1 h_r1 => (vl_k_X6_readType_35 hrc h_r1)))
theorem vl_m_X6_readType {rc : RT_X6_readFields} {x1 : Int32} {s : t_S} (hrc : VLB_X6_readFields zl xl rc) (h_s : VL zl xl s) : t_pq (m_X6_readType rc x1 s) (fun y => VL zl xl y.2) := by
  unfold m_X6_readType
  exact pc_if (fun _ => pc_bd (vl_f_X2_fail h_s) (fun r2 h_r2 => (vl_k_X6_readType_21 hrc h_r2))) (fun _ => (vl_k_X6_readType_21 hrc h_s))
theorem VLB_X6_readFields_R : ∀ n, VLB_X6_readFields zl xl (R_X6_readFields n) := by
  intro n
  induction n with
  | zero => exact ⟨fun _ _ _ _ _ => pc_none, fun _ _ _ => pc_none⟩
  | succ n ih => exact ⟨fun _ _ _ _ h => vl_m_X6_readFields ih h, fun _ _ h => vl_m_X6_readType ih h⟩
theorem vl_f_X6_readType {x1 : Int32} {s : t_S} (h_s : VL zl xl s) : t_pq (f_X6_readType x1 s) (fun y => VL zl xl y.2) := by
  unfold f_X6_readType
  exact ((VLB_X6_readFields_R 100).2 _ _ h_s)
theorem vl_f_X6_readTypeItem {s : t_S} (h_s : VL zl xl s) : t_pq (f_X6_readTypeItem s) (fun y => VL zl xl y) := by
  unfold f_X6_readTypeItem
  exact pc_bd (vl_f_X2_advance h_s) (fun r1 h_r1 => pc_bd (vl_f_X6_takeName h_r1) (fun r2 h_r2 => pc_if (fun _ => pc_some h_r2) (fun _ => pc_if (fun z1 => vl_st (VL.set h_r2 ⟨by decide, by decide, fun y => absurd y.1 (by decide), fun y => absurd y.1 (by decide), fun y => absurd y.1 (by decide)⟩) (fun s1 h_s1 => vl_st (VL.set h_s1 ⟨by decide, by decide, fun y => absurd y.1 (by decide), fun y => absurd y.1 (by decide), fun y => absurd y.1 (by decide)⟩) (fun s2 h_s2 => pc_bd (vl_f_X2_advance h_s2) (fun r4 h_r4 => pc_bd (vl_f_X2_need h_r4) (fun r5 h_r5 => pc_bd (vl_f_X6_readType h_r5) (fun r6 h_r6 => vl_st (VL.set h_r6 ⟨by decide, by decide, fun y => absurd y.1 (by decide), fun y => absurd y.1 (by decide), fun y => absurd y.1 (by decide)⟩) (fun s3 h_s3 => pc_bd (vl_f_X2_need h_s3) (fun r7 h_r7 => pc_some h_r7)))))))) (fun _ => pc_none))))
def VLB_X6_readBase (zl xl : Nat) (rc : RT_X6_readBase) : Prop := (∀ (x0 : Int32) (s : t_S), VL zl xl s → t_pq (rc.1 x0 s) (fun y => VL zl xl y)) ∧ (∀ (x0 : Int32) (s : t_S), VL zl xl s → t_pq (rc.2.1 x0 s) (fun y => VL zl xl y)) ∧ (∀ (x0 : Int32) (s : t_S), VL zl xl s → t_pq (rc.2.2.1 x0 s) (fun y => VL zl xl y.2)) ∧ (∀ (x0 : Int32) (s : t_S), VL zl xl s → t_pq (rc.2.2.2.1 x0 s) (fun y => VL zl xl y)) ∧ (∀ (x0 : Int32) (s : t_S), VL zl xl s → t_pq (rc.2.2.2.2.1 x0 s) (fun y => VL zl xl y.2)) ∧ (∀ (x0 : Int32) (x1 : Int32) (x2 : Int32) (x3 : Int32) (s : t_S), VL zl xl s → t_pq (rc.2.2.2.2.2.1 x0 x1 x2 x3 s) (fun y => VL zl xl y)) ∧ (∀ (x0 : Int32) (s : t_S), VL zl xl s → t_pq (rc.2.2.2.2.2.2.1 x0 s) (fun y => VL zl xl y)) ∧ (∀ (x0 : Int32) (s : t_S), VL zl xl s → t_pq (rc.2.2.2.2.2.2.2.1 x0 s) (fun y => VL zl xl y)) ∧ (∀ (x0 : Int32) (x1 : Int32) (s : t_S), VL zl xl s → t_pq (rc.2.2.2.2.2.2.2.2.1 x0 x1 s) (fun y => VL zl xl y.2)) ∧ (∀ (x0 : Int32) (x1 : Int32) (x2 : Int32) (s : t_S), VL zl xl s → t_pq (rc.2.2.2.2.2.2.2.2.2.1 x0 x1 x2 s) (fun y => VL zl xl y)) ∧ (∀ (x0 : Int32) (x1 : Int32) (x2 : Int32) (x3 : Int32) (s : t_S), VL zl xl s → t_pq (rc.2.2.2.2.2.2.2.2.2.2.1 x0 x1 x2 x3 s) (fun y => VL zl xl y)) ∧ (∀ (x0 : Int32) (x1 : Int32) (s : t_S), VL zl xl s → t_pq (rc.2.2.2.2.2.2.2.2.2.2.2.1 x0 x1 s) (fun y => VL zl xl y)) ∧ (∀ (x0 : Int32) (x1 : Int32) (x2 : Int32) (s : t_S), VL zl xl s → t_pq (rc.2.2.2.2.2.2.2.2.2.2.2.2.1 x0 x1 x2 s) (fun y => VL zl xl y)) ∧ (∀ (x0 : Int32) (x1 : Int32) (s : t_S), VL zl xl s → t_pq (rc.2.2.2.2.2.2.2.2.2.2.2.2.2.1 x0 x1 s) (fun y => VL zl xl y.2)) ∧ (∀ (x0 : Int32) (x1 : Int32) (x2 : Int32) (s : t_S), VL zl xl s → t_pq (rc.2.2.2.2.2.2.2.2.2.2.2.2.2.2.1 x0 x1 x2 s) (fun y => VL zl xl y)) ∧ (∀ (x0 : Int32) (x1 : Int32) (x2 : Int32) (s : t_S), VL zl xl s → t_pq (rc.2.2.2.2.2.2.2.2.2.2.2.2.2.2.2 x0 x1 x2 s) (fun y => VL zl xl y))
theorem vl_f_X0_emit {x1 : Int32} {x2 : Int32} {s : t_S} (h_s : VL zl xl s) : t_pq (f_X0_emit x1 x2 s) (fun y => VL zl xl y.2) := by
  unfold f_X0_emit
  exact pc_if (fun _ => pc_if (fun z1 => vl_st (VL.set h_s ⟨by decide, by decide, fun y => absurd y.1 (by decide), fun y => absurd y.1 (by decide), fun y => absurd y.1 (by decide)⟩) (fun s1 h_s1 => pc_if (fun z2 => vl_st (VL.set h_s1 ⟨by decide, by decide, fun y => absurd y.1 (by decide), fun y => absurd y.1 (by decide), fun y => absurd y.1 (by decide)⟩) (fun s2 h_s2 => vl_st (VL.set h_s2 ⟨by decide, by decide, fun y => absurd y.1 (by decide), fun y => absurd y.1 (by decide), fun y => absurd y.1 (by decide)⟩) (fun s3 h_s3 => pc_some h_s3))) (fun _ => pc_none))) (fun _ => pc_none)) (fun _ => pc_some h_s)
theorem vl_k_X6_emitWord_55 {l1 : Int32} {l2 : Int32} {k0 : Int32} {s : t_S} (h_s : VL zl xl s) : t_pq (k_X6_emitWord_55 l1 l2 k0 s) (fun y => VL zl xl y) := by
  unfold k_X6_emitWord_55
  exact pc_if (fun _ => pc_if (fun _ => pc_bd (vl_f_X0_emit h_s) (fun r2 h_r2 => pc_bd (vl_addo (by decide) h_r2) (fun r3 h_r3 => pc_some h_r3))) (fun _ => pc_bd (vl_f_X0_emit h_s) (fun r4 h_r4 => pc_some h_r4))) (fun _ => pc_bd (vl_f_X0_emit h_s) (fun r5 h_r5 => pc_some h_r5))
theorem vl_k_X6_emitWord_31 {l1 : Int32} {k0 : Int32} {s : t_S} (h_s : VL zl xl s) : t_pq (k_X6_emitWord_31 l1 k0 s) (fun y => VL zl xl y) := by
  unfold k_X6_emitWord_31
  exact pc_if (fun _ => (vl_k_X6_emitWord_55 h_s)) (fun _ => pc_bd pc_any (fun r1 h_r1 => (vl_k_X6_emitWord_55 h_s)))
theorem vl_f_X6_emitWord {s : t_S} (h_s : VL zl xl s) : t_pq (f_X6_emitWord s) (fun y => VL zl xl y) := by
  unfold f_X6_emitWord
  exact pc_if (fun _ => (vl_k_X6_emitWord_31 h_s)) (fun _ => pc_bd pc_any (fun r2 h_r2 => (vl_k_X6_emitWord_31 h_s)))
theorem vl_k_X6_readBase_326 {rc : RT_X6_readBase} {l1 : Int32} {l2 : Int32} {s : t_S} (hrc : VLB_X6_readBase zl xl rc) (h_s : VL zl xl s) : t_pq (k_X6_readBase_326 rc l1 l2 s) (fun y => VL zl xl y) := by
  unfold k_X6_readBase_326
  exact pc_bd (vl_f_X2_advance h_s) (fun r1 h_r1 => pc_if (fun _ => pc_bd (hrc.2.2.1 _ _ h_r1) (fun r2 h_r2 => pc_bd (vl_f_X2_need h_r2) (fun r3 h_r3 => pc_some h_r3))) (fun _ => pc_if (fun _ => pc_bd (hrc.2.1 _ _ h_r1) (fun r4 h_r4 => pc_some h_r4)) (fun _ => pc_if (fun _ => pc_bd (hrc.2.2.2.1 _ _ h_r1) (fun r5 h_r5 => pc_some h_r5)) (fun _ => pc_if (fun _ => pc_bd (hrc.2.2.2.2.2.2.1 _ _ h_r1) (fun r6 h_r6 => pc_some h_r6)) (fun _ => pc_if (fun _ => pc_bd (vl_f_X2_need h_r1) (fun r7 h_r7 => pc_bd (hrc.2.2.1 _ _ h_r7) (fun r8 h_r8 => pc_bd (vl_f_X2_need h_r8) (fun r9 h_r9 => pc_bd (vl_f_X0_emit h_r9) (fun r10 h_r10 => pc_some h_r10))))) (fun _ => pc_if (fun _ => pc_bd (vl_f_X0_emit h_r1) (fun r11 h_r11 => pc_bd (vl_linko (by decide) h_r11) (fun r12 h_r12 => pc_some h_r12))) (fun _ => pc_some h_r1)))))))
theorem vl_f_X0_poolCell {x1 : Int64} {s : t_S} (h_s : VL zl xl s) : t_pq (f_X0_poolCell x1 s) (fun y => VL zl xl y.2) := by
  unfold f_X0_poolCell
  exact pc_if (fun _ => pc_if (fun z1 => vl_st (VL.setJ h_s) (fun s1 h_s1 => vl_st (VL.set h_s1 ⟨by decide, by decide, fun y => absurd y.1 (by decide), fun y => absurd y.1 (by decide), fun y => absurd y.1 (by decide)⟩) (fun s2 h_s2 => pc_some h_s2))) (fun _ => pc_none)) (fun _ => pc_some h_s)
theorem vl_f_X0_poolText {x1 : Int32} {s : t_S} (h_s : VL zl xl s) : t_pq (f_X0_poolText x1 s) (fun y => VL zl xl y.2) := by
  unfold f_X0_poolText
  exact pc_if (fun _ => pc_bd pc_any (fun r1 h_r1 => pc_if (fun z1 => vl_st (VL.setJ h_s) (fun s1 h_s1 => vl_st (VL.set h_s1 ⟨by decide, by decide, fun y => absurd y.1 (by decide), fun y => absurd y.1 (by decide), fun y => absurd y.1 (by decide)⟩) (fun s2 h_s2 => pc_some h_s2))) (fun _ => pc_none))) (fun _ => pc_some h_s)
theorem vl_k_X8_putSign_24 {l0 : Nat} {l2 : Int32} {l3 : Int32} {l4 : Int32} {s : t_S} (hl_l0 : ARv l0) (h_s : VL zl xl s) : t_pq (k_X8_putSign_24 l0 l2 l3 l4 s) (fun y => VL zl xl y) := by
  unfold k_X8_putSign_24
  exact pc_if (fun _ => pc_if (fun _ => vl_st (VL.setJ h_s) (fun s1 h_s1 => pc_some h_s1)) (fun _ => pc_none)) (fun _ => pc_none)
theorem vl_f_X8_putSign {x1 : Nat} {x2 : Int32} {x3 : Int32} {x4 : Int32} {s : t_S} (hl_x1 : ARv x1) (h_s : VL zl xl s) : t_pq (f_X8_putSign x1 x2 x3 x4 s) (fun y => VL zl xl y) := by
  unfold f_X8_putSign
  exact pc_if (fun _ => pc_if (fun _ => pc_if (fun _ => vl_st (VL.setJ h_s) (fun s1 h_s1 => (vl_k_X8_putSign_24 hl_x1 h_s1))) (fun _ => pc_none)) (fun _ => pc_none)) (fun _ => (vl_k_X8_putSign_24 hl_x1 h_s))
theorem vl_k_X6_poolText_18 {l1 : Int32} {l2 : Int32} {s : t_S} (h_s : VL zl xl s) : t_pq (k_X6_poolText_18 l1 l2 s) (fun z => Sum.elim (fun y => VL zl xl y.2.2) (fun y => VL zl xl y.2) z) := by
  unfold k_X6_poolText_18
  exact pc_if (fun _ => pc_mp (pc_some h_s)) (fun _ => pc_bd pc_any (fun r1 h_r1 => pc_bd (vl_f_X8_putSign (show ARv 337 by unfold ARv; decide) h_s) (fun r2 h_r2 => pc_some h_r2)))
theorem vl_b_X6_poolText_18 {x9 : Int32 × Int32 × t_S} (h : VL zl xl x9.2.2) : t_pq (b_X6_poolText_18 x9) (fun z => Sum.elim (fun y => VL zl xl y.2.2) (fun y => VL zl xl y.2) z) := vl_k_X6_poolText_18 h
theorem vl_f_X6_poolText {s : t_S} (h_s : VL zl xl s) : t_pq (f_X6_poolText s) (fun y => VL zl xl y.2) := by
  unfold f_X6_poolText
  exact pc_bd (vl_f_X0_poolText h_s) (fun r1 h_r1 => pc_lp (fun x h => vl_b_X6_poolText_18 h) h_r1)
theorem vl_k_X6_readBase_82 {rc : RT_X6_readBase} {l1 : Int32} {l2 : Int32} {s : t_S} (hrc : VLB_X6_readBase zl xl rc) (h_s : VL zl xl s) : t_pq (k_X6_readBase_82 rc l1 l2 s) (fun y => VL zl xl y) := by
  unfold k_X6_readBase_82
  exact pc_if (fun _ => pc_bd (vl_f_X6_emitWord h_s) (fun r1 h_r1 => (vl_k_X6_readBase_326 hrc h_r1))) (fun _ => pc_if (fun _ => pc_bd (vl_f_X0_poolCell h_s) (fun r3 h_r3 => pc_bd (vl_f_X0_emit h_r3) (fun r4 h_r4 => (vl_k_X6_readBase_326 hrc h_r4)))) (fun _ => pc_if (fun _ => pc_bd (vl_f_X6_poolText h_s) (fun r5 h_r5 => pc_bd (vl_f_X0_emit h_r5) (fun r6 h_r6 => (vl_k_X6_readBase_326 hrc h_r6)))) (fun _ => pc_if (fun _ => pc_bd (vl_f_X0_poolCell h_s) (fun r8 h_r8 => pc_bd (vl_f_X0_emit h_r8) (fun r9 h_r9 => (vl_k_X6_readBase_326 hrc h_r9)))) (fun _ => pc_if (fun _ => pc_bd (vl_f_X0_poolCell h_s) (fun r11 h_r11 => pc_bd (vl_f_X0_emit h_r11) (fun r12 h_r12 => (vl_k_X6_readBase_326 hrc h_r12)))) (fun _ => pc_if (fun _ => pc_bd (vl_f_X0_poolCell h_s) (fun r13 h_r13 => pc_bd (vl_f_X0_emit h_r13) (fun r14 h_r14 => (vl_k_X6_readBase_326 hrc h_r14)))) (fun _ => pc_if (fun _ => pc_bd (vl_f_X0_emit h_s) (fun r15 h_r15 => (vl_k_X6_readBase_326 hrc h_r15))) (fun _ => pc_if (fun _ => pc_bd (vl_f_X0_emit h_s) (fun r16 h_r16 => (vl_k_X6_readBase_326 hrc h_r16))) (fun _ => pc_if (fun _ => pc_bd (vl_f_X0_emit h_s) (fun r17 h_r17 => (vl_k_X6_readBase_326 hrc h_r17))) (fun _ => (vl_k_X6_readBase_326 hrc h_s))))))))))
theorem vl_k_X6_readBase_55 {rc : RT_X6_readBase} {l1 : Int32} {l2 : Int32} {k0 : Int32} {s : t_S} (hrc : VLB_X6_readBase zl xl rc) (h_s : VL zl xl s) : t_pq (k_X6_readBase_55 rc l1 l2 k0 s) (fun y => VL zl xl y) := by
  unfold k_X6_readBase_55
  exact pc_if (fun _ => (vl_k_X6_readBase_82 hrc h_s)) (fun _ => pc_if (fun _ => (vl_k_X6_readBase_82 hrc h_s)) (fun _ => pc_bd (vl_f_X3_late h_s) (fun r1 h_r1 => (vl_k_X6_readBase_82 hrc h_r1))))
theorem vl_k_X6_readBase_50 {rc : RT_X6_readBase} {l1 : Int32} {l2 : Int32} {s : t_S} (hrc : VLB_X6_readBase zl xl rc) (h_s : VL zl xl s) : t_pq (k_X6_readBase_50 rc l1 l2 s) (fun y => VL zl xl y) := by
  unfold k_X6_readBase_50
  exact (vl_k_X6_readBase_55 hrc h_s)
theorem vl_m_X6_readBase {rc : RT_X6_readBase} {x1 : Int32} {s : t_S} (hrc : VLB_X6_readBase zl xl rc) (h_s : VL zl xl s) : t_pq (m_X6_readBase rc x1 s) (fun y => VL zl xl y) := by
  unfold m_X6_readBase
  exact pc_if (fun _ => (vl_k_X6_readBase_50 hrc h_s)) (fun _ => pc_if (fun _ => (vl_k_X6_readBase_50 hrc h_s)) (fun _ => pc_if (fun _ => (vl_k_X6_readBase_50 hrc h_s)) (fun _ => pc_if (fun _ => (vl_k_X6_readBase_50 hrc h_s)) (fun _ => pc_if (fun _ => (vl_k_X6_readBase_50 hrc h_s)) (fun _ => pc_if (fun _ => (vl_k_X6_readBase_50 hrc h_s)) (fun _ => (vl_k_X6_readBase_55 hrc h_s)))))))
theorem vl_k_X6_readElements_23 {rc : RT_X6_readBase} {k0 : Int32} {s : t_S} (hrc : VLB_X6_readBase zl xl rc) (h_s : VL zl xl s) : t_pq (k_X6_readElements_23 rc k0 s) (fun y => VL zl xl y) := by
  unfold k_X6_readElements_23
  exact pc_bd (vl_f_X2_need h_s) (fun r1 h_r1 => pc_bd (vl_f_X0_emit h_r1) (fun r2 h_r2 => pc_some h_r2))
theorem vl_m_X6_readElements {rc : RT_X6_readBase} {x1 : Int32} {s : t_S} (hrc : VLB_X6_readBase zl xl rc) (h_s : VL zl xl s) : t_pq (m_X6_readElements rc x1 s) (fun y => VL zl xl y) := by
  unfold m_X6_readElements
  exact pc_if (fun _ => (vl_k_X6_readElements_23 hrc h_s)) (fun _ => pc_bd (hrc.2.2.2.2.1 _ _ h_s) (fun r1 h_r1 => (vl_k_X6_readElements_23 hrc h_r1)))
theorem vl_k_X6_lower_63 {l1 : Int32} {l2 : Int32} {s : t_S} (h_s : VL zl xl s) : t_pq (k_X6_lower_63 l1 l2 s) (fun z => Sum.elim (fun y => VL zl xl y.2.2) (fun y => VL zl xl y) z) := by
  unfold k_X6_lower_63
  exact pc_bd (vl_f_X0_emit h_s) (fun r1 h_r1 => pc_if (fun z1 => pc_if (fun z2 => vl_st (VL.set h_r1 ⟨by decide, by decide, fun y => absurd y.1 (by decide), fun y => absurd y.1 (by decide), fun y => absurd y.1 (by decide)⟩) (fun s1 h_s1 => pc_some h_s1)) (fun _ => pc_none)) (fun _ => pc_none))
theorem vl_k_X6_lower_29 {l1 : Int32} {l2 : Int32} {s : t_S} (h_s : VL zl xl s) : t_pq (k_X6_lower_29 l1 l2 s) (fun z => Sum.elim (fun y => VL zl xl y.2.2) (fun y => VL zl xl y) z) := by
  unfold k_X6_lower_29
  exact vl_st (VL.set h_s ⟨by decide, by decide, fun y => absurd y.1 (by decide), fun y => absurd y.1 (by decide), fun y => absurd y.2.1 (by decide)⟩) (fun s1 h_s1 => pc_if (fun z1 => pc_if (fun _ => (vl_k_X6_lower_63 h_s1)) (fun _ => pc_if (fun _ => (vl_k_X6_lower_63 h_s1)) (fun _ => pc_bd (vl_f_X0_emit h_s1) (fun r3 h_r3 => pc_some h_r3)))) (fun _ => pc_none))
theorem vl_k_X6_lower_0 {l1 : Int32} {l2 : Int32} {s : t_S} (h_s : VL zl xl s) : t_pq (k_X6_lower_0 l1 l2 s) (fun z => Sum.elim (fun y => VL zl xl y.2.2) (fun y => VL zl xl y) z) := by
  unfold k_X6_lower_0
  exact pc_if (fun _ => pc_mp (pc_some h_s)) (fun _ => pc_bd pc_any (fun r1 h_r1 => pc_if (fun _ => (vl_k_X6_lower_29 h_s)) (fun _ => pc_bd pc_any (fun r2 h_r2 => pc_if (fun _ => pc_if (fun _ => pc_mp (pc_some h_s)) (fun _ => (vl_k_X6_lower_29 h_s))) (fun _ => pc_mp (pc_some h_s))))))
theorem vl_b_X6_lower_0 {x9 : Int32 × Int32 × t_S} (h : VL zl xl x9.2.2) : t_pq (b_X6_lower_0 x9) (fun z => Sum.elim (fun y => VL zl xl y.2.2) (fun y => VL zl xl y) z) := vl_k_X6_lower_0 h
theorem vl_f_X6_lower {x1 : Int32} {x2 : Int32} {s : t_S} (h_s : VL zl xl s) : t_pq (f_X6_lower x1 x2 s) (fun y => VL zl xl y) := by
  unfold f_X6_lower
  exact pc_lp (fun x h => vl_b_X6_lower_0 h) h_s
theorem vl_k_X6_readExp_175 {rc : RT_X6_readBase} {l1 : Int32} {l2 : Int32} {l3 : Int32} {s : t_S} (hrc : VLB_X6_readBase zl xl rc) (h_s : VL zl xl s) : t_pq (k_X6_readExp_175 rc l1 l2 l3 s) (fun y => VL zl xl y.2) := by
  unfold k_X6_readExp_175
  exact pc_bd (vl_f_X6_lower h_s) (fun r1 h_r1 => pc_if (fun _ => pc_bd (vl_f_X0_emit h_r1) (fun r2 h_r2 => pc_some h_r2)) (fun _ => pc_some h_r1))
theorem vl_f_X6_pushWaiting {x1 : Int32} {x2 : Int32} {s : t_S} (h_s : VL zl xl s) : t_pq (f_X6_pushWaiting x1 x2 s) (fun y => VL zl xl y) := by
  unfold f_X6_pushWaiting
  exact pc_if (fun _ => pc_if (fun z1 => vl_st (VL.set h_s ⟨by decide, by decide, fun y => absurd y.1 (by decide), fun y => absurd y.1 (by decide), fun y => absurd y.2.1 (by decide)⟩) (fun s1 h_s1 => pc_if (fun z2 => vl_st (VL.set h_s1 ⟨by decide, by decide, fun y => absurd y.1 (by decide), fun y => absurd y.1 (by decide), fun y => absurd y.2.1 (by decide)⟩) (fun s2 h_s2 => vl_st (VL.set h_s2 ⟨by decide, by decide, fun y => absurd y.1 (by decide), fun y => absurd y.1 (by decide), fun y => absurd y.2.1 (by decide)⟩) (fun s3 h_s3 => pc_some h_s3))) (fun _ => pc_none))) (fun _ => pc_none)) (fun _ => pc_some h_s)
theorem vl_k_X6_pushOperator_36 {l1 : Int32} {l2 : Int32} {s : t_S} (h_s : VL zl xl s) : t_pq (k_X6_pushOperator_36 l1 l2 s) (fun y => VL zl xl y) := by
  unfold k_X6_pushOperator_36
  exact pc_bd (vl_f_X6_pushWaiting h_s) (fun r1 h_r1 => pc_some h_r1)
theorem vl_k_X6_pushOperator_19 {l1 : Int32} {l2 : Int32} {s : t_S} (h_s : VL zl xl s) : t_pq (k_X6_pushOperator_19 l1 l2 s) (fun y => VL zl xl y) := by
  unfold k_X6_pushOperator_19
  exact pc_if (fun _ => pc_bd (vl_f_X0_emit h_s) (fun r1 h_r1 => (vl_k_X6_pushOperator_36 h_r1))) (fun _ => (vl_k_X6_pushOperator_36 h_s))
theorem vl_f_X6_pushOperator {x1 : Int32} {s : t_S} (h_s : VL zl xl s) : t_pq (f_X6_pushOperator x1 s) (fun y => VL zl xl y) := by
  unfold f_X6_pushOperator
  exact pc_if (fun _ => pc_bd (vl_f_X0_emit h_s) (fun r1 h_r1 => (vl_k_X6_pushOperator_19 h_r1))) (fun _ => (vl_k_X6_pushOperator_19 h_s))
theorem vl_k_X6_readExp_125 {rc : RT_X6_readBase} {l1 : Int32} {l2 : Int32} {l3 : Int32} {l4 : Int32} {s : t_S} (hrc : VLB_X6_readBase zl xl rc) (h_s : VL zl xl s) : t_pq (k_X6_readExp_125 rc l1 l2 l3 l4 s) (fun z => Sum.elim (fun y => VL zl xl y.2.2.2.2) (fun y => VL zl xl y.2) z) := by
  unfold k_X6_readExp_125
  exact pc_bd (vl_f_X6_node h_s) (fun r1 h_r1 => pc_if (fun _ => pc_bd (vl_f_X6_pushOperator h_r1) (fun r2 h_r2 => pc_bd (vl_f_X2_advance h_r2) (fun r3 h_r3 => pc_bd (hrc.2.2.2.2.2.2.2.1 _ _ h_r3) (fun r4 h_r4 => pc_some h_r4)))) (fun _ => pc_mp ((vl_k_X6_readExp_175 hrc h_r1))))
theorem vl_k_X6_readExp_60 {rc : RT_X6_readBase} {l1 : Int32} {l2 : Int32} {l3 : Int32} {l4 : Int32} {s : t_S} (hrc : VLB_X6_readBase zl xl rc) (h_s : VL zl xl s) : t_pq (k_X6_readExp_60 rc l1 l2 l3 l4 s) (fun z => Sum.elim (fun y => VL zl xl y.2.2.2.2) (fun y => VL zl xl y.2) z) := by
  unfold k_X6_readExp_60
  exact pc_if (fun _ => pc_mp ((vl_k_X6_readExp_175 hrc h_s))) (fun _ => pc_if (fun _ => pc_mp ((vl_k_X6_readExp_175 hrc h_s))) (fun _ => pc_bd (vl_f_X6_lower h_s) (fun r2 h_r2 => pc_if (fun _ => pc_if (fun _ => (vl_k_X6_readExp_125 hrc h_r2)) (fun _ => pc_bd pc_any (fun r3 h_r3 => pc_if (fun _ => pc_bd (vl_f_X2_fail h_r2) (fun r4 h_r4 => (vl_k_X6_readExp_125 hrc h_r4))) (fun _ => (vl_k_X6_readExp_125 hrc h_r2))))) (fun _ => (vl_k_X6_readExp_125 hrc h_r2)))))
theorem vl_b_X6_readExp_60 {rc : RT_X6_readBase} {x9 : Int32 × Int32 × Int32 × Int32 × t_S} (hrc : VLB_X6_readBase zl xl rc) (h : VL zl xl x9.2.2.2.2) : t_pq (b_X6_readExp_60 rc x9) (fun z => Sum.elim (fun y => VL zl xl y.2.2.2.2) (fun y => VL zl xl y.2) z) := vl_k_X6_readExp_60 hrc h
theorem vl_k_X6_readExp_43 {rc : RT_X6_readBase} {l1 : Int32} {l2 : Int32} {s : t_S} (hrc : VLB_X6_readBase zl xl rc) (h_s : VL zl xl s) : t_pq (k_X6_readExp_43 rc l1 l2 s) (fun y => VL zl xl y.2) := by
  unfold k_X6_readExp_43
  exact pc_bd (hrc.2.2.2.2.2.2.2.1 _ _ h_s) (fun r1 h_r1 => pc_lp (fun x h => vl_b_X6_readExp_60 hrc h) h_r1)
theorem vl_k_X6_readExp_29 {rc : RT_X6_readBase} {l1 : Int32} {l2 : Int32} {s : t_S} (hrc : VLB_X6_readBase zl xl rc) (h_s : VL zl xl s) : t_pq (k_X6_readExp_29 rc l1 l2 s) (fun y => VL zl xl y.2) := by
  unfold k_X6_readExp_29
  exact pc_if (fun _ => (vl_k_X6_readExp_43 hrc h_s)) (fun _ => pc_bd (vl_f_X2_fail h_s) (fun r1 h_r1 => (vl_k_X6_readExp_43 hrc h_r1)))
theorem vl_m_X6_readExp {rc : RT_X6_readBase} {x1 : Int32} {s : t_S} (hrc : VLB_X6_readBase zl xl rc) (h_s : VL zl xl s) : t_pq (m_X6_readExp rc x1 s) (fun y => VL zl xl y.2) := by
  unfold m_X6_readExp
  exact pc_if (fun _ => pc_bd (vl_f_X2_fail h_s) (fun r2 h_r2 => (vl_k_X6_readExp_29 hrc h_r2))) (fun _ => (vl_k_X6_readExp_29 hrc h_s))
theorem vl_k_X6_readExpFields_190 {rc : RT_X6_readBase} {l2 : Int32} {l3 : Int32} {s : t_S} (hrc : VLB_X6_readBase zl xl rc) (h_s : VL zl xl s) : t_pq (k_X6_readExpFields_190 rc l2 l3 s) (fun z => Sum.elim (fun y => VL zl xl y.2.2) (fun y => VL zl xl y) z) := by
  unfold k_X6_readExpFields_190
  exact pc_if (fun _ => pc_mp (vl_st (VL.set h_s ⟨by decide, by decide, fun y => absurd y.1 (by decide), fun y => absurd y.1 (by decide), fun y => absurd y.2.1 (by decide)⟩) (fun s1 h_s1 => pc_some h_s1))) (fun _ => pc_if (fun z1 => pc_bd (vl_f_X0_emit h_s) (fun r2 h_r2 => pc_some h_r2)) (fun _ => pc_none))
theorem vl_b_X6_readExpFields_190 {rc : RT_X6_readBase} {x9 : Int32 × Int32 × t_S} (hrc : VLB_X6_readBase zl xl rc) (h : VL zl xl x9.2.2) : t_pq (b_X6_readExpFields_190 rc x9) (fun z => Sum.elim (fun y => VL zl xl y.2.2) (fun y => VL zl xl y) z) := vl_k_X6_readExpFields_190 hrc h
theorem vl_k_X6_readExpFields_163 {rc : RT_X6_readBase} {l2 : Int32} {s : t_S} (hrc : VLB_X6_readBase zl xl rc) (h_s : VL zl xl s) : t_pq (k_X6_readExpFields_163 rc l2 s) (fun y => VL zl xl y) := by
  unfold k_X6_readExpFields_163
  exact pc_bd (vl_f_X2_need h_s) (fun r1 h_r1 => pc_bd (vl_f_X0_emit h_r1) (fun r2 h_r2 => pc_lp (fun x h => vl_b_X6_readExpFields_190 hrc h) h_r2))
theorem vl_k_X6_takeFieldName_62 {l1 : Int32} {s : t_S} (h_s : VL zl xl s) : t_pq (k_X6_takeFieldName_62 l1 s) (fun y => VL zl xl y.2) := by
  unfold k_X6_takeFieldName_62
  exact pc_bd (vl_f_X2_advance h_s) (fun r1 h_r1 => pc_some h_r1)
theorem vl_k_X6_takeFieldName_19 {s : t_S} (h_s : VL zl xl s) : t_pq (k_X6_takeFieldName_19 s) (fun y => VL zl xl y.2) := by
  unfold k_X6_takeFieldName_19
  exact pc_if (fun _ => pc_if (fun _ => (vl_k_X6_takeFieldName_62 h_s)) (fun _ => pc_bd (vl_f_X3_late h_s) (fun r2 h_r2 => (vl_k_X6_takeFieldName_62 h_r2)))) (fun _ => pc_some h_s)
theorem vl_f_X6_takeFieldName {s : t_S} (h_s : VL zl xl s) : t_pq (f_X6_takeFieldName s) (fun y => VL zl xl y.2) := by
  unfold f_X6_takeFieldName
  exact pc_if (fun _ => (vl_k_X6_takeFieldName_19 h_s)) (fun _ => pc_bd (vl_f_X2_fail h_s) (fun r1 h_r1 => (vl_k_X6_takeFieldName_19 h_r1)))
theorem vl_k_X6_readExpFields_87 {rc : RT_X6_readBase} {l1 : Int32} {l2 : Int32} {l3 : Int32} {s : t_S} (hrc : VLB_X6_readBase zl xl rc) (h_s : VL zl xl s) : t_pq (k_X6_readExpFields_87 rc l1 l2 l3 s) (fun z => Sum.elim (fun y => VL zl xl y.2.2.2) (fun y => VL zl xl y) z) := by
  unfold k_X6_readExpFields_87
  exact pc_bd (vl_f_X6_node h_s) (fun r1 h_r1 => pc_if (fun _ => pc_bd (vl_f_X6_takeFieldName h_r1) (fun r2 h_r2 => pc_if (fun z1 => vl_st (VL.set h_r2 ⟨by decide, by decide, fun y => absurd y.1 (by decide), fun y => absurd y.1 (by decide), fun y => absurd y.2.1 (by decide)⟩) (fun s1 h_s1 => vl_st (VL.set h_s1 ⟨by decide, by decide, fun y => absurd y.1 (by decide), fun y => absurd y.1 (by decide), fun y => absurd y.2.1 (by decide)⟩) (fun s2 h_s2 => pc_bd (vl_f_X2_need h_s2) (fun r4 h_r4 => pc_bd (hrc.2.2.1 _ _ h_r4) (fun r5 h_r5 => pc_bd (vl_f_X2_take h_r5) (fun r6 h_r6 => pc_if (fun _ => pc_mp ((vl_k_X6_readExpFields_163 hrc h_r6))) (fun _ => pc_some h_r6))))))) (fun _ => pc_none))) (fun _ => pc_mp (pc_some h_r1)))
theorem vl_k_X6_readExpFields_19 {rc : RT_X6_readBase} {l1 : Int32} {l2 : Int32} {l3 : Int32} {s : t_S} (hrc : VLB_X6_readBase zl xl rc) (h_s : VL zl xl s) : t_pq (k_X6_readExpFields_19 rc l1 l2 l3 s) (fun z => Sum.elim (fun y => VL zl xl y.2.2.2) (fun y => VL zl xl y) z) := by
  unfold k_X6_readExpFields_19
  exact pc_if (fun _ => pc_mp ((vl_k_X6_readExpFields_163 hrc h_s))) (fun _ => pc_if (fun _ => pc_bd pc_any (fun r2 h_r2 => pc_if (fun _ => pc_if (fun _ => pc_bd (vl_f_X2_fail h_s) (fun r3 h_r3 => (vl_k_X6_readExpFields_87 hrc h_r3))) (fun _ => (vl_k_X6_readExpFields_87 hrc h_s))) (fun _ => pc_bd (vl_f_X2_fail h_s) (fun r4 h_r4 => (vl_k_X6_readExpFields_87 hrc h_r4))))) (fun _ => pc_bd (vl_f_X2_fail h_s) (fun r5 h_r5 => (vl_k_X6_readExpFields_87 hrc h_r5))))
theorem vl_b_X6_readExpFields_19 {rc : RT_X6_readBase} {x9 : Int32 × Int32 × Int32 × t_S} (hrc : VLB_X6_readBase zl xl rc) (h : VL zl xl x9.2.2.2) : t_pq (b_X6_readExpFields_19 rc x9) (fun z => Sum.elim (fun y => VL zl xl y.2.2.2) (fun y => VL zl xl y) z) := vl_k_X6_readExpFields_19 hrc h
theorem vl_m_X6_readExpFields {rc : RT_X6_readBase} {x1 : Int32} {s : t_S} (hrc : VLB_X6_readBase zl xl rc) (h_s : VL zl xl s) : t_pq (m_X6_readExpFields rc x1 s) (fun y => VL zl xl y) := by
  unfold m_X6_readExpFields
  exact pc_if (fun _ => (vl_k_X6_readExpFields_163 hrc h_s)) (fun _ => pc_lp (fun x h => vl_b_X6_readExpFields_19 hrc h) h_s)
theorem vl_k_X6_readExps_45 {rc : RT_X6_readBase} {l1 : Int32} {l2 : Int32} {s : t_S} (hrc : VLB_X6_readBase zl xl rc) (h_s : VL zl xl s) : t_pq (k_X6_readExps_45 rc l1 l2 s) (fun z => Sum.elim (fun y => VL zl xl y.2.2) (fun y => VL zl xl y.2) z) := by
  unfold k_X6_readExps_45
  exact pc_bd (hrc.2.2.1 _ _ h_s) (fun r1 h_r1 => pc_bd (vl_f_X2_take h_r1) (fun r2 h_r2 => pc_if (fun _ => pc_mp (pc_some h_r2)) (fun _ => pc_some h_r2)))
theorem vl_k_X6_readExps_2 {rc : RT_X6_readBase} {l1 : Int32} {l2 : Int32} {s : t_S} (hrc : VLB_X6_readBase zl xl rc) (h_s : VL zl xl s) : t_pq (k_X6_readExps_2 rc l1 l2 s) (fun z => Sum.elim (fun y => VL zl xl y.2.2) (fun y => VL zl xl y.2) z) := by
  unfold k_X6_readExps_2
  exact pc_if (fun _ => pc_mp (pc_some h_s)) (fun _ => pc_if (fun _ => pc_if (fun _ => pc_if (fun _ => (vl_k_X6_readExps_45 hrc h_s)) (fun _ => pc_bd (vl_f_X2_fail h_s) (fun r2 h_r2 => (vl_k_X6_readExps_45 hrc h_r2)))) (fun _ => (vl_k_X6_readExps_45 hrc h_s))) (fun _ => pc_mp (pc_some h_s)))
theorem vl_b_X6_readExps_2 {rc : RT_X6_readBase} {x9 : Int32 × Int32 × t_S} (hrc : VLB_X6_readBase zl xl rc) (h : VL zl xl x9.2.2) : t_pq (b_X6_readExps_2 rc x9) (fun z => Sum.elim (fun y => VL zl xl y.2.2) (fun y => VL zl xl y.2) z) := vl_k_X6_readExps_2 hrc h
theorem vl_m_X6_readExps {rc : RT_X6_readBase} {x1 : Int32} {s : t_S} (hrc : VLB_X6_readBase zl xl rc) (h_s : VL zl xl s) : t_pq (m_X6_readExps rc x1 s) (fun y => VL zl xl y.2) := by
  unfold m_X6_readExps
  exact pc_lp (fun x h => vl_b_X6_readExps_2 hrc h) h_s
theorem vl_k_X6_readInner_131 {rc : RT_X6_readBase} {s : t_S} (hrc : VLB_X6_readBase zl xl rc) (h_s : VL zl xl s) : t_pq (k_X6_readInner_131 rc s) (fun y => VL zl xl y) := by
  unfold k_X6_readInner_131
  exact pc_bd (vl_f_X2_need h_s) (fun r1 h_r1 => pc_some h_r1)
theorem vl_k_X6_readInner_106 {rc : RT_X6_readBase} {l1 : Int32} {l3 : Int32} {l4 : Int32} {l6 : Int32} {l7 : Int32} {s : t_S} (hrc : VLB_X6_readBase zl xl rc) (h_s : VL zl xl s) : t_pq (k_X6_readInner_106 rc l1 l3 l4 l6 l7 s) (fun z => Sum.elim (fun y => VL zl xl y.2.2.2.2.2) (fun y => VL zl xl y) z) := by
  unfold k_X6_readInner_106
  exact pc_bd (vl_f_X2_take h_s) (fun r1 h_r1 => pc_if (fun _ => pc_mp ((vl_k_X6_readInner_131 hrc h_r1))) (fun _ => pc_some h_r1))
theorem vl_k_X6_readInner_51 {rc : RT_X6_readBase} {l1 : Int32} {l3 : Int32} {l4 : Int32} {l5 : Int32} {l6 : Int32} {s : t_S} (hrc : VLB_X6_readBase zl xl rc) (h_s : VL zl xl s) : t_pq (k_X6_readInner_51 rc l1 l3 l4 l5 l6 s) (fun z => Sum.elim (fun y => VL zl xl y.2.2.2.2.2) (fun y => VL zl xl y) z) := by
  unfold k_X6_readInner_51
  exact pc_bd (hrc.2.2.2.2.2.2.2.2.2.2.2.2.2.1 _ _ _ h_s) (fun r1 h_r1 => pc_if (fun _ => pc_if (fun _ => pc_if (fun z1 => vl_st (VL.set h_r1 ⟨by decide, by decide, fun y => absurd y.1 (by decide), fun y => absurd y.1 (by decide), fun y => absurd y.1 (by decide)⟩) (fun s2 h_s2 => (vl_k_X6_readInner_106 hrc h_s2))) (fun _ => pc_none)) (fun _ => pc_if (fun z2 => vl_st (VL.set h_r1 ⟨by decide, by decide, fun y => absurd y.1 (by decide), fun y => absurd y.1 (by decide), fun y => absurd y.1 (by decide)⟩) (fun s1 h_s1 => (vl_k_X6_readInner_106 hrc h_s1))) (fun _ => pc_none))) (fun _ => pc_mp (pc_some h_r1)))
theorem vl_k_X6_readInner_16 {rc : RT_X6_readBase} {l1 : Int32} {l3 : Int32} {l4 : Int32} {l5 : Int32} {l6 : Int32} {s : t_S} (hrc : VLB_X6_readBase zl xl rc) (h_s : VL zl xl s) : t_pq (k_X6_readInner_16 rc l1 l3 l4 l5 l6 s) (fun z => Sum.elim (fun y => VL zl xl y.2.2.2.2.2) (fun y => VL zl xl y) z) := by
  unfold k_X6_readInner_16
  exact pc_if (fun _ => pc_mp ((vl_k_X6_readInner_131 hrc h_s))) (fun _ => pc_if (fun _ => pc_if (fun _ => (vl_k_X6_readInner_51 hrc h_s)) (fun _ => pc_bd (vl_f_X2_fail h_s) (fun r2 h_r2 => (vl_k_X6_readInner_51 hrc h_r2)))) (fun _ => (vl_k_X6_readInner_51 hrc h_s)))
theorem vl_b_X6_readInner_16 {rc : RT_X6_readBase} {x9 : Int32 × Int32 × Int32 × Int32 × Int32 × t_S} (hrc : VLB_X6_readBase zl xl rc) (h : VL zl xl x9.2.2.2.2.2) : t_pq (b_X6_readInner_16 rc x9) (fun z => Sum.elim (fun y => VL zl xl y.2.2.2.2.2) (fun y => VL zl xl y) z) := vl_k_X6_readInner_16 hrc h
theorem vl_m_X6_readInner {rc : RT_X6_readBase} {x1 : Int32} {x2 : Int32} {x3 : Int32} {x4 : Int32} {s : t_S} (hrc : VLB_X6_readBase zl xl rc) (h_s : VL zl xl s) : t_pq (m_X6_readInner rc x1 x2 x3 x4 s) (fun y => VL zl xl y) := by
  unfold m_X6_readInner
  exact pc_if (fun z1 => vl_st (VL.set h_s ⟨by decide, by decide, fun y => absurd y.1 (by decide), fun y => absurd y.1 (by decide), fun y => absurd y.1 (by decide)⟩) (fun s1 h_s1 => pc_lp (fun x h => vl_b_X6_readInner_16 hrc h) h_s1)) (fun _ => pc_none)
theorem vl_m_X6_readMet {rc : RT_X6_readBase} {x1 : Int32} {s : t_S} (hrc : VLB_X6_readBase zl xl rc) (h_s : VL zl xl s) : t_pq (m_X6_readMet rc x1 s) (fun y => VL zl xl y) := by
  unfold m_X6_readMet
  exact pc_bd (vl_f_X2_need h_s) (fun r1 h_r1 => pc_bd (hrc.2.2.1 _ _ h_r1) (fun r2 h_r2 => pc_bd (vl_f_X2_need h_r2) (fun r3 h_r3 => pc_bd (hrc.2.2.2.2.2.2.2.2.2.2.2.2.2.1 _ _ _ h_r3) (fun r4 h_r4 => pc_bd (vl_f_X0_emit h_r4) (fun r5 h_r5 => pc_bd (vl_f_X2_need h_r5) (fun r6 h_r6 => pc_some h_r6))))))
theorem vl_k_X6_readOne_313 {rc : RT_X6_readBase} {l2 : Int32} {s : t_S} (hrc : VLB_X6_readBase zl xl rc) (h_s : VL zl xl s) : t_pq (k_X6_readOne_313 rc l2 s) (fun z => Sum.elim (fun y => VL zl xl y.2) (fun y => VL zl xl y) z) := by
  unfold k_X6_readOne_313
  exact pc_if (fun _ => pc_mp (pc_some h_s)) (fun _ => vl_st (VL.set h_s ⟨by decide, by decide, fun y => absurd y.1 (by decide), fun y => absurd y.1 (by decide), fun y => absurd y.2.1 (by decide)⟩) (fun s1 h_s1 => pc_if (fun z1 => pc_if (fun z2 => pc_bd (vl_f_X0_emit h_s1) (fun r3 h_r3 => pc_some h_r3)) (fun _ => pc_none)) (fun _ => pc_none)))
theorem vl_b_X6_readOne_313 {rc : RT_X6_readBase} {x9 : Int32 × t_S} (hrc : VLB_X6_readBase zl xl rc) (h : VL zl xl x9.2) : t_pq (b_X6_readOne_313 rc x9) (fun z => Sum.elim (fun y => VL zl xl y.2) (fun y => VL zl xl y) z) := vl_k_X6_readOne_313 hrc h
theorem vl_k_X6_readOne_307 {rc : RT_X6_readBase} {l1 : Int32} {l2 : Int32} {l3 : Int32} {s : t_S} (hrc : VLB_X6_readBase zl xl rc) (h_s : VL zl xl s) : t_pq (k_X6_readOne_307 rc l1 l2 l3 s) (fun z => Sum.elim (fun y => VL zl xl y.2.2.2) (fun y => VL zl xl y) z) := by
  unfold k_X6_readOne_307
  exact pc_some h_s
theorem vl_k_X6_readOne_230 {rc : RT_X6_readBase} {l1 : Int32} {l2 : Int32} {l3 : Int32} {s : t_S} (hrc : VLB_X6_readBase zl xl rc) (h_s : VL zl xl s) : t_pq (k_X6_readOne_230 rc l1 l2 l3 s) (fun z => Sum.elim (fun y => VL zl xl y.2.2.2) (fun y => VL zl xl y) z) := by
  unfold k_X6_readOne_230
  exact pc_bd (vl_f_X6_node h_s) (fun r1 h_r1 => pc_bd (vl_f_X2_take h_r1) (fun r2 h_r2 => pc_if (fun _ => pc_bd (vl_f_X2_take h_r2) (fun r3 h_r3 => pc_if (fun _ => (vl_k_X6_readOne_307 hrc h_r3)) (fun _ => pc_bd (hrc.2.2.1 _ _ h_r3) (fun r4 h_r4 => pc_bd (vl_f_X2_need h_r4) (fun r5 h_r5 => pc_bd (vl_f_X0_emit h_r5) (fun r6 h_r6 => (vl_k_X6_readOne_307 hrc h_r6))))))) (fun _ => pc_bd (vl_f_X6_takeFieldName h_r2) (fun r7 h_r7 => pc_bd (vl_f_X0_emit h_r7) (fun r8 h_r8 => (vl_k_X6_readOne_307 hrc h_r8))))))
theorem vl_k_X6_readOne_186 {rc : RT_X6_readBase} {l1 : Int32} {l2 : Int32} {l3 : Int32} {s : t_S} (hrc : VLB_X6_readBase zl xl rc) (h_s : VL zl xl s) : t_pq (k_X6_readOne_186 rc l1 l2 l3 s) (fun z => Sum.elim (fun y => VL zl xl y.2.2.2) (fun y => VL zl xl y) z) := by
  unfold k_X6_readOne_186
  exact pc_if (fun _ => pc_mp (pc_lp (fun x h => vl_b_X6_readOne_313 hrc h) h_s)) (fun _ => pc_if (fun _ => pc_if (fun _ => (vl_k_X6_readOne_230 hrc h_s)) (fun _ => pc_if (fun _ => (vl_k_X6_readOne_230 hrc h_s)) (fun _ => pc_mp (pc_lp (fun x h => vl_b_X6_readOne_313 hrc h) h_s)))) (fun _ => pc_mp (pc_lp (fun x h => vl_b_X6_readOne_313 hrc h) h_s)))
theorem vl_b_X6_readOne_186 {rc : RT_X6_readBase} {x9 : Int32 × Int32 × Int32 × t_S} (hrc : VLB_X6_readBase zl xl rc) (h : VL zl xl x9.2.2.2) : t_pq (b_X6_readOne_186 rc x9) (fun z => Sum.elim (fun y => VL zl xl y.2.2.2) (fun y => VL zl xl y) z) := vl_k_X6_readOne_186 hrc h
theorem vl_k_X6_readOne_184 {rc : RT_X6_readBase} {l1 : Int32} {l2 : Int32} {s : t_S} (hrc : VLB_X6_readBase zl xl rc) (h_s : VL zl xl s) : t_pq (k_X6_readOne_184 rc l1 l2 s) (fun y => VL zl xl y) := by
  unfold k_X6_readOne_184
  exact pc_lp (fun x h => vl_b_X6_readOne_186 hrc h) h_s
theorem vl_k_X6_readOne_165 {rc : RT_X6_readBase} {l1 : Int32} {l2 : Int32} {s : t_S} (hrc : VLB_X6_readBase zl xl rc) (h_s : VL zl xl s) : t_pq (k_X6_readOne_165 rc l1 l2 s) (fun y => VL zl xl y) := by
  unfold k_X6_readOne_165
  exact pc_bd (vl_f_X6_node h_s) (fun r1 h_r1 => pc_if (fun _ => pc_bd (hrc.1 _ _ h_r1) (fun r2 h_r2 => (vl_k_X6_readOne_184 hrc h_r2))) (fun _ => (vl_k_X6_readOne_184 hrc h_r1)))
theorem vl_k_X6_readOne_144 {rc : RT_X6_readBase} {l1 : Int32} {l2 : Int32} {s : t_S} (hrc : VLB_X6_readBase zl xl rc) (h_s : VL zl xl s) : t_pq (k_X6_readOne_144 rc l1 l2 s) (fun y => VL zl xl y) := by
  unfold k_X6_readOne_144
  exact pc_if (fun _ => pc_bd (vl_f_X2_fail h_s) (fun r2 h_r2 => (vl_k_X6_readOne_165 hrc h_r2))) (fun _ => (vl_k_X6_readOne_165 hrc h_s))
theorem vl_k_X6_readOne_138 {rc : RT_X6_readBase} {l1 : Int32} {l2 : Int32} {l3 : Int32} {s : t_S} (hrc : VLB_X6_readBase zl xl rc) (h_s : VL zl xl s) : t_pq (k_X6_readOne_138 rc l1 l2 l3 s) (fun z => Sum.elim (fun y => VL zl xl y.2.2.2) (fun y => VL zl xl y) z) := by
  unfold k_X6_readOne_138
  exact pc_some h_s
theorem vl_k_X6_readOne_65 {rc : RT_X6_readBase} {l1 : Int32} {l2 : Int32} {l3 : Int32} {l4 : Int32} {s : t_S} (hrc : VLB_X6_readBase zl xl rc) (h_s : VL zl xl s) : t_pq (k_X6_readOne_65 rc l1 l2 l3 l4 s) (fun z => Sum.elim (fun y => VL zl xl y.2.2.2) (fun y => VL zl xl y) z) := by
  unfold k_X6_readOne_65
  exact pc_bd (vl_f_X6_node h_s) (fun r1 h_r1 => pc_bd (vl_f_X2_advance h_r1) (fun r2 h_r2 => pc_if (fun _ => pc_bd (vl_f_X6_pushWaiting h_r2) (fun r7 h_r7 => (vl_k_X6_readOne_138 hrc h_r7))) (fun _ => pc_if (fun _ => pc_bd (vl_f_X6_pushWaiting h_r2) (fun r6 h_r6 => (vl_k_X6_readOne_138 hrc h_r6))) (fun _ => pc_if (fun _ => pc_bd (vl_f_X6_pushWaiting h_r2) (fun r5 h_r5 => (vl_k_X6_readOne_138 hrc h_r5))) (fun _ => pc_bd (vl_f_X6_takeFieldName h_r2) (fun r3 h_r3 => pc_bd (vl_f_X6_pushWaiting h_r3) (fun r4 h_r4 => (vl_k_X6_readOne_138 hrc h_r4))))))))
theorem vl_k_X6_readOne_7 {rc : RT_X6_readBase} {l1 : Int32} {l2 : Int32} {l3 : Int32} {s : t_S} (hrc : VLB_X6_readBase zl xl rc) (h_s : VL zl xl s) : t_pq (k_X6_readOne_7 rc l1 l2 l3 s) (fun z => Sum.elim (fun y => VL zl xl y.2.2.2) (fun y => VL zl xl y) z) := by
  unfold k_X6_readOne_7
  exact pc_if (fun _ => pc_mp ((vl_k_X6_readOne_144 hrc h_s))) (fun _ => pc_if (fun _ => pc_if (fun _ => (vl_k_X6_readOne_65 hrc h_s)) (fun _ => pc_if (fun _ => (vl_k_X6_readOne_65 hrc h_s)) (fun _ => pc_if (fun _ => (vl_k_X6_readOne_65 hrc h_s)) (fun _ => pc_if (fun _ => (vl_k_X6_readOne_65 hrc h_s)) (fun _ => pc_mp ((vl_k_X6_readOne_144 hrc h_s))))))) (fun _ => pc_mp ((vl_k_X6_readOne_144 hrc h_s))))
theorem vl_b_X6_readOne_7 {rc : RT_X6_readBase} {x9 : Int32 × Int32 × Int32 × t_S} (hrc : VLB_X6_readBase zl xl rc) (h : VL zl xl x9.2.2.2) : t_pq (b_X6_readOne_7 rc x9) (fun z => Sum.elim (fun y => VL zl xl y.2.2.2) (fun y => VL zl xl y) z) := vl_k_X6_readOne_7 hrc h
theorem vl_m_X6_readOne {rc : RT_X6_readBase} {x1 : Int32} {s : t_S} (hrc : VLB_X6_readBase zl xl rc) (h_s : VL zl xl s) : t_pq (m_X6_readOne rc x1 s) (fun y => VL zl xl y) := by
  unfold m_X6_readOne
  exact pc_lp (fun x h => vl_b_X6_readOne_7 hrc h) h_s
theorem vl_f_X10_add {x1 : Int32} {s : t_S} (h_s : VL zl xl s) : t_pq (f_X10_add x1 s) (fun y => VL zl xl y.2) := by
  unfold f_X10_add
  exact pc_if (fun _ => vl_st (VL.set h_s ⟨by decide, by decide, fun y => absurd y.1 (by decide), fun y => absurd y.1 (by decide), fun y => absurd y.1 (by decide)⟩) (fun s1 h_s1 => pc_if (fun z1 => vl_st (VL.set h_s1 ⟨by decide, by decide, fun y => absurd y.1 (by decide), fun y => absurd y.1 (by decide), fun y => absurd y.1 (by decide)⟩) (fun s2 h_s2 => vl_st (VL.set h_s2 ⟨by decide, by decide, fun y => absurd y.1 (by decide), fun y => absurd y.1 (by decide), fun y => absurd y.1 (by decide)⟩) (fun s3 h_s3 => vl_st (VL.set h_s3 ⟨by decide, by decide, fun y => absurd y.1 (by decide), fun y => absurd y.1 (by decide), fun y => absurd y.1 (by decide)⟩) (fun s4 h_s4 => vl_st (VL.set h_s4 ⟨by decide, by decide, fun y => absurd y.1 (by decide), fun y => absurd y.1 (by decide), fun y => absurd y.1 (by decide)⟩) (fun s5 h_s5 => vl_st (VL.set h_s5 ⟨by decide, by decide, fun y => absurd y.1 (by decide), fun y => absurd y.1 (by decide), fun y => absurd y.1 (by decide)⟩) (fun s6 h_s6 => vl_st (VL.set h_s6 ⟨by decide, by decide, fun y => absurd y.1 (by decide), fun y => absurd y.1 (by decide), fun y => absurd y.1 (by decide)⟩) (fun s7 h_s7 => vl_st (VL.set h_s7 ⟨by decide, by decide, fun y => absurd y.1 (by decide), fun y => absurd y.1 (by decide), fun y => absurd y.1 (by decide)⟩) (fun s8 h_s8 => vl_st (VL.setJ h_s8) (fun s9 h_s9 => vl_st (VL.setJ h_s9) (fun s10 h_s10 => pc_some h_s10)))))))))) (fun _ => pc_none))) (fun _ => pc_some h_s)
theorem vl_m_X6_readPerm {rc : RT_X6_readBase} {x1 : Int32} {x2 : Int32} {s : t_S} (hrc : VLB_X6_readBase zl xl rc) (h_s : VL zl xl s) : t_pq (m_X6_readPerm rc x1 x2 s) (fun y => VL zl xl y.2) := by
  unfold m_X6_readPerm
  exact pc_bd (vl_f_X6_node h_s) (fun r1 h_r1 => pc_if (fun _ => pc_bd (vl_f_X10_add h_r1) (fun r2 h_r2 => pc_bd (vl_f_X2_advance h_r2) (fun r3 h_r3 => pc_bd (hrc.2.2.2.2.2.2.2.2.2.2.1 _ _ _ _ _ h_r3) (fun r4 h_r4 => pc_some h_r4)))) (fun _ => pc_some h_r1))
theorem vl_k_X6_readPieces_185 {rc : RT_X6_readBase} {s : t_S} (hrc : VLB_X6_readBase zl xl rc) (h_s : VL zl xl s) : t_pq (k_X6_readPieces_185 rc s) (fun y => VL zl xl y) := by
  unfold k_X6_readPieces_185
  exact pc_bd (vl_f_X2_need h_s) (fun r1 h_r1 => pc_some h_r1)
theorem vl_k_X6_readPieces_160 {rc : RT_X6_readBase} {l1 : Int32} {l2 : Int32} {l3 : Int32} {l5 : Int32} {l7 : Int32} {s : t_S} (hrc : VLB_X6_readBase zl xl rc) (h_s : VL zl xl s) : t_pq (k_X6_readPieces_160 rc l1 l2 l3 l5 l7 s) (fun z => Sum.elim (fun y => VL zl xl y.2.2.2.2.2) (fun y => VL zl xl y) z) := by
  unfold k_X6_readPieces_160
  exact pc_bd (vl_f_X2_take h_s) (fun r1 h_r1 => pc_if (fun _ => pc_mp ((vl_k_X6_readPieces_185 hrc h_r1))) (fun _ => pc_some h_r1))
theorem vl_k_X6_readPieces_116 {rc : RT_X6_readBase} {l1 : Int32} {l2 : Int32} {l3 : Int32} {l4 : Int32} {l5 : Int32} {k0 : Int32} {s : t_S} (hrc : VLB_X6_readBase zl xl rc) (h_s : VL zl xl s) : t_pq (k_X6_readPieces_116 rc l1 l2 l3 l4 l5 k0 s) (fun z => Sum.elim (fun y => VL zl xl y.2.2.2.2.2) (fun y => VL zl xl y) z) := by
  unfold k_X6_readPieces_116
  exact pc_if (fun _ => pc_if (fun _ => pc_if (fun z1 => vl_st (VL.set h_s ⟨by decide, by decide, fun y => absurd y.1 (by decide), fun y => absurd y.1 (by decide), fun y => absurd y.1 (by decide)⟩) (fun s2 h_s2 => (vl_k_X6_readPieces_160 hrc h_s2))) (fun _ => pc_none)) (fun _ => pc_if (fun z2 => vl_st (VL.set h_s ⟨by decide, by decide, fun y => absurd y.1 (by decide), fun y => absurd y.1 (by decide), fun y => absurd y.1 (by decide)⟩) (fun s1 h_s1 => (vl_k_X6_readPieces_160 hrc h_s1))) (fun _ => pc_none))) (fun _ => pc_mp (pc_some h_s))
theorem vl_k_X6_readPieces_90 {rc : RT_X6_readBase} {l1 : Int32} {l2 : Int32} {l3 : Int32} {l4 : Int32} {l5 : Int32} {l6 : Int32} {s : t_S} (hrc : VLB_X6_readBase zl xl rc) (h_s : VL zl xl s) : t_pq (k_X6_readPieces_90 rc l1 l2 l3 l4 l5 l6 s) (fun z => Sum.elim (fun y => VL zl xl y.2.2.2.2.2) (fun y => VL zl xl y) z) := by
  unfold k_X6_readPieces_90
  exact pc_if (fun _ => pc_bd (hrc.2.2.2.2.2.2.2.2.2.2.2.2.2.1 _ _ _ h_s) (fun r1 h_r1 => (vl_k_X6_readPieces_116 hrc h_r1))) (fun _ => pc_bd (hrc.2.2.2.2.2.2.2.2.1 _ _ _ h_s) (fun r2 h_r2 => (vl_k_X6_readPieces_116 hrc h_r2)))
theorem vl_k_X6_readPieces_82 {rc : RT_X6_readBase} {l1 : Int32} {l2 : Int32} {l3 : Int32} {l4 : Int32} {l5 : Int32} {l6 : Int32} {s : t_S} (hrc : VLB_X6_readBase zl xl rc) (h_s : VL zl xl s) : t_pq (k_X6_readPieces_82 rc l1 l2 l3 l4 l5 l6 s) (fun z => Sum.elim (fun y => VL zl xl y.2.2.2.2.2) (fun y => VL zl xl y) z) := by
  unfold k_X6_readPieces_82
  exact pc_bd (vl_f_X2_fail h_s) (fun r1 h_r1 => (vl_k_X6_readPieces_90 hrc h_r1))
theorem vl_k_X6_readPieces_55 {rc : RT_X6_readBase} {l1 : Int32} {l2 : Int32} {l3 : Int32} {l4 : Int32} {l5 : Int32} {k0 : Int32} {s : t_S} (hrc : VLB_X6_readBase zl xl rc) (h_s : VL zl xl s) : t_pq (k_X6_readPieces_55 rc l1 l2 l3 l4 l5 k0 s) (fun z => Sum.elim (fun y => VL zl xl y.2.2.2.2.2) (fun y => VL zl xl y) z) := by
  unfold k_X6_readPieces_55
  exact pc_if (fun _ => pc_if (fun _ => pc_if (fun _ => (vl_k_X6_readPieces_90 hrc h_s)) (fun _ => (vl_k_X6_readPieces_82 hrc h_s))) (fun _ => (vl_k_X6_readPieces_82 hrc h_s))) (fun _ => (vl_k_X6_readPieces_90 hrc h_s))
theorem vl_k_X6_readPieces_30 {rc : RT_X6_readBase} {l1 : Int32} {l2 : Int32} {l3 : Int32} {l4 : Int32} {l5 : Int32} {s : t_S} (hrc : VLB_X6_readBase zl xl rc) (h_s : VL zl xl s) : t_pq (k_X6_readPieces_30 rc l1 l2 l3 l4 l5 s) (fun z => Sum.elim (fun y => VL zl xl y.2.2.2.2.2) (fun y => VL zl xl y) z) := by
  unfold k_X6_readPieces_30
  exact pc_if (fun _ => pc_mp ((vl_k_X6_readPieces_185 hrc h_s))) (fun _ => pc_if (fun _ => (vl_k_X6_readPieces_55 hrc h_s)) (fun _ => (vl_k_X6_readPieces_55 hrc h_s)))
theorem vl_b_X6_readPieces_30 {rc : RT_X6_readBase} {x9 : Int32 × Int32 × Int32 × Int32 × Int32 × t_S} (hrc : VLB_X6_readBase zl xl rc) (h : VL zl xl x9.2.2.2.2.2) : t_pq (b_X6_readPieces_30 rc x9) (fun z => Sum.elim (fun y => VL zl xl y.2.2.2.2.2) (fun y => VL zl xl y) z) := vl_k_X6_readPieces_30 hrc h
theorem vl_m_X6_readPieces {rc : RT_X6_readBase} {x1 : Int32} {x2 : Int32} {x3 : Int32} {s : t_S} (hrc : VLB_X6_readBase zl xl rc) (h_s : VL zl xl s) : t_pq (m_X6_readPieces rc x1 x2 x3 s) (fun y => VL zl xl y) := by
  unfold m_X6_readPieces
  exact pc_if (fun z1 => vl_st (VL.set h_s ⟨by decide, by decide, fun y => absurd y.1 (by decide), fun y => absurd y.1 (by decide), fun y => absurd y.1 (by decide)⟩) (fun s1 h_s1 => pc_bd (vl_f_X2_take h_s1) (fun r2 h_r2 => pc_if (fun _ => pc_lp (fun x h => vl_b_X6_readPieces_30 hrc h) h_r2) (fun _ => pc_some h_r2)))) (fun _ => pc_none)
theorem vl_m_X6_readRow {rc : RT_X6_readBase} {x1 : Int32} {x2 : Int32} {x3 : Int32} {x4 : Int32} {s : t_S} (hrc : VLB_X6_readBase zl xl rc) (h_s : VL zl xl s) : t_pq (m_X6_readRow rc x1 x2 x3 x4 s) (fun y => VL zl xl y) := by
  unfold m_X6_readRow
  exact pc_bd (vl_f_X2_need h_s) (fun r1 h_r1 => pc_bd (hrc.2.2.2.2.2.1 _ _ _ _ _ h_r1) (fun r2 h_r2 => pc_some h_r2))
theorem vl_m_X6_readSame {rc : RT_X6_readBase} {x1 : Int32} {x2 : Int32} {s : t_S} (hrc : VLB_X6_readBase zl xl rc) (h_s : VL zl xl s) : t_pq (m_X6_readSame rc x1 x2 s) (fun y => VL zl xl y) := by
  unfold m_X6_readSame
  exact pc_if (fun z1 => vl_st (VL.set h_s ⟨by decide, by decide, fun y => absurd y.1 (by decide), fun y => absurd y.1 (by decide), fun y => absurd y.1 (by decide)⟩) (fun s1 h_s1 => pc_bd (vl_f_X2_need h_s1) (fun r2 h_r2 => pc_bd (hrc.2.2.1 _ _ h_r2) (fun r3 h_r3 => pc_bd (vl_f_X2_need h_r3) (fun r4 h_r4 => pc_bd (vl_f_X0_emit h_r4) (fun r5 h_r5 => pc_some h_r5)))))) (fun _ => pc_none)
theorem vl_k_X6_readTag_38 {rc : RT_X6_readBase} {l1 : Int32} {l2 : Int32} {l3 : Int32} {s : t_S} (hrc : VLB_X6_readBase zl xl rc) (h_s : VL zl xl s) : t_pq (k_X6_readTag_38 rc l1 l2 l3 s) (fun y => VL zl xl y) := by
  unfold k_X6_readTag_38
  exact pc_bd (vl_f_X2_need h_s) (fun r1 h_r1 => pc_bd (hrc.2.2.2.2.2.2.2.2.2.2.2.2.2.1 _ _ _ h_r1) (fun r2 h_r2 => pc_if (fun z1 => vl_st (VL.set h_r2 ⟨by decide, by decide, fun y => absurd y.1 (by decide), fun y => absurd y.1 (by decide), fun y => absurd y.1 (by decide)⟩) (fun s1 h_s1 => pc_some h_s1)) (fun _ => pc_none)))
theorem vl_m_X6_readTag {rc : RT_X6_readBase} {x1 : Int32} {x2 : Int32} {x3 : Int32} {s : t_S} (hrc : VLB_X6_readBase zl xl rc) (h_s : VL zl xl s) : t_pq (m_X6_readTag rc x1 x2 x3 s) (fun y => VL zl xl y) := by
  unfold m_X6_readTag
  exact pc_if (fun z1 => vl_st (VL.set h_s ⟨by decide, by decide, fun y => absurd y.1 (by decide), fun y => absurd y.1 (by decide), fun y => absurd y.1 (by decide)⟩) (fun s1 h_s1 => pc_if (fun _ => vl_st (VL.set h_s1 ⟨by decide, by decide, fun y => absurd y.1 (by decide), fun y => absurd y.1 (by decide), fun y => absurd y.1 (by decide)⟩) (fun s2 h_s2 => (vl_k_X6_readTag_38 hrc h_s2))) (fun _ => (vl_k_X6_readTag_38 hrc h_s1)))) (fun _ => pc_none)
theorem vl_k_X6_readTempl_95 {rc : RT_X6_readBase} {l3 : Int32} {s : t_S} (hrc : VLB_X6_readBase zl xl rc) (h_s : VL zl xl s) : t_pq (k_X6_readTempl_95 rc l3 s) (fun y => VL zl xl y.2) := by
  unfold k_X6_readTempl_95
  exact pc_bd (vl_f_X2_take h_s) (fun r1 h_r1 => pc_if (fun _ => pc_some h_r1) (fun _ => pc_if (fun z1 => vl_st (VL.set h_r1 ⟨by decide, by decide, fun y => absurd y.1 (by decide), fun y => absurd y.1 (by decide), fun y => absurd y.1 (by decide)⟩) (fun s1 h_s1 => pc_some h_s1)) (fun _ => pc_none)))
theorem vl_k_X6_readTempl_35 {rc : RT_X6_readBase} {l1 : Int32} {l2 : Int32} {s : t_S} (hrc : VLB_X6_readBase zl xl rc) (h_s : VL zl xl s) : t_pq (k_X6_readTempl_35 rc l1 l2 s) (fun y => VL zl xl y.2) := by
  unfold k_X6_readTempl_35
  exact pc_bd (vl_f_X6_node h_s) (fun r1 h_r1 => pc_if (fun _ => pc_bd (vl_f_X10_add h_r1) (fun r2 h_r2 => pc_bd (hrc.2.2.2.2.2.2.2.2.2.2.2.2.2.2.2 _ _ _ _ h_r2) (fun r3 h_r3 => pc_bd (vl_f_X2_take h_r3) (fun r4 h_r4 => pc_if (fun _ => (vl_k_X6_readTempl_95 hrc h_r4)) (fun _ => pc_bd (vl_f_X6_readSpan h_r4) (fun r5 h_r5 => pc_if (fun z1 => vl_st (VL.set h_r5 ⟨by decide, by decide, fun y => absurd y.1 (by decide), fun y => absurd y.1 (by decide), fun y => absurd y.1 (by decide)⟩) (fun s1 h_s1 => (vl_k_X6_readTempl_95 hrc h_s1))) (fun _ => pc_none))))))) (fun _ => pc_some h_r1))
theorem vl_k_X6_readTempl_21 {rc : RT_X6_readBase} {l1 : Int32} {l2 : Int32} {s : t_S} (hrc : VLB_X6_readBase zl xl rc) (h_s : VL zl xl s) : t_pq (k_X6_readTempl_21 rc l1 l2 s) (fun y => VL zl xl y.2) := by
  unfold k_X6_readTempl_21
  exact pc_if (fun _ => (vl_k_X6_readTempl_35 hrc h_s)) (fun _ => pc_bd (vl_f_X2_fail h_s) (fun r1 h_r1 => (vl_k_X6_readTempl_35 hrc h_r1)))
theorem vl_m_X6_readTempl {rc : RT_X6_readBase} {x1 : Int32} {x2 : Int32} {s : t_S} (hrc : VLB_X6_readBase zl xl rc) (h_s : VL zl xl s) : t_pq (m_X6_readTempl rc x1 x2 s) (fun y => VL zl xl y.2) := by
  unfold m_X6_readTempl
  exact pc_if (fun _ => pc_bd (vl_f_X2_fail h_s) (fun r2 h_r2 => (vl_k_X6_readTempl_21 hrc h_r2))) (fun _ => (vl_k_X6_readTempl_21 hrc h_s))
theorem vl_k_X6_readTemplFields_248 {rc : RT_X6_readBase} {s : t_S} (hrc : VLB_X6_readBase zl xl rc) (h_s : VL zl xl s) : t_pq (k_X6_readTemplFields_248 rc s) (fun y => VL zl xl y) := by
  unfold k_X6_readTemplFields_248
  exact pc_bd (vl_f_X2_need h_s) (fun r1 h_r1 => pc_some h_r1)
theorem vl_k_X6_readTemplFields_187 {rc : RT_X6_readBase} {l1 : Int32} {l2 : Int32} {l3 : Int32} {l5 : Int32} {l6 : Int32} {s : t_S} (hrc : VLB_X6_readBase zl xl rc) (h_s : VL zl xl s) : t_pq (k_X6_readTemplFields_187 rc l1 l2 l3 l5 l6 s) (fun z => Sum.elim (fun y => VL zl xl y.2.2.2.2.2) (fun y => VL zl xl y) z) := by
  unfold k_X6_readTemplFields_187
  exact pc_bd (vl_f_X2_advance h_s) (fun r1 h_r1 => pc_bd (vl_f_X2_need h_r1) (fun r2 h_r2 => pc_bd (hrc.2.2.2.2.2.2.2.2.2.2.2.2.2.1 _ _ _ h_r2) (fun r3 h_r3 => pc_if (fun z1 => vl_st (VL.set h_r3 ⟨by decide, by decide, fun y => absurd y.1 (by decide), fun y => absurd y.1 (by decide), fun y => absurd y.1 (by decide)⟩) (fun s1 h_s1 => pc_bd (vl_f_X2_take h_s1) (fun r5 h_r5 => pc_if (fun _ => pc_mp ((vl_k_X6_readTemplFields_248 hrc h_r5))) (fun _ => pc_some h_r5)))) (fun _ => pc_none))))
theorem vl_k_X6_readTemplFields_100 {rc : RT_X6_readBase} {l1 : Int32} {l2 : Int32} {l3 : Int32} {l4 : Int32} {l5 : Int32} {s : t_S} (hrc : VLB_X6_readBase zl xl rc) (h_s : VL zl xl s) : t_pq (k_X6_readTemplFields_100 rc l1 l2 l3 l4 l5 s) (fun z => Sum.elim (fun y => VL zl xl y.2.2.2.2.2) (fun y => VL zl xl y) z) := by
  unfold k_X6_readTemplFields_100
  exact pc_bd (vl_f_X6_node h_s) (fun r1 h_r1 => pc_if (fun _ => pc_bd (vl_f_X10_add h_r1) (fun r2 h_r2 => pc_if (fun z1 => vl_st (VL.set h_r2 ⟨by decide, by decide, fun y => absurd y.1 (by decide), fun y => absurd y.1 (by decide), fun y => absurd y.1 (by decide)⟩) (fun s1 h_s1 => vl_st (VL.set h_s1 ⟨by decide, by decide, fun y => absurd y.1 (by decide), fun y => absurd y.1 (by decide), fun y => absurd y.1 (by decide)⟩) (fun s2 h_s2 => pc_if (fun _ => pc_if (fun z2 => vl_st (VL.set h_s2 ⟨by decide, by decide, fun y => absurd y.1 (by decide), fun y => absurd y.1 (by decide), fun y => absurd y.1 (by decide)⟩) (fun s4 h_s4 => (vl_k_X6_readTemplFields_187 hrc h_s4))) (fun _ => pc_none)) (fun _ => pc_if (fun z3 => vl_st (VL.set h_s2 ⟨by decide, by decide, fun y => absurd y.1 (by decide), fun y => absurd y.1 (by decide), fun y => absurd y.1 (by decide)⟩) (fun s3 h_s3 => (vl_k_X6_readTemplFields_187 hrc h_s3))) (fun _ => pc_none))))) (fun _ => pc_none))) (fun _ => pc_mp (pc_some h_r1)))
theorem vl_k_X6_readTemplFields_30 {rc : RT_X6_readBase} {l1 : Int32} {l2 : Int32} {l3 : Int32} {l4 : Int32} {l5 : Int32} {s : t_S} (hrc : VLB_X6_readBase zl xl rc) (h_s : VL zl xl s) : t_pq (k_X6_readTemplFields_30 rc l1 l2 l3 l4 l5 s) (fun z => Sum.elim (fun y => VL zl xl y.2.2.2.2.2) (fun y => VL zl xl y) z) := by
  unfold k_X6_readTemplFields_30
  exact pc_if (fun _ => pc_mp ((vl_k_X6_readTemplFields_248 hrc h_s))) (fun _ => pc_if (fun _ => pc_bd pc_any (fun r2 h_r2 => pc_if (fun _ => pc_if (fun _ => pc_bd (vl_f_X2_fail h_s) (fun r3 h_r3 => (vl_k_X6_readTemplFields_100 hrc h_r3))) (fun _ => (vl_k_X6_readTemplFields_100 hrc h_s))) (fun _ => pc_bd (vl_f_X2_fail h_s) (fun r4 h_r4 => (vl_k_X6_readTemplFields_100 hrc h_r4))))) (fun _ => pc_bd (vl_f_X2_fail h_s) (fun r5 h_r5 => (vl_k_X6_readTemplFields_100 hrc h_r5))))
theorem vl_b_X6_readTemplFields_30 {rc : RT_X6_readBase} {x9 : Int32 × Int32 × Int32 × Int32 × Int32 × t_S} (hrc : VLB_X6_readBase zl xl rc) (h : VL zl xl x9.2.2.2.2.2) : t_pq (b_X6_readTemplFields_30 rc x9) (fun z => Sum.elim (fun y => VL zl xl y.2.2.2.2.2) (fun y => VL zl xl y) z) := vl_k_X6_readTemplFields_30 hrc h
theorem vl_m_X6_readTemplFields {rc : RT_X6_readBase} {x1 : Int32} {x2 : Int32} {x3 : Int32} {s : t_S} (hrc : VLB_X6_readBase zl xl rc) (h_s : VL zl xl s) : t_pq (m_X6_readTemplFields rc x1 x2 x3 s) (fun y => VL zl xl y) := by
  unfold m_X6_readTemplFields
  exact pc_if (fun z1 => vl_st (VL.set h_s ⟨by decide, by decide, fun y => absurd y.1 (by decide), fun y => absurd y.1 (by decide), fun y => absurd y.1 (by decide)⟩) (fun s1 h_s1 => pc_bd (vl_f_X2_take h_s1) (fun r2 h_r2 => pc_if (fun _ => pc_lp (fun x h => vl_b_X6_readTemplFields_30 hrc h) h_r2) (fun _ => pc_some h_r2)))) (fun _ => pc_none)
theorem vl_k_X6_readTone_163 {rc : RT_X6_readBase} {k0 : Int64} {k1 : Int32} {s : t_S} (hrc : VLB_X6_readBase zl xl rc) (h_s : VL zl xl s) : t_pq (k_X6_readTone_163 rc k0 k1 s) (fun y => VL zl xl y) := by
  unfold k_X6_readTone_163
  exact pc_if (fun z1 => vl_st (VL.setJ h_s) (fun s1 h_s1 => pc_some h_s1)) (fun _ => pc_none)
theorem vl_k_X10_setLiteral_26 {l1 : Int32} {l2 : Int32} {k0 : Int32} {k1 : Int32} {s : t_S} (h_s : VL zl xl s) : t_pq (k_X10_setLiteral_26 l1 l2 k0 k1 s) (fun y => VL zl xl y) := by
  unfold k_X10_setLiteral_26
  exact pc_if (fun z1 => vl_st (VL.set h_s ⟨by decide, by decide, fun y => absurd y.1 (by decide), fun y => absurd y.1 (by decide), fun y => absurd y.1 (by decide)⟩) (fun s1 h_s1 => pc_if (fun z2 => vl_st (VL.set h_s1 ⟨by decide, by decide, fun y => absurd y.1 (by decide), fun y => absurd y.1 (by decide), fun y => absurd y.1 (by decide)⟩) (fun s2 h_s2 => pc_some h_s2)) (fun _ => pc_none))) (fun _ => pc_none)
theorem vl_f_X10_setLiteral {x1 : Int32} {x2 : Int32} {s : t_S} (h_s : VL zl xl s) : t_pq (f_X10_setLiteral x1 x2 s) (fun y => VL zl xl y) := by
  unfold f_X10_setLiteral
  exact pc_if (fun z1 => pc_if (fun _ => (vl_k_X10_setLiteral_26 h_s)) (fun _ => (vl_k_X10_setLiteral_26 h_s))) (fun _ => pc_none)
theorem vl_k_X6_readTone_530 {rc : RT_X6_readBase} {l1 : Int32} {s : t_S} (hrc : VLB_X6_readBase zl xl rc) (h_s : VL zl xl s) : t_pq (k_X6_readTone_530 rc l1 s) (fun y => VL zl xl y) := by
  unfold k_X6_readTone_530
  exact pc_if (fun z1 => vl_st (VL.set h_s ⟨by decide, by decide, fun y => absurd y.1 (by decide), fun y => absurd y.1 (by decide), fun y => absurd y.1 (by decide)⟩) (fun s1 h_s1 => pc_bd (vl_f_X2_need h_s1) (fun r2 h_r2 => pc_some h_r2))) (fun _ => pc_none)
theorem vl_k_X6_readTone_310 {rc : RT_X6_readBase} {l1 : Int32} {l2 : Int32} {l3 : Int32} {l4 : Int32} {s : t_S} (hrc : VLB_X6_readBase zl xl rc) (h_s : VL zl xl s) : t_pq (k_X6_readTone_310 rc l1 l2 l3 l4 s) (fun y => VL zl xl y) := by
  unfold k_X6_readTone_310
  exact pc_bd (vl_f_X2_advance h_s) (fun r1 h_r1 => pc_if (fun _ => pc_bd (hrc.2.2.2.2.2.1 _ _ _ _ _ h_r1) (fun r2 h_r2 => pc_some h_r2)) (fun _ => pc_if (fun _ => pc_bd (hrc.2.2.2.2.2.2.2.2.2.2.2.1 _ _ _ h_r1) (fun r3 h_r3 => pc_some h_r3)) (fun _ => pc_if (fun _ => pc_bd (hrc.2.2.2.2.2.2.2.2.2.2.2.2.1 _ _ _ _ h_r1) (fun r4 h_r4 => pc_some h_r4)) (fun _ => pc_if (fun _ => pc_bd (hrc.2.2.2.2.2.2.2.2.2.1 _ _ _ _ h_r1) (fun r5 h_r5 => pc_some h_r5)) (fun _ => pc_if (fun _ => pc_bd (hrc.2.2.2.2.2.2.2.2.2.2.2.2.2.2.1 _ _ _ _ h_r1) (fun r6 h_r6 => pc_some h_r6)) (fun _ => pc_if (fun _ => pc_bd (hrc.2.2.2.2.2.2.2.2.2.2.1 _ _ _ _ _ h_r1) (fun r7 h_r7 => pc_some h_r7)) (fun _ => pc_if (fun _ => pc_bd (hrc.2.2.2.2.2.2.2.2.2.2.1 _ _ _ _ _ h_r1) (fun r8 h_r8 => pc_some h_r8)) (fun _ => pc_if (fun _ => pc_if (fun _ => pc_bd (vl_f_X6_poolText h_r1) (fun r9 h_r9 => pc_bd (vl_f_X10_setLiteral h_r9) (fun r10 h_r10 => (vl_k_X6_readTone_530 hrc h_r10)))) (fun _ => (vl_k_X6_readTone_530 hrc h_r1))) (fun _ => pc_if (fun _ => pc_bd (hrc.2.2.2.2.2.2.2.2.2.2.1 _ _ _ _ _ h_r1) (fun r11 h_r11 => pc_some h_r11)) (fun _ => pc_if (fun _ => pc_bd (hrc.2.2.2.2.2.2.2.2.2.2.1 _ _ _ _ _ h_r1) (fun r12 h_r12 => pc_some h_r12)) (fun _ => pc_some h_r1)))))))))))
theorem vl_m_X6_readTone {rc : RT_X6_readBase} {x1 : Int32} {x2 : Int32} {x3 : Int32} {s : t_S} (hrc : VLB_X6_readBase zl xl rc) (h_s : VL zl xl s) : t_pq (m_X6_readTone rc x1 x2 x3 s) (fun y => VL zl xl y) := by
  unfold m_X6_readTone
  exact pc_if (fun _ => pc_if (fun z1 => vl_st (VL.set h_s ⟨by decide, by decide, fun y => absurd y.1 (by decide), fun y => absurd y.1 (by decide), fun y => absurd y.1 (by decide)⟩) (fun s1 h_s1 => vl_st (VL.set h_s1 ⟨by decide, by decide, fun y => absurd y.1 (by decide), fun y => absurd y.1 (by decide), fun y => absurd y.1 (by decide)⟩) (fun s2 h_s2 => pc_bd (vl_f_X0_emit h_s2) (fun r3 h_r3 => pc_bd (vl_linko (by decide) h_r3) (fun r4 h_r4 => pc_some h_r4))))) (fun _ => pc_none)) (fun _ => pc_if (fun _ => pc_if (fun z2 => vl_st (VL.set h_s ⟨by decide, by decide, fun y => absurd y.1 (by decide), fun y => absurd y.1 (by decide), fun y => absurd y.1 (by decide)⟩) (fun s3 h_s3 => pc_bd (vl_f_X6_readNumber h_s3) (fun r6 h_r6 => vl_st (VL.setJ h_r6) (fun s4 h_s4 => pc_bd (vl_f_X2_take h_s4) (fun r7 h_r7 => pc_if (fun _ => (vl_k_X6_readTone_163 hrc h_r7)) (fun _ => pc_bd (vl_f_X6_readNumber h_r7) (fun r8 h_r8 => (vl_k_X6_readTone_163 hrc h_r8)))))))) (fun _ => pc_none)) (fun _ => pc_if (fun _ => pc_bd (vl_f_X6_poolText h_s) (fun r9 h_r9 => pc_bd (vl_f_X10_setLiteral h_r9) (fun r10 h_r10 => (vl_k_X6_readTone_310 hrc h_r10)))) (fun _ => pc_if (fun _ => pc_if (fun z3 => vl_st (VL.set h_s ⟨by decide, by decide, fun y => absurd y.1 (by decide), fun y => absurd y.1 (by decide), fun y => absurd y.1 (by decide)⟩) (fun s5 h_s5 => (vl_k_X6_readTone_310 hrc h_s5))) (fun _ => pc_none)) (fun _ => pc_if (fun _ => pc_if (fun z4 => vl_st (VL.set h_s ⟨by decide, by decide, fun y => absurd y.1 (by decide), fun y => absurd y.1 (by decide), fun y => absurd y.1 (by decide)⟩) (fun s6 h_s6 => pc_bd (vl_f_X6_readNumber h_s6) (fun r13 h_r13 => vl_st (VL.setJ h_r13) (fun s7 h_s7 => pc_bd (vl_f_X2_take h_s7) (fun r14 h_r14 => pc_if (fun _ => (vl_k_X6_readTone_163 hrc h_r14)) (fun _ => pc_bd (vl_f_X6_readNumber h_r14) (fun r15 h_r15 => (vl_k_X6_readTone_163 hrc h_r15)))))))) (fun _ => pc_none)) (fun _ => pc_if (fun _ => pc_if (fun z5 => vl_st (VL.set h_s ⟨by decide, by decide, fun y => absurd y.1 (by decide), fun y => absurd y.1 (by decide), fun y => absurd y.1 (by decide)⟩) (fun s8 h_s8 => (vl_k_X6_readTone_310 hrc h_s8))) (fun _ => pc_none)) (fun _ => pc_if (fun _ => pc_bd (vl_f_X0_poolCell h_s) (fun r18 h_r18 => pc_bd (vl_f_X10_setLiteral h_r18) (fun r19 h_r19 => (vl_k_X6_readTone_310 hrc h_r19)))) (fun _ => pc_if (fun _ => pc_bd (vl_f_X0_poolCell h_s) (fun r21 h_r21 => pc_bd (vl_f_X10_setLiteral h_r21) (fun r22 h_r22 => (vl_k_X6_readTone_310 hrc h_r22)))) (fun _ => pc_if (fun _ => pc_if (fun z6 => vl_st (VL.set h_s ⟨by decide, by decide, fun y => absurd y.1 (by decide), fun y => absurd y.1 (by decide), fun y => absurd y.1 (by decide)⟩) (fun s9 h_s9 => (vl_k_X6_readTone_310 hrc h_s9))) (fun _ => pc_none)) (fun _ => (vl_k_X6_readTone_310 hrc h_s))))))))))
theorem VLB_X6_readBase_R : ∀ n, VLB_X6_readBase zl xl (R_X6_readBase n) := by
  intro n
  induction n with
  | zero => exact ⟨fun _ _ _ => pc_none, fun _ _ _ => pc_none, fun _ _ _ => pc_none, fun _ _ _ => pc_none, fun _ _ _ => pc_none, fun _ _ _ _ _ _ => pc_none, fun _ _ _ => pc_none, fun _ _ _ => pc_none, fun _ _ _ _ => pc_none, fun _ _ _ _ _ => pc_none, fun _ _ _ _ _ _ => pc_none, fun _ _ _ _ => pc_none, fun _ _ _ _ _ => pc_none, fun _ _ _ _ => pc_none, fun _ _ _ _ _ => pc_none, fun _ _ _ _ _ => pc_none⟩
  | succ n ih => exact ⟨fun _ _ h => vl_m_X6_readBase ih h, fun _ _ h => vl_m_X6_readElements ih h, fun _ _ h => vl_m_X6_readExp ih h, fun _ _ h => vl_m_X6_readExpFields ih h, fun _ _ h => vl_m_X6_readExps ih h, fun _ _ _ _ _ h => vl_m_X6_readInner ih h, fun _ _ h => vl_m_X6_readMet ih h, fun _ _ h => vl_m_X6_readOne ih h, fun _ _ _ h => vl_m_X6_readPerm ih h, fun _ _ _ _ h => vl_m_X6_readPieces ih h, fun _ _ _ _ _ h => vl_m_X6_readRow ih h, fun _ _ _ h => vl_m_X6_readSame ih h, fun _ _ _ _ h => vl_m_X6_readTag ih h, fun _ _ _ h => vl_m_X6_readTempl ih h, fun _ _ _ _ h => vl_m_X6_readTemplFields ih h, fun _ _ _ _ h => vl_m_X6_readTone ih h⟩
theorem vl_f_X6_readTempl {x1 : Int32} {x2 : Int32} {s : t_S} (h_s : VL zl xl s) : t_pq (f_X6_readTempl x1 x2 s) (fun y => VL zl xl y.2) := by
  unfold f_X6_readTempl
  exact ((VLB_X6_readBase_R 250).2.2.2.2.2.2.2.2.2.2.2.2.2.1 _ _ _ h_s)
theorem vl_f_X6_readTemplateItem {s : t_S} (h_s : VL zl xl s) : t_pq (f_X6_readTemplateItem s) (fun y => VL zl xl y) := by
  unfold f_X6_readTemplateItem
  exact pc_bd (vl_f_X2_advance h_s) (fun r1 h_r1 => pc_bd (vl_f_X6_takeName h_r1) (fun r2 h_r2 => pc_if (fun _ => pc_some h_r2) (fun _ => pc_if (fun z1 => vl_st (VL.set h_r2 (vl_ar (vl_arr (a := 364) z1 (by decide)))) (fun s1 h_s1 => vl_st (VL.set h_s1 ⟨by decide, by decide, fun y => absurd y.1 (by decide), fun y => absurd y.1 (by decide), fun y => absurd y.1 (by decide)⟩) (fun s2 h_s2 => pc_bd (vl_f_X2_advance h_s2) (fun r4 h_r4 => pc_bd (vl_f_X2_need h_r4) (fun r5 h_r5 => vl_st (VL.set h_r5 ⟨by decide, by decide, fun y => absurd y.1 (by decide), fun y => absurd y.1 (by decide), fun y => absurd y.2.1 (by decide)⟩) (fun s3 h_s3 => vl_st (VL.set h_s3 (vl_ar (vl_arr (a := 364) z1 (by decide)))) (fun s4 h_s4 => vl_st (VL.set h_s4 (vl_ar (vl_arr (a := 364) z1 (by decide)))) (fun s5 h_s5 => pc_bd (vl_f_X6_readTempl h_s5) (fun r6 h_r6 => vl_st (VL.set h_r6 (vl_ar (vl_arr (a := 364) z1 (by decide)))) (fun s6 h_s6 => vl_st (VL.set h_s6 (vl_ar (vl_arr (a := 364) z1 (by decide)))) (fun s7 h_s7 => pc_bd (vl_f_X0_emit h_s7) (fun r7 h_r7 => vl_st (VL.set h_r7 ⟨by decide, by decide, fun y => absurd y.1 (by decide), fun y => absurd y.1 (by decide), fun y => absurd y.2.1 (by decide)⟩) (fun s8 h_s8 => pc_bd (vl_f_X2_need h_s8) (fun r8 h_r8 => pc_some h_r8)))))))))))))) (fun _ => pc_none))))
theorem vl_f_X5_addKind {x1 : Int32} {s : t_S} (h_s : VL zl xl s) : t_pq (f_X5_addKind x1 s) (fun y => VL zl xl y) := by
  unfold f_X5_addKind
  exact vl_st (VL.set h_s ⟨by decide, by decide, fun y => absurd y.1 (by decide), fun y => absurd y.2 (by decide), fun y => absurd y.1 (by decide)⟩) (fun s1 h_s1 => pc_if (fun z1 => vl_st (VL.set h_s1 ⟨by decide, by decide, fun y => absurd y.1 (by decide), fun y => absurd y.1 (by decide), fun y => absurd y.1 (by decide)⟩) (fun s2 h_s2 => vl_st (VL.set h_s2 ⟨by decide, by decide, fun y => absurd y.1 (by decide), fun y => absurd y.1 (by decide), fun y => absurd y.1 (by decide)⟩) (fun s3 h_s3 => vl_st (VL.set h_s3 ⟨by decide, by decide, fun y => absurd y.1 (by decide), fun y => absurd y.1 (by decide), fun y => absurd y.1 (by decide)⟩) (fun s4 h_s4 => pc_some h_s4)))) (fun _ => pc_none))
theorem vl_k_X6_readComponentItem_104 {s : t_S} (h_s : VL zl xl s) : t_pq (k_X6_readComponentItem_104 s) (fun y => VL zl xl y) := by
  unfold k_X6_readComponentItem_104
  exact pc_bd (vl_f_X2_need h_s) (fun r1 h_r1 => vl_st (VL.set h_r1 ⟨by decide, by decide, fun y => absurd y.1 (by decide), fun y => absurd y.1 (by decide), fun y => absurd y.2.1 (by decide)⟩) (fun s1 h_s1 => pc_some h_s1))
theorem vl_f_X6_readVarType {x1 : Int32} {x2 : Int32} {s : t_S} (hso : x1 ≠ 14) (h_s : VL zl xl s) : t_pq (f_X6_readVarType x1 x2 s) (fun y => VL zl xl y) := by
  unfold f_X6_readVarType
  exact pc_bd (vl_f_X2_take h_s) (fun r1 h_r1 => pc_if (fun _ => pc_some h_r1) (fun _ => pc_bd (vl_linko hso h_r1) (fun r2 h_r2 => pc_some h_r2)))
theorem vl_f_X6_readExp {x1 : Int32} {s : t_S} (h_s : VL zl xl s) : t_pq (f_X6_readExp x1 s) (fun y => VL zl xl y.2) := by
  unfold f_X6_readExp
  exact ((VLB_X6_readBase_R 250).2.2.1 _ _ h_s)
theorem vl_k_X6_readOwn_321 {l2 : Nat} {s : t_S} (hl_l2 : ARv l2) (h_s : VL zl xl s) : t_pq (k_X6_readOwn_321 l2 s) (fun y => VL zl xl y) := by
  unfold k_X6_readOwn_321
  exact pc_bd (vl_f_X2_need h_s) (fun r1 h_r1 => pc_if (fun _ => pc_if (fun _ => vl_st (VL.set h_r1 (vl_ar hl_l2)) (fun s1 h_s1 => pc_some h_s1)) (fun _ => pc_none)) (fun _ => pc_none))
theorem vl_k_X6_readOwn_227 {l1 : Int32} {l2 : Nat} {l3 : Int32} {l4 : Nat} {s : t_S} (hl_l2 : ARv l2) (hl_l4 : ARv l4) (h_s : VL zl xl s) : t_pq (k_X6_readOwn_227 l1 l2 l3 l4 s) (fun y => VL zl xl y) := by
  unfold k_X6_readOwn_227
  exact pc_if (fun _ => pc_if (fun _ => pc_if (fun _ => pc_if (fun _ => pc_if (fun _ => vl_st (VL.set h_s (vl_ar hl_l4)) (fun s1 h_s1 => pc_bd (vl_f_X2_advance h_s1) (fun r6 h_r6 => pc_if (fun _ => pc_if (fun z1 => vl_st (VL.set h_r6 ⟨by decide, by decide, fun y => absurd y.1 (by decide), fun y => absurd y.1 (by decide), fun y => absurd y.1 (by decide)⟩) (fun s2 h_s2 => pc_bd (vl_f_X6_readVarType (by decide) h_s2) (fun r8 h_r8 => pc_bd (vl_f_X2_need h_r8) (fun r9 h_r9 => pc_bd (vl_f_X6_readExp h_r9) (fun r10 h_r10 => vl_st (VL.set h_r10 ⟨by decide, by decide, fun y => absurd y.1 (by decide), fun y => absurd y.1 (by decide), fun y => absurd y.1 (by decide)⟩) (fun s3 h_s3 => (vl_k_X6_readOwn_321 hl_l2 h_s3))))))) (fun _ => pc_none)) (fun _ => (vl_k_X6_readOwn_321 hl_l2 h_r6))))) (fun _ => pc_none)) (fun _ => pc_none)) (fun _ => pc_none)) (fun _ => pc_none)) (fun _ => pc_some h_s)
theorem vl_k_X6_readOwn_153 {l1 : Int32} {l2 : Nat} {l3 : Int32} {k0 : Nat} {s : t_S} (hl_l2 : ARv l2) (hl_k0 : ARv k0) (h_s : VL zl xl s) : t_pq (k_X6_readOwn_153 l1 l2 l3 k0 s) (fun y => VL zl xl y) := by
  unfold k_X6_readOwn_153
  exact pc_if (fun _ => pc_bd pc_any (fun r2 h_r2 => pc_if (fun _ => pc_if (fun _ => pc_if (fun _ => pc_if (fun _ => (vl_k_X6_readOwn_227 hl_l2 hl_k0 h_s)) (fun _ => pc_bd (vl_f_X2_fail h_s) (fun r5 h_r5 => (vl_k_X6_readOwn_227 hl_l2 hl_k0 h_r5)))) (fun _ => pc_none)) (fun _ => pc_none)) (fun _ => pc_bd (vl_f_X2_fail h_s) (fun r6 h_r6 => (vl_k_X6_readOwn_227 hl_l2 hl_k0 h_r6))))) (fun _ => pc_bd (vl_f_X2_fail h_s) (fun r7 h_r7 => (vl_k_X6_readOwn_227 hl_l2 hl_k0 h_r7)))
theorem vl_k_X6_readOwn_111 {l1 : Int32} {l2 : Nat} {k0 : Int32} {s : t_S} (hl_l2 : ARv l2) (h_s : VL zl xl s) : t_pq (k_X6_readOwn_111 l1 l2 k0 s) (fun y => VL zl xl y) := by
  unfold k_X6_readOwn_111
  exact pc_if (fun _ => (vl_k_X6_readOwn_153 hl_l2 (show ARv 430 by unfold ARv; decide) h_s)) (fun _ => pc_if (fun _ => (vl_k_X6_readOwn_153 hl_l2 (show ARv 432 by unfold ARv; decide) h_s)) (fun _ => (vl_k_X6_readOwn_153 hl_l2 (show ARv 434 by unfold ARv; decide) h_s)))
theorem vl_k_X6_readOwn_85 {l1 : Int32} {k0 : Nat} {s : t_S} (hl_k0 : ARv k0) (h_s : VL zl xl s) : t_pq (k_X6_readOwn_85 l1 k0 s) (fun y => VL zl xl y) := by
  unfold k_X6_readOwn_85
  exact pc_if (fun _ => (vl_k_X6_readOwn_111 hl_k0 h_s)) (fun _ => pc_if (fun _ => (vl_k_X6_readOwn_111 hl_k0 h_s)) (fun _ => (vl_k_X6_readOwn_111 hl_k0 h_s)))
theorem vl_k_X6_readOwn_37 {l1 : Int32} {s : t_S} (h_s : VL zl xl s) : t_pq (k_X6_readOwn_37 l1 s) (fun y => VL zl xl y) := by
  unfold k_X6_readOwn_37
  exact pc_bd (vl_f_X2_advance h_s) (fun r1 h_r1 => pc_if (fun _ => (vl_k_X6_readOwn_85 (show ARv 429 by unfold ARv; decide) h_r1)) (fun _ => pc_if (fun _ => (vl_k_X6_readOwn_85 (show ARv 431 by unfold ARv; decide) h_r1)) (fun _ => (vl_k_X6_readOwn_85 (show ARv 433 by unfold ARv; decide) h_r1))))
theorem vl_f_X6_readOwn {s : t_S} (h_s : VL zl xl s) : t_pq (f_X6_readOwn s) (fun y => VL zl xl y) := by
  unfold f_X6_readOwn
  exact pc_if (fun _ => (vl_k_X6_readOwn_37 h_s)) (fun _ => pc_if (fun _ => (vl_k_X6_readOwn_37 h_s)) (fun _ => pc_if (fun _ => (vl_k_X6_readOwn_37 h_s)) (fun _ => pc_bd (vl_f_X2_fail h_s) (fun r1 h_r1 => (vl_k_X6_readOwn_37 h_r1)))))
theorem vl_k_X6_readComponentItem_65 {l1 : Int32} {s : t_S} (h_s : VL zl xl s) : t_pq (k_X6_readComponentItem_65 l1 s) (fun z => Sum.elim (fun y => VL zl xl y.2) (fun y => VL zl xl y) z) := by
  unfold k_X6_readComponentItem_65
  exact pc_if (fun _ => pc_mp ((vl_k_X6_readComponentItem_104 h_s))) (fun _ => pc_if (fun _ => pc_if (fun _ => pc_mp ((vl_k_X6_readComponentItem_104 h_s))) (fun _ => pc_bd (vl_f_X6_readOwn h_s) (fun r1 h_r1 => pc_some h_r1))) (fun _ => pc_mp ((vl_k_X6_readComponentItem_104 h_s))))
theorem vl_b_X6_readComponentItem_65 {x9 : Int32 × t_S} (h : VL zl xl x9.2) : t_pq (b_X6_readComponentItem_65 x9) (fun z => Sum.elim (fun y => VL zl xl y.2) (fun y => VL zl xl y) z) := vl_k_X6_readComponentItem_65 h
theorem vl_f_X6_readComponentItem {s : t_S} (h_s : VL zl xl s) : t_pq (f_X6_readComponentItem s) (fun y => VL zl xl y) := by
  unfold f_X6_readComponentItem
  exact pc_bd (vl_f_X2_advance h_s) (fun r1 h_r1 => pc_bd (vl_f_X6_takeName h_r1) (fun r2 h_r2 => pc_if (fun _ => pc_some h_r2) (fun _ => vl_st (VL.set h_r2 ⟨by decide, by decide, fun y => absurd y.1 (by decide), fun y => absurd y.1 (by decide), fun y => absurd y.2.1 (by decide)⟩) (fun s1 h_s1 => pc_bd (vl_f_X5_addKind h_s1) (fun r3 h_r3 => pc_bd (vl_f_X2_advance h_r3) (fun r4 h_r4 => pc_bd (vl_f_X2_need h_r4) (fun r5 h_r5 => pc_lp (fun x h => vl_b_X6_readComponentItem_65 h) h_r5)))))))
theorem vl_f_X5_addUnit {x1 : Int32} {x2 : Int32} {s : t_S} (h_s : VL zl xl s) : t_pq (f_X5_addUnit x1 x2 s) (fun y => VL zl xl y) := by
  unfold f_X5_addUnit
  exact vl_st (VL.set h_s ⟨by decide, by decide, fun y => absurd y.1 (by decide), fun y => absurd y.2 (by decide), fun y => absurd y.1 (by decide)⟩) (fun s1 h_s1 => pc_if (fun z1 => vl_st (VL.set h_s1 ⟨by decide, by decide, fun y => absurd y.1 (by decide), fun y => absurd y.1 (by decide), fun y => absurd y.1 (by decide)⟩) (fun s2 h_s2 => vl_st (VL.set h_s2 ⟨by decide, by decide, fun y => absurd y.1 (by decide), fun y => absurd y.1 (by decide), fun y => absurd y.1 (by decide)⟩) (fun s3 h_s3 => vl_st (VL.set h_s3 ⟨by decide, by decide, fun y => absurd y.1 (by decide), fun y => absurd y.1 (by decide), fun y => absurd y.1 (by decide)⟩) (fun s4 h_s4 => vl_st (VL.set h_s4 ⟨by decide, by decide, fun y => absurd y.1 (by decide), fun y => absurd y.1 (by decide), fun y => absurd y.1 (by decide)⟩) (fun s5 h_s5 => vl_st (VL.set h_s5 ⟨by decide, by decide, fun y => absurd y.1 (by decide), fun y => absurd y.1 (by decide), fun y => absurd y.1 (by decide)⟩) (fun s6 h_s6 => pc_some h_s6)))))) (fun _ => pc_none))
def VLB_X6_readAlts (zl xl : Nat) (rc : RT_X6_readAlts) : Prop := (∀ (x0 : Int32) (x1 : Int32) (s : t_S), VL zl xl s → t_pq (rc.1 x0 x1 s) (fun y => VL zl xl y.2)) ∧ (∀ (x0 : Int32) (x1 : Int32) (s : t_S), VL zl xl s → t_pq (rc.2.1 x0 x1 s) (fun y => VL zl xl y.2)) ∧ (∀ (x0 : Int32) (x1 : Int32) (x2 : Int32) (s : t_S), VL zl xl s → t_pq (rc.2.2.1 x0 x1 x2 s) (fun y => VL zl xl y.2)) ∧ (∀ (x0 : Int32) (x1 : Int32) (s : t_S), VL zl xl s → t_pq (rc.2.2.2.1 x0 x1 s) (fun y => VL zl xl y.2)) ∧ (∀ (x0 : Int32) (x1 : Int32) (s : t_S), VL zl xl s → t_pq (rc.2.2.2.2 x0 x1 s) (fun y => VL zl xl y.2))
theorem vl_m_X6_readAlts {rc : RT_X6_readAlts} {x1 : Int32} {x2 : Int32} {s : t_S} (hrc : VLB_X6_readAlts 2 0 rc) (h_s : VL 2 0 s) : t_pq (m_X6_readAlts rc x1 x2 s) (fun y => VL 2 0 y.2) := by
  unfold m_X6_readAlts
  exact pc_bd (hrc.2.2.1 _ _ _ _ h_s) (fun r1 h_r1 => pc_some h_r1)
theorem vl_m_X6_readBlock {rc : RT_X6_readAlts} {x1 : Int32} {x2 : Int32} {s : t_S} (hrc : VLB_X6_readAlts 2 0 rc) (h_s : VL 2 0 s) : t_pq (m_X6_readBlock rc x1 x2 s) (fun y => VL 2 0 y.2) := by
  unfold m_X6_readBlock
  exact pc_bd (hrc.2.2.1 _ _ _ _ h_s) (fun r1 h_r1 => pc_some h_r1)
theorem vl_k_X6_readBraces_142 {rc : RT_X6_readAlts} {l4 : Int32} {s : t_S} (hrc : VLB_X6_readAlts 2 0 rc) (h_s : VL 2 0 s) : t_pq (k_X6_readBraces_142 rc l4 s) (fun y => VL 2 0 y.2) := by
  unfold k_X6_readBraces_142
  exact pc_bd (vl_f_X2_need h_s) (fun r1 h_r1 => pc_some h_r1)
theorem vl_k_X6_readBraces_132 {rc : RT_X6_readAlts} {l1 : Int32} {l2 : Int32} {l3 : Int32} {l4 : Int32} {l6 : Int32} {l7 : Int32} {s : t_S} (hrc : VLB_X6_readAlts 2 0 rc) (h_s : VL 2 0 s) : t_pq (k_X6_readBraces_132 rc l1 l2 l3 l4 l6 l7 s) (fun z => Sum.elim (fun y => VL 2 0 y.2.2.2.2.2.2) (fun y => VL 2 0 y.2) z) := by
  unfold k_X6_readBraces_132
  exact pc_some h_s
theorem vl_k_X6_readBraces_99 {rc : RT_X6_readAlts} {l1 : Int32} {l2 : Int32} {l3 : Int32} {l4 : Int32} {l5 : Int32} {l6 : Int32} {k0 : Int32} {s : t_S} (hrc : VLB_X6_readAlts 2 0 rc) (h_s : VL 2 0 s) : t_pq (k_X6_readBraces_99 rc l1 l2 l3 l4 l5 l6 k0 s) (fun z => Sum.elim (fun y => VL 2 0 y.2.2.2.2.2.2) (fun y => VL 2 0 y.2) z) := by
  unfold k_X6_readBraces_99
  exact pc_if (fun _ => pc_if (fun _ => (vl_k_X6_readBraces_132 hrc h_s)) (fun _ => pc_if (fun z1 => vl_st (VL.set h_s (vl_rw (vl_row z1) (by decide))) (fun s1 h_s1 => (vl_k_X6_readBraces_132 hrc h_s1))) (fun _ => pc_none))) (fun _ => (vl_k_X6_readBraces_132 hrc h_s))
theorem vl_k_X6_readBraces_50 {rc : RT_X6_readAlts} {l1 : Int32} {l2 : Int32} {l3 : Int32} {l4 : Int32} {l5 : Int32} {l6 : Int32} {s : t_S} (hrc : VLB_X6_readAlts 2 0 rc) (h_s : VL 2 0 s) : t_pq (k_X6_readBraces_50 rc l1 l2 l3 l4 l5 l6 s) (fun z => Sum.elim (fun y => VL 2 0 y.2.2.2.2.2.2) (fun y => VL 2 0 y.2) z) := by
  unfold k_X6_readBraces_50
  exact pc_if (fun _ => pc_mp ((vl_k_X6_readBraces_142 hrc h_s))) (fun _ => pc_if (fun _ => pc_if (fun _ => pc_mp ((vl_k_X6_readBraces_142 hrc h_s))) (fun _ => pc_if (fun _ => pc_bd (hrc.2.2.2.2 _ _ _ h_s) (fun r1 h_r1 => (vl_k_X6_readBraces_99 hrc h_r1))) (fun _ => pc_bd (hrc.2.2.2.1 _ _ _ h_s) (fun r2 h_r2 => (vl_k_X6_readBraces_99 hrc h_r2))))) (fun _ => pc_mp ((vl_k_X6_readBraces_142 hrc h_s))))
theorem vl_b_X6_readBraces_50 {rc : RT_X6_readAlts} {x9 : Int32 × Int32 × Int32 × Int32 × Int32 × Int32 × t_S} (hrc : VLB_X6_readAlts 2 0 rc) (h : VL 2 0 x9.2.2.2.2.2.2) : t_pq (b_X6_readBraces_50 rc x9) (fun z => Sum.elim (fun y => VL 2 0 y.2.2.2.2.2.2) (fun y => VL 2 0 y.2) z) := vl_k_X6_readBraces_50 hrc h
theorem vl_k_X6_readBraces_34 {rc : RT_X6_readAlts} {l1 : Int32} {l2 : Int32} {l3 : Int32} {s : t_S} (hrc : VLB_X6_readAlts 2 0 rc) (h_s : VL 2 0 s) : t_pq (k_X6_readBraces_34 rc l1 l2 l3 s) (fun y => VL 2 0 y.2) := by
  unfold k_X6_readBraces_34
  exact pc_bd (vl_f_X2_advance h_s) (fun r1 h_r1 => pc_lp (fun x h => vl_b_X6_readBraces_50 hrc h) h_r1)
theorem vl_k_X6_readBraces_20 {rc : RT_X6_readAlts} {l1 : Int32} {l2 : Int32} {l3 : Int32} {s : t_S} (hrc : VLB_X6_readAlts 2 0 rc) (h_s : VL 2 0 s) : t_pq (k_X6_readBraces_20 rc l1 l2 l3 s) (fun y => VL 2 0 y.2) := by
  unfold k_X6_readBraces_20
  exact pc_if (fun _ => (vl_k_X6_readBraces_34 hrc h_s)) (fun _ => pc_bd (vl_f_X2_fail h_s) (fun r1 h_r1 => (vl_k_X6_readBraces_34 hrc h_r1)))
theorem vl_m_X6_readBraces {rc : RT_X6_readAlts} {x1 : Int32} {x2 : Int32} {x3 : Int32} {s : t_S} (hrc : VLB_X6_readAlts 2 0 rc) (h_s : VL 2 0 s) : t_pq (m_X6_readBraces rc x1 x2 x3 s) (fun y => VL 2 0 y.2) := by
  unfold m_X6_readBraces
  exact pc_if (fun _ => (vl_k_X6_readBraces_20 hrc h_s)) (fun _ => pc_bd (vl_f_X2_fail h_s) (fun r1 h_r1 => (vl_k_X6_readBraces_20 hrc h_r1)))
theorem vl_k_X6_takeVar_33 {l1 k0 : Int32} {s : t_S} (h : VL 0 (l1.toNatClampNeg) s) : t_pq (k_X6_takeVar_33 l1 k0 s) (fun y => VL 2 0 y) := by
  unfold k_X6_takeVar_33
  refine pc_if (fun c => ?_) (fun _ => pc_none)
  have q := t_ixI.mp c
  obtain ⟨n, hn, e⟩ : ∃ n : Nat, n < 400 ∧ l1 = nI n := ⟨l1.toInt.toNat, by omega, by
    rw [← Int32.toInt_inj, nI_toInt (by omega)]
    omega⟩
  subst e
  rw [nI_clamp (n := n) (by omega)] at h ⊢
  have g := VL.own (k := (7 : Int32).toNatClampNeg) (v := k0) h
  have e7 : (t_setI s (445 + 1 * n) ((7 : Int32).toNatClampNeg) k0).1 (445 + n) 7 = k0 := by
    rw [Nat.one_mul, show ((7 : Int32).toNatClampNeg) = 7 from rfl]
    simp only [l2_gI, and_self, reduceIte]
  refine pc_lt ?_
  generalize t_setI s (445 + 1 * n) ((7 : Int32).toNatClampNeg) k0 = w at *
  refine pc_if (fun y => ?_) (fun _ => pc_bd (vl_f_X2_advance g) (fun r3 h3 => pc_some h3.any))
  have y0 : k0.toInt < 0 := Int32.lt_iff_toInt_lt.mp y
  refine pc_bd (P := fun y => VL 2 0 y) (vl_lk g.any (fun _ _ _ => vl_add g (fun y => absurd y (by decide)) (fun _ => ⟨n, rfl, hn, (g.2 rfl).2.1, by rw [e7]; exact y0⟩)) (fun _ q => vl_f_X2_advance q) (fun _ q => vl_f_X2_fail q)) (fun r2 h2 => pc_some h2)
theorem vl_f_X6_takeVar {x1 : Int32} {s : t_S} (h_s : VL 0 (x1.toNatClampNeg) s) : t_pq (f_X6_takeVar x1 s) (fun y => VL 2 0 y) := by
  unfold f_X6_takeVar
  exact pc_if (fun _ => pc_bd pc_any (fun r2 h_r2 => (vl_k_X6_takeVar_33 h_s))) (fun _ => (vl_k_X6_takeVar_33 h_s))
theorem vl_f_X6_readInto {x1 : Int32} {s : t_S} (h_s : VL 0 (x1.toNatClampNeg) s) : t_pq (f_X6_readInto x1 s) (fun y => VL 2 0 y) := by
  unfold f_X6_readInto
  exact pc_bd (vl_f_X2_take h_s) (fun r1 h_r1 => pc_if (fun _ => pc_some (VL.any h_r1)) (fun _ => pc_bd (vl_f_X6_takeVar h_r1) (fun r2 h_r2 => pc_some (VL.any h_r2))))
theorem vl_k_X6_readEvent_133 {l1 : Int32} {s : t_S} (h_s : VL 0 (l1.toNatClampNeg) s) : t_pq (k_X6_readEvent_133 l1 s) (fun y => VL 2 0 y) := by
  unfold k_X6_readEvent_133
  exact pc_bd (vl_f_X6_readInto h_s) (fun r1 h_r1 => pc_some (VL.any h_r1))
theorem vl_k_X6_readEvent_62 {l1 : Int32} {l2 : Nat} {s : t_S} (hl_l2 : RWv l2) (h_s : VL 0 (l1.toNatClampNeg) s) : t_pq (k_X6_readEvent_62 l1 l2 s) (fun y => VL 2 0 y) := by
  unfold k_X6_readEvent_62
  exact pc_if (fun _ => pc_if (fun _ => pc_if (fun _ => pc_bd (vl_linko (by decide) h_s) (fun r3 h_r3 => pc_if (fun _ => vl_st (VL.set h_r3 (vl_rw hl_l2 (by decide))) (fun s1 h_s1 => pc_bd (vl_f_X6_readTempl h_s1) (fun r5 h_r5 => pc_if (fun _ => vl_st (VL.set h_r5 (vl_rw hl_l2 (by decide))) (fun s2 h_s2 => pc_bd (vl_f_X0_emit h_s2) (fun r7 h_r7 => pc_bd (vl_f_X2_take h_r7) (fun r8 h_r8 => pc_if (fun _ => (vl_k_X6_readEvent_133 h_r8)) (fun _ => pc_bd (vl_f_X6_readExp h_r8) (fun r9 h_r9 => pc_if (fun _ => vl_st (VL.set h_r9 (vl_rw hl_l2 (by decide))) (fun s3 h_s3 => (vl_k_X6_readEvent_133 h_s3))) (fun _ => pc_none))))))) (fun _ => pc_none)))) (fun _ => pc_none))) (fun _ => pc_some (VL.any h_s))) (fun _ => pc_none)) (fun _ => pc_none)
theorem vl_k_X6_readEvent_46 {l1 : Int32} {l2 : Nat} {s : t_S} (hl_l2 : RWv l2) (h_s : VL 0 (l1.toNatClampNeg) s) : t_pq (k_X6_readEvent_46 l1 l2 s) (fun y => VL 2 0 y) := by
  unfold k_X6_readEvent_46
  exact pc_if (fun _ => pc_if (fun _ => pc_if (fun _ => pc_bd (vl_f_X6_readExp h_s) (fun r3 h_r3 => pc_if (fun _ => vl_st (VL.set h_r3 (vl_rw hl_l2 (by decide))) (fun s1 h_s1 => (vl_k_X6_readEvent_62 hl_l2 h_s1))) (fun _ => pc_none))) (fun _ => (vl_k_X6_readEvent_62 hl_l2 h_s))) (fun _ => pc_none)) (fun _ => pc_none)
theorem vl_f_X6_readEvent {x1 : Int32} {s : t_S} (h_s : VL 0 (x1.toNatClampNeg) s) : t_pq (f_X6_readEvent x1 s) (fun y => VL 2 0 y) := by
  unfold f_X6_readEvent
  exact pc_if (fun z1 => vl_st (VL.set h_s (vl_rw (vl_row z1) (by decide))) (fun s1 h_s1 => pc_bd (vl_f_X2_advance h_s1) (fun r3 h_r3 => pc_if (fun _ => pc_bd (vl_linko (by decide) h_r3) (fun r4 h_r4 => (vl_k_X6_readEvent_46 (vl_row z1) h_r4))) (fun _ => (vl_k_X6_readEvent_46 (vl_row z1) h_r3))))) (fun _ => pc_none)
theorem vl_k_X6_readBranch_210 {rc : RT_X6_readAlts} {l1 : Int32} {l3 : Int32} {l4 : Nat} {s : t_S} (hrc : VLB_X6_readAlts 2 0 rc) (hl_l4 : RWv l4) (h_s : VL 0 (l3.toNatClampNeg) s) : t_pq (k_X6_readBranch_210 rc l1 l3 l4 s) (fun y => VL 2 0 y.2) := by
  unfold k_X6_readBranch_210
  exact pc_bd (vl_f_X6_readEvent h_s) (fun r1 h_r1 => pc_bd (hrc.2.1 _ _ _ (VL.any h_r1)) (fun r2 h_r2 => pc_if (fun _ => pc_if (fun _ => vl_st (VL.set h_r2 (vl_rw hl_l4 (by decide))) (fun s1 h_s1 => pc_some (VL.any h_s1))) (fun _ => pc_none)) (fun _ => pc_none)))
theorem vl_k_X6_readCall_87 {l1 : Int32} {l2 : Int32} {l3 : Int32} {l4 : Int32} {k0 : Int32} {s : t_S} (hso : l2 ≠ 14) (h_s : VL zl xl s) : t_pq (k_X6_readCall_87 l1 l2 l3 l4 k0 s) (fun y => VL zl xl y) := by
  unfold k_X6_readCall_87
  exact pc_bd (vl_f_X2_need h_s) (fun r1 h_r1 => pc_bd (vl_f_X0_emit h_r1) (fun r2 h_r2 => pc_bd (vl_addo hso h_r2) (fun r4 h_r4 => pc_some h_r4)))
theorem vl_f_X6_readExps {x1 : Int32} {s : t_S} (h_s : VL zl xl s) : t_pq (f_X6_readExps x1 s) (fun y => VL zl xl y.2) := by
  unfold f_X6_readExps
  exact ((VLB_X6_readBase_R 250).2.2.2.2.1 _ _ h_s)
theorem vl_k_X6_readCall_66 {l1 : Int32} {l2 : Int32} {l3 : Int32} {l4 : Int32} {s : t_S} (hso : l2 ≠ 14) (h_s : VL zl xl s) : t_pq (k_X6_readCall_66 l1 l2 l3 l4 s) (fun y => VL zl xl y) := by
  unfold k_X6_readCall_66
  exact pc_if (fun _ => (vl_k_X6_readCall_87 hso h_s)) (fun _ => pc_bd (vl_f_X6_readExps h_s) (fun r1 h_r1 => (vl_k_X6_readCall_87 hso h_r1)))
theorem vl_f_X6_readCall {x1 : Int32} {x2 : Int32} {s : t_S} (hso : x2 ≠ 14) (h_s : VL zl xl s) : t_pq (f_X6_readCall x1 x2 s) (fun y => VL zl xl y) := by
  unfold f_X6_readCall
  exact pc_bd (vl_f_X2_need h_s) (fun r2 h_r2 => pc_bd (vl_f_X2_need h_r2) (fun r3 h_r3 => pc_if (fun z1 => pc_if (fun _ => (vl_k_X6_readCall_66 hso h_r3)) (fun _ => vl_st (VL.set h_r3 (vl_rw (vl_row z1) (by decide))) (fun s1 h_s1 => (vl_k_X6_readCall_66 hso h_s1)))) (fun _ => pc_none)))
theorem vl_k_X6_readBranch_140 {rc : RT_X6_readAlts} {l1 : Int32} {l3 : Int32} {l4 : Nat} {s : t_S} (hrc : VLB_X6_readAlts 2 0 rc) (hl_l4 : RWv l4) (h_s : VL 0 (l3.toNatClampNeg) s) : t_pq (k_X6_readBranch_140 rc l1 l3 l4 s) (fun y => VL 2 0 y.2) := by
  unfold k_X6_readBranch_140
  exact pc_bd (vl_f_X2_need h_s) (fun r1 h_r1 => pc_bd (vl_f_X2_take h_r1) (fun r2 h_r2 => pc_if (fun _ => pc_if (fun _ => pc_bd (vl_f_X2_fail h_r2) (fun r5 h_r5 => (vl_k_X6_readBranch_210 hrc hl_l4 h_r5))) (fun _ => (vl_k_X6_readBranch_210 hrc hl_l4 h_r2))) (fun _ => pc_if (fun _ => pc_if (fun _ => vl_st (VL.set h_r2 (vl_rw hl_l4 (by decide))) (fun s1 h_s1 => pc_bd (vl_f_X6_readCall (by decide) h_s1) (fun r8 h_r8 => pc_bd (vl_f_X2_need h_r8) (fun r9 h_r9 => pc_some (VL.any h_r9))))) (fun _ => pc_none)) (fun _ => pc_none))))
theorem vl_k_X6_readBranch_41 {rc : RT_X6_readAlts} {l1 : Int32} {l2 : Int32} {s : t_S} (hrc : VLB_X6_readAlts 2 0 rc) (hq : s.1 1 11 = 0 → s.1 428 18 < 400) (h_s : VL 2 0 s) : t_pq (k_X6_readBranch_41 rc l1 l2 s) (fun y => VL 2 0 y.2) := by
  unfold k_X6_readBranch_41
  exact pc_if (fun z1 => pc_bd (vl_f_X5_addStep (hq z1) h_s) (fun r1 h_r1 => pc_if (fun z2 => pc_bd (vl_f_X2_advance h_r1) (fun r3 h_r3 => pc_bd (vl_f_X2_take h_r3) (fun r4 h_r4 => pc_if (fun _ => pc_if (fun _ => (vl_k_X6_readBranch_140 hrc (vl_row z2) h_r4)) (fun _ => pc_bd (vl_f_X6_readExp h_r4) (fun r5 h_r5 => vl_st (VL.set h_r5 (vl_rw (vl_row z2) (by decide))) (fun s1 h_s1 => (vl_k_X6_readBranch_140 hrc (vl_row z2) h_s1))))) (fun _ => pc_bd (vl_f_X2_need h_r4) (fun r6 h_r6 => pc_bd (hrc.2.1 _ _ _ (VL.any h_r6)) (fun r7 h_r7 => vl_st (VL.set h_r7 (vl_rw (vl_row z2) (by decide))) (fun s2 h_s2 => pc_some (VL.any h_s2)))))))) (fun _ => pc_none))) (fun _ => pc_some (VL.any h_s))
theorem vl_k_X6_readBranch_20 {rc : RT_X6_readAlts} {l1 : Int32} {l2 : Int32} {s : t_S} (hrc : VLB_X6_readAlts 2 0 rc) (h_s : VL 2 0 s) : t_pq (k_X6_readBranch_20 rc l1 l2 s) (fun y => VL 2 0 y.2) := by
  unfold k_X6_readBranch_20
  exact pc_if (fun z1 => (vl_k_X6_readBranch_41 hrc (fun _ => z1) h_s)) (fun _ => pc_bd (vl_fail5 h_s) (fun r1 h_r1 => (vl_k_X6_readBranch_41 hrc (fun y => absurd y h_r1.2) h_r1.1)))
theorem vl_m_X6_readBranch {rc : RT_X6_readAlts} {x1 : Int32} {x2 : Int32} {s : t_S} (hrc : VLB_X6_readAlts 2 0 rc) (h_s : VL 2 0 s) : t_pq (m_X6_readBranch rc x1 x2 s) (fun y => VL 2 0 y.2) := by
  unfold m_X6_readBranch
  exact pc_if (fun _ => (vl_k_X6_readBranch_20 hrc h_s)) (fun _ => pc_bd (vl_f_X2_fail h_s) (fun r1 h_r1 => (vl_k_X6_readBranch_20 hrc h_r1)))
theorem vl_k_X6_takePlace_100 {s : t_S} (h_s : VL zl xl s) : t_pq (k_X6_takePlace_100 s) (fun y => VL zl xl y.2) := by
  unfold k_X6_takePlace_100
  exact pc_if (fun _ => pc_if (fun z1 => pc_if (fun z2 => vl_st (VL.set h_s ⟨by decide, by decide, fun y => absurd y.1 (by decide), fun y => absurd y.1 (by decide), fun y => absurd y.1 (by decide)⟩) (fun s1 h_s1 => vl_st (VL.set h_s1 ⟨by decide, by decide, fun y => absurd y.1 (by decide), fun y => absurd y.1 (by decide), fun y => absurd y.1 (by decide)⟩) (fun s2 h_s2 => pc_bd (vl_f_X2_advance h_s2) (fun r4 h_r4 => pc_if (fun z3 => pc_some h_r4) (fun _ => pc_none))))) (fun _ => pc_none)) (fun _ => pc_none)) (fun _ => pc_some h_s)
theorem vl_k_X6_takePlace_64 {s : t_S} (h_s : VL zl xl s) : t_pq (k_X6_takePlace_64 s) (fun y => VL zl xl y.2) := by
  unfold k_X6_takePlace_64
  exact pc_bd (vl_f_X2_fail h_s) (fun r1 h_r1 => (vl_k_X6_takePlace_100 h_r1))
theorem vl_f_X6_takePlace {s : t_S} (h_s : VL zl xl s) : t_pq (f_X6_takePlace s) (fun y => VL zl xl y.2) := by
  unfold f_X6_takePlace
  exact pc_if (fun _ => pc_bd pc_any (fun r2 h_r2 => pc_if (fun _ => (vl_k_X6_takePlace_64 h_s)) (fun _ => pc_bd pc_any (fun r4 h_r4 => pc_if (fun _ => pc_if (fun z1 => pc_if (fun _ => (vl_k_X6_takePlace_100 h_s)) (fun _ => pc_bd (vl_f_X2_fail h_s) (fun r6 h_r6 => (vl_k_X6_takePlace_100 h_r6)))) (fun _ => pc_none)) (fun _ => (vl_k_X6_takePlace_64 h_s)))))) (fun _ => pc_bd (vl_f_X2_fail h_s) (fun r7 h_r7 => (vl_k_X6_takePlace_100 h_r7)))
theorem vl_f_X6_readVar {x1 : Int32} {s : t_S} (h_s : VL 0 (x1.toNatClampNeg) s) : t_pq (f_X6_readVar x1 s) (fun y => VL 2 0 y) := by
  unfold f_X6_readVar
  exact pc_if (fun z1 => pc_bd (vl_f_X6_takePlace h_s) (fun r2 h_r2 => pc_if (fun _ => pc_bd (vl_f_X6_readVarType (by decide) h_r2) (fun r3 h_r3 => pc_bd (vl_f_X2_need h_r3) (fun r4 h_r4 => pc_bd (vl_f_X6_readExp h_r4) (fun r5 h_r5 => vl_st (VL.set h_r5 (vl_rw (vl_row z1) (by decide))) (fun s1 h_s1 => vl_st (VL.own h_s1) (fun s2 h_s2 => pc_if (fun z2 => vl_st (VL.set h_s2 ⟨by decide, by decide, fun y => absurd y.1 (by decide), fun y => absurd y.1 (by decide), fun y => absurd y.1 (by decide)⟩) (fun s3 h_s3 => pc_some (VL.any h_s3))) (fun _ => pc_none))))))) (fun _ => pc_some (VL.any h_r2)))) (fun _ => pc_none)
theorem vl_k_X6_readPlain_197 {s : t_S} (h_s : VL zl xl s) : t_pq (k_X6_readPlain_197 s) (fun y => VL zl xl y) := by
  unfold k_X6_readPlain_197
  exact pc_bd (vl_f_X2_advance h_s) (fun r1 h_r1 => pc_some h_r1)
theorem vl_k_X6_readPlain_189 {s : t_S} (h_s : VL zl xl s) : t_pq (k_X6_readPlain_189 s) (fun y => VL zl xl y) := by
  unfold k_X6_readPlain_189
  exact pc_bd (vl_f_X2_fail h_s) (fun r1 h_r1 => (vl_k_X6_readPlain_197 h_r1))
theorem vl_f_X6_readPlain {x1 : Int32} {x2 : Int32} {s : t_S} (h_s : VL 0 (x1.toNatClampNeg) s) : t_pq (f_X6_readPlain x1 x2 s) (fun y => VL 2 0 y) := by
  unfold f_X6_readPlain
  exact pc_if (fun z1 => pc_if (fun _ => pc_some (VL.any h_s)) (fun _ => pc_if (fun _ => pc_bd (vl_f_X6_readVar h_s) (fun r2 h_r2 => pc_some (VL.any h_r2))) (fun _ => pc_if (fun _ => pc_some (VL.any h_s)) (fun _ => pc_if (fun _ => pc_some (VL.any h_s)) (fun _ => pc_if (fun _ => pc_some (VL.any h_s)) (fun _ => pc_if (fun _ => pc_if (fun _ => pc_some (VL.any h_s)) (fun _ => pc_bd (vl_f_X6_readExp h_s) (fun r3 h_r3 => vl_st (VL.set h_r3 (vl_rw (vl_row z1) (by decide))) (fun s1 h_s1 => pc_some (VL.any h_s1))))) (fun _ => pc_if (fun _ => pc_bd (vl_f_X6_readCall (by decide) h_s) (fun r4 h_r4 => pc_bd (vl_f_X6_readInto h_r4) (fun r5 h_r5 => pc_some (VL.any h_r5)))) (fun _ => pc_if (fun _ => vl_st (VL.set h_s (vl_rw (vl_row z1) (by decide))) (fun s2 h_s2 => pc_if (fun _ => (vl_any (vl_k_X6_readPlain_189 h_s2))) (fun _ => pc_if (fun _ => (vl_any (vl_k_X6_readPlain_197 h_s2))) (fun _ => (vl_any (vl_k_X6_readPlain_189 h_s2)))))) (fun _ => pc_if (fun _ => pc_bd (vl_f_X6_readExp h_s) (fun r6 h_r6 => vl_st (VL.set h_r6 (vl_rw (vl_row z1) (by decide))) (fun s3 h_s3 => pc_some (VL.any h_s3)))) (fun _ => pc_if (fun _ => pc_bd (vl_linko (by decide) h_s) (fun r7 h_r7 => pc_bd (vl_f_X6_readExp h_r7) (fun r8 h_r8 => vl_st (VL.set h_r8 (vl_rw (vl_row z1) (by decide))) (fun s4 h_s4 => pc_some (VL.any h_s4))))) (fun _ => pc_if (fun _ => pc_some (VL.any h_s)) (fun _ => pc_if (fun _ => pc_some (VL.any h_s)) (fun _ => pc_if (fun _ => pc_some (VL.any h_s)) (fun _ => pc_if (fun _ => pc_some (VL.any h_s)) (fun _ => pc_if (fun _ => pc_bd (vl_linko (by decide) h_s) (fun r9 h_r9 => pc_bd (vl_f_X6_readExp h_r9) (fun r10 h_r10 => vl_st (VL.set h_r10 (vl_rw (vl_row z1) (by decide))) (fun s5 h_s5 => pc_some (VL.any h_s5))))) (fun _ => pc_if (fun _ => pc_bd (vl_linko (by decide) h_s) (fun r11 h_r11 => pc_some (VL.any h_r11))) (fun _ => pc_if (fun _ => pc_some (VL.any h_s)) (fun _ => pc_if (fun _ => pc_some (VL.any h_s)) (fun _ => pc_if (fun _ => pc_some (VL.any h_s)) (fun _ => pc_if (fun _ => pc_some (VL.any h_s)) (fun _ => pc_bd (vl_f_X6_readExp h_s) (fun r12 h_r12 => vl_st (VL.set h_r12 (vl_rw (vl_row z1) (by decide))) (fun s6 h_s6 => pc_some (VL.any h_s6)))))))))))))))))))))))) (fun _ => pc_none)
theorem vl_k_X6_readStatement_315 {rc : RT_X6_readAlts} {l4 : Int32} {s : t_S} (hrc : VLB_X6_readAlts 2 0 rc) (h_s : VL 2 0 s) : t_pq (k_X6_readStatement_315 rc l4 s) (fun y => VL 2 0 y.2) := by
  unfold k_X6_readStatement_315
  exact pc_bd (vl_f_X2_need h_s) (fun r1 h_r1 => pc_some h_r1)
theorem vl_k_X6_readAssignment_152 {l2 : Nat} {s : t_S} (hl_l2 : RWv l2) (h_s : VL zl xl s) : t_pq (k_X6_readAssignment_152 l2 s) (fun y => VL zl xl y) := by
  unfold k_X6_readAssignment_152
  exact pc_bd (vl_f_X2_need h_s) (fun r1 h_r1 => pc_if (fun _ => pc_if (fun _ => vl_st (VL.set h_r1 (vl_rw hl_l2 (by decide))) (fun s1 h_s1 => pc_bd (vl_f_X6_readExp h_s1) (fun r4 h_r4 => pc_bd (vl_f_X0_emit h_r4) (fun r5 h_r5 => pc_bd (vl_f_X2_need h_r5) (fun r6 h_r6 => pc_some h_r6))))) (fun _ => pc_none)) (fun _ => pc_none))
theorem vl_k_X6_readAssignment_146 {l2 : Nat} {l3 : Int32} {s : t_S} (hl_l2 : RWv l2) (h_s : VL zl xl s) : t_pq (k_X6_readAssignment_146 l2 l3 s) (fun z => Sum.elim (fun y => (RWv y.1 ∧ VL zl xl y.2.2)) (fun y => VL zl xl y) z) := by
  unfold k_X6_readAssignment_146
  exact pc_some ⟨hl_l2, h_s⟩
theorem vl_k_X6_readAssignment_71 {l2 : Nat} {l3 : Int32} {s : t_S} (hl_l2 : RWv l2) (h_s : VL zl xl s) : t_pq (k_X6_readAssignment_71 l2 l3 s) (fun z => Sum.elim (fun y => (RWv y.1 ∧ VL zl xl y.2.2)) (fun y => VL zl xl y) z) := by
  unfold k_X6_readAssignment_71
  exact pc_bd (vl_f_X6_node h_s) (fun r1 h_r1 => pc_bd (vl_f_X2_take h_r1) (fun r2 h_r2 => pc_if (fun _ => pc_bd (vl_f_X2_take h_r2) (fun r3 h_r3 => pc_if (fun _ => (vl_k_X6_readAssignment_146 hl_l2 h_r3)) (fun _ => pc_bd (vl_f_X6_readExp h_r3) (fun r4 h_r4 => pc_bd (vl_f_X2_need h_r4) (fun r5 h_r5 => pc_bd (vl_f_X0_emit h_r5) (fun r6 h_r6 => (vl_k_X6_readAssignment_146 hl_l2 h_r6))))))) (fun _ => pc_bd (vl_f_X6_takeFieldName h_r2) (fun r7 h_r7 => pc_bd (vl_f_X0_emit h_r7) (fun r8 h_r8 => (vl_k_X6_readAssignment_146 hl_l2 h_r8))))))
theorem vl_k_X6_readAssignment_27 {l2 : Nat} {l3 : Int32} {s : t_S} (hl_l2 : RWv l2) (h_s : VL zl xl s) : t_pq (k_X6_readAssignment_27 l2 l3 s) (fun z => Sum.elim (fun y => (RWv y.1 ∧ VL zl xl y.2.2)) (fun y => VL zl xl y) z) := by
  unfold k_X6_readAssignment_27
  exact pc_if (fun _ => pc_mp ((vl_k_X6_readAssignment_152 hl_l2 h_s))) (fun _ => pc_if (fun _ => pc_if (fun _ => (vl_k_X6_readAssignment_71 hl_l2 h_s)) (fun _ => pc_if (fun _ => (vl_k_X6_readAssignment_71 hl_l2 h_s)) (fun _ => pc_mp ((vl_k_X6_readAssignment_152 hl_l2 h_s))))) (fun _ => pc_mp ((vl_k_X6_readAssignment_152 hl_l2 h_s))))
theorem vl_b_X6_readAssignment_27 {x9 : Nat × Int32 × t_S} (h : (RWv x9.1 ∧ VL zl xl x9.2.2)) : t_pq (b_X6_readAssignment_27 x9) (fun z => Sum.elim (fun y => (RWv y.1 ∧ VL zl xl y.2.2)) (fun y => VL zl xl y) z) := vl_k_X6_readAssignment_27 h.1 h.2
theorem vl_f_X6_readAssignment {x1 : Int32} {s : t_S} (h_s : VL 0 (x1.toNatClampNeg) s) : t_pq (f_X6_readAssignment x1 s) (fun y => VL 2 0 y) := by
  unfold f_X6_readAssignment
  exact pc_if (fun z1 => pc_bd (vl_f_X6_takeVar h_s) (fun r2 h_r2 => vl_st (VL.set h_r2 (vl_rw (vl_row z1) (by decide))) (fun s1 h_s1 => pc_lp (fun x h => vl_b_X6_readAssignment_27 h) ⟨(vl_row z1), VL.any h_s1⟩))) (fun _ => pc_none)
theorem vl_k_X6_readOfComponents_64 {l1 : Int32} {s : t_S} (h_s : VL 0 (l1.toNatClampNeg) s) : t_pq (k_X6_readOfComponents_64 l1 s) (fun y => VL 2 0 y) := by
  unfold k_X6_readOfComponents_64
  exact pc_bd (vl_f_X6_readInto h_s) (fun r1 h_r1 => pc_some (VL.any h_r1))
theorem vl_f_X6_takePort {x1 : Int32} {s : t_S} (h_s : VL zl xl s) : t_pq (f_X6_takePort x1 s) (fun y => VL zl xl y.2) := by
  unfold f_X6_takePort
  exact pc_bd (vl_linko (by decide) h_s) (fun r2 h_r2 => pc_some h_r2)
theorem vl_f_X6_readOfComponents {x1 : Int32} {x2 : Int32} {s : t_S} (h_s : VL 0 (x1.toNatClampNeg) s) : t_pq (f_X6_readOfComponents x1 x2 s) (fun y => VL 2 0 y) := by
  unfold f_X6_readOfComponents
  exact pc_if (fun z1 => pc_if (fun _ => pc_bd (vl_f_X6_readCall (by decide) h_s) (fun r2 h_r2 => pc_some (VL.any h_r2))) (fun _ => pc_if (fun _ => pc_bd (vl_linko (by decide) h_s) (fun r3 h_r3 => pc_if (fun _ => (vl_k_X6_readOfComponents_64 h_r3)) (fun _ => pc_bd (vl_f_X2_fail h_r3) (fun r4 h_r4 => (vl_k_X6_readOfComponents_64 h_r4))))) (fun _ => pc_if (fun _ => vl_st (VL.set h_s (vl_rw (vl_row z1) (by decide))) (fun s1 h_s1 => pc_bd (vl_f_X6_readExp h_s1) (fun r5 h_r5 => pc_bd (vl_f_X2_need h_r5) (fun r6 h_r6 => pc_bd (vl_f_X6_readCall (by decide) h_r6) (fun r7 h_r7 => pc_some (VL.any h_r7)))))) (fun _ => vl_st (VL.set h_s (vl_rw (vl_row z1) (by decide))) (fun s2 h_s2 => pc_bd (vl_f_X6_readExp h_s2) (fun r8 h_r8 => pc_bd (vl_f_X2_need h_r8) (fun r9 h_r9 => pc_bd (vl_f_X6_takePort h_r9) (fun r10 h_r10 => vl_st (VL.set h_r10 (vl_rw (vl_row z1) (by decide))) (fun s3 h_s3 => pc_bd (vl_f_X2_need h_s3) (fun r11 h_r11 => pc_bd (vl_f_X6_readExp h_r11) (fun r12 h_r12 => pc_bd (vl_f_X2_need h_r12) (fun r13 h_r13 => pc_bd (vl_f_X6_takePort h_r13) (fun r14 h_r14 => vl_st (VL.set h_r14 (vl_rw (vl_row z1) (by decide))) (fun s4 h_s4 => pc_bd (vl_f_X0_emit h_s4) (fun r15 h_r15 => pc_some (VL.any h_r15)))))))))))))))) (fun _ => pc_none)
theorem vl_k_X6_readStatement_98 {rc : RT_X6_readAlts} {l1 : Int32} {l3 : Int32} {l4 : Int32} {l5 : Nat} {s : t_S} (hrc : VLB_X6_readAlts 2 0 rc) (hl_l5 : RWv l5) (h_s : VL 0 (l4.toNatClampNeg) s) : t_pq (k_X6_readStatement_98 rc l1 l3 l4 l5 s) (fun y => VL 2 0 y.2) := by
  unfold k_X6_readStatement_98
  exact pc_if (fun _ => pc_bd (vl_f_X6_readPlain h_s) (fun r1 h_r1 => (vl_any (vl_k_X6_readStatement_315 hrc h_r1)))) (fun _ => pc_if (fun _ => pc_bd (vl_f_X6_readAssignment h_s) (fun r2 h_r2 => pc_some (VL.any h_r2))) (fun _ => pc_if (fun _ => pc_bd (vl_f_X6_readExp h_s) (fun r3 h_r3 => pc_if (fun _ => pc_if (fun _ => vl_st (VL.set h_r3 (vl_rw hl_l5 (by decide))) (fun s1 h_s1 => pc_bd (hrc.2.1 _ _ _ (VL.any h_s1)) (fun r6 h_r6 => pc_if (fun _ => vl_st (VL.set h_r6 (vl_rw hl_l5 (by decide))) (fun s2 h_s2 => pc_bd (vl_f_X2_take h_s2) (fun r8 h_r8 => pc_if (fun _ => pc_some (VL.any h_r8)) (fun _ => pc_bd (hrc.2.1 _ _ _ (VL.any h_r8)) (fun r9 h_r9 => pc_if (fun _ => vl_st (VL.set h_r9 (vl_rw hl_l5 (by decide))) (fun s3 h_s3 => pc_some (VL.any h_s3))) (fun _ => pc_none)))))) (fun _ => pc_none)))) (fun _ => pc_none)) (fun _ => pc_none))) (fun _ => pc_if (fun _ => pc_bd (vl_f_X6_readExp h_s) (fun r11 h_r11 => pc_if (fun _ => pc_if (fun _ => vl_st (VL.set h_r11 (vl_rw hl_l5 (by decide))) (fun s4 h_s4 => pc_bd (hrc.2.1 _ _ _ (VL.any h_s4)) (fun r14 h_r14 => pc_if (fun _ => vl_st (VL.set h_r14 (vl_rw hl_l5 (by decide))) (fun s5 h_s5 => pc_some (VL.any h_s5))) (fun _ => pc_none)))) (fun _ => pc_none)) (fun _ => pc_none))) (fun _ => pc_if (fun _ => pc_bd (vl_f_X6_readPlain h_s) (fun r16 h_r16 => (vl_any (vl_k_X6_readStatement_315 hrc h_r16)))) (fun _ => pc_if (fun _ => pc_bd (vl_f_X6_readPlain h_s) (fun r17 h_r17 => (vl_any (vl_k_X6_readStatement_315 hrc h_r17)))) (fun _ => pc_if (fun _ => pc_bd (vl_f_X6_readPlain h_s) (fun r18 h_r18 => (vl_any (vl_k_X6_readStatement_315 hrc h_r18)))) (fun _ => pc_if (fun _ => pc_bd (vl_f_X6_readPlain h_s) (fun r19 h_r19 => (vl_any (vl_k_X6_readStatement_315 hrc h_r19)))) (fun _ => pc_if (fun _ => pc_bd (vl_f_X6_readPlain h_s) (fun r20 h_r20 => (vl_any (vl_k_X6_readStatement_315 hrc h_r20)))) (fun _ => pc_if (fun _ => pc_bd (hrc.1 _ _ _ (VL.any h_s)) (fun r21 h_r21 => pc_if (fun _ => pc_if (fun _ => vl_st (VL.set h_r21 (vl_rw hl_l5 (by decide))) (fun s6 h_s6 => pc_some (VL.any h_s6))) (fun _ => pc_none)) (fun _ => pc_none))) (fun _ => pc_if (fun _ => pc_bd (vl_f_X6_readEvent h_s) (fun r24 h_r24 => (vl_any (vl_k_X6_readStatement_315 hrc h_r24)))) (fun _ => pc_if (fun _ => pc_bd (vl_f_X6_readEvent h_s) (fun r25 h_r25 => (vl_any (vl_k_X6_readStatement_315 hrc h_r25)))) (fun _ => pc_if (fun _ => pc_bd (vl_f_X6_readEvent h_s) (fun r26 h_r26 => (vl_any (vl_k_X6_readStatement_315 hrc h_r26)))) (fun _ => pc_if (fun _ => pc_bd (vl_f_X6_readPlain h_s) (fun r27 h_r27 => (vl_any (vl_k_X6_readStatement_315 hrc h_r27)))) (fun _ => pc_if (fun _ => pc_bd (vl_f_X6_readPlain h_s) (fun r28 h_r28 => (vl_any (vl_k_X6_readStatement_315 hrc h_r28)))) (fun _ => pc_if (fun _ => pc_bd (vl_f_X6_readOfComponents h_s) (fun r29 h_r29 => (vl_any (vl_k_X6_readStatement_315 hrc h_r29)))) (fun _ => pc_if (fun _ => pc_bd (vl_f_X6_readOfComponents h_s) (fun r30 h_r30 => (vl_any (vl_k_X6_readStatement_315 hrc h_r30)))) (fun _ => pc_if (fun _ => pc_bd (vl_f_X6_readOfComponents h_s) (fun r31 h_r31 => (vl_any (vl_k_X6_readStatement_315 hrc h_r31)))) (fun _ => pc_if (fun _ => pc_bd (vl_f_X6_readPlain h_s) (fun r32 h_r32 => (vl_any (vl_k_X6_readStatement_315 hrc h_r32)))) (fun _ => pc_bd (vl_f_X6_readOfComponents h_s) (fun r33 h_r33 => (vl_any (vl_k_X6_readStatement_315 hrc h_r33))))))))))))))))))))))
theorem vl_k_X6_readStatement_44 {rc : RT_X6_readAlts} {l1 : Int32} {l2 : Int32} {l3 : Int32} {s : t_S} (hrc : VLB_X6_readAlts 2 0 rc) (hq : s.1 1 11 = 0 → s.1 428 18 < 400) (h_s : VL 2 0 s) : t_pq (k_X6_readStatement_44 rc l1 l2 l3 s) (fun y => VL 2 0 y.2) := by
  unfold k_X6_readStatement_44
  exact pc_if (fun z1 => pc_bd (vl_f_X5_addStep (hq z1) h_s) (fun r1 h_r1 => pc_if (fun z2 => pc_if (fun _ => (vl_k_X6_readStatement_98 hrc (vl_row z2) h_r1)) (fun _ => pc_if (fun _ => pc_bd (vl_f_X2_advance h_r1) (fun r4 h_r4 => (vl_k_X6_readStatement_98 hrc (vl_row z2) h_r4))) (fun _ => (vl_k_X6_readStatement_98 hrc (vl_row z2) h_r1)))) (fun _ => pc_none))) (fun _ => pc_some (VL.any h_s))
theorem vl_k_X6_readStatement_23 {rc : RT_X6_readAlts} {l1 : Int32} {l2 : Int32} {l3 : Int32} {s : t_S} (hrc : VLB_X6_readAlts 2 0 rc) (h_s : VL 2 0 s) : t_pq (k_X6_readStatement_23 rc l1 l2 l3 s) (fun y => VL 2 0 y.2) := by
  unfold k_X6_readStatement_23
  exact pc_if (fun z1 => (vl_k_X6_readStatement_44 hrc (fun _ => z1) h_s)) (fun _ => pc_bd (vl_fail5 h_s) (fun r1 h_r1 => (vl_k_X6_readStatement_44 hrc (fun y => absurd y h_r1.2) h_r1.1)))
theorem vl_m_X6_readStatement {rc : RT_X6_readAlts} {x1 : Int32} {x2 : Int32} {s : t_S} (hrc : VLB_X6_readAlts 2 0 rc) (h_s : VL 2 0 s) : t_pq (m_X6_readStatement rc x1 x2 s) (fun y => VL 2 0 y.2) := by
  unfold m_X6_readStatement
  exact pc_if (fun _ => pc_bd (vl_f_X2_fail h_s) (fun r2 h_r2 => (vl_k_X6_readStatement_23 hrc h_r2))) (fun _ => (vl_k_X6_readStatement_23 hrc h_s))
theorem VLB_X6_readAlts_R : ∀ n, VLB_X6_readAlts 2 0 (R_X6_readAlts n) := by
  intro n
  induction n with
  | zero => exact ⟨fun _ _ _ _ => pc_none, fun _ _ _ _ => pc_none, fun _ _ _ _ _ => pc_none, fun _ _ _ _ => pc_none, fun _ _ _ _ => pc_none⟩
  | succ n ih => exact ⟨fun _ _ _ h => vl_m_X6_readAlts ih h, fun _ _ _ h => vl_m_X6_readBlock ih h, fun _ _ _ _ h => vl_m_X6_readBraces ih h, fun _ _ _ h => vl_m_X6_readBranch ih h, fun _ _ _ h => vl_m_X6_readStatement ih h⟩
theorem vl_f_X6_readAlts {x1 : Int32} {x2 : Int32} {s : t_S} (h_s : VL 2 0 s) : t_pq (f_X6_readAlts x1 x2 s) (fun y => VL 2 0 y.2) := by
  unfold f_X6_readAlts
  exact ((VLB_X6_readAlts_R 100).1 _ _ _ h_s)
theorem vl_k_X6_readUnitItem_205 {k0 : Int32} {k1 : Int32} {s : t_S} (h_s : VL zl xl s) : t_pq (k_X6_readUnitItem_205 k0 k1 s) (fun y => VL zl xl y) := by
  unfold k_X6_readUnitItem_205
  exact pc_if (fun z1 => vl_st (VL.set h_s ⟨by decide, by decide, fun y => absurd y.1 (by decide), fun y => absurd y.1 (by decide), fun y => absurd y.1 (by decide)⟩) (fun s1 h_s1 => vl_st (VL.set h_s1 ⟨by decide, by decide, fun y => absurd y.1 (by decide), fun y => absurd y.1 (by decide), fun y => absurd y.2.1 (by decide)⟩) (fun s2 h_s2 => vl_st (VL.set h_s2 ⟨by decide, by decide, fun y => absurd y.1 (by decide), fun y => absurd y.1 (by decide), fun y => absurd y.2.1 (by decide)⟩) (fun s3 h_s3 => pc_some h_s3)))) (fun _ => pc_none)
theorem vl_f_X6_readBlock {x1 : Int32} {x2 : Int32} {s : t_S} (h_s : VL 2 0 s) : t_pq (f_X6_readBlock x1 x2 s) (fun y => VL 2 0 y.2) := by
  unfold f_X6_readBlock
  exact ((VLB_X6_readAlts_R 100).2.1 _ _ _ h_s)
theorem vl_k_X6_readUnitItem_165 {l1 : Int32} {s : t_S} (h_s : VL 2 0 s) : t_pq (k_X6_readUnitItem_165 l1 s) (fun y => VL 2 0 y) := by
  unfold k_X6_readUnitItem_165
  exact pc_bd (vl_f_X2_need h_s) (fun r1 h_r1 => pc_if (fun _ => pc_bd (vl_f_X6_readAlts h_r1) (fun r3 h_r3 => (vl_k_X6_readUnitItem_205 h_r3))) (fun _ => pc_bd (vl_f_X6_readBlock h_r1) (fun r2 h_r2 => (vl_k_X6_readUnitItem_205 h_r2))))
theorem vl_k_X6_readParameters_2 {l1 : Int32} {s : t_S} (h_s : VL zl xl s) : t_pq (k_X6_readParameters_2 l1 s) (fun z => Sum.elim (fun y => VL zl xl y.2) (fun y => VL zl xl y) z) := by
  unfold k_X6_readParameters_2
  exact pc_if (fun _ => pc_mp (pc_some h_s)) (fun _ => pc_bd (vl_f_X6_takePlace h_s) (fun r1 h_r1 => pc_if (fun _ => pc_if (fun z1 => vl_st (VL.set h_r1 ⟨by decide, by decide, fun y => absurd y.1 (by decide), fun y => absurd y.1 (by decide), fun y => absurd y.1 (by decide)⟩) (fun s1 h_s1 => pc_if (fun z2 => vl_st (VL.set h_s1 ⟨by decide, by decide, fun y => absurd y.1 (by decide), fun y => absurd y.1 (by decide), fun y => absurd y.1 (by decide)⟩) (fun s2 h_s2 => pc_bd (vl_f_X2_take h_s2) (fun r4 h_r4 => pc_if (fun _ => pc_mp (pc_some h_r4)) (fun _ => pc_some h_r4)))) (fun _ => pc_none))) (fun _ => pc_none)) (fun _ => pc_mp (pc_some h_r1))))
theorem vl_b_X6_readParameters_2 {x9 : Int32 × t_S} (h : VL zl xl x9.2) : t_pq (b_X6_readParameters_2 x9) (fun z => Sum.elim (fun y => VL zl xl y.2) (fun y => VL zl xl y) z) := vl_k_X6_readParameters_2 h
theorem vl_f_X6_readParameters {s : t_S} (h_s : VL zl xl s) : t_pq (f_X6_readParameters s) (fun y => VL zl xl y) := by
  unfold f_X6_readParameters
  exact pc_lp (fun x h => vl_b_X6_readParameters_2 h) h_s
theorem vl_k_X6_readUnitItem_122 {l1 : Int32} {k0 : Int32} {s : t_S} (h_s : VL 2 0 s) : t_pq (k_X6_readUnitItem_122 l1 k0 s) (fun y => VL 2 0 y) := by
  unfold k_X6_readUnitItem_122
  exact vl_st (VL.set h_s ⟨by decide, by decide, fun y => absurd y.1 (by decide), fun y => absurd y.1 (by decide), fun y => absurd y.2.1 (by decide)⟩) (fun s1 h_s1 => pc_bd (vl_linko (by decide) h_s1) (fun r1 h_r1 => pc_bd (vl_f_X2_need h_r1) (fun r2 h_r2 => pc_if (fun _ => (vl_k_X6_readUnitItem_165 h_r2)) (fun _ => pc_if (fun _ => (vl_k_X6_readUnitItem_165 h_r2)) (fun _ => pc_bd (vl_f_X6_readParameters h_r2) (fun r3 h_r3 => (vl_k_X6_readUnitItem_165 h_r3)))))))
theorem vl_k_X6_readUnitItem_121 {l1 : Int32} {s : t_S} (h_s : VL 2 0 s) : t_pq (k_X6_readUnitItem_121 l1 s) (fun y => VL 2 0 y) := by
  unfold k_X6_readUnitItem_121
  exact (vl_k_X6_readUnitItem_122 h_s)
theorem vl_k_X6_readUnitItem_97 {l1 : Int32} {k0 : Int32} {s : t_S} (h_s : VL 2 0 s) : t_pq (k_X6_readUnitItem_97 l1 k0 s) (fun y => VL 2 0 y) := by
  unfold k_X6_readUnitItem_97
  exact pc_if (fun _ => (vl_k_X6_readUnitItem_121 h_s)) (fun _ => pc_if (fun _ => (vl_k_X6_readUnitItem_121 h_s)) (fun _ => (vl_k_X6_readUnitItem_122 h_s)))
theorem vl_f_X6_readUnitItem {x1 : Int32} {s : t_S} (h_s : VL 2 0 s) : t_pq (f_X6_readUnitItem x1 s) (fun y => VL 2 0 y) := by
  unfold f_X6_readUnitItem
  exact pc_bd (vl_f_X2_advance h_s) (fun r1 h_r1 => pc_bd (vl_f_X6_takeName h_r1) (fun r2 h_r2 => pc_if (fun _ => pc_some h_r2) (fun _ => vl_st (VL.set h_r2 ⟨by decide, by decide, fun y => absurd y.1 (by decide), fun y => absurd y.1 (by decide), fun y => absurd y.2.1 (by decide)⟩) (fun s1 h_s1 => pc_bd (vl_f_X5_addUnit h_s1) (fun r3 h_r3 => pc_bd (vl_f_X2_advance h_r3) (fun r4 h_r4 => pc_bd (vl_f_X2_need h_r4) (fun r5 h_r5 => pc_if (fun _ => pc_if (fun z1 => (vl_k_X6_readUnitItem_97 h_r5)) (fun _ => pc_none)) (fun _ => (vl_k_X6_readUnitItem_97 h_r5)))))))))
theorem vl_mIt {s : t_S} (h : VL 2 0 s) : t_pq (mIt s) (fun y => VL 2 0 y) := by
  unfold mIt
  exact pc_if (fun _ => vl_f_X2_fail h) (fun _ => pc_if (fun _ => vl_f_X6_readTypeItem h) (fun _ => pc_if (fun _ => vl_f_X6_readTemplateItem h) (fun _ => pc_if (fun _ => vl_f_X6_readComponentItem h) (fun _ => pc_if (fun _ => vl_f_X6_readUnitItem h) (fun _ => pc_if (fun _ => vl_f_X6_readUnitItem h) (fun _ => vl_f_X6_readUnitItem h))))))
end
