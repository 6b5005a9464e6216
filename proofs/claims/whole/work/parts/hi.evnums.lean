/-! Level 2: exps worked out: numbers. -/
/-- no more than 10^15 either way -/
def nB (x : Int64) : Prop := -(10 ^ 15) ≤ x.toInt ∧ x.toInt ≤ 10 ^ 15
theorem i64_bm {t : Int} (h1 : -(2 ^ 62) ≤ t) (h2 : t ≤ 2 ^ 62) : t.bmod (2 ^ 64) = t := Int.bmod_eq_of_le (by omega) (by omega)
theorem i64_add {x y : Int64} (h : nB x) (g : nB y) : (x + y).toInt = x.toInt + y.toInt := by
  unfold nB at *
  rw [Int64.toInt_add]
  exact i64_bm (by omega) (by omega)
theorem i64_sub {x y : Int64} (h : nB x) (g : nB y) : (x - y).toInt = x.toInt - y.toInt := by
  unfold nB at *
  rw [Int64.toInt_sub]
  exact i64_bm (by omega) (by omega)
theorem i64_mul {x y : Int64} (h1 : -(2 ^ 62) ≤ x.toInt * y.toInt) (h2 : x.toInt * y.toInt ≤ 2 ^ 62) : (x * y).toInt = x.toInt * y.toInt := by
  rw [Int64.toInt_mul]
  exact i64_bm h1 h2
theorem td_le (t u : Int) : (t.tdiv u).natAbs ≤ t.natAbs := by
  rw [Int.natAbs_tdiv]
  exact Nat.div_le_self _ _
theorem i64_div {x y : Int64} (h : -(2 ^ 60) ≤ x.toInt ∧ x.toInt ≤ 2 ^ 60) : (x / y).toInt = x.toInt.tdiv y.toInt := by
  rw [Int64.toInt_div]
  have := td_le x.toInt y.toInt
  exact i64_bm (by omega) (by omega)
theorem i64_abs {x : Int64} (h : -(2 ^ 62) ≤ x.toInt ∧ x.toInt ≤ 2 ^ 62) : (if 0 < x then x else -x).toInt = x.toInt.natAbs := by
  have z : (0 < x) ↔ 0 < x.toInt := Int64.lt_iff_toInt_lt
  by_cases c : 0 < x.toInt
  · rw [if_pos (z.mpr c)]; omega
  · rw [if_neg (fun y => c (z.mp y)), Int64.toInt_neg, i64_bm (by omega) (by omega)]; omega
theorem i64_size {x : Int64} {s : t_S} (h : -(2 ^ 62) ≤ x.toInt ∧ x.toInt ≤ 2 ^ 62) : (f_X13_size x s).toInt = x.toInt.natAbs := by
  unfold f_X13_size
  have z : (0 : Int32) ≤ lg_cmp x 0 ↔ ¬ x.toInt < 0 := by
    have e0 : (0 : Int64).toInt = 0 := rfl
    rw [← e0, ← t_cmp_lt (x := x) (y := 0)]
    exact ⟨fun y z => absurd y (Int32.not_le.mpr z), fun y => Int32.not_lt.mp y⟩
  by_cases c : x.toInt < 0
  · rw [if_neg (fun y => z.mp y c), Int64.toInt_neg, i64_bm (by omega) (by omega)]; omega
  · rw [if_pos (z.mpr c)]; omega
theorem cmp_le {x y : Int64} : lg_cmp x y ≤ 0 ↔ x.toInt ≤ y.toInt := by
  have := t_cmp_gt (x := x) (y := y)
  constructor
  · intro h
    have n : ¬ 0 < lg_cmp x y := Int32.not_lt.mpr h
    have : ¬ y.toInt < x.toInt := fun z => n (this.mpr z)
    omega
  · intro h
    exact Int32.not_lt.mp (fun z => by have := this.mp z; omega)
/-- what reckoning comes to -/
def RK (c1 rs : t_S) (oc or : Option t_S) : Prop := (∃ z, oc = k_X0_reckon_141 z c1 ∧ or = (f_X13_pushNumber z rs).bind (fun r => some r) ∧ nB z) ∨ (oc = some (t_setI c1 334 12 3) ∧ (or = (f_X13_error 3 rs).bind (fun r => some r) ∨ ∃ z, or = (f_X13_pushNumber z rs).bind (fun r => some r) ∧ ¬ nB z))
section
variable {c1 rs : t_S}
theorem rk_3 {z : Int64} : k_X0_reckon_141 z (t_setI c1 334 12 3) = some (t_setI c1 334 12 3) := by
  unfold k_X0_reckon_141
  rw [if_neg (by rw [l2_g, if_pos rfl]; decide)]
theorem rk_err {z : Int64} (h : nB z) : k_X0_reckon_124 z (t_setI c1 334 12 3) = some (t_setI c1 334 12 3) := by
  unfold k_X0_reckon_124
  unfold nB at h
  rw [if_pos (cmp_le.mpr (by rw [i64_abs (by omega)]; show (_ : Int) ≤ 10 ^ 15; omega)), rk_3]
theorem rk_124 {z : Int64} (h : -(2 ^ 62) ≤ z.toInt ∧ z.toInt ≤ 2 ^ 62) : RK c1 rs (k_X0_reckon_124 z c1) ((f_X13_pushNumber z rs).bind (fun r => some r)) := by
  unfold k_X0_reckon_124
  by_cases c : nB z
  · refine Or.inl ⟨z, ?_, rfl, c⟩
    unfold nB at c
    rw [if_pos (cmp_le.mpr (by rw [i64_abs (by omega)]; show (_ : Int) ≤ 10 ^ 15; omega))]
  · refine Or.inr ⟨?_, Or.inr ⟨z, rfl, c⟩⟩
    unfold nB at c
    rw [if_neg (fun y => by
      have := cmp_le.mp y
      rw [i64_abs (by omega)] at this
      have q : (z.toInt.natAbs : Int) ≤ 10 ^ 15 := this
      omega), t_let, rk_3]
theorem ne_i {x : Int64} (h : ¬ lg_cmp x 0 = 0) : ¬ x = 0 := fun e => h (l2_cmp0.mpr e)
theorem rk_div {x y : Int64} (h : nB x) (g : nB y) : RK c1 rs (f_X0_reckon (nI 19) x y c1) (f_X13_reckon (nI 47) x y rs) ∧ RK c1 rs (f_X0_reckon (nI 20) x y c1) (f_X13_reckon (nI 37) x y rs) := by
  have b0 : nB 0 := by unfold nB; decide
  have bt := td_le x.toInt y.toInt
  have hx := h
  unfold nB at hx
  have dv := i64_div (x := x) (y := y) (by omega)
  have pr : (x.toInt.tdiv y.toInt * y.toInt).natAbs ≤ x.toInt.natAbs := by
    rw [Int.natAbs_mul, Int.natAbs_tdiv]
    exact Nat.div_mul_le_self _ _
  have ml : (x / y * y).toInt = x.toInt.tdiv y.toInt * y.toInt := by
    rw [i64_mul (by rw [dv]; omega) (by rw [dv]; omega), dv]
  have sb : (x - x / y * y).toInt = x.toInt - x.toInt.tdiv y.toInt * y.toInt := by
    rw [i64_sub h (by unfold nB; rw [ml]; omega), ml]
  unfold f_X0_reckon f_X13_reckon
  by_cases c : lg_cmp y 0 = 0
  · constructor
    · rw [if_pos (by decide), if_pos c, t_let, rk_err b0, if_neg (by decide), if_neg (by decide), if_neg (by decide), if_neg (by decide), if_pos (by decide), if_pos c]
      exact Or.inr ⟨rfl, Or.inl rfl⟩
    · rw [if_pos (by decide), if_pos c, t_let, rk_err b0, if_pos (by decide), if_pos c]
      exact Or.inr ⟨rfl, Or.inl rfl⟩
  · have ny := ne_i c
    constructor
    · rw [if_pos (by decide), if_neg c, if_pos (show nI 19 = (19 : Int32) from rfl), if_pos ny, if_neg (by decide), if_neg (by decide), if_neg (by decide), if_neg (by decide), if_pos (by decide), if_neg c, if_pos (show nI 47 = (47 : Int32) from rfl), if_pos ny]
      exact rk_124 (by rw [dv]; omega)
    · rw [if_pos (by decide), if_neg c, if_neg (by decide), if_pos ny, if_pos (by decide), if_neg c, if_neg (by decide), if_pos ny]
      exact rk_124 (by rw [sb]; omega)
theorem rk_add {x y : Int64} (h : nB x) (g : nB y) : RK c1 rs (f_X0_reckon (nI 16) x y c1) (f_X13_reckon (nI 43) x y rs) ∧ RK c1 rs (f_X0_reckon (nI 17) x y c1) (f_X13_reckon (nI 45) x y rs) := by
  have a := i64_add h g
  have b := i64_sub h g
  unfold nB at h g
  unfold f_X0_reckon f_X13_reckon
  constructor
  · rw [if_neg (by decide), if_pos (by decide), if_neg (by decide), if_neg (by decide), if_pos (by decide)]
    exact rk_124 (by omega)
  · rw [if_neg (by decide), if_neg (by decide), if_pos (by decide), if_neg (by decide), if_neg (by decide), if_neg (by decide), if_pos (by decide)]
    exact rk_124 (by omega)
theorem rk_mul {x y : Int64} (h : nB x) (g : nB y) : RK c1 rs (f_X0_reckon (nI 18) x y c1) (f_X13_reckon (nI 42) x y rs) := by
  have hx := h
  have hy := g
  unfold nB at hx hy
  have b0 : nB 0 := by unfold nB; decide
  have ab : (x.toInt * y.toInt).natAbs = x.toInt.natAbs * y.toInt.natAbs := Int.natAbs_mul _ _
  obtain ⟨p, hp⟩ : ∃ p, p = x.toInt.natAbs := ⟨_, rfl⟩
  obtain ⟨q, hq⟩ : ∃ q, q = y.toInt.natAbs := ⟨_, rfl⟩
  rw [← hp, ← hq] at ab
  have ax : (if 0 < x then x else -x).toInt = p := by rw [hp]; exact i64_abs (by omega)
  have ay : (if 0 < y then y else -y).toInt = q := by rw [hq]; exact i64_abs (by omega)
  have sx : (f_X13_size x rs).toInt = p := by rw [hp]; exact i64_size (by omega)
  have sy : (f_X13_size y rs).toInt = q := by rw [hq]; exact i64_size (by omega)
  have s1 : (f_X13_size 1 rs).toInt = 1 := i64_size (x := 1) (by decide)
  have M : p * q ≤ 2 ^ 62 → (x * y).toInt = x.toInt * y.toInt := fun z => i64_mul (by omega) (by omega)
  have E0 : (1000000000000000 : Int64).toInt = 10 ^ 15 := rfl
  have dq : (10 ^ 15 : Int).tdiv (p : Int) = ((10 ^ 15 / p : Nat) : Int) := Int.tdiv_eq_ediv_of_nonneg (by decide)
  -- the reference
  have R : ∀ (d : Int64) (dn : Nat), (f_X13_size d rs).toInt = dn → 0 < dn → (10 ^ 15 / dn + 1 : Nat) ≥ p → p * q ≤ 2 ^ 62 → k_X13_reckon_120 x y d 1000000000000000 (f_X13_size x rs) rs = (f_X13_pushNumber (x * y) rs).bind (fun r => some r) := fun d dn h1 h2 h3 h4 => by
    have dl : 10 ^ 15 / dn ≤ 10 ^ 15 := Nat.div_le_self _ _
    have nz : ¬ f_X13_size d rs = 0 := fun z => by rw [z] at h1; have : (0 : Int) = dn := h1; omega
    have dv : ((1000000000000000 : Int64) / f_X13_size d rs).toInt = (10 ^ 15 / dn : Nat) := by
      rw [i64_div (by rw [E0]; decide), E0, h1]
      exact Int.tdiv_eq_ediv_of_nonneg (by decide)
    unfold k_X13_reckon_120 k_X13_reckon_134 k_X13_reckon_135 k_X13_reckon_153
    have ad : ((1000000000000000 : Int64) / f_X13_size d rs + 1).toInt = (10 ^ 15 / dn : Nat) + 1 := by
      rw [Int64.toInt_add, dv, show (1 : Int64).toInt = 1 from rfl]
      clear dv h1 h3
      generalize 10 ^ 15 / dn = w at *
      exact i64_bm (by omega) (by omega)
    rw [if_pos nz, if_pos (cmp_le.mpr (by rw [sx, ad]; omega)), if_pos rfl]
  have R2 : ∀ (d : Int64) (dn : Nat), (f_X13_size d rs).toInt = dn → 0 < dn → ¬ (10 ^ 15 / dn + 1 : Nat) ≥ p → k_X13_reckon_120 x y d 1000000000000000 (f_X13_size x rs) rs = (f_X13_pushNumber 1000000000000001 rs).bind (fun r => some r) := fun d dn h1 h2 h3 => by
    have dl : 10 ^ 15 / dn ≤ 10 ^ 15 := Nat.div_le_self _ _
    have nz : ¬ f_X13_size d rs = 0 := fun z => by rw [z] at h1; have : (0 : Int) = dn := h1; omega
    have dv : ((1000000000000000 : Int64) / f_X13_size d rs).toInt = (10 ^ 15 / dn : Nat) := by
      rw [i64_div (by rw [E0]; decide), E0, h1]
      exact Int.tdiv_eq_ediv_of_nonneg (by decide)
    unfold k_X13_reckon_120 k_X13_reckon_135 k_X13_reckon_153
    have ad : ((1000000000000000 : Int64) / f_X13_size d rs + 1).toInt = (10 ^ 15 / dn : Nat) + 1 := by
      rw [Int64.toInt_add, dv, show (1 : Int64).toInt = 1 from rfl]
      clear dv h1 h3
      generalize 10 ^ 15 / dn = w at *
      exact i64_bm (by omega) (by omega)
    rw [if_pos nz, if_neg (fun z => h3 (by
      have := cmp_le.mp z
      rw [sx, ad] at this
      omega)), if_neg (by decide)]
  -- the class
  have C1 : 0 < p → p * q ≤ 10 ^ 15 → f_X0_reckon (nI 18) x y c1 = k_X0_reckon_124 (x * y) c1 := fun z1 z2 => by
    unfold f_X0_reckon
    have nx : ¬ lg_cmp x 0 = 0 := fun z => by have e := l2_cmp0.mp z; subst e; have : (0 : Int64).toInt = 0 := rfl; omega
    have nz : ¬ (if 0 < x then x else -x) = 0 := fun z => by rw [z] at ax; have : (0 : Int) = p := ax; omega
    rw [if_neg (by decide), if_neg (by decide), if_neg (by decide), if_neg nx, if_pos nz, if_pos (cmp_le.mpr (by
      rw [ay, i64_div (by rw [E0]; decide), E0, ax, dq]
      have : q ≤ 10 ^ 15 / p := (Nat.le_div_iff_mul_le z1).mpr (by rw [Nat.mul_comm]; exact z2)
      omega))]
    rfl
  have C2 : 0 < p → ¬ p * q ≤ 10 ^ 15 → f_X0_reckon (nI 18) x y c1 = some (t_setI c1 334 12 3) := fun z1 z2 => by
    unfold f_X0_reckon
    have nx : ¬ lg_cmp x 0 = 0 := fun z => by have e := l2_cmp0.mp z; subst e; have : (0 : Int64).toInt = 0 := rfl; omega
    have nz : ¬ (if 0 < x then x else -x) = 0 := fun z => by rw [z] at ax; have : (0 : Int) = p := ax; omega
    rw [if_neg (by decide), if_neg (by decide), if_neg (by decide), if_neg nx, if_pos nz, if_neg (fun z => z2 (by
      have := cmp_le.mp z
      rw [ay, i64_div (by rw [E0]; decide), E0, ax, dq] at this
      have : q ≤ 10 ^ 15 / p := by omega
      rw [Nat.mul_comm]
      exact (Nat.le_div_iff_mul_le z1).mp this)), t_let, rk_err b0]
  by_cases p0 : p = 0
  · have ex : x = 0 := Int64.toInt_inj.mp (show x.toInt = 0 by omega)
    have e1 : lg_cmp x 0 = 0 := l2_cmp0.mpr ex
    unfold f_X0_reckon f_X13_reckon k_X0_reckon_81 k_X13_reckon_134 k_X13_reckon_135 k_X13_reckon_153
    rw [if_neg (by decide), if_neg (by decide), if_neg (by decide), if_pos e1, if_neg (by decide), if_pos (by decide), if_pos e1, if_pos rfl]
    refine rk_124 ?_
    rw [M (by rw [p0, Nat.zero_mul]; decide), show x.toInt = 0 by omega, Int.zero_mul]
    decide
  · have nx : ¬ lg_cmp x 0 = 0 := fun z => by have e := l2_cmp0.mp z; subst e; have : (0 : Int64).toInt = 0 := rfl; omega
    have Rr : ∃ (d : Int64) (dn : Nat), (f_X13_size d rs).toInt = dn ∧ 0 < dn ∧ (q ≠ 0 → dn = q) ∧ (q = 0 → dn = 1) ∧ f_X13_reckon (nI 42) x y rs = k_X13_reckon_120 x y d 1000000000000000 (f_X13_size x rs) rs := by
      unfold f_X13_reckon
      by_cases q0 : q = 0
      · have ey : lg_cmp y 0 = 0 := l2_cmp0.mpr (Int64.toInt_inj.mp (show y.toInt = 0 by omega))
        refine ⟨1, 1, s1, by decide, fun z => absurd q0 z, fun _ => rfl, ?_⟩
        rw [if_neg (by decide), if_pos (by decide), if_neg nx, if_pos ey]
      · have ny : ¬ lg_cmp y 0 = 0 := fun z => by have e := l2_cmp0.mp z; subst e; have : (0 : Int64).toInt = 0 := rfl; omega
        refine ⟨y, q, sy, by omega, fun _ => rfl, fun z => absurd z q0, ?_⟩
        rw [if_neg (by decide), if_pos (by decide), if_neg nx, if_neg ny]
    obtain ⟨d, dn, d1, d2, d3, d4, d5⟩ := Rr
    rw [d5]
    by_cases pq : p * q ≤ 10 ^ 15
    · have h3 : 10 ^ 15 / dn + 1 ≥ p := by
        by_cases q0 : q = 0
        · rw [d4 q0]; omega
        · rw [d3 q0]
          have : p ≤ 10 ^ 15 / q := (Nat.le_div_iff_mul_le (by omega)).mpr pq
          omega
      rw [C1 (by omega) pq, R d dn d1 d2 h3 (by omega)]
      exact rk_124 (by rw [M (by omega)]; omega)
    · rw [C2 (by omega) pq]
      have q0 : q ≠ 0 := fun z => pq (by rw [z]; omega)
      rw [d3 q0] at d1 d2
      by_cases h3 : 10 ^ 15 / q + 1 ≥ p
      · have bd : p * q ≤ 2 ^ 62 := by
          have i1 : p * q ≤ (10 ^ 15 / q + 1) * q := Nat.mul_le_mul_right _ h3
          have i2 : (10 ^ 15 / q) * q ≤ 10 ^ 15 := Nat.div_mul_le_self _ _
          have i3 : (10 ^ 15 / q + 1) * q = (10 ^ 15 / q) * q + q := by rw [Nat.add_mul, Nat.one_mul]
          omega
        rw [R d q d1 d2 h3 bd]
        refine Or.inr ⟨rfl, Or.inr ⟨_, rfl, ?_⟩⟩
        unfold nB
        rw [M bd]
        omega
      · rw [R2 d q d1 d2 h3]
        exact Or.inr ⟨rfl, Or.inr ⟨_, rfl, by unfold nB; decide⟩⟩
end
