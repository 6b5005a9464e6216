/-! Level 2: levels of templs' nodes are far below or 1 .. 40, none is settled yet. By gen_lv.py. -/
section
variable {n : Nat}
def ARz (a : Nat) : Prop := a < 353 ∨ (362 < a ∧ a < 845)
def lvk (v : Int32) : Prop := v.toInt ≤ -500 ∨ (1 ≤ v.toInt ∧ v.toInt ≤ 40)
def LZ (s : t_S) : Prop := ∀ t : Nat, t < 6100 → (t : Int) < (s.1 353 9).toInt → lvk (s.1 358 t) ∧ s.1 354 t ≠ 7
def lz_W (a k : Nat) : Prop := a ≠ 354 ∧ a ≠ 358 ∧ ¬ (a = 353 ∧ k = 9)
theorem LZ.fr {s s' : t_S} (h : LZ s) (f : l2_fr (fun a k => lz_W a k) s s') : LZ s' := by
  have e : ∀ a k, ¬ lz_W a k → s'.1 a k = s.1 a k := fun a k y => (f a k y).1
  intro t t1 t2
  rw [e 353 9 (by unfold lz_W; omega)] at t2
  rw [e 358 t (by unfold lz_W; omega), e 354 t (by unfold lz_W; omega)]
  exact h t t1 t2
theorem LZ.set {s : t_S} {a k : Nat} {v : Int32} (h : LZ s) (hk : lz_W a k) : LZ (t_setI s a k v) := h.fr (l2_fr.set hk)
theorem LZ.setJ {s : t_S} {a k : Nat} {v : Int64} (h : LZ s) : LZ (t_setJ s a k v) := h
theorem LZ.kind {s : t_S} {k : Nat} {v : Int32} (h : LZ s) (hv : v ≠ 7) : LZ (t_setI s 354 k v) := by
  have f : l2_fr (fun a j => a = 354 ∧ j = k) s (t_setI s 354 k v) := l2_fr.set ⟨rfl, rfl⟩
  intro t t1 t2
  rw [(f 353 9 (by omega)).1] at t2
  refine ⟨by rw [(f 358 t (by omega)).1]; exact (h t t1 t2).1, ?_⟩
  by_cases z : t = k
  · subst z
    simp only [l2_gI, and_self, reduceIte]
    exact hv
  · rw [(f 354 t (by omega)).1]
    exact (h t t1 t2).2
theorem lz_ar {a k : Nat} (h : ARz a) : lz_W a k := by
  unfold ARz at h
  unfold lz_W
  omega
theorem lz_arr {a n : Nat} {y : Int32} (h : t_ix y n = true) (hn : (362 < a ∧ a + n ≤ 845) ∨ a + n ≤ 353) : ARz (a + 1 * y.toNatClampNeg) := by
  have q := t_ixI.mp h
  have e : y.toNatClampNeg = y.toInt.toNat := rfl
  unfold ARz
  rw [e]
  omega
theorem lz_st {T : Type} {a : t_S} {f : t_S → Option T} {Q : T → Prop} (h : LZ a) (g : ∀ s, LZ s → t_pq (f s) Q) : t_pq (t_let a f) Q := g a h
theorem lz_start {s : t_S} (h : s.1 353 9 = 0) : LZ s := fun t _ t2 => by
  rw [h] at t2
  have q : (0 : Int32).toInt = 0 := rfl
  omega
def lzq (n : Nat) (a b : Int32) : Prop := b.toInt + n ≤ -500 ∨ (1 ≤ b.toInt ∧ b.toInt ≤ 2 * a.toInt + 1 ∧ a.toInt ≤ 17)
def lzt (n : Nat) (a b : Int32) : Prop := b.toInt + n ≤ -500 ∨ (1 ≤ b.toInt ∧ b.toInt ≤ 2 * a.toInt + 1 ∧ a.toInt ≤ 16)
def lzs (n : Nat) (a b : Int32) : Prop := b.toInt + n ≤ -500 ∨ (1 ≤ b.toInt ∧ b.toInt ≤ 2 * a.toInt + 2 ∧ a.toInt ≤ 16)
theorem i32_1 {x : Int32} (h : x.toInt < 2147483647) : (x + 1).toInt = x.toInt + 1 := by
  have lo := Int32.le_toInt x
  rw [Int32.toInt_add, show (1 : Int32).toInt = 1 from rfl]
  exact Int.bmod_eq_of_le (by omega) (by omega)
theorem lzt.s {a b : Int32} (h : lzt (n + 1) a b) : lzs n a b := by
  unfold lzt at h
  unfold lzs
  omega
theorem lzt.dn {a b : Int32} (h : lzt (n + 1) a b) : lzt n a b := by
  unfold lzt at *
  omega
theorem lzs.dn {a b : Int32} (h : lzs (n + 1) a b) : lzs n a b := by
  unfold lzs at *
  omega
theorem lzs.k {a b : Int32} (h : lzs n a b) : lvk b := by
  unfold lzs at h
  unfold lvk
  omega
theorem lzq.k {a b : Int32} (h : lzq n a b) : lvk b := by
  unfold lzq at h
  unfold lvk
  omega
theorem lzs.up {a b : Int32} (h : lzs (n + 1) a b) : lzq n (a + 1) (b + 1) := by
  unfold lzs at h
  unfold lzq
  rw [i32_1 (x := b) (by omega)]
  rcases h with h | h
  · exact Or.inl (by omega)
  · rw [i32_1 (x := a) (by omega)]
    exact Or.inr (by omega)
theorem lzt.up {a b : Int32} (h : lzt (n + 1) a b) : lzq n (a + 1) (b + 1) := by
  refine lzs.up ?_
  unfold lzt at h
  unfold lzs
  omega
theorem lzt.perm {a b : Int32} (h : lzt (n + 1) a b) : lzs n a (b + 1) := by
  unfold lzt at h
  unfold lzs
  rw [i32_1 (x := b) (by omega)]
  omega
theorem lq_far {a : Int32} (h : n ≤ 250) : lzq n a (-1000) := by
  unfold lzq
  rw [show (-1000 : Int32).toInt = -1000 from rfl]
  omega
theorem lz_f_X10_add {x1 : Int32} {s : t_S} (hv : lvk x1) (h : LZ s) : t_pq (f_X10_add x1 s) (fun y => LZ y.2) := by
  unfold f_X10_add
  refine pc_if (fun c1 => pc_lt (pc_if (fun c => ?_) (fun _ => pc_none))) (fun w => pc_some h)
  have q := t_ixI.mp c
  obtain ⟨n, hn, e⟩ : ∃ n : Nat, n < 6100 ∧ s.1 353 9 = nI n := ⟨(s.1 353 9).toInt.toNat, by omega, by
    rw [← Int32.toInt_inj, nI_toInt (by omega)]
    omega⟩
  unfold LZ at h
  rw [e, nI_toInt (by omega)] at h
  rw [e, nI_clamp (n := n) (by omega), nI_1]
  refine pc_lt (pc_lt (pc_lt (pc_lt (pc_lt (pc_lt (pc_lt (pc_lt (pc_lt (pc_some ?_)))))))))
  intro t t1 t2
  simp only [l2_gI, l2_gJI, Nat.reduceEqDiff, false_and, true_and, reduceIte] at t2 ⊢
  rw [nI_toInt (by omega)] at t2
  by_cases z : t = n
  · subst z
    simp only [reduceIte]
    exact ⟨hv, by decide⟩
  · rw [if_neg z, if_neg z]
    exact h t t1 (by omega)
theorem lz_f_X10_setLiteral {x1 x2 : Int32} {s : t_S} (h : LZ s) : t_pq (f_X10_setLiteral x1 x2 s) (fun y => LZ y) := by
  have g : ∀ v : Int32, v ≠ 7 → t_pq (k_X10_setLiteral_26 x1 x2 v x1 s) (fun y => LZ y) := fun v hv => by
    unfold k_X10_setLiteral_26
    exact pc_if (fun _ => lz_st (h.kind hv) (fun s1 h1 => pc_if (fun _ => lz_st (h1.set ⟨by decide, by decide, fun y => absurd y.1 (by decide)⟩) (fun s2 h2 => pc_some h2)) (fun _ => pc_none))) (fun _ => pc_none)
  unfold f_X10_setLiteral
  exact pc_if (fun _ => pc_if (fun _ => g 5 (by decide)) (fun _ => g 4 (by decide))) (fun _ => pc_none)
theorem lz_failN {x1 : Int32} {s : t_S} (hx : x1 ≠ 0) : t_pq (f_X2_fail x1 s) (fun y => y.1 1 11 ≠ 0) := tp_flv hx
theorem lz_failF {x1 : Int32} {s : t_S} : t_pq (f_X2_fail x1 s) (fun r => r.1 1 11 = 0 → s.1 1 11 = 0) := by
  unfold f_X2_fail
  exact pc_if (fun c => pc_lt (pc_lt (pc_lt (pc_some (fun _ => c))))) (fun _ => pc_some (fun y => y))
theorem lz_f_X3_add {x1 x2 x3 x4 x5 x6 : Int32} {s : t_S} (h0 : LZ s) : t_pq (f_X3_add x1 x2 x3 x4 x5 x6 s) (fun y => LZ y) := by
  unfold f_X3_add
  refine pc_if (fun c => ?_) (fun _ => pc_some h0)
  by_cases y : t_ix (s.1 846 6) 6002 = true
  rotate_left
  · rw [if_neg y]
    exact pc_none
  have q := t_ixI.mp y
  obtain ⟨l, hl, e6⟩ : ∃ l : Nat, l < 6002 ∧ s.1 846 6 = nI l := ⟨(s.1 846 6).toInt.toNat, by omega, by
    rw [← Int32.toInt_inj, nI_toInt (by omega)]
    omega⟩
  have g : t_pq (f_X3_add x1 x2 x3 x4 x5 x6 s) (fun y => LZ y) := by
    obtain ⟨w, w0, z1, z2, z3, z4, z5, z6, z7, z8⟩ := ln_add (l := l) (x1 := x1) (x2 := x2) (x3 := x3) (x4 := x4) (x5 := x5) (x6 := x6) e6 hl
    intro v hv
    rw [w0] at hv
    cases hv
    exact h0.fr (z1.mono (fun a k y => by unfold lz_W; omega))
  unfold f_X3_add at g
  rw [if_pos c] at g
  exact g
theorem lz_f_X2_fail {x1 : Int32} {s : t_S} (h_s : LZ s) : t_pq (f_X2_fail x1 s) (fun y => LZ y) := by
  unfold f_X2_fail
  exact pc_if (fun _ => lz_st (LZ.set h_s ⟨by decide, by decide, fun y => absurd y.1 (by decide)⟩) (fun s1 h_s1 => lz_st (LZ.set h_s1 ⟨by decide, by decide, fun y => absurd y.1 (by decide)⟩) (fun s2 h_s2 => lz_st (LZ.set h_s2 ⟨by decide, by decide, fun y => absurd y.1 (by decide)⟩) (fun s3 h_s3 => pc_some h_s3)))) (fun _ => pc_some h_s)
theorem lz_f_X2_advance {s : t_S} (h_s : LZ s) : t_pq (f_X2_advance s) (fun y => LZ y) := by
  unfold f_X2_advance
  exact pc_if (fun _ => pc_if (fun _ => lz_st (LZ.set h_s ⟨by decide, by decide, fun y => absurd y.1 (by decide)⟩) (fun s1 h_s1 => pc_if (fun z1 => lz_st (LZ.set h_s1 ⟨by decide, by decide, fun y => absurd y.1 (by decide)⟩) (fun s2 h_s2 => pc_if (fun z2 => lz_st (LZ.set h_s2 ⟨by decide, by decide, fun y => absurd y.1 (by decide)⟩) (fun s3 h_s3 => pc_if (fun z3 => lz_st (LZ.setJ h_s3) (fun s4 h_s4 => pc_if (fun _ => lz_st (LZ.set h_s4 ⟨by decide, by decide, fun y => absurd y.1 (by decide)⟩) (fun s5 h_s5 => lz_st (LZ.set h_s5 ⟨by decide, by decide, fun y => absurd y.1 (by decide)⟩) (fun s6 h_s6 => pc_some h_s6))) (fun _ => pc_some h_s4))) (fun _ => pc_none))) (fun _ => pc_none))) (fun _ => pc_none))) (fun _ => pc_some h_s)) (fun _ => pc_some h_s)
theorem lz_f_X2_need {x1 : Int32} {s : t_S} (h_s : LZ s) : t_pq (f_X2_need x1 s) (fun y => LZ y) := by
  unfold f_X2_need
  exact pc_if (fun _ => pc_bd (lz_f_X2_advance h_s) (fun r2 h_r2 => pc_some h_r2)) (fun _ => pc_bd (lz_f_X2_fail h_s) (fun r1 h_r1 => pc_some h_r1))
theorem lz_k_X3_late_31 {l1 : Int32} {l2 : Int32} {s : t_S} (h_s : LZ s) : t_pq (k_X3_late_31 l1 l2 s) (fun y => LZ y) := by
  unfold k_X3_late_31
  exact lz_st (LZ.set h_s ⟨by decide, by decide, fun y => absurd y.1 (by decide)⟩) (fun s1 h_s1 => lz_st (LZ.set h_s1 ⟨by decide, by decide, fun y => absurd y.1 (by decide)⟩) (fun s2 h_s2 => pc_some h_s2))
theorem lz_f_X3_late {x1 : Int32} {x2 : Int32} {s : t_S} (h_s : LZ s) : t_pq (f_X3_late x1 x2 s) (fun y => LZ y) := by
  unfold f_X3_late
  exact pc_if (fun _ => (lz_k_X3_late_31 h_s)) (fun _ => pc_if (fun _ => (lz_k_X3_late_31 h_s)) (fun _ => pc_if (fun _ => pc_if (fun _ => pc_some h_s) (fun _ => (lz_k_X3_late_31 h_s))) (fun _ => pc_some h_s)))
theorem lz_k_X6_takeName_64 {l1 : Int32} {l2 : Int32} {s : t_S} (h_s : LZ s) : t_pq (k_X6_takeName_64 l1 l2 s) (fun y => LZ y.2) := by
  unfold k_X6_takeName_64
  exact pc_if (fun _ => pc_if (fun z1 => lz_st (LZ.set h_s ⟨by decide, by decide, fun y => absurd y.1 (by decide)⟩) (fun s1 h_s1 => pc_some h_s1)) (fun _ => pc_none)) (fun _ => pc_some h_s)
theorem lz_f_X6_takeName {x1 : Int32} {x2 : Int32} {x3 : Int32} {s : t_S} (h_s : LZ s) : t_pq (f_X6_takeName x1 x2 x3 s) (fun y => LZ y.2) := by
  unfold f_X6_takeName
  exact pc_if (fun _ => pc_if (fun z1 => pc_if (fun _ => pc_if (fun _ => (lz_k_X6_takeName_64 h_s)) (fun _ => pc_bd (lz_f_X2_fail h_s) (fun r3 h_r3 => (lz_k_X6_takeName_64 h_r3)))) (fun _ => pc_bd (lz_f_X2_fail h_s) (fun r4 h_r4 => (lz_k_X6_takeName_64 h_r4)))) (fun _ => pc_none)) (fun _ => pc_bd (lz_f_X2_fail h_s) (fun r5 h_r5 => (lz_k_X6_takeName_64 h_r5)))
def LZB_X6_readFields (rc : RT_X6_readFields) : Prop := (∀ (x0 : Int32) (x1 : Int32) (x2 : Int32) (s : t_S), LZ s → t_pq (rc.1 x0 x1 x2 s) (fun y => LZ y)) ∧ (∀ (x0 : Int32) (s : t_S), LZ s → t_pq (rc.2 x0 s) (fun y => LZ y.2))
theorem lz_k_X6_readFields_278 {rc : RT_X6_readFields} {s : t_S} (hrc : LZB_X6_readFields rc) (h_s : LZ s) : t_pq (k_X6_readFields_278 rc s) (fun y => LZ y) := by
  unfold k_X6_readFields_278
  exact pc_bd (lz_f_X2_need h_s) (fun r1 h_r1 => pc_some h_r1)
theorem lz_f_X6_node {s : t_S} (h_s : LZ s) : t_pq (f_X6_node s) (fun y => LZ y) := by
  unfold f_X6_node
  exact pc_if (fun _ => lz_st (LZ.set h_s ⟨by decide, by decide, fun y => absurd y.1 (by decide)⟩) (fun s1 h_s1 => pc_some h_s1)) (fun _ => pc_bd (lz_f_X2_fail h_s) (fun r1 h_r1 => pc_some h_r1))
theorem lz_f_X11_add {x1 : Int32} {s : t_S} (h_s : LZ s) : t_pq (f_X11_add x1 s) (fun y => LZ y.2) := by
  unfold f_X11_add
  exact pc_if (fun _ => lz_st (LZ.set h_s ⟨by decide, by decide, fun y => absurd y.1 (by decide)⟩) (fun s1 h_s1 => pc_if (fun z1 => lz_st (LZ.set h_s1 ⟨by decide, by decide, fun y => absurd y.1 (by decide)⟩) (fun s2 h_s2 => lz_st (LZ.set h_s2 ⟨by decide, by decide, fun y => absurd y.1 (by decide)⟩) (fun s3 h_s3 => lz_st (LZ.set h_s3 ⟨by decide, by decide, fun y => absurd y.1 (by decide)⟩) (fun s4 h_s4 => lz_st (LZ.set h_s4 ⟨by decide, by decide, fun y => absurd y.1 (by decide)⟩) (fun s5 h_s5 => lz_st (LZ.set h_s5 ⟨by decide, by decide, fun y => absurd y.1 (by decide)⟩) (fun s6 h_s6 => lz_st (LZ.setJ h_s6) (fun s7 h_s7 => lz_st (LZ.setJ h_s7) (fun s8 h_s8 => pc_some h_s8)))))))) (fun _ => pc_none))) (fun _ => pc_some h_s)
theorem lz_f_X2_take {x1 : Int32} {s : t_S} (h_s : LZ s) : t_pq (f_X2_take x1 s) (fun y => LZ y.2) := by
  unfold f_X2_take
  exact pc_if (fun _ => pc_bd (lz_f_X2_advance h_s) (fun r1 h_r1 => pc_some h_r1)) (fun _ => pc_some h_s)
theorem lz_k_X6_readFields_240 {rc : RT_X6_readFields} {l1 : Int32} {l2 : Int32} {l3 : Int32} {l5 : Int32} {l6 : Int32} {s : t_S} (hrc : LZB_X6_readFields rc) (h_s : LZ s) : t_pq (k_X6_readFields_240 rc l1 l2 l3 l5 l6 s) (fun z => Sum.elim (fun y => LZ y.2.2.2.2.2) (fun y => LZ y) z) := by
  unfold k_X6_readFields_240
  exact pc_if (fun z1 => lz_st (LZ.set h_s ⟨by decide, by decide, fun y => absurd y.1 (by decide)⟩) (fun s1 h_s1 => pc_bd (lz_f_X2_take h_s1) (fun r2 h_r2 => pc_if (fun _ => pc_mp ((lz_k_X6_readFields_278 hrc h_r2))) (fun _ => pc_some h_r2)))) (fun _ => pc_none)
theorem lz_k_X6_readFields_209 {rc : RT_X6_readFields} {l1 : Int32} {l2 : Int32} {l3 : Int32} {l4 : Int32} {l5 : Int32} {l6 : Int32} {s : t_S} (hrc : LZB_X6_readFields rc) (h_s : LZ s) : t_pq (k_X6_readFields_209 rc l1 l2 l3 l4 l5 l6 s) (fun z => Sum.elim (fun y => LZ y.2.2.2.2.2) (fun y => LZ y) z) := by
  unfold k_X6_readFields_209
  exact pc_if (fun _ => pc_if (fun z1 => lz_st (LZ.set h_s ⟨by decide, by decide, fun y => absurd y.1 (by decide)⟩) (fun s2 h_s2 => (lz_k_X6_readFields_240 hrc h_s2))) (fun _ => pc_none)) (fun _ => pc_if (fun z2 => lz_st (LZ.set h_s ⟨by decide, by decide, fun y => absurd y.1 (by decide)⟩) (fun s1 h_s1 => (lz_k_X6_readFields_240 hrc h_s1))) (fun _ => pc_none))
theorem lz_k_X6_readFields_105 {rc : RT_X6_readFields} {l1 : Int32} {l2 : Int32} {l3 : Int32} {l4 : Int32} {l5 : Int32} {s : t_S} (hrc : LZB_X6_readFields rc) (h_s : LZ s) : t_pq (k_X6_readFields_105 rc l1 l2 l3 l4 l5 s) (fun z => Sum.elim (fun y => LZ y.2.2.2.2.2) (fun y => LZ y) z) := by
  unfold k_X6_readFields_105
  exact pc_bd (lz_f_X6_node h_s) (fun r1 h_r1 => pc_if (fun _ => pc_bd (lz_f_X11_add h_r1) (fun r2 h_r2 => pc_if (fun z1 => lz_st (LZ.set h_r2 ⟨by decide, by decide, fun y => absurd y.1 (by decide)⟩) (fun s1 h_s1 => pc_bd (lz_f_X2_advance h_s1) (fun r5 h_r5 => pc_bd (lz_f_X2_need h_r5) (fun r6 h_r6 => pc_bd (hrc.2 _ _ h_r6) (fun r7 h_r7 => lz_st (LZ.set h_r7 ⟨by decide, by decide, fun y => absurd y.1 (by decide)⟩) (fun s2 h_s2 => pc_if (fun _ => (lz_k_X6_readFields_209 hrc h_s2)) (fun _ => pc_bd (lz_f_X2_take h_s2) (fun r8 h_r8 => pc_if (fun _ => (lz_k_X6_readFields_209 hrc h_r8)) (fun _ => lz_st (LZ.set h_r8 ⟨by decide, by decide, fun y => absurd y.1 (by decide)⟩) (fun s3 h_s3 => (lz_k_X6_readFields_209 hrc h_s3))))))))))) (fun _ => pc_none))) (fun _ => pc_mp (pc_some h_r1)))
theorem lz_k_X6_readFields_32 {rc : RT_X6_readFields} {l1 : Int32} {l2 : Int32} {l3 : Int32} {l4 : Int32} {l5 : Int32} {s : t_S} (hrc : LZB_X6_readFields rc) (h_s : LZ s) : t_pq (k_X6_readFields_32 rc l1 l2 l3 l4 l5 s) (fun z => Sum.elim (fun y => LZ y.2.2.2.2.2) (fun y => LZ y) z) := by
  unfold k_X6_readFields_32
  exact pc_if (fun _ => pc_mp ((lz_k_X6_readFields_278 hrc h_s))) (fun _ => pc_if (fun _ => pc_bd pc_any (fun r2 h_r2 => pc_if (fun _ => pc_if (fun _ => pc_bd (lz_f_X2_fail h_s) (fun r3 h_r3 => (lz_k_X6_readFields_105 hrc h_r3))) (fun _ => (lz_k_X6_readFields_105 hrc h_s))) (fun _ => pc_bd (lz_f_X2_fail h_s) (fun r4 h_r4 => (lz_k_X6_readFields_105 hrc h_r4))))) (fun _ => pc_bd (lz_f_X2_fail h_s) (fun r5 h_r5 => (lz_k_X6_readFields_105 hrc h_r5))))
theorem lz_b_X6_readFields_32 {rc : RT_X6_readFields} {x9 : Int32 × Int32 × Int32 × Int32 × Int32 × t_S} (hrc : LZB_X6_readFields rc) (h : LZ x9.2.2.2.2.2) : t_pq (b_X6_readFields_32 rc x9) (fun z => Sum.elim (fun y => LZ y.2.2.2.2.2) (fun y => LZ y) z) := lz_k_X6_readFields_32 hrc h
theorem lz_k_X6_readFields_26 {rc : RT_X6_readFields} {l1 : Int32} {l2 : Int32} {l3 : Int32} {s : t_S} (hrc : LZB_X6_readFields rc) (h_s : LZ s) : t_pq (k_X6_readFields_26 rc l1 l2 l3 s) (fun y => LZ y) := by
  unfold k_X6_readFields_26
  exact pc_lp (fun x h => lz_b_X6_readFields_32 hrc h) h_s
theorem lz_m_X6_readFields {rc : RT_X6_readFields} {x1 : Int32} {x2 : Int32} {x3 : Int32} {s : t_S} (hrc : LZB_X6_readFields rc) (h_s : LZ s) : t_pq (m_X6_readFields rc x1 x2 x3 s) (fun y => LZ y) := by
  unfold m_X6_readFields
  exact pc_bd (lz_f_X2_need h_s) (fun r1 h_r1 => pc_if (fun _ => (lz_k_X6_readFields_26 hrc h_r1)) (fun _ => pc_bd (lz_f_X2_take h_r1) (fun r2 h_r2 => pc_if (fun _ => (lz_k_X6_readFields_26 hrc h_r2)) (fun _ => pc_some h_r2))))
theorem lz_f_X6_link {x1 : Int32} {x2 : Int32} {x3 : Int32} {s : t_S} (h_s : LZ s) : t_pq (f_X6_link x1 x2 x3 s) (fun y => LZ y) := by
  unfold f_X6_link
  exact pc_if (fun _ => pc_bd (lz_f_X3_add h_s) (fun r3 h_r3 => pc_bd (lz_f_X2_advance h_r3) (fun r4 h_r4 => pc_some h_r4))) (fun _ => pc_bd (lz_f_X2_fail h_s) (fun r5 h_r5 => pc_some h_r5))
theorem lz_k_X6_readInt_346 {s : t_S} (h_s : LZ s) : t_pq (k_X6_readInt_346 s) (fun y => LZ y) := by
  unfold k_X6_readInt_346
  exact pc_bd (lz_f_X2_need h_s) (fun r1 h_r1 => pc_some h_r1)
theorem lz_k_X6_readNumber_90 {l4 : Int64} {s : t_S} (h_s : LZ s) : t_pq (k_X6_readNumber_90 l4 s) (fun y => LZ y.2) := by
  unfold k_X6_readNumber_90
  exact pc_if (fun _ => pc_bd (lz_f_X2_advance h_s) (fun r1 h_r1 => pc_some h_r1)) (fun _ => pc_some h_s)
theorem lz_k_X6_readNumber_51 {l1 : Int64} {k0 : Int64} {s : t_S} (h_s : LZ s) : t_pq (k_X6_readNumber_51 l1 k0 s) (fun y => LZ y.2) := by
  unfold k_X6_readNumber_51
  exact pc_if (fun _ => pc_if (fun _ => (lz_k_X6_readNumber_90 h_s)) (fun _ => pc_bd (lz_f_X2_fail h_s) (fun r1 h_r1 => (lz_k_X6_readNumber_90 h_r1)))) (fun _ => pc_bd (lz_f_X2_fail h_s) (fun r2 h_r2 => (lz_k_X6_readNumber_90 h_r2)))
theorem lz_k_X6_readNumber_29 {l1 : Int64} {l3 : Int32} {s : t_S} (h_s : LZ s) : t_pq (k_X6_readNumber_29 l1 l3 s) (fun y => LZ y.2) := by
  unfold k_X6_readNumber_29
  exact pc_if (fun _ => (lz_k_X6_readNumber_51 h_s)) (fun _ => (lz_k_X6_readNumber_51 h_s))
theorem lz_k_X6_readNumber_17 {l1 : Int64} {k0 : Int32} {s : t_S} (h_s : LZ s) : t_pq (k_X6_readNumber_17 l1 k0 s) (fun y => LZ y.2) := by
  unfold k_X6_readNumber_17
  exact pc_if (fun _ => (lz_k_X6_readNumber_29 h_s)) (fun _ => pc_bd (lz_f_X2_advance h_s) (fun r1 h_r1 => (lz_k_X6_readNumber_29 h_r1)))
theorem lz_f_X6_readNumber {x1 : Int64} {s : t_S} (h_s : LZ s) : t_pq (f_X6_readNumber x1 s) (fun y => LZ y.2) := by
  unfold f_X6_readNumber
  exact pc_if (fun _ => (lz_k_X6_readNumber_17 h_s)) (fun _ => (lz_k_X6_readNumber_17 h_s))
theorem lz_k_X6_readInt_308 {l1 : Int32} {l3 : Int32} {l4 : Int32} {k0 : Int64} {k1 : Int32} {s : t_S} (h_s : LZ s) : t_pq (k_X6_readInt_308 l1 l3 l4 k0 k1 s) (fun z => Sum.elim (fun y => LZ y.2.2.2) (fun y => LZ y) z) := by
  unfold k_X6_readInt_308
  exact pc_if (fun z1 => lz_st (LZ.setJ h_s) (fun s1 h_s1 => pc_if (fun z2 => lz_st (LZ.set h_s1 ⟨by decide, by decide, fun y => absurd y.1 (by decide)⟩) (fun s2 h_s2 => pc_bd (lz_f_X2_take h_s2) (fun r3 h_r3 => pc_if (fun _ => pc_mp ((lz_k_X6_readInt_346 h_r3))) (fun _ => pc_some h_r3)))) (fun _ => pc_none))) (fun _ => pc_none)
theorem lz_k_X6_readInt_260 {l1 : Int32} {l3 : Int32} {l4 : Int32} {k0 : Int64} {k1 : Int32} {s : t_S} (h_s : LZ s) : t_pq (k_X6_readInt_260 l1 l3 l4 k0 k1 s) (fun z => Sum.elim (fun y => LZ y.2.2.2) (fun y => LZ y) z) := by
  unfold k_X6_readInt_260
  exact pc_if (fun z1 => lz_st (LZ.setJ h_s) (fun s1 h_s1 => pc_if (fun _ => pc_if (fun z2 => (lz_k_X6_readInt_308 h_s1)) (fun _ => pc_none)) (fun _ => pc_if (fun z3 => pc_if (fun z4 => (lz_k_X6_readInt_308 h_s1)) (fun _ => pc_none)) (fun _ => pc_none)))) (fun _ => pc_none)
theorem lz_k_X6_readInt_213 {l1 : Int32} {l3 : Int32} {l4 : Int32} {s : t_S} (h_s : LZ s) : t_pq (k_X6_readInt_213 l1 l3 l4 s) (fun z => Sum.elim (fun y => LZ y.2.2.2) (fun y => LZ y) z) := by
  unfold k_X6_readInt_213
  exact pc_if (fun _ => pc_if (fun z1 => (lz_k_X6_readInt_260 h_s)) (fun _ => pc_none)) (fun _ => pc_if (fun z2 => pc_if (fun z3 => (lz_k_X6_readInt_260 h_s)) (fun _ => pc_none)) (fun _ => pc_none))
theorem lz_k_X6_readInt_183 {l1 : Int32} {l2 : Int32} {l3 : Int32} {l4 : Int32} {k0 : Int64} {k1 : Int32} {s : t_S} (h_s : LZ s) : t_pq (k_X6_readInt_183 l1 l2 l3 l4 k0 k1 s) (fun z => Sum.elim (fun y => LZ y.2.2.2) (fun y => LZ y) z) := by
  unfold k_X6_readInt_183
  exact pc_if (fun z1 => lz_st (LZ.setJ h_s) (fun s1 h_s1 => pc_if (fun _ => pc_if (fun z2 => lz_st (LZ.set h_s1 ⟨by decide, by decide, fun y => absurd y.1 (by decide)⟩) (fun s3 h_s3 => (lz_k_X6_readInt_213 h_s3))) (fun _ => pc_none)) (fun _ => pc_if (fun z3 => lz_st (LZ.set h_s1 ⟨by decide, by decide, fun y => absurd y.1 (by decide)⟩) (fun s2 h_s2 => (lz_k_X6_readInt_213 h_s2))) (fun _ => pc_none)))) (fun _ => pc_none)
theorem lz_k_X6_readInt_92 {l1 : Int32} {l2 : Int32} {l3 : Int32} {s : t_S} (h_s : LZ s) : t_pq (k_X6_readInt_92 l1 l2 l3 s) (fun z => Sum.elim (fun y => LZ y.2.2.2) (fun y => LZ y) z) := by
  unfold k_X6_readInt_92
  exact pc_bd (lz_f_X6_node h_s) (fun r1 h_r1 => pc_if (fun _ => pc_bd (lz_f_X11_add h_r1) (fun r2 h_r2 => pc_bd (lz_f_X6_readNumber h_r2) (fun r3 h_r3 => pc_if (fun z1 => lz_st (LZ.setJ h_r3) (fun s1 h_s1 => pc_bd (lz_f_X2_take h_s1) (fun r5 h_r5 => pc_if (fun _ => (lz_k_X6_readInt_183 h_r5)) (fun _ => pc_bd (lz_f_X6_readNumber h_r5) (fun r6 h_r6 => (lz_k_X6_readInt_183 h_r6)))))) (fun _ => pc_none)))) (fun _ => pc_mp (pc_some h_r1)))
theorem lz_k_X6_readInt_78 {l1 : Int32} {l2 : Int32} {l3 : Int32} {s : t_S} (h_s : LZ s) : t_pq (k_X6_readInt_78 l1 l2 l3 s) (fun z => Sum.elim (fun y => LZ y.2.2.2) (fun y => LZ y) z) := by
  unfold k_X6_readInt_78
  exact pc_if (fun _ => pc_bd (lz_f_X2_fail h_s) (fun r1 h_r1 => (lz_k_X6_readInt_92 h_r1))) (fun _ => (lz_k_X6_readInt_92 h_s))
theorem lz_k_X6_readInt_41 {l1 : Int32} {l2 : Int32} {l3 : Int32} {s : t_S} (h_s : LZ s) : t_pq (k_X6_readInt_41 l1 l2 l3 s) (fun z => Sum.elim (fun y => LZ y.2.2.2) (fun y => LZ y) z) := by
  unfold k_X6_readInt_41
  exact pc_if (fun _ => pc_mp ((lz_k_X6_readInt_346 h_s))) (fun _ => pc_if (fun _ => (lz_k_X6_readInt_78 h_s)) (fun _ => pc_if (fun _ => (lz_k_X6_readInt_78 h_s)) (fun _ => pc_bd (lz_f_X2_fail h_s) (fun r1 h_r1 => (lz_k_X6_readInt_78 h_r1)))))
theorem lz_b_X6_readInt_41 {x9 : Int32 × Int32 × Int32 × t_S} (h : LZ x9.2.2.2) : t_pq (b_X6_readInt_41 x9) (fun z => Sum.elim (fun y => LZ y.2.2.2) (fun y => LZ y) z) := lz_k_X6_readInt_41 h
theorem lz_f_X6_readInt {x1 : Int32} {s : t_S} (h_s : LZ s) : t_pq (f_X6_readInt x1 s) (fun y => LZ y) := by
  unfold f_X6_readInt
  exact pc_if (fun z1 => lz_st (LZ.setJ h_s) (fun s1 h_s1 => lz_st (LZ.setJ h_s1) (fun s2 h_s2 => pc_bd (lz_f_X2_take h_s2) (fun r2 h_r2 => pc_if (fun _ => pc_some h_r2) (fun _ => pc_lp (fun x h => lz_b_X6_readInt_41 h) h_r2))))) (fun _ => pc_none)
theorem lz_k_X6_readBound_52 {l3 : Int64} {s : t_S} (h_s : LZ s) : t_pq (k_X6_readBound_52 l3 s) (fun y => LZ y.2) := by
  unfold k_X6_readBound_52
  exact pc_if (fun _ => pc_bd (lz_f_X2_advance h_s) (fun r1 h_r1 => pc_some h_r1)) (fun _ => pc_some h_s)
theorem lz_k_X6_readBound_44 {l3 : Int64} {s : t_S} (h_s : LZ s) : t_pq (k_X6_readBound_44 l3 s) (fun y => LZ y.2) := by
  unfold k_X6_readBound_44
  exact pc_bd (lz_f_X2_fail h_s) (fun r1 h_r1 => (lz_k_X6_readBound_52 h_r1))
theorem lz_f_X6_readBound {x1 : Int32} {x2 : Int32} {s : t_S} (h_s : LZ s) : t_pq (f_X6_readBound x1 x2 s) (fun y => LZ y.2) := by
  unfold f_X6_readBound
  exact pc_if (fun _ => pc_if (fun _ => (lz_k_X6_readBound_44 h_s)) (fun _ => pc_if (fun _ => (lz_k_X6_readBound_52 h_s)) (fun _ => (lz_k_X6_readBound_44 h_s)))) (fun _ => pc_bd (lz_f_X2_fail h_s) (fun r1 h_r1 => (lz_k_X6_readBound_52 h_r1)))
theorem lz_k_X6_readSpan_38 {l2 : Int32} {k0 : Int32} {s : t_S} (h_s : LZ s) : t_pq (k_X6_readSpan_38 l2 k0 s) (fun y => LZ y.2) := by
  unfold k_X6_readSpan_38
  exact pc_bd (lz_f_X2_need h_s) (fun r1 h_r1 => pc_some h_r1)
theorem lz_f_X6_readSpan {x1 : Int32} {s : t_S} (h_s : LZ s) : t_pq (f_X6_readSpan x1 s) (fun y => LZ y.2) := by
  unfold f_X6_readSpan
  exact pc_bd (lz_f_X2_need h_s) (fun r1 h_r1 => pc_bd (lz_f_X6_readBound h_r1) (fun r2 h_r2 => pc_bd (lz_f_X2_take h_r2) (fun r3 h_r3 => pc_if (fun _ => (lz_k_X6_readSpan_38 h_r3)) (fun _ => pc_bd (lz_f_X6_readBound h_r3) (fun r4 h_r4 => (lz_k_X6_readSpan_38 h_r4))))))
theorem lz_f_X6_setSpan {x1 : Int32} {x2 : Int32} {s : t_S} (h_s : LZ s) : t_pq (f_X6_setSpan x1 x2 s) (fun y => LZ y) := by
  unfold f_X6_setSpan
  exact pc_if (fun z1 => lz_st (LZ.setJ h_s) (fun s1 h_s1 => lz_st (LZ.setJ h_s1) (fun s2 h_s2 => pc_some h_s2))) (fun _ => pc_none)
theorem lz_k_X6_readEnum_201 {s : t_S} (h_s : LZ s) : t_pq (k_X6_readEnum_201 s) (fun y => LZ y) := by
  unfold k_X6_readEnum_201
  exact pc_bd (lz_f_X2_need h_s) (fun r1 h_r1 => pc_some h_r1)
theorem lz_k_X6_readEnum_98 {l1 : Int32} {l2 : Int32} {s : t_S} (h_s : LZ s) : t_pq (k_X6_readEnum_98 l1 l2 s) (fun z => Sum.elim (fun y => LZ y.2.2) (fun y => LZ y) z) := by
  unfold k_X6_readEnum_98
  exact pc_if (fun _ => pc_if (fun z1 => lz_st (LZ.set h_s ⟨by decide, by decide, fun y => absurd y.1 (by decide)⟩) (fun s1 h_s1 => pc_if (fun z2 => lz_st (LZ.set h_s1 ⟨by decide, by decide, fun y => absurd y.1 (by decide)⟩) (fun s2 h_s2 => lz_st (LZ.set h_s2 ⟨by decide, by decide, fun y => absurd y.1 (by decide)⟩) (fun s3 h_s3 => pc_if (fun z3 => lz_st (LZ.set h_s3 ⟨by decide, by decide, fun y => absurd y.1 (by decide)⟩) (fun s4 h_s4 => pc_bd (lz_f_X2_advance h_s4) (fun r6 h_r6 => pc_bd (lz_f_X2_take h_r6) (fun r7 h_r7 => pc_if (fun _ => pc_mp ((lz_k_X6_readEnum_201 h_r7))) (fun _ => pc_some h_r7))))) (fun _ => pc_none)))) (fun _ => pc_none))) (fun _ => pc_none)) (fun _ => pc_mp (pc_some h_s))
theorem lz_k_X6_readEnum_27 {l1 : Int32} {l2 : Int32} {s : t_S} (h_s : LZ s) : t_pq (k_X6_readEnum_27 l1 l2 s) (fun z => Sum.elim (fun y => LZ y.2.2) (fun y => LZ y) z) := by
  unfold k_X6_readEnum_27
  exact pc_if (fun _ => pc_mp ((lz_k_X6_readEnum_201 h_s))) (fun _ => pc_if (fun _ => pc_bd pc_any (fun r2 h_r2 => pc_if (fun _ => pc_if (fun _ => pc_bd (lz_f_X2_fail h_s) (fun r3 h_r3 => (lz_k_X6_readEnum_98 h_r3))) (fun _ => (lz_k_X6_readEnum_98 h_s))) (fun _ => pc_bd (lz_f_X2_fail h_s) (fun r4 h_r4 => (lz_k_X6_readEnum_98 h_r4))))) (fun _ => pc_bd (lz_f_X2_fail h_s) (fun r5 h_r5 => (lz_k_X6_readEnum_98 h_r5))))
theorem lz_b_X6_readEnum_27 {x9 : Int32 × Int32 × t_S} (h : LZ x9.2.2) : t_pq (b_X6_readEnum_27 x9) (fun z => Sum.elim (fun y => LZ y.2.2) (fun y => LZ y) z) := lz_k_X6_readEnum_27 h
theorem lz_f_X6_readEnum {x1 : Int32} {s : t_S} (h_s : LZ s) : t_pq (f_X6_readEnum x1 s) (fun y => LZ y) := by
  unfold f_X6_readEnum
  exact pc_bd (lz_f_X2_need h_s) (fun r1 h_r1 => pc_if (fun z1 => lz_st (LZ.set h_r1 ⟨by decide, by decide, fun y => absurd y.1 (by decide)⟩) (fun s1 h_s1 => pc_lp (fun x h => lz_b_X6_readEnum_27 h) h_s1)) (fun _ => pc_none))
theorem lz_k_X6_readType_257 {rc : RT_X6_readFields} {l1 : Int32} {l3 : Int32} {s : t_S} (hrc : LZB_X6_readFields rc) (h_s : LZ s) : t_pq (k_X6_readType_257 rc l1 l3 s) (fun y => LZ y.2) := by
  unfold k_X6_readType_257
  exact pc_bd (lz_f_X2_need h_s) (fun r1 h_r1 => pc_bd (hrc.2 _ _ h_r1) (fun r2 h_r2 => pc_if (fun z1 => lz_st (LZ.set h_r2 ⟨by decide, by decide, fun y => absurd y.1 (by decide)⟩) (fun s1 h_s1 => pc_some h_s1)) (fun _ => pc_none)))
theorem lz_k_X6_readType_80 {rc : RT_X6_readFields} {l1 : Int32} {l2 : Int32} {k0 : Int32} {s : t_S} (hrc : LZB_X6_readFields rc) (h_s : LZ s) : t_pq (k_X6_readType_80 rc l1 l2 k0 s) (fun y => LZ y.2) := by
  unfold k_X6_readType_80
  exact pc_bd (lz_f_X11_add h_s) (fun r1 h_r1 => pc_if (fun _ => pc_bd (lz_f_X6_link h_r1) (fun r13 h_r13 => pc_some h_r13)) (fun _ => pc_bd (lz_f_X2_advance h_r1) (fun r2 h_r2 => pc_if (fun _ => pc_some h_r2) (fun _ => pc_if (fun _ => pc_bd (lz_f_X6_readInt h_r2) (fun r3 h_r3 => pc_some h_r3)) (fun _ => pc_if (fun _ => pc_some h_r2) (fun _ => pc_if (fun _ => pc_if (fun z1 => lz_st (LZ.setJ h_r2) (fun s1 h_s1 => pc_if (fun _ => pc_bd (lz_f_X6_readSpan h_s1) (fun r5 h_r5 => pc_bd (lz_f_X6_setSpan h_r5) (fun r6 h_r6 => pc_some h_r6))) (fun _ => pc_some h_s1))) (fun _ => pc_none)) (fun _ => pc_if (fun _ => pc_bd (lz_f_X6_readEnum h_r2) (fun r7 h_r7 => pc_some h_r7)) (fun _ => pc_if (fun _ => pc_bd (hrc.1 _ _ _ _ h_r2) (fun r8 h_r8 => pc_some h_r8)) (fun _ => pc_if (fun _ => pc_bd (hrc.1 _ _ _ _ h_r2) (fun r9 h_r9 => pc_some h_r9)) (fun _ => pc_if (fun z2 => lz_st (LZ.setJ h_r2) (fun s2 h_s2 => pc_if (fun _ => pc_bd (lz_f_X6_readSpan h_s2) (fun r11 h_r11 => pc_bd (lz_f_X6_setSpan h_r11) (fun r12 h_r12 => (lz_k_X6_readType_257 hrc h_r12)))) (fun _ => (lz_k_X6_readType_257 hrc h_s2)))) (fun _ => pc_none)))))))))))
theorem lz_k_X6_readType_35 {rc : RT_X6_readFields} {l1 : Int32} {s : t_S} (hrc : LZB_X6_readFields rc) (h_s : LZ s) : t_pq (k_X6_readType_35 rc l1 s) (fun y => LZ y.2) := by
  unfold k_X6_readType_35
  exact pc_bd (lz_f_X6_node h_s) (fun r1 h_r1 => pc_if (fun _ => pc_if (fun _ => (lz_k_X6_readType_80 hrc h_r1)) (fun _ => (lz_k_X6_readType_80 hrc h_r1))) (fun _ => pc_some h_r1))
theorem lz_k_X6_readType_21 {rc : RT_X6_readFields} {l1 : Int32} {s : t_S} (hrc : LZB_X6_readFields rc) (h_s : LZ s) : t_pq (k_X6_readType_21 rc l1 s) (fun y => LZ y.2) := by
  unfold k_X6_readType_21
  exact pc_if (fun _ => (lz_k_X6_readType_35 hrc h_s)) (fun _ => pc_bd (lz_f_X2_fail h_s) (fun r1 h_r1 => (lz_k_X6_readType_35 hrc h_r1)))
theorem lz_m_X6_readType {rc : RT_X6_readFields} {x1 : Int32} {s : t_S} (hrc : LZB_X6_readFields rc) (h_s : LZ s) : t_pq (m_X6_readType rc x1 s) (fun y => LZ y.2) := by
  unfold m_X6_readType
  exact pc_if (fun _ => pc_bd (lz_f_X2_fail h_s) (fun r2 h_r2 => (lz_k_X6_readType_21 hrc h_r2))) (fun _ => (lz_k_X6_readType_21 hrc h_s))
theorem LZB_X6_readFields_R : ∀ n, LZB_X6_readFields (R_X6_readFields n) := by
  intro n
  induction n with
  | zero => exact ⟨fun _ _ _ _ _ => pc_none, fun _ _ _ => pc_none⟩
  | succ n ih => exact ⟨fun _ _ _ _ h => lz_m_X6_readFields ih h, fun _ _ h => lz_m_X6_readType ih h⟩
theorem lz_f_X6_readType {x1 : Int32} {s : t_S} (h_s : LZ s) : t_pq (f_X6_readType x1 s) (fun y => LZ y.2) := by
  unfold f_X6_readType
  exact ((LZB_X6_readFields_R 100).2 _ _ h_s)
theorem lz_f_X6_readTypeItem {s : t_S} (h_s : LZ s) : t_pq (f_X6_readTypeItem s) (fun y => LZ y) := by
  unfold f_X6_readTypeItem
  exact pc_bd (lz_f_X2_advance h_s) (fun r1 h_r1 => pc_bd (lz_f_X6_takeName h_r1) (fun r2 h_r2 => pc_if (fun _ => pc_some h_r2) (fun _ => pc_if (fun z1 => lz_st (LZ.set h_r2 ⟨by decide, by decide, fun y => absurd y.1 (by decide)⟩) (fun s1 h_s1 => lz_st (LZ.set h_s1 ⟨by decide, by decide, fun y => absurd y.1 (by decide)⟩) (fun s2 h_s2 => pc_bd (lz_f_X2_advance h_s2) (fun r4 h_r4 => pc_bd (lz_f_X2_need h_r4) (fun r5 h_r5 => pc_bd (lz_f_X6_readType h_r5) (fun r6 h_r6 => lz_st (LZ.set h_r6 ⟨by decide, by decide, fun y => absurd y.1 (by decide)⟩) (fun s3 h_s3 => pc_bd (lz_f_X2_need h_s3) (fun r7 h_r7 => pc_some h_r7)))))))) (fun _ => pc_none))))
def LZB_X6_readBase (n : Nat) (rc : RT_X6_readBase) : Prop := n ≤ 250 ∧ (∀ (x0 : Int32) (s : t_S), LZ s → t_pq (rc.1 x0 s) (fun y => LZ y)) ∧ (∀ (x0 : Int32) (s : t_S), LZ s → t_pq (rc.2.1 x0 s) (fun y => LZ y)) ∧ (∀ (x0 : Int32) (s : t_S), LZ s → t_pq (rc.2.2.1 x0 s) (fun y => LZ y.2)) ∧ (∀ (x0 : Int32) (s : t_S), LZ s → t_pq (rc.2.2.2.1 x0 s) (fun y => LZ y)) ∧ (∀ (x0 : Int32) (s : t_S), LZ s → t_pq (rc.2.2.2.2.1 x0 s) (fun y => LZ y.2)) ∧ (∀ (x0 : Int32) (x1 : Int32) (x2 : Int32) (x3 : Int32) (s : t_S), lzs n x2 x3 ∧ x1 ≠ 7 → LZ s → t_pq (rc.2.2.2.2.2.1 x0 x1 x2 x3 s) (fun y => LZ y)) ∧ (∀ (x0 : Int32) (s : t_S), LZ s → t_pq (rc.2.2.2.2.2.2.1 x0 s) (fun y => LZ y)) ∧ (∀ (x0 : Int32) (s : t_S), LZ s → t_pq (rc.2.2.2.2.2.2.2.1 x0 s) (fun y => LZ y)) ∧ (∀ (x0 : Int32) (x1 : Int32) (s : t_S), lzs n x0 x1 → LZ s → t_pq (rc.2.2.2.2.2.2.2.2.1 x0 x1 s) (fun y => LZ y.2)) ∧ (∀ (x0 : Int32) (x1 : Int32) (x2 : Int32) (s : t_S), lzt n x1 x2 → LZ s → t_pq (rc.2.2.2.2.2.2.2.2.2.1 x0 x1 x2 s) (fun y => LZ y)) ∧ (∀ (x0 : Int32) (x1 : Int32) (x2 : Int32) (x3 : Int32) (s : t_S), lzs n x2 x3 ∧ x1 ≠ 7 → LZ s → t_pq (rc.2.2.2.2.2.2.2.2.2.2.1 x0 x1 x2 x3 s) (fun y => LZ y)) ∧ (∀ (x0 : Int32) (x1 : Int32) (s : t_S), LZ s → t_pq (rc.2.2.2.2.2.2.2.2.2.2.2.1 x0 x1 s) (fun y => LZ y)) ∧ (∀ (x0 : Int32) (x1 : Int32) (x2 : Int32) (s : t_S), lzs n x1 x2 → LZ s → t_pq (rc.2.2.2.2.2.2.2.2.2.2.2.2.1 x0 x1 x2 s) (fun y => LZ y)) ∧ (∀ (x0 : Int32) (x1 : Int32) (s : t_S), lzq n x0 x1 → LZ s → t_pq (rc.2.2.2.2.2.2.2.2.2.2.2.2.2.1 x0 x1 s) (fun y => LZ y.2)) ∧ (∀ (x0 : Int32) (x1 : Int32) (x2 : Int32) (s : t_S), lzs n x1 x2 → LZ s → t_pq (rc.2.2.2.2.2.2.2.2.2.2.2.2.2.2.1 x0 x1 x2 s) (fun y => LZ y)) ∧ (∀ (x0 : Int32) (x1 : Int32) (x2 : Int32) (s : t_S), lzt n x1 x2 → LZ s → t_pq (rc.2.2.2.2.2.2.2.2.2.2.2.2.2.2.2 x0 x1 x2 s) (fun y => LZ y))
theorem lz_f_X0_emit {x1 : Int32} {x2 : Int32} {s : t_S} (h_s : LZ s) : t_pq (f_X0_emit x1 x2 s) (fun y => LZ y.2) := by
  unfold f_X0_emit
  exact pc_if (fun _ => pc_if (fun z1 => lz_st (LZ.set h_s ⟨by decide, by decide, fun y => absurd y.1 (by decide)⟩) (fun s1 h_s1 => pc_if (fun z2 => lz_st (LZ.set h_s1 ⟨by decide, by decide, fun y => absurd y.1 (by decide)⟩) (fun s2 h_s2 => lz_st (LZ.set h_s2 ⟨by decide, by decide, fun y => absurd y.1 (by decide)⟩) (fun s3 h_s3 => pc_some h_s3))) (fun _ => pc_none))) (fun _ => pc_none)) (fun _ => pc_some h_s)
theorem lz_k_X6_emitWord_55 {l1 : Int32} {l2 : Int32} {k0 : Int32} {s : t_S} (h_s : LZ s) : t_pq (k_X6_emitWord_55 l1 l2 k0 s) (fun y => LZ y) := by
  unfold k_X6_emitWord_55
  exact pc_if (fun _ => pc_if (fun _ => pc_bd (lz_f_X0_emit h_s) (fun r2 h_r2 => pc_bd (lz_f_X3_add h_r2) (fun r3 h_r3 => pc_some h_r3))) (fun _ => pc_bd (lz_f_X0_emit h_s) (fun r4 h_r4 => pc_some h_r4))) (fun _ => pc_bd (lz_f_X0_emit h_s) (fun r5 h_r5 => pc_some h_r5))
theorem lz_k_X6_emitWord_31 {l1 : Int32} {k0 : Int32} {s : t_S} (h_s : LZ s) : t_pq (k_X6_emitWord_31 l1 k0 s) (fun y => LZ y) := by
  unfold k_X6_emitWord_31
  exact pc_if (fun _ => (lz_k_X6_emitWord_55 h_s)) (fun _ => pc_bd pc_any (fun r1 h_r1 => (lz_k_X6_emitWord_55 h_s)))
theorem lz_f_X6_emitWord {s : t_S} (h_s : LZ s) : t_pq (f_X6_emitWord s) (fun y => LZ y) := by
  unfold f_X6_emitWord
  exact pc_if (fun _ => (lz_k_X6_emitWord_31 h_s)) (fun _ => pc_bd pc_any (fun r2 h_r2 => (lz_k_X6_emitWord_31 h_s)))
theorem lz_k_X6_readBase_326 {rc : RT_X6_readBase} {l1 : Int32} {l2 : Int32} {s : t_S} (hrc : LZB_X6_readBase n rc) (h_s : LZ s) : t_pq (k_X6_readBase_326 rc l1 l2 s) (fun y => LZ y) := by
  unfold k_X6_readBase_326
  exact pc_bd (lz_f_X2_advance h_s) (fun r1 h_r1 => pc_if (fun _ => pc_bd (hrc.2.2.2.1 _ _ h_r1) (fun r2 h_r2 => pc_bd (lz_f_X2_need h_r2) (fun r3 h_r3 => pc_some h_r3))) (fun _ => pc_if (fun _ => pc_bd (hrc.2.2.1 _ _ h_r1) (fun r4 h_r4 => pc_some h_r4)) (fun _ => pc_if (fun _ => pc_bd (hrc.2.2.2.2.1 _ _ h_r1) (fun r5 h_r5 => pc_some h_r5)) (fun _ => pc_if (fun _ => pc_bd (hrc.2.2.2.2.2.2.2.1 _ _ h_r1) (fun r6 h_r6 => pc_some h_r6)) (fun _ => pc_if (fun _ => pc_bd (lz_f_X2_need h_r1) (fun r7 h_r7 => pc_bd (hrc.2.2.2.1 _ _ h_r7) (fun r8 h_r8 => pc_bd (lz_f_X2_need h_r8) (fun r9 h_r9 => pc_bd (lz_f_X0_emit h_r9) (fun r10 h_r10 => pc_some h_r10))))) (fun _ => pc_if (fun _ => pc_bd (lz_f_X0_emit h_r1) (fun r11 h_r11 => pc_bd (lz_f_X6_link h_r11) (fun r12 h_r12 => pc_some h_r12))) (fun _ => pc_some h_r1)))))))
theorem lz_f_X0_poolCell {x1 : Int64} {s : t_S} (h_s : LZ s) : t_pq (f_X0_poolCell x1 s) (fun y => LZ y.2) := by
  unfold f_X0_poolCell
  exact pc_if (fun _ => pc_if (fun z1 => lz_st (LZ.setJ h_s) (fun s1 h_s1 => lz_st (LZ.set h_s1 ⟨by decide, by decide, fun y => absurd y.1 (by decide)⟩) (fun s2 h_s2 => pc_some h_s2))) (fun _ => pc_none)) (fun _ => pc_some h_s)
theorem lz_f_X0_poolText {x1 : Int32} {s : t_S} (h_s : LZ s) : t_pq (f_X0_poolText x1 s) (fun y => LZ y.2) := by
  unfold f_X0_poolText
  exact pc_if (fun _ => pc_bd pc_any (fun r1 h_r1 => pc_if (fun z1 => lz_st (LZ.setJ h_s) (fun s1 h_s1 => lz_st (LZ.set h_s1 ⟨by decide, by decide, fun y => absurd y.1 (by decide)⟩) (fun s2 h_s2 => pc_some h_s2))) (fun _ => pc_none))) (fun _ => pc_some h_s)
theorem lz_k_X8_putSign_24 {l0 : Nat} {l2 : Int32} {l3 : Int32} {l4 : Int32} {s : t_S} (hl_l0 : ARz l0) (h_s : LZ s) : t_pq (k_X8_putSign_24 l0 l2 l3 l4 s) (fun y => LZ y) := by
  unfold k_X8_putSign_24
  exact pc_if (fun _ => pc_if (fun _ => lz_st (LZ.setJ h_s) (fun s1 h_s1 => pc_some h_s1)) (fun _ => pc_none)) (fun _ => pc_none)
theorem lz_f_X8_putSign {x1 : Nat} {x2 : Int32} {x3 : Int32} {x4 : Int32} {s : t_S} (hl_x1 : ARz x1) (h_s : LZ s) : t_pq (f_X8_putSign x1 x2 x3 x4 s) (fun y => LZ y) := by
  unfold f_X8_putSign
  exact pc_if (fun _ => pc_if (fun _ => pc_if (fun _ => lz_st (LZ.setJ h_s) (fun s1 h_s1 => (lz_k_X8_putSign_24 hl_x1 h_s1))) (fun _ => pc_none)) (fun _ => pc_none)) (fun _ => (lz_k_X8_putSign_24 hl_x1 h_s))
theorem lz_k_X6_poolText_18 {l1 : Int32} {l2 : Int32} {s : t_S} (h_s : LZ s) : t_pq (k_X6_poolText_18 l1 l2 s) (fun z => Sum.elim (fun y => LZ y.2.2) (fun y => LZ y.2) z) := by
  unfold k_X6_poolText_18
  exact pc_if (fun _ => pc_mp (pc_some h_s)) (fun _ => pc_bd pc_any (fun r1 h_r1 => pc_bd (lz_f_X8_putSign (show ARz 337 by unfold ARz; decide) h_s) (fun r2 h_r2 => pc_some h_r2)))
theorem lz_b_X6_poolText_18 {x9 : Int32 × Int32 × t_S} (h : LZ x9.2.2) : t_pq (b_X6_poolText_18 x9) (fun z => Sum.elim (fun y => LZ y.2.2) (fun y => LZ y.2) z) := lz_k_X6_poolText_18 h
theorem lz_f_X6_poolText {s : t_S} (h_s : LZ s) : t_pq (f_X6_poolText s) (fun y => LZ y.2) := by
  unfold f_X6_poolText
  exact pc_bd (lz_f_X0_poolText h_s) (fun r1 h_r1 => pc_lp (fun x h => lz_b_X6_poolText_18 h) h_r1)
theorem lz_k_X6_readBase_82 {rc : RT_X6_readBase} {l1 : Int32} {l2 : Int32} {s : t_S} (hrc : LZB_X6_readBase n rc) (h_s : LZ s) : t_pq (k_X6_readBase_82 rc l1 l2 s) (fun y => LZ y) := by
  unfold k_X6_readBase_82
  exact pc_if (fun _ => pc_bd (lz_f_X6_emitWord h_s) (fun r1 h_r1 => (lz_k_X6_readBase_326 hrc h_r1))) (fun _ => pc_if (fun _ => pc_bd (lz_f_X0_poolCell h_s) (fun r3 h_r3 => pc_bd (lz_f_X0_emit h_r3) (fun r4 h_r4 => (lz_k_X6_readBase_326 hrc h_r4)))) (fun _ => pc_if (fun _ => pc_bd (lz_f_X6_poolText h_s) (fun r5 h_r5 => pc_bd (lz_f_X0_emit h_r5) (fun r6 h_r6 => (lz_k_X6_readBase_326 hrc h_r6)))) (fun _ => pc_if (fun _ => pc_bd (lz_f_X0_poolCell h_s) (fun r8 h_r8 => pc_bd (lz_f_X0_emit h_r8) (fun r9 h_r9 => (lz_k_X6_readBase_326 hrc h_r9)))) (fun _ => pc_if (fun _ => pc_bd (lz_f_X0_poolCell h_s) (fun r11 h_r11 => pc_bd (lz_f_X0_emit h_r11) (fun r12 h_r12 => (lz_k_X6_readBase_326 hrc h_r12)))) (fun _ => pc_if (fun _ => pc_bd (lz_f_X0_poolCell h_s) (fun r13 h_r13 => pc_bd (lz_f_X0_emit h_r13) (fun r14 h_r14 => (lz_k_X6_readBase_326 hrc h_r14)))) (fun _ => pc_if (fun _ => pc_bd (lz_f_X0_emit h_s) (fun r15 h_r15 => (lz_k_X6_readBase_326 hrc h_r15))) (fun _ => pc_if (fun _ => pc_bd (lz_f_X0_emit h_s) (fun r16 h_r16 => (lz_k_X6_readBase_326 hrc h_r16))) (fun _ => pc_if (fun _ => pc_bd (lz_f_X0_emit h_s) (fun r17 h_r17 => (lz_k_X6_readBase_326 hrc h_r17))) (fun _ => (lz_k_X6_readBase_326 hrc h_s))))))))))
theorem lz_k_X6_readBase_55 {rc : RT_X6_readBase} {l1 : Int32} {l2 : Int32} {k0 : Int32} {s : t_S} (hrc : LZB_X6_readBase n rc) (h_s : LZ s) : t_pq (k_X6_readBase_55 rc l1 l2 k0 s) (fun y => LZ y) := by
  unfold k_X6_readBase_55
  exact pc_if (fun _ => (lz_k_X6_readBase_82 hrc h_s)) (fun _ => pc_if (fun _ => (lz_k_X6_readBase_82 hrc h_s)) (fun _ => pc_bd (lz_f_X3_late h_s) (fun r1 h_r1 => (lz_k_X6_readBase_82 hrc h_r1))))
theorem lz_k_X6_readBase_50 {rc : RT_X6_readBase} {l1 : Int32} {l2 : Int32} {s : t_S} (hrc : LZB_X6_readBase n rc) (h_s : LZ s) : t_pq (k_X6_readBase_50 rc l1 l2 s) (fun y => LZ y) := by
  unfold k_X6_readBase_50
  exact (lz_k_X6_readBase_55 hrc h_s)
theorem lz_m_X6_readBase {rc : RT_X6_readBase} {x1 : Int32} {s : t_S} (hrc : LZB_X6_readBase n rc) (h_s : LZ s) : t_pq (m_X6_readBase rc x1 s) (fun y => LZ y) := by
  unfold m_X6_readBase
  exact pc_if (fun _ => (lz_k_X6_readBase_50 hrc h_s)) (fun _ => pc_if (fun _ => (lz_k_X6_readBase_50 hrc h_s)) (fun _ => pc_if (fun _ => (lz_k_X6_readBase_50 hrc h_s)) (fun _ => pc_if (fun _ => (lz_k_X6_readBase_50 hrc h_s)) (fun _ => pc_if (fun _ => (lz_k_X6_readBase_50 hrc h_s)) (fun _ => pc_if (fun _ => (lz_k_X6_readBase_50 hrc h_s)) (fun _ => (lz_k_X6_readBase_55 hrc h_s)))))))
theorem lz_k_X6_readElements_23 {rc : RT_X6_readBase} {k0 : Int32} {s : t_S} (hrc : LZB_X6_readBase n rc) (h_s : LZ s) : t_pq (k_X6_readElements_23 rc k0 s) (fun y => LZ y) := by
  unfold k_X6_readElements_23
  exact pc_bd (lz_f_X2_need h_s) (fun r1 h_r1 => pc_bd (lz_f_X0_emit h_r1) (fun r2 h_r2 => pc_some h_r2))
theorem lz_m_X6_readElements {rc : RT_X6_readBase} {x1 : Int32} {s : t_S} (hrc : LZB_X6_readBase n rc) (h_s : LZ s) : t_pq (m_X6_readElements rc x1 s) (fun y => LZ y) := by
  unfold m_X6_readElements
  exact pc_if (fun _ => (lz_k_X6_readElements_23 hrc h_s)) (fun _ => pc_bd (hrc.2.2.2.2.2.1 _ _ h_s) (fun r1 h_r1 => (lz_k_X6_readElements_23 hrc h_r1)))
theorem lz_k_X6_lower_63 {l1 : Int32} {l2 : Int32} {s : t_S} (h_s : LZ s) : t_pq (k_X6_lower_63 l1 l2 s) (fun z => Sum.elim (fun y => LZ y.2.2) (fun y => LZ y) z) := by
  unfold k_X6_lower_63
  exact pc_bd (lz_f_X0_emit h_s) (fun r1 h_r1 => pc_if (fun z1 => pc_if (fun z2 => lz_st (LZ.set h_r1 ⟨by decide, by decide, fun y => absurd y.1 (by decide)⟩) (fun s1 h_s1 => pc_some h_s1)) (fun _ => pc_none)) (fun _ => pc_none))
theorem lz_k_X6_lower_29 {l1 : Int32} {l2 : Int32} {s : t_S} (h_s : LZ s) : t_pq (k_X6_lower_29 l1 l2 s) (fun z => Sum.elim (fun y => LZ y.2.2) (fun y => LZ y) z) := by
  unfold k_X6_lower_29
  exact lz_st (LZ.set h_s ⟨by decide, by decide, fun y => absurd y.1 (by decide)⟩) (fun s1 h_s1 => pc_if (fun z1 => pc_if (fun _ => (lz_k_X6_lower_63 h_s1)) (fun _ => pc_if (fun _ => (lz_k_X6_lower_63 h_s1)) (fun _ => pc_bd (lz_f_X0_emit h_s1) (fun r3 h_r3 => pc_some h_r3)))) (fun _ => pc_none))
theorem lz_k_X6_lower_0 {l1 : Int32} {l2 : Int32} {s : t_S} (h_s : LZ s) : t_pq (k_X6_lower_0 l1 l2 s) (fun z => Sum.elim (fun y => LZ y.2.2) (fun y => LZ y) z) := by
  unfold k_X6_lower_0
  exact pc_if (fun _ => pc_mp (pc_some h_s)) (fun _ => pc_bd pc_any (fun r1 h_r1 => pc_if (fun _ => (lz_k_X6_lower_29 h_s)) (fun _ => pc_bd pc_any (fun r2 h_r2 => pc_if (fun _ => pc_if (fun _ => pc_mp (pc_some h_s)) (fun _ => (lz_k_X6_lower_29 h_s))) (fun _ => pc_mp (pc_some h_s))))))
theorem lz_b_X6_lower_0 {x9 : Int32 × Int32 × t_S} (h : LZ x9.2.2) : t_pq (b_X6_lower_0 x9) (fun z => Sum.elim (fun y => LZ y.2.2) (fun y => LZ y) z) := lz_k_X6_lower_0 h
theorem lz_f_X6_lower {x1 : Int32} {x2 : Int32} {s : t_S} (h_s : LZ s) : t_pq (f_X6_lower x1 x2 s) (fun y => LZ y) := by
  unfold f_X6_lower
  exact pc_lp (fun x h => lz_b_X6_lower_0 h) h_s
theorem lz_k_X6_readExp_175 {rc : RT_X6_readBase} {l1 : Int32} {l2 : Int32} {l3 : Int32} {s : t_S} (hrc : LZB_X6_readBase n rc) (h_s : LZ s) : t_pq (k_X6_readExp_175 rc l1 l2 l3 s) (fun y => LZ y.2) := by
  unfold k_X6_readExp_175
  exact pc_bd (lz_f_X6_lower h_s) (fun r1 h_r1 => pc_if (fun _ => pc_bd (lz_f_X0_emit h_r1) (fun r2 h_r2 => pc_some h_r2)) (fun _ => pc_some h_r1))
theorem lz_f_X6_pushWaiting {x1 : Int32} {x2 : Int32} {s : t_S} (h_s : LZ s) : t_pq (f_X6_pushWaiting x1 x2 s) (fun y => LZ y) := by
  unfold f_X6_pushWaiting
  exact pc_if (fun _ => pc_if (fun z1 => lz_st (LZ.set h_s ⟨by decide, by decide, fun y => absurd y.1 (by decide)⟩) (fun s1 h_s1 => pc_if (fun z2 => lz_st (LZ.set h_s1 ⟨by decide, by decide, fun y => absurd y.1 (by decide)⟩) (fun s2 h_s2 => lz_st (LZ.set h_s2 ⟨by decide, by decide, fun y => absurd y.1 (by decide)⟩) (fun s3 h_s3 => pc_some h_s3))) (fun _ => pc_none))) (fun _ => pc_none)) (fun _ => pc_some h_s)
theorem lz_k_X6_pushOperator_36 {l1 : Int32} {l2 : Int32} {s : t_S} (h_s : LZ s) : t_pq (k_X6_pushOperator_36 l1 l2 s) (fun y => LZ y) := by
  unfold k_X6_pushOperator_36
  exact pc_bd (lz_f_X6_pushWaiting h_s) (fun r1 h_r1 => pc_some h_r1)
theorem lz_k_X6_pushOperator_19 {l1 : Int32} {l2 : Int32} {s : t_S} (h_s : LZ s) : t_pq (k_X6_pushOperator_19 l1 l2 s) (fun y => LZ y) := by
  unfold k_X6_pushOperator_19
  exact pc_if (fun _ => pc_bd (lz_f_X0_emit h_s) (fun r1 h_r1 => (lz_k_X6_pushOperator_36 h_r1))) (fun _ => (lz_k_X6_pushOperator_36 h_s))
theorem lz_f_X6_pushOperator {x1 : Int32} {s : t_S} (h_s : LZ s) : t_pq (f_X6_pushOperator x1 s) (fun y => LZ y) := by
  unfold f_X6_pushOperator
  exact pc_if (fun _ => pc_bd (lz_f_X0_emit h_s) (fun r1 h_r1 => (lz_k_X6_pushOperator_19 h_r1))) (fun _ => (lz_k_X6_pushOperator_19 h_s))
theorem lz_k_X6_readExp_125 {rc : RT_X6_readBase} {l1 : Int32} {l2 : Int32} {l3 : Int32} {l4 : Int32} {s : t_S} (hrc : LZB_X6_readBase n rc) (h_s : LZ s) : t_pq (k_X6_readExp_125 rc l1 l2 l3 l4 s) (fun z => Sum.elim (fun y => LZ y.2.2.2.2) (fun y => LZ y.2) z) := by
  unfold k_X6_readExp_125
  exact pc_bd (lz_f_X6_node h_s) (fun r1 h_r1 => pc_if (fun _ => pc_bd (lz_f_X6_pushOperator h_r1) (fun r2 h_r2 => pc_bd (lz_f_X2_advance h_r2) (fun r3 h_r3 => pc_bd (hrc.2.2.2.2.2.2.2.2.1 _ _ h_r3) (fun r4 h_r4 => pc_some h_r4)))) (fun _ => pc_mp ((lz_k_X6_readExp_175 hrc h_r1))))
theorem lz_k_X6_readExp_60 {rc : RT_X6_readBase} {l1 : Int32} {l2 : Int32} {l3 : Int32} {l4 : Int32} {s : t_S} (hrc : LZB_X6_readBase n rc) (h_s : LZ s) : t_pq (k_X6_readExp_60 rc l1 l2 l3 l4 s) (fun z => Sum.elim (fun y => LZ y.2.2.2.2) (fun y => LZ y.2) z) := by
  unfold k_X6_readExp_60
  exact pc_if (fun _ => pc_mp ((lz_k_X6_readExp_175 hrc h_s))) (fun _ => pc_if (fun _ => pc_mp ((lz_k_X6_readExp_175 hrc h_s))) (fun _ => pc_bd (lz_f_X6_lower h_s) (fun r2 h_r2 => pc_if (fun _ => pc_if (fun _ => (lz_k_X6_readExp_125 hrc h_r2)) (fun _ => pc_bd pc_any (fun r3 h_r3 => pc_if (fun _ => pc_bd (lz_f_X2_fail h_r2) (fun r4 h_r4 => (lz_k_X6_readExp_125 hrc h_r4))) (fun _ => (lz_k_X6_readExp_125 hrc h_r2))))) (fun _ => (lz_k_X6_readExp_125 hrc h_r2)))))
theorem lz_b_X6_readExp_60 {rc : RT_X6_readBase} {x9 : Int32 × Int32 × Int32 × Int32 × t_S} (hrc : LZB_X6_readBase n rc) (h : LZ x9.2.2.2.2) : t_pq (b_X6_readExp_60 rc x9) (fun z => Sum.elim (fun y => LZ y.2.2.2.2) (fun y => LZ y.2) z) := lz_k_X6_readExp_60 hrc h
theorem lz_k_X6_readExp_43 {rc : RT_X6_readBase} {l1 : Int32} {l2 : Int32} {s : t_S} (hrc : LZB_X6_readBase n rc) (h_s : LZ s) : t_pq (k_X6_readExp_43 rc l1 l2 s) (fun y => LZ y.2) := by
  unfold k_X6_readExp_43
  exact pc_bd (hrc.2.2.2.2.2.2.2.2.1 _ _ h_s) (fun r1 h_r1 => pc_lp (fun x h => lz_b_X6_readExp_60 hrc h) h_r1)
theorem lz_k_X6_readExp_29 {rc : RT_X6_readBase} {l1 : Int32} {l2 : Int32} {s : t_S} (hrc : LZB_X6_readBase n rc) (h_s : LZ s) : t_pq (k_X6_readExp_29 rc l1 l2 s) (fun y => LZ y.2) := by
  unfold k_X6_readExp_29
  exact pc_if (fun _ => (lz_k_X6_readExp_43 hrc h_s)) (fun _ => pc_bd (lz_f_X2_fail h_s) (fun r1 h_r1 => (lz_k_X6_readExp_43 hrc h_r1)))
theorem lz_m_X6_readExp {rc : RT_X6_readBase} {x1 : Int32} {s : t_S} (hrc : LZB_X6_readBase n rc) (h_s : LZ s) : t_pq (m_X6_readExp rc x1 s) (fun y => LZ y.2) := by
  unfold m_X6_readExp
  exact pc_if (fun _ => pc_bd (lz_f_X2_fail h_s) (fun r2 h_r2 => (lz_k_X6_readExp_29 hrc h_r2))) (fun _ => (lz_k_X6_readExp_29 hrc h_s))
theorem lz_k_X6_readExpFields_190 {rc : RT_X6_readBase} {l2 : Int32} {l3 : Int32} {s : t_S} (hrc : LZB_X6_readBase n rc) (h_s : LZ s) : t_pq (k_X6_readExpFields_190 rc l2 l3 s) (fun z => Sum.elim (fun y => LZ y.2.2) (fun y => LZ y) z) := by
  unfold k_X6_readExpFields_190
  exact pc_if (fun _ => pc_mp (lz_st (LZ.set h_s ⟨by decide, by decide, fun y => absurd y.1 (by decide)⟩) (fun s1 h_s1 => pc_some h_s1))) (fun _ => pc_if (fun z1 => pc_bd (lz_f_X0_emit h_s) (fun r2 h_r2 => pc_some h_r2)) (fun _ => pc_none))
theorem lz_b_X6_readExpFields_190 {rc : RT_X6_readBase} {x9 : Int32 × Int32 × t_S} (hrc : LZB_X6_readBase n rc) (h : LZ x9.2.2) : t_pq (b_X6_readExpFields_190 rc x9) (fun z => Sum.elim (fun y => LZ y.2.2) (fun y => LZ y) z) := lz_k_X6_readExpFields_190 hrc h
theorem lz_k_X6_readExpFields_163 {rc : RT_X6_readBase} {l2 : Int32} {s : t_S} (hrc : LZB_X6_readBase n rc) (h_s : LZ s) : t_pq (k_X6_readExpFields_163 rc l2 s) (fun y => LZ y) := by
  unfold k_X6_readExpFields_163
  exact pc_bd (lz_f_X2_need h_s) (fun r1 h_r1 => pc_bd (lz_f_X0_emit h_r1) (fun r2 h_r2 => pc_lp (fun x h => lz_b_X6_readExpFields_190 hrc h) h_r2))
theorem lz_k_X6_takeFieldName_62 {l1 : Int32} {s : t_S} (h_s : LZ s) : t_pq (k_X6_takeFieldName_62 l1 s) (fun y => LZ y.2) := by
  unfold k_X6_takeFieldName_62
  exact pc_bd (lz_f_X2_advance h_s) (fun r1 h_r1 => pc_some h_r1)
theorem lz_k_X6_takeFieldName_19 {s : t_S} (h_s : LZ s) : t_pq (k_X6_takeFieldName_19 s) (fun y => LZ y.2) := by
  unfold k_X6_takeFieldName_19
  exact pc_if (fun _ => pc_if (fun _ => (lz_k_X6_takeFieldName_62 h_s)) (fun _ => pc_bd (lz_f_X3_late h_s) (fun r2 h_r2 => (lz_k_X6_takeFieldName_62 h_r2)))) (fun _ => pc_some h_s)
theorem lz_f_X6_takeFieldName {s : t_S} (h_s : LZ s) : t_pq (f_X6_takeFieldName s) (fun y => LZ y.2) := by
  unfold f_X6_takeFieldName
  exact pc_if (fun _ => (lz_k_X6_takeFieldName_19 h_s)) (fun _ => pc_bd (lz_f_X2_fail h_s) (fun r1 h_r1 => (lz_k_X6_takeFieldName_19 h_r1)))
theorem lz_k_X6_readExpFields_87 {rc : RT_X6_readBase} {l1 : Int32} {l2 : Int32} {l3 : Int32} {s : t_S} (hrc : LZB_X6_readBase n rc) (h_s : LZ s) : t_pq (k_X6_readExpFields_87 rc l1 l2 l3 s) (fun z => Sum.elim (fun y => LZ y.2.2.2) (fun y => LZ y) z) := by
  unfold k_X6_readExpFields_87
  exact pc_bd (lz_f_X6_node h_s) (fun r1 h_r1 => pc_if (fun _ => pc_bd (lz_f_X6_takeFieldName h_r1) (fun r2 h_r2 => pc_if (fun z1 => lz_st (LZ.set h_r2 ⟨by decide, by decide, fun y => absurd y.1 (by decide)⟩) (fun s1 h_s1 => lz_st (LZ.set h_s1 ⟨by decide, by decide, fun y => absurd y.1 (by decide)⟩) (fun s2 h_s2 => pc_bd (lz_f_X2_need h_s2) (fun r4 h_r4 => pc_bd (hrc.2.2.2.1 _ _ h_r4) (fun r5 h_r5 => pc_bd (lz_f_X2_take h_r5) (fun r6 h_r6 => pc_if (fun _ => pc_mp ((lz_k_X6_readExpFields_163 hrc h_r6))) (fun _ => pc_some h_r6))))))) (fun _ => pc_none))) (fun _ => pc_mp (pc_some h_r1)))
theorem lz_k_X6_readExpFields_19 {rc : RT_X6_readBase} {l1 : Int32} {l2 : Int32} {l3 : Int32} {s : t_S} (hrc : LZB_X6_readBase n rc) (h_s : LZ s) : t_pq (k_X6_readExpFields_19 rc l1 l2 l3 s) (fun z => Sum.elim (fun y => LZ y.2.2.2) (fun y => LZ y) z) := by
  unfold k_X6_readExpFields_19
  exact pc_if (fun _ => pc_mp ((lz_k_X6_readExpFields_163 hrc h_s))) (fun _ => pc_if (fun _ => pc_bd pc_any (fun r2 h_r2 => pc_if (fun _ => pc_if (fun _ => pc_bd (lz_f_X2_fail h_s) (fun r3 h_r3 => (lz_k_X6_readExpFields_87 hrc h_r3))) (fun _ => (lz_k_X6_readExpFields_87 hrc h_s))) (fun _ => pc_bd (lz_f_X2_fail h_s) (fun r4 h_r4 => (lz_k_X6_readExpFields_87 hrc h_r4))))) (fun _ => pc_bd (lz_f_X2_fail h_s) (fun r5 h_r5 => (lz_k_X6_readExpFields_87 hrc h_r5))))
theorem lz_b_X6_readExpFields_19 {rc : RT_X6_readBase} {x9 : Int32 × Int32 × Int32 × t_S} (hrc : LZB_X6_readBase n rc) (h : LZ x9.2.2.2) : t_pq (b_X6_readExpFields_19 rc x9) (fun z => Sum.elim (fun y => LZ y.2.2.2) (fun y => LZ y) z) := lz_k_X6_readExpFields_19 hrc h
theorem lz_m_X6_readExpFields {rc : RT_X6_readBase} {x1 : Int32} {s : t_S} (hrc : LZB_X6_readBase n rc) (h_s : LZ s) : t_pq (m_X6_readExpFields rc x1 s) (fun y => LZ y) := by
  unfold m_X6_readExpFields
  exact pc_if (fun _ => (lz_k_X6_readExpFields_163 hrc h_s)) (fun _ => pc_lp (fun x h => lz_b_X6_readExpFields_19 hrc h) h_s)
theorem lz_k_X6_readExps_45 {rc : RT_X6_readBase} {l1 : Int32} {l2 : Int32} {s : t_S} (hrc : LZB_X6_readBase n rc) (h_s : LZ s) : t_pq (k_X6_readExps_45 rc l1 l2 s) (fun z => Sum.elim (fun y => LZ y.2.2) (fun y => LZ y.2) z) := by
  unfold k_X6_readExps_45
  exact pc_bd (hrc.2.2.2.1 _ _ h_s) (fun r1 h_r1 => pc_bd (lz_f_X2_take h_r1) (fun r2 h_r2 => pc_if (fun _ => pc_mp (pc_some h_r2)) (fun _ => pc_some h_r2)))
theorem lz_k_X6_readExps_2 {rc : RT_X6_readBase} {l1 : Int32} {l2 : Int32} {s : t_S} (hrc : LZB_X6_readBase n rc) (h_s : LZ s) : t_pq (k_X6_readExps_2 rc l1 l2 s) (fun z => Sum.elim (fun y => LZ y.2.2) (fun y => LZ y.2) z) := by
  unfold k_X6_readExps_2
  exact pc_if (fun _ => pc_mp (pc_some h_s)) (fun _ => pc_if (fun _ => pc_if (fun _ => pc_if (fun _ => (lz_k_X6_readExps_45 hrc h_s)) (fun _ => pc_bd (lz_f_X2_fail h_s) (fun r2 h_r2 => (lz_k_X6_readExps_45 hrc h_r2)))) (fun _ => (lz_k_X6_readExps_45 hrc h_s))) (fun _ => pc_mp (pc_some h_s)))
theorem lz_b_X6_readExps_2 {rc : RT_X6_readBase} {x9 : Int32 × Int32 × t_S} (hrc : LZB_X6_readBase n rc) (h : LZ x9.2.2) : t_pq (b_X6_readExps_2 rc x9) (fun z => Sum.elim (fun y => LZ y.2.2) (fun y => LZ y.2) z) := lz_k_X6_readExps_2 hrc h
theorem lz_m_X6_readExps {rc : RT_X6_readBase} {x1 : Int32} {s : t_S} (hrc : LZB_X6_readBase n rc) (h_s : LZ s) : t_pq (m_X6_readExps rc x1 s) (fun y => LZ y.2) := by
  unfold m_X6_readExps
  exact pc_lp (fun x h => lz_b_X6_readExps_2 hrc h) h_s
theorem lz_k_X6_readInner_131 {s : t_S} {rc : RT_X6_readBase} (h : LZ s) : t_pq (k_X6_readInner_131 rc s) (fun y => LZ y) := by
  unfold k_X6_readInner_131
  exact pc_bd (lz_f_X2_need h) (fun r1 h1 => pc_some h1)
theorem lz_k_X6_readInner_106 {l1 l3 l4 l6 l7 : Int32} {s : t_S} {rc : RT_X6_readBase} (hy : lzs (n + 1) l3 l4) (h : LZ s) : t_pq (k_X6_readInner_106 rc l1 l3 l4 l6 l7 s) (fun z => Sum.elim (fun y => lzs (n + 1) y.2.1 y.2.2.1 ∧ LZ y.2.2.2.2.2) (fun y => LZ y) z) := by
  unfold k_X6_readInner_106
  exact pc_bd (lz_f_X2_take h) (fun r1 h1 => pc_if (fun _ => pc_mp (lz_k_X6_readInner_131 h1)) (fun _ => pc_some ⟨hy, h1⟩))
theorem lz_k_X6_readInner_51 {l1 l3 l4 l5 l6 : Int32} {s : t_S} {rc : RT_X6_readBase} (hrc : LZB_X6_readBase n rc) (hy : lzs (n + 1) l3 l4) (h : LZ s) : t_pq (k_X6_readInner_51 rc l1 l3 l4 l5 l6 s) (fun z => Sum.elim (fun y => lzs (n + 1) y.2.1 y.2.2.1 ∧ LZ y.2.2.2.2.2) (fun y => LZ y) z) := by
  unfold k_X6_readInner_51
  exact pc_bd (hrc.2.2.2.2.2.2.2.2.2.2.2.2.2.2.1 _ _ _ hy.up h) (fun r1 h1 => pc_if (fun _ => pc_if (fun _ => pc_if (fun _ => lz_st (LZ.set h1 ⟨by decide, by decide, fun y => absurd y.1 (by decide)⟩) (fun s2 h2 => lz_k_X6_readInner_106 hy h2)) (fun _ => pc_none)) (fun _ => pc_if (fun _ => lz_st (LZ.set h1 ⟨by decide, by decide, fun y => absurd y.1 (by decide)⟩) (fun s2 h2 => lz_k_X6_readInner_106 hy h2)) (fun _ => pc_none))) (fun _ => pc_mp (pc_some h1)))
theorem lz_k_X6_readInner_16 {l1 l3 l4 l5 l6 : Int32} {s : t_S} {rc : RT_X6_readBase} (hrc : LZB_X6_readBase n rc) (hy : lzs (n + 1) l3 l4) (h : LZ s) : t_pq (k_X6_readInner_16 rc l1 l3 l4 l5 l6 s) (fun z => Sum.elim (fun y => lzs (n + 1) y.2.1 y.2.2.1 ∧ LZ y.2.2.2.2.2) (fun y => LZ y) z) := by
  unfold k_X6_readInner_16
  exact pc_if (fun _ => pc_mp (lz_k_X6_readInner_131 h)) (fun _ => pc_if (fun _ => pc_if (fun _ => lz_k_X6_readInner_51 hrc hy h) (fun _ => pc_bd (lz_f_X2_fail h) (fun r2 h2 => lz_k_X6_readInner_51 hrc hy h2))) (fun _ => lz_k_X6_readInner_51 hrc hy h))
theorem lz_m_X6_readInner {x1 x2 x3 x4 : Int32} {s : t_S} {rc : RT_X6_readBase} (hrc : LZB_X6_readBase n rc) (hy : lzs (n + 1) x3 x4 ∧ x2 ≠ 7) (h : LZ s) : t_pq (m_X6_readInner rc x1 x2 x3 x4 s) (fun y => LZ y) := by
  unfold m_X6_readInner
  exact pc_if (fun _ => lz_st (h.kind hy.2) (fun s1 h1 => pc_lp (I := fun y => lzs (n + 1) y.2.1 y.2.2.1 ∧ LZ y.2.2.2.2.2) (fun x hx => by
    obtain ⟨a1, a2, a3, a4, a5, a6⟩ := x
    show t_pq (k_X6_readInner_16 rc a1 a2 a3 a4 a5 a6) _
    exact lz_k_X6_readInner_16 hrc hx.1 hx.2) ⟨hy.1, h1⟩)) (fun _ => pc_none)
theorem lz_m_X6_readMet {rc : RT_X6_readBase} {x1 : Int32} {s : t_S} (hrc : LZB_X6_readBase n rc) (h_s : LZ s) : t_pq (m_X6_readMet rc x1 s) (fun y => LZ y) := by
  unfold m_X6_readMet
  exact pc_bd (lz_f_X2_need h_s) (fun r1 h_r1 => pc_bd (hrc.2.2.2.1 _ _ h_r1) (fun r2 h_r2 => pc_bd (lz_f_X2_need h_r2) (fun r3 h_r3 => pc_bd (hrc.2.2.2.2.2.2.2.2.2.2.2.2.2.2.1 _ _ _ (lq_far hrc.1) h_r3) (fun r4 h_r4 => pc_bd (lz_f_X0_emit h_r4) (fun r5 h_r5 => pc_bd (lz_f_X2_need h_r5) (fun r6 h_r6 => pc_some h_r6))))))
theorem lz_k_X6_readOne_313 {rc : RT_X6_readBase} {l2 : Int32} {s : t_S} (hrc : LZB_X6_readBase n rc) (h_s : LZ s) : t_pq (k_X6_readOne_313 rc l2 s) (fun z => Sum.elim (fun y => LZ y.2) (fun y => LZ y) z) := by
  unfold k_X6_readOne_313
  exact pc_if (fun _ => pc_mp (pc_some h_s)) (fun _ => lz_st (LZ.set h_s ⟨by decide, by decide, fun y => absurd y.1 (by decide)⟩) (fun s1 h_s1 => pc_if (fun z1 => pc_if (fun z2 => pc_bd (lz_f_X0_emit h_s1) (fun r3 h_r3 => pc_some h_r3)) (fun _ => pc_none)) (fun _ => pc_none)))
theorem lz_b_X6_readOne_313 {rc : RT_X6_readBase} {x9 : Int32 × t_S} (hrc : LZB_X6_readBase n rc) (h : LZ x9.2) : t_pq (b_X6_readOne_313 rc x9) (fun z => Sum.elim (fun y => LZ y.2) (fun y => LZ y) z) := lz_k_X6_readOne_313 hrc h
theorem lz_k_X6_readOne_307 {rc : RT_X6_readBase} {l1 : Int32} {l2 : Int32} {l3 : Int32} {s : t_S} (hrc : LZB_X6_readBase n rc) (h_s : LZ s) : t_pq (k_X6_readOne_307 rc l1 l2 l3 s) (fun z => Sum.elim (fun y => LZ y.2.2.2) (fun y => LZ y) z) := by
  unfold k_X6_readOne_307
  exact pc_some h_s
theorem lz_k_X6_readOne_230 {rc : RT_X6_readBase} {l1 : Int32} {l2 : Int32} {l3 : Int32} {s : t_S} (hrc : LZB_X6_readBase n rc) (h_s : LZ s) : t_pq (k_X6_readOne_230 rc l1 l2 l3 s) (fun z => Sum.elim (fun y => LZ y.2.2.2) (fun y => LZ y) z) := by
  unfold k_X6_readOne_230
  exact pc_bd (lz_f_X6_node h_s) (fun r1 h_r1 => pc_bd (lz_f_X2_take h_r1) (fun r2 h_r2 => pc_if (fun _ => pc_bd (lz_f_X2_take h_r2) (fun r3 h_r3 => pc_if (fun _ => (lz_k_X6_readOne_307 hrc h_r3)) (fun _ => pc_bd (hrc.2.2.2.1 _ _ h_r3) (fun r4 h_r4 => pc_bd (lz_f_X2_need h_r4) (fun r5 h_r5 => pc_bd (lz_f_X0_emit h_r5) (fun r6 h_r6 => (lz_k_X6_readOne_307 hrc h_r6))))))) (fun _ => pc_bd (lz_f_X6_takeFieldName h_r2) (fun r7 h_r7 => pc_bd (lz_f_X0_emit h_r7) (fun r8 h_r8 => (lz_k_X6_readOne_307 hrc h_r8))))))
theorem lz_k_X6_readOne_186 {rc : RT_X6_readBase} {l1 : Int32} {l2 : Int32} {l3 : Int32} {s : t_S} (hrc : LZB_X6_readBase n rc) (h_s : LZ s) : t_pq (k_X6_readOne_186 rc l1 l2 l3 s) (fun z => Sum.elim (fun y => LZ y.2.2.2) (fun y => LZ y) z) := by
  unfold k_X6_readOne_186
  exact pc_if (fun _ => pc_mp (pc_lp (fun x h => lz_b_X6_readOne_313 hrc h) h_s)) (fun _ => pc_if (fun _ => pc_if (fun _ => (lz_k_X6_readOne_230 hrc h_s)) (fun _ => pc_if (fun _ => (lz_k_X6_readOne_230 hrc h_s)) (fun _ => pc_mp (pc_lp (fun x h => lz_b_X6_readOne_313 hrc h) h_s)))) (fun _ => pc_mp (pc_lp (fun x h => lz_b_X6_readOne_313 hrc h) h_s)))
theorem lz_b_X6_readOne_186 {rc : RT_X6_readBase} {x9 : Int32 × Int32 × Int32 × t_S} (hrc : LZB_X6_readBase n rc) (h : LZ x9.2.2.2) : t_pq (b_X6_readOne_186 rc x9) (fun z => Sum.elim (fun y => LZ y.2.2.2) (fun y => LZ y) z) := lz_k_X6_readOne_186 hrc h
theorem lz_k_X6_readOne_184 {rc : RT_X6_readBase} {l1 : Int32} {l2 : Int32} {s : t_S} (hrc : LZB_X6_readBase n rc) (h_s : LZ s) : t_pq (k_X6_readOne_184 rc l1 l2 s) (fun y => LZ y) := by
  unfold k_X6_readOne_184
  exact pc_lp (fun x h => lz_b_X6_readOne_186 hrc h) h_s
theorem lz_k_X6_readOne_165 {rc : RT_X6_readBase} {l1 : Int32} {l2 : Int32} {s : t_S} (hrc : LZB_X6_readBase n rc) (h_s : LZ s) : t_pq (k_X6_readOne_165 rc l1 l2 s) (fun y => LZ y) := by
  unfold k_X6_readOne_165
  exact pc_bd (lz_f_X6_node h_s) (fun r1 h_r1 => pc_if (fun _ => pc_bd (hrc.2.1 _ _ h_r1) (fun r2 h_r2 => (lz_k_X6_readOne_184 hrc h_r2))) (fun _ => (lz_k_X6_readOne_184 hrc h_r1)))
theorem lz_k_X6_readOne_144 {rc : RT_X6_readBase} {l1 : Int32} {l2 : Int32} {s : t_S} (hrc : LZB_X6_readBase n rc) (h_s : LZ s) : t_pq (k_X6_readOne_144 rc l1 l2 s) (fun y => LZ y) := by
  unfold k_X6_readOne_144
  exact pc_if (fun _ => pc_bd (lz_f_X2_fail h_s) (fun r2 h_r2 => (lz_k_X6_readOne_165 hrc h_r2))) (fun _ => (lz_k_X6_readOne_165 hrc h_s))
theorem lz_k_X6_readOne_138 {rc : RT_X6_readBase} {l1 : Int32} {l2 : Int32} {l3 : Int32} {s : t_S} (hrc : LZB_X6_readBase n rc) (h_s : LZ s) : t_pq (k_X6_readOne_138 rc l1 l2 l3 s) (fun z => Sum.elim (fun y => LZ y.2.2.2) (fun y => LZ y) z) := by
  unfold k_X6_readOne_138
  exact pc_some h_s
theorem lz_k_X6_readOne_65 {rc : RT_X6_readBase} {l1 : Int32} {l2 : Int32} {l3 : Int32} {l4 : Int32} {s : t_S} (hrc : LZB_X6_readBase n rc) (h_s : LZ s) : t_pq (k_X6_readOne_65 rc l1 l2 l3 l4 s) (fun z => Sum.elim (fun y => LZ y.2.2.2) (fun y => LZ y) z) := by
  unfold k_X6_readOne_65
  exact pc_bd (lz_f_X6_node h_s) (fun r1 h_r1 => pc_bd (lz_f_X2_advance h_r1) (fun r2 h_r2 => pc_if (fun _ => pc_bd (lz_f_X6_pushWaiting h_r2) (fun r7 h_r7 => (lz_k_X6_readOne_138 hrc h_r7))) (fun _ => pc_if (fun _ => pc_bd (lz_f_X6_pushWaiting h_r2) (fun r6 h_r6 => (lz_k_X6_readOne_138 hrc h_r6))) (fun _ => pc_if (fun _ => pc_bd (lz_f_X6_pushWaiting h_r2) (fun r5 h_r5 => (lz_k_X6_readOne_138 hrc h_r5))) (fun _ => pc_bd (lz_f_X6_takeFieldName h_r2) (fun r3 h_r3 => pc_bd (lz_f_X6_pushWaiting h_r3) (fun r4 h_r4 => (lz_k_X6_readOne_138 hrc h_r4))))))))
theorem lz_k_X6_readOne_7 {rc : RT_X6_readBase} {l1 : Int32} {l2 : Int32} {l3 : Int32} {s : t_S} (hrc : LZB_X6_readBase n rc) (h_s : LZ s) : t_pq (k_X6_readOne_7 rc l1 l2 l3 s) (fun z => Sum.elim (fun y => LZ y.2.2.2) (fun y => LZ y) z) := by
  unfold k_X6_readOne_7
  exact pc_if (fun _ => pc_mp ((lz_k_X6_readOne_144 hrc h_s))) (fun _ => pc_if (fun _ => pc_if (fun _ => (lz_k_X6_readOne_65 hrc h_s)) (fun _ => pc_if (fun _ => (lz_k_X6_readOne_65 hrc h_s)) (fun _ => pc_if (fun _ => (lz_k_X6_readOne_65 hrc h_s)) (fun _ => pc_if (fun _ => (lz_k_X6_readOne_65 hrc h_s)) (fun _ => pc_mp ((lz_k_X6_readOne_144 hrc h_s))))))) (fun _ => pc_mp ((lz_k_X6_readOne_144 hrc h_s))))
theorem lz_b_X6_readOne_7 {rc : RT_X6_readBase} {x9 : Int32 × Int32 × Int32 × t_S} (hrc : LZB_X6_readBase n rc) (h : LZ x9.2.2.2) : t_pq (b_X6_readOne_7 rc x9) (fun z => Sum.elim (fun y => LZ y.2.2.2) (fun y => LZ y) z) := lz_k_X6_readOne_7 hrc h
theorem lz_m_X6_readOne {rc : RT_X6_readBase} {x1 : Int32} {s : t_S} (hrc : LZB_X6_readBase n rc) (h_s : LZ s) : t_pq (m_X6_readOne rc x1 s) (fun y => LZ y) := by
  unfold m_X6_readOne
  exact pc_lp (fun x h => lz_b_X6_readOne_7 hrc h) h_s
theorem lz_m_X6_readPerm {x1 x2 : Int32} {s : t_S} {rc : RT_X6_readBase} (hrc : LZB_X6_readBase n rc) (hy : lzs (n + 1) x1 x2) (h : LZ s) : t_pq (m_X6_readPerm rc x1 x2 s) (fun y => LZ y.2) := by
  unfold m_X6_readPerm
  exact pc_bd (lz_f_X6_node h) (fun r1 h1 => pc_if (fun _ => pc_bd (lz_f_X10_add hy.k h1) (fun r2 h2 => pc_bd (lz_f_X2_advance h2) (fun r3 h3 => pc_bd (hrc.2.2.2.2.2.2.2.2.2.2.2.1 _ _ _ _ _ ⟨hy.dn, by decide⟩ h3) (fun r4 h4 => pc_some h4)))) (fun _ => pc_some h1))
theorem lz_k_X6_readPieces_185 {s : t_S} {rc : RT_X6_readBase} (h : LZ s) : t_pq (k_X6_readPieces_185 rc s) (fun y => LZ y) := by
  unfold k_X6_readPieces_185
  exact pc_bd (lz_f_X2_need h) (fun r1 h1 => pc_some h1)
theorem lz_k_X6_readPieces_160 {l1 l2 l3 l5 l7 : Int32} {s : t_S} {rc : RT_X6_readBase} (hy : lzt (n + 1) l2 l3) (h : LZ s) : t_pq (k_X6_readPieces_160 rc l1 l2 l3 l5 l7 s) (fun z => Sum.elim (fun y => lzt (n + 1) y.2.1 y.2.2.1 ∧ LZ y.2.2.2.2.2) (fun y => LZ y) z) := by
  unfold k_X6_readPieces_160
  exact pc_bd (lz_f_X2_take h) (fun r1 h1 => pc_if (fun _ => pc_mp (lz_k_X6_readPieces_185 h1)) (fun _ => pc_some ⟨hy, h1⟩))
theorem lz_k_X6_readPieces_116 {l1 l2 l3 l4 l5 k0 : Int32} {s : t_S} {rc : RT_X6_readBase} (hy : lzt (n + 1) l2 l3) (h : LZ s) : t_pq (k_X6_readPieces_116 rc l1 l2 l3 l4 l5 k0 s) (fun z => Sum.elim (fun y => lzt (n + 1) y.2.1 y.2.2.1 ∧ LZ y.2.2.2.2.2) (fun y => LZ y) z) := by
  unfold k_X6_readPieces_116
  exact pc_if (fun _ => pc_if (fun _ => pc_if (fun _ => lz_st (LZ.set h ⟨by decide, by decide, fun y => absurd y.1 (by decide)⟩) (fun s2 h2 => lz_k_X6_readPieces_160 hy h2)) (fun _ => pc_none)) (fun _ => pc_if (fun _ => lz_st (LZ.set h ⟨by decide, by decide, fun y => absurd y.1 (by decide)⟩) (fun s2 h2 => lz_k_X6_readPieces_160 hy h2)) (fun _ => pc_none))) (fun _ => pc_mp (pc_some h))
theorem lz_k_X6_readPieces_90 {l1 l2 l3 l4 l5 l6 : Int32} {s : t_S} {rc : RT_X6_readBase} (hrc : LZB_X6_readBase n rc) (hy : lzt (n + 1) l2 l3) (h : LZ s) : t_pq (k_X6_readPieces_90 rc l1 l2 l3 l4 l5 l6 s) (fun z => Sum.elim (fun y => lzt (n + 1) y.2.1 y.2.2.1 ∧ LZ y.2.2.2.2.2) (fun y => LZ y) z) := by
  unfold k_X6_readPieces_90
  exact pc_if (fun _ => pc_bd (hrc.2.2.2.2.2.2.2.2.2.2.2.2.2.2.1 _ _ _ hy.up h) (fun r1 h1 => lz_k_X6_readPieces_116 hy h1)) (fun _ => pc_bd (hrc.2.2.2.2.2.2.2.2.2.1 _ _ _ hy.perm h) (fun r1 h1 => lz_k_X6_readPieces_116 hy h1))
theorem lz_k_X6_readPieces_82 {l1 l2 l3 l4 l5 l6 : Int32} {s : t_S} {rc : RT_X6_readBase} (hrc : LZB_X6_readBase n rc) (hy : lzt (n + 1) l2 l3) (h : LZ s) : t_pq (k_X6_readPieces_82 rc l1 l2 l3 l4 l5 l6 s) (fun z => Sum.elim (fun y => lzt (n + 1) y.2.1 y.2.2.1 ∧ LZ y.2.2.2.2.2) (fun y => LZ y) z) := by
  unfold k_X6_readPieces_82
  exact pc_bd (lz_f_X2_fail h) (fun r1 h1 => lz_k_X6_readPieces_90 hrc hy h1)
theorem lz_k_X6_readPieces_55 {l1 l2 l3 l4 l5 k0 : Int32} {s : t_S} {rc : RT_X6_readBase} (hrc : LZB_X6_readBase n rc) (hy : lzt (n + 1) l2 l3) (h : LZ s) : t_pq (k_X6_readPieces_55 rc l1 l2 l3 l4 l5 k0 s) (fun z => Sum.elim (fun y => lzt (n + 1) y.2.1 y.2.2.1 ∧ LZ y.2.2.2.2.2) (fun y => LZ y) z) := by
  unfold k_X6_readPieces_55
  exact pc_if (fun _ => pc_if (fun _ => pc_if (fun _ => lz_k_X6_readPieces_90 hrc hy h) (fun _ => lz_k_X6_readPieces_82 hrc hy h)) (fun _ => lz_k_X6_readPieces_82 hrc hy h)) (fun _ => lz_k_X6_readPieces_90 hrc hy h)
theorem lz_k_X6_readPieces_30 {l1 l2 l3 l4 l5 : Int32} {s : t_S} {rc : RT_X6_readBase} (hrc : LZB_X6_readBase n rc) (hy : lzt (n + 1) l2 l3) (h : LZ s) : t_pq (k_X6_readPieces_30 rc l1 l2 l3 l4 l5 s) (fun z => Sum.elim (fun y => lzt (n + 1) y.2.1 y.2.2.1 ∧ LZ y.2.2.2.2.2) (fun y => LZ y) z) := by
  unfold k_X6_readPieces_30
  exact pc_if (fun _ => pc_mp (lz_k_X6_readPieces_185 h)) (fun _ => pc_if (fun _ => lz_k_X6_readPieces_55 hrc hy h) (fun _ => lz_k_X6_readPieces_55 hrc hy h))
theorem lz_m_X6_readPieces {x1 x2 x3 : Int32} {s : t_S} {rc : RT_X6_readBase} (hrc : LZB_X6_readBase n rc) (hy : lzt (n + 1) x2 x3) (h : LZ s) : t_pq (m_X6_readPieces rc x1 x2 x3 s) (fun y => LZ y) := by
  unfold m_X6_readPieces
  exact pc_if (fun _ => lz_st (h.kind (by decide)) (fun s1 h1 => pc_bd (lz_f_X2_take h1) (fun r2 h2 => pc_if (fun _ => pc_lp (I := fun y => lzt (n + 1) y.2.1 y.2.2.1 ∧ LZ y.2.2.2.2.2) (fun x hx => by
    obtain ⟨a1, a2, a3, a4, a5, a6⟩ := x
    show t_pq (k_X6_readPieces_30 rc a1 a2 a3 a4 a5 a6) _
    exact lz_k_X6_readPieces_30 hrc hx.1 hx.2) ⟨hy, h2⟩) (fun _ => pc_some h2)))) (fun _ => pc_none)
theorem lz_m_X6_readRow {x1 x2 x3 x4 : Int32} {s : t_S} {rc : RT_X6_readBase} (hrc : LZB_X6_readBase n rc) (hy : lzs (n + 1) x3 x4 ∧ x2 ≠ 7) (h : LZ s) : t_pq (m_X6_readRow rc x1 x2 x3 x4 s) (fun y => LZ y) := by
  unfold m_X6_readRow
  exact pc_bd (lz_f_X2_need h) (fun r1 h1 => pc_bd (hrc.2.2.2.2.2.2.1 _ _ _ _ _ ⟨hy.1.dn, hy.2⟩ h1) (fun r2 h2 => pc_some h2))
theorem lz_m_X6_readSame {rc : RT_X6_readBase} {x1 : Int32} {x2 : Int32} {s : t_S} (hrc : LZB_X6_readBase n rc) (h_s : LZ s) : t_pq (m_X6_readSame rc x1 x2 s) (fun y => LZ y) := by
  unfold m_X6_readSame
  exact pc_if (fun z1 => lz_st (LZ.kind h_s (by decide)) (fun s1 h_s1 => pc_bd (lz_f_X2_need h_s1) (fun r2 h_r2 => pc_bd (hrc.2.2.2.1 _ _ h_r2) (fun r3 h_r3 => pc_bd (lz_f_X2_need h_r3) (fun r4 h_r4 => pc_bd (lz_f_X0_emit h_r4) (fun r5 h_r5 => pc_some h_r5)))))) (fun _ => pc_none)
theorem lz_k_X6_readTag_38 {l1 l2 l3 : Int32} {s : t_S} {rc : RT_X6_readBase} (hrc : LZB_X6_readBase n rc) (hy : lzs (n + 1) l2 l3) (h : LZ s) : t_pq (k_X6_readTag_38 rc l1 l2 l3 s) (fun y => LZ y) := by
  unfold k_X6_readTag_38
  exact pc_bd (lz_f_X2_need h) (fun r1 h1 => pc_bd (hrc.2.2.2.2.2.2.2.2.2.2.2.2.2.2.1 _ _ _ hy.up h1) (fun r2 h2 => pc_if (fun _ => lz_st (LZ.set h2 ⟨by decide, by decide, fun y => absurd y.1 (by decide)⟩) (fun s3 h3 => pc_some h3)) (fun _ => pc_none)))
theorem lz_m_X6_readTag {x1 x2 x3 : Int32} {s : t_S} {rc : RT_X6_readBase} (hrc : LZB_X6_readBase n rc) (hy : lzs (n + 1) x2 x3) (h : LZ s) : t_pq (m_X6_readTag rc x1 x2 x3 s) (fun y => LZ y) := by
  unfold m_X6_readTag
  exact pc_if (fun _ => lz_st (h.kind (by decide)) (fun s1 h1 => pc_if (fun _ => lz_st (LZ.set h1 ⟨by decide, by decide, fun y => absurd y.1 (by decide)⟩) (fun s2 h2 => lz_k_X6_readTag_38 hrc hy h2)) (fun _ => lz_k_X6_readTag_38 hrc hy h1))) (fun _ => pc_none)
theorem lz_k_X6_readTempl_95 {l3 : Int32} {s : t_S} {rc : RT_X6_readBase} (h : LZ s) : t_pq (k_X6_readTempl_95 rc l3 s) (fun y => LZ y.2) := by
  unfold k_X6_readTempl_95
  exact pc_bd (lz_f_X2_take h) (fun r1 h1 => pc_if (fun _ => pc_some h1) (fun _ => pc_if (fun _ => lz_st (LZ.set h1 ⟨by decide, by decide, fun y => absurd y.1 (by decide)⟩) (fun s1 h2 => pc_some h2)) (fun _ => pc_none)))
theorem lz_nodeF {s : t_S} : t_pq (f_X6_node s) (fun r => r.1 1 11 = 0 → s.1 1 11 = 0) := by
  unfold f_X6_node
  refine pc_if (fun _ => pc_lt (pc_some (fun y => ?_))) (fun _ => pc_bd (P := fun r => r.1 1 11 = 0 → s.1 1 11 = 0) ?_ (fun r h => pc_some h))
  · simp only [l2_gI, Nat.reduceEqDiff, false_and, reduceIte] at y
    exact y
  · exact lz_failF
theorem lz_k_X6_readTempl_35 {l1 l2 : Int32} {s : t_S} {rc : RT_X6_readBase} (hrc : LZB_X6_readBase n rc) (hy : lzq (n + 1) l1 l2) (h0 : s.1 1 11 = 0 → l1 ≤ 16) (h : LZ s) : t_pq (k_X6_readTempl_35 rc l1 l2 s) (fun y => LZ y.2) := by
  unfold k_X6_readTempl_35
  refine pc_bd (P := fun r => LZ r ∧ (r.1 1 11 = 0 → s.1 1 11 = 0)) (fun y e => ⟨lz_f_X6_node h y e, lz_nodeF y e⟩) (fun r1 h1 => pc_if (fun c => ?_) (fun _ => pc_some h1.1))
  have q := Int32.le_iff_toInt_le.mp (h0 (h1.2 c))
  have q : l1.toInt ≤ 16 := q
  have ht : lzt n l1 l2 := by
    unfold lzq at hy
    unfold lzt
    omega
  exact pc_bd (lz_f_X10_add hy.k h1.1) (fun r2 h2 => pc_bd (hrc.2.2.2.2.2.2.2.2.2.2.2.2.2.2.2.2 _ _ _ _ ht h2) (fun r3 h3 => pc_bd (lz_f_X2_take h3) (fun r4 h4 => pc_if (fun _ => lz_k_X6_readTempl_95 h4) (fun _ => pc_bd (lz_f_X6_readSpan h4) (fun r5 h5 => pc_if (fun _ => lz_st (LZ.set h5 ⟨by decide, by decide, fun y => absurd y.1 (by decide)⟩) (fun s1 h6 => lz_k_X6_readTempl_95 h6)) (fun _ => pc_none))))))
theorem lz_k_X6_readTempl_21 {l1 l2 : Int32} {s : t_S} {rc : RT_X6_readBase} (hrc : LZB_X6_readBase n rc) (hy : lzq (n + 1) l1 l2) (h : LZ s) : t_pq (k_X6_readTempl_21 rc l1 l2 s) (fun y => LZ y.2) := by
  unfold k_X6_readTempl_21
  exact pc_if (fun c => lz_k_X6_readTempl_35 hrc hy (fun _ => c) h) (fun _ => pc_bd (P := fun r => LZ r ∧ r.1 1 11 ≠ 0) (fun y e => ⟨lz_f_X2_fail h y e, lz_failN (by decide) y e⟩) (fun r h1 => lz_k_X6_readTempl_35 hrc hy (fun y => absurd y h1.2) h1.1))
theorem lz_m_X6_readTempl {x1 x2 : Int32} {s : t_S} {rc : RT_X6_readBase} (hrc : LZB_X6_readBase n rc) (hy : lzq (n + 1) x1 x2) (h : LZ s) : t_pq (m_X6_readTempl rc x1 x2 s) (fun y => LZ y.2) := by
  unfold m_X6_readTempl
  exact pc_if (fun _ => pc_bd (lz_f_X2_fail h) (fun r2 h2 => lz_k_X6_readTempl_21 hrc hy h2)) (fun _ => lz_k_X6_readTempl_21 hrc hy h)
theorem lz_k_X6_readTemplFields_248 {s : t_S} {rc : RT_X6_readBase} (h : LZ s) : t_pq (k_X6_readTemplFields_248 rc s) (fun y => LZ y) := by
  unfold k_X6_readTemplFields_248
  exact pc_bd (lz_f_X2_need h) (fun r1 h1 => pc_some h1)
theorem lz_k_X6_readTemplFields_187 {l1 l2 l3 l5 l6 : Int32} {s : t_S} {rc : RT_X6_readBase} (hrc : LZB_X6_readBase n rc) (hy : lzs (n + 1) l2 l3) (h : LZ s) : t_pq (k_X6_readTemplFields_187 rc l1 l2 l3 l5 l6 s) (fun z => Sum.elim (fun y => lzs (n + 1) y.2.1 y.2.2.1 ∧ LZ y.2.2.2.2.2) (fun y => LZ y) z) := by
  unfold k_X6_readTemplFields_187
  exact pc_bd (lz_f_X2_advance h) (fun r1 h1 => pc_bd (lz_f_X2_need h1) (fun r2 h2 => pc_bd (hrc.2.2.2.2.2.2.2.2.2.2.2.2.2.2.1 _ _ _ hy.up h2) (fun r3 h3 => pc_if (fun _ => lz_st (LZ.set h3 ⟨by decide, by decide, fun y => absurd y.1 (by decide)⟩) (fun s1 h4 => pc_bd (lz_f_X2_take h4) (fun r5 h5 => pc_if (fun _ => pc_mp (lz_k_X6_readTemplFields_248 h5)) (fun _ => pc_some ⟨hy, h5⟩)))) (fun _ => pc_none))))
theorem lz_k_X6_readTemplFields_100 {l1 l2 l3 l4 l5 : Int32} {s : t_S} {rc : RT_X6_readBase} (hrc : LZB_X6_readBase n rc) (hy : lzs (n + 1) l2 l3) (h : LZ s) : t_pq (k_X6_readTemplFields_100 rc l1 l2 l3 l4 l5 s) (fun z => Sum.elim (fun y => lzs (n + 1) y.2.1 y.2.2.1 ∧ LZ y.2.2.2.2.2) (fun y => LZ y) z) := by
  unfold k_X6_readTemplFields_100
  exact pc_bd (lz_f_X6_node h) (fun r1 h1 => pc_if (fun _ => pc_bd (lz_f_X10_add (Or.inl (by decide)) h1) (fun r2 h2 => pc_if (fun _ => lz_st (LZ.kind h2 (by decide)) (fun s1 h3 => lz_st (LZ.set h3 ⟨by decide, by decide, fun y => absurd y.1 (by decide)⟩) (fun s2 h4 => pc_if (fun _ => pc_if (fun _ => lz_st (LZ.set h4 ⟨by decide, by decide, fun y => absurd y.1 (by decide)⟩) (fun s4 h5 => lz_k_X6_readTemplFields_187 hrc hy h5)) (fun _ => pc_none)) (fun _ => pc_if (fun _ => lz_st (LZ.set h4 ⟨by decide, by decide, fun y => absurd y.1 (by decide)⟩) (fun s4 h5 => lz_k_X6_readTemplFields_187 hrc hy h5)) (fun _ => pc_none))))) (fun _ => pc_none))) (fun _ => pc_mp (pc_some h1)))
theorem lz_k_X6_readTemplFields_30 {l1 l2 l3 l4 l5 : Int32} {s : t_S} {rc : RT_X6_readBase} (hrc : LZB_X6_readBase n rc) (hy : lzs (n + 1) l2 l3) (h : LZ s) : t_pq (k_X6_readTemplFields_30 rc l1 l2 l3 l4 l5 s) (fun z => Sum.elim (fun y => lzs (n + 1) y.2.1 y.2.2.1 ∧ LZ y.2.2.2.2.2) (fun y => LZ y) z) := by
  unfold k_X6_readTemplFields_30
  exact pc_if (fun _ => pc_mp (lz_k_X6_readTemplFields_248 h)) (fun _ => pc_if (fun _ => pc_bd pc_any (fun r2 _ => pc_if (fun _ => pc_if (fun _ => pc_bd (lz_f_X2_fail h) (fun r3 h3 => lz_k_X6_readTemplFields_100 hrc hy h3)) (fun _ => lz_k_X6_readTemplFields_100 hrc hy h)) (fun _ => pc_bd (lz_f_X2_fail h) (fun r3 h3 => lz_k_X6_readTemplFields_100 hrc hy h3)))) (fun _ => pc_bd (lz_f_X2_fail h) (fun r3 h3 => lz_k_X6_readTemplFields_100 hrc hy h3)))
theorem lz_m_X6_readTemplFields {x1 x2 x3 : Int32} {s : t_S} {rc : RT_X6_readBase} (hrc : LZB_X6_readBase n rc) (hy : lzs (n + 1) x2 x3) (h : LZ s) : t_pq (m_X6_readTemplFields rc x1 x2 x3 s) (fun y => LZ y) := by
  unfold m_X6_readTemplFields
  exact pc_if (fun _ => lz_st (h.kind (by decide)) (fun s1 h1 => pc_bd (lz_f_X2_take h1) (fun r2 h2 => pc_if (fun _ => pc_lp (I := fun y => lzs (n + 1) y.2.1 y.2.2.1 ∧ LZ y.2.2.2.2.2) (fun x hx => by
    obtain ⟨a1, a2, a3, a4, a5, a6⟩ := x
    show t_pq (k_X6_readTemplFields_30 rc a1 a2 a3 a4 a5 a6) _
    exact lz_k_X6_readTemplFields_30 hrc hx.1 hx.2) ⟨hy, h2⟩) (fun _ => pc_some h2)))) (fun _ => pc_none)
theorem lz_k_X6_readTone_163 {rc : RT_X6_readBase} {k0 : Int64} {k1 : Int32} {s : t_S} (hrc : LZB_X6_readBase n rc) (h_s : LZ s) : t_pq (k_X6_readTone_163 rc k0 k1 s) (fun y => LZ y) := by
  unfold k_X6_readTone_163
  exact pc_if (fun z1 => lz_st (LZ.setJ h_s) (fun s1 h_s1 => pc_some h_s1)) (fun _ => pc_none)
theorem lz_k_X6_readTone_530 {l1 : Int32} {s : t_S} {rc : RT_X6_readBase} (h : LZ s) : t_pq (k_X6_readTone_530 rc l1 s) (fun y => LZ y) := by
  unfold k_X6_readTone_530
  exact pc_if (fun _ => lz_st (h.kind (by decide)) (fun s1 h1 => pc_bd (lz_f_X2_need h1) (fun r2 h2 => pc_some h2))) (fun _ => pc_none)
theorem lz_k_X6_readTone_310 {l1 l2 l3 l4 : Int32} {s : t_S} {rc : RT_X6_readBase} (hrc : LZB_X6_readBase n rc) (hy : lzt (n + 1) l2 l3) (h : LZ s) : t_pq (k_X6_readTone_310 rc l1 l2 l3 l4 s) (fun y => LZ y) := by
  unfold k_X6_readTone_310
  exact pc_bd (lz_f_X2_advance h) (fun r1 h1 => pc_if (fun _ => pc_bd (hrc.2.2.2.2.2.2.1 _ _ _ _  _ ⟨hy.s, by decide⟩ h1) (fun r2 h2 => pc_some h2)) (fun _ => pc_if (fun _ => pc_bd (hrc.2.2.2.2.2.2.2.2.2.2.2.2.1 _ _  _ h1) (fun r2 h2 => pc_some h2)) (fun _ => pc_if (fun _ => pc_bd (hrc.2.2.2.2.2.2.2.2.2.2.2.2.2.1 _ _ _  _ hy.s h1) (fun r2 h2 => pc_some h2)) (fun _ => pc_if (fun _ => pc_bd (hrc.2.2.2.2.2.2.2.2.2.2.1 _ _ _  _ hy.dn h1) (fun r2 h2 => pc_some h2)) (fun _ => pc_if (fun _ => pc_bd (hrc.2.2.2.2.2.2.2.2.2.2.2.2.2.2.2.1 _ _ _  _ hy.s h1) (fun r2 h2 => pc_some h2)) (fun _ => pc_if (fun _ => pc_bd (hrc.2.2.2.2.2.2.2.2.2.2.2.1 _ _ _ _  _ ⟨hy.s, by decide⟩ h1) (fun r2 h2 => pc_some h2)) (fun _ => pc_if (fun _ => pc_bd (hrc.2.2.2.2.2.2.2.2.2.2.2.1 _ _ _ _  _ ⟨hy.s, by decide⟩ h1) (fun r2 h2 => pc_some h2)) (fun _ => pc_if (fun _ => pc_if (fun _ => pc_bd (lz_f_X6_poolText h1) (fun r2 h2 => pc_bd (lz_f_X10_setLiteral h2) (fun r3 h3 => lz_k_X6_readTone_530 h3))) (fun _ => lz_k_X6_readTone_530 h1)) (fun _ => pc_if (fun _ => pc_bd (hrc.2.2.2.2.2.2.2.2.2.2.2.1 _ _ _ _  _ ⟨hy.s, by decide⟩ h1) (fun r2 h2 => pc_some h2)) (fun _ => pc_if (fun _ => pc_bd (hrc.2.2.2.2.2.2.2.2.2.2.2.1 _ _ _ _  _ ⟨hy.s, by decide⟩ h1) (fun r2 h2 => pc_some h2)) (fun _ => pc_some h1)))))))))))
theorem lz_toneN {x1 x2 x3 : Int32} {s : t_S} {rc : RT_X6_readBase} (hrc : LZB_X6_readBase n rc) (h : LZ s) : t_pq (if t_ix x1 6100 = true then
  t_let (t_setI s 354 (x1.toNatClampNeg) (3 : Int32)) (fun s3 =>
 (f_X6_readNumber (-1000000000000000 : Int64) s3).bind (fun r6 =>
 t_let (t_setJ r6.2 361 (x1.toNatClampNeg) r6.1) (fun s4 =>
 (f_X2_take (10 : Int32) s4).bind (fun r7 =>
 if r7.1 = (0 : Int32) then (k_X6_readTone_163 rc (r7.2.2.1 361 (x1.toNatClampNeg)) x1 r7.2)
 else ((f_X6_readNumber (r7.2.2.1 361 (x1.toNatClampNeg)) r7.2).bind (fun r8 =>
 k_X6_readTone_163 rc r8.1 x1 r8.2))))))
else none) (fun y => LZ y) := pc_if (fun _ => lz_st (h.kind (by decide)) (fun s3 h3 => pc_bd (lz_f_X6_readNumber h3) (fun r6 h6 => lz_st (LZ.setJ h6) (fun s4 h4 => pc_bd (lz_f_X2_take h4) (fun r7 h7 => pc_if (fun _ => lz_k_X6_readTone_163 hrc h7) (fun _ => pc_bd (lz_f_X6_readNumber h7) (fun r8 h8 => lz_k_X6_readTone_163 hrc h8))))))) (fun _ => pc_none)
theorem lz_m_X6_readTone {x1 x2 x3 : Int32} {s : t_S} {rc : RT_X6_readBase} (hrc : LZB_X6_readBase n rc) (hy : lzt (n + 1) x2 x3) (h : LZ s) : t_pq (m_X6_readTone rc x1 x2 x3 s) (fun y => LZ y) := by
  have g : ∀ {k : Int32} {s1 : t_S}, LZ s1 → t_pq (k_X6_readTone_310 rc x1 x2 x3 k s1) (fun y => LZ y) := fun q => lz_k_X6_readTone_310 hrc hy q
  have kd : ∀ {k v : Int32}, v ≠ 7 → t_pq (if t_ix x1 6100 = true then t_let (t_setI s 354 (x1.toNatClampNeg) v) (fun s5 => k_X6_readTone_310 rc x1 x2 x3 k s5) else none) (fun y => LZ y) := fun q => pc_if (fun _ => lz_st (h.kind q) (fun s1 h1 => g h1)) (fun _ => pc_none)
  have tr : ∀ {k v : Int32} {x : Int64}, t_pq ((f_X0_poolCell x s).bind (fun r18 => (f_X10_setLiteral x1 r18.1 r18.2).bind (fun r19 => k_X6_readTone_310 rc x1 x2 x3 k r19))) (fun y => LZ y) := pc_bd (lz_f_X0_poolCell h) (fun r h1 => pc_bd (lz_f_X10_setLiteral h1) (fun r2 h2 => g h2))
  unfold m_X6_readTone
  refine pc_if (fun _ => pc_if (fun _ => lz_st (h.kind (by decide)) (fun s1 h1 => lz_st (LZ.set h1 ⟨by decide, by decide, fun y => absurd y.1 (by decide)⟩) (fun s2 h2 => pc_bd (lz_f_X0_emit h2) (fun r3 h3 => pc_bd (lz_f_X6_link h3) (fun r4 h4 => pc_some h4))))) (fun _ => pc_none)) (fun _ => ?_)
  refine pc_if (fun _ => lz_toneN (x2 := x2) (x3 := x3) hrc h) (fun _ => ?_)
  refine pc_if (fun _ => pc_bd (lz_f_X6_poolText h) (fun r9 h9 => pc_bd (lz_f_X10_setLiteral h9) (fun r10 h10 => g h10))) (fun _ => ?_)
  refine pc_if (fun _ => kd (by decide)) (fun _ => ?_)
  refine pc_if (fun _ => lz_toneN (x2 := x2) (x3 := x3) hrc h) (fun _ => ?_)
  refine pc_if (fun _ => kd (by decide)) (fun _ => ?_)
  refine pc_if (fun _ => tr (v := 0)) (fun _ => ?_)
  refine pc_if (fun _ => tr (v := 0)) (fun _ => ?_)
  exact pc_if (fun _ => kd (by decide)) (fun _ => g h)
theorem LZB_X6_readBase_R : ∀ n, n ≤ 250 → LZB_X6_readBase n (R_X6_readBase n) := by
  intro n
  induction n with
  | zero => exact fun _ => ⟨by decide, fun _ _ _ => pc_none, fun _ _ _ => pc_none, fun _ _ _ => pc_none, fun _ _ _ => pc_none, fun _ _ _ => pc_none, fun _ _ _ _ _ _ _ => pc_none, fun _ _ _ => pc_none, fun _ _ _ => pc_none, fun _ _ _ _ _ => pc_none, fun _ _ _ _ _ _ => pc_none, fun _ _ _ _ _ _ _ => pc_none, fun _ _ _ _ => pc_none, fun _ _ _ _ _ _ => pc_none, fun _ _ _ _ _ => pc_none, fun _ _ _ _ _ _ => pc_none, fun _ _ _ _ _ _ => pc_none⟩
  | succ n ih0 =>
    intro hn
    have ih := ih0 (by omega)
    exact ⟨hn, fun _ _ h => lz_m_X6_readBase ih h, fun _ _ h => lz_m_X6_readElements ih h, fun _ _ h => lz_m_X6_readExp ih h, fun _ _ h => lz_m_X6_readExpFields ih h, fun _ _ h => lz_m_X6_readExps ih h, fun _ _ _ _ _ hy h => lz_m_X6_readInner ih hy h, fun _ _ h => lz_m_X6_readMet ih h, fun _ _ h => lz_m_X6_readOne ih h, fun _ _ _ hy h => lz_m_X6_readPerm ih hy h, fun _ _ _ _ hy h => lz_m_X6_readPieces ih hy h, fun _ _ _ _ _ hy h => lz_m_X6_readRow ih hy h, fun _ _ _ h => lz_m_X6_readSame ih h, fun _ _ _ _ hy h => lz_m_X6_readTag ih hy h, fun _ _ _ hy h => lz_m_X6_readTempl ih hy h, fun _ _ _ _ hy h => lz_m_X6_readTemplFields ih hy h, fun _ _ _ _ hy h => lz_m_X6_readTone ih hy h⟩
theorem lz_f_X6_readTempl {x1 x2 : Int32} {s : t_S} (hy : lzq 250 x1 x2) (h : LZ s) : t_pq (f_X6_readTempl x1 x2 s) (fun y => LZ y.2) := (LZB_X6_readBase_R 250 (by decide)).2.2.2.2.2.2.2.2.2.2.2.2.2.2.1 _ _ _ hy h
theorem lz_f_X6_readTemplateItem {s : t_S} (h_s : LZ s) : t_pq (f_X6_readTemplateItem s) (fun y => LZ y) := by
  unfold f_X6_readTemplateItem
  exact pc_bd (lz_f_X2_advance h_s) (fun r1 h_r1 => pc_bd (lz_f_X6_takeName h_r1) (fun r2 h_r2 => pc_if (fun _ => pc_some h_r2) (fun _ => pc_if (fun z1 => lz_st (LZ.set h_r2 (lz_ar (lz_arr (a := 364) z1 (by decide)))) (fun s1 h_s1 => lz_st (LZ.set h_s1 ⟨by decide, by decide, fun y => absurd y.2 (by decide)⟩) (fun s2 h_s2 => pc_bd (lz_f_X2_advance h_s2) (fun r4 h_r4 => pc_bd (lz_f_X2_need h_r4) (fun r5 h_r5 => lz_st (LZ.set h_r5 ⟨by decide, by decide, fun y => absurd y.1 (by decide)⟩) (fun s3 h_s3 => lz_st (LZ.set h_s3 (lz_ar (lz_arr (a := 364) z1 (by decide)))) (fun s4 h_s4 => lz_st (LZ.set h_s4 (lz_ar (lz_arr (a := 364) z1 (by decide)))) (fun s5 h_s5 => pc_bd (lz_f_X6_readTempl (by unfold lzq; decide) h_s5) (fun r6 h_r6 => lz_st (LZ.set h_r6 (lz_ar (lz_arr (a := 364) z1 (by decide)))) (fun s6 h_s6 => lz_st (LZ.set h_s6 (lz_ar (lz_arr (a := 364) z1 (by decide)))) (fun s7 h_s7 => pc_bd (lz_f_X0_emit h_s7) (fun r7 h_r7 => lz_st (LZ.set h_r7 ⟨by decide, by decide, fun y => absurd y.1 (by decide)⟩) (fun s8 h_s8 => pc_bd (lz_f_X2_need h_s8) (fun r8 h_r8 => pc_some h_r8)))))))))))))) (fun _ => pc_none))))
theorem lz_f_X5_addKind {x1 : Int32} {s : t_S} (h_s : LZ s) : t_pq (f_X5_addKind x1 s) (fun y => LZ y) := by
  unfold f_X5_addKind
  exact lz_st (LZ.set h_s ⟨by decide, by decide, fun y => absurd y.1 (by decide)⟩) (fun s1 h_s1 => pc_if (fun z1 => lz_st (LZ.set h_s1 ⟨by decide, by decide, fun y => absurd y.1 (by decide)⟩) (fun s2 h_s2 => lz_st (LZ.set h_s2 ⟨by decide, by decide, fun y => absurd y.1 (by decide)⟩) (fun s3 h_s3 => lz_st (LZ.set h_s3 ⟨by decide, by decide, fun y => absurd y.1 (by decide)⟩) (fun s4 h_s4 => pc_some h_s4)))) (fun _ => pc_none))
theorem lz_k_X6_readComponentItem_104 {s : t_S} (h_s : LZ s) : t_pq (k_X6_readComponentItem_104 s) (fun y => LZ y) := by
  unfold k_X6_readComponentItem_104
  exact pc_bd (lz_f_X2_need h_s) (fun r1 h_r1 => lz_st (LZ.set h_r1 ⟨by decide, by decide, fun y => absurd y.1 (by decide)⟩) (fun s1 h_s1 => pc_some h_s1))
theorem lz_f_X6_readVarType {x1 : Int32} {x2 : Int32} {s : t_S} (h_s : LZ s) : t_pq (f_X6_readVarType x1 x2 s) (fun y => LZ y) := by
  unfold f_X6_readVarType
  exact pc_bd (lz_f_X2_take h_s) (fun r1 h_r1 => pc_if (fun _ => pc_some h_r1) (fun _ => pc_bd (lz_f_X6_link h_r1) (fun r2 h_r2 => pc_some h_r2)))
theorem lz_f_X6_readExp {x1 : Int32} {s : t_S} (h_s : LZ s) : t_pq (f_X6_readExp x1 s) (fun y => LZ y.2) := by
  unfold f_X6_readExp
  exact ((LZB_X6_readBase_R 250 (by decide)).2.2.2.1 _ _ h_s)
theorem lz_k_X6_readOwn_321 {l2 : Nat} {s : t_S} (hl_l2 : ARz l2) (h_s : LZ s) : t_pq (k_X6_readOwn_321 l2 s) (fun y => LZ y) := by
  unfold k_X6_readOwn_321
  exact pc_bd (lz_f_X2_need h_s) (fun r1 h_r1 => pc_if (fun _ => pc_if (fun _ => lz_st (LZ.set h_r1 (lz_ar hl_l2)) (fun s1 h_s1 => pc_some h_s1)) (fun _ => pc_none)) (fun _ => pc_none))
theorem lz_k_X6_readOwn_227 {l1 : Int32} {l2 : Nat} {l3 : Int32} {l4 : Nat} {s : t_S} (hl_l2 : ARz l2) (hl_l4 : ARz l4) (h_s : LZ s) : t_pq (k_X6_readOwn_227 l1 l2 l3 l4 s) (fun y => LZ y) := by
  unfold k_X6_readOwn_227
  exact pc_if (fun _ => pc_if (fun _ => pc_if (fun _ => pc_if (fun _ => pc_if (fun _ => lz_st (LZ.set h_s (lz_ar hl_l4)) (fun s1 h_s1 => pc_bd (lz_f_X2_advance h_s1) (fun r6 h_r6 => pc_if (fun _ => pc_if (fun z1 => lz_st (LZ.set h_r6 ⟨by decide, by decide, fun y => absurd y.1 (by decide)⟩) (fun s2 h_s2 => pc_bd (lz_f_X6_readVarType h_s2) (fun r8 h_r8 => pc_bd (lz_f_X2_need h_r8) (fun r9 h_r9 => pc_bd (lz_f_X6_readExp h_r9) (fun r10 h_r10 => lz_st (LZ.set h_r10 ⟨by decide, by decide, fun y => absurd y.1 (by decide)⟩) (fun s3 h_s3 => (lz_k_X6_readOwn_321 hl_l2 h_s3))))))) (fun _ => pc_none)) (fun _ => (lz_k_X6_readOwn_321 hl_l2 h_r6))))) (fun _ => pc_none)) (fun _ => pc_none)) (fun _ => pc_none)) (fun _ => pc_none)) (fun _ => pc_some h_s)
theorem lz_k_X6_readOwn_153 {l1 : Int32} {l2 : Nat} {l3 : Int32} {k0 : Nat} {s : t_S} (hl_l2 : ARz l2) (hl_k0 : ARz k0) (h_s : LZ s) : t_pq (k_X6_readOwn_153 l1 l2 l3 k0 s) (fun y => LZ y) := by
  unfold k_X6_readOwn_153
  exact pc_if (fun _ => pc_bd pc_any (fun r2 h_r2 => pc_if (fun _ => pc_if (fun _ => pc_if (fun _ => pc_if (fun _ => (lz_k_X6_readOwn_227 hl_l2 hl_k0 h_s)) (fun _ => pc_bd (lz_f_X2_fail h_s) (fun r5 h_r5 => (lz_k_X6_readOwn_227 hl_l2 hl_k0 h_r5)))) (fun _ => pc_none)) (fun _ => pc_none)) (fun _ => pc_bd (lz_f_X2_fail h_s) (fun r6 h_r6 => (lz_k_X6_readOwn_227 hl_l2 hl_k0 h_r6))))) (fun _ => pc_bd (lz_f_X2_fail h_s) (fun r7 h_r7 => (lz_k_X6_readOwn_227 hl_l2 hl_k0 h_r7)))
theorem lz_k_X6_readOwn_111 {l1 : Int32} {l2 : Nat} {k0 : Int32} {s : t_S} (hl_l2 : ARz l2) (h_s : LZ s) : t_pq (k_X6_readOwn_111 l1 l2 k0 s) (fun y => LZ y) := by
  unfold k_X6_readOwn_111
  exact pc_if (fun _ => (lz_k_X6_readOwn_153 hl_l2 (show ARz 430 by unfold ARz; decide) h_s)) (fun _ => pc_if (fun _ => (lz_k_X6_readOwn_153 hl_l2 (show ARz 432 by unfold ARz; decide) h_s)) (fun _ => (lz_k_X6_readOwn_153 hl_l2 (show ARz 434 by unfold ARz; decide) h_s)))
theorem lz_k_X6_readOwn_85 {l1 : Int32} {k0 : Nat} {s : t_S} (hl_k0 : ARz k0) (h_s : LZ s) : t_pq (k_X6_readOwn_85 l1 k0 s) (fun y => LZ y) := by
  unfold k_X6_readOwn_85
  exact pc_if (fun _ => (lz_k_X6_readOwn_111 hl_k0 h_s)) (fun _ => pc_if (fun _ => (lz_k_X6_readOwn_111 hl_k0 h_s)) (fun _ => (lz_k_X6_readOwn_111 hl_k0 h_s)))
theorem lz_k_X6_readOwn_37 {l1 : Int32} {s : t_S} (h_s : LZ s) : t_pq (k_X6_readOwn_37 l1 s) (fun y => LZ y) := by
  unfold k_X6_readOwn_37
  exact pc_bd (lz_f_X2_advance h_s) (fun r1 h_r1 => pc_if (fun _ => (lz_k_X6_readOwn_85 (show ARz 429 by unfold ARz; decide) h_r1)) (fun _ => pc_if (fun _ => (lz_k_X6_readOwn_85 (show ARz 431 by unfold ARz; decide) h_r1)) (fun _ => (lz_k_X6_readOwn_85 (show ARz 433 by unfold ARz; decide) h_r1))))
theorem lz_f_X6_readOwn {s : t_S} (h_s : LZ s) : t_pq (f_X6_readOwn s) (fun y => LZ y) := by
  unfold f_X6_readOwn
  exact pc_if (fun _ => (lz_k_X6_readOwn_37 h_s)) (fun _ => pc_if (fun _ => (lz_k_X6_readOwn_37 h_s)) (fun _ => pc_if (fun _ => (lz_k_X6_readOwn_37 h_s)) (fun _ => pc_bd (lz_f_X2_fail h_s) (fun r1 h_r1 => (lz_k_X6_readOwn_37 h_r1)))))
theorem lz_k_X6_readComponentItem_65 {l1 : Int32} {s : t_S} (h_s : LZ s) : t_pq (k_X6_readComponentItem_65 l1 s) (fun z => Sum.elim (fun y => LZ y.2) (fun y => LZ y) z) := by
  unfold k_X6_readComponentItem_65
  exact pc_if (fun _ => pc_mp ((lz_k_X6_readComponentItem_104 h_s))) (fun _ => pc_if (fun _ => pc_if (fun _ => pc_mp ((lz_k_X6_readComponentItem_104 h_s))) (fun _ => pc_bd (lz_f_X6_readOwn h_s) (fun r1 h_r1 => pc_some h_r1))) (fun _ => pc_mp ((lz_k_X6_readComponentItem_104 h_s))))
theorem lz_b_X6_readComponentItem_65 {x9 : Int32 × t_S} (h : LZ x9.2) : t_pq (b_X6_readComponentItem_65 x9) (fun z => Sum.elim (fun y => LZ y.2) (fun y => LZ y) z) := lz_k_X6_readComponentItem_65 h
theorem lz_f_X6_readComponentItem {s : t_S} (h_s : LZ s) : t_pq (f_X6_readComponentItem s) (fun y => LZ y) := by
  unfold f_X6_readComponentItem
  exact pc_bd (lz_f_X2_advance h_s) (fun r1 h_r1 => pc_bd (lz_f_X6_takeName h_r1) (fun r2 h_r2 => pc_if (fun _ => pc_some h_r2) (fun _ => lz_st (LZ.set h_r2 ⟨by decide, by decide, fun y => absurd y.1 (by decide)⟩) (fun s1 h_s1 => pc_bd (lz_f_X5_addKind h_s1) (fun r3 h_r3 => pc_bd (lz_f_X2_advance h_r3) (fun r4 h_r4 => pc_bd (lz_f_X2_need h_r4) (fun r5 h_r5 => pc_lp (fun x h => lz_b_X6_readComponentItem_65 h) h_r5)))))))
theorem lz_f_X5_addUnit {x1 : Int32} {x2 : Int32} {s : t_S} (h_s : LZ s) : t_pq (f_X5_addUnit x1 x2 s) (fun y => LZ y) := by
  unfold f_X5_addUnit
  exact lz_st (LZ.set h_s ⟨by decide, by decide, fun y => absurd y.1 (by decide)⟩) (fun s1 h_s1 => pc_if (fun z1 => lz_st (LZ.set h_s1 ⟨by decide, by decide, fun y => absurd y.1 (by decide)⟩) (fun s2 h_s2 => lz_st (LZ.set h_s2 ⟨by decide, by decide, fun y => absurd y.1 (by decide)⟩) (fun s3 h_s3 => lz_st (LZ.set h_s3 ⟨by decide, by decide, fun y => absurd y.1 (by decide)⟩) (fun s4 h_s4 => lz_st (LZ.set h_s4 ⟨by decide, by decide, fun y => absurd y.1 (by decide)⟩) (fun s5 h_s5 => lz_st (LZ.set h_s5 ⟨by decide, by decide, fun y => absurd y.1 (by decide)⟩) (fun s6 h_s6 => pc_some h_s6)))))) (fun _ => pc_none))
def LZB_X6_readAlts (rc : RT_X6_readAlts) : Prop := (∀ (x0 : Int32) (x1 : Int32) (s : t_S), LZ s → t_pq (rc.1 x0 x1 s) (fun y => LZ y.2)) ∧ (∀ (x0 : Int32) (x1 : Int32) (s : t_S), LZ s → t_pq (rc.2.1 x0 x1 s) (fun y => LZ y.2)) ∧ (∀ (x0 : Int32) (x1 : Int32) (x2 : Int32) (s : t_S), LZ s → t_pq (rc.2.2.1 x0 x1 x2 s) (fun y => LZ y.2)) ∧ (∀ (x0 : Int32) (x1 : Int32) (s : t_S), LZ s → t_pq (rc.2.2.2.1 x0 x1 s) (fun y => LZ y.2)) ∧ (∀ (x0 : Int32) (x1 : Int32) (s : t_S), LZ s → t_pq (rc.2.2.2.2 x0 x1 s) (fun y => LZ y.2))
theorem lz_m_X6_readAlts {rc : RT_X6_readAlts} {x1 : Int32} {x2 : Int32} {s : t_S} (hrc : LZB_X6_readAlts rc) (h_s : LZ s) : t_pq (m_X6_readAlts rc x1 x2 s) (fun y => LZ y.2) := by
  unfold m_X6_readAlts
  exact pc_bd (hrc.2.2.1 _ _ _ _ h_s) (fun r1 h_r1 => pc_some h_r1)
theorem lz_m_X6_readBlock {rc : RT_X6_readAlts} {x1 : Int32} {x2 : Int32} {s : t_S} (hrc : LZB_X6_readAlts rc) (h_s : LZ s) : t_pq (m_X6_readBlock rc x1 x2 s) (fun y => LZ y.2) := by
  unfold m_X6_readBlock
  exact pc_bd (hrc.2.2.1 _ _ _ _ h_s) (fun r1 h_r1 => pc_some h_r1)
theorem lz_k_X6_readBraces_142 {rc : RT_X6_readAlts} {l4 : Int32} {s : t_S} (hrc : LZB_X6_readAlts rc) (h_s : LZ s) : t_pq (k_X6_readBraces_142 rc l4 s) (fun y => LZ y.2) := by
  unfold k_X6_readBraces_142
  exact pc_bd (lz_f_X2_need h_s) (fun r1 h_r1 => pc_some h_r1)
theorem lz_k_X6_readBraces_132 {rc : RT_X6_readAlts} {l1 : Int32} {l2 : Int32} {l3 : Int32} {l4 : Int32} {l6 : Int32} {l7 : Int32} {s : t_S} (hrc : LZB_X6_readAlts rc) (h_s : LZ s) : t_pq (k_X6_readBraces_132 rc l1 l2 l3 l4 l6 l7 s) (fun z => Sum.elim (fun y => LZ y.2.2.2.2.2.2) (fun y => LZ y.2) z) := by
  unfold k_X6_readBraces_132
  exact pc_some h_s
theorem lz_k_X6_readBraces_99 {rc : RT_X6_readAlts} {l1 : Int32} {l2 : Int32} {l3 : Int32} {l4 : Int32} {l5 : Int32} {l6 : Int32} {k0 : Int32} {s : t_S} (hrc : LZB_X6_readAlts rc) (h_s : LZ s) : t_pq (k_X6_readBraces_99 rc l1 l2 l3 l4 l5 l6 k0 s) (fun z => Sum.elim (fun y => LZ y.2.2.2.2.2.2) (fun y => LZ y.2) z) := by
  unfold k_X6_readBraces_99
  exact pc_if (fun _ => pc_if (fun _ => (lz_k_X6_readBraces_132 hrc h_s)) (fun _ => pc_if (fun z1 => lz_st (LZ.set h_s (lz_ar (lz_arr (a := 445) z1 (by decide)))) (fun s1 h_s1 => (lz_k_X6_readBraces_132 hrc h_s1))) (fun _ => pc_none))) (fun _ => (lz_k_X6_readBraces_132 hrc h_s))
theorem lz_k_X6_readBraces_50 {rc : RT_X6_readAlts} {l1 : Int32} {l2 : Int32} {l3 : Int32} {l4 : Int32} {l5 : Int32} {l6 : Int32} {s : t_S} (hrc : LZB_X6_readAlts rc) (h_s : LZ s) : t_pq (k_X6_readBraces_50 rc l1 l2 l3 l4 l5 l6 s) (fun z => Sum.elim (fun y => LZ y.2.2.2.2.2.2) (fun y => LZ y.2) z) := by
  unfold k_X6_readBraces_50
  exact pc_if (fun _ => pc_mp ((lz_k_X6_readBraces_142 hrc h_s))) (fun _ => pc_if (fun _ => pc_if (fun _ => pc_mp ((lz_k_X6_readBraces_142 hrc h_s))) (fun _ => pc_if (fun _ => pc_bd (hrc.2.2.2.2 _ _ _ h_s) (fun r1 h_r1 => (lz_k_X6_readBraces_99 hrc h_r1))) (fun _ => pc_bd (hrc.2.2.2.1 _ _ _ h_s) (fun r2 h_r2 => (lz_k_X6_readBraces_99 hrc h_r2))))) (fun _ => pc_mp ((lz_k_X6_readBraces_142 hrc h_s))))
theorem lz_b_X6_readBraces_50 {rc : RT_X6_readAlts} {x9 : Int32 × Int32 × Int32 × Int32 × Int32 × Int32 × t_S} (hrc : LZB_X6_readAlts rc) (h : LZ x9.2.2.2.2.2.2) : t_pq (b_X6_readBraces_50 rc x9) (fun z => Sum.elim (fun y => LZ y.2.2.2.2.2.2) (fun y => LZ y.2) z) := lz_k_X6_readBraces_50 hrc h
theorem lz_k_X6_readBraces_34 {rc : RT_X6_readAlts} {l1 : Int32} {l2 : Int32} {l3 : Int32} {s : t_S} (hrc : LZB_X6_readAlts rc) (h_s : LZ s) : t_pq (k_X6_readBraces_34 rc l1 l2 l3 s) (fun y => LZ y.2) := by
  unfold k_X6_readBraces_34
  exact pc_bd (lz_f_X2_advance h_s) (fun r1 h_r1 => pc_lp (fun x h => lz_b_X6_readBraces_50 hrc h) h_r1)
theorem lz_k_X6_readBraces_20 {rc : RT_X6_readAlts} {l1 : Int32} {l2 : Int32} {l3 : Int32} {s : t_S} (hrc : LZB_X6_readAlts rc) (h_s : LZ s) : t_pq (k_X6_readBraces_20 rc l1 l2 l3 s) (fun y => LZ y.2) := by
  unfold k_X6_readBraces_20
  exact pc_if (fun _ => (lz_k_X6_readBraces_34 hrc h_s)) (fun _ => pc_bd (lz_f_X2_fail h_s) (fun r1 h_r1 => (lz_k_X6_readBraces_34 hrc h_r1)))
theorem lz_m_X6_readBraces {rc : RT_X6_readAlts} {x1 : Int32} {x2 : Int32} {x3 : Int32} {s : t_S} (hrc : LZB_X6_readAlts rc) (h_s : LZ s) : t_pq (m_X6_readBraces rc x1 x2 x3 s) (fun y => LZ y.2) := by
  unfold m_X6_readBraces
  exact pc_if (fun _ => (lz_k_X6_readBraces_20 hrc h_s)) (fun _ => pc_bd (lz_f_X2_fail h_s) (fun r1 h_r1 => (lz_k_X6_readBraces_20 hrc h_r1)))
theorem lz_k_J7_fill_53178_5 {l0 : Nat} {l1 : Int32} {l2 : Int32} {l3 : Int32} {s : t_S} (hl_l0 : ARz l0) (h_s : LZ s) : t_pq (k_J7_fill_53178_5 l0 l1 l2 l3 s) (fun z => Sum.elim (fun y => (ARz y.1 ∧ LZ y.2.2.2.2)) (fun y => LZ y) z) := by
  unfold k_J7_fill_53178_5
  exact pc_if (fun _ => pc_mp (pc_some h_s)) (fun _ => pc_if (fun _ => pc_if (fun _ => lz_st (LZ.set h_s (lz_ar hl_l0)) (fun s1 h_s1 => pc_some ⟨hl_l0, h_s1⟩)) (fun _ => pc_none)) (fun _ => pc_none))
theorem lz_b_J7_fill_53178_5 {x9 : Nat × Int32 × Int32 × Int32 × t_S} (h : (ARz x9.1 ∧ LZ x9.2.2.2.2)) : t_pq (b_J7_fill_53178_5 x9) (fun z => Sum.elim (fun y => (ARz y.1 ∧ LZ y.2.2.2.2)) (fun y => LZ y) z) := lz_k_J7_fill_53178_5 h.1 h.2
theorem lz_f_J7_fill_53178 {x1 : Nat} {x2 : Int32} {s : t_S} (hl_x1 : ARz x1) (h_s : LZ s) : t_pq (f_J7_fill_53178 x1 x2 s) (fun y => LZ y) := by
  unfold f_J7_fill_53178
  exact pc_if (fun _ => pc_lp (fun x h => lz_b_J7_fill_53178_5 h) ⟨hl_x1, h_s⟩) (fun _ => pc_none)
theorem lz_f_X5_addStep {x1 : Int32} {x2 : Int32} {s : t_S} (h_s : LZ s) : t_pq (f_X5_addStep x1 x2 s) (fun y => LZ y.2) := by
  unfold f_X5_addStep
  exact pc_if (fun _ => lz_st (LZ.set h_s ⟨by decide, by decide, fun y => absurd y.1 (by decide)⟩) (fun s1 h_s1 => pc_if (fun z1 => pc_bd (lz_f_J7_fill_53178 (lz_arr (a := 445) z1 (by decide)) h_s1) (fun r2 h_r2 => lz_st (LZ.set h_r2 (lz_ar (lz_arr (a := 445) z1 (by decide)))) (fun s2 h_s2 => lz_st (LZ.set h_s2 (lz_ar (lz_arr (a := 445) z1 (by decide)))) (fun s3 h_s3 => pc_some h_s3)))) (fun _ => pc_none))) (fun _ => pc_some h_s)
theorem lz_k_X6_takeVar_33 {l1 : Int32} {k0 : Int32} {s : t_S} (h_s : LZ s) : t_pq (k_X6_takeVar_33 l1 k0 s) (fun y => LZ y) := by
  unfold k_X6_takeVar_33
  exact pc_if (fun z1 => lz_st (LZ.set h_s (lz_ar (lz_arr (a := 445) z1 (by decide)))) (fun s1 h_s1 => pc_if (fun _ => pc_bd (lz_f_X6_link h_s1) (fun r2 h_r2 => pc_some h_r2)) (fun _ => pc_bd (lz_f_X2_advance h_s1) (fun r3 h_r3 => pc_some h_r3)))) (fun _ => pc_none)
theorem lz_f_X6_takeVar {x1 : Int32} {s : t_S} (h_s : LZ s) : t_pq (f_X6_takeVar x1 s) (fun y => LZ y) := by
  unfold f_X6_takeVar
  exact pc_if (fun _ => pc_bd pc_any (fun r2 h_r2 => (lz_k_X6_takeVar_33 h_s))) (fun _ => (lz_k_X6_takeVar_33 h_s))
theorem lz_f_X6_readInto {x1 : Int32} {s : t_S} (h_s : LZ s) : t_pq (f_X6_readInto x1 s) (fun y => LZ y) := by
  unfold f_X6_readInto
  exact pc_bd (lz_f_X2_take h_s) (fun r1 h_r1 => pc_if (fun _ => pc_some h_r1) (fun _ => pc_bd (lz_f_X6_takeVar h_r1) (fun r2 h_r2 => pc_some h_r2)))
theorem lz_k_X6_readEvent_133 {l1 : Int32} {s : t_S} (h_s : LZ s) : t_pq (k_X6_readEvent_133 l1 s) (fun y => LZ y) := by
  unfold k_X6_readEvent_133
  exact pc_bd (lz_f_X6_readInto h_s) (fun r1 h_r1 => pc_some h_r1)
theorem lz_k_X6_readEvent_62 {l1 : Int32} {l2 : Nat} {s : t_S} (hl_l2 : ARz l2) (h_s : LZ s) : t_pq (k_X6_readEvent_62 l1 l2 s) (fun y => LZ y) := by
  unfold k_X6_readEvent_62
  exact pc_if (fun _ => pc_if (fun _ => pc_if (fun _ => pc_bd (lz_f_X6_link h_s) (fun r3 h_r3 => pc_if (fun _ => lz_st (LZ.set h_r3 (lz_ar hl_l2)) (fun s1 h_s1 => pc_bd (lz_f_X6_readTempl (by unfold lzq; decide) h_s1) (fun r5 h_r5 => pc_if (fun _ => lz_st (LZ.set h_r5 (lz_ar hl_l2)) (fun s2 h_s2 => pc_bd (lz_f_X0_emit h_s2) (fun r7 h_r7 => pc_bd (lz_f_X2_take h_r7) (fun r8 h_r8 => pc_if (fun _ => (lz_k_X6_readEvent_133 h_r8)) (fun _ => pc_bd (lz_f_X6_readExp h_r8) (fun r9 h_r9 => pc_if (fun _ => lz_st (LZ.set h_r9 (lz_ar hl_l2)) (fun s3 h_s3 => (lz_k_X6_readEvent_133 h_s3))) (fun _ => pc_none))))))) (fun _ => pc_none)))) (fun _ => pc_none))) (fun _ => pc_some h_s)) (fun _ => pc_none)) (fun _ => pc_none)
theorem lz_k_X6_readEvent_46 {l1 : Int32} {l2 : Nat} {s : t_S} (hl_l2 : ARz l2) (h_s : LZ s) : t_pq (k_X6_readEvent_46 l1 l2 s) (fun y => LZ y) := by
  unfold k_X6_readEvent_46
  exact pc_if (fun _ => pc_if (fun _ => pc_if (fun _ => pc_bd (lz_f_X6_readExp h_s) (fun r3 h_r3 => pc_if (fun _ => lz_st (LZ.set h_r3 (lz_ar hl_l2)) (fun s1 h_s1 => (lz_k_X6_readEvent_62 hl_l2 h_s1))) (fun _ => pc_none))) (fun _ => (lz_k_X6_readEvent_62 hl_l2 h_s))) (fun _ => pc_none)) (fun _ => pc_none)
theorem lz_f_X6_readEvent {x1 : Int32} {s : t_S} (h_s : LZ s) : t_pq (f_X6_readEvent x1 s) (fun y => LZ y) := by
  unfold f_X6_readEvent
  exact pc_if (fun z1 => lz_st (LZ.set h_s (lz_ar (lz_arr (a := 445) z1 (by decide)))) (fun s1 h_s1 => pc_bd (lz_f_X2_advance h_s1) (fun r3 h_r3 => pc_if (fun _ => pc_bd (lz_f_X6_link h_r3) (fun r4 h_r4 => (lz_k_X6_readEvent_46 (lz_arr (a := 445) z1 (by decide)) h_r4))) (fun _ => (lz_k_X6_readEvent_46 (lz_arr (a := 445) z1 (by decide)) h_r3))))) (fun _ => pc_none)
theorem lz_k_X6_readBranch_210 {rc : RT_X6_readAlts} {l1 : Int32} {l3 : Int32} {l4 : Nat} {s : t_S} (hrc : LZB_X6_readAlts rc) (hl_l4 : ARz l4) (h_s : LZ s) : t_pq (k_X6_readBranch_210 rc l1 l3 l4 s) (fun y => LZ y.2) := by
  unfold k_X6_readBranch_210
  exact pc_bd (lz_f_X6_readEvent h_s) (fun r1 h_r1 => pc_bd (hrc.2.1 _ _ _ h_r1) (fun r2 h_r2 => pc_if (fun _ => pc_if (fun _ => lz_st (LZ.set h_r2 (lz_ar hl_l4)) (fun s1 h_s1 => pc_some h_s1)) (fun _ => pc_none)) (fun _ => pc_none)))
theorem lz_k_X6_readCall_87 {l1 : Int32} {l2 : Int32} {l3 : Int32} {l4 : Int32} {k0 : Int32} {s : t_S} (h_s : LZ s) : t_pq (k_X6_readCall_87 l1 l2 l3 l4 k0 s) (fun y => LZ y) := by
  unfold k_X6_readCall_87
  exact pc_bd (lz_f_X2_need h_s) (fun r1 h_r1 => pc_bd (lz_f_X0_emit h_r1) (fun r2 h_r2 => pc_bd (lz_f_X3_add h_r2) (fun r4 h_r4 => pc_some h_r4)))
theorem lz_f_X6_readExps {x1 : Int32} {s : t_S} (h_s : LZ s) : t_pq (f_X6_readExps x1 s) (fun y => LZ y.2) := by
  unfold f_X6_readExps
  exact ((LZB_X6_readBase_R 250 (by decide)).2.2.2.2.2.1 _ _ h_s)
theorem lz_k_X6_readCall_66 {l1 : Int32} {l2 : Int32} {l3 : Int32} {l4 : Int32} {s : t_S} (h_s : LZ s) : t_pq (k_X6_readCall_66 l1 l2 l3 l4 s) (fun y => LZ y) := by
  unfold k_X6_readCall_66
  exact pc_if (fun _ => (lz_k_X6_readCall_87 h_s)) (fun _ => pc_bd (lz_f_X6_readExps h_s) (fun r1 h_r1 => (lz_k_X6_readCall_87 h_r1)))
theorem lz_f_X6_readCall {x1 : Int32} {x2 : Int32} {s : t_S} (h_s : LZ s) : t_pq (f_X6_readCall x1 x2 s) (fun y => LZ y) := by
  unfold f_X6_readCall
  exact pc_bd (lz_f_X2_need h_s) (fun r2 h_r2 => pc_bd (lz_f_X2_need h_r2) (fun r3 h_r3 => pc_if (fun z1 => pc_if (fun _ => (lz_k_X6_readCall_66 h_r3)) (fun _ => lz_st (LZ.set h_r3 (lz_ar (lz_arr (a := 445) z1 (by decide)))) (fun s1 h_s1 => (lz_k_X6_readCall_66 h_s1)))) (fun _ => pc_none)))
theorem lz_k_X6_readBranch_140 {rc : RT_X6_readAlts} {l1 : Int32} {l3 : Int32} {l4 : Nat} {s : t_S} (hrc : LZB_X6_readAlts rc) (hl_l4 : ARz l4) (h_s : LZ s) : t_pq (k_X6_readBranch_140 rc l1 l3 l4 s) (fun y => LZ y.2) := by
  unfold k_X6_readBranch_140
  exact pc_bd (lz_f_X2_need h_s) (fun r1 h_r1 => pc_bd (lz_f_X2_take h_r1) (fun r2 h_r2 => pc_if (fun _ => pc_if (fun _ => pc_bd (lz_f_X2_fail h_r2) (fun r5 h_r5 => (lz_k_X6_readBranch_210 hrc hl_l4 h_r5))) (fun _ => (lz_k_X6_readBranch_210 hrc hl_l4 h_r2))) (fun _ => pc_if (fun _ => pc_if (fun _ => lz_st (LZ.set h_r2 (lz_ar hl_l4)) (fun s1 h_s1 => pc_bd (lz_f_X6_readCall h_s1) (fun r8 h_r8 => pc_bd (lz_f_X2_need h_r8) (fun r9 h_r9 => pc_some h_r9)))) (fun _ => pc_none)) (fun _ => pc_none))))
theorem lz_k_X6_readBranch_41 {rc : RT_X6_readAlts} {l1 : Int32} {l2 : Int32} {s : t_S} (hrc : LZB_X6_readAlts rc) (h_s : LZ s) : t_pq (k_X6_readBranch_41 rc l1 l2 s) (fun y => LZ y.2) := by
  unfold k_X6_readBranch_41
  exact pc_if (fun _ => pc_bd (lz_f_X5_addStep h_s) (fun r1 h_r1 => pc_if (fun z1 => pc_bd (lz_f_X2_advance h_r1) (fun r3 h_r3 => pc_bd (lz_f_X2_take h_r3) (fun r4 h_r4 => pc_if (fun _ => pc_if (fun _ => (lz_k_X6_readBranch_140 hrc (lz_arr (a := 445) z1 (by decide)) h_r4)) (fun _ => pc_bd (lz_f_X6_readExp h_r4) (fun r5 h_r5 => lz_st (LZ.set h_r5 (lz_ar (lz_arr (a := 445) z1 (by decide)))) (fun s1 h_s1 => (lz_k_X6_readBranch_140 hrc (lz_arr (a := 445) z1 (by decide)) h_s1))))) (fun _ => pc_bd (lz_f_X2_need h_r4) (fun r6 h_r6 => pc_bd (hrc.2.1 _ _ _ h_r6) (fun r7 h_r7 => lz_st (LZ.set h_r7 (lz_ar (lz_arr (a := 445) z1 (by decide)))) (fun s2 h_s2 => pc_some h_s2))))))) (fun _ => pc_none))) (fun _ => pc_some h_s)
theorem lz_k_X6_readBranch_20 {rc : RT_X6_readAlts} {l1 : Int32} {l2 : Int32} {s : t_S} (hrc : LZB_X6_readAlts rc) (h_s : LZ s) : t_pq (k_X6_readBranch_20 rc l1 l2 s) (fun y => LZ y.2) := by
  unfold k_X6_readBranch_20
  exact pc_if (fun _ => (lz_k_X6_readBranch_41 hrc h_s)) (fun _ => pc_bd (lz_f_X2_fail h_s) (fun r1 h_r1 => (lz_k_X6_readBranch_41 hrc h_r1)))
theorem lz_m_X6_readBranch {rc : RT_X6_readAlts} {x1 : Int32} {x2 : Int32} {s : t_S} (hrc : LZB_X6_readAlts rc) (h_s : LZ s) : t_pq (m_X6_readBranch rc x1 x2 s) (fun y => LZ y.2) := by
  unfold m_X6_readBranch
  exact pc_if (fun _ => (lz_k_X6_readBranch_20 hrc h_s)) (fun _ => pc_bd (lz_f_X2_fail h_s) (fun r1 h_r1 => (lz_k_X6_readBranch_20 hrc h_r1)))
theorem lz_k_X6_takePlace_100 {s : t_S} (h_s : LZ s) : t_pq (k_X6_takePlace_100 s) (fun y => LZ y.2) := by
  unfold k_X6_takePlace_100
  exact pc_if (fun _ => pc_if (fun z1 => pc_if (fun z2 => lz_st (LZ.set h_s ⟨by decide, by decide, fun y => absurd y.1 (by decide)⟩) (fun s1 h_s1 => lz_st (LZ.set h_s1 ⟨by decide, by decide, fun y => absurd y.1 (by decide)⟩) (fun s2 h_s2 => pc_bd (lz_f_X2_advance h_s2) (fun r4 h_r4 => pc_if (fun z3 => pc_some h_r4) (fun _ => pc_none))))) (fun _ => pc_none)) (fun _ => pc_none)) (fun _ => pc_some h_s)
theorem lz_k_X6_takePlace_64 {s : t_S} (h_s : LZ s) : t_pq (k_X6_takePlace_64 s) (fun y => LZ y.2) := by
  unfold k_X6_takePlace_64
  exact pc_bd (lz_f_X2_fail h_s) (fun r1 h_r1 => (lz_k_X6_takePlace_100 h_r1))
theorem lz_f_X6_takePlace {s : t_S} (h_s : LZ s) : t_pq (f_X6_takePlace s) (fun y => LZ y.2) := by
  unfold f_X6_takePlace
  exact pc_if (fun _ => pc_bd pc_any (fun r2 h_r2 => pc_if (fun _ => (lz_k_X6_takePlace_64 h_s)) (fun _ => pc_bd pc_any (fun r4 h_r4 => pc_if (fun _ => pc_if (fun z1 => pc_if (fun _ => (lz_k_X6_takePlace_100 h_s)) (fun _ => pc_bd (lz_f_X2_fail h_s) (fun r6 h_r6 => (lz_k_X6_takePlace_100 h_r6)))) (fun _ => pc_none)) (fun _ => (lz_k_X6_takePlace_64 h_s)))))) (fun _ => pc_bd (lz_f_X2_fail h_s) (fun r7 h_r7 => (lz_k_X6_takePlace_100 h_r7)))
theorem lz_f_X6_readVar {x1 : Int32} {s : t_S} (h_s : LZ s) : t_pq (f_X6_readVar x1 s) (fun y => LZ y) := by
  unfold f_X6_readVar
  exact pc_if (fun z1 => pc_bd (lz_f_X6_takePlace h_s) (fun r2 h_r2 => pc_if (fun _ => pc_bd (lz_f_X6_readVarType h_r2) (fun r3 h_r3 => pc_bd (lz_f_X2_need h_r3) (fun r4 h_r4 => pc_bd (lz_f_X6_readExp h_r4) (fun r5 h_r5 => lz_st (LZ.set h_r5 (lz_ar (lz_arr (a := 445) z1 (by decide)))) (fun s1 h_s1 => lz_st (LZ.set h_s1 (lz_ar (lz_arr (a := 445) z1 (by decide)))) (fun s2 h_s2 => pc_if (fun z2 => lz_st (LZ.set h_s2 ⟨by decide, by decide, fun y => absurd y.1 (by decide)⟩) (fun s3 h_s3 => pc_some h_s3)) (fun _ => pc_none))))))) (fun _ => pc_some h_r2))) (fun _ => pc_none)
theorem lz_k_X6_readPlain_197 {s : t_S} (h_s : LZ s) : t_pq (k_X6_readPlain_197 s) (fun y => LZ y) := by
  unfold k_X6_readPlain_197
  exact pc_bd (lz_f_X2_advance h_s) (fun r1 h_r1 => pc_some h_r1)
theorem lz_k_X6_readPlain_189 {s : t_S} (h_s : LZ s) : t_pq (k_X6_readPlain_189 s) (fun y => LZ y) := by
  unfold k_X6_readPlain_189
  exact pc_bd (lz_f_X2_fail h_s) (fun r1 h_r1 => (lz_k_X6_readPlain_197 h_r1))
theorem lz_f_X6_readPlain {x1 : Int32} {x2 : Int32} {s : t_S} (h_s : LZ s) : t_pq (f_X6_readPlain x1 x2 s) (fun y => LZ y) := by
  unfold f_X6_readPlain
  exact pc_if (fun z1 => pc_if (fun _ => pc_some h_s) (fun _ => pc_if (fun _ => pc_bd (lz_f_X6_readVar h_s) (fun r2 h_r2 => pc_some h_r2)) (fun _ => pc_if (fun _ => pc_some h_s) (fun _ => pc_if (fun _ => pc_some h_s) (fun _ => pc_if (fun _ => pc_some h_s) (fun _ => pc_if (fun _ => pc_if (fun _ => pc_some h_s) (fun _ => pc_bd (lz_f_X6_readExp h_s) (fun r3 h_r3 => lz_st (LZ.set h_r3 (lz_ar (lz_arr (a := 445) z1 (by decide)))) (fun s1 h_s1 => pc_some h_s1)))) (fun _ => pc_if (fun _ => pc_bd (lz_f_X6_readCall h_s) (fun r4 h_r4 => pc_bd (lz_f_X6_readInto h_r4) (fun r5 h_r5 => pc_some h_r5))) (fun _ => pc_if (fun _ => lz_st (LZ.set h_s (lz_ar (lz_arr (a := 445) z1 (by decide)))) (fun s2 h_s2 => pc_if (fun _ => (lz_k_X6_readPlain_189 h_s2)) (fun _ => pc_if (fun _ => (lz_k_X6_readPlain_197 h_s2)) (fun _ => (lz_k_X6_readPlain_189 h_s2))))) (fun _ => pc_if (fun _ => pc_bd (lz_f_X6_readExp h_s) (fun r6 h_r6 => lz_st (LZ.set h_r6 (lz_ar (lz_arr (a := 445) z1 (by decide)))) (fun s3 h_s3 => pc_some h_s3))) (fun _ => pc_if (fun _ => pc_bd (lz_f_X6_link h_s) (fun r7 h_r7 => pc_bd (lz_f_X6_readExp h_r7) (fun r8 h_r8 => lz_st (LZ.set h_r8 (lz_ar (lz_arr (a := 445) z1 (by decide)))) (fun s4 h_s4 => pc_some h_s4)))) (fun _ => pc_if (fun _ => pc_some h_s) (fun _ => pc_if (fun _ => pc_some h_s) (fun _ => pc_if (fun _ => pc_some h_s) (fun _ => pc_if (fun _ => pc_some h_s) (fun _ => pc_if (fun _ => pc_bd (lz_f_X6_link h_s) (fun r9 h_r9 => pc_bd (lz_f_X6_readExp h_r9) (fun r10 h_r10 => lz_st (LZ.set h_r10 (lz_ar (lz_arr (a := 445) z1 (by decide)))) (fun s5 h_s5 => pc_some h_s5)))) (fun _ => pc_if (fun _ => pc_bd (lz_f_X6_link h_s) (fun r11 h_r11 => pc_some h_r11)) (fun _ => pc_if (fun _ => pc_some h_s) (fun _ => pc_if (fun _ => pc_some h_s) (fun _ => pc_if (fun _ => pc_some h_s) (fun _ => pc_if (fun _ => pc_some h_s) (fun _ => pc_bd (lz_f_X6_readExp h_s) (fun r12 h_r12 => lz_st (LZ.set h_r12 (lz_ar (lz_arr (a := 445) z1 (by decide)))) (fun s6 h_s6 => pc_some h_s6))))))))))))))))))))))) (fun _ => pc_none)
theorem lz_k_X6_readStatement_315 {rc : RT_X6_readAlts} {l4 : Int32} {s : t_S} (hrc : LZB_X6_readAlts rc) (h_s : LZ s) : t_pq (k_X6_readStatement_315 rc l4 s) (fun y => LZ y.2) := by
  unfold k_X6_readStatement_315
  exact pc_bd (lz_f_X2_need h_s) (fun r1 h_r1 => pc_some h_r1)
theorem lz_k_X6_readAssignment_152 {l2 : Nat} {s : t_S} (hl_l2 : ARz l2) (h_s : LZ s) : t_pq (k_X6_readAssignment_152 l2 s) (fun y => LZ y) := by
  unfold k_X6_readAssignment_152
  exact pc_bd (lz_f_X2_need h_s) (fun r1 h_r1 => pc_if (fun _ => pc_if (fun _ => lz_st (LZ.set h_r1 (lz_ar hl_l2)) (fun s1 h_s1 => pc_bd (lz_f_X6_readExp h_s1) (fun r4 h_r4 => pc_bd (lz_f_X0_emit h_r4) (fun r5 h_r5 => pc_bd (lz_f_X2_need h_r5) (fun r6 h_r6 => pc_some h_r6))))) (fun _ => pc_none)) (fun _ => pc_none))
theorem lz_k_X6_readAssignment_146 {l2 : Nat} {l3 : Int32} {s : t_S} (hl_l2 : ARz l2) (h_s : LZ s) : t_pq (k_X6_readAssignment_146 l2 l3 s) (fun z => Sum.elim (fun y => (ARz y.1 ∧ LZ y.2.2)) (fun y => LZ y) z) := by
  unfold k_X6_readAssignment_146
  exact pc_some ⟨hl_l2, h_s⟩
theorem lz_k_X6_readAssignment_71 {l2 : Nat} {l3 : Int32} {s : t_S} (hl_l2 : ARz l2) (h_s : LZ s) : t_pq (k_X6_readAssignment_71 l2 l3 s) (fun z => Sum.elim (fun y => (ARz y.1 ∧ LZ y.2.2)) (fun y => LZ y) z) := by
  unfold k_X6_readAssignment_71
  exact pc_bd (lz_f_X6_node h_s) (fun r1 h_r1 => pc_bd (lz_f_X2_take h_r1) (fun r2 h_r2 => pc_if (fun _ => pc_bd (lz_f_X2_take h_r2) (fun r3 h_r3 => pc_if (fun _ => (lz_k_X6_readAssignment_146 hl_l2 h_r3)) (fun _ => pc_bd (lz_f_X6_readExp h_r3) (fun r4 h_r4 => pc_bd (lz_f_X2_need h_r4) (fun r5 h_r5 => pc_bd (lz_f_X0_emit h_r5) (fun r6 h_r6 => (lz_k_X6_readAssignment_146 hl_l2 h_r6))))))) (fun _ => pc_bd (lz_f_X6_takeFieldName h_r2) (fun r7 h_r7 => pc_bd (lz_f_X0_emit h_r7) (fun r8 h_r8 => (lz_k_X6_readAssignment_146 hl_l2 h_r8))))))
theorem lz_k_X6_readAssignment_27 {l2 : Nat} {l3 : Int32} {s : t_S} (hl_l2 : ARz l2) (h_s : LZ s) : t_pq (k_X6_readAssignment_27 l2 l3 s) (fun z => Sum.elim (fun y => (ARz y.1 ∧ LZ y.2.2)) (fun y => LZ y) z) := by
  unfold k_X6_readAssignment_27
  exact pc_if (fun _ => pc_mp ((lz_k_X6_readAssignment_152 hl_l2 h_s))) (fun _ => pc_if (fun _ => pc_if (fun _ => (lz_k_X6_readAssignment_71 hl_l2 h_s)) (fun _ => pc_if (fun _ => (lz_k_X6_readAssignment_71 hl_l2 h_s)) (fun _ => pc_mp ((lz_k_X6_readAssignment_152 hl_l2 h_s))))) (fun _ => pc_mp ((lz_k_X6_readAssignment_152 hl_l2 h_s))))
theorem lz_b_X6_readAssignment_27 {x9 : Nat × Int32 × t_S} (h : (ARz x9.1 ∧ LZ x9.2.2)) : t_pq (b_X6_readAssignment_27 x9) (fun z => Sum.elim (fun y => (ARz y.1 ∧ LZ y.2.2)) (fun y => LZ y) z) := lz_k_X6_readAssignment_27 h.1 h.2
theorem lz_f_X6_readAssignment {x1 : Int32} {s : t_S} (h_s : LZ s) : t_pq (f_X6_readAssignment x1 s) (fun y => LZ y) := by
  unfold f_X6_readAssignment
  exact pc_if (fun z1 => pc_bd (lz_f_X6_takeVar h_s) (fun r2 h_r2 => lz_st (LZ.set h_r2 (lz_ar (lz_arr (a := 445) z1 (by decide)))) (fun s1 h_s1 => pc_lp (fun x h => lz_b_X6_readAssignment_27 h) ⟨(lz_arr (a := 445) z1 (by decide)), h_s1⟩))) (fun _ => pc_none)
theorem lz_k_X6_readOfComponents_64 {l1 : Int32} {s : t_S} (h_s : LZ s) : t_pq (k_X6_readOfComponents_64 l1 s) (fun y => LZ y) := by
  unfold k_X6_readOfComponents_64
  exact pc_bd (lz_f_X6_readInto h_s) (fun r1 h_r1 => pc_some h_r1)
theorem lz_f_X6_takePort {x1 : Int32} {s : t_S} (h_s : LZ s) : t_pq (f_X6_takePort x1 s) (fun y => LZ y.2) := by
  unfold f_X6_takePort
  exact pc_bd (lz_f_X6_link h_s) (fun r2 h_r2 => pc_some h_r2)
theorem lz_f_X6_readOfComponents {x1 : Int32} {x2 : Int32} {s : t_S} (h_s : LZ s) : t_pq (f_X6_readOfComponents x1 x2 s) (fun y => LZ y) := by
  unfold f_X6_readOfComponents
  exact pc_if (fun z1 => pc_if (fun _ => pc_bd (lz_f_X6_readCall h_s) (fun r2 h_r2 => pc_some h_r2)) (fun _ => pc_if (fun _ => pc_bd (lz_f_X6_link h_s) (fun r3 h_r3 => pc_if (fun _ => (lz_k_X6_readOfComponents_64 h_r3)) (fun _ => pc_bd (lz_f_X2_fail h_r3) (fun r4 h_r4 => (lz_k_X6_readOfComponents_64 h_r4))))) (fun _ => pc_if (fun _ => lz_st (LZ.set h_s (lz_ar (lz_arr (a := 445) z1 (by decide)))) (fun s1 h_s1 => pc_bd (lz_f_X6_readExp h_s1) (fun r5 h_r5 => pc_bd (lz_f_X2_need h_r5) (fun r6 h_r6 => pc_bd (lz_f_X6_readCall h_r6) (fun r7 h_r7 => pc_some h_r7))))) (fun _ => lz_st (LZ.set h_s (lz_ar (lz_arr (a := 445) z1 (by decide)))) (fun s2 h_s2 => pc_bd (lz_f_X6_readExp h_s2) (fun r8 h_r8 => pc_bd (lz_f_X2_need h_r8) (fun r9 h_r9 => pc_bd (lz_f_X6_takePort h_r9) (fun r10 h_r10 => lz_st (LZ.set h_r10 (lz_ar (lz_arr (a := 445) z1 (by decide)))) (fun s3 h_s3 => pc_bd (lz_f_X2_need h_s3) (fun r11 h_r11 => pc_bd (lz_f_X6_readExp h_r11) (fun r12 h_r12 => pc_bd (lz_f_X2_need h_r12) (fun r13 h_r13 => pc_bd (lz_f_X6_takePort h_r13) (fun r14 h_r14 => lz_st (LZ.set h_r14 (lz_ar (lz_arr (a := 445) z1 (by decide)))) (fun s4 h_s4 => pc_bd (lz_f_X0_emit h_s4) (fun r15 h_r15 => pc_some h_r15))))))))))))))) (fun _ => pc_none)
theorem lz_k_X6_readStatement_98 {rc : RT_X6_readAlts} {l1 : Int32} {l3 : Int32} {l4 : Int32} {l5 : Nat} {s : t_S} (hrc : LZB_X6_readAlts rc) (hl_l5 : ARz l5) (h_s : LZ s) : t_pq (k_X6_readStatement_98 rc l1 l3 l4 l5 s) (fun y => LZ y.2) := by
  unfold k_X6_readStatement_98
  exact pc_if (fun _ => pc_bd (lz_f_X6_readPlain h_s) (fun r1 h_r1 => (lz_k_X6_readStatement_315 hrc h_r1))) (fun _ => pc_if (fun _ => pc_bd (lz_f_X6_readAssignment h_s) (fun r2 h_r2 => pc_some h_r2)) (fun _ => pc_if (fun _ => pc_bd (lz_f_X6_readExp h_s) (fun r3 h_r3 => pc_if (fun _ => pc_if (fun _ => lz_st (LZ.set h_r3 (lz_ar hl_l5)) (fun s1 h_s1 => pc_bd (hrc.2.1 _ _ _ h_s1) (fun r6 h_r6 => pc_if (fun _ => lz_st (LZ.set h_r6 (lz_ar hl_l5)) (fun s2 h_s2 => pc_bd (lz_f_X2_take h_s2) (fun r8 h_r8 => pc_if (fun _ => pc_some h_r8) (fun _ => pc_bd (hrc.2.1 _ _ _ h_r8) (fun r9 h_r9 => pc_if (fun _ => lz_st (LZ.set h_r9 (lz_ar hl_l5)) (fun s3 h_s3 => pc_some h_s3)) (fun _ => pc_none)))))) (fun _ => pc_none)))) (fun _ => pc_none)) (fun _ => pc_none))) (fun _ => pc_if (fun _ => pc_bd (lz_f_X6_readExp h_s) (fun r11 h_r11 => pc_if (fun _ => pc_if (fun _ => lz_st (LZ.set h_r11 (lz_ar hl_l5)) (fun s4 h_s4 => pc_bd (hrc.2.1 _ _ _ h_s4) (fun r14 h_r14 => pc_if (fun _ => lz_st (LZ.set h_r14 (lz_ar hl_l5)) (fun s5 h_s5 => pc_some h_s5)) (fun _ => pc_none)))) (fun _ => pc_none)) (fun _ => pc_none))) (fun _ => pc_if (fun _ => pc_bd (lz_f_X6_readPlain h_s) (fun r16 h_r16 => (lz_k_X6_readStatement_315 hrc h_r16))) (fun _ => pc_if (fun _ => pc_bd (lz_f_X6_readPlain h_s) (fun r17 h_r17 => (lz_k_X6_readStatement_315 hrc h_r17))) (fun _ => pc_if (fun _ => pc_bd (lz_f_X6_readPlain h_s) (fun r18 h_r18 => (lz_k_X6_readStatement_315 hrc h_r18))) (fun _ => pc_if (fun _ => pc_bd (lz_f_X6_readPlain h_s) (fun r19 h_r19 => (lz_k_X6_readStatement_315 hrc h_r19))) (fun _ => pc_if (fun _ => pc_bd (lz_f_X6_readPlain h_s) (fun r20 h_r20 => (lz_k_X6_readStatement_315 hrc h_r20))) (fun _ => pc_if (fun _ => pc_bd (hrc.1 _ _ _ h_s) (fun r21 h_r21 => pc_if (fun _ => pc_if (fun _ => lz_st (LZ.set h_r21 (lz_ar hl_l5)) (fun s6 h_s6 => pc_some h_s6)) (fun _ => pc_none)) (fun _ => pc_none))) (fun _ => pc_if (fun _ => pc_bd (lz_f_X6_readEvent h_s) (fun r24 h_r24 => (lz_k_X6_readStatement_315 hrc h_r24))) (fun _ => pc_if (fun _ => pc_bd (lz_f_X6_readEvent h_s) (fun r25 h_r25 => (lz_k_X6_readStatement_315 hrc h_r25))) (fun _ => pc_if (fun _ => pc_bd (lz_f_X6_readEvent h_s) (fun r26 h_r26 => (lz_k_X6_readStatement_315 hrc h_r26))) (fun _ => pc_if (fun _ => pc_bd (lz_f_X6_readPlain h_s) (fun r27 h_r27 => (lz_k_X6_readStatement_315 hrc h_r27))) (fun _ => pc_if (fun _ => pc_bd (lz_f_X6_readPlain h_s) (fun r28 h_r28 => (lz_k_X6_readStatement_315 hrc h_r28))) (fun _ => pc_if (fun _ => pc_bd (lz_f_X6_readOfComponents h_s) (fun r29 h_r29 => (lz_k_X6_readStatement_315 hrc h_r29))) (fun _ => pc_if (fun _ => pc_bd (lz_f_X6_readOfComponents h_s) (fun r30 h_r30 => (lz_k_X6_readStatement_315 hrc h_r30))) (fun _ => pc_if (fun _ => pc_bd (lz_f_X6_readOfComponents h_s) (fun r31 h_r31 => (lz_k_X6_readStatement_315 hrc h_r31))) (fun _ => pc_if (fun _ => pc_bd (lz_f_X6_readPlain h_s) (fun r32 h_r32 => (lz_k_X6_readStatement_315 hrc h_r32))) (fun _ => pc_bd (lz_f_X6_readOfComponents h_s) (fun r33 h_r33 => (lz_k_X6_readStatement_315 hrc h_r33)))))))))))))))))))))
theorem lz_k_X6_readStatement_44 {rc : RT_X6_readAlts} {l1 : Int32} {l2 : Int32} {l3 : Int32} {s : t_S} (hrc : LZB_X6_readAlts rc) (h_s : LZ s) : t_pq (k_X6_readStatement_44 rc l1 l2 l3 s) (fun y => LZ y.2) := by
  unfold k_X6_readStatement_44
  exact pc_if (fun _ => pc_bd (lz_f_X5_addStep h_s) (fun r1 h_r1 => pc_if (fun z1 => pc_if (fun _ => (lz_k_X6_readStatement_98 hrc (lz_arr (a := 445) z1 (by decide)) h_r1)) (fun _ => pc_if (fun _ => pc_bd (lz_f_X2_advance h_r1) (fun r4 h_r4 => (lz_k_X6_readStatement_98 hrc (lz_arr (a := 445) z1 (by decide)) h_r4))) (fun _ => (lz_k_X6_readStatement_98 hrc (lz_arr (a := 445) z1 (by decide)) h_r1)))) (fun _ => pc_none))) (fun _ => pc_some h_s)
theorem lz_k_X6_readStatement_23 {rc : RT_X6_readAlts} {l1 : Int32} {l2 : Int32} {l3 : Int32} {s : t_S} (hrc : LZB_X6_readAlts rc) (h_s : LZ s) : t_pq (k_X6_readStatement_23 rc l1 l2 l3 s) (fun y => LZ y.2) := by
  unfold k_X6_readStatement_23
  exact pc_if (fun _ => (lz_k_X6_readStatement_44 hrc h_s)) (fun _ => pc_bd (lz_f_X2_fail h_s) (fun r1 h_r1 => (lz_k_X6_readStatement_44 hrc h_r1)))
theorem lz_m_X6_readStatement {rc : RT_X6_readAlts} {x1 : Int32} {x2 : Int32} {s : t_S} (hrc : LZB_X6_readAlts rc) (h_s : LZ s) : t_pq (m_X6_readStatement rc x1 x2 s) (fun y => LZ y.2) := by
  unfold m_X6_readStatement
  exact pc_if (fun _ => pc_bd (lz_f_X2_fail h_s) (fun r2 h_r2 => (lz_k_X6_readStatement_23 hrc h_r2))) (fun _ => (lz_k_X6_readStatement_23 hrc h_s))
theorem LZB_X6_readAlts_R : ∀ n, LZB_X6_readAlts (R_X6_readAlts n) := by
  intro n
  induction n with
  | zero => exact ⟨fun _ _ _ _ => pc_none, fun _ _ _ _ => pc_none, fun _ _ _ _ _ => pc_none, fun _ _ _ _ => pc_none, fun _ _ _ _ => pc_none⟩
  | succ n ih => exact ⟨fun _ _ _ h => lz_m_X6_readAlts ih h, fun _ _ _ h => lz_m_X6_readBlock ih h, fun _ _ _ _ h => lz_m_X6_readBraces ih h, fun _ _ _ h => lz_m_X6_readBranch ih h, fun _ _ _ h => lz_m_X6_readStatement ih h⟩
theorem lz_f_X6_readAlts {x1 : Int32} {x2 : Int32} {s : t_S} (h_s : LZ s) : t_pq (f_X6_readAlts x1 x2 s) (fun y => LZ y.2) := by
  unfold f_X6_readAlts
  exact ((LZB_X6_readAlts_R 100).1 _ _ _ h_s)
theorem lz_k_X6_readUnitItem_205 {k0 : Int32} {k1 : Int32} {s : t_S} (h_s : LZ s) : t_pq (k_X6_readUnitItem_205 k0 k1 s) (fun y => LZ y) := by
  unfold k_X6_readUnitItem_205
  exact pc_if (fun z1 => lz_st (LZ.set h_s ⟨by decide, by decide, fun y => absurd y.1 (by decide)⟩) (fun s1 h_s1 => lz_st (LZ.set h_s1 ⟨by decide, by decide, fun y => absurd y.1 (by decide)⟩) (fun s2 h_s2 => lz_st (LZ.set h_s2 ⟨by decide, by decide, fun y => absurd y.1 (by decide)⟩) (fun s3 h_s3 => pc_some h_s3)))) (fun _ => pc_none)
theorem lz_f_X6_readBlock {x1 : Int32} {x2 : Int32} {s : t_S} (h_s : LZ s) : t_pq (f_X6_readBlock x1 x2 s) (fun y => LZ y.2) := by
  unfold f_X6_readBlock
  exact ((LZB_X6_readAlts_R 100).2.1 _ _ _ h_s)
theorem lz_k_X6_readUnitItem_165 {l1 : Int32} {s : t_S} (h_s : LZ s) : t_pq (k_X6_readUnitItem_165 l1 s) (fun y => LZ y) := by
  unfold k_X6_readUnitItem_165
  exact pc_bd (lz_f_X2_need h_s) (fun r1 h_r1 => pc_if (fun _ => pc_bd (lz_f_X6_readAlts h_r1) (fun r3 h_r3 => (lz_k_X6_readUnitItem_205 h_r3))) (fun _ => pc_bd (lz_f_X6_readBlock h_r1) (fun r2 h_r2 => (lz_k_X6_readUnitItem_205 h_r2))))
theorem lz_k_X6_readParameters_2 {l1 : Int32} {s : t_S} (h_s : LZ s) : t_pq (k_X6_readParameters_2 l1 s) (fun z => Sum.elim (fun y => LZ y.2) (fun y => LZ y) z) := by
  unfold k_X6_readParameters_2
  exact pc_if (fun _ => pc_mp (pc_some h_s)) (fun _ => pc_bd (lz_f_X6_takePlace h_s) (fun r1 h_r1 => pc_if (fun _ => pc_if (fun z1 => lz_st (LZ.set h_r1 ⟨by decide, by decide, fun y => absurd y.1 (by decide)⟩) (fun s1 h_s1 => pc_if (fun z2 => lz_st (LZ.set h_s1 ⟨by decide, by decide, fun y => absurd y.1 (by decide)⟩) (fun s2 h_s2 => pc_bd (lz_f_X2_take h_s2) (fun r4 h_r4 => pc_if (fun _ => pc_mp (pc_some h_r4)) (fun _ => pc_some h_r4)))) (fun _ => pc_none))) (fun _ => pc_none)) (fun _ => pc_mp (pc_some h_r1))))
theorem lz_b_X6_readParameters_2 {x9 : Int32 × t_S} (h : LZ x9.2) : t_pq (b_X6_readParameters_2 x9) (fun z => Sum.elim (fun y => LZ y.2) (fun y => LZ y) z) := lz_k_X6_readParameters_2 h
theorem lz_f_X6_readParameters {s : t_S} (h_s : LZ s) : t_pq (f_X6_readParameters s) (fun y => LZ y) := by
  unfold f_X6_readParameters
  exact pc_lp (fun x h => lz_b_X6_readParameters_2 h) h_s
theorem lz_k_X6_readUnitItem_122 {l1 : Int32} {k0 : Int32} {s : t_S} (h_s : LZ s) : t_pq (k_X6_readUnitItem_122 l1 k0 s) (fun y => LZ y) := by
  unfold k_X6_readUnitItem_122
  exact lz_st (LZ.set h_s ⟨by decide, by decide, fun y => absurd y.1 (by decide)⟩) (fun s1 h_s1 => pc_bd (lz_f_X6_link h_s1) (fun r1 h_r1 => pc_bd (lz_f_X2_need h_r1) (fun r2 h_r2 => pc_if (fun _ => (lz_k_X6_readUnitItem_165 h_r2)) (fun _ => pc_if (fun _ => (lz_k_X6_readUnitItem_165 h_r2)) (fun _ => pc_bd (lz_f_X6_readParameters h_r2) (fun r3 h_r3 => (lz_k_X6_readUnitItem_165 h_r3)))))))
theorem lz_k_X6_readUnitItem_121 {l1 : Int32} {s : t_S} (h_s : LZ s) : t_pq (k_X6_readUnitItem_121 l1 s) (fun y => LZ y) := by
  unfold k_X6_readUnitItem_121
  exact (lz_k_X6_readUnitItem_122 h_s)
theorem lz_k_X6_readUnitItem_97 {l1 : Int32} {k0 : Int32} {s : t_S} (h_s : LZ s) : t_pq (k_X6_readUnitItem_97 l1 k0 s) (fun y => LZ y) := by
  unfold k_X6_readUnitItem_97
  exact pc_if (fun _ => (lz_k_X6_readUnitItem_121 h_s)) (fun _ => pc_if (fun _ => (lz_k_X6_readUnitItem_121 h_s)) (fun _ => (lz_k_X6_readUnitItem_122 h_s)))
theorem lz_f_X6_readUnitItem {x1 : Int32} {s : t_S} (h_s : LZ s) : t_pq (f_X6_readUnitItem x1 s) (fun y => LZ y) := by
  unfold f_X6_readUnitItem
  exact pc_bd (lz_f_X2_advance h_s) (fun r1 h_r1 => pc_bd (lz_f_X6_takeName h_r1) (fun r2 h_r2 => pc_if (fun _ => pc_some h_r2) (fun _ => lz_st (LZ.set h_r2 ⟨by decide, by decide, fun y => absurd y.1 (by decide)⟩) (fun s1 h_s1 => pc_bd (lz_f_X5_addUnit h_s1) (fun r3 h_r3 => pc_bd (lz_f_X2_advance h_r3) (fun r4 h_r4 => pc_bd (lz_f_X2_need h_r4) (fun r5 h_r5 => pc_if (fun _ => pc_if (fun z1 => (lz_k_X6_readUnitItem_97 h_r5)) (fun _ => pc_none)) (fun _ => (lz_k_X6_readUnitItem_97 h_r5)))))))))
theorem lz_mIt {s : t_S} (h : LZ s) : t_pq (mIt s) (fun y => LZ y) := by
  unfold mIt
  exact pc_if (fun _ => lz_f_X2_fail h) (fun _ => pc_if (fun _ => lz_f_X6_readTypeItem h) (fun _ => pc_if (fun _ => lz_f_X6_readTemplateItem h) (fun _ => pc_if (fun _ => lz_f_X6_readComponentItem h) (fun _ => pc_if (fun _ => lz_f_X6_readUnitItem h) (fun _ => pc_if (fun _ => lz_f_X6_readUnitItem h) (fun _ => lz_f_X6_readUnitItem h))))))
end
