/-! Level 2: the count of links stays in range, whatever is read of exps and templs. -/
def t_pq {T : Type} (o : Option T) (Q : T → Prop) : Prop := ∀ y, o = some y → Q y
theorem pc_none {T : Type} {Q : T → Prop} : t_pq none Q := fun _ h => by cases h
theorem pc_some {T : Type} {x : T} {Q : T → Prop} (h : Q x) : t_pq (some x) Q := fun _ e => by cases e; exact h
theorem pc_any {T : Type} {o : Option T} : t_pq o (fun _ => True) := fun _ _ => trivial
theorem pc_if {T : Type} {c : Prop} [Decidable c] {A B : Option T} {Q : T → Prop} (h1 : c → t_pq A Q) (h2 : ¬ c → t_pq B Q) : t_pq (if c then A else B) Q := by
  by_cases z : c
  · rw [if_pos z]; exact h1 z
  · rw [if_neg z]; exact h2 z
theorem pc_bd {T U : Type} {o : Option U} {f : U → Option T} {P : U → Prop} {Q : T → Prop} (h : t_pq o P) (g : ∀ y, P y → t_pq (f y) Q) : t_pq (o.bind f) Q := by
  cases o with
  | none => exact pc_none
  | some x => exact g x (h x rfl)
theorem pc_mp {T U : Type} {o : Option U} {f : U → T} {Q : T → Prop} (h : t_pq o (fun y => Q (f y))) : t_pq (o.map f) Q := by
  cases o with
  | none => exact pc_none
  | some x => exact pc_some (h x rfl)
theorem pc_lt {A T : Type} {a : A} {f : A → Option T} {Q : T → Prop} (h : t_pq (f a) Q) : t_pq (t_let a f) Q := h
theorem pc_lp {σ ρ : Type} {b : σ → Option (σ ⊕ ρ)} {I : σ → Prop} {Q : ρ → Prop} (hs : ∀ x, I x → t_pq (b x) (fun z => Sum.elim I Q z)) : ∀ {n : Nat} {x : σ}, I x → t_pq (t_loop b n x) Q := by
  intro n
  induction n with
  | zero => exact fun _ => pc_none
  | succ n ih =>
    intro x hx y hy
    have h := hs x hx
    unfold t_loop at hy
    cases e : b x with
    | none =>
      rw [e] at hy
      cases hy
    | some z =>
      rw [e] at hy
      have hz := h z e
      cases z with
      | inl w => exact ih hz y hy
      | inr r =>
        cases hy
        exact hz
def LK (s : t_S) : Prop := ∃ l, l ≤ 6002 ∧ s.1 846 6 = nI l
theorem LK.set {s : t_S} {a k : Nat} {v : Int32} (h : LK s) (hk : a = 846 → k ≠ 6) : LK (t_setI s a k v) := by
  obtain ⟨l, h1, h2⟩ := h
  refine ⟨l, h1, ?_⟩
  rw [l2_gI]
  by_cases z : 846 = a
  · rw [if_pos z, if_neg (fun y => hk z.symm y.symm)]
    exact h2
  · rw [if_neg z]
    exact h2
theorem pc_st {T : Type} {a : t_S} {f : t_S → Option T} {Q : T → Prop} (h : LK a) (g : ∀ s, LK s → t_pq (f s) Q) : t_pq (t_let a f) Q := g a h
theorem pl_f_X3_add {x1 x2 x3 x4 x5 x6 : Int32} {s : t_S} (h_s : LK s) : t_pq (f_X3_add x1 x2 x3 x4 x5 x6 s) (fun y => LK y) := by
  obtain ⟨l, h1, h2⟩ := h_s
  by_cases z : l < 6002
  · obtain ⟨y, e, f, g, _⟩ := ln_add (x1 := x1) (x2 := x2) (x3 := x3) (x4 := x4) (x5 := x5) (x6 := x6) h2 z
    intro w hw
    rw [e] at hw
    cases hw
    exact ⟨l + 1, by omega, g⟩
  · unfold f_X3_add
    have e : l = 6002 := by omega
    subst e
    rw [h2, if_neg (by decide)]
    exact pc_some ⟨6002, by decide, h2⟩
def LKB (rc : RT_X6_readBase) : Prop := (∀ (x0 : Int32) (s : t_S), LK s → t_pq (rc.1 x0 s) (fun y => LK y)) ∧ (∀ (x0 : Int32) (s : t_S), LK s → t_pq (rc.2.1 x0 s) (fun y => LK y)) ∧ (∀ (x0 : Int32) (s : t_S), LK s → t_pq (rc.2.2.1 x0 s) (fun y => LK y.2)) ∧ (∀ (x0 : Int32) (s : t_S), LK s → t_pq (rc.2.2.2.1 x0 s) (fun y => LK y)) ∧ (∀ (x0 : Int32) (s : t_S), LK s → t_pq (rc.2.2.2.2.1 x0 s) (fun y => LK y.2)) ∧ (∀ (x0 : Int32) (x1 : Int32) (x2 : Int32) (x3 : Int32) (s : t_S), LK s → t_pq (rc.2.2.2.2.2.1 x0 x1 x2 x3 s) (fun y => LK y)) ∧ (∀ (x0 : Int32) (s : t_S), LK s → t_pq (rc.2.2.2.2.2.2.1 x0 s) (fun y => LK y)) ∧ (∀ (x0 : Int32) (s : t_S), LK s → t_pq (rc.2.2.2.2.2.2.2.1 x0 s) (fun y => LK y)) ∧ (∀ (x0 : Int32) (x1 : Int32) (s : t_S), LK s → t_pq (rc.2.2.2.2.2.2.2.2.1 x0 x1 s) (fun y => LK y.2)) ∧ (∀ (x0 : Int32) (x1 : Int32) (x2 : Int32) (s : t_S), LK s → t_pq (rc.2.2.2.2.2.2.2.2.2.1 x0 x1 x2 s) (fun y => LK y)) ∧ (∀ (x0 : Int32) (x1 : Int32) (x2 : Int32) (x3 : Int32) (s : t_S), LK s → t_pq (rc.2.2.2.2.2.2.2.2.2.2.1 x0 x1 x2 x3 s) (fun y => LK y)) ∧ (∀ (x0 : Int32) (x1 : Int32) (s : t_S), LK s → t_pq (rc.2.2.2.2.2.2.2.2.2.2.2.1 x0 x1 s) (fun y => LK y)) ∧ (∀ (x0 : Int32) (x1 : Int32) (x2 : Int32) (s : t_S), LK s → t_pq (rc.2.2.2.2.2.2.2.2.2.2.2.2.1 x0 x1 x2 s) (fun y => LK y)) ∧ (∀ (x0 : Int32) (x1 : Int32) (s : t_S), LK s → t_pq (rc.2.2.2.2.2.2.2.2.2.2.2.2.2.1 x0 x1 s) (fun y => LK y.2)) ∧ (∀ (x0 : Int32) (x1 : Int32) (x2 : Int32) (s : t_S), LK s → t_pq (rc.2.2.2.2.2.2.2.2.2.2.2.2.2.2.1 x0 x1 x2 s) (fun y => LK y)) ∧ (∀ (x0 : Int32) (x1 : Int32) (x2 : Int32) (s : t_S), LK s → t_pq (rc.2.2.2.2.2.2.2.2.2.2.2.2.2.2.2 x0 x1 x2 s) (fun y => LK y))
theorem pl_f_X0_emit {x1 : Int32} {x2 : Int32} {s : t_S} (h_s : LK s) : t_pq (f_X0_emit x1 x2 s) (fun y => LK y.2) := by
  unfold f_X0_emit
  exact pc_if (fun _ => pc_if (fun _ => pc_st (LK.set h_s (fun y => absurd y (by decide))) (fun s1 h_s1 => pc_if (fun _ => pc_st (LK.set h_s1 (fun y => absurd y (by decide))) (fun s2 h_s2 => pc_st (LK.set h_s2 (fun y => absurd y (by decide))) (fun s3 h_s3 => pc_some h_s3))) (fun _ => pc_none))) (fun _ => pc_none)) (fun _ => pc_some h_s)
theorem pl_k_X6_emitWord_55 {l1 : Int32} {l2 : Int32} {k0 : Int32} {s : t_S} (h_s : LK s) : t_pq (k_X6_emitWord_55 l1 l2 k0 s) (fun y => LK y) := by
  unfold k_X6_emitWord_55
  exact pc_if (fun _ => pc_if (fun _ => pc_bd (pl_f_X0_emit h_s) (fun r2 h_r2 => pc_bd (pl_f_X3_add h_r2) (fun r3 h_r3 => pc_some h_r3))) (fun _ => pc_bd (pl_f_X0_emit h_s) (fun r4 h_r4 => pc_some h_r4))) (fun _ => pc_bd (pl_f_X0_emit h_s) (fun r5 h_r5 => pc_some h_r5))
theorem pl_k_X6_emitWord_31 {l1 : Int32} {k0 : Int32} {s : t_S} (h_s : LK s) : t_pq (k_X6_emitWord_31 l1 k0 s) (fun y => LK y) := by
  unfold k_X6_emitWord_31
  exact pc_if (fun _ => (pl_k_X6_emitWord_55 h_s)) (fun _ => pc_bd pc_any (fun r1 h_r1 => (pl_k_X6_emitWord_55 h_s)))
theorem pl_f_X6_emitWord {s : t_S} (h_s : LK s) : t_pq (f_X6_emitWord s) (fun y => LK y) := by
  unfold f_X6_emitWord
  exact pc_if (fun _ => (pl_k_X6_emitWord_31 h_s)) (fun _ => pc_bd pc_any (fun r2 h_r2 => (pl_k_X6_emitWord_31 h_s)))
theorem pl_f_X2_advance {s : t_S} (h_s : LK s) : t_pq (f_X2_advance s) (fun y => LK y) := by
  unfold f_X2_advance
  exact pc_if (fun _ => pc_if (fun _ => pc_st (LK.set h_s (fun y => absurd y (by decide))) (fun s1 h_s1 => pc_if (fun _ => pc_st (LK.set h_s1 (fun y => absurd y (by decide))) (fun s2 h_s2 => pc_if (fun _ => pc_st (LK.set h_s2 (fun y => absurd y (by decide))) (fun s3 h_s3 => pc_if (fun _ => pc_st h_s3 (fun s4 h_s4 => pc_if (fun _ => pc_st (LK.set h_s4 (fun y => absurd y (by decide))) (fun s5 h_s5 => pc_st (LK.set h_s5 (fun y => absurd y (by decide))) (fun s6 h_s6 => pc_some h_s6))) (fun _ => pc_some h_s4))) (fun _ => pc_none))) (fun _ => pc_none))) (fun _ => pc_none))) (fun _ => pc_some h_s)) (fun _ => pc_some h_s)
theorem pl_f_X2_fail {x1 : Int32} {s : t_S} (h_s : LK s) : t_pq (f_X2_fail x1 s) (fun y => LK y) := by
  unfold f_X2_fail
  exact pc_if (fun _ => pc_st (LK.set h_s (fun y => absurd y (by decide))) (fun s1 h_s1 => pc_st (LK.set h_s1 (fun y => absurd y (by decide))) (fun s2 h_s2 => pc_st (LK.set h_s2 (fun y => absurd y (by decide))) (fun s3 h_s3 => pc_some h_s3)))) (fun _ => pc_some h_s)
theorem pl_f_X2_need {x1 : Int32} {s : t_S} (h_s : LK s) : t_pq (f_X2_need x1 s) (fun y => LK y) := by
  unfold f_X2_need
  exact pc_if (fun _ => pc_bd (pl_f_X2_advance h_s) (fun r2 h_r2 => pc_some h_r2)) (fun _ => pc_bd (pl_f_X2_fail h_s) (fun r1 h_r1 => pc_some h_r1))
theorem pl_f_X6_link {x1 : Int32} {x2 : Int32} {x3 : Int32} {s : t_S} (h_s : LK s) : t_pq (f_X6_link x1 x2 x3 s) (fun y => LK y) := by
  unfold f_X6_link
  exact pc_if (fun _ => pc_bd (pl_f_X3_add h_s) (fun r3 h_r3 => pc_bd (pl_f_X2_advance h_r3) (fun r4 h_r4 => pc_some h_r4))) (fun _ => pc_bd (pl_f_X2_fail h_s) (fun r5 h_r5 => pc_some h_r5))
theorem pl_k_X6_readBase_326 {rc : RT_X6_readBase} {l1 : Int32} {l2 : Int32} {s : t_S} (hrc : LKB rc) (h_s : LK s) : t_pq (k_X6_readBase_326 rc l1 l2 s) (fun y => LK y) := by
  unfold k_X6_readBase_326
  exact pc_bd (pl_f_X2_advance h_s) (fun r1 h_r1 => pc_if (fun _ => pc_bd (hrc.2.2.1 _ _ h_r1) (fun r2 h_r2 => pc_bd (pl_f_X2_need h_r2) (fun r3 h_r3 => pc_some h_r3))) (fun _ => pc_if (fun _ => pc_bd (hrc.2.1 _ _ h_r1) (fun r4 h_r4 => pc_some h_r4)) (fun _ => pc_if (fun _ => pc_bd (hrc.2.2.2.1 _ _ h_r1) (fun r5 h_r5 => pc_some h_r5)) (fun _ => pc_if (fun _ => pc_bd (hrc.2.2.2.2.2.2.1 _ _ h_r1) (fun r6 h_r6 => pc_some h_r6)) (fun _ => pc_if (fun _ => pc_bd (pl_f_X2_need h_r1) (fun r7 h_r7 => pc_bd (hrc.2.2.1 _ _ h_r7) (fun r8 h_r8 => pc_bd (pl_f_X2_need h_r8) (fun r9 h_r9 => pc_bd (pl_f_X0_emit h_r9) (fun r10 h_r10 => pc_some h_r10))))) (fun _ => pc_if (fun _ => pc_bd (pl_f_X0_emit h_r1) (fun r11 h_r11 => pc_bd (pl_f_X6_link h_r11) (fun r12 h_r12 => pc_some h_r12))) (fun _ => pc_some h_r1)))))))
theorem pl_f_X0_poolCell {x1 : Int64} {s : t_S} (h_s : LK s) : t_pq (f_X0_poolCell x1 s) (fun y => LK y.2) := by
  unfold f_X0_poolCell
  exact pc_if (fun _ => pc_if (fun _ => pc_st h_s (fun s1 h_s1 => pc_st (LK.set h_s1 (fun y => absurd y (by decide))) (fun s2 h_s2 => pc_some h_s2))) (fun _ => pc_none)) (fun _ => pc_some h_s)
theorem pl_f_X0_poolText {x1 : Int32} {s : t_S} (h_s : LK s) : t_pq (f_X0_poolText x1 s) (fun y => LK y.2) := by
  unfold f_X0_poolText
  exact pc_if (fun _ => pc_bd pc_any (fun r1 h_r1 => pc_if (fun _ => pc_st h_s (fun s1 h_s1 => pc_st (LK.set h_s1 (fun y => absurd y (by decide))) (fun s2 h_s2 => pc_some h_s2))) (fun _ => pc_none))) (fun _ => pc_some h_s)
theorem pl_k_X8_putSign_24 {l0 : Nat} {l2 : Int32} {l3 : Int32} {l4 : Int32} {s : t_S} (h_s : LK s) : t_pq (k_X8_putSign_24 l0 l2 l3 l4 s) (fun y => LK y) := by
  unfold k_X8_putSign_24
  exact pc_if (fun _ => pc_if (fun _ => pc_st h_s (fun s1 h_s1 => pc_some h_s1)) (fun _ => pc_none)) (fun _ => pc_none)
theorem pl_f_X8_putSign {x1 : Nat} {x2 : Int32} {x3 : Int32} {x4 : Int32} {s : t_S} (h_s : LK s) : t_pq (f_X8_putSign x1 x2 x3 x4 s) (fun y => LK y) := by
  unfold f_X8_putSign
  exact pc_if (fun _ => pc_if (fun _ => pc_if (fun _ => pc_st h_s (fun s1 h_s1 => (pl_k_X8_putSign_24 h_s1))) (fun _ => pc_none)) (fun _ => pc_none)) (fun _ => (pl_k_X8_putSign_24 h_s))
theorem pl_k_X6_poolText_18 {l1 : Int32} {l2 : Int32} {s : t_S} (h_s : LK s) : t_pq (k_X6_poolText_18 l1 l2 s) (fun z => Sum.elim (fun y => LK y.2.2) (fun y => LK y.2) z) := by
  unfold k_X6_poolText_18
  exact pc_if (fun _ => pc_mp (pc_some h_s)) (fun _ => pc_bd pc_any (fun r1 h_r1 => pc_bd (pl_f_X8_putSign h_s) (fun r2 h_r2 => pc_some h_r2)))
theorem pl_b_X6_poolText_18 {x : Int32 × Int32 × t_S} (h : LK x.2.2) : t_pq (b_X6_poolText_18 x) (fun z => Sum.elim (fun y => LK y.2.2) (fun y => LK y.2) z) := pl_k_X6_poolText_18 h
theorem pl_f_X6_poolText {s : t_S} (h_s : LK s) : t_pq (f_X6_poolText s) (fun y => LK y.2) := by
  unfold f_X6_poolText
  exact pc_bd (pl_f_X0_poolText h_s) (fun r1 h_r1 => pc_lp (fun x h => pl_b_X6_poolText_18 h) h_r1)
theorem pl_k_X6_readBase_82 {rc : RT_X6_readBase} {l1 : Int32} {l2 : Int32} {s : t_S} (hrc : LKB rc) (h_s : LK s) : t_pq (k_X6_readBase_82 rc l1 l2 s) (fun y => LK y) := by
  unfold k_X6_readBase_82
  exact pc_if (fun _ => pc_bd (pl_f_X6_emitWord h_s) (fun r1 h_r1 => (pl_k_X6_readBase_326 hrc h_r1))) (fun _ => pc_if (fun _ => pc_bd (pl_f_X0_poolCell h_s) (fun r3 h_r3 => pc_bd (pl_f_X0_emit h_r3) (fun r4 h_r4 => (pl_k_X6_readBase_326 hrc h_r4)))) (fun _ => pc_if (fun _ => pc_bd (pl_f_X6_poolText h_s) (fun r5 h_r5 => pc_bd (pl_f_X0_emit h_r5) (fun r6 h_r6 => (pl_k_X6_readBase_326 hrc h_r6)))) (fun _ => pc_if (fun _ => pc_bd (pl_f_X0_poolCell h_s) (fun r8 h_r8 => pc_bd (pl_f_X0_emit h_r8) (fun r9 h_r9 => (pl_k_X6_readBase_326 hrc h_r9)))) (fun _ => pc_if (fun _ => pc_bd (pl_f_X0_poolCell h_s) (fun r11 h_r11 => pc_bd (pl_f_X0_emit h_r11) (fun r12 h_r12 => (pl_k_X6_readBase_326 hrc h_r12)))) (fun _ => pc_if (fun _ => pc_bd (pl_f_X0_poolCell h_s) (fun r13 h_r13 => pc_bd (pl_f_X0_emit h_r13) (fun r14 h_r14 => (pl_k_X6_readBase_326 hrc h_r14)))) (fun _ => pc_if (fun _ => pc_bd (pl_f_X0_emit h_s) (fun r15 h_r15 => (pl_k_X6_readBase_326 hrc h_r15))) (fun _ => pc_if (fun _ => pc_bd (pl_f_X0_emit h_s) (fun r16 h_r16 => (pl_k_X6_readBase_326 hrc h_r16))) (fun _ => pc_if (fun _ => pc_bd (pl_f_X0_emit h_s) (fun r17 h_r17 => (pl_k_X6_readBase_326 hrc h_r17))) (fun _ => (pl_k_X6_readBase_326 hrc h_s))))))))))
theorem pl_k_X3_late_31 {l1 : Int32} {l2 : Int32} {s : t_S} (h_s : LK s) : t_pq (k_X3_late_31 l1 l2 s) (fun y => LK y) := by
  unfold k_X3_late_31
  exact pc_st (LK.set h_s (fun _ => by decide)) (fun s1 h_s1 => pc_st (LK.set h_s1 (fun _ => by decide)) (fun s2 h_s2 => pc_some h_s2))
theorem pl_f_X3_late {x1 : Int32} {x2 : Int32} {s : t_S} (h_s : LK s) : t_pq (f_X3_late x1 x2 s) (fun y => LK y) := by
  unfold f_X3_late
  exact pc_if (fun _ => (pl_k_X3_late_31 h_s)) (fun _ => pc_if (fun _ => (pl_k_X3_late_31 h_s)) (fun _ => pc_if (fun _ => pc_if (fun _ => pc_some h_s) (fun _ => (pl_k_X3_late_31 h_s))) (fun _ => pc_some h_s)))
theorem pl_k_X6_readBase_55 {rc : RT_X6_readBase} {l1 : Int32} {l2 : Int32} {k0 : Int32} {s : t_S} (hrc : LKB rc) (h_s : LK s) : t_pq (k_X6_readBase_55 rc l1 l2 k0 s) (fun y => LK y) := by
  unfold k_X6_readBase_55
  exact pc_if (fun _ => (pl_k_X6_readBase_82 hrc h_s)) (fun _ => pc_if (fun _ => (pl_k_X6_readBase_82 hrc h_s)) (fun _ => pc_bd (pl_f_X3_late h_s) (fun r1 h_r1 => (pl_k_X6_readBase_82 hrc h_r1))))
theorem pl_k_X6_readBase_50 {rc : RT_X6_readBase} {l1 : Int32} {l2 : Int32} {s : t_S} (hrc : LKB rc) (h_s : LK s) : t_pq (k_X6_readBase_50 rc l1 l2 s) (fun y => LK y) := by
  unfold k_X6_readBase_50
  exact (pl_k_X6_readBase_55 hrc h_s)
theorem pl_m_X6_readBase {rc : RT_X6_readBase} {x1 : Int32} {s : t_S} (hrc : LKB rc) (h_s : LK s) : t_pq (m_X6_readBase rc x1 s) (fun y => LK y) := by
  unfold m_X6_readBase
  exact pc_if (fun _ => (pl_k_X6_readBase_50 hrc h_s)) (fun _ => pc_if (fun _ => (pl_k_X6_readBase_50 hrc h_s)) (fun _ => pc_if (fun _ => (pl_k_X6_readBase_50 hrc h_s)) (fun _ => pc_if (fun _ => (pl_k_X6_readBase_50 hrc h_s)) (fun _ => pc_if (fun _ => (pl_k_X6_readBase_50 hrc h_s)) (fun _ => pc_if (fun _ => (pl_k_X6_readBase_50 hrc h_s)) (fun _ => (pl_k_X6_readBase_55 hrc h_s)))))))
theorem pl_k_X6_readElements_23 {rc : RT_X6_readBase} {k0 : Int32} {s : t_S} (hrc : LKB rc) (h_s : LK s) : t_pq (k_X6_readElements_23 rc k0 s) (fun y => LK y) := by
  unfold k_X6_readElements_23
  exact pc_bd (pl_f_X2_need h_s) (fun r1 h_r1 => pc_bd (pl_f_X0_emit h_r1) (fun r2 h_r2 => pc_some h_r2))
theorem pl_m_X6_readElements {rc : RT_X6_readBase} {x1 : Int32} {s : t_S} (hrc : LKB rc) (h_s : LK s) : t_pq (m_X6_readElements rc x1 s) (fun y => LK y) := by
  unfold m_X6_readElements
  exact pc_if (fun _ => (pl_k_X6_readElements_23 hrc h_s)) (fun _ => pc_bd (hrc.2.2.2.2.1 _ _ h_s) (fun r1 h_r1 => (pl_k_X6_readElements_23 hrc h_r1)))
theorem pl_k_X6_lower_63 {l1 : Int32} {l2 : Int32} {s : t_S} (h_s : LK s) : t_pq (k_X6_lower_63 l1 l2 s) (fun z => Sum.elim (fun y => LK y.2.2) (fun y => LK y) z) := by
  unfold k_X6_lower_63
  exact pc_bd (pl_f_X0_emit h_s) (fun r1 h_r1 => pc_if (fun _ => pc_if (fun _ => pc_st (LK.set h_r1 (fun y => absurd y (by decide))) (fun s1 h_s1 => pc_some h_s1)) (fun _ => pc_none)) (fun _ => pc_none))
theorem pl_k_X6_lower_29 {l1 : Int32} {l2 : Int32} {s : t_S} (h_s : LK s) : t_pq (k_X6_lower_29 l1 l2 s) (fun z => Sum.elim (fun y => LK y.2.2) (fun y => LK y) z) := by
  unfold k_X6_lower_29
  exact pc_st (LK.set h_s (fun y => absurd y (by decide))) (fun s1 h_s1 => pc_if (fun _ => pc_if (fun _ => (pl_k_X6_lower_63 h_s1)) (fun _ => pc_if (fun _ => (pl_k_X6_lower_63 h_s1)) (fun _ => pc_bd (pl_f_X0_emit h_s1) (fun r3 h_r3 => pc_some h_r3)))) (fun _ => pc_none))
theorem pl_k_X6_lower_0 {l1 : Int32} {l2 : Int32} {s : t_S} (h_s : LK s) : t_pq (k_X6_lower_0 l1 l2 s) (fun z => Sum.elim (fun y => LK y.2.2) (fun y => LK y) z) := by
  unfold k_X6_lower_0
  exact pc_if (fun _ => pc_mp (pc_some h_s)) (fun _ => pc_bd pc_any (fun r1 h_r1 => pc_if (fun _ => (pl_k_X6_lower_29 h_s)) (fun _ => pc_bd pc_any (fun r2 h_r2 => pc_if (fun _ => pc_if (fun _ => pc_mp (pc_some h_s)) (fun _ => (pl_k_X6_lower_29 h_s))) (fun _ => pc_mp (pc_some h_s))))))
theorem pl_b_X6_lower_0 {x : Int32 × Int32 × t_S} (h : LK x.2.2) : t_pq (b_X6_lower_0 x) (fun z => Sum.elim (fun y => LK y.2.2) (fun y => LK y) z) := pl_k_X6_lower_0 h
theorem pl_f_X6_lower {x1 : Int32} {x2 : Int32} {s : t_S} (h_s : LK s) : t_pq (f_X6_lower x1 x2 s) (fun y => LK y) := by
  unfold f_X6_lower
  exact pc_lp (fun x h => pl_b_X6_lower_0 h) h_s
theorem pl_k_X6_readExp_175 {rc : RT_X6_readBase} {l1 : Int32} {l2 : Int32} {l3 : Int32} {s : t_S} (hrc : LKB rc) (h_s : LK s) : t_pq (k_X6_readExp_175 rc l1 l2 l3 s) (fun y => LK y.2) := by
  unfold k_X6_readExp_175
  exact pc_bd (pl_f_X6_lower h_s) (fun r1 h_r1 => pc_if (fun _ => pc_bd (pl_f_X0_emit h_r1) (fun r2 h_r2 => pc_some h_r2)) (fun _ => pc_some h_r1))
theorem pl_f_X6_node {s : t_S} (h_s : LK s) : t_pq (f_X6_node s) (fun y => LK y) := by
  unfold f_X6_node
  exact pc_if (fun _ => pc_st (LK.set h_s (fun y => absurd y (by decide))) (fun s1 h_s1 => pc_some h_s1)) (fun _ => pc_bd (pl_f_X2_fail h_s) (fun r1 h_r1 => pc_some h_r1))
theorem pl_f_X6_pushWaiting {x1 : Int32} {x2 : Int32} {s : t_S} (h_s : LK s) : t_pq (f_X6_pushWaiting x1 x2 s) (fun y => LK y) := by
  unfold f_X6_pushWaiting
  exact pc_if (fun _ => pc_if (fun _ => pc_st (LK.set h_s (fun y => absurd y (by decide))) (fun s1 h_s1 => pc_if (fun _ => pc_st (LK.set h_s1 (fun y => absurd y (by decide))) (fun s2 h_s2 => pc_st (LK.set h_s2 (fun y => absurd y (by decide))) (fun s3 h_s3 => pc_some h_s3))) (fun _ => pc_none))) (fun _ => pc_none)) (fun _ => pc_some h_s)
theorem pl_k_X6_pushOperator_36 {l1 : Int32} {l2 : Int32} {s : t_S} (h_s : LK s) : t_pq (k_X6_pushOperator_36 l1 l2 s) (fun y => LK y) := by
  unfold k_X6_pushOperator_36
  exact pc_bd (pl_f_X6_pushWaiting h_s) (fun r1 h_r1 => pc_some h_r1)
theorem pl_k_X6_pushOperator_19 {l1 : Int32} {l2 : Int32} {s : t_S} (h_s : LK s) : t_pq (k_X6_pushOperator_19 l1 l2 s) (fun y => LK y) := by
  unfold k_X6_pushOperator_19
  exact pc_if (fun _ => pc_bd (pl_f_X0_emit h_s) (fun r1 h_r1 => (pl_k_X6_pushOperator_36 h_r1))) (fun _ => (pl_k_X6_pushOperator_36 h_s))
theorem pl_f_X6_pushOperator {x1 : Int32} {s : t_S} (h_s : LK s) : t_pq (f_X6_pushOperator x1 s) (fun y => LK y) := by
  unfold f_X6_pushOperator
  exact pc_if (fun _ => pc_bd (pl_f_X0_emit h_s) (fun r1 h_r1 => (pl_k_X6_pushOperator_19 h_r1))) (fun _ => (pl_k_X6_pushOperator_19 h_s))
theorem pl_k_X6_readExp_125 {rc : RT_X6_readBase} {l1 : Int32} {l2 : Int32} {l3 : Int32} {l4 : Int32} {s : t_S} (hrc : LKB rc) (h_s : LK s) : t_pq (k_X6_readExp_125 rc l1 l2 l3 l4 s) (fun z => Sum.elim (fun y => LK y.2.2.2.2) (fun y => LK y.2) z) := by
  unfold k_X6_readExp_125
  exact pc_bd (pl_f_X6_node h_s) (fun r1 h_r1 => pc_if (fun _ => pc_bd (pl_f_X6_pushOperator h_r1) (fun r2 h_r2 => pc_bd (pl_f_X2_advance h_r2) (fun r3 h_r3 => pc_bd (hrc.2.2.2.2.2.2.2.1 _ _ h_r3) (fun r4 h_r4 => pc_some h_r4)))) (fun _ => pc_mp ((pl_k_X6_readExp_175 hrc h_r1))))
theorem pl_k_X6_readExp_60 {rc : RT_X6_readBase} {l1 : Int32} {l2 : Int32} {l3 : Int32} {l4 : Int32} {s : t_S} (hrc : LKB rc) (h_s : LK s) : t_pq (k_X6_readExp_60 rc l1 l2 l3 l4 s) (fun z => Sum.elim (fun y => LK y.2.2.2.2) (fun y => LK y.2) z) := by
  unfold k_X6_readExp_60
  exact pc_if (fun _ => pc_mp ((pl_k_X6_readExp_175 hrc h_s))) (fun _ => pc_if (fun _ => pc_mp ((pl_k_X6_readExp_175 hrc h_s))) (fun _ => pc_bd (pl_f_X6_lower h_s) (fun r2 h_r2 => pc_if (fun _ => pc_if (fun _ => (pl_k_X6_readExp_125 hrc h_r2)) (fun _ => pc_bd pc_any (fun r3 h_r3 => pc_if (fun _ => pc_bd (pl_f_X2_fail h_r2) (fun r4 h_r4 => (pl_k_X6_readExp_125 hrc h_r4))) (fun _ => (pl_k_X6_readExp_125 hrc h_r2))))) (fun _ => (pl_k_X6_readExp_125 hrc h_r2)))))
theorem pl_b_X6_readExp_60 {rc : RT_X6_readBase} {x : Int32 × Int32 × Int32 × Int32 × t_S} (hrc : LKB rc) (h : LK x.2.2.2.2) : t_pq (b_X6_readExp_60 rc x) (fun z => Sum.elim (fun y => LK y.2.2.2.2) (fun y => LK y.2) z) := pl_k_X6_readExp_60 hrc h
theorem pl_k_X6_readExp_43 {rc : RT_X6_readBase} {l1 : Int32} {l2 : Int32} {s : t_S} (hrc : LKB rc) (h_s : LK s) : t_pq (k_X6_readExp_43 rc l1 l2 s) (fun y => LK y.2) := by
  unfold k_X6_readExp_43
  exact pc_bd (hrc.2.2.2.2.2.2.2.1 _ _ h_s) (fun r1 h_r1 => pc_lp (fun x h => pl_b_X6_readExp_60 hrc h) h_r1)
theorem pl_k_X6_readExp_29 {rc : RT_X6_readBase} {l1 : Int32} {l2 : Int32} {s : t_S} (hrc : LKB rc) (h_s : LK s) : t_pq (k_X6_readExp_29 rc l1 l2 s) (fun y => LK y.2) := by
  unfold k_X6_readExp_29
  exact pc_if (fun _ => (pl_k_X6_readExp_43 hrc h_s)) (fun _ => pc_bd (pl_f_X2_fail h_s) (fun r1 h_r1 => (pl_k_X6_readExp_43 hrc h_r1)))
theorem pl_m_X6_readExp {rc : RT_X6_readBase} {x1 : Int32} {s : t_S} (hrc : LKB rc) (h_s : LK s) : t_pq (m_X6_readExp rc x1 s) (fun y => LK y.2) := by
  unfold m_X6_readExp
  exact pc_if (fun _ => pc_bd (pl_f_X2_fail h_s) (fun r2 h_r2 => (pl_k_X6_readExp_29 hrc h_r2))) (fun _ => (pl_k_X6_readExp_29 hrc h_s))
theorem pl_k_X6_readExpFields_190 {rc : RT_X6_readBase} {l2 : Int32} {l3 : Int32} {s : t_S} (hrc : LKB rc) (h_s : LK s) : t_pq (k_X6_readExpFields_190 rc l2 l3 s) (fun z => Sum.elim (fun y => LK y.2.2) (fun y => LK y) z) := by
  unfold k_X6_readExpFields_190
  exact pc_if (fun _ => pc_mp (pc_st (LK.set h_s (fun y => absurd y (by decide))) (fun s1 h_s1 => pc_some h_s1))) (fun _ => pc_if (fun _ => pc_bd (pl_f_X0_emit h_s) (fun r2 h_r2 => pc_some h_r2)) (fun _ => pc_none))
theorem pl_b_X6_readExpFields_190 {rc : RT_X6_readBase} {x : Int32 × Int32 × t_S} (hrc : LKB rc) (h : LK x.2.2) : t_pq (b_X6_readExpFields_190 rc x) (fun z => Sum.elim (fun y => LK y.2.2) (fun y => LK y) z) := pl_k_X6_readExpFields_190 hrc h
theorem pl_k_X6_readExpFields_163 {rc : RT_X6_readBase} {l2 : Int32} {s : t_S} (hrc : LKB rc) (h_s : LK s) : t_pq (k_X6_readExpFields_163 rc l2 s) (fun y => LK y) := by
  unfold k_X6_readExpFields_163
  exact pc_bd (pl_f_X2_need h_s) (fun r1 h_r1 => pc_bd (pl_f_X0_emit h_r1) (fun r2 h_r2 => pc_lp (fun x h => pl_b_X6_readExpFields_190 hrc h) h_r2))
theorem pl_k_X6_takeFieldName_62 {l1 : Int32} {s : t_S} (h_s : LK s) : t_pq (k_X6_takeFieldName_62 l1 s) (fun y => LK y.2) := by
  unfold k_X6_takeFieldName_62
  exact pc_bd (pl_f_X2_advance h_s) (fun r1 h_r1 => pc_some h_r1)
theorem pl_k_X6_takeFieldName_19 {s : t_S} (h_s : LK s) : t_pq (k_X6_takeFieldName_19 s) (fun y => LK y.2) := by
  unfold k_X6_takeFieldName_19
  exact pc_if (fun _ => pc_if (fun _ => (pl_k_X6_takeFieldName_62 h_s)) (fun _ => pc_bd (pl_f_X3_late h_s) (fun r2 h_r2 => (pl_k_X6_takeFieldName_62 h_r2)))) (fun _ => pc_some h_s)
theorem pl_f_X6_takeFieldName {s : t_S} (h_s : LK s) : t_pq (f_X6_takeFieldName s) (fun y => LK y.2) := by
  unfold f_X6_takeFieldName
  exact pc_if (fun _ => (pl_k_X6_takeFieldName_19 h_s)) (fun _ => pc_bd (pl_f_X2_fail h_s) (fun r1 h_r1 => (pl_k_X6_takeFieldName_19 h_r1)))
theorem pl_f_X2_take {x1 : Int32} {s : t_S} (h_s : LK s) : t_pq (f_X2_take x1 s) (fun y => LK y.2) := by
  unfold f_X2_take
  exact pc_if (fun _ => pc_bd (pl_f_X2_advance h_s) (fun r1 h_r1 => pc_some h_r1)) (fun _ => pc_some h_s)
theorem pl_k_X6_readExpFields_87 {rc : RT_X6_readBase} {l1 : Int32} {l2 : Int32} {l3 : Int32} {s : t_S} (hrc : LKB rc) (h_s : LK s) : t_pq (k_X6_readExpFields_87 rc l1 l2 l3 s) (fun z => Sum.elim (fun y => LK y.2.2.2) (fun y => LK y) z) := by
  unfold k_X6_readExpFields_87
  exact pc_bd (pl_f_X6_node h_s) (fun r1 h_r1 => pc_if (fun _ => pc_bd (pl_f_X6_takeFieldName h_r1) (fun r2 h_r2 => pc_if (fun _ => pc_st (LK.set h_r2 (fun y => absurd y (by decide))) (fun s1 h_s1 => pc_st (LK.set h_s1 (fun y => absurd y (by decide))) (fun s2 h_s2 => pc_bd (pl_f_X2_need h_s2) (fun r4 h_r4 => pc_bd (hrc.2.2.1 _ _ h_r4) (fun r5 h_r5 => pc_bd (pl_f_X2_take h_r5) (fun r6 h_r6 => pc_if (fun _ => pc_mp ((pl_k_X6_readExpFields_163 hrc h_r6))) (fun _ => pc_some h_r6))))))) (fun _ => pc_none))) (fun _ => pc_mp (pc_some h_r1)))
theorem pl_k_X6_readExpFields_19 {rc : RT_X6_readBase} {l1 : Int32} {l2 : Int32} {l3 : Int32} {s : t_S} (hrc : LKB rc) (h_s : LK s) : t_pq (k_X6_readExpFields_19 rc l1 l2 l3 s) (fun z => Sum.elim (fun y => LK y.2.2.2) (fun y => LK y) z) := by
  unfold k_X6_readExpFields_19
  exact pc_if (fun _ => pc_mp ((pl_k_X6_readExpFields_163 hrc h_s))) (fun _ => pc_if (fun _ => pc_bd pc_any (fun r2 h_r2 => pc_if (fun _ => pc_if (fun _ => pc_bd (pl_f_X2_fail h_s) (fun r3 h_r3 => (pl_k_X6_readExpFields_87 hrc h_r3))) (fun _ => (pl_k_X6_readExpFields_87 hrc h_s))) (fun _ => pc_bd (pl_f_X2_fail h_s) (fun r4 h_r4 => (pl_k_X6_readExpFields_87 hrc h_r4))))) (fun _ => pc_bd (pl_f_X2_fail h_s) (fun r5 h_r5 => (pl_k_X6_readExpFields_87 hrc h_r5))))
theorem pl_b_X6_readExpFields_19 {rc : RT_X6_readBase} {x : Int32 × Int32 × Int32 × t_S} (hrc : LKB rc) (h : LK x.2.2.2) : t_pq (b_X6_readExpFields_19 rc x) (fun z => Sum.elim (fun y => LK y.2.2.2) (fun y => LK y) z) := pl_k_X6_readExpFields_19 hrc h
theorem pl_m_X6_readExpFields {rc : RT_X6_readBase} {x1 : Int32} {s : t_S} (hrc : LKB rc) (h_s : LK s) : t_pq (m_X6_readExpFields rc x1 s) (fun y => LK y) := by
  unfold m_X6_readExpFields
  exact pc_if (fun _ => (pl_k_X6_readExpFields_163 hrc h_s)) (fun _ => pc_lp (fun x h => pl_b_X6_readExpFields_19 hrc h) h_s)
theorem pl_k_X6_readExps_45 {rc : RT_X6_readBase} {l1 : Int32} {l2 : Int32} {s : t_S} (hrc : LKB rc) (h_s : LK s) : t_pq (k_X6_readExps_45 rc l1 l2 s) (fun z => Sum.elim (fun y => LK y.2.2) (fun y => LK y.2) z) := by
  unfold k_X6_readExps_45
  exact pc_bd (hrc.2.2.1 _ _ h_s) (fun r1 h_r1 => pc_bd (pl_f_X2_take h_r1) (fun r2 h_r2 => pc_if (fun _ => pc_mp (pc_some h_r2)) (fun _ => pc_some h_r2)))
theorem pl_k_X6_readExps_2 {rc : RT_X6_readBase} {l1 : Int32} {l2 : Int32} {s : t_S} (hrc : LKB rc) (h_s : LK s) : t_pq (k_X6_readExps_2 rc l1 l2 s) (fun z => Sum.elim (fun y => LK y.2.2) (fun y => LK y.2) z) := by
  unfold k_X6_readExps_2
  exact pc_if (fun _ => pc_mp (pc_some h_s)) (fun _ => pc_if (fun _ => pc_if (fun _ => pc_if (fun _ => (pl_k_X6_readExps_45 hrc h_s)) (fun _ => pc_bd (pl_f_X2_fail h_s) (fun r2 h_r2 => (pl_k_X6_readExps_45 hrc h_r2)))) (fun _ => (pl_k_X6_readExps_45 hrc h_s))) (fun _ => pc_mp (pc_some h_s)))
theorem pl_b_X6_readExps_2 {rc : RT_X6_readBase} {x : Int32 × Int32 × t_S} (hrc : LKB rc) (h : LK x.2.2) : t_pq (b_X6_readExps_2 rc x) (fun z => Sum.elim (fun y => LK y.2.2) (fun y => LK y.2) z) := pl_k_X6_readExps_2 hrc h
theorem pl_m_X6_readExps {rc : RT_X6_readBase} {x1 : Int32} {s : t_S} (hrc : LKB rc) (h_s : LK s) : t_pq (m_X6_readExps rc x1 s) (fun y => LK y.2) := by
  unfold m_X6_readExps
  exact pc_lp (fun x h => pl_b_X6_readExps_2 hrc h) h_s
theorem pl_k_X6_readInner_131 {rc : RT_X6_readBase} {s : t_S} (hrc : LKB rc) (h_s : LK s) : t_pq (k_X6_readInner_131 rc s) (fun y => LK y) := by
  unfold k_X6_readInner_131
  exact pc_bd (pl_f_X2_need h_s) (fun r1 h_r1 => pc_some h_r1)
theorem pl_k_X6_readInner_106 {rc : RT_X6_readBase} {l1 : Int32} {l3 : Int32} {l4 : Int32} {l6 : Int32} {l7 : Int32} {s : t_S} (hrc : LKB rc) (h_s : LK s) : t_pq (k_X6_readInner_106 rc l1 l3 l4 l6 l7 s) (fun z => Sum.elim (fun y => LK y.2.2.2.2.2) (fun y => LK y) z) := by
  unfold k_X6_readInner_106
  exact pc_bd (pl_f_X2_take h_s) (fun r1 h_r1 => pc_if (fun _ => pc_mp ((pl_k_X6_readInner_131 hrc h_r1))) (fun _ => pc_some h_r1))
theorem pl_k_X6_readInner_51 {rc : RT_X6_readBase} {l1 : Int32} {l3 : Int32} {l4 : Int32} {l5 : Int32} {l6 : Int32} {s : t_S} (hrc : LKB rc) (h_s : LK s) : t_pq (k_X6_readInner_51 rc l1 l3 l4 l5 l6 s) (fun z => Sum.elim (fun y => LK y.2.2.2.2.2) (fun y => LK y) z) := by
  unfold k_X6_readInner_51
  exact pc_bd (hrc.2.2.2.2.2.2.2.2.2.2.2.2.2.1 _ _ _ h_s) (fun r1 h_r1 => pc_if (fun _ => pc_if (fun _ => pc_if (fun _ => pc_st (LK.set h_r1 (fun y => absurd y (by decide))) (fun s2 h_s2 => (pl_k_X6_readInner_106 hrc h_s2))) (fun _ => pc_none)) (fun _ => pc_if (fun _ => pc_st (LK.set h_r1 (fun y => absurd y (by decide))) (fun s1 h_s1 => (pl_k_X6_readInner_106 hrc h_s1))) (fun _ => pc_none))) (fun _ => pc_mp (pc_some h_r1)))
theorem pl_k_X6_readInner_16 {rc : RT_X6_readBase} {l1 : Int32} {l3 : Int32} {l4 : Int32} {l5 : Int32} {l6 : Int32} {s : t_S} (hrc : LKB rc) (h_s : LK s) : t_pq (k_X6_readInner_16 rc l1 l3 l4 l5 l6 s) (fun z => Sum.elim (fun y => LK y.2.2.2.2.2) (fun y => LK y) z) := by
  unfold k_X6_readInner_16
  exact pc_if (fun _ => pc_mp ((pl_k_X6_readInner_131 hrc h_s))) (fun _ => pc_if (fun _ => pc_if (fun _ => (pl_k_X6_readInner_51 hrc h_s)) (fun _ => pc_bd (pl_f_X2_fail h_s) (fun r2 h_r2 => (pl_k_X6_readInner_51 hrc h_r2)))) (fun _ => (pl_k_X6_readInner_51 hrc h_s)))
theorem pl_b_X6_readInner_16 {rc : RT_X6_readBase} {x : Int32 × Int32 × Int32 × Int32 × Int32 × t_S} (hrc : LKB rc) (h : LK x.2.2.2.2.2) : t_pq (b_X6_readInner_16 rc x) (fun z => Sum.elim (fun y => LK y.2.2.2.2.2) (fun y => LK y) z) := pl_k_X6_readInner_16 hrc h
theorem pl_m_X6_readInner {rc : RT_X6_readBase} {x1 : Int32} {x2 : Int32} {x3 : Int32} {x4 : Int32} {s : t_S} (hrc : LKB rc) (h_s : LK s) : t_pq (m_X6_readInner rc x1 x2 x3 x4 s) (fun y => LK y) := by
  unfold m_X6_readInner
  exact pc_if (fun _ => pc_st (LK.set h_s (fun y => absurd y (by decide))) (fun s1 h_s1 => pc_lp (fun x h => pl_b_X6_readInner_16 hrc h) h_s1)) (fun _ => pc_none)
theorem pl_m_X6_readMet {rc : RT_X6_readBase} {x1 : Int32} {s : t_S} (hrc : LKB rc) (h_s : LK s) : t_pq (m_X6_readMet rc x1 s) (fun y => LK y) := by
  unfold m_X6_readMet
  exact pc_bd (pl_f_X2_need h_s) (fun r1 h_r1 => pc_bd (hrc.2.2.1 _ _ h_r1) (fun r2 h_r2 => pc_bd (pl_f_X2_need h_r2) (fun r3 h_r3 => pc_bd (hrc.2.2.2.2.2.2.2.2.2.2.2.2.2.1 _ _ _ h_r3) (fun r4 h_r4 => pc_bd (pl_f_X0_emit h_r4) (fun r5 h_r5 => pc_bd (pl_f_X2_need h_r5) (fun r6 h_r6 => pc_some h_r6))))))
theorem pl_k_X6_readOne_313 {rc : RT_X6_readBase} {l2 : Int32} {s : t_S} (hrc : LKB rc) (h_s : LK s) : t_pq (k_X6_readOne_313 rc l2 s) (fun z => Sum.elim (fun y => LK y.2) (fun y => LK y) z) := by
  unfold k_X6_readOne_313
  exact pc_if (fun _ => pc_mp (pc_some h_s)) (fun _ => pc_st (LK.set h_s (fun y => absurd y (by decide))) (fun s1 h_s1 => pc_if (fun _ => pc_if (fun _ => pc_bd (pl_f_X0_emit h_s1) (fun r3 h_r3 => pc_some h_r3)) (fun _ => pc_none)) (fun _ => pc_none)))
theorem pl_b_X6_readOne_313 {rc : RT_X6_readBase} {x : Int32 × t_S} (hrc : LKB rc) (h : LK x.2) : t_pq (b_X6_readOne_313 rc x) (fun z => Sum.elim (fun y => LK y.2) (fun y => LK y) z) := pl_k_X6_readOne_313 hrc h
theorem pl_k_X6_readOne_307 {rc : RT_X6_readBase} {l1 : Int32} {l2 : Int32} {l3 : Int32} {s : t_S} (hrc : LKB rc) (h_s : LK s) : t_pq (k_X6_readOne_307 rc l1 l2 l3 s) (fun z => Sum.elim (fun y => LK y.2.2.2) (fun y => LK y) z) := by
  unfold k_X6_readOne_307
  exact pc_some h_s
theorem pl_k_X6_readOne_230 {rc : RT_X6_readBase} {l1 : Int32} {l2 : Int32} {l3 : Int32} {s : t_S} (hrc : LKB rc) (h_s : LK s) : t_pq (k_X6_readOne_230 rc l1 l2 l3 s) (fun z => Sum.elim (fun y => LK y.2.2.2) (fun y => LK y) z) := by
  unfold k_X6_readOne_230
  exact pc_bd (pl_f_X6_node h_s) (fun r1 h_r1 => pc_bd (pl_f_X2_take h_r1) (fun r2 h_r2 => pc_if (fun _ => pc_bd (pl_f_X2_take h_r2) (fun r3 h_r3 => pc_if (fun _ => (pl_k_X6_readOne_307 hrc h_r3)) (fun _ => pc_bd (hrc.2.2.1 _ _ h_r3) (fun r4 h_r4 => pc_bd (pl_f_X2_need h_r4) (fun r5 h_r5 => pc_bd (pl_f_X0_emit h_r5) (fun r6 h_r6 => (pl_k_X6_readOne_307 hrc h_r6))))))) (fun _ => pc_bd (pl_f_X6_takeFieldName h_r2) (fun r7 h_r7 => pc_bd (pl_f_X0_emit h_r7) (fun r8 h_r8 => (pl_k_X6_readOne_307 hrc h_r8))))))
theorem pl_k_X6_readOne_186 {rc : RT_X6_readBase} {l1 : Int32} {l2 : Int32} {l3 : Int32} {s : t_S} (hrc : LKB rc) (h_s : LK s) : t_pq (k_X6_readOne_186 rc l1 l2 l3 s) (fun z => Sum.elim (fun y => LK y.2.2.2) (fun y => LK y) z) := by
  unfold k_X6_readOne_186
  exact pc_if (fun _ => pc_mp (pc_lp (fun x h => pl_b_X6_readOne_313 hrc h) h_s)) (fun _ => pc_if (fun _ => pc_if (fun _ => (pl_k_X6_readOne_230 hrc h_s)) (fun _ => pc_if (fun _ => (pl_k_X6_readOne_230 hrc h_s)) (fun _ => pc_mp (pc_lp (fun x h => pl_b_X6_readOne_313 hrc h) h_s)))) (fun _ => pc_mp (pc_lp (fun x h => pl_b_X6_readOne_313 hrc h) h_s)))
theorem pl_b_X6_readOne_186 {rc : RT_X6_readBase} {x : Int32 × Int32 × Int32 × t_S} (hrc : LKB rc) (h : LK x.2.2.2) : t_pq (b_X6_readOne_186 rc x) (fun z => Sum.elim (fun y => LK y.2.2.2) (fun y => LK y) z) := pl_k_X6_readOne_186 hrc h
theorem pl_k_X6_readOne_184 {rc : RT_X6_readBase} {l1 : Int32} {l2 : Int32} {s : t_S} (hrc : LKB rc) (h_s : LK s) : t_pq (k_X6_readOne_184 rc l1 l2 s) (fun y => LK y) := by
  unfold k_X6_readOne_184
  exact pc_lp (fun x h => pl_b_X6_readOne_186 hrc h) h_s
theorem pl_k_X6_readOne_165 {rc : RT_X6_readBase} {l1 : Int32} {l2 : Int32} {s : t_S} (hrc : LKB rc) (h_s : LK s) : t_pq (k_X6_readOne_165 rc l1 l2 s) (fun y => LK y) := by
  unfold k_X6_readOne_165
  exact pc_bd (pl_f_X6_node h_s) (fun r1 h_r1 => pc_if (fun _ => pc_bd (hrc.1 _ _ h_r1) (fun r2 h_r2 => (pl_k_X6_readOne_184 hrc h_r2))) (fun _ => (pl_k_X6_readOne_184 hrc h_r1)))
theorem pl_k_X6_readOne_144 {rc : RT_X6_readBase} {l1 : Int32} {l2 : Int32} {s : t_S} (hrc : LKB rc) (h_s : LK s) : t_pq (k_X6_readOne_144 rc l1 l2 s) (fun y => LK y) := by
  unfold k_X6_readOne_144
  exact pc_if (fun _ => pc_bd (pl_f_X2_fail h_s) (fun r2 h_r2 => (pl_k_X6_readOne_165 hrc h_r2))) (fun _ => (pl_k_X6_readOne_165 hrc h_s))
theorem pl_k_X6_readOne_138 {rc : RT_X6_readBase} {l1 : Int32} {l2 : Int32} {l3 : Int32} {s : t_S} (hrc : LKB rc) (h_s : LK s) : t_pq (k_X6_readOne_138 rc l1 l2 l3 s) (fun z => Sum.elim (fun y => LK y.2.2.2) (fun y => LK y) z) := by
  unfold k_X6_readOne_138
  exact pc_some h_s
theorem pl_k_X6_readOne_65 {rc : RT_X6_readBase} {l1 : Int32} {l2 : Int32} {l3 : Int32} {l4 : Int32} {s : t_S} (hrc : LKB rc) (h_s : LK s) : t_pq (k_X6_readOne_65 rc l1 l2 l3 l4 s) (fun z => Sum.elim (fun y => LK y.2.2.2) (fun y => LK y) z) := by
  unfold k_X6_readOne_65
  exact pc_bd (pl_f_X6_node h_s) (fun r1 h_r1 => pc_bd (pl_f_X2_advance h_r1) (fun r2 h_r2 => pc_if (fun _ => pc_bd (pl_f_X6_pushWaiting h_r2) (fun r7 h_r7 => (pl_k_X6_readOne_138 hrc h_r7))) (fun _ => pc_if (fun _ => pc_bd (pl_f_X6_pushWaiting h_r2) (fun r6 h_r6 => (pl_k_X6_readOne_138 hrc h_r6))) (fun _ => pc_if (fun _ => pc_bd (pl_f_X6_pushWaiting h_r2) (fun r5 h_r5 => (pl_k_X6_readOne_138 hrc h_r5))) (fun _ => pc_bd (pl_f_X6_takeFieldName h_r2) (fun r3 h_r3 => pc_bd (pl_f_X6_pushWaiting h_r3) (fun r4 h_r4 => (pl_k_X6_readOne_138 hrc h_r4))))))))
theorem pl_k_X6_readOne_7 {rc : RT_X6_readBase} {l1 : Int32} {l2 : Int32} {l3 : Int32} {s : t_S} (hrc : LKB rc) (h_s : LK s) : t_pq (k_X6_readOne_7 rc l1 l2 l3 s) (fun z => Sum.elim (fun y => LK y.2.2.2) (fun y => LK y) z) := by
  unfold k_X6_readOne_7
  exact pc_if (fun _ => pc_mp ((pl_k_X6_readOne_144 hrc h_s))) (fun _ => pc_if (fun _ => pc_if (fun _ => (pl_k_X6_readOne_65 hrc h_s)) (fun _ => pc_if (fun _ => (pl_k_X6_readOne_65 hrc h_s)) (fun _ => pc_if (fun _ => (pl_k_X6_readOne_65 hrc h_s)) (fun _ => pc_if (fun _ => (pl_k_X6_readOne_65 hrc h_s)) (fun _ => pc_mp ((pl_k_X6_readOne_144 hrc h_s))))))) (fun _ => pc_mp ((pl_k_X6_readOne_144 hrc h_s))))
theorem pl_b_X6_readOne_7 {rc : RT_X6_readBase} {x : Int32 × Int32 × Int32 × t_S} (hrc : LKB rc) (h : LK x.2.2.2) : t_pq (b_X6_readOne_7 rc x) (fun z => Sum.elim (fun y => LK y.2.2.2) (fun y => LK y) z) := pl_k_X6_readOne_7 hrc h
theorem pl_m_X6_readOne {rc : RT_X6_readBase} {x1 : Int32} {s : t_S} (hrc : LKB rc) (h_s : LK s) : t_pq (m_X6_readOne rc x1 s) (fun y => LK y) := by
  unfold m_X6_readOne
  exact pc_lp (fun x h => pl_b_X6_readOne_7 hrc h) h_s
theorem pl_f_X10_add {x1 : Int32} {s : t_S} (h_s : LK s) : t_pq (f_X10_add x1 s) (fun y => LK y.2) := by
  unfold f_X10_add
  exact pc_if (fun _ => pc_st (LK.set h_s (fun y => absurd y (by decide))) (fun s1 h_s1 => pc_if (fun _ => pc_st (LK.set h_s1 (fun y => absurd y (by decide))) (fun s2 h_s2 => pc_st (LK.set h_s2 (fun y => absurd y (by decide))) (fun s3 h_s3 => pc_st (LK.set h_s3 (fun y => absurd y (by decide))) (fun s4 h_s4 => pc_st (LK.set h_s4 (fun y => absurd y (by decide))) (fun s5 h_s5 => pc_st (LK.set h_s5 (fun y => absurd y (by decide))) (fun s6 h_s6 => pc_st (LK.set h_s6 (fun y => absurd y (by decide))) (fun s7 h_s7 => pc_st (LK.set h_s7 (fun y => absurd y (by decide))) (fun s8 h_s8 => pc_st h_s8 (fun s9 h_s9 => pc_st h_s9 (fun s10 h_s10 => pc_some h_s10)))))))))) (fun _ => pc_none))) (fun _ => pc_some h_s)
theorem pl_m_X6_readPerm {rc : RT_X6_readBase} {x1 : Int32} {x2 : Int32} {s : t_S} (hrc : LKB rc) (h_s : LK s) : t_pq (m_X6_readPerm rc x1 x2 s) (fun y => LK y.2) := by
  unfold m_X6_readPerm
  exact pc_bd (pl_f_X6_node h_s) (fun r1 h_r1 => pc_if (fun _ => pc_bd (pl_f_X10_add h_r1) (fun r2 h_r2 => pc_bd (pl_f_X2_advance h_r2) (fun r3 h_r3 => pc_bd (hrc.2.2.2.2.2.2.2.2.2.2.1 _ _ _ _ _ h_r3) (fun r4 h_r4 => pc_some h_r4)))) (fun _ => pc_some h_r1))
theorem pl_k_X6_readPieces_185 {rc : RT_X6_readBase} {s : t_S} (hrc : LKB rc) (h_s : LK s) : t_pq (k_X6_readPieces_185 rc s) (fun y => LK y) := by
  unfold k_X6_readPieces_185
  exact pc_bd (pl_f_X2_need h_s) (fun r1 h_r1 => pc_some h_r1)
theorem pl_k_X6_readPieces_160 {rc : RT_X6_readBase} {l1 : Int32} {l2 : Int32} {l3 : Int32} {l5 : Int32} {l7 : Int32} {s : t_S} (hrc : LKB rc) (h_s : LK s) : t_pq (k_X6_readPieces_160 rc l1 l2 l3 l5 l7 s) (fun z => Sum.elim (fun y => LK y.2.2.2.2.2) (fun y => LK y) z) := by
  unfold k_X6_readPieces_160
  exact pc_bd (pl_f_X2_take h_s) (fun r1 h_r1 => pc_if (fun _ => pc_mp ((pl_k_X6_readPieces_185 hrc h_r1))) (fun _ => pc_some h_r1))
theorem pl_k_X6_readPieces_116 {rc : RT_X6_readBase} {l1 : Int32} {l2 : Int32} {l3 : Int32} {l4 : Int32} {l5 : Int32} {k0 : Int32} {s : t_S} (hrc : LKB rc) (h_s : LK s) : t_pq (k_X6_readPieces_116 rc l1 l2 l3 l4 l5 k0 s) (fun z => Sum.elim (fun y => LK y.2.2.2.2.2) (fun y => LK y) z) := by
  unfold k_X6_readPieces_116
  exact pc_if (fun _ => pc_if (fun _ => pc_if (fun _ => pc_st (LK.set h_s (fun y => absurd y (by decide))) (fun s2 h_s2 => (pl_k_X6_readPieces_160 hrc h_s2))) (fun _ => pc_none)) (fun _ => pc_if (fun _ => pc_st (LK.set h_s (fun y => absurd y (by decide))) (fun s1 h_s1 => (pl_k_X6_readPieces_160 hrc h_s1))) (fun _ => pc_none))) (fun _ => pc_mp (pc_some h_s))
theorem pl_k_X6_readPieces_90 {rc : RT_X6_readBase} {l1 : Int32} {l2 : Int32} {l3 : Int32} {l4 : Int32} {l5 : Int32} {l6 : Int32} {s : t_S} (hrc : LKB rc) (h_s : LK s) : t_pq (k_X6_readPieces_90 rc l1 l2 l3 l4 l5 l6 s) (fun z => Sum.elim (fun y => LK y.2.2.2.2.2) (fun y => LK y) z) := by
  unfold k_X6_readPieces_90
  exact pc_if (fun _ => pc_bd (hrc.2.2.2.2.2.2.2.2.2.2.2.2.2.1 _ _ _ h_s) (fun r1 h_r1 => (pl_k_X6_readPieces_116 hrc h_r1))) (fun _ => pc_bd (hrc.2.2.2.2.2.2.2.2.1 _ _ _ h_s) (fun r2 h_r2 => (pl_k_X6_readPieces_116 hrc h_r2)))
theorem pl_k_X6_readPieces_82 {rc : RT_X6_readBase} {l1 : Int32} {l2 : Int32} {l3 : Int32} {l4 : Int32} {l5 : Int32} {l6 : Int32} {s : t_S} (hrc : LKB rc) (h_s : LK s) : t_pq (k_X6_readPieces_82 rc l1 l2 l3 l4 l5 l6 s) (fun z => Sum.elim (fun y => LK y.2.2.2.2.2) (fun y => LK y) z) := by
  unfold k_X6_readPieces_82
  exact pc_bd (pl_f_X2_fail h_s) (fun r1 h_r1 => (pl_k_X6_readPieces_90 hrc h_r1))
theorem pl_k_X6_readPieces_55 {rc : RT_X6_readBase} {l1 : Int32} {l2 : Int32} {l3 : Int32} {l4 : Int32} {l5 : Int32} {k0 : Int32} {s : t_S} (hrc : LKB rc) (h_s : LK s) : t_pq (k_X6_readPieces_55 rc l1 l2 l3 l4 l5 k0 s) (fun z => Sum.elim (fun y => LK y.2.2.2.2.2) (fun y => LK y) z) := by
  unfold k_X6_readPieces_55
  exact pc_if (fun _ => pc_if (fun _ => pc_if (fun _ => (pl_k_X6_readPieces_90 hrc h_s)) (fun _ => (pl_k_X6_readPieces_82 hrc h_s))) (fun _ => (pl_k_X6_readPieces_82 hrc h_s))) (fun _ => (pl_k_X6_readPieces_90 hrc h_s))
theorem pl_k_X6_readPieces_30 {rc : RT_X6_readBase} {l1 : Int32} {l2 : Int32} {l3 : Int32} {l4 : Int32} {l5 : Int32} {s : t_S} (hrc : LKB rc) (h_s : LK s) : t_pq (k_X6_readPieces_30 rc l1 l2 l3 l4 l5 s) (fun z => Sum.elim (fun y => LK y.2.2.2.2.2) (fun y => LK y) z) := by
  unfold k_X6_readPieces_30
  exact pc_if (fun _ => pc_mp ((pl_k_X6_readPieces_185 hrc h_s))) (fun _ => pc_if (fun _ => (pl_k_X6_readPieces_55 hrc h_s)) (fun _ => (pl_k_X6_readPieces_55 hrc h_s)))
theorem pl_b_X6_readPieces_30 {rc : RT_X6_readBase} {x : Int32 × Int32 × Int32 × Int32 × Int32 × t_S} (hrc : LKB rc) (h : LK x.2.2.2.2.2) : t_pq (b_X6_readPieces_30 rc x) (fun z => Sum.elim (fun y => LK y.2.2.2.2.2) (fun y => LK y) z) := pl_k_X6_readPieces_30 hrc h
theorem pl_m_X6_readPieces {rc : RT_X6_readBase} {x1 : Int32} {x2 : Int32} {x3 : Int32} {s : t_S} (hrc : LKB rc) (h_s : LK s) : t_pq (m_X6_readPieces rc x1 x2 x3 s) (fun y => LK y) := by
  unfold m_X6_readPieces
  exact pc_if (fun _ => pc_st (LK.set h_s (fun y => absurd y (by decide))) (fun s1 h_s1 => pc_bd (pl_f_X2_take h_s1) (fun r2 h_r2 => pc_if (fun _ => pc_lp (fun x h => pl_b_X6_readPieces_30 hrc h) h_r2) (fun _ => pc_some h_r2)))) (fun _ => pc_none)
theorem pl_m_X6_readRow {rc : RT_X6_readBase} {x1 : Int32} {x2 : Int32} {x3 : Int32} {x4 : Int32} {s : t_S} (hrc : LKB rc) (h_s : LK s) : t_pq (m_X6_readRow rc x1 x2 x3 x4 s) (fun y => LK y) := by
  unfold m_X6_readRow
  exact pc_bd (pl_f_X2_need h_s) (fun r1 h_r1 => pc_bd (hrc.2.2.2.2.2.1 _ _ _ _ _ h_r1) (fun r2 h_r2 => pc_some h_r2))
theorem pl_m_X6_readSame {rc : RT_X6_readBase} {x1 : Int32} {x2 : Int32} {s : t_S} (hrc : LKB rc) (h_s : LK s) : t_pq (m_X6_readSame rc x1 x2 s) (fun y => LK y) := by
  unfold m_X6_readSame
  exact pc_if (fun _ => pc_st (LK.set h_s (fun y => absurd y (by decide))) (fun s1 h_s1 => pc_bd (pl_f_X2_need h_s1) (fun r2 h_r2 => pc_bd (hrc.2.2.1 _ _ h_r2) (fun r3 h_r3 => pc_bd (pl_f_X2_need h_r3) (fun r4 h_r4 => pc_bd (pl_f_X0_emit h_r4) (fun r5 h_r5 => pc_some h_r5)))))) (fun _ => pc_none)
theorem pl_k_X6_readTag_38 {rc : RT_X6_readBase} {l1 : Int32} {l2 : Int32} {l3 : Int32} {s : t_S} (hrc : LKB rc) (h_s : LK s) : t_pq (k_X6_readTag_38 rc l1 l2 l3 s) (fun y => LK y) := by
  unfold k_X6_readTag_38
  exact pc_bd (pl_f_X2_need h_s) (fun r1 h_r1 => pc_bd (hrc.2.2.2.2.2.2.2.2.2.2.2.2.2.1 _ _ _ h_r1) (fun r2 h_r2 => pc_if (fun _ => pc_st (LK.set h_r2 (fun y => absurd y (by decide))) (fun s1 h_s1 => pc_some h_s1)) (fun _ => pc_none)))
theorem pl_m_X6_readTag {rc : RT_X6_readBase} {x1 : Int32} {x2 : Int32} {x3 : Int32} {s : t_S} (hrc : LKB rc) (h_s : LK s) : t_pq (m_X6_readTag rc x1 x2 x3 s) (fun y => LK y) := by
  unfold m_X6_readTag
  exact pc_if (fun _ => pc_st (LK.set h_s (fun y => absurd y (by decide))) (fun s1 h_s1 => pc_if (fun _ => pc_st (LK.set h_s1 (fun y => absurd y (by decide))) (fun s2 h_s2 => (pl_k_X6_readTag_38 hrc h_s2))) (fun _ => (pl_k_X6_readTag_38 hrc h_s1)))) (fun _ => pc_none)
theorem pl_k_X6_readTempl_95 {rc : RT_X6_readBase} {l3 : Int32} {s : t_S} (hrc : LKB rc) (h_s : LK s) : t_pq (k_X6_readTempl_95 rc l3 s) (fun y => LK y.2) := by
  unfold k_X6_readTempl_95
  exact pc_bd (pl_f_X2_take h_s) (fun r1 h_r1 => pc_if (fun _ => pc_some h_r1) (fun _ => pc_if (fun _ => pc_st (LK.set h_r1 (fun y => absurd y (by decide))) (fun s1 h_s1 => pc_some h_s1)) (fun _ => pc_none)))
theorem pl_k_X6_readBound_52 {l3 : Int64} {s : t_S} (h_s : LK s) : t_pq (k_X6_readBound_52 l3 s) (fun y => LK y.2) := by
  unfold k_X6_readBound_52
  exact pc_if (fun _ => pc_bd (pl_f_X2_advance h_s) (fun r1 h_r1 => pc_some h_r1)) (fun _ => pc_some h_s)
theorem pl_k_X6_readBound_44 {l3 : Int64} {s : t_S} (h_s : LK s) : t_pq (k_X6_readBound_44 l3 s) (fun y => LK y.2) := by
  unfold k_X6_readBound_44
  exact pc_bd (pl_f_X2_fail h_s) (fun r1 h_r1 => (pl_k_X6_readBound_52 h_r1))
theorem pl_f_X6_readBound {x1 : Int32} {x2 : Int32} {s : t_S} (h_s : LK s) : t_pq (f_X6_readBound x1 x2 s) (fun y => LK y.2) := by
  unfold f_X6_readBound
  exact pc_if (fun _ => pc_if (fun _ => (pl_k_X6_readBound_44 h_s)) (fun _ => pc_if (fun _ => (pl_k_X6_readBound_52 h_s)) (fun _ => (pl_k_X6_readBound_44 h_s)))) (fun _ => pc_bd (pl_f_X2_fail h_s) (fun r1 h_r1 => (pl_k_X6_readBound_52 h_r1)))
theorem pl_k_X6_readSpan_38 {l2 : Int32} {k0 : Int32} {s : t_S} (h_s : LK s) : t_pq (k_X6_readSpan_38 l2 k0 s) (fun y => LK y.2) := by
  unfold k_X6_readSpan_38
  exact pc_bd (pl_f_X2_need h_s) (fun r1 h_r1 => pc_some h_r1)
theorem pl_f_X6_readSpan {x1 : Int32} {s : t_S} (h_s : LK s) : t_pq (f_X6_readSpan x1 s) (fun y => LK y.2) := by
  unfold f_X6_readSpan
  exact pc_bd (pl_f_X2_need h_s) (fun r1 h_r1 => pc_bd (pl_f_X6_readBound h_r1) (fun r2 h_r2 => pc_bd (pl_f_X2_take h_r2) (fun r3 h_r3 => pc_if (fun _ => (pl_k_X6_readSpan_38 h_r3)) (fun _ => pc_bd (pl_f_X6_readBound h_r3) (fun r4 h_r4 => (pl_k_X6_readSpan_38 h_r4))))))
theorem pl_k_X6_readTempl_35 {rc : RT_X6_readBase} {l1 : Int32} {l2 : Int32} {s : t_S} (hrc : LKB rc) (h_s : LK s) : t_pq (k_X6_readTempl_35 rc l1 l2 s) (fun y => LK y.2) := by
  unfold k_X6_readTempl_35
  exact pc_bd (pl_f_X6_node h_s) (fun r1 h_r1 => pc_if (fun _ => pc_bd (pl_f_X10_add h_r1) (fun r2 h_r2 => pc_bd (hrc.2.2.2.2.2.2.2.2.2.2.2.2.2.2.2 _ _ _ _ h_r2) (fun r3 h_r3 => pc_bd (pl_f_X2_take h_r3) (fun r4 h_r4 => pc_if (fun _ => (pl_k_X6_readTempl_95 hrc h_r4)) (fun _ => pc_bd (pl_f_X6_readSpan h_r4) (fun r5 h_r5 => pc_if (fun _ => pc_st (LK.set h_r5 (fun y => absurd y (by decide))) (fun s1 h_s1 => (pl_k_X6_readTempl_95 hrc h_s1))) (fun _ => pc_none))))))) (fun _ => pc_some h_r1))
theorem pl_k_X6_readTempl_21 {rc : RT_X6_readBase} {l1 : Int32} {l2 : Int32} {s : t_S} (hrc : LKB rc) (h_s : LK s) : t_pq (k_X6_readTempl_21 rc l1 l2 s) (fun y => LK y.2) := by
  unfold k_X6_readTempl_21
  exact pc_if (fun _ => (pl_k_X6_readTempl_35 hrc h_s)) (fun _ => pc_bd (pl_f_X2_fail h_s) (fun r1 h_r1 => (pl_k_X6_readTempl_35 hrc h_r1)))
theorem pl_m_X6_readTempl {rc : RT_X6_readBase} {x1 : Int32} {x2 : Int32} {s : t_S} (hrc : LKB rc) (h_s : LK s) : t_pq (m_X6_readTempl rc x1 x2 s) (fun y => LK y.2) := by
  unfold m_X6_readTempl
  exact pc_if (fun _ => pc_bd (pl_f_X2_fail h_s) (fun r2 h_r2 => (pl_k_X6_readTempl_21 hrc h_r2))) (fun _ => (pl_k_X6_readTempl_21 hrc h_s))
theorem pl_k_X6_readTemplFields_248 {rc : RT_X6_readBase} {s : t_S} (hrc : LKB rc) (h_s : LK s) : t_pq (k_X6_readTemplFields_248 rc s) (fun y => LK y) := by
  unfold k_X6_readTemplFields_248
  exact pc_bd (pl_f_X2_need h_s) (fun r1 h_r1 => pc_some h_r1)
theorem pl_k_X6_readTemplFields_187 {rc : RT_X6_readBase} {l1 : Int32} {l2 : Int32} {l3 : Int32} {l5 : Int32} {l6 : Int32} {s : t_S} (hrc : LKB rc) (h_s : LK s) : t_pq (k_X6_readTemplFields_187 rc l1 l2 l3 l5 l6 s) (fun z => Sum.elim (fun y => LK y.2.2.2.2.2) (fun y => LK y) z) := by
  unfold k_X6_readTemplFields_187
  exact pc_bd (pl_f_X2_advance h_s) (fun r1 h_r1 => pc_bd (pl_f_X2_need h_r1) (fun r2 h_r2 => pc_bd (hrc.2.2.2.2.2.2.2.2.2.2.2.2.2.1 _ _ _ h_r2) (fun r3 h_r3 => pc_if (fun _ => pc_st (LK.set h_r3 (fun y => absurd y (by decide))) (fun s1 h_s1 => pc_bd (pl_f_X2_take h_s1) (fun r5 h_r5 => pc_if (fun _ => pc_mp ((pl_k_X6_readTemplFields_248 hrc h_r5))) (fun _ => pc_some h_r5)))) (fun _ => pc_none))))
theorem pl_k_X6_readTemplFields_100 {rc : RT_X6_readBase} {l1 : Int32} {l2 : Int32} {l3 : Int32} {l4 : Int32} {l5 : Int32} {s : t_S} (hrc : LKB rc) (h_s : LK s) : t_pq (k_X6_readTemplFields_100 rc l1 l2 l3 l4 l5 s) (fun z => Sum.elim (fun y => LK y.2.2.2.2.2) (fun y => LK y) z) := by
  unfold k_X6_readTemplFields_100
  exact pc_bd (pl_f_X6_node h_s) (fun r1 h_r1 => pc_if (fun _ => pc_bd (pl_f_X10_add h_r1) (fun r2 h_r2 => pc_if (fun _ => pc_st (LK.set h_r2 (fun y => absurd y (by decide))) (fun s1 h_s1 => pc_st (LK.set h_s1 (fun y => absurd y (by decide))) (fun s2 h_s2 => pc_if (fun _ => pc_if (fun _ => pc_st (LK.set h_s2 (fun y => absurd y (by decide))) (fun s4 h_s4 => (pl_k_X6_readTemplFields_187 hrc h_s4))) (fun _ => pc_none)) (fun _ => pc_if (fun _ => pc_st (LK.set h_s2 (fun y => absurd y (by decide))) (fun s3 h_s3 => (pl_k_X6_readTemplFields_187 hrc h_s3))) (fun _ => pc_none))))) (fun _ => pc_none))) (fun _ => pc_mp (pc_some h_r1)))
theorem pl_k_X6_readTemplFields_30 {rc : RT_X6_readBase} {l1 : Int32} {l2 : Int32} {l3 : Int32} {l4 : Int32} {l5 : Int32} {s : t_S} (hrc : LKB rc) (h_s : LK s) : t_pq (k_X6_readTemplFields_30 rc l1 l2 l3 l4 l5 s) (fun z => Sum.elim (fun y => LK y.2.2.2.2.2) (fun y => LK y) z) := by
  unfold k_X6_readTemplFields_30
  exact pc_if (fun _ => pc_mp ((pl_k_X6_readTemplFields_248 hrc h_s))) (fun _ => pc_if (fun _ => pc_bd pc_any (fun r2 h_r2 => pc_if (fun _ => pc_if (fun _ => pc_bd (pl_f_X2_fail h_s) (fun r3 h_r3 => (pl_k_X6_readTemplFields_100 hrc h_r3))) (fun _ => (pl_k_X6_readTemplFields_100 hrc h_s))) (fun _ => pc_bd (pl_f_X2_fail h_s) (fun r4 h_r4 => (pl_k_X6_readTemplFields_100 hrc h_r4))))) (fun _ => pc_bd (pl_f_X2_fail h_s) (fun r5 h_r5 => (pl_k_X6_readTemplFields_100 hrc h_r5))))
theorem pl_b_X6_readTemplFields_30 {rc : RT_X6_readBase} {x : Int32 × Int32 × Int32 × Int32 × Int32 × t_S} (hrc : LKB rc) (h : LK x.2.2.2.2.2) : t_pq (b_X6_readTemplFields_30 rc x) (fun z => Sum.elim (fun y => LK y.2.2.2.2.2) (fun y => LK y) z) := pl_k_X6_readTemplFields_30 hrc h
theorem pl_m_X6_readTemplFields {rc : RT_X6_readBase} {x1 : Int32} {x2 : Int32} {x3 : Int32} {s : t_S} (hrc : LKB rc) (h_s : LK s) : t_pq (m_X6_readTemplFields rc x1 x2 x3 s) (fun y => LK y) := by
  unfold m_X6_readTemplFields
  exact pc_if (fun _ => pc_st (LK.set h_s (fun y => absurd y (by decide))) (fun s1 h_s1 => pc_bd (pl_f_X2_take h_s1) (fun r2 h_r2 => pc_if (fun _ => pc_lp (fun x h => pl_b_X6_readTemplFields_30 hrc h) h_r2) (fun _ => pc_some h_r2)))) (fun _ => pc_none)
theorem pl_k_X6_readNumber_90 {l4 : Int64} {s : t_S} (h_s : LK s) : t_pq (k_X6_readNumber_90 l4 s) (fun y => LK y.2) := by
  unfold k_X6_readNumber_90
  exact pc_if (fun _ => pc_bd (pl_f_X2_advance h_s) (fun r1 h_r1 => pc_some h_r1)) (fun _ => pc_some h_s)
theorem pl_k_X6_readNumber_51 {l1 : Int64} {k0 : Int64} {s : t_S} (h_s : LK s) : t_pq (k_X6_readNumber_51 l1 k0 s) (fun y => LK y.2) := by
  unfold k_X6_readNumber_51
  exact pc_if (fun _ => pc_if (fun _ => (pl_k_X6_readNumber_90 h_s)) (fun _ => pc_bd (pl_f_X2_fail h_s) (fun r1 h_r1 => (pl_k_X6_readNumber_90 h_r1)))) (fun _ => pc_bd (pl_f_X2_fail h_s) (fun r2 h_r2 => (pl_k_X6_readNumber_90 h_r2)))
theorem pl_k_X6_readNumber_29 {l1 : Int64} {l3 : Int32} {s : t_S} (h_s : LK s) : t_pq (k_X6_readNumber_29 l1 l3 s) (fun y => LK y.2) := by
  unfold k_X6_readNumber_29
  exact pc_if (fun _ => (pl_k_X6_readNumber_51 h_s)) (fun _ => (pl_k_X6_readNumber_51 h_s))
theorem pl_k_X6_readNumber_17 {l1 : Int64} {k0 : Int32} {s : t_S} (h_s : LK s) : t_pq (k_X6_readNumber_17 l1 k0 s) (fun y => LK y.2) := by
  unfold k_X6_readNumber_17
  exact pc_if (fun _ => (pl_k_X6_readNumber_29 h_s)) (fun _ => pc_bd (pl_f_X2_advance h_s) (fun r1 h_r1 => (pl_k_X6_readNumber_29 h_r1)))
theorem pl_f_X6_readNumber {x1 : Int64} {s : t_S} (h_s : LK s) : t_pq (f_X6_readNumber x1 s) (fun y => LK y.2) := by
  unfold f_X6_readNumber
  exact pc_if (fun _ => (pl_k_X6_readNumber_17 h_s)) (fun _ => (pl_k_X6_readNumber_17 h_s))
theorem pl_k_X6_readTone_163 {rc : RT_X6_readBase} {k0 : Int64} {k1 : Int32} {s : t_S} (hrc : LKB rc) (h_s : LK s) : t_pq (k_X6_readTone_163 rc k0 k1 s) (fun y => LK y) := by
  unfold k_X6_readTone_163
  exact pc_if (fun _ => pc_st h_s (fun s1 h_s1 => pc_some h_s1)) (fun _ => pc_none)
theorem pl_k_X10_setLiteral_26 {l1 : Int32} {l2 : Int32} {k0 : Int32} {k1 : Int32} {s : t_S} (h_s : LK s) : t_pq (k_X10_setLiteral_26 l1 l2 k0 k1 s) (fun y => LK y) := by
  unfold k_X10_setLiteral_26
  exact pc_if (fun _ => pc_st (LK.set h_s (fun y => absurd y (by decide))) (fun s1 h_s1 => pc_if (fun _ => pc_st (LK.set h_s1 (fun y => absurd y (by decide))) (fun s2 h_s2 => pc_some h_s2)) (fun _ => pc_none))) (fun _ => pc_none)
theorem pl_f_X10_setLiteral {x1 : Int32} {x2 : Int32} {s : t_S} (h_s : LK s) : t_pq (f_X10_setLiteral x1 x2 s) (fun y => LK y) := by
  unfold f_X10_setLiteral
  exact pc_if (fun _ => pc_if (fun _ => (pl_k_X10_setLiteral_26 h_s)) (fun _ => (pl_k_X10_setLiteral_26 h_s))) (fun _ => pc_none)
theorem pl_k_X6_readTone_530 {rc : RT_X6_readBase} {l1 : Int32} {s : t_S} (hrc : LKB rc) (h_s : LK s) : t_pq (k_X6_readTone_530 rc l1 s) (fun y => LK y) := by
  unfold k_X6_readTone_530
  exact pc_if (fun _ => pc_st (LK.set h_s (fun y => absurd y (by decide))) (fun s1 h_s1 => pc_bd (pl_f_X2_need h_s1) (fun r2 h_r2 => pc_some h_r2))) (fun _ => pc_none)
theorem pl_k_X6_readTone_310 {rc : RT_X6_readBase} {l1 : Int32} {l2 : Int32} {l3 : Int32} {l4 : Int32} {s : t_S} (hrc : LKB rc) (h_s : LK s) : t_pq (k_X6_readTone_310 rc l1 l2 l3 l4 s) (fun y => LK y) := by
  unfold k_X6_readTone_310
  exact pc_bd (pl_f_X2_advance h_s) (fun r1 h_r1 => pc_if (fun _ => pc_bd (hrc.2.2.2.2.2.1 _ _ _ _ _ h_r1) (fun r2 h_r2 => pc_some h_r2)) (fun _ => pc_if (fun _ => pc_bd (hrc.2.2.2.2.2.2.2.2.2.2.2.1 _ _ _ h_r1) (fun r3 h_r3 => pc_some h_r3)) (fun _ => pc_if (fun _ => pc_bd (hrc.2.2.2.2.2.2.2.2.2.2.2.2.1 _ _ _ _ h_r1) (fun r4 h_r4 => pc_some h_r4)) (fun _ => pc_if (fun _ => pc_bd (hrc.2.2.2.2.2.2.2.2.2.1 _ _ _ _ h_r1) (fun r5 h_r5 => pc_some h_r5)) (fun _ => pc_if (fun _ => pc_bd (hrc.2.2.2.2.2.2.2.2.2.2.2.2.2.2.1 _ _ _ _ h_r1) (fun r6 h_r6 => pc_some h_r6)) (fun _ => pc_if (fun _ => pc_bd (hrc.2.2.2.2.2.2.2.2.2.2.1 _ _ _ _ _ h_r1) (fun r7 h_r7 => pc_some h_r7)) (fun _ => pc_if (fun _ => pc_bd (hrc.2.2.2.2.2.2.2.2.2.2.1 _ _ _ _ _ h_r1) (fun r8 h_r8 => pc_some h_r8)) (fun _ => pc_if (fun _ => pc_if (fun _ => pc_bd (pl_f_X6_poolText h_r1) (fun r9 h_r9 => pc_bd (pl_f_X10_setLiteral h_r9) (fun r10 h_r10 => (pl_k_X6_readTone_530 hrc h_r10)))) (fun _ => (pl_k_X6_readTone_530 hrc h_r1))) (fun _ => pc_if (fun _ => pc_bd (hrc.2.2.2.2.2.2.2.2.2.2.1 _ _ _ _ _ h_r1) (fun r11 h_r11 => pc_some h_r11)) (fun _ => pc_if (fun _ => pc_bd (hrc.2.2.2.2.2.2.2.2.2.2.1 _ _ _ _ _ h_r1) (fun r12 h_r12 => pc_some h_r12)) (fun _ => pc_some h_r1)))))))))))
theorem pl_m_X6_readTone {rc : RT_X6_readBase} {x1 : Int32} {x2 : Int32} {x3 : Int32} {s : t_S} (hrc : LKB rc) (h_s : LK s) : t_pq (m_X6_readTone rc x1 x2 x3 s) (fun y => LK y) := by
  unfold m_X6_readTone
  exact pc_if (fun _ => pc_if (fun _ => pc_st (LK.set h_s (fun y => absurd y (by decide))) (fun s1 h_s1 => pc_st (LK.set h_s1 (fun y => absurd y (by decide))) (fun s2 h_s2 => pc_bd (pl_f_X0_emit h_s2) (fun r3 h_r3 => pc_bd (pl_f_X6_link h_r3) (fun r4 h_r4 => pc_some h_r4))))) (fun _ => pc_none)) (fun _ => pc_if (fun _ => pc_if (fun _ => pc_st (LK.set h_s (fun y => absurd y (by decide))) (fun s3 h_s3 => pc_bd (pl_f_X6_readNumber h_s3) (fun r6 h_r6 => pc_st h_r6 (fun s4 h_s4 => pc_bd (pl_f_X2_take h_s4) (fun r7 h_r7 => pc_if (fun _ => (pl_k_X6_readTone_163 hrc h_r7)) (fun _ => pc_bd (pl_f_X6_readNumber h_r7) (fun r8 h_r8 => (pl_k_X6_readTone_163 hrc h_r8)))))))) (fun _ => pc_none)) (fun _ => pc_if (fun _ => pc_bd (pl_f_X6_poolText h_s) (fun r9 h_r9 => pc_bd (pl_f_X10_setLiteral h_r9) (fun r10 h_r10 => (pl_k_X6_readTone_310 hrc h_r10)))) (fun _ => pc_if (fun _ => pc_if (fun _ => pc_st (LK.set h_s (fun y => absurd y (by decide))) (fun s5 h_s5 => (pl_k_X6_readTone_310 hrc h_s5))) (fun _ => pc_none)) (fun _ => pc_if (fun _ => pc_if (fun _ => pc_st (LK.set h_s (fun y => absurd y (by decide))) (fun s6 h_s6 => pc_bd (pl_f_X6_readNumber h_s6) (fun r13 h_r13 => pc_st h_r13 (fun s7 h_s7 => pc_bd (pl_f_X2_take h_s7) (fun r14 h_r14 => pc_if (fun _ => (pl_k_X6_readTone_163 hrc h_r14)) (fun _ => pc_bd (pl_f_X6_readNumber h_r14) (fun r15 h_r15 => (pl_k_X6_readTone_163 hrc h_r15)))))))) (fun _ => pc_none)) (fun _ => pc_if (fun _ => pc_if (fun _ => pc_st (LK.set h_s (fun y => absurd y (by decide))) (fun s8 h_s8 => (pl_k_X6_readTone_310 hrc h_s8))) (fun _ => pc_none)) (fun _ => pc_if (fun _ => pc_bd (pl_f_X0_poolCell h_s) (fun r18 h_r18 => pc_bd (pl_f_X10_setLiteral h_r18) (fun r19 h_r19 => (pl_k_X6_readTone_310 hrc h_r19)))) (fun _ => pc_if (fun _ => pc_bd (pl_f_X0_poolCell h_s) (fun r21 h_r21 => pc_bd (pl_f_X10_setLiteral h_r21) (fun r22 h_r22 => (pl_k_X6_readTone_310 hrc h_r22)))) (fun _ => pc_if (fun _ => pc_if (fun _ => pc_st (LK.set h_s (fun y => absurd y (by decide))) (fun s9 h_s9 => (pl_k_X6_readTone_310 hrc h_s9))) (fun _ => pc_none)) (fun _ => (pl_k_X6_readTone_310 hrc h_s))))))))))
theorem LKB_R : ∀ n, LKB (R_X6_readBase n) := by
  intro n
  induction n with
  | zero => exact ⟨fun _ _ _ => pc_none, fun _ _ _ => pc_none, fun _ _ _ => pc_none, fun _ _ _ => pc_none, fun _ _ _ => pc_none, fun _ _ _ _ _ _ => pc_none, fun _ _ _ => pc_none, fun _ _ _ => pc_none, fun _ _ _ _ => pc_none, fun _ _ _ _ _ => pc_none, fun _ _ _ _ _ _ => pc_none, fun _ _ _ _ => pc_none, fun _ _ _ _ _ => pc_none, fun _ _ _ _ => pc_none, fun _ _ _ _ _ => pc_none, fun _ _ _ _ _ => pc_none⟩
  | succ n ih => exact ⟨fun _ _ h => pl_m_X6_readBase ih h, fun _ _ h => pl_m_X6_readElements ih h, fun _ _ h => pl_m_X6_readExp ih h, fun _ _ h => pl_m_X6_readExpFields ih h, fun _ _ h => pl_m_X6_readExps ih h, fun _ _ _ _ _ h => pl_m_X6_readInner ih h, fun _ _ h => pl_m_X6_readMet ih h, fun _ _ h => pl_m_X6_readOne ih h, fun _ _ _ h => pl_m_X6_readPerm ih h, fun _ _ _ _ h => pl_m_X6_readPieces ih h, fun _ _ _ _ _ h => pl_m_X6_readRow ih h, fun _ _ _ h => pl_m_X6_readSame ih h, fun _ _ _ _ h => pl_m_X6_readTag ih h, fun _ _ _ h => pl_m_X6_readTempl ih h, fun _ _ _ _ h => pl_m_X6_readTemplFields ih h, fun _ _ _ _ h => pl_m_X6_readTone ih h⟩
theorem LK.exp {c : t_S} (h : LK c) (x : Int32) : t_pq (f_X6_readExp x c) (fun y => LK y.2) := (LKB_R 250).2.2.1 x c h
theorem LK.templ {c : t_S} (h : LK c) (x z : Int32) : t_pq (f_X6_readTempl x z c) (fun y => LK y.2) := (LKB_R 250).2.2.2.2.2.2.2.2.2.2.2.2.2.1 x z c h
theorem LK.exps {c : t_S} (h : LK c) (x : Int32) : t_pq (f_X6_readExps x c) (fun y => LK y.2) := (LKB_R 250).2.2.2.2.1 x c h
