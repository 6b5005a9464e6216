/-! Level 2: the reference's lines: only some kinds have a second word. By gen_in.py. -/
section
variable {z x zl xl : Nat}
/-- a line of such a kind, such an event may have a second word -/
def okK (K V : Int32) : Prop := K = 1 ∨ K = 6 ∨ K = 14 ∨ K = 16 ∨ V = 0
/-- lines told have a second word only so; line x: 0 it has none, 1 it may have one -/
def IL (z x : Nat) (s : t_S) : Prop := (∀ ln : Nat, (ln : Int) < (s.1 950 81).toInt → 0 ≤ (s.1 993 ln).toInt → okK (s.1 988 ln) (s.1 1000 ln)) ∧ (z = 0 → (s.1 993 x).toInt < 0) ∧ (z = 1 → okK (s.1 988 x) (s.1 1000 x))
theorem IL.any {y : Nat} {s : t_S} (h : IL z x s) : IL 2 y s := ⟨h.1, fun y => absurd y (by decide), fun y => absurd y (by decide)⟩
def in_W (a k : Nat) : Prop := a ≠ 988 ∧ a ≠ 993 ∧ a ≠ 1000 ∧ ¬ (a = 950 ∧ k = 81)
theorem IL.fr {s s' : t_S} (h : IL z x s) (f : l2_fr (fun a k => in_W a k) s s') : IL z x s' := by
  have e : ∀ a k, ¬ in_W a k → s'.1 a k = s.1 a k := fun a k y => (f a k y).1
  have e1 : ∀ k, s'.1 988 k = s.1 988 k := fun k => e 988 k (by unfold in_W; omega)
  have e2 : ∀ k, s'.1 993 k = s.1 993 k := fun k => e 993 k (by unfold in_W; omega)
  have e3 : ∀ k, s'.1 1000 k = s.1 1000 k := fun k => e 1000 k (by unfold in_W; omega)
  obtain ⟨h1, h2, h3⟩ := h
  refine ⟨fun ln l1 l2 => ?_, fun y => by rw [e2]; exact h2 y, fun y => by rw [e1, e3]; exact h3 y⟩
  rw [e 950 81 (by unfold in_W; omega)] at l1
  rw [e2] at l2
  rw [e1, e3]
  exact h1 ln l1 l2
theorem IL.set {s : t_S} {a k : Nat} {v : Int32} (h : IL z x s) (hk : in_W a k) : IL z x (t_setI s a k v) := h.fr (l2_fr.set hk)
theorem IL.setJ {s : t_S} {a k : Nat} {v : Int64} (h : IL z x s) : IL z x (t_setJ s a k v) := h
theorem in_st {T : Type} {a : t_S} {f : t_S → Option T} {Q : T → Prop} (h : IL z x a) (g : ∀ s, IL z x s → t_pq (f s) Q) : t_pq (t_let a f) Q := g a h
/-- a cell of line x's kind or event set, while it has no second word -/
theorem IL.lk {s : t_S} {a : Nat} {v : Int32} (ha : a = 988 ∨ a = 1000) (h : IL 0 x s) : IL 0 x (t_setI s a x v) ∧ (okK ((t_setI s a x v).1 988 x) ((t_setI s a x v).1 1000 x) → IL 1 x (t_setI s a x v)) := by
  have f : l2_fr (fun b j => b = a ∧ j = x) s (t_setI s a x v) := l2_fr.set ⟨rfl, rfl⟩
  have e : ∀ b j, ¬ (b = a ∧ j = x) → (t_setI s a x v).1 b j = s.1 b j := fun b j y => (f b j y).1
  obtain ⟨h1, h2, h3⟩ := h
  have q : ∀ ln : Nat, (ln : Int) < ((t_setI s a x v).1 950 81).toInt → 0 ≤ ((t_setI s a x v).1 993 ln).toInt → okK ((t_setI s a x v).1 988 ln) ((t_setI s a x v).1 1000 ln) := fun ln l1 l2 => by
    rw [e 950 81 (by omega)] at l1
    rw [e 993 ln (by omega)] at l2
    by_cases c : ln = x
    · subst c
      have := h2 rfl
      omega
    · rw [e 988 ln (by omega), e 1000 ln (by omega)]
      exact h1 ln l1 l2
  exact ⟨⟨q, fun _ => by rw [e 993 x (by omega)]; exact h2 rfl, fun y => absurd y (by decide)⟩, fun y => ⟨q, fun y => absurd y (by decide), fun _ => y⟩⟩
theorem IL.kind {s : t_S} {v : Int32} (h : IL 0 x s) : IL 0 x (t_setI s 988 x v) := (h.lk (Or.inl rfl)).1
theorem IL.kind1 {s : t_S} {v : Int32} (hv : v = 1 ∨ v = 6 ∨ v = 14 ∨ v = 16) (h : IL 0 x s) : IL 1 x (t_setI s 988 x v) := (h.lk (Or.inl rfl)).2 (by
  have e : (t_setI s 988 x v).1 988 x = v := by simp only [l2_gI, reduceIte]
  rw [e]
  rcases hv with y | y | y | y
  · exact Or.inl y
  · exact Or.inr (Or.inl y)
  · exact Or.inr (Or.inr (Or.inl y))
  · exact Or.inr (Or.inr (Or.inr (Or.inl y))))
theorem IL.ev {s : t_S} {v : Int32} (h : IL 0 x s) : IL 0 x (t_setI s 1000 x v) := (h.lk (Or.inr rfl)).1
theorem IL.ev1 {s : t_S} (h : IL 0 x s) : IL 1 x (t_setI s 1000 x 0) := (h.lk (Or.inr rfl)).2 (by
  have e : (t_setI s 1000 x 0).1 1000 x = 0 := by simp only [l2_gI, reduceIte]
  rw [e]
  exact Or.inr (Or.inr (Or.inr (Or.inr rfl))))
theorem IL.into {s : t_S} {v : Int32} (h : IL 1 x s) : IL 1 x (t_setI s 993 x v) := by
  have f : l2_fr (fun b j => b = 993 ∧ j = x) s (t_setI s 993 x v) := l2_fr.set ⟨rfl, rfl⟩
  have e : ∀ b j, ¬ (b = 993 ∧ j = x) → (t_setI s 993 x v).1 b j = s.1 b j := fun b j y => (f b j y).1
  obtain ⟨h1, h2, h3⟩ := h
  have k := h3 rfl
  refine ⟨fun ln l1 l2 => ?_, fun y => absurd y (by decide), fun _ => by rw [e 988 x (by omega), e 1000 x (by omega)]; exact k⟩
  rw [e 950 81 (by omega)] at l1
  rw [e 988 ln (by omega), e 1000 ln (by omega)]
  by_cases c : ln = x
  · subst c
    exact k
  · rw [e 993 ln (by omega)] at l2
    exact h1 ln l1 l2
theorem in_line39 {l1 l2 k0 : Int32} {s : t_S} (hk : 0 ≤ k0.toInt ∧ k0.toInt < 401 ∧ k0.toInt ≤ (s.1 950 81).toInt) (h : IL 2 0 s) : t_pq (k_X13_line_39 l1 l2 k0 s) (fun y => IL 0 y.1.toNatClampNeg y.2) := by
  obtain ⟨n, hn, rfl⟩ : ∃ n : Nat, n < 401 ∧ k0 = nI n := ⟨k0.toInt.toNat, by omega, by
    rw [← Int32.toInt_inj, nI_toInt (by omega)]
    omega⟩
  rw [nI_toInt (by omega)] at hk
  unfold k_X13_line_39
  rw [nI_clamp (n := n) (by omega), nI_1]
  refine pc_lt (pc_if (fun _ => pc_lt (pc_lt (pc_lt (pc_lt (pc_lt (pc_lt (pc_lt (pc_lt (pc_lt (pc_lt (pc_lt (pc_lt (pc_lt (pc_lt (pc_some ?_))))))))))))))) (fun _ => pc_none))
  show IL 0 ((nI n).toNatClampNeg) _
  rw [nI_clamp (n := n) (by omega)]
  have c : ∀ b : Nat, 988 ≤ b → b ≤ 1002 → (fun a k => (a = 950 ∧ k = 81) ∨ (988 ≤ a ∧ a ≤ 1002 ∧ k = n)) b n := fun b a1 a2 => Or.inr ⟨a1, a2, rfl⟩
  refine ⟨fun ln q1 q2 => ?_, fun _ => ?_, fun y => absurd y (by decide)⟩
  · simp only [l2_gI, Nat.reduceEqDiff, reduceIte] at q1 q2 ⊢
    rw [nI_toInt (by omega)] at q1
    by_cases e : ln = n
    · subst e
      simp only [reduceIte] at q2
      exact absurd q2 (by decide)
    · simp only [e, if_false] at q2 ⊢
      exact h.1 ln (by omega) q2
  · simp only [l2_gI, Nat.reduceEqDiff, reduceIte]
    decide
theorem il_start {s : t_S} (h : s.1 950 81 = 0) : IL 2 0 s := ⟨fun ln l1 => by
  rw [h] at l1
  have z : (0 : Int32).toInt = 0 := rfl
  omega, fun y => absurd y (by decide), fun y => absurd y (by decide)⟩
theorem in_f_X13_fail {x1 : Int32} {x2 : Int32} {s : t_S} (h_s : IL zl xl s) : t_pq (f_X13_fail x1 x2 s) (fun y => IL zl xl y) := by
  unfold f_X13_fail
  exact pc_if (fun _ => in_st (IL.set h_s ⟨by decide, by decide, by decide, fun y => absurd y.2 (by decide)⟩) (fun s1 h_s1 => in_st (IL.set h_s1 ⟨by decide, by decide, by decide, fun y => absurd y.2 (by decide)⟩) (fun s2 h_s2 => pc_some h_s2))) (fun _ => pc_some h_s)
theorem in_k_X13_skip_57 {l1 : Int32} {s : t_S} (h_s : IL zl xl s) : t_pq (k_X13_skip_57 l1 s) (fun z => Sum.elim (fun y => IL zl xl y.2) (fun z => Sum.elim (fun y => IL zl xl y.2) (fun y => IL zl xl y) z) z) := by
  unfold k_X13_skip_57
  exact pc_if (fun _ => pc_mp (pc_some h_s)) (fun _ => pc_if (fun z1 => pc_if (fun _ => pc_mp (pc_some h_s)) (fun _ => in_st (IL.set h_s ⟨by decide, by decide, by decide, fun y => absurd y.2 (by decide)⟩) (fun s1 h_s1 => pc_some h_s1))) (fun _ => pc_none))
theorem in_b_X13_skip_57 {x : Int32 × t_S} (h : IL zl xl x.2) : t_pq (b_X13_skip_57 x) (fun z => Sum.elim (fun y => IL zl xl y.2) (fun z => Sum.elim (fun y => IL zl xl y.2) (fun y => IL zl xl y) z) z) := in_k_X13_skip_57 h
theorem in_k_X13_skip_50 {l2 : Int32} {k0 : Int32} {s : t_S} (h_s : IL zl xl s) : t_pq (k_X13_skip_50 l2 k0 s) (fun z => Sum.elim (fun y => IL zl xl y.2) (fun y => IL zl xl y) z) := by
  unfold k_X13_skip_50
  exact pc_if (fun _ => pc_lp (fun x h => in_b_X13_skip_57 h) h_s) (fun _ => pc_if (fun _ => pc_some h_s) (fun _ => in_st (IL.set h_s ⟨by decide, by decide, by decide, fun y => absurd y.2 (by decide)⟩) (fun s1 h_s1 => pc_some h_s1)))
theorem in_k_X13_skip_45 {l2 : Int32} {s : t_S} (h_s : IL zl xl s) : t_pq (k_X13_skip_45 l2 s) (fun z => Sum.elim (fun y => IL zl xl y.2) (fun y => IL zl xl y) z) := by
  unfold k_X13_skip_45
  exact (in_k_X13_skip_50 h_s)
theorem in_k_X13_skip_2 {l1 : Int32} {s : t_S} (h_s : IL zl xl s) : t_pq (k_X13_skip_2 l1 s) (fun z => Sum.elim (fun y => IL zl xl y.2) (fun y => IL zl xl y) z) := by
  unfold k_X13_skip_2
  exact pc_if (fun _ => pc_mp (pc_some h_s)) (fun _ => pc_bd pc_any (fun r1 h_r1 => pc_if (fun _ => (in_k_X13_skip_45 h_s)) (fun _ => pc_if (fun _ => (in_k_X13_skip_45 h_s)) (fun _ => pc_if (fun _ => (in_k_X13_skip_45 h_s)) (fun _ => pc_if (fun _ => (in_k_X13_skip_45 h_s)) (fun _ => pc_if (fun _ => (in_k_X13_skip_45 h_s)) (fun _ => (in_k_X13_skip_50 h_s))))))))
theorem in_b_X13_skip_2 {x : Int32 × t_S} (h : IL zl xl x.2) : t_pq (b_X13_skip_2 x) (fun z => Sum.elim (fun y => IL zl xl y.2) (fun y => IL zl xl y) z) := in_k_X13_skip_2 h
theorem in_f_X13_skip {s : t_S} (h_s : IL zl xl s) : t_pq (f_X13_skip s) (fun y => IL zl xl y) := by
  unfold f_X13_skip
  exact pc_lp (fun x h => in_b_X13_skip_2 h) h_s
theorem in_k_X13_next_436 {s : t_S} (h_s : IL zl xl s) : t_pq (k_X13_next_436 s) (fun y => IL zl xl y) := by
  unfold k_X13_next_436
  exact pc_if (fun _ => pc_some h_s) (fun _ => in_st (IL.set h_s ⟨by decide, by decide, by decide, fun y => absurd y.2 (by decide)⟩) (fun s1 h_s1 => pc_some h_s1))
theorem in_k_X13_next_418 {s : t_S} (h_s : IL zl xl s) : t_pq (k_X13_next_418 s) (fun y => IL zl xl y) := by
  unfold k_X13_next_418
  exact in_st (IL.set h_s ⟨by decide, by decide, by decide, fun y => absurd y.2 (by decide)⟩) (fun s1 h_s1 => (in_k_X13_next_436 h_s1))
theorem in_k_X13_next_409 {s : t_S} (h_s : IL zl xl s) : t_pq (k_X13_next_409 s) (fun y => IL zl xl y) := by
  unfold k_X13_next_409
  exact pc_bd (in_f_X13_fail h_s) (fun r1 h_r1 => (in_k_X13_next_418 h_r1))
theorem in_k_X13_next_367 {s : t_S} (h_s : IL zl xl s) : t_pq (k_X13_next_367 s) (fun y => IL zl xl y) := by
  unfold k_X13_next_367
  exact in_st (IL.set h_s ⟨by decide, by decide, by decide, fun y => absurd y.2 (by decide)⟩) (fun s1 h_s1 => in_st (IL.set h_s1 ⟨by decide, by decide, by decide, fun y => absurd y.2 (by decide)⟩) (fun s2 h_s2 => pc_if (fun _ => (in_k_X13_next_409 h_s2)) (fun _ => pc_bd pc_any (fun r1 h_r1 => pc_if (fun _ => (in_k_X13_next_418 h_s2)) (fun _ => (in_k_X13_next_409 h_s2))))))
theorem in_k_X13_next_306 {s : t_S} (h_s : IL zl xl s) : t_pq (k_X13_next_306 s) (fun z => Sum.elim (fun y => IL zl xl y) (fun y => IL zl xl y) z) := by
  unfold k_X13_next_306
  exact pc_bd pc_any (fun r1 h_r1 => pc_if (fun _ => pc_mp ((in_k_X13_next_367 h_s))) (fun _ => pc_bd pc_any (fun r3 h_r3 => pc_if (fun _ => pc_mp ((in_k_X13_next_367 h_s))) (fun _ => pc_if (fun _ => pc_mp ((in_k_X13_next_367 h_s))) (fun _ => in_st (IL.set h_s ⟨by decide, by decide, by decide, fun y => absurd y.2 (by decide)⟩) (fun s1 h_s1 => pc_some h_s1))))))
theorem in_b_X13_next_306 {x : t_S} (h : IL zl xl x) : t_pq (b_X13_next_306 x) (fun z => Sum.elim (fun y => IL zl xl y) (fun y => IL zl xl y) z) := in_k_X13_next_306 h
theorem in_k_X13_readSign_162 {k0 : Int32} {k1 : Int32} {s : t_S} (h_s : IL zl xl s) : t_pq (k_X13_readSign_162 k0 k1 s) (fun y => IL zl xl y) := by
  unfold k_X13_readSign_162
  exact in_st (IL.set h_s ⟨by decide, by decide, by decide, fun y => absurd y.2 (by decide)⟩) (fun s1 h_s1 => pc_some h_s1)
theorem in_k_X13_readSign_145 {l3 : Int32} {k0 : Int32} {s : t_S} (h_s : IL zl xl s) : t_pq (k_X13_readSign_145 l3 k0 s) (fun y => IL zl xl y) := by
  unfold k_X13_readSign_145
  exact in_st (IL.set h_s ⟨by decide, by decide, by decide, fun y => absurd y.2 (by decide)⟩) (fun s1 h_s1 => pc_if (fun _ => (in_k_X13_readSign_162 h_s1)) (fun _ => (in_k_X13_readSign_162 h_s1)))
theorem in_k_X13_readSign_124 {l1 : Int32} {l2 : Int32} {l3 : Int32} {s : t_S} (h_s : IL zl xl s) : t_pq (k_X13_readSign_124 l1 l2 l3 s) (fun y => IL zl xl y) := by
  unfold k_X13_readSign_124
  exact in_st (IL.set h_s ⟨by decide, by decide, by decide, fun y => absurd y.2 (by decide)⟩) (fun s1 h_s1 => pc_if (fun _ => (in_k_X13_readSign_145 h_s1)) (fun _ => (in_k_X13_readSign_145 h_s1)))
theorem in_k_X13_readSign_104 {l1 : Int32} {l2 : Int32} {l3 : Int32} {k0 : Int32} {s : t_S} (h_s : IL zl xl s) : t_pq (k_X13_readSign_104 l1 l2 l3 k0 s) (fun y => IL zl xl y) := by
  unfold k_X13_readSign_104
  exact pc_if (fun _ => pc_if (fun _ => pc_bd (in_f_X13_fail h_s) (fun r1 h_r1 => (in_k_X13_readSign_124 h_r1))) (fun _ => (in_k_X13_readSign_124 h_s))) (fun _ => (in_k_X13_readSign_124 h_s))
theorem in_k_X13_readSign_88 {l1 : Int32} {l2 : Int32} {k0 : Int32} {s : t_S} (h_s : IL zl xl s) : t_pq (k_X13_readSign_88 l1 l2 k0 s) (fun y => IL zl xl y) := by
  unfold k_X13_readSign_88
  exact pc_if (fun _ => (in_k_X13_readSign_104 h_s)) (fun _ => (in_k_X13_readSign_104 h_s))
theorem in_k_X13_readSign_83 {l1 : Int32} {l2 : Int32} {s : t_S} (h_s : IL zl xl s) : t_pq (k_X13_readSign_83 l1 l2 s) (fun y => IL zl xl y) := by
  unfold k_X13_readSign_83
  exact (in_k_X13_readSign_88 h_s)
theorem in_k_X13_readSign_87 {l1 : Int32} {l2 : Int32} {s : t_S} (h_s : IL zl xl s) : t_pq (k_X13_readSign_87 l1 l2 s) (fun y => IL zl xl y) := by
  unfold k_X13_readSign_87
  exact (in_k_X13_readSign_88 h_s)
theorem in_k_X13_readSign_71 {l1 : Int32} {l2 : Int32} {s : t_S} (h_s : IL zl xl s) : t_pq (k_X13_readSign_71 l1 l2 s) (fun y => IL zl xl y) := by
  unfold k_X13_readSign_71
  exact pc_if (fun _ => pc_if (fun _ => (in_k_X13_readSign_83 h_s)) (fun _ => (in_k_X13_readSign_87 h_s))) (fun _ => (in_k_X13_readSign_87 h_s))
theorem in_k_X13_readSign_59 {l1 : Int32} {l2 : Int32} {s : t_S} (h_s : IL zl xl s) : t_pq (k_X13_readSign_59 l1 l2 s) (fun y => IL zl xl y) := by
  unfold k_X13_readSign_59
  exact pc_if (fun _ => pc_if (fun _ => (in_k_X13_readSign_83 h_s)) (fun _ => (in_k_X13_readSign_71 h_s))) (fun _ => (in_k_X13_readSign_71 h_s))
theorem in_k_X13_readSign_47 {l1 : Int32} {l2 : Int32} {s : t_S} (h_s : IL zl xl s) : t_pq (k_X13_readSign_47 l1 l2 s) (fun y => IL zl xl y) := by
  unfold k_X13_readSign_47
  exact pc_if (fun _ => pc_if (fun _ => (in_k_X13_readSign_83 h_s)) (fun _ => (in_k_X13_readSign_59 h_s))) (fun _ => (in_k_X13_readSign_59 h_s))
theorem in_f_X13_readSign {x1 : Int32} {s : t_S} (h_s : IL zl xl s) : t_pq (f_X13_readSign x1 s) (fun y => IL zl xl y) := by
  unfold f_X13_readSign
  exact pc_bd pc_any (fun r1 h_r1 => pc_if (fun _ => pc_if (fun _ => (in_k_X13_readSign_83 h_s)) (fun _ => pc_if (fun _ => (in_k_X13_readSign_83 h_s)) (fun _ => pc_if (fun _ => (in_k_X13_readSign_83 h_s)) (fun _ => pc_if (fun _ => (in_k_X13_readSign_83 h_s)) (fun _ => pc_if (fun _ => (in_k_X13_readSign_83 h_s)) (fun _ => (in_k_X13_readSign_47 h_s))))))) (fun _ => (in_k_X13_readSign_47 h_s)))
theorem in_k_X13_next_235 {k0 : Int64} {s : t_S} (h_s : IL zl xl s) : t_pq (k_X13_next_235 k0 s) (fun z => Sum.elim (fun y => IL zl xl y) (fun y => IL zl xl y) z) := by
  unfold k_X13_next_235
  exact in_st (IL.setJ h_s) (fun s1 h_s1 => in_st (IL.set h_s1 ⟨by decide, by decide, by decide, fun y => absurd y.2 (by decide)⟩) (fun s2 h_s2 => pc_some h_s2))
theorem in_k_X13_next_176 {s : t_S} (h_s : IL zl xl s) : t_pq (k_X13_next_176 s) (fun z => Sum.elim (fun y => IL zl xl y) (fun y => IL zl xl y) z) := by
  unfold k_X13_next_176
  exact pc_bd pc_any (fun r1 h_r1 => pc_if (fun _ => pc_mp (in_st (IL.set h_s ⟨by decide, by decide, by decide, fun y => absurd y.2 (by decide)⟩) (fun s1 h_s1 => in_st (IL.set h_s1 ⟨by decide, by decide, by decide, fun y => absurd y.2 (by decide)⟩) (fun s2 h_s2 => pc_if (fun _ => (in_k_X13_next_436 h_s2)) (fun _ => pc_bd (in_f_X13_fail h_s2) (fun r3 h_r3 => (in_k_X13_next_436 h_r3))))))) (fun _ => pc_if (fun _ => (in_k_X13_next_235 h_s)) (fun _ => pc_if (fun z1 => (in_k_X13_next_235 h_s)) (fun _ => pc_none))))
theorem in_b_X13_next_176 {x : t_S} (h : IL zl xl x) : t_pq (b_X13_next_176 x) (fun z => Sum.elim (fun y => IL zl xl y) (fun y => IL zl xl y) z) := in_k_X13_next_176 h
theorem in_k_X13_next_104 {s : t_S} (h_s : IL zl xl s) : t_pq (k_X13_next_104 s) (fun z => Sum.elim (fun y => IL zl xl y) (fun y => IL zl xl y) z) := by
  unfold k_X13_next_104
  exact in_st (IL.set h_s ⟨by decide, by decide, by decide, fun y => absurd y.2 (by decide)⟩) (fun s1 h_s1 => pc_some h_s1)
theorem in_k_X13_next_63 {s : t_S} (h_s : IL zl xl s) : t_pq (k_X13_next_63 s) (fun z => Sum.elim (fun y => IL zl xl y) (fun y => IL zl xl y) z) := by
  unfold k_X13_next_63
  exact pc_bd pc_any (fun r1 h_r1 => pc_if (fun _ => pc_bd pc_any (fun r3 h_r3 => pc_if (fun _ => pc_bd pc_any (fun r5 h_r5 => pc_if (fun _ => (in_k_X13_next_104 h_s)) (fun _ => pc_mp (in_st (IL.set h_s ⟨by decide, by decide, by decide, fun y => absurd y.2 (by decide)⟩) (fun s1 h_s1 => in_st (IL.set h_s1 ⟨by decide, by decide, by decide, fun y => absurd y.2 (by decide)⟩) (fun s2 h_s2 => pc_bd pc_any (fun r6 h_r6 => in_st (IL.set h_s2 ⟨by decide, by decide, by decide, fun y => absurd y.2 (by decide)⟩) (fun s3 h_s3 => pc_if (fun _ => (in_k_X13_next_436 h_s3)) (fun _ => pc_bd (in_f_X13_fail h_s3) (fun r7 h_r7 => (in_k_X13_next_436 h_r7))))))))))) (fun _ => (in_k_X13_next_104 h_s)))) (fun _ => (in_k_X13_next_104 h_s)))
theorem in_b_X13_next_63 {x : t_S} (h : IL zl xl x) : t_pq (b_X13_next_63 x) (fun z => Sum.elim (fun y => IL zl xl y) (fun y => IL zl xl y) z) := in_k_X13_next_63 h
theorem in_f_X13_next {s : t_S} (h_s : IL zl xl s) : t_pq (f_X13_next s) (fun y => IL zl xl y) := by
  unfold f_X13_next
  exact pc_if (fun _ => pc_bd (in_f_X13_skip h_s) (fun r1 h_r1 => in_st (IL.set h_r1 ⟨by decide, by decide, by decide, fun y => absurd y.2 (by decide)⟩) (fun s1 h_s1 => in_st (IL.set h_s1 ⟨by decide, by decide, by decide, fun y => absurd y.2 (by decide)⟩) (fun s2 h_s2 => in_st (IL.set h_s2 ⟨by decide, by decide, by decide, fun y => absurd y.2 (by decide)⟩) (fun s3 h_s3 => pc_bd pc_any (fun r2 h_r2 => pc_if (fun _ => pc_if (fun _ => pc_if (fun _ => pc_if (fun _ => in_st (IL.set h_s3 ⟨by decide, by decide, by decide, fun y => absurd y.2 (by decide)⟩) (fun s4 h_s4 => pc_lp (fun x h => in_b_X13_next_306 h) h_s4)) (fun _ => pc_bd (in_f_X13_readSign h_s3) (fun r5 h_r5 => (in_k_X13_next_436 h_r5)))) (fun _ => in_st (IL.setJ h_s3) (fun s5 h_s5 => pc_lp (fun x h => in_b_X13_next_176 h) h_s5))) (fun _ => pc_lp (fun x h => in_b_X13_next_63 h) h_s3)) (fun _ => in_st (IL.set h_s3 ⟨by decide, by decide, by decide, fun y => absurd y.2 (by decide)⟩) (fun s6 h_s6 => (in_k_X13_next_436 h_s6))))))))) (fun _ => in_st (IL.set h_s ⟨by decide, by decide, by decide, fun y => absurd y.2 (by decide)⟩) (fun s7 h_s7 => pc_some h_s7))
theorem in_k_X13_name_131 {l1 : Int32} {s : t_S} (h_s : IL zl xl s) : t_pq (k_X13_name_131 l1 s) (fun z => Sum.elim (fun y => IL zl xl y.2) (fun y => IL zl xl y.2) z) := by
  unfold k_X13_name_131
  exact pc_if (fun _ => pc_mp (in_st (IL.set h_s ⟨by decide, by decide, by decide, fun y => absurd y.2 (by decide)⟩) (fun s1 h_s1 => pc_some h_s1))) (fun _ => pc_if (fun z1 => pc_if (fun z2 => in_st (IL.set h_s ⟨by decide, by decide, by decide, fun y => absurd y.1 (by decide)⟩) (fun s2 h_s2 => in_st (IL.set h_s2 ⟨by decide, by decide, by decide, fun y => absurd y.2 (by decide)⟩) (fun s3 h_s3 => pc_some h_s3))) (fun _ => pc_none)) (fun _ => pc_none))
theorem in_b_X13_name_131 {x : Int32 × t_S} (h : IL zl xl x.2) : t_pq (b_X13_name_131 x) (fun z => Sum.elim (fun y => IL zl xl y.2) (fun y => IL zl xl y.2) z) := in_k_X13_name_131 h
theorem in_k_X13_name_82 {l1 : Int32} {l2 : Int32} {s : t_S} (h_s : IL zl xl s) : t_pq (k_X13_name_82 l1 l2 s) (fun z => Sum.elim (fun y => IL zl xl y.2) (fun y => IL zl xl y.2) z) := by
  unfold k_X13_name_82
  exact pc_if (fun _ => pc_some h_s) (fun _ => pc_mp (pc_some h_s))
theorem in_k_X13_name_75 {l1 : Int32} {l3 : Int32} {k0 : Int32} {s : t_S} (h_s : IL zl xl s) : t_pq (k_X13_name_75 l1 l3 k0 s) (fun z => Sum.elim (fun y => IL zl xl y.2.2.2) (fun z => Sum.elim (fun y => IL zl xl y.2) (fun y => IL zl xl y.2) z) z) := by
  unfold k_X13_name_75
  exact pc_some h_s
theorem in_k_X13_name_31 {l1 : Int32} {l2 : Int32} {l3 : Int32} {s : t_S} (h_s : IL zl xl s) : t_pq (k_X13_name_31 l1 l2 l3 s) (fun z => Sum.elim (fun y => IL zl xl y.2.2.2) (fun z => Sum.elim (fun y => IL zl xl y.2) (fun y => IL zl xl y.2) z) z) := by
  unfold k_X13_name_31
  exact pc_if (fun _ => pc_mp ((in_k_X13_name_82 h_s))) (fun _ => pc_if (fun _ => pc_mp ((in_k_X13_name_82 h_s))) (fun _ => pc_if (fun z1 => pc_if (fun z2 => pc_if (fun z3 => pc_if (fun _ => (in_k_X13_name_75 h_s)) (fun _ => (in_k_X13_name_75 h_s))) (fun _ => pc_none)) (fun _ => pc_none)) (fun _ => pc_none)))
theorem in_b_X13_name_31 {x : Int32 × Int32 × Int32 × t_S} (h : IL zl xl x.2.2.2) : t_pq (b_X13_name_31 x) (fun z => Sum.elim (fun y => IL zl xl y.2.2.2) (fun z => Sum.elim (fun y => IL zl xl y.2) (fun y => IL zl xl y.2) z) z) := in_k_X13_name_31 h
theorem in_k_X13_name_28 {l1 : Int32} {k0 : Int32} {s : t_S} (h_s : IL zl xl s) : t_pq (k_X13_name_28 l1 k0 s) (fun z => Sum.elim (fun y => IL zl xl y.2) (fun y => IL zl xl y.2) z) := by
  unfold k_X13_name_28
  exact pc_lp (fun x h => in_b_X13_name_31 h) h_s
theorem in_k_X13_name_2 {l1 : Int32} {s : t_S} (h_s : IL zl xl s) : t_pq (k_X13_name_2 l1 s) (fun z => Sum.elim (fun y => IL zl xl y.2) (fun y => IL zl xl y.2) z) := by
  unfold k_X13_name_2
  exact pc_if (fun _ => pc_mp (pc_if (fun _ => pc_some h_s) (fun _ => pc_if (fun z1 => in_st (IL.set h_s ⟨by decide, by decide, by decide, fun y => absurd y.1 (by decide)⟩) (fun s1 h_s1 => pc_if (fun z2 => in_st (IL.set h_s1 ⟨by decide, by decide, by decide, fun y => absurd y.1 (by decide)⟩) (fun s2 h_s2 => pc_lp (fun x h => in_b_X13_name_131 h) h_s2)) (fun _ => pc_none))) (fun _ => pc_none)))) (fun _ => pc_if (fun z3 => pc_if (fun _ => (in_k_X13_name_28 h_s)) (fun _ => (in_k_X13_name_28 h_s))) (fun _ => pc_none))
theorem in_b_X13_name_2 {x : Int32 × t_S} (h : IL zl xl x.2) : t_pq (b_X13_name_2 x) (fun z => Sum.elim (fun y => IL zl xl y.2) (fun y => IL zl xl y.2) z) := in_k_X13_name_2 h
theorem in_f_X13_name {s : t_S} (h_s : IL zl xl s) : t_pq (f_X13_name s) (fun y => IL zl xl y.2) := by
  unfold f_X13_name
  exact pc_lp (fun x h => in_b_X13_name_2 h) h_s
theorem in_k_X13_freeName_15 {s : t_S} (h_s : IL zl xl s) : t_pq (k_X13_freeName_15 s) (fun y => IL zl xl y.2) := by
  unfold k_X13_freeName_15
  exact pc_bd (in_f_X13_fail h_s) (fun r1 h_r1 => pc_some h_r1)
theorem in_f_X13_freeName {s : t_S} (h_s : IL zl xl s) : t_pq (f_X13_freeName s) (fun y => IL zl xl y.2) := by
  unfold f_X13_freeName
  exact pc_if (fun _ => pc_if (fun _ => pc_bd (in_f_X13_name h_s) (fun r1 h_r1 => pc_some h_r1)) (fun _ => (in_k_X13_freeName_15 h_s))) (fun _ => (in_k_X13_freeName_15 h_s))
theorem in_k_X13_outside_29 {l1 : Int32} {l2 : Int32} {l3 : Int32} {s : t_S} (h_s : IL zl xl s) : t_pq (k_X13_outside_29 l1 l2 l3 s) (fun y => IL zl xl y.2) := by
  unfold k_X13_outside_29
  exact pc_if (fun _ => pc_bd (in_f_X13_fail h_s) (fun r1 h_r1 => pc_some h_r1)) (fun _ => pc_some h_s)
theorem in_f_X13_outside {x1 : Int32} {x2 : Int32} {s : t_S} (h_s : IL zl xl s) : t_pq (f_X13_outside x1 x2 s) (fun y => IL zl xl y.2) := by
  unfold f_X13_outside
  exact pc_bd (in_f_X13_freeName h_s) (fun r1 h_r1 => pc_if (fun _ => pc_bd pc_any (fun r2 h_r2 => pc_if (fun _ => (in_k_X13_outside_29 h_r1)) (fun _ => pc_bd (in_f_X13_fail h_r1) (fun r3 h_r3 => (in_k_X13_outside_29 h_r3))))) (fun _ => (in_k_X13_outside_29 h_r1)))
theorem in_k_X13_mustBe_17 {s : t_S} (h_s : IL zl xl s) : t_pq (k_X13_mustBe_17 s) (fun y => IL zl xl y) := by
  unfold k_X13_mustBe_17
  exact pc_bd (in_f_X13_next h_s) (fun r1 h_r1 => pc_some h_r1)
theorem in_f_X13_mustBe {x1 : Int32} {s : t_S} (h_s : IL zl xl s) : t_pq (f_X13_mustBe x1 s) (fun y => IL zl xl y) := by
  unfold f_X13_mustBe
  exact pc_if (fun _ => pc_bd (in_f_X13_fail h_s) (fun r2 h_r2 => (in_k_X13_mustBe_17 h_r2))) (fun _ => (in_k_X13_mustBe_17 h_s))
def INB_X13_fields (zl xl : Nat) (rc : RT_X13_fields) : Prop := (∀ (x0 : Int32) (s : t_S), IL zl xl s → t_pq (rc.1 x0 s) (fun y => IL zl xl y)) ∧ (∀  (s : t_S), IL zl xl s → t_pq (rc.2  s) (fun y => IL zl xl y.2))
theorem in_k_X13_fields_197 {rc : RT_X13_fields} {s : t_S} (hrc : INB_X13_fields zl xl rc) (h_s : IL zl xl s) : t_pq (k_X13_fields_197 rc s) (fun y => IL zl xl y) := by
  unfold k_X13_fields_197
  exact pc_bd (in_f_X13_mustBe h_s) (fun r1 h_r1 => pc_some h_r1)
theorem in_k_X13_node_53 {l1 : Int32} {k0 : Int32} {s : t_S} (h_s : IL zl xl s) : t_pq (k_X13_node_53 l1 k0 s) (fun y => IL zl xl y.2) := by
  unfold k_X13_node_53
  exact in_st (IL.set h_s ⟨by decide, by decide, by decide, fun y => absurd y.2 (by decide)⟩) (fun s1 h_s1 => pc_if (fun z1 => in_st (IL.set h_s1 ⟨by decide, by decide, by decide, fun y => absurd y.1 (by decide)⟩) (fun s2 h_s2 => in_st (IL.set h_s2 ⟨by decide, by decide, by decide, fun y => absurd y.1 (by decide)⟩) (fun s3 h_s3 => in_st (IL.setJ h_s3) (fun s4 h_s4 => in_st (IL.setJ h_s4) (fun s5 h_s5 => in_st (IL.set h_s5 ⟨by decide, by decide, by decide, fun y => absurd y.1 (by decide)⟩) (fun s6 h_s6 => in_st (IL.set h_s6 ⟨by decide, by decide, by decide, fun y => absurd y.1 (by decide)⟩) (fun s7 h_s7 => in_st (IL.set h_s7 ⟨by decide, by decide, by decide, fun y => absurd y.1 (by decide)⟩) (fun s8 h_s8 => pc_if (fun _ => pc_some h_s8) (fun _ => in_st (IL.set h_s8 ⟨by decide, by decide, by decide, fun y => absurd y.1 (by decide)⟩) (fun s9 h_s9 => in_st (IL.set h_s9 ⟨by decide, by decide, by decide, fun y => absurd y.2 (by decide)⟩) (fun s10 h_s10 => pc_some h_s10))))))))))) (fun _ => pc_none))
theorem in_k_X13_node_33 {l1 : Int32} {s : t_S} (h_s : IL zl xl s) : t_pq (k_X13_node_33 l1 s) (fun y => IL zl xl y.2) := by
  unfold k_X13_node_33
  exact pc_if (fun _ => (in_k_X13_node_53 h_s)) (fun _ => (in_k_X13_node_53 h_s))
theorem in_k_X13_node_23 {l1 : Int32} {s : t_S} (h_s : IL zl xl s) : t_pq (k_X13_node_23 l1 s) (fun y => IL zl xl y.2) := by
  unfold k_X13_node_23
  exact in_st (IL.set h_s ⟨by decide, by decide, by decide, fun y => absurd y.2 (by decide)⟩) (fun s1 h_s1 => (in_k_X13_node_33 h_s1))
theorem in_f_X13_node {x1 : Int32} {x2 : Int32} {s : t_S} (h_s : IL zl xl s) : t_pq (f_X13_node x1 x2 s) (fun y => IL zl xl y.2) := by
  unfold f_X13_node
  exact pc_if (fun _ => (in_k_X13_node_33 h_s)) (fun _ => pc_if (fun _ => pc_bd (in_f_X13_fail h_s) (fun r1 h_r1 => (in_k_X13_node_23 h_r1))) (fun _ => (in_k_X13_node_23 h_s)))
theorem in_f_X13_hang {x1 : Int32} {x2 : Int32} {s : t_S} (h_s : IL zl xl s) : t_pq (f_X13_hang x1 x2 s) (fun y => IL zl xl y) := by
  unfold f_X13_hang
  exact pc_if (fun _ => pc_bd pc_any (fun r1 h_r1 => pc_if (fun _ => pc_if (fun z1 => in_st (IL.set h_s ⟨by decide, by decide, by decide, fun y => absurd y.1 (by decide)⟩) (fun s1 h_s1 => pc_some h_s1)) (fun _ => pc_none)) (fun _ => pc_if (fun z2 => in_st (IL.set h_s ⟨by decide, by decide, by decide, fun y => absurd y.1 (by decide)⟩) (fun s2 h_s2 => pc_some h_s2)) (fun _ => pc_none)))) (fun _ => pc_some h_s)
theorem in_k_X13_fields_176 {rc : RT_X13_fields} {l1 : Int32} {l2 : Int32} {l4 : Int32} {s : t_S} (hrc : INB_X13_fields zl xl rc) (h_s : IL zl xl s) : t_pq (k_X13_fields_176 rc l1 l2 l4 s) (fun z => Sum.elim (fun y => IL zl xl y.2.2.2.2) (fun y => IL zl xl y) z) := by
  unfold k_X13_fields_176
  exact pc_if (fun _ => pc_some h_s) (fun _ => pc_bd (in_f_X13_next h_s) (fun r2 h_r2 => pc_some h_r2))
theorem in_k_X13_fields_105 {rc : RT_X13_fields} {l1 : Int32} {l2 : Int32} {l4 : Int32} {l5 : Int32} {s : t_S} (hrc : INB_X13_fields zl xl rc) (h_s : IL zl xl s) : t_pq (k_X13_fields_105 rc l1 l2 l4 l5 s) (fun z => Sum.elim (fun y => IL zl xl y.2.2.2.2) (fun y => IL zl xl y) z) := by
  unfold k_X13_fields_105
  exact pc_bd (in_f_X13_node h_s) (fun r1 h_r1 => pc_if (fun z1 => in_st (IL.setJ h_r1) (fun s1 h_s1 => pc_bd (in_f_X13_hang h_s1) (fun r3 h_r3 => pc_bd (in_f_X13_next h_r3) (fun r4 h_r4 => pc_bd (in_f_X13_mustBe h_r4) (fun r5 h_r5 => pc_bd (hrc.2 _ h_r5) (fun r6 h_r6 => pc_bd (in_f_X13_hang h_r6) (fun r7 h_r7 => pc_if (fun _ => pc_if (fun _ => (in_k_X13_fields_176 hrc h_r7)) (fun _ => in_st (IL.setJ h_r7) (fun s2 h_s2 => pc_bd (in_f_X13_next h_s2) (fun r9 h_r9 => (in_k_X13_fields_176 hrc h_r9))))) (fun _ => (in_k_X13_fields_176 hrc h_r7))))))))) (fun _ => pc_none))
theorem in_k_X13_fields_89 {rc : RT_X13_fields} {l1 : Int32} {l2 : Int32} {l4 : Int32} {l5 : Int32} {s : t_S} (hrc : INB_X13_fields zl xl rc) (h_s : IL zl xl s) : t_pq (k_X13_fields_89 rc l1 l2 l4 l5 s) (fun z => Sum.elim (fun y => IL zl xl y.2.2.2.2) (fun y => IL zl xl y) z) := by
  unfold k_X13_fields_89
  exact pc_if (fun _ => pc_bd (in_f_X13_fail h_s) (fun r1 h_r1 => (in_k_X13_fields_105 hrc h_r1))) (fun _ => (in_k_X13_fields_105 hrc h_s))
theorem in_k_X13_fields_45 {rc : RT_X13_fields} {l1 : Int32} {l2 : Int32} {l3 : Int32} {l4 : Int32} {s : t_S} (hrc : INB_X13_fields zl xl rc) (h_s : IL zl xl s) : t_pq (k_X13_fields_45 rc l1 l2 l3 l4 s) (fun z => Sum.elim (fun y => IL zl xl y.2.2.2.2) (fun y => IL zl xl y) z) := by
  unfold k_X13_fields_45
  exact pc_if (fun _ => pc_mp ((in_k_X13_fields_197 hrc h_s))) (fun _ => pc_if (fun _ => pc_bd (in_f_X13_freeName h_s) (fun r1 h_r1 => pc_if (fun _ => pc_bd pc_any (fun r2 h_r2 => pc_if (fun _ => (in_k_X13_fields_89 hrc h_r1)) (fun _ => pc_bd (in_f_X13_fail h_r1) (fun r3 h_r3 => (in_k_X13_fields_89 hrc h_r3))))) (fun _ => (in_k_X13_fields_89 hrc h_r1)))) (fun _ => pc_mp ((in_k_X13_fields_197 hrc h_s))))
theorem in_b_X13_fields_45 {rc : RT_X13_fields} {x : Int32 × Int32 × Int32 × Int32 × t_S} (hrc : INB_X13_fields zl xl rc) (h : IL zl xl x.2.2.2.2) : t_pq (b_X13_fields_45 rc x) (fun z => Sum.elim (fun y => IL zl xl y.2.2.2.2) (fun y => IL zl xl y) z) := in_k_X13_fields_45 hrc h
theorem in_k_X13_fields_41 {rc : RT_X13_fields} {l1 : Int32} {l2 : Int32} {k0 : Int32} {s : t_S} (hrc : INB_X13_fields zl xl rc) (h_s : IL zl xl s) : t_pq (k_X13_fields_41 rc l1 l2 k0 s) (fun y => IL zl xl y) := by
  unfold k_X13_fields_41
  exact pc_lp (fun x h => in_b_X13_fields_45 hrc h) h_s
theorem in_k_X13_fields_36 {rc : RT_X13_fields} {l1 : Int32} {l2 : Int32} {s : t_S} (hrc : INB_X13_fields zl xl rc) (h_s : IL zl xl s) : t_pq (k_X13_fields_36 rc l1 l2 s) (fun y => IL zl xl y) := by
  unfold k_X13_fields_36
  exact (in_k_X13_fields_41 hrc h_s)
theorem in_k_X13_fields_16 {rc : RT_X13_fields} {l1 : Int32} {k0 : Int32} {s : t_S} (hrc : INB_X13_fields zl xl rc) (h_s : IL zl xl s) : t_pq (k_X13_fields_16 rc l1 k0 s) (fun y => IL zl xl y) := by
  unfold k_X13_fields_16
  exact pc_bd (in_f_X13_mustBe h_s) (fun r1 h_r1 => pc_if (fun _ => pc_if (fun _ => (in_k_X13_fields_36 hrc h_r1)) (fun _ => (in_k_X13_fields_41 hrc h_r1))) (fun _ => (in_k_X13_fields_36 hrc h_r1)))
theorem in_m_X13_fields {rc : RT_X13_fields} {x2 : Int32} {s : t_S} (hrc : INB_X13_fields zl xl rc) (h_s : IL zl xl s) : t_pq (m_X13_fields rc x2 s) (fun y => IL zl xl y) := by
  unfold m_X13_fields
  exact pc_if (fun z1 => pc_if (fun _ => (in_k_X13_fields_16 hrc h_s)) (fun _ => (in_k_X13_fields_16 hrc h_s))) (fun _ => pc_none)
theorem in_k_X13_typeHere_42 {s : t_S} (h_s : IL zl xl s) : t_pq (k_X13_typeHere_42 s) (fun y => IL zl xl y.2) := by
  unfold k_X13_typeHere_42
  exact pc_bd (in_f_X13_fail h_s) (fun r1 h_r1 => pc_some h_r1)
theorem in_k_X13_bounded_42 {s : t_S} (h_s : IL zl xl s) : t_pq (k_X13_bounded_42 s) (fun y => IL zl xl y.2) := by
  unfold k_X13_bounded_42
  exact pc_bd (in_f_X13_next h_s) (fun r1 h_r1 => pc_some h_r1)
theorem in_f_X13_bounded {x1 : Int32} {x2 : Int64} {s : t_S} (h_s : IL zl xl s) : t_pq (f_X13_bounded x1 x2 s) (fun y => IL zl xl y.2) := by
  unfold f_X13_bounded
  exact pc_if (fun _ => pc_if (fun _ => pc_bd (in_f_X13_fail h_s) (fun r2 h_r2 => (in_k_X13_bounded_42 h_r2))) (fun _ => (in_k_X13_bounded_42 h_s))) (fun _ => pc_bd (in_f_X13_fail h_s) (fun r3 h_r3 => (in_k_X13_bounded_42 h_r3)))
theorem in_k_X13_span_59 {s : t_S} (h_s : IL zl xl s) : t_pq (k_X13_span_59 s) (fun y => IL zl xl y) := by
  unfold k_X13_span_59
  exact pc_bd (in_f_X13_mustBe h_s) (fun r1 h_r1 => pc_some h_r1)
theorem in_f_X13_span {x1 : Int32} {x2 : Int32} {s : t_S} (h_s : IL zl xl s) : t_pq (f_X13_span x1 x2 s) (fun y => IL zl xl y) := by
  unfold f_X13_span
  exact pc_bd (in_f_X13_next h_s) (fun r1 h_r1 => pc_bd (in_f_X13_bounded h_r1) (fun r2 h_r2 => pc_if (fun z1 => in_st (IL.setJ h_r2) (fun s1 h_s1 => in_st (IL.setJ h_s1) (fun s2 h_s2 => pc_if (fun _ => (in_k_X13_span_59 h_s2)) (fun _ => pc_bd (in_f_X13_next h_s2) (fun r5 h_r5 => pc_bd (in_f_X13_bounded h_r5) (fun r6 h_r6 => in_st (IL.setJ h_r6) (fun s3 h_s3 => (in_k_X13_span_59 h_s3)))))))) (fun _ => pc_none)))
theorem in_k_X13_enumWords_120 {s : t_S} (h_s : IL zl xl s) : t_pq (k_X13_enumWords_120 s) (fun y => IL zl xl y) := by
  unfold k_X13_enumWords_120
  exact pc_bd (in_f_X13_mustBe h_s) (fun r1 h_r1 => pc_some h_r1)
theorem in_k_X13_enumWords_69 {l1 : Int32} {l3 : Int32} {l4 : Int32} {s : t_S} (h_s : IL zl xl s) : t_pq (k_X13_enumWords_69 l1 l3 l4 s) (fun z => Sum.elim (fun y => IL zl xl y.2.2.2) (fun y => IL zl xl y) z) := by
  unfold k_X13_enumWords_69
  exact pc_bd (in_f_X13_node h_s) (fun r1 h_r1 => pc_if (fun z1 => in_st (IL.setJ h_r1) (fun s1 h_s1 => pc_bd (in_f_X13_hang h_s1) (fun r3 h_r3 => pc_bd (in_f_X13_next h_r3) (fun r4 h_r4 => pc_if (fun _ => pc_some h_r4) (fun _ => pc_bd (in_f_X13_next h_r4) (fun r6 h_r6 => pc_some h_r6)))))) (fun _ => pc_none))
theorem in_k_X13_enumWords_54 {l1 : Int32} {l3 : Int32} {l4 : Int32} {s : t_S} (h_s : IL zl xl s) : t_pq (k_X13_enumWords_54 l1 l3 l4 s) (fun z => Sum.elim (fun y => IL zl xl y.2.2.2) (fun y => IL zl xl y) z) := by
  unfold k_X13_enumWords_54
  exact pc_if (fun _ => pc_bd (in_f_X13_fail h_s) (fun r1 h_r1 => (in_k_X13_enumWords_69 h_r1))) (fun _ => (in_k_X13_enumWords_69 h_s))
theorem in_k_X13_enumWords_10 {l1 : Int32} {l2 : Int32} {l3 : Int32} {s : t_S} (h_s : IL zl xl s) : t_pq (k_X13_enumWords_10 l1 l2 l3 s) (fun z => Sum.elim (fun y => IL zl xl y.2.2.2) (fun y => IL zl xl y) z) := by
  unfold k_X13_enumWords_10
  exact pc_if (fun _ => pc_mp ((in_k_X13_enumWords_120 h_s))) (fun _ => pc_if (fun _ => pc_bd (in_f_X13_freeName h_s) (fun r1 h_r1 => pc_if (fun _ => pc_bd pc_any (fun r2 h_r2 => pc_if (fun _ => (in_k_X13_enumWords_54 h_r1)) (fun _ => pc_bd (in_f_X13_fail h_r1) (fun r3 h_r3 => (in_k_X13_enumWords_54 h_r3))))) (fun _ => (in_k_X13_enumWords_54 h_r1)))) (fun _ => pc_mp ((in_k_X13_enumWords_120 h_s))))
theorem in_b_X13_enumWords_10 {x : Int32 × Int32 × Int32 × t_S} (h : IL zl xl x.2.2.2) : t_pq (b_X13_enumWords_10 x) (fun z => Sum.elim (fun y => IL zl xl y.2.2.2) (fun y => IL zl xl y) z) := in_k_X13_enumWords_10 h
theorem in_f_X13_enumWords {x1 : Int32} {s : t_S} (h_s : IL zl xl s) : t_pq (f_X13_enumWords x1 s) (fun y => IL zl xl y) := by
  unfold f_X13_enumWords
  exact pc_bd (in_f_X13_mustBe h_s) (fun r1 h_r1 => pc_lp (fun x h => in_b_X13_enumWords_10 h) h_r1)
theorem in_k_X13_typeHere_116 {l1 : Int32} {l2 : Int32} {s : t_S} (h_s : IL zl xl s) : t_pq (k_X13_typeHere_116 l1 l2 s) (fun y => IL zl xl y.2) := by
  unfold k_X13_typeHere_116
  exact pc_if (fun _ => pc_if (fun z1 => in_st (IL.setJ h_s) (fun s1 h_s1 => pc_if (fun _ => pc_some h_s1) (fun _ => pc_bd (in_f_X13_span h_s1) (fun r4 h_r4 => pc_some h_r4)))) (fun _ => pc_none)) (fun _ => pc_if (fun _ => pc_bd (in_f_X13_enumWords h_s) (fun r1 h_r1 => pc_some h_r1)) (fun _ => pc_some h_s))
theorem in_k_X13_ranges_149 {s : t_S} (h_s : IL zl xl s) : t_pq (k_X13_ranges_149 s) (fun y => IL zl xl y) := by
  unfold k_X13_ranges_149
  exact pc_bd (in_f_X13_mustBe h_s) (fun r1 h_r1 => pc_some h_r1)
theorem in_k_X13_num_66 {l4 : Int64} {s : t_S} (h_s : IL zl xl s) : t_pq (k_X13_num_66 l4 s) (fun y => IL zl xl y.2) := by
  unfold k_X13_num_66
  exact pc_bd (in_f_X13_next h_s) (fun r1 h_r1 => pc_some h_r1)
theorem in_k_X13_num_48 {l1 : Int64} {k0 : Int64} {s : t_S} (h_s : IL zl xl s) : t_pq (k_X13_num_48 l1 k0 s) (fun y => IL zl xl y.2) := by
  unfold k_X13_num_48
  exact pc_if (fun _ => (in_k_X13_num_66 h_s)) (fun _ => pc_bd (in_f_X13_fail h_s) (fun r1 h_r1 => (in_k_X13_num_66 h_r1)))
theorem in_k_X13_num_32 {l1 : Int64} {l3 : Int32} {s : t_S} (h_s : IL zl xl s) : t_pq (k_X13_num_32 l1 l3 s) (fun y => IL zl xl y.2) := by
  unfold k_X13_num_32
  exact pc_if (fun _ => (in_k_X13_num_48 h_s)) (fun _ => (in_k_X13_num_48 h_s))
theorem in_k_X13_num_15 {l1 : Int64} {l3 : Int32} {s : t_S} (h_s : IL zl xl s) : t_pq (k_X13_num_15 l1 l3 s) (fun y => IL zl xl y.2) := by
  unfold k_X13_num_15
  exact pc_if (fun _ => (in_k_X13_num_32 h_s)) (fun _ => pc_bd (in_f_X13_fail h_s) (fun r1 h_r1 => (in_k_X13_num_32 h_r1)))
theorem in_f_X13_num {x1 : Int64} {s : t_S} (h_s : IL zl xl s) : t_pq (f_X13_num x1 s) (fun y => IL zl xl y.2) := by
  unfold f_X13_num
  exact pc_if (fun _ => (in_k_X13_num_15 h_s)) (fun _ => pc_bd (in_f_X13_next h_s) (fun r2 h_r2 => (in_k_X13_num_15 h_r2)))
theorem in_k_X13_ranges_129 {l1 : Int32} {l3 : Int32} {l4 : Int32} {s : t_S} (h_s : IL zl xl s) : t_pq (k_X13_ranges_129 l1 l3 l4 s) (fun z => Sum.elim (fun y => IL zl xl y.2.2.2) (fun y => IL zl xl y) z) := by
  unfold k_X13_ranges_129
  exact pc_bd (in_f_X13_hang h_s) (fun r1 h_r1 => pc_some h_r1)
theorem in_k_X13_ranges_60 {l1 : Int32} {l3 : Int32} {s : t_S} (h_s : IL zl xl s) : t_pq (k_X13_ranges_60 l1 l3 s) (fun z => Sum.elim (fun y => IL zl xl y.2.2.2) (fun y => IL zl xl y) z) := by
  unfold k_X13_ranges_60
  exact pc_bd (in_f_X13_node h_s) (fun r1 h_r1 => pc_bd (in_f_X13_num h_r1) (fun r2 h_r2 => pc_if (fun z1 => in_st (IL.setJ h_r2) (fun s1 h_s1 => in_st (IL.setJ h_s1) (fun s2 h_s2 => pc_if (fun _ => (in_k_X13_ranges_129 h_s2)) (fun _ => pc_bd (in_f_X13_next h_s2) (fun r5 h_r5 => pc_bd (in_f_X13_num h_r5) (fun r6 h_r6 => in_st (IL.setJ h_r6) (fun s3 h_s3 => (in_k_X13_ranges_129 h_s3)))))))) (fun _ => pc_none)))
theorem in_k_X13_ranges_45 {l1 : Int32} {l3 : Int32} {s : t_S} (h_s : IL zl xl s) : t_pq (k_X13_ranges_45 l1 l3 s) (fun z => Sum.elim (fun y => IL zl xl y.2.2.2) (fun y => IL zl xl y) z) := by
  unfold k_X13_ranges_45
  exact pc_if (fun _ => pc_bd (in_f_X13_fail h_s) (fun r1 h_r1 => (in_k_X13_ranges_60 h_r1))) (fun _ => (in_k_X13_ranges_60 h_s))
theorem in_k_X13_ranges_4 {l1 : Int32} {l2 : Int32} {l3 : Int32} {s : t_S} (h_s : IL zl xl s) : t_pq (k_X13_ranges_4 l1 l2 l3 s) (fun z => Sum.elim (fun y => IL zl xl y.2.2.2) (fun y => IL zl xl y) z) := by
  unfold k_X13_ranges_4
  exact pc_if (fun _ => pc_mp ((in_k_X13_ranges_149 h_s))) (fun _ => pc_if (fun _ => pc_bd (in_f_X13_next h_s) (fun r1 h_r1 => pc_if (fun _ => pc_if (fun _ => (in_k_X13_ranges_45 h_r1)) (fun _ => pc_bd (in_f_X13_fail h_r1) (fun r3 h_r3 => (in_k_X13_ranges_45 h_r3)))) (fun _ => (in_k_X13_ranges_45 h_r1)))) (fun _ => pc_mp ((in_k_X13_ranges_149 h_s))))
theorem in_b_X13_ranges_4 {x : Int32 × Int32 × Int32 × t_S} (h : IL zl xl x.2.2.2) : t_pq (b_X13_ranges_4 x) (fun z => Sum.elim (fun y => IL zl xl y.2.2.2) (fun y => IL zl xl y) z) := in_k_X13_ranges_4 h
theorem in_f_X13_ranges {x1 : Int32} {s : t_S} (h_s : IL zl xl s) : t_pq (f_X13_ranges x1 s) (fun y => IL zl xl y) := by
  unfold f_X13_ranges
  exact pc_lp (fun x h => in_b_X13_ranges_4 h) h_s
theorem in_k_X13_typeHere_89 {l1 : Int32} {l2 : Int32} {s : t_S} (h_s : IL zl xl s) : t_pq (k_X13_typeHere_89 l1 l2 s) (fun y => IL zl xl y.2) := by
  unfold k_X13_typeHere_89
  exact pc_bd (in_f_X13_next h_s) (fun r1 h_r1 => pc_if (fun _ => pc_if (fun _ => (in_k_X13_typeHere_116 h_r1)) (fun _ => pc_bd (in_f_X13_ranges h_r1) (fun r3 h_r3 => pc_some h_r3))) (fun _ => (in_k_X13_typeHere_116 h_r1)))
theorem in_k_X13_typeHere_69 {l1 : Int32} {k0 : Int32} {s : t_S} (h_s : IL zl xl s) : t_pq (k_X13_typeHere_69 l1 k0 s) (fun y => IL zl xl y.2) := by
  unfold k_X13_typeHere_69
  exact pc_bd (in_f_X13_node h_s) (fun r1 h_r1 => pc_if (fun _ => (in_k_X13_typeHere_89 h_r1)) (fun _ => pc_bd (in_f_X13_name h_r1) (fun r2 h_r2 => pc_if (fun z1 => in_st (IL.setJ h_r2) (fun s1 h_s1 => (in_k_X13_typeHere_89 h_s1))) (fun _ => pc_none))))
theorem in_k_X13_typeHere_53 {l1 : Int32} {s : t_S} (h_s : IL zl xl s) : t_pq (k_X13_typeHere_53 l1 s) (fun y => IL zl xl y.2) := by
  unfold k_X13_typeHere_53
  exact pc_if (fun _ => (in_k_X13_typeHere_69 h_s)) (fun _ => (in_k_X13_typeHere_69 h_s))
theorem in_k_X13_typeHere_17 {k0 : Int32} {s : t_S} (h_s : IL zl xl s) : t_pq (k_X13_typeHere_17 k0 s) (fun y => IL zl xl y.2) := by
  unfold k_X13_typeHere_17
  exact pc_if (fun _ => (in_k_X13_typeHere_42 h_s)) (fun _ => pc_if (fun _ => (in_k_X13_typeHere_53 h_s)) (fun _ => pc_if (fun _ => (in_k_X13_typeHere_42 h_s)) (fun _ => (in_k_X13_typeHere_53 h_s))))
theorem in_f_X13_typeHere {s : t_S} (h_s : IL zl xl s) : t_pq (f_X13_typeHere s) (fun y => IL zl xl y.2) := by
  unfold f_X13_typeHere
  exact pc_if (fun _ => (in_k_X13_typeHere_17 h_s)) (fun _ => (in_k_X13_typeHere_17 h_s))
theorem in_k_X13_type_183 {rc : RT_X13_fields} {l1 : Int32} {s : t_S} (hrc : INB_X13_fields zl xl rc) (h_s : IL zl xl s) : t_pq (k_X13_type_183 rc l1 s) (fun y => IL zl xl y.2) := by
  unfold k_X13_type_183
  exact in_st (IL.set h_s ⟨by decide, by decide, by decide, fun y => absurd y.2 (by decide)⟩) (fun s1 h_s1 => pc_some h_s1)
theorem in_k_X13_type_119 {rc : RT_X13_fields} {l1 : Int32} {s : t_S} (hrc : INB_X13_fields zl xl rc) (h_s : IL zl xl s) : t_pq (k_X13_type_119 rc l1 s) (fun y => IL zl xl y.2) := by
  unfold k_X13_type_119
  exact pc_bd (hrc.1 _ _ h_s) (fun r1 h_r1 => (in_k_X13_type_183 hrc h_r1))
theorem in_k_X13_mustWord_17 {s : t_S} (h_s : IL zl xl s) : t_pq (k_X13_mustWord_17 s) (fun y => IL zl xl y) := by
  unfold k_X13_mustWord_17
  exact pc_bd (in_f_X13_next h_s) (fun r1 h_r1 => pc_some h_r1)
theorem in_f_X13_mustWord {x1 : Int32} {s : t_S} (h_s : IL zl xl s) : t_pq (f_X13_mustWord x1 s) (fun y => IL zl xl y) := by
  unfold f_X13_mustWord
  exact pc_if (fun _ => pc_bd (in_f_X13_fail h_s) (fun r2 h_r2 => (in_k_X13_mustWord_17 h_r2))) (fun _ => (in_k_X13_mustWord_17 h_s))
theorem in_k_X13_type_168 {rc : RT_X13_fields} {l1 : Int32} {s : t_S} (hrc : INB_X13_fields zl xl rc) (h_s : IL zl xl s) : t_pq (k_X13_type_168 rc l1 s) (fun y => IL zl xl y.2) := by
  unfold k_X13_type_168
  exact pc_bd (in_f_X13_mustWord h_s) (fun r1 h_r1 => pc_bd (hrc.2 _ h_r1) (fun r2 h_r2 => pc_bd (in_f_X13_hang h_r2) (fun r3 h_r3 => (in_k_X13_type_183 hrc h_r3))))
theorem in_k_X13_type_107 {rc : RT_X13_fields} {l1 : Int32} {k0 : Int32} {s : t_S} (hrc : INB_X13_fields zl xl rc) (h_s : IL zl xl s) : t_pq (k_X13_type_107 rc l1 k0 s) (fun y => IL zl xl y.2) := by
  unfold k_X13_type_107
  exact pc_if (fun _ => (in_k_X13_type_119 hrc h_s)) (fun _ => pc_if (fun _ => (in_k_X13_type_119 hrc h_s)) (fun _ => pc_if (fun _ => pc_if (fun _ => pc_if (fun z1 => in_st (IL.setJ h_s) (fun s1 h_s1 => in_st (IL.setJ h_s1) (fun s2 h_s2 => (in_k_X13_type_168 hrc h_s2)))) (fun _ => pc_none)) (fun _ => pc_bd (in_f_X13_span h_s) (fun r3 h_r3 => (in_k_X13_type_168 hrc h_r3)))) (fun _ => (in_k_X13_type_183 hrc h_s))))
theorem in_k_X13_type_66 {rc : RT_X13_fields} {k0 : Int32} {s : t_S} (hrc : INB_X13_fields zl xl rc) (h_s : IL zl xl s) : t_pq (k_X13_type_66 rc k0 s) (fun y => IL zl xl y.2) := by
  unfold k_X13_type_66
  exact pc_bd (in_f_X13_fail h_s) (fun r1 h_r1 => pc_some h_r1)
theorem in_k_X13_type_55 {rc : RT_X13_fields} {k0 : Int32} {s : t_S} (hrc : INB_X13_fields zl xl rc) (h_s : IL zl xl s) : t_pq (k_X13_type_55 rc k0 s) (fun y => IL zl xl y.2) := by
  unfold k_X13_type_55
  exact pc_if (fun _ => (in_k_X13_type_66 hrc h_s)) (fun _ => (in_k_X13_type_66 hrc h_s))
theorem in_k_X13_type_50 {rc : RT_X13_fields} {s : t_S} (hrc : INB_X13_fields zl xl rc) (h_s : IL zl xl s) : t_pq (k_X13_type_50 rc s) (fun y => IL zl xl y.2) := by
  unfold k_X13_type_50
  exact (in_k_X13_type_55 hrc h_s)
theorem in_k_X13_type_54 {rc : RT_X13_fields} {s : t_S} (hrc : INB_X13_fields zl xl rc) (h_s : IL zl xl s) : t_pq (k_X13_type_54 rc s) (fun y => IL zl xl y.2) := by
  unfold k_X13_type_54
  exact (in_k_X13_type_55 hrc h_s)
theorem in_m_X13_type {rc : RT_X13_fields} {s : t_S} (hrc : INB_X13_fields zl xl rc) (h_s : IL zl xl s) : t_pq (m_X13_type rc s) (fun y => IL zl xl y.2) := by
  unfold m_X13_type
  exact pc_if (fun _ => pc_if (fun _ => in_st (IL.set h_s ⟨by decide, by decide, by decide, fun y => absurd y.2 (by decide)⟩) (fun s1 h_s1 => pc_bd (in_f_X13_typeHere h_s1) (fun r1 h_r1 => pc_if (fun _ => pc_if (fun z1 => (in_k_X13_type_107 hrc h_r1)) (fun _ => pc_none)) (fun _ => (in_k_X13_type_107 hrc h_r1))))) (fun _ => pc_if (fun _ => pc_if (fun _ => (in_k_X13_type_50 hrc h_s)) (fun _ => pc_if (fun _ => (in_k_X13_type_54 hrc h_s)) (fun _ => (in_k_X13_type_50 hrc h_s)))) (fun _ => (in_k_X13_type_54 hrc h_s)))) (fun _ => pc_some h_s)
theorem INB_X13_fields_R : ∀ n, INB_X13_fields zl xl (R_X13_fields n) := by
  intro n
  induction n with
  | zero => exact ⟨fun _ _ _ => pc_none, fun _ _ => pc_none⟩
  | succ n ih => exact ⟨fun _ _ h => in_m_X13_fields ih h, fun _ h => in_m_X13_type ih h⟩
theorem in_f_X13_type {s : t_S} (h_s : IL zl xl s) : t_pq (f_X13_type s) (fun y => IL zl xl y.2) := by
  unfold f_X13_type
  exact ((INB_X13_fields_R 100).2 _ h_s)
theorem in_k_X13_item_154 {s : t_S} (h_s : IL zl xl s) : t_pq (k_X13_item_154 s) (fun y => IL zl xl y) := by
  unfold k_X13_item_154
  exact pc_bd (in_f_X13_mustBe h_s) (fun r1 h_r1 => pc_some h_r1)
theorem in_k_X13_item_122 {l4 : Int32} {s : t_S} (h_s : IL zl xl s) : t_pq (k_X13_item_122 l4 s) (fun y => IL zl xl y) := by
  unfold k_X13_item_122
  exact pc_bd (in_f_X13_next h_s) (fun r1 h_r1 => pc_bd (in_f_X13_mustBe h_r1) (fun r2 h_r2 => pc_bd (in_f_X13_type h_r2) (fun r3 h_r3 => pc_if (fun _ => pc_if (fun z1 => in_st (IL.set h_r3 ⟨by decide, by decide, by decide, fun y => absurd y.1 (by decide)⟩) (fun s1 h_s1 => (in_k_X13_item_154 h_s1))) (fun _ => pc_none)) (fun _ => (in_k_X13_item_154 h_r3)))))
def INB_X13_base (zl xl : Nat) (rc : RT_X13_base) : Prop := (∀  (s : t_S), IL zl xl s → t_pq (rc.1  s) (fun y => IL zl xl y.2)) ∧ (∀  (s : t_S), IL zl xl s → t_pq (rc.2.1  s) (fun y => IL zl xl y.2)) ∧ (∀ (x0 : Int32) (s : t_S), IL zl xl s → t_pq (rc.2.2.1 x0 s) (fun y => IL zl xl y)) ∧ (∀ (x0 : Int32) (s : t_S), IL zl xl s → t_pq (rc.2.2.2.1 x0 s) (fun y => IL zl xl y)) ∧ (∀ (x0 : Int32) (s : t_S), IL zl xl s → t_pq (rc.2.2.2.2.1 x0 s) (fun y => IL zl xl y)) ∧ (∀ (x0 : Int32) (s : t_S), IL zl xl s → t_pq (rc.2.2.2.2.2.1 x0 s) (fun y => IL zl xl y.2)) ∧ (∀  (s : t_S), IL zl xl s → t_pq (rc.2.2.2.2.2.2.1  s) (fun y => IL zl xl y.2)) ∧ (∀  (s : t_S), IL zl xl s → t_pq (rc.2.2.2.2.2.2.2.1  s) (fun y => IL zl xl y.2)) ∧ (∀ (x0 : Int32) (x1 : Int32) (s : t_S), IL zl xl s → t_pq (rc.2.2.2.2.2.2.2.2.1 x0 x1 s) (fun y => IL zl xl y)) ∧ (∀  (s : t_S), IL zl xl s → t_pq (rc.2.2.2.2.2.2.2.2.2.1  s) (fun y => IL zl xl y.2)) ∧ (∀  (s : t_S), IL zl xl s → t_pq (rc.2.2.2.2.2.2.2.2.2.2.1  s) (fun y => IL zl xl y.2)) ∧ (∀  (s : t_S), IL zl xl s → t_pq (rc.2.2.2.2.2.2.2.2.2.2.2  s) (fun y => IL zl xl y.2))
theorem in_k_X13_base_72 {rc : RT_X13_base} {l1 : Int32} {s : t_S} (hrc : INB_X13_base zl xl rc) (h_s : IL zl xl s) : t_pq (k_X13_base_72 rc l1 s) (fun y => IL zl xl y.2) := by
  unfold k_X13_base_72
  exact pc_bd (in_f_X13_next h_s) (fun r1 h_r1 => pc_some h_r1)
theorem in_k_X13_keepText_24 {l2 : Int32} {s : t_S} (h_s : IL zl xl s) : t_pq (k_X13_keepText_24 l2 s) (fun z => Sum.elim (fun y => IL zl xl y.2) (fun y => IL zl xl y) z) := by
  unfold k_X13_keepText_24
  exact pc_if (fun _ => pc_mp (pc_some h_s)) (fun _ => pc_if (fun _ => pc_if (fun z1 => pc_if (fun z2 => in_st (IL.set h_s ⟨by decide, by decide, by decide, fun y => absurd y.1 (by decide)⟩) (fun s1 h_s1 => in_st (IL.set h_s1 ⟨by decide, by decide, by decide, fun y => absurd y.2 (by decide)⟩) (fun s2 h_s2 => pc_some h_s2))) (fun _ => pc_none)) (fun _ => pc_none)) (fun _ => pc_mp (pc_some h_s)))
theorem in_b_X13_keepText_24 {x : Int32 × t_S} (h : IL zl xl x.2) : t_pq (b_X13_keepText_24 x) (fun z => Sum.elim (fun y => IL zl xl y.2) (fun y => IL zl xl y) z) := in_k_X13_keepText_24 h
theorem in_f_X13_keepText {x1 : Int32} {s : t_S} (h_s : IL zl xl s) : t_pq (f_X13_keepText x1 s) (fun y => IL zl xl y) := by
  unfold f_X13_keepText
  exact pc_if (fun z1 => in_st (IL.setJ h_s) (fun s1 h_s1 => in_st (IL.setJ h_s1) (fun s2 h_s2 => pc_lp (fun x h => in_b_X13_keepText_24 h) h_s2))) (fun _ => pc_none)
theorem in_k_X13_base_41 {rc : RT_X13_base} {k0 : Int32} {s : t_S} (hrc : INB_X13_base zl xl rc) (h_s : IL zl xl s) : t_pq (k_X13_base_41 rc k0 s) (fun y => IL zl xl y.2) := by
  unfold k_X13_base_41
  exact pc_bd (in_f_X13_node h_s) (fun r1 h_r1 => pc_if (fun _ => pc_if (fun z1 => in_st (IL.setJ h_r1) (fun s1 h_s1 => (in_k_X13_base_72 hrc h_s1))) (fun _ => pc_none)) (fun _ => pc_bd (in_f_X13_keepText h_r1) (fun r2 h_r2 => (in_k_X13_base_72 hrc h_r2))))
theorem in_k_X13_base_25 {rc : RT_X13_base} {s : t_S} (hrc : INB_X13_base zl xl rc) (h_s : IL zl xl s) : t_pq (k_X13_base_25 rc s) (fun y => IL zl xl y.2) := by
  unfold k_X13_base_25
  exact pc_if (fun _ => (in_k_X13_base_41 hrc h_s)) (fun _ => (in_k_X13_base_41 hrc h_s))
theorem in_k_X13_base_212 {rc : RT_X13_base} {l2 : Int32} {s : t_S} (hrc : INB_X13_base zl xl rc) (h_s : IL zl xl s) : t_pq (k_X13_base_212 rc l2 s) (fun y => IL zl xl y.2) := by
  unfold k_X13_base_212
  exact pc_bd (in_f_X13_mustBe h_s) (fun r1 h_r1 => pc_some h_r1)
theorem in_k_X13_base_177 {rc : RT_X13_base} {l1 : Int32} {k0 : Int32} {s : t_S} (hrc : INB_X13_base zl xl rc) (h_s : IL zl xl s) : t_pq (k_X13_base_177 rc l1 k0 s) (fun y => IL zl xl y.2) := by
  unfold k_X13_base_177
  exact pc_bd (in_f_X13_node h_s) (fun r1 h_r1 => pc_bd (in_f_X13_next h_r1) (fun r2 h_r2 => pc_if (fun _ => pc_if (fun _ => pc_bd (hrc.2.2.1 _ _ h_r2) (fun r4 h_r4 => (in_k_X13_base_212 hrc h_r4))) (fun _ => (in_k_X13_base_212 hrc h_r2))) (fun _ => pc_bd (hrc.2.2.2.1 _ _ h_r2) (fun r5 h_r5 => pc_some h_r5))))
theorem in_k_X13_base_158 {rc : RT_X13_base} {s : t_S} (hrc : INB_X13_base zl xl rc) (h_s : IL zl xl s) : t_pq (k_X13_base_158 rc s) (fun y => IL zl xl y.2) := by
  unfold k_X13_base_158
  exact pc_if (fun _ => (in_k_X13_base_177 hrc h_s)) (fun _ => (in_k_X13_base_177 hrc h_s))
theorem in_m_X13_base {rc : RT_X13_base} {s : t_S} (hrc : INB_X13_base zl xl rc) (h_s : IL zl xl s) : t_pq (m_X13_base rc s) (fun y => IL zl xl y.2) := by
  unfold m_X13_base
  exact pc_if (fun _ => pc_if (fun _ => (in_k_X13_base_25 hrc h_s)) (fun _ => pc_if (fun _ => (in_k_X13_base_25 hrc h_s)) (fun _ => pc_if (fun _ => pc_bd (hrc.2.2.2.2.2.2.2.2.2.2.1 _ h_s) (fun r10 h_r10 => pc_some h_r10)) (fun _ => pc_if (fun _ => pc_if (fun _ => pc_if (fun _ => pc_bd (in_f_X13_fail h_s) (fun r4 h_r4 => pc_some h_r4)) (fun _ => (in_k_X13_base_158 hrc h_s))) (fun _ => (in_k_X13_base_158 hrc h_s))) (fun _ => pc_bd (in_f_X13_node h_s) (fun r5 h_r5 => pc_bd (in_f_X13_next h_r5) (fun r6 h_r6 => pc_bd (hrc.2.1 _ h_r6) (fun r7 h_r7 => pc_bd (in_f_X13_hang h_r7) (fun r8 h_r8 => pc_bd (in_f_X13_mustBe h_r8) (fun r9 h_r9 => pc_some h_r9)))))))))) (fun _ => pc_some h_s)
theorem in_k_X13_exp_38 {rc : RT_X13_base} {k0 : Int32} {s : t_S} (hrc : INB_X13_base zl xl rc) (h_s : IL zl xl s) : t_pq (k_X13_exp_38 rc k0 s) (fun y => IL zl xl y.2) := by
  unfold k_X13_exp_38
  exact pc_bd (in_f_X13_fail h_s) (fun r1 h_r1 => pc_some h_r1)
theorem in_k_X13_exp_25 {rc : RT_X13_base} {s : t_S} (hrc : INB_X13_base zl xl rc) (h_s : IL zl xl s) : t_pq (k_X13_exp_25 rc s) (fun y => IL zl xl y.2) := by
  unfold k_X13_exp_25
  exact pc_if (fun _ => (in_k_X13_exp_38 hrc h_s)) (fun _ => (in_k_X13_exp_38 hrc h_s))
theorem in_m_X13_exp {rc : RT_X13_base} {s : t_S} (hrc : INB_X13_base zl xl rc) (h_s : IL zl xl s) : t_pq (m_X13_exp rc s) (fun y => IL zl xl y.2) := by
  unfold m_X13_exp
  exact pc_if (fun _ => pc_if (fun _ => (in_k_X13_exp_25 hrc h_s)) (fun _ => pc_if (fun _ => (in_k_X13_exp_25 hrc h_s)) (fun _ => in_st (IL.set h_s ⟨by decide, by decide, by decide, fun y => absurd y.2 (by decide)⟩) (fun s1 h_s1 => pc_bd (hrc.2.2.2.2.2.1 _ _ h_s1) (fun r2 h_r2 => in_st (IL.set h_r2 ⟨by decide, by decide, by decide, fun y => absurd y.2 (by decide)⟩) (fun s2 h_s2 => pc_some h_s2)))))) (fun _ => pc_some h_s)
theorem in_k_X13_exps_41 {rc : RT_X13_base} {l1 : Int32} {l3 : Int32} {s : t_S} (hrc : INB_X13_base zl xl rc) (h_s : IL zl xl s) : t_pq (k_X13_exps_41 rc l1 l3 s) (fun z => Sum.elim (fun y => IL zl xl y.2.2.2) (fun y => IL zl xl y) z) := by
  unfold k_X13_exps_41
  exact pc_bd (hrc.2.1 _ h_s) (fun r1 h_r1 => pc_bd (in_f_X13_hang h_r1) (fun r2 h_r2 => pc_if (fun _ => pc_some h_r2) (fun _ => pc_bd (in_f_X13_next h_r2) (fun r4 h_r4 => pc_some h_r4))))
theorem in_k_X13_exps_34 {rc : RT_X13_base} {l1 : Int32} {l3 : Int32} {k0 : Int32} {s : t_S} (hrc : INB_X13_base zl xl rc) (h_s : IL zl xl s) : t_pq (k_X13_exps_34 rc l1 l3 k0 s) (fun z => Sum.elim (fun y => IL zl xl y.2.2.2) (fun y => IL zl xl y) z) := by
  unfold k_X13_exps_34
  exact pc_bd (in_f_X13_fail h_s) (fun r1 h_r1 => (in_k_X13_exps_41 hrc h_r1))
theorem in_k_X13_exps_4 {rc : RT_X13_base} {l1 : Int32} {l2 : Int32} {l3 : Int32} {s : t_S} (hrc : INB_X13_base zl xl rc) (h_s : IL zl xl s) : t_pq (k_X13_exps_4 rc l1 l2 l3 s) (fun z => Sum.elim (fun y => IL zl xl y.2.2.2) (fun y => IL zl xl y) z) := by
  unfold k_X13_exps_4
  exact pc_if (fun _ => pc_mp (pc_some h_s)) (fun _ => pc_if (fun _ => pc_if (fun _ => pc_if (fun _ => (in_k_X13_exps_34 hrc h_s)) (fun _ => (in_k_X13_exps_34 hrc h_s))) (fun _ => (in_k_X13_exps_41 hrc h_s))) (fun _ => pc_mp (pc_some h_s)))
theorem in_b_X13_exps_4 {rc : RT_X13_base} {x : Int32 × Int32 × Int32 × t_S} (hrc : INB_X13_base zl xl rc) (h : IL zl xl x.2.2.2) : t_pq (b_X13_exps_4 rc x) (fun z => Sum.elim (fun y => IL zl xl y.2.2.2) (fun y => IL zl xl y) z) := in_k_X13_exps_4 hrc h
theorem in_m_X13_exps {rc : RT_X13_base} {x2 : Int32} {s : t_S} (hrc : INB_X13_base zl xl rc) (h_s : IL zl xl s) : t_pq (m_X13_exps rc x2 s) (fun y => IL zl xl y) := by
  unfold m_X13_exps
  exact pc_lp (fun x h => in_b_X13_exps_4 hrc h) h_s
theorem in_k_X13_fieldExps_69 {rc : RT_X13_base} {s : t_S} (hrc : INB_X13_base zl xl rc) (h_s : IL zl xl s) : t_pq (k_X13_fieldExps_69 rc s) (fun y => IL zl xl y) := by
  unfold k_X13_fieldExps_69
  exact pc_bd (in_f_X13_mustBe h_s) (fun r1 h_r1 => pc_some h_r1)
theorem in_k_X13_fieldHere_48 {l1 : Int32} {l3 : Int32} {l4 : Int32} {s : t_S} (h_s : IL zl xl s) : t_pq (k_X13_fieldHere_48 l1 l3 l4 s) (fun y => IL zl xl y.2) := by
  unfold k_X13_fieldHere_48
  exact pc_bd (in_f_X13_node h_s) (fun r1 h_r1 => pc_if (fun z1 => in_st (IL.setJ h_r1) (fun s1 h_s1 => in_st (IL.set h_s1 ⟨by decide, by decide, by decide, fun y => absurd y.1 (by decide)⟩) (fun s2 h_s2 => pc_bd (in_f_X13_hang h_s2) (fun r3 h_r3 => pc_bd (in_f_X13_next h_r3) (fun r4 h_r4 => pc_bd (in_f_X13_mustBe h_r4) (fun r5 h_r5 => pc_some h_r5)))))) (fun _ => pc_none))
theorem in_k_X13_fieldHere_33 {l1 : Int32} {l2 : Int32} {l3 : Int32} {l4 : Int32} {s : t_S} (h_s : IL zl xl s) : t_pq (k_X13_fieldHere_33 l1 l2 l3 l4 s) (fun y => IL zl xl y.2) := by
  unfold k_X13_fieldHere_33
  exact pc_if (fun _ => pc_bd (in_f_X13_fail h_s) (fun r1 h_r1 => (in_k_X13_fieldHere_48 h_r1))) (fun _ => (in_k_X13_fieldHere_48 h_s))
theorem in_f_X13_fieldHere {x1 : Int32} {x2 : Int32} {x3 : Int32} {s : t_S} (h_s : IL zl xl s) : t_pq (f_X13_fieldHere x1 x2 x3 s) (fun y => IL zl xl y.2) := by
  unfold f_X13_fieldHere
  exact pc_bd (in_f_X13_freeName h_s) (fun r1 h_r1 => pc_if (fun _ => pc_bd pc_any (fun r2 h_r2 => pc_if (fun _ => (in_k_X13_fieldHere_33 h_r1)) (fun _ => pc_bd (in_f_X13_fail h_r1) (fun r3 h_r3 => (in_k_X13_fieldHere_33 h_r3))))) (fun _ => (in_k_X13_fieldHere_33 h_r1)))
theorem in_k_X13_fieldExps_17 {rc : RT_X13_base} {l1 : Int32} {l2 : Int32} {l3 : Int32} {s : t_S} (hrc : INB_X13_base zl xl rc) (h_s : IL zl xl s) : t_pq (k_X13_fieldExps_17 rc l1 l2 l3 s) (fun z => Sum.elim (fun y => IL zl xl y.2.2.2) (fun y => IL zl xl y) z) := by
  unfold k_X13_fieldExps_17
  exact pc_if (fun _ => pc_mp ((in_k_X13_fieldExps_69 hrc h_s))) (fun _ => pc_if (fun _ => pc_bd (in_f_X13_fieldHere h_s) (fun r1 h_r1 => pc_bd (hrc.2.1 _ h_r1) (fun r2 h_r2 => pc_bd (in_f_X13_hang h_r2) (fun r3 h_r3 => pc_if (fun _ => pc_some h_r3) (fun _ => pc_bd (in_f_X13_next h_r3) (fun r5 h_r5 => pc_some h_r5)))))) (fun _ => pc_mp ((in_k_X13_fieldExps_69 hrc h_s))))
theorem in_b_X13_fieldExps_17 {rc : RT_X13_base} {x : Int32 × Int32 × Int32 × t_S} (hrc : INB_X13_base zl xl rc) (h : IL zl xl x.2.2.2) : t_pq (b_X13_fieldExps_17 rc x) (fun z => Sum.elim (fun y => IL zl xl y.2.2.2) (fun y => IL zl xl y) z) := in_k_X13_fieldExps_17 hrc h
theorem in_k_X13_fieldExps_14 {rc : RT_X13_base} {l1 : Int32} {k0 : Int32} {s : t_S} (hrc : INB_X13_base zl xl rc) (h_s : IL zl xl s) : t_pq (k_X13_fieldExps_14 rc l1 k0 s) (fun y => IL zl xl y) := by
  unfold k_X13_fieldExps_14
  exact pc_lp (fun x h => in_b_X13_fieldExps_17 hrc h) h_s
theorem in_m_X13_fieldExps {rc : RT_X13_base} {x2 : Int32} {s : t_S} (hrc : INB_X13_base zl xl rc) (h_s : IL zl xl s) : t_pq (m_X13_fieldExps rc x2 s) (fun y => IL zl xl y) := by
  unfold m_X13_fieldExps
  exact pc_if (fun _ => (in_k_X13_fieldExps_14 hrc h_s)) (fun _ => (in_k_X13_fieldExps_14 hrc h_s))
theorem in_k_X13_fieldTempls_69 {rc : RT_X13_base} {s : t_S} (hrc : INB_X13_base zl xl rc) (h_s : IL zl xl s) : t_pq (k_X13_fieldTempls_69 rc s) (fun y => IL zl xl y) := by
  unfold k_X13_fieldTempls_69
  exact pc_bd (in_f_X13_mustBe h_s) (fun r1 h_r1 => pc_some h_r1)
theorem in_k_X13_fieldTempls_17 {rc : RT_X13_base} {l1 : Int32} {l2 : Int32} {l3 : Int32} {s : t_S} (hrc : INB_X13_base zl xl rc) (h_s : IL zl xl s) : t_pq (k_X13_fieldTempls_17 rc l1 l2 l3 s) (fun z => Sum.elim (fun y => IL zl xl y.2.2.2) (fun y => IL zl xl y) z) := by
  unfold k_X13_fieldTempls_17
  exact pc_if (fun _ => pc_mp ((in_k_X13_fieldTempls_69 hrc h_s))) (fun _ => pc_if (fun _ => pc_bd (in_f_X13_fieldHere h_s) (fun r1 h_r1 => pc_bd (hrc.2.2.2.2.2.2.2.1 _ h_r1) (fun r2 h_r2 => pc_bd (in_f_X13_hang h_r2) (fun r3 h_r3 => pc_if (fun _ => pc_some h_r3) (fun _ => pc_bd (in_f_X13_next h_r3) (fun r5 h_r5 => pc_some h_r5)))))) (fun _ => pc_mp ((in_k_X13_fieldTempls_69 hrc h_s))))
theorem in_b_X13_fieldTempls_17 {rc : RT_X13_base} {x : Int32 × Int32 × Int32 × t_S} (hrc : INB_X13_base zl xl rc) (h : IL zl xl x.2.2.2) : t_pq (b_X13_fieldTempls_17 rc x) (fun z => Sum.elim (fun y => IL zl xl y.2.2.2) (fun y => IL zl xl y) z) := in_k_X13_fieldTempls_17 hrc h
theorem in_k_X13_fieldTempls_14 {rc : RT_X13_base} {l1 : Int32} {k0 : Int32} {s : t_S} (hrc : INB_X13_base zl xl rc) (h_s : IL zl xl s) : t_pq (k_X13_fieldTempls_14 rc l1 k0 s) (fun y => IL zl xl y) := by
  unfold k_X13_fieldTempls_14
  exact pc_lp (fun x h => in_b_X13_fieldTempls_17 hrc h) h_s
theorem in_m_X13_fieldTempls {rc : RT_X13_base} {x2 : Int32} {s : t_S} (hrc : INB_X13_base zl xl rc) (h_s : IL zl xl s) : t_pq (m_X13_fieldTempls rc x2 s) (fun y => IL zl xl y) := by
  unfold m_X13_fieldTempls
  exact pc_if (fun _ => (in_k_X13_fieldTempls_14 hrc h_s)) (fun _ => (in_k_X13_fieldTempls_14 hrc h_s))
theorem in_k_X13_level_110 {rc : RT_X13_base} {l1 : Int32} {l2 : Int32} {k0 : Int32} {s : t_S} (hrc : INB_X13_base zl xl rc) (h_s : IL zl xl s) : t_pq (k_X13_level_110 rc l1 l2 k0 s) (fun z => Sum.elim (fun y => IL zl xl y.2.2.2) (fun y => IL zl xl y.2) z) := by
  unfold k_X13_level_110
  exact pc_some h_s
theorem in_k_X13_level_109 {rc : RT_X13_base} {l1 : Int32} {l2 : Int32} {s : t_S} (hrc : INB_X13_base zl xl rc) (h_s : IL zl xl s) : t_pq (k_X13_level_109 rc l1 l2 s) (fun z => Sum.elim (fun y => IL zl xl y.2.2.2) (fun y => IL zl xl y.2) z) := by
  unfold k_X13_level_109
  exact (in_k_X13_level_110 hrc h_s)
theorem in_k_X13_level_33 {rc : RT_X13_base} {l1 : Int32} {l2 : Int32} {l3 : Int32} {s : t_S} (hrc : INB_X13_base zl xl rc) (h_s : IL zl xl s) : t_pq (k_X13_level_33 rc l1 l2 l3 s) (fun z => Sum.elim (fun y => IL zl xl y.2.2.2) (fun y => IL zl xl y.2) z) := by
  unfold k_X13_level_33
  exact pc_if (fun _ => pc_mp (pc_some h_s)) (fun _ => pc_if (fun _ => pc_bd (in_f_X13_node h_s) (fun r1 h_r1 => pc_if (fun z1 => in_st (IL.setJ h_r1) (fun s1 h_s1 => pc_bd (in_f_X13_next h_s1) (fun r3 h_r3 => pc_bd (in_f_X13_hang h_r3) (fun r4 h_r4 => pc_bd (hrc.2.2.2.2.2.1 _ _ h_r4) (fun r5 h_r5 => pc_bd (in_f_X13_hang h_r5) (fun r6 h_r6 => pc_if (fun _ => (in_k_X13_level_109 hrc h_r6)) (fun _ => pc_if (fun _ => (in_k_X13_level_109 hrc h_r6)) (fun _ => (in_k_X13_level_110 hrc h_r6))))))))) (fun _ => pc_none))) (fun _ => pc_mp (pc_some h_s)))
theorem in_b_X13_level_33 {rc : RT_X13_base} {x : Int32 × Int32 × Int32 × t_S} (hrc : INB_X13_base zl xl rc) (h : IL zl xl x.2.2.2) : t_pq (b_X13_level_33 rc x) (fun z => Sum.elim (fun y => IL zl xl y.2.2.2) (fun y => IL zl xl y.2) z) := in_k_X13_level_33 hrc h
theorem in_m_X13_level {rc : RT_X13_base} {x2 : Int32} {s : t_S} (hrc : INB_X13_base zl xl rc) (h_s : IL zl xl s) : t_pq (m_X13_level rc x2 s) (fun y => IL zl xl y.2) := by
  unfold m_X13_level
  exact pc_if (fun _ => pc_if (fun _ => pc_bd (hrc.2.2.2.2.2.2.1 _ h_s) (fun r3 h_r3 => pc_some h_r3)) (fun _ => pc_bd (hrc.2.2.2.2.2.1 _ _ h_s) (fun r1 h_r1 => pc_lp (fun x h => in_b_X13_level_33 hrc h) h_r1))) (fun _ => pc_some h_s)
theorem in_k_X13_single_307 {rc : RT_X13_base} {l1 : Int32} {l4 : Int32} {s : t_S} (hrc : INB_X13_base zl xl rc) (h_s : IL zl xl s) : t_pq (k_X13_single_307 rc l1 l4 s) (fun y => IL zl xl y.2) := by
  unfold k_X13_single_307
  exact pc_if (fun _ => pc_some h_s) (fun _ => pc_some h_s)
theorem in_k_X13_single_295 {rc : RT_X13_base} {l1 : Int32} {l2 : Int32} {l4 : Int32} {s : t_S} (hrc : INB_X13_base zl xl rc) (h_s : IL zl xl s) : t_pq (k_X13_single_295 rc l1 l2 l4 s) (fun y => IL zl xl y.2) := by
  unfold k_X13_single_295
  exact pc_if (fun _ => (in_k_X13_single_307 hrc h_s)) (fun _ => pc_if (fun z1 => in_st (IL.set h_s ⟨by decide, by decide, by decide, fun y => absurd y.1 (by decide)⟩) (fun s1 h_s1 => (in_k_X13_single_307 hrc h_s1))) (fun _ => pc_none))
theorem in_k_X13_single_288 {rc : RT_X13_base} {l1 : Int32} {l2 : Int32} {l6 : Int32} {s : t_S} (hrc : INB_X13_base zl xl rc) (h_s : IL zl xl s) : t_pq (k_X13_single_288 rc l1 l2 l6 s) (fun z => Sum.elim (fun y => IL zl xl y.2.2.2) (fun y => IL zl xl y.2) z) := by
  unfold k_X13_single_288
  exact pc_some h_s
theorem in_k_X13_single_219 {rc : RT_X13_base} {l1 : Int32} {l2 : Int32} {l4 : Int32} {l5 : Int32} {k0 : Int32} {s : t_S} (hrc : INB_X13_base zl xl rc) (h_s : IL zl xl s) : t_pq (k_X13_single_219 rc l1 l2 l4 l5 k0 s) (fun z => Sum.elim (fun y => IL zl xl y.2.2.2) (fun y => IL zl xl y.2) z) := by
  unfold k_X13_single_219
  exact pc_bd (in_f_X13_node h_s) (fun r1 h_r1 => pc_bd (in_f_X13_next h_r1) (fun r2 h_r2 => pc_bd (in_f_X13_hang h_r2) (fun r3 h_r3 => pc_if (fun _ => pc_bd (hrc.2.1 _ h_r3) (fun r4 h_r4 => pc_bd (in_f_X13_hang h_r4) (fun r5 h_r5 => pc_bd (in_f_X13_mustBe h_r5) (fun r6 h_r6 => (in_k_X13_single_288 hrc h_r6))))) (fun _ => pc_if (fun z1 => in_st (IL.set h_r3 ⟨by decide, by decide, by decide, fun y => absurd y.1 (by decide)⟩) (fun s1 h_s1 => pc_bd (in_f_X13_freeName h_s1) (fun r8 h_r8 => in_st (IL.setJ h_r8) (fun s2 h_s2 => pc_bd (in_f_X13_next h_s2) (fun r9 h_r9 => (in_k_X13_single_288 hrc h_r9)))))) (fun _ => pc_none)))))
theorem in_k_X13_single_198 {rc : RT_X13_base} {l1 : Int32} {l2 : Int32} {l4 : Int32} {s : t_S} (hrc : INB_X13_base zl xl rc) (h_s : IL zl xl s) : t_pq (k_X13_single_198 rc l1 l2 l4 s) (fun z => Sum.elim (fun y => IL zl xl y.2.2.2) (fun y => IL zl xl y.2) z) := by
  unfold k_X13_single_198
  exact pc_if (fun _ => (in_k_X13_single_219 hrc h_s)) (fun _ => (in_k_X13_single_219 hrc h_s))
theorem in_k_X13_single_173 {rc : RT_X13_base} {l1 : Int32} {l2 : Int32} {l4 : Int32} {s : t_S} (hrc : INB_X13_base zl xl rc) (h_s : IL zl xl s) : t_pq (k_X13_single_173 rc l1 l2 l4 s) (fun z => Sum.elim (fun y => IL zl xl y.2.2.2) (fun y => IL zl xl y.2) z) := by
  unfold k_X13_single_173
  exact pc_if (fun _ => pc_if (fun _ => pc_if (fun _ => pc_mp ((in_k_X13_single_295 hrc h_s))) (fun _ => (in_k_X13_single_198 hrc h_s))) (fun _ => (in_k_X13_single_198 hrc h_s))) (fun _ => pc_mp ((in_k_X13_single_295 hrc h_s)))
theorem in_b_X13_single_173 {rc : RT_X13_base} {x : Int32 × Int32 × Int32 × t_S} (hrc : INB_X13_base zl xl rc) (h : IL zl xl x.2.2.2) : t_pq (b_X13_single_173 rc x) (fun z => Sum.elim (fun y => IL zl xl y.2.2.2) (fun y => IL zl xl y.2) z) := in_k_X13_single_173 hrc h
theorem in_k_X13_single_167 {rc : RT_X13_base} {l1 : Int32} {l2 : Int32} {s : t_S} (hrc : INB_X13_base zl xl rc) (h_s : IL zl xl s) : t_pq (k_X13_single_167 rc l1 l2 s) (fun y => IL zl xl y.2) := by
  unfold k_X13_single_167
  exact pc_bd (hrc.1 _ h_s) (fun r1 h_r1 => pc_lp (fun x h => in_b_X13_single_173 hrc h) h_r1)
theorem in_k_X13_single_160 {rc : RT_X13_base} {l3 : Int32} {l5 : Int32} {k0 : Int32} {s : t_S} (hrc : INB_X13_base zl xl rc) (h_s : IL zl xl s) : t_pq (k_X13_single_160 rc l3 l5 k0 s) (fun z => Sum.elim (fun y => IL zl xl y.2.2.2) (fun y => IL zl xl y.2) z) := by
  unfold k_X13_single_160
  exact pc_some h_s
theorem in_k_X13_single_150 {rc : RT_X13_base} {l1 : Int32} {l3 : Int32} {l5 : Int32} {s : t_S} (hrc : INB_X13_base zl xl rc) (h_s : IL zl xl s) : t_pq (k_X13_single_150 rc l1 l3 l5 s) (fun z => Sum.elim (fun y => IL zl xl y.2.2.2) (fun y => IL zl xl y.2) z) := by
  unfold k_X13_single_150
  exact pc_if (fun _ => (in_k_X13_single_160 hrc h_s)) (fun _ => (in_k_X13_single_160 hrc h_s))
theorem in_k_X13_single_138 {rc : RT_X13_base} {l1 : Int32} {l2 : Int32} {l3 : Int32} {l5 : Int32} {s : t_S} (hrc : INB_X13_base zl xl rc) (h_s : IL zl xl s) : t_pq (k_X13_single_138 rc l1 l2 l3 l5 s) (fun z => Sum.elim (fun y => IL zl xl y.2.2.2) (fun y => IL zl xl y.2) z) := by
  unfold k_X13_single_138
  exact pc_if (fun _ => (in_k_X13_single_150 hrc h_s)) (fun _ => pc_if (fun z1 => in_st (IL.set h_s ⟨by decide, by decide, by decide, fun y => absurd y.1 (by decide)⟩) (fun s1 h_s1 => (in_k_X13_single_150 hrc h_s1))) (fun _ => pc_none))
theorem in_k_X13_single_86 {rc : RT_X13_base} {l1 : Int32} {l2 : Int32} {l4 : Int32} {k0 : Int32} {s : t_S} (hrc : INB_X13_base zl xl rc) (h_s : IL zl xl s) : t_pq (k_X13_single_86 rc l1 l2 l4 k0 s) (fun z => Sum.elim (fun y => IL zl xl y.2.2.2) (fun y => IL zl xl y.2) z) := by
  unfold k_X13_single_86
  exact pc_if (fun _ => pc_some h_s) (fun _ => pc_bd (in_f_X13_node h_s) (fun r1 h_r1 => pc_bd (in_f_X13_next h_r1) (fun r2 h_r2 => pc_if (fun _ => pc_if (fun z1 => in_st (IL.set h_r2 ⟨by decide, by decide, by decide, fun y => absurd y.1 (by decide)⟩) (fun s1 h_s1 => pc_bd (in_f_X13_freeName h_s1) (fun r4 h_r4 => in_st (IL.setJ h_r4) (fun s2 h_s2 => pc_bd (in_f_X13_next h_s2) (fun r5 h_r5 => (in_k_X13_single_138 hrc h_r5)))))) (fun _ => pc_none)) (fun _ => (in_k_X13_single_138 hrc h_r2)))))
theorem in_k_X13_single_74 {rc : RT_X13_base} {l1 : Int32} {l2 : Int32} {k0 : Int32} {s : t_S} (hrc : INB_X13_base zl xl rc) (h_s : IL zl xl s) : t_pq (k_X13_single_74 rc l1 l2 k0 s) (fun z => Sum.elim (fun y => IL zl xl y.2.2.2) (fun y => IL zl xl y.2) z) := by
  unfold k_X13_single_74
  exact pc_if (fun _ => (in_k_X13_single_86 hrc h_s)) (fun _ => (in_k_X13_single_86 hrc h_s))
theorem in_k_X13_single_6 {rc : RT_X13_base} {l1 : Int32} {l2 : Int32} {l3 : Int32} {s : t_S} (hrc : INB_X13_base zl xl rc) (h_s : IL zl xl s) : t_pq (k_X13_single_6 rc l1 l2 l3 s) (fun z => Sum.elim (fun y => IL zl xl y.2.2.2) (fun y => IL zl xl y.2) z) := by
  unfold k_X13_single_6
  exact pc_if (fun _ => pc_mp ((in_k_X13_single_167 hrc h_s))) (fun _ => pc_if (fun _ => pc_if (fun _ => pc_if (fun _ => pc_if (fun _ => pc_if (fun _ => (in_k_X13_single_74 hrc h_s)) (fun _ => (in_k_X13_single_74 hrc h_s))) (fun _ => (in_k_X13_single_74 hrc h_s))) (fun _ => (in_k_X13_single_74 hrc h_s))) (fun _ => (in_k_X13_single_74 hrc h_s))) (fun _ => pc_mp ((in_k_X13_single_167 hrc h_s))))
theorem in_b_X13_single_6 {rc : RT_X13_base} {x : Int32 × Int32 × Int32 × t_S} (hrc : INB_X13_base zl xl rc) (h : IL zl xl x.2.2.2) : t_pq (b_X13_single_6 rc x) (fun z => Sum.elim (fun y => IL zl xl y.2.2.2) (fun y => IL zl xl y.2) z) := in_k_X13_single_6 hrc h
theorem in_m_X13_single {rc : RT_X13_base} {s : t_S} (hrc : INB_X13_base zl xl rc) (h_s : IL zl xl s) : t_pq (m_X13_single rc s) (fun y => IL zl xl y.2) := by
  unfold m_X13_single
  exact pc_lp (fun x h => in_b_X13_single_6 hrc h) h_s
theorem in_k_X13_templ_38 {rc : RT_X13_base} {k0 : Int32} {s : t_S} (hrc : INB_X13_base zl xl rc) (h_s : IL zl xl s) : t_pq (k_X13_templ_38 rc k0 s) (fun y => IL zl xl y.2) := by
  unfold k_X13_templ_38
  exact pc_bd (in_f_X13_fail h_s) (fun r1 h_r1 => pc_some h_r1)
theorem in_k_X13_templ_25 {rc : RT_X13_base} {s : t_S} (hrc : INB_X13_base zl xl rc) (h_s : IL zl xl s) : t_pq (k_X13_templ_25 rc s) (fun y => IL zl xl y.2) := by
  unfold k_X13_templ_25
  exact pc_if (fun _ => (in_k_X13_templ_38 hrc h_s)) (fun _ => (in_k_X13_templ_38 hrc h_s))
theorem in_k_X13_templ_149 {rc : RT_X13_base} {l1 : Int32} {s : t_S} (hrc : INB_X13_base zl xl rc) (h_s : IL zl xl s) : t_pq (k_X13_templ_149 rc l1 s) (fun y => IL zl xl y.2) := by
  unfold k_X13_templ_149
  exact in_st (IL.set h_s ⟨by decide, by decide, by decide, fun y => absurd y.2 (by decide)⟩) (fun s1 h_s1 => pc_some h_s1)
theorem in_k_X13_templ_129 {rc : RT_X13_base} {l1 : Int32} {s : t_S} (hrc : INB_X13_base zl xl rc) (h_s : IL zl xl s) : t_pq (k_X13_templ_129 rc l1 s) (fun y => IL zl xl y.2) := by
  unfold k_X13_templ_129
  exact pc_if (fun _ => (in_k_X13_templ_149 hrc h_s)) (fun _ => pc_bd (in_f_X13_next h_s) (fun r2 h_r2 => pc_if (fun z1 => in_st (IL.set h_r2 ⟨by decide, by decide, by decide, fun y => absurd y.1 (by decide)⟩) (fun s1 h_s1 => (in_k_X13_templ_149 hrc h_s1))) (fun _ => pc_none)))
theorem in_k_X13_templ_101 {rc : RT_X13_base} {l1 : Int32} {l2 : Int32} {s : t_S} (hrc : INB_X13_base zl xl rc) (h_s : IL zl xl s) : t_pq (k_X13_templ_101 rc l1 l2 s) (fun y => IL zl xl y.2) := by
  unfold k_X13_templ_101
  exact pc_bd (in_f_X13_span h_s) (fun r1 h_r1 => pc_if (fun z1 => in_st (IL.set h_r1 ⟨by decide, by decide, by decide, fun y => absurd y.1 (by decide)⟩) (fun s1 h_s1 => pc_if (fun z2 => in_st (IL.set h_s1 ⟨by decide, by decide, by decide, fun y => absurd y.1 (by decide)⟩) (fun s2 h_s2 => (in_k_X13_templ_129 hrc h_s2))) (fun _ => pc_none))) (fun _ => pc_none))
theorem in_m_X13_templ {rc : RT_X13_base} {s : t_S} (hrc : INB_X13_base zl xl rc) (h_s : IL zl xl s) : t_pq (m_X13_templ rc s) (fun y => IL zl xl y.2) := by
  unfold m_X13_templ
  exact pc_if (fun _ => pc_if (fun _ => (in_k_X13_templ_25 hrc h_s)) (fun _ => pc_if (fun _ => (in_k_X13_templ_25 hrc h_s)) (fun _ => in_st (IL.set h_s ⟨by decide, by decide, by decide, fun y => absurd y.2 (by decide)⟩) (fun s1 h_s1 => pc_bd (hrc.2.2.2.2.2.2.2.2.2.1 _ h_s1) (fun r2 h_r2 => pc_if (fun _ => (in_k_X13_templ_129 hrc h_r2)) (fun _ => pc_bd (in_f_X13_next h_r2) (fun r4 h_r4 => pc_bd (in_f_X13_node h_r4) (fun r5 h_r5 => pc_if (fun _ => pc_bd (in_f_X13_fail h_r5) (fun r7 h_r7 => (in_k_X13_templ_101 hrc h_r7))) (fun _ => (in_k_X13_templ_101 hrc h_r5)))))))))) (fun _ => pc_some h_s)
theorem in_k_X13_templs_124 {rc : RT_X13_base} {l1 : Int32} {l2 : Int32} {l4 : Int32} {s : t_S} (hrc : INB_X13_base zl xl rc) (h_s : IL zl xl s) : t_pq (k_X13_templs_124 rc l1 l2 l4 s) (fun z => Sum.elim (fun y => IL zl xl y.2.2.2.2) (fun y => IL zl xl y) z) := by
  unfold k_X13_templs_124
  exact pc_if (fun _ => pc_some h_s) (fun _ => pc_bd (in_f_X13_next h_s) (fun r2 h_r2 => pc_some h_r2))
theorem in_k_X13_templs_68 {rc : RT_X13_base} {l1 : Int32} {l2 : Int32} {l4 : Int32} {l5 : Int32} {s : t_S} (hrc : INB_X13_base zl xl rc) (h_s : IL zl xl s) : t_pq (k_X13_templs_68 rc l1 l2 l4 l5 s) (fun z => Sum.elim (fun y => IL zl xl y.2.2.2.2) (fun y => IL zl xl y) z) := by
  unfold k_X13_templs_68
  exact pc_if (fun _ => pc_bd (hrc.2.2.2.2.2.2.2.1 _ h_s) (fun r1 h_r1 => pc_bd (in_f_X13_hang h_r1) (fun r2 h_r2 => (in_k_X13_templs_124 hrc h_r2)))) (fun _ => pc_bd (in_f_X13_node h_s) (fun r3 h_r3 => pc_bd (in_f_X13_next h_r3) (fun r4 h_r4 => pc_bd (in_f_X13_mustBe h_r4) (fun r5 h_r5 => pc_bd (hrc.2.2.2.2.2.2.2.2.1 _ _ _ h_r5) (fun r6 h_r6 => pc_bd (in_f_X13_mustBe h_r6) (fun r7 h_r7 => pc_bd (in_f_X13_hang h_r7) (fun r8 h_r8 => (in_k_X13_templs_124 hrc h_r8))))))))
theorem in_k_X13_templs_61 {rc : RT_X13_base} {l1 : Int32} {l2 : Int32} {l4 : Int32} {l5 : Int32} {k0 : Int32} {s : t_S} (hrc : INB_X13_base zl xl rc) (h_s : IL zl xl s) : t_pq (k_X13_templs_61 rc l1 l2 l4 l5 k0 s) (fun z => Sum.elim (fun y => IL zl xl y.2.2.2.2) (fun y => IL zl xl y) z) := by
  unfold k_X13_templs_61
  exact pc_bd (in_f_X13_fail h_s) (fun r1 h_r1 => (in_k_X13_templs_68 hrc h_r1))
theorem in_k_X13_templs_56 {rc : RT_X13_base} {l1 : Int32} {l2 : Int32} {l4 : Int32} {l5 : Int32} {s : t_S} (hrc : INB_X13_base zl xl rc) (h_s : IL zl xl s) : t_pq (k_X13_templs_56 rc l1 l2 l4 l5 s) (fun z => Sum.elim (fun y => IL zl xl y.2.2.2.2) (fun y => IL zl xl y) z) := by
  unfold k_X13_templs_56
  exact (in_k_X13_templs_61 hrc h_s)
theorem in_k_X13_templs_34 {rc : RT_X13_base} {l1 : Int32} {l2 : Int32} {l4 : Int32} {k0 : Int32} {s : t_S} (hrc : INB_X13_base zl xl rc) (h_s : IL zl xl s) : t_pq (k_X13_templs_34 rc l1 l2 l4 k0 s) (fun z => Sum.elim (fun y => IL zl xl y.2.2.2.2) (fun y => IL zl xl y) z) := by
  unfold k_X13_templs_34
  exact pc_if (fun _ => pc_if (fun _ => pc_if (fun _ => (in_k_X13_templs_61 hrc h_s)) (fun _ => (in_k_X13_templs_56 hrc h_s))) (fun _ => (in_k_X13_templs_56 hrc h_s))) (fun _ => (in_k_X13_templs_68 hrc h_s))
theorem in_k_X13_templs_33 {rc : RT_X13_base} {l1 : Int32} {l2 : Int32} {l4 : Int32} {s : t_S} (hrc : INB_X13_base zl xl rc) (h_s : IL zl xl s) : t_pq (k_X13_templs_33 rc l1 l2 l4 s) (fun z => Sum.elim (fun y => IL zl xl y.2.2.2.2) (fun y => IL zl xl y) z) := by
  unfold k_X13_templs_33
  exact (in_k_X13_templs_34 hrc h_s)
theorem in_k_X13_templs_5 {rc : RT_X13_base} {l1 : Int32} {l2 : Int32} {l3 : Int32} {l4 : Int32} {s : t_S} (hrc : INB_X13_base zl xl rc) (h_s : IL zl xl s) : t_pq (k_X13_templs_5 rc l1 l2 l3 l4 s) (fun z => Sum.elim (fun y => IL zl xl y.2.2.2.2) (fun y => IL zl xl y) z) := by
  unfold k_X13_templs_5
  exact pc_if (fun _ => pc_mp (pc_some h_s)) (fun _ => pc_if (fun _ => pc_if (fun _ => (in_k_X13_templs_33 hrc h_s)) (fun _ => pc_if (fun _ => (in_k_X13_templs_33 hrc h_s)) (fun _ => (in_k_X13_templs_34 hrc h_s)))) (fun _ => pc_mp (pc_some h_s)))
theorem in_b_X13_templs_5 {rc : RT_X13_base} {x : Int32 × Int32 × Int32 × Int32 × t_S} (hrc : INB_X13_base zl xl rc) (h : IL zl xl x.2.2.2.2) : t_pq (b_X13_templs_5 rc x) (fun z => Sum.elim (fun y => IL zl xl y.2.2.2.2) (fun y => IL zl xl y) z) := in_k_X13_templs_5 hrc h
theorem in_m_X13_templs {rc : RT_X13_base} {x2 : Int32} {x3 : Int32} {s : t_S} (hrc : INB_X13_base zl xl rc) (h_s : IL zl xl s) : t_pq (m_X13_templs rc x2 x3 s) (fun y => IL zl xl y) := by
  unfold m_X13_templs
  exact pc_lp (fun x h => in_b_X13_templs_5 hrc h) h_s
theorem in_f_X13_numberTone {s : t_S} (h_s : IL zl xl s) : t_pq (f_X13_numberTone s) (fun y => IL zl xl y.2) := by
  unfold f_X13_numberTone
  exact pc_bd (in_f_X13_node h_s) (fun r1 h_r1 => pc_bd (in_f_X13_num h_r1) (fun r2 h_r2 => pc_if (fun z1 => in_st (IL.setJ h_r2) (fun s1 h_s1 => in_st (IL.setJ h_s1) (fun s2 h_s2 => pc_if (fun _ => pc_some h_s2) (fun _ => pc_bd (in_f_X13_next h_s2) (fun r5 h_r5 => in_st (IL.set h_r5 ⟨by decide, by decide, by decide, fun y => absurd y.1 (by decide)⟩) (fun s3 h_s3 => pc_bd (in_f_X13_num h_s3) (fun r6 h_r6 => in_st (IL.setJ h_r6) (fun s4 h_s4 => pc_some h_s4)))))))) (fun _ => pc_none)))
theorem in_k_X13_tone_57 {rc : RT_X13_base} {s : t_S} (hrc : INB_X13_base zl xl rc) (h_s : IL zl xl s) : t_pq (k_X13_tone_57 rc s) (fun y => IL zl xl y.2) := by
  unfold k_X13_tone_57
  exact pc_bd (in_f_X13_numberTone h_s) (fun r1 h_r1 => pc_some h_r1)
theorem in_k_X13_tone_256 {rc : RT_X13_base} {l2 : Int32} {s : t_S} (hrc : INB_X13_base zl xl rc) (h_s : IL zl xl s) : t_pq (k_X13_tone_256 rc l2 s) (fun y => IL zl xl y.2) := by
  unfold k_X13_tone_256
  exact pc_bd (in_f_X13_mustBe h_s) (fun r1 h_r1 => pc_some h_r1)
theorem in_k_X13_tone_136 {rc : RT_X13_base} {l1 : Int32} {k0 : Int32} {s : t_S} (hrc : INB_X13_base zl xl rc) (h_s : IL zl xl s) : t_pq (k_X13_tone_136 rc l1 k0 s) (fun y => IL zl xl y.2) := by
  unfold k_X13_tone_136
  exact pc_bd (in_f_X13_node h_s) (fun r1 h_r1 => pc_bd (in_f_X13_next h_r1) (fun r2 h_r2 => pc_if (fun _ => pc_bd (hrc.2.2.2.2.2.2.2.2.1 _ _ _ h_r2) (fun r3 h_r3 => pc_bd (in_f_X13_mustBe h_r3) (fun r4 h_r4 => pc_some h_r4))) (fun _ => pc_if (fun _ => pc_bd (in_f_X13_mustBe h_r2) (fun r5 h_r5 => pc_bd (hrc.2.1 _ h_r5) (fun r6 h_r6 => pc_bd (in_f_X13_hang h_r6) (fun r7 h_r7 => pc_bd (in_f_X13_mustBe h_r7) (fun r8 h_r8 => pc_some h_r8))))) (fun _ => pc_if (fun _ => pc_if (fun z1 => in_st (IL.set h_r2 ⟨by decide, by decide, by decide, fun y => absurd y.1 (by decide)⟩) (fun s1 h_s1 => pc_bd (in_f_X13_freeName h_s1) (fun r10 h_r10 => in_st (IL.setJ h_r10) (fun s2 h_s2 => pc_bd (in_f_X13_next h_s2) (fun r11 h_r11 => pc_bd (hrc.2.2.2.2.2.2.2.1 _ h_r11) (fun r12 h_r12 => pc_bd (in_f_X13_hang h_r12) (fun r13 h_r13 => pc_some h_r13))))))) (fun _ => pc_none)) (fun _ => pc_if (fun _ => pc_if (fun _ => pc_bd (hrc.2.2.2.2.2.2.2.2.1 _ _ _ h_r2) (fun r15 h_r15 => (in_k_X13_tone_256 hrc h_r15))) (fun _ => (in_k_X13_tone_256 hrc h_r2))) (fun _ => pc_if (fun _ => pc_bd (hrc.2.2.2.2.1 _ _ h_r2) (fun r16 h_r16 => pc_some h_r16)) (fun _ => pc_some h_r2)))))))
theorem in_m_X13_tone {rc : RT_X13_base} {s : t_S} (hrc : INB_X13_base zl xl rc) (h_s : IL zl xl s) : t_pq (m_X13_tone rc s) (fun y => IL zl xl y.2) := by
  unfold m_X13_tone
  exact pc_if (fun _ => pc_bd (hrc.2.2.2.2.2.2.2.2.2.2.2 _ h_s) (fun r5 h_r5 => pc_some h_r5)) (fun _ => pc_if (fun _ => pc_bd (in_f_X13_node h_s) (fun r2 h_r2 => pc_bd (in_f_X13_keepText h_r2) (fun r3 h_r3 => pc_bd (in_f_X13_next h_r3) (fun r4 h_r4 => pc_some h_r4)))) (fun _ => pc_if (fun _ => (in_k_X13_tone_57 hrc h_s)) (fun _ => pc_if (fun _ => pc_if (fun _ => (in_k_X13_tone_136 hrc h_s)) (fun _ => pc_if (fun _ => (in_k_X13_tone_136 hrc h_s)) (fun _ => pc_if (fun _ => (in_k_X13_tone_136 hrc h_s)) (fun _ => pc_if (fun _ => (in_k_X13_tone_136 hrc h_s)) (fun _ => pc_if (fun _ => (in_k_X13_tone_136 hrc h_s)) (fun _ => pc_if (fun _ => (in_k_X13_tone_136 hrc h_s)) (fun _ => (in_k_X13_tone_136 hrc h_s)))))))) (fun _ => (in_k_X13_tone_57 hrc h_s)))))
theorem in_k_X13_wordBase_251 {rc : RT_X13_base} {l3 : Int32} {s : t_S} (hrc : INB_X13_base zl xl rc) (h_s : IL zl xl s) : t_pq (k_X13_wordBase_251 rc l3 s) (fun y => IL zl xl y.2) := by
  unfold k_X13_wordBase_251
  exact pc_bd (in_f_X13_mustBe h_s) (fun r1 h_r1 => pc_some h_r1)
theorem in_k_X13_wordBase_215 {rc : RT_X13_base} {l1 : Int32} {l3 : Int32} {s : t_S} (hrc : INB_X13_base zl xl rc) (h_s : IL zl xl s) : t_pq (k_X13_wordBase_215 rc l1 l3 s) (fun y => IL zl xl y.2) := by
  unfold k_X13_wordBase_215
  exact pc_bd (in_f_X13_mustBe h_s) (fun r1 h_r1 => pc_bd (hrc.2.1 _ h_r1) (fun r2 h_r2 => pc_bd (in_f_X13_hang h_r2) (fun r3 h_r3 => pc_if (fun _ => pc_bd (in_f_X13_mustBe h_r3) (fun r4 h_r4 => pc_bd (hrc.2.2.2.2.2.2.2.1 _ h_r4) (fun r5 h_r5 => pc_bd (in_f_X13_hang h_r5) (fun r6 h_r6 => (in_k_X13_wordBase_251 hrc h_r6))))) (fun _ => (in_k_X13_wordBase_251 hrc h_r3)))))
theorem in_k_X13_wordBase_199 {rc : RT_X13_base} {l1 : Int32} {l3 : Int32} {s : t_S} (hrc : INB_X13_base zl xl rc) (h_s : IL zl xl s) : t_pq (k_X13_wordBase_199 rc l1 l3 s) (fun y => IL zl xl y.2) := by
  unfold k_X13_wordBase_199
  exact pc_bd (in_f_X13_next h_s) (fun r1 h_r1 => pc_if (fun _ => (in_k_X13_wordBase_215 hrc h_r1)) (fun _ => pc_if (fun _ => (in_k_X13_wordBase_215 hrc h_r1)) (fun _ => pc_if (fun _ => pc_if (fun z1 => in_st (IL.set h_r1 ⟨by decide, by decide, by decide, fun y => absurd y.1 (by decide)⟩) (fun s1 h_s1 => pc_bd (in_f_X13_freeName h_s1) (fun r3 h_r3 => in_st (IL.setJ h_r3) (fun s2 h_s2 => pc_bd (in_f_X13_next h_s2) (fun r4 h_r4 => pc_some h_r4))))) (fun _ => pc_none)) (fun _ => pc_some h_r1))))
theorem in_k_X13_wordBase_158 {rc : RT_X13_base} {l1 : Int32} {k0 : Int32} {s : t_S} (hrc : INB_X13_base zl xl rc) (h_s : IL zl xl s) : t_pq (k_X13_wordBase_158 rc l1 k0 s) (fun y => IL zl xl y.2) := by
  unfold k_X13_wordBase_158
  exact pc_bd (in_f_X13_node h_s) (fun r1 h_r1 => pc_if (fun z1 => in_st (IL.setJ h_r1) (fun s1 h_s1 => in_st (IL.set h_s1 ⟨by decide, by decide, by decide, fun y => absurd y.1 (by decide)⟩) (fun s2 h_s2 => pc_if (fun _ => (in_k_X13_wordBase_199 hrc h_s2)) (fun _ => pc_bd (in_f_X13_name h_s2) (fun r3 h_r3 => in_st (IL.setJ h_r3) (fun s3 h_s3 => (in_k_X13_wordBase_199 hrc h_s3))))))) (fun _ => pc_none))
theorem in_k_X13_wordBase_42 {rc : RT_X13_base} {l1 : Int32} {k0 : Int32} {s : t_S} (hrc : INB_X13_base zl xl rc) (h_s : IL zl xl s) : t_pq (k_X13_wordBase_42 rc l1 k0 s) (fun y => IL zl xl y.2) := by
  unfold k_X13_wordBase_42
  exact pc_if (fun _ => pc_bd (in_f_X13_fail h_s) (fun r1 h_r1 => pc_some h_r1)) (fun _ => pc_if (fun _ => pc_if (fun _ => (in_k_X13_wordBase_158 hrc h_s)) (fun _ => pc_if (fun _ => (in_k_X13_wordBase_158 hrc h_s)) (fun _ => pc_if (fun _ => (in_k_X13_wordBase_158 hrc h_s)) (fun _ => pc_if (fun _ => (in_k_X13_wordBase_158 hrc h_s)) (fun _ => pc_if (fun _ => (in_k_X13_wordBase_158 hrc h_s)) (fun _ => pc_if (fun _ => (in_k_X13_wordBase_158 hrc h_s)) (fun _ => pc_if (fun _ => (in_k_X13_wordBase_158 hrc h_s)) (fun _ => pc_if (fun _ => (in_k_X13_wordBase_158 hrc h_s)) (fun _ => (in_k_X13_wordBase_158 hrc h_s)))))))))) (fun _ => (in_k_X13_wordBase_158 hrc h_s)))
theorem in_k_X13_wordBase_37 {rc : RT_X13_base} {l1 : Int32} {s : t_S} (hrc : INB_X13_base zl xl rc) (h_s : IL zl xl s) : t_pq (k_X13_wordBase_37 rc l1 s) (fun y => IL zl xl y.2) := by
  unfold k_X13_wordBase_37
  exact (in_k_X13_wordBase_42 hrc h_s)
theorem in_m_X13_wordBase {rc : RT_X13_base} {s : t_S} (hrc : INB_X13_base zl xl rc) (h_s : IL zl xl s) : t_pq (m_X13_wordBase rc s) (fun y => IL zl xl y.2) := by
  unfold m_X13_wordBase
  exact pc_if (fun _ => (in_k_X13_wordBase_37 hrc h_s)) (fun _ => pc_if (fun _ => pc_if (fun _ => (in_k_X13_wordBase_42 hrc h_s)) (fun _ => (in_k_X13_wordBase_37 hrc h_s))) (fun _ => (in_k_X13_wordBase_37 hrc h_s)))
theorem in_k_X13_wordTone_152 {rc : RT_X13_base} {l2 : Int32} {s : t_S} (hrc : INB_X13_base zl xl rc) (h_s : IL zl xl s) : t_pq (k_X13_wordTone_152 rc l2 s) (fun y => IL zl xl y.2) := by
  unfold k_X13_wordTone_152
  exact pc_bd (in_f_X13_keepText h_s) (fun r1 h_r1 => pc_bd (in_f_X13_next h_r1) (fun r2 h_r2 => pc_some h_r2))
theorem in_k_X13_wordTone_182 {rc : RT_X13_base} {l2 : Int32} {s : t_S} (hrc : INB_X13_base zl xl rc) (h_s : IL zl xl s) : t_pq (k_X13_wordTone_182 rc l2 s) (fun y => IL zl xl y.2) := by
  unfold k_X13_wordTone_182
  exact pc_bd (in_f_X13_mustBe h_s) (fun r1 h_r1 => pc_bd (hrc.2.2.2.2.2.2.2.2.1 _ _ _ h_r1) (fun r2 h_r2 => pc_bd (in_f_X13_mustBe h_r2) (fun r3 h_r3 => pc_some h_r3)))
theorem in_k_X13_wordTone_125 {rc : RT_X13_base} {l1 : Int32} {l2 : Int32} {s : t_S} (hrc : INB_X13_base zl xl rc) (h_s : IL zl xl s) : t_pq (k_X13_wordTone_125 rc l1 l2 s) (fun y => IL zl xl y.2) := by
  unfold k_X13_wordTone_125
  exact pc_bd (in_f_X13_next h_s) (fun r1 h_r1 => pc_if (fun _ => pc_if (fun _ => (in_k_X13_wordTone_152 hrc h_r1)) (fun _ => pc_bd (in_f_X13_fail h_r1) (fun r2 h_r2 => (in_k_X13_wordTone_152 hrc h_r2)))) (fun _ => pc_if (fun _ => (in_k_X13_wordTone_182 hrc h_r1)) (fun _ => pc_if (fun _ => (in_k_X13_wordTone_182 hrc h_r1)) (fun _ => pc_if (fun _ => pc_some h_r1) (fun _ => (in_k_X13_wordTone_182 hrc h_r1))))))
theorem in_k_X13_wordTone_94 {rc : RT_X13_base} {l1 : Int32} {k0 : Int32} {s : t_S} (hrc : INB_X13_base zl xl rc) (h_s : IL zl xl s) : t_pq (k_X13_wordTone_94 rc l1 k0 s) (fun y => IL zl xl y.2) := by
  unfold k_X13_wordTone_94
  exact pc_bd (in_f_X13_node h_s) (fun r1 h_r1 => pc_if (fun _ => (in_k_X13_wordTone_125 hrc h_r1)) (fun _ => pc_bd (in_f_X13_name h_r1) (fun r2 h_r2 => pc_if (fun z1 => in_st (IL.setJ h_r2) (fun s1 h_s1 => in_st (IL.setJ h_s1) (fun s2 h_s2 => (in_k_X13_wordTone_125 hrc h_s2)))) (fun _ => pc_none))))
theorem in_m_X13_wordTone {rc : RT_X13_base} {s : t_S} (hrc : INB_X13_base zl xl rc) (h_s : IL zl xl s) : t_pq (m_X13_wordTone rc s) (fun y => IL zl xl y.2) := by
  unfold m_X13_wordTone
  exact pc_if (fun _ => pc_if (fun _ => (in_k_X13_wordTone_94 hrc h_s)) (fun _ => pc_if (fun _ => (in_k_X13_wordTone_94 hrc h_s)) (fun _ => pc_if (fun _ => (in_k_X13_wordTone_94 hrc h_s)) (fun _ => pc_if (fun _ => (in_k_X13_wordTone_94 hrc h_s)) (fun _ => pc_if (fun _ => (in_k_X13_wordTone_94 hrc h_s)) (fun _ => pc_if (fun _ => (in_k_X13_wordTone_94 hrc h_s)) (fun _ => pc_if (fun _ => (in_k_X13_wordTone_94 hrc h_s)) (fun _ => (in_k_X13_wordTone_94 hrc h_s))))))))) (fun _ => (in_k_X13_wordTone_94 hrc h_s))
theorem INB_X13_base_R : ∀ n, INB_X13_base zl xl (R_X13_base n) := by
  intro n
  induction n with
  | zero => exact ⟨fun _ _ => pc_none, fun _ _ => pc_none, fun _ _ _ => pc_none, fun _ _ _ => pc_none, fun _ _ _ => pc_none, fun _ _ _ => pc_none, fun _ _ => pc_none, fun _ _ => pc_none, fun _ _ _ _ => pc_none, fun _ _ => pc_none, fun _ _ => pc_none, fun _ _ => pc_none⟩
  | succ n ih => exact ⟨fun _ h => in_m_X13_base ih h, fun _ h => in_m_X13_exp ih h, fun _ _ h => in_m_X13_exps ih h, fun _ _ h => in_m_X13_fieldExps ih h, fun _ _ h => in_m_X13_fieldTempls ih h, fun _ _ h => in_m_X13_level ih h, fun _ h => in_m_X13_single ih h, fun _ h => in_m_X13_templ ih h, fun _ _ _ h => in_m_X13_templs ih h, fun _ h => in_m_X13_tone ih h, fun _ h => in_m_X13_wordBase ih h, fun _ h => in_m_X13_wordTone ih h⟩
theorem in_f_X13_templ {s : t_S} (h_s : IL zl xl s) : t_pq (f_X13_templ s) (fun y => IL zl xl y.2) := by
  unfold f_X13_templ
  exact ((INB_X13_base_R 300).2.2.2.2.2.2.2.1 _ h_s)
theorem in_k_X13_item_250 {s : t_S} (h_s : IL zl xl s) : t_pq (k_X13_item_250 s) (fun y => IL zl xl y) := by
  unfold k_X13_item_250
  exact pc_bd (in_f_X13_mustBe h_s) (fun r1 h_r1 => pc_some h_r1)
theorem in_k_X13_item_218 {l4 : Int32} {s : t_S} (h_s : IL zl xl s) : t_pq (k_X13_item_218 l4 s) (fun y => IL zl xl y) := by
  unfold k_X13_item_218
  exact pc_bd (in_f_X13_next h_s) (fun r1 h_r1 => pc_bd (in_f_X13_mustBe h_r1) (fun r2 h_r2 => pc_bd (in_f_X13_templ h_r2) (fun r3 h_r3 => pc_if (fun _ => pc_if (fun z1 => in_st (IL.set h_r3 ⟨by decide, by decide, by decide, fun y => absurd y.1 (by decide)⟩) (fun s1 h_s1 => (in_k_X13_item_250 h_s1))) (fun _ => pc_none)) (fun _ => (in_k_X13_item_250 h_r3)))))
theorem in_k_X13_own_223 {s : t_S} (h_s : IL zl xl s) : t_pq (k_X13_own_223 s) (fun y => IL zl xl y) := by
  unfold k_X13_own_223
  exact pc_bd (in_f_X13_mustBe h_s) (fun r1 h_r1 => pc_some h_r1)
theorem in_f_X13_typeHint {s : t_S} (h_s : IL zl xl s) : t_pq (f_X13_typeHint s) (fun y => IL zl xl y) := by
  unfold f_X13_typeHint
  exact in_st (IL.set h_s ⟨by decide, by decide, by decide, fun y => absurd y.2 (by decide)⟩) (fun s1 h_s1 => in_st (IL.set h_s1 ⟨by decide, by decide, by decide, fun y => absurd y.2 (by decide)⟩) (fun s2 h_s2 => pc_if (fun _ => pc_some h_s2) (fun _ => pc_bd (in_f_X13_next h_s2) (fun r2 h_r2 => in_st (IL.set h_r2 ⟨by decide, by decide, by decide, fun y => absurd y.2 (by decide)⟩) (fun s3 h_s3 => pc_bd (in_f_X13_freeName h_s3) (fun r3 h_r3 => in_st (IL.set h_r3 ⟨by decide, by decide, by decide, fun y => absurd y.2 (by decide)⟩) (fun s4 h_s4 => pc_bd (in_f_X13_next h_s4) (fun r4 h_r4 => pc_some h_r4))))))))
theorem in_f_X13_exp {s : t_S} (h_s : IL zl xl s) : t_pq (f_X13_exp s) (fun y => IL zl xl y.2) := by
  unfold f_X13_exp
  exact ((INB_X13_base_R 300).2.1 _ h_s)
theorem in_f_X13_ownVar {x1 : Int32} {x2 : Int32} {s : t_S} (h_s : IL zl xl s) : t_pq (f_X13_ownVar x1 x2 s) (fun y => IL zl xl y) := by
  unfold f_X13_ownVar
  exact pc_bd (in_f_X13_typeHint h_s) (fun r1 h_r1 => pc_if (fun z1 => pc_if (fun z2 => in_st (IL.set h_r1 ⟨by decide, by decide, by decide, fun y => absurd y.1 (by decide)⟩) (fun s1 h_s1 => in_st (IL.set h_s1 ⟨by decide, by decide, by decide, fun y => absurd y.1 (by decide)⟩) (fun s2 h_s2 => in_st (IL.set h_s2 ⟨by decide, by decide, by decide, fun y => absurd y.1 (by decide)⟩) (fun s3 h_s3 => in_st (IL.set h_s3 ⟨by decide, by decide, by decide, fun y => absurd y.2 (by decide)⟩) (fun s4 h_s4 => in_st (IL.set h_s4 ⟨by decide, by decide, by decide, fun y => absurd y.2 (by decide)⟩) (fun s5 h_s5 => in_st (IL.set h_s5 ⟨by decide, by decide, by decide, fun y => absurd y.1 (by decide)⟩) (fun s6 h_s6 => pc_bd (in_f_X13_mustBe h_s6) (fun r4 h_r4 => in_st (IL.set h_r4 ⟨by decide, by decide, by decide, fun y => absurd y.2 (by decide)⟩) (fun s7 h_s7 => pc_bd (in_f_X13_exp h_s7) (fun r5 h_r5 => in_st (IL.set h_r5 ⟨by decide, by decide, by decide, fun y => absurd y.1 (by decide)⟩) (fun s8 h_s8 => pc_some h_s8))))))))))) (fun _ => pc_none)) (fun _ => pc_none))
theorem in_k_X13_own_134 {l1 : Int32} {l2 : Int32} {l3 : Int32} {s : t_S} (h_s : IL zl xl s) : t_pq (k_X13_own_134 l1 l2 l3 s) (fun y => IL zl xl y) := by
  unfold k_X13_own_134
  exact pc_if (fun _ => pc_bd (in_f_X13_next h_s) (fun r1 h_r1 => pc_if (fun _ => pc_if (fun z1 => pc_if (fun z2 => in_st (IL.set h_r1 ⟨by decide, by decide, by decide, fun y => absurd y.1 (by decide)⟩) (fun s3 h_s3 => in_st (IL.set h_s3 ⟨by decide, by decide, by decide, fun y => absurd y.1 (by decide)⟩) (fun s4 h_s4 => (in_k_X13_own_223 h_s4)))) (fun _ => pc_none)) (fun _ => pc_none)) (fun _ => pc_if (fun _ => pc_if (fun z3 => pc_if (fun z4 => in_st (IL.set h_r1 ⟨by decide, by decide, by decide, fun y => absurd y.1 (by decide)⟩) (fun s1 h_s1 => in_st (IL.set h_s1 ⟨by decide, by decide, by decide, fun y => absurd y.1 (by decide)⟩) (fun s2 h_s2 => (in_k_X13_own_223 h_s2)))) (fun _ => pc_none)) (fun _ => pc_none)) (fun _ => pc_bd (in_f_X13_ownVar h_r1) (fun r2 h_r2 => (in_k_X13_own_223 h_r2)))))) (fun _ => pc_some h_s)
theorem in_k_X13_own_125 {l1 : Int32} {l2 : Int32} {l3 : Int32} {s : t_S} (h_s : IL zl xl s) : t_pq (k_X13_own_125 l1 l2 l3 s) (fun y => IL zl xl y) := by
  unfold k_X13_own_125
  exact pc_bd (in_f_X13_fail h_s) (fun r1 h_r1 => (in_k_X13_own_134 h_r1))
theorem in_k_X13_own_75 {l1 : Int32} {l2 : Int32} {l3 : Int32} {s : t_S} (h_s : IL zl xl s) : t_pq (k_X13_own_75 l1 l2 l3 s) (fun y => IL zl xl y) := by
  unfold k_X13_own_75
  exact pc_if (fun _ => pc_if (fun z1 => pc_if (fun _ => (in_k_X13_own_125 h_s)) (fun _ => (in_k_X13_own_134 h_s))) (fun _ => pc_none)) (fun _ => pc_if (fun _ => pc_if (fun z2 => pc_if (fun _ => (in_k_X13_own_125 h_s)) (fun _ => (in_k_X13_own_134 h_s))) (fun _ => pc_none)) (fun _ => pc_if (fun z3 => pc_if (fun _ => (in_k_X13_own_125 h_s)) (fun _ => (in_k_X13_own_134 h_s))) (fun _ => pc_none)))
theorem in_k_X13_own_16 {l1 : Int32} {k0 : Int32} {s : t_S} (h_s : IL zl xl s) : t_pq (k_X13_own_16 l1 k0 s) (fun y => IL zl xl y) := by
  unfold k_X13_own_16
  exact pc_if (fun _ => pc_bd (in_f_X13_fail h_s) (fun r6 h_r6 => pc_some h_r6)) (fun _ => pc_bd (in_f_X13_next h_s) (fun r2 h_r2 => pc_bd (in_f_X13_freeName h_r2) (fun r3 h_r3 => pc_if (fun _ => pc_bd pc_any (fun r4 h_r4 => pc_if (fun _ => (in_k_X13_own_75 h_r3)) (fun _ => pc_bd (in_f_X13_fail h_r3) (fun r5 h_r5 => (in_k_X13_own_75 h_r5))))) (fun _ => (in_k_X13_own_75 h_r3)))))
theorem in_f_X13_own {x1 : Int32} {s : t_S} (h_s : IL zl xl s) : t_pq (f_X13_own x1 s) (fun y => IL zl xl y) := by
  unfold f_X13_own
  exact pc_if (fun _ => (in_k_X13_own_16 h_s)) (fun _ => (in_k_X13_own_16 h_s))
theorem in_k_X13_component_96 {s : t_S} (h_s : IL zl xl s) : t_pq (k_X13_component_96 s) (fun y => IL zl xl y) := by
  unfold k_X13_component_96
  exact pc_bd (in_f_X13_mustBe h_s) (fun r1 h_r1 => pc_some h_r1)
theorem in_k_X13_component_72 {l2 : Int32} {s : t_S} (h_s : IL zl xl s) : t_pq (k_X13_component_72 l2 s) (fun z => Sum.elim (fun y => IL zl xl y.2) (fun y => IL zl xl y) z) := by
  unfold k_X13_component_72
  exact pc_if (fun _ => pc_if (fun _ => pc_bd (in_f_X13_own h_s) (fun r2 h_r2 => pc_some h_r2)) (fun _ => pc_mp ((in_k_X13_component_96 h_s)))) (fun _ => pc_mp ((in_k_X13_component_96 h_s)))
theorem in_b_X13_component_72 {x : Int32 × t_S} (h : IL zl xl x.2) : t_pq (b_X13_component_72 x) (fun z => Sum.elim (fun y => IL zl xl y.2) (fun y => IL zl xl y) z) := in_k_X13_component_72 h
theorem in_f_X13_component {s : t_S} (h_s : IL zl xl s) : t_pq (f_X13_component s) (fun y => IL zl xl y) := by
  unfold f_X13_component
  exact pc_bd (in_f_X13_outside h_s) (fun r1 h_r1 => pc_if (fun _ => in_st (IL.set h_r1 ⟨by decide, by decide, by decide, fun y => absurd y.2 (by decide)⟩) (fun s1 h_s1 => pc_if (fun z1 => in_st (IL.set h_s1 ⟨by decide, by decide, by decide, fun y => absurd y.1 (by decide)⟩) (fun s2 h_s2 => in_st (IL.set h_s2 ⟨by decide, by decide, by decide, fun y => absurd y.1 (by decide)⟩) (fun s3 h_s3 => in_st (IL.set h_s3 ⟨by decide, by decide, by decide, fun y => absurd y.1 (by decide)⟩) (fun s4 h_s4 => in_st (IL.set h_s4 ⟨by decide, by decide, by decide, fun y => absurd y.1 (by decide)⟩) (fun s5 h_s5 => pc_bd (in_f_X13_next h_s5) (fun r3 h_r3 => pc_bd (in_f_X13_mustBe h_r3) (fun r4 h_r4 => pc_lp (fun x h => in_b_X13_component_72 h) h_r4))))))) (fun _ => pc_none))) (fun _ => pc_some h_r1))
theorem in_k_X13_parameters_55 {l1 : Int32} {s : t_S} (h_s : IL zl xl s) : t_pq (k_X13_parameters_55 l1 s) (fun y => IL zl xl y) := by
  unfold k_X13_parameters_55
  exact pc_if (fun z1 => in_st (IL.set h_s ⟨by decide, by decide, by decide, fun y => absurd y.1 (by decide)⟩) (fun s1 h_s1 => pc_some h_s1)) (fun _ => pc_none)
theorem in_k_X13_addLocal_84 {s : t_S} (h_s : IL zl xl s) : t_pq (k_X13_addLocal_84 s) (fun y => IL zl xl y) := by
  unfold k_X13_addLocal_84
  exact pc_bd (in_f_X13_next h_s) (fun r1 h_r1 => pc_some h_r1)
theorem in_k_X13_addLocal_50 {l1 : Int32} {l2 : Int32} {s : t_S} (h_s : IL zl xl s) : t_pq (k_X13_addLocal_50 l1 l2 s) (fun y => IL zl xl y) := by
  unfold k_X13_addLocal_50
  exact pc_if (fun _ => pc_if (fun z1 => pc_if (fun z2 => in_st (IL.set h_s ⟨by decide, by decide, by decide, fun y => absurd y.1 (by decide)⟩) (fun s1 h_s1 => in_st (IL.set h_s1 ⟨by decide, by decide, by decide, fun y => absurd y.1 (by decide)⟩) (fun s2 h_s2 => (in_k_X13_addLocal_84 h_s2)))) (fun _ => pc_none)) (fun _ => pc_none)) (fun _ => (in_k_X13_addLocal_84 h_s))
theorem in_k_X13_addLocal_30 {l1 : Int32} {l2 : Int32} {s : t_S} (h_s : IL zl xl s) : t_pq (k_X13_addLocal_30 l1 l2 s) (fun y => IL zl xl y) := by
  unfold k_X13_addLocal_30
  exact pc_if (fun z1 => pc_if (fun _ => pc_bd (in_f_X13_fail h_s) (fun r2 h_r2 => (in_k_X13_addLocal_50 h_r2))) (fun _ => (in_k_X13_addLocal_50 h_s))) (fun _ => pc_none)
theorem in_f_X13_addLocal {x1 : Int32} {s : t_S} (h_s : IL zl xl s) : t_pq (f_X13_addLocal x1 s) (fun y => IL zl xl y) := by
  unfold f_X13_addLocal
  exact pc_bd (in_f_X13_freeName h_s) (fun r1 h_r1 => pc_if (fun _ => pc_bd pc_any (fun r2 h_r2 => pc_if (fun _ => (in_k_X13_addLocal_30 h_r1)) (fun _ => pc_bd (in_f_X13_fail h_r1) (fun r3 h_r3 => (in_k_X13_addLocal_30 h_r3))))) (fun _ => (in_k_X13_addLocal_30 h_r1)))
theorem in_k_X13_parameters_32 {l1 : Int32} {s : t_S} (h_s : IL zl xl s) : t_pq (k_X13_parameters_32 l1 s) (fun z => Sum.elim (fun y => IL zl xl y.2.2) (fun y => IL zl xl y) z) := by
  unfold k_X13_parameters_32
  exact pc_bd (in_f_X13_addLocal h_s) (fun r1 h_r1 => pc_if (fun _ => pc_some h_r1) (fun _ => pc_bd (in_f_X13_next h_r1) (fun r3 h_r3 => pc_some h_r3)))
theorem in_k_X13_parameters_2 {l1 : Int32} {l2 : Int32} {s : t_S} (h_s : IL zl xl s) : t_pq (k_X13_parameters_2 l1 l2 s) (fun z => Sum.elim (fun y => IL zl xl y.2.2) (fun y => IL zl xl y) z) := by
  unfold k_X13_parameters_2
  exact pc_if (fun _ => pc_mp ((in_k_X13_parameters_55 h_s))) (fun _ => pc_if (fun _ => pc_if (fun z1 => pc_if (fun _ => pc_bd (in_f_X13_fail h_s) (fun r2 h_r2 => (in_k_X13_parameters_32 h_r2))) (fun _ => (in_k_X13_parameters_32 h_s))) (fun _ => pc_none)) (fun _ => pc_mp ((in_k_X13_parameters_55 h_s))))
theorem in_b_X13_parameters_2 {x : Int32 × Int32 × t_S} (h : IL zl xl x.2.2) : t_pq (b_X13_parameters_2 x) (fun z => Sum.elim (fun y => IL zl xl y.2.2) (fun y => IL zl xl y) z) := in_k_X13_parameters_2 h
theorem in_f_X13_parameters {x1 : Int32} {s : t_S} (h_s : IL zl xl s) : t_pq (f_X13_parameters x1 s) (fun y => IL zl xl y) := by
  unfold f_X13_parameters
  exact pc_lp (fun x h => in_b_X13_parameters_2 h) h_s
def INB_X13_block (zl xl : Nat) (rc : RT_X13_block) : Prop := (∀ (x0 : Int32) (x1 : Int32) (s : t_S), IL zl xl s → t_pq (rc.1 x0 x1 s) (fun y => IL zl xl y.2)) ∧ (∀ (x0 : Int32) (x1 : Int32) (s : t_S), IL zl xl s → t_pq (rc.2.1 x0 x1 s) (fun y => IL zl xl y.2)) ∧ (∀ (x0 : Int32) (x1 : Int32) (s : t_S), IL zl xl s → t_pq (rc.2.2.1 x0 x1 s) (fun y => IL zl xl y.2)) ∧ (∀ (x0 : Int32) (x1 : Int32) (s : t_S), IL zl xl s → t_pq (rc.2.2.2 x0 x1 s) (fun y => IL zl xl y.2))
theorem in_k_X13_block_83 {rc : RT_X13_block} {l1 : Int32} {l2 : Int32} {l5 : Int32} {k0 : Int32} {s : t_S} (hrc : INB_X13_block 2 0 rc) (h_s : IL 2 0 s) : t_pq (k_X13_block_83 rc l1 l2 l5 k0 s) (fun z => Sum.elim (fun y => IL 2 0 y.2.2.2.2) (fun y => IL 2 0 y.2) z) := by
  unfold k_X13_block_83
  exact pc_some h_s
theorem in_k_X13_block_73 {rc : RT_X13_block} {l1 : Int32} {l2 : Int32} {l3 : Int32} {l5 : Int32} {s : t_S} (hrc : INB_X13_block 2 0 rc) (h_s : IL 2 0 s) : t_pq (k_X13_block_73 rc l1 l2 l3 l5 s) (fun z => Sum.elim (fun y => IL 2 0 y.2.2.2.2) (fun y => IL 2 0 y.2) z) := by
  unfold k_X13_block_73
  exact pc_if (fun _ => (in_k_X13_block_83 hrc h_s)) (fun _ => (in_k_X13_block_83 hrc h_s))
theorem in_k_X13_block_91 {rc : RT_X13_block} {l3 : Int32} {s : t_S} (hrc : INB_X13_block 2 0 rc) (h_s : IL 2 0 s) : t_pq (k_X13_block_91 rc l3 s) (fun y => IL 2 0 y.2) := by
  unfold k_X13_block_91
  exact pc_bd (in_f_X13_mustBe h_s) (fun r1 h_r1 => pc_some h_r1)
theorem in_k_X13_block_35 {rc : RT_X13_block} {l1 : Int32} {l2 : Int32} {l3 : Int32} {l4 : Int32} {s : t_S} (hrc : INB_X13_block 2 0 rc) (h_s : IL 2 0 s) : t_pq (k_X13_block_35 rc l1 l2 l3 l4 s) (fun z => Sum.elim (fun y => IL 2 0 y.2.2.2.2) (fun y => IL 2 0 y.2) z) := by
  unfold k_X13_block_35
  exact pc_if (fun _ => pc_if (fun _ => pc_bd (hrc.2.2.2 _ _ _ h_s) (fun r2 h_r2 => pc_if (fun _ => (in_k_X13_block_73 hrc h_r2)) (fun _ => pc_if (fun z1 => in_st (IL.set h_r2 ⟨by decide, by decide, by decide, fun y => absurd y.1 (by decide)⟩) (fun s1 h_s1 => (in_k_X13_block_73 hrc h_s1))) (fun _ => pc_none)))) (fun _ => pc_mp ((in_k_X13_block_91 hrc h_s)))) (fun _ => pc_mp ((in_k_X13_block_91 hrc h_s)))
theorem in_b_X13_block_35 {rc : RT_X13_block} {x : Int32 × Int32 × Int32 × Int32 × t_S} (hrc : INB_X13_block 2 0 rc) (h : IL 2 0 x.2.2.2.2) : t_pq (b_X13_block_35 rc x) (fun z => Sum.elim (fun y => IL 2 0 y.2.2.2.2) (fun y => IL 2 0 y.2) z) := in_k_X13_block_35 hrc h
theorem in_k_X13_block_24 {rc : RT_X13_block} {l1 : Int32} {l2 : Int32} {s : t_S} (hrc : INB_X13_block 2 0 rc) (h_s : IL 2 0 s) : t_pq (k_X13_block_24 rc l1 l2 s) (fun y => IL 2 0 y.2) := by
  unfold k_X13_block_24
  exact pc_bd (in_f_X13_mustBe h_s) (fun r1 h_r1 => pc_lp (fun x h => in_b_X13_block_35 hrc h) h_r1)
theorem in_m_X13_block {rc : RT_X13_block} {x2 : Int32} {x3 : Int32} {s : t_S} (hrc : INB_X13_block 2 0 rc) (h_s : IL 2 0 s) : t_pq (m_X13_block rc x2 x3 s) (fun y => IL 2 0 y.2) := by
  unfold m_X13_block
  exact pc_if (fun _ => (in_k_X13_block_24 hrc h_s)) (fun _ => pc_if (fun _ => (in_k_X13_block_24 hrc h_s)) (fun _ => pc_bd (in_f_X13_fail h_s) (fun r2 h_r2 => (in_k_X13_block_24 hrc h_r2))))
theorem in_any {T : Type} {y w : Nat} {o : Option T} {q : T → t_S} (h : t_pq o (fun v => IL y w (q v))) : t_pq o (fun v => IL 2 0 (q v)) := fun v e => (h v e).any
theorem in_line19 {l1 l2 : Int32} {s : t_S} (h : IL 2 0 s) : t_pq (k_X13_line_19 l1 l2 s) (fun y => IL 0 y.1.toNatClampNeg y.2) := by
  unfold k_X13_line_19
  refine pc_if (fun w => in_line39 ⟨by decide, by decide, ?_⟩ h) (fun w => ?_)
  · have a := Int32.le_iff_toInt_le.mp w
    have e4 : (400 : Int32).toInt = 400 := rfl
    have e3 : (399 : Int32).toInt = 399 := rfl
    omega
  · have a := Int32.lt_iff_toInt_lt.mp (Int32.not_le.mp w)
    have e4 : (400 : Int32).toInt = 400 := rfl
    by_cases c : 0 ≤ (s.1 950 81).toInt
    · exact in_line39 ⟨c, by omega, Int.le_refl _⟩ h
    · have nx : ¬ t_ix (s.1 950 81) 401 = true := fun y => by
        have := t_ixI.mp y
        omega
      unfold k_X13_line_39
      exact pc_lt (fun v hv => by rw [if_neg nx] at hv; cases hv)
theorem in_f_X13_line {x1 x2 : Int32} {s : t_S} (h : IL 2 0 s) : t_pq (f_X13_line x1 x2 s) (fun y => IL 0 y.1.toNatClampNeg y.2) := by
  unfold f_X13_line
  exact pc_if (fun _ => pc_bd (in_f_X13_fail h) (fun r1 h1 => in_line19 h1)) (fun _ => in_line19 h)
theorem in_f_X13_wordOf {x1 : Int32} {s : t_S} (h_s : IL zl xl s) : t_pq (f_X13_wordOf x1 s) (fun y => IL zl xl y) := by
  unfold f_X13_wordOf
  exact pc_if (fun z1 => in_st (IL.set h_s ⟨by decide, by decide, by decide, fun y => absurd y.1 (by decide)⟩) (fun s1 h_s1 => pc_bd (in_f_X13_freeName h_s1) (fun r2 h_r2 => in_st (IL.set h_r2 ⟨by decide, by decide, by decide, fun y => absurd y.1 (by decide)⟩) (fun s2 h_s2 => pc_bd (in_f_X13_next h_s2) (fun r3 h_r3 => pc_some h_r3))))) (fun _ => pc_none)
theorem in_f_X13_into {x1 : Int32} {s : t_S} (h_s : IL 1 (x1.toNatClampNeg) s) : t_pq (f_X13_into x1 s) (fun y => IL 2 0 y) := by
  unfold f_X13_into
  exact pc_if (fun _ => in_st (IL.set h_s ⟨by decide, by decide, by decide, fun y => absurd y.1 (by decide)⟩) (fun s1 h_s1 => pc_bd (in_f_X13_freeName h_s1) (fun r2 h_r2 => in_st (IL.into h_r2) (fun s2 h_s2 => pc_bd (in_f_X13_next h_s2) (fun r3 h_r3 => pc_some (IL.any h_r3)))))) (fun _ => pc_none)
theorem in_k_X13_event_134 {l1 : Int32} {s : t_S} (h_s : IL 1 (l1.toNatClampNeg) s) : t_pq (k_X13_event_134 l1 s) (fun y => IL 2 0 y) := by
  unfold k_X13_event_134
  exact pc_if (fun _ => pc_some (IL.any h_s)) (fun _ => pc_bd (in_f_X13_next h_s) (fun r2 h_r2 => pc_bd (in_f_X13_into h_r2) (fun r3 h_r3 => pc_some (IL.any h_r3))))
theorem in_k_X13_event_89 {l1 l2 k0 k1 : Int32} {s : t_S} (hk : k1 = l1) (h0 : l2 = 61 → k0 = 0) (h_s : IL 0 (l1.toNatClampNeg) s) : t_pq (k_X13_event_89 l1 l2 k0 k1 s) (fun y => IL 2 0 y) := by
  subst hk
  unfold k_X13_event_89
  by_cases c : l2 = 61
  · subst c
    rw [h0 rfl]
    exact pc_if (fun _ => in_st (IL.ev1 h_s) (fun s1 h1 => pc_bd (in_f_X13_wordOf h1) (fun r2 h2 => pc_if (fun _ => pc_bd (in_f_X13_templ h2) (fun r3 h3 => pc_if (fun _ => in_st (IL.set h3 ⟨by decide, by decide, by decide, fun y => absurd y.1 (by decide)⟩) (fun s2 h4 => pc_if (fun _ => in_k_X13_event_134 h4) (fun _ => pc_bd (in_f_X13_next h4) (fun r6 h6 => pc_bd (in_f_X13_exp h6) (fun r7 h7 => in_st (IL.set h7 ⟨by decide, by decide, by decide, fun y => absurd y.1 (by decide)⟩) (fun s3 h8 => in_k_X13_event_134 h8)))))) (fun _ => pc_none))) (fun _ => pc_some h2.any)))) (fun _ => pc_none)
  · exact pc_if (fun _ => in_st (IL.ev h_s) (fun s1 h1 => pc_bd (in_f_X13_wordOf h1) (fun r2 h2 => pc_if (fun w => absurd w c) (fun _ => pc_some h2.any)))) (fun _ => pc_none)
theorem in_k_X13_event_45 {l1 l2 : Int32} {s : t_S} (h_s : IL 0 (l1.toNatClampNeg) s) : t_pq (k_X13_event_45 l1 l2 s) (fun y => IL 2 0 y) := by
  unfold k_X13_event_45
  exact pc_bd (in_f_X13_next h_s) (fun r1 h1 => pc_if (fun _ => pc_if (fun _ => in_st (IL.ev h1) (fun s1 h2 => pc_bd (in_f_X13_exp h2) (fun r3 h3 => in_st (IL.set h3 ⟨by decide, by decide, by decide, fun y => absurd y.1 (by decide)⟩) (fun s2 h4 => pc_some h4.any)))) (fun _ => pc_none)) (fun _ => pc_if (fun _ => in_k_X13_event_89 rfl (fun _ => rfl) h1) (fun w => in_k_X13_event_89 rfl (fun y => absurd y w) h1)))
theorem in_k_X13_event_16 {l1 : Int32} {k0 : Int32} {s : t_S} (h_s : IL 0 (l1.toNatClampNeg) s) : t_pq (k_X13_event_16 l1 k0 s) (fun y => IL 2 0 y) := by
  unfold k_X13_event_16
  exact pc_if (fun _ => (in_k_X13_event_45 h_s)) (fun _ => pc_if (fun _ => (in_k_X13_event_45 h_s)) (fun _ => pc_if (fun _ => (in_k_X13_event_45 h_s)) (fun _ => pc_bd (in_f_X13_fail h_s) (fun r1 h_r1 => pc_some (IL.any h_r1)))))
theorem in_f_X13_event {x2 : Int32} {s : t_S} (h_s : IL 0 (x2.toNatClampNeg) s) : t_pq (f_X13_event x2 s) (fun y => IL 2 0 y) := by
  unfold f_X13_event
  exact pc_if (fun _ => (in_k_X13_event_16 h_s)) (fun _ => (in_k_X13_event_16 h_s))
theorem in_f_X13_exps {x2 : Int32} {s : t_S} (h_s : IL zl xl s) : t_pq (f_X13_exps x2 s) (fun y => IL zl xl y) := by
  unfold f_X13_exps
  exact ((INB_X13_base_R 300).2.2.1 _ _ h_s)
theorem in_k_X13_callOf_52 {l2 : Int32} {s : t_S} (h_s : IL zl xl s) : t_pq (k_X13_callOf_52 l2 s) (fun y => IL zl xl y.2) := by
  unfold k_X13_callOf_52
  exact pc_bd (in_f_X13_mustBe h_s) (fun r1 h_r1 => pc_some h_r1)
theorem in_f_X13_callOf {x1 : Int32} {s : t_S} (h_s : IL zl xl s) : t_pq (f_X13_callOf x1 s) (fun y => IL zl xl y.2) := by
  unfold f_X13_callOf
  exact pc_if (fun z1 => in_st (IL.set h_s ⟨by decide, by decide, by decide, fun y => absurd y.1 (by decide)⟩) (fun s1 h_s1 => pc_bd (in_f_X13_freeName h_s1) (fun r2 h_r2 => in_st (IL.set h_r2 ⟨by decide, by decide, by decide, fun y => absurd y.1 (by decide)⟩) (fun s2 h_s2 => pc_bd (in_f_X13_next h_s2) (fun r3 h_r3 => pc_bd (in_f_X13_mustBe h_r3) (fun r4 h_r4 => pc_bd (in_f_X13_node h_r4) (fun r5 h_r5 => pc_if (fun _ => pc_bd (in_f_X13_exps h_r5) (fun r7 h_r7 => (in_k_X13_callOf_52 h_r7))) (fun _ => (in_k_X13_callOf_52 h_r5))))))))) (fun _ => pc_none)
theorem in_k_X13_branch_98 {rc : RT_X13_block} {l2 : Int32} {l3 : Int32} {s : t_S} (hrc : INB_X13_block 2 0 rc) (h_s : IL 0 (l3.toNatClampNeg) s) : t_pq (k_X13_branch_98 rc l2 l3 s) (fun y => IL 2 0 y.2) := by
  unfold k_X13_branch_98
  exact pc_bd (in_f_X13_mustBe h_s) (fun r1 h_r1 => pc_if (fun _ => pc_bd (in_f_X13_event h_r1) (fun r3 h_r3 => pc_bd (hrc.1 _ _ _ (IL.any h_r3)) (fun r4 h_r4 => pc_if (fun _ => in_st (IL.set h_r4 ⟨by decide, by decide, by decide, fun y => absurd y.1 (by decide)⟩) (fun s1 h_s1 => pc_some (IL.any h_s1))) (fun _ => pc_none)))) (fun _ => pc_bd (in_f_X13_next h_r1) (fun r6 h_r6 => pc_if (fun _ => in_st (IL.ev h_r6) (fun s2 h_s2 => pc_bd (in_f_X13_callOf h_s2) (fun r8 h_r8 => in_st (IL.set h_r8 ⟨by decide, by decide, by decide, fun y => absurd y.1 (by decide)⟩) (fun s3 h_s3 => pc_bd (in_f_X13_mustBe h_s3) (fun r9 h_r9 => pc_some (IL.any h_r9)))))) (fun _ => pc_none))))
theorem in_m_X13_branch {rc : RT_X13_block} {x2 : Int32} {x3 : Int32} {s : t_S} (hrc : INB_X13_block 2 0 rc) (h_s : IL 2 0 s) : t_pq (m_X13_branch rc x2 x3 s) (fun y => IL 2 0 y.2) := by
  unfold m_X13_branch
  exact pc_if (fun _ => pc_bd (in_f_X13_fail h_s) (fun r12 h_r12 => pc_some (IL.any h_r12))) (fun _ => in_st (IL.set h_s ⟨by decide, by decide, by decide, fun y => absurd y.2 (by decide)⟩) (fun s1 h_s1 => pc_bd (in_f_X13_line h_s1) (fun r2 h_r2 => pc_bd (in_f_X13_next h_r2) (fun r3 h_r3 => pc_if (fun _ => pc_if (fun _ => pc_bd (in_f_X13_exp h_r3) (fun r6 h_r6 => pc_if (fun _ => in_st (IL.set h_r6 ⟨by decide, by decide, by decide, fun y => absurd y.1 (by decide)⟩) (fun s2 h_s2 => (in_k_X13_branch_98 hrc h_s2))) (fun _ => pc_none))) (fun _ => (in_k_X13_branch_98 hrc h_r3))) (fun _ => pc_bd (in_f_X13_next h_r3) (fun r8 h_r8 => pc_bd (in_f_X13_mustBe h_r8) (fun r9 h_r9 => pc_if (fun _ => in_st (IL.ev h_r9) (fun s3 h_s3 => pc_bd (hrc.1 _ _ _ (IL.any h_s3)) (fun r11 h_r11 => in_st (IL.set h_r11 ⟨by decide, by decide, by decide, fun y => absurd y.1 (by decide)⟩) (fun s4 h_s4 => pc_some (IL.any h_s4))))) (fun _ => pc_none))))))))
theorem in_k_X13_branches_83 {rc : RT_X13_block} {l1 : Int32} {l2 : Int32} {l5 : Int32} {k0 : Int32} {s : t_S} (hrc : INB_X13_block 2 0 rc) (h_s : IL 2 0 s) : t_pq (k_X13_branches_83 rc l1 l2 l5 k0 s) (fun z => Sum.elim (fun y => IL 2 0 y.2.2.2.2) (fun y => IL 2 0 y.2) z) := by
  unfold k_X13_branches_83
  exact pc_some h_s
theorem in_k_X13_branches_73 {rc : RT_X13_block} {l1 : Int32} {l2 : Int32} {l3 : Int32} {l5 : Int32} {s : t_S} (hrc : INB_X13_block 2 0 rc) (h_s : IL 2 0 s) : t_pq (k_X13_branches_73 rc l1 l2 l3 l5 s) (fun z => Sum.elim (fun y => IL 2 0 y.2.2.2.2) (fun y => IL 2 0 y.2) z) := by
  unfold k_X13_branches_73
  exact pc_if (fun _ => (in_k_X13_branches_83 hrc h_s)) (fun _ => (in_k_X13_branches_83 hrc h_s))
theorem in_k_X13_branches_91 {rc : RT_X13_block} {l3 : Int32} {s : t_S} (hrc : INB_X13_block 2 0 rc) (h_s : IL 2 0 s) : t_pq (k_X13_branches_91 rc l3 s) (fun y => IL 2 0 y.2) := by
  unfold k_X13_branches_91
  exact pc_bd (in_f_X13_mustBe h_s) (fun r1 h_r1 => pc_some h_r1)
theorem in_k_X13_branches_35 {rc : RT_X13_block} {l1 : Int32} {l2 : Int32} {l3 : Int32} {l4 : Int32} {s : t_S} (hrc : INB_X13_block 2 0 rc) (h_s : IL 2 0 s) : t_pq (k_X13_branches_35 rc l1 l2 l3 l4 s) (fun z => Sum.elim (fun y => IL 2 0 y.2.2.2.2) (fun y => IL 2 0 y.2) z) := by
  unfold k_X13_branches_35
  exact pc_if (fun _ => pc_if (fun _ => pc_bd (hrc.2.1 _ _ _ h_s) (fun r2 h_r2 => pc_if (fun _ => (in_k_X13_branches_73 hrc h_r2)) (fun _ => pc_if (fun z1 => in_st (IL.set h_r2 ⟨by decide, by decide, by decide, fun y => absurd y.1 (by decide)⟩) (fun s1 h_s1 => (in_k_X13_branches_73 hrc h_s1))) (fun _ => pc_none)))) (fun _ => pc_mp ((in_k_X13_branches_91 hrc h_s)))) (fun _ => pc_mp ((in_k_X13_branches_91 hrc h_s)))
theorem in_b_X13_branches_35 {rc : RT_X13_block} {x : Int32 × Int32 × Int32 × Int32 × t_S} (hrc : INB_X13_block 2 0 rc) (h : IL 2 0 x.2.2.2.2) : t_pq (b_X13_branches_35 rc x) (fun z => Sum.elim (fun y => IL 2 0 y.2.2.2.2) (fun y => IL 2 0 y.2) z) := in_k_X13_branches_35 hrc h
theorem in_k_X13_branches_24 {rc : RT_X13_block} {l1 : Int32} {l2 : Int32} {s : t_S} (hrc : INB_X13_block 2 0 rc) (h_s : IL 2 0 s) : t_pq (k_X13_branches_24 rc l1 l2 s) (fun y => IL 2 0 y.2) := by
  unfold k_X13_branches_24
  exact pc_bd (in_f_X13_mustBe h_s) (fun r1 h_r1 => pc_lp (fun x h => in_b_X13_branches_35 hrc h) h_r1)
theorem in_m_X13_branches {rc : RT_X13_block} {x2 : Int32} {x3 : Int32} {s : t_S} (hrc : INB_X13_block 2 0 rc) (h_s : IL 2 0 s) : t_pq (m_X13_branches rc x2 x3 s) (fun y => IL 2 0 y.2) := by
  unfold m_X13_branches
  exact pc_if (fun _ => (in_k_X13_branches_24 hrc h_s)) (fun _ => pc_if (fun _ => (in_k_X13_branches_24 hrc h_s)) (fun _ => pc_bd (in_f_X13_fail h_s) (fun r2 h_r2 => (in_k_X13_branches_24 hrc h_r2))))
theorem in_k_X13_statement_67 {rc : RT_X13_block} {l4 : Int32} {s : t_S} (hrc : INB_X13_block 2 0 rc) (h_s : IL 0 (l4.toNatClampNeg) s) : t_pq (k_X13_statement_67 rc l4 s) (fun y => IL 2 0 y.2) := by
  unfold k_X13_statement_67
  exact pc_if (fun _ => in_st (IL.kind h_s) (fun s1 h_s1 => pc_bd (in_f_X13_event h_s1) (fun r2 h_r2 => pc_bd (in_f_X13_mustBe h_r2) (fun r3 h_r3 => pc_some (IL.any h_r3))))) (fun _ => pc_none)
theorem in_k_X13_varLine_49 {l1 : Int32} {l2 : Int32} {k0 : Int32} {s : t_S} (h_s : IL 1 (l1.toNatClampNeg) s) : t_pq (k_X13_varLine_49 l1 l2 k0 s) (fun y => IL 2 0 y) := by
  unfold k_X13_varLine_49
  exact pc_bd (in_f_X13_addLocal h_s) (fun r1 h_r1 => pc_if (fun _ => in_st (IL.into h_r1) (fun s1 h_s1 => pc_bd (in_f_X13_typeHint h_s1) (fun r3 h_r3 => in_st (IL.set h_r3 ⟨by decide, by decide, by decide, fun y => absurd y.1 (by decide)⟩) (fun s2 h_s2 => in_st (IL.set h_s2 ⟨by decide, by decide, by decide, fun y => absurd y.1 (by decide)⟩) (fun s3 h_s3 => pc_bd (in_f_X13_mustBe h_s3) (fun r4 h_r4 => pc_bd (in_f_X13_exp h_r4) (fun r5 h_r5 => in_st (IL.set h_r5 ⟨by decide, by decide, by decide, fun y => absurd y.1 (by decide)⟩) (fun s4 h_s4 => pc_if (fun _ => in_st (IL.set h_s4 ⟨by decide, by decide, by decide, fun y => absurd y.2 (by decide)⟩) (fun s5 h_s5 => pc_some (IL.any h_s5))) (fun _ => pc_none))))))))) (fun _ => pc_none))
theorem in_k_X13_varLine_48 {l1 : Int32} {l2 : Int32} {s : t_S} (h_s : IL 1 (l1.toNatClampNeg) s) : t_pq (k_X13_varLine_48 l1 l2 s) (fun y => IL 2 0 y) := by
  unfold k_X13_varLine_48
  exact (in_k_X13_varLine_49 h_s)
theorem in_f_X13_varLine {x1 : Int32} {s : t_S} (h_s : IL 1 (x1.toNatClampNeg) s) : t_pq (f_X13_varLine x1 s) (fun y => IL 2 0 y) := by
  unfold f_X13_varLine
  exact pc_if (fun _ => in_st (IL.set h_s ⟨by decide, by decide, by decide, fun y => absurd y.1 (by decide)⟩) (fun s1 h_s1 => pc_if (fun _ => pc_if (fun _ => (in_k_X13_varLine_48 h_s1)) (fun _ => pc_if (fun _ => pc_bd (in_f_X13_name h_s1) (fun r2 h_r2 => (in_k_X13_varLine_49 h_r2))) (fun _ => (in_k_X13_varLine_48 h_s1)))) (fun _ => (in_k_X13_varLine_48 h_s1)))) (fun _ => pc_none)
theorem in_k_X13_simple_108 {l1 : Int32} {k0 : Int32} {k1 : Int32} {s : t_S} (h_s : IL 0 (k1.toNatClampNeg) s) : t_pq (k_X13_simple_108 l1 k0 k1 s) (fun y => IL 2 0 y) := by
  unfold k_X13_simple_108
  exact pc_if (fun _ => in_st (IL.kind h_s) (fun s1 h_s1 => pc_if (fun _ => pc_bd (in_f_X13_exp h_s1) (fun r3 h_r3 => pc_if (fun _ => in_st (IL.set h_r3 ⟨by decide, by decide, by decide, fun y => absurd y.1 (by decide)⟩) (fun s2 h_s2 => pc_some (IL.any h_s2))) (fun _ => pc_none))) (fun _ => pc_some (IL.any h_s1)))) (fun _ => pc_none)
theorem in_k_X13_simple_215 {l1 : Int32} {s : t_S} (h_s : IL zl xl s) : t_pq (k_X13_simple_215 l1 s) (fun y => IL zl xl y) := by
  unfold k_X13_simple_215
  exact pc_if (fun z1 => in_st (IL.set h_s ⟨by decide, by decide, by decide, fun y => absurd y.1 (by decide)⟩) (fun s1 h_s1 => pc_bd (in_f_X13_next h_s1) (fun r2 h_r2 => pc_some h_r2))) (fun _ => pc_none)
theorem in_k_X13_simple_276 {l1 : Int32} {k0 : Int32} {k1 : Int32} {s : t_S} (h_s : IL 0 (k1.toNatClampNeg) s) : t_pq (k_X13_simple_276 l1 k0 k1 s) (fun y => IL 2 0 y) := by
  unfold k_X13_simple_276
  exact pc_if (fun _ => in_st (IL.kind h_s) (fun s1 h_s1 => pc_bd (in_f_X13_wordOf h_s1) (fun r2 h_r2 => pc_bd (in_f_X13_exp h_r2) (fun r3 h_r3 => pc_if (fun _ => in_st (IL.set h_r3 ⟨by decide, by decide, by decide, fun y => absurd y.1 (by decide)⟩) (fun s2 h_s2 => pc_some (IL.any h_s2))) (fun _ => pc_none))))) (fun _ => pc_none)
theorem in_f_X13_simpleMore {x1 : Int32} {x2 : Int32} {s : t_S} (h_s : IL 0 (x1.toNatClampNeg) s) : t_pq (f_X13_simpleMore x1 x2 s) (fun y => IL 2 0 y) := by
  unfold f_X13_simpleMore
  exact pc_if (fun _ => pc_if (fun _ => in_st (IL.kind h_s) (fun s1 h_s1 => pc_some (IL.any h_s1))) (fun _ => pc_none)) (fun _ => pc_if (fun _ => pc_if (fun _ => in_st (IL.kind h_s) (fun s2 h_s2 => pc_bd (in_f_X13_wordOf h_s2) (fun r3 h_r3 => pc_some (IL.any h_r3)))) (fun _ => pc_none)) (fun _ => pc_if (fun _ => pc_if (fun _ => in_st (IL.kind1 (by decide) h_s) (fun s3 h_s3 => pc_bd (in_f_X13_wordOf h_s3) (fun r5 h_r5 => pc_bd (in_f_X13_mustWord h_r5) (fun r6 h_r6 => pc_bd (in_f_X13_into h_r6) (fun r7 h_r7 => pc_some (IL.any h_r7)))))) (fun _ => pc_none)) (fun _ => pc_if (fun _ => pc_if (fun _ => in_st (IL.kind h_s) (fun s4 h_s4 => pc_some (IL.any h_s4))) (fun _ => pc_none)) (fun _ => pc_if (fun _ => pc_if (fun _ => in_st (IL.kind h_s) (fun s5 h_s5 => pc_bd (in_f_X13_exp h_s5) (fun r10 h_r10 => in_st (IL.set h_r10 ⟨by decide, by decide, by decide, fun y => absurd y.1 (by decide)⟩) (fun s6 h_s6 => pc_bd (in_f_X13_mustWord h_s6) (fun r11 h_r11 => pc_bd (in_f_X13_callOf h_r11) (fun r12 h_r12 => in_st (IL.set h_r12 ⟨by decide, by decide, by decide, fun y => absurd y.1 (by decide)⟩) (fun s7 h_s7 => pc_some (IL.any h_s7)))))))) (fun _ => pc_none)) (fun _ => pc_if (fun _ => pc_if (fun _ => in_st (IL.kind1 (by decide) h_s) (fun s8 h_s8 => pc_bd (in_f_X13_exp h_s8) (fun r14 h_r14 => in_st (IL.set h_r14 ⟨by decide, by decide, by decide, fun y => absurd y.1 (by decide)⟩) (fun s9 h_s9 => pc_bd (in_f_X13_mustWord h_s9) (fun r15 h_r15 => pc_bd (in_f_X13_wordOf h_r15) (fun r16 h_r16 => pc_bd (in_f_X13_mustWord h_r16) (fun r17 h_r17 => pc_bd (in_f_X13_exp h_r17) (fun r18 h_r18 => in_st (IL.set h_r18 ⟨by decide, by decide, by decide, fun y => absurd y.1 (by decide)⟩) (fun s10 h_s10 => pc_bd (in_f_X13_mustWord h_s10) (fun r19 h_r19 => pc_bd (in_f_X13_into h_r19) (fun r20 h_r20 => pc_some (IL.any h_r20)))))))))))) (fun _ => pc_none)) (fun _ => pc_if (fun _ => pc_if (fun _ => in_st (IL.kind h_s) (fun s11 h_s11 => pc_some (IL.any h_s11))) (fun _ => pc_none)) (fun _ => pc_if (fun _ => pc_if (fun _ => in_st (IL.kind h_s) (fun s12 h_s12 => pc_some (IL.any h_s12))) (fun _ => pc_none)) (fun _ => pc_if (fun _ => pc_if (fun _ => in_st (IL.kind h_s) (fun s13 h_s13 => pc_some (IL.any h_s13))) (fun _ => pc_none)) (fun _ => pc_if (fun _ => in_st (IL.kind h_s) (fun s14 h_s14 => pc_bd (in_f_X13_callOf h_s14) (fun r25 h_r25 => in_st (IL.set h_r25 ⟨by decide, by decide, by decide, fun y => absurd y.1 (by decide)⟩) (fun s15 h_s15 => pc_some (IL.any h_s15))))) (fun _ => pc_none))))))))))
theorem in_f_X13_simple {x1 : Int32} {x2 : Int32} {s : t_S} (h_s : IL 0 (x1.toNatClampNeg) s) : t_pq (f_X13_simple x1 x2 s) (fun y => IL 2 0 y) := by
  unfold f_X13_simple
  exact pc_if (fun _ => pc_if (fun _ => in_st (IL.kind1 (by decide) h_s) (fun s1 h_s1 => pc_bd (in_f_X13_varLine h_s1) (fun r2 h_r2 => pc_some (IL.any h_r2)))) (fun _ => pc_none)) (fun _ => pc_if (fun _ => pc_if (fun _ => (in_k_X13_simple_108 h_s)) (fun _ => (in_k_X13_simple_108 h_s))) (fun _ => pc_if (fun _ => pc_if (fun _ => in_st (IL.kind1 (by decide) h_s) (fun s2 h_s2 => pc_bd (in_f_X13_callOf h_s2) (fun r4 h_r4 => in_st (IL.set h_r4 ⟨by decide, by decide, by decide, fun y => absurd y.1 (by decide)⟩) (fun s3 h_s3 => pc_if (fun _ => pc_some (IL.any h_s3)) (fun _ => pc_bd (in_f_X13_next h_s3) (fun r6 h_r6 => pc_bd (in_f_X13_into h_r6) (fun r7 h_r7 => pc_some (IL.any h_r7)))))))) (fun _ => pc_none)) (fun _ => pc_if (fun _ => pc_if (fun _ => in_st (IL.kind h_s) (fun s4 h_s4 => pc_if (fun _ => pc_if (fun _ => pc_if (fun _ => pc_bd (in_f_X13_fail h_s4) (fun r12 h_r12 => (in_any (in_k_X13_simple_215 h_r12)))) (fun _ => (in_any (in_k_X13_simple_215 h_s4)))) (fun _ => (in_any (in_k_X13_simple_215 h_s4)))) (fun _ => (in_any (in_k_X13_simple_215 h_s4))))) (fun _ => pc_none)) (fun _ => pc_if (fun _ => pc_if (fun _ => in_st (IL.kind h_s) (fun s5 h_s5 => pc_bd (in_f_X13_exp h_s5) (fun r14 h_r14 => in_st (IL.set h_r14 ⟨by decide, by decide, by decide, fun y => absurd y.1 (by decide)⟩) (fun s6 h_s6 => pc_some (IL.any h_s6))))) (fun _ => pc_none)) (fun _ => pc_if (fun _ => pc_if (fun _ => (in_k_X13_simple_276 h_s)) (fun _ => (in_k_X13_simple_276 h_s))) (fun _ => pc_if (fun _ => pc_if (fun _ => (in_k_X13_simple_276 h_s)) (fun _ => (in_k_X13_simple_276 h_s))) (fun _ => pc_if (fun _ => pc_if (fun _ => (in_k_X13_simple_108 h_s)) (fun _ => (in_k_X13_simple_108 h_s))) (fun _ => pc_bd (in_f_X13_simpleMore h_s) (fun r15 h_r15 => pc_some (IL.any h_r15))))))))))
theorem in_k_X13_assignment_146 {l1 : Int32} {l2 : Int32} {s : t_S} (h_s : IL zl xl s) : t_pq (k_X13_assignment_146 l1 l2 s) (fun y => IL zl xl y) := by
  unfold k_X13_assignment_146
  exact pc_if (fun z1 => in_st (IL.set h_s ⟨by decide, by decide, by decide, fun y => absurd y.1 (by decide)⟩) (fun s1 h_s1 => pc_bd (in_f_X13_mustBe h_s1) (fun r2 h_r2 => pc_bd (in_f_X13_exp h_r2) (fun r3 h_r3 => in_st (IL.set h_r3 ⟨by decide, by decide, by decide, fun y => absurd y.1 (by decide)⟩) (fun s2 h_s2 => pc_bd (in_f_X13_mustBe h_s2) (fun r4 h_r4 => pc_some h_r4)))))) (fun _ => pc_none)
theorem in_k_X13_assignment_86 {l1 : Int32} {l2 : Int32} {l3 : Int32} {k0 : Int32} {s : t_S} (h_s : IL zl xl s) : t_pq (k_X13_assignment_86 l1 l2 l3 k0 s) (fun z => Sum.elim (fun y => IL zl xl y.2.2) (fun y => IL zl xl y) z) := by
  unfold k_X13_assignment_86
  exact pc_bd (in_f_X13_node h_s) (fun r1 h_r1 => pc_bd (in_f_X13_next h_r1) (fun r2 h_r2 => pc_bd (in_f_X13_hang h_r2) (fun r3 h_r3 => pc_if (fun _ => pc_bd (in_f_X13_exp h_r3) (fun r4 h_r4 => pc_if (fun z1 => in_st (IL.set h_r4 ⟨by decide, by decide, by decide, fun y => absurd y.1 (by decide)⟩) (fun s1 h_s1 => pc_bd (in_f_X13_mustBe h_s1) (fun r6 h_r6 => pc_some h_r6))) (fun _ => pc_none))) (fun _ => pc_bd (in_f_X13_freeName h_r3) (fun r7 h_r7 => pc_if (fun z2 => in_st (IL.setJ h_r7) (fun s2 h_s2 => pc_bd (in_f_X13_next h_s2) (fun r9 h_r9 => pc_some h_r9))) (fun _ => pc_none))))))
theorem in_k_X13_assignment_67 {l1 : Int32} {l2 : Int32} {s : t_S} (h_s : IL zl xl s) : t_pq (k_X13_assignment_67 l1 l2 s) (fun z => Sum.elim (fun y => IL zl xl y.2.2) (fun y => IL zl xl y) z) := by
  unfold k_X13_assignment_67
  exact pc_if (fun _ => (in_k_X13_assignment_86 h_s)) (fun _ => (in_k_X13_assignment_86 h_s))
theorem in_k_X13_assignment_42 {l1 : Int32} {l2 : Int32} {s : t_S} (h_s : IL zl xl s) : t_pq (k_X13_assignment_42 l1 l2 s) (fun z => Sum.elim (fun y => IL zl xl y.2.2) (fun y => IL zl xl y) z) := by
  unfold k_X13_assignment_42
  exact pc_if (fun _ => pc_if (fun _ => pc_if (fun _ => pc_mp ((in_k_X13_assignment_146 h_s))) (fun _ => (in_k_X13_assignment_67 h_s))) (fun _ => (in_k_X13_assignment_67 h_s))) (fun _ => pc_mp ((in_k_X13_assignment_146 h_s)))
theorem in_b_X13_assignment_42 {x : Int32 × Int32 × t_S} (h : IL zl xl x.2.2) : t_pq (b_X13_assignment_42 x) (fun z => Sum.elim (fun y => IL zl xl y.2.2) (fun y => IL zl xl y) z) := in_k_X13_assignment_42 h
theorem in_f_X13_assignment {x1 : Int32} {s : t_S} (h_s : IL 0 (x1.toNatClampNeg) s) : t_pq (f_X13_assignment x1 s) (fun y => IL 2 0 y) := by
  unfold f_X13_assignment
  exact pc_if (fun _ => in_st (IL.kind h_s) (fun s1 h_s1 => pc_bd (in_f_X13_name h_s1) (fun r2 h_r2 => in_st (IL.set h_r2 ⟨by decide, by decide, by decide, fun y => absurd y.1 (by decide)⟩) (fun s2 h_s2 => pc_bd (in_f_X13_next h_s2) (fun r3 h_r3 => pc_bd (in_f_X13_node h_r3) (fun r4 h_r4 => pc_if (fun _ => in_st (IL.setJ h_r4) (fun s3 h_s3 => pc_lp (fun x h => in_b_X13_assignment_42 h) (IL.any h_s3))) (fun _ => pc_none))))))) (fun _ => pc_none)
theorem in_m_X13_statement {rc : RT_X13_block} {x2 : Int32} {x3 : Int32} {s : t_S} (hrc : INB_X13_block 2 0 rc) (h_s : IL 2 0 s) : t_pq (m_X13_statement rc x2 x3 s) (fun y => IL 2 0 y.2) := by
  unfold m_X13_statement
  exact pc_if (fun _ => pc_bd (in_f_X13_fail h_s) (fun r18 h_r18 => pc_some (IL.any h_r18))) (fun _ => in_st (IL.set h_s ⟨by decide, by decide, by decide, fun y => absurd y.2 (by decide)⟩) (fun s1 h_s1 => pc_bd (in_f_X13_line h_s1) (fun r2 h_r2 => pc_if (fun _ => pc_if (fun _ => (in_k_X13_statement_67 hrc h_r2)) (fun _ => pc_if (fun _ => (in_k_X13_statement_67 hrc h_r2)) (fun _ => pc_if (fun _ => (in_k_X13_statement_67 hrc h_r2)) (fun _ => pc_bd (in_f_X13_next h_r2) (fun r3 h_r3 => pc_if (fun _ => pc_if (fun _ => in_st (IL.kind h_r3) (fun s2 h_s2 => pc_bd (in_f_X13_exp h_s2) (fun r5 h_r5 => in_st (IL.set h_r5 ⟨by decide, by decide, by decide, fun y => absurd y.1 (by decide)⟩) (fun s3 h_s3 => pc_bd (hrc.1 _ _ _ (IL.any h_s3)) (fun r6 h_r6 => in_st (IL.set h_r6 ⟨by decide, by decide, by decide, fun y => absurd y.1 (by decide)⟩) (fun s4 h_s4 => pc_if (fun _ => pc_some (IL.any h_s4)) (fun _ => pc_bd (in_f_X13_next h_s4) (fun r8 h_r8 => pc_bd (hrc.1 _ _ _ (IL.any h_r8)) (fun r9 h_r9 => in_st (IL.set h_r9 ⟨by decide, by decide, by decide, fun y => absurd y.1 (by decide)⟩) (fun s5 h_s5 => pc_some (IL.any h_s5))))))))))) (fun _ => pc_none)) (fun _ => pc_if (fun _ => pc_if (fun _ => in_st (IL.kind h_r3) (fun s6 h_s6 => pc_bd (in_f_X13_exp h_s6) (fun r11 h_r11 => in_st (IL.set h_r11 ⟨by decide, by decide, by decide, fun y => absurd y.1 (by decide)⟩) (fun s7 h_s7 => pc_bd (hrc.1 _ _ _ (IL.any h_s7)) (fun r12 h_r12 => in_st (IL.set h_r12 ⟨by decide, by decide, by decide, fun y => absurd y.1 (by decide)⟩) (fun s8 h_s8 => pc_some (IL.any h_s8))))))) (fun _ => pc_none)) (fun _ => pc_if (fun _ => pc_if (fun _ => in_st (IL.kind h_r3) (fun s9 h_s9 => pc_bd (hrc.2.2.1 _ _ _ (IL.any h_s9)) (fun r14 h_r14 => in_st (IL.set h_r14 ⟨by decide, by decide, by decide, fun y => absurd y.1 (by decide)⟩) (fun s10 h_s10 => pc_some (IL.any h_s10))))) (fun _ => pc_none)) (fun _ => pc_bd (in_f_X13_simple h_r3) (fun r15 h_r15 => pc_bd (in_f_X13_mustBe h_r15) (fun r16 h_r16 => pc_some (IL.any h_r16))))))))))) (fun _ => pc_bd (in_f_X13_assignment h_r2) (fun r17 h_r17 => pc_some (IL.any h_r17))))))
theorem INB_X13_block_R : ∀ n, INB_X13_block 2 0 (R_X13_block n) := by
  intro n
  induction n with
  | zero => exact ⟨fun _ _ _ _ => pc_none, fun _ _ _ _ => pc_none, fun _ _ _ _ => pc_none, fun _ _ _ _ => pc_none⟩
  | succ n ih => exact ⟨fun _ _ _ h => in_m_X13_block ih h, fun _ _ _ h => in_m_X13_branch ih h, fun _ _ _ h => in_m_X13_branches ih h, fun _ _ _ h => in_m_X13_statement ih h⟩
theorem in_f_X13_branches {x2 : Int32} {x3 : Int32} {s : t_S} (h_s : IL 2 0 s) : t_pq (f_X13_branches x2 x3 s) (fun y => IL 2 0 y.2) := by
  unfold f_X13_branches
  exact ((INB_X13_block_R 100).2.2.1 _ _ _ h_s)
theorem in_k_X13_function_173 {k0 : Int32} {k1 : Int32} {s : t_S} (h_s : IL zl xl s) : t_pq (k_X13_function_173 k0 k1 s) (fun y => IL zl xl y) := by
  unfold k_X13_function_173
  exact pc_if (fun z1 => in_st (IL.set h_s ⟨by decide, by decide, by decide, fun y => absurd y.1 (by decide)⟩) (fun s1 h_s1 => pc_some h_s1)) (fun _ => pc_none)
theorem in_f_X13_block {x2 : Int32} {x3 : Int32} {s : t_S} (h_s : IL 2 0 s) : t_pq (f_X13_block x2 x3 s) (fun y => IL 2 0 y.2) := by
  unfold f_X13_block
  exact ((INB_X13_block_R 100).1 _ _ _ h_s)
theorem in_k_X13_function_123 {l1 : Int32} {l3 : Int32} {s : t_S} (h_s : IL 2 0 s) : t_pq (k_X13_function_123 l1 l3 s) (fun y => IL 2 0 y) := by
  unfold k_X13_function_123
  exact pc_bd (in_f_X13_mustBe h_s) (fun r1 h_r1 => in_st (IL.set h_r1 ⟨by decide, by decide, by decide, fun y => absurd y.2 (by decide)⟩) (fun s1 h_s1 => pc_if (fun z1 => in_st (IL.set h_s1 ⟨by decide, by decide, by decide, fun y => absurd y.2 (by decide)⟩) (fun s2 h_s2 => pc_if (fun _ => pc_bd (in_f_X13_branches h_s2) (fun r4 h_r4 => (in_k_X13_function_173 h_r4))) (fun _ => pc_bd (in_f_X13_block h_s2) (fun r3 h_r3 => (in_k_X13_function_173 h_r3))))) (fun _ => pc_none)))
theorem in_f_X13_function {x2 : Int32} {s : t_S} (h_s : IL 2 0 s) : t_pq (f_X13_function x2 s) (fun y => IL 2 0 y) := by
  unfold f_X13_function
  exact pc_bd (in_f_X13_outside h_s) (fun r1 h_r1 => pc_if (fun _ => in_st (IL.set h_r1 ⟨by decide, by decide, by decide, fun y => absurd y.2 (by decide)⟩) (fun s1 h_s1 => pc_if (fun z1 => in_st (IL.set h_s1 ⟨by decide, by decide, by decide, fun y => absurd y.1 (by decide)⟩) (fun s2 h_s2 => in_st (IL.set h_s2 ⟨by decide, by decide, by decide, fun y => absurd y.1 (by decide)⟩) (fun s3 h_s3 => in_st (IL.set h_s3 ⟨by decide, by decide, by decide, fun y => absurd y.1 (by decide)⟩) (fun s4 h_s4 => in_st (IL.set h_s4 ⟨by decide, by decide, by decide, fun y => absurd y.1 (by decide)⟩) (fun s5 h_s5 => in_st (IL.set h_s5 ⟨by decide, by decide, by decide, fun y => absurd y.1 (by decide)⟩) (fun s6 h_s6 => pc_bd (in_f_X13_next h_s6) (fun r3 h_r3 => pc_bd (in_f_X13_mustWord h_r3) (fun r4 h_r4 => in_st (IL.set h_r4 ⟨by decide, by decide, by decide, fun y => absurd y.1 (by decide)⟩) (fun s7 h_s7 => pc_bd (in_f_X13_freeName h_s7) (fun r5 h_r5 => in_st (IL.set h_r5 ⟨by decide, by decide, by decide, fun y => absurd y.1 (by decide)⟩) (fun s8 h_s8 => pc_bd (in_f_X13_next h_s8) (fun r6 h_r6 => pc_bd (in_f_X13_mustBe h_r6) (fun r7 h_r7 => pc_if (fun _ => pc_bd (in_f_X13_parameters h_r7) (fun r9 h_r9 => (in_k_X13_function_123 h_r9))) (fun _ => (in_k_X13_function_123 h_r7))))))))))))))) (fun _ => pc_none))) (fun _ => pc_some h_r1))
theorem in_k_X13_item_16 {k0 : Int32} {s : t_S} (h_s : IL 2 0 s) : t_pq (k_X13_item_16 k0 s) (fun y => IL 2 0 y) := by
  unfold k_X13_item_16
  exact pc_if (fun _ => pc_bd (in_f_X13_fail h_s) (fun r9 h_r9 => pc_some h_r9)) (fun _ => pc_bd (in_f_X13_next h_s) (fun r2 h_r2 => in_st (IL.set h_r2 ⟨by decide, by decide, by decide, fun y => absurd y.2 (by decide)⟩) (fun s1 h_s1 => in_st (IL.set h_s1 ⟨by decide, by decide, by decide, fun y => absurd y.2 (by decide)⟩) (fun s2 h_s2 => in_st (IL.set h_s2 ⟨by decide, by decide, by decide, fun y => absurd y.2 (by decide)⟩) (fun s3 h_s3 => in_st (IL.set h_s3 ⟨by decide, by decide, by decide, fun y => absurd y.2 (by decide)⟩) (fun s4 h_s4 => pc_if (fun _ => pc_bd (in_f_X13_outside h_s4) (fun r7 h_r7 => pc_if (fun _ => pc_if (fun z1 => in_st (IL.set h_r7 ⟨by decide, by decide, by decide, fun y => absurd y.1 (by decide)⟩) (fun s8 h_s8 => in_st (IL.set h_s8 ⟨by decide, by decide, by decide, fun y => absurd y.1 (by decide)⟩) (fun s9 h_s9 => in_st (IL.set h_s9 ⟨by decide, by decide, by decide, fun y => absurd y.2 (by decide)⟩) (fun s10 h_s10 => (in_k_X13_item_122 h_s10))))) (fun _ => pc_none)) (fun _ => (in_k_X13_item_122 h_r7)))) (fun _ => pc_if (fun _ => pc_bd (in_f_X13_outside h_s4) (fun r5 h_r5 => pc_if (fun _ => pc_if (fun z2 => in_st (IL.set h_r5 ⟨by decide, by decide, by decide, fun y => absurd y.1 (by decide)⟩) (fun s5 h_s5 => in_st (IL.set h_s5 ⟨by decide, by decide, by decide, fun y => absurd y.1 (by decide)⟩) (fun s6 h_s6 => in_st (IL.set h_s6 ⟨by decide, by decide, by decide, fun y => absurd y.2 (by decide)⟩) (fun s7 h_s7 => (in_k_X13_item_218 h_s7))))) (fun _ => pc_none)) (fun _ => (in_k_X13_item_218 h_r5)))) (fun _ => pc_if (fun _ => pc_bd (in_f_X13_component h_s4) (fun r4 h_r4 => pc_some h_r4)) (fun _ => pc_bd (in_f_X13_function h_s4) (fun r3 h_r3 => pc_some h_r3))))))))))
theorem in_f_X13_item {s : t_S} (h_s : IL 2 0 s) : t_pq (f_X13_item s) (fun y => IL 2 0 y) := by
  unfold f_X13_item
  exact pc_if (fun _ => (in_k_X13_item_16 h_s)) (fun _ => (in_k_X13_item_16 h_s))
end
