/-! Level 2: links: what they settle stands at places of its own, in order (types, templs, operations). By gen_sa.py. -/
section
def ARs (a : Nat) : Prop := 335 ≤ a ∧ a < 845 ∧ a ≠ 353
/-- of links of such a sort: where they settle, below n; in order; below b -/
def sa_1 (K : Int32 → Prop) (L n b : Int) (s : t_S) : Prop := ∀ e : Nat, (e : Int) < (s.1 846 6).toInt → K (s.1 849 e) → 0 ≤ (s.1 852 e).toInt ∧ (s.1 852 e).toInt < n ∧ (n ≤ L → (s.1 852 e).toInt < b ∧ ∀ e' : Nat, e' < e → K (s.1 849 e') → (s.1 852 e').toInt < (s.1 852 e).toInt)
def sk_0 (x : Int32) : Prop := x = 0
def sk_13 (x : Int32) : Prop := x = 13
def sk_7 (x : Int32) : Prop := x = 7 ∨ x = 12
def SP (b0 b13 b7 : Int) (s : t_S) : Prop := (0 ≤ (s.1 316 8).toInt ∧ 0 ≤ (s.1 353 9).toInt ∧ 0 ≤ (s.1 334 2).toInt) ∧ sa_1 sk_0 3000 (s.1 316 8).toInt b0 s ∧ sa_1 sk_13 3000 (s.1 353 9).toInt b13 s ∧ sa_1 sk_7 15000 (s.1 334 2).toInt b7 s
def SA (s : t_S) : Prop := SP 2147483648 2147483648 2147483648 s
def so_ok (x : Int32) : Prop := ¬ sk_0 x ∧ ¬ sk_13 x ∧ ¬ sk_7 x
theorem sa_1.fr {K : Int32 → Prop} {L n b : Int} {s s' : t_S} (h : sa_1 K L n b s) (e6 : s'.1 846 6 = s.1 846 6) (e9 : ∀ e, s'.1 849 e = s.1 849 e) (e2 : ∀ e, s'.1 852 e = s.1 852 e) : sa_1 K L n b s' := fun e he hk => by
  rw [e6] at he
  rw [e9] at hk
  obtain ⟨h1, h2, h3⟩ := h e he hk
  rw [e2]
  exact ⟨h1, h2, fun y => ⟨(h3 y).1, fun e' a1 a2 => by rw [e9] at a2; rw [e2]; exact (h3 y).2 e' a1 a2⟩⟩
theorem sa_1.mono {K : Int32 → Prop} {L n n' b b' : Int} {s : t_S} (h : sa_1 K L n b s) (hn : n ≤ n') (hb : n' ≤ L → b ≤ b' ∨ n ≤ b' ∨ 2147483648 ≤ b') : sa_1 K L n' b' s := fun e he hk => by
  obtain ⟨h1, h2, h3⟩ := h e he hk
  have := i32_lt (s.1 852 e)
  refine ⟨h1, by omega, fun y => ?_⟩
  obtain ⟨a1, a2⟩ := h3 (by omega)
  exact ⟨by have := hb y; omega, a2⟩
theorem SP.mono {b0 b13 b7 : Int} {s : t_S} (h : SP b0 b13 b7 s) : SA s := ⟨h.1, h.2.1.mono (Int.le_refl _) (fun _ => Or.inr (Or.inr (by decide))), h.2.2.1.mono (Int.le_refl _) (fun _ => Or.inr (Or.inr (by decide))), h.2.2.2.mono (Int.le_refl _) (fun _ => Or.inr (Or.inr (by decide)))⟩
/-- cells that don't matter here -/
def sa_W (a k : Nat) : Prop := a ≠ 849 ∧ a ≠ 852 ∧ ¬ (a = 846 ∧ k = 6) ∧ ¬ (a = 316 ∧ k = 8) ∧ ¬ (a = 353 ∧ k = 9) ∧ ¬ (a = 334 ∧ k = 2)
theorem SP.fr {b0 b13 b7 : Int} {s s' : t_S} (h : SP b0 b13 b7 s) (f : l2_fr (fun a k => sa_W a k) s s') : SP b0 b13 b7 s' := by
  have e : ∀ a k, ¬ sa_W a k → s'.1 a k = s.1 a k := fun a k y => (f a k y).1
  have n6 := e 846 6 (by unfold sa_W; omega)
  have n9 : ∀ i, s'.1 849 i = s.1 849 i := fun i => e 849 i (by unfold sa_W; omega)
  have n2 : ∀ i, s'.1 852 i = s.1 852 i := fun i => e 852 i (by unfold sa_W; omega)
  obtain ⟨h1, h2, h3, h4⟩ := h
  unfold SP
  rw [e 316 8 (by unfold sa_W; omega), e 353 9 (by unfold sa_W; omega), e 334 2 (by unfold sa_W; omega)]
  exact ⟨h1, h2.fr n6 n9 n2, h3.fr n6 n9 n2, h4.fr n6 n9 n2⟩
theorem SP.set {b0 b13 b7 : Int} {s : t_S} {a k : Nat} {v : Int32} (h : SP b0 b13 b7 s) (hk : sa_W a k) : SP b0 b13 b7 (t_setI s a k v) := h.fr (l2_fr.set hk)
theorem SP.setJ {b0 b13 b7 : Int} {s : t_S} {a k : Nat} {v : Int64} (h : SP b0 b13 b7 s) : SP b0 b13 b7 (t_setJ s a k v) := h
theorem sa_ar {a k : Nat} (h : ARs a) : sa_W a k := by
  unfold ARs at h
  unfold sa_W
  omega
theorem sa_row {a n : Nat} {x : Int32} (h : t_ix x n = true) (h8 : 354 ≤ a) (hn : a + n ≤ 845) : ARs (a + 1 * x.toNatClampNeg) := by
  have q := t_ixI.mp h
  have e : x.toNatClampNeg = x.toInt.toNat := rfl
  unfold ARs
  rw [e]
  omega
theorem sa_st {T : Type} {a : t_S} {f : t_S → Option T} {Q : T → Prop} (h : SA a) (g : ∀ s, SA s → t_pq (f s) Q) : t_pq (t_let a f) Q := g a h
/-- a new type's node, templ's node, operation -/
def SPn (x : Int32) (s : t_S) : Prop := SA s ∧ SP x.toInt 2147483648 2147483648 s ∧ 0 ≤ x.toInt ∧ x.toInt < (s.1 316 8).toInt
def SPt (x : Int32) (s : t_S) : Prop := SA s ∧ SP 2147483648 x.toInt 2147483648 s ∧ 0 ≤ x.toInt ∧ x.toInt < (s.1 353 9).toInt
def SPe (b13 : Int) (x : Int32) (s : t_S) : Prop := SA s ∧ SP 2147483648 b13 x.toInt s ∧ 0 ≤ x.toInt ∧ x.toInt < (s.1 334 2).toInt
theorem i32_inc {x : Int32} {N : Nat} (h : x < nI N) (h0 : 0 ≤ x.toInt) (hN : N < 2147483647) : ∃ n : Nat, n < N ∧ x = nI n ∧ x + 1 = nI (n + 1) := by
  have q := Int32.lt_iff_toInt_lt.mp h
  rw [nI_toInt (by omega)] at q
  refine ⟨x.toInt.toNat, by omega, ?_, ?_⟩
  · rw [← Int32.toInt_inj, nI_toInt (by omega)]
    omega
  · rw [← nI_1]
    refine congrArg (fun y => y + 1) ?_
    rw [← Int32.toInt_inj, nI_toInt (by omega)]
    omega
theorem sp_one {s s1 s2 : t_S} {n : Nat} (h : SA s) (f1 : l2_fr (fun a k => a = 316 ∧ k = 8) s s1) (f2 : l2_fr (fun a k => sa_W a k) s1 s2) (e : s.1 316 8 = nI n) (e' : s1.1 316 8 = nI (n + 1)) (hn : n < 3001) : SPn (nI n) s2 := by
  have g : SP (nI n).toInt 2147483648 2147483648 s1 := by
    obtain ⟨h1, h2, h3, h4⟩ := h
    have c : ∀ a k, ¬ (a = 316 ∧ k = 8) → s1.1 a k = s.1 a k := fun a k y => (f1 a k y).1
    have n6 := c 846 6 (by omega)
    have n9 : ∀ i, s1.1 849 i = s.1 849 i := fun i => c 849 i (by omega)
    have n2 : ∀ i, s1.1 852 i = s.1 852 i := fun i => c 852 i (by omega)
    rw [e, nI_toInt (by omega)] at h1 h2
    unfold SP
    rw [c 353 9 (by omega), c 334 2 (by omega), e', nI_toInt (by omega), nI_toInt (by omega)]
    exact ⟨⟨by omega, h1.2.1, h1.2.2⟩, (h2.mono (by omega) (fun _ => Or.inr (Or.inl (Int.le_refl _)))).fr n6 n9 n2, h3.fr n6 n9 n2, h4.fr n6 n9 n2⟩
  have g2 := g.fr f2
  refine ⟨g2.mono, g2, by rw [nI_toInt (by omega)]; omega, ?_⟩
  rw [(f2 316 8 (by unfold sa_W; omega)).1, e', nI_toInt (by omega), nI_toInt (by omega)]
  omega
theorem sp_two {s s1 s2 : t_S} {n : Nat} (h : SA s) (f1 : l2_fr (fun a k => a = 353 ∧ k = 9) s s1) (f2 : l2_fr (fun a k => sa_W a k) s1 s2) (e : s.1 353 9 = nI n) (e' : s1.1 353 9 = nI (n + 1)) (hn : n < 6100) : SPt (nI n) s2 := by
  have g : SP 2147483648 (nI n).toInt 2147483648 s1 := by
    obtain ⟨h1, h2, h3, h4⟩ := h
    have c : ∀ a k, ¬ (a = 353 ∧ k = 9) → s1.1 a k = s.1 a k := fun a k y => (f1 a k y).1
    have n6 := c 846 6 (by omega)
    have n9 : ∀ i, s1.1 849 i = s.1 849 i := fun i => c 849 i (by omega)
    have n2 : ∀ i, s1.1 852 i = s.1 852 i := fun i => c 852 i (by omega)
    rw [e, nI_toInt (by omega)] at h1 h3
    unfold SP
    rw [c 316 8 (by omega), c 334 2 (by omega), e', nI_toInt (by omega), nI_toInt (by omega)]
    exact ⟨⟨h1.1, by omega, h1.2.2⟩, h2.fr n6 n9 n2, (h3.mono (by omega) (fun _ => Or.inr (Or.inl (Int.le_refl _)))).fr n6 n9 n2, h4.fr n6 n9 n2⟩
  have g2 := g.fr f2
  refine ⟨g2.mono, g2, by rw [nI_toInt (by omega)]; omega, ?_⟩
  rw [(f2 353 9 (by unfold sa_W; omega)).1, e', nI_toInt (by omega), nI_toInt (by omega)]
  omega
theorem sp_three {b13 : Int} {s s2 : t_S} {n : Nat} (h : SP 2147483648 b13 2147483648 s) (f : l2_fr (fun a k => sa_W a k ∨ (a = 334 ∧ k = 2)) s s2) (e : s.1 334 2 = nI n) (e' : s2.1 334 2 = nI (n + 1)) (hn : n < 16000) : SPe b13 (nI n) s2 := by
  have g : SP 2147483648 b13 (nI n).toInt s2 := by
    obtain ⟨h1, h2, h3, h4⟩ := h
    have c : ∀ a k, ¬ (sa_W a k ∨ (a = 334 ∧ k = 2)) → s2.1 a k = s.1 a k := fun a k y => (f a k y).1
    have n6 := c 846 6 (by unfold sa_W; omega)
    have n9 : ∀ i, s2.1 849 i = s.1 849 i := fun i => c 849 i (by unfold sa_W; omega)
    have n2 : ∀ i, s2.1 852 i = s.1 852 i := fun i => c 852 i (by unfold sa_W; omega)
    rw [e, nI_toInt (by omega)] at h1 h4
    unfold SP
    rw [c 316 8 (by unfold sa_W; omega), c 353 9 (by unfold sa_W; omega), e', nI_toInt (by omega), nI_toInt (by omega)]
    exact ⟨⟨h1.1, h1.2.1, by omega⟩, h2.fr n6 n9 n2, h3.fr n6 n9 n2, (h4.mono (by omega) (fun _ => Or.inr (Or.inl (Int.le_refl _)))).fr n6 n9 n2⟩
  refine ⟨g.mono, g, by rw [nI_toInt (by omega)]; omega, ?_⟩
  rw [e', nI_toInt (by omega), nI_toInt (by omega)]
  omega
theorem sa_f_X11_add {x1 : Int32} {s : t_S} (h_s : SA s) : t_pq (f_X11_add x1 s) (fun y => SPn y.1 y.2) := by
  unfold f_X11_add
  refine pc_if (fun z => ?_) (fun z => pc_some (show SPn 3000 s from ⟨h_s, ⟨h_s.1, fun e he hk => ?_, h_s.2.2⟩, by decide, ?_⟩))
  · obtain ⟨n, n1, n2, n3⟩ := i32_inc (N := 3001) z h_s.1.1 (by decide)
    refine pc_lt (pc_if (fun _ => pc_lt (pc_lt (pc_lt (pc_lt (pc_lt (pc_lt (pc_lt (pc_some ?_)))))))) (fun _ => pc_none))
    show SPn (s.1 316 8) _
    rw [n2]
    have e' : (t_setI s 316 8 (nI n + 1)).1 316 8 = nI (n + 1) := by simp only [l2_gI, reduceIte]; rw [← n2]; exact n3
    refine sp_one (s1 := t_setI s 316 8 (nI n + 1)) h_s (l2_fr.set ⟨rfl, rfl⟩) ?_ n2 e' n1
    have c : ∀ b k, 317 ≤ b → b ≤ 323 → sa_W b k := fun b k a1 a2 => by unfold sa_W; omega
    exact ((((((l2_fr.set (c _ _ (by decide) (by decide))).trans (l2_fr.set (c _ _ (by decide) (by decide)))).trans (l2_fr.set (c _ _ (by decide) (by decide)))).trans (l2_fr.set (c _ _ (by decide) (by decide)))).trans (l2_fr.set (c _ _ (by decide) (by decide)))).trans (l2_fr.setJ (c _ _ (by decide) (by decide)))).trans (l2_fr.setJ (c _ _ (by decide) (by decide)))
  · have q : ¬ (s.1 316 8).toInt < 3001 := fun y => z (Int32.lt_iff_toInt_lt.mpr y)
    obtain ⟨a1, a2, _⟩ := h_s.2.1 e he hk
    exact ⟨a1, a2, fun y => absurd y (by omega)⟩
  · have q : ¬ (s.1 316 8).toInt < 3001 := fun y => z (Int32.lt_iff_toInt_lt.mpr y)
    have e3 : (3000 : Int32).toInt = 3000 := rfl
    rw [e3]
    omega
theorem sa_f_X10_add {x1 : Int32} {s : t_S} (h_s : SA s) : t_pq (f_X10_add x1 s) (fun y => SPt y.1 y.2) := by
  unfold f_X10_add
  refine pc_if (fun z => ?_) (fun z => pc_some (show SPt 6099 s from ⟨h_s, ⟨h_s.1, h_s.2.1, fun e he hk => ?_, h_s.2.2.2⟩, by decide, ?_⟩))
  · obtain ⟨n, n1, n2, n3⟩ := i32_inc (N := 6100) z h_s.1.2.1 (by decide)
    refine pc_lt (pc_if (fun _ => pc_lt (pc_lt (pc_lt (pc_lt (pc_lt (pc_lt (pc_lt (pc_lt (pc_lt (pc_some ?_)))))))))) (fun _ => pc_none))
    show SPt (s.1 353 9) _
    rw [n2]
    have e' : (t_setI s 353 9 (nI n + 1)).1 353 9 = nI (n + 1) := by simp only [l2_gI, reduceIte]; rw [← n2]; exact n3
    refine sp_two (s1 := t_setI s 353 9 (nI n + 1)) h_s (l2_fr.set ⟨rfl, rfl⟩) ?_ n2 e' n1
    have c : ∀ b k, 354 ≤ b → b ≤ 362 → sa_W b k := fun b k a1 a2 => by unfold sa_W; omega
    exact ((((((((l2_fr.set (c _ _ (by decide) (by decide))).trans (l2_fr.set (c _ _ (by decide) (by decide)))).trans (l2_fr.set (c _ _ (by decide) (by decide)))).trans (l2_fr.set (c _ _ (by decide) (by decide)))).trans (l2_fr.set (c _ _ (by decide) (by decide)))).trans (l2_fr.set (c _ _ (by decide) (by decide)))).trans (l2_fr.set (c _ _ (by decide) (by decide)))).trans (l2_fr.setJ (c _ _ (by decide) (by decide)))).trans (l2_fr.setJ (c _ _ (by decide) (by decide)))
  · have q : ¬ (s.1 353 9).toInt < 6100 := fun y => z (Int32.lt_iff_toInt_lt.mpr y)
    obtain ⟨a1, a2, _⟩ := h_s.2.2.1 e he hk
    exact ⟨a1, a2, fun y => absurd y (by omega)⟩
  · have q : ¬ (s.1 353 9).toInt < 6100 := fun y => z (Int32.lt_iff_toInt_lt.mpr y)
    have e3 : (6099 : Int32).toInt = 6099 := rfl
    rw [e3]
    omega
theorem sp_emit {b13 : Int} {x1 x2 : Int32} {s : t_S} (h : SP 2147483648 b13 2147483648 s) : t_pq (f_X0_emit x1 x2 s) (fun y => SPe b13 y.1 y.2) := by
  unfold f_X0_emit
  refine pc_if (fun z => ?_) (fun z => pc_some (show SPe b13 15999 s from ⟨h.mono, ⟨h.1, h.2.1, h.2.2.1, fun e he hk => ?_⟩, by decide, ?_⟩))
  · obtain ⟨n, n1, n2, n3⟩ := i32_inc (N := 16000) z h.1.2.2 (by decide)
    refine pc_if (fun _ => pc_lt (pc_if (fun _ => pc_lt (pc_lt (pc_some ?_))) (fun _ => pc_none))) (fun _ => pc_none)
    have e3 : (t_setI (t_setI s 335 ((s.1 334 2).toNatClampNeg) x1) 336 (((t_setI s 335 ((s.1 334 2).toNatClampNeg) x1).1 334 2).toNatClampNeg) x2).1 334 2 = nI n := by simp only [l2_gI, Nat.reduceEqDiff, reduceIte]; exact n2
    have e4 : ∀ t : t_S, ∀ v : Int32, (t_setI t 334 2 v).1 334 2 = v := fun t v => by simp only [l2_gI, reduceIte]
    have e1 : ∀ t : t_S, t.1 334 2 = nI n → ((t_setI t 334 2 (t.1 334 2 + 1)).1 334 2) - 1 = nI n ∧ (t_setI t 334 2 (t.1 334 2 + 1)).1 334 2 = nI (n + 1) := fun t ht => by
      rw [e4, ht, nI_1]
      exact ⟨(pk_sub (b := 1) (by omega)).trans (by rw [Nat.add_sub_cancel]), rfl⟩
    obtain ⟨a1, a2⟩ := e1 _ e3
    show SPe b13 _ _
    rw [a1]
    refine sp_three h ?_ n2 a2 n1
    have c : ∀ b k, 335 ≤ b → b ≤ 336 → (sa_W b k ∨ (b = 334 ∧ k = 2)) := fun b k a1 a2 => Or.inl (by unfold sa_W; omega)
    exact ((l2_fr.set (c _ _ (by decide) (by decide))).trans (l2_fr.set (c _ _ (by decide) (by decide)))).trans (l2_fr.set (Or.inr ⟨rfl, rfl⟩))
  · have q : ¬ (s.1 334 2).toInt < 16000 := fun y => z (Int32.lt_iff_toInt_lt.mpr y)
    obtain ⟨a1, a2, _⟩ := h.2.2.2 e he hk
    exact ⟨a1, a2, fun y => absurd y (by omega)⟩
  · have q : ¬ (s.1 334 2).toInt < 16000 := fun y => z (Int32.lt_iff_toInt_lt.mpr y)
    have e3 : (15999 : Int32).toInt = 15999 := rfl
    rw [e3]
    omega
theorem sa_f_X0_emit {x1 x2 : Int32} {s : t_S} (h_s : SA s) : t_pq (f_X0_emit x1 x2 s) (fun y => SPe 2147483648 y.1 y.2) := sp_emit h_s
theorem sa_1.add {K : Int32 → Prop} {L n b b' : Int} {s s' : t_S} {l : Nat} (h : sa_1 K L n b s) (e6 : s.1 846 6 = nI l) (e6' : s'.1 846 6 = nI (l + 1)) (hl : l < 6002) (e9 : ∀ e, e ≠ l → s'.1 849 e = s.1 849 e) (e2 : ∀ e, e ≠ l → s'.1 852 e = s.1 852 e) (hb : b ≤ b') (hk : K (s'.1 849 l) → 0 ≤ (s'.1 852 l).toInt ∧ (s'.1 852 l).toInt < n ∧ (n ≤ L → b ≤ (s'.1 852 l).toInt ∧ (s'.1 852 l).toInt < b')) : sa_1 K L n b' s' := fun e he k => by
  rw [e6', nI_toInt (by omega)] at he
  by_cases z : e = l
  · subst z
    obtain ⟨a1, a2, a3⟩ := hk k
    refine ⟨a1, a2, fun y => ⟨(a3 y).2, fun e' f1 f2 => ?_⟩⟩
    rw [e9 e' (by omega)] at f2
    rw [e2 e' (by omega)]
    have := (h e' (by rw [e6, nI_toInt (by omega)]; omega) f2).2.2 y
    have := a3 y
    omega
  · rw [e9 e z] at k
    rw [e2 e z]
    obtain ⟨a1, a2, a3⟩ := h e (by rw [e6, nI_toInt (by omega)]; omega) k
    refine ⟨a1, a2, fun y => ⟨by have := a3 y; omega, fun e' f1 f2 => ?_⟩⟩
    rw [e9 e' (by omega)] at f2
    rw [e2 e' (by omega)]
    exact (a3 y).2 e' f1 f2
theorem sp_add {b0 b13 b7 c0 c13 c7 : Int} {x1 x2 x3 x4 x5 x6 : Int32} {s : t_S} (h : SP b0 b13 b7 s) (hb : b0 ≤ c0 ∧ b13 ≤ c13 ∧ b7 ≤ c7) (k0 : sk_0 x1 → 0 ≤ x5.toInt ∧ x5.toInt < (s.1 316 8).toInt ∧ ((s.1 316 8).toInt ≤ 3000 → b0 ≤ x5.toInt ∧ x5.toInt < c0)) (k13 : sk_13 x1 → 0 ≤ x5.toInt ∧ x5.toInt < (s.1 353 9).toInt ∧ ((s.1 353 9).toInt ≤ 3000 → b13 ≤ x5.toInt ∧ x5.toInt < c13)) (k7 : sk_7 x1 → 0 ≤ x5.toInt ∧ x5.toInt < (s.1 334 2).toInt ∧ ((s.1 334 2).toInt ≤ 15000 → b7 ≤ x5.toInt ∧ x5.toInt < c7)) : t_pq (f_X3_add x1 x2 x3 x4 x5 x6 s) (fun y => SP c0 c13 c7 y) := by
  unfold f_X3_add
  refine pc_if (fun z => ?_) (fun _ => pc_some ⟨h.1, h.2.1.mono (Int.le_refl _) (fun _ => Or.inl hb.1), h.2.2.1.mono (Int.le_refl _) (fun _ => Or.inl hb.2.1), h.2.2.2.mono (Int.le_refl _) (fun _ => Or.inl hb.2.2)⟩)
  by_cases y : t_ix (s.1 846 6) 6002 = true
  rotate_left
  · rw [if_neg y]
    exact pc_none
  have q := t_ixI.mp y
  obtain ⟨l, hl, e6⟩ : ∃ l : Nat, l < 6002 ∧ s.1 846 6 = nI l := ⟨(s.1 846 6).toInt.toNat, by omega, by
    rw [← Int32.toInt_inj, nI_toInt (by omega)]
    omega⟩
  have g : t_pq (f_X3_add x1 x2 x3 x4 x5 x6 s) (fun y => SP c0 c13 c7 y) := by
    obtain ⟨w, e2, z1, z2, z3, z4, z5, z6, z7, z8⟩ := ln_add (l := l) (x1 := x1) (x2 := x2) (x3 := x3) (x4 := x4) (x5 := x5) (x6 := x6) e6 hl
    intro v hv
    rw [e2] at hv
    cases hv
    have c : ∀ a k, ¬ ((a = 846 ∧ k = 6) ∨ (848 ≤ a ∧ a ≤ 853 ∧ k = l)) → w.1 a k = s.1 a k := fun a k y => (z1 a k y).1
    have n9 : ∀ i, i ≠ l → w.1 849 i = s.1 849 i := fun i y => c 849 i (by omega)
    have n2 : ∀ i, i ≠ l → w.1 852 i = s.1 852 i := fun i y => c 852 i (by omega)
    unfold SP
    rw [c 316 8 (by omega), c 353 9 (by omega), c 334 2 (by omega)]
    exact ⟨h.1, h.2.1.add e6 z2 hl n9 n2 hb.1 (by rw [z4, z7]; exact k0), h.2.2.1.add e6 z2 hl n9 n2 hb.2.1 (by rw [z4, z7]; exact k13), h.2.2.2.add e6 z2 hl n9 n2 hb.2.2 (by rw [z4, z7]; exact k7)⟩
  unfold f_X3_add at g
  rw [if_pos z] at g
  exact g
theorem sa_addo {x1 x2 x3 x4 x5 x6 : Int32} {s : t_S} (hs : so_ok x1) (h : SA s) : t_pq (f_X3_add x1 x2 x3 x4 x5 x6 s) (fun y => SA y) := sp_add h ⟨Int.le_refl _, Int.le_refl _, Int.le_refl _⟩ (fun y => absurd y hs.1) (fun y => absurd y hs.2.1) (fun y => absurd y hs.2.2)
theorem sa_add12 {x2 x3 x4 x5 x6 : Int32} {s : t_S} (h : SPe 2147483648 x5 s) : t_pq (f_X3_add 12 x2 x3 x4 x5 x6 s) (fun y => SA y) := sp_add h.2.1 ⟨Int.le_refl _, Int.le_refl _, Int.le_of_lt (i32_lt x5)⟩ (fun y => absurd y (by unfold sk_0; decide)) (fun y => absurd y (by unfold sk_13; decide)) (fun _ => ⟨h.2.2.1, h.2.2.2, fun _ => ⟨Int.le_refl _, i32_lt x5⟩⟩)
theorem sa_lk {x1 x2 x3 : Int32} {s : t_S} (h0 : SA s) (h : ∀ a b d : Int32, t_pq (f_X3_add x1 a b d x2 x3 s) (fun y => SA y)) (adv : ∀ t, SA t → t_pq (f_X2_advance t) (fun y => SA y)) (fl : ∀ t, SA t → t_pq (f_X2_fail 2 t) (fun y => SA y)) : t_pq (f_X6_link x1 x2 x3 s) (fun y => SA y) := by
  unfold f_X6_link
  exact pc_if (fun _ => pc_bd (h _ _ _) (fun r3 h3 => pc_bd (adv r3 h3) (fun r4 h4 => pc_some h4))) (fun _ => pc_bd (fl s h0) (fun r5 h5 => pc_some h5))
theorem sa_f_X2_fail {x1 : Int32} {s : t_S} (h_s : SA s) : t_pq (f_X2_fail x1 s) (fun y => SA y) := by
  unfold f_X2_fail
  exact pc_if (fun _ => sa_st (SP.set h_s ⟨by decide, by decide, fun y => absurd y.1 (by decide), fun y => absurd y.1 (by decide), fun y => absurd y.1 (by decide), fun y => absurd y.1 (by decide)⟩) (fun s1 h_s1 => sa_st (SP.set h_s1 ⟨by decide, by decide, fun y => absurd y.1 (by decide), fun y => absurd y.1 (by decide), fun y => absurd y.1 (by decide), fun y => absurd y.1 (by decide)⟩) (fun s2 h_s2 => sa_st (SP.set h_s2 ⟨by decide, by decide, fun y => absurd y.1 (by decide), fun y => absurd y.1 (by decide), fun y => absurd y.1 (by decide), fun y => absurd y.1 (by decide)⟩) (fun s3 h_s3 => pc_some h_s3)))) (fun _ => pc_some h_s)
theorem sa_f_X2_advance {s : t_S} (h_s : SA s) : t_pq (f_X2_advance s) (fun y => SA y) := by
  unfold f_X2_advance
  exact pc_if (fun _ => pc_if (fun _ => sa_st (SP.set h_s ⟨by decide, by decide, fun y => absurd y.1 (by decide), fun y => absurd y.1 (by decide), fun y => absurd y.1 (by decide), fun y => absurd y.1 (by decide)⟩) (fun s1 h_s1 => pc_if (fun z1 => sa_st (SP.set h_s1 ⟨by decide, by decide, fun y => absurd y.1 (by decide), fun y => absurd y.1 (by decide), fun y => absurd y.1 (by decide), fun y => absurd y.1 (by decide)⟩) (fun s2 h_s2 => pc_if (fun z2 => sa_st (SP.set h_s2 ⟨by decide, by decide, fun y => absurd y.1 (by decide), fun y => absurd y.1 (by decide), fun y => absurd y.1 (by decide), fun y => absurd y.1 (by decide)⟩) (fun s3 h_s3 => pc_if (fun z3 => sa_st (SP.setJ h_s3) (fun s4 h_s4 => pc_if (fun _ => sa_st (SP.set h_s4 ⟨by decide, by decide, fun y => absurd y.1 (by decide), fun y => absurd y.1 (by decide), fun y => absurd y.1 (by decide), fun y => absurd y.1 (by decide)⟩) (fun s5 h_s5 => sa_st (SP.set h_s5 ⟨by decide, by decide, fun y => absurd y.1 (by decide), fun y => absurd y.1 (by decide), fun y => absurd y.1 (by decide), fun y => absurd y.1 (by decide)⟩) (fun s6 h_s6 => pc_some h_s6))) (fun _ => pc_some h_s4))) (fun _ => pc_none))) (fun _ => pc_none))) (fun _ => pc_none))) (fun _ => pc_some h_s)) (fun _ => pc_some h_s)
theorem sa_f_X2_need {x1 : Int32} {s : t_S} (h_s : SA s) : t_pq (f_X2_need x1 s) (fun y => SA y) := by
  unfold f_X2_need
  exact pc_if (fun _ => pc_bd (sa_f_X2_advance h_s) (fun r2 h_r2 => pc_some h_r2)) (fun _ => pc_bd (sa_f_X2_fail h_s) (fun r1 h_r1 => pc_some h_r1))
theorem sa_k_X3_late_31 {l1 : Int32} {l2 : Int32} {s : t_S} (h_s : SA s) : t_pq (k_X3_late_31 l1 l2 s) (fun y => SA y) := by
  unfold k_X3_late_31
  exact sa_st (SP.set h_s ⟨by decide, by decide, fun y => absurd y.2 (by decide), fun y => absurd y.1 (by decide), fun y => absurd y.1 (by decide), fun y => absurd y.1 (by decide)⟩) (fun s1 h_s1 => sa_st (SP.set h_s1 ⟨by decide, by decide, fun y => absurd y.2 (by decide), fun y => absurd y.1 (by decide), fun y => absurd y.1 (by decide), fun y => absurd y.1 (by decide)⟩) (fun s2 h_s2 => pc_some h_s2))
theorem sa_f_X3_late {x1 : Int32} {x2 : Int32} {s : t_S} (h_s : SA s) : t_pq (f_X3_late x1 x2 s) (fun y => SA y) := by
  unfold f_X3_late
  exact pc_if (fun _ => (sa_k_X3_late_31 h_s)) (fun _ => pc_if (fun _ => (sa_k_X3_late_31 h_s)) (fun _ => pc_if (fun _ => pc_if (fun _ => pc_some h_s) (fun _ => (sa_k_X3_late_31 h_s))) (fun _ => pc_some h_s)))
theorem sa_k_X6_takeName_64 {l1 : Int32} {l2 : Int32} {s : t_S} (h_s : SA s) : t_pq (k_X6_takeName_64 l1 l2 s) (fun y => SA y.2) := by
  unfold k_X6_takeName_64
  exact pc_if (fun _ => pc_if (fun z1 => sa_st (SP.set h_s ⟨by decide, by decide, fun y => absurd y.1 (by decide), fun y => absurd y.1 (by decide), fun y => absurd y.1 (by decide), fun y => absurd y.1 (by decide)⟩) (fun s1 h_s1 => pc_some h_s1)) (fun _ => pc_none)) (fun _ => pc_some h_s)
theorem sa_f_X6_takeName {x1 : Int32} {x2 : Int32} {x3 : Int32} {s : t_S} (h_s : SA s) : t_pq (f_X6_takeName x1 x2 x3 s) (fun y => SA y.2) := by
  unfold f_X6_takeName
  exact pc_if (fun z1 => pc_if (fun z2 => pc_if (fun _ => pc_if (fun _ => (sa_k_X6_takeName_64 h_s)) (fun _ => pc_bd (sa_f_X2_fail h_s) (fun r3 h_r3 => (sa_k_X6_takeName_64 h_r3)))) (fun _ => pc_bd (sa_f_X2_fail h_s) (fun r4 h_r4 => (sa_k_X6_takeName_64 h_r4)))) (fun _ => pc_none)) (fun _ => pc_bd (sa_f_X2_fail h_s) (fun r5 h_r5 => (sa_k_X6_takeName_64 h_r5)))
def SAB_X6_readFields (rc : RT_X6_readFields) : Prop := (∀ (x0 : Int32) (x1 : Int32) (x2 : Int32) (s : t_S), SA s → t_pq (rc.1 x0 x1 x2 s) (fun y => SA y)) ∧ (∀ (x0 : Int32) (s : t_S), SA s → t_pq (rc.2 x0 s) (fun y => SA y.2))
theorem sa_k_X6_readFields_278 {rc : RT_X6_readFields} {s : t_S} (hrc : SAB_X6_readFields rc) (h_s : SA s) : t_pq (k_X6_readFields_278 rc s) (fun y => SA y) := by
  unfold k_X6_readFields_278
  exact pc_bd (sa_f_X2_need h_s) (fun r1 h_r1 => pc_some h_r1)
theorem sa_f_X6_node {s : t_S} (h_s : SA s) : t_pq (f_X6_node s) (fun y => SA y) := by
  unfold f_X6_node
  exact pc_if (fun _ => sa_st (SP.set h_s ⟨by decide, by decide, fun y => absurd y.1 (by decide), fun y => absurd y.1 (by decide), fun y => absurd y.1 (by decide), fun y => absurd y.1 (by decide)⟩) (fun s1 h_s1 => pc_some h_s1)) (fun _ => pc_bd (sa_f_X2_fail h_s) (fun r1 h_r1 => pc_some h_r1))
theorem sa_f_X2_take {x1 : Int32} {s : t_S} (h_s : SA s) : t_pq (f_X2_take x1 s) (fun y => SA y.2) := by
  unfold f_X2_take
  exact pc_if (fun _ => pc_bd (sa_f_X2_advance h_s) (fun r1 h_r1 => pc_some h_r1)) (fun _ => pc_some h_s)
theorem sa_k_X6_readFields_240 {rc : RT_X6_readFields} {l1 : Int32} {l2 : Int32} {l3 : Int32} {l5 : Int32} {l6 : Int32} {s : t_S} (hrc : SAB_X6_readFields rc) (h_s : SA s) : t_pq (k_X6_readFields_240 rc l1 l2 l3 l5 l6 s) (fun z => Sum.elim (fun y => SA y.2.2.2.2.2) (fun y => SA y) z) := by
  unfold k_X6_readFields_240
  exact pc_if (fun z1 => sa_st (SP.set h_s ⟨by decide, by decide, fun y => absurd y.1 (by decide), fun y => absurd y.1 (by decide), fun y => absurd y.1 (by decide), fun y => absurd y.1 (by decide)⟩) (fun s1 h_s1 => pc_bd (sa_f_X2_take h_s1) (fun r2 h_r2 => pc_if (fun _ => pc_mp ((sa_k_X6_readFields_278 hrc h_r2))) (fun _ => pc_some h_r2)))) (fun _ => pc_none)
theorem sa_k_X6_readFields_209 {rc : RT_X6_readFields} {l1 : Int32} {l2 : Int32} {l3 : Int32} {l4 : Int32} {l5 : Int32} {l6 : Int32} {s : t_S} (hrc : SAB_X6_readFields rc) (h_s : SA s) : t_pq (k_X6_readFields_209 rc l1 l2 l3 l4 l5 l6 s) (fun z => Sum.elim (fun y => SA y.2.2.2.2.2) (fun y => SA y) z) := by
  unfold k_X6_readFields_209
  exact pc_if (fun _ => pc_if (fun z1 => sa_st (SP.set h_s ⟨by decide, by decide, fun y => absurd y.1 (by decide), fun y => absurd y.1 (by decide), fun y => absurd y.1 (by decide), fun y => absurd y.1 (by decide)⟩) (fun s2 h_s2 => (sa_k_X6_readFields_240 hrc h_s2))) (fun _ => pc_none)) (fun _ => pc_if (fun z2 => sa_st (SP.set h_s ⟨by decide, by decide, fun y => absurd y.1 (by decide), fun y => absurd y.1 (by decide), fun y => absurd y.1 (by decide), fun y => absurd y.1 (by decide)⟩) (fun s1 h_s1 => (sa_k_X6_readFields_240 hrc h_s1))) (fun _ => pc_none))
theorem sa_k_X6_readFields_105 {rc : RT_X6_readFields} {l1 : Int32} {l2 : Int32} {l3 : Int32} {l4 : Int32} {l5 : Int32} {s : t_S} (hrc : SAB_X6_readFields rc) (h_s : SA s) : t_pq (k_X6_readFields_105 rc l1 l2 l3 l4 l5 s) (fun z => Sum.elim (fun y => SA y.2.2.2.2.2) (fun y => SA y) z) := by
  unfold k_X6_readFields_105
  exact pc_bd (sa_f_X6_node h_s) (fun r1 h_r1 => pc_if (fun _ => pc_bd (sa_f_X11_add h_r1) (fun r2 h_r2 => pc_if (fun z1 => sa_st (SP.set h_r2.1 ⟨by decide, by decide, fun y => absurd y.1 (by decide), fun y => absurd y.1 (by decide), fun y => absurd y.1 (by decide), fun y => absurd y.1 (by decide)⟩) (fun s1 h_s1 => pc_bd (sa_f_X2_advance h_s1) (fun r5 h_r5 => pc_bd (sa_f_X2_need h_r5) (fun r6 h_r6 => pc_bd (hrc.2 _ _ h_r6) (fun r7 h_r7 => sa_st (SP.set h_r7 ⟨by decide, by decide, fun y => absurd y.1 (by decide), fun y => absurd y.1 (by decide), fun y => absurd y.1 (by decide), fun y => absurd y.1 (by decide)⟩) (fun s2 h_s2 => pc_if (fun _ => (sa_k_X6_readFields_209 hrc h_s2)) (fun _ => pc_bd (sa_f_X2_take h_s2) (fun r8 h_r8 => pc_if (fun _ => (sa_k_X6_readFields_209 hrc h_r8)) (fun _ => sa_st (SP.set h_r8 ⟨by decide, by decide, fun y => absurd y.1 (by decide), fun y => absurd y.1 (by decide), fun y => absurd y.1 (by decide), fun y => absurd y.1 (by decide)⟩) (fun s3 h_s3 => (sa_k_X6_readFields_209 hrc h_s3))))))))))) (fun _ => pc_none))) (fun _ => pc_mp (pc_some h_r1)))
theorem sa_k_X6_readFields_32 {rc : RT_X6_readFields} {l1 : Int32} {l2 : Int32} {l3 : Int32} {l4 : Int32} {l5 : Int32} {s : t_S} (hrc : SAB_X6_readFields rc) (h_s : SA s) : t_pq (k_X6_readFields_32 rc l1 l2 l3 l4 l5 s) (fun z => Sum.elim (fun y => SA y.2.2.2.2.2) (fun y => SA y) z) := by
  unfold k_X6_readFields_32
  exact pc_if (fun _ => pc_mp ((sa_k_X6_readFields_278 hrc h_s))) (fun _ => pc_if (fun z1 => pc_bd pc_any (fun r2 h_r2 => pc_if (fun _ => pc_if (fun _ => pc_bd (sa_f_X2_fail h_s) (fun r3 h_r3 => (sa_k_X6_readFields_105 hrc h_r3))) (fun _ => (sa_k_X6_readFields_105 hrc h_s))) (fun _ => pc_bd (sa_f_X2_fail h_s) (fun r4 h_r4 => (sa_k_X6_readFields_105 hrc h_r4))))) (fun _ => pc_bd (sa_f_X2_fail h_s) (fun r5 h_r5 => (sa_k_X6_readFields_105 hrc h_r5))))
theorem sa_b_X6_readFields_32 {rc : RT_X6_readFields} {x : Int32 × Int32 × Int32 × Int32 × Int32 × t_S} (hrc : SAB_X6_readFields rc) (h : SA x.2.2.2.2.2) : t_pq (b_X6_readFields_32 rc x) (fun z => Sum.elim (fun y => SA y.2.2.2.2.2) (fun y => SA y) z) := sa_k_X6_readFields_32 hrc h
theorem sa_k_X6_readFields_26 {rc : RT_X6_readFields} {l1 : Int32} {l2 : Int32} {l3 : Int32} {s : t_S} (hrc : SAB_X6_readFields rc) (h_s : SA s) : t_pq (k_X6_readFields_26 rc l1 l2 l3 s) (fun y => SA y) := by
  unfold k_X6_readFields_26
  exact pc_lp (fun x h => sa_b_X6_readFields_32 hrc h) h_s
theorem sa_m_X6_readFields {rc : RT_X6_readFields} {x1 : Int32} {x2 : Int32} {x3 : Int32} {s : t_S} (hrc : SAB_X6_readFields rc) (h_s : SA s) : t_pq (m_X6_readFields rc x1 x2 x3 s) (fun y => SA y) := by
  unfold m_X6_readFields
  exact pc_bd (sa_f_X2_need h_s) (fun r1 h_r1 => pc_if (fun _ => (sa_k_X6_readFields_26 hrc h_r1)) (fun _ => pc_bd (sa_f_X2_take h_r1) (fun r2 h_r2 => pc_if (fun _ => (sa_k_X6_readFields_26 hrc h_r2)) (fun _ => pc_some h_r2))))
theorem sa_linko {x1 x2 x3 : Int32} {s : t_S} (hs : so_ok x1) (h : SA s) : t_pq (f_X6_link x1 x2 x3 s) (fun y => SA y) := sa_lk h (fun _ _ _ => sa_addo hs h) (fun _ q => sa_f_X2_advance q) (fun _ q => sa_f_X2_fail q)
theorem sa_link0 {x2 x3 : Int32} {s : t_S} (h : SPn x2 s) : t_pq (f_X6_link 0 x2 x3 s) (fun y => SA y) := sa_lk h.1 (fun _ _ _ => sp_add h.2.1 ⟨Int.le_of_lt (i32_lt x2), Int.le_refl _, Int.le_refl _⟩ (fun _ => ⟨h.2.2.1, h.2.2.2, fun _ => ⟨Int.le_refl _, i32_lt x2⟩⟩) (fun y => absurd y (by unfold sk_13; decide)) (fun y => absurd y (by unfold sk_7; decide))) (fun _ q => sa_f_X2_advance q) (fun _ q => sa_f_X2_fail q)
theorem sa_link13 {x2 x3 : Int32} {s : t_S} (h : SPt x2 s) : t_pq (f_X6_link 13 x2 x3 s) (fun y => SA y) := sa_lk h.1 (fun _ _ _ => sp_add h.2.1 ⟨Int.le_refl _, Int.le_of_lt (i32_lt x2), Int.le_refl _⟩ (fun y => absurd y (by unfold sk_0; decide)) (fun _ => ⟨h.2.2.1, h.2.2.2, fun _ => ⟨Int.le_refl _, i32_lt x2⟩⟩) (fun y => absurd y (by unfold sk_7; decide))) (fun _ q => sa_f_X2_advance q) (fun _ q => sa_f_X2_fail q)
theorem sa_link7 {x2 x3 : Int32} {s : t_S} (h : SPe 2147483648 x2 s) : t_pq (f_X6_link 7 x2 x3 s) (fun y => SA y) := sa_lk h.1 (fun _ _ _ => sp_add h.2.1 ⟨Int.le_refl _, Int.le_refl _, Int.le_of_lt (i32_lt x2)⟩ (fun y => absurd y (by unfold sk_0; decide)) (fun y => absurd y (by unfold sk_13; decide)) (fun _ => ⟨h.2.2.1, h.2.2.2, fun _ => ⟨Int.le_refl _, i32_lt x2⟩⟩)) (fun _ q => sa_f_X2_advance q) (fun _ q => sa_f_X2_fail q)
theorem sa_tw {x1 : Int32} {s : t_S} (h : SPt x1 s) : t_pq (if t_ix x1 6100 = true then
  t_let (t_setI s 354 (x1.toNatClampNeg) (6 : Int32)) (fun s1 =>
 t_let (t_setI s1 357 (x1.toNatClampNeg) (f_X2_word s1)) (fun s2 =>
 (f_X0_emit (35 : Int32) x1 s2).bind (fun r3 =>
 (f_X6_link (13 : Int32) x1 (0 : Int32) r3.2).bind (fun r4 =>
 some (r4)))))
else none) (fun y => SA y) := by
  have c : ∀ a k, a = 354 ∨ a = 357 → sa_W a k := fun a k y => by unfold sa_W; omega
  refine pc_if (fun _ => pc_lt (pc_lt ?_)) (fun _ => pc_none)
  have f : l2_fr (fun a k => sa_W a k) s (t_setI (t_setI s 354 (x1.toNatClampNeg) (6 : Int32)) 357 (x1.toNatClampNeg) (f_X2_word (t_setI s 354 (x1.toNatClampNeg) (6 : Int32)))) := (l2_fr.set (c _ _ (Or.inl rfl))).trans (l2_fr.set (c _ _ (Or.inr rfl)))
  generalize t_setI (t_setI s 354 (x1.toNatClampNeg) (6 : Int32)) 357 (x1.toNatClampNeg) (f_X2_word (t_setI s 354 (x1.toNatClampNeg) (6 : Int32))) = s2 at *
  refine pc_bd (P := fun y => SPe x1.toInt y.1 y.2 ∧ y.2.1 353 9 = s2.1 353 9) (fun y e => ⟨sp_emit (h.2.1.fr f) y e, ?_⟩) (fun r3 h3 => ?_)
  · have q : t_pq (f_X0_emit (35 : Int32) x1 s2) (fun y => y.2.1 353 9 = s2.1 353 9) := by
      unfold f_X0_emit
      exact pc_if (fun _ => pc_if (fun _ => pc_lt (pc_if (fun _ => pc_lt (pc_lt (pc_some (by simp only [l2_gI, Nat.reduceEqDiff, reduceIte])))) (fun _ => pc_none))) (fun _ => pc_none)) (fun _ => pc_some rfl)
    exact q y e
  · have g : SPt x1 r3.2 := ⟨h3.1.1, ⟨h3.1.2.1.1, h3.1.1.2.1, h3.1.2.1.2.2.1, h3.1.1.2.2.2⟩, h.2.2.1, by rw [h3.2, (f 353 9 (by unfold sa_W; omega)).1]; exact h.2.2.2⟩
    exact pc_bd (sa_link13 g) (fun r4 h4 => pc_some h4)
theorem sa_k_X6_readInt_346 {s : t_S} (h_s : SA s) : t_pq (k_X6_readInt_346 s) (fun y => SA y) := by
  unfold k_X6_readInt_346
  exact pc_bd (sa_f_X2_need h_s) (fun r1 h_r1 => pc_some h_r1)
theorem sa_k_X6_readNumber_90 {l4 : Int64} {s : t_S} (h_s : SA s) : t_pq (k_X6_readNumber_90 l4 s) (fun y => SA y.2) := by
  unfold k_X6_readNumber_90
  exact pc_if (fun _ => pc_bd (sa_f_X2_advance h_s) (fun r1 h_r1 => pc_some h_r1)) (fun _ => pc_some h_s)
theorem sa_k_X6_readNumber_51 {l1 : Int64} {k0 : Int64} {s : t_S} (h_s : SA s) : t_pq (k_X6_readNumber_51 l1 k0 s) (fun y => SA y.2) := by
  unfold k_X6_readNumber_51
  exact pc_if (fun _ => pc_if (fun _ => (sa_k_X6_readNumber_90 h_s)) (fun _ => pc_bd (sa_f_X2_fail h_s) (fun r1 h_r1 => (sa_k_X6_readNumber_90 h_r1)))) (fun _ => pc_bd (sa_f_X2_fail h_s) (fun r2 h_r2 => (sa_k_X6_readNumber_90 h_r2)))
theorem sa_k_X6_readNumber_29 {l1 : Int64} {l3 : Int32} {s : t_S} (h_s : SA s) : t_pq (k_X6_readNumber_29 l1 l3 s) (fun y => SA y.2) := by
  unfold k_X6_readNumber_29
  exact pc_if (fun _ => (sa_k_X6_readNumber_51 h_s)) (fun _ => (sa_k_X6_readNumber_51 h_s))
theorem sa_k_X6_readNumber_17 {l1 : Int64} {k0 : Int32} {s : t_S} (h_s : SA s) : t_pq (k_X6_readNumber_17 l1 k0 s) (fun y => SA y.2) := by
  unfold k_X6_readNumber_17
  exact pc_if (fun _ => (sa_k_X6_readNumber_29 h_s)) (fun _ => pc_bd (sa_f_X2_advance h_s) (fun r1 h_r1 => (sa_k_X6_readNumber_29 h_r1)))
theorem sa_f_X6_readNumber {x1 : Int64} {s : t_S} (h_s : SA s) : t_pq (f_X6_readNumber x1 s) (fun y => SA y.2) := by
  unfold f_X6_readNumber
  exact pc_if (fun _ => (sa_k_X6_readNumber_17 h_s)) (fun _ => (sa_k_X6_readNumber_17 h_s))
theorem sa_k_X6_readInt_308 {l1 : Int32} {l3 : Int32} {l4 : Int32} {k0 : Int64} {k1 : Int32} {s : t_S} (h_s : SA s) : t_pq (k_X6_readInt_308 l1 l3 l4 k0 k1 s) (fun z => Sum.elim (fun y => SA y.2.2.2) (fun y => SA y) z) := by
  unfold k_X6_readInt_308
  exact pc_if (fun z1 => sa_st (SP.setJ h_s) (fun s1 h_s1 => pc_if (fun z2 => sa_st (SP.set h_s1 ⟨by decide, by decide, fun y => absurd y.1 (by decide), fun y => absurd y.1 (by decide), fun y => absurd y.1 (by decide), fun y => absurd y.1 (by decide)⟩) (fun s2 h_s2 => pc_bd (sa_f_X2_take h_s2) (fun r3 h_r3 => pc_if (fun _ => pc_mp ((sa_k_X6_readInt_346 h_r3))) (fun _ => pc_some h_r3)))) (fun _ => pc_none))) (fun _ => pc_none)
theorem sa_k_X6_readInt_260 {l1 : Int32} {l3 : Int32} {l4 : Int32} {k0 : Int64} {k1 : Int32} {s : t_S} (h_s : SA s) : t_pq (k_X6_readInt_260 l1 l3 l4 k0 k1 s) (fun z => Sum.elim (fun y => SA y.2.2.2) (fun y => SA y) z) := by
  unfold k_X6_readInt_260
  exact pc_if (fun z1 => sa_st (SP.setJ h_s) (fun s1 h_s1 => pc_if (fun _ => pc_if (fun z2 => (sa_k_X6_readInt_308 h_s1)) (fun _ => pc_none)) (fun _ => pc_if (fun z3 => pc_if (fun z4 => (sa_k_X6_readInt_308 h_s1)) (fun _ => pc_none)) (fun _ => pc_none)))) (fun _ => pc_none)
theorem sa_k_X6_readInt_213 {l1 : Int32} {l3 : Int32} {l4 : Int32} {s : t_S} (h_s : SA s) : t_pq (k_X6_readInt_213 l1 l3 l4 s) (fun z => Sum.elim (fun y => SA y.2.2.2) (fun y => SA y) z) := by
  unfold k_X6_readInt_213
  exact pc_if (fun _ => pc_if (fun z1 => (sa_k_X6_readInt_260 h_s)) (fun _ => pc_none)) (fun _ => pc_if (fun z2 => pc_if (fun z3 => (sa_k_X6_readInt_260 h_s)) (fun _ => pc_none)) (fun _ => pc_none))
theorem sa_k_X6_readInt_183 {l1 : Int32} {l2 : Int32} {l3 : Int32} {l4 : Int32} {k0 : Int64} {k1 : Int32} {s : t_S} (h_s : SA s) : t_pq (k_X6_readInt_183 l1 l2 l3 l4 k0 k1 s) (fun z => Sum.elim (fun y => SA y.2.2.2) (fun y => SA y) z) := by
  unfold k_X6_readInt_183
  exact pc_if (fun z1 => sa_st (SP.setJ h_s) (fun s1 h_s1 => pc_if (fun _ => pc_if (fun z2 => sa_st (SP.set h_s1 ⟨by decide, by decide, fun y => absurd y.1 (by decide), fun y => absurd y.1 (by decide), fun y => absurd y.1 (by decide), fun y => absurd y.1 (by decide)⟩) (fun s3 h_s3 => (sa_k_X6_readInt_213 h_s3))) (fun _ => pc_none)) (fun _ => pc_if (fun z3 => sa_st (SP.set h_s1 ⟨by decide, by decide, fun y => absurd y.1 (by decide), fun y => absurd y.1 (by decide), fun y => absurd y.1 (by decide), fun y => absurd y.1 (by decide)⟩) (fun s2 h_s2 => (sa_k_X6_readInt_213 h_s2))) (fun _ => pc_none)))) (fun _ => pc_none)
theorem sa_k_X6_readInt_92 {l1 : Int32} {l2 : Int32} {l3 : Int32} {s : t_S} (h_s : SA s) : t_pq (k_X6_readInt_92 l1 l2 l3 s) (fun z => Sum.elim (fun y => SA y.2.2.2) (fun y => SA y) z) := by
  unfold k_X6_readInt_92
  exact pc_bd (sa_f_X6_node h_s) (fun r1 h_r1 => pc_if (fun _ => pc_bd (sa_f_X11_add h_r1) (fun r2 h_r2 => pc_bd (sa_f_X6_readNumber h_r2.1) (fun r3 h_r3 => pc_if (fun z1 => sa_st (SP.setJ h_r3) (fun s1 h_s1 => pc_bd (sa_f_X2_take h_s1) (fun r5 h_r5 => pc_if (fun _ => (sa_k_X6_readInt_183 h_r5)) (fun _ => pc_bd (sa_f_X6_readNumber h_r5) (fun r6 h_r6 => (sa_k_X6_readInt_183 h_r6)))))) (fun _ => pc_none)))) (fun _ => pc_mp (pc_some h_r1)))
theorem sa_k_X6_readInt_78 {l1 : Int32} {l2 : Int32} {l3 : Int32} {s : t_S} (h_s : SA s) : t_pq (k_X6_readInt_78 l1 l2 l3 s) (fun z => Sum.elim (fun y => SA y.2.2.2) (fun y => SA y) z) := by
  unfold k_X6_readInt_78
  exact pc_if (fun _ => pc_bd (sa_f_X2_fail h_s) (fun r1 h_r1 => (sa_k_X6_readInt_92 h_r1))) (fun _ => (sa_k_X6_readInt_92 h_s))
theorem sa_k_X6_readInt_41 {l1 : Int32} {l2 : Int32} {l3 : Int32} {s : t_S} (h_s : SA s) : t_pq (k_X6_readInt_41 l1 l2 l3 s) (fun z => Sum.elim (fun y => SA y.2.2.2) (fun y => SA y) z) := by
  unfold k_X6_readInt_41
  exact pc_if (fun _ => pc_mp ((sa_k_X6_readInt_346 h_s))) (fun _ => pc_if (fun _ => (sa_k_X6_readInt_78 h_s)) (fun _ => pc_if (fun _ => (sa_k_X6_readInt_78 h_s)) (fun _ => pc_bd (sa_f_X2_fail h_s) (fun r1 h_r1 => (sa_k_X6_readInt_78 h_r1)))))
theorem sa_b_X6_readInt_41 {x : Int32 × Int32 × Int32 × t_S} (h : SA x.2.2.2) : t_pq (b_X6_readInt_41 x) (fun z => Sum.elim (fun y => SA y.2.2.2) (fun y => SA y) z) := sa_k_X6_readInt_41 h
theorem sa_f_X6_readInt {x1 : Int32} {s : t_S} (h_s : SA s) : t_pq (f_X6_readInt x1 s) (fun y => SA y) := by
  unfold f_X6_readInt
  exact pc_if (fun z1 => sa_st (SP.setJ h_s) (fun s1 h_s1 => sa_st (SP.setJ h_s1) (fun s2 h_s2 => pc_bd (sa_f_X2_take h_s2) (fun r2 h_r2 => pc_if (fun _ => pc_some h_r2) (fun _ => pc_lp (fun x h => sa_b_X6_readInt_41 h) h_r2))))) (fun _ => pc_none)
theorem sa_k_X6_readBound_52 {l3 : Int64} {s : t_S} (h_s : SA s) : t_pq (k_X6_readBound_52 l3 s) (fun y => SA y.2) := by
  unfold k_X6_readBound_52
  exact pc_if (fun _ => pc_bd (sa_f_X2_advance h_s) (fun r1 h_r1 => pc_some h_r1)) (fun _ => pc_some h_s)
theorem sa_k_X6_readBound_44 {l3 : Int64} {s : t_S} (h_s : SA s) : t_pq (k_X6_readBound_44 l3 s) (fun y => SA y.2) := by
  unfold k_X6_readBound_44
  exact pc_bd (sa_f_X2_fail h_s) (fun r1 h_r1 => (sa_k_X6_readBound_52 h_r1))
theorem sa_f_X6_readBound {x1 : Int32} {x2 : Int32} {s : t_S} (h_s : SA s) : t_pq (f_X6_readBound x1 x2 s) (fun y => SA y.2) := by
  unfold f_X6_readBound
  exact pc_if (fun _ => pc_if (fun _ => (sa_k_X6_readBound_44 h_s)) (fun _ => pc_if (fun _ => (sa_k_X6_readBound_52 h_s)) (fun _ => (sa_k_X6_readBound_44 h_s)))) (fun _ => pc_bd (sa_f_X2_fail h_s) (fun r1 h_r1 => (sa_k_X6_readBound_52 h_r1)))
theorem sa_k_X6_readSpan_38 {l2 : Int32} {k0 : Int32} {s : t_S} (h_s : SA s) : t_pq (k_X6_readSpan_38 l2 k0 s) (fun y => SA y.2) := by
  unfold k_X6_readSpan_38
  exact pc_bd (sa_f_X2_need h_s) (fun r1 h_r1 => pc_some h_r1)
theorem sa_f_X6_readSpan {x1 : Int32} {s : t_S} (h_s : SA s) : t_pq (f_X6_readSpan x1 s) (fun y => SA y.2) := by
  unfold f_X6_readSpan
  exact pc_bd (sa_f_X2_need h_s) (fun r1 h_r1 => pc_bd (sa_f_X6_readBound h_r1) (fun r2 h_r2 => pc_bd (sa_f_X2_take h_r2) (fun r3 h_r3 => pc_if (fun _ => (sa_k_X6_readSpan_38 h_r3)) (fun _ => pc_bd (sa_f_X6_readBound h_r3) (fun r4 h_r4 => (sa_k_X6_readSpan_38 h_r4))))))
theorem sa_f_X6_setSpan {x1 : Int32} {x2 : Int32} {s : t_S} (h_s : SA s) : t_pq (f_X6_setSpan x1 x2 s) (fun y => SA y) := by
  unfold f_X6_setSpan
  exact pc_if (fun z1 => sa_st (SP.setJ h_s) (fun s1 h_s1 => sa_st (SP.setJ h_s1) (fun s2 h_s2 => pc_some h_s2))) (fun _ => pc_none)
theorem sa_k_X6_readEnum_201 {s : t_S} (h_s : SA s) : t_pq (k_X6_readEnum_201 s) (fun y => SA y) := by
  unfold k_X6_readEnum_201
  exact pc_bd (sa_f_X2_need h_s) (fun r1 h_r1 => pc_some h_r1)
theorem sa_k_X6_readEnum_98 {l1 : Int32} {l2 : Int32} {s : t_S} (h_s : SA s) : t_pq (k_X6_readEnum_98 l1 l2 s) (fun z => Sum.elim (fun y => SA y.2.2) (fun y => SA y) z) := by
  unfold k_X6_readEnum_98
  exact pc_if (fun _ => pc_if (fun z1 => sa_st (SP.set h_s ⟨by decide, by decide, fun y => absurd y.1 (by decide), fun y => absurd y.1 (by decide), fun y => absurd y.1 (by decide), fun y => absurd y.1 (by decide)⟩) (fun s1 h_s1 => pc_if (fun z2 => sa_st (SP.set h_s1 ⟨by decide, by decide, fun y => absurd y.1 (by decide), fun y => absurd y.1 (by decide), fun y => absurd y.1 (by decide), fun y => absurd y.1 (by decide)⟩) (fun s2 h_s2 => sa_st (SP.set h_s2 ⟨by decide, by decide, fun y => absurd y.1 (by decide), fun y => absurd y.2 (by decide), fun y => absurd y.1 (by decide), fun y => absurd y.1 (by decide)⟩) (fun s3 h_s3 => pc_if (fun z3 => sa_st (SP.set h_s3 ⟨by decide, by decide, fun y => absurd y.1 (by decide), fun y => absurd y.1 (by decide), fun y => absurd y.1 (by decide), fun y => absurd y.1 (by decide)⟩) (fun s4 h_s4 => pc_bd (sa_f_X2_advance h_s4) (fun r6 h_r6 => pc_bd (sa_f_X2_take h_r6) (fun r7 h_r7 => pc_if (fun _ => pc_mp ((sa_k_X6_readEnum_201 h_r7))) (fun _ => pc_some h_r7))))) (fun _ => pc_none)))) (fun _ => pc_none))) (fun _ => pc_none)) (fun _ => pc_mp (pc_some h_s))
theorem sa_k_X6_readEnum_27 {l1 : Int32} {l2 : Int32} {s : t_S} (h_s : SA s) : t_pq (k_X6_readEnum_27 l1 l2 s) (fun z => Sum.elim (fun y => SA y.2.2) (fun y => SA y) z) := by
  unfold k_X6_readEnum_27
  exact pc_if (fun _ => pc_mp ((sa_k_X6_readEnum_201 h_s))) (fun _ => pc_if (fun z1 => pc_bd pc_any (fun r2 h_r2 => pc_if (fun _ => pc_if (fun _ => pc_bd (sa_f_X2_fail h_s) (fun r3 h_r3 => (sa_k_X6_readEnum_98 h_r3))) (fun _ => (sa_k_X6_readEnum_98 h_s))) (fun _ => pc_bd (sa_f_X2_fail h_s) (fun r4 h_r4 => (sa_k_X6_readEnum_98 h_r4))))) (fun _ => pc_bd (sa_f_X2_fail h_s) (fun r5 h_r5 => (sa_k_X6_readEnum_98 h_r5))))
theorem sa_b_X6_readEnum_27 {x : Int32 × Int32 × t_S} (h : SA x.2.2) : t_pq (b_X6_readEnum_27 x) (fun z => Sum.elim (fun y => SA y.2.2) (fun y => SA y) z) := sa_k_X6_readEnum_27 h
theorem sa_f_X6_readEnum {x1 : Int32} {s : t_S} (h_s : SA s) : t_pq (f_X6_readEnum x1 s) (fun y => SA y) := by
  unfold f_X6_readEnum
  exact pc_bd (sa_f_X2_need h_s) (fun r1 h_r1 => pc_if (fun z1 => sa_st (SP.set h_r1 ⟨by decide, by decide, fun y => absurd y.1 (by decide), fun y => absurd y.1 (by decide), fun y => absurd y.1 (by decide), fun y => absurd y.1 (by decide)⟩) (fun s1 h_s1 => pc_lp (fun x h => sa_b_X6_readEnum_27 h) h_s1)) (fun _ => pc_none))
theorem sa_k_X6_readType_257 {rc : RT_X6_readFields} {l1 : Int32} {l3 : Int32} {s : t_S} (hrc : SAB_X6_readFields rc) (h_s : SA s) : t_pq (k_X6_readType_257 rc l1 l3 s) (fun y => SA y.2) := by
  unfold k_X6_readType_257
  exact pc_bd (sa_f_X2_need h_s) (fun r1 h_r1 => pc_bd (hrc.2 _ _ h_r1) (fun r2 h_r2 => pc_if (fun z1 => sa_st (SP.set h_r2 ⟨by decide, by decide, fun y => absurd y.1 (by decide), fun y => absurd y.1 (by decide), fun y => absurd y.1 (by decide), fun y => absurd y.1 (by decide)⟩) (fun s1 h_s1 => pc_some h_s1)) (fun _ => pc_none)))
theorem sa_k_X6_readType_80 {rc : RT_X6_readFields} {l1 : Int32} {l2 : Int32} {k0 : Int32} {s : t_S} (hrc : SAB_X6_readFields rc) (h_s : SA s) : t_pq (k_X6_readType_80 rc l1 l2 k0 s) (fun y => SA y.2) := by
  unfold k_X6_readType_80
  exact pc_bd (sa_f_X11_add h_s) (fun r1 h_r1 => pc_if (fun _ => pc_bd (sa_link0 h_r1) (fun r13 h_r13 => pc_some h_r13)) (fun _ => pc_bd (sa_f_X2_advance h_r1.1) (fun r2 h_r2 => pc_if (fun _ => pc_some h_r2) (fun _ => pc_if (fun _ => pc_bd (sa_f_X6_readInt h_r2) (fun r3 h_r3 => pc_some h_r3)) (fun _ => pc_if (fun _ => pc_some h_r2) (fun _ => pc_if (fun _ => pc_if (fun z1 => sa_st (SP.setJ h_r2) (fun s1 h_s1 => pc_if (fun _ => pc_bd (sa_f_X6_readSpan h_s1) (fun r5 h_r5 => pc_bd (sa_f_X6_setSpan h_r5) (fun r6 h_r6 => pc_some h_r6))) (fun _ => pc_some h_s1))) (fun _ => pc_none)) (fun _ => pc_if (fun _ => pc_bd (sa_f_X6_readEnum h_r2) (fun r7 h_r7 => pc_some h_r7)) (fun _ => pc_if (fun _ => pc_bd (hrc.1 _ _ _ _ h_r2) (fun r8 h_r8 => pc_some h_r8)) (fun _ => pc_if (fun _ => pc_bd (hrc.1 _ _ _ _ h_r2) (fun r9 h_r9 => pc_some h_r9)) (fun _ => pc_if (fun z2 => sa_st (SP.setJ h_r2) (fun s2 h_s2 => pc_if (fun _ => pc_bd (sa_f_X6_readSpan h_s2) (fun r11 h_r11 => pc_bd (sa_f_X6_setSpan h_r11) (fun r12 h_r12 => (sa_k_X6_readType_257 hrc h_r12)))) (fun _ => (sa_k_X6_readType_257 hrc h_s2)))) (fun _ => pc_none)))))))))))
theorem sa_k_X6_readType_35 {rc : RT_X6_readFields} {l1 : Int32} {s : t_S} (hrc : SAB_X6_readFields rc) (h_s : SA s) : t_pq (k_X6_readType_35 rc l1 s) (fun y => SA y.2) := by
  unfold k_X6_readType_35
  exact pc_bd (sa_f_X6_node h_s) (fun r1 h_r1 => pc_if (fun _ => pc_if (fun z1 => (sa_k_X6_readType_80 hrc h_r1)) (fun _ => (sa_k_X6_readType_80 hrc h_r1))) (fun _ => pc_some h_r1))
theorem sa_k_X6_readType_21 {rc : RT_X6_readFields} {l1 : Int32} {s : t_S} (hrc : SAB_X6_readFields rc) (h_s : SA s) : t_pq (k_X6_readType_21 rc l1 s) (fun y => SA y.2) := by
  unfold k_X6_readType_21
  exact pc_if (fun _ => (sa_k_X6_readType_35 hrc h_s)) (fun _ => pc_bd (sa_f_X2_fail h_s) (fun r1 h_r1 => (sa_k_X6_readType_35 hrc h_r1)))
theorem sa_m_X6_readType {rc : RT_X6_readFields} {x1 : Int32} {s : t_S} (hrc : SAB_X6_readFields rc) (h_s : SA s) : t_pq (m_X6_readType rc x1 s) (fun y => SA y.2) := by
  unfold m_X6_readType
  exact pc_if (fun _ => pc_bd (sa_f_X2_fail h_s) (fun r2 h_r2 => (sa_k_X6_readType_21 hrc h_r2))) (fun _ => (sa_k_X6_readType_21 hrc h_s))
theorem SAB_X6_readFields_R : ∀ n, SAB_X6_readFields (R_X6_readFields n) := by
  intro n
  induction n with
  | zero => exact ⟨fun _ _ _ _ _ => pc_none, fun _ _ _ => pc_none⟩
  | succ n ih => exact ⟨fun _ _ _ _ h => sa_m_X6_readFields ih h, fun _ _ h => sa_m_X6_readType ih h⟩
theorem sa_f_X6_readType {x1 : Int32} {s : t_S} (h_s : SA s) : t_pq (f_X6_readType x1 s) (fun y => SA y.2) := by
  unfold f_X6_readType
  exact ((SAB_X6_readFields_R 100).2 _ _ h_s)
theorem sa_f_X6_readTypeItem {s : t_S} (h_s : SA s) : t_pq (f_X6_readTypeItem s) (fun y => SA y) := by
  unfold f_X6_readTypeItem
  exact pc_bd (sa_f_X2_advance h_s) (fun r1 h_r1 => pc_bd (sa_f_X6_takeName h_r1) (fun r2 h_r2 => pc_if (fun _ => pc_some h_r2) (fun _ => pc_if (fun z1 => sa_st (SP.set h_r2 ⟨by decide, by decide, fun y => absurd y.1 (by decide), fun y => absurd y.1 (by decide), fun y => absurd y.1 (by decide), fun y => absurd y.1 (by decide)⟩) (fun s1 h_s1 => sa_st (SP.set h_s1 ⟨by decide, by decide, fun y => absurd y.1 (by decide), fun y => absurd y.2 (by decide), fun y => absurd y.1 (by decide), fun y => absurd y.1 (by decide)⟩) (fun s2 h_s2 => pc_bd (sa_f_X2_advance h_s2) (fun r4 h_r4 => pc_bd (sa_f_X2_need h_r4) (fun r5 h_r5 => pc_bd (sa_f_X6_readType h_r5) (fun r6 h_r6 => sa_st (SP.set h_r6 ⟨by decide, by decide, fun y => absurd y.1 (by decide), fun y => absurd y.1 (by decide), fun y => absurd y.1 (by decide), fun y => absurd y.1 (by decide)⟩) (fun s3 h_s3 => pc_bd (sa_f_X2_need h_s3) (fun r7 h_r7 => pc_some h_r7)))))))) (fun _ => pc_none))))
def SAB_X6_readBase (rc : RT_X6_readBase) : Prop := (∀ (x0 : Int32) (s : t_S), SA s → t_pq (rc.1 x0 s) (fun y => SA y)) ∧ (∀ (x0 : Int32) (s : t_S), SA s → t_pq (rc.2.1 x0 s) (fun y => SA y)) ∧ (∀ (x0 : Int32) (s : t_S), SA s → t_pq (rc.2.2.1 x0 s) (fun y => SA y.2)) ∧ (∀ (x0 : Int32) (s : t_S), SA s → t_pq (rc.2.2.2.1 x0 s) (fun y => SA y)) ∧ (∀ (x0 : Int32) (s : t_S), SA s → t_pq (rc.2.2.2.2.1 x0 s) (fun y => SA y.2)) ∧ (∀ (x0 : Int32) (x1 : Int32) (x2 : Int32) (x3 : Int32) (s : t_S), SA s → t_pq (rc.2.2.2.2.2.1 x0 x1 x2 x3 s) (fun y => SA y)) ∧ (∀ (x0 : Int32) (s : t_S), SA s → t_pq (rc.2.2.2.2.2.2.1 x0 s) (fun y => SA y)) ∧ (∀ (x0 : Int32) (s : t_S), SA s → t_pq (rc.2.2.2.2.2.2.2.1 x0 s) (fun y => SA y)) ∧ (∀ (x0 : Int32) (x1 : Int32) (s : t_S), SA s → t_pq (rc.2.2.2.2.2.2.2.2.1 x0 x1 s) (fun y => SA y.2)) ∧ (∀ (x0 : Int32) (x1 : Int32) (x2 : Int32) (s : t_S), SA s → t_pq (rc.2.2.2.2.2.2.2.2.2.1 x0 x1 x2 s) (fun y => SA y)) ∧ (∀ (x0 : Int32) (x1 : Int32) (x2 : Int32) (x3 : Int32) (s : t_S), SA s → t_pq (rc.2.2.2.2.2.2.2.2.2.2.1 x0 x1 x2 x3 s) (fun y => SA y)) ∧ (∀ (x0 : Int32) (x1 : Int32) (s : t_S), SA s → t_pq (rc.2.2.2.2.2.2.2.2.2.2.2.1 x0 x1 s) (fun y => SA y)) ∧ (∀ (x0 : Int32) (x1 : Int32) (x2 : Int32) (s : t_S), SA s → t_pq (rc.2.2.2.2.2.2.2.2.2.2.2.2.1 x0 x1 x2 s) (fun y => SA y)) ∧ (∀ (x0 : Int32) (x1 : Int32) (s : t_S), SA s → t_pq (rc.2.2.2.2.2.2.2.2.2.2.2.2.2.1 x0 x1 s) (fun y => SA y.2)) ∧ (∀ (x0 : Int32) (x1 : Int32) (x2 : Int32) (s : t_S), SA s → t_pq (rc.2.2.2.2.2.2.2.2.2.2.2.2.2.2.1 x0 x1 x2 s) (fun y => SA y)) ∧ (∀ (x0 : Int32) (x1 : Int32) (x2 : Int32) (s : t_S), SPt x0 s → t_pq (rc.2.2.2.2.2.2.2.2.2.2.2.2.2.2.2 x0 x1 x2 s) (fun y => SA y))
theorem sa_k_X6_emitWord_55 {l1 : Int32} {l2 : Int32} {k0 : Int32} {s : t_S} (h_s : SA s) : t_pq (k_X6_emitWord_55 l1 l2 k0 s) (fun y => SA y) := by
  unfold k_X6_emitWord_55
  exact pc_if (fun _ => pc_if (fun _ => pc_bd (sa_f_X0_emit h_s) (fun r2 h_r2 => pc_bd (sa_add12 h_r2) (fun r3 h_r3 => pc_some h_r3))) (fun _ => pc_bd (sa_f_X0_emit h_s) (fun r4 h_r4 => pc_some h_r4.1))) (fun _ => pc_bd (sa_f_X0_emit h_s) (fun r5 h_r5 => pc_some h_r5.1))
theorem sa_k_X6_emitWord_31 {l1 : Int32} {k0 : Int32} {s : t_S} (h_s : SA s) : t_pq (k_X6_emitWord_31 l1 k0 s) (fun y => SA y) := by
  unfold k_X6_emitWord_31
  exact pc_if (fun _ => (sa_k_X6_emitWord_55 h_s)) (fun _ => pc_bd pc_any (fun r1 h_r1 => (sa_k_X6_emitWord_55 h_s)))
theorem sa_f_X6_emitWord {s : t_S} (h_s : SA s) : t_pq (f_X6_emitWord s) (fun y => SA y) := by
  unfold f_X6_emitWord
  exact pc_if (fun _ => (sa_k_X6_emitWord_31 h_s)) (fun _ => pc_bd pc_any (fun r2 h_r2 => (sa_k_X6_emitWord_31 h_s)))
theorem sa_k_X6_readBase_326 {rc : RT_X6_readBase} {l1 : Int32} {l2 : Int32} {s : t_S} (hrc : SAB_X6_readBase rc) (h_s : SA s) : t_pq (k_X6_readBase_326 rc l1 l2 s) (fun y => SA y) := by
  unfold k_X6_readBase_326
  exact pc_bd (sa_f_X2_advance h_s) (fun r1 h_r1 => pc_if (fun _ => pc_bd (hrc.2.2.1 _ _ h_r1) (fun r2 h_r2 => pc_bd (sa_f_X2_need h_r2) (fun r3 h_r3 => pc_some h_r3))) (fun _ => pc_if (fun _ => pc_bd (hrc.2.1 _ _ h_r1) (fun r4 h_r4 => pc_some h_r4)) (fun _ => pc_if (fun _ => pc_bd (hrc.2.2.2.1 _ _ h_r1) (fun r5 h_r5 => pc_some h_r5)) (fun _ => pc_if (fun _ => pc_bd (hrc.2.2.2.2.2.2.1 _ _ h_r1) (fun r6 h_r6 => pc_some h_r6)) (fun _ => pc_if (fun _ => pc_bd (sa_f_X2_need h_r1) (fun r7 h_r7 => pc_bd (hrc.2.2.1 _ _ h_r7) (fun r8 h_r8 => pc_bd (sa_f_X2_need h_r8) (fun r9 h_r9 => pc_bd (sa_f_X0_emit h_r9) (fun r10 h_r10 => pc_some h_r10.1))))) (fun _ => pc_if (fun _ => pc_bd (sa_f_X0_emit h_r1) (fun r11 h_r11 => pc_bd (sa_link7 h_r11) (fun r12 h_r12 => pc_some h_r12))) (fun _ => pc_some h_r1)))))))
theorem sa_f_X0_poolCell {x1 : Int64} {s : t_S} (h_s : SA s) : t_pq (f_X0_poolCell x1 s) (fun y => SA y.2) := by
  unfold f_X0_poolCell
  exact pc_if (fun _ => pc_if (fun z1 => sa_st (SP.setJ h_s) (fun s1 h_s1 => sa_st (SP.set h_s1 ⟨by decide, by decide, fun y => absurd y.1 (by decide), fun y => absurd y.1 (by decide), fun y => absurd y.1 (by decide), fun y => absurd y.2 (by decide)⟩) (fun s2 h_s2 => pc_some h_s2))) (fun _ => pc_none)) (fun _ => pc_some h_s)
theorem sa_f_X0_poolText {x1 : Int32} {s : t_S} (h_s : SA s) : t_pq (f_X0_poolText x1 s) (fun y => SA y.2) := by
  unfold f_X0_poolText
  exact pc_if (fun _ => pc_bd pc_any (fun r1 h_r1 => pc_if (fun z1 => sa_st (SP.setJ h_s) (fun s1 h_s1 => sa_st (SP.set h_s1 ⟨by decide, by decide, fun y => absurd y.1 (by decide), fun y => absurd y.1 (by decide), fun y => absurd y.1 (by decide), fun y => absurd y.2 (by decide)⟩) (fun s2 h_s2 => pc_some h_s2))) (fun _ => pc_none))) (fun _ => pc_some h_s)
theorem sa_k_X8_putSign_24 {l0 : Nat} {l2 : Int32} {l3 : Int32} {l4 : Int32} {s : t_S} (hl_l0 : ARs l0) (h_s : SA s) : t_pq (k_X8_putSign_24 l0 l2 l3 l4 s) (fun y => SA y) := by
  unfold k_X8_putSign_24
  exact pc_if (fun _ => pc_if (fun _ => sa_st (SP.setJ h_s) (fun s1 h_s1 => pc_some h_s1)) (fun _ => pc_none)) (fun _ => pc_none)
theorem sa_f_X8_putSign {x1 : Nat} {x2 : Int32} {x3 : Int32} {x4 : Int32} {s : t_S} (hl_x1 : ARs x1) (h_s : SA s) : t_pq (f_X8_putSign x1 x2 x3 x4 s) (fun y => SA y) := by
  unfold f_X8_putSign
  exact pc_if (fun _ => pc_if (fun _ => pc_if (fun _ => sa_st (SP.setJ h_s) (fun s1 h_s1 => (sa_k_X8_putSign_24 hl_x1 h_s1))) (fun _ => pc_none)) (fun _ => pc_none)) (fun _ => (sa_k_X8_putSign_24 hl_x1 h_s))
theorem sa_k_X6_poolText_18 {l1 : Int32} {l2 : Int32} {s : t_S} (h_s : SA s) : t_pq (k_X6_poolText_18 l1 l2 s) (fun z => Sum.elim (fun y => SA y.2.2) (fun y => SA y.2) z) := by
  unfold k_X6_poolText_18
  exact pc_if (fun _ => pc_mp (pc_some h_s)) (fun _ => pc_bd pc_any (fun r1 h_r1 => pc_bd (sa_f_X8_putSign (show ARs 337 from ⟨by decide, by decide, by decide⟩) h_s) (fun r2 h_r2 => pc_some h_r2)))
theorem sa_b_X6_poolText_18 {x : Int32 × Int32 × t_S} (h : SA x.2.2) : t_pq (b_X6_poolText_18 x) (fun z => Sum.elim (fun y => SA y.2.2) (fun y => SA y.2) z) := sa_k_X6_poolText_18 h
theorem sa_f_X6_poolText {s : t_S} (h_s : SA s) : t_pq (f_X6_poolText s) (fun y => SA y.2) := by
  unfold f_X6_poolText
  exact pc_bd (sa_f_X0_poolText h_s) (fun r1 h_r1 => pc_lp (fun x h => sa_b_X6_poolText_18 h) h_r1)
theorem sa_k_X6_readBase_82 {rc : RT_X6_readBase} {l1 : Int32} {l2 : Int32} {s : t_S} (hrc : SAB_X6_readBase rc) (h_s : SA s) : t_pq (k_X6_readBase_82 rc l1 l2 s) (fun y => SA y) := by
  unfold k_X6_readBase_82
  exact pc_if (fun z1 => pc_bd (sa_f_X6_emitWord h_s) (fun r1 h_r1 => (sa_k_X6_readBase_326 hrc h_r1))) (fun _ => pc_if (fun _ => pc_bd (sa_f_X0_poolCell h_s) (fun r3 h_r3 => pc_bd (sa_f_X0_emit h_r3) (fun r4 h_r4 => (sa_k_X6_readBase_326 hrc h_r4.1)))) (fun _ => pc_if (fun _ => pc_bd (sa_f_X6_poolText h_s) (fun r5 h_r5 => pc_bd (sa_f_X0_emit h_r5) (fun r6 h_r6 => (sa_k_X6_readBase_326 hrc h_r6.1)))) (fun _ => pc_if (fun _ => pc_bd (sa_f_X0_poolCell h_s) (fun r8 h_r8 => pc_bd (sa_f_X0_emit h_r8) (fun r9 h_r9 => (sa_k_X6_readBase_326 hrc h_r9.1)))) (fun _ => pc_if (fun _ => pc_bd (sa_f_X0_poolCell h_s) (fun r11 h_r11 => pc_bd (sa_f_X0_emit h_r11) (fun r12 h_r12 => (sa_k_X6_readBase_326 hrc h_r12.1)))) (fun _ => pc_if (fun _ => pc_bd (sa_f_X0_poolCell h_s) (fun r13 h_r13 => pc_bd (sa_f_X0_emit h_r13) (fun r14 h_r14 => (sa_k_X6_readBase_326 hrc h_r14.1)))) (fun _ => pc_if (fun _ => pc_bd (sa_f_X0_emit h_s) (fun r15 h_r15 => (sa_k_X6_readBase_326 hrc h_r15.1))) (fun _ => pc_if (fun _ => pc_bd (sa_f_X0_emit h_s) (fun r16 h_r16 => (sa_k_X6_readBase_326 hrc h_r16.1))) (fun _ => pc_if (fun _ => pc_bd (sa_f_X0_emit h_s) (fun r17 h_r17 => (sa_k_X6_readBase_326 hrc h_r17.1))) (fun _ => (sa_k_X6_readBase_326 hrc h_s))))))))))
theorem sa_k_X6_readBase_55 {rc : RT_X6_readBase} {l1 : Int32} {l2 : Int32} {k0 : Int32} {s : t_S} (hrc : SAB_X6_readBase rc) (h_s : SA s) : t_pq (k_X6_readBase_55 rc l1 l2 k0 s) (fun y => SA y) := by
  unfold k_X6_readBase_55
  exact pc_if (fun _ => (sa_k_X6_readBase_82 hrc h_s)) (fun _ => pc_if (fun _ => (sa_k_X6_readBase_82 hrc h_s)) (fun _ => pc_bd (sa_f_X3_late h_s) (fun r1 h_r1 => (sa_k_X6_readBase_82 hrc h_r1))))
theorem sa_k_X6_readBase_50 {rc : RT_X6_readBase} {l1 : Int32} {l2 : Int32} {s : t_S} (hrc : SAB_X6_readBase rc) (h_s : SA s) : t_pq (k_X6_readBase_50 rc l1 l2 s) (fun y => SA y) := by
  unfold k_X6_readBase_50
  exact (sa_k_X6_readBase_55 hrc h_s)
theorem sa_m_X6_readBase {rc : RT_X6_readBase} {x1 : Int32} {s : t_S} (hrc : SAB_X6_readBase rc) (h_s : SA s) : t_pq (m_X6_readBase rc x1 s) (fun y => SA y) := by
  unfold m_X6_readBase
  exact pc_if (fun _ => (sa_k_X6_readBase_50 hrc h_s)) (fun _ => pc_if (fun _ => (sa_k_X6_readBase_50 hrc h_s)) (fun _ => pc_if (fun _ => (sa_k_X6_readBase_50 hrc h_s)) (fun _ => pc_if (fun _ => (sa_k_X6_readBase_50 hrc h_s)) (fun _ => pc_if (fun _ => (sa_k_X6_readBase_50 hrc h_s)) (fun _ => pc_if (fun _ => (sa_k_X6_readBase_50 hrc h_s)) (fun _ => (sa_k_X6_readBase_55 hrc h_s)))))))
theorem sa_k_X6_readElements_23 {rc : RT_X6_readBase} {k0 : Int32} {s : t_S} (hrc : SAB_X6_readBase rc) (h_s : SA s) : t_pq (k_X6_readElements_23 rc k0 s) (fun y => SA y) := by
  unfold k_X6_readElements_23
  exact pc_bd (sa_f_X2_need h_s) (fun r1 h_r1 => pc_bd (sa_f_X0_emit h_r1) (fun r2 h_r2 => pc_some h_r2.1))
theorem sa_m_X6_readElements {rc : RT_X6_readBase} {x1 : Int32} {s : t_S} (hrc : SAB_X6_readBase rc) (h_s : SA s) : t_pq (m_X6_readElements rc x1 s) (fun y => SA y) := by
  unfold m_X6_readElements
  exact pc_if (fun _ => (sa_k_X6_readElements_23 hrc h_s)) (fun _ => pc_bd (hrc.2.2.2.2.1 _ _ h_s) (fun r1 h_r1 => (sa_k_X6_readElements_23 hrc h_r1)))
theorem sa_k_X6_lower_63 {l1 : Int32} {l2 : Int32} {s : t_S} (h_s : SA s) : t_pq (k_X6_lower_63 l1 l2 s) (fun z => Sum.elim (fun y => SA y.2.2) (fun y => SA y) z) := by
  unfold k_X6_lower_63
  exact pc_bd (sa_f_X0_emit h_s) (fun r1 h_r1 => pc_if (fun z1 => pc_if (fun z2 => sa_st (SP.set h_r1.1 ⟨by decide, by decide, fun y => absurd y.1 (by decide), fun y => absurd y.1 (by decide), fun y => absurd y.1 (by decide), fun y => absurd y.1 (by decide)⟩) (fun s1 h_s1 => pc_some h_s1)) (fun _ => pc_none)) (fun _ => pc_none))
theorem sa_k_X6_lower_29 {l1 : Int32} {l2 : Int32} {s : t_S} (h_s : SA s) : t_pq (k_X6_lower_29 l1 l2 s) (fun z => Sum.elim (fun y => SA y.2.2) (fun y => SA y) z) := by
  unfold k_X6_lower_29
  exact sa_st (SP.set h_s ⟨by decide, by decide, fun y => absurd y.1 (by decide), fun y => absurd y.1 (by decide), fun y => absurd y.1 (by decide), fun y => absurd y.1 (by decide)⟩) (fun s1 h_s1 => pc_if (fun z1 => pc_if (fun _ => (sa_k_X6_lower_63 h_s1)) (fun _ => pc_if (fun _ => (sa_k_X6_lower_63 h_s1)) (fun _ => pc_bd (sa_f_X0_emit h_s1) (fun r3 h_r3 => pc_some h_r3.1)))) (fun _ => pc_none))
theorem sa_k_X6_lower_0 {l1 : Int32} {l2 : Int32} {s : t_S} (h_s : SA s) : t_pq (k_X6_lower_0 l1 l2 s) (fun z => Sum.elim (fun y => SA y.2.2) (fun y => SA y) z) := by
  unfold k_X6_lower_0
  exact pc_if (fun _ => pc_mp (pc_some h_s)) (fun _ => pc_bd pc_any (fun r1 h_r1 => pc_if (fun _ => (sa_k_X6_lower_29 h_s)) (fun _ => pc_bd pc_any (fun r2 h_r2 => pc_if (fun _ => pc_if (fun _ => pc_mp (pc_some h_s)) (fun _ => (sa_k_X6_lower_29 h_s))) (fun _ => pc_mp (pc_some h_s))))))
theorem sa_b_X6_lower_0 {x : Int32 × Int32 × t_S} (h : SA x.2.2) : t_pq (b_X6_lower_0 x) (fun z => Sum.elim (fun y => SA y.2.2) (fun y => SA y) z) := sa_k_X6_lower_0 h
theorem sa_f_X6_lower {x1 : Int32} {x2 : Int32} {s : t_S} (h_s : SA s) : t_pq (f_X6_lower x1 x2 s) (fun y => SA y) := by
  unfold f_X6_lower
  exact pc_lp (fun x h => sa_b_X6_lower_0 h) h_s
theorem sa_k_X6_readExp_175 {rc : RT_X6_readBase} {l1 : Int32} {l2 : Int32} {l3 : Int32} {s : t_S} (hrc : SAB_X6_readBase rc) (h_s : SA s) : t_pq (k_X6_readExp_175 rc l1 l2 l3 s) (fun y => SA y.2) := by
  unfold k_X6_readExp_175
  exact pc_bd (sa_f_X6_lower h_s) (fun r1 h_r1 => pc_if (fun _ => pc_bd (sa_f_X0_emit h_r1) (fun r2 h_r2 => pc_some h_r2.1)) (fun _ => pc_some h_r1))
theorem sa_f_X6_pushWaiting {x1 : Int32} {x2 : Int32} {s : t_S} (h_s : SA s) : t_pq (f_X6_pushWaiting x1 x2 s) (fun y => SA y) := by
  unfold f_X6_pushWaiting
  exact pc_if (fun _ => pc_if (fun z1 => sa_st (SP.set h_s ⟨by decide, by decide, fun y => absurd y.1 (by decide), fun y => absurd y.1 (by decide), fun y => absurd y.1 (by decide), fun y => absurd y.1 (by decide)⟩) (fun s1 h_s1 => pc_if (fun z2 => sa_st (SP.set h_s1 ⟨by decide, by decide, fun y => absurd y.1 (by decide), fun y => absurd y.1 (by decide), fun y => absurd y.1 (by decide), fun y => absurd y.1 (by decide)⟩) (fun s2 h_s2 => sa_st (SP.set h_s2 ⟨by decide, by decide, fun y => absurd y.1 (by decide), fun y => absurd y.1 (by decide), fun y => absurd y.1 (by decide), fun y => absurd y.1 (by decide)⟩) (fun s3 h_s3 => pc_some h_s3))) (fun _ => pc_none))) (fun _ => pc_none)) (fun _ => pc_some h_s)
theorem sa_k_X6_pushOperator_36 {l1 : Int32} {l2 : Int32} {s : t_S} (h_s : SA s) : t_pq (k_X6_pushOperator_36 l1 l2 s) (fun y => SA y) := by
  unfold k_X6_pushOperator_36
  exact pc_bd (sa_f_X6_pushWaiting h_s) (fun r1 h_r1 => pc_some h_r1)
theorem sa_k_X6_pushOperator_19 {l1 : Int32} {l2 : Int32} {s : t_S} (h_s : SA s) : t_pq (k_X6_pushOperator_19 l1 l2 s) (fun y => SA y) := by
  unfold k_X6_pushOperator_19
  exact pc_if (fun _ => pc_bd (sa_f_X0_emit h_s) (fun r1 h_r1 => (sa_k_X6_pushOperator_36 h_r1.1))) (fun _ => (sa_k_X6_pushOperator_36 h_s))
theorem sa_f_X6_pushOperator {x1 : Int32} {s : t_S} (h_s : SA s) : t_pq (f_X6_pushOperator x1 s) (fun y => SA y) := by
  unfold f_X6_pushOperator
  exact pc_if (fun _ => pc_bd (sa_f_X0_emit h_s) (fun r1 h_r1 => (sa_k_X6_pushOperator_19 h_r1.1))) (fun _ => (sa_k_X6_pushOperator_19 h_s))
theorem sa_k_X6_readExp_125 {rc : RT_X6_readBase} {l1 : Int32} {l2 : Int32} {l3 : Int32} {l4 : Int32} {s : t_S} (hrc : SAB_X6_readBase rc) (h_s : SA s) : t_pq (k_X6_readExp_125 rc l1 l2 l3 l4 s) (fun z => Sum.elim (fun y => SA y.2.2.2.2) (fun y => SA y.2) z) := by
  unfold k_X6_readExp_125
  exact pc_bd (sa_f_X6_node h_s) (fun r1 h_r1 => pc_if (fun _ => pc_bd (sa_f_X6_pushOperator h_r1) (fun r2 h_r2 => pc_bd (sa_f_X2_advance h_r2) (fun r3 h_r3 => pc_bd (hrc.2.2.2.2.2.2.2.1 _ _ h_r3) (fun r4 h_r4 => pc_some h_r4)))) (fun _ => pc_mp ((sa_k_X6_readExp_175 hrc h_r1))))
theorem sa_k_X6_readExp_60 {rc : RT_X6_readBase} {l1 : Int32} {l2 : Int32} {l3 : Int32} {l4 : Int32} {s : t_S} (hrc : SAB_X6_readBase rc) (h_s : SA s) : t_pq (k_X6_readExp_60 rc l1 l2 l3 l4 s) (fun z => Sum.elim (fun y => SA y.2.2.2.2) (fun y => SA y.2) z) := by
  unfold k_X6_readExp_60
  exact pc_if (fun _ => pc_mp ((sa_k_X6_readExp_175 hrc h_s))) (fun _ => pc_if (fun _ => pc_mp ((sa_k_X6_readExp_175 hrc h_s))) (fun _ => pc_bd (sa_f_X6_lower h_s) (fun r2 h_r2 => pc_if (fun _ => pc_if (fun _ => (sa_k_X6_readExp_125 hrc h_r2)) (fun _ => pc_bd pc_any (fun r3 h_r3 => pc_if (fun _ => pc_bd (sa_f_X2_fail h_r2) (fun r4 h_r4 => (sa_k_X6_readExp_125 hrc h_r4))) (fun _ => (sa_k_X6_readExp_125 hrc h_r2))))) (fun _ => (sa_k_X6_readExp_125 hrc h_r2)))))
theorem sa_b_X6_readExp_60 {rc : RT_X6_readBase} {x : Int32 × Int32 × Int32 × Int32 × t_S} (hrc : SAB_X6_readBase rc) (h : SA x.2.2.2.2) : t_pq (b_X6_readExp_60 rc x) (fun z => Sum.elim (fun y => SA y.2.2.2.2) (fun y => SA y.2) z) := sa_k_X6_readExp_60 hrc h
theorem sa_k_X6_readExp_43 {rc : RT_X6_readBase} {l1 : Int32} {l2 : Int32} {s : t_S} (hrc : SAB_X6_readBase rc) (h_s : SA s) : t_pq (k_X6_readExp_43 rc l1 l2 s) (fun y => SA y.2) := by
  unfold k_X6_readExp_43
  exact pc_bd (hrc.2.2.2.2.2.2.2.1 _ _ h_s) (fun r1 h_r1 => pc_lp (fun x h => sa_b_X6_readExp_60 hrc h) h_r1)
theorem sa_k_X6_readExp_29 {rc : RT_X6_readBase} {l1 : Int32} {l2 : Int32} {s : t_S} (hrc : SAB_X6_readBase rc) (h_s : SA s) : t_pq (k_X6_readExp_29 rc l1 l2 s) (fun y => SA y.2) := by
  unfold k_X6_readExp_29
  exact pc_if (fun _ => (sa_k_X6_readExp_43 hrc h_s)) (fun _ => pc_bd (sa_f_X2_fail h_s) (fun r1 h_r1 => (sa_k_X6_readExp_43 hrc h_r1)))
theorem sa_m_X6_readExp {rc : RT_X6_readBase} {x1 : Int32} {s : t_S} (hrc : SAB_X6_readBase rc) (h_s : SA s) : t_pq (m_X6_readExp rc x1 s) (fun y => SA y.2) := by
  unfold m_X6_readExp
  exact pc_if (fun _ => pc_bd (sa_f_X2_fail h_s) (fun r2 h_r2 => (sa_k_X6_readExp_29 hrc h_r2))) (fun _ => (sa_k_X6_readExp_29 hrc h_s))
theorem sa_k_X6_readExpFields_190 {rc : RT_X6_readBase} {l2 : Int32} {l3 : Int32} {s : t_S} (hrc : SAB_X6_readBase rc) (h_s : SA s) : t_pq (k_X6_readExpFields_190 rc l2 l3 s) (fun z => Sum.elim (fun y => SA y.2.2) (fun y => SA y) z) := by
  unfold k_X6_readExpFields_190
  exact pc_if (fun _ => pc_mp (sa_st (SP.set h_s ⟨by decide, by decide, fun y => absurd y.1 (by decide), fun y => absurd y.1 (by decide), fun y => absurd y.1 (by decide), fun y => absurd y.1 (by decide)⟩) (fun s1 h_s1 => pc_some h_s1))) (fun _ => pc_if (fun z1 => pc_bd (sa_f_X0_emit h_s) (fun r2 h_r2 => pc_some h_r2.1)) (fun _ => pc_none))
theorem sa_b_X6_readExpFields_190 {rc : RT_X6_readBase} {x : Int32 × Int32 × t_S} (hrc : SAB_X6_readBase rc) (h : SA x.2.2) : t_pq (b_X6_readExpFields_190 rc x) (fun z => Sum.elim (fun y => SA y.2.2) (fun y => SA y) z) := sa_k_X6_readExpFields_190 hrc h
theorem sa_k_X6_readExpFields_163 {rc : RT_X6_readBase} {l2 : Int32} {s : t_S} (hrc : SAB_X6_readBase rc) (h_s : SA s) : t_pq (k_X6_readExpFields_163 rc l2 s) (fun y => SA y) := by
  unfold k_X6_readExpFields_163
  exact pc_bd (sa_f_X2_need h_s) (fun r1 h_r1 => pc_bd (sa_f_X0_emit h_r1) (fun r2 h_r2 => pc_lp (fun x h => sa_b_X6_readExpFields_190 hrc h) h_r2.1))
theorem sa_k_X6_takeFieldName_62 {l1 : Int32} {s : t_S} (h_s : SA s) : t_pq (k_X6_takeFieldName_62 l1 s) (fun y => SA y.2) := by
  unfold k_X6_takeFieldName_62
  exact pc_bd (sa_f_X2_advance h_s) (fun r1 h_r1 => pc_some h_r1)
theorem sa_k_X6_takeFieldName_19 {s : t_S} (h_s : SA s) : t_pq (k_X6_takeFieldName_19 s) (fun y => SA y.2) := by
  unfold k_X6_takeFieldName_19
  exact pc_if (fun _ => pc_if (fun _ => (sa_k_X6_takeFieldName_62 h_s)) (fun _ => pc_bd (sa_f_X3_late h_s) (fun r2 h_r2 => (sa_k_X6_takeFieldName_62 h_r2)))) (fun _ => pc_some h_s)
theorem sa_f_X6_takeFieldName {s : t_S} (h_s : SA s) : t_pq (f_X6_takeFieldName s) (fun y => SA y.2) := by
  unfold f_X6_takeFieldName
  exact pc_if (fun z1 => (sa_k_X6_takeFieldName_19 h_s)) (fun _ => pc_bd (sa_f_X2_fail h_s) (fun r1 h_r1 => (sa_k_X6_takeFieldName_19 h_r1)))
theorem sa_k_X6_readExpFields_87 {rc : RT_X6_readBase} {l1 : Int32} {l2 : Int32} {l3 : Int32} {s : t_S} (hrc : SAB_X6_readBase rc) (h_s : SA s) : t_pq (k_X6_readExpFields_87 rc l1 l2 l3 s) (fun z => Sum.elim (fun y => SA y.2.2.2) (fun y => SA y) z) := by
  unfold k_X6_readExpFields_87
  exact pc_bd (sa_f_X6_node h_s) (fun r1 h_r1 => pc_if (fun _ => pc_bd (sa_f_X6_takeFieldName h_r1) (fun r2 h_r2 => pc_if (fun z1 => sa_st (SP.set h_r2 ⟨by decide, by decide, fun y => absurd y.1 (by decide), fun y => absurd y.1 (by decide), fun y => absurd y.1 (by decide), fun y => absurd y.1 (by decide)⟩) (fun s1 h_s1 => sa_st (SP.set h_s1 ⟨by decide, by decide, fun y => absurd y.1 (by decide), fun y => absurd y.1 (by decide), fun y => absurd y.1 (by decide), fun y => absurd y.1 (by decide)⟩) (fun s2 h_s2 => pc_bd (sa_f_X2_need h_s2) (fun r4 h_r4 => pc_bd (hrc.2.2.1 _ _ h_r4) (fun r5 h_r5 => pc_bd (sa_f_X2_take h_r5) (fun r6 h_r6 => pc_if (fun _ => pc_mp ((sa_k_X6_readExpFields_163 hrc h_r6))) (fun _ => pc_some h_r6))))))) (fun _ => pc_none))) (fun _ => pc_mp (pc_some h_r1)))
theorem sa_k_X6_readExpFields_19 {rc : RT_X6_readBase} {l1 : Int32} {l2 : Int32} {l3 : Int32} {s : t_S} (hrc : SAB_X6_readBase rc) (h_s : SA s) : t_pq (k_X6_readExpFields_19 rc l1 l2 l3 s) (fun z => Sum.elim (fun y => SA y.2.2.2) (fun y => SA y) z) := by
  unfold k_X6_readExpFields_19
  exact pc_if (fun _ => pc_mp ((sa_k_X6_readExpFields_163 hrc h_s))) (fun _ => pc_if (fun z1 => pc_bd pc_any (fun r2 h_r2 => pc_if (fun _ => pc_if (fun _ => pc_bd (sa_f_X2_fail h_s) (fun r3 h_r3 => (sa_k_X6_readExpFields_87 hrc h_r3))) (fun _ => (sa_k_X6_readExpFields_87 hrc h_s))) (fun _ => pc_bd (sa_f_X2_fail h_s) (fun r4 h_r4 => (sa_k_X6_readExpFields_87 hrc h_r4))))) (fun _ => pc_bd (sa_f_X2_fail h_s) (fun r5 h_r5 => (sa_k_X6_readExpFields_87 hrc h_r5))))
theorem sa_b_X6_readExpFields_19 {rc : RT_X6_readBase} {x : Int32 × Int32 × Int32 × t_S} (hrc : SAB_X6_readBase rc) (h : SA x.2.2.2) : t_pq (b_X6_readExpFields_19 rc x) (fun z => Sum.elim (fun y => SA y.2.2.2) (fun y => SA y) z) := sa_k_X6_readExpFields_19 hrc h
theorem sa_m_X6_readExpFields {rc : RT_X6_readBase} {x1 : Int32} {s : t_S} (hrc : SAB_X6_readBase rc) (h_s : SA s) : t_pq (m_X6_readExpFields rc x1 s) (fun y => SA y) := by
  unfold m_X6_readExpFields
  exact pc_if (fun _ => (sa_k_X6_readExpFields_163 hrc h_s)) (fun _ => pc_lp (fun x h => sa_b_X6_readExpFields_19 hrc h) h_s)
theorem sa_k_X6_readExps_45 {rc : RT_X6_readBase} {l1 : Int32} {l2 : Int32} {s : t_S} (hrc : SAB_X6_readBase rc) (h_s : SA s) : t_pq (k_X6_readExps_45 rc l1 l2 s) (fun z => Sum.elim (fun y => SA y.2.2) (fun y => SA y.2) z) := by
  unfold k_X6_readExps_45
  exact pc_bd (hrc.2.2.1 _ _ h_s) (fun r1 h_r1 => pc_bd (sa_f_X2_take h_r1) (fun r2 h_r2 => pc_if (fun _ => pc_mp (pc_some h_r2)) (fun _ => pc_some h_r2)))
theorem sa_k_X6_readExps_2 {rc : RT_X6_readBase} {l1 : Int32} {l2 : Int32} {s : t_S} (hrc : SAB_X6_readBase rc) (h_s : SA s) : t_pq (k_X6_readExps_2 rc l1 l2 s) (fun z => Sum.elim (fun y => SA y.2.2) (fun y => SA y.2) z) := by
  unfold k_X6_readExps_2
  exact pc_if (fun _ => pc_mp (pc_some h_s)) (fun _ => pc_if (fun _ => pc_if (fun _ => pc_if (fun _ => (sa_k_X6_readExps_45 hrc h_s)) (fun _ => pc_bd (sa_f_X2_fail h_s) (fun r2 h_r2 => (sa_k_X6_readExps_45 hrc h_r2)))) (fun _ => (sa_k_X6_readExps_45 hrc h_s))) (fun _ => pc_mp (pc_some h_s)))
theorem sa_b_X6_readExps_2 {rc : RT_X6_readBase} {x : Int32 × Int32 × t_S} (hrc : SAB_X6_readBase rc) (h : SA x.2.2) : t_pq (b_X6_readExps_2 rc x) (fun z => Sum.elim (fun y => SA y.2.2) (fun y => SA y.2) z) := sa_k_X6_readExps_2 hrc h
theorem sa_m_X6_readExps {rc : RT_X6_readBase} {x1 : Int32} {s : t_S} (hrc : SAB_X6_readBase rc) (h_s : SA s) : t_pq (m_X6_readExps rc x1 s) (fun y => SA y.2) := by
  unfold m_X6_readExps
  exact pc_lp (fun x h => sa_b_X6_readExps_2 hrc h) h_s
theorem sa_k_X6_readInner_131 {rc : RT_X6_readBase} {s : t_S} (hrc : SAB_X6_readBase rc) (h_s : SA s) : t_pq (k_X6_readInner_131 rc s) (fun y => SA y) := by
  unfold k_X6_readInner_131
  exact pc_bd (sa_f_X2_need h_s) (fun r1 h_r1 => pc_some h_r1)
theorem sa_k_X6_readInner_106 {rc : RT_X6_readBase} {l1 : Int32} {l3 : Int32} {l4 : Int32} {l6 : Int32} {l7 : Int32} {s : t_S} (hrc : SAB_X6_readBase rc) (h_s : SA s) : t_pq (k_X6_readInner_106 rc l1 l3 l4 l6 l7 s) (fun z => Sum.elim (fun y => SA y.2.2.2.2.2) (fun y => SA y) z) := by
  unfold k_X6_readInner_106
  exact pc_bd (sa_f_X2_take h_s) (fun r1 h_r1 => pc_if (fun _ => pc_mp ((sa_k_X6_readInner_131 hrc h_r1))) (fun _ => pc_some h_r1))
theorem sa_k_X6_readInner_51 {rc : RT_X6_readBase} {l1 : Int32} {l3 : Int32} {l4 : Int32} {l5 : Int32} {l6 : Int32} {s : t_S} (hrc : SAB_X6_readBase rc) (h_s : SA s) : t_pq (k_X6_readInner_51 rc l1 l3 l4 l5 l6 s) (fun z => Sum.elim (fun y => SA y.2.2.2.2.2) (fun y => SA y) z) := by
  unfold k_X6_readInner_51
  exact pc_bd (hrc.2.2.2.2.2.2.2.2.2.2.2.2.2.1 _ _ _ h_s) (fun r1 h_r1 => pc_if (fun _ => pc_if (fun _ => pc_if (fun z1 => sa_st (SP.set h_r1 ⟨by decide, by decide, fun y => absurd y.1 (by decide), fun y => absurd y.1 (by decide), fun y => absurd y.1 (by decide), fun y => absurd y.1 (by decide)⟩) (fun s2 h_s2 => (sa_k_X6_readInner_106 hrc h_s2))) (fun _ => pc_none)) (fun _ => pc_if (fun z2 => sa_st (SP.set h_r1 ⟨by decide, by decide, fun y => absurd y.1 (by decide), fun y => absurd y.1 (by decide), fun y => absurd y.1 (by decide), fun y => absurd y.1 (by decide)⟩) (fun s1 h_s1 => (sa_k_X6_readInner_106 hrc h_s1))) (fun _ => pc_none))) (fun _ => pc_mp (pc_some h_r1)))
theorem sa_k_X6_readInner_16 {rc : RT_X6_readBase} {l1 : Int32} {l3 : Int32} {l4 : Int32} {l5 : Int32} {l6 : Int32} {s : t_S} (hrc : SAB_X6_readBase rc) (h_s : SA s) : t_pq (k_X6_readInner_16 rc l1 l3 l4 l5 l6 s) (fun z => Sum.elim (fun y => SA y.2.2.2.2.2) (fun y => SA y) z) := by
  unfold k_X6_readInner_16
  exact pc_if (fun _ => pc_mp ((sa_k_X6_readInner_131 hrc h_s))) (fun _ => pc_if (fun _ => pc_if (fun _ => (sa_k_X6_readInner_51 hrc h_s)) (fun _ => pc_bd (sa_f_X2_fail h_s) (fun r2 h_r2 => (sa_k_X6_readInner_51 hrc h_r2)))) (fun _ => (sa_k_X6_readInner_51 hrc h_s)))
theorem sa_b_X6_readInner_16 {rc : RT_X6_readBase} {x : Int32 × Int32 × Int32 × Int32 × Int32 × t_S} (hrc : SAB_X6_readBase rc) (h : SA x.2.2.2.2.2) : t_pq (b_X6_readInner_16 rc x) (fun z => Sum.elim (fun y => SA y.2.2.2.2.2) (fun y => SA y) z) := sa_k_X6_readInner_16 hrc h
theorem sa_m_X6_readInner {rc : RT_X6_readBase} {x1 : Int32} {x2 : Int32} {x3 : Int32} {x4 : Int32} {s : t_S} (hrc : SAB_X6_readBase rc) (h_s : SA s) : t_pq (m_X6_readInner rc x1 x2 x3 x4 s) (fun y => SA y) := by
  unfold m_X6_readInner
  exact pc_if (fun z1 => sa_st (SP.set h_s ⟨by decide, by decide, fun y => absurd y.1 (by decide), fun y => absurd y.1 (by decide), fun y => absurd y.1 (by decide), fun y => absurd y.1 (by decide)⟩) (fun s1 h_s1 => pc_lp (fun x h => sa_b_X6_readInner_16 hrc h) h_s1)) (fun _ => pc_none)
theorem sa_m_X6_readMet {rc : RT_X6_readBase} {x1 : Int32} {s : t_S} (hrc : SAB_X6_readBase rc) (h_s : SA s) : t_pq (m_X6_readMet rc x1 s) (fun y => SA y) := by
  unfold m_X6_readMet
  exact pc_bd (sa_f_X2_need h_s) (fun r1 h_r1 => pc_bd (hrc.2.2.1 _ _ h_r1) (fun r2 h_r2 => pc_bd (sa_f_X2_need h_r2) (fun r3 h_r3 => pc_bd (hrc.2.2.2.2.2.2.2.2.2.2.2.2.2.1 _ _ _ h_r3) (fun r4 h_r4 => pc_bd (sa_f_X0_emit h_r4) (fun r5 h_r5 => pc_bd (sa_f_X2_need h_r5.1) (fun r6 h_r6 => pc_some h_r6))))))
theorem sa_k_X6_readOne_313 {rc : RT_X6_readBase} {l2 : Int32} {s : t_S} (hrc : SAB_X6_readBase rc) (h_s : SA s) : t_pq (k_X6_readOne_313 rc l2 s) (fun z => Sum.elim (fun y => SA y.2) (fun y => SA y) z) := by
  unfold k_X6_readOne_313
  exact pc_if (fun _ => pc_mp (pc_some h_s)) (fun _ => sa_st (SP.set h_s ⟨by decide, by decide, fun y => absurd y.1 (by decide), fun y => absurd y.1 (by decide), fun y => absurd y.1 (by decide), fun y => absurd y.1 (by decide)⟩) (fun s1 h_s1 => pc_if (fun z1 => pc_if (fun z2 => pc_bd (sa_f_X0_emit h_s1) (fun r3 h_r3 => pc_some h_r3.1)) (fun _ => pc_none)) (fun _ => pc_none)))
theorem sa_b_X6_readOne_313 {rc : RT_X6_readBase} {x : Int32 × t_S} (hrc : SAB_X6_readBase rc) (h : SA x.2) : t_pq (b_X6_readOne_313 rc x) (fun z => Sum.elim (fun y => SA y.2) (fun y => SA y) z) := sa_k_X6_readOne_313 hrc h
theorem sa_k_X6_readOne_307 {rc : RT_X6_readBase} {l1 : Int32} {l2 : Int32} {l3 : Int32} {s : t_S} (hrc : SAB_X6_readBase rc) (h_s : SA s) : t_pq (k_X6_readOne_307 rc l1 l2 l3 s) (fun z => Sum.elim (fun y => SA y.2.2.2) (fun y => SA y) z) := by
  unfold k_X6_readOne_307
  exact pc_some h_s
theorem sa_k_X6_readOne_230 {rc : RT_X6_readBase} {l1 : Int32} {l2 : Int32} {l3 : Int32} {s : t_S} (hrc : SAB_X6_readBase rc) (h_s : SA s) : t_pq (k_X6_readOne_230 rc l1 l2 l3 s) (fun z => Sum.elim (fun y => SA y.2.2.2) (fun y => SA y) z) := by
  unfold k_X6_readOne_230
  exact pc_bd (sa_f_X6_node h_s) (fun r1 h_r1 => pc_bd (sa_f_X2_take h_r1) (fun r2 h_r2 => pc_if (fun _ => pc_bd (sa_f_X2_take h_r2) (fun r3 h_r3 => pc_if (fun _ => (sa_k_X6_readOne_307 hrc h_r3)) (fun _ => pc_bd (hrc.2.2.1 _ _ h_r3) (fun r4 h_r4 => pc_bd (sa_f_X2_need h_r4) (fun r5 h_r5 => pc_bd (sa_f_X0_emit h_r5) (fun r6 h_r6 => (sa_k_X6_readOne_307 hrc h_r6.1))))))) (fun _ => pc_bd (sa_f_X6_takeFieldName h_r2) (fun r7 h_r7 => pc_bd (sa_f_X0_emit h_r7) (fun r8 h_r8 => (sa_k_X6_readOne_307 hrc h_r8.1))))))
theorem sa_k_X6_readOne_186 {rc : RT_X6_readBase} {l1 : Int32} {l2 : Int32} {l3 : Int32} {s : t_S} (hrc : SAB_X6_readBase rc) (h_s : SA s) : t_pq (k_X6_readOne_186 rc l1 l2 l3 s) (fun z => Sum.elim (fun y => SA y.2.2.2) (fun y => SA y) z) := by
  unfold k_X6_readOne_186
  exact pc_if (fun _ => pc_mp (pc_lp (fun x h => sa_b_X6_readOne_313 hrc h) h_s)) (fun _ => pc_if (fun _ => pc_if (fun _ => (sa_k_X6_readOne_230 hrc h_s)) (fun _ => pc_if (fun _ => (sa_k_X6_readOne_230 hrc h_s)) (fun _ => pc_mp (pc_lp (fun x h => sa_b_X6_readOne_313 hrc h) h_s)))) (fun _ => pc_mp (pc_lp (fun x h => sa_b_X6_readOne_313 hrc h) h_s)))
theorem sa_b_X6_readOne_186 {rc : RT_X6_readBase} {x : Int32 × Int32 × Int32 × t_S} (hrc : SAB_X6_readBase rc) (h : SA x.2.2.2) : t_pq (b_X6_readOne_186 rc x) (fun z => Sum.elim (fun y => SA y.2.2.2) (fun y => SA y) z) := sa_k_X6_readOne_186 hrc h
theorem sa_k_X6_readOne_184 {rc : RT_X6_readBase} {l1 : Int32} {l2 : Int32} {s : t_S} (hrc : SAB_X6_readBase rc) (h_s : SA s) : t_pq (k_X6_readOne_184 rc l1 l2 s) (fun y => SA y) := by
  unfold k_X6_readOne_184
  exact pc_lp (fun x h => sa_b_X6_readOne_186 hrc h) h_s
theorem sa_k_X6_readOne_165 {rc : RT_X6_readBase} {l1 : Int32} {l2 : Int32} {s : t_S} (hrc : SAB_X6_readBase rc) (h_s : SA s) : t_pq (k_X6_readOne_165 rc l1 l2 s) (fun y => SA y) := by
  unfold k_X6_readOne_165
  exact pc_bd (sa_f_X6_node h_s) (fun r1 h_r1 => pc_if (fun _ => pc_bd (hrc.1 _ _ h_r1) (fun r2 h_r2 => (sa_k_X6_readOne_184 hrc h_r2))) (fun _ => (sa_k_X6_readOne_184 hrc h_r1)))
theorem sa_k_X6_readOne_144 {rc : RT_X6_readBase} {l1 : Int32} {l2 : Int32} {s : t_S} (hrc : SAB_X6_readBase rc) (h_s : SA s) : t_pq (k_X6_readOne_144 rc l1 l2 s) (fun y => SA y) := by
  unfold k_X6_readOne_144
  exact pc_if (fun _ => pc_bd (sa_f_X2_fail h_s) (fun r2 h_r2 => (sa_k_X6_readOne_165 hrc h_r2))) (fun _ => (sa_k_X6_readOne_165 hrc h_s))
theorem sa_k_X6_readOne_138 {rc : RT_X6_readBase} {l1 : Int32} {l2 : Int32} {l3 : Int32} {s : t_S} (hrc : SAB_X6_readBase rc) (h_s : SA s) : t_pq (k_X6_readOne_138 rc l1 l2 l3 s) (fun z => Sum.elim (fun y => SA y.2.2.2) (fun y => SA y) z) := by
  unfold k_X6_readOne_138
  exact pc_some h_s
theorem sa_k_X6_readOne_65 {rc : RT_X6_readBase} {l1 : Int32} {l2 : Int32} {l3 : Int32} {l4 : Int32} {s : t_S} (hrc : SAB_X6_readBase rc) (h_s : SA s) : t_pq (k_X6_readOne_65 rc l1 l2 l3 l4 s) (fun z => Sum.elim (fun y => SA y.2.2.2) (fun y => SA y) z) := by
  unfold k_X6_readOne_65
  exact pc_bd (sa_f_X6_node h_s) (fun r1 h_r1 => pc_bd (sa_f_X2_advance h_r1) (fun r2 h_r2 => pc_if (fun _ => pc_bd (sa_f_X6_pushWaiting h_r2) (fun r7 h_r7 => (sa_k_X6_readOne_138 hrc h_r7))) (fun _ => pc_if (fun _ => pc_bd (sa_f_X6_pushWaiting h_r2) (fun r6 h_r6 => (sa_k_X6_readOne_138 hrc h_r6))) (fun _ => pc_if (fun _ => pc_bd (sa_f_X6_pushWaiting h_r2) (fun r5 h_r5 => (sa_k_X6_readOne_138 hrc h_r5))) (fun _ => pc_bd (sa_f_X6_takeFieldName h_r2) (fun r3 h_r3 => pc_bd (sa_f_X6_pushWaiting h_r3) (fun r4 h_r4 => (sa_k_X6_readOne_138 hrc h_r4))))))))
theorem sa_k_X6_readOne_7 {rc : RT_X6_readBase} {l1 : Int32} {l2 : Int32} {l3 : Int32} {s : t_S} (hrc : SAB_X6_readBase rc) (h_s : SA s) : t_pq (k_X6_readOne_7 rc l1 l2 l3 s) (fun z => Sum.elim (fun y => SA y.2.2.2) (fun y => SA y) z) := by
  unfold k_X6_readOne_7
  exact pc_if (fun _ => pc_mp ((sa_k_X6_readOne_144 hrc h_s))) (fun _ => pc_if (fun _ => pc_if (fun _ => (sa_k_X6_readOne_65 hrc h_s)) (fun _ => pc_if (fun _ => (sa_k_X6_readOne_65 hrc h_s)) (fun _ => pc_if (fun _ => (sa_k_X6_readOne_65 hrc h_s)) (fun _ => pc_if (fun _ => (sa_k_X6_readOne_65 hrc h_s)) (fun _ => pc_mp ((sa_k_X6_readOne_144 hrc h_s))))))) (fun _ => pc_mp ((sa_k_X6_readOne_144 hrc h_s))))
theorem sa_b_X6_readOne_7 {rc : RT_X6_readBase} {x : Int32 × Int32 × Int32 × t_S} (hrc : SAB_X6_readBase rc) (h : SA x.2.2.2) : t_pq (b_X6_readOne_7 rc x) (fun z => Sum.elim (fun y => SA y.2.2.2) (fun y => SA y) z) := sa_k_X6_readOne_7 hrc h
theorem sa_m_X6_readOne {rc : RT_X6_readBase} {x1 : Int32} {s : t_S} (hrc : SAB_X6_readBase rc) (h_s : SA s) : t_pq (m_X6_readOne rc x1 s) (fun y => SA y) := by
  unfold m_X6_readOne
  exact pc_lp (fun x h => sa_b_X6_readOne_7 hrc h) h_s
theorem sa_m_X6_readPerm {rc : RT_X6_readBase} {x1 : Int32} {x2 : Int32} {s : t_S} (hrc : SAB_X6_readBase rc) (h_s : SA s) : t_pq (m_X6_readPerm rc x1 x2 s) (fun y => SA y.2) := by
  unfold m_X6_readPerm
  exact pc_bd (sa_f_X6_node h_s) (fun r1 h_r1 => pc_if (fun _ => pc_bd (sa_f_X10_add h_r1) (fun r2 h_r2 => pc_bd (sa_f_X2_advance h_r2.1) (fun r3 h_r3 => pc_bd (hrc.2.2.2.2.2.2.2.2.2.2.1 _ _ _ _ _ h_r3) (fun r4 h_r4 => pc_some h_r4)))) (fun _ => pc_some h_r1))
theorem sa_k_X6_readPieces_185 {rc : RT_X6_readBase} {s : t_S} (hrc : SAB_X6_readBase rc) (h_s : SA s) : t_pq (k_X6_readPieces_185 rc s) (fun y => SA y) := by
  unfold k_X6_readPieces_185
  exact pc_bd (sa_f_X2_need h_s) (fun r1 h_r1 => pc_some h_r1)
theorem sa_k_X6_readPieces_160 {rc : RT_X6_readBase} {l1 : Int32} {l2 : Int32} {l3 : Int32} {l5 : Int32} {l7 : Int32} {s : t_S} (hrc : SAB_X6_readBase rc) (h_s : SA s) : t_pq (k_X6_readPieces_160 rc l1 l2 l3 l5 l7 s) (fun z => Sum.elim (fun y => SA y.2.2.2.2.2) (fun y => SA y) z) := by
  unfold k_X6_readPieces_160
  exact pc_bd (sa_f_X2_take h_s) (fun r1 h_r1 => pc_if (fun _ => pc_mp ((sa_k_X6_readPieces_185 hrc h_r1))) (fun _ => pc_some h_r1))
theorem sa_k_X6_readPieces_116 {rc : RT_X6_readBase} {l1 : Int32} {l2 : Int32} {l3 : Int32} {l4 : Int32} {l5 : Int32} {k0 : Int32} {s : t_S} (hrc : SAB_X6_readBase rc) (h_s : SA s) : t_pq (k_X6_readPieces_116 rc l1 l2 l3 l4 l5 k0 s) (fun z => Sum.elim (fun y => SA y.2.2.2.2.2) (fun y => SA y) z) := by
  unfold k_X6_readPieces_116
  exact pc_if (fun _ => pc_if (fun _ => pc_if (fun z1 => sa_st (SP.set h_s ⟨by decide, by decide, fun y => absurd y.1 (by decide), fun y => absurd y.1 (by decide), fun y => absurd y.1 (by decide), fun y => absurd y.1 (by decide)⟩) (fun s2 h_s2 => (sa_k_X6_readPieces_160 hrc h_s2))) (fun _ => pc_none)) (fun _ => pc_if (fun z2 => sa_st (SP.set h_s ⟨by decide, by decide, fun y => absurd y.1 (by decide), fun y => absurd y.1 (by decide), fun y => absurd y.1 (by decide), fun y => absurd y.1 (by decide)⟩) (fun s1 h_s1 => (sa_k_X6_readPieces_160 hrc h_s1))) (fun _ => pc_none))) (fun _ => pc_mp (pc_some h_s))
theorem sa_k_X6_readPieces_90 {rc : RT_X6_readBase} {l1 : Int32} {l2 : Int32} {l3 : Int32} {l4 : Int32} {l5 : Int32} {l6 : Int32} {s : t_S} (hrc : SAB_X6_readBase rc) (h_s : SA s) : t_pq (k_X6_readPieces_90 rc l1 l2 l3 l4 l5 l6 s) (fun z => Sum.elim (fun y => SA y.2.2.2.2.2) (fun y => SA y) z) := by
  unfold k_X6_readPieces_90
  exact pc_if (fun _ => pc_bd (hrc.2.2.2.2.2.2.2.2.2.2.2.2.2.1 _ _ _ h_s) (fun r1 h_r1 => (sa_k_X6_readPieces_116 hrc h_r1))) (fun _ => pc_bd (hrc.2.2.2.2.2.2.2.2.1 _ _ _ h_s) (fun r2 h_r2 => (sa_k_X6_readPieces_116 hrc h_r2)))
theorem sa_k_X6_readPieces_82 {rc : RT_X6_readBase} {l1 : Int32} {l2 : Int32} {l3 : Int32} {l4 : Int32} {l5 : Int32} {l6 : Int32} {s : t_S} (hrc : SAB_X6_readBase rc) (h_s : SA s) : t_pq (k_X6_readPieces_82 rc l1 l2 l3 l4 l5 l6 s) (fun z => Sum.elim (fun y => SA y.2.2.2.2.2) (fun y => SA y) z) := by
  unfold k_X6_readPieces_82
  exact pc_bd (sa_f_X2_fail h_s) (fun r1 h_r1 => (sa_k_X6_readPieces_90 hrc h_r1))
theorem sa_k_X6_readPieces_55 {rc : RT_X6_readBase} {l1 : Int32} {l2 : Int32} {l3 : Int32} {l4 : Int32} {l5 : Int32} {k0 : Int32} {s : t_S} (hrc : SAB_X6_readBase rc) (h_s : SA s) : t_pq (k_X6_readPieces_55 rc l1 l2 l3 l4 l5 k0 s) (fun z => Sum.elim (fun y => SA y.2.2.2.2.2) (fun y => SA y) z) := by
  unfold k_X6_readPieces_55
  exact pc_if (fun _ => pc_if (fun _ => pc_if (fun _ => (sa_k_X6_readPieces_90 hrc h_s)) (fun _ => (sa_k_X6_readPieces_82 hrc h_s))) (fun _ => (sa_k_X6_readPieces_82 hrc h_s))) (fun _ => (sa_k_X6_readPieces_90 hrc h_s))
theorem sa_k_X6_readPieces_30 {rc : RT_X6_readBase} {l1 : Int32} {l2 : Int32} {l3 : Int32} {l4 : Int32} {l5 : Int32} {s : t_S} (hrc : SAB_X6_readBase rc) (h_s : SA s) : t_pq (k_X6_readPieces_30 rc l1 l2 l3 l4 l5 s) (fun z => Sum.elim (fun y => SA y.2.2.2.2.2) (fun y => SA y) z) := by
  unfold k_X6_readPieces_30
  exact pc_if (fun _ => pc_mp ((sa_k_X6_readPieces_185 hrc h_s))) (fun _ => pc_if (fun _ => (sa_k_X6_readPieces_55 hrc h_s)) (fun _ => (sa_k_X6_readPieces_55 hrc h_s)))
theorem sa_b_X6_readPieces_30 {rc : RT_X6_readBase} {x : Int32 × Int32 × Int32 × Int32 × Int32 × t_S} (hrc : SAB_X6_readBase rc) (h : SA x.2.2.2.2.2) : t_pq (b_X6_readPieces_30 rc x) (fun z => Sum.elim (fun y => SA y.2.2.2.2.2) (fun y => SA y) z) := sa_k_X6_readPieces_30 hrc h
theorem sa_m_X6_readPieces {rc : RT_X6_readBase} {x1 : Int32} {x2 : Int32} {x3 : Int32} {s : t_S} (hrc : SAB_X6_readBase rc) (h_s : SA s) : t_pq (m_X6_readPieces rc x1 x2 x3 s) (fun y => SA y) := by
  unfold m_X6_readPieces
  exact pc_if (fun z1 => sa_st (SP.set h_s ⟨by decide, by decide, fun y => absurd y.1 (by decide), fun y => absurd y.1 (by decide), fun y => absurd y.1 (by decide), fun y => absurd y.1 (by decide)⟩) (fun s1 h_s1 => pc_bd (sa_f_X2_take h_s1) (fun r2 h_r2 => pc_if (fun _ => pc_lp (fun x h => sa_b_X6_readPieces_30 hrc h) h_r2) (fun _ => pc_some h_r2)))) (fun _ => pc_none)
theorem sa_m_X6_readRow {rc : RT_X6_readBase} {x1 : Int32} {x2 : Int32} {x3 : Int32} {x4 : Int32} {s : t_S} (hrc : SAB_X6_readBase rc) (h_s : SA s) : t_pq (m_X6_readRow rc x1 x2 x3 x4 s) (fun y => SA y) := by
  unfold m_X6_readRow
  exact pc_bd (sa_f_X2_need h_s) (fun r1 h_r1 => pc_bd (hrc.2.2.2.2.2.1 _ _ _ _ _ h_r1) (fun r2 h_r2 => pc_some h_r2))
theorem sa_m_X6_readSame {rc : RT_X6_readBase} {x1 : Int32} {x2 : Int32} {s : t_S} (hrc : SAB_X6_readBase rc) (h_s : SA s) : t_pq (m_X6_readSame rc x1 x2 s) (fun y => SA y) := by
  unfold m_X6_readSame
  exact pc_if (fun z1 => sa_st (SP.set h_s ⟨by decide, by decide, fun y => absurd y.1 (by decide), fun y => absurd y.1 (by decide), fun y => absurd y.1 (by decide), fun y => absurd y.1 (by decide)⟩) (fun s1 h_s1 => pc_bd (sa_f_X2_need h_s1) (fun r2 h_r2 => pc_bd (hrc.2.2.1 _ _ h_r2) (fun r3 h_r3 => pc_bd (sa_f_X2_need h_r3) (fun r4 h_r4 => pc_bd (sa_f_X0_emit h_r4) (fun r5 h_r5 => pc_some h_r5.1)))))) (fun _ => pc_none)
theorem sa_k_X6_readTag_38 {rc : RT_X6_readBase} {l1 : Int32} {l2 : Int32} {l3 : Int32} {s : t_S} (hrc : SAB_X6_readBase rc) (h_s : SA s) : t_pq (k_X6_readTag_38 rc l1 l2 l3 s) (fun y => SA y) := by
  unfold k_X6_readTag_38
  exact pc_bd (sa_f_X2_need h_s) (fun r1 h_r1 => pc_bd (hrc.2.2.2.2.2.2.2.2.2.2.2.2.2.1 _ _ _ h_r1) (fun r2 h_r2 => pc_if (fun z1 => sa_st (SP.set h_r2 ⟨by decide, by decide, fun y => absurd y.1 (by decide), fun y => absurd y.1 (by decide), fun y => absurd y.1 (by decide), fun y => absurd y.1 (by decide)⟩) (fun s1 h_s1 => pc_some h_s1)) (fun _ => pc_none)))
theorem sa_m_X6_readTag {rc : RT_X6_readBase} {x1 : Int32} {x2 : Int32} {x3 : Int32} {s : t_S} (hrc : SAB_X6_readBase rc) (h_s : SA s) : t_pq (m_X6_readTag rc x1 x2 x3 s) (fun y => SA y) := by
  unfold m_X6_readTag
  exact pc_if (fun z1 => sa_st (SP.set h_s ⟨by decide, by decide, fun y => absurd y.1 (by decide), fun y => absurd y.1 (by decide), fun y => absurd y.1 (by decide), fun y => absurd y.1 (by decide)⟩) (fun s1 h_s1 => pc_if (fun z2 => sa_st (SP.set h_s1 ⟨by decide, by decide, fun y => absurd y.1 (by decide), fun y => absurd y.1 (by decide), fun y => absurd y.1 (by decide), fun y => absurd y.1 (by decide)⟩) (fun s2 h_s2 => (sa_k_X6_readTag_38 hrc h_s2))) (fun _ => (sa_k_X6_readTag_38 hrc h_s1)))) (fun _ => pc_none)
theorem sa_k_X6_readTempl_95 {rc : RT_X6_readBase} {l3 : Int32} {s : t_S} (hrc : SAB_X6_readBase rc) (h_s : SA s) : t_pq (k_X6_readTempl_95 rc l3 s) (fun y => SA y.2) := by
  unfold k_X6_readTempl_95
  exact pc_bd (sa_f_X2_take h_s) (fun r1 h_r1 => pc_if (fun _ => pc_some h_r1) (fun _ => pc_if (fun z1 => sa_st (SP.set h_r1 ⟨by decide, by decide, fun y => absurd y.1 (by decide), fun y => absurd y.1 (by decide), fun y => absurd y.1 (by decide), fun y => absurd y.1 (by decide)⟩) (fun s1 h_s1 => pc_some h_s1)) (fun _ => pc_none)))
theorem sa_k_X6_readTempl_35 {rc : RT_X6_readBase} {l1 : Int32} {l2 : Int32} {s : t_S} (hrc : SAB_X6_readBase rc) (h_s : SA s) : t_pq (k_X6_readTempl_35 rc l1 l2 s) (fun y => SA y.2) := by
  unfold k_X6_readTempl_35
  exact pc_bd (sa_f_X6_node h_s) (fun r1 h_r1 => pc_if (fun _ => pc_bd (sa_f_X10_add h_r1) (fun r2 h_r2 => pc_bd (hrc.2.2.2.2.2.2.2.2.2.2.2.2.2.2.2 _ _ _ _ h_r2) (fun r3 h_r3 => pc_bd (sa_f_X2_take h_r3) (fun r4 h_r4 => pc_if (fun _ => (sa_k_X6_readTempl_95 hrc h_r4)) (fun _ => pc_bd (sa_f_X6_readSpan h_r4) (fun r5 h_r5 => pc_if (fun z1 => sa_st (SP.set h_r5 ⟨by decide, by decide, fun y => absurd y.1 (by decide), fun y => absurd y.1 (by decide), fun y => absurd y.1 (by decide), fun y => absurd y.1 (by decide)⟩) (fun s1 h_s1 => (sa_k_X6_readTempl_95 hrc h_s1))) (fun _ => pc_none))))))) (fun _ => pc_some h_r1))
theorem sa_k_X6_readTempl_21 {rc : RT_X6_readBase} {l1 : Int32} {l2 : Int32} {s : t_S} (hrc : SAB_X6_readBase rc) (h_s : SA s) : t_pq (k_X6_readTempl_21 rc l1 l2 s) (fun y => SA y.2) := by
  unfold k_X6_readTempl_21
  exact pc_if (fun _ => (sa_k_X6_readTempl_35 hrc h_s)) (fun _ => pc_bd (sa_f_X2_fail h_s) (fun r1 h_r1 => (sa_k_X6_readTempl_35 hrc h_r1)))
theorem sa_m_X6_readTempl {rc : RT_X6_readBase} {x1 : Int32} {x2 : Int32} {s : t_S} (hrc : SAB_X6_readBase rc) (h_s : SA s) : t_pq (m_X6_readTempl rc x1 x2 s) (fun y => SA y.2) := by
  unfold m_X6_readTempl
  exact pc_if (fun _ => pc_bd (sa_f_X2_fail h_s) (fun r2 h_r2 => (sa_k_X6_readTempl_21 hrc h_r2))) (fun _ => (sa_k_X6_readTempl_21 hrc h_s))
theorem sa_k_X6_readTemplFields_248 {rc : RT_X6_readBase} {s : t_S} (hrc : SAB_X6_readBase rc) (h_s : SA s) : t_pq (k_X6_readTemplFields_248 rc s) (fun y => SA y) := by
  unfold k_X6_readTemplFields_248
  exact pc_bd (sa_f_X2_need h_s) (fun r1 h_r1 => pc_some h_r1)
theorem sa_k_X6_readTemplFields_187 {rc : RT_X6_readBase} {l1 : Int32} {l2 : Int32} {l3 : Int32} {l5 : Int32} {l6 : Int32} {s : t_S} (hrc : SAB_X6_readBase rc) (h_s : SA s) : t_pq (k_X6_readTemplFields_187 rc l1 l2 l3 l5 l6 s) (fun z => Sum.elim (fun y => SA y.2.2.2.2.2) (fun y => SA y) z) := by
  unfold k_X6_readTemplFields_187
  exact pc_bd (sa_f_X2_advance h_s) (fun r1 h_r1 => pc_bd (sa_f_X2_need h_r1) (fun r2 h_r2 => pc_bd (hrc.2.2.2.2.2.2.2.2.2.2.2.2.2.1 _ _ _ h_r2) (fun r3 h_r3 => pc_if (fun z1 => sa_st (SP.set h_r3 ⟨by decide, by decide, fun y => absurd y.1 (by decide), fun y => absurd y.1 (by decide), fun y => absurd y.1 (by decide), fun y => absurd y.1 (by decide)⟩) (fun s1 h_s1 => pc_bd (sa_f_X2_take h_s1) (fun r5 h_r5 => pc_if (fun _ => pc_mp ((sa_k_X6_readTemplFields_248 hrc h_r5))) (fun _ => pc_some h_r5)))) (fun _ => pc_none))))
theorem sa_k_X6_readTemplFields_100 {rc : RT_X6_readBase} {l1 : Int32} {l2 : Int32} {l3 : Int32} {l4 : Int32} {l5 : Int32} {s : t_S} (hrc : SAB_X6_readBase rc) (h_s : SA s) : t_pq (k_X6_readTemplFields_100 rc l1 l2 l3 l4 l5 s) (fun z => Sum.elim (fun y => SA y.2.2.2.2.2) (fun y => SA y) z) := by
  unfold k_X6_readTemplFields_100
  exact pc_bd (sa_f_X6_node h_s) (fun r1 h_r1 => pc_if (fun _ => pc_bd (sa_f_X10_add h_r1) (fun r2 h_r2 => pc_if (fun z1 => sa_st (SP.set h_r2.1 ⟨by decide, by decide, fun y => absurd y.1 (by decide), fun y => absurd y.1 (by decide), fun y => absurd y.1 (by decide), fun y => absurd y.1 (by decide)⟩) (fun s1 h_s1 => sa_st (SP.set h_s1 ⟨by decide, by decide, fun y => absurd y.1 (by decide), fun y => absurd y.1 (by decide), fun y => absurd y.1 (by decide), fun y => absurd y.1 (by decide)⟩) (fun s2 h_s2 => pc_if (fun _ => pc_if (fun z2 => sa_st (SP.set h_s2 ⟨by decide, by decide, fun y => absurd y.1 (by decide), fun y => absurd y.1 (by decide), fun y => absurd y.1 (by decide), fun y => absurd y.1 (by decide)⟩) (fun s4 h_s4 => (sa_k_X6_readTemplFields_187 hrc h_s4))) (fun _ => pc_none)) (fun _ => pc_if (fun z3 => sa_st (SP.set h_s2 ⟨by decide, by decide, fun y => absurd y.1 (by decide), fun y => absurd y.1 (by decide), fun y => absurd y.1 (by decide), fun y => absurd y.1 (by decide)⟩) (fun s3 h_s3 => (sa_k_X6_readTemplFields_187 hrc h_s3))) (fun _ => pc_none))))) (fun _ => pc_none))) (fun _ => pc_mp (pc_some h_r1)))
theorem sa_k_X6_readTemplFields_30 {rc : RT_X6_readBase} {l1 : Int32} {l2 : Int32} {l3 : Int32} {l4 : Int32} {l5 : Int32} {s : t_S} (hrc : SAB_X6_readBase rc) (h_s : SA s) : t_pq (k_X6_readTemplFields_30 rc l1 l2 l3 l4 l5 s) (fun z => Sum.elim (fun y => SA y.2.2.2.2.2) (fun y => SA y) z) := by
  unfold k_X6_readTemplFields_30
  exact pc_if (fun _ => pc_mp ((sa_k_X6_readTemplFields_248 hrc h_s))) (fun _ => pc_if (fun z1 => pc_bd pc_any (fun r2 h_r2 => pc_if (fun _ => pc_if (fun _ => pc_bd (sa_f_X2_fail h_s) (fun r3 h_r3 => (sa_k_X6_readTemplFields_100 hrc h_r3))) (fun _ => (sa_k_X6_readTemplFields_100 hrc h_s))) (fun _ => pc_bd (sa_f_X2_fail h_s) (fun r4 h_r4 => (sa_k_X6_readTemplFields_100 hrc h_r4))))) (fun _ => pc_bd (sa_f_X2_fail h_s) (fun r5 h_r5 => (sa_k_X6_readTemplFields_100 hrc h_r5))))
theorem sa_b_X6_readTemplFields_30 {rc : RT_X6_readBase} {x : Int32 × Int32 × Int32 × Int32 × Int32 × t_S} (hrc : SAB_X6_readBase rc) (h : SA x.2.2.2.2.2) : t_pq (b_X6_readTemplFields_30 rc x) (fun z => Sum.elim (fun y => SA y.2.2.2.2.2) (fun y => SA y) z) := sa_k_X6_readTemplFields_30 hrc h
theorem sa_m_X6_readTemplFields {rc : RT_X6_readBase} {x1 : Int32} {x2 : Int32} {x3 : Int32} {s : t_S} (hrc : SAB_X6_readBase rc) (h_s : SA s) : t_pq (m_X6_readTemplFields rc x1 x2 x3 s) (fun y => SA y) := by
  unfold m_X6_readTemplFields
  exact pc_if (fun z1 => sa_st (SP.set h_s ⟨by decide, by decide, fun y => absurd y.1 (by decide), fun y => absurd y.1 (by decide), fun y => absurd y.1 (by decide), fun y => absurd y.1 (by decide)⟩) (fun s1 h_s1 => pc_bd (sa_f_X2_take h_s1) (fun r2 h_r2 => pc_if (fun _ => pc_lp (fun x h => sa_b_X6_readTemplFields_30 hrc h) h_r2) (fun _ => pc_some h_r2)))) (fun _ => pc_none)
theorem sa_k_X6_readTone_163 {rc : RT_X6_readBase} {k0 : Int64} {k1 : Int32} {s : t_S} (hrc : SAB_X6_readBase rc) (h_s : SA s) : t_pq (k_X6_readTone_163 rc k0 k1 s) (fun y => SA y) := by
  unfold k_X6_readTone_163
  exact pc_if (fun z1 => sa_st (SP.setJ h_s) (fun s1 h_s1 => pc_some h_s1)) (fun _ => pc_none)
theorem sa_k_X10_setLiteral_26 {l1 : Int32} {l2 : Int32} {k0 : Int32} {k1 : Int32} {s : t_S} (h_s : SA s) : t_pq (k_X10_setLiteral_26 l1 l2 k0 k1 s) (fun y => SA y) := by
  unfold k_X10_setLiteral_26
  exact pc_if (fun z1 => sa_st (SP.set h_s ⟨by decide, by decide, fun y => absurd y.1 (by decide), fun y => absurd y.1 (by decide), fun y => absurd y.1 (by decide), fun y => absurd y.1 (by decide)⟩) (fun s1 h_s1 => pc_if (fun z2 => sa_st (SP.set h_s1 ⟨by decide, by decide, fun y => absurd y.1 (by decide), fun y => absurd y.1 (by decide), fun y => absurd y.1 (by decide), fun y => absurd y.1 (by decide)⟩) (fun s2 h_s2 => pc_some h_s2)) (fun _ => pc_none))) (fun _ => pc_none)
theorem sa_f_X10_setLiteral {x1 : Int32} {x2 : Int32} {s : t_S} (h_s : SA s) : t_pq (f_X10_setLiteral x1 x2 s) (fun y => SA y) := by
  unfold f_X10_setLiteral
  exact pc_if (fun z1 => pc_if (fun _ => (sa_k_X10_setLiteral_26 h_s)) (fun _ => (sa_k_X10_setLiteral_26 h_s))) (fun _ => pc_none)
theorem sa_k_X6_readTone_530 {rc : RT_X6_readBase} {l1 : Int32} {s : t_S} (hrc : SAB_X6_readBase rc) (h_s : SA s) : t_pq (k_X6_readTone_530 rc l1 s) (fun y => SA y) := by
  unfold k_X6_readTone_530
  exact pc_if (fun z1 => sa_st (SP.set h_s ⟨by decide, by decide, fun y => absurd y.1 (by decide), fun y => absurd y.1 (by decide), fun y => absurd y.1 (by decide), fun y => absurd y.1 (by decide)⟩) (fun s1 h_s1 => pc_bd (sa_f_X2_need h_s1) (fun r2 h_r2 => pc_some h_r2))) (fun _ => pc_none)
theorem sa_k_X6_readTone_310 {rc : RT_X6_readBase} {l1 : Int32} {l2 : Int32} {l3 : Int32} {l4 : Int32} {s : t_S} (hrc : SAB_X6_readBase rc) (h_s : SA s) : t_pq (k_X6_readTone_310 rc l1 l2 l3 l4 s) (fun y => SA y) := by
  unfold k_X6_readTone_310
  exact pc_bd (sa_f_X2_advance h_s) (fun r1 h_r1 => pc_if (fun _ => pc_bd (hrc.2.2.2.2.2.1 _ _ _ _ _ h_r1) (fun r2 h_r2 => pc_some h_r2)) (fun _ => pc_if (fun _ => pc_bd (hrc.2.2.2.2.2.2.2.2.2.2.2.1 _ _ _ h_r1) (fun r3 h_r3 => pc_some h_r3)) (fun _ => pc_if (fun _ => pc_bd (hrc.2.2.2.2.2.2.2.2.2.2.2.2.1 _ _ _ _ h_r1) (fun r4 h_r4 => pc_some h_r4)) (fun _ => pc_if (fun _ => pc_bd (hrc.2.2.2.2.2.2.2.2.2.1 _ _ _ _ h_r1) (fun r5 h_r5 => pc_some h_r5)) (fun _ => pc_if (fun _ => pc_bd (hrc.2.2.2.2.2.2.2.2.2.2.2.2.2.2.1 _ _ _ _ h_r1) (fun r6 h_r6 => pc_some h_r6)) (fun _ => pc_if (fun _ => pc_bd (hrc.2.2.2.2.2.2.2.2.2.2.1 _ _ _ _ _ h_r1) (fun r7 h_r7 => pc_some h_r7)) (fun _ => pc_if (fun _ => pc_bd (hrc.2.2.2.2.2.2.2.2.2.2.1 _ _ _ _ _ h_r1) (fun r8 h_r8 => pc_some h_r8)) (fun _ => pc_if (fun _ => pc_if (fun _ => pc_bd (sa_f_X6_poolText h_r1) (fun r9 h_r9 => pc_bd (sa_f_X10_setLiteral h_r9) (fun r10 h_r10 => (sa_k_X6_readTone_530 hrc h_r10)))) (fun _ => (sa_k_X6_readTone_530 hrc h_r1))) (fun _ => pc_if (fun _ => pc_bd (hrc.2.2.2.2.2.2.2.2.2.2.1 _ _ _ _ _ h_r1) (fun r11 h_r11 => pc_some h_r11)) (fun _ => pc_if (fun _ => pc_bd (hrc.2.2.2.2.2.2.2.2.2.2.1 _ _ _ _ _ h_r1) (fun r12 h_r12 => pc_some h_r12)) (fun _ => pc_some h_r1)))))))))))
theorem sa_m_X6_readTone {rc : RT_X6_readBase} {x1 : Int32} {x2 : Int32} {x3 : Int32} {s : t_S} (hrc : SAB_X6_readBase rc) (h_s : SPt x1 s) : t_pq (m_X6_readTone rc x1 x2 x3 s) (fun y => SA y) := by
  unfold m_X6_readTone
  exact pc_if (fun _ => sa_tw h_s) (fun _ => pc_if (fun _ => pc_if (fun z1 => sa_st (SP.set h_s.1 ⟨by decide, by decide, fun y => absurd y.1 (by decide), fun y => absurd y.1 (by decide), fun y => absurd y.1 (by decide), fun y => absurd y.1 (by decide)⟩) (fun s3 h_s3 => pc_bd (sa_f_X6_readNumber h_s3) (fun r6 h_r6 => sa_st (SP.setJ h_r6) (fun s4 h_s4 => pc_bd (sa_f_X2_take h_s4) (fun r7 h_r7 => pc_if (fun _ => (sa_k_X6_readTone_163 hrc h_r7)) (fun _ => pc_bd (sa_f_X6_readNumber h_r7) (fun r8 h_r8 => (sa_k_X6_readTone_163 hrc h_r8)))))))) (fun _ => pc_none)) (fun _ => pc_if (fun _ => pc_bd (sa_f_X6_poolText h_s.1) (fun r9 h_r9 => pc_bd (sa_f_X10_setLiteral h_r9) (fun r10 h_r10 => (sa_k_X6_readTone_310 hrc h_r10)))) (fun _ => pc_if (fun _ => pc_if (fun z2 => sa_st (SP.set h_s.1 ⟨by decide, by decide, fun y => absurd y.1 (by decide), fun y => absurd y.1 (by decide), fun y => absurd y.1 (by decide), fun y => absurd y.1 (by decide)⟩) (fun s5 h_s5 => (sa_k_X6_readTone_310 hrc h_s5))) (fun _ => pc_none)) (fun _ => pc_if (fun _ => pc_if (fun z3 => sa_st (SP.set h_s.1 ⟨by decide, by decide, fun y => absurd y.1 (by decide), fun y => absurd y.1 (by decide), fun y => absurd y.1 (by decide), fun y => absurd y.1 (by decide)⟩) (fun s6 h_s6 => pc_bd (sa_f_X6_readNumber h_s6) (fun r13 h_r13 => sa_st (SP.setJ h_r13) (fun s7 h_s7 => pc_bd (sa_f_X2_take h_s7) (fun r14 h_r14 => pc_if (fun _ => (sa_k_X6_readTone_163 hrc h_r14)) (fun _ => pc_bd (sa_f_X6_readNumber h_r14) (fun r15 h_r15 => (sa_k_X6_readTone_163 hrc h_r15)))))))) (fun _ => pc_none)) (fun _ => pc_if (fun _ => pc_if (fun z4 => sa_st (SP.set h_s.1 ⟨by decide, by decide, fun y => absurd y.1 (by decide), fun y => absurd y.1 (by decide), fun y => absurd y.1 (by decide), fun y => absurd y.1 (by decide)⟩) (fun s8 h_s8 => (sa_k_X6_readTone_310 hrc h_s8))) (fun _ => pc_none)) (fun _ => pc_if (fun _ => pc_bd (sa_f_X0_poolCell h_s.1) (fun r18 h_r18 => pc_bd (sa_f_X10_setLiteral h_r18) (fun r19 h_r19 => (sa_k_X6_readTone_310 hrc h_r19)))) (fun _ => pc_if (fun _ => pc_bd (sa_f_X0_poolCell h_s.1) (fun r21 h_r21 => pc_bd (sa_f_X10_setLiteral h_r21) (fun r22 h_r22 => (sa_k_X6_readTone_310 hrc h_r22)))) (fun _ => pc_if (fun _ => pc_if (fun z5 => sa_st (SP.set h_s.1 ⟨by decide, by decide, fun y => absurd y.1 (by decide), fun y => absurd y.1 (by decide), fun y => absurd y.1 (by decide), fun y => absurd y.1 (by decide)⟩) (fun s9 h_s9 => (sa_k_X6_readTone_310 hrc h_s9))) (fun _ => pc_none)) (fun _ => (sa_k_X6_readTone_310 hrc h_s.1))))))))))
theorem SAB_X6_readBase_R : ∀ n, SAB_X6_readBase (R_X6_readBase n) := by
  intro n
  induction n with
  | zero => exact ⟨fun _ _ _ => pc_none, fun _ _ _ => pc_none, fun _ _ _ => pc_none, fun _ _ _ => pc_none, fun _ _ _ => pc_none, fun _ _ _ _ _ _ => pc_none, fun _ _ _ => pc_none, fun _ _ _ => pc_none, fun _ _ _ _ => pc_none, fun _ _ _ _ _ => pc_none, fun _ _ _ _ _ _ => pc_none, fun _ _ _ _ => pc_none, fun _ _ _ _ _ => pc_none, fun _ _ _ _ => pc_none, fun _ _ _ _ _ => pc_none, fun _ _ _ _ _ => pc_none⟩
  | succ n ih => exact ⟨fun _ _ h => sa_m_X6_readBase ih h, fun _ _ h => sa_m_X6_readElements ih h, fun _ _ h => sa_m_X6_readExp ih h, fun _ _ h => sa_m_X6_readExpFields ih h, fun _ _ h => sa_m_X6_readExps ih h, fun _ _ _ _ _ h => sa_m_X6_readInner ih h, fun _ _ h => sa_m_X6_readMet ih h, fun _ _ h => sa_m_X6_readOne ih h, fun _ _ _ h => sa_m_X6_readPerm ih h, fun _ _ _ _ h => sa_m_X6_readPieces ih h, fun _ _ _ _ _ h => sa_m_X6_readRow ih h, fun _ _ _ h => sa_m_X6_readSame ih h, fun _ _ _ _ h => sa_m_X6_readTag ih h, fun _ _ _ h => sa_m_X6_readTempl ih h, fun _ _ _ _ h => sa_m_X6_readTemplFields ih h, fun _ _ _ _ h => sa_m_X6_readTone ih h⟩
theorem sa_f_X6_readTempl {x1 : Int32} {x2 : Int32} {s : t_S} (h_s : SA s) : t_pq (f_X6_readTempl x1 x2 s) (fun y => SA y.2) := by
  unfold f_X6_readTempl
  exact ((SAB_X6_readBase_R 250).2.2.2.2.2.2.2.2.2.2.2.2.2.1 _ _ _ h_s)
theorem sa_f_X6_readTemplateItem {s : t_S} (h_s : SA s) : t_pq (f_X6_readTemplateItem s) (fun y => SA y) := by
  unfold f_X6_readTemplateItem
  exact pc_bd (sa_f_X2_advance h_s) (fun r1 h_r1 => pc_bd (sa_f_X6_takeName h_r1) (fun r2 h_r2 => pc_if (fun _ => pc_some h_r2) (fun _ => pc_if (fun z1 => sa_st (SP.set h_r2 (sa_ar (sa_row (a := 364) z1 (by decide) (by decide)))) (fun s1 h_s1 => sa_st (SP.set h_s1 ⟨by decide, by decide, fun y => absurd y.1 (by decide), fun y => absurd y.1 (by decide), fun y => absurd y.2 (by decide), fun y => absurd y.1 (by decide)⟩) (fun s2 h_s2 => pc_bd (sa_f_X2_advance h_s2) (fun r4 h_r4 => pc_bd (sa_f_X2_need h_r4) (fun r5 h_r5 => sa_st (SP.set h_r5 ⟨by decide, by decide, fun y => absurd y.1 (by decide), fun y => absurd y.1 (by decide), fun y => absurd y.1 (by decide), fun y => absurd y.1 (by decide)⟩) (fun s3 h_s3 => sa_st (SP.set h_s3 (sa_ar (sa_row (a := 364) z1 (by decide) (by decide)))) (fun s4 h_s4 => sa_st (SP.set h_s4 (sa_ar (sa_row (a := 364) z1 (by decide) (by decide)))) (fun s5 h_s5 => pc_bd (sa_f_X6_readTempl h_s5) (fun r6 h_r6 => sa_st (SP.set h_r6 (sa_ar (sa_row (a := 364) z1 (by decide) (by decide)))) (fun s6 h_s6 => sa_st (SP.set h_s6 (sa_ar (sa_row (a := 364) z1 (by decide) (by decide)))) (fun s7 h_s7 => pc_bd (sa_f_X0_emit h_s7) (fun r7 h_r7 => sa_st (SP.set h_r7.1 ⟨by decide, by decide, fun y => absurd y.1 (by decide), fun y => absurd y.1 (by decide), fun y => absurd y.1 (by decide), fun y => absurd y.1 (by decide)⟩) (fun s8 h_s8 => pc_bd (sa_f_X2_need h_s8) (fun r8 h_r8 => pc_some h_r8)))))))))))))) (fun _ => pc_none))))
theorem sa_f_X5_addKind {x1 : Int32} {s : t_S} (h_s : SA s) : t_pq (f_X5_addKind x1 s) (fun y => SA y) := by
  unfold f_X5_addKind
  exact sa_st (SP.set h_s ⟨by decide, by decide, fun y => absurd y.1 (by decide), fun y => absurd y.1 (by decide), fun y => absurd y.1 (by decide), fun y => absurd y.1 (by decide)⟩) (fun s1 h_s1 => pc_if (fun z1 => sa_st (SP.set h_s1 ⟨by decide, by decide, fun y => absurd y.1 (by decide), fun y => absurd y.1 (by decide), fun y => absurd y.1 (by decide), fun y => absurd y.1 (by decide)⟩) (fun s2 h_s2 => sa_st (SP.set h_s2 ⟨by decide, by decide, fun y => absurd y.1 (by decide), fun y => absurd y.1 (by decide), fun y => absurd y.1 (by decide), fun y => absurd y.1 (by decide)⟩) (fun s3 h_s3 => sa_st (SP.set h_s3 ⟨by decide, by decide, fun y => absurd y.1 (by decide), fun y => absurd y.1 (by decide), fun y => absurd y.1 (by decide), fun y => absurd y.1 (by decide)⟩) (fun s4 h_s4 => pc_some h_s4)))) (fun _ => pc_none))
theorem sa_k_X6_readComponentItem_104 {s : t_S} (h_s : SA s) : t_pq (k_X6_readComponentItem_104 s) (fun y => SA y) := by
  unfold k_X6_readComponentItem_104
  exact pc_bd (sa_f_X2_need h_s) (fun r1 h_r1 => sa_st (SP.set h_r1 ⟨by decide, by decide, fun y => absurd y.1 (by decide), fun y => absurd y.1 (by decide), fun y => absurd y.1 (by decide), fun y => absurd y.1 (by decide)⟩) (fun s1 h_s1 => pc_some h_s1))
theorem sa_f_X6_readVarType {x1 : Int32} {x2 : Int32} {s : t_S} (hso : so_ok x1) (h_s : SA s) : t_pq (f_X6_readVarType x1 x2 s) (fun y => SA y) := by
  unfold f_X6_readVarType
  exact pc_bd (sa_f_X2_take h_s) (fun r1 h_r1 => pc_if (fun _ => pc_some h_r1) (fun _ => pc_bd (sa_linko hso h_r1) (fun r2 h_r2 => pc_some h_r2)))
theorem sa_f_X6_readExp {x1 : Int32} {s : t_S} (h_s : SA s) : t_pq (f_X6_readExp x1 s) (fun y => SA y.2) := by
  unfold f_X6_readExp
  exact ((SAB_X6_readBase_R 250).2.2.1 _ _ h_s)
theorem sa_k_X6_readOwn_321 {l2 : Nat} {s : t_S} (hl_l2 : ARs l2) (h_s : SA s) : t_pq (k_X6_readOwn_321 l2 s) (fun y => SA y) := by
  unfold k_X6_readOwn_321
  exact pc_bd (sa_f_X2_need h_s) (fun r1 h_r1 => pc_if (fun _ => pc_if (fun _ => sa_st (SP.set h_r1 (sa_ar hl_l2)) (fun s1 h_s1 => pc_some h_s1)) (fun _ => pc_none)) (fun _ => pc_none))
theorem sa_k_X6_readOwn_227 {l1 : Int32} {l2 : Nat} {l3 : Int32} {l4 : Nat} {s : t_S} (hl_l2 : ARs l2) (hl_l4 : ARs l4) (h_s : SA s) : t_pq (k_X6_readOwn_227 l1 l2 l3 l4 s) (fun y => SA y) := by
  unfold k_X6_readOwn_227
  exact pc_if (fun _ => pc_if (fun _ => pc_if (fun _ => pc_if (fun _ => pc_if (fun _ => sa_st (SP.set h_s (sa_ar hl_l4)) (fun s1 h_s1 => pc_bd (sa_f_X2_advance h_s1) (fun r6 h_r6 => pc_if (fun _ => pc_if (fun z1 => sa_st (SP.set h_r6 ⟨by decide, by decide, fun y => absurd y.1 (by decide), fun y => absurd y.1 (by decide), fun y => absurd y.1 (by decide), fun y => absurd y.1 (by decide)⟩) (fun s2 h_s2 => pc_bd (sa_f_X6_readVarType ⟨by unfold sk_0; decide, by unfold sk_13; decide, by unfold sk_7; decide⟩ h_s2) (fun r8 h_r8 => pc_bd (sa_f_X2_need h_r8) (fun r9 h_r9 => pc_bd (sa_f_X6_readExp h_r9) (fun r10 h_r10 => sa_st (SP.set h_r10 ⟨by decide, by decide, fun y => absurd y.1 (by decide), fun y => absurd y.1 (by decide), fun y => absurd y.1 (by decide), fun y => absurd y.1 (by decide)⟩) (fun s3 h_s3 => (sa_k_X6_readOwn_321 hl_l2 h_s3))))))) (fun _ => pc_none)) (fun _ => (sa_k_X6_readOwn_321 hl_l2 h_r6))))) (fun _ => pc_none)) (fun _ => pc_none)) (fun _ => pc_none)) (fun _ => pc_none)) (fun _ => pc_some h_s)
theorem sa_k_X6_readOwn_153 {l1 : Int32} {l2 : Nat} {l3 : Int32} {k0 : Nat} {s : t_S} (hl_l2 : ARs l2) (hl_k0 : ARs k0) (h_s : SA s) : t_pq (k_X6_readOwn_153 l1 l2 l3 k0 s) (fun y => SA y) := by
  unfold k_X6_readOwn_153
  exact pc_if (fun z1 => pc_bd pc_any (fun r2 h_r2 => pc_if (fun _ => pc_if (fun _ => pc_if (fun _ => pc_if (fun _ => (sa_k_X6_readOwn_227 hl_l2 hl_k0 h_s)) (fun _ => pc_bd (sa_f_X2_fail h_s) (fun r5 h_r5 => (sa_k_X6_readOwn_227 hl_l2 hl_k0 h_r5)))) (fun _ => pc_none)) (fun _ => pc_none)) (fun _ => pc_bd (sa_f_X2_fail h_s) (fun r6 h_r6 => (sa_k_X6_readOwn_227 hl_l2 hl_k0 h_r6))))) (fun _ => pc_bd (sa_f_X2_fail h_s) (fun r7 h_r7 => (sa_k_X6_readOwn_227 hl_l2 hl_k0 h_r7)))
theorem sa_k_X6_readOwn_111 {l1 : Int32} {l2 : Nat} {k0 : Int32} {s : t_S} (hl_l2 : ARs l2) (h_s : SA s) : t_pq (k_X6_readOwn_111 l1 l2 k0 s) (fun y => SA y) := by
  unfold k_X6_readOwn_111
  exact pc_if (fun _ => (sa_k_X6_readOwn_153 hl_l2 (show ARs 430 from ⟨by decide, by decide, by decide⟩) h_s)) (fun _ => pc_if (fun _ => (sa_k_X6_readOwn_153 hl_l2 (show ARs 432 from ⟨by decide, by decide, by decide⟩) h_s)) (fun _ => (sa_k_X6_readOwn_153 hl_l2 (show ARs 434 from ⟨by decide, by decide, by decide⟩) h_s)))
theorem sa_k_X6_readOwn_85 {l1 : Int32} {k0 : Nat} {s : t_S} (hl_k0 : ARs k0) (h_s : SA s) : t_pq (k_X6_readOwn_85 l1 k0 s) (fun y => SA y) := by
  unfold k_X6_readOwn_85
  exact pc_if (fun _ => (sa_k_X6_readOwn_111 hl_k0 h_s)) (fun _ => pc_if (fun _ => (sa_k_X6_readOwn_111 hl_k0 h_s)) (fun _ => (sa_k_X6_readOwn_111 hl_k0 h_s)))
theorem sa_k_X6_readOwn_37 {l1 : Int32} {s : t_S} (h_s : SA s) : t_pq (k_X6_readOwn_37 l1 s) (fun y => SA y) := by
  unfold k_X6_readOwn_37
  exact pc_bd (sa_f_X2_advance h_s) (fun r1 h_r1 => pc_if (fun _ => (sa_k_X6_readOwn_85 (show ARs 429 from ⟨by decide, by decide, by decide⟩) h_r1)) (fun _ => pc_if (fun _ => (sa_k_X6_readOwn_85 (show ARs 431 from ⟨by decide, by decide, by decide⟩) h_r1)) (fun _ => (sa_k_X6_readOwn_85 (show ARs 433 from ⟨by decide, by decide, by decide⟩) h_r1))))
theorem sa_f_X6_readOwn {s : t_S} (h_s : SA s) : t_pq (f_X6_readOwn s) (fun y => SA y) := by
  unfold f_X6_readOwn
  exact pc_if (fun _ => (sa_k_X6_readOwn_37 h_s)) (fun _ => pc_if (fun _ => (sa_k_X6_readOwn_37 h_s)) (fun _ => pc_if (fun _ => (sa_k_X6_readOwn_37 h_s)) (fun _ => pc_bd (sa_f_X2_fail h_s) (fun r1 h_r1 => (sa_k_X6_readOwn_37 h_r1)))))
theorem sa_k_X6_readComponentItem_65 {l1 : Int32} {s : t_S} (h_s : SA s) : t_pq (k_X6_readComponentItem_65 l1 s) (fun z => Sum.elim (fun y => SA y.2) (fun y => SA y) z) := by
  unfold k_X6_readComponentItem_65
  exact pc_if (fun _ => pc_mp ((sa_k_X6_readComponentItem_104 h_s))) (fun _ => pc_if (fun _ => pc_if (fun _ => pc_mp ((sa_k_X6_readComponentItem_104 h_s))) (fun _ => pc_bd (sa_f_X6_readOwn h_s) (fun r1 h_r1 => pc_some h_r1))) (fun _ => pc_mp ((sa_k_X6_readComponentItem_104 h_s))))
theorem sa_b_X6_readComponentItem_65 {x : Int32 × t_S} (h : SA x.2) : t_pq (b_X6_readComponentItem_65 x) (fun z => Sum.elim (fun y => SA y.2) (fun y => SA y) z) := sa_k_X6_readComponentItem_65 h
theorem sa_f_X6_readComponentItem {s : t_S} (h_s : SA s) : t_pq (f_X6_readComponentItem s) (fun y => SA y) := by
  unfold f_X6_readComponentItem
  exact pc_bd (sa_f_X2_advance h_s) (fun r1 h_r1 => pc_bd (sa_f_X6_takeName h_r1) (fun r2 h_r2 => pc_if (fun _ => pc_some h_r2) (fun _ => sa_st (SP.set h_r2 ⟨by decide, by decide, fun y => absurd y.1 (by decide), fun y => absurd y.1 (by decide), fun y => absurd y.1 (by decide), fun y => absurd y.1 (by decide)⟩) (fun s1 h_s1 => pc_bd (sa_f_X5_addKind h_s1) (fun r3 h_r3 => pc_bd (sa_f_X2_advance h_r3) (fun r4 h_r4 => pc_bd (sa_f_X2_need h_r4) (fun r5 h_r5 => pc_lp (fun x h => sa_b_X6_readComponentItem_65 h) h_r5)))))))
theorem sa_f_X5_addUnit {x1 : Int32} {x2 : Int32} {s : t_S} (h_s : SA s) : t_pq (f_X5_addUnit x1 x2 s) (fun y => SA y) := by
  unfold f_X5_addUnit
  exact sa_st (SP.set h_s ⟨by decide, by decide, fun y => absurd y.1 (by decide), fun y => absurd y.1 (by decide), fun y => absurd y.1 (by decide), fun y => absurd y.1 (by decide)⟩) (fun s1 h_s1 => pc_if (fun z1 => sa_st (SP.set h_s1 ⟨by decide, by decide, fun y => absurd y.1 (by decide), fun y => absurd y.1 (by decide), fun y => absurd y.1 (by decide), fun y => absurd y.1 (by decide)⟩) (fun s2 h_s2 => sa_st (SP.set h_s2 ⟨by decide, by decide, fun y => absurd y.1 (by decide), fun y => absurd y.1 (by decide), fun y => absurd y.1 (by decide), fun y => absurd y.1 (by decide)⟩) (fun s3 h_s3 => sa_st (SP.set h_s3 ⟨by decide, by decide, fun y => absurd y.1 (by decide), fun y => absurd y.1 (by decide), fun y => absurd y.1 (by decide), fun y => absurd y.1 (by decide)⟩) (fun s4 h_s4 => sa_st (SP.set h_s4 ⟨by decide, by decide, fun y => absurd y.1 (by decide), fun y => absurd y.1 (by decide), fun y => absurd y.1 (by decide), fun y => absurd y.1 (by decide)⟩) (fun s5 h_s5 => sa_st (SP.set h_s5 ⟨by decide, by decide, fun y => absurd y.1 (by decide), fun y => absurd y.1 (by decide), fun y => absurd y.1 (by decide), fun y => absurd y.1 (by decide)⟩) (fun s6 h_s6 => pc_some h_s6)))))) (fun _ => pc_none))
def SAB_X6_readAlts (rc : RT_X6_readAlts) : Prop := (∀ (x0 : Int32) (x1 : Int32) (s : t_S), SA s → t_pq (rc.1 x0 x1 s) (fun y => SA y.2)) ∧ (∀ (x0 : Int32) (x1 : Int32) (s : t_S), SA s → t_pq (rc.2.1 x0 x1 s) (fun y => SA y.2)) ∧ (∀ (x0 : Int32) (x1 : Int32) (x2 : Int32) (s : t_S), SA s → t_pq (rc.2.2.1 x0 x1 x2 s) (fun y => SA y.2)) ∧ (∀ (x0 : Int32) (x1 : Int32) (s : t_S), SA s → t_pq (rc.2.2.2.1 x0 x1 s) (fun y => SA y.2)) ∧ (∀ (x0 : Int32) (x1 : Int32) (s : t_S), SA s → t_pq (rc.2.2.2.2 x0 x1 s) (fun y => SA y.2))
theorem sa_m_X6_readAlts {rc : RT_X6_readAlts} {x1 : Int32} {x2 : Int32} {s : t_S} (hrc : SAB_X6_readAlts rc) (h_s : SA s) : t_pq (m_X6_readAlts rc x1 x2 s) (fun y => SA y.2) := by
  unfold m_X6_readAlts
  exact pc_bd (hrc.2.2.1 _ _ _ _ h_s) (fun r1 h_r1 => pc_some h_r1)
theorem sa_m_X6_readBlock {rc : RT_X6_readAlts} {x1 : Int32} {x2 : Int32} {s : t_S} (hrc : SAB_X6_readAlts rc) (h_s : SA s) : t_pq (m_X6_readBlock rc x1 x2 s) (fun y => SA y.2) := by
  unfold m_X6_readBlock
  exact pc_bd (hrc.2.2.1 _ _ _ _ h_s) (fun r1 h_r1 => pc_some h_r1)
theorem sa_k_X6_readBraces_142 {rc : RT_X6_readAlts} {l4 : Int32} {s : t_S} (hrc : SAB_X6_readAlts rc) (h_s : SA s) : t_pq (k_X6_readBraces_142 rc l4 s) (fun y => SA y.2) := by
  unfold k_X6_readBraces_142
  exact pc_bd (sa_f_X2_need h_s) (fun r1 h_r1 => pc_some h_r1)
theorem sa_k_X6_readBraces_132 {rc : RT_X6_readAlts} {l1 : Int32} {l2 : Int32} {l3 : Int32} {l4 : Int32} {l6 : Int32} {l7 : Int32} {s : t_S} (hrc : SAB_X6_readAlts rc) (h_s : SA s) : t_pq (k_X6_readBraces_132 rc l1 l2 l3 l4 l6 l7 s) (fun z => Sum.elim (fun y => SA y.2.2.2.2.2.2) (fun y => SA y.2) z) := by
  unfold k_X6_readBraces_132
  exact pc_some h_s
theorem sa_k_X6_readBraces_99 {rc : RT_X6_readAlts} {l1 : Int32} {l2 : Int32} {l3 : Int32} {l4 : Int32} {l5 : Int32} {l6 : Int32} {k0 : Int32} {s : t_S} (hrc : SAB_X6_readAlts rc) (h_s : SA s) : t_pq (k_X6_readBraces_99 rc l1 l2 l3 l4 l5 l6 k0 s) (fun z => Sum.elim (fun y => SA y.2.2.2.2.2.2) (fun y => SA y.2) z) := by
  unfold k_X6_readBraces_99
  exact pc_if (fun _ => pc_if (fun _ => (sa_k_X6_readBraces_132 hrc h_s)) (fun _ => pc_if (fun z1 => sa_st (SP.set h_s (sa_ar (sa_row (a := 445) z1 (by decide) (by decide)))) (fun s1 h_s1 => (sa_k_X6_readBraces_132 hrc h_s1))) (fun _ => pc_none))) (fun _ => (sa_k_X6_readBraces_132 hrc h_s))
theorem sa_k_X6_readBraces_50 {rc : RT_X6_readAlts} {l1 : Int32} {l2 : Int32} {l3 : Int32} {l4 : Int32} {l5 : Int32} {l6 : Int32} {s : t_S} (hrc : SAB_X6_readAlts rc) (h_s : SA s) : t_pq (k_X6_readBraces_50 rc l1 l2 l3 l4 l5 l6 s) (fun z => Sum.elim (fun y => SA y.2.2.2.2.2.2) (fun y => SA y.2) z) := by
  unfold k_X6_readBraces_50
  exact pc_if (fun _ => pc_mp ((sa_k_X6_readBraces_142 hrc h_s))) (fun _ => pc_if (fun _ => pc_if (fun _ => pc_mp ((sa_k_X6_readBraces_142 hrc h_s))) (fun _ => pc_if (fun _ => pc_bd (hrc.2.2.2.2 _ _ _ h_s) (fun r1 h_r1 => (sa_k_X6_readBraces_99 hrc h_r1))) (fun _ => pc_bd (hrc.2.2.2.1 _ _ _ h_s) (fun r2 h_r2 => (sa_k_X6_readBraces_99 hrc h_r2))))) (fun _ => pc_mp ((sa_k_X6_readBraces_142 hrc h_s))))
theorem sa_b_X6_readBraces_50 {rc : RT_X6_readAlts} {x : Int32 × Int32 × Int32 × Int32 × Int32 × Int32 × t_S} (hrc : SAB_X6_readAlts rc) (h : SA x.2.2.2.2.2.2) : t_pq (b_X6_readBraces_50 rc x) (fun z => Sum.elim (fun y => SA y.2.2.2.2.2.2) (fun y => SA y.2) z) := sa_k_X6_readBraces_50 hrc h
theorem sa_k_X6_readBraces_34 {rc : RT_X6_readAlts} {l1 : Int32} {l2 : Int32} {l3 : Int32} {s : t_S} (hrc : SAB_X6_readAlts rc) (h_s : SA s) : t_pq (k_X6_readBraces_34 rc l1 l2 l3 s) (fun y => SA y.2) := by
  unfold k_X6_readBraces_34
  exact pc_bd (sa_f_X2_advance h_s) (fun r1 h_r1 => pc_lp (fun x h => sa_b_X6_readBraces_50 hrc h) h_r1)
theorem sa_k_X6_readBraces_20 {rc : RT_X6_readAlts} {l1 : Int32} {l2 : Int32} {l3 : Int32} {s : t_S} (hrc : SAB_X6_readAlts rc) (h_s : SA s) : t_pq (k_X6_readBraces_20 rc l1 l2 l3 s) (fun y => SA y.2) := by
  unfold k_X6_readBraces_20
  exact pc_if (fun _ => (sa_k_X6_readBraces_34 hrc h_s)) (fun _ => pc_bd (sa_f_X2_fail h_s) (fun r1 h_r1 => (sa_k_X6_readBraces_34 hrc h_r1)))
theorem sa_m_X6_readBraces {rc : RT_X6_readAlts} {x1 : Int32} {x2 : Int32} {x3 : Int32} {s : t_S} (hrc : SAB_X6_readAlts rc) (h_s : SA s) : t_pq (m_X6_readBraces rc x1 x2 x3 s) (fun y => SA y.2) := by
  unfold m_X6_readBraces
  exact pc_if (fun _ => (sa_k_X6_readBraces_20 hrc h_s)) (fun _ => pc_bd (sa_f_X2_fail h_s) (fun r1 h_r1 => (sa_k_X6_readBraces_20 hrc h_r1)))
theorem sa_k_J7_fill_53178_5 {l0 : Nat} {l1 : Int32} {l2 : Int32} {l3 : Int32} {s : t_S} (hl_l0 : ARs l0) (h_s : SA s) : t_pq (k_J7_fill_53178_5 l0 l1 l2 l3 s) (fun z => Sum.elim (fun y => (ARs y.1 ∧ SA y.2.2.2.2)) (fun y => SA y) z) := by
  unfold k_J7_fill_53178_5
  exact pc_if (fun _ => pc_mp (pc_some h_s)) (fun _ => pc_if (fun _ => pc_if (fun _ => sa_st (SP.set h_s (sa_ar hl_l0)) (fun s1 h_s1 => pc_some ⟨hl_l0, h_s1⟩)) (fun _ => pc_none)) (fun _ => pc_none))
theorem sa_b_J7_fill_53178_5 {x : Nat × Int32 × Int32 × Int32 × t_S} (h : (ARs x.1 ∧ SA x.2.2.2.2)) : t_pq (b_J7_fill_53178_5 x) (fun z => Sum.elim (fun y => (ARs y.1 ∧ SA y.2.2.2.2)) (fun y => SA y) z) := sa_k_J7_fill_53178_5 h.1 h.2
theorem sa_f_J7_fill_53178 {x1 : Nat} {x2 : Int32} {s : t_S} (hl_x1 : ARs x1) (h_s : SA s) : t_pq (f_J7_fill_53178 x1 x2 s) (fun y => SA y) := by
  unfold f_J7_fill_53178
  exact pc_if (fun _ => pc_lp (fun x h => sa_b_J7_fill_53178_5 h) ⟨hl_x1, h_s⟩) (fun _ => pc_none)
theorem sa_f_X5_addStep {x1 : Int32} {x2 : Int32} {s : t_S} (h_s : SA s) : t_pq (f_X5_addStep x1 x2 s) (fun y => SA y.2) := by
  unfold f_X5_addStep
  exact pc_if (fun _ => sa_st (SP.set h_s ⟨by decide, by decide, fun y => absurd y.1 (by decide), fun y => absurd y.1 (by decide), fun y => absurd y.1 (by decide), fun y => absurd y.1 (by decide)⟩) (fun s1 h_s1 => pc_if (fun z1 => pc_bd (sa_f_J7_fill_53178 (sa_row (a := 445) z1 (by decide) (by decide)) h_s1) (fun r2 h_r2 => sa_st (SP.set h_r2 (sa_ar (sa_row (a := 445) z1 (by decide) (by decide)))) (fun s2 h_s2 => sa_st (SP.set h_s2 (sa_ar (sa_row (a := 445) z1 (by decide) (by decide)))) (fun s3 h_s3 => pc_some h_s3)))) (fun _ => pc_none))) (fun _ => pc_some h_s)
theorem sa_k_X6_takeVar_33 {l1 : Int32} {k0 : Int32} {s : t_S} (h_s : SA s) : t_pq (k_X6_takeVar_33 l1 k0 s) (fun y => SA y) := by
  unfold k_X6_takeVar_33
  exact pc_if (fun z1 => sa_st (SP.set h_s (sa_ar (sa_row (a := 445) z1 (by decide) (by decide)))) (fun s1 h_s1 => pc_if (fun _ => pc_bd (sa_linko ⟨by unfold sk_0; decide, by unfold sk_13; decide, by unfold sk_7; decide⟩ h_s1) (fun r2 h_r2 => pc_some h_r2)) (fun _ => pc_bd (sa_f_X2_advance h_s1) (fun r3 h_r3 => pc_some h_r3)))) (fun _ => pc_none)
theorem sa_f_X6_takeVar {x1 : Int32} {s : t_S} (h_s : SA s) : t_pq (f_X6_takeVar x1 s) (fun y => SA y) := by
  unfold f_X6_takeVar
  exact pc_if (fun z1 => pc_bd pc_any (fun r2 h_r2 => (sa_k_X6_takeVar_33 h_s))) (fun _ => (sa_k_X6_takeVar_33 h_s))
theorem sa_f_X6_readInto {x1 : Int32} {s : t_S} (h_s : SA s) : t_pq (f_X6_readInto x1 s) (fun y => SA y) := by
  unfold f_X6_readInto
  exact pc_bd (sa_f_X2_take h_s) (fun r1 h_r1 => pc_if (fun _ => pc_some h_r1) (fun _ => pc_bd (sa_f_X6_takeVar h_r1) (fun r2 h_r2 => pc_some h_r2)))
theorem sa_k_X6_readEvent_133 {l1 : Int32} {s : t_S} (h_s : SA s) : t_pq (k_X6_readEvent_133 l1 s) (fun y => SA y) := by
  unfold k_X6_readEvent_133
  exact pc_bd (sa_f_X6_readInto h_s) (fun r1 h_r1 => pc_some h_r1)
theorem sa_k_X6_readEvent_62 {l1 : Int32} {l2 : Nat} {s : t_S} (hl_l2 : ARs l2) (h_s : SA s) : t_pq (k_X6_readEvent_62 l1 l2 s) (fun y => SA y) := by
  unfold k_X6_readEvent_62
  exact pc_if (fun _ => pc_if (fun _ => pc_if (fun _ => pc_bd (sa_linko ⟨by unfold sk_0; decide, by unfold sk_13; decide, by unfold sk_7; decide⟩ h_s) (fun r3 h_r3 => pc_if (fun _ => sa_st (SP.set h_r3 (sa_ar hl_l2)) (fun s1 h_s1 => pc_bd (sa_f_X6_readTempl h_s1) (fun r5 h_r5 => pc_if (fun _ => sa_st (SP.set h_r5 (sa_ar hl_l2)) (fun s2 h_s2 => pc_bd (sa_f_X0_emit h_s2) (fun r7 h_r7 => pc_bd (sa_f_X2_take h_r7.1) (fun r8 h_r8 => pc_if (fun _ => (sa_k_X6_readEvent_133 h_r8)) (fun _ => pc_bd (sa_f_X6_readExp h_r8) (fun r9 h_r9 => pc_if (fun _ => sa_st (SP.set h_r9 (sa_ar hl_l2)) (fun s3 h_s3 => (sa_k_X6_readEvent_133 h_s3))) (fun _ => pc_none))))))) (fun _ => pc_none)))) (fun _ => pc_none))) (fun _ => pc_some h_s)) (fun _ => pc_none)) (fun _ => pc_none)
theorem sa_k_X6_readEvent_46 {l1 : Int32} {l2 : Nat} {s : t_S} (hl_l2 : ARs l2) (h_s : SA s) : t_pq (k_X6_readEvent_46 l1 l2 s) (fun y => SA y) := by
  unfold k_X6_readEvent_46
  exact pc_if (fun _ => pc_if (fun _ => pc_if (fun _ => pc_bd (sa_f_X6_readExp h_s) (fun r3 h_r3 => pc_if (fun _ => sa_st (SP.set h_r3 (sa_ar hl_l2)) (fun s1 h_s1 => (sa_k_X6_readEvent_62 hl_l2 h_s1))) (fun _ => pc_none))) (fun _ => (sa_k_X6_readEvent_62 hl_l2 h_s))) (fun _ => pc_none)) (fun _ => pc_none)
theorem sa_f_X6_readEvent {x1 : Int32} {s : t_S} (h_s : SA s) : t_pq (f_X6_readEvent x1 s) (fun y => SA y) := by
  unfold f_X6_readEvent
  exact pc_if (fun z1 => sa_st (SP.set h_s (sa_ar (sa_row (a := 445) z1 (by decide) (by decide)))) (fun s1 h_s1 => pc_bd (sa_f_X2_advance h_s1) (fun r3 h_r3 => pc_if (fun _ => pc_bd (sa_linko ⟨by unfold sk_0; decide, by unfold sk_13; decide, by unfold sk_7; decide⟩ h_r3) (fun r4 h_r4 => (sa_k_X6_readEvent_46 (sa_row (a := 445) z1 (by decide) (by decide)) h_r4))) (fun _ => (sa_k_X6_readEvent_46 (sa_row (a := 445) z1 (by decide) (by decide)) h_r3))))) (fun _ => pc_none)
theorem sa_k_X6_readBranch_210 {rc : RT_X6_readAlts} {l1 : Int32} {l3 : Int32} {l4 : Nat} {s : t_S} (hrc : SAB_X6_readAlts rc) (hl_l4 : ARs l4) (h_s : SA s) : t_pq (k_X6_readBranch_210 rc l1 l3 l4 s) (fun y => SA y.2) := by
  unfold k_X6_readBranch_210
  exact pc_bd (sa_f_X6_readEvent h_s) (fun r1 h_r1 => pc_bd (hrc.2.1 _ _ _ h_r1) (fun r2 h_r2 => pc_if (fun _ => pc_if (fun _ => sa_st (SP.set h_r2 (sa_ar hl_l4)) (fun s1 h_s1 => pc_some h_s1)) (fun _ => pc_none)) (fun _ => pc_none)))
theorem sa_k_X6_readCall_87 {l1 : Int32} {l2 : Int32} {l3 : Int32} {l4 : Int32} {k0 : Int32} {s : t_S} (hso : so_ok l2) (h_s : SA s) : t_pq (k_X6_readCall_87 l1 l2 l3 l4 k0 s) (fun y => SA y) := by
  unfold k_X6_readCall_87
  exact pc_bd (sa_f_X2_need h_s) (fun r1 h_r1 => pc_bd (sa_f_X0_emit h_r1) (fun r2 h_r2 => pc_bd (sa_addo hso h_r2.1) (fun r4 h_r4 => pc_some h_r4)))
theorem sa_f_X6_readExps {x1 : Int32} {s : t_S} (h_s : SA s) : t_pq (f_X6_readExps x1 s) (fun y => SA y.2) := by
  unfold f_X6_readExps
  exact ((SAB_X6_readBase_R 250).2.2.2.2.1 _ _ h_s)
theorem sa_k_X6_readCall_66 {l1 : Int32} {l2 : Int32} {l3 : Int32} {l4 : Int32} {s : t_S} (hso : so_ok l2) (h_s : SA s) : t_pq (k_X6_readCall_66 l1 l2 l3 l4 s) (fun y => SA y) := by
  unfold k_X6_readCall_66
  exact pc_if (fun _ => (sa_k_X6_readCall_87 hso h_s)) (fun _ => pc_bd (sa_f_X6_readExps h_s) (fun r1 h_r1 => (sa_k_X6_readCall_87 hso h_r1)))
theorem sa_f_X6_readCall {x1 : Int32} {x2 : Int32} {s : t_S} (hso : so_ok x2) (h_s : SA s) : t_pq (f_X6_readCall x1 x2 s) (fun y => SA y) := by
  unfold f_X6_readCall
  exact pc_bd (sa_f_X2_need h_s) (fun r2 h_r2 => pc_bd (sa_f_X2_need h_r2) (fun r3 h_r3 => pc_if (fun z1 => pc_if (fun _ => (sa_k_X6_readCall_66 hso h_r3)) (fun _ => sa_st (SP.set h_r3 (sa_ar (sa_row (a := 445) z1 (by decide) (by decide)))) (fun s1 h_s1 => (sa_k_X6_readCall_66 hso h_s1)))) (fun _ => pc_none)))
theorem sa_k_X6_readBranch_140 {rc : RT_X6_readAlts} {l1 : Int32} {l3 : Int32} {l4 : Nat} {s : t_S} (hrc : SAB_X6_readAlts rc) (hl_l4 : ARs l4) (h_s : SA s) : t_pq (k_X6_readBranch_140 rc l1 l3 l4 s) (fun y => SA y.2) := by
  unfold k_X6_readBranch_140
  exact pc_bd (sa_f_X2_need h_s) (fun r1 h_r1 => pc_bd (sa_f_X2_take h_r1) (fun r2 h_r2 => pc_if (fun _ => pc_if (fun _ => pc_bd (sa_f_X2_fail h_r2) (fun r5 h_r5 => (sa_k_X6_readBranch_210 hrc hl_l4 h_r5))) (fun _ => (sa_k_X6_readBranch_210 hrc hl_l4 h_r2))) (fun _ => pc_if (fun _ => pc_if (fun _ => sa_st (SP.set h_r2 (sa_ar hl_l4)) (fun s1 h_s1 => pc_bd (sa_f_X6_readCall ⟨by unfold sk_0; decide, by unfold sk_13; decide, by unfold sk_7; decide⟩ h_s1) (fun r8 h_r8 => pc_bd (sa_f_X2_need h_r8) (fun r9 h_r9 => pc_some h_r9)))) (fun _ => pc_none)) (fun _ => pc_none))))
theorem sa_k_X6_readBranch_41 {rc : RT_X6_readAlts} {l1 : Int32} {l2 : Int32} {s : t_S} (hrc : SAB_X6_readAlts rc) (h_s : SA s) : t_pq (k_X6_readBranch_41 rc l1 l2 s) (fun y => SA y.2) := by
  unfold k_X6_readBranch_41
  exact pc_if (fun _ => pc_bd (sa_f_X5_addStep h_s) (fun r1 h_r1 => pc_if (fun z1 => pc_bd (sa_f_X2_advance h_r1) (fun r3 h_r3 => pc_bd (sa_f_X2_take h_r3) (fun r4 h_r4 => pc_if (fun _ => pc_if (fun _ => (sa_k_X6_readBranch_140 hrc (sa_row (a := 445) z1 (by decide) (by decide)) h_r4)) (fun _ => pc_bd (sa_f_X6_readExp h_r4) (fun r5 h_r5 => sa_st (SP.set h_r5 (sa_ar (sa_row (a := 445) z1 (by decide) (by decide)))) (fun s1 h_s1 => (sa_k_X6_readBranch_140 hrc (sa_row (a := 445) z1 (by decide) (by decide)) h_s1))))) (fun _ => pc_bd (sa_f_X2_need h_r4) (fun r6 h_r6 => pc_bd (hrc.2.1 _ _ _ h_r6) (fun r7 h_r7 => sa_st (SP.set h_r7 (sa_ar (sa_row (a := 445) z1 (by decide) (by decide)))) (fun s2 h_s2 => pc_some h_s2))))))) (fun _ => pc_none))) (fun _ => pc_some h_s)
theorem sa_k_X6_readBranch_20 {rc : RT_X6_readAlts} {l1 : Int32} {l2 : Int32} {s : t_S} (hrc : SAB_X6_readAlts rc) (h_s : SA s) : t_pq (k_X6_readBranch_20 rc l1 l2 s) (fun y => SA y.2) := by
  unfold k_X6_readBranch_20
  exact pc_if (fun _ => (sa_k_X6_readBranch_41 hrc h_s)) (fun _ => pc_bd (sa_f_X2_fail h_s) (fun r1 h_r1 => (sa_k_X6_readBranch_41 hrc h_r1)))
theorem sa_m_X6_readBranch {rc : RT_X6_readAlts} {x1 : Int32} {x2 : Int32} {s : t_S} (hrc : SAB_X6_readAlts rc) (h_s : SA s) : t_pq (m_X6_readBranch rc x1 x2 s) (fun y => SA y.2) := by
  unfold m_X6_readBranch
  exact pc_if (fun _ => (sa_k_X6_readBranch_20 hrc h_s)) (fun _ => pc_bd (sa_f_X2_fail h_s) (fun r1 h_r1 => (sa_k_X6_readBranch_20 hrc h_r1)))
theorem sa_k_X6_takePlace_100 {s : t_S} (h_s : SA s) : t_pq (k_X6_takePlace_100 s) (fun y => SA y.2) := by
  unfold k_X6_takePlace_100
  exact pc_if (fun _ => pc_if (fun z1 => pc_if (fun z2 => sa_st (SP.set h_s ⟨by decide, by decide, fun y => absurd y.1 (by decide), fun y => absurd y.1 (by decide), fun y => absurd y.1 (by decide), fun y => absurd y.1 (by decide)⟩) (fun s1 h_s1 => sa_st (SP.set h_s1 ⟨by decide, by decide, fun y => absurd y.1 (by decide), fun y => absurd y.1 (by decide), fun y => absurd y.1 (by decide), fun y => absurd y.1 (by decide)⟩) (fun s2 h_s2 => pc_bd (sa_f_X2_advance h_s2) (fun r4 h_r4 => pc_if (fun z3 => pc_some h_r4) (fun _ => pc_none))))) (fun _ => pc_none)) (fun _ => pc_none)) (fun _ => pc_some h_s)
theorem sa_k_X6_takePlace_64 {s : t_S} (h_s : SA s) : t_pq (k_X6_takePlace_64 s) (fun y => SA y.2) := by
  unfold k_X6_takePlace_64
  exact pc_bd (sa_f_X2_fail h_s) (fun r1 h_r1 => (sa_k_X6_takePlace_100 h_r1))
theorem sa_f_X6_takePlace {s : t_S} (h_s : SA s) : t_pq (f_X6_takePlace s) (fun y => SA y.2) := by
  unfold f_X6_takePlace
  exact pc_if (fun z1 => pc_bd pc_any (fun r2 h_r2 => pc_if (fun _ => (sa_k_X6_takePlace_64 h_s)) (fun _ => pc_bd pc_any (fun r4 h_r4 => pc_if (fun _ => pc_if (fun z2 => pc_if (fun _ => (sa_k_X6_takePlace_100 h_s)) (fun _ => pc_bd (sa_f_X2_fail h_s) (fun r6 h_r6 => (sa_k_X6_takePlace_100 h_r6)))) (fun _ => pc_none)) (fun _ => (sa_k_X6_takePlace_64 h_s)))))) (fun _ => pc_bd (sa_f_X2_fail h_s) (fun r7 h_r7 => (sa_k_X6_takePlace_100 h_r7)))
theorem sa_f_X6_readVar {x1 : Int32} {s : t_S} (h_s : SA s) : t_pq (f_X6_readVar x1 s) (fun y => SA y) := by
  unfold f_X6_readVar
  exact pc_if (fun z1 => pc_bd (sa_f_X6_takePlace h_s) (fun r2 h_r2 => pc_if (fun _ => pc_bd (sa_f_X6_readVarType ⟨by unfold sk_0; decide, by unfold sk_13; decide, by unfold sk_7; decide⟩ h_r2) (fun r3 h_r3 => pc_bd (sa_f_X2_need h_r3) (fun r4 h_r4 => pc_bd (sa_f_X6_readExp h_r4) (fun r5 h_r5 => sa_st (SP.set h_r5 (sa_ar (sa_row (a := 445) z1 (by decide) (by decide)))) (fun s1 h_s1 => sa_st (SP.set h_s1 (sa_ar (sa_row (a := 445) z1 (by decide) (by decide)))) (fun s2 h_s2 => pc_if (fun z2 => sa_st (SP.set h_s2 ⟨by decide, by decide, fun y => absurd y.1 (by decide), fun y => absurd y.1 (by decide), fun y => absurd y.1 (by decide), fun y => absurd y.1 (by decide)⟩) (fun s3 h_s3 => pc_some h_s3)) (fun _ => pc_none))))))) (fun _ => pc_some h_r2))) (fun _ => pc_none)
theorem sa_k_X6_readPlain_197 {s : t_S} (h_s : SA s) : t_pq (k_X6_readPlain_197 s) (fun y => SA y) := by
  unfold k_X6_readPlain_197
  exact pc_bd (sa_f_X2_advance h_s) (fun r1 h_r1 => pc_some h_r1)
theorem sa_k_X6_readPlain_189 {s : t_S} (h_s : SA s) : t_pq (k_X6_readPlain_189 s) (fun y => SA y) := by
  unfold k_X6_readPlain_189
  exact pc_bd (sa_f_X2_fail h_s) (fun r1 h_r1 => (sa_k_X6_readPlain_197 h_r1))
theorem sa_f_X6_readPlain {x1 : Int32} {x2 : Int32} {s : t_S} (h_s : SA s) : t_pq (f_X6_readPlain x1 x2 s) (fun y => SA y) := by
  unfold f_X6_readPlain
  exact pc_if (fun z1 => pc_if (fun _ => pc_some h_s) (fun _ => pc_if (fun _ => pc_bd (sa_f_X6_readVar h_s) (fun r2 h_r2 => pc_some h_r2)) (fun _ => pc_if (fun _ => pc_some h_s) (fun _ => pc_if (fun _ => pc_some h_s) (fun _ => pc_if (fun _ => pc_some h_s) (fun _ => pc_if (fun _ => pc_if (fun _ => pc_some h_s) (fun _ => pc_bd (sa_f_X6_readExp h_s) (fun r3 h_r3 => sa_st (SP.set h_r3 (sa_ar (sa_row (a := 445) z1 (by decide) (by decide)))) (fun s1 h_s1 => pc_some h_s1)))) (fun _ => pc_if (fun _ => pc_bd (sa_f_X6_readCall ⟨by unfold sk_0; decide, by unfold sk_13; decide, by unfold sk_7; decide⟩ h_s) (fun r4 h_r4 => pc_bd (sa_f_X6_readInto h_r4) (fun r5 h_r5 => pc_some h_r5))) (fun _ => pc_if (fun _ => sa_st (SP.set h_s (sa_ar (sa_row (a := 445) z1 (by decide) (by decide)))) (fun s2 h_s2 => pc_if (fun _ => (sa_k_X6_readPlain_189 h_s2)) (fun _ => pc_if (fun _ => (sa_k_X6_readPlain_197 h_s2)) (fun _ => (sa_k_X6_readPlain_189 h_s2))))) (fun _ => pc_if (fun _ => pc_bd (sa_f_X6_readExp h_s) (fun r6 h_r6 => sa_st (SP.set h_r6 (sa_ar (sa_row (a := 445) z1 (by decide) (by decide)))) (fun s3 h_s3 => pc_some h_s3))) (fun _ => pc_if (fun _ => pc_bd (sa_linko ⟨by unfold sk_0; decide, by unfold sk_13; decide, by unfold sk_7; decide⟩ h_s) (fun r7 h_r7 => pc_bd (sa_f_X6_readExp h_r7) (fun r8 h_r8 => sa_st (SP.set h_r8 (sa_ar (sa_row (a := 445) z1 (by decide) (by decide)))) (fun s4 h_s4 => pc_some h_s4)))) (fun _ => pc_if (fun _ => pc_some h_s) (fun _ => pc_if (fun _ => pc_some h_s) (fun _ => pc_if (fun _ => pc_some h_s) (fun _ => pc_if (fun _ => pc_some h_s) (fun _ => pc_if (fun _ => pc_bd (sa_linko ⟨by unfold sk_0; decide, by unfold sk_13; decide, by unfold sk_7; decide⟩ h_s) (fun r9 h_r9 => pc_bd (sa_f_X6_readExp h_r9) (fun r10 h_r10 => sa_st (SP.set h_r10 (sa_ar (sa_row (a := 445) z1 (by decide) (by decide)))) (fun s5 h_s5 => pc_some h_s5)))) (fun _ => pc_if (fun _ => pc_bd (sa_linko ⟨by unfold sk_0; decide, by unfold sk_13; decide, by unfold sk_7; decide⟩ h_s) (fun r11 h_r11 => pc_some h_r11)) (fun _ => pc_if (fun _ => pc_some h_s) (fun _ => pc_if (fun _ => pc_some h_s) (fun _ => pc_if (fun _ => pc_some h_s) (fun _ => pc_if (fun _ => pc_some h_s) (fun _ => pc_bd (sa_f_X6_readExp h_s) (fun r12 h_r12 => sa_st (SP.set h_r12 (sa_ar (sa_row (a := 445) z1 (by decide) (by decide)))) (fun s6 h_s6 => pc_some h_s6))))))))))))))))))))))) (fun _ => pc_none)
theorem sa_k_X6_readStatement_315 {rc : RT_X6_readAlts} {l4 : Int32} {s : t_S} (hrc : SAB_X6_readAlts rc) (h_s : SA s) : t_pq (k_X6_readStatement_315 rc l4 s) (fun y => SA y.2) := by
  unfold k_X6_readStatement_315
  exact pc_bd (sa_f_X2_need h_s) (fun r1 h_r1 => pc_some h_r1)
theorem sa_k_X6_readAssignment_152 {l2 : Nat} {s : t_S} (hl_l2 : ARs l2) (h_s : SA s) : t_pq (k_X6_readAssignment_152 l2 s) (fun y => SA y) := by
  unfold k_X6_readAssignment_152
  exact pc_bd (sa_f_X2_need h_s) (fun r1 h_r1 => pc_if (fun _ => pc_if (fun _ => sa_st (SP.set h_r1 (sa_ar hl_l2)) (fun s1 h_s1 => pc_bd (sa_f_X6_readExp h_s1) (fun r4 h_r4 => pc_bd (sa_f_X0_emit h_r4) (fun r5 h_r5 => pc_bd (sa_f_X2_need h_r5.1) (fun r6 h_r6 => pc_some h_r6))))) (fun _ => pc_none)) (fun _ => pc_none))
theorem sa_k_X6_readAssignment_146 {l2 : Nat} {l3 : Int32} {s : t_S} (hl_l2 : ARs l2) (h_s : SA s) : t_pq (k_X6_readAssignment_146 l2 l3 s) (fun z => Sum.elim (fun y => (ARs y.1 ∧ SA y.2.2)) (fun y => SA y) z) := by
  unfold k_X6_readAssignment_146
  exact pc_some ⟨hl_l2, h_s⟩
theorem sa_k_X6_readAssignment_71 {l2 : Nat} {l3 : Int32} {s : t_S} (hl_l2 : ARs l2) (h_s : SA s) : t_pq (k_X6_readAssignment_71 l2 l3 s) (fun z => Sum.elim (fun y => (ARs y.1 ∧ SA y.2.2)) (fun y => SA y) z) := by
  unfold k_X6_readAssignment_71
  exact pc_bd (sa_f_X6_node h_s) (fun r1 h_r1 => pc_bd (sa_f_X2_take h_r1) (fun r2 h_r2 => pc_if (fun _ => pc_bd (sa_f_X2_take h_r2) (fun r3 h_r3 => pc_if (fun _ => (sa_k_X6_readAssignment_146 hl_l2 h_r3)) (fun _ => pc_bd (sa_f_X6_readExp h_r3) (fun r4 h_r4 => pc_bd (sa_f_X2_need h_r4) (fun r5 h_r5 => pc_bd (sa_f_X0_emit h_r5) (fun r6 h_r6 => (sa_k_X6_readAssignment_146 hl_l2 h_r6.1))))))) (fun _ => pc_bd (sa_f_X6_takeFieldName h_r2) (fun r7 h_r7 => pc_bd (sa_f_X0_emit h_r7) (fun r8 h_r8 => (sa_k_X6_readAssignment_146 hl_l2 h_r8.1))))))
theorem sa_k_X6_readAssignment_27 {l2 : Nat} {l3 : Int32} {s : t_S} (hl_l2 : ARs l2) (h_s : SA s) : t_pq (k_X6_readAssignment_27 l2 l3 s) (fun z => Sum.elim (fun y => (ARs y.1 ∧ SA y.2.2)) (fun y => SA y) z) := by
  unfold k_X6_readAssignment_27
  exact pc_if (fun _ => pc_mp ((sa_k_X6_readAssignment_152 hl_l2 h_s))) (fun _ => pc_if (fun _ => pc_if (fun _ => (sa_k_X6_readAssignment_71 hl_l2 h_s)) (fun _ => pc_if (fun _ => (sa_k_X6_readAssignment_71 hl_l2 h_s)) (fun _ => pc_mp ((sa_k_X6_readAssignment_152 hl_l2 h_s))))) (fun _ => pc_mp ((sa_k_X6_readAssignment_152 hl_l2 h_s))))
theorem sa_b_X6_readAssignment_27 {x : Nat × Int32 × t_S} (h : (ARs x.1 ∧ SA x.2.2)) : t_pq (b_X6_readAssignment_27 x) (fun z => Sum.elim (fun y => (ARs y.1 ∧ SA y.2.2)) (fun y => SA y) z) := sa_k_X6_readAssignment_27 h.1 h.2
theorem sa_f_X6_readAssignment {x1 : Int32} {s : t_S} (h_s : SA s) : t_pq (f_X6_readAssignment x1 s) (fun y => SA y) := by
  unfold f_X6_readAssignment
  exact pc_if (fun z1 => pc_bd (sa_f_X6_takeVar h_s) (fun r2 h_r2 => sa_st (SP.set h_r2 (sa_ar (sa_row (a := 445) z1 (by decide) (by decide)))) (fun s1 h_s1 => pc_lp (fun x h => sa_b_X6_readAssignment_27 h) ⟨(sa_row (a := 445) z1 (by decide) (by decide)), h_s1⟩))) (fun _ => pc_none)
theorem sa_k_X6_readOfComponents_64 {l1 : Int32} {s : t_S} (h_s : SA s) : t_pq (k_X6_readOfComponents_64 l1 s) (fun y => SA y) := by
  unfold k_X6_readOfComponents_64
  exact pc_bd (sa_f_X6_readInto h_s) (fun r1 h_r1 => pc_some h_r1)
theorem sa_f_X6_takePort {x1 : Int32} {s : t_S} (h_s : SA s) : t_pq (f_X6_takePort x1 s) (fun y => SA y.2) := by
  unfold f_X6_takePort
  exact pc_bd (sa_linko ⟨by unfold sk_0; decide, by unfold sk_13; decide, by unfold sk_7; decide⟩ h_s) (fun r2 h_r2 => pc_some h_r2)
theorem sa_f_X6_readOfComponents {x1 : Int32} {x2 : Int32} {s : t_S} (h_s : SA s) : t_pq (f_X6_readOfComponents x1 x2 s) (fun y => SA y) := by
  unfold f_X6_readOfComponents
  exact pc_if (fun z1 => pc_if (fun _ => pc_bd (sa_f_X6_readCall ⟨by unfold sk_0; decide, by unfold sk_13; decide, by unfold sk_7; decide⟩ h_s) (fun r2 h_r2 => pc_some h_r2)) (fun _ => pc_if (fun _ => pc_bd (sa_linko ⟨by unfold sk_0; decide, by unfold sk_13; decide, by unfold sk_7; decide⟩ h_s) (fun r3 h_r3 => pc_if (fun _ => (sa_k_X6_readOfComponents_64 h_r3)) (fun _ => pc_bd (sa_f_X2_fail h_r3) (fun r4 h_r4 => (sa_k_X6_readOfComponents_64 h_r4))))) (fun _ => pc_if (fun _ => sa_st (SP.set h_s (sa_ar (sa_row (a := 445) z1 (by decide) (by decide)))) (fun s1 h_s1 => pc_bd (sa_f_X6_readExp h_s1) (fun r5 h_r5 => pc_bd (sa_f_X2_need h_r5) (fun r6 h_r6 => pc_bd (sa_f_X6_readCall ⟨by unfold sk_0; decide, by unfold sk_13; decide, by unfold sk_7; decide⟩ h_r6) (fun r7 h_r7 => pc_some h_r7))))) (fun _ => sa_st (SP.set h_s (sa_ar (sa_row (a := 445) z1 (by decide) (by decide)))) (fun s2 h_s2 => pc_bd (sa_f_X6_readExp h_s2) (fun r8 h_r8 => pc_bd (sa_f_X2_need h_r8) (fun r9 h_r9 => pc_bd (sa_f_X6_takePort h_r9) (fun r10 h_r10 => sa_st (SP.set h_r10 (sa_ar (sa_row (a := 445) z1 (by decide) (by decide)))) (fun s3 h_s3 => pc_bd (sa_f_X2_need h_s3) (fun r11 h_r11 => pc_bd (sa_f_X6_readExp h_r11) (fun r12 h_r12 => pc_bd (sa_f_X2_need h_r12) (fun r13 h_r13 => pc_bd (sa_f_X6_takePort h_r13) (fun r14 h_r14 => sa_st (SP.set h_r14 (sa_ar (sa_row (a := 445) z1 (by decide) (by decide)))) (fun s4 h_s4 => pc_bd (sa_f_X0_emit h_s4) (fun r15 h_r15 => pc_some h_r15.1))))))))))))))) (fun _ => pc_none)
theorem sa_k_X6_readStatement_98 {rc : RT_X6_readAlts} {l1 : Int32} {l3 : Int32} {l4 : Int32} {l5 : Nat} {s : t_S} (hrc : SAB_X6_readAlts rc) (hl_l5 : ARs l5) (h_s : SA s) : t_pq (k_X6_readStatement_98 rc l1 l3 l4 l5 s) (fun y => SA y.2) := by
  unfold k_X6_readStatement_98
  exact pc_if (fun _ => pc_bd (sa_f_X6_readPlain h_s) (fun r1 h_r1 => (sa_k_X6_readStatement_315 hrc h_r1))) (fun _ => pc_if (fun _ => pc_bd (sa_f_X6_readAssignment h_s) (fun r2 h_r2 => pc_some h_r2)) (fun _ => pc_if (fun _ => pc_bd (sa_f_X6_readExp h_s) (fun r3 h_r3 => pc_if (fun _ => pc_if (fun _ => sa_st (SP.set h_r3 (sa_ar hl_l5)) (fun s1 h_s1 => pc_bd (hrc.2.1 _ _ _ h_s1) (fun r6 h_r6 => pc_if (fun _ => sa_st (SP.set h_r6 (sa_ar hl_l5)) (fun s2 h_s2 => pc_bd (sa_f_X2_take h_s2) (fun r8 h_r8 => pc_if (fun _ => pc_some h_r8) (fun _ => pc_bd (hrc.2.1 _ _ _ h_r8) (fun r9 h_r9 => pc_if (fun _ => sa_st (SP.set h_r9 (sa_ar hl_l5)) (fun s3 h_s3 => pc_some h_s3)) (fun _ => pc_none)))))) (fun _ => pc_none)))) (fun _ => pc_none)) (fun _ => pc_none))) (fun _ => pc_if (fun _ => pc_bd (sa_f_X6_readExp h_s) (fun r11 h_r11 => pc_if (fun _ => pc_if (fun _ => sa_st (SP.set h_r11 (sa_ar hl_l5)) (fun s4 h_s4 => pc_bd (hrc.2.1 _ _ _ h_s4) (fun r14 h_r14 => pc_if (fun _ => sa_st (SP.set h_r14 (sa_ar hl_l5)) (fun s5 h_s5 => pc_some h_s5)) (fun _ => pc_none)))) (fun _ => pc_none)) (fun _ => pc_none))) (fun _ => pc_if (fun _ => pc_bd (sa_f_X6_readPlain h_s) (fun r16 h_r16 => (sa_k_X6_readStatement_315 hrc h_r16))) (fun _ => pc_if (fun _ => pc_bd (sa_f_X6_readPlain h_s) (fun r17 h_r17 => (sa_k_X6_readStatement_315 hrc h_r17))) (fun _ => pc_if (fun _ => pc_bd (sa_f_X6_readPlain h_s) (fun r18 h_r18 => (sa_k_X6_readStatement_315 hrc h_r18))) (fun _ => pc_if (fun _ => pc_bd (sa_f_X6_readPlain h_s) (fun r19 h_r19 => (sa_k_X6_readStatement_315 hrc h_r19))) (fun _ => pc_if (fun _ => pc_bd (sa_f_X6_readPlain h_s) (fun r20 h_r20 => (sa_k_X6_readStatement_315 hrc h_r20))) (fun _ => pc_if (fun _ => pc_bd (hrc.1 _ _ _ h_s) (fun r21 h_r21 => pc_if (fun _ => pc_if (fun _ => sa_st (SP.set h_r21 (sa_ar hl_l5)) (fun s6 h_s6 => pc_some h_s6)) (fun _ => pc_none)) (fun _ => pc_none))) (fun _ => pc_if (fun _ => pc_bd (sa_f_X6_readEvent h_s) (fun r24 h_r24 => (sa_k_X6_readStatement_315 hrc h_r24))) (fun _ => pc_if (fun _ => pc_bd (sa_f_X6_readEvent h_s) (fun r25 h_r25 => (sa_k_X6_readStatement_315 hrc h_r25))) (fun _ => pc_if (fun _ => pc_bd (sa_f_X6_readEvent h_s) (fun r26 h_r26 => (sa_k_X6_readStatement_315 hrc h_r26))) (fun _ => pc_if (fun _ => pc_bd (sa_f_X6_readPlain h_s) (fun r27 h_r27 => (sa_k_X6_readStatement_315 hrc h_r27))) (fun _ => pc_if (fun _ => pc_bd (sa_f_X6_readPlain h_s) (fun r28 h_r28 => (sa_k_X6_readStatement_315 hrc h_r28))) (fun _ => pc_if (fun _ => pc_bd (sa_f_X6_readOfComponents h_s) (fun r29 h_r29 => (sa_k_X6_readStatement_315 hrc h_r29))) (fun _ => pc_if (fun _ => pc_bd (sa_f_X6_readOfComponents h_s) (fun r30 h_r30 => (sa_k_X6_readStatement_315 hrc h_r30))) (fun _ => pc_if (fun _ => pc_bd (sa_f_X6_readOfComponents h_s) (fun r31 h_r31 => (sa_k_X6_readStatement_315 hrc h_r31))) (fun _ => pc_if (fun _ => pc_bd (sa_f_X6_readPlain h_s) (fun r32 h_r32 => (sa_k_X6_readStatement_315 hrc h_r32))) (fun _ => pc_bd (sa_f_X6_readOfComponents h_s) (fun r33 h_r33 => (sa_k_X6_readStatement_315 hrc h_r33)))))))))))))))))))))
theorem sa_k_X6_readStatement_44 {rc : RT_X6_readAlts} {l1 : Int32} {l2 : Int32} {l3 : Int32} {s : t_S} (hrc : SAB_X6_readAlts rc) (h_s : SA s) : t_pq (k_X6_readStatement_44 rc l1 l2 l3 s) (fun y => SA y.2) := by
  unfold k_X6_readStatement_44
  exact pc_if (fun _ => pc_bd (sa_f_X5_addStep h_s) (fun r1 h_r1 => pc_if (fun z1 => pc_if (fun _ => (sa_k_X6_readStatement_98 hrc (sa_row (a := 445) z1 (by decide) (by decide)) h_r1)) (fun _ => pc_if (fun _ => pc_bd (sa_f_X2_advance h_r1) (fun r4 h_r4 => (sa_k_X6_readStatement_98 hrc (sa_row (a := 445) z1 (by decide) (by decide)) h_r4))) (fun _ => (sa_k_X6_readStatement_98 hrc (sa_row (a := 445) z1 (by decide) (by decide)) h_r1)))) (fun _ => pc_none))) (fun _ => pc_some h_s)
theorem sa_k_X6_readStatement_23 {rc : RT_X6_readAlts} {l1 : Int32} {l2 : Int32} {l3 : Int32} {s : t_S} (hrc : SAB_X6_readAlts rc) (h_s : SA s) : t_pq (k_X6_readStatement_23 rc l1 l2 l3 s) (fun y => SA y.2) := by
  unfold k_X6_readStatement_23
  exact pc_if (fun _ => (sa_k_X6_readStatement_44 hrc h_s)) (fun _ => pc_bd (sa_f_X2_fail h_s) (fun r1 h_r1 => (sa_k_X6_readStatement_44 hrc h_r1)))
theorem sa_m_X6_readStatement {rc : RT_X6_readAlts} {x1 : Int32} {x2 : Int32} {s : t_S} (hrc : SAB_X6_readAlts rc) (h_s : SA s) : t_pq (m_X6_readStatement rc x1 x2 s) (fun y => SA y.2) := by
  unfold m_X6_readStatement
  exact pc_if (fun _ => pc_bd (sa_f_X2_fail h_s) (fun r2 h_r2 => (sa_k_X6_readStatement_23 hrc h_r2))) (fun _ => (sa_k_X6_readStatement_23 hrc h_s))
theorem SAB_X6_readAlts_R : ∀ n, SAB_X6_readAlts (R_X6_readAlts n) := by
  intro n
  induction n with
  | zero => exact ⟨fun _ _ _ _ => pc_none, fun _ _ _ _ => pc_none, fun _ _ _ _ _ => pc_none, fun _ _ _ _ => pc_none, fun _ _ _ _ => pc_none⟩
  | succ n ih => exact ⟨fun _ _ _ h => sa_m_X6_readAlts ih h, fun _ _ _ h => sa_m_X6_readBlock ih h, fun _ _ _ _ h => sa_m_X6_readBraces ih h, fun _ _ _ h => sa_m_X6_readBranch ih h, fun _ _ _ h => sa_m_X6_readStatement ih h⟩
theorem sa_f_X6_readAlts {x1 : Int32} {x2 : Int32} {s : t_S} (h_s : SA s) : t_pq (f_X6_readAlts x1 x2 s) (fun y => SA y.2) := by
  unfold f_X6_readAlts
  exact ((SAB_X6_readAlts_R 100).1 _ _ _ h_s)
theorem sa_k_X6_readUnitItem_205 {k0 : Int32} {k1 : Int32} {s : t_S} (h_s : SA s) : t_pq (k_X6_readUnitItem_205 k0 k1 s) (fun y => SA y) := by
  unfold k_X6_readUnitItem_205
  exact pc_if (fun z1 => sa_st (SP.set h_s ⟨by decide, by decide, fun y => absurd y.1 (by decide), fun y => absurd y.1 (by decide), fun y => absurd y.1 (by decide), fun y => absurd y.1 (by decide)⟩) (fun s1 h_s1 => sa_st (SP.set h_s1 ⟨by decide, by decide, fun y => absurd y.1 (by decide), fun y => absurd y.1 (by decide), fun y => absurd y.1 (by decide), fun y => absurd y.1 (by decide)⟩) (fun s2 h_s2 => sa_st (SP.set h_s2 ⟨by decide, by decide, fun y => absurd y.1 (by decide), fun y => absurd y.1 (by decide), fun y => absurd y.1 (by decide), fun y => absurd y.1 (by decide)⟩) (fun s3 h_s3 => pc_some h_s3)))) (fun _ => pc_none)
theorem sa_f_X6_readBlock {x1 : Int32} {x2 : Int32} {s : t_S} (h_s : SA s) : t_pq (f_X6_readBlock x1 x2 s) (fun y => SA y.2) := by
  unfold f_X6_readBlock
  exact ((SAB_X6_readAlts_R 100).2.1 _ _ _ h_s)
theorem sa_k_X6_readUnitItem_165 {l1 : Int32} {s : t_S} (h_s : SA s) : t_pq (k_X6_readUnitItem_165 l1 s) (fun y => SA y) := by
  unfold k_X6_readUnitItem_165
  exact pc_bd (sa_f_X2_need h_s) (fun r1 h_r1 => pc_if (fun _ => pc_bd (sa_f_X6_readAlts h_r1) (fun r3 h_r3 => (sa_k_X6_readUnitItem_205 h_r3))) (fun _ => pc_bd (sa_f_X6_readBlock h_r1) (fun r2 h_r2 => (sa_k_X6_readUnitItem_205 h_r2))))
theorem sa_k_X6_readParameters_2 {l1 : Int32} {s : t_S} (h_s : SA s) : t_pq (k_X6_readParameters_2 l1 s) (fun z => Sum.elim (fun y => SA y.2) (fun y => SA y) z) := by
  unfold k_X6_readParameters_2
  exact pc_if (fun _ => pc_mp (pc_some h_s)) (fun _ => pc_bd (sa_f_X6_takePlace h_s) (fun r1 h_r1 => pc_if (fun _ => pc_if (fun z1 => sa_st (SP.set h_r1 ⟨by decide, by decide, fun y => absurd y.1 (by decide), fun y => absurd y.1 (by decide), fun y => absurd y.1 (by decide), fun y => absurd y.1 (by decide)⟩) (fun s1 h_s1 => pc_if (fun z2 => sa_st (SP.set h_s1 ⟨by decide, by decide, fun y => absurd y.1 (by decide), fun y => absurd y.1 (by decide), fun y => absurd y.1 (by decide), fun y => absurd y.1 (by decide)⟩) (fun s2 h_s2 => pc_bd (sa_f_X2_take h_s2) (fun r4 h_r4 => pc_if (fun _ => pc_mp (pc_some h_r4)) (fun _ => pc_some h_r4)))) (fun _ => pc_none))) (fun _ => pc_none)) (fun _ => pc_mp (pc_some h_r1))))
theorem sa_b_X6_readParameters_2 {x : Int32 × t_S} (h : SA x.2) : t_pq (b_X6_readParameters_2 x) (fun z => Sum.elim (fun y => SA y.2) (fun y => SA y) z) := sa_k_X6_readParameters_2 h
theorem sa_f_X6_readParameters {s : t_S} (h_s : SA s) : t_pq (f_X6_readParameters s) (fun y => SA y) := by
  unfold f_X6_readParameters
  exact pc_lp (fun x h => sa_b_X6_readParameters_2 h) h_s
theorem sa_k_X6_readUnitItem_122 {l1 : Int32} {k0 : Int32} {s : t_S} (h_s : SA s) : t_pq (k_X6_readUnitItem_122 l1 k0 s) (fun y => SA y) := by
  unfold k_X6_readUnitItem_122
  exact sa_st (SP.set h_s ⟨by decide, by decide, fun y => absurd y.1 (by decide), fun y => absurd y.1 (by decide), fun y => absurd y.1 (by decide), fun y => absurd y.1 (by decide)⟩) (fun s1 h_s1 => pc_bd (sa_linko ⟨by unfold sk_0; decide, by unfold sk_13; decide, by unfold sk_7; decide⟩ h_s1) (fun r1 h_r1 => pc_bd (sa_f_X2_need h_r1) (fun r2 h_r2 => pc_if (fun _ => (sa_k_X6_readUnitItem_165 h_r2)) (fun _ => pc_if (fun _ => (sa_k_X6_readUnitItem_165 h_r2)) (fun _ => pc_bd (sa_f_X6_readParameters h_r2) (fun r3 h_r3 => (sa_k_X6_readUnitItem_165 h_r3)))))))
theorem sa_k_X6_readUnitItem_121 {l1 : Int32} {s : t_S} (h_s : SA s) : t_pq (k_X6_readUnitItem_121 l1 s) (fun y => SA y) := by
  unfold k_X6_readUnitItem_121
  exact (sa_k_X6_readUnitItem_122 h_s)
theorem sa_k_X6_readUnitItem_97 {l1 : Int32} {k0 : Int32} {s : t_S} (h_s : SA s) : t_pq (k_X6_readUnitItem_97 l1 k0 s) (fun y => SA y) := by
  unfold k_X6_readUnitItem_97
  exact pc_if (fun _ => (sa_k_X6_readUnitItem_121 h_s)) (fun _ => pc_if (fun _ => (sa_k_X6_readUnitItem_121 h_s)) (fun _ => (sa_k_X6_readUnitItem_122 h_s)))
theorem sa_f_X6_readUnitItem {x1 : Int32} {s : t_S} (h_s : SA s) : t_pq (f_X6_readUnitItem x1 s) (fun y => SA y) := by
  unfold f_X6_readUnitItem
  exact pc_bd (sa_f_X2_advance h_s) (fun r1 h_r1 => pc_bd (sa_f_X6_takeName h_r1) (fun r2 h_r2 => pc_if (fun _ => pc_some h_r2) (fun _ => sa_st (SP.set h_r2 ⟨by decide, by decide, fun y => absurd y.1 (by decide), fun y => absurd y.1 (by decide), fun y => absurd y.1 (by decide), fun y => absurd y.1 (by decide)⟩) (fun s1 h_s1 => pc_bd (sa_f_X5_addUnit h_s1) (fun r3 h_r3 => pc_bd (sa_f_X2_advance h_r3) (fun r4 h_r4 => pc_bd (sa_f_X2_need h_r4) (fun r5 h_r5 => pc_if (fun z1 => pc_if (fun z2 => (sa_k_X6_readUnitItem_97 h_r5)) (fun _ => pc_none)) (fun _ => (sa_k_X6_readUnitItem_97 h_r5)))))))))
theorem sa_mIt {s : t_S} (h : SA s) : t_pq (mIt s) (fun y => SA y) := by
  unfold mIt
  exact pc_if (fun _ => sa_f_X2_fail h) (fun _ => pc_if (fun _ => sa_f_X6_readTypeItem h) (fun _ => pc_if (fun _ => sa_f_X6_readTemplateItem h) (fun _ => pc_if (fun _ => sa_f_X6_readComponentItem h) (fun _ => pc_if (fun _ => sa_f_X6_readUnitItem h) (fun _ => pc_if (fun _ => sa_f_X6_readUnitItem h) (fun _ => sa_f_X6_readUnitItem h))))))
theorem sa_start {s : t_S} (h6 : s.1 846 6 = 0) (h1 : s.1 316 8 = 0) (h2 : s.1 353 9 = 0) (h3 : s.1 334 2 = 0) : SA s := by
  have z : (0 : Int32).toInt = 0 := rfl
  have no : ∀ {K : Int32 → Prop} {L n b : Int}, sa_1 K L n b s := fun {K L n b} e he => by
    rw [h6, z] at he
    omega
  exact ⟨⟨by rw [h1, z]; decide, by rw [h2, z]; decide, by rw [h3, z]; decide⟩, no, no, no⟩
end
