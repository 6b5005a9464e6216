/-! Level 2: types' nodes: what hangs at them is there; a name has a link. By gen_tw.py. -/
section
variable {n : Nat} {zS : Nat → Prop} {zF : Nat → Int32 → Prop}
def ARw (a : Nat) : Prop := a < 316 ∨ (323 < a ∧ a < 845)
def tw255 (s : t_S) (n : Nat) : Prop := 0 ≤ (s.2.1 322 n).toInt ∧ (s.2.1 322 n).toInt ≤ 255
def twL (s : t_S) (x : Int32) : Prop := x.toInt < 0 ∨ ∃ m : Nat, x = nI m ∧ m < 3001 ∧ (m : Int) < (s.1 316 8).toInt ∧ s.1 317 m = 9
def twO (s : t_S) (n : Nat) : Prop := ((s.1 317 n = 5 ∨ s.1 317 n = 6) → twL s (s.1 318 n)) ∧ (s.1 317 n = 9 → twL s (s.1 319 n)) ∧ ((s.1 317 n = 7 ∨ s.1 317 n = 9) → 0 ≤ (s.1 318 n).toInt ∧ (s.1 318 n).toInt < 3001) ∧ (s.1 317 n = 8 → ∃ e : Nat, (e : Int) < (s.1 846 6).toInt ∧ s.1 849 e = 0 ∧ s.1 852 e = nI n) ∧ ((s.1 317 n = 3 ∨ s.1 317 n = 7) → tw255 s n)
/-- S: nodes under way; F: nodes whose kind is known -/
def TW (S : Nat → Prop) (F : Nat → Int32 → Prop) (s : t_S) : Prop := (s.1 316 8).toInt ≤ 3000 → (s.1 846 6).toInt ≤ 6001 → ((∀ n, S n → (n : Int) < (s.1 316 8).toInt ∧ (s.1 317 n = 7 ∨ s.1 317 n = 8 ∨ s.1 317 n = 9)) ∧ ∀ n k, F n k → (n : Int) < (s.1 316 8).toInt ∧ s.1 317 n = k) ∧ ∀ n : Nat, (n : Int) < (s.1 316 8).toInt → (S n → twL s (s.1 319 n) ∧ tw255 s n) ∧ (¬ S n → twO s n)
def tw_W (a k : Nat) : Prop := a ≠ 317 ∧ a ≠ 322 ∧ a ≠ 318 ∧ a ≠ 319 ∧ a ≠ 849 ∧ a ≠ 852 ∧ ¬ (a = 316 ∧ k = 8) ∧ ¬ (a = 846 ∧ k = 6)
def tw1 (x : Int32) (n : Nat) : Prop := x = nI n ∧ n < 3001
def twS (S : Nat → Prop) (x : Int32) : Nat → Prop := fun n => S n ∨ tw1 x n
def twF (F : Nat → Int32 → Prop) (x k : Int32) : Nat → Int32 → Prop := fun n q => F n q ∨ (tw1 x n ∧ q = k)
def tw_in (x : Int32) : Prop := 0 ≤ x.toInt ∧ x.toInt < 3001
theorem tw_in.at {x : Int32} (h : tw_in x) : ∃ m, m < 3001 ∧ x = nI m := by
  refine ⟨x.toInt.toNat, ?_, ?_⟩
  · have := h.1
    have := h.2
    omega
  · have a := h.1
    have b := h.2
    rw [← Int32.toInt_inj, nI_toInt (by omega)]
    omega
theorem tw_in3 : tw_in 3000 := ⟨by decide, by decide⟩
theorem tw_in0 : tw_in 0 := ⟨by decide, by decide⟩
theorem twL.fr {s s' : t_S} {x : Int32} (h : twL s x) (e8 : (s.1 316 8).toInt ≤ (s'.1 316 8).toInt) (e7 : ∀ m : Nat, (m : Int) < (s.1 316 8).toInt → s'.1 317 m = s.1 317 m) : twL s' x := by
  rcases h with h | ⟨m, h1, h2, h3, h4⟩
  · exact Or.inl h
  · exact Or.inr ⟨m, h1, h2, by omega, by rw [e7 m h3]; exact h4⟩
theorem TW.fr {S : Nat → Prop} {F : Nat → Int32 → Prop} {s s' : t_S} (h : TW S F s) (f : l2_fr (fun a k => tw_W a k) s s') : TW S F s' := by
  have e : ∀ a k, ¬ tw_W a k → s'.1 a k = s.1 a k := fun a k y => (f a k y).1
  have e8 := e 316 8 (by unfold tw_W; omega)
  have e6 := e 846 6 (by unfold tw_W; omega)
  have e7 : ∀ n, s'.1 317 n = s.1 317 n := fun n => e 317 n (by unfold tw_W; omega)
  have e9 : ∀ n, s'.1 318 n = s.1 318 n := fun n => e 318 n (by unfold tw_W; omega)
  have e0 : ∀ n, s'.1 319 n = s.1 319 n := fun n => e 319 n (by unfold tw_W; omega)
  have l9 : ∀ n, s'.1 849 n = s.1 849 n := fun n => e 849 n (by unfold tw_W; omega)
  have e5 : ∀ n, tw255 s n → tw255 s' n := fun n q => by
    unfold tw255 at *
    rw [(f 322 n (by unfold tw_W; omega)).2.1]
    exact q
  have l2 : ∀ n, s'.1 852 n = s.1 852 n := fun n => e 852 n (by unfold tw_W; omega)
  have L : ∀ {x}, twL s x → twL s' x := fun q => q.fr (by rw [e8]; exact Int.le_refl _) (fun m _ => e7 m)
  intro c1 c2
  rw [e8] at c1
  rw [e6] at c2
  obtain ⟨⟨h0, h1⟩, h2⟩ := h c1 c2
  refine ⟨⟨fun n hn => by rw [e8, e7]; exact h0 n hn, fun n k hn => by rw [e8, e7]; exact h1 n k hn⟩, fun n hn => ?_⟩
  rw [e8] at hn
  obtain ⟨a, b⟩ := h2 n hn
  refine ⟨fun q => ⟨by rw [e0]; exact L (a q).1, e5 n (a q).2⟩, fun q => ?_⟩
  obtain ⟨b1, b2, b3, b4, b5⟩ := b q
  unfold twO
  rw [e7, e9, e0, e6]
  refine ⟨fun q => L (b1 q), fun q => L (b2 q), b3, fun q => ?_, fun q => e5 n (b5 q)⟩
  obtain ⟨x, x1, x2, x3⟩ := b4 q
  exact ⟨x, x1, by rw [l9]; exact x2, by rw [l2]; exact x3⟩
theorem TW.set {S : Nat → Prop} {F : Nat → Int32 → Prop} {s : t_S} {a k : Nat} {v : Int32} (h : TW S F s) (hk : tw_W a k) : TW S F (t_setI s a k v) := h.fr (l2_fr.set hk)
theorem TW.setJ {S : Nat → Prop} {F : Nat → Int32 → Prop} {s : t_S} {a k : Nat} {v : Int64} (h : TW S F s) (ha : a ≠ 322) : TW S F (t_setJ s a k v) := by
  have e5 : ∀ n, tw255 s n → tw255 (t_setJ s a k v) n := fun n q => by
    unfold tw255 at *
    rw [l2_gJ, if_neg (fun y => ha y.symm)]
    exact q
  intro c1 c2
  obtain ⟨h0, h2⟩ := h c1 c2
  refine ⟨h0, fun n hn => ⟨fun q => ⟨((h2 n hn).1 q).1, e5 n ((h2 n hn).1 q).2⟩, fun q => ?_⟩⟩
  obtain ⟨b1, b2, b3, b4, b5⟩ := (h2 n hn).2 q
  exact ⟨b1, b2, b3, b4, fun q => e5 n (b5 q)⟩
/-- the least of a span, or of a node that has none -/
theorem TW.low {S : Nat → Prop} {F : Nat → Int32 → Prop} {s : t_S} {x : Nat} {v : Int64} (h : TW S F s) (hv : (0 ≤ v.toInt ∧ v.toInt ≤ 255) ∨ ∃ k, F x k ∧ k ≠ 3 ∧ k ≠ 7 ∧ k ≠ 8 ∧ k ≠ 9) : TW S F (t_setJ s 322 x v) := by
  intro c1 c2
  obtain ⟨h0, h2⟩ := h c1 c2
  have e5 : ∀ n, n ≠ x → tw255 s n → tw255 (t_setJ s 322 x v) n := fun n z q => by
    unfold tw255 at *
    rw [l2_gJ, if_pos rfl, if_neg z]
    exact q
  have ex : 0 ≤ v.toInt ∧ v.toInt ≤ 255 → tw255 (t_setJ s 322 x v) x := fun q => by
    unfold tw255
    rw [l2_gJ, if_pos rfl, if_pos rfl]
    exact q
  refine ⟨h0, fun n hn => ?_⟩
  obtain ⟨a, b⟩ := h2 n hn
  by_cases z : n = x
  · subst z
    rcases hv with hv | ⟨k, k1, k3, k7, k8, k9⟩
    · refine ⟨fun q => ⟨(a q).1, ex hv⟩, fun q => ?_⟩
      obtain ⟨b1, b2, b3, b4, b5⟩ := b q
      exact ⟨b1, b2, b3, b4, fun _ => ex hv⟩
    · have kk := (h0.2 n k k1).2
      refine ⟨fun q => ?_, fun q => ?_⟩
      · have y := (h0.1 n q).2
        rw [kk] at y
        rcases y with y | y | y
        · exact absurd y k7
        · exact absurd y k8
        · exact absurd y k9
      · obtain ⟨b1, b2, b3, b4, b5⟩ := b q
        refine ⟨b1, b2, b3, b4, fun y => ?_⟩
        have y : s.1 317 n = 3 ∨ s.1 317 n = 7 := y
        rw [kk] at y
        exact (y.elim k3 k7).elim
  · refine ⟨fun q => ⟨(a q).1, e5 n z (a q).2⟩, fun q => ?_⟩
    obtain ⟨b1, b2, b3, b4, b5⟩ := b q
    exact ⟨b1, b2, b3, b4, fun q => e5 n z (b5 q)⟩
theorem tw_ar {a k : Nat} (h : ARw a) : tw_W a k := by
  unfold ARw at h
  unfold tw_W
  omega
theorem tw_arJ {a : Nat} (h : ARw a) : a ≠ 322 := by
  unfold ARw at h
  omega
theorem tw_arr {a n : Nat} {y : Int32} (h : t_ix y n = true) (hn : (323 < a ∧ a + n ≤ 845) ∨ a + n ≤ 316) : ARw (a + 1 * y.toNatClampNeg) := by
  have q := t_ixI.mp h
  have e : y.toNatClampNeg = y.toInt.toNat := rfl
  unfold ARw
  rw [e]
  omega
theorem tw_st {T : Type} {S : Nat → Prop} {F : Nat → Int32 → Prop} {a : t_S} {f : t_S → Option T} {Q : T → Prop} (h : TW S F a) (g : ∀ s, TW S F s → t_pq (f s) Q) : t_pq (t_let a f) Q := g a h
theorem tw_start {s : t_S} (h : s.1 316 8 = 0) : TW (fun _ => False) (fun _ _ => False) s := fun _ _ => ⟨⟨fun n q => q.elim, fun n k q => q.elim⟩, fun n q => by
  rw [h] at q
  have e : (0 : Int32).toInt = 0 := rfl
  omega⟩
/-- less known, less under way -/
theorem TW.less {S S' : Nat → Prop} {F F' : Nat → Int32 → Prop} {s : t_S} (h : TW S F s) (hF : ∀ n k, F' n k → F n k) (hS : ∀ n, S' n ↔ S n) : TW S' F' s := fun c1 c2 => ⟨⟨fun n q => (h c1 c2).1.1 n ((hS n).mp q), fun n k q => (h c1 c2).1.2 n k (hF n k q)⟩, fun n q => ⟨fun y => ((h c1 c2).2 n q).1 ((hS n).mp y), fun y => ((h c1 c2).2 n q).2 (fun z => y ((hS n).mpr z))⟩⟩
/-- a part is hung: at 318 or 319 -/
theorem TW.hang {S S' : Nat → Prop} {F : Nat → Int32 → Prop} {s : t_S} {b x : Nat} {v : Int32} (h : TW S F s) (hb : b = 318 ∨ b = 319) (hS : ∀ n, n ≠ x → (S' n ↔ S n)) (hS' : S' x → S x) (hx : (s.1 316 8).toInt ≤ 3000 → (s.1 846 6).toInt ≤ 6001 → (x : Int) < (s.1 316 8).toInt → (S' x → twL (t_setI s b x v) ((t_setI s b x v).1 319 x) ∧ tw255 (t_setI s b x v) x) ∧ (¬ S' x → twO (t_setI s b x v) x)) : TW S' F (t_setI s b x v) := by
  have f : l2_fr (fun a j => a = b ∧ j = x) s (t_setI s b x v) := l2_fr.set ⟨rfl, rfl⟩
  have e : ∀ a j, ¬ (a = b ∧ j = x) → (t_setI s b x v).1 a j = s.1 a j := fun a j y => (f a j y).1
  have e5 : ∀ n, tw255 s n → tw255 (t_setI s b x v) n := fun n q => q
  generalize t_setI s b x v = s' at *
  have e8 := e 316 8 (by omega)
  have e6 := e 846 6 (by omega)
  have e7 : ∀ n, s'.1 317 n = s.1 317 n := fun n => e 317 n (by omega)
  have L : ∀ {x}, twL s x → twL s' x := fun q => q.fr (by rw [e8]; exact Int.le_refl _) (fun m _ => e7 m)
  intro c1 c2
  rw [e8] at c1
  rw [e6] at c2
  obtain ⟨⟨h0, h1⟩, h2⟩ := h c1 c2
  refine ⟨⟨fun n hn => by
    rw [e8, e7]
    by_cases z : n = x
    · subst z; exact h0 n (hS' hn)
    · exact h0 n ((hS n z).mp hn), fun n k hn => by rw [e8, e7]; exact h1 n k hn⟩, fun n hn => ?_⟩
  rw [e8] at hn
  by_cases z : n = x
  · subst z
    exact hx c1 c2 hn
  · obtain ⟨a, b'⟩ := h2 n hn
    refine ⟨fun q => ⟨by rw [e 319 n (by omega)]; exact L (a ((hS n z).mp q)).1, e5 n (a ((hS n z).mp q)).2⟩, fun q => ?_⟩
    obtain ⟨b1, b2, b3, b4, b5⟩ := b' (fun y => q ((hS n z).mpr y))
    unfold twO
    rw [e7, e 318 n (by omega), e 319 n (by omega), e6]
    refine ⟨fun q => L (b1 q), fun q => L (b2 q), b3, fun q => ?_, fun q => e5 n (b5 q)⟩
    obtain ⟨x', x1, x2, x3⟩ := b4 q
    exact ⟨x', x1, by rw [e 849 x' (by omega)]; exact x2, by rw [e 852 x' (by omega)]; exact x3⟩
/-- a field is hung -/
theorem TW.field {S : Nat → Prop} {F : Nat → Int32 → Prop} {s : t_S} {b x m : Nat} (h : TW S F s) (hb : b = 318 ∨ b = 319) (hm : F m 9) (m3 : m < 3001) : TW S F (t_setI s b x (nI m)) := by
  refine h.hang hb (fun _ _ => Iff.rfl) id (fun c1 c2 hx => ?_)
  have f : l2_fr (fun a j => a = b ∧ j = x) s (t_setI s b x (nI m)) := l2_fr.set ⟨rfl, rfl⟩
  have e : ∀ a j, ¬ (a = b ∧ j = x) → (t_setI s b x (nI m)).1 a j = s.1 a j := fun a j y => (f a j y).1
  have ex : (t_setI s b x (nI m)).1 b x = nI m := by simp only [l2_gI, and_self, reduceIte]
  have e5 : ∀ n, tw255 s n → tw255 (t_setI s b x (nI m)) n := fun n q => q
  generalize t_setI s b x (nI m) = s' at *
  have e8 := e 316 8 (by omega)
  have e6 := e 846 6 (by omega)
  have e7 : ∀ n, s'.1 317 n = s.1 317 n := fun n => e 317 n (by omega)
  obtain ⟨⟨h0, h1⟩, h2⟩ := h c1 c2
  obtain ⟨m1, m2⟩ := h1 m 9 hm
  have L : ∀ {x}, twL s x → twL s' x := fun q => q.fr (by rw [e8]; exact Int.le_refl _) (fun m _ => e7 m)
  have lm : twL s' (nI m) := Or.inr ⟨m, rfl, m3, by rw [e8]; exact m1, by rw [e7]; exact m2⟩
  obtain ⟨a, b'⟩ := h2 x hx
  refine ⟨fun q => ?_, fun q => ?_⟩
  · refine ⟨?_, e5 x (a q).2⟩
    rcases hb with rfl | rfl
    · rw [e 319 x (by omega)]; exact L (a q).1
    · rw [ex]; exact lm
  · obtain ⟨b1, b2, b3, b4, b5⟩ := b' q
    unfold twO
    rw [e7, e6]
    refine ⟨fun q => ?_, fun q => ?_, fun q => ?_, fun q => ?_, fun q => e5 x (b5 q)⟩
    · rcases hb with rfl | rfl
      · rw [ex]; exact lm
      · rw [e 318 x (by omega)]; exact L (b1 q)
    · rcases hb with rfl | rfl
      · rw [e 319 x (by omega)]; exact L (b2 q)
      · rw [ex]; exact lm
    · rcases hb with rfl | rfl
      · rw [ex, nI_toInt (by omega)]; omega
      · rw [e 318 x (by omega)]; exact b3 q
    · obtain ⟨x', x1, x2, x3⟩ := b4 q
      exact ⟨x', x1, by rw [e 849 x' (by omega)]; exact x2, by rw [e 852 x' (by omega)]; exact x3⟩
/-- a node at which nothing else counts -/
theorem TW.free {S : Nat → Prop} {F : Nat → Int32 → Prop} {s : t_S} {b x : Nat} {v k : Int32} (h : TW S F s) (hb : b = 318 ∨ b = 319) (hx : F x k) (hk : k ≠ 5 ∧ k ≠ 6 ∧ k ≠ 7 ∧ k ≠ 8 ∧ k ≠ 9 ∧ k ≠ 3) : TW S F (t_setI s b x v) := by
  refine h.hang hb (fun _ _ => Iff.rfl) id (fun c1 c2 hlt => ?_)
  have hS : ¬ S x := fun q => by
    have y := ((h c1 c2).1.1 x q).2
    rw [((h c1 c2).1.2 x k hx).2] at y
    rcases y with y | y | y
    · exact hk.2.2.1 y
    · exact hk.2.2.2.1 y
    · exact hk.2.2.2.2.1 y
  refine ⟨fun q => absurd q hS, fun _ => ?_⟩
  have f : l2_fr (fun a j => a = b ∧ j = x) s (t_setI s b x v) := l2_fr.set ⟨rfl, rfl⟩
  have e7 : (t_setI s b x v).1 317 x = k := ((f 317 x (by omega)).1).trans ((h c1 c2).1.2 x k hx).2
  unfold twO
  rw [e7]
  exact ⟨fun q => (q.elim hk.1 hk.2.1).elim, fun q => absurd q hk.2.2.2.2.1, fun q => (q.elim hk.2.2.1 hk.2.2.2.2.1).elim, fun q => absurd q hk.2.2.2.1, fun q => (q.elim hk.2.2.2.2.2 hk.2.2.1).elim⟩
/-- a node under way is done -/
theorem TW.done {S : Nat → Prop} {F : Nat → Int32 → Prop} {s : t_S} {x : Nat} {v k : Int32} (h : TW (twS S (nI x)) F s) (x3 : x < 3001) (hF : F x k) (hk : k = 7 ∨ k = 9) (hv : tw_in v) : TW S F (t_setI s 318 x v) := by
  refine h.hang (Or.inl rfl) (fun n hn => ⟨fun y => Or.inl y, fun y => y.resolve_right (fun z => hn ((nI_eq (by omega) (by have := z.2; omega)).mp z.1).symm)⟩) Or.inl (fun c1 c2 hx => ?_)
  have f : l2_fr (fun a j => a = 318 ∧ j = x) s (t_setI s 318 x v) := l2_fr.set ⟨rfl, rfl⟩
  have ex : (t_setI s 318 x v).1 318 x = v := by simp only [l2_gI, and_self, reduceIte]
  have e7 : ∀ n, (t_setI s 318 x v).1 317 n = s.1 317 n := fun n => (f 317 n (by omega)).1
  have e8 : (t_setI s 318 x v).1 316 8 = s.1 316 8 := (f 316 8 (by omega)).1
  have e9 : (t_setI s 318 x v).1 319 x = s.1 319 x := (f 319 x (by omega)).1
  obtain ⟨⟨h0, h1⟩, h2⟩ := h c1 c2
  have kx := (h1 x k hF).2
  obtain ⟨l9, l5⟩ := (h2 x hx).1 (Or.inr ⟨rfl, x3⟩)
  have l5 : tw255 (t_setI s 318 x v) x := l5
  refine ⟨fun _ => ⟨by rw [e9]; exact l9.fr (by rw [e8]; exact Int.le_refl _) (fun m _ => e7 m), l5⟩, fun _ => ?_⟩
  unfold twO
  rw [e7, kx, ex, e9]
  refine ⟨fun q => ?_, fun q => l9.fr (by rw [e8]; exact Int.le_refl _) (fun m _ => e7 m), fun _ => hv, fun q => ?_, fun _ => l5⟩
  · rcases hk with rfl | rfl
    · exact absurd q (by decide)
    · exact absurd q (by decide)
  · rcases hk with rfl | rfl
    · exact absurd q (by decide)
    · exact absurd q (by decide)
/-- a node more -/
theorem tw_f_X11_add {k : Int32} {s : t_S} {S : Nat → Prop} {F : Nat → Int32 → Prop} (h : TW S F s) : t_pq (f_X11_add k s) (fun y => tw_in y.1 ∧ y.2.1 1 8 = s.1 1 8 ∧ TW (if k = 7 ∨ k = 8 ∨ k = 9 then twS S y.1 else S) (twF F y.1 k) y.2) := by
  unfold f_X11_add
  refine pc_if (fun c1 => pc_lt (pc_if (fun c => ?_) (fun _ => pc_none))) (fun w => pc_some ⟨tw_in3, rfl, fun c => absurd (Int32.lt_iff_toInt_lt.mpr (show (s.1 316 8).toInt < (3001 : Int32).toInt from by
    have q : (3001 : Int32).toInt = 3001 := rfl
    have c : (s.1 316 8).toInt ≤ 3000 := c
    omega)) w⟩)
  have q := t_ixI.mp c
  obtain ⟨n, hn, e⟩ : ∃ n : Nat, n < 3001 ∧ s.1 316 8 = nI n := ⟨(s.1 316 8).toInt.toNat, by omega, by
    rw [← Int32.toInt_inj, nI_toInt (by omega)]
    omega⟩
  unfold TW at h
  rw [e, nI_toInt (by omega)] at h
  rw [e, nI_clamp (n := n) (by omega), nI_1]
  refine pc_lt (pc_lt (pc_lt (pc_lt (pc_lt (pc_lt (pc_lt (pc_some ?_)))))))
  refine ⟨⟨by rw [nI_toInt (by omega)]; omega, by rw [nI_toInt (by omega)]; omega⟩, by simp only [l2_gI, l2_gJI, Nat.reduceEqDiff, false_and, reduceIte], ?_⟩
  have g : ∀ b, 317 ≤ b → b ≤ 323 → (fun b j => (b = 316 ∧ j = 8) ∨ (317 ≤ b ∧ b ≤ 323 ∧ j = n)) b n := fun b y1 y2 => Or.inr ⟨y1, y2, rfl⟩
  have fr : l2_fr (fun b j => (b = 316 ∧ j = 8) ∨ (317 ≤ b ∧ b ≤ 323 ∧ j = n)) s (t_setJ (t_setJ (t_setI (t_setI (t_setI (t_setI (t_setI (t_setI s 316 8 (nI (n + 1))) 317 n k) 318 n (-1)) 319 n (-1)) 320 n (-1)) 321 n 0) 322 n 0) 323 n 0) := (((((((l2_fr.set (Or.inl ⟨rfl, rfl⟩)).trans (l2_fr.set (g 317 (by decide) (by decide)))).trans (l2_fr.set (g 318 (by decide) (by decide)))).trans (l2_fr.set (g 319 (by decide) (by decide)))).trans (l2_fr.set (g 320 (by decide) (by decide)))).trans (l2_fr.set (g 321 (by decide) (by decide)))).trans (l2_fr.setJ (g 322 (by decide) (by decide)))).trans (l2_fr.setJ (g 323 (by decide) (by decide)))
  have f : ∀ b j, ¬ (b = 316 ∧ j = 8) → ¬ (317 ≤ b ∧ b ≤ 323 ∧ j = n) → (t_setJ (t_setJ (t_setI (t_setI (t_setI (t_setI (t_setI (t_setI s 316 8 (nI (n + 1))) 317 n k) 318 n (-1)) 319 n (-1)) 320 n (-1)) 321 n 0) 322 n 0) 323 n 0).1 b j = s.1 b j := fun b j y1 y2 => (fr b j (fun y => y.elim y1 y2)).1
  clear fr g
  have v8 : (t_setJ (t_setJ (t_setI (t_setI (t_setI (t_setI (t_setI (t_setI s 316 8 (nI (n + 1))) 317 n k) 318 n (-1)) 319 n (-1)) 320 n (-1)) 321 n 0) 322 n 0) 323 n 0).1 316 8 = nI (n + 1) := by simp only [l2_gI, l2_gJI, Nat.reduceEqDiff, false_and, and_self, reduceIte]
  have v7 : (t_setJ (t_setJ (t_setI (t_setI (t_setI (t_setI (t_setI (t_setI s 316 8 (nI (n + 1))) 317 n k) 318 n (-1)) 319 n (-1)) 320 n (-1)) 321 n 0) 322 n 0) 323 n 0).1 317 n = k := by simp only [l2_gI, l2_gJI, Nat.reduceEqDiff, false_and, and_self, reduceIte]
  have v3 : (t_setJ (t_setJ (t_setI (t_setI (t_setI (t_setI (t_setI (t_setI s 316 8 (nI (n + 1))) 317 n k) 318 n (-1)) 319 n (-1)) 320 n (-1)) 321 n 0) 322 n 0) 323 n 0).1 318 n = -1 := by simp only [l2_gI, l2_gJI, Nat.reduceEqDiff, false_and, and_self, reduceIte]
  have v9 : (t_setJ (t_setJ (t_setI (t_setI (t_setI (t_setI (t_setI (t_setI s 316 8 (nI (n + 1))) 317 n k) 318 n (-1)) 319 n (-1)) 320 n (-1)) 321 n 0) 322 n 0) 323 n 0).1 319 n = -1 := by simp only [l2_gI, l2_gJI, Nat.reduceEqDiff, false_and, and_self, reduceIte]
  have v5 : ∀ m, m ≠ n → tw255 s m → tw255 (t_setJ (t_setJ (t_setI (t_setI (t_setI (t_setI (t_setI (t_setI s 316 8 (nI (n + 1))) 317 n k) 318 n (-1)) 319 n (-1)) 320 n (-1)) 321 n 0) 322 n 0) 323 n 0) m := fun m z q => by
    unfold tw255 at *
    simp only [l2_gJ, l2_gIJ, Nat.reduceEqDiff, reduceIte, if_neg z]
    exact q
  have v0 : tw255 (t_setJ (t_setJ (t_setI (t_setI (t_setI (t_setI (t_setI (t_setI s 316 8 (nI (n + 1))) 317 n k) 318 n (-1)) 319 n (-1)) 320 n (-1)) 321 n 0) 322 n 0) 323 n 0) n := by
    unfold tw255
    simp only [l2_gJ, l2_gIJ, Nat.reduceEqDiff, reduceIte]
    exact ⟨by decide, by decide⟩
  show TW _ _ (t_setJ (t_setJ (t_setI (t_setI (t_setI (t_setI (t_setI (t_setI s 316 8 (nI (n + 1))) 317 n k) 318 n (-1)) 319 n (-1)) 320 n (-1)) 321 n 0) 322 n 0) 323 n 0)
  generalize (t_setJ (t_setJ (t_setI (t_setI (t_setI (t_setI (t_setI (t_setI s 316 8 (nI (n + 1))) 317 n k) 318 n (-1)) 319 n (-1)) 320 n (-1)) 321 n 0) 322 n 0) 323 n 0) = s' at *
  intro c1 c2
  rw [v8, nI_toInt (by omega)] at c1
  rw [f 846 6 (by omega) (by omega)] at c2
  obtain ⟨⟨h0, h1⟩, h2⟩ := h (by omega) c2
  have e8 : (s.1 316 8).toInt ≤ (s'.1 316 8).toInt := by
    rw [e, v8, nI_toInt (by omega), nI_toInt (by omega)]
    omega
  have e7 : ∀ m : Nat, (m : Int) < (s.1 316 8).toInt → s'.1 317 m = s.1 317 m := fun m hm => by
    rw [e, nI_toInt (by omega)] at hm
    exact f 317 m (by omega) (by omega)
  have neg : twL s' (-1) := Or.inl (by decide)
  have old : ∀ m : Nat, (m : Int) < (n : Int) → ∀ P : Prop, P = (if k = 7 ∨ k = 8 ∨ k = 9 then twS S (nI n) else S) m → (P ↔ S m) := fun m hm P hP => by
    rw [hP]
    by_cases z : k = 7 ∨ k = 8 ∨ k = 9
    · rw [if_pos z]
      exact ⟨fun y => y.resolve_right (fun w => by have := (nI_eq (a := n) (b := m) (by omega) (by omega)).mp w.1; omega), Or.inl⟩
    · rw [if_neg z]
  refine ⟨⟨fun m hm => ?_, fun m q hm => ?_⟩, fun m hm => ?_⟩
  · rw [v8, nI_toInt (by omega)]
    have go : S m → (m : Int) < ((n + 1 : Nat) : Int) ∧ (s'.1 317 m = 7 ∨ s'.1 317 m = 8 ∨ s'.1 317 m = 9) := fun y => by
      obtain ⟨a, b⟩ := h0 m y
      exact ⟨by omega, by rw [f 317 m (by omega) (by omega)]; exact b⟩
    by_cases z : k = 7 ∨ k = 8 ∨ k = 9
    · rw [if_pos z] at hm
      rcases hm with hm | ⟨hm, m3⟩
      · exact go hm
      · have : n = m := (nI_eq (by omega) (by omega)).mp hm
        subst this
        exact ⟨by omega, by rw [v7]; exact z⟩
    · rw [if_neg z] at hm
      exact go hm
  · rw [v8, nI_toInt (by omega)]
    rcases hm with hm | ⟨⟨hm, m3⟩, rfl⟩
    · obtain ⟨a, b⟩ := h1 m q hm
      exact ⟨by omega, by rw [f 317 m (by omega) (by omega)]; exact b⟩
    · have : n = m := (nI_eq (by omega) (by omega)).mp hm
      subst this
      exact ⟨by omega, v7⟩
  · rw [v8, nI_toInt (by omega)] at hm
    by_cases z : m = n
    · subst z
      refine ⟨fun _ => ⟨by rw [v9]; exact neg, v0⟩, fun q => ?_⟩
      unfold twO
      rw [v7, v3, v9]
      refine ⟨fun _ => neg, fun _ => neg, fun y => ?_, fun y => ?_, fun _ => v0⟩
      · rw [if_pos (y.elim Or.inl (fun y => Or.inr (Or.inr y)))] at q
        exact absurd (Or.inr ⟨rfl, hn⟩) q
      · rw [if_pos (Or.inr (Or.inl y))] at q
        exact absurd (Or.inr ⟨rfl, hn⟩) q
    · obtain ⟨a, b⟩ := h2 m (by omega)
      refine ⟨fun q => ?_, fun q => ?_⟩
      · rw [f 319 m (by omega) (by omega)]
        exact ⟨(a ((old m (by omega) _ rfl).mp q)).1.fr e8 e7, v5 m z (a ((old m (by omega) _ rfl).mp q)).2⟩
      · obtain ⟨b1, b2, b3, b4, b5⟩ := b (fun y => q ((old m (by omega) _ rfl).mpr y))
        unfold twO
        rw [f 317 m (by omega) (by omega), f 318 m (by omega) (by omega), f 319 m (by omega) (by omega), f 846 6 (by omega) (by omega)]
        refine ⟨fun q => (b1 q).fr e8 e7, fun q => (b2 q).fr e8 e7, b3, fun q => ?_, fun q => v5 m z (b5 q)⟩
        obtain ⟨x, x1, x2, x3⟩ := b4 q
        exact ⟨x, x1, by rw [f 849 x (by omega) (by omega)]; exact x2, by rw [f 852 x (by omega) (by omega)]; exact x3⟩
theorem tw_f_X2_fail {x1 : Int32} {s : t_S} (h_s : TW zS zF s) : t_pq (f_X2_fail x1 s) (fun y => TW zS zF y) := by
  unfold f_X2_fail
  exact pc_if (fun _ => tw_st (TW.set h_s ⟨by decide, by decide, by decide, by decide, by decide, by decide, fun y => absurd y.1 (by decide), fun y => absurd y.1 (by decide)⟩) (fun s1 h_s1 => tw_st (TW.set h_s1 ⟨by decide, by decide, by decide, by decide, by decide, by decide, fun y => absurd y.1 (by decide), fun y => absurd y.1 (by decide)⟩) (fun s2 h_s2 => tw_st (TW.set h_s2 ⟨by decide, by decide, by decide, by decide, by decide, by decide, fun y => absurd y.1 (by decide), fun y => absurd y.1 (by decide)⟩) (fun s3 h_s3 => pc_some h_s3)))) (fun _ => pc_some h_s)
theorem tw_f_X2_advance {s : t_S} (h_s : TW zS zF s) : t_pq (f_X2_advance s) (fun y => TW zS zF y) := by
  unfold f_X2_advance
  exact pc_if (fun _ => pc_if (fun _ => tw_st (TW.set h_s ⟨by decide, by decide, by decide, by decide, by decide, by decide, fun y => absurd y.1 (by decide), fun y => absurd y.1 (by decide)⟩) (fun s1 h_s1 => pc_if (fun z1 => tw_st (TW.set h_s1 ⟨by decide, by decide, by decide, by decide, by decide, by decide, fun y => absurd y.1 (by decide), fun y => absurd y.1 (by decide)⟩) (fun s2 h_s2 => pc_if (fun z2 => tw_st (TW.set h_s2 ⟨by decide, by decide, by decide, by decide, by decide, by decide, fun y => absurd y.1 (by decide), fun y => absurd y.1 (by decide)⟩) (fun s3 h_s3 => pc_if (fun z3 => tw_st (TW.setJ h_s3 (by decide)) (fun s4 h_s4 => pc_if (fun _ => tw_st (TW.set h_s4 ⟨by decide, by decide, by decide, by decide, by decide, by decide, fun y => absurd y.1 (by decide), fun y => absurd y.1 (by decide)⟩) (fun s5 h_s5 => tw_st (TW.set h_s5 ⟨by decide, by decide, by decide, by decide, by decide, by decide, fun y => absurd y.1 (by decide), fun y => absurd y.1 (by decide)⟩) (fun s6 h_s6 => pc_some h_s6))) (fun _ => pc_some h_s4))) (fun _ => pc_none))) (fun _ => pc_none))) (fun _ => pc_none))) (fun _ => pc_some h_s)) (fun _ => pc_some h_s)
theorem tw_f_X2_need {x1 : Int32} {s : t_S} (h_s : TW zS zF s) : t_pq (f_X2_need x1 s) (fun y => TW zS zF y) := by
  unfold f_X2_need
  exact pc_if (fun _ => pc_bd (tw_f_X2_advance h_s) (fun r2 h_r2 => pc_some h_r2)) (fun _ => pc_bd (tw_f_X2_fail h_s) (fun r1 h_r1 => pc_some h_r1))
theorem tw_k_X3_late_31 {l1 : Int32} {l2 : Int32} {s : t_S} (h_s : TW zS zF s) : t_pq (k_X3_late_31 l1 l2 s) (fun y => TW zS zF y) := by
  unfold k_X3_late_31
  exact tw_st (TW.set h_s ⟨by decide, by decide, by decide, by decide, by decide, by decide, fun y => absurd y.1 (by decide), fun y => absurd y.2 (by decide)⟩) (fun s1 h_s1 => tw_st (TW.set h_s1 ⟨by decide, by decide, by decide, by decide, by decide, by decide, fun y => absurd y.1 (by decide), fun y => absurd y.2 (by decide)⟩) (fun s2 h_s2 => pc_some h_s2))
theorem tw_f_X3_late {x1 : Int32} {x2 : Int32} {s : t_S} (h_s : TW zS zF s) : t_pq (f_X3_late x1 x2 s) (fun y => TW zS zF y) := by
  unfold f_X3_late
  exact pc_if (fun _ => (tw_k_X3_late_31 h_s)) (fun _ => pc_if (fun _ => (tw_k_X3_late_31 h_s)) (fun _ => pc_if (fun _ => pc_if (fun _ => pc_some h_s) (fun _ => (tw_k_X3_late_31 h_s))) (fun _ => pc_some h_s)))
theorem tw_k_X6_takeName_64 {l1 : Int32} {l2 : Int32} {s : t_S} (h_s : TW zS zF s) : t_pq (k_X6_takeName_64 l1 l2 s) (fun y => TW zS zF y.2) := by
  unfold k_X6_takeName_64
  exact pc_if (fun _ => pc_if (fun z1 => tw_st (TW.set h_s ⟨by decide, by decide, by decide, by decide, by decide, by decide, fun y => absurd y.1 (by decide), fun y => absurd y.1 (by decide)⟩) (fun s1 h_s1 => pc_some h_s1)) (fun _ => pc_none)) (fun _ => pc_some h_s)
theorem tw_f_X6_takeName {x1 : Int32} {x2 : Int32} {x3 : Int32} {s : t_S} (h_s : TW zS zF s) : t_pq (f_X6_takeName x1 x2 x3 s) (fun y => TW zS zF y.2) := by
  unfold f_X6_takeName
  exact pc_if (fun _ => pc_if (fun z1 => pc_if (fun _ => pc_if (fun _ => (tw_k_X6_takeName_64 h_s)) (fun _ => pc_bd (tw_f_X2_fail h_s) (fun r3 h_r3 => (tw_k_X6_takeName_64 h_r3)))) (fun _ => pc_bd (tw_f_X2_fail h_s) (fun r4 h_r4 => (tw_k_X6_takeName_64 h_r4)))) (fun _ => pc_none)) (fun _ => pc_bd (tw_f_X2_fail h_s) (fun r5 h_r5 => (tw_k_X6_takeName_64 h_r5)))
def TWB_X6_readFields (rc : RT_X6_readFields) : Prop := (∀ (S : Nat → Prop) (F : Nat → Int32 → Prop) (x0 x1 x2 : Int32) (s : t_S), TW S F s → t_pq (rc.1 x0 x1 x2 s) (fun y => TW S F y)) ∧ (∀ (S : Nat → Prop) (F : Nat → Int32 → Prop) (x0 : Int32) (s : t_S), TW S F s → t_pq (rc.2 x0 s) (fun y => tw_in y.1 ∧ TW S F y.2))
theorem tw_f_X2_take {x1 : Int32} {s : t_S} (h_s : TW zS zF s) : t_pq (f_X2_take x1 s) (fun y => TW zS zF y.2) := by
  unfold f_X2_take
  exact pc_if (fun _ => pc_bd (tw_f_X2_advance h_s) (fun r1 h_r1 => pc_some h_r1)) (fun _ => pc_some h_s)
theorem tw_f_X6_node {s : t_S} (h_s : TW zS zF s) : t_pq (f_X6_node s) (fun y => TW zS zF y) := by
  unfold f_X6_node
  exact pc_if (fun _ => tw_st (TW.set h_s ⟨by decide, by decide, by decide, by decide, by decide, by decide, fun y => absurd y.1 (by decide), fun y => absurd y.1 (by decide)⟩) (fun s1 h_s1 => pc_some h_s1)) (fun _ => pc_bd (tw_f_X2_fail h_s) (fun r1 h_r1 => pc_some h_r1))
theorem tw_add_all {x1 x2 x3 x4 x5 x6 : Int32} {s : t_S} {S : Nat → Prop} {F : Nat → Int32 → Prop} (h0 : TW S F s) : t_pq (f_X3_add x1 x2 x3 x4 x5 x6 s) (fun y => TW S F y ∧ ∀ S' x, S = twS S' (nI x) → x < 3001 → x1 = 0 → x5 = nI x → F x 8 → TW S' F y) := by
  unfold f_X3_add
  refine pc_if (fun c => ?_) (fun w => pc_some ⟨h0, fun S' x _ _ _ _ _ c1 c2 => absurd (Int32.lt_iff_toInt_lt.mpr (show (s.1 846 6).toInt < (6002 : Int32).toInt from by have q : (6002 : Int32).toInt = 6002 := rfl; omega)) w⟩)
  by_cases y : t_ix (s.1 846 6) 6002 = true
  rotate_left
  · rw [if_neg y]
    exact pc_none
  have q := t_ixI.mp y
  obtain ⟨l, hl, e6⟩ : ∃ l : Nat, l < 6002 ∧ s.1 846 6 = nI l := ⟨(s.1 846 6).toInt.toNat, by omega, by
    rw [← Int32.toInt_inj, nI_toInt (by omega)]
    omega⟩
  have g : t_pq (f_X3_add x1 x2 x3 x4 x5 x6 s) (fun y => TW S F y ∧ ∀ S' x, S = twS S' (nI x) → x < 3001 → x1 = 0 → x5 = nI x → F x 8 → TW S' F y) := by
    obtain ⟨w, w0, z1, z2, z3, z4, z5, z6, z7, z8⟩ := ln_add (l := l) (x1 := x1) (x2 := x2) (x3 := x3) (x4 := x4) (x5 := x5) (x6 := x6) e6 hl
    intro v hv
    rw [w0] at hv
    cases hv
    have e : ∀ a k, ¬ ((a = 846 ∧ k = 6) ∨ (848 ≤ a ∧ a ≤ 853 ∧ k = l)) → w.1 a k = s.1 a k := fun a k y => (z1 a k y).1
    have e8 := e 316 8 (by omega)
    have e7 : ∀ n, w.1 317 n = s.1 317 n := fun n => e 317 n (by omega)
    have e38 : ∀ n, w.1 318 n = s.1 318 n := fun n => e 318 n (by omega)
    have e39 : ∀ n, w.1 319 n = s.1 319 n := fun n => e 319 n (by omega)
    have L : ∀ {x}, twL s x → twL w x := fun q => q.fr (by rw [e8]; exact Int.le_refl _) (fun m _ => e7 m)
    have old : ∀ n, (∃ x : Nat, (x : Int) < (s.1 846 6).toInt ∧ s.1 849 x = 0 ∧ s.1 852 x = nI n) → ∃ x : Nat, (x : Int) < (w.1 846 6).toInt ∧ w.1 849 x = 0 ∧ w.1 852 x = nI n := fun n ⟨x, x1, x2, x3⟩ => by
      rw [e6, nI_toInt (by omega)] at x1
      exact ⟨x, by rw [z2, nI_toInt (by omega)]; omega, by rw [e 849 x (by omega)]; exact x2, by rw [e 852 x (by omega)]; exact x3⟩
    have pre : (w.1 846 6).toInt ≤ 6001 → (s.1 846 6).toInt ≤ 6001 := fun c => by
      rw [z2, nI_toInt (by omega)] at c
      rw [e6, nI_toInt (by omega)]
      omega
    have e5 : ∀ n, tw255 s n → tw255 w n := fun n q => by
      unfold tw255 at *
      rw [(z1 322 n (by omega)).2.1]
      exact q
    have O : ∀ n, twO s n → twO w n := fun n ⟨b1, b2, b3, b4, b5⟩ => by
      unfold twO
      rw [e7, e38, e39]
      exact ⟨fun q => L (b1 q), fun q => L (b2 q), b3, fun q => old n (b4 q), fun q => e5 n (b5 q)⟩
    refine ⟨fun c1 c2 => ?_, fun S' x hS hx x10 x50 hF c1 c2 => ?_⟩
    · rw [e8] at c1
      obtain ⟨⟨h0, h1⟩, h2⟩ := h0 c1 (pre c2)
      refine ⟨⟨fun n hn => by rw [e8, e7]; exact h0 n hn, fun n k hn => by rw [e8, e7]; exact h1 n k hn⟩, fun n hn => ?_⟩
      rw [e8] at hn
      obtain ⟨a, b⟩ := h2 n hn
      exact ⟨fun q => ⟨by rw [e39]; exact L (a q).1, e5 n (a q).2⟩, fun q => O n (b q)⟩
    · rw [e8] at c1
      subst hS
      obtain ⟨⟨h0, h1⟩, h2⟩ := h0 c1 (pre c2)
      refine ⟨⟨fun n hn => by rw [e8, e7]; exact h0 n (Or.inl hn), fun n k hn => by rw [e8, e7]; exact h1 n k hn⟩, fun n hn => ?_⟩
      rw [e8] at hn
      obtain ⟨a, b⟩ := h2 n hn
      refine ⟨fun q => ⟨by rw [e39]; exact L (a (Or.inl q)).1, e5 n (a (Or.inl q)).2⟩, fun q => ?_⟩
      by_cases z : n = x
      · subst z
        have k8 := (h1 n 8 hF).2
        unfold twO
        rw [e7, k8]
        refine ⟨fun q => absurd q (by decide), fun q => absurd q (by decide), fun q => absurd q (by decide), fun _ => ?_, fun q => absurd q (by decide)⟩
        exact ⟨l, by rw [z2, nI_toInt (by omega)]; omega, by rw [z4]; exact x10, by rw [z7]; exact x50⟩
      · exact O n (b (fun y => y.elim q (fun y => z ((nI_eq (by omega) (by have := y.2; omega)).mp y.1).symm)))
  unfold f_X3_add at g
  rw [if_pos c] at g
  exact g
theorem pc_mono {T : Type} {o : Option T} {Q Q' : T → Prop} (h : t_pq o Q) (g : ∀ y, Q y → Q' y) : t_pq o Q' := fun y e => g y (h y e)
theorem tw_f_X3_add {x1 x2 x3 x4 x5 x6 : Int32} {s : t_S} (h : TW zS zF s) : t_pq (f_X3_add x1 x2 x3 x4 x5 x6 s) (fun y => TW zS zF y) := pc_mono (tw_add_all h) (fun y hy => hy.1)
theorem tw_f_X6_link {x1 x2 x3 : Int32} {s : t_S} (h : TW zS zF s) : t_pq (f_X6_link x1 x2 x3 s) (fun y => TW zS zF y) := by
  unfold f_X6_link
  exact pc_if (fun _ => pc_bd (tw_f_X3_add h) (fun r1 h1 => pc_bd (tw_f_X2_advance h1) (fun r2 h2 => pc_some h2))) (fun _ => pc_bd (tw_f_X2_fail h) (fun r5 h5 => pc_some h5))
theorem tw_link8 {x3 : Int32} {x : Nat} {s : t_S} (h : TW (twS zS (nI x)) zF s) (hx : x < 3001) (hF : zF x 8) (h8 : s.1 1 8 = 1) : t_pq (f_X6_link 0 (nI x) x3 s) (fun y => TW zS zF y) := by
  unfold f_X6_link
  exact pc_if (fun _ => pc_bd (tw_add_all h) (fun r1 h1 => pc_bd (tw_f_X2_advance (h1.2 _ _ rfl hx rfl rfl hF)) (fun r2 h2 => pc_some h2))) (fun y => absurd h8 y)
theorem tw_k_X6_readFields_278 {rc : RT_X6_readFields} {s : t_S} (h : TW zS zF s) : t_pq (k_X6_readFields_278 rc s) (fun y => TW zS zF y) := by
  unfold k_X6_readFields_278
  exact pc_bd (tw_f_X2_need h) (fun r1 h1 => pc_some h1)
theorem tw_k_X6_readFields_240 {rc : RT_X6_readFields} {l1 l2 l3 l5 l6 : Int32} {s : t_S} (h : TW zS zF s) : t_pq (k_X6_readFields_240 rc l1 l2 l3 l5 l6 s) (fun z => Sum.elim (fun y => TW zS zF y.2.2.2.2.2) (fun y => TW zS zF y) z) := by
  unfold k_X6_readFields_240
  exact pc_if (fun _ => tw_st (TW.set h ⟨by decide, by decide, by decide, by decide, by decide, by decide, fun y => absurd y.1 (by decide), fun y => absurd y.1 (by decide)⟩) (fun s1 h1 => pc_bd (tw_f_X2_take h1) (fun r2 h2 => pc_if (fun _ => pc_mp (tw_k_X6_readFields_278 h2)) (fun _ => pc_some h2)))) (fun _ => pc_none)
theorem tw_k_X6_readFields_209 {rc : RT_X6_readFields} {l1 l2 l3 l4 l5 : Int32} {m : Nat} {s : t_S} (h : TW zS zF s) (hm : zF m 9) (m3 : m < 3001) : t_pq (k_X6_readFields_209 rc l1 l2 l3 l4 l5 (nI m) s) (fun z => Sum.elim (fun y => TW zS zF y.2.2.2.2.2) (fun y => TW zS zF y) z) := by
  unfold k_X6_readFields_209
  exact pc_if (fun _ => pc_if (fun _ => tw_st (h.field (Or.inl rfl) hm m3) (fun s1 h1 => tw_k_X6_readFields_240 h1)) (fun _ => pc_none)) (fun _ => pc_if (fun _ => tw_st (h.field (Or.inr rfl) hm m3) (fun s1 h1 => tw_k_X6_readFields_240 h1)) (fun _ => pc_none))
theorem tw_k_X6_readFields_105 {l1 l2 l3 l4 l5 : Int32} {s : t_S} {rc : RT_X6_readFields} (hrc : TWB_X6_readFields rc) (h : TW zS zF s) : t_pq (k_X6_readFields_105 rc l1 l2 l3 l4 l5 s) (fun z => Sum.elim (fun y => TW zS zF y.2.2.2.2.2) (fun y => TW zS zF y) z) := by
  unfold k_X6_readFields_105
  refine pc_bd (tw_f_X6_node h) (fun r1 h1 => pc_if (fun _ => pc_bd (tw_f_X11_add h1) (fun r2 h2 => ?_)) (fun _ => pc_mp (pc_some h1)))
  obtain ⟨i2, _, w2⟩ := h2
  rw [if_pos (by decide)] at w2
  obtain ⟨x0, r3⟩ := r2
  obtain ⟨m, m3, e⟩ := i2.at
  have e : x0 = nI m := e
  subst e
  have w2 : TW (twS zS (nI m)) (twF zF (nI m) 9) r3 := w2
  show t_pq (if t_ix (nI m) 3001 = true then _ else none) _
  refine pc_if (fun _ => tw_st (TW.set w2 ⟨by decide, by decide, by decide, by decide, by decide, by decide, fun y => absurd y.1 (by decide), fun y => absurd y.1 (by decide)⟩) (fun s1 h1 => pc_bd (tw_f_X2_advance h1) (fun r5 h5 => pc_bd (tw_f_X2_need h5) (fun r6 h6 => pc_bd (hrc.2 _ _ _ _ h6) (fun r7 h7 => ?_))))) (fun _ => pc_none)
  have key : ∀ {s : t_S}, TW zS (twF zF (nI m) 9) s → t_pq (k_X6_readFields_209 rc l1 l2 l3 l4 l5 (nI m) s) (fun z => Sum.elim (fun y => TW zS zF y.2.2.2.2.2) (fun y => TW zS zF y) z) := fun q => pc_mono (tw_k_X6_readFields_209 q (Or.inr ⟨⟨rfl, m3⟩, rfl⟩) m3) (fun y hy => by
    cases y with
    | inl y => exact TW.less hy (fun n k q => Or.inl q) (fun n => Iff.rfl)
    | inr y => exact TW.less hy (fun n k q => Or.inl q) (fun n => Iff.rfl))
  show t_pq (t_let (t_setI r7.2 318 ((nI m).toNatClampNeg) r7.1) _) _
  rw [nI_clamp (n := m) (by omega)]
  refine tw_st (h7.2.done m3 (Or.inr ⟨⟨rfl, m3⟩, rfl⟩) (Or.inr rfl) h7.1) (fun s2 h8 => pc_if (fun _ => key h8) (fun _ => pc_bd (tw_f_X2_take h8) (fun r8 h9 => pc_if (fun _ => key h9) (fun _ => tw_st (TW.set h9 ⟨by decide, by decide, by decide, by decide, by decide, by decide, fun y => absurd y.1 (by decide), fun y => absurd y.1 (by decide)⟩) (fun s3 h10 => key h10)))))
theorem tw_k_X6_readFields_32 {l1 l2 l3 l4 l5 : Int32} {s : t_S} {rc : RT_X6_readFields} (hrc : TWB_X6_readFields rc) (h : TW zS zF s) : t_pq (k_X6_readFields_32 rc l1 l2 l3 l4 l5 s) (fun z => Sum.elim (fun y => TW zS zF y.2.2.2.2.2) (fun y => TW zS zF y) z) := by
  unfold k_X6_readFields_32
  exact pc_if (fun _ => pc_mp (tw_k_X6_readFields_278 h)) (fun _ => pc_if (fun _ => pc_bd pc_any (fun r2 _ => pc_if (fun _ => pc_if (fun _ => pc_bd (tw_f_X2_fail h) (fun r3 h3 => tw_k_X6_readFields_105 hrc h3)) (fun _ => tw_k_X6_readFields_105 hrc h)) (fun _ => pc_bd (tw_f_X2_fail h) (fun r3 h3 => tw_k_X6_readFields_105 hrc h3)))) (fun _ => pc_bd (tw_f_X2_fail h) (fun r3 h3 => tw_k_X6_readFields_105 hrc h3)))
theorem tw_k_X6_readFields_26 {l1 l2 l3 : Int32} {s : t_S} {rc : RT_X6_readFields} (hrc : TWB_X6_readFields rc) (h : TW zS zF s) : t_pq (k_X6_readFields_26 rc l1 l2 l3 s) (fun y => TW zS zF y) := by
  unfold k_X6_readFields_26
  exact pc_lp (I := fun y => TW zS zF y.2.2.2.2.2) (fun x hx => by
    obtain ⟨a1, a2, a3, a4, a5, a6⟩ := x
    show t_pq (k_X6_readFields_32 rc a1 a2 a3 a4 a5 a6) _
    exact tw_k_X6_readFields_32 hrc hx) h
theorem tw_m_X6_readFields {x1 x2 x3 : Int32} {s : t_S} {rc : RT_X6_readFields} (hrc : TWB_X6_readFields rc) (h : TW zS zF s) : t_pq (m_X6_readFields rc x1 x2 x3 s) (fun y => TW zS zF y) := by
  unfold m_X6_readFields
  exact pc_bd (tw_f_X2_need h) (fun r1 h1 => pc_if (fun _ => tw_k_X6_readFields_26 hrc h1) (fun _ => pc_bd (tw_f_X2_take h1) (fun r2 h2 => pc_if (fun _ => tw_k_X6_readFields_26 hrc h2) (fun _ => pc_some h2))))
theorem tw_k_X6_readNumber_90 {l4 : Int64} {s : t_S} (h_s : TW zS zF s) : t_pq (k_X6_readNumber_90 l4 s) (fun y => TW zS zF y.2) := by
  unfold k_X6_readNumber_90
  exact pc_if (fun _ => pc_bd (tw_f_X2_advance h_s) (fun r1 h_r1 => pc_some h_r1)) (fun _ => pc_some h_s)
theorem tw_k_X6_readNumber_51 {l1 : Int64} {k0 : Int64} {s : t_S} (h_s : TW zS zF s) : t_pq (k_X6_readNumber_51 l1 k0 s) (fun y => TW zS zF y.2) := by
  unfold k_X6_readNumber_51
  exact pc_if (fun _ => pc_if (fun _ => (tw_k_X6_readNumber_90 h_s)) (fun _ => pc_bd (tw_f_X2_fail h_s) (fun r1 h_r1 => (tw_k_X6_readNumber_90 h_r1)))) (fun _ => pc_bd (tw_f_X2_fail h_s) (fun r2 h_r2 => (tw_k_X6_readNumber_90 h_r2)))
theorem tw_k_X6_readNumber_29 {l1 : Int64} {l3 : Int32} {s : t_S} (h_s : TW zS zF s) : t_pq (k_X6_readNumber_29 l1 l3 s) (fun y => TW zS zF y.2) := by
  unfold k_X6_readNumber_29
  exact pc_if (fun _ => (tw_k_X6_readNumber_51 h_s)) (fun _ => (tw_k_X6_readNumber_51 h_s))
theorem tw_k_X6_readNumber_17 {l1 : Int64} {k0 : Int32} {s : t_S} (h_s : TW zS zF s) : t_pq (k_X6_readNumber_17 l1 k0 s) (fun y => TW zS zF y.2) := by
  unfold k_X6_readNumber_17
  exact pc_if (fun _ => (tw_k_X6_readNumber_29 h_s)) (fun _ => pc_bd (tw_f_X2_advance h_s) (fun r1 h_r1 => (tw_k_X6_readNumber_29 h_r1)))
theorem tw_f_X6_readNumber {x1 : Int64} {s : t_S} (h_s : TW zS zF s) : t_pq (f_X6_readNumber x1 s) (fun y => TW zS zF y.2) := by
  unfold f_X6_readNumber
  exact pc_if (fun _ => (tw_k_X6_readNumber_17 h_s)) (fun _ => (tw_k_X6_readNumber_17 h_s))
theorem tw_k_X6_readInt_346 {s : t_S} (h : TW zS zF s) : t_pq (k_X6_readInt_346 s) (fun y => TW zS zF y) := by
  unfold k_X6_readInt_346
  exact pc_bd (tw_f_X2_need h) (fun r1 h1 => pc_some h1)
section
variable {F1 : Nat → Int32 → Prop} {m m' : Nat} {l2 l3 : Int32} {k0 : Int64} {s : t_S}
theorem tw_k_X6_readInt_308 (hF : ∀ n k, zF n k → F1 n k) (m3 : m < 3001) (h1 : F1 m 1) (m3' : m' < 3001) (h2 : F1 m' 10) (h : TW zS F1 s) : t_pq (k_X6_readInt_308 (nI m) l3 (nI m') k0 (nI m) s) (fun z => Sum.elim (fun y => (∃ F1, (∀ n k, zF n k → F1 n k) ∧ TW zS F1 y.2.2.2 ∧ (∃ m, m < 3001 ∧ y.1 = nI m ∧ F1 m 1) ∧ (y.2.2.1 = 0 ∨ ∃ m, m < 3001 ∧ y.2.1 = nI m ∧ F1 m 10))) (fun y => TW zS zF y) z) := by
  unfold k_X6_readInt_308
  exact pc_if (fun _ => tw_st (h.setJ (by decide)) (fun s1 q1 => pc_if (fun _ => tw_st (TW.set q1 ⟨by decide, by decide, by decide, by decide, by decide, by decide, fun y => absurd y.1 (by decide), fun y => absurd y.1 (by decide)⟩) (fun s2 q2 => pc_bd (tw_f_X2_take q2) (fun r3 q3 => pc_if (fun _ => pc_mp (tw_k_X6_readInt_346 (q3.less hF (fun n => Iff.rfl)))) (fun _ => pc_some ⟨F1, hF, q3, ⟨m, m3, rfl, h1⟩, Or.inr ⟨m', m3', rfl, h2⟩⟩)))) (fun _ => pc_none))) (fun _ => pc_none)
theorem tw_k_X6_readInt_260 (hF : ∀ n k, zF n k → F1 n k) (m3 : m < 3001) (h1 : F1 m 1) (m3' : m' < 3001) (h2 : F1 m' 10) (h : TW zS F1 s) : t_pq (k_X6_readInt_260 (nI m) l3 (nI m') k0 (nI m) s) (fun z => Sum.elim (fun y => (∃ F1, (∀ n k, zF n k → F1 n k) ∧ TW zS F1 y.2.2.2 ∧ (∃ m, m < 3001 ∧ y.1 = nI m ∧ F1 m 1) ∧ (y.2.2.1 = 0 ∨ ∃ m, m < 3001 ∧ y.2.1 = nI m ∧ F1 m 10))) (fun y => TW zS zF y) z) := by
  unfold k_X6_readInt_260
  exact pc_if (fun _ => tw_st (h.low (Or.inr ⟨1, by rw [nI_clamp (n := m) (by omega)]; exact h1, by decide, by decide, by decide, by decide⟩)) (fun s1 q1 => pc_if (fun _ => pc_if (fun _ => tw_k_X6_readInt_308 hF m3 h1 m3' h2 q1) (fun _ => pc_none)) (fun _ => pc_if (fun _ => pc_if (fun _ => tw_k_X6_readInt_308 hF m3 h1 m3' h2 q1) (fun _ => pc_none)) (fun _ => pc_none)))) (fun _ => pc_none)
theorem tw_k_X6_readInt_213 (hF : ∀ n k, zF n k → F1 n k) (m3 : m < 3001) (h1 : F1 m 1) (m3' : m' < 3001) (h2 : F1 m' 10) (h : TW zS F1 s) : t_pq (k_X6_readInt_213 (nI m) l3 (nI m') s) (fun z => Sum.elim (fun y => (∃ F1, (∀ n k, zF n k → F1 n k) ∧ TW zS F1 y.2.2.2 ∧ (∃ m, m < 3001 ∧ y.1 = nI m ∧ F1 m 1) ∧ (y.2.2.1 = 0 ∨ ∃ m, m < 3001 ∧ y.2.1 = nI m ∧ F1 m 10))) (fun y => TW zS zF y) z) := by
  unfold k_X6_readInt_213
  exact pc_if (fun _ => pc_if (fun _ => tw_k_X6_readInt_260 hF m3 h1 m3' h2 h) (fun _ => pc_none)) (fun _ => pc_if (fun _ => pc_if (fun _ => tw_k_X6_readInt_260 hF m3 h1 m3' h2 h) (fun _ => pc_none)) (fun _ => pc_none))
theorem tw_k_X6_readInt_183 (hF : ∀ n k, zF n k → F1 n k) (m3 : m < 3001) (h1 : F1 m 1) (m3' : m' < 3001) (h2 : F1 m' 10) (hl : l3 = 0 ∨ ∃ m, m < 3001 ∧ l2 = nI m ∧ F1 m 10) (h : TW zS F1 s) : t_pq (k_X6_readInt_183 (nI m) l2 l3 (nI m') k0 (nI m') s) (fun z => Sum.elim (fun y => (∃ F1, (∀ n k, zF n k → F1 n k) ∧ TW zS F1 y.2.2.2 ∧ (∃ m, m < 3001 ∧ y.1 = nI m ∧ F1 m 1) ∧ (y.2.2.1 = 0 ∨ ∃ m, m < 3001 ∧ y.2.1 = nI m ∧ F1 m 10))) (fun y => TW zS zF y) z) := by
  unfold k_X6_readInt_183
  refine pc_if (fun _ => tw_st (h.setJ (by decide)) (fun s1 q1 => pc_if (fun _ => pc_if (fun _ => ?_) (fun _ => pc_none)) (fun z => pc_if (fun _ => ?_) (fun _ => pc_none)))) (fun _ => pc_none)
  · rw [nI_clamp (n := m) (by omega)]
    exact tw_st (q1.free (Or.inl rfl) h1 (by decide)) (fun s3 q3 => tw_k_X6_readInt_213 hF m3 h1 m3' h2 q3)
  · obtain ⟨p, p3, rfl, hp⟩ := hl.resolve_left z
    rw [nI_clamp (n := p) (by omega)]
    exact tw_st (q1.free (Or.inr rfl) hp (by decide)) (fun s3 q3 => tw_k_X6_readInt_213 hF m3 h1 m3' h2 q3)
theorem tw_k_X6_readInt_92 (hF : ∀ n k, zF n k → F1 n k) (m3 : m < 3001) (h1 : F1 m 1) (hl : l3 = 0 ∨ ∃ m, m < 3001 ∧ l2 = nI m ∧ F1 m 10) (h : TW zS F1 s) : t_pq (k_X6_readInt_92 (nI m) l2 l3 s) (fun z => Sum.elim (fun y => (∃ F1, (∀ n k, zF n k → F1 n k) ∧ TW zS F1 y.2.2.2 ∧ (∃ m, m < 3001 ∧ y.1 = nI m ∧ F1 m 1) ∧ (y.2.2.1 = 0 ∨ ∃ m, m < 3001 ∧ y.2.1 = nI m ∧ F1 m 10))) (fun y => TW zS zF y) z) := by
  unfold k_X6_readInt_92
  refine pc_bd (tw_f_X6_node h) (fun r1 q1 => pc_if (fun _ => pc_bd (tw_f_X11_add q1) (fun r2 q2 => ?_)) (fun _ => pc_mp (pc_some (q1.less hF (fun n => Iff.rfl)))))
  obtain ⟨i2, _, w2⟩ := q2
  rw [if_neg (by decide)] at w2
  obtain ⟨x0, r3⟩ := r2
  obtain ⟨m', m3', e⟩ := i2.at
  have e : x0 = nI m' := e
  subst e
  have w2 : TW zS (twF F1 (nI m') 10) r3 := w2
  have hF2 : ∀ n k, zF n k → twF F1 (nI m') 10 n k := fun n k q => Or.inl (hF n k q)
  have hl2 : l3 = 0 ∨ ∃ m, m < 3001 ∧ l2 = nI m ∧ twF F1 (nI m') 10 m 10 := hl.imp id (fun ⟨m, a, b, c⟩ => ⟨m, a, b, Or.inl c⟩)
  have g : ∀ {k0 : Int64} {s : t_S}, TW zS (twF F1 (nI m') 10) s → t_pq (k_X6_readInt_183 (nI m) l2 l3 (nI m') k0 (nI m') s) (fun z => Sum.elim (fun y => (∃ F1, (∀ n k, zF n k → F1 n k) ∧ TW zS F1 y.2.2.2 ∧ (∃ m, m < 3001 ∧ y.1 = nI m ∧ F1 m 1) ∧ (y.2.2.1 = 0 ∨ ∃ m, m < 3001 ∧ y.2.1 = nI m ∧ F1 m 10))) (fun y => TW zS zF y) z) := fun q => tw_k_X6_readInt_183 hF2 m3 (Or.inl h1) m3' (Or.inr ⟨⟨rfl, m3'⟩, rfl⟩) hl2 q
  exact pc_bd (tw_f_X6_readNumber w2) (fun r3 q3 => pc_if (fun _ => tw_st (TW.low q3 (Or.inr ⟨10, by show twF F1 (nI m') 10 (nI m').toNatClampNeg 10; rw [nI_clamp (n := m') (by omega)]; exact Or.inr ⟨⟨rfl, m3'⟩, rfl⟩, by decide, by decide, by decide, by decide⟩)) (fun s1 q4 => pc_bd (tw_f_X2_take q4) (fun r5 q5 => pc_if (fun _ => g q5) (fun _ => pc_bd (tw_f_X6_readNumber q5) (fun r6 q6 => g q6))))) (fun _ => pc_none))
theorem tw_k_X6_readInt_78 (hF : ∀ n k, zF n k → F1 n k) (m3 : m < 3001) (h1 : F1 m 1) (hl : l3 = 0 ∨ ∃ m, m < 3001 ∧ l2 = nI m ∧ F1 m 10) (h : TW zS F1 s) : t_pq (k_X6_readInt_78 (nI m) l2 l3 s) (fun z => Sum.elim (fun y => (∃ F1, (∀ n k, zF n k → F1 n k) ∧ TW zS F1 y.2.2.2 ∧ (∃ m, m < 3001 ∧ y.1 = nI m ∧ F1 m 1) ∧ (y.2.2.1 = 0 ∨ ∃ m, m < 3001 ∧ y.2.1 = nI m ∧ F1 m 10))) (fun y => TW zS zF y) z) := by
  unfold k_X6_readInt_78
  exact pc_if (fun _ => pc_bd (tw_f_X2_fail h) (fun r1 q1 => tw_k_X6_readInt_92 hF m3 h1 hl q1)) (fun _ => tw_k_X6_readInt_92 hF m3 h1 hl h)
theorem tw_k_X6_readInt_41 (hF : ∀ n k, zF n k → F1 n k) (m3 : m < 3001) (h1 : F1 m 1) (hl : l3 = 0 ∨ ∃ m, m < 3001 ∧ l2 = nI m ∧ F1 m 10) (h : TW zS F1 s) : t_pq (k_X6_readInt_41 (nI m) l2 l3 s) (fun z => Sum.elim (fun y => (∃ F1, (∀ n k, zF n k → F1 n k) ∧ TW zS F1 y.2.2.2 ∧ (∃ m, m < 3001 ∧ y.1 = nI m ∧ F1 m 1) ∧ (y.2.2.1 = 0 ∨ ∃ m, m < 3001 ∧ y.2.1 = nI m ∧ F1 m 10))) (fun y => TW zS zF y) z) := by
  unfold k_X6_readInt_41
  exact pc_if (fun _ => pc_mp (tw_k_X6_readInt_346 (h.less hF (fun n => Iff.rfl)))) (fun _ => pc_if (fun _ => tw_k_X6_readInt_78 hF m3 h1 hl h) (fun _ => pc_if (fun _ => tw_k_X6_readInt_78 hF m3 h1 hl h) (fun _ => pc_bd (tw_f_X2_fail h) (fun r1 q1 => tw_k_X6_readInt_78 hF m3 h1 hl q1))))
theorem tw_f_X6_readInt (m3 : m < 3001) (h1 : zF m 1) (h : TW zS zF s) : t_pq (f_X6_readInt (nI m) s) (fun y => TW zS zF y) := by
  unfold f_X6_readInt
  refine pc_if (fun _ => tw_st (h.low (Or.inr ⟨1, by rw [nI_clamp (n := m) (by omega)]; exact h1, by decide, by decide, by decide, by decide⟩)) (fun s1 q1 => tw_st (q1.setJ (by decide)) (fun s2 q2 => pc_bd (tw_f_X2_take q2) (fun r2 q3 => pc_if (fun _ => pc_some q3) (fun _ => ?_))))) (fun _ => pc_none)
  refine pc_lp (I := fun y => (∃ F1, (∀ n k, zF n k → F1 n k) ∧ TW zS F1 y.2.2.2 ∧ (∃ m, m < 3001 ∧ y.1 = nI m ∧ F1 m 1) ∧ (y.2.2.1 = 0 ∨ ∃ m, m < 3001 ∧ y.2.1 = nI m ∧ F1 m 10))) (fun x hx => ?_) ⟨zF, fun _ _ q => q, q3, ⟨m, m3, rfl, h1⟩, Or.inl rfl⟩
  obtain ⟨a1, a2, a3, a4⟩ := x
  obtain ⟨F1, hF, q, ⟨p, p3, e, hp⟩, hl⟩ := hx
  have e : a1 = nI p := e
  subst e
  show t_pq (k_X6_readInt_41 (nI p) a2 a3 a4) _
  exact tw_k_X6_readInt_41 hF p3 hp hl q
end
theorem tw_k_X6_readEnum_201 {s : t_S} (h_s : TW zS zF s) : t_pq (k_X6_readEnum_201 s) (fun y => TW zS zF y) := by
  unfold k_X6_readEnum_201
  exact pc_bd (tw_f_X2_need h_s) (fun r1 h_r1 => pc_some h_r1)
theorem tw_k_X6_readEnum_98 {l1 : Int32} {l2 : Int32} {s : t_S} (h_s : TW zS zF s) : t_pq (k_X6_readEnum_98 l1 l2 s) (fun z => Sum.elim (fun y => TW zS zF y.2.2) (fun y => TW zS zF y) z) := by
  unfold k_X6_readEnum_98
  exact pc_if (fun _ => pc_if (fun z1 => tw_st (TW.set h_s ⟨by decide, by decide, by decide, by decide, by decide, by decide, fun y => absurd y.1 (by decide), fun y => absurd y.1 (by decide)⟩) (fun s1 h_s1 => pc_if (fun z2 => tw_st (TW.set h_s1 ⟨by decide, by decide, by decide, by decide, by decide, by decide, fun y => absurd y.1 (by decide), fun y => absurd y.1 (by decide)⟩) (fun s2 h_s2 => tw_st (TW.set h_s2 ⟨by decide, by decide, by decide, by decide, by decide, by decide, fun y => absurd y.2 (by decide), fun y => absurd y.1 (by decide)⟩) (fun s3 h_s3 => pc_if (fun z3 => tw_st (TW.set h_s3 ⟨by decide, by decide, by decide, by decide, by decide, by decide, fun y => absurd y.1 (by decide), fun y => absurd y.1 (by decide)⟩) (fun s4 h_s4 => pc_bd (tw_f_X2_advance h_s4) (fun r6 h_r6 => pc_bd (tw_f_X2_take h_r6) (fun r7 h_r7 => pc_if (fun _ => pc_mp ((tw_k_X6_readEnum_201 h_r7))) (fun _ => pc_some h_r7))))) (fun _ => pc_none)))) (fun _ => pc_none))) (fun _ => pc_none)) (fun _ => pc_mp (pc_some h_s))
theorem tw_k_X6_readEnum_27 {l1 : Int32} {l2 : Int32} {s : t_S} (h_s : TW zS zF s) : t_pq (k_X6_readEnum_27 l1 l2 s) (fun z => Sum.elim (fun y => TW zS zF y.2.2) (fun y => TW zS zF y) z) := by
  unfold k_X6_readEnum_27
  exact pc_if (fun _ => pc_mp ((tw_k_X6_readEnum_201 h_s))) (fun _ => pc_if (fun _ => pc_bd pc_any (fun r2 h_r2 => pc_if (fun _ => pc_if (fun _ => pc_bd (tw_f_X2_fail h_s) (fun r3 h_r3 => (tw_k_X6_readEnum_98 h_r3))) (fun _ => (tw_k_X6_readEnum_98 h_s))) (fun _ => pc_bd (tw_f_X2_fail h_s) (fun r4 h_r4 => (tw_k_X6_readEnum_98 h_r4))))) (fun _ => pc_bd (tw_f_X2_fail h_s) (fun r5 h_r5 => (tw_k_X6_readEnum_98 h_r5))))
theorem tw_b_X6_readEnum_27 {x9 : Int32 × Int32 × t_S} (h : TW zS zF x9.2.2) : t_pq (b_X6_readEnum_27 x9) (fun z => Sum.elim (fun y => TW zS zF y.2.2) (fun y => TW zS zF y) z) := tw_k_X6_readEnum_27 h
theorem tw_f_X6_readEnum {m : Nat} {s : t_S} (m3 : m < 3001) (h1 : zF m 4) (h : TW zS zF s) : t_pq (f_X6_readEnum (nI m) s) (fun y => TW zS zF y) := by
  unfold f_X6_readEnum
  refine pc_bd (tw_f_X2_need h) (fun r1 q1 => pc_if (fun _ => ?_) (fun _ => pc_none))
  rw [nI_clamp (n := m) (by omega)]
  exact tw_st (q1.free (Or.inl rfl) h1 (by decide)) (fun s1 q2 => pc_lp (fun x hx => tw_b_X6_readEnum_27 hx) q2)
theorem tw_k_X6_readBound_52 {l3 : Int64} {s : t_S} (h_s : TW zS zF s) : t_pq (k_X6_readBound_52 l3 s) (fun y => TW zS zF y.2) := by
  unfold k_X6_readBound_52
  exact pc_if (fun _ => pc_bd (tw_f_X2_advance h_s) (fun r1 h_r1 => pc_some h_r1)) (fun _ => pc_some h_s)
theorem tw_k_X6_readBound_44 {l3 : Int64} {s : t_S} (h_s : TW zS zF s) : t_pq (k_X6_readBound_44 l3 s) (fun y => TW zS zF y.2) := by
  unfold k_X6_readBound_44
  exact pc_bd (tw_f_X2_fail h_s) (fun r1 h_r1 => (tw_k_X6_readBound_52 h_r1))
theorem tw_f_X6_readBound {x1 : Int32} {x2 : Int32} {s : t_S} (h_s : TW zS zF s) : t_pq (f_X6_readBound x1 x2 s) (fun y => TW zS zF y.2) := by
  unfold f_X6_readBound
  exact pc_if (fun _ => pc_if (fun _ => (tw_k_X6_readBound_44 h_s)) (fun _ => pc_if (fun _ => (tw_k_X6_readBound_52 h_s)) (fun _ => (tw_k_X6_readBound_44 h_s)))) (fun _ => pc_bd (tw_f_X2_fail h_s) (fun r1 h_r1 => (tw_k_X6_readBound_52 h_r1)))
theorem tw_k_X6_readSpan_38 {l2 : Int32} {k0 : Int32} {s : t_S} (h_s : TW zS zF s) : t_pq (k_X6_readSpan_38 l2 k0 s) (fun y => TW zS zF y.2) := by
  unfold k_X6_readSpan_38
  exact pc_bd (tw_f_X2_need h_s) (fun r1 h_r1 => pc_some h_r1)
theorem tw_f_X6_readSpan {x1 : Int32} {s : t_S} (h_s : TW zS zF s) : t_pq (f_X6_readSpan x1 s) (fun y => TW zS zF y.2) := by
  unfold f_X6_readSpan
  exact pc_bd (tw_f_X2_need h_s) (fun r1 h_r1 => pc_bd (tw_f_X6_readBound h_r1) (fun r2 h_r2 => pc_bd (tw_f_X2_take h_r2) (fun r3 h_r3 => pc_if (fun _ => (tw_k_X6_readSpan_38 h_r3)) (fun _ => pc_bd (tw_f_X6_readBound h_r3) (fun r4 h_r4 => (tw_k_X6_readSpan_38 h_r4))))))
theorem tw_255 (x : Int32) : 0 ≤ (x &&& (255 : Int32)).toInt64.toInt ∧ (x &&& (255 : Int32)).toInt64.toInt ≤ 255 := by
  have e : x &&& (255 : Int32) = nI (x.toBitVec.toNat % 2 ^ 8) := pk_and x 8 (by decide)
  have l : x.toBitVec.toNat % 2 ^ 8 < 256 := Nat.mod_lt _ (by decide)
  rw [e, Int32.toInt_toInt64, nI_toInt (by omega)]
  omega
theorem tw_f_X6_setSpan {x1 x2 : Int32} {s : t_S} (h : TW zS zF s) : t_pq (f_X6_setSpan x1 x2 s) (fun y => TW zS zF y) := by
  unfold f_X6_setSpan
  exact pc_if (fun _ => tw_st (h.low (Or.inl (tw_255 _))) (fun s1 h1 => tw_st (h1.setJ (by decide)) (fun s2 h2 => pc_some h2))) (fun _ => pc_none)
theorem tw_k_X6_readType_257 {l1 : Int32} {m : Nat} {s : t_S} {rc : RT_X6_readFields} (hrc : TWB_X6_readFields rc) (m3 : m < 3001) (h1 : zF m 7) (h : TW (twS zS (nI m)) zF s) : t_pq (k_X6_readType_257 rc l1 (nI m) s) (fun y => tw_in y.1 ∧ TW zS zF y.2) := by
  unfold k_X6_readType_257
  refine pc_bd (tw_f_X2_need h) (fun r1 q1 => pc_bd (hrc.2 _ _ _ _ q1) (fun r2 q2 => pc_if (fun _ => ?_) (fun _ => pc_none)))
  rw [nI_clamp (n := m) (by omega)]
  exact tw_st (q2.2.done m3 h1 (Or.inl rfl) q2.1) (fun s1 q3 => pc_some ⟨⟨by rw [nI_toInt (by omega)]; omega, by rw [nI_toInt (by omega)]; omega⟩, q3⟩)
theorem tw_k_X6_readType_80 {l1 l2 k0 : Int32} {s : t_S} {rc : RT_X6_readFields} (hrc : TWB_X6_readFields rc) (h8 : s.1 1 8 = l2) (hk : (l2 = 1 ∧ k0 = 8) ∨ ∃ j, j ≤ 6 ∧ l2 = nI (210 + j) ∧ k0 = nI (j + 1)) (h : TW zS zF s) : t_pq (k_X6_readType_80 rc l1 l2 k0 s) (fun y => tw_in y.1 ∧ TW zS zF y.2) := by
  unfold k_X6_readType_80
  refine pc_bd (tw_f_X11_add h) (fun r1 q1 => ?_)
  obtain ⟨i1, e8, w1⟩ := q1
  obtain ⟨x0, r3⟩ := r1
  obtain ⟨m, m3, e⟩ := i1.at
  have e : x0 = nI m := e
  subst e
  have i1 : tw_in (nI m) := i1
  have e8 : r3.1 1 8 = s.1 1 8 := e8
  have own : twF zF (nI m) k0 m k0 := Or.inr ⟨⟨rfl, m3⟩, rfl⟩
  have lo : ∀ {s : t_S}, TW zS (twF zF (nI m) k0) s → TW zS zF s := fun q => q.less (fun n k q => Or.inl q) (fun n => Iff.rfl)
  show t_pq (if l2 = (1 : Int32) then _ else _) _
  rcases hk with ⟨rfl, rfl⟩ | ⟨j, hj, rfl, rfl⟩
  · rw [if_pos rfl]
    rw [if_pos (by decide)] at w1
    exact pc_bd (tw_link8 w1 m3 own (e8.trans h8)) (fun r13 q => pc_some ⟨i1, lo q⟩)
  have tj : (nI (210 + j)).toInt = ((210 + j : Nat) : Int) := nI_toInt (by omega)
  have w1 : TW (if j = 6 then twS zS (nI m) else zS) (twF zF (nI m) (nI (j + 1))) r3 := by
    by_cases z : j = 6
    · subst z
      rw [if_pos rfl]
      rw [if_pos (by decide)] at w1
      exact w1
    · rw [if_neg z]
      rw [if_neg (fun y => by
        rcases y with y | y | y
        · have := (nI_eq (a := j + 1) (b := 7) (by omega) (by decide)).mp y; omega
        · have := (nI_eq (a := j + 1) (b := 8) (by omega) (by decide)).mp y; omega
        · have := (nI_eq (a := j + 1) (b := 9) (by omega) (by decide)).mp y; omega)] at w1
      exact w1
  rw [if_neg (fun y => by have := (nI_eq (a := 210 + j) (b := 1) (by omega) (by decide)).mp y; omega)]
  refine pc_bd (tw_f_X2_advance w1) (fun r2 q2 => ?_)
  rw [tj]
  refine pc_if (fun y => by omega) (fun _ => ?_)
  have nj : ∀ {s : t_S}, j ≠ 6 → TW (if j = 6 then twS zS (nI m) else zS) (twF zF (nI m) (nI (j + 1))) s → TW zS (twF zF (nI m) (nI (j + 1))) s := fun z q => by rw [if_neg z] at q; exact q
  refine pc_if (fun y => ?_) (fun y0 => pc_if (fun y => ?_) (fun y1 => pc_if (fun y => ?_) (fun y2 => pc_if (fun y => ?_) (fun y3 => pc_if (fun y => ?_) (fun y4 => pc_if (fun y => ?_) (fun y5 => ?_))))))
  · have : j = 0 := by omega
    subst this
    exact pc_bd (tw_f_X6_readInt m3 own (nj (by decide) q2)) (fun r q => pc_some ⟨i1, lo q⟩)
  · exact pc_some ⟨i1, lo (nj (by omega) q2)⟩
  · have q3 := nj (by omega) q2
    exact pc_if (fun _ => tw_st (q3.setJ (by decide)) (fun s1 q4 => pc_if (fun _ => pc_bd (tw_f_X6_readSpan q4) (fun r5 q5 => pc_bd (tw_f_X6_setSpan q5) (fun r6 q6 => pc_some ⟨i1, lo q6⟩))) (fun _ => pc_some ⟨i1, lo q4⟩))) (fun _ => pc_none)
  · have : j = 3 := by omega
    subst this
    exact pc_bd (tw_f_X6_readEnum m3 own (nj (by decide) q2)) (fun r q => pc_some ⟨i1, lo q⟩)
  · exact pc_bd (hrc.1 _ _ _ _ _ _ (nj (by omega) q2)) (fun r q => pc_some ⟨i1, lo q⟩)
  · exact pc_bd (hrc.1 _ _ _ _ _ _ (nj (by omega) q2)) (fun r q => pc_some ⟨i1, lo q⟩)
  · have : j = 6 := by omega
    subst this
    rw [if_pos rfl] at q2
    have g : ∀ {s : t_S}, TW (twS zS (nI m)) (twF zF (nI m) (nI (6 + 1))) s → t_pq (k_X6_readType_257 rc l1 (nI m) s) (fun y => tw_in y.1 ∧ TW zS zF y.2) := fun q => pc_mono (tw_k_X6_readType_257 hrc m3 own q) (fun y hy => ⟨hy.1, lo hy.2⟩)
    exact pc_if (fun _ => tw_st (q2.setJ (by decide)) (fun s1 q4 => pc_if (fun _ => pc_bd (tw_f_X6_readSpan q4) (fun r5 q5 => pc_bd (tw_f_X6_setSpan q5) (fun r6 q6 => g q6))) (fun _ => g q4))) (fun _ => pc_none)
theorem tw_nodeF {s : t_S} : t_pq (f_X6_node s) (fun r => r.1 1 11 = 0 → s.1 1 11 = 0 ∧ r.1 1 8 = s.1 1 8) := by
  unfold f_X6_node
  refine pc_if (fun _ => pc_lt (pc_some (fun y => ?_))) (fun _ => pc_bd (P := fun r => r.1 1 11 ≠ 0) (tp_flv (by decide)) (fun r h => pc_some (fun y => absurd y h)))
  simp only [l2_gI, Nat.reduceEqDiff, false_and, reduceIte] at y ⊢
  exact ⟨y, trivial⟩
theorem tw_k_X6_readType_35 {l1 : Int32} {s : t_S} {rc : RT_X6_readFields} (hrc : TWB_X6_readFields rc) (h8 : s.1 1 11 = 0 → s.1 1 8 = 1 ∨ ∃ j, j ≤ 6 ∧ s.1 1 8 = nI (210 + j)) (h : TW zS zF s) : t_pq (k_X6_readType_35 rc l1 s) (fun y => tw_in y.1 ∧ TW zS zF y.2) := by
  unfold k_X6_readType_35
  refine pc_bd (P := fun r => TW zS zF r ∧ (r.1 1 11 = 0 → s.1 1 11 = 0 ∧ r.1 1 8 = s.1 1 8)) (fun y e => ⟨tw_f_X6_node h y e, tw_nodeF y e⟩) (fun r1 q1 => pc_if (fun c => ?_) (fun _ => pc_some ⟨tw_in0, q1.1⟩))
  obtain ⟨c1, c2⟩ := q1.2 c
  have h8 := h8 c1
  rw [← c2] at h8
  refine pc_if (fun y => tw_k_X6_readType_80 hrc rfl (Or.inl ⟨y, rfl⟩) q1.1) (fun y => ?_)
  obtain ⟨j, hj, e⟩ := h8.resolve_left y
  refine tw_k_X6_readType_80 hrc rfl (Or.inr ⟨j, hj, e, ?_⟩) q1.1
  rw [e, show (1 : Int32) = nI 1 from rfl, nI_add, show (210 : Int32) = nI 210 from rfl, show 1 + (210 + j) = (j + 1) + 210 by omega, ← nI_add]
  exact Int32.add_sub_cancel _ _
theorem tw_k_X6_readType_21 {l1 : Int32} {s : t_S} {rc : RT_X6_readFields} (hrc : TWB_X6_readFields rc) (h8 : s.1 1 11 = 0 → s.1 1 8 = 1 ∨ ∃ j, j ≤ 6 ∧ s.1 1 8 = nI (210 + j)) (h : TW zS zF s) : t_pq (k_X6_readType_21 rc l1 s) (fun y => tw_in y.1 ∧ TW zS zF y.2) := by
  unfold k_X6_readType_21
  exact pc_if (fun _ => tw_k_X6_readType_35 hrc h8 h) (fun _ => pc_bd (P := fun r => TW zS zF r ∧ r.1 1 11 ≠ 0) (fun y e => ⟨tw_f_X2_fail h y e, tp_flv (by decide) y e⟩) (fun r1 q1 => tw_k_X6_readType_35 hrc (fun y => absurd y q1.2) q1.1))
theorem tw_begins {x : Int32} {s : t_S} (h : f_X6_beginsType x s ≠ 0) : x = 1 ∨ ∃ j, j ≤ 6 ∧ x = nI (210 + j) := by
  unfold f_X6_beginsType k_X6_beginsType_14 k_X6_beginsType_19 at h
  by_cases z : x = 1
  · exact Or.inl z
  · right
    rw [if_neg z] at h
    by_cases a : x < 210
    · rw [if_pos a] at h
      exact absurd rfl h
    · rw [if_neg a] at h
      by_cases b : x ≤ 216
      · have a : ¬ x.toInt < 210 := fun y => a (Int32.lt_iff_toInt_lt.mpr y)
        have b : x.toInt ≤ 216 := Int32.le_iff_toInt_le.mp b
        refine ⟨(x.toInt - 210).toNat, by omega, ?_⟩
        rw [← Int32.toInt_inj, nI_toInt (by omega)]
        omega
      · rw [if_neg b] at h
        exact absurd rfl h
theorem tw_m_X6_readType {x1 : Int32} {s : t_S} {rc : RT_X6_readFields} (hrc : TWB_X6_readFields rc) (h : TW zS zF s) : t_pq (m_X6_readType rc x1 s) (fun y => tw_in y.1 ∧ TW zS zF y.2) := by
  unfold m_X6_readType
  exact pc_if (fun _ => pc_bd (P := fun r => TW zS zF r ∧ r.1 1 11 ≠ 0) (fun y e => ⟨tw_f_X2_fail h y e, tp_flv (by decide) y e⟩) (fun r1 q1 => tw_k_X6_readType_21 hrc (fun y => absurd y q1.2) q1.1)) (fun c => tw_k_X6_readType_21 hrc (fun _ => tw_begins c) h)
theorem TWB_X6_readFields_R : ∀ n, TWB_X6_readFields (R_X6_readFields n) := by
  intro n
  induction n with
  | zero => exact ⟨fun _ _ _ _ _ _ _ => pc_none, fun _ _ _ _ _ => pc_none⟩
  | succ n ih => exact ⟨fun _ _ _ _ _ _ h => tw_m_X6_readFields ih h, fun _ _ _ _ h => tw_m_X6_readType ih h⟩
theorem tw_f_X6_readType {x1 : Int32} {s : t_S} (h : TW zS zF s) : t_pq (f_X6_readType x1 s) (fun y => TW zS zF y.2) := pc_mono ((TWB_X6_readFields_R 100).2 _ _ _ _ h) (fun y hy => hy.2)
theorem tw_f_X6_readTypeItem {s : t_S} (h_s : TW zS zF s) : t_pq (f_X6_readTypeItem s) (fun y => TW zS zF y) := by
  unfold f_X6_readTypeItem
  exact pc_bd (tw_f_X2_advance h_s) (fun r1 h_r1 => pc_bd (tw_f_X6_takeName h_r1) (fun r2 h_r2 => pc_if (fun _ => pc_some h_r2) (fun _ => pc_if (fun z1 => tw_st (TW.set h_r2 ⟨by decide, by decide, by decide, by decide, by decide, by decide, fun y => absurd y.1 (by decide), fun y => absurd y.1 (by decide)⟩) (fun s1 h_s1 => tw_st (TW.set h_s1 ⟨by decide, by decide, by decide, by decide, by decide, by decide, fun y => absurd y.2 (by decide), fun y => absurd y.1 (by decide)⟩) (fun s2 h_s2 => pc_bd (tw_f_X2_advance h_s2) (fun r4 h_r4 => pc_bd (tw_f_X2_need h_r4) (fun r5 h_r5 => pc_bd (tw_f_X6_readType h_r5) (fun r6 h_r6 => tw_st (TW.set h_r6 ⟨by decide, by decide, by decide, by decide, by decide, by decide, fun y => absurd y.1 (by decide), fun y => absurd y.1 (by decide)⟩) (fun s3 h_s3 => pc_bd (tw_f_X2_need h_s3) (fun r7 h_r7 => pc_some h_r7)))))))) (fun _ => pc_none))))
def TWB_X6_readBase (zS : Nat → Prop) (zF : Nat → Int32 → Prop) (rc : RT_X6_readBase) : Prop := (∀ (x0 : Int32) (s : t_S), TW zS zF s → t_pq (rc.1 x0 s) (fun y => TW zS zF y)) ∧ (∀ (x0 : Int32) (s : t_S), TW zS zF s → t_pq (rc.2.1 x0 s) (fun y => TW zS zF y)) ∧ (∀ (x0 : Int32) (s : t_S), TW zS zF s → t_pq (rc.2.2.1 x0 s) (fun y => TW zS zF y.2)) ∧ (∀ (x0 : Int32) (s : t_S), TW zS zF s → t_pq (rc.2.2.2.1 x0 s) (fun y => TW zS zF y)) ∧ (∀ (x0 : Int32) (s : t_S), TW zS zF s → t_pq (rc.2.2.2.2.1 x0 s) (fun y => TW zS zF y.2)) ∧ (∀ (x0 : Int32) (x1 : Int32) (x2 : Int32) (x3 : Int32) (s : t_S), TW zS zF s → t_pq (rc.2.2.2.2.2.1 x0 x1 x2 x3 s) (fun y => TW zS zF y)) ∧ (∀ (x0 : Int32) (s : t_S), TW zS zF s → t_pq (rc.2.2.2.2.2.2.1 x0 s) (fun y => TW zS zF y)) ∧ (∀ (x0 : Int32) (s : t_S), TW zS zF s → t_pq (rc.2.2.2.2.2.2.2.1 x0 s) (fun y => TW zS zF y)) ∧ (∀ (x0 : Int32) (x1 : Int32) (s : t_S), TW zS zF s → t_pq (rc.2.2.2.2.2.2.2.2.1 x0 x1 s) (fun y => TW zS zF y.2)) ∧ (∀ (x0 : Int32) (x1 : Int32) (x2 : Int32) (s : t_S), TW zS zF s → t_pq (rc.2.2.2.2.2.2.2.2.2.1 x0 x1 x2 s) (fun y => TW zS zF y)) ∧ (∀ (x0 : Int32) (x1 : Int32) (x2 : Int32) (x3 : Int32) (s : t_S), TW zS zF s → t_pq (rc.2.2.2.2.2.2.2.2.2.2.1 x0 x1 x2 x3 s) (fun y => TW zS zF y)) ∧ (∀ (x0 : Int32) (x1 : Int32) (s : t_S), TW zS zF s → t_pq (rc.2.2.2.2.2.2.2.2.2.2.2.1 x0 x1 s) (fun y => TW zS zF y)) ∧ (∀ (x0 : Int32) (x1 : Int32) (x2 : Int32) (s : t_S), TW zS zF s → t_pq (rc.2.2.2.2.2.2.2.2.2.2.2.2.1 x0 x1 x2 s) (fun y => TW zS zF y)) ∧ (∀ (x0 : Int32) (x1 : Int32) (s : t_S), TW zS zF s → t_pq (rc.2.2.2.2.2.2.2.2.2.2.2.2.2.1 x0 x1 s) (fun y => TW zS zF y.2)) ∧ (∀ (x0 : Int32) (x1 : Int32) (x2 : Int32) (s : t_S), TW zS zF s → t_pq (rc.2.2.2.2.2.2.2.2.2.2.2.2.2.2.1 x0 x1 x2 s) (fun y => TW zS zF y)) ∧ (∀ (x0 : Int32) (x1 : Int32) (x2 : Int32) (s : t_S), TW zS zF s → t_pq (rc.2.2.2.2.2.2.2.2.2.2.2.2.2.2.2 x0 x1 x2 s) (fun y => TW zS zF y))
theorem tw_f_X0_emit {x1 : Int32} {x2 : Int32} {s : t_S} (h_s : TW zS zF s) : t_pq (f_X0_emit x1 x2 s) (fun y => TW zS zF y.2) := by
  unfold f_X0_emit
  exact pc_if (fun _ => pc_if (fun z1 => tw_st (TW.set h_s ⟨by decide, by decide, by decide, by decide, by decide, by decide, fun y => absurd y.1 (by decide), fun y => absurd y.1 (by decide)⟩) (fun s1 h_s1 => pc_if (fun z2 => tw_st (TW.set h_s1 ⟨by decide, by decide, by decide, by decide, by decide, by decide, fun y => absurd y.1 (by decide), fun y => absurd y.1 (by decide)⟩) (fun s2 h_s2 => tw_st (TW.set h_s2 ⟨by decide, by decide, by decide, by decide, by decide, by decide, fun y => absurd y.1 (by decide), fun y => absurd y.1 (by decide)⟩) (fun s3 h_s3 => pc_some h_s3))) (fun _ => pc_none))) (fun _ => pc_none)) (fun _ => pc_some h_s)
theorem tw_k_X6_emitWord_55 {l1 : Int32} {l2 : Int32} {k0 : Int32} {s : t_S} (h_s : TW zS zF s) : t_pq (k_X6_emitWord_55 l1 l2 k0 s) (fun y => TW zS zF y) := by
  unfold k_X6_emitWord_55
  exact pc_if (fun _ => pc_if (fun _ => pc_bd (tw_f_X0_emit h_s) (fun r2 h_r2 => pc_bd (tw_f_X3_add h_r2) (fun r3 h_r3 => pc_some h_r3))) (fun _ => pc_bd (tw_f_X0_emit h_s) (fun r4 h_r4 => pc_some h_r4))) (fun _ => pc_bd (tw_f_X0_emit h_s) (fun r5 h_r5 => pc_some h_r5))
theorem tw_k_X6_emitWord_31 {l1 : Int32} {k0 : Int32} {s : t_S} (h_s : TW zS zF s) : t_pq (k_X6_emitWord_31 l1 k0 s) (fun y => TW zS zF y) := by
  unfold k_X6_emitWord_31
  exact pc_if (fun _ => (tw_k_X6_emitWord_55 h_s)) (fun _ => pc_bd pc_any (fun r1 h_r1 => (tw_k_X6_emitWord_55 h_s)))
theorem tw_f_X6_emitWord {s : t_S} (h_s : TW zS zF s) : t_pq (f_X6_emitWord s) (fun y => TW zS zF y) := by
  unfold f_X6_emitWord
  exact pc_if (fun _ => (tw_k_X6_emitWord_31 h_s)) (fun _ => pc_bd pc_any (fun r2 h_r2 => (tw_k_X6_emitWord_31 h_s)))
theorem tw_k_X6_readBase_326 {rc : RT_X6_readBase} {l1 : Int32} {l2 : Int32} {s : t_S} (hrc : TWB_X6_readBase zS zF rc) (h_s : TW zS zF s) : t_pq (k_X6_readBase_326 rc l1 l2 s) (fun y => TW zS zF y) := by
  unfold k_X6_readBase_326
  exact pc_bd (tw_f_X2_advance h_s) (fun r1 h_r1 => pc_if (fun _ => pc_bd (hrc.2.2.1 _ _ h_r1) (fun r2 h_r2 => pc_bd (tw_f_X2_need h_r2) (fun r3 h_r3 => pc_some h_r3))) (fun _ => pc_if (fun _ => pc_bd (hrc.2.1 _ _ h_r1) (fun r4 h_r4 => pc_some h_r4)) (fun _ => pc_if (fun _ => pc_bd (hrc.2.2.2.1 _ _ h_r1) (fun r5 h_r5 => pc_some h_r5)) (fun _ => pc_if (fun _ => pc_bd (hrc.2.2.2.2.2.2.1 _ _ h_r1) (fun r6 h_r6 => pc_some h_r6)) (fun _ => pc_if (fun _ => pc_bd (tw_f_X2_need h_r1) (fun r7 h_r7 => pc_bd (hrc.2.2.1 _ _ h_r7) (fun r8 h_r8 => pc_bd (tw_f_X2_need h_r8) (fun r9 h_r9 => pc_bd (tw_f_X0_emit h_r9) (fun r10 h_r10 => pc_some h_r10))))) (fun _ => pc_if (fun _ => pc_bd (tw_f_X0_emit h_r1) (fun r11 h_r11 => pc_bd (tw_f_X6_link h_r11) (fun r12 h_r12 => pc_some h_r12))) (fun _ => pc_some h_r1)))))))
theorem tw_f_X0_poolCell {x1 : Int64} {s : t_S} (h_s : TW zS zF s) : t_pq (f_X0_poolCell x1 s) (fun y => TW zS zF y.2) := by
  unfold f_X0_poolCell
  exact pc_if (fun _ => pc_if (fun z1 => tw_st (TW.setJ h_s (by decide)) (fun s1 h_s1 => tw_st (TW.set h_s1 ⟨by decide, by decide, by decide, by decide, by decide, by decide, fun y => absurd y.1 (by decide), fun y => absurd y.1 (by decide)⟩) (fun s2 h_s2 => pc_some h_s2))) (fun _ => pc_none)) (fun _ => pc_some h_s)
theorem tw_f_X0_poolText {x1 : Int32} {s : t_S} (h_s : TW zS zF s) : t_pq (f_X0_poolText x1 s) (fun y => TW zS zF y.2) := by
  unfold f_X0_poolText
  exact pc_if (fun _ => pc_bd pc_any (fun r1 h_r1 => pc_if (fun z1 => tw_st (TW.setJ h_s (by decide)) (fun s1 h_s1 => tw_st (TW.set h_s1 ⟨by decide, by decide, by decide, by decide, by decide, by decide, fun y => absurd y.1 (by decide), fun y => absurd y.1 (by decide)⟩) (fun s2 h_s2 => pc_some h_s2))) (fun _ => pc_none))) (fun _ => pc_some h_s)
theorem tw_k_X8_putSign_24 {l0 : Nat} {l2 : Int32} {l3 : Int32} {l4 : Int32} {s : t_S} (hl_l0 : ARw l0) (h_s : TW zS zF s) : t_pq (k_X8_putSign_24 l0 l2 l3 l4 s) (fun y => TW zS zF y) := by
  unfold k_X8_putSign_24
  exact pc_if (fun _ => pc_if (fun _ => tw_st (TW.setJ h_s (tw_arJ hl_l0)) (fun s1 h_s1 => pc_some h_s1)) (fun _ => pc_none)) (fun _ => pc_none)
theorem tw_f_X8_putSign {x1 : Nat} {x2 : Int32} {x3 : Int32} {x4 : Int32} {s : t_S} (hl_x1 : ARw x1) (h_s : TW zS zF s) : t_pq (f_X8_putSign x1 x2 x3 x4 s) (fun y => TW zS zF y) := by
  unfold f_X8_putSign
  exact pc_if (fun _ => pc_if (fun _ => pc_if (fun _ => tw_st (TW.setJ h_s (tw_arJ hl_x1)) (fun s1 h_s1 => (tw_k_X8_putSign_24 hl_x1 h_s1))) (fun _ => pc_none)) (fun _ => pc_none)) (fun _ => (tw_k_X8_putSign_24 hl_x1 h_s))
theorem tw_k_X6_poolText_18 {l1 : Int32} {l2 : Int32} {s : t_S} (h_s : TW zS zF s) : t_pq (k_X6_poolText_18 l1 l2 s) (fun z => Sum.elim (fun y => TW zS zF y.2.2) (fun y => TW zS zF y.2) z) := by
  unfold k_X6_poolText_18
  exact pc_if (fun _ => pc_mp (pc_some h_s)) (fun _ => pc_bd pc_any (fun r1 h_r1 => pc_bd (tw_f_X8_putSign (show ARw 337 by unfold ARw; decide) h_s) (fun r2 h_r2 => pc_some h_r2)))
theorem tw_b_X6_poolText_18 {x9 : Int32 × Int32 × t_S} (h : TW zS zF x9.2.2) : t_pq (b_X6_poolText_18 x9) (fun z => Sum.elim (fun y => TW zS zF y.2.2) (fun y => TW zS zF y.2) z) := tw_k_X6_poolText_18 h
theorem tw_f_X6_poolText {s : t_S} (h_s : TW zS zF s) : t_pq (f_X6_poolText s) (fun y => TW zS zF y.2) := by
  unfold f_X6_poolText
  exact pc_bd (tw_f_X0_poolText h_s) (fun r1 h_r1 => pc_lp (fun x h => tw_b_X6_poolText_18 h) h_r1)
theorem tw_k_X6_readBase_82 {rc : RT_X6_readBase} {l1 : Int32} {l2 : Int32} {s : t_S} (hrc : TWB_X6_readBase zS zF rc) (h_s : TW zS zF s) : t_pq (k_X6_readBase_82 rc l1 l2 s) (fun y => TW zS zF y) := by
  unfold k_X6_readBase_82
  exact pc_if (fun _ => pc_bd (tw_f_X6_emitWord h_s) (fun r1 h_r1 => (tw_k_X6_readBase_326 hrc h_r1))) (fun _ => pc_if (fun _ => pc_bd (tw_f_X0_poolCell h_s) (fun r3 h_r3 => pc_bd (tw_f_X0_emit h_r3) (fun r4 h_r4 => (tw_k_X6_readBase_326 hrc h_r4)))) (fun _ => pc_if (fun _ => pc_bd (tw_f_X6_poolText h_s) (fun r5 h_r5 => pc_bd (tw_f_X0_emit h_r5) (fun r6 h_r6 => (tw_k_X6_readBase_326 hrc h_r6)))) (fun _ => pc_if (fun _ => pc_bd (tw_f_X0_poolCell h_s) (fun r8 h_r8 => pc_bd (tw_f_X0_emit h_r8) (fun r9 h_r9 => (tw_k_X6_readBase_326 hrc h_r9)))) (fun _ => pc_if (fun _ => pc_bd (tw_f_X0_poolCell h_s) (fun r11 h_r11 => pc_bd (tw_f_X0_emit h_r11) (fun r12 h_r12 => (tw_k_X6_readBase_326 hrc h_r12)))) (fun _ => pc_if (fun _ => pc_bd (tw_f_X0_poolCell h_s) (fun r13 h_r13 => pc_bd (tw_f_X0_emit h_r13) (fun r14 h_r14 => (tw_k_X6_readBase_326 hrc h_r14)))) (fun _ => pc_if (fun _ => pc_bd (tw_f_X0_emit h_s) (fun r15 h_r15 => (tw_k_X6_readBase_326 hrc h_r15))) (fun _ => pc_if (fun _ => pc_bd (tw_f_X0_emit h_s) (fun r16 h_r16 => (tw_k_X6_readBase_326 hrc h_r16))) (fun _ => pc_if (fun _ => pc_bd (tw_f_X0_emit h_s) (fun r17 h_r17 => (tw_k_X6_readBase_326 hrc h_r17))) (fun _ => (tw_k_X6_readBase_326 hrc h_s))))))))))
theorem tw_k_X6_readBase_55 {rc : RT_X6_readBase} {l1 : Int32} {l2 : Int32} {k0 : Int32} {s : t_S} (hrc : TWB_X6_readBase zS zF rc) (h_s : TW zS zF s) : t_pq (k_X6_readBase_55 rc l1 l2 k0 s) (fun y => TW zS zF y) := by
  unfold k_X6_readBase_55
  exact pc_if (fun _ => (tw_k_X6_readBase_82 hrc h_s)) (fun _ => pc_if (fun _ => (tw_k_X6_readBase_82 hrc h_s)) (fun _ => pc_bd (tw_f_X3_late h_s) (fun r1 h_r1 => (tw_k_X6_readBase_82 hrc h_r1))))
theorem tw_k_X6_readBase_50 {rc : RT_X6_readBase} {l1 : Int32} {l2 : Int32} {s : t_S} (hrc : TWB_X6_readBase zS zF rc) (h_s : TW zS zF s) : t_pq (k_X6_readBase_50 rc l1 l2 s) (fun y => TW zS zF y) := by
  unfold k_X6_readBase_50
  exact (tw_k_X6_readBase_55 hrc h_s)
theorem tw_m_X6_readBase {rc : RT_X6_readBase} {x1 : Int32} {s : t_S} (hrc : TWB_X6_readBase zS zF rc) (h_s : TW zS zF s) : t_pq (m_X6_readBase rc x1 s) (fun y => TW zS zF y) := by
  unfold m_X6_readBase
  exact pc_if (fun _ => (tw_k_X6_readBase_50 hrc h_s)) (fun _ => pc_if (fun _ => (tw_k_X6_readBase_50 hrc h_s)) (fun _ => pc_if (fun _ => (tw_k_X6_readBase_50 hrc h_s)) (fun _ => pc_if (fun _ => (tw_k_X6_readBase_50 hrc h_s)) (fun _ => pc_if (fun _ => (tw_k_X6_readBase_50 hrc h_s)) (fun _ => pc_if (fun _ => (tw_k_X6_readBase_50 hrc h_s)) (fun _ => (tw_k_X6_readBase_55 hrc h_s)))))))
theorem tw_k_X6_readElements_23 {rc : RT_X6_readBase} {k0 : Int32} {s : t_S} (hrc : TWB_X6_readBase zS zF rc) (h_s : TW zS zF s) : t_pq (k_X6_readElements_23 rc k0 s) (fun y => TW zS zF y) := by
  unfold k_X6_readElements_23
  exact pc_bd (tw_f_X2_need h_s) (fun r1 h_r1 => pc_bd (tw_f_X0_emit h_r1) (fun r2 h_r2 => pc_some h_r2))
theorem tw_m_X6_readElements {rc : RT_X6_readBase} {x1 : Int32} {s : t_S} (hrc : TWB_X6_readBase zS zF rc) (h_s : TW zS zF s) : t_pq (m_X6_readElements rc x1 s) (fun y => TW zS zF y) := by
  unfold m_X6_readElements
  exact pc_if (fun _ => (tw_k_X6_readElements_23 hrc h_s)) (fun _ => pc_bd (hrc.2.2.2.2.1 _ _ h_s) (fun r1 h_r1 => (tw_k_X6_readElements_23 hrc h_r1)))
theorem tw_k_X6_lower_63 {l1 : Int32} {l2 : Int32} {s : t_S} (h_s : TW zS zF s) : t_pq (k_X6_lower_63 l1 l2 s) (fun z => Sum.elim (fun y => TW zS zF y.2.2) (fun y => TW zS zF y) z) := by
  unfold k_X6_lower_63
  exact pc_bd (tw_f_X0_emit h_s) (fun r1 h_r1 => pc_if (fun z1 => pc_if (fun z2 => tw_st (TW.set h_r1 ⟨by decide, by decide, by decide, by decide, by decide, by decide, fun y => absurd y.1 (by decide), fun y => absurd y.1 (by decide)⟩) (fun s1 h_s1 => pc_some h_s1)) (fun _ => pc_none)) (fun _ => pc_none))
theorem tw_k_X6_lower_29 {l1 : Int32} {l2 : Int32} {s : t_S} (h_s : TW zS zF s) : t_pq (k_X6_lower_29 l1 l2 s) (fun z => Sum.elim (fun y => TW zS zF y.2.2) (fun y => TW zS zF y) z) := by
  unfold k_X6_lower_29
  exact tw_st (TW.set h_s ⟨by decide, by decide, by decide, by decide, by decide, by decide, fun y => absurd y.1 (by decide), fun y => absurd y.1 (by decide)⟩) (fun s1 h_s1 => pc_if (fun z1 => pc_if (fun _ => (tw_k_X6_lower_63 h_s1)) (fun _ => pc_if (fun _ => (tw_k_X6_lower_63 h_s1)) (fun _ => pc_bd (tw_f_X0_emit h_s1) (fun r3 h_r3 => pc_some h_r3)))) (fun _ => pc_none))
theorem tw_k_X6_lower_0 {l1 : Int32} {l2 : Int32} {s : t_S} (h_s : TW zS zF s) : t_pq (k_X6_lower_0 l1 l2 s) (fun z => Sum.elim (fun y => TW zS zF y.2.2) (fun y => TW zS zF y) z) := by
  unfold k_X6_lower_0
  exact pc_if (fun _ => pc_mp (pc_some h_s)) (fun _ => pc_bd pc_any (fun r1 h_r1 => pc_if (fun _ => (tw_k_X6_lower_29 h_s)) (fun _ => pc_bd pc_any (fun r2 h_r2 => pc_if (fun _ => pc_if (fun _ => pc_mp (pc_some h_s)) (fun _ => (tw_k_X6_lower_29 h_s))) (fun _ => pc_mp (pc_some h_s))))))
theorem tw_b_X6_lower_0 {x9 : Int32 × Int32 × t_S} (h : TW zS zF x9.2.2) : t_pq (b_X6_lower_0 x9) (fun z => Sum.elim (fun y => TW zS zF y.2.2) (fun y => TW zS zF y) z) := tw_k_X6_lower_0 h
theorem tw_f_X6_lower {x1 : Int32} {x2 : Int32} {s : t_S} (h_s : TW zS zF s) : t_pq (f_X6_lower x1 x2 s) (fun y => TW zS zF y) := by
  unfold f_X6_lower
  exact pc_lp (fun x h => tw_b_X6_lower_0 h) h_s
theorem tw_k_X6_readExp_175 {rc : RT_X6_readBase} {l1 : Int32} {l2 : Int32} {l3 : Int32} {s : t_S} (hrc : TWB_X6_readBase zS zF rc) (h_s : TW zS zF s) : t_pq (k_X6_readExp_175 rc l1 l2 l3 s) (fun y => TW zS zF y.2) := by
  unfold k_X6_readExp_175
  exact pc_bd (tw_f_X6_lower h_s) (fun r1 h_r1 => pc_if (fun _ => pc_bd (tw_f_X0_emit h_r1) (fun r2 h_r2 => pc_some h_r2)) (fun _ => pc_some h_r1))
theorem tw_f_X6_pushWaiting {x1 : Int32} {x2 : Int32} {s : t_S} (h_s : TW zS zF s) : t_pq (f_X6_pushWaiting x1 x2 s) (fun y => TW zS zF y) := by
  unfold f_X6_pushWaiting
  exact pc_if (fun _ => pc_if (fun z1 => tw_st (TW.set h_s ⟨by decide, by decide, by decide, by decide, by decide, by decide, fun y => absurd y.1 (by decide), fun y => absurd y.1 (by decide)⟩) (fun s1 h_s1 => pc_if (fun z2 => tw_st (TW.set h_s1 ⟨by decide, by decide, by decide, by decide, by decide, by decide, fun y => absurd y.1 (by decide), fun y => absurd y.1 (by decide)⟩) (fun s2 h_s2 => tw_st (TW.set h_s2 ⟨by decide, by decide, by decide, by decide, by decide, by decide, fun y => absurd y.1 (by decide), fun y => absurd y.1 (by decide)⟩) (fun s3 h_s3 => pc_some h_s3))) (fun _ => pc_none))) (fun _ => pc_none)) (fun _ => pc_some h_s)
theorem tw_k_X6_pushOperator_36 {l1 : Int32} {l2 : Int32} {s : t_S} (h_s : TW zS zF s) : t_pq (k_X6_pushOperator_36 l1 l2 s) (fun y => TW zS zF y) := by
  unfold k_X6_pushOperator_36
  exact pc_bd (tw_f_X6_pushWaiting h_s) (fun r1 h_r1 => pc_some h_r1)
theorem tw_k_X6_pushOperator_19 {l1 : Int32} {l2 : Int32} {s : t_S} (h_s : TW zS zF s) : t_pq (k_X6_pushOperator_19 l1 l2 s) (fun y => TW zS zF y) := by
  unfold k_X6_pushOperator_19
  exact pc_if (fun _ => pc_bd (tw_f_X0_emit h_s) (fun r1 h_r1 => (tw_k_X6_pushOperator_36 h_r1))) (fun _ => (tw_k_X6_pushOperator_36 h_s))
theorem tw_f_X6_pushOperator {x1 : Int32} {s : t_S} (h_s : TW zS zF s) : t_pq (f_X6_pushOperator x1 s) (fun y => TW zS zF y) := by
  unfold f_X6_pushOperator
  exact pc_if (fun _ => pc_bd (tw_f_X0_emit h_s) (fun r1 h_r1 => (tw_k_X6_pushOperator_19 h_r1))) (fun _ => (tw_k_X6_pushOperator_19 h_s))
theorem tw_k_X6_readExp_125 {rc : RT_X6_readBase} {l1 : Int32} {l2 : Int32} {l3 : Int32} {l4 : Int32} {s : t_S} (hrc : TWB_X6_readBase zS zF rc) (h_s : TW zS zF s) : t_pq (k_X6_readExp_125 rc l1 l2 l3 l4 s) (fun z => Sum.elim (fun y => TW zS zF y.2.2.2.2) (fun y => TW zS zF y.2) z) := by
  unfold k_X6_readExp_125
  exact pc_bd (tw_f_X6_node h_s) (fun r1 h_r1 => pc_if (fun _ => pc_bd (tw_f_X6_pushOperator h_r1) (fun r2 h_r2 => pc_bd (tw_f_X2_advance h_r2) (fun r3 h_r3 => pc_bd (hrc.2.2.2.2.2.2.2.1 _ _ h_r3) (fun r4 h_r4 => pc_some h_r4)))) (fun _ => pc_mp ((tw_k_X6_readExp_175 hrc h_r1))))
theorem tw_k_X6_readExp_60 {rc : RT_X6_readBase} {l1 : Int32} {l2 : Int32} {l3 : Int32} {l4 : Int32} {s : t_S} (hrc : TWB_X6_readBase zS zF rc) (h_s : TW zS zF s) : t_pq (k_X6_readExp_60 rc l1 l2 l3 l4 s) (fun z => Sum.elim (fun y => TW zS zF y.2.2.2.2) (fun y => TW zS zF y.2) z) := by
  unfold k_X6_readExp_60
  exact pc_if (fun _ => pc_mp ((tw_k_X6_readExp_175 hrc h_s))) (fun _ => pc_if (fun _ => pc_mp ((tw_k_X6_readExp_175 hrc h_s))) (fun _ => pc_bd (tw_f_X6_lower h_s) (fun r2 h_r2 => pc_if (fun _ => pc_if (fun _ => (tw_k_X6_readExp_125 hrc h_r2)) (fun _ => pc_bd pc_any (fun r3 h_r3 => pc_if (fun _ => pc_bd (tw_f_X2_fail h_r2) (fun r4 h_r4 => (tw_k_X6_readExp_125 hrc h_r4))) (fun _ => (tw_k_X6_readExp_125 hrc h_r2))))) (fun _ => (tw_k_X6_readExp_125 hrc h_r2)))))
theorem tw_b_X6_readExp_60 {rc : RT_X6_readBase} {x9 : Int32 × Int32 × Int32 × Int32 × t_S} (hrc : TWB_X6_readBase zS zF rc) (h : TW zS zF x9.2.2.2.2) : t_pq (b_X6_readExp_60 rc x9) (fun z => Sum.elim (fun y => TW zS zF y.2.2.2.2) (fun y => TW zS zF y.2) z) := tw_k_X6_readExp_60 hrc h
theorem tw_k_X6_readExp_43 {rc : RT_X6_readBase} {l1 : Int32} {l2 : Int32} {s : t_S} (hrc : TWB_X6_readBase zS zF rc) (h_s : TW zS zF s) : t_pq (k_X6_readExp_43 rc l1 l2 s) (fun y => TW zS zF y.2) := by
  unfold k_X6_readExp_43
  exact pc_bd (hrc.2.2.2.2.2.2.2.1 _ _ h_s) (fun r1 h_r1 => pc_lp (fun x h => tw_b_X6_readExp_60 hrc h) h_r1)
theorem tw_k_X6_readExp_29 {rc : RT_X6_readBase} {l1 : Int32} {l2 : Int32} {s : t_S} (hrc : TWB_X6_readBase zS zF rc) (h_s : TW zS zF s) : t_pq (k_X6_readExp_29 rc l1 l2 s) (fun y => TW zS zF y.2) := by
  unfold k_X6_readExp_29
  exact pc_if (fun _ => (tw_k_X6_readExp_43 hrc h_s)) (fun _ => pc_bd (tw_f_X2_fail h_s) (fun r1 h_r1 => (tw_k_X6_readExp_43 hrc h_r1)))
theorem tw_m_X6_readExp {rc : RT_X6_readBase} {x1 : Int32} {s : t_S} (hrc : TWB_X6_readBase zS zF rc) (h_s : TW zS zF s) : t_pq (m_X6_readExp rc x1 s) (fun y => TW zS zF y.2) := by
  unfold m_X6_readExp
  exact pc_if (fun _ => pc_bd (tw_f_X2_fail h_s) (fun r2 h_r2 => (tw_k_X6_readExp_29 hrc h_r2))) (fun _ => (tw_k_X6_readExp_29 hrc h_s))
theorem tw_k_X6_readExpFields_190 {rc : RT_X6_readBase} {l2 : Int32} {l3 : Int32} {s : t_S} (hrc : TWB_X6_readBase zS zF rc) (h_s : TW zS zF s) : t_pq (k_X6_readExpFields_190 rc l2 l3 s) (fun z => Sum.elim (fun y => TW zS zF y.2.2) (fun y => TW zS zF y) z) := by
  unfold k_X6_readExpFields_190
  exact pc_if (fun _ => pc_mp (tw_st (TW.set h_s ⟨by decide, by decide, by decide, by decide, by decide, by decide, fun y => absurd y.1 (by decide), fun y => absurd y.1 (by decide)⟩) (fun s1 h_s1 => pc_some h_s1))) (fun _ => pc_if (fun z1 => pc_bd (tw_f_X0_emit h_s) (fun r2 h_r2 => pc_some h_r2)) (fun _ => pc_none))
theorem tw_b_X6_readExpFields_190 {rc : RT_X6_readBase} {x9 : Int32 × Int32 × t_S} (hrc : TWB_X6_readBase zS zF rc) (h : TW zS zF x9.2.2) : t_pq (b_X6_readExpFields_190 rc x9) (fun z => Sum.elim (fun y => TW zS zF y.2.2) (fun y => TW zS zF y) z) := tw_k_X6_readExpFields_190 hrc h
theorem tw_k_X6_readExpFields_163 {rc : RT_X6_readBase} {l2 : Int32} {s : t_S} (hrc : TWB_X6_readBase zS zF rc) (h_s : TW zS zF s) : t_pq (k_X6_readExpFields_163 rc l2 s) (fun y => TW zS zF y) := by
  unfold k_X6_readExpFields_163
  exact pc_bd (tw_f_X2_need h_s) (fun r1 h_r1 => pc_bd (tw_f_X0_emit h_r1) (fun r2 h_r2 => pc_lp (fun x h => tw_b_X6_readExpFields_190 hrc h) h_r2))
theorem tw_k_X6_takeFieldName_62 {l1 : Int32} {s : t_S} (h_s : TW zS zF s) : t_pq (k_X6_takeFieldName_62 l1 s) (fun y => TW zS zF y.2) := by
  unfold k_X6_takeFieldName_62
  exact pc_bd (tw_f_X2_advance h_s) (fun r1 h_r1 => pc_some h_r1)
theorem tw_k_X6_takeFieldName_19 {s : t_S} (h_s : TW zS zF s) : t_pq (k_X6_takeFieldName_19 s) (fun y => TW zS zF y.2) := by
  unfold k_X6_takeFieldName_19
  exact pc_if (fun _ => pc_if (fun _ => (tw_k_X6_takeFieldName_62 h_s)) (fun _ => pc_bd (tw_f_X3_late h_s) (fun r2 h_r2 => (tw_k_X6_takeFieldName_62 h_r2)))) (fun _ => pc_some h_s)
theorem tw_f_X6_takeFieldName {s : t_S} (h_s : TW zS zF s) : t_pq (f_X6_takeFieldName s) (fun y => TW zS zF y.2) := by
  unfold f_X6_takeFieldName
  exact pc_if (fun _ => (tw_k_X6_takeFieldName_19 h_s)) (fun _ => pc_bd (tw_f_X2_fail h_s) (fun r1 h_r1 => (tw_k_X6_takeFieldName_19 h_r1)))
theorem tw_k_X6_readExpFields_87 {rc : RT_X6_readBase} {l1 : Int32} {l2 : Int32} {l3 : Int32} {s : t_S} (hrc : TWB_X6_readBase zS zF rc) (h_s : TW zS zF s) : t_pq (k_X6_readExpFields_87 rc l1 l2 l3 s) (fun z => Sum.elim (fun y => TW zS zF y.2.2.2) (fun y => TW zS zF y) z) := by
  unfold k_X6_readExpFields_87
  exact pc_bd (tw_f_X6_node h_s) (fun r1 h_r1 => pc_if (fun _ => pc_bd (tw_f_X6_takeFieldName h_r1) (fun r2 h_r2 => pc_if (fun z1 => tw_st (TW.set h_r2 ⟨by decide, by decide, by decide, by decide, by decide, by decide, fun y => absurd y.1 (by decide), fun y => absurd y.1 (by decide)⟩) (fun s1 h_s1 => tw_st (TW.set h_s1 ⟨by decide, by decide, by decide, by decide, by decide, by decide, fun y => absurd y.1 (by decide), fun y => absurd y.1 (by decide)⟩) (fun s2 h_s2 => pc_bd (tw_f_X2_need h_s2) (fun r4 h_r4 => pc_bd (hrc.2.2.1 _ _ h_r4) (fun r5 h_r5 => pc_bd (tw_f_X2_take h_r5) (fun r6 h_r6 => pc_if (fun _ => pc_mp ((tw_k_X6_readExpFields_163 hrc h_r6))) (fun _ => pc_some h_r6))))))) (fun _ => pc_none))) (fun _ => pc_mp (pc_some h_r1)))
theorem tw_k_X6_readExpFields_19 {rc : RT_X6_readBase} {l1 : Int32} {l2 : Int32} {l3 : Int32} {s : t_S} (hrc : TWB_X6_readBase zS zF rc) (h_s : TW zS zF s) : t_pq (k_X6_readExpFields_19 rc l1 l2 l3 s) (fun z => Sum.elim (fun y => TW zS zF y.2.2.2) (fun y => TW zS zF y) z) := by
  unfold k_X6_readExpFields_19
  exact pc_if (fun _ => pc_mp ((tw_k_X6_readExpFields_163 hrc h_s))) (fun _ => pc_if (fun _ => pc_bd pc_any (fun r2 h_r2 => pc_if (fun _ => pc_if (fun _ => pc_bd (tw_f_X2_fail h_s) (fun r3 h_r3 => (tw_k_X6_readExpFields_87 hrc h_r3))) (fun _ => (tw_k_X6_readExpFields_87 hrc h_s))) (fun _ => pc_bd (tw_f_X2_fail h_s) (fun r4 h_r4 => (tw_k_X6_readExpFields_87 hrc h_r4))))) (fun _ => pc_bd (tw_f_X2_fail h_s) (fun r5 h_r5 => (tw_k_X6_readExpFields_87 hrc h_r5))))
theorem tw_b_X6_readExpFields_19 {rc : RT_X6_readBase} {x9 : Int32 × Int32 × Int32 × t_S} (hrc : TWB_X6_readBase zS zF rc) (h : TW zS zF x9.2.2.2) : t_pq (b_X6_readExpFields_19 rc x9) (fun z => Sum.elim (fun y => TW zS zF y.2.2.2) (fun y => TW zS zF y) z) := tw_k_X6_readExpFields_19 hrc h
theorem tw_m_X6_readExpFields {rc : RT_X6_readBase} {x1 : Int32} {s : t_S} (hrc : TWB_X6_readBase zS zF rc) (h_s : TW zS zF s) : t_pq (m_X6_readExpFields rc x1 s) (fun y => TW zS zF y) := by
  unfold m_X6_readExpFields
  exact pc_if (fun _ => (tw_k_X6_readExpFields_163 hrc h_s)) (fun _ => pc_lp (fun x h => tw_b_X6_readExpFields_19 hrc h) h_s)
theorem tw_k_X6_readExps_45 {rc : RT_X6_readBase} {l1 : Int32} {l2 : Int32} {s : t_S} (hrc : TWB_X6_readBase zS zF rc) (h_s : TW zS zF s) : t_pq (k_X6_readExps_45 rc l1 l2 s) (fun z => Sum.elim (fun y => TW zS zF y.2.2) (fun y => TW zS zF y.2) z) := by
  unfold k_X6_readExps_45
  exact pc_bd (hrc.2.2.1 _ _ h_s) (fun r1 h_r1 => pc_bd (tw_f_X2_take h_r1) (fun r2 h_r2 => pc_if (fun _ => pc_mp (pc_some h_r2)) (fun _ => pc_some h_r2)))
theorem tw_k_X6_readExps_2 {rc : RT_X6_readBase} {l1 : Int32} {l2 : Int32} {s : t_S} (hrc : TWB_X6_readBase zS zF rc) (h_s : TW zS zF s) : t_pq (k_X6_readExps_2 rc l1 l2 s) (fun z => Sum.elim (fun y => TW zS zF y.2.2) (fun y => TW zS zF y.2) z) := by
  unfold k_X6_readExps_2
  exact pc_if (fun _ => pc_mp (pc_some h_s)) (fun _ => pc_if (fun _ => pc_if (fun _ => pc_if (fun _ => (tw_k_X6_readExps_45 hrc h_s)) (fun _ => pc_bd (tw_f_X2_fail h_s) (fun r2 h_r2 => (tw_k_X6_readExps_45 hrc h_r2)))) (fun _ => (tw_k_X6_readExps_45 hrc h_s))) (fun _ => pc_mp (pc_some h_s)))
theorem tw_b_X6_readExps_2 {rc : RT_X6_readBase} {x9 : Int32 × Int32 × t_S} (hrc : TWB_X6_readBase zS zF rc) (h : TW zS zF x9.2.2) : t_pq (b_X6_readExps_2 rc x9) (fun z => Sum.elim (fun y => TW zS zF y.2.2) (fun y => TW zS zF y.2) z) := tw_k_X6_readExps_2 hrc h
theorem tw_m_X6_readExps {rc : RT_X6_readBase} {x1 : Int32} {s : t_S} (hrc : TWB_X6_readBase zS zF rc) (h_s : TW zS zF s) : t_pq (m_X6_readExps rc x1 s) (fun y => TW zS zF y.2) := by
  unfold m_X6_readExps
  exact pc_lp (fun x h => tw_b_X6_readExps_2 hrc h) h_s
theorem tw_k_X6_readInner_131 {rc : RT_X6_readBase} {s : t_S} (hrc : TWB_X6_readBase zS zF rc) (h_s : TW zS zF s) : t_pq (k_X6_readInner_131 rc s) (fun y => TW zS zF y) := by
  unfold k_X6_readInner_131
  exact pc_bd (tw_f_X2_need h_s) (fun r1 h_r1 => pc_some h_r1)
theorem tw_k_X6_readInner_106 {rc : RT_X6_readBase} {l1 : Int32} {l3 : Int32} {l4 : Int32} {l6 : Int32} {l7 : Int32} {s : t_S} (hrc : TWB_X6_readBase zS zF rc) (h_s : TW zS zF s) : t_pq (k_X6_readInner_106 rc l1 l3 l4 l6 l7 s) (fun z => Sum.elim (fun y => TW zS zF y.2.2.2.2.2) (fun y => TW zS zF y) z) := by
  unfold k_X6_readInner_106
  exact pc_bd (tw_f_X2_take h_s) (fun r1 h_r1 => pc_if (fun _ => pc_mp ((tw_k_X6_readInner_131 hrc h_r1))) (fun _ => pc_some h_r1))
theorem tw_k_X6_readInner_51 {rc : RT_X6_readBase} {l1 : Int32} {l3 : Int32} {l4 : Int32} {l5 : Int32} {l6 : Int32} {s : t_S} (hrc : TWB_X6_readBase zS zF rc) (h_s : TW zS zF s) : t_pq (k_X6_readInner_51 rc l1 l3 l4 l5 l6 s) (fun z => Sum.elim (fun y => TW zS zF y.2.2.2.2.2) (fun y => TW zS zF y) z) := by
  unfold k_X6_readInner_51
  exact pc_bd (hrc.2.2.2.2.2.2.2.2.2.2.2.2.2.1 _ _ _ h_s) (fun r1 h_r1 => pc_if (fun _ => pc_if (fun _ => pc_if (fun z1 => tw_st (TW.set h_r1 ⟨by decide, by decide, by decide, by decide, by decide, by decide, fun y => absurd y.1 (by decide), fun y => absurd y.1 (by decide)⟩) (fun s2 h_s2 => (tw_k_X6_readInner_106 hrc h_s2))) (fun _ => pc_none)) (fun _ => pc_if (fun z2 => tw_st (TW.set h_r1 ⟨by decide, by decide, by decide, by decide, by decide, by decide, fun y => absurd y.1 (by decide), fun y => absurd y.1 (by decide)⟩) (fun s1 h_s1 => (tw_k_X6_readInner_106 hrc h_s1))) (fun _ => pc_none))) (fun _ => pc_mp (pc_some h_r1)))
theorem tw_k_X6_readInner_16 {rc : RT_X6_readBase} {l1 : Int32} {l3 : Int32} {l4 : Int32} {l5 : Int32} {l6 : Int32} {s : t_S} (hrc : TWB_X6_readBase zS zF rc) (h_s : TW zS zF s) : t_pq (k_X6_readInner_16 rc l1 l3 l4 l5 l6 s) (fun z => Sum.elim (fun y => TW zS zF y.2.2.2.2.2) (fun y => TW zS zF y) z) := by
  unfold k_X6_readInner_16
  exact pc_if (fun _ => pc_mp ((tw_k_X6_readInner_131 hrc h_s))) (fun _ => pc_if (fun _ => pc_if (fun _ => (tw_k_X6_readInner_51 hrc h_s)) (fun _ => pc_bd (tw_f_X2_fail h_s) (fun r2 h_r2 => (tw_k_X6_readInner_51 hrc h_r2)))) (fun _ => (tw_k_X6_readInner_51 hrc h_s)))
theorem tw_b_X6_readInner_16 {rc : RT_X6_readBase} {x9 : Int32 × Int32 × Int32 × Int32 × Int32 × t_S} (hrc : TWB_X6_readBase zS zF rc) (h : TW zS zF x9.2.2.2.2.2) : t_pq (b_X6_readInner_16 rc x9) (fun z => Sum.elim (fun y => TW zS zF y.2.2.2.2.2) (fun y => TW zS zF y) z) := tw_k_X6_readInner_16 hrc h
theorem tw_m_X6_readInner {rc : RT_X6_readBase} {x1 : Int32} {x2 : Int32} {x3 : Int32} {x4 : Int32} {s : t_S} (hrc : TWB_X6_readBase zS zF rc) (h_s : TW zS zF s) : t_pq (m_X6_readInner rc x1 x2 x3 x4 s) (fun y => TW zS zF y) := by
  unfold m_X6_readInner
  exact pc_if (fun z1 => tw_st (TW.set h_s ⟨by decide, by decide, by decide, by decide, by decide, by decide, fun y => absurd y.1 (by decide), fun y => absurd y.1 (by decide)⟩) (fun s1 h_s1 => pc_lp (fun x h => tw_b_X6_readInner_16 hrc h) h_s1)) (fun _ => pc_none)
theorem tw_m_X6_readMet {rc : RT_X6_readBase} {x1 : Int32} {s : t_S} (hrc : TWB_X6_readBase zS zF rc) (h_s : TW zS zF s) : t_pq (m_X6_readMet rc x1 s) (fun y => TW zS zF y) := by
  unfold m_X6_readMet
  exact pc_bd (tw_f_X2_need h_s) (fun r1 h_r1 => pc_bd (hrc.2.2.1 _ _ h_r1) (fun r2 h_r2 => pc_bd (tw_f_X2_need h_r2) (fun r3 h_r3 => pc_bd (hrc.2.2.2.2.2.2.2.2.2.2.2.2.2.1 _ _ _ h_r3) (fun r4 h_r4 => pc_bd (tw_f_X0_emit h_r4) (fun r5 h_r5 => pc_bd (tw_f_X2_need h_r5) (fun r6 h_r6 => pc_some h_r6))))))
theorem tw_k_X6_readOne_313 {rc : RT_X6_readBase} {l2 : Int32} {s : t_S} (hrc : TWB_X6_readBase zS zF rc) (h_s : TW zS zF s) : t_pq (k_X6_readOne_313 rc l2 s) (fun z => Sum.elim (fun y => TW zS zF y.2) (fun y => TW zS zF y) z) := by
  unfold k_X6_readOne_313
  exact pc_if (fun _ => pc_mp (pc_some h_s)) (fun _ => tw_st (TW.set h_s ⟨by decide, by decide, by decide, by decide, by decide, by decide, fun y => absurd y.1 (by decide), fun y => absurd y.1 (by decide)⟩) (fun s1 h_s1 => pc_if (fun z1 => pc_if (fun z2 => pc_bd (tw_f_X0_emit h_s1) (fun r3 h_r3 => pc_some h_r3)) (fun _ => pc_none)) (fun _ => pc_none)))
theorem tw_b_X6_readOne_313 {rc : RT_X6_readBase} {x9 : Int32 × t_S} (hrc : TWB_X6_readBase zS zF rc) (h : TW zS zF x9.2) : t_pq (b_X6_readOne_313 rc x9) (fun z => Sum.elim (fun y => TW zS zF y.2) (fun y => TW zS zF y) z) := tw_k_X6_readOne_313 hrc h
theorem tw_k_X6_readOne_307 {rc : RT_X6_readBase} {l1 : Int32} {l2 : Int32} {l3 : Int32} {s : t_S} (hrc : TWB_X6_readBase zS zF rc) (h_s : TW zS zF s) : t_pq (k_X6_readOne_307 rc l1 l2 l3 s) (fun z => Sum.elim (fun y => TW zS zF y.2.2.2) (fun y => TW zS zF y) z) := by
  unfold k_X6_readOne_307
  exact pc_some h_s
theorem tw_k_X6_readOne_230 {rc : RT_X6_readBase} {l1 : Int32} {l2 : Int32} {l3 : Int32} {s : t_S} (hrc : TWB_X6_readBase zS zF rc) (h_s : TW zS zF s) : t_pq (k_X6_readOne_230 rc l1 l2 l3 s) (fun z => Sum.elim (fun y => TW zS zF y.2.2.2) (fun y => TW zS zF y) z) := by
  unfold k_X6_readOne_230
  exact pc_bd (tw_f_X6_node h_s) (fun r1 h_r1 => pc_bd (tw_f_X2_take h_r1) (fun r2 h_r2 => pc_if (fun _ => pc_bd (tw_f_X2_take h_r2) (fun r3 h_r3 => pc_if (fun _ => (tw_k_X6_readOne_307 hrc h_r3)) (fun _ => pc_bd (hrc.2.2.1 _ _ h_r3) (fun r4 h_r4 => pc_bd (tw_f_X2_need h_r4) (fun r5 h_r5 => pc_bd (tw_f_X0_emit h_r5) (fun r6 h_r6 => (tw_k_X6_readOne_307 hrc h_r6))))))) (fun _ => pc_bd (tw_f_X6_takeFieldName h_r2) (fun r7 h_r7 => pc_bd (tw_f_X0_emit h_r7) (fun r8 h_r8 => (tw_k_X6_readOne_307 hrc h_r8))))))
theorem tw_k_X6_readOne_186 {rc : RT_X6_readBase} {l1 : Int32} {l2 : Int32} {l3 : Int32} {s : t_S} (hrc : TWB_X6_readBase zS zF rc) (h_s : TW zS zF s) : t_pq (k_X6_readOne_186 rc l1 l2 l3 s) (fun z => Sum.elim (fun y => TW zS zF y.2.2.2) (fun y => TW zS zF y) z) := by
  unfold k_X6_readOne_186
  exact pc_if (fun _ => pc_mp (pc_lp (fun x h => tw_b_X6_readOne_313 hrc h) h_s)) (fun _ => pc_if (fun _ => pc_if (fun _ => (tw_k_X6_readOne_230 hrc h_s)) (fun _ => pc_if (fun _ => (tw_k_X6_readOne_230 hrc h_s)) (fun _ => pc_mp (pc_lp (fun x h => tw_b_X6_readOne_313 hrc h) h_s)))) (fun _ => pc_mp (pc_lp (fun x h => tw_b_X6_readOne_313 hrc h) h_s)))
theorem tw_b_X6_readOne_186 {rc : RT_X6_readBase} {x9 : Int32 × Int32 × Int32 × t_S} (hrc : TWB_X6_readBase zS zF rc) (h : TW zS zF x9.2.2.2) : t_pq (b_X6_readOne_186 rc x9) (fun z => Sum.elim (fun y => TW zS zF y.2.2.2) (fun y => TW zS zF y) z) := tw_k_X6_readOne_186 hrc h
theorem tw_k_X6_readOne_184 {rc : RT_X6_readBase} {l1 : Int32} {l2 : Int32} {s : t_S} (hrc : TWB_X6_readBase zS zF rc) (h_s : TW zS zF s) : t_pq (k_X6_readOne_184 rc l1 l2 s) (fun y => TW zS zF y) := by
  unfold k_X6_readOne_184
  exact pc_lp (fun x h => tw_b_X6_readOne_186 hrc h) h_s
theorem tw_k_X6_readOne_165 {rc : RT_X6_readBase} {l1 : Int32} {l2 : Int32} {s : t_S} (hrc : TWB_X6_readBase zS zF rc) (h_s : TW zS zF s) : t_pq (k_X6_readOne_165 rc l1 l2 s) (fun y => TW zS zF y) := by
  unfold k_X6_readOne_165
  exact pc_bd (tw_f_X6_node h_s) (fun r1 h_r1 => pc_if (fun _ => pc_bd (hrc.1 _ _ h_r1) (fun r2 h_r2 => (tw_k_X6_readOne_184 hrc h_r2))) (fun _ => (tw_k_X6_readOne_184 hrc h_r1)))
theorem tw_k_X6_readOne_144 {rc : RT_X6_readBase} {l1 : Int32} {l2 : Int32} {s : t_S} (hrc : TWB_X6_readBase zS zF rc) (h_s : TW zS zF s) : t_pq (k_X6_readOne_144 rc l1 l2 s) (fun y => TW zS zF y) := by
  unfold k_X6_readOne_144
  exact pc_if (fun _ => pc_bd (tw_f_X2_fail h_s) (fun r2 h_r2 => (tw_k_X6_readOne_165 hrc h_r2))) (fun _ => (tw_k_X6_readOne_165 hrc h_s))
theorem tw_k_X6_readOne_138 {rc : RT_X6_readBase} {l1 : Int32} {l2 : Int32} {l3 : Int32} {s : t_S} (hrc : TWB_X6_readBase zS zF rc) (h_s : TW zS zF s) : t_pq (k_X6_readOne_138 rc l1 l2 l3 s) (fun z => Sum.elim (fun y => TW zS zF y.2.2.2) (fun y => TW zS zF y) z) := by
  unfold k_X6_readOne_138
  exact pc_some h_s
theorem tw_k_X6_readOne_65 {rc : RT_X6_readBase} {l1 : Int32} {l2 : Int32} {l3 : Int32} {l4 : Int32} {s : t_S} (hrc : TWB_X6_readBase zS zF rc) (h_s : TW zS zF s) : t_pq (k_X6_readOne_65 rc l1 l2 l3 l4 s) (fun z => Sum.elim (fun y => TW zS zF y.2.2.2) (fun y => TW zS zF y) z) := by
  unfold k_X6_readOne_65
  exact pc_bd (tw_f_X6_node h_s) (fun r1 h_r1 => pc_bd (tw_f_X2_advance h_r1) (fun r2 h_r2 => pc_if (fun _ => pc_bd (tw_f_X6_pushWaiting h_r2) (fun r7 h_r7 => (tw_k_X6_readOne_138 hrc h_r7))) (fun _ => pc_if (fun _ => pc_bd (tw_f_X6_pushWaiting h_r2) (fun r6 h_r6 => (tw_k_X6_readOne_138 hrc h_r6))) (fun _ => pc_if (fun _ => pc_bd (tw_f_X6_pushWaiting h_r2) (fun r5 h_r5 => (tw_k_X6_readOne_138 hrc h_r5))) (fun _ => pc_bd (tw_f_X6_takeFieldName h_r2) (fun r3 h_r3 => pc_bd (tw_f_X6_pushWaiting h_r3) (fun r4 h_r4 => (tw_k_X6_readOne_138 hrc h_r4))))))))
theorem tw_k_X6_readOne_7 {rc : RT_X6_readBase} {l1 : Int32} {l2 : Int32} {l3 : Int32} {s : t_S} (hrc : TWB_X6_readBase zS zF rc) (h_s : TW zS zF s) : t_pq (k_X6_readOne_7 rc l1 l2 l3 s) (fun z => Sum.elim (fun y => TW zS zF y.2.2.2) (fun y => TW zS zF y) z) := by
  unfold k_X6_readOne_7
  exact pc_if (fun _ => pc_mp ((tw_k_X6_readOne_144 hrc h_s))) (fun _ => pc_if (fun _ => pc_if (fun _ => (tw_k_X6_readOne_65 hrc h_s)) (fun _ => pc_if (fun _ => (tw_k_X6_readOne_65 hrc h_s)) (fun _ => pc_if (fun _ => (tw_k_X6_readOne_65 hrc h_s)) (fun _ => pc_if (fun _ => (tw_k_X6_readOne_65 hrc h_s)) (fun _ => pc_mp ((tw_k_X6_readOne_144 hrc h_s))))))) (fun _ => pc_mp ((tw_k_X6_readOne_144 hrc h_s))))
theorem tw_b_X6_readOne_7 {rc : RT_X6_readBase} {x9 : Int32 × Int32 × Int32 × t_S} (hrc : TWB_X6_readBase zS zF rc) (h : TW zS zF x9.2.2.2) : t_pq (b_X6_readOne_7 rc x9) (fun z => Sum.elim (fun y => TW zS zF y.2.2.2) (fun y => TW zS zF y) z) := tw_k_X6_readOne_7 hrc h
theorem tw_m_X6_readOne {rc : RT_X6_readBase} {x1 : Int32} {s : t_S} (hrc : TWB_X6_readBase zS zF rc) (h_s : TW zS zF s) : t_pq (m_X6_readOne rc x1 s) (fun y => TW zS zF y) := by
  unfold m_X6_readOne
  exact pc_lp (fun x h => tw_b_X6_readOne_7 hrc h) h_s
theorem tw_f_X10_add {x1 : Int32} {s : t_S} (h_s : TW zS zF s) : t_pq (f_X10_add x1 s) (fun y => TW zS zF y.2) := by
  unfold f_X10_add
  exact pc_if (fun _ => tw_st (TW.set h_s ⟨by decide, by decide, by decide, by decide, by decide, by decide, fun y => absurd y.1 (by decide), fun y => absurd y.1 (by decide)⟩) (fun s1 h_s1 => pc_if (fun z1 => tw_st (TW.set h_s1 ⟨by decide, by decide, by decide, by decide, by decide, by decide, fun y => absurd y.1 (by decide), fun y => absurd y.1 (by decide)⟩) (fun s2 h_s2 => tw_st (TW.set h_s2 ⟨by decide, by decide, by decide, by decide, by decide, by decide, fun y => absurd y.1 (by decide), fun y => absurd y.1 (by decide)⟩) (fun s3 h_s3 => tw_st (TW.set h_s3 ⟨by decide, by decide, by decide, by decide, by decide, by decide, fun y => absurd y.1 (by decide), fun y => absurd y.1 (by decide)⟩) (fun s4 h_s4 => tw_st (TW.set h_s4 ⟨by decide, by decide, by decide, by decide, by decide, by decide, fun y => absurd y.1 (by decide), fun y => absurd y.1 (by decide)⟩) (fun s5 h_s5 => tw_st (TW.set h_s5 ⟨by decide, by decide, by decide, by decide, by decide, by decide, fun y => absurd y.1 (by decide), fun y => absurd y.1 (by decide)⟩) (fun s6 h_s6 => tw_st (TW.set h_s6 ⟨by decide, by decide, by decide, by decide, by decide, by decide, fun y => absurd y.1 (by decide), fun y => absurd y.1 (by decide)⟩) (fun s7 h_s7 => tw_st (TW.set h_s7 ⟨by decide, by decide, by decide, by decide, by decide, by decide, fun y => absurd y.1 (by decide), fun y => absurd y.1 (by decide)⟩) (fun s8 h_s8 => tw_st (TW.setJ h_s8 (by decide)) (fun s9 h_s9 => tw_st (TW.setJ h_s9 (by decide)) (fun s10 h_s10 => pc_some h_s10)))))))))) (fun _ => pc_none))) (fun _ => pc_some h_s)
theorem tw_m_X6_readPerm {rc : RT_X6_readBase} {x1 : Int32} {x2 : Int32} {s : t_S} (hrc : TWB_X6_readBase zS zF rc) (h_s : TW zS zF s) : t_pq (m_X6_readPerm rc x1 x2 s) (fun y => TW zS zF y.2) := by
  unfold m_X6_readPerm
  exact pc_bd (tw_f_X6_node h_s) (fun r1 h_r1 => pc_if (fun _ => pc_bd (tw_f_X10_add h_r1) (fun r2 h_r2 => pc_bd (tw_f_X2_advance h_r2) (fun r3 h_r3 => pc_bd (hrc.2.2.2.2.2.2.2.2.2.2.1 _ _ _ _ _ h_r3) (fun r4 h_r4 => pc_some h_r4)))) (fun _ => pc_some h_r1))
theorem tw_k_X6_readPieces_185 {rc : RT_X6_readBase} {s : t_S} (hrc : TWB_X6_readBase zS zF rc) (h_s : TW zS zF s) : t_pq (k_X6_readPieces_185 rc s) (fun y => TW zS zF y) := by
  unfold k_X6_readPieces_185
  exact pc_bd (tw_f_X2_need h_s) (fun r1 h_r1 => pc_some h_r1)
theorem tw_k_X6_readPieces_160 {rc : RT_X6_readBase} {l1 : Int32} {l2 : Int32} {l3 : Int32} {l5 : Int32} {l7 : Int32} {s : t_S} (hrc : TWB_X6_readBase zS zF rc) (h_s : TW zS zF s) : t_pq (k_X6_readPieces_160 rc l1 l2 l3 l5 l7 s) (fun z => Sum.elim (fun y => TW zS zF y.2.2.2.2.2) (fun y => TW zS zF y) z) := by
  unfold k_X6_readPieces_160
  exact pc_bd (tw_f_X2_take h_s) (fun r1 h_r1 => pc_if (fun _ => pc_mp ((tw_k_X6_readPieces_185 hrc h_r1))) (fun _ => pc_some h_r1))
theorem tw_k_X6_readPieces_116 {rc : RT_X6_readBase} {l1 : Int32} {l2 : Int32} {l3 : Int32} {l4 : Int32} {l5 : Int32} {k0 : Int32} {s : t_S} (hrc : TWB_X6_readBase zS zF rc) (h_s : TW zS zF s) : t_pq (k_X6_readPieces_116 rc l1 l2 l3 l4 l5 k0 s) (fun z => Sum.elim (fun y => TW zS zF y.2.2.2.2.2) (fun y => TW zS zF y) z) := by
  unfold k_X6_readPieces_116
  exact pc_if (fun _ => pc_if (fun _ => pc_if (fun z1 => tw_st (TW.set h_s ⟨by decide, by decide, by decide, by decide, by decide, by decide, fun y => absurd y.1 (by decide), fun y => absurd y.1 (by decide)⟩) (fun s2 h_s2 => (tw_k_X6_readPieces_160 hrc h_s2))) (fun _ => pc_none)) (fun _ => pc_if (fun z2 => tw_st (TW.set h_s ⟨by decide, by decide, by decide, by decide, by decide, by decide, fun y => absurd y.1 (by decide), fun y => absurd y.1 (by decide)⟩) (fun s1 h_s1 => (tw_k_X6_readPieces_160 hrc h_s1))) (fun _ => pc_none))) (fun _ => pc_mp (pc_some h_s))
theorem tw_k_X6_readPieces_90 {rc : RT_X6_readBase} {l1 : Int32} {l2 : Int32} {l3 : Int32} {l4 : Int32} {l5 : Int32} {l6 : Int32} {s : t_S} (hrc : TWB_X6_readBase zS zF rc) (h_s : TW zS zF s) : t_pq (k_X6_readPieces_90 rc l1 l2 l3 l4 l5 l6 s) (fun z => Sum.elim (fun y => TW zS zF y.2.2.2.2.2) (fun y => TW zS zF y) z) := by
  unfold k_X6_readPieces_90
  exact pc_if (fun _ => pc_bd (hrc.2.2.2.2.2.2.2.2.2.2.2.2.2.1 _ _ _ h_s) (fun r1 h_r1 => (tw_k_X6_readPieces_116 hrc h_r1))) (fun _ => pc_bd (hrc.2.2.2.2.2.2.2.2.1 _ _ _ h_s) (fun r2 h_r2 => (tw_k_X6_readPieces_116 hrc h_r2)))
theorem tw_k_X6_readPieces_82 {rc : RT_X6_readBase} {l1 : Int32} {l2 : Int32} {l3 : Int32} {l4 : Int32} {l5 : Int32} {l6 : Int32} {s : t_S} (hrc : TWB_X6_readBase zS zF rc) (h_s : TW zS zF s) : t_pq (k_X6_readPieces_82 rc l1 l2 l3 l4 l5 l6 s) (fun z => Sum.elim (fun y => TW zS zF y.2.2.2.2.2) (fun y => TW zS zF y) z) := by
  unfold k_X6_readPieces_82
  exact pc_bd (tw_f_X2_fail h_s) (fun r1 h_r1 => (tw_k_X6_readPieces_90 hrc h_r1))
theorem tw_k_X6_readPieces_55 {rc : RT_X6_readBase} {l1 : Int32} {l2 : Int32} {l3 : Int32} {l4 : Int32} {l5 : Int32} {k0 : Int32} {s : t_S} (hrc : TWB_X6_readBase zS zF rc) (h_s : TW zS zF s) : t_pq (k_X6_readPieces_55 rc l1 l2 l3 l4 l5 k0 s) (fun z => Sum.elim (fun y => TW zS zF y.2.2.2.2.2) (fun y => TW zS zF y) z) := by
  unfold k_X6_readPieces_55
  exact pc_if (fun _ => pc_if (fun _ => pc_if (fun _ => (tw_k_X6_readPieces_90 hrc h_s)) (fun _ => (tw_k_X6_readPieces_82 hrc h_s))) (fun _ => (tw_k_X6_readPieces_82 hrc h_s))) (fun _ => (tw_k_X6_readPieces_90 hrc h_s))
theorem tw_k_X6_readPieces_30 {rc : RT_X6_readBase} {l1 : Int32} {l2 : Int32} {l3 : Int32} {l4 : Int32} {l5 : Int32} {s : t_S} (hrc : TWB_X6_readBase zS zF rc) (h_s : TW zS zF s) : t_pq (k_X6_readPieces_30 rc l1 l2 l3 l4 l5 s) (fun z => Sum.elim (fun y => TW zS zF y.2.2.2.2.2) (fun y => TW zS zF y) z) := by
  unfold k_X6_readPieces_30
  exact pc_if (fun _ => pc_mp ((tw_k_X6_readPieces_185 hrc h_s))) (fun _ => pc_if (fun _ => (tw_k_X6_readPieces_55 hrc h_s)) (fun _ => (tw_k_X6_readPieces_55 hrc h_s)))
theorem tw_b_X6_readPieces_30 {rc : RT_X6_readBase} {x9 : Int32 × Int32 × Int32 × Int32 × Int32 × t_S} (hrc : TWB_X6_readBase zS zF rc) (h : TW zS zF x9.2.2.2.2.2) : t_pq (b_X6_readPieces_30 rc x9) (fun z => Sum.elim (fun y => TW zS zF y.2.2.2.2.2) (fun y => TW zS zF y) z) := tw_k_X6_readPieces_30 hrc h
theorem tw_m_X6_readPieces {rc : RT_X6_readBase} {x1 : Int32} {x2 : Int32} {x3 : Int32} {s : t_S} (hrc : TWB_X6_readBase zS zF rc) (h_s : TW zS zF s) : t_pq (m_X6_readPieces rc x1 x2 x3 s) (fun y => TW zS zF y) := by
  unfold m_X6_readPieces
  exact pc_if (fun z1 => tw_st (TW.set h_s ⟨by decide, by decide, by decide, by decide, by decide, by decide, fun y => absurd y.1 (by decide), fun y => absurd y.1 (by decide)⟩) (fun s1 h_s1 => pc_bd (tw_f_X2_take h_s1) (fun r2 h_r2 => pc_if (fun _ => pc_lp (fun x h => tw_b_X6_readPieces_30 hrc h) h_r2) (fun _ => pc_some h_r2)))) (fun _ => pc_none)
theorem tw_m_X6_readRow {rc : RT_X6_readBase} {x1 : Int32} {x2 : Int32} {x3 : Int32} {x4 : Int32} {s : t_S} (hrc : TWB_X6_readBase zS zF rc) (h_s : TW zS zF s) : t_pq (m_X6_readRow rc x1 x2 x3 x4 s) (fun y => TW zS zF y) := by
  unfold m_X6_readRow
  exact pc_bd (tw_f_X2_need h_s) (fun r1 h_r1 => pc_bd (hrc.2.2.2.2.2.1 _ _ _ _ _ h_r1) (fun r2 h_r2 => pc_some h_r2))
theorem tw_m_X6_readSame {rc : RT_X6_readBase} {x1 : Int32} {x2 : Int32} {s : t_S} (hrc : TWB_X6_readBase zS zF rc) (h_s : TW zS zF s) : t_pq (m_X6_readSame rc x1 x2 s) (fun y => TW zS zF y) := by
  unfold m_X6_readSame
  exact pc_if (fun z1 => tw_st (TW.set h_s ⟨by decide, by decide, by decide, by decide, by decide, by decide, fun y => absurd y.1 (by decide), fun y => absurd y.1 (by decide)⟩) (fun s1 h_s1 => pc_bd (tw_f_X2_need h_s1) (fun r2 h_r2 => pc_bd (hrc.2.2.1 _ _ h_r2) (fun r3 h_r3 => pc_bd (tw_f_X2_need h_r3) (fun r4 h_r4 => pc_bd (tw_f_X0_emit h_r4) (fun r5 h_r5 => pc_some h_r5)))))) (fun _ => pc_none)
theorem tw_k_X6_readTag_38 {rc : RT_X6_readBase} {l1 : Int32} {l2 : Int32} {l3 : Int32} {s : t_S} (hrc : TWB_X6_readBase zS zF rc) (h_s : TW zS zF s) : t_pq (k_X6_readTag_38 rc l1 l2 l3 s) (fun y => TW zS zF y) := by
  unfold k_X6_readTag_38
  exact pc_bd (tw_f_X2_need h_s) (fun r1 h_r1 => pc_bd (hrc.2.2.2.2.2.2.2.2.2.2.2.2.2.1 _ _ _ h_r1) (fun r2 h_r2 => pc_if (fun z1 => tw_st (TW.set h_r2 ⟨by decide, by decide, by decide, by decide, by decide, by decide, fun y => absurd y.1 (by decide), fun y => absurd y.1 (by decide)⟩) (fun s1 h_s1 => pc_some h_s1)) (fun _ => pc_none)))
theorem tw_m_X6_readTag {rc : RT_X6_readBase} {x1 : Int32} {x2 : Int32} {x3 : Int32} {s : t_S} (hrc : TWB_X6_readBase zS zF rc) (h_s : TW zS zF s) : t_pq (m_X6_readTag rc x1 x2 x3 s) (fun y => TW zS zF y) := by
  unfold m_X6_readTag
  exact pc_if (fun z1 => tw_st (TW.set h_s ⟨by decide, by decide, by decide, by decide, by decide, by decide, fun y => absurd y.1 (by decide), fun y => absurd y.1 (by decide)⟩) (fun s1 h_s1 => pc_if (fun _ => tw_st (TW.set h_s1 ⟨by decide, by decide, by decide, by decide, by decide, by decide, fun y => absurd y.1 (by decide), fun y => absurd y.1 (by decide)⟩) (fun s2 h_s2 => (tw_k_X6_readTag_38 hrc h_s2))) (fun _ => (tw_k_X6_readTag_38 hrc h_s1)))) (fun _ => pc_none)
theorem tw_k_X6_readTempl_95 {rc : RT_X6_readBase} {l3 : Int32} {s : t_S} (hrc : TWB_X6_readBase zS zF rc) (h_s : TW zS zF s) : t_pq (k_X6_readTempl_95 rc l3 s) (fun y => TW zS zF y.2) := by
  unfold k_X6_readTempl_95
  exact pc_bd (tw_f_X2_take h_s) (fun r1 h_r1 => pc_if (fun _ => pc_some h_r1) (fun _ => pc_if (fun z1 => tw_st (TW.set h_r1 ⟨by decide, by decide, by decide, by decide, by decide, by decide, fun y => absurd y.1 (by decide), fun y => absurd y.1 (by decide)⟩) (fun s1 h_s1 => pc_some h_s1)) (fun _ => pc_none)))
theorem tw_k_X6_readTempl_35 {rc : RT_X6_readBase} {l1 : Int32} {l2 : Int32} {s : t_S} (hrc : TWB_X6_readBase zS zF rc) (h_s : TW zS zF s) : t_pq (k_X6_readTempl_35 rc l1 l2 s) (fun y => TW zS zF y.2) := by
  unfold k_X6_readTempl_35
  exact pc_bd (tw_f_X6_node h_s) (fun r1 h_r1 => pc_if (fun _ => pc_bd (tw_f_X10_add h_r1) (fun r2 h_r2 => pc_bd (hrc.2.2.2.2.2.2.2.2.2.2.2.2.2.2.2 _ _ _ _ h_r2) (fun r3 h_r3 => pc_bd (tw_f_X2_take h_r3) (fun r4 h_r4 => pc_if (fun _ => (tw_k_X6_readTempl_95 hrc h_r4)) (fun _ => pc_bd (tw_f_X6_readSpan h_r4) (fun r5 h_r5 => pc_if (fun z1 => tw_st (TW.set h_r5 ⟨by decide, by decide, by decide, by decide, by decide, by decide, fun y => absurd y.1 (by decide), fun y => absurd y.1 (by decide)⟩) (fun s1 h_s1 => (tw_k_X6_readTempl_95 hrc h_s1))) (fun _ => pc_none))))))) (fun _ => pc_some h_r1))
theorem tw_k_X6_readTempl_21 {rc : RT_X6_readBase} {l1 : Int32} {l2 : Int32} {s : t_S} (hrc : TWB_X6_readBase zS zF rc) (h_s : TW zS zF s) : t_pq (k_X6_readTempl_21 rc l1 l2 s) (fun y => TW zS zF y.2) := by
  unfold k_X6_readTempl_21
  exact pc_if (fun _ => (tw_k_X6_readTempl_35 hrc h_s)) (fun _ => pc_bd (tw_f_X2_fail h_s) (fun r1 h_r1 => (tw_k_X6_readTempl_35 hrc h_r1)))
theorem tw_m_X6_readTempl {rc : RT_X6_readBase} {x1 : Int32} {x2 : Int32} {s : t_S} (hrc : TWB_X6_readBase zS zF rc) (h_s : TW zS zF s) : t_pq (m_X6_readTempl rc x1 x2 s) (fun y => TW zS zF y.2) := by
  unfold m_X6_readTempl
  exact pc_if (fun _ => pc_bd (tw_f_X2_fail h_s) (fun r2 h_r2 => (tw_k_X6_readTempl_21 hrc h_r2))) (fun _ => (tw_k_X6_readTempl_21 hrc h_s))
theorem tw_k_X6_readTemplFields_248 {rc : RT_X6_readBase} {s : t_S} (hrc : TWB_X6_readBase zS zF rc) (h_s : TW zS zF s) : t_pq (k_X6_readTemplFields_248 rc s) (fun y => TW zS zF y) := by
  unfold k_X6_readTemplFields_248
  exact pc_bd (tw_f_X2_need h_s) (fun r1 h_r1 => pc_some h_r1)
theorem tw_k_X6_readTemplFields_187 {rc : RT_X6_readBase} {l1 : Int32} {l2 : Int32} {l3 : Int32} {l5 : Int32} {l6 : Int32} {s : t_S} (hrc : TWB_X6_readBase zS zF rc) (h_s : TW zS zF s) : t_pq (k_X6_readTemplFields_187 rc l1 l2 l3 l5 l6 s) (fun z => Sum.elim (fun y => TW zS zF y.2.2.2.2.2) (fun y => TW zS zF y) z) := by
  unfold k_X6_readTemplFields_187
  exact pc_bd (tw_f_X2_advance h_s) (fun r1 h_r1 => pc_bd (tw_f_X2_need h_r1) (fun r2 h_r2 => pc_bd (hrc.2.2.2.2.2.2.2.2.2.2.2.2.2.1 _ _ _ h_r2) (fun r3 h_r3 => pc_if (fun z1 => tw_st (TW.set h_r3 ⟨by decide, by decide, by decide, by decide, by decide, by decide, fun y => absurd y.1 (by decide), fun y => absurd y.1 (by decide)⟩) (fun s1 h_s1 => pc_bd (tw_f_X2_take h_s1) (fun r5 h_r5 => pc_if (fun _ => pc_mp ((tw_k_X6_readTemplFields_248 hrc h_r5))) (fun _ => pc_some h_r5)))) (fun _ => pc_none))))
theorem tw_k_X6_readTemplFields_100 {rc : RT_X6_readBase} {l1 : Int32} {l2 : Int32} {l3 : Int32} {l4 : Int32} {l5 : Int32} {s : t_S} (hrc : TWB_X6_readBase zS zF rc) (h_s : TW zS zF s) : t_pq (k_X6_readTemplFields_100 rc l1 l2 l3 l4 l5 s) (fun z => Sum.elim (fun y => TW zS zF y.2.2.2.2.2) (fun y => TW zS zF y) z) := by
  unfold k_X6_readTemplFields_100
  exact pc_bd (tw_f_X6_node h_s) (fun r1 h_r1 => pc_if (fun _ => pc_bd (tw_f_X10_add h_r1) (fun r2 h_r2 => pc_if (fun z1 => tw_st (TW.set h_r2 ⟨by decide, by decide, by decide, by decide, by decide, by decide, fun y => absurd y.1 (by decide), fun y => absurd y.1 (by decide)⟩) (fun s1 h_s1 => tw_st (TW.set h_s1 ⟨by decide, by decide, by decide, by decide, by decide, by decide, fun y => absurd y.1 (by decide), fun y => absurd y.1 (by decide)⟩) (fun s2 h_s2 => pc_if (fun _ => pc_if (fun z2 => tw_st (TW.set h_s2 ⟨by decide, by decide, by decide, by decide, by decide, by decide, fun y => absurd y.1 (by decide), fun y => absurd y.1 (by decide)⟩) (fun s4 h_s4 => (tw_k_X6_readTemplFields_187 hrc h_s4))) (fun _ => pc_none)) (fun _ => pc_if (fun z3 => tw_st (TW.set h_s2 ⟨by decide, by decide, by decide, by decide, by decide, by decide, fun y => absurd y.1 (by decide), fun y => absurd y.1 (by decide)⟩) (fun s3 h_s3 => (tw_k_X6_readTemplFields_187 hrc h_s3))) (fun _ => pc_none))))) (fun _ => pc_none))) (fun _ => pc_mp (pc_some h_r1)))
theorem tw_k_X6_readTemplFields_30 {rc : RT_X6_readBase} {l1 : Int32} {l2 : Int32} {l3 : Int32} {l4 : Int32} {l5 : Int32} {s : t_S} (hrc : TWB_X6_readBase zS zF rc) (h_s : TW zS zF s) : t_pq (k_X6_readTemplFields_30 rc l1 l2 l3 l4 l5 s) (fun z => Sum.elim (fun y => TW zS zF y.2.2.2.2.2) (fun y => TW zS zF y) z) := by
  unfold k_X6_readTemplFields_30
  exact pc_if (fun _ => pc_mp ((tw_k_X6_readTemplFields_248 hrc h_s))) (fun _ => pc_if (fun _ => pc_bd pc_any (fun r2 h_r2 => pc_if (fun _ => pc_if (fun _ => pc_bd (tw_f_X2_fail h_s) (fun r3 h_r3 => (tw_k_X6_readTemplFields_100 hrc h_r3))) (fun _ => (tw_k_X6_readTemplFields_100 hrc h_s))) (fun _ => pc_bd (tw_f_X2_fail h_s) (fun r4 h_r4 => (tw_k_X6_readTemplFields_100 hrc h_r4))))) (fun _ => pc_bd (tw_f_X2_fail h_s) (fun r5 h_r5 => (tw_k_X6_readTemplFields_100 hrc h_r5))))
theorem tw_b_X6_readTemplFields_30 {rc : RT_X6_readBase} {x9 : Int32 × Int32 × Int32 × Int32 × Int32 × t_S} (hrc : TWB_X6_readBase zS zF rc) (h : TW zS zF x9.2.2.2.2.2) : t_pq (b_X6_readTemplFields_30 rc x9) (fun z => Sum.elim (fun y => TW zS zF y.2.2.2.2.2) (fun y => TW zS zF y) z) := tw_k_X6_readTemplFields_30 hrc h
theorem tw_m_X6_readTemplFields {rc : RT_X6_readBase} {x1 : Int32} {x2 : Int32} {x3 : Int32} {s : t_S} (hrc : TWB_X6_readBase zS zF rc) (h_s : TW zS zF s) : t_pq (m_X6_readTemplFields rc x1 x2 x3 s) (fun y => TW zS zF y) := by
  unfold m_X6_readTemplFields
  exact pc_if (fun z1 => tw_st (TW.set h_s ⟨by decide, by decide, by decide, by decide, by decide, by decide, fun y => absurd y.1 (by decide), fun y => absurd y.1 (by decide)⟩) (fun s1 h_s1 => pc_bd (tw_f_X2_take h_s1) (fun r2 h_r2 => pc_if (fun _ => pc_lp (fun x h => tw_b_X6_readTemplFields_30 hrc h) h_r2) (fun _ => pc_some h_r2)))) (fun _ => pc_none)
theorem tw_k_X6_readTone_163 {rc : RT_X6_readBase} {k0 : Int64} {k1 : Int32} {s : t_S} (hrc : TWB_X6_readBase zS zF rc) (h_s : TW zS zF s) : t_pq (k_X6_readTone_163 rc k0 k1 s) (fun y => TW zS zF y) := by
  unfold k_X6_readTone_163
  exact pc_if (fun z1 => tw_st (TW.setJ h_s (by decide)) (fun s1 h_s1 => pc_some h_s1)) (fun _ => pc_none)
theorem tw_k_X10_setLiteral_26 {l1 : Int32} {l2 : Int32} {k0 : Int32} {k1 : Int32} {s : t_S} (h_s : TW zS zF s) : t_pq (k_X10_setLiteral_26 l1 l2 k0 k1 s) (fun y => TW zS zF y) := by
  unfold k_X10_setLiteral_26
  exact pc_if (fun z1 => tw_st (TW.set h_s ⟨by decide, by decide, by decide, by decide, by decide, by decide, fun y => absurd y.1 (by decide), fun y => absurd y.1 (by decide)⟩) (fun s1 h_s1 => pc_if (fun z2 => tw_st (TW.set h_s1 ⟨by decide, by decide, by decide, by decide, by decide, by decide, fun y => absurd y.1 (by decide), fun y => absurd y.1 (by decide)⟩) (fun s2 h_s2 => pc_some h_s2)) (fun _ => pc_none))) (fun _ => pc_none)
theorem tw_f_X10_setLiteral {x1 : Int32} {x2 : Int32} {s : t_S} (h_s : TW zS zF s) : t_pq (f_X10_setLiteral x1 x2 s) (fun y => TW zS zF y) := by
  unfold f_X10_setLiteral
  exact pc_if (fun z1 => pc_if (fun _ => (tw_k_X10_setLiteral_26 h_s)) (fun _ => (tw_k_X10_setLiteral_26 h_s))) (fun _ => pc_none)
theorem tw_k_X6_readTone_530 {rc : RT_X6_readBase} {l1 : Int32} {s : t_S} (hrc : TWB_X6_readBase zS zF rc) (h_s : TW zS zF s) : t_pq (k_X6_readTone_530 rc l1 s) (fun y => TW zS zF y) := by
  unfold k_X6_readTone_530
  exact pc_if (fun z1 => tw_st (TW.set h_s ⟨by decide, by decide, by decide, by decide, by decide, by decide, fun y => absurd y.1 (by decide), fun y => absurd y.1 (by decide)⟩) (fun s1 h_s1 => pc_bd (tw_f_X2_need h_s1) (fun r2 h_r2 => pc_some h_r2))) (fun _ => pc_none)
theorem tw_k_X6_readTone_310 {rc : RT_X6_readBase} {l1 : Int32} {l2 : Int32} {l3 : Int32} {l4 : Int32} {s : t_S} (hrc : TWB_X6_readBase zS zF rc) (h_s : TW zS zF s) : t_pq (k_X6_readTone_310 rc l1 l2 l3 l4 s) (fun y => TW zS zF y) := by
  unfold k_X6_readTone_310
  exact pc_bd (tw_f_X2_advance h_s) (fun r1 h_r1 => pc_if (fun _ => pc_bd (hrc.2.2.2.2.2.1 _ _ _ _ _ h_r1) (fun r2 h_r2 => pc_some h_r2)) (fun _ => pc_if (fun _ => pc_bd (hrc.2.2.2.2.2.2.2.2.2.2.2.1 _ _ _ h_r1) (fun r3 h_r3 => pc_some h_r3)) (fun _ => pc_if (fun _ => pc_bd (hrc.2.2.2.2.2.2.2.2.2.2.2.2.1 _ _ _ _ h_r1) (fun r4 h_r4 => pc_some h_r4)) (fun _ => pc_if (fun _ => pc_bd (hrc.2.2.2.2.2.2.2.2.2.1 _ _ _ _ h_r1) (fun r5 h_r5 => pc_some h_r5)) (fun _ => pc_if (fun _ => pc_bd (hrc.2.2.2.2.2.2.2.2.2.2.2.2.2.2.1 _ _ _ _ h_r1) (fun r6 h_r6 => pc_some h_r6)) (fun _ => pc_if (fun _ => pc_bd (hrc.2.2.2.2.2.2.2.2.2.2.1 _ _ _ _ _ h_r1) (fun r7 h_r7 => pc_some h_r7)) (fun _ => pc_if (fun _ => pc_bd (hrc.2.2.2.2.2.2.2.2.2.2.1 _ _ _ _ _ h_r1) (fun r8 h_r8 => pc_some h_r8)) (fun _ => pc_if (fun _ => pc_if (fun _ => pc_bd (tw_f_X6_poolText h_r1) (fun r9 h_r9 => pc_bd (tw_f_X10_setLiteral h_r9) (fun r10 h_r10 => (tw_k_X6_readTone_530 hrc h_r10)))) (fun _ => (tw_k_X6_readTone_530 hrc h_r1))) (fun _ => pc_if (fun _ => pc_bd (hrc.2.2.2.2.2.2.2.2.2.2.1 _ _ _ _ _ h_r1) (fun r11 h_r11 => pc_some h_r11)) (fun _ => pc_if (fun _ => pc_bd (hrc.2.2.2.2.2.2.2.2.2.2.1 _ _ _ _ _ h_r1) (fun r12 h_r12 => pc_some h_r12)) (fun _ => pc_some h_r1)))))))))))
theorem tw_m_X6_readTone {rc : RT_X6_readBase} {x1 : Int32} {x2 : Int32} {x3 : Int32} {s : t_S} (hrc : TWB_X6_readBase zS zF rc) (h_s : TW zS zF s) : t_pq (m_X6_readTone rc x1 x2 x3 s) (fun y => TW zS zF y) := by
  unfold m_X6_readTone
  exact pc_if (fun _ => pc_if (fun z1 => tw_st (TW.set h_s ⟨by decide, by decide, by decide, by decide, by decide, by decide, fun y => absurd y.1 (by decide), fun y => absurd y.1 (by decide)⟩) (fun s1 h_s1 => tw_st (TW.set h_s1 ⟨by decide, by decide, by decide, by decide, by decide, by decide, fun y => absurd y.1 (by decide), fun y => absurd y.1 (by decide)⟩) (fun s2 h_s2 => pc_bd (tw_f_X0_emit h_s2) (fun r3 h_r3 => pc_bd (tw_f_X6_link h_r3) (fun r4 h_r4 => pc_some h_r4))))) (fun _ => pc_none)) (fun _ => pc_if (fun _ => pc_if (fun z2 => tw_st (TW.set h_s ⟨by decide, by decide, by decide, by decide, by decide, by decide, fun y => absurd y.1 (by decide), fun y => absurd y.1 (by decide)⟩) (fun s3 h_s3 => pc_bd (tw_f_X6_readNumber h_s3) (fun r6 h_r6 => tw_st (TW.setJ h_r6 (by decide)) (fun s4 h_s4 => pc_bd (tw_f_X2_take h_s4) (fun r7 h_r7 => pc_if (fun _ => (tw_k_X6_readTone_163 hrc h_r7)) (fun _ => pc_bd (tw_f_X6_readNumber h_r7) (fun r8 h_r8 => (tw_k_X6_readTone_163 hrc h_r8)))))))) (fun _ => pc_none)) (fun _ => pc_if (fun _ => pc_bd (tw_f_X6_poolText h_s) (fun r9 h_r9 => pc_bd (tw_f_X10_setLiteral h_r9) (fun r10 h_r10 => (tw_k_X6_readTone_310 hrc h_r10)))) (fun _ => pc_if (fun _ => pc_if (fun z3 => tw_st (TW.set h_s ⟨by decide, by decide, by decide, by decide, by decide, by decide, fun y => absurd y.1 (by decide), fun y => absurd y.1 (by decide)⟩) (fun s5 h_s5 => (tw_k_X6_readTone_310 hrc h_s5))) (fun _ => pc_none)) (fun _ => pc_if (fun _ => pc_if (fun z4 => tw_st (TW.set h_s ⟨by decide, by decide, by decide, by decide, by decide, by decide, fun y => absurd y.1 (by decide), fun y => absurd y.1 (by decide)⟩) (fun s6 h_s6 => pc_bd (tw_f_X6_readNumber h_s6) (fun r13 h_r13 => tw_st (TW.setJ h_r13 (by decide)) (fun s7 h_s7 => pc_bd (tw_f_X2_take h_s7) (fun r14 h_r14 => pc_if (fun _ => (tw_k_X6_readTone_163 hrc h_r14)) (fun _ => pc_bd (tw_f_X6_readNumber h_r14) (fun r15 h_r15 => (tw_k_X6_readTone_163 hrc h_r15)))))))) (fun _ => pc_none)) (fun _ => pc_if (fun _ => pc_if (fun z5 => tw_st (TW.set h_s ⟨by decide, by decide, by decide, by decide, by decide, by decide, fun y => absurd y.1 (by decide), fun y => absurd y.1 (by decide)⟩) (fun s8 h_s8 => (tw_k_X6_readTone_310 hrc h_s8))) (fun _ => pc_none)) (fun _ => pc_if (fun _ => pc_bd (tw_f_X0_poolCell h_s) (fun r18 h_r18 => pc_bd (tw_f_X10_setLiteral h_r18) (fun r19 h_r19 => (tw_k_X6_readTone_310 hrc h_r19)))) (fun _ => pc_if (fun _ => pc_bd (tw_f_X0_poolCell h_s) (fun r21 h_r21 => pc_bd (tw_f_X10_setLiteral h_r21) (fun r22 h_r22 => (tw_k_X6_readTone_310 hrc h_r22)))) (fun _ => pc_if (fun _ => pc_if (fun z6 => tw_st (TW.set h_s ⟨by decide, by decide, by decide, by decide, by decide, by decide, fun y => absurd y.1 (by decide), fun y => absurd y.1 (by decide)⟩) (fun s9 h_s9 => (tw_k_X6_readTone_310 hrc h_s9))) (fun _ => pc_none)) (fun _ => (tw_k_X6_readTone_310 hrc h_s))))))))))
theorem TWB_X6_readBase_R : ∀ n, TWB_X6_readBase zS zF (R_X6_readBase n) := by
  intro n
  induction n with
  | zero => exact ⟨fun _ _ _ => pc_none, fun _ _ _ => pc_none, fun _ _ _ => pc_none, fun _ _ _ => pc_none, fun _ _ _ => pc_none, fun _ _ _ _ _ _ => pc_none, fun _ _ _ => pc_none, fun _ _ _ => pc_none, fun _ _ _ _ => pc_none, fun _ _ _ _ _ => pc_none, fun _ _ _ _ _ _ => pc_none, fun _ _ _ _ => pc_none, fun _ _ _ _ _ => pc_none, fun _ _ _ _ => pc_none, fun _ _ _ _ _ => pc_none, fun _ _ _ _ _ => pc_none⟩
  | succ n ih => exact ⟨fun _ _ h => tw_m_X6_readBase ih h, fun _ _ h => tw_m_X6_readElements ih h, fun _ _ h => tw_m_X6_readExp ih h, fun _ _ h => tw_m_X6_readExpFields ih h, fun _ _ h => tw_m_X6_readExps ih h, fun _ _ _ _ _ h => tw_m_X6_readInner ih h, fun _ _ h => tw_m_X6_readMet ih h, fun _ _ h => tw_m_X6_readOne ih h, fun _ _ _ h => tw_m_X6_readPerm ih h, fun _ _ _ _ h => tw_m_X6_readPieces ih h, fun _ _ _ _ _ h => tw_m_X6_readRow ih h, fun _ _ _ h => tw_m_X6_readSame ih h, fun _ _ _ _ h => tw_m_X6_readTag ih h, fun _ _ _ h => tw_m_X6_readTempl ih h, fun _ _ _ _ h => tw_m_X6_readTemplFields ih h, fun _ _ _ _ h => tw_m_X6_readTone ih h⟩
theorem tw_f_X6_readTempl {x1 : Int32} {x2 : Int32} {s : t_S} (h_s : TW zS zF s) : t_pq (f_X6_readTempl x1 x2 s) (fun y => TW zS zF y.2) := by
  unfold f_X6_readTempl
  exact ((TWB_X6_readBase_R 250).2.2.2.2.2.2.2.2.2.2.2.2.2.1 _ _ _ h_s)
theorem tw_f_X6_readTemplateItem {s : t_S} (h_s : TW zS zF s) : t_pq (f_X6_readTemplateItem s) (fun y => TW zS zF y) := by
  unfold f_X6_readTemplateItem
  exact pc_bd (tw_f_X2_advance h_s) (fun r1 h_r1 => pc_bd (tw_f_X6_takeName h_r1) (fun r2 h_r2 => pc_if (fun _ => pc_some h_r2) (fun _ => pc_if (fun z1 => tw_st (TW.set h_r2 (tw_ar (tw_arr (a := 364) z1 (by decide)))) (fun s1 h_s1 => tw_st (TW.set h_s1 ⟨by decide, by decide, by decide, by decide, by decide, by decide, fun y => absurd y.1 (by decide), fun y => absurd y.1 (by decide)⟩) (fun s2 h_s2 => pc_bd (tw_f_X2_advance h_s2) (fun r4 h_r4 => pc_bd (tw_f_X2_need h_r4) (fun r5 h_r5 => tw_st (TW.set h_r5 ⟨by decide, by decide, by decide, by decide, by decide, by decide, fun y => absurd y.1 (by decide), fun y => absurd y.1 (by decide)⟩) (fun s3 h_s3 => tw_st (TW.set h_s3 (tw_ar (tw_arr (a := 364) z1 (by decide)))) (fun s4 h_s4 => tw_st (TW.set h_s4 (tw_ar (tw_arr (a := 364) z1 (by decide)))) (fun s5 h_s5 => pc_bd (tw_f_X6_readTempl h_s5) (fun r6 h_r6 => tw_st (TW.set h_r6 (tw_ar (tw_arr (a := 364) z1 (by decide)))) (fun s6 h_s6 => tw_st (TW.set h_s6 (tw_ar (tw_arr (a := 364) z1 (by decide)))) (fun s7 h_s7 => pc_bd (tw_f_X0_emit h_s7) (fun r7 h_r7 => tw_st (TW.set h_r7 ⟨by decide, by decide, by decide, by decide, by decide, by decide, fun y => absurd y.1 (by decide), fun y => absurd y.1 (by decide)⟩) (fun s8 h_s8 => pc_bd (tw_f_X2_need h_s8) (fun r8 h_r8 => pc_some h_r8)))))))))))))) (fun _ => pc_none))))
theorem tw_f_X5_addKind {x1 : Int32} {s : t_S} (h_s : TW zS zF s) : t_pq (f_X5_addKind x1 s) (fun y => TW zS zF y) := by
  unfold f_X5_addKind
  exact tw_st (TW.set h_s ⟨by decide, by decide, by decide, by decide, by decide, by decide, fun y => absurd y.1 (by decide), fun y => absurd y.1 (by decide)⟩) (fun s1 h_s1 => pc_if (fun z1 => tw_st (TW.set h_s1 ⟨by decide, by decide, by decide, by decide, by decide, by decide, fun y => absurd y.1 (by decide), fun y => absurd y.1 (by decide)⟩) (fun s2 h_s2 => tw_st (TW.set h_s2 ⟨by decide, by decide, by decide, by decide, by decide, by decide, fun y => absurd y.1 (by decide), fun y => absurd y.1 (by decide)⟩) (fun s3 h_s3 => tw_st (TW.set h_s3 ⟨by decide, by decide, by decide, by decide, by decide, by decide, fun y => absurd y.1 (by decide), fun y => absurd y.1 (by decide)⟩) (fun s4 h_s4 => pc_some h_s4)))) (fun _ => pc_none))
theorem tw_k_X6_readComponentItem_104 {s : t_S} (h_s : TW zS zF s) : t_pq (k_X6_readComponentItem_104 s) (fun y => TW zS zF y) := by
  unfold k_X6_readComponentItem_104
  exact pc_bd (tw_f_X2_need h_s) (fun r1 h_r1 => tw_st (TW.set h_r1 ⟨by decide, by decide, by decide, by decide, by decide, by decide, fun y => absurd y.1 (by decide), fun y => absurd y.1 (by decide)⟩) (fun s1 h_s1 => pc_some h_s1))
theorem tw_f_X6_readVarType {x1 : Int32} {x2 : Int32} {s : t_S} (h_s : TW zS zF s) : t_pq (f_X6_readVarType x1 x2 s) (fun y => TW zS zF y) := by
  unfold f_X6_readVarType
  exact pc_bd (tw_f_X2_take h_s) (fun r1 h_r1 => pc_if (fun _ => pc_some h_r1) (fun _ => pc_bd (tw_f_X6_link h_r1) (fun r2 h_r2 => pc_some h_r2)))
theorem tw_f_X6_readExp {x1 : Int32} {s : t_S} (h_s : TW zS zF s) : t_pq (f_X6_readExp x1 s) (fun y => TW zS zF y.2) := by
  unfold f_X6_readExp
  exact ((TWB_X6_readBase_R 250).2.2.1 _ _ h_s)
theorem tw_k_X6_readOwn_321 {l2 : Nat} {s : t_S} (hl_l2 : ARw l2) (h_s : TW zS zF s) : t_pq (k_X6_readOwn_321 l2 s) (fun y => TW zS zF y) := by
  unfold k_X6_readOwn_321
  exact pc_bd (tw_f_X2_need h_s) (fun r1 h_r1 => pc_if (fun _ => pc_if (fun _ => tw_st (TW.set h_r1 (tw_ar hl_l2)) (fun s1 h_s1 => pc_some h_s1)) (fun _ => pc_none)) (fun _ => pc_none))
theorem tw_k_X6_readOwn_227 {l1 : Int32} {l2 : Nat} {l3 : Int32} {l4 : Nat} {s : t_S} (hl_l2 : ARw l2) (hl_l4 : ARw l4) (h_s : TW zS zF s) : t_pq (k_X6_readOwn_227 l1 l2 l3 l4 s) (fun y => TW zS zF y) := by
  unfold k_X6_readOwn_227
  exact pc_if (fun _ => pc_if (fun _ => pc_if (fun _ => pc_if (fun _ => pc_if (fun _ => tw_st (TW.set h_s (tw_ar hl_l4)) (fun s1 h_s1 => pc_bd (tw_f_X2_advance h_s1) (fun r6 h_r6 => pc_if (fun _ => pc_if (fun z1 => tw_st (TW.set h_r6 ⟨by decide, by decide, by decide, by decide, by decide, by decide, fun y => absurd y.1 (by decide), fun y => absurd y.1 (by decide)⟩) (fun s2 h_s2 => pc_bd (tw_f_X6_readVarType h_s2) (fun r8 h_r8 => pc_bd (tw_f_X2_need h_r8) (fun r9 h_r9 => pc_bd (tw_f_X6_readExp h_r9) (fun r10 h_r10 => tw_st (TW.set h_r10 ⟨by decide, by decide, by decide, by decide, by decide, by decide, fun y => absurd y.1 (by decide), fun y => absurd y.1 (by decide)⟩) (fun s3 h_s3 => (tw_k_X6_readOwn_321 hl_l2 h_s3))))))) (fun _ => pc_none)) (fun _ => (tw_k_X6_readOwn_321 hl_l2 h_r6))))) (fun _ => pc_none)) (fun _ => pc_none)) (fun _ => pc_none)) (fun _ => pc_none)) (fun _ => pc_some h_s)
theorem tw_k_X6_readOwn_153 {l1 : Int32} {l2 : Nat} {l3 : Int32} {k0 : Nat} {s : t_S} (hl_l2 : ARw l2) (hl_k0 : ARw k0) (h_s : TW zS zF s) : t_pq (k_X6_readOwn_153 l1 l2 l3 k0 s) (fun y => TW zS zF y) := by
  unfold k_X6_readOwn_153
  exact pc_if (fun _ => pc_bd pc_any (fun r2 h_r2 => pc_if (fun _ => pc_if (fun _ => pc_if (fun _ => pc_if (fun _ => (tw_k_X6_readOwn_227 hl_l2 hl_k0 h_s)) (fun _ => pc_bd (tw_f_X2_fail h_s) (fun r5 h_r5 => (tw_k_X6_readOwn_227 hl_l2 hl_k0 h_r5)))) (fun _ => pc_none)) (fun _ => pc_none)) (fun _ => pc_bd (tw_f_X2_fail h_s) (fun r6 h_r6 => (tw_k_X6_readOwn_227 hl_l2 hl_k0 h_r6))))) (fun _ => pc_bd (tw_f_X2_fail h_s) (fun r7 h_r7 => (tw_k_X6_readOwn_227 hl_l2 hl_k0 h_r7)))
theorem tw_k_X6_readOwn_111 {l1 : Int32} {l2 : Nat} {k0 : Int32} {s : t_S} (hl_l2 : ARw l2) (h_s : TW zS zF s) : t_pq (k_X6_readOwn_111 l1 l2 k0 s) (fun y => TW zS zF y) := by
  unfold k_X6_readOwn_111
  exact pc_if (fun _ => (tw_k_X6_readOwn_153 hl_l2 (show ARw 430 by unfold ARw; decide) h_s)) (fun _ => pc_if (fun _ => (tw_k_X6_readOwn_153 hl_l2 (show ARw 432 by unfold ARw; decide) h_s)) (fun _ => (tw_k_X6_readOwn_153 hl_l2 (show ARw 434 by unfold ARw; decide) h_s)))
theorem tw_k_X6_readOwn_85 {l1 : Int32} {k0 : Nat} {s : t_S} (hl_k0 : ARw k0) (h_s : TW zS zF s) : t_pq (k_X6_readOwn_85 l1 k0 s) (fun y => TW zS zF y) := by
  unfold k_X6_readOwn_85
  exact pc_if (fun _ => (tw_k_X6_readOwn_111 hl_k0 h_s)) (fun _ => pc_if (fun _ => (tw_k_X6_readOwn_111 hl_k0 h_s)) (fun _ => (tw_k_X6_readOwn_111 hl_k0 h_s)))
theorem tw_k_X6_readOwn_37 {l1 : Int32} {s : t_S} (h_s : TW zS zF s) : t_pq (k_X6_readOwn_37 l1 s) (fun y => TW zS zF y) := by
  unfold k_X6_readOwn_37
  exact pc_bd (tw_f_X2_advance h_s) (fun r1 h_r1 => pc_if (fun _ => (tw_k_X6_readOwn_85 (show ARw 429 by unfold ARw; decide) h_r1)) (fun _ => pc_if (fun _ => (tw_k_X6_readOwn_85 (show ARw 431 by unfold ARw; decide) h_r1)) (fun _ => (tw_k_X6_readOwn_85 (show ARw 433 by unfold ARw; decide) h_r1))))
theorem tw_f_X6_readOwn {s : t_S} (h_s : TW zS zF s) : t_pq (f_X6_readOwn s) (fun y => TW zS zF y) := by
  unfold f_X6_readOwn
  exact pc_if (fun _ => (tw_k_X6_readOwn_37 h_s)) (fun _ => pc_if (fun _ => (tw_k_X6_readOwn_37 h_s)) (fun _ => pc_if (fun _ => (tw_k_X6_readOwn_37 h_s)) (fun _ => pc_bd (tw_f_X2_fail h_s) (fun r1 h_r1 => (tw_k_X6_readOwn_37 h_r1)))))
theorem tw_k_X6_readComponentItem_65 {l1 : Int32} {s : t_S} (h_s : TW zS zF s) : t_pq (k_X6_readComponentItem_65 l1 s) (fun z => Sum.elim (fun y => TW zS zF y.2) (fun y => TW zS zF y) z) := by
  unfold k_X6_readComponentItem_65
  exact pc_if (fun _ => pc_mp ((tw_k_X6_readComponentItem_104 h_s))) (fun _ => pc_if (fun _ => pc_if (fun _ => pc_mp ((tw_k_X6_readComponentItem_104 h_s))) (fun _ => pc_bd (tw_f_X6_readOwn h_s) (fun r1 h_r1 => pc_some h_r1))) (fun _ => pc_mp ((tw_k_X6_readComponentItem_104 h_s))))
theorem tw_b_X6_readComponentItem_65 {x9 : Int32 × t_S} (h : TW zS zF x9.2) : t_pq (b_X6_readComponentItem_65 x9) (fun z => Sum.elim (fun y => TW zS zF y.2) (fun y => TW zS zF y) z) := tw_k_X6_readComponentItem_65 h
theorem tw_f_X6_readComponentItem {s : t_S} (h_s : TW zS zF s) : t_pq (f_X6_readComponentItem s) (fun y => TW zS zF y) := by
  unfold f_X6_readComponentItem
  exact pc_bd (tw_f_X2_advance h_s) (fun r1 h_r1 => pc_bd (tw_f_X6_takeName h_r1) (fun r2 h_r2 => pc_if (fun _ => pc_some h_r2) (fun _ => tw_st (TW.set h_r2 ⟨by decide, by decide, by decide, by decide, by decide, by decide, fun y => absurd y.1 (by decide), fun y => absurd y.1 (by decide)⟩) (fun s1 h_s1 => pc_bd (tw_f_X5_addKind h_s1) (fun r3 h_r3 => pc_bd (tw_f_X2_advance h_r3) (fun r4 h_r4 => pc_bd (tw_f_X2_need h_r4) (fun r5 h_r5 => pc_lp (fun x h => tw_b_X6_readComponentItem_65 h) h_r5)))))))
theorem tw_f_X5_addUnit {x1 : Int32} {x2 : Int32} {s : t_S} (h_s : TW zS zF s) : t_pq (f_X5_addUnit x1 x2 s) (fun y => TW zS zF y) := by
  unfold f_X5_addUnit
  exact tw_st (TW.set h_s ⟨by decide, by decide, by decide, by decide, by decide, by decide, fun y => absurd y.1 (by decide), fun y => absurd y.1 (by decide)⟩) (fun s1 h_s1 => pc_if (fun z1 => tw_st (TW.set h_s1 ⟨by decide, by decide, by decide, by decide, by decide, by decide, fun y => absurd y.1 (by decide), fun y => absurd y.1 (by decide)⟩) (fun s2 h_s2 => tw_st (TW.set h_s2 ⟨by decide, by decide, by decide, by decide, by decide, by decide, fun y => absurd y.1 (by decide), fun y => absurd y.1 (by decide)⟩) (fun s3 h_s3 => tw_st (TW.set h_s3 ⟨by decide, by decide, by decide, by decide, by decide, by decide, fun y => absurd y.1 (by decide), fun y => absurd y.1 (by decide)⟩) (fun s4 h_s4 => tw_st (TW.set h_s4 ⟨by decide, by decide, by decide, by decide, by decide, by decide, fun y => absurd y.1 (by decide), fun y => absurd y.1 (by decide)⟩) (fun s5 h_s5 => tw_st (TW.set h_s5 ⟨by decide, by decide, by decide, by decide, by decide, by decide, fun y => absurd y.1 (by decide), fun y => absurd y.1 (by decide)⟩) (fun s6 h_s6 => pc_some h_s6)))))) (fun _ => pc_none))
def TWB_X6_readAlts (zS : Nat → Prop) (zF : Nat → Int32 → Prop) (rc : RT_X6_readAlts) : Prop := (∀ (x0 : Int32) (x1 : Int32) (s : t_S), TW zS zF s → t_pq (rc.1 x0 x1 s) (fun y => TW zS zF y.2)) ∧ (∀ (x0 : Int32) (x1 : Int32) (s : t_S), TW zS zF s → t_pq (rc.2.1 x0 x1 s) (fun y => TW zS zF y.2)) ∧ (∀ (x0 : Int32) (x1 : Int32) (x2 : Int32) (s : t_S), TW zS zF s → t_pq (rc.2.2.1 x0 x1 x2 s) (fun y => TW zS zF y.2)) ∧ (∀ (x0 : Int32) (x1 : Int32) (s : t_S), TW zS zF s → t_pq (rc.2.2.2.1 x0 x1 s) (fun y => TW zS zF y.2)) ∧ (∀ (x0 : Int32) (x1 : Int32) (s : t_S), TW zS zF s → t_pq (rc.2.2.2.2 x0 x1 s) (fun y => TW zS zF y.2))
theorem tw_m_X6_readAlts {rc : RT_X6_readAlts} {x1 : Int32} {x2 : Int32} {s : t_S} (hrc : TWB_X6_readAlts zS zF rc) (h_s : TW zS zF s) : t_pq (m_X6_readAlts rc x1 x2 s) (fun y => TW zS zF y.2) := by
  unfold m_X6_readAlts
  exact pc_bd (hrc.2.2.1 _ _ _ _ h_s) (fun r1 h_r1 => pc_some h_r1)
theorem tw_m_X6_readBlock {rc : RT_X6_readAlts} {x1 : Int32} {x2 : Int32} {s : t_S} (hrc : TWB_X6_readAlts zS zF rc) (h_s : TW zS zF s) : t_pq (m_X6_readBlock rc x1 x2 s) (fun y => TW zS zF y.2) := by
  unfold m_X6_readBlock
  exact pc_bd (hrc.2.2.1 _ _ _ _ h_s) (fun r1 h_r1 => pc_some h_r1)
theorem tw_k_X6_readBraces_142 {rc : RT_X6_readAlts} {l4 : Int32} {s : t_S} (hrc : TWB_X6_readAlts zS zF rc) (h_s : TW zS zF s) : t_pq (k_X6_readBraces_142 rc l4 s) (fun y => TW zS zF y.2) := by
  unfold k_X6_readBraces_142
  exact pc_bd (tw_f_X2_need h_s) (fun r1 h_r1 => pc_some h_r1)
theorem tw_k_X6_readBraces_132 {rc : RT_X6_readAlts} {l1 : Int32} {l2 : Int32} {l3 : Int32} {l4 : Int32} {l6 : Int32} {l7 : Int32} {s : t_S} (hrc : TWB_X6_readAlts zS zF rc) (h_s : TW zS zF s) : t_pq (k_X6_readBraces_132 rc l1 l2 l3 l4 l6 l7 s) (fun z => Sum.elim (fun y => TW zS zF y.2.2.2.2.2.2) (fun y => TW zS zF y.2) z) := by
  unfold k_X6_readBraces_132
  exact pc_some h_s
theorem tw_k_X6_readBraces_99 {rc : RT_X6_readAlts} {l1 : Int32} {l2 : Int32} {l3 : Int32} {l4 : Int32} {l5 : Int32} {l6 : Int32} {k0 : Int32} {s : t_S} (hrc : TWB_X6_readAlts zS zF rc) (h_s : TW zS zF s) : t_pq (k_X6_readBraces_99 rc l1 l2 l3 l4 l5 l6 k0 s) (fun z => Sum.elim (fun y => TW zS zF y.2.2.2.2.2.2) (fun y => TW zS zF y.2) z) := by
  unfold k_X6_readBraces_99
  exact pc_if (fun _ => pc_if (fun _ => (tw_k_X6_readBraces_132 hrc h_s)) (fun _ => pc_if (fun z1 => tw_st (TW.set h_s (tw_ar (tw_arr (a := 445) z1 (by decide)))) (fun s1 h_s1 => (tw_k_X6_readBraces_132 hrc h_s1))) (fun _ => pc_none))) (fun _ => (tw_k_X6_readBraces_132 hrc h_s))
theorem tw_k_X6_readBraces_50 {rc : RT_X6_readAlts} {l1 : Int32} {l2 : Int32} {l3 : Int32} {l4 : Int32} {l5 : Int32} {l6 : Int32} {s : t_S} (hrc : TWB_X6_readAlts zS zF rc) (h_s : TW zS zF s) : t_pq (k_X6_readBraces_50 rc l1 l2 l3 l4 l5 l6 s) (fun z => Sum.elim (fun y => TW zS zF y.2.2.2.2.2.2) (fun y => TW zS zF y.2) z) := by
  unfold k_X6_readBraces_50
  exact pc_if (fun _ => pc_mp ((tw_k_X6_readBraces_142 hrc h_s))) (fun _ => pc_if (fun _ => pc_if (fun _ => pc_mp ((tw_k_X6_readBraces_142 hrc h_s))) (fun _ => pc_if (fun _ => pc_bd (hrc.2.2.2.2 _ _ _ h_s) (fun r1 h_r1 => (tw_k_X6_readBraces_99 hrc h_r1))) (fun _ => pc_bd (hrc.2.2.2.1 _ _ _ h_s) (fun r2 h_r2 => (tw_k_X6_readBraces_99 hrc h_r2))))) (fun _ => pc_mp ((tw_k_X6_readBraces_142 hrc h_s))))
theorem tw_b_X6_readBraces_50 {rc : RT_X6_readAlts} {x9 : Int32 × Int32 × Int32 × Int32 × Int32 × Int32 × t_S} (hrc : TWB_X6_readAlts zS zF rc) (h : TW zS zF x9.2.2.2.2.2.2) : t_pq (b_X6_readBraces_50 rc x9) (fun z => Sum.elim (fun y => TW zS zF y.2.2.2.2.2.2) (fun y => TW zS zF y.2) z) := tw_k_X6_readBraces_50 hrc h
theorem tw_k_X6_readBraces_34 {rc : RT_X6_readAlts} {l1 : Int32} {l2 : Int32} {l3 : Int32} {s : t_S} (hrc : TWB_X6_readAlts zS zF rc) (h_s : TW zS zF s) : t_pq (k_X6_readBraces_34 rc l1 l2 l3 s) (fun y => TW zS zF y.2) := by
  unfold k_X6_readBraces_34
  exact pc_bd (tw_f_X2_advance h_s) (fun r1 h_r1 => pc_lp (fun x h => tw_b_X6_readBraces_50 hrc h) h_r1)
theorem tw_k_X6_readBraces_20 {rc : RT_X6_readAlts} {l1 : Int32} {l2 : Int32} {l3 : Int32} {s : t_S} (hrc : TWB_X6_readAlts zS zF rc) (h_s : TW zS zF s) : t_pq (k_X6_readBraces_20 rc l1 l2 l3 s) (fun y => TW zS zF y.2) := by
  unfold k_X6_readBraces_20
  exact pc_if (fun _ => (tw_k_X6_readBraces_34 hrc h_s)) (fun _ => pc_bd (tw_f_X2_fail h_s) (fun r1 h_r1 => (tw_k_X6_readBraces_34 hrc h_r1)))
theorem tw_m_X6_readBraces {rc : RT_X6_readAlts} {x1 : Int32} {x2 : Int32} {x3 : Int32} {s : t_S} (hrc : TWB_X6_readAlts zS zF rc) (h_s : TW zS zF s) : t_pq (m_X6_readBraces rc x1 x2 x3 s) (fun y => TW zS zF y.2) := by
  unfold m_X6_readBraces
  exact pc_if (fun _ => (tw_k_X6_readBraces_20 hrc h_s)) (fun _ => pc_bd (tw_f_X2_fail h_s) (fun r1 h_r1 => (tw_k_X6_readBraces_20 hrc h_r1)))
theorem tw_k_J7_fill_53178_5 {l0 : Nat} {l1 : Int32} {l2 : Int32} {l3 : Int32} {s : t_S} (hl_l0 : ARw l0) (h_s : TW zS zF s) : t_pq (k_J7_fill_53178_5 l0 l1 l2 l3 s) (fun z => Sum.elim (fun y => (ARw y.1 ∧ TW zS zF y.2.2.2.2)) (fun y => TW zS zF y) z) := by
  unfold k_J7_fill_53178_5
  exact pc_if (fun _ => pc_mp (pc_some h_s)) (fun _ => pc_if (fun _ => pc_if (fun _ => tw_st (TW.set h_s (tw_ar hl_l0)) (fun s1 h_s1 => pc_some ⟨hl_l0, h_s1⟩)) (fun _ => pc_none)) (fun _ => pc_none))
theorem tw_b_J7_fill_53178_5 {x9 : Nat × Int32 × Int32 × Int32 × t_S} (h : (ARw x9.1 ∧ TW zS zF x9.2.2.2.2)) : t_pq (b_J7_fill_53178_5 x9) (fun z => Sum.elim (fun y => (ARw y.1 ∧ TW zS zF y.2.2.2.2)) (fun y => TW zS zF y) z) := tw_k_J7_fill_53178_5 h.1 h.2
theorem tw_f_J7_fill_53178 {x1 : Nat} {x2 : Int32} {s : t_S} (hl_x1 : ARw x1) (h_s : TW zS zF s) : t_pq (f_J7_fill_53178 x1 x2 s) (fun y => TW zS zF y) := by
  unfold f_J7_fill_53178
  exact pc_if (fun _ => pc_lp (fun x h => tw_b_J7_fill_53178_5 h) ⟨hl_x1, h_s⟩) (fun _ => pc_none)
theorem tw_f_X5_addStep {x1 : Int32} {x2 : Int32} {s : t_S} (h_s : TW zS zF s) : t_pq (f_X5_addStep x1 x2 s) (fun y => TW zS zF y.2) := by
  unfold f_X5_addStep
  exact pc_if (fun _ => tw_st (TW.set h_s ⟨by decide, by decide, by decide, by decide, by decide, by decide, fun y => absurd y.1 (by decide), fun y => absurd y.1 (by decide)⟩) (fun s1 h_s1 => pc_if (fun z1 => pc_bd (tw_f_J7_fill_53178 (tw_arr (a := 445) z1 (by decide)) h_s1) (fun r2 h_r2 => tw_st (TW.set h_r2 (tw_ar (tw_arr (a := 445) z1 (by decide)))) (fun s2 h_s2 => tw_st (TW.set h_s2 (tw_ar (tw_arr (a := 445) z1 (by decide)))) (fun s3 h_s3 => pc_some h_s3)))) (fun _ => pc_none))) (fun _ => pc_some h_s)
theorem tw_k_X6_takeVar_33 {l1 : Int32} {k0 : Int32} {s : t_S} (h_s : TW zS zF s) : t_pq (k_X6_takeVar_33 l1 k0 s) (fun y => TW zS zF y) := by
  unfold k_X6_takeVar_33
  exact pc_if (fun z1 => tw_st (TW.set h_s (tw_ar (tw_arr (a := 445) z1 (by decide)))) (fun s1 h_s1 => pc_if (fun _ => pc_bd (tw_f_X6_link h_s1) (fun r2 h_r2 => pc_some h_r2)) (fun _ => pc_bd (tw_f_X2_advance h_s1) (fun r3 h_r3 => pc_some h_r3)))) (fun _ => pc_none)
theorem tw_f_X6_takeVar {x1 : Int32} {s : t_S} (h_s : TW zS zF s) : t_pq (f_X6_takeVar x1 s) (fun y => TW zS zF y) := by
  unfold f_X6_takeVar
  exact pc_if (fun _ => pc_bd pc_any (fun r2 h_r2 => (tw_k_X6_takeVar_33 h_s))) (fun _ => (tw_k_X6_takeVar_33 h_s))
theorem tw_f_X6_readInto {x1 : Int32} {s : t_S} (h_s : TW zS zF s) : t_pq (f_X6_readInto x1 s) (fun y => TW zS zF y) := by
  unfold f_X6_readInto
  exact pc_bd (tw_f_X2_take h_s) (fun r1 h_r1 => pc_if (fun _ => pc_some h_r1) (fun _ => pc_bd (tw_f_X6_takeVar h_r1) (fun r2 h_r2 => pc_some h_r2)))
theorem tw_k_X6_readEvent_133 {l1 : Int32} {s : t_S} (h_s : TW zS zF s) : t_pq (k_X6_readEvent_133 l1 s) (fun y => TW zS zF y) := by
  unfold k_X6_readEvent_133
  exact pc_bd (tw_f_X6_readInto h_s) (fun r1 h_r1 => pc_some h_r1)
theorem tw_k_X6_readEvent_62 {l1 : Int32} {l2 : Nat} {s : t_S} (hl_l2 : ARw l2) (h_s : TW zS zF s) : t_pq (k_X6_readEvent_62 l1 l2 s) (fun y => TW zS zF y) := by
  unfold k_X6_readEvent_62
  exact pc_if (fun _ => pc_if (fun _ => pc_if (fun _ => pc_bd (tw_f_X6_link h_s) (fun r3 h_r3 => pc_if (fun _ => tw_st (TW.set h_r3 (tw_ar hl_l2)) (fun s1 h_s1 => pc_bd (tw_f_X6_readTempl h_s1) (fun r5 h_r5 => pc_if (fun _ => tw_st (TW.set h_r5 (tw_ar hl_l2)) (fun s2 h_s2 => pc_bd (tw_f_X0_emit h_s2) (fun r7 h_r7 => pc_bd (tw_f_X2_take h_r7) (fun r8 h_r8 => pc_if (fun _ => (tw_k_X6_readEvent_133 h_r8)) (fun _ => pc_bd (tw_f_X6_readExp h_r8) (fun r9 h_r9 => pc_if (fun _ => tw_st (TW.set h_r9 (tw_ar hl_l2)) (fun s3 h_s3 => (tw_k_X6_readEvent_133 h_s3))) (fun _ => pc_none))))))) (fun _ => pc_none)))) (fun _ => pc_none))) (fun _ => pc_some h_s)) (fun _ => pc_none)) (fun _ => pc_none)
theorem tw_k_X6_readEvent_46 {l1 : Int32} {l2 : Nat} {s : t_S} (hl_l2 : ARw l2) (h_s : TW zS zF s) : t_pq (k_X6_readEvent_46 l1 l2 s) (fun y => TW zS zF y) := by
  unfold k_X6_readEvent_46
  exact pc_if (fun _ => pc_if (fun _ => pc_if (fun _ => pc_bd (tw_f_X6_readExp h_s) (fun r3 h_r3 => pc_if (fun _ => tw_st (TW.set h_r3 (tw_ar hl_l2)) (fun s1 h_s1 => (tw_k_X6_readEvent_62 hl_l2 h_s1))) (fun _ => pc_none))) (fun _ => (tw_k_X6_readEvent_62 hl_l2 h_s))) (fun _ => pc_none)) (fun _ => pc_none)
theorem tw_f_X6_readEvent {x1 : Int32} {s : t_S} (h_s : TW zS zF s) : t_pq (f_X6_readEvent x1 s) (fun y => TW zS zF y) := by
  unfold f_X6_readEvent
  exact pc_if (fun z1 => tw_st (TW.set h_s (tw_ar (tw_arr (a := 445) z1 (by decide)))) (fun s1 h_s1 => pc_bd (tw_f_X2_advance h_s1) (fun r3 h_r3 => pc_if (fun _ => pc_bd (tw_f_X6_link h_r3) (fun r4 h_r4 => (tw_k_X6_readEvent_46 (tw_arr (a := 445) z1 (by decide)) h_r4))) (fun _ => (tw_k_X6_readEvent_46 (tw_arr (a := 445) z1 (by decide)) h_r3))))) (fun _ => pc_none)
theorem tw_k_X6_readBranch_210 {rc : RT_X6_readAlts} {l1 : Int32} {l3 : Int32} {l4 : Nat} {s : t_S} (hrc : TWB_X6_readAlts zS zF rc) (hl_l4 : ARw l4) (h_s : TW zS zF s) : t_pq (k_X6_readBranch_210 rc l1 l3 l4 s) (fun y => TW zS zF y.2) := by
  unfold k_X6_readBranch_210
  exact pc_bd (tw_f_X6_readEvent h_s) (fun r1 h_r1 => pc_bd (hrc.2.1 _ _ _ h_r1) (fun r2 h_r2 => pc_if (fun _ => pc_if (fun _ => tw_st (TW.set h_r2 (tw_ar hl_l4)) (fun s1 h_s1 => pc_some h_s1)) (fun _ => pc_none)) (fun _ => pc_none)))
theorem tw_k_X6_readCall_87 {l1 : Int32} {l2 : Int32} {l3 : Int32} {l4 : Int32} {k0 : Int32} {s : t_S} (h_s : TW zS zF s) : t_pq (k_X6_readCall_87 l1 l2 l3 l4 k0 s) (fun y => TW zS zF y) := by
  unfold k_X6_readCall_87
  exact pc_bd (tw_f_X2_need h_s) (fun r1 h_r1 => pc_bd (tw_f_X0_emit h_r1) (fun r2 h_r2 => pc_bd (tw_f_X3_add h_r2) (fun r4 h_r4 => pc_some h_r4)))
theorem tw_f_X6_readExps {x1 : Int32} {s : t_S} (h_s : TW zS zF s) : t_pq (f_X6_readExps x1 s) (fun y => TW zS zF y.2) := by
  unfold f_X6_readExps
  exact ((TWB_X6_readBase_R 250).2.2.2.2.1 _ _ h_s)
theorem tw_k_X6_readCall_66 {l1 : Int32} {l2 : Int32} {l3 : Int32} {l4 : Int32} {s : t_S} (h_s : TW zS zF s) : t_pq (k_X6_readCall_66 l1 l2 l3 l4 s) (fun y => TW zS zF y) := by
  unfold k_X6_readCall_66
  exact pc_if (fun _ => (tw_k_X6_readCall_87 h_s)) (fun _ => pc_bd (tw_f_X6_readExps h_s) (fun r1 h_r1 => (tw_k_X6_readCall_87 h_r1)))
theorem tw_f_X6_readCall {x1 : Int32} {x2 : Int32} {s : t_S} (h_s : TW zS zF s) : t_pq (f_X6_readCall x1 x2 s) (fun y => TW zS zF y) := by
  unfold f_X6_readCall
  exact pc_bd (tw_f_X2_need h_s) (fun r2 h_r2 => pc_bd (tw_f_X2_need h_r2) (fun r3 h_r3 => pc_if (fun z1 => pc_if (fun _ => (tw_k_X6_readCall_66 h_r3)) (fun _ => tw_st (TW.set h_r3 (tw_ar (tw_arr (a := 445) z1 (by decide)))) (fun s1 h_s1 => (tw_k_X6_readCall_66 h_s1)))) (fun _ => pc_none)))
theorem tw_k_X6_readBranch_140 {rc : RT_X6_readAlts} {l1 : Int32} {l3 : Int32} {l4 : Nat} {s : t_S} (hrc : TWB_X6_readAlts zS zF rc) (hl_l4 : ARw l4) (h_s : TW zS zF s) : t_pq (k_X6_readBranch_140 rc l1 l3 l4 s) (fun y => TW zS zF y.2) := by
  unfold k_X6_readBranch_140
  exact pc_bd (tw_f_X2_need h_s) (fun r1 h_r1 => pc_bd (tw_f_X2_take h_r1) (fun r2 h_r2 => pc_if (fun _ => pc_if (fun _ => pc_bd (tw_f_X2_fail h_r2) (fun r5 h_r5 => (tw_k_X6_readBranch_210 hrc hl_l4 h_r5))) (fun _ => (tw_k_X6_readBranch_210 hrc hl_l4 h_r2))) (fun _ => pc_if (fun _ => pc_if (fun _ => tw_st (TW.set h_r2 (tw_ar hl_l4)) (fun s1 h_s1 => pc_bd (tw_f_X6_readCall h_s1) (fun r8 h_r8 => pc_bd (tw_f_X2_need h_r8) (fun r9 h_r9 => pc_some h_r9)))) (fun _ => pc_none)) (fun _ => pc_none))))
theorem tw_k_X6_readBranch_41 {rc : RT_X6_readAlts} {l1 : Int32} {l2 : Int32} {s : t_S} (hrc : TWB_X6_readAlts zS zF rc) (h_s : TW zS zF s) : t_pq (k_X6_readBranch_41 rc l1 l2 s) (fun y => TW zS zF y.2) := by
  unfold k_X6_readBranch_41
  exact pc_if (fun _ => pc_bd (tw_f_X5_addStep h_s) (fun r1 h_r1 => pc_if (fun z1 => pc_bd (tw_f_X2_advance h_r1) (fun r3 h_r3 => pc_bd (tw_f_X2_take h_r3) (fun r4 h_r4 => pc_if (fun _ => pc_if (fun _ => (tw_k_X6_readBranch_140 hrc (tw_arr (a := 445) z1 (by decide)) h_r4)) (fun _ => pc_bd (tw_f_X6_readExp h_r4) (fun r5 h_r5 => tw_st (TW.set h_r5 (tw_ar (tw_arr (a := 445) z1 (by decide)))) (fun s1 h_s1 => (tw_k_X6_readBranch_140 hrc (tw_arr (a := 445) z1 (by decide)) h_s1))))) (fun _ => pc_bd (tw_f_X2_need h_r4) (fun r6 h_r6 => pc_bd (hrc.2.1 _ _ _ h_r6) (fun r7 h_r7 => tw_st (TW.set h_r7 (tw_ar (tw_arr (a := 445) z1 (by decide)))) (fun s2 h_s2 => pc_some h_s2))))))) (fun _ => pc_none))) (fun _ => pc_some h_s)
theorem tw_k_X6_readBranch_20 {rc : RT_X6_readAlts} {l1 : Int32} {l2 : Int32} {s : t_S} (hrc : TWB_X6_readAlts zS zF rc) (h_s : TW zS zF s) : t_pq (k_X6_readBranch_20 rc l1 l2 s) (fun y => TW zS zF y.2) := by
  unfold k_X6_readBranch_20
  exact pc_if (fun _ => (tw_k_X6_readBranch_41 hrc h_s)) (fun _ => pc_bd (tw_f_X2_fail h_s) (fun r1 h_r1 => (tw_k_X6_readBranch_41 hrc h_r1)))
theorem tw_m_X6_readBranch {rc : RT_X6_readAlts} {x1 : Int32} {x2 : Int32} {s : t_S} (hrc : TWB_X6_readAlts zS zF rc) (h_s : TW zS zF s) : t_pq (m_X6_readBranch rc x1 x2 s) (fun y => TW zS zF y.2) := by
  unfold m_X6_readBranch
  exact pc_if (fun _ => (tw_k_X6_readBranch_20 hrc h_s)) (fun _ => pc_bd (tw_f_X2_fail h_s) (fun r1 h_r1 => (tw_k_X6_readBranch_20 hrc h_r1)))
theorem tw_k_X6_takePlace_100 {s : t_S} (h_s : TW zS zF s) : t_pq (k_X6_takePlace_100 s) (fun y => TW zS zF y.2) := by
  unfold k_X6_takePlace_100
  exact pc_if (fun _ => pc_if (fun z1 => pc_if (fun z2 => tw_st (TW.set h_s ⟨by decide, by decide, by decide, by decide, by decide, by decide, fun y => absurd y.1 (by decide), fun y => absurd y.1 (by decide)⟩) (fun s1 h_s1 => tw_st (TW.set h_s1 ⟨by decide, by decide, by decide, by decide, by decide, by decide, fun y => absurd y.1 (by decide), fun y => absurd y.1 (by decide)⟩) (fun s2 h_s2 => pc_bd (tw_f_X2_advance h_s2) (fun r4 h_r4 => pc_if (fun z3 => pc_some h_r4) (fun _ => pc_none))))) (fun _ => pc_none)) (fun _ => pc_none)) (fun _ => pc_some h_s)
theorem tw_k_X6_takePlace_64 {s : t_S} (h_s : TW zS zF s) : t_pq (k_X6_takePlace_64 s) (fun y => TW zS zF y.2) := by
  unfold k_X6_takePlace_64
  exact pc_bd (tw_f_X2_fail h_s) (fun r1 h_r1 => (tw_k_X6_takePlace_100 h_r1))
theorem tw_f_X6_takePlace {s : t_S} (h_s : TW zS zF s) : t_pq (f_X6_takePlace s) (fun y => TW zS zF y.2) := by
  unfold f_X6_takePlace
  exact pc_if (fun _ => pc_bd pc_any (fun r2 h_r2 => pc_if (fun _ => (tw_k_X6_takePlace_64 h_s)) (fun _ => pc_bd pc_any (fun r4 h_r4 => pc_if (fun _ => pc_if (fun z1 => pc_if (fun _ => (tw_k_X6_takePlace_100 h_s)) (fun _ => pc_bd (tw_f_X2_fail h_s) (fun r6 h_r6 => (tw_k_X6_takePlace_100 h_r6)))) (fun _ => pc_none)) (fun _ => (tw_k_X6_takePlace_64 h_s)))))) (fun _ => pc_bd (tw_f_X2_fail h_s) (fun r7 h_r7 => (tw_k_X6_takePlace_100 h_r7)))
theorem tw_f_X6_readVar {x1 : Int32} {s : t_S} (h_s : TW zS zF s) : t_pq (f_X6_readVar x1 s) (fun y => TW zS zF y) := by
  unfold f_X6_readVar
  exact pc_if (fun z1 => pc_bd (tw_f_X6_takePlace h_s) (fun r2 h_r2 => pc_if (fun _ => pc_bd (tw_f_X6_readVarType h_r2) (fun r3 h_r3 => pc_bd (tw_f_X2_need h_r3) (fun r4 h_r4 => pc_bd (tw_f_X6_readExp h_r4) (fun r5 h_r5 => tw_st (TW.set h_r5 (tw_ar (tw_arr (a := 445) z1 (by decide)))) (fun s1 h_s1 => tw_st (TW.set h_s1 (tw_ar (tw_arr (a := 445) z1 (by decide)))) (fun s2 h_s2 => pc_if (fun z2 => tw_st (TW.set h_s2 ⟨by decide, by decide, by decide, by decide, by decide, by decide, fun y => absurd y.1 (by decide), fun y => absurd y.1 (by decide)⟩) (fun s3 h_s3 => pc_some h_s3)) (fun _ => pc_none))))))) (fun _ => pc_some h_r2))) (fun _ => pc_none)
theorem tw_k_X6_readPlain_197 {s : t_S} (h_s : TW zS zF s) : t_pq (k_X6_readPlain_197 s) (fun y => TW zS zF y) := by
  unfold k_X6_readPlain_197
  exact pc_bd (tw_f_X2_advance h_s) (fun r1 h_r1 => pc_some h_r1)
theorem tw_k_X6_readPlain_189 {s : t_S} (h_s : TW zS zF s) : t_pq (k_X6_readPlain_189 s) (fun y => TW zS zF y) := by
  unfold k_X6_readPlain_189
  exact pc_bd (tw_f_X2_fail h_s) (fun r1 h_r1 => (tw_k_X6_readPlain_197 h_r1))
theorem tw_f_X6_readPlain {x1 : Int32} {x2 : Int32} {s : t_S} (h_s : TW zS zF s) : t_pq (f_X6_readPlain x1 x2 s) (fun y => TW zS zF y) := by
  unfold f_X6_readPlain
  exact pc_if (fun z1 => pc_if (fun _ => pc_some h_s) (fun _ => pc_if (fun _ => pc_bd (tw_f_X6_readVar h_s) (fun r2 h_r2 => pc_some h_r2)) (fun _ => pc_if (fun _ => pc_some h_s) (fun _ => pc_if (fun _ => pc_some h_s) (fun _ => pc_if (fun _ => pc_some h_s) (fun _ => pc_if (fun _ => pc_if (fun _ => pc_some h_s) (fun _ => pc_bd (tw_f_X6_readExp h_s) (fun r3 h_r3 => tw_st (TW.set h_r3 (tw_ar (tw_arr (a := 445) z1 (by decide)))) (fun s1 h_s1 => pc_some h_s1)))) (fun _ => pc_if (fun _ => pc_bd (tw_f_X6_readCall h_s) (fun r4 h_r4 => pc_bd (tw_f_X6_readInto h_r4) (fun r5 h_r5 => pc_some h_r5))) (fun _ => pc_if (fun _ => tw_st (TW.set h_s (tw_ar (tw_arr (a := 445) z1 (by decide)))) (fun s2 h_s2 => pc_if (fun _ => (tw_k_X6_readPlain_189 h_s2)) (fun _ => pc_if (fun _ => (tw_k_X6_readPlain_197 h_s2)) (fun _ => (tw_k_X6_readPlain_189 h_s2))))) (fun _ => pc_if (fun _ => pc_bd (tw_f_X6_readExp h_s) (fun r6 h_r6 => tw_st (TW.set h_r6 (tw_ar (tw_arr (a := 445) z1 (by decide)))) (fun s3 h_s3 => pc_some h_s3))) (fun _ => pc_if (fun _ => pc_bd (tw_f_X6_link h_s) (fun r7 h_r7 => pc_bd (tw_f_X6_readExp h_r7) (fun r8 h_r8 => tw_st (TW.set h_r8 (tw_ar (tw_arr (a := 445) z1 (by decide)))) (fun s4 h_s4 => pc_some h_s4)))) (fun _ => pc_if (fun _ => pc_some h_s) (fun _ => pc_if (fun _ => pc_some h_s) (fun _ => pc_if (fun _ => pc_some h_s) (fun _ => pc_if (fun _ => pc_some h_s) (fun _ => pc_if (fun _ => pc_bd (tw_f_X6_link h_s) (fun r9 h_r9 => pc_bd (tw_f_X6_readExp h_r9) (fun r10 h_r10 => tw_st (TW.set h_r10 (tw_ar (tw_arr (a := 445) z1 (by decide)))) (fun s5 h_s5 => pc_some h_s5)))) (fun _ => pc_if (fun _ => pc_bd (tw_f_X6_link h_s) (fun r11 h_r11 => pc_some h_r11)) (fun _ => pc_if (fun _ => pc_some h_s) (fun _ => pc_if (fun _ => pc_some h_s) (fun _ => pc_if (fun _ => pc_some h_s) (fun _ => pc_if (fun _ => pc_some h_s) (fun _ => pc_bd (tw_f_X6_readExp h_s) (fun r12 h_r12 => tw_st (TW.set h_r12 (tw_ar (tw_arr (a := 445) z1 (by decide)))) (fun s6 h_s6 => pc_some h_s6))))))))))))))))))))))) (fun _ => pc_none)
theorem tw_k_X6_readStatement_315 {rc : RT_X6_readAlts} {l4 : Int32} {s : t_S} (hrc : TWB_X6_readAlts zS zF rc) (h_s : TW zS zF s) : t_pq (k_X6_readStatement_315 rc l4 s) (fun y => TW zS zF y.2) := by
  unfold k_X6_readStatement_315
  exact pc_bd (tw_f_X2_need h_s) (fun r1 h_r1 => pc_some h_r1)
theorem tw_k_X6_readAssignment_152 {l2 : Nat} {s : t_S} (hl_l2 : ARw l2) (h_s : TW zS zF s) : t_pq (k_X6_readAssignment_152 l2 s) (fun y => TW zS zF y) := by
  unfold k_X6_readAssignment_152
  exact pc_bd (tw_f_X2_need h_s) (fun r1 h_r1 => pc_if (fun _ => pc_if (fun _ => tw_st (TW.set h_r1 (tw_ar hl_l2)) (fun s1 h_s1 => pc_bd (tw_f_X6_readExp h_s1) (fun r4 h_r4 => pc_bd (tw_f_X0_emit h_r4) (fun r5 h_r5 => pc_bd (tw_f_X2_need h_r5) (fun r6 h_r6 => pc_some h_r6))))) (fun _ => pc_none)) (fun _ => pc_none))
theorem tw_k_X6_readAssignment_146 {l2 : Nat} {l3 : Int32} {s : t_S} (hl_l2 : ARw l2) (h_s : TW zS zF s) : t_pq (k_X6_readAssignment_146 l2 l3 s) (fun z => Sum.elim (fun y => (ARw y.1 ∧ TW zS zF y.2.2)) (fun y => TW zS zF y) z) := by
  unfold k_X6_readAssignment_146
  exact pc_some ⟨hl_l2, h_s⟩
theorem tw_k_X6_readAssignment_71 {l2 : Nat} {l3 : Int32} {s : t_S} (hl_l2 : ARw l2) (h_s : TW zS zF s) : t_pq (k_X6_readAssignment_71 l2 l3 s) (fun z => Sum.elim (fun y => (ARw y.1 ∧ TW zS zF y.2.2)) (fun y => TW zS zF y) z) := by
  unfold k_X6_readAssignment_71
  exact pc_bd (tw_f_X6_node h_s) (fun r1 h_r1 => pc_bd (tw_f_X2_take h_r1) (fun r2 h_r2 => pc_if (fun _ => pc_bd (tw_f_X2_take h_r2) (fun r3 h_r3 => pc_if (fun _ => (tw_k_X6_readAssignment_146 hl_l2 h_r3)) (fun _ => pc_bd (tw_f_X6_readExp h_r3) (fun r4 h_r4 => pc_bd (tw_f_X2_need h_r4) (fun r5 h_r5 => pc_bd (tw_f_X0_emit h_r5) (fun r6 h_r6 => (tw_k_X6_readAssignment_146 hl_l2 h_r6))))))) (fun _ => pc_bd (tw_f_X6_takeFieldName h_r2) (fun r7 h_r7 => pc_bd (tw_f_X0_emit h_r7) (fun r8 h_r8 => (tw_k_X6_readAssignment_146 hl_l2 h_r8))))))
theorem tw_k_X6_readAssignment_27 {l2 : Nat} {l3 : Int32} {s : t_S} (hl_l2 : ARw l2) (h_s : TW zS zF s) : t_pq (k_X6_readAssignment_27 l2 l3 s) (fun z => Sum.elim (fun y => (ARw y.1 ∧ TW zS zF y.2.2)) (fun y => TW zS zF y) z) := by
  unfold k_X6_readAssignment_27
  exact pc_if (fun _ => pc_mp ((tw_k_X6_readAssignment_152 hl_l2 h_s))) (fun _ => pc_if (fun _ => pc_if (fun _ => (tw_k_X6_readAssignment_71 hl_l2 h_s)) (fun _ => pc_if (fun _ => (tw_k_X6_readAssignment_71 hl_l2 h_s)) (fun _ => pc_mp ((tw_k_X6_readAssignment_152 hl_l2 h_s))))) (fun _ => pc_mp ((tw_k_X6_readAssignment_152 hl_l2 h_s))))
theorem tw_b_X6_readAssignment_27 {x9 : Nat × Int32 × t_S} (h : (ARw x9.1 ∧ TW zS zF x9.2.2)) : t_pq (b_X6_readAssignment_27 x9) (fun z => Sum.elim (fun y => (ARw y.1 ∧ TW zS zF y.2.2)) (fun y => TW zS zF y) z) := tw_k_X6_readAssignment_27 h.1 h.2
theorem tw_f_X6_readAssignment {x1 : Int32} {s : t_S} (h_s : TW zS zF s) : t_pq (f_X6_readAssignment x1 s) (fun y => TW zS zF y) := by
  unfold f_X6_readAssignment
  exact pc_if (fun z1 => pc_bd (tw_f_X6_takeVar h_s) (fun r2 h_r2 => tw_st (TW.set h_r2 (tw_ar (tw_arr (a := 445) z1 (by decide)))) (fun s1 h_s1 => pc_lp (fun x h => tw_b_X6_readAssignment_27 h) ⟨(tw_arr (a := 445) z1 (by decide)), h_s1⟩))) (fun _ => pc_none)
theorem tw_k_X6_readOfComponents_64 {l1 : Int32} {s : t_S} (h_s : TW zS zF s) : t_pq (k_X6_readOfComponents_64 l1 s) (fun y => TW zS zF y) := by
  unfold k_X6_readOfComponents_64
  exact pc_bd (tw_f_X6_readInto h_s) (fun r1 h_r1 => pc_some h_r1)
theorem tw_f_X6_takePort {x1 : Int32} {s : t_S} (h_s : TW zS zF s) : t_pq (f_X6_takePort x1 s) (fun y => TW zS zF y.2) := by
  unfold f_X6_takePort
  exact pc_bd (tw_f_X6_link h_s) (fun r2 h_r2 => pc_some h_r2)
theorem tw_f_X6_readOfComponents {x1 : Int32} {x2 : Int32} {s : t_S} (h_s : TW zS zF s) : t_pq (f_X6_readOfComponents x1 x2 s) (fun y => TW zS zF y) := by
  unfold f_X6_readOfComponents
  exact pc_if (fun z1 => pc_if (fun _ => pc_bd (tw_f_X6_readCall h_s) (fun r2 h_r2 => pc_some h_r2)) (fun _ => pc_if (fun _ => pc_bd (tw_f_X6_link h_s) (fun r3 h_r3 => pc_if (fun _ => (tw_k_X6_readOfComponents_64 h_r3)) (fun _ => pc_bd (tw_f_X2_fail h_r3) (fun r4 h_r4 => (tw_k_X6_readOfComponents_64 h_r4))))) (fun _ => pc_if (fun _ => tw_st (TW.set h_s (tw_ar (tw_arr (a := 445) z1 (by decide)))) (fun s1 h_s1 => pc_bd (tw_f_X6_readExp h_s1) (fun r5 h_r5 => pc_bd (tw_f_X2_need h_r5) (fun r6 h_r6 => pc_bd (tw_f_X6_readCall h_r6) (fun r7 h_r7 => pc_some h_r7))))) (fun _ => tw_st (TW.set h_s (tw_ar (tw_arr (a := 445) z1 (by decide)))) (fun s2 h_s2 => pc_bd (tw_f_X6_readExp h_s2) (fun r8 h_r8 => pc_bd (tw_f_X2_need h_r8) (fun r9 h_r9 => pc_bd (tw_f_X6_takePort h_r9) (fun r10 h_r10 => tw_st (TW.set h_r10 (tw_ar (tw_arr (a := 445) z1 (by decide)))) (fun s3 h_s3 => pc_bd (tw_f_X2_need h_s3) (fun r11 h_r11 => pc_bd (tw_f_X6_readExp h_r11) (fun r12 h_r12 => pc_bd (tw_f_X2_need h_r12) (fun r13 h_r13 => pc_bd (tw_f_X6_takePort h_r13) (fun r14 h_r14 => tw_st (TW.set h_r14 (tw_ar (tw_arr (a := 445) z1 (by decide)))) (fun s4 h_s4 => pc_bd (tw_f_X0_emit h_s4) (fun r15 h_r15 => pc_some h_r15))))))))))))))) (fun _ => pc_none)
theorem tw_k_X6_readStatement_98 {rc : RT_X6_readAlts} {l1 : Int32} {l3 : Int32} {l4 : Int32} {l5 : Nat} {s : t_S} (hrc : TWB_X6_readAlts zS zF rc) (hl_l5 : ARw l5) (h_s : TW zS zF s) : t_pq (k_X6_readStatement_98 rc l1 l3 l4 l5 s) (fun y => TW zS zF y.2) := by
  unfold k_X6_readStatement_98
  exact pc_if (fun _ => pc_bd (tw_f_X6_readPlain h_s) (fun r1 h_r1 => (tw_k_X6_readStatement_315 hrc h_r1))) (fun _ => pc_if (fun _ => pc_bd (tw_f_X6_readAssignment h_s) (fun r2 h_r2 => pc_some h_r2)) (fun _ => pc_if (fun _ => pc_bd (tw_f_X6_readExp h_s) (fun r3 h_r3 => pc_if (fun _ => pc_if (fun _ => tw_st (TW.set h_r3 (tw_ar hl_l5)) (fun s1 h_s1 => pc_bd (hrc.2.1 _ _ _ h_s1) (fun r6 h_r6 => pc_if (fun _ => tw_st (TW.set h_r6 (tw_ar hl_l5)) (fun s2 h_s2 => pc_bd (tw_f_X2_take h_s2) (fun r8 h_r8 => pc_if (fun _ => pc_some h_r8) (fun _ => pc_bd (hrc.2.1 _ _ _ h_r8) (fun r9 h_r9 => pc_if (fun _ => tw_st (TW.set h_r9 (tw_ar hl_l5)) (fun s3 h_s3 => pc_some h_s3)) (fun _ => pc_none)))))) (fun _ => pc_none)))) (fun _ => pc_none)) (fun _ => pc_none))) (fun _ => pc_if (fun _ => pc_bd (tw_f_X6_readExp h_s) (fun r11 h_r11 => pc_if (fun _ => pc_if (fun _ => tw_st (TW.set h_r11 (tw_ar hl_l5)) (fun s4 h_s4 => pc_bd (hrc.2.1 _ _ _ h_s4) (fun r14 h_r14 => pc_if (fun _ => tw_st (TW.set h_r14 (tw_ar hl_l5)) (fun s5 h_s5 => pc_some h_s5)) (fun _ => pc_none)))) (fun _ => pc_none)) (fun _ => pc_none))) (fun _ => pc_if (fun _ => pc_bd (tw_f_X6_readPlain h_s) (fun r16 h_r16 => (tw_k_X6_readStatement_315 hrc h_r16))) (fun _ => pc_if (fun _ => pc_bd (tw_f_X6_readPlain h_s) (fun r17 h_r17 => (tw_k_X6_readStatement_315 hrc h_r17))) (fun _ => pc_if (fun _ => pc_bd (tw_f_X6_readPlain h_s) (fun r18 h_r18 => (tw_k_X6_readStatement_315 hrc h_r18))) (fun _ => pc_if (fun _ => pc_bd (tw_f_X6_readPlain h_s) (fun r19 h_r19 => (tw_k_X6_readStatement_315 hrc h_r19))) (fun _ => pc_if (fun _ => pc_bd (tw_f_X6_readPlain h_s) (fun r20 h_r20 => (tw_k_X6_readStatement_315 hrc h_r20))) (fun _ => pc_if (fun _ => pc_bd (hrc.1 _ _ _ h_s) (fun r21 h_r21 => pc_if (fun _ => pc_if (fun _ => tw_st (TW.set h_r21 (tw_ar hl_l5)) (fun s6 h_s6 => pc_some h_s6)) (fun _ => pc_none)) (fun _ => pc_none))) (fun _ => pc_if (fun _ => pc_bd (tw_f_X6_readEvent h_s) (fun r24 h_r24 => (tw_k_X6_readStatement_315 hrc h_r24))) (fun _ => pc_if (fun _ => pc_bd (tw_f_X6_readEvent h_s) (fun r25 h_r25 => (tw_k_X6_readStatement_315 hrc h_r25))) (fun _ => pc_if (fun _ => pc_bd (tw_f_X6_readEvent h_s) (fun r26 h_r26 => (tw_k_X6_readStatement_315 hrc h_r26))) (fun _ => pc_if (fun _ => pc_bd (tw_f_X6_readPlain h_s) (fun r27 h_r27 => (tw_k_X6_readStatement_315 hrc h_r27))) (fun _ => pc_if (fun _ => pc_bd (tw_f_X6_readPlain h_s) (fun r28 h_r28 => (tw_k_X6_readStatement_315 hrc h_r28))) (fun _ => pc_if (fun _ => pc_bd (tw_f_X6_readOfComponents h_s) (fun r29 h_r29 => (tw_k_X6_readStatement_315 hrc h_r29))) (fun _ => pc_if (fun _ => pc_bd (tw_f_X6_readOfComponents h_s) (fun r30 h_r30 => (tw_k_X6_readStatement_315 hrc h_r30))) (fun _ => pc_if (fun _ => pc_bd (tw_f_X6_readOfComponents h_s) (fun r31 h_r31 => (tw_k_X6_readStatement_315 hrc h_r31))) (fun _ => pc_if (fun _ => pc_bd (tw_f_X6_readPlain h_s) (fun r32 h_r32 => (tw_k_X6_readStatement_315 hrc h_r32))) (fun _ => pc_bd (tw_f_X6_readOfComponents h_s) (fun r33 h_r33 => (tw_k_X6_readStatement_315 hrc h_r33)))))))))))))))))))))
theorem tw_k_X6_readStatement_44 {rc : RT_X6_readAlts} {l1 : Int32} {l2 : Int32} {l3 : Int32} {s : t_S} (hrc : TWB_X6_readAlts zS zF rc) (h_s : TW zS zF s) : t_pq (k_X6_readStatement_44 rc l1 l2 l3 s) (fun y => TW zS zF y.2) := by
  unfold k_X6_readStatement_44
  exact pc_if (fun _ => pc_bd (tw_f_X5_addStep h_s) (fun r1 h_r1 => pc_if (fun z1 => pc_if (fun _ => (tw_k_X6_readStatement_98 hrc (tw_arr (a := 445) z1 (by decide)) h_r1)) (fun _ => pc_if (fun _ => pc_bd (tw_f_X2_advance h_r1) (fun r4 h_r4 => (tw_k_X6_readStatement_98 hrc (tw_arr (a := 445) z1 (by decide)) h_r4))) (fun _ => (tw_k_X6_readStatement_98 hrc (tw_arr (a := 445) z1 (by decide)) h_r1)))) (fun _ => pc_none))) (fun _ => pc_some h_s)
theorem tw_k_X6_readStatement_23 {rc : RT_X6_readAlts} {l1 : Int32} {l2 : Int32} {l3 : Int32} {s : t_S} (hrc : TWB_X6_readAlts zS zF rc) (h_s : TW zS zF s) : t_pq (k_X6_readStatement_23 rc l1 l2 l3 s) (fun y => TW zS zF y.2) := by
  unfold k_X6_readStatement_23
  exact pc_if (fun _ => (tw_k_X6_readStatement_44 hrc h_s)) (fun _ => pc_bd (tw_f_X2_fail h_s) (fun r1 h_r1 => (tw_k_X6_readStatement_44 hrc h_r1)))
theorem tw_m_X6_readStatement {rc : RT_X6_readAlts} {x1 : Int32} {x2 : Int32} {s : t_S} (hrc : TWB_X6_readAlts zS zF rc) (h_s : TW zS zF s) : t_pq (m_X6_readStatement rc x1 x2 s) (fun y => TW zS zF y.2) := by
  unfold m_X6_readStatement
  exact pc_if (fun _ => pc_bd (tw_f_X2_fail h_s) (fun r2 h_r2 => (tw_k_X6_readStatement_23 hrc h_r2))) (fun _ => (tw_k_X6_readStatement_23 hrc h_s))
theorem TWB_X6_readAlts_R : ∀ n, TWB_X6_readAlts zS zF (R_X6_readAlts n) := by
  intro n
  induction n with
  | zero => exact ⟨fun _ _ _ _ => pc_none, fun _ _ _ _ => pc_none, fun _ _ _ _ _ => pc_none, fun _ _ _ _ => pc_none, fun _ _ _ _ => pc_none⟩
  | succ n ih => exact ⟨fun _ _ _ h => tw_m_X6_readAlts ih h, fun _ _ _ h => tw_m_X6_readBlock ih h, fun _ _ _ _ h => tw_m_X6_readBraces ih h, fun _ _ _ h => tw_m_X6_readBranch ih h, fun _ _ _ h => tw_m_X6_readStatement ih h⟩
theorem tw_f_X6_readAlts {x1 : Int32} {x2 : Int32} {s : t_S} (h_s : TW zS zF s) : t_pq (f_X6_readAlts x1 x2 s) (fun y => TW zS zF y.2) := by
  unfold f_X6_readAlts
  exact ((TWB_X6_readAlts_R 100).1 _ _ _ h_s)
theorem tw_k_X6_readUnitItem_205 {k0 : Int32} {k1 : Int32} {s : t_S} (h_s : TW zS zF s) : t_pq (k_X6_readUnitItem_205 k0 k1 s) (fun y => TW zS zF y) := by
  unfold k_X6_readUnitItem_205
  exact pc_if (fun z1 => tw_st (TW.set h_s ⟨by decide, by decide, by decide, by decide, by decide, by decide, fun y => absurd y.1 (by decide), fun y => absurd y.1 (by decide)⟩) (fun s1 h_s1 => tw_st (TW.set h_s1 ⟨by decide, by decide, by decide, by decide, by decide, by decide, fun y => absurd y.1 (by decide), fun y => absurd y.1 (by decide)⟩) (fun s2 h_s2 => tw_st (TW.set h_s2 ⟨by decide, by decide, by decide, by decide, by decide, by decide, fun y => absurd y.1 (by decide), fun y => absurd y.1 (by decide)⟩) (fun s3 h_s3 => pc_some h_s3)))) (fun _ => pc_none)
theorem tw_f_X6_readBlock {x1 : Int32} {x2 : Int32} {s : t_S} (h_s : TW zS zF s) : t_pq (f_X6_readBlock x1 x2 s) (fun y => TW zS zF y.2) := by
  unfold f_X6_readBlock
  exact ((TWB_X6_readAlts_R 100).2.1 _ _ _ h_s)
theorem tw_k_X6_readUnitItem_165 {l1 : Int32} {s : t_S} (h_s : TW zS zF s) : t_pq (k_X6_readUnitItem_165 l1 s) (fun y => TW zS zF y) := by
  unfold k_X6_readUnitItem_165
  exact pc_bd (tw_f_X2_need h_s) (fun r1 h_r1 => pc_if (fun _ => pc_bd (tw_f_X6_readAlts h_r1) (fun r3 h_r3 => (tw_k_X6_readUnitItem_205 h_r3))) (fun _ => pc_bd (tw_f_X6_readBlock h_r1) (fun r2 h_r2 => (tw_k_X6_readUnitItem_205 h_r2))))
theorem tw_k_X6_readParameters_2 {l1 : Int32} {s : t_S} (h_s : TW zS zF s) : t_pq (k_X6_readParameters_2 l1 s) (fun z => Sum.elim (fun y => TW zS zF y.2) (fun y => TW zS zF y) z) := by
  unfold k_X6_readParameters_2
  exact pc_if (fun _ => pc_mp (pc_some h_s)) (fun _ => pc_bd (tw_f_X6_takePlace h_s) (fun r1 h_r1 => pc_if (fun _ => pc_if (fun z1 => tw_st (TW.set h_r1 ⟨by decide, by decide, by decide, by decide, by decide, by decide, fun y => absurd y.1 (by decide), fun y => absurd y.1 (by decide)⟩) (fun s1 h_s1 => pc_if (fun z2 => tw_st (TW.set h_s1 ⟨by decide, by decide, by decide, by decide, by decide, by decide, fun y => absurd y.1 (by decide), fun y => absurd y.1 (by decide)⟩) (fun s2 h_s2 => pc_bd (tw_f_X2_take h_s2) (fun r4 h_r4 => pc_if (fun _ => pc_mp (pc_some h_r4)) (fun _ => pc_some h_r4)))) (fun _ => pc_none))) (fun _ => pc_none)) (fun _ => pc_mp (pc_some h_r1))))
theorem tw_b_X6_readParameters_2 {x9 : Int32 × t_S} (h : TW zS zF x9.2) : t_pq (b_X6_readParameters_2 x9) (fun z => Sum.elim (fun y => TW zS zF y.2) (fun y => TW zS zF y) z) := tw_k_X6_readParameters_2 h
theorem tw_f_X6_readParameters {s : t_S} (h_s : TW zS zF s) : t_pq (f_X6_readParameters s) (fun y => TW zS zF y) := by
  unfold f_X6_readParameters
  exact pc_lp (fun x h => tw_b_X6_readParameters_2 h) h_s
theorem tw_k_X6_readUnitItem_122 {l1 : Int32} {k0 : Int32} {s : t_S} (h_s : TW zS zF s) : t_pq (k_X6_readUnitItem_122 l1 k0 s) (fun y => TW zS zF y) := by
  unfold k_X6_readUnitItem_122
  exact tw_st (TW.set h_s ⟨by decide, by decide, by decide, by decide, by decide, by decide, fun y => absurd y.1 (by decide), fun y => absurd y.1 (by decide)⟩) (fun s1 h_s1 => pc_bd (tw_f_X6_link h_s1) (fun r1 h_r1 => pc_bd (tw_f_X2_need h_r1) (fun r2 h_r2 => pc_if (fun _ => (tw_k_X6_readUnitItem_165 h_r2)) (fun _ => pc_if (fun _ => (tw_k_X6_readUnitItem_165 h_r2)) (fun _ => pc_bd (tw_f_X6_readParameters h_r2) (fun r3 h_r3 => (tw_k_X6_readUnitItem_165 h_r3)))))))
theorem tw_k_X6_readUnitItem_121 {l1 : Int32} {s : t_S} (h_s : TW zS zF s) : t_pq (k_X6_readUnitItem_121 l1 s) (fun y => TW zS zF y) := by
  unfold k_X6_readUnitItem_121
  exact (tw_k_X6_readUnitItem_122 h_s)
theorem tw_k_X6_readUnitItem_97 {l1 : Int32} {k0 : Int32} {s : t_S} (h_s : TW zS zF s) : t_pq (k_X6_readUnitItem_97 l1 k0 s) (fun y => TW zS zF y) := by
  unfold k_X6_readUnitItem_97
  exact pc_if (fun _ => (tw_k_X6_readUnitItem_121 h_s)) (fun _ => pc_if (fun _ => (tw_k_X6_readUnitItem_121 h_s)) (fun _ => (tw_k_X6_readUnitItem_122 h_s)))
theorem tw_f_X6_readUnitItem {x1 : Int32} {s : t_S} (h_s : TW zS zF s) : t_pq (f_X6_readUnitItem x1 s) (fun y => TW zS zF y) := by
  unfold f_X6_readUnitItem
  exact pc_bd (tw_f_X2_advance h_s) (fun r1 h_r1 => pc_bd (tw_f_X6_takeName h_r1) (fun r2 h_r2 => pc_if (fun _ => pc_some h_r2) (fun _ => tw_st (TW.set h_r2 ⟨by decide, by decide, by decide, by decide, by decide, by decide, fun y => absurd y.1 (by decide), fun y => absurd y.1 (by decide)⟩) (fun s1 h_s1 => pc_bd (tw_f_X5_addUnit h_s1) (fun r3 h_r3 => pc_bd (tw_f_X2_advance h_r3) (fun r4 h_r4 => pc_bd (tw_f_X2_need h_r4) (fun r5 h_r5 => pc_if (fun _ => pc_if (fun z1 => (tw_k_X6_readUnitItem_97 h_r5)) (fun _ => pc_none)) (fun _ => (tw_k_X6_readUnitItem_97 h_r5)))))))))
theorem tw_mIt {s : t_S} (h : TW zS zF s) : t_pq (mIt s) (fun y => TW zS zF y) := by
  unfold mIt
  exact pc_if (fun _ => tw_f_X2_fail h) (fun _ => pc_if (fun _ => tw_f_X6_readTypeItem h) (fun _ => pc_if (fun _ => tw_f_X6_readTemplateItem h) (fun _ => pc_if (fun _ => tw_f_X6_readComponentItem h) (fun _ => pc_if (fun _ => tw_f_X6_readUnitItem h) (fun _ => pc_if (fun _ => tw_f_X6_readUnitItem h) (fun _ => tw_f_X6_readUnitItem h))))))
end
