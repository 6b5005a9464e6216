/-! Level 2: links of a function's body: their home is the function, their places lie behind its ON; calls' places, places' types in order. By gen_tp.py. -/
theorem h2_pq {T U : Type} {a : Option T} {b : Option U} {Q : T → U → Prop} {R : T → Prop} (h : t_h2 a b Q) (g : t_pq a R) : t_h2 a b (fun x y => Q x y ∧ R x) := by
  obtain ⟨x, y, e1, e2, q⟩ := h
  exact ⟨x, y, e1, e2, q, g x e1⟩
section
variable {q lq f0 : Nat} {b m z zz : Int} {G : Prop}
/-- a row that is none of tokens, links, places -/
def ARp (a : Nat) : Prop := 8 ≤ a ∧ a < 845 ∧ a ≠ 440
theorem i32_lt (x : Int32) : x.toInt < 2147483648 := Int32.toInt_lt x
def tc_K (x : Int32) : Prop := x = 9 ∨ x = 10 ∨ x = 11
/-- links from lq on: f0's, at q or behind; calls' below p and b, in order; types of places below n, in order -/
def TL (q lq f0 : Nat) (b n p : Int) (s : t_S) : Prop := ∀ e : Nat, lq ≤ e → (e : Int) < (s.1 846 6).toInt → s.1 851 e = nI f0 ∧ (q : Int) ≤ (s.1 848 e).toInt ∧ (tc_K (s.1 849 e) → (s.1 848 e).toInt < p ∧ (s.1 848 e).toInt < b ∧ ∀ e' : Nat, lq ≤ e' → e' < e → tc_K (s.1 849 e') → (s.1 848 e').toInt < (s.1 848 e).toInt) ∧ (s.1 849 e = 1 → 8 * (f0 : Int) ≤ (s.1 852 e).toInt ∧ (s.1 852 e).toInt < 8 * f0 + n ∧ ∀ e' : Nat, lq ≤ e' → e' < e → s.1 849 e' = 1 → (s.1 852 e').toInt < (s.1 852 e).toInt)
/-- unless a fault is told: G; the token at hand stands at q, m or behind; .. -/
def TP (q lq f0 : Nat) (b m z : Int) (G : Prop) (s : t_S) : Prop := s.1 1 11 = 0 → G ∧ (∀ u v : Nat, u < v → (v : Int) < (s.1 1 6).toInt → (s.1 4 u).toInt < (s.1 4 v).toInt) ∧ (∀ v : Nat, (v : Int) + 1 = (s.1 1 6).toInt → s.1 3 v ≠ 1) ∧ (∃ u : Nat, u < 12001 ∧ (u : Int) < (s.1 1 6).toInt ∧ s.1 1 7 = nI u ∧ s.1 1 9 = s.1 4 u ∧ s.1 1 8 = s.1 3 u ∧ (q : Int) ≤ (s.1 4 u).toInt ∧ m ≤ (s.1 4 u).toInt) ∧ (s.1 845 12 = nI f0 ∧ f0 < 40) ∧ (0 ≤ (s.1 440 f0).toInt ∧ (s.1 440 f0).toInt + z ≤ 8 ∧ 0 ≤ z) ∧ TL q lq f0 b ((s.1 440 f0).toInt + z) (s.1 1 9).toInt s
theorem TL.fr {n p n' p' : Int} {s s' : t_S} (h : TL q lq f0 b n p s) (e6 : s'.1 846 6 = s.1 846 6) (e : ∀ a i, a = 848 ∨ a = 849 ∨ a = 851 ∨ a = 852 → s'.1 a i = s.1 a i) (hn : n ≤ n') (hp : p ≤ p') : TL q lq f0 b n' p' s' := fun i h0 hi => by
  rw [e6] at hi
  obtain ⟨h1, h2, h3, h4⟩ := h i h0 hi
  rw [e 851 i (by omega), e 848 i (by omega), e 849 i (by omega), e 852 i (by omega)]
  refine ⟨h1, h2, fun k => ?_, fun k => ?_⟩
  · obtain ⟨x1, x2, x3⟩ := h3 k
    exact ⟨by omega, x2, fun e' a1 a2 a3 => by rw [e 849 e' (by omega)] at a3; rw [e 848 e' (by omega)]; exact x3 e' a1 a2 a3⟩
  · obtain ⟨x1, x2, x3⟩ := h4 k
    exact ⟨x1, by omega, fun e' a1 a2 a3 => by rw [e 849 e' (by omega)] at a3; rw [e 852 e' (by omega)]; exact x3 e' a1 a2 a3⟩
def tp_W (a k : Nat) : Prop := a ≠ 3 ∧ a ≠ 4 ∧ ¬ (848 ≤ a ∧ a ≤ 852) ∧ a ≠ 1 ∧ ¬ (a = 846 ∧ k = 6) ∧ ¬ (a = 845 ∧ k = 12) ∧ a ≠ 440
theorem TP.fr {s s' : t_S} (h : TP q lq f0 b m z G s) (fr : l2_fr (fun a k => tp_W a k) s s') : TP q lq f0 b m z G s' := fun f => by
  have e : ∀ a j, ¬ tp_W a j → s'.1 a j = s.1 a j := fun a j y => (fr a j y).1
  have c : ∀ j, s'.1 1 j = s.1 1 j := fun j => e 1 j (by unfold tp_W; omega)
  have c4 : ∀ j, s'.1 4 j = s.1 4 j := fun j => e 4 j (by unfold tp_W; omega)
  have c3 : ∀ j, s'.1 3 j = s.1 3 j := fun j => e 3 j (by unfold tp_W; omega)
  rw [c] at f
  obtain ⟨h1, h2, h2', ⟨u, u1, u1', u2, u3, u3', u4, u5⟩, h4, h5, h6⟩ := h f
  refine ⟨h1, fun x y hx hy => ?_, fun v hv => ?_, ⟨u, u1, by rw [c]; exact u1', by rw [c]; exact u2, by rw [c, c4]; exact u3, by rw [c, c3]; exact u3', by rw [c4]; exact u4, by rw [c4]; exact u5⟩, ⟨by rw [e 845 12 (by unfold tp_W; omega)]; exact h4.1, h4.2⟩, by rw [e 440 f0 (by unfold tp_W; omega)]; exact h5, ?_⟩
  · rw [c] at hy
    rw [c4, c4]
    exact h2 x y hx hy
  · rw [c] at hv
    rw [c3]
    exact h2' v hv
  · rw [e 440 f0 (by unfold tp_W; omega), c]
    exact h6.fr (e 846 6 (by unfold tp_W; omega)) (fun a i y => e a i (by unfold tp_W; omega)) (Int.le_refl _) (Int.le_refl _)
theorem TP.set {s : t_S} {a k : Nat} {v : Int32} (h : TP q lq f0 b m z G s) (hk : tp_W a k) : TP q lq f0 b m z G (t_setI s a k v) := h.fr (l2_fr.set hk)
theorem TP.setJ {s : t_S} {a k : Nat} {v : Int64} (h : TP q lq f0 b m z G s) : TP q lq f0 b m z G (t_setJ s a k v) := h
theorem tp_ar {a k : Nat} (h : ARp a) : tp_W a k := by
  unfold ARp at h
  unfold tp_W
  omega
theorem tp_row {a n : Nat} {x : Int32} (h : t_ix x n = true) (h8 : 441 ≤ a) (hn : a + n ≤ 845) : ARp (a + 1 * x.toNatClampNeg) := by
  have q := t_ixI.mp h
  have e : x.toNatClampNeg = x.toInt.toNat := rfl
  unfold ARp
  rw [e]
  omega
theorem tp_st {T : Type} {a : t_S} {f : t_S → Option T} {Q : T → Prop} (h : TP q lq f0 b m z G a) (g : ∀ s, TP q lq f0 b m z G s → t_pq (f s) Q) : t_pq (t_let a f) Q := g a h
theorem TP.more {A : Prop} {s : t_S} (h : TP q lq f0 b m z G s) (a : s.1 1 11 = 0 → A) : TP q lq f0 b m z (G ∧ A) s := fun f => ⟨⟨(h f).1, a f⟩, (h f).2⟩
theorem TP.less {A : Prop} {s : t_S} (h : TP q lq f0 b m z (G ∧ A) s) : TP q lq f0 b m z G s := fun f => ⟨(h f).1.1, (h f).2⟩
theorem tp_less {A : Prop} {o : Option t_S} (h : t_pq o (fun y => TP q lq f0 b m z (G ∧ A) y)) : t_pq o (fun y => TP q lq f0 b m z G y) := fun y e f => ⟨(h y e f).1.1, (h y e f).2⟩
theorem tp_pl {s : t_S} (h : TP q lq f0 b m z G s) (z0 : s.1 1 11 = 0) : (q : Int) ≤ (s.1 1 9).toInt ∧ m ≤ (s.1 1 9).toInt := by
  obtain ⟨_, _, _, ⟨u, _, _, _, u3, _, u4, u5⟩, _⟩ := h z0
  rw [u3]
  exact ⟨u4, u5⟩
theorem tp_hm {s : t_S} (h : TP q lq f0 b m z G s) (z0 : s.1 1 11 = 0) : f_X6_home s = nI f0 := by
  obtain ⟨_, _, _, _, ⟨h4, h5⟩, _⟩ := h z0
  unfold f_X6_home
  rw [h4, if_neg (nI_pos (by omega))]
/-- other bounds -/
theorem TP.bd {b' m' : Int} {s : t_S} (h : TP q lq f0 b m z G s) (hb : s.1 1 11 = 0 → b ≤ b' ∨ (s.1 1 9).toInt ≤ b') (hm : s.1 1 11 = 0 → m' ≤ m ∨ m' ≤ (s.1 1 9).toInt) : TP q lq f0 b' m' z G s := fun f => by
  obtain ⟨h1, h2, h2', ⟨u, u1, u1', u2, u3, u3', u4, u5⟩, h4, h5, h6⟩ := h f
  have hb := hb f
  have hm := hm f
  rw [u3] at hm
  refine ⟨h1, h2, h2', ⟨u, u1, u1', u2, u3, u3', u4, by omega⟩, h4, h5, fun e h0 he => ?_⟩
  obtain ⟨x1, x2, x3, x4⟩ := h6 e h0 he
  exact ⟨x1, x2, fun k => ⟨(x3 k).1, by have := x3 k; omega, (x3 k).2.2⟩, x4⟩
/-- a place more is told of -/
theorem TP.up {s : t_S} (h : TP q lq f0 b m 0 G s) (hz : s.1 1 11 = 0 → (s.1 440 f0).toInt + 1 ≤ 8) : TP q lq f0 b m 1 G s := fun f => by
  obtain ⟨h1, h2, h2', h3, h4, h5, h6⟩ := h f
  have hz := hz f
  refine ⟨h1, h2, h2', h3, h4, ⟨h5.1, by omega, by decide⟩, fun e h0 he => ?_⟩
  obtain ⟨x1, x2, x3, x4⟩ := h6 e h0 he
  exact ⟨x1, x2, x3, fun k => ⟨(x4 k).1, by have := x4 k; omega, (x4 k).2.2⟩⟩
theorem TP.dn {s : t_S} {x : Int32} (h : TP q lq f0 b m 1 G s) (hx : s.1 1 11 = 0 → x = s.1 845 12) : TP q lq f0 b m 0 G (t_setI s 440 (x.toNatClampNeg) (s.1 440 (x.toNatClampNeg) + 1)) := fun f => by
  have fr : l2_fr (fun a k => a = 440 ∧ k = x.toNatClampNeg) s (t_setI s 440 (x.toNatClampNeg) (s.1 440 (x.toNatClampNeg) + 1)) := l2_fr.set ⟨rfl, rfl⟩
  have vv : (t_setI s 440 (x.toNatClampNeg) (s.1 440 (x.toNatClampNeg) + 1)).1 440 (x.toNatClampNeg) = s.1 440 (x.toNatClampNeg) + 1 := by simp only [l2_gI, reduceIte]
  generalize t_setI s 440 (x.toNatClampNeg) (s.1 440 (x.toNatClampNeg) + 1) = s' at *
  have e : ∀ a j, a ≠ 440 → s'.1 a j = s.1 a j := fun a j y => (fr a j (fun w => y w.1)).1
  rw [e 1 11 (by decide)] at f
  obtain ⟨h1, h2, h2', ⟨u, u1, u1', u2, u3, u3', u4, u5⟩, ⟨h4, h4'⟩, h5, h6⟩ := h f
  have hx := hx f
  rw [hx, h4, nI_clamp (n := f0) (by omega)] at vv
  have ev : (s'.1 440 f0).toInt = (s.1 440 f0).toInt + 1 := by
    obtain ⟨n, n1, n2⟩ : ∃ n : Nat, n < 8 ∧ s.1 440 f0 = nI n := ⟨(s.1 440 f0).toInt.toNat, by omega, by
      rw [← Int32.toInt_inj, nI_toInt (by omega)]
      omega⟩
    rw [vv, n2, nI_1, nI_toInt (by omega), nI_toInt (by omega)]
    omega
  refine ⟨h1, fun x y hx hy => ?_, fun v hv => ?_, ⟨u, u1, by rw [e 1 6 (by decide)]; exact u1', by rw [e 1 7 (by decide)]; exact u2, by rw [e 1 9 (by decide), e 4 u (by decide)]; exact u3, by rw [e 1 8 (by decide), e 3 u (by decide)]; exact u3', by rw [e 4 u (by decide)]; exact u4, by rw [e 4 u (by decide)]; exact u5⟩, ⟨by rw [e 845 12 (by decide)]; exact h4, h4'⟩, ?_, ?_⟩
  · rw [e 1 6 (by decide)] at hy
    rw [e 4 x (by decide), e 4 y (by decide)]
    exact h2 x y hx hy
  · rw [e 1 6 (by decide)] at hv
    rw [e 3 v (by decide)]
    exact h2' v hv
  · rw [ev]
    omega
  · rw [ev, e 1 9 (by decide)]
    exact h6.fr (e 846 6 (by decide)) (fun a i y => e a i (by omega)) (by omega) (Int.le_refl _)
theorem tp_advS {m' : Int} {s : t_S} {A B C : Int32} {D : Int64} {u : Nat} (h : TP q lq f0 b m z G s) (hm : m' ≤ m ∨ m' ≤ (s.1 1 9).toInt + 1) (z0 : s.1 1 11 = 0) (eu : s.1 1 7 = nI u) (u1 : u + 1 < 12001) (lt : ((u + 1 : Nat) : Int) < (s.1 1 6).toInt) (eA : A = nI (u + 1)) (eB : B = s.1 3 (u + 1)) (eC : C = s.1 4 (u + 1)) : TP q lq f0 b m' z G (t_setJ (t_setI (t_setI (t_setI s 1 7 A) 1 8 B) 1 9 C) 1 10 D) := by
  have fr : l2_fr (fun a k => a = 1 ∧ (k = 7 ∨ k = 8 ∨ k = 9 ∨ k = 10)) s (t_setJ (t_setI (t_setI (t_setI s 1 7 A) 1 8 B) 1 9 C) 1 10 D) := (((l2_fr.set ⟨rfl, Or.inl rfl⟩).trans (l2_fr.set ⟨rfl, Or.inr (Or.inl rfl)⟩)).trans (l2_fr.set ⟨rfl, Or.inr (Or.inr (Or.inl rfl))⟩)).trans (l2_fr.setJ ⟨rfl, Or.inr (Or.inr (Or.inr rfl))⟩)
  have v7 : (t_setJ (t_setI (t_setI (t_setI s 1 7 A) 1 8 B) 1 9 C) 1 10 D).1 1 7 = A := by simp only [l2_gJI, l2_gI, Nat.reduceEqDiff, reduceIte]
  have v8 : (t_setJ (t_setI (t_setI (t_setI s 1 7 A) 1 8 B) 1 9 C) 1 10 D).1 1 8 = B := by simp only [l2_gJI, l2_gI, Nat.reduceEqDiff, reduceIte]
  have v9 : (t_setJ (t_setI (t_setI (t_setI s 1 7 A) 1 8 B) 1 9 C) 1 10 D).1 1 9 = C := by simp only [l2_gJI, l2_gI, Nat.reduceEqDiff, reduceIte]
  generalize t_setJ (t_setI (t_setI (t_setI s 1 7 A) 1 8 B) 1 9 C) 1 10 D = t at *
  intro f
  obtain ⟨h1, h2, h2', ⟨u', u1', u1'', u2, u3, u3', u4, u5⟩, ⟨h4, h4'⟩, h5, h6⟩ := h z0
  have e : ∀ a j, ¬ (a = 1 ∧ (j = 7 ∨ j = 8 ∨ j = 9 ∨ j = 10)) → t.1 a j = s.1 a j := fun a j y => (fr a j y).1
  have eu' : u' = u := (nI_eq (by omega) (by omega)).mp (u2.symm.trans eu)
  subst eu'
  have up := h2 u' (u' + 1) (Nat.lt_succ_self u') lt
  rw [u3] at hm
  refine ⟨h1, fun x y hx hy => ?_, fun v hv => ?_, ⟨u' + 1, u1, by rw [e 1 6 (by omega)]; exact lt, v7.trans eA, ?_, ?_, ?_, ?_⟩, ⟨by rw [e 845 12 (by omega)]; exact h4, h4'⟩, by rw [e 440 f0 (by omega)]; exact h5, ?_⟩
  · rw [e 1 6 (by omega)] at hy
    rw [e 4 x (by omega), e 4 y (by omega)]
    exact h2 x y hx hy
  · rw [e 1 6 (by omega)] at hv
    rw [e 3 v (by omega)]
    exact h2' v hv
  · rw [v9, eC, e 4 _ (by omega)]
  · rw [v8, eB, e 3 _ (by omega)]
  · rw [e 4 _ (by omega)]
    omega
  · rw [e 4 _ (by omega)]
    omega
  · rw [e 440 f0 (by omega), v9, eC]
    exact h6.fr (e 846 6 (by omega)) (fun a i y => e a i (by omega)) (Int.le_refl _) (by rw [u3]; omega)
theorem tp_adv {m' : Int} {s : t_S} (h : TP q lq f0 b m z G s) (hm : s.1 1 11 = 0 → m' ≤ m ∨ m' ≤ (s.1 1 9).toInt + 1) (z0 : s.1 1 11 = 0) (z1 : s.1 1 7 + 1 < s.1 1 6) (z2 : t_ix ((t_setI s 1 7 (s.1 1 7 + 1)).1 1 7) 12001 = true) : TP q lq f0 b m' z G (t_setJ (t_setI (t_setI (t_setI s 1 7 (s.1 1 7 + 1)) 1 8 ((t_setI s 1 7 (s.1 1 7 + 1)).1 3 ((t_setI s 1 7 (s.1 1 7 + 1)).1 1 7).toNatClampNeg)) 1 9 ((t_setI (t_setI s 1 7 (s.1 1 7 + 1)) 1 8 ((t_setI s 1 7 (s.1 1 7 + 1)).1 3 ((t_setI s 1 7 (s.1 1 7 + 1)).1 1 7).toNatClampNeg)).1 4 ((t_setI (t_setI s 1 7 (s.1 1 7 + 1)) 1 8 ((t_setI s 1 7 (s.1 1 7 + 1)).1 3 ((t_setI s 1 7 (s.1 1 7 + 1)).1 1 7).toNatClampNeg)).1 1 7).toNatClampNeg)) 1 10 ((t_setI (t_setI (t_setI s 1 7 (s.1 1 7 + 1)) 1 8 ((t_setI s 1 7 (s.1 1 7 + 1)).1 3 ((t_setI s 1 7 (s.1 1 7 + 1)).1 1 7).toNatClampNeg)) 1 9 ((t_setI (t_setI s 1 7 (s.1 1 7 + 1)) 1 8 ((t_setI s 1 7 (s.1 1 7 + 1)).1 3 ((t_setI s 1 7 (s.1 1 7 + 1)).1 1 7).toNatClampNeg)).1 4 ((t_setI (t_setI s 1 7 (s.1 1 7 + 1)) 1 8 ((t_setI s 1 7 (s.1 1 7 + 1)).1 3 ((t_setI s 1 7 (s.1 1 7 + 1)).1 1 7).toNatClampNeg)).1 1 7).toNatClampNeg)).2.1 5 ((t_setI (t_setI (t_setI s 1 7 (s.1 1 7 + 1)) 1 8 ((t_setI s 1 7 (s.1 1 7 + 1)).1 3 ((t_setI s 1 7 (s.1 1 7 + 1)).1 1 7).toNatClampNeg)) 1 9 ((t_setI (t_setI s 1 7 (s.1 1 7 + 1)) 1 8 ((t_setI s 1 7 (s.1 1 7 + 1)).1 3 ((t_setI s 1 7 (s.1 1 7 + 1)).1 1 7).toNatClampNeg)).1 4 ((t_setI (t_setI s 1 7 (s.1 1 7 + 1)) 1 8 ((t_setI s 1 7 (s.1 1 7 + 1)).1 3 ((t_setI s 1 7 (s.1 1 7 + 1)).1 1 7).toNatClampNeg)).1 1 7).toNatClampNeg)).1 1 7).toNatClampNeg)) := by
  obtain ⟨h1, h2, h2', ⟨u, u1, u1', u2, u3, u3', u4, u5⟩, ⟨h4, h4'⟩, h5, h6⟩ := h z0
  have e7 : (t_setI s 1 7 (s.1 1 7 + 1)).1 1 7 = s.1 1 7 + 1 := by simp only [l2_gI, reduceIte]
  rw [e7] at z2
  have qq := t_ixI.mp z2
  have lt := Int32.lt_iff_toInt_lt.mp z1
  have e1 : s.1 1 7 + 1 = nI (u + 1) := by rw [u2, nI_1]
  rw [e1, nI_toInt (by omega)] at qq lt
  have cl : (nI (u + 1)).toNatClampNeg = u + 1 := nI_clamp (by omega)
  refine tp_advS h (hm z0) z0 u2 (by omega) lt e1 ?_ ?_
  · simp only [l2_gJI, l2_gI, Nat.reduceEqDiff, reduceIte]
    rw [e1, cl]
  · simp only [l2_gJI, l2_gI, Nat.reduceEqDiff, reduceIte]
    rw [e1, cl]
theorem tp_no {s : t_S} (h : ¬ s.1 1 11 = 0) : TP q lq f0 b m z G s := fun f => absurd f h
theorem tp_flv {x1 : Int32} {s : t_S} (hx : x1 ≠ 0) : t_pq (f_X2_fail x1 s) (fun y => ¬ y.1 1 11 = 0) := by
  unfold f_X2_fail
  refine pc_if (fun _ => pc_lt (pc_lt (pc_lt (pc_some ?_)))) (fun w => pc_some w)
  have e : ∀ t : t_S, ∀ v w : Int32, (t_setI (t_setI (t_setI t 1 11 x1) 1 12 v) 1 8 w).1 1 11 = x1 := fun t v w => by simp only [l2_gI, Nat.reduceEqDiff, reduceIte]
  rw [e]
  exact hx
theorem tp_advance {m' : Int} {s : t_S} (h : TP q lq f0 b m z G s) (hm : s.1 1 11 = 0 → m' ≤ m ∨ m' ≤ (s.1 1 9).toInt + 1) (he : s.1 1 11 = 0 → m' ≤ m ∨ s.1 1 8 = 1) : t_pq (f_X2_advance s) (fun y => TP q lq f0 b m' z G y) := by
  unfold f_X2_advance
  refine pc_if (fun z0 => pc_if (fun z1 => pc_lt (pc_if (fun z2 => pc_lt (pc_if (fun z3 => pc_lt (pc_if (fun z4 => pc_lt (pc_if (fun z5 => pc_lt (pc_lt (pc_some ?_))) (fun z5 => pc_some ?_))) (fun _ => pc_none))) (fun _ => pc_none))) (fun _ => pc_none))) (fun z1 => pc_some ?_)) (fun w => pc_some (tp_no w))
  · intro f
    have e : ∀ x y : Int32, ∀ t : t_S, (t_setI (t_setI t 1 11 x) 1 12 y).1 1 11 = x := fun x y t => by simp only [l2_gI, Nat.reduceEqDiff, reduceIte]
    rw [e] at f
    exact absurd f (by decide)
  · exact tp_adv h hm z0 z1 z2
  · refine h.bd (fun _ => Or.inl (Int.le_refl _)) (fun f => ?_)
    rcases he f with w | w
    · exact Or.inl w
    · obtain ⟨h1, h2, h2', ⟨u, u1, u1', u2, u3, u3', u4, u5⟩, _⟩ := h f
      have n : ¬ (u : Int) + 1 = (s.1 1 6).toInt := fun y => h2' u y (by rw [← u3']; exact w)
      refine absurd ?_ z1
      refine Int32.lt_iff_toInt_lt.mpr ?_
      rw [u2, nI_1, nI_toInt (by omega)]
      omega
/-- a link more -/
theorem tp_add {b' z' : Int} {x1 x2 x3 x4 x5 x6 : Int32} {s : t_S} (h_s : TP q lq f0 b m z G s) (hp : s.1 1 11 = 0 → (q : Int) ≤ x2.toInt) (hh : s.1 1 11 = 0 → x4 = nI f0) (hb : b ≤ b') (hz : s.1 1 11 = 0 → z ≤ z' ∧ (s.1 440 f0).toInt + z' ≤ 8) (hc : s.1 1 11 = 0 → tc_K x1 → x2.toInt < (s.1 1 9).toInt ∧ b ≤ x2.toInt ∧ x2.toInt < b') (ht : s.1 1 11 = 0 → x1 = 1 → 8 * (f0 : Int) + (s.1 440 f0).toInt + z ≤ x5.toInt ∧ x5.toInt < 8 * (f0 : Int) + (s.1 440 f0).toInt + z') : t_pq (f_X3_add x1 x2 x3 x4 x5 x6 s) (fun y => TP q lq f0 b' m z' G y) := by
  have same : TP q lq f0 b' m z' G s := fun f => by
    obtain ⟨h1, h2, h2', h3, h4, h5, h6⟩ := h_s f
    have hz := hz f
    refine ⟨h1, h2, h2', h3, h4, ⟨h5.1, hz.2, by omega⟩, fun e h0 he => ?_⟩
    obtain ⟨x1, x2, x3, x4⟩ := h6 e h0 he
    exact ⟨x1, x2, fun k => ⟨(x3 k).1, by have := x3 k; omega, (x3 k).2.2⟩, fun k => ⟨(x4 k).1, by have := x4 k; omega, (x4 k).2.2⟩⟩
  unfold f_X3_add
  refine pc_if (fun z0 => ?_) (fun _ => pc_some same)
  by_cases y : t_ix (s.1 846 6) 6002 = true
  rotate_left
  · rw [if_neg y]
    exact pc_none
  have qq := t_ixI.mp y
  obtain ⟨l, hl, e6⟩ : ∃ l : Nat, l < 6002 ∧ s.1 846 6 = nI l := ⟨(s.1 846 6).toInt.toNat, by omega, by
    rw [← Int32.toInt_inj, nI_toInt (by omega)]
    omega⟩
  have h : t_pq (f_X3_add x1 x2 x3 x4 x5 x6 s) (fun y => TP q lq f0 b' m z' G y) := by
    obtain ⟨w, e2, z1, z2, z3, z4, z5, z6, z7, z8⟩ := ln_add (l := l) (x1 := x1) (x2 := x2) (x3 := x3) (x4 := x4) (x5 := x5) (x6 := x6) e6 hl
    intro v hv
    rw [e2] at hv
    cases hv
    intro f
    have e : ∀ b j, ¬ ((b = 846 ∧ j = 6) ∨ (848 ≤ b ∧ b ≤ 853 ∧ j = l)) → w.1 b j = s.1 b j := fun b j y => (z1 b j y).1
    rw [e 1 11 (by omega)] at f
    obtain ⟨h1, h2, h2', ⟨u, u1, u1', u2, u3, u3', u4, u5⟩, h4, h5, h6⟩ := same f
    obtain ⟨_, _, _, _, _, h5o, h6o⟩ := h_s f
    have hz := hz f
    have hc := hc f
    have ht := ht f
    refine ⟨h1, fun x y hx hy => ?_, fun v hv => ?_, ⟨u, u1, by rw [e 1 6 (by omega)]; exact u1', by rw [e 1 7 (by omega)]; exact u2, by rw [e 1 9 (by omega), e 4 u (by omega)]; exact u3, by rw [e 1 8 (by omega), e 3 u (by omega)]; exact u3', by rw [e 4 u (by omega)]; exact u4, by rw [e 4 u (by omega)]; exact u5⟩, ⟨by rw [e 845 12 (by omega)]; exact h4.1, h4.2⟩, by rw [e 440 f0 (by omega)]; exact h5, fun i h0 hi => ?_⟩
    · rw [e 1 6 (by omega)] at hy
      rw [e 4 x (by omega), e 4 y (by omega)]
      exact h2 x y hx hy
    · rw [e 1 6 (by omega)] at hv
      rw [e 3 v (by omega)]
      exact h2' v hv
    · rw [z2, nI_toInt (by omega)] at hi
      have old : ∀ i : Nat, lq ≤ i → i < l → (w.1 849 i = s.1 849 i ∧ w.1 848 i = s.1 848 i ∧ w.1 851 i = s.1 851 i ∧ w.1 852 i = s.1 852 i) ∧ (i : Int) < (s.1 846 6).toInt := fun i _ hi => ⟨⟨e 849 i (by omega), e 848 i (by omega), e 851 i (by omega), e 852 i (by omega)⟩, by rw [e6, nI_toInt (by omega)]; omega⟩
      rw [e 1 9 (by omega), e 440 f0 (by omega)]
      by_cases el : i = l
      · subst el
        rw [z3, z4, z6, z7]
        refine ⟨hh f, hp f, fun k => ⟨(hc k).1, (hc k).2.2, fun e' a1 a2 a3 => ?_⟩, fun k => ⟨by have := ht k; omega, by have := ht k; omega, fun e' a1 a2 a3 => ?_⟩⟩
        · obtain ⟨⟨o1, o2, o3, o4⟩, o5⟩ := old e' a1 a2
          rw [o1] at a3
          rw [o2]
          have x1 := ((h6o e' a1 o5).2.2.1 a3).2.1
          have x2 := (hc k).2.1
          omega
        · obtain ⟨⟨o1, o2, o3, o4⟩, o5⟩ := old e' a1 a2
          rw [o1] at a3
          rw [o4]
          have x1 := ((h6o e' a1 o5).2.2.2 a3).2.1
          have x2 := (ht k).1
          omega
      · obtain ⟨⟨o1, o2, o3, o4⟩, o5⟩ := old i h0 (by omega)
        obtain ⟨x1, x2, x3, x4⟩ := h6 i h0 o5
        rw [o1, o2, o3, o4]
        refine ⟨x1, x2, fun k => ⟨(x3 k).1, (x3 k).2.1, fun e' a1 a2 a3 => ?_⟩, fun k => ⟨(x4 k).1, (x4 k).2.1, fun e' a1 a2 a3 => ?_⟩⟩
        · obtain ⟨⟨p1, p2, p3, p4⟩, p5⟩ := old e' a1 (by omega)
          rw [p1] at a3
          rw [p2]
          exact (x3 k).2.2 e' a1 a2 a3
        · obtain ⟨⟨p1, p2, p3, p4⟩, p5⟩ := old e' a1 (by omega)
          rw [p1] at a3
          rw [p4]
          exact (x4 k).2.2 e' a1 a2 a3
  unfold f_X3_add at h
  rw [if_pos z0] at h
  exact h
/-- of no call, of no place -/
def to_ok (x : Int32) : Prop := ¬ tc_K x ∧ x ≠ 1
theorem tp_addo {x1 x2 x3 x4 x5 x6 : Int32} {s : t_S} (hs : to_ok x1) (hp : s.1 1 11 = 0 → (q : Int) ≤ x2.toInt) (hh : s.1 1 11 = 0 → x4 = nI f0) (h_s : TP q lq f0 b m z G s) : t_pq (f_X3_add x1 x2 x3 x4 x5 x6 s) (fun y => TP q lq f0 b m z G y) := tp_add h_s hp hh (Int.le_refl _) (fun f => ⟨Int.le_refl _, (h_s f).2.2.2.2.2.1.2.1⟩) (fun _ k => absurd k hs.1) (fun _ k => absurd k hs.2)
theorem tp_f_X2_advance {s : t_S} (h_s : TP q lq f0 b m z G s) : t_pq (f_X2_advance s) (fun y => TP q lq f0 b m z G y) := tp_advance h_s (fun _ => Or.inl (Int.le_refl _)) (fun _ => Or.inl (Int.le_refl _))
theorem tp_a440 {s : t_S} : t_pq (f_X2_advance s) (fun y => y.1 440 f0 = s.1 440 f0) := by
  unfold f_X2_advance
  exact pc_if (fun _ => pc_if (fun _ => pc_lt (pc_if (fun _ => pc_lt (pc_if (fun _ => pc_lt (pc_if (fun _ => pc_lt (pc_if (fun _ => pc_lt (pc_lt (pc_some (by simp only [l2_gJI, l2_gI, Nat.reduceEqDiff, reduceIte])))) (fun _ => pc_some (by simp only [l2_gJI, l2_gI, Nat.reduceEqDiff, reduceIte])))) (fun _ => pc_none))) (fun _ => pc_none))) (fun _ => pc_none))) (fun _ => pc_some rfl)) (fun _ => pc_some rfl)
theorem tp_f_X2_fail {x1 : Int32} {s : t_S} (hx : x1 ≠ 0) (_ : TP q lq f0 b m z G s) : t_pq (f_X2_fail x1 s) (fun y => TP q lq f0 b m z G y) := fun y e => tp_no (tp_flv hx y e)
theorem tp_f_X2_need {x1 : Int32} {s : t_S} (h_s : TP q lq f0 b m zz G s) : t_pq (f_X2_need x1 s) (fun y => TP q lq f0 b m zz G y) := by
  unfold f_X2_need
  exact pc_if (fun _ => pc_bd (tp_f_X2_advance h_s) (fun r2 h_r2 => pc_some h_r2)) (fun _ => pc_bd (tp_f_X2_fail (by decide) h_s) (fun r1 h_r1 => pc_some h_r1))
theorem tp_100 {s : t_S} (h_s : TP q lq f0 b m 0 G s) (h8 : s.1 1 11 = 0 → (s.1 440 f0).toInt + 1 ≤ 8) : t_pq (k_X6_takePlace_100 s) (fun y => TP q lq f0 b m 0 G y.2 ∧ (y.2.1 1 11 = 0 → y.1 = y.2.1 440 f0 ∧ (y.2.1 440 f0).toInt + 1 ≤ 8)) := by
  unfold k_X6_takePlace_100
  refine pc_if (fun _ => pc_if (fun _ => pc_if (fun _ => pc_lt (pc_lt (pc_bd (P := fun y => TP q lq f0 b m 0 G y ∧ TP q lq f0 b m 1 G y) (fun y e => ?_) (fun r4 h4 => pc_if (fun _ => pc_some ⟨h4.1, fun f => ?_⟩) (fun _ => pc_none))))) (fun _ => pc_none)) (fun _ => pc_none)) (fun w => pc_some ⟨h_s, fun f => absurd f w⟩)
  · have c : ∀ a k, a = 442 ∨ a = 443 → tp_W a k := fun a k y => by unfold tp_W; omega
    exact ⟨tp_f_X2_advance ((h_s.set (c _ _ (Or.inl rfl))).set (c _ _ (Or.inr rfl))) y e, tp_f_X2_advance (((h_s.up h8).set (c _ _ (Or.inl rfl))).set (c _ _ (Or.inr rfl))) y e⟩
  · obtain ⟨_, _, _, _, ⟨h12, hf⟩, h5, _⟩ := h4.2 f
    have e : r4.1 440 ((r4.1 845 12).toNatClampNeg) = r4.1 440 f0 := by rw [h12, nI_clamp (n := f0) (by omega)]
    exact ⟨e, h5.2.1⟩
theorem tp_64 {s : t_S} : t_pq (k_X6_takePlace_64 s) (fun y => TP q lq f0 b m 0 G y.2 ∧ (y.2.1 1 11 = 0 → y.1 = y.2.1 440 f0 ∧ (y.2.1 440 f0).toInt + 1 ≤ 8)) := by
  unfold k_X6_takePlace_64
  exact pc_bd (tp_flv (by decide)) (fun r1 h1 => tp_100 (tp_no h1) (fun f => absurd f h1))
theorem tp_f_X6_takePlace {s : t_S} (h_s : TP q lq f0 b m 0 G s) : t_pq (f_X6_takePlace s) (fun y => TP q lq f0 b m 0 G y.2 ∧ (y.2.1 1 11 = 0 → y.1 = y.2.1 440 f0 ∧ (y.2.1 440 f0).toInt + 1 ≤ 8)) := by
  unfold f_X6_takePlace
  refine pc_if (fun _ => pc_bd pc_any (fun r2 _ => pc_if (fun _ => tp_64) (fun _ => pc_bd pc_any (fun r4 _ => pc_if (fun _ => pc_if (fun _ => pc_if (fun w => tp_100 h_s (fun f => ?_)) (fun _ => pc_bd (tp_flv (by decide)) (fun r1 h1 => tp_100 (tp_no h1) (fun f => absurd f h1)))) (fun _ => pc_none)) (fun _ => tp_64))))) (fun _ => pc_bd (tp_flv (by decide)) (fun r1 h1 => tp_100 (tp_no h1) (fun f => absurd f h1)))
  obtain ⟨_, _, _, _, ⟨h12, hf⟩, h5, _⟩ := h_s f
  rw [h12, nI_clamp (n := f0) (by omega)] at w
  have := Int32.lt_iff_toInt_lt.mp w
  have e8 : (8 : Int32).toInt = 8 := rfl
  omega
theorem tp_f_X2_take {x1 : Int32} {s : t_S} (h_s : TP q lq f0 b m zz G s) : t_pq (f_X2_take x1 s) (fun y => TP q lq f0 b m zz G y.2) := by
  unfold f_X2_take
  exact pc_if (fun _ => pc_bd (tp_f_X2_advance h_s) (fun r1 h_r1 => pc_some h_r1)) (fun _ => pc_some h_s)
theorem tp_k_X6_readParameters_2 {l1 : Int32} {s : t_S} (h_s : TP q lq f0 b m 0 G s) : t_pq (k_X6_readParameters_2 l1 s) (fun w => Sum.elim (fun y => TP q lq f0 b m 0 G y.2) (fun y => TP q lq f0 b m 0 G y) w) := by
  unfold k_X6_readParameters_2
  refine pc_if (fun _ => pc_mp (pc_some h_s)) (fun _ => pc_bd (tp_f_X6_takePlace h_s) (fun r1 h_r1 => pc_if (fun _ => pc_if (fun z1 => pc_lt (pc_if (fun z2 => pc_lt (pc_bd (tp_f_X2_take (TP.dn (((h_r1.1.up (fun f => (h_r1.2 f).2)).set ?_)) (fun _ => rfl))) (fun r4 h_r4 => pc_if (fun _ => pc_mp (pc_some h_r4)) (fun _ => pc_some h_r4)))) (fun _ => pc_none))) (fun _ => pc_none)) (fun _ => pc_mp (pc_some h_r1.1))))
  exact ⟨by decide, by decide, by decide, by decide, fun y => absurd y.1 (by decide), fun y => absurd y.1 (by decide), by decide⟩
theorem tp_b_X6_readParameters_2 {x : Int32 × t_S} (h : TP q lq f0 2147483648 m 0 G x.2) : t_pq (b_X6_readParameters_2 x) (fun z => Sum.elim (fun y => TP q lq f0 2147483648 m 0 G y.2) (fun y => TP q lq f0 2147483648 m 0 G y) z) := tp_k_X6_readParameters_2 h
theorem tp_f_X6_readParameters {s : t_S} (h_s : TP q lq f0 2147483648 m 0 G s) : t_pq (f_X6_readParameters s) (fun y => TP q lq f0 2147483648 m 0 G y) := by
  unfold f_X6_readParameters
  exact pc_lp (fun x h => tp_b_X6_readParameters_2 h) h_s
def TPB_X6_readAlts (q lq f0 : Nat) (b m z : Int) (G : Prop) (rc : RT_X6_readAlts) : Prop := (∀ (x0 : Int32) (x1 : Int32) (s : t_S), TP q lq f0 b m z G s → t_pq (rc.1 x0 x1 s) (fun y => TP q lq f0 b m z G y.2)) ∧ (∀ (x0 : Int32) (x1 : Int32) (s : t_S), TP q lq f0 b m z G s → t_pq (rc.2.1 x0 x1 s) (fun y => TP q lq f0 b m z G y.2)) ∧ (∀ (x0 : Int32) (x1 : Int32) (x2 : Int32) (s : t_S), TP q lq f0 b m z G s → t_pq (rc.2.2.1 x0 x1 x2 s) (fun y => TP q lq f0 b m z G y.2)) ∧ (∀ (x0 : Int32) (x1 : Int32) (s : t_S), TP q lq f0 b m z G s → t_pq (rc.2.2.2.1 x0 x1 s) (fun y => TP q lq f0 b m z G y.2)) ∧ (∀ (x0 : Int32) (x1 : Int32) (s : t_S), TP q lq f0 b m z G s → t_pq (rc.2.2.2.2 x0 x1 s) (fun y => TP q lq f0 b m z G y.2))
theorem tp_m_X6_readAlts {rc : RT_X6_readAlts} {x1 : Int32} {x2 : Int32} {s : t_S} (hrc : TPB_X6_readAlts q lq f0 2147483648 m 0 G rc) (h_s : TP q lq f0 2147483648 m 0 G s) : t_pq (m_X6_readAlts rc x1 x2 s) (fun y => TP q lq f0 2147483648 m 0 G y.2) := by
  unfold m_X6_readAlts
  exact pc_bd (hrc.2.2.1 _ _ _ _ h_s) (fun r1 h_r1 => pc_some h_r1)
theorem tp_m_X6_readBlock {rc : RT_X6_readAlts} {x1 : Int32} {x2 : Int32} {s : t_S} (hrc : TPB_X6_readAlts q lq f0 2147483648 m 0 G rc) (h_s : TP q lq f0 2147483648 m 0 G s) : t_pq (m_X6_readBlock rc x1 x2 s) (fun y => TP q lq f0 2147483648 m 0 G y.2) := by
  unfold m_X6_readBlock
  exact pc_bd (hrc.2.2.1 _ _ _ _ h_s) (fun r1 h_r1 => pc_some h_r1)
theorem tp_k_X6_readBraces_142 {rc : RT_X6_readAlts} {l4 : Int32} {s : t_S} (hrc : TPB_X6_readAlts q lq f0 2147483648 m 0 G rc) (h_s : TP q lq f0 2147483648 m 0 G s) : t_pq (k_X6_readBraces_142 rc l4 s) (fun y => TP q lq f0 2147483648 m 0 G y.2) := by
  unfold k_X6_readBraces_142
  exact pc_bd (tp_f_X2_need h_s) (fun r1 h_r1 => pc_some h_r1)
theorem tp_k_X6_readBraces_132 {rc : RT_X6_readAlts} {l1 : Int32} {l2 : Int32} {l3 : Int32} {l4 : Int32} {l6 : Int32} {l7 : Int32} {s : t_S} (hrc : TPB_X6_readAlts q lq f0 2147483648 m 0 G rc) (h_s : TP q lq f0 2147483648 m 0 G s) : t_pq (k_X6_readBraces_132 rc l1 l2 l3 l4 l6 l7 s) (fun z => Sum.elim (fun y => TP q lq f0 2147483648 m 0 G y.2.2.2.2.2.2) (fun y => TP q lq f0 2147483648 m 0 G y.2) z) := by
  unfold k_X6_readBraces_132
  exact pc_some h_s
theorem tp_k_X6_readBraces_99 {rc : RT_X6_readAlts} {l1 : Int32} {l2 : Int32} {l3 : Int32} {l4 : Int32} {l5 : Int32} {l6 : Int32} {k0 : Int32} {s : t_S} (hrc : TPB_X6_readAlts q lq f0 2147483648 m 0 G rc) (h_s : TP q lq f0 2147483648 m 0 G s) : t_pq (k_X6_readBraces_99 rc l1 l2 l3 l4 l5 l6 k0 s) (fun z => Sum.elim (fun y => TP q lq f0 2147483648 m 0 G y.2.2.2.2.2.2) (fun y => TP q lq f0 2147483648 m 0 G y.2) z) := by
  unfold k_X6_readBraces_99
  exact pc_if (fun _ => pc_if (fun _ => (tp_k_X6_readBraces_132 hrc h_s)) (fun _ => pc_if (fun z1 => tp_st (TP.set h_s (tp_ar (tp_row (a := 445) z1 (by decide) (by decide)))) (fun s1 h_s1 => (tp_k_X6_readBraces_132 hrc h_s1))) (fun _ => pc_none))) (fun _ => (tp_k_X6_readBraces_132 hrc h_s))
theorem tp_k_X6_readBraces_50 {rc : RT_X6_readAlts} {l1 : Int32} {l2 : Int32} {l3 : Int32} {l4 : Int32} {l5 : Int32} {l6 : Int32} {s : t_S} (hrc : TPB_X6_readAlts q lq f0 2147483648 m 0 G rc) (h_s : TP q lq f0 2147483648 m 0 G s) : t_pq (k_X6_readBraces_50 rc l1 l2 l3 l4 l5 l6 s) (fun z => Sum.elim (fun y => TP q lq f0 2147483648 m 0 G y.2.2.2.2.2.2) (fun y => TP q lq f0 2147483648 m 0 G y.2) z) := by
  unfold k_X6_readBraces_50
  exact pc_if (fun _ => pc_mp ((tp_k_X6_readBraces_142 hrc h_s))) (fun _ => pc_if (fun _ => pc_if (fun _ => pc_mp ((tp_k_X6_readBraces_142 hrc h_s))) (fun _ => pc_if (fun _ => pc_bd (hrc.2.2.2.2 _ _ _ h_s) (fun r1 h_r1 => (tp_k_X6_readBraces_99 hrc h_r1))) (fun _ => pc_bd (hrc.2.2.2.1 _ _ _ h_s) (fun r2 h_r2 => (tp_k_X6_readBraces_99 hrc h_r2))))) (fun _ => pc_mp ((tp_k_X6_readBraces_142 hrc h_s))))
theorem tp_b_X6_readBraces_50 {rc : RT_X6_readAlts} {x : Int32 × Int32 × Int32 × Int32 × Int32 × Int32 × t_S} (hrc : TPB_X6_readAlts q lq f0 2147483648 m 0 G rc) (h : TP q lq f0 2147483648 m 0 G x.2.2.2.2.2.2) : t_pq (b_X6_readBraces_50 rc x) (fun z => Sum.elim (fun y => TP q lq f0 2147483648 m 0 G y.2.2.2.2.2.2) (fun y => TP q lq f0 2147483648 m 0 G y.2) z) := tp_k_X6_readBraces_50 hrc h
theorem tp_k_X6_readBraces_34 {rc : RT_X6_readAlts} {l1 : Int32} {l2 : Int32} {l3 : Int32} {s : t_S} (hrc : TPB_X6_readAlts q lq f0 2147483648 m 0 G rc) (h_s : TP q lq f0 2147483648 m 0 G s) : t_pq (k_X6_readBraces_34 rc l1 l2 l3 s) (fun y => TP q lq f0 2147483648 m 0 G y.2) := by
  unfold k_X6_readBraces_34
  exact pc_bd (tp_f_X2_advance h_s) (fun r1 h_r1 => pc_lp (fun x h => tp_b_X6_readBraces_50 hrc h) h_r1)
theorem tp_k_X6_readBraces_20 {rc : RT_X6_readAlts} {l1 : Int32} {l2 : Int32} {l3 : Int32} {s : t_S} (hrc : TPB_X6_readAlts q lq f0 2147483648 m 0 G rc) (h_s : TP q lq f0 2147483648 m 0 G s) : t_pq (k_X6_readBraces_20 rc l1 l2 l3 s) (fun y => TP q lq f0 2147483648 m 0 G y.2) := by
  unfold k_X6_readBraces_20
  exact pc_if (fun _ => (tp_k_X6_readBraces_34 hrc h_s)) (fun _ => pc_bd (tp_f_X2_fail (by decide) h_s) (fun r1 h_r1 => (tp_k_X6_readBraces_34 hrc h_r1)))
theorem tp_m_X6_readBraces {rc : RT_X6_readAlts} {x1 : Int32} {x2 : Int32} {x3 : Int32} {s : t_S} (hrc : TPB_X6_readAlts q lq f0 2147483648 m 0 G rc) (h_s : TP q lq f0 2147483648 m 0 G s) : t_pq (m_X6_readBraces rc x1 x2 x3 s) (fun y => TP q lq f0 2147483648 m 0 G y.2) := by
  unfold m_X6_readBraces
  exact pc_if (fun _ => (tp_k_X6_readBraces_20 hrc h_s)) (fun _ => pc_bd (tp_f_X2_fail (by decide) h_s) (fun r1 h_r1 => (tp_k_X6_readBraces_20 hrc h_r1)))
theorem tp_k_J7_fill_53178_5 {l0 : Nat} {l1 : Int32} {l2 : Int32} {l3 : Int32} {s : t_S} (hl_l0 : ARp l0) (h_s : TP q lq f0 b m zz G s) : t_pq (k_J7_fill_53178_5 l0 l1 l2 l3 s) (fun z => Sum.elim (fun y => (ARp y.1 ∧ TP q lq f0 b m zz G y.2.2.2.2)) (fun y => TP q lq f0 b m zz G y) z) := by
  unfold k_J7_fill_53178_5
  exact pc_if (fun _ => pc_mp (pc_some h_s)) (fun _ => pc_if (fun _ => pc_if (fun _ => tp_st (TP.set h_s (tp_ar hl_l0)) (fun s1 h_s1 => pc_some ⟨hl_l0, h_s1⟩)) (fun _ => pc_none)) (fun _ => pc_none))
theorem tp_b_J7_fill_53178_5 {x : Nat × Int32 × Int32 × Int32 × t_S} (h : (ARp x.1 ∧ TP q lq f0 b m zz G x.2.2.2.2)) : t_pq (b_J7_fill_53178_5 x) (fun z => Sum.elim (fun y => (ARp y.1 ∧ TP q lq f0 b m zz G y.2.2.2.2)) (fun y => TP q lq f0 b m zz G y) z) := tp_k_J7_fill_53178_5 h.1 h.2
theorem tp_f_J7_fill_53178 {x1 : Nat} {x2 : Int32} {s : t_S} (hl_x1 : ARp x1) (h_s : TP q lq f0 b m zz G s) : t_pq (f_J7_fill_53178 x1 x2 s) (fun y => TP q lq f0 b m zz G y) := by
  unfold f_J7_fill_53178
  exact pc_if (fun _ => pc_lp (fun x h => tp_b_J7_fill_53178_5 h) ⟨hl_x1, h_s⟩) (fun _ => pc_none)
theorem tp_f_X5_addStep {x1 : Int32} {x2 : Int32} {s : t_S} (h_s : TP q lq f0 b m zz G s) : t_pq (f_X5_addStep x1 x2 s) (fun y => TP q lq f0 b m zz G y.2) := by
  unfold f_X5_addStep
  exact pc_if (fun _ => tp_st (TP.set h_s ⟨by decide, by decide, by decide, by decide, fun y => absurd y.1 (by decide), fun y => absurd y.1 (by decide), by decide⟩) (fun s1 h_s1 => pc_if (fun z1 => pc_bd (tp_f_J7_fill_53178 (tp_row (a := 445) z1 (by decide) (by decide)) h_s1) (fun r2 h_r2 => tp_st (TP.set h_r2 (tp_ar (tp_row (a := 445) z1 (by decide) (by decide)))) (fun s2 h_s2 => tp_st (TP.set h_s2 (tp_ar (tp_row (a := 445) z1 (by decide) (by decide)))) (fun s3 h_s3 => pc_some h_s3)))) (fun _ => pc_none))) (fun _ => pc_some h_s)
theorem tp_f_X6_link {x1 x2 x3 : Int32} {s : t_S} (hs : to_ok x1) (h_s : TP q lq f0 b m z G s) : t_pq (f_X6_link x1 x2 x3 s) (fun y => TP q lq f0 b m z G y) := by
  unfold f_X6_link
  exact pc_if (fun _ => pc_bd (tp_addo hs (fun f => (tp_pl h_s f).1) (tp_hm h_s) h_s) (fun r3 h3 => pc_bd (tp_f_X2_advance h3) (fun r4 h4 => pc_some h4))) (fun _ => pc_bd (tp_f_X2_fail (by decide) h_s) (fun r5 h5 => pc_some h5))
def TPB_X6_readBase (q lq f0 : Nat) (b m z : Int) (G : Prop) (rc : RT_X6_readBase) : Prop := (∀ (x0 : Int32) (s : t_S), TP q lq f0 b m z G s → t_pq (rc.1 x0 s) (fun y => TP q lq f0 b m z G y)) ∧ (∀ (x0 : Int32) (s : t_S), TP q lq f0 b m z G s → t_pq (rc.2.1 x0 s) (fun y => TP q lq f0 b m z G y)) ∧ (∀ (x0 : Int32) (s : t_S), TP q lq f0 b m z G s → t_pq (rc.2.2.1 x0 s) (fun y => TP q lq f0 b m z G y.2)) ∧ (∀ (x0 : Int32) (s : t_S), TP q lq f0 b m z G s → t_pq (rc.2.2.2.1 x0 s) (fun y => TP q lq f0 b m z G y)) ∧ (∀ (x0 : Int32) (s : t_S), TP q lq f0 b m z G s → t_pq (rc.2.2.2.2.1 x0 s) (fun y => TP q lq f0 b m z G y.2)) ∧ (∀ (x0 : Int32) (x1 : Int32) (x2 : Int32) (x3 : Int32) (s : t_S), TP q lq f0 b m z G s → t_pq (rc.2.2.2.2.2.1 x0 x1 x2 x3 s) (fun y => TP q lq f0 b m z G y)) ∧ (∀ (x0 : Int32) (s : t_S), TP q lq f0 b m z G s → t_pq (rc.2.2.2.2.2.2.1 x0 s) (fun y => TP q lq f0 b m z G y)) ∧ (∀ (x0 : Int32) (s : t_S), TP q lq f0 b m z G s → t_pq (rc.2.2.2.2.2.2.2.1 x0 s) (fun y => TP q lq f0 b m z G y)) ∧ (∀ (x0 : Int32) (x1 : Int32) (s : t_S), TP q lq f0 b m z G s → t_pq (rc.2.2.2.2.2.2.2.2.1 x0 x1 s) (fun y => TP q lq f0 b m z G y.2)) ∧ (∀ (x0 : Int32) (x1 : Int32) (x2 : Int32) (s : t_S), TP q lq f0 b m z G s → t_pq (rc.2.2.2.2.2.2.2.2.2.1 x0 x1 x2 s) (fun y => TP q lq f0 b m z G y)) ∧ (∀ (x0 : Int32) (x1 : Int32) (x2 : Int32) (x3 : Int32) (s : t_S), TP q lq f0 b m z G s → t_pq (rc.2.2.2.2.2.2.2.2.2.2.1 x0 x1 x2 x3 s) (fun y => TP q lq f0 b m z G y)) ∧ (∀ (x0 : Int32) (x1 : Int32) (s : t_S), TP q lq f0 b m z G s → t_pq (rc.2.2.2.2.2.2.2.2.2.2.2.1 x0 x1 s) (fun y => TP q lq f0 b m z G y)) ∧ (∀ (x0 : Int32) (x1 : Int32) (x2 : Int32) (s : t_S), TP q lq f0 b m z G s → t_pq (rc.2.2.2.2.2.2.2.2.2.2.2.2.1 x0 x1 x2 s) (fun y => TP q lq f0 b m z G y)) ∧ (∀ (x0 : Int32) (x1 : Int32) (s : t_S), TP q lq f0 b m z G s → t_pq (rc.2.2.2.2.2.2.2.2.2.2.2.2.2.1 x0 x1 s) (fun y => TP q lq f0 b m z G y.2)) ∧ (∀ (x0 : Int32) (x1 : Int32) (x2 : Int32) (s : t_S), TP q lq f0 b m z G s → t_pq (rc.2.2.2.2.2.2.2.2.2.2.2.2.2.2.1 x0 x1 x2 s) (fun y => TP q lq f0 b m z G y)) ∧ (∀ (x0 : Int32) (x1 : Int32) (x2 : Int32) (s : t_S), TP q lq f0 b m z G s → t_pq (rc.2.2.2.2.2.2.2.2.2.2.2.2.2.2.2 x0 x1 x2 s) (fun y => TP q lq f0 b m z G y))
theorem tp_f_X0_emit {x1 : Int32} {x2 : Int32} {s : t_S} (h_s : TP q lq f0 b m zz G s) : t_pq (f_X0_emit x1 x2 s) (fun y => TP q lq f0 b m zz G y.2) := by
  unfold f_X0_emit
  exact pc_if (fun _ => pc_if (fun z1 => tp_st (TP.set h_s ⟨by decide, by decide, by decide, by decide, fun y => absurd y.1 (by decide), fun y => absurd y.1 (by decide), by decide⟩) (fun s1 h_s1 => pc_if (fun z2 => tp_st (TP.set h_s1 ⟨by decide, by decide, by decide, by decide, fun y => absurd y.1 (by decide), fun y => absurd y.1 (by decide), by decide⟩) (fun s2 h_s2 => tp_st (TP.set h_s2 ⟨by decide, by decide, by decide, by decide, fun y => absurd y.1 (by decide), fun y => absurd y.1 (by decide), by decide⟩) (fun s3 h_s3 => pc_some h_s3))) (fun _ => pc_none))) (fun _ => pc_none)) (fun _ => pc_some h_s)
theorem tp_k_X6_emitWord_55 {l1 l2 k0 : Int32} {s : t_S} (h_s : TP q lq f0 b m z G s) : t_pq (k_X6_emitWord_55 l1 l2 k0 s) (fun y => TP q lq f0 b m z G y) := by
  refine tp_less (A := (q : Int) ≤ (s.1 1 9).toInt ∧ f_X6_home s = nI f0) ?_
  have h1 : TP q lq f0 b m z (G ∧ ((q : Int) ≤ (s.1 1 9).toInt ∧ f_X6_home s = nI f0)) s := h_s.more (fun f => ⟨(tp_pl h_s f).1, tp_hm h_s f⟩)
  unfold k_X6_emitWord_55
  exact pc_if (fun _ => pc_if (fun _ => pc_bd (tp_f_X0_emit h1) (fun r2 h_r2 => pc_bd (tp_addo ⟨by unfold tc_K; decide, by decide⟩ (fun f => (h_r2 f).1.2.1) (fun f => (h_r2 f).1.2.2) h_r2) (fun r3 h_r3 => pc_some h_r3))) (fun _ => pc_bd (tp_f_X0_emit h1) (fun r4 h_r4 => pc_some h_r4))) (fun _ => pc_bd (tp_f_X0_emit h1) (fun r5 h_r5 => pc_some h_r5))
theorem tp_k_X6_emitWord_31 {l1 : Int32} {k0 : Int32} {s : t_S} (h_s : TP q lq f0 b m zz G s) : t_pq (k_X6_emitWord_31 l1 k0 s) (fun y => TP q lq f0 b m zz G y) := by
  unfold k_X6_emitWord_31
  exact pc_if (fun _ => (tp_k_X6_emitWord_55 h_s)) (fun _ => pc_bd pc_any (fun r1 h_r1 => (tp_k_X6_emitWord_55 h_s)))
theorem tp_f_X6_emitWord {s : t_S} (h_s : TP q lq f0 b m zz G s) : t_pq (f_X6_emitWord s) (fun y => TP q lq f0 b m zz G y) := by
  unfold f_X6_emitWord
  exact pc_if (fun _ => (tp_k_X6_emitWord_31 h_s)) (fun _ => pc_bd pc_any (fun r2 h_r2 => (tp_k_X6_emitWord_31 h_s)))
theorem tp_k_X6_readBase_326 {rc : RT_X6_readBase} {l1 : Int32} {l2 : Int32} {s : t_S} (hrc : TPB_X6_readBase q lq f0 b m zz G rc) (h_s : TP q lq f0 b m zz G s) : t_pq (k_X6_readBase_326 rc l1 l2 s) (fun y => TP q lq f0 b m zz G y) := by
  unfold k_X6_readBase_326
  exact pc_bd (tp_f_X2_advance h_s) (fun r1 h_r1 => pc_if (fun _ => pc_bd (hrc.2.2.1 _ _ h_r1) (fun r2 h_r2 => pc_bd (tp_f_X2_need h_r2) (fun r3 h_r3 => pc_some h_r3))) (fun _ => pc_if (fun _ => pc_bd (hrc.2.1 _ _ h_r1) (fun r4 h_r4 => pc_some h_r4)) (fun _ => pc_if (fun _ => pc_bd (hrc.2.2.2.1 _ _ h_r1) (fun r5 h_r5 => pc_some h_r5)) (fun _ => pc_if (fun _ => pc_bd (hrc.2.2.2.2.2.2.1 _ _ h_r1) (fun r6 h_r6 => pc_some h_r6)) (fun _ => pc_if (fun _ => pc_bd (tp_f_X2_need h_r1) (fun r7 h_r7 => pc_bd (hrc.2.2.1 _ _ h_r7) (fun r8 h_r8 => pc_bd (tp_f_X2_need h_r8) (fun r9 h_r9 => pc_bd (tp_f_X0_emit h_r9) (fun r10 h_r10 => pc_some h_r10))))) (fun _ => pc_if (fun _ => pc_bd (tp_f_X0_emit h_r1) (fun r11 h_r11 => pc_bd (tp_f_X6_link ⟨by unfold tc_K; decide, by decide⟩ h_r11) (fun r12 h_r12 => pc_some h_r12))) (fun _ => pc_some h_r1)))))))
theorem tp_f_X0_poolCell {x1 : Int64} {s : t_S} (h_s : TP q lq f0 b m zz G s) : t_pq (f_X0_poolCell x1 s) (fun y => TP q lq f0 b m zz G y.2) := by
  unfold f_X0_poolCell
  exact pc_if (fun _ => pc_if (fun z1 => tp_st (TP.setJ h_s) (fun s1 h_s1 => tp_st (TP.set h_s1 ⟨by decide, by decide, by decide, by decide, fun y => absurd y.1 (by decide), fun y => absurd y.1 (by decide), by decide⟩) (fun s2 h_s2 => pc_some h_s2))) (fun _ => pc_none)) (fun _ => pc_some h_s)
theorem tp_f_X0_poolText {x1 : Int32} {s : t_S} (h_s : TP q lq f0 b m zz G s) : t_pq (f_X0_poolText x1 s) (fun y => TP q lq f0 b m zz G y.2) := by
  unfold f_X0_poolText
  exact pc_if (fun _ => pc_bd pc_any (fun r1 h_r1 => pc_if (fun z1 => tp_st (TP.setJ h_s) (fun s1 h_s1 => tp_st (TP.set h_s1 ⟨by decide, by decide, by decide, by decide, fun y => absurd y.1 (by decide), fun y => absurd y.1 (by decide), by decide⟩) (fun s2 h_s2 => pc_some h_s2))) (fun _ => pc_none))) (fun _ => pc_some h_s)
theorem tp_k_X8_putSign_24 {l0 : Nat} {l2 : Int32} {l3 : Int32} {l4 : Int32} {s : t_S} (hl_l0 : ARp l0) (h_s : TP q lq f0 b m zz G s) : t_pq (k_X8_putSign_24 l0 l2 l3 l4 s) (fun y => TP q lq f0 b m zz G y) := by
  unfold k_X8_putSign_24
  exact pc_if (fun _ => pc_if (fun _ => tp_st (TP.setJ h_s) (fun s1 h_s1 => pc_some h_s1)) (fun _ => pc_none)) (fun _ => pc_none)
theorem tp_f_X8_putSign {x1 : Nat} {x2 : Int32} {x3 : Int32} {x4 : Int32} {s : t_S} (hl_x1 : ARp x1) (h_s : TP q lq f0 b m zz G s) : t_pq (f_X8_putSign x1 x2 x3 x4 s) (fun y => TP q lq f0 b m zz G y) := by
  unfold f_X8_putSign
  exact pc_if (fun _ => pc_if (fun _ => pc_if (fun _ => tp_st (TP.setJ h_s) (fun s1 h_s1 => (tp_k_X8_putSign_24 hl_x1 h_s1))) (fun _ => pc_none)) (fun _ => pc_none)) (fun _ => (tp_k_X8_putSign_24 hl_x1 h_s))
theorem tp_k_X6_poolText_18 {l1 : Int32} {l2 : Int32} {s : t_S} (h_s : TP q lq f0 b m zz G s) : t_pq (k_X6_poolText_18 l1 l2 s) (fun z => Sum.elim (fun y => TP q lq f0 b m zz G y.2.2) (fun y => TP q lq f0 b m zz G y.2) z) := by
  unfold k_X6_poolText_18
  exact pc_if (fun _ => pc_mp (pc_some h_s)) (fun _ => pc_bd pc_any (fun r1 h_r1 => pc_bd (tp_f_X8_putSign (show ARp 337 from ⟨by decide, by decide, by decide⟩) h_s) (fun r2 h_r2 => pc_some h_r2)))
theorem tp_b_X6_poolText_18 {x : Int32 × Int32 × t_S} (h : TP q lq f0 b m zz G x.2.2) : t_pq (b_X6_poolText_18 x) (fun z => Sum.elim (fun y => TP q lq f0 b m zz G y.2.2) (fun y => TP q lq f0 b m zz G y.2) z) := tp_k_X6_poolText_18 h
theorem tp_f_X6_poolText {s : t_S} (h_s : TP q lq f0 b m zz G s) : t_pq (f_X6_poolText s) (fun y => TP q lq f0 b m zz G y.2) := by
  unfold f_X6_poolText
  exact pc_bd (tp_f_X0_poolText h_s) (fun r1 h_r1 => pc_lp (fun x h => tp_b_X6_poolText_18 h) h_r1)
theorem tp_k_X6_readBase_82 {rc : RT_X6_readBase} {l1 : Int32} {l2 : Int32} {s : t_S} (hrc : TPB_X6_readBase q lq f0 b m zz G rc) (h_s : TP q lq f0 b m zz G s) : t_pq (k_X6_readBase_82 rc l1 l2 s) (fun y => TP q lq f0 b m zz G y) := by
  unfold k_X6_readBase_82
  exact pc_if (fun z1 => pc_bd (tp_f_X6_emitWord h_s) (fun r1 h_r1 => (tp_k_X6_readBase_326 hrc h_r1))) (fun _ => pc_if (fun _ => pc_bd (tp_f_X0_poolCell h_s) (fun r3 h_r3 => pc_bd (tp_f_X0_emit h_r3) (fun r4 h_r4 => (tp_k_X6_readBase_326 hrc h_r4)))) (fun _ => pc_if (fun _ => pc_bd (tp_f_X6_poolText h_s) (fun r5 h_r5 => pc_bd (tp_f_X0_emit h_r5) (fun r6 h_r6 => (tp_k_X6_readBase_326 hrc h_r6)))) (fun _ => pc_if (fun _ => pc_bd (tp_f_X0_poolCell h_s) (fun r8 h_r8 => pc_bd (tp_f_X0_emit h_r8) (fun r9 h_r9 => (tp_k_X6_readBase_326 hrc h_r9)))) (fun _ => pc_if (fun _ => pc_bd (tp_f_X0_poolCell h_s) (fun r11 h_r11 => pc_bd (tp_f_X0_emit h_r11) (fun r12 h_r12 => (tp_k_X6_readBase_326 hrc h_r12)))) (fun _ => pc_if (fun _ => pc_bd (tp_f_X0_poolCell h_s) (fun r13 h_r13 => pc_bd (tp_f_X0_emit h_r13) (fun r14 h_r14 => (tp_k_X6_readBase_326 hrc h_r14)))) (fun _ => pc_if (fun _ => pc_bd (tp_f_X0_emit h_s) (fun r15 h_r15 => (tp_k_X6_readBase_326 hrc h_r15))) (fun _ => pc_if (fun _ => pc_bd (tp_f_X0_emit h_s) (fun r16 h_r16 => (tp_k_X6_readBase_326 hrc h_r16))) (fun _ => pc_if (fun _ => pc_bd (tp_f_X0_emit h_s) (fun r17 h_r17 => (tp_k_X6_readBase_326 hrc h_r17))) (fun _ => (tp_k_X6_readBase_326 hrc h_s))))))))))
theorem tp_k_X3_late_31 {l1 : Int32} {l2 : Int32} {s : t_S} (h_s : TP q lq f0 b m zz G s) : t_pq (k_X3_late_31 l1 l2 s) (fun y => TP q lq f0 b m zz G y) := by
  unfold k_X3_late_31
  exact tp_st (TP.set h_s ⟨by decide, by decide, by decide, by decide, fun y => absurd y.2 (by decide), fun y => absurd y.1 (by decide), by decide⟩) (fun s1 h_s1 => tp_st (TP.set h_s1 ⟨by decide, by decide, by decide, by decide, fun y => absurd y.2 (by decide), fun y => absurd y.1 (by decide), by decide⟩) (fun s2 h_s2 => pc_some h_s2))
theorem tp_f_X3_late {x1 : Int32} {x2 : Int32} {s : t_S} (h_s : TP q lq f0 b m zz G s) : t_pq (f_X3_late x1 x2 s) (fun y => TP q lq f0 b m zz G y) := by
  unfold f_X3_late
  exact pc_if (fun _ => (tp_k_X3_late_31 h_s)) (fun _ => pc_if (fun _ => (tp_k_X3_late_31 h_s)) (fun _ => pc_if (fun _ => pc_if (fun _ => pc_some h_s) (fun _ => (tp_k_X3_late_31 h_s))) (fun _ => pc_some h_s)))
theorem tp_k_X6_readBase_55 {rc : RT_X6_readBase} {l1 : Int32} {l2 : Int32} {k0 : Int32} {s : t_S} (hrc : TPB_X6_readBase q lq f0 b m zz G rc) (h_s : TP q lq f0 b m zz G s) : t_pq (k_X6_readBase_55 rc l1 l2 k0 s) (fun y => TP q lq f0 b m zz G y) := by
  unfold k_X6_readBase_55
  exact pc_if (fun _ => (tp_k_X6_readBase_82 hrc h_s)) (fun _ => pc_if (fun _ => (tp_k_X6_readBase_82 hrc h_s)) (fun _ => pc_bd (tp_f_X3_late h_s) (fun r1 h_r1 => (tp_k_X6_readBase_82 hrc h_r1))))
theorem tp_k_X6_readBase_50 {rc : RT_X6_readBase} {l1 : Int32} {l2 : Int32} {s : t_S} (hrc : TPB_X6_readBase q lq f0 b m zz G rc) (h_s : TP q lq f0 b m zz G s) : t_pq (k_X6_readBase_50 rc l1 l2 s) (fun y => TP q lq f0 b m zz G y) := by
  unfold k_X6_readBase_50
  exact (tp_k_X6_readBase_55 hrc h_s)
theorem tp_m_X6_readBase {rc : RT_X6_readBase} {x1 : Int32} {s : t_S} (hrc : TPB_X6_readBase q lq f0 b m zz G rc) (h_s : TP q lq f0 b m zz G s) : t_pq (m_X6_readBase rc x1 s) (fun y => TP q lq f0 b m zz G y) := by
  unfold m_X6_readBase
  exact pc_if (fun _ => (tp_k_X6_readBase_50 hrc h_s)) (fun _ => pc_if (fun _ => (tp_k_X6_readBase_50 hrc h_s)) (fun _ => pc_if (fun _ => (tp_k_X6_readBase_50 hrc h_s)) (fun _ => pc_if (fun _ => (tp_k_X6_readBase_50 hrc h_s)) (fun _ => pc_if (fun _ => (tp_k_X6_readBase_50 hrc h_s)) (fun _ => pc_if (fun _ => (tp_k_X6_readBase_50 hrc h_s)) (fun _ => (tp_k_X6_readBase_55 hrc h_s)))))))
theorem tp_k_X6_readElements_23 {rc : RT_X6_readBase} {k0 : Int32} {s : t_S} (hrc : TPB_X6_readBase q lq f0 b m zz G rc) (h_s : TP q lq f0 b m zz G s) : t_pq (k_X6_readElements_23 rc k0 s) (fun y => TP q lq f0 b m zz G y) := by
  unfold k_X6_readElements_23
  exact pc_bd (tp_f_X2_need h_s) (fun r1 h_r1 => pc_bd (tp_f_X0_emit h_r1) (fun r2 h_r2 => pc_some h_r2))
theorem tp_m_X6_readElements {rc : RT_X6_readBase} {x1 : Int32} {s : t_S} (hrc : TPB_X6_readBase q lq f0 b m zz G rc) (h_s : TP q lq f0 b m zz G s) : t_pq (m_X6_readElements rc x1 s) (fun y => TP q lq f0 b m zz G y) := by
  unfold m_X6_readElements
  exact pc_if (fun _ => (tp_k_X6_readElements_23 hrc h_s)) (fun _ => pc_bd (hrc.2.2.2.2.1 _ _ h_s) (fun r1 h_r1 => (tp_k_X6_readElements_23 hrc h_r1)))
theorem tp_k_X6_lower_63 {l1 : Int32} {l2 : Int32} {s : t_S} (h_s : TP q lq f0 b m zz G s) : t_pq (k_X6_lower_63 l1 l2 s) (fun z => Sum.elim (fun y => TP q lq f0 b m zz G y.2.2) (fun y => TP q lq f0 b m zz G y) z) := by
  unfold k_X6_lower_63
  exact pc_bd (tp_f_X0_emit h_s) (fun r1 h_r1 => pc_if (fun z1 => pc_if (fun z2 => tp_st (TP.set h_r1 ⟨by decide, by decide, by decide, by decide, fun y => absurd y.1 (by decide), fun y => absurd y.1 (by decide), by decide⟩) (fun s1 h_s1 => pc_some h_s1)) (fun _ => pc_none)) (fun _ => pc_none))
theorem tp_k_X6_lower_29 {l1 : Int32} {l2 : Int32} {s : t_S} (h_s : TP q lq f0 b m zz G s) : t_pq (k_X6_lower_29 l1 l2 s) (fun z => Sum.elim (fun y => TP q lq f0 b m zz G y.2.2) (fun y => TP q lq f0 b m zz G y) z) := by
  unfold k_X6_lower_29
  exact tp_st (TP.set h_s ⟨by decide, by decide, by decide, by decide, fun y => absurd y.1 (by decide), fun y => absurd y.2 (by decide), by decide⟩) (fun s1 h_s1 => pc_if (fun z1 => pc_if (fun _ => (tp_k_X6_lower_63 h_s1)) (fun _ => pc_if (fun _ => (tp_k_X6_lower_63 h_s1)) (fun _ => pc_bd (tp_f_X0_emit h_s1) (fun r3 h_r3 => pc_some h_r3)))) (fun _ => pc_none))
theorem tp_k_X6_lower_0 {l1 : Int32} {l2 : Int32} {s : t_S} (h_s : TP q lq f0 b m zz G s) : t_pq (k_X6_lower_0 l1 l2 s) (fun z => Sum.elim (fun y => TP q lq f0 b m zz G y.2.2) (fun y => TP q lq f0 b m zz G y) z) := by
  unfold k_X6_lower_0
  exact pc_if (fun _ => pc_mp (pc_some h_s)) (fun _ => pc_bd pc_any (fun r1 h_r1 => pc_if (fun _ => (tp_k_X6_lower_29 h_s)) (fun _ => pc_bd pc_any (fun r2 h_r2 => pc_if (fun _ => pc_if (fun _ => pc_mp (pc_some h_s)) (fun _ => (tp_k_X6_lower_29 h_s))) (fun _ => pc_mp (pc_some h_s))))))
theorem tp_b_X6_lower_0 {x : Int32 × Int32 × t_S} (h : TP q lq f0 b m zz G x.2.2) : t_pq (b_X6_lower_0 x) (fun z => Sum.elim (fun y => TP q lq f0 b m zz G y.2.2) (fun y => TP q lq f0 b m zz G y) z) := tp_k_X6_lower_0 h
theorem tp_f_X6_lower {x1 : Int32} {x2 : Int32} {s : t_S} (h_s : TP q lq f0 b m zz G s) : t_pq (f_X6_lower x1 x2 s) (fun y => TP q lq f0 b m zz G y) := by
  unfold f_X6_lower
  exact pc_lp (fun x h => tp_b_X6_lower_0 h) h_s
theorem tp_k_X6_readExp_175 {rc : RT_X6_readBase} {l1 : Int32} {l2 : Int32} {l3 : Int32} {s : t_S} (hrc : TPB_X6_readBase q lq f0 b m zz G rc) (h_s : TP q lq f0 b m zz G s) : t_pq (k_X6_readExp_175 rc l1 l2 l3 s) (fun y => TP q lq f0 b m zz G y.2) := by
  unfold k_X6_readExp_175
  exact pc_bd (tp_f_X6_lower h_s) (fun r1 h_r1 => pc_if (fun _ => pc_bd (tp_f_X0_emit h_r1) (fun r2 h_r2 => pc_some h_r2)) (fun _ => pc_some h_r1))
theorem tp_f_X6_node {s : t_S} (h_s : TP q lq f0 b m zz G s) : t_pq (f_X6_node s) (fun y => TP q lq f0 b m zz G y) := by
  unfold f_X6_node
  exact pc_if (fun _ => tp_st (TP.set h_s ⟨by decide, by decide, by decide, by decide, fun y => absurd y.1 (by decide), fun y => absurd y.2 (by decide), by decide⟩) (fun s1 h_s1 => pc_some h_s1)) (fun _ => pc_bd (tp_f_X2_fail (by decide) h_s) (fun r1 h_r1 => pc_some h_r1))
theorem tp_f_X6_pushWaiting {x1 : Int32} {x2 : Int32} {s : t_S} (h_s : TP q lq f0 b m zz G s) : t_pq (f_X6_pushWaiting x1 x2 s) (fun y => TP q lq f0 b m zz G y) := by
  unfold f_X6_pushWaiting
  exact pc_if (fun _ => pc_if (fun z1 => tp_st (TP.set h_s ⟨by decide, by decide, by decide, by decide, fun y => absurd y.1 (by decide), fun y => absurd y.1 (by decide), by decide⟩) (fun s1 h_s1 => pc_if (fun z2 => tp_st (TP.set h_s1 ⟨by decide, by decide, by decide, by decide, fun y => absurd y.1 (by decide), fun y => absurd y.1 (by decide), by decide⟩) (fun s2 h_s2 => tp_st (TP.set h_s2 ⟨by decide, by decide, by decide, by decide, fun y => absurd y.1 (by decide), fun y => absurd y.2 (by decide), by decide⟩) (fun s3 h_s3 => pc_some h_s3))) (fun _ => pc_none))) (fun _ => pc_none)) (fun _ => pc_some h_s)
theorem tp_k_X6_pushOperator_36 {l1 : Int32} {l2 : Int32} {s : t_S} (h_s : TP q lq f0 b m zz G s) : t_pq (k_X6_pushOperator_36 l1 l2 s) (fun y => TP q lq f0 b m zz G y) := by
  unfold k_X6_pushOperator_36
  exact pc_bd (tp_f_X6_pushWaiting h_s) (fun r1 h_r1 => pc_some h_r1)
theorem tp_k_X6_pushOperator_19 {l1 : Int32} {l2 : Int32} {s : t_S} (h_s : TP q lq f0 b m zz G s) : t_pq (k_X6_pushOperator_19 l1 l2 s) (fun y => TP q lq f0 b m zz G y) := by
  unfold k_X6_pushOperator_19
  exact pc_if (fun _ => pc_bd (tp_f_X0_emit h_s) (fun r1 h_r1 => (tp_k_X6_pushOperator_36 h_r1))) (fun _ => (tp_k_X6_pushOperator_36 h_s))
theorem tp_f_X6_pushOperator {x1 : Int32} {s : t_S} (h_s : TP q lq f0 b m zz G s) : t_pq (f_X6_pushOperator x1 s) (fun y => TP q lq f0 b m zz G y) := by
  unfold f_X6_pushOperator
  exact pc_if (fun _ => pc_bd (tp_f_X0_emit h_s) (fun r1 h_r1 => (tp_k_X6_pushOperator_19 h_r1))) (fun _ => (tp_k_X6_pushOperator_19 h_s))
theorem tp_k_X6_readExp_125 {rc : RT_X6_readBase} {l1 : Int32} {l2 : Int32} {l3 : Int32} {l4 : Int32} {s : t_S} (hrc : TPB_X6_readBase q lq f0 b m zz G rc) (h_s : TP q lq f0 b m zz G s) : t_pq (k_X6_readExp_125 rc l1 l2 l3 l4 s) (fun z => Sum.elim (fun y => TP q lq f0 b m zz G y.2.2.2.2) (fun y => TP q lq f0 b m zz G y.2) z) := by
  unfold k_X6_readExp_125
  exact pc_bd (tp_f_X6_node h_s) (fun r1 h_r1 => pc_if (fun _ => pc_bd (tp_f_X6_pushOperator h_r1) (fun r2 h_r2 => pc_bd (tp_f_X2_advance h_r2) (fun r3 h_r3 => pc_bd (hrc.2.2.2.2.2.2.2.1 _ _ h_r3) (fun r4 h_r4 => pc_some h_r4)))) (fun _ => pc_mp ((tp_k_X6_readExp_175 hrc h_r1))))
theorem tp_k_X6_readExp_60 {rc : RT_X6_readBase} {l1 : Int32} {l2 : Int32} {l3 : Int32} {l4 : Int32} {s : t_S} (hrc : TPB_X6_readBase q lq f0 b m zz G rc) (h_s : TP q lq f0 b m zz G s) : t_pq (k_X6_readExp_60 rc l1 l2 l3 l4 s) (fun z => Sum.elim (fun y => TP q lq f0 b m zz G y.2.2.2.2) (fun y => TP q lq f0 b m zz G y.2) z) := by
  unfold k_X6_readExp_60
  exact pc_if (fun _ => pc_mp ((tp_k_X6_readExp_175 hrc h_s))) (fun _ => pc_if (fun _ => pc_mp ((tp_k_X6_readExp_175 hrc h_s))) (fun _ => pc_bd (tp_f_X6_lower h_s) (fun r2 h_r2 => pc_if (fun _ => pc_if (fun _ => (tp_k_X6_readExp_125 hrc h_r2)) (fun _ => pc_bd pc_any (fun r3 h_r3 => pc_if (fun _ => pc_bd (tp_f_X2_fail (by decide) h_r2) (fun r4 h_r4 => (tp_k_X6_readExp_125 hrc h_r4))) (fun _ => (tp_k_X6_readExp_125 hrc h_r2))))) (fun _ => (tp_k_X6_readExp_125 hrc h_r2)))))
theorem tp_b_X6_readExp_60 {rc : RT_X6_readBase} {x : Int32 × Int32 × Int32 × Int32 × t_S} (hrc : TPB_X6_readBase q lq f0 b m zz G rc) (h : TP q lq f0 b m zz G x.2.2.2.2) : t_pq (b_X6_readExp_60 rc x) (fun z => Sum.elim (fun y => TP q lq f0 b m zz G y.2.2.2.2) (fun y => TP q lq f0 b m zz G y.2) z) := tp_k_X6_readExp_60 hrc h
theorem tp_k_X6_readExp_43 {rc : RT_X6_readBase} {l1 : Int32} {l2 : Int32} {s : t_S} (hrc : TPB_X6_readBase q lq f0 b m zz G rc) (h_s : TP q lq f0 b m zz G s) : t_pq (k_X6_readExp_43 rc l1 l2 s) (fun y => TP q lq f0 b m zz G y.2) := by
  unfold k_X6_readExp_43
  exact pc_bd (hrc.2.2.2.2.2.2.2.1 _ _ h_s) (fun r1 h_r1 => pc_lp (fun x h => tp_b_X6_readExp_60 hrc h) h_r1)
theorem tp_k_X6_readExp_29 {rc : RT_X6_readBase} {l1 : Int32} {l2 : Int32} {s : t_S} (hrc : TPB_X6_readBase q lq f0 b m zz G rc) (h_s : TP q lq f0 b m zz G s) : t_pq (k_X6_readExp_29 rc l1 l2 s) (fun y => TP q lq f0 b m zz G y.2) := by
  unfold k_X6_readExp_29
  exact pc_if (fun _ => (tp_k_X6_readExp_43 hrc h_s)) (fun _ => pc_bd (tp_f_X2_fail (by decide) h_s) (fun r1 h_r1 => (tp_k_X6_readExp_43 hrc h_r1)))
theorem tp_m_X6_readExp {rc : RT_X6_readBase} {x1 : Int32} {s : t_S} (hrc : TPB_X6_readBase q lq f0 b m zz G rc) (h_s : TP q lq f0 b m zz G s) : t_pq (m_X6_readExp rc x1 s) (fun y => TP q lq f0 b m zz G y.2) := by
  unfold m_X6_readExp
  exact pc_if (fun _ => pc_bd (tp_f_X2_fail (by decide) h_s) (fun r2 h_r2 => (tp_k_X6_readExp_29 hrc h_r2))) (fun _ => (tp_k_X6_readExp_29 hrc h_s))
theorem tp_k_X6_readExpFields_190 {rc : RT_X6_readBase} {l2 : Int32} {l3 : Int32} {s : t_S} (hrc : TPB_X6_readBase q lq f0 b m zz G rc) (h_s : TP q lq f0 b m zz G s) : t_pq (k_X6_readExpFields_190 rc l2 l3 s) (fun z => Sum.elim (fun y => TP q lq f0 b m zz G y.2.2) (fun y => TP q lq f0 b m zz G y) z) := by
  unfold k_X6_readExpFields_190
  exact pc_if (fun _ => pc_mp (tp_st (TP.set h_s ⟨by decide, by decide, by decide, by decide, fun y => absurd y.1 (by decide), fun y => absurd y.2 (by decide), by decide⟩) (fun s1 h_s1 => pc_some h_s1))) (fun _ => pc_if (fun z1 => pc_bd (tp_f_X0_emit h_s) (fun r2 h_r2 => pc_some h_r2)) (fun _ => pc_none))
theorem tp_b_X6_readExpFields_190 {rc : RT_X6_readBase} {x : Int32 × Int32 × t_S} (hrc : TPB_X6_readBase q lq f0 b m zz G rc) (h : TP q lq f0 b m zz G x.2.2) : t_pq (b_X6_readExpFields_190 rc x) (fun z => Sum.elim (fun y => TP q lq f0 b m zz G y.2.2) (fun y => TP q lq f0 b m zz G y) z) := tp_k_X6_readExpFields_190 hrc h
theorem tp_k_X6_readExpFields_163 {rc : RT_X6_readBase} {l2 : Int32} {s : t_S} (hrc : TPB_X6_readBase q lq f0 b m zz G rc) (h_s : TP q lq f0 b m zz G s) : t_pq (k_X6_readExpFields_163 rc l2 s) (fun y => TP q lq f0 b m zz G y) := by
  unfold k_X6_readExpFields_163
  exact pc_bd (tp_f_X2_need h_s) (fun r1 h_r1 => pc_bd (tp_f_X0_emit h_r1) (fun r2 h_r2 => pc_lp (fun x h => tp_b_X6_readExpFields_190 hrc h) h_r2))
theorem tp_k_X6_takeFieldName_62 {l1 : Int32} {s : t_S} (h_s : TP q lq f0 b m zz G s) : t_pq (k_X6_takeFieldName_62 l1 s) (fun y => TP q lq f0 b m zz G y.2) := by
  unfold k_X6_takeFieldName_62
  exact pc_bd (tp_f_X2_advance h_s) (fun r1 h_r1 => pc_some h_r1)
theorem tp_k_X6_takeFieldName_19 {s : t_S} (h_s : TP q lq f0 b m zz G s) : t_pq (k_X6_takeFieldName_19 s) (fun y => TP q lq f0 b m zz G y.2) := by
  unfold k_X6_takeFieldName_19
  exact pc_if (fun _ => pc_if (fun _ => (tp_k_X6_takeFieldName_62 h_s)) (fun _ => pc_bd (tp_f_X3_late h_s) (fun r2 h_r2 => (tp_k_X6_takeFieldName_62 h_r2)))) (fun _ => pc_some h_s)
theorem tp_f_X6_takeFieldName {s : t_S} (h_s : TP q lq f0 b m zz G s) : t_pq (f_X6_takeFieldName s) (fun y => TP q lq f0 b m zz G y.2) := by
  unfold f_X6_takeFieldName
  exact pc_if (fun z1 => (tp_k_X6_takeFieldName_19 h_s)) (fun _ => pc_bd (tp_f_X2_fail (by decide) h_s) (fun r1 h_r1 => (tp_k_X6_takeFieldName_19 h_r1)))
theorem tp_k_X6_readExpFields_87 {rc : RT_X6_readBase} {l1 : Int32} {l2 : Int32} {l3 : Int32} {s : t_S} (hrc : TPB_X6_readBase q lq f0 b m zz G rc) (h_s : TP q lq f0 b m zz G s) : t_pq (k_X6_readExpFields_87 rc l1 l2 l3 s) (fun z => Sum.elim (fun y => TP q lq f0 b m zz G y.2.2.2) (fun y => TP q lq f0 b m zz G y) z) := by
  unfold k_X6_readExpFields_87
  exact pc_bd (tp_f_X6_node h_s) (fun r1 h_r1 => pc_if (fun _ => pc_bd (tp_f_X6_takeFieldName h_r1) (fun r2 h_r2 => pc_if (fun z1 => tp_st (TP.set h_r2 ⟨by decide, by decide, by decide, by decide, fun y => absurd y.1 (by decide), fun y => absurd y.1 (by decide), by decide⟩) (fun s1 h_s1 => tp_st (TP.set h_s1 ⟨by decide, by decide, by decide, by decide, fun y => absurd y.1 (by decide), fun y => absurd y.2 (by decide), by decide⟩) (fun s2 h_s2 => pc_bd (tp_f_X2_need h_s2) (fun r4 h_r4 => pc_bd (hrc.2.2.1 _ _ h_r4) (fun r5 h_r5 => pc_bd (tp_f_X2_take h_r5) (fun r6 h_r6 => pc_if (fun _ => pc_mp ((tp_k_X6_readExpFields_163 hrc h_r6))) (fun _ => pc_some h_r6))))))) (fun _ => pc_none))) (fun _ => pc_mp (pc_some h_r1)))
theorem tp_k_X6_readExpFields_19 {rc : RT_X6_readBase} {l1 : Int32} {l2 : Int32} {l3 : Int32} {s : t_S} (hrc : TPB_X6_readBase q lq f0 b m zz G rc) (h_s : TP q lq f0 b m zz G s) : t_pq (k_X6_readExpFields_19 rc l1 l2 l3 s) (fun z => Sum.elim (fun y => TP q lq f0 b m zz G y.2.2.2) (fun y => TP q lq f0 b m zz G y) z) := by
  unfold k_X6_readExpFields_19
  exact pc_if (fun _ => pc_mp ((tp_k_X6_readExpFields_163 hrc h_s))) (fun _ => pc_if (fun z1 => pc_bd pc_any (fun r2 h_r2 => pc_if (fun _ => pc_if (fun _ => pc_bd (tp_f_X2_fail (by decide) h_s) (fun r3 h_r3 => (tp_k_X6_readExpFields_87 hrc h_r3))) (fun _ => (tp_k_X6_readExpFields_87 hrc h_s))) (fun _ => pc_bd (tp_f_X2_fail (by decide) h_s) (fun r4 h_r4 => (tp_k_X6_readExpFields_87 hrc h_r4))))) (fun _ => pc_bd (tp_f_X2_fail (by decide) h_s) (fun r5 h_r5 => (tp_k_X6_readExpFields_87 hrc h_r5))))
theorem tp_b_X6_readExpFields_19 {rc : RT_X6_readBase} {x : Int32 × Int32 × Int32 × t_S} (hrc : TPB_X6_readBase q lq f0 b m zz G rc) (h : TP q lq f0 b m zz G x.2.2.2) : t_pq (b_X6_readExpFields_19 rc x) (fun z => Sum.elim (fun y => TP q lq f0 b m zz G y.2.2.2) (fun y => TP q lq f0 b m zz G y) z) := tp_k_X6_readExpFields_19 hrc h
theorem tp_m_X6_readExpFields {rc : RT_X6_readBase} {x1 : Int32} {s : t_S} (hrc : TPB_X6_readBase q lq f0 b m zz G rc) (h_s : TP q lq f0 b m zz G s) : t_pq (m_X6_readExpFields rc x1 s) (fun y => TP q lq f0 b m zz G y) := by
  unfold m_X6_readExpFields
  exact pc_if (fun _ => (tp_k_X6_readExpFields_163 hrc h_s)) (fun _ => pc_lp (fun x h => tp_b_X6_readExpFields_19 hrc h) h_s)
theorem tp_k_X6_readExps_45 {rc : RT_X6_readBase} {l1 : Int32} {l2 : Int32} {s : t_S} (hrc : TPB_X6_readBase q lq f0 b m zz G rc) (h_s : TP q lq f0 b m zz G s) : t_pq (k_X6_readExps_45 rc l1 l2 s) (fun z => Sum.elim (fun y => TP q lq f0 b m zz G y.2.2) (fun y => TP q lq f0 b m zz G y.2) z) := by
  unfold k_X6_readExps_45
  exact pc_bd (hrc.2.2.1 _ _ h_s) (fun r1 h_r1 => pc_bd (tp_f_X2_take h_r1) (fun r2 h_r2 => pc_if (fun _ => pc_mp (pc_some h_r2)) (fun _ => pc_some h_r2)))
theorem tp_k_X6_readExps_2 {rc : RT_X6_readBase} {l1 : Int32} {l2 : Int32} {s : t_S} (hrc : TPB_X6_readBase q lq f0 b m zz G rc) (h_s : TP q lq f0 b m zz G s) : t_pq (k_X6_readExps_2 rc l1 l2 s) (fun z => Sum.elim (fun y => TP q lq f0 b m zz G y.2.2) (fun y => TP q lq f0 b m zz G y.2) z) := by
  unfold k_X6_readExps_2
  exact pc_if (fun _ => pc_mp (pc_some h_s)) (fun _ => pc_if (fun _ => pc_if (fun _ => pc_if (fun _ => (tp_k_X6_readExps_45 hrc h_s)) (fun _ => pc_bd (tp_f_X2_fail (by decide) h_s) (fun r2 h_r2 => (tp_k_X6_readExps_45 hrc h_r2)))) (fun _ => (tp_k_X6_readExps_45 hrc h_s))) (fun _ => pc_mp (pc_some h_s)))
theorem tp_b_X6_readExps_2 {rc : RT_X6_readBase} {x : Int32 × Int32 × t_S} (hrc : TPB_X6_readBase q lq f0 b m zz G rc) (h : TP q lq f0 b m zz G x.2.2) : t_pq (b_X6_readExps_2 rc x) (fun z => Sum.elim (fun y => TP q lq f0 b m zz G y.2.2) (fun y => TP q lq f0 b m zz G y.2) z) := tp_k_X6_readExps_2 hrc h
theorem tp_m_X6_readExps {rc : RT_X6_readBase} {x1 : Int32} {s : t_S} (hrc : TPB_X6_readBase q lq f0 b m zz G rc) (h_s : TP q lq f0 b m zz G s) : t_pq (m_X6_readExps rc x1 s) (fun y => TP q lq f0 b m zz G y.2) := by
  unfold m_X6_readExps
  exact pc_lp (fun x h => tp_b_X6_readExps_2 hrc h) h_s
theorem tp_k_X6_readInner_131 {rc : RT_X6_readBase} {s : t_S} (hrc : TPB_X6_readBase q lq f0 b m zz G rc) (h_s : TP q lq f0 b m zz G s) : t_pq (k_X6_readInner_131 rc s) (fun y => TP q lq f0 b m zz G y) := by
  unfold k_X6_readInner_131
  exact pc_bd (tp_f_X2_need h_s) (fun r1 h_r1 => pc_some h_r1)
theorem tp_k_X6_readInner_106 {rc : RT_X6_readBase} {l1 : Int32} {l3 : Int32} {l4 : Int32} {l6 : Int32} {l7 : Int32} {s : t_S} (hrc : TPB_X6_readBase q lq f0 b m zz G rc) (h_s : TP q lq f0 b m zz G s) : t_pq (k_X6_readInner_106 rc l1 l3 l4 l6 l7 s) (fun z => Sum.elim (fun y => TP q lq f0 b m zz G y.2.2.2.2.2) (fun y => TP q lq f0 b m zz G y) z) := by
  unfold k_X6_readInner_106
  exact pc_bd (tp_f_X2_take h_s) (fun r1 h_r1 => pc_if (fun _ => pc_mp ((tp_k_X6_readInner_131 hrc h_r1))) (fun _ => pc_some h_r1))
theorem tp_k_X6_readInner_51 {rc : RT_X6_readBase} {l1 : Int32} {l3 : Int32} {l4 : Int32} {l5 : Int32} {l6 : Int32} {s : t_S} (hrc : TPB_X6_readBase q lq f0 b m zz G rc) (h_s : TP q lq f0 b m zz G s) : t_pq (k_X6_readInner_51 rc l1 l3 l4 l5 l6 s) (fun z => Sum.elim (fun y => TP q lq f0 b m zz G y.2.2.2.2.2) (fun y => TP q lq f0 b m zz G y) z) := by
  unfold k_X6_readInner_51
  exact pc_bd (hrc.2.2.2.2.2.2.2.2.2.2.2.2.2.1 _ _ _ h_s) (fun r1 h_r1 => pc_if (fun _ => pc_if (fun _ => pc_if (fun z1 => tp_st (TP.set h_r1 ⟨by decide, by decide, by decide, by decide, fun y => absurd y.1 (by decide), fun y => absurd y.1 (by decide), by decide⟩) (fun s2 h_s2 => (tp_k_X6_readInner_106 hrc h_s2))) (fun _ => pc_none)) (fun _ => pc_if (fun z2 => tp_st (TP.set h_r1 ⟨by decide, by decide, by decide, by decide, fun y => absurd y.1 (by decide), fun y => absurd y.1 (by decide), by decide⟩) (fun s1 h_s1 => (tp_k_X6_readInner_106 hrc h_s1))) (fun _ => pc_none))) (fun _ => pc_mp (pc_some h_r1)))
theorem tp_k_X6_readInner_16 {rc : RT_X6_readBase} {l1 : Int32} {l3 : Int32} {l4 : Int32} {l5 : Int32} {l6 : Int32} {s : t_S} (hrc : TPB_X6_readBase q lq f0 b m zz G rc) (h_s : TP q lq f0 b m zz G s) : t_pq (k_X6_readInner_16 rc l1 l3 l4 l5 l6 s) (fun z => Sum.elim (fun y => TP q lq f0 b m zz G y.2.2.2.2.2) (fun y => TP q lq f0 b m zz G y) z) := by
  unfold k_X6_readInner_16
  exact pc_if (fun _ => pc_mp ((tp_k_X6_readInner_131 hrc h_s))) (fun _ => pc_if (fun _ => pc_if (fun _ => (tp_k_X6_readInner_51 hrc h_s)) (fun _ => pc_bd (tp_f_X2_fail (by decide) h_s) (fun r2 h_r2 => (tp_k_X6_readInner_51 hrc h_r2)))) (fun _ => (tp_k_X6_readInner_51 hrc h_s)))
theorem tp_b_X6_readInner_16 {rc : RT_X6_readBase} {x : Int32 × Int32 × Int32 × Int32 × Int32 × t_S} (hrc : TPB_X6_readBase q lq f0 b m zz G rc) (h : TP q lq f0 b m zz G x.2.2.2.2.2) : t_pq (b_X6_readInner_16 rc x) (fun z => Sum.elim (fun y => TP q lq f0 b m zz G y.2.2.2.2.2) (fun y => TP q lq f0 b m zz G y) z) := tp_k_X6_readInner_16 hrc h
theorem tp_m_X6_readInner {rc : RT_X6_readBase} {x1 : Int32} {x2 : Int32} {x3 : Int32} {x4 : Int32} {s : t_S} (hrc : TPB_X6_readBase q lq f0 b m zz G rc) (h_s : TP q lq f0 b m zz G s) : t_pq (m_X6_readInner rc x1 x2 x3 x4 s) (fun y => TP q lq f0 b m zz G y) := by
  unfold m_X6_readInner
  exact pc_if (fun z1 => tp_st (TP.set h_s ⟨by decide, by decide, by decide, by decide, fun y => absurd y.1 (by decide), fun y => absurd y.1 (by decide), by decide⟩) (fun s1 h_s1 => pc_lp (fun x h => tp_b_X6_readInner_16 hrc h) h_s1)) (fun _ => pc_none)
theorem tp_m_X6_readMet {rc : RT_X6_readBase} {x1 : Int32} {s : t_S} (hrc : TPB_X6_readBase q lq f0 b m zz G rc) (h_s : TP q lq f0 b m zz G s) : t_pq (m_X6_readMet rc x1 s) (fun y => TP q lq f0 b m zz G y) := by
  unfold m_X6_readMet
  exact pc_bd (tp_f_X2_need h_s) (fun r1 h_r1 => pc_bd (hrc.2.2.1 _ _ h_r1) (fun r2 h_r2 => pc_bd (tp_f_X2_need h_r2) (fun r3 h_r3 => pc_bd (hrc.2.2.2.2.2.2.2.2.2.2.2.2.2.1 _ _ _ h_r3) (fun r4 h_r4 => pc_bd (tp_f_X0_emit h_r4) (fun r5 h_r5 => pc_bd (tp_f_X2_need h_r5) (fun r6 h_r6 => pc_some h_r6))))))
theorem tp_k_X6_readOne_313 {rc : RT_X6_readBase} {l2 : Int32} {s : t_S} (hrc : TPB_X6_readBase q lq f0 b m zz G rc) (h_s : TP q lq f0 b m zz G s) : t_pq (k_X6_readOne_313 rc l2 s) (fun z => Sum.elim (fun y => TP q lq f0 b m zz G y.2) (fun y => TP q lq f0 b m zz G y) z) := by
  unfold k_X6_readOne_313
  exact pc_if (fun _ => pc_mp (pc_some h_s)) (fun _ => tp_st (TP.set h_s ⟨by decide, by decide, by decide, by decide, fun y => absurd y.1 (by decide), fun y => absurd y.2 (by decide), by decide⟩) (fun s1 h_s1 => pc_if (fun z1 => pc_if (fun z2 => pc_bd (tp_f_X0_emit h_s1) (fun r3 h_r3 => pc_some h_r3)) (fun _ => pc_none)) (fun _ => pc_none)))
theorem tp_b_X6_readOne_313 {rc : RT_X6_readBase} {x : Int32 × t_S} (hrc : TPB_X6_readBase q lq f0 b m zz G rc) (h : TP q lq f0 b m zz G x.2) : t_pq (b_X6_readOne_313 rc x) (fun z => Sum.elim (fun y => TP q lq f0 b m zz G y.2) (fun y => TP q lq f0 b m zz G y) z) := tp_k_X6_readOne_313 hrc h
theorem tp_k_X6_readOne_307 {rc : RT_X6_readBase} {l1 : Int32} {l2 : Int32} {l3 : Int32} {s : t_S} (hrc : TPB_X6_readBase q lq f0 b m zz G rc) (h_s : TP q lq f0 b m zz G s) : t_pq (k_X6_readOne_307 rc l1 l2 l3 s) (fun z => Sum.elim (fun y => TP q lq f0 b m zz G y.2.2.2) (fun y => TP q lq f0 b m zz G y) z) := by
  unfold k_X6_readOne_307
  exact pc_some h_s
theorem tp_k_X6_readOne_230 {rc : RT_X6_readBase} {l1 : Int32} {l2 : Int32} {l3 : Int32} {s : t_S} (hrc : TPB_X6_readBase q lq f0 b m zz G rc) (h_s : TP q lq f0 b m zz G s) : t_pq (k_X6_readOne_230 rc l1 l2 l3 s) (fun z => Sum.elim (fun y => TP q lq f0 b m zz G y.2.2.2) (fun y => TP q lq f0 b m zz G y) z) := by
  unfold k_X6_readOne_230
  exact pc_bd (tp_f_X6_node h_s) (fun r1 h_r1 => pc_bd (tp_f_X2_take h_r1) (fun r2 h_r2 => pc_if (fun _ => pc_bd (tp_f_X2_take h_r2) (fun r3 h_r3 => pc_if (fun _ => (tp_k_X6_readOne_307 hrc h_r3)) (fun _ => pc_bd (hrc.2.2.1 _ _ h_r3) (fun r4 h_r4 => pc_bd (tp_f_X2_need h_r4) (fun r5 h_r5 => pc_bd (tp_f_X0_emit h_r5) (fun r6 h_r6 => (tp_k_X6_readOne_307 hrc h_r6))))))) (fun _ => pc_bd (tp_f_X6_takeFieldName h_r2) (fun r7 h_r7 => pc_bd (tp_f_X0_emit h_r7) (fun r8 h_r8 => (tp_k_X6_readOne_307 hrc h_r8))))))
theorem tp_k_X6_readOne_186 {rc : RT_X6_readBase} {l1 : Int32} {l2 : Int32} {l3 : Int32} {s : t_S} (hrc : TPB_X6_readBase q lq f0 b m zz G rc) (h_s : TP q lq f0 b m zz G s) : t_pq (k_X6_readOne_186 rc l1 l2 l3 s) (fun z => Sum.elim (fun y => TP q lq f0 b m zz G y.2.2.2) (fun y => TP q lq f0 b m zz G y) z) := by
  unfold k_X6_readOne_186
  exact pc_if (fun _ => pc_mp (pc_lp (fun x h => tp_b_X6_readOne_313 hrc h) h_s)) (fun _ => pc_if (fun _ => pc_if (fun _ => (tp_k_X6_readOne_230 hrc h_s)) (fun _ => pc_if (fun _ => (tp_k_X6_readOne_230 hrc h_s)) (fun _ => pc_mp (pc_lp (fun x h => tp_b_X6_readOne_313 hrc h) h_s)))) (fun _ => pc_mp (pc_lp (fun x h => tp_b_X6_readOne_313 hrc h) h_s)))
theorem tp_b_X6_readOne_186 {rc : RT_X6_readBase} {x : Int32 × Int32 × Int32 × t_S} (hrc : TPB_X6_readBase q lq f0 b m zz G rc) (h : TP q lq f0 b m zz G x.2.2.2) : t_pq (b_X6_readOne_186 rc x) (fun z => Sum.elim (fun y => TP q lq f0 b m zz G y.2.2.2) (fun y => TP q lq f0 b m zz G y) z) := tp_k_X6_readOne_186 hrc h
theorem tp_k_X6_readOne_184 {rc : RT_X6_readBase} {l1 : Int32} {l2 : Int32} {s : t_S} (hrc : TPB_X6_readBase q lq f0 b m zz G rc) (h_s : TP q lq f0 b m zz G s) : t_pq (k_X6_readOne_184 rc l1 l2 s) (fun y => TP q lq f0 b m zz G y) := by
  unfold k_X6_readOne_184
  exact pc_lp (fun x h => tp_b_X6_readOne_186 hrc h) h_s
theorem tp_k_X6_readOne_165 {rc : RT_X6_readBase} {l1 : Int32} {l2 : Int32} {s : t_S} (hrc : TPB_X6_readBase q lq f0 b m zz G rc) (h_s : TP q lq f0 b m zz G s) : t_pq (k_X6_readOne_165 rc l1 l2 s) (fun y => TP q lq f0 b m zz G y) := by
  unfold k_X6_readOne_165
  exact pc_bd (tp_f_X6_node h_s) (fun r1 h_r1 => pc_if (fun _ => pc_bd (hrc.1 _ _ h_r1) (fun r2 h_r2 => (tp_k_X6_readOne_184 hrc h_r2))) (fun _ => (tp_k_X6_readOne_184 hrc h_r1)))
theorem tp_k_X6_readOne_144 {rc : RT_X6_readBase} {l1 : Int32} {l2 : Int32} {s : t_S} (hrc : TPB_X6_readBase q lq f0 b m zz G rc) (h_s : TP q lq f0 b m zz G s) : t_pq (k_X6_readOne_144 rc l1 l2 s) (fun y => TP q lq f0 b m zz G y) := by
  unfold k_X6_readOne_144
  exact pc_if (fun _ => pc_bd (tp_f_X2_fail (by decide) h_s) (fun r2 h_r2 => (tp_k_X6_readOne_165 hrc h_r2))) (fun _ => (tp_k_X6_readOne_165 hrc h_s))
theorem tp_k_X6_readOne_138 {rc : RT_X6_readBase} {l1 : Int32} {l2 : Int32} {l3 : Int32} {s : t_S} (hrc : TPB_X6_readBase q lq f0 b m zz G rc) (h_s : TP q lq f0 b m zz G s) : t_pq (k_X6_readOne_138 rc l1 l2 l3 s) (fun z => Sum.elim (fun y => TP q lq f0 b m zz G y.2.2.2) (fun y => TP q lq f0 b m zz G y) z) := by
  unfold k_X6_readOne_138
  exact pc_some h_s
theorem tp_k_X6_readOne_65 {rc : RT_X6_readBase} {l1 : Int32} {l2 : Int32} {l3 : Int32} {l4 : Int32} {s : t_S} (hrc : TPB_X6_readBase q lq f0 b m zz G rc) (h_s : TP q lq f0 b m zz G s) : t_pq (k_X6_readOne_65 rc l1 l2 l3 l4 s) (fun z => Sum.elim (fun y => TP q lq f0 b m zz G y.2.2.2) (fun y => TP q lq f0 b m zz G y) z) := by
  unfold k_X6_readOne_65
  exact pc_bd (tp_f_X6_node h_s) (fun r1 h_r1 => pc_bd (tp_f_X2_advance h_r1) (fun r2 h_r2 => pc_if (fun _ => pc_bd (tp_f_X6_pushWaiting h_r2) (fun r7 h_r7 => (tp_k_X6_readOne_138 hrc h_r7))) (fun _ => pc_if (fun _ => pc_bd (tp_f_X6_pushWaiting h_r2) (fun r6 h_r6 => (tp_k_X6_readOne_138 hrc h_r6))) (fun _ => pc_if (fun _ => pc_bd (tp_f_X6_pushWaiting h_r2) (fun r5 h_r5 => (tp_k_X6_readOne_138 hrc h_r5))) (fun _ => pc_bd (tp_f_X6_takeFieldName h_r2) (fun r3 h_r3 => pc_bd (tp_f_X6_pushWaiting h_r3) (fun r4 h_r4 => (tp_k_X6_readOne_138 hrc h_r4))))))))
theorem tp_k_X6_readOne_7 {rc : RT_X6_readBase} {l1 : Int32} {l2 : Int32} {l3 : Int32} {s : t_S} (hrc : TPB_X6_readBase q lq f0 b m zz G rc) (h_s : TP q lq f0 b m zz G s) : t_pq (k_X6_readOne_7 rc l1 l2 l3 s) (fun z => Sum.elim (fun y => TP q lq f0 b m zz G y.2.2.2) (fun y => TP q lq f0 b m zz G y) z) := by
  unfold k_X6_readOne_7
  exact pc_if (fun _ => pc_mp ((tp_k_X6_readOne_144 hrc h_s))) (fun _ => pc_if (fun _ => pc_if (fun _ => (tp_k_X6_readOne_65 hrc h_s)) (fun _ => pc_if (fun _ => (tp_k_X6_readOne_65 hrc h_s)) (fun _ => pc_if (fun _ => (tp_k_X6_readOne_65 hrc h_s)) (fun _ => pc_if (fun _ => (tp_k_X6_readOne_65 hrc h_s)) (fun _ => pc_mp ((tp_k_X6_readOne_144 hrc h_s))))))) (fun _ => pc_mp ((tp_k_X6_readOne_144 hrc h_s))))
theorem tp_b_X6_readOne_7 {rc : RT_X6_readBase} {x : Int32 × Int32 × Int32 × t_S} (hrc : TPB_X6_readBase q lq f0 b m zz G rc) (h : TP q lq f0 b m zz G x.2.2.2) : t_pq (b_X6_readOne_7 rc x) (fun z => Sum.elim (fun y => TP q lq f0 b m zz G y.2.2.2) (fun y => TP q lq f0 b m zz G y) z) := tp_k_X6_readOne_7 hrc h
theorem tp_m_X6_readOne {rc : RT_X6_readBase} {x1 : Int32} {s : t_S} (hrc : TPB_X6_readBase q lq f0 b m zz G rc) (h_s : TP q lq f0 b m zz G s) : t_pq (m_X6_readOne rc x1 s) (fun y => TP q lq f0 b m zz G y) := by
  unfold m_X6_readOne
  exact pc_lp (fun x h => tp_b_X6_readOne_7 hrc h) h_s
theorem tp_f_X10_add {x1 : Int32} {s : t_S} (h_s : TP q lq f0 b m zz G s) : t_pq (f_X10_add x1 s) (fun y => TP q lq f0 b m zz G y.2) := by
  unfold f_X10_add
  exact pc_if (fun _ => tp_st (TP.set h_s ⟨by decide, by decide, by decide, by decide, fun y => absurd y.1 (by decide), fun y => absurd y.1 (by decide), by decide⟩) (fun s1 h_s1 => pc_if (fun z1 => tp_st (TP.set h_s1 ⟨by decide, by decide, by decide, by decide, fun y => absurd y.1 (by decide), fun y => absurd y.1 (by decide), by decide⟩) (fun s2 h_s2 => tp_st (TP.set h_s2 ⟨by decide, by decide, by decide, by decide, fun y => absurd y.1 (by decide), fun y => absurd y.1 (by decide), by decide⟩) (fun s3 h_s3 => tp_st (TP.set h_s3 ⟨by decide, by decide, by decide, by decide, fun y => absurd y.1 (by decide), fun y => absurd y.1 (by decide), by decide⟩) (fun s4 h_s4 => tp_st (TP.set h_s4 ⟨by decide, by decide, by decide, by decide, fun y => absurd y.1 (by decide), fun y => absurd y.1 (by decide), by decide⟩) (fun s5 h_s5 => tp_st (TP.set h_s5 ⟨by decide, by decide, by decide, by decide, fun y => absurd y.1 (by decide), fun y => absurd y.1 (by decide), by decide⟩) (fun s6 h_s6 => tp_st (TP.set h_s6 ⟨by decide, by decide, by decide, by decide, fun y => absurd y.1 (by decide), fun y => absurd y.1 (by decide), by decide⟩) (fun s7 h_s7 => tp_st (TP.set h_s7 ⟨by decide, by decide, by decide, by decide, fun y => absurd y.1 (by decide), fun y => absurd y.1 (by decide), by decide⟩) (fun s8 h_s8 => tp_st (TP.setJ h_s8) (fun s9 h_s9 => tp_st (TP.setJ h_s9) (fun s10 h_s10 => pc_some h_s10)))))))))) (fun _ => pc_none))) (fun _ => pc_some h_s)
theorem tp_m_X6_readPerm {rc : RT_X6_readBase} {x1 : Int32} {x2 : Int32} {s : t_S} (hrc : TPB_X6_readBase q lq f0 b m zz G rc) (h_s : TP q lq f0 b m zz G s) : t_pq (m_X6_readPerm rc x1 x2 s) (fun y => TP q lq f0 b m zz G y.2) := by
  unfold m_X6_readPerm
  exact pc_bd (tp_f_X6_node h_s) (fun r1 h_r1 => pc_if (fun _ => pc_bd (tp_f_X10_add h_r1) (fun r2 h_r2 => pc_bd (tp_f_X2_advance h_r2) (fun r3 h_r3 => pc_bd (hrc.2.2.2.2.2.2.2.2.2.2.1 _ _ _ _ _ h_r3) (fun r4 h_r4 => pc_some h_r4)))) (fun _ => pc_some h_r1))
theorem tp_k_X6_readPieces_185 {rc : RT_X6_readBase} {s : t_S} (hrc : TPB_X6_readBase q lq f0 b m zz G rc) (h_s : TP q lq f0 b m zz G s) : t_pq (k_X6_readPieces_185 rc s) (fun y => TP q lq f0 b m zz G y) := by
  unfold k_X6_readPieces_185
  exact pc_bd (tp_f_X2_need h_s) (fun r1 h_r1 => pc_some h_r1)
theorem tp_k_X6_readPieces_160 {rc : RT_X6_readBase} {l1 : Int32} {l2 : Int32} {l3 : Int32} {l5 : Int32} {l7 : Int32} {s : t_S} (hrc : TPB_X6_readBase q lq f0 b m zz G rc) (h_s : TP q lq f0 b m zz G s) : t_pq (k_X6_readPieces_160 rc l1 l2 l3 l5 l7 s) (fun z => Sum.elim (fun y => TP q lq f0 b m zz G y.2.2.2.2.2) (fun y => TP q lq f0 b m zz G y) z) := by
  unfold k_X6_readPieces_160
  exact pc_bd (tp_f_X2_take h_s) (fun r1 h_r1 => pc_if (fun _ => pc_mp ((tp_k_X6_readPieces_185 hrc h_r1))) (fun _ => pc_some h_r1))
theorem tp_k_X6_readPieces_116 {rc : RT_X6_readBase} {l1 : Int32} {l2 : Int32} {l3 : Int32} {l4 : Int32} {l5 : Int32} {k0 : Int32} {s : t_S} (hrc : TPB_X6_readBase q lq f0 b m zz G rc) (h_s : TP q lq f0 b m zz G s) : t_pq (k_X6_readPieces_116 rc l1 l2 l3 l4 l5 k0 s) (fun z => Sum.elim (fun y => TP q lq f0 b m zz G y.2.2.2.2.2) (fun y => TP q lq f0 b m zz G y) z) := by
  unfold k_X6_readPieces_116
  exact pc_if (fun _ => pc_if (fun _ => pc_if (fun z1 => tp_st (TP.set h_s ⟨by decide, by decide, by decide, by decide, fun y => absurd y.1 (by decide), fun y => absurd y.1 (by decide), by decide⟩) (fun s2 h_s2 => (tp_k_X6_readPieces_160 hrc h_s2))) (fun _ => pc_none)) (fun _ => pc_if (fun z2 => tp_st (TP.set h_s ⟨by decide, by decide, by decide, by decide, fun y => absurd y.1 (by decide), fun y => absurd y.1 (by decide), by decide⟩) (fun s1 h_s1 => (tp_k_X6_readPieces_160 hrc h_s1))) (fun _ => pc_none))) (fun _ => pc_mp (pc_some h_s))
theorem tp_k_X6_readPieces_90 {rc : RT_X6_readBase} {l1 : Int32} {l2 : Int32} {l3 : Int32} {l4 : Int32} {l5 : Int32} {l6 : Int32} {s : t_S} (hrc : TPB_X6_readBase q lq f0 b m zz G rc) (h_s : TP q lq f0 b m zz G s) : t_pq (k_X6_readPieces_90 rc l1 l2 l3 l4 l5 l6 s) (fun z => Sum.elim (fun y => TP q lq f0 b m zz G y.2.2.2.2.2) (fun y => TP q lq f0 b m zz G y) z) := by
  unfold k_X6_readPieces_90
  exact pc_if (fun _ => pc_bd (hrc.2.2.2.2.2.2.2.2.2.2.2.2.2.1 _ _ _ h_s) (fun r1 h_r1 => (tp_k_X6_readPieces_116 hrc h_r1))) (fun _ => pc_bd (hrc.2.2.2.2.2.2.2.2.1 _ _ _ h_s) (fun r2 h_r2 => (tp_k_X6_readPieces_116 hrc h_r2)))
theorem tp_k_X6_readPieces_82 {rc : RT_X6_readBase} {l1 : Int32} {l2 : Int32} {l3 : Int32} {l4 : Int32} {l5 : Int32} {l6 : Int32} {s : t_S} (hrc : TPB_X6_readBase q lq f0 b m zz G rc) (h_s : TP q lq f0 b m zz G s) : t_pq (k_X6_readPieces_82 rc l1 l2 l3 l4 l5 l6 s) (fun z => Sum.elim (fun y => TP q lq f0 b m zz G y.2.2.2.2.2) (fun y => TP q lq f0 b m zz G y) z) := by
  unfold k_X6_readPieces_82
  exact pc_bd (tp_f_X2_fail (by decide) h_s) (fun r1 h_r1 => (tp_k_X6_readPieces_90 hrc h_r1))
theorem tp_k_X6_readPieces_55 {rc : RT_X6_readBase} {l1 : Int32} {l2 : Int32} {l3 : Int32} {l4 : Int32} {l5 : Int32} {k0 : Int32} {s : t_S} (hrc : TPB_X6_readBase q lq f0 b m zz G rc) (h_s : TP q lq f0 b m zz G s) : t_pq (k_X6_readPieces_55 rc l1 l2 l3 l4 l5 k0 s) (fun z => Sum.elim (fun y => TP q lq f0 b m zz G y.2.2.2.2.2) (fun y => TP q lq f0 b m zz G y) z) := by
  unfold k_X6_readPieces_55
  exact pc_if (fun _ => pc_if (fun _ => pc_if (fun _ => (tp_k_X6_readPieces_90 hrc h_s)) (fun _ => (tp_k_X6_readPieces_82 hrc h_s))) (fun _ => (tp_k_X6_readPieces_82 hrc h_s))) (fun _ => (tp_k_X6_readPieces_90 hrc h_s))
theorem tp_k_X6_readPieces_30 {rc : RT_X6_readBase} {l1 : Int32} {l2 : Int32} {l3 : Int32} {l4 : Int32} {l5 : Int32} {s : t_S} (hrc : TPB_X6_readBase q lq f0 b m zz G rc) (h_s : TP q lq f0 b m zz G s) : t_pq (k_X6_readPieces_30 rc l1 l2 l3 l4 l5 s) (fun z => Sum.elim (fun y => TP q lq f0 b m zz G y.2.2.2.2.2) (fun y => TP q lq f0 b m zz G y) z) := by
  unfold k_X6_readPieces_30
  exact pc_if (fun _ => pc_mp ((tp_k_X6_readPieces_185 hrc h_s))) (fun _ => pc_if (fun _ => (tp_k_X6_readPieces_55 hrc h_s)) (fun _ => (tp_k_X6_readPieces_55 hrc h_s)))
theorem tp_b_X6_readPieces_30 {rc : RT_X6_readBase} {x : Int32 × Int32 × Int32 × Int32 × Int32 × t_S} (hrc : TPB_X6_readBase q lq f0 b m zz G rc) (h : TP q lq f0 b m zz G x.2.2.2.2.2) : t_pq (b_X6_readPieces_30 rc x) (fun z => Sum.elim (fun y => TP q lq f0 b m zz G y.2.2.2.2.2) (fun y => TP q lq f0 b m zz G y) z) := tp_k_X6_readPieces_30 hrc h
theorem tp_m_X6_readPieces {rc : RT_X6_readBase} {x1 : Int32} {x2 : Int32} {x3 : Int32} {s : t_S} (hrc : TPB_X6_readBase q lq f0 b m zz G rc) (h_s : TP q lq f0 b m zz G s) : t_pq (m_X6_readPieces rc x1 x2 x3 s) (fun y => TP q lq f0 b m zz G y) := by
  unfold m_X6_readPieces
  exact pc_if (fun z1 => tp_st (TP.set h_s ⟨by decide, by decide, by decide, by decide, fun y => absurd y.1 (by decide), fun y => absurd y.1 (by decide), by decide⟩) (fun s1 h_s1 => pc_bd (tp_f_X2_take h_s1) (fun r2 h_r2 => pc_if (fun _ => pc_lp (fun x h => tp_b_X6_readPieces_30 hrc h) h_r2) (fun _ => pc_some h_r2)))) (fun _ => pc_none)
theorem tp_m_X6_readRow {rc : RT_X6_readBase} {x1 : Int32} {x2 : Int32} {x3 : Int32} {x4 : Int32} {s : t_S} (hrc : TPB_X6_readBase q lq f0 b m zz G rc) (h_s : TP q lq f0 b m zz G s) : t_pq (m_X6_readRow rc x1 x2 x3 x4 s) (fun y => TP q lq f0 b m zz G y) := by
  unfold m_X6_readRow
  exact pc_bd (tp_f_X2_need h_s) (fun r1 h_r1 => pc_bd (hrc.2.2.2.2.2.1 _ _ _ _ _ h_r1) (fun r2 h_r2 => pc_some h_r2))
theorem tp_m_X6_readSame {rc : RT_X6_readBase} {x1 : Int32} {x2 : Int32} {s : t_S} (hrc : TPB_X6_readBase q lq f0 b m zz G rc) (h_s : TP q lq f0 b m zz G s) : t_pq (m_X6_readSame rc x1 x2 s) (fun y => TP q lq f0 b m zz G y) := by
  unfold m_X6_readSame
  exact pc_if (fun z1 => tp_st (TP.set h_s ⟨by decide, by decide, by decide, by decide, fun y => absurd y.1 (by decide), fun y => absurd y.1 (by decide), by decide⟩) (fun s1 h_s1 => pc_bd (tp_f_X2_need h_s1) (fun r2 h_r2 => pc_bd (hrc.2.2.1 _ _ h_r2) (fun r3 h_r3 => pc_bd (tp_f_X2_need h_r3) (fun r4 h_r4 => pc_bd (tp_f_X0_emit h_r4) (fun r5 h_r5 => pc_some h_r5)))))) (fun _ => pc_none)
theorem tp_k_X6_readTag_38 {rc : RT_X6_readBase} {l1 : Int32} {l2 : Int32} {l3 : Int32} {s : t_S} (hrc : TPB_X6_readBase q lq f0 b m zz G rc) (h_s : TP q lq f0 b m zz G s) : t_pq (k_X6_readTag_38 rc l1 l2 l3 s) (fun y => TP q lq f0 b m zz G y) := by
  unfold k_X6_readTag_38
  exact pc_bd (tp_f_X2_need h_s) (fun r1 h_r1 => pc_bd (hrc.2.2.2.2.2.2.2.2.2.2.2.2.2.1 _ _ _ h_r1) (fun r2 h_r2 => pc_if (fun z1 => tp_st (TP.set h_r2 ⟨by decide, by decide, by decide, by decide, fun y => absurd y.1 (by decide), fun y => absurd y.1 (by decide), by decide⟩) (fun s1 h_s1 => pc_some h_s1)) (fun _ => pc_none)))
theorem tp_m_X6_readTag {rc : RT_X6_readBase} {x1 : Int32} {x2 : Int32} {x3 : Int32} {s : t_S} (hrc : TPB_X6_readBase q lq f0 b m zz G rc) (h_s : TP q lq f0 b m zz G s) : t_pq (m_X6_readTag rc x1 x2 x3 s) (fun y => TP q lq f0 b m zz G y) := by
  unfold m_X6_readTag
  exact pc_if (fun z1 => tp_st (TP.set h_s ⟨by decide, by decide, by decide, by decide, fun y => absurd y.1 (by decide), fun y => absurd y.1 (by decide), by decide⟩) (fun s1 h_s1 => pc_if (fun z2 => tp_st (TP.set h_s1 ⟨by decide, by decide, by decide, by decide, fun y => absurd y.1 (by decide), fun y => absurd y.1 (by decide), by decide⟩) (fun s2 h_s2 => (tp_k_X6_readTag_38 hrc h_s2))) (fun _ => (tp_k_X6_readTag_38 hrc h_s1)))) (fun _ => pc_none)
theorem tp_k_X6_readTempl_95 {rc : RT_X6_readBase} {l3 : Int32} {s : t_S} (hrc : TPB_X6_readBase q lq f0 b m zz G rc) (h_s : TP q lq f0 b m zz G s) : t_pq (k_X6_readTempl_95 rc l3 s) (fun y => TP q lq f0 b m zz G y.2) := by
  unfold k_X6_readTempl_95
  exact pc_bd (tp_f_X2_take h_s) (fun r1 h_r1 => pc_if (fun _ => pc_some h_r1) (fun _ => pc_if (fun z1 => tp_st (TP.set h_r1 ⟨by decide, by decide, by decide, by decide, fun y => absurd y.1 (by decide), fun y => absurd y.1 (by decide), by decide⟩) (fun s1 h_s1 => pc_some h_s1)) (fun _ => pc_none)))
theorem tp_k_X6_readBound_52 {l3 : Int64} {s : t_S} (h_s : TP q lq f0 b m zz G s) : t_pq (k_X6_readBound_52 l3 s) (fun y => TP q lq f0 b m zz G y.2) := by
  unfold k_X6_readBound_52
  exact pc_if (fun _ => pc_bd (tp_f_X2_advance h_s) (fun r1 h_r1 => pc_some h_r1)) (fun _ => pc_some h_s)
theorem tp_k_X6_readBound_44 {l3 : Int64} {s : t_S} (h_s : TP q lq f0 b m zz G s) : t_pq (k_X6_readBound_44 l3 s) (fun y => TP q lq f0 b m zz G y.2) := by
  unfold k_X6_readBound_44
  exact pc_bd (tp_f_X2_fail (by decide) h_s) (fun r1 h_r1 => (tp_k_X6_readBound_52 h_r1))
theorem tp_f_X6_readBound {x1 : Int32} {x2 : Int32} {s : t_S} (h_s : TP q lq f0 b m zz G s) : t_pq (f_X6_readBound x1 x2 s) (fun y => TP q lq f0 b m zz G y.2) := by
  unfold f_X6_readBound
  exact pc_if (fun _ => pc_if (fun _ => (tp_k_X6_readBound_44 h_s)) (fun _ => pc_if (fun _ => (tp_k_X6_readBound_52 h_s)) (fun _ => (tp_k_X6_readBound_44 h_s)))) (fun _ => pc_bd (tp_f_X2_fail (by decide) h_s) (fun r1 h_r1 => (tp_k_X6_readBound_52 h_r1)))
theorem tp_k_X6_readSpan_38 {l2 : Int32} {k0 : Int32} {s : t_S} (h_s : TP q lq f0 b m zz G s) : t_pq (k_X6_readSpan_38 l2 k0 s) (fun y => TP q lq f0 b m zz G y.2) := by
  unfold k_X6_readSpan_38
  exact pc_bd (tp_f_X2_need h_s) (fun r1 h_r1 => pc_some h_r1)
theorem tp_f_X6_readSpan {x1 : Int32} {s : t_S} (h_s : TP q lq f0 b m zz G s) : t_pq (f_X6_readSpan x1 s) (fun y => TP q lq f0 b m zz G y.2) := by
  unfold f_X6_readSpan
  exact pc_bd (tp_f_X2_need h_s) (fun r1 h_r1 => pc_bd (tp_f_X6_readBound h_r1) (fun r2 h_r2 => pc_bd (tp_f_X2_take h_r2) (fun r3 h_r3 => pc_if (fun _ => (tp_k_X6_readSpan_38 h_r3)) (fun _ => pc_bd (tp_f_X6_readBound h_r3) (fun r4 h_r4 => (tp_k_X6_readSpan_38 h_r4))))))
theorem tp_k_X6_readTempl_35 {rc : RT_X6_readBase} {l1 : Int32} {l2 : Int32} {s : t_S} (hrc : TPB_X6_readBase q lq f0 b m zz G rc) (h_s : TP q lq f0 b m zz G s) : t_pq (k_X6_readTempl_35 rc l1 l2 s) (fun y => TP q lq f0 b m zz G y.2) := by
  unfold k_X6_readTempl_35
  exact pc_bd (tp_f_X6_node h_s) (fun r1 h_r1 => pc_if (fun _ => pc_bd (tp_f_X10_add h_r1) (fun r2 h_r2 => pc_bd (hrc.2.2.2.2.2.2.2.2.2.2.2.2.2.2.2 _ _ _ _ h_r2) (fun r3 h_r3 => pc_bd (tp_f_X2_take h_r3) (fun r4 h_r4 => pc_if (fun _ => (tp_k_X6_readTempl_95 hrc h_r4)) (fun _ => pc_bd (tp_f_X6_readSpan h_r4) (fun r5 h_r5 => pc_if (fun z1 => tp_st (TP.set h_r5 ⟨by decide, by decide, by decide, by decide, fun y => absurd y.1 (by decide), fun y => absurd y.1 (by decide), by decide⟩) (fun s1 h_s1 => (tp_k_X6_readTempl_95 hrc h_s1))) (fun _ => pc_none))))))) (fun _ => pc_some h_r1))
theorem tp_k_X6_readTempl_21 {rc : RT_X6_readBase} {l1 : Int32} {l2 : Int32} {s : t_S} (hrc : TPB_X6_readBase q lq f0 b m zz G rc) (h_s : TP q lq f0 b m zz G s) : t_pq (k_X6_readTempl_21 rc l1 l2 s) (fun y => TP q lq f0 b m zz G y.2) := by
  unfold k_X6_readTempl_21
  exact pc_if (fun _ => (tp_k_X6_readTempl_35 hrc h_s)) (fun _ => pc_bd (tp_f_X2_fail (by decide) h_s) (fun r1 h_r1 => (tp_k_X6_readTempl_35 hrc h_r1)))
theorem tp_m_X6_readTempl {rc : RT_X6_readBase} {x1 : Int32} {x2 : Int32} {s : t_S} (hrc : TPB_X6_readBase q lq f0 b m zz G rc) (h_s : TP q lq f0 b m zz G s) : t_pq (m_X6_readTempl rc x1 x2 s) (fun y => TP q lq f0 b m zz G y.2) := by
  unfold m_X6_readTempl
  exact pc_if (fun _ => pc_bd (tp_f_X2_fail (by decide) h_s) (fun r2 h_r2 => (tp_k_X6_readTempl_21 hrc h_r2))) (fun _ => (tp_k_X6_readTempl_21 hrc h_s))
theorem tp_k_X6_readTemplFields_248 {rc : RT_X6_readBase} {s : t_S} (hrc : TPB_X6_readBase q lq f0 b m zz G rc) (h_s : TP q lq f0 b m zz G s) : t_pq (k_X6_readTemplFields_248 rc s) (fun y => TP q lq f0 b m zz G y) := by
  unfold k_X6_readTemplFields_248
  exact pc_bd (tp_f_X2_need h_s) (fun r1 h_r1 => pc_some h_r1)
theorem tp_k_X6_readTemplFields_187 {rc : RT_X6_readBase} {l1 : Int32} {l2 : Int32} {l3 : Int32} {l5 : Int32} {l6 : Int32} {s : t_S} (hrc : TPB_X6_readBase q lq f0 b m zz G rc) (h_s : TP q lq f0 b m zz G s) : t_pq (k_X6_readTemplFields_187 rc l1 l2 l3 l5 l6 s) (fun z => Sum.elim (fun y => TP q lq f0 b m zz G y.2.2.2.2.2) (fun y => TP q lq f0 b m zz G y) z) := by
  unfold k_X6_readTemplFields_187
  exact pc_bd (tp_f_X2_advance h_s) (fun r1 h_r1 => pc_bd (tp_f_X2_need h_r1) (fun r2 h_r2 => pc_bd (hrc.2.2.2.2.2.2.2.2.2.2.2.2.2.1 _ _ _ h_r2) (fun r3 h_r3 => pc_if (fun z1 => tp_st (TP.set h_r3 ⟨by decide, by decide, by decide, by decide, fun y => absurd y.1 (by decide), fun y => absurd y.1 (by decide), by decide⟩) (fun s1 h_s1 => pc_bd (tp_f_X2_take h_s1) (fun r5 h_r5 => pc_if (fun _ => pc_mp ((tp_k_X6_readTemplFields_248 hrc h_r5))) (fun _ => pc_some h_r5)))) (fun _ => pc_none))))
theorem tp_k_X6_readTemplFields_100 {rc : RT_X6_readBase} {l1 : Int32} {l2 : Int32} {l3 : Int32} {l4 : Int32} {l5 : Int32} {s : t_S} (hrc : TPB_X6_readBase q lq f0 b m zz G rc) (h_s : TP q lq f0 b m zz G s) : t_pq (k_X6_readTemplFields_100 rc l1 l2 l3 l4 l5 s) (fun z => Sum.elim (fun y => TP q lq f0 b m zz G y.2.2.2.2.2) (fun y => TP q lq f0 b m zz G y) z) := by
  unfold k_X6_readTemplFields_100
  exact pc_bd (tp_f_X6_node h_s) (fun r1 h_r1 => pc_if (fun _ => pc_bd (tp_f_X10_add h_r1) (fun r2 h_r2 => pc_if (fun z1 => tp_st (TP.set h_r2 ⟨by decide, by decide, by decide, by decide, fun y => absurd y.1 (by decide), fun y => absurd y.1 (by decide), by decide⟩) (fun s1 h_s1 => tp_st (TP.set h_s1 ⟨by decide, by decide, by decide, by decide, fun y => absurd y.1 (by decide), fun y => absurd y.1 (by decide), by decide⟩) (fun s2 h_s2 => pc_if (fun _ => pc_if (fun z2 => tp_st (TP.set h_s2 ⟨by decide, by decide, by decide, by decide, fun y => absurd y.1 (by decide), fun y => absurd y.1 (by decide), by decide⟩) (fun s4 h_s4 => (tp_k_X6_readTemplFields_187 hrc h_s4))) (fun _ => pc_none)) (fun _ => pc_if (fun z3 => tp_st (TP.set h_s2 ⟨by decide, by decide, by decide, by decide, fun y => absurd y.1 (by decide), fun y => absurd y.1 (by decide), by decide⟩) (fun s3 h_s3 => (tp_k_X6_readTemplFields_187 hrc h_s3))) (fun _ => pc_none))))) (fun _ => pc_none))) (fun _ => pc_mp (pc_some h_r1)))
theorem tp_k_X6_readTemplFields_30 {rc : RT_X6_readBase} {l1 : Int32} {l2 : Int32} {l3 : Int32} {l4 : Int32} {l5 : Int32} {s : t_S} (hrc : TPB_X6_readBase q lq f0 b m zz G rc) (h_s : TP q lq f0 b m zz G s) : t_pq (k_X6_readTemplFields_30 rc l1 l2 l3 l4 l5 s) (fun z => Sum.elim (fun y => TP q lq f0 b m zz G y.2.2.2.2.2) (fun y => TP q lq f0 b m zz G y) z) := by
  unfold k_X6_readTemplFields_30
  exact pc_if (fun _ => pc_mp ((tp_k_X6_readTemplFields_248 hrc h_s))) (fun _ => pc_if (fun z1 => pc_bd pc_any (fun r2 h_r2 => pc_if (fun _ => pc_if (fun _ => pc_bd (tp_f_X2_fail (by decide) h_s) (fun r3 h_r3 => (tp_k_X6_readTemplFields_100 hrc h_r3))) (fun _ => (tp_k_X6_readTemplFields_100 hrc h_s))) (fun _ => pc_bd (tp_f_X2_fail (by decide) h_s) (fun r4 h_r4 => (tp_k_X6_readTemplFields_100 hrc h_r4))))) (fun _ => pc_bd (tp_f_X2_fail (by decide) h_s) (fun r5 h_r5 => (tp_k_X6_readTemplFields_100 hrc h_r5))))
theorem tp_b_X6_readTemplFields_30 {rc : RT_X6_readBase} {x : Int32 × Int32 × Int32 × Int32 × Int32 × t_S} (hrc : TPB_X6_readBase q lq f0 b m zz G rc) (h : TP q lq f0 b m zz G x.2.2.2.2.2) : t_pq (b_X6_readTemplFields_30 rc x) (fun z => Sum.elim (fun y => TP q lq f0 b m zz G y.2.2.2.2.2) (fun y => TP q lq f0 b m zz G y) z) := tp_k_X6_readTemplFields_30 hrc h
theorem tp_m_X6_readTemplFields {rc : RT_X6_readBase} {x1 : Int32} {x2 : Int32} {x3 : Int32} {s : t_S} (hrc : TPB_X6_readBase q lq f0 b m zz G rc) (h_s : TP q lq f0 b m zz G s) : t_pq (m_X6_readTemplFields rc x1 x2 x3 s) (fun y => TP q lq f0 b m zz G y) := by
  unfold m_X6_readTemplFields
  exact pc_if (fun z1 => tp_st (TP.set h_s ⟨by decide, by decide, by decide, by decide, fun y => absurd y.1 (by decide), fun y => absurd y.1 (by decide), by decide⟩) (fun s1 h_s1 => pc_bd (tp_f_X2_take h_s1) (fun r2 h_r2 => pc_if (fun _ => pc_lp (fun x h => tp_b_X6_readTemplFields_30 hrc h) h_r2) (fun _ => pc_some h_r2)))) (fun _ => pc_none)
theorem tp_k_X6_readNumber_90 {l4 : Int64} {s : t_S} (h_s : TP q lq f0 b m zz G s) : t_pq (k_X6_readNumber_90 l4 s) (fun y => TP q lq f0 b m zz G y.2) := by
  unfold k_X6_readNumber_90
  exact pc_if (fun _ => pc_bd (tp_f_X2_advance h_s) (fun r1 h_r1 => pc_some h_r1)) (fun _ => pc_some h_s)
theorem tp_k_X6_readNumber_51 {l1 : Int64} {k0 : Int64} {s : t_S} (h_s : TP q lq f0 b m zz G s) : t_pq (k_X6_readNumber_51 l1 k0 s) (fun y => TP q lq f0 b m zz G y.2) := by
  unfold k_X6_readNumber_51
  exact pc_if (fun _ => pc_if (fun _ => (tp_k_X6_readNumber_90 h_s)) (fun _ => pc_bd (tp_f_X2_fail (by decide) h_s) (fun r1 h_r1 => (tp_k_X6_readNumber_90 h_r1)))) (fun _ => pc_bd (tp_f_X2_fail (by decide) h_s) (fun r2 h_r2 => (tp_k_X6_readNumber_90 h_r2)))
theorem tp_k_X6_readNumber_29 {l1 : Int64} {l3 : Int32} {s : t_S} (h_s : TP q lq f0 b m zz G s) : t_pq (k_X6_readNumber_29 l1 l3 s) (fun y => TP q lq f0 b m zz G y.2) := by
  unfold k_X6_readNumber_29
  exact pc_if (fun _ => (tp_k_X6_readNumber_51 h_s)) (fun _ => (tp_k_X6_readNumber_51 h_s))
theorem tp_k_X6_readNumber_17 {l1 : Int64} {k0 : Int32} {s : t_S} (h_s : TP q lq f0 b m zz G s) : t_pq (k_X6_readNumber_17 l1 k0 s) (fun y => TP q lq f0 b m zz G y.2) := by
  unfold k_X6_readNumber_17
  exact pc_if (fun _ => (tp_k_X6_readNumber_29 h_s)) (fun _ => pc_bd (tp_f_X2_advance h_s) (fun r1 h_r1 => (tp_k_X6_readNumber_29 h_r1)))
theorem tp_f_X6_readNumber {x1 : Int64} {s : t_S} (h_s : TP q lq f0 b m zz G s) : t_pq (f_X6_readNumber x1 s) (fun y => TP q lq f0 b m zz G y.2) := by
  unfold f_X6_readNumber
  exact pc_if (fun _ => (tp_k_X6_readNumber_17 h_s)) (fun _ => (tp_k_X6_readNumber_17 h_s))
theorem tp_k_X6_readTone_163 {rc : RT_X6_readBase} {k0 : Int64} {k1 : Int32} {s : t_S} (hrc : TPB_X6_readBase q lq f0 b m zz G rc) (h_s : TP q lq f0 b m zz G s) : t_pq (k_X6_readTone_163 rc k0 k1 s) (fun y => TP q lq f0 b m zz G y) := by
  unfold k_X6_readTone_163
  exact pc_if (fun z1 => tp_st (TP.setJ h_s) (fun s1 h_s1 => pc_some h_s1)) (fun _ => pc_none)
theorem tp_k_X10_setLiteral_26 {l1 : Int32} {l2 : Int32} {k0 : Int32} {k1 : Int32} {s : t_S} (h_s : TP q lq f0 b m zz G s) : t_pq (k_X10_setLiteral_26 l1 l2 k0 k1 s) (fun y => TP q lq f0 b m zz G y) := by
  unfold k_X10_setLiteral_26
  exact pc_if (fun z1 => tp_st (TP.set h_s ⟨by decide, by decide, by decide, by decide, fun y => absurd y.1 (by decide), fun y => absurd y.1 (by decide), by decide⟩) (fun s1 h_s1 => pc_if (fun z2 => tp_st (TP.set h_s1 ⟨by decide, by decide, by decide, by decide, fun y => absurd y.1 (by decide), fun y => absurd y.1 (by decide), by decide⟩) (fun s2 h_s2 => pc_some h_s2)) (fun _ => pc_none))) (fun _ => pc_none)
theorem tp_f_X10_setLiteral {x1 : Int32} {x2 : Int32} {s : t_S} (h_s : TP q lq f0 b m zz G s) : t_pq (f_X10_setLiteral x1 x2 s) (fun y => TP q lq f0 b m zz G y) := by
  unfold f_X10_setLiteral
  exact pc_if (fun z1 => pc_if (fun _ => (tp_k_X10_setLiteral_26 h_s)) (fun _ => (tp_k_X10_setLiteral_26 h_s))) (fun _ => pc_none)
theorem tp_k_X6_readTone_530 {rc : RT_X6_readBase} {l1 : Int32} {s : t_S} (hrc : TPB_X6_readBase q lq f0 b m zz G rc) (h_s : TP q lq f0 b m zz G s) : t_pq (k_X6_readTone_530 rc l1 s) (fun y => TP q lq f0 b m zz G y) := by
  unfold k_X6_readTone_530
  exact pc_if (fun z1 => tp_st (TP.set h_s ⟨by decide, by decide, by decide, by decide, fun y => absurd y.1 (by decide), fun y => absurd y.1 (by decide), by decide⟩) (fun s1 h_s1 => pc_bd (tp_f_X2_need h_s1) (fun r2 h_r2 => pc_some h_r2))) (fun _ => pc_none)
theorem tp_k_X6_readTone_310 {rc : RT_X6_readBase} {l1 : Int32} {l2 : Int32} {l3 : Int32} {l4 : Int32} {s : t_S} (hrc : TPB_X6_readBase q lq f0 b m zz G rc) (h_s : TP q lq f0 b m zz G s) : t_pq (k_X6_readTone_310 rc l1 l2 l3 l4 s) (fun y => TP q lq f0 b m zz G y) := by
  unfold k_X6_readTone_310
  exact pc_bd (tp_f_X2_advance h_s) (fun r1 h_r1 => pc_if (fun _ => pc_bd (hrc.2.2.2.2.2.1 _ _ _ _ _ h_r1) (fun r2 h_r2 => pc_some h_r2)) (fun _ => pc_if (fun _ => pc_bd (hrc.2.2.2.2.2.2.2.2.2.2.2.1 _ _ _ h_r1) (fun r3 h_r3 => pc_some h_r3)) (fun _ => pc_if (fun _ => pc_bd (hrc.2.2.2.2.2.2.2.2.2.2.2.2.1 _ _ _ _ h_r1) (fun r4 h_r4 => pc_some h_r4)) (fun _ => pc_if (fun _ => pc_bd (hrc.2.2.2.2.2.2.2.2.2.1 _ _ _ _ h_r1) (fun r5 h_r5 => pc_some h_r5)) (fun _ => pc_if (fun _ => pc_bd (hrc.2.2.2.2.2.2.2.2.2.2.2.2.2.2.1 _ _ _ _ h_r1) (fun r6 h_r6 => pc_some h_r6)) (fun _ => pc_if (fun _ => pc_bd (hrc.2.2.2.2.2.2.2.2.2.2.1 _ _ _ _ _ h_r1) (fun r7 h_r7 => pc_some h_r7)) (fun _ => pc_if (fun _ => pc_bd (hrc.2.2.2.2.2.2.2.2.2.2.1 _ _ _ _ _ h_r1) (fun r8 h_r8 => pc_some h_r8)) (fun _ => pc_if (fun _ => pc_if (fun _ => pc_bd (tp_f_X6_poolText h_r1) (fun r9 h_r9 => pc_bd (tp_f_X10_setLiteral h_r9) (fun r10 h_r10 => (tp_k_X6_readTone_530 hrc h_r10)))) (fun _ => (tp_k_X6_readTone_530 hrc h_r1))) (fun _ => pc_if (fun _ => pc_bd (hrc.2.2.2.2.2.2.2.2.2.2.1 _ _ _ _ _ h_r1) (fun r11 h_r11 => pc_some h_r11)) (fun _ => pc_if (fun _ => pc_bd (hrc.2.2.2.2.2.2.2.2.2.2.1 _ _ _ _ _ h_r1) (fun r12 h_r12 => pc_some h_r12)) (fun _ => pc_some h_r1)))))))))))
theorem tp_m_X6_readTone {rc : RT_X6_readBase} {x1 : Int32} {x2 : Int32} {x3 : Int32} {s : t_S} (hrc : TPB_X6_readBase q lq f0 b m zz G rc) (h_s : TP q lq f0 b m zz G s) : t_pq (m_X6_readTone rc x1 x2 x3 s) (fun y => TP q lq f0 b m zz G y) := by
  unfold m_X6_readTone
  exact pc_if (fun _ => pc_if (fun z1 => tp_st (TP.set h_s ⟨by decide, by decide, by decide, by decide, fun y => absurd y.1 (by decide), fun y => absurd y.1 (by decide), by decide⟩) (fun s1 h_s1 => tp_st (TP.set h_s1 ⟨by decide, by decide, by decide, by decide, fun y => absurd y.1 (by decide), fun y => absurd y.1 (by decide), by decide⟩) (fun s2 h_s2 => pc_bd (tp_f_X0_emit h_s2) (fun r3 h_r3 => pc_bd (tp_f_X6_link ⟨by unfold tc_K; decide, by decide⟩ h_r3) (fun r4 h_r4 => pc_some h_r4))))) (fun _ => pc_none)) (fun _ => pc_if (fun _ => pc_if (fun z2 => tp_st (TP.set h_s ⟨by decide, by decide, by decide, by decide, fun y => absurd y.1 (by decide), fun y => absurd y.1 (by decide), by decide⟩) (fun s3 h_s3 => pc_bd (tp_f_X6_readNumber h_s3) (fun r6 h_r6 => tp_st (TP.setJ h_r6) (fun s4 h_s4 => pc_bd (tp_f_X2_take h_s4) (fun r7 h_r7 => pc_if (fun _ => (tp_k_X6_readTone_163 hrc h_r7)) (fun _ => pc_bd (tp_f_X6_readNumber h_r7) (fun r8 h_r8 => (tp_k_X6_readTone_163 hrc h_r8)))))))) (fun _ => pc_none)) (fun _ => pc_if (fun _ => pc_bd (tp_f_X6_poolText h_s) (fun r9 h_r9 => pc_bd (tp_f_X10_setLiteral h_r9) (fun r10 h_r10 => (tp_k_X6_readTone_310 hrc h_r10)))) (fun _ => pc_if (fun _ => pc_if (fun z3 => tp_st (TP.set h_s ⟨by decide, by decide, by decide, by decide, fun y => absurd y.1 (by decide), fun y => absurd y.1 (by decide), by decide⟩) (fun s5 h_s5 => (tp_k_X6_readTone_310 hrc h_s5))) (fun _ => pc_none)) (fun _ => pc_if (fun _ => pc_if (fun z4 => tp_st (TP.set h_s ⟨by decide, by decide, by decide, by decide, fun y => absurd y.1 (by decide), fun y => absurd y.1 (by decide), by decide⟩) (fun s6 h_s6 => pc_bd (tp_f_X6_readNumber h_s6) (fun r13 h_r13 => tp_st (TP.setJ h_r13) (fun s7 h_s7 => pc_bd (tp_f_X2_take h_s7) (fun r14 h_r14 => pc_if (fun _ => (tp_k_X6_readTone_163 hrc h_r14)) (fun _ => pc_bd (tp_f_X6_readNumber h_r14) (fun r15 h_r15 => (tp_k_X6_readTone_163 hrc h_r15)))))))) (fun _ => pc_none)) (fun _ => pc_if (fun _ => pc_if (fun z5 => tp_st (TP.set h_s ⟨by decide, by decide, by decide, by decide, fun y => absurd y.1 (by decide), fun y => absurd y.1 (by decide), by decide⟩) (fun s8 h_s8 => (tp_k_X6_readTone_310 hrc h_s8))) (fun _ => pc_none)) (fun _ => pc_if (fun _ => pc_bd (tp_f_X0_poolCell h_s) (fun r18 h_r18 => pc_bd (tp_f_X10_setLiteral h_r18) (fun r19 h_r19 => (tp_k_X6_readTone_310 hrc h_r19)))) (fun _ => pc_if (fun _ => pc_bd (tp_f_X0_poolCell h_s) (fun r21 h_r21 => pc_bd (tp_f_X10_setLiteral h_r21) (fun r22 h_r22 => (tp_k_X6_readTone_310 hrc h_r22)))) (fun _ => pc_if (fun _ => pc_if (fun z6 => tp_st (TP.set h_s ⟨by decide, by decide, by decide, by decide, fun y => absurd y.1 (by decide), fun y => absurd y.1 (by decide), by decide⟩) (fun s9 h_s9 => (tp_k_X6_readTone_310 hrc h_s9))) (fun _ => pc_none)) (fun _ => (tp_k_X6_readTone_310 hrc h_s))))))))))
theorem TPB_X6_readBase_R : ∀ n, TPB_X6_readBase q lq f0 b m zz G (R_X6_readBase n) := by
  intro n
  induction n with
  | zero => exact ⟨fun _ _ _ => pc_none, fun _ _ _ => pc_none, fun _ _ _ => pc_none, fun _ _ _ => pc_none, fun _ _ _ => pc_none, fun _ _ _ _ _ _ => pc_none, fun _ _ _ => pc_none, fun _ _ _ => pc_none, fun _ _ _ _ => pc_none, fun _ _ _ _ _ => pc_none, fun _ _ _ _ _ _ => pc_none, fun _ _ _ _ => pc_none, fun _ _ _ _ _ => pc_none, fun _ _ _ _ => pc_none, fun _ _ _ _ _ => pc_none, fun _ _ _ _ _ => pc_none⟩
  | succ n ih => exact ⟨fun _ _ h => tp_m_X6_readBase ih h, fun _ _ h => tp_m_X6_readElements ih h, fun _ _ h => tp_m_X6_readExp ih h, fun _ _ h => tp_m_X6_readExpFields ih h, fun _ _ h => tp_m_X6_readExps ih h, fun _ _ _ _ _ h => tp_m_X6_readInner ih h, fun _ _ h => tp_m_X6_readMet ih h, fun _ _ h => tp_m_X6_readOne ih h, fun _ _ _ h => tp_m_X6_readPerm ih h, fun _ _ _ _ h => tp_m_X6_readPieces ih h, fun _ _ _ _ _ h => tp_m_X6_readRow ih h, fun _ _ _ h => tp_m_X6_readSame ih h, fun _ _ _ _ h => tp_m_X6_readTag ih h, fun _ _ _ h => tp_m_X6_readTempl ih h, fun _ _ _ _ h => tp_m_X6_readTemplFields ih h, fun _ _ _ _ h => tp_m_X6_readTone ih h⟩
theorem tp_f_X6_readExp {x1 : Int32} {s : t_S} (h_s : TP q lq f0 b m zz G s) : t_pq (f_X6_readExp x1 s) (fun y => TP q lq f0 b m zz G y.2) := by
  unfold f_X6_readExp
  exact ((TPB_X6_readBase_R 250).2.2.1 _ _ h_s)
theorem tp_f_X6_readTempl {x1 : Int32} {x2 : Int32} {s : t_S} (h_s : TP q lq f0 b m zz G s) : t_pq (f_X6_readTempl x1 x2 s) (fun y => TP q lq f0 b m zz G y.2) := by
  unfold f_X6_readTempl
  exact ((TPB_X6_readBase_R 250).2.2.2.2.2.2.2.2.2.2.2.2.2.1 _ _ _ h_s)
theorem tp_k_X6_takeVar_33 {l1 : Int32} {k0 : Int32} {s : t_S} (h_s : TP q lq f0 b m zz G s) : t_pq (k_X6_takeVar_33 l1 k0 s) (fun y => TP q lq f0 b m zz G y) := by
  unfold k_X6_takeVar_33
  exact pc_if (fun z1 => tp_st (TP.set h_s (tp_ar (tp_row (a := 445) z1 (by decide) (by decide)))) (fun s1 h_s1 => pc_if (fun _ => pc_bd (tp_f_X6_link ⟨by unfold tc_K; decide, by decide⟩ h_s1) (fun r2 h_r2 => pc_some h_r2)) (fun _ => pc_bd (tp_f_X2_advance h_s1) (fun r3 h_r3 => pc_some h_r3)))) (fun _ => pc_none)
theorem tp_f_X6_takeVar {x1 : Int32} {s : t_S} (h_s : TP q lq f0 b m zz G s) : t_pq (f_X6_takeVar x1 s) (fun y => TP q lq f0 b m zz G y) := by
  unfold f_X6_takeVar
  exact pc_if (fun z1 => pc_bd pc_any (fun r2 h_r2 => (tp_k_X6_takeVar_33 h_s))) (fun _ => (tp_k_X6_takeVar_33 h_s))
theorem tp_f_X6_readInto {x1 : Int32} {s : t_S} (h_s : TP q lq f0 b m zz G s) : t_pq (f_X6_readInto x1 s) (fun y => TP q lq f0 b m zz G y) := by
  unfold f_X6_readInto
  exact pc_bd (tp_f_X2_take h_s) (fun r1 h_r1 => pc_if (fun _ => pc_some h_r1) (fun _ => pc_bd (tp_f_X6_takeVar h_r1) (fun r2 h_r2 => pc_some h_r2)))
theorem tp_k_X6_readEvent_133 {l1 : Int32} {s : t_S} (h_s : TP q lq f0 b m zz G s) : t_pq (k_X6_readEvent_133 l1 s) (fun y => TP q lq f0 b m zz G y) := by
  unfold k_X6_readEvent_133
  exact pc_bd (tp_f_X6_readInto h_s) (fun r1 h_r1 => pc_some h_r1)
theorem tp_k_X6_readEvent_62 {l1 : Int32} {l2 : Nat} {s : t_S} (hl_l2 : ARp l2) (h_s : TP q lq f0 b m zz G s) : t_pq (k_X6_readEvent_62 l1 l2 s) (fun y => TP q lq f0 b m zz G y) := by
  unfold k_X6_readEvent_62
  exact pc_if (fun _ => pc_if (fun _ => pc_if (fun _ => pc_bd (tp_f_X6_link ⟨by unfold tc_K; decide, by decide⟩ h_s) (fun r3 h_r3 => pc_if (fun _ => tp_st (TP.set h_r3 (tp_ar hl_l2)) (fun s1 h_s1 => pc_bd (tp_f_X6_readTempl h_s1) (fun r5 h_r5 => pc_if (fun _ => tp_st (TP.set h_r5 (tp_ar hl_l2)) (fun s2 h_s2 => pc_bd (tp_f_X0_emit h_s2) (fun r7 h_r7 => pc_bd (tp_f_X2_take h_r7) (fun r8 h_r8 => pc_if (fun _ => (tp_k_X6_readEvent_133 h_r8)) (fun _ => pc_bd (tp_f_X6_readExp h_r8) (fun r9 h_r9 => pc_if (fun _ => tp_st (TP.set h_r9 (tp_ar hl_l2)) (fun s3 h_s3 => (tp_k_X6_readEvent_133 h_s3))) (fun _ => pc_none))))))) (fun _ => pc_none)))) (fun _ => pc_none))) (fun _ => pc_some h_s)) (fun _ => pc_none)) (fun _ => pc_none)
theorem tp_k_X6_readEvent_46 {l1 : Int32} {l2 : Nat} {s : t_S} (hl_l2 : ARp l2) (h_s : TP q lq f0 b m zz G s) : t_pq (k_X6_readEvent_46 l1 l2 s) (fun y => TP q lq f0 b m zz G y) := by
  unfold k_X6_readEvent_46
  exact pc_if (fun _ => pc_if (fun _ => pc_if (fun _ => pc_bd (tp_f_X6_readExp h_s) (fun r3 h_r3 => pc_if (fun _ => tp_st (TP.set h_r3 (tp_ar hl_l2)) (fun s1 h_s1 => (tp_k_X6_readEvent_62 hl_l2 h_s1))) (fun _ => pc_none))) (fun _ => (tp_k_X6_readEvent_62 hl_l2 h_s))) (fun _ => pc_none)) (fun _ => pc_none)
theorem tp_f_X6_readEvent {x1 : Int32} {s : t_S} (h_s : TP q lq f0 b m zz G s) : t_pq (f_X6_readEvent x1 s) (fun y => TP q lq f0 b m zz G y) := by
  unfold f_X6_readEvent
  exact pc_if (fun z1 => tp_st (TP.set h_s (tp_ar (tp_row (a := 445) z1 (by decide) (by decide)))) (fun s1 h_s1 => pc_bd (tp_f_X2_advance h_s1) (fun r3 h_r3 => pc_if (fun _ => pc_bd (tp_f_X6_link ⟨by unfold tc_K; decide, by decide⟩ h_r3) (fun r4 h_r4 => (tp_k_X6_readEvent_46 (tp_row (a := 445) z1 (by decide) (by decide)) h_r4))) (fun _ => (tp_k_X6_readEvent_46 (tp_row (a := 445) z1 (by decide) (by decide)) h_r3))))) (fun _ => pc_none)
theorem tp_k_X6_readBranch_210 {rc : RT_X6_readAlts} {l1 : Int32} {l3 : Int32} {l4 : Nat} {s : t_S} (hrc : TPB_X6_readAlts q lq f0 2147483648 m 0 G rc) (hl_l4 : ARp l4) (h_s : TP q lq f0 2147483648 m 0 G s) : t_pq (k_X6_readBranch_210 rc l1 l3 l4 s) (fun y => TP q lq f0 2147483648 m 0 G y.2) := by
  unfold k_X6_readBranch_210
  exact pc_bd (tp_f_X6_readEvent h_s) (fun r1 h_r1 => pc_bd (hrc.2.1 _ _ _ h_r1) (fun r2 h_r2 => pc_if (fun _ => pc_if (fun _ => tp_st (TP.set h_r2 (tp_ar hl_l4)) (fun s1 h_s1 => pc_some h_s1)) (fun _ => pc_none)) (fun _ => pc_none)))
theorem tp_f_X6_readExps {x1 : Int32} {s : t_S} (h_s : TP q lq f0 b m zz G s) : t_pq (f_X6_readExps x1 s) (fun y => TP q lq f0 b m zz G y.2) := by
  unfold f_X6_readExps
  exact ((TPB_X6_readBase_R 250).2.2.2.2.1 _ _ h_s)
theorem tp_k87 {l1 l2 l3 l4 k0 : Int32} {s : t_S} (hx : tc_K l2) (hg : G → (q : Int) ≤ l4.toInt) (h_s : TP q lq f0 l4.toInt (l4.toInt + 1) z G s) : t_pq (k_X6_readCall_87 l1 l2 l3 l4 k0 s) (fun y => TP q lq f0 2147483648 (l4.toInt + 1) z G y) := by
  unfold k_X6_readCall_87
  refine pc_bd (tp_f_X2_need h_s) (fun r1 h1 => pc_bd (tp_f_X0_emit h1) (fun r2 h2 => pc_bd (tp_add (z' := z) h2 (fun f => hg (h2 f).1) (tp_hm h2) (Int.le_of_lt (i32_lt l4)) (fun f => ⟨Int.le_refl _, (h2 f).2.2.2.2.2.1.2.1⟩) (fun f _ => ⟨by have := (tp_pl h2 f).2; omega, Int.le_refl _, i32_lt l4⟩) (fun _ k => ?_)) (fun r4 h4 => pc_some h4)))
  rw [k] at hx
  exact absurd hx (by unfold tc_K; decide)
theorem tp_k66 {l1 l2 l3 l4 : Int32} {s : t_S} (hx : tc_K l2) (hg : G → (q : Int) ≤ l4.toInt) (h_s : TP q lq f0 l4.toInt (l4.toInt + 1) z G s) : t_pq (k_X6_readCall_66 l1 l2 l3 l4 s) (fun y => TP q lq f0 2147483648 (l4.toInt + 1) z G y) := by
  unfold k_X6_readCall_66
  exact pc_if (fun _ => tp_k87 hx hg h_s) (fun _ => pc_bd (tp_f_X6_readExps h_s) (fun r1 h1 => tp_k87 hx hg h1))
theorem tp_need1 {s : t_S} (h_s : TP q lq f0 2147483648 m z G s) : t_pq (f_X2_need 1 s) (fun y => TP q lq f0 (s.1 1 9).toInt ((s.1 1 9).toInt + 1) z (G ∧ ((q : Int) ≤ (s.1 1 9).toInt ∧ m ≤ (s.1 1 9).toInt)) y) := by
  have h1 : TP q lq f0 (s.1 1 9).toInt m z (G ∧ ((q : Int) ≤ (s.1 1 9).toInt ∧ m ≤ (s.1 1 9).toInt)) s := (h_s.more (fun f => tp_pl h_s f)).bd (fun _ => Or.inr (Int.le_refl _)) (fun _ => Or.inl (Int.le_refl _))
  unfold f_X2_need
  exact pc_if (fun w => pc_bd (tp_advance h1 (fun _ => Or.inr (Int.le_refl _)) (fun _ => Or.inr w)) (fun r2 h2 => pc_some h2)) (fun _ => pc_bd (tp_flv (by decide)) (fun r1 hr1 => pc_some (tp_no hr1)))
theorem tp_f_X6_readCall {x1 x2 : Int32} {s : t_S} (hx : tc_K x2) (h_s : TP q lq f0 2147483648 m z G s) : t_pq (f_X6_readCall x1 x2 s) (fun y => TP q lq f0 2147483648 m z G y) := by
  have g : t_pq (f_X6_readCall x1 x2 s) (fun y => TP q lq f0 2147483648 ((s.1 1 9).toInt + 1) z (G ∧ ((q : Int) ≤ (s.1 1 9).toInt ∧ m ≤ (s.1 1 9).toInt)) y) := by
    unfold f_X6_readCall
    exact pc_bd (tp_need1 h_s) (fun r2 h_r2 => pc_bd (tp_f_X2_need h_r2) (fun r3 h_r3 => pc_if (fun z1 => pc_if (fun _ => tp_k66 hx (fun g => g.2.1) h_r3) (fun _ => tp_st (TP.set h_r3 (tp_ar (tp_row (a := 445) z1 (by decide) (by decide)))) (fun s1 h_s1 => tp_k66 hx (fun g => g.2.1) h_s1))) (fun _ => pc_none)))
  exact fun y e => ((g y e).bd (m' := m) (fun _ => Or.inl (Int.le_refl _)) (fun f => Or.inl (by have := ((g y e) f).1.2.2; omega))).less
theorem tp_k_X6_readBranch_140 {rc : RT_X6_readAlts} {l1 : Int32} {l3 : Int32} {l4 : Nat} {s : t_S} (hrc : TPB_X6_readAlts q lq f0 2147483648 m 0 G rc) (hl_l4 : ARp l4) (h_s : TP q lq f0 2147483648 m 0 G s) : t_pq (k_X6_readBranch_140 rc l1 l3 l4 s) (fun y => TP q lq f0 2147483648 m 0 G y.2) := by
  unfold k_X6_readBranch_140
  exact pc_bd (tp_f_X2_need h_s) (fun r1 h_r1 => pc_bd (tp_f_X2_take h_r1) (fun r2 h_r2 => pc_if (fun _ => pc_if (fun _ => pc_bd (tp_f_X2_fail (by decide) h_r2) (fun r5 h_r5 => (tp_k_X6_readBranch_210 hrc hl_l4 h_r5))) (fun _ => (tp_k_X6_readBranch_210 hrc hl_l4 h_r2))) (fun _ => pc_if (fun _ => pc_if (fun _ => tp_st (TP.set h_r2 (tp_ar hl_l4)) (fun s1 h_s1 => pc_bd (tp_f_X6_readCall (by unfold tc_K; decide) h_s1) (fun r8 h_r8 => pc_bd (tp_f_X2_need h_r8) (fun r9 h_r9 => pc_some h_r9)))) (fun _ => pc_none)) (fun _ => pc_none))))
theorem tp_k_X6_readBranch_41 {rc : RT_X6_readAlts} {l1 : Int32} {l2 : Int32} {s : t_S} (hrc : TPB_X6_readAlts q lq f0 2147483648 m 0 G rc) (h_s : TP q lq f0 2147483648 m 0 G s) : t_pq (k_X6_readBranch_41 rc l1 l2 s) (fun y => TP q lq f0 2147483648 m 0 G y.2) := by
  unfold k_X6_readBranch_41
  exact pc_if (fun _ => pc_bd (tp_f_X5_addStep h_s) (fun r1 h_r1 => pc_if (fun z1 => pc_bd (tp_f_X2_advance h_r1) (fun r3 h_r3 => pc_bd (tp_f_X2_take h_r3) (fun r4 h_r4 => pc_if (fun _ => pc_if (fun _ => (tp_k_X6_readBranch_140 hrc (tp_row (a := 445) z1 (by decide) (by decide)) h_r4)) (fun _ => pc_bd (tp_f_X6_readExp h_r4) (fun r5 h_r5 => tp_st (TP.set h_r5 (tp_ar (tp_row (a := 445) z1 (by decide) (by decide)))) (fun s1 h_s1 => (tp_k_X6_readBranch_140 hrc (tp_row (a := 445) z1 (by decide) (by decide)) h_s1))))) (fun _ => pc_bd (tp_f_X2_need h_r4) (fun r6 h_r6 => pc_bd (hrc.2.1 _ _ _ h_r6) (fun r7 h_r7 => tp_st (TP.set h_r7 (tp_ar (tp_row (a := 445) z1 (by decide) (by decide)))) (fun s2 h_s2 => pc_some h_s2))))))) (fun _ => pc_none))) (fun _ => pc_some h_s)
theorem tp_k_X6_readBranch_20 {rc : RT_X6_readAlts} {l1 : Int32} {l2 : Int32} {s : t_S} (hrc : TPB_X6_readAlts q lq f0 2147483648 m 0 G rc) (h_s : TP q lq f0 2147483648 m 0 G s) : t_pq (k_X6_readBranch_20 rc l1 l2 s) (fun y => TP q lq f0 2147483648 m 0 G y.2) := by
  unfold k_X6_readBranch_20
  exact pc_if (fun _ => (tp_k_X6_readBranch_41 hrc h_s)) (fun _ => pc_bd (tp_f_X2_fail (by decide) h_s) (fun r1 h_r1 => (tp_k_X6_readBranch_41 hrc h_r1)))
theorem tp_m_X6_readBranch {rc : RT_X6_readAlts} {x1 : Int32} {x2 : Int32} {s : t_S} (hrc : TPB_X6_readAlts q lq f0 2147483648 m 0 G rc) (h_s : TP q lq f0 2147483648 m 0 G s) : t_pq (m_X6_readBranch rc x1 x2 s) (fun y => TP q lq f0 2147483648 m 0 G y.2) := by
  unfold m_X6_readBranch
  exact pc_if (fun _ => (tp_k_X6_readBranch_20 hrc h_s)) (fun _ => pc_bd (tp_f_X2_fail (by decide) h_s) (fun r1 h_r1 => (tp_k_X6_readBranch_20 hrc h_r1)))
theorem tp_vt {x2 : Int32} {s : t_S} (h_s : TP q lq f0 b m 0 G s) (h8 : s.1 1 11 = 0 → (s.1 440 f0).toInt + 1 ≤ 8) (hx : s.1 1 11 = 0 → x2.toInt = 8 * (f0 : Int) + (s.1 440 f0).toInt) : t_pq (f_X6_readVarType 1 x2 s) (fun y => TP q lq f0 b m 1 G y) := by
  unfold f_X6_readVarType
  have tk : t_pq (f_X2_take 58 s) (fun y => TP q lq f0 b m 0 G y.2 ∧ TP q lq f0 b m 1 G y.2 ∧ (y.2.1 1 11 = 0 → x2.toInt = 8 * (f0 : Int) + (y.2.1 440 f0).toInt)) := by
    unfold f_X2_take
    refine pc_if (fun _ => pc_bd (P := fun y => (TP q lq f0 b m 0 G y ∧ TP q lq f0 b m 1 G y) ∧ (y.1 1 11 = 0 → x2.toInt = 8 * (f0 : Int) + (y.1 440 f0).toInt)) (fun y e => ⟨⟨tp_f_X2_advance h_s y e, tp_f_X2_advance (h_s.up h8) y e⟩, fun f => ?_⟩) (fun r1 h1 => pc_some ⟨h1.1.1, h1.1.2, h1.2⟩)) (fun _ => pc_some ⟨h_s, h_s.up h8, hx⟩)
    rw [tp_a440 y e]
    refine hx ?_
    have q : t_pq (f_X2_advance s) (fun y => y.1 1 11 = 0 → s.1 1 11 = 0) := by
      unfold f_X2_advance
      exact pc_if (fun z0 => fun _ _ _ => z0) (fun _ => pc_some id)
    exact q y e f
  refine pc_bd tk (fun r1 h1 => pc_if (fun _ => pc_some h1.2.1) (fun _ => pc_bd ?_ (fun r2 h2 => pc_some h2)))
  unfold f_X6_link
  refine pc_if (fun _ => pc_bd (tp_add (z' := 1) h1.1 (fun f => (tp_pl h1.1 f).1) (tp_hm h1.1) (Int.le_refl _) (fun f => ⟨by decide, (h1.2.1 f).2.2.2.2.2.1.2.1⟩) (fun _ k => absurd k (by unfold tc_K; decide)) (fun f _ => by have := h1.2.2 f; omega)) (fun r3 h3 => pc_bd (tp_f_X2_advance h3) (fun r4 h4 => pc_some h4))) (fun _ => pc_bd (tp_flv (by decide)) (fun r5 h5 => pc_some (tp_no h5)))
theorem tp_f_X6_readVar {x1 : Int32} {s : t_S} (h_s : TP q lq f0 b m 0 G s) : t_pq (f_X6_readVar x1 s) (fun y => TP q lq f0 b m 0 G y) := by
  unfold f_X6_readVar
  refine pc_if (fun z1 => pc_bd (tp_f_X6_takePlace h_s) (fun r2 h_r2 => pc_if (fun _ => pc_bd (tp_vt h_r2.1 (fun f => (h_r2.2 f).2) (fun f => ?_)) (fun r3 h_r3 => pc_bd (tp_f_X2_need h_r3) (fun r4 h_r4 => pc_bd (tp_f_X6_readExp h_r4) (fun r5 h_r5 => tp_st (TP.set h_r5 (tp_ar (tp_row (a := 445) z1 (by decide) (by decide)))) (fun s1 h_s1 => tp_st (TP.set h_s1 (tp_ar (tp_row (a := 445) z1 (by decide) (by decide)))) (fun s2 h_s2 => pc_if (fun z2 => pc_lt (pc_some (TP.dn h_s2 (fun _ => rfl)))) (fun _ => pc_none))))))) (fun _ => pc_some h_r2.1))) (fun _ => pc_none)
  obtain ⟨_, _, _, _, ⟨h12, hf⟩, h5, _⟩ := h_r2.1 f
  rw [h12, (h_r2.2 f).1]
  obtain ⟨n, n1, n2⟩ : ∃ n : Nat, n < 9 ∧ r2.2.1 440 f0 = nI n := ⟨(r2.2.1 440 f0).toInt.toNat, by omega, by
    rw [← Int32.toInt_inj, nI_toInt (by omega)]
    omega⟩
  rw [n2, show nI f0 * (8 : Int32) = nI (8 * f0) from (pk_mul f0 8).trans (by rw [Nat.mul_comm]), nI_add, nI_toInt (by omega), nI_toInt (by omega)]
  omega
theorem tp_k_X6_readPlain_197 {s : t_S} (h_s : TP q lq f0 b m zz G s) : t_pq (k_X6_readPlain_197 s) (fun y => TP q lq f0 b m zz G y) := by
  unfold k_X6_readPlain_197
  exact pc_bd (tp_f_X2_advance h_s) (fun r1 h_r1 => pc_some h_r1)
theorem tp_k_X6_readPlain_189 {s : t_S} (h_s : TP q lq f0 b m zz G s) : t_pq (k_X6_readPlain_189 s) (fun y => TP q lq f0 b m zz G y) := by
  unfold k_X6_readPlain_189
  exact pc_bd (tp_f_X2_fail (by decide) h_s) (fun r1 h_r1 => (tp_k_X6_readPlain_197 h_r1))
theorem tp_f_X6_readPlain {x1 : Int32} {x2 : Int32} {s : t_S} (h_s : TP q lq f0 2147483648 m 0 G s) : t_pq (f_X6_readPlain x1 x2 s) (fun y => TP q lq f0 2147483648 m 0 G y) := by
  unfold f_X6_readPlain
  exact pc_if (fun z1 => pc_if (fun _ => pc_some h_s) (fun _ => pc_if (fun _ => pc_bd (tp_f_X6_readVar h_s) (fun r2 h_r2 => pc_some h_r2)) (fun _ => pc_if (fun _ => pc_some h_s) (fun _ => pc_if (fun _ => pc_some h_s) (fun _ => pc_if (fun _ => pc_some h_s) (fun _ => pc_if (fun _ => pc_if (fun _ => pc_some h_s) (fun _ => pc_bd (tp_f_X6_readExp h_s) (fun r3 h_r3 => tp_st (TP.set h_r3 (tp_ar (tp_row (a := 445) z1 (by decide) (by decide)))) (fun s1 h_s1 => pc_some h_s1)))) (fun _ => pc_if (fun _ => pc_bd (tp_f_X6_readCall (by unfold tc_K; decide) h_s) (fun r4 h_r4 => pc_bd (tp_f_X6_readInto h_r4) (fun r5 h_r5 => pc_some h_r5))) (fun _ => pc_if (fun _ => tp_st (TP.set h_s (tp_ar (tp_row (a := 445) z1 (by decide) (by decide)))) (fun s2 h_s2 => pc_if (fun _ => (tp_k_X6_readPlain_189 h_s2)) (fun _ => pc_if (fun _ => (tp_k_X6_readPlain_197 h_s2)) (fun _ => (tp_k_X6_readPlain_189 h_s2))))) (fun _ => pc_if (fun _ => pc_bd (tp_f_X6_readExp h_s) (fun r6 h_r6 => tp_st (TP.set h_r6 (tp_ar (tp_row (a := 445) z1 (by decide) (by decide)))) (fun s3 h_s3 => pc_some h_s3))) (fun _ => pc_if (fun _ => pc_bd (tp_f_X6_link ⟨by unfold tc_K; decide, by decide⟩ h_s) (fun r7 h_r7 => pc_bd (tp_f_X6_readExp h_r7) (fun r8 h_r8 => tp_st (TP.set h_r8 (tp_ar (tp_row (a := 445) z1 (by decide) (by decide)))) (fun s4 h_s4 => pc_some h_s4)))) (fun _ => pc_if (fun _ => pc_some h_s) (fun _ => pc_if (fun _ => pc_some h_s) (fun _ => pc_if (fun _ => pc_some h_s) (fun _ => pc_if (fun _ => pc_some h_s) (fun _ => pc_if (fun _ => pc_bd (tp_f_X6_link ⟨by unfold tc_K; decide, by decide⟩ h_s) (fun r9 h_r9 => pc_bd (tp_f_X6_readExp h_r9) (fun r10 h_r10 => tp_st (TP.set h_r10 (tp_ar (tp_row (a := 445) z1 (by decide) (by decide)))) (fun s5 h_s5 => pc_some h_s5)))) (fun _ => pc_if (fun _ => pc_bd (tp_f_X6_link ⟨by unfold tc_K; decide, by decide⟩ h_s) (fun r11 h_r11 => pc_some h_r11)) (fun _ => pc_if (fun _ => pc_some h_s) (fun _ => pc_if (fun _ => pc_some h_s) (fun _ => pc_if (fun _ => pc_some h_s) (fun _ => pc_if (fun _ => pc_some h_s) (fun _ => pc_bd (tp_f_X6_readExp h_s) (fun r12 h_r12 => tp_st (TP.set h_r12 (tp_ar (tp_row (a := 445) z1 (by decide) (by decide)))) (fun s6 h_s6 => pc_some h_s6))))))))))))))))))))))) (fun _ => pc_none)
theorem tp_k_X6_readStatement_315 {rc : RT_X6_readAlts} {l4 : Int32} {s : t_S} (hrc : TPB_X6_readAlts q lq f0 2147483648 m 0 G rc) (h_s : TP q lq f0 2147483648 m 0 G s) : t_pq (k_X6_readStatement_315 rc l4 s) (fun y => TP q lq f0 2147483648 m 0 G y.2) := by
  unfold k_X6_readStatement_315
  exact pc_bd (tp_f_X2_need h_s) (fun r1 h_r1 => pc_some h_r1)
theorem tp_k_X6_readAssignment_152 {l2 : Nat} {s : t_S} (hl_l2 : ARp l2) (h_s : TP q lq f0 b m zz G s) : t_pq (k_X6_readAssignment_152 l2 s) (fun y => TP q lq f0 b m zz G y) := by
  unfold k_X6_readAssignment_152
  exact pc_bd (tp_f_X2_need h_s) (fun r1 h_r1 => pc_if (fun _ => pc_if (fun _ => tp_st (TP.set h_r1 (tp_ar hl_l2)) (fun s1 h_s1 => pc_bd (tp_f_X6_readExp h_s1) (fun r4 h_r4 => pc_bd (tp_f_X0_emit h_r4) (fun r5 h_r5 => pc_bd (tp_f_X2_need h_r5) (fun r6 h_r6 => pc_some h_r6))))) (fun _ => pc_none)) (fun _ => pc_none))
theorem tp_k_X6_readAssignment_146 {l2 : Nat} {l3 : Int32} {s : t_S} (hl_l2 : ARp l2) (h_s : TP q lq f0 b m zz G s) : t_pq (k_X6_readAssignment_146 l2 l3 s) (fun z => Sum.elim (fun y => (ARp y.1 ∧ TP q lq f0 b m zz G y.2.2)) (fun y => TP q lq f0 b m zz G y) z) := by
  unfold k_X6_readAssignment_146
  exact pc_some ⟨hl_l2, h_s⟩
theorem tp_k_X6_readAssignment_71 {l2 : Nat} {l3 : Int32} {s : t_S} (hl_l2 : ARp l2) (h_s : TP q lq f0 b m zz G s) : t_pq (k_X6_readAssignment_71 l2 l3 s) (fun z => Sum.elim (fun y => (ARp y.1 ∧ TP q lq f0 b m zz G y.2.2)) (fun y => TP q lq f0 b m zz G y) z) := by
  unfold k_X6_readAssignment_71
  exact pc_bd (tp_f_X6_node h_s) (fun r1 h_r1 => pc_bd (tp_f_X2_take h_r1) (fun r2 h_r2 => pc_if (fun _ => pc_bd (tp_f_X2_take h_r2) (fun r3 h_r3 => pc_if (fun _ => (tp_k_X6_readAssignment_146 hl_l2 h_r3)) (fun _ => pc_bd (tp_f_X6_readExp h_r3) (fun r4 h_r4 => pc_bd (tp_f_X2_need h_r4) (fun r5 h_r5 => pc_bd (tp_f_X0_emit h_r5) (fun r6 h_r6 => (tp_k_X6_readAssignment_146 hl_l2 h_r6))))))) (fun _ => pc_bd (tp_f_X6_takeFieldName h_r2) (fun r7 h_r7 => pc_bd (tp_f_X0_emit h_r7) (fun r8 h_r8 => (tp_k_X6_readAssignment_146 hl_l2 h_r8))))))
theorem tp_k_X6_readAssignment_27 {l2 : Nat} {l3 : Int32} {s : t_S} (hl_l2 : ARp l2) (h_s : TP q lq f0 b m zz G s) : t_pq (k_X6_readAssignment_27 l2 l3 s) (fun z => Sum.elim (fun y => (ARp y.1 ∧ TP q lq f0 b m zz G y.2.2)) (fun y => TP q lq f0 b m zz G y) z) := by
  unfold k_X6_readAssignment_27
  exact pc_if (fun _ => pc_mp ((tp_k_X6_readAssignment_152 hl_l2 h_s))) (fun _ => pc_if (fun _ => pc_if (fun _ => (tp_k_X6_readAssignment_71 hl_l2 h_s)) (fun _ => pc_if (fun _ => (tp_k_X6_readAssignment_71 hl_l2 h_s)) (fun _ => pc_mp ((tp_k_X6_readAssignment_152 hl_l2 h_s))))) (fun _ => pc_mp ((tp_k_X6_readAssignment_152 hl_l2 h_s))))
theorem tp_b_X6_readAssignment_27 {x : Nat × Int32 × t_S} (h : (ARp x.1 ∧ TP q lq f0 b m zz G x.2.2)) : t_pq (b_X6_readAssignment_27 x) (fun z => Sum.elim (fun y => (ARp y.1 ∧ TP q lq f0 b m zz G y.2.2)) (fun y => TP q lq f0 b m zz G y) z) := tp_k_X6_readAssignment_27 h.1 h.2
theorem tp_f_X6_readAssignment {x1 : Int32} {s : t_S} (h_s : TP q lq f0 b m zz G s) : t_pq (f_X6_readAssignment x1 s) (fun y => TP q lq f0 b m zz G y) := by
  unfold f_X6_readAssignment
  exact pc_if (fun z1 => pc_bd (tp_f_X6_takeVar h_s) (fun r2 h_r2 => tp_st (TP.set h_r2 (tp_ar (tp_row (a := 445) z1 (by decide) (by decide)))) (fun s1 h_s1 => pc_lp (fun x h => tp_b_X6_readAssignment_27 h) ⟨(tp_row (a := 445) z1 (by decide) (by decide)), h_s1⟩))) (fun _ => pc_none)
theorem tp_k_X6_readOfComponents_64 {l1 : Int32} {s : t_S} (h_s : TP q lq f0 b m zz G s) : t_pq (k_X6_readOfComponents_64 l1 s) (fun y => TP q lq f0 b m zz G y) := by
  unfold k_X6_readOfComponents_64
  exact pc_bd (tp_f_X6_readInto h_s) (fun r1 h_r1 => pc_some h_r1)
theorem tp_f_X6_takePort {x1 : Int32} {s : t_S} (h_s : TP q lq f0 b m zz G s) : t_pq (f_X6_takePort x1 s) (fun y => TP q lq f0 b m zz G y.2) := by
  unfold f_X6_takePort
  exact pc_bd (tp_f_X6_link ⟨by unfold tc_K; decide, by decide⟩ h_s) (fun r2 h_r2 => pc_some h_r2)
theorem tp_f_X6_readOfComponents {x1 : Int32} {x2 : Int32} {s : t_S} (h_s : TP q lq f0 2147483648 m 0 G s) : t_pq (f_X6_readOfComponents x1 x2 s) (fun y => TP q lq f0 2147483648 m 0 G y) := by
  unfold f_X6_readOfComponents
  exact pc_if (fun z1 => pc_if (fun _ => pc_bd (tp_f_X6_readCall (by unfold tc_K; decide) h_s) (fun r2 h_r2 => pc_some h_r2)) (fun _ => pc_if (fun _ => pc_bd (tp_f_X6_link ⟨by unfold tc_K; decide, by decide⟩ h_s) (fun r3 h_r3 => pc_if (fun _ => (tp_k_X6_readOfComponents_64 h_r3)) (fun _ => pc_bd (tp_f_X2_fail (by decide) h_r3) (fun r4 h_r4 => (tp_k_X6_readOfComponents_64 h_r4))))) (fun _ => pc_if (fun _ => tp_st (TP.set h_s (tp_ar (tp_row (a := 445) z1 (by decide) (by decide)))) (fun s1 h_s1 => pc_bd (tp_f_X6_readExp h_s1) (fun r5 h_r5 => pc_bd (tp_f_X2_need h_r5) (fun r6 h_r6 => pc_bd (tp_f_X6_readCall (by unfold tc_K; decide) h_r6) (fun r7 h_r7 => pc_some h_r7))))) (fun _ => tp_st (TP.set h_s (tp_ar (tp_row (a := 445) z1 (by decide) (by decide)))) (fun s2 h_s2 => pc_bd (tp_f_X6_readExp h_s2) (fun r8 h_r8 => pc_bd (tp_f_X2_need h_r8) (fun r9 h_r9 => pc_bd (tp_f_X6_takePort h_r9) (fun r10 h_r10 => tp_st (TP.set h_r10 (tp_ar (tp_row (a := 445) z1 (by decide) (by decide)))) (fun s3 h_s3 => pc_bd (tp_f_X2_need h_s3) (fun r11 h_r11 => pc_bd (tp_f_X6_readExp h_r11) (fun r12 h_r12 => pc_bd (tp_f_X2_need h_r12) (fun r13 h_r13 => pc_bd (tp_f_X6_takePort h_r13) (fun r14 h_r14 => tp_st (TP.set h_r14 (tp_ar (tp_row (a := 445) z1 (by decide) (by decide)))) (fun s4 h_s4 => pc_bd (tp_f_X0_emit h_s4) (fun r15 h_r15 => pc_some h_r15))))))))))))))) (fun _ => pc_none)
theorem tp_k_X6_readStatement_98 {rc : RT_X6_readAlts} {l1 : Int32} {l3 : Int32} {l4 : Int32} {l5 : Nat} {s : t_S} (hrc : TPB_X6_readAlts q lq f0 2147483648 m 0 G rc) (hl_l5 : ARp l5) (h_s : TP q lq f0 2147483648 m 0 G s) : t_pq (k_X6_readStatement_98 rc l1 l3 l4 l5 s) (fun y => TP q lq f0 2147483648 m 0 G y.2) := by
  unfold k_X6_readStatement_98
  exact pc_if (fun _ => pc_bd (tp_f_X6_readPlain h_s) (fun r1 h_r1 => (tp_k_X6_readStatement_315 hrc h_r1))) (fun _ => pc_if (fun _ => pc_bd (tp_f_X6_readAssignment h_s) (fun r2 h_r2 => pc_some h_r2)) (fun _ => pc_if (fun _ => pc_bd (tp_f_X6_readExp h_s) (fun r3 h_r3 => pc_if (fun _ => pc_if (fun _ => tp_st (TP.set h_r3 (tp_ar hl_l5)) (fun s1 h_s1 => pc_bd (hrc.2.1 _ _ _ h_s1) (fun r6 h_r6 => pc_if (fun _ => tp_st (TP.set h_r6 (tp_ar hl_l5)) (fun s2 h_s2 => pc_bd (tp_f_X2_take h_s2) (fun r8 h_r8 => pc_if (fun _ => pc_some h_r8) (fun _ => pc_bd (hrc.2.1 _ _ _ h_r8) (fun r9 h_r9 => pc_if (fun _ => tp_st (TP.set h_r9 (tp_ar hl_l5)) (fun s3 h_s3 => pc_some h_s3)) (fun _ => pc_none)))))) (fun _ => pc_none)))) (fun _ => pc_none)) (fun _ => pc_none))) (fun _ => pc_if (fun _ => pc_bd (tp_f_X6_readExp h_s) (fun r11 h_r11 => pc_if (fun _ => pc_if (fun _ => tp_st (TP.set h_r11 (tp_ar hl_l5)) (fun s4 h_s4 => pc_bd (hrc.2.1 _ _ _ h_s4) (fun r14 h_r14 => pc_if (fun _ => tp_st (TP.set h_r14 (tp_ar hl_l5)) (fun s5 h_s5 => pc_some h_s5)) (fun _ => pc_none)))) (fun _ => pc_none)) (fun _ => pc_none))) (fun _ => pc_if (fun _ => pc_bd (tp_f_X6_readPlain h_s) (fun r16 h_r16 => (tp_k_X6_readStatement_315 hrc h_r16))) (fun _ => pc_if (fun _ => pc_bd (tp_f_X6_readPlain h_s) (fun r17 h_r17 => (tp_k_X6_readStatement_315 hrc h_r17))) (fun _ => pc_if (fun _ => pc_bd (tp_f_X6_readPlain h_s) (fun r18 h_r18 => (tp_k_X6_readStatement_315 hrc h_r18))) (fun _ => pc_if (fun _ => pc_bd (tp_f_X6_readPlain h_s) (fun r19 h_r19 => (tp_k_X6_readStatement_315 hrc h_r19))) (fun _ => pc_if (fun _ => pc_bd (tp_f_X6_readPlain h_s) (fun r20 h_r20 => (tp_k_X6_readStatement_315 hrc h_r20))) (fun _ => pc_if (fun _ => pc_bd (hrc.1 _ _ _ h_s) (fun r21 h_r21 => pc_if (fun _ => pc_if (fun _ => tp_st (TP.set h_r21 (tp_ar hl_l5)) (fun s6 h_s6 => pc_some h_s6)) (fun _ => pc_none)) (fun _ => pc_none))) (fun _ => pc_if (fun _ => pc_bd (tp_f_X6_readEvent h_s) (fun r24 h_r24 => (tp_k_X6_readStatement_315 hrc h_r24))) (fun _ => pc_if (fun _ => pc_bd (tp_f_X6_readEvent h_s) (fun r25 h_r25 => (tp_k_X6_readStatement_315 hrc h_r25))) (fun _ => pc_if (fun _ => pc_bd (tp_f_X6_readEvent h_s) (fun r26 h_r26 => (tp_k_X6_readStatement_315 hrc h_r26))) (fun _ => pc_if (fun _ => pc_bd (tp_f_X6_readPlain h_s) (fun r27 h_r27 => (tp_k_X6_readStatement_315 hrc h_r27))) (fun _ => pc_if (fun _ => pc_bd (tp_f_X6_readPlain h_s) (fun r28 h_r28 => (tp_k_X6_readStatement_315 hrc h_r28))) (fun _ => pc_if (fun _ => pc_bd (tp_f_X6_readOfComponents h_s) (fun r29 h_r29 => (tp_k_X6_readStatement_315 hrc h_r29))) (fun _ => pc_if (fun _ => pc_bd (tp_f_X6_readOfComponents h_s) (fun r30 h_r30 => (tp_k_X6_readStatement_315 hrc h_r30))) (fun _ => pc_if (fun _ => pc_bd (tp_f_X6_readOfComponents h_s) (fun r31 h_r31 => (tp_k_X6_readStatement_315 hrc h_r31))) (fun _ => pc_if (fun _ => pc_bd (tp_f_X6_readPlain h_s) (fun r32 h_r32 => (tp_k_X6_readStatement_315 hrc h_r32))) (fun _ => pc_bd (tp_f_X6_readOfComponents h_s) (fun r33 h_r33 => (tp_k_X6_readStatement_315 hrc h_r33)))))))))))))))))))))
theorem tp_k_X6_readStatement_44 {rc : RT_X6_readAlts} {l1 : Int32} {l2 : Int32} {l3 : Int32} {s : t_S} (hrc : TPB_X6_readAlts q lq f0 2147483648 m 0 G rc) (h_s : TP q lq f0 2147483648 m 0 G s) : t_pq (k_X6_readStatement_44 rc l1 l2 l3 s) (fun y => TP q lq f0 2147483648 m 0 G y.2) := by
  unfold k_X6_readStatement_44
  exact pc_if (fun _ => pc_bd (tp_f_X5_addStep h_s) (fun r1 h_r1 => pc_if (fun z1 => pc_if (fun _ => (tp_k_X6_readStatement_98 hrc (tp_row (a := 445) z1 (by decide) (by decide)) h_r1)) (fun _ => pc_if (fun _ => pc_bd (tp_f_X2_advance h_r1) (fun r4 h_r4 => (tp_k_X6_readStatement_98 hrc (tp_row (a := 445) z1 (by decide) (by decide)) h_r4))) (fun _ => (tp_k_X6_readStatement_98 hrc (tp_row (a := 445) z1 (by decide) (by decide)) h_r1)))) (fun _ => pc_none))) (fun _ => pc_some h_s)
theorem tp_k_X6_readStatement_23 {rc : RT_X6_readAlts} {l1 : Int32} {l2 : Int32} {l3 : Int32} {s : t_S} (hrc : TPB_X6_readAlts q lq f0 2147483648 m 0 G rc) (h_s : TP q lq f0 2147483648 m 0 G s) : t_pq (k_X6_readStatement_23 rc l1 l2 l3 s) (fun y => TP q lq f0 2147483648 m 0 G y.2) := by
  unfold k_X6_readStatement_23
  exact pc_if (fun _ => (tp_k_X6_readStatement_44 hrc h_s)) (fun _ => pc_bd (tp_f_X2_fail (by decide) h_s) (fun r1 h_r1 => (tp_k_X6_readStatement_44 hrc h_r1)))
theorem tp_m_X6_readStatement {rc : RT_X6_readAlts} {x1 : Int32} {x2 : Int32} {s : t_S} (hrc : TPB_X6_readAlts q lq f0 2147483648 m 0 G rc) (h_s : TP q lq f0 2147483648 m 0 G s) : t_pq (m_X6_readStatement rc x1 x2 s) (fun y => TP q lq f0 2147483648 m 0 G y.2) := by
  unfold m_X6_readStatement
  exact pc_if (fun _ => pc_bd (tp_f_X2_fail (by decide) h_s) (fun r2 h_r2 => (tp_k_X6_readStatement_23 hrc h_r2))) (fun _ => (tp_k_X6_readStatement_23 hrc h_s))
theorem TPB_X6_readAlts_R : ∀ n, TPB_X6_readAlts q lq f0 2147483648 m 0 G (R_X6_readAlts n) := by
  intro n
  induction n with
  | zero => exact ⟨fun _ _ _ _ => pc_none, fun _ _ _ _ => pc_none, fun _ _ _ _ _ => pc_none, fun _ _ _ _ => pc_none, fun _ _ _ _ => pc_none⟩
  | succ n ih => exact ⟨fun _ _ _ h => tp_m_X6_readAlts ih h, fun _ _ _ h => tp_m_X6_readBlock ih h, fun _ _ _ _ h => tp_m_X6_readBraces ih h, fun _ _ _ h => tp_m_X6_readBranch ih h, fun _ _ _ h => tp_m_X6_readStatement ih h⟩
theorem tp_f_X6_readBlock {x1 : Int32} {x2 : Int32} {s : t_S} (h_s : TP q lq f0 2147483648 m 0 G s) : t_pq (f_X6_readBlock x1 x2 s) (fun y => TP q lq f0 2147483648 m 0 G y.2) := by
  unfold f_X6_readBlock
  exact ((TPB_X6_readAlts_R 100).2.1 _ _ _ h_s)
theorem tp_f_X6_readAlts {x1 : Int32} {x2 : Int32} {s : t_S} (h_s : TP q lq f0 2147483648 m 0 G s) : t_pq (f_X6_readAlts x1 x2 s) (fun y => TP q lq f0 2147483648 m 0 G y.2) := by
  unfold f_X6_readAlts
  exact ((TPB_X6_readAlts_R 100).1 _ _ _ h_s)
/-- calls' places, places' types in order, from lq on -/
def tcO (lq f0 : Nat) (c : t_S) (e : Nat) : Prop := (tc_K (c.1 849 e) → ∀ e' : Nat, lq ≤ e' → e' < e → tc_K (c.1 849 e') → (c.1 848 e').toInt < (c.1 848 e).toInt) ∧ (c.1 849 e = 1 → (8 * (f0 : Int) ≤ (c.1 852 e).toInt ∧ (c.1 852 e).toInt < 8 * (f0 : Int) + 8) ∧ ∀ e' : Nat, lq ≤ e' → e' < e → c.1 849 e' = 1 → (c.1 852 e').toInt < (c.1 852 e).toInt)
/-- from a function's ( on -/
theorem tp_unC {so : Int32} {s : t_S} (h : TP q lq f0 2147483648 m 0 G s) : t_pq (unC so s) (fun y => y.1 1 11 = 0 → ∀ e : Nat, lq ≤ e → (e : Int) < (y.1 846 6).toInt → y.1 851 e = nI f0 ∧ (q : Int) ≤ (y.1 848 e).toInt ∧ tcO lq f0 y e) := by
  have k205 : ∀ {x y : Int32} {s : t_S}, TP q lq f0 2147483648 m 0 G s → t_pq (k_X6_readUnitItem_205 x y s) (fun y => y.1 1 11 = 0 → ∀ e : Nat, lq ≤ e → (e : Int) < (y.1 846 6).toInt → y.1 851 e = nI f0 ∧ (q : Int) ≤ (y.1 848 e).toInt ∧ tcO lq f0 y e) := fun {x y s} hs => by
    unfold k_X6_readUnitItem_205
    refine pc_if (fun z => pc_lt (pc_lt (pc_lt (pc_some (fun f e h0 he => ?_))))) (fun _ => pc_none)
    unfold tcO
    simp only [l2_gI, Nat.reduceEqDiff, reduceIte] at f he ⊢
    obtain ⟨_, _, _, _, _, g5, g⟩ := hs f
    obtain ⟨g1, g2, g3, g4⟩ := g e h0 he
    exact ⟨g1, g2, fun k => (g3 k).2.2, fun k => ⟨⟨(g4 k).1, by have := (g4 k).2.1; omega⟩, (g4 k).2.2⟩⟩
  have k165 : ∀ {s : t_S}, TP q lq f0 2147483648 m 0 G s → t_pq (k_X6_readUnitItem_165 so s) (fun y => y.1 1 11 = 0 → ∀ e : Nat, lq ≤ e → (e : Int) < (y.1 846 6).toInt → y.1 851 e = nI f0 ∧ (q : Int) ≤ (y.1 848 e).toInt ∧ tcO lq f0 y e) := fun {s} hs => by
    unfold k_X6_readUnitItem_165
    exact pc_bd (tp_f_X2_need hs) (fun r1 h1 => pc_if (fun _ => pc_bd (tp_f_X6_readAlts h1) (fun r3 h3 => k205 h3)) (fun _ => pc_bd (tp_f_X6_readBlock h1) (fun r2 h2 => k205 h2)))
  unfold unC
  exact pc_bd (tp_f_X2_need h) (fun r2 h2 => pc_if (fun _ => k165 h2) (fun _ => pc_if (fun _ => k165 h2) (fun _ => pc_bd (tp_f_X6_readParameters h2) (fun r3 h3 => k165 h3))))
end
