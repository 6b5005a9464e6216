/-! Level 2: told templates' trees once names are settled. -/
section
variable {P : pc_S} {nt : Nat → Nat} {a g j e i : Nat} {k : Nat → Nat} {c0 c r s s' : t_S} {S : Nat → Int32 → Prop} {V : Int32 → Prop} {Wd e4 p5 l6 s7 m2 st9 : Nat} {t3 : Nat}
/-- who writes an operation -/
theorem lw_op {so X sp b i : Nat} {hm v : Int32} {m : Nat} (h : lw_R nt s r so X hm sp b i v) (hb : b = 335 ∨ b = 336) : i = sp ∧ ((so = 7 ∧ b = 336) ∨ (so = 12 ∧ ∃ kc, kx_R nt s so hm kc ∧ ¬ no_R 975 979 8 r kc X)) := by
  rcases h with ⟨_, z, _⟩ | ⟨_, z, _⟩ | ⟨_, z, _⟩ | ⟨_, z, _⟩ | ⟨_, z, _⟩ | ⟨_, _, _, _, _, z⟩ | ⟨kc, w, hk, ⟨_, z, _⟩ | ⟨_, z, _⟩ | ⟨y, z, z2, _⟩ | ⟨y, z, _, z3, _⟩ | ⟨_, z, _⟩⟩
  · omega
  · omega
  · omega
  · omega
  · omega
  · omega
  · omega
  · omega
  · exact ⟨z2, Or.inl ⟨y, z⟩⟩
  · exact ⟨z, Or.inr ⟨y, kc, hk, z3⟩⟩
  · omega
theorem op_same (hM : MK V c) (Q : sQ Wd nt a t3 e4 p5 l6 s7 m2 st9 s r) (fs : l2_fr (su_W (nt 3)) c s) (O : sQ_O nt l6 m2 S s r s') (hj : j < 16000) (h2 : c.1 335 j ≠ 2) : s'.1 335 j = c.1 335 j ∧ (c.1 335 j ≠ 8 → s'.1 336 j = c.1 336 j) := by
  have c4 : ∀ b j, b ≠ 1 → b ≠ 438 → s.1 b j = c.1 b j := fun b j y1 y2 => (fs b j (by unfold su_W; omega)).1
  obtain ⟨e6, k6, _, _, _, _, e2, k4, _⟩ := Q.2.2.2.2.2.2.1
  have w0 := hM.2.2.2.2.2.2.2.2 (by rw [← c4 334 2 (by decide) (by decide), e2, nI_toInt (by omega)]; omega)
  have at' : ∀ x so X hm sp ex, x < l6 → le_D s x so X hm sp ex → (so = 12 → c.1 335 sp = 2) ∧ (so = 7 → c.1 335 sp = 8) := fun x so X hm sp ex hx D => by
    obtain ⟨⟨_, _, sp1⟩, d1, _, _, d4, _⟩ := D
    have w := w0 x (by rw [← c4 846 6 (by decide) (by decide), e6, nI_toInt (by omega)]; omega)
    rw [← c4 849 x (by decide) (by decide), d1, ← c4 852 x (by decide) (by decide), d4] at w
    refine ⟨fun y => ?_, fun y => ?_⟩
    · obtain ⟨n, n1, n2, _, n4⟩ := w.1 (by rw [y]; rfl)
      rw [(nI_eq (by omega) (by omega)).mp n1]
      exact n4
    · obtain ⟨n, n1, n2, _, n4⟩ := w.2 (by rw [y]; rfl)
      rw [(nI_eq (by omega) (by omega)).mp n1]
      exact n4
  have keep : ∀ b, b = 335 ∨ b = 336 → (b = 336 → c.1 335 j ≠ 8) → s'.1 b j = c.1 b j := fun b hb h8 => by
    refine ((O.2.1 b j (fun y => ?_)).1).trans (c4 b j (by omega) (by omega))
    rcases y with ⟨x, v, hx, so, X, hm, sp, ex, D, w⟩ | y
    · obtain ⟨q1, q2⟩ := lw_op (m := 0) w hb
      subst q1
      rcases q2 with ⟨q2, q3⟩ | ⟨q2, _⟩
      · exact h8 q3 ((at' x so X hm j ex hx D).2 q2)
      · exact h2 ((at' x so X hm j ex hx D).1 q2)
    · unfold lf_W at y
      omega
  exact ⟨keep 335 (Or.inl rfl) (fun y => absurd y (by decide)), fun h8 => keep 336 (Or.inr rfl) (fun _ => h8)⟩
/-- a template's word stays one -/
theorem word_same (Q : sQ Wd nt a t3 e4 p5 l6 s7 m2 st9 s r) (fs : l2_fr (su_W (nt 3)) c s) (O : sQ_O nt l6 m2 S s r s') (he : e < l6) (h9 : c.1 849 e = 12) (h51 : c.1 851 e = -1) (h52 : c.1 852 e = nI i) (hi : i < 16000) : s'.1 335 i = c.1 335 i ∧ s'.1 336 i = c.1 336 i := by
  have c4 : ∀ b j, b ≠ 1 → b ≠ 438 → s.1 b j = c.1 b j := fun b j y1 y2 => (fs b j (by unfold su_W; omega)).1
  obtain ⟨e6, k6, _, _, _, _, e2, k4, _⟩ := Q.2.2.2.2.2.2.1
  have A := Q.2.2.2.2.1.2.2.2
  have le : (s.1 334 2).toInt ≤ 15000 := by
    rw [e2, nI_toInt (by omega)]
    omega
  have l6' : ∀ x : Nat, x < l6 → (x : Int) < (s.1 846 6).toInt := fun x y => by
    rw [e6, nI_toInt (by omega)]
    omega
  have s9 : sk_7 (s.1 849 e) := Or.inr ((c4 849 e (by decide) (by decide)).trans h9)
  have s52 : s.1 852 e = nI i := (c4 852 e (by decide) (by decide)).trans h52
  have keep : ∀ b, b = 335 ∨ b = 336 → s'.1 b i = c.1 b i := fun b hb => by
    refine ((O.2.1 b i (fun y => ?_)).1).trans (c4 b i (by omega) (by omega))
    rcases y with ⟨x, v, hx, so, X, hm, sp, ex, D, w⟩ | y
    · obtain ⟨q1, q2⟩ := lw_op (m := 0) w hb
      subst q1
      obtain ⟨_, d1, _, d3, d4, _⟩ := D
      have k7 : sk_7 (s.1 849 x) := by
        rw [d1]
        rcases q2 with ⟨y, _⟩ | ⟨y, _⟩
        · rw [y]; exact Or.inl rfl
        · rw [y]; exact Or.inr rfl
      have ex' : x = e := by
        rcases Nat.lt_trichotomy e x with y | y | y
        · have := ((A x (l6' x hx) k7).2.2 le).2 e y s9
          rw [s52, d4] at this
          omega
        · exact y.symm
        · have := ((A e (l6' e he) s9).2.2 le).2 x y k7
          rw [s52, d4] at this
          omega
      subst ex'
      rcases q2 with ⟨y, _⟩ | ⟨_, kc, hk, hn⟩
      · have := d1.symm.trans ((c4 849 x (by decide) (by decide)).trans h9)
        rw [y] at this
        exact absurd this (by decide)
      · have hm1 : hm = -1 := d3.symm.trans ((c4 851 x (by decide) (by decide)).trans h51)
        rcases hk with ⟨f, _, f40, y, _⟩ | ⟨q, _, q8, y, _⟩ | ⟨_, y⟩
        · exact absurd (y.symm.trans hm1) (fun z => absurd (show nI f < 0 by rw [z]; decide) (nI_pos (by omega)))
        · exact absurd (y.symm.trans hm1) (hm_no (f := 0) q8 (by decide)).2.1
        · exact hn (Or.inl (by rw [y]; decide))
    · unfold lf_W at y
      omega
  exact ⟨keep 335 (Or.inl rfl), keep 336 (Or.inr rfl)⟩
/-- a told word: WORD on both sides -/
def WNs (c r : t_S) (i m : Nat) : Prop := ∃ X : Nat, X < 7934 ∧ px_o c i 2 (nI (66 + X)) ∧ r.2.1 957 m = lN X ∧ r.2.1 958 m = lN 0 ∧ r.1 961 m = nI 0
/-- a told template's tree, names settled -/
theorem told_xr (h : mR P nt a g k c0 c r) (hM : MK (pc_V P) c) (Q : sQ (pc_W P) nt a (k 3) (k 4) (k 5) (k 6) (k 7) (k 2) (k 9) s r) (fs : l2_fr (su_W (nt 3)) c s) (O : sQ_O nt (k 6) (k 2) S s r s') {u t0 t1 e0 e1 m0 m1 n : Nat} (tp : tpE c r (k 3) (k 4) (k 5) (k 6) (k 7) (k 2) u t0 t1 e0 e1 m0 m1 n) : XR (WNs s' r) (fun _ _ => True) (TNs (nt 1) s' r) (sn_R s') s' r (k 5) (k 7) (m1 - m0) 1 1 15 e0 e1 t0 t1 m0 m1 n := by
  obtain ⟨S1, S2, S3⟩ := tn_set h hM Q fs O
  obtain ⟨l0, l1, p1, s1, pl, ⟨b1, b2, b3, b4, b5, b6⟩, _, _, _, _, _, X, _⟩ := tp
  have c4 : ∀ b j, b ≠ 1 → b ≠ 438 → s.1 b j = c.1 b j ∧ s.2.1 b j = c.2.1 b j := fun b j y1 y2 => ⟨(fs b j (by unfold su_W; omega)).1, (fs b j (by unfold su_W; omega)).2.1⟩
  have k3 : k 3 ≤ 3000 := Q.2.2.2.2.2.2.1.2.2.2.2.2.1
  have k4 : k 4 ≤ 15000 := Q.2.2.2.2.2.2.1.2.2.2.2.2.2.2.1
  have lo : ∀ b j, ¬ sn_W b j → b ≠ 1 → b ≠ 438 → s'.2.1 b j = c.2.1 b j := fun b j y y1 y2 => ((O.1 b j y).2.1).trans (c4 b j y1 y2).2
  have y := XR.ax b5 b6 _ _ _ _ _ _ _ _ _ _ _ X ⟨fun _ _ _ => ⟨rfl, rfl⟩, fun _ _ _ _ _ _ _ => rfl, fun _ _ _ _ => ⟨rfl, rfl⟩, fun _ _ => rfl, fun _ _ _ _ _ _ _ => ⟨rfl, rfl⟩, fun _ _ => rfl⟩ (fun _ _ _ _ _ _ y => y) (fun _ _ _ _ _ _ y => y) (fun _ _ _ _ _ _ y => y) (fun _ _ _ _ _ _ y => y) _ (Nat.le_refl _)
  refine XR.sx _ _ _ _ _ _ _ _ _ _ _ y ⟨fun j j0 j1 z2 _ _ => op_same hM Q fs O (by omega) z2, fun b j q1 q2 j0 j1 hb => ?_, fun j _ _ _ => ⟨lo 361 j (by unfold sn_W lf_W; omega) (by decide) (by decide), lo 362 j (by unfold sn_W lf_W; omega) (by decide) (by decide)⟩, fun j _ => lo 337 j (by unfold sn_W lf_W; omega) (by decide) (by decide), fun _ _ _ _ _ _ => ⟨rfl, rfl⟩, fun _ _ => rfl⟩ (fun i m i0 i1 _ _ w => ?_) (fun _ _ _ _ _ _ _ => trivial) (fun t m t0' t1' _ _ w => tn_told h hM Q fs O w (by omega) (by omega)) (fun t m _ _ _ _ w => ?_) _ (Nat.le_refl _)
  · by_cases z : b = 354 ∨ b = 357
    · have n6 : c.1 354 j ≠ 6 := by
        rcases hb with hb | hb
        · omega
        · exact hb.1
      rcases z with z | z
      · rw [z]; exact (S2 j n6).1
      · rw [z]; exact (S2 j n6).2
    · exact S1 b j q1 (by omega) (by omega) (by omega)
  · obtain ⟨X', x1, x2, x3, x4, w⟩ := w
    rcases w with ⟨w1, _⟩ | ⟨w1, _⟩ | ⟨_, w2, e, w3, w4, w5, w6⟩
    · exact absurd w1 (show ¬ 1 ≤ 0 by decide)
    · exact absurd w1 (show ¬ 9 ≤ 0 by decide)
    · obtain ⟨X2, _, v2, v3, v4, v5, v6⟩ := w5
      obtain ⟨o1, o2⟩ := word_same Q fs O (show e < k 6 by omega) v2 v6 w6 (by omega)
      exact ⟨X', x1, ⟨o1.trans w2.1, o2.trans w2.2⟩, x2, x3, x4⟩
  · have n6 : c.1 354 t ≠ 6 := by rw [w.1]; decide
    exact ⟨(S2 t n6).1.trans w.1, (lo 362 t (by unfold sn_W lf_W; omega) (by decide) (by decide)).trans w.2⟩
end
