/-! Level 2: both parsers at one token, or both behind one fault. -/
theorem l2_gI {s : t_S} {a k b j : Nat} {v : Int32} : (t_setI s a k v).1 b j = if b = a then (if j = k then v else s.1 b j) else s.1 b j := by
  by_cases e : b = a
  · subst e
    rw [if_pos rfl, l2_sI]
    rfl
  · rw [if_neg e, l2_sO e]
theorem l2_gJ {s : t_S} {a k b j : Nat} {v : Int64} : (t_setJ s a k v).2.1 b j = if b = a then (if j = k then v else s.2.1 b j) else s.2.1 b j := by
  by_cases e : b = a
  · subst e
    rw [if_pos rfl, l2_jJ]
    rfl
  · rw [if_neg e]
    show va_up s.2.1 a _ b j = _
    rw [mj_up_ne _ _ e]
theorem l2_gIJ {s : t_S} {a k b j : Nat} {v : Int32} : (t_setI s a k v).2.1 b j = s.2.1 b j := rfl
theorem l2_gJI {s : t_S} {a k b j : Nat} {v : Int64} : (t_setJ s a k v).1 b j = s.1 b j := rfl
theorem lc_A.fr {P : Nat → Nat → Prop} {s s' : t_S} {B : Nat → Nat} {L W n u : Nat} {V sl : Nat → Nat} {H : Nat → Int64} {T : Nat → Int32} (h : lc_A s B L W V sl H T n u) (f : l2_fr P s s') (w1 : ∀ j, ¬ P 1 j) (w2 : ∀ i, ¬ P 2 i) (w3 : ∀ b i, 3 ≤ b → b ≤ 5 → ¬ P b i) (w4 : ∀ b i, 8 ≤ b → b ≤ 11 → ¬ P b i) : lc_A s' B L W V sl H T n u := by
  obtain ⟨hT, hI, ⟨a1, a2, a3, a4, a5, a6⟩, hu, h7, h8, h9, h10, h11, h5⟩ := h
  have e3 : ∀ j, s'.1 3 j = s.1 3 j := fun j => (f 3 j (w3 3 j (by decide) (by decide))).1
  have e4 : ∀ j, s'.1 4 j = s.1 4 j := fun j => (f 4 j (w3 4 j (by decide) (by decide))).1
  have e5 : ∀ j, s'.2.1 5 j = s.2.1 5 j := fun j => (f 5 j (w3 5 j (by decide) (by decide))).2.1
  have e1 : ∀ j, s'.1 1 j = s.1 1 j := fun j => (f 1 j (w1 j)).1
  refine ⟨hT.fr f (w1 1) w2, hI.fr f (w1 13) w4, ⟨a1, a2, ?_, fun j hj => ?_, fun j hj => ?_, ?_⟩, hu, ?_, ?_, ?_, ?_, ?_, ?_⟩
  · rw [e1]; exact a3
  · rw [e4]; exact a4 j hj
  · rw [e3, e5]; exact a5 j hj
  · rw [e3, e5]; exact a6
  · rw [e1]; exact h7
  · rw [e1, e3]; exact h8
  · rw [e1]; exact h9
  · rw [(f 1 10 (w1 10)).2.1, e5]; exact h10
  · rw [e1]; exact h11
  · rw [e3]; exact h5
theorem lr_A.fr {P : Nat → Nat → Prop} {s s' : t_S} {B : Nat → Nat} {L u : Nat} (h : lr_A s B L u) (f : l2_fr P s s') (h0 : s'.1 950 2 = 0) (w1 : ∀ j, j = 1 ∨ (4 ≤ j ∧ j ≤ 10) → ¬ P 950 j) (w2 : ∀ i, ¬ P 951 i) : lr_A s' B L u := by
  obtain ⟨hT, h2, h6, hle, h⟩ := h
  have e : ∀ j, 4 ≤ j → j ≤ 10 → s'.1 950 j = s.1 950 j := fun j a b => (f 950 j (w1 j (Or.inr ⟨a, b⟩))).1
  have e8 : s'.2.1 950 8 = s.2.1 950 8 := (f 950 8 (w1 8 (by omega))).2.1
  refine ⟨hT.fr f (w1 1 (by omega)) w2, h0, by rw [e 6 (by decide) (by decide)]; exact h6, hle, ?_⟩
  rcases h with ⟨a, b, c⟩ | ⟨a, b, c, d, g1, g2, g3, g4, g5⟩
  · exact Or.inl ⟨a, by rw [e 5 (by decide) (by decide)]; exact b, by rw [e 4 (by decide) (by decide)]; exact c⟩
  · refine Or.inr ⟨a, b, by rw [e 4 (by decide) (by decide)]; exact c, d, ?_, ?_, ?_, ?_, ?_⟩
    · rw [e 5 (by decide) (by decide), e 7 (by decide) (by decide), e 10 (by decide) (by decide)]; exact g1
    · rw [e 10 (by decide) (by decide)]; exact g2
    · rw [e 5 (by decide) (by decide), e 7 (by decide) (by decide), e8]; exact g3
    · rw [e 5 (by decide) (by decide), e 7 (by decide) (by decide)]; exact g4
    · rw [e 5 (by decide) (by decide), e 9 (by decide) (by decide)]; exact g5
/-- what stands fast while a text is read: its bytes, their number, the words known ahead, all words, the class's table of them, the tokens, the signs of names and the nodes that the reference held ahead -/
def pc_S : Type := (Nat → Nat) × Nat × Nat × Nat × (Nat → Nat) × (Nat → Nat) × (Nat → Int64) × (Nat → Int32) × Nat × Nat × Nat
/-- no fault; both at token u; d: whether its word has been numbered; z: whether a node has been made at it; q nodes counted; the reference holds m nodes -/
def pj : pc_S → Nat → Nat → Nat → Nat → Nat → t_S → t_S → Prop
  | (B, L, W0, W, V, sl, H, T, n, t0, m0), u, d, z, q, m, c, r => jt_A c r B L W V sl H T n u ∧ sc_D B L W0 W H T n ∧ d ≤ 1 ∧ (∃ N t, nk_R r H T N t (W0 - 66) t0 ∧ nw_R B L W0 W H T N (u + d) t t0) ∧ r.1 950 16 ≠ 0 ∧ c.1 845 10 = nI q ∧ r.1 950 28 = nI q ∧ q ≤ 3000 ∧ r.1 950 24 = nI m ∧ m ≤ m0 + tk_P B L u + z ∧ m0 + L ≤ 12900
/-- the reference behind a fault -/
def pr : pc_S → Nat → Nat → t_S → Prop
  | (B, L, W0, W, V, sl, H, T, n, t0, _), f, p, r => lr_F r f p ∧ sc_D B L W0 W H T n ∧ tx_Tr r B L ∧ r.1 950 16 ≠ 0 ∧ (∃ m, r.1 950 24 = nI m ∧ m ≤ 13000) ∧ ∃ N t, nk_R r H T N t (W0 - 66) t0 ∧ (r.1 950 5 = 0 ∨ ∃ c0 u d, d ≤ 1 ∧ jt_A c0 (t_setI r 950 2 0) B L W V sl H T n u ∧ nw_R B L W0 W H T N (u + d) t t0)
/-- both behind the same fault -/
def pf (P : pc_S) (c r : t_S) : Prop := ∃ f p, lc_F c f p ∧ pr P f p r
theorem pj.fr {P : pc_S} {u d z q m : Nat} {c r c' r' : t_S} {Wc Wr : Nat → Nat → Prop} (h : pj P u d z q m c r) (fc : l2_fr Wc c c') (fr : l2_fr Wr r r') (w1 : ∀ j, ¬ Wc 1 j) (w2 : ∀ b i, 2 ≤ b → b ≤ 5 → ¬ Wc b i) (w4 : ∀ b i, 8 ≤ b → b ≤ 11 → ¬ Wc b i) (w5 : ¬ Wc 845 10) (x1 : ∀ j, (1 ≤ j ∧ j ≤ 10) ∨ (14 ≤ j ∧ j ≤ 16) ∨ j = 24 ∨ j = 28 → ¬ Wr 950 j) (x2 : ∀ b i, 951 ≤ b → b ≤ 954 → ¬ Wr b i) : pj P u d z q m c' r' := by
  obtain ⟨B, L, W0, W, V, sl, H, T, n, t0, m0⟩ := P
  obtain ⟨⟨hc, hr, hR, ht⟩, h2, h3, ⟨N, t, h4, h5⟩, h6, h7, h8, h9, h10, h11, h12⟩ := h
  have e : ∀ j, (1 ≤ j ∧ j ≤ 10) ∨ (14 ≤ j ∧ j ≤ 16) ∨ j = 24 ∨ j = 28 → r'.1 950 j = r.1 950 j := fun j hj => (fr 950 j (x1 j hj)).1
  refine ⟨jt_A.of (hc.fr fc w1 (fun i => w2 2 i (by decide) (by decide)) (fun b i a b => w2 _ i (by omega) b) w4) (hr.fr fr (by rw [e 2 (by decide)]; exact hr.2.1) (fun j hj => x1 j (by omega)) (fun i => x2 951 i (by decide) (by decide))) hR, h2, h3, ⟨N, t, h4.fr fr (x1 14 (by decide)) (x1 15 (by decide)) (fun b i a b => x2 _ i (by omega) b), h5⟩, ?_, ?_, ?_, h9, ?_, h11, h12⟩
  · rw [e 16 (by decide)]; exact h6
  · rw [(fc 845 10 w5).1]; exact h7
  · rw [e 28 (by decide)]; exact h8
  · rw [e 24 (by decide)]; exact h10
/-- a token that is no free word numbers nothing -/
theorem lc_A.noword {c : t_S} {B : Nat → Nat} {L W n u : Nat} {V sl : Nat → Nat} {H : Nat → Int64} {T : Nat → Int32} (h : lc_A c B L W V sl H T n u) (h8 : c.1 1 8 ≠ 1) : ∀ w, 66 ≤ w → w < W → ¬ sc_o B L H T w u := by
  rintro w hw1 hw2 ⟨o1, o2, o3, o4, o5⟩
  obtain ⟨cT, cI, ⟨a1, a2, a3, a4, a5, a6⟩, cu, c7, c8, c9, c10, c11, c5⟩ := h
  have ok : tk_ok B L W H T (tk_P B L u) (c.1 3 u) (c.2.1 5 u) := by
    by_cases z : u + 1 < n
    · exact (a5 u z).2.1
    · have e : n - 1 = u := by omega
      rw [e] at a6
      rcases a6 with y | y
      · omega
      · exact y.2.1
  rcases ok.1 o2 with ⟨_, i, y1, y2, y3, _, y4⟩ | ⟨y, _⟩
  · have e : i = w := cI.2.2.2.2.2.1 i w y1 hw2 (y2.trans o4.symm) (y3.trans o5.symm)
    rw [if_neg (by omega)] at y4
    exact h8 (c8.trans y4)
  · omega
/-- one token on -/
theorem pj_adv {P : pc_S} {u d z q m : Nat} {c r : t_S} (h : pj P u d z q m c r) (hz : z ≤ 1) (hd : d = 1 ∨ c.1 1 8 ≠ 1) (h4 : c.1 1 8 ≠ 4) : t_h2 (f_X2_advance c) (f_X13_next r) (fun c' r' => l2_fr la_W c c' ∧ l2_fr rn_W r r' ∧ (pj P (u + 1) 0 0 q m c' r' ∨ pf P c' r')) := by
  obtain ⟨B, L, W0, W, V, sl, H, T, n, t0, m0⟩ := P
  obtain ⟨⟨hc, hr, hR, ht⟩, h2, h3, ⟨N, t, h4', h5⟩, h6, h7, h8, h9, h10, h11, h12⟩ := h
  have hc0 := hc
  obtain ⟨cT, cI, ⟨a1, a2, a3, a4, a5, a6⟩, cu, c7, c8, c9, c10, c11, c5⟩ := hc
  have un : u + 1 < n := by
    by_cases z : u + 1 < n
    · exact z
    · exfalso
      have e : n - 1 = u := by omega
      rw [e] at a6
      rcases a6 with y | y
      · exact h4 (c8.trans y.2)
      · exact c5 y.2.2
  have pL := (a5 u un).1
  have pm := tk_P_mono pL
  have nw : nw_R B L W0 W H T N (u + 1) t t0 := by
    by_cases e : d = 1
    · rw [e] at h5; exact h5
    · have e0 : d = 0 := by omega
      rw [e0] at h5
      exact h5.skip pL (hc0.noword (by
        rcases hd with y | y
        · exact absurd y e
        · exact y))
  refine h2_L (l2_imp (lc_adv hc0) (fun c' x => l2_imp (lr_adv hr) (fun r' y => ⟨x.1, y.1, ?_⟩)))
  obtain ⟨xf, x⟩ := x
  obtain ⟨yf, y⟩ := y
  have nk : nk_R r' H T N t (W0 - 66) t0 := h4'.fr yf (by unfold rn_W; omega) (by unfold rn_W; omega) (fun b i _ _ => by unfold rn_W; omega)
  have e16 : r'.1 950 16 ≠ 0 := by rw [(yf 950 16 (by unfold rn_W; omega)).1]; exact h6
  have e24 : r'.1 950 24 = nI m := by rw [(yf 950 24 (by unfold rn_W; omega)).1]; exact h10
  have e28 : r'.1 950 28 = nI q := by rw [(yf 950 28 (by unfold rn_W; omega)).1]; exact h8
  have e10 : c'.1 845 10 = nI q := by rw [(xf 845 10 (by unfold la_W; omega)).1]; exact h7
  rcases x with ⟨x1, x2⟩ | ⟨x1, x2, x3⟩ | ⟨x1, x2, x3⟩
  · omega
  · rcases y with ⟨y1, y2⟩ | ⟨y1, y2, y3⟩ | ⟨y1, y2, y3, y4, y5⟩
    · omega
    · exact Or.inl ⟨jt_A.of x3 y3 hR, h2, by omega, ⟨N, t, nk, nw⟩, e16, e10, e28, h9, e24, by omega, h12⟩
    · exfalso
      have ok : tk_ok B L W H T (tk_P B L (u + 1)) (c.1 3 (u + 1)) (c.2.1 5 (u + 1)) := by
        by_cases z : u + 1 + 1 < n
        · exact (a5 (u + 1) z).2.1
        · have e : n - 1 = u + 1 := by omega
          rw [e] at a6
          rcases a6 with z | z
          · omega
          · exact z.2.1
      exact x2 (ok.bad.mpr y3)
  · have bad : tk_P B L (u + 1) < L ∧ ¬ tk_v B L (tk_P B L (u + 1)) := by
      by_cases z : u + 1 + 1 < n
      · exact absurd x2 (a5 (u + 1) z).2.2
      · have e : n - 1 = u + 1 := by omega
        rw [e] at a6
        rcases a6 with z | z
        · rw [z.2] at x2
          exact absurd x2 (by decide)
        · exact ⟨z.1, z.2.1.bad.mp z.2.2⟩
    rcases y with ⟨y1, y2⟩ | ⟨y1, y2, y3⟩ | ⟨y1, y2, y3, y4, y5⟩
    · omega
    · rcases y2 with y2 | y2
      · omega
      · exact absurd y2 bad.2
    · exact Or.inr ⟨_, _, x3, y4, h2, hr.1.fr yf (by unfold rn_W; omega) (fun i => by unfold rn_W; omega), e16, ⟨m, e24, by have := hr.1.1; omega⟩, N, t, nk, Or.inl y5⟩
/-- a fault at the token -/
theorem pj_fail {P : pc_S} {u d z q m f : Nat} {c r : t_S} (h : pj P u d z q m c r) (hz : z ≤ 1) (hf : 0 < f ∧ f < 100) : t_h2 (f_X2_fail (nI f) c) (f_X13_fail (nI f) (r.1 950 6) r) (fun c' r' => l2_fr la_W c c' ∧ l2_fr rn_W r r' ∧ pf P c' r') := by
  obtain ⟨B, L, W0, W, V, sl, H, T, n, t0, m0⟩ := P
  obtain ⟨⟨hc, hr, hR, ht⟩, h2, h3, ⟨N, t, h4', h5⟩, h6, h7, h8, h9, h10, h11, h12⟩ := h
  have pl := hr.2.2.2.1
  have hL := hr.1.1
  have e6 := hr.2.2.1
  refine h2_L (l2_imp (lc_fail hc hf) (fun c' x => ?_))
  rw [e6]
  refine l2_of (rs_fail hr.2.1) ?_
  have yf : l2_fr (fun b j => b = 950 ∧ (j = 2 ∨ j = 3)) r (t_setI (t_setI r 950 2 (nI f)) 950 3 (nI (tk_P B L u))) := (l2_fr.set ⟨rfl, by omega⟩).trans (l2_fr.set ⟨rfl, by omega⟩)
  have s2 : (t_setI (t_setI r 950 2 (nI f)) 950 3 (nI (tk_P B L u))).1 950 2 = nI f := by simp only [l2_g, Nat.reduceEqDiff, reduceIte]
  have s3 : (t_setI (t_setI r 950 2 (nI f)) 950 3 (nI (tk_P B L u))).1 950 3 = nI (tk_P B L u) := by simp only [l2_g, reduceIte]
  generalize t_setI (t_setI r 950 2 (nI f)) 950 3 (nI (tk_P B L u)) = r' at *
  have yg : l2_fr (fun b j => b = 950 ∧ (j = 2 ∨ j = 3)) r (t_setI r' 950 2 0) := yf.trans (l2_fr.set ⟨rfl, by omega⟩)
  refine ⟨x.1, yf.mono (fun b j y => by unfold rn_W; omega), _, _, x.2, ⟨hf.1, hf.2, s2, s3⟩, h2, hr.1.fr yf (by omega) (fun i => by omega), ?_, ⟨m, ?_, by omega⟩, N, t, h4'.fr yf (by omega) (by omega) (fun b i _ _ => by omega), Or.inr ⟨c, u, d, h3, jt_A.of hc (hr.fr yg (by simp only [l2_g, reduceIte]) (fun j hj => by omega) (fun i => by omega)) hR, h5⟩⟩
  · rw [(yf 950 16 (by omega)).1]; exact h6
  · rw [(yf 950 24 (by omega)).1]; exact h10
theorem pr.fr2 {P : pc_S} {f p : Nat} {r r' : t_S} {Wr : Nat → Nat → Prop} (h : pr P f p r) (fr : l2_fr Wr r r') (e24 : ∃ m, r'.1 950 24 = nI m ∧ m ≤ 13000) (x1 : ∀ j, (1 ≤ j ∧ j ≤ 10) ∨ (14 ≤ j ∧ j ≤ 16) → ¬ Wr 950 j) (x2 : ∀ b i, 951 ≤ b → b ≤ 954 → ¬ Wr b i) : pr P f p r' := by
  obtain ⟨B, L, W0, W, V, sl, H, T, n, t0, m0⟩ := P
  obtain ⟨⟨f1, f2, f3, f4⟩, h2, h3, h4, ⟨m, h5, h6⟩, N, t, h7, h8⟩ := h
  have e : ∀ j, (1 ≤ j ∧ j ≤ 10) ∨ (14 ≤ j ∧ j ≤ 16) → r'.1 950 j = r.1 950 j := fun j hj => (fr 950 j (x1 j hj)).1
  refine ⟨⟨f1, f2, by rw [e 2 (by decide)]; exact f3, by rw [e 3 (by decide)]; exact f4⟩, h2, h3.fr fr (x1 1 (by decide)) (fun i => x2 951 i (by decide) (by decide)), by rw [e 16 (by decide)]; exact h4, e24, N, t, h7.fr fr (x1 14 (by decide)) (x1 15 (by decide)) (fun b i a b => x2 _ i (by omega) b), ?_⟩
  rcases h8 with h8 | ⟨c0, u, d, y1, ⟨hc, hr, hR, _⟩, y3⟩
  · exact Or.inl (by rw [e 5 (by decide)]; exact h8)
  · refine Or.inr ⟨c0, u, d, y1, jt_A.of hc (hr.fr (P := fun b j => Wr b j ∧ ¬ (b = 950 ∧ j = 2)) (fun b j w => ?_) (by simp only [l2_g, reduceIte]) (fun j hj w => x1 j (by omega) w.1) (fun i w => x2 951 i (by decide) (by decide) w.1)) hR, y3⟩
    by_cases z : b = 950 ∧ j = 2
    · obtain ⟨rfl, rfl⟩ := z
      exact ⟨by simp only [l2_g, reduceIte], (fr 950 2 (x1 2 (by decide))).2.1, (fr 950 2 (x1 2 (by decide))).2.2⟩
    · have w : ¬ Wr b j := fun y => w ⟨y, z⟩
      obtain ⟨w1, w2, w3⟩ := fr b j w
      refine ⟨?_, w2, w3⟩
      rw [l2_gI, l2_gI]
      by_cases y : b = 950
      · rw [if_pos y, if_pos y, if_neg (fun x => z ⟨y, x⟩), if_neg (fun x => z ⟨y, x⟩)]
        exact w1
      · rw [if_neg y, if_neg y]
        exact w1
theorem pr.fr {P : pc_S} {f p : Nat} {r r' : t_S} {Wr : Nat → Nat → Prop} (h : pr P f p r) (fr : l2_fr Wr r r') (x1 : ∀ j, (1 ≤ j ∧ j ≤ 10) ∨ (14 ≤ j ∧ j ≤ 16) ∨ j = 24 → ¬ Wr 950 j) (x2 : ∀ b i, 951 ≤ b → b ≤ 954 → ¬ Wr b i) : pr P f p r' := by
  have h0 := h
  obtain ⟨B, L, W0, W, V, sl, H, T, n, t0, m0⟩ := P
  obtain ⟨_, _, _, _, ⟨m, h5, h6⟩, _⟩ := h
  exact h0.fr2 fr ⟨m, by rw [(fr 950 24 (x1 24 (by decide))).1]; exact h5, h6⟩ (fun j hj => x1 j (by omega)) x2
theorem pr.dead {P : pc_S} {f p : Nat} {r : t_S} (h : pr P f p r) : pr P f p (t_setI r 950 5 0) := by
  obtain ⟨B, L, W0, W, V, sl, H, T, n, t0, m0⟩ := P
  obtain ⟨⟨f1, f2, f3, f4⟩, h2, h3, h4, ⟨m, h5, h6⟩, N, t, h7, h8⟩ := h
  have fr : l2_fr (fun b j => b = 950 ∧ j = 5) r (t_setI r 950 5 0) := l2_fr.set ⟨rfl, rfl⟩
  have e : ∀ j, j ≠ 5 → (t_setI r 950 5 0).1 950 j = r.1 950 j := fun j hj => (fr 950 j (by omega)).1
  exact ⟨⟨f1, f2, by rw [e 2 (by decide)]; exact f3, by rw [e 3 (by decide)]; exact f4⟩, h2, h3.fr fr (by omega) (fun i => by omega), by rw [e 16 (by decide)]; exact h4, ⟨m, by rw [e 24 (by decide)]; exact h5, h6⟩, N, t, h7.fr fr (by omega) (by omega) (fun b i _ _ => by omega), Or.inl (by simp only [l2_g, reduceIte])⟩
theorem pr.ne {P : pc_S} {f p : Nat} {r : t_S} (h : pr P f p r) : r.1 950 2 ≠ 0 := by
  obtain ⟨B, L, W0, W, V, sl, H, T, n, t0, m0⟩ := P
  obtain ⟨⟨f1, f2, f3, f4⟩, _⟩ := h
  rw [f3]
  exact nI_ne0 f1 (by omega)
theorem pr_next {P : pc_S} {f p : Nat} {r : t_S} (h : pr P f p r) : f_X13_next r = some (t_setI r 950 5 0) ∧ ∀ x y, f_X13_fail x y r = some r := by
  obtain ⟨B, L, W0, W, V, sl, H, T, n, t0, m0⟩ := P
  exact lr_stay h.1
theorem pr_mustBe {P : pc_S} {f p : Nat} {r : t_S} (h : pr P f p r) (x : Int32) : f_X13_mustBe x r = some (t_setI r 950 5 0) := by
  obtain ⟨a, b⟩ := pr_next h
  unfold f_X13_mustBe k_X13_mustBe_17
  rw [b, a]
  split
  · show (f_X13_next r).bind (fun r1 => some r1) = _
    rw [a]
    rfl
  · rfl
theorem pr_mustWord {P : pc_S} {f p : Nat} {r : t_S} (h : pr P f p r) (x : Int32) : f_X13_mustWord x r = some (t_setI r 950 5 0) := by
  obtain ⟨a, b⟩ := pr_next h
  unfold f_X13_mustWord k_X13_mustWord_17
  rw [b, a]
  split
  · show (f_X13_next r).bind (fun r1 => some r1) = _
    rw [a]
    rfl
  · rfl
theorem pr_hang {P : pc_S} {f p : Nat} {r : t_S} (h : pr P f p r) (x y : Int32) : f_X13_hang x y r = some r := by
  unfold f_X13_hang
  rw [if_neg h.ne]
/-- a node as it is made -/
def nd_at (r : t_S) (m : Nat) (k p : Int32) : Prop := r.1 955 m = k ∧ r.1 956 m = p ∧ r.2.1 957 m = 0 ∧ r.2.1 958 m = 0 ∧ r.1 959 m = -1 ∧ r.1 960 m = -1 ∧ r.1 961 m = 0
def nd_W (m b j : Nat) : Prop := (955 ≤ b ∧ b ≤ 962 ∧ j = m) ∨ (b = 950 ∧ (j = 24 ∨ j = 26 ∨ j = 28))
theorem nd_53 {s : t_S} {j : Nat} {k : Int32} (hj : j < 13000) : t_hk (k_X13_node_53 k (nI j) s) (fun x => x.1 = nI j ∧ l2_fr (nd_W j) s x.2 ∧ x.2.1 950 24 = nI (j + 1) ∧ x.2.1 950 28 = s.1 950 28 ∧ nd_at x.2 j k (s.1 950 6)) := by
  unfold k_X13_node_53
  rw [nI_1]
  refine l2_lt (l2_ck (l2_ix hj (by decide)) ?_)
  rw [nI_clamp (by omega)]
  refine l2_lt (l2_lt (l2_lt (l2_lt (l2_lt (l2_lt (l2_lt ?_))))))
  have g6 : (t_setI (t_setI s 950 24 (nI (j + 1))) 955 j k).1 950 6 = s.1 950 6 := by simp only [l2_gI, Nat.reduceEqDiff, reduceIte]
  rw [g6]
  have f : l2_fr (nd_W j) s (t_setI (t_setI (t_setI (t_setJ (t_setJ (t_setI (t_setI (t_setI s 950 24 (nI (j + 1))) 955 j k) 956 j (s.1 950 6)) 957 j 0) 958 j 0) 959 j (-1)) 960 j (-1)) 961 j 0) := (((((((l2_fr.set (Or.inr ⟨rfl, Or.inl rfl⟩)).trans (l2_fr.set (Or.inl ⟨by decide, by decide, rfl⟩))).trans (l2_fr.set (Or.inl ⟨by decide, by decide, rfl⟩))).trans (l2_fr.setJ (Or.inl ⟨by decide, by decide, rfl⟩))).trans (l2_fr.setJ (Or.inl ⟨by decide, by decide, rfl⟩))).trans (l2_fr.set (Or.inl ⟨by decide, by decide, rfl⟩))).trans (l2_fr.set (Or.inl ⟨by decide, by decide, rfl⟩))).trans (l2_fr.set (Or.inl ⟨by decide, by decide, rfl⟩))
  have a24 : (t_setI (t_setI (t_setI (t_setJ (t_setJ (t_setI (t_setI (t_setI s 950 24 (nI (j + 1))) 955 j k) 956 j (s.1 950 6)) 957 j 0) 958 j 0) 959 j (-1)) 960 j (-1)) 961 j 0).1 950 24 = nI (j + 1) := by simp only [l2_gI, l2_gJI, Nat.reduceEqDiff, reduceIte]
  have a28 : (t_setI (t_setI (t_setI (t_setJ (t_setJ (t_setI (t_setI (t_setI s 950 24 (nI (j + 1))) 955 j k) 956 j (s.1 950 6)) 957 j 0) 958 j 0) 959 j (-1)) 960 j (-1)) 961 j 0).1 950 28 = s.1 950 28 := by simp only [l2_gI, l2_gJI, Nat.reduceEqDiff, reduceIte]
  have at8 : nd_at (t_setI (t_setI (t_setI (t_setJ (t_setJ (t_setI (t_setI (t_setI s 950 24 (nI (j + 1))) 955 j k) 956 j (s.1 950 6)) 957 j 0) 958 j 0) 959 j (-1)) 960 j (-1)) 961 j 0) j k (s.1 950 6) := by
    refine ⟨?_, ?_, ?_, ?_, ?_, ?_, ?_⟩ <;> simp only [l2_gI, l2_gJI, l2_gJ, l2_gIJ, Nat.reduceEqDiff, reduceIte, eq_self]
  generalize t_setI (t_setI (t_setI (t_setJ (t_setJ (t_setI (t_setI (t_setI s 950 24 (nI (j + 1))) 955 j k) 956 j (s.1 950 6)) 957 j 0) 958 j 0) 959 j (-1)) 960 j (-1)) 961 j 0 = s8 at *
  refine l2_if (fun _ => l2_sm ⟨rfl, f, a24, a28, at8⟩) (fun _ => ?_)
  refine l2_lt (l2_lt (l2_sm ⟨rfl, (f.trans (l2_fr.set (Or.inl ⟨by decide, by decide, rfl⟩))).trans (l2_fr.set (Or.inr ⟨rfl, Or.inr (Or.inl rfl)⟩)), ?_, ?_, ?_⟩))
  · simp only [l2_gI, Nat.reduceEqDiff, reduceIte]
    exact a24
  · simp only [l2_gI, Nat.reduceEqDiff, reduceIte]
    exact a28
  · obtain ⟨b1, b2, b3, b4, b5, b6, b7⟩ := at8
    refine ⟨?_, ?_, ?_, ?_, ?_, ?_, ?_⟩ <;> simp only [l2_gI, l2_gIJ, Nat.reduceEqDiff, reduceIte] <;> assumption
theorem nd_33 {s : t_S} {m : Nat} {k : Int32} (h : s.1 950 24 = nI m) (hm : m ≤ 13000) : t_hk (k_X13_node_33 k s) (fun x => ∃ j, (m < 12999 → j = m) ∧ j < 13000 ∧ x.1 = nI j ∧ l2_fr (nd_W j) s x.2 ∧ x.2.1 950 24 = nI (j + 1) ∧ x.2.1 950 28 = s.1 950 28 ∧ nd_at x.2 j k (s.1 950 6)) := by
  unfold k_X13_node_33
  rw [h]
  refine l2_if (fun z => ?_) (fun z => ?_)
  · have z : 12999 ≤ m := (nI_leI (a := 12999) (by decide) (by omega)).mp z
    exact l2_imp (nd_53 (j := 12999) (by decide)) (fun x hx => ⟨12999, fun y => by omega, by decide, hx⟩)
  · have z : ¬ 12999 ≤ m := fun y => z ((nI_leI (a := 12999) (by decide) (by omega)).mpr y)
    exact l2_imp (nd_53 (j := m) (by omega)) (fun x hx => ⟨m, fun _ => rfl, by omega, hx⟩)
