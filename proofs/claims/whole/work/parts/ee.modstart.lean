/-! Level 2: a module: how it begins. -/
/-- the class's words: at least the reserved ones -/
def ws_R (s : t_S) : Prop := ∃ (W : Nat) (V sl : Nat → Nat) (H : Nat → Int64) (T : Nat → Int32), wt_I s W V sl H T ∧ rw_I W H T
def ms_Vc (b j : Nat) : Prop := (b = 316 ∧ (j = 8 ∨ j = 10 ∨ j = 13)) ∨ (b = 353 ∧ (j = 9 ∨ j = 11)) ∨ (b = 428 ∧ (j = 0 ∨ j = 9 ∨ j = 18)) ∨ (b = 334 ∧ (j = 2 ∨ j = 4)) ∨ (b = 845 ∧ (j = 7 ∨ j = 9 ∨ j = 10 ∨ (12 ≤ j ∧ j ≤ 16))) ∨ (b = 846 ∧ 6 ≤ j ∧ j ≤ 8)
def ms_Wc (b j : Nat) : Prop := ms_Vc b j ∨ (b = 1 ∧ j ≠ 1) ∨ (3 ≤ b ∧ b ≤ 11)
def ms_Vr (b j : Nat) : Prop := b = 950 ∧ ((2 ≤ j ∧ j ≤ 4) ∨ (14 ≤ j ∧ j ≤ 16) ∨ j = 24 ∨ j = 26 ∨ j = 28 ∨ j = 36 ∨ j = 40 ∨ j = 44 ∨ j = 55 ∨ j = 64 ∨ j = 65 ∨ j = 81 ∨ j = 96 ∨ j = 108 ∨ j = 117 ∨ j = 147)
def ms_Wr (b j : Nat) : Prop := ms_Vr b j ∨ rn_W b j
/-- all cells set -/
def msC (s : t_S) : t_S := (t_setI (t_setI (t_setI (t_setI (t_setI (t_setI (t_setI (t_setI (t_setI (t_setI (t_setI (t_setI (t_setI (t_setI (t_setI (t_setI (t_setI (t_setI (t_setI (t_setI (t_setI s 316 8 0) 316 10 0) 316 13 0) 353 9 0) 353 11 0) 428 0 0) 428 9 0) 428 18 0) 334 2 0) 334 4 0) 845 16 2147483647) 845 10 0) 845 7 0) 845 9 0) 845 12 (-1)) 845 13 (-1)) 845 14 (-1)) 845 15 0) 846 6 0) 846 7 0) 846 8 0)
def msR (s : t_S) : t_S := (t_setI (t_setI (t_setI (t_setI (t_setI (t_setI (t_setI (t_setI (t_setI (t_setI (t_setI (t_setI (t_setI (t_setI (t_setI (t_setI (t_setI (t_setI (t_setI (t_setI s 950 14 0) 950 15 0) 950 16 1) 950 24 0) 950 26 0) 950 28 0) 950 36 0) 950 40 0) 950 44 0) 950 55 0) 950 64 0) 950 81 0) 950 2 0) 950 3 (-1)) 950 4 0) 950 65 0) 950 147 0) 950 108 0) 950 117 0) 950 96 0)
theorem lx_so_r (B : Nat → Nat) (L p : Nat) : 2 ≤ lx_so B L p ∧ lx_so B L p < 256 := by
  have two : ∀ c d, lx_two c d = 0 ∨ (10 ≤ lx_two c d ∧ lx_two c d ≤ 17) := by
    intro c d
    unfold lx_two
    repeat (first | omega | split)
  unfold lx_so
  by_cases z : lx_two (B p) (lx_nxt B L p) = 0
  · rw [if_pos z]
    by_cases o : lx_one (B p) = true
    · rw [if_pos o]
      have := tk_one o
      omega
    · rw [if_neg o]
      omega
  · rw [if_neg z]
    have := two (B p) (lx_nxt B L p)
    omega
/-- the words of a text -/
def pc_V (P : pc_S) (w : Int32) : Prop := ∃ i, i < pc_W P ∧ w = nI i
theorem tk_start {s : t_S} {B : Nat → Nat} {L W W0 n u t0 m0 : Nat} {V sl : Nat → Nat} {H : Nat → Int64} {T : Nat → Int32} (h : lc_A s B L W V sl H T n u) (h6 : s.1 846 6 = 0) : TK (pc_V (B, L, W0, W, V, sl, H, T, n, t0, m0)) True s := fun _ => by
  obtain ⟨_, _, ⟨n0, n1, n6, _, hj, hl⟩, hu, _, h8, _, h10, _, _⟩ := h
  have ok : ∀ j, j < n → s.1 3 j = 1 → ∃ i, i < W ∧ s.2.1 5 j = lN i := fun j hjn e => by
    have q : tk_ok B L W H T (tk_P B L j) (s.1 3 j) (s.2.1 5 j) := by
      by_cases z : j + 1 < n
      · exact (hj j z).2.1
      · have ej : j = n - 1 := by omega
        rcases hl with ⟨_, y⟩ | ⟨_, _, y⟩
        · rw [ej, y] at e
          exact absurd e (by decide)
        · rw [ej, y] at e
          exact absurd e (by decide)
    obtain ⟨q1, q2, q3, q4⟩ := q
    rw [e] at q1 q2 q3 q4
    cases e1 : lx_le (B (tk_P B L j)) with
    | true =>
      rcases q1 e1 with ⟨_, i, i1, _, _, i4, _⟩ | ⟨_, y⟩
      · exact ⟨i, i1, i4⟩
      · exact absurd y (by decide)
    | false =>
      cases e2 : lx_di (B (tk_P B L j)) with
      | true =>
        have y := (q2 e1 e2).1
        split at y
        · exact absurd y (by decide)
        · exact absurd y (by decide)
      | false =>
        by_cases e3 : B (tk_P B L j) = 34
        · have y := (q3 e1 e2 e3).1
          split at y
          · exact absurd y (by decide)
          · exact absurd y (by decide)
        · have y := q4 e1 e2 e3
          have a := lx_so_r B L (tk_P B L j)
          have := (nI_eq (a := 1) (by decide) (by omega)).mp y
          omega
  have w : ∀ j, j < n → s.1 3 j = 1 → pc_V (B, L, W0, W, V, sl, H, T, n, t0, m0) ((s.2.1 5 j).toInt32) := fun j hjn e => by
    obtain ⟨i, i1, i2⟩ := ok j hjn e
    exact ⟨i, i1, by rw [i2]; exact lN_i i⟩
  refine ⟨trivial, fun j hj e => w j ?_ e, fun e => ?_, fun e he => ?_⟩
  · rw [n6, nI_toInt (by omega)] at hj
    omega
  · unfold f_X2_word
    rw [h10]
    exact w u hu (h8 ▸ e)
  · rw [h6] at he
    have : (0 : Int32).toInt = 0 := rfl
    omega
section
variable {B : Nat → Nat} {L : Nat} {c0 c r c' r' : t_S} {T U : Type}
theorem ms_v {s : t_S} {b k : Nat} {v : Int32} {Wc : Nat → Nat → Prop} (h : Wc b k) : l2_fr Wc s (t_setI s b k v) := l2_fr.set h
theorem msC_fr (s : t_S) : l2_fr ms_Vc s (msC s) := by
  unfold msC
  exact (l2_fr.trans (l2_fr.trans (l2_fr.trans (l2_fr.trans (l2_fr.trans (l2_fr.trans (l2_fr.trans (l2_fr.trans (l2_fr.trans (l2_fr.trans (l2_fr.trans (l2_fr.trans (l2_fr.trans (l2_fr.trans (l2_fr.trans (l2_fr.trans (l2_fr.trans (l2_fr.trans (l2_fr.trans (l2_fr.trans (l2_fr.trans (l2_fr.rf (W := ms_Vc) (s := s)) (l2_fr.set (by unfold ms_Vc; omega))) (l2_fr.set (by unfold ms_Vc; omega))) (l2_fr.set (by unfold ms_Vc; omega))) (l2_fr.set (by unfold ms_Vc; omega))) (l2_fr.set (by unfold ms_Vc; omega))) (l2_fr.set (by unfold ms_Vc; omega))) (l2_fr.set (by unfold ms_Vc; omega))) (l2_fr.set (by unfold ms_Vc; omega))) (l2_fr.set (by unfold ms_Vc; omega))) (l2_fr.set (by unfold ms_Vc; omega))) (l2_fr.set (by unfold ms_Vc; omega))) (l2_fr.set (by unfold ms_Vc; omega))) (l2_fr.set (by unfold ms_Vc; omega))) (l2_fr.set (by unfold ms_Vc; omega))) (l2_fr.set (by unfold ms_Vc; omega))) (l2_fr.set (by unfold ms_Vc; omega))) (l2_fr.set (by unfold ms_Vc; omega))) (l2_fr.set (by unfold ms_Vc; omega))) (l2_fr.set (by unfold ms_Vc; omega))) (l2_fr.set (by unfold ms_Vc; omega))) (l2_fr.set (by unfold ms_Vc; omega)))
theorem msC_v (s : t_S) : (msC s).1 316 8 = 0 ∧ (msC s).1 316 10 = 0 ∧ (msC s).1 316 13 = 0 ∧ (msC s).1 353 9 = 0 ∧ (msC s).1 353 11 = 0 ∧ (msC s).1 428 0 = 0 ∧ (msC s).1 428 9 = 0 ∧ (msC s).1 428 18 = 0 ∧ (msC s).1 334 2 = 0 ∧ (msC s).1 334 4 = 0 ∧ (msC s).1 845 16 = 2147483647 ∧ (msC s).1 845 10 = 0 ∧ (msC s).1 845 7 = 0 ∧ (msC s).1 845 9 = 0 ∧ (msC s).1 845 12 = (-1) ∧ (msC s).1 845 13 = (-1) ∧ (msC s).1 845 14 = (-1) ∧ (msC s).1 845 15 = 0 ∧ (msC s).1 846 6 = 0 ∧ (msC s).1 846 7 = 0 ∧ (msC s).1 846 8 = 0 := by
  unfold msC
  refine ⟨?_, ?_, ?_, ?_, ?_, ?_, ?_, ?_, ?_, ?_, ?_, ?_, ?_, ?_, ?_, ?_, ?_, ?_, ?_, ?_, ?_⟩ <;> simp only [l2_gI, Nat.reduceEqDiff, reduceIte]
theorem msR_fr (s : t_S) : l2_fr ms_Vr s (msR s) := by
  unfold msR
  exact (l2_fr.trans (l2_fr.trans (l2_fr.trans (l2_fr.trans (l2_fr.trans (l2_fr.trans (l2_fr.trans (l2_fr.trans (l2_fr.trans (l2_fr.trans (l2_fr.trans (l2_fr.trans (l2_fr.trans (l2_fr.trans (l2_fr.trans (l2_fr.trans (l2_fr.trans (l2_fr.trans (l2_fr.trans (l2_fr.trans (l2_fr.rf (W := ms_Vr) (s := s)) (l2_fr.set (by unfold ms_Vr; omega))) (l2_fr.set (by unfold ms_Vr; omega))) (l2_fr.set (by unfold ms_Vr; omega))) (l2_fr.set (by unfold ms_Vr; omega))) (l2_fr.set (by unfold ms_Vr; omega))) (l2_fr.set (by unfold ms_Vr; omega))) (l2_fr.set (by unfold ms_Vr; omega))) (l2_fr.set (by unfold ms_Vr; omega))) (l2_fr.set (by unfold ms_Vr; omega))) (l2_fr.set (by unfold ms_Vr; omega))) (l2_fr.set (by unfold ms_Vr; omega))) (l2_fr.set (by unfold ms_Vr; omega))) (l2_fr.set (by unfold ms_Vr; omega))) (l2_fr.set (by unfold ms_Vr; omega))) (l2_fr.set (by unfold ms_Vr; omega))) (l2_fr.set (by unfold ms_Vr; omega))) (l2_fr.set (by unfold ms_Vr; omega))) (l2_fr.set (by unfold ms_Vr; omega))) (l2_fr.set (by unfold ms_Vr; omega))) (l2_fr.set (by unfold ms_Vr; omega)))
theorem msR_v (s : t_S) : (msR s).1 950 14 = 0 ∧ (msR s).1 950 15 = 0 ∧ (msR s).1 950 16 = 1 ∧ (msR s).1 950 24 = 0 ∧ (msR s).1 950 26 = 0 ∧ (msR s).1 950 28 = 0 ∧ (msR s).1 950 36 = 0 ∧ (msR s).1 950 40 = 0 ∧ (msR s).1 950 44 = 0 ∧ (msR s).1 950 55 = 0 ∧ (msR s).1 950 64 = 0 ∧ (msR s).1 950 81 = 0 ∧ (msR s).1 950 2 = 0 ∧ (msR s).1 950 3 = (-1) ∧ (msR s).1 950 4 = 0 ∧ (msR s).1 950 65 = 0 ∧ (msR s).1 950 147 = 0 ∧ (msR s).1 950 108 = 0 ∧ (msR s).1 950 117 = 0 ∧ (msR s).1 950 96 = 0 := by
  unfold msR
  refine ⟨?_, ?_, ?_, ?_, ?_, ?_, ?_, ?_, ?_, ?_, ?_, ?_, ?_, ?_, ?_, ?_, ?_, ?_, ?_, ?_⟩ <;> simp only [l2_gI, Nat.reduceEqDiff, reduceIte]
theorem ms_C (s : t_S) : f_X6_readModule s = (f_X2_forget 66 s).bind (fun s1 => (f_X2_scan (msC s1)).bind (fun s2 => t_loop b_X6_readModule_58 t_N (0, s2))) := by
  unfold f_X6_readModule
  refine congrArg (Option.bind _) (funext (fun s1 => ?_))
  have e : f_X6_startReading (t_setI (t_setI (t_setI (t_setI (t_setI (t_setI (t_setI (t_setI (t_setI (t_setI (t_setI s1 316 8 0) 316 10 0) 316 13 0) 353 9 0) 353 11 0) 428 0 0) 428 9 0) 428 18 0) 334 2 0) 334 4 0) 845 16 2147483647) = (f_X2_scan (msC s1)).bind (fun r2 => some r2) := rfl
  show (f_X6_startReading (t_setI (t_setI (t_setI (t_setI (t_setI (t_setI (t_setI (t_setI (t_setI (t_setI (t_setI s1 316 8 0) 316 10 0) 316 13 0) 353 9 0) 353 11 0) 428 0 0) 428 9 0) 428 18 0) 334 2 0) 334 4 0) 845 16 2147483647)).bind _ = _
  rw [e, bd_some]
theorem ms_Rq (s : t_S) : f_X13_module s = (f_X13_next (msR s)).bind (fun r1 => t_loop b_X13_module_104 t_N r1) := rfl
theorem hk_pq {T : Type} {o : Option T} {A R : T → Prop} (h : t_hk o A) (g : t_pq o R) : t_hk o (fun x => A x ∧ R x) := by
  obtain ⟨x, e, a⟩ := h
  exact ⟨x, e, a, g x e⟩
/-- where a module's text begins -/
theorem m_start {Q : t_S → Int32 × t_S → Prop} (hc : tx_Tc c B L) (hr : tx_Tr r B L) (hw : ws_R c) (hb : BK c) (hL : ∀ (P : pc_S) (c1 r1 : t_S), P.1 = B → P.2.1 = L → (mR P (fun _ => 0) 0 0 (fun _ => 0) c1 c1 r1 ∨ pf P c1 r1) → l2_fr ms_Wc c c1 → l2_fr ms_Wr r r1 → (c1.1 846 7 = 0 ∧ ∀ x, 66 + x < pc_W P → c1.1 7 (66 + x) = 0) → MK (pc_V P) c1 ∧ IL 2 0 r1 → t_h2 (t_loop b_X6_readModule_58 t_N (0, c1)) (t_loop b_X13_module_104 t_N r1) Q) : t_h2 (f_X6_readModule c) (f_X13_module r) Q := by
  obtain ⟨W0, V0, sl0, H0, T0, wI0, rw0⟩ := hw
  rw [ms_C, ms_Rq]
  refine h2_bL _ (hk_pq (wt_forget (n := 66) wI0 rw0.1) (bk_f_X2_forget hb)) (fun s1 h1 => ?_)
  obtain ⟨⟨f1, V1, wI1⟩, b1⟩ := h1
  have fC := msC_fr s1
  have vC := msC_v s1
  have fR := msR_fr r
  have vR := msR_v r
  generalize msC s1 = s2 at *
  generalize msR r = r2 at *
  have hc2 : tx_Tc s2 B L := (hc.fr f1 (by omega) (fun i => by omega)).fr fC (by unfold ms_Vc; omega) (fun i => by unfold ms_Vc; omega)
  have hr2 : tx_Tr r2 B L := hr.fr fR (by unfold ms_Vr; omega) (fun i => by unfold ms_Vr; omega)
  have b2 : BK s2 := b1.fr fC (fun j => by unfold ms_Vc; omega)
  have wI2 := wI1.fr fC (by unfold ms_Vc; omega) (fun b i _ _ => by unfold ms_Vc; omega)
  refine h2_bb (fun c1 r1 => ∃ P : pc_S, P.1 = B ∧ P.2.1 = L ∧ (mR P (fun _ => 0) 0 0 (fun _ => 0) c1 c1 r1 ∨ pf P c1 r1) ∧ l2_fr ms_Wc c c1 ∧ l2_fr ms_Wr r r1 ∧ (c1.1 846 7 = 0 ∧ ∀ x, 66 + x < pc_W P → c1.1 7 (66 + x) = 0) ∧ MK (pc_V P) c1 ∧ IL 2 0 r1) ?_ (fun c1 r1 h => ?_)
  rotate_left
  · obtain ⟨P, q1, q2, q3, q4, q5, q6, q7⟩ := h
    exact hL P c1 r1 q1 q2 q3 q4 q5 q6 q7
  obtain ⟨c1, e1, n, W, V, sl, H, T, u1, u2, u3, u4, fc, wI, D, hA⟩ := lc_begin hc2 wI2 (by decide)
  obtain ⟨v8, v10, v13, v9, v11, w0, w9, w18, x2, x4, y16, y10, y7, y9, y12, y13, y14, y15, z6, z7, z8⟩ := vC
  obtain ⟨a14, a15, a16, a24, a26, a28, a36, a40, a44, a55, a64, a81, a2, a3, a4, _⟩ := vR
  obtain ⟨r1, e2, fr, hB⟩ := lr_begin hr2 a4 a2
  have FC : l2_fr ms_Wc c c1 := ((f1.mono (fun b j y => Or.inr (by omega))).trans (fC.mono (fun b j y => Or.inl y))).trans (fc.mono (fun b j y => Or.inr y))
  have FR : l2_fr ms_Wr r r1 := (fR.mono (fun b j y => Or.inl y)).trans (fr.mono (fun b j y => Or.inr y))
  have kc : ∀ b j, 12 ≤ b → c1.1 b j = s2.1 b j := fun b j y => (fc b j (by omega)).1
  have kr : ∀ j, ¬ (2 ≤ j ∧ j ≤ 10) → r1.1 950 j = r2.1 950 j := fun j y => (fr 950 j (by unfold rn_W; omega)).1
  have rw1 : rw_I W H T := ⟨u1, fun w hw => ⟨(u3 w hw).1.trans (rw0.2 w hw).1, (u3 w hw).2.1.trans (rw0.2 w hw).2⟩⟩
  have hnk : nk_R r1 H T 0 0 (66 - 66) 0 := ⟨fun _ => 0, fun _ => 0, fun _ => 0, ⟨by decide, by rw [kr 14 (by omega)]; exact a14, by decide, by rw [kr 15 (by omega)]; exact a15, fun k hk => absurd hk (Nat.not_lt_zero _), fun k hk => absurd hk (Nat.not_lt_zero _), fun k l hk => absurd hk (Nat.not_lt_zero _)⟩, fun k hk => absurd hk (Nat.not_lt_zero _), Nat.le_refl _, Nat.le_refl _, fun k hk => absurd hk (Nat.not_lt_zero _)⟩
  have r16 : r1.1 950 16 ≠ 0 := by
    rw [kr 16 (by omega), a16]
    decide
  have L12 : L ≤ 12000 := hr.1
  have zz : c1.1 846 7 = 0 ∧ ∀ x, 66 + x < pc_W (B, L, 66, W, V, sl, H, T, n, 0, 0) → c1.1 7 (66 + x) = 0 := ⟨by rw [kc 846 7 (by omega)]; exact z7, fun x hx => (u4 (66 + x) (by omega) hx).2⟩
  refine ⟨c1, r1, e1, e2, (B, L, 66, W, V, sl, H, T, n, 0, 0), rfl, rfl, ?_, FC, FR, zz, ⟨bk_f_X2_scan b2 c1 e1, ?_, sa_start ((kc 846 6 (by omega)).trans z6) ((kc 316 8 (by omega)).trans v8) ((kc 353 9 (by omega)).trans v9) ((kc 334 2 (by omega)).trans x2), vl_start ((kc 846 6 (by omega)).trans z6), nl_start ((kc 846 6 (by omega)).trans z6), lz_start ((kc 353 9 (by omega)).trans v9), tw_start ((kc 316 8 (by omega)).trans v8), wo_start ((kc 846 6 (by omega)).trans z6) ((kc 334 2 (by omega)).trans x2)⟩, il_start ((kr 81 (by omega)).trans a81)⟩
  rotate_left
  · have z6' : c1.1 846 6 = 0 := (kc 846 6 (by omega)).trans z6
    rcases hA with ⟨_, hA⟩ | ⟨_, _, hF⟩
    · exact tk_start hA z6'
    · exact fun f => absurd f hF.ne
  rcases hA with ⟨hv, hA⟩ | ⟨p1, p2, hF⟩
  · rcases hB with ⟨_, hB⟩ | ⟨q1, q2, _⟩
    rotate_left
    · rcases hv with hv | hv
      · omega
      · exact absurd hv q2
    have J : pj (B, L, 66, W, V, sl, H, T, n, 0, 0) 0 0 0 0 0 c1 r1 := ⟨jt_A.of hA hB rw1, D, by decide, ⟨0, 0, hnk, Nat.le_refl _, Nat.le_refl _, u1, Nat.zero_le _, Nat.zero_le _, fun w a b => by omega, fun w a b k hk => by omega⟩, r16, by rw [kc 845 10 (by omega)]; exact y10, by rw [kr 28 (by omega)]; exact a28, Nat.zero_le _, by rw [kr 24 (by omega)]; exact a24, Nat.zero_le _, by omega⟩
    refine Or.inl ⟨⟨J, ⟨fun f hf => ?_, fun f k _ hk => absurd hk (Nat.not_lt_zero _), fun X hX => Or.inl (u4 (66 + X) (by omega) hX).1⟩, ⟨?_, ?_, ?_, ?_, ?_, ?_, ?_⟩, ⟨?_, ?_, ?_, ?_, ?_, ?_, ?_⟩, ⟨?_, ?_, ?_⟩, ⟨Nat.le_refl _, Nat.zero_le _, Nat.zero_le _, Nat.le_refl _, Nat.zero_le _, Nat.zero_le _, Nat.zero_le _, Nat.zero_le _, Nat.zero_le _⟩⟩, fun i hi => absurd hi (Nat.not_lt_zero _), fun i hi => absurd hi (Nat.not_lt_zero _), fun i hi => absurd hi (Nat.not_lt_zero _), fun i hi => absurd hi (Nat.not_lt_zero _), fun i hi => absurd hi (Nat.not_lt_zero _), mB.nil rfl rfl (fun _ => rfl) _ _ _ _, fun e he => absurd he (Nat.not_lt_zero _), fun i _ hi => absurd hi (Nat.not_lt_zero _), fun _ => 0, fun _ => 0, fun _ => 0, fun _ => 0, fun _ => 0, fun _ => 0, fun _ => 0, fun i hi => absurd hi (Nat.not_lt_zero _), fun i j _ hj => absurd hj (Nat.not_lt_zero _)⟩
    · refine ⟨Nat.zero_le _, ?_⟩
      have hc : f = 0 ∨ f = 1 ∨ f = 2 ∨ f = 3 := by omega
      rcases hc with rfl | rfl | rfl | rfl
      · exact ⟨(kc 316 13 (by omega)).trans v13, (kr 40 (by omega)).trans a40⟩
      · exact ⟨(kc 353 11 (by omega)).trans v11, (kr 44 (by omega)).trans a44⟩
      · exact ⟨(kc 428 0 (by omega)).trans w0, (kr 55 (by omega)).trans a55⟩
      · exact ⟨(kc 428 9 (by omega)).trans w9, (kr 64 (by omega)).trans a64⟩
    · exact (kc 316 8 (by omega)).trans v8
    · exact (kc 316 10 (by omega)).trans v10
    · exact (kc 353 9 (by omega)).trans v9
    · exact (kc 334 2 (by omega)).trans x2
    · exact (kc 334 4 (by omega)).trans x4
    · exact (kc 846 6 (by omega)).trans z6
    · exact (kc 428 18 (by omega)).trans w18
    · exact (kc 845 7 (by omega)).trans y7
    · exact (kc 845 9 (by omega)).trans y9
    · exact (kc 845 12 (by omega)).trans y12
    · exact (kc 845 13 (by omega)).trans y13
    · exact (kc 845 14 (by omega)).trans y14
    · exact (kc 845 15 (by omega)).trans y15
    · exact (kc 845 16 (by omega)).trans y16
    · exact (kr 36 (by omega)).trans a36
    · exact (kr 26 (by omega)).trans a26
    · exact (kr 81 (by omega)).trans a81
  · rcases hB with ⟨hv, _⟩ | ⟨q1, q2, q3, q4⟩
    · rcases hv with hv | hv
      · omega
      · exact absurd hv p2
    exact Or.inr ⟨1, tk_P B L 0, hF, q3, D, hr2.fr fr (by unfold rn_W; omega) (fun i => by unfold rn_W; omega), r16, ⟨0, by rw [kr 24 (by omega)]; exact a24, by decide⟩, 0, 0, hnk, Or.inl q4⟩
end
