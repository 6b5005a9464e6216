/-! Level 2: the class's scan of the whole text. -/
def tk_E (B : Nat → Nat) (L : Nat) : Nat → Nat
  | 0 => 0
  | i + 1 => tk_e B L (lx_s B L false (tk_E B L i))
/-- where the i-th token stands -/
def tk_P (B : Nat → Nat) (L i : Nat) : Nat := lx_s B L false (tk_E B L i)
theorem tk_two {c d : Nat} (h : lx_two c d ≠ 0) : 10 ≤ lx_two c d ∧ lx_two c d ≤ 17 := by
  rcases lx_twoD (c := c) (d := d) with q | q | q | q | q | q | q | q | q <;> omega
theorem tk_one {c : Nat} (h : lx_one c = true) : 33 ≤ c ∧ c ≤ 125 := by
  unfold lx_one at h
  simp only [List.contains_eq_mem, List.mem_cons, List.not_mem_nil, decide_eq_true_eq, or_false] at h
  omega
/-- a token's sort as a number -/
theorem tk_ok.so {B : Nat → Nat} {L W p : Nat} {H : Nat → Int64} {T : Nat → Int32} {so : Int32} {te : Int64} (h : tk_ok B L W H T p so te) : ∃ v, v < 300 ∧ so = nI v ∧ v ≠ 4 := by
  obtain ⟨h1, h2, h3, h4⟩ := h
  cases e1 : lx_le (B p) with
  | true =>
    rcases h1 e1 with ⟨_, i, _, _, _, _, g⟩ | ⟨_, g⟩
    · by_cases z : i < 66
      · rw [if_pos z] at g
        exact ⟨_, by omega, g, by omega⟩
      · rw [if_neg z] at g
        exact ⟨1, by omega, g, by omega⟩
    · exact ⟨5, by omega, g, by omega⟩
  | false =>
    cases e2 : lx_di (B p) with
    | true =>
      have g := (h2 e1 e2).1
      split at g
      · exact ⟨2, by omega, g, by omega⟩
      · exact ⟨5, by omega, g, by omega⟩
    | false =>
      by_cases e3 : B p = 34
      · have g := (h3 e1 e2 e3).1
        split at g
        · exact ⟨3, by omega, g, by omega⟩
        · exact ⟨5, by omega, g, by omega⟩
      · have g := h4 e1 e2 e3
        refine ⟨_, ?_, g, ?_⟩
        · unfold lx_so
          split
          · split
            · rename_i z
              have := tk_one z
              omega
            · omega
          · rename_i z
            have := tk_two z
            omega
        · unfold lx_so
          split
          · split
            · rename_i z
              have := tk_one z
              omega
            · omega
          · rename_i z
            have := tk_two z
            omega
theorem tk_ok.ne4 {B : Nat → Nat} {L W p : Nat} {H : Nat → Int64} {T : Nat → Int32} {so : Int32} {te : Int64} (h : tk_ok B L W H T p so te) : so ≠ 4 := by
  obtain ⟨v, h1, h2, h3⟩ := h.so
  intro z
  rw [h2] at z
  exact h3 ((nI_eq (b := 4) (by omega) (by decide)).mp z)
/-- the tokens that have been found, n of them; W, H, T: the words -/
def tk_A (s : t_S) (B : Nat → Nat) (L W : Nat) (H : Nat → Int64) (T : Nat → Int32) (n : Nat) : Prop := 0 < n ∧ n ≤ 12001 ∧ s.1 1 6 = nI n ∧ (∀ j, j < n → s.1 4 j = nI (tk_P B L j)) ∧ (∀ j, j + 1 < n → tk_P B L j < L ∧ tk_ok B L W H T (tk_P B L j) (s.1 3 j) (s.2.1 5 j) ∧ s.1 3 j ≠ 5) ∧ ((L ≤ tk_P B L (n - 1) ∧ s.1 3 (n - 1) = 4) ∨ (tk_P B L (n - 1) < L ∧ tk_ok B L W H T (tk_P B L (n - 1)) (s.1 3 (n - 1)) (s.2.1 5 (n - 1)) ∧ s.1 3 (n - 1) = 5))
def sc_W (b j : Nat) : Prop := (b = 1 ∧ (j = 2 ∨ j = 6 ∨ j = 10 ∨ j = 13)) ∨ (3 ≤ b ∧ b ≤ 11)
/-- what the words have come to since s0 -/
def sc_w (s0 s : t_S) (W0 : Nat) (H0 : Nat → Int64) (T0 : Nat → Int32) (W : Nat) (V sl : Nat → Nat) (H : Nat → Int64) (T : Nat → Int32) : Prop := wt_I s W V sl H T ∧ W0 ≤ W ∧ W ≤ W0 + 3845 ∧ (∀ i, i < W0 → H i = H0 i ∧ T i = T0 i ∧ s.1 6 i = s0.1 6 i ∧ s.1 7 i = s0.1 7 i) ∧ (∀ i, W0 ≤ i → i < W → s.1 6 i = 0 ∧ s.1 7 i = 0) ∧ l2_fr sc_W s0 s
theorem sc_w.step {s0 s s' : t_S} {W0 : Nat} {H0 : Nat → Int64} {T0 : Nat → Int32} {W : Nat} {V sl : Nat → Nat} {H : Nat → Int64} {T : Nat → Int32} (h : sc_w s0 s W0 H0 T0 W V sl H T) {P : Nat → Nat → Prop} (f : l2_fr P s s') (w : ∀ b j, P b j → (b = 1 ∧ (j = 2 ∨ j = 6 ∨ j = 10)) ∨ (3 ≤ b ∧ b ≤ 5)) : sc_w s0 s' W0 H0 T0 W V sl H T := by
  obtain ⟨h1, h2, h3, h4, h5, h6⟩ := h
  have n67 : ∀ b i, 6 ≤ b → ¬ P b i := fun b i hb x => by
    have := w b i x
    omega
  refine ⟨h1.fr f (fun x => by have := w _ _ x; omega) (fun b i hb _ => n67 b i (by omega)), h2, h3, fun i hi => ?_, fun i a b => ?_, h6.trans (f.mono (fun b j x => by have := w b j x; unfold sc_W; omega))⟩
  · rw [(f 6 i (n67 6 i (by omega))).1, (f 7 i (n67 7 i (by omega))).1]
    exact h4 i hi
  · rw [(f 6 i (n67 6 i (by omega))).1, (f 7 i (n67 7 i (by omega))).1]
    exact h5 i a b
/-- token j is the word w -/
def sc_o (B : Nat → Nat) (L : Nat) (H : Nat → Int64) (T : Nat → Int32) (w j : Nat) : Prop := tk_P B L j < L ∧ lx_le (B (tk_P B L j)) = true ∧ tk_n B L (tk_P B L j) ≤ 12 ∧ H w = wk_h B (tk_P B L j) (tk_n B L (tk_P B L j)) ∧ T w = wk_t B (tk_P B L j) (tk_n B L (tk_P B L j))
/-- each new word stands first at a token, behind the first of every new word ahead of it -/
def sc_D (B : Nat → Nat) (L W0 W : Nat) (H : Nat → Int64) (T : Nat → Int32) (n : Nat) : Prop := ∀ w, W0 ≤ w → w < W → ∃ j, j < n ∧ sc_o B L H T w j ∧ (∀ i, i < j → ¬ sc_o B L H T w i) ∧ ∀ v, W0 ≤ v → v < w → ∃ i, i < j ∧ sc_o B L H T v i
theorem sc_o.eq {B : Nat → Nat} {L w j : Nat} {H H' : Nat → Int64} {T T' : Nat → Int32} (e : H' w = H w ∧ T' w = T w) : sc_o B L H' T' w j ↔ sc_o B L H T w j := by
  unfold sc_o
  rw [e.1, e.2]
theorem sc_D.mono {B : Nat → Nat} {L W0 W n n' : Nat} {H H' : Nat → Int64} {T T' : Nat → Int32} (h : sc_D B L W0 W H T n) (hn : n ≤ n') (e : ∀ i, i < W → H' i = H i ∧ T' i = T i) : sc_D B L W0 W H' T' n' := by
  intro w a b
  obtain ⟨j, c, d, f, g⟩ := h w a b
  refine ⟨j, by omega, (sc_o.eq (e w b)).mpr d, fun i hi x => f i hi ((sc_o.eq (e w b)).mp x), fun v x y => ?_⟩
  obtain ⟨i, p, q⟩ := g v x y
  exact ⟨i, p, (sc_o.eq (e v (by omega))).mpr q⟩
theorem sc_D.add {B : Nat → Nat} {L W0 W n : Nat} {H : Nat → Int64} {T : Nat → Int32} (h : sc_D B L W0 W H T n) (o : sc_o B L H T W n) (nk : ∀ i, i < n → ¬ sc_o B L H T W i) : sc_D B L W0 (W + 1) H T (n + 1) := by
  intro w a b
  by_cases e : w = W
  · subst e
    refine ⟨n, by omega, o, nk, fun v x y => ?_⟩
    obtain ⟨j, c, d, _⟩ := h v x y
    exact ⟨j, c, d⟩
  · obtain ⟨j, c, d⟩ := h w a (by omega)
    exact ⟨j, by omega, d⟩
theorem sc_scan {s0 : t_S} {B : Nat → Nat} {L W0 : Nat} {V0 sl0 : Nat → Nat} {H0 : Nat → Int64} {T0 : Nat → Int32} {Q : t_S → Prop} (hT : tx_Tc s0 B L) (hI : wt_I s0 W0 V0 sl0 H0 T0) (hW : W0 ≤ 3911) (K : ∀ s n W V sl H T, sc_w s0 s W0 H0 T0 W V sl H T → sc_D B L W0 W H T n → tk_A s B L W H T n → t_hk (k_X2_scan_116 s) Q) : t_hk (f_X2_scan s0) Q := by
  have hL := hT.1
  unfold f_X2_scan
  refine l2_lt (l2_lt ?_)
  have f00 : l2_fr (fun b j => b = 1 ∧ (j = 2 ∨ j = 6)) s0 (t_setI (t_setI s0 1 6 0) 1 2 0) := (l2_fr.set ⟨rfl, Or.inr rfl⟩).trans (l2_fr.set ⟨rfl, Or.inl rfl⟩)
  have start : sc_w s0 (t_setI (t_setI s0 1 6 0) 1 2 0) W0 H0 T0 W0 V0 sl0 H0 T0 := by
    have z : sc_w s0 s0 W0 H0 T0 W0 V0 sl0 H0 T0 := ⟨hI, Nat.le_refl _, by omega, fun i _ => ⟨rfl, rfl, rfl, rfl⟩, fun i a b => by omega, l2_fr.rf⟩
    exact z.step f00 (fun b j x => by omega)
  refine l2_lp (fun k y => ∃ i so s1 W V sl H T F1 F2 a3 c, i + k = 12001 ∧ y = (so, nI i, s1) ∧ sc_w s0 s1 W0 H0 T0 W V sl H T ∧ wq_I W0 W H T F1 F2 a3 c ∧ c ≤ 12001 ∧ sc_D B L W0 W H T i ∧ s1.1 1 6 = nI i ∧ (∀ j, j < i → s1.1 4 j = nI (tk_P B L j)) ∧
    ((so ≠ 4 ∧ so ≠ 5 ∧ tk_E B L i ≤ L ∧ i ≤ tk_E B L i ∧ s1.1 1 2 = nI (tk_E B L i) ∧ (c ≤ tk_E B L i ∨ (c ≤ tk_E B L i + 1 ∧ (tk_E B L i < L → lx_wd (B (tk_E B L i)) = false))) ∧ (∀ j, j < i → tk_P B L j < L ∧ tk_ok B L W H T (tk_P B L j) (s1.1 3 j) (s1.2.1 5 j) ∧ s1.1 3 j ≠ 5)) ∨ ((so = 4 ∨ so = 5) ∧ tk_A s1 B L W H T i))) ?_ (m := 12001) (Nat.lt_trans (by decide) l2_N) ⟨0, 0, _, W0, V0, sl0, H0, T0, sy_00, sy_00, 0, 0, rfl, rfl, start, ?_, by omega, fun w x y => by omega, ?_, fun j hj => absurd hj (by omega), Or.inl ⟨by decide, by decide, Nat.zero_le _, Nat.zero_le _, ?_, Or.inl (Nat.zero_le _), fun j hj => absurd hj (by omega)⟩⟩
  rotate_left
  · refine ⟨fun v _ => Nat.zero_le _, fun v _ => Nat.zero_le _, fun v _ z => absurd rfl z, fun v _ z => absurd rfl z, ?_, ?_⟩
    · rw [sy_cn0, sy_cn0]
      rfl
    · rw [sy_cn0, sy_cn0]
      exact Nat.le_refl _
  · rw [l2_sI, mj_up_ne _ _ (by decide), l2_sI, mj_up_eq]
    rfl
  · rw [l2_sI, mj_up_eq]
    rfl
  rintro k y ⟨i, so, s1, W, V, sl, H, T, F1, F2, a3, c, hk, rfl, hw, hq, hc, hD, h6, h4, hh⟩
  show t_hk (k_X2_scan_14 so (nI i) s1) _
  unfold k_X2_scan_14
  rcases hh with ⟨n4, n5, hE, hiE, hat, hcE, hA⟩ | ⟨h45, hA⟩
  rotate_left
  · have fin := K s1 i W V sl H T hw hD hA
    refine l2_if (fun _ => l2_mp fin) (fun _ => l2_if (fun _ => l2_mp fin) (fun z4 => l2_if (fun _ => l2_mp fin) (fun z5 => ?_)))
    rcases h45 with x | x
    · exact absurd x z4
    · exact absurd x z5
  refine l2_no (show ¬ (12000 : Int32) < nI i from nI_nlt (a := 12000) (by omega) (by decide)) (l2_no n4 (l2_no n5 ?_))
  have hT1 := hT.fr hw.2.2.2.2.2 (by unfold sc_W; omega) (fun i => by unfold sc_W; omega)
  have hPge := lx_s_ge (B := B) (L := L) (L - tk_E B L i) (tk_E B L i) false rfl
  have hPle := lx_s_le (B := B) (L := L) (L - tk_E B L i) (tk_E B L i) false rfl hE
  refine l2_bd _ (lx_skip hT1 hE hat) (fun s2 g => ?_)
  obtain ⟨g1, g2⟩ := g
  have g1 : s2.1 1 2 = nI (tk_P B L i) := g1
  have hPge : tk_E B L i ≤ tk_P B L i := hPge
  have hPle : tk_P B L i ≤ L := hPle
  refine l2_lt (l2_ck (l2_ix (by omega) (by decide)) ?_)
  rw [nI_clamp (by omega), l2_jI, g1]
  refine l2_lt ?_
  -- the state that a token is read from
  have f3 : l2_fr (fun b j => (b = 1 ∧ (j = 2 ∨ j = 10)) ∨ (b = 4 ∧ j = i)) s1 (t_setI (t_setJ s2 1 10 0) 4 i (nI (tk_P B L i))) := ((g2.mono (fun b j x => by unfold lx_Wa at x; omega)).trans (l2_fr.setJ (Or.inl ⟨rfl, Or.inr rfl⟩))).trans (l2_fr.set (Or.inr ⟨rfl, rfl⟩))
  have v0 : (t_setI (t_setJ s2 1 10 0) 4 i (nI (tk_P B L i))).1 1 2 = nI (tk_P B L i) := by
    rw [l2_sO (by decide), l2_jI]
    exact g1
  have v1 : (t_setI (t_setJ s2 1 10 0) 4 i (nI (tk_P B L i))).2.1 1 10 = 0 := by
    show (t_setJ s2 1 10 0).2.1 1 10 = 0
    rw [l2_jJ, mj_up_eq]
  have v2 : (t_setI (t_setJ s2 1 10 0) 4 i (nI (tk_P B L i))).1 4 i = nI (tk_P B L i) := by rw [l2_sI, mj_up_eq]
  generalize t_setI (t_setJ s2 1 10 0) 4 i (nI (tk_P B L i)) = s3 at *
  have hw3 := hw.step f3 (fun b j x => by omega)
  have hT3 := hT.fr hw3.2.2.2.2.2 (by unfold sc_W; omega) (fun i => by unfold sc_W; omega)
  have a3' : ∀ j, j < i → s3.1 4 j = nI (tk_P B L j) ∧ s3.1 3 j = s1.1 3 j ∧ s3.2.1 5 j = s1.2.1 5 j := fun j hj => by
    rw [(f3 4 j (by omega)).1, (f3 3 j (by omega)).1, (f3 5 j (by omega)).2.1]
    exact ⟨h4 j hj, rfl, rfl⟩
  have b6 : s3.1 1 6 = nI i := by rw [(f3 1 6 (by omega)).1]; exact h6
  rw [hT3.2.1, v0]
  -- what is written behind a token
  have put : ∀ (v : Int32) (s4 : t_S) (W' : Nat) (V' sl' : Nat → Nat) (H' : Nat → Int64) (T' : Nat → Int32) (F1' F2' : Nat → Nat) (a3'' c' : Nat), l2_fr lx_Wt s3 s4 → sc_w s0 s4 W0 H0 T0 W' V' sl' H' T' → wq_I W0 W' H' T' F1' F2' a3'' c' → c' ≤ 12001 → sc_D B L W0 W' H' T' (i + 1) → W ≤ W' → (∀ i, i < W → H' i = H i ∧ T' i = T i) →
      ((tk_P B L i < L ∧ tk_ok B L W' H' T' (tk_P B L i) v (s4.2.1 1 10) ∧ s4.1 1 2 = nI (tk_E B L (i + 1)) ∧ (v ≠ 5 → tk_E B L (i + 1) ≤ L ∧ (c' ≤ tk_E B L (i + 1) ∨ (c' ≤ tk_E B L (i + 1) + 1 ∧ (tk_E B L (i + 1) < L → lx_wd (B (tk_E B L (i + 1))) = false))))) ∨ (L ≤ tk_P B L i ∧ v = 4)) →
      t_hk (k_X2_scan_82 (nI i) v s4) (l2_nx (fun z => ∃ j, j < k ∧ ∃ i so s1 W V sl H T F1 F2 a3 c, i + j = 12001 ∧ z = (so, nI i, s1) ∧ sc_w s0 s1 W0 H0 T0 W V sl H T ∧ wq_I W0 W H T F1 F2 a3 c ∧ c ≤ 12001 ∧ sc_D B L W0 W H T i ∧ s1.1 1 6 = nI i ∧ (∀ j, j < i → s1.1 4 j = nI (tk_P B L j)) ∧
    ((so ≠ 4 ∧ so ≠ 5 ∧ tk_E B L i ≤ L ∧ i ≤ tk_E B L i ∧ s1.1 1 2 = nI (tk_E B L i) ∧ (c ≤ tk_E B L i ∨ (c ≤ tk_E B L i + 1 ∧ (tk_E B L i < L → lx_wd (B (tk_E B L i)) = false))) ∧ (∀ j, j < i → tk_P B L j < L ∧ tk_ok B L W H T (tk_P B L j) (s1.1 3 j) (s1.2.1 5 j) ∧ s1.1 3 j ≠ 5)) ∨ ((so = 4 ∨ so = 5) ∧ tk_A s1 B L W H T i))) Q) := by
    intro v s4 W' V' sl' H' T' F1' F2' a3'' c' f4 hw4 hq4 hc4 hD4 hWW hHH hv
    unfold k_X2_scan_82
    refine l2_ck (l2_ix (by omega) (by decide)) ?_
    rw [nI_clamp (by omega), nI_1]
    refine l2_lt (l2_lt (l2_lt ?_))
    have f5 : l2_fr (fun b j => (b = 1 ∧ j = 6) ∨ (b = 3 ∧ j = i) ∨ (b = 5 ∧ j = i)) s4 (t_setI (t_setJ (t_setI s4 3 i v) 5 i ((t_setI s4 3 i v).2.1 1 10)) 1 6 ((t_setJ (t_setI s4 3 i v) 5 i ((t_setI s4 3 i v).2.1 1 10)).1 1 6 + 1)) := ((l2_fr.set (Or.inr (Or.inl ⟨rfl, rfl⟩))).trans (l2_fr.setJ (Or.inr (Or.inr ⟨rfl, rfl⟩)))).trans (l2_fr.set (Or.inl ⟨rfl, rfl⟩))
    have e3 : (t_setI (t_setJ (t_setI s4 3 i v) 5 i ((t_setI s4 3 i v).2.1 1 10)) 1 6 ((t_setJ (t_setI s4 3 i v) 5 i ((t_setI s4 3 i v).2.1 1 10)).1 1 6 + 1)).1 3 i = v := by
      rw [l2_sO (by decide), l2_jI, l2_sI, mj_up_eq]
    have e5 : (t_setI (t_setJ (t_setI s4 3 i v) 5 i ((t_setI s4 3 i v).2.1 1 10)) 1 6 ((t_setJ (t_setI s4 3 i v) 5 i ((t_setI s4 3 i v).2.1 1 10)).1 1 6 + 1)).2.1 5 i = s4.2.1 1 10 := by
      show (t_setJ (t_setI s4 3 i v) 5 i ((t_setI s4 3 i v).2.1 1 10)).2.1 5 i = _
      rw [l2_jJ, mj_up_eq]
      rfl
    have e6 : (t_setI (t_setJ (t_setI s4 3 i v) 5 i ((t_setI s4 3 i v).2.1 1 10)) 1 6 ((t_setJ (t_setI s4 3 i v) 5 i ((t_setI s4 3 i v).2.1 1 10)).1 1 6 + 1)).1 1 6 = nI (i + 1) := by
      rw [l2_sI, mj_up_eq, l2_jI, l2_sO (by decide), (f4 1 6 (by unfold lx_Wt; omega)).1, b6, nI_1]
    generalize t_setI (t_setJ (t_setI s4 3 i v) 5 i ((t_setI s4 3 i v).2.1 1 10)) 1 6 ((t_setJ (t_setI s4 3 i v) 5 i ((t_setI s4 3 i v).2.1 1 10)).1 1 6 + 1) = s5 at *
    have old : ∀ j, j < i → s5.1 4 j = nI (tk_P B L j) ∧ s5.1 3 j = s1.1 3 j ∧ s5.2.1 5 j = s1.2.1 5 j := fun j hj => by
      rw [(f5 4 j (by omega)).1, (f5 3 j (by omega)).1, (f5 5 j (by omega)).2.1, (f4 4 j (by unfold lx_Wt; omega)).1, (f4 3 j (by unfold lx_Wt; omega)).1, (f4 5 j (by unfold lx_Wt; omega)).2.1]
      exact a3' j hj
    have at4 : s5.1 4 i = nI (tk_P B L i) := by rw [(f5 4 i (by omega)).1, (f4 4 i (by unfold lx_Wt; omega)).1, v2]
    have all4 : ∀ j, j < i + 1 → s5.1 4 j = nI (tk_P B L j) := fun j hj => by
      by_cases e : j = i
      · rw [e]; exact at4
      · exact (old j (by omega)).1
    have allA : ∀ j, j < i → tk_P B L j < L ∧ tk_ok B L W' H' T' (tk_P B L j) (s5.1 3 j) (s5.2.1 5 j) ∧ s5.1 3 j ≠ 5 := fun j hj => by
      obtain ⟨x1, x2, x3⟩ := hA j hj
      rw [(old j hj).2.1, (old j hj).2.2]
      exact ⟨x1, x2.mono hWW hHH, x3⟩
    have hw5 := hw4.step f5 (fun b j x => by omega)
    refine l2_sm ⟨k - 1, by omega, i + 1, v, s5, W', V', sl', H', T', F1', F2', a3'', c', by omega, rfl, hw5, hq4, hc4, hD4, e6, all4, ?_⟩
    rcases hv with ⟨p1, p2, p3, p4⟩ | ⟨p1, p2⟩
    · by_cases z : v = 5
      · refine Or.inr ⟨Or.inr z, by omega, by omega, e6, all4, fun j hj => allA j (by omega), Or.inr ?_⟩
        rw [Nat.add_sub_cancel, e3, e5]
        exact ⟨p1, p2, z⟩
      · obtain ⟨q1, q2⟩ := p4 z
        have gt := (tk_e_gt (B := B) p1).1
        refine Or.inl ⟨p2.ne4, z, q1, ?_, ?_, q2, fun j hj => ?_⟩
        · show i + 1 ≤ tk_e B L (tk_P B L i)
          omega
        · rw [(f5 1 2 (by omega)).1]
          exact p3
        · by_cases e : j = i
          · rw [e, e3, e5]
            exact ⟨p1, p2, z⟩
          · exact allA j (by omega)
    · refine Or.inr ⟨Or.inl p2, by omega, by omega, e6, all4, fun j hj => allA j (by omega), Or.inl ?_⟩
      rw [Nat.add_sub_cancel, e3]
      exact ⟨p1, p2⟩
  refine l2_if (fun z => ?_) (fun z => ?_)
  · have z : tk_P B L i < L := (nI_ltI (by omega) (by omega)).mp z
    refine l2_ck (l2_ix (by omega) (by decide)) ?_
    obtain ⟨b1, b2⟩ := hT3.2.2 (tk_P B L i) z
    rw [nI_clamp (by omega), b2, tx_255 b1]
    have hWb := hw3.2.2.1
    refine l2_bd _ (tk_read hT3 z v0 v1 hw3.1 (by omega)) (fun r hr => ?_)
    obtain ⟨r1, W', V', sl', H', T', ⟨t1, t2, t3, t4⟩, ok⟩ := hr
    have gt := tk_e_gt (B := B) z
    have cP : lx_le (B (tk_P B L i)) = true → c ≤ tk_P B L i := fun hl => by
      rcases hcE with x | ⟨x, y⟩
      · omega
      · by_cases e : tk_P B L i = tk_E B L i
        · have y := y (by omega)
          rw [← e] at y
          unfold lx_wd at y
          rw [hl] at y
          cases y
        · omega
    have cB : c ≤ tk_E B L i + 1 := by
      rcases hcE with x | x
      · omega
      · exact x.1
    have le5 : r.1 ≠ 5 → tk_E B L (i + 1) ≤ L := fun n5 => by
      show tk_e B L (tk_P B L i) ≤ L
      by_cases e1 : lx_le (B (tk_P B L i)) = true
      · have := (lx_r_all (g := lx_wd) (B := B) (L := L) (L - tk_P B L i) (tk_P B L i) rfl).2.1 hPle
        unfold tk_e
        rw [if_pos e1]
        exact this
      · have e1 : lx_le (B (tk_P B L i)) = false := by cases h : lx_le (B (tk_P B L i)) with | true => exact absurd h e1 | false => rfl
        by_cases e2 : lx_di (B (tk_P B L i)) = true
        · have := (lx_r_all (g := lx_di) (B := B) (L := L) (L - tk_P B L i) (tk_P B L i) rfl).2.1 hPle
          unfold tk_e
          rw [if_neg (by rw [e1]; decide), if_pos e2]
          exact this
        · have e2 : lx_di (B (tk_P B L i)) = false := by cases h : lx_di (B (tk_P B L i)) with | true => exact absurd h e2 | false => rfl
          by_cases e3 : B (tk_P B L i) = 34
          · have q := (ok.2.2.1 e1 e2 e3).1
            unfold tk_e
            rw [if_neg (by rw [e1]; decide), if_neg (by rw [e2]; decide), if_pos e3]
            by_cases y : lx_r lx_tx B L (tk_P B L i + 1) < L ∧ B (lx_r lx_tx B L (tk_P B L i + 1)) = 34 ∧ lx_r lx_tx B L (tk_P B L i + 1) - (tk_P B L i + 1) ≤ 40
            · omega
            · rw [if_neg y] at q
              exact absurd q n5
          · unfold tk_e
            rw [if_neg (by rw [e1]; decide), if_neg (by rw [e2]; decide), if_neg e3]
            unfold lx_se
            split
            · omega
            · rename_i y
              by_cases u : tk_P B L i + 1 < L
              · omega
              · have : lx_nxt B L (tk_P B L i) = 0 := by unfold lx_nxt; rw [if_neg u]
                rw [this] at y
                exfalso
                apply y
                unfold lx_two
                rw [if_neg (by omega), if_neg (by omega), if_neg (by omega), if_neg (by omega)]
    rcases t3 with rfl | ⟨rfl, u1, u2, u3, u4, u5, u6⟩
    · have hq' := hq.grow (Nat.le_refl c) (fun i hi => ⟨(t2 i hi).1, (t2 i hi).2.1⟩)
      have hw4 : sc_w s0 r.2 W0 H0 T0 W' V' sl' H' T' := by
        obtain ⟨x1, x2, x3, x4, x5, x6⟩ := hw3
        refine ⟨t1, x2, x3, fun i hi => ?_, fun i a b => ?_, x6.trans (t4.mono (fun b j x => by unfold lx_Wt at x; unfold sc_W; omega))⟩
        · obtain ⟨y1, y2, y3, y4⟩ := t2 i (by omega)
          obtain ⟨z1, z2, z3, z4⟩ := x4 i hi
          exact ⟨y1.trans z1, y2.trans z2, y3.trans z3, y4.trans z4⟩
        · obtain ⟨y1, y2, y3, y4⟩ := t2 i b
          obtain ⟨z3, z4⟩ := x5 i a b
          exact ⟨y3.trans z3, y4.trans z4⟩
      refine put r.1 r.2 W' V' sl' H' T' F1 F2 a3 c t4 hw4 hq' hc (hD.mono (Nat.le_succ _) (fun i hi => ⟨(t2 i hi).1, (t2 i hi).2.1⟩)) (Nat.le_refl _) (fun i hi => ⟨(t2 i hi).1, (t2 i hi).2.1⟩) (Or.inl ⟨z, ok, r1, fun n5 => ⟨le5 n5, Or.inl ?_⟩⟩)
      show c ≤ tk_e B L (tk_P B L i)
      omega
    · have hpos : 0 < tk_n B L (tk_P B L i) := by
        have := (lx_r_all (g := lx_wd) (B := B) (L := L) (L - (tk_P B L i + 1)) (tk_P B L i + 1) rfl).1
        unfold tk_n
        rw [lx_r_go z (by unfold lx_wd; rw [u1]; rfl)]
        omega
      have rall := lx_r_all (g := lx_wd) (B := B) (L := L) (L - tk_P B L i) (tk_P B L i) rfl
      have en : tk_e B L (tk_P B L i) = tk_P B L i + tk_n B L (tk_P B L i) := by
        unfold tk_e tk_n
        rw [if_pos u1]
        omega
      have er : tk_e B L (tk_P B L i) = lx_r lx_wd B L (tk_P B L i) := by
        unfold tk_e
        rw [if_pos u1]
      have nf : ∀ i', i' < W → ¬ (H i' = wk_h B (tk_P B L i) (tk_n B L (tk_P B L i)) ∧ T i' = wk_t B (tk_P B L i) (tk_n B L (tk_P B L i))) := by
        rintro i' hi' ⟨eH, eT⟩
        have x := t1.2.2.2.2.2.1 i' W (by omega) (by omega) (by rw [(t2 i' hi').1, eH, u3]) (by rw [(t2 i' hi').2.1, eT, u4])
        omega
      obtain ⟨F1', F2', a3'', hq'⟩ := hq.add (B := B) (p := tk_P B L i) (n := tk_n B L (tk_P B L i)) hpos (fun j hj => by
        obtain ⟨x, y⟩ := rall.2.2.1 (tk_P B L i + j) (by omega) (by rw [← er, en]; omega)
        exact ⟨x, (hT3.2.2 _ y).1⟩) u1 nf (H' := H') (T' := T') (fun i hi => ⟨(t2 i hi).1, (t2 i hi).2.1⟩) u3 u4
      have cp := cP u1
      have le1 : tk_E B L (i + 1) ≤ L := by
        show tk_e B L (tk_P B L i) ≤ L
        rw [er]
        exact rall.2.1 hPle
      have le2 : tk_e B L (tk_P B L i) ≤ L := le1
      have hc' : c + tk_n B L (tk_P B L i) + 1 ≤ 12001 := by omega
      have hlt := hq'.lt hc'
      have hw4 : sc_w s0 r.2 W0 H0 T0 (W + 1) V' sl' H' T' := by
        obtain ⟨x1, x2, x3, x4, x5, x6⟩ := hw3
        refine ⟨t1, by omega, hlt, fun i hi => ?_, fun i a b => ?_, x6.trans (t4.mono (fun b j x => by unfold lx_Wt at x; unfold sc_W; omega))⟩
        · obtain ⟨y1, y2, y3, y4⟩ := t2 i (by omega)
          obtain ⟨z1, z2, z3, z4⟩ := x4 i hi
          exact ⟨y1.trans z1, y2.trans z2, y3.trans z3, y4.trans z4⟩
        · by_cases e : i = W
          · rw [e]
            exact ⟨u5, u6⟩
          · obtain ⟨y1, y2, y3, y4⟩ := t2 i (by omega)
            obtain ⟨z3, z4⟩ := x5 i a (by omega)
            exact ⟨y3.trans z3, y4.trans z4⟩
      have noK : ∀ j, j < i → ¬ sc_o B L H' T' W j := by
        rintro j hj ⟨o1, o2, o3, o4, o5⟩
        obtain ⟨x1, x2, x3⟩ := hA j hj
        rcases x2.1 o2 with ⟨_, i', y1, y2, y3, _⟩ | ⟨y, _⟩
        · exact nf i' y1 ⟨y2.trans (o4.symm.trans u3), y3.trans (o5.symm.trans u4)⟩
        · omega
      have hDn := (hD.mono (Nat.le_refl _) (H' := H') (T' := T') (fun i hi => ⟨(t2 i hi).1, (t2 i hi).2.1⟩)).add ⟨z, u1, u2, u3, u4⟩ noK
      refine put r.1 r.2 (W + 1) V' sl' H' T' F1' F2' a3'' _ t4 hw4 hq' hc' hDn (by omega) (fun i hi => ⟨(t2 i hi).1, (t2 i hi).2.1⟩) (Or.inl ⟨z, ok, r1, fun n5 => ⟨le1, Or.inr ⟨?_, fun hlt2 => ?_⟩⟩⟩)
      · show c + tk_n B L (tk_P B L i) + 1 ≤ tk_e B L (tk_P B L i) + 1
        omega
      · have hlt2 : tk_e B L (tk_P B L i) < L := hlt2
        show lx_wd (B (tk_e B L (tk_P B L i))) = false
        rw [er] at hlt2 ⊢
        exact rall.2.2.2 hlt2
  · have z : ¬ tk_P B L i < L := fun y => z ((nI_ltI (by omega) (by omega)).mpr y)
    exact put 4 s3 W V sl H T F1 F2 a3 c l2_fr.rf hw3 hq hc (hD.mono (Nat.le_succ _) (fun i _ => ⟨rfl, rfl⟩)) (Nat.le_refl _) (fun i _ => ⟨rfl, rfl⟩) (Or.inr ⟨by omega, rfl⟩)
