/-! Level 2: the row of tokens on both sides: the class's current one, the reference's, and their steps. -/
theorem tk_ok.bad {B : Nat → Nat} {L W p : Nat} {H : Nat → Int64} {T : Nat → Int32} {so : Int32} {te : Int64} (h : tk_ok B L W H T p so te) : so = 5 ↔ ¬ tk_v B L p := by
  obtain ⟨h1, h2, h3, h4⟩ := h
  have n5 : ∀ v : Nat, v < 600 → (nI v = (5 : Int32) ↔ v = 5) := fun v hv => nI_eq (b := 5) (by omega) (by decide)
  cases e1 : lx_le (B p) with
  | true =>
    have v : tk_v B L p ↔ tk_n B L p ≤ 12 := ⟨fun x => x.1 e1, fun x => ⟨fun _ => x, fun y => absurd (e1.symm.trans y) (by decide), fun y => absurd (e1.symm.trans y) (by decide), fun y => absurd (e1.symm.trans y) (by decide)⟩⟩
    rw [v]
    rcases h1 e1 with ⟨a, i, _, _, _, _, g⟩ | ⟨a, g⟩
    · refine ⟨fun x => ?_, fun x => absurd a x⟩
      rw [g] at x
      by_cases z : i < 66
      · rw [if_pos z] at x
        have := (n5 _ (by omega)).mp x
        omega
      · rw [if_neg z] at x
        have := (n5 1 (by decide)).mp x
        omega
    · exact ⟨fun _ => by omega, fun _ => g⟩
  | false =>
    cases e2 : lx_di (B p) with
    | true =>
      have v : tk_v B L p ↔ lx_r lx_di B L p - p ≤ 15 := ⟨fun x => x.2.1 e1 e2, fun x => ⟨fun y => absurd (e1.symm.trans y) (by decide), fun _ _ => x, fun _ y => absurd (e2.symm.trans y) (by decide), fun _ y => absurd (e2.symm.trans y) (by decide)⟩⟩
      rw [v, (h2 e1 e2).1]
      by_cases z : lx_r lx_di B L p - p ≤ 15
      · rw [if_pos z]
        exact ⟨fun x => absurd x (by decide), fun x => absurd z x⟩
      · rw [if_neg z]
        exact ⟨fun _ => z, fun _ => rfl⟩
    | false =>
      by_cases e3 : B p = 34
      · have v : tk_v B L p ↔ (lx_r lx_tx B L (p + 1) < L ∧ B (lx_r lx_tx B L (p + 1)) = 34 ∧ lx_r lx_tx B L (p + 1) - (p + 1) ≤ 40) := ⟨fun x => x.2.2.1 e1 e2 e3, fun x => ⟨fun y => absurd (e1.symm.trans y) (by decide), fun _ y => absurd (e2.symm.trans y) (by decide), fun _ _ _ => x, fun _ _ y => absurd e3 y⟩⟩
        rw [v, (h3 e1 e2 e3).1]
        by_cases z : lx_r lx_tx B L (p + 1) < L ∧ B (lx_r lx_tx B L (p + 1)) = 34 ∧ lx_r lx_tx B L (p + 1) - (p + 1) ≤ 40
        · rw [if_pos z]
          exact ⟨fun x => absurd x (by decide), fun x => absurd z x⟩
        · rw [if_neg z]
          exact ⟨fun _ => z, fun _ => rfl⟩
      · have v : tk_v B L p ↔ lx_so B L p ≠ 5 := ⟨fun x => x.2.2.2 e1 e2 e3, fun x => ⟨fun y => absurd (e1.symm.trans y) (by decide), fun _ y => absurd (e2.symm.trans y) (by decide), fun _ _ y => absurd y e3, fun _ _ _ => x⟩⟩
        have lt : lx_so B L p < 600 := by
          unfold lx_so
          split
          · split
            · rename_i z
              have := tk_one z
              omega
            · omega
          · rename_i z
            have := tk_two z
            omega
        rw [v, h4 e1 e2 e3, n5 _ lt]
        exact ⟨fun x y => y x, fun x => by
          by_cases z : lx_so B L p = 5
          · exact z
          · exact absurd z x⟩
/-- the class at token u, no fault -/
def lc_A (s : t_S) (B : Nat → Nat) (L W : Nat) (V sl : Nat → Nat) (H : Nat → Int64) (T : Nat → Int32) (n u : Nat) : Prop := tx_Tc s B L ∧ wt_I s W V sl H T ∧ tk_A s B L W H T n ∧ u < n ∧ s.1 1 7 = nI u ∧ s.1 1 8 = s.1 3 u ∧ s.1 1 9 = nI (tk_P B L u) ∧ s.2.1 1 10 = s.2.1 5 u ∧ s.1 1 11 = 0 ∧ s.1 3 u ≠ 5
/-- the class behind a fault -/
def lc_F (s : t_S) (f p : Nat) : Prop := 0 < f ∧ f < 100 ∧ s.1 1 11 = nI f ∧ s.1 1 12 = nI p ∧ s.1 1 8 = 5
/-- the reference at token u, no fault -/
def lr_A (s : t_S) (B : Nat → Nat) (L u : Nat) : Prop := tx_Tr s B L ∧ s.1 950 2 = 0 ∧ s.1 950 6 = nI (tk_P B L u) ∧ tk_P B L u ≤ L ∧ ((L ≤ tk_P B L u ∧ s.1 950 5 = 0 ∧ s.1 950 4 = nI (tk_P B L u)) ∨ (tk_P B L u < L ∧ tk_v B L (tk_P B L u) ∧ s.1 950 4 = nI (tk_E B L (u + 1)) ∧ tk_E B L (u + 1) ≤ L ∧ rn_T B L (tk_P B L u) s))
/-- the reference behind a fault -/
def lr_F (s : t_S) (f p : Nat) : Prop := 0 < f ∧ f < 100 ∧ s.1 950 2 = nI f ∧ s.1 950 3 = nI p
def la_W (b j : Nat) : Prop := b = 1 ∧ (7 ≤ j ∧ j ≤ 12)
/-- a token that is one ends within the text -/
theorem tk_v.le {B : Nat → Nat} {L p : Nat} (hp : p < L) (h : tk_v B L p) : tk_e B L p ≤ L := by
  have a1 := (lx_r_all (g := lx_wd) (B := B) (L := L) (L - p) p rfl).2.1 (by omega)
  have a2 := (lx_r_all (g := lx_di) (B := B) (L := L) (L - p) p rfl).2.1 (by omega)
  unfold tk_e
  cases e1 : lx_le (B p) with
  | true => rw [if_pos rfl]; exact a1
  | false =>
    rw [if_neg (by decide)]
    cases e2 : lx_di (B p) with
    | true => rw [if_pos rfl]; exact a2
    | false =>
      rw [if_neg (by decide)]
      by_cases e3 : B p = 34
      · rw [if_pos e3]
        have := h.2.2.1 e1 e2 e3
        omega
      · rw [if_neg e3]
        unfold lx_se
        split
        · omega
        · rename_i y
          by_cases u : p + 1 < L
          · omega
          · have : lx_nxt B L p = 0 := by unfold lx_nxt; rw [if_neg u]
            rw [this] at y
            exfalso
            apply y
            unfold lx_two
            rw [if_neg (by omega), if_neg (by omega), if_neg (by omega), if_neg (by omega)]
theorem lc_adv {s : t_S} {B : Nat → Nat} {L W n u : Nat} {V sl : Nat → Nat} {H : Nat → Int64} {T : Nat → Int32} (h : lc_A s B L W V sl H T n u) : t_hk (f_X2_advance s) (fun s' => l2_fr la_W s s' ∧ ((n ≤ u + 1 ∧ s' = s) ∨ (u + 1 < n ∧ s.1 3 (u + 1) ≠ 5 ∧ lc_A s' B L W V sl H T n (u + 1)) ∨ (u + 1 < n ∧ s.1 3 (u + 1) = 5 ∧ lc_F s' 1 (tk_P B L (u + 1))))) := by
  obtain ⟨hT, hI, hA, hu, h7, h8, h9, h10, h11, h5⟩ := h
  have hA0 := hA
  obtain ⟨a1, a2, a3, a4, a5, a6⟩ := hA
  unfold f_X2_advance
  refine l2_ck h11 ?_
  rw [h7, a3, nI_1]
  refine l2_if (fun c => ?_) (fun c => ?_)
  · have c : u + 1 < n := (nI_ltI (by omega) (by omega)).mp c
    refine l2_lt ?_
    have e7 : (t_setI s 1 7 (nI (u + 1))).1 1 7 = nI (u + 1) := by simp only [l2_g, reduceIte]
    rw [e7]
    refine l2_ck (l2_ix (by omega) (by decide)) ?_
    rw [nI_clamp (by omega), l2_sO (by decide)]
    refine l2_lt ?_
    have e72 : (t_setI (t_setI s 1 7 (nI (u + 1))) 1 8 (s.1 3 (u + 1))).1 1 7 = nI (u + 1) := by simp only [l2_g, Nat.reduceEqDiff, reduceIte]
    rw [e72]
    refine l2_ck (l2_ix (by omega) (by decide)) ?_
    rw [nI_clamp (by omega), l2_sO (by decide), l2_sO (by decide), a4 (u + 1) c]
    refine l2_lt ?_
    have e73 : (t_setI (t_setI (t_setI s 1 7 (nI (u + 1))) 1 8 (s.1 3 (u + 1))) 1 9 (nI (tk_P B L (u + 1)))).1 1 7 = nI (u + 1) := by simp only [l2_g, Nat.reduceEqDiff, reduceIte]
    rw [e73]
    refine l2_ck (l2_ix (by omega) (by decide)) ?_
    rw [nI_clamp (by omega)]
    refine l2_lt ?_
    have f4 : l2_fr la_W s (t_setJ (t_setI (t_setI (t_setI s 1 7 (nI (u + 1))) 1 8 (s.1 3 (u + 1))) 1 9 (nI (tk_P B L (u + 1)))) 1 10 ((t_setI (t_setI (t_setI s 1 7 (nI (u + 1))) 1 8 (s.1 3 (u + 1))) 1 9 (nI (tk_P B L (u + 1)))).2.1 5 (u + 1))) := (((l2_fr.set ⟨rfl, by omega⟩).trans (l2_fr.set ⟨rfl, by omega⟩)).trans (l2_fr.set ⟨rfl, by omega⟩)).trans (l2_fr.setJ ⟨rfl, by omega⟩)
    have g7 : (t_setJ (t_setI (t_setI (t_setI s 1 7 (nI (u + 1))) 1 8 (s.1 3 (u + 1))) 1 9 (nI (tk_P B L (u + 1)))) 1 10 ((t_setI (t_setI (t_setI s 1 7 (nI (u + 1))) 1 8 (s.1 3 (u + 1))) 1 9 (nI (tk_P B L (u + 1)))).2.1 5 (u + 1))).1 1 7 = nI (u + 1) := e73
    have g8 : (t_setJ (t_setI (t_setI (t_setI s 1 7 (nI (u + 1))) 1 8 (s.1 3 (u + 1))) 1 9 (nI (tk_P B L (u + 1)))) 1 10 ((t_setI (t_setI (t_setI s 1 7 (nI (u + 1))) 1 8 (s.1 3 (u + 1))) 1 9 (nI (tk_P B L (u + 1)))).2.1 5 (u + 1))).1 1 8 = s.1 3 (u + 1) := by
      rw [l2_jI]
      simp only [l2_g, Nat.reduceEqDiff, reduceIte]
    have g9 : (t_setJ (t_setI (t_setI (t_setI s 1 7 (nI (u + 1))) 1 8 (s.1 3 (u + 1))) 1 9 (nI (tk_P B L (u + 1)))) 1 10 ((t_setI (t_setI (t_setI s 1 7 (nI (u + 1))) 1 8 (s.1 3 (u + 1))) 1 9 (nI (tk_P B L (u + 1)))).2.1 5 (u + 1))).1 1 9 = nI (tk_P B L (u + 1)) := by
      rw [l2_jI]
      simp only [l2_g, reduceIte]
    have g10 : (t_setJ (t_setI (t_setI (t_setI s 1 7 (nI (u + 1))) 1 8 (s.1 3 (u + 1))) 1 9 (nI (tk_P B L (u + 1)))) 1 10 ((t_setI (t_setI (t_setI s 1 7 (nI (u + 1))) 1 8 (s.1 3 (u + 1))) 1 9 (nI (tk_P B L (u + 1)))).2.1 5 (u + 1))).2.1 1 10 = s.2.1 5 (u + 1) := by
      rw [l2_jJ, mj_up_eq]
      rfl
    have g11 : (t_setJ (t_setI (t_setI (t_setI s 1 7 (nI (u + 1))) 1 8 (s.1 3 (u + 1))) 1 9 (nI (tk_P B L (u + 1)))) 1 10 ((t_setI (t_setI (t_setI s 1 7 (nI (u + 1))) 1 8 (s.1 3 (u + 1))) 1 9 (nI (tk_P B L (u + 1)))).2.1 5 (u + 1))).1 1 11 = 0 := by
      rw [l2_jI]
      simp only [l2_g, Nat.reduceEqDiff, reduceIte]
      exact h11
    generalize t_setJ (t_setI (t_setI (t_setI s 1 7 (nI (u + 1))) 1 8 (s.1 3 (u + 1))) 1 9 (nI (tk_P B L (u + 1)))) 1 10 ((t_setI (t_setI (t_setI s 1 7 (nI (u + 1))) 1 8 (s.1 3 (u + 1))) 1 9 (nI (tk_P B L (u + 1)))).2.1 5 (u + 1)) = s4 at *
    rw [g8]
    refine l2_if (fun z => ?_) (fun z => ?_)
    · refine l2_lt (l2_lt (l2_sm ⟨(f4.trans (l2_fr.set ⟨rfl, by omega⟩)).trans (l2_fr.set ⟨rfl, by omega⟩), Or.inr (Or.inr ⟨c, z, by omega, by omega, ?_, ?_, ?_⟩)⟩))
      · simp only [l2_g, Nat.reduceEqDiff, reduceIte]
        rfl
      · simp only [l2_g, Nat.reduceEqDiff, reduceIte]
        exact g9
      · simp only [l2_g, Nat.reduceEqDiff, reduceIte]
        exact g8.trans z
    · have e : ∀ b j, b ≠ 1 → s4.1 b j = s.1 b j ∧ s4.2.1 b j = s.2.1 b j := fun b j hb => ⟨(f4 b j (by unfold la_W; omega)).1, (f4 b j (by unfold la_W; omega)).2.1⟩
      refine l2_sm ⟨f4, Or.inr (Or.inl ⟨c, z, hT.fr f4 (by unfold la_W; omega) (fun i => by unfold la_W; omega), hI.fr f4 (by unfold la_W; omega) (fun b i _ _ => by unfold la_W; omega), ⟨a1, a2, ?_, fun j hj => ?_, fun j hj => ?_, ?_⟩, c, g7, ?_, g9, ?_, ?_, ?_⟩)⟩
      · rw [(f4 1 6 (by unfold la_W; omega)).1]; exact a3
      · rw [(e 4 j (by decide)).1]; exact a4 j hj
      · rw [(e 3 j (by decide)).1, (e 5 j (by decide)).2]; exact a5 j hj
      · rw [(e 3 (n - 1) (by decide)).1, (e 5 (n - 1) (by decide)).2]; exact a6
      · rw [(e 3 (u + 1) (by decide)).1]; exact g8
      · rw [(e 5 (u + 1) (by decide)).2]; exact g10
      · exact g11
      · rw [(e 3 (u + 1) (by decide)).1]; exact z
  · have c : ¬ u + 1 < n := fun z => c ((nI_ltI (by omega) (by omega)).mpr z)
    exact l2_sm ⟨l2_fr.rf, Or.inl ⟨by omega, rfl⟩⟩
theorem lr_adv {s : t_S} {B : Nat → Nat} {L u : Nat} (h : lr_A s B L u) : t_hk (f_X13_next s) (fun s' => l2_fr rn_W s s' ∧ ((L ≤ tk_P B L u ∧ lr_A s' B L u) ∨ (tk_P B L u < L ∧ (L ≤ tk_P B L (u + 1) ∨ tk_v B L (tk_P B L (u + 1))) ∧ lr_A s' B L (u + 1)) ∨ (tk_P B L u < L ∧ tk_P B L (u + 1) < L ∧ ¬ tk_v B L (tk_P B L (u + 1)) ∧ lr_F s' 1 (tk_P B L (u + 1)) ∧ s'.1 950 5 = 0))) := by
  obtain ⟨hT, h2, h6, hle, h⟩ := h
  have tT : ∀ s', l2_fr rn_W s s' → tx_Tr s' B L := fun s' f => hT.fr f (by unfold rn_W; omega) (fun i => by unfold rn_W; omega)
  rcases h with ⟨c, h5, h4⟩ | ⟨c, hv, h4, hE, ht⟩
  · refine l2_imp (rn_next hT hle h4 h2) (fun s' q => ?_)
    rw [lx_s_end c] at q
    obtain ⟨q6, qf, q⟩ := q
    refine ⟨qf, Or.inl ⟨c, tT s' qf, ?_⟩⟩
    rcases q with ⟨x1, x2, x3, x4⟩ | ⟨x1, _⟩ | ⟨x1, _⟩
    · exact ⟨x2, q6, hle, Or.inl ⟨c, x3, x4⟩⟩
    · omega
    · omega
  · refine l2_imp (rn_next hT hE h4 h2) (fun s' q => ?_)
    obtain ⟨q6, qf, q⟩ := q
    have pl : tk_P B L (u + 1) ≤ L := lx_s_le (B := B) (L := L) (L - tk_E B L (u + 1)) (tk_E B L (u + 1)) false rfl hE
    refine ⟨qf, Or.inr ?_⟩
    rcases q with ⟨x1, x2, x3, x4⟩ | ⟨x1, x2, x3, x4, x5⟩ | ⟨x1, x2, x3, x4, x5⟩
    · exact Or.inl ⟨c, Or.inl x1, tT s' qf, x2, q6, pl, Or.inl ⟨x1, x3, x4⟩⟩
    · exact Or.inl ⟨c, Or.inr x2, tT s' qf, x3, q6, pl, Or.inr ⟨x1, x2, x4, x2.le x1, x5⟩⟩
    · exact Or.inr ⟨c, x1, x2, ⟨by omega, by omega, x3, x4⟩, x5⟩
