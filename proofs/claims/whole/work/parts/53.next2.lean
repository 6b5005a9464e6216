/-! Level 2: the reference's next token. -/
theorem l2_g {s : t_S} {a k j : Nat} {v : Int32} : (t_setI s a k v).1 a j = if j = k then v else s.1 a j := by
  rw [l2_sI]
  rfl
theorem rn_le5 {B : Nat → Nat} {L p : Nat} (hp : p ≤ L) : lx_r lx_wd B L p = p + tk_n B L p ∧ p + tk_n B L p ≤ L := by
  have a := lx_r_all (g := lx_wd) (B := B) (L := L) (L - p) p rfl
  have b := a.2.1 hp
  unfold tk_n
  omega
theorem rn_next {s : t_S} {B : Nat → Nat} {L e : Nat} (hT : tx_Tr s B L) (he : e ≤ L) (h4 : s.1 950 4 = nI e) (h2 : s.1 950 2 = 0) : t_hk (f_X13_next s) (rn_Q B L (lx_s B L false e) s) := by
  have hL := hT.1
  have pge := lx_s_ge (B := B) (L := L) (L - e) e false rfl
  have ple := lx_s_le (B := B) (L := L) (L - e) e false rfl he
  unfold f_X13_next
  refine l2_ck h2 ?_
  refine l2_bd _ (lx_rskip hT he h4) (fun r1 g => ?_)
  generalize hp : lx_s B L false e = p at *
  obtain ⟨g1, g2⟩ := g
  refine l2_lt (l2_lt (l2_lt ?_))
  rw [g1]
  have f3 : l2_fr (fun b j => b = 950 ∧ (j = 4 ∨ j = 6 ∨ j = 7 ∨ j = 10)) s (t_setI (t_setI (t_setI r1 950 6 (nI p)) 950 7 0) 950 10 (-1)) := (((g2.mono (fun b j x => by unfold lx_Wr at x; omega)).trans (l2_fr.set ⟨rfl, by omega⟩)).trans (l2_fr.set ⟨rfl, by omega⟩)).trans (l2_fr.set ⟨rfl, by omega⟩)
  have c4 : (t_setI (t_setI (t_setI r1 950 6 (nI p)) 950 7 0) 950 10 (-1)).1 950 4 = nI p := by
    simp only [l2_g, Nat.reduceEqDiff, reduceIte]
    exact g1
  have c6 : (t_setI (t_setI (t_setI r1 950 6 (nI p)) 950 7 0) 950 10 (-1)).1 950 6 = nI p := by simp only [l2_g, Nat.reduceEqDiff, reduceIte]
  have c7 : (t_setI (t_setI (t_setI r1 950 6 (nI p)) 950 7 0) 950 10 (-1)).1 950 7 = 0 := by simp only [l2_g, Nat.reduceEqDiff, reduceIte]
  have c10 : (t_setI (t_setI (t_setI r1 950 6 (nI p)) 950 7 0) 950 10 (-1)).1 950 10 = -1 := by simp only [l2_g, reduceIte]
  generalize t_setI (t_setI (t_setI r1 950 6 (nI p)) 950 7 0) 950 10 (-1) = s3 at *
  have c2 : s3.1 950 2 = 0 := by rw [(f3 950 2 (by omega)).1]; exact h2
  have hT3 := hT.fr f3 (by omega) (fun i => by omega)
  have F3 : l2_fr rn_W s s3 := f3.mono (fun b j x => by unfold rn_W; omega)
  have pk : f_X13_peek (s3.1 950 4) s3 = some (if p < L then nI (B p) else -1) := by
    rw [c4]
    exact lx_peek hT3 (by omega)
  refine l2_eq pk ?_
  by_cases hpL : p < L
  case neg =>
    rw [if_neg hpL]
    refine l2_no (by decide) (l2_lt (rn_436 (fun _ => ?_) (fun z => ?_)))
    · refine ⟨?_, F3.trans (l2_fr.set ⟨rfl, by omega, by omega⟩), Or.inl ⟨by omega, ?_, ?_, ?_⟩⟩
      · simp only [l2_g, Nat.reduceEqDiff, reduceIte]; exact c6
      · simp only [l2_g, Nat.reduceEqDiff, reduceIte]; exact c2
      · simp only [l2_g, reduceIte]
      · simp only [l2_g, Nat.reduceEqDiff, reduceIte]; exact c4
    · simp only [l2_g, Nat.reduceEqDiff, reduceIte] at z
      exact absurd c2 z
  obtain ⟨b1, b2⟩ := hT3.2.2 p hpL
  rw [if_pos hpL]
  refine l2_ck (nI_pos' (by omega)) ?_
  rw [lx_rL b1, lx_rD b1]
  -- how a token that is one ends, and one that is none
  have good : ∀ s', l2_fr rn_W s3 s' → tk_v B L p → s'.1 950 6 = nI p → s'.1 950 2 = 0 → s'.1 950 4 = nI (tk_e B L p) → rn_T B L p s' → rn_Q B L p s s' := fun s' f v x6 x2 x4 t => ⟨x6, F3.trans f, Or.inr (Or.inl ⟨hpL, v, x2, x4, t⟩)⟩
  have bad : ∀ s', l2_fr rn_W s3 s' → ¬ tk_v B L p → s'.1 950 6 = nI p → s'.1 950 2 = 1 → s'.1 950 3 = nI p → s'.1 950 5 = 0 → rn_Q B L p s s' := fun s' f v x6 x2 x3 x5 => ⟨x6, F3.trans f, Or.inr (Or.inr ⟨hpL, v, x2, x3, x5⟩)⟩
  cases e1 : lx_le (B p) with
  | true =>
    have no1 : ∀ {P : Prop}, lx_le (B p) = false → P := fun x => absurd (e1.symm.trans x) (by decide)
    rw [if_pos rfl]
    refine l2_no l2_10 ?_
    refine lx_rword hT3 ple c4 (fun s4 k4 k5 => ?_)
    obtain ⟨en, el⟩ := rn_le5 (B := B) ple
    rw [en] at k4
    have ee : tk_e B L p = p + tk_n B L p := by
      unfold tk_e
      rw [if_pos e1]
      exact en
    have d6 : s4.1 950 6 = nI p := by rw [(k5 950 6 (by unfold lx_Wr; omega)).1]; exact c6
    have d2 : s4.1 950 2 = 0 := by rw [(k5 950 2 (by unfold lx_Wr; omega)).1]; exact c2
    have k6 : l2_fr rn_W s3 s4 := k5.mono (fun b j x => by unfold lx_Wr at x; unfold rn_W; omega)
    unfold lx_E63
    rw [k4, d6, pk_sub (by omega), Nat.add_sub_cancel_left]
    refine l2_lt (l2_lt ?_)
    have f5 : l2_fr rn_W s3 (t_setI (t_setI s4 950 7 (nI (tk_n B L p))) 950 5 1) := (k6.trans (l2_fr.set ⟨rfl, by omega, by omega⟩)).trans (l2_fr.set ⟨rfl, by omega, by omega⟩)
    have hT5 := hT3.fr f5 (by unfold rn_W; omega) (fun i => by unfold rn_W; omega)
    have m7 : (t_setI (t_setI s4 950 7 (nI (tk_n B L p))) 950 5 1).1 950 7 = nI (tk_n B L p) := by simp only [l2_g, Nat.reduceEqDiff, reduceIte]
    have m6 : (t_setI (t_setI s4 950 7 (nI (tk_n B L p))) 950 5 1).1 950 6 = nI p := by
      simp only [l2_g, Nat.reduceEqDiff, reduceIte]
      exact d6
    have m5 : (t_setI (t_setI s4 950 7 (nI (tk_n B L p))) 950 5 1).1 950 5 = 1 := by simp only [l2_g, reduceIte]
    have m4 : (t_setI (t_setI s4 950 7 (nI (tk_n B L p))) 950 5 1).1 950 4 = nI (p + tk_n B L p) := by
      simp only [l2_g, Nat.reduceEqDiff, reduceIte]
      exact k4
    have m2 : (t_setI (t_setI s4 950 7 (nI (tk_n B L p))) 950 5 1).1 950 2 = 0 := by
      simp only [l2_g, Nat.reduceEqDiff, reduceIte]
      exact d2
    generalize t_setI (t_setI s4 950 7 (nI (tk_n B L p))) 950 5 1 = s5 at *
    refine l2_bd _ (rv_read hT5 el m6 m7) (fun r hr => l2_lt ?_)
    have q : ∀ j, j ≠ 10 → (t_setI s5 950 10 r).1 950 j = s5.1 950 j := fun j hj => by rw [l2_g, if_neg hj]
    rw [q 7 (by decide), q 6 (by decide), m7, m6]
    have f6 : l2_fr rn_W s3 (t_setI s5 950 10 r) := f5.trans (l2_fr.set ⟨rfl, by omega, by omega⟩)
    have hn : tk_n B L p ≤ 12000 := by omega
    refine l2_if (fun z => ?_) (fun z => ?_)
    · have z : tk_n B L p ≤ 12 := (nI_leI (b := 12) (by omega) (by decide)).mp z
      refine rn_436 (fun _ => good _ f6 ⟨fun _ => z, fun x => no1 x, fun x => no1 x, fun x => no1 x⟩ ?_ ?_ ?_ ⟨fun _ => ⟨?_, ?_, ?_⟩, fun x => no1 x, fun x => no1 x, fun x => no1 x, fun x => no1 x⟩) (fun y => ?_)
      · rw [q 6 (by decide)]; exact m6
      · rw [q 2 (by decide)]; exact m2
      · rw [q 4 (by decide), m4, ee]
      · rw [q 5 (by decide)]; exact m5
      · rw [q 7 (by decide)]; exact m7
      · rw [l2_g, if_pos rfl]; exact hr
      · rw [q 2 (by decide)] at y
        exact absurd m2 y
    · have z : ¬ tk_n B L p ≤ 12 := fun y => z ((nI_leI (b := 12) (by omega) (by decide)).mpr y)
      refine l2_eq (rs_fail (by rw [q 2 (by decide)]; exact m2)) (rn_436 (fun y => ?_) (fun _ => ?_))
      · simp only [l2_g, Nat.reduceEqDiff, reduceIte] at y
        exact absurd y (by decide)
      · refine bad _ (((f6.trans (l2_fr.set ⟨rfl, by omega, by omega⟩)).trans (l2_fr.set ⟨rfl, by omega, by omega⟩)).trans (l2_fr.set ⟨rfl, by omega, by omega⟩)) (fun v => z (v.1 e1)) ?_ ?_ ?_ ?_
        · simp only [l2_g, Nat.reduceEqDiff, reduceIte]; exact m6
        · simp only [l2_g, Nat.reduceEqDiff, reduceIte]
        · simp only [l2_g, Nat.reduceEqDiff, reduceIte]
        · simp only [l2_g, reduceIte]
  | false =>
    have no1 : ∀ {P : Prop}, lx_le (B p) = true → P := fun x => absurd (e1.symm.trans x) (by decide)
    rw [if_neg (show ¬ false = true by decide)]
    refine l2_ck rfl ?_
    cases e2 : lx_di (B p) with
    | true =>
      have no2 : ∀ {P : Prop}, lx_di (B p) = false → P := fun x => absurd (e2.symm.trans x) (by decide)
      rw [if_pos rfl]
      refine l2_no l2_10 (l2_lt ?_)
      have f4 : l2_fr (fun b j => b = 950 ∧ j = 8) s3 (t_setJ s3 950 8 0) := l2_fr.setJ ⟨rfl, rfl⟩
      have hT4 := hT3.fr f4 (by omega) (fun i => by omega)
      have z8 : (t_setJ s3 950 8 0).2.1 950 8 = 0 := by rw [l2_jJ, mj_up_eq]
      have z4 : (t_setJ s3 950 8 0).1 950 4 = nI p := c4
      have z6 : (t_setJ s3 950 8 0).1 950 6 = nI p := c6
      refine lx_rnum hT4 ple z4 z6 z8 (fun s4 k4 k8 k5 => ?_)
      have ra := lx_r_all (g := lx_di) (B := B) (L := L) (L - p) p rfl
      have rb := ra.2.1 ple
      have ee : tk_e B L p = lx_r lx_di B L p := by unfold tk_e; rw [if_neg (by rw [e1]; decide), if_pos e2]
      have d6 : s4.1 950 6 = nI p := by rw [(k5 950 6 (by unfold lx_Wrn; omega)).1]; exact c6
      have d2 : s4.1 950 2 = 0 := by rw [(k5 950 2 (by unfold lx_Wrn; omega)).1]; exact c2
      have d10 : s4.1 950 10 = -1 := by rw [(k5 950 10 (by unfold lx_Wrn; omega)).1]; exact c10
      have k6 : l2_fr rn_W s3 s4 := (f4.mono (fun b j x => by unfold rn_W; omega)).trans (k5.mono (fun b j x => by unfold lx_Wrn at x; unfold rn_W; omega))
      unfold lx_E176
      rw [k4, d6, pk_sub (by omega)]
      refine l2_lt (l2_lt ?_)
      have f5 : l2_fr rn_W s3 (t_setI (t_setI s4 950 7 (nI (lx_r lx_di B L p - p))) 950 5 2) := (k6.trans (l2_fr.set ⟨rfl, by omega, by omega⟩)).trans (l2_fr.set ⟨rfl, by omega, by omega⟩)
      have m : ∀ j, j ≠ 5 → j ≠ 7 → (t_setI (t_setI s4 950 7 (nI (lx_r lx_di B L p - p))) 950 5 2).1 950 j = s4.1 950 j := fun j a b => by rw [l2_g, if_neg a, l2_g, if_neg b]
      have m7 : (t_setI (t_setI s4 950 7 (nI (lx_r lx_di B L p - p))) 950 5 2).1 950 7 = nI (lx_r lx_di B L p - p) := by simp only [l2_g, Nat.reduceEqDiff, reduceIte]
      have m5 : (t_setI (t_setI s4 950 7 (nI (lx_r lx_di B L p - p))) 950 5 2).1 950 5 = 2 := by simp only [l2_g, reduceIte]
      have m8 : (t_setI (t_setI s4 950 7 (nI (lx_r lx_di B L p - p))) 950 5 2).2.1 950 8 = lN (lx_num B p (min 15 (lx_r lx_di B L p - p))) := k8
      generalize t_setI (t_setI s4 950 7 (nI (lx_r lx_di B L p - p))) 950 5 2 = s5 at *
      rw [m7, m 6 (by decide) (by decide), d6]
      refine l2_if (fun z => ?_) (fun z => ?_)
      · have z : lx_r lx_di B L p - p ≤ 15 := (nI_leI (b := 15) (by omega) (by decide)).mp z
        refine rn_436 (fun _ => good _ f5 ⟨fun x => no1 x, fun _ _ => z, fun _ x => no2 x, fun _ x => no2 x⟩ ?_ ?_ ?_ ⟨fun x => no1 x, fun _ => ?_, fun _ _ => ⟨m5, m7, m8⟩, fun _ x => no2 x, fun _ x => no2 x⟩) (fun y => ?_)
        · rw [m 6 (by decide) (by decide)]; exact d6
        · rw [m 2 (by decide) (by decide)]; exact d2
        · rw [m 4 (by decide) (by decide), k4, ee]
        · rw [m 10 (by decide) (by decide)]; exact d10
        · rw [m 2 (by decide) (by decide)] at y
          exact absurd d2 y
      · have z : ¬ lx_r lx_di B L p - p ≤ 15 := fun y => z ((nI_leI (b := 15) (by omega) (by decide)).mpr y)
        refine l2_eq (rs_fail (by rw [m 2 (by decide) (by decide)]; exact d2)) (rn_436 (fun y => ?_) (fun _ => ?_))
        · simp only [l2_g, Nat.reduceEqDiff, reduceIte] at y
          exact absurd y (by decide)
        · refine bad _ (((f5.trans (l2_fr.set ⟨rfl, by omega, by omega⟩)).trans (l2_fr.set ⟨rfl, by omega, by omega⟩)).trans (l2_fr.set ⟨rfl, by omega, by omega⟩)) (fun v => z (v.2.1 e1 e2)) ?_ ?_ ?_ ?_
          · simp only [l2_g, Nat.reduceEqDiff, reduceIte]
            rw [m 6 (by decide) (by decide)]
            exact d6
          · simp only [l2_g, Nat.reduceEqDiff, reduceIte]
          · simp only [l2_g, Nat.reduceEqDiff, reduceIte]
          · simp only [l2_g, reduceIte]
    | false =>
      have no2 : ∀ {P : Prop}, lx_di (B p) = true → P := fun x => absurd (e2.symm.trans x) (by decide)
      rw [if_neg (show ¬ false = true by decide)]
      refine l2_ck rfl ?_
      by_cases e3 : B p = 34
      · refine l2_ck (by rw [e3]; rfl) (l2_lt ?_)
        rw [c4, nI_1]
        have f4 : l2_fr (fun b j => b = 950 ∧ j = 4) s3 (t_setI s3 950 4 (nI (p + 1))) := l2_fr.one
        have hT4 := hT3.fr f4 (by omega) (fun i => by omega)
        refine lx_rtext hT4 hpL (by simp only [l2_g, reduceIte]) (by simp only [l2_g, Nat.reduceEqDiff, reduceIte]; exact c6) (fun s4 k4 k5 => ?_)
        have ra := lx_r_all (g := lx_tx) (B := B) (L := L) (L - (p + 1)) (p + 1) rfl
        have rb := ra.2.1 (by omega)
        have ee : tk_e B L p = lx_r lx_tx B L (p + 1) + 1 := by unfold tk_e; rw [if_neg (by rw [e1]; decide), if_neg (by rw [e2]; decide), if_pos e3]
        have k6 : l2_fr (fun b j => b = 950 ∧ j = 4) s3 s4 := f4.trans (k5.mono (fun b j x => x))
        have d : ∀ j, j ≠ 4 → s4.1 950 j = s3.1 950 j := fun j hj => (k6 950 j (by omega)).1
        have t41 : p + 1 ≤ lx_t41 B L p ∧ lx_t41 B L p ≤ L := by unfold lx_t41; omega
        unfold k_X13_next_367
        rw [k4, d 6 (by decide), c6, pk_sub (by omega), show (1 : Int32) = nI 1 from rfl, pk_sub (by omega)]
        refine l2_lt (l2_lt ?_)
        have f5 : l2_fr rn_W s3 (t_setI (t_setI s4 950 7 (nI (lx_t41 B L p - p - 1))) 950 5 3) := ((k6.mono (fun b j x => by unfold rn_W; omega)).trans (l2_fr.set ⟨rfl, by omega, by omega⟩)).trans (l2_fr.set ⟨rfl, by omega, by omega⟩)
        have hT5 := hT3.fr f5 (by unfold rn_W; omega) (fun i => by unfold rn_W; omega)
        have m : ∀ j, j ≠ 4 → j ≠ 5 → j ≠ 7 → (t_setI (t_setI s4 950 7 (nI (lx_t41 B L p - p - 1))) 950 5 3).1 950 j = s3.1 950 j := fun j c a b => by
          rw [l2_g, if_neg a, l2_g, if_neg b]
          exact d j c
        have m4 : (t_setI (t_setI s4 950 7 (nI (lx_t41 B L p - p - 1))) 950 5 3).1 950 4 = nI (lx_t41 B L p) := by
          simp only [l2_g, Nat.reduceEqDiff, reduceIte]
          exact k4
        have m7 : (t_setI (t_setI s4 950 7 (nI (lx_t41 B L p - p - 1))) 950 5 3).1 950 7 = nI (lx_t41 B L p - p - 1) := by simp only [l2_g, Nat.reduceEqDiff, reduceIte]
        have m5 : (t_setI (t_setI s4 950 7 (nI (lx_t41 B L p - p - 1))) 950 5 3).1 950 5 = 3 := by simp only [l2_g, reduceIte]
        generalize t_setI (t_setI s4 950 7 (nI (lx_t41 B L p - p - 1))) 950 5 3 = s5 at *
        have n409 : ¬ (lx_r lx_tx B L (p + 1) < L ∧ B (lx_r lx_tx B L (p + 1)) = 34 ∧ lx_r lx_tx B L (p + 1) - (p + 1) ≤ 40) → t_hk (k_X13_next_409 s5) (rn_Q B L p s) := by
          intro nv
          unfold k_X13_next_409
          refine l2_eq (rs_fail (by rw [m 2 (by decide) (by decide) (by decide)]; exact c2)) ?_
          unfold k_X13_next_418
          refine l2_lt (rn_436 (fun y => ?_) (fun _ => ?_))
          · simp only [l2_g, Nat.reduceEqDiff, reduceIte] at y
            exact absurd y (by decide)
          · refine bad _ ((((f5.trans (l2_fr.set ⟨rfl, by omega, by omega⟩)).trans (l2_fr.set ⟨rfl, by omega, by omega⟩)).trans (l2_fr.set ⟨rfl, by omega, by omega⟩)).trans (l2_fr.set ⟨rfl, by omega, by omega⟩)) (fun v => nv (v.2.2.1 e1 e2 e3)) ?_ ?_ ?_ ?_
            · simp only [l2_g, Nat.reduceEqDiff, reduceIte]
              rw [m 6 (by decide) (by decide) (by decide)]
              exact c6
            · simp only [l2_g, Nat.reduceEqDiff, reduceIte]
            · simp only [l2_g, Nat.reduceEqDiff, reduceIte]
              rw [m 6 (by decide) (by decide) (by decide)]
              exact c6
            · simp only [l2_g, reduceIte]
        rw [m7]
        refine l2_if (fun z => ?_) (fun z => ?_)
        · have z : 40 < lx_t41 B L p - p - 1 := (nI_ltI (a := 40) (by decide) (by omega)).mp z
          refine n409 (fun v => ?_)
          unfold lx_t41 at z
          omega
        · have z : ¬ 40 < lx_t41 B L p - p - 1 := fun y => z ((nI_ltI (a := 40) (by decide) (by omega)).mpr y)
          have et : lx_t41 B L p = lx_r lx_tx B L (p + 1) := by
            unfold lx_t41 at z ⊢
            omega
          have pk2 : f_X13_peek (s5.1 950 4) s5 = some (if lx_r lx_tx B L (p + 1) < L then nI (B (lx_r lx_tx B L (p + 1))) else -1) := by
            rw [m4, et]
            exact lx_peek hT5 (by omega)
          refine l2_eq pk2 ?_
          by_cases y : lx_r lx_tx B L (p + 1) < L
          · rw [if_pos y]
            have b3 := (hT3.2.2 _ y).1
            refine l2_if (fun x => ?_) (fun x => n409 (fun v => x (by rw [v.2.1]; rfl)))
            have x : B (lx_r lx_tx B L (p + 1)) = 34 := (l2_eqI (c := 34) (by omega) (by decide)).mp x
            unfold k_X13_next_418
            rw [m4, et, nI_1]
            have val : lx_r lx_tx B L (p + 1) < L ∧ B (lx_r lx_tx B L (p + 1)) = 34 ∧ lx_r lx_tx B L (p + 1) - (p + 1) ≤ 40 := ⟨y, x, by omega⟩
            refine l2_lt (rn_436 (fun _ => good _ (f5.trans (l2_fr.set ⟨rfl, by omega, by omega⟩)) ⟨fun x => no1 x, fun _ x => no2 x, fun _ _ _ => val, fun _ _ x => absurd e3 x⟩ ?_ ?_ ?_ ⟨fun x => no1 x, fun _ => ?_, fun _ x => no2 x, fun _ _ _ => ⟨?_, ?_⟩, fun _ _ x => absurd e3 x⟩) (fun w => ?_))
            · simp only [l2_g, Nat.reduceEqDiff, reduceIte]
              rw [m 6 (by decide) (by decide) (by decide)]
              exact c6
            · simp only [l2_g, Nat.reduceEqDiff, reduceIte]
              rw [m 2 (by decide) (by decide) (by decide)]
              exact c2
            · simp only [l2_g, reduceIte]
              rw [ee]
            · simp only [l2_g, Nat.reduceEqDiff, reduceIte]
              rw [m 10 (by decide) (by decide) (by decide)]
              exact c10
            · simp only [l2_g, Nat.reduceEqDiff, reduceIte]
              exact m5
            · simp only [l2_g, Nat.reduceEqDiff, reduceIte]
              rw [m7, et]
              congr 1
            · simp only [l2_g, Nat.reduceEqDiff, reduceIte] at w
              rw [m 2 (by decide) (by decide) (by decide)] at w
              exact absurd c2 w
          · rw [if_neg y]
            exact l2_no (by decide) (n409 (fun v => y v.1))
      · refine l2_no (fun z => e3 ((l2_eqI (c := 34) (by omega) (by decide)).mp z)) ?_
        refine l2_bd _ (rs_read hT3 hpL c4 c6 c2) (fun s4 k => ?_)
        obtain ⟨k5, k4, k9, k2, kf⟩ := k
        have ee : tk_e B L p = lx_se B L p := by unfold tk_e; rw [if_neg (by rw [e1]; decide), if_neg (by rw [e2]; decide), if_neg e3]
        have f4 : l2_fr rn_W s3 s4 := kf.mono (fun b j x => by unfold rs_W at x; unfold rn_W; omega)
        have d : ∀ j, j = 6 ∨ j = 10 → s4.1 950 j = s3.1 950 j := fun j hj => (kf 950 j (by unfold rs_W; omega)).1
        by_cases v5 : lx_so B L p = 5
        · rw [if_pos v5] at k2
          refine rn_436 (fun y => ?_) (fun _ => ?_)
          · rw [k2.1] at y
            exact absurd y (by decide)
          · refine bad _ (f4.trans (l2_fr.set ⟨rfl, by omega, by omega⟩)) (fun v => v.2.2.2 e1 e2 e3 v5) ?_ ?_ ?_ ?_
            · simp only [l2_g, Nat.reduceEqDiff, reduceIte]
              rw [d 6 (by omega)]
              exact c6
            · simp only [l2_g, Nat.reduceEqDiff, reduceIte]
              exact k2.1
            · simp only [l2_g, Nat.reduceEqDiff, reduceIte]
              exact k2.2
            · simp only [l2_g, reduceIte]
        · rw [if_neg v5] at k2
          refine rn_436 (fun _ => good _ f4 ⟨fun x => no1 x, fun _ x => no2 x, fun _ _ x => absurd x e3, fun _ _ _ => v5⟩ ?_ k2 ?_ ⟨fun x => no1 x, fun _ => ?_, fun _ x => no2 x, fun _ _ x => absurd x e3, fun _ _ _ => ⟨k5, k9⟩⟩) (fun y => absurd k2 y)
          · rw [d 6 (by omega)]; exact c6
          · rw [k4, ee]
          · rw [d 10 (by omega)]; exact c10
