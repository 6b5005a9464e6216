/-! Level 2: the class's reading of one token. -/
theorem wt_I.fr {P : Nat → Nat → Prop} {s s' : t_S} {W : Nat} {V sl : Nat → Nat} {H : Nat → Int64} {T : Nat → Int32} (h : wt_I s W V sl H T) (f : l2_fr P s s') (w1 : ¬ P 1 13) (w2 : ∀ b i, 8 ≤ b → b ≤ 11 → ¬ P b i) : wt_I s' W V sl H T := by
  obtain ⟨g1, g2, g3, g4, g5⟩ := h
  refine ⟨g1, ?_, fun j hj => ?_, fun i hi => ?_, g5⟩
  · rw [(f 1 13 w1).1]; exact g2
  · rw [(f 11 j (w2 11 j (by omega) (by omega))).1]; exact g3 j hj
  · rw [(f 10 i (w2 10 i (by omega) (by omega))).1, (f 8 i (w2 8 i (by omega) (by omega))).2.1, (f 9 i (w2 9 i (by omega) (by omega))).1]; exact g4 i hi
/-- where the token at p ends -/
def tk_e (B : Nat → Nat) (L p : Nat) : Nat := if lx_le (B p) = true then lx_r lx_wd B L p else if lx_di (B p) = true then lx_r lx_di B L p else if B p = 34 then lx_r lx_tx B L (p + 1) + 1 else lx_se B L p
def tk_n (B : Nat → Nat) (L p : Nat) : Nat := lx_r lx_wd B L p - p
/-- what the class tells of the token at p: its sort and its number -/
def tk_ok (B : Nat → Nat) (L W : Nat) (H : Nat → Int64) (T : Nat → Int32) (p : Nat) (so : Int32) (te : Int64) : Prop :=
  (lx_le (B p) = true → (tk_n B L p ≤ 12 ∧ ∃ i, i < W ∧ H i = wk_h B p (tk_n B L p) ∧ T i = wk_t B p (tk_n B L p) ∧ te = lN i ∧ so = nI (if i < 66 then 200 + i else 1)) ∨ (12 < tk_n B L p ∧ so = 5)) ∧
  (lx_le (B p) = false → lx_di (B p) = true → so = (if lx_r lx_di B L p - p ≤ 15 then 2 else 5) ∧ te = lN (lx_num B p (min 15 (lx_r lx_di B L p - p)))) ∧
  (lx_le (B p) = false → lx_di (B p) = false → B p = 34 → so = (if lx_r lx_tx B L (p + 1) < L ∧ B (lx_r lx_tx B L (p + 1)) = 34 ∧ lx_r lx_tx B L (p + 1) - (p + 1) ≤ 40 then 3 else 5) ∧ te = lN (lx_r lx_tx B L (p + 1) - (p + 1))) ∧
  (lx_le (B p) = false → lx_di (B p) = false → B p ≠ 34 → so = nI (lx_so B L p))
theorem tk_e_gt {B : Nat → Nat} {L p : Nat} (hp : p < L) : p < tk_e B L p ∧ tk_e B L p ≤ L + 1 := by
  unfold tk_e
  have a1 := lx_r_all (g := lx_wd) (B := B) (L := L) (L - (p + 1)) (p + 1) rfl
  have a2 := lx_r_all (g := lx_di) (B := B) (L := L) (L - (p + 1)) (p + 1) rfl
  have a3 := lx_r_all (g := lx_tx) (B := B) (L := L) (L - (p + 1)) (p + 1) rfl
  split
  · rename_i h
    rw [lx_r_go hp (by unfold lx_wd; rw [h]; rfl)]
    have := a1.2.1 (by omega)
    omega
  · split
    · rename_i h
      rw [lx_r_go hp h]
      have := a2.2.1 (by omega)
      omega
    · split
      · have := a3.2.1 (by omega)
        omega
      · unfold lx_se
        split <;> omega
theorem tk_ok.mono {B : Nat → Nat} {L W W' p : Nat} {H H' : Nat → Int64} {T T' : Nat → Int32} {so : Int32} {te : Int64} (h : tk_ok B L W H T p so te) (hW : W ≤ W') (hH : ∀ i, i < W → H' i = H i ∧ T' i = T i) : tk_ok B L W' H' T' p so te := by
  obtain ⟨h1, h2⟩ := h
  refine ⟨fun c => ?_, h2⟩
  rcases h1 c with ⟨a, i, b, e, f, g⟩ | a
  · refine Or.inl ⟨a, i, by omega, ?_, ?_, g⟩
    · rw [(hH i b).1]; exact e
    · rw [(hH i b).2]; exact f
  · exact Or.inr a
def lx_Wt (b j : Nat) : Prop := (b = 1 ∧ (j = 2 ∨ j = 10 ∨ j = 13)) ∨ (6 ≤ b ∧ b ≤ 11)
/-- what is known behind a token: the table has grown by one word at most -/
def tk_t (s s' : t_S) (B : Nat → Nat) (L W : Nat) (H : Nat → Int64) (T : Nat → Int32) (p W' : Nat) (V' sl' : Nat → Nat) (H' : Nat → Int64) (T' : Nat → Int32) : Prop := wt_I s' W' V' sl' H' T' ∧ (∀ i, i < W → H' i = H i ∧ T' i = T i ∧ s'.1 6 i = s.1 6 i ∧ s'.1 7 i = s.1 7 i) ∧ (W' = W ∨ (W' = W + 1 ∧ lx_le (B p) = true ∧ tk_n B L p ≤ 12 ∧ H' W = wk_h B p (tk_n B L p) ∧ T' W = wk_t B p (tk_n B L p) ∧ s'.1 6 W = 0 ∧ s'.1 7 W = 0)) ∧ l2_fr lx_Wt s s'
theorem tk_wd {B : Nat → Nat} {L p i : Nat} {s : t_S} (hT : tx_Tc s B L) (h : lx_r lx_wd B L p - p > i) : 0 < B (p + i) ∧ B (p + i) < 256 := by
  obtain ⟨a1, a2, a3, a4⟩ := lx_r_all (g := lx_wd) (B := B) (L := L) (L - p) p rfl
  obtain ⟨c, d⟩ := a3 (p + i) (by omega) (by omega)
  refine ⟨?_, (hT.2.2 _ d).1⟩
  unfold lx_wd lx_le lx_di at c
  simp only [Bool.or_eq_true, decide_eq_true_eq, beq_iff_eq] at c
  omega
theorem tk_read {s : t_S} {B : Nat → Nat} {L p W : Nat} {V sl : Nat → Nat} {H : Nat → Int64} {T : Nat → Int32} (hT : tx_Tc s B L) (hp : p < L) (h : s.1 1 2 = nI p) (h0 : s.2.1 1 10 = 0) (hI : wt_I s W V sl H T) (hW : W < 8000) : t_hk (f_X2_readToken (nI (B p)) s) (fun r => r.2.1 1 2 = nI (tk_e B L p) ∧ ∃ W' V' sl' H' T', tk_t s r.2 B L W H T p W' V' sl' H' T' ∧ tk_ok B L W' H' T' p r.1 (r.2.2.1 1 10)) := by
  have hL := hT.1
  obtain ⟨b1, b2⟩ := hT.2.2 p hp
  have keep : ∀ s', l2_fr lx_Wn s s' → tk_t s s' B L W H T p W V sl H T := fun s' f => by
    refine ⟨hI.fr f (by unfold lx_Wn; omega) (fun b i _ _ => by unfold lx_Wn; omega), fun i _ => ⟨rfl, rfl, (f 6 i (by unfold lx_Wn; omega)).1, (f 7 i (by unfold lx_Wn; omega)).1⟩, Or.inl rfl, f.mono (fun b j x => by unfold lx_Wn at x; unfold lx_Wt; omega)⟩
  cases e1 : lx_le (B p) with
  | true =>
    unfold f_X2_readToken
    rw [lx_isL b1, e1, if_pos rfl]
    refine l2_no l2_10 ?_
    have ee : tk_e B L p = lx_r lx_wd B L p := by unfold tk_e; rw [if_pos e1]
    rw [ee]
    obtain ⟨a1, a2, a3, a4⟩ := lx_r_all (g := lx_wd) (B := B) (L := L) (L - p) p rfl
    have a2 := a2 (by omega)
    refine l2_bd (fun r => r.2.1 1 2 = nI (lx_r lx_wd B L p) ∧ ∃ W' V' sl' H' T', tk_t s r.2 B L W H T p W' V' sl' H' T' ∧ tk_ok B L W' H' T' p r.1 (r.2.2.1 1 10)) (lx_cword hT (by omega) h (fun s1 g1 g2 => ?_)) (fun r hr => l2_sm hr)
    have en : lx_r lx_wd B L p = p + tk_n B L p := by unfold tk_n; omega
    have g3 : l2_fr lx_Wn s s1 := g2.mono (fun b j x => by unfold lx_Wa at x; unfold lx_Wn; omega)
    have hT1 := hT.fr g2 (by unfold lx_Wa; omega) (fun i => by unfold lx_Wa; omega)
    have hI1 := hI.fr g2 (by unfold lx_Wa; omega) (fun b i _ _ => by unfold lx_Wa; omega)
    unfold k_X2_readWord_81
    rw [g1, pk_sub a1]
    refine l2_if (fun c => ?_) (fun c => ?_)
    · have c : tk_n B L p ≤ 12 := (nI_leI (b := 12) (by omega) (by decide)).mp c
      rw [en]
      have fin : ∀ (i W' : Nat) (V' sl' : Nat → Nat) (H' : Nat → Int64) (T' : Nat → Int32) (s2 : t_S), i < W' → W' ≤ 8000 → H' i = wk_h B p (tk_n B L p) → T' i = wk_t B p (tk_n B L p) → tk_t s s2 B L W H T p W' V' sl' H' T' → s2.1 1 2 = nI (p + tk_n B L p) → t_hk (t_let (t_setJ s2 1 10 (nI i).toInt64) (fun s1 => if (66 : Int32) ≤ nI i then (some ((1 : Int32), s1)) else (some (((200 : Int32) + nI i), s1)))) (fun r => r.2.1 1 2 = nI (p + tk_n B L p) ∧ ∃ W' V' sl' H' T', tk_t s r.2 B L W H T p W' V' sl' H' T' ∧ tk_ok B L W' H' T' p r.1 (r.2.2.1 1 10)) := by
        intro i W' V' sl' H' T' s2 hi hW2 eH eT ht hat
        have f5 : l2_fr lx_Wn s2 (t_setJ s2 1 10 (nI i).toInt64) := l2_fr.setJ ⟨rfl, Or.inr rfl⟩
        have ht2 : tk_t s (t_setJ s2 1 10 (nI i).toInt64) B L W H T p W' V' sl' H' T' := by
          obtain ⟨t1, t2, t3, t4⟩ := ht
          exact ⟨t1.fr f5 (by unfold lx_Wn; omega) (fun b i _ _ => by unfold lx_Wn; omega), t2, t3, t4.trans (f5.mono (fun b j x => by unfold lx_Wn at x; unfold lx_Wt; omega))⟩
        have te : (t_setJ s2 1 10 (nI i).toInt64).2.1 1 10 = lN i := by
          rw [l2_jJ, mj_up_eq]
          exact nI_l (by omega)
        have ok : ∀ so : Int32, so = nI (if i < 66 then 200 + i else 1) → tk_ok B L W' H' T' p so ((t_setJ s2 1 10 (nI i).toInt64).2.1 1 10) := fun so hso => ⟨fun _ => Or.inl ⟨c, i, hi, eH, eT, te, hso⟩, fun x => absurd (e1.symm.trans x) (by decide), fun x => absurd (e1.symm.trans x) (by decide), fun x => absurd (e1.symm.trans x) (by decide)⟩
        refine l2_lt ?_
        refine l2_if (fun z => ?_) (fun z => ?_)
        · have z : 66 ≤ i := (nI_leI (a := 66) (by decide) (by omega)).mp z
          exact l2_sm ⟨hat, W', V', sl', H', T', ht2, ok _ (by rw [if_neg (by omega)]; rfl)⟩
        · have z : ¬ 66 ≤ i := fun y => z ((nI_leI (a := 66) (by decide) (by omega)).mpr y)
          refine l2_sm ⟨hat, W', V', sl', H', T', ht2, ok _ ?_⟩
          rw [if_pos (by omega), show (200 : Int32) = nI 200 from rfl, nI_add]
      refine l2_bd _ (wk_wordOf hT1 c (by omega) hI1 hW) (fun r hr => ?_)
      rcases hr with ⟨i, hi, eH, eT, rfl⟩ | ⟨nf, r1, r2, r3, r4, r5, j, r6⟩
      · exact fin i W V sl H T s1 hi (by omega) eH eT (keep s1 g3) (by rw [g1, en])
      · rw [r1]
        have hat : r.2.1 1 2 = nI (p + tk_n B L p) := by rw [(r2 1 2 (by unfold wt_W; omega)).1, g1, en]
        refine fin W (W + 1) _ _ _ _ r.2 (by omega) (by omega) (mj_up_eq _ _ _) (mj_up_eq _ _ _) ⟨r6, fun i hi => ?_, Or.inr ⟨rfl, e1, c, mj_up_eq _ _ _, mj_up_eq _ _ _, r3, r4⟩, ?_⟩ hat
        · have ne : i ≠ W := by omega
          obtain ⟨k1, k2⟩ := r5 i hi
          refine ⟨mj_up_ne _ _ ne, mj_up_ne _ _ ne, k1.trans (g3 6 i (by unfold lx_Wn; omega)).1, k2.trans (g3 7 i (by unfold lx_Wn; omega)).1⟩
        · exact (g3.mono (fun b j x => by unfold lx_Wn at x; unfold lx_Wt; omega)).trans (r2.mono (fun b j x => by unfold wt_W at x; unfold lx_Wt; omega))
    · have c : 12 < tk_n B L p := by
        have : ¬ tk_n B L p ≤ 12 := fun y => c ((nI_leI (b := 12) (by omega) (by decide)).mpr y)
        omega
      exact l2_sm ⟨g1, W, V, sl, H, T, keep s1 g3, fun _ => Or.inr ⟨c, rfl⟩, fun x => absurd (e1.symm.trans x) (by decide), fun x => absurd (e1.symm.trans x) (by decide), fun x => absurd (e1.symm.trans x) (by decide)⟩
  | false =>
    cases e2 : lx_di (B p) with
    | true =>
      unfold f_X2_readToken
      rw [lx_isL b1, e1, if_neg (show ¬ false = true by decide)]
      refine l2_ck rfl ?_
      rw [lx_isD b1, e2, if_pos rfl]
      refine l2_no l2_10 ?_
      have ee : tk_e B L p = lx_r lx_di B L p := by unfold tk_e; rw [e1, if_neg (by decide), if_pos e2]
      rw [ee]
      refine l2_bd _ (lx_cnum hT (by omega) h h0) (fun r hr => l2_sm ⟨hr.2.1, W, V, sl, H, T, keep _ hr.2.2.2, ?_⟩)
      exact ⟨fun x => absurd (e1.symm.trans x) (by decide), fun _ _ => ⟨hr.1, hr.2.2.1⟩, fun _ x => absurd (e2.symm.trans x) (by decide), fun _ x => absurd (e2.symm.trans x) (by decide)⟩
    | false =>
      by_cases e3 : B p = 34
      · unfold f_X2_readToken
        rw [lx_isL b1, e1, if_neg (show ¬ false = true by decide)]
        refine l2_ck rfl ?_
        rw [lx_isD b1, e2, if_neg (show ¬ false = true by decide)]
        refine l2_ck rfl (l2_ck (by rw [e3]; rfl) ?_)
        have ee : tk_e B L p = lx_r lx_tx B L (p + 1) + 1 := by unfold tk_e; rw [e1, e2, if_neg (by decide), if_neg (by decide), if_pos e3]
        rw [ee]
        refine l2_bd _ (lx_ctext hT hp h) (fun r hr => l2_sm ⟨hr.2.1, W, V, sl, H, T, keep _ hr.2.2.2, ?_⟩)
        exact ⟨fun x => absurd (e1.symm.trans x) (by decide), fun _ x => absurd (e2.symm.trans x) (by decide), fun _ _ _ => ⟨hr.1, hr.2.2.1⟩, fun _ _ x => absurd e3 x⟩
      · have ee : tk_e B L p = lx_se B L p := by unfold tk_e; rw [e1, e2, if_neg (by decide), if_neg (by decide), if_neg e3]
        rw [ee]
        refine l2_imp (lx_csign hT hp h e1 e2 e3) (fun r hr => ⟨hr.2.1, W, V, sl, H, T, keep _ (hr.2.2.mono (fun b j x => by unfold lx_Wa at x; unfold lx_Wn; omega)), ?_⟩)
        exact ⟨fun x => absurd (e1.symm.trans x) (by decide), fun _ x => absurd (e2.symm.trans x) (by decide), fun _ _ x => absurd x e3, fun _ _ _ => hr.1⟩
