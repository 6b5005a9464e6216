/-! Level 2: the reference's runs of signs: words, numbers, texts. -/
noncomputable def lx_E63 (s : t_S) : Option t_S := t_let (t_setI s 950 7 ((s.1 950 4) - (s.1 950 6))) (fun s1 => t_let (t_setI s1 950 5 (1 : Int32)) (fun s2 => (f_X13_reserved s2).bind (fun r6 => t_let (t_setI s2 950 10 r6) (fun s3 => if (s3.1 950 7) ≤ (12 : Int32) then (k_X13_next_436 s3) else ((f_X13_fail (1 : Int32) (s3.1 950 6) s3).bind (fun r7 => k_X13_next_436 r7))))))
theorem lx_rword {s : t_S} {B : Nat → Nat} {L p : Nat} {Q : t_S → Prop} (hT : tx_Tr s B L) (hp : p ≤ L) (h : s.1 950 4 = nI p) (K : ∀ s', s'.1 950 4 = nI (lx_r lx_wd B L p) → l2_fr lx_Wr s s' → t_hk (lx_E63 s') Q) : t_hk (t_loop b_X13_next_63 t_N s) Q := by
  have hL := hT.1
  refine l2_lp (fun k s1 => ∃ q, q + k = L ∧ s1.1 950 4 = nI q ∧ lx_r lx_wd B L q = lx_r lx_wd B L p ∧ l2_fr lx_Wr s s1) ?_ (m := L - p) (Nat.lt_trans (show L - p < 1000000000 by omega) l2_N) ⟨p, by omega, h, rfl, l2_fr.rf⟩
  rintro k s1 ⟨q, hk, h1, h2, h3⟩
  have hT1 := hT.fr h3 (by unfold lx_Wr; omega) (fun i => by unfold lx_Wr; omega)
  show t_hk (k_X13_next_63 s1) _
  have fin : q = lx_r lx_wd B L p → t_hk ((lx_E63 s1).map Sum.inr) (l2_nx (fun z => ∃ j, j < k ∧ ∃ q, q + j = L ∧ z.1 950 4 = nI q ∧ lx_r lx_wd B L q = lx_r lx_wd B L p ∧ l2_fr lx_Wr s z) Q) := fun e => l2_mp (K s1 (by rw [← e]; exact h1) h3)
  have pk : f_X13_peek (s1.1 950 4) s1 = some (if q < L then nI (B q) else -1) := by
    rw [h1]
    exact lx_peek hT1 (by omega)
  unfold k_X13_next_63
  refine l2_eq pk ?_
  by_cases c : q < L
  · obtain ⟨b1, b2⟩ := hT1.2.2 q c
    have go : lx_wd (B q) = true → t_hk (k_X13_next_104 s1) (l2_nx (fun z => ∃ j, j < k ∧ ∃ q, q + j = L ∧ z.1 950 4 = nI q ∧ lx_r lx_wd B L q = lx_r lx_wd B L p ∧ l2_fr lx_Wr s z) Q) := by
      intro e
      unfold k_X13_next_104
      rw [h1, nI_1]
      refine l2_lt (l2_sm ⟨k - 1, by omega, q + 1, by omega, ?_, ?_, h3.trans l2_fr.one⟩)
      · rw [l2_sI, mj_up_eq]
      · rw [← lx_r_go c e]
        exact h2
    rw [if_pos c, lx_rL b1]
    cases e1 : lx_le (B q) with
    | true =>
      rw [if_pos rfl]
      exact l2_no l2_10 (go (by unfold lx_wd; rw [e1]; rfl))
    | false =>
      rw [if_neg (show ¬ false = true by decide)]
      refine l2_ck rfl ?_
      refine l2_eq pk ?_
      rw [if_pos c, lx_rD b1]
      cases e2 : lx_di (B q) with
      | true =>
        rw [if_pos rfl]
        exact l2_no l2_10 (go (by unfold lx_wd; rw [e1, e2]; rfl))
      | false =>
        rw [if_neg (show ¬ false = true by decide)]
        refine l2_ck rfl ?_
        refine l2_eq pk ?_
        rw [if_pos c]
        refine l2_if (fun z => ?_) (fun z => ?_)
        · have z := (l2_eqI (c := 95) (by omega) (by decide)).mp z
          exact go (by unfold lx_wd; rw [e1, e2, z]; rfl)
        · have z : B q ≠ 95 := fun y => z ((l2_eqI (c := 95) (by omega) (by decide)).mpr y)
          exact fin (by rw [← h2, lx_r_no c (by unfold lx_wd; rw [e1, e2, beq_eq_false_iff_ne.mpr z]; rfl)])
  · rw [if_neg c, lx_rLm.1]
    refine l2_ck rfl ?_
    refine l2_eq pk ?_
    rw [if_neg c, lx_rLm.2]
    refine l2_ck rfl ?_
    refine l2_eq pk ?_
    rw [if_neg c]
    exact l2_no (by decide) (fin (by rw [← h2, lx_r_end (by omega)]))
def lx_Wrn (b j : Nat) : Prop := b = 950 ∧ (j = 4 ∨ j = 8)
noncomputable def lx_E176 (s : t_S) : Option t_S := t_let (t_setI s 950 7 ((s.1 950 4) - (s.1 950 6))) (fun s1 => t_let (t_setI s1 950 5 (2 : Int32)) (fun s2 => if (s2.1 950 7) ≤ (15 : Int32) then (k_X13_next_436 s2) else ((f_X13_fail (1 : Int32) (s2.1 950 6) s2).bind (fun r3 => k_X13_next_436 r3))))
theorem lx_rnum {s : t_S} {B : Nat → Nat} {L p : Nat} {Q : t_S → Prop} (hT : tx_Tr s B L) (hp : p ≤ L) (h : s.1 950 4 = nI p) (hb : s.1 950 6 = nI p) (h0 : s.2.1 950 8 = 0) (K : ∀ s', s'.1 950 4 = nI (lx_r lx_di B L p) → s'.2.1 950 8 = lN (lx_num B p (min 15 (lx_r lx_di B L p - p))) → l2_fr lx_Wrn s s' → t_hk (lx_E176 s') Q) : t_hk (t_loop b_X13_next_176 t_N s) Q := by
  have hL := hT.1
  refine l2_lp (fun k s1 => ∃ q, q + k = L ∧ p ≤ q ∧ s1.1 950 4 = nI q ∧ s1.2.1 950 8 = lN (lx_num B p (min 15 (q - p))) ∧ lx_r lx_di B L q = lx_r lx_di B L p ∧ l2_fr lx_Wrn s s1) ?_ (m := L - p) (Nat.lt_trans (show L - p < 1000000000 by omega) l2_N) ⟨p, by omega, Nat.le_refl _, h, by rw [Nat.sub_self, h0]; rfl, rfl, l2_fr.rf⟩
  rintro k s1 ⟨q, hk, hpq, h1, h4, h2, h3⟩
  have hT1 := hT.fr h3 (by unfold lx_Wrn; omega) (fun i => by unfold lx_Wrn; omega)
  have hb1 : s1.1 950 6 = nI p := by rw [(h3 950 6 (by unfold lx_Wrn; omega)).1]; exact hb
  show t_hk (k_X13_next_176 s1) _
  have fin : q = lx_r lx_di B L p → t_hk ((lx_E176 s1).map Sum.inr) (l2_nx (fun z => ∃ j, j < k ∧ ∃ q, q + j = L ∧ p ≤ q ∧ z.1 950 4 = nI q ∧ z.2.1 950 8 = lN (lx_num B p (min 15 (q - p))) ∧ lx_r lx_di B L q = lx_r lx_di B L p ∧ l2_fr lx_Wrn s z) Q) := fun e => l2_mp (K s1 (by rw [← e]; exact h1) (by rw [← e]; exact h4) h3)
  have pk : f_X13_peek (s1.1 950 4) s1 = some (if q < L then nI (B q) else -1) := by
    rw [h1]
    exact lx_peek hT1 (by omega)
  unfold k_X13_next_176
  refine l2_eq pk ?_
  by_cases c : q < L
  · obtain ⟨b1, b2⟩ := hT1.2.2 q c
    rw [if_pos c, lx_rD b1]
    cases e : lx_di (B q) with
    | false =>
      rw [if_neg (show ¬ false = true by decide)]
      exact l2_ck rfl (fin (by rw [← h2, lx_r_no c e]))
    | true =>
      rw [if_pos rfl]
      refine l2_no l2_10 ?_
      have eb : 48 ≤ B q ∧ B q ≤ 57 := by
        simp only [lx_di, decide_eq_true_eq] at e
        exact e
      have go : ∀ v : Int64, v = lN (lx_num B p (min 15 (q + 1 - p))) → t_hk (k_X13_next_235 v s1) (l2_nx (fun z => ∃ j, j < k ∧ ∃ q, q + j = L ∧ p ≤ q ∧ z.1 950 4 = nI q ∧ z.2.1 950 8 = lN (lx_num B p (min 15 (q - p))) ∧ lx_r lx_di B L q = lx_r lx_di B L p ∧ l2_fr lx_Wrn s z) Q) := by
        rintro v rfl
        unfold k_X13_next_235
        refine l2_lt ?_
        rw [l2_jI, h1, nI_1]
        refine l2_lt (l2_sm ⟨k - 1, by omega, q + 1, by omega, by omega, ?_, ?_, ?_, (h3.trans (l2_fr.setJ ⟨rfl, Or.inr rfl⟩)).trans (l2_fr.set ⟨rfl, Or.inl rfl⟩)⟩)
        · rw [l2_sI, mj_up_eq]
        · show (t_setJ s1 950 8 _).2.1 950 8 = _
          rw [l2_jJ, mj_up_eq]
        · rw [← lx_r_go c e]
          exact h2
      rw [h1, hb1, pk_sub hpq]
      refine l2_if (fun z => ?_) (fun z => ?_)
      · have z : 15 ≤ q - p := (nI_leI (a := 15) (by decide) (by omega)).mp z
        exact go _ (by rw [h4, show min 15 (q + 1 - p) = min 15 (q - p) by omega])
      · have z : ¬ 15 ≤ q - p := fun y => z ((nI_leI (a := 15) (by decide) (by omega)).mpr y)
        refine l2_ck (l2_ix (by omega) (by decide)) (go _ ?_)
        rw [nI_clamp (by omega), b2, h4, nI_l (by omega), show (10 : Int64) = lN 10 from rfl, show (48 : Int64) = lN 48 from rfl, lN_mul, lN_add, lN_sub (by omega), show min 15 (q + 1 - p) = min 15 (q - p) + 1 by omega]
        show _ = lN (lx_num B p (min 15 (q - p)) * 10 + (B (p + min 15 (q - p)) - 48))
        rw [show p + min 15 (q - p) = q by omega]
        congr 1
        omega
  · rw [if_neg c, lx_rLm.2]
    exact l2_ck rfl (fin (by rw [← h2, lx_r_end (by omega)]))
/-- where the reference stops within a text: at its end, or behind 41 signs -/
def lx_t41 (B : Nat → Nat) (L p : Nat) : Nat := min (lx_r lx_tx B L (p + 1)) (p + 42)
theorem lx_rin {x a b : Nat} {s : t_S} (h : x < 2 ^ 30) (ha : a < 2 ^ 30) (hb : b < 2 ^ 30) : f_X13_in (nI x).toInt64 (lN a) (lN b) s = if a ≤ x ∧ x ≤ b then 1 else 0 := by
  unfold f_X13_in
  have c1 : lg_cmp (nI x).toInt64 (lN a) < 0 ↔ x < a := by
    rw [t_cmp_lt, l2_s64, nI_toInt (by omega), lN_toInt (by omega)]
    omega
  have c2 : 0 < lg_cmp (nI x).toInt64 (lN b) ↔ b < x := by
    rw [t_cmp_gt, l2_s64, nI_toInt (by omega), lN_toInt (by omega)]
    omega
  simp only [c1, c2]
  repeat' split
  all_goals first | rfl | omega
theorem lx_rtext {s : t_S} {B : Nat → Nat} {L p : Nat} {Q : t_S → Prop} (hT : tx_Tr s B L) (hp : p < L) (h : s.1 950 4 = nI (p + 1)) (hb : s.1 950 6 = nI p) (K : ∀ s', s'.1 950 4 = nI (lx_t41 B L p) → l2_fr lx_Wr s s' → t_hk (k_X13_next_367 s') Q) : t_hk (t_loop b_X13_next_306 t_N s) Q := by
  have hL := hT.1
  have hr := lx_r_all (g := lx_tx) (B := B) (L := L) (L - (p + 1)) (p + 1) rfl
  refine l2_lp (fun k s1 => ∃ q, q + k = L ∧ p + 1 ≤ q ∧ q ≤ p + 42 ∧ s1.1 950 4 = nI q ∧ lx_r lx_tx B L q = lx_r lx_tx B L (p + 1) ∧ l2_fr lx_Wr s s1) ?_ (m := L - (p + 1)) (Nat.lt_trans (show L - (p + 1) < 1000000000 by omega) l2_N) ⟨p + 1, by omega, Nat.le_refl _, by omega, h, rfl, l2_fr.rf⟩
  rintro k s1 ⟨q, hk, hpq, hq42, h1, h2, h3⟩
  have hT1 := hT.fr h3 (by unfold lx_Wr; omega) (fun i => by unfold lx_Wr; omega)
  have hb1 : s1.1 950 6 = nI p := by rw [(h3 950 6 (by unfold lx_Wr; omega)).1]; exact hb
  have hqe : q ≤ lx_r lx_tx B L (p + 1) := by
    have := (lx_r_all (g := lx_tx) (B := B) (L := L) (L - q) q rfl).1
    omega
  show t_hk (k_X13_next_306 s1) _
  have fin : q = lx_t41 B L p → t_hk ((k_X13_next_367 s1).map Sum.inr) (l2_nx (fun z => ∃ j, j < k ∧ ∃ q, q + j = L ∧ p + 1 ≤ q ∧ q ≤ p + 42 ∧ z.1 950 4 = nI q ∧ lx_r lx_tx B L q = lx_r lx_tx B L (p + 1) ∧ l2_fr lx_Wr s z) Q) := fun e => l2_mp (K s1 (by rw [← e]; exact h1) h3)
  unfold k_X13_next_306
  rw [h1]
  refine l2_eq (lx_peek hT1 (by omega)) ?_
  by_cases c : q < L
  · obtain ⟨b1, b2⟩ := hT1.2.2 q c
    rw [if_pos c, show (32 : Int64) = lN 32 from rfl, show (126 : Int64) = lN 126 from rfl, lx_rin (by omega) (by decide) (by decide)]
    have out : lx_tx (B q) = false → q = lx_t41 B L p := fun e => by
      have e2 : q = lx_r lx_tx B L (p + 1) := by rw [← h2, lx_r_no c e]
      unfold lx_t41
      omega
    have inv : lx_tx (B q) = true ↔ (32 ≤ B q ∧ B q ≤ 126) ∧ ¬ B q = 34 := by
      simp only [lx_tx, Bool.and_eq_true, decide_eq_true_eq, Bool.not_eq_true', beq_eq_false_iff_ne]
    have inf : ¬ ((32 ≤ B q ∧ B q ≤ 126) ∧ ¬ B q = 34) → lx_tx (B q) = false := fun z => by
      cases e : lx_tx (B q) with
      | false => rfl
      | true => exact absurd (inv.mp e) z
    by_cases d : 32 ≤ B q ∧ B q ≤ 126
    · rw [if_pos d]
      refine l2_no l2_10 ?_
      refine l2_eq (lx_peek hT1 (by omega)) ?_
      rw [if_pos c]
      refine l2_if (fun f => ?_) (fun f => ?_)
      · have f := (l2_eqI (c := 34) (by omega) (by decide)).mp f
        exact fin (out (inf (by omega)))
      have f : B q ≠ 34 := fun z => f ((l2_eqI (c := 34) (by omega) (by decide)).mpr z)
      have e := inv.mpr ⟨d, f⟩
      rw [hb1, pk_sub (by omega)]
      refine l2_if (fun z => ?_) (fun z => ?_)
      · have z : 41 < q - p := (nI_ltI (a := 41) (by decide) (by omega)).mp z
        refine fin ?_
        unfold lx_t41
        omega
      · have z : ¬ 41 < q - p := fun y => z ((nI_ltI (a := 41) (by decide) (by omega)).mpr y)
        rw [nI_1]
        refine l2_lt (l2_sm ⟨k - 1, by omega, q + 1, by omega, by omega, by omega, ?_, ?_, h3.trans l2_fr.one⟩)
        · rw [l2_sI, mj_up_eq]
        · rw [← lx_r_go c e]
          exact h2
    · rw [if_neg d]
      exact l2_ck rfl (fin (out (inf (by omega))))
  · rw [if_neg c]
    have e : f_X13_in ((-1 : Int32)).toInt64 (32 : Int64) (126 : Int64) s1 = 0 := by
      unfold f_X13_in
      rw [if_pos (by decide)]
    rw [e]
    refine l2_ck rfl (fin ?_)
    have e2 : q = lx_r lx_tx B L (p + 1) := by rw [← h2, lx_r_end (by omega)]
    unfold lx_t41
    omega
