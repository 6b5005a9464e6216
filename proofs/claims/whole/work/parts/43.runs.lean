/-! Level 2: runs of signs: words, numbers, texts; the class's reading of one token. -/
def lx_rf (g : Nat → Bool) (B : Nat → Nat) (L : Nat) : Nat → Nat → Nat
  | 0, p => p
  | f + 1, p => if p < L then (if g (B p) = true then lx_rf g B L f (p + 1) else p) else p
/-- where a run of such signs ends -/
def lx_r (g : Nat → Bool) (B : Nat → Nat) (L : Nat) (p : Nat) : Nat := lx_rf g B L (L - p) p
theorem lx_r_eq (g : Nat → Bool) (B : Nat → Nat) (L : Nat) (p : Nat) : lx_r g B L p = if p < L then (if g (B p) = true then lx_r g B L (p + 1) else p) else p := by
  unfold lx_r
  by_cases h : p < L
  · rw [show L - p = (L - (p + 1)) + 1 by omega]
    rfl
  · rw [show L - p = 0 by omega, if_neg h]
    rfl
theorem lx_r_end {g : Nat → Bool} {B : Nat → Nat} {L p : Nat} (h : L ≤ p) : lx_r g B L p = p := by rw [lx_r_eq, if_neg (by omega)]
theorem lx_r_go {g : Nat → Bool} {B : Nat → Nat} {L p : Nat} (h : p < L) (c : g (B p) = true) : lx_r g B L p = lx_r g B L (p + 1) := by rw [lx_r_eq, if_pos h, if_pos c]
theorem lx_r_no {g : Nat → Bool} {B : Nat → Nat} {L p : Nat} (h : p < L) (c : g (B p) = false) : lx_r g B L p = p := by rw [lx_r_eq, if_pos h, if_neg (by rw [c]; decide)]
theorem lx_r_all {g : Nat → Bool} {B : Nat → Nat} {L : Nat} : ∀ (k p : Nat), L - p = k → p ≤ lx_r g B L p ∧ (p ≤ L → lx_r g B L p ≤ L) ∧ (∀ i, p ≤ i → i < lx_r g B L p → g (B i) = true ∧ i < L) ∧ (lx_r g B L p < L → g (B (lx_r g B L p)) = false) := by
  intro k
  induction k with
  | zero =>
    intro p h
    rw [lx_r_end (by omega)]
    exact ⟨Nat.le_refl _, fun h => h, fun i h1 h2 => by omega, fun h1 => by omega⟩
  | succ k ih =>
    intro p h
    cases c : g (B p) with
    | true =>
      obtain ⟨a1, a2, a3, a4⟩ := ih (p + 1) (by omega)
      rw [lx_r_go (by omega) c]
      refine ⟨by omega, fun _ => a2 (by omega), fun i h1 h2 => ?_, a4⟩
      by_cases e : i = p
      · rw [e]; exact ⟨c, by omega⟩
      · exact a3 i (by omega) h2
    | false =>
      rw [lx_r_no (by omega) c]
      exact ⟨Nat.le_refl _, fun h => h, fun i h1 h2 => by omega, fun _ => c⟩
def lx_le (c : Nat) : Bool := decide (97 ≤ c ∧ c ≤ 122) || decide (65 ≤ c ∧ c ≤ 90)
def lx_di (c : Nat) : Bool := decide (48 ≤ c ∧ c ≤ 57)
def lx_wd (c : Nat) : Bool := lx_le c || (lx_di c || c == 95)
def lx_tx (c : Nat) : Bool := decide (32 ≤ c ∧ c ≤ 126) && !(c == 34)
theorem lx_isL {c : Nat} {s : t_S} (h : c < 256) : f_X2_isLetter (nI c) s = if lx_le c = true then 1 else 0 := by
  unfold f_X2_isLetter k_X2_isLetter_12 k_X2_isLetter_24 lx_le
  have a : ∀ k : Nat, k < 256 → ((nI c < nI k) ↔ c < k) := fun k hk => nI_ltI (by omega) (by omega)
  have b : ∀ k : Nat, k < 256 → ((nI k < nI c) ↔ k < c) := fun k hk => nI_ltI (by omega) (by omega)
  have d : (nI c ≤ (122 : Int32)) ↔ c ≤ 122 := nI_leI (b := 122) (by omega) (by decide)
  simp only [show (97 : Int32) = nI 97 from rfl, show (65 : Int32) = nI 65 from rfl, show (90 : Int32) = nI 90 from rfl, d, a 97 (by decide), a 65 (by decide), b 90 (by decide), Bool.or_eq_true, decide_eq_true_eq]
  repeat' split
  all_goals first | rfl | omega
theorem lx_isD {c : Nat} {s : t_S} (h : c < 256) : f_X2_isDigit (nI c) s = if lx_di c = true then 1 else 0 := by
  unfold f_X2_isDigit lx_di
  have a : (nI c < (48 : Int32)) ↔ c < 48 := nI_ltI (b := 48) (by omega) (by decide)
  have b : ((57 : Int32) < nI c) ↔ 57 < c := nI_ltI (a := 57) (by decide) (by omega)
  simp only [a, b, decide_eq_true_eq]
  repeat' split
  all_goals first | rfl | omega
theorem lx_rL {c : Nat} {s : t_S} (h : c < 256) : f_X13_isLetter (nI c) s = if lx_le c = true then 1 else 0 := by
  unfold f_X13_isLetter k_X13_isLetter_12 k_X13_isLetter_24 lx_le
  have a : ∀ k : Nat, k < 256 → ((nI c < nI k) ↔ c < k) := fun k hk => nI_ltI (by omega) (by omega)
  have b : ∀ k : Nat, k < 256 → ((nI k < nI c) ↔ k < c) := fun k hk => nI_ltI (by omega) (by omega)
  have d : (nI c ≤ (122 : Int32)) ↔ c ≤ 122 := nI_leI (b := 122) (by omega) (by decide)
  simp only [show (97 : Int32) = nI 97 from rfl, show (65 : Int32) = nI 65 from rfl, show (90 : Int32) = nI 90 from rfl, d, a 97 (by decide), a 65 (by decide), b 90 (by decide), Bool.or_eq_true, decide_eq_true_eq]
  repeat' split
  all_goals first | rfl | omega
theorem lx_rD {c : Nat} {s : t_S} (h : c < 256) : f_X13_isFigure (nI c) s = if lx_di c = true then 1 else 0 := by
  unfold f_X13_isFigure lx_di
  have a : (nI c < (48 : Int32)) ↔ c < 48 := nI_ltI (b := 48) (by omega) (by decide)
  have b : ((57 : Int32) < nI c) ↔ 57 < c := nI_ltI (a := 57) (by decide) (by omega)
  simp only [a, b, decide_eq_true_eq]
  repeat' split
  all_goals first | rfl | omega
theorem lx_rLm {s : t_S} : f_X13_isLetter (-1) s = 0 ∧ f_X13_isFigure (-1) s = 0 := by
  unfold f_X13_isLetter k_X13_isLetter_12 k_X13_isLetter_24 f_X13_isFigure
  exact ⟨by decide, by decide⟩
theorem tx_cv : ∀ b, b < 256 → (tx_c b).toInt = if b < 128 then (b : Int) else (b : Int) - 256 := by decide +kernel
theorem tx_ceq {b k : Nat} (hb : b < 256) (hk : k < 128) : tx_c b = nI k ↔ b = k := by
  have e := tx_cv b hb
  have f : (nI k).toInt = (k : Int) := nI_toInt (by omega)
  constructor
  · intro z
    rw [z, f] at e
    split at e <;> omega
  · rintro rfl
    apply Int32.toInt_inj.mp
    rw [e, f, if_pos hk]
theorem l2_fr.setJ {W : Nat → Nat → Prop} {s : t_S} {a k : Nat} {v : Int64} (w : W a k) : l2_fr W s (t_setJ s a k v) := by
  intro b j n
  refine ⟨rfl, ?_, rfl⟩
  show va_up s.2.1 a (va_up (s.2.1 a) k v) b j = _
  by_cases e : b = a
  · subst e
    rw [mj_up_eq]
    exact mj_up_ne _ _ (fun z => n (by rw [z]; exact w))
  · rw [mj_up_ne _ _ e]
theorem l2_jJ {s : t_S} {a k : Nat} {v : Int64} : (t_setJ s a k v).2.1 a = va_up (s.2.1 a) k v := mj_up_eq s.2.1 a _
theorem l2_jI {s : t_S} {a k : Nat} {v : Int64} : (t_setJ s a k v).1 = s.1 := rfl
def lx_Wn (b j : Nat) : Prop := b = 1 ∧ (j = 2 ∨ j = 10)
theorem lx_cword {s : t_S} {B : Nat → Nat} {L p : Nat} {Q : Int32 × t_S → Prop} (hT : tx_Tc s B L) (hp : p ≤ L) (h : s.1 1 2 = nI p) (K : ∀ s', s'.1 1 2 = nI (lx_r lx_wd B L p) → l2_fr lx_Wa s s' → t_hk (k_X2_readWord_81 (nI p) s') Q) : t_hk (f_X2_readWord s) Q := by
  have hL := hT.1
  unfold f_X2_readWord
  rw [h]
  refine l2_lp (fun k y => ∃ q s1, q + k = L ∧ y = (nI p, s1) ∧ s1.1 1 2 = nI q ∧ lx_r lx_wd B L q = lx_r lx_wd B L p ∧ l2_fr lx_Wa s s1) ?_ (m := L - p) (Nat.lt_trans (show L - p < 1000000000 by omega) l2_N) ⟨p, s, by omega, rfl, h, rfl, l2_fr.rf⟩
  rintro k y ⟨q, s1, hk, rfl, h1, h2, h3⟩
  have hT1 := hT.fr h3 (by unfold lx_Wa; omega) (fun i => by unfold lx_Wa; omega)
  show t_hk (k_X2_readWord_5 (nI p) s1) _
  unfold k_X2_readWord_5
  rw [hT1.2.1, h1]
  refine l2_if (fun c => ?_) (fun c => ?_)
  · have c := (nI_leI (by omega) (by omega)).mp c
    refine l2_mp (K s1 ?_ h3)
    rw [← h2, lx_r_end c]
    exact h1
  have c : ¬ L ≤ q := fun z => c ((nI_leI (by omega) (by omega)).mpr z)
  refine l2_ck (l2_ix (by omega) (by decide)) ?_
  obtain ⟨b1, b2⟩ := hT1.2.2 q (by omega)
  rw [nI_clamp (by omega), b2, tx_255 b1, lx_isL b1, lx_isD b1]
  have go : lx_wd (B q) = true → t_hk (k_X2_readWord_68 (nI p) s1) (l2_nx (fun z => ∃ j, j < k ∧ ∃ q s1, q + j = L ∧ z = (nI p, s1) ∧ s1.1 1 2 = nI q ∧ lx_r lx_wd B L q = lx_r lx_wd B L p ∧ l2_fr lx_Wa s s1) Q) := by
    intro e
    unfold k_X2_readWord_68
    rw [h1, nI_1]
    refine l2_lt (l2_sm ⟨k - 1, by omega, q + 1, _, by omega, rfl, ?_, ?_, h3.trans l2_fr.one⟩)
    · rw [l2_sI, mj_up_eq]
    · rw [← lx_r_go (by omega) e]
      exact h2
  cases e1 : lx_le (B q) with
  | true =>
    rw [if_pos rfl]
    exact l2_no l2_10 (go (by unfold lx_wd; rw [e1]; rfl))
  | false =>
    rw [if_neg (show ¬ false = true by decide)]
    refine l2_ck rfl ?_
    cases e2 : lx_di (B q) with
    | true =>
      rw [if_pos rfl]
      exact l2_no l2_10 (go (by unfold lx_wd; rw [e1, e2]; rfl))
    | false =>
      rw [if_neg (show ¬ false = true by decide)]
      refine l2_ck rfl ?_
      refine l2_if (fun z => ?_) (fun z => ?_)
      · have z := (tx_ceq (k := 95) b1 (by decide)).mp z
        exact go (by unfold lx_wd; rw [e1, e2, z]; rfl)
      · have z : B q ≠ 95 := fun y => z ((tx_ceq (k := 95) b1 (by decide)).mpr y)
        refine l2_mp (K s1 ?_ h3)
        rw [← h2, lx_r_no (by omega) (by unfold lx_wd; rw [e1, e2, beq_eq_false_iff_ne.mpr z]; rfl)]
        exact h1
/-- the number that n figures tell -/
def lx_num (B : Nat → Nat) (p : Nat) : Nat → Nat
  | 0 => 0
  | n + 1 => lx_num B p n * 10 + (B (p + n) - 48)
theorem lx_num_lt {B : Nat → Nat} {p : Nat} : ∀ n, (∀ i, i < n → B (p + i) ≤ 57) → lx_num B p n < 10 ^ n
  | 0, _ => by show (0 : Nat) < 1; decide
  | n + 1, h => by
    have a := lx_num_lt n (fun i hi => h i (by omega))
    have b := h n (by omega)
    show lx_num B p n * 10 + (B (p + n) - 48) < 10 ^ (n + 1)
    rw [Nat.pow_succ]
    omega
theorem lx_cnum {s : t_S} {B : Nat → Nat} {L p : Nat} (hT : tx_Tc s B L) (hp : p ≤ L) (h : s.1 1 2 = nI p) (h0 : s.2.1 1 10 = 0) : t_hk (f_X2_readNumber s) (fun r => r.1 = (if lx_r lx_di B L p - p ≤ 15 then 2 else 5) ∧ r.2.1 1 2 = nI (lx_r lx_di B L p) ∧ r.2.2.1 1 10 = lN (lx_num B p (min 15 (lx_r lx_di B L p - p))) ∧ l2_fr lx_Wn s r.2) := by
  have hL := hT.1
  unfold f_X2_readNumber
  rw [h]
  refine l2_lp (fun k y => ∃ q s1, q + k = L ∧ p ≤ q ∧ y = (nI p, s1) ∧ s1.1 1 2 = nI q ∧ s1.2.1 1 10 = lN (lx_num B p (min 15 (q - p))) ∧ lx_r lx_di B L q = lx_r lx_di B L p ∧ l2_fr lx_Wn s s1) ?_ (m := L - p) (Nat.lt_trans (show L - p < 1000000000 by omega) l2_N) ⟨p, s, by omega, Nat.le_refl _, rfl, h, by rw [Nat.sub_self, h0]; rfl, rfl, l2_fr.rf⟩
  rintro k y ⟨q, s1, hk, hpq, rfl, h1, h4, h2, h3⟩
  have hT1 := hT.fr h3 (by unfold lx_Wn; omega) (fun i => by unfold lx_Wn; omega)
  show t_hk (k_X2_readNumber_5 (nI p) s1) _
  unfold k_X2_readNumber_5
  have fin : q = lx_r lx_di B L p → t_hk ((k_X2_readNumber_85 (nI p) s1).map Sum.inr) (l2_nx (fun z => ∃ j, j < k ∧ ∃ q s1, q + j = L ∧ p ≤ q ∧ z = (nI p, s1) ∧ s1.1 1 2 = nI q ∧ s1.2.1 1 10 = lN (lx_num B p (min 15 (q - p))) ∧ lx_r lx_di B L q = lx_r lx_di B L p ∧ l2_fr lx_Wn s s1) (fun r => r.1 = (if lx_r lx_di B L p - p ≤ 15 then 2 else 5) ∧ r.2.1 1 2 = nI (lx_r lx_di B L p) ∧ r.2.2.1 1 10 = lN (lx_num B p (min 15 (lx_r lx_di B L p - p))) ∧ l2_fr lx_Wn s r.2)) := by
    intro e
    rw [← e]
    refine l2_mp ?_
    unfold k_X2_readNumber_85
    rw [h1, pk_sub hpq]
    by_cases z : q - p ≤ 15
    · rw [if_pos (show nI (q - p) ≤ (15 : Int32) from nI_le (b := 15) z (by decide)), if_pos z]
      exact l2_sm ⟨rfl, h1, h4, h3⟩
    · rw [if_neg (show ¬ nI (q - p) ≤ (15 : Int32) from nI_ge (a := 15) (by omega) (by omega)), if_neg z]
      exact l2_sm ⟨rfl, h1, h4, h3⟩
  rw [hT1.2.1, h1]
  refine l2_if (fun c => ?_) (fun c => ?_)
  · have c := (nI_leI (by omega) (by omega)).mp c
    exact fin (by rw [← h2, lx_r_end c])
  have c : ¬ L ≤ q := fun z => c ((nI_leI (by omega) (by omega)).mpr z)
  refine l2_ck (l2_ix (by omega) (by decide)) ?_
  obtain ⟨b1, b2⟩ := hT1.2.2 q (by omega)
  rw [nI_clamp (by omega), b2, tx_255 b1, lx_isD b1]
  cases e : lx_di (B q) with
  | false =>
    rw [if_neg (show ¬ false = true by decide)]
    exact l2_ck rfl (fin (by rw [← h2, lx_r_no (by omega) e]))
  | true =>
    rw [if_pos rfl]
    refine l2_no l2_10 ?_
    have eb : 48 ≤ B q ∧ B q ≤ 57 := by
      simp only [lx_di, decide_eq_true_eq] at e
      exact e
    rw [pk_sub hpq]
    refine l2_if (fun z => ?_) (fun z => ?_)
    · have z : 15 ≤ q - p := (nI_leI (a := 15) (by decide) (by omega)).mp z
      unfold k_X2_readNumber_72
      rw [h1, nI_1]
      refine l2_lt (l2_sm ⟨k - 1, by omega, q + 1, _, by omega, by omega, rfl, ?_, ?_, ?_, h3.trans (l2_fr.set ⟨rfl, Or.inl rfl⟩)⟩)
      · rw [l2_sI, mj_up_eq]
      · show s1.2.1 1 10 = _
        rw [h4, show min 15 (q + 1 - p) = min 15 (q - p) by omega]
      · rw [← lx_r_go (by omega) e]
        exact h2
    · have z : ¬ 15 ≤ q - p := fun y => z ((nI_leI (a := 15) (by decide) (by omega)).mpr y)
      have ev : s1.2.1 1 10 * (10 : Int64) + (tx_c (B q) - (48 : Int32)).toInt64 = lN (lx_num B p (min 15 (q + 1 - p))) := by
        rw [h4, (tx_ceq (k := B q) b1 (by omega)).mpr rfl, show (48 : Int32) = nI 48 from rfl, pk_sub eb.1, nI_l (by omega), show (10 : Int64) = lN 10 from rfl, lN_mul, lN_add, show min 15 (q + 1 - p) = min 15 (q - p) + 1 by omega]
        show _ = lN (lx_num B p (min 15 (q - p)) * 10 + (B (p + min 15 (q - p)) - 48))
        rw [show p + min 15 (q - p) = q by omega]
      rw [ev]
      refine l2_lt ?_
      unfold k_X2_readNumber_72
      rw [l2_jI, h1, nI_1]
      refine l2_lt (l2_sm ⟨k - 1, by omega, q + 1, _, by omega, by omega, rfl, ?_, ?_, ?_, (h3.trans (l2_fr.setJ ⟨rfl, Or.inr rfl⟩)).trans (l2_fr.set ⟨rfl, Or.inl rfl⟩)⟩)
      · rw [l2_sI, mj_up_eq]
      · show (t_setJ s1 1 10 _).2.1 1 10 = _
        rw [l2_jJ, mj_up_eq]
      · rw [← lx_r_go (by omega) e]
        exact h2
theorem lx_ctext {s : t_S} {B : Nat → Nat} {L p : Nat} (hT : tx_Tc s B L) (hp : p < L) (h : s.1 1 2 = nI p) : t_hk (f_X2_readText s) (fun r => r.1 = (if lx_r lx_tx B L (p + 1) < L ∧ B (lx_r lx_tx B L (p + 1)) = 34 ∧ lx_r lx_tx B L (p + 1) - (p + 1) ≤ 40 then 3 else 5) ∧ r.2.1 1 2 = nI (lx_r lx_tx B L (p + 1) + 1) ∧ r.2.2.1 1 10 = lN (lx_r lx_tx B L (p + 1) - (p + 1)) ∧ l2_fr lx_Wn s r.2) := by
  have hL := hT.1
  have hr := lx_r_all (g := lx_tx) (B := B) (L := L) (L - (p + 1)) (p + 1) rfl
  unfold f_X2_readText
  rw [h, nI_1]
  refine l2_lt ?_
  refine l2_lp (fun k y => ∃ q s1, q + k = L ∧ p + 1 ≤ q ∧ y = (nI (p + 1), s1) ∧ s1.1 1 2 = nI q ∧ lx_r lx_tx B L q = lx_r lx_tx B L (p + 1) ∧ l2_fr lx_Wn s s1) ?_ (m := L - (p + 1)) (Nat.lt_trans (show L - (p + 1) < 1000000000 by omega) l2_N) ⟨p + 1, _, by omega, Nat.le_refl _, rfl, by rw [l2_sI, mj_up_eq], rfl, l2_fr.set ⟨rfl, Or.inl rfl⟩⟩
  rintro k y ⟨q, s1, hk, hpq, rfl, h1, h2, h3⟩
  have hT1 := hT.fr h3 (by unfold lx_Wn; omega) (fun i => by unfold lx_Wn; omega)
  show t_hk (k_X2_readText_12 (nI (p + 1)) s1) _
  unfold k_X2_readText_12
  have fin : q = lx_r lx_tx B L (p + 1) → t_hk ((k_X2_readText_78 (nI (p + 1)) s1).map Sum.inr) (l2_nx (fun z => ∃ j, j < k ∧ ∃ q s1, q + j = L ∧ p + 1 ≤ q ∧ z = (nI (p + 1), s1) ∧ s1.1 1 2 = nI q ∧ lx_r lx_tx B L q = lx_r lx_tx B L (p + 1) ∧ l2_fr lx_Wn s s1) (fun r => r.1 = (if lx_r lx_tx B L (p + 1) < L ∧ B (lx_r lx_tx B L (p + 1)) = 34 ∧ lx_r lx_tx B L (p + 1) - (p + 1) ≤ 40 then 3 else 5) ∧ r.2.1 1 2 = nI (lx_r lx_tx B L (p + 1) + 1) ∧ r.2.2.1 1 10 = lN (lx_r lx_tx B L (p + 1) - (p + 1)) ∧ l2_fr lx_Wn s r.2)) := by
    intro e
    rw [← e]
    refine l2_mp ?_
    unfold k_X2_readText_78
    rw [h1, pk_sub hpq, nI_l (by omega)]
    refine l2_lt ?_
    rw [l2_jI, hT1.2.1, h1]
    have st : ∀ (v : Int32) (w : Int32), w = (if v = 0 then 5 else 3) → w = (if q < L ∧ B q = 34 ∧ q - (p + 1) ≤ 40 then 3 else 5) → t_hk (k_X2_readText_130 v (t_setJ s1 1 10 (lN (q - (p + 1))))) (fun r => r.1 = (if q < L ∧ B q = 34 ∧ q - (p + 1) ≤ 40 then 3 else 5) ∧ r.2.1 1 2 = nI (q + 1) ∧ r.2.2.1 1 10 = lN (q - (p + 1)) ∧ l2_fr lx_Wn s r.2) := by
      intro v w hv hw
      unfold k_X2_readText_130
      rw [l2_jI, h1, nI_1]
      refine l2_lt ?_
      have rest : (t_setI (t_setJ s1 1 10 (lN (q - (p + 1)))) 1 2 (nI (q + 1))).1 1 2 = nI (q + 1) ∧ (t_setI (t_setJ s1 1 10 (lN (q - (p + 1)))) 1 2 (nI (q + 1))).2.1 1 10 = lN (q - (p + 1)) ∧ l2_fr lx_Wn s (t_setI (t_setJ s1 1 10 (lN (q - (p + 1)))) 1 2 (nI (q + 1))) := by
        refine ⟨by rw [l2_sI, mj_up_eq], ?_, (h3.trans (l2_fr.setJ ⟨rfl, Or.inr rfl⟩)).trans (l2_fr.set ⟨rfl, Or.inl rfl⟩)⟩
        show (t_setJ s1 1 10 (lN (q - (p + 1)))).2.1 1 10 = _
        rw [l2_jJ, mj_up_eq]
      by_cases z : v = 0
      · rw [if_pos z] at hv ⊢
        exact l2_sm ⟨hv.symm.trans hw, rest⟩
      · rw [if_neg z] at hv ⊢
        exact l2_sm ⟨hv.symm.trans hw, rest⟩
    refine l2_if (fun c => ?_) (fun c => ?_)
    · have c := (nI_leI (by omega) (by omega)).mp c
      exact st 0 5 rfl (by rw [if_neg (by omega)])
    have c : ¬ L ≤ q := fun z => c ((nI_leI (by omega) (by omega)).mpr z)
    refine l2_ck (l2_ix (by omega) (by decide)) ?_
    obtain ⟨b1, b2⟩ := hT1.2.2 q (by omega)
    rw [nI_clamp (by omega), b2]
    refine l2_if (fun d => ?_) (fun d => ?_)
    · have d := (tx_ceq (k := 34) b1 (by decide)).mp d
      rw [l2_jJ, mj_up_eq]
      refine l2_if (fun f => ?_) (fun f => ?_)
      · have f := t_cmp_gt.mp f
        rw [show (40 : Int64).toInt = 40 from rfl, pk_lT (by omega)] at f
        exact st 0 5 rfl (by rw [if_neg (by omega)])
      · have f : ¬ (40 : Int64).toInt < (lN (q - (p + 1))).toInt := fun z => f (t_cmp_gt.mpr z)
        rw [show (40 : Int64).toInt = 40 from rfl, pk_lT (by omega)] at f
        exact st 1 3 rfl (by rw [if_pos ⟨by omega, d, by omega⟩])
    · have d : B q ≠ 34 := fun z => d ((tx_ceq (k := 34) b1 (by decide)).mpr z)
      exact st 0 5 rfl (by rw [if_neg (by omega)])
  rw [hT1.2.1, h1]
  refine l2_if (fun c => ?_) (fun c => ?_)
  · have c := (nI_leI (by omega) (by omega)).mp c
    exact fin (by rw [← h2, lx_r_end c])
  have c : ¬ L ≤ q := fun z => c ((nI_leI (by omega) (by omega)).mpr z)
  refine l2_ck (l2_ix (by omega) (by decide)) ?_
  obtain ⟨b1, b2⟩ := hT1.2.2 q (by omega)
  have bv := tx_cv (B q) b1
  rw [nI_clamp (by omega), b2]
  have out : lx_tx (B q) = false → q = lx_r lx_tx B L (p + 1) := fun e => by rw [← h2, lx_r_no (by omega) e]
  have inv : lx_tx (B q) = true ↔ (32 ≤ B q ∧ B q ≤ 126) ∧ ¬ B q = 34 := by
    simp only [lx_tx, Bool.and_eq_true, decide_eq_true_eq, Bool.not_eq_true', beq_eq_false_iff_ne]
  have inf : ¬ ((32 ≤ B q ∧ B q ≤ 126) ∧ ¬ B q = 34) → lx_tx (B q) = false := fun z => by
    cases e : lx_tx (B q) with
    | false => rfl
    | true => exact absurd (inv.mp e) z
  refine l2_if (fun d => ?_) (fun d => ?_)
  · have d := (t_lt 32 rfl).mp d
    exact fin (out (inf (by split at bv <;> omega)))
  have d : ¬ (tx_c (B q)).toInt < 32 := fun z => d ((t_lt 32 rfl).mpr z)
  refine l2_if (fun e => ?_) (fun e => ?_)
  · have e := (t_gt 126 rfl).mp e
    exact fin (out (inf (by split at bv <;> omega)))
  have e : ¬ 126 < (tx_c (B q)).toInt := fun z => e ((t_gt 126 rfl).mpr z)
  refine l2_if (fun f => ?_) (fun f => ?_)
  · have f := (tx_ceq (k := 34) b1 (by decide)).mp f
    exact fin (out (inf (by omega)))
  have f : B q ≠ 34 := fun z => f ((tx_ceq (k := 34) b1 (by decide)).mpr z)
  rw [nI_1]
  refine l2_lt (l2_sm ⟨k - 1, by omega, q + 1, _, by omega, by omega, rfl, ?_, ?_, h3.trans (l2_fr.set ⟨rfl, Or.inl rfl⟩)⟩)
  · rw [l2_sI, mj_up_eq]
  · rw [← lx_r_go (by omega) (inv.mpr ⟨by split at bv <;> omega, f⟩)]
    exact h2
