/-! Level 2: the text on both sides: feed, end. B i: byte i. -/
theorem bp_b (x : Int32) : x.toInt8.toInt32 &&& 255 = x &&& 255 := by
  apply Int32.toBitVec_inj.mp
  rw [Int32.toBitVec_and, Int32.toBitVec_and, Int8.toBitVec_toInt32, Int32.toBitVec_toInt8]
  apply BitVec.eq_of_getLsbD_eq
  intro i hi
  rw [BitVec.getLsbD_and, BitVec.getLsbD_and]
  have hm : ∀ i < 32, 8 ≤ i → (255 : Int32).toBitVec.getLsbD i = false := by decide
  rcases Nat.lt_or_ge i 8 with z | z
  · rw [BitVec.getLsbD_signExtend, BitVec.getLsbD_signExtend, if_pos z, if_pos hi]
    simp only [z, hi, decide_true, Bool.true_and]
  · rw [hm i hi z]; simp
/-! ===== the char cast and 65535 ===== -/
def tx_c (b : Nat) : Int32 := (nI b).toInt8.toInt32
theorem tx_idem (x : Int32) : x.toInt8.toInt32.toInt8.toInt32 = x.toInt8.toInt32 := by simp
theorem tx_of {x : Int32} {n : Nat} (hn : n < 256) (h : x &&& 255 = nI n) : x.toInt8.toInt32.toInt8.toInt32 = tx_c n := by
  refine (sc_eq (by rw [tx_idem, tx_idem]) hn).mpr ?_
  rw [bp_b, bp_b]
  exact h
/-- byte j of a number's four -/
def tx_b (x : Int32) (j : Nat) : Nat := x.toBitVec.toNat / 2 ^ (8 * (3 - j)) % 256
theorem tx_b_lt (x : Int32) (j : Nat) : tx_b x j < 256 := Nat.mod_lt _ (by decide)
def tx_s : Nat → Int32
  | 0 => 24
  | 1 => 16
  | 2 => 8
  | 3 => 0
  | _ => -8
theorem tx_u (x : Int32) {j : Nat} (hj : j < 4) : (x.toUInt32 >>> ((tx_s j).toUInt32 &&& Int32.toUInt32 31)).toInt32 &&& 255 = nI (tx_b x j) := by
  have g : ∀ (y : Int32) (k : Nat), ((y.toUInt32 &&& Int32.toUInt32 31).toBitVec % 32).toNat = k → (x.toUInt32 >>> (y.toUInt32 &&& Int32.toUInt32 31)).toInt32 &&& 255 = nI (x.toBitVec.toNat / 2 ^ k % 256) := by
    intro y k hk
    rw [pk_and _ 8 (by decide), pk_ushr x y k hk]
  rcases (show j = 0 ∨ j = 1 ∨ j = 2 ∨ j = 3 by omega) with rfl | rfl | rfl | rfl
  · exact g 24 24 (by decide)
  · exact g 16 16 (by decide)
  · exact g 8 8 (by decide)
  · exact g 0 0 (by decide)
theorem tx_sh (x : Int32) {k : Nat} (hk : k = 0 ∨ k = 8 ∨ k = 16 ∨ k = 24) : (x >>> (nI k &&& 31)) &&& 255 = nI (x.toBitVec.toNat / 2 ^ k % 256) := by
  have hs := pk_shr x (nI k &&& 31) k (s_l k (by omega))
  rw [pk_and _ 8 (by decide)]
  congr 1
  have e1 : (x >>> (nI k &&& 31)).toInt = ((x >>> (nI k &&& 31)).toBitVec.toNat : Int) - (if 2 * (x >>> (nI k &&& 31)).toBitVec.toNat < 2 ^ 32 then 0 else 2 ^ 32) := by
    show (x >>> (nI k &&& 31)).toBitVec.toInt = _
    rw [BitVec.toInt_eq_toNat_cond]
    split <;> simp
  have e2 : x.toInt = (x.toBitVec.toNat : Int) - (if 2 * x.toBitVec.toNat < 2 ^ 32 then 0 else 2 ^ 32) := by
    show x.toBitVec.toInt = _
    rw [BitVec.toInt_eq_toNat_cond]
    split <;> simp
  rw [hs, e2, Int.shiftRight_eq_div_pow] at e1
  generalize (x >>> (nI k &&& 31)).toBitVec.toNat = a at *
  generalize x.toBitVec.toNat = b at *
  rcases hk with rfl | rfl | rfl | rfl <;> (split at e1 <;> split at e1 <;> simp at e1 ⊢ <;> omega)
theorem tx_r (x : Int32) {j : Nat} (hj : j < 4) : (x >>> (((8 : Int32) * ((3 : Int32) - nI j)) &&& 31)) &&& 255 = nI (tx_b x j) := by
  rw [show (8 : Int32) = nI 8 from rfl, show (3 : Int32) = nI 3 from rfl, pk_sub (by omega), pk_mul]
  exact tx_sh x (by omega)
def tx_R (s : t_S) : Prop := ∃ (L : Nat) (B : Nat → Nat), L ≤ 12000 ∧ s.1 1 1 = nI L ∧ s.1 950 1 = nI L ∧ ∀ i, i < L → B i < 256 ∧ s.1 2 i = tx_c (B i) ∧ s.1 951 i = nI (B i)
def tx_Wc (b j : Nat) : Prop := b = 2 ∨ (b = 1 ∧ j = 1)
def tx_Wr (b j : Nat) : Prop := b = 951 ∨ (b = 950 ∧ j = 1)
theorem tx_append4 {s : t_S} {L : Nat} (x : Int32) (hL : L + 4 ≤ 12000) (h : s.1 1 1 = nI L) : t_hk (f_X2_append4 x s) (fun s' => s'.1 1 1 = nI (L + 4) ∧ (∀ j, j < 4 → s'.1 2 (L + j) = tx_c (tx_b x j)) ∧ (∀ i, i < L → s'.1 2 i = s.1 2 i) ∧ l2_fr tx_Wc s s') := by
  unfold f_X2_append4
  refine l2_lp (fun k y => ∃ j s1, j + k = 4 ∧ y = (x, tx_s j, s1) ∧ s1.1 1 1 = nI (L + j) ∧ (∀ i, i < j → s1.1 2 (L + i) = tx_c (tx_b x i)) ∧ (∀ i, i < L → s1.1 2 i = s.1 2 i) ∧ l2_fr tx_Wc s s1) ?_ (m := 4) (Nat.lt_trans (by decide) l2_N) ⟨0, s, rfl, rfl, h, fun i hi => absurd hi (by omega), fun _ _ => rfl, l2_fr.rf⟩
  rintro k y ⟨j, s1, hj, rfl, h1, h2, h3, h4⟩
  show t_hk (k_X2_append4_3 x (tx_s j) s1) _
  unfold k_X2_append4_3
  by_cases e : j = 4
  · subst e
    rw [if_pos (by decide)]
    exact l2_mp (l2_sm ⟨h1, h2, h3, h4⟩)
  · have hj4 : j < 4 := by omega
    have nn : ¬ tx_s j < 0 := by
      rcases (show j = 0 ∨ j = 1 ∨ j = 2 ∨ j = 3 by omega) with rfl | rfl | rfl | rfl <;> decide
    have nx : tx_s j + (-8) = tx_s (j + 1) := by
      rcases (show j = 0 ∨ j = 1 ∨ j = 2 ∨ j = 3 by omega) with rfl | rfl | rfl | rfl <;> decide
    rw [if_neg nn, h1]
    refine l2_ck (l2_ix (by omega) (by decide)) ?_
    rw [nI_clamp (by omega), tx_of (tx_b_lt x j) (tx_u x hj4), nx]
    refine l2_lt (l2_lt (l2_sm ⟨k - 1, by omega, j + 1, _, by omega, rfl, ?_, ?_, ?_, ?_⟩))
    · rw [l2_sI, mj_up_eq, l2_sO (by decide), h1, nI_1]
      rfl
    · intro i hi
      rw [l2_sO (by decide), l2_sI]
      by_cases e2 : i = j
      · rw [e2, mj_up_eq]
      · rw [mj_up_ne _ _ (by omega)]
        exact h2 i (by omega)
    · intro i hi
      rw [l2_sO (by decide), l2_sI, mj_up_ne _ _ (by omega)]
      exact h3 i hi
    · exact (h4.trans (l2_fr.set (Or.inl rfl))).trans (l2_fr.set (Or.inr ⟨rfl, rfl⟩))
def tx_arg (x1 x2 x3 x4 x5 : Int32) (j : Nat) : Int32 := if j < 4 then x1 else if j < 8 then x2 else if j < 12 then x3 else if j < 16 then x4 else x5
theorem tx_append {s : t_S} {L : Nat} (x1 x2 x3 x4 x5 : Int32) (hL : L + 20 ≤ 12000) (h : s.1 1 1 = nI L) : t_hk (f_X2_append x1 x2 x3 x4 x5 s) (fun r => r.1 = nI (L + 20) ∧ r.2.1 1 1 = nI (L + 20) ∧ (∀ j, j < 20 → r.2.1 2 (L + j) = tx_c (tx_b (tx_arg x1 x2 x3 x4 x5 j) (j % 4))) ∧ (∀ i, i < L → r.2.1 2 i = s.1 2 i) ∧ l2_fr tx_Wc s r.2) := by
  unfold f_X2_append
  rw [h, show (20 : Int32) = nI 20 from rfl, nI_add]
  refine l2_ck (show nI (L + 20) ≤ (12000 : Int32) from nI_le (b := 12000) hL (by decide)) ?_
  refine l2_bd _ (tx_append4 x1 (by omega) h) (fun s1 a => l2_bd _ (tx_append4 x2 (by omega) a.1) (fun s2 b => l2_bd _ (tx_append4 x3 (by omega) b.1) (fun s3 c => l2_bd _ (tx_append4 x4 (by omega) c.1) (fun s4 d => l2_bd _ (tx_append4 x5 (by omega) d.1) (fun s5 e => l2_sm ?_)))))
  refine ⟨e.1, e.1, ?_, ?_, ?_⟩
  · intro j hj
    unfold tx_arg
    rcases (show j / 4 = 0 ∨ j / 4 = 1 ∨ j / 4 = 2 ∨ j / 4 = 3 ∨ j / 4 = 4 by omega) with q | q | q | q | q
    · rw [if_pos (by omega), e.2.2.1 _ (by omega), d.2.2.1 _ (by omega), c.2.2.1 _ (by omega), b.2.2.1 _ (by omega)]
      rw [show L + j = L + j % 4 by omega]
      exact a.2.1 (j % 4) (by omega)
    · rw [if_neg (by omega), if_pos (by omega), e.2.2.1 _ (by omega), d.2.2.1 _ (by omega), c.2.2.1 _ (by omega)]
      rw [show L + j = L + 4 + j % 4 by omega]
      exact b.2.1 (j % 4) (by omega)
    · rw [if_neg (by omega), if_neg (by omega), if_pos (by omega), e.2.2.1 _ (by omega), d.2.2.1 _ (by omega)]
      rw [show L + j = L + 4 + 4 + j % 4 by omega]
      exact c.2.1 (j % 4) (by omega)
    · rw [if_neg (by omega), if_neg (by omega), if_neg (by omega), if_pos (by omega), e.2.2.1 _ (by omega)]
      rw [show L + j = L + 4 + 4 + 4 + j % 4 by omega]
      exact d.2.1 (j % 4) (by omega)
    · rw [if_neg (by omega), if_neg (by omega), if_neg (by omega), if_neg (by omega)]
      rw [show L + j = L + 4 + 4 + 4 + 4 + j % 4 by omega]
      exact e.2.1 (j % 4) (by omega)
  · intro i hi
    rw [e.2.2.1 _ (by omega), d.2.2.1 _ (by omega), c.2.2.1 _ (by omega), b.2.2.1 _ (by omega), a.2.2.1 _ hi]
  · exact (((a.2.2.2.trans b.2.2.2).trans c.2.2.2).trans d.2.2.2).trans e.2.2.2
theorem tx_rfeed {s : t_S} {L : Nat} (x1 x2 x3 x4 x5 : Int32) (hL : L + 20 ≤ 12000) (h : s.1 950 1 = nI L) : t_hk (f_X13_feed x1 x2 x3 x4 x5 s) (fun r => r.1 = nI (L + 20) ∧ r.2.1 950 1 = nI (L + 20) ∧ (∀ j, j < 20 → r.2.1 951 (L + j) = nI (tx_b (tx_arg x1 x2 x3 x4 x5 j) (j % 4))) ∧ (∀ i, i < L → r.2.1 951 i = s.1 951 i) ∧ l2_fr tx_Wr s r.2) := by
  unfold f_X13_feed
  rw [h, show (20 : Int32) = nI 20 from rfl, nI_add]
  refine l2_ck (show nI (L + 20) ≤ (12000 : Int32) from nI_le (b := 12000) hL (by decide)) ?_
  refine l2_lp (fun k y => ∃ j s1, j + k = 20 ∧ y = (x1, x2, x3, x4, x5, nI j, s1) ∧ s1.1 950 1 = nI (L + j) ∧ (∀ i, i < j → s1.1 951 (L + i) = nI (tx_b (tx_arg x1 x2 x3 x4 x5 i) (i % 4))) ∧ (∀ i, i < L → s1.1 951 i = s.1 951 i) ∧ l2_fr tx_Wr s s1) ?_ (m := 20) (Nat.lt_trans (by decide) l2_N) ⟨0, s, rfl, rfl, h, fun i hi => absurd hi (by omega), fun _ _ => rfl, l2_fr.rf⟩
  rintro k y ⟨j, s1, hj, rfl, h1, h2, h3, h4⟩
  show t_hk (k_X13_feed_19 x1 x2 x3 x4 x5 (nI j) s1) _
  unfold k_X13_feed_19
  refine l2_if (fun c => ?_) (fun c => ?_)
  · have c : 20 ≤ j := (nI_leI (a := 20) (by decide) (by omega)).mp c
    have e : j = 20 := by omega
    subst e
    exact l2_mp (l2_sm ⟨h1, h1, h2, h3, h4⟩)
  have c : ¬ 20 ≤ j := fun z => c ((nI_leI (a := 20) (by decide) (by omega)).mpr z)
  have st : ∀ v, v = tx_arg x1 x2 x3 x4 x5 j → t_hk (k_X13_feed_72 x1 x2 x3 x4 x5 (nI j) v s1) (l2_nx (fun z => ∃ j_1, j_1 < k ∧ ∃ j s1, j + j_1 = 20 ∧ z = (x1, x2, x3, x4, x5, nI j, s1) ∧ s1.1 950 1 = nI (L + j) ∧ (∀ i, i < j → s1.1 951 (L + i) = nI (tx_b (tx_arg x1 x2 x3 x4 x5 i) (i % 4))) ∧ (∀ i, i < L → s1.1 951 i = s.1 951 i) ∧ l2_fr tx_Wr s s1) (fun r => r.1 = nI (L + 20) ∧ r.2.1 950 1 = nI (L + 20) ∧ (∀ j, j < 20 → r.2.1 951 (L + j) = nI (tx_b (tx_arg x1 x2 x3 x4 x5 j) (j % 4))) ∧ (∀ i, i < L → r.2.1 951 i = s.1 951 i) ∧ l2_fr tx_Wr s r.2)) := by
    rintro v rfl
    unfold k_X13_feed_72
    rw [h1]
    refine l2_ck (l2_ix (by omega) (by decide)) ?_
    rw [nI_clamp (by omega), show (4 : Int32) = nI 4 from rfl, pk_rem (by omega) (by decide) (by decide), tx_r _ (Nat.mod_lt _ (by decide)), nI_1]
    refine l2_lt (l2_lt (l2_sm ⟨k - 1, by omega, j + 1, _, by omega, rfl, ?_, ?_, ?_, ?_⟩))
    · rw [l2_sI, mj_up_eq, l2_sO (by decide), h1, nI_1]
      rfl
    · intro i hi
      rw [l2_sO (by decide), l2_sI]
      by_cases e2 : i = j
      · rw [e2, mj_up_eq]
      · rw [mj_up_ne _ _ (by omega)]
        exact h2 i (by omega)
    · intro i hi
      rw [l2_sO (by decide), l2_sI, mj_up_ne _ _ (by omega)]
      exact h3 i hi
    · exact (h4.trans (l2_fr.set (Or.inl rfl))).trans (l2_fr.set (Or.inr ⟨rfl, rfl⟩))
  have lt : ∀ {a : Nat}, a < 100 → ((nI a ≤ nI j) ↔ a ≤ j) := fun h => nI_leI (by omega) (by omega)
  refine l2_if (fun d => ?_) (fun d => ?_)
  · have d : 4 ≤ j := (lt (a := 4) (by decide)).mp d
    refine l2_if (fun e => ?_) (fun e => ?_)
    · have e : 8 ≤ j := (lt (a := 8) (by decide)).mp e
      refine l2_if (fun f => ?_) (fun f => ?_)
      · have f : 12 ≤ j := (lt (a := 12) (by decide)).mp f
        refine l2_if (fun g => ?_) (fun g => ?_)
        · have g : 16 ≤ j := (lt (a := 16) (by decide)).mp g
          exact st _ (by unfold tx_arg; rw [if_neg (by omega), if_neg (by omega), if_neg (by omega), if_neg (by omega)])
        · have g : ¬ 16 ≤ j := fun z => g ((lt (a := 16) (by decide)).mpr z)
          exact st _ (by unfold tx_arg; rw [if_neg (by omega), if_neg (by omega), if_neg (by omega), if_pos (by omega)])
      · have f : ¬ 12 ≤ j := fun z => f ((lt (a := 12) (by decide)).mpr z)
        exact st _ (by unfold tx_arg; rw [if_neg (by omega), if_neg (by omega), if_pos (by omega)])
    · have e : ¬ 8 ≤ j := fun z => e ((lt (a := 8) (by decide)).mpr z)
      exact st _ (by unfold tx_arg; rw [if_neg (by omega), if_pos (by omega)])
  · have d : ¬ 4 ≤ j := fun z => d ((lt (a := 4) (by decide)).mpr z)
    exact st _ (by unfold tx_arg; rw [if_pos (by omega)])
theorem tx_feed {s : t_S} (h : tx_R s) (x1 x2 x3 x4 x5 : Int32) : t_hk (f_X12_feed x1 x2 x3 x4 x5 s) (fun r => l2_fr tx_Wc s r.2 ∧ t_hk (f_X13_feed x1 x2 x3 x4 x5 r.2) (fun r' => r'.1 = r.1 ∧ l2_fr tx_Wr r.2 r'.2 ∧ tx_R r'.2)) := by
  have h0 := h
  obtain ⟨L, B, hL, h1, h2, h3⟩ := h
  unfold f_X12_feed
  by_cases c : L + 20 ≤ 12000
  · refine l2_bd _ (tx_append x1 x2 x3 x4 x5 c h1) (fun r a => l2_sm ⟨a.2.2.2.2, ?_⟩)
    have g : r.2.1 950 1 = nI L := by
      rw [(a.2.2.2.2 950 1 (by unfold tx_Wc; omega)).1]
      exact h2
    refine l2_imp (tx_rfeed x1 x2 x3 x4 x5 c g) (fun r' b => ⟨b.1.trans a.1.symm, b.2.2.2.2, L + 20, fun i => if i < L then B i else tx_b (tx_arg x1 x2 x3 x4 x5 (i - L)) ((i - L) % 4), c, ?_, b.2.1, fun i hi => ?_⟩)
    · rw [(b.2.2.2.2 1 1 (by unfold tx_Wr; omega)).1]
      exact a.2.1
    · have f2 : r'.2.1 2 i = r.2.1 2 i := (b.2.2.2.2 2 i (by unfold tx_Wr; omega)).1
      rw [f2]
      by_cases d : i < L
      · simp only [if_pos d]
        refine ⟨(h3 i d).1, (a.2.2.2.1 i d).trans (h3 i d).2.1, (b.2.2.2.1 i d).trans ?_⟩
        rw [(a.2.2.2.2 951 i (by unfold tx_Wc; omega)).1]
        exact (h3 i d).2.2
      · simp only [if_neg d]
        have p := a.2.2.1 (i - L) (by omega)
        have q := b.2.2.1 (i - L) (by omega)
        rw [show L + (i - L) = i by omega] at p q
        exact ⟨tx_b_lt _ _, p, q⟩
  · have e : ∀ {A C : Option (Int32 × t_S)}, (if (nI L + (20 : Int32)) ≤ (12000 : Int32) then A else C) = C := by
      intro A C
      rw [show (20 : Int32) = nI 20 from rfl, nI_add, if_neg (show ¬ nI (L + 20) ≤ (12000 : Int32) from nI_ge (a := 12000) (by omega) (by omega))]
    unfold f_X2_append
    rw [h1, e]
    refine l2_bd (fun r => r = (-3, s)) (l2_sm rfl) (fun r er => ?_)
    subst er
    refine l2_sm ⟨l2_fr.rf, ?_⟩
    unfold f_X13_feed
    rw [show ((-3 : Int32), s).2.1 950 1 = nI L from h2, e]
    exact l2_sm ⟨rfl, l2_fr.rf, h0⟩
theorem tx_end {s : t_S} (h : tx_R s) (x : Int32) : t_hk (f_X12_end x s) (fun r => l2_fr tx_Wc s r.2 ∧ t_hk (f_X13_end x r.2) (fun r' => r'.1 = r.1 ∧ l2_fr tx_Wr r.2 r'.2 ∧ tx_R r'.2)) := by
  have h0 := h
  obtain ⟨L, B, hL, h1, h2, h3⟩ := h
  have e20 : (20 : Int64).toInt = 20 := rfl
  have no : t_hk (f_X13_end x s) (fun r => r = (-1, s)) → t_hk ((some ((-1 : Int32), s)).bind (fun r1 => some (r1.1, r1.2))) (fun r => l2_fr tx_Wc s r.2 ∧ t_hk (f_X13_end x r.2) (fun r' => r'.1 = r.1 ∧ l2_fr tx_Wr r.2 r'.2 ∧ tx_R r'.2)) := fun q => l2_sm ⟨l2_fr.rf, l2_imp q (fun r e => by rw [e]; exact ⟨rfl, l2_fr.rf, h0⟩)⟩
  unfold f_X12_end f_X2_cut
  by_cases a : 0 ≤ x.toInt ∧ x.toInt ≤ 20
  case neg =>
    have q : t_hk (f_X13_end x s) (fun r => r = (-1, s)) := by
      unfold f_X13_end
      rw [l2_in0 (by rw [e20]; exact a), if_pos rfl]
      exact l2_sm rfl
    by_cases b : x < 0
    · rw [if_pos b]; exact no q
    · rw [if_neg b]
      have b1 : ¬ x.toInt < 0 := fun z => b ((t_lt 0 rfl).mpr z)
      rw [if_pos ((t_gt 20 rfl).mpr (by omega))]
      exact no q
  have j := fun t : t_S => l2_in1 (h := 20) (s := t) a.1 (by rw [e20]; exact a.2)
  rw [if_neg (fun z => by have := (t_lt 0 rfl).mp z; omega), if_neg (fun z => by have := (t_gt 20 rfl).mp z; omega), h1]
  obtain ⟨n, hn, rfl⟩ := l2_nat (n := 20) (by decide) a
  by_cases b : 20 ≤ L
  · rw [if_pos (show (20 : Int32) ≤ nI L from nI_le (a := 20) b (by omega)), show (20 : Int32) = nI 20 from rfl, pk_sub b, nI_add]
    simp only [t_let]
    refine l2_sm ⟨l2_fr.set (Or.inr ⟨rfl, rfl⟩), ?_⟩
    unfold f_X13_end
    rw [j, if_neg l2_10]
    show t_hk (if (20 : Int32) ≤ (t_setI s 1 1 (nI (L - 20 + n))).1 950 1 then _ else _) _
    rw [l2_sO (by decide), h2, if_pos (show (20 : Int32) ≤ nI L from nI_le (a := 20) b (by omega)), nI_add, show (20 : Int32) = nI 20 from rfl, pk_sub (by omega)]
    refine l2_lt (l2_sm ⟨?_, l2_fr.set (Or.inr ⟨rfl, rfl⟩), L - 20 + n, B, by omega, ?_, ?_, fun i hi => ?_⟩)
    · show (t_setI (t_setI s 1 1 (nI (L - 20 + n))) 950 1 (nI (L + n - 20))).1 950 1 = (t_setI s 1 1 (nI (L - 20 + n))).1 1 1
      rw [l2_sI, mj_up_eq, l2_sI, mj_up_eq]
      congr 1
      omega
    · show (t_setI (t_setI s 1 1 (nI (L - 20 + n))) 950 1 (nI (L + n - 20))).1 1 1 = _
      rw [l2_sO (by decide), l2_sI, mj_up_eq]
    · show (t_setI (t_setI s 1 1 (nI (L - 20 + n))) 950 1 (nI (L + n - 20))).1 950 1 = _
      rw [l2_sI, mj_up_eq]
      congr 1
      omega
    · show _ ∧ (t_setI (t_setI s 1 1 (nI (L - 20 + n))) 950 1 (nI (L + n - 20))).1 2 i = _ ∧ (t_setI (t_setI s 1 1 (nI (L - 20 + n))) 950 1 (nI (L + n - 20))).1 951 i = _
      rw [l2_sO (by decide), l2_sO (by decide), l2_sO (by decide), l2_sO (by decide)]
      exact h3 i (by omega)
  · rw [if_neg (show ¬ (20 : Int32) ≤ nI L from nI_ge (b := 20) (by omega) (by decide))]
    refine no ?_
    unfold f_X13_end
    rw [j, if_neg l2_10, h2, if_neg (show ¬ (20 : Int32) ≤ nI L from nI_ge (b := 20) (by omega) (by decide))]
    exact l2_sm rfl
