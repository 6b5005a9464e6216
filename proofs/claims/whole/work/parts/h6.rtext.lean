/-! Level 2: a TEXT literal pushed in the reference: eight signs a long. -/
def y8 (S : Nat → Nat) : Nat := S 0 + 256 * (S 1 + 256 * (S 2 + 256 * (S 3 + 256 * (S 4 + 256 * (S 5 + 256 * (S 6 + 256 * S 7))))))
theorem y8_lt {S : Nat → Nat} (e : Nat) (he : e ≤ 8) (h : ∀ i, i < e → S i < 128) (z : ∀ i, e ≤ i → i < 8 → S i = 0) : 2 * y8 S < 256 ^ e ∨ (e = 0 ∧ y8 S = 0) := by
  unfold y8
  have a : ∀ i, i < 8 → (i < e ∧ S i < 128) ∨ (e ≤ i ∧ S i = 0) := fun i hi => by
    by_cases y : i < e
    · exact Or.inl ⟨y, h i y⟩
    · exact Or.inr ⟨by omega, z i (by omega) hi⟩
  have a0 := a 0 (by decide)
  have a1 := a 1 (by decide)
  have a2 := a 2 (by decide)
  have a3 := a 3 (by decide)
  have a4 := a 4 (by decide)
  have a5 := a 5 (by decide)
  have a6 := a 6 (by decide)
  have a7 := a 7 (by decide)
  have ce : e = 0 ∨ e = 1 ∨ e = 2 ∨ e = 3 ∨ e = 4 ∨ e = 5 ∨ e = 6 ∨ e = 7 ∨ e = 8 := by omega
  rcases ce with rfl | rfl | rfl | rfl | rfl | rfl | rfl | rfl | rfl <;> simp only [Nat.reducePow] <;> omega
theorem y8_add {S S' : Nat → Nat} {e b : Nat} (he : e < 8) (h : ∀ i, i < 8 → S' i = if i = e then S i + b else S i) : y8 S' = y8 S + b * 256 ^ e := by
  unfold y8
  rw [h 0 (by decide), h 1 (by decide), h 2 (by decide), h 3 (by decide), h 4 (by decide), h 5 (by decide), h 6 (by decide), h 7 (by decide)]
  have ce : e = 0 ∨ e = 1 ∨ e = 2 ∨ e = 3 ∨ e = 4 ∨ e = 5 ∨ e = 6 ∨ e = 7 := by omega
  rcases ce with rfl | rfl | rfl | rfl | rfl | rfl | rfl | rfl <;> simp only [Nat.reducePow, Nat.reduceEqDiff, reduceIte] <;> omega
/-- one sign more -/
theorem y8_or {B : Nat → Nat} {i : Nat} (hB : ∀ j, j ≤ i → B j < 128) : lN (y8 (x8_S B i (i / 8))) ||| lN (B i * 2 ^ (8 * (i % 8))) = lN (y8 (x8_S B (i + 1) (i / 8))) := by
  have lt := y8_lt (S := x8_S B i (i / 8)) (i % 8) (by omega) (fun k hk => by
    unfold x8_S
    split
    · exact hB _ (by omega)
    · omega) (fun k a b => by
    unfold x8_S
    rw [if_neg (by omega)])
  have bb := hB i (Nat.le_refl _)
  have add : y8 (x8_S B (i + 1) (i / 8)) = y8 (x8_S B i (i / 8)) + B i * 256 ^ (i % 8) := y8_add (e := i % 8) (by omega) (fun k hk => by
    unfold x8_S
    by_cases e : k = i % 8
    · rw [if_pos e, if_pos (by omega), if_neg (by omega), show 8 * (i / 8) + k = i by omega, Nat.zero_add]
    · rw [if_neg e]
      by_cases l : 8 * (i / 8) + k < i
      · rw [if_pos (by omega), if_pos l]
      · rw [if_neg (by omega), if_neg l])
  have key : ∀ k X b : Nat, X < 2 ^ k → b * 2 ^ k < 2 ^ 64 → X < 2 ^ 64 → lN X ||| lN (b * 2 ^ k) = lN (X + b * 2 ^ k) := fun k X b h1 h2 h3 => by
    rw [wb_or h3 h2, Nat.or_comm, Nat.mul_comm b, ← Nat.two_pow_add_eq_or_of_lt h1, Nat.add_comm]
  rw [add]
  generalize y8 (x8_S B i (i / 8)) = Y at *
  generalize B i = b at *
  have ce : i % 8 = 0 ∨ i % 8 = 1 ∨ i % 8 = 2 ∨ i % 8 = 3 ∨ i % 8 = 4 ∨ i % 8 = 5 ∨ i % 8 = 6 ∨ i % 8 = 7 := by omega
  rcases ce with e | e | e | e | e | e | e | e <;> rw [e] at lt ⊢ <;> simp only [Nat.reducePow, Nat.reduceMul] at lt ⊢
  · have := key 0 Y b (by simp only [Nat.reducePow]; omega) (by simp only [Nat.reducePow]; omega) (by omega); simp only [Nat.reducePow] at this; exact this
  · have := key 8 Y b (by simp only [Nat.reducePow]; omega) (by simp only [Nat.reducePow]; omega) (by omega); simp only [Nat.reducePow] at this; exact this
  · have := key 16 Y b (by simp only [Nat.reducePow]; omega) (by simp only [Nat.reducePow]; omega) (by omega); simp only [Nat.reducePow] at this; exact this
  · have := key 24 Y b (by simp only [Nat.reducePow]; omega) (by simp only [Nat.reducePow]; omega) (by omega); simp only [Nat.reducePow] at this; exact this
  · have := key 32 Y b (by simp only [Nat.reducePow]; omega) (by simp only [Nat.reducePow]; omega) (by omega); simp only [Nat.reducePow] at this; exact this
  · have := key 40 Y b (by simp only [Nat.reducePow]; omega) (by simp only [Nat.reducePow]; omega) (by omega); simp only [Nat.reducePow] at this; exact this
  · have := key 48 Y b (by simp only [Nat.reducePow]; omega) (by simp only [Nat.reducePow]; omega) (by omega); simp only [Nat.reducePow] at this; exact this
  · have := key 56 Y b (by simp only [Nat.reducePow]; omega) (by simp only [Nat.reducePow]; omega) (by omega); simp only [Nat.reducePow] at this; exact this
theorem y8_z {B : Nat → Nat} {i q : Nat} (h : i ≤ 8 * q) : y8 (x8_S B i q) = 0 := by
  have z : ∀ e, x8_S B i q e = 0 := fun e => by unfold x8_S; rw [if_neg (by omega)]
  unfold y8
  rw [z, z, z, z, z, z, z, z]
theorem y8_st {B : Nat → Nat} {i j q : Nat} (h1 : 8 * q + 8 ≤ i) (h2 : 8 * q + 8 ≤ j) : y8 (x8_S B i q) = y8 (x8_S B j q) := by
  have z : ∀ e, e < 8 → x8_S B i q e = x8_S B j q e := fun e he => by unfold x8_S; rw [if_pos (by omega), if_pos (by omega)]
  unfold y8
  rw [z 0 (by decide), z 1 (by decide), z 2 (by decide), z 3 (by decide), z 4 (by decide), z 5 (by decide), z 6 (by decide), z 7 (by decide)]
section
variable {r : t_S} {H n v s0 : Nat} {B : Nat → Nat}
theorem rs_text (h : r.1 950 98 = nI H) (hH : H < 790) (hn : n < 13000) (e7 : r.2.1 957 n = lN s0) (e8 : r.2.1 958 n = lN v) (hv : v ≤ 40) (hs : s0 + v ≤ 24300) (hB : ∀ j, j < v → B j ≤ 126 ∧ r.1 963 (s0 + j) = nI (B j)) : t_hk (f_X13_pushTextOf (nI n) r) (fun y => y.1 950 98 = nI (H + 1) ∧ y.2.1 1006 (260 * (40 + H)) = lN 2 ∧ y.2.1 1006 (260 * (40 + H) + 1) = lN v ∧ (∀ q, q < (v + 7) / 8 → y.2.1 1006 (260 * (40 + H) + 2 + q) = lN (y8 (x8_S B v q))) ∧ l2_fr (fun b j => (b = 950 ∧ j = 98) ∨ (b = 1006 ∧ 260 * (40 + H) ≤ j ∧ j < 260 * (40 + H) + 260)) r y) := by
  unfold f_X13_pushTextOf
  refine l2_ck (l2_ix hn (by decide)) ?_
  rw [nI_clamp (n := n) (by omega), e8]
  refine l2_bd _ (rs_push (k := 2) (v := lN v) h hH (by decide)) (fun y hy => ?_)
  obtain ⟨y1, y2, y3, y4, y5⟩ := hy
  rw [y1]
  obtain ⟨p, hp⟩ : ∃ p, p = 260 * (40 + H) := ⟨_, rfl⟩
  rw [← hp] at y3 y4 y5 ⊢
  -- zeros first
  refine l2_lp (fun w z => ∃ j s, j + w = (v + 7) / 8 ∧ z = (nI n, nI p, nI j, s) ∧ (∀ q, q < j → s.2.1 1006 (p + 2 + q) = 0) ∧ l2_fr (fun b x => b = 1006 ∧ p + 2 ≤ x ∧ x < p + 2 + j) y.2 s) ?_ (m := (v + 7) / 8) (Nat.lt_trans (show (v + 7) / 8 < 1000000000 by omega) l2_N) ⟨0, y.2, by omega, rfl, fun q hq => by omega, l2_fr.rf⟩
  rintro w z ⟨j, s, hj, rfl, g, fr⟩
  show t_hk (k_X13_pushTextOf_14 (nI n) (nI p) (nI j) s) _
  unfold k_X13_pushTextOf_14
  have q8 : s.2.1 958 n = lN v := by rw [(fr 958 n (by omega)).2.1, (y5 958 n (by omega)).2.1]; exact e8
  refine l2_ck (l2_ix hn (by decide)) ?_
  rw [nI_clamp (n := n) (by omega), q8, vr_packs (by omega), l2_bs]
  by_cases c : j = (v + 7) / 8
  · subst c
    refine l2_ck (nI_le (Nat.le_refl _) (by omega)) (l2_mp ?_)
    -- then the signs
    refine l2_lp (fun w z => ∃ i s2, i + w = v ∧ z = (nI n, nI p, nI i, s2) ∧ (∀ q, q < (v + 7) / 8 → s2.2.1 1006 (p + 2 + q) = lN (y8 (x8_S B i q))) ∧ l2_fr (fun b x => b = 1006 ∧ p + 2 ≤ x ∧ x < p + 2 + (v + 7) / 8) y.2 s2) ?_ (m := v) (Nat.lt_trans (show v < 1000000000 by omega) l2_N) ⟨0, s, by omega, rfl, fun q hq => by rw [g q hq, y8_z (Nat.zero_le _)]; rfl, fr⟩
    rintro w2 z ⟨i, s2, hi, rfl, g2, fr2⟩
    show t_hk (k_X13_pushTextOf_46 (nI n) (nI p) (nI i) s2) _
    unfold k_X13_pushTextOf_46
    have q8' : s2.2.1 958 n = lN v := by rw [(fr2 958 n (by omega)).2.1, (y5 958 n (by omega)).2.1]; exact e8
    have q7' : s2.2.1 957 n = lN s0 := by rw [(fr2 957 n (by omega)).2.1, (y5 957 n (by omega)).2.1]; exact e7
    refine l2_ck (l2_ix hn (by decide)) ?_
    rw [nI_clamp (n := n) (by omega), q8', q7', lN_i, lN_i]
    by_cases d : i = v
    · subst d
      refine l2_ck (nI_le (Nat.le_refl _) (by omega)) (l2_mp (l2_sm ⟨?_, ?_, ?_, fun q hq => g2 q hq, ?_⟩))
      · rw [(fr2 950 98 (by omega)).1]; exact y2
      · rw [(fr2 1006 p (by omega)).2.1]; exact y3
      · rw [(fr2 1006 (p + 1) (by omega)).2.1]; exact y4
      · exact (y5.mono (fun b x q => by omega)).trans (fr2.mono (fun b x q => by omega))
    · have iv : i < v := by omega
      obtain ⟨b1, b2⟩ := hB i iv
      have d8 : nI i / (8 : Int32) = nI (i / 8) := pk_div (a := i) (d := 8) (by omega) (by decide) (by decide)
      have r8 : nI i - nI i / (8 : Int32) * (8 : Int32) = nI (i % 8) := pk_rem (a := i) (d := 8) (by omega) (by decide) (by decide)
      have e63 : s2.1 963 (s0 + i) = nI (B i) := by rw [(fr2 963 (s0 + i) (by omega)).1, (y5 963 (s0 + i) (by omega)).1]; exact b2
      refine l2_no (nI_ge iv (by omega)) ?_
      rw [r8, d8, show (2 : Int32) = nI 2 from rfl, nI_add, nI_add, nI_add]
      refine l2_ck (l2_ix (by omega) (by decide)) (l2_ck (l2_ix (by omega) (by decide)) (l2_lt ?_))
      rw [nI_clamp (n := p + 2 + i / 8) (by omega), nI_clamp (n := s0 + i) (by omega), e63, g2 (i / 8) (by omega), nI_l (n := B i) (by omega), show (8 : Int32) * nI (i % 8) = nI (8 * (i % 8)) from pk_mul 8 _, wb_shl (B i) (k := 8 * (i % 8)) (by omega), y8_or (fun j hj => by have := (hB j (by omega)).1; omega), nI_1]
      refine l2_sm ⟨w2 - 1, by omega, i + 1, _, by omega, rfl, fun q hq => ?_, fr2.trans (l2_fr.setJ ⟨rfl, by omega, by omega⟩)⟩
      rw [l2_jJ, l2_upif]
      by_cases u : q = i / 8
      · rw [if_pos (by omega), u]
      · rw [if_neg (by omega), g2 q hq]
        by_cases l : q < i / 8
        · rw [y8_st (j := i + 1) (by omega) (by omega)]
        · rw [y8_z (by omega), y8_z (by omega)]
  · refine l2_no (nI_ge (by omega) (by omega)) ?_
    rw [show (2 : Int32) = nI 2 from rfl, nI_add, nI_add]
    refine l2_ck (l2_ix (by omega) (by decide)) (l2_lt ?_)
    rw [nI_clamp (n := p + 2 + j) (by omega), nI_1]
    refine l2_sm ⟨w - 1, by omega, j + 1, _, by omega, rfl, fun q hq => ?_, (fr.mono (fun b x q => by omega)).trans (l2_fr.setJ ⟨rfl, by omega, by omega⟩)⟩
    rw [l2_jJ, l2_upif]
    by_cases u : q = j
    · rw [if_pos (by omega)]
    · rw [if_neg (by omega)]
      exact g q (by omega)
end
