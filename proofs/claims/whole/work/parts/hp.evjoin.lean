/-! Level 2: exps worked out: & of two TEXTS or two LISTS. -/
theorem VW.txt {c r : Nat → Int64} {f a p n m : Nat} (V : VW c r f a p n m) (h : r p = lN 2) : ∃ (v : Nat) (B : Nat → Nat), vl_c v n 2 (c a) ∧ v ≤ 40 ∧ n = 1 + (v + 7) / 8 ∧ m = 2 + (v + 7) / 8 ∧ r (p + 1) = lN v ∧ (∀ j, j < v → 32 ≤ B j ∧ B j ≤ 126) ∧ ∀ q, q < (v + 7) / 8 → vr_X v q B (c (a + 1 + q)) (r (p + 2 + q)) := by
  cases f with
  | zero => exact V.elim
  | succ f =>
  obtain ⟨⟨h1, h2, h4⟩, t, k, h3, h5, h6⟩ := V
  have k2 : k = 2 := lN_inj (by have := h3.2.2; omega) (by decide) (h5.symm.trans h)
  subst k2
  rcases h6 with ⟨y, _⟩ | ⟨y, _⟩ | ⟨y, _⟩ | ⟨v, y, y2, x1, x2, x3, x4, B, x5, x6⟩ | ⟨y, _⟩ | ⟨v, I, P, y, _⟩ | ⟨v, I, P, Y, y, _⟩
  · omega
  · omega
  · omega
  · subst y2
    exact ⟨v, B, h3, x1, x2, x3, x4, x5, x6⟩
  · omega
  · omega
  · omega
theorem VW.lst {c r : Nat → Int64} {a p n m : Nat} (V : VW c r 120 a p n m) (h : r p = lN 8) : ∃ (v : Nat) (I P : Nat → Nat), vl_c v n 8 (c a) ∧ v ≤ 16 ∧ r (p + 1) = lN v ∧ 2 ≤ m ∧ (I 0 = 0 ∧ P 0 = 0 ∧ I v = n - 1 ∧ P v = m - 2) ∧ ∀ j, j < v → (I j < I (j + 1) ∧ P j ≤ P (j + 1) ∧ I (j + 1) ≤ n - 1 ∧ P (j + 1) ≤ m - 2) ∧ r (p + 2 + P j) ≠ lN 4 ∧ VW c r 119 (a + 1 + I j) (p + 2 + P j) (I (j + 1) - I j) (P (j + 1) - P j) := by
  obtain ⟨⟨h1, h2, h4⟩, t, k, h3, h5, h6⟩ := V
  have k2 : k = 8 := lN_inj (by have := h3.2.2; omega) (by decide) (h5.symm.trans h)
  subst k2
  rcases h6 with ⟨y, _⟩ | ⟨y, _⟩ | ⟨y, _⟩ | ⟨v, y, _⟩ | ⟨y, _⟩ | ⟨v, I, P, y, y2, v16, d, m2, x1, x2, x3, x4, x5⟩ | ⟨v, I, P, Y, y, _⟩
  · omega
  · omega
  · omega
  · omega
  · omega
  · subst y2
    exact ⟨v, I, P, h3, v16, d, m2, ⟨x1, x2, x3, x4⟩, x5⟩
  · omega
section
variable {κ : KPP} {c0 r0 : t_S} {c1 r1 cs rs s : t_S} {D a H n1 k1 n2 k2 k k' T U : Nat} {w v : Int64} {t t' : Int}
theorem cj_e {l1 l3 : Int64} {l5 l6 l7 l8 l9 e : Int32} (he : e ≠ 0) : k_X0_join_123 l1 l3 l5 l6 l7 l8 l9 (t_setI c1 334 12 e) = some (t_setI c1 334 12 e) := by
  unfold k_X0_join_123
  rw [if_neg (by rw [l2_g, if_pos rfl]; exact he)]
/-- the class: which of them -/
theorem cj_at (h : T2 D a H n1 k1 n2 k2 c1 r1) (hd : vl_c t n1 k w) (hd' : vl_c t' n2 k' v) : (¬ (k = k' ∧ (k = 2 ∨ k = 8)) → f_X0_join w v c1 = some (t_setI c1 334 12 1)) ∧ (k = k' → k = 2 ∨ k = 8 → f_X0_join w v c1 = k_X0_join_86 w v (nI k) (nI a) (nI (a + n1)) (f_X8_extent w c1 + f_X8_extent v c1) (nI (n1 + n2 - 1)) c1) := by
  obtain ⟨⟨V, W⟩, ⟨hA, h39, h392, h7, h12⟩, ⟨h98, h97⟩, b1, b2, b3⟩ := h
  have s2 : c1.1 334 7 - (2 : Int32) = nI D := by
    rw [h7, show (2 : Int32) = nI 2 from rfl, Nat.add_comm D 2]; exact vr_len
  have s1 : c1.1 334 7 - (1 : Int32) = nI (D + 1) := by rw [h7, sy_m1n (by omega), show D + 2 - 1 = D + 1 by omega]
  have pp := V.pos
  have pw := W.pos
  have kb := hd.2.2
  have kb' := hd'.2.2
  have qk : nI k = nI k' ↔ k = k' := nI_eq (by omega) (by omega)
  have q2 : nI k = (2 : Int32) ↔ k = 2 := nI_eq (b := 2) (by omega) (by decide)
  have q8 : nI k = (8 : Int32) ↔ k = 8 := nI_eq (b := 8) (by omega) (by decide)
  have sz : nI n1 + nI n2 - (1 : Int32) = nI (n1 + n2 - 1) := by rw [nI_add, sy_m1n (by omega)]
  unfold f_X0_join k_X0_join_78
  rw [s2, s1, if_pos (l2_ix (by omega) (by decide)), if_pos (l2_ix (by omega) (by decide)), nI_clamp (n := D) (by omega), nI_clamp (n := D + 1) (by omega), hA, h39, vl_kind hd, vl_kind hd', vl_size hd, vl_size hd', sz]
  constructor
  · intro no
    by_cases e : k = k'
    · rw [if_pos (qk.mpr e), if_neg (fun y => no ⟨e, Or.inl (q2.mp y)⟩), if_neg (fun y => no ⟨e, Or.inr (q8.mp y)⟩), t_let, cj_e (by decide)]
    · rw [if_neg (fun y => e (qk.mp y)), t_let, cj_e (by decide)]
  · intro e o
    rw [if_pos (qk.mpr e)]
    by_cases e2 : k = 2
    · rw [if_pos (q2.mpr e2)]
    · rw [if_neg (fun y => e2 (q2.mp y)), if_pos (q8.mpr (by omega))]
/-- the reference: which of them -/
theorem rj_at (hT : T < 600000) (hU : U < 600000) (p0 : r1.2.1 1006 T = lN k) (p0' : r1.2.1 1006 U = lN k') (kb : k < 100) (kb' : k' < 100) : (¬ (k = k' ∧ (k = 2 ∨ k = 8)) → f_X13_joinRows (nI T) (nI U) r1 = (f_X13_error 1 r1).bind (fun r => some r)) ∧ (k = 2 → k' = 2 → f_X13_joinRows (nI T) (nI U) r1 = k_X13_joinRows_80 (nI T) (nI U) 1 r1) ∧ (k = 8 → k' = 8 → f_X13_joinRows (nI T) (nI U) r1 = k_X13_joinRows_80 (nI T) (nI U) 0 r1) := by
  have z : ∀ (kk y : Nat), kk < 100 → y < 100 → (lg_cmp (lN kk) (lN y) = 0 ↔ kk = y) := fun kk y hk hy => by
    rw [l2_cmp0]
    exact ⟨fun q => lN_inj (by omega) (by omega) q, fun q => by rw [q]⟩
  have z2 : ∀ kk : Nat, kk < 100 → (lg_cmp (lN kk) (2 : Int64) = 0 ↔ kk = 2) := fun kk hk => z kk 2 hk (by decide)
  have z8 : ∀ kk : Nat, kk < 100 → (lg_cmp (lN kk) (8 : Int64) = 0 ↔ kk = 8) := fun kk hk => z kk 8 hk (by decide)
  have iT : t_ix (nI T) 626600 = true := l2_ix (by omega) (by decide)
  have iU : t_ix (nI U) 626600 = true := l2_ix (by omega) (by decide)
  have cT : (nI T).toNatClampNeg = T := nI_clamp (n := T) (by omega)
  have cU : (nI U).toNatClampNeg = U := nI_clamp (n := U) (by omega)
  -- behind the flag
  have f31 : ∀ f : Int32, (f = 0 → k = 8 → k' = 8 → k_X13_joinRows_31 (nI T) (nI U) f r1 = k_X13_joinRows_80 (nI T) (nI U) 0 r1) ∧ (f = 0 → ¬ (k = 8 ∧ k' = 8) → k_X13_joinRows_31 (nI T) (nI U) f r1 = (f_X13_error 1 r1).bind (fun r => some r)) ∧ (f = 1 → k = 2 → k_X13_joinRows_31 (nI T) (nI U) f r1 = k_X13_joinRows_80 (nI T) (nI U) 1 r1) := fun f => by
    unfold k_X13_joinRows_31 k_X13_joinRows_62 k_X13_joinRows_63
    rw [if_pos iT, cT, p0]
    refine ⟨fun f0 e1 e2 => ?_, fun f0 no => ?_, fun f1 e1 => ?_⟩
    · subst f0
      rw [if_pos ((z8 k kb).mpr e1), if_pos iU, cU, p0', if_pos ((z8 k' kb').mpr e2), if_pos rfl, if_neg (by decide)]
    · subst f0
      by_cases e1 : k = 8
      · rw [if_pos ((z8 k kb).mpr e1), if_pos iU, cU, p0', if_neg (fun y => no ⟨e1, (z8 k' kb').mp y⟩), if_pos rfl, if_pos rfl]
      · rw [if_neg (fun y => e1 ((z8 k kb).mp y)), if_pos rfl, if_pos rfl]
    · subst f1
      rw [if_neg (fun y => by have := (z8 k kb).mp y; omega), if_neg (by decide)]
  unfold f_X13_joinRows k_X13_joinRows_30
  rw [if_pos iT, cT, p0]
  refine ⟨fun no => ?_, fun e1 e2 => ?_, fun e1 e2 => ?_⟩
  · by_cases e1 : k = 2
    · rw [if_pos ((z2 k kb).mpr e1), if_pos iU, cU, p0', if_neg (fun y => no ⟨by have := (z2 k' kb').mp y; omega, Or.inl e1⟩)]
      exact (f31 0).2.1 rfl (by omega)
    · rw [if_neg (fun y => e1 ((z2 k kb).mp y))]
      exact (f31 0).2.1 rfl (by omega)
  · rw [if_pos ((z2 k kb).mpr e1), if_pos iU, cU, p0', if_pos ((z2 k' kb').mpr e2)]
    exact (f31 1).2.2 rfl e1
  · rw [if_neg (fun y => by have := (z2 k kb).mp y; omega)]
    exact (f31 0).1 rfl e1 e2
end
