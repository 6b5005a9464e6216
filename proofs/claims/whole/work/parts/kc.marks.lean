/-! Level 2: the class marks the parts of what is held that a VALUE is alike to. -/
def mkW (t b j : Nat) : Prop := (b = 361 ∨ b = 362) ∧ j = t
theorem or_one {w : Int64} {v j : Nat} (hv : v < 64) (hj : j < 64) : (w ||| ((1 : Int64) <<< ((nI v).toInt64 &&& 63))).toBitVec.getLsbD j = true ↔ w.toBitVec.getLsbD j = true ∨ j = v := by
  have am : ∀ v, v < 64 → (((nI v).toInt64 &&& 63).toBitVec.smod 64#64).toNat = v := by decide +kernel
  have eb : (w ||| ((1 : Int64) <<< ((nI v).toInt64 &&& 63))).toBitVec = w.toBitVec ||| (1#64 <<< v) := by
    show w.toBitVec ||| (1#64 <<< (((nI v).toInt64 &&& 63).toBitVec.smod 64#64)) = _
    rw [BitVec.shiftLeft_eq', am v hv]
  have one : (1#64 <<< v).getLsbD j = true ↔ j = v := by
    rw [BitVec.getLsbD_shiftLeft]
    have t1 : ∀ q, (1#64).getLsbD q = decide (q = 0) := fun q => by
      show (1 : Nat).testBit q = _
      cases q with
      | zero => rfl
      | succ q => rw [Nat.testBit_succ]; simp
    rw [t1]
    simp [hj]
    omega
  rw [eb, BitVec.getLsbD_or, Bool.or_eq_true, one]
theorem sJ_ne {s : t_S} {a k b j : Nat} {v : Int64} (h : b ≠ a) : (t_setJ s a k v).2.1 b j = s.2.1 b j := ((l2_fr.setJ (W := fun b j => b = a ∧ j = k) (s := s) (v := v) ⟨rfl, rfl⟩) b j (fun z => h z.1)).2.1
section
variable {s : t_S} {t i o n : Nat}
theorem mk_loop {P : Nat → Prop} {z : Prop} (hn : n ≤ 120) (ht : t < 6100) (hs : ∀ s1, l2_fr (mkW t) s s1 → ∀ v, v < n → ∃ w : Int32, f_X8_same 338 (nI o) 338 (nI i + nI v) s1 = some w ∧ (w = 0 ↔ ¬ P v)) : ∀ (j v : Nat) (s1 : t_S) (N : Nat), v + j = n → j < N → l2_fr (mkW t) s s1 → (∀ b, b ≤ 127 → (bit2 (s1.2.1 361 t) (s1.2.1 362 t) b ↔ (b = 0 ∧ z) ∨ (0 < b ∧ b ≤ v ∧ P (b - 1)))) → ∃ s', t_loop b_X10_markSame_40 N (nI t, 338, nI o, nI i, nI n, nI v, s1) = some s' ∧ l2_fr (mkW t) s s' ∧ ∀ b, b ≤ 127 → (bit2 (s'.2.1 361 t) (s'.2.1 362 t) b ↔ (b = 0 ∧ z) ∨ (0 < b ∧ b ≤ n ∧ P (b - 1))) := by
  intro j
  induction j with
  | zero =>
    intro v s1 N hv hN fr h
    obtain ⟨N, rfl⟩ : ∃ y, N = y + 1 := ⟨N - 1, by omega⟩
    obtain rfl : v = n := by omega
    refine ⟨s1, ?_, fr, h⟩
    have st : b_X10_markSame_40 (nI t, 338, nI o, nI i, nI v, nI v, s1) = some (.inr s1) := by
      show k_X10_markSame_40 (nI t) 338 (nI o) (nI i) (nI v) (nI v) s1 = _
      unfold k_X10_markSame_40
      rw [if_pos (nI_le (Nat.le_refl _) (by omega))]
      rfl
    exact l2_lpR st
  | succ j ih =>
    intro v s1 N hv hN fr h
    obtain ⟨N, rfl⟩ : ∃ y, N = y + 1 := ⟨N - 1, by omega⟩
    obtain ⟨w, w1, w2⟩ := hs s1 fr v (by omega)
    have go : ∀ s2, l2_fr (mkW t) s s2 → (∀ b, b ≤ 127 → (bit2 (s2.2.1 361 t) (s2.2.1 362 t) b ↔ (b = 0 ∧ z) ∨ (0 < b ∧ b ≤ v + 1 ∧ P (b - 1)))) → b_X10_markSame_40 (nI t, 338, nI o, nI i, nI n, nI v, s1) = some (.inl (nI t, 338, nI o, nI i, nI n, nI (v + 1), s2)) → ∃ s', t_loop b_X10_markSame_40 (N + 1) (nI t, 338, nI o, nI i, nI n, nI v, s1) = some s' ∧ l2_fr (mkW t) s s' ∧ ∀ b, b ≤ 127 → (bit2 (s'.2.1 361 t) (s'.2.1 362 t) b ↔ (b = 0 ∧ z) ∨ (0 < b ∧ b ≤ n ∧ P (b - 1))) := fun s2 f2 h2 st => by
      rw [l2_lpS st]
      exact ih (v + 1) s2 N (by omega) (by omega) f2 h2
    have st0 : b_X10_markSame_40 (nI t, 338, nI o, nI i, nI n, nI v, s1) = (if w = (0 : Int32) then some (.inl (nI t, 338, nI o, nI i, nI n, nI (v + 1), s1)) else (if (63 : Int32) ≤ nI v then some (.inl (nI t, 338, nI o, nI i, nI n, nI (v + 1), t_setJ s1 362 t ((s1.2.1 362 t) ||| ((1 : Int64) <<< ((nI v - (63 : Int32)).toInt64 &&& 63))))) else some (.inl (nI t, 338, nI o, nI i, nI n, nI (v + 1), t_setJ s1 361 t ((s1.2.1 361 t) ||| ((1 : Int64) <<< ((nI v + (1 : Int32)).toInt64 &&& 63))))))) := by
      show k_X10_markSame_40 (nI t) 338 (nI o) (nI i) (nI n) (nI v) s1 = _
      unfold k_X10_markSame_40 k_X10_markSame_102
      rw [if_neg (nI_ge (show v < n by omega) (by omega)), w1, l2_bs, if_pos (l2_ix ht (by decide)), if_pos (l2_ix ht (by decide)), nI_clamp (n := t) (by omega), t_let, t_let]
      simp only [nI_1]
    by_cases cw : w = 0
    · rw [if_pos cw] at st0
      refine go s1 fr (fun b hb => (h b hb).trans ?_) st0
      have nP := w2.mp cw
      refine or_congr Iff.rfl ⟨fun y => ⟨y.1, by omega, y.2.2⟩, fun y => ⟨y.1, ?_, y.2.2⟩⟩
      by_cases e : b = v + 1
      · subst e
        exact absurd y.2.2 nP
      · omega
    · rw [if_neg cw] at st0
      have yP : P v := Classical.byContradiction (fun y => cw (w2.mpr y))
      by_cases c63 : 63 ≤ v
      · rw [if_pos (show (63 : Int32) ≤ nI v from nI_le (a := 63) c63 (by omega)), show nI v - (63 : Int32) = nI (v - 63) from nI_dif c63] at st0
        refine go _ (fr.trans (l2_fr.setJ ⟨Or.inr rfl, rfl⟩)) (fun b hb => ?_) st0
        have e61 : (t_setJ s1 362 t ((s1.2.1 362 t) ||| ((1 : Int64) <<< ((nI (v - 63)).toInt64 &&& 63)))).2.1 361 t = s1.2.1 361 t := sJ_ne (by decide)
        have e62 : (t_setJ s1 362 t ((s1.2.1 362 t) ||| ((1 : Int64) <<< ((nI (v - 63)).toInt64 &&& 63)))).2.1 362 t = (s1.2.1 362 t) ||| ((1 : Int64) <<< ((nI (v - 63)).toInt64 &&& 63)) := by
          rw [l2_jJ]
          exact mj_up_eq _ _ _
        rw [e61, e62]
        have hb0 := h b hb
        unfold bit2 at hb0 ⊢
        by_cases b64 : b < 64
        · rw [if_pos b64] at hb0 ⊢
          rw [hb0]
          exact or_congr Iff.rfl ⟨fun y => ⟨y.1, by omega, y.2.2⟩, fun y => ⟨y.1, by omega, y.2.2⟩⟩
        · rw [if_neg b64] at hb0 ⊢
          rw [or_one (by omega) (by omega), hb0]
          constructor
          · rintro ((y | y) | y)
            · omega
            · exact Or.inr ⟨y.1, by omega, y.2.2⟩
            · exact Or.inr ⟨by omega, by omega, by rw [show b - 1 = v by omega]; exact yP⟩
          · rintro (y | ⟨y1, y2, y3⟩)
            · omega
            · by_cases e : b = v + 1
              · exact Or.inr (by omega)
              · exact Or.inl (Or.inr ⟨y1, by omega, y3⟩)
      · rw [if_neg (show ¬ (63 : Int32) ≤ nI v from nI_ge (b := 63) (by omega) (by decide)), nI_1] at st0
        refine go _ (fr.trans (l2_fr.setJ ⟨Or.inl rfl, rfl⟩)) (fun b hb => ?_) st0
        have e62 : (t_setJ s1 361 t ((s1.2.1 361 t) ||| ((1 : Int64) <<< ((nI (v + 1)).toInt64 &&& 63)))).2.1 362 t = s1.2.1 362 t := sJ_ne (by decide)
        have e61 : (t_setJ s1 361 t ((s1.2.1 361 t) ||| ((1 : Int64) <<< ((nI (v + 1)).toInt64 &&& 63)))).2.1 361 t = (s1.2.1 361 t) ||| ((1 : Int64) <<< ((nI (v + 1)).toInt64 &&& 63)) := by
          rw [l2_jJ]
          exact mj_up_eq _ _ _
        rw [e61, e62]
        have hb0 := h b hb
        unfold bit2 at hb0 ⊢
        by_cases b64 : b < 64
        · rw [if_pos b64] at hb0 ⊢
          rw [or_one (by omega) b64, hb0]
          constructor
          · rintro ((y | y) | y)
            · exact Or.inl y
            · exact Or.inr ⟨y.1, by omega, y.2.2⟩
            · exact Or.inr ⟨by omega, by omega, by rw [show b - 1 = v by omega]; exact yP⟩
          · rintro (y | ⟨y1, y2, y3⟩)
            · exact Or.inl (Or.inl y)
            · by_cases e : b = v + 1
              · exact Or.inr (by omega)
              · exact Or.inl (Or.inr ⟨y1, by omega, y3⟩)
        · rw [if_neg b64] at hb0 ⊢
          rw [hb0]
          exact or_congr Iff.rfl ⟨fun y => ⟨y.1, by omega, y.2.2⟩, fun y => ⟨y.1, by omega, y.2.2⟩⟩
/-- all marks of one node -/
theorem mk_go {ti to : Int} {ki ko no : Nat} (ht : t < 6100) (hc : vl_c ti n ki (s.2.1 338 i)) (ho : vl_c to no ko (s.2.1 338 o)) (n0 : 0 < n ∧ n ≤ 120) (m0 : 0 < no ∧ no ≤ 120) (hi : i + 240 ≤ 48000) (hoo : o + 240 ≤ 48000) : ∃ s', f_X10_markSame (nI t) 338 (nI o) (nI i) s = some s' ∧ l2_fr (mkW t) s s' ∧ (bit2 (s'.2.1 361 t) (s'.2.1 362 t) 0 ↔ ko = 4) ∧ ∀ v, v < n → (bit2 (s'.2.1 361 t) (s'.2.1 362 t) (v + 1) ↔ ∀ d, d < no → s.2.1 338 (o + d) = s.2.1 338 (i + v + d)) := by
  have ok : t_oka 338 2 (t_ln 338) = true := by decide +kernel
  have ln : t_ln 338 = 48000 := by decide +kernel
  have main : ∀ (z : Prop) (K0 : Int64), (∀ b, b ≤ 127 → (bit2 K0 0 b ↔ b = 0 ∧ z)) → ∃ s', k_X10_markSame_29 (nI t) 338 (nI o) (nI i) (nI n) K0 (nI t) s = some s' ∧ l2_fr (mkW t) s s' ∧ (bit2 (s'.2.1 361 t) (s'.2.1 362 t) 0 ↔ z) ∧ ∀ v, v < n → (bit2 (s'.2.1 361 t) (s'.2.1 362 t) (v + 1) ↔ ∀ d, d < no → s.2.1 338 (o + d) = s.2.1 338 (i + v + d)) := fun z K0 hz => by
    have f2 : l2_fr (mkW t) s (t_setJ (t_setJ s 361 t K0) 362 t 0) := (l2_fr.setJ ⟨Or.inl rfl, rfl⟩).trans (l2_fr.setJ ⟨Or.inr rfl, rfl⟩)
    have e62 : (t_setJ (t_setJ s 361 t K0) 362 t 0).2.1 362 t = 0 := by
      rw [l2_jJ]
      exact mj_up_eq _ _ _
    have e61 : (t_setJ (t_setJ s 361 t K0) 362 t 0).2.1 361 t = K0 := by
      rw [sJ_ne (by decide), l2_jJ]
      exact mj_up_eq _ _ _
    obtain ⟨s', a1, a2, a3⟩ := mk_loop (s := s) (t := t) (i := i) (o := o) (n := n) (P := fun v => ∀ d, d < no → s.2.1 338 (o + d) = s.2.1 338 (i + v + d)) (z := z) n0.2 ht (fun s1 fr v hv => by
      have e38 : ∀ q, s1.2.1 338 q = s.2.1 338 q := fun q => (fr 338 q (fun y => by unfold mkW at y; omega)).2.1
      refine ⟨_, by rw [nI_add]; exact vl_rows2 (t := to) (k := ko) (n := no) ok ok (by omega) (by omega) (by omega) (by omega) (fun _ => by omega) m0.1 (by rw [e38]; exact ho), ?_⟩
      simp only [e38]
      by_cases c : ∀ d, d < no → s.2.1 338 (o + d) = s.2.1 338 (i + v + d)
      · rw [if_pos c]
        exact ⟨fun y => absurd y (by decide), fun y => absurd c y⟩
      · rw [if_neg c]
        exact ⟨fun _ => c, fun _ => rfl⟩) n 0 _ t_N (by omega) (by have := l2_N; omega) f2 (fun b hb => by
      rw [e61, e62, hz b hb]
      exact ⟨fun y => Or.inl y, fun y => y.resolve_right (fun w => by omega)⟩)
    refine ⟨s', ?_, a2, (a3 0 (by omega)).trans ⟨fun y => by
        rcases y with y | y
        · exact y.2
        · exact absurd y.1 (Nat.lt_irrefl 0), fun y => Or.inl ⟨rfl, y⟩⟩, fun v hv => (a3 (v + 1) (by omega)).trans ⟨fun y => by
        rcases y with y | y
        · omega
        · exact y.2.2, fun y => Or.inr ⟨by omega, by omega, y⟩⟩⟩
    unfold k_X10_markSame_29
    rw [if_pos (l2_ix ht (by decide)), nI_clamp (n := t) (by omega), t_let, if_pos (l2_ix ht (by decide)), t_let]
    exact a1
  have bz : ∀ b, b ≤ 127 → ¬ bit2 0 0 b := fun b hb => by
    unfold bit2
    by_cases h : b < 64
    · rw [if_pos h]; show ¬ (0#64).getLsbD b = true; simp
    · rw [if_neg h]; show ¬ (0#64).getLsbD (b - 64) = true; simp
  have b1 : ∀ b, b ≤ 127 → (bit2 1 0 b ↔ b = 0) := fun b hb => by
    unfold bit2
    by_cases h : b < 64
    · rw [if_pos h]
      show (1 : Nat).testBit b = true ↔ b = 0
      cases b with
      | zero => exact ⟨fun _ => rfl, fun _ => rfl⟩
      | succ q => rw [Nat.testBit_succ]; simp
    · rw [if_neg h]
      show (0#64).getLsbD (b - 64) = true ↔ b = 0
      simp
      omega
  have e4 : nI ko = (4 : Int32) ↔ ko = 4 := nI_eq (b := 4) (by have := ho.2.2; omega) (by decide)
  unfold f_X10_markSame
  rw [if_pos ok, if_pos (l2_ix (by omega) (by omega)), if_pos (l2_ix (by omega) (by omega)), nI_clamp (n := o) (by omega), nI_clamp (n := i) (by omega), vl_kind ho, vl_size hc]
  by_cases c4 : ko = 4
  · rw [if_pos (e4.mpr c4)]
    obtain ⟨s', y1, y2, y3, y4⟩ := main True 1 (fun b hb => (b1 b hb).trans ⟨fun y => ⟨y, True.intro⟩, fun y => y.1⟩)
    exact ⟨s', y1, y2, y3.trans ⟨fun _ => c4, fun _ => True.intro⟩, y4⟩
  · rw [if_neg (fun y => c4 (e4.mp y))]
    obtain ⟨s', y1, y2, y3, y4⟩ := main False 0 (fun b hb => ⟨fun y => absurd y (bz b hb), fun y => y.2.elim⟩)
    exact ⟨s', y1, y2, y3.trans ⟨fun y => y.elim, fun y => absurd y c4⟩, y4⟩
end
