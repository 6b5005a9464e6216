/-! Level 2: the reference: whether each has a place to itself, f_X13_hasAll. -/
/-- a loop that ends in what comes behind it -/
theorem l2_lpM {σ ρ : Type} {b : σ → Option (σ ⊕ ρ)} {n : Nat} {x : σ} {X : Option ρ} (h : b x = X.map Sum.inr) : t_loop b (n + 1) x = X := by
  cases X with
  | none =>
    unfold t_loop
    rw [h]
    rfl
  | some r => exact l2_lpR h
section
variable {m R : Nat} {A : Nat → Nat → Prop} {x1 x2 x3 x4 : Int64} {s : t_S}
def haW (b _j : Nat) : Prop := 1031 ≤ b ∧ b ≤ 1033
/-- which long a row stands in -/
def hx (x1 x2 x3 x4 : Int64) (i : Nat) : Int64 := if i < 4 then x1 else if i < 8 then x2 else if i < 12 then x3 else x4
theorem ha_rows (hm : m ≤ 16) : ∀ (j i : Nat) (s1 : t_S) (n : Nat), i + j = m → j < n → l2_fr haW s s1 → (∀ l, l < i → s1.1 1031 l = (((hx x1 x2 x3 x4 l) >>> (((16 : Int32) * (nI l - nI l / (4 : Int32) * (4 : Int32))).toInt64 &&& 63)) &&& (65535 : Int64)).toInt32) → ∃ s', t_loop b_X13_hasAll_3 n (x1, x2, x3, x4, nI m, nI R, nI i, s1) = t_loop b_X13_hasAll_78 t_N (nI m, nI R, 0, s') ∧ l2_fr haW s s' ∧ ∀ l, l < m → s'.1 1031 l = (((hx x1 x2 x3 x4 l) >>> (((16 : Int32) * (nI l - nI l / (4 : Int32) * (4 : Int32))).toInt64 &&& 63)) &&& (65535 : Int64)).toInt32 := by
  intro j
  induction j with
  | zero =>
    intro i s1 n hi hn f h
    obtain ⟨n, rfl⟩ : ∃ y, n = y + 1 := ⟨n - 1, by omega⟩
    obtain rfl : i = m := by omega
    refine ⟨s1, ?_, f, h⟩
    have st : b_X13_hasAll_3 (x1, x2, x3, x4, nI i, nI R, nI i, s1) = (t_loop b_X13_hasAll_78 t_N (nI i, nI R, 0, s1)).map Sum.inr := by
      show k_X13_hasAll_3 x1 x2 x3 x4 (nI i) (nI R) (nI i) s1 = _
      unfold k_X13_hasAll_3
      rw [if_pos (nI_le (Nat.le_refl _) (by omega))]
    exact l2_lpM st
  | succ j ih =>
    intro i s1 n hi hn f h
    obtain ⟨n, rfl⟩ : ∃ y, n = y + 1 := ⟨n - 1, by omega⟩
    have le : ∀ c : Nat, c < 100 → (nI c ≤ nI i ↔ c ≤ i) := fun c hc => ⟨fun y => Classical.byContradiction (fun z => absurd y (nI_ge (show i < c by omega) (by omega))), fun y => nI_le y (by omega)⟩
    have st : b_X13_hasAll_3 (x1, x2, x3, x4, nI m, nI R, nI i, s1) = some (.inl (x1, x2, x3, x4, nI m, nI R, nI (i + 1), t_setI s1 1031 i (((hx x1 x2 x3 x4 i) >>> (((16 : Int32) * (nI i - nI i / (4 : Int32) * (4 : Int32))).toInt64 &&& 63)) &&& (65535 : Int64)).toInt32)) := by
      show k_X13_hasAll_3 x1 x2 x3 x4 (nI m) (nI R) (nI i) s1 = _
      unfold k_X13_hasAll_3 k_X13_hasAll_45 hx
      rw [if_neg (nI_ge (show i < m by omega) (by omega))]
      simp only [if_pos (l2_ix (j := i) (n := 16) (by omega) (by decide)), t_let, nI_clamp (n := i) (show i < 2 ^ 31 by omega), nI_1]
      have l4 : (4 : Int32) ≤ nI i ↔ 4 ≤ i := le 4 (by decide)
      have l8 : (8 : Int32) ≤ nI i ↔ 8 ≤ i := le 8 (by decide)
      have l12 : (12 : Int32) ≤ nI i ↔ 12 ≤ i := le 12 (by decide)
      by_cases c4 : i < 4
      · rw [if_neg (fun y => by have := l4.mp y; omega), if_pos c4]
      · rw [if_pos (l4.mpr (by omega)), if_neg c4]
        by_cases c8 : i < 8
        · rw [if_neg (fun y => by have := l8.mp y; omega), if_pos c8]
        · rw [if_pos (l8.mpr (by omega)), if_neg c8]
          by_cases c12 : i < 12
          · rw [if_neg (fun y => by have := l12.mp y; omega), if_pos c12]
          · rw [if_pos (l12.mpr (by omega)), if_neg c12]
    rw [l2_lpS st]
    refine ih (i + 1) _ n (by omega) (by omega) (f.trans (l2_fr.set ⟨by decide, by decide⟩)) (fun l hl => ?_)
    rw [l2_g]
    by_cases c : l = i
    · rw [if_pos (by omega), c]
    · rw [if_neg (by omega)]
      exact h l (by omega)
theorem ha_hold : ∀ (j i : Nat) (s1 : t_S) (n : Nat), i + j = 16 → j < n → l2_fr (fun b _ => b = 1032) s s1 → (∀ e, e < i → s1.1 1032 e = -1) → ∃ s', t_loop b_X13_hasAll_78 n (nI m, nI R, nI i, s1) = t_loop b_X13_hasAll_102 t_N (nI m, nI R, 0, s') ∧ l2_fr (fun b _ => b = 1032) s s' ∧ ∀ e, e < 16 → s'.1 1032 e = -1 := by
  intro j
  induction j with
  | zero =>
    intro i s1 n hi hn f h
    obtain ⟨n, rfl⟩ : ∃ y, n = y + 1 := ⟨n - 1, by omega⟩
    obtain rfl : i = 16 := by omega
    refine ⟨s1, ?_, f, h⟩
    have st : b_X13_hasAll_78 (nI m, nI R, nI 16, s1) = (t_loop b_X13_hasAll_102 t_N (nI m, nI R, 0, s1)).map Sum.inr := by
      show k_X13_hasAll_78 (nI m) (nI R) (nI 16) s1 = _
      unfold k_X13_hasAll_78
      rw [if_pos (show (16 : Int32) ≤ nI 16 by decide)]
    exact l2_lpM st
  | succ j ih =>
    intro i s1 n hi hn f h
    obtain ⟨n, rfl⟩ : ∃ y, n = y + 1 := ⟨n - 1, by omega⟩
    have st : b_X13_hasAll_78 (nI m, nI R, nI i, s1) = some (.inl (nI m, nI R, nI (i + 1), t_setI s1 1032 i (-1))) := by
      show k_X13_hasAll_78 (nI m) (nI R) (nI i) s1 = _
      unfold k_X13_hasAll_78
      rw [if_neg (show ¬ (16 : Int32) ≤ nI i from nI_ge (show i < 16 by omega) (by decide)), if_pos (l2_ix (by omega) (by decide)), t_let, nI_clamp (n := i) (by omega), nI_1]
    rw [l2_lpS st]
    refine ih (i + 1) _ n (by omega) (by omega) (f.trans (l2_fr.set rfl)) (fun l hl => ?_)
    rw [l2_g]
    by_cases c : l = i
    · rw [if_pos (by omega)]
    · rw [if_neg (by omega)]
      exact h l (by omega)
theorem ha_ask {l : Nat} : ∀ (j i : Nat) (s1 : t_S) (n : Nat), i + j = 16 → j < n → l2_fr (fun b _ => b = 1033) s s1 → (∀ e, e < i → s1.1 1033 e = 0) → ∃ s', t_loop b_X13_hasAll_112 n (nI m, nI R, nI l, nI i, s1) = (f_X13_finds (nI l) (nI R) s').bind (fun r1 => if r1.1 = (0 : Int32) then some (.inr (0, r1.2)) else some (.inl (nI m, nI R, nI (l + 1), r1.2))) ∧ l2_fr (fun b _ => b = 1033) s s' ∧ ∀ e, e < 16 → s'.1 1033 e = 0 := by
  intro j
  induction j with
  | zero =>
    intro i s1 n hi hn f h
    obtain ⟨n, rfl⟩ : ∃ y, n = y + 1 := ⟨n - 1, by omega⟩
    obtain rfl : i = 16 := by omega
    refine ⟨s1, ?_, f, h⟩
    have st : b_X13_hasAll_112 (nI m, nI R, nI l, nI 16, s1) = ((f_X13_finds (nI l) (nI R) s1).bind (fun r1 => if r1.1 = (0 : Int32) then ((some ((0 : Int32), r1.2)).map Sum.inr) else some (.inl (nI m, nI R, nI (l + 1), r1.2)))).map Sum.inr := by
      show k_X13_hasAll_112 (nI m) (nI R) (nI l) (nI 16) s1 = _
      unfold k_X13_hasAll_112
      rw [if_pos (show (16 : Int32) ≤ nI 16 by decide), nI_1]
    exact l2_lpM st
  | succ j ih =>
    intro i s1 n hi hn f h
    obtain ⟨n, rfl⟩ : ∃ y, n = y + 1 := ⟨n - 1, by omega⟩
    have st : b_X13_hasAll_112 (nI m, nI R, nI l, nI i, s1) = some (.inl (nI m, nI R, nI l, nI (i + 1), t_setI s1 1033 i 0)) := by
      show k_X13_hasAll_112 (nI m) (nI R) (nI l) (nI i) s1 = _
      unfold k_X13_hasAll_112
      rw [if_neg (show ¬ (16 : Int32) ≤ nI i from nI_ge (show i < 16 by omega) (by decide)), if_pos (l2_ix (by omega) (by decide)), t_let, nI_clamp (n := i) (by omega), nI_1]
    rw [l2_lpS st]
    refine ih (i + 1) _ n (by omega) (by omega) (f.trans (l2_fr.set rfl)) (fun l hl => ?_)
    rw [l2_g]
    by_cases c : l = i
    · rw [if_pos (by omega)]
    · rw [if_neg (by omega)]
      exact h l (by omega)
theorem ha_go {P : Nat → Nat → Prop} (hm : m ≤ 16) (hR : R ≤ 16) (h1 : LB x1 (P 0)) (h2 : LB x2 (P 1)) (h3 : LB x3 (P 2)) (h4 : LB x4 (P 3)) (hP : ∀ l e, l < m → e < 16 → (P (l / 4) (16 * (l % 4) + e) ↔ A l e)) : ∃ (b : Bool) (s' : t_S), f_X13_hasAll x1 x2 x3 x4 (nI m) (nI R) s = some (if b then 1 else 0, s') ∧ l2_fr haW s s' ∧ (b = true ↔ kp_L (rN m R A) m) := by
  obtain ⟨sa, a1, a2, a3⟩ := ha_rows (R := R) (s := s) (x1 := x1) (x2 := x2) (x3 := x3) (x4 := x4) hm m 0 s t_N (by omega) (by have := l2_N; omega) l2_fr.rf (fun l hl => by omega)
  obtain ⟨sb, b1, b2, b3⟩ := ha_hold (m := m) (R := R) (s := sa) 16 0 sa t_N (by omega) (by have := l2_N; omega) l2_fr.rf (fun l hl => by omega)
  have rows : ∀ l, l < m → BS (sb.1 1031 l) 16 (fun e => e < 16 ∧ A l e) := fun l hl => by
    rw [(b2 1031 l (show ¬ (1031 = 1032) by decide)).1, a3 l hl]
    have g : LB (hx x1 x2 x3 x4 l) (P (l / 4)) := by
      unfold hx
      by_cases c4 : l < 4
      · rw [if_pos c4, show l / 4 = 0 by omega]; exact h1
      · rw [if_neg c4]
        by_cases c8 : l < 8
        · rw [if_pos c8, show l / 4 = 1 by omega]; exact h2
        · rw [if_neg c8]
          by_cases c12 : l < 12
          · rw [if_pos c12, show l / 4 = 2 by omega]; exact h3
          · rw [if_neg c12, show l / 4 = 3 by omega]; exact h4
    exact (g.get (by omega)).iff (fun e => ⟨fun y => ⟨y.1, (hP l e hl y.1).mp y.2⟩, fun y => ⟨y.1, (hP l e hl y.1).mpr y.2⟩⟩)
  have fb : l2_fr haW s sb := a2.trans (b2.mono (fun b j y => by unfold haW; omega))
  have hN : ∀ l e, rN m R (fun l e => e < 16 ∧ A l e) l e → e < 16 := fun l e h => h.2.1.1
  have kN : kp_L (rN m R (fun l e => e < 16 ∧ A l e)) m ↔ kp_L (rN m R A) m := ⟨fun ⟨g, g1, g2⟩ => ⟨g, fun l hl => ⟨hl, (g1 l hl).2.1.2, (g1 l hl).2.2⟩, g2⟩, fun ⟨g, g1, g2⟩ => ⟨g, fun l hl => ⟨hl, ⟨by have := (g1 l hl).2.2; omega, (g1 l hl).2.1⟩, (g1 l hl).2.2⟩, g2⟩⟩
  have lp : ∀ (j i : Nat) (s1 : t_S) (w : Nat → Option Nat) (F V : Nat → Prop) (n : Nat), i + j = m → j < n → l2_fr (fun b j => b = 1032 ∨ b = 1033) sb s1 → KI (rN m R (fun l e => e < 16 ∧ A l e)) w i F V → (∀ l, ¬ F l) → OW s1 1032 m w → ∃ (b : Bool) (s' : t_S), t_loop b_X13_hasAll_102 n (nI m, nI R, nI i, s1) = some (if b then 1 else 0, s') ∧ l2_fr (fun b j => b = 1032 ∨ b = 1033) sb s' ∧ (b = true ↔ kp_L (rN m R (fun l e => e < 16 ∧ A l e)) m) := by
    intro j
    induction j with
    | zero =>
      intro i s1 w F V n hi hn fr hk hF hw
      obtain ⟨n, rfl⟩ : ∃ y, n = y + 1 := ⟨n - 1, by omega⟩
      obtain rfl : i = m := by omega
      refine ⟨true, s1, l2_lpR ?_, fr, fun _ => hk.all hF, fun _ => rfl⟩
      show k_X13_hasAll_102 (nI i) (nI R) (nI i) s1 = _
      unfold k_X13_hasAll_102
      rw [if_pos (nI_le (Nat.le_refl _) (by omega))]
      rfl
    | succ j ih =>
      intro i s1 w F V n hi hn fr hk hF hw
      obtain ⟨n, rfl⟩ : ∃ y, n = y + 1 := ⟨n - 1, by omega⟩
      obtain ⟨s2, c1, c2, c3⟩ := ha_ask (m := m) (R := R) (s := s1) (l := i) 16 0 s1 t_N (by omega) (by have := l2_N; omega) l2_fr.rf (fun l hl => by omega)
      have st : b_X13_hasAll_102 (nI m, nI R, nI i, s1) = (f_X13_finds (nI i) (nI R) s2).bind (fun r1 => if r1.1 = (0 : Int32) then some (.inr (0, r1.2)) else some (.inl (nI m, nI R, nI (i + 1), r1.2))) := by
        rw [← c1]
        show k_X13_hasAll_102 (nI m) (nI R) (nI i) s1 = _
        unfold k_X13_hasAll_102
        rw [if_neg (nI_ge (show i < m by omega) (by omega))]
        rfl
      have fr2 := fr.trans (c2.mono (fun b j (y : b = 1033) => Or.inr y))
      obtain ⟨s3, f3, O⟩ := rf_go (m := m) (R := R) (A := fun l e => e < 16 ∧ A l e) hm hR 100 0 (fun _ => False) w s2 i (by omega) ⟨fun _ => 0, fun i hi => by omega, fun i j _ hj => by omega⟩ (by omega) (fun l hl => by rw [(fr2 1031 _ (by omega)).1]; exact rows l hl) (fun e he => by rw [(c2 1032 e (show ¬ (1032 = 1033) by decide)).1]; exact hw e he) (fun e he => ⟨fun y => y.elim, fun _ => c3 e he⟩)
      have fr3 := fr2.trans (f3.mono (fun b j y => y))
      have fd : f_X13_finds (nI i) (nI R) s2 = R_X13_finds 100 (nI i) (nI R) s2 := rfl
      rw [fd] at st
      rcases O with ⟨w', k1, k2, k3⟩ | ⟨U', k1, k2, k3, k4⟩
      · rw [k3, l2_bs, if_neg (show ¬ (1 : Int32) = 0 by decide)] at st
        rw [l2_lpS st]
        exact ih (i + 1) s3 w' F V n (by omega) (by omega) fr3 (hk.yes k1) hF k2
      · rw [k4, l2_bs, if_pos rfl] at st
        exact ⟨false, s3, l2_lpR st, fr3, fun y => absurd y (by decide), fun y => absurd y ((hk.no k1).nix (l := i) hN (Or.inr rfl) (by omega))⟩
  obtain ⟨b, s', d1, d2, d3⟩ := lp m 0 sb (fun _ => none) (fun _ => False) (fun _ => False) t_N (by omega) (by have := l2_N; omega) l2_fr.rf KI.nil (fun _ y => y) (fun e he => ⟨b3 e he, fun l y => no_ns y⟩)
  refine ⟨b, s', ?_, fb.trans (d2.mono (fun b j y => by unfold haW; omega)), d3.trans kN⟩
  have e : f_X13_hasAll x1 x2 x3 x4 (nI m) (nI R) s = t_loop b_X13_hasAll_3 t_N (x1, x2, x3, x4, nI m, nI R, nI 0, s) := rfl
  rw [e, a1]
  have b1 : t_loop b_X13_hasAll_78 t_N (nI m, nI R, 0, sa) = _ := b1
  rw [b1]
  exact d1
end
