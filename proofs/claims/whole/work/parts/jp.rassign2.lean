/-! Level 2: the reference gives each of some its own: all rows, and the answer. -/
theorem LB.i64 {x : Int64} {P Q : Nat → Prop} (h : LB x P) (hq : ∀ e, e < 64 → (P e ↔ Q e)) : LB x Q := fun e he => (h e he).trans (hq e he)
theorem MemR.fr {r s s' : t_S} {p E σ : Nat} {ti : Nat → Nat} {NS : Nat → Prop} (h : MemR r p E σ ti NS s) (f : l2_fr haW s s') : MemR r p E σ ti NS s' := by
  refine ⟨fun j hj => ?_, fun n o y num h1 h2 h3 => ?_⟩
  · rw [(f 1028 j (by unfold haW; omega)).1]
    exact h.1 j hj
  have e : s'.1 1028 (131 * ti n + num) = s.1 1028 (131 * ti n + num) := (f 1028 _ (by unfold haW; omega)).1
  rw [e] at h3 ⊢
  exact h.2 n o y num h1 h2 h3
section
variable {r s : t_S} {p E σ : Nat} {ti : Nat → Nat} {NS : Nat → Prop} {n g v m P cnt frm l5 : Nat} {G Qe : Nat → Nat}
/-- the rows so far, in the q-th long -/
def RW (B : Nat → Nat → Prop) (R q x e : Nat) : Prop := e / 16 + 4 * q < x ∧ e % 16 < R ∧ B (e / 16 + 4 * q) (e % 16)
theorem RW_0 {B : Nat → Nat → Prop} {R q : Nat} : LB 0 (RW B R q 0) := LB.zero.iff (fun e => ⟨fun y => y.elim, fun y => by have := y.1; omega⟩)
theorem RW_in {B : Nat → Nat → Prop} {R q x : Nat} {row : Int32} {X : Int64} (h : LB X (RW B R q x)) (hr : BS row 16 (fun e => e < R ∧ B x e)) (hR : R ≤ 16) (h1 : 4 * q ≤ x) (h2 : x < 4 * q + 4) : LB (X ||| (row.toInt64 <<< (((16 : Int32) * nI (x - 4 * q)).toInt64 &&& 63))) (RW B R q (x + 1)) := by
  refine (h.or (LB.row hr (k := x - 4 * q) (by omega))).i64 (fun e he => ⟨fun z => ?_, fun z => ?_⟩)
  · rcases z with z | ⟨z1, z2, z3⟩
    · exact ⟨by have := z.1; omega, z.2⟩
    · have e1 : e / 16 + 4 * q = x := by omega
      have e2 : e % 16 = e - 16 * (x - 4 * q) := by omega
      refine ⟨by omega, by omega, ?_⟩
      rw [e1, e2]
      exact z3
  · obtain ⟨z1, z2, z3⟩ := z
    by_cases c : e / 16 + 4 * q = x
    · have e2 : e % 16 = e - 16 * (x - 4 * q) := by omega
      rw [c, e2] at z3
      exact Or.inr ⟨by omega, by omega, z3⟩
    · exact Or.inl ⟨by omega, z2, z3⟩
theorem RW_out {B : Nat → Nat → Prop} {R q x : Nat} {X : Int64} (h : LB X (RW B R q x)) (h1 : x < 4 * q ∨ 4 * q + 4 ≤ x) : LB X (RW B R q (x + 1)) := by
  refine h.i64 (fun e he => ⟨fun z => ⟨by have := z.1; omega, z.2⟩, fun z => ⟨by have := z.1; omega, z.2⟩⟩)
/-- one row -/
theorem as_row (A : AC r p E σ ti NS n g v m P G Qe) {x L R : Nat} (h5 : l5 = 0 ∨ l5 = 1) (hL : (l5 = 0 ∧ L = v ∧ frm + R ≤ m) ∨ (l5 = 1 ∧ R = v ∧ frm + L ≤ m)) (hx : x < L) (hL16 : L ≤ 16) (hR : R ≤ 16) {x1 x2 x3 x4 : Int64} (b1 : LB x1 (RW (aB r p E G Qe frm l5) R 0 x)) (b2 : LB x2 (RW (aB r p E G Qe frm l5) R 1 x)) (b3 : LB x3 (RW (aB r p E G Qe frm l5) R 2 x)) (b4 : LB x4 (RW (aB r p E G Qe frm l5) R 3 x)) : ∀ (d y : Nat) (row l20 : Int32) (s1 : t_S) (N : Nat), y + d = R → d < N → (l5 = 1 → l20 = nxG v G y) → BS row 16 (fun e => e < y ∧ aB r p E G Qe frm l5 x e) → l2_fr rmW r s1 → MemR r p E σ ti NS s1 → ∃ s' z1 z2 z3 z4, t_loop (b_X13_assign_97 (R_X13_assign g)) N (nxG v G 0, nI P, nI frm, nI l5, nI L, nI R, x1, x2, x3, x4, nI x, row, l20, nI y, s1) = some (.inl (nxG v G 0, nI P, nI frm, nI l5, nI L, nI R, z1, z2, z3, z4, nI (x + 1), s')) ∧ (LB z1 (RW (aB r p E G Qe frm l5) R 0 (x + 1)) ∧ LB z2 (RW (aB r p E G Qe frm l5) R 1 (x + 1)) ∧ LB z3 (RW (aB r p E G Qe frm l5) R 2 (x + 1)) ∧ LB z4 (RW (aB r p E G Qe frm l5) R 3 (x + 1))) ∧ l2_fr rmW r s' ∧ MemR r p E σ ti NS s' := by
  intro d
  induction d with
  | zero =>
    intro y row l20 s1 N hy hN h20 hb fr hm
    obtain ⟨N, rfl⟩ : ∃ y, N = y + 1 := ⟨N - 1, by omega⟩
    obtain rfl : y = R := by omega
    have le : ∀ c : Nat, c < 100 → (nI c ≤ nI x ↔ c ≤ x) := fun c hc => ⟨fun y => Classical.byContradiction (fun z => absurd y (nI_ge (show x < c by omega) (by omega))), fun y => nI_le y (by omega)⟩
    have l4 : (4 : Int32) ≤ nI x ↔ 4 ≤ x := le 4 (by decide)
    have l8 : (8 : Int32) ≤ nI x ↔ 8 ≤ x := le 8 (by decide)
    have l12 : (12 : Int32) ≤ nI x ↔ 12 ≤ x := le 12 (by decide)
    have st : b_X13_assign_97 (R_X13_assign g) (nxG v G 0, nI P, nI frm, nI l5, nI L, nI y, x1, x2, x3, x4, nI x, row, l20, nI y, s1) = (if (4 : Int32) ≤ nI x then (if (8 : Int32) ≤ nI x then (if (12 : Int32) ≤ nI x then some (.inr (.inl (nxG v G 0, nI P, nI frm, nI l5, nI L, nI y, x1, x2, x3, (x4 ||| (row.toInt64 <<< (((16 : Int32) * (nI x - (12 : Int32))).toInt64 &&& 63))), nI (x + 1), s1))) else some (.inr (.inl (nxG v G 0, nI P, nI frm, nI l5, nI L, nI y, x1, x2, (x3 ||| (row.toInt64 <<< (((16 : Int32) * (nI x - (8 : Int32))).toInt64 &&& 63))), x4, nI (x + 1), s1)))) else some (.inr (.inl (nxG v G 0, nI P, nI frm, nI l5, nI L, nI y, x1, (x2 ||| (row.toInt64 <<< (((16 : Int32) * (nI x - (4 : Int32))).toInt64 &&& 63))), x3, x4, nI (x + 1), s1)))) else some (.inr (.inl (nxG v G 0, nI P, nI frm, nI l5, nI L, nI y, (x1 ||| (row.toInt64 <<< (((16 : Int32) * nI x).toInt64 &&& 63))), x2, x3, x4, nI (x + 1), s1)))) := by
      show k_X13_assign_97 _ _ _ _ _ _ _ _ _ _ _ _ _ _ _ _ = _
      unfold k_X13_assign_97 k_X13_assign_313
      rw [if_pos (nI_le (Nat.le_refl _) (by omega)), nI_1]
      by_cases c4 : (4 : Int32) ≤ nI x
      · rw [if_pos c4, if_pos c4]
        by_cases c8 : (8 : Int32) ≤ nI x
        · rw [if_pos c8, if_pos c8]
          by_cases c12 : (12 : Int32) ≤ nI x
          · rw [if_pos c12, if_pos c12]; rfl
          · rw [if_neg c12, if_neg c12]; rfl
        · rw [if_neg c8, if_neg c8]; rfl
      · rw [if_neg c4, if_neg c4]; rfl
    by_cases c4 : x < 4
    · rw [if_neg (fun z => by have := l4.mp z; omega)] at st
      have i0 := RW_in b1 hb hR (by omega) (by omega)
      rw [show x - 4 * 0 = x by omega] at i0
      exact ⟨s1, _, _, _, _, l2_lpR st, ⟨i0, RW_out b2 (by omega), RW_out b3 (by omega), RW_out b4 (by omega)⟩, fr, hm⟩
    · rw [if_pos (l4.mpr (by omega))] at st
      by_cases c8 : x < 8
      · rw [if_neg (fun z => by have := l8.mp z; omega), show (4 : Int32) = nI 4 from rfl, nI_dif (by omega)] at st
        have i1 := RW_in b2 hb hR (by omega) (by omega)
        rw [show x - 4 * 1 = x - 4 by omega] at i1
        exact ⟨s1, _, _, _, _, l2_lpR st, ⟨RW_out b1 (by omega), i1, RW_out b3 (by omega), RW_out b4 (by omega)⟩, fr, hm⟩
      · rw [if_pos (l8.mpr (by omega))] at st
        by_cases c12 : x < 12
        · rw [if_neg (fun z => by have := l12.mp z; omega), show (8 : Int32) = nI 8 from rfl, nI_dif (by omega)] at st
          have i2 := RW_in b3 hb hR (by omega) (by omega)
          rw [show x - 4 * 2 = x - 8 by omega] at i2
          exact ⟨s1, _, _, _, _, l2_lpR st, ⟨RW_out b1 (by omega), RW_out b2 (by omega), i2, RW_out b4 (by omega)⟩, fr, hm⟩
        · rw [if_pos (l12.mpr (by omega)), show (12 : Int32) = nI 12 from rfl, nI_dif (by omega)] at st
          have i3 := RW_in b4 hb hR (by omega) (by omega)
          rw [show x - 4 * 3 = x - 12 by omega] at i3
          exact ⟨s1, _, _, _, _, l2_lpR st, ⟨RW_out b1 (by omega), RW_out b2 (by omega), RW_out b3 (by omega), i3⟩, fr, hm⟩
  | succ d ih =>
    intro y row l20 s1 N hy hN h20 hb fr hm
    obtain ⟨N, rfl⟩ : ∃ y, N = y + 1 := ⟨N - 1, by omega⟩
    obtain ⟨s2, row', l20', st, q1, q2, q3, q4⟩ := as_cell A h5 hL hx (show y < R by omega) hR h20 hb (l9 := x1) (l11 := x2) (l13 := x3) (l15 := x4) fr hm
    rw [l2_lpS st]
    exact ih (y + 1) row' l20' s2 N (by omega) (by omega) q1 q2 q3 q4
/-- all rows -/
theorem as_rows (A : AC r p E σ ti NS n g v m P G Qe) {L R : Nat} (h5 : l5 = 0 ∨ l5 = 1) (hL : (l5 = 0 ∧ L = v ∧ frm + R ≤ m) ∨ (l5 = 1 ∧ R = v ∧ frm + L ≤ m)) (hL16 : L ≤ 16) (hR : R ≤ 16) : ∀ (d x : Nat) (x1 x2 x3 x4 : Int64) (s1 : t_S) (N : Nat), x + d = L → d < N → LB x1 (RW (aB r p E G Qe frm l5) R 0 x) → LB x2 (RW (aB r p E G Qe frm l5) R 1 x) → LB x3 (RW (aB r p E G Qe frm l5) R 2 x) → LB x4 (RW (aB r p E G Qe frm l5) R 3 x) → l2_fr rmW r s1 → MemR r p E σ ti NS s1 → ∃ s', t_loop (b_X13_assign_78 (R_X13_assign g)) N (nxG v G 0, nI P, nI frm, nI l5, nI L, nI R, x1, x2, x3, x4, nI x, s1) = some (bZ (kp_L (fun x y => y < R ∧ aB r p E G Qe frm l5 x y) L), s') ∧ l2_fr rmW r s' ∧ MemR r p E σ ti NS s' := by
  intro d
  induction d with
  | zero =>
    intro x x1 x2 x3 x4 s1 N hx hN b1 b2 b3 b4 fr hm
    obtain ⟨N, rfl⟩ : ∃ y, N = y + 1 := ⟨N - 1, by omega⟩
    obtain rfl : x = L := by omega
    obtain ⟨b, s', h1, h2, h3⟩ := ha_go (s := s1) (m := x) (R := R) (A := fun l e => e < R ∧ aB r p E G Qe frm l5 l e) (P := fun q e => RW (aB r p E G Qe frm l5) R q x e) hL16 hR b1 b2 b3 b4 (fun l e hl he => by
      unfold RW
      rw [show (16 * (l % 4) + e) / 16 + 4 * (l / 4) = l by omega, show (16 * (l % 4) + e) % 16 = e by omega]
      exact ⟨fun z => z.2, fun z => ⟨hl, z⟩⟩)
    have kk : kp_L (rN x R (fun l e => e < R ∧ aB r p E G Qe frm l5 l e)) x ↔ kp_L (fun x y => y < R ∧ aB r p E G Qe frm l5 x y) x := kp_cg (fun a b hb => ⟨fun z => z.2.1, fun z => ⟨hb, z, z.1⟩⟩)
    refine ⟨s', l2_lpR ?_, fr.trans (h2.mono (fun b j y => Or.inr y)), hm.fr h2⟩
    show k_X13_assign_78 _ _ _ _ _ _ _ _ _ _ _ _ _ = _
    unfold k_X13_assign_78
    rw [if_pos (nI_le (Nat.le_refl _) (by omega)), h1, l2_bs]
    cases b with
    | true =>
      rw [bZ_t (kk.mp (h3.mp rfl))]
      rfl
    | false =>
      rw [bZ_f (fun z => by have := h3.mpr (kk.mpr z); exact absurd this (by decide))]
      rfl
  | succ d ih =>
    intro x x1 x2 x3 x4 s1 N hx hN b1 b2 b3 b4 fr hm
    obtain ⟨N, rfl⟩ : ∃ y, N = y + 1 := ⟨N - 1, by omega⟩
    obtain ⟨s2, z1, z2, z3, z4, st, ⟨c1, c2, c3, c4⟩, q1, q2⟩ := as_row A h5 hL (show x < L by omega) hL16 hR b1 b2 b3 b4 R 0 0 (nxG v G 0) s1 t_N (by omega) (by have := l2_N; omega) (fun _ => rfl) (BS.zero.iff (fun e => ⟨fun y => y.elim, fun y => by have := y.1; omega⟩)) fr hm
    have st' : b_X13_assign_78 (R_X13_assign g) (nxG v G 0, nI P, nI frm, nI l5, nI L, nI R, x1, x2, x3, x4, nI x, s1) = some (.inl (nxG v G 0, nI P, nI frm, nI l5, nI L, nI R, z1, z2, z3, z4, nI (x + 1), s2)) := by
      show k_X13_assign_78 _ _ _ _ _ _ _ _ _ _ _ _ _ = _
      unfold k_X13_assign_78
      rw [if_neg (nI_ge (show x < L by omega) (by omega))]
      exact st
    rw [l2_lpS st']
    exact ih (x + 1) z1 z2 z3 z4 s2 N (by omega) (by omega) c1 c2 c3 c4 q1 q2
/-- more on the left than on the right: not all have their own -/
theorem kp_no {N : Nat → Nat → Prop} {L R : Nat} (h : R < L) (hN : ∀ x y, x < L → N x y → y < R) : ¬ kp_L N L := fun ⟨g, g1, g2⟩ => by
  obtain ⟨a, b, h1, h2, h3⟩ := pg_h R g (fun i hi => hN i _ (by omega) (g1 i (by omega)))
  have := g2 a b (by omega) (by omega) h3
  omega
theorem as_go (A : AC r p E σ ti NS n g v m P G Qe) (h5 : l5 = 0 ∨ l5 = 1) (hf : frm + cnt ≤ m) (fr : l2_fr rmW r s) (hm : MemR r p E σ ti NS s) : ∃ s', m_X13_assign (R_X13_assign g) (nxG v G 0) (nI P) (nI frm) (nI cnt) (nI l5) s = some (bZ (kp_L (fun x y => y < (if l5 = 0 then cnt else v) ∧ aB r p E G Qe frm l5 x y) (if l5 = 0 then v else cnt)), s') ∧ l2_fr rmW r s' ∧ MemR r p E σ ti NS s' := by
  have vb := A.vb
  have lp : ∀ (d j N : Nat), j + d = v → d < N → t_loop (b_X13_assign_6 (R_X13_assign g)) N (nxG v G 0, nI P, nI frm, nI cnt, nI l5, nI j, nxG v G j, s) = k_X13_assign_38 (R_X13_assign g) (nxG v G 0) (nI P) (nI frm) (nI cnt) (nI l5) (nI v) (if l5 = 0 then nI v else nI cnt) s := by
    intro d
    induction d with
    | zero =>
      intro j N hj hN
      obtain ⟨N, rfl⟩ : ∃ y, N = y + 1 := ⟨N - 1, by omega⟩
      obtain rfl : j = v := by omega
      refine l2_lpM ?_
      show k_X13_assign_6 _ _ _ _ _ _ _ _ _ = _
      unfold k_X13_assign_6
      rw [nx_out (j := j) (v := j) (by omega), if_pos (show (-1 : Int32) < 0 by decide)]
      rcases h5 with e | e
      · rw [e, if_pos (show nI 0 = (0 : Int32) from rfl), if_pos rfl]
      · rw [e, if_neg (show ¬ nI 1 = (0 : Int32) by decide), if_neg (by decide)]
    | succ d ih =>
      intro j N hj hN
      obtain ⟨N, rfl⟩ : ∃ y, N = y + 1 := ⟨N - 1, by omega⟩
      obtain ⟨g1, _, _, _⟩ := A.ch.2 j (by omega)
      have e60 : s.1 960 (G j) = nxG v G (j + 1) := ((rm_fr fr (by omega)).1).trans (ch_nx A.ch (by omega))
      rw [← ih (j + 1) N (by omega) (by omega)]
      refine l2_lpS ?_
      show k_X13_assign_6 _ _ _ _ _ _ _ _ _ = _
      unfold k_X13_assign_6
      rw [nx_in (j := j) (by omega), if_neg (nI_pos (by omega)), if_pos (l2_ix g1 (by decide)), nI_clamp (n := G j) (by omega), e60, nI_1]
  have st : m_X13_assign (R_X13_assign g) (nxG v G 0) (nI P) (nI frm) (nI cnt) (nI l5) s = _ := lp v 0 t_N (by omega) (by have := l2_N; omega)
  rw [st]
  unfold k_X13_assign_38
  have done : ∀ L R : Nat, ((l5 = 0 ∧ L = v ∧ frm + R ≤ m) ∨ (l5 = 1 ∧ R = v ∧ frm + L ≤ m)) → L ≤ 16 → R ≤ 16 → ∃ s', k_X13_assign_52 (R_X13_assign g) (nxG v G 0) (nI P) (nI frm) (nI l5) (nI L) (nI R) s = some (bZ (kp_L (fun x y => y < R ∧ aB r p E G Qe frm l5 x y) L), s') ∧ l2_fr rmW r s' ∧ MemR r p E σ ti NS s' := fun L R hL hL16 hR => by
    unfold k_X13_assign_52
    by_cases c : L ≤ R
    · rw [if_pos (nI_le c (by omega))]
      exact as_rows A h5 hL hL16 hR L 0 0 0 0 0 s t_N (by omega) (by have := l2_N; omega) RW_0 RW_0 RW_0 RW_0 fr hm
    · rw [if_neg (nI_ge (by omega) (by omega)), bZ_f (kp_no (R := R) (by omega) (fun x y _ z => z.1))]
      exact ⟨s, rfl, fr, hm⟩
  rcases h5 with e | e
  · subst e
    rw [if_pos (show nI 0 = (0 : Int32) from rfl), if_pos rfl, if_pos rfl, if_pos rfl]
    exact done v cnt (Or.inl ⟨rfl, rfl, hf⟩) (by omega) (by omega)
  · subst e
    rw [if_neg (show ¬ nI 1 = (0 : Int32) by decide), if_neg (by decide), if_neg (by decide), if_neg (by decide)]
    exact done cnt v (Or.inr ⟨rfl, rfl, hf⟩) (by omega) (by omega)
end
