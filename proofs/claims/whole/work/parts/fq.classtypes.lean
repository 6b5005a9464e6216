/-! Level 2: types' nodes once names are settled: as the least weights' rounds want them; names rank. -/
section
variable {P : pc_S} {nt : Nat → Nat} {a g n : Nat} {k : Nat → Nat} {c0 c r s s' s4 : t_S} {S : Nat → Int32 → Prop}
/-- types that a type's name leads to -/
def rch (nt : Nat → Nat) (r : t_S) (x w : Nat) : Prop := ∃ k, 1 ≤ k ∧ pth (nR nt r) k x w
noncomputable def rkT (nt : Nat → Nat) (r : t_S) (x : Nat) : Nat := gsm (fun w => @ite Nat (rch nt r x w) (Classical.propDecidable _) 1 0) 60
theorem rkT.step {x v : Nat} (h : nR nt r x v) (hv : v < 60) (nr : ¬ rg_R nt r v) : rkT nt r v < rkT nt r x := by
  have one : pth (nR nt r) 1 x v := ⟨x, rfl, h⟩
  refine gsm.lt (i := v) (fun i _ => ?_) hv ?_
  · show (@ite Nat (rch nt r v i) (Classical.propDecidable _) 1 0) ≤ (@ite Nat (rch nt r x i) (Classical.propDecidable _) 1 0)
    by_cases d : rch nt r v i
    · obtain ⟨j, j1, j2⟩ := d
      have d2 : rch nt r x i := ⟨1 + j, by omega, pth.add one j2⟩
      rw [if_pos d2]
      split <;> omega
    · rw [if_neg d]
      exact Nat.zero_le _
  · show (@ite Nat (rch nt r v v) (Classical.propDecidable _) 1 0) < (@ite Nat (rch nt r x v) (Classical.propDecidable _) 1 0)
    rw [if_neg (show ¬ rch nt r v v from nr), if_pos (show rch nt r x v from ⟨1, Nat.le_refl _, one⟩)]
    decide
/-- a type's node that is a name: which -/
theorem nm_of (h : mR P nt a g k c0 c r) (hM : MK (pc_V P) c) (Q : sQ (pc_W P) nt a (k 3) (k 4) (k 5) (k 6) (k 7) (k 2) (k 9) s r) (fs : l2_fr (su_W (nt 3)) c s) (O : sQ_O nt (k 6) (k 2) S s r s') (nl : ∀ x, x < k 6 → ¬ lU nt s r (k 2) x) (hn : n < a) (h8 : s'.1 317 n = 8) : ∃ v, v < nt 0 ∧ s'.1 321 n = nI v := by
  obtain ⟨c6, k6, c8, a3, _⟩ := Q.2.2.2.2.2.2.1
  have c4 : ∀ b j, b ≠ 1 → b ≠ 438 → s.1 b j = c.1 b j := fun b j y1 y2 => (fs b j (by unfold su_W; omega)).1
  have cO : ∀ b j, (316 ≤ b ∧ b ≤ 320) ∨ (322 ≤ b ∧ b ≤ 330) → s'.1 b j = c.1 b j := fun b j y => ((O.1 b j (by unfold sn_W lf_W; omega)).1).trans (c4 b j (by omega) (by omega))
  have t8 : c.1 316 8 = nI a := (c4 316 8 (by decide) (by decide)).symm.trans c8
  have t6 : c.1 846 6 = nI (k 6) := (c4 846 6 (by decide) (by decide)).symm.trans c6
  have W := (hM.2.2.2.2.2.2.1 (by rw [t8, nI_toInt (by omega)]; omega) (by rw [t6, nI_toInt (by omega)]; omega)).2 n (by rw [t8, nI_toInt (by omega)]; omega)
  obtain ⟨e, e1, e2, e3⟩ := (W.2 id).2.2.2.1 ((cO 317 n (by decide)).symm.trans h8)
  rw [t6, nI_toInt (by omega)] at e1
  have he : e < k 6 := by omega
  obtain ⟨so, X, hm, sp, ex, D, _⟩ := Q.turn he
  obtain ⟨⟨d1, d2, d3⟩, d4, d5, d6, d7, d8⟩ := id D
  have so0 : so = 0 := (nI_eq (a := so) (b := 0) (by omega) (by decide)).mp (d4.symm.trans ((c4 849 e (by decide) (by decide)).trans e2))
  have sp0 : sp = n := (nI_eq (by omega) (by omega)).mp (d7.symm.trans ((c4 852 e (by decide) (by decide)).trans e3))
  subst so0
  subst sp0
  have hw := Q.2.2.2.2.2.2.2.1 e X he d5 d2
  obtain ⟨v, _, v2, v3⟩ := nt_told Q.1.1 (i := 0) (by decide) d2 hw
  have w := O.2.2.2 e 321 sp v he ⟨0, X, hm, sp, ex, D, Or.inl ⟨rfl, rfl, rfl, v2, v3⟩⟩
  rcases v3 with ⟨_, v3⟩ | ⟨j, j1, j2, _⟩
  · exact absurd ⟨0, X, hm, sp, ex, D, Or.inl ⟨by decide, v3⟩⟩ (nl e he)
  · exact ⟨j, j1, w.trans j2⟩
/-- which node a type has -/
theorem ty_at (h : mR P nt a g k c0 c r) (Q : sQ (pc_W P) nt a (k 3) (k 4) (k 5) (k 6) (k 7) (k 2) (k 9) s r) (fs : l2_fr (su_W (nt 3)) c s) (O : sQ_O nt (k 6) (k 2) S s r s') {x : Nat} (hx : x < nt 0) : ∃ u, u < a ∧ s'.1 326 x = nI u := by
  obtain ⟨a0, a1, m0, m1, g1, ⟨l1, l2, _⟩, e1, e2, e3, hT, _⟩ := h.2.1 x hx
  have c4 : ∀ b j, b ≠ 1 → b ≠ 438 → s.1 b j = c.1 b j := fun b j y1 y2 => (fs b j (by unfold su_W; omega)).1
  have cO : ∀ b j, (316 ≤ b ∧ b ≤ 320) ∨ (322 ≤ b ∧ b ≤ 330) → s'.1 b j = c.1 b j := fun b j y => ((O.1 b j (by unfold sn_W lf_W; omega)).1).trans (c4 b j (by omega) (by omega))
  have := hT.at
  exact ⟨a0, by omega, (cO 326 x (by decide)).trans e1⟩
theorem lsW_of (h : mR P nt a g k c0 c r) (hM : MK (pc_V P) c) (Q : sQ (pc_W P) nt a (k 3) (k 4) (k 5) (k 6) (k 7) (k 2) (k 9) s r) (fs : l2_fr (su_W (nt 3)) c s) (O : sQ_O nt (k 6) (k 2) S s r s') (nl : ∀ x, x < k 6 → ¬ lU nt s r (k 2) x) : lsW s' a := by
  obtain ⟨c6, k6, c8, a3, _⟩ := Q.2.2.2.2.2.2.1
  have n60 : nt 0 ≤ 60 := (h.1.2.1.1 0 (by decide)).1
  have c4 : ∀ b j, b ≠ 1 → b ≠ 438 → s.1 b j = c.1 b j := fun b j y1 y2 => (fs b j (by unfold su_W; omega)).1
  have cO : ∀ b j, (316 ≤ b ∧ b ≤ 320) ∨ (322 ≤ b ∧ b ≤ 330) → s'.1 b j = c.1 b j := fun b j y => ((O.1 b j (by unfold sn_W lf_W; omega)).1).trans (c4 b j (by omega) (by omega))
  have t8 : c.1 316 8 = nI a := (c4 316 8 (by decide) (by decide)).symm.trans c8
  have t6 : c.1 846 6 = nI (k 6) := (c4 846 6 (by decide) (by decide)).symm.trans c6
  have L : ∀ {x : Int32}, twL c x → lsL s' a x := fun q => by
    rcases q with q | ⟨m, m1, m2, m3, m4⟩
    · exact Or.inl q
    · rw [t8, nI_toInt (by omega)] at m3
      exact Or.inr ⟨m, m1, by omega, (cO 317 m (by decide)).trans m4⟩
  refine ⟨(cO 316 8 (by decide)).trans t8, a3, fun n hn => ?_⟩
  have W := ((hM.2.2.2.2.2.2.1 (by rw [t8, nI_toInt (by omega)]; omega) (by rw [t6, nI_toInt (by omega)]; omega)).2 n (by rw [t8, nI_toInt (by omega)]; omega)).2 id
  have e2 : s'.2.1 322 n = c.2.1 322 n := ((O.1 322 n (by unfold sn_W lf_W; omega)).2.1).trans ((fs 322 n (by unfold su_W; omega)).2.1)
  refine ⟨fun q => ?_, fun q => ?_, fun q => ?_, fun q => ?_, fun q => ?_⟩
  · rw [cO 317 n (by decide)] at q
    rw [cO 318 n (by decide)]
    exact L (W.1 q)
  · rw [cO 317 n (by decide)] at q
    rw [cO 319 n (by decide)]
    exact L (W.2.1 q)
  · rw [cO 317 n (by decide)] at q
    rw [cO 318 n (by decide)]
    exact W.2.2.1 q
  · obtain ⟨v, v1, v2⟩ := nm_of h hM Q fs O nl hn q
    obtain ⟨u, u1, u2⟩ := ty_at h Q fs O v1
    exact ⟨v, u, v2, by omega, u2, u1⟩
  · rw [cO 317 n (by decide)] at q
    have := W.2.2.2.2 q
    unfold tw255 at *
    rw [e2]
    exact this
/-- a name's rank -/
noncomputable def rkN (nt : Nat → Nat) (s r : t_S) (n : Nat) : Nat := if s.1 317 n = 8 then 1 + rkT nt r (s.1 321 n).toNatClampNeg else 0
theorem lsRk_of (h : mR P nt a g k c0 c r) (hM : MK (pc_V P) c) (Q : sQ (pc_W P) nt a (k 3) (k 4) (k 5) (k 6) (k 7) (k 2) (k 9) s r) (fs : l2_fr (su_W (nt 3)) c s) (O : sQ_O nt (k 6) (k 2) S s r s') (nl : ∀ x, x < k 6 → ¬ lU nt s r (k 2) x) (nr : ∀ x, x < nt 0 → ¬ rg_R nt r x) : lsRk s' a (rkN nt s' r) := by
  intro n hn h8
  have a3 : a ≤ 3000 := Q.2.2.2.2.2.2.1.2.2.2.1
  have n60 : nt 0 ≤ 60 := (h.1.2.1.1 0 (by decide)).1
  obtain ⟨v, v1, v2⟩ := nm_of h hM Q fs O nl hn h8
  obtain ⟨u, u1, u2⟩ := ty_at h Q fs O v1
  unfold rkN
  rw [if_pos h8, v2, nI_clamp (n := v) (by omega), u2, nI_clamp (n := u) (by omega)]
  by_cases z : s'.1 317 u = 8
  · rw [if_pos z]
    obtain ⟨w, w1, w2⟩ := nm_of h hM Q fs O nl u1 z
    rw [w2, nI_clamp (n := w) (by omega)]
    obtain ⟨m0, a0, m13, a3', y1, y2, _, y3⟩ := tyF_of h Q fs O v v1
    have ea : a0 = u := (nI_eq (by omega) (by omega)).mp (y2.symm.trans u2)
    subst ea
    rcases y3 with ⟨_, y3⟩ | ⟨X, q, hX, y3, y4, y5, y6, y7⟩
    · exact absurd z y3
    · have eq : q = nI w := y7.symm.trans w2
      subst eq
      have R : nR nt r v w := ⟨m0, X, y1, m13, y3, y4, hX, y6, w1⟩
      have := rkT.step R (by omega) (nr w w1)
      omega
  · rw [if_neg z]
    omega
theorem lsW.fr {s s4 : t_S} (h : lsW s a) (f : l2_fr (fun b j => (b < 316 ∨ 326 < b) ∨ (b = 316 ∧ j ≠ 8)) s s4) : lsW s4 a := by
  have e : ∀ b j, (316 < b ∧ b ≤ 326) ∨ (b = 316 ∧ j = 8) → s4.1 b j = s.1 b j ∧ s4.2.1 b j = s.2.1 b j := fun b j y => ⟨(f b j (by omega)).1, (f b j (by omega)).2.1⟩
  obtain ⟨h1, h2, h3⟩ := h
  have L : ∀ {x : Int32}, lsL s a x → lsL s4 a x := fun q => q.imp id (fun ⟨m, m1, m2, m3⟩ => ⟨m, m1, m2, (e 317 m (by omega)).1.trans m3⟩)
  refine ⟨(e 316 8 (by omega)).1.trans h1, h2, fun n hn => ?_⟩
  obtain ⟨p1, p2, p3, p4, p5⟩ := h3 n hn
  unfold tw255 at *
  rw [(e 317 n (by omega)).1, (e 318 n (by omega)).1, (e 319 n (by omega)).1, (e 321 n (by omega)).1, (e 322 n (by omega)).2]
  refine ⟨fun q => L (p1 q), fun q => L (p2 q), p3, fun q => ?_, p5⟩
  obtain ⟨t, u, q1, q2, q3, q4⟩ := p4 q
  exact ⟨t, u, q1, q2, (e 326 t (by omega)).1.trans q3, q4⟩
theorem lsRk.fr {s s4 : t_S} {ρ : Nat → Nat} (h : lsRk s a ρ) (f : l2_fr (fun b j => (b < 316 ∨ 326 < b) ∨ (b = 316 ∧ j ≠ 8)) s s4) : lsRk s4 a ρ := by
  have e : ∀ b j, 316 < b ∧ b ≤ 326 → s4.1 b j = s.1 b j := fun b j y => (f b j (by omega)).1
  intro n hn q
  rw [e 317 n (by decide)] at q
  rw [e 321 n (by decide), e 326 _ (by decide)]
  exact h n hn q
end
