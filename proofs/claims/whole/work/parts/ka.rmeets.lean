/-! Level 2: a VALUE is held against a templ: the reference's function from where the exps are worked out. -/
/-- what the reference writes ahead of the first comparison -/
def rnW (b j : Nat) : Prop := b = 1029 ∨ (b = 950 ∧ (j = 137 ∨ j = 141))
theorem td_two {x : Int} {σ : Nat} (h0 : 0 < σ) (h1 : -2 ≤ x) (h2 : x < 2 * (σ : Int)) : x.tdiv 2 < σ ∧ -1 ≤ x.tdiv 2 := by
  rcases Int.le_total 0 x with z | z
  · rw [Int.tdiv_eq_ediv_of_nonneg z]
    omega
  · have z1 : x = 0 ∨ x = -1 ∨ x = -2 := by omega
    rcases z1 with rfl | rfl | rfl
    · exact ⟨by show (0 : Int) < σ; omega, by decide⟩
    · refine ⟨?_, by decide⟩
      show (0 : Int) < σ
      omega
    · exact ⟨by show (-1 : Int) < σ; omega, by decide⟩
theorem KN.mem {r s : t_S} {p E σ : Nat} {ti : Nat → Nat} {NS : Nat → Prop} (h0 : 0 < σ) (h : ∀ j, j < 577000 → -2 ≤ (s.1 1028 j).toInt ∧ (s.1 1028 j).toInt < 2 * (σ : Int)) (C : RC r p E σ ti NS) : MemR r p E σ ti NS s := by
  refine ⟨fun j hj => ?_, fun n o y num hN hP he => ?_⟩
  · obtain ⟨h1, h2⟩ := h j hj
    exact ⟨h1, by omega⟩
  · exfalso
    have b := hP.bd C.eb.2
    obtain ⟨_, _, t1⟩ := C.ix n hN
    obtain ⟨h1, h2⟩ := h (131 * ti n + num) (by omega)
    have e := congrArg Int32.toInt he
    have s30 := C.st.2
    rw [Int32.toInt_div, nI_toInt (n := σ) (by omega), show (2 : Int32).toInt = 2 from rfl] at e
    have d1 := td_two h0 h1 h2
    generalize (s.1 1028 (131 * ti n + num)).toInt.tdiv 2 = w at d1 e
    have d := Int.bmod_def w (2 ^ 32)
    simp only [Nat.reducePow] at d e
    omega
section
variable {c r : t_S} {a i p n m E σ f t nd : Nat} {ti : Nat → Nat} {NS : Nat → Prop}
theorem PA.hk {C R : Nat → Int64} (A : PA C R i p n m E) : ∀ x, x < E → ∃ K : Nat, K ≤ 8 ∧ R (wq R p x) = lN K ∧ (K ≠ 4 → wq R p x + 2 ≤ p + m) ∧ (K = 2 ∨ K = 6 → ∃ v : Nat, v ≤ 120 ∧ R (wq R p x + 1) = lN v) := fun x hx => by
  obtain ⟨f, n', m', t, k, ⟨_, V⟩, hc, ⟨hr, z, z1, z2, z3, _⟩, _⟩ := A.pd x hx
  obtain ⟨t0, k0, y1, y2, y3, y4, _, _, _, _, y5, _⟩ := V.hd
  obtain rfl : k = k0 := lN_inj (by have := hc.2.2; omega) (by omega) (hr.symm.trans y3)
  have := A.qe z z2
  exact ⟨k, y2, y3, fun w => by have := y4 w; omega, fun w => by
    obtain ⟨v, v1, _, v2⟩ := y5 (by omega)
    exact ⟨v, v1, v2⟩⟩
theorem mr_meets (K : KN σ r) (hσ : σ + 1 < 2 ^ 30) (A : PA (c.2.1 a) (r.2.1 1006) i p n m E) (he : f_X13_endOf 1006 (nI p) r = some (nI (p + m))) (pb : p + 260 ≤ 626600) (ix : ∀ n, NS n → n < 13000 ∧ r.1 962 n = nI (ti n) ∧ ti n < 4404) (inj : ∀ n n', NS n → NS n' → ti n = ti n' → n = n') (hf : f ≤ 96) (hT : ∀ r', l2_fr rnW r r' → TM c r' a i p E NS f t nd) : ∃ r1 s', t_let (t_setI r 950 137 ((r.1 950 137) + (1 : Int32))) (fun s3 => t_let (t_setI s3 950 141 (nI p)) (fun s4 => (f_X13_numberParts (nI p) s4).bind (fun r2 => (f_X13_match (nI nd) (nI p) r2).bind (fun r3 => if r3.1 = 0 ∨ r3.1 = 1 then some (r3.1, r3.2) else none)))) = some (bZ (Mn r1 p E nd (oP r1 p)), s') ∧ l2_fr rnW r r1 ∧ l2_fr rmX r s' ∧ KN (σ + 1) s' := by
  obtain ⟨k37, km⟩ := K
  rw [t_let, t_let]
  have f2 : l2_fr rnW r (t_setI (t_setI r 950 137 (r.1 950 137 + 1)) 950 141 (nI p)) := (l2_fr.set (Or.inr ⟨rfl, Or.inl rfl⟩)).trans (l2_fr.set (Or.inr ⟨rfl, Or.inr rfl⟩))
  have e37 : (t_setI (t_setI r 950 137 (r.1 950 137 + 1)) 950 141 (nI p)).1 950 137 = nI (σ + 1) := by
    rw [l2_g, if_neg (by decide), l2_g, if_pos rfl, k37, nI_1]
  have e41 : (t_setI (t_setI r 950 137 (r.1 950 137 + 1)) 950 141 (nI p)).1 950 141 = nI p := by rw [l2_g, if_pos rfl]
  have ee : f_X13_endOf 1006 (nI p) (t_setI (t_setI r 950 137 (r.1 950 137 + 1)) 950 141 (nI p)) = some (nI (p + m)) := by
    exact (endOf_st (s := r) (x := nI p) rfl).trans he
  revert f2 e37 e41 ee
  generalize t_setI (t_setI r 950 137 (r.1 950 137 + 1)) 950 141 (nI p) = s2
  intro f2 e37 e41 ee
  have ea : s2.2.1 1006 = r.2.1 1006 := funext (fun j => (f2 1006 j (fun z => by unfold rnW at z; omega)).2.1)
  have w0 : wq (r.2.1 1006) p 0 = p := rfl
  obtain ⟨r1, n1, n2, n3⟩ := np_loop (s := s2) (p := p) (E := E) (m := m) (by have := A.m2; omega) (by have := A.m2; omega) (by rw [ea]; exact A.qE) (fun x hx => by rw [ea]; exact ⟨(A.qe x (by omega)).1, A.qb x hx⟩) (by have := A.e0.2; omega) (by rw [ea]; exact A.qi) (by rw [ea]; exact A.hk) E 0 s2 t_N (by omega) (by have := A.e0.2; have := l2_N; omega) l2_fr.rf (fun y hy => by omega)
  rw [ea] at n1 n3
  have np : f_X13_numberParts (nI p) s2 = some r1 := by
    unfold f_X13_numberParts
    rw [ee, l2_bs]
    exact n1
  have f1 : l2_fr rnW r r1 := f2.trans (n2.mono (fun b j w => Or.inl w))
  have e6 : r1.2.1 1006 = r.2.1 1006 := funext (fun j => (f1 1006 j (fun z => by unfold rnW at z; omega)).2.1)
  have C : RC r1 p E (σ + 1) ti NS := ⟨⟨((n2 950 137 (fun z => absurd z (show ¬ 950 = 1029 by decide))).1).trans e37, hσ⟩, ((n2 950 141 (fun z => absurd z (show ¬ 950 = 1029 by decide))).1).trans e41, pb, fun x hx => by
      rw [e6]
      have b1 := A.qe x (by omega)
      have b2 := A.qb x hx
      have b3 := A.m2
      exact ⟨b1.1, by omega, n3 x hx⟩, ⟨A.e0.1, by have := A.e0.2; omega⟩, fun n hn => by
      obtain ⟨x1, x2, x3⟩ := ix n hn
      exact ⟨x1, ((f1 962 n (fun z => by unfold rnW at z; omega)).1).trans x2, x3⟩, inj, by rw [e6]; exact A.qi⟩
  have M : MemR r1 p E (σ + 1) ti NS r1 := KN.mem (Nat.succ_pos σ) (fun j hj => by
    rw [(f1 1028 j (fun z => by unfold rnW at z; omega)).1]
    obtain ⟨b1, b2⟩ := km j hj
    exact ⟨b1, by omega⟩) C
  have go := rm_go (c := c) (a := a) (i := i) C (fun x hx => by rw [e6]; have := A.qe x hx; have := A.m2; omega) (fun x hx => by rw [e6]; exact A.pd x hx) f t nd (hT r1 f1) (by omega) 680 (by omega)
  have hP : PQ r1 p E (oP r1 p) (nI p) 1 := by
    unfold oP
    by_cases c4 : r1.2.1 1006 p = lN 4
    · rw [if_pos c4]
      exact Or.inl ⟨rfl, Or.inr ⟨rfl, c4, rfl⟩⟩
    · rw [if_neg c4]
      exact Or.inr ⟨0, A.e0.1, rfl, rfl, rfl, c4⟩
  obtain ⟨s', y1, y2, y3⟩ := go r1 _ _ _ hP l2_fr.rf M
  refine ⟨r1, s', ?_, f1, (f1.mono (fun b j w => Or.inr w)).trans (y2.mono (fun b j w => Or.inl w)), ((y2 950 137 (fun z => by unfold rmW at z; omega)).1).trans C.st.1, y3.1⟩
  rw [np, l2_bs, show f_X13_match (nI nd) (nI p) r1 = _ from y1, l2_bs]
  exact if_pos bZ_01
end
