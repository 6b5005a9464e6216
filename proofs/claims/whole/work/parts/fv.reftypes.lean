/-! Level 2: the reference's types' nodes behind a module: as its least weights want them; names rank. -/
section
variable {P : pc_S} {nt : Nat → Nat} {a g n : Nat} {k : Nat → Nat} {c0 c r s r5 : t_S}
/-- a type's node that is a name: of which type -/
theorem rn_of (h : mR P nt a g k c0 c r) (Q : sQ (pc_W P) nt a (k 3) (k 4) (k 5) (k 6) (k 7) (k 2) (k 9) s r) (fs : l2_fr (su_W (nt 3)) c s) (nl : ∀ x, x < k 6 → ¬ lU nt s r (k 2) x) (hn : n < k 2) (h8 : r.1 955 n = 8) : ∃ X v u : Nat, X < 7934 ∧ r.2.1 957 n = lN X ∧ to_R nt r 0 X (nI v) ∧ v < nt 0 ∧ r.1 965 v = nI u ∧ u < k 2 := by
  obtain ⟨c6, k6, c8, a3, _⟩ := Q.2.2.2.2.2.2.1
  have c4 : ∀ b j, b ≠ 1 → b ≠ 438 → s.1 b j = c.1 b j := fun b j y1 y2 => (fs b j (by unfold su_W; omega)).1
  have no : ∀ K : Nat, K < 100 → r.1 955 n = nI K → K = 8 := fun K hK e => (nI_eq (b := 8) (by omega) (by decide)).mp (e.symm.trans h8)
  rcases h.2.2.2.2.2.2.1.1 n (Nat.zero_le _) hn with ⟨K, k1, k2, k3, k4⟩ | ⟨⟨E, _, K, a1, a2, a3, _⟩, _⟩ | ⟨a1, _⟩
  · obtain ⟨e, _, he, X, hX, y9, y0, _, y7⟩ := k4 (no K (by omega) k3)
    obtain ⟨so, X', hm, sp, ex, D, _⟩ := Q.turn he
    obtain ⟨⟨d1, d2, d3⟩, d4, d5, d6, d7, d8⟩ := id D
    have so0 : so = 0 := (nI_eq (a := so) (b := 0) (by omega) (by decide)).mp (d4.symm.trans ((c4 849 e (by decide) (by decide)).trans y9))
    have eX : 66 + X' = 66 + X := (nI_eq (by omega) (by omega)).mp (d5.symm.trans ((c4 850 e (by decide) (by decide)).trans y0))
    have eX' : X' = X := by omega
    subst so0
    subst eX'
    have hw := Q.2.2.2.2.2.2.2.1 e X' he d5 d2
    obtain ⟨v, _, v2, v3⟩ := nt_told Q.1.1 (i := 0) (by decide) d2 hw
    rcases v3 with ⟨_, v3⟩ | ⟨j, j1, rfl, j2⟩
    · exact absurd ⟨0, X', hm, sp, ex, D, Or.inl ⟨by decide, v3⟩⟩ (nl e he)
    · obtain ⟨a0, a1, m0, m1, g1, ⟨l1, l2, _⟩, e1, e2, e3, hT, _⟩ := h.2.1 j j1
      have := hT.at
      exact ⟨X', j, m0, hX, y7, ⟨v2, Or.inr ⟨j, j1, rfl, j2⟩⟩, j1, e2, by omega⟩
  · have := no K (by omega) a3
    omega
  · exact absurd (no 58 (by decide) a1) (by decide)
/-- the rank of a name in the reference -/
noncomputable def rkR (nt : Nat → Nat) (r : t_S) (n : Nat) : Nat := if r.1 955 n = 8 then 1 + rkT nt r (match f_X13_find 964 0 (r.1 950 40) ((r.2.1 957 n).toInt32) r with | some v => v.toNatClampNeg | none => 0) else 0
theorem rl_of (h : mR P nt a g k c0 c r) (Q : sQ (pc_W P) nt a (k 3) (k 4) (k 5) (k 6) (k 7) (k 2) (k 9) s r) (fs : l2_fr (su_W (nt 3)) c s) (nl : ∀ x, x < k 6 → ¬ lU nt s r (k 2) x) (nr : ∀ x, x < nt 0 → ¬ rg_R nt r x) (f5 : l2_fr (fun b j => b = 950 ∧ j ≠ 40 ∨ b = 1004 ∨ b = 1005) r r5) (e29 : r5.1 950 29 = nI (k 2)) : rlW nt r5 (k 2) ∧ rlRk r5 (k 2) (rkR nt r) := by
  have n60 : nt 0 ≤ 60 := (h.1.2.1.1 0 (by decide)).1
  have e40 : r.1 950 40 = nI (nt 0) := (h.1.2.1.1 0 (by decide)).2.2
  have k13 : k 2 ≤ 13000 := Q.2.2.2.2.2.2.1.2.2.2.2.2.2.2.2.2.1
  have q : ∀ b j, b ≠ 950 → b ≠ 1004 → b ≠ 1005 → r5.1 b j = r.1 b j ∧ r5.2.1 b j = r.2.1 b j := fun b j y1 y2 y3 => ⟨(f5 b j (by omega)).1, (f5 b j (by omega)).2.1⟩
  have q40 : r5.1 950 40 = r.1 950 40 := (f5 950 40 (by omega)).1
  have fd : ∀ X : Nat, f_X13_find 964 0 (r5.1 950 40) (nI X) r5 = f_X13_find 964 0 (nI (nt 0)) (nI X) r := fun X => by
    rw [q40, e40]
    exact fd_st (fun j => (q 964 j (by decide) (by decide) (by decide)).1)
  have W : rlW nt r5 (k 2) := by
    refine ⟨e29, k13, fun n hn => ⟨?_, ?_, fun h8 => ?_⟩⟩
    · rw [(q 955 n (by decide) (by decide) (by decide)).1]
      rcases h.2.2.2.2.2.2.1.1 n (Nat.zero_le _) hn with ⟨K, k1, k2, k3, _⟩ | ⟨⟨E, _, K, a1, a2, a3, _⟩, _⟩ | ⟨a1, _⟩
      · exact ⟨K, by omega, k3⟩
      · exact ⟨K, by omega, a3⟩
      · exact ⟨58, by decide, a1⟩
    · exact (h.2.2.2.2.2.2.2.2.1 n (Nat.zero_le _) hn).fr (Nat.le_refl _) (q 955 n (by decide) (by decide) (by decide)).1 (q 959 n (by decide) (by decide) (by decide)).1 (q 960 n (by decide) (by decide) (by decide)).1 (q 957 n (by decide) (by decide) (by decide)).2 (fun j _ _ => (q 955 j (by decide) (by decide) (by decide)).1)
    · rw [(q 955 n (by decide) (by decide) (by decide)).1] at h8
      obtain ⟨X, v, u, x1, x2, x3, x4, x5, x6⟩ := rn_of h Q fs nl hn h8
      refine ⟨v, u, ?_, by omega, ?_, x6⟩
      · rw [(q 957 n (by decide) (by decide) (by decide)).2, x2, lN_i, fd]
        exact x3.1
      · rw [(q 965 v (by decide) (by decide) (by decide)).1]
        exact x5
  refine ⟨W, fun n hn h8 => ?_⟩
  rw [(q 955 n (by decide) (by decide) (by decide)).1] at h8
  obtain ⟨X, v, u, x1, x2, x3, x4, x5, x6⟩ := rn_of h Q fs nl hn h8
  have nm : rlNm r5 n = u := by
    unfold rlNm
    rw [(q 957 n (by decide) (by decide) (by decide)).2, x2, lN_i, fd, show f_X13_find 964 0 (nI (nt 0)) (nI X) r = some (nI v) from x3.1]
    show (r5.1 965 (nI v).toNatClampNeg).toNatClampNeg = u
    rw [nI_clamp (n := v) (by omega), (q 965 v (by decide) (by decide) (by decide)).1, x5, nI_clamp (n := u) (by omega)]
  rw [nm]
  have en : rkR nt r n = 1 + rkT nt r v := by
    unfold rkR
    rw [if_pos h8, x2, lN_i, e40, show f_X13_find 964 0 (nI (nt 0)) (nI X) r = some (nI v) from x3.1]
    show 1 + rkT nt r (nI v).toNatClampNeg = _
    rw [nI_clamp (n := v) (by omega)]
  rw [en]
  by_cases z : r.1 955 u = 8
  · obtain ⟨Y, w, u', y1, y2, y3, y4, y5, y6⟩ := rn_of h Q fs nl x6 z
    have eu : rkR nt r u = 1 + rkT nt r w := by
      unfold rkR
      rw [if_pos z, y2, lN_i, e40, show f_X13_find 964 0 (nI (nt 0)) (nI Y) r = some (nI w) from y3.1]
      show 1 + rkT nt r (nI w).toNatClampNeg = _
      rw [nI_clamp (n := w) (by omega)]
    rw [eu]
    have R : nR nt r v w := ⟨u, Y, x5, by omega, z, y2, y1, y3, y4⟩
    have := rkT.step R (by omega) (nr w y4)
    omega
  · unfold rkR
    rw [if_neg z]
    omega
end
