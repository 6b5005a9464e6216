/-! Level 2: exps worked out: the parts of { } and [ ], one by one. -/
/-- j VALUES lie there, on both sides -/
def TV (D a H S j : Nat) (N M A : Nat → Nat) (c r : t_S) : Prop := (A 0 = 0 ∧ ∀ i, i < j → A (i + 1) = A i + N i ∧ N i ≤ 120 ∧ VW (c.2.1 338) (r.2.1 1006) 120 (a + A i) (260 * (40 + (H + i))) (N i) (M i)) ∧ (∀ i, i ≤ j → c.1 339 (D + i) = nI (a + A i)) ∧ (c.1 334 7 = nI (D + j) ∧ c.1 334 12 = 0) ∧ r.1 950 98 = nI (H + j) ∧ r.1 950 97 = 0 ∧ r.1 950 103 = nI S
section
variable {κ : KPP} {c0 r0 : t_S} {Kc : t_S → t_S → Prop} {Kr : Nat → Nat → t_S → t_S → Prop} {c r c1 r1 c' r' cs : t_S} {D a H S rr rr2 e0 e1 ea i j g n nn m m0 m1 cnt o K st x b sz v l4 : Nat} {N M A E G pe mA mB : Nat → Nat}
theorem TV.le (h : TV D a H S j N M A c r) : ∀ d i, i + d ≤ j → A i ≤ A (i + d) ∧ A (i + d) ≤ A i + 120 * d := by
  intro d
  induction d with
  | zero => intro i _; exact ⟨Nat.le_refl _, Nat.le_refl _⟩
  | succ d ih =>
    intro i hi
    obtain ⟨a1, a2⟩ := ih i (by omega)
    obtain ⟨b1, b2, _⟩ := h.1.2 (i + d) (by omega)
    rw [show i + (d + 1) = i + d + 1 by omega, b1]
    omega
theorem TV.lt (h : TV D a H S j N M A c r) : A j ≤ 120 * j := by
  have := (h.le j 0 (by omega)).2
  rw [Nat.zero_add, h.1.1, Nat.zero_add] at this
  exact this
/-- where the reference's loop over the parts is -/
def nxG (v : Nat) (G : Nat → Nat) (j : Nat) : Int32 := if j < v then nI (G j) else -1
theorem pt_go (hK : EK Kc Kr) (hr : rr ≤ 360) (hv : v ≤ 16) (hn : n < 13000) (hE0 : E 0 = e0) (hE : ∀ j, j < v → E j ≤ E (j + 1)) (ch : ch_R r0 n v G) (hl : l4 = 0 ∨ l4 = 1) (hp : ∀ j, j < v → EVp κ c0 r0 Kc Kr g (rr + 15) (E j) (E (j + 1)) (mA j) (mB j) (pe j) ∧ mB j - mA j ≤ sz ∧ ((l4 = 0 ∧ pe j = G j) ∨ (l4 = 1 ∧ r0.1 959 (G j) = nI (pe j)))) (hI : Ein κ c0 r0 rr D a H S c r) (hv0 : Iv κ Kc Kr e0 c r) (hS : S + sz ≤ κ.s) : ∀ j, j ≤ v → ∃ c' r', Ef c0 Kc (Kr e0 (E j)) D a H S c r c' r' ∧ ((∃ N M A u, u ≤ E j - e0 ∧ e0 ≤ E j ∧ l2_tn b_X0_work_12 u (nI e0, c) (nI (E j), c') ∧ l2_tn (b_X13_rowOf_33 (R_X13_behindFirst (g + 1))) j (nI n, nI H, 0, nI l4, nxG v G 0, r) (nI n, nI H, nI j, nI l4, nxG v G j, r') ∧ TV D a H S j N M A c' r') ∨ (∃ i u k, u ≤ E j - e0 ∧ e0 ≤ i ∧ i ≤ E j ∧ 0 < k ∧ k ≤ j ∧ l2_tn b_X0_work_12 u (nI e0, c) (nI i, c') ∧ l2_tn (b_X13_rowOf_33 (R_X13_behindFirst (g + 1))) k (nI n, nI H, 0, nI l4, nxG v G 0, r) (nI n, nI H, nI k, nI l4, nxG v G k, r') ∧ Eb e0 (E j) S c' r')) := by
  intro j
  induction j with
  | zero =>
    intro _
    obtain ⟨q1, ⟨q2, q3, q4⟩, ⟨q5, q6, q7⟩, _⟩ := hI
    refine ⟨c, r, Ef.of hK (l2_fr.rf (W := fun _ _ => False)) (l2_fr.rf (W := fun _ _ => False)) (fun b j y => y.elim) (fun b j y => y.elim) (Nat.le_of_eq hE0.symm), Or.inl ⟨fun _ => 0, fun _ => 0, fun _ => 0, 0, Nat.zero_le _, by omega, by rw [hE0]; exact l2_tn.nil, l2_tn.nil, ⟨rfl, fun i hi => by omega⟩, fun i hi => ?_, ⟨q2, q4⟩, q5, q6, q7⟩⟩
    rw [show i = 0 by omega]; exact q3
  | succ j ih =>
    intro hj
    obtain ⟨c1, r1, F, O⟩ := ih (by omega)
    have hEj := hE j (by omega)
    obtain ⟨bd1, bd2, bd3⟩ := hI.2.2.2
    rcases O with ⟨N, M, A, u, u1, u2, u3, u4, T⟩ | ⟨i, u, k, u1, u2, u3, u4, u5, u6, u7, B⟩
    · obtain ⟨p1, p2, p3⟩ := hp j (by omega)
      obtain ⟨⟨A0, TA⟩, T39, ⟨T7, T12⟩, T98, T97, T103⟩ := id T
      have Aj := T.lt
      have z := hI.z F
      have hEin : Ein κ c0 r0 (rr + 15) (D + j) (a + A j) (H + j) S c1 r1 := ⟨z, ⟨T7, T39 j (Nat.le_refl _), T12⟩, ⟨T98, T97, T103⟩, by omega, by omega, by omega⟩
      obtain ⟨c2, r2, i, w, ⟨w1, w2, w3, w4⟩, F2, O2, W⟩ := p1.wk hEin (hv0.ef hK F) (by omega)
      have z2 := hEin.z F2
      have FF : Ef c0 Kc (Kr e0 (E (j + 1))) D a H S c r c2 r2 := F.trans hK F2 (by omega) (by omega) (by omega) (Nat.le_refl _)
      obtain ⟨g1, _, g3, _⟩ := ch.2 j (by omega)
      -- the reference's turn
      have tr : b_X13_rowOf_33 (R_X13_behindFirst (g + 1)) (nI n, nI H, nI j, nI l4, nxG v G j, r1) = some (.inl (nI n, nI H, nI (j + 1), nI l4, nxG v G (j + 1), r2)) := by
        show k_X13_rowOf_33 (R_X13_behindFirst (g + 1)) (nI n) (nI H) (nI j) (nI l4) (nxG v G j) r1 = _
        have e0 : nxG v G j = nI (G j) := if_pos (by omega)
        have e60 : r2.1 960 (G j) = nxG v G (j + 1) := by
          rw [(ez_r (b := 960) (j := G j) z2.2 (by omega)).1, g3]
          rfl
        have W' : k_X13_rowOf_63 (R_X13_behindFirst (g + 1)) (nI n) (nI H) (nI j) (nI l4) (nI (G j)) (nI (pe j)) r1 = some (.inl (nI n, nI H, nI (j + 1), nI l4, nxG v G (j + 1), r2)) := by
          unfold k_X13_rowOf_63
          rw [W, l2_bs, if_pos (l2_ix g1 (by decide)), nI_clamp (n := G j) (by omega), e60, nI_1]
        unfold k_X13_rowOf_33
        rw [e0, if_neg (nI_pos (by omega)), if_pos T97]
        rcases p3 with ⟨l0, pg⟩ | ⟨l1, pg⟩
        · rw [pg] at W'
          rw [if_pos (show nI l4 = (0 : Int32) by rw [l0]; rfl)]
          exact W'
        · have e59 : r1.1 959 (G j) = nI (pe j) := ((ez_r (b := 959) (j := G j) z.2 (by omega)).1).trans pg
          rw [if_neg (show ¬ nI l4 = (0 : Int32) by rw [l1]; decide), if_pos (l2_ix g1 (by decide)), nI_clamp (n := G j) (by omega), e59]
          exact W'
      have u4' := u4.trans (l2_tn.one tr)
      refine ⟨c2, r2, FF, ?_⟩
      rcases O2 with ⟨rfl, G2⟩ | B
      · obtain ⟨⟨n2, k2, V2, f39⟩, ⟨f7, f12⟩, f98, f97, f103⟩ := G2
        have pv := V2.pos
        have up : ∀ (f : Nat → Nat) (k y : Nat), ∃ f' : Nat → Nat, f' k = y ∧ ∀ q, q ≠ k → f' q = f q := fun f k y => ⟨fun q => if q = k then y else f q, if_pos rfl, fun q e => if_neg e⟩
        obtain ⟨N', Nj, No⟩ := up N j n2
        obtain ⟨M', Mj, Mo⟩ := up M j k2
        obtain ⟨A', Aj', Ao⟩ := up A (j + 1) (A j + n2)
        refine Or.inl ⟨N', M', A', u + w, by omega, by omega, u3.trans w4, u4', ⟨by rw [Ao 0 (by omega)]; exact A0, fun q hq => ?_⟩, fun q hq => ?_, ⟨f7, f12⟩, f98, f97, f103⟩
        · by_cases e : q = j
          · subst e
            rw [Aj', Ao q (by omega), Nj, Mj]
            exact ⟨rfl, pv.2.1, V2⟩
          · obtain ⟨t1, t2, t3⟩ := TA q (by omega)
            have le := (T.le (j - (q + 1)) (q + 1) (by omega)).1
            rw [show q + 1 + (j - (q + 1)) = j by omega] at le
            have m2 := t3.m2
            rw [Ao (q + 1) (by omega), Ao q (by omega), No q e, Mo q e]
            exact ⟨t1, t2, VW.copy _ _ _ _ _ _ _ t3 (fun d hd => (F2.1 338 _ (by unfold eWc; omega)).2.1) (fun d hd => (F2.2.1 1006 _ (by unfold eWr; omega)).2.1)⟩
        · by_cases e : q = j + 1
          · subst e
            rw [Aj', show D + (j + 1) = D + j + 1 by omega, f39, Nat.add_assoc]
          · rw [Ao q e, (F2.1 339 (D + q) (by unfold eWc; omega)).1]
            exact T39 q (by omega)
      · exact Or.inr ⟨i, u + w, j + 1, by omega, by omega, w3, by omega, Nat.le_refl _, u3.trans w4, u4', B.w u2 (Nat.le_refl _)⟩
    · exact ⟨c1, r1, F.w hK (Nat.le_refl _) hEj, Or.inr ⟨i, u, k, by omega, u2, by omega, u4, by omega, u6, u7, B.w (Nat.le_refl _) hEj⟩⟩
end
