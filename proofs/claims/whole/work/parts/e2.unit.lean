/-! Level 2: a function as an item: from its ( on; its component. -/
section
variable {P : pc_S} {nt : Nat → Nat} {W f n n2 n3 X Y a g f2 p0 u so : Nat} {L : Nat → Nat} {ka : Int32} {k : Nat → Nat} {c0 r0 c r c1 r1 c' r' : t_S}
/-- which component a word tells -/
def ka_R (n2 : Nat) (r : t_S) (X : Nat) (ka : Int32) : Prop := (ka = -1 ∧ ∀ k, k < n2 → r.1 970 k ≠ nI X) ∨ ∃ k, k < n2 ∧ ka = nI k ∧ r.1 970 k = nI X ∧ ∀ j, j < n2 → r.1 970 j = nI X → j = k
theorem nt_ka {s : t_S} (N : nt_R W nt c r) (hX : X < 7934) (hW : 66 + X < W) (so : Int32) : ∃ ka, k_X6_readUnitItem_97 so (c.1 6 (66 + X) - 1) s = k_X6_readUnitItem_122 so ka s ∧ ka_R (nt 2) r X ka := by
  have n2 : nt 2 ≤ 8 := (N.1 2 (by decide)).1
  have tl : ∀ k, k < nt 2 → r.1 970 k = nI X → c.1 6 (66 + X) = nI (201 + k) := fun k hk e => by
    obtain ⟨X', y1, y2, y3, y4⟩ := N.2.1 2 k (by decide) hk
    have y3 : r.1 970 k = nI X' := y3
    have ee : X = X' := (nI_eq (by omega) (by omega)).mp (e.symm.trans y3)
    rw [ee, y4]
  unfold k_X6_readUnitItem_97 k_X6_readUnitItem_121
  rcases N.2.2 X hW with h0 | ⟨h, j, h4, hj, hB, hc⟩
  · refine ⟨-1, ?_, Or.inl ⟨rfl, fun k hk e => ?_⟩⟩
    · rw [h0, if_pos (by decide)]
    · have y := (tl k hk e).symm.trans h0
      have := (nI_eq (b := 0) (by omega) (by decide)).mp y
      omega
  · have n60 := N.le h4
    have e1 : c.1 6 (66 + X) - 1 = nI (100 * h + j) := by
      rw [hc, show (1 : Int32) = nI 1 from rfl, pk_sub (by omega), show 1 + 100 * h + j - 1 = 100 * h + j by omega]
    rw [e1]
    by_cases h2 : h = 2
    · subst h2
      rw [if_neg (show ¬ nI (100 * 2 + j) < (200 : Int32) from nI_nlt (b := 200) (by omega) (by omega)), if_neg (show ¬ (300 : Int32) ≤ nI (100 * 2 + j) from nI_ge (b := 300) (by omega) (by decide)), show (200 : Int32) = nI 200 from rfl, pk_sub (by omega), show 100 * 2 + j - 200 = j by omega]
      refine ⟨nI j, rfl, Or.inr ⟨j, hj, rfl, hB, fun i hi e => ?_⟩⟩
      have y := (tl i hi e).symm.trans hc
      have := (nI_eq (by omega) (by omega)).mp y
      omega
    · refine ⟨-1, ?_, Or.inl ⟨rfl, fun k hk e => ?_⟩⟩
      · by_cases h3 : h = 3
        · rw [if_neg (show ¬ nI (100 * h + j) < (200 : Int32) from nI_nlt (b := 200) (by omega) (by omega)), if_pos (show (300 : Int32) ≤ nI (100 * h + j) from nI_le (a := 300) (by omega) (by omega))]
        · rw [if_pos (show nI (100 * h + j) < (200 : Int32) from nI_lt (b := 200) (by omega) (by decide))]
      · have y := (tl k hk e).symm.trans hc
        have := (nI_eq (by omega) (by omega)).mp y
        omega
/-- from its ( on -/
def uC_G (P : pc_S) (nt : Nat → Nat) (f n2 a g : Nat) (k : Nat → Nat) (c r c' r' : t_S) : Prop := ∃ (n u : Nat) (cs rs : t_S), k 0 ≤ u ∧ n ≤ 8 ∧ uB_G P nt f n2 a g (ck u (k 1) (k 2) (k 3) (k 4) (k 5) (k 6) (k 7) (k 8) (k 9)) cs rs n c' r' ∧ l2_fr (uWc f) c cs ∧ l2_fr (uWr f) r rs ∧ cs.1 439 f = nI n ∧ rs.1 985 f = nI n ∧ ∀ i, i < n → cs.1 443 (8 * f + i) = -1
theorem u_C (S : us P nt f n2 Y 0 L ka a g k (k 0) c r) (h39 : c.1 439 f = nI 0) (h81 : r.1 981 f = nI (3 + so)) (h85 : r.1 985 f = nI 0) (hso : so ≤ 2) : t_h2 (unC (nI so) c) (unR3 (nI (3 + so)) f r) (fun c' r' => uC_G P nt f n2 a g k c r c' r' ∨ ∃ f2 p0, zF f2 p0 c c' ∧ yR P f2 p0 r r') := by
  have hf := S.2.2.2
  unfold unC unR3
  refine h2_bb _ (pj_need S.1.1 (by decide) (x := 40) (by decide) rfl) (fun c1 r1 hw => ?_)
  obtain ⟨y1, y2, y3⟩ := hw
  have C1 : l2_fr (uWc f) c c1 := y1.mono (fun b j y => Or.inl y)
  have R1 : l2_fr (uWr f) r r1 := y2.mono (fun b j y => Or.inl (Or.inl y))
  rcases y3 with J1 | ⟨f2, p0, y3, y4⟩
  rotate_left
  · have z1 : zS f f2 p0 c c1 := S.z y3 C1 l2_fr.rf
    have h := z1.uC hf (nI so)
    unfold unC at h
    rw [z1.1.need (by decide), l2_bs] at h
    have w1 : yR P f2 p0 r r1 := ⟨y4, mo_rn y2⟩
    exact h2_sep _ _ h (l2_if (fun _ => l2_bd _ (w1.params hf) (fun r2 h2 => h2.u123 hf (nI (3 + so)))) (fun _ => w1.u123 hf (nI (3 + so)))) (fun _ _ z y => Or.inr ⟨f2, p0, z, y⟩)
  have S1 := S.mk (Nat.le_succ _) J1 C1 R1 (S.2.1.fr y1 y2 ⟨by unfold la_W; omega, fun i _ => by unfold la_W; omega⟩ ⟨by unfold rn_W; omega, fun i _ => by unfold rn_W; omega⟩)
  have e39 : c1.1 439 f = nI 0 := by rw [(y1 439 f (by unfold la_W; omega)).1]; exact h39
  have e85 : r1.1 985 f = nI 0 := by rw [(y2 985 f (by unfold rn_W; omega)).1]; exact h85
  have e81 : r1.1 981 f = nI (3 + so) := by rw [(y2 981 f (by unfold rn_W; omega)).1]; exact h81
  have flt : ∀ {f2 p0 : Nat} {cs rs : t_S}, zS f f2 p0 c cs → yR P f2 p0 r rs → t_h2 (k_X6_readUnitItem_165 (nI so) cs) (k_X13_function_123 (nI (3 + so)) (nI f) rs) (fun c' r' => uC_G P nt f n2 a g k c r c' r' ∨ ∃ f2 p0, zF f2 p0 c c' ∧ yR P f2 p0 r r') := fun z y => h2_sep _ _ (z.u165 hf (nI so)) (y.u123 hf (nI (3 + so))) (fun _ _ z y => Or.inr ⟨_, _, z, y⟩)
  have go : ∀ {n u : Nat} {L : Nat → Nat} {cs rs : t_S}, us P nt f n2 Y n L ka a g k u cs rs → k 0 ≤ u → n ≤ 8 → l2_fr (uWc f) c cs → l2_fr (uWr f) r rs → cs.1 439 f = nI n → rs.1 985 f = nI n → (∀ i, i < n → cs.1 443 (8 * f + i) = -1) → t_h2 (k_X6_readUnitItem_165 (nI so) cs) (k_X13_function_123 (nI (3 + so)) (nI f) rs) (fun c' r' => uC_G P nt f n2 a g k c r c' r' ∨ ∃ f2 p0, zF f2 p0 c c' ∧ yR P f2 p0 r r') := fun {n u L cs rs} T hu hn FC FR q39 q85 q43 => by
    refine h2_imp (u_body (k := ck u (k 1) (k 2) (k 3) (k 4) (k 5) (k 6) (k 7) (k 8) (k 9)) (so := so) T q85 hso) (fun c' r' h => ?_)
    rcases h with h | ⟨f2, p0, z, y⟩
    · exact Or.inl ⟨n, u, cs, rs, hu, hn, h, FC, FR, q39, q85, q43⟩
    · exact Or.inr ⟨f2, p0, z.at (uW_mo FC), y.at (uW_mr FR)⟩
  rcases S1.1.1.is (x := 41) (by decide) with ⟨x1, x2⟩ | ⟨x1, x2⟩
  · have x2 : f_X13_is 41 r1 = 1 := x2
    rw [if_pos (show c1.1 1 8 = 41 from x1), ite_self, if_neg (show ¬ f_X13_is 41 r1 = 0 by rw [x2]; decide)]
    exact go S1 (Nat.le_succ _) (by decide) C1 R1 e39 e85 (fun i hi => absurd hi (Nat.not_lt_zero _))
  have x2 : f_X13_is 41 r1 = 0 := x2
  rw [if_neg (show ¬ c1.1 1 8 = 41 from x1), if_pos x2]
  by_cases z2 : so = 2
  · subst z2
    rw [if_pos (show nI 2 = (2 : Int32) from rfl)]
    obtain ⟨c2, r2, q1, q2, w1, w2, f2, p0, w3, w4⟩ := pj_fail (f := 2) S1.1.1 (by decide) (by decide)
    have q1 : f_X2_fail 2 c1 = some c2 := q1
    have q2 : f_X13_fail 2 (r1.1 950 6) r1 = some r2 := q2
    have z3 : zS f f2 p0 c c2 := S1.z w3 (w1.mono (fun b j y => Or.inl y)) (uW_mo C1)
    have y3 : yR P f2 p0 r r2 := ⟨w4, (uW_mr R1).trans (mo_rn w2)⟩
    have hp : t_hk (f_X13_parameters (nI f) r1) (yR P f2 p0 r) := by
      obtain ⟨zz, e3, x, r3, rfl, y4⟩ := y3.u32 hf
      unfold f_X13_parameters
      obtain ⟨N, hN⟩ : ∃ N, t_N = N + 1 := ⟨t_N - 1, by have := l2_N; omega⟩
      have eS : t_loop b_X13_parameters_2 (N + 1) (nI f, 1, r1) = t_loop b_X13_parameters_2 N (nI f, x, r3) := by
        refine l2_lpS ?_
        show k_X13_parameters_2 (nI f) 1 r1 = _
        unfold k_X13_parameters_2
        rw [if_neg (by decide), if_pos S1.1.1.f0.2, if_pos (l2_ix hf (by decide)), nI_clamp (n := f) (by omega), if_pos (show r1.1 981 f = 5 from e81), q2, l2_bs]
        exact e3
      rw [hN, eS]
      exact y4.pgo hf x N (by have := l2_N; omega)
    have hc : k_X6_readUnitItem_165 (nI 2) c1 = k_X6_readUnitItem_165 (nI 2) c2 := by
      unfold k_X6_readUnitItem_165
      rw [z3.1.need (by decide)]
      unfold f_X2_need
      rw [if_neg (show ¬ c1.1 1 8 = 41 from x1), q1]
      rfl
    show t_h2 (k_X6_readUnitItem_165 (nI 2) c1) _ _
    rw [hc]
    obtain ⟨r3, e3, y4⟩ := hp
    rw [e3, l2_bs]
    exact flt z3 y4
  · rw [if_neg (show ¬ nI so = (2 : Int32) from fun y => z2 ((nI_eq (b := 2) (by omega) (by decide)).mp y))]
    refine h2_bb _ (u_params (c0 := c1) (r0 := r1) (u := k 0 + 1) ⟨L, S1, Nat.le_succ _, e39, fun i hi => absurd hi (Nat.not_lt_zero _), l2_fr.rf, l2_fr.rf⟩ (by rw [e81]; exact fun y => z2 (by have := (nI_eq (b := 5) (by omega) (by decide)).mp y; omega))) (fun cs rs h => ?_)
    rcases h with ⟨n, u, ⟨L', T, hu, q39, q43, FC, FR⟩, q85⟩ | ⟨f2, p0, z, y⟩
    · exact go T hu T.2.1.1 (C1.trans FC) (R1.trans FR) q39 q85 q43
    · exact flt (z.at (uW_mo C1)) (y.at (uW_mr R1))
end
