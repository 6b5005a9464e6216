/-! Level 2: depths of templs, as the reference counts them, given the depth of one templ. -/
section
variable {n u v i j : Nat} {D : Nat → Nat} {F : (Nat → Nat) → Nat → Nat} {r r' r2 : t_S} {Q : t_S → Prop}
/-- depths stand in the reference -/
def rdD (n : Nat) (D : Nat → Nat) (r : t_S) : Prop := ∀ u, u < n → D u ≤ 1000 ∧ r.1 1005 u = nI (D u)
/-- one templ's depth from depths -/
def rdH (n : Nat) (F : (Nat → Nat) → Nat → Nat) (r : t_S) : Prop := ∀ r2 D, l2_fr (fun b _ => b = 1005) r r2 → rdD n D r2 → ∀ u, u < n → f_X13_depth (r.1 968 u) r2 = some (nI (F D u)) ∧ F D u ≤ 5000
theorem gR.le (hD : ∀ v, v < n → D v ≤ 1000) : ∀ i, i ≤ n → ∀ v, v < n → gR F D i v ≤ 1000 := by
  intro i
  induction i with
  | zero => intro _ v hv; exact hD v hv
  | succ i ih =>
    intro hi v hv
    show dU (gR F D i) i _ v ≤ 1000
    have := ih (by omega) v hv
    unfold dU
    by_cases c : v = i
    · rw [if_pos c]
      omega
    · rw [if_neg c]
      exact this
theorem fd_round {l1 : Int32} (hn : n ≤ 60) (e44 : r.1 950 44 = nI n) (H : rdH n F r) (f0 : l2_fr (fun b _ => b = 1005) r r') (hD : rdD n D r') : t_hk (t_loop b_X13_findDepths_33 t_N (l1, 0, r')) (fun w => ∃ r2, w = .inl (l1 + 1, r2) ∧ l2_fr (fun b _ => b = 1005) r r2 ∧ rdD n (gR F D n) r2) := by
  refine l2_lp (fun m q => ∃ (i : Nat) (r2 : t_S), i + m = n ∧ q = (l1, nI i, r2) ∧ l2_fr (fun b _ => b = 1005) r r2 ∧ rdD n (gR F D i) r2) ?_ (m := n) (Nat.lt_trans (show n < 1000000000 by omega) l2_N) ⟨0, r', by omega, rfl, f0, hD⟩
  rintro m q ⟨i, r2, hi, rfl, f, hD2⟩
  show t_hk (k_X13_findDepths_33 l1 (nI i) r2) _
  unfold k_X13_findDepths_33
  rw [(f 950 44 (by omega)).1, e44]
  by_cases c : i = n
  · subst c
    exact l2_ck (nI_le (Nat.le_refl _) (by omega)) (l2_mp (l2_sm ⟨r2, rfl, f, hD2⟩))
  refine l2_no (nI_ge (by omega) (by omega)) (l2_ck (l2_ix (show i < 60 by omega) (by decide)) ?_)
  obtain ⟨h1, h2⟩ := H r2 _ f hD2 i (by omega)
  rw [nI_clamp (n := i) (by omega), (f 968 i (by omega)).1, h1, l2_bs]
  have new : ∀ x : Nat, x = min 1000 (F (gR F D i) i) → t_hk (k_X13_findDepths_71 l1 (nI i) (nI x) (nI i) r2) (l2_nx (fun z => ∃ j, j < m ∧ ∃ (i : Nat) (r2 : t_S), i + j = n ∧ z = (l1, nI i, r2) ∧ l2_fr (fun b _ => b = 1005) r r2 ∧ rdD n (gR F D i) r2) (fun w => ∃ r2, w = .inl (l1 + 1, r2) ∧ l2_fr (fun b _ => b = 1005) r r2 ∧ rdD n (gR F D n) r2)) := fun x hx => by
    unfold k_X13_findDepths_71
    refine l2_ck (l2_ix (show i < 60 by omega) (by decide)) (l2_lt ?_)
    rw [nI_clamp (n := i) (by omega), nI_1]
    have fr : l2_fr (fun b j => b = 1005 ∧ j = i) r2 (t_setI r2 1005 i (nI x)) := l2_fr.set ⟨rfl, rfl⟩
    have vv : (t_setI r2 1005 i (nI x)).1 1005 i = nI x := by simp only [l2_gI, and_self, reduceIte]
    have en : gR F D (i + 1) = dU (gR F D i) i x := by rw [hx]; rfl
    refine l2_sm ⟨m - 1, by omega, i + 1, _, by omega, rfl, f.trans (fr.mono (fun b j y => y.1)), fun u hu => ?_⟩
    rw [en]
    by_cases c : u = i
    · rw [c, vv, dU.at]
      exact ⟨by omega, rfl⟩
    · rw [(fr 1005 u (fun y => c y.2)).1, dU.no c]
      exact hD2 u hu
  by_cases z : F (gR F D i) i ≤ 1000
  · refine l2_ck (show nI (F (gR F D i) i) ≤ (1000 : Int32) from nI_le (b := 1000) z (by decide)) (new _ (by omega))
  · exact l2_no (show ¬ nI (F (gR F D i) i) ≤ (1000 : Int32) from nI_ge (a := 1000) (by omega) (by omega)) (new 1000 (by omega))
theorem fd_all (hn : n ≤ 60) (e44 : r.1 950 44 = nI n) (H : rdH n F r) : t_hk (f_X13_findDepths r) (fun r2 => l2_fr (fun b _ => b = 1005) r r2 ∧ rdD n (kR F n 64) r2) := by
  unfold f_X13_findDepths
  refine ck_lp (fun i r2 => l2_fr (fun b _ => b = 1005) r r2 ∧ ∀ u, u < i → r2.1 1005 u = 0) (N := n) (by omega) ⟨l2_fr.rf, fun u hu => absurd hu (Nat.not_lt_zero _)⟩ ?_ ?_
  · rintro P r1 ⟨f1, h1⟩
    show t_hk (k_X13_findDepths_2 (nI n) r1) _
    unfold k_X13_findDepths_2
    rw [(f1 950 44 (by omega)).1, e44]
    refine l2_ck (nI_le (Nat.le_refl _) (by omega)) (l2_mp ?_)
    refine ck_lp (fun j r2 => l2_fr (fun b _ => b = 1005) r r2 ∧ rdD n (kR F n j) r2) (N := 64) (by decide) ⟨f1, fun u hu => ⟨Nat.zero_le _, h1 u hu⟩⟩ ?_ ?_
    · rintro P r2 ⟨f, h⟩
      show t_hk (k_X13_findDepths_25 (nI 64) r2) _
      unfold k_X13_findDepths_25
      exact l2_ck (by decide) (l2_mp (l2_sm ⟨f, h⟩))
    · rintro j r2 hj ⟨f, h⟩
      show t_hk (k_X13_findDepths_25 (nI j) r2) _
      unfold k_X13_findDepths_25
      refine l2_no (show ¬ (64 : Int32) ≤ nI j from nI_ge (b := 64) (by omega) (by decide)) ?_
      refine l2_imp (fd_round (l1 := nI j) hn e44 H f h) (fun w hw => ?_)
      obtain ⟨r3, rfl, q1, q2⟩ := hw
      exact ⟨r3, by rw [nI_1], q1, q2⟩
  · rintro i r2 hi ⟨f, h⟩
    show t_hk (k_X13_findDepths_2 (nI i) r2) _
    unfold k_X13_findDepths_2
    rw [(f 950 44 (by omega)).1, e44]
    refine l2_no (nI_ge hi (by omega)) (l2_ck (l2_ix (show i < 60 by omega) (by decide)) (l2_lt ?_))
    rw [nI_clamp (n := i) (by omega), nI_1]
    have fr : l2_fr (fun b j => b = 1005 ∧ j = i) r2 (t_setI r2 1005 i 0) := l2_fr.set ⟨rfl, rfl⟩
    have vv : (t_setI r2 1005 i 0).1 1005 i = 0 := by simp only [l2_gI, and_self, reduceIte]
    refine l2_sm ⟨_, rfl, f.trans (fr.mono (fun b j y => y.1)), fun u hu => ?_⟩
    by_cases c : u = i
    · rw [c, vv]
    · rw [(fr 1005 u (fun y => c y.2)).1]
      exact h u (by omega)
end
