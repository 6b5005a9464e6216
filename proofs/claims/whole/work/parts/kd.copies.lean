/-! Level 2: the reference keeps a VALUE for a node: prepare, behind the work. -/
def cpW (pc b j : Nat) : Prop := (b = 950 ∧ (j = 98 ∨ j = 135)) ∨ (b = 1027 ∧ pc ≤ j)
section
variable {s : t_S} {rc : RT_X13_behindFirst} {top m pc l2 : Nat}
theorem cp_loop (ht : top + m ≤ 626600) (hp : pc + m ≤ 370000) : ∀ (j d : Nat) (s1 : t_S) (N : Nat), d + j = m → j < N → l2_fr (cpW pc) s s1 → s1.1 950 135 = nI (pc + d) → (∀ e, e < d → s1.2.1 1027 (pc + e) = s.2.1 1006 (top + e)) → ∃ s', t_loop (b_X13_prepare_71 rc) N (nI l2, nI top, nI m, nI d, s1) = some s' ∧ l2_fr (cpW pc) s s' ∧ s'.1 950 135 = nI (pc + m) ∧ s'.1 950 98 = nI l2 ∧ ∀ e, e < m → s'.2.1 1027 (pc + e) = s.2.1 1006 (top + e) := by
  intro j
  induction j with
  | zero =>
    intro d s1 N hd hN fr h5 h
    obtain ⟨N, rfl⟩ : ∃ y, N = y + 1 := ⟨N - 1, by omega⟩
    obtain rfl : d = m := by omega
    refine ⟨t_setI s1 950 98 (nI l2), ?_, fr.trans (l2_fr.set (Or.inl ⟨rfl, Or.inl rfl⟩)), by rw [l2_g, if_neg (by decide)]; exact h5, by rw [l2_g, if_pos rfl], fun e he => h e he⟩
    have st : b_X13_prepare_71 rc (nI l2, nI top, nI d, nI d, s1) = some (.inr (t_setI s1 950 98 (nI l2))) := by
      show k_X13_prepare_71 rc (nI l2) (nI top) (nI d) (nI d) s1 = _
      unfold k_X13_prepare_71 k_X13_prepare_112
      rw [if_pos (nI_le (Nat.le_refl _) (by omega)), t_let]
      rfl
    exact l2_lpR st
  | succ j ih =>
    intro d s1 N hd hN fr h5 h
    obtain ⟨N, rfl⟩ : ∃ y, N = y + 1 := ⟨N - 1, by omega⟩
    have e6 : ∀ q, s1.2.1 1006 q = s.2.1 1006 q := fun q => (fr 1006 q (fun y => by unfold cpW at y; omega)).2.1
    obtain ⟨s2, hs2⟩ : ∃ s2, s2 = t_setI (t_setJ s1 1027 (pc + d) (s.2.1 1006 (top + d))) 950 135 (nI (pc + (d + 1))) := ⟨_, rfl⟩
    have st : b_X13_prepare_71 rc (nI l2, nI top, nI m, nI d, s1) = some (.inl (nI l2, nI top, nI m, nI (d + 1), s2)) := by
      show k_X13_prepare_71 rc (nI l2) (nI top) (nI m) (nI d) s1 = _
      unfold k_X13_prepare_71
      rw [if_neg (nI_ge (show d < m by omega) (by omega)), nI_add, if_pos (l2_ix (j := top + d) (n := 626600) (by omega) (by decide)), h5, if_pos (l2_ix (j := pc + d) (n := 370000) (by omega) (by decide)), nI_clamp (n := pc + d) (by omega), nI_clamp (n := top + d) (by omega), t_let, t_let, e6]
      have e5 : (t_setJ s1 1027 (pc + d) (s.2.1 1006 (top + d))).1 950 135 = nI (pc + d) := h5
      rw [e5, nI_1, nI_1, hs2]
      rfl
    rw [l2_lpS st]
    have f2 : l2_fr (cpW pc) s1 s2 := by
      rw [hs2]
      exact (l2_fr.setJ (Or.inr ⟨rfl, by omega⟩)).trans (l2_fr.set (Or.inl ⟨rfl, Or.inr rfl⟩))
    refine ih (d + 1) s2 N (by omega) (by omega) (fr.trans f2) (by rw [hs2, l2_g, if_pos rfl]) (fun e he => ?_)
    rw [hs2]
    show (t_setJ s1 1027 (pc + d) (s.2.1 1006 (top + d))).2.1 1027 (pc + e) = _
    rw [l2_jJ]
    by_cases c : e = d
    · subst c
      exact mj_up_eq _ _ _
    · rw [mj_up_ne _ _ (by omega)]
      exact h e (by omega)
/-- a node of kind 38, once its exp is worked out without ERROR -/
theorem pr_38 {n a l : Nat} {r r5 : t_S} {g : Nat} (hn : n < 13000) (h97 : r.1 950 97 = 0) (h55 : r.1 955 n = 38) (h59 : r.1 959 n = nI a) (h98 : r.1 950 98 = nI l) (hw : m_X13_work (R_X13_behindFirst g) (nI a) r = some r5) (g97 : r5.1 950 97 = 0) (htop : f_X13_top r5 = nI top) (hend : f_X13_endOf 1006 (nI top) r5 = some (nI (top + m))) (ht : top + m ≤ 626600) (hp : pc + m ≤ 370000) (g35 : r5.1 950 135 = nI pc) : ∃ r', (R_X13_behindFirst (g + 2)).2.2.2.2.1 (nI n) r = some r' ∧ l2_fr (fun b j => cpW pc b j ∨ (b = 1026 ∧ j = n)) r5 r' ∧ r'.1 950 135 = nI (pc + m) ∧ r'.1 950 98 = nI l ∧ r'.1 1026 n = nI pc ∧ ∀ e, e < m → r'.2.1 1027 (pc + e) = r5.2.1 1006 (top + e) := by
  obtain ⟨s2, hs2⟩ : ∃ s2, s2 = t_setI r5 1026 n (nI pc) := ⟨_, rfl⟩
  have f2 : l2_fr (fun b j => b = 1026 ∧ j = n) r5 s2 := by rw [hs2]; exact l2_fr.set ⟨rfl, rfl⟩
  have e6 : ∀ q, s2.2.1 1006 q = r5.2.1 1006 q := fun q => (f2 1006 q (fun y => by omega)).2.1
  obtain ⟨r', a1, a2, a3, a4, a5⟩ := cp_loop (s := s2) (rc := R_X13_behindFirst (g + 1)) (l2 := l) ht hp m 0 s2 t_N (by omega) (by have := l2_N; omega) l2_fr.rf (by rw [(f2 950 135 (by omega)).1, g35]; rfl) (fun e he => by omega)
  refine ⟨r', ?_, (f2.mono (fun b j w => Or.inr w)).trans (a2.mono (fun b j w => Or.inl w)), a3, a4, ?_, fun e he => by rw [a5 e he, e6]⟩
  · show m_X13_prepare (R_X13_behindFirst (g + 1)) (nI n) r = some r'
    unfold m_X13_prepare
    rw [if_pos h97, if_pos (l2_ix hn (by decide)), nI_clamp (n := n) (by omega), if_pos h55, h59, show (R_X13_behindFirst (g + 1)).2.2.2.2.2.2.2.1 (nI a) r = some r5 from hw, l2_bs, if_pos g97, htop, hend, l2_bs, g35, t_let, h98, nI_dif (show top ≤ top + m by omega), show top + m - top = m by omega, ← hs2]
    exact a1
  · rw [(a2 1026 n (fun y => by unfold cpW at y; omega)).1, hs2, l2_g, if_pos rfl]
end
