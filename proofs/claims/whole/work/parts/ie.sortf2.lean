/-! Level 2: exps worked out: the class puts a record's fields in order, whole. -/
section
variable {s : t_S} {w k n : Nat} {Z L T : Nat → Nat}
theorem sof_all (hT : SE Z w T) (hw : w ≤ 16) (hZ : ∀ l, l < w → Z l < 7934) (hF : RF (s.2.1 340) w Z L) (hI : 1 + sm (fun q => 1 + L q) w ≤ 120) (h0 : vl_c w n 6 (s.2.1 340 0)) : t_hk (f_X8_sortFields 340 (0 : Int32) 341 s) (fun s' => (∀ i, i < w → ∀ d, d < 1 + L (T i) → s'.2.1 340 (1 + sm (fun q => 1 + L (T q)) i + d) = s.2.1 340 (1 + sm (fun q => 1 + L q) (T i) + d)) ∧ s'.2.1 340 0 = s.2.1 340 0 ∧ l2_fr (fun b _ => b = 340 ∨ b = 341) s s') := by
  obtain ⟨o1, o2⟩ := t_340
  obtain ⟨o3, o4⟩ := t_341
  have sums : sm (fun q => 1 + L (T q)) w = sm (fun q => 1 + L q) w := se_sum (f := fun q => 1 + L q) w T hT
  have hO : sm (fun q => 1 + L (T q)) w ≤ 119 := by rw [sums]; omega
  unfold f_X8_sortFields
  refine l2_ck o1 (l2_ck (show t_ix 0 (t_ln 340) = true from by rw [o2]; decide) ?_)
  rw [show (0 : Int32).toNatClampNeg = 0 from rfl, fd_wd (c := s) (by omega) h0]
  have Os : ∀ l, sm (fun q => 1 + L (T q)) (l + 1) = sm (fun q => 1 + L (T q)) l + (1 + L (T l)) := fun l => rfl
  have Ole : ∀ l, l ≤ w → sm (fun q => 1 + L (T q)) l ≤ sm (fun q => 1 + L (T q)) w := fun l hl => by
    have := sm_mono (f := fun q => 1 + L (T q)) (w - l) l
    rw [show l + (w - l) = w by omega] at this
    exact this
  refine l2_lp (fun m z => ∃ k s', k + m = w ∧ z = (340, 0, 341, nI w, nI (sm (fun q => 1 + L (T q)) k), lstF Z T k, nI k, s') ∧ (∀ i, i < k → ∀ d, d < 1 + L (T i) → s'.2.1 341 (sm (fun q => 1 + L (T q)) i + d) = s.2.1 340 (1 + sm (fun q => 1 + L q) (T i) + d)) ∧ l2_fr (fun b _ => b = 341) s s') ?_ (m := w) (Nat.lt_trans (show w < 1000000000 by omega) l2_N) ⟨0, s, by omega, rfl, fun i hi => by omega, l2_fr.rf⟩
  rintro m z ⟨k, s', hk, rfl, g, fr⟩
  show t_hk (k_X8_sortFields_17 340 0 341 (nI w) (nI (sm (fun q => 1 + L (T q)) k)) (lstF Z T k) (nI k) s') _
  unfold k_X8_sortFields_17
  have e340 : ∀ j, s'.2.1 340 j = s.2.1 340 j := fun j => (fr 340 j (show ¬ 340 = 341 by decide)).2.1
  by_cases d : k = w
  · subst d
    refine l2_ck (nI_le (Nat.le_refl _) (by omega)) (l2_mp (l2_ck o3 (l2_ck o1 ?_)))
    rw [show (0 : Int32) + (1 : Int32) = nI 1 from rfl]
    refine l2_ck (cp_ok (x := 0) (by omega) (by omega) (by omega) (by rw [o4]; omega) (by rw [o2]; omega)) (l2_lt ?_)
    obtain ⟨p1, p2, p3⟩ := cp_at (s := s') (a := 341) (b := 340) (x := 0) (y := 1) (m := sm (fun q => 1 + L (T q)) k) (by omega) (by omega) (by omega)
    have p2 : ∀ d, d < sm (fun q => 1 + L (T q)) k → (t_cpJ s' 341 340 (0 : Int32) (nI 1) (nI (sm (fun q => 1 + L (T q)) k))).2.1 340 (1 + d) = s'.2.1 341 (0 + d) := p2
    have p3 : l2_fr _ s' (t_cpJ s' 341 340 (0 : Int32) (nI 1) (nI (sm (fun q => 1 + L (T q)) k))) := p3
    generalize t_cpJ s' 341 340 (0 : Int32) (nI 1) (nI (sm (fun q => 1 + L (T q)) k)) = s2 at *
    refine l2_sm ⟨fun i hi d hd => ?_, ?_, (fr.mono (fun b j y => Or.inr y)).trans (p3.mono (fun b j y => Or.inl y.1))⟩
    · have l1 := Ole (i + 1) (by omega)
      have l2 := Os i
      rw [show 1 + sm (fun q => 1 + L (T q)) i + d = 1 + (sm (fun q => 1 + L (T q)) i + d) by omega, p2 _ (by omega), Nat.zero_add]
      exact g i hi d hd
    · rw [(p3 340 0 (by omega)).2.1]; exact e340 0
  · have kw : k < w := by omega
    refine l2_no (nI_ge kw (by omega)) ?_
    have RF' : RF (s'.2.1 340) w Z L := fun l hl => by
      obtain ⟨q1, t, kk, q2⟩ := hF l hl
      exact ⟨by rw [e340]; exact q1, t, kk, by rw [e340]; exact q2⟩
    obtain ⟨z, ez, s2, rfl, cp, f2⟩ := so_34 (s := s') hT hw kw hZ RF' hI hO
    refine ⟨_, ez, m - 1, by omega, k + 1, s2, by omega, rfl, fun i hi x hx => ?_, fr.trans (f2.mono (fun b j y => y.1))⟩
    by_cases e : i = k
    · subst e
      rw [cp x hx, e340]
    · have l1 : sm (fun q => 1 + L (T q)) (i + 1) ≤ sm (fun q => 1 + L (T q)) k := by
        have := sm_mono (f := fun q => 1 + L (T q)) (k - (i + 1)) (i + 1)
        rw [show i + 1 + (k - (i + 1)) = k by omega] at this
        exact this
      have l2 := Os i
      rw [(f2 341 _ (by omega)).2.1]
      exact g i (by omega) x hx
end
