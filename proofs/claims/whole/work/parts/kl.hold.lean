/-! Level 2: the class holds the top VALUE against a templ: operation 36. -/
def hoW (a D b j : Nat) : Prop := cmX b j ∨ (b = 334 ∧ j = 13) ∨ (b = 338 ∧ j = a) ∨ (b = 339 ∧ j = D + 1)
section
variable {c0 c : t_S} {cnt i ta D a : Nat} {Q : Prop}
theorem ho_turn (f : l2_fr (eZc c0) c0 c) (h2 : c0.1 334 2 = nI cnt) (hcnt : cnt ≤ 16000) (hi : i < cnt) (ho : px_o c0 i 36 (nI ta)) (h12 : c.1 334 12 = 0) (h7 : c.1 334 7 = nI (D + 1)) (ha : c.1 339 D = nI a) (hD : D < 3150) (la : a + 240 ≤ 48000) (mm : ∀ cs, l2_fr (fun b j => b = 334 ∧ j = 13) c cs → ∃ s' τ', f_X10_meets (nI ta) 338 (nI a) cs = some (bZ Q, s') ∧ l2_fr cmX cs s' ∧ KM τ' s') : ∃ c' τ', b_X0_work_12 (nI i, c) = some (.inl (nI (i + 1), c')) ∧ l2_fr (hoW a D) c c' ∧ KM τ' c' ∧ c'.1 334 7 = nI (D + 1) ∧ c'.1 339 (D + 1) = nI (a + 1) ∧ c'.2.1 338 a = f_X0_truth (bZ Q) c := by
  have k := cw_turn f h2 hcnt hi ho (by decide) (by decide) h12
  rw [if_pos (by decide), if_pos (by decide), if_pos (by decide), if_pos (by decide), if_pos rfl] at k
  obtain ⟨cs, hcs⟩ : ∃ cs, cs = t_setI c 334 13 (nI i) := ⟨_, rfl⟩
  have f1 : l2_fr (fun b j => b = 334 ∧ j = 13) c cs := by rw [hcs]; exact l2_fr.set ⟨rfl, rfl⟩
  rw [← hcs] at k
  obtain ⟨s', τ', m1, m2, m3⟩ := mm cs f1
  have e7 : cs.1 334 7 = nI (D + 1) := ((f1 334 7 (by omega)).1).trans h7
  have e39 : cs.1 339 D = nI a := ((f1 339 D (by omega)).1).trans ha
  have g7 : s'.1 334 7 = nI (D + 1) := ((m2 334 7 (fun z => by unfold cmX cmW at z; omega)).1).trans e7
  have g39 : s'.1 339 D = nI a := ((m2 339 D (fun z => by unfold cmX cmW at z; omega)).1).trans e39
  obtain ⟨c', q1, q2, q3, q4, q5⟩ := cs_replace (w := f_X0_truth (bZ Q) s') g7 g39 (by omega) (by omega)
  have hold : f_X0_hold (nI ta) cs = some c' := by
    unfold f_X0_hold
    rw [e7, if_pos (show (1 : Int32) ≤ nI (D + 1) from nI_le (a := 1) (by omega) (by omega)), show nI (D + 1) - (1 : Int32) = nI D from nI_pred D, if_pos (l2_ix (by omega) (by decide)), nI_clamp (n := D) (by omega), e39, m1, l2_bs, q1, l2_bs]
  refine ⟨c', τ', by rw [k, hold, l2_bs], (f1.mono (fun b j y => Or.inr (Or.inl y))).trans ((m2.mono (fun b j y => Or.inl y)).trans (q5.mono (fun b j y => y.elim (fun y => Or.inr (Or.inr (Or.inl y))) (fun y => Or.inr (Or.inr (Or.inr y)))))), m3.same (q5 353 13 (by omega)).1 (fun j => (q5 424 j (by omega)).1), q2, q3, q4⟩
end
