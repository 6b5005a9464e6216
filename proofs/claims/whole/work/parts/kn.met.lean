/-! Level 2: met, the reference: what it was found becomes a truth. -/
section
variable {r s' : t_S} {rc : RT_X13_behindFirst} {n a b H p : Nat} {Q : Prop}
theorem met_end (hn : n < 13000) (ha : a < 13000) (h59 : r.1 959 n = nI a) (h60 : r.1 960 a = nI b) (h98 : r.1 950 98 = nI (H + 1)) (hH : H < 750) (hp : p = 260 * (40 + H)) (hm : rc.2.2.1 (nI b) (nI p) r = some (bZ Q, s')) (h97 : s'.1 950 97 = 0) : ∃ r', m_X13_met rc (nI n) r = some r' ∧ l2_fr (fun b j => (b = 950 ∧ j = 98) ∨ (b = 1006 ∧ 260 * (40 + H) ≤ j ∧ j < 260 * (41 + H))) s' r' ∧ r'.1 950 98 = nI (H + 1) ∧ r'.1 950 97 = 0 ∧ r'.2.1 1006 (260 * (40 + H)) = lN 1 ∧ r'.2.1 1006 (260 * (40 + H) + 1) = (if bZ Q = 0 then 0 else 1) := by
  have top : f_X13_top r = nI p := by
    unfold f_X13_top
    rw [h98, show (40 : Int32) = nI 40 from rfl, nI_add, show (40 + (H + 1)) = (40 + H) + 1 by omega, nI_pred, show (260 : Int32) = nI 260 from rfl, pk_mul, hp]
  obtain ⟨s2, hs2⟩ : ∃ s2, s2 = t_setI s' 950 98 (nI H) := ⟨_, rfl⟩
  have f2 : l2_fr (fun b j => b = 950 ∧ j = 98) s' s2 := by rw [hs2]; exact l2_fr.set ⟨rfl, rfl⟩
  have e98 : s2.1 950 98 = nI H := by rw [hs2, l2_g, if_pos rfl]
  obtain ⟨r', q1, q2, q3, q4, q5⟩ := rs_truth (b := bZ Q) e98 (by omega)
  have fr : l2_fr (fun b j => (b = 950 ∧ j = 98) ∨ (b = 1006 ∧ 260 * (40 + H) ≤ j ∧ j < 260 * (41 + H))) s2 r' := q5.mono (fun b j w => by omega)
  refine ⟨r', ?_, (f2.mono (fun b j w => Or.inl w)).trans fr, q2, ?_, q3, q4⟩
  · unfold m_X13_met
    rw [if_pos (l2_ix hn (by decide)), nI_clamp (n := n) (by omega), h59, if_pos (l2_ix ha (by decide)), nI_clamp (n := a) (by omega), h60, top, hm, l2_bs, if_pos h97, t_let, h98, show nI (H + 1) - (1 : Int32) = nI H from nI_pred H, ← hs2, q1, l2_bs]
  · rw [(fr 950 97 (by omega)).1, (f2 950 97 (by omega)).1, h97]
/-- both sides' truths are the same VALUE -/
theorem met_vw {c' r' : t_S} (h1 : ∃ s, c'.2.1 338 a = f_X0_truth (bZ Q) s) (h2 : r'.2.1 1006 p = lN 1) (h3 : r'.2.1 1006 (p + 1) = (if bZ Q = 0 then 0 else 1)) : VW (c'.2.1 338) (r'.2.1 1006) 120 a p 1 2 := by
  obtain ⟨s, h1⟩ := h1
  refine ⟨⟨by decide, by decide, by decide⟩, (if bZ Q = 0 then 0 else 1), 1, by rw [h1]; exact tr_cell, h2, Or.inl ⟨Or.inr (Or.inl ⟨rfl, ?_⟩), rfl, rfl, ?_⟩⟩
  · by_cases c : bZ Q = 0
    · rw [if_pos c]; exact Or.inl rfl
    · rw [if_neg c]; exact Or.inr rfl
  · rw [h3]
    by_cases c : bZ Q = 0
    · rw [if_pos c, if_pos c]; rfl
    · rw [if_neg c, if_neg c]; rfl
/-- the way to met -/
theorem met_leaf {g : Nat} {r1 r2 : t_S} (hn : n < 13000) (h97 : r.1 950 97 = 0) (hk : r.1 955 n = 61) (h59 : r.1 959 n = nI a) (hw : m_X13_work (R_X13_behindFirst g) (nI a) r = some r1) (h2 : (if r1.1 950 97 = 0 then m_X13_met (R_X13_behindFirst g) (nI n) r1 else some r1) = some r2) : (R_X13_behindFirst (g + 3)).2.1 (nI n) r = some r2 := by
  show m_X13_leaf (R_X13_behindFirst (g + 2)) (nI n) r = _
  unfold m_X13_leaf
  rw [if_pos h97, if_pos (l2_ix hn (by decide)), nI_clamp (n := n) (by omega), hk, if_pos (by decide)]
  show (m_X13_workMore (R_X13_behindFirst (g + 1)) (nI n) r).bind _ = _
  unfold m_X13_workMore
  rw [if_pos (l2_ix hn (by decide)), nI_clamp (n := n) (by omega), hk, if_neg (by decide), h59, show (R_X13_behindFirst (g + 1)).2.2.2.2.2.2.2.1 (nI a) r = some r1 from hw, l2_bs]
  by_cases e : r1.1 950 97 = 0
  · rw [if_pos e] at h2 ⊢
    rw [if_pos (by decide), show (R_X13_behindFirst (g + 1)).2.2.2.1 (nI n) r1 = some r2 from h2, l2_bs, l2_bs]
  · rw [if_neg e] at h2 ⊢
    rw [l2_bs]
    exact h2
end
