/-! Level 2: names settled: one link's turn. -/
section
variable {W : Nat → Nat → Prop} {e l n : Nat} {q v : Int32} {U V : Prop} {S : Nat → Int32 → Prop} {s s0 s1 : t_S}
/-- what a link comes to: U not settled, V its counts differ -/
def sL_O (W : Nat → Nat → Prop) (U V : Prop) (q : Int32) (S : Nat → Int32 → Prop) (s : t_S) (x : Int32 × t_S) : Prop := (x.1 = 0 ∨ x.1 = 1) ∧ (x.1 = 0 ↔ U) ∧ l2_fr W s x.2 ∧ ls_R (x.2.1 846 7) (x.2.1 846 8) (fun a b => S a b ∨ (b = q ∧ a = 6 ∧ V))
theorem sn_next (h6 : s.1 846 6 = nI l) (he : e < l) (hl : l ≤ 6002) (hq : s.1 848 e = q) (hW : ¬ W 848 e) {x : Int32 × t_S} (hx : f_X3_settleName (nI e) s = some x) (h : sL_O W U V q S s x) : ∃ s', k_X3_settleNames_35 (nI e) s = some (.inl (nI (e + 1), s')) ∧ l2_fr lf_W x.2 s' ∧ l2_fr (fun b j => W b j ∨ lf_W b j) s s' ∧ ls_R (s'.1 846 7) (s'.1 846 8) (fun a b => S a b ∨ (b = q ∧ ((a = 4 ∧ U) ∨ (a = 6 ∧ V)))) := by
  obtain ⟨h1, h2, h3, h4⟩ := h
  obtain ⟨y, s1⟩ := x
  have h3 : l2_fr W s s1 := h3
  have h4 : ls_R (s1.1 846 7) (s1.1 846 8) (fun a b => S a b ∨ (b = q ∧ a = 6 ∧ V)) := h4
  unfold k_X3_settleNames_35 k_X3_settleNames_64
  rw [h6, if_neg (nI_ge he (by omega)), hx, l2_bs, nI_1]
  by_cases z : y = 0
  · rw [if_pos z, if_pos (l2_ix (show e < 6002 by omega) (by decide)), nI_clamp (n := e) (by omega)]
    have hu : U := h2.mp z
    have e8 : s1.1 (848 + 1 * ((0 : Int32).toNatClampNeg)) e = q := (h3 848 e hW).1.trans hq
    show ∃ s', (f_X3_late 4 (s1.1 (848 + 1 * ((0 : Int32).toNatClampNeg)) e) s1).bind _ = _ ∧ _
    rw [e8]
    obtain ⟨s2, x1, x2, x3⟩ := ls_late (q := q) h4 (k := 4) (by decide)
    rw [show (4 : Int32) = nI 4 from rfl, x1, l2_bs]
    refine ⟨s2, rfl, x2, (h3.mono (fun b j w => Or.inl w)).trans (x2.mono (fun b j w => Or.inr w)), x3.iff (fun a b => ⟨fun w => ?_, fun w => ?_⟩)⟩
    · rcases w with (w | ⟨w1, w2, w3⟩) | ⟨w1, w2⟩
      · exact Or.inl w
      · exact Or.inr ⟨w1, Or.inr ⟨w2, w3⟩⟩
      · exact Or.inr ⟨w2, Or.inl ⟨w1, hu⟩⟩
    · rcases w with w | ⟨w1, ⟨w2, _⟩ | ⟨w2, w3⟩⟩
      · exact Or.inl (Or.inl w)
      · exact Or.inr ⟨w2, w1⟩
      · exact Or.inl (Or.inr ⟨w1, w2, w3⟩)
  · rw [if_neg z]
    refine ⟨s1, rfl, l2_fr.rf, h3.mono (fun b j w => Or.inl w), h4.iff (fun a b => or_congr Iff.rfl (and_congr Iff.rfl ⟨fun w => Or.inr w, fun w => ?_⟩))⟩
    rcases w with ⟨_, w⟩ | w
    · exact absurd (h2.mpr w) z
    · exact w
/-- one cell written, settled or not -/
theorem sL_O.one {a j : Nat} (L : ls_R (s.1 846 7) (s.1 846 8) S) (ha : a ≠ 846) : sL_O (fun b i => b = a ∧ i = j) (v < 0) False q S s (ok_b v, t_setI s a j v) := by
  have fr : l2_fr (fun b i => b = a ∧ i = j) s (t_setI s a j v) := l2_fr.set ⟨rfl, rfl⟩
  refine ⟨ok_b.is v, ok_b.iff, fr, ?_⟩
  show ls_R ((t_setI s a j v).1 846 7) ((t_setI s a j v).1 846 8) _
  rw [(fr 846 7 (by omega)).1, (fr 846 8 (by omega)).1]
  exact L.iff (fun a b => ⟨Or.inl, fun w => w.elim id (fun w => w.2.2.elim)⟩)
/-- nothing written -/
theorem sL_O.nil (L : ls_R (s.1 846 7) (s.1 846 8) S) (h : v = 0 ∨ v = 1) : sL_O (fun _ _ => False) (v = 0) False q S s (v, s) := ⟨h, Iff.rfl, l2_fr.rf, L.iff (fun a b => ⟨Or.inl, fun w => w.elim id (fun w => w.2.2.elim)⟩)⟩
/-- two cells written, settled -/
theorem sL_O.two {a a2 j j2 : Nat} {w : Int32} (L : ls_R (s.1 846 7) (s.1 846 8) S) (ha : a ≠ 846) (ha2 : a2 ≠ 846) : sL_O (fun b i => (b = a ∧ i = j) ∨ (b = a2 ∧ i = j2)) False False q S s (1, t_setI (t_setI s a j v) a2 j2 w) := by
  have fr : l2_fr (fun b i => (b = a ∧ i = j) ∨ (b = a2 ∧ i = j2)) s (t_setI (t_setI s a j v) a2 j2 w) := (l2_fr.set (Or.inl ⟨rfl, rfl⟩)).trans (l2_fr.set (Or.inr ⟨rfl, rfl⟩))
  refine ⟨Or.inr rfl, ⟨fun y => absurd (show (1 : Int32) = 0 from y) (by decide), fun y => y.elim⟩, fr, ?_⟩
  show ls_R ((t_setI (t_setI s a j v) a2 j2 w).1 846 7) ((t_setI (t_setI s a j v) a2 j2 w).1 846 8) _
  rw [(fr 846 7 (by omega)).1, (fr 846 8 (by omega)).1]
  exact L.iff (fun a b => ⟨Or.inl, fun w => w.elim id (fun w => w.2.2.elim)⟩)
end
