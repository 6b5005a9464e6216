/-! Level 2: a module's end, both sides. -/
section
variable {P : pc_S} {nt : Nat → Nat} {a g m l : Nat} {k : Nat → Nat} {c0 c r s s' r4 : t_S} {S T : Nat → Int32 → Prop} {f p : Int32}
def mo_F (b j : Nat) : Prop := b = 950 ∧ (j = 1 ∨ j = 27 ∨ j = 29 ∨ j = 30 ∨ j = 65 ∨ j = 82 ∨ j = 83 ∨ j = 84)
theorem md_136 (h2 : r4.1 950 2 = f) : ∃ r5, k_X13_module_136 r4 = some (f, r5) ∧ l2_fr mo_F r4 r5 ∧ r5.1 950 1 = 0 ∧ r5.1 950 65 = (if f = 0 then 1 else 0) ∧ r5.1 950 29 = r4.1 950 24 ∧ r5.1 950 27 = r4.1 950 26 ∧ r5.1 950 30 = r4.1 950 28 ∧ r5.1 950 82 = r4.1 950 36 ∧ r5.1 950 83 = r4.1 950 14 ∧ r5.1 950 84 = r4.1 950 15 := by
  have w : ∀ j, (j = 1 ∨ j = 27 ∨ j = 29 ∨ j = 30 ∨ j = 65 ∨ j = 82 ∨ j = 83 ∨ j = 84) → mo_F 950 j := fun j y => ⟨rfl, y⟩
  have go : ∀ (v : Int32) (s1 : t_S), v = 0 ∨ v = 1 → l2_fr mo_F r4 s1 → s1.1 950 1 = 0 → (∀ j, j ≠ 1 → s1.1 950 j = r4.1 950 j) → ∃ r5, k_X13_module_154 v s1 = some (f, r5) ∧ l2_fr mo_F r4 r5 ∧ r5.1 950 1 = 0 ∧ r5.1 950 65 = v ∧ r5.1 950 29 = r4.1 950 24 ∧ r5.1 950 27 = r4.1 950 26 ∧ r5.1 950 30 = r4.1 950 28 ∧ r5.1 950 82 = r4.1 950 36 ∧ r5.1 950 83 = r4.1 950 14 ∧ r5.1 950 84 = r4.1 950 15 := fun v s1 hv fr e1 e => by
    unfold k_X13_module_154
    rw [if_pos hv]
    simp only [t_let, l2_gI, Nat.reduceEqDiff, and_false, and_true, true_and, if_false, reduceIte]
    refine ⟨_, by rw [e 2 (by decide), h2], ?_, ?_⟩
    · exact fr.trans ((((((((l2_fr.set (w 65 (by omega))).trans (l2_fr.set (w 29 (by omega)))).trans (l2_fr.set (w 27 (by omega)))).trans (l2_fr.set (w 30 (by omega)))).trans (l2_fr.set (w 82 (by omega)))).trans (l2_fr.set (w 83 (by omega)))).trans (l2_fr.set (w 84 (by omega)))))
    · simp only [l2_gI, Nat.reduceEqDiff, and_false, and_true, true_and, if_false, reduceIte]
      exact ⟨e1, e 24 (by decide), e 26 (by decide), e 28 (by decide), e 36 (by decide), e 14 (by decide), e 15 (by decide)⟩
  unfold k_X13_module_136
  have f1 : l2_fr (fun b j => b = 950 ∧ j = 1) r4 (t_setI r4 950 1 0) := l2_fr.set ⟨rfl, rfl⟩
  have v1 : (t_setI r4 950 1 0).1 950 1 = 0 := by simp only [l2_gI, and_self, reduceIte]
  have e : ∀ j, j ≠ 1 → (t_setI r4 950 1 0).1 950 j = r4.1 950 j := fun j y => (f1 950 j (fun q => y q.2)).1
  have fr : l2_fr mo_F r4 (t_setI r4 950 1 0) := l2_fr.set (w 1 (by omega))
  show ∃ r5, (if (t_setI r4 950 1 0).1 950 2 = 0 then _ else _) = _ ∧ _
  rw [e 2 (by decide), h2]
  by_cases z : f = 0
  · rw [if_pos z, if_pos z]
    exact go 1 _ (Or.inr rfl) fr v1 e
  · rw [if_neg z, if_neg z]
    exact go 0 _ (Or.inl rfl) fr v1 e
/-- the reference's telling -/
theorem rf_tell {r3 : t_S} (h2 : r3.1 950 2 = 0) : ∃ r4, (if (r3.1 950 88) = (0 : Int32) then (some (r3)) else ((f_X13_fail (r3.1 950 88) (r3.1 950 89) r3).bind (fun r1 => some (r1)))) = some r4 ∧ l2_fr (fun b j => b = 950 ∧ (j = 2 ∨ j = 3)) r3 r4 ∧ r4.1 950 2 = r3.1 950 88 ∧ (r4.1 950 2 ≠ 0 → r4.1 950 3 = r3.1 950 89) := by
  by_cases z : r3.1 950 88 = 0
  · rw [if_pos z]
    exact ⟨r3, rfl, l2_fr.rf, h2.trans z.symm, fun y => absurd h2 y⟩
  · rw [if_neg z]
    unfold f_X13_fail
    rw [if_pos h2]
    refine ⟨_, rfl, (l2_fr.set ⟨rfl, Or.inl rfl⟩).trans (l2_fr.set ⟨rfl, Or.inr rfl⟩), ?_, fun _ => ?_⟩
    · simp only [l2_gI, Nat.reduceEqDiff, and_false, and_true, true_and, if_false, reduceIte]
    · simp only [l2_gI, Nat.reduceEqDiff, and_false, and_true, true_and, if_false, reduceIte]
/-- both ends of a module: the same late fault or none -/
theorem fin_both (h : mR P nt a g k c0 c r) (hM : MK (pc_V P) c) (hI : IL 2 0 r) (z7 : c0.1 846 7 = 0) (z : ∀ x, 66 + x < pc_W P → c0.1 7 (66 + x) = 0) (hd : ∀ s s' S, l2_fr (su_W (nt 3)) c s → sQ_O nt (k 6) (k 2) S s r s' → dpQ nt s' r) : ∃ s s' s4 r4 r5 S, l2_fr (su_W (nt 3)) c s ∧ sQ (pc_W P) nt a (k 3) (k 4) (k 5) (k 6) (k 7) (k 2) (k 9) s r ∧ sQ_O nt (k 6) (k 2) S s r s' ∧ l2_fr (fun b j => lf_W b j ∨ (364 ≤ b ∧ b < 424 ∧ j = 6)) s' s4 ∧ l2_fr (fun b j => ck_W b j ∨ b = 1005 ∨ (b = 950 ∧ (j = 2 ∨ j = 3))) r r4 ∧ f_X6_finishReading c = k_X6_finishReading_40 s4 ∧ k_X13_module_125 r = some (s4.1 846 7, r5) ∧ l2_fr mo_F r4 r5 ∧ r5.1 950 2 = s4.1 846 7 ∧ (s4.1 846 7 ≠ 0 → r5.1 950 3 = s4.1 846 8) ∧ r5.1 950 65 = (if s4.1 846 7 = 0 then 1 else 0) ∧ r5.1 950 29 = r.1 950 24 ∧ r5.1 950 27 = r.1 950 26 ∧ r5.1 950 30 = r.1 950 28 ∧ r5.1 950 82 = r.1 950 36 ∧ r5.1 950 83 = r.1 950 14 ∧ r5.1 950 84 = r.1 950 15 ∧ (s4.1 846 7 = 0 → (∀ x, x < k 6 → ¬ lU nt s r (k 2) x) ∧ (∀ x, x < nt 0 → ¬ rg_R nt r x) ∧ (∀ x p, x < k 2 → ¬ lt_M r x p) ∧ ∃ T0 T1, dpF (nt 1) T0 T1 s' ∧ ∀ x, x < nt 1 → kR (dpV s' T0 T1) (nt 1) 64 x ≤ 60) := by
  obtain ⟨s, s', T0, T1, s4, fs, Q, ⟨S, O⟩, ⟨d1, d2⟩, f4, L4, e4⟩ := fin_c h hM hI z7 z hd
  have C := sK_of h
  have G := sX_of h hM hI fs
  have V := vT_of h fs
  have T := tyF_of h Q fs O
  have H : t_hk (f_X13_checkAll r) (fun r4 => l2_fr (fun b j => ck_W b j ∨ b = 1005 ∨ (b = 950 ∧ (j = 2 ∨ j = 3))) r r4 ∧ r4.1 950 2 = s4.1 846 7 ∧ (s4.1 846 7 ≠ 0 → r4.1 950 3 = s4.1 846 8)) := by
    refine ca_fin Q C G V T d2 (fun r3 f3 L3 => ?_)
    have h2 : r3.1 950 2 = 0 := ((f3 950 2 (by unfold ck_W; omega)).1).trans h.1.1.f0.2
    obtain ⟨r4, e5, f5, v1, v2⟩ := rf_tell h2
    have L3' : ls_R (r3.1 950 88) (r3.1 950 89) (fun a b => S6 nt s r (k 2) (k 6) (k 9) (k 9) a b ∨ G_S nt r (dpV s' T0 T1) a b) := L3.iff (fun a b => ⟨fun y => ?_, fun y => ?_⟩)
    rotate_left
    · rcases y with (y | y) | y
      · exact Or.inl y
      · exact Or.inr (Or.inl y)
      · exact Or.inr (Or.inr y)
    · rcases y with y | y | y
      · exact Or.inl (Or.inl y)
      · exact Or.inl (Or.inr y)
      · exact Or.inr y
    obtain ⟨n1, n2⟩ := ls_R.near L4 L3' (set_ab Q V).more (set_ba Q V).more
    refine ⟨r4, e5, (f3.mono (fun b j y => y.imp id Or.inl)).trans (f5.mono (fun b j y => Or.inr (Or.inr y))), v1.trans n1.symm, fun y => ?_⟩
    rw [n2 y]
    exact v2 (by rw [v1, ← n1]; exact y)
  obtain ⟨r4, e6, f6, v1, v2⟩ := H
  obtain ⟨r5, e7, f7, _, w2, w3, w4, w5, w6, w7, w8⟩ := md_136 v1
  have c6 : ∀ j, j ≠ 2 → j ≠ 3 → ¬ (88 ≤ j ∧ j ≤ 90) → r4.1 950 j = r.1 950 j := fun j y1 y2 y3 => (f6 950 j (by unfold ck_W; omega)).1
  refine ⟨s, s', s4, r4, r5, S, fs, Q, O, f4, f6, e4, ?_, f7, ?_, fun y => ?_, w2, w3.trans (c6 24 (by decide) (by decide) (by decide)), w4.trans (c6 26 (by decide) (by decide) (by decide)), w5.trans (c6 28 (by decide) (by decide) (by decide)), w6.trans (c6 36 (by decide) (by decide) (by decide)), w7.trans (c6 14 (by decide) (by decide) (by decide)), w8.trans (c6 15 (by decide) (by decide) (by decide)), fun y => ?_⟩
  · unfold k_X13_module_125
    rw [if_pos h.1.1.f0.2, e6, l2_bs, e7]
  · rw [(f7 950 2 (by unfold mo_F; omega)).1]
    exact v1
  · rw [(f7 950 3 (by unfold mo_F; omega)).1]
    exact v2 y
  · rcases L4 with ⟨_, L5⟩ | ⟨q, q1, q2, _⟩
    · exact ⟨fun x hx hU => L5 4 _ (Or.inl (Or.inr ⟨x, hx, rfl, Or.inl ⟨rfl, hU⟩⟩)), fun x hx hr => L5 7 _ (Or.inr (Or.inl ⟨rfl, x, hx, hr, rfl⟩)), fun x p hx hl => L5 4 _ (Or.inl (Or.inl ⟨rfl, x, p, hx, hl, rfl⟩)), T0, T1, d1, fun x hx => Nat.le_of_not_lt (fun y => L5 7 _ (Or.inr (Or.inr ⟨rfl, x, hx, y, rfl⟩)))⟩
    · have := (nI_eq (a := q) (b := 0) (by omega) (by decide)).mp (q2.symm.trans y)
      omega
end
