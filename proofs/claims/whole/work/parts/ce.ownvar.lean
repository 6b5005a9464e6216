/-! Level 2: a component's own: a var. -/
/-- what a word is among n names -/
theorem en_V.ex : ∀ (n g : Nat) (L : Nat → Nat), 1 ≤ g → ∃ v, en_V n g L v := by
  intro n
  induction n with
  | zero => exact fun g L hg => ⟨fun _ => 0, fun X => Or.inr ⟨fun i hi => absurd hi (Nat.not_lt_zero _), rfl⟩⟩
  | succ n ih =>
    intro g L hg
    obtain ⟨v, hv⟩ := ih g L hg
    refine ⟨fun X => if v X = 0 then (if L n = X then g + n else 0) else v X, fun X => ?_⟩
    show (∃ i, i < n + 1 ∧ L i = X ∧ (∀ k, k < i → L k ≠ X) ∧ (if v X = 0 then (if L n = X then g + n else 0) else v X) = g + i) ∨ ((∀ i, i < n + 1 → L i ≠ X) ∧ (if v X = 0 then (if L n = X then g + n else 0) else v X) = 0)
    rcases hv X with ⟨i, i1, i2, i3, i4⟩ | ⟨i1, i2⟩
    · rw [if_neg (by omega)]
      exact Or.inl ⟨i, by omega, i2, i3, i4⟩
    · rw [if_pos i2]
      by_cases z : L n = X
      · rw [if_pos z]
        exact Or.inl ⟨n, by omega, z, i1, rfl⟩
      · rw [if_neg z]
        refine Or.inr ⟨fun i hi => ?_, rfl⟩
        by_cases w : i = n
        · rw [w]; exact z
        · exact i1 i (by omega)
section
variable {P : pc_S} {nt : Nat → Nat} {u q m a g t e p l s i st f p0 k v0 v1 v2 : Nat} {A B D : Nat → Nat} {c0 r0 c r : t_S}
/-- the class from a var's exp on -/
noncomputable def ovC (j : Nat) (s : t_S) : Option t_S := (f_X6_readExp (-1 : Int32) s).bind (fun r10 => t_let (t_setI r10.2 436 j r10.1) (fun s3 => k_X6_readOwn_321 433 s3))
noncomputable def ovA (j : Nat) (s : t_S) : Option t_S := t_let (t_setI s 435 j (-1 : Int32)) (fun s2 => (f_X6_readVarType (2 : Int32) (nI j) s2).bind (fun r8 => (f_X2_need (11 : Int32) r8).bind (ovC j)))
theorem zF.gvC {j : Nat} (h : zF f p0 c0 c) (hk : k < 8) (h13 : c.1 845 13 = nI k) : t_hk (ovC j c) (fun c' => lc_F c' f p0 ∧ l2_fr mo_Wc c0 c') := by
  have S := xS_R 246
  unfold ovC
  refine l2_bd _ (show t_hk (f_X6_readExp (-1) c) _ from S.2.1 (-1) _ _ _ _ _ _ _ _ _ _ _ h.1) (fun y hy => l2_lt ?_)
  have h2 := (h.x hy).set (b := 436) (j := j) (v := y.1) (by unfold mo_Wc; omega) (by omega)
  refine h2.ow321 (by decide) hk ?_
  simp only [l2_gI, Nat.reduceEqDiff, reduceIte]
  rw [(hy.2.1 845 13 (by unfold xWc; omega)).1]
  exact h13
theorem zF.gvA {j : Nat} (h : zF f p0 c0 c) (hk : k < 8) (h13 : c.1 845 13 = nI k) : t_hk (ovA j c) (fun c' => lc_F c' f p0 ∧ l2_fr mo_Wc c0 c') := by
  unfold ovA
  refine l2_lt ?_
  have h2 := h.set (b := 435) (j := j) (v := -1) (by unfold mo_Wc; omega) (by omega)
  have e : (t_setI c 435 j (-1)).1 845 13 = nI k := by
    simp only [l2_gI, Nat.reduceEqDiff, reduceIte]
    exact h13
  generalize t_setI c 435 j (-1) = c2 at *
  rw [h2.vtype, l2_bs, h2.need (by decide), l2_bs]
  exact h2.gvC hk e
/-- the reference from a var's exp on -/
noncomputable def ovR (j : Nat) (s : t_S) : Option t_S := t_let (t_setI s 950 32 (0 : Int32)) (fun s7 => (f_X13_exp s7).bind (fun r5 => t_let (t_setI r5.2 978 j r5.1) (fun s8 => k_X13_own_223 s8)))
theorem yR.gvR {j : Nat} (h : yR P f p0 r0 r) : t_hk (ovR j r) (yR P f p0 r0) := by
  unfold ovR
  refine l2_lt ?_
  have h2 := h.set (b := 950) (j := 32) (v := 0) (by unfold mo_Wr; omega) (by omega)
  rw [h2.exp, l2_bs]
  exact l2_lt (h2.set (b := 978) (j := j) (v := 0) (by unfold mo_Wr; omega) (by omega)).ow223
/-- .. behind what is told of its type -/
noncomputable def ovQ (k : Nat) (X : Nat) (j : Nat) (w : Nat) (r1 : t_S) : Option t_S := t_let (t_setI r1 975 j (nI X)) (fun s1 => t_let (t_setI s1 976 j (s1.1 950 86)) (fun s2 => t_let (t_setI s2 977 j (s2.1 950 87)) (fun s3 => t_let (t_setI s3 950 33 (nI (1000 + k))) (fun s4 => t_let (t_setI s4 950 34 (nI w)) (fun s5 => t_let (t_setI s5 979 k (nI (w + 1))) (fun s6 => (f_X13_mustBe (14909 : Int32) s6).bind (ovR j)))))))
theorem ovQ_st (k X j w : Nat) (r1 : t_S) : ∃ r6, ovQ k X j w r1 = (f_X13_mustBe 14909 r6).bind (ovR j) ∧ l2_fr (fun b i => (975 ≤ b ∧ b ≤ 977 ∧ i = j) ∨ (b = 950 ∧ (i = 33 ∨ i = 34)) ∨ (b = 979 ∧ i = k)) r1 r6 ∧ r6.1 975 j = nI X ∧ r6.1 976 j = r1.1 950 86 ∧ r6.1 977 j = r1.1 950 87 ∧ r6.1 950 33 = nI (1000 + k) ∧ r6.1 950 34 = nI w ∧ r6.1 979 k = nI (w + 1) := by
  refine ⟨_, rfl, ((((l2_fr.set (Or.inl ⟨by decide, by decide, rfl⟩)).trans (l2_fr.set (Or.inl ⟨by decide, by decide, rfl⟩))).trans (l2_fr.set (Or.inl ⟨by decide, by decide, rfl⟩))).trans (l2_fr.set (Or.inr (Or.inl ⟨rfl, Or.inl rfl⟩)))).trans (l2_fr.set (Or.inr (Or.inl ⟨rfl, Or.inr rfl⟩))) |>.trans (l2_fr.set (Or.inr (Or.inr ⟨rfl, rfl⟩))), ?_, ?_, ?_, ?_, ?_, ?_⟩ <;> simp only [l2_gI, Nat.reduceEqDiff, reduceIte]
/-- the reference's var: in pieces -/
theorem ov_eq {X : Nat} (hk : k < 8) {r1 r2 : t_S} (h1 : f_X13_typeHint r1 = some r2) (h979 : r2.1 979 k = nI v2) (hv : v2 < 8) : ((f_X13_ownVar (nI k) (nI X) r1).bind (fun r2 => k_X13_own_223 r2)) = ovQ k X (8 * k + v2) v2 r2 := by
  unfold f_X13_ownVar
  rw [h1, l2_bs, if_pos (l2_ix hk (by decide)), nI_clamp (n := k) (by omega), h979, show (8 : Int32) * nI k = nI (8 * k) from pk_mul 8 k, nI_add, nI_clamp (n := 8 * k + v2) (by omega), if_pos (l2_ix (show 8 * k + v2 < 64 by omega) (by decide))]
  unfold ovQ ovR
  simp only [t_let]
  have e1 : (1000 : Int32) + nI k = nI (1000 + k) := nI_add 1000 k
  rw [e1]
  have e2 : ∀ x y : Int32, ∀ y2 : Int32, (t_setI (t_setI (t_setI (t_setI r2 975 (8 * k + v2) (nI X)) 976 (8 * k + v2) x) 977 (8 * k + v2) y) 950 33 y2).1 979 k = nI v2 := fun x y y2 => by
    simp only [l2_gI, Nat.reduceEqDiff, reduceIte]
    exact h979
  rw [e2]
  have e3 : ∀ x y : Int32, ∀ y2 : Int32, (t_setI (t_setI (t_setI (t_setI (t_setI r2 975 (8 * k + v2) (nI X)) 976 (8 * k + v2) x) 977 (8 * k + v2) y) 950 33 y2) 950 34 (nI v2)).1 979 k + 1 = nI (v2 + 1) := fun x y y2 => by
    simp only [l2_gI, Nat.reduceEqDiff, reduceIte]
    rw [h979, nI_succ]
  rw [e3]
  simp only [Option.bind_assoc, l2_bs]
end
