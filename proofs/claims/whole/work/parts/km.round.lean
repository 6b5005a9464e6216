/-! Level 2: the reference's matchAll: a round begins, or one lies within another. -/
def rbW (b j : Nat) : Prop := nsW b j ∨ (b = 950 ∧ (j = 135 ∨ j = 138))
/-- matchAll behind its beginning -/
noncomputable def restM (rc : RT_X13_behindFirst) (x2 x3 : Int32) (s1 : t_S) : Option (Int32 × t_S) := (rc.2.2.2.2.1 x2 s1).bind (fun r1 => t_let (t_setI r1 950 138 ((r1.1 950 138) - (1 : Int32))) (fun s2 => if (s2.1 950 97) = (0 : Int32) then (t_let (t_setI s2 950 137 ((s2.1 950 137) + (1 : Int32))) (fun s3 => t_let (t_setI s3 950 141 x3) (fun s4 => (f_X13_numberParts x3 s4).bind (fun r2 => (f_X13_match x2 x3 r2).bind (fun r3 => if r3.1 = 0 ∨ r3.1 = 1 then some (r3.1, r3.2) else none))))) else some ((0 : Int32), s2)))
section
variable {r : t_S} {rc : RT_X13_behindFirst} {x2 x3 : Int32} {dep σ ρ : Nat}
theorem rb_go (h138 : r.1 950 138 = nI dep) (hd : dep ≤ 20000) (K : KN σ r) (hσ : σ < 2 ^ 30) (R : KS2 ρ r) : ∃ r1 σ' ρ', m_X13_matchAll rc x2 x3 r = restM rc x2 x3 r1 ∧ l2_fr rbW r r1 ∧ r1.1 950 138 = nI (dep + 1) ∧ KN σ' r1 ∧ KS2 ρ' r1 ∧ (dep = 0 → σ' ≤ 1000000000 ∧ r1.1 950 135 = 0 ∧ ∀ u, u < 60 → r1.1 1030 u ≠ r1.1 950 133) ∧ (dep ≠ 0 → σ' = σ ∧ ρ' = ρ ∧ l2_fr (fun b j => b = 950 ∧ j = 138) r r1) := by
  have step : ∀ s, s.1 950 138 = nI dep → k_X13_matchAll_16 rc x2 x3 s = restM rc x2 x3 (t_setI s 950 138 (nI (dep + 1))) := fun s hs => by
    unfold k_X13_matchAll_16 restM
    rw [t_let, hs, nI_1]
  unfold m_X13_matchAll
  by_cases c : dep = 0
  · subst c
    rw [if_pos (show r.1 950 138 = (0 : Int32) from h138), t_let]
    have f1 : l2_fr rbW r (t_setI r 950 135 0) := l2_fr.set (Or.inr ⟨rfl, Or.inl rfl⟩)
    obtain ⟨s1, hs1⟩ : ∃ s1, s1 = t_setI r 950 135 0 := ⟨_, rfl⟩
    have g1 : l2_fr (fun b j => b = 950 ∧ j = 135) r s1 := by rw [hs1]; exact l2_fr.set ⟨rfl, rfl⟩
    have e35 : s1.1 950 135 = 0 := by rw [hs1, l2_g, if_pos rfl]
    rw [← hs1] at f1 ⊢
    obtain ⟨s2, σ', ρ', n1, n2, n3, n4, n5, n6, n7, n8⟩ := ns_go (s := s1) (σ := σ) (ρ := ρ) (K.same (g1 950 137 (by omega)).1 (fun j => (g1 1028 j (by omega)).1)) hσ (R.same (g1 950 133 (by omega)).1 (fun j => (g1 1030 j (by omega)).1))
    have e38 : s2.1 950 138 = nI 0 := ((n2 950 138 (fun y => by unfold nsW at y; omega)).1).trans (((g1 950 138 (by omega)).1).trans h138)
    have f3 : l2_fr (fun b j => b = 950 ∧ j = 138) s2 (t_setI s2 950 138 (nI (0 + 1))) := l2_fr.set ⟨rfl, rfl⟩
    refine ⟨t_setI s2 950 138 (nI (0 + 1)), σ', ρ', by rw [n1, l2_bs, step s2 e38], f1.trans ((n2.mono (fun b j y => Or.inl y)).trans (f3.mono (fun b j y => Or.inr ⟨y.1, Or.inr y.2⟩))), by rw [l2_g, if_pos rfl], n3.same (f3 950 137 (by omega)).1 (fun j => (f3 1028 j (by omega)).1), ⟨((f3 950 133 (by omega)).1).trans n5, n7, fun u hu => ?_⟩, fun _ => ⟨n4, ?_, fun u hu => ?_⟩, fun y => absurd rfl y⟩
    · obtain ⟨w, w1, w2⟩ := n8 u hu
      exact ⟨w, ((f3 1030 u (by omega)).1).trans w1, by omega⟩
    · rw [(f3 950 135 (by omega)).1, (n2 950 135 (fun y => by unfold nsW at y; omega)).1, e35]
    · obtain ⟨w, w1, w2⟩ := n8 u hu
      rw [(f3 1030 u (by omega)).1, (f3 950 133 (by omega)).1, w1, n5]
      exact fun y => by
        have := (nI_eq (by omega) (by omega)).mp y
        omega
  · rw [if_neg (by rw [h138]; exact nI_ne0 (by omega) (by omega)), step r h138]
    have f3 : l2_fr (fun b j => b = 950 ∧ j = 138) r (t_setI r 950 138 (nI (dep + 1))) := l2_fr.set ⟨rfl, rfl⟩
    exact ⟨_, σ, ρ, rfl, f3.mono (fun b j y => Or.inr ⟨y.1, Or.inr y.2⟩), by rw [l2_g, if_pos rfl], K.same (f3 950 137 (by omega)).1 (fun j => (f3 1028 j (by omega)).1), R.same (f3 950 133 (by omega)).1 (fun j => (f3 1030 j (by omega)).1), fun y => absurd y c, fun _ => ⟨rfl, rfl, f3⟩⟩
/-- .. its end, once the exps are worked out -/
theorem rm_end {c r2 : t_S} {a i p n m E f t nd : Nat} {ti : Nat → Nat} {NS : Nat → Prop} {r1 : t_S} (hp : rc.2.2.2.2.1 (nI nd) r1 = some r2) (h138 : r2.1 950 138 = nI (dep + 1)) (h97 : r2.1 950 97 = 0) (K : KN σ r2) (hσ : σ + 1 < 2 ^ 30) (A : PA (c.2.1 a) (r2.2.1 1006) i p n m E) (he : f_X13_endOf 1006 (nI p) r2 = some (nI (p + m))) (pb : p + 260 ≤ 626600) (ix : ∀ n, NS n → n < 13000 ∧ r2.1 962 n = nI (ti n) ∧ ti n < 4404) (inj : ∀ n n', NS n → NS n' → ti n = ti n' → n = n') (hf : f ≤ 96) (hT : ∀ r', l2_fr (fun b j => rnW b j ∨ (b = 950 ∧ j = 138)) r2 r' → TM c r' a i p E NS f t nd) : ∃ r3 s', restM rc (nI nd) (nI p) r1 = some (bZ (Mn r3 p E nd (oP r3 p)), s') ∧ l2_fr (fun b j => rnW b j ∨ (b = 950 ∧ j = 138)) r2 r3 ∧ l2_fr (fun b j => rmX b j ∨ (b = 950 ∧ j = 138)) r2 s' ∧ s'.1 950 138 = nI dep ∧ KN (σ + 1) s' := by
  obtain ⟨q, hq⟩ : ∃ q, q = t_setI r2 950 138 (nI dep) := ⟨_, rfl⟩
  have f3 : l2_fr (fun b j => b = 950 ∧ j = 138) r2 q := by rw [hq]; exact l2_fr.set ⟨rfl, rfl⟩
  have e6 : q.2.1 1006 = r2.2.1 1006 := funext (fun j => (f3 1006 j (by omega)).2.1)
  have e38 : q.1 950 138 = nI dep := by rw [hq, l2_g, if_pos rfl]
  obtain ⟨r3, s', y1, y2, y3, y4⟩ := mr_meets (c := c) (r := q) (a := a) (t := t) (nd := nd) (f := f) (NS := NS) (K.same (f3 950 137 (by omega)).1 (fun j => (f3 1028 j (by omega)).1)) hσ (by rw [e6]; exact A) ((endOf_st (x := nI p) e6).trans he) pb (fun n hn => by
    obtain ⟨x1, x2, x3⟩ := ix n hn
    exact ⟨x1, ((f3 962 n (by omega)).1).trans x2, x3⟩) inj hf (fun r' fr => hT r' ((f3.mono (fun b j y => Or.inr y)).trans (fr.mono (fun b j y => Or.inl y))))
  refine ⟨r3, s', ?_, (f3.mono (fun b j y => Or.inr y)).trans (y2.mono (fun b j y => Or.inl y)), (f3.mono (fun b j y => Or.inr y)).trans (y3.mono (fun b j y => Or.inl y)), ((y3 950 138 (fun z => by unfold rmX rmW at z; omega)).1).trans e38, y4⟩
  unfold restM
  rw [hp, l2_bs, t_let, h138, show nI (dep + 1) - (1 : Int32) = nI dep from nI_pred dep, ← hq, if_pos (((f3 950 97 (by omega)).1).trans h97)]
  exact y1
end
