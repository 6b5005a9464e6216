/-! Level 2: the weight of a row that is made out of parts, however heavy. -/
section
variable {r : t_S} {H k v h0 : Nat} {cc : Nat → Int64} {f : Nat} {I P N S : Nat → Nat}
theorem mw_go {σ ρ : Type} {b : σ → Option (σ ⊕ ρ)} {X : Nat → Nat → Nat → σ} {R : Nat → Int64} {L : Nat} (T : vr_T b X R L) (hk : k = 6 ∨ k = 7 ∨ k = 8) (e0 : R 0 = lN k) (e1 : k = 6 ∨ k = 8 → R 1 = lN v) (h7 : k = 7 → v = 1) (hv : v ≤ 120) (hh : h0 = vr_w k v) (P0 : P 0 = 0) (S0 : S 0 = 0) (hf : 120 * f ≤ 90000) (hp : ∀ j, j < v → P j ≤ P (j + 1) ∧ h0 + P (j + 1) ≤ L ∧ S (j + 1) = S j + N j ∧ VW cc R f (I j) (h0 + P j) (N j) (P (j + 1) - P j)) (hL : h0 ≤ L) : ∃ u, u ≤ 1 + S v ∧ l2_tn b u (X 0 0 1) (X (h0 + P v) (vr_c k v + S v) 0) := by
  have q := T 0 0 0 k v (by omega) hv (by omega) (by omega) e0 (fun z => e1 (by omega))
  have d : vr_d k v = v := by
    unfold vr_d
    rcases hk with rfl | rfl | rfl
    · rfl
    · rw [if_neg (by decide), if_pos rfl, h7 rfl]
    · rfl
  rw [d, ← hh] at q
  simp only [Nat.zero_add] at q
  obtain ⟨u, u1, u2, u3⟩ := l2_tnS (b := b) (Y := fun j => X (h0 + P j) (vr_c k v + S j) (v - j)) (I := S) (v := v) (fun j hj => by
    obtain ⟨y1, y2, y3, y4⟩ := hp j hj
    obtain ⟨u, u1, u2, u3⟩ := vr_go T f _ _ _ _ (VW.vr _ _ _ _ _ y4) (by omega) (vr_c k v + S j) (v - (j + 1)) (by omega)
    rw [show v - (j + 1) + 1 = v - j by omega, show h0 + P j + (P (j + 1) - P j) = h0 + P (j + 1) by omega, show vr_c k v + S j + N j = vr_c k v + S (j + 1) by omega] at u3
    exact ⟨u, by omega, by omega, u3⟩) v (Nat.le_refl _)
  have s := (l2_tn.one q).trans (show l2_tn b u (X h0 (vr_c k v) v) _ by
    have u3 := u3
    rw [P0, S0, Nat.add_zero, Nat.add_zero, Nat.sub_zero] at u3
    exact u3)
  rw [show v - v = 0 by omega] at s
  exact ⟨1 + u, by omega, s⟩
theorem mw_weight (hk : k = 6 ∨ k = 7 ∨ k = 8) (e0 : r.2.1 1007 0 = lN k) (e1 : k = 6 ∨ k = 8 → r.2.1 1007 1 = lN v) (h7 : k = 7 → v = 1) (hv : v ≤ 120) (hh : h0 = vr_w k v) (P0 : P 0 = 0) (S0 : S 0 = 0) (hf : 120 * f ≤ 90000) (hp : ∀ j, j < v → P j ≤ P (j + 1) ∧ h0 + P (j + 1) ≤ 8600 ∧ S (j + 1) = S j + N j ∧ VW cc (r.2.1 1007) f (I j) (h0 + P j) (N j) (P (j + 1) - P j)) (hL : h0 ≤ 8600) (hS : S v < 1000000) : f_X13_weightOf 1007 (0 : Int32) r = some (nI (vr_c k v + S v)) := by
  have l7 := vr_l7
  obtain ⟨u, u1, u2⟩ := mw_go (vr_wT (s := r) (a := 1007) (L := 8600) l7.1 (by omega) (by omega)) hk e0 e1 h7 hv hh P0 S0 hf hp hL
  unfold f_X13_weightOf
  refine l2_tnR u2 (by omega) ?_
  show k_X13_weightOf_7 1007 (nI (h0 + P v)) (nI (vr_c k v + S v)) (lN 0) r = _
  unfold k_X13_weightOf_7
  rw [if_pos ((vr_stop (by decide)).mpr rfl)]
  rfl
/-- too heavy: an error, nothing pushed -/
theorem rs_heavy {w : Nat} (h : f_X13_weightOf 1007 (0 : Int32) r = some (nI w)) (hw : 120 < w) (hw2 : w < 2 ^ 30) (h7 : r.1 950 97 = 0) : t_hk (f_X13_pushMade r) (fun y => y.1 950 97 = 3 ∧ l2_fr (fun b j => b = 950 ∧ j = 97) r y) := by
  unfold f_X13_pushMade
  rw [h, l2_bs]
  refine l2_no (show ¬ nI w ≤ (120 : Int32) from nI_ge (a := 120) hw (by omega)) (l2_bd _ (rs_error (e := 3) h7) (fun y hy => l2_sm hy))
end
