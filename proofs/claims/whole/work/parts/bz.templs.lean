/-! Level 2: templs on both sides: all tones, a templ whole; and all depths. -/
section
variable {P : pc_S} {E : en_S} {EB PB IB u q m t e p l w o s i dd k j : Nat} {c r : t_S}
theorem tn_all {lv : Int32} (hA : hA_R (k + 6) (j + 3) (dd + 1)) (X : xp P E u 0 0 q m t e p l w o s i (dd + 1) c r) (hb : xb P EB PB IB u q t e p l w o s i (dd + 1)) (h : ∃ n, n ∈ bt_L ∧ c.1 1 8 = nI n) : t_h2 (tcC (R_X6_readBase (k + 11)) lv (nI dd) c) (m_X13_tone (R_X13_base (j + 11)) r) (tO_R P E lv u q m t e p l w o s i (dd + 1) c r) := by
  obtain ⟨n, hn, h⟩ := h
  have S9 := xS_R (k + 5)
  have S8 := xS_R (k + 4)
  have S6 := xS_R (k + 2)
  have T11 : xT (R_X13_base (j + 8 + 3)) := xT_R (j + 8)
  have T10 : xT (R_X13_base (j + 7 + 3)) := xT_R (j + 7)
  have T9 : xT (R_X13_base (j + 6 + 3)) := xT_R (j + 6)
  have hC : ∀ a b d s, (R_X6_readBase (k + 11)).2.2.2.2.2.2.2.2.2.2.2.2.2.2.2 a b d s = m_X6_readTone (R_X6_readBase (k + 10)) a b d s := fun _ _ _ _ => rfl
  have hR : ∀ s, (R_X13_base (j + 11)).2.2.2.2.2.2.2.2.2.2.2 s = m_X13_wordTone (R_X13_base (j + 10)) s := fun _ => rfl
  have hx : nI dd + 1 = nI (dd + 1) := (nI_succ dd).symm
  unfold bt_L at hn
  simp only [List.mem_cons, List.mem_nil_iff, or_false] at hn
  have row : ∀ {W K C : Nat}, rw_w W K C → c.1 1 8 = nI (200 + W) → t_h2 (tcC (R_X6_readBase (k + 11)) lv (nI dd) c) (m_X13_tone (R_X13_base (j + 11)) r) (tO_R P E lv u q m t e p l w o s i (dd + 1) c r) := fun hw h => tn_rows (rc5 := R_X6_readBase (k + 9)) (rc3 := R_X6_readBase (k + 8)) (rc4 := R_X6_readBase (k + 7)) (rR3 := R_X13_base (j + 9)) hw hC hR (fun _ _ _ _ _ => rfl) (fun _ _ _ _ _ => rfl) (fun _ _ _ => rfl) (hA _ _ (by omega) (by omega)).2 hx (fun _ _ _ => rfl) S8.2.2.2.2.2.2.2.2.2.2.2.1 T9 X hb h
  rcases hn with rfl | rfl | rfl | rfl | rfl | rfl | rfl | rfl | rfl | rfl | rfl | rfl | rfl | rfl | rfl | rfl | rfl | rfl | rfl
  · exact tn_word hC hR X hb h
  · exact tn_num hC X hb (Or.inl h)
  · exact tn_txt hC X hb h
  · exact tn_paren (rc3 := R_X6_readBase (k + 9)) (rc4 := R_X6_readBase (k + 8)) (rR3 := R_X13_base (j + 10)) hC (fun _ _ _ _ _ => rfl) (fun _ _ _ => rfl) (hA _ _ (by omega) (by omega)).2 hx (fun _ _ _ => rfl) S9.2.2.2.2.2.2.2.2.2.2.2.1 T10 X hb h
  · exact tn_any hC X hb (Or.inr h)
  · exact tn_num hC X hb (Or.inr h)
  · exact tn_same (rc3 := R_X6_readBase (k + 9)) hC (fun _ _ _ => rfl) S9.2.1 (fun r z => (T11.1 r z).2.1) (hA _ _ (by omega) (by omega)).1 hx X hb h
  · exact tn_any hC X hb (Or.inl h)
  · exact tn_tag (rc3 := R_X6_readBase (k + 9)) hC (fun _ _ _ _ => rfl) S9.2.2.2.2.2.2.2.2.2.2.2.1 (fun r z => (T11.1 r z).2.2.2) (hA _ _ (by omega) (by omega)).2 hx X hb h
  · exact tn_pieces (rc3 := R_X6_readBase (k + 9)) (rc6 := R_X6_readBase (k + 8)) (rc4 := R_X6_readBase (k + 8)) (rc5 := R_X6_readBase (k + 7)) (rc7 := R_X6_readBase (k + 6)) (rc8 := R_X6_readBase (k + 5)) (rR3 := R_X13_base (j + 10)) (rR4 := R_X13_base (j + 9)) hC (fun _ _ _ _ => rfl) (fun _ _ _ => rfl) (hA _ _ (by omega) (by omega)).2 hx (fun _ _ _ => rfl) S9.2.2.2.2.2.2.2.2.2.2.2.1 T10 (fun _ _ _ => rfl) (fun _ _ _ => rfl) (fun _ _ _ _ _ => rfl) (fun _ _ _ _ _ => rfl) (hA _ _ (by omega) (by omega)).2 (fun _ _ _ => rfl) S6.2.2.2.2.2.2.2.2.2.2.2.1 T9 X hb h
  · exact tn_fields (rc3 := R_X6_readBase (k + 9)) (rR3 := R_X13_base (j + 10)) hC (fun _ _ _ _ => rfl) (fun _ _ => rfl) (hA _ _ (by omega) (by omega)).2 hx S9.2.2.2.2.2.2.2.2.2.2.2.1 T10 X hb h
  · exact tn_truth hC hR X hb (y := 21) (by decide) h
  · exact tn_truth hC hR X hb (y := 22) (by decide) h
  · exact tn_truth hC hR X hb (y := 23) (by decide) h
  · exact row (W := 24) (K := 32) (C := 11) (by unfold rw_w; decide) h
  · exact row (W := 25) (K := 33) (C := 12) (by unfold rw_w; decide) h
  · exact tn_pat hC hR X hb h
  · exact row (W := 27) (K := 36) (C := 15) (by unfold rw_w; decide) h
  · exact row (W := 28) (K := 37) (C := 16) (by unfold rw_w; decide) h
end
/-- a templ within another -/
theorem te_step {k j dd : Nat} (hA : dd ≤ 16 → hA_R (k + 6) (j + 3) (dd + 1)) : hT_R (R_X6_readBase (k + 12)) (R_X13_base (j + 13)) dd := tm_step (rc2 := R_X6_readBase (k + 11)) (rR2 := R_X13_base (j + 12)) (rR3 := R_X13_base (j + 11)) (fun _ _ _ => rfl) (fun _ => rfl) (fun _ => rfl) (fun dp P E EB PB IB lv u q m t e p l w o s i c r X hb h => tn_all (hA dp) X hb h)
theorem hA_step {k j dd : Nat} (hA : dd ≤ 16 → hA_R (k + 6) (j + 3) (dd + 1)) : hA_R (k + 12) (j + 13) dd := by
  intro a b ha hb
  obtain ⟨a, rfl⟩ : ∃ a', a = a' + 12 := ⟨a - 12, by omega⟩
  obtain ⟨b, rfl⟩ : ∃ b', b = b' + 13 := ⟨b - 13, by omega⟩
  refine ⟨ex_step (k := a + 1) (j := b) (fun z x y hx hy => hA z x y (by omega) (by omega)), te_step (k := a) (j := b) (fun z x y hx hy => hA z x y (by omega) (by omega))⟩
/-- all depths: exps and templs read alike -/
theorem hA_all : ∀ n dd, n + dd = 17 → hA_R (6 * n + 12) (10 * n + 13) dd := by
  intro n
  induction n with
  | zero =>
    intro dd h
    exact hA_step (k := 0) (j := 0) (fun z => by omega)
  | succ n ih =>
    intro dd h
    have h1 := ih (dd + 1) (by omega)
    have h2 : hA_R (6 * n + 6 + 12) (10 * n + 10 + 13) dd := hA_step (k := 6 * n + 6) (j := 10 * n + 10) (fun z => h1)
    rw [show 6 * (n + 1) + 12 = 6 * n + 6 + 12 by omega, show 10 * (n + 1) + 13 = 10 * n + 10 + 13 by omega]
    exact h2
/-- from no depth on: what both programs call -/
theorem hA_0 {dd : Nat} (h : dd ≤ 17) : hA_R 114 183 dd := fun a b ha hb => hA_all (17 - dd) dd (by omega) a b (by omega) (by omega)
