/-! Level 2: a line opened on both sides; a line whole. -/
theorem st_sh : ∀ ln, ln < 400 → t_oka (445 + ln) 1 (t_ln (445 + ln)) = true ∧ t_ln (445 + ln) = 12 := by decide +kernel
/-- a line as it is opened -/
def op_R (c r : t_S) (f n ln : Nat) (so up K0 : Int32) : Prop := (c.1 (445 + ln) 0 = so ∧ c.1 (445 + ln) 2 = up ∧ ∀ j, j < 12 → j ≠ 0 → j ≠ 2 → c.1 (445 + ln) j = -1) ∧ r.1 988 ln = K0 ∧ r.1 989 ln = -1 ∧ r.1 990 ln = up ∧ r.1 991 ln = -1 ∧ r.1 993 ln = -1 ∧ r.1 995 ln = -1 ∧ r.1 996 ln = -1 ∧ r.1 997 ln = -1 ∧ r.1 998 ln = -1 ∧ r.1 999 ln = -1 ∧ r.1 1000 ln = -1 ∧ r.1 1001 ln = nI f ∧ r.1 1002 ln = nI n
def ox (k : Nat → Nat) : Nat → Nat := ck (k 0) (k 1) (k 2) (k 3) (k 4) (k 5) (k 6) (k 7) (k 8) (k 9 + 1)
section
variable {P : pc_S} {nt : Nat → Nat} {f n2 n3 Y n a g f2 p0 ln side : Nat} {L v : Nat → Nat} {ka : Int32} {k k1 k2 k' : Nat → Nat} {c0 r0 c r c1 r1 c' r' : t_S} {A B A' B' : Nat → Prop}
theorem fs_addStep (S : fs P nt f n2 Y n L ka a g k c r) (h9 : k 9 < 400) (so up : Int32) : t_hk (f_X5_addStep so up c) (fun y => y.1 = nI (k 9) ∧ l2_fr (fun b j => (b = 428 ∧ j = 18) ∨ b = 445 + k 9) c y.2 ∧ y.2.1 428 18 = nI (k 9 + 1) ∧ y.2.1 (445 + k 9) 0 = so ∧ y.2.1 (445 + k 9) 2 = up ∧ ∀ j, j < 12 → j ≠ 0 → j ≠ 2 → y.2.1 (445 + k 9) j = -1) := by
  have e18 : c.1 428 18 = nI (k 9) := S.1.2.2.1.2.2.2.2.2.2
  obtain ⟨s1, s2⟩ := st_sh (k 9) h9
  unfold f_X5_addStep
  rw [e18, nI_clamp (n := k 9) (by omega), nI_1]
  refine l2_ck (show nI (k 9) < (400 : Int32) from nI_lt (b := 400) h9 (by decide)) (l2_lt (l2_ck (l2_ix h9 (by decide)) ?_))
  simp only [Nat.one_mul]
  have f1 : l2_fr (fun b j => b = 428 ∧ j = 18) c (t_setI c 428 18 (nI (k 9 + 1))) := l2_fr.set ⟨rfl, rfl⟩
  have v1 : (t_setI c 428 18 (nI (k 9 + 1))).1 428 18 = nI (k 9 + 1) := by simp only [l2_gI, reduceIte]
  generalize t_setI c 428 18 (nI (k 9 + 1)) = c1 at *
  refine l2_bd _ (l2_fill (s := c1) (v := -1) s1 (by rw [s2]; decide)) (fun y hy => l2_lt (l2_lt (l2_sm ?_)))
  rw [s2] at hy
  obtain ⟨y1, y2⟩ := hy
  have f3 : l2_fr (fun b _ => b = 445 + k 9) y (t_setI (t_setI y (445 + k 9) 0 so) (445 + k 9) 2 up) := (l2_fr.set (W := fun b _ => b = 445 + k 9) rfl).trans (l2_fr.set (W := fun b _ => b = 445 + k 9) rfl)
  have a1 : (t_setI (t_setI y (445 + k 9) 0 so) (445 + k 9) 2 up).1 (445 + k 9) 0 = so := by simp only [l2_gI, Nat.reduceEqDiff, reduceIte]
  have a2 : (t_setI (t_setI y (445 + k 9) 0 so) (445 + k 9) 2 up).1 (445 + k 9) 2 = up := by simp only [l2_gI, reduceIte]
  have a3 : ∀ j, j < 12 → j ≠ 0 → j ≠ 2 → (t_setI (t_setI y (445 + k 9) 0 so) (445 + k 9) 2 up).1 (445 + k 9) j = -1 := fun j j1 j2 j3 => by
    simp only [l2_gI, if_neg j2, if_neg j3, ite_self]
    exact y1 j j1
  refine ⟨rfl, ((f1.mono (fun b j y => Or.inl y)).trans (y2.mono (fun b j y => Or.inr y))).trans (f3.mono (fun b j y => Or.inr y)), ?_, a1, a2, a3⟩
  show (t_setI (t_setI y (445 + k 9) 0 so) (445 + k 9) 2 up).1 428 18 = _
  rw [(f3 428 18 (by omega)).1, (y2 428 18 (by omega)).1]
  exact v1
theorem fs_line (S : fs P nt f n2 Y n L ka a g k c r) (h9 : k 9 < 400) (K0 up : Int32) : t_hk (f_X13_line K0 up r) (fun y => y.1 = nI (k 9) ∧ l2_fr (fun b j => (b = 950 ∧ j = 81) ∨ (988 ≤ b ∧ b ≤ 1002 ∧ j = k 9)) r y.2 ∧ y.2.1 950 81 = nI (k 9 + 1) ∧ y.2.1 988 (k 9) = K0 ∧ y.2.1 989 (k 9) = -1 ∧ y.2.1 990 (k 9) = up ∧ y.2.1 991 (k 9) = -1 ∧ y.2.1 992 (k 9) = r.1 950 6 ∧ y.2.1 993 (k 9) = -1 ∧ y.2.1 995 (k 9) = -1 ∧ y.2.1 996 (k 9) = -1 ∧ y.2.1 997 (k 9) = -1 ∧ y.2.1 998 (k 9) = -1 ∧ y.2.1 999 (k 9) = -1 ∧ y.2.1 1000 (k 9) = -1 ∧ y.2.1 1001 (k 9) = nI f ∧ y.2.1 1002 (k 9) = nI n) := by
  have e81 : r.1 950 81 = nI (k 9) := S.1.2.2.2.2.1.2.2
  have e33 := S.2.2.2.2.1
  have e34 := S.2.2.2.2.2
  have hf := S.2.2.2.1
  unfold f_X13_line k_X13_line_19
  refine l2_no (show ¬ r.1 950 81 = 400 from fun y => by
    rw [e81] at y
    have := (nI_eq (b := 400) (by omega) (by decide)).mp y
    omega) (l2_no (show ¬ (400 : Int32) ≤ r.1 950 81 by rw [e81]; exact nI_ge (b := 400) h9 (by decide)) ?_)
  unfold k_X13_line_39
  rw [e81, nI_clamp (n := k 9) (by omega), nI_1]
  refine l2_lt (l2_ck (l2_ix (by omega) (by decide)) ?_)
  refine l2_lt (l2_lt (l2_lt (l2_lt (l2_lt (l2_lt (l2_lt (l2_lt (l2_lt (l2_lt (l2_lt (l2_lt (l2_lt (l2_lt (l2_sm ?_))))))))))))))
  have hx : nI (2000 + f) - (2000 : Int32) = nI f := by
    rw [show (2000 : Int32) = nI 2000 from rfl, pk_sub (by omega), Nat.add_sub_cancel_left]
  refine ⟨rfl, ?_, ?_, ?_, ?_, ?_, ?_, ?_, ?_, ?_, ?_, ?_, ?_, ?_, ?_, ?_, ?_⟩
  · refine ((((((((((((((l2_fr.set (Or.inl ⟨rfl, rfl⟩)).trans (l2_fr.set (Or.inr ⟨by decide, by decide, rfl⟩))).trans (l2_fr.set (Or.inr ⟨by decide, by decide, rfl⟩))).trans (l2_fr.set (Or.inr ⟨by decide, by decide, rfl⟩))).trans (l2_fr.set (Or.inr ⟨by decide, by decide, rfl⟩))).trans (l2_fr.set (Or.inr ⟨by decide, by decide, rfl⟩))).trans (l2_fr.set (Or.inr ⟨by decide, by decide, rfl⟩))).trans (l2_fr.set (Or.inr ⟨by decide, by decide, rfl⟩))).trans (l2_fr.set (Or.inr ⟨by decide, by decide, rfl⟩))).trans (l2_fr.set (Or.inr ⟨by decide, by decide, rfl⟩))).trans (l2_fr.set (Or.inr ⟨by decide, by decide, rfl⟩))).trans (l2_fr.set (Or.inr ⟨by decide, by decide, rfl⟩))).trans (l2_fr.set (Or.inr ⟨by decide, by decide, rfl⟩))).trans (l2_fr.set (Or.inr ⟨by decide, by decide, rfl⟩))).trans (l2_fr.set (Or.inr ⟨by decide, by decide, rfl⟩))
  all_goals simp only [l2_gI, Nat.reduceEqDiff, reduceIte]
  · rw [e33, hx]
  · exact e34
/-- both -/
theorem fs_open (S : fs P nt f n2 Y n L ka a g k c r) (h9 : k 9 < 400) (so K0 up : Int32) : ∃ c' r', f_X5_addStep so up c = some (nI (k 9), c') ∧ f_X13_line K0 up r = some (nI (k 9), r') ∧ fs P nt f n2 Y n L ka a g (ox k) c' r' ∧ (∀ n3, sn n2 n3 f n (k 9) (fun _ => True) (fun _ => True) k c r (ox k) c' r') ∧ sq c c' ∧ op_R c' r' f n (k 9) so up K0 ∧ l2_fr (fun b j => (b = 428 ∧ j = 18) ∨ b = 445 + k 9) c c' ∧ l2_fr (fun b j => (b = 950 ∧ j = 81) ∨ (988 ≤ b ∧ b ≤ 1002 ∧ j = k 9)) r r' ∧ r'.1 992 (k 9) = r.1 950 6 := by
  obtain ⟨⟨yv, c'⟩, e1, y1, fc, y2, y3, y4, y5⟩ := fs_addStep S h9 so up
  obtain ⟨⟨zv, r'⟩, e2, z1, fr, z2, z3, z4, z5, z6, z7, z8, z9, z10, z11, z12, z13, z14, z15, z16⟩ := fs_line S h9 K0 up
  have y1 : yv = nI (k 9) := y1
  have z1 : zv = nI (k 9) := z1
  subst y1 z1
  have fc : l2_fr (fun b j => (b = 428 ∧ j = 18) ∨ b = 445 + k 9) c c' := fc
  have fr : l2_fr (fun b j => (b = 950 ∧ j = 81) ∨ (988 ≤ b ∧ b ≤ 1002 ∧ j = k 9)) r r' := fr
  have J : pj P (k 0) 0 0 (k 1) (k 2) c' r' := S.1.1.fr fc fr (fun j => by omega) (fun b i _ _ => by omega) (fun b i _ _ => by omega) (by omega) (fun j _ => by omega) (fun b i _ _ => by omega)
  have b5 : k 4 ≤ 2 * k 1 + 2 * k 9 := S.1.2.2.2.2.2.2.2.2.2.1
  refine ⟨c', r', e1, e2, ?_, fun n3 => ⟨⟨Nat.le_refl _, Nat.le_refl _, Nat.le_refl _, Nat.le_refl _, Nat.le_refl _, Nat.le_refl _, Nat.le_refl _, Nat.le_refl _, Nat.le_refl _, Nat.le_succ _⟩, fc.mono (fun b j y => y.elim (fun y => Or.inr (Or.inl y)) (fun y => Or.inr (Or.inr (Or.inr (Or.inr ⟨by omega, by omega⟩))))), fr.mono (fun b j y => y.elim (fun y => Or.inr (Or.inl ⟨y.1, by omega⟩)) (fun y => Or.inr (Or.inr (Or.inr (Or.inr ⟨y.1, y.2.1, by omega⟩))))), fun _ _ y => absurd trivial y, fun _ _ _ y => absurd trivial y, mK.of fr (fun b j y => by omega)⟩, sq.of fc (fun b j y => by omega), ⟨⟨y3, y4, y5⟩, z3, z4, z5, z6, z8, z9, z10, z11, z12, z13, z14, z15, z16⟩, fc, fr, z7⟩
  refine S.up (Nat.le_refl _) (Nat.le_refl _) ⟨rfl, rfl, rfl, rfl⟩ J fc fr (fun b j y => by omega) ⟨by omega, by omega, by omega⟩ (fun b j _ _ => by omega) ⟨by omega, fun i _ => by omega⟩ (fun b j y => by omega) ⟨by omega, by omega⟩ (fun b j y => by omega) ⟨by omega, fun i _ => by omega⟩ ⟨?_, S.1.2.2.2.2.2.2.2.1⟩ ⟨?_, ?_⟩ ⟨y2, z2, ?_⟩
  · rw [(fc 846 6 (by omega)).1]; exact S.1.2.2.1.2.2.2.2.2.1
  · rw [(fc 334 2 (by omega)).1]; exact S.1.2.2.1.2.2.2.1
  · show k 4 ≤ 2 * k 1 + 2 * (k 9 + 1)
    omega
  · show k 9 + 1 ≤ 400
    omega
end
