/-! Level 2: an assignment: the loop over its steps; what it brings. -/
section
variable {P : pc_S} {nt : Nat → Nat} {f n n2 n3 Y a g f2 p0 ln w lo vv : Nat} {L v EE G : Nat → Nat} {ka : Int32} {k kb k' : Nat → Nat} {c0 r0 cb rb c r c1 r1 c' r' : t_S} {A B : Nat → Prop} {E : en_S} {Q : t_S → t_S → Prop}
theorem wk71 (l2 : Nat) (l3 : Int32) (c : t_S) : k_X6_readAssignment_71 l2 l3 c = ((f_X6_node c).bind wyC0).bind (fun s => some (.inl (l2, l3 + 1, s))) := by
  unfold k_X6_readAssignment_71
  rw [Option.bind_assoc]
  refine congrArg (Option.bind _) (funext fun r1 => ?_)
  unfold wyC0
  rw [Option.bind_assoc]
  refine congrArg (Option.bind _) (funext fun r2 => ?_)
  by_cases z : r2.1 = 0
  · rw [if_pos z, if_pos z, Option.bind_assoc]
    refine congrArg (Option.bind _) (funext fun r3 => ?_)
    by_cases z2 : r3.1 = 0
    · rw [if_pos z2, if_pos z2]; rfl
    · rw [if_neg z2, if_neg z2]
      unfold wyC2
      rw [Option.bind_assoc]
      refine congrArg (Option.bind _) (funext fun r4 => ?_)
      rw [Option.bind_assoc]
      refine congrArg (Option.bind _) (funext fun r5 => ?_)
      rw [Option.bind_assoc]
      rfl
  · rw [if_neg z, if_neg z]
    unfold wyC1
    rw [Option.bind_assoc]
    refine congrArg (Option.bind _) (funext fun r3 => ?_)
    rw [Option.bind_assoc]
    rfl
theorem wk86_1 (l1 l2 : Int32) (r : t_S) : k_X13_assignment_86 l1 l2 1 68 r = ((f_X13_node (nI 68) 1 r).bind (fun y => (f_X13_next y.2).bind (fun z => (f_X13_hang l2 y.1 z).bind (fun h => wyK1 y.1 h)))).bind (fun s => some (.inl (l1, l2, s))) := by
  unfold k_X13_assignment_86
  rw [Option.bind_assoc]
  refine congrArg (Option.bind _) (funext fun r1 => ?_)
  rw [Option.bind_assoc]
  refine congrArg (Option.bind _) (funext fun r2 => ?_)
  rw [Option.bind_assoc]
  refine congrArg (Option.bind _) (funext fun r3 => ?_)
  rw [if_neg (by decide)]
  unfold wyK1
  rw [Option.bind_assoc]
  refine congrArg (Option.bind _) (funext fun r4 => ?_)
  by_cases z : t_ix r1.1 13000 = true
  · rw [if_pos z, if_pos z]
    unfold t_let
    dsimp only
    rw [Option.bind_assoc]
    rfl
  · rw [if_neg z, if_neg z]
    rfl
theorem wk86_0 (l1 l2 : Int32) (r : t_S) : k_X13_assignment_86 l1 l2 0 69 r = ((f_X13_node (nI 69) 1 r).bind (fun y => (f_X13_next y.2).bind (fun z => (f_X13_hang l2 y.1 z).bind (fun h => wyK2 y.1 h)))).bind (fun s => some (.inl (l1, l2, s))) := by
  unfold k_X13_assignment_86
  rw [Option.bind_assoc]
  refine congrArg (Option.bind _) (funext fun r1 => ?_)
  rw [Option.bind_assoc]
  refine congrArg (Option.bind _) (funext fun r2 => ?_)
  rw [Option.bind_assoc]
  refine congrArg (Option.bind _) (funext fun r3 => ?_)
  rw [if_pos rfl]
  unfold wyK2
  rw [Option.bind_assoc]
  refine congrArg (Option.bind _) (funext fun r4 => ?_)
  by_cases z : t_ix r1.1 13000 = true
  · rw [if_pos z, if_pos z]
    unfold t_let
    dsimp only
    rw [Option.bind_assoc]
    rfl
  · rw [if_neg z, if_neg z]
    rfl
/-- between two turns -/
def wyT (P : pc_S) (nt : Nat → Nat) (f n2 Y n : Nat) (L v : Nat → Nat) (ka : Int32) (a g ln w lo : Nat) (kb : Nat → Nat) (cb rb c0 r0 : t_S) (j : Nat) (x : Nat × Int32 × t_S) (y : Int32 × Int32 × t_S) : Prop := ∃ vv c r, vv ≤ 3001 ∧ j = 3002 - vv ∧ x = (445 + ln, nI vv, c) ∧ y = (nI ln, nI w, r) ∧ wyO P nt f n2 Y n L v ka a g ln w lo kb cb rb c0 r0 vv c r
theorem wy_loop (I : wI P nt f n2 Y n L v ka a g ln w lo kb cb rb 0 EE G k c r) (hV : en_V n 1 L v) (hl : ln < 400) (gc : l2_fr mo_Wc c0 cb) (gr' : l2_fr mo_Wr r0 rb) (hEnd : ∀ vv EE G k' c' r', wI P nt f n2 Y n L v ka a g ln w lo kb cb rb vv EE G k' c' r' → t_h2 (k_X6_readAssignment_152 (445 + ln) c') (k_X13_assignment_146 (nI ln) (nI w) r') Q) (hFlt : ∀ f2 p0 c' r', zS f f2 p0 c0 c' → yS P f f2 p0 r0 r' → t_h2 (k_X6_readAssignment_152 (445 + ln) c') (k_X13_assignment_146 (nI ln) (nI w) r') Q) : t_h2 (t_loop b_X6_readAssignment_27 t_N (445 + ln, 0, c)) (t_loop b_X13_assignment_42 t_N (nI ln, nI w, r)) Q := by
  refine h2_lpN (fun j x y => wyT P nt f n2 Y n L v ka a g ln w lo kb cb rb c0 r0 j x y) ?_ (k := 3002) (by decide) ⟨0, c, r, by decide, rfl, rfl, rfl, Or.inl ⟨EE, G, k, I⟩⟩
  rintro j x y ⟨vv, c, r, hv, rfl, rfl, rfl, h⟩
  show t_h2 (k_X6_readAssignment_27 (445 + ln) (nI vv) c) (k_X13_assignment_42 (nI ln) (nI w) r) _
  unfold k_X6_readAssignment_27 k_X13_assignment_42
  have inr2 : ∀ {a0 : Option t_S} {b0 : Option t_S}, t_h2 a0 b0 Q → t_h2 (a0.map Sum.inr) (b0.map Sum.inr) (h2_nx b_X6_readAssignment_27 b_X13_assignment_42 (fun x y => ∃ j, j < 3002 - vv ∧ wyT P nt f n2 Y n L v ka a g ln w lo kb cb rb c0 r0 j x y) Q) := fun h => h2_mp h
  rcases h with ⟨EE, G, k, I⟩ | ⟨f2, p0, q1, q2⟩
  rotate_left
  · have F := inr2 (hFlt f2 p0 c r q1 q2)
    refine h2_noR q2.ne ?_
    exact h2_ifL (fun _ => F) (fun _ => h2_noL q1.1.ne F)
  have S := I.1
  have vk := I.2.2.2.2.1
  have ml := S.1.1.mle (by decide)
  have f0 := S.1.1.f0
  refine h2_noL (nI_nlt (a := 3000) (by omega) (by decide)) (h2_ckL f0.1 (h2_ckR f0.2 ?_))
  have step : ∀ {B : Option t_S}, t_h2 ((f_X6_node c).bind wyC0) B (wyO P nt f n2 Y n L v ka a g ln w lo kb cb rb c0 r0 (vv + 1)) → t_h2 (k_X6_readAssignment_71 (445 + ln) (nI vv) c) (B.bind (fun s => some (.inl (nI ln, nI w, s)))) (h2_nx b_X6_readAssignment_27 b_X13_assignment_42 (fun x y => ∃ j, j < 3002 - vv ∧ wyT P nt f n2 Y n L v ka a g ln w lo kb cb rb c0 r0 j x y) Q) := by
    intro B h
    rw [wk71]
    refine h2_bb _ h (fun c' r' hy => h2_sm ⟨3002 - (vv + 1), by omega, vv + 1, c', r', by omega, rfl, ?_, rfl, hy⟩)
    show (445 + ln, nI vv + 1, c') = _
    rw [nI_succ]
  rcases S.1.1.is (x := 46) (by decide) with ⟨x1, x2⟩ | ⟨x1, x2⟩
  · have x2 : f_X13_is 46 r = 1 := x2
    refine h2_ckL x1 (h2_noR (by rw [x2]; decide) ?_)
    unfold k_X13_assignment_67
    rw [x2, if_neg (by decide), wk86_1]
    exact step (wy_dot I x1 hV hl gc gr')
  have x2 : f_X13_is 46 r = 0 := x2
  refine h2_noL x1 (h2_ckR x2 ?_)
  rcases S.1.1.is (x := 91) (by decide) with ⟨z1, z2⟩ | ⟨z1, z2⟩
  · have z2 : f_X13_is 91 r = 1 := z2
    refine h2_ckL z1 (h2_noR (by rw [z2]; decide) ?_)
    unfold k_X13_assignment_67
    rw [x2, if_pos rfl, wk86_0]
    exact step (wy_at I z1 hV hl gc gr')
  · have z2 : f_X13_is 91 r = 0 := z2
    exact h2_noL z1 (h2_ckR z2 (inr2 (hEnd vv EE G k c r I)))
/-- an assignment's line with all in it -/
theorem as_mB {l0 l1 l2 i0 i1 m' : Nat} (q : sq c0 cb) (hl1 : l1 = l0 ∨ l1 = l0 + 1 ∧ ∃ X pl, wx_R c r f ln l0 14 0 (nI ln) 0 X pl) (h : mB False n2 n3 cb c r l1 l2 i0 i1 (w + 1) m' ln ln) (hw : r.1 955 w = 58 ∧ r.2.1 958 w = 0 ∧ r.1 961 w = 0) (hr : r.1 988 ln = 2 ∧ r.1 996 ln = nI w ∧ r.1 1000 ln = sl_v 9 ∧ r.1 1001 ln = nI f) (hf : f < 40) (hm : w < m') (h13 : m' ≤ 13000) : mB False n2 n3 c0 c r l0 l2 i0 i1 w m' ln (ln + 1) := by
  obtain ⟨h1, h2, h3, ⟨ix, h4⟩, h5, h6⟩ := h
  have nk : ∀ K : Nat, K < 1000 → K ≠ 58 → r.1 955 w ≠ nI K := fun K a b y => by
    rw [hw.1] at y
    exact b ((nI_eq (a := 58) (by decide) (by omega)).mp y).symm
  have kk : mK n2 n3 r r := mK.of (l2_fr.rf (W := fun _ _ => False)) (fun _ _ _ y => y)
  refine ⟨fun k a b => ?_, fun e a b => ?_, fun S hS => ?_, ⟨ix, fun k a b t => ?_⟩, fun x hx => ?_, fun s a b d => ⟨w, Nat.le_refl _, hm, ?_⟩⟩
  · by_cases z : k = w
    · subst z
      exact Or.inr (Or.inr ⟨hw.1, hw.2.1, hw.2.2, ln, Nat.le_refl _, Nat.lt_succ_self _, hr.1, hr.2.1⟩)
    · rcases h1 k (by omega) b with ⟨K, x1, x2, x3, x4⟩ | ⟨⟨E, hE, xA⟩, no⟩ | ⟨_, _, _, s, s1, s2, _⟩
      · refine Or.inl ⟨K, x1, x2, x3, fun y => ?_⟩
        obtain ⟨e, e1, e2, e3⟩ := x4 y
        exact ⟨e, by omega, e2, e3⟩
      · refine Or.inr (Or.inl ⟨⟨E, hE, xA.dn (by omega)⟩, fun s s1 s2 s3 s4 => ?_⟩)
        have es : s = ln := by omega
        rw [es, hr.2.1] at s4
        exact z ((nI_eq (by omega) (by omega)).mp s4).symm
      · omega
  · by_cases z : e < l1
    · rcases hl1 with hl1 | ⟨hl1, X, pl, wx⟩
      · omega
      · have ee : e = l0 := by omega
        subst ee
        exact Or.inr (Or.inr (Or.inr (Or.inr ⟨ln, Nat.le_refl _, Nat.lt_succ_self _, 2, 9, 14, 0, X, pl, f, nI ln, 0, by decide, by decide, by decide, hr.1, hr.2.2.1, hr.2.2.2, hf, wx.1, wx.2.1, by unfold sl_ok; omega, wx.2.2.1, wx.2.2.2.1, wx.2.2.2.2, Or.inl ⟨rfl, by decide⟩⟩)))
    · refine (h2 e (by omega) b).fr (c' := c) (l := l2) (fun _ _ _ _ _ => rfl) b (fun _ _ _ => ⟨rfl, rfl, rfl, rfl, rfl, rfl, fun _ => rfl⟩) (fun _ _ _ _ _ _ _ => rfl) kk (Nat.le_refl _) (Nat.le_refl _) ⟨Nat.le_succ _, Nat.le_refl _⟩ ⟨Nat.le_refl _, Nat.le_succ _⟩ (fun k k1 k2 s s1 s2 s3 s4 s5 => ?_)
      have es : s = ln := by omega
      rw [es, hr.2.1] at s5
      have := (nI_eq (by omega) (by omega)).mp s5
      omega
  · refine (h3 S (hS.same q.1 q.2.1)).iff (fun x => ⟨fun y => y.elim Or.inl (fun ⟨k, k1, k2, k3⟩ => Or.inr ⟨k, by omega, k2, k3⟩), fun y => y.elim Or.inl (fun ⟨k, k1, k2, k3⟩ => Or.inr ⟨k, ?_, k2, k3⟩)⟩)
    by_cases z : k = w
    · obtain ⟨_, _, _, K, y4, y5⟩ := k3
      rw [z] at y5
      exact absurd y5 (nk K (by omega) (by omega))
    · omega
  · by_cases z : k = w
    · obtain ⟨K, y1, y2, y3⟩ := t
      rw [z] at y3
      exact absurd y3 (nk K (by omega) (by omega))
    · exact h4 k (by omega) b t
  · rw [h5 x hx, q.2.2]
    refine ⟨fun y => y.elim Or.inl (fun ⟨k, k1, k2, k3⟩ => Or.inr ⟨k, by omega, k2, k3⟩), fun y => y.elim Or.inl (fun ⟨k, k1, k2, k3, k4⟩ => Or.inr ⟨k, ?_, k2, k3, k4⟩)⟩
    by_cases z : k = w
    · rw [z] at k3
      exact absurd k3 (nk 11 (by decide) (by decide))
    · omega
  · have es : s = ln := by omega
    rw [es]
    exact hr.2.1
end
