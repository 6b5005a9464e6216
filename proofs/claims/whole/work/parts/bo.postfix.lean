/-! Level 2: behind a base on both sides: the loop. -/
section
variable {P : pc_S} {E : en_S} {xd l1 l2 : Int32} {EB PB IB u q m t e p l w o s i dd : Nat} {c0 r0 c r : t_S} {rc : RT_X6_readBase} {rR : RT_X13_base} {Q : t_S → Int32 × t_S → Prop}
theorem k230_eq {l3 : Int32} (hx : xd + 1 = nI dd) (c : t_S) : k_X6_readOne_230 rc xd l2 l3 c = (pkC rc dd c).bind (fun c' => k_X6_readOne_307 rc xd l2 l3 c') := by
  unfold k_X6_readOne_230 pkC
  rw [Option.bind_assoc]
  refine congrArg (Option.bind _) (funext fun r1 => ?_)
  rw [Option.bind_assoc]
  refine congrArg (Option.bind _) (funext fun r2 => ?_)
  by_cases z : r2.1 = 0
  · rw [if_pos z, if_pos z, Option.bind_assoc]
    refine congrArg (Option.bind _) (funext fun r3 => ?_)
    by_cases z2 : r3.1 = 0
    · rw [if_pos z2, if_pos z2]; rfl
    · rw [if_neg z2, if_neg z2, hx, Option.bind_assoc]
      refine congrArg (Option.bind _) (funext fun r4 => ?_)
      rw [Option.bind_assoc]
      refine congrArg (Option.bind _) (funext fun r5 => ?_)
      rw [Option.bind_assoc]
      rfl
  · rw [if_neg z, if_neg z, Option.bind_assoc]
    refine congrArg (Option.bind _) (funext fun r3 => ?_)
    rw [Option.bind_assoc]
    rfl
theorem k219_dot {l4 : Int32} (r : t_S) : k_X13_single_219 rR l1 l2 l4 1 68 r = (dtR l4 r).bind (fun y => k_X13_single_288 rR l1 l2 y.1 y.2) := by
  unfold k_X13_single_219 dtR
  rw [Option.bind_assoc]
  refine congrArg (Option.bind _) (funext fun r1 => ?_)
  rw [Option.bind_assoc]
  refine congrArg (Option.bind _) (funext fun r2 => ?_)
  rw [Option.bind_assoc]
  refine congrArg (Option.bind _) (funext fun r3 => ?_)
  rw [if_neg (by decide)]
  by_cases z : t_ix r1.1 13000 = true
  · rw [if_pos z, if_pos z]
    unfold t_let
    dsimp only
    rw [Option.bind_assoc]
    refine congrArg (Option.bind _) (funext fun r4 => ?_)
    rw [Option.bind_assoc]
    rfl
  · rw [if_neg z, if_neg z]
    rfl
theorem k219_at {l4 : Int32} (r : t_S) : k_X13_single_219 rR l1 l2 l4 0 69 r = (atR rR l4 r).bind (fun y => k_X13_single_288 rR l1 l2 y.1 y.2) := by
  unfold k_X13_single_219 atR
  rw [Option.bind_assoc]
  refine congrArg (Option.bind _) (funext fun r1 => ?_)
  rw [Option.bind_assoc]
  refine congrArg (Option.bind _) (funext fun r2 => ?_)
  rw [Option.bind_assoc]
  refine congrArg (Option.bind _) (funext fun r3 => ?_)
  rw [if_pos rfl, Option.bind_assoc]
  refine congrArg (Option.bind _) (funext fun r4 => ?_)
  rw [Option.bind_assoc]
  refine congrArg (Option.bind _) (funext fun r5 => ?_)
  rw [Option.bind_assoc]
  rfl
def poI (P : pc_S) (E : en_S) (xd l1 l2 : Int32) (wb u q m t e p l w o s i dd : Nat) (c0 r0 : t_S) (k : Nat) (x : Int32 × Int32 × Int32 × t_S) (y : Int32 × Int32 × Int32 × t_S) : Prop := ∃ v c y0 r, v ≤ 3001 ∧ k = 3002 - v ∧ x = (xd, nI wb, nI v, c) ∧ y = (l1, l2, y0, r) ∧ po_R P E u q m t e p l w o s i dd c0 r0 v c (y0, r)
/-- the loop behind a base -/
theorem po_loop {wb : Nat} (hb : xb P EB PB IB u q t e p l w o s i dd) (hx : xd + 1 = nI dd) (hE : hE_R rc rR dd) (hB : ∀ x, bC2 (rc.2.2.1 x)) (hR : ∀ r : t_S, r.1 950 2 ≠ 0 → rR.2.1 r = some (0, r)) (hEnd : ∀ n c r, xG P E 0 0 (20 * dd) u q m t e p l w o s i dd c0 r0 n c r → t_h2 (t_loop (b_X6_readOne_313 rc) t_N (nI wb, c)) (k_X13_single_295 rR l1 l2 (nI n) r) Q) (hFlt : ∀ y0 c r, xf P t e p l w o w m s c0 r0 c r → t_h2 (t_loop (b_X6_readOne_313 rc) t_N (nI wb, c)) (k_X13_single_295 rR l1 l2 y0 r) Q) {y0 : Int32} (h : bO_R P E u q m t e p l w o s i dd c0 r0 c (y0, r)) : t_h2 (k_X6_readOne_184 rc xd (nI wb) c) (t_loop (b_X13_single_173 rR) t_N (l1, l2, y0, r)) Q := by
  have h0 : po_R P E u q m t e p l w o s i dd c0 r0 0 c (y0, r) := by
    rcases h with ⟨n, h1, G⟩ | h
    · have G' := G
      obtain ⟨u', q', m', t', e', p', l', s', i', G1, G2, X, _⟩ := G'
      have z := X.1.mle (by decide)
      exact Or.inl ⟨n, q', h1, by omega, z.2.2.1, z.2.2.2, G⟩
    · exact Or.inr h
  unfold k_X6_readOne_184
  refine h2_lpN (fun k x y => poI P E xd l1 l2 wb u q m t e p l w o s i dd c0 r0 k x y) ?_ (k := 3002) (by decide) ⟨0, c, y0, r, by decide, rfl, rfl, rfl, h0⟩
  rintro k x y ⟨v, c, y0, r, hv, rfl, rfl, rfl, h⟩
  show t_h2 (k_X6_readOne_186 rc xd (nI wb) (nI v) c) (k_X13_single_173 rR l1 l2 y0 r) _
  unfold k_X6_readOne_186 k_X13_single_173
  have inr2 : ∀ {a : Option t_S} {b : Option (Int32 × t_S)}, t_h2 a b Q → t_h2 (a.map Sum.inr) (b.map Sum.inr) (h2_nx (b_X6_readOne_186 rc) (b_X13_single_173 rR) (fun x y => ∃ j, j < 3002 - v ∧ poI P E xd l1 l2 wb u q m t e p l w o s i dd c0 r0 j x y) Q) := fun h => h2_mp h
  rcases h with ⟨n, qq, y1, v1, v2, v3, G⟩ | h
  rotate_left
  · obtain ⟨f, p0, q1, q2⟩ := h
    have F := inr2 (hFlt y0 c r ⟨f, p0, q1, q2⟩)
    refine h2_noR q2.ne ?_
    exact h2_ifL (fun _ => F) (fun _ => h2_noL q1.stay.2.2.2.2 F)
  have y1 : y0 = nI n := y1
  subst y1
  have X : ∃ u' q' m' t' e' p' l' s' i', xp P E u' 0 0 q' m' t' e' p' l' w o s' i' dd c r := by
    obtain ⟨u', q', m', t', e', p', l', s', i', _, _, X, _⟩ := G
    exact ⟨u', q', m', t', e', p', l', s', i', X⟩
  obtain ⟨u', q', m', t', e', p', l', s', i', X⟩ := X
  have f0 := X.1.f0
  refine h2_noL (nI_nlt (a := 3000) (by omega) (by decide)) (h2_ckL f0.1 (h2_ckR f0.2 ?_))
  -- one more step
  have step : ∀ {A : Option (Int32 × t_S)}, t_h2 (pkC rc dd c) A (po_R P E u q m t e p l w o s i dd c0 r0 (v + 1)) → t_h2 (k_X6_readOne_230 rc xd (nI wb) (nI v) c) (A.bind (fun y => k_X13_single_288 rR l1 l2 y.1 y.2)) (h2_nx (b_X6_readOne_186 rc) (b_X13_single_173 rR) (fun x y => ∃ j, j < 3002 - v ∧ poI P E xd l1 l2 wb u q m t e p l w o s i dd c0 r0 j x y) Q) := by
    intro A h
    rw [k230_eq hx]
    refine h2_bb _ h (fun c' y hy => ?_)
    unfold k_X6_readOne_307 k_X13_single_288
    refine h2_sm ⟨3002 - (v + 1), by omega, v + 1, c', y.1, y.2, by omega, rfl, ?_, rfl, hy⟩
    show (xd, nI wb, nI v + 1, c') = _
    rw [nI_succ]
  rcases X.1.is (x := 46) (by decide) with ⟨a, b⟩ | ⟨a, b⟩
  · have b : f_X13_is 46 r = 1 := b
    refine h2_ckL a (h2_noR (by rw [b]; decide) ?_)
    unfold k_X13_single_198
    rw [b, if_neg (by decide), k219_dot]
    exact step (po_dot hb ⟨v1, v2⟩ v3 G a)
  have b : f_X13_is 46 r = 0 := b
  refine h2_noL a (h2_ckR b ?_)
  rcases X.1.is (x := 91) (by decide) with ⟨a2, b2⟩ | ⟨a2, b2⟩
  · have b2 : f_X13_is 91 r = 1 := b2
    refine h2_ckL a2 (h2_noR (by rw [b2]; decide) ?_)
    unfold k_X13_single_198
    rw [b, if_pos rfl, k219_at]
    exact step (po_at hb hE hB hR ⟨v1, v2⟩ v3 G a2)
  · have b2 : f_X13_is 91 r = 0 := b2
    exact h2_noL a2 (h2_ckR b2 (inr2 (hEnd n c r G)))
end
