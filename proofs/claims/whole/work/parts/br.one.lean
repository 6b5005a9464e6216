/-! Level 2: readOne and single on both sides. -/
section
variable {P : pc_S} {E : en_S} {xd : Int32} {EB PB IB u q m t e p l w o s i dd k j : Nat} {c0 r0 c r : t_S}
/-- a base and what is behind it, all that is ahead let go -/
theorem se_base {v u1 : Nat} {l1 l2 : Int32} {K A : Nat → Nat} (hA : hA_R (k + 6) (j + 3) dd) (hx : xd + 1 = nI dd) (hb : xb P EB PB IB u q t e p l w o s i dd) (hod : o + 16 ≤ 16 * dd) (hL : pr_l m v l1 l2) (H : pr_H P E u q m t e p l w o s i dd c0 r0 v K A u1 c r) : t_h2 (k_X6_readOne_144 (R_X6_readBase (k + 9)) xd (nI w) c) (k_X13_single_167 (R_X13_base (j + 5)) l1 l2 r) (bO_R P E u q m t e p l w o s i dd c0 r0) := by
  have HH := H
  obtain ⟨Y, h1, h2, h3, F1, F2, D0, hj⟩ := HH
  have S9 := xS_R (k + 5)
  have T5 : xT (R_X13_base (j + 2 + 3)) := xT_R (j + 2)
  have ple := Y.1.ple
  have ml := (Y.1.mle (by decide)).1
  have hb1 : xb P EB PB IB u1 (q + v) t e p l (w + v) o s i dd := by
    unfold xb at hb ⊢
    omega
  have hb' := hb
  unfold xb at hb'
  obtain ⟨F, e1, hF⟩ := bs_any (l2 := nI w) hA hx Y hb1 hod
  rw [e1]
  unfold k_X13_single_167
  show t_h2 _ ((m_X13_base (R_X13_base (j + 4)) r).bind _) _
  refine h2_bb _ hF (fun c1 y hy => ?_)
  refine po_loop (rR := R_X13_base (j + 5)) hb1 hx (hA _ _ (by omega) (by omega)).1 S9.2.1 (fun r z => (T5.1 r z).2.1) (fun n c r G => se_end hb hL H G) (fun y0 c r hf => ?_) hy
  obtain ⟨f, p0, y1, y2⟩ := hf
  have y1' : xF f p0 t e p l w o (w + v) c0 c := y1.lowW F1 (Nat.le_refl _) (Nat.le_refl _) (Nat.le_refl _) (Nat.le_refl _) (Nat.le_refl _) (by omega) H.xw
  have y2' : xR P f p0 m s r0 r := y2.sub F2 (by omega) (Nat.le_refl _)
  refine h2_sep _ _ (y1'.pops (Nat.le_refl _) (w + v) c (by omega)) (y2'.single295 ?_ _ _) (fun z y hz hy => Or.inr ⟨f, p0, hz, hy⟩)
  rcases hL with ⟨_, _, rfl⟩ | ⟨v0, _, rfl⟩
  · exact Or.inl ch_m1
  · exact Or.inr ⟨m + v - 1, by omega, by omega, rfl⟩
/-- an operator ahead -/
theorem pr_turn (hA : hA_R (k + 6) (j + 3) dd) (hx : xd + 1 = nI dd) (hb : xb P EB PB IB u q t e p l w o s i dd) (hod : o + 16 ≤ 16 * dd) : ∀ n x y, prI P E xd u q m t e p l w o s i dd c0 r0 n x y → t_h2 (b_X6_readOne_7 (R_X6_readBase (k + 9)) x) (b_X13_single_6 (R_X13_base (j + 5)) y) (h2_nx (b_X6_readOne_7 (R_X6_readBase (k + 9))) (b_X13_single_6 (R_X13_base (j + 5))) (fun x y => ∃ j, j < n ∧ prI P E xd u q m t e p l w o s i dd c0 r0 j x y) (bO_R P E u q m t e p l w o s i dd c0 r0)) := by
  have T5 : xT (R_X13_base (j + 2 + 3)) := xT_R (j + 2)
  rintro n x y ⟨v, c, r, l1, l2, hv, rfl, rfl, rfl, h⟩
  rcases h with ⟨v3, hL, K, A, u1, H⟩ | ⟨hl2, w', hw', f, p0, y1, y2⟩
  rotate_left
  · refine h2_sep _ _ (y1.one7b (Nat.le_refl _) hw' xd (nI v)) (y2.single6 T5 hl2 l1 1) (fun z y hz hy => ?_)
    obtain ⟨c1, rfl, h1⟩ := hz
    obtain ⟨r1, rfl, h2⟩ := hy
    exact Or.inr ⟨f, p0, h1, h2⟩
  have HH := H
  obtain ⟨Y, h1, h2, h3, F1, F2, D0, hj⟩ := HH
  have f0 := Y.1.f0
  have ple := Y.1.ple
  have ml := (Y.1.mle (by decide)).1
  have hb' := hb
  unfold xb at hb'
  show t_h2 (k_X6_readOne_7 (R_X6_readBase (k + 9)) xd (nI w) (nI v) c) (k_X13_single_6 (R_X13_base (j + 5)) l1 l2 1 r) _
  unfold k_X6_readOne_7 k_X13_single_6
  refine h2_noL (nI_nlt (a := 3000) v3 (by decide)) (h2_ckL f0.1 (h2_noR (by decide) (h2_ckR f0.2 ?_)))
  have hl2 : l2 < 0 ∨ ∃ j, m ≤ j ∧ j < 13000 ∧ l2 = nI j := by
    rcases hL with ⟨_, _, rfl⟩ | ⟨v0, _, rfl⟩
    · exact Or.inl ch_m1
    · exact Or.inr ⟨m + v - 1, by omega, by omega, rfl⟩
  -- behind a fault, the node made
  have flt : ∀ {f p0 : Nat} {B : Option ((Int32 × Int32 × Int32 × t_S) ⊕ (Int32 × t_S))} {a : Option ((Int32 × Int32 × Int32 × t_S) ⊕ t_S)}, t_hk a (fun z => ∃ c', z = .inl (xd, nI w, nI v + 1, c') ∧ xF f p0 t e p l w o (w + v + 1) c0 c') → t_hk B (fun z => ∃ g1 n' r', z = .inl (g1, nI n', 1, r') ∧ m ≤ n' ∧ n' < 13000 ∧ xR P f p0 m s r0 r') → t_h2 a B (h2_nx (b_X6_readOne_7 (R_X6_readBase (k + 9))) (b_X13_single_6 (R_X13_base (j + 5))) (fun x y => ∃ j, j < 3002 - v ∧ prI P E xd u q m t e p l w o s i dd c0 r0 j x y) (bO_R P E u q m t e p l w o s i dd c0 r0)) := by
    intro f p0 B a ha hB
    refine h2_sep _ _ ha hB (fun z y hz hy => ?_)
    obtain ⟨c', rfl, z1⟩ := hz
    obtain ⟨g1, n', r', rfl, z2, z3, z4⟩ := hy
    exact ⟨3002 - (v + 1), by omega, v + 1, c', r', g1, nI n', by omega, rfl, by rw [nI_succ], rfl, Or.inr ⟨Or.inr ⟨n', z2, z3, rfl⟩, w + v + 1, by omega, f, p0, z1, z4⟩⟩
  -- the reference behind a fault, from the chain on
  have r138 : ∀ {f p0 : Nat} (n' : Nat) (r' : t_S), m ≤ n' → n' < 13000 → xR P f p0 m s r0 r' → t_hk (k_X13_single_138 (R_X13_base (j + 5)) l1 l2 1 (nI n') r') (fun z => ∃ g1 n'' r'', z = .inl (g1, nI n'', 1, r'') ∧ m ≤ n'' ∧ n'' < 13000 ∧ xR P f p0 m s r0 r'') := by
    intro f p0 n' r' z1 z2 z3
    have fin : ∀ r2, xR P f p0 m s r0 r2 → t_hk (k_X13_single_150 (R_X13_base (j + 5)) l1 1 (nI n') r2) (fun z => ∃ g1 n'' r'', z = .inl (g1, nI n'', 1, r'') ∧ m ≤ n'' ∧ n'' < 13000 ∧ xR P f p0 m s r0 r'') := fun r2 z4 => by
      unfold k_X13_single_150 k_X13_single_160
      exact l2_if (fun _ => l2_sm ⟨_, n', _, rfl, z1, z2, z4⟩) (fun _ => l2_sm ⟨_, n', _, rfl, z1, z2, z4⟩)
    unfold k_X13_single_138
    refine l2_if (fun _ => fin r' z3) (fun z => ?_)
    obtain ⟨j', j1, j2, rfl⟩ := hl2.resolve_left z
    refine l2_ck (l2_ix j2 (by decide)) (l2_lt ?_)
    rw [nI_clamp (n := j') (by omega)]
    exact fin _ (z3.set (Or.inl ⟨by decide, by decide, j1⟩))
  -- - ! size
  have plain : ∀ (tk : Int32) (kk : Nat), c.1 1 8 = tk → tk ≠ 1 → tk ≠ 4 → 64 ≤ kk → kk ≤ 66 → (∀ s : t_S, k_X6_readOne_65 (R_X6_readBase (k + 9)) xd (nI w) (nI v) tk s = (f_X6_node s).bind (fun r1 => (f_X2_advance r1).bind (fun r2 => (f_X6_pushWaiting (nI (kk - 54)) (nI 0) r2).bind (fun r7 => k_X6_readOne_138 (R_X6_readBase (k + 9)) xd (nI w) (nI v) r7)))) → t_h2 (k_X6_readOne_65 (R_X6_readBase (k + 9)) xd (nI w) (nI v) tk c) (k_X13_single_74 (R_X13_base (j + 5)) l1 l2 (nI kk) r) (h2_nx (b_X6_readOne_7 (R_X6_readBase (k + 9))) (b_X13_single_6 (R_X13_base (j + 5))) (fun x y => ∃ j, j < 3002 - v ∧ prI P E xd u q m t e p l w o s i dd c0 r0 j x y) (bO_R P E u q m t e p l w o s i dd c0 r0)) := by
    intro tk kk e8 n1 n4 k1 k2 eC
    have eR : k_X13_single_74 (R_X13_base (j + 5)) l1 l2 (nI kk) r = (f_X13_node (nI kk) 1 r).bind (fun r1 => (f_X13_next r1.2).bind (fun r2 => k_X13_single_138 (R_X13_base (j + 5)) l1 l2 1 r1.1 r2)) := by
      unfold k_X13_single_74 k_X13_single_86
      rw [if_neg (fun y => by have := (nI_eq (a := kk) (b := 0) (by omega) (by decide)).mp y; omega), if_neg (by decide)]
      refine congrArg (Option.bind _) (funext fun r1 => congrArg (Option.bind _) (funext fun r2 => ?_))
      rw [if_neg (fun y => by have := (nI_eq (a := kk) (b := 67) (by omega) (by decide)).mp y; omega)]
    rw [eR]
    by_cases hc : True
    · have e65 : k_X6_readOne_65 (R_X6_readBase (k + 9)) xd (nI w) (nI v) tk c = _ := eC c
      rw [e65]
      refine h2_bb _ (xp_node (K := kk) Y (by omega) s) (fun c1 y hy => ?_)
      obtain ⟨y0, r1⟩ := y
      rcases hy with ⟨hq, g1, hm, y1, y2, y3, y4, X1⟩ | ⟨g1, f, p0, y1, y2, ⟨j', j1, j2, j3⟩, y4, y5⟩
      rotate_left
      · have j3 : y0 = nI j' := j3
        subst j3
        have hF : xF f p0 t e p l w o (w + v) c0 c1 := xF.of Y (by omega) (by omega) ⟨by omega, by omega⟩ ⟨Nat.le_refl _, Nat.le_refl _⟩ F1 g1 (fun b j z => x_la z) ⟨by unfold la_W; omega, by unfold la_W; omega, by unfold la_W; omega⟩ (fun j => by unfold la_W; omega) y1 H.xw
        have hR : xR P f p0 m s r0 r1 := y2.sub F2 (by omega) (Nat.le_refl _)
        refine flt (l2_eq hF.stay.1 (l2_bd _ (hF.push (by omega) _ _ ?_) (fun c2 h2 => l2_sm ⟨c2, rfl, h2⟩))) (l2_bd _ hR.next (fun r2 h2 => r138 j' r2 (by omega) j2 h2))
        exact ⟨fun y => by have := (nI_eq (a := kk - 54) (b := 16) (by omega) (by decide)).mp y; omega, fun y => by have := (nI_eq (a := kk - 54) (b := 17) (by omega) (by decide)).mp y; omega⟩
      have y1 : y0 = nI (m + v) := y1
      subst y1
      rw [if_neg (by omega)] at X1
      have X1 : xp P E u1 0 1 (q + v + 1) (m + v + 1) t e p l (w + v) o s i dd c1 r1 := X1
      have y2 : l2_fr (xn_W (m + v)) r r1 := y2
      have y3 : nd_at r1 (m + v) (nI kk) (r.1 950 6) := y3
      obtain ⟨d1, d2, d3, d4, d5, d6, d7⟩ := y3
      have k8 : c1.1 1 8 = tk := by rw [(g1 1 8 (by omega)).1]; exact e8
      have fc1 : l2_fr (xWc t e p l w o) c0 c1 := F1.trans (g1.mono (fun b j y => by obtain ⟨rfl, rfl⟩ := y; exact xWc.i845 (by decide)))
      have fr1 : l2_fr (xWr m s) r0 r1 := F2.trans (y2.mono (fun b j y => (xn_r y).sub (by omega) (Nat.le_refl _)))
      have xw1 : xw e w (w + v) c1 := fun i h1 h2 h3 => by
        rw [(g1 854 _ (by omega)).1] at h3
        obtain ⟨j, z⟩ := H.xw i h1 h2 h3
        exact ⟨j, by rw [(g1 854 _ (by omega)).1]; exact z⟩
      refine h2_bb _ (xp_adv X1 (by decide) (Or.inr (by rw [k8]; exact n1)) (by rw [k8]; exact n4)) (fun c2 r2 hw => ?_)
      obtain ⟨a2, a3, a4⟩ := hw
      rcases a4 with ⟨X2, z1, z2⟩ | a4
      rotate_left
      · obtain ⟨f, p0, q1, q2⟩ := xf.of (o0 := o) (m0 := m) (s0 := s) X1 (by decide) (by omega) (by omega) ⟨by omega, by omega⟩ ⟨Nat.le_refl _, Nat.le_refl _, by omega, Nat.le_refl _⟩ fc1 fr1 a2 a3 a4 xw1
        refine flt (l2_bd _ (q1.push (by omega) _ _ ?_) (fun c2 h2 => l2_sm ⟨c2, rfl, h2⟩)) (r138 (m + v) r2 (by omega) (by omega) q2)
        exact ⟨fun y => by have := (nI_eq (a := kk - 54) (b := 16) (by omega) (by decide)).mp y; omega, fun y => by have := (nI_eq (a := kk - 54) (b := 17) (by omega) (by decide)).mp y; omega⟩
      have r5 : r2.1 955 (m + v) = nI kk := by rw [(a3 955 _ (by unfold rn_W; omega)).1]; exact d1
      refine pr_add hb hL H X2 (by omega) (by omega) z2 ((g1.mono (fun b j y => Or.inl y)).trans (a2.mono (fun b j y => Or.inr y))) ((y2.mono (fun b j y => Or.inl y)).trans (a3.mono (fun b j y => Or.inr y))) (fun b j y => ?_) (fun b j y => ?_) (xD.plain (K := kk) r5 (by omega) (by omega) ?_ ?_ (fun y => by omega)) r5 ?_ ?_ (Or.inl ⟨k1, k2, rfl⟩)
      · rcases y with ⟨rfl, rfl⟩ | y
        · exact ⟨xWc.i845 (by decide), by decide⟩
        · exact ⟨x_la y, by unfold la_W at y; omega⟩
      · rcases y with y | y
        · exact xn_r y
        · exact x_rn y
      · rw [(a2 846 7 (by unfold la_W; omega)).1, (g1 846 7 (by omega)).1]
      · rw [(a2 846 8 (by unfold la_W; omega)).1, (g1 846 8 (by omega)).1]
      · rw [(a3 959 _ (by unfold rn_W; omega)).1]; exact d5
      · rw [(a3 960 _ (by unfold rn_W; omega)).1]; exact d6
    · exact absurd trivial hc
  -- none
  have noneS : t_h2 ((k_X6_readOne_144 (R_X6_readBase (k + 9)) xd (nI w) c).map Sum.inr) (k_X13_single_74 (R_X13_base (j + 5)) l1 l2 0 r) (h2_nx (b_X6_readOne_7 (R_X6_readBase (k + 9))) (b_X13_single_6 (R_X13_base (j + 5))) (fun x y => ∃ j, j < 3002 - v ∧ prI P E xd u q m t e p l w o s i dd c0 r0 j x y) (bO_R P E u q m t e p l w o s i dd c0 r0)) := by
    obtain ⟨a, b, e1, e2, Q⟩ := se_base hA hx hb hod hL H
    unfold k_X13_single_74 k_X13_single_86
    rw [if_pos rfl, if_pos rfl, e1]
    refine ⟨.inr a, .inl (l1, l2, 0, r), rfl, rfl, xl_go ⟨.inr b, ?_, b, rfl, Q⟩⟩
    show k_X13_single_6 (R_X13_base (j + 5)) l1 l2 0 r = _
    unfold k_X13_single_6
    rw [if_pos rfl, e2]
    rfl
  rcases Y.1.is (x := 45) (by decide) with ⟨a1, b1⟩ | ⟨a1, b1⟩
  · have b1 : f_X13_is 45 r = 1 := b1
    have a1 : c.1 1 8 = 45 := a1
    refine h2_ckL a1 (h2_noR (by rw [b1]; decide) ?_)
    rw [a1]
    exact plain 45 64 a1 (by decide) (by decide) (by decide) (by decide) (fun s => by
      unfold k_X6_readOne_65
      refine congrArg (Option.bind _) (funext fun r1 => congrArg (Option.bind _) (funext fun r2 => ?_))
      rw [if_pos rfl]
      rfl)
  have b1 : f_X13_is 45 r = 0 := b1
  refine h2_noL a1 (h2_ckR b1 ?_)
  rcases Y.1.is (x := 33) (by decide) with ⟨a2, b2⟩ | ⟨a2, b2⟩
  · have b2 : f_X13_is 33 r = 1 := b2
    have a2 : c.1 1 8 = 33 := a2
    refine h2_ckL a2 (h2_noR (by rw [b2]; decide) ?_)
    rw [a2]
    exact plain 33 65 a2 (by decide) (by decide) (by decide) (by decide) (fun s => by
      unfold k_X6_readOne_65
      refine congrArg (Option.bind _) (funext fun r1 => congrArg (Option.bind _) (funext fun r2 => ?_))
      rw [if_neg (by decide), if_pos rfl]
      rfl)
  have b2 : f_X13_is 33 r = 0 := b2
  refine h2_noL a2 (h2_ckR b2 ?_)
  rcases Y.1.is (x := 64) (by decide) with ⟨a3, b3⟩ | ⟨a3, b3⟩
  · have b3 : f_X13_is 64 r = 1 := b3
    have a3 : c.1 1 8 = 64 := a3
    have b4 : f_X13_isWord 30 r = 0 := by
      unfold f_X13_isWord
      rw [if_neg (by rw [(is_1 b3).1]; decide)]
    refine h2_ckL a3 (h2_ckR b4 (h2_noR (by rw [b3]; decide) ?_))
    rw [a3]
    have eC : k_X6_readOne_65 (R_X6_readBase (k + 9)) xd (nI w) (nI v) 64 c = (f_X6_node c).bind (fun r1 => (f_X2_advance r1).bind (fun r2 => (f_X6_takeFieldName r2).bind (fun r3 => (f_X6_pushWaiting (nI (67 - 54)) r3.1 r3.2).bind (fun r4 => k_X6_readOne_138 (R_X6_readBase (k + 9)) xd (nI w) (nI v) r4)))) := by
      unfold k_X6_readOne_65
      refine congrArg (Option.bind _) (funext fun r1 => congrArg (Option.bind _) (funext fun r2 => ?_))
      rw [if_neg (by decide), if_neg (by decide), if_neg (by decide)]
      rfl
    have eR : k_X13_single_74 (R_X13_base (j + 5)) l1 l2 67 r = (f_X13_node (nI 67) 1 r).bind (fun r1 => (f_X13_next r1.2).bind (fun r2 => if t_ix r1.1 13000 = true then t_let (t_setI r2 1003 (r1.1.toNatClampNeg) (r2.1 950 6)) (fun s1 => (f_X13_freeName s1).bind (fun r4 => t_let (t_setJ r4.2 957 (r1.1.toNatClampNeg) r4.1.toInt64) (fun s2 => (f_X13_next s2).bind (fun r5 => k_X13_single_138 (R_X13_base (j + 5)) l1 l2 1 r1.1 r5)))) else none)) := by
      unfold k_X13_single_74 k_X13_single_86
      rw [if_neg (by decide), if_neg (by decide)]
      refine congrArg (Option.bind _) (funext fun r1 => congrArg (Option.bind _) (funext fun r2 => ?_))
      rw [if_pos rfl]
    rw [eC, eR]
    refine h2_bb _ (xp_node (K := 67) Y (by decide) s) (fun c1 y hy => ?_)
    obtain ⟨y0, r1⟩ := y
    rcases hy with ⟨hq, g1, hm, y1, y2, y3, y4, X1⟩ | ⟨g1, f, p0, y1, y2, ⟨j', j1, j2, j3⟩, y4, y5⟩
    rotate_left
    · have j3 : y0 = nI j' := j3
      subst j3
      have hF : xF f p0 t e p l w o (w + v) c0 c1 := xF.of Y (by omega) (by omega) ⟨by omega, by omega⟩ ⟨Nat.le_refl _, Nat.le_refl _⟩ F1 g1 (fun b j z => x_la z) ⟨by unfold la_W; omega, by unfold la_W; omega, by unfold la_W; omega⟩ (fun j => by unfold la_W; omega) y1 H.xw
      have hR : xR P f p0 m s r0 r1 := y2.sub F2 (by omega) (Nat.le_refl _)
      refine flt (l2_eq hF.stay.1 (l2_eq hF.takeName (l2_bd _ (hF.push (by omega) _ _ (by decide)) (fun c2 h2 => l2_sm ⟨c2, rfl, h2⟩)))) (l2_bd _ hR.next (fun r2 h2 => l2_ck (l2_ix j2 (by decide)) (l2_lt ?_)))
      rw [nI_clamp (n := j') (by omega)]
      exact l2_bd _ ((h2.set (b := 1003) (Or.inr (Or.inl ⟨rfl, by omega⟩))).name) (fun y hy => l2_lt (l2_bd _ ((hy.setJ ⟨by decide, by decide, by omega⟩).next) (fun z hz => r138 j' z (by omega) j2 hz)))
    have y1 : y0 = nI (m + v) := y1
    subst y1
    rw [if_neg (by decide)] at X1
    have X1 : xp P E u1 0 1 (q + v + 1) (m + v + 1) t e p l (w + v) o s i dd c1 r1 := X1
    have y2 : l2_fr (xn_W (m + v)) r r1 := y2
    have y3 : nd_at r1 (m + v) (nI 67) (r.1 950 6) := y3
    obtain ⟨d1, d2, d3, d4, d5, d6, d7⟩ := y3
    have k8 : c1.1 1 8 = 64 := by rw [(g1 1 8 (by omega)).1]; exact a3
    have fc1 : l2_fr (xWc t e p l w o) c0 c1 := F1.trans (g1.mono (fun b j y => by obtain ⟨rfl, rfl⟩ := y; exact xWc.i845 (by decide)))
    have fr1 : l2_fr (xWr m s) r0 r1 := F2.trans (y2.mono (fun b j y => (xn_r y).sub (by omega) (Nat.le_refl _)))
    have xw1 : xw e w (w + v) c1 := fun i h1 h2 h3 => by
      rw [(g1 854 _ (by omega)).1] at h3
      obtain ⟨j, z⟩ := H.xw i h1 h2 h3
      exact ⟨j, by rw [(g1 854 _ (by omega)).1]; exact z⟩
    refine h2_bb _ (xp_adv X1 (by decide) (Or.inr (by rw [k8]; decide)) (by rw [k8]; decide)) (fun c2 r2 hw => ?_)
    obtain ⟨a2', a3', a4⟩ := hw
    show t_h2 _ (if t_ix (nI (m + v)) 13000 = true then _ else _) _
    rw [if_pos (l2_ix (by omega) (by decide)), nI_clamp (n := m + v) (by omega)]
    have eN : (t_let (t_setI r2 1003 (m + v) (r2.1 950 6)) (fun s1 => (f_X13_freeName s1).bind (fun r4 => t_let (t_setJ r4.2 957 (m + v) r4.1.toInt64) (fun s2 => (f_X13_next s2).bind (fun r5 => k_X13_single_138 (R_X13_base (j + 5)) l1 l2 1 (nI (m + v)) r5)))) : Option ((Int32 × Int32 × Int32 × t_S) ⊕ (Int32 × t_S))) = (fnR (m + v) r2).bind (fun r5 => k_X13_single_138 (R_X13_base (j + 5)) l1 l2 1 (nI (m + v)) r5) := by
      unfold fnR
      rw [Option.bind_assoc]
      rfl
    rw [eN]
    rcases a4 with ⟨X2, z1, z2⟩ | a4
    rotate_left
    · obtain ⟨f, p0, q1, q2⟩ := xf.of (o0 := o) (m0 := m) (s0 := s) X1 (by decide) (by omega) (by omega) ⟨by omega, by omega⟩ ⟨Nat.le_refl _, Nat.le_refl _, by omega, Nat.le_refl _⟩ fc1 fr1 a2' a3' a4 xw1
      refine flt (l2_eq q1.takeName (l2_bd _ (q1.push (by omega) _ _ (by decide)) (fun c2 h2 => l2_sm ⟨c2, rfl, h2⟩))) (l2_bd (fun r => xR P f p0 m s r0 r) ?_ (fun r5 h5 => r138 (m + v) r5 (by omega) (by omega) h5))
      unfold fnR
      exact l2_bd _ ((q2.set (b := 1003) (Or.inr (Or.inl ⟨rfl, by omega⟩))).name) (fun y hy => (hy.setJ ⟨by decide, by decide, by omega⟩).next)
    have X2 : xp P E (u1 + 1) 0 0 (q + v + 1) (m + v + 1) t e p l (w + v) o s i dd c2 r2 := X2
    have cle1 := X2.1.cle
    refine h2_bb _ (fn_take (n := m + v) X2 (by decide)) (fun y r4 hw => ?_)
    obtain ⟨y0, c4⟩ := y
    obtain ⟨b1', b2', b3'⟩ := hw
    have b1' : l2_fr fn_C c2 c4 := b1'
    have fc2 : l2_fr (xWc t e p l w o) c0 c2 := fc1.trans (a2'.mono (fun b j y => x_la y))
    have fr2 : l2_fr (xWr m s) r0 r2 := fr1.trans (a3'.mono (fun b j y => x_rn y))
    rcases b3' with ⟨x, x1, x2, X4, x3, x4, x5, x6, x7⟩ | b3'
    rotate_left
    · have xw2 : xw e w (w + v) c2 := fun i h1 h2 h3 => by
        rw [(a2' 854 _ (by unfold la_W; omega)).1] at h3
        obtain ⟨j, z⟩ := xw1 i h1 h2 h3
        exact ⟨j, by rw [(a2' 854 _ (by unfold la_W; omega)).1]; exact z⟩
      obtain ⟨f, p0, q1, q2⟩ := xf.ofW (o0 := o) (m0 := m) (s0 := s) X2 (by decide) (by omega) (by omega) ⟨by omega, by omega⟩ ⟨Nat.le_refl _, Nat.le_refl _, by omega⟩ fc2 fr2 b1' b2' (fun b j y => fn_Cx y) (fun b j y => fn_Wx y (by omega)) ⟨by unfold fn_C la_W; omega, by unfold fn_C la_W; omega, by unfold fn_C la_W; omega⟩ (fun j => by unfold fn_C la_W; omega) (by unfold fn_W rn_W nm_W; omega) b3' xw2
      exact flt (l2_bd _ (q1.push (by omega) _ _ (by decide)) (fun c2 h2 => l2_sm ⟨c2, rfl, h2⟩)) (r138 (m + v) r4 (by omega) (by omega) q2)
    have x2 : y0 = nI (66 + x) := x2
    subst x2
    have X4 : xp P E (u1 + 1 + 1) 0 0 (q + v + 1) (m + v + 1) t e p l (w + v) o s i dd c4 r4 := X4
    have rr : ∀ b, b = 955 ∨ b = 959 ∨ b = 960 → r4.1 b (m + v) = r1.1 b (m + v) := fun b y => by rw [(b2' b _ (by unfold fn_W rn_W nm_W; omega)).1, (a3' b _ (by unfold rn_W; omega)).1]
    have r5 : r4.1 955 (m + v) = nI 67 := by rw [rr 955 (by decide)]; exact d1
    refine pr_add hb hL H X4 (by omega) (by omega) (by omega) (((g1.mono (fun b j y => Or.inl y)).trans (a2'.mono (fun b j y => Or.inr (Or.inl y)))).trans (b1'.mono (fun b j y => Or.inr y))) (((y2.mono (fun b j y => Or.inl y)).trans (a3'.mono (fun b j y => Or.inr (Or.inl y)))).trans (b2'.mono (fun b j y => Or.inr y))) (fun b j y => ?_) (fun b j y => ?_) (xD.mk1 (K := 67) (T := fun p => E.2.2.2.2.1 ≤ 66 + x ∧ p = pc_p P (u1 + 1)) r5 (by decide) ⟨67, by decide, by decide, r5, fun z => absurd z (by decide), fun z => absurd z (by decide), fun z => by omega, fun z => absurd z (by decide)⟩ (fun a y1 y2 => by omega) (lt_N.name r5 (by decide) x3 x4 x1 cle1.2.2.2) (fun S hS => ?_) (fun z => by omega)) r5 (by rw [rr 959 (by decide)]; exact d5) (by rw [rr 960 (by decide)]; exact d6) (Or.inr ⟨rfl, by omega, by omega, by rw [show 66 + x - 66 = x by omega]; exact x4⟩)
    · rcases y with ⟨rfl, rfl⟩ | y
      · exact ⟨xWc.i845 (by decide), by decide⟩
      · exact ⟨fn_Cx y, by unfold la_W at y; omega⟩
    · rcases y with y | y
      · exact xn_r y
      · exact fn_Wx y (Nat.le_refl _)
    · exact x5 S (hS.same (by rw [(a2' 846 7 (by unfold la_W; omega)).1, (g1 846 7 (by omega)).1]) (by rw [(a2' 846 8 (by unfold la_W; omega)).1, (g1 846 8 (by omega)).1]))
  have b3 : f_X13_is 64 r = 0 := b3
  refine h2_noL a3 ?_
  rcases Y.1.isW (x := 30) (by decide) with ⟨a4, b4⟩ | ⟨a4, b4⟩
  · have b4 : f_X13_isWord 30 r = 1 := b4
    have a4 : c.1 1 8 = 230 := a4
    refine h2_ckL a4 (h2_noR (by rw [b4]; decide) ?_)
    rw [a4]
    exact plain 230 66 a4 (by decide) (by decide) (by decide) (by decide) (fun s => by
      unfold k_X6_readOne_65
      refine congrArg (Option.bind _) (funext fun r1 => congrArg (Option.bind _) (funext fun r2 => ?_))
      rw [if_neg (by decide), if_neg (by decide), if_pos rfl]
      rfl)
  · have b4 : f_X13_isWord 30 r = 0 := b4
    exact h2_noL a4 (h2_ckR b4 (h2_ckR b3 noneS))
/-- readOne and single -/
theorem se_one (hA : hA_R (k + 6) (j + 3) dd) (hx : xd + 1 = nI dd) (hb : xb P EB PB IB u q t e p l w o s i dd) (hod : o + 16 ≤ 16 * dd) (X : xp P E u 0 0 q m t e p l w o s i dd c r) : t_h2 (m_X6_readOne (R_X6_readBase (k + 9)) xd c) (m_X13_single (R_X13_base (j + 5)) r) (bO_R P E u q m t e p l w o s i dd c r) := by
  have e7 : c.1 845 7 = nI w := X.2.2.2.2.2.2.1
  unfold m_X6_readOne m_X13_single
  rw [e7]
  exact h2_lpN (fun n x y => prI P E xd u q m t e p l w o s i dd c r n x y) (pr_turn hA hx hb hod) (k := 3002) (by decide) ⟨0, c, r, -1, -1, by decide, rfl, rfl, rfl, Or.inl ⟨by decide, Or.inl ⟨rfl, rfl, rfl⟩, fun _ => 0, fun _ => 0, u, X, Nat.le_refl _, Nat.le_refl _, Nat.le_refl _, l2_fr.rf, l2_fr.rf, xD.nil rfl rfl, fun j hj => by omega⟩⟩
end
