/-! Level 2: simple statements, kind by kind: CALL, USUAL, CREATE, START. -/
section
variable {P : pc_S} {nt : Nat → Nat} {f n n' n2 n3 Y a g f2 p0 ln so K V : Nat} {L L' v : Nat → Nat} {ka : Int32} {k k0 k1 k2 k' : Nat → Nat} {c0 r0 c r c1 r1 c2 r2 c' r' : t_S} {A B A' B' : Nat → Prop}
theorem rp_6 (hl : ln < 400) (c : t_S) : f_X6_readPlain (nI ln) 6 c = (f_X6_readCall (nI ln) (nI 9) c).bind (fun x => (f_X6_readInto (nI ln) x).bind (fun y => some y)) := by
  unfold f_X6_readPlain
  rw [if_pos (l2_ix hl (by decide)), if_neg (by decide), if_neg (by decide), if_neg (by decide), if_neg (by decide), if_neg (by decide), if_neg (by decide), if_pos (by decide)]
  rfl
theorem sp_41 (hl : ln < 400) (r : t_S) : f_X13_simple (nI ln) 41 r = t_let (t_setI r 988 ln (nI 6)) (fun s => (f_X13_callOf (nI ln) s).bind (fun y => t_let (t_setI y.2 995 ln y.1) (it_R ln))) := by
  unfold f_X13_simple
  rw [if_neg (by decide), if_neg (by decide), if_pos (by decide), if_pos (l2_ix (by omega) (by decide)), nI_clamp (n := ln) (by omega)]
  rfl
theorem ro_20 (hl : ln < 400) (c : t_S) : f_X6_readOfComponents (nI ln) 20 c = (f_X6_readCall (nI ln) (nI 10) c).bind (fun x => some x) := by
  unfold f_X6_readOfComponents
  rw [if_pos (l2_ix hl (by decide)), if_pos (by decide)]
  rfl
theorem sp_59 (hl : ln < 400) (r : t_S) : f_X13_simple (nI ln) 59 r = t_let (t_setI r 988 ln (nI 18)) (fun s => (f_X13_callOf (nI ln) s).bind (fun y => t_let (t_setI y.2 995 ln y.1) (fun s => some s))) := by
  rw [sp_m (by decide)]
  unfold f_X13_simpleMore
  rw [if_neg (by decide), if_neg (by decide), if_neg (by decide), if_neg (by decide), if_neg (by decide), if_neg (by decide), if_neg (by decide), if_neg (by decide), if_neg (by decide), if_pos (l2_ix (by omega) (by decide)), nI_clamp (n := ln) (by omega)]
  rfl
theorem sI.call (h : sI P nt f n2 n3 Y n L v ka a g ln 0 k c r c0 r0) : t_h2 (f_X6_readPlain (nI ln) 6 c) (f_X13_simple (nI ln) 41 r) (sO P nt f n2 n3 Y n v ka a g ln 6 6 k c r c0 r0) := by
  rw [rp_6 h.2.2.2.1, sp_41 h.2.2.2.1]
  refine h.kind (by decide) (fun r1 h1 _ => ?_)
  obtain ⟨S, h32, hV, hl, hf, gc, gr', o, sl, hK⟩ := id h1
  refine fs_call (so := 9) S h32 hV hl gc gr' (by omega) (Or.inl o.1) (fun k' c1 c' r' w na hi X pl S1 h321 k9 k0 sn1 c5 r95 pc q1 hc hk1 hk2 wx => ?_) (fun f2 p0 c' r' z y => ?_)
  rotate_left
  · rw [z.into, l2_bs]
    exact h2_doneL (l2_imp (y.itR hl) (fun x hx => Or.inr ⟨f2, p0, z, hx.toR⟩))
  rw [← bd_some (it_R ln r')]
  refine fs_into S1 hV hl ((sn1 0).mc gc) ((sn1 0).mr gr') (by rw [(sn1 0).2.2.2.1 7 (by decide) (by decide)]; exact o.2.1) (by rw [(sn1 0).2.2.2.2.1 993 (by decide) (by decide) (by decide)]; exact o.2.2.2.2.1) (fun k2 c2 r2 S2 k9' k0' k8 k2e sn2 q2 inn wx2 e32 _ => h2_sm (Or.inl ?_)) (fun f2 p0 c' r' z y => h2_sm (Or.inr ⟨f2, p0, z, y.toR⟩))
  have q := (sn1 n3).trans (sn2 n3)
  obtain ⟨e1, e2, e3, e4⟩ := h1.row q (fun x y => by have y : (x = 991 ∨ x = 992 ∨ x = 995) ∨ x = 993 ∨ x = 994 := y; omega)
  have o2 := (sn2 0).1
  have o1 := (sn1 0).1
  obtain ⟨m1, wl⟩ := cl_mB ((pc n3 hf).1 ln) q1 hc ⟨hk1, hk2, o1.2.2.2.2.2.2.2.2.1, o1.2.2.1⟩ wx (sn2 n3) (fun x y => by omega) S.2.2.2.1 ⟨by decide, by decide, by decide⟩ ⟨e1, e2, e3⟩ (by unfold sl_ok; omega) e4
  have m2 : mB False n2 n3 c' c2 r2 (k' 6) (k2 6) (k' 8) (k' 8) (k' 2) (k' 2) ln (ln + 1) := in_mB q2 wx2 S.2.2.2.1 ⟨by decide, by decide⟩ ⟨e1, e2, e3⟩ (by unfold sl_ok; omega) e4
  have m := m1.same m2 ⟨o1.2.2.2.2.2.2.1, o2.2.2.2.2.2.2.1, o1.2.2.2.2.2.2.2.2.1, Nat.le_refl _, o1.2.2.1, Nat.le_refl _⟩ (sf_mL (sn2 0).2.1)
  rw [← k8, ← k2e] at m
  have cc5 : c'.1 (445 + ln) 5 = nI (k 4) := c5.elim (fun y => y.2) (fun y => absurd o.1 y.1)
  refine h1.fin S2 (Nat.le_refl _) (k9'.trans k9) (by omega) q (fun j y => by have y : j = 5 ∨ j = 7 := y; unfold sA; omega) (fun x y => by have y : (x = 991 ∨ x = 992 ∨ x = 995) ∨ x = 993 ∨ x = 994 := y; unfold sE; omega) m ?_
  refine Or.inr (Or.inr (Or.inr (Or.inr (Or.inl ⟨rfl, rfl, rfl, ⟨w, k 4, hi, na, ?_, ?_, ?_, wl (k2 6) o2.2.2.2.2.2.2.1⟩, inn⟩))))
  · rw [(sn2 0).2.2.2.2.1 995 (by decide) (by decide) (by decide)]; exact r95
  · rw [(sn2 0).2.2.2.1 5 (by decide) (by decide)]; exact cc5
  · exact ((pc n3 hf).2).fr (sn2 n3).2.1 (sn2 n3).2.2.1 sf_cp sf_cr (sn2 n3).2.2.2.2.2 (Nat.le_refl _) (Nat.le_refl _) ⟨o2.2.2.2.1, o2.2.2.2.2.1, o2.2.2.2.2.2.1, o2.2.2.2.2.2.2.1, o2.2.2.2.2.2.2.2.1, o2.2.2.1⟩
theorem sI.usual (h : sI P nt f n2 n3 Y n L v ka a g ln 0 k c r c0 r0) : t_h2 (f_X6_readOfComponents (nI ln) 20 c) (f_X13_simple (nI ln) 59 r) (sO P nt f n2 n3 Y n v ka a g ln 20 18 k c r c0 r0) := by
  rw [ro_20 h.2.2.2.1, sp_59 h.2.2.2.1]
  refine h.kind (by decide) (fun r1 h1 _ => ?_)
  obtain ⟨S, h32, hV, hl, hf, gc, gr', o, sl, hK⟩ := id h1
  refine fs_call (so := 10) S h32 hV hl gc gr' (by omega) (Or.inl o.1) (fun k' c1 c' r' w na hi X pl S1 h321 k9 k0 sn1 c5 r95 pc q1 hc hk1 hk2 wx => h2_sm (Or.inl ?_)) (fun f2 p0 c' r' z y => h2_sm (Or.inr ⟨f2, p0, z, y.toR⟩))
  obtain ⟨e1, e2, e3, e4⟩ := h1.row (sn1 n3) (fun x y => by omega)
  have o1 := (sn1 0).1
  obtain ⟨m, wl⟩ := cl_mB ((pc n3 hf).1 ln) q1 hc ⟨hk1, hk2, o1.2.2.2.2.2.2.2.2.1, o1.2.2.1⟩ wx (sn.rf (f := f) (n := n) (A := fun _ => False) (B := fun _ => False)) (fun x y => y.elim) S.2.2.2.1 ⟨by decide, by decide, by decide⟩ ⟨e1, e2, e3⟩ (by unfold sl_ok; omega) e4
  have cc5 : c'.1 (445 + ln) 5 = nI (k 4) := c5.elim (fun y => y.2) (fun y => absurd o.1 y.1)
  refine h1.fin S1 (Nat.le_refl _) k9 (Nat.le_of_lt k0) (sn1 n3) (fun j y => by unfold sA; omega) (fun x y => by unfold sE; omega) m ?_
  exact Or.inr (Or.inr (Or.inr (Or.inr (Or.inr (Or.inr (Or.inr (Or.inr (Or.inr (Or.inr (Or.inr (Or.inr (Or.inr (Or.inl ⟨Or.inl ⟨rfl, rfl, rfl⟩, w, k 4, hi, na, r95, cc5, (pc n3 hf).2, wl (k' 6) (Nat.le_refl _)⟩)))))))))))))
theorem ro_16 (hl : ln < 400) (c : t_S) : f_X6_readOfComponents (nI ln) 16 c = (f_X6_link (nI 4) (nI ln) 0 c).bind (fun r3 => if r3.1 1 8 = 242 then (f_X6_readInto (nI ln) r3).bind (fun x => some x) else (f_X2_fail 2 r3).bind (fun r4 => (f_X6_readInto (nI ln) r4).bind (fun x => some x))) := by
  unfold f_X6_readOfComponents
  rw [if_pos (l2_ix hl (by decide)), if_neg (by decide), if_pos (by decide)]
  rfl
theorem sp_52 (hl : ln < 400) (r : t_S) : f_X13_simple (nI ln) 52 r = t_let (t_setI r 988 ln (nI 14)) (fun s => (f_X13_wordOf (nI ln) s).bind (fun r5 => (f_X13_mustWord 42 r5).bind (fun r6 => (f_X13_into (nI ln) r6).bind (fun r7 => some r7)))) := by
  rw [sp_m (by decide)]
  unfold f_X13_simpleMore
  rw [if_neg (by decide), if_neg (by decide), if_pos (by decide), if_pos (l2_ix (by omega) (by decide)), nI_clamp (n := ln) (by omega)]
  rfl
theorem yS.mwi (h : yS P f f2 p0 r0 r) (hl : ln < 400) : t_hk ((f_X13_mustWord 42 r).bind (fun r6 => (f_X13_into (nI ln) r6).bind (fun r7 => some r7))) (yS P f f2 p0 r0) := l2_bd _ (h.mustWord 42) (fun x hx => by
  rw [fw_W1 hl]
  exact l2_bd _ (hx.word (side := 1) (by decide)) (fun y hy => l2_sm hy))
theorem sI.create (h : sI P nt f n2 n3 Y n L v ka a g ln 0 k c r c0 r0) : t_h2 (f_X6_readOfComponents (nI ln) 16 c) (f_X13_simple (nI ln) 52 r) (sO P nt f n2 n3 Y n v ka a g ln 16 14 k c r c0 r0) := by
  rw [ro_16 h.2.2.2.1, sp_52 h.2.2.2.1]
  refine h.kind (by decide) (fun r1 h1 _ => ?_)
  obtain ⟨S, h32, hV, hl, hf, gc, gr', o, sl, hK⟩ := id h1
  refine h1.word (wo := 4) (by unfold sl_ok; omega) (by decide) (fun c1 r2 S1 h321 sn1 rest => ?_) (fun f2 p0 c' r' z y => ?_)
  rotate_left
  · rw [if_neg (z.1.no (by decide)), z.1.fail, l2_bs, z.into, l2_bs]
    exact h2_doneL (l2_imp (y.mwi hl) (fun x hx => Or.inr ⟨f2, p0, z, hx.toR⟩))
  rcases S1.1.1.isW (x := 42) (by decide) with ⟨x1, x2⟩ | ⟨x1, x2⟩
  · have x1 : c1.1 1 8 = 242 := x1
    have x2 : f_X13_isWord 42 r2 = 1 := x2
    rw [if_pos x1]
    have e : (f_X13_mustWord 42 r2).bind (fun r6 => (f_X13_into (nI ln) r6).bind (fun r7 => some r7)) = (it_R ln r2).bind (fun x => some x) := by
      unfold f_X13_mustWord it_R k_X13_mustWord_17
      rw [if_neg (by rw [x2]; decide), if_neg (by rw [x2]; decide), bd_some, bd_some]
    rw [e]
    refine fs_into S1 hV hl (sn1.mc gc) (sn1.mr gr') (by rw [sn1.2.2.2.1 7 (by decide) (fun y => y)]; exact o.2.1) (by rw [sn1.2.2.2.2.1 993 (by decide) (by decide) (by decide)]; exact o.2.2.2.2.1) (fun k2 c2 r3 S2 k9' k0' k8 k2e sn2 q2 inn wx2 e32 vr => h2_sm (Or.inl ?_)) (fun f2 p0 c' r' z y => h2_sm (Or.inr ⟨f2, p0, z, y.toR⟩))
    have q := sn1.trans (sn2 n3)
    obtain ⟨e1, e2, e3, e4⟩ := h1.row q (fun x y => by have y : (x = 991 ∨ x = 992) ∨ x = 993 ∨ x = 994 := y; omega)
    have o2 := (sn2 0).1
    obtain ⟨m1, hc, wl, _⟩ := rest _ _ _ _ _ (sn2 n3) (fun x y => by omega)
    have m2 : mB False n2 n3 c1 c2 r3 (lx k 6) (k2 6) (k 8) (k 8) (k 2) (k 2) ln (ln + 1) := in_mB q2 wx2 S.2.2.2.1 ⟨by decide, by decide⟩ ⟨e1, e2, e3⟩ (by unfold sl_ok; omega) e4
    have m := m1.same m2 ⟨Nat.le_succ _, o2.2.2.2.2.2.2.1, Nat.le_refl _, Nat.le_refl _, Nat.le_refl _, Nat.le_refl _⟩ hc
    have k8 : k2 8 = k 8 := k8
    have k2e : k2 2 = k 2 := k2e
    have k0' : k 0 + 1 ≤ k2 0 := k0'
    refine h1.fin S2 (Nat.le_refl _) k9' (by omega) q (fun j y => y.elim False.elim (fun z => by have z : j = 7 := z; unfold sA; omega)) (fun x y => by have y : (x = 991 ∨ x = 992) ∨ x = 993 ∨ x = 994 := y; unfold sE; omega) (by rw [k8, k2e]; exact m) ?_
    exact Or.inr (Or.inr (Or.inr (Or.inr (Or.inr (Or.inr (Or.inr (Or.inr (Or.inr (Or.inr (Or.inl ⟨rfl, rfl, rfl, wl (k2 6) o2.2.2.2.2.2.2.1, vr x1⟩))))))))))
  · have x1 : ¬ c1.1 1 8 = 242 := x1
    have x2 : f_X13_isWord 42 r2 = 0 := x2
    rw [if_neg x1]
    unfold f_X13_mustWord
    rw [if_pos x2]
    simp only [Option.bind_assoc]
    refine h2_bb _ (pj_fail S1.1.1 (by decide) (f := 2) (by decide)) (fun c' r' hw => ?_)
    obtain ⟨y1, y2, f2, p0, y3, y4⟩ := hw
    have z := S1.z y3 y1 (sn1.mc gc)
    have y := S1.y y4 y2 (sn1.mr gr')
    rw [z.into, l2_bs]
    unfold k_X13_mustWord_17
    simp only [Option.bind_assoc, l2_bs]
    refine h2_doneL (l2_bd _ y.next (fun x hx => ?_))
    rw [fw_W1 hl, bd_some]
    exact l2_imp (hx.word (side := 1) (by decide)) (fun y hy => Or.inr ⟨f2, p0, z, hy.toR⟩)
theorem ro_17 (hl : ln < 400) (c : t_S) : f_X6_readOfComponents (nI ln) 17 c = t_let (t_setI c (445 + ln) 5 (c.1 334 2)) (fun s => (f_X6_readExp 0 s).bind (fun y => (f_X2_need (nI 254) y.2).bind (fun x => (f_X6_readCall (nI ln) (nI 11) x).bind (fun z => some z)))) := by
  unfold f_X6_readOfComponents
  rw [if_pos (l2_ix hl (by decide)), if_neg (by decide), if_neg (by decide), if_pos (by decide), nI_clamp (n := ln) (by omega)]
  simp only [Nat.one_mul]
  rfl
theorem sp_54 (hl : ln < 400) (r : t_S) : f_X13_simple (nI ln) 54 r = t_let (t_setI r 988 ln (nI 15)) (fun s => (f_X13_exp s).bind (fun y => t_let (t_setI y.2 996 ln y.1) (fun s2 => (f_X13_mustWord 53 s2).bind (fun x => (f_X13_callOf (nI ln) x).bind (fun y => t_let (t_setI y.2 995 ln y.1) (fun s => some s)))))) := by
  rw [sp_m (by decide)]
  unfold f_X13_simpleMore
  rw [if_neg (by decide), if_neg (by decide), if_neg (by decide), if_neg (by decide), if_pos (by decide), if_pos (l2_ix (by omega) (by decide)), nI_clamp (n := ln) (by omega)]
  rfl
theorem yS.cl (h : yS P f f2 p0 r0 r) (hl : ln < 400) : t_hk ((f_X13_callOf (nI ln) r).bind (fun y => t_let (t_setI y.2 995 ln y.1) (fun s => some s))) (yS P f f2 p0 r0) := l2_bd _ (h.callOf hl) (fun x hx => l2_lt (l2_sm (hx.set (by unfold mo_Wr; omega) (by omega))))
/-- what an exp brings, seen from later -/
theorem mB.at {l0 i0 m0 : Nat} (h : mB False n2 n3 c0 c1 r1 l0 (k 6) i0 (k 8) m0 (k 2) ln ln) (s : sn n2 n3 f n ln A B k c r1 k' c' r2) : mB False n2 n3 c0 c1 r2 l0 (k 6) i0 (k 8) m0 (k 2) ln ln := by
  have nf : l2_fr (fun _ _ => False) c1 c1 := l2_fr.rf
  exact mB.cap h nf s.2.2.1 (t := 0) (e := 0) (p := 0) (s := k 7) (fun _ _ y => y.elim) sf_cr ⟨fun y => y, fun y => y⟩ (fun _ y => y) (fun b j _ _ _ y1 y2 => by omega) s.2.2.2.2.2 (Nat.le_refl _) (Nat.le_refl _)
theorem sI.start (h : sI P nt f n2 n3 Y n L v ka a g ln 0 k c r c0 r0) : t_h2 (f_X6_readOfComponents (nI ln) 17 c) (f_X13_simple (nI ln) 54 r) (sO P nt f n2 n3 Y n v ka a g ln 17 15 k c r c0 r0) := by
  rw [ro_17 h.2.2.2.1, sp_54 h.2.2.2.1]
  refine h.kind (by decide) (fun r1 h1 _ => h2_lL ?_)
  obtain ⟨S, h32, hV, hl, hf, gc, gr', o, sl, hK⟩ := id h1
  have e4 : c.1 334 2 = nI (k 4) := S.1.2.2.1.2.2.2.1
  have b4 : k 4 ≤ 2 * k 1 + 2 * k 9 := S.1.2.2.2.2.2.2.2.2.2.1
  have q1b : k 1 ≤ 3000 := (S.1.1.mle (by decide)).2.2.1
  have s9b : k 9 ≤ 400 := S.1.2.2.2.2.2.2.2.2.2.2.2.2.2
  rw [e4]
  have f1 : l2_fr (fun b j => b = 445 + ln ∧ j = 5) c (t_setI c (445 + ln) 5 (nI (k 4))) := l2_fr.set ⟨rfl, rfl⟩
  have v1 : (t_setI c (445 + ln) 5 (nI (k 4))).1 (445 + ln) 5 = nI (k 4) := by simp only [l2_gI, reduceIte]
  generalize t_setI c (445 + ln) 5 (nI (k 4)) = c2 at *
  obtain ⟨S2, sn2, q2⟩ := S.cell (A := fun j => j = 5) (B := fun _ => False) hl (f1.mono (fun b j y => ⟨y.1, by omega⟩)) (l2_fr.rf (s := r1)) (fun j _ y => (f1 _ j (fun z => y z.2)).1) (fun _ _ _ _ => rfl)
  have tail : ∀ f2 p0 c' r', zS f f2 p0 c0 c' → yS P f f2 p0 r0 r' → t_h2 ((f_X6_readCall (nI ln) (nI 11) c').bind (fun z => some z)) ((f_X13_callOf (nI ln) r').bind (fun y => t_let (t_setI y.2 995 ln y.1) (fun s => some s))) (sO P nt f n2 n3 Y n v ka a g ln 17 15 k c r1 c0 r0) := fun f2 p0 c' r' z y => by
    obtain ⟨c3, e3, z3⟩ := z.call hl (nI 11)
    rw [e3, l2_bs]
    exact h2_doneL (l2_imp (y.cl hl) (fun x hx => Or.inr ⟨f2, p0, z3, hx.toR⟩))
  refine fs_exp0 (F := fun s => (f_X2_need (nI 254) s).bind fun x => (f_X6_readCall (nI ln) (nI 11) x).bind fun z => some z) (x := 996) S2 h32 hV hl (by decide) ((sn2 0).mc gc) gr' (fun k1 c3 r3 nd S3 h323 k9 k0 slk sn3 r96 pc => ?_) (fun f2 p0 c' r' z y => ?_)
  rotate_left
  · rw [z.1.need (by decide), l2_bs]
    obtain ⟨r4, e4, y4⟩ := y.mw 53
    rw [e4, l2_bs]
    exact tail f2 p0 c' r4 z y4
  have sn03 := (sn2 0).trans (sn3 0)
  refine fs_needW (x := 54) (s := 53) S3 hl (by decide) (by decide) (sn03.mc gc) (sn03.mr gr') (fun c4 r4 S4 sn4 q4 y1 y2 => ?_) tail
  have sn04 := sn03.trans (sn4 0 (fun _ => False) (fun _ => False))
  have c45 : c4.1 (445 + ln) 5 = nI (k 4) := by rw [(y1 _ 5 (by unfold la_W; omega)).1, (sn3 0).2.2.2.1 5 (by decide) (fun y => y)]; exact v1
  refine fs_call (so := 11) S4 (by rw [(y2 950 32 (by unfold rn_W; omega)).1]; exact h323) hV hl (sn04.mc gc) (sn04.mr gr') (show k1 4 + 1 ≤ 2 * k1 1 + 2 * k1 9 from slk 1 (by omega)) (Or.inr ⟨k 4, by omega, c45⟩) (fun k' c5 c' r' w na hi X pl S5 h325 k9' k0' sn5 c55 r95 pc5 q5 hc hk1 hk2 wx => h2_sm (Or.inl ?_)) (fun f2 p0 c' r' z y => h2_sm (Or.inr ⟨f2, p0, z, y.toR⟩))
  have sn45 : sn n2 n3 f n ln (fun j => j = 5) (fun x => x = 991 ∨ x = 992 ∨ x = 995) k1 c3 r3 k' c' r' := ((sn4 n3 (fun _ => False) (fun _ => False)).trans (sn5 n3)).mono (fun j y => y.elim False.elim id) (fun x y => y.elim False.elim id)
  have q : sn n2 n3 f n ln (fun j => j = 5) (fun x => x = 991 ∨ x = 992 ∨ x = 995 ∨ x = 996) k c r1 k' c' r' := (((sn2 n3).trans (sn3 n3)).trans sn45).mono (fun j y => y.elim (fun y => y.elim id False.elim) id) (fun x y => by
    rcases y with (y | y) | y
    · exact y.elim
    · have y : x = 996 := y
      omega
    · have y : x = 991 ∨ x = 992 ∨ x = 995 := y
      omega)
  obtain ⟨e1, e2, e3, e4'⟩ := h1.row q (fun x y => by omega)
  have o5 := (sn5 0).1
  have o45 := sn45.1
  have o3 := (sn3 0).1
  obtain ⟨m5, wl⟩ := cl_mB ((pc5 n3 hf).1 ln) q5 hc ⟨hk1, hk2, o5.2.2.2.2.2.2.2.2.1, o5.2.2.1⟩ wx (sn.rf (f := f) (n := n) (A := fun _ => False) (B := fun _ => False)) (fun x y => y.elim) S.2.2.2.1 ⟨by decide, by decide, by decide⟩ ⟨e1, e2, e3⟩ (by unfold sl_ok; omega) e4'
  have m3 := ((((pc n3 hf).1 ln).at sn45).base q2.1 q2.2.1 q2.2.2).wide e4'
  have m := m3.same (m5.base q4.1 q4.2.1 q4.2.2) ⟨o3.2.2.2.2.2.2.1, o45.2.2.2.2.2.2.1, o3.2.2.2.2.2.2.2.2.1, o45.2.2.2.2.2.2.2.2.1, o3.2.2.1, o45.2.2.1⟩ (sf_mL sn45.2.1)
  have cc5 : c'.1 (445 + ln) 5 = nI (k 4) := c55.elim (fun y => absurd (show nI (k 4) < 0 by rw [← c45, y.1]; decide) (nI_pos (by omega))) (fun y => y.2.trans c45)
  have k00 : k1 0 + 1 < k' 0 := k0'
  refine h1.fin S5 (Nat.le_refl _) (k9'.trans k9) (by omega) q (fun j y => by unfold sA; omega) (fun x y => by unfold sE; omega) m ?_
  refine Or.inr (Or.inr (Or.inr (Or.inr (Or.inr (Or.inr (Or.inr (Or.inr (Or.inr (Or.inr (Or.inr (Or.inl ⟨rfl, rfl, rfl, w, k 4, k1 4, hi, k 3, nd, na, ?_, r95, cc5, ?_, (pc5 n3 hf).2, wl (k' 6) (Nat.le_refl _)⟩)))))))))))
  · rw [sn45.2.2.2.2.1 996 (by decide) (by decide) (by decide)]; exact r96
  · exact ((pc n3 hf).2).fr sn45.2.1 sn45.2.2.1 sf_cp sf_cr sn45.2.2.2.2.2 (Nat.le_refl _) (Nat.le_refl _) ⟨o45.2.2.2.1, o45.2.2.2.2.1, o45.2.2.2.2.2.1, o45.2.2.2.2.2.2.1, o45.2.2.2.2.2.2.2.1, o45.2.2.1⟩
end
