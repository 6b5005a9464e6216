/-! Level 2: a branch: STEP, event, from its ] on. -/
section
variable {P : pc_S} {nt : Nat → Nat} {f n n' n2 n3 Y a g f2 p0 so K V d dd i ln : Nat} {L L' v : Nat → Nat} {ka up w3 w4 : Int32} {k k0 k' : Nat → Nat} {c0 r0 c r c1 r1 c' r' : t_S} {A B : Nat → Prop} {rcC : RT_X6_readAlts} {rcR : RT_X13_block}
theorem brS.event (h : brS P nt f n2 n3 Y n L v ka a g k0 up k c r c0 r0) (S0 : fs P nt f n2 Y n L ka a g k0 c0 r0) (h9 : k0 9 < 400) (hV : en_V n 1 L v) (hf : f < n3) (hu : up = -1 ∨ ∃ j, j < k0 9 ∧ up = nI j) (hG : bkG rcC rcR d) (hC : bkC rcC) (hR : bkR rcR) (t : c.1 1 8 = nI (200 + i)) (hi : i = 62 ∨ i = 64 ∨ i = 65) : t_h2 (brC2 rcC (nI d) (k0 9) c) (brR2 rcR (nI d) (k0 9) r) (so_O P nt f n2 n3 Y n L ka a g k0 c0 r0) := by
  obtain ⟨S, h32, sn0, m0, ⟨k9, k00, sl⟩, ⟨a0, a2, a3⟩, ⟨b0, b1, b2, b3, b4, b5, b6, b7, b8⟩, gd⟩ := h
  unfold brC2 brR2
  have J : eJ P nt f n2 n3 Y n L v ka a g (k0 9) 20 k c r c0 r0 := ⟨S, h32, hV, h9, hf, sn0.mc l2_fr.rf, sn0.mr l2_fr.rf, ⟨a3 5 (by decide) (by decide) (by decide), a3 7 (by decide) (by decide) (by decide), a3 10 (by decide) (by decide) (by decide), b0, b3, b4, b7⟩, sl, Or.inr rfl⟩
  refine h2_bb _ (J.event t hi) (fun x y hxy => ?_)
  have hE := cS.ev (n3 := n3) (v := v) (so := 0) (V := 0) (up := up) (Or.inr rfl) S0 sn0 m0 k9 (Nat.le_of_lt k00) (Or.inr ⟨a3 1 (by decide) (by decide) (by decide), a2, a3 3 (by decide) (by decide) (by decide), a3 4 (by decide) (by decide) (by decide), b0, b1, b2, b5, b6, b7, b8⟩) gd hxy
  rcases hE with ⟨so', V', k', hso, hV', h'⟩ | ⟨f2, p0, z, y⟩
  rotate_left
  · exact h2_sep _ _ (z.bs hC h9 (nI d)) (y.bs hR (nI d)) (fun _ _ z y => Or.inr ⟨f2, p0, z, y⟩)
  unfold bkC1 bkR1
  exact cS_bs (w := 0) h' (hG P nt f n2 n3 Y n L ka a g k' x y (nI (k0 9)) h'.1 hf (Or.inr ⟨k0 9, h'.2.1.2.1, rfl⟩)).1 (by decide) h9 (fun k' n'' L'' w3' w4' c' r' h' => h2_sm (h'.out S0 hV hf ⟨hso, by decide, hV'⟩ hu)) (fun f2 p0 c' r' z y => h2_sm (Or.inr ⟨f2, p0, z, y⟩))
theorem brS.step (h : brS P nt f n2 n3 Y n L v ka a g k0 up k c r c0 r0) (S0 : fs P nt f n2 Y n L ka a g k0 c0 r0) (h9 : k0 9 < 400) (hV : en_V n 1 L v) (hf : f < n3) (hu : up = -1 ∨ ∃ j, j < k0 9 ∧ up = nI j) : t_h2 (brC3 (k0 9) c) (brR3 (k0 9) r) (so_O P nt f n2 n3 Y n L ka a g k0 c0 r0) := by
  obtain ⟨S, h32, sn0, m0, ⟨k9, k00, sl⟩, ⟨a0, a2, a3⟩, ⟨b0, b1, b2, b3, b4, b5, b6, b7, b8⟩, gd⟩ := h
  unfold brC3 brR3
  refine h2_lL (h2_lR ?_)
  have fc : l2_fr (fun b j => b = 445 + k0 9 ∧ j = 0) c (t_setI c (445 + k0 9) 0 (nI 23)) := l2_fr.set ⟨rfl, rfl⟩
  have vc : (t_setI c (445 + k0 9) 0 (nI 23)).1 (445 + k0 9) 0 = nI 23 := by simp only [l2_gI, reduceIte]
  have fr : l2_fr (fun b j => b = 1000 ∧ j = k0 9) r (t_setI r 1000 (k0 9) (nI 3)) := l2_fr.set ⟨rfl, rfl⟩
  have vr : (t_setI r 1000 (k0 9) (nI 3)).1 1000 (k0 9) = nI 3 := by simp only [l2_gI, reduceIte]
  generalize t_setI c (445 + k0 9) 0 (nI 23) = c2 at *
  generalize t_setI r 1000 (k0 9) (nI 3) = r2 at *
  obtain ⟨S2, sn2, q2⟩ := S.cell (n2 := n2) (A := fun j => j = 0) (B := fun x => x = 1000) h9 (fc.mono (fun b j y => ⟨y.1, by omega⟩)) (fr.mono (fun b j y => Or.inl ⟨by omega, by omega, y.2⟩)) (fun j _ y => (fc _ j (fun z => y z.2)).1) (fun x _ _ y => (fr x _ (fun z => y z.1)).1)
  have cc2 : ∀ j, j ≠ 0 → c2.1 (445 + k0 9) j = c.1 (445 + k0 9) j := fun j y => (fc _ j (fun z => y z.2)).1
  have rr2 : ∀ x, x ≠ 1000 → r2.1 x (k0 9) = r.1 x (k0 9) := fun x y => (fr x _ (fun z => y z.1)).1
  have c25 : c2.1 (445 + k0 9) 5 = -1 := by rw [cc2 5 (by decide)]; exact a3 5 (by decide) (by decide) (by decide)
  have sn02 := sn0.trans (sn2 n3)
  refine fs_call (so := 10) S2 (by rw [(fr 950 32 (by omega)).1]; exact h32) hV h9 (sn02.mc l2_fr.rf) (sn02.mr l2_fr.rf) (by omega) (Or.inl c25) (fun k' c1 c' r' w na hi X pl S1 h321 k9' k0' sn1 c5 r95 pc q1 hc hk1 hk2 wx => ?_) (fun f2 p0 c' r' z y => ?_)
  rotate_left
  · obtain ⟨y1, e, h1⟩ := y.mustBe 59
    rw [z.1.need (by decide), e, l2_bs, l2_bs]
    exact h2_sm (Or.inr ⟨f2, p0, z, h1⟩)
  have cc : ∀ j, j < 12 → j ≠ 5 → c'.1 (445 + k0 9) j = c2.1 (445 + k0 9) j := fun j x y => (sn1 0).2.2.2.1 j x y
  have rr : ∀ x, 988 ≤ x → x ≤ 1002 → ¬ (x = 991 ∨ x = 992 ∨ x = 995) → r'.1 x (k0 9) = r2.1 x (k0 9) := (sn1 0).2.2.2.2.1
  have e88 : r'.1 988 (k0 9) = nI 20 := by rw [rr 988 (by decide) (by decide) (by decide), rr2 988 (by decide)]; exact b0
  have e1000 : r'.1 1000 (k0 9) = sl_v 3 := by rw [rr 1000 (by decide) (by decide) (by decide)]; exact vr
  have e1001 : r'.1 1001 (k0 9) = nI f := by rw [rr 1001 (by decide) (by decide) (by decide), rr2 1001 (by decide)]; exact b7
  have no2 : ∀ x, k0 9 ≤ x → x < k0 9 + 1 → r'.1 988 x ≠ 2 := fun x x1 x2 y => by
    have e : x = k0 9 := by omega
    rw [e, e88] at y
    exact absurd y (by decide)
  have o1 := (sn1 0).1
  have o0 := sn0.1
  have sn21 := (sn2 n3).trans (sn1 n3)
  obtain ⟨m, wl⟩ := cl_mB ((pc n3 hf).1 (k0 9)) q1 hc ⟨hk1, hk2, o1.2.2.2.2.2.2.2.2.1, o1.2.2.1⟩ wx (sn.rf (f := f) (n := n) (A := fun _ => False) (B := fun _ => False)) (fun x y => y.elim) S.2.2.2.1 ⟨by decide, by decide, by decide⟩ ⟨e88, e1000, e1001⟩ (by unfold sl_ok; omega) no2
  have mm : mB False n2 n3 c0 c' r' (k0 6) (k' 6) (k0 8) (k' 8) (k0 2) (k' 2) (k0 9) (k0 9 + 1) := ((m0.at sn21).wide no2).same (m.base q2.1 q2.2.1 q2.2.2) ⟨o0.2.2.2.2.2.2.1, o1.2.2.2.2.2.2.1, o0.2.2.2.2.2.2.2.2.1, o1.2.2.2.2.2.2.2.2.1, o0.2.2.1, o1.2.2.1⟩ (sf_mL sn21.2.1)
  have cc5 : c'.1 (445 + k0 9) 5 = nI (k 4) := c5.elim (fun y => y.2) (fun y => absurd c25 y.1)
  have o21 := sn21.1
  have h' : cS P nt f n2 n3 Y n v ka a g k0 c0 r0 23 20 3 up (-1) (-1) n L k' c' r' := by
    refine cS.mk S1 (sn02.trans (sn1 n3)) (k9'.trans k9) (Nat.lt_trans k00 k0') mm ⟨?_, ?_, ?_, ?_, ?_, e88, ?_, ?_, ?_, ?_, e1000, e1001, ?_⟩ (fun _ => ?_) (Or.inr (Or.inr (Or.inr (Or.inr (Or.inr (Or.inr (Or.inr (Or.inr (Or.inr (Or.inr (Or.inr (Or.inr (Or.inr (Or.inl ⟨Or.inr ⟨rfl, rfl, rfl⟩, w, k 4, hi, na, r95, cc5, (pc n3 hf).2, wl (k' 6) (Nat.le_refl _)⟩))))))))))))))
    · rw [cc 0 (by decide) (by decide)]; exact vc
    · rw [cc 1 (by decide) (by decide), cc2 1 (by decide)]; exact a3 1 (by decide) (by decide) (by decide)
    · rw [cc 2 (by decide) (by decide), cc2 2 (by decide)]; exact a2
    · rw [cc 3 (by decide) (by decide), cc2 3 (by decide)]; exact a3 3 (by decide) (by decide) (by decide)
    · rw [cc 4 (by decide) (by decide), cc2 4 (by decide)]; exact a3 4 (by decide) (by decide) (by decide)
    · rw [rr 989 (by decide) (by decide) (by decide), rr2 989 (by decide)]; exact b1
    · rw [rr 990 (by decide) (by decide) (by decide), rr2 990 (by decide)]; exact b2
    · rw [rr 998 (by decide) (by decide) (by decide), rr2 998 (by decide)]; exact b5
    · rw [rr 999 (by decide) (by decide) (by decide), rr2 999 (by decide)]; exact b6
    · rw [rr 1002 (by decide) (by decide) (by decide), rr2 1002 (by decide)]; exact b8
    · rw [cc 11 (by decide) (by decide), cc2 11 (by decide), rr 997 (by decide) (by decide) (by decide), rr2 997 (by decide)]
      exact gd.elim Or.inl (fun z => Or.inr (z.fr sn21.2.1 sn21.2.2.1 sf_cp sf_cr sn21.2.2.2.2.2 (Nat.le_refl _) (Nat.le_refl _) ⟨o21.2.2.2.1, o21.2.2.2.2.1, o21.2.2.2.2.2.1, o21.2.2.2.2.2.2.1, o21.2.2.2.2.2.2.2.1, o21.2.2.1⟩))
  refine h2_bb _ (pj_need h'.1.1.1 (by decide) (x := 59) (by decide) rfl) (fun c3 r3 hw => h2_sm ?_)
  obtain ⟨y1, y2, y3⟩ := hw
  rcases y3 with J' | ⟨f2, p0, y3, y4⟩
  · have S3 := (h'.1.la (n2 := n2) (n3 := n3) (ln := 0) (A := fun _ => False) (B := fun _ => False) (k' := nx k') (by decide) rfl ⟨rfl, rfl, rfl, rfl, rfl, rfl, rfl, rfl, rfl⟩ J' y1 y2).1
    exact (h'.la S3 y1 y2).out S0 hV hf (by decide) hu
  · exact Or.inr ⟨f2, p0, h'.1.z y3 y1 h'.mc, h'.1.y y4 y2 h'.mr⟩
/-- from its ] on -/
theorem brS.rest (h : brS P nt f n2 n3 Y n L v ka a g k0 up k c r c0 r0) (S0 : fs P nt f n2 Y n L ka a g k0 c0 r0) (h9 : k0 9 < 400) (hV : en_V n 1 L v) (hf : f < n3) (hu : up = -1 ∨ ∃ j, j < k0 9 ∧ up = nI j) (hG : bkG rcC rcR d) (hC : bkC rcC) (hR : bkR rcR) : t_h2 ((f_X2_need 93 c).bind (brC1 rcC (nI d) (k0 9))) ((f_X13_mustBe 93 r).bind (brR1 rcR (nI d) (k0 9))) (so_O P nt f n2 n3 Y n L ka a g k0 c0 r0) := by
  have bad : ∀ f2 p0 c' r', zS f f2 p0 c0 c' → yS P f f2 p0 r0 r' → t_h2 (brC1 rcC (nI d) (k0 9) c') (brR1 rcR (nI d) (k0 9) r') (so_O P nt f n2 n3 Y n L ka a g k0 c0 r0) := fun f2 p0 c' r' z y => h2_sep _ _ (z.br1 hC h9 (nI d)) (y.br1 hR h9 (nI d)) (fun _ _ z y => Or.inr ⟨f2, p0, z, y⟩)
  refine h2_bb _ (pj_need h.1.1.1 (by decide) (x := 93) (by decide) rfl) (fun c1 r1 hw => ?_)
  obtain ⟨y1, y2, y3⟩ := hw
  have mc := h.2.2.1.mc l2_fr.rf
  have mr := h.2.2.1.mr l2_fr.rf
  rcases y3 with J | ⟨f2, p0, y3, y4⟩
  rotate_left
  · exact bad f2 p0 c1 r1 (h.1.z y3 y1 mc) (h.1.y y4 y2 mr)
  have S1 := (h.1.la (n2 := n2) (n3 := n3) (ln := 0) (A := fun _ => False) (B := fun _ => False) (k' := nx k) (by decide) rfl ⟨rfl, rfl, rfl, rfl, rfl, rfl, rfl, rfl, rfl⟩ J y1 y2).1
  have h1 := h.go S1 y1 y2
  have mc1 := h1.2.2.1.mc l2_fr.rf
  have mr1 := h1.2.2.1.mr l2_fr.rf
  unfold brC1 brR1
  rcases S1.1.1.isW (x := 61) (by decide) with ⟨x1, x2⟩ | ⟨x1, x2⟩
  · have x2 : f_X13_isWord 65 r1 = 1 := x2
    rw [if_neg (show ¬ f_X13_isWord 65 r1 = 0 by rw [x2]; decide)]
    refine h2_bb _ (pj_took S1.1.1 (by decide) (x := 261) (by decide) x1) (fun y r2 hw => ?_)
    obtain ⟨y0, z1, z2, z3⟩ := hw
    obtain ⟨yv, c2⟩ := y
    have y0 : yv = 1 := y0
    have z1 : l2_fr la_W c1 c2 := z1
    subst y0
    rw [if_neg (show ¬ (1 : Int32) = 0 by decide)]
    rcases z3 with J2 | ⟨f2, p0, z3, z4⟩
    · have S2 := (S1.la (n2 := n2) (n3 := n3) (ln := 0) (A := fun _ => False) (B := fun _ => False) (k' := nx (nx k)) (by decide) rfl ⟨rfl, rfl, rfl, rfl, rfl, rfl, rfl, rfl, rfl⟩ J2 z1 z2).1
      exact (h1.go S2 z1 z2).step S0 h9 hV hf hu
    · exact h2_sep _ _ ((S1.z z3 z1 mc1).br3 h9) ((S1.y z4 z2 mr1).br3 h9) (fun _ _ z y => Or.inr ⟨f2, p0, z, y⟩)
  have x2 : f_X13_isWord 65 r1 = 0 := x2
  rw [pj_nottook (x := 261) x1, l2_bs, if_pos rfl, if_pos x2]
  -- an event or a fault
  have ev : ∀ {i : Nat}, c1.1 1 8 = nI (200 + i) → (i = 62 ∨ i = 64 ∨ i = 65) → t_h2 (if f_X6_isEvent (f_X6_sortOf (c1.1 1 8) c1) c1 = 0 then (f_X2_fail 2 c1).bind (brC2 rcC (nI d) (k0 9)) else brC2 rcC (nI d) (k0 9) c1) (brR2 rcR (nI d) (k0 9) r1) (so_O P nt f n2 n3 Y n L ka a g k0 c0 r0) := fun {i} t hi => by
    rw [t, so_kw c1 i (by omega)]
    have e : ¬ f_X6_isEvent (nI (so_n i)) c1 = 0 := by
      rcases hi with rfl | rfl | rfl <;> (unfold f_X6_isEvent k_X6_isEvent_18; decide)
    rw [if_neg e]
    exact h1.event S0 h9 hV hf hu hG hC hR t hi
  have no : f_X6_isEvent (f_X6_sortOf (c1.1 1 8) c1) c1 = 0 → f_X13_event (nI (k0 9)) r1 = (f_X13_fail 2 (r1.1 950 6) r1).bind (fun x => some x) → t_h2 (if f_X6_isEvent (f_X6_sortOf (c1.1 1 8) c1) c1 = 0 then (f_X2_fail 2 c1).bind (brC2 rcC (nI d) (k0 9)) else brC2 rcC (nI d) (k0 9) c1) (brR2 rcR (nI d) (k0 9) r1) (so_O P nt f n2 n3 Y n L ka a g k0 c0 r0) := fun h1 h2 => by
    rw [if_pos h1]
    unfold brR2
    rw [h2, bd_some]
    refine h2_bb _ (pj_fail (f := 2) S1.1.1 (by decide) (by decide)) (fun c2 r2 hw => ?_)
    obtain ⟨w1, w2, f2, p0, w3, w4⟩ := hw
    exact h2_sep _ _ ((S1.z w3 w1 mc1).br2 hC h9 (nI d)) ((S1.y w4 w2 mr1).toR.bs hR (nI d)) (fun _ _ z y => Or.inr ⟨f2, p0, z, y⟩)
  have ne16 : ∀ v : Int32, v ≠ 61 → v ≠ 63 → v ≠ 64 → k_X13_event_16 (nI (k0 9)) v r1 = (f_X13_fail 2 (r1.1 950 6) r1).bind (fun x => some x) := fun v h1 h2 h3 => by
    unfold k_X13_event_16
    rw [if_neg h1, if_neg h2, if_neg h3]
  rcases S1.1.1.kw with ⟨i, hi, t, h5, h10⟩ | ⟨hno, h2⟩
  · by_cases hi' : i = 62 ∨ i = 64 ∨ i = 65
    · exact ev t hi'
    · refine no ?_ ?_
      · rw [t, so_kw c1 i hi]
        have e : ∀ i, i < 66 → ¬ (i = 62 ∨ i = 64 ∨ i = 65) → so_n i ≠ 11 ∧ so_n i ≠ 12 ∧ so_n i ≠ 13 ∧ so_n i < 30 := by decide +kernel
        obtain ⟨e1, e2, e3, e4⟩ := e i hi hi'
        unfold f_X6_isEvent
        rw [if_neg (show ¬ nI (so_n i) = (11 : Int32) from fun y => e1 ((nI_eq (b := 11) (by omega) (by decide)).mp y)), if_neg (show ¬ nI (so_n i) = (12 : Int32) from fun y => e2 ((nI_eq (b := 12) (by omega) (by decide)).mp y)), if_neg (show ¬ nI (so_n i) = (13 : Int32) from fun y => e3 ((nI_eq (b := 13) (by omega) (by decide)).mp y))]
      · unfold f_X13_event
        rw [if_pos h5, h10]
        have e : ∀ i, i < 66 → ¬ (i = 62 ∨ i = 64 ∨ i = 65) → nI (pv i) ≠ 61 ∧ nI (pv i) ≠ 63 ∧ nI (pv i) ≠ 64 := by decide +kernel
        obtain ⟨e1, e2, e3⟩ := e i hi hi'
        exact ne16 _ e1 e2 e3
  · refine no ?_ ?_
    · by_cases h8 : c1.1 1 8 = 1
      · rw [h8, so_w c1]
        unfold f_X6_isEvent
        rw [if_neg (by decide), if_neg (by decide), if_neg (by decide)]
      · rw [so_no c1 h8 hno]
        unfold f_X6_isEvent
        rw [if_neg (by decide), if_neg (by decide), if_neg (by decide)]
    · unfold f_X13_event
      by_cases h5 : r1.1 950 5 = 1
      · rw [if_pos h5]
        have h10 := (h2 h5).1
        exact ne16 _ (fun y => by rw [y] at h10; exact absurd h10 (by decide)) (fun y => by rw [y] at h10; exact absurd h10 (by decide)) (fun y => by rw [y] at h10; exact absurd h10 (by decide))
      · rw [if_neg h5]
        exact ne16 _ (by decide) (by decide) (by decide)
end
