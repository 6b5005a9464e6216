/-! Level 2: an event whole, by its word. -/
section
variable {P : pc_S} {nt : Nat → Nat} {f n n' n2 n3 a2 a3 Y a g f2 p0 ln so K V : Nat} {L L' v : Nat → Nat} {ka : Int32} {k k0 k1 k2 k' : Nat → Nat} {c0 r0 c r c1 r1 c2 r2 c' r' : t_S} {A B A' B' : Nat → Prop} {E : en_S}
theorem xe_61 (hl : ln < 400) (h5 : r.1 950 5 = 1) (h10 : r.1 950 10 = 61) : f_X13_event (nI ln) r = (f_X13_next r).bind (fun r1 => t_let (t_setI r1 1000 ln (nI 0)) (fun s => (f_X13_wordOf (nI ln) s).bind (tp_R ln (fm_R ln (it_R ln))))) := by
  have ix : t_ix (nI ln) 401 = true := l2_ix (by omega) (by decide)
  unfold f_X13_event
  rw [if_pos h5, h10]
  unfold k_X13_event_16
  rw [if_pos rfl]
  unfold k_X13_event_45
  refine congrArg (Option.bind _) (funext (fun r1 => ?_))
  rw [if_neg (by decide), if_pos rfl]
  unfold k_X13_event_89 tp_R fm_R
  rw [if_pos ix, nI_clamp (n := ln) (by omega)]
  simp only [ix, if_true]
  rfl
theorem xe_63 (hl : ln < 400) (h5 : r.1 950 5 = 1) (h10 : r.1 950 10 = 63) : f_X13_event (nI ln) r = (f_X13_next r).bind (fun r1 => t_let (t_setI r1 1000 ln (nI 1)) (fun s => (f_X13_wordOf (nI ln) s).bind (fun s => some s))) := by
  have ix : t_ix (nI ln) 401 = true := l2_ix (by omega) (by decide)
  unfold f_X13_event
  rw [if_pos h5, h10]
  unfold k_X13_event_16
  rw [if_neg (by decide), if_pos rfl]
  unfold k_X13_event_45
  refine congrArg (Option.bind _) (funext (fun r1 => ?_))
  rw [if_neg (by decide), if_neg (by decide)]
  unfold k_X13_event_89
  rw [if_pos ix, nI_clamp (n := ln) (by omega)]
  simp only [show ¬ (63 : Int32) = 61 from by decide, if_false]
  rfl
theorem xe_64 (hl : ln < 400) (h5 : r.1 950 5 = 1) (h10 : r.1 950 10 = 64) : f_X13_event (nI ln) r = (f_X13_next r).bind (fun r1 => t_let (t_setI r1 1000 ln (nI 2)) (sp_E 995 ln)) := by
  have ix : t_ix (nI ln) 401 = true := l2_ix (by omega) (by decide)
  unfold f_X13_event
  rw [if_pos h5, h10]
  unfold k_X13_event_16
  rw [if_neg (by decide), if_neg (by decide), if_pos rfl]
  unfold k_X13_event_45
  refine congrArg (Option.bind _) (funext (fun r1 => ?_))
  rw [if_pos rfl, if_pos ix, nI_clamp (n := ln) (by omega)]
  rfl
theorem eI.r10 (h : eI P nt f n2 n3 Y n L v ka a g ln K V k c r c0 r0) : r.1 1000 ln = nI V := by
  obtain ⟨S, h32, hV, hl, hf, gc, gr', ⟨o1, o2, o3, o4, o5, o6, o7, o8⟩, sl, hK, hV3⟩ := h
  rw [o7]
  unfold sl_v
  rw [if_neg (by omega)]
theorem zS.evF (h : zS f f2 p0 c0 c) (hl : ln < 400) : t_hk (if c.1 (445 + ln) 0 = 12 then (f_X6_link (nI 6) (nI ln) 0 c).bind (k_X6_readEvent_46 (nI ln) (445 + ln)) else k_X6_readEvent_46 (nI ln) (445 + ln) c) (zS f f2 p0 c0) := by
  refine l2_if (fun _ => ?_) (fun _ => h.re46 hl)
  rw [h.1.link, l2_bs]
  exact h.re46 hl
theorem eJ.event {i : Nat} (h : eJ P nt f n2 n3 Y n L v ka a g ln K k c r c0 r0) (t : c.1 1 8 = nI (200 + i)) (hi : i = 62 ∨ i = 64 ∨ i = 65) : t_h2 (f_X6_readEvent (nI ln) c) (f_X13_event (nI ln) r) (fE P nt f n2 n3 Y n L v ka a g ln k c r c0 r0) := by
  have hl := h.2.2.2.1
  have i66 : i < 66 := by omega
  obtain ⟨h5, h10⟩ : r.1 950 5 = 1 ∧ r.1 950 10 = nI (pv i) := by
    rcases h.1.1.1.kw with ⟨i', i1, i2, i3, i4⟩ | ⟨z, _⟩
    · have : i' = i := by
        have := (nI_eq (by omega) (by omega)).mp (i2.symm.trans t)
        omega
      rw [← this]; exact ⟨i3, i4⟩
    · exact absurd t (z i i66)
  rw [re_0 hl]
  rcases hi with rfl | rfl | rfl
  · have hs : f_X6_sortOf (c.1 1 8) c = nI 11 := by rw [t]; unfold f_X6_sortOf; decide
    rw [xe_61 hl h5 h10]
    refine h.go t i66 hs (by decide) (fun c1 r1 I c10 q q1 => ?_) (fun f2 p0 c' r' z y => ?_)
    · rw [if_neg (by rw [c10]; decide), re_46 hl, if_neg (by rw [c10]; decide), re_62 hl, if_pos (by rw [c10]; rfl)]
      exact h2_imp I.receive (fun x y z => z.elim (fun z => (z.up (Or.inl ⟨rfl, rfl⟩) c10 I.r10 q q1).1) Or.inr)
    · refine h2_sep _ (rS P f f2 p0 r0) (z.evF hl) ?_ (fun x1 x2 z y => Or.inr ⟨f2, p0, z, y⟩)
      rw [fw_W0 hl]
      refine l2_bd _ (y.word (side := 0) (by decide)) (fun w hw => ?_)
      unfold tp_R
      rw [hw.templ, l2_bs]
      exact l2_lt ((hw.set (b := 995) (j := ln) (x := 0) (by unfold mo_Wr; omega) (by omega)).fm (fun r2 hr => hr.itR hl))
  · have hs : f_X6_sortOf (c.1 1 8) c = nI 12 := by rw [t]; unfold f_X6_sortOf; decide
    rw [xe_63 hl h5 h10]
    refine h.go t i66 hs (by decide) (fun c1 r1 I c10 q q1 => ?_) (fun f2 p0 c' r' z y => ?_)
    · rw [if_pos (by rw [c10]; rfl)]
      have w := I.timeout
      rw [bd_some] at w
      refine h2_thL w (fun x y z => ?_)
      rcases z with z | ⟨f2, p0, z, y⟩
      · obtain ⟨z1, z2⟩ := z.up (c0 := c0) (r0 := r0) (Or.inr (Or.inl ⟨rfl, rfl⟩)) c10 I.r10 q q1
        rw [re_46 hl, if_neg (by rw [z2]; decide), re_62 hl, if_neg (by rw [z2]; decide)]
        exact l2_sm z1
      · exact l2_imp (z.re46 hl) (fun w hw => Or.inr ⟨f2, p0, hw, y⟩)
    · refine h2_sep _ (rS P f f2 p0 r0) (z.evF hl) ?_ (fun x1 x2 z y => Or.inr ⟨f2, p0, z, y⟩)
      rw [fw_W0 hl]
      exact l2_bd _ (y.word (side := 0) (by decide)) (fun w hw => l2_sm hw.toR)
  · have hs : f_X6_sortOf (c.1 1 8) c = nI 13 := by rw [t]; unfold f_X6_sortOf; decide
    rw [xe_64 hl h5 h10]
    refine h.go t i66 hs (by decide) (fun c1 r1 I c10 q q1 => ?_) (fun f2 p0 c' r' z y => ?_)
    · rw [if_neg (by rw [c10]; decide), re_46 hl, if_pos (by rw [c10]; rfl)]
      refine h2_thL I.done (fun x y z => ?_)
      rcases z with z | ⟨f2, p0, z, y⟩
      · obtain ⟨z1, z2⟩ := z.up (c0 := c0) (r0 := r0) (Or.inr (Or.inr ⟨rfl, rfl⟩)) c10 I.r10 q q1
        rw [re_62 hl, if_neg (by rw [z2]; decide)]
        exact l2_sm z1
      · exact l2_imp (z.re62 hl) (fun w hw => Or.inr ⟨f2, p0, hw, y⟩)
    · refine h2_sep _ (rS P f f2 p0 r0) (z.evF hl) ?_ (fun x1 x2 z y => Or.inr ⟨f2, p0, z, y⟩)
      unfold sp_E
      rw [y.exp, l2_bs]
      exact l2_lt (l2_sm (y.set (by unfold mo_Wr; omega) (by omega)).toR)
end
