/-! Level 2: simple kinds behind a fault: SET, CREATE, START, CONNECT, VAR. -/
section
variable {P : pc_S} {f f2 p0 ln : Nat} {c0 r0 c r : t_S}
theorem bh_set (z : zS f f2 p0 c0 c) (y : yS P f f2 p0 r0 r) (hl : ln < 400) : t_h2 (f_X6_readPlain (nI ln) 7 c) (f_X13_simple (nI ln) 43 r) (bO P f f2 p0 c0 r0) := by
  rw [rp_7 hl, sp_43 hl]
  have z1 := z.set (b := 445 + ln) (j := 6) (x := (1 + c.1 1 8) - 244) (by unfold mo_Wc; omega) (by omega)
  have y1 := y.k88 (ln := ln) (nI 7)
  have k215 : ∀ {s : t_S}, yS P f f2 p0 r0 s → t_hk (k_X13_simple_215 (nI ln) s) (rS P f f2 p0 r0) := fun {s} h => by
    rw [sp_215 hl]
    exact l2_lt (l2_imp (h.set (b := 991) (j := ln) (x := (s.1 950 10 - 44) + 1) (by unfold mo_Wr; omega) (by omega)).next (fun x hx => hx.toR))
  have k197 : ∀ {s : t_S}, zS f f2 p0 c0 s → t_hk (k_X6_readPlain_197 s) (zS f f2 p0 c0) := fun h => by
    unfold k_X6_readPlain_197
    rw [h.1.adv, l2_bs]
    exact l2_sm h
  have k189 : ∀ {s : t_S}, zS f f2 p0 c0 s → t_hk (k_X6_readPlain_189 s) (zS f f2 p0 c0) := fun h => by
    unfold k_X6_readPlain_189
    rw [h.1.fail, l2_bs]
    exact k197 h
  refine bO.of (f2 := f2) (p0 := p0) (l2_lt ?_) (l2_lt ?_)
  · unfold rp_T
    exact l2_if (fun _ => k189 z1) (fun _ => l2_if (fun _ => k197 z1) (fun _ => k189 z1))
  · unfold sp_T
    refine l2_if (fun _ => l2_if (fun _ => l2_if (fun _ => ?_) (fun _ => k215 y1)) (fun _ => k215 y1)) (fun _ => k215 y1)
    rw [y1.1.fail, l2_bs]
    exact k215 y1
theorem bh_create (z : zS f f2 p0 c0 c) (y : yS P f f2 p0 r0 r) (hl : ln < 400) : t_h2 (f_X6_readOfComponents (nI ln) 16 c) (f_X13_simple (nI ln) 52 r) (bO P f f2 p0 c0 r0) := by
  rw [ro_16 hl, sp_52 hl, z.1.link, l2_bs, if_neg (z.1.no (by decide)), z.1.fail, l2_bs, z.into, l2_bs]
  refine bO.of (f2 := f2) (p0 := p0) (l2_sm z) (l2_lt ?_)
  rw [fw_W0 hl]
  exact l2_bd _ ((y.k88 _).word (side := 0) (by decide)) (fun w hw => l2_imp (hw.mwi hl) (fun x hx => hx.toR))
theorem bh_start (z : zS f f2 p0 c0 c) (y : yS P f f2 p0 r0 r) (hl : ln < 400) : t_h2 (f_X6_readOfComponents (nI ln) 17 c) (f_X13_simple (nI ln) 54 r) (bO P f f2 p0 c0 r0) := by
  rw [ro_17 hl, sp_54 hl]
  refine bO.of (f2 := f2) (p0 := p0) (l2_lt (l2_bd _ ((z.set (b := 445 + ln) (j := 5) (x := c.1 334 2) (by unfold mo_Wc; omega) (by omega)).exp 0) (fun w hw => ?_))) (l2_lt ?_)
  · rw [hw.1.need (by decide), l2_bs]
    exact l2_bd _ (hw.call hl (nI 11)) (fun u hu => l2_sm hu)
  · have y1 := y.k88 (ln := ln) (nI 15)
    rw [y1.exp, l2_bs]
    exact l2_lt (l2_bd _ ((y1.set (b := 996) (j := ln) (x := 0) (by unfold mo_Wr; omega) (by omega)).mustWord 53) (fun w hw => l2_imp (hw.cl hl) (fun x hx => hx.toR)))
theorem bh_connect (z : zS f f2 p0 c0 c) (y : yS P f f2 p0 r0 r) (hl : ln < 400) : t_h2 (f_X6_readOfComponents (nI ln) 18 c) (f_X13_simple (nI ln) 55 r) (bO P f f2 p0 c0 r0) := by
  rw [ro_18 hl, sp_55 hl]
  refine bO.of (f2 := f2) (p0 := p0) (l2_lt ((z.set (b := 445 + ln) (j := 5) (x := c.1 334 2) (by unfold mo_Wc; omega) (by omega)).cnC hl (fun c' z => ?_))) (l2_lt ((y.k88 _).cnR (side := 0) (by decide) (by decide) (fun r' y => ?_)))
  · rw [z.1.need (by decide), l2_bs]
    exact z.cnC hl (fun c' z => l2_bd _ (z.emit 0 0) (fun w hw => l2_sm hw))
  · exact l2_bd _ (y.mustWord 57) (fun w hw => hw.cnR (side := 1) (by decide) (by decide) (fun r' y => l2_sm y.toR))
end
