/-! Level 2: simple kinds behind a fault. -/
section
variable {P : pc_S} {f f2 p0 ln : Nat} {c0 r0 c r : t_S}
def bO (P : pc_S) (f f2 p0 : Nat) (c0 r0 x y : t_S) : Prop := zS f f2 p0 c0 x ∧ rS P f f2 p0 r0 y
theorem bO.of {a b : Option t_S} (h : t_hk a (zS f f2 p0 c0)) (g : t_hk b (rS P f f2 p0 r0)) : t_h2 a b (bO P f f2 p0 c0 r0) := h2_sep _ _ h g (fun _ _ z y => ⟨z, y⟩)
theorem zS.rpe (h : zS f f2 p0 c0 c) (hl : ln < 400) : t_hk (rp_E ln c) (zS f f2 p0 c0) := by
  unfold rp_E
  exact l2_bd _ (h.exp (-1)) (fun y hy => l2_lt (l2_sm (hy.set (by unfold mo_Wc; omega) (by omega))))
theorem yS.spe (h : yS P f f2 p0 r0 r) : t_hk (sp_E 995 ln r) (rS P f f2 p0 r0) := by
  unfold sp_E
  rw [h.exp, l2_bs]
  exact l2_lt (l2_sm (h.set (by unfold mo_Wr; omega) (by omega)).toR)
theorem yS.k88 (h : yS P f f2 p0 r0 r) (x : Int32) : yS P f f2 p0 r0 (t_setI r 988 ln x) := h.set (by unfold mo_Wr; omega) (by omega)
theorem bh_unusual (z : zS f f2 p0 c0 c) (y : yS P f f2 p0 r0 r) (hl : ln < 400) : t_h2 (f_X6_readPlain (nI ln) 21 c) (f_X13_simple (nI ln) 60 r) (bO P f f2 p0 c0 r0) := by
  rw [rp_21 hl, sp_60 hl]
  exact bO.of (l2_sm z) (l2_lt (l2_sm (y.k88 _).toR))
theorem bh_log (z : zS f f2 p0 c0 c) (y : yS P f f2 p0 r0 r) (hl : ln < 400) : t_h2 (f_X6_readPlain (nI ln) 8 c) (f_X13_simple (nI ln) 47 r) (bO P f f2 p0 c0 r0) := by
  rw [rp_8 hl, sp_47 hl]
  exact bO.of (z.rpe hl) (l2_lt (y.k88 _).spe)
theorem yS.spx (h : yS P f f2 p0 r0 r) : t_hk (sp_X ln r) (rS P f f2 p0 r0) := by
  unfold sp_X
  exact l2_if (fun _ => h.spe) (fun _ => l2_sm h.toR)
theorem bh_ret (z : zS f f2 p0 c0 c) (y : yS P f f2 p0 r0 r) (hl : ln < 400) : t_h2 (f_X6_readPlain (nI ln) 5 c) (f_X13_simple (nI ln) 40 r) (bO P f f2 p0 c0 r0) := by
  rw [rp_5 hl, sp_40 hl]
  exact bO.of (l2_if (fun _ => l2_sm z) (fun _ => z.rpe hl)) (l2_lt (y.k88 _).spx)
theorem bh_stop (z : zS f f2 p0 c0 c) (y : yS P f f2 p0 r0 r) (hl : ln < 400) : t_h2 (f_X6_readPlain (nI ln) 19 c) (f_X13_simple (nI ln) 58 r) (bO P f f2 p0 c0 r0) := by
  rw [rp_19 hl, sp_58 hl]
  exact bO.of (l2_if (fun _ => l2_sm z) (fun _ => z.rpe hl)) (l2_lt (y.k88 _).spx)
theorem bh_send (z : zS f f2 p0 c0 c) (y : yS P f f2 p0 r0 r) (hl : ln < 400) : t_h2 (f_X6_readPlain (nI ln) 9 c) (f_X13_simple (nI ln) 48 r) (bO P f f2 p0 c0 r0) := by
  rw [rp_9 hl, sp_48 hl, z.1.link, l2_bs]
  refine bO.of (z.rpe hl) (l2_lt ?_)
  rw [fw_W0 hl]
  exact l2_bd _ ((y.k88 _).word (side := 0) (by decide)) (fun w hw => hw.spe)
theorem bh_begin (z : zS f f2 p0 c0 c) (y : yS P f f2 p0 r0 r) (hl : ln < 400) : t_h2 (f_X6_readPlain (nI ln) 14 c) (f_X13_simple (nI ln) 50 r) (bO P f f2 p0 c0 r0) := by
  rw [rp_14 hl, sp_50 hl, z.1.link, l2_bs]
  refine bO.of (z.rpe hl) (l2_lt ?_)
  rw [fw_W0 hl]
  exact l2_bd _ ((y.k88 _).word (side := 0) (by decide)) (fun w hw => hw.spe)
theorem bh_halt (z : zS f f2 p0 c0 c) (y : yS P f f2 p0 r0 r) (hl : ln < 400) : t_h2 (f_X6_readPlain (nI ln) 15 c) (f_X13_simple (nI ln) 51 r) (bO P f f2 p0 c0 r0) := by
  rw [rp_15 hl, sp_51 hl, z.1.link, l2_bs]
  refine bO.of (l2_sm z) (l2_lt ?_)
  rw [fw_W0 hl]
  exact l2_bd _ ((y.k88 _).word (side := 0) (by decide)) (fun w hw => l2_sm hw.toR)
theorem bh_call (z : zS f f2 p0 c0 c) (y : yS P f f2 p0 r0 r) (hl : ln < 400) : t_h2 (f_X6_readPlain (nI ln) 6 c) (f_X13_simple (nI ln) 41 r) (bO P f f2 p0 c0 r0) := by
  rw [rp_6 hl, sp_41 hl]
  refine bO.of (l2_bd _ (z.call hl (nI 9)) (fun w hw => ?_)) (l2_lt (l2_bd _ ((y.k88 _).callOf hl) (fun w hw => l2_lt (l2_imp ((hw.set (b := 995) (j := ln) (x := w.1) (by unfold mo_Wr; omega) (by omega)).itR hl) (fun x hx => hx.toR)))))
  rw [hw.into, l2_bs]
  exact l2_sm hw
theorem bh_usual (z : zS f f2 p0 c0 c) (y : yS P f f2 p0 r0 r) (hl : ln < 400) : t_h2 (f_X6_readOfComponents (nI ln) 20 c) (f_X13_simple (nI ln) 59 r) (bO P f f2 p0 c0 r0) := by
  rw [ro_20 hl, sp_59 hl]
  exact bO.of (l2_bd _ (z.call hl (nI 10)) (fun w hw => l2_sm hw)) (l2_lt (l2_imp ((y.k88 _).cl hl) (fun x hx => hx.toR)))
end
