/-! Level 2: VAR behind a fault. -/
section
variable {P : pc_S} {f f2 p0 ln : Nat} {c0 r0 c r : t_S}
theorem yS.alo (h : yS P f f2 p0 r0 r) (hf : f < 40) : t_hk (f_X13_addLocal (nI f) r) (yS P f f2 p0 r0) := by
  have k50 : ∀ {s : t_S} (x : Int32), yS P f f2 p0 r0 s → t_hk (k_X13_addLocal_50 (nI f) x s) (yS P f f2 p0 r0) := fun {s} x h => by
    unfold k_X13_addLocal_50 k_X13_addLocal_84
    refine l2_no h.ne ?_
    rw [bd_some]
    exact h.next
  have k30 : ∀ {s : t_S} (x : Int32), yS P f f2 p0 r0 s → t_hk (k_X13_addLocal_30 (nI f) x s) (yS P f f2 p0 r0) := fun {s} x h => by
    unfold k_X13_addLocal_30
    refine l2_ck (l2_ix hf (by decide)) (l2_if (fun _ => ?_) (fun _ => k50 x h))
    rw [h.1.fail, l2_bs]
    exact k50 x h
  unfold f_X13_addLocal
  exact l2_bd _ h.name (fun x hx => l2_no hx.ne (k30 x.1 hx))
theorem yS.vline (h : yS P f f2 p0 r0 r) (hl : ln < 400) (hf : f < 40) : t_hk (f_X13_varLine (nI ln) r) (rS P f f2 p0 r0) := by
  have hx : nI (2000 + f) - (2000 : Int32) = nI f := by
    rw [show (2000 : Int32) = nI 2000 from rfl, pk_sub (by omega), Nat.add_sub_cancel_left]
  have e33 : r.1 950 33 = nI (2000 + f) := h.2
  unfold f_X13_varLine
  rw [e33, hx, nI_clamp (n := ln) (by omega)]
  refine l2_ck (l2_ix (by omega) (by decide)) (l2_lt ?_)
  have h1 := h.set (b := 994) (j := ln) (x := r.1 950 6) (by unfold mo_Wr; omega) (by omega)
  generalize t_setI r 994 ln (r.1 950 6) = r2 at *
  have k48 : t_hk (k_X13_varLine_48 (nI ln) (nI f) r2) (rS P f f2 p0 r0) := by
    unfold k_X13_varLine_48
    rw [vl_49 hl]
    exact l2_bd _ (h1.alo hf) (fun x hx => hx.lnw hf (-1))
  exact l2_if (fun _ => l2_if (fun _ => k48) (fun _ => l2_no h1.ne k48)) (fun _ => k48)
theorem bh_var (z : zS f f2 p0 c0 c) (y : yS P f f2 p0 r0 r) (hl : ln < 400) (hf : f < 40) : t_h2 (f_X6_readPlain (nI ln) 1 c) (f_X13_simple (nI ln) 9 r) (bO P f f2 p0 c0 r0) := by
  rw [rp_1 hl, sp_9 hl]
  refine bO.of (f2 := f2) (p0 := p0) ?_ (l2_lt ((y.k88 (nI 1)).vline hl hf))
  unfold f_X6_takePlace k_X6_takePlace_100
  rw [if_neg (z.1.no (by decide)), z.1.fail, l2_bs, if_neg z.1.ne, l2_bs, if_neg (show ¬ (0 : Int32) ≤ -1 by decide)]
  exact l2_sm z
end
