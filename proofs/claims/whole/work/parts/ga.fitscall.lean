/-! Level 2: FITS as the class asks it; what the reference's reads; fits(). -/
section
variable {T a m : Nat} {R : Nat → Nat → Prop} {s s1 : t_S} {l i0 : Nat}
theorem ft_holds (h : MT T a m R s) (hl : l ≠ 333) (hok : t_oka l 2 (t_ln l) = true) (hL : t_ln l < 1000000000) {f p n q nd kd : Nat} (V : VW (s.2.1 l) (s.2.1 1006) f i0 p n q) (hq : p + q < 626600) (hf : f ≤ 400) (hi : i0 + n ≤ t_ln l) (hR : R nd kd) : ∃ w : Int32, (w = 0 ∨ w = 1) ∧ (∀ g, 2 * f ≤ g → (R_X13_fitsAt g).1 (nI p) (nI kd) s = some w) ∧ t_hk (f_X11_holds l (nI i0) (nI nd) s) (fun r => r.1 = w ∧ l2_fr (fun b _ => b = 333) s r.2) := by
  have V0 : VW (fun j => s.2.1 l (i0 + j)) (s.2.1 1006) f 0 p n q := VW.copy _ _ _ _ _ _ _ V (fun d _ => by show s.2.1 l (i0 + (0 + d)) = _; rw [Nat.zero_add]) (fun d _ => rfl)
  have pos := V.pos
  obtain ⟨w, w1, w2, w3⟩ := ft_go h hl hok hL f 0 p n q V0 hq hf nd kd (2 * f) hR (Nat.le_refl _)
  refine ⟨w, w1, fun g hg => ?_, ?_⟩
  · obtain ⟨w', y1, y2, y3⟩ := ft_go h hl hok hL f 0 p n q V0 hq hf nd kd g hR hg
    -- both answers are the class's
    have : w' = w := by
      have A : ∀ (x y : Int32), ftO s l i0 n 0 n (t_setI (fun b j => if b = 333 then -1 else s.1 b j, s.2) 333 0 (nI nd)) x → ftO s l i0 n 0 n (t_setI (fun b j => if b = 333 then -1 else s.1 b j, s.2) 333 0 (nI nd)) y → x = 1 → y = 0 → False := by
        intro x y hx hy ex ey
        subst ex
        subst ey
        rcases hx with ⟨_, u, s2, u1, u2, _⟩ | ⟨q, _⟩
        · rcases hy with ⟨q, _⟩ | ⟨_, u', z, s3, v1, v2, v3, _⟩
          · exact absurd q (by decide)
          · have e1 := l2_tnR (r := ((1 : Int32), s2)) u2 (by omega) (by
              show k_X11_holds_31 l (nI i0) (nI n) (nI (0 + n)) s2 = _
              unfold k_X11_holds_31
              rw [if_pos (nI_le (by omega) (by omega))]; rfl)
            have e2 := l2_tnR v2 (by omega) v3
            have := (Prod.mk.inj (Option.some.inj (e1.symm.trans e2))).1
            exact absurd this (by decide)
        · exact absurd q (by decide)
      have fr0 : l2_fr (fun b _ => b = 333) s (t_setI (fun b j => if b = 333 then -1 else s.1 b j, s.2) 333 0 (nI nd)) := (show l2_fr (fun b _ => b = 333) s ((fun b j => if b = 333 then -1 else s.1 b j, s.2) : t_S) from fun b j hb => ⟨if_neg hb, rfl, rfl⟩).trans (l2_fr.set rfl)
      have o1 := w3 n (t_setI (fun b j => if b = 333 then -1 else s.1 b j, s.2) 333 0 (nI nd)) (by omega) (by omega) hi fr0 (by rw [l2_g, if_pos rfl]) (fun j j1 j2 => by rw [l2_g, if_neg (by omega)]; rfl)
      have o2 := y3 n (t_setI (fun b j => if b = 333 then -1 else s.1 b j, s.2) 333 0 (nI nd)) (by omega) (by omega) hi fr0 (by rw [l2_g, if_pos rfl]) (fun j j1 j2 => by rw [l2_g, if_neg (by omega)]; rfl)
      rcases w1 with rfl | rfl
      · rcases y1 with rfl | rfl
        · rfl
        · exact (A 1 0 o2 o1 rfl rfl).elim
      · rcases y1 with rfl | rfl
        · exact (A 1 0 o1 o2 rfl rfl).elim
        · rfl
    rw [y2, this]
  · obtain ⟨t, k, hd, _⟩ := (VW.vr _ _ _ _ _ V).head
    have bn := (h.2.1 nd kd hR).1
    have a3 := h.1.1
    unfold f_X11_holds
    refine l2_ck hok (l2_ck (l2_ix (by omega) (by omega)) ?_)
    refine l2_bd _ (l2_fill (a := 333) (v := -1) (s := s) (by decide +kernel) (by decide +kernel)) (fun r4 hr => ?_)
    refine l2_lt ?_
    rw [nI_clamp (n := i0) (by omega), vl_size hd, if_neg (show ¬ (120 : Int32) < nI n from fun y => nI_nlt (a := 120) (b := n) pos.2.1 (by decide) y), show (0 : Int32).toNatClampNeg = 0 from rfl]
    have fr : l2_fr (fun b _ => b = 333) s (t_setI r4 333 0 (nI nd)) := (hr.2.mono (fun b j y => y)).trans (l2_fr.set rfl)
    have o := w3 n (t_setI r4 333 0 (nI nd)) (by omega) (by omega) hi fr (by rw [l2_g, if_pos rfl]) (fun j j1 j2 => by rw [l2_g, if_neg (by omega)]; exact hr.1 j (by show j < 120; omega))
    rcases o with ⟨q1, u, s2, q2, q3, q4, q5⟩ | ⟨q1, u, y, s2, q2, q3, q4, q5⟩
    · refine ⟨(1, s2), l2_tnR q3 (by omega) ?_, q1.symm, q4⟩
      show k_X11_holds_31 l (nI i0) (nI n) (nI (0 + n)) s2 = _
      unfold k_X11_holds_31
      rw [if_pos (nI_le (by omega) (by omega))]; rfl
    · exact ⟨(0, s2), l2_tnR q3 (by omega) q4, q1.symm, q5⟩
end
