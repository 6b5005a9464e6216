/-! Level 2: records of templs on both sides: a turn. -/
section
variable {P : pc_S} {E : en_S} {lv xd : Int32} {EB PB IB t0 m0 u q m t e p l w o s i dd : Nat} {c0 r0 : t_S} {rcC : RT_X6_readBase} {rR : RT_X13_base}
theorem fd_turn (ht : t0 < t) (ht3 : t0 < 6100) (hm : m0 < m) (hm3 : m0 ≤ 12999) (hb : xb P EB PB IB u q t e p l w o s i dd) (hT : hT_R rcC rR dd) (hx : xd + 1 = nI dd) (hB : ∀ x y, bC2 (rcC.2.2.2.2.2.2.2.2.2.2.2.2.2.1 x y)) (hR : xT rR) : ∀ k x y, fdI P E lv xd t0 m0 u q m t e p l w o s i dd c0 r0 k x y → t_h2 (b_X6_readTemplFields_30 rcC x) (b_X13_fieldTempls_17 rR y) (h2_nx (b_X6_readTemplFields_30 rcC) (b_X13_fieldTempls_17 rR) (fun x y => ∃ j, j < k ∧ fdI P E lv xd t0 m0 u q m t e p l w o s i dd c0 r0 j x y) (fdQ P E lv t0 m0 u q m t e p l w o s i dd c0 r0)) := by
  have HR : ∀ r : t_S, r.1 950 2 ≠ 0 → rR.2.2.2.2.2.2.2.1 r = some (0, r) := fun r h => (hR.1 r h).2.2.2
  rintro k x y ⟨v, c, r, l5, hv, rfl, rfl, rfl, h⟩
  rcases h with ⟨T, M, X, u', q', m', t', e', p', l', s', i', k1, H, hl5⟩ | ⟨f, p0, hF, hRR⟩
  rotate_left
  · exact fd_flt hm3 (hF.tf30 _ _ _ _ hv) (l2_imp (hRR.ft17 _ _ _) (fun z hz => Or.inl hz))
  have Y := H.1
  have hmm := H.2.1
  have f0 := Y.1.f0
  have ple := Y.1.ple
  have hb2 := k1.bnd hb
  unfold xb at hb2
  have k2 := k1
  unfold rk at k2
  obtain ⟨ml, _, _, _⟩ := Y.1.mle (by decide)
  have HH := H
  obtain ⟨_, _, fc, fr, bT, bM, tc, ch, dis, D, Ee, N, bE, hj⟩ := HH
  have fc0 : l2_fr (xWc t0 e p l w o) c0 c := fc.mono (fun b j y => by
    rcases y with y | ⟨rfl, rfl⟩
    · exact y.sub (by omega) (Nat.le_refl _) (Nat.le_refl _) (Nat.le_refl _) (Nat.le_refl _) (Nat.le_refl _)
    · exact xWc.itm (by decide) (by decide) (Nat.le_refl _))
  have fr0 : l2_fr (xWr m0 s) r0 r := fr.mono (fun b j y => by
    rcases y with y | ⟨rfl, rfl⟩
    · exact y.sub (by omega) (Nat.le_refl _)
    · exact Or.inr (Or.inr (Or.inl ⟨by decide, by decide, Nat.le_refl _⟩)))
  show t_h2 (k_X6_readTemplFields_30 rcC (nI t0) xd lv l5 (nI v) c) (k_X13_fieldTempls_17 rR (nI m0) 1 (nI v) r) _
  unfold k_X6_readTemplFields_30 k_X13_fieldTempls_17
  refine h2_noL (nI_nlt (a := 16) hv (by decide)) (h2_noR (by decide) (h2_ckR f0.2 ?_))
  show t_h2 _ ((f_X13_fieldHere (nI m0) (nI v) 40 r).bind (fdR1 rR m0 v)) _
  unfold f_X13_fieldHere
  rw [Option.bind_assoc]
  by_cases k8 : c.1 1 8 = 1
  rotate_left
  · refine h2_noL k8 (h2_bb _ (pj_noname Y.1 (by decide) k8) (fun c6 y6 hw => ?_))
    obtain ⟨v1, v2, f, p0, v3, v4⟩ := hw
    have hF : xF f p0 t0 e p l w o w c0 c6 := xF.of Y (by omega) (by omega) ⟨Nat.le_refl _, by omega⟩ ⟨by omega, Nat.le_refl _⟩ fc0 v1 (fun b j z => x_la z) ⟨by unfold la_W; omega, by unfold la_W; omega, by unfold la_W; omega⟩ (fun j => by unfold la_W; omega) v3 xw.nil
    have hR' : xR P f p0 m0 s r0 y6.2 := (xR.of Y.1 (by decide) v2 v4 (s := s)).sub fr0 (by omega) (Nat.le_refl _)
    exact fd_flt (by omega) (hF.tf100 _ _ _ _ _) (l2_bd (fun y => xR P f p0 m0 s r0 y.2) (l2_no hR'.ne (hR'.fh33 (by omega) _ _ _ _)) (fun y hy => hy.fdR1 HR))
  refine h2_ckL k8 (h2_bR _ (pj_name Y.1 k8) (fun y hy => ?_))
  obtain ⟨y0, r1⟩ := y
  obtain ⟨x, hx2, n1, n2, n3, n4⟩ := hy
  have n2 : y0 = nI x := n2
  subst n2
  have n3 : l2_fr nm_W r r1 := n3
  have n4 : pj P u' 1 0 q' m' c r1 := n4
  have ww : f_X2_word c = nI (66 + x) := by
    unfold f_X2_word
    rw [n1]
    exact lN_i _
  have fr1 : l2_fr (xWr m0 s) r0 r1 := fr0.trans (n3.mono (fun b j y => x_nm y))
  -- a fault told here
  have flt : ∀ f : Nat, 0 < f ∧ f < 100 → ∀ {F : t_S → Option (Int32 × t_S)}, (∀ f p0 r2, xR P f p0 m0 s r0 r2 → t_hk (F r2) (fun y => xR P f p0 m0 s r0 y.2)) → t_h2 ((f_X2_fail (nI f) c).bind (fun r3 => k_X6_readTemplFields_100 rcC (nI t0) xd lv l5 (nI v) r3)) (((f_X13_fail (nI f) (r1.1 950 6) r1).bind F).bind (fdR1 rR m0 v)) (h2_nx (b_X6_readTemplFields_30 rcC) (b_X13_fieldTempls_17 rR) (fun x y => ∃ j, j < 17 - v ∧ fdI P E lv xd t0 m0 u q m t e p l w o s i dd c0 r0 j x y) (fdQ P E lv t0 m0 u q m t e p l w o s i dd c0 r0)) := by
    intro f hf F hFF
    rw [Option.bind_assoc]
    refine h2_bb _ (pj_fail (f := f) n4 (by decide) hf) (fun c6 r6 hw => ?_)
    obtain ⟨w1, w2, f2, p0, w3, w4⟩ := hw
    have hF : xF f2 p0 t0 e p l w o w c0 c6 := xF.of Y (by omega) (by omega) ⟨Nat.le_refl _, by omega⟩ ⟨by omega, Nat.le_refl _⟩ fc0 w1 (fun b j z => x_la z) ⟨by unfold la_W; omega, by unfold la_W; omega, by unfold la_W; omega⟩ (fun j => by unfold la_W; omega) w3 xw.nil
    have hR' : xR P f2 p0 m0 s r0 r6 := (xR.of n4 (by decide) w2 w4 (s := s)).sub fr1 (by omega) (Nat.le_refl _)
    exact fd_flt (by omega) (hF.tf100 _ _ _ _ _) (l2_bd _ (hFF _ _ _ hR') (fun y hy => hy.fdR1 HR))
  have Xs : ∀ j, j < v → X j < 100000 ∧ c.1 357 (T j) = nI (66 + X j) ∧ r1.2.1 957 (M j) = lN (X j) ∧ T j < 6100 := fun j y => by
    have a := hj j y
    have b := bT.in y
    refine ⟨by have := a.1; omega, a.2.2.2.2.1, ?_, by omega⟩
    rw [(n3 957 (M j) (by unfold nm_W; omega)).2.1]
    exact a.2.2.2.2.2.2.2.2.1
  have ch1 : ch_R r1 m0 v M := ⟨by rw [(n3 959 m0 (by unfold nm_W; omega)).1]; exact ch.1, fun j y => by rw [(n3 960 _ (by unfold nm_W; omega)).1]; exact ch.2 j y⟩
  rw [ww]
  refine h2_bL _ (tc_has (X := X) tc ht3 hv (by omega) (fun j y => (Xs j y).2.2.2) (fun j y => ⟨(Xs j y).1, (Xs j y).2.1⟩)) (fun z hz => ?_)
  have z0 : ((nI x, r1) : Int32 × t_S).2.1 950 2 = 0 := n4.f0.2
  rw [if_pos z0, Option.bind_assoc]
  refine h2_bR _ (ch_has (X := X) ch1 (by omega) (by omega) (x := x) (by omega) (fun j y => ⟨(Xs j y).1, (Xs j y).2.2.1⟩)) (fun z' hz' => ?_)
  rcases hz with ⟨rfl, j, j1, j2⟩ | ⟨rfl, hn⟩
  · rcases hz' with ⟨rfl, _⟩ | ⟨rfl, hn'⟩
    · refine h2_noL (by decide) ?_
      rw [if_neg (show ¬ (1 : Int32) = 0 by decide)]
      exact flt 3 (by decide) (fun f p0 r2 h => h.fh33 (by omega) _ _ _ _)
    · exact absurd j2 (hn' j j1)
  · rcases hz' with ⟨rfl, j, j1, j2⟩ | ⟨rfl, _⟩
    · exact absurd j2 (hn j j1)
    · refine h2_ckL rfl ?_
      rw [if_pos rfl]
      unfold k_X13_fieldHere_33
      by_cases v16 : v = 16
      · subst v16
        refine h2_ckL rfl ?_
        rw [if_pos (show nI 16 = (16 : Int32) from rfl)]
        exact flt 5 (by decide) (fun f p0 r2 h => h.fh48 (by omega) _ _ _)
      · have n16 : ¬ nI v = 16 := fun y => v16 ((nI_eq (b := 16) (by omega) (by decide)).mp y)
        refine h2_noL n16 ?_
        rw [if_neg n16]
        exact fd_node ht ht3 hm (by omega) hb hT hx hB hR k1 H hl5 hx2 hn k8 ww n3 n4
end
