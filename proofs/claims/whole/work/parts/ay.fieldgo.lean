/-! Level 2: records of templs on both sides: a field from its node on. -/
section
variable {P : pc_S} {E : en_S} {lv xd : Int32} {EB PB IB t0 m0 u q m t e p l w o s i dd v u' q' m' t' e' p' l' s' i' : Nat} {T M X : Nat → Nat} {c0 r0 c rh r : t_S} {rcC : RT_X6_readBase} {rR : RT_X13_base} {l5 : Int32}
noncomputable def fdR1 (rR : RT_X13_base) (m0 v : Nat) (y : Int32 × t_S) : Option ((Int32 × Int32 × Int32 × t_S) ⊕ t_S) := (rR.2.2.2.2.2.2.2.1 y.2).bind (fun r2 => (f_X13_hang y.1 r2.1 r2.2).bind (fun r3 => if (f_X13_is (44 : Int32) r3) = (0 : Int32) then (some (.inl (nI m0, (f_X13_is (44 : Int32) r3), (nI v + 1), r3))) else ((f_X13_next r3).bind (fun r5 => some (.inl (nI m0, (f_X13_is (44 : Int32) r3), (nI v + 1), r5))))))
theorem xR.fdR1 {f p0 : Nat} {y : Int32 × t_S} (HR : ∀ r : t_S, r.1 950 2 ≠ 0 → rR.2.2.2.2.2.2.2.1 r = some (0, r)) (h : xR P f p0 m s r0 y.2) : t_hk (fdR1 rR m0 v y) (fun z => (∃ r', z = .inr r' ∧ xR P f p0 m s r0 r') ∨ ∃ g1 g2 g3 r', z = .inl (g1, g2, g3, r') ∧ xR P f p0 m s r0 r') := l2_eq (HR _ h.ne) (l2_eq (h.hang _ _) (l2_if (fun _ => l2_sm (Or.inr ⟨_, _, _, _, rfl, h⟩)) (fun _ => l2_bd _ h.next (fun r5 h5 => l2_sm (Or.inr ⟨_, _, _, _, rfl, h5⟩)))))
theorem fd_H.la {u2 : Nat} {c2 r2 : t_S} (H : fd_H P E lv t0 m0 m t e p l w o s i dd c0 r0 v T M X u' q' m' t' e' p' l' s' i' c r) (Y : xp P E u2 0 0 q' m' t' e' p' l' w o s' i' dd c2 r2) (g : l2_fr la_W c c2) (f : l2_fr rn_W r r2) : fd_H P E lv t0 m0 m t e p l w o s i dd c0 r0 v T M X u2 q' m' t' e' p' l' s' i' c2 r2 := by
  obtain ⟨_, hmm, fc, fr, bT, bM, tc, ch, dis, D, Ee, N, bE, hj⟩ := H
  refine ⟨Y, hmm, fc.trans (g.mono (fun b j y => Or.inl (x_la y))), fr.trans (f.mono (fun b j y => Or.inl (x_rn y))), bT, bM, ⟨by rw [(g 355 t0 (by unfold la_W; omega)).1]; exact tc.1, fun j y => by rw [(g 356 _ (by unfold la_W; omega)).1]; exact tc.2 j y⟩, ⟨by rw [(f 959 m0 (by unfold rn_W; omega)).1]; exact ch.1, fun j y => by rw [(f 960 _ (by unfold rn_W; omega)).1]; exact ch.2 j y⟩, dis, D.own g f (fun b j y => by unfold la_W at y; omega) (fun b j y => by unfold rn_W at y; omega), Ee, N, bE, fun j y => (hj j y).own g f (Nat.le_refl _) (Nat.le_refl _) (Nat.le_refl _) ⟨Nat.le_refl _, Nat.le_refl _⟩ (fun b k z => ?_) (fun b k z => ?_)⟩
  · unfold la_W at z; omega
  · unfold rn_W at z; omega
/-- behind = : the templ, the comma -/
theorem fd_tail {u2 x : Nat} {c3 r3 : t_S} (ht : t0 < t) (hm : m0 < m) (hv : v < 16) (hb : xb P EB PB IB u q t e p l w o s i dd) (hT : hT_R rcC rR dd) (hx : xd + 1 = nI dd) (hR : xT rR) (k1 : rk P u q t e p l s i u' q' t' e' p' l' s' i') (H : fd_H P E lv t0 m0 m t e p l w o s i dd c0 r0 v T M X u' q' m' t' e' p' l' s' i' c rh) (hx2 : x < 7934) (hne : ∀ j, j < v → X j ≠ x) (hu : pc_p P u' + 2 ≤ pc_p P u2 ∧ pc_c P u' ≤ pc_c P u2 ∧ u' < u2)
    (X3 : xp P E u2 0 0 (q' + 1) (m' + 1) (t' + 1) e' p' l' w o s' (i' + 1) dd c3 r3) (gA : l2_fr (fun b j => la_W b j ∨ (b = 845 ∧ j = 10) ∨ tm_W t' b j ∨ (b = 355 ∧ j = t0 ∧ v = 0) ∨ (b = 356 ∧ 0 < v ∧ j = T (v - 1))) c c3) (rA : l2_fr (fun b j => rn_W b j ∨ nm_W b j ∨ xn_W m' b j ∨ (b = 1003 ∧ j = m') ∨ (b = 959 ∧ j = m0 ∧ v = 0) ∨ (b = 960 ∧ 0 < v ∧ j = M (v - 1))) rh r3)
    (c54 : c3.1 354 t' = 19) (c57 : c3.1 357 t' = nI (66 + x)) (c58 : c3.1 358 t' = -1000) (c56 : c3.1 356 t' = -1) (gv : (v = 0 → c3.1 355 t0 = nI t') ∧ (0 < v → c3.1 356 (T (v - 1)) = nI t')) (r55 : r3.1 955 m' = 40) (r57 : r3.2.1 957 m' = lN x) (r59 : r3.1 959 m' = -1) (r62 : r3.1 962 m' = nI i') (ch3 : ch_R r3 m0 (v + 1) (va_up M v m')) (fc3 : l2_fr (xWc t0 e p l w o) c0 c3) (fr3 : l2_fr (xWr m0 s) r0 r3) :
    t_h2 ((rcC.2.2.2.2.2.2.2.2.2.2.2.2.2.1 (xd + 1) (lv + 1) c3).bind (fun r3 => if t_ix (nI t') 6100 = true then t_let (t_setI r3.2 355 ((nI t').toNatClampNeg) r3.1) (fun s1 => (f_X2_take (44 : Int32) s1).bind (fun r5 => if r5.1 = (0 : Int32) then ((k_X6_readTemplFields_248 rcC r5.2).map Sum.inr) else (some (.inl (nI t0, xd, lv, nI t', (nI v + 1), r5.2))))) else none)) (fdR1 rR m0 v (nI m', r3)) (h2_nx (b_X6_readTemplFields_30 rcC) (b_X13_fieldTempls_17 rR) (fun x y => ∃ j, j < 17 - v ∧ fdI P E lv xd t0 m0 u q m t e p l w o s i dd c0 r0 j x y) (fdQ P E lv t0 m0 u q m t e p l w o s i dd c0 r0)) := by
  have hb1 := k1.bnd hb
  have hb2 := hb1
  unfold xb at hb2
  have k2 := k1
  unfold rk at k2
  have ple := X3.1.ple
  have hmm := H.2.1
  obtain ⟨ml, _, _, _⟩ := X3.1.mle (by decide)
  have hb3 : xb P EB PB IB u2 (q' + 1) (t' + 1) e' p' l' w o s' (i' + 1) dd := by
    unfold xb
    omega
  unfold fdR1
  rw [hx]
  refine h2_bb _ (hT P E EB PB IB (lv + 1) _ _ _ _ _ _ _ _ _ _ _ _ _ X3 hb3) (fun a b hab => ?_)
  refine h2_ckL (l2_ix (by omega) (by decide)) (h2_lL ?_)
  rw [nI_clamp (n := t') (by omega)]
  rcases hab with ⟨n, a1, b1, G⟩ | ⟨f, p0, y1, y2⟩
  rotate_left
  · have hF : xF f p0 t0 e p l w o w c0 (t_setI a.2 355 t' a.1) := (y1.sub fc3 (by omega) (by omega) (by omega) (by omega) (Nat.le_refl _)).set (by decide) (by omega)
    have hR' : xR P f p0 m0 s r0 b.2 := y2.sub fr3 (by omega) (by omega)
    refine fd_flt (by omega) (l2_eq (hF.stay.2.2.1 44 (by decide)).2 (l2_ck rfl (l2_mp ?_))) (l2_eq (hR'.hang _ _) (l2_if (fun _ => l2_sm (Or.inr ⟨_, _, _, _, rfl, hR'⟩)) (fun _ => l2_bd _ hR'.next (fun r5 h5 => l2_sm (Or.inr ⟨_, _, _, _, rfl, h5⟩)))))
    unfold k_X6_readTemplFields_248
    exact l2_eq (hF.stay.2.2.1 125 (by decide)).1 (l2_sm ⟨_, rfl, hF⟩)
  rw [a1, b1]
  refine h2_bR _ (fd_add ht hm (by omega) (by omega) (by omega) (by omega) (by omega) (by omega) H hx2 hne gA rA c54 c57 c58 c56 gv r55 r57 r59 r62 ch3 G) (fun r5 hr => ?_)
  obtain ⟨u5, q5, m5, t5, e5, p5, l5, s5, i5, x1, x2, H5⟩ := hr
  generalize t_setI a.2 355 t' (nI (t' + 1)) = c5 at *
  have X5 := H5.1
  have gr : xk P u q t e p l s i u5 q5 t5 e5 p5 l5 s5 i5 := by
    unfold xk at *
    omega
  have gr2 := gr
  unfold xk at gr2
  have ple2 := X5.1.ple
  have bd := hb.ebound gr ple2.2.2 ple2.1 ple2.2.1
  have HH := H5
  obtain ⟨_, hmm5, fc5, fr5, bT5, _⟩ := HH
  have Tv : T v = t' := by
    obtain ⟨_, _, _, _, bT, _⟩ := H
    exact bT.2.1
  have fc6 : l2_fr (xWc t0 e p l w o) c0 c5 := fc5.mono (fun b j y => by
    rcases y with y | ⟨rfl, rfl⟩
    · exact y.sub (by omega) (Nat.le_refl _) (Nat.le_refl _) (Nat.le_refl _) (Nat.le_refl _) (Nat.le_refl _)
    · exact xWc.itm (by decide) (by decide) (Nat.le_refl _))
  have fr6 : l2_fr (xWr m0 s) r0 r5 := fr5.mono (fun b j y => by
    rcases y with y | ⟨rfl, rfl⟩
    · exact y.sub (by omega) (Nat.le_refl _)
    · exact Or.inr (Or.inr (Or.inl ⟨by decide, by decide, Nat.le_refl _⟩)))
  have flt2 : ∀ {c6 r6 : t_S}, l2_fr la_W c5 c6 → l2_fr rn_W r5 r6 → pf P c6 r6 → xf P t0 e p l w o w m0 s c0 r0 c6 r6 := fun w1 w2 w3 => xf.of X5 (by decide) (by omega) (by omega) ⟨Nat.le_refl _, by omega⟩ ⟨by omega, Nat.le_refl _, by omega, by omega⟩ fc6 fr6 w1 w2 w3 xw.nil
  have nv : nI v + 1 = nI (v + 1) := by rw [nI_succ]
  rcases X5.1.is (x := 44) (by decide) with ⟨a, b⟩ | ⟨a, b⟩
  · have b : f_X13_is 44 r5 = 1 := b
    refine h2_noR (by rw [b]; decide) (h2_bb _ (xp_took X5 (by decide) (x := 44) (by decide) a) (fun y r6 hy => ?_))
    obtain ⟨y0, c6⟩ := y
    obtain ⟨y1, y2, y3, y4⟩ := hy
    have y1 : y0 = 1 := y1
    subst y1
    have y2 : l2_fr la_W c5 c6 := y2
    refine h2_noL (show ¬ (1 : Int32) = 0 by decide) (h2_sm ⟨17 - (v + 1), by omega, v + 1, c6, r6, nI t', by omega, rfl, ?_, ?_, ?_⟩)
    · show (nI t0, xd, lv, nI t', nI v + 1, c6) = _
      rw [nv]
    · show (nI m0, f_X13_is 44 r5, nI v + 1, r6) = _
      rw [nv, b]
    · rcases y4 with ⟨X6, z1, z2⟩ | y4
      · refine Or.inl ⟨va_up T (v + 1) t5, va_up M (v + 1) m5, va_up X v x, u5 + 1, q5, m5, t5, e5, p5, l5, s5, i5, gr.head z1 z2, H5.la X6 y2 y3, ?_⟩
        rw [if_pos (by omega), show v + 1 - 1 = v by omega, mj_up_ne _ _ (by omega), Tv]
      · exact Or.inr (flt2 y2 y3 y4)
  · have b : f_X13_is 44 r5 = 0 := b
    refine h2_ckR b (h2_eL (pj_nottook (x := 44) a) (h2_ckL rfl ?_))
    obtain ⟨c6, r6, k8, k9, w1, w2, w3⟩ := xp_need X5 (by decide) (x := 125) (by decide) (sn := 125) rfl
    have k8 : f_X2_need 125 c5 = some c6 := k8
    refine ⟨.inr c6, .inl (nI m0, f_X13_is 44 r5, nI v + 1, r5), ?_, rfl, ?_⟩
    · show (k_X6_readTemplFields_248 rcC c5).map Sum.inr = _
      unfold k_X6_readTemplFields_248
      rw [k8]
      rfl
    · refine xl_go ⟨.inr r6, ?_, r6, rfl, ?_⟩
      · show k_X13_fieldTempls_17 rR (nI m0) (f_X13_is 44 r5) (nI v + 1) r5 = _
        unfold k_X13_fieldTempls_17 k_X13_fieldTempls_69
        rw [if_pos b, k9]
        rfl
      · rcases w3 with ⟨X6, z1, z2⟩ | w3
        · exact Or.inl ⟨v + 1, va_up T (v + 1) t5, va_up M (v + 1) m5, va_up X v x, u5 + 1, q5, m5, t5, e5, p5, l5, s5, i5, by omega, gr.head z1 z2, H5.la X6 w1 w2⟩
        · exact Or.inr (flt2 w1 w2 w3)
end
