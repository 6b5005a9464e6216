/-! Level 2: the steps of a statement: a call's exps. -/
/-- a call's exps without their END -/
def cq_R (n2 n3 : Nat) (E : en_S) (c r : t_S) (t e p l s m w lo hi v : Nat) : Prop := ∃ EE G : Nat → Nat, v ≤ 12 ∧ w < m ∧ r.1 955 w = 60 ∧ ch_R r w v G ∧ EE 0 = lo ∧ EE v = hi ∧ hi ≤ e ∧ ∀ j, j < v → G j < m ∧ ∃ t0, xe_R n2 n3 E c r t e p l s m 0 0 (EE j) (EE (j + 1)) t0 (G j)
section
variable {P : pc_S} {nt : Nat → Nat} {f n2 n3 Y n a g f2 p0 ln side : Nat} {L v : Nat → Nat} {ka : Int32} {k k1 k2 k' : Nat → Nat} {c0 r0 c r c1 r1 c' r' : t_S} {A B A' B' : Nat → Prop}
theorem pj.slack {u0 d0 q0 u d q m : Nat} {c0 r0 c r : t_S} (J0 : pj P u0 d0 0 q0 m c0 r0) (J : pj P u d 1 q (m + 1) c r) (h : pc_p P u0 < pc_p P u) : pj P u d 0 q (m + 1) c r := by
  obtain ⟨B, L, W0, W, V, sl, H, T, n, t0, m0⟩ := P
  obtain ⟨x1, x2, x3, x4, x5, x6, x7, x8, x9, x10, x11⟩ := J
  obtain ⟨_, _, _, _, _, _, _, _, _, y10, _⟩ := J0
  have h : tk_P B L u0 < tk_P B L u := h
  exact ⟨x1, x2, x3, x4, x5, x6, x7, x8, x9, by omega, x11⟩
theorem cq_R.fr {Wc Wr : Nat → Nat → Prop} {a2 a3 t e p l s m t2 e2 p2 l2 s2 m2 w lo hi na : Nat} {E : en_S} (h : cq_R n2 n3 E c r t e p l s m w lo hi na) (fc : l2_fr Wc c c') (fr : l2_fr Wr r r') (w1 : cp_c Wc t e p l) (w2 : cp_r Wr m s) (hk : mK n2 n3 r r') (h2 : n2 ≤ a2) (h3 : n3 ≤ a3) (o : t ≤ t2 ∧ e ≤ e2 ∧ p ≤ p2 ∧ l ≤ l2 ∧ s ≤ s2 ∧ m ≤ m2) : cq_R a2 a3 E c' r' t2 e2 p2 l2 s2 m2 w lo hi na := by
  obtain ⟨EE, G, x1, x2, x3, x4, x5, x6, x7, x10⟩ := h
  refine ⟨EE, G, x1, by omega, ?_, x4.cp fr w2 x2 (fun j hj => (x10 j hj).1), x5, x6, by omega, fun j hj => ⟨?_, ?_⟩⟩
  · rw [(fr 955 w (fun y => (w2 _ _ y).1 ⟨by omega, x2⟩)).1]; exact x3
  · have := (x10 j hj).1; omega
  · obtain ⟨t0, y⟩ := (x10 j hj).2
    exact ⟨t0, y.fr fc fr w1 w2 hk h2 h3 o⟩
noncomputable def ar_C (c : t_S) : Option (Int32 × t_S) := if c.1 1 8 = 41 then some (0, c) else f_X6_readExps 0 c
noncomputable def ar_R (r : t_S) : Option (Int32 × t_S) := (f_X13_node 60 0 r).bind (fun r5 => if (f_X13_is (41 : Int32) r5.2) = (0 : Int32) then ((f_X13_exps r5.1 r5.2).bind (fun r7 => some (r5.1, r7))) else some (r5.1, r5.2))
theorem zS.args (h : zS f f2 p0 c0 c) : t_hk (ar_C c) (fun z => zS f f2 p0 c0 z.2) := by
  unfold ar_C
  rw [if_neg (h.1.no (by decide))]
  exact h.exps 0
theorem yS.args (h : yS P f f2 p0 r0 r) : t_hk (ar_R r) (fun z => yS P f f2 p0 r0 z.2 ∧ ∃ j, j < 13000 ∧ z.1 = nI j) := by
  unfold ar_R
  refine l2_bd _ (h.node 60 0) (fun y hy => l2_if (fun _ => l2_bd _ (hy.1.exps _) (fun z hz => l2_sm ⟨hz, hy.2⟩)) (fun _ => l2_sm hy))
theorem fs_args {u0 d0 q0 : Nat} {c00 r00 : t_S} (S : fs P nt f n2 Y n L ka a g k c r) (h32 : r.1 950 32 = 0) (hV : en_V n 1 L v) (hl : ln < 400) (gc : l2_fr mo_Wc c0 c) (gr' : l2_fr mo_Wr r0 r) (J0 : pj P u0 d0 0 q0 (k 2) c00 r00) (hp : pc_p P u0 < pc_p P (k 0)) : t_h2 (ar_C c) (ar_R r) (fun x y => (∃ k' na hi, x.1 = nI na ∧ y.1 = nI (k 2) ∧ fs P nt f n2 Y n L ka a g k' x.2 y.2 ∧ y.2.1 950 32 = 0 ∧ k' 9 = k 9 ∧ k 0 ≤ k' 0 ∧ hi = k' 4 ∧ (k' 6 + pc_c P (k 0) ≤ k 6 + pc_c P (k' 0)) ∧ (∀ x, k 4 + x ≤ 2 * k 1 + 2 * k 9 → k' 4 + x ≤ 2 * k' 1 + 2 * k' 9) ∧ (∀ n3, sn n2 n3 f n ln (fun _ => False) (fun _ => False) k c r k' x.2 y.2) ∧ ∀ n3, f < n3 → (∀ st, mB False n2 n3 c x.2 y.2 (k 6) (k' 6) (k 8) (k' 8) (k 2) (k' 2) st st) ∧ cq_R n2 n3 (E_f f n v) x.2 y.2 (k' 3) (k' 4) (k' 5) (k' 6) (k' 7) (k' 2) (k 2) (k 4) hi na) ∨ ∃ f2 p0, zS f f2 p0 c0 x.2 ∧ rS P f f2 p0 r0 y.2) := by
  unfold ar_C ar_R
  have mle := S.1.1.mle (by decide)
  obtain ⟨x, e1, nm, x1, fx, nat, J1⟩ := pj_node0 (k := 60) S.1.1
  have ti := nd_ti (K := 60) (m := k 2) (i := k 8) (by decide) e1 S.1.2.2.2.2.1.2.1 mle.2.1 nm (Or.inl rfl)
  have i26 : x.2.1 950 26 = nI (k 8) := ti.2 (by decide)
  have J2 : pj P (k 0) 0 0 (k 1) (k 2 + 1) c x.2 := J0.slack J1 hp
  rw [e1, l2_bs, x1]
  have nf : l2_fr (fun _ _ => False) c c := l2_fr.rf
  have fxw : l2_fr (xWr (k 2) (k 7)) r x.2 := fx.mono (fun b j y => x_nd y (Nat.le_refl _))
  have x32 : x.2.1 950 32 = 0 := by rw [(fx 950 32 (by unfold nd_W; omega)).1]; exact h32
  have fE := S.en hV
  have S2 : fs P nt f n2 Y n L ka a g (ck (k 0) (k 1) (k 2 + 1) (k 3) (k 4) (k 5) (k 6) (k 7) (k 8) (k 9)) c x.2 := by
    obtain ⟨M, hw, hh, hf, h33, h34⟩ := S
    obtain ⟨J, N, q1, q2, ⟨s1, s2, s3⟩, q4⟩ := M
    refine ⟨⟨J2, N.fr nf fx (fun j y => y) ⟨fun y => y, fun y => y, fun y => y, fun y => y⟩ ⟨by unfold nd_W; omega, by unfold nd_W; omega, by unfold nd_W; omega, by unfold nd_W; omega⟩ (fun b j y => by unfold nd_W; omega), q1, q2, ⟨by rw [(fx 950 36 (by unfold nd_W; omega)).1]; exact s1, i26, by rw [(fx 950 81 (by unfold nd_W; omega)).1]; exact s3⟩, q4⟩, hw.fr nf fx ⟨fun y => y, fun _ _ y => y⟩ ⟨by unfold nd_W; omega, fun i _ => by unfold nd_W; omega⟩, hh.fr nf fx (fun b j _ _ y => y) (fun b j y => by unfold nd_W; omega), hf, by rw [(fx 950 33 (by unfold nd_W; omega)).1]; exact h33, by rw [(fx 950 34 (by unfold nd_W; omega)).1]; exact h34⟩
  have snx : ∀ n3, sn n2 n3 f n ln (fun _ => False) (fun _ => False) k c r (ck (k 0) (k 1) (k 2 + 1) (k 3) (k 4) (k 5) (k 6) (k 7) (k 8) (k 9)) c x.2 := fun n3 => ⟨⟨Nat.le_refl _, Nat.le_refl _, Nat.le_succ _, Nat.le_refl _, Nat.le_refl _, Nat.le_refl _, Nat.le_refl _, Nat.le_refl _, Nat.le_refl _, Nat.le_refl _⟩, l2_fr.rf, fxw.mono (fun b j y => Or.inl y), fun _ _ _ => rfl, fun y _ _ _ => (fx y ln (by unfold nd_W; omega)).1, mK.of fx (fun b j y => by unfold nd_W; omega)⟩
  have xD0 : xD (E_f f n v) c c x.2 (k 6) (k 6) (k 8) (k 8) (k 2) (k 2 + 1) := xD.plain (K := 60) nat.1 (by decide) (by decide) rfl rfl (fun y => absurd y (by decide))
  rcases J2.is (x := 41) (by decide) with ⟨a1, a2⟩ | ⟨a1, a2⟩
  · rw [if_pos (show c.1 1 8 = 41 from a1), if_neg (show ¬ f_X13_is 41 x.2 = 0 by rw [show f_X13_is 41 x.2 = 1 from a2]; decide)]
    refine h2_sm (Or.inl ⟨_, 0, k 4, rfl, rfl, S2, x32, rfl, Nat.le_refl _, rfl, Nat.le_refl _, fun _ hx => hx, snx, fun n3 h3 => ⟨fun st => mB.ofX xD0 (S2.mE hV h3) (fun _ => rfl) st, fun _ => k 4, fun _ => 0, by decide, Nat.lt_succ_self _, nat.1, ⟨by rw [if_neg (by decide)]; exact nat.2.2.2.2.1, fun j hj => absurd hj (Nat.not_lt_zero _)⟩, rfl, rfl, Nat.le_refl _, fun j hj => absurd hj (Nat.not_lt_zero _)⟩⟩)
  rw [if_neg (show ¬ c.1 1 8 = 41 from a1), if_pos (show f_X13_is 41 x.2 = 0 from a2)]
  obtain ⟨X, Bb⟩ := S2.1.xp (E := E_f f n v) (S2.en hV) x32
  have hE : hE_R (R_X6_readBase 249) (R_X13_base 299) 0 := (hA_0 (dd := 0) (by decide) 249 299 (by decide) (by decide)).1
  have Sb := xS_R 245
  have T : xT (R_X13_base (296 + 3)) := xT_R 296
  have one : ∀ y, bC ((R_X6_readBase 248).2.2.2.2.2.2.2.1 y) := (xS_R 244).2.2.2.2.2.2.1
  obtain ⟨z, r3, g1, g2, gz⟩ := xe_loop (P := P) (E := E_f f n v) (m0 := k 2) (rc := R_X6_readBase 249) (rc5 := R_X6_readBase 248) (rR := R_X13_base 299) (Nat.lt_succ_self _) (by omega) Bb hE (fun y => Sb.2.1 y) (fun _ _ => rfl) one T X nat.2.2.2.2.1
  have g1' : f_X6_readExps 0 c = some z := g1
  have g2' : f_X13_exps (nI (k 2)) x.2 = some r3 := g2
  rw [g1', g2', l2_bs]
  refine h2_sm ?_
  have lkz := S.lk.exps 0 z g1'
  rcases gz with ⟨na, u', q', m', t', e', p', l', s', i', v0, v12, z1, xk1, mm, X2, hmm, fc, fr, D, Ee, TT, MM, GG, bE, bT, bM, ch, hj⟩ | ⟨f2, p0, y1, y2⟩ | ⟨p0, y1, y2⟩
  rotate_left
  · refine Or.inr ⟨f2, p0, ⟨⟨y1.me, gc.trans (mo_xc (y1.2.1.mono (fun b j y => y.sub (Nat.zero_le _) (Nat.zero_le _) (Nat.zero_le _) (Nat.zero_le _) (Nat.le_refl _) (Nat.le_refl _))))⟩, lkz, by rw [(y1.2.1 845 12 (by unfold xWc; omega)).1]; exact S.1.2.2.2.1.2.2.1⟩, ⟨Or.inl ⟨y2.1, (gr'.trans (mo_x (fxw.mono (fun b j y => y.sub (Nat.zero_le _) (Nat.zero_le _))))).trans (mo_x (y2.2.1.mono (fun b j y => y.sub (Nat.zero_le _) (Nat.zero_le _))))⟩, by rw [(y2.2.1 950 33 (by unfold xWr; omega)).1]; exact S2.2.2.2.2.1⟩⟩
  · have y2r : rx P 2 p0 (k 2) (k 7) x.2 r3 := Or.inr ⟨rfl, y2⟩
    exact Or.inr ⟨2, p0, ⟨⟨y1.me, gc.trans (mo_xc (y1.2.1.mono (fun b j y => y.sub (Nat.zero_le _) (Nat.zero_le _) (Nat.zero_le _) (Nat.zero_le _) (Nat.le_refl _) (Nat.le_refl _))))⟩, lkz, by rw [(y1.2.1 845 12 (by unfold xWc; omega)).1]; exact S.1.2.2.2.1.2.2.1⟩, y2r.ry (gr'.trans (mo_x (fxw.mono (fun b j y => y.sub (Nat.zero_le _) (Nat.zero_le _))))), by rw [(y2r.fr0 950 33 (by unfold xWr; omega)).1]; exact S2.2.2.2.2.1⟩
  have frw : l2_fr (xWr (k 2) (k 7)) x.2 r3 := fr.mono (fun b j y => by
    rcases y with y | ⟨rfl, rfl⟩
    · exact y.sub (Nat.le_succ _) (Nat.le_refl _)
    · exact Or.inr (Or.inr (Or.inl ⟨by decide, by decide, Nat.le_refl _⟩)))
  have xk1 : xk P (k 0) (k 1) (k 3) (k 4) (k 5) (k 6) (k 7) (k 8) u' q' t' e' p' l' s' i' := xk1
  have mm : k 2 + 1 < m' := mm
  have fc : l2_fr (xWc (k 3) (k 4) (k 5) (k 6) 0 0) c z.2 := fc
  have fr : l2_fr (rwr (k 2) (k 2 + 1) (k 7)) x.2 r3 := fr
  unfold xk at xk1
  obtain ⟨w1, w2, w3, w4, w5, w6, w7, w8, w9, w10, w11⟩ := X2
  have M' : mp P nt u' q' m' a g t' e' p' l' s' i' (k 9) (nI f) (-1) ka z.2 r3 := by
    obtain ⟨J, N, ⟨k1, k2', k3, k4, k5, k6, k7⟩, ⟨v1, v2, v3, v4, v5, v6, v7⟩, ⟨s1, s2, s3⟩, ⟨b1, b2, b3, b4, b5, b6, b7, b8, b9⟩⟩ := S2.1
    have b2' : g ≤ pc_c P (k 0) := b2
    have b3' : k 6 ≤ pc_c P (k 0) := b3
    have b4' : k 3 ≤ k 1 := b4
    have b1' : a ≤ k 1 := b1
    have b5' : k 4 ≤ 2 * k 1 + 2 * k 9 := b5
    have b6' : k 5 ≤ pc_p P (k 0) := b6
    have b7' : k 7 ≤ pc_p P (k 0) := b7
    have b8' : 7 * k 8 ≤ 6 * k 1 + pc_p P (k 0) := b8
    refine ⟨w1, N.fr fc frw (fun j => by unfold xWc; omega) ⟨by unfold xWc; omega, by unfold xWc; omega, by unfold xWc; omega, by unfold xWc; omega⟩ ⟨by unfold xWr; omega, by unfold xWr; omega, by unfold xWr; omega, by unfold xWr; omega⟩ (fun b j y => by unfold xWr; omega), ⟨?_, ?_, w3, w4, w5, w6, ?_⟩, ⟨w7, w8, ?_, ?_, ?_, ?_, ?_⟩, ⟨w9, w10, ?_⟩, ⟨by omega, by omega, by omega, by omega, by omega, by omega, by omega, by omega, b9⟩⟩
    · rw [(fc 316 8 (by unfold xWc; omega)).1]; exact k1
    · rw [(fc 316 10 (by unfold xWc; omega)).1]; exact k2'
    · rw [(fc 428 18 (by unfold xWc; omega)).1]; exact k7
    · rw [(fc 845 12 (by unfold xWc; omega)).1]; exact v3
    · rw [(fc 845 13 (by unfold xWc; omega)).1]; exact v4
    · rw [(fc 845 14 (by unfold xWc; omega)).1]; exact v5
    · rw [(fc 845 15 (by unfold xWc; omega)).1]; exact v6
    · rw [(fc 845 16 (by unfold xWc; omega)).1]; exact v7
    · rw [(frw 950 81 (by unfold xWr; omega)).1]; exact s3
  have S3 : fs P nt f n2 Y n L ka a g (ck u' q' m' t' e' p' l' s' i' (k 9)) z.2 r3 := ⟨M', S2.2.1.fr fc frw ⟨by unfold xWc; omega, fun i _ => by unfold xWc; omega⟩ ⟨by unfold xWr; omega, fun i _ => by unfold xWr; omega⟩, S2.2.2.1.fr fc frw (fun b j _ _ => by unfold xWc; omega) (fun b j y => by unfold xWr; omega), S2.2.2.2.1, by rw [(frw 950 33 (by unfold xWr; omega)).1]; exact S2.2.2.2.2.1, by rw [(frw 950 34 (by unfold xWr; omega)).1]; exact S2.2.2.2.2.2⟩
  have kk : ∀ n3, mK n2 n3 x.2 r3 := fun n3 => mK.of frw (fun b j y => by unfold xWr; omega)
  have b5' : k 4 ≤ 2 * k 1 + 2 * k 9 := S.1.2.2.2.2.2.2.2.2.2.1
  have ml' := S3.1.1.mle (by decide)
  refine Or.inl ⟨ck u' q' m' t' e' p' l' s' i' (k 9), na, e', z1, rfl, S3, w11, rfl, ?_, rfl, ?_, fun x hx => ?_, fun n3 => ⟨?_, fc.mono (fun b j y => Or.inl y), (fxw.trans frw).mono (fun b j y => Or.inl y), fun j _ _ => (fc _ _ (by unfold xWc; omega)).1, fun y _ _ _ => by rw [(frw _ _ (by unfold xWr; omega)).1, (fxw _ _ (by unfold xWr; omega)).1], (mK.of fx (fun b j y => by unfold nd_W; omega)).trans (kk n3)⟩, fun n3 h3 => ⟨fun st => ?_, ?_⟩⟩
  · show k 0 ≤ u'
    omega
  · show l' + pc_c P (k 0) ≤ k 6 + pc_c P u'
    omega
  · show e' + x ≤ 2 * q' + 2 * k 9
    omega
  · show k 0 ≤ u' ∧ k 1 ≤ q' ∧ k 2 ≤ m' ∧ k 3 ≤ t' ∧ k 4 ≤ e' ∧ k 5 ≤ p' ∧ k 6 ≤ l' ∧ k 7 ≤ s' ∧ k 8 ≤ i' ∧ k 9 ≤ k 9
    omega
  · have D2 : xD (E_f f n v) c z.2 r3 (k 6) l' (k 8) i' (k 2) m' := xD0.trans D ⟨Nat.le_refl _, by omega⟩ ⟨Nat.le_refl _, by omega⟩ ⟨Nat.le_succ _, by omega⟩ (fun b j x1 x2 x3 => (fc b j (by unfold xWc; omega)).1) (fun j j1 j2 => by
      have g : ∀ b, b ≠ 959 → ((955 ≤ b ∧ b ≤ 962) ∨ b = 1003) → r3.1 b j = x.2.1 b j ∧ r3.2.1 b j = x.2.2.1 b j := fun b y y2 => ⟨(fr b j (by unfold rwr xWr; omega)).1, (fr b j (by unfold rwr xWr; omega)).2.1⟩
      exact ⟨(g 955 (by decide) (by decide)).1, (g 956 (by decide) (by decide)).1, (g 962 (by decide) (by decide)).1, (g 1003 (by decide) (by decide)).1, (g 957 (by decide) (by decide)).2, (g 958 (by decide) (by decide)).2, fun _ => (g 961 (by decide) (by decide)).1⟩)
    exact mB.ofX D2 (S3.mE hV h3) (fun j => (fc 7 j (by unfold xWc; omega)).1) st
  · refine ⟨Ee, GG, v12, by show k 2 < m'; omega, ?_, ch, bE.1, bE.2.1, Nat.le_refl _, fun j hj' => ?_⟩
    · rw [(fr 955 (k 2) (by unfold rwr xWr; omega)).1]
      exact nat.1
    · have a1 := bT.in hj'
      have a2 := bM.in hj'
      have a3 := bE.in hj'
      have G := hj j hj'
      have a4 := G.at
      refine ⟨by show GG j < m'; omega, TT j, S3.mE hV h3, a4.1, by show Ee (j + 1) ≤ e'; omega, by show GG j < m'; omega, TT (j + 1), k 6, l', MM j, MM (j + 1), p', s', m' - (k 2 + 1), ⟨by show TT (j + 1) ≤ t'; omega, Nat.le_refl _, Nat.le_refl _, Nat.le_refl _, by show MM (j + 1) ≤ m'; omega⟩, G⟩
end
