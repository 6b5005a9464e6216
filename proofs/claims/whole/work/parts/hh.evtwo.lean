/-! Level 2: exps worked out: two parts, then an operation on both. -/
/-- two VALUES lie there, on both sides -/
def T2 (D a H n1 k1 n2 k2 : Nat) (c1 r1 : t_S) : Prop := (VW (c1.2.1 338) (r1.2.1 1006) 120 a (260 * (40 + H)) n1 k1 ∧ VW (c1.2.1 338) (r1.2.1 1006) 120 (a + n1) (260 * (41 + H)) n2 k2) ∧ (c1.1 339 D = nI a ∧ c1.1 339 (D + 1) = nI (a + n1) ∧ c1.1 339 (D + 2) = nI (a + n1 + n2) ∧ c1.1 334 7 = nI (D + 2) ∧ c1.1 334 12 = 0) ∧ (r1.1 950 98 = nI (H + 2) ∧ r1.1 950 97 = 0) ∧ H < 750 ∧ D < 3150 ∧ a + 2000 ≤ 48000
section
variable {κ : KPP} {c0 r0 : t_S} {Kc : t_S → t_S → Prop} {Kr : Nat → Nat → t_S → t_S → Prop} {c r c1 r1 c' r' : t_S} {D a H S rr rr2 e0 e1 i g n nn m m0 m1 cnt o K st X b sz n0 n1 n2 k1 k2 : Nat} {x : Int32} {oc or : Option t_S}
/-- what follows a first part: the rest of the node, on both sides -/
def StW (κ : KPP) (c0 r0 : t_S) (Kc : t_S → t_S → Prop) (Kr : Nat → Nat → t_S → t_S → Prop) (F : t_S → Option t_S) (rr ea e1 sz : Nat) : Prop := ∀ c1 r1 D a H S, l2_fr (eZc c0) c0 c1 → l2_fr eZr r0 r1 → Eg D a H S c1 r1 → c1.1 339 D = nI a → (D + 15 ≤ 2800 + rr ∧ a + 1800 ≤ 4500 + 120 * rr ∧ H + 15 ≤ κ.k + rr ∧ κ.k ≤ 400 ∧ κ.s ≤ 13000) → Iv κ Kc Kr ea c1 r1 → S + sz ≤ κ.s → ∃ c2 r2 i u, (u ≤ e1 - ea ∧ ea ≤ i ∧ i ≤ e1 ∧ l2_tn b_X0_work_12 u (nI ea, c1) (nI i, c2)) ∧ F r1 = some r2 ∧ Ef c0 Kc (Kr ea e1) D a H S c1 r1 c2 r2 ∧ ((i = e1 ∧ Eg D a H S c2 r2) ∨ Eb ea e1 S c2 r2)
theorem Ef.dn {K1 K2 : t_S → t_S → Prop} {D' a' H' S' : Nat} (h : Ef c0 K1 K2 D' a' H' S' c r c' r') (hD : D ≤ D') (ha : a ≤ a') (hH : H ≤ H') (hS : S ≤ S') : Ef c0 K1 K2 D a H S c r c' r' := ⟨h.1.mono (fun b j y => y.up ha hD), h.2.1.mono (fun b j y => y.up hH hS), h.2.2.1, h.2.2.2⟩
theorem ev_spine2 (hK : EK Kc Kr) (hn : n < 13000) (hk : r0.1 955 n = nI K) (hK1 : (64 ≤ K ∧ K ≤ 70) ∨ K = 72) {a0 a1 ea : Nat} (h9 : r0.1 959 n = nI b) (hsz : a1 - a0 < m1 - m0) (hb : EVp κ c0 r0 Kc Kr g rr e0 ea a0 a1 b) (he : e0 ≤ ea) (he2 : ea ≤ e1) (St : StW κ c0 r0 Kc Kr (fun r1 => (R_X13_behindFirst g).1 (nI n) r1) rr ea e1 (m1 - m0)) : EVp κ c0 r0 Kc Kr g rr e0 e1 m0 m1 n := by
  intro c r D a H S hE hv hS
  obtain ⟨rp, hrp⟩ : ∃ rp, rp = t_setI (t_setI r 1008 S (nI n)) 950 103 (nI (S + 1)) := ⟨_, rfl⟩
  have fp : l2_fr (fun b j => (b = 1008 ∧ j = S) ∨ (b = 950 ∧ j = 103)) r rp := by rw [hrp]; exact (l2_fr.set (Or.inl ⟨rfl, rfl⟩)).trans (l2_fr.set (Or.inr ⟨rfl, rfl⟩))
  have p103 : rp.1 950 103 = nI (S + 1) := by rw [hrp, l2_g, if_pos rfl]
  have p8 : rp.1 1008 S = nI n := by rw [hrp, l2_sO (by decide), l2_g, if_pos rfl]
  have hEp : Ein κ c0 r0 rr D a H (S + 1) c rp := by
    obtain ⟨⟨q1, q2⟩, q3, ⟨q4, q5, q6⟩, q7⟩ := hE
    refine ⟨⟨q1, q2.trans (fp.mono (fun b j y => by unfold eZr eWr; omega))⟩, q3, ⟨?_, ?_, p103⟩, q7⟩
    · rw [(fp 950 98 (by omega)).1]; exact q4
    · rw [(fp 950 97 (by omega)).1]; exact q5
  have Fp : Ef c0 Kc (Kr e0 e0) D a H S c r c rp := Ef.of (h97 := fun _ => hE.2.2.1.2.1) hK (l2_fr.rf (W := fun _ _ => False)) fp (fun b j y => y.elim) (fun b j y => ⟨by unfold eWr; omega, by unfold eBr; omega⟩)
  obtain ⟨c1, r1, j, u, ⟨u1, u2, u3, u4⟩, F, O, W⟩ := hb c rp D a H (S + 1) hEp (hv.ef hK Fp) (by omega)
  have f8 : r1.1 1008 S = nI n := by rw [(F.2.1 1008 S (by unfold eWr; omega)).1]; exact p8
  have z := hEp.z F
  have Fs : Ef c0 Kc (Kr ea ea) D a H S c1 r1 c1 (t_setI r1 950 103 (nI S)) := Ef.of hK (l2_fr.rf (W := fun _ _ => False)) (l2_fr.set (W := fun b j => b = 950 ∧ j = 103) ⟨rfl, rfl⟩) (fun b j y => y.elim) (fun b j y => ⟨by unfold eWr; omega, by unfold eBr; omega⟩)
  have F1 : Ef c0 Kc (Kr e0 ea) D a H S c r c1 (t_setI r1 950 103 (nI S)) := (Fp.trans hK F (Nat.le_refl _) (Nat.le_refl _) (Nat.le_refl _) (by omega) : Ef c0 Kc (Kr e0 ea) D a H S c r c1 r1).trans hK Fs (Nat.le_refl _) (Nat.le_refl _) (Nat.le_refl _) (Nat.le_refl _)
  have rk : r.1 955 n = nI K := ((ez_r (b := 955) (j := n) hE.1.2 (by omega)).1).trans hk
  have r9 : r.1 959 n = nI b := ((ez_r (b := 959) (j := n) hE.1.2 (by omega)).1).trans h9
  rw [hrp] at W
  rcases O with ⟨rfl, G⟩ | B
  · have G' := Eg.s (S := S) G
    have e97 : r1.1 950 97 = 0 := G.2.2.2.1
    have e103 : r1.1 950 103 = nI (S + 1) := G.2.2.2.2
    have a39 : c1.1 339 D = nI a := by rw [(F.1 339 D (by unfold eWc; omega)).1]; exact hE.2.1.2.1
    obtain ⟨c2, r2, i2, u2', ⟨v1, v2, v3, v4⟩, s2, s3, s4⟩ := St c1 _ D a H S z.1 (z.2.trans (l2_fr.set (by unfold eZr eWr; omega))) G' a39 hE.2.2.2 (hv.ef hK F1) hS
    refine ⟨c2, r2, i2, u + u2', ⟨by omega, by omega, v3, u4.trans v4⟩, F1.trans hK s3 (Nat.le_refl _) (Nat.le_refl _) (Nat.le_refl _) (Nat.le_refl _), ?_, Rw.spine hn rk hK1 r9 hE.2.2.1.2.2 (hE.s13 hS) hsz W e103 f8 (Or.inr ⟨e97, s2⟩)⟩
    rcases s4 with s4 | s4
    · exact Or.inl s4
    · exact Or.inr (s4.w he (Nat.le_refl _))
  · have B' := Eb.s (S := S) B
    obtain ⟨er, st, q1, q2, q3, q4, q5, q6, q7⟩ := B
    have ne : r1.1 950 97 ≠ 0 := by rw [q3]; exact nI_ne0 (by omega) (by omega)
    exact ⟨c1, _, j, u, ⟨by omega, u2, by omega, u4⟩, F1.w hK (Nat.le_refl _) he2, Or.inr (B'.w (Nat.le_refl _) he2), Rw.spine hn rk hK1 r9 hE.2.2.1.2.2 (hE.s13 hS) hsz W q7 f8 (Or.inl ⟨ne, rfl⟩)⟩
/-- a second part, then an operation on both -/
theorem stw_two {F G : t_S → Option t_S} {n1' : Nat} (hK : EK Kc Kr) (h2 : c0.1 334 2 = nI cnt) (hc : cnt ≤ 16000) (hi : e1 - 1 < cnt) {ea : Nat} (h0 : ea < e1) (ho : px_o c0 (e1 - 1) o 0) (o1 : 14 < o) (o2 : o ≤ 27) (hr : rr < rr2) (hr2 : rr ≤ 360) (hb : EVp κ c0 r0 Kc Kr g rr2 ea (e1 - 1) n0 n1' b) (hsz : n1' - n0 ≤ sz) (U : ∀ c1 r1 D a H n1 k1 n2 k2, l2_fr (eZc c0) c0 c1 → l2_fr eZr r0 r1 → T2 D a H n1 k1 n2 k2 c1 r1 → UO D a H c1 r1 (f_X0_binary (nI o) c1) (G r1)) (hF : ∀ r1, l2_fr eZr r0 r1 → F r1 = ((R_X13_behindFirst (g + 1)).2.2.2.2.2.2.2.1 (nI b) r1).bind (fun r3 => if (r3.1 950 97) = (0 : Int32) then G r3 else some r3)) : StW κ c0 r0 Kc Kr F rr ea e1 sz := by
  intro c1 r1 D a H S z1 z2 hG hA ⟨b1, b2, b3⟩ hv hS
  obtain ⟨⟨n1, k1, V, e39⟩, ⟨e7, e12⟩, e98, e97, e103⟩ := hG
  have pp := V.pos
  have mm := V.m2
  have hE : Ein κ c0 r0 rr2 (D + 1) (a + n1) (H + 1) S c1 r1 := ⟨⟨z1, z2⟩, ⟨e7, e39, e12⟩, ⟨e98, e97, e103⟩, by omega, by omega, by omega⟩
  obtain ⟨c2, r2, j, u, ⟨u1, u2, u3, u4⟩, Fr, O, W⟩ := hb.wk hE hv (by omega)
  have z := hE.z Fr
  have Fd : Ef c0 Kc (Kr ea (e1 - 1)) D a H S c1 r1 c2 r2 := Fr.dn (by omega) (by omega) (by omega) (Nat.le_refl _)
  have hFr := hF r1 z2
  rw [W, l2_bs] at hFr
  rcases O with ⟨rfl, G2⟩ | B
  · obtain ⟨⟨n2, k2, V2, f39⟩, ⟨f7, f12⟩, f98, f97, f103⟩ := G2
    rw [if_pos f97] at hFr
    have V1 : VW (c2.2.1 338) (r2.2.1 1006) 120 a (260 * (40 + H)) n1 k1 := VW.copy _ _ _ _ _ _ _ V (fun d hd => (Fr.1 338 _ (by unfold eWc; omega)).2.1) (fun d hd => (Fr.2.1 1006 _ (by unfold eWr; omega)).2.1)
    have g39 : c2.1 339 D = nI a := by rw [(Fr.1 339 D (by unfold eWc; omega)).1]; exact hA
    have h39 : c2.1 339 (D + 1) = nI (a + n1) := by rw [(Fr.1 339 (D + 1) (by unfold eWc; omega)).1]; exact e39
    have f1 : l2_fr (fun b j => b = 334 ∧ j = 13) c2 (t_setI c2 334 13 (nI (e1 - 1))) := l2_fr.set ⟨rfl, rfl⟩
    have v13 : (t_setI c2 334 13 (nI (e1 - 1))).1 334 13 = nI (e1 - 1) := by rw [l2_g, if_pos rfl]
    have t := cw_turn z.1 h2 hc hi ho (by omega) (by omega) f12
    rw [if_pos (by omega), if_pos o1, if_neg (by omega)] at t
    generalize t_setI c2 334 13 (nI (e1 - 1)) = cs at *
    have zz : l2_fr (eZc c0) c0 cs := z.1.trans (f1.mono (fun b j y => by unfold eZc eWc; omega))
    have h41 : 260 * (41 + H) = 260 * (40 + (H + 1)) := by omega
    have T : T2 D a H n1 k1 n2 k2 cs r2 := ⟨⟨VW.copy _ _ _ _ _ _ _ V1 (fun d _ => (f1 338 _ (by omega)).2.1) (fun _ _ => rfl), by rw [h41]; exact VW.copy _ _ _ _ _ _ _ V2 (fun d _ => (f1 338 _ (by omega)).2.1) (fun _ _ => rfl)⟩, ⟨((f1 339 D (by omega)).1).trans g39, ((f1 339 _ (by omega)).1).trans h39, ((f1 339 _ (by omega)).1).trans f39, ((f1 334 7 (by omega)).1).trans f7, ((f1 334 12 (by omega)).1).trans f12⟩, ⟨f98, f97⟩, by omega, by omega, by omega⟩
    have uo := U cs r2 D a H n1 k1 n2 k2 zz z.2 T
    obtain ⟨c3, r3, q1, q2, q3, q4⟩ := uo.fin (c0 := c0) (Kc := Kc) (Kr := Kr) hK f1 v13 f103 f97
    refine ⟨c3, r3, e1, u + 1, ⟨by omega, by omega, Nat.le_refl _, u4.trans (l2_tn.one (by rw [t, q1, l2_bs, show e1 - 1 + 1 = e1 by omega]))⟩, by rw [hFr, q2], Fd.trans hK q3 (Nat.le_refl _) (Nat.le_refl _) (Nat.le_refl _) (Nat.le_refl _), q4.imp (fun y => ⟨rfl, y⟩) (fun y => y.w (by omega) (by omega))⟩
  · have B' := B
    obtain ⟨er, st, q1, q2, q3, q4, q5, q6, q7⟩ := B
    have ne : r2.1 950 97 ≠ 0 := by rw [q3]; exact nI_ne0 (by omega) (by omega)
    rw [if_neg ne] at hFr
    exact ⟨c2, r2, j, u, ⟨by omega, u2, by omega, u4⟩, hFr, Fd.w hK (Nat.le_refl _) (by omega), Or.inr (B'.w (Nat.le_refl _) (by omega))⟩
/-- the class is about to do an operation on its two top VALUES -/
theorem bi_c (h : T2 D a H n1 k1 n2 k2 c1 r1) (X : Int64 → Int64 → t_S → Option t_S) (hX : ∀ (w v : Int64), X w v c1 = (if x = (15 : Int32) then ((f_X0_index w v c1).bind (fun r17 => some (r17)))
 else (if x = (21 : Int32) then ((f_X0_join w v c1).bind (fun r16 => some (r16)))
 else (if x < (26 : Int32) then (if (f_X8_kind w c1) = (0 : Int32) then (if (f_X8_kind v c1) = (0 : Int32) then (if x < (22 : Int32) then ((f_X0_reckon x (f_X8_told w c1) (f_X8_told v c1) c1).bind (fun r9 => some (r9)))
 else (t_let (t_setI c1 334 7 ((c1.1 334 7) - (1 : Int32))) (fun s1 =>
 (f_X0_replaceTop (f_X0_truth (f_X0_isOrdered x (f_X8_told w s1) (f_X8_told v s1) s1) s1) s1).bind (fun r14 => some (r14)))))
 else (k_X0_binary_178 c1))
 else (k_X0_binary_178 c1))
 else ((f_X8_same 338 (nI a) 338 (nI (a + n1)) c1).bind (fun r15 =>
 t_let (t_setI c1 334 7 ((c1.1 334 7) - (1 : Int32))) (fun s2 =>
 if x = (26 : Int32) then (k_X0_binary_146 1 r15 s2)
 else (k_X0_binary_146 0 r15 s2)))))))) : f_X0_binary x c1 = X (c1.2.1 338 a) (c1.2.1 338 (a + n1)) c1 := by
  obtain ⟨⟨V, V2⟩, ⟨hA, h39, h392, h7, h12⟩, ⟨h98, h97⟩, b1, b2, b3⟩ := h
  have pp := V.pos
  have s2 : c1.1 334 7 - (2 : Int32) = nI D := by
    rw [h7, show (2 : Int32) = nI 2 from rfl, Nat.add_comm D 2]; exact vr_len
  have s1 : c1.1 334 7 - (1 : Int32) = nI (D + 1) := by rw [h7, sy_m1n (by omega), show D + 2 - 1 = D + 1 by omega]
  rw [hX]
  unfold f_X0_binary
  rw [s2, s1, h7, nI_clamp (n := D) (by omega), nI_clamp (n := D + 1) (by omega), hA, h39, nI_clamp (n := a) (by omega), nI_clamp (n := a + n1) (by omega), if_pos (show (2 : Int32) ≤ nI (D + 2) from nI_le (a := 2) (by omega) (by omega)), if_pos (l2_ix (by omega) (by decide)), if_pos (l2_ix (by omega) (by decide)), if_pos (l2_ix (by omega) (by decide)), if_pos (l2_ix (by omega) (by decide))]
end
