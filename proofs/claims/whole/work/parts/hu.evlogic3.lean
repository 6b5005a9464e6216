/-! Level 2: exps worked out: && and ||, both sides. -/
section
variable {κ : KPP} {c0 r0 : t_S} {Kc : t_S → t_S → Prop} {Kr : Nat → Nat → t_S → t_S → Prop} {c r c1 r1 c' r' cs : t_S} {D a H S rr rr2 e0 e1 ea i g n nn m m0 m1 cnt o K st x b sz n0 n1 n2 k1 k2 fa : Nat}
/-- the head of a VALUE, for truths -/
theorem VW.hd1 {c r : Nat → Int64} {f a p n m : Nat} (V : VW c r f a p n m) : ∃ (t : Int) (k : Nat), vl_c t n k (c a) ∧ k ≤ 8 ∧ r p = lN k ∧ (k = 1 → (t = 0 ∨ t = 1) ∧ (r (p + 1)).toInt = t) := by
  obtain ⟨t, k, h1, h2, h3, _, h4, _, h5, _⟩ := V.hd
  exact ⟨t, k, h1, h2, h3, fun e => ⟨h5 e, h4 (Or.inr (Or.inl ⟨e, h5 e⟩))⟩⟩
/-- a truth, or an ERROR -/
theorem tru_c {t : Int} {k : Nat} (h7 : cs.1 334 7 = nI (D + 1)) (hA : cs.1 339 D = nI a) (hD : D < 3150) (ha : a < 48000) (hc : vl_c t nn k (cs.2.1 338 a)) (x : Int32) : f_X0_gather (nI 30) x cs = some (if k = 1 then cs else t_setI cs 334 12 1) := by
  obtain ⟨q1, q2⟩ := tp_c h7 hA hD ha
  have kb := hc.2.2
  have qk : nI k = (1 : Int32) ↔ k = 1 := nI_eq (b := 1) (by omega) (by decide)
  unfold f_X0_gather
  rw [if_neg (by decide), if_pos (by decide), q1, l2_bs, vl_kind hc]
  by_cases e : k = 1
  · rw [if_pos (qk.mpr e), if_pos e]
  · rw [if_neg (fun y => e (qk.mp y)), if_neg e]
    rfl
/-- where a jump goes on -/
theorem jb {ρ : Type} {oj : Option (Int32 × t_S)} {p : Nat} (hp : i ≤ p) (h2 : p < 2 ^ 30) (h : oj = some (nI p, c')) : (oj.bind (fun r4 => some (Sum.inl ((if nI i < r4.1 then r4.1 else nI i) + 1, r4.2))) : Option ((Int32 × t_S) ⊕ ρ)) = some (Sum.inl (nI (p + 1), c')) := by
  rw [h, l2_bs]
  show some (Sum.inl ((if nI i < nI p then nI p else nI i) + 1, c')) = _
  by_cases e : i = p
  · subst e
    rw [ite_self, nI_1]
  · rw [if_pos ((nI_ltI (by omega) (by omega)).mpr (by omega)), nI_1]
theorem stw_log (hx : px_log x o) (hK : EK Kc Kr) (h2 : c0.1 334 2 = nI cnt) (hc : cnt ≤ 16000) (hi : e1 - 1 < cnt) (h0 : ea + 1 ≤ e1 - 1) (ho : px_o c0 ea o (nI e1)) (ho2 : px_o c0 (e1 - 1) 30 0) (hn : n < 13000) (hfa : fa < 13000) (hk : r0.1 955 n = 70) (h7 : r0.2.1 957 n = lN x) (h9 : r0.1 959 n = nI fa) (h10 : r0.1 960 fa = nI b) (hr : rr < rr2) (hr2 : rr ≤ 360) {n1' : Nat} (hb : EVp κ c0 r0 Kc Kr g rr2 (ea + 1) (e1 - 1) n0 n1' b) (hsz : n1' - n0 ≤ sz) : StW κ c0 r0 Kc Kr (fun r1 => (R_X13_behindFirst (g + 3)).1 (nI n) r1) rr ea e1 sz := by
  intro c1 r1 D a H S z1 z2 hG hA ⟨b1, b2, b3⟩ hv hS
  obtain ⟨⟨n1, k1, V, e39⟩, ⟨e7, e12⟩, e98, e97, e103⟩ := hG
  have pp := V.pos
  have o89 : o = 28 ∨ o = 29 := by unfold px_log at hx; omega
  have xb : x < 100000 ∧ (x = 9766 ∨ x = 31868) := by unfold px_log at hx; omega
  obtain ⟨t, k, hd, k8, p0, ptt⟩ := V.hd1
  have pt : k = 1 → t = 0 ∨ t = 1 := fun e => (ptt e).1
  -- the reference
  have q5 := ((ez_r (b := 955) (j := n) z2 (by omega)).1).trans hk
  have q7 := ((ez_r (b := 957) (j := n) z2 (by omega)).2.1).trans h7
  have q9 := ((ez_r (b := 959) (j := n) z2 (by omega)).1).trans h9
  have q10 := ((ez_r (b := 960) (j := fa) z2 (by omega)).1).trans h10
  have FR : (R_X13_behindFirst (g + 3)).1 (nI n) r1 = k_X13_two_29 (R_X13_behindFirst (g + 1)) (nI x) (nI fa) r1 := by
    rw [bf_two (g := g + 1) hn q5]
    unfold m_X13_two
    rw [if_pos (l2_ix hn (by decide)), nI_clamp (n := n) (by omega), q7, lN_w, q9]
    rcases xb.2 with e | e
    · rw [e, if_pos (show nI 9766 = (9766 : Int32) from rfl)]
    · rw [e, if_neg (show ¬ nI 31868 = (9766 : Int32) by decide), if_pos (show nI 31868 = (31868 : Int32) from rfl)]
  obtain ⟨J1, J2, J3⟩ := jmp_r (t := t) (rc := R_X13_behindFirst (g + 1)) hx e98 (by omega) (by omega) p0 ptt hfa q10
  -- the class
  have f1 : l2_fr (fun b j => b = 334 ∧ j = 13) c1 (t_setI c1 334 13 (nI ea)) := l2_fr.set ⟨rfl, rfl⟩
  have v13 : (t_setI c1 334 13 (nI ea)).1 334 13 = nI ea := by rw [l2_g, if_pos rfl]
  have tt := cw_turn z1 h2 hc (i := ea) (by omega) ho (by omega) (by omega) e12
  rw [if_pos (by omega), if_pos (by omega), if_pos (by omega), if_neg (by omega)] at tt
  generalize t_setI c1 334 13 (nI ea) = cs at *
  have zz : l2_fr (eZc c0) c0 cs := z1.trans (f1.mono (fun b j y => by unfold eZc eWc; omega))
  have s7 : cs.1 334 7 = nI (D + 1) := by rw [(f1 334 7 (by omega)).1]; exact e7
  have sA : cs.1 339 D = nI a := by rw [(f1 339 D (by omega)).1]; exact hA
  have s39 : cs.1 339 (D + 1) = nI (a + n1) := by rw [(f1 339 (D + 1) (by omega)).1]; exact e39
  have s12 : cs.1 334 12 = 0 := by rw [(f1 334 12 (by omega)).1]; exact e12
  have s38 : ∀ j, cs.2.1 338 j = c1.2.1 338 j := fun j => (f1 338 j (by omega)).2.1
  have s36 : cs.1 336 ea = nI e1 := by rw [(ez_c (b := 336) (j := ea) zz (by omega)).1]; exact ho.2
  obtain ⟨C1, C2, C3⟩ := jmp_c (nn := n1) (t := t) (k := k) o89 s7 sA (by omega) (by omega) (by rw [s38]; exact hd) pt (ea := ea) (by omega) s36 ⟨by omega, by omega⟩
  clear ptt pt o89 xb k8
  have Ef0 : Ef c0 Kc (Kr ea (ea + 1)) D a H S c1 r1 cs r1 := Ef.of hK f1 (l2_fr.rf (W := fun _ _ => False)) (fun b j y => ⟨by unfold eWc; omega, by unfold eBc; omega⟩) (fun b j y => y.elim)
  show ∃ c2 r2 i u, _ ∧ (R_X13_behindFirst (g + 3)).1 (nI n) r1 = some r2 ∧ _
  rw [FR]
  by_cases k0 : k = 1
  · by_cases jc : jC o t
    · -- it goes on behind
      have tt := tt.trans (jb (i := ea) (by omega) (by omega) (C2 k0 jc))
      rw [show e1 - 1 + 1 = e1 by omega] at tt
      refine ⟨cs, r1, e1, 1, ⟨by omega, by omega, Nat.le_refl _, l2_tn.one tt⟩, J2 k0 jc, Ef0.w hK (Nat.le_refl _) (by omega), Or.inl ⟨rfl, ⟨n1, k1, VW.copy _ _ _ _ _ _ _ V (fun d _ => s38 _) (fun _ _ => rfl), s39⟩, ⟨s7, s12⟩, e98, e97, e103⟩⟩
    · -- the second part
      have tt := tt.trans (jb (i := ea) (Nat.le_refl _) (by omega) (C3 k0 jc))
      have J := J3 k0 jc
      have g7 : (t_setI cs 334 7 (nI D)).1 334 7 = nI D := by rw [l2_g, if_pos rfl]
      have gA : (t_setI cs 334 7 (nI D)).1 339 D = nI a := by rw [l2_sO (by decide)]; exact sA
      have g12 : (t_setI cs 334 7 (nI D)).1 334 12 = 0 := by rw [l2_g, if_neg (by decide)]; exact s12
      have fg : l2_fr (fun b j => b = 334 ∧ j = 7) cs (t_setI cs 334 7 (nI D)) := l2_fr.set ⟨rfl, rfl⟩
      have y98 : (t_setI r1 950 98 (nI H)).1 950 98 = nI H := by rw [l2_g, if_pos rfl]
      have y97 : (t_setI r1 950 98 (nI H)).1 950 97 = 0 := by rw [l2_g, if_neg (by decide)]; exact e97
      have y103 : (t_setI r1 950 98 (nI H)).1 950 103 = nI S := by rw [l2_g, if_neg (by decide)]; exact e103
      have fy : l2_fr (fun b j => b = 950 ∧ j = 98) r1 (t_setI r1 950 98 (nI H)) := l2_fr.set ⟨rfl, rfl⟩
      generalize t_setI cs 334 7 (nI D) = cg at *
      generalize t_setI r1 950 98 (nI H) = ry at *
      have Ef1 : Ef c0 Kc (Kr ea (ea + 1)) D a H S c1 r1 cg ry := Ef0.trans hK (Ef.of (D := D) (a := a) (H := H) (S := S) (x := ea + 1) (y := ea + 1) hK fg fy (fun b j y => ⟨by unfold eWc; omega, by unfold eBc; omega⟩) (fun b j y => ⟨by unfold eWr; omega, by unfold eBr; omega⟩)) (Nat.le_refl _) (Nat.le_refl _) (Nat.le_refl _) (Nat.le_refl _)
      have hE : Ein κ c0 r0 rr2 D a H S cg ry := ⟨⟨zz.trans (fg.mono (fun b j y => by unfold eZc eWc; omega)), z2.trans (fy.mono (fun b j y => by unfold eZr eWr; omega))⟩, ⟨g7, gA, g12⟩, ⟨y98, y97, y103⟩, by omega, by omega, by omega⟩
      obtain ⟨c2, r2, j, u, ⟨u1, u2, u3, u4⟩, Fr, O, W⟩ := hb.wk hE (hv.ef hK Ef1) (by omega)
      have z := hE.z Fr
      have F2 : Ef c0 Kc (Kr ea (e1 - 1)) D a H S c1 r1 c2 r2 := Ef1.trans hK Fr (Nat.le_refl _) (Nat.le_refl _) (Nat.le_refl _) (Nat.le_refl _)
      rw [W, l2_bs] at J
      have T1' := (l2_tn.one tt).trans u4
      rcases O with ⟨rfl, G2⟩ | B
      · obtain ⟨⟨n2, k2, V2, f39⟩, ⟨f7, f12⟩, f98, f97, f103⟩ := G2
        rw [if_pos f97] at J
        obtain ⟨t2, kk, hd2, kk8, pp0, _⟩ := V2.hd1
        have pp2 := V2.pos
        have fA : c2.1 339 D = nI a := by rw [(Fr.1 339 D (by unfold eWc; omega)).1]; exact gA
        have h1' : l2_fr (fun b j => b = 334 ∧ j = 13) c2 (t_setI c2 334 13 (nI (e1 - 1))) := l2_fr.set ⟨rfl, rfl⟩
        have w13 : (t_setI c2 334 13 (nI (e1 - 1))).1 334 13 = nI (e1 - 1) := by rw [l2_g, if_pos rfl]
        have t3 := cw_turn z.1 h2 hc hi ho2 (by decide) (by decide) f12
        rw [if_pos (by decide), if_pos (by decide), if_pos (by decide), if_pos (by decide), if_neg (by decide)] at t3
        generalize t_setI c2 334 13 (nI (e1 - 1)) = ct at *
        have w7 : ct.1 334 7 = nI (D + 1) := by rw [(h1' 334 7 (by omega)).1]; exact f7
        have wA : ct.1 339 D = nI a := by rw [(h1' 339 D (by omega)).1]; exact fA
        have w39 : ct.1 339 (D + 1) = nI (a + n2) := by rw [(h1' 339 (D + 1) (by omega)).1]; exact f39
        have w12 : ct.1 334 12 = 0 := by rw [(h1' 334 12 (by omega)).1]; exact f12
        have w38 : ∀ j, ct.2.1 338 j = c2.2.1 338 j := fun j => (h1' 338 j (by omega)).2.1
        rw [tru_c (nn := n2) (t := t2) (k := kk) w7 wA (by omega) (by omega) (by rw [w38]; exact hd2), l2_bs, show e1 - 1 + 1 = e1 by omega] at t3
        have et := un_r f98
        have zk : lg_cmp (lN kk) (1 : Int64) = 0 ↔ kk = 1 := by
          have : lg_cmp (lN kk) (lN 1) = 0 ↔ kk = 1 := by
            rw [l2_cmp0]
            exact ⟨fun q => lN_inj (by omega) (by omega) q, fun q => by rw [q]⟩
          exact this
        rw [et, if_pos (l2_ix (by omega) (by decide)), nI_clamp (n := 260 * (40 + H)) (by omega), pp0] at J
        have Ef3 : Ef c0 Kc (Kr (e1 - 1) e1) D a H S c2 r2 ct r2 := Ef.of hK h1' (l2_fr.rf (W := fun _ _ => False)) (fun b j y => ⟨by unfold eWc; omega, by unfold eBc; omega⟩) (fun b j y => y.elim)
        by_cases e : kk = 1
        · rw [if_pos e] at t3
          rw [if_pos (zk.mpr e)] at J
          exact ⟨ct, r2, e1, 1 + u + 1, ⟨by omega, by omega, Nat.le_refl _, T1'.trans (l2_tn.one t3)⟩, J, F2.trans hK Ef3 (Nat.le_refl _) (Nat.le_refl _) (Nat.le_refl _) (Nat.le_refl _), Or.inl ⟨rfl, ⟨n2, k2, VW.copy _ _ _ _ _ _ _ V2 (fun d _ => w38 _) (fun _ _ => rfl), w39⟩, ⟨w7, w12⟩, f98, f97, f103⟩⟩
        · rw [if_neg e] at t3
          rw [if_neg (fun y => e (zk.mp y))] at J
          obtain ⟨r3, o1, o2, o3⟩ := rs_error (e := 1) f97
          rw [o1, l2_bs] at J
          obtain ⟨E1, E2⟩ := er_fin (c0 := c0) (D := D) (a := a) (H := H) (e0 := e1 - 1) (e1 := e1) (er := 1) hK f103 h1' w13 (l2_fr.set (s := ct) (v := 1) (W := fun b j => b = 334 ∧ j = 12) ⟨rfl, rfl⟩) (fun b j y => by omega) o3 (fun b j y => by omega) (by decide) (by rw [l2_g, if_pos rfl]; rfl) o2 ⟨Nat.le_refl _, by omega⟩
          exact ⟨_, r3, e1, 1 + u + 1, ⟨by omega, by omega, Nat.le_refl _, T1'.trans (l2_tn.one t3)⟩, J, F2.trans hK E1 (Nat.le_refl _) (Nat.le_refl _) (Nat.le_refl _) (Nat.le_refl _), Or.inr (E2.w (by omega) (Nat.le_refl _))⟩
      · have B' := B
        obtain ⟨er, st, q1, q2, q3, q4, q5, q6, q7⟩ := B
        have ne : r2.1 950 97 ≠ 0 := by rw [q3]; exact nI_ne0 (by omega) (by omega)
        rw [if_neg ne] at J
        exact ⟨c2, r2, j, 1 + u, ⟨by omega, by omega, by omega, T1'⟩, J, F2.w hK (Nat.le_refl _) (by omega), Or.inr (B'.w (by omega) (by omega))⟩
  · -- no truth
    have tt := tt.trans (jb (i := ea) (Nat.le_refl _) (by omega) (C1 k0))
    obtain ⟨r3, o1, o2, o3⟩ := rs_error (e := 1) e97
    obtain ⟨E1, E2⟩ := er_fin (c0 := c0) (D := D) (a := a) (H := H) (e0 := ea) (e1 := ea + 1) (er := 1) hK e103 f1 v13 (l2_fr.set (s := cs) (v := 1) (W := fun b j => b = 334 ∧ j = 12) ⟨rfl, rfl⟩) (fun b j y => by omega) o3 (fun b j y => by omega) (by decide) (by rw [l2_g, if_pos rfl]; rfl) o2 ⟨Nat.le_refl _, by omega⟩
    exact ⟨_, r3, ea + 1, 1, ⟨by omega, by omega, by omega, l2_tn.one tt⟩, by rw [J1 k0, o1, l2_bs], E1.w hK (Nat.le_refl _) (by omega), Or.inr (E2.w (Nat.le_refl _) (by omega))⟩
/-- && and || -/
theorem ev_log (hx : px_log x o) (hK : EK Kc Kr) (hr : rr ≤ 360) (h2 : c0.1 334 2 = nI cnt) (hc : cnt ≤ 16000) (hi : e1 - 1 < cnt) (h01 : e0 ≤ ea) (h0 : ea + 1 ≤ e1 - 1) (ho : px_o c0 ea o (nI e1)) (ho2 : px_o c0 (e1 - 1) 30 0) (hn : n < 13000) (hfa : fa < 13000) (hk : r0.1 955 n = 70) (h7 : r0.2.1 957 n = lN x) (h9 : r0.1 959 n = nI fa) (h10 : r0.1 960 fa = nI b) (hm : m0 ≤ n ∧ n < m1) (ha : EVp κ c0 r0 Kc Kr (g + 3) rr e0 ea m0 n fa) (hb : EVp κ c0 r0 Kc Kr g (rr + 1 + (15 - rr % 20)) (ea + 1) (e1 - 1) (n + 1) m1 b) : EVp κ c0 r0 Kc Kr (g + 3) rr e0 e1 m0 m1 n :=
  ev_spine2 (K := 70) hK hn hk (by omega) h9 (by omega) ha h01 (by omega) (stw_log hx hK h2 hc hi h0 ho ho2 hn hfa hk h7 h9 h10 (by omega) hr hb (by omega))
end
