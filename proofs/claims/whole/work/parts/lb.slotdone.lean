/-! Level 2: told templates are settled by the class: one = ( ). -/
/-- what settling stands on: code and templs' nodes as in cs, the reference's nodes as in r0 -/
structure StH (WN : Nat → Nat → Prop) (cs r0 : t_S) (RM : t_S → Prop) (wS : Nat → Nat) (p1 s1 P0 cnt : Nat) : Prop where
  h2 : cs.1 334 2 = nI cnt
  hc : cnt ≤ 16000
  rm0 : RM r0
  rmz : ∀ r r', RM r → l2_fr eZr r r' → RM r'
  rms : ∀ r, RM r → ∀ b j, 955 ≤ b → b ≤ 963 → r.1 b j = r0.1 b j ∧ r.2.1 b j = r0.2.1 b j
  wv : ∀ s r e k, s.1 335 e = cs.1 335 e → s.1 336 e = cs.1 336 e → RM r → WN e k → WV s r e k
  wo : ∀ e k, WN e k → ∃ o : Nat, 0 < o ∧ o < 34 ∧ cs.1 335 e = nI o
  p1 : p1 ≤ P0
  p26 : P0 ≤ 26000
  s1 : s1 ≤ 24300
  wm : ∀ a b, a ≤ b → wS a ≤ wS b
  sz : ∀ s s' a b u nn, (∀ j, a ≤ j → j < b → s.1 335 j = cs.1 335 j ∧ s.1 336 j = cs.1 336 j) → (∀ j, j < P0 → s.2.1 337 j = cs.2.1 337 j) → s.1 334 2 = cs.1 334 2 → s.1 334 7 = 0 → s.1 339 0 = 0 → s.1 334 12 = 0 → (∀ i, a ≤ i → i < b → cs.1 335 i ≠ 0 ∧ cs.1 335 i ≠ 34) → l2_tn b_X0_work_12 u (nI a, s) (nI b, s') → u ≤ b - a → s'.1 334 12 = 0 → s'.1 334 7 = nI 1 → s'.1 339 1 = nI nn → nn ≤ 120 → nn + wS a ≤ wS b
section
variable {WN AN TN : Nat → Nat → Prop} {SN : Nat → Nat → Prop} {cs r0 s : t_S} {Y : t_S → Prop} {RM : t_S → Prop} {wS : Nat → Nat} {p1 s1 cnt P0 pp TE k f rr e0 e1 t0 t1 m0 mE n' : Nat} {lv : Int32}
/-- a told exp, as it stands in a state of settling -/
theorem SI.tx (H : StH WN cs r0 RM wS p1 s1 P0 cnt) (S : SI cs s t0 TE P0 pp) (x : XR WN AN TN SN cs r0 p1 s1 f 0 lv rr e0 e1 t0 t1 m0 mE n') (h10 : 10 ≤ rr) (hm : mE ≤ 13000) (he : e1 ≤ cnt) (ht : t1 ≤ TE) (ntb : ∀ k, m0 ≤ k → k < mE → ¬ TB r0 k) {s' : t_S} (ho : ∀ j, e0 ≤ j → j < e1 → s'.1 335 j = s.1 335 j ∧ s'.1 336 j = s.1 336 j) (hs : ∀ b j, b ≠ 335 → s'.1 b j = s.1 b j) (hs2 : ∀ b j, s'.2.1 b j = s.2.1 b j) : TX s' RM e0 e1 m0 mE n' := by
  have x0 := XR.pos _ _ _ _ _ _ _ _ _ _ x
  have p26 := H.p26
  have hp1 := H.p1
  refine ⟨⟨x0, hm, cnt, by rw [hs 334 2 (by decide), S.cnt]; exact H.h2, he, H.hc⟩, fun r hr => ?_⟩
  have hn := H.rms r hr
  refine ⟨fun e k => WN e k ∧ e0 ≤ e ∧ e < e1, fun _ _ => True, fun _ _ => True, fun _ _ => True, p1, s1, f, rr, t0, t1, lv, by omega, H.s1, h10, ?_, fun k k1 k2 => ?_, fun e k hw => ?_⟩
  · refine XR.ax (Nat.le_refl _) (Nat.le_refl _) _ _ _ _ _ _ _ _ _ _ _ x ⟨fun j a b => ?_, fun b j b1 b2 j1 j2 _ => ?_, fun j j1 j2 _ => ?_, fun j hj => ?_, fun b j b1 b2 _ _ _ => hn b j b1 (by omega), fun j _ => (hn 963 j (by decide) (by decide)).1⟩ (fun i k a b _ _ hw => ⟨hw, a, b⟩) (fun _ _ _ _ _ _ _ => trivial) (fun _ _ _ _ _ _ _ => trivial) (fun _ _ _ _ _ _ _ => trivial) f (Nat.le_refl _)
    · rw [(ho j a b).1, (ho j a b).2]; exact S.op j
    · rw [hs b j (by omega)]; exact (S.tm b j b1 (by omega) j1 (by omega)).1
    · rw [hs2, hs2]; exact ⟨(S.tm 361 j (by decide) (by decide) j1 (by omega)).2, (S.tm 362 j (by decide) (by decide) j1 (by omega)).2⟩
    · rw [hs2]; exact S.pl.1 j (by omega)
  · intro ⟨K, h1, h2⟩
    exact ntb k k1 k2 ⟨K, by rw [← (hn 955 k (by decide) (by decide)).1]; exact h1, h2⟩
  · obtain ⟨hw, e1', e2'⟩ := hw
    refine H.wv s' r e k ?_ ?_ hr hw
    · rw [(ho e e1' e2').1]; exact (S.op e).1
    · rw [(ho e e1' e2').2]; exact (S.op e).2
/-- one = ( ), whatever comes of it -/
theorem st_slot (H : StH WN cs r0 RM wS p1 s1 P0 cnt) (S : SI cs s t0 TE P0 pp) (he : e0 < e1) (he1 : e1 < cnt) (h59 : r0.1 959 m0 = nI n') (hn' : n' < 13000) (ho : px_o cs (e1 - 1) 34 (nI t0)) (hsn : cs.1 354 t0 = 17 ∧ cs.2.1 362 t0 = 0) (x : XR WN AN TN SN cs r0 p1 s1 f 0 lv rr e0 (e1 - 1) (t0 + 1) t1 (m0 + 1) mE n') (h10 : 10 ≤ rr) (ht1 : t1 ≤ TE) (hTE : TE ≤ 6100) (ht : t0 < t1) {ME : Nat} (hm : m0 < mE ∧ mE ≤ ME ∧ ME ≤ 13000) (ntb : ∀ k, m0 + 1 ≤ k → k < mE → ¬ TB r0 k) (hk : k + 1 < 6100) (room : pp + wS (e1 - 1) ≤ 26000 + wS e0) (cont : ∀ s' k' pp', SI cs s' t1 TE P0 pp' → l2_fr (seW cs t0 t1 pp) s s' → pp ≤ pp' → pp' + wS e0 ≤ pp + wS (e1 - 1) → FS RM r0 ME pp' s' t0 m0 → k ≤ k' → k' ≤ k + 1 → SX k' e1 s' Y) : SX k e0 s Y := by
  have x0 := XR.pos _ _ _ _ _ _ _ _ _ _ x
  have hc := H.hc
  have S1 : SI cs s (t0 + 1) TE P0 pp := ⟨S.op, S.cnt, fun b j a1 a2 a3 a4 => S.tm b j a1 a2 (by omega) a4, S.pl, S.pp, S.md, S.st⟩
  have X : TX s RM e0 (e1 - 1) (m0 + 1) mE n' := S1.tx H x h10 (Nat.le_trans hm.2.1 hm.2.2) (by omega) ht1 ntb (s' := s) (fun _ _ _ => ⟨rfl, rfl⟩) (fun _ _ _ => rfl) (fun _ _ => rfl)
  obtain ⟨sg, hsg⟩ : ∃ sg, sg = t_setI s 335 (e1 - 1) 0 := ⟨_, rfl⟩
  have fg : l2_fr (fun b j => b = 335 ∧ j = e1 - 1) s sg := by rw [hsg]; exact l2_fr.set ⟨rfl, rfl⟩
  have Xg : TX sg RM e0 (e1 - 1) (m0 + 1) mE n' := S1.tx H x h10 (Nat.le_trans hm.2.1 hm.2.2) (by omega) ht1 ntb (s' := sg) (fun j a b => ⟨(fg 335 j (by omega)).1, (fg 336 j (by omega)).1⟩) (fun b j hb => (fg b j (by omega)).1) (fun b j => by rw [hsg]; rfl)
  have eg : sg.1 335 (e1 - 1) = 0 := by rw [hsg, l2_g, if_pos rfl]
  -- the reference's state at which it is tried
  obtain ⟨rs, hrs⟩ : ∃ rs, rs = t_setI (t_setI (t_setI r0 950 98 (nI 0)) 950 97 0) 950 103 (nI 0) := ⟨_, rfl⟩
  have frs : l2_fr (fun b j => b = 950 ∧ (j = 97 ∨ j = 98 ∨ j = 103)) r0 rs := by
    rw [hrs]
    exact ((l2_fr.set ⟨rfl, by omega⟩).trans (l2_fr.set ⟨rfl, by omega⟩)).trans (l2_fr.set ⟨rfl, by omega⟩)
  have Rs : RM rs := H.rmz r0 rs H.rm0 (frs.mono (fun b j y => by unfold eZr eWr; omega))
  have r98 : rs.1 950 98 = nI 0 := by rw [hrs, l2_g, if_neg (by decide), l2_g, if_neg (by decide), l2_g, if_pos rfl]
  have r97 : rs.1 950 97 = 0 := by rw [hrs, l2_g, if_neg (by decide), l2_g, if_pos rfl]
  have r103 : rs.1 950 103 = nI 0 := by rw [hrs, l2_g, if_pos rfl]
  obtain ⟨c1, r1, w1, ⟨i, u, u1, u2, u3, u4, O⟩, ⟨fc1, fb1⟩, fr1, _⟩ := X.run (g := 337) S.st Rs r98 (by decide) r97 r103 (by omega) (Nat.le_refl _)
  have stg : sg.1 334 7 = 0 ∧ sg.1 339 0 = 0 ∧ sg.1 334 12 = 0 := by
    rw [(fg 334 7 (by omega)).1, (fg 339 0 (by omega)).1, (fg 334 12 (by omega)).1]
    exact S.st
  obtain ⟨cg, r1', w1', Og, ⟨_, fbg⟩, _⟩ := Xg.run (g := 337) stg Rs r98 (by decide) r97 r103 (by omega) (Nat.le_refl _)
  have er1 : r1' = r1 := by
    rw [w1] at w1'
    injection w1' with w
    exact w.symm
  rw [er1] at Og
  -- where the walk from the ghost ends
  have endg : ∀ q c2 r2 H2 S2, (∃ i u, u ≤ e1 - 1 - e0 ∧ e0 ≤ i ∧ i ≤ e1 - 1 ∧ l2_tn b_X0_work_12 u (nI e0, sg) (nI i, c2) ∧ ((i = e1 - 1 ∧ Eg 0 0 H2 S2 c2 r2) ∨ Eb e0 (e1 - 1) S2 c2 r2)) → q = S2 → l2_fr eBc sg c2 → t_loop b_X0_work_12 t_N (nI e0, sg) = some (c2.1 334 12, c2) := fun q c2 r2 H2 S2 ⟨i, u, u1, u2, u3, u4, O⟩ _ fb => by
    refine l2_tnR u4 (by omega) ?_
    refine st_stop (by omega) ?_
    rcases O with ⟨e, _⟩ | ⟨er, st, q1, q2, _⟩
    · rw [e, (fb 335 (e1 - 1) (by unfold eBc; omega)).1]
      exact Or.inl eg
    · rw [q2]
      exact Or.inr (nI_ne0 (by omega) (by omega))
  have lg := endg 0 cg r1 0 0 Og rfl fbg
  have same : ∀ c2, t_loop b_X0_work_12 t_N (nI e0, sg) = some (c2.1 334 12, c2) → c2 = cg := fun c2 h => by
    rw [lg] at h
    injection h with h
    exact (Prod.mk.inj h).2.symm
  have cmp : (e1 - 1 + 1) = e1 := by omega
  -- the class goes on
  rcases O with ⟨rfl, ⟨⟨nn, mm, V, e39⟩, ⟨e7, e12⟩, e98, e97, _⟩⟩ | B
  · -- a VALUE
    obtain ⟨n0, n1, m1⟩ := V.pos
    have V : VW (c1.2.1 338) (r1.2.1 1006) 120 0 (260 * (40 + 0)) nn mm := V
    have e39 : c1.1 339 1 = nI nn := by simp only [Nat.zero_add] at e39; exact e39
    have hz := H.sz s c1 e0 (e1 - 1) u nn (fun j _ _ => S.op j) (fun j hj => S.pl.1 j hj) S.cnt S.st.1 S.st.2.1 S.st.2.2 (XR.ops H.wo _ _ _ _ _ _ _ _ _ _ x (fun k a b y => ntb k a b ⟨61, y, by omega⟩)) u4 u1 e12 e7 e39 n1
    have p0 := S.pl.2
    obtain ⟨tt, kk, hd, -⟩ := V.hd
    have ho' : px_o s (e1 - 1) 34 (nI t0) := ⟨((S.op _).1).trans ho.1, ((S.op _).2).trans ho.2⟩
    obtain ⟨c5, t1', f5, g7, g4, g54, g57, gp⟩ := st_34 (c0 := s) (c := c1) (i := e1 - 1) (t := t0) (nn := nn) (pp := pp) (l2_fr.mono fc1 (fun b j y => y.z)) (by rw [S.cnt]; exact H.h2) hc (by omega) ho' e12 (by rw [(fb1 334 14 (by unfold eBc; omega)).1]; exact S.md) (by omega) e7 (by rw [(fc1 339 0 (by unfold eWc; omega)).1]; exact S.st.2.1) e39 hd ⟨n0, n1⟩ (by rw [(fb1 334 4 (by unfold eBc; omega)).1]; exact S.pp) (by omega)
    rw [cmp] at t1'
    have fall : l2_fr (seW cs t0 t1 pp) s c5 := (fb1.mono (fun b j y => Or.inl y)).trans (f5.mono (fun b j y => by
      unfold stW at y
      rcases y with y | y | y
      · by_cases q : j = 4
        · exact Or.inr (Or.inl ⟨y.1, q⟩)
        · exact Or.inl (Or.inl ⟨y.1, by omega⟩)
      · exact Or.inr (Or.inr (Or.inr ⟨by omega, by omega, by omega, by rw [y.2]; exact hsn.1⟩))
      · exact Or.inr (Or.inr (Or.inl ⟨y.1, y.2.1⟩))))
    have c62 : c5.2.1 362 t0 = 0 := by
      rw [(f5 362 t0 (by unfold stW; omega)).2.1, (fb1 362 t0 (by unfold eBc; omega)).2.1, (S.tm 362 t0 (by decide) (by decide) (Nat.le_refl _) (by omega)).2]
      exact hsn.2
    have S5 : SI cs c5 t1 TE P0 (pp + nn) := S.next fall (by omega) g4 (by omega) ⟨g7, by
      rw [(f5 339 0 (by unfold stW; omega)).1, (fc1 339 0 (by unfold eWc; omega)).1]; exact S.st.2.1, by
      rw [(f5 334 12 (by unfold stW; omega)).1]; exact e12⟩
    -- what it comes to in the reference, at any time
    have sv : SVt (c5.2.1 337) RM (m0 + 1) mE n' 0 pp := fun g r H2 S2 hg hR h98 hH h97 h103 hS => by
      obtain ⟨c2, r2, z1, O2, ⟨_, fb2⟩, fr2, fbr2⟩ := Xg.run (g := g) stg hR h98 hH h97 h103 hS hg
      have e2 := same c2 (endg S2 c2 r2 H2 S2 O2 rfl fb2)
      obtain ⟨ig, ug, _, _, _, _, Og2⟩ := Og
      have gg : Eg 0 0 0 0 cg r1 := by
        rcases Og2 with ⟨_, q⟩ | ⟨er, st, q1, q2, q3, _⟩
        · exact q
        · rw [e97] at q3
          exact absurd q3.symm (nI_ne0 (by omega) (by omega))
      obtain ⟨i2, u2', _, _, _, _, O2⟩ := O2
      rw [e2] at O2
      have g2 : Eg 0 0 H2 S2 cg r2 ∧ r2.1 950 103 = nI S2 := by
        rcases O2 with ⟨_, q⟩ | ⟨er, st, q1, q2, q3, _⟩
        · exact ⟨q, q.2.2.2.2⟩
        · rw [gg.2.1.2] at q2
          exact absurd q2.symm (nI_ne0 (by omega) (by omega))
      obtain ⟨⟨⟨n2, m2, V2, _⟩, _, y98, y97, _⟩, y103⟩ := g2
      obtain ⟨⟨n3, m3, V3, _⟩, _⟩ := gg
      have V4 := vw_via V V3 V2
      obtain ⟨t5, k5, v5, -⟩ := V4.hd
      have a1 := (vk_of v5).2
      have a2 := (vk_of hd).2
      exact ⟨r2, z1, fr2, fbr2, y103, y97, fun _ => ⟨y98, n2, m2, VW.copy _ _ _ _ _ _ _ V4 (fun d hd' => by rw [gp d (by omega), Nat.zero_add]) (fun _ _ => rfl)⟩⟩
    have vp : vl_c tt nn kk (c5.2.1 337 pp) := by
      have := gp 0 n0
      rw [Nat.add_zero] at this
      rw [this]
      exact hd
    have fs : FS RM r0 ME (pp + nn) c5 t0 m0 := ⟨0, pp, mE, n', by decide, hm, h59, hn', sv, Or.inl ⟨rfl, g57, c62, tt, nn, kk, vp, n0, Nat.le_refl _, g54⟩⟩
    have := H.wm e0 (e1 - 1) (by omega)
    exact SX.turn (u4.trans (l2_tn.one t1')) (by omega) (by omega) (by omega) (cont c5 k (pp + nn) S5 fall (by omega) (by omega) fs (Nat.le_refl _) (Nat.le_succ _))
  · -- an ERROR
    have B' := B
    obtain ⟨er, st, q1, q2, q3, q4, q5, q6, q7⟩ := B
    obtain ⟨sf, hsf⟩ : ∃ sf, sf = t_setJ c1 362 t0 (nI er).toInt64 := ⟨_, rfl⟩
    have ff : l2_fr (fun b j => b = 362 ∧ j = t0) c1 sf := by rw [hsf]; exact l2_fr.setJ ⟨rfl, rfl⟩
    have j62 : sf.2.1 362 t0 = (nI er).toInt64 := by rw [hsf, l2_gJ, if_pos rfl, if_pos rfl]
    obtain ⟨sn, hsn2⟩ : ∃ sn, sn = anew (e1 - 1 + 1) sf := ⟨_, rfl⟩
    have fn : l2_fr (fun b j => (b = 334 ∧ (j = 7 ∨ j = 12 ∨ j = 13)) ∨ (b = 339 ∧ j = 0)) sf sn := by
      rw [hsn2]
      unfold anew
      exact (((l2_fr.set (Or.inl ⟨rfl, by omega⟩)).trans (l2_fr.set (Or.inr ⟨rfl, rfl⟩))).trans (l2_fr.set (Or.inl ⟨rfl, by omega⟩))).trans (l2_fr.set (Or.inl ⟨rfl, by omega⟩))
    have fall : l2_fr (seW cs t0 t1 pp) s sn := ((fb1.mono (fun b j y => Or.inl y)).trans (ff.mono (fun b j y => Or.inr (Or.inr (Or.inr ⟨by omega, by omega, by omega, by rw [y.2]; exact hsn.1⟩))))).trans (fn.mono (fun b j y => Or.inl (by
      rcases y with y | y
      · exact Or.inl y
      · exact Or.inr (Or.inr (Or.inl y.1)))))
    have pps : sn.1 334 4 = nI pp := by rw [(fn 334 4 (by omega)).1, (ff 334 4 (by omega)).1, (fb1 334 4 (by unfold eBc; omega)).1]; exact S.pp
    have S5 : SI cs sn t1 TE P0 pp := S.next fall (by omega) pps (Nat.le_refl _) (by
      rw [hsn2]
      unfold anew
      exact ⟨by rw [l2_g, if_neg (by decide), l2_g, if_neg (by decide), l2_sO (by decide), l2_g, if_pos rfl], by rw [l2_sO (by decide), l2_sO (by decide), l2_g, if_pos rfl], by rw [l2_g, if_neg (by decide), l2_g, if_pos rfl]⟩)
    have n54 : sn.1 354 t0 = 17 := by
      rw [(fn 354 t0 (by omega)).1, (ff 354 t0 (by omega)).1, (fb1 354 t0 (by unfold eBc; omega)).1, (S.tm 354 t0 (by decide) (by decide) (Nat.le_refl _) (by omega)).1]
      exact hsn.1
    have n62 : sn.2.1 362 t0 = (nI er).toInt64 := by rw [(fn 362 t0 (by omega)).2.1]; exact j62
    have sv : SVt (sn.2.1 337) RM (m0 + 1) mE n' er 0 := fun g r H2 S2 hg hR h98 hH h97 h103 hS => by
      obtain ⟨c2, r2, z1, O2, ⟨_, fb2⟩, fr2, fbr2⟩ := Xg.run (g := g) stg hR h98 hH h97 h103 hS hg
      have e2 := same c2 (endg S2 c2 r2 H2 S2 O2 rfl fb2)
      obtain ⟨ig, ug, _, _, _, _, Og2⟩ := Og
      have gb : cg.1 334 12 = nI er := by
        rcases Og2 with ⟨_, q⟩ | ⟨er', st', y1, y2, y3, _⟩
        · have := q.2.2.2.1
          rw [this] at q3
          exact absurd q3.symm (nI_ne0 (by omega) (by omega))
        · rw [y2, ← y3, q3]
      obtain ⟨i2, u2', _, _, _, _, O2⟩ := O2
      rw [e2] at O2
      rcases O2 with ⟨_, q⟩ | ⟨er', st', y1, y2, y3, _, _, _, y103⟩
      · have := q.2.1.2
        rw [gb] at this
        exact absurd this (nI_ne0 (by omega) (by omega))
      · exact ⟨r2, z1, fr2, fbr2, y103, by rw [y3, ← y2, gb], fun y => by omega⟩
    have fs : FS RM r0 ME pp sn t0 m0 := ⟨er, 0, mE, n', q1.2, hm, h59, hn', sv, Or.inr ⟨by omega, n54, n62⟩⟩
    have hw := H.wm e0 (e1 - 1) (by omega)
    have ops := XR.ops H.wo _ _ _ _ _ _ _ _ _ _ x (fun k a b y => ntb k a b ⟨61, y, by omega⟩)
    have c335 : ∀ j, c1.1 335 j = cs.1 335 j := fun j => ((fb1 335 j (by unfold eBc; omega)).1).trans (S.op j).1
    have hx := cont sn (k + 1) pp S5 fall (Nat.le_refl _) (by omega) fs (Nat.le_succ _) (Nat.le_refl _)
    refine SX.err u4 (by omega) (b := e1 - 1) (t := t0) (cnt := cnt) (er := er) (st := st) (by omega) q2 q1 q4 (by rw [(fb1 334 2 (by unfold eBc; omega)).1, S.cnt]; exact H.h2) hc (by omega) (by omega) ?_ ?_ (by omega) hk (fun x y1 y2 => ?_) ?_
    · rw [c335]; exact ho.1
    · rw [(fb1 336 _ (by unfold eBc; omega)).1, (S.op _).2]; exact ho.2
    · rw [c335]; exact ⟨(ops x (by omega) y2).2, (ops x (by omega) y2).1⟩
    · rw [← hsf, ← hsn2, cmp]; exact hx
end
