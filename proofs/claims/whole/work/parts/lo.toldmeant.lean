/-! Level 2: told templates prepared mean the same on both sides. -/
theorem fwf.all {s : t_S} {W : Nat → Int32} : ∀ d a, fwf s W a d = 0 → ∀ i, a ≤ i → i < a + d → fwo s W i = 0 := by
  intro d
  induction d with
  | zero => intro a _ i x y; omega
  | succ d ih =>
    intro a h i x y
    have e : fwf s W a (d + 1) = if fwo s W a = 0 then fwf s W (a + 1) d else fwo s W a := rfl
    rw [e] at h
    by_cases c : fwo s W a = 0
    · rw [if_pos c] at h
      by_cases q : i = a
      · rw [q]; exact c
      · exact ih (a + 1) h i (by omega) (by omega)
    · rw [if_neg c] at h
      exact absurd h c
/-- what a told tree's meaning stands on, in a state -/
structure TMH (TN : Nat → Nat → Prop) (c0 r0 : t_S) (RM : t_S → Prop) (TS : Nat → Nat → Nat → Prop) (NS : Nat → Prop) (p1 s1 n1 PE TA TE MA ME du : Nat) (D : Nat → Nat) (W : Nat → Int32) (c' r' : t_S) (pc a nh p mh E τ : Nat) : Prop where
  L : LtC c0 r0 (c0.2.1 337) TS c' r' pc a nh p mh E τ
  p1 : p1 ≤ 26000
  s1 : s1 ≤ 24300
  pe : PE ≤ 26000
  m13 : ME ≤ 13000
  n60 : n1 ≤ 60
  tn : ∀ t m, TN t m → (c0.1 354 t = 6 ∧ ∃ (X : Nat) (y : Int32), X < 7934 ∧ c0.1 357 t = nI (66 + X) ∧ r0.2.1 957 m = lN X ∧ (∀ r, l2_fr eZr r0 r → fU r m = some y) ∧ y < 0) ∨ (c0.1 354 t = 7 ∧ ∃ v : Nat, v < n1 ∧ c0.1 357 t = nI v ∧ ∀ r, l2_fr eZr r0 r → fU r m = some (nI v))
  dp : ∀ t m v l : Nat, TN t m → TA ≤ t → t < TE → c0.1 354 t = 7 → c0.1 357 t = nI v → v < n1 → 1 ≤ l → l ≤ 40 → c0.1 358 t = nI l → l + D v ≤ du
  lv : ∀ t l : Nat, TA ≤ t → t < TE → 1 ≤ l → l ≤ 40 → c0.1 358 t = nI l → l ≤ du
  ns : ∀ n K : Nat, MA ≤ n → n < ME → r0.1 955 n = nI K → 20 ≤ K → K ≤ 41 → NS n
  ow : ∀ m pp t, MA ≤ m → m < ME → r0.1 955 m = 38 → pp ≤ 26000 → FS RM r0 ME PE c0 t m → c0.1 357 t = nI pp → c0.2.1 362 t = 0 → ∃ pe nn mm f, f ≤ 120 ∧ r'.1 1026 m = nI pe ∧ pe + mm ≤ 370000 ∧ VW (c0.2.1 337) (r'.2.1 1027) f pp pe nn mm
  sub : ∀ m v, MA ≤ m → m < ME → r0.1 955 m = 28 → fU r0 m = some (nI v) → v < n1 → D v < du → ∃ t' n' : Nat, c0.1 (364 + v) 0 = nI t' ∧ r0.1 968 v = nI n' ∧ TM c' r' 338 a p E NS (D v + 1) t' n'
section
variable {WN AN TN : Nat → Nat → Prop} {c0 r0 : t_S} {RM : t_S → Prop} {TS : Nat → Nat → Nat → Prop} {NS : Nat → Prop} {p1 s1 n1 PE TA TE MA ME du pc a nh p mh E τ : Nat} {D : Nat → Nat} {W : Nat → Int32} {c' r' : t_S}
theorem tm_tree (H : TMH TN c0 r0 RM TS NS p1 s1 n1 PE TA TE MA ME du D W c' r' pc a nh p mh E τ) : ∀ f fl l rr e0 e1 t0 t1 m0 m1 n, XR WN AN TN (FS RM r0 ME PE c0) c0 r0 p1 s1 f fl (nI l) rr e0 e1 t0 t1 m0 m1 n → ((fl = 1 ∧ 10 * l ≤ rr + 10) ∨ (fl = 2 ∧ 10 * l ≤ rr)) → 1 ≤ l → TA ≤ t0 → t1 ≤ TE → t1 ≤ 6100 → MA ≤ m0 → m1 ≤ ME → (∀ i, e0 ≤ i → i < e1 → fwo c0 W i = 0) → (fl = 1 → TM c' r' 338 a p E NS (du + 2 - l) t0 n) ∧ (fl = 2 → PF NS (du + 1 - l) t0 n c' r' a p E) := by
  intro f
  induction f with
  | zero => intro fl l rr e0 e1 t0 t1 m0 m1 n h; exact h.elim
  | succ f ih =>
    intro fl l rr e0 e1 t0 t1 m0 m1 n h hfl hl tA tE t61 mA mE' hz
    have m13 := H.m13
    have pr := H.L.pr
    obtain ⟨_, _, _, ⟨z1, z2⟩, A, pb, _, C⟩ := H.L
    have pd := A.pd
    have zc : ∀ b j, (354 ≤ b ∧ b ≤ 360) ∨ (364 ≤ b ∧ b < 424 ∧ j = 0) → c'.1 b j = c0.1 b j := fun b j h => (ez_c (b := b) (j := j) z1 (by omega)).1
    have zr : ∀ b j, 955 ≤ b ∧ b ≤ 968 → r'.1 b j = r0.1 b j ∧ r'.2.1 b j = r0.2.1 b j := fun b j h => ⟨(ez_r (b := b) (j := j) z2 (by omega)).1, (ez_r (b := b) (j := j) z2 (by omega)).2.1⟩
    obtain ⟨h1, h2, h3, h4, h⟩ := h
    have dn : ∀ {fl' rg e0' e1' u0 u1 m0' m1' n'}, XR WN AN TN (FS RM r0 ME PE c0) c0 r0 p1 s1 f fl' (nI (l + 1)) rg e0' e1' u0 u1 m0' m1' n' → (fl' = 1 ∨ fl' = 2) → l + 1 ≤ 40 → TA ≤ u0 → u1 ≤ TE → l + 1 ≤ du := fun hx h12 h40 a b => by
      obtain ⟨y1, y2⟩ := XR.root hx h12
      exact H.lv _ (l + 1) a (by omega) (by omega) h40 y2
    rcases h with ⟨⟨q, _⟩, _⟩ | ⟨⟨q, q2⟩, ht, mE, g1, g2, hw, h⟩ | ⟨⟨q, q2⟩, ht, rfl, a2, a3, a4, a5, a6, a7, v, Ee, T, M, G, b1, b2, b3, b4, b5, b6, b7, b8⟩
    · omega
    · have l40 : l + 1 ≤ 40 := by omega
      have lvt : c0.1 358 t0 = nI l := hw.1
      have ldu : l ≤ du := H.lv t0 l tA (by omega) hl (by omega) lvt
      refine ⟨fun _ => ?_, fun y => by omega⟩
      have core : TMt c' r' 338 a p E (TM c' r' 338 a p E NS (du + 1 - l)) (TM c' r' 338 a p E NS (du - l)) t0 m0 ∧ TF c0 r0 t0 m0 := by
        rcases h with ⟨a1, a2, a3⟩ | ⟨a1, a2, a3, a4, n', a5, a6⟩ | ⟨a1, a2, X, n', a3, a4, a5, a6, a7, a8, a9⟩ | ⟨a1, a2, v, Ee, T, M, X, N, b1, b2, b3, b4, b5, b6, b7, b8⟩ | ⟨K, Cc, a1, a2, a3, a4, v, Ee, T, M, G, Wf, b1, b2, b3, b4, b5, b6, b7, b8⟩
        · rcases a3 with ⟨z, z2', z3⟩ | ⟨z, z2', z3, z4⟩
          · have tf : TF c0 r0 t0 m0 := by
              rcases z3 with ⟨b1, b2⟩ | ⟨b1, b2⟩ | ⟨b1, b2⟩ | ⟨b1 | b1, b2, _⟩ | ⟨b1 | b1, b2, _⟩ | ⟨⟨b1, b2⟩ | ⟨b1, b2⟩, _⟩
              · exact ⟨by rw [b1, b2]; decide, by rw [b2]; decide, 20, b1, by omega, by omega⟩
              · exact ⟨by rw [b1, b2]; decide, by rw [b2]; decide, 21, b1, by omega, by omega⟩
              · exact ⟨by rw [b1, b2]; decide, by rw [b2]; decide, 27, b1, by omega, by omega⟩
              · exact ⟨by rw [b1, b2]; decide, by rw [b2]; decide, 22, b1, by omega, by omega⟩
              · exact ⟨by rw [b1, b2]; decide, by rw [b2]; decide, 23, b1, by omega, by omega⟩
              · exact ⟨by rw [b1, b2]; decide, by rw [b2]; decide, 24, b1, by omega, by omega⟩
              · exact ⟨by rw [b1, b2]; decide, by rw [b2]; decide, 25, b1, by omega, by omega⟩
              · exact ⟨by rw [b1, b2]; decide, by rw [b2]; decide, 26, b1, by omega, by omega⟩
              · exact ⟨by rw [b1, b2]; decide, by rw [b2]; decide, 35, b1, by omega, by omega⟩
            exact ⟨(tmt_leaf H.p1 H.s1 z3 H.L (by omega) (by omega) _ _).1, tf⟩
          · have z2 := z2
            rcases H.tn t0 m0 z4 with ⟨y1, X, y, x1, x2, x3, x4, x5⟩ | ⟨y1, v, y2, y3, y4⟩
            · refine ⟨?_, by rw [z2', y1]; decide, by rw [y1]; decide, 28, z2', by omega, by omega⟩
              obtain ⟨S, s1', s2'⟩ := lf_word (X := X) (y := y) C pb pr pd (by omega) (show t0 < 6100 by omega) ((zr 955 m0 (by omega)).1.trans z2') ((zc 354 t0 (by omega)).trans y1) x1 ((zc 357 t0 (by omega)).trans x2) ((zr 957 m0 (by omega)).2.trans x3) (x4 r' z2) x5
              exact Or.inl ⟨S, s1', s2', fun _ => ⟨y, x4 r' z2, x5⟩, 28, (zr 955 m0 (by omega)).1.trans z2', by omega⟩
            · refine ⟨?_, by rw [z2', y1]; decide, by rw [y1]; decide, 28, z2', by omega, by omega⟩
              have dd := H.dp t0 m0 v l z4 tA (by omega) y1 y3 y2 hl (by omega) lvt
              obtain ⟨t', n', q1, q3, q4⟩ := H.sub m0 v (by omega) (by omega) z2' (y4 r0 l2_fr.rf) y2 (by omega)
              have n60 := H.n60
              exact Or.inr (Or.inl ⟨(zr 955 m0 (by omega)).1.trans z2', (zc 354 t0 (by omega)).trans y1, v, t', n', by omega, y4 r' z2, (zc 357 t0 (by omega)).trans y3, (zc (364 + v) 0 (by omega)).trans q1, (zr 968 v (by omega)).1.trans q3, q4.upTo (by omega)⟩)
        · -- = ( )
          have hz0 := hz (e1 - 1) (by omega) (by omega)
          unfold fwo at hz0
          rw [a4.1, if_pos (by decide), a4.2, nI_clamp (n := t0) (by omega)] at hz0
          have fs := a3
          obtain ⟨er, pp, M1, n2, e7, _, _, _, _, e6⟩ := a3
          rcases e6 with ⟨e, b1, b2, tt, nn, kk, b3, b4, b5, b6⟩ | ⟨e, _, b⟩
          · have pe := H.pe
            obtain ⟨pe', nn', mm, f', f1, o1, o2, V⟩ := H.ow m0 pp t0 (by omega) (by omega) a2 (by omega) fs b1 b2
            obtain ⟨tb, kb, vb, kb8, rb, -⟩ := V.hd
            have v1 := vk_of vb
            have v2 := vk_of b3
            have ek : kb = kk := v1.1.symm.trans v2.1
            have en : nn' = nn := v1.2.symm.trans v2.2
            have pool : c'.2.1 337 = c0.2.1 337 := funext (fun j => (ez_c (b := 337) (j := j) z1 (by omega)).2.1)
            have V' : VW (c'.2.1 337) (r'.2.1 1027) f' pp pe' nn mm := by rw [pool, ← en]; exact V
            have lit : LfC c' r' 338 a p E t0 (sL r' pe' mm) := lfc_lit (f := f') (pp := pp) (nn := nn) C pr pd (by omega) (VW.vr _ _ _ _ _ V') V'.pos.2.2 (by omega) (by omega) ⟨tt, kk, by rw [pool]; exact b3⟩ ((zc 357 t0 (by omega)).trans b1) (by
              rw [zc 354 t0 (by omega), b6, rb, ek]
              by_cases c4 : kk = 4
              · rw [if_pos c4, c4]
                exact Or.inl ⟨rfl, rfl⟩
              · rw [if_neg c4]
                exact Or.inr ⟨fun y => c4 (lN_inj (by omega) (by decide) y), rfl⟩)
            have slot : LfR r' p E m0 (sL r' pe' mm) := lfr_slot (f := f') (pp := pp) (nn := nn) C pb pr pd (by omega) ((zr 955 m0 (by omega)).1.trans a2) o1 (VW.vr _ _ _ _ _ V') (by omega) (by omega) V'.pos.2.2
            refine ⟨Or.inl ⟨_, lit, slot, fun y => ?_, 38, (zr 955 m0 (by omega)).1.trans a2, by omega⟩, ?_, ?_, 38, a2, by omega, by omega⟩
            · rw [(zr 955 m0 (by omega)).1, a2] at y
              exact absurd y (by decide)
            · rw [a2, b6]
              split <;> decide
            · rw [b6]
              split <;> decide
          · rw [b, Int32.toInt32_toInt64] at hz0
            exact absurd hz0 (nI_ne0 (by omega) (by omega))
        · -- @
          rw [nI_1] at a9
          have ld := dn a9 (Or.inl rfl) l40 (by omega) tE
          have y := (ih _ _ _ _ _ _ _ _ _ _ a9 (by omega) (by omega) (by omega) tE t61 (by omega) (by omega) hz).1 rfl
          rw [show du + 2 - (l + 1) = du + 1 - l by omega] at y
          exact ⟨Or.inr (Or.inr (Or.inl ⟨(zr 955 m0 (by omega)).1.trans a1, (zc 354 t0 (by omega)).trans a2, X, t0 + 1, n', a3, (zc 357 t0 (by omega)).trans a4, (zr 957 m0 (by omega)).2.trans a5, (zc 355 t0 (by omega)).trans a6, (zr 959 m0 (by omega)).1.trans a7, y⟩)), by rw [a1, a2]; decide, by rw [a2]; decide, 30, a1, by omega, by omega⟩
        · -- { }
          refine ⟨Or.inr (Or.inr (Or.inr (Or.inl ⟨(zr 955 m0 (by omega)).1.trans a1, (zc 354 t0 (by omega)).trans a2, v, T, X, b1, tc_ez z1 b5, ch_own (ch_ez z2 b6) b1, fun j hj => ?_⟩))), by rw [a1, a2]; decide, by rw [a2]; decide, 29, a1, by omega, by omega⟩
          obtain ⟨x1, x2, x3, x4, x5, x6, x7, x8, x9, x10, x11, x12⟩ := b8 j hj
          have bE := b2.2.2 j hj
          have bT := b3.2.2 j hj
          have bM := b4.2.2 j hj
          rw [nI_1] at x12
          have ld := dn x12 (Or.inl rfl) l40 (by omega) (by omega)
          have y := (ih _ _ _ _ _ _ _ _ _ _ x12 (by omega) (by omega) (by omega) (by omega) (by omega) (by omega) (by omega) (fun i i0 i1 => hz i (by omega) (by omega))).1 rfl
          rw [show du + 2 - (l + 1) = du + 1 - l by omega] at y
          have eg := (ch_gn (ch_ez z2 b6) b1).2 j hj
          rw [eg]
          exact ⟨by omega, x1, (zc 357 (T j) (by omega)).trans x5, (zr 957 (M j) (by omega)).2.trans x9, T j + 1, N j, (zc 355 (T j) (by omega)).trans x7, (zr 959 (M j) (by omega)).1.trans x10, y⟩
        · -- rows
          have kk := row_KC a1
          refine ⟨Or.inr (Or.inr (Or.inr (Or.inr ⟨K, Cc, a1, a2, (zr 955 m0 (by omega)).1.trans a3, (zc 354 t0 (by omega)).trans a4, v, T, b1, tc_ez z1 b6, ch_own (ch_ez z2 b7) (by omega), fun j hj => ?_⟩))), ?_, ?_, K, a3, by omega, ?_⟩
          · obtain ⟨x1, x2⟩ := b8 j hj
            have bE := b3.2.2 j hj
            have bT := b4.2.2 j hj
            have bM := b5.2.2 j hj
            rw [nI_1] at x2
            have ld := dn x2 (by omega) l40 (by omega) (by omega)
            have tj := XR.tq x2 (by omega)
            have y := ih _ _ _ _ _ _ _ _ _ _ x2 (by omega) (by omega) (by omega) (by omega) (by omega) (by omega) (by omega) (fun i i0 i1 => hz i (by omega) (by omega))
            have eg := (ch_gn (ch_ez z2 b7) (by omega)).2 j hj
            rw [eg]
            refine ⟨by omega, ?_⟩
            rcases x1 with x1 | ⟨x1, xK⟩
            · have y := y.1 x1
              rw [show du + 2 - (l + 1) = du + 1 - l by omega] at y
              exact Or.inl y
            · have y := y.2 x1
              rw [show du + 1 - (l + 1) = du - l by omega] at y
              obtain ⟨p1', p2', p3', p4', p5', v', T', p6', p7', p8', p9', p10'⟩ := y
              exact Or.inr ⟨xK, p1', p2', p3', p4', p5', v', T', p6', p7', p8', p9', p10'⟩
          · rw [a3, a4]
            have e1 := nI_eq (a := Cc) (b := 2) (by omega) (by decide)
            have e2 := nI_eq (a := K) (b := 21) (by omega) (by decide)
            exact ⟨fun y => by have := e1.mp y; omega, fun y => by have := e2.mp y; omega⟩
          · rw [a4]
            have e1 := nI_eq (a := Cc) (b := 18) (by omega) (by decide)
            exact fun y => a2 (kk.2.2.2.1 (e1.mp y))
          · have := kk.1
            omega
      -- what stands behind it
      obtain ⟨tm, tf1, tf2, K, k1, k2, k3⟩ := core
      obtain ⟨_, b, bb1, h360, h961, hww⟩ := hw
      rw [show du + 2 - l = (du + 1 - l) + 1 by omega]
      have nx : du + 1 - l - 1 = du - l := by omega
      rcases hww with ⟨h359, rfl, rfl⟩ | ⟨rfl, rfl, h955, h959, h961', h960, lo, hi, g1, g2, g3, g4, g5⟩
      · refine TM_s.mpr ⟨H.ns n K (by omega) (by omega) k1 k2 (by omega), by omega, by omega, by rw [zc 354 t0 (by omega)]; exact tf2, b, bb1, (zc 360 t0 (by omega)).trans h360, (zr 961 n (by omega)).1.trans h961, Or.inl ⟨(zc 359 t0 (by omega)).trans h359, ?_, ?_⟩⟩
        · rw [zc 354 t0 (by omega), (zr 955 n (by omega)).1]
          exact tf1
        · rw [nx]; exact tm
      · refine TM_s.mpr ⟨H.ns n 41 (by omega) (by omega) h955 (by decide) (by decide), by omega, by omega, by rw [zc 354 t0 (by omega)]; exact tf2, b, bb1, (zc 360 t0 (by omega)).trans h360, (zr 961 n (by omega)).1.trans h961, Or.inr ⟨?_, (zr 955 n (by omega)).1.trans h955, m0, lo, hi, (zr 959 n (by omega)).1.trans h959, by omega, g2, (zr 957 n (by omega)).2.trans g3, (zr 958 n (by omega)).2.trans g4, (zc 359 t0 (by omega)).trans g5, H.ns m0 K (by omega) (by omega) k1 k2 (by omega), by omega, (zr 961 m0 (by omega)).1.trans h961', ?_⟩⟩
        · rw [zc 359 t0 (by omega), g5]
          exact nI_ne0 (by omega) (by omega)
        · rw [nx]; exact tm
    · have l40 : l + 1 ≤ 40 := by omega
      refine ⟨fun y => by omega, fun _ => ?_⟩
      refine ⟨(zc 354 t0 (by omega)).trans a4, (zc 359 t0 (by omega)).trans a6, (zc 360 t0 (by omega)).trans a7, (zr 955 n (by omega)).1.trans a2, (zr 961 n (by omega)).1.trans a3, v, T, b2, b1, tc_ez z1 b6, ch_own (ch_ez z2 b7) (by omega), fun j hj => ?_⟩
      have x2 := b8 j hj
      have bE := b3.2.2 j hj
      have bT := b4.2.2 j hj
      have bM := b5.2.2 j hj
      rw [nI_1] at x2
      have ld := dn x2 (Or.inl rfl) l40 (by omega) (by omega)
      have tj := XR.tq x2 (by omega)
      have y := (ih _ _ _ _ _ _ _ _ _ _ x2 (by omega) (by omega) (by omega) (by omega) (by omega) (by omega) (by omega) (fun i i0 i1 => hz i (by omega) (by omega))).1 rfl
      rw [show du + 2 - (l + 1) = du + 1 - l by omega] at y
      have eg := (ch_gn (ch_ez z2 b7) (by omega)).2 j hj
      rw [eg]
      exact ⟨by omega, y⟩
end
