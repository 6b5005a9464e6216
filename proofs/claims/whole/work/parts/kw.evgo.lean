/-! Level 2: all exps and all templs, met among them: the induction. -/
def ZN (Z : Nat → Prop) (t : Nat) : Prop := Z t ∨ 6100 ≤ t
/-- templs have a node of the class's -/
theorem XR.tq {WN AN TN : Nat → Nat → Prop} {SN : Nat → Nat → Prop} {c r : t_S} {p1 s1 f fl rr e0 e1 t0 t1 m0 m1 n : Nat} {lv : Int32} (h : XR WN AN TN SN c r p1 s1 f fl lv rr e0 e1 t0 t1 m0 m1 n) (hf : fl ≠ 0) : t0 < t1 := by
  cases f with
  | zero => exact h.elim
  | succ f =>
    obtain ⟨_, _, _, _, h⟩ := h
    rcases h with ⟨⟨q, _⟩, _⟩ | ⟨_, q, _⟩ | ⟨_, q, _⟩
    · exact absurd q hf
    · exact q
    · exact q
section
variable {WN AN TN : Nat → Nat → Prop} {SN : Nat → Nat → Prop} {κ : KPP} {c0 r0 : t_S} {P : Nat → Int64} {TS : Nat → Nat → Nat → Prop} {wt : Nat → Nat} {NT NS : Nat → Prop} {Z Y : Nat → Prop} {p1 s1 ce cnt mN hb sb gT f t0 t1 m0 m1 : Nat} {ti : Nat → Nat}
theorem DJ.zt (h : DJ (ZN Z) Y t0 t1 m0 m1) (ht : t0 < t1) : DJ Z Y t0 t1 m0 m1 ∧ t1 ≤ 6100 := ⟨⟨fun t a b y => h.1 t a b (Or.inl y), h.2⟩, Classical.byContradiction (fun y => h.1 (t1 - 1) (by omega) (by omega) (Or.inr (by omega)))⟩
theorem DJ.z (h : DJ Z Y t0 t1 m0 m1) (ht : t1 ≤ 6100) : DJ (ZN Z) Y t0 t1 m0 m1 := ⟨fun t a b y => y.elim (h.1 t a b) (fun w => by omega), h.2⟩
/-- what is wanted of both: f levels deep -/
def EvA (WN AN TN : Nat → Nat → Prop) (SN : Nat → Nat → Prop) (κ : KPP) (c0 r0 : t_S) (P : Nat → Int64) (TS : Nat → Nat → Nat → Prop) (wt : Nat → Nat) (NT NS : Nat → Prop) (p1 s1 ce mN f : Nat) : Prop := (∀ Z Y : Nat → Prop, (∀ n, Y n → NT n) → EvI WN AN TN SN κ c0 r0 (KcZ Z) (KrZ c0 P TS wt Y) (ZN Z) (YN NT Y) p1 s1 ce f) ∧ EvT1 WN AN TN SN κ c0 r0 P TS wt NT NS p1 s1 ce mN f ∧ EvT2 WN AN TN SN κ c0 r0 P TS wt NT NS p1 s1 ce mN f
theorem eva_t1 (H : EvH TN SN κ c0 r0 P TS wt NT NS p1 s1 ce cnt mN hb sb gT) (ih : EvA WN AN TN SN κ c0 r0 P TS wt NT NS p1 s1 ce mN f) : EvT1 WN AN TN SN κ c0 r0 P TS wt NT NS p1 s1 ce mN (f + 1) := by
  intro lv rr e0 e1 t0 t1 m0 m1 n g Z Y h dj hYN hg he ht1 hm
  obtain ⟨ihE, ih1, ih2⟩ := ih
  obtain ⟨h1, h2, h3, h4, h⟩ := h
  have hce := H.hce
  have hmN := H.mN
  rcases h with ⟨⟨hfl, _⟩, _⟩ | ⟨⟨_, hrr⟩, ht, mE, g1, g2, hw, h⟩ | ⟨⟨hfl, _⟩, _⟩
  · exact absurd hfl (by decide)
  rotate_left
  · exact absurd hfl (by decide)
  obtain ⟨g, rfl⟩ : ∃ y, g = y + 2 := ⟨g - 2, by omega⟩
  obtain ⟨l, hl⟩ : ∃ l, LV rr = l + 1 := ⟨LV rr - 1, by have := LV_62 (rr := rr); omega⟩
  have l61 : 61 ≤ l := by have := LV_62 (rr := rr); omega
  have tone : ∃ hf : TF c0 r0 t0 m0, ∀ (g' : Nat) (Z Y : Nat → Prop), g + 1 ≤ g' → (∀ n, Y n → NT n) → DJ Z (YN NT Y) t0 t1 m0 mE → EVt κ c0 r0 P TS wt Z Y g' rr e0 e1 m0 mE m0 (QX c0 r0 P TS t0 t1 m0 mE (TMy NS l t0 m0)) := by
    rcases h with ⟨a1, a2, a3⟩ | ⟨a1, a2, a3, a4, n', a5, a6⟩ | ⟨a1, a2, X, n', a3, a4, a5, a6, a7, a8, a9⟩ | ⟨a1, a2, v, E, T, M, X, N, b1, b2, b3, b4, b5, b6, b7, b8⟩ | ⟨K, Cc, a1, a2, a3, a4, v, E, T, M, G, W, b1, b2, b3, b4, b5, b6, b7, b8⟩
    · subst a1 a2
      have dj' : ∀ {Z Y : Nat → Prop}, DJ Z Y t0 (t0 + 1) m0 (m0 + 1) → DJ Z Y t0 (t0 + 1) m0 (m0 + 1) := id
      have go := fun (g' : Nat) (Z Y : Nat → Prop) (hg' : g + 1 ≤ g') (hy : ∀ n, Y n → NT n) (d : DJ Z (YN NT Y) t0 (t0 + 1) m0 (m0 + 1)) => evt_px (g := g') (l := l) (NS := NS) H a3 (by omega) (by omega) he hrr d hy l61 (by omega)
      exact ⟨(go (g + 1) _ _ (Nat.le_refl _) hYN (dj.sub (Nat.le_refl _) (Nat.le_refl _) (Nat.le_refl _) (by omega))).2, fun g' Z Y x y z => (go g' Z Y x y z).1⟩
    · have x := a6
      obtain ⟨y1, y2, y3, y4⟩ := x.at
      have rk := x.rk
      have m20 := mu_20 (rr := rr) rk
      have go := fun (g' : Nat) (Z Y : Nat → Prop) (hg' : g + 1 ≤ g' + 2) (hy : ∀ n, Y n → NT n) (d : DJ Z (YN NT Y) t0 t1 m0 mE) => evt_slot (g := g') (l := l) (NS := NS) (rr := rr) H a1 he a2 (H.sn _ _ a3) a4 a5 ht ht1 (by omega) (by omega) hrr d (ihE Z Y hy _ _ _ _ _ _ _ _ _ g' a6 ((d.z ht1).sub (by omega) (Nat.le_refl _) (by omega) (Nat.le_refl _)) (by omega) (by omega) (by omega))
      refine ⟨(go g _ _ (by omega) hYN (dj.sub (Nat.le_refl _) (Nat.le_refl _) (Nat.le_refl _) (by omega))).2, fun g' Z Y x y z => ?_⟩
      obtain ⟨g', rfl⟩ : ∃ y, g' = y + 2 := ⟨g' - 2, by omega⟩
      exact (go g' Z Y x y z).1
    · have x := a9
      obtain ⟨y1, y2, y3, y4⟩ := x.at
      have rk := x.rk
      have m20 := mu_20 (rr := rr) rk
      have lv20 := LV_20 rk
      have go := fun (g' : Nat) (Z Y : Nat → Prop) (hg' : g + 1 ≤ g' + 2) (hy : ∀ n, Y n → NT n) (d : DJ Z (YN NT Y) t0 t1 m0 mE) => evt_tag (g := g') (l := l) (NS := NS) (rr := rr) H a1 a2 a3 a4 a5 a6 a7 a8 (by omega) y1 y2 (by omega) (by omega) (by omega) d hy (fun Z Y hy d => ih1 _ _ _ _ _ _ _ _ _ (g' + 1) Z Y a9 d hy (by omega) he ht1 (by omega))
      refine ⟨(go g _ _ (by omega) hYN (dj.sub (Nat.le_refl _) (Nat.le_refl _) (Nat.le_refl _) (by omega))).2, fun g' Z Y x y z => ?_⟩
      obtain ⟨g', rfl⟩ : ∃ y, g' = y + 2 := ⟨g' - 2, by omega⟩
      exact (go g' Z Y x y z).1
    · have nice : ∀ j, j < v → rr + 20 ≤ 360 := fun j hj => by
        obtain ⟨_, _, _, _, _, _, _, _, _, _, _, x⟩ := b8 j hj
        exact x.rk
      have m20 : ∀ j, j < v → mu (rr + 20) + 6 ≤ mu rr := fun j hj => mu_20 (nice j hj)
      obtain ⟨l', hl'⟩ : ∃ l', (v = 0 → True) ∧ (0 < v → l = LV (rr + 20) + 1) ∧ l' = l := by
        refine ⟨l, fun _ => trivial, fun v0 => ?_, rfl⟩
        have := LV_20 (nice 0 v0)
        omega
      have go := fun (g' : Nat) (Z Y : Nat → Prop) (hg' : g + 1 ≤ g' + 3) (hy : ∀ n, Y n → NT n) (d : DJ Z (YN NT Y) t0 t1 m0 mE) (hll : l = LV (rr + 20) + 1) => evt_fields (g := g') (l := l) (NS := NS) (rr := rr) (X := X) (N := N) H a1 a2 b1 b2 b3 b4 b5 b6 (fun j hj => by
        obtain ⟨x1, x2, x3, x4, x5, x6, x7, x8, x9, x10, x11, x12⟩ := b8 j hj
        exact ⟨x1, x2, x3, x5, x7, x8, x9, x10, x11, x12.at.2.2.2⟩) ht1 (by omega) (by omega) hll d hy (fun j hj Z Y hy d => by
        obtain ⟨x1, x2, x3, x4, x5, x6, x7, x8, x9, x10, x11, x12⟩ := b8 j hj
        have bE := b2.2.2 j hj
        have bT := b3.2.2 j hj
        have bM := b4.2.2 j hj
        have := m20 j hj
        exact ih1 _ _ _ _ _ _ _ _ _ (g' + 1) Z Y x12 d hy (by omega) (by omega) (by omega) (by omega))
      by_cases v0 : 0 < v
      · have hll := hl'.2.1 v0
        have := m20 0 v0
        refine ⟨(go g _ _ (by omega) hYN (dj.sub (Nat.le_refl _) (Nat.le_refl _) (Nat.le_refl _) (by omega)) hll).2, fun g' Z Y x y z => ?_⟩
        obtain ⟨g', rfl⟩ : ∃ y, g' = y + 3 := ⟨g' - 3, by omega⟩
        exact (go g' Z Y x y z hll).1
      · -- no field: nothing hangs there
        obtain rfl : v = 0 := by omega
        have tf : TF c0 r0 t0 m0 := ⟨by rw [a1, a2]; decide, by rw [a2]; decide, 29, a1, by omega, by omega⟩
        refine ⟨tf, fun g' Z Y x hy d => ?_⟩
        obtain ⟨g', rfl⟩ : ∃ y, g' = y + 2 := ⟨g' - 2, by omega⟩
        obtain ⟨dj1, dj2⟩ := d.nt
        have ev := ev_node (κ := κ) (c0 := c0) (r0 := r0) (P := P) (TS := TS) (wt := wt) (Z := Z) (Y := Y) H.cl (rr := rr) (g := g') (m0 := m0) (m1 := mE) (n := m0) (K := 29) (G := M) (Q := fun _ _ _ _ _ _ _ => True) (by omega) a1 (by decide) b6.1 b2 b3 b4 (by omega) (fun j hj => absurd hj (Nat.not_lt_zero _)) (by decide) (NT := NT) dj2 hy ⟨fun t' a b => dj1.1 t' (by omega) b, fun n a b => dj1.2 n (by omega) b⟩ (fun j hj => absurd hj (Nat.not_lt_zero _))
        refine ev.mono (fun c r a nh p pc _ _ _ c' r' pc' mh E' τ l' L => ?_)
        obtain ⟨_, _, _, ⟨z1, z2⟩, _⟩ := L
        exact Or.inr (Or.inr (Or.inr (Or.inl ⟨((ez_r (b := 955) (j := m0) z2 (by omega)).1).trans a1, ((ez_c (b := 354) (j := t0) z1 (by omega)).1).trans a2, 0, T, X, by omega, tc_ez z1 b5, ch_own (ch_ez z2 b6) (by omega), fun j hj => absurd hj (Nat.not_lt_zero _)⟩)))
    · by_cases v0 : 0 < v
      · have rk : rr + 20 ≤ 360 := (b8 0 v0).2.rk
        have m20 := mu_20 (rr := rr) rk
        have lv20 := LV_20 rk
        have go := fun (g' : Nat) (Z Y : Nat → Prop) (hg' : g + 1 ≤ g' + 2) (hy : ∀ n, Y n → NT n) (d : DJ Z (YN NT Y) t0 t1 m0 mE) => evt_rows (g := g') (l := l) (NS := NS) (rr := rr) (W := W) H a1 a2 a3 a4 b1 b3 b4 b5 b6 b7 (fun j hj => (b8 j hj).1) (fun j hj => (b8 j hj).2.tq (by
          rcases (b8 j hj).1 with w | w
          · omega
          · omega)) ht1 (by omega) (by omega) (by omega) d hy (fun j hj Z Y hy d => by
          have bE := b3.2.2 j hj
          have bT := b4.2.2 j hj
          have bM := b5.2.2 j hj
          rcases (b8 j hj).1 with w | ⟨w, _⟩
          · rw [if_pos w]
            have x := (b8 j hj).2
            rw [w] at x
            exact ih1 _ _ _ _ _ _ _ _ _ (g' + 1) Z Y x d hy (by omega) (by omega) (by omega) (by omega)
          · rw [if_neg (by omega)]
            have x := (b8 j hj).2
            rw [w] at x
            exact ih2 _ _ _ _ _ _ _ _ _ (g' + 1) Z Y x d hy (by omega) (by omega) (by omega) (by omega))
        refine ⟨(go g _ _ (by omega) hYN (dj.sub (Nat.le_refl _) (Nat.le_refl _) (Nat.le_refl _) (by omega))).2, fun g' Z Y x y z => ?_⟩
        obtain ⟨g', rfl⟩ : ∃ y, g' = y + 2 := ⟨g' - 2, by omega⟩
        exact (go g' Z Y x y z).1
      · obtain rfl : v = 0 := by omega
        have kc := row_KC a1
        have tf : TF c0 r0 t0 m0 := ⟨by
            have e1 : c0.1 354 t0 = 2 ↔ Cc = 2 := by rw [a4]; exact nI_eq (b := 2) (by omega) (by decide)
            have e2 : r0.1 955 m0 = 21 ↔ K = 21 := by rw [a3]; exact nI_eq (b := 21) (by omega) (by decide)
            rw [e1, e2]; omega, by
            have e1 : c0.1 354 t0 = 18 ↔ Cc = 18 := by rw [a4]; exact nI_eq (b := 18) (by omega) (by decide)
            rw [Ne, e1]; omega, K, a3, by omega, by omega⟩
        refine ⟨tf, fun g' Z Y x hy d => ?_⟩
        obtain ⟨g', rfl⟩ : ∃ y, g' = y + 2 := ⟨g' - 2, by omega⟩
        obtain ⟨dj1, dj2⟩ := d.nt
        have ev := ev_node (κ := κ) (c0 := c0) (r0 := r0) (P := P) (TS := TS) (wt := wt) (Z := Z) (Y := Y) H.cl (rr := rr) (g := g') (m0 := m0) (m1 := mE) (n := m0) (K := K) (G := G) (Q := fun _ _ _ _ _ _ _ => True) (by omega) a3 (by omega) b7.1 b3 b4 b5 (by omega) (fun j hj => absurd hj (Nat.not_lt_zero _)) (by decide) (NT := NT) dj2 hy ⟨fun t' a b => dj1.1 t' (by omega) b, fun n a b => dj1.2 n (by omega) b⟩ (fun j hj => absurd hj (Nat.not_lt_zero _))
        refine ev.mono (fun c r a nh p pc _ _ _ c' r' pc' mh E' τ l' L => ?_)
        obtain ⟨_, _, _, ⟨z1, z2⟩, _⟩ := L
        exact Or.inr (Or.inr (Or.inr (Or.inr ⟨K, Cc, a1, a2, ((ez_r (b := 955) (j := m0) z2 (by omega)).1).trans a3, ((ez_c (b := 354) (j := t0) z1 (by omega)).1).trans a4, 0, T, by omega, tc_ez z1 b6, ch_own (ch_ez z2 b7) (by omega), fun j hj => absurd hj (Nat.not_lt_zero _)⟩)))
  obtain ⟨tf, tone⟩ := tone
  exact evt_wrap H hw tf h1 ht ht1 g1 hm hl dj hYN tone
theorem eva_t2 (H : EvH TN SN κ c0 r0 P TS wt NT NS p1 s1 ce cnt mN hb sb gT) (ih : EvA WN AN TN SN κ c0 r0 P TS wt NT NS p1 s1 ce mN f) : EvT2 WN AN TN SN κ c0 r0 P TS wt NT NS p1 s1 ce mN (f + 1) := by
  intro lv rr e0 e1 t0 t1 m0 m1 n g Z Y h dj hYN hg he ht1 hm
  obtain ⟨ihE, ih1, ih2⟩ := ih
  obtain ⟨h1, h2, h3, h4, h⟩ := h
  rcases h with ⟨⟨hfl, _⟩, _⟩ | ⟨⟨hfl, _⟩, _⟩ | ⟨⟨_, hrr⟩, ht, rfl, a2, a3, a4, a5, a6, a7, v, E, T, M, G, b1, b2, b3, b4, b5, b6, b7, b8⟩
  · exact absurd hfl (by decide)
  · exact absurd hfl (by decide)
  obtain ⟨g, rfl⟩ : ∃ y, g = y + 2 := ⟨g - 2, by omega⟩
  exact evt_perm H a2 a3 a4 a6 a7 b1 b2 b3 b4 b5 b6 b7 (fun j hj => (b8 j hj).tq (by omega)) ht1 (by omega) hm dj hYN (fun j hj Z Y hy d => by
    have bE := b3.2.2 j hj
    have bT := b4.2.2 j hj
    have bM := b5.2.2 j hj
    exact ih1 _ _ _ _ _ _ _ _ _ (g + 1) Z Y (b8 j hj) d hy (by omega) (by omega) (by omega) (by omega))
theorem ev_all (H : EvH TN SN κ c0 r0 P TS wt NT NS p1 s1 ce cnt mN hb sb gT) (hκ : κ.I = IZ c0 P TS wt ce) (ix : ∀ n, NS n → n < 13000 ∧ r0.1 962 n = nI (ti n) ∧ ti n < 4404) (inj : ∀ n n', NS n → NS n' → ti n = ti n' → n = n') (hW : ∀ e n, WN e n → WV c0 r0 e n) (hA : ∀ e n, c0.1 335 e = 8 → AN e n → AV c0 r0 e n) (hN : EN c0 r0) : ∀ f, EvA WN AN TN SN κ c0 r0 P TS wt NT NS p1 s1 ce mN f := by
  intro f
  induction f with
  | zero => exact ⟨fun _ _ _ => ev_0, fun lv rr e0 e1 t0 t1 m0 m1 n g Z Y h => h.elim, fun lv rr e0 e1 t0 t1 m0 m1 n g Z Y h => h.elim⟩
  | succ f ih =>
    refine ⟨fun Z Y hYN => ?_, eva_t1 H ih, eva_t2 H ih⟩
    have hce := H.hce
    have hmN := H.mN
    refine ev_up EK_Z H.h2 H.hce H.hcnt H.p1 H.s1 hW (fun e n _ _ => hA e n) (fun _ _ _ _ _ => hN) (ih.1 Z Y hYN) (fun lv rr e0 e1 t0 t1 m0 m1 n g hr hg he hm h3 h4 h dj => ?_)
    obtain ⟨hn0, he0, hk, ea, ta, ma, a, b, x1, x2, x3, x4, x5, x6, xh, xt⟩ := h
    obtain ⟨y1, y2, y3, y4⟩ := xh.at
    obtain ⟨w1, w2, w3, w4⟩ := xt.at
    have wt' := xt.tq (by omega)
    have rk := xh.rk
    have m15 := mu_15 (rr := rr) hr
    have x0 := XR.pos _ _ _ _ _ _ _ _ _ _ xh
    obtain ⟨g, rfl⟩ : ∃ y, g = y + 4 := ⟨g - 4, by omega⟩
    obtain ⟨djt, t61⟩ := DJ.zt (dj.sub (t0' := ta) (t1' := t1) (m0' := ma) (m1' := m1) y2 (Nat.le_refl _) (by omega) (Nat.le_refl _)) wt'
    have mN1 : m1 ≤ mN := by
      have := H.ntN (m1 - 1) ((djt.nt).2 (m1 - 1) (by omega) (by omega))
      omega
    have iht := ih.2.1 _ _ _ _ _ _ _ _ _ g Z Y xt djt hYN (by omega) (by omega) t61 mN1
    have ihh := ih.1 Z Y hYN _ _ _ _ _ _ _ _ _ (g + 1) xh (dj.sub (Nat.le_refl _) w2 (by omega) (by omega)) (by omega) (by omega) (by omega)
    exact ev_met H.h2 H.hcnt hce H.cl hκ rk he hm x0 x1 (by omega) hn0 (by omega) hk x4 x5 x6 (by omega) ihh iht ix inj (show LV (rr + 15) ≤ 96 by unfold LV; omega) (fun c2 r2 al nh mh p pc E c' r' τ hq p1' p2 hT z1 z2 A pb hi f1 f2 C => hq c' r' pc mh E τ ⟨fun t _ _ => ⟨(f1 361 t (by unfold hmC; omega)).2.1, (f1 362 t (by unfold hmC; omega)).2.1⟩, fun d _ => (f1 338 _ (by unfold hmC; omega)).2.1, fun n _ _ => (f2 1026 n (by unfold hmR rnW; omega)).1, fun j _ => (f2 1027 j (by unfold hmR rnW; omega)).2.1, Nat.le_refl _, fun u _ hs => by
        rw [(f2 1030 u (by unfold hmR rnW; omega)).1, (f2 950 133 (by unfold hmR rnW; omega)).1]; exact hs⟩ ⟨p1', ((f2 950 135 (by unfold hmR rnW; omega)).1).trans p2, hT.same (f2 950 133 (by unfold hmR rnW; omega)).1 (f2 950 135 (by unfold hmR rnW; omega)).1 (fun u => (f2 1030 u (by unfold hmR rnW; omega)).1) (fun n => (f2 1026 n (by unfold hmR rnW; omega)).1) (fun j => (f2 1027 j (by unfold hmR rnW; omega)).2.1), ⟨z1.trans (f1.mono (fun b j y => by unfold hmC at y; unfold eZc eWc; omega)), z2.trans (f2.mono (fun b j y => by unfold hmR rnW at y; unfold eZr eWr; omega))⟩, by
          rw [show c'.2.1 338 = c2.2.1 338 from funext (fun j => (f1 338 j (by unfold hmC; omega)).2.1), show r'.2.1 1006 = r2.2.1 1006 from funext (fun j => (f2 1006 j (by unfold hmR rnW; omega)).2.1)]; exact A, pb, hi, C⟩)
end
