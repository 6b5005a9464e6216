/-! Level 2: templs on both sides: all of them, and exps with met. -/
section
variable {WN AN TN : Nat → Nat → Prop} {SN : Nat → Nat → Prop} {κ : KPP} {c0 r0 : t_S} {P : Nat → Int64} {TS : Nat → Nat → Nat → Prop} {wt : Nat → Nat} {NT NS : Nat → Prop} {Z Y : Nat → Prop} {p1 s1 ce cnt mN hb sb gT g rr rr' e0 e1 t m t0 t1 m0 m1 mE l f n v : Nat} {lv : Int32} {E T M X N G W : Nat → Nat}
/-- { } -/
theorem evt_fields (H : EvH TN SN κ c0 r0 P TS wt NT NS p1 s1 ce cnt mN hb sb gT) (h29 : r0.1 955 m0 = 29) (h8 : c0.1 354 t0 = 8) (hv : v ≤ 16) (hE : px_B v e0 e1 E) (hT : px_B v (t0 + 1) t1 T) (hM : px_B v (m0 + 1) mE M) (tc : tc_R c0 t0 v T) (ch : ch_R r0 m0 v M) (hf : ∀ j, j < v → X j < 7934 ∧ T j < T (j + 1) ∧ M j < M (j + 1) ∧ c0.1 357 (T j) = nI (66 + X j) ∧ c0.1 355 (T j) = nI (T j + 1) ∧ r0.1 955 (M j) = 40 ∧ r0.2.1 957 (M j) = lN (X j) ∧ r0.1 959 (M j) = nI (N j) ∧ r0.1 960 (N j) = -1 ∧ N j < M (j + 1)) (ht1 : t1 ≤ 6100) (hm : m0 + 1 ≤ mE) (hmE : mE ≤ mN) (hl : l = LV (rr + 20) + 1) (dj : DJ Z (YN NT Y) t0 t1 m0 mE) (hYN : ∀ n, Y n → NT n) (ih : ∀ j, j < v → ∀ Z Y, (∀ n, Y n → NT n) → DJ Z (YN NT Y) (T j + 1) (T (j + 1)) (M j + 1) (M (j + 1)) → EVt κ c0 r0 P TS wt Z Y (g + 1) (rr + 20) (E j) (E (j + 1)) (M j + 1) (M (j + 1)) (N j) (QX c0 r0 P TS (T j + 1) (T (j + 1)) (M j + 1) (M (j + 1)) (TMx NS (LV (rr + 20)) (T j + 1) (N j)))) : EVt κ c0 r0 P TS wt Z Y (g + 3) rr e0 e1 m0 mE m0 (QX c0 r0 P TS t0 t1 m0 mE (TMy NS l t0 m0)) ∧ TF c0 r0 t0 m0 := by
  obtain ⟨dj1, dj2⟩ := dj.nt
  have hmN := H.mN
  refine ⟨?_, by rw [h29, h8]; decide, by rw [h8]; decide, 29, h29, by omega, by omega⟩
  have ev := ev_node (κ := κ) (c0 := c0) (r0 := r0) (P := P) (TS := TS) (wt := wt) (Z := Z) (Y := Y) H.cl (rr := rr) (g := g + 1) (m0 := m0) (m1 := mE) (n := m0) (K := 29) (G := M) (Q := fun j => QX c0 r0 P TS (T j) (T (j + 1)) (M j) (M (j + 1)) (TMx NS (LV (rr + 20)) (T j + 1) (N j))) (by omega) h29 (by decide) ch.1 hE hT hM (by omega) (fun j hj => ⟨(ch.2 j hj).1, (ch.2 j hj).2.2.1⟩) hv (NT := NT) dj2 hYN ⟨fun t' a b => dj1.1 t' (by omega) b, fun n a b => dj1.2 n (by omega) b⟩ (fun j hj => by
    refine ⟨QX.qs, fun Z Y hy d => ?_⟩
    obtain ⟨_, x2, x3, _, _, x6, _, x8, x9, x10⟩ := hf j hj
    have bE := hE.2.2 j hj
    have bT := hT.2.2 j hj
    have bM := hM.2.2 j hj
    have nt : ∀ n, M j ≤ n → n < M (j + 1) → NT n := fun n a b => dj2 n (by omega) (by omega)
    have ev1 := ev_node (κ := κ) (c0 := c0) (r0 := r0) (P := P) (TS := TS) (wt := wt) (Z := Z) (Y := Y) H.cl (rr := rr) (g := g) (v := 1) (e0 := E j) (e1 := E (j + 1)) (t0 := T j + 1) (t1 := T (j + 1)) (ma := M j + 1) (mb := M (j + 1)) (m0 := M j) (m1 := M (j + 1)) (n := M j) (K := 40) (G := fun _ => N j) (Q := fun _ => QX c0 r0 P TS (T j + 1) (T (j + 1)) (M j + 1) (M (j + 1)) (TMx NS (LV (rr + 20)) (T j + 1) (N j))) (by omega) x6 (by decide) x8 (px_B1 bE.1) (px_B1 x2) (px_B1 x3) (by omega) (fun i hi => ⟨by omega, by rw [if_neg (by omega)]; exact x9⟩) (by decide) (NT := NT) nt hy ⟨fun t' a b => d.1 t' (by omega) b, fun n a b => d.2 n (by omega) b⟩ (fun i hi => by
      obtain rfl : i = 0 := by omega
      exact ⟨QX.qs, fun Z Y hy d => (ih j hj Z Y hy (DJ.y d (fun n a b => nt n (by omega) b))).dn (by omega)⟩)
    exact ev1.mono (fun c r a nh p pc _ _ hq => (hq 0 (by decide)).sub (by omega) (Nat.le_refl _) (by omega) (Nat.le_refl _)))
  refine ev.mono (fun c r a nh p pc _ _ hq c' r' pc' mh E' τ l' L => ?_)
  have q : ∀ j, j < v → TM c' r' 338 a p E' NS (LV (rr + 20)) (T j + 1) (N j) := fun j hj => by
    have bT := hT.2.2 j hj
    have bM := hM.2.2 j hj
    exact hq j hj c' r' pc' mh E' τ (l'.sub (by omega) (by omega) (by omega) (by omega)) L
  obtain ⟨_, _, _, ⟨z1, z2⟩, _⟩ := L
  have ch' := ch_ez z2 ch
  obtain ⟨_, gm⟩ := ch_gn ch' hv
  refine Or.inr (Or.inr (Or.inr (Or.inl ⟨((ez_r (b := 955) (j := m0) z2 (by omega)).1).trans h29, ((ez_c (b := 354) (j := t0) z1 (by omega)).1).trans h8, v, T, X, hv, tc_ez z1 tc, ch_own ch' hv, fun j hj => ?_⟩)))
  obtain ⟨x1, x2, x3, x4, x5, x6, x7, x8, x9, x10⟩ := hf j hj
  have bT := hT.2.2 j hj
  rw [gm j hj]
  refine ⟨by omega, x1, ((ez_c (b := 357) (j := T j) z1 (by omega)).1).trans x4, ((ez_r (b := 957) (j := M j) z2 (by omega)).2.1).trans x7, T j + 1, N j, ((ez_c (b := 355) (j := T j) z1 (by omega)).1).trans x5, ((ez_r (b := 959) (j := M j) z2 (by omega)).1).trans x8, ?_⟩
  rw [hl]
  exact TM.up _ _ _ (q j hj)
theorem row_KC {K Cc : Nat} (h : px_row K Cc) : (31 ≤ K ∧ K ≤ 39 ∧ K ≠ 35 ∧ K ≠ 38) ∧ 10 ≤ Cc ∧ Cc ≤ 18 ∧ (Cc = 18 → K = 39) ∧ Cc ≠ 17 := by unfold px_row at h; omega
/-- [ ], ( ), the four words -/
theorem evt_rows (H : EvH TN SN κ c0 r0 P TS wt NT NS p1 s1 ce cnt mN hb sb gT) {K Cc : Nat} (hKC : px_row K Cc) (h39 : K ≠ 39) (hk : r0.1 955 m0 = nI K) (hc : c0.1 354 t0 = nI Cc) (hv : v ≤ 12) (hE : px_B v e0 e1 E) (hT : px_B v (t0 + 1) t1 T) (hM : px_B v (m0 + 1) mE M) (tc : tc_R c0 t0 v T) (ch : ch_R r0 m0 v G) (hW : ∀ j, j < v → W j = 1 ∨ W j = 2 ∧ K = 31) (hTl : ∀ j, j < v → T j < T (j + 1)) (ht1 : t1 ≤ 6100) (hm : m0 + 1 ≤ mE) (hmE : mE ≤ mN) (hl : l = LV (rr + 20) + 1) (dj : DJ Z (YN NT Y) t0 t1 m0 mE) (hYN : ∀ n, Y n → NT n) (ih : ∀ j, j < v → ∀ Z Y, (∀ n, Y n → NT n) → DJ Z (YN NT Y) (T j) (T (j + 1)) (M j) (M (j + 1)) → EVt κ c0 r0 P TS wt Z Y (g + 1) (rr + 20) (E j) (E (j + 1)) (M j) (M (j + 1)) (G j) (QX c0 r0 P TS (T j) (T (j + 1)) (M j) (M (j + 1)) (if W j = 1 then TMx NS (LV (rr + 20)) (T j) (G j) else PF NS (LV (rr + 20)) (T j) (G j)))) : EVt κ c0 r0 P TS wt Z Y (g + 2) rr e0 e1 m0 mE m0 (QX c0 r0 P TS t0 t1 m0 mE (TMy NS l t0 m0)) ∧ TF c0 r0 t0 m0 := by
  obtain ⟨dj1, dj2⟩ := dj.nt
  have hmN := H.mN
  have kc := row_KC hKC
  refine ⟨?_, ?_, ?_, K, hk, by omega, by omega⟩
  rotate_left
  · have e1 : c0.1 354 t0 = 2 ↔ Cc = 2 := by rw [hc]; exact nI_eq (b := 2) (by omega) (by decide)
    have e2 : r0.1 955 m0 = 21 ↔ K = 21 := by rw [hk]; exact nI_eq (b := 21) (by omega) (by decide)
    rw [e1, e2]
    omega
  · have e1 : c0.1 354 t0 = 18 ↔ Cc = 18 := by rw [hc]; exact nI_eq (b := 18) (by omega) (by decide)
    rw [Ne, e1]
    omega
  have ev := ev_node (κ := κ) (c0 := c0) (r0 := r0) (P := P) (TS := TS) (wt := wt) (Z := Z) (Y := Y) H.cl (rr := rr) (g := g) (m0 := m0) (m1 := mE) (n := m0) (K := K) (G := G) (Q := fun j => QX c0 r0 P TS (T j) (T (j + 1)) (M j) (M (j + 1)) (if W j = 1 then TMx NS (LV (rr + 20)) (T j) (G j) else PF NS (LV (rr + 20)) (T j) (G j))) (by omega) hk (by omega) ch.1 hE hT hM (by omega) (fun j hj => ⟨(ch.2 j hj).1, (ch.2 j hj).2.2.1⟩) (by omega) (NT := NT) dj2 hYN ⟨fun t' a b => dj1.1 t' (by omega) b, fun n a b => dj1.2 n (by omega) b⟩ (fun j hj => by
    have bM := hM.2.2 j hj
    exact ⟨QX.qs, fun Z Y hy d => (ih j hj Z Y hy (DJ.y d (fun n a b => dj2 n (by omega) (by omega)))).dn (by omega)⟩)
  refine ev.mono (fun c r a nh p pc _ _ hq c' r' pc' mh E' τ l' L => ?_)
  have q : ∀ j, j < v → (if W j = 1 then TMx NS (LV (rr + 20)) (T j) (G j) else PF NS (LV (rr + 20)) (T j) (G j)) c' r' a p E' := fun j hj => by
    have bT := hT.2.2 j hj
    have bM := hM.2.2 j hj
    exact hq j hj c' r' pc' mh E' τ (l'.sub (by omega) (by omega) (by omega) (by omega)) L
  obtain ⟨_, _, _, ⟨z1, z2⟩, _⟩ := L
  have ch' := ch_ez z2 ch
  obtain ⟨_, gm⟩ := ch_gn ch' (by omega)
  refine Or.inr (Or.inr (Or.inr (Or.inr ⟨K, Cc, hKC, h39, ((ez_r (b := 955) (j := m0) z2 (by omega)).1).trans hk, ((ez_c (b := 354) (j := t0) z1 (by omega)).1).trans hc, v, T, hv, tc_ez z1 tc, ch_own ch' (by omega), fun j hj => ?_⟩)))
  have bT := hT.2.2 j hj
  have bl := hTl j hj
  rw [gm j hj]
  have qj := q j hj
  refine ⟨by omega, ?_⟩
  rcases hW j hj with w | ⟨w, k31⟩
  · rw [if_pos w] at qj
    refine Or.inl ?_
    rw [hl]
    exact TM.up _ _ _ qj
  · rw [if_neg (by omega)] at qj
    obtain ⟨y1, y2, y3, y4, y5, v', T', y6, y7, y8, y9, y10⟩ := qj
    refine Or.inr ⟨k31, y1, y2, y3, y4, y5, v', T', y6, y7, y8, y9, fun j' hj' => ⟨(y10 j' hj').1, ?_⟩⟩
    rw [hl]
    exact (y10 j' hj').2
/-- perm -/
theorem evt_perm (H : EvH TN SN κ c0 r0 P TS wt NT NS p1 s1 ce cnt mN hb sb gT) (h39 : r0.1 955 n = 39) (h61 : r0.1 961 n = 0) (h18 : c0.1 354 t0 = 18) (h59 : c0.1 359 t0 = 0) (h60 : c0.1 360 t0 = 0) (hv : v ≤ 12) (v0 : 0 < v) (hE : px_B v e0 e1 E) (hT : px_B v (t0 + 1) t1 T) (hM : px_B v (n + 1) m1 M) (tc : tc_R c0 t0 v T) (ch : ch_R r0 n v G) (hTl : ∀ j, j < v → T j < T (j + 1)) (ht1 : t1 ≤ 6100) (hm : n + 1 ≤ m1) (hmE : m1 ≤ mN) (dj : DJ Z (YN NT Y) t0 t1 n m1) (hYN : ∀ n, Y n → NT n) (ih : ∀ j, j < v → ∀ Z Y, (∀ n, Y n → NT n) → DJ Z (YN NT Y) (T j) (T (j + 1)) (M j) (M (j + 1)) → EVt κ c0 r0 P TS wt Z Y (g + 1) rr (E j) (E (j + 1)) (M j) (M (j + 1)) (G j) (QX c0 r0 P TS (T j) (T (j + 1)) (M j) (M (j + 1)) (TMx NS l (T j) (G j)))) : EVt κ c0 r0 P TS wt Z Y (g + 2) rr e0 e1 n m1 n (QX c0 r0 P TS t0 t1 n m1 (PF NS l t0 n)) := by
  obtain ⟨dj1, dj2⟩ := dj.nt
  have hmN := H.mN
  have ev := ev_node (κ := κ) (c0 := c0) (r0 := r0) (P := P) (TS := TS) (wt := wt) (Z := Z) (Y := Y) H.cl (rr := rr) (g := g) (m0 := n) (m1 := m1) (n := n) (K := 39) (G := G) (Q := fun j => QX c0 r0 P TS (T j) (T (j + 1)) (M j) (M (j + 1)) (TMx NS l (T j) (G j))) (by omega) h39 (by omega) ch.1 hE hT hM (by omega) (fun j hj => ⟨(ch.2 j hj).1, (ch.2 j hj).2.2.1⟩) (by omega) (NT := NT) dj2 hYN ⟨fun t' a b => dj1.1 t' (by omega) b, fun n a b => dj1.2 n (by omega) b⟩ (fun j hj => by
    have bM := hM.2.2 j hj
    exact ⟨QX.qs, fun Z Y hy d => ih j hj Z Y hy (DJ.y d (fun n a b => dj2 n (by omega) (by omega)))⟩)
  refine ev.mono (fun c r a nh p pc _ _ hq c' r' pc' mh E' τ l' L => ?_)
  have q : ∀ j, j < v → TM c' r' 338 a p E' NS l (T j) (G j) := fun j hj => by
    have bT := hT.2.2 j hj
    have bM := hM.2.2 j hj
    exact hq j hj c' r' pc' mh E' τ (l'.sub (by omega) (by omega) (by omega) (by omega)) L
  obtain ⟨_, _, _, ⟨z1, z2⟩, _⟩ := L
  have ch' := ch_ez z2 ch
  obtain ⟨_, gm⟩ := ch_gn ch' (by omega)
  refine ⟨((ez_c (b := 354) (j := t0) z1 (by omega)).1).trans h18, ((ez_c (b := 359) (j := t0) z1 (by omega)).1).trans h59, ((ez_c (b := 360) (j := t0) z1 (by omega)).1).trans h60, ((ez_r (b := 955) (j := n) z2 (by omega)).1).trans h39, ((ez_r (b := 961) (j := n) z2 (by omega)).1).trans h61, v, T, v0, hv, tc_ez z1 tc, ch_own ch' (by omega), fun j hj => ?_⟩
  have bT := hT.2.2 j hj
  have bl := hTl j hj
  rw [gm j hj]
  exact ⟨by omega, q j hj⟩
/-- length, ifpresent -/
theorem evt_wrap (H : EvH TN SN κ c0 r0 P TS wt NT NS p1 s1 ce cnt mN hb sb gT) (hw : px_wrap c0 r0 lv t0 m0 mE m1 n) (tf : TF c0 r0 t0 m0) (he : e0 ≤ e1) (ht : t0 < t1) (ht1 : t1 ≤ 6100) (hm : m0 < mE) (hmE : m1 ≤ mN) (hl : LV rr = l + 1) (dj : DJ Z (YN NT Y) t0 t1 m0 m1) (hYN : ∀ n, Y n → NT n) (ih : ∀ (g' : Nat) (Z Y : Nat → Prop), g + 1 ≤ g' → (∀ n, Y n → NT n) → DJ Z (YN NT Y) t0 t1 m0 mE → EVt κ c0 r0 P TS wt Z Y g' rr e0 e1 m0 mE m0 (QX c0 r0 P TS t0 t1 m0 mE (TMy NS l t0 m0))) : EVt κ c0 r0 P TS wt Z Y (g + 2) rr e0 e1 m0 m1 n (QX c0 r0 P TS t0 t1 m0 m1 (TMx NS (LV rr) t0 n)) := by
  have hmN := H.mN
  obtain ⟨tf1, tf2, K, k1, k2, k3⟩ := tf
  obtain ⟨_, b, b1, h360, h961, h⟩ := hw
  have common : ∀ {c' r' : t_S}, l2_fr (eZc c0) c0 c' → c'.1 354 t0 ≠ 18 := fun z1 => by rw [(ez_c (b := 354) (j := t0) z1 (by omega)).1]; exact tf2
  rcases h with ⟨h359, rfl, rfl⟩ | ⟨rfl, rfl, h955, h959, h961', h960, lo, hi, g1, g2, g3, g4, g5⟩
  · refine (ih (g + 2) Z Y (by omega) hYN dj).mono (fun c r a nh p pc _ _ hq c' r' pc' mh E' τ l' L => ?_)
    have q := hq c' r' pc' mh E' τ l' L
    obtain ⟨_, _, _, ⟨z1, z2⟩, _⟩ := L
    unfold TMx
    rw [hl]
    refine TM_s.mpr ⟨H.ns n K (by omega) k1 k2 (by omega), by omega, by omega, common (r' := r') z1, b, b1, ((ez_c (b := 360) (j := t0) z1 (by omega)).1).trans h360, ((ez_r (b := 961) (j := n) z2 (by omega)).1).trans h961, Or.inl ⟨((ez_c (b := 359) (j := t0) z1 (by omega)).1).trans h359, ?_, q⟩⟩
    rw [(ez_c (b := 354) (j := t0) z1 (by omega)).1, (ez_r (b := 955) (j := n) z2 (by omega)).1]
    exact tf1
  · obtain ⟨dj1, dj2⟩ := dj.nt
    have ev := ev_node (κ := κ) (c0 := c0) (r0 := r0) (P := P) (TS := TS) (wt := wt) (Z := Z) (Y := Y) H.cl (rr := rr) (g := g) (v := 1) (e0 := e0) (e1 := e1) (t0 := t0) (t1 := t1) (ma := m0) (mb := n) (m0 := m0) (m1 := n + 1) (n := n) (K := 41) (G := fun _ => m0) (Q := fun _ => QX c0 r0 P TS t0 t1 m0 n (TMy NS l t0 m0)) (by omega) h955 (by decide) h959 (px_B1 he) (px_B1 (by omega)) (px_B1 (by omega)) (by omega) (fun i hi => ⟨by omega, by rw [if_neg (by omega)]; exact h960⟩) (by decide) (NT := NT) dj2 hYN (dj1.sub (Nat.le_refl _) (Nat.le_refl _) (Nat.le_refl _) (by omega)) (fun i hi => by
      obtain rfl : i = 0 := by omega
      exact ⟨QX.qs, fun Z Y hy d => ih (g + 1) Z Y (Nat.le_refl _) hy (DJ.y d (fun x a b => dj2 x a (by omega)))⟩)
    refine ev.mono (fun c r a nh p pc _ _ hq c' r' pc' mh E' τ l' L => ?_)
    have q := hq 0 (by decide) c' r' pc' mh E' τ (l'.sub (Nat.le_refl _) (Nat.le_refl _) (Nat.le_refl _) (by omega)) L
    obtain ⟨_, _, _, ⟨z1, z2⟩, _⟩ := L
    unfold TMx
    rw [hl]
    refine TM_s.mpr ⟨H.ns n 41 (by omega) h955 (by decide) (by decide), by omega, by omega, common (r' := r') z1, b, b1, ((ez_c (b := 360) (j := t0) z1 (by omega)).1).trans h360, ((ez_r (b := 961) (j := n) z2 (by omega)).1).trans h961, Or.inr ⟨?_, ((ez_r (b := 955) (j := n) z2 (by omega)).1).trans h955, m0, lo, hi, ((ez_r (b := 959) (j := n) z2 (by omega)).1).trans h959, by omega, g2, ((ez_r (b := 957) (j := n) z2 (by omega)).2.1).trans g3, ((ez_r (b := 958) (j := n) z2 (by omega)).2.1).trans g4, ((ez_c (b := 359) (j := t0) z1 (by omega)).1).trans g5, H.ns m0 K (by omega) k1 k2 (by omega), by omega, ((ez_r (b := 961) (j := m0) z2 (by omega)).1).trans h961', q⟩⟩
    rw [(ez_c (b := 359) (j := t0) z1 (by omega)).1, g5]
    exact nI_ne0 (by omega) (by omega)
end
