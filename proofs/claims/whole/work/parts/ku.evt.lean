/-! Level 2: templs on both sides: tones with parts, what stands behind a tone, perms. -/
/-- what is protected, and what isn't there to be written -/
def YN (NT Y : Nat → Prop) (n : Nat) : Prop := Y n ∨ ¬ NT n
/-- a perm, known on both sides -/
def PF (NS : Nat → Prop) (l t n : Nat) (c' r' : t_S) (a p E : Nat) : Prop := c'.1 354 t = 18 ∧ c'.1 359 t = 0 ∧ c'.1 360 t = 0 ∧ r'.1 955 n = 39 ∧ r'.1 961 n = 0 ∧ ∃ (v' : Nat) (T' : Nat → Nat), 0 < v' ∧ v' ≤ 12 ∧ tc_R c' t v' T' ∧ ch_R r' n v' (gn r' n) ∧ ∀ j', j' < v' → T' j' < 6100 ∧ TM c' r' 338 a p E NS l (T' j') (gn r' n j')
def TMx (NS : Nat → Prop) (l t n : Nat) (c' r' : t_S) (a p E : Nat) : Prop := TM c' r' 338 a p E NS l t n
def TMy (NS : Nat → Prop) (l t n : Nat) (c' r' : t_S) (a p E : Nat) : Prop := TMt c' r' 338 a p E (TM c' r' 338 a p E NS l) (TM c' r' 338 a p E NS (l - 1)) t n
/-- what a tone is besides -/
def TF (c0 r0 : t_S) (t m : Nat) : Prop := (c0.1 354 t = 2 ↔ r0.1 955 m = 21) ∧ c0.1 354 t ≠ 18 ∧ ∃ K : Nat, r0.1 955 m = nI K ∧ 20 ≤ K ∧ K ≤ 38
section
variable {WN AN TN : Nat → Nat → Prop} {SN : Nat → Nat → Prop} {κ : KPP} {c0 r0 : t_S} {P : Nat → Int64} {TS : Nat → Nat → Nat → Prop} {wt : Nat → Nat} {NT NS : Nat → Prop} {Z Y : Nat → Prop} {p1 s1 ce cnt mN hb sb gT g rr rr' e0 e1 t m t0 t1 m0 m1 mE l f n : Nat} {lv : Int32} {Q : t_S → t_S → Nat → Nat → Nat → Nat → Prop}
theorem EVp.dn {Kc : t_S → t_S → Prop} {Kr : Nat → Nat → t_S → t_S → Prop} (h : EVp κ c0 r0 Kc Kr g rr' e0 e1 m0 m1 n) (le : rr ≤ rr') : EVp κ c0 r0 Kc Kr g rr e0 e1 m0 m1 n := fun c r D a H S hE hv hS => h c r D a H S (hE.up le) hv hS
theorem EVt.dn (h : EVt κ c0 r0 P TS wt Z Y g rr' e0 e1 m0 m1 n Q) (le : rr ≤ rr') : EVt κ c0 r0 P TS wt Z Y g rr e0 e1 m0 m1 n Q := fun c r D a H S nh mh pc hE => h c r D a H S nh mh pc (hE.up le)
def EvT1 (WN AN TN : Nat → Nat → Prop) (SN : Nat → Nat → Prop) (κ : KPP) (c0 r0 : t_S) (P : Nat → Int64) (TS : Nat → Nat → Nat → Prop) (wt : Nat → Nat) (NT NS : Nat → Prop) (p1 s1 ce mN f : Nat) : Prop := ∀ (lv : Int32) (rr e0 e1 t0 t1 m0 m1 n g : Nat) (Z Y : Nat → Prop), XR WN AN TN SN c0 r0 p1 s1 f 1 lv rr e0 e1 t0 t1 m0 m1 n → DJ Z (YN NT Y) t0 t1 m0 m1 → (∀ n, Y n → NT n) → 3 * mu rr + κ.g + 6 ≤ g → e1 ≤ ce → t1 ≤ 6100 → m1 ≤ mN → EVt κ c0 r0 P TS wt Z Y g rr e0 e1 m0 m1 n (QX c0 r0 P TS t0 t1 m0 m1 (TMx NS (LV rr) t0 n))
def EvT2 (WN AN TN : Nat → Nat → Prop) (SN : Nat → Nat → Prop) (κ : KPP) (c0 r0 : t_S) (P : Nat → Int64) (TS : Nat → Nat → Nat → Prop) (wt : Nat → Nat) (NT NS : Nat → Prop) (p1 s1 ce mN f : Nat) : Prop := ∀ (lv : Int32) (rr e0 e1 t0 t1 m0 m1 n g : Nat) (Z Y : Nat → Prop), XR WN AN TN SN c0 r0 p1 s1 f 2 lv rr e0 e1 t0 t1 m0 m1 n → DJ Z (YN NT Y) t0 t1 m0 m1 → (∀ n, Y n → NT n) → 3 * mu rr + κ.g + 7 ≤ g → e1 ≤ ce → t1 ≤ 6100 → m1 ≤ mN → EVt κ c0 r0 P TS wt Z Y g rr e0 e1 m0 m1 n (QX c0 r0 P TS t0 t1 m0 m1 (PF NS (LV rr) t0 n))
theorem DJ.nt (h : DJ Z (YN NT Y) t0 t1 m0 m1) : DJ Z Y t0 t1 m0 m1 ∧ ∀ n, m0 ≤ n → n < m1 → NT n := ⟨⟨h.1, fun n a b y => h.2 n a b (Or.inl y)⟩, fun n a b => Classical.byContradiction (fun y => h.2 n a b (Or.inr y))⟩
theorem DJ.y (h : DJ Z Y t0 t1 m0 m1) (hn : ∀ n, m0 ≤ n → n < m1 → NT n) : DJ Z (YN NT Y) t0 t1 m0 m1 := ⟨h.1, fun n a b y => y.elim (h.2 n a b) (fun w => w (hn n a b))⟩
/-- leaves, names -/
theorem evt_px (H : EvH TN SN κ c0 r0 P TS wt NT NS p1 s1 ce cnt mN hb sb gT) (hp : px_tone TN c0 r0 p1 s1 e0 e1 t m) (ht : t < 6100) (hm : m + 1 ≤ mN) (he : e1 ≤ ce) (hrr : rr ≤ 360) (dj : DJ Z (YN NT Y) t (t + 1) m (m + 1)) (hYN : ∀ n, Y n → NT n) (hl : 61 ≤ l) (hg : κ.g + 2 ≤ g) : EVt κ c0 r0 P TS wt Z Y g rr e0 e1 m (m + 1) m (QX c0 r0 P TS t (t + 1) m (m + 1) (TMy NS l t m)) ∧ TF c0 r0 t m := by
  obtain ⟨g, rfl⟩ : ∃ y, g = y + 2 := ⟨g - 2, by omega⟩
  have hmN := H.mN
  obtain ⟨dj1, dj2⟩ := dj.nt
  rcases hp with ⟨rfl, h59, hp⟩ | ⟨rfl, h28, ho, hT⟩
  · have tf : TF c0 r0 t m ∧ ∃ K : Nat, r0.1 955 m = nI K ∧ (20 ≤ K ∧ K ≤ 27 ∨ K = 35) := by
      rcases hp with ⟨b1, b2⟩ | ⟨b1, b2⟩ | ⟨b1, b2⟩ | ⟨b1 | b1, b2, _⟩ | ⟨b1 | b1, b2, _⟩ | ⟨⟨b1, b2⟩ | ⟨b1, b2⟩, _⟩
      · exact ⟨⟨by rw [b1, b2]; decide, by rw [b2]; decide, 20, b1, by omega, by omega⟩, 20, b1, by omega⟩
      · exact ⟨⟨by rw [b1, b2]; decide, by rw [b2]; decide, 21, b1, by omega, by omega⟩, 21, b1, by omega⟩
      · exact ⟨⟨by rw [b1, b2]; decide, by rw [b2]; decide, 27, b1, by omega, by omega⟩, 27, b1, by omega⟩
      · exact ⟨⟨by rw [b1, b2]; decide, by rw [b2]; decide, 22, b1, by omega, by omega⟩, 22, b1, by omega⟩
      · exact ⟨⟨by rw [b1, b2]; decide, by rw [b2]; decide, 23, b1, by omega, by omega⟩, 23, b1, by omega⟩
      · exact ⟨⟨by rw [b1, b2]; decide, by rw [b2]; decide, 24, b1, by omega, by omega⟩, 24, b1, by omega⟩
      · exact ⟨⟨by rw [b1, b2]; decide, by rw [b2]; decide, 25, b1, by omega, by omega⟩, 25, b1, by omega⟩
      · exact ⟨⟨by rw [b1, b2]; decide, by rw [b2]; decide, 26, b1, by omega, by omega⟩, 26, b1, by omega⟩
      · exact ⟨⟨by rw [b1, b2]; decide, by rw [b2]; decide, 35, b1, by omega, by omega⟩, 35, b1, by omega⟩
    obtain ⟨tf, K, k1, k2⟩ := tf
    refine ⟨?_, tf⟩
    have ev := ev_node (κ := κ) (c0 := c0) (r0 := r0) (P := P) (TS := TS) (wt := wt) (Z := Z) (Y := Y) H.cl (rr := rr) (g := g) (v := 0) (e0 := e1) (e1 := e1) (t0 := t) (t1 := t) (ma := m) (mb := m) (m0 := m) (m1 := m + 1) (n := m) (K := K) (E := fun _ => e1) (T := fun _ => t) (M := fun _ => m) (G := fun _ => 0) (Q := fun _ _ _ _ _ _ _ => True) (by omega) k1 (by omega) h59 px_B0 px_B0 px_B0 (by omega) (fun j hj => absurd hj (Nat.not_lt_zero _)) (by decide) (NT := NT) dj2 hYN ⟨fun t' a b => by omega, fun n a b => by omega⟩ (fun j hj => absurd hj (Nat.not_lt_zero _))
    exact ev.mono (fun c r a nh p pc _ _ _ c' r' pc' mh E τ _ L => (tmt_leaf H.p1 H.s1 hp L ht (by omega) _ _).1)
  · have hi : e0 < cnt := by have := H.hce; omega
    rcases H.tn _ _ hT with ⟨h6, X, y, x1, x2, x3, x4, x5⟩ | ⟨h7, u, u1, u2, u3, w, t', n', ⟨w1, w2, w3⟩, tp, ⟨q1, q2⟩, tm⟩
    · refine ⟨?_, by rw [h28, h6]; decide, by rw [h6]; decide, 28, h28, by omega, by omega⟩
      refine (ev_28w H hi ho ht (by omega) h28 hrr h6 x4 x5).mono (fun c r a nh p pc _ _ _ c' r' pc' mh E τ _ L => ?_)
      have pr := L.pr
      obtain ⟨_, _, _, ⟨z1, z2⟩, A, pb, _, C⟩ := L
      obtain ⟨S, s1, s2⟩ := lf_word (X := X) (y := y) C pb pr A.pd (by omega) ht (((ez_r (b := 955) (j := m) z2 (by omega)).1).trans h28) (((ez_c (b := 354) (j := t) z1 (by omega)).1).trans h6) x1 (((ez_c (b := 357) (j := t) z1 (by omega)).1).trans x2) (((ez_r (b := 957) (j := m) z2 (by omega)).2.1).trans x3) (x4 r' z2) x5
      exact Or.inl ⟨S, s1, s2, fun _ => ⟨y, x4 r' z2, x5⟩, 28, ((ez_r (b := 955) (j := m) z2 (by omega)).1).trans h28, by omega⟩
    · refine ⟨?_, by rw [h28, h7]; decide, by rw [h7]; decide, 28, h28, by omega, by omega⟩
      refine (ev_28 (m1 := m + 1) H.h2 H.hcnt H.h14 hi ho ht (by omega) h28 hrr h7 u2 u1 u3 w1 w2 w3 hYN (by omega) H.kb (tp (g + 1) (by have := H.gk; omega))).mono (fun c r a nh p pc _ _ hq c' r' pc' mh E τ l' L => ?_)
      have st := l'.2.2.2.2.2 u u1 hq
      have tt := (tm c' r' pc' a nh p mh E τ L st).upTo hl
      obtain ⟨_, _, _, ⟨z1, z2⟩, A, pb, _, C⟩ := L
      exact Or.inr (Or.inl ⟨((ez_r (b := 955) (j := m) z2 (by omega)).1).trans h28, ((ez_c (b := 354) (j := t) z1 (by omega)).1).trans h7, u, t', n', u1, u3 r' z2, ((ez_c (b := 357) (j := t) z1 (by omega)).1).trans u2, ((ez_c (b := 364 + u) (j := 0) z1 (by omega)).1).trans q1, ((ez_r (b := 968) (j := u) z2 (by omega)).1).trans q2, tt⟩)
/-- = ( ) -/
theorem evt_slot (H : EvH TN SN κ c0 r0 P TS wt NT NS p1 s1 ce cnt mN hb sb gT) {n' : Nat} (he : e0 < e1) (he1 : e1 ≤ ce) (h38 : r0.1 955 m0 = 38) (h17 : c0.1 354 t0 = 17) (ho : px_o c0 (e1 - 1) 34 (nI t0)) (h59 : r0.1 959 m0 = nI n') (ht : t0 < t1) (ht1 : t1 ≤ 6100) (hm : m0 + 1 ≤ mE) (hmE : mE ≤ mN) (hrr : rr ≤ 360) (dj : DJ Z (YN NT Y) t0 t1 m0 mE) (ih : EVp κ c0 r0 (KcZ Z) (KrZ c0 P TS wt Y) g (rr + 20) e0 (e1 - 1) (m0 + 1) mE n') : EVt κ c0 r0 P TS wt Z Y (g + 2) rr e0 e1 m0 mE m0 (QX c0 r0 P TS t0 t1 m0 mE (TMy NS l t0 m0)) ∧ TF c0 r0 t0 m0 := by
  obtain ⟨dj1, dj2⟩ := dj.nt
  have hmN := H.mN
  have hce := H.hce
  refine ⟨?_, by rw [h38, h17]; decide, by rw [h17]; decide, 38, h38, by omega, by omega⟩
  refine (ev_38 H.h2 H.hcnt H.h14 he (by omega) (by omega) h17 (by omega) h38 h59 ho hrr (dj1.1 _ (Nat.le_refl _) ht) (dj1.2 _ (Nat.le_refl _) (by omega)) (H.nts _ (dj2 _ (Nat.le_refl _) (by omega))) ⟨hm, by omega⟩ (ih.dn (by omega))).mono (fun c r a nh p pc _ _ hq c' r' pc' mh E τ l' L => ?_)
  have s := hq.two.later (l'.1 t0 (Nat.le_refl _) ht).1 (l'.1 t0 (Nat.le_refl _) ht).2 l'.2.1 (l'.2.2.1 m0 (Nat.le_refl _) (by omega)) l'.2.2.2.1 l'.2.2.2.2.1
  obtain ⟨hp, _, _, ⟨z1, z2⟩, A, pb, _, C⟩ := L
  have k5 : r'.1 955 m0 = 38 := ((ez_r (b := 955) (j := m0) z2 (by omega)).1).trans h38
  obtain ⟨S, s1, s2⟩ := s.leaf C A pb hp (by omega) (by omega) k5 (((ez_c (b := 354) (j := t0) z1 (by omega)).1).trans h17)
  exact Or.inl ⟨S, s1, s2, fun y => by rw [k5] at y; exact absurd y (by decide), 38, k5, by omega⟩
/-- @ -/
theorem evt_tag (H : EvH TN SN κ c0 r0 P TS wt NT NS p1 s1 ce cnt mN hb sb gT) {n' X : Nat} (h30 : r0.1 955 m0 = 30) (h9 : c0.1 354 t0 = 9) (hX : X < 7934) (h57 : c0.1 357 t0 = nI (66 + X)) (x57 : r0.2.1 957 m0 = lN X) (h55 : c0.1 355 t0 = nI (t0 + 1)) (h59 : r0.1 959 m0 = nI n') (h60 : r0.1 960 n' = -1) (hn' : n' < mE) (he : e0 ≤ e1) (ht : t0 + 1 ≤ t1) (hm : m0 + 1 ≤ mE) (hmE : mE ≤ mN) (hl : l = LV (rr + 20) + 1) (dj : DJ Z (YN NT Y) t0 t1 m0 mE) (hYN : ∀ n, Y n → NT n) (ih : ∀ Z Y, (∀ n, Y n → NT n) → DJ Z (YN NT Y) (t0 + 1) t1 (m0 + 1) mE → EVt κ c0 r0 P TS wt Z Y (g + 1) (rr + 20) e0 e1 (m0 + 1) mE n' (QX c0 r0 P TS (t0 + 1) t1 (m0 + 1) mE (TMx NS (LV (rr + 20)) (t0 + 1) n'))) : EVt κ c0 r0 P TS wt Z Y (g + 2) rr e0 e1 m0 mE m0 (QX c0 r0 P TS t0 t1 m0 mE (TMy NS l t0 m0)) ∧ TF c0 r0 t0 m0 := by
  obtain ⟨dj1, dj2⟩ := dj.nt
  have hmN := H.mN
  refine ⟨?_, by rw [h30, h9]; decide, by rw [h9]; decide, 30, h30, by omega, by omega⟩
  have ev := ev_node (κ := κ) (c0 := c0) (r0 := r0) (P := P) (TS := TS) (wt := wt) (Z := Z) (Y := Y) H.cl (rr := rr) (g := g) (v := 1) (e0 := e0) (e1 := e1) (t0 := t0 + 1) (t1 := t1) (ma := m0 + 1) (mb := mE) (m0 := m0) (m1 := mE) (n := m0) (K := 30) (G := fun _ => n') (Q := fun _ => QX c0 r0 P TS (t0 + 1) t1 (m0 + 1) mE (TMx NS (LV (rr + 20)) (t0 + 1) n')) (by omega) h30 (by decide) h59 (px_B1 he) (px_B1 ht) (px_B1 hm) (by omega) (fun j hj => ⟨by omega, by rw [if_neg (by omega)]; exact h60⟩) (by decide) (NT := NT) dj2 hYN ⟨fun t' a b => dj1.1 t' (by omega) b, fun n a b => dj1.2 n (by omega) b⟩ (fun j hj => by
    obtain rfl : j = 0 := by omega
    exact ⟨QX.qs, fun Z Y hy d => (ih Z Y hy (DJ.y d (fun n a b => dj2 n (by omega) b))).dn (by omega)⟩)
  refine ev.mono (fun c r a nh p pc _ _ hq c' r' pc' mh E τ l' L => ?_)
  have q := hq 0 (by decide) c' r' pc' mh E τ (l'.sub (by omega) (Nat.le_refl _) (by omega) (Nat.le_refl _)) L
  obtain ⟨_, _, _, ⟨z1, z2⟩, _⟩ := L
  refine Or.inr (Or.inr (Or.inl ⟨((ez_r (b := 955) (j := m0) z2 (by omega)).1).trans h30, ((ez_c (b := 354) (j := t0) z1 (by omega)).1).trans h9, X, t0 + 1, n', hX, ((ez_c (b := 357) (j := t0) z1 (by omega)).1).trans h57, ((ez_r (b := 957) (j := m0) z2 (by omega)).2.1).trans x57, ((ez_c (b := 355) (j := t0) z1 (by omega)).1).trans h55, ((ez_r (b := 959) (j := m0) z2 (by omega)).1).trans h59, ?_⟩))
  rw [hl]
  exact TM.up _ _ _ q
end
