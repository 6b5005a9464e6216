/-! Level 2: a templ's own depth in the reference is what its levels in the class come to. -/
section
theorem mxv.add {g : Nat → Nat} {t a : Nat} : ∀ b, mxv g t (a + b) = max (mxv g t a) (mxv g (t + a) b) := by
  intro b
  induction b with
  | zero => show mxv g t a = max (mxv g t a) 0; omega
  | succ b ih =>
    show max (mxv g t (a + b)) (g (t + (a + b))) = max (mxv g t a) (max (mxv g (t + a) b) (g (t + a + b)))
    rw [ih, show t + (a + b) = t + a + b by omega]
    omega
theorem mxv.one {g : Nat → Nat} {t : Nat} : mxv g t 1 = g t := by
  show max 0 (g (t + 0)) = g t
  rw [Nat.add_zero]
  omega
theorem mxv.le {g : Nat → Nat} {t b : Nat} : ∀ k, (∀ i, i < k → g (t + i) ≤ b) → mxv g t k ≤ b := by
  intro k
  induction k with
  | zero => intro _; exact Nat.zero_le _
  | succ k ih =>
    intro h
    have a := ih (fun i hi => h i (by omega))
    have c := h k (by omega)
    show max _ _ ≤ b
    omega
/-- from a to b -/
def mxr (g : Nat → Nat) (a b : Nat) : Nat := mxv g a (b - a)
theorem mxr.cut {g : Nat → Nat} {a b c : Nat} (h : a ≤ b) (h2 : b ≤ c) : mxr g a c = max (mxr g a b) (mxr g b c) := by
  unfold mxr
  have e : c - a = (b - a) + (c - b) := by omega
  rw [e, mxv.add, show a + (b - a) = b by omega]
theorem mxr.hd {g : Nat → Nat} {a c : Nat} (h : a < c) : mxr g a c = max (g a) (mxr g (a + 1) c) := by
  rw [mxr.cut (b := a + 1) (by omega) (by omega)]
  congr 1
  unfold mxr
  rw [show a + 1 - a = 1 by omega, mxv.one]
theorem mxr.le {g : Nat → Nat} {a c b : Nat} (h : ∀ i, a ≤ i → i < c → g i ≤ b) : mxr g a c ≤ b := mxv.le _ (fun i hi => h _ (by omega) (by omega))
theorem mxr.zero {g : Nat → Nat} {a c : Nat} (h : ∀ i, a ≤ i → i < c → g i = 0) : mxr g a c = 0 := Nat.le_zero.mp (mxr.le (fun i x y => by rw [h i x y]; exact Nat.le_refl _))
/-- over v parts -/
theorem mxr.parts {g : Nat → Nat} {a b : Nat} {T : Nat → Nat} {d : Nat → Nat} {l : Nat} : ∀ v, px_B v a b T → (∀ j, j < v → l + d j = mxr g (T j) (T (j + 1)) ∧ 0 < d j) → (0 < v → l + mxv d 0 v = mxr g a b) ∧ (v = 0 → mxr g a b = 0) := by
  have gen : ∀ w, (∀ j, j < w → T j ≤ T (j + 1)) → (∀ j, j < w → l + d j = mxr g (T j) (T (j + 1)) ∧ 0 < d j) → T 0 ≤ T w ∧ (0 < w → l + mxv d 0 w = mxr g (T 0) (T w)) := by
    intro w
    induction w with
    | zero => intro _ _; exact ⟨Nat.le_refl _, fun y => by omega⟩
    | succ w ih =>
      intro h1 h2
      obtain ⟨i1, i2⟩ := ih (fun j y => h1 j (by omega)) (fun j y => h2 j (by omega))
      have a1 := h1 w (by omega)
      have a2 := h2 w (by omega)
      refine ⟨by omega, fun _ => ?_⟩
      rw [mxr.cut (b := T w) i1 a1]
      show l + max (mxv d 0 w) (d (0 + w)) = _
      rw [Nat.zero_add]
      by_cases z : 0 < w
      · have := i2 z
        omega
      · have : w = 0 := by omega
        subst this
        show l + max 0 (d 0) = _
        have : mxr g (T 0) (T 0) = 0 := mxr.zero (fun i x y => by omega)
        omega
  intro v hB h
  obtain ⟨b0, bv, hb⟩ := hB
  have q := gen v (fun j y => (hb j y).1) h
  rw [b0, bv] at q
  refine ⟨q.2, fun y => ?_⟩
  subst y
  exact mxr.zero (fun i x y => by omega)
end
section
variable {WN AN TN : Nat → Nat → Prop} {SN : Nat → Nat → Prop} {c r r2 : t_S} {p1 s1 tE : Nat} {V : Nat → Nat}
/-- what a name comes to in the reference -/
noncomputable def rdN (n : Nat) (r : t_S) : Option Int32 := (f_X13_find 967 (0 : Int32) (r.1 950 44) ((r.2.1 957 n).toInt32) r).bind (fun r2 => if (0 : Int32) ≤ r2 then (if t_ix r2 60 = true then some ((1 : Int32) + (r.1 1005 (r2.toNatClampNeg))) else none) else (some (1 : Int32)))
/-- all that one templ's depth stands on -/
def rdA (TN : Nat → Nat → Prop) (SN : Nat → Nat → Prop) (c r r2 : t_S) (tE : Nat) (V : Nat → Nat) : Prop := (∀ b j, 955 ≤ b → b ≤ 961 → r2.1 b j = r.1 b j ∧ r2.2.1 b j = r.2.1 b j) ∧ (∀ t n l, t < tE → TN t n → c.1 358 t = nI l → 1 ≤ l → l ≤ 40 → ∃ x, 1 ≤ x ∧ x ≤ 1001 ∧ rdN n r2 = some (nI x) ∧ V t = l - 1 + x) ∧ (∀ t l, t < tE → c.1 354 t ≠ 6 → c.1 358 t = nI l → 1 ≤ l → l ≤ 40 → V t = l) ∧ (∀ t, t < tE → (c.1 358 t).toInt ≤ -500 → V t = 0) ∧ (∀ t k, SN t k → c.1 354 t = 17) ∧ lvG c tE ∧ ∀ t, t < tE → V t ≤ 2000
/-- the greatest among parts that hang at a node -/
theorem rd_loop {g v m : Nat} {G d : Nat → Nat} (hR : ∀ b j, 955 ≤ b → b ≤ 961 → r2.1 b j = r.1 b j ∧ r2.2.1 b j = r.2.1 b j) (ch : ch_R r m v G) (hv : v ≤ 1000) (hd : ∀ j, j < v → R_X13_depth g (nI (G j)) r2 = some (nI (d j)) ∧ d j ≤ 2000) : t_hk (k_X13_depth_92 (R_X13_depth g) 0 (r2.1 959 m) r2) (fun y => y = nI (1 + mxv d 0 v)) := by
  obtain ⟨h9, hc⟩ := ch
  have mx : ∀ j, j ≤ v → mxv d 0 j ≤ 2000 := fun j hj => mxv.le _ (fun i hi => (hd (0 + i) (by omega)).2)
  unfold k_X13_depth_92
  rw [(hR 959 m (by decide) (by decide)).1, h9]
  refine l2_lp (I := fun k y => ∃ j, j ≤ v ∧ k = v - j ∧ y = (nI (mxv d 0 j), if j < v then nI (G j) else -1)) ?_ (m := v) (by unfold t_N; omega) ⟨0, Nat.zero_le _, rfl, rfl⟩
  rintro k y ⟨j, hj, rfl, rfl⟩
  show t_hk (k_X13_depth_94 (R_X13_depth g) (nI (mxv d 0 j)) (if j < v then nI (G j) else -1) r2) _
  unfold k_X13_depth_94
  by_cases z : j < v
  · obtain ⟨g1, g2, g3, g4⟩ := hc j z
    rw [if_pos z, if_neg (show ¬ nI (G j) < (0 : Int32) from nI_nlt (a := G j) (b := 0) (Nat.zero_le _) (by omega)), (hd j z).1, l2_bs]
    have e6 : k_X13_depth_119 (R_X13_depth g) (nI (G j)) (nI (mxv d 0 (j + 1))) r2 = some (.inl (nI (mxv d 0 (j + 1)), if j + 1 < v then nI (G (j + 1)) else -1)) := by
      unfold k_X13_depth_119
      rw [if_pos (l2_ix g1 (by decide)), nI_clamp (by omega), (hR 960 (G j) (by decide) (by decide)).1, g3]
    have s1 : mxv d 0 (j + 1) = max (mxv d 0 j) (d j) := by
      show max (mxv d 0 j) (d (0 + j)) = _
      rw [Nat.zero_add]
    have b1 := mx j hj
    have b2 := (hd j z).2
    have fin : t_hk (some (Sum.inl (nI (mxv d 0 (j + 1)), if j + 1 < v then nI (G (j + 1)) else -1)) : Option ((Int32 × Int32) ⊕ Int32)) (l2_nx (fun z => ∃ j', j' < v - j ∧ ∃ i, i ≤ v ∧ j' = v - i ∧ z = (nI (mxv d 0 i), if i < v then nI (G i) else -1)) (fun y => y = nI (1 + mxv d 0 v))) := l2_sm ⟨v - (j + 1), by omega, j + 1, by omega, rfl, rfl⟩
    by_cases w : d j ≤ mxv d 0 j
    · rw [if_pos (nI_le w (by omega)), show mxv d 0 j = mxv d 0 (j + 1) by omega, e6]
      exact fin
    · rw [if_neg (nI_ge (by omega) (by omega)), show d j = mxv d 0 (j + 1) by omega, e6]
      exact fin
  · have e : j = v := by omega
    subst e
    rw [if_neg z, if_pos (by decide)]
    exact l2_mp (l2_sm (show (1 : Int32) + nI (mxv d 0 j) = _ by rw [show (1 : Int32) = nI 1 from rfl, nI_add]))
theorem rd_nil {rc : RT_X13_depth} {s : t_S} : k_X13_depth_92 rc 0 (-1) s = some (nI 1) := by
  unfold k_X13_depth_92
  have q : t_hk (t_loop (b_X13_depth_94 rc s) t_N ((0 : Int32), (-1 : Int32))) (fun y => y = nI 1) := by
    refine l2_lp (I := fun k y => k = 0 ∧ y = ((0 : Int32), (-1 : Int32))) ?_ (m := 0) (by unfold t_N; omega) ⟨rfl, rfl⟩
    rintro k y ⟨rfl, rfl⟩
    show t_hk (k_X13_depth_94 rc 0 (-1) s) _
    unfold k_X13_depth_94
    rw [if_pos (by decide)]
    exact l2_mp (l2_sm rfl)
  obtain ⟨y, e, rfl⟩ := q
  exact e
theorem rd_m (g : Nat) (x : Int32) (s : t_S) : R_X13_depth (g + 1) x s = m_X13_depth (R_X13_depth g) x s := rfl
/-- a node whose parts are looked at -/
theorem rd_go {g v m K : Nat} {G d : Nat → Nat} (hR : ∀ b j, 955 ≤ b → b ≤ 961 → r2.1 b j = r.1 b j ∧ r2.2.1 b j = r.2.1 b j) (ch : ch_R r m v G) (hv : v ≤ 1000) (hm : m < 13000) (hK : r.1 955 m = nI K) (k1 : K < 50) (k2 : K ≠ 41 ∧ K ≠ 40 ∧ K ≠ 28 ∧ K ≠ 38) (hd : ∀ j, j < v → R_X13_depth g (nI (G j)) r2 = some (nI (d j)) ∧ d j ≤ 2000) : R_X13_depth (g + 1) (nI m) r2 = some (nI (1 + mxv d 0 v)) := by
  rw [rd_m]
  unfold m_X13_depth
  have ne : ∀ j, j < 50 → K ≠ j → ¬ nI K = nI j := fun j y1 y2 y3 => y2 ((nI_eq (by omega) (by omega)).mp y3)
  rw [if_pos (l2_ix hm (by decide)), nI_clamp (by omega), (hR 955 m (by decide) (by decide)).1, hK, if_neg (show ¬ nI K = (41 : Int32) from ne 41 (by decide) k2.1), if_neg (show ¬ nI K = (40 : Int32) from ne 40 (by decide) k2.2.1), if_neg (show ¬ nI K = (28 : Int32) from ne 28 (by decide) k2.2.2.1), if_neg (show ¬ nI K = (38 : Int32) from ne 38 (by decide) k2.2.2.2)]
  obtain ⟨y, e, rfl⟩ := rd_loop hR ch hv hd
  exact e
/-- a node that is only a way to its part -/
theorem rd_via {g m n : Nat} (hR : ∀ b j, 955 ≤ b → b ≤ 961 → r2.1 b j = r.1 b j ∧ r2.2.1 b j = r.2.1 b j) (hm : m < 13000) (hK : r.1 955 m = 41 ∨ r.1 955 m = 40) (h9 : r.1 959 m = nI n) : R_X13_depth (g + 1) (nI m) r2 = R_X13_depth g (nI n) r2 := by
  have id : ∀ z : Option Int32, z.bind (fun r2 => some r2) = z := fun z => by cases z <;> rfl
  have e : k_X13_depth_19 (R_X13_depth g) (nI m) r2 = R_X13_depth g (nI n) r2 := by
    unfold k_X13_depth_19
    rw [if_pos (l2_ix hm (by decide)), nI_clamp (by omega), (hR 959 m (by decide) (by decide)).1, h9, id]
  rw [rd_m]
  unfold m_X13_depth
  rw [if_pos (l2_ix hm (by decide)), nI_clamp (by omega), (hR 955 m (by decide) (by decide)).1, e]
  rcases hK with y | y
  · rw [if_pos y]
  · rw [if_neg (by rw [y]; decide), if_pos y]
theorem rd_main (A : rdA TN SN c r r2 tE V) : ∀ (f fl l rr : Nat) (e0 e1 t0 t1 m0 m1 n : Nat), XR WN AN TN SN c r p1 s1 f fl (nI l) rr e0 e1 t0 t1 m0 m1 n → (fl = 1 ∨ fl = 2) → 1 ≤ l → l ≤ 41 → t1 ≤ tE → m1 ≤ 13000 → ∃ d, 1 ≤ d ∧ l ≤ 40 ∧ l - 1 + d = mxr V t0 t1 ∧ d ≤ 2000 ∧ ∀ g, 3 * (40 - l) + 3 ≤ g → R_X13_depth g (nI n) r2 = some (nI d) := by
  have A' := A
  obtain ⟨hR, hT, hV, hN, hS, hL, hB⟩ := A
  intro f
  induction f with
  | zero => intro fl l rr e0 e1 t0 t1 m0 m1 n h; exact h.elim
  | succ f ih =>
    intro fl l rr e0 e1 t0 t1 m0 m1 n h hfl l1 l41 hE hm1
    have h' := h
    obtain ⟨rt, lv0⟩ := h.root hfl
    have l40 : l ≤ 40 := by
      have q := hL t0 (by omega)
      rw [lv0, nI_toInt (by omega)] at q
      omega
    have top : ∀ d, l - 1 + d = mxr V t0 t1 → d ≤ 2000 := fun d y => by
      have := mxr.le (g := V) (a := t0) (c := t1) (b := 2000) (fun i x z => hB i (by omega))
      omega
    have hd0 := mxr.hd (g := V) rt
    obtain ⟨_, _, n0, n1, h⟩ := h
    rcases h with ⟨h0, _⟩ | ⟨_, ht, mE, mE0, mE1, hw, h⟩ | ⟨_, ht, hn, k5, _, k4, _, _, _, w, E, T, M, G, w12, w0, _, hTT, hM, _, ch, hx⟩
    · rcases hfl with y | y <;> omega
    · -- the tone
      have tone : ∃ d, 1 ≤ d ∧ l - 1 + d = mxr V t0 t1 ∧ ∀ g, 3 * (40 - l) + 2 ≤ g → R_X13_depth g (nI m0) r2 = some (nI d) := by
        have hm0 : m0 < 13000 := by omega
        have g1 : ∀ {g}, 3 * (40 - l) + 2 ≤ g → ∃ g', g = g' + 1 := fun y => ⟨_, (Nat.succ_pred_eq_of_pos (by omega)).symm⟩
        have nil : r.1 959 m0 = -1 → ch_R r m0 0 (fun _ => 0) := fun y => ⟨by rw [if_neg (by decide)]; exact y, fun j hj => by omega⟩
        have leaf : ∀ K, K < 50 → K ≠ 41 ∧ K ≠ 40 ∧ K ≠ 28 ∧ K ≠ 38 → r.1 955 m0 = nI K → r.1 959 m0 = -1 → t1 = t0 + 1 → c.1 354 t0 ≠ 6 → ∃ d, 1 ≤ d ∧ l - 1 + d = mxr V t0 t1 ∧ ∀ g, 3 * (40 - l) + 2 ≤ g → R_X13_depth g (nI m0) r2 = some (nI d) := fun K k1 k2 hK h9 t1e n6 => by
          refine ⟨1, by omega, ?_, fun g hg => ?_⟩
          · rw [hd0, hV t0 l (by omega) n6 lv0 l1 l40, mxr.zero (fun i x y => by omega)]
            omega
          · obtain ⟨g', rfl⟩ := g1 hg
            exact rd_go (d := fun _ => 0) hR (nil h9) (by omega) hm0 hK k1 k2 (fun j hj => by omega)
        rcases h with ⟨h1, h2, h⟩ | ⟨_, k38, hsn, _, n', k9, hx⟩ | ⟨k30, c9, X, n', _, _, _, _, k9, k0, hx⟩ | ⟨k29, c8, w, E, T, M, X, N, w16, _, hTT, hM, _, ch, _, hx⟩ | ⟨K, C, hrow, k39, hK, c4, w, E, T, M, G, W, w12, _, _, hTT, hM, _, ch, hx⟩
        · rcases h with ⟨_, h9, h⟩ | ⟨_, h28, _, htn⟩
          · rcases h with h | h | h | ⟨h | h, h4, _⟩ | ⟨h | h, h4, _⟩ | ⟨⟨h, h4⟩ | ⟨h, h4⟩, _⟩
            · exact leaf 20 (by decide) (by decide) h.1 h9 h1 (by rw [h.2]; decide)
            · exact leaf 21 (by decide) (by decide) h.1 h9 h1 (by rw [h.2]; decide)
            · exact leaf 27 (by decide) (by decide) h.1 h9 h1 (by rw [h.2]; decide)
            · exact leaf 22 (by decide) (by decide) h h9 h1 (by rw [h4]; decide)
            · exact leaf 23 (by decide) (by decide) h h9 h1 (by rw [h4]; decide)
            · exact leaf 24 (by decide) (by decide) h h9 h1 (by rw [h4]; decide)
            · exact leaf 25 (by decide) (by decide) h h9 h1 (by rw [h4]; decide)
            · exact leaf 26 (by decide) (by decide) h h9 h1 (by rw [h4]; decide)
            · exact leaf 35 (by decide) (by decide) h h9 h1 (by rw [h4]; decide)
          · obtain ⟨x, x1, x2, x3, x4⟩ := hT t0 m0 l (by omega) htn lv0 l1 l40
            refine ⟨x, x1, ?_, fun g hg => ?_⟩
            · rw [hd0, x4, mxr.zero (fun i x y => by omega)]
              omega
            · obtain ⟨g', rfl⟩ := g1 hg
              rw [rd_m]
              unfold m_X13_depth
              rw [if_pos (l2_ix hm0 (by decide)), nI_clamp (by omega), (hR 955 m0 (by decide) (by decide)).1, h28, if_neg (by decide), if_neg (by decide), if_pos rfl]
              exact x3
        · refine ⟨1, by omega, ?_, fun g hg => ?_⟩
          · have z : mxr V (t0 + 1) t1 = 0 := mxr.zero (fun i x y => hN i (by omega) (XR.neg hL _ _ _ _ _ _ _ _ _ _ _ hx (Or.inl rfl) hE i x y))
            rw [hd0, hV t0 l (by omega) (by rw [hS t0 _ hsn]; decide) lv0 l1 l40, z]
            omega
          · obtain ⟨g', rfl⟩ := g1 hg
            rw [rd_m]
            unfold m_X13_depth
            rw [if_pos (l2_ix hm0 (by decide)), nI_clamp (by omega), (hR 955 m0 (by decide) (by decide)).1, k38, if_neg (by decide), if_neg (by decide), if_neg (by decide), if_pos rfl]
            exact rd_nil
        · rw [nI_1] at hx
          have q := hx.at
          obtain ⟨d, d1, d2, d3, d4, d5⟩ := ih 1 (l + 1) _ _ _ _ _ _ _ _ hx (Or.inl rfl) (by omega) (by omega) hE (by omega)
          have c1 : ch_R r m0 1 (fun _ => n') := ⟨by rw [if_pos (by decide)]; exact k9, fun j hj => ⟨by show n' < 13000; omega, by show m0 < n'; omega, by rw [if_neg (by omega)]; exact k0, fun y => by omega⟩⟩
          refine ⟨1 + d, by omega, ?_, fun g hg => ?_⟩
          · rw [hd0, hV t0 l (by omega) (by rw [c9]; decide) lv0 l1 l40, ← d3]
            omega
          · obtain ⟨g', rfl⟩ := g1 hg
            have := rd_go (d := fun _ => d) hR c1 (by omega) hm0 (K := 30) k30 (by decide) (by decide) (fun j hj => ⟨d5 g' (by omega), d4⟩)
            rw [this, mxv.one]
        · -- a record's fields
          have step : ∀ j, j < w → ∃ d, 1 ≤ d ∧ l + d = mxr V (T j) (T (j + 1)) ∧ d ≤ 2000 ∧ ∀ g, 3 * (40 - l) + 1 ≤ g → R_X13_depth g (nI (M j)) r2 = some (nI d) := fun j hj => by
            obtain ⟨_, y2, y3, y4, _, y6, _, y8, _, y10, _, y⟩ := hx j hj
            rw [nI_1] at y
            have a1 := hTT.in hj
            have a2 := hM.in hj
            obtain ⟨d, d1, d2, d3, d4, d5⟩ := ih 1 (l + 1) _ _ _ _ _ _ _ _ y (Or.inl rfl) (by omega) (by omega) (by omega) (by omega)
            refine ⟨d, d1, ?_, d4, fun g hg => ?_⟩
            · rw [mxr.hd y2, hN (T j) (by omega) (by rw [y6]; decide), ← d3]
              omega
            · obtain ⟨g', rfl⟩ : ∃ g', g = g' + 1 := ⟨_, (Nat.succ_pred_eq_of_pos (by omega)).symm⟩
              rw [rd_via hR (by omega) (Or.inr y8) y10]
              exact d5 g' (by omega)
          obtain ⟨d, hd⟩ : ∃ d : Nat → Nat, ∀ j, j < w → 1 ≤ d j ∧ l + d j = mxr V (T j) (T (j + 1)) ∧ d j ≤ 2000 ∧ ∀ g, 3 * (40 - l) + 1 ≤ g → R_X13_depth g (nI (M j)) r2 = some (nI (d j)) := ⟨fun j => if hj : j < w then (step j hj).choose else 0, fun j hj => by
            simp only [dif_pos hj]
            exact (step j hj).choose_spec⟩
          have P := mxr.parts (g := V) (d := d) (l := l) w hTT (fun j hj => ⟨(hd j hj).2.1, (hd j hj).1⟩)
          refine ⟨1 + mxv d 0 w, by omega, ?_, fun g hg => ?_⟩
          · rw [hd0, hV t0 l (by omega) (by rw [c8]; decide) lv0 l1 l40]
            by_cases z : 0 < w
            · have := P.1 z; omega
            · have z : w = 0 := by omega
              rw [P.2 z, z]
              show l - 1 + (1 + 0) = _
              omega
          · obtain ⟨g', rfl⟩ := g1 hg
            exact rd_go hR ch (by omega) hm0 (K := 29) k29 (by decide) (by decide) (fun j hj => ⟨(hd j hj).2.2.2 g' (by omega), (hd j hj).2.2.1⟩)
        · have step : ∀ j, j < w → ∃ d, 1 ≤ d ∧ l + d = mxr V (T j) (T (j + 1)) ∧ d ≤ 2000 ∧ ∀ g, 3 * (40 - l) + 0 ≤ g → R_X13_depth g (nI (G j)) r2 = some (nI d) := fun j hj => by
            obtain ⟨y1, y⟩ := hx j hj
            rw [nI_1] at y
            have a1 := hTT.in hj
            have a2 := hM.in hj
            obtain ⟨d, d1, d2, d3, d4, d5⟩ := ih (W j) (l + 1) _ _ _ _ _ _ _ _ y (by omega) (by omega) (by omega) (by omega) (by omega)
            exact ⟨d, d1, by omega, d4, fun g hg => d5 g (by omega)⟩
          obtain ⟨d, hd⟩ : ∃ d : Nat → Nat, ∀ j, j < w → 1 ≤ d j ∧ l + d j = mxr V (T j) (T (j + 1)) ∧ d j ≤ 2000 ∧ ∀ g, 3 * (40 - l) + 0 ≤ g → R_X13_depth g (nI (G j)) r2 = some (nI (d j)) := ⟨fun j => if hj : j < w then (step j hj).choose else 0, fun j hj => by
            simp only [dif_pos hj]
            exact (step j hj).choose_spec⟩
          have P := mxr.parts (g := V) (d := d) (l := l) w hTT (fun j hj => ⟨(hd j hj).2.1, (hd j hj).1⟩)
          have n6 : c.1 354 t0 ≠ 6 := by
            rw [c4]
            intro y
            have := (nI_eq (a := C) (b := 6) (by unfold px_row at hrow; omega) (by decide)).mp y
            unfold px_row at hrow
            omega
          refine ⟨1 + mxv d 0 w, by omega, ?_, fun g hg => ?_⟩
          · rw [hd0, hV t0 l (by omega) n6 lv0 l1 l40]
            by_cases z : 0 < w
            · have := P.1 z; omega
            · have z : w = 0 := by omega
              rw [P.2 z, z]
              show l - 1 + (1 + 0) = _
              omega
          · obtain ⟨g', rfl⟩ := g1 hg
            exact rd_go hR ch (by omega) hm0 (K := K) hK (by unfold px_row at hrow; omega) (by unfold px_row at hrow; omega) (fun j hj => ⟨(hd j hj).2.2.2 g' (by omega), (hd j hj).2.2.1⟩)
      obtain ⟨d, d1, d2, d3⟩ := tone
      refine ⟨d, d1, l40, d2, top d d2, fun g hg => ?_⟩
      obtain ⟨_, b, _, _, _, z⟩ := hw
      rcases z with ⟨_, z, _⟩ | ⟨z, _, z5, z9, _⟩
      · rw [z]
        exact d3 g (by omega)
      · obtain ⟨g', rfl⟩ : ∃ g', g = g' + 1 := ⟨_, (Nat.succ_pred_eq_of_pos (by omega)).symm⟩
        rw [rd_via hR (by omega) (Or.inl z5) z9]
        exact d3 g' (by omega)
    · -- perm
      have step : ∀ j, j < w → ∃ d, 1 ≤ d ∧ l + d = mxr V (T j) (T (j + 1)) ∧ d ≤ 2000 ∧ ∀ g, 3 * (40 - l) + 0 ≤ g → R_X13_depth g (nI (G j)) r2 = some (nI d) := fun j hj => by
        have y := hx j hj
        rw [nI_1] at y
        have a1 := hTT.in hj
        have a2 := hM.in hj
        obtain ⟨d, d1, d2, d3, d4, d5⟩ := ih 1 (l + 1) _ _ _ _ _ _ _ _ y (Or.inl rfl) (by omega) (by omega) (by omega) (by omega)
        exact ⟨d, d1, by omega, d4, fun g hg => d5 g (by omega)⟩
      obtain ⟨d, hd⟩ : ∃ d : Nat → Nat, ∀ j, j < w → 1 ≤ d j ∧ l + d j = mxr V (T j) (T (j + 1)) ∧ d j ≤ 2000 ∧ ∀ g, 3 * (40 - l) + 0 ≤ g → R_X13_depth g (nI (G j)) r2 = some (nI (d j)) := ⟨fun j => if hj : j < w then (step j hj).choose else 0, fun j hj => by
        simp only [dif_pos hj]
        exact (step j hj).choose_spec⟩
      have P := mxr.parts (g := V) (d := d) (l := l) w hTT (fun j hj => ⟨(hd j hj).2.1, (hd j hj).1⟩)
      have e : l - 1 + (1 + mxv d 0 w) = mxr V t0 t1 := by
        rw [hd0, hV t0 l (by omega) (by rw [k4]; decide) lv0 l1 l40]
        have := P.1 w0; omega
      refine ⟨1 + mxv d 0 w, by omega, l40, e, top _ e, fun g hg => ?_⟩
      obtain ⟨g', rfl⟩ : ∃ g', g = g' + 1 := ⟨_, (Nat.succ_pred_eq_of_pos (by omega)).symm⟩
      exact rd_go hR ch (by omega) (by omega) (K := 39) k5 (by decide) (by decide) (fun j hj => ⟨(hd j hj).2.2.2 g' (by omega), (hd j hj).2.2.1⟩)
end
