/-! Level 2: depths of templs, as the class counts them. -/
/-- what node t comes to -/
def vv (s : t_S) (D : Nat → Nat) (t : Nat) : Nat := if (0 : Int32) < s.1 358 t then (s.1 358 t).toNatClampNeg + (if s.1 354 t = 7 then D (s.1 357 t).toNatClampNeg else 0) else 0
/-- the greatest of k values from t on -/
def mxv (g : Nat → Nat) (t : Nat) : Nat → Nat
  | 0 => 0
  | k + 1 => max (mxv g t k) (g (t + k))
/-- templs' nodes: T0 u .. T1 u - 1, each with its level -/
def dpF (n : Nat) (T0 T1 : Nat → Nat) (s : t_S) : Prop := ∀ u, u < n → (T0 u < T1 u ∧ T1 u ≤ 6000) ∧ (s.1 (364 + u) 3 = nI (T0 u) ∧ s.1 (364 + u) 4 = nI (T1 u)) ∧ s.1 358 (T0 u) = 1 ∧ ∀ t, T0 u ≤ t → t < T1 u → s.1 358 t ≤ 0 ∨ ∃ y, 0 < y ∧ y ≤ 1000 ∧ s.1 358 t = nI y ∧ (s.1 354 t = 7 → ∃ v, v < n ∧ v < 60 ∧ s.1 357 t = nI v)
def dpV (s : t_S) (T0 T1 : Nat → Nat) (D : Nat → Nat) (u : Nat) : Nat := mxv (vv s D) (T0 u) (T1 u - T0 u)
/-- depths stand -/
def dpD (n : Nat) (D : Nat → Nat) (s : t_S) : Prop := ∀ u, u < n → D u ≤ 61 ∧ s.1 (364 + u) 6 = nI (D u)
section
variable {n u v t k x y i j : Nat} {T0 T1 D D' : Nat → Nat} {g h : Nat → Nat} {s s' : t_S} {Q : t_S → Prop}
theorem mxv.mono (e : ∀ i, i < k → g (t + i) ≤ h (t + i)) : mxv g t k ≤ mxv h t k := by
  induction k with
  | zero => exact Nat.le_refl _
  | succ k ih =>
    have a := ih (fun i hi => e i (by omega))
    have b := e k (by omega)
    show max _ _ ≤ max _ _
    omega
theorem mxv.at (hi : i < k) : g (t + i) ≤ mxv g t k := by
  induction k with
  | zero => omega
  | succ k ih =>
    show _ ≤ max _ _
    by_cases c : i = k
    · rw [c]
      omega
    · have := ih (by omega)
      omega
theorem mxv.hit (h1 : 1 ≤ mxv g t k) : ∃ i, i < k ∧ mxv g t k = g (t + i) := by
  induction k with
  | zero => exact absurd h1 (by show ¬ 1 ≤ 0; decide)
  | succ k ih =>
    have e : mxv g t (k + 1) = max (mxv g t k) (g (t + k)) := rfl
    by_cases c : mxv g t k ≤ g (t + k)
    · exact ⟨k, by omega, by omega⟩
    · obtain ⟨i, i1, i2⟩ := ih (by omega)
      exact ⟨i, by omega, by omega⟩
theorem vv.one (H : dpF n T0 T1 s) (hu : u < n) : 1 ≤ vv s D (T0 u) := by
  obtain ⟨_, _, e, _⟩ := H u hu
  unfold vv
  rw [e, if_pos (by decide), show ((1 : Int32).toNatClampNeg) = 1 from rfl]
  omega
/-- a part of a templ: its level, and whose depth besides -/
theorem vv.eq (H : dpF n T0 T1 s) (hu : u < n) (h1 : T0 u ≤ t) (h2 : t < T1 u) : (∀ D, vv s D t = 0) ∨ ∃ y, 1 ≤ y ∧ y ≤ 1000 ∧ s.1 358 t = nI y ∧ ((s.1 354 t ≠ 7 ∧ ∀ D, vv s D t = y) ∨ ∃ v, v < n ∧ s.1 354 t = 7 ∧ s.1 357 t = nI v ∧ ∀ D, vv s D t = y + D v) := by
  obtain ⟨_, _, _, e⟩ := H u hu
  rcases e t h1 h2 with y | ⟨y, y1, y2, y3, y4⟩
  · exact Or.inl (fun D => if_neg (Int32.not_lt.mpr y))
  · refine Or.inr ⟨y, y1, y2, y3, ?_⟩
    have p : ∀ D, vv s D t = y + (if s.1 354 t = 7 then D (s.1 357 t).toNatClampNeg else 0) := fun D => by
      unfold vv
      rw [y3, if_pos (show (0 : Int32) < nI y from nI_lt (a := 0) (by omega) (by omega)), nI_clamp (n := y) (by omega)]
    by_cases c : s.1 354 t = 7
    · obtain ⟨v, v1, v6, v2⟩ := y4 c
      exact Or.inr ⟨v, v1, c, v2, fun D => by rw [p, if_pos c, v2, nI_clamp (n := v) (by omega)]⟩
    · exact Or.inl ⟨c, fun D => by rw [p, if_neg c]; rfl⟩
theorem dpV.F (H : dpF n T0 T1 s) : dF n (dpV s T0 T1) := by
  intro u hu
  obtain ⟨⟨t1, t2⟩, _, _, _⟩ := H u hu
  have mono : ∀ D D', (∀ v, v < n → D v ≤ D' v) → dpV s T0 T1 D u ≤ dpV s T0 T1 D' u := fun D D' h => mxv.mono (fun i hi => by
    rcases vv.eq H hu (t := T0 u + i) (by omega) (by omega) with z | ⟨y, _, _, _, ⟨_, z⟩ | ⟨v, v1, _, _, z⟩⟩
    · rw [z, z]; exact Nat.le_refl _
    · rw [z, z]; exact Nat.le_refl _
    · rw [z, z]
      have := h v v1
      omega)
  have one : ∀ D, 1 ≤ dpV s T0 T1 D u := fun D => Nat.le_trans (vv.one (D := D) H hu) (mxv.at (g := vv s D) (t := T0 u) (i := 0) (k := T1 u - T0 u) (by omega))
  refine ⟨mono, fun D => ?_, one, fun D => ?_⟩
  · obtain ⟨i, i1, i2⟩ := mxv.hit (one D)
    have a : vv s (fun v => min 61 (D v)) (T0 u + i) ≤ dpV s T0 T1 (fun v => min 61 (D v)) u := mxv.at i1
    show min 61 (mxv (vv s D) (T0 u) (T1 u - T0 u)) ≤ _
    rw [i2]
    rcases vv.eq H hu (t := T0 u + i) (by omega) (by omega) with z | ⟨y, _, _, _, ⟨_, z⟩ | ⟨v, v1, _, _, z⟩⟩
    · rw [z] at a ⊢; omega
    · rw [z] at a ⊢; omega
    · rw [z] at a ⊢
      omega
  · obtain ⟨i, i1, i2⟩ := mxv.hit (one D)
    have a : ∀ D', vv s D' (T0 u + i) ≤ dpV s T0 T1 D' u := fun D' => mxv.at i1
    have o := one D
    have i2 : dpV s T0 T1 D u = vv s D (T0 u + i) := i2
    rcases vv.eq H hu (t := T0 u + i) (by omega) (by omega) with z | ⟨y, y1, _, _, ⟨_, z⟩ | ⟨v, v1, _, _, z⟩⟩
    · rw [z] at i2
      omega
    · exact ⟨y, y1, Or.inl ⟨by rw [i2, z], fun D' => by rw [← z D']; exact a D'⟩⟩
    · exact ⟨y, y1, Or.inr ⟨v, v1, by rw [i2, z], fun D' => by rw [← z D']; exact a D'⟩⟩
/-- one node more -/
theorem dp_74 {l1 l3 l4 : Int32} (hx : x ≤ 61) (h : (l4 ≤ 0 ∧ y = 0) ∨ (y ≤ 5000 ∧ l4 = nI y)) : k_X10_depthOf_74 l1 (nI x) l3 l4 s = some (.inl (l1, nI (max x (min 61 y)), l3 + 1)) := by
  unfold k_X10_depthOf_74
  rcases h with ⟨h, rfl⟩ | ⟨h, rfl⟩
  · have n61 : ¬ (61 : Int32) < l4 := fun z => by
      have a := Int32.lt_iff_toInt_lt.mp z
      have b := Int32.le_iff_toInt_le.mp h
      rw [show (61 : Int32).toInt = 61 from rfl] at a
      rw [show (0 : Int32).toInt = 0 from rfl] at b
      omega
    have nx : ¬ nI x < l4 := fun z => by
      have a := Int32.lt_iff_toInt_lt.mp z
      have b := Int32.le_iff_toInt_le.mp h
      rw [nI_toInt (by omega)] at a
      rw [show (0 : Int32).toInt = 0 from rfl] at b
      omega
    rw [if_neg n61, if_neg nx, show max x (min 61 0) = x by omega]
  · by_cases c : 61 < y
    · rw [if_pos (show (61 : Int32) < nI y from nI_lt (a := 61) (by omega) (by omega)), show max x (min 61 y) = 61 by omega]
      by_cases z : x < 61
      · rw [if_pos (show nI x < (61 : Int32) from nI_lt (b := 61) (by omega) (by decide))]
        rfl
      · rw [show x = 61 by omega, if_neg (by decide)]
    · rw [if_neg (show ¬ (61 : Int32) < nI y from Int32.not_lt.mpr (nI_le (b := 61) (by omega) (by decide)))]
      by_cases z : x < y
      · rw [if_pos (nI_lt (by omega) (by omega)), show max x (min 61 y) = y by omega]
      · rw [if_neg (Int32.not_lt.mpr (nI_le (by omega) (by omega))), show max x (min 61 y) = x by omega]
theorem dp_of (H : dpF n T0 T1 s) (hn : n ≤ 60) (hD : dpD n D s) (hu : u < n) : f_X10_depthOf (nI u) s = some (nI (max (D u) (min 61 (dpV s T0 T1 D u)))) := by
  obtain ⟨⟨t1, t2⟩, ⟨e3, e4⟩, _, _⟩ := H u hu
  obtain ⟨d1, d2⟩ := hD u hu
  refine l2_val ?_
  unfold f_X10_depthOf
  refine l2_ck (l2_ix (show u < 60 by omega) (by decide)) ?_
  rw [nI_clamp (n := u) (by omega), Nat.one_mul, show ((6 : Int32).toNatClampNeg) = 6 from rfl, show ((3 : Int32).toNatClampNeg) = 3 from rfl, d2, e3]
  refine l2_lp (fun m q => ∃ k, k + m = T1 u - T0 u ∧ q = (nI u, nI (max (D u) (min 61 (mxv (vv s D) (T0 u) k))), nI (T0 u + k))) ?_ (m := T1 u - T0 u) (Nat.lt_trans (show T1 u - T0 u < 1000000000 by omega) l2_N) ⟨0, by omega, by show _ = (nI u, nI (max (D u) (min 61 0)), nI (T0 u)); rw [show max (D u) (min 61 0) = D u by omega]⟩
  rintro m q ⟨k, hk, rfl⟩
  show t_hk (k_X10_depthOf_19 (nI u) (nI (max (D u) (min 61 (mxv (vv s D) (T0 u) k)))) (nI (T0 u + k)) s) _
  unfold k_X10_depthOf_19
  refine l2_ck (l2_ix (show u < 60 by omega) (by decide)) ?_
  rw [nI_clamp (n := u) (by omega), Nat.one_mul, show ((4 : Int32).toNatClampNeg) = 4 from rfl, e4]
  by_cases c : k = T1 u - T0 u
  · subst c
    exact l2_ck (nI_le (by omega) (by omega)) (l2_mp (l2_sm rfl))
  refine l2_no (nI_ge (by omega) (by omega)) (l2_ck (l2_ix (show T0 u + k < 6100 by omega) (by decide)) ?_)
  rw [nI_clamp (n := T0 u + k) (by omega)]
  have hx : max (D u) (min 61 (mxv (vv s D) (T0 u) k)) ≤ 61 := by omega
  have fin : ∀ (l4 : Int32) (y : Nat), ((l4 ≤ 0 ∧ y = 0) ∨ (y ≤ 5000 ∧ l4 = nI y)) → vv s D (T0 u + k) = y → t_hk (k_X10_depthOf_74 (nI u) (nI (max (D u) (min 61 (mxv (vv s D) (T0 u) k)))) (nI (T0 u + k)) l4 s) (l2_nx (fun z => ∃ j, j < m ∧ ∃ k, k + j = T1 u - T0 u ∧ z = (nI u, nI (max (D u) (min 61 (mxv (vv s D) (T0 u) k))), nI (T0 u + k))) (fun r => r = nI (max (D u) (min 61 (dpV s T0 T1 D u))))) := fun l4 y h1 h2 => by
    rw [dp_74 hx h1, nI_1]
    refine l2_sm ⟨m - 1, by omega, k + 1, by omega, ?_⟩
    have e : mxv (vv s D) (T0 u) (k + 1) = max (mxv (vv s D) (T0 u) k) (vv s D (T0 u + k)) := rfl
    rw [e, h2, show max (max (D u) (min 61 (mxv (vv s D) (T0 u) k))) (min 61 y) = max (D u) (min 61 (max (mxv (vv s D) (T0 u) k) y)) by omega]
    rfl
  rcases vv.eq H hu (t := T0 u + k) (by omega) (by omega) with z | ⟨y, y1, y2, y3, ⟨y4, z⟩ | ⟨v, v1, y4, y5, z⟩⟩
  · have le : s.1 358 (T0 u + k) ≤ 0 := by
      refine Int32.not_lt.mp (fun q => ?_)
      have := z (fun _ => 0)
      unfold vv at this
      rw [if_pos q, ite_self] at this
      have a := Int32.lt_iff_toInt_lt.mp q
      rw [show (0 : Int32).toInt = 0 from rfl] at a
      have b : (s.1 358 (T0 u + k)).toNatClampNeg = (s.1 358 (T0 u + k)).toInt.toNat := rfl
      omega
    refine l2_if (fun _ => l2_ck le (fin _ 0 (Or.inl ⟨le, rfl⟩) (z D))) (fun _ => fin _ 0 (Or.inl ⟨le, rfl⟩) (z D))
  · exact l2_no y4 (fin _ y (Or.inr ⟨by omega, y3⟩) (z D))
  · obtain ⟨w1, w2⟩ := hD v v1
    refine l2_ck y4 ?_
    rw [y3, y5]
    refine l2_no (show ¬ nI y ≤ (0 : Int32) from nI_ge (a := 0) (b := y) (by omega) (by omega)) (l2_ck (l2_ix (show v < 60 by omega) (by decide)) ?_)
    rw [nI_clamp (n := v) (by omega), Nat.one_mul, show ((6 : Int32).toNatClampNeg) = 6 from rfl, w2, nI_add]
    exact fin _ (y + D v) (Or.inr ⟨by omega, rfl⟩) (z D)
/-- the class's first depths -/
theorem ms_go (hn : n ≤ 60) (e11 : s.1 353 11 = nI n) (go : ∀ s2, l2_fr (fun b j => 364 ≤ b ∧ b < 424 ∧ j = 6) s s2 → dpD n (fun _ => 1) s2 → t_hk (t_loop b_X10_measure_30 t_N (1, 0, s2)) Q) : t_hk (f_X10_measure s) Q := by
  unfold f_X10_measure
  refine ck_lp (fun i s2 => l2_fr (fun b j => 364 ≤ b ∧ b < 424 ∧ j = 6) s s2 ∧ ∀ u, u < i → s2.1 (364 + u) 6 = 1) (N := n) (by omega) ⟨l2_fr.rf, fun u hu => absurd hu (Nat.not_lt_zero _)⟩ ?_ ?_
  · rintro P s2 ⟨f, h⟩
    show t_hk (k_X10_measure_2 (nI n) s2) _
    unfold k_X10_measure_2
    rw [(f 353 11 (by omega)).1, e11]
    exact l2_ck (nI_le (Nat.le_refl _) (by omega)) (l2_mp (go s2 f (fun u hu => ⟨(show 1 ≤ 61 by decide), h u hu⟩)))
  · rintro i s2 hi ⟨f, h⟩
    show t_hk (k_X10_measure_2 (nI i) s2) _
    unfold k_X10_measure_2
    rw [(f 353 11 (by omega)).1, e11]
    refine l2_no (nI_ge hi (by omega)) (l2_ck (l2_ix (show i < 60 by omega) (by decide)) (l2_lt ?_))
    rw [nI_clamp (n := i) (by omega), Nat.one_mul, show ((6 : Int32).toNatClampNeg) = 6 from rfl, nI_1]
    have fr : l2_fr (fun b j => b = 364 + i ∧ j = 6) s2 (t_setI s2 (364 + i) 6 1) := l2_fr.set ⟨rfl, rfl⟩
    have vv : (t_setI s2 (364 + i) 6 1).1 (364 + i) 6 = 1 := by simp only [l2_gI, and_self, reduceIte]
    refine l2_sm ⟨_, rfl, f.trans (fr.mono (fun b j y => by omega)), fun u hu => ?_⟩
    by_cases c : u = i
    · rw [c, vv]
    · rw [(fr (364 + u) 6 (by omega)).1]
      exact h u (by omega)
theorem dpF.fr (H : dpF n T0 T1 s) (hn : n ≤ 60) (f : l2_fr (fun b j => 364 ≤ b ∧ b < 424 ∧ j = 6) s s') : dpF n T0 T1 s' ∧ ∀ D, ∀ t, vv s' D t = vv s D t := by
  have e8 : ∀ t, s'.1 358 t = s.1 358 t := fun t => (f 358 t (by omega)).1
  have e4 : ∀ t, s'.1 354 t = s.1 354 t := fun t => (f 354 t (by omega)).1
  have e7 : ∀ t, s'.1 357 t = s.1 357 t := fun t => (f 357 t (by omega)).1
  refine ⟨fun u hu => ?_, fun D t => by unfold vv; rw [e8, e4, e7]⟩
  obtain ⟨h1, ⟨h2, h3⟩, h4, h5⟩ := H u hu
  refine ⟨h1, ⟨by rw [(f (364 + u) 3 (by omega)).1]; exact h2, by rw [(f (364 + u) 4 (by omega)).1]; exact h3⟩, by rw [e8]; exact h4, fun t t1 t2 => ?_⟩
  rw [e8, e4, e7]
  exact h5 t t1 t2
theorem gC.le {F : (Nat → Nat) → Nat → Nat} (hD : ∀ v, v < n → D v ≤ 61) : ∀ i, i ≤ n → ∀ v, v < n → gC F D i v ≤ 61 := by
  intro i
  induction i with
  | zero => intro _ v hv; exact hD v hv
  | succ i ih =>
    intro hi v hv
    show dU (gC F D i) i _ v ≤ 61
    have := ih (by omega) v hv
    have h2 := ih (by omega) i (by omega)
    unfold dU
    by_cases c : v = i
    · rw [if_pos c]
      omega
    · rw [if_neg c]
      exact this
/-- one round -/
theorem ms_round {fl : Int32} (H : dpF n T0 T1 s) (hn : n ≤ 60) (e11 : s.1 353 11 = nI n) (f0 : l2_fr (fun b j => 364 ≤ b ∧ b < 424 ∧ j = 6) s s') (hD : dpD n D s') : t_hk (t_loop b_X10_measure_44 t_N (0, fl, 0, s')) (fun w => ∃ (fg : Nat) (s2 : t_S), w = .inl (nI fg, fl + 1, s2) ∧ fg ≤ 1 ∧ l2_fr (fun b j => 364 ≤ b ∧ b < 424 ∧ j = 6) s s2 ∧ dpD n (gC (dpV s T0 T1) D n) s2 ∧ (fg = 0 → ∀ v, v < n → gC (dpV s T0 T1) D n v = D v)) := by
  refine l2_lp (fun m q => ∃ (i fg : Nat) (s2 : t_S), i + m = n ∧ q = (nI fg, fl, nI i, s2) ∧ fg ≤ 1 ∧ l2_fr (fun b j => 364 ≤ b ∧ b < 424 ∧ j = 6) s s2 ∧ dpD n (gC (dpV s T0 T1) D i) s2 ∧ (fg = 0 → ∀ v, v < i → gC (dpV s T0 T1) D i v = D v)) ?_ (m := n) (Nat.lt_trans (show n < 1000000000 by omega) l2_N) ⟨0, 0, s', by omega, rfl, by decide, f0, hD, fun _ v hv => absurd hv (Nat.not_lt_zero _)⟩
  rintro m q ⟨i, fg, s2, hi, rfl, hf, f, hD2, hu⟩
  show t_hk (k_X10_measure_44 (nI fg) fl (nI i) s2) _
  unfold k_X10_measure_44
  rw [(f 353 11 (by omega)).1, e11]
  by_cases c : i = n
  · subst c
    exact l2_ck (nI_le (Nat.le_refl _) (by omega)) (l2_mp (l2_sm ⟨fg, s2, rfl, hf, f, hD2, hu⟩))
  refine l2_no (nI_ge (by omega) (by omega)) ?_
  obtain ⟨H2, ev⟩ := H.fr hn f
  have eV : dpV s2 T0 T1 (gC (dpV s T0 T1) D i) i = dpV s T0 T1 (gC (dpV s T0 T1) D i) i := Nat.le_antisymm (mxv.mono (fun j _ => Nat.le_of_eq (ev _ _))) (mxv.mono (fun j _ => Nat.le_of_eq (ev _ _).symm))
  rw [dp_of H2 hn hD2 (show i < n by omega), eV, l2_bs]
  obtain ⟨d1, d2⟩ := hD2 i (by omega)
  refine l2_ck (l2_ix (show i < 60 by omega) (by decide)) ?_
  rw [nI_clamp (n := i) (by omega), Nat.one_mul, show ((6 : Int32).toNatClampNeg) = 6 from rfl, d2]
  have e0 : gC (dpV s T0 T1) D i i = D i := gC.ge (Nat.le_refl _)
  have new : ∀ g : Nat, g ≤ 1 → (g = 0 → fg = 0 ∧ max (gC (dpV s T0 T1) D i i) (min 61 (dpV s T0 T1 (gC (dpV s T0 T1) D i) i)) = gC (dpV s T0 T1) D i i) → t_hk (k_X10_measure_75 (nI g) fl (nI i) (nI (max (gC (dpV s T0 T1) D i i) (min 61 (dpV s T0 T1 (gC (dpV s T0 T1) D i) i)))) s2) (l2_nx (fun z => ∃ j, j < m ∧ ∃ (i fg : Nat) (s2 : t_S), i + j = n ∧ z = (nI fg, fl, nI i, s2) ∧ fg ≤ 1 ∧ l2_fr (fun b j => 364 ≤ b ∧ b < 424 ∧ j = 6) s s2 ∧ dpD n (gC (dpV s T0 T1) D i) s2 ∧ (fg = 0 → ∀ v, v < i → gC (dpV s T0 T1) D i v = D v)) (fun w => ∃ (fg : Nat) (s2 : t_S), w = .inl (nI fg, fl + 1, s2) ∧ fg ≤ 1 ∧ l2_fr (fun b j => 364 ≤ b ∧ b < 424 ∧ j = 6) s s2 ∧ dpD n (gC (dpV s T0 T1) D n) s2 ∧ (fg = 0 → ∀ v, v < n → gC (dpV s T0 T1) D n v = D v))) := fun g g1 g0 => by
    unfold k_X10_measure_75
    refine l2_ck (l2_ix (show i < 60 by omega) (by decide)) (l2_lt ?_)
    rw [nI_clamp (n := i) (by omega), Nat.one_mul, show ((6 : Int32).toNatClampNeg) = 6 from rfl, nI_1]
    generalize hx : max (gC (dpV s T0 T1) D i i) (min 61 (dpV s T0 T1 (gC (dpV s T0 T1) D i) i)) = x at *
    have fr : l2_fr (fun b j => b = 364 + i ∧ j = 6) s2 (t_setI s2 (364 + i) 6 (nI x)) := l2_fr.set ⟨rfl, rfl⟩
    have vv : (t_setI s2 (364 + i) 6 (nI x)).1 (364 + i) 6 = nI x := by simp only [l2_gI, and_self, reduceIte]
    have en : gC (dpV s T0 T1) D (i + 1) = dU (gC (dpV s T0 T1) D i) i x := by rw [← hx]; rfl
    refine l2_sm ⟨m - 1, by omega, i + 1, g, _, by omega, rfl, g1, f.trans (fr.mono (fun b j y => by omega)), fun u hu => ?_, fun y v hv => ?_⟩
    · rw [en]
      by_cases c : u = i
      · rw [c, vv, dU.at]
        exact ⟨by omega, rfl⟩
      · rw [(fr (364 + u) 6 (by omega)).1, dU.no c]
        exact hD2 u hu
    · obtain ⟨y1, y2⟩ := g0 y
      rw [en]
      by_cases c : v = i
      · rw [c, dU.at, y2, e0]
      · rw [dU.no c]
        exact hu y1 v (by omega)
  refine l2_if (fun z => ?_) (fun z => ?_)
  · exact new fg hf (fun y => ⟨y, (nI_eq (by omega) (by omega)).mp z⟩)
  · exact new 1 (Nat.le_refl _) (fun y => absurd y (by decide))
/-- all rounds -/
theorem ms_all (H : dpF n T0 T1 s) (hn : n ≤ 60) (e11 : s.1 353 11 = nI n) : t_hk (f_X10_measure s) (fun s2 => l2_fr (fun b j => 364 ≤ b ∧ b < 424 ∧ j = 6) s s2 ∧ ∃ J, J ≤ 62 ∧ (62 ≤ J ∨ ∀ u, u < n → kC (dpV s T0 T1) n (J + 1) u = kC (dpV s T0 T1) n J u) ∧ dpD n (kC (dpV s T0 T1) n J) s2) := by
  have hF := dpV.F H
  refine ms_go hn e11 (fun s1 f1 h1 => ?_)
  refine l2_lp (fun m q => ∃ (j fg : Nat) (s2 : t_S), j + m = 62 ∧ q = (nI fg, nI j, s2) ∧ fg ≤ 1 ∧ l2_fr (fun b j => 364 ≤ b ∧ b < 424 ∧ j = 6) s s2 ∧ dpD n (kC (dpV s T0 T1) n j) s2 ∧ (fg = 0 → ∀ v, v < n → kC (dpV s T0 T1) n (j + 1) v = kC (dpV s T0 T1) n j v)) ?_ (m := 62) (Nat.lt_trans (show 62 < 1000000000 by decide) l2_N) ⟨0, 1, s1, by omega, rfl, by decide, f1, h1, fun y => absurd y (by decide)⟩
  rintro m q ⟨j, fg, s2, hj, rfl, hf, f, hD, hu⟩
  show t_hk (k_X10_measure_30 (nI fg) (nI j) s2) _
  unfold k_X10_measure_30
  by_cases z : fg = 0
  · exact l2_ck (by rw [z]; rfl) (l2_mp (l2_sm ⟨f, j, by omega, Or.inr (hu z), hD⟩))
  refine l2_no (fun y => z ((nI_eq (b := 0) (by omega) (by decide)).mp y)) ?_
  by_cases c : j = 62
  · subst c
    exact l2_ck (by decide) (l2_mp (l2_sm ⟨f, 62, by omega, Or.inl (Nat.le_refl _), hD⟩))
  refine l2_no (Int32.not_lt.mpr (show nI j ≤ (61 : Int32) from nI_le (b := 61) (by omega) (by decide))) ?_
  refine l2_imp (ms_round (fl := nI j) H hn e11 f hD) (fun w hw => ?_)
  obtain ⟨fg2, s3, rfl, q1, q2, q3, q4⟩ := hw
  refine ⟨m - 1, by omega, j + 1, fg2, s3, by omega, by rw [nI_1], q1, q2, q3, fun y v hv => ?_⟩
  exact gC.cg hF (fun v hv => q4 y v hv) n (Nat.le_refl _) v hv
end
