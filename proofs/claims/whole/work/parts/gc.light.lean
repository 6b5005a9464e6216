/-! Level 2: least weights and full types behind a module: what stands of them, findLight at any later call; lightest(), fits(). -/
section
variable {s t : t_S} {T a m : Nat} {R : Nat → Nat → Prop}
/-- the cells of the reference that types are -/
def rt_F (s t : t_S) : Prop := t.1 950 40 = s.1 950 40 ∧ (∀ b, (b = 955 ∨ b = 959 ∨ b = 960 ∨ b = 964 ∨ b = 965) → t.1 b = s.1 b) ∧ t.2.1 957 = s.2.1 957 ∧ t.2.1 958 = s.2.1 958
theorem rt_F.of {W : Nat → Nat → Prop} (f : l2_fr W s t) (w : ∀ b j, ((b = 950 ∧ j = 40) ∨ b = 955 ∨ b = 957 ∨ b = 958 ∨ b = 959 ∨ b = 960 ∨ b = 964 ∨ b = 965) → ¬ W b j) : rt_F s t := by
  refine ⟨(f 950 40 (w _ _ (by omega))).1, fun b hb => funext fun j => (f b j (w _ _ (by omega))).1, funext fun j => (f 957 j (w _ _ (by omega))).2.1, funext fun j => (f 958 j (w _ _ (by omega))).2.1⟩
theorem rlNm_st (h : rt_F s t) : rlNm t = rlNm s := by
  obtain ⟨e40, ei, e7, e8⟩ := h
  funext n
  unfold rlNm
  rw [e40, e7, ei 965 (by omega)]
  simp only [fd_stg (fun j => congrFun (ei 964 (by omega)) j)]
theorem rlF_st (h : rt_F s t) : rlF t = rlF s := by
  have nm := rlNm_st h
  obtain ⟨e40, ei, e7, e8⟩ := h
  have e5 := ei 955 (by omega)
  have e9 := ei 959 (by omega)
  have e0 := ei 960 (by omega)
  have rc : ∀ y k f v, rlRc t y k f v = rlRc s y k f v := by
    intro y k
    induction k with
    | zero => intro f v; rfl
    | succ k ih => intro f v; rw [rlRc.succ, rlRc.succ, ih, e0, e8, e9]
  have ch : ∀ y k f v, rlCh t y k f v = rlCh s y k f v := by
    intro y k
    induction k with
    | zero => intro f v; rfl
    | succ k ih => intro f v; rw [rlCh.succ, rlCh.succ, ih, e0, e9]
  have lo : rlLo t = rlLo s := by funext n; unfold rlLo; rw [e7]
  funext y n
  unfold rlF
  rw [e5, e9, rc, ch, lo, nm]
theorem rgF_st (h : rt_F s t) : rgF t = rgF s := by
  have nm := rlNm_st h
  obtain ⟨e40, ei, e7, e8⟩ := h
  have e5 := ei 955 (by omega)
  have e9 := ei 959 (by omega)
  have e0 := ei 960 (by omega)
  have rc : ∀ y k f v, rgRc t y k f v = rgRc s y k f v := by
    intro y k
    induction k with
    | zero => intro f v; rfl
    | succ k ih => intro f v; rw [rgRc.succ, rgRc.succ, ih, e0, e8, e9]
  have ch : ∀ y k f v, rgCh t y k f v = rgCh s y k f v := by
    intro y k
    induction k with
    | zero => intro f v; rfl
    | succ k ih => intro f v; rw [rgCh.succ, rgCh.succ, ih, e0, e9]
  have lo : rlLo t = rlLo s := by funext n; unfold rlLo; rw [e7]
  funext y n
  unfold rgF
  rw [e5, e9, rc, ch, lo, nm]
theorem rlY_st (h : rt_F s t) : rlY t m = rlY s m := by unfold rlY; rw [rlF_st h]
theorem rgY_st (h : rt_F s t) : rgY t m = rgY s m := by unfold rgY; rw [rgF_st h]
theorem ty_p.st {i : Nat} (h : rt_F s t) (q : ty_p s m i) : ty_p t m i := by
  obtain ⟨e40, ei, e7, e8⟩ := h
  have e5 := ei 955 (by omega)
  have e9 := ei 959 (by omega)
  have e0 := ei 960 (by omega)
  unfold ty_p ty_to at *
  rw [e5, e9, e0, e7]
  exact q
theorem rlW.st {nt : Nat → Nat} (h : rt_F s t) (e29 : t.1 950 29 = s.1 950 29) (q : rlW nt s m) : rlW nt t m := by
  obtain ⟨q1, q2, q3⟩ := q
  refine ⟨e29.trans q1, q2, fun n hn => ?_⟩
  obtain ⟨a1, a2, a3⟩ := q3 n hn
  have h' := h
  obtain ⟨e40, ei, e7, e8⟩ := h
  rw [ei 955 (by omega), e40, e7, ei 965 (by omega)]
  simp only [fd_stg (fun j => congrFun (ei 964 (by omega)) j)]
  exact ⟨a1, ty_p.st h' a2, a3⟩
theorem rlRk.st {ρ : Nat → Nat} (h : rt_F s t) (q : rlRk s m ρ) : rlRk t m ρ := fun n hn h8 => by
  rw [rlNm_st h]
  exact q n hn (by rw [← h.2.1 955 (by omega)]; exact h8)
/-- least weights and full types: the class's stand; the reference's stand or are yet to be found -/
def LT (a m : Nat) (R : Nat → Nat → Prop) (s : t_S) : Prop := (∃ nt ρ, rlW nt s m ∧ rlRk s m ρ) ∧ (s.1 950 108 = 0 ∨ (s.1 950 108 = 1 ∧ (∀ i, i < m → s.2.1 1011 i = lN (rlY s m i)) ∧ ∀ i, i < m → s.1 1012 i = nI (1 - rgY s m i))) ∧ ∃ y : Nat → Nat, (∀ i, i < a → s.1 324 i = nI (y i)) ∧ (∀ i, y i ≤ 2000000) ∧ (∀ i, rlY s m i ≤ 4000000000000000000) ∧ ∀ n k, R n k → min 1000000 (rlY s m k) = min 1000000 (y n) ∧ (rgY s m k = 0 ↔ y n < 2000000)
theorem LT.fr {W : Nat → Nat → Prop} (h : LT a m R s) (f : l2_fr W s t) (w : ∀ b j, ((b = 950 ∧ (j = 29 ∨ j = 40 ∨ j = 108)) ∨ b = 324 ∨ b = 955 ∨ b = 957 ∨ b = 958 ∨ b = 959 ∨ b = 960 ∨ b = 964 ∨ b = 965 ∨ b = 1011 ∨ b = 1012) → ¬ W b j) : LT a m R t := by
  have E : rt_F s t := rt_F.of f (fun b j q => w b j (by omega))
  obtain ⟨⟨nt, ρ, h1, h2⟩, h3, y, h4, h5, h6, h7⟩ := h
  have e29 : t.1 950 29 = s.1 950 29 := (f 950 29 (w _ _ (by omega))).1
  have e108 : t.1 950 108 = s.1 950 108 := (f 950 108 (w _ _ (by omega))).1
  refine ⟨⟨nt, ρ, h1.st E e29, h2.st E⟩, ?_, y, fun i hi => ((f 324 i (w _ _ (by omega))).1).trans (h4 i hi), h5, ?_, ?_⟩
  · rw [e108, rlY_st E, rgY_st E]
    rcases h3 with h3 | ⟨h3, h8, h9⟩
    · exact Or.inl h3
    · exact Or.inr ⟨h3, fun i hi => ((f 1011 i (w _ _ (by omega))).2.1).trans (h8 i hi), fun i hi => ((f 1012 i (w _ _ (by omega))).1).trans (h9 i hi)⟩
  · rw [rlY_st E]; exact h6
  · rw [rlY_st E, rgY_st E]; exact h7
/-- the reference looks for least weights, once -/
theorem lt_find (h : LT a m R s) : t_hk (f_X13_findLight s) (fun w => l2_fr rl_V s w ∧ LT a m R w ∧ w.1 950 108 = 1 ∧ (∀ i, i < m → w.2.1 1011 i = lN (rlY s m i)) ∧ ∀ i, i < m → w.1 1012 i = nI (1 - rgY s m i)) := by
  obtain ⟨⟨nt, ρ, h1, h2⟩, h3, y, h4, h5, h6, h7⟩ := h
  rcases h3 with h3 | ⟨h3, h8, h9⟩
  · refine l2_imp (rl_light h1 h2 h3) (fun w hw => ?_)
    obtain ⟨w1, w2, w3, w4⟩ := hw
    have E : rt_F s w := rt_F.of w1 (fun b j q => by unfold rl_V; omega)
    have e29 : w.1 950 29 = s.1 950 29 := (w1 950 29 (by unfold rl_V; omega)).1
    refine ⟨w1, ⟨⟨nt, ρ, h1.st E e29, h2.st E⟩, Or.inr ⟨w2, ?_, ?_⟩, y, fun i hi => ((w1 324 i (by unfold rl_V; omega)).1).trans (h4 i hi), h5, ?_, ?_⟩, w2, w3, w4⟩
    · rw [rlY_st E]; exact w3
    · rw [rgY_st E]; exact w4
    · rw [rlY_st E]; exact h6
    · rw [rlY_st E, rgY_st E]; exact h7
  · unfold f_X13_findLight
    rw [if_neg (by rw [h3]; decide)]
    exact l2_sm ⟨l2_fr.rf, ⟨⟨nt, ρ, h1, h2⟩, Or.inr ⟨h3, h8, h9⟩, y, h4, h5, h6, h7⟩, h3, h8, h9⟩
/-- a type's number on both sides -/
theorem tz_is (h1 : s.1 0 12 = 1) (h2 : s.1 950 65 = 1) (h3 : s.1 316 13 = nI T) (h4 : s.1 950 40 = nI T) (hT : T ≤ 60) (x : Int32) : (f_X12_isType x s = 0 ∧ f_X13_noType x s = 1) ∨ (f_X12_isType x s = 1 ∧ f_X13_noType x s = 0 ∧ ∃ j, j < T ∧ x = nI j) := by
  unfold f_X12_isType f_X13_noType k_X13_noType_19
  rw [h1, h2, h3, h4, if_neg (show ¬ (1 : Int32) = 0 by decide), if_neg (show ¬ (1 : Int32) = 0 by decide)]
  rcases pk_ix x (n := T) (by omega) with z | z | ⟨j, hj, rfl⟩
  · rw [if_pos z, if_pos z]
    exact Or.inl ⟨rfl, rfl⟩
  · by_cases y : x < 0
    · rw [if_pos y, if_pos y]
      exact Or.inl ⟨rfl, rfl⟩
    · rw [if_neg y, if_neg y, if_pos z, if_neg (Int32.not_lt.mpr z)]
      exact Or.inl ⟨rfl, rfl⟩
  · rw [if_neg (nI_pos (by omega)), if_neg (nI_pos (by omega)), if_neg (nI_ge hj (by omega)), if_pos (nI_lt hj (by omega))]
    exact Or.inr ⟨rfl, rfl, j, hj, rfl⟩
/-- no module: there are no types -/
theorem tz_no (h1 : s.1 0 12 = 0) (h2 : s.1 950 65 = 0) (x : Int32) : f_X12_isType x s = 0 ∧ f_X13_noType x s = 1 := by
  unfold f_X12_isType f_X13_noType k_X13_noType_19
  rw [h1, h2, if_pos rfl, if_pos rfl]
  exact ⟨rfl, rfl⟩
/-- what stands of types: none, or those of a module -/
def tzR (s : t_S) : Prop := (s.1 0 12 = 0 ∧ s.1 950 65 = 0) ∨ (s.1 0 12 = 1 ∧ s.1 950 65 = 1 ∧ ∃ T a m R, MT T a m R s ∧ LT a m R s)
def tz_W (b j : Nat) : Prop := (b = 0 ∧ j = 12) ∨ (b = 316 ∧ j = 13) ∨ (317 ≤ b ∧ b ≤ 326) ∨ (b = 950 ∧ (j = 29 ∨ j = 40 ∨ j = 65 ∨ j = 108)) ∨ (955 ≤ b ∧ b ≤ 965) ∨ b = 1011 ∨ b = 1012
theorem tzR.fr {W : Nat → Nat → Prop} (h : tzR s) (f : l2_fr W s t) (w : ∀ b j, tz_W b j → ¬ W b j) : tzR t := by
  have e1 : t.1 0 12 = s.1 0 12 := (f 0 12 (w _ _ (by unfold tz_W; omega))).1
  have e2 : t.1 950 65 = s.1 950 65 := (f 950 65 (w _ _ (by unfold tz_W; omega))).1
  rcases h with ⟨h1, h2⟩ | ⟨h1, h2, T, a, m, R, h3, h4⟩
  · exact Or.inl ⟨e1.trans h1, e2.trans h2⟩
  · exact Or.inr ⟨e1.trans h1, e2.trans h2, T, a, m, R, h3.fr f (fun b j q => w b j (by unfold MT_W at q; unfold tz_W; omega)), h4.fr f (fun b j q => w b j (by unfold tz_W; omega))⟩
/-- lightest() -/
theorem tz_lightest (h : tzR s) (x : Int32) : ∃ v, f_X12_lightest x s = some v ∧ t_hk (f_X13_lightest x s) (fun r => r.1 = v ∧ l2_fr rl_V s r.2 ∧ tzR r.2) := by
  unfold f_X12_lightest f_X13_lightest
  rcases h with ⟨h1, h2⟩ | ⟨h1, h2, T, a, m, R, h3, h4⟩
  · obtain ⟨a1, a2⟩ := tz_no h1 h2 x
    rw [a1, a2, if_pos rfl, if_neg (by decide)]
    exact ⟨_, rfl, l2_sm ⟨rfl, l2_fr.rf, Or.inl ⟨h1, h2⟩⟩⟩
  obtain ⟨b1, b2, b3, b4, b5⟩ := h3.1
  rcases tz_is h1 h2 b4 b5 b3 x with ⟨a1, a2⟩ | ⟨a1, a2, j, hj, rfl⟩
  · rw [a1, a2, if_pos rfl, if_neg (by decide)]
    exact ⟨_, rfl, l2_sm ⟨rfl, l2_fr.rf, Or.inr ⟨h1, h2, T, a, m, R, h3, h4⟩⟩⟩
  rw [a1, a2, if_neg (by decide), if_pos rfl]
  obtain ⟨u, u', e1, e2, q⟩ := h3.2.2.1 j hj
  obtain ⟨c1, c2, _⟩ := h3.2.1 u u' q
  obtain ⟨y, y1, y2, y3, y4⟩ := h4.2.2
  obtain ⟨z1, z2⟩ := y4 u u' q
  have yu := y2 u
  have zu := y3 u'
  rw [if_pos (l2_ix (by omega) (by decide)), nI_clamp (n := j) (by omega), e1, if_pos (l2_ix (by omega) (by decide)), nI_clamp (n := u) (by omega), y1 u c1]
  refine ⟨if y u ≤ 120 then nI (y u) else -2, ?_, ?_⟩
  · by_cases c : y u ≤ 120
    · rw [if_pos c, if_pos (show nI (y u) ≤ (120 : Int32) from nI_le (b := 120) c (by decide))]
    · rw [if_neg c, if_neg (show ¬ nI (y u) ≤ (120 : Int32) from nI_ge (a := 120) (by omega) (by omega))]
  · refine l2_bd _ (lt_find h4) (fun w hw => ?_)
    obtain ⟨w1, w2, w3, w4, w5⟩ := hw
    have e3 : w.1 965 j = nI u' := ((w1 965 j (by unfold rl_V; omega)).1).trans e2
    have tw : tzR w := Or.inr ⟨((w1 0 12 (by unfold rl_V; omega)).1).trans h1, ((w1 950 65 (by unfold rl_V; omega)).1).trans h2, T, a, m, R, h3.fr w1 (fun b j q => by unfold MT_W at q; unfold rl_V; omega), w2⟩
    refine l2_ck (l2_ix (by omega) (by decide)) (l2_ck (by rw [e3]; exact l2_ix (by omega) (by decide)) ?_)
    rw [e3, nI_clamp (n := u') (by omega), w4 u' c2]
    have le : lg_cmp (lN (rlY s m u')) (120 : Int64) ≤ (0 : Int32) ↔ rlY s m u' ≤ 120 := by
      rw [← Int32.not_lt, t_cmp_gt, pk_lT (by omega), show (120 : Int64).toInt = 120 from rfl]
      omega
    by_cases c : rlY s m u' ≤ 120
    · have eq : rlY s m u' = y u := by omega
      refine l2_ck (le.mpr c) (l2_sm ⟨?_, w1, tw⟩)
      rw [if_pos (by omega), lN_i, eq]
    · refine l2_no (fun q => c (le.mp q)) (l2_sm ⟨?_, w1, tw⟩)
      rw [if_neg (by omega)]
/-- fits() -/
theorem tz_fits {K : Nat} (h : tzR s) (hk : kq_R s s K) (x y : Int32) : t_hk (f_X12_fits x y s) (fun r => l2_fr (fun b _ => b = 333) s r.2 ∧ f_X13_fits x y r.2 = some r.1) := by
  have kp := hk.kp
  have K40 := hk.2.2.1
  unfold f_X12_fits
  have nk : ∀ t : t_S, f_X13_noType y t = 1 → f_X13_fits x y t = some (-1) := fun t e => by
    unfold f_X13_fits k_X13_fits_16
    rw [e, if_neg (by decide)]
  have nv : ∀ t : t_S, f_X13_noValue x t = 1 → f_X13_fits x y t = some (-1) := fun t e => by
    unfold f_X13_fits k_X13_fits_16
    by_cases c : f_X13_noType y t = 0
    · rw [if_pos c, e, if_neg (by decide)]
    · rw [if_neg c]
  rcases kp_is kp.1 kp.2.1 kp.2.2.1 x with ⟨a1, b1⟩ | ⟨a1, b1, j, hj, rfl⟩
  · refine l2_ck a1 (l2_sm ⟨l2_fr.rf, nv s b1⟩)
  refine l2_no (by rw [a1]; decide) ?_
  rcases h with ⟨h1, h2⟩ | ⟨h1, h2, T, a, m, R, h3, h4⟩
  · obtain ⟨c1, c2⟩ := tz_no h1 h2 y
    exact l2_ck c1 (l2_sm ⟨l2_fr.rf, nk s c2⟩)
  obtain ⟨d1, d2, d3, d4, d5⟩ := h3.1
  rcases tz_is h1 h2 d4 d5 d3 y with ⟨c1, c2⟩ | ⟨c1, c2, i, hi, rfl⟩
  · exact l2_ck c1 (l2_sm ⟨l2_fr.rf, nk s c2⟩)
  refine l2_no (by rw [c1]; decide) (l2_ck (l2_ix (by omega) (by decide)) ?_)
  obtain ⟨u, u', e1, e2, q⟩ := h3.2.2.1 i hi
  obtain ⟨n, p, w, g⟩ := hk.2.2.2 j hj
  have pos := w.pos
  have m2 := w.m2
  have l13 := vl_l13
  rw [nI_clamp (n := i) (by omega), e1, kp_at]
  obtain ⟨v, v1, v2, v3⟩ := ft_holds h3 (l := 13) (by decide) l13.1 (by omega) w (by omega) (by omega) (by omega) q
  refine l2_bd _ v3 (fun r hr => ?_)
  obtain ⟨r1, r2⟩ := hr
  have E : rt_E s r.2 := rt_E.of r2 (fun b j q => by omega)
  have nt : f_X13_noType (nI i) r.2 = 0 := by
    have := tz_is (s := r.2) (((r2 0 12 (show ¬ (0 : Nat) = 333 by decide)).1).trans h1) (((r2 950 65 (show ¬ (950 : Nat) = 333 by decide)).1).trans h2) (((r2 316 13 (show ¬ (316 : Nat) = 333 by decide)).1).trans d4) (((r2 950 40 (show ¬ (950 : Nat) = 333 by decide)).1).trans d5) d3 (nI i)
    rcases this with ⟨z, _⟩ | ⟨_, z, _⟩
    · unfold f_X12_isType at z
      rw [((r2 0 12 (show ¬ (0 : Nat) = 333 by decide)).1).trans h1, if_neg (by decide), if_neg (nI_pos (by omega)), ((r2 316 13 (show ¬ (316 : Nat) = 333 by decide)).1).trans d4, if_neg (nI_ge hi (by omega))] at z
      exact absurd z (by decide)
    · exact z
  have nv0 : f_X13_noValue (nI j) r.2 = 0 := by
    unfold f_X13_noValue
    rw [if_neg (nI_pos (by omega)), ((r2 950 96 (show ¬ (950 : Nat) = 333 by decide)).1).trans kp.2.1, if_pos (nI_lt hj (by omega))]
  have rf : f_X13_fits (nI j) (nI i) r.2 = some (if v = 0 then 0 else 1) := by
    unfold f_X13_fits f_X13_fitsAt
    rw [nt, if_pos rfl, nv0, if_pos rfl, if_pos (l2_ix (by omega) (by decide)), kp_rat, nI_clamp (n := i) (by omega), ((r2 965 i (show ¬ (965 : Nat) = 333 by decide)).1).trans e2, (fits_st E 300).1, v2 300 (by omega), l2_bs]
    by_cases c : v = 0
    · rw [if_pos c, if_pos c]
    · rw [if_neg c, if_neg c]
  by_cases c : v = 0
  · refine l2_ck (by rw [r1]; exact c) (l2_sm ⟨r2, ?_⟩)
    rw [rf, if_pos c]
  · refine l2_no (by rw [r1]; exact c) (l2_sm ⟨r2, ?_⟩)
    rw [rf, if_neg c]
end
