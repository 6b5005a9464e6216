/-! Level 2: VALUES in the reference's rows: how deep, how long; compared, copied, kept. -/
theorem VR.m2 {wd : Int → Int → Prop} {c r : Nat → Int64} : ∀ f i p n m, VR wd c r f i p n m → m ≤ 2 * n := by
  intro f
  induction f with
  | zero => intro i p n m h; exact h.elim
  | succ f ih =>
    intro i p n m h
    obtain ⟨t, k, h1, h2, h3, h4, h5, h6⟩ := h
    rcases h6 with ⟨a, b, d, e⟩ | ⟨a, b, d, e⟩ | ⟨a, b, d, e⟩ | ⟨v, a, b, d, e, w, l, B, x, y⟩ | ⟨a, b, d, e, w⟩ | ⟨v, a, b, d, e, I, P, x1, x2, x3, x4, x5⟩ | ⟨v, a, b, d, e, I, x1, x3, x5, P, x2, x4, x6⟩
    · omega
    · omega
    · omega
    · omega
    · have := ih _ _ _ _ w
      omega
    · have q : ∀ j, j ≤ v → P j ≤ 2 * I j := by
        intro j
        induction j with
        | zero => intro _; omega
        | succ j jh =>
          intro hj
          obtain ⟨a1, a2, a3, a4, a5⟩ := x5 j (by omega)
          have := ih _ _ _ _ a5
          have := jh (by omega)
          omega
      have := q v (Nat.le_refl _)
      omega
    · have q : ∀ j, j ≤ v → P j + 2 * j ≤ 2 * I j := by
        intro j
        induction j with
        | zero => intro _; omega
        | succ j jh =>
          intro hj
          obtain ⟨a1, a2, a3⟩ := x5 j (by omega)
          obtain ⟨b1, b2, b3⟩ := x6 j (by omega)
          have := ih _ _ _ _ b3
          have := jh (by omega)
          omega
      have := q v (Nat.le_refl _)
      omega
theorem VR.dep {wd : Int → Int → Prop} {c r : Nat → Int64} : ∀ f i p n m, VR wd c r f i p n m → ∀ g, n ≤ g → VR wd c r g i p n m := by
  intro f
  induction f with
  | zero => intro i p n m h; exact h.elim
  | succ f ih =>
    intro i p n m h g hg
    obtain ⟨t, k, h1, h2, h3, h4, h5, h6⟩ := h
    cases g with
    | zero => omega
    | succ g =>
    refine ⟨t, k, h1, h2, h3, h4, h5, ?_⟩
    rcases h6 with h6 | h6 | h6 | h6 | ⟨a, b, d, e, w⟩ | ⟨v, a, b, d, e, I, P, x1, x2, x3, x4, x5⟩ | ⟨v, a, b, d, e, I, x1, x3, x5, P, x2, x4, x6⟩
    · exact Or.inl h6
    · exact Or.inr (Or.inl h6)
    · exact Or.inr (Or.inr (Or.inl h6))
    · exact Or.inr (Or.inr (Or.inr (Or.inl h6)))
    · exact Or.inr (Or.inr (Or.inr (Or.inr (Or.inl ⟨a, b, d, e, ih _ _ _ _ w g (by omega)⟩))))
    · refine Or.inr (Or.inr (Or.inr (Or.inr (Or.inr (Or.inl ⟨v, a, b, d, e, I, P, x1, x2, x3, x4, fun j hj => ?_⟩)))))
      obtain ⟨a1, a2, a3, a4, a5⟩ := x5 j hj
      exact ⟨a1, a2, a3, a4, ih _ _ _ _ a5 g (by omega)⟩
    · refine Or.inr (Or.inr (Or.inr (Or.inr (Or.inr (Or.inr ⟨v, a, b, d, e, I, x1, x3, x5, P, x2, x4, fun j hj => ?_⟩)))))
      obtain ⟨a1, a2, z⟩ := x5 j hj
      obtain ⟨b1, b2, b3⟩ := x6 j hj
      exact ⟨b1, b2, ih _ _ _ _ b3 g (by omega)⟩
theorem vr_l6 : t_oka 1006 2 (t_ln 1006) = true ∧ t_ln 1006 = 626600 := by decide +kernel
theorem vr_l7 : t_oka 1007 2 (t_ln 1007) = true ∧ t_ln 1007 = 8600 := by decide +kernel
theorem vr_end6 {wd : Int → Int → Prop} {c : Nat → Int64} {s : t_S} {f i p n m : Nat} (hf : f ≤ 800) (h : VR wd c (s.2.1 1006) f i p n m) (hm : p + m ≤ 626600) : f_X13_endOf 1006 (nI p) s = some (nI (p + m)) := by
  have l := vr_l6
  exact vr_endOf l.1 (by omega) hf h (by omega)
theorem vr_weight6 {wd : Int → Int → Prop} {c : Nat → Int64} {s : t_S} {f i p n m : Nat} (hf : f ≤ 800) (h : VR wd c (s.2.1 1006) f i p n m) (hm : p + m ≤ 626600) : f_X13_weightOf 1006 (nI p) s = some (nI n) := by
  have l := vr_l6
  exact vr_weightOf l.1 (by omega) hf h (by omega)
theorem vr_len {p m : Nat} : nI (p + m) - nI p = nI m := by
  rw [pk_sub (by omega), show p + m - p = m by omega]
/-- two VALUES of the reference's row compared -/
theorem vr_isAlike {wd wd' : Int → Int → Prop} {c c' : Nat → Int64} {s : t_S} {f f' i i' p q n n' m m' : Nat} (hf : f ≤ 800) (hf' : f' ≤ 800) (h : VR wd c (s.2.1 1006) f i p n m) (g : VR wd' c' (s.2.1 1006) f' i' q n' m') (hm : p + m ≤ 626600) (hm' : q + m' ≤ 626600) : t_hk (f_X13_isAlike (nI p) (nI q) s) (fun v => (v = 0 ∨ v = 1) ∧ (v = 1 ↔ m = m' ∧ ∀ d, d < m → s.2.1 1006 (q + d) = s.2.1 1006 (p + d))) := by
  have m0 := h.pos
  unfold f_X13_isAlike
  refine l2_eq (vr_end6 hf h hm) (l2_eq (vr_end6 hf' g hm') ?_)
  rw [vr_len, vr_len]
  unfold k_X13_isAlike_30
  refine l2_if (fun z => ?_) (fun z => ?_)
  · have z := (nI_eq (by omega) (by omega)).mp z
    subst z
    refine l2_lp (fun w y => ∃ d fl, d + w = m' ∧ y = (nI p, nI q, nI m', fl, nI d) ∧ ((fl = 1 ∧ ∀ e, e < d → s.2.1 1006 (q + e) = s.2.1 1006 (p + e)) ∨ (fl = 0 ∧ ¬ ∀ e, e < m' → s.2.1 1006 (q + e) = s.2.1 1006 (p + e)))) ?_ (m := m') (Nat.lt_trans (show m' < 1000000000 by omega) l2_N) ⟨0, 1, by omega, rfl, Or.inl ⟨rfl, fun e he => by omega⟩⟩
    rintro w y ⟨d, fl, hd, rfl, hh⟩
    show t_hk (k_X13_isAlike_35 (nI p) (nI q) (nI m') fl (nI d) s) _
    unfold k_X13_isAlike_35
    have f01 : fl = 0 ∨ fl = 1 := by
      rcases hh with ⟨x, _⟩ | ⟨x, _⟩
      · exact Or.inr x
      · exact Or.inl x
    refine l2_if (fun x => ?_) (fun x => ?_)
    · have x := (nI_leI (by omega) (by omega)).mp x
      refine l2_mp (l2_ck f01 (l2_sm ⟨f01, ?_⟩))
      rcases hh with ⟨rfl, y⟩ | ⟨rfl, y⟩
      · exact ⟨fun _ => ⟨rfl, fun e he => y e (by omega)⟩, fun _ => rfl⟩
      · exact ⟨fun z => absurd z (by decide), fun z => absurd z.2 y⟩
    have x : ¬ m' ≤ d := fun y => x ((nI_leI (by omega) (by omega)).mpr y)
    rcases hh with ⟨rfl, y⟩ | ⟨rfl, y⟩
    · refine l2_no (by decide) ?_
      rw [nI_add, nI_add]
      refine l2_ck (l2_ix (by omega) (by decide)) (l2_ck (l2_ix (by omega) (by decide)) ?_)
      rw [nI_clamp (n := p + d) (by omega), nI_clamp (n := q + d) (by omega)]
      unfold k_X13_isAlike_73
      rw [nI_1]
      refine l2_if (fun z => ?_) (fun z => ?_)
      · have z := l2_cmp0.mp z
        refine l2_sm ⟨w - 1, by omega, d + 1, 1, by omega, rfl, Or.inl ⟨rfl, fun e he => ?_⟩⟩
        by_cases u : e = d
        · rw [u]; exact z.symm
        · exact y e (by omega)
      · exact l2_sm ⟨w - 1, by omega, d + 1, 0, by omega, rfl, Or.inr ⟨rfl, fun u => z (l2_cmp0.mpr (u d (by omega)).symm)⟩⟩
    · refine l2_ck rfl (l2_mp (l2_ck (Or.inl rfl) (l2_sm ⟨Or.inl rfl, ?_⟩)))
      exact ⟨fun z => absurd z (by decide), fun z => absurd z.2 y⟩
  · have z : ¬ m' = m := fun x => z (by rw [x])
    refine ⟨0, l2_tnR (y := (nI p, nI q, nI m, 0, 0)) l2_tn.nil (by decide) ?_, Or.inl rfl, fun x => absurd x (by decide), fun x => absurd x.1.symm z⟩
    show k_X13_isAlike_35 (nI p) (nI q) (nI m) 0 0 s = _
    unfold k_X13_isAlike_35
    rw [if_neg (nI_nle (by omega) (by omega)), if_pos rfl, if_pos (Or.inl rfl)]
    rfl
/-- behind m longs copied from p of row a to b of row 1006 -/
def vr_P (s s' : t_S) (a p b m : Nat) : Prop := (∀ d, d < m → s'.2.1 1006 (b + d) = s.2.1 a (p + d)) ∧ (∀ k, ¬ (b ≤ k ∧ k < b + m) → s'.2.1 1006 k = s.2.1 1006 k) ∧ l2_fr (fun b _ => b = 1006) s s'
theorem vr_copy {wd : Int → Int → Prop} {c : Nat → Int64} {s : t_S} {f i p q n m : Nat} (hf : f ≤ 800) (h : VR wd c (s.2.1 1006) f i p n m) (hm : p + m ≤ 626600) (hq : 260 * q + m ≤ 626600) (ho : 260 * q ≤ p ∨ p + m ≤ 260 * q) : t_hk (f_X13_copy (nI p) (nI q) s) (fun s' => vr_P s s' 1006 p (260 * q) m) := by
  unfold f_X13_copy
  refine l2_eq (vr_end6 hf h hm) ?_
  rw [vr_len]
  refine l2_lp (fun w y => ∃ d s1, d + w = m ∧ y = (nI p, nI q, nI m, nI d, s1) ∧ vr_P s s1 1006 p (260 * q) d) ?_ (m := m) (Nat.lt_trans (show m < 1000000000 by omega) l2_N) ⟨0, s, by omega, rfl, fun d hd => by omega, fun k hk => rfl, l2_fr.rf⟩
  rintro w y ⟨d, s1, hd, rfl, hh⟩
  obtain ⟨y1, y2, y3⟩ := hh
  show t_hk (k_X13_copy_14 (nI p) (nI q) (nI m) (nI d) s1) _
  unfold k_X13_copy_14
  refine l2_if (fun x => ?_) (fun x => ?_)
  · have x := (nI_leI (by omega) (by omega)).mp x
    have e : d = m := by omega
    subst e
    exact l2_mp (l2_sm ⟨y1, y2, y3⟩)
  have x : ¬ m ≤ d := fun y => x ((nI_leI (by omega) (by omega)).mpr y)
  rw [show (260 : Int32) = nI 260 from rfl, pk_mul, nI_add, nI_add]
  refine l2_ck (l2_ix (by omega) (by decide)) (l2_ck (l2_ix (by omega) (by decide)) (l2_lt (l2_sm ?_)))
  rw [nI_clamp (n := p + d) (by omega), nI_clamp (n := 260 * q + d) (by omega), nI_1]
  refine ⟨w - 1, by omega, d + 1, _, by omega, rfl, fun e he => ?_, fun k hk => ?_, y3.trans (l2_fr.setJ rfl)⟩
  · rw [l2_jJ, l2_upif]
    by_cases u : e = d
    · rw [if_pos (by omega), u]
      exact y2 (p + d) (by omega)
    · rw [if_neg (by omega)]
      exact y1 e (by omega)
  · rw [l2_jJ, l2_upif, if_neg (by omega)]
    exact y2 k (by omega)
/-- one more kept, on the reference's side -/
theorem vr_keep {wd : Int → Int → Prop} {c : Nat → Int64} {s : t_S} {f i p n m k0 : Nat} (hf : f ≤ 800) (h : VR wd c (s.2.1 1006) f i p n m) (hm : p + m ≤ 626600) (hp : 10400 ≤ p) (hk : s.1 950 96 = nI k0) (hk0 : k0 < 40) : t_hk (f_X13_keep (nI p) s) (fun r => r.1 = nI k0 ∧ ∃ s1, vr_P s s1 1006 p (260 * k0) m ∧ r.2 = t_setI s1 950 96 (nI (k0 + 1))) := by
  have q := h.pos
  have q2 := h.m2
  unfold f_X13_keep
  rw [hk]
  refine l2_no (fun z => ?_) ?_
  · have := (nI_eq (a := k0) (b := 40) (by omega) (by decide)).mp z
    omega
  rw [show (0 : Int32) + nI k0 = nI k0 from Int32.zero_add _]
  refine l2_bd _ (vr_copy hf h hm (by omega) (Or.inl (by omega))) (fun s1 p1 => ?_)
  have e : s1.1 950 96 = nI k0 := by rw [(p1.2.2 950 96 (by decide)).1]; exact hk
  rw [e, nI_1]
  refine l2_lt (l2_sm ⟨?_, s1, p1, rfl⟩)
  rw [l2_sI, l2_upif, if_pos rfl]
  exact nI_pred k0
