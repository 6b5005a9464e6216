/-! Level 2: how long a VALUE is in the reference's row, and how heavy: both walks (endOf, weightOf) turn once a node. -/
/-- u turns lead from x to y -/
def l2_tn {σ ρ : Type} (b : σ → Option (σ ⊕ ρ)) (u : Nat) (x y : σ) : Prop := ∀ N, t_loop b (N + u) x = t_loop b N y
theorem l2_tn.one {σ ρ : Type} {b : σ → Option (σ ⊕ ρ)} {x y : σ} (h : b x = some (.inl y)) : l2_tn b 1 x y := fun _ => l2_lpS h
theorem l2_tn.nil {σ ρ : Type} {b : σ → Option (σ ⊕ ρ)} {x : σ} : l2_tn b 0 x x := fun _ => rfl
theorem l2_tn.trans {σ ρ : Type} {b : σ → Option (σ ⊕ ρ)} {u v : Nat} {x y z : σ} (h : l2_tn b u x y) (g : l2_tn b v y z) : l2_tn b (u + v) x z := by
  intro N
  rw [show N + (u + v) = (N + v) + u by omega, h, g]
theorem l2_tnR {σ ρ : Type} {b : σ → Option (σ ⊕ ρ)} {u : Nat} {x y : σ} {r : ρ} (h : l2_tn b u x y) (hu : u ≤ 1000000000) (hr : b y = some (.inr r)) : t_loop b t_N x = some r := by
  have n := l2_N
  rw [show t_N = ((t_N - u - 1) + 1) + u by omega, h, l2_lpR hr]
theorem vr_mono {I : Nat → Nat} {v : Nat} (g : Nat) (h : ∀ j, j < v → I j + g ≤ I (j + 1)) : ∀ j, j ≤ v → I 0 + g * j ≤ I j := by
  intro j
  induction j with
  | zero => intro _; exact Nat.le_refl _
  | succ j ih =>
    intro hj
    have a := ih (by omega)
    have b := h j (by omega)
    rw [Nat.mul_succ]
    omega
theorem l2_tnS {σ ρ : Type} {b : σ → Option (σ ⊕ ρ)} {Y : Nat → σ} {I : Nat → Nat} {v : Nat} (h : ∀ j, j < v → ∃ u, u ≤ I (j + 1) - I j ∧ I j ≤ I (j + 1) ∧ l2_tn b u (Y j) (Y (j + 1))) : ∀ j, j ≤ v → ∃ u, u ≤ I j - I 0 ∧ I 0 ≤ I j ∧ l2_tn b u (Y 0) (Y j) := by
  intro j
  induction j with
  | zero => intro _; exact ⟨0, by omega, by omega, l2_tn.nil⟩
  | succ j ih =>
    intro hj
    obtain ⟨u, hu, h0, hh⟩ := ih (by omega)
    obtain ⟨w, hw, h1, hg⟩ := h j (by omega)
    exact ⟨u + w, by omega, by omega, hh.trans hg⟩
theorem vr_l {x : Int64} {n : Nat} (hn : n < 2 ^ 63) (h : x.toInt = n) : x = lN n := by
  apply Int64.toInt_inj.mp
  rw [h, pk_lT hn]
theorem VR.pos {wd : Int → Int → Prop} {c r : Nat → Int64} {f i p n m : Nat} (h : VR wd c r f i p n m) : 0 < n ∧ n ≤ 120 ∧ 0 < m := by
  cases f with
  | zero => exact h.elim
  | succ f =>
    obtain ⟨t, k, h1, h2, h3, h4, h5, h6⟩ := h
    exact ⟨h1, h2, h4⟩
/-- of a node of kind k that tells v: its longs in the reference's row, the parts behind it, its weight -/
def vr_w (k v : Nat) : Nat := if k = 4 then 1 else if k = 2 then 2 + (v + 7) / 8 else if k = 6 then 2 + v else 2
def vr_d (k v : Nat) : Nat := if k = 6 then v else if k = 7 then 1 else if k = 8 then v else 0
def vr_c (k v : Nat) : Nat := if k = 2 then 1 + (v + 7) / 8 else if k = 6 then 1 + v else 1
/-- what a turn must do -/
def vr_T {σ ρ : Type} (b : σ → Option (σ ⊕ ρ)) (X : Nat → Nat → Nat → σ) (r : Nat → Int64) (L : Nat) : Prop := ∀ p g need k v, p + vr_w k v ≤ L → v ≤ 120 → need ≤ 100000 → k ≤ 8 → r p = lN k → (k = 2 ∨ k = 6 ∨ k = 8 → r (p + 1) = lN v) → b (X p g (need + 1)) = some (.inl (X (p + vr_w k v) (g + vr_c k v) (need + vr_d k v)))
theorem vr_go {σ ρ : Type} {b : σ → Option (σ ⊕ ρ)} {X : Nat → Nat → Nat → σ} {wd : Int → Int → Prop} {c r : Nat → Int64} {L : Nat} (T : vr_T b X r L) : ∀ f i p n m, VR wd c r f i p n m → p + m ≤ L → ∀ g need, need + 120 * f ≤ 100000 → ∃ u, 1 ≤ u ∧ u ≤ n ∧ l2_tn b u (X p g (need + 1)) (X (p + m) (g + n) need) := by
  intro f
  induction f with
  | zero => intro i p n m h; exact h.elim
  | succ f ih =>
    intro i p n m h hL g need hN
    obtain ⟨t, k, h1, h2, h3, h4, h5, h6⟩ := h
    have r0 : ∀ {y : Nat}, k = y → y ≤ 8 → r p = lN y := fun e hy => by subst e; exact vr_l (by omega) h5
    rcases h6 with ⟨a, b1, d, e⟩ | ⟨a, b1, d, e⟩ | ⟨a, b1, d, e⟩ | ⟨v, a, b1, d, e, w, l, B, x, y⟩ | ⟨a, b1, d, e, w⟩ | ⟨v, a, b1, d, e, I, P, x1, x2, x3, x4, x5⟩ | ⟨v, a, b1, d, e, I, x1, x3, x5, P, x2, x4, x6⟩
    · have q := T p g need k 0 (by unfold vr_w; rw [if_neg (by omega), if_neg (by omega), if_neg (by omega)]; omega) (by omega) (by omega) (by omega) (vr_l (by omega) h5) (fun z => by omega)
      have e1 : vr_w k 0 = m := by unfold vr_w; rw [if_neg (by omega), if_neg (by omega), if_neg (by omega)]; omega
      have e2 : vr_c k 0 = n := by unfold vr_c; rw [if_neg (by omega), if_neg (by omega)]; omega
      have e3 : vr_d k 0 = 0 := by unfold vr_d; rw [if_neg (by omega), if_neg (by omega), if_neg (by omega)]
      rw [e1, e2, e3] at q
      exact ⟨1, by omega, by omega, l2_tn.one q⟩
    · subst a
      have q := T p g need 3 0 (by show p + 2 ≤ L; omega) (by omega) (by omega) (by omega) (vr_l (by omega) h5) (fun z => by omega)
      subst b1 d
      exact ⟨1, by omega, by omega, l2_tn.one q⟩
    · subst a
      have q := T p g need 4 0 (by show p + 1 ≤ L; omega) (by omega) (by omega) (by omega) (vr_l (by omega) h5) (fun z => by omega)
      subst b1 d
      exact ⟨1, by omega, by omega, l2_tn.one q⟩
    · subst a
      have q := T p g need 2 v (by show p + (2 + (v + 7) / 8) ≤ L; omega) (by omega) (by omega) (by omega) (vr_l (by omega) h5) (fun z => vr_l (by omega) l)
      subst e w
      exact ⟨1, by omega, by omega, l2_tn.one q⟩
    · subst a
      have q := T p g need 7 0 (by show p + 2 ≤ L; omega) (by omega) (by omega) (by omega) (vr_l (by omega) h5) (fun z => by omega)
      obtain ⟨u, u1, u2, u3⟩ := ih _ _ _ _ w (by omega) (g + 1) need (by omega)
      have s := (l2_tn.one q).trans (show l2_tn b u (X (p + 2) (g + 1) (need + 1)) _ from u3)
      rw [show p + 2 + (m - 2) = p + m by omega, show g + 1 + (n - 1) = g + n by omega] at s
      exact ⟨1 + u, by omega, by omega, s⟩
    · subst a
      have hv : v ≤ n - 1 := by
        have q := vr_mono (I := I) (v := v) 1 (fun j hj => by
          have := x5 j hj
          have := this.2.2.2.2.pos
          omega) v (by omega)
        omega
      have q := T p g need 8 v (by show p + 2 ≤ L; omega) (by omega) (by omega) (by omega) (vr_l (by omega) h5) (fun z => vr_l (by omega) d)
      obtain ⟨u, u1, u2, u3⟩ := l2_tnS (b := b) (Y := fun j => X (p + 2 + P j) (g + 1 + I j) (need + (v - j))) (I := I) (v := v) (fun j hj => by
        obtain ⟨y1, y2, y3, y4, y5⟩ := x5 j hj
        obtain ⟨u, u1, u2, u3⟩ := ih _ _ _ _ y5 (by omega) (g + 1 + I j) (need + (v - (j + 1))) (by omega)
        rw [show need + (v - (j + 1)) + 1 = need + (v - j) by omega, show p + 2 + P j + (P (j + 1) - P j) = p + 2 + P (j + 1) by omega, show g + 1 + I j + (I (j + 1) - I j - 0) = g + 1 + I (j + 1) by omega] at u3
        exact ⟨u, by omega, by omega, u3⟩) v (Nat.le_refl _)
      have s := (l2_tn.one q).trans (show l2_tn b u (X (p + 2) (g + 1) (need + v)) _ by
        have u3 := u3
        rw [x1, x2, x3, x4] at u3
        exact u3)
      rw [show p + 2 + (m - 2) = p + m by omega, show g + 1 + (n - 1) = g + n by omega, show need + (v - v) = need by omega] at s
      exact ⟨1 + u, by omega, by omega, s⟩
    · subst a
      have hv : ∀ j, j ≤ v → j ≤ I j := by
        intro j hj
        have q := vr_mono (I := I) (v := v) 1 (fun j hj => (x5 j hj).1) j hj
        omega
      have hv1 := hv v (Nat.le_refl _)
      have q := T p g need 6 v (by show p + (2 + v) ≤ L; omega) (by omega) (by omega) (by omega) (vr_l (by omega) h5) (fun z => vr_l (by omega) d)
      obtain ⟨u, u1, u2, u3⟩ := l2_tnS (b := b) (Y := fun j => X (p + 2 + v + P j) (g + (1 + v) + (I j - j)) (need + (v - j))) (I := I) (v := v) (fun j hj => by
        obtain ⟨y1, y2, y3⟩ := x5 j hj
        obtain ⟨z1, z2, z3⟩ := x6 j hj
        have hj1 := hv j (by omega)
        have hj2 := hv (j + 1) (by omega)
        obtain ⟨u, u1, u2, u3⟩ := ih _ _ _ _ z3 (by omega) (g + (1 + v) + (I j - j)) (need + (v - (j + 1))) (by omega)
        rw [show need + (v - (j + 1)) + 1 = need + (v - j) by omega, show p + 2 + v + P j + (P (j + 1) - P j) = p + 2 + v + P (j + 1) by omega, show g + (1 + v) + (I j - j) + (I (j + 1) - I j - 1) = g + (1 + v) + (I (j + 1) - (j + 1)) by omega] at u3
        exact ⟨u, by omega, by omega, u3⟩) v (Nat.le_refl _)
      have q : b (X p g (need + 1)) = some (.inl (X (p + 2 + v) (g + (1 + v)) (need + v))) := by
        have q := q
        rw [show p + vr_w 6 v = p + 2 + v by show p + (2 + v) = _; omega] at q
        exact q
      have s := (l2_tn.one q).trans (show l2_tn b u (X (p + 2 + v) (g + (1 + v)) (need + v)) _ by
        have u3 := u3
        rw [x1, x2, x3, x4] at u3
        exact u3)
      rw [show p + 2 + v + (m - 2 - v) = p + m by omega, show g + (1 + v) + (n - 1 - v) = g + n by omega, show need + (v - v) = need by omega] at s
      exact ⟨1 + u, by omega, by omega, s⟩
theorem vr_stop {n : Nat} (hn : n < 2 ^ 62) : lg_cmp (lN n) 0 ≤ 0 ↔ n = 0 := by
  rw [← Int32.not_lt, t_cmp_gt, pk_lT (by omega), show (0 : Int64).toInt = 0 from rfl]
  omega
theorem vr_packs {v : Nat} {s : t_S} (hv : v < 1000000) : f_X13_packs (lN v) s = some (nI ((v + 7) / 8)) := by
  unfold f_X13_packs
  rw [show (7 : Int64) = lN 7 from rfl, lN_add, lN_i, show (8 : Int32) = nI 8 from rfl, pk_div (by omega) (by decide) (by decide)]
theorem vr_m1 (n : Nat) : lN (n + 1) - (1 : Int64) = lN n := by
  rw [show (1 : Int64) = lN 1 from rfl, lN_sub (by omega), show n + 1 - 1 = n by omega]
theorem vr_ke {k : Nat} (hk : k ≤ 8) (c : Nat) (hc : c < 2 ^ 31) (d : Int32) (hd : d = nI c) : nI k = d ↔ k = c := by
  rw [hd]
  exact nI_eq (by omega) hc
theorem vr_eT {s : t_S} {a L : Nat} (ha : t_oka a 2 (t_ln a) = true) (hL : L ≤ t_ln a) (hl : t_ln a < 1000000) : vr_T (b_X13_endOf_4 s) (fun p _ need => (a, nI p, lN need)) (s.2.1 a) L := by
  intro p g need k v h1 h2 h3 h4 h6 h7
  have hw : 1 ≤ vr_w k v := by unfold vr_w; split <;> (try split) <;> (try split) <;> omega
  have hw2 : k ≠ 4 → 2 ≤ vr_w k v := by intro z; unfold vr_w; rw [if_neg z]; split <;> (try split) <;> omega
  show k_X13_endOf_4 a (nI p) (lN (need + 1)) s = some (.inl (a, nI (p + vr_w k v), lN (need + vr_d k v)))
  unfold k_X13_endOf_4
  rw [if_neg (fun z => by have := (vr_stop (by omega)).mp z; omega), if_pos ha, if_pos (l2_ix (n := t_ln a) (by omega) (by omega)), nI_clamp (n := p) (by omega), h6, lN_i]
  have e4 := vr_ke h4 4 (by decide) 4 rfl
  have e2 := vr_ke h4 2 (by decide) 2 rfl
  have e6 := vr_ke h4 6 (by decide) 6 rfl
  have e7 := vr_ke h4 7 (by decide) 7 rfl
  have e8 := vr_ke h4 8 (by decide) 8 rfl
  unfold k_X13_endOf_124
  by_cases z4 : k = 4
  · rw [if_pos (e4.mpr z4), nI_1, vr_m1]
    subst z4; rfl
  have b2 := hw2 z4
  have x1 : t_ix (nI p + 1) (t_ln a) = true := by rw [nI_1]; exact l2_ix (by omega) (by omega)
  rw [if_neg (fun z => z4 (e4.mp z))]
  by_cases z2 : k = 2
  · rw [if_pos (e2.mpr z2), if_pos x1, nI_1, nI_clamp (n := p + 1) (by omega), h7 (Or.inl z2), vr_packs (by omega)]
    show some (Sum.inl (a, nI p + nI 2 + nI ((v + 7) / 8), lN (need + 1) - 1)) = _
    rw [nI_add, nI_add, vr_m1]
    subst z2
    rw [show p + vr_w 2 v = p + 2 + (v + 7) / 8 by show p + (2 + (v + 7) / 8) = _; omega]
    rfl
  rw [if_neg (fun z => z2 (e2.mp z))]
  by_cases z6 : k = 6
  · rw [if_pos (e6.mpr z6), if_pos x1, nI_1, nI_clamp (n := p + 1) (by omega), h7 (Or.inr (Or.inl z6)), lN_i, lN_add]
    show some (Sum.inl (a, nI p + nI 2 + nI v, lN (need + 1 + v) - 1)) = _
    rw [nI_add, nI_add, show need + 1 + v = need + v + 1 by omega, vr_m1]
    subst z6
    rw [show p + vr_w 6 v = p + 2 + v by show p + (2 + v) = _; omega]
    rfl
  rw [if_neg (fun z => z6 (e6.mp z))]
  by_cases z7 : k = 7
  · rw [if_pos (e7.mpr z7), show (1 : Int64) = lN 1 from rfl, lN_add]
    show some (Sum.inl (a, nI p + nI 2, lN (need + 1 + 1) - 1)) = _
    rw [nI_add, vr_m1]
    subst z7
    rfl
  rw [if_neg (fun z => z7 (e7.mp z))]
  by_cases z8 : k = 8
  · rw [if_pos (e8.mpr z8), if_pos x1, nI_1, nI_clamp (n := p + 1) (by omega), h7 (Or.inr (Or.inr z8)), lN_add]
    show some (Sum.inl (a, nI p + nI 2, lN (need + 1 + v) - 1)) = _
    rw [nI_add, show need + 1 + v = need + v + 1 by omega, vr_m1]
    subst z8
    rfl
  rw [if_neg (fun z => z8 (e8.mp z))]
  show some (Sum.inl (a, nI p + nI 2, lN (need + 1) - 1)) = _
  rw [nI_add, vr_m1]
  have w2 : vr_w k v = 2 := by unfold vr_w; rw [if_neg z4, if_neg z2, if_neg z6]
  have d0 : vr_d k v = 0 := by unfold vr_d; rw [if_neg z6, if_neg z7, if_neg z8]
  rw [w2, d0]
  rfl
theorem vr_wT {s : t_S} {a L : Nat} (ha : t_oka a 2 (t_ln a) = true) (hL : L ≤ t_ln a) (hl : t_ln a < 1000000) : vr_T (b_X13_weightOf_7 s) (fun p g need => (a, nI p, nI g, lN need)) (s.2.1 a) L := by
  intro p g need k v h1 h2 h3 h4 h6 h7
  have hw : 1 ≤ vr_w k v := by unfold vr_w; split <;> (try split) <;> (try split) <;> omega
  have hw2 : k ≠ 4 → 2 ≤ vr_w k v := by intro z; unfold vr_w; rw [if_neg z]; split <;> (try split) <;> omega
  show k_X13_weightOf_7 a (nI p) (nI g) (lN (need + 1)) s = some (.inl (a, nI (p + vr_w k v), nI (g + vr_c k v), lN (need + vr_d k v)))
  unfold k_X13_weightOf_7
  rw [if_neg (fun z => by have := (vr_stop (by omega)).mp z; omega), if_pos ha, if_pos (l2_ix (n := t_ln a) (by omega) (by omega)), nI_clamp (n := p) (by omega), h6, lN_i]
  have e4 := vr_ke h4 4 (by decide) 4 rfl
  have e2 := vr_ke h4 2 (by decide) 2 rfl
  have e6 := vr_ke h4 6 (by decide) 6 rfl
  have e7 := vr_ke h4 7 (by decide) 7 rfl
  have e8 := vr_ke h4 8 (by decide) 8 rfl
  unfold k_X13_weightOf_157
  by_cases z4 : k = 4
  · rw [if_pos (e4.mpr z4), nI_1, nI_1, vr_m1]
    subst z4; rfl
  have b2 := hw2 z4
  have x1 : t_ix (nI p + 1) (t_ln a) = true := by rw [nI_1]; exact l2_ix (by omega) (by omega)
  rw [if_neg (fun z => z4 (e4.mp z))]
  by_cases z2 : k = 2
  · rw [if_pos (e2.mpr z2), if_pos x1, nI_1, nI_clamp (n := p + 1) (by omega), h7 (Or.inl z2), vr_packs (by omega)]
    show some (Sum.inl (a, nI p + nI 2 + nI ((v + 7) / 8), nI g + 1 + nI ((v + 7) / 8), lN (need + 1) - 1)) = _
    rw [nI_add, nI_add, nI_1, nI_add, vr_m1]
    subst z2
    rw [show p + vr_w 2 v = p + 2 + (v + 7) / 8 by show p + (2 + (v + 7) / 8) = _; omega, show g + vr_c 2 v = g + 1 + (v + 7) / 8 by show g + (1 + (v + 7) / 8) = _; omega]
    rfl
  rw [if_neg (fun z => z2 (e2.mp z))]
  by_cases z6 : k = 6
  · rw [if_pos (e6.mpr z6), if_pos x1, nI_1, nI_clamp (n := p + 1) (by omega), h7 (Or.inr (Or.inl z6)), lN_i, lN_add]
    show some (Sum.inl (a, nI p + nI 2 + nI v, nI g + 1 + nI v, lN (need + 1 + v) - 1)) = _
    rw [nI_add, nI_add, nI_1, nI_add, show need + 1 + v = need + v + 1 by omega, vr_m1]
    subst z6
    rw [show p + vr_w 6 v = p + 2 + v by show p + (2 + v) = _; omega, show g + vr_c 6 v = g + 1 + v by show g + (1 + v) = _; omega]
    rfl
  rw [if_neg (fun z => z6 (e6.mp z))]
  by_cases z7 : k = 7
  · rw [if_pos (e7.mpr z7), show (1 : Int64) = lN 1 from rfl, lN_add]
    show some (Sum.inl (a, nI p + nI 2, nI g + 1, lN (need + 1 + 1) - 1)) = _
    rw [nI_add, nI_1, vr_m1]
    subst z7
    rfl
  rw [if_neg (fun z => z7 (e7.mp z))]
  by_cases z8 : k = 8
  · rw [if_pos (e8.mpr z8), if_pos x1, nI_1 p, nI_clamp (n := p + 1) (by omega), h7 (Or.inr (Or.inr z8)), lN_add]
    show some (Sum.inl (a, nI p + nI 2, nI g + 1, lN (need + 1 + v) - 1)) = _
    rw [nI_add, nI_1, show need + 1 + v = need + v + 1 by omega, vr_m1]
    subst z8
    rfl
  rw [if_neg (fun z => z8 (e8.mp z))]
  show some (Sum.inl (a, nI p + nI 2, nI g + 1, lN (need + 1) - 1)) = _
  rw [nI_add, nI_1, vr_m1]
  have w2 : vr_w k v = 2 := by unfold vr_w; rw [if_neg z4, if_neg z2, if_neg z6]
  have d0 : vr_d k v = 0 := by unfold vr_d; rw [if_neg z6, if_neg z7, if_neg z8]
  have c1 : vr_c k v = 1 := by unfold vr_c; rw [if_neg z2, if_neg z6]
  rw [w2, d0, c1]
  rfl
/-- the reference's end of a VALUE -/
theorem vr_endOf {wd : Int → Int → Prop} {c : Nat → Int64} {s : t_S} {a f i p n m : Nat} (ha : t_oka a 2 (t_ln a) = true) (hl : t_ln a < 1000000) (hf : f ≤ 800) (h : VR wd c (s.2.1 a) f i p n m) (hm : p + m ≤ t_ln a) : f_X13_endOf a (nI p) s = some (nI (p + m)) := by
  obtain ⟨u, u1, u2, u3⟩ := vr_go (vr_eT ha (Nat.le_refl _) hl) f i p n m h hm 0 0 (by omega)
  have q := h.pos
  unfold f_X13_endOf
  refine l2_tnR u3 (by omega) ?_
  show k_X13_endOf_4 a (nI (p + m)) (lN 0) s = _
  unfold k_X13_endOf_4
  rw [if_pos ((vr_stop (by decide)).mpr rfl)]
  rfl
/-- the reference's weight of a VALUE -/
theorem vr_weightOf {wd : Int → Int → Prop} {c : Nat → Int64} {s : t_S} {a f i p n m : Nat} (ha : t_oka a 2 (t_ln a) = true) (hl : t_ln a < 1000000) (hf : f ≤ 800) (h : VR wd c (s.2.1 a) f i p n m) (hm : p + m ≤ t_ln a) : f_X13_weightOf a (nI p) s = some (nI n) := by
  obtain ⟨u, u1, u2, u3⟩ := vr_go (vr_wT ha (Nat.le_refl _) hl) f i p n m h hm 0 0 (by omega)
  have q := h.pos
  unfold f_X13_weightOf
  refine l2_tnR u3 (by omega) ?_
  show k_X13_weightOf_7 a (nI (p + m)) (nI (0 + n)) (lN 0) s = _
  unfold k_X13_weightOf_7
  rw [if_pos ((vr_stop (by decide)).mpr rfl), Nat.zero_add]
  rfl
