/-! Level 2: the class holds a part against a templ: every templ. -/
section
variable {c r : t_S} {a i p E τ : Nat} {NS : Nat → Prop}
theorem TM.rest {f t n : Nat} (h : TM c r a i p E NS f t n) : (c.1 354 t = 2 ∧ c.1 359 t = 0 ∧ c.1 360 t = 0) ↔ isS r n := by
  cases f with
  | zero => exact (TM_0 h).elim
  | succ f =>
    obtain ⟨_, _, _, _, b, b1, b2, b3, h⟩ := TM_s.mp h
    unfold isS
    rw [b2, b3]
    rcases h with ⟨h59, h2, _⟩ | ⟨h59, h41, _⟩
    · rw [h59, h2]
      exact ⟨fun z => ⟨z.1, z.2.2⟩, fun z => ⟨z.1, rfl, z.2⟩⟩
    · rw [h41]
      exact ⟨fun z => absurd z.2.1 h59, fun z => absurd z.1 (by decide)⟩
theorem ct_all {R R2 : Nat → Nat → Prop} {t n G dp : Nat} (C : CC c r a i p E τ) (h : TMt c r a i p E R R2 t n) (ht : t < 6100) (hdp : dp ≤ 100) (pb : p + 260 ≤ 626600) (pr : ∀ x, x ≤ E → wq (r.2.1 1006) p x < p + 250) (pd : ∀ x, x < E → PD (c.2.1 a) (r.2.1 1006) i p E x) (hR : ∀ t' n', R t' n' → (n' < 13000 ∧ r.1 955 n' ≠ 39 ∧ c.1 354 t' ≠ 18 ∧ ((c.1 354 t' = 2 ∧ c.1 359 t' = 0 ∧ c.1 360 t' = 0) ↔ isS r n')) ∧ ∀ g, G + 2 ≤ g → CQ c r a i p E τ g t' n' (dp + 1)) (hR2 : ∀ t' n', R2 t' n' → ∀ g, G ≤ g → CQ c r a i p E τ g t' n' (dp + 1)) {g : Nat} (hg : G + 3 ≤ g) : CT c r a i p E τ g t dp (fun o => Mt r p E (Mn r p E) n o) := by
  obtain ⟨g, rfl⟩ : ∃ y, g = y + 3 := ⟨g - 3, by omega⟩
  rcases h with ⟨S, hC, hS, k28, k⟩ | ⟨k, k7, u, t', n', u1, u2, u3, u4, u5, u6⟩ | ⟨k, k9, X, t', n', x0, x1, x2, x3, x4, x5⟩ | ⟨k, k8, v, T, X, v16, hT, hc, hj⟩ | ⟨K, C', k0, k1, k2, k3, v, T, v12, hT, hc, hj⟩
  · exact ct_leaf C hC hS k28 k
  · obtain ⟨⟨h1, _⟩, h2⟩ := hR _ _ u6
    exact ct_link (g := g + 2) C ht k k7 u1 u2 u3 u4 u5 h1 (h2 _ (by omega))
  · obtain ⟨⟨h1, _⟩, h2⟩ := hR _ _ x5
    exact ct_tag C pd ht k k9 x0 x1 x2 x3 x4 h1 (h2 _ (by omega))
  · obtain ⟨W, hW⟩ := l2_ch (P := fun j (w : Nat × Nat) => c.1 355 (T j) = nI w.1 ∧ r.1 959 (gn r n j) = nI w.2 ∧ R w.1 w.2) (v := v) (fun j jv => by
      obtain ⟨_, _, _, _, t', n', b⟩ := hj j jv
      exact ⟨(t', n'), b⟩)
    refine ct_rec (g := g + 2) (X := X) (T := T) (nn := fun j => (W j).2) (tt := fun j => (W j).1) C pb pr pd ht k k8 v16 hT hc (fun j jv => ?_) (fun j jv => (hR _ _ (hW j jv).2.2).2 _ (by omega))
    obtain ⟨b0, b1, b2, b3, _⟩ := hj j jv
    obtain ⟨w1, w2, w3⟩ := hW j jv
    exact ⟨⟨b0, b2, w1⟩, b1, b3, w2, (hR _ _ w3).1.1⟩
  · have f1 : K ≠ 31 → ∀ j, j < v → T j < 6100 ∧ CQ c r a i p E τ (g + 2) (T j) (gn r n j) (dp + 1) := fun hk j jv => by
      obtain ⟨b0, b⟩ := hj j jv
      rcases b with b | ⟨b, _⟩
      · exact ⟨b0, (hR _ _ b).2 _ (by omega)⟩
      · exact absurd b hk
    have k0' := k0
    unfold px_row at k0'
    by_cases c31 : K = 31
    · obtain rfl : C' = 10 := by omega
      subst c31
      refine ct_row C pb pr pd ht hdp k2 k3 v12 hT hc (fun u hu => ?_)
      obtain ⟨b0, b⟩ := hj u hu
      rcases b with b | ⟨_, b2, b3, b4, b5, b6, v', T', v0, v12', b7, b8, b9⟩
      · obtain ⟨⟨r1, r2, r3, r4⟩, r5⟩ := hR _ _ b
        exact ⟨b0, r1, Or.inl ⟨r3, r2, r4, r5 _ (by omega)⟩⟩
      · exact ⟨b0, (hc.2 u hu).1, Or.inr ⟨b2, b5, v', T', v12', b7, b8, fun y hy => ⟨(b9 y hy).1, hR2 _ _ (b9 y hy).2 _ (by omega)⟩⟩⟩
    · have f1 := f1 c31
      by_cases c3 : K = 36 ∨ K = 37
      · exact ct_sets (g := g + 2) (K := K) (C' := C') C pb pr pd ht hdp (by omega) k2 k3 v12 hT hc f1
      · exact ct_some (g := g + 2) (K := K) (C' := C') C ht (by omega) k2 k3 v12 hT hc f1
theorem cm_go (C : CC c r a i p E τ) (pb : p + 260 ≤ 626600) (pr : ∀ x, x ≤ E → wq (r.2.1 1006) p x < p + 250) (pd : ∀ x, x < E → PD (c.2.1 a) (r.2.1 1006) i p E x) : ∀ f t n, TM c r a i p E NS f t n → f ≤ 400 → ∀ g dp, 2 * f + 2 ≤ g → dp + f ≤ 101 → CQ c r a i p E τ g t n dp := by
  intro f
  induction f using Nat.strongRecOn with
  | ind f ih =>
    intro t n h hf g dp hg hd
    cases f with
    | zero => exact (TM_0 h).elim
    | succ f =>
      obtain ⟨g, rfl⟩ : ∃ y, g = y + 1 := ⟨g - 1, by omega⟩
      have hR : ∀ t' n', TM c r a i p E NS f t' n' → (n' < 13000 ∧ r.1 955 n' ≠ 39 ∧ c.1 354 t' ≠ 18 ∧ ((c.1 354 t' = 2 ∧ c.1 359 t' = 0 ∧ c.1 360 t' = 0) ↔ isS r n')) ∧ ∀ g, 2 * f + 2 ≤ g → CQ c r a i p E τ g t' n' (dp + 1) := fun t' n' y => ⟨⟨y.at.2.2.1, y.at.2.2.2.2, y.at.2.2.2.1, y.rest⟩, fun g hg => ih f (by omega) t' n' y (by omega) g (dp + 1) hg (by omega)⟩
      have hR2 : ∀ t' n', TM c r a i p E NS (f - 1) t' n' → ∀ g, 2 * f ≤ g → CQ c r a i p E τ g t' n' (dp + 1) := fun t' n' y g hg => by
        cases f with
        | zero => exact (TM_0 y).elim
        | succ f => exact ih f (by omega) t' n' y (by omega) g (dp + 1) (by omega) (by omega)
      obtain ⟨_, ht, hn, _, b, b1, h60, h61, h⟩ := TM_s.mp h
      have one : ∀ b : Nat, b ≤ 1 → (nI b = (1 : Int32) ↔ b = 1) := fun b hb => nI_eq (b := 1) (by omega) (by decide)
      rcases h with ⟨h59, _, h⟩ | ⟨_, k41, n0, lo, hi, x1, l1, l2, x3, x4, h59, _, x2, h610, h⟩
      · have T := ct_all (G := 2 * f) C h ht (by omega) pb pr pd hR hR2 (g := g) (by omega)
        refine cq_plain C ht b1 h60 h59 (fun o => ?_) (by omega) T
        rw [Mn_un h (by omega) o, h61, one b b1]
      · have T := ct_all (G := 2 * f) C h ht (by omega) pb pr pd hR hR2 (g := g) (by omega)
        refine cq_len (n0 := 0) C pd ht b1 l1 l2 h60 h59 (fun o => ?_) (by omega) T
        rw [Mn_41 h (by omega) k41 x1 x2 o, h61, one b b1]
        refine or_congr Iff.rfl ?_
        have u0 := Mn_un h (by omega) o
        rw [h610] at u0
        have u1 : Mn r p E n0 o ↔ Mt r p E (Mn r p E) n0 o := u0.trans ⟨fun z => z.resolve_left (fun w => absurd w.2 (by decide)), Or.inr⟩
        rw [← u1]
        unfold Mt
        rw [if_pos k41, gn_0 x1 x2, x3, x4, pk_lT (by omega), pk_lT (by omega)]
end
