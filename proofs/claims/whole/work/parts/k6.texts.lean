/-! Level 2: templs without parts: TEXTS. -/
section
variable {c r s : t_S} {a i p E τ : Nat} {n t : Nat}
/-- the signs of a TEXT in the class's pool -/
def pT (c r : t_S) (pl n v s0 : Nat) (B : Nat → Nat) : Prop := v ≤ 40 ∧ r.2.1 957 n = lN s0 ∧ r.2.1 958 n = lN v ∧ s0 + v ≤ 24300 ∧ pl + 1 + (v + 7) / 8 ≤ 26000 ∧ (∀ j, j < v → 32 ≤ B j ∧ B j ≤ 126 ∧ r.1 963 (s0 + j) = nI (B j)) ∧ vl_c v (1 + (v + 7) / 8) 2 (c.2.1 337 pl) ∧ ∀ q, q < (v + 7) / 8 → ∃ S : Nat → Nat, (∀ e, e < 8 → S e = if 8 * q + e < v then B (8 * q + e) else 0) ∧ (c.2.1 337 (pl + 1 + q)).toInt / 16 = S 0 + 128 * (S 1 + 128 * (S 2 + 128 * (S 3 + 128 * (S 4 + 128 * (S 5 + 128 * (S 6 + 128 * (S 7 : Int))))))) ∧ (c.2.1 337 (pl + 1 + q)).toInt % 16 = 10
theorem px_T.pT {p1 s1 pl : Nat} (h : px_T c r p1 s1 pl n) (h1 : p1 ≤ 26000) (h2 : s1 ≤ 24300) : ∃ v s0 B, pT c r pl n v s0 B := by
  obtain ⟨v, s0, B, a1, a2, a3, a4, a5, a6, a7, a8⟩ := h
  exact ⟨v, s0, B, a1, a2, a3, by omega, by omega, a6, a7, a8⟩
theorem pT.sign {pl v s0 : Nat} {B : Nat → Nat} (h : pT c r pl n v s0 B) (hs : ∀ j, s.2.1 337 j = c.2.1 337 j) {k : Nat} (hk : k < v) : f_X8_sign 337 (nI pl) (nI k) s = some (nI (B k)) := by
  obtain ⟨v40, _, _, _, hp, hB, _, hq⟩ := h
  have ex : ∀ q, ∃ y : Int64, q < (v + 7) / 8 → vr_X v q B (c.2.1 337 (pl + 1 + q)) y := fun q => by
    by_cases cq : q < (v + 7) / 8
    · obtain ⟨S, s1, s2, s3⟩ := hq q cq
      have sb := vr_Sb (fun j hj => ⟨(hB j hj).1, (hB j hj).2.1⟩) s1
      have b := fun e he => sb e he
      have b0 := sb 0 (by decide); have b1 := sb 1 (by decide); have b2 := sb 2 (by decide); have b3 := sb 3 (by decide)
      have b4 := sb 4 (by decide); have b5 := sb 5 (by decide); have b6 := sb 6 (by decide); have b7 := sb 7 (by decide)
      refine ⟨lN (S 0 + 256 * (S 1 + 256 * (S 2 + 256 * (S 3 + 256 * (S 4 + 256 * (S 5 + 256 * (S 6 + 256 * S 7))))))), fun _ => ⟨S, s1, s2, s3, ?_⟩⟩
      rw [pk_lT (by omega)]
      omega
    · exact ⟨0, fun z => absurd z cq⟩
  have := sg_both (c := s) (r := (r.1, (fun _ j => Classical.choose (ex (j - 2))), r.2.2)) (arr := 337) (a := pl) (T := 0) (v := v) (i := k) (B := B) (by decide +kernel) (by decide +kernel) (fun j hj => ⟨(hB j hj).1, (hB j hj).2.1⟩) (fun q hq' => by
    have := Classical.choose_spec (ex q) hq'
    show vr_X v q B (s.2.1 337 (pl + 1 + q)) (Classical.choose (ex (0 + 2 + q - 2)))
    rw [hs, show 0 + 2 + q - 2 = q by omega]
    exact this) hk v40 (by show pl + 1 + k / 8 < 26000; omega) (by omega)
  exact this.1
/-- a part that is a TEXT -/
theorem pd_text {x : Nat} (C : CC c r a i p E τ) (pr : ∀ x, x ≤ E → wq (r.2.1 1006) p x < p + 250) (pd : ∀ x, x < E → PD (c.2.1 a) (r.2.1 1006) i p E x) (hx : x < E) (h2 : r.2.1 1006 (wq (r.2.1 1006) p x) = lN 2) : ∃ (v : Nat) (B : Nat → Nat), v ≤ 40 ∧ vl_c v (1 + (v + 7) / 8) 2 (c.2.1 a (wv (c.2.1 a) i x)) ∧ r.2.1 1006 (wq (r.2.1 1006) p x + 1) = lN v ∧ (∀ j, j < v → 32 ≤ B j ∧ B j ≤ 126) ∧ (∀ q, q < (v + 7) / 8 → vr_X v q B (c.2.1 a (wv (c.2.1 a) i x + 1 + q)) (r.2.1 1006 (wq (r.2.1 1006) p x + 2 + q))) ∧ wv (c.2.1 a) i x + 1 + (v + 7) / 8 ≤ t_ln a ∧ wq (r.2.1 1006) p x + 2 + (v + 7) / 8 < p + 250 := by
  obtain ⟨f, n0, m0, t, k, ⟨_, V⟩, hc, ⟨hr, z, z1, z2, z3, zu⟩, _⟩ := pd x hx
  have zl := C.we z z2
  have zr := pr z z2
  cases f with
  | zero => exact V.elim
  | succ f =>
    obtain ⟨_, t2, k2, g1, g2, g3⟩ := V
    rw [h2] at g2
    rcases g3 with ⟨y, y2, y3, y4⟩ | ⟨y, _⟩ | ⟨y, _⟩ | ⟨v, y, y1, y2, y3, y4, y5, B, y6, y7⟩ | ⟨y, _⟩ | ⟨v, I, P, y, _⟩ | ⟨v, I, P, X, y, _⟩
    · have := lN_inj (by decide) (by omega) g2; omega
    · rw [y] at g2; exact absurd (lN_inj (by decide) (by decide) g2) (by decide)
    · rw [y] at g2; exact absurd (lN_inj (by decide) (by decide) g2) (by decide)
    · rw [y1, y3, y] at g1
      exact ⟨v, B, y2, g1, y5, y6, y7, by omega, by omega⟩
    · rw [y] at g2; exact absurd (lN_inj (by decide) (by decide) g2) (by decide)
    · rw [y] at g2; exact absurd (lN_inj (by decide) (by decide) g2) (by decide)
    · rw [y] at g2; exact absurd (lN_inj (by decide) (by decide) g2) (by decide)
/-- what a TEXT as a templ means -/
def sT (r : t_S) (v : Nat) (B : Nat → Nat) (o : Option Nat) : Prop := ∃ q, o = some q ∧ r.2.1 1006 q = lN 2 ∧ r.2.1 1006 (q + 1) = lN v ∧ ∀ k, k < v → f_X13_signOf (nI q) (nI k) r = some (nI (B k))
theorem lfr_text {pl v s0 : Nat} {B : Nat → Nat} (C : CC c r a i p E τ) (pb : p + 260 ≤ 626600) (pr : ∀ x, x ≤ E → wq (r.2.1 1006) p x < p + 250) (pd : ∀ x, x < E → PD (c.2.1 a) (r.2.1 1006) i p E x) (hn : n < 13000) (hk : r.1 955 n = nI 26) (hT : pT c r pl n v s0 B) : LfR r p E n (sT r v B) := by
  refine lfr_of hn hk (fun rc s fr f55 f6 => ⟨fun x hx _ => ?_, ?_⟩)
  · have b0 := pr x (by omega)
    obtain ⟨t0, m0, K0, z1, z2, z3, _⟩ := pd_val C pb pr pd hx
    obtain ⟨v40, h57, h58, hs0, _, hB, _⟩ := hT
    obtain ⟨q, hq⟩ : ∃ q, q = wq (r.2.1 1006) p x := ⟨_, rfl⟩
    have f57 : s.2.1 957 n = lN s0 := ((rm_fr fr (by omega)).2).trans h57
    have f58 : s.2.1 958 n = lN v := ((rm_fr fr (by omega)).2).trans h58
    have f63 : ∀ j, j < v → s.1 963 (s0 + j) = nI (B j) := fun j hj => ((rm_fr fr (by omega)).1).trans (hB j hj).2.2
    -- the loop
    have stop : ∀ (k0 k : Nat), t_loop (b_X13_isTextOf_40 s) (k0 + 1) (nI n, nI q, 0, nI k) = some 0 := fun k0 k => by
      refine l2_lpR ?_
      show k_X13_isTextOf_40 _ _ _ _ s = _
      unfold k_X13_isTextOf_40
      rw [if_pos rfl, if_pos (Or.inl rfl)]
      rfl
    have it : f_X13_isTextOf (nI n) (nI q) s = some (bZ (sT r v B (some q))) := by
      unfold f_X13_isTextOf k_X13_isTextOf_35 k_X13_isTextOf_36
      have no : ¬ sT r v B (some q) → t_loop (b_X13_isTextOf_40 s) t_N (nI n, nI q, 0, 0) = some (bZ (sT r v B (some q))) := fun z => by
        rw [bZ_f z, show t_N = t_N - 1 + 1 by have := l2_N; omega]
        exact stop (t_N - 1) 0
      have two : lg_cmp (r.2.1 1006 q) (2 : Int64) = 0 ↔ r.2.1 1006 q = lN 2 := l2_cmp0
      rw [if_pos (l2_ix (by omega) (by decide)), nI_clamp (n := q) (by omega), f6]
      by_cases c2 : r.2.1 1006 q = lN 2
      · rw [if_pos (two.mpr c2), nI_1, if_pos (l2_ix (by omega) (by decide)), if_pos (l2_ix hn (by decide)), nI_clamp (n := q + 1) (by omega), nI_clamp (n := n) (by omega), f6, f58]
        by_cases cv : r.2.1 1006 (q + 1) = lN v
        · rw [if_pos (l2_cmp0.mpr cv)]
          obtain ⟨v', B', e1, e2, e3, e4, e5, e6, e7⟩ := pd_text C pr pd hx (by rw [← hq]; exact c2)
          rw [← hq] at e3 e5 e7
          have vv : v' = v := by rw [cv] at e3; exact (lN_inj (by omega) (by omega) e3).symm
          subst vv
          have sg : ∀ s' : t_S, (∀ j, s'.2.1 1006 j = r.2.1 1006 j) → ∀ k, k < v' → f_X13_signOf (nI q) (nI k) s' = some (nI (B' k)) := fun s' hs k hk => (sg_both (c := c) (r := s') (arr := a) (a := wv (c.2.1 a) i x) (T := q) (v := v') (B := B') C.ok C.ln e4 (fun q' hq' => by rw [hs]; exact e5 q' hq') hk e1 (by omega) (by omega)).2
          have eq : (∀ k, k < v' → B' k = B k) ↔ sT r v' B (some q) := by
            constructor
            · exact fun h => ⟨q, rfl, c2, cv, fun k hk => by rw [sg r (fun _ => rfl) k hk, h k hk]⟩
            · intro ⟨q', y1, _, _, y2⟩ k hk
              injection y1 with y1
              subst y1
              have := y2 k hk
              rw [sg r (fun _ => rfl) k hk] at this
              injection this with this
              exact (nI_eq (by have := (e4 k hk).2; omega) (by have := (hB k hk).2.1; omega)).mp this
          have lp : ∀ (d k N : Nat), k + d = v' → d + 1 < N → (∀ j, j < k → B' j = B j) → t_loop (b_X13_isTextOf_40 s) N (nI n, nI q, 1, nI k) = some (bZ (∀ k, k < v' → B' k = B k)) := by
            intro d
            induction d with
            | zero =>
              intro k N hk hN ha
              obtain ⟨N, rfl⟩ : ∃ y, N = y + 1 := ⟨N - 1, by omega⟩
              refine l2_lpR ?_
              show k_X13_isTextOf_40 _ _ _ _ s = _
              unfold k_X13_isTextOf_40
              rw [if_neg (show ¬ (1 : Int32) = 0 by decide), if_pos (l2_ix hn (by decide)), nI_clamp (n := n) (by omega), f58, lN_w, if_pos (nI_le (show v' ≤ k by omega) (by omega)), if_pos (Or.inr rfl), bZ_t (fun j hj => ha j (by omega))]
              rfl
            | succ d ih =>
              intro k N hk hN ha
              obtain ⟨N, rfl⟩ : ∃ y, N = y + 1 := ⟨N - 1, by omega⟩
              have st : b_X13_isTextOf_40 s (nI n, nI q, 1, nI k) = (if B' k = B k then some (.inl (nI n, nI q, 1, nI (k + 1))) else some (.inl (nI n, nI q, 0, nI (k + 1)))) := by
                show k_X13_isTextOf_40 _ _ _ _ s = _
                unfold k_X13_isTextOf_40 k_X13_isTextOf_86
                rw [if_neg (show ¬ (1 : Int32) = 0 by decide), if_pos (l2_ix hn (by decide)), nI_clamp (n := n) (by omega), f58, lN_w, if_neg (nI_ge (show k < v' by omega) (by omega)), sg s f6 k (by omega), l2_bs, f57, lN_w, nI_add, if_pos (l2_ix (by omega) (by decide)), nI_clamp (n := s0 + k) (by omega), f63 k (by omega), nI_1]
                have ne : nI (B' k) = nI (B k) ↔ B' k = B k := nI_eq (by have := (e4 k (by omega)).2; omega) (by have := (hB k (by omega)).2.1; omega)
                by_cases e : B' k = B k
                · rw [if_pos (ne.mpr e), if_pos e]
                · rw [if_neg (fun z => e (ne.mp z)), if_neg e]
              by_cases e : B' k = B k
              · rw [if_pos e] at st
                rw [l2_lpS st]
                refine ih (k + 1) N (by omega) (by omega) (fun j hj => ?_)
                by_cases cj : j = k
                · rw [cj]; exact e
                · exact ha j (by omega)
              · rw [if_neg e] at st
                obtain ⟨N, rfl⟩ : ∃ y, N = y + 1 := ⟨N - 1, by omega⟩
                rw [l2_lpS st, bZ_f (fun z => e (z k (by omega)))]
                exact stop N (k + 1)
          rw [← bZ_i eq]
          exact lp v' 0 t_N (by omega) (by have := l2_N; omega) (fun j hj => by omega)
        · rw [if_neg (fun z => cv (l2_cmp0.mp z))]
          exact no (fun ⟨q', y1, _, y2, _⟩ => by injection y1 with y1; rw [← y1] at y2; exact cv y2)
      · rw [if_neg (fun z => c2 (two.mp z))]
        exact no (fun ⟨q', y1, y2, _⟩ => by injection y1 with y1; rw [← y1] at y2; exact c2 y2)
    rw [← hq] at b0 ⊢
    unfold m_X13_toneMatch
    rw [if_pos (l2_ix (by omega) (by decide)), if_pos (l2_ix hn (by decide)), nI_clamp (n := n) (by omega), f55, if_neg (by decide), if_neg (by decide), if_neg (by decide), if_neg (by decide), if_neg (by decide), if_neg (by decide), if_neg (by decide), if_pos (by decide), it, l2_bs, if_pos bZ_01]
  · unfold m_X13_omitMatch
    rw [if_pos (l2_ix hn (by decide)), nI_clamp (n := n) (by omega), f55, if_neg (by decide), if_neg (by decide), if_neg (by decide), if_neg (by decide), if_neg (by decide), if_neg (by decide), if_pos (by decide), bZ_f (show ¬ sT r v B none from fun ⟨q, z, _⟩ => no_ns z)]
theorem lfc_text {pl v s0 : Nat} {B : Nat → Nat} (C : CC c r a i p E τ) (pb : p + 260 ≤ 626600) (pr : ∀ x, x ≤ E → wq (r.2.1 1006) p x < p + 250) (pd : ∀ x, x < E → PD (c.2.1 a) (r.2.1 1006) i p E x) (ht : t < 6100) (h54 : c.1 354 t = nI 4) (h57 : c.1 357 t = nI pl) (hT : pT c r pl n v s0 B) : LfC c r a i p E t (sT r v B) := by
  refine lfc_of h54 (fun rc s dp fr f54 => ⟨fun x hx _ => ?_, ?_⟩)
  · obtain ⟨w1, w2⟩ := C.wb x hx
    have b0 := pr x (by omega)
    have ln := C.ln
    obtain ⟨fa1, fa2, _, fa4⟩ := C.fa fr
    obtain ⟨t0, m0, K0, z1, z2, z3, _, z5, z6, z7⟩ := pd_val C pb pr pd hx
    have hT' := hT
    obtain ⟨v40, _, _, _, hp, hB, hw, hq⟩ := hT
    have ix : nI i + nI (wv (c.2.1 a) i x - i) = nI (wv (c.2.1 a) i x) := by rw [nI_add, show i + (wv (c.2.1 a) i x - i) = wv (c.2.1 a) i x by omega]
    have f57 : s.1 357 t = nI pl := ((cm_fr fr (by omega)).1).trans h57
    have f37 : ∀ j, s.2.1 337 j = c.2.1 337 j := fun j => (cm_fr fr (by omega)).2.1
    have sm := vl_rows2 (s := s) (a := a) (b := 337) (i := wv (c.2.1 a) i x) (j := pl) C.ok (by decide +kernel) C.ln (by decide +kernel) z7 (show pl < 26000 by omega) (fun e => by
      rw [fa4, f37] at e
      have z1' := z1
      rw [e] at z1'
      have := (vl_un z1' hw).2.1
      show pl + m0 ≤ 26000
      omega) z6 (by rw [fa4]; exact z1)
    have eq : (∀ d, d < m0 → s.2.1 a (wv (c.2.1 a) i x + d) = s.2.1 337 (pl + d)) ↔ sT r v B (some (wq (r.2.1 1006) p x)) := by
      constructor
      · intro h
        have e0 := h 0 z6
        rw [Nat.add_zero, Nat.add_zero, fa4, f37] at e0
        have z1' := z1
        rw [e0] at z1'
        obtain ⟨u1, u2, u3⟩ := vl_un z1' hw
        have k2 : r.2.1 1006 (wq (r.2.1 1006) p x) = lN 2 := by rw [z3, u3]
        obtain ⟨v', B', e1, e2, e3, e4, e5, e6, e7⟩ := pd_text C pr pd hx k2
        have vv : v' = v := by
          have := (vl_un z1 e2).1
          omega
        subst vv
        have sg : ∀ k, k < v' → f_X8_sign a (nI (wv (c.2.1 a) i x)) (nI k) s = some (nI (B' k)) ∧ f_X13_signOf (nI (wq (r.2.1 1006) p x)) (nI k) r = some (nI (B' k)) := fun k hk => sg_both (c := s) (r := r) (arr := a) (T := wq (r.2.1 1006) p x) (v := v') (B := B') C.ok C.ln e4 (fun q' hq' => by rw [fa4]; exact e5 q' hq') hk e1 (by omega) (by omega)
        have bb : ∀ k, k < v' → B' k = B k := fun k hk => by
          have s1 := (sg k hk).1
          have s2 := hT'.sign f37 hk
          have d8 : nI k / (8 : Int32) = nI (k / 8) := pk_div (a := k) (d := 8) (by omega) (by decide) (by decide)
          unfold f_X8_sign at s1 s2
          rw [if_pos C.ok, d8, nI_1, nI_add, if_pos (l2_ix (by omega) (by omega)), nI_clamp (n := wv (c.2.1 a) i x + 1 + k / 8) (by omega)] at s1
          rw [if_pos (by decide +kernel), d8, nI_1, nI_add, if_pos (l2_ix (show pl + 1 + k / 8 < t_ln 337 from (show pl + 1 + k / 8 < 26000 by omega)) (by decide +kernel)), nI_clamp (n := pl + 1 + k / 8) (by omega)] at s2
          have hd := h (1 + k / 8) (by omega)
          rw [show wv (c.2.1 a) i x + (1 + k / 8) = wv (c.2.1 a) i x + 1 + k / 8 by omega, show pl + (1 + k / 8) = pl + 1 + k / 8 by omega] at hd
          rw [hd, s2] at s1
          injection s1 with s1
          exact ((nI_eq (by have := (hB k hk).2.1; omega) (by have := (e4 k hk).2; omega)).mp s1).symm
        exact ⟨_, rfl, k2, e3, fun k hk => by rw [(sg k hk).2, bb k hk]⟩
      · intro ⟨q, y1, y2, y3, y4⟩
        injection y1 with y1
        rw [← y1] at y2 y3 y4
        obtain ⟨v', B', e1, e2, e3, e4, e5, e6, e7⟩ := pd_text C pr pd hx y2
        have vv : v' = v := by rw [y3] at e3; exact (lN_inj (by omega) (by omega) e3).symm
        subst vv
        have bb : ∀ k, k < v' → B' k = B k := fun k hk => by
          have s1 := (sg_both (c := c) (r := r) (arr := a) (T := wq (r.2.1 1006) p x) (v := v') (B := B') C.ok C.ln e4 e5 hk e1 (by omega) (by omega)).2
          rw [y4 k hk] at s1
          injection s1 with s1
          exact ((nI_eq (by have := (hB k hk).2.1; omega) (by have := (e4 k hk).2; omega)).mp s1).symm
        have mm := (vl_un z1 e2).2.1
        intro d hd
        rw [fa4, f37]
        by_cases d0 : d = 0
        · subst d0
          exact vl_eq e2 hw
        · obtain ⟨d', rfl⟩ : ∃ d', d = 1 + d' := ⟨d - 1, by omega⟩
          obtain ⟨S, s1, s2, s3⟩ := hq d' (by omega)
          obtain ⟨S', t1, t2, t3, _⟩ := e5 d' (by omega)
          have ss : ∀ e, e < 8 → S' e = S e := fun e he => by
            rw [s1 e he, t1 e he]
            by_cases ce : 8 * d' + e < v'
            · rw [if_pos ce, if_pos ce, bb _ ce]
            · rw [if_neg ce, if_neg ce]
          rw [ss 0 (by decide), ss 1 (by decide), ss 2 (by decide), ss 3 (by decide), ss 4 (by decide), ss 5 (by decide), ss 6 (by decide), ss 7 (by decide)] at t2
          rw [show wv (c.2.1 a) i x + (1 + d') = wv (c.2.1 a) i x + 1 + d' by omega, show pl + (1 + d') = pl + 1 + d' by omega]
          apply Int64.toInt_inj.mp
          rw [← s2] at t2
          omega
    unfold k_X10_matches_61
    rw [if_pos (l2_ix ht (by decide)), nI_clamp (n := t) (by omega), f54, if_neg (by decide), if_neg (by decide), if_neg (by decide), if_neg (by decide), if_pos (by decide), if_neg (nI_pos (by omega)), fa1, fa2, ix, f57, sm, l2_bs]
    by_cases cc : ∀ d, d < m0 → s.2.1 a (wv (c.2.1 a) i x + d) = s.2.1 337 (pl + d)
    · rw [if_pos cc, if_neg (show ¬ (1 : Int32) = 0 by decide), bZ_t (eq.mp cc)]
    · rw [if_neg cc, if_pos rfl, bZ_f (fun z => cc (eq.mpr z))]
  · unfold k_X10_matches_61
    rw [if_pos (l2_ix ht (by decide)), nI_clamp (n := t) (by omega), f54, if_neg (by decide), if_neg (by decide), if_neg (by decide), if_neg (by decide), if_pos (by decide), if_pos (by decide), bZ_f (show ¬ sT r v B none from fun ⟨q, z, _⟩ => no_ns z)]
end
