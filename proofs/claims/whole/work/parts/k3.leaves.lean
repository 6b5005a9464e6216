/-! Level 2: templs without parts: ? * omit, ranges, truths, words. -/
section
variable {c r s : t_S} {a i p E τ : Nat} {n t : Nat}
/-- the reference's leaf, by what it says -/
theorem lfr_of {K : Nat} {S : Option Nat → Prop} (hn : n < 13000) (hk : r.1 955 n = nI K) (H : ∀ (rc : RT_X13_assign) (s : t_S), l2_fr rmW r s → s.1 955 n = nI K → (∀ j, s.2.1 1006 j = r.2.1 1006 j) → (∀ x, x < E → r.2.1 1006 (wq (r.2.1 1006) p x) ≠ lN 4 → m_X13_toneMatch rc (nI n) (nI (wq (r.2.1 1006) p x)) s = some (bZ (S (some (wq (r.2.1 1006) p x))), s)) ∧ m_X13_omitMatch rc (nI n) s = some (bZ (S none), s)) : LfR r p E n S := fun rc s fr => H rc s fr (((rm_fr fr (by omega)).1).trans hk) (fun j => (rm_fr fr (by omega)).2)
theorem lfc_of {K : Nat} {S : Option Nat → Prop} (hk : c.1 354 t = nI K) (H : ∀ (rc : RT_X10_behindPerm) (s : t_S) (dp : Int32), l2_fr cmW c s → s.1 354 t = nI K → (∀ x, x < E → r.2.1 1006 (wq (r.2.1 1006) p x) ≠ lN 4 → k_X10_matches_61 rc (nI t) (nI (wv (c.2.1 a) i x - i)) dp s = some (bZ (S (some (wq (r.2.1 1006) p x))), s)) ∧ k_X10_matches_61 rc (nI t) (-1) dp s = some (bZ (S none), s)) : LfC c r a i p E t S := fun rc s dp fr => H rc s dp fr (((cm_fr fr (by omega)).1).trans hk)
theorem lf_any (C : CC c r a i p E τ) (pb : p + 260 ≤ 626600) (pr : ∀ x, x ≤ E → wq (r.2.1 1006) p x < p + 250) (hn : n < 13000) (ht : t < 6100) (hk : r.1 955 n = nI 20) (h54 : c.1 354 t = nI 1) : LfC c r a i p E t (fun o => o ≠ none) ∧ LfR r p E n (fun o => o ≠ none) := by
  refine ⟨lfc_of h54 (fun rc s dp fr f54 => ⟨fun x hx _ => ?_, ?_⟩), lfr_of hn hk (fun rc s fr f55 f6 => ⟨fun x hx _ => ?_, ?_⟩)⟩
  · have := C.wb x hx
    unfold k_X10_matches_61
    rw [if_pos (l2_ix ht (by decide)), nI_clamp (n := t) (by omega), f54, if_neg (by decide), if_pos (by decide), if_neg (nI_pos (by omega)), bZ_t (fun y => no_sn y)]
  · unfold k_X10_matches_61
    rw [if_pos (l2_ix ht (by decide)), nI_clamp (n := t) (by omega), f54, if_neg (by decide), if_pos (by decide), if_pos (by decide), bZ_f (fun y => y rfl)]
  · have := pr x (by omega)
    unfold m_X13_toneMatch
    rw [if_pos (l2_ix (by omega) (by decide)), if_pos (l2_ix hn (by decide)), nI_clamp (n := n) (by omega), f55, if_neg (by decide), if_pos (by decide), bZ_t (fun y => no_sn y)]
  · unfold m_X13_omitMatch
    rw [if_pos (l2_ix hn (by decide)), nI_clamp (n := n) (by omega), f55, if_pos (by decide), bZ_f (fun y => y rfl)]
theorem lf_all (C : CC c r a i p E τ) (pb : p + 260 ≤ 626600) (pr : ∀ x, x ≤ E → wq (r.2.1 1006) p x < p + 250) (hn : n < 13000) (ht : t < 6100) (hk : r.1 955 n = nI 21) (h54 : c.1 354 t = nI 2) : LfC c r a i p E t (fun _ => True) ∧ LfR r p E n (fun _ => True) := by
  refine ⟨lfc_of h54 (fun rc s dp fr f54 => ⟨fun x hx _ => ?_, ?_⟩), lfr_of hn hk (fun rc s fr f55 f6 => ⟨fun x hx _ => ?_, ?_⟩)⟩
  · unfold k_X10_matches_61
    rw [if_pos (l2_ix ht (by decide)), nI_clamp (n := t) (by omega), f54, if_neg (by decide), if_neg (by decide), if_pos (by decide), bZ_t True.intro]
  · unfold k_X10_matches_61
    rw [if_pos (l2_ix ht (by decide)), nI_clamp (n := t) (by omega), f54, if_neg (by decide), if_neg (by decide), if_pos (by decide), bZ_t True.intro]
  · have := pr x (by omega)
    unfold m_X13_toneMatch
    rw [if_pos (l2_ix (by omega) (by decide)), if_pos (l2_ix hn (by decide)), nI_clamp (n := n) (by omega), f55, if_neg (by decide), if_neg (by decide), if_pos (by decide), bZ_t True.intro]
  · unfold m_X13_omitMatch
    rw [if_pos (l2_ix hn (by decide)), nI_clamp (n := n) (by omega), f55, if_neg (by decide), if_pos (by decide), bZ_t True.intro]
theorem lf_omit (C : CC c r a i p E τ) (pb : p + 260 ≤ 626600) (pr : ∀ x, x ≤ E → wq (r.2.1 1006) p x < p + 250) (hn : n < 13000) (ht : t < 6100) (hk : r.1 955 n = nI 27) (h54 : c.1 354 t = nI 5) : LfC c r a i p E t (fun o => o = none) ∧ LfR r p E n (fun o => o = none) := by
  refine ⟨lfc_of h54 (fun rc s dp fr f54 => ⟨fun x hx _ => ?_, ?_⟩), lfr_of hn hk (fun rc s fr f55 f6 => ⟨fun x hx _ => ?_, ?_⟩)⟩
  · have := C.wb x hx
    unfold k_X10_matches_61
    rw [if_pos (l2_ix ht (by decide)), nI_clamp (n := t) (by omega), f54, if_neg (by decide), if_neg (by decide), if_neg (by decide), if_neg (by decide), if_neg (by decide), if_pos (by decide), if_pos (nI_pos' (by omega)), bZ_f (fun y => no_sn y)]
  · unfold k_X10_matches_61
    rw [if_pos (l2_ix ht (by decide)), nI_clamp (n := t) (by omega), f54, if_neg (by decide), if_neg (by decide), if_neg (by decide), if_neg (by decide), if_neg (by decide), if_pos (by decide), if_neg (by decide), bZ_t rfl]
  · have := pr x (by omega)
    unfold m_X13_toneMatch
    rw [if_pos (l2_ix (by omega) (by decide)), if_pos (l2_ix hn (by decide)), nI_clamp (n := n) (by omega), f55, if_neg (by decide), if_neg (by decide), if_neg (by decide), if_neg (by decide), if_neg (by decide), if_neg (by decide), if_neg (by decide), if_neg (by decide), if_pos (by decide), bZ_f (fun y => no_sn y)]
  · unfold m_X13_omitMatch
    rw [if_pos (l2_ix hn (by decide)), nI_clamp (n := n) (by omega), f55, if_neg (by decide), if_neg (by decide), if_neg (by decide), if_neg (by decide), if_neg (by decide), if_neg (by decide), if_neg (by decide), if_pos (by decide), bZ_t rfl]
/-- what a leaf says of a part by its kind and value -/
theorem pd_val {x : Nat} (C : CC c r a i p E τ) (pb : p + 260 ≤ 626600) (pr : ∀ x, x ≤ E → wq (r.2.1 1006) p x < p + 250) (pd : ∀ x, x < E → PD (c.2.1 a) (r.2.1 1006) i p E x) (hx : x < E) : ∃ (t : Int) (m K : Nat), vl_c t m K (c.2.1 a (wv (c.2.1 a) i x)) ∧ K ≤ 8 ∧ r.2.1 1006 (wq (r.2.1 1006) p x) = lN K ∧ ((K = 0 ∨ K = 1 → m = 1 ∧ (r.2.1 1006 (wq (r.2.1 1006) p x + 1)).toInt = t) ∧ (K = 3 → ∃ X : Nat, X < 7934 ∧ t = X + 66 ∧ r.2.1 1006 (wq (r.2.1 1006) p x + 1) = lN X ∧ m = 1)) ∧ (wq (r.2.1 1006) p x + 1 < 626600 ∧ 0 < m ∧ wv (c.2.1 a) i x + m ≤ t_ln a) := by
  have b0 := pr x (by omega)
  obtain ⟨f, n0, m0, t, k, ⟨_, V⟩, hc, ⟨hr, z, z1, z2, z3, zu⟩, _⟩ := pd x hx
  have zl := C.we z z2
  obtain ⟨t1, k1, h1, h2, h3⟩ := V.hd
  have ps := V.pos
  cases f with
  | zero => exact V.elim
  | succ f =>
    obtain ⟨_, t2, k2, g1, g2, g3⟩ := V
    have same : k1 = k2 ∧ t1 = t2 := by
      have e1 := h1
      have e2 := g1
      unfold vl_c at e1 e2
      omega
    refine ⟨t2, n0, k2, g1, by omega, g2, ⟨fun h => ?_, fun h => ?_⟩, by omega, ps.1, by omega⟩
    · rcases g3 with ⟨y, y2, y3, y4⟩ | ⟨y, _⟩ | ⟨y, _⟩ | ⟨v, y, _⟩ | ⟨y, _⟩ | ⟨v, I, P, y, _⟩ | ⟨v, I, P, X, y, _⟩
      · exact ⟨y2, y4⟩
      all_goals omega
    · rcases g3 with ⟨y, _⟩ | ⟨_, y2, y3, X, x1, x2, x3⟩ | ⟨y, _⟩ | ⟨v, y, _⟩ | ⟨y, _⟩ | ⟨v, I, P, y, _⟩ | ⟨v, I, P, X, y, _⟩
      · omega
      · exact ⟨X, x1, x2, x3, y2⟩
      all_goals omega
theorem lf_range {K : Nat} (C : CC c r a i p E τ) (pb : p + 260 ≤ 626600) (pr : ∀ x, x ≤ E → wq (r.2.1 1006) p x < p + 250) (pd : ∀ x, x < E → PD (c.2.1 a) (r.2.1 1006) i p E x) (hn : n < 13000) (ht : t < 6100) (hK : K = 22 ∨ K = 23) (hk : r.1 955 n = nI K) (h54 : c.1 354 t = nI 3) (hl : c.2.1 361 t = r.2.1 957 n) (hh : c.2.1 362 t = r.2.1 958 n) : ∃ S, LfC c r a i p E t S ∧ LfR r p E n S := by
  refine ⟨fun o => ∃ q, o = some q ∧ r.2.1 1006 q = lN 0 ∧ (r.2.1 957 n).toInt ≤ (r.2.1 1006 (q + 1)).toInt ∧ (r.2.1 1006 (q + 1)).toInt ≤ (r.2.1 958 n).toInt, lfc_of h54 (fun rc s dp fr f54 => ⟨fun x hx _ => ?_, ?_⟩), lfr_of hn hk (fun rc s fr f55 f6 => ⟨fun x hx _ => ?_, ?_⟩)⟩
  · obtain ⟨w1, w2⟩ := C.wb x hx
    have hl' := wv_lt C pd hx
    have ln := C.ln
    obtain ⟨fa1, fa2, _, fa4⟩ := C.fa fr
    obtain ⟨t0, m0, K0, z1, z2, z3, ⟨z4, _⟩, _⟩ := pd_val C pb pr pd hx
    have ix : nI i + nI (wv (c.2.1 a) i x - i) = nI (wv (c.2.1 a) i x) := by rw [nI_add, show i + (wv (c.2.1 a) i x - i) = wv (c.2.1 a) i x by omega]
    have f61 : s.2.1 361 t = r.2.1 957 n := ((cm_fr fr (by omega)).2.1).trans hl
    have f62 : s.2.1 362 t = r.2.1 958 n := ((cm_fr fr (by omega)).2.1).trans hh
    have td : (f_X8_told (c.2.1 a (wv (c.2.1 a) i x)) s).toInt = t0 := vl_told z1
    have ne : nI K0 = (0 : Int32) ↔ K0 = 0 := nI_eq (b := 0) (by omega) (by decide)
    have bt : f_X10_isBetween (c.2.1 a (wv (c.2.1 a) i x)) (r.2.1 957 n) (r.2.1 958 n) s = bZ (∃ q, some (wq (r.2.1 1006) p x) = some q ∧ r.2.1 1006 q = lN 0 ∧ (r.2.1 957 n).toInt ≤ (r.2.1 1006 (q + 1)).toInt ∧ (r.2.1 1006 (q + 1)).toInt ≤ (r.2.1 958 n).toInt) := by
      unfold f_X10_isBetween
      rw [vl_kind z1]
      by_cases c0 : K0 = 0
      · rw [if_pos (ne.mpr c0)]
        have vv := (z4 (Or.inl c0)).2
        by_cases c1 : t0 < (r.2.1 957 n).toInt
        · rw [if_pos (t_cmp_lt.mpr (by rw [td]; exact c1)), bZ_f (fun ⟨q, y1, _, y2, _⟩ => by injection y1 with y1; rw [← y1, vv] at y2; omega)]
        · rw [if_neg (fun y => c1 (by have := t_cmp_lt.mp y; rw [td] at this; exact this))]
          by_cases c2 : (r.2.1 958 n).toInt < t0
          · rw [if_pos (t_cmp_gt.mpr (by rw [td]; exact c2)), bZ_f (fun ⟨q, y1, _, _, y2⟩ => by injection y1 with y1; rw [← y1, vv] at y2; omega)]
          · rw [if_neg (fun y => c2 (by have := t_cmp_gt.mp y; rw [td] at this; exact this)), bZ_t ⟨_, rfl, by rw [z3, c0], by rw [vv]; omega, by rw [vv]; omega⟩]
      · rw [if_neg (fun y => c0 (ne.mp y)), bZ_f (fun ⟨q, y1, y2, _⟩ => by injection y1 with y1; rw [← y1, z3] at y2; exact c0 (lN_inj (by omega) (by decide) y2))]
    unfold k_X10_matches_61
    rw [if_pos (l2_ix ht (by decide)), nI_clamp (n := t) (by omega), f54, if_neg (by decide), if_neg (by decide), if_neg (by decide), if_pos (by decide), if_neg (nI_pos (by omega)), fa1, fa2, if_pos C.ok, ix, if_pos (l2_ix hl' (by omega)), nI_clamp (n := wv (c.2.1 a) i x) (by omega), fa4, f61, f62, bt]
    rcases bZ_01 (P := ∃ q, some (wq (r.2.1 1006) p x) = some q ∧ r.2.1 1006 q = lN 0 ∧ (r.2.1 957 n).toInt ≤ (r.2.1 1006 (q + 1)).toInt ∧ (r.2.1 1006 (q + 1)).toInt ≤ (r.2.1 958 n).toInt) with w | w <;> rw [w] <;> rfl
  · unfold k_X10_matches_61
    rw [if_pos (l2_ix ht (by decide)), nI_clamp (n := t) (by omega), f54, if_neg (by decide), if_neg (by decide), if_neg (by decide), if_pos (by decide), if_pos (by decide), bZ_f (fun ⟨q, y, _⟩ => no_ns y)]
  · have b0 := pr x (by omega)
    obtain ⟨t0, m0, K0, z1, z2, z3, _⟩ := pd_val C pb pr pd hx
    have ne : nI K0 = (0 : Int32) ↔ K0 = 0 := nI_eq (b := 0) (by omega) (by decide)
    have f57 : s.2.1 957 n = r.2.1 957 n := (rm_fr fr (by omega)).2
    have f58 : s.2.1 958 n = r.2.1 958 n := (rm_fr fr (by omega)).2
    obtain ⟨q, hq⟩ : ∃ q, q = wq (r.2.1 1006) p x := ⟨_, rfl⟩
    rw [← hq] at b0 z3 ⊢
    have body : (if nI K0 = (0 : Int32) then (if t_ix (nI q + (1 : Int32)) 626600 = true then if (f_X13_in (s.2.1 1006 ((nI q + (1 : Int32)).toNatClampNeg)) (s.2.1 957 n) (s.2.1 958 n) s) = (0 : Int32) then (some ((0 : Int32), s)) else (some ((1 : Int32), s)) else none) else (some ((0 : Int32), s))) = some (bZ (∃ q', some q = some q' ∧ r.2.1 1006 q' = lN 0 ∧ (r.2.1 957 n).toInt ≤ (r.2.1 1006 (q' + 1)).toInt ∧ (r.2.1 1006 (q' + 1)).toInt ≤ (r.2.1 958 n).toInt), s) := by
      by_cases c0 : K0 = 0
      · rw [if_pos (ne.mpr c0), nI_1, if_pos (l2_ix (by omega) (by decide)), nI_clamp (n := q + 1) (by omega), f6, f57, f58, fin_r]
        by_cases c1 : (r.2.1 957 n).toInt ≤ (r.2.1 1006 (q + 1)).toInt ∧ (r.2.1 1006 (q + 1)).toInt ≤ (r.2.1 958 n).toInt
        · rw [if_pos c1, if_neg (show ¬ (1 : Int32) = 0 by decide), bZ_t ⟨q, rfl, by rw [z3, c0], c1⟩]
        · rw [if_neg c1, if_pos rfl, bZ_f (fun ⟨q', y1, _, y2⟩ => by injection y1 with y1; rw [← y1] at y2; exact c1 y2)]
      · rw [if_neg (fun y => c0 (ne.mp y)), bZ_f (fun ⟨q', y1, y2, _⟩ => by injection y1 with y1; rw [← y1, z3] at y2; exact c0 (lN_inj (by omega) (by decide) y2))]
    unfold m_X13_toneMatch
    rw [if_pos (l2_ix (by omega) (by decide)), if_pos (l2_ix hn (by decide)), nI_clamp (n := n) (by omega), f55, nI_clamp (n := q) (by omega), f6, z3, lN_w]
    rcases hK with rfl | rfl
    · rw [if_neg (by decide), if_neg (by decide), if_neg (by decide), if_pos (by decide)]
      exact body
    · rw [if_neg (by decide), if_neg (by decide), if_neg (by decide), if_neg (by decide), if_pos (by decide)]
      exact body
  · unfold m_X13_omitMatch
    rw [if_pos (l2_ix hn (by decide)), nI_clamp (n := n) (by omega), f55]
    rcases hK with rfl | rfl
    · rw [if_neg (by decide), if_neg (by decide), if_pos (by decide), bZ_f (fun ⟨q, y, _⟩ => no_ns y)]
    · rw [if_neg (by decide), if_neg (by decide), if_neg (by decide), if_pos (by decide), bZ_f (fun ⟨q, y, _⟩ => no_ns y)]
end
