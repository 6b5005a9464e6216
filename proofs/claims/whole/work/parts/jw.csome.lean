/-! Level 2: the class holds a part against a templ: @, not, both, ( ). -/
section
variable {c r s : t_S} {a i p E τ : Nat} {n t g k dp v : Nat} {o : Option Nat} {T : Nat → Nat}
theorem pd_k7 {x : Nat} (pd : ∀ x, x < E → PD (c.2.1 a) (r.2.1 1006) i p E x) (hx : x < E) (h7 : r.2.1 1006 (wq (r.2.1 1006) p x) = lN 7) : ∃ X n : Nat, X < 7934 ∧ vl_c (((X + 66 : Nat) : Int)) n 7 (c.2.1 a (wv (c.2.1 a) i x)) ∧ r.2.1 1006 (wq (r.2.1 1006) p x + 1) = lN X ∧ r.2.1 1006 (wq (r.2.1 1006) p x + 2) ≠ lN 4 ∧ x + 1 < E ∧ wv (c.2.1 a) i (x + 1) = wv (c.2.1 a) i x + 1 ∧ wq (r.2.1 1006) p (x + 1) = wq (r.2.1 1006) p x + 2 := by
  obtain ⟨f0, n0, m0, t0, K, _, hcl, ⟨hr, _⟩, hkk⟩ := pd x hx
  have K7 : K = 7 := by
    rw [h7] at hr
    exact (lN_inj (by decide) (by have := hcl.2.2; omega) hr).symm
  rcases hkk with ⟨_, y, _⟩ | ⟨_, ⟨X', x0, x1, x2⟩, z1, z2, z3, z4⟩ | ⟨v, I, P, C', y, _⟩ | ⟨v, I, P, X', C', y, _⟩
  · exact absurd K7 y
  · rw [K7, x1] at hcl
    exact ⟨X', n0, x0, hcl, x2, z1, z2, z3, z4⟩
  · rw [K7] at y; exact absurd y (by decide)
  · rw [K7] at y; exact absurd y (by decide)
theorem ct_tag (C : CC c r a i p E τ) (pd : ∀ x, x < E → PD (c.2.1 a) (r.2.1 1006) i p E x) (ht : t < 6100) {X t' n' : Nat} (hk : r.1 955 n = 30) (h54 : c.1 354 t = 9) (hX : X < 7934) (h57 : c.1 357 t = nI (66 + X)) (h7 : r.2.1 957 n = lN X) (h55 : c.1 355 t = nI t') (h59 : r.1 959 n = nI n') (hn' : n' < 13000) (h : CQ c r a i p E τ g t' n' (dp + 1)) : CT c r a i p E τ g t dp (fun o => Mt r p E (Mn r p E) n o) := by
  intro s o k hV fr hm
  have f54 : s.1 354 t = 9 := ((cm_fr fr (by omega)).1).trans h54
  have f57 : s.1 357 t = nI (66 + X) := ((cm_fr fr (by omega)).1).trans h57
  have f55 : s.1 355 t = nI t' := ((cm_fr fr (by omega)).1).trans h55
  obtain ⟨fa1, fa2, _, fa4⟩ := C.fa fr
  have hM : Mt r p E (Mn r p E) n o ↔ ∃ q, o = some q ∧ r.2.1 1006 q = lN 7 ∧ r.2.1 1006 (q + 1) = lN X ∧ Mn r p E n' (some (q + 2)) := by
    unfold Mt
    rw [hk, if_neg (by decide), if_pos rfl, gn_0 h59 hn', h7]
  rw [bZ_i hM]
  cases o with
  | none =>
    have k0 := hV.k0
    subst k0
    refine ⟨s, ?_, fr, hm, fun _ _ => rfl⟩
    rw [bZ_f (fun ⟨q, z, _⟩ => no_ns z)]
    unfold k_X10_matches_61
    rw [if_pos (l2_ix ht (by decide)), nI_clamp (n := t) (by omega), f54, if_neg (by decide), if_neg (by decide), if_neg (by decide), if_neg (by decide), if_neg (by decide), if_neg (by decide), if_neg (by decide), if_neg (by decide), if_neg (by decide), if_pos (by decide), if_pos (show nI 0 - 1 < (0 : Int32) by decide)]
  | some q =>
    obtain ⟨x, hx, hq, hk', _⟩ := hV.nn
    obtain ⟨w1, w2⟩ := C.wb x hx
    obtain ⟨k', rfl⟩ : ∃ k', k = k' + 1 := ⟨k - 1, by omega⟩
    have hl := wv_lt C pd hx
    have ln := C.ln
    obtain ⟨t0, n0, K, hcl, K16, hr, _⟩ := pd_hd pd hx
    have ne : nI K = (7 : Int32) ↔ K = 7 := nI_eq (b := 7) (by omega) (by decide)
    have ix : nI i + nI k' = nI (wv (c.2.1 a) i x) := by rw [nI_add, show i + k' = wv (c.2.1 a) i x by omega]
    have st : k_X10_matches_61 (R_X10_behindPerm g) (nI t) (nI (k' + 1) - 1) (nI dp) s = (if nI K = (7 : Int32) then (if (f_X8_wordOf (c.2.1 a (wv (c.2.1 a) i x)) s) = nI (66 + X) then (((R_X10_behindPerm g).2.1 (nI t') (nI (k' + 1)) (nI (dp + 1)) s).bind (fun r19 => if r19.1 = (0 : Int32) then (some ((0 : Int32), r19.2)) else (some ((1 : Int32), r19.2)))) else (some ((0 : Int32), s))) else (some ((0 : Int32), s))) := by
      unfold k_X10_matches_61
      rw [if_pos (l2_ix ht (by decide)), nI_clamp (n := t) (by omega), f54, if_neg (by decide), if_neg (by decide), if_neg (by decide), if_neg (by decide), if_neg (by decide), if_neg (by decide), if_neg (by decide), if_neg (by decide), if_neg (by decide), if_pos (by decide), nI_pm, if_neg (nI_pos (by omega)), fa1, fa2, if_pos C.ok, ix, if_pos (l2_ix hl (by omega)), nI_clamp (n := wv (c.2.1 a) i x) (by omega), fa4, vl_kind hcl, f57, f55, nI_1, nI_1]
    rw [st]
    rw [← hq] at hr
    by_cases e7 : K = 7
    · rw [if_pos (ne.mpr e7)]
      obtain ⟨X', n1, x0, hcl', x2, z1, z2, z3, z4⟩ := pd_k7 pd hx (by rw [← hq, hr, e7])
      · rw [← hq] at x2 z1 z4
        have ew : f_X8_wordOf (c.2.1 a (wv (c.2.1 a) i x)) s = nI (66 + X') := by
          unfold f_X8_wordOf
          rw [vl_i32 (v := X' + 66) hcl' (by omega), Nat.add_comm]
        have nX : nI (66 + X') = nI (66 + X) ↔ X' = X := by rw [nI_eq (by omega) (by omega)]; omega
        rw [ew]
        by_cases eX : X' = X
        · rw [if_pos (nX.mpr eX)]
          obtain ⟨s', h1, h2, h3, h4⟩ := h s _ _ (VQ.mk z2 (by rw [z4]; exact z1)) fr hm
          rw [z3, show wv (c.2.1 a) i x + 1 - i + 1 = k' + 1 + 1 by omega, nI_pm, z4] at h1
          refine ⟨s', ?_, h2, h3, fun j hj => h4 j (by omega)⟩
          have e : Mn r p E n' (some (q + 2)) ↔ ∃ q', some q = some q' ∧ r.2.1 1006 q' = lN 7 ∧ r.2.1 1006 (q' + 1) = lN X ∧ Mn r p E n' (some (q' + 2)) := ⟨fun w => ⟨q, rfl, by rw [hr, e7], by rw [x2, eX], w⟩, fun ⟨q', w1, _, _, w⟩ => by injection w1 with w1; rw [w1]; exact w⟩
          rw [h1, l2_bs, ← bZ_i e]
          rcases bZ_01 (P := Mn r p E n' (some (q + 2))) with w | w <;> rw [w] <;> rfl
        · rw [if_neg (fun w => eX (nX.mp w)), bZ_f (fun ⟨q', w1, _, w, _⟩ => by injection w1 with w1; rw [← w1, x2] at w; exact eX (lN_inj (by omega) (by omega) w))]
          exact ⟨s, rfl, fr, hm, fun _ _ => rfl⟩
    · rw [if_neg (fun w => e7 (ne.mp w)), bZ_f (fun ⟨q', w1, w, _⟩ => by injection w1 with w1; rw [← w1, hr] at w; exact e7 (lN_inj (by omega) (by omega) w))]
      exact ⟨s, rfl, fr, hm, fun _ _ => rfl⟩
/-- the parts of a templ -/
theorem tc_nx {j : Nat} (hc : tc_R c t v T) (h : j < v) : c.1 356 (T j) = nxG v T (j + 1) := hc.2 j h
theorem tc_n0 (hc : tc_R c t v T) : c.1 355 t = nxG v T 0 := hc.1
theorem msm_go {w : Int32} {G : Nat → Nat} (hw : w = 0 ∨ w = 1) (hv : v ≤ 12) (hV : VQ c r a i p E o k) (hc : tc_R c t v T) (hT : ∀ j, j < v → T j < 6100 ∧ CQ c r a i p E τ g (T j) (G j) (dp + 1)) : ∀ (d j : Nat) (s1 : t_S) (N : Nat), j + d = v → d < N → (∀ u, u < j → bZ (Mn r p E (G u) o) ≠ w) → l2_fr cmW c s1 → MemC c r a i p E τ s1 → (∀ x, x < 12 * dp → s1.1 426 x = s.1 426 x) → ∃ s', t_loop (b_X10_matchesSome_11 (R_X10_behindPerm g)) N (nI k - 1, nI dp, w, nxG v T j, nI j, s1) = some (bZ (∃ u, u < v ∧ bZ (Mn r p E (G u) o) = w), s') ∧ l2_fr cmW c s' ∧ MemC c r a i p E τ s' ∧ ∀ x, x < 12 * dp → s'.1 426 x = s.1 426 x := by
  intro d
  induction d with
  | zero =>
    intro j s1 N hj hN ha fr hm he
    obtain ⟨N, rfl⟩ : ∃ y, N = y + 1 := ⟨N - 1, by omega⟩
    obtain rfl : j = v := by omega
    refine ⟨s1, l2_lpR ?_, fr, hm, he⟩
    rw [bZ_f (fun ⟨u, u1, u2⟩ => ha u u1 u2)]
    show k_X10_matchesSome_11 _ _ _ _ _ _ s1 = _
    unfold k_X10_matchesSome_11
    rw [nx_out (j := j) (v := j) (by omega)]
    by_cases c12 : (12 : Int32) ≤ nI j
    · rw [if_pos c12]; rfl
    · rw [if_neg c12, if_pos (show (-1 : Int32) < 0 by decide)]; rfl
  | succ d ih =>
    intro j s1 N hj hN ha fr hm he
    obtain ⟨N, rfl⟩ : ∃ y, N = y + 1 := ⟨N - 1, by omega⟩
    obtain ⟨t1, t2⟩ := hT j (by omega)
    obtain ⟨s2, h1, h2, h3, h4⟩ := t2 s1 o k hV fr hm
    have he2 : ∀ x, x < 12 * dp → s2.1 426 x = s.1 426 x := fun x hx => (h4 x (by omega)).trans (he x hx)
    have e56 : s2.1 356 (T j) = nxG v T (j + 1) := ((cm_fr h2 (by omega)).1).trans (tc_nx hc (by omega))
    have st : b_X10_matchesSome_11 (R_X10_behindPerm g) (nI k - 1, nI dp, w, nxG v T j, nI j, s1) = (if bZ (Mn r p E (G j) o) = w then some (.inr (1, s2)) else some (.inl (nI k - 1, nI dp, w, nxG v T (j + 1), nI (j + 1), s2))) := by
      show k_X10_matchesSome_11 _ _ _ _ _ _ s1 = _
      unfold k_X10_matchesSome_11
      rw [nx_in (j := j) (by omega), if_neg (show ¬ (12 : Int32) ≤ nI j from nI_ge (show j < 12 by omega) (by decide)), if_neg (nI_pos (by omega)), nI_1, h1, l2_bs, if_pos (l2_ix t1 (by decide)), nI_clamp (n := T j) (by omega), e56, nI_1]
      rfl
    by_cases cw : bZ (Mn r p E (G j) o) = w
    · rw [if_pos cw] at st
      rw [bZ_t ⟨j, by omega, cw⟩]
      exact ⟨s2, l2_lpR st, h2, h3, he2⟩
    · rw [if_neg cw] at st
      rw [l2_lpS st]
      refine ih (j + 1) s2 N (by omega) (by omega) (fun u hu => ?_) h2 h3 he2
      by_cases e : u = j
      · rw [e]; exact cw
      · exact ha u (by omega)
theorem ct_some {K C' : Nat} (C : CC c r a i p E τ) (ht : t < 6100) (hK : (K = 32 ∧ C' = 11) ∨ (K = 33 ∧ C' = 12) ∨ (K = 34 ∧ C' = 13)) (hk : r.1 955 n = nI K) (h54 : c.1 354 t = nI C') (hv : v ≤ 12) (hT : tc_R c t v T) (hc : ch_R r n v (gn r n)) (hj : ∀ j, j < v → T j < 6100 ∧ CQ c r a i p E τ g (T j) (gn r n j) (dp + 1)) : CT c r a i p E τ (g + 1) t dp (fun o => Mt r p E (Mn r p E) n o) := by
  intro s o k hV fr hm
  have f54 : s.1 354 t = nI C' := ((cm_fr fr (by omega)).1).trans h54
  have f55 : s.1 355 t = nxG v T 0 := ((cm_fr fr (by omega)).1).trans (tc_n0 hT)
  have ec := ch_cn hc (by omega)
  have kb := hV.bd C
  have run : ∀ w : Int32, (w = 0 ∨ w = 1) → ∃ s', (R_X10_behindPerm (g + 1)).2.2.2.2.2.1 (nI t) (nI k - 1) (nI dp) w s = some (bZ (∃ u, u < v ∧ bZ (Mn r p E (gn r n u) o) = w), s') ∧ l2_fr cmW c s' ∧ MemC c r a i p E τ s' ∧ ∀ x, x < 12 * dp → s'.1 426 x = s.1 426 x := fun w hw => by
    obtain ⟨s', h1, h2⟩ := msm_go (s := s) (w := w) (G := gn r n) hw hv hV hT hj v 0 s t_N (by omega) (by have := l2_N; omega) (fun u hu => by omega) fr hm (fun _ _ => rfl)
    refine ⟨s', ?_, h2⟩
    show m_X10_matchesSome (R_X10_behindPerm g) (nI t) (nI k - 1) (nI dp) w s = _
    unfold m_X10_matchesSome
    rw [if_pos (l2_ix ht (by decide)), nI_clamp (n := t) (by omega), f55]
    exact h1
  rcases hK with ⟨e, e'⟩ | ⟨e, e'⟩ | ⟨e, e'⟩
  · -- not
    subst e e'
    have hM : Mt r p E (Mn r p E) n o ↔ (∃ q, o = some q) ∧ ¬ ∃ u, u < v ∧ bZ (Mn r p E (gn r n u) o) = 1 := by
      unfold Mt
      rw [hk, if_neg (by decide), if_neg (by decide), if_neg (by decide), if_neg (by decide), if_pos (by decide), ec]
      exact and_congr Iff.rfl ⟨fun z ⟨u, u1, u2⟩ => z u u1 (bZ_1.mp u2), fun z j jv w => z ⟨j, jv, bZ_1.mpr w⟩⟩
    rw [bZ_i hM]
    cases o with
    | none =>
      have k0 := hV.k0
      subst k0
      refine ⟨s, ?_, fr, hm, fun _ _ => rfl⟩
      rw [bZ_f (fun z => by obtain ⟨⟨q, z⟩, _⟩ := z; exact no_ns z)]
      unfold k_X10_matches_61
      rw [if_pos (l2_ix ht (by decide)), nI_clamp (n := t) (by omega), f54, if_neg (by decide), if_neg (by decide), if_neg (by decide), if_neg (by decide), if_neg (by decide), if_neg (by decide), if_neg (by decide), if_neg (by decide), if_neg (by decide), if_neg (by decide), if_neg (by decide), if_pos (by decide), if_pos (show nI 0 - 1 < (0 : Int32) by decide)]
    | some q =>
      obtain ⟨x, _, _, hk', _⟩ := hV.nn
      obtain ⟨s', h1, h2⟩ := run 1 (Or.inr rfl)
      refine ⟨s', ?_, h2⟩
      have ng : ¬ nI k - 1 < (0 : Int32) := by
        obtain ⟨k', rfl⟩ : ∃ k', k = k' + 1 := ⟨k - 1, by omega⟩
        rw [nI_pm]
        exact nI_pos (by omega)
      unfold k_X10_matches_61
      rw [if_pos (l2_ix ht (by decide)), nI_clamp (n := t) (by omega), f54, if_neg (by decide), if_neg (by decide), if_neg (by decide), if_neg (by decide), if_neg (by decide), if_neg (by decide), if_neg (by decide), if_neg (by decide), if_neg (by decide), if_neg (by decide), if_neg (by decide), if_pos (by decide), if_neg ng, h1, l2_bs]
      by_cases cs : ∃ u, u < v ∧ bZ (Mn r p E (gn r n u) (some q)) = 1
      · rw [bZ_t cs, if_neg (show ¬ (1 : Int32) = 0 by decide), bZ_f (fun z => z.2 cs)]
      · rw [bZ_f cs, if_pos rfl, bZ_t ⟨⟨q, rfl⟩, cs⟩]
  · -- both
    subst e e'
    have hM : Mt r p E (Mn r p E) n o ↔ ¬ ∃ u, u < v ∧ bZ (Mn r p E (gn r n u) o) = 0 := by
      unfold Mt
      rw [hk, if_neg (by decide), if_neg (by decide), if_neg (by decide), if_neg (by decide), if_neg (by decide), if_pos (by decide), ec]
      exact ⟨fun z ⟨u, u1, u2⟩ => bZ_0.mp u2 (z u u1), fun z j jv => Classical.byContradiction (fun w => z ⟨j, jv, bZ_0.mpr w⟩)⟩
    rw [bZ_i hM]
    obtain ⟨s', h1, h2⟩ := run 0 (Or.inl rfl)
    refine ⟨s', ?_, h2⟩
    unfold k_X10_matches_61
    rw [if_pos (l2_ix ht (by decide)), nI_clamp (n := t) (by omega), f54, if_neg (by decide), if_neg (by decide), if_neg (by decide), if_neg (by decide), if_neg (by decide), if_neg (by decide), if_neg (by decide), if_neg (by decide), if_neg (by decide), if_neg (by decide), if_neg (by decide), if_neg (by decide), if_pos (by decide), h1, l2_bs]
    by_cases cs : ∃ u, u < v ∧ bZ (Mn r p E (gn r n u) o) = 0
    · rw [bZ_t cs, if_neg (show ¬ (1 : Int32) = 0 by decide), bZ_f (fun z => z cs)]
    · rw [bZ_f cs, if_pos rfl, bZ_t cs]
  · -- ( )
    subst e e'
    have hM : Mt r p E (Mn r p E) n o ↔ ∃ u, u < v ∧ bZ (Mn r p E (gn r n u) o) = 1 := by
      unfold Mt
      rw [hk, if_neg (by decide), if_neg (by decide), if_neg (by decide), if_neg (by decide), if_neg (by decide), if_neg (by decide), if_pos (by decide), ec]
      exact ⟨fun ⟨u, u1, u2⟩ => ⟨u, u1, bZ_1.mpr u2⟩, fun ⟨u, u1, u2⟩ => ⟨u, u1, bZ_1.mp u2⟩⟩
    rw [bZ_i hM]
    obtain ⟨s', h1, h2⟩ := run 1 (Or.inr rfl)
    refine ⟨s', ?_, h2⟩
    unfold k_X10_matches_61
    rw [if_pos (l2_ix ht (by decide)), nI_clamp (n := t) (by omega), f54, if_neg (by decide), if_neg (by decide), if_neg (by decide), if_neg (by decide), if_neg (by decide), if_neg (by decide), if_neg (by decide), if_neg (by decide), if_neg (by decide), if_neg (by decide), if_neg (by decide), if_neg (by decide), if_neg (by decide), if_pos (by decide), h1, l2_bs, if_pos bZ_01]
end
