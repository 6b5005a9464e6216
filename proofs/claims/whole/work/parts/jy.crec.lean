/-! Level 2: the class holds a part against a templ: { }, whole. -/
section
variable {c r s : t_S} {a i p E τ x u : Nat} {n t g k dp v : Nat} {o : Option Nat} {T X nn tt : Nat → Nat} {oo : Nat → Option Nat} {yy zz : Nat → Int32}
theorem sc_cg {S S' : Nat → Nat} : ∀ m, (∀ j, j < m → S j = S' j) → sy_cn S m = sy_cn S' m := by
  intro m
  induction m with
  | zero => intro _; rfl
  | succ m ih =>
    intro h
    show sy_cn S m + S m = sy_cn S' m + S' m
    rw [ih (fun j jv => h j (by omega)), h m (by omega)]
theorem sc_sg {yy zz : Nat → Int32} {m : Nat} (h : ∀ j, j < m → (yy j < 0 ↔ zz j < 0)) : sy_cn (fun j => if yy j < 0 then 0 else 1) m = sy_cn (fun j => if zz j < 0 then 0 else 1) m := sc_cg m (fun j jv => by simp only [h j jv])
theorem ct_rec (C : CC c r a i p E τ) (pb : p + 260 ≤ 626600) (pr : ∀ x, x ≤ E → wq (r.2.1 1006) p x < p + 250) (pd : ∀ x, x < E → PD (c.2.1 a) (r.2.1 1006) i p E x) (ht : t < 6100) (hk : r.1 955 n = 29) (h54 : c.1 354 t = 8) (hv : v ≤ 16) (hT : tc_R c t v T) (hc : ch_R r n v (gn r n)) (hX : ∀ j, j < v → (T j < 6100 ∧ c.1 357 (T j) = nI (66 + X j) ∧ c.1 355 (T j) = nI (tt j)) ∧ X j < 7934 ∧ r.2.1 957 (gn r n j) = lN (X j) ∧ r.1 959 (gn r n j) = nI (nn j) ∧ nn j < 13000) (hq : ∀ j, j < v → CQ c r a i p E τ g (tt j) (nn j) (dp + 1)) : CT c r a i p E τ (g + 1) t dp (fun o => Mt r p E (Mn r p E) n o) := by
  intro s o k hV fr hm
  have f54 : s.1 354 t = 8 := ((cm_fr fr (by omega)).1).trans h54
  have f55 : s.1 355 t = nxG v T 0 := ((cm_fr fr (by omega)).1).trans (tc_n0 hT)
  obtain ⟨fa1, fa2, _, fa4⟩ := C.fa fr
  have need : ∀ o, Mt r p E (Mn r p E) n o → ∃ q, o = some q ∧ r.2.1 1006 q = lN 6 := fun o h => by
    unfold Mt at h
    rw [hk, if_neg (by decide), if_neg (by decide), if_pos rfl] at h
    obtain ⟨q, h1, h2, _⟩ := h
    exact ⟨q, h1, h2⟩
  cases o with
  | none =>
    have k0 := hV.k0
    subst k0
    refine ⟨s, ?_, fr, hm, fun _ _ => rfl⟩
    rw [bZ_f (fun z => by obtain ⟨q, z, _⟩ := need none z; exact no_ns z)]
    unfold k_X10_matches_61
    rw [if_pos (l2_ix ht (by decide)), nI_clamp (n := t) (by omega), f54, if_neg (by decide), if_neg (by decide), if_neg (by decide), if_neg (by decide), if_neg (by decide), if_neg (by decide), if_neg (by decide), if_neg (by decide), if_pos (by decide), if_pos (show nI 0 - 1 < (0 : Int32) by decide)]
  | some q =>
    obtain ⟨x, hx, hq', hk', _⟩ := hV.nn
    obtain ⟨w1, w2⟩ := C.wb x hx
    obtain ⟨k', rfl⟩ : ∃ k', k = k' + 1 := ⟨k - 1, by omega⟩
    have hl := wv_lt C pd hx
    have ln := C.ln
    obtain ⟨t0, n0, K, hcl, K16, hr, _⟩ := pd_hd pd hx
    have ne : nI K = (6 : Int32) ↔ K = 6 := nI_eq (b := 6) (by omega) (by decide)
    have kx : k' = wv (c.2.1 a) i x - i := by omega
    have ix : nI i + nI k' = nI (wv (c.2.1 a) i x) := by rw [nI_add, show i + k' = wv (c.2.1 a) i x by omega]
    have st : k_X10_matches_61 (R_X10_behindPerm (g + 1)) (nI t) (nI (k' + 1) - 1) (nI dp) s = (if nI K = (6 : Int32) then ((m_X10_matchesFields (R_X10_behindPerm g) (nI t) (nI k') (nI dp) s).bind (fun r14 => if r14.1 = (0 : Int32) then (some ((0 : Int32), r14.2)) else (some ((1 : Int32), r14.2)))) else (some ((0 : Int32), s))) := by
      unfold k_X10_matches_61
      rw [if_pos (l2_ix ht (by decide)), nI_clamp (n := t) (by omega), f54, if_neg (by decide), if_neg (by decide), if_neg (by decide), if_neg (by decide), if_neg (by decide), if_neg (by decide), if_neg (by decide), if_neg (by decide), if_pos (by decide), nI_pm, if_neg (nI_pos (by omega)), fa1, fa2, if_pos C.ok, ix, if_pos (l2_ix hl (by omega)), nI_clamp (n := wv (c.2.1 a) i x) (by omega), fa4, vl_kind hcl]
      have e : (R_X10_behindPerm (g + 1)).2.2.1 (nI t) (nI k') (nI dp) s = m_X10_matchesFields (R_X10_behindPerm g) (nI t) (nI k') (nI dp) s := rfl
      rw [e]
    rw [st]
    by_cases e6 : K = 6
    · rw [if_pos (ne.mpr e6)]
      have h6 : r.2.1 1006 (wq (r.2.1 1006) p x) = lN 6 := by rw [hr, e6]
      obtain ⟨u, n1, hu, hcu, hr1, hF⟩ := pd_k6 C pb pr pd hx h6
      obtain ⟨W, hW⟩ := l2_ch (P := fun j (w : Option Nat × Int32 × Nat × Int32) => (f_X13_fieldOf (nI (wq (r.2.1 1006) p x)) (lN (X j)) r = some w.2.1 ∧ ((w.1 = none ∧ w.2.1 = -1) ∨ ∃ q, w.1 = some q ∧ w.2.1 = nI q ∧ q < 626600)) ∧ VQ c r a i p E w.1 w.2.2.1 ∧ (∀ s : t_S, s.2.1 a = c.2.1 a → f_X8_fieldAt a (nI (wv (c.2.1 a) i x)) (nI (66 + X j)) s = some w.2.2.2) ∧ ((w.2.2.1 = 0 ∧ w.2.2.2 = -1) ∨ ∃ k', w.2.2.1 = k' + 1 ∧ w.2.2.2 = nI (i + k')) ∧ (w.2.1 < 0 ↔ w.2.2.2 < 0)) (v := v) (fun j jv => by
        obtain ⟨o, y, k, z, b⟩ := hF (X j) (hX j jv).2.1
        exact ⟨(o, y, k, z), b⟩)
      obtain ⟨s', z1, z2⟩ := fld_go (s := s) (u := u) (nn := nn) (tt := tt) (X := X) (oo := fun j => (W j).1) (kk := fun j => (W j).2.2.1) (zz := fun j => (W j).2.2.2) (dp := dp) C w1 hl hv hT (fun j jv => (hX j jv).1) hq (fun j jv => ⟨(hW j jv).2.1, (hW j jv).2.2.1, (hW j jv).2.2.2.1⟩) hu hcu v 0 s t_N (by omega) (by have := l2_N; omega) (fun k hk => by omega) fr hm (fun _ _ => rfl)
      refine ⟨s', ?_, z2⟩
      have mf : m_X10_matchesFields (R_X10_behindPerm g) (nI t) (nI k') (nI dp) s = t_loop (b_X10_matchesFields_14 (R_X10_behindPerm g)) t_N (nI (wv (c.2.1 a) i x - i), nI dp, nI (sy_cn (fun j => if (W j).2.2.2 < 0 then 0 else 1) 0), nxG v T 0, nI 0, s) := by
        unfold m_X10_matchesFields
        have e0 : nI (sy_cn (fun j => if (W j).2.2.2 < 0 then 0 else 1) 0) = (0 : Int32) := rfl
        have e1 : nI 0 = (0 : Int32) := rfl
        rw [if_pos (l2_ix ht (by decide)), nI_clamp (n := t) (by omega), f55, kx, e0, e1]
      have M := mt_rec_is (p := p) (E := E) (x := wq (r.2.1 1006) p x) (u := u) (nn := nn) (oo := fun j => (W j).1) (yy := fun j => (W j).2.1) hk hv hc (fun j jv => ⟨(hX j jv).2.2.2.1, (hX j jv).2.2.2.2⟩) h6 hr1 hu (fun j jv => by
        rw [(hX j jv).2.2.1]
        exact (hW j jv).1)
      have sc : sy_cn (fun j => if (W j).2.1 < 0 then 0 else 1) v = sy_cn (fun j => if (W j).2.2.2 < 0 then 0 else 1) v := sc_sg (fun j jv => (hW j jv).2.2.2.2)
      rw [sc] at M
      rw [mf, z1, l2_bs, hq', bZ_i M]
      rcases bZ_01 (P := (∀ k, k < v → Mn r p E (nn k) (W k).1) ∧ u = sy_cn (fun j => if (W j).2.2.2 < 0 then 0 else 1) v) with w | w <;> rw [w] <;> rfl
    · rw [if_neg (fun w => e6 (ne.mp w)), bZ_f (fun z => by
        obtain ⟨q', w1, w⟩ := need _ z
        injection w1 with w1
        rw [← w1, hq', hr] at w
        exact e6 (lN_inj (by omega) (by omega) w))]
      exact ⟨s, rfl, fr, hm, fun _ _ => rfl⟩
end
