/-! Level 2: templs without parts: truths, words. -/
section
variable {c r s : t_S} {a i p E τ : Nat} {n t : Nat}
theorem vl_rows2 {a b : Nat} {i j n : Nat} {s : t_S} {t : Int} {k : Nat} (ha : t_oka a 2 (t_ln a) = true) (hb : t_oka b 2 (t_ln b) = true) (hla : t_ln a < 1000000000) (hlb : t_ln b < 1000000000) (hi : i + n ≤ t_ln a) (hj : j < t_ln b) (hj2 : s.2.1 a i = s.2.1 b j → j + n ≤ t_ln b) (hn : 0 < n) (hc : vl_c t n k (s.2.1 a i)) : f_X8_same a (nI i) b (nI j) s = some (if ∀ d, d < n → s.2.1 a (i + d) = s.2.1 b (j + d) then 1 else 0) := by
  by_cases e : s.2.1 a i = s.2.1 b j
  · exact vl_rows ha hb hla hlb hi (hj2 e) hn hc
  · unfold f_X8_same
    rw [if_pos ha, if_pos (l2_ix (by omega) (by omega)), if_pos hb, if_pos (l2_ix hj (by omega)), nI_clamp (n := i) (by omega), nI_clamp (n := j) (by omega), if_neg (fun z => e (l2_cmp0.mp z)), if_neg (fun z => e (z 0 hn))]
theorem vl_un {t t' : Int} {n n' k k' : Nat} {w : Int64} (h : vl_c t n k w) (g : vl_c t' n' k' w) : t = t' ∧ n = n' ∧ k = k' := by
  unfold vl_c at h g
  omega
theorem vl_eq {t : Int} {n k : Nat} {w w' : Int64} (h : vl_c t n k w) (g : vl_c t n k w') : w = w' := Int64.toInt_inj.mp (h.1.trans g.1.symm)
theorem lf_tru {K : Nat} (C : CC c r a i p E τ) (pb : p + 260 ≤ 626600) (pr : ∀ x, x ≤ E → wq (r.2.1 1006) p x < p + 250) (pd : ∀ x, x < E → PD (c.2.1 a) (r.2.1 1006) i p E x) (hn : n < 13000) (ht : t < 6100) (hK : K = 24 ∨ K = 25) (hk : r.1 955 n = nI K) (h54 : c.1 354 t = nI 4) {pl : Nat} (hp : pl < 26000) (h57 : c.1 357 t = nI pl) (hw : vl_c (if K = 24 then 1 else 0) 1 1 (c.2.1 337 pl)) : ∃ S, LfC c r a i p E t S ∧ LfR r p E n S := by
  obtain ⟨b, hb⟩ : ∃ b : Nat, b = if K = 24 then 1 else 0 := ⟨_, rfl⟩
  have b1 : b ≤ 1 := by rw [hb]; split <;> omega
  have hw : vl_c (b : Int) 1 1 (c.2.1 337 pl) := by
    have : ((b : Nat) : Int) = if K = 24 then 1 else 0 := by rw [hb]; split <;> rfl
    rw [this]; exact hw
  refine ⟨fun o => ∃ q, o = some q ∧ r.2.1 1006 q = lN 1 ∧ r.2.1 1006 (q + 1) = lN b, lfc_of h54 (fun rc s dp fr f54 => ⟨fun x hx _ => ?_, ?_⟩), lfr_of hn hk (fun rc s fr f55 f6 => ⟨fun x hx _ => ?_, ?_⟩)⟩
  · obtain ⟨w1, w2⟩ := C.wb x hx
    have ln := C.ln
    obtain ⟨fa1, fa2, _, fa4⟩ := C.fa fr
    obtain ⟨t0, m0, K0, z1, z2, z3, ⟨z4, _⟩, z5, z6, z7⟩ := pd_val C pb pr pd hx
    have ix : nI i + nI (wv (c.2.1 a) i x - i) = nI (wv (c.2.1 a) i x) := by rw [nI_add, show i + (wv (c.2.1 a) i x - i) = wv (c.2.1 a) i x by omega]
    have f57 : s.1 357 t = nI pl := ((cm_fr fr (by omega)).1).trans h57
    have f37 : ∀ j, s.2.1 337 j = c.2.1 337 j := fun j => (cm_fr fr (by omega)).2.1
    have sm := vl_rows2 (s := s) (a := a) (b := 337) (i := wv (c.2.1 a) i x) (j := pl) C.ok (by decide +kernel) C.ln (by decide +kernel) z7 (show pl < 26000 from hp) (fun e => by
      rw [fa4, f37] at e
      rw [e] at z1
      have := (vl_un z1 hw).2.1
      show pl + m0 ≤ 26000
      omega) z6 (by rw [fa4]; exact z1)
    have eq : (∀ d, d < m0 → s.2.1 a (wv (c.2.1 a) i x + d) = s.2.1 337 (pl + d)) ↔ ∃ q, some (wq (r.2.1 1006) p x) = some q ∧ r.2.1 1006 q = lN 1 ∧ r.2.1 1006 (q + 1) = lN b := by
      constructor
      · intro h
        have e := h 0 z6
        rw [Nat.add_zero, Nat.add_zero, fa4, f37] at e
        rw [e] at z1
        obtain ⟨u1, u2, u3⟩ := vl_un z1 hw
        refine ⟨_, rfl, by rw [z3, u3], ?_⟩
        have := (z4 (Or.inr u3)).2
        apply Int64.toInt_inj.mp
        rw [this, u1, pk_lT (by omega)]
      · intro ⟨q, y1, y2, y3⟩
        injection y1 with y1
        rw [← y1, z3] at y2
        have k1 : K0 = 1 := lN_inj (by omega) (by decide) y2
        obtain ⟨v1, v2⟩ := z4 (Or.inr k1)
        rw [← y1] at y3
        rw [y3, pk_lT (by omega)] at v2
        intro d hd
        obtain rfl : d = 0 := by omega
        rw [Nat.add_zero, Nat.add_zero, fa4, f37]
        rw [← v2, v1, k1] at z1
        exact vl_eq z1 hw
    unfold k_X10_matches_61
    rw [if_pos (l2_ix ht (by decide)), nI_clamp (n := t) (by omega), f54, if_neg (by decide), if_neg (by decide), if_neg (by decide), if_neg (by decide), if_pos (by decide), if_neg (nI_pos (by omega)), fa1, fa2, ix, f57, sm, l2_bs]
    by_cases cc : ∀ d, d < m0 → s.2.1 a (wv (c.2.1 a) i x + d) = s.2.1 337 (pl + d)
    · rw [if_pos cc, if_neg (show ¬ (1 : Int32) = 0 by decide), bZ_t (eq.mp cc)]
    · rw [if_neg cc, if_pos rfl, bZ_f (fun z => cc (eq.mpr z))]
  · unfold k_X10_matches_61
    rw [if_pos (l2_ix ht (by decide)), nI_clamp (n := t) (by omega), f54, if_neg (by decide), if_neg (by decide), if_neg (by decide), if_neg (by decide), if_pos (by decide), if_pos (by decide), bZ_f (fun ⟨q, y, _⟩ => no_ns y)]
  · have b0 := pr x (by omega)
    obtain ⟨t0, m0, K0, z1, z2, z3, _⟩ := pd_val C pb pr pd hx
    have ne : nI K0 = (1 : Int32) ↔ K0 = 1 := nI_eq (b := 1) (by omega) (by decide)
    obtain ⟨q, hq⟩ : ∃ q, q = wq (r.2.1 1006) p x := ⟨_, rfl⟩
    rw [← hq] at b0 z3 ⊢
    have cm : lg_cmp (r.2.1 1006 (q + 1)) (lN b) = 0 ↔ r.2.1 1006 (q + 1) = lN b := l2_cmp0
    have e173 : ∀ k0 : Int64, k0 = lN b → (if nI K0 = (1 : Int32) then k_X13_toneMatch_173 rc k0 (r.2.1 1006 (q + 1)) s else (some ((0 : Int32), s))) = some (bZ (∃ q', some q = some q' ∧ r.2.1 1006 q' = lN 1 ∧ r.2.1 1006 (q' + 1) = lN b), s) := fun k0 hk0 => by
      by_cases c1 : K0 = 1
      · rw [if_pos (ne.mpr c1)]
        unfold k_X13_toneMatch_173
        rw [hk0]
        by_cases c2 : r.2.1 1006 (q + 1) = lN b
        · rw [if_pos (cm.mpr c2), bZ_t ⟨q, rfl, by rw [z3, c1], c2⟩]
        · rw [if_neg (fun y => c2 (cm.mp y)), bZ_f (fun ⟨q', y1, _, y2⟩ => by injection y1 with y1; rw [← y1] at y2; exact c2 y2)]
      · rw [if_neg (fun y => c1 (ne.mp y)), bZ_f (fun ⟨q', y1, y2, _⟩ => by injection y1 with y1; rw [← y1, z3] at y2; exact c1 (lN_inj (by omega) (by decide) y2))]
    unfold m_X13_toneMatch
    rw [if_pos (l2_ix (by omega) (by decide)), if_pos (l2_ix hn (by decide)), nI_clamp (n := n) (by omega), f55, nI_clamp (n := q) (by omega), f6, z3, lN_w, nI_1, nI_clamp (n := q + 1) (by omega), f6]
    simp only [if_pos (l2_ix (j := q + 1) (n := 626600) (by omega) (by decide))]
    rcases hK with rfl | rfl
    · rw [if_neg (by decide), if_neg (by decide), if_neg (by decide), if_neg (by decide), if_neg (by decide), if_pos (by decide), if_pos (show nI 24 = (24 : Int32) from rfl)]
      exact e173 1 (by rw [hb]; rfl)
    · rw [if_neg (by decide), if_neg (by decide), if_neg (by decide), if_neg (by decide), if_neg (by decide), if_neg (by decide), if_pos (by decide), if_neg (show ¬ nI 25 = (24 : Int32) by decide)]
      exact e173 0 (by rw [hb]; rfl)
  · unfold m_X13_omitMatch
    rw [if_pos (l2_ix hn (by decide)), nI_clamp (n := n) (by omega), f55]
    rcases hK with rfl | rfl
    · rw [if_neg (by decide), if_neg (by decide), if_neg (by decide), if_neg (by decide), if_pos (by decide), bZ_f (fun ⟨q, y, _⟩ => no_ns y)]
    · rw [if_neg (by decide), if_neg (by decide), if_neg (by decide), if_neg (by decide), if_neg (by decide), if_pos (by decide), bZ_f (fun ⟨q, y, _⟩ => no_ns y)]
theorem lf_word {X : Nat} {y : Int32} (C : CC c r a i p E τ) (pb : p + 260 ≤ 626600) (pr : ∀ x, x ≤ E → wq (r.2.1 1006) p x < p + 250) (pd : ∀ x, x < E → PD (c.2.1 a) (r.2.1 1006) i p E x) (hn : n < 13000) (ht : t < 6100) (hk : r.1 955 n = nI 28) (h54 : c.1 354 t = nI 6) (hX : X < 7934) (h57 : c.1 357 t = nI (66 + X)) (h7 : r.2.1 957 n = lN X) (hu : fU r n = some y) (hy : y < 0) : ∃ S, LfC c r a i p E t S ∧ LfR r p E n S := by
  refine ⟨fun o => ∃ q, o = some q ∧ r.2.1 1006 q = lN 3 ∧ r.2.1 1006 (q + 1) = lN X, lfc_of h54 (fun rc s dp fr f54 => ⟨fun x hx _ => ?_, ?_⟩), lfr_of hn hk (fun rc s fr f55 f6 => ?_)⟩
  · obtain ⟨w1, w2⟩ := C.wb x hx
    have ln := C.ln
    have hl' := wv_lt C pd hx
    obtain ⟨fa1, fa2, _, fa4⟩ := C.fa fr
    obtain ⟨t0, m0, K0, z1, z2, z3, ⟨_, z4⟩, _⟩ := pd_val C pb pr pd hx
    have ix : nI i + nI (wv (c.2.1 a) i x - i) = nI (wv (c.2.1 a) i x) := by rw [nI_add, show i + (wv (c.2.1 a) i x - i) = wv (c.2.1 a) i x by omega]
    have f57 : s.1 357 t = nI (66 + X) := ((cm_fr fr (by omega)).1).trans h57
    have pc : vl_c ((66 + X : Nat) : Int) 1 3 (f_X8_plainCell (3 : Int32) ((nI (66 + X)).toInt64) s) := vl_plain (t := ((66 + X : Nat) : Int)) (x := (nI (66 + X)).toInt64) (nI_lT (by omega)) (by omega) (by decide) (s := s) (y := 3) rfl
    have eq : c.2.1 a (wv (c.2.1 a) i x) = f_X8_plainCell (3 : Int32) ((nI (66 + X)).toInt64) s ↔ ∃ q, some (wq (r.2.1 1006) p x) = some q ∧ r.2.1 1006 q = lN 3 ∧ r.2.1 1006 (q + 1) = lN X := by
      constructor
      · intro e
        rw [e] at z1
        obtain ⟨u1, u2, u3⟩ := vl_un z1 pc
        obtain ⟨X', x1, x2, x3, _⟩ := z4 u3
        refine ⟨_, rfl, by rw [z3, u3], ?_⟩
        rw [x3, show X' = X by omega]
      · intro ⟨q, y1, y2, y3⟩
        injection y1 with y1
        rw [← y1, z3] at y2
        have k3 : K0 = 3 := lN_inj (by omega) (by decide) y2
        obtain ⟨X', x1, x2, x3, x4⟩ := z4 k3
        rw [← y1, x3] at y3
        have := lN_inj (by omega) (by omega) y3
        rw [x2, x4, k3, this, show ((X : Int) + 66) = ((66 + X : Nat) : Int) by omega] at z1
        exact vl_eq z1 pc
    unfold k_X10_matches_61
    rw [if_pos (l2_ix ht (by decide)), nI_clamp (n := t) (by omega), f54, if_neg (by decide), if_neg (by decide), if_neg (by decide), if_neg (by decide), if_neg (by decide), if_neg (by decide), if_pos (by decide), if_neg (nI_pos (by omega)), fa1, fa2, if_pos C.ok, ix, if_pos (l2_ix hl' (by omega)), nI_clamp (n := wv (c.2.1 a) i x) (by omega), fa4, f57]
    by_cases cc : c.2.1 a (wv (c.2.1 a) i x) = f_X8_plainCell (3 : Int32) ((nI (66 + X)).toInt64) s
    · rw [if_pos (l2_cmp0.mpr cc), bZ_t (eq.mp cc)]
    · rw [if_neg (fun z => cc (l2_cmp0.mp z)), bZ_f (fun z => cc (eq.mpr z))]
  · unfold k_X10_matches_61
    rw [if_pos (l2_ix ht (by decide)), nI_clamp (n := t) (by omega), f54, if_neg (by decide), if_neg (by decide), if_neg (by decide), if_neg (by decide), if_neg (by decide), if_neg (by decide), if_pos (by decide), if_pos (by decide), bZ_f (fun ⟨q, y, _⟩ => no_ns y)]
  · have ff : f_X13_find 967 0 (s.1 950 44) ((s.2.1 957 n).toInt32) s = some y := by
      rw [(rm_fr fr (j := 44) (b := 950) (by omega)).1, (rm_fr fr (j := n) (b := 957) (by omega)).2, fd_stg (fun j => (rm_fr fr (b := 967) (j := j) (by omega)).1)]
      exact hu
    have f57 : s.2.1 957 n = lN X := ((rm_fr fr (by omega)).2).trans h7
    refine ⟨fun x hx _ => ?_, ?_⟩
    · have b0 := pr x (by omega)
      obtain ⟨t0, m0, K0, z1, z2, z3, _⟩ := pd_val C pb pr pd hx
      have ne : nI K0 = (3 : Int32) ↔ K0 = 3 := nI_eq (b := 3) (by omega) (by decide)
      obtain ⟨q, hq⟩ : ∃ q, q = wq (r.2.1 1006) p x := ⟨_, rfl⟩
      rw [← hq] at b0 z3 ⊢
      unfold m_X13_toneMatch
      rw [if_pos (l2_ix (by omega) (by decide)), if_pos (l2_ix hn (by decide)), nI_clamp (n := n) (by omega), f55, if_neg (by decide), if_neg (by decide), if_neg (by decide), if_neg (by decide), if_neg (by decide), if_neg (by decide), if_neg (by decide), if_neg (by decide), if_neg (by decide), if_pos (by decide), ff, l2_bs, if_pos hy, nI_clamp (n := q) (by omega), f6, z3, lN_w, nI_1, if_pos (l2_ix (j := q + 1) (n := 626600) (by omega) (by decide)), nI_clamp (n := q + 1) (by omega), f6, f57]
      by_cases c3 : K0 = 3
      · rw [if_pos (ne.mpr c3)]
        by_cases c2 : r.2.1 1006 (q + 1) = lN X
        · rw [if_pos (l2_cmp0.mpr c2), bZ_t ⟨q, rfl, by rw [z3, c3], c2⟩]
        · rw [if_neg (fun y => c2 (l2_cmp0.mp y)), bZ_f (fun ⟨q', y1, _, y2⟩ => by injection y1 with y1; rw [← y1] at y2; exact c2 y2)]
      · rw [if_neg (fun y => c3 (ne.mp y)), bZ_f (fun ⟨q', y1, y2, _⟩ => by injection y1 with y1; rw [← y1, z3] at y2; exact c3 (lN_inj (by omega) (by decide) y2))]
    · unfold m_X13_omitMatch
      rw [if_pos (l2_ix hn (by decide)), nI_clamp (n := n) (by omega), f55, if_neg (by decide), if_neg (by decide), if_neg (by decide), if_neg (by decide), if_neg (by decide), if_neg (by decide), if_neg (by decide), if_neg (by decide), if_pos (by decide), ff, l2_bs, if_pos hy, bZ_f (fun ⟨q, y, _⟩ => no_ns y)]
end
