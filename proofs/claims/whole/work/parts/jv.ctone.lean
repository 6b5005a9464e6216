/-! Level 2: the class holds a part against a templ: length, leaves, names, @. -/
section
variable {c r s : t_S} {a i p E τ : Nat} {n t g k dp : Nat} {o : Option Nat}
/-- the cell of a part, both sides -/
theorem pd_hd {x : Nat} (pd : ∀ x, x < E → PD (c.2.1 a) (r.2.1 1006) i p E x) (hx : x < E) : ∃ (t : Int) (n K : Nat), vl_c t n K (c.2.1 a (wv (c.2.1 a) i x)) ∧ K ≤ 8 ∧ r.2.1 1006 (wq (r.2.1 1006) p x) = lN K ∧ (K = 2 ∨ K = 8 ∨ K = 6 → (r.2.1 1006 (wq (r.2.1 1006) p x + 1)).toInt = t) := by
  obtain ⟨f, n0, m0, t, k, ⟨_, V⟩, _⟩ := pd x hx
  obtain ⟨t, K, h1, h2, h3, _, _, _, _, _, h4, h5⟩ := V.hd
  exact ⟨t, n0, K, h1, h2, h3, fun z => by obtain ⟨v, v1, v2, v3⟩ := h4 z; rw [v3, pk_lT (by omega), v2]⟩
theorem wv_st {x : Nat} (pd : ∀ x, x < E → PD (c.2.1 a) (r.2.1 1006) i p E x) (hx : x < E) : wv (c.2.1 a) i x < wu (c.2.1 a) i (x + 1) := by
  have e : wu (c.2.1 a) i (x + 1) = wv (c.2.1 a) i x + (if vk (c.2.1 a (wv (c.2.1 a) i x)) = 2 then vsz (c.2.1 a (wv (c.2.1 a) i x)) else 1) := rfl
  obtain ⟨n, h1, h2⟩ : ∃ n, vsz (c.2.1 a (wv (c.2.1 a) i x)) = n ∧ 0 < n := by
    obtain ⟨f0, n1, m1, t1, k1, ⟨_, V⟩, z2, _⟩ := pd x hx
    exact ⟨n1, (vk_of z2).2, V.pos.1⟩
  rw [e, h1]
  by_cases c2 : vk (c.2.1 a (wv (c.2.1 a) i x)) = 2
  · rw [if_pos c2]; omega
  · rw [if_neg c2]; omega
theorem wv_lt {x : Nat} (C : CC c r a i p E τ) (pd : ∀ x, x < E → PD (c.2.1 a) (r.2.1 1006) i p E x) (hx : x < E) : wv (c.2.1 a) i x < t_ln a := by
  have h1 := wv_st pd hx
  have h2 := C.we (x + 1) (by omega)
  omega
theorem cq_len (C : CC c r a i p E τ) (pd : ∀ x, x < E → PD (c.2.1 a) (r.2.1 1006) i p E x) (ht : t < 6100) {b lo hi n0 : Nat} (hb : b ≤ 1) (hlo : lo ≤ 40) (hhi : hi ≤ 40) (h60 : c.1 360 t = nI b) (h59 : c.1 359 t = nI (1 + 256 * lo + 65536 * hi)) {Q : Option Nat → Prop} (hun : ∀ o, Mn r p E n o ↔ (o = none ∧ b = 1) ∨ ((∃ q, o = some q ∧ (r.2.1 1006 q = lN 2 ∨ r.2.1 1006 q = lN 8) ∧ (lo : Int) ≤ (r.2.1 1006 (q + 1)).toInt ∧ (r.2.1 1006 (q + 1)).toInt ≤ hi) ∧ Q o)) (hd : dp ≤ 100) (hT : CT c r a i p E τ g t dp Q) : CQ c r a i p E τ (g + 1) t n dp := by
  intro s o k hV fr hm
  have f60 : s.1 360 t = nI b := ((cm_fr fr (by omega)).1).trans h60
  have f59 : s.1 359 t = nI (1 + 256 * lo + 65536 * hi) := ((cm_fr fr (by omega)).1).trans h59
  have n0 : ¬ nI (1 + 256 * lo + 65536 * hi) = (0 : Int32) := nI_ne0 (by omega) (by omega)
  obtain ⟨s', h1, h2, h3, h4⟩ := hT s o k hV fr hm
  obtain ⟨fa1, fa2, _, fa4⟩ := C.fa fr
  show ∃ s', m_X10_matches (R_X10_behindPerm g) (nI t) (nI k - 1) (nI dp) s = _ ∧ _
  unfold m_X10_matches k_X10_matches_23
  rw [if_pos (show nI dp ≤ (100 : Int32) from nI_le (b := 100) hd (by decide))]
  simp only [if_pos (l2_ix (j := t) (n := 6100) ht (by decide)), nI_clamp (n := t) (show t < 2 ^ 31 by omega), f60, f59, if_neg n0]
  have kb := hV.bd C
  cases o with
  | none =>
    have k0 := hV.k0
    subst k0
    rw [if_neg (show ¬ (0 : Int32) ≤ nI 0 - 1 by decide), if_pos (show nI 0 - 1 < (0 : Int32) by decide)]
    by_cases e : b = 1
    · rw [if_neg (by rw [e]; decide), bZ_t ((hun none).mpr (Or.inl ⟨rfl, e⟩))]
      exact ⟨s, rfl, fr, hm, fun _ _ => rfl⟩
    · obtain rfl : b = 0 := by omega
      rw [if_pos (show nI 0 = (0 : Int32) from rfl), bZ_f (fun z => by
        rcases (hun none).mp z with w | ⟨⟨q, w, _⟩, _⟩
        · exact e w.2
        · exact no_ns w)]
      exact ⟨s, rfl, fr, hm, fun _ _ => rfl⟩
  | some q =>
    obtain ⟨x, hx, hq, hk, _⟩ := hV.nn
    obtain ⟨w1, w2⟩ := C.wb x hx
    obtain ⟨k', rfl⟩ : ∃ k', k = k' + 1 := ⟨k - 1, by omega⟩
    rw [nI_pm] at h1
    have hl := wv_lt C pd hx
    obtain ⟨t', n', K', z1, z2, z3, z4⟩ := pd_hd pd hx
    have ix : nI i + nI k' = nI (wv (c.2.1 a) i x) := by rw [nI_add, show i + k' = wv (c.2.1 a) i x by omega]
    have ln := C.ln
    rw [nI_pm, if_pos (nI_pos' (by omega)), if_neg (nI_pos (by omega)), fa1, fa2, if_pos C.ok, ix, if_pos (l2_ix hl (by omega)), nI_clamp (n := wv (c.2.1 a) i x) (by omega), fa4, hl_c hlo hhi z1]
    rw [← hq] at z3 z4
    have eq : ((K' = 2 ∨ K' = 8) ∧ (lo : Int) ≤ t' ∧ t' ≤ hi) ↔ ∃ q', some q = some q' ∧ (r.2.1 1006 q' = lN 2 ∨ r.2.1 1006 q' = lN 8) ∧ (lo : Int) ≤ (r.2.1 1006 (q' + 1)).toInt ∧ (r.2.1 1006 (q' + 1)).toInt ≤ hi := by
      constructor
      · intro ⟨y1, y2⟩
        refine ⟨q, rfl, ?_, by rw [z4 (y1.imp id Or.inl)]; exact y2⟩
        rcases y1 with e | e
        · exact Or.inl (by rw [z3, e])
        · exact Or.inr (by rw [z3, e])
      · intro ⟨q', y0, y1, y2⟩
        injection y0 with y0
        subst y0
        have kk : K' = 2 ∨ K' = 8 := by
          rcases y1 with e | e
          · rw [z3] at e; exact Or.inl (lN_inj (by omega) (by decide) e)
          · rw [z3] at e; exact Or.inr (lN_inj (by omega) (by decide) e)
        rw [z4 (kk.imp id Or.inl)] at y2
        exact ⟨kk, y2⟩
    have hun' : Mn r p E n (some q) ↔ ((K' = 2 ∨ K' = 8) ∧ (lo : Int) ≤ t' ∧ t' ≤ hi) ∧ Q (some q) := (hun (some q)).trans ⟨fun z => by
      rcases z with z | z
      · exact no_sn z.1
      · exact ⟨eq.mpr z.1, z.2⟩, fun z => Or.inr ⟨eq.mp z.1, z.2⟩⟩
    by_cases cl : (K' = 2 ∨ K' = 8) ∧ (lo : Int) ≤ t' ∧ t' ≤ hi
    · rw [bZ_t cl, if_neg (show ¬ (1 : Int32) = 0 by decide), bZ_i (hun'.trans ⟨fun z => z.2, fun z => ⟨cl, z⟩⟩)]
      exact ⟨s', h1, h2, h3, h4⟩
    · rw [bZ_f cl, if_pos rfl, bZ_f (fun z => cl (hun'.mp z).1)]
      exact ⟨s, rfl, fr, hm, fun _ _ => rfl⟩
/-- a leaf's meaning is one -/
theorem leaf_is {S : Option Nat → Prop} {F : Nat → Option Nat → Prop} (hS : LfR r p E n S) (h28 : r.1 955 n = 28 → ∃ y, fU r n = some y ∧ y < 0) (hk : ∃ K : Nat, r.1 955 n = nI K ∧ K < 100 ∧ K ≠ 41 ∧ K ≠ 30 ∧ K ≠ 29 ∧ K ≠ 31 ∧ K ≠ 32 ∧ K ≠ 33 ∧ K ≠ 34 ∧ K ≠ 36 ∧ K ≠ 37 ∧ K ≠ 39) (hV : VQ c r a i p E o k) : Mt r p E F n o ↔ S o := by
  obtain ⟨t1, t2⟩ := hS (R_X13_assign 0) r l2_fr.rf
  have inj : ∀ {A B : Prop} {s : t_S}, some (bZ A, s) = some (bZ B, s) → (A ↔ B) := fun {A B s} h => by
    injection h with h
    injection h with h
    exact ⟨fun ha => by rw [bZ_t ha] at h; exact bZ_1.mp h.symm, fun hb => by rw [bZ_t hb] at h; exact bZ_1.mp h⟩
  rw [Mt_leaf h28 hk]
  refine ⟨fun ⟨S', hS', h⟩ => ?_, fun h => ⟨S, hS, h⟩⟩
  obtain ⟨u1, u2⟩ := hS' (R_X13_assign 0) r l2_fr.rf
  cases o with
  | none => exact (inj (t2.symm.trans u2)).mpr h
  | some q =>
    obtain ⟨x, hx, hq, _, h4⟩ := hV.nn
    subst hq
    exact (inj ((t1 x hx h4).symm.trans (u1 x hx h4))).mpr h
theorem ct_leaf (C : CC c r a i p E τ) {S : Option Nat → Prop} {F : Nat → Option Nat → Prop} (hC : LfC c r a i p E t S) (hS : LfR r p E n S) (h28 : r.1 955 n = 28 → ∃ y, fU r n = some y ∧ y < 0) (hk : ∃ K : Nat, r.1 955 n = nI K ∧ K < 100 ∧ K ≠ 41 ∧ K ≠ 30 ∧ K ≠ 29 ∧ K ≠ 31 ∧ K ≠ 32 ∧ K ≠ 33 ∧ K ≠ 34 ∧ K ≠ 36 ∧ K ≠ 37 ∧ K ≠ 39) : CT c r a i p E τ g t dp (fun o => Mt r p E F n o) := by
  intro s o k hV fr hm
  refine ⟨s, ?_, fr, hm, fun _ _ => rfl⟩
  obtain ⟨t1, t2⟩ := hC (R_X10_behindPerm g) s (nI dp) fr
  rw [bZ_i (leaf_is hS h28 hk hV)]
  cases o with
  | none =>
    rw [hV.k0]
    exact t2
  | some q =>
    obtain ⟨x, hx, hq, hk, h4⟩ := hV.nn
    subst hq
    rw [hk, nI_pm]
    exact t1 x hx h4
theorem i_ix {u k : Nat} : nI u * (122 : Int32) + (nI k - 1) + 1 = nI (122 * u + k) := by
  rw [show (122 : Int32) = nI 122 from rfl, pk_mul, Int32.add_assoc, Int32.sub_add_cancel, nI_add, Nat.mul_comm]
theorem MemC.set (C : CC c r a i p E τ) (h : MemC c r a i p E τ s) {u b : Nat} (hu : u < 60) (hV : VQ c r a i p E o k) (hb : b ≤ 1) (hv : b = 1 ↔ Mn r p E (r.1 968 u).toNatClampNeg o) : MemC c r a i p E τ (t_setI s 424 (122 * u + k) (nI (2 * τ + b))) := by
  refine ⟨fun j hj => ?_, fun u' o' k' hu' hV' he => ?_⟩
  · rw [l2_g]
    by_cases e : j = 122 * u + k
    · rw [if_pos e]
      exact ⟨2 * τ + b, rfl, by omega⟩
    · rw [if_neg e]
      exact h.1 j hj
  have b1 := hV.bd C
  have b2 := hV'.bd C
  rw [l2_g] at he ⊢
  by_cases e : 122 * u' + k' = 122 * u + k
  · have e1 : u' = u := by omega
    have e2 : k' = k := by omega
    subst e1 e2
    rw [hV'.one C hV, if_pos rfl, ← hv, pk_andN (by have := C.tn.2; omega) 1 rfl]
    rw [show nI ((2 * τ + b) % 2 ^ 1) = (0 : Int32) ↔ (2 * τ + b) % 2 ^ 1 = 0 from nI_eq (b := 0) (by omega) (by decide)]
    omega
  · rw [if_neg e] at he ⊢
    exact h.2 u' o' k' hu' hV' he
/-- a template's name -/
theorem ct_link (C : CC c r a i p E τ) {u t' n' : Nat} (ht : t < 6100) (hk : r.1 955 n = 28) (h54 : c.1 354 t = 7) (hu : u < 60) (hf : fU r n = some (nI u)) (h57 : c.1 357 t = nI u) (h0 : c.1 (364 + u) 0 = nI t') (h68 : r.1 968 u = nI n') (hn' : n' < 13000) (h : CQ c r a i p E τ g t' n' (dp + 1)) : CT c r a i p E τ (g + 1) t dp (fun o => Mt r p E (Mn r p E) n o) := by
  intro s o k hV fr hm
  have kb := hV.bd C
  have f54 : s.1 354 t = 7 := ((cm_fr fr (by omega)).1).trans h54
  have f57 : s.1 357 t = nI u := ((cm_fr fr (by omega)).1).trans h57
  have f0 : s.1 (364 + u) 0 = nI t' := ((cm_fr fr (by omega)).1).trans h0
  obtain ⟨_, _, f13, _⟩ := C.fa fr
  have τb := C.tn.2
  have hM : Mt r p E (Mn r p E) n o ↔ Mn r p E n' o := by
    unfold Mt
    rw [hk, if_neg (by decide), if_neg (by decide), if_neg (by decide), if_neg (by decide), if_neg (by decide), if_neg (by decide), if_neg (by decide), if_neg (by decide), if_neg (by decide)]
    constructor
    · intro h
      rcases h with ⟨u', a1, a2, a3, a4⟩ | ⟨h, _⟩
      · rw [hf] at a3
        injection a3 with a3
        have : u = u' := (nI_eq (by omega) (by omega)).mp a3
        subst this
        rw [h68, nI_clamp (n := n') (by omega)] at a4
        exact a4
      · obtain ⟨y, y1, y2⟩ := h rfl
        rw [hf] at y1
        injection y1 with y1
        rw [← y1] at y2
        exact absurd y2 (nI_pos (by omega))
    · intro h
      exact Or.inl ⟨u, hu, rfl, hf, by rw [h68, nI_clamp (n := n') (by omega)]; exact h⟩
  have en : (r.1 968 u).toNatClampNeg = n' := by rw [h68, nI_clamp (n := n') (by omega)]
  rw [bZ_i hM]
  have ml : ∃ s', m_X10_matchesLink (R_X10_behindPerm g) (nI u) (nI k - 1) (nI dp) s = some (bZ (Mn r p E n' o), s') ∧ l2_fr cmW c s' ∧ MemC c r a i p E τ s' ∧ ∀ j, j < 12 * dp → s'.1 426 j = s.1 426 j := by
    unfold m_X10_matchesLink
    rw [i_ix, if_pos (l2_ix (by omega) (by decide)), nI_clamp (n := 122 * u + k) (by omega), f13]
    by_cases hit : (s.1 424 (122 * u + k)) >>> ((1 : Int32) &&& 31) = nI τ
    · rw [if_pos hit]
      have := hm.2 u o k hu hV hit
      rw [en] at this
      by_cases c0 : (s.1 424 (122 * u + k)) &&& (1 : Int32) = 0
      · rw [if_pos c0, bZ_f (this.mp c0)]
        exact ⟨s, rfl, fr, hm, fun _ _ => rfl⟩
      · rw [if_neg c0, bZ_t (Classical.byContradiction (fun z => c0 (this.mpr z)))]
        exact ⟨s, rfl, fr, hm, fun _ _ => rfl⟩
    · rw [if_neg hit, if_pos (l2_ix hu (by decide)), nI_clamp (n := u) (by omega)]
      obtain ⟨s1, h1, h2, h3, h4⟩ := h s o k hV fr hm
      have f13' := (C.fa h2).2.2.1
      rw [show 364 + 1 * u = 364 + u by omega, show (0 : Int32).toNatClampNeg = 0 from rfl, f0, nI_1, h1, l2_bs]
      have v1 : ∀ b : Nat, b ≤ 1 → (nI τ <<< ((1 : Int32) &&& 31)) ||| nI b = nI (2 * τ + b) := fun b hb => by
        have q := pk_shlN (n := τ) ((1 : Int32) &&& 31) 1 (by decide) (by omega)
        rw [q, Nat.mul_comm]
        exact fa_or_sum (k := 1) τ (by omega)
      have v11 : (nI τ <<< ((1 : Int32) &&& 31)) ||| (1 : Int32) = nI (2 * τ + 1) := v1 1 (by decide)
      have v10 : (nI τ <<< ((1 : Int32) &&& 31)) ||| (0 : Int32) = nI (2 * τ + 0) := v1 0 (by decide)
      unfold k_X10_matchesLink_84
      by_cases cM : Mn r p E n' o
      · rw [bZ_t cM, if_neg (show ¬ (1 : Int32) = 0 by decide), f13', if_pos (l2_ix (by omega) (by decide)), t_let, if_pos (show (1 : Int32) = 0 ∨ (1 : Int32) = 1 by decide), v11, nI_clamp (n := 122 * u + k) (by omega)]
        exact ⟨_, rfl, h2.trans (l2_fr.set (Or.inl rfl)), h3.set C hu hV (by decide) ⟨fun _ => by rw [en]; exact cM, fun _ => rfl⟩, fun j hj => by rw [l2_sO (by decide)]; exact h4 j (by omega)⟩
      · rw [bZ_f cM, if_pos rfl, f13', if_pos (l2_ix (by omega) (by decide)), t_let, if_pos (show (0 : Int32) = 0 ∨ (0 : Int32) = 1 by decide), v10, nI_clamp (n := 122 * u + k) (by omega)]
        exact ⟨_, rfl, h2.trans (l2_fr.set (Or.inl rfl)), h3.set C hu hV (by decide) ⟨fun z => absurd z (by decide), fun z => by rw [en] at z; exact absurd z cM⟩, fun j hj => by rw [l2_sO (by decide)]; exact h4 j (by omega)⟩
  obtain ⟨s', h1, h2⟩ := ml
  refine ⟨s', ?_, h2⟩
  unfold k_X10_matches_61
  rw [if_pos (l2_ix ht (by decide)), nI_clamp (n := t) (by omega), f54, if_neg (by decide), if_neg (by decide), if_neg (by decide), if_neg (by decide), if_neg (by decide), if_neg (by decide), if_neg (by decide), if_pos (by decide), f57]
  have : (R_X10_behindPerm (g + 1)).2.2.2.1 (nI u) (nI k - 1) (nI dp) s = some (bZ (Mn r p E n' o), s') := h1
  rw [this, l2_bs, if_pos bZ_01]
end
