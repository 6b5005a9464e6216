/-! Level 2: the class holds a part against a templ: subset, superset; perm. -/
section
variable {c r s : t_S} {a i p E τ x u m x0 : Nat} {n t g k dp v : Nat} {o : Option Nat} {T G I Qe : Nat → Nat}
theorem MemC.fw {s' : t_S} (h : MemC c r a i p E τ s) (f : l2_fr fW s s') : MemC c r a i p E τ s' := by
  refine ⟨fun j hj => ?_, fun u o k h1 h2 h3 => ?_⟩
  · rw [(f 424 j (by unfold fW; omega)).1]
    exact h.1 j hj
  have e : s'.1 424 (122 * u + k) = s.1 424 (122 * u + k) := (f 424 _ (by unfold fW; omega)).1
  rw [e] at h3 ⊢
  exact h.2 u o k h1 h2 h3
theorem fW_c {b j : Nat} (h : fW b j) : cmW b j := by
  unfold fW at h
  unfold cmW
  omega
theorem ct_sets {K C' : Nat} (C : CC c r a i p E τ) (pb : p + 260 ≤ 626600) (pr : ∀ x, x ≤ E → wq (r.2.1 1006) p x < p + 250) (pd : ∀ x, x < E → PD (c.2.1 a) (r.2.1 1006) i p E x) (ht : t < 6100) (hdp : dp ≤ 100) (hK : (K = 36 ∧ C' = 15) ∨ (K = 37 ∧ C' = 16)) (hk : r.1 955 n = nI K) (h54 : c.1 354 t = nI C') (hv : v ≤ 12) (hT : tc_R c t v T) (hc : ch_R r n v (gn r n)) (hj : ∀ j, j < v → T j < 6100 ∧ CQ c r a i p E τ g (T j) (gn r n j) (dp + 1)) : CT c r a i p E τ (g + 1) t dp (fun o => Mt r p E (Mn r p E) n o) := by
  intro s o k hV fr hm
  have f54 : s.1 354 t = nI C' := ((cm_fr fr (by omega)).1).trans h54
  obtain ⟨fa1, fa2, _, fa4⟩ := C.fa fr
  have ec := ch_cn hc (by omega)
  have need : ∀ o, Mt r p E (Mn r p E) n o → ∃ q, o = some q ∧ r.2.1 1006 q = lN 8 := fun o h => by
    unfold Mt at h
    rw [hk] at h
    rcases hK with ⟨rfl, _⟩ | ⟨rfl, _⟩
    · rw [if_neg (by decide), if_neg (by decide), if_neg (by decide), if_neg (by decide), if_neg (by decide), if_neg (by decide), if_neg (by decide), if_pos (by decide)] at h
      obtain ⟨q, m, h1, h2, _⟩ := h
      exact ⟨q, h1, h2⟩
    · rw [if_neg (by decide), if_neg (by decide), if_neg (by decide), if_neg (by decide), if_neg (by decide), if_neg (by decide), if_neg (by decide), if_neg (by decide), if_pos (by decide)] at h
      obtain ⟨q, m, h1, h2, _⟩ := h
      exact ⟨q, h1, h2⟩
  cases o with
  | none =>
    have k0 := hV.k0
    subst k0
    refine ⟨s, ?_, fr, hm, fun _ _ => rfl⟩
    rw [bZ_f (fun z => by obtain ⟨q, z, _⟩ := need none z; exact no_ns z)]
    unfold k_X10_matches_61
    rw [if_pos (l2_ix ht (by decide)), nI_clamp (n := t) (by omega), f54]
    rcases hK with ⟨_, rfl⟩ | ⟨_, rfl⟩
    · rw [if_neg (by decide), if_neg (by decide), if_neg (by decide), if_neg (by decide), if_neg (by decide), if_neg (by decide), if_neg (by decide), if_neg (by decide), if_neg (by decide), if_neg (by decide), if_neg (by decide), if_neg (by decide), if_neg (by decide), if_neg (by decide), if_neg (by decide), if_pos (by decide), if_pos (show nI 0 - 1 < (0 : Int32) by decide)]
    · rw [if_neg (by decide), if_neg (by decide), if_neg (by decide), if_neg (by decide), if_neg (by decide), if_neg (by decide), if_neg (by decide), if_neg (by decide), if_neg (by decide), if_neg (by decide), if_neg (by decide), if_neg (by decide), if_neg (by decide), if_neg (by decide), if_neg (by decide), if_neg (by decide), if_pos (by decide), if_pos (show nI 0 - 1 < (0 : Int32) by decide)]
  | some q =>
    obtain ⟨x, hx, hq', hk', _⟩ := hV.nn
    obtain ⟨w1, w2⟩ := C.wb x hx
    obtain ⟨k', rfl⟩ : ∃ k', k = k' + 1 := ⟨k - 1, by omega⟩
    have hl := wv_lt C pd hx
    have ln := C.ln
    obtain ⟨t0, n0, K8, hcl, K16, hr, _⟩ := pd_hd pd hx
    have ne : nI K8 = (8 : Int32) ↔ K8 = 8 := nI_eq (b := 8) (by omega) (by decide)
    have kx : k' = wv (c.2.1 a) i x - i := by omega
    have ix : nI i + nI k' = nI (wv (c.2.1 a) i x) := by rw [nI_add, show i + k' = wv (c.2.1 a) i x by omega]
    have st : k_X10_matches_61 (R_X10_behindPerm (g + 1)) (nI t) (nI (k' + 1) - 1) (nI dp) s = (if nI K8 = (8 : Int32) then ((m_X10_relate (R_X10_behindPerm g) (nI t) (nI k') (nI dp) s).bind (fun r35 => (f_X10_paired (nI dp) r35.1 (65535 : Int32) r35.2).bind (fun r36 => if (r36.2.1 354 t) = (15 : Int32) then (if t_oka (r36.2.2.2 353 14) 2 (t_ln (r36.2.2.2 353 14)) = true then if t_ix ((r36.2.1 353 15) + nI k') (t_ln (r36.2.2.2 353 14)) = true then k_X10_matches_609 (R_X10_behindPerm (g + 1)) (f_X8_partsOf (r36.2.2.1 (r36.2.2.2 353 14) (((r36.2.1 353 15) + nI k').toNatClampNeg)) r36.2) r36.1 r36.2 else none else none) else (k_X10_matches_609 (R_X10_behindPerm (g + 1)) r35.1 r36.1 r36.2)))) else (some ((0 : Int32), s))) := by
      have e : (R_X10_behindPerm (g + 1)).2.2.2.2.2.2 (nI t) (nI k') (nI dp) s = m_X10_relate (R_X10_behindPerm g) (nI t) (nI k') (nI dp) s := rfl
      unfold k_X10_matches_61
      rw [if_pos (l2_ix ht (by decide)), nI_clamp (n := t) (by omega), f54]
      rcases hK with ⟨_, rfl⟩ | ⟨_, rfl⟩
      · rw [if_neg (by decide), if_neg (by decide), if_neg (by decide), if_neg (by decide), if_neg (by decide), if_neg (by decide), if_neg (by decide), if_neg (by decide), if_neg (by decide), if_neg (by decide), if_neg (by decide), if_neg (by decide), if_neg (by decide), if_neg (by decide), if_neg (by decide), if_pos (by decide), nI_pm, if_neg (nI_pos (by omega)), fa1, fa2, if_pos C.ok, ix, if_pos (l2_ix hl (by omega)), nI_clamp (n := wv (c.2.1 a) i x) (by omega), fa4, vl_kind hcl, e]
      · rw [if_neg (by decide), if_neg (by decide), if_neg (by decide), if_neg (by decide), if_neg (by decide), if_neg (by decide), if_neg (by decide), if_neg (by decide), if_neg (by decide), if_neg (by decide), if_neg (by decide), if_neg (by decide), if_neg (by decide), if_neg (by decide), if_neg (by decide), if_neg (by decide), if_pos (by decide), nI_pm, if_neg (nI_pos (by omega)), fa1, fa2, if_pos C.ok, ix, if_pos (l2_ix hl (by omega)), nI_clamp (n := wv (c.2.1 a) i x) (by omega), fa4, vl_kind hcl, e]
    rw [st]
    by_cases e8 : K8 = 8
    · rw [if_pos (ne.mpr e8)]
      have h8 : r.2.1 1006 (wq (r.2.1 1006) p x) = lN 8 := by rw [hr, e8]
      obtain ⟨m, I, Qe, L⟩ := pd_k8 C pb pr pd hx h8
      obtain ⟨s1, a1, a2, a3, a4, a5⟩ := rel_go (G := gn r n) C L hdp hv ht hT hj fr hm
      rw [← kx] at a1
      obtain ⟨f, s2, b1, b2, b3⟩ := pa_go (s := s1) (m := v) (dp := dp) (x3 := 65535) (A := fun l e => e < m ∧ Mn r p E (gn r n l) (some (Qe e))) (B := fun e => e < 16) hv hdp a5 BS.full
      obtain ⟨k1, k2, k3⟩ := b3
      have c2 : l2_fr cmW c s2 := a2.trans (b2.mono (fun b j y => fW_c y))
      have m2 := a3.fw b2
      have r2 : ∀ j, j < 12 * dp → s2.1 426 j = s.1 426 j := fun j jd => ((b2 426 j (by unfold fW; omega)).1).trans (a4 j jd)
      obtain ⟨ga1, ga2, _, ga4⟩ := C.fa c2
      have g54 : s2.1 354 t = nI C' := ((cm_fr c2 (by omega)).1).trans h54
      obtain ⟨nn, hd⟩ := L.hd
      have m16 := L.m16
      have pe : f_X8_partsOf (c.2.1 a (wv (c.2.1 a) i x)) s2 = nI m := by
        unfold f_X8_partsOf
        rw [vl_i32 hd (by omega)]
      rw [a1, l2_bs, b1, l2_bs, ga1, ga2, g54, if_pos C.ok, ix, if_pos (l2_ix hl (by omega)), nI_clamp (n := wv (c.2.1 a) i x) (by omega), ga4, pe]
      have q8 : r.2.1 1006 q = lN 8 := by rw [hq']; exact h8
      have rm := L.rm
      rw [← hq'] at rm
      have em : ∀ m', r.2.1 1006 (q + 1) = lN m' → m' ≤ 16 → m' = m := fun m' h1 h2 => by rw [rm] at h1; exact (lN_inj (by omega) (by omega) h1).symm
      have eqL : ∀ e, e < m → ∀ q', eL r q e q' ↔ q' = Qe e := fun e he q' => by rw [hq']; exact L.eL he q'
      refine ⟨s2, ?_, c2, m2, r2⟩
      unfold k_X10_matches_609
      rcases hK with ⟨rfl, rfl⟩ | ⟨rfl, rfl⟩
      · rw [if_pos (by decide)]
        have hM : Mt r p E (Mn r p E) n (some q) ↔ f = m := by
          rw [k3 m (fun l e z => z.2.1.1) m16]
          have kk : kp_L (fun x y => y < v ∧ ∃ q', eL r q x q' ∧ Mn r p E (gn r n y) (some q')) m ↔ kp_L (fun e l => l < v ∧ eN v (fun l e => e < m ∧ Mn r p E (gn r n l) (some (Qe e))) (fun e => e < 16) l e) m := kp_cg (fun e l he => and_congr_right (fun hl' => ⟨fun ⟨q', z1, z2⟩ => ⟨hl', ⟨he, by rw [(eqL e he q').mp z1] at z2; exact z2⟩, by omega⟩, fun z => ⟨Qe e, (eqL e he _).mpr rfl, z.2.1.2⟩⟩))
          rw [← kk]
          unfold Mt
          rw [hk, if_neg (by decide), if_neg (by decide), if_neg (by decide), if_neg (by decide), if_neg (by decide), if_neg (by decide), if_neg (by decide), if_pos (by decide), ec]
          constructor
          · intro ⟨q', m', z1, z2, z3, z4, z5⟩
            injection z1 with z1
            subst z1
            rw [em m' z3 z4] at z5
            exact z5
          · intro z5
            exact ⟨q, m, rfl, q8, rm, m16, z5⟩
        by_cases cf : f = m
        · rw [if_pos (by rw [cf]), bZ_t (hM.mpr cf)]
        · rw [if_neg (fun z => cf ((nI_eq (by omega) (by omega)).mp z)), bZ_f (fun z => cf (hM.mp z))]
      · rw [if_neg (by decide)]
        have hM : Mt r p E (Mn r p E) n (some q) ↔ f = v := by
          rw [k2]
          have kk : kp_L (fun y x => x < m ∧ ∃ q', eL r q x q' ∧ Mn r p E (gn r n y) (some q')) v ↔ kp_L (eN v (fun l e => e < m ∧ Mn r p E (gn r n l) (some (Qe e))) (fun e => e < 16)) v := kp_cg (fun l e hl' => ⟨fun ⟨he, q', z1, z2⟩ => ⟨hl', ⟨he, by rw [(eqL e he q').mp z1] at z2; exact z2⟩, by omega⟩, fun z => ⟨z.2.1.1, Qe e, (eqL e z.2.1.1 _).mpr rfl, z.2.1.2⟩⟩)
          rw [← kk]
          unfold Mt
          rw [hk, if_neg (by decide), if_neg (by decide), if_neg (by decide), if_neg (by decide), if_neg (by decide), if_neg (by decide), if_neg (by decide), if_neg (by decide), if_pos (by decide), ec]
          constructor
          · intro ⟨q', m', z1, z2, z3, z4, z5⟩
            injection z1 with z1
            subst z1
            rw [em m' z3 z4] at z5
            exact z5
          · intro z5
            exact ⟨q, m, rfl, q8, rm, m16, z5⟩
        by_cases cf : f = v
        · rw [if_pos (by rw [cf]), bZ_t (hM.mpr cf)]
        · rw [if_neg (fun z => cf ((nI_eq (by omega) (by omega)).mp z)), bZ_f (fun z => cf (hM.mp z))]
    · rw [if_neg (fun w => e8 (ne.mp w)), bZ_f (fun z => by
        obtain ⟨q', w1, w⟩ := need _ z
        injection w1 with w1
        rw [← w1, hq', hr] at w
        exact e8 (lN_inj (by omega) (by omega) w))]
      exact ⟨s, rfl, fr, hm, fun _ _ => rfl⟩
/-- perm: behind which elements it may end -/
theorem bp_go {q gu : Nat} {R : Nat → Prop} {l3 : Int32} (C : CC c r a i p E τ) (L : LQ c r a i p E q x0 m I Qe) (hdp : dp ≤ 100) (hv : v ≤ 12) (ht : t < 6100) (hT : tc_R c t v T) (hQ : ∀ j, j < v → T j < 6100 ∧ CQ c r a i p E τ g (T j) (G j) (dp + 1)) (hR : BS l3 17 R) (fr : l2_fr cmW c s) (hm : MemC c r a i p E τ s) : ∃ l7 s', m_X10_behindPerm (R_X10_behindPerm (g + 1)) (nI t) (nI (x0 - i)) l3 (nI dp) s = some (l7, s') ∧ BS l7 17 (fun e' => e' ≤ m ∧ ∃ e, R e ∧ e' = e + v ∧ kp_L (fun x y => y < v ∧ e + x < m ∧ Mn r p E (G y) (some (Qe (e + x)))) v) ∧ l2_fr cmW c s' ∧ MemC c r a i p E τ s' ∧ ∀ x, x < 12 * dp → s'.1 426 x = s.1 426 x := by
  have lei := L.le
  have m16 := L.m16
  have ln := C.ln
  obtain ⟨fa1, fa2, _, fa4⟩ := C.fa fr
  obtain ⟨s1, a1, a2, a3, a4, a5⟩ := rel_go (G := G) C L hdp hv ht hT hQ fr hm
  have lp : ∀ (d e : Nat) (l7 : Int32) (s2 : t_S) (N : Nat), e + d = m + 1 → d < N → BS l7 17 (fun e' => e' ≤ m ∧ ∃ e0, e0 < e ∧ R e0 ∧ e' = e0 + v ∧ kp_L (fun x y => y < v ∧ e0 + x < m ∧ Mn r p E (G y) (some (Qe (e0 + x)))) v) → l2_fr fW s1 s2 → ∃ l7' s', t_loop (b_X10_behindPerm_32 (R_X10_behindPerm (g + 1))) N (l3, nI dp, nI m, nI v, l7, nI e, s2) = some (l7', s') ∧ BS l7' 17 (fun e' => e' ≤ m ∧ ∃ e0, R e0 ∧ e' = e0 + v ∧ kp_L (fun x y => y < v ∧ e0 + x < m ∧ Mn r p E (G y) (some (Qe (e0 + x)))) v) ∧ l2_fr fW s1 s' := by
    intro d
    induction d with
    | zero =>
      intro e l7 s2 N he hN hb f2
      obtain ⟨N, rfl⟩ : ∃ y, N = y + 1 := ⟨N - 1, by omega⟩
      refine ⟨l7, s2, l2_lpR ?_, hb.iff (fun e' => and_congr_right (fun h1 => ⟨fun ⟨e0, _, z⟩ => ⟨e0, z⟩, fun ⟨e0, z⟩ => ⟨e0, by have := z.2.1; omega, z⟩⟩)), f2⟩
      show k_X10_behindPerm_32 _ _ _ _ _ _ _ s2 = _
      unfold k_X10_behindPerm_32
      rw [nI_add, if_pos (nI_lt (show m < e + v by omega) (by omega))]
      rfl
    | succ d ih =>
      intro e l7 s2 N he hN hb f2
      obtain ⟨N, rfl⟩ : ∃ y, N = y + 1 := ⟨N - 1, by omega⟩
      by_cases cv : m < e + v
      · refine ⟨l7, s2, l2_lpR ?_, hb.iff (fun e' => and_congr_right (fun h1 => ⟨fun ⟨e0, _, z⟩ => ⟨e0, z⟩, fun ⟨e0, z⟩ => ⟨e0, by have := z.2.1; omega, z⟩⟩)), f2⟩
        show k_X10_behindPerm_32 _ _ _ _ _ _ _ s2 = _
        unfold k_X10_behindPerm_32
        rw [nI_add, if_pos (nI_lt cv (by omega))]
        rfl
      · have nl : ¬ nI m < nI (e + v) := fun z => cv ((nI_ltI (by omega) (by omega)).mp z)
        have T0 := (hR.test (e := e) (by omega) (by omega)).2
        have st : b_X10_behindPerm_32 (R_X10_behindPerm (g + 1)) (l3, nI dp, nI m, nI v, l7, nI e, s2) = (if ((l3 >>> (nI e &&& 31)) &&& (1 : Int32)) = 0 then some (.inl (l3, nI dp, nI m, nI v, l7, nI (e + 1), s2)) else ((f_X10_paired (nI dp) (nI v) ((((1 : Int32) <<< (nI v &&& 31)) - (1 : Int32)) <<< (nI e &&& 31)) s2).bind (fun r1 => if r1.1 = nI v then some (.inl (l3, nI dp, nI m, nI v, (l7 ||| ((1 : Int32) <<< (nI (e + v) &&& 31))), nI (e + 1), r1.2)) else some (.inl (l3, nI dp, nI m, nI v, l7, nI (e + 1), r1.2))))) := by
          show k_X10_behindPerm_32 _ _ _ _ _ _ _ s2 = _
          unfold k_X10_behindPerm_32 k_X10_behindPerm_77 k_X10_behindPerm_78 k_X10_behindPerm_97
          rw [nI_add, if_neg nl, if_pos rfl, nI_1]
          simp only [if_pos (show (0 : Int32) = 0 from rfl), if_neg (show ¬ (1 : Int32) = 0 by decide), if_true]
        by_cases cR : R e
        · rw [if_neg (fun z => T0.mp z cR)] at st
          have rows2 : ∀ j, j < v → BS (s2.1 426 (12 * dp + j)) 16 (fun y => y < m ∧ Mn r p E (G j) (some (Qe y))) := fun j jv => by rw [(f2 426 _ (by unfold fW; omega)).1]; exact a5 j jv
          obtain ⟨f, s3, b1, b2, b3⟩ := pa_go (s := s2) (m := v) (dp := dp) (A := fun l y => y < m ∧ Mn r p E (G l) (some (Qe y))) (B := fun y => e ≤ y ∧ y < e + v) hv hdp rows2 (BS.win (k := v) (e := e) (by omega))
          obtain ⟨k1, k2, _⟩ := b3
          rw [b1, l2_bs] at st
          have kk : f = v ↔ kp_L (fun x y => y < v ∧ e + x < m ∧ Mn r p E (G y) (some (Qe (e + x)))) v := by
            rw [k2, kp_inv (N := eN v (fun l y => y < m ∧ Mn r p E (G l) (some (Qe y))) (fun y => e ≤ y ∧ y < e + v)) (fun l y z => z.2.2)]
            exact kp_cg (fun x l hx => and_congr_right (fun hl => ⟨fun z => z.2.1, fun z => ⟨hl, z, by omega, by omega⟩⟩))
          by_cases cf : f = v
          · rw [if_pos (by rw [cf])] at st
            rw [l2_lpS st]
            refine ih (e + 1) _ s3 N (by omega) (by omega) ((hb.or (BS.bit (e := e + v) (n := 17) (by omega) (by omega))).iff (fun e' => ⟨fun z => ?_, fun ⟨z1, e0, z2, z3, z4, z5⟩ => ?_⟩)) (f2.trans b2)
            · rcases z with ⟨z1, e0, z2, z3⟩ | z
              · exact ⟨z1, e0, by omega, z3⟩
              · exact ⟨by omega, e, by omega, cR, z, kk.mp cf⟩
            · by_cases ce : e0 = e
              · exact Or.inr (by omega)
              · exact Or.inl ⟨z1, e0, by omega, z3, z4, z5⟩
          · rw [if_neg (fun z => cf ((nI_eq (by omega) (by omega)).mp z))] at st
            rw [l2_lpS st]
            refine ih (e + 1) _ s3 N (by omega) (by omega) (hb.iff (fun e' => ⟨fun ⟨z1, e0, z2, z3⟩ => ⟨z1, e0, by omega, z3⟩, fun ⟨z1, e0, z2, z3, z4, z5⟩ => ⟨z1, e0, ?_, z3, z4, z5⟩⟩)) (f2.trans b2)
            by_cases ce : e0 = e
            · rw [ce] at z5
              exact absurd (kk.mpr z5) cf
            · omega
        · rw [if_pos (T0.mpr cR)] at st
          rw [l2_lpS st]
          refine ih (e + 1) _ s2 N (by omega) (by omega) (hb.iff (fun e' => ⟨fun ⟨z1, e0, z2, z3⟩ => ⟨z1, e0, by omega, z3⟩, fun ⟨z1, e0, z2, z3, z4, z5⟩ => ⟨z1, e0, ?_, z3, z4, z5⟩⟩)) f2
          by_cases ce : e0 = e
          · rw [ce] at z3
            exact absurd z3 cR
          · omega
  obtain ⟨l7, s', h1, h2, h3⟩ := lp (m + 1) 0 0 s1 t_N (by omega) (by have := l2_N; omega) (BS.zero.iff (fun e => ⟨fun y => y.elim, fun ⟨_, e0, y, _⟩ => by omega⟩)) l2_fr.rf
  refine ⟨l7, s', ?_, h2, a2.trans (h3.mono (fun b j y => fW_c y)), a3.fw h3, fun x hx => ((h3 426 x (by unfold fW; omega)).1).trans (a4 x hx)⟩
  obtain ⟨n, hd⟩ := L.hd
  have pe : ∀ s : t_S, f_X8_partsOf (c.2.1 a x0) s = nI m := fun s => by
    unfold f_X8_partsOf
    rw [vl_i32 hd (by omega)]
  obtain ⟨ga1, ga2, _, ga4⟩ := C.fa a2
  have e : (R_X10_behindPerm (g + 1)).2.2.2.2.2.2 (nI t) (nI (x0 - i)) (nI dp) s = some (nI v, s1) := a1
  unfold m_X10_behindPerm
  rw [fa1, fa2, if_pos C.ok, nI_add, show i + (x0 - i) = x0 by omega, if_pos (l2_ix lei.2 (by omega)), e, l2_bs, nI_clamp (n := x0) (by omega), fa4, pe]
  exact h1
end
