/-! Level 2: systems, the turns of the search on both sides. -/
theorem sy_T.fr {s s' : t_S} {T : Nat → Nat} (h : sy_T (s.1 1059) T) (f : l2_fr sy_Wr s s') : sy_T (s'.1 1059) T := by
  intro i hi
  rw [(f 1059 i (by unfold sy_Wr; omega)).1]
  exact h i hi
theorem sy_T.fc {s s' : t_S} {T : Nat → Nat} (h : sy_T (s.1 947) T) (f : l2_fr sy_Wc s s') : sy_T (s'.1 947) T := by
  intro i hi
  rw [(f 947 i (by unfold sy_Wc; omega)).1]
  exact h i hi
theorem sy_turn1 {s : t_S} {T : Nat → Nat} (hT : sy_T (s.1 1059) T) {m n hi lo a : Nat} {c q : Int32} (hm : m < 4) (hn : n < 4) (hhi : hi < 256) (hlo : lo < 256) (ha : a ≤ 8) (nb : ¬ (4 ≤ a ∧ sy_nx T m hi a 8 ≠ 0 ∧ sy_nx T n lo a 8 = 0)) : k_X13_conforms_121 (nI m) (nI n) c q (nI hi) (nI lo) (nI a) s = k_X13_conforms_176 (nI m) (nI n) c q (nI hi) (nI lo) (nI a) (nI (sy_nx T m hi a 8)) (nI (sy_nx T n lo a 8)) s := by
  unfold k_X13_conforms_121
  have hx := sy_nx_lt hT hm ha (st := hi) 8 (Nat.le_refl 8)
  have hy := sy_nx_lt hT hn ha (st := lo) 8 (Nat.le_refl 8)
  have c9 : ¬ (9 : Int32) ≤ nI a := nI_ge (b := 9) (by omega) (by decide)
  rw [if_neg c9, sy_leads hT hm hhi ha, l2_bs, sy_leads hT hn hlo ha, l2_bs]
  by_cases h4 : a < 4
  · rw [if_pos (show nI a < (4 : Int32) from nI_lt (b := 4) h4 (by decide))]
  · rw [if_neg (show ¬ nI a < (4 : Int32) from nI_nlt (b := 4) (by omega) (by omega))]
    by_cases h0 : sy_nx T m hi a 8 = 0
    · rw [if_pos (by rw [h0]; rfl)]
    · rw [if_neg (fun z => h0 ((l2_z (by omega)).mp z)), if_neg (fun z => nb ⟨by omega, h0, (l2_z (by omega)).mp z⟩)]
def sy_ag (c : Nat) (P P' A A' B B' : Nat → Nat) : Prop := ∀ p, p < c → P' p = P p ∧ A' p = A p ∧ B' p = B p
theorem sy_ag.push {c c0 : Nat} {P P' A A' B B' : Nat → Nat} {v q a : Nat} (h : sy_ag (c + 1) (va_up P c v) P' (va_up A c q) A' (va_up B c a) B') (h0 : c0 ≤ c) : sy_ag c0 P P' A A' B B' := by
  intro p hp
  obtain ⟨h1, h2, h3⟩ := h p (by omega)
  rw [mj_up_ne _ _ (by omega)] at h1 h2 h3
  exact ⟨h1, h2, h3⟩
theorem sy_ct_ag {P P' A A' B B' : Nat → Nat} {c : Nat} (h : sy_ag c P P' A A' B B') : ∀ p, p ≤ c → sy_ct P' p = sy_ct P p
  | 0, _ => rfl
  | p + 1, hp => by
    show sy_ct P' p + (if 256 ≤ P' p then 1 else 0) = sy_ct P p + (if 256 ≤ P p then 1 else 0)
    rw [sy_ct_ag h p (by omega), (h p (by omega)).1]
theorem sy_till {T : Nat → Nat} {m n v q : Nat} (hm : m < 4) (hn : n < 4) (hv : v < 65536) : ∀ d j a, j + d = a → a ≤ 9 → ∀ {c : Nat} {P A B S : Nat → Nat} {s : t_S} {nr : Nat} {Q : ((Int32 × Int32 × Int32 × Int32 × t_S) ⊕ (Int32 × t_S)) → Prop}, 9 - j < nr → sy_RI s.1 c P A B S → sy_T (s.1 1059) T → q < c → P q = v → (∀ b, j ≤ b → b < a → ¬ (4 ≤ b ∧ sy_bad T m n v b)) →
    (∀ c' P' A' B' S' s' nr', 9 - a < nr' → sy_RI s'.1 c' P' A' B' S' → c ≤ c' → sy_ag c P P' A A' B B' → l2_fr sy_Wr s s' → s'.1 950 = s.1 950 → (v < 256 → ∀ F, sy_CI F c P A B S → sy_CI F c' P' A' B' S' ∧ sy_ct P' c' = sy_ct P c) → t_hk (t_loop b_X13_conforms_121 nr' (nI m, nI n, nI c', nI q, nI (v / 256), nI (v % 256), nI a, s')) Q) →
    t_hk (t_loop b_X13_conforms_121 nr (nI m, nI n, nI c, nI q, nI (v / 256), nI (v % 256), nI j, s)) Q := by
  intro d
  induction d with
  | zero =>
    intro j a e ha c P A B S s nr Q hn2 hR hT hq hP nb K
    have e : j = a := e
    subst e
    exact K c P A B S s nr hn2 hR (Nat.le_refl _) (fun _ _ => ⟨rfl, rfl, rfl⟩) l2_fr.rf rfl (fun _ F h => ⟨h, rfl⟩)
  | succ d ih =>
    intro j a e ha c P A B S s nr Q hn2 hR hT hq hP nb K
    obtain ⟨nr, rfl⟩ : ∃ k, nr = k + 1 := ⟨nr - 1, by omega⟩
    refine l2_t1 ?_
    show t_hk (k_X13_conforms_121 (nI m) (nI n) (nI c) (nI q) (nI (v / 256)) (nI (v % 256)) (nI j) s) _
    rw [sy_turn1 hT hm hn (by omega) (by omega) (by omega) (fun z => nb j (Nat.le_refl _) (by omega) ⟨z.1, z.2⟩)]
    have hx := sy_nx_lt hT hm (show j ≤ 8 by omega) (st := v / 256) 8 (Nat.le_refl 8)
    have hy := sy_nx_lt hT hn (show j ≤ 8 by omega) (st := v % 256) 8 (Nat.le_refl 8)
    have hx0 : v < 256 → sy_nx T m (v / 256) j 8 = 0 := fun z => by rw [Nat.div_eq_of_lt z]; exact sy_nx0 8
    have hh : sy_nx T m (v / 256) j 8 ≠ 0 → 256 ≤ P q := by
      intro z
      rw [hP]
      by_cases w : v < 256
      · exact absurd (hx0 w) z
      · omega
    rcases sy_step hR hx hy hq (show j ≤ 8 by omega) hh (l1 := nI m) (l2 := nI n) (l5 := nI (v / 256)) (l6 := nI (v % 256)) with ⟨_, e2⟩ | ⟨hy0, hs, s', e2, hR', f, g⟩
    · rw [e2]
      exact l2_sm (ih (j + 1) a (by omega) ha (by omega) hR hT hq hP (fun b h1 h2 => nb b (by omega) h2) K)
    · rw [e2]
      refine l2_sm (ih (j + 1) a (by omega) ha (by omega) hR' (hT.fr f) (by omega) (by rw [mj_up_ne _ _ (by omega)]; exact hP) (fun b h1 h2 => nb b (by omega) h2) ?_)
      intro c' P' A' B' S' s2 nr' k1 k2 k3 k4 k5 k6 k7
      refine K c' P' A' B' S' s2 nr' k1 k2 (by omega) (k4.push (Nat.le_refl _)) (f.trans k5) (k6.trans g) (fun z F hF => ?_)
      have w : 256 * sy_nx T m (v / 256) j 8 + sy_nx T n (v % 256) j 8 < 256 := by rw [hx0 z]; omega
      obtain ⟨u1, u2⟩ := sy_CI.low hR hF (q := q) (a := j) w
      obtain ⟨u3, u4⟩ := k7 z F u1
      exact ⟨u3, u4.trans u2⟩
theorem sy_rskip {s : t_S} {T : Nat → Nat} (hT : sy_T (s.1 947) T) {m n v a : Nat} {k : Int32} (hm : m < 4) (hn : n < 4) (hv : v < 65536) (ha : a ≤ 8) (h : sy_nx T m (v / 256) a 8 = 0 ∨ sy_nx T n (v % 256) a 8 = 0 ∨ s.1 948 (256 * sy_nx T m (v / 256) a 8 + sy_nx T n (v % 256) a 8) ≠ 0) : k_X9_reach_7 (nI m) (nI n) (nI v) k (nI a) s = some (.inl (nI m, nI n, nI v, k, nI (a + 1), s)) := by
  have hx := sy_nx_lt hT hm ha (st := v / 256) 8 (Nat.le_refl 8)
  have hy := sy_nx_lt hT hn ha (st := v % 256) 8 (Nat.le_refl 8)
  unfold k_X9_reach_7 k_X9_reach_105
  rw [if_neg (show ¬ (8 : Int32) < nI a from nI_nlt (a := 8) ha (by decide)), sy_hi hv, sy_lo hv, sy_next hT hm (by omega) ha, l2_bs, sy_next hT hn (by omega) ha, l2_bs, nI_1]
  generalize sy_nx T m (v / 256) a 8 = x at *
  generalize sy_nx T n (v % 256) a 8 = y at *
  by_cases x0 : x = 0
  · rw [if_pos (by rw [x0]; rfl)]
  rw [if_neg (fun z => x0 ((l2_z (by omega)).mp z))]
  by_cases y0 : y = 0
  · rw [if_pos (by rw [y0]; rfl)]
  rw [if_neg (fun z => y0 ((l2_z (by omega)).mp z))]
  have e : nI x <<< ((8 : Int32) &&& 31) ||| nI y = nI (256 * x + y) := by
    rw [pk_shlN _ 8 (by decide) (by omega), show x * 2 ^ 8 = 2 ^ 8 * x from Nat.mul_comm _ _]
    exact fa_or_sum x hy
  rw [e, if_pos (l2_ix (by omega) (by decide)), nI_clamp (by omega), if_neg (h.elim (fun z => absurd z x0) (fun z => z.elim (fun z => absurd z y0) id))]
theorem sy_rpush {s : t_S} {T : Nat → Nat} (hT : sy_T (s.1 947) T) {m n v a k : Nat} (hm : m < 4) (hn : n < 4) (hv : v < 65536) (ha : a ≤ 8) (hk : k < 65536) (h1 : sy_nx T m (v / 256) a 8 ≠ 0) (h2 : sy_nx T n (v % 256) a 8 ≠ 0) (h3 : s.1 948 (256 * sy_nx T m (v / 256) a 8 + sy_nx T n (v % 256) a 8) = 0) : ∃ s', k_X9_reach_7 (nI m) (nI n) (nI v) (nI k) (nI a) s = some (.inl (nI m, nI n, nI v, nI (k + 1), nI (a + 1), s')) ∧ s'.1 948 = va_up (s.1 948) (256 * sy_nx T m (v / 256) a 8 + sy_nx T n (v % 256) a 8) (nI (1 + (v * 16 + a))) ∧ s'.1 949 = va_up (s.1 949) k (nI (256 * sy_nx T m (v / 256) a 8 + sy_nx T n (v % 256) a 8)) ∧ l2_fr sy_Wc s s' := by
  have hx := sy_nx_lt hT hm ha (st := v / 256) 8 (Nat.le_refl 8)
  have hy := sy_nx_lt hT hn ha (st := v % 256) 8 (Nat.le_refl 8)
  unfold k_X9_reach_7 k_X9_reach_105
  rw [if_neg (show ¬ (8 : Int32) < nI a from nI_nlt (a := 8) ha (by decide)), sy_hi hv, sy_lo hv, sy_next hT hm (by omega) ha, l2_bs, sy_next hT hn (by omega) ha, l2_bs, nI_1]
  generalize sy_nx T m (v / 256) a 8 = x at *
  generalize sy_nx T n (v % 256) a 8 = y at *
  have e : nI x <<< ((8 : Int32) &&& 31) ||| nI y = nI (256 * x + y) := by
    rw [pk_shlN _ 8 (by decide) (by omega), show x * 2 ^ 8 = 2 ^ 8 * x from Nat.mul_comm _ _]
    exact fa_or_sum x hy
  have e2 : (1 : Int32) + (nI v <<< ((4 : Int32) &&& 31) ||| nI a) = nI (1 + (v * 16 + a)) := by
    rw [pk_shlN _ 4 (by decide) (by omega), show v * 2 ^ 4 = 2 ^ 4 * v from Nat.mul_comm _ _, fa_or_sum v (by omega : a < 2 ^ 4), show (1 : Int32) = nI 1 from rfl, nI_add]
  rw [if_neg (fun z => h1 ((l2_z (by omega)).mp z)), if_neg (fun z => h2 ((l2_z (by omega)).mp z)), e, if_pos (l2_ix (by omega) (by decide)), nI_clamp (by omega), if_pos h3, if_neg (show ¬ (65536 : Int32) ≤ nI k from nI_ge (b := 65536) hk (by decide)), e2]
  simp only [t_let]
  rw [if_pos (l2_ix (by omega) (by decide)), nI_clamp (by omega), nI_1]
  refine ⟨_, rfl, ?_, ?_, ?_⟩
  · rw [l2_sO (by decide), l2_sI]
  · rw [l2_sI, l2_sO (by decide)]
  · exact (l2_fr.set (Or.inr (Or.inl rfl))).trans (l2_fr.set (Or.inr (Or.inr rfl)))
theorem sy_turn {T : Nat → Nat} {m n v q : Nat} (hm : m < 4) (hn : n < 4) (hv : v < 65536) (hv2 : 256 ≤ v) (nb : ∀ a, 4 ≤ a → a ≤ 8 → ¬ sy_bad T m n v a) : ∀ d j, j + d = 9 → ∀ {c : Nat} {P A B S : Nat → Nat} {sc sr : t_S} {nc nr : Nat}, d < nc → d < nr → sy_RI sr.1 c P A B S → sy_CI sc.1 c P A B S → sy_T (sc.1 947) T → sy_T (sr.1 1059) T → q < c → P q = v →
    ∃ c' P' A' B' S' sc' sr', t_loop b_X9_reach_7 nc (nI m, nI n, nI v, nI (sy_ct P c), nI j, sc) = some (nI (sy_ct P' c'), sc') ∧ t_loop b_X13_conforms_121 nr (nI m, nI n, nI c, nI q, nI (v / 256), nI (v % 256), nI j, sr) = some (.inl (nI m, nI n, nI c', nI q + 1, sr')) ∧ sy_RI sr'.1 c' P' A' B' S' ∧ sy_CI sc'.1 c' P' A' B' S' ∧ c ≤ c' ∧ sy_ag c P P' A A' B B' ∧ l2_fr sy_Wc sc sc' ∧ l2_fr sy_Wr sr sr' ∧ sr'.1 950 = sr.1 950 := by
  intro d
  induction d with
  | zero =>
    intro j e c P A B S sc sr nc nr hnc hnr hR hC hTc hTr hq hP
    have e : j = 9 := e
    subst e
    obtain ⟨nc, rfl⟩ : ∃ k, nc = k + 1 := ⟨nc - 1, by omega⟩
    obtain ⟨nr, rfl⟩ : ∃ k, nr = k + 1 := ⟨nr - 1, by omega⟩
    refine ⟨c, P, A, B, S, sc, sr, l2_lpR ?_, l2_lpR ?_, hR, hC, Nat.le_refl _, fun _ _ => ⟨rfl, rfl, rfl⟩, l2_fr.rf, l2_fr.rf, rfl⟩
    · show k_X9_reach_7 (nI m) (nI n) (nI v) (nI (sy_ct P c)) (nI 9) sc = _
      unfold k_X9_reach_7
      rw [if_pos (show (8 : Int32) < nI 9 by decide)]
      rfl
    · show k_X13_conforms_121 (nI m) (nI n) (nI c) (nI q) (nI (v / 256)) (nI (v % 256)) (nI 9) sr = _
      unfold k_X13_conforms_121
      rw [if_pos (show (9 : Int32) ≤ nI 9 by decide)]
      rfl
  | succ d ih =>
    intro j e c P A B S sc sr nc nr hnc hnr hR hC hTc hTr hq hP
    obtain ⟨nc, rfl⟩ : ∃ k, nc = k + 1 := ⟨nc - 1, by omega⟩
    obtain ⟨nr, rfl⟩ : ∃ k, nr = k + 1 := ⟨nr - 1, by omega⟩
    have ha : j ≤ 8 := by omega
    have hx := sy_nx_lt hTr hm ha (st := v / 256) 8 (Nat.le_refl 8)
    have hy := sy_nx_lt hTr hn ha (st := v % 256) 8 (Nat.le_refl 8)
    have t1 := sy_turn1 hTr hm hn (show v / 256 < 256 by omega) (show v % 256 < 256 by omega) ha (c := nI c) (q := nI q) (fun z => nb j z.1 ha z.2)
    have hcc := hR.le
    have hct : sy_ct P c ≤ c := sy_ct_id c
    rcases sy_step hR hx hy hq ha (fun _ => by rw [hP]; exact hv2) (l1 := nI m) (l2 := nI n) (l5 := nI (v / 256)) (l6 := nI (v % 256)) with ⟨ho, e2⟩ | ⟨hy0, hs, s', e2, hR', f, g⟩
    · have sk : k_X9_reach_7 (nI m) (nI n) (nI v) (nI (sy_ct P c)) (nI j) sc = some (.inl (nI m, nI n, nI v, nI (sy_ct P c), nI (j + 1), sc)) := by
        refine sy_rskip hTc hm hn hv ha ?_
        rcases ho with ho | ho
        · exact Or.inr (Or.inl ho)
        · by_cases x0 : sy_nx T m (v / 256) j 8 = 0
          · exact Or.inl x0
          · refine Or.inr (Or.inr (fun z => ?_))
            have := (hC.2.2 _ (by omega) (by omega)).mp z
            omega
      obtain ⟨c', P', A', B', S', sc', sr', i1, i2, i3⟩ := ih (j + 1) (by omega) (show d < nc by omega) (show d < nr by omega) hR hC hTc hTr hq hP
      exact ⟨c', P', A', B', S', sc', sr', (l2_lpS sk).trans i1, (l2_lpS (t1.trans e2)).trans i2, i3⟩
    · have hlt := hR.lt (by omega) hs
      by_cases x0 : sy_nx T m (v / 256) j 8 = 0
      · have sk : k_X9_reach_7 (nI m) (nI n) (nI v) (nI (sy_ct P c)) (nI j) sc = some (.inl (nI m, nI n, nI v, nI (sy_ct P c), nI (j + 1), sc)) := sy_rskip hTc hm hn hv ha (Or.inl x0)
        obtain ⟨u1, u2⟩ := sy_CI.low hR hC (v := 256 * sy_nx T m (v / 256) j 8 + sy_nx T n (v % 256) j 8) (q := q) (a := j) (by omega)
        obtain ⟨c', P', A', B', S', sc', sr', i1, i2, i3, i4, i5, i6, i7, i8, i9⟩ := ih (j + 1) (by omega) (show d < nc by omega) (show d < nr by omega) hR' u1 hTc (hTr.fr f) (by omega) (by rw [mj_up_ne _ _ (by omega)]; exact hP)
        rw [u2] at i1
        exact ⟨c', P', A', B', S', sc', sr', (l2_lpS sk).trans i1, (l2_lpS (t1.trans e2)).trans i2, i3, i4, by omega, i6.push (Nat.le_refl _), i7, f.trans i8, i9.trans g⟩
      · have z := (hC.2.2 (256 * sy_nx T m (v / 256) j 8 + sy_nx T n (v % 256) j 8) (by omega) (by omega)).mpr hs
        obtain ⟨sc1, p1, p2, p3, p4⟩ := sy_rpush hTc hm hn hv ha (show sy_ct P c < 65536 by omega) x0 hy0 z
        obtain ⟨u1, u2⟩ := sy_CI.high hR hC (F' := sc1.1) (v := 256 * sy_nx T m (v / 256) j 8 + sy_nx T n (v % 256) j 8) (q := q) (a := j) (by omega) (by omega) hs hq ha (by rw [p2, hP]) p3
        obtain ⟨c', P', A', B', S', sc', sr', i1, i2, i3, i4, i5, i6, i7, i8, i9⟩ := ih (j + 1) (by omega) (show d < nc by omega) (show d < nr by omega) hR' u1 (hTc.fc p4) (hTr.fr f) (by omega) (by rw [mj_up_ne _ _ (by omega)]; exact hP)
        rw [u2] at i1
        exact ⟨c', P', A', B', S', sc', sr', (l2_lpS p1).trans i1, (l2_lpS (t1.trans e2)).trans i2, i3, i4, by omega, i6.push (Nat.le_refl _), p4.trans i7, f.trans i8, i9.trans g⟩
