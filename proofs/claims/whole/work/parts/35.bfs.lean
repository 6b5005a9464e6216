/-! Level 2: systems, the whole search on both sides. -/
def sy_out (sc sr : t_S) : Prop := ∃ (L : Nat) (X : Nat → Nat), L ≤ 65536 ∧ sc.1 946 3 = nI L ∧ sr.1 950 183 = nI L ∧ ∀ i, i < L → X i ≤ 8 ∧ sc.1 949 i = nI (X i) ∧ sr.1 1060 i = nI (X i)
def sy_Q (sc sr : t_S) (r1 r2 : Int32 × t_S) : Prop := r1.1 = r2.1 ∧ (r1.1 = 0 ∨ r1.1 = 1) ∧ sy_out r1.2 r2.2 ∧ l2_fr sy_Wc sc r1.2 ∧ l2_fr sy_Wr sr r2.2
theorem sy_end {m n x y : Int32} {sc sr : t_S} {nc nr : Nat} (hz : sr.1 950 183 = 0) : ∃ r1 r2, t_loop b_X9_follows_34 (nc + 1) (m, n, x, x, sc) = some r1 ∧ t_loop b_X13_conforms_86 (nr + 1) (m, n, y, y, sr) = some r2 ∧ sy_Q sc sr r1 r2 := by
  refine ⟨(1, t_setI sc 946 3 0), (1, sr), l2_lpR ?_, l2_lpR ?_, rfl, Or.inr rfl, ⟨0, fun _ => 0, by omega, ?_, ?_, fun i h => absurd h (by omega)⟩, l2_fr.set (Or.inl rfl), l2_fr.rf⟩
  · show k_X9_follows_34 m n x x sc = _
    unfold k_X9_follows_34
    rw [if_pos (Int32.le_refl x)]
    rfl
  · show k_X13_conforms_86 m n y y sr = _
    unfold k_X13_conforms_86
    rw [if_pos (Int32.le_refl y)]
    rfl
  · show (t_setI sc 946 3 0).1 946 3 = _
    rw [l2_sI, mj_up_eq]
    rfl
  · exact hz
theorem sy_bfs {T : Nat → Nat} {m n : Nat} (hm : m < 4) (hn : n < 4) : ∀ k q, q + k = 65536 → ∀ {c : Nat} {P A B S : Nat → Nat} {sc sr : t_S} {nc nr : Nat}, k < nc → k < nr → sy_RI sr.1 c P A B S → sy_CI sc.1 c P A B S → sy_T (sc.1 947) T → sy_T (sr.1 1059) T → sr.1 950 183 = 0 → q ≤ c →
    ∃ r1 r2, t_loop b_X9_follows_34 nc (nI m, nI n, nI (sy_ct P c), nI (sy_ct P q), sc) = some r1 ∧ t_loop b_X13_conforms_86 nr (nI m, nI n, nI c, nI q, sr) = some r2 ∧ sy_Q sc sr r1 r2 := by
  intro k
  induction k with
  | zero =>
    intro q e c P A B S sc sr nc nr hnc hnr hR hC hTc hTr hz hq
    have hc := hR.le
    have e2 : q = c := by omega
    subst e2
    obtain ⟨nc, rfl⟩ : ∃ k, nc = k + 1 := ⟨nc - 1, by omega⟩
    obtain ⟨nr, rfl⟩ : ∃ k, nr = k + 1 := ⟨nr - 1, by omega⟩
    exact sy_end hz
  | succ k ih =>
    intro q e c P A B S sc sr nc nr hnc hnr hR hC hTc hTr hz hq
    obtain ⟨nc, rfl⟩ : ∃ k, nc = k + 1 := ⟨nc - 1, by omega⟩
    obtain ⟨nr, rfl⟩ : ∃ k, nr = k + 1 := ⟨nr - 1, by omega⟩
    by_cases e2 : q = c
    · subst e2
      exact sy_end hz
    have hqc : q < c := by omega
    have hc := hR.le
    obtain ⟨v, hP⟩ : ∃ v, P q = v := ⟨_, rfl⟩
    have hv : v < 65536 := by rw [← hP]; exact (hR.2.2.2.2.1 q hqc).2.1
    have h63 : sr.1 1063 q = nI v := by rw [← hP]; exact (hR.2.2.2.2.1 q hqc).1
    have er : ∀ {Q : ((Int32 × Int32 × Int32 × Int32 × t_S) ⊕ (Int32 × t_S)) → Prop}, t_hk (t_loop b_X13_conforms_121 t_N (nI m, nI n, nI c, nI q, nI (v / 256), nI (v % 256), nI 0, sr)) Q → t_hk (b_X13_conforms_86 (nI m, nI n, nI c, nI q, sr)) Q := by
      intro Q h
      show t_hk (k_X13_conforms_86 (nI m) (nI n) (nI c) (nI q) sr) Q
      unfold k_X13_conforms_86
      rw [if_neg (nI_ge hqc (by omega)), if_pos (l2_ix (by omega) (by decide)), nI_clamp (by omega), h63, show (256 : Int32) = nI 256 from rfl, pk_div (by omega) (by decide) (by decide), pk_mul, pk_sub (by omega)]
      rw [show v - v / 256 * 256 = v % 256 by omega]
      exact h
    by_cases hv2 : v < 256
    · -- a pair whose first set is empty: the reference alone moves on
      have key : t_hk (b_X13_conforms_86 (nI m, nI n, nI c, nI q, sr)) (fun z => ∃ c' P' A' B' S' s', z = .inl (nI m, nI n, nI c', nI (q + 1), s') ∧ sy_RI s'.1 c' P' A' B' S' ∧ c ≤ c' ∧ sy_ag c P P' A A' B B' ∧ l2_fr sy_Wr sr s' ∧ s'.1 950 = sr.1 950 ∧ sy_CI sc.1 c' P' A' B' S' ∧ sy_ct P' c' = sy_ct P c) := by
        refine er (sy_till hm hn hv 9 0 9 rfl (by omega) (Nat.lt_trans (by decide) l2_N) hR hTr hqc hP (fun b _ _ z => z.2.1 (by rw [Nat.div_eq_of_lt hv2]; exact sy_nx0 8)) ?_)
        intro c' P' A' B' S' s' nr' k1 k2 k3 k4 k5 k6 k7
        obtain ⟨nr', rfl⟩ : ∃ k, nr' = k + 1 := ⟨nr' - 1, by omega⟩
        obtain ⟨u1, u2⟩ := k7 hv2 sc.1 hC
        refine l2_t1 ?_
        show t_hk (k_X13_conforms_121 (nI m) (nI n) (nI c') (nI q) (nI (v / 256)) (nI (v % 256)) (nI 9) s') _
        unfold k_X13_conforms_121
        rw [if_pos (show (9 : Int32) ≤ nI 9 by decide), nI_1]
        exact l2_mp (l2_sm ⟨c', P', A', B', S', s', rfl, k2, k3, k4, k5, k6, u1, u2⟩)
      obtain ⟨z, ez, c', P', A', B', S', s', rfl, k2, k3, k4, k5, k6, u1, u2⟩ := key
      obtain ⟨r1, r2, i1, i2, i3⟩ := ih (q + 1) (by omega) (show k < nc + 1 by omega) (show k < nr by omega) k2 u1 hTc (hTr.fr k5) (by rw [k6]; exact hz) (by omega)
      rw [u2, sy_ct_ag k4 (q + 1) (by omega), sy_ct_lo (by rw [hP]; omega)] at i1
      exact ⟨r1, r2, i1, (l2_lpS ez).trans i2, i3.1, i3.2.1, i3.2.2.1, i3.2.2.2.1, k5.trans i3.2.2.2.2⟩
    · have hv3 : 256 ≤ P q := by omega
      have hct : sy_ct P q < sy_ct P c := by
        have g1 := sy_ct_hi hv3
        have g2 := sy_ct_le (P := P) (p := q + 1) c (by omega)
        omega
      have hcc := sy_ct_id (P := P) c
      have h49 : sc.1 949 (sy_ct P q) = nI v := by rw [← hP]; exact hC.1 q hqc hv3
      have ec : k_X9_follows_34 (nI m) (nI n) (nI (sy_ct P c)) (nI (sy_ct P q)) sc = (f_X9_breaking (nI m) (nI n) (nI v) sc).bind (fun r2 => if r2 < (0 : Int32) then ((f_X9_reach (nI m) (nI n) (nI v) (nI (sy_ct P c)) sc).bind (fun r3 => some (.inl (nI m, nI n, r3.1, nI (sy_ct P q + 1), r3.2)))) else (((f_X9_writeBreak (nI v) r2 sc).bind (fun r4 => some ((0 : Int32), r4))).map Sum.inr)) := by
        unfold k_X9_follows_34
        rw [if_neg (nI_ge hct (by omega)), if_neg (show ¬ (65536 : Int32) ≤ nI (sy_ct P q) from nI_ge (b := 65536) (by omega) (by decide)), if_pos (l2_ix (by omega) (by decide)), nI_clamp (by omega), h49, nI_1]
      obtain ⟨r, e3, hr⟩ := sy_breaking hTc hm hn hv
      rcases hr with ⟨hr, nb⟩ | ⟨a, ha1, ha2, hr, hbad, hnb⟩
      · subst hr
        obtain ⟨c', P', A', B', S', sc', sr', i1, i2, i3, i4, i5, i6, i7, i8, i9⟩ := sy_turn hm hn hv (by omega) nb 9 0 rfl (Nat.lt_trans (by decide) l2_N : 9 < t_N) (Nat.lt_trans (by decide) l2_N : 9 < t_N) hR hC hTc hTr hqc hP
        have ec2 : b_X9_follows_34 (nI m, nI n, nI (sy_ct P c), nI (sy_ct P q), sc) = some (.inl (nI m, nI n, nI (sy_ct P' c'), nI (sy_ct P q + 1), sc')) := by
          show k_X9_follows_34 (nI m) (nI n) (nI (sy_ct P c)) (nI (sy_ct P q)) sc = _
          rw [ec, e3, l2_bs, if_pos (by decide)]
          unfold f_X9_reach
          have i1 : t_loop b_X9_reach_7 t_N (nI m, nI n, nI v, nI (sy_ct P c), 0, sc) = _ := i1
          rw [i1]
          rfl
        obtain ⟨z, ez, hz2⟩ := er (Q := fun z => z = .inl (nI m, nI n, nI c', nI (q + 1), sr')) ⟨_, i2, by rw [nI_1]⟩
        subst hz2
        obtain ⟨r1, r2, j1, j2, j3⟩ := ih (q + 1) (by omega) (show k < nc by omega) (show k < nr by omega) i3 i4 (hTc.fc i7) (hTr.fr i8) (by rw [i9]; exact hz) (by omega)
        rw [sy_ct_ag i6 (q + 1) (by omega), sy_ct_hi hv3] at j1
        exact ⟨r1, r2, (l2_lpS ec2).trans j1, (l2_lpS ez).trans j2, j3.1, j3.2.1, j3.2.2.1, i7.trans j3.2.2.2.1, i8.trans j3.2.2.2.2⟩
      · subst hr
        obtain ⟨d, hch⟩ := sy_chain hR hqc hv3
        obtain ⟨s1, w1, w2, w3, w4, w5⟩ := sy_wb (a := a) hch hC.2.1
        rw [hP] at w1
        have ec2 : b_X9_follows_34 (nI m, nI n, nI (sy_ct P c), nI (sy_ct P q), sc) = some (.inr (0, s1)) := by
          show k_X9_follows_34 (nI m) (nI n) (nI (sy_ct P c)) (nI (sy_ct P q)) sc = _
          rw [ec, e3, l2_bs, if_neg (nI_pos (by omega)), w1]
          rfl
        have hB : ∀ i, i < d → B (sy_it A (d - 1 - i) q) ≤ 8 := by
          intro i hi
          obtain ⟨g1, g2, g3, g4, g5, g6, g7, g8, g9, g10⟩ := hch
          exact g9 _ (g5 _ (by omega)) (by have := g6 (d - 1 - i) (by omega); omega)
        have hd : d ≤ q := hch.1
        have key : t_hk (b_X13_conforms_86 (nI m, nI n, nI c, nI q, sr)) (fun z => ∃ s', z = .inr (0, s') ∧ s'.1 950 183 = nI (d + 1) ∧ s'.1 1060 d = nI a ∧ (∀ i, i < d → s'.1 1060 i = nI (B (sy_it A (d - 1 - i) q))) ∧ l2_fr sy_Wr sr s') := by
          refine er (sy_till hm hn hv a 0 a (by omega) (by omega) (Nat.lt_trans (by decide) l2_N) hR hTr hqc hP (fun b _ h2 z => hnb b z.1 h2 z.2) ?_)
          intro c' P' A' B' S' s' nr' k1 k2 k3 k4 k5 k6 k7
          obtain ⟨nr', rfl⟩ : ∃ k, nr' = k + 1 := ⟨nr' - 1, by omega⟩
          refine l2_t1 ?_
          show t_hk (k_X13_conforms_121 (nI m) (nI n) (nI c') (nI q) (nI (v / 256)) (nI (v % 256)) (nI a) s') _
          have hT2 := hTr.fr k5
          have hx := sy_nx_lt hT2 hm ha2 (st := v / 256) 8 (Nat.le_refl 8)
          have hy := sy_nx_lt hT2 hn ha2 (st := v % 256) 8 (Nat.le_refl 8)
          unfold k_X13_conforms_121
          rw [if_neg (show ¬ (9 : Int32) ≤ nI a from nI_ge (b := 9) (by omega) (by decide)), sy_leads hT2 hm (by omega) ha2, l2_bs, sy_leads hT2 hn (by omega) ha2, l2_bs, if_neg (show ¬ nI a < (4 : Int32) from nI_nlt (b := 4) (by omega) (by omega)), if_neg (fun z => hbad.1 ((l2_z (by omega)).mp z)), hbad.2, if_pos (by rfl)]
          refine l2_mp (l2_mp ?_)
          refine l2_bd _ (sy_tb (a := a) hch k2 k3 k4) (fun s2 h => l2_sm ?_)
          exact ⟨s2, rfl, h.1, h.2.1, h.2.2.1, k5.trans h.2.2.2⟩
        obtain ⟨z, ez, s', rfl, g1, g2, g3, g4⟩ := key
        obtain ⟨Y, y1, y2⟩ : ∃ Y : Nat → Nat, Y d = a ∧ ∀ i, i ≠ d → Y i = B (sy_it A (d - 1 - i) q) := ⟨fun i => if i = d then a else B (sy_it A (d - 1 - i) q), if_pos rfl, fun i h => if_neg h⟩
        refine ⟨(0, s1), (0, s'), l2_lpR ec2, l2_lpR ez, rfl, Or.inl rfl, ⟨d + 1, Y, by omega, w2, g1, fun i hi => ?_⟩, w5, g4⟩
        by_cases ei : i = d
        · subst ei
          rw [y1]
          exact ⟨ha2, w3, g2⟩
        · rw [y2 i ei]
          exact ⟨hB i (by omega), w4 i (by omega), g3 i (by omega)⟩
