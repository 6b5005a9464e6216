/-! Level 2: the reference holds a part against a templ: { }. -/
section
variable {c r s : t_S} {a i p E σ x : Nat} {ti : Nat → Nat} {NS : Nat → Prop} {n g num v K : Nat} {G nn : Nat → Nat} {oo : Nat → Option Nat} {o : Option Nat} {y : Int32}
/-- a field of a part, both as told and as found -/
theorem pd_field (pb : p + 260 ≤ 626600) (pr : ∀ x, x ≤ E → wq (r.2.1 1006) p x < p + 250) (pd : ∀ x, x < E → PD (c.2.1 a) (r.2.1 1006) i p E x) (hx : x < E) (h6 : r.2.1 1006 (wq (r.2.1 1006) p x) = lN 6) {X : Nat} (hX : X < 7934) : ∃ o y num, (∀ s : t_S, s.2.1 1006 = r.2.1 1006 → f_X13_fieldOf (nI (wq (r.2.1 1006) p x)) (lN X) s = some y) ∧ PQ r p E o y num ∧ ((o = none ∧ y = -1) ∨ ∃ q, o = some q ∧ y = nI q ∧ q < 626600) := by
  obtain ⟨f, n0, m0, t, k, ⟨f120, V⟩, hc, ⟨hr, z, z1, z2, z3, _⟩, hk⟩ := pd x hx
  have xl := pr z z2
  rw [h6] at hr
  have k6 : k = 6 := (lN_inj (by decide) (by have := hc.2.2; omega) hr).symm
  rcases hk with ⟨y, _⟩ | ⟨y, _⟩ | ⟨v, I, P, C, y, _⟩ | ⟨v, I, P, X', C, _, y2, hv, y3, y4, I0, P0, Iv, Pv, hj⟩
  · exact absurd k6 y
  · omega
  · omega
  · have hq : ∀ j, j < v → wq (r.2.1 1006) p (C j) = wq (r.2.1 1006) p x + 2 + v + P j ∧ C j < E := fun j jv => ⟨(hj j jv).2.2.2.2.2.2.2, (hj j jv).2.2.2.2.2.1⟩
    have Pm : ∀ j, j < v → wq (r.2.1 1006) p x + 2 + v + P (j + 1) ≤ 626600 := fun j jv => by have := (hj j jv).1; omega
    have F : ∀ s : t_S, s.2.1 1006 = r.2.1 1006 → _ := fun s e6 => vw_field (s := s) (c := c.2.1 a) (f := f - 1) (v := v) (p := wq (r.2.1 1006) p x) (I := fun j => wv (c.2.1 a) i x + 1 + I j + 1) (P := P) (L := fun j => I (j + 1) - I j - 1) (X := X') (x := X) (by rw [e6]; exact h6) (by rw [e6]; exact y3) (by omega) P0 (fun j jv => ⟨(hj j jv).1.2.1, Pm j jv, by rw [e6]; exact (hj j jv).2.2.2.1⟩) (by omega) (by omega) (fun j jv => ⟨by rw [e6]; exact (hj j jv).2.1.2.2.2, (hj j jv).2.1.1⟩) hX
    by_cases cf : ff X' X v 0 < v
    · obtain ⟨q1, q2⟩ := hq _ cf
      have l4 := (hj _ cf).2.2.1
      rw [← q1] at l4
      exact ⟨_, _, _, fun s e6 => by have := F s e6; rw [if_pos cf, ← q1] at this; exact this, PQ.mk q2 l4, Or.inr ⟨_, rfl, rfl, by have := pr _ (Nat.le_of_lt q2); omega⟩⟩
    · exact ⟨none, -1, 0, fun s e6 => by have := F s e6; rw [if_neg cf] at this; exact this, PQ.no, Or.inl ⟨rfl, rfl⟩⟩
theorem rec_go (hx : x < 626599) (hv : v ≤ 16) (hc : ch_R r n v G) (hG : ∀ j, j < v → r.1 959 (G j) = nI (nn j) ∧ nn j < 13000) (hq : ∀ j, j < v → RQ r p E σ ti NS g (nn j)) {yy : Nat → Int32} {nu : Nat → Nat} (hf : ∀ j, j < v → (∀ s : t_S, s.2.1 1006 = r.2.1 1006 → f_X13_fieldOf (nI x) (r.2.1 957 (G j)) s = some (yy j)) ∧ PQ r p E (oo j) (yy j) (nu j)) {u : Nat} (hu : u ≤ 59) (h1 : r.2.1 1006 (x + 1) = lN u) : ∀ (d j : Nat) (s1 : t_S) (N : Nat), j + d = v → d < N → (∀ k, k < j → Mn r p E (nn k) (oo k)) → l2_fr rmW r s1 → MemR r p E σ ti NS s1 → ∃ s', t_loop (b_X13_recordMatch_10 (R_X13_assign g)) N (nI x, nI (sy_cn (fun j => if yy j < 0 then 0 else 1) j), nxG v G j, s1) = some (bZ ((∀ k, k < v → Mn r p E (nn k) (oo k)) ∧ u = sy_cn (fun j => if yy j < 0 then 0 else 1) v), s') ∧ l2_fr rmW r s' ∧ MemR r p E σ ti NS s' := by
  intro d
  have cl : ∀ j, sy_cn (fun j => if yy j < 0 then 0 else 1) j ≤ j := fun j => sy_cn_le j (fun v _ => by split <;> omega)
  induction d with
  | zero =>
    intro j s1 N hj hN ha fr hm
    obtain ⟨N, rfl⟩ : ∃ y, N = y + 1 := ⟨N - 1, by omega⟩
    obtain rfl : j = v := by omega
    refine ⟨s1, l2_lpR ?_, fr, hm⟩
    show k_X13_recordMatch_10 _ _ _ _ s1 = _
    unfold k_X13_recordMatch_10
    rw [nx_out (by omega), if_pos (show (-1 : Int32) < 0 by decide), nI_1, if_pos (l2_ix (by omega) (by decide)), nI_clamp (n := x + 1) (by omega), (rm_fr fr (by omega)).2, h1, lN_w]
    have := cl j
    by_cases e : u = sy_cn (fun j => if yy j < 0 then 0 else 1) j
    · rw [if_pos (by rw [← e]), bZ_t ⟨ha, e⟩]
      rfl
    · rw [if_neg (fun z => e ((nI_eq (by omega) (by omega)).mp z).symm), bZ_f (fun z => e z.2)]
      rfl
  | succ d ih =>
    intro j s1 N hj hN ha fr hm
    obtain ⟨N, rfl⟩ : ∃ y, N = y + 1 := ⟨N - 1, by omega⟩
    obtain ⟨g1, _, _, _⟩ := hc.2 j (by omega)
    obtain ⟨f1, f2⟩ := hf j (by omega)
    have e6 : s1.2.1 1006 = r.2.1 1006 := by funext z; exact (rm_fr fr (by omega)).2
    have F := f1 s1 e6
    obtain ⟨s2, h2, h3, h4⟩ := hq j (by omega) s1 (oo j) (yy j) (nu j) f2 fr hm
    have e59 : s1.1 959 (G j) = nI (nn j) := ((rm_fr fr (by omega)).1).trans (hG j (by omega)).1
    have e57 : s1.2.1 957 (G j) = r.2.1 957 (G j) := (rm_fr fr (by omega)).2
    have e60 : s2.1 960 (G j) = nxG v G (j + 1) := ((rm_fr h3 (by omega)).1).trans (ch_nx hc (by omega))
    have st : b_X13_recordMatch_10 (R_X13_assign g) (nI x, nI (sy_cn (fun j => if yy j < 0 then 0 else 1) j), nxG v G j, s1) = (if bZ (Mn r p E (nn j) (oo j)) = (0 : Int32) then some (.inr (0, s2)) else some (.inl (nI x, nI (sy_cn (fun j => if yy j < 0 then 0 else 1) (j + 1)), nxG v G (j + 1), s2))) := by
      show k_X13_recordMatch_10 _ _ _ _ s1 = _
      unfold k_X13_recordMatch_10 k_X13_recordMatch_58
      rw [nx_in (by omega), if_neg (nI_pos (by omega)), if_pos (l2_ix g1 (by decide)), nI_clamp (n := G j) (by omega), e57, F, l2_bs, e59, h2, l2_bs]
      have e : sy_cn (fun j => if yy j < 0 then 0 else 1) (j + 1) = sy_cn (fun j => if yy j < 0 then 0 else 1) j + (if yy j < 0 then 0 else 1) := rfl
      by_cases cM : bZ (Mn r p E (nn j) (oo j)) = (0 : Int32)
      · rw [if_pos cM, if_pos cM]
        rfl
      · rw [if_neg cM, if_neg cM, e]
        by_cases cy : yy j < 0
        · rw [if_pos cy, if_pos cy, if_pos (l2_ix g1 (by decide)), e60, show (0 : Int32) = nI 0 from rfl, nI_add]
        · rw [if_neg cy, if_neg cy, if_pos (l2_ix g1 (by decide)), e60, show (1 : Int32) = nI 1 from rfl, nI_add]
    by_cases cM : Mn r p E (nn j) (oo j)
    · rw [if_neg (by rw [bZ_t cM]; decide)] at st
      rw [l2_lpS st]
      refine ih (j + 1) s2 N (by omega) (by omega) (fun k hk => ?_) h3 h4
      by_cases ck : k = j
      · rw [ck]; exact cM
      · exact ha k (by omega)
    · rw [if_pos (bZ_f cM)] at st
      rw [bZ_f (fun z => cM (z.1 j (by omega)))]
      exact ⟨s2, l2_lpR st, h3, h4⟩
theorem rt_rec {X : Nat → Nat} (hn : n < 13000) (hk : r.1 955 n = 29) (hv : v ≤ 16) (hc : ch_R r n v (gn r n)) (hX : ∀ j, j < v → X j < 7934 ∧ r.2.1 957 (gn r n j) = lN (X j) ∧ r.1 959 (gn r n j) = nI (nn j) ∧ nn j < 13000) (pb : p + 260 ≤ 626600) (pr : ∀ x, x ≤ E → wq (r.2.1 1006) p x < p + 250) (pd : ∀ x, x < E → PD (c.2.1 a) (r.2.1 1006) i p E x) (h1 : ∀ j, j < v → RQ r p E σ ti NS g (nn j)) : RT r p E σ ti NS (g + 1) n (fun o => Mt r p E (Mn r p E) n o) := by
  intro s o y num hP fr hm
  have f55 : s.1 955 n = 29 := ((rm_fr fr (by omega)).1).trans hk
  have f59 : s.1 959 n = nxG v (gn r n) 0 := ((rm_fr fr (by omega)).1).trans hc.1
  have ec := ch_cn hc hv
  have hM : ∀ o, Mt r p E (Mn r p E) n o ↔ ∃ q, o = some q ∧ r.2.1 1006 q = lN 6 ∧ (∀ j, j < v → ∃ o', fO r q (gn r n j) o' ∧ Mn r p E (nn j) o') ∧ r.2.1 1006 (q + 1) = lN (sy_cn (fun j => fP r q (gn r n j)) v) := fun o => by
    unfold Mt
    rw [hk, if_neg (by decide), if_neg (by decide), if_pos rfl, ec]
    have e : ∀ q, (∀ j, j < v → ∃ o', fO r q (gn r n j) o' ∧ Mn r p E (gn r (gn r n j) 0) o') ↔ (∀ j, j < v → ∃ o', fO r q (gn r n j) o' ∧ Mn r p E (nn j) o') := fun q => ⟨fun z j jv => by have := z j jv; rw [gn_0 (hX j jv).2.2.1 (hX j jv).2.2.2] at this; exact this, fun z j jv => by rw [gn_0 (hX j jv).2.2.1 (hX j jv).2.2.2]; exact z j jv⟩
    exact ⟨fun ⟨q, a1, a2, a3, a4⟩ => ⟨q, a1, a2, (e q).mp a3, a4⟩, fun ⟨q, a1, a2, a3, a4⟩ => ⟨q, a1, a2, (e q).mpr a3, a4⟩⟩
  rw [bZ_i (hM o)]
  cases o with
  | none =>
    rw [if_pos rfl, bZ_f (fun ⟨q, z, _⟩ => no_ns z)]
    refine ⟨s, ?_, fr, hm⟩
    unfold m_X13_omitMatch
    rw [if_pos (l2_ix hn (by decide)), nI_clamp (n := n) (by omega), f55, if_neg (by decide), if_neg (by decide), if_neg (by decide), if_neg (by decide), if_neg (by decide), if_neg (by decide), if_neg (by decide), if_neg (by decide), if_neg (by decide), if_pos (by decide)]
  | some x =>
    obtain ⟨k, k1, k2, k3, _, k4⟩ := hP.nn
    subst k3
    have xl := pr k (by omega)
    rw [← k2] at xl
    rw [if_neg (fun z => no_sn z)]
    have f6 : ∀ j, s.2.1 1006 j = r.2.1 1006 j := fun j => (rm_fr fr (by omega)).2
    obtain ⟨f0, n0, m0, t0, K, ⟨_, V0⟩, hcl, ⟨hr, _⟩, hkk⟩ := pd k k1
    rw [← k2] at hr
    have K16 := hcl.2.2
    have ne : nI K = (6 : Int32) ↔ K = 6 := nI_eq (b := 6) (by omega) (by decide)
    have M : m_X13_toneMatch (R_X13_assign (g + 1)) (nI n) (nI x) s = (if nI K = (6 : Int32) then ((m_X13_recordMatch (R_X13_assign g) (nI n) (nI x) s).bind (fun r18 => if r18.1 = (0 : Int32) then (some ((0 : Int32), r18.2)) else (some ((1 : Int32), r18.2)))) else some (0, s)) := by
      unfold m_X13_toneMatch
      rw [if_pos (l2_ix (by omega) (by decide)), if_pos (l2_ix hn (by decide)), nI_clamp (n := n) (by omega), f55, if_neg (by decide), if_neg (by decide), if_neg (by decide), if_neg (by decide), if_neg (by decide), if_neg (by decide), if_neg (by decide), if_neg (by decide), if_neg (by decide), if_neg (by decide), if_pos (by decide), nI_clamp (n := x) (by omega), f6, hr, lN_w]
      rfl
    rw [M]
    by_cases e6 : K = 6
    · rw [if_pos (ne.mpr e6)]
      rcases hkk with ⟨z, _⟩ | ⟨z, _⟩ | ⟨v', I, P, C, z, _⟩ | ⟨u, I, P, X', C, _, y2, hu, y3, _⟩
      · exact absurd e6 z
      · omega
      · omega
      · rw [← k2] at y3
        have h6 : r.2.1 1006 (wq (r.2.1 1006) p k) = lN 6 := by rw [← k2, hr, e6]
        obtain ⟨W, hW⟩ := l2_ch (P := fun j (w : Option Nat × Int32 × Nat) => (∀ s : t_S, s.2.1 1006 = r.2.1 1006 → f_X13_fieldOf (nI x) (r.2.1 957 (gn r n j)) s = some w.2.1) ∧ PQ r p E w.1 w.2.1 w.2.2 ∧ ((w.1 = none ∧ w.2.1 = -1) ∨ ∃ q, w.1 = some q ∧ w.2.1 = nI q ∧ q < 626600)) (v := v) (fun j c => by
          obtain ⟨o, y, num, b1, b2, b3⟩ := pd_field pb pr pd k1 h6 (hX j c).1
          refine ⟨(o, y, num), fun s es => ?_, b2, b3⟩
          rw [k2, (hX j c).2.1]
          exact b1 s es)
        obtain ⟨s', z1, z2, z3⟩ := rec_go (x := x) (oo := fun j => (W j).1) (yy := fun j => (W j).2.1) (nu := fun j => (W j).2.2) (by omega) hv hc (fun j jv => ⟨(hX j jv).2.2.1, (hX j jv).2.2.2⟩) h1 (fun j jv => ⟨(hW j jv).1, (hW j jv).2.1⟩) hu y3 v 0 s t_N (by omega) (by have := l2_N; omega) (fun k hk => by omega) fr hm
        refine ⟨s', ?_, z2, z3⟩
        have rm : m_X13_recordMatch (R_X13_assign g) (nI n) (nI x) s = t_loop (b_X13_recordMatch_10 (R_X13_assign g)) t_N (nI x, nI (sy_cn (fun j => if (W j).2.1 < 0 then 0 else 1) 0), nxG v (gn r n) 0, s) := by
          unfold m_X13_recordMatch
          rw [if_pos (l2_ix hn (by decide)), nI_clamp (n := n) (by omega), f59]
          rfl
        have fo : ∀ j, j < v → ∀ o', fO r x (gn r n j) o' ↔ o' = (W j).1 := fun j jv o' => by
          obtain ⟨w1, _, w3⟩ := hW j jv
          have w1 := w1 r rfl
          constructor
          · intro ⟨y, q1, q2⟩
            rw [w1] at q1
            injection q1 with q1
            subst q1
            rcases w3 with ⟨v1, v2⟩ | ⟨q, v1, v2, v3⟩
            · rcases q2 with ⟨_, q2⟩ | ⟨q', q2, q3, _⟩
              · rw [q2, v1]
              · rw [v2] at q2
                have : (-1 : Int32) < 0 := by decide
                rw [q2] at this
                exact absurd this (nI_pos (by omega))
            · rcases q2 with ⟨q2, _⟩ | ⟨q', q2, q3, q4⟩
              · rw [v2] at q2
                exact absurd q2 (nI_pos (by omega))
              · rw [v2] at q2
                rw [q4, v1, (nI_eq (by omega) (by omega)).mp q2]
          · intro e
            refine ⟨_, w1, ?_⟩
            rcases w3 with ⟨v1, v2⟩ | ⟨q, v1, v2, v3⟩
            · exact Or.inl ⟨by rw [v2]; decide, by rw [e, v1]⟩
            · exact Or.inr ⟨q, v2, v3, by rw [e, v1]⟩
        have fp : ∀ m, m ≤ v → sy_cn (fun j => fP r x (gn r n j)) m = sy_cn (fun j => if (W j).2.1 < 0 then 0 else 1) m := fun m => by
          induction m with
          | zero => intro _; rfl
          | succ m ihm =>
            intro hm
            show sy_cn (fun j => fP r x (gn r n j)) m + fP r x (gn r n m) = sy_cn (fun j => if (W j).2.1 < 0 then 0 else 1) m + (if (W m).2.1 < 0 then 0 else 1)
            rw [ihm (by omega)]
            unfold fP
            rw [(hW m (by omega)).1 r rfl]
        have cl : sy_cn (fun j => if (W j).2.1 < 0 then 0 else 1) v ≤ v := sy_cn_le v (fun v _ => by split <;> omega)
        have eq : ((∀ k, k < v → Mn r p E (nn k) (W k).1) ∧ u = sy_cn (fun j => if (W j).2.1 < 0 then 0 else 1) v) ↔ ∃ q, some x = some q ∧ r.2.1 1006 q = lN 6 ∧ (∀ j, j < v → ∃ o', fO r q (gn r n j) o' ∧ Mn r p E (nn j) o') ∧ r.2.1 1006 (q + 1) = lN (sy_cn (fun j => fP r q (gn r n j)) v) := by
          constructor
          · intro ⟨q1, q2⟩
            exact ⟨x, rfl, by rw [hr, e6], fun j jv => ⟨_, (fo j jv _).mpr rfl, q1 j jv⟩, by rw [fp v (Nat.le_refl _), y3, q2]⟩
          · intro ⟨q, q1, _, q3, q4⟩
            injection q1 with q1
            subst q1
            refine ⟨fun k hk => ?_, ?_⟩
            · obtain ⟨o', b1, b2⟩ := q3 k hk
              rw [(fo k hk o').mp b1] at b2
              exact b2
            · rw [fp v (Nat.le_refl _), y3] at q4
              exact lN_inj (by omega) (by omega) q4
        rw [rm, z1, l2_bs, bZ_i eq]
        rcases bZ_01 (P := ∃ q, some x = some q ∧ r.2.1 1006 q = lN 6 ∧ (∀ j, j < v → ∃ o', fO r q (gn r n j) o' ∧ Mn r p E (nn j) o') ∧ r.2.1 1006 (q + 1) = lN (sy_cn (fun j => fP r q (gn r n j)) v)) with w | w <;> rw [w] <;> rfl
    · rw [if_neg (fun w => e6 (ne.mp w)), bZ_f (fun ⟨q, w1, w, _⟩ => by injection w1 with w1; rw [← w1, hr] at w; exact e6 (lN_inj (by omega) (by omega) w))]
      exact ⟨s, rfl, fr, hm⟩
end
