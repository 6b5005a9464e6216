/-! Level 2: the reference holds a part against a templ: [ ], subset, superset, whole. -/
section
variable {c r s : t_S} {a i p E σ : Nat} {ti : Nat → Nat} {NS : Nat → Prop} {n g v m P : Nat} {Qe : Nat → Nat}
theorem rli_out (hn : n < 13000) (hc : ch_R r n v (gn r n)) (pc : ∀ u, u < v → pkR r p E σ ti NS g (gn r n u)) (hm16 : m ≤ 16) (el : ∀ e, e < m → (∀ s : t_S, s.2.1 1006 = r.2.1 1006 → f_X13_partOf (nI P) (nI e) s = some (nI (Qe e))) ∧ Qe e < 626600 ∧ ∃ num, PQ r p E (some (Qe e)) (nI (Qe e)) num) : ∀ (d u : Nat) (l4 : Int32) (s1 : t_S) (N : Nat), u + d = v → d < N → BS l4 17 (rcS r (Mn r p E) n P m u) → l2_fr rmW r s1 → MemR r p E σ ti NS s1 → ∃ s', t_loop (b_X13_listMatch_21 (R_X13_assign (g + 1))) N (nI P, nI m, l4, nxG v (gn r n) u, s1) = some (bZ (rcS r (Mn r p E) n P m v m), s') ∧ l2_fr rmW r s' ∧ MemR r p E σ ti NS s' := by
  intro d
  have fin : ∀ (l4 : Int32) (Q : Nat → Prop) (s1 : t_S), BS l4 17 Q → k_X13_listMatch_239 (R_X13_assign (g + 1)) (nI m) l4 s1 = some (bZ (Q m), s1) := fun l4 Q s1 hb => by
    have T := (hb.test (e := m) (by omega) (by omega)).1
    unfold k_X13_listMatch_239
    by_cases c : Q m
    · rw [if_pos (T.mpr c), bZ_t c]
    · rw [if_neg (fun z => c (T.mp z)), bZ_f c]
  induction d with
  | zero =>
    intro u l4 s1 N hu hN hb fr hm
    obtain ⟨N, rfl⟩ : ∃ y, N = y + 1 := ⟨N - 1, by omega⟩
    obtain rfl : u = v := by omega
    refine ⟨s1, l2_lpM ?_, fr, hm⟩
    show k_X13_listMatch_21 _ _ _ _ _ s1 = _
    unfold k_X13_listMatch_21
    rw [nx_out (j := u) (v := u) (by omega), if_pos (show (-1 : Int32) < 0 by decide), fin l4 _ s1 hb]
  | succ d ih =>
    intro u l4 s1 N hu hN hb fr hm
    obtain ⟨N, rfl⟩ : ∃ y, N = y + 1 := ⟨N - 1, by omega⟩
    have pu := pc u (by omega)
    have gl := pu.1
    have hz := hb.z (by omega)
    by_cases e0 : l4 = 0
    · have em := hz.mp e0
      have no := rcS_emp em (v - u) m
      rw [show u + (v - u) = v by omega] at no
      rw [bZ_f no]
      refine ⟨s1, l2_lpM ?_, fr, hm⟩
      show k_X13_listMatch_21 _ _ _ _ _ s1 = _
      unfold k_X13_listMatch_21
      rw [nx_in (j := u) (by omega), if_neg (nI_pos (by omega)), if_pos e0, fin l4 _ s1 hb, bZ_f (em m)]
    · have f55 : s1.1 955 (gn r n u) = r.1 955 (gn r n u) := (rm_fr fr (by omega)).1
      have f61 : s1.1 961 (gn r n u) = r.1 961 (gn r n u) := (rm_fr fr (by omega)).1
      have ptr : r.1 960 (gn r n u) = nxG v (gn r n) (u + 1) := ch_nx hc (by omega)
      -- the inner loop
      have inner : ∀ sz, (sz = if r.1 955 (gn r n u) = 39 then cn r (gn r n u) else 1) → ∃ s' l6', k_X13_listMatch_85 (R_X13_assign (g + 1)) (nI P) (nI m) l4 (nI (gn r n u)) 0 (bZ (isS r (gn r n u))) (nI sz) s1 = some (.inl (nI P, nI m, l6', r.1 960 (gn r n u), s')) ∧ BS l6' 17 (rcS r (Mn r p E) n P m (u + 1)) ∧ l2_fr rmW r s' ∧ MemR r p E σ ti NS s' := fun sz hsz => by
        unfold k_X13_listMatch_85
        exact rli_in pu hm16 el hb rfl hsz (m + 1) 0 0 s1 t_N (by omega) (by have := l2_N; omega) (BS.zero.iff (fun e => ⟨fun y => y.elim, fun ⟨_, e, y, _⟩ => by omega⟩)) fr hm
      have st : ∃ s' l6', b_X13_listMatch_21 (R_X13_assign (g + 1)) (nI P, nI m, l4, nxG v (gn r n) u, s1) = some (.inl (nI P, nI m, l6', nxG v (gn r n) (u + 1), s')) ∧ BS l6' 17 (rcS r (Mn r p E) n P m (u + 1)) ∧ l2_fr rmW r s' ∧ MemR r p E σ ti NS s' := by
        have q : b_X13_listMatch_21 (R_X13_assign (g + 1)) (nI P, nI m, l4, nxG v (gn r n) u, s1) = k_X13_listMatch_61 (R_X13_assign (g + 1)) (nI P) (nI m) l4 (nI (gn r n u)) 0 (bZ (isS r (gn r n u))) s1 := by
          show k_X13_listMatch_21 _ _ _ _ _ s1 = _
          unfold k_X13_listMatch_21 k_X13_listMatch_60
          rw [nx_in (j := u) (by omega), if_neg (nI_pos (by omega)), if_neg e0, if_pos (l2_ix gl (by decide)), nI_clamp (n := gn r n u) (by omega), f55, f61]
          by_cases c1 : r.1 955 (gn r n u) = 21
          · rw [if_pos c1]
            by_cases c2 : r.1 961 (gn r n u) = 0
            · rw [if_pos c2, bZ_t (show isS r (gn r n u) from ⟨c1, c2⟩)]
            · rw [if_neg c2, bZ_f (fun z : isS r (gn r n u) => c2 z.2)]
          · rw [if_neg c1, bZ_f (fun z : isS r (gn r n u) => c1 z.1)]
        rw [q]
        unfold k_X13_listMatch_61
        rw [if_pos (l2_ix gl (by decide)), nI_clamp (n := gn r n u) (by omega), f55]
        rw [← ptr]
        by_cases c39 : r.1 955 (gn r n u) = 39
        · rcases pu.2 with ⟨k, _⟩ | ⟨_, v', _, k2, k3, _⟩
          · exact absurd c39 k
          · rw [if_pos c39, pcn_go k3 (by omega) fr gl, l2_bs]
            exact inner v' (by rw [if_pos c39, ch_cn k3 (by omega)])
        · rw [if_neg c39]
          exact inner 1 (by rw [if_neg c39])
      obtain ⟨s2, l6', st, b2, f2, m2⟩ := st
      rw [l2_lpS st]
      exact ih (u + 1) l6' s2 N (by omega) (by omega) b2 f2 m2
/-- the three kinds that want a LIST -/
theorem rt_lists {K : Nat} (hK : K = 31 ∨ K = 36 ∨ K = 37) (hn : n < 13000) (hk : r.1 955 n = nI K) (hv : v ≤ 12) (hc : ch_R r n v (gn r n)) (pb : p + 260 ≤ 626600) (pr : ∀ x, x ≤ E → wq (r.2.1 1006) p x < p + 250) (pd : ∀ x, x < E → PD (c.2.1 a) (r.2.1 1006) i p E x) (pc : K = 31 → ∀ u, u < v → pkR r p E σ ti NS g (gn r n u)) (rq : K ≠ 31 → ∀ j, j < v → RQ r p E σ ti NS (g + 1) (gn r n j)) : RT r p E σ ti NS (g + 3) n (fun o => Mt r p E (Mn r p E) n o) := by
  intro s o y num hP fr hm
  have f55 : s.1 955 n = nI K := ((rm_fr fr (by omega)).1).trans hk
  have f59 : s.1 959 n = nxG v (gn r n) 0 := ((rm_fr fr (by omega)).1).trans hc.1
  have ec := ch_cn hc (by omega)
  have need : ∀ o, Mt r p E (Mn r p E) n o → ∃ q, o = some q ∧ r.2.1 1006 q = lN 8 := fun o h => by
    unfold Mt at h
    rw [hk] at h
    rcases hK with rfl | rfl | rfl
    · rw [if_neg (by decide), if_neg (by decide), if_neg (by decide), if_pos (by decide)] at h
      obtain ⟨q, m, h1, h2, _⟩ := h
      exact ⟨q, h1, h2⟩
    · rw [if_neg (by decide), if_neg (by decide), if_neg (by decide), if_neg (by decide), if_neg (by decide), if_neg (by decide), if_neg (by decide), if_pos (by decide)] at h
      obtain ⟨q, m, h1, h2, _⟩ := h
      exact ⟨q, h1, h2⟩
    · rw [if_neg (by decide), if_neg (by decide), if_neg (by decide), if_neg (by decide), if_neg (by decide), if_neg (by decide), if_neg (by decide), if_neg (by decide), if_pos (by decide)] at h
      obtain ⟨q, m, h1, h2, _⟩ := h
      exact ⟨q, h1, h2⟩
  cases o with
  | none =>
    rw [if_pos rfl, bZ_f (fun z => by obtain ⟨q, z, _⟩ := need none z; exact no_ns z)]
    refine ⟨s, ?_, fr, hm⟩
    unfold m_X13_omitMatch
    rw [if_pos (l2_ix hn (by decide)), nI_clamp (n := n) (by omega), f55]
    rcases hK with rfl | rfl | rfl
    · rw [if_neg (by decide), if_neg (by decide), if_neg (by decide), if_neg (by decide), if_neg (by decide), if_neg (by decide), if_neg (by decide), if_neg (by decide), if_neg (by decide), if_neg (by decide), if_neg (by decide), if_pos (by decide)]
    · rw [if_neg (by decide), if_neg (by decide), if_neg (by decide), if_neg (by decide), if_neg (by decide), if_neg (by decide), if_neg (by decide), if_neg (by decide), if_neg (by decide), if_neg (by decide), if_neg (by decide), if_neg (by decide), if_neg (by decide), if_neg (by decide), if_neg (by decide), if_neg (by decide), if_pos (by decide)]
    · rw [if_neg (by decide), if_neg (by decide), if_neg (by decide), if_neg (by decide), if_neg (by decide), if_neg (by decide), if_neg (by decide), if_neg (by decide), if_neg (by decide), if_neg (by decide), if_neg (by decide), if_neg (by decide), if_neg (by decide), if_neg (by decide), if_neg (by decide), if_neg (by decide), if_neg (by decide), if_pos (by decide)]
  | some x =>
    obtain ⟨k, k1, k2, k3, _, k4⟩ := hP.nn
    subst k3
    have xl := pr k (by omega)
    rw [← k2] at xl
    rw [if_neg (fun z => no_sn z)]
    have f6 : ∀ j, s.2.1 1006 j = r.2.1 1006 j := fun j => (rm_fr fr (by omega)).2
    obtain ⟨K8, hr, K16⟩ : ∃ K8 : Nat, r.2.1 1006 x = lN K8 ∧ K8 < 16 := by
      obtain ⟨f0, n0, m0, t0, K8, _, hcl, ⟨hr, _⟩, _⟩ := pd k k1
      rw [← k2] at hr
      exact ⟨K8, hr, hcl.2.2⟩
    have e8 : (s.2.1 1006 x).toInt32 = nI K8 := by rw [f6, hr, lN_w]
    have ne : nI K8 = (8 : Int32) ↔ K8 = 8 := nI_eq (b := 8) (by omega) (by decide)
    -- what manyMatch says
    suffices h : ∃ s', m_X13_manyMatch (R_X13_assign (g + 2)) (nI n) (nI x) (nI K8) s = some (bZ (Mt r p E (Mn r p E) n (some x)), s') ∧ l2_fr rmW r s' ∧ MemR r p E σ ti NS s' by
      obtain ⟨s', h1, h2, h3⟩ := h
      refine ⟨s', rt_many hn (by omega) f55 (by omega) ?_ (fun z hz => by injection hz with hz; rw [← hz]; exact bZ_01), h2, h3⟩
      rw [e8]
      exact h1
    have mm : m_X13_manyMatch (R_X13_assign (g + 2)) (nI n) (nI x) (nI K8) s = (if K = 31 then (if nI K8 = (8 : Int32) then ((m_X13_listMatch (R_X13_assign (g + 1)) (nI n) (nI x) s).bind (fun r2 => if r2.1 = (0 : Int32) then (some ((0 : Int32), r2.2)) else (some ((1 : Int32), r2.2)))) else some (0, s)) else k_X13_manyMatch_50 (R_X13_assign (g + 2)) (nI n) (nI x) (nI K8) (nI K) s) := by
      unfold m_X13_manyMatch
      rw [if_pos (l2_ix hn (by decide)), nI_clamp (n := n) (by omega), f55]
      rcases hK with rfl | rfl | rfl
      · rw [if_pos (by decide), if_pos rfl]
        rfl
      · rw [if_neg (by decide), if_pos (by decide), if_neg (by decide)]
      · rw [if_neg (by decide), if_neg (by decide), if_pos (by decide), if_neg (by decide)]
    rw [mm]
    by_cases c8 : K8 = 8
    · rw [if_pos (ne.mpr c8)]
      have h8 : r.2.1 1006 (wq (r.2.1 1006) p k) = lN 8 := by rw [← k2, hr, c8]
      obtain ⟨m, Qe, el1, el2, el3⟩ := pd_elems pb pr pd k1 h8
      rw [← k2] at el1 el3
      have em : ∀ m', r.2.1 1006 (x + 1) = lN m' → m' ≤ 16 → m' = m := fun m' h1 h2 => by rw [el1] at h1; exact (lN_inj (by omega) (by omega) h1).symm
      have q8 : r.2.1 1006 x = lN 8 := by rw [hr, c8]
      have s1c : (s.2.1 1006 (x + 1)).toInt32 = nI m := by rw [f6, el1, lN_w]
      have A : K ≠ 31 → AC r p E σ ti NS n (g + 1) v m x (gn r n) Qe := fun hk31 => ⟨hc, ⟨hv, el2⟩, rq hk31, fun e he => ⟨(el3 e he).1, (el3 e he).2.2⟩⟩
      have eq : ∀ e, e < m → ∀ q', eL r x e q' ↔ q' = Qe e := fun e he q' => by
        obtain ⟨pe, ql, _⟩ := el3 e he
        constructor
        · intro ⟨b1, b2⟩
          rw [pe r rfl] at b1
          injection b1 with b1
          exact ((nI_eq (by omega) (by omega)).mp b1).symm
        · intro e
          rw [e]
          exact ⟨pe r rfl, ql⟩
      rcases hK with e | e | e
      · -- [ ]
        obtain ⟨s', h1, h2, h3⟩ := rli_out hn hc (pc e) el2 el3 v 0 1 s t_N (by omega) (by have := l2_N; omega) (((BS.bit (e := 0) (n := 17) (by decide) (by decide)) : BS 1 17 _).iff (fun e => Iff.rfl)) fr hm
        refine ⟨s', ?_, h2, h3⟩
        have hM : Mt r p E (Mn r p E) n (some x) ↔ rcS r (Mn r p E) n x m v m := by
          unfold Mt
          rw [hk, e, if_neg (by decide), if_neg (by decide), if_neg (by decide), if_pos (by decide), ec]
          constructor
          · intro ⟨q, m', a1, a2, a3, a4, a5⟩
            injection a1 with a1
            subst a1
            rw [em m' a3 a4] at a5
            exact a5
          · intro a5
            exact ⟨x, m, rfl, q8, el1, el2, a5⟩
        have lm : m_X13_listMatch (R_X13_assign (g + 1)) (nI n) (nI x) s = some (bZ (rcS r (Mn r p E) n x m v m), s') := by
          unfold m_X13_listMatch
          rw [nI_1, if_pos (l2_ix (by omega) (by decide)), if_pos (l2_ix hn (by decide)), nI_clamp (n := n) (by omega), nI_clamp (n := x + 1) (by omega), s1c, f59]
          exact h1
        rw [if_pos e, lm, l2_bs, bZ_i hM]
        rcases bZ_01 (P := rcS r (Mn r p E) n x m v m) with w | w <;> rw [w] <;> rfl
      · -- subset
        obtain ⟨s', h1, h2, h3⟩ := as_go (A (by omega)) (frm := 0) (cnt := m) (l5 := 1) (Or.inr rfl) (by omega) fr hm
        rw [if_neg (by decide), if_neg (by decide)] at h1
        refine ⟨s', ?_, h2, h3⟩
        have hM : Mt r p E (Mn r p E) n (some x) ↔ kp_L (fun y z => z < v ∧ aB r p E (gn r n) Qe 0 1 y z) m := by
          have kk : kp_L (fun y z => z < v ∧ ∃ q', eL r x y q' ∧ Mn r p E (gn r n z) (some q')) m ↔ kp_L (fun y z => z < v ∧ aB r p E (gn r n) Qe 0 1 y z) m := kp_cg (fun y z hy => and_congr Iff.rfl (by
            unfold aB
            rw [if_neg (by decide), if_neg (by decide), Nat.zero_add]
            exact ⟨fun ⟨q', b1, b2⟩ => by rw [(eq y hy q').mp b1] at b2; exact b2, fun b => ⟨_, (eq y hy _).mpr rfl, b⟩⟩))
          unfold Mt
          rw [hk, e, if_neg (by decide), if_neg (by decide), if_neg (by decide), if_neg (by decide), if_neg (by decide), if_neg (by decide), if_neg (by decide), if_pos (by decide), ec, ← kk]
          constructor
          · intro ⟨q, m', a1, a2, a3, a4, a5⟩
            injection a1 with a1
            subst a1
            rw [em m' a3 a4] at a5
            exact a5
          · intro a5
            exact ⟨x, m, rfl, q8, el1, el2, a5⟩
        have a1 : (R_X13_assign (g + 2)).1 (nxG v (gn r n) 0) (nI x) 0 (nI m) 1 s = some (bZ (kp_L (fun y z => z < v ∧ aB r p E (gn r n) Qe 0 1 y z) m), s') := h1
        rw [if_neg (by omega), bZ_i hM, e]
        unfold k_X13_manyMatch_50 k_X13_manyMatch_86
        rw [if_pos (ne.mpr c8), if_pos (l2_ix hn (by decide)), nI_1, if_pos (l2_ix (by omega) (by decide)), if_pos (by decide), nI_clamp (n := n) (by omega), nI_clamp (n := x + 1) (by omega), s1c, f59, a1, l2_bs]
        rcases bZ_01 (P := kp_L (fun y z => z < v ∧ aB r p E (gn r n) Qe 0 1 y z) m) with w | w <;> rw [w] <;> rfl
      · -- superset
        obtain ⟨s', h1, h2, h3⟩ := as_go (A (by omega)) (frm := 0) (cnt := m) (l5 := 0) (Or.inl rfl) (by omega) fr hm
        rw [if_pos rfl, if_pos rfl] at h1
        refine ⟨s', ?_, h2, h3⟩
        have hM : Mt r p E (Mn r p E) n (some x) ↔ kp_L (fun y z => z < m ∧ aB r p E (gn r n) Qe 0 0 y z) v := by
          have kk : kp_L (fun y z => z < m ∧ ∃ q', eL r x z q' ∧ Mn r p E (gn r n y) (some q')) v ↔ kp_L (fun y z => z < m ∧ aB r p E (gn r n) Qe 0 0 y z) v := kp_cg (fun y z _ => ⟨fun ⟨hz, q', b1, b2⟩ => ⟨hz, by
            unfold aB
            rw [if_pos rfl, if_pos rfl, Nat.zero_add]
            rw [(eq z hz q').mp b1] at b2; exact b2⟩, fun ⟨hz, b⟩ => ⟨hz, _, (eq z hz _).mpr rfl, by
            unfold aB at b
            rw [if_pos rfl, if_pos rfl, Nat.zero_add] at b
            exact b⟩⟩)
          unfold Mt
          rw [hk, e, if_neg (by decide), if_neg (by decide), if_neg (by decide), if_neg (by decide), if_neg (by decide), if_neg (by decide), if_neg (by decide), if_neg (by decide), if_pos (by decide), ec, ← kk]
          constructor
          · intro ⟨q, m', a1, a2, a3, a4, a5⟩
            injection a1 with a1
            subst a1
            rw [em m' a3 a4] at a5
            exact a5
          · intro a5
            exact ⟨x, m, rfl, q8, el1, el2, a5⟩
        have a1 : (R_X13_assign (g + 2)).1 (nxG v (gn r n) 0) (nI x) 0 (nI m) 0 s = some (bZ (kp_L (fun y z => z < m ∧ aB r p E (gn r n) Qe 0 0 y z) v), s') := h1
        rw [if_neg (by omega), bZ_i hM, e]
        unfold k_X13_manyMatch_50 k_X13_manyMatch_86
        rw [if_pos (ne.mpr c8), if_pos (l2_ix hn (by decide)), nI_1, if_pos (l2_ix (by omega) (by decide)), if_neg (by decide), nI_clamp (n := n) (by omega), nI_clamp (n := x + 1) (by omega), s1c, f59, a1, l2_bs]
        rcases bZ_01 (P := kp_L (fun y z => z < m ∧ aB r p E (gn r n) Qe 0 0 y z) v) with w | w <;> rw [w] <;> rfl
    · rw [bZ_f (fun z => by
        obtain ⟨q, w1, w2⟩ := need (some x) z
        injection w1 with w1
        rw [← w1, hr] at w2
        exact c8 (lN_inj (by omega) (by omega) w2)), if_neg (fun w => c8 (ne.mp w))]
      refine ⟨s, ?_, fr, hm⟩
      unfold k_X13_manyMatch_50
      rw [if_neg (fun w => c8 (ne.mp w))]
      split <;> rfl
end
