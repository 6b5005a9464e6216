/-! Level 2: the reference holds a part against a templ: every templ. -/
section
variable {c r : t_S} {a i p E σ : Nat} {ti : Nat → Nat} {NS : Nat → Prop}
/-- tones, at every depth -/
theorem rt_all {R : Nat → Nat → Prop} {t n G : Nat} (h : TMt c r a i p E R R t n) (hn : n < 13000) (pb : p + 260 ≤ 626600) (pr : ∀ x, x ≤ E → wq (r.2.1 1006) p x < p + 250) (pd : ∀ x, x < E → PD (c.2.1 a) (r.2.1 1006) i p E x) (hR : ∀ t' n', R t' n' → n' < 13000 ∧ r.1 955 n' ≠ 39 ∧ ∀ g, G ≤ g → RQ r p E σ ti NS g n') {g : Nat} (hg : G + 3 ≤ g) : RT r p E σ ti NS g n (fun o => Mt r p E (Mn r p E) n o) := by
  obtain ⟨g, rfl⟩ : ∃ y, g = y + 3 := ⟨g - 3, by omega⟩
  rcases h with ⟨S, _, hS, k28, k⟩ | ⟨k, _, u, t', n', u1, u2, _, _, u3, u4⟩ | ⟨k, _, X, t', n', x0, _, x1, _, x2, x3⟩ | ⟨k, _, v, T, X, v16, _, hc, hj⟩ | ⟨K, C, k0, k1, k2, _, v, T, v12, _, hc, hj⟩
  · exact rt_leaf hS k28 k
  · obtain ⟨h1, _, h2⟩ := hR _ _ u4
    exact rt_link hn k u1 u2 u3 h1 pb pr (h2 _ (by omega))
  · obtain ⟨h1, _, h2⟩ := hR _ _ x3
    exact rt_tag hn k x1 x0 x2 h1 pb pr pd (h2 _ (by omega))
  · obtain ⟨nn, hnn⟩ := l2_ch (P := fun j n' => ∃ t', c.1 355 (T j) = nI t' ∧ r.1 959 (gn r n j) = nI n' ∧ R t' n') (v := v) (fun j jv => by
      obtain ⟨_, _, _, _, t', n', b1, b2, b3⟩ := hj j jv
      exact ⟨n', t', b1, b2, b3⟩)
    refine rt_rec (nn := nn) (X := X) hn k v16 hc (fun j jv => ?_) pb pr pd (fun j jv => ?_)
    · obtain ⟨_, b1, _, b2, _⟩ := hj j jv
      obtain ⟨t', _, b3, b4⟩ := hnn j jv
      exact ⟨b1, b2, b3, (hR _ _ b4).1⟩
    · obtain ⟨t', _, b3, b4⟩ := hnn j jv
      exact (hR _ _ b4).2.2 _ (by omega)
  · have f1 : K ≠ 31 → ∀ j, j < v → ∀ g', G ≤ g' → RQ r p E σ ti NS g' (gn r n j) := fun hk j jv g' hg' => by
      rcases (hj j jv).2 with b | ⟨b, _⟩
      · exact (hR _ _ b).2.2 _ hg'
      · exact absurd b hk
    by_cases c31 : K = 32 ∨ K = 33 ∨ K = 34
    · exact rt_rows (g := g + 2) c31 hn k2 v12 hc pb pr (fun j jv => f1 (by omega) j jv _ (by omega)) (fun j jv => f1 (by omega) j jv _ (by omega))
    · refine rt_lists (K := K) (by unfold px_row at k0; omega) hn k2 v12 hc pb pr pd (fun e u hu => ?_) (fun e j jv => f1 e j jv _ (by omega))
      rcases (hj u hu).2 with b | ⟨_, _, _, _, b5, _, v', T', v0, v12', _, b6, b7⟩
      · exact ⟨(hR _ _ b).1, Or.inl ⟨(hR _ _ b).2.1, (hR _ _ b).2.2 _ (by omega)⟩⟩
      · exact ⟨(hc.2 u hu).1, Or.inr ⟨b5, v', v0, v12', b6, fun y hy => (hR _ _ (b7 y hy).2).2.2 _ (by omega)⟩⟩
theorem rm_go (C : RC r p E σ ti NS) (pr : ∀ x, x ≤ E → wq (r.2.1 1006) p x < p + 250) (pd : ∀ x, x < E → PD (c.2.1 a) (r.2.1 1006) i p E x) : ∀ f t n, TM c r a i p E NS f t n → f ≤ 400 → ∀ g, 7 * f + 4 ≤ g → RQ r p E σ ti NS g n := by
  intro f
  induction f with
  | zero => intro t n h; exact (TM_0 h).elim
  | succ f ih =>
    intro t n h hf g hg
    have pb := C.pb
    have hR : ∀ t' n', TM c r a i p E NS f t' n' → n' < 13000 ∧ r.1 955 n' ≠ 39 ∧ ∀ g, 7 * f + 4 ≤ g → RQ r p E σ ti NS g n' := fun t' n' y => ⟨y.at.2.2.1, y.at.2.2.2.2, fun g hg => ih t' n' y (by omega) g hg⟩
    obtain ⟨hN, _, hn, _, b, b1, _, h61, h⟩ := TM_s.mp h
    rcases h with ⟨_, _, h⟩ | ⟨_, k41, n0, lo, hi, x1, l1, l2, x3, x4, _, hN0, x2, h610, h⟩
    · obtain ⟨g, rfl⟩ : ∃ y, g = y + 2 := ⟨g - 2, by omega⟩
      have T := rt_all (h.mono (fun _ _ y => y) (fun _ _ y => y.dn)) hn pb pr pd hR (g := g) (by omega)
      have n41 := h.k41
      intro s o y num hP fr hm
      refine rm_match (g := g + 1) C hN hP fr hm b1 h61 (Mn_un h (by omega) o) (fun _ => ?_)
      obtain ⟨s', h1, h2⟩ := T s o y num hP fr hm
      refine ⟨s', ?_, h2⟩
      rw [if_neg n41]
      exact h1
    · obtain ⟨g, rfl⟩ : ∃ y, g = y + 4 := ⟨g - 4, by omega⟩
      have T := rt_all (h.mono (fun _ _ y => y) (fun _ _ y => y.dn)) x2 pb pr pd hR (g := g) (by omega)
      have n41 := h.k41
      -- what lies within
      have Q0 : RQ r p E σ ti NS (g + 2) n0 := fun s o y num hP fr hm => by
        refine rm_match (g := g + 1) C hN0 hP fr hm (b := 0) (by decide) h610 (Mn_un h (by omega) o) (fun _ => ?_)
        obtain ⟨s', h1, h2⟩ := T s o y num hP fr hm
        refine ⟨s', ?_, h2⟩
        rw [if_neg n41]
        exact h1
      intro s o y num hP fr hm
      refine rm_match (g := g + 3) C hN hP fr hm b1 h61 (Mn_41 h (by omega) k41 x1 x2 o) (fun _ => ?_)
      rw [if_pos k41]
      have hM : Mt r p E (Mn r p E) n o ↔ (∃ q, o = some q ∧ (r.2.1 1006 q = lN 2 ∨ r.2.1 1006 q = lN 8) ∧ (lo : Int) ≤ (r.2.1 1006 (q + 1)).toInt ∧ (r.2.1 1006 (q + 1)).toInt ≤ hi) ∧ Mn r p E n0 o := by
        unfold Mt
        rw [if_pos k41, gn_0 x1 x2, x3, x4, pk_lT (by omega), pk_lT (by omega)]
      rw [bZ_i hM]
      show ∃ s', m_X13_lengthMatch (R_X13_assign (g + 2)) (nI n) y s = _ ∧ _
      unfold m_X13_lengthMatch k_X13_lengthMatch_30 k_X13_lengthMatch_34
      have zero : ¬ ((∃ q, o = some q ∧ (r.2.1 1006 q = lN 2 ∨ r.2.1 1006 q = lN 8) ∧ (lo : Int) ≤ (r.2.1 1006 (q + 1)).toInt ∧ (r.2.1 1006 (q + 1)).toInt ≤ hi) ∧ Mn r p E n0 o) → ∃ s', k_X13_lengthMatch_35 (R_X13_assign (g + 2)) (nI n) y 0 s = some (bZ ((∃ q, o = some q ∧ (r.2.1 1006 q = lN 2 ∨ r.2.1 1006 q = lN 8) ∧ (lo : Int) ≤ (r.2.1 1006 (q + 1)).toInt ∧ (r.2.1 1006 (q + 1)).toInt ≤ hi) ∧ Mn r p E n0 o), s') ∧ l2_fr rmW r s' ∧ MemR r p E σ ti NS s' := fun no => by
        unfold k_X13_lengthMatch_35
        rw [if_pos rfl, bZ_f no]
        exact ⟨s, rfl, fr, hm⟩
      have f6 : ∀ j, s.2.1 1006 j = r.2.1 1006 j := fun j => (rm_fr fr (by omega)).2
      rcases id hP with ⟨ho, ⟨hy, _⟩ | ⟨hy, h4, _⟩⟩ | ⟨x, hx, ho, hy, _, h4⟩
      · rw [hy, if_pos (by decide), ← hy]
        exact zero (fun z => by obtain ⟨⟨q, z, _⟩, _⟩ := z; rw [ho] at z; exact no_ns z)
      · have e2 : ¬ lg_cmp (lN 4) (2 : Int64) = 0 := fun z => absurd (lN_inj (a := 4) (b := 2) (by decide) (by decide) (l2_cmp0.mp z)) (by decide)
        have e8 : ¬ lg_cmp (lN 4) (8 : Int64) = 0 := fun z => absurd (lN_inj (a := 4) (b := 8) (by decide) (by decide) (l2_cmp0.mp z)) (by decide)
        rw [hy, if_neg (nI_pos (by omega)), if_pos (l2_ix (by omega) (by decide)), nI_clamp (n := p) (by omega), f6, h4, if_neg e2, if_neg e8, ← hy]
        exact zero (fun z => by obtain ⟨⟨q, z, _⟩, _⟩ := z; rw [ho] at z; exact no_ns z)
      · have xl := pr x (by omega)
        obtain ⟨q, hq⟩ : ∃ q, q = wq (r.2.1 1006) p x := ⟨_, rfl⟩
        rw [← hq] at ho hy h4 xl
        rw [hy, if_neg (nI_pos (by omega)), if_pos (l2_ix (by omega) (by decide)), nI_clamp (n := q) (by omega), f6]
        have two : lg_cmp (r.2.1 1006 q) (2 : Int64) = 0 ↔ r.2.1 1006 q = lN 2 := l2_cmp0
        have eight : lg_cmp (r.2.1 1006 q) (8 : Int64) = 0 ↔ r.2.1 1006 q = lN 8 := l2_cmp0
        have yes : (r.2.1 1006 q = lN 2 ∨ r.2.1 1006 q = lN 8) → ∃ s', k_X13_lengthMatch_35 (R_X13_assign (g + 2)) (nI n) (nI q) 1 s = some (bZ ((∃ q, o = some q ∧ (r.2.1 1006 q = lN 2 ∨ r.2.1 1006 q = lN 8) ∧ (lo : Int) ≤ (r.2.1 1006 (q + 1)).toInt ∧ (r.2.1 1006 (q + 1)).toInt ≤ hi) ∧ Mn r p E n0 o), s') ∧ l2_fr rmW r s' ∧ MemR r p E σ ti NS s' := fun hk => by
          have f57 : s.2.1 957 n = lN lo := ((rm_fr fr (by omega)).2).trans x3
          have f58 : s.2.1 958 n = lN hi := ((rm_fr fr (by omega)).2).trans x4
          have f59 : s.1 959 n = nI n0 := ((rm_fr fr (by omega)).1).trans x1
          unfold k_X13_lengthMatch_35
          rw [if_neg (show ¬ (1 : Int32) = 0 by decide), nI_1, if_pos (l2_ix (by omega) (by decide)), if_pos (l2_ix hn (by decide)), nI_clamp (n := n) (by omega), nI_clamp (n := q + 1) (by omega), f6, f57, f58, f59, fin_r, pk_lT (by omega), pk_lT (by omega)]
          by_cases cl : (lo : Int) ≤ (r.2.1 1006 (q + 1)).toInt ∧ (r.2.1 1006 (q + 1)).toInt ≤ hi
          · rw [if_pos cl, if_neg (show ¬ (1 : Int32) = 0 by decide)]
            obtain ⟨s', a1, a2⟩ := Q0 s o (nI q) num (by rw [← hy]; exact hP) fr hm
            refine ⟨s', ?_, a2⟩
            rw [a1, l2_bs]
            have e : ((∃ q, o = some q ∧ (r.2.1 1006 q = lN 2 ∨ r.2.1 1006 q = lN 8) ∧ (lo : Int) ≤ (r.2.1 1006 (q + 1)).toInt ∧ (r.2.1 1006 (q + 1)).toInt ≤ hi) ∧ Mn r p E n0 o) ↔ Mn r p E n0 o := ⟨fun z => z.2, fun z => ⟨⟨q, ho, hk, cl⟩, z⟩⟩
            rw [bZ_i e]
            rcases bZ_01 (P := Mn r p E n0 o) with w | w <;> rw [w] <;> rfl
          · rw [if_neg cl, if_pos rfl, bZ_f (fun z => by
              obtain ⟨⟨q', z1, _, z2⟩, _⟩ := z
              rw [ho] at z1
              injection z1 with z1
              rw [← z1] at z2
              exact cl z2)]
            exact ⟨s, rfl, fr, hm⟩
        by_cases c2 : r.2.1 1006 q = lN 2
        · rw [if_pos (two.mpr c2)]
          exact yes (Or.inl c2)
        · rw [if_neg (fun z => c2 (two.mp z))]
          by_cases c8 : r.2.1 1006 q = lN 8
          · rw [if_pos (eight.mpr c8)]
            exact yes (Or.inr c8)
          · rw [if_neg (fun z => c8 (eight.mp z)), ← hy]
            exact zero (fun z => by
              obtain ⟨⟨q', z1, z2, _⟩, _⟩ := z
              rw [ho] at z1
              injection z1 with z1
              rw [← z1] at z2
              exact z2.elim c2 c8)
end
