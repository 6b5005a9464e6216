/-! Level 2: the class holds a part against a templ: { }. -/
section
variable {c r s : t_S} {a i p E τ x u : Nat} {n t g k dp v : Nat} {o : Option Nat} {T X nn tt : Nat → Nat} {oo : Nat → Option Nat} {yy zz : Nat → Int32}
theorem mt_rec_is (hk : r.1 955 n = 29) (hv : v ≤ 16) (hc : ch_R r n v (gn r n)) (hX : ∀ j, j < v → r.1 959 (gn r n j) = nI (nn j) ∧ nn j < 13000) (q6 : r.2.1 1006 x = lN 6) (h1 : r.2.1 1006 (x + 1) = lN u) (hu : u ≤ 59) (hW : ∀ j, j < v → f_X13_fieldOf (nI x) (r.2.1 957 (gn r n j)) r = some (yy j) ∧ ((oo j = none ∧ yy j = -1) ∨ ∃ q, oo j = some q ∧ yy j = nI q ∧ q < 626600)) : Mt r p E (Mn r p E) n (some x) ↔ (∀ j, j < v → Mn r p E (nn j) (oo j)) ∧ u = sy_cn (fun j => if yy j < 0 then 0 else 1) v := by
  have ec := ch_cn hc hv
  have fo : ∀ j, j < v → ∀ o', fO r x (gn r n j) o' ↔ o' = oo j := fun j jv o' => by
    obtain ⟨w1, w3⟩ := hW j jv
    constructor
    · intro ⟨y, q1, q2⟩
      rw [w1] at q1
      injection q1 with q1
      subst q1
      rcases w3 with ⟨v1, v2⟩ | ⟨q, v1, v2, v3⟩
      · rcases q2 with ⟨_, q2⟩ | ⟨q', q2, q3, _⟩
        · rw [q2, v1]
        · rw [v2] at q2
          have : (-1 : Int32) < 0 := by decide
          rw [q2] at this
          exact absurd this (nI_pos (by omega))
      · rcases q2 with ⟨q2, _⟩ | ⟨q', q2, q3, q4⟩
        · rw [v2] at q2
          exact absurd q2 (nI_pos (by omega))
        · rw [v2] at q2
          rw [q4, v1, (nI_eq (by omega) (by omega)).mp q2]
    · intro e
      refine ⟨_, w1, ?_⟩
      rcases w3 with ⟨v1, v2⟩ | ⟨q, v1, v2, v3⟩
      · exact Or.inl ⟨by rw [v2]; decide, by rw [e, v1]⟩
      · exact Or.inr ⟨q, v2, v3, by rw [e, v1]⟩
  have fp : ∀ m, m ≤ v → sy_cn (fun j => fP r x (gn r n j)) m = sy_cn (fun j => if yy j < 0 then 0 else 1) m := fun m => by
    induction m with
    | zero => intro _; rfl
    | succ m ihm =>
      intro hm
      show sy_cn (fun j => fP r x (gn r n j)) m + fP r x (gn r n m) = sy_cn (fun j => if yy j < 0 then 0 else 1) m + (if yy m < 0 then 0 else 1)
      rw [ihm (by omega)]
      unfold fP
      rw [(hW m (by omega)).1]
  have cl : sy_cn (fun j => if yy j < 0 then 0 else 1) v ≤ v := sy_cn_le v (fun v _ => by split <;> omega)
  unfold Mt
  rw [hk, if_neg (by decide), if_neg (by decide), if_pos rfl, ec]
  constructor
  · intro ⟨q, q1, _, q3, q4⟩
    injection q1 with q1
    subst q1
    refine ⟨fun k hk => ?_, ?_⟩
    · obtain ⟨o', b1, b2⟩ := q3 k hk
      rw [(fo k hk o').mp b1, gn_0 (hX k hk).1 (hX k hk).2] at b2
      exact b2
    · rw [fp v (Nat.le_refl _), h1] at q4
      exact lN_inj (by omega) (by omega) q4
  · intro ⟨q1, q2⟩
    exact ⟨x, rfl, q6, fun j jv => ⟨_, (fo j jv _).mpr rfl, by rw [gn_0 (hX j jv).1 (hX j jv).2]; exact q1 j jv⟩, by rw [fp v (Nat.le_refl _), h1, q2]⟩
theorem pd_k6 {x : Nat} (C : CC c r a i p E τ) (pb : p + 260 ≤ 626600) (pr : ∀ x, x ≤ E → wq (r.2.1 1006) p x < p + 250) (pd : ∀ x, x < E → PD (c.2.1 a) (r.2.1 1006) i p E x) (hx : x < E) (h6 : r.2.1 1006 (wq (r.2.1 1006) p x) = lN 6) : ∃ u n : Nat, u ≤ 59 ∧ vl_c (u : Int) n 6 (c.2.1 a (wv (c.2.1 a) i x)) ∧ r.2.1 1006 (wq (r.2.1 1006) p x + 1) = lN u ∧ ∀ X, X < 7934 → ∃ o y k z, (f_X13_fieldOf (nI (wq (r.2.1 1006) p x)) (lN X) r = some y ∧ ((o = none ∧ y = -1) ∨ ∃ q, o = some q ∧ y = nI q ∧ q < 626600)) ∧ VQ c r a i p E o k ∧ (∀ s : t_S, s.2.1 a = c.2.1 a → f_X8_fieldAt a (nI (wv (c.2.1 a) i x)) (nI (66 + X)) s = some z) ∧ ((k = 0 ∧ z = -1) ∨ ∃ k', k = k' + 1 ∧ z = nI (i + k')) ∧ (y < 0 ↔ z < 0) := by
  have ln := C.ln
  obtain ⟨f, n0, m0, t, k, ⟨f120, V⟩, hc, ⟨hr, z, z1, z2, z3, zu⟩, hk⟩ := pd x hx
  have xl := pr z z2
  have zl := C.we z z2
  rw [h6] at hr
  have k6 : k = 6 := (lN_inj (by decide) (by have := hc.2.2; omega) hr).symm
  have ps := V.pos
  rcases hk with ⟨y, _⟩ | ⟨y, _⟩ | ⟨v, I, P, C', y, _⟩ | ⟨v, I, P, X', C', _, y2, hv, y3, y4, I0, P0, Iv, Pv, hj⟩
  · exact absurd k6 y
  · rw [k6] at y; exact absurd y (by decide)
  · rw [k6] at y; exact absurd y (by decide)
  · have hq : ∀ j, j < v → wq (r.2.1 1006) p (C' j) = wq (r.2.1 1006) p x + 2 + v + P j ∧ C' j < E ∧ wv (c.2.1 a) i (C' j) = wv (c.2.1 a) i x + 1 + I j + 1 := fun j jv => ⟨(hj j jv).2.2.2.2.2.2.2, (hj j jv).2.2.2.2.2.1, (hj j jv).2.2.2.2.2.2.1⟩
    have Pm : ∀ j, j < v → wq (r.2.1 1006) p x + 2 + v + P (j + 1) ≤ 626600 := fun j jv => by have := (hj j jv).1; omega
    rw [k6, y2] at hc
    refine ⟨v, n0, hv, hc, y3, fun X hX => ?_⟩
    have F := vw_field (s := r) (c := c.2.1 a) (f := f - 1) (v := v) (p := wq (r.2.1 1006) p x) (I := fun j => wv (c.2.1 a) i x + 1 + I j + 1) (P := P) (L := fun j => I (j + 1) - I j - 1) (X := X') (x := X) h6 y3 (by omega) P0 (fun j jv => ⟨(hj j jv).1.2.1, Pm j jv, (hj j jv).2.2.2.1⟩) (by omega) (by omega) (fun j jv => ⟨(hj j jv).2.1.2.2.2, (hj j jv).2.1.1⟩) hX
    have Fc : ∀ s : t_S, s.2.1 a = c.2.1 a → f_X8_fieldAt a (nI (wv (c.2.1 a) i x)) (nI (66 + X)) s = some (if ff X' X v 0 < v then nI (wv (c.2.1 a) i x + 1 + I (ff X' X v 0) + 1) else -1) := fun s es => fc_at (c := s) (arr := a) (a := wv (c.2.1 a) i x) (n := n0) (v := v) (x := X) (I := I) (X := X') C.ok C.ln (by rw [es]; exact hc) (by omega) ps.1 I0 hX (fun j jv => by
      obtain ⟨t', k', hd', _⟩ := (hj j jv).2.2.2.1.hd
      rw [es]
      exact ⟨(hj j jv).1.1, (hj j jv).1.2.2.1, (hj j jv).2.1.1, (hj j jv).2.1.2.2.1, t', k', hd'⟩) (by omega) ps.2.1 (by omega)
    by_cases cf : ff X' X v 0 < v
    · obtain ⟨q1, q2, q3⟩ := hq _ cf
      have l4 := (hj _ cf).2.2.1
      rw [← q1] at l4
      rw [if_pos cf, ← q1] at F
      have w0 := C.wb _ q2
      refine ⟨_, _, _, _, ⟨F, Or.inr ⟨_, rfl, rfl, by have := pr _ (Nat.le_of_lt q2); omega⟩⟩, VQ.mk q2 l4, fun s es => by have := Fc s es; rw [if_pos cf, ← q3] at this; exact this, Or.inr ⟨_, rfl, by rw [show i + (wv (c.2.1 a) i (C' (ff X' X v 0)) - i) = wv (c.2.1 a) i (C' (ff X' X v 0)) by omega]⟩, ?_⟩
      have := pr _ (Nat.le_of_lt q2)
      have w1 := wv_lt C pd q2
      exact ⟨fun y => absurd y (nI_pos (by omega)), fun y => absurd y (nI_pos (by omega))⟩
    · rw [if_neg cf] at F
      exact ⟨none, -1, 0, -1, ⟨F, Or.inl ⟨rfl, rfl⟩⟩, VQ.no, fun s es => by have := Fc s es; rw [if_neg cf] at this; exact this, Or.inl ⟨rfl, rfl⟩, Iff.rfl⟩
theorem fld_go (C : CC c r a i p E τ) {kk : Nat → Nat} {x0 : Nat} (hi : i ≤ x0) (hxl : x0 < t_ln a) (hv : v ≤ 16) (hT : tc_R c t v T) (hX : ∀ j, j < v → T j < 6100 ∧ c.1 357 (T j) = nI (66 + X j) ∧ c.1 355 (T j) = nI (tt j)) (hq : ∀ j, j < v → CQ c r a i p E τ g (tt j) (nn j) (dp + 1)) (hf : ∀ j, j < v → VQ c r a i p E (oo j) (kk j) ∧ (∀ s : t_S, s.2.1 a = c.2.1 a → f_X8_fieldAt a (nI x0) (nI (66 + X j)) s = some (zz j)) ∧ ((kk j = 0 ∧ zz j = -1) ∨ ∃ k', kk j = k' + 1 ∧ zz j = nI (i + k'))) {n0 : Nat} (hu : u ≤ 59) (h1 : vl_c (u : Int) n0 6 (c.2.1 a x0)) : ∀ (d j : Nat) (s1 : t_S) (N : Nat), j + d = v → d < N → (∀ k, k < j → Mn r p E (nn k) (oo k)) → l2_fr cmW c s1 → MemC c r a i p E τ s1 → (∀ x, x < 12 * dp → s1.1 426 x = s.1 426 x) → ∃ s', t_loop (b_X10_matchesFields_14 (R_X10_behindPerm g)) N (nI (x0 - i), nI dp, nI (sy_cn (fun j => if zz j < 0 then 0 else 1) j), nxG v T j, nI j, s1) = some (bZ ((∀ k, k < v → Mn r p E (nn k) (oo k)) ∧ u = sy_cn (fun j => if zz j < 0 then 0 else 1) v), s') ∧ l2_fr cmW c s' ∧ MemC c r a i p E τ s' ∧ ∀ x, x < 12 * dp → s'.1 426 x = s.1 426 x := by
  intro d
  have cl : ∀ j, sy_cn (fun j => if zz j < 0 then 0 else 1) j ≤ j := fun j => sy_cn_le j (fun v _ => by split <;> omega)
  have ln := C.ln
  have ix : nI i + nI (x0 - i) = nI x0 := by rw [nI_add, show i + (x0 - i) = x0 by omega]
  induction d with
  | zero =>
    intro j s1 N hj hN ha fr hm he
    obtain ⟨N, rfl⟩ : ∃ y, N = y + 1 := ⟨N - 1, by omega⟩
    obtain rfl : j = v := by omega
    obtain ⟨fa1, fa2, _, fa4⟩ := C.fa fr
    refine ⟨s1, l2_lpM ?_, fr, hm, he⟩
    have e106 : k_X10_matchesFields_106 (R_X10_behindPerm g) (nI (x0 - i)) (nI (sy_cn (fun j => if zz j < 0 then 0 else 1) j)) s1 = some (bZ ((∀ k, k < j → Mn r p E (nn k) (oo k)) ∧ u = sy_cn (fun j => if zz j < 0 then 0 else 1) j), s1) := by
      unfold k_X10_matchesFields_106
      have pe : f_X8_partsOf (c.2.1 a x0) s1 = nI u := by
        unfold f_X8_partsOf
        rw [vl_i32 h1 (by omega)]
      have := cl j
      rw [fa1, fa2, if_pos C.ok, ix, if_pos (l2_ix hxl (by omega)), nI_clamp (n := x0) (by omega), fa4, pe]
      by_cases e : u = sy_cn (fun j => if zz j < 0 then 0 else 1) j
      · rw [if_pos (by rw [← e]), bZ_t ⟨ha, e⟩]
      · rw [if_neg (fun w => e ((nI_eq (by omega) (by omega)).mp w).symm), bZ_f (fun w => e w.2)]
    show k_X10_matchesFields_14 _ _ _ _ _ _ s1 = _
    unfold k_X10_matchesFields_14
    rw [nx_out (j := j) (v := j) (by omega), e106]
    by_cases c12 : (16 : Int32) ≤ nI j
    · rw [if_pos c12]
    · rw [if_neg c12, if_pos (show (-1 : Int32) < 0 by decide)]
  | succ d ih =>
    intro j s1 N hj hN ha fr hm he
    obtain ⟨N, rfl⟩ : ∃ y, N = y + 1 := ⟨N - 1, by omega⟩
    obtain ⟨fa1, fa2, _, fa4⟩ := C.fa fr
    obtain ⟨t1, t2, t3⟩ := hX j (by omega)
    obtain ⟨v1, v2, v3⟩ := hf j (by omega)
    have es : s1.2.1 a = c.2.1 a := by funext w; exact fa4 w
    have F := v2 s1 es
    obtain ⟨s2, h2, h3, h4, h5⟩ := hq j (by omega) s1 (oo j) (kk j) v1 fr hm
    have he2 : ∀ x, x < 12 * dp → s2.1 426 x = s.1 426 x := fun x hx => (h5 x (by omega)).trans (he x hx)
    have e57 : s1.1 357 (T j) = nI (66 + X j) := ((cm_fr fr (by omega)).1).trans t2
    have e55 : s1.1 355 (T j) = nI (tt j) := ((cm_fr fr (by omega)).1).trans t3
    have e56 : s2.1 356 (T j) = nxG v T (j + 1) := ((cm_fr h3 (by omega)).1).trans (tc_nx hT (by omega))
    have arg : (if (0 : Int32) ≤ zz j then zz j - nI i else -1) = nI (kk j) - 1 ∧ (zz j < 0 ↔ kk j = 0) := by
      rcases v3 with ⟨w1, w2⟩ | ⟨k', w1, w2⟩
      · rw [w1, w2]
        exact ⟨by rw [if_neg (show ¬ (0 : Int32) ≤ -1 by decide)]; decide, fun _ => rfl, fun _ => by decide⟩
      · have kb := v1.bd C
        have b2 : i + k' < 2 ^ 31 := by omega
        rw [w1, w2, nI_pm, if_pos (nI_pos' b2), nI_dif (by omega), show i + k' - i = k' by omega]
        exact ⟨rfl, fun y => absurd y (nI_pos b2), fun y => by omega⟩
    have st : b_X10_matchesFields_14 (R_X10_behindPerm g) (nI (x0 - i), nI dp, nI (sy_cn (fun j => if zz j < 0 then 0 else 1) j), nxG v T j, nI j, s1) = (if bZ (Mn r p E (nn j) (oo j)) = (0 : Int32) then some (.inr (0, s2)) else some (.inl (nI (x0 - i), nI dp, nI (sy_cn (fun j => if zz j < 0 then 0 else 1) (j + 1)), nxG v T (j + 1), nI (j + 1), s2))) := by
      have e80 : ∀ l4 : Int32, k_X10_matchesFields_80 (R_X10_behindPerm g) (nI (x0 - i)) (nI dp) l4 (nI (T j)) (nI j) (if (0 : Int32) ≤ zz j then zz j - nI i else -1) (nI (tt j)) s1 = (if bZ (Mn r p E (nn j) (oo j)) = (0 : Int32) then some (.inr (0, s2)) else some (.inl (nI (x0 - i), nI dp, l4, nxG v T (j + 1), nI (j + 1), s2))) := fun l4 => by
        unfold k_X10_matchesFields_80
        rw [arg.1, nI_1, h2, l2_bs, if_pos (l2_ix t1 (by decide)), nI_clamp (n := T j) (by omega), e56, nI_1]
        rfl
      have e56' : ∀ l4 : Int32, k_X10_matchesFields_56 (R_X10_behindPerm g) (nI (x0 - i)) (nI dp) l4 (nI (T j)) (nI j) (zz j) s1 = (if bZ (Mn r p E (nn j) (oo j)) = (0 : Int32) then some (.inr (0, s2)) else some (.inl (nI (x0 - i), nI dp, l4, nxG v T (j + 1), nI (j + 1), s2))) := fun l4 => by
        rw [← e80 l4]
        unfold k_X10_matchesFields_56
        rw [if_pos (l2_ix t1 (by decide)), nI_clamp (n := T j) (by omega), e55, fa2]
        by_cases c0 : (0 : Int32) ≤ zz j
        · rw [if_pos c0, if_pos c0]
        · rw [if_neg c0, if_neg c0]
      show k_X10_matchesFields_14 _ _ _ _ _ _ s1 = _
      unfold k_X10_matchesFields_14
      have e : sy_cn (fun j => if zz j < 0 then 0 else 1) (j + 1) = sy_cn (fun j => if zz j < 0 then 0 else 1) j + (if zz j < 0 then 0 else 1) := rfl
      rw [nx_in (j := j) (by omega), if_neg (show ¬ (16 : Int32) ≤ nI j from nI_ge (show j < 16 by omega) (by decide)), if_neg (nI_pos (by omega)), if_pos (l2_ix t1 (by decide)), nI_clamp (n := T j) (by omega), fa1, fa2, ix, e57, F, l2_bs, nI_1, e56', e56', e]
      by_cases c0 : zz j < 0
      · rw [if_pos c0, if_pos c0]
        rfl
      · rw [if_neg c0, if_neg c0]
    by_cases cM : Mn r p E (nn j) (oo j)
    · rw [if_neg (by rw [bZ_t cM]; decide)] at st
      rw [l2_lpS st]
      refine ih (j + 1) s2 N (by omega) (by omega) (fun k hk => ?_) h3 h4 he2
      by_cases ck : k = j
      · rw [ck]; exact cM
      · exact ha k (by omega)
    · rw [if_pos (bZ_f cM)] at st
      rw [bZ_f (fun z => cM (z.1 j (by omega)))]
      exact ⟨s2, l2_lpR st, h3, h4, he2⟩
end
