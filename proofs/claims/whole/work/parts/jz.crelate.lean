/-! Level 2: the class relates the elements of a LIST to templs. -/
theorem BS.full : BS (65535 : Int32) 16 (fun e => e < 16) := ⟨65535, rfl, by decide, fun e => by
  rw [show (65535 : Nat) = 2 ^ 16 - 1 from rfl, Nat.testBit_two_pow_sub_one, decide_eq_true_iff]⟩
theorem BS.win {k e : Nat} (h : e + k ≤ 16) : BS ((((1 : Int32) <<< (nI k &&& 31)) - (1 : Int32)) <<< (nI e &&& 31)) 16 (fun x => e ≤ x ∧ x < e + k) := by
  have p1 : 1 ≤ 2 ^ k := Nat.one_le_two_pow
  have le : 2 ^ k * 2 ^ e ≤ 2 ^ 16 := by rw [← Nat.pow_add]; exact Nat.pow_le_pow_right (by decide) (by omega)
  have lt : (2 ^ k - 1) * 2 ^ e < 2 ^ 16 := by
    have : (2 ^ k - 1) * 2 ^ e < 2 ^ k * 2 ^ e := Nat.mul_lt_mul_of_pos_right (by omega) (Nat.two_pow_pos e)
    omega
  have q : (((1 : Int32) <<< (nI k &&& 31)) - (1 : Int32)) = nI (2 ^ k - 1) := by
    rw [l2_shl1 (by omega), show (1 : Int32) = nI 1 from rfl, nI_dif p1]
  refine ⟨(2 ^ k - 1) * 2 ^ e, ?_, lt, fun x => ?_⟩
  · rw [q]
    exact pk_shlN (n := 2 ^ k - 1) (nI e &&& 31) e (s_l e (by omega)) (by omega)
  · rw [Nat.testBit_mul_two_pow, Nat.testBit_two_pow_sub_one, Bool.and_eq_true, decide_eq_true_iff, decide_eq_true_iff]
    omega
/-- as many templs as elements: templs to elements, or elements to templs -/
theorem kp_inv {N : Nat → Nat → Prop} {k e : Nat} (hN : ∀ l x, N l x → e ≤ x ∧ x < e + k) : kp_L N k ↔ kp_L (fun x l => l < k ∧ N l (e + x)) k := by
  constructor
  · intro ⟨g, g1, g2⟩
    have sur : ∀ x, x < k → ∃ l, l < k ∧ g l = e + x := fun x hx => Classical.byContradiction (fun no => by
      refine pg_on (A := fun y => y < k) (h := fun l => g l - e) (n := k) (x := x) (fun y hy => ⟨hy, ?_⟩) (fun y z hy hz q => ?_) hx (fun l hl q => no ⟨l, hl, ?_⟩)
      · have := hN _ _ (g1 y hy); show g y - e < k; omega
      · have h1 := hN _ _ (g1 y hy)
        have h2 := hN _ _ (g1 z hz)
        have q : g y - e = g z - e := q
        exact g2 y z hy hz (by omega)
      · have := hN _ _ (g1 l hl)
        have q : g l - e = x := q
        omega)
    have ch : ∀ x, ∃ l, x < k → l < k ∧ g l = e + x := fun x => by
      by_cases c : x < k
      · obtain ⟨l, h⟩ := sur x c
        exact ⟨l, fun _ => h⟩
      · exact ⟨0, fun y => absurd y c⟩
    refine ⟨fun x => Classical.choose (ch x), fun x hx => ?_, fun x y hx hy q => ?_⟩
    · have s := Classical.choose_spec (ch x) hx
      refine ⟨s.1, ?_⟩
      rw [← s.2]
      exact g1 _ s.1
    · have s1 := Classical.choose_spec (ch x) hx
      have s2 := Classical.choose_spec (ch y) hy
      have q : Classical.choose (ch x) = Classical.choose (ch y) := q
      have : e + x = e + y := by rw [← s1.2, ← s2.2, q]
      omega
  · intro ⟨g, g1, g2⟩
    have sur : ∀ l, l < k → ∃ x, x < k ∧ g x = l := fun l hl => Classical.byContradiction (fun no => by
      refine pg_on (A := fun y => y < k) (h := g) (n := k) (x := l) (fun y hy => ⟨hy, (g1 y hy).1⟩) (fun y z hy hz q => g2 y z hy hz q) hl (fun x hx q => no ⟨x, hx, q⟩))
    have ch : ∀ l, ∃ x, l < k → x < k ∧ g x = l := fun l => by
      by_cases c : l < k
      · obtain ⟨x, h⟩ := sur l c
        exact ⟨x, fun _ => h⟩
      · exact ⟨0, fun y => absurd y c⟩
    refine ⟨fun l => e + Classical.choose (ch l), fun l hl => ?_, fun l z hl hz q => ?_⟩
    · have s := Classical.choose_spec (ch l) hl
      have := (g1 _ s.1).2
      rw [s.2] at this
      exact this
    · have s1 := Classical.choose_spec (ch l) hl
      have s2 := Classical.choose_spec (ch z) hz
      have q : e + Classical.choose (ch l) = e + Classical.choose (ch z) := q
      rw [← s1.2, ← s2.2, show Classical.choose (ch l) = Classical.choose (ch z) by omega]
section
variable {c r s : t_S} {a i p E τ x u m x0 : Nat} {n t g k dp v : Nat} {o : Option Nat} {T G I Qe : Nat → Nat}
/-- a LIST and its elements, on both sides -/
structure LQ (c r : t_S) (a i p E q x0 m : Nat) (I Qe : Nat → Nat) : Prop where
  hd : ∃ n : Nat, vl_c (m : Int) n 8 (c.2.1 a x0)
  le : i ≤ x0 ∧ x0 < t_ln a
  rm : r.2.1 1006 (q + 1) = lN m
  m16 : m ≤ 16
  i0 : I 0 = 0
  el : ∀ e, e < m → I e < I (e + 1) ∧ x0 + 1 + I e < t_ln a ∧ (∃ t k, vl_c t (I (e + 1) - I e) k (c.2.1 a (x0 + 1 + I e))) ∧ VQ c r a i p E (some (Qe e)) (x0 + 1 + I e - i + 1)
  er : ∀ e, e < m → f_X13_partOf (nI q) (nI e) r = some (nI (Qe e)) ∧ Qe e < 626600
theorem pd_k8 {x : Nat} (C : CC c r a i p E τ) (pb : p + 260 ≤ 626600) (pr : ∀ x, x ≤ E → wq (r.2.1 1006) p x < p + 250) (pd : ∀ x, x < E → PD (c.2.1 a) (r.2.1 1006) i p E x) (hx : x < E) (h8 : r.2.1 1006 (wq (r.2.1 1006) p x) = lN 8) : ∃ m I Qe, LQ c r a i p E (wq (r.2.1 1006) p x) (wv (c.2.1 a) i x) m I Qe := by
  have ln := C.ln
  have l0 := wv_lt C pd hx
  have w0 := C.wb x hx
  obtain ⟨f, n0, m0, t, k, ⟨f120, V⟩, hc, ⟨hr, z, z1, z2, z3, zu⟩, hk⟩ := pd x hx
  have xl := pr z z2
  rw [h8] at hr
  have k8 : k = 8 := (lN_inj (by decide) (by have := hc.2.2; omega) hr).symm
  rcases hk with ⟨_, _, y⟩ | ⟨y, _⟩ | ⟨v, I, P, C', _, y2, v16, y3, y4, I0, P0, Iv, Pv, hj⟩ | ⟨v, I, P, X', C', y, _⟩
  · exact absurd k8 y
  · rw [k8] at y; exact absurd y (by decide)
  · have Pm : ∀ j, j < v → wq (r.2.1 1006) p x + 2 + P (j + 1) ≤ 626600 := fun j jv => by have := (hj j jv).1; omega
    rw [k8, y2] at hc
    refine ⟨v, I, fun e => wq (r.2.1 1006) p (C' e), ⟨n0, hc⟩, ⟨w0.1, l0⟩, y3, v16, I0, fun e he => ?_, fun e he => ?_⟩
    · obtain ⟨h1, h2, h3, h4, h5, h6, h7⟩ := hj e he
      obtain ⟨t', k', hd', _⟩ := h3.hd
      have lt := wv_lt C pd h5
      rw [h6] at lt
      refine ⟨h1.1, lt, ⟨t', k', hd'⟩, ?_⟩
      have := VQ.mk (i := i) (a := a) (c := c) h5 (by rw [h7]; exact h2)
      rw [h6] at this
      exact this
    · obtain ⟨h1, h2, h3, h4, h5, h6, h7⟩ := hj e he
      have hb := pr _ (Nat.le_of_lt h5)
      refine ⟨?_, (by show wq (r.2.1 1006) p (C' e) < 626600; omega)⟩
      show _ = some (nI (wq (r.2.1 1006) p (C' e)))
      have F := vw_part (s := r) (c := c.2.1 a) (f := f - 1) (v := v) (p := wq (r.2.1 1006) p x) (q0 := wq (r.2.1 1006) p x + 2) (k := 8) (j := e) (I := fun j => wv (c.2.1 a) i x + 1 + I j) (P := P) (L := fun j => I (j + 1) - I j) h8 (by decide) (by rw [if_neg (by decide)]) (fun y => absurd y (by decide)) (by omega) P0 (fun j jv => ⟨(hj j jv).1.2.1, Pm j jv, (hj j jv).2.2.1⟩) (by omega) (by omega) (by omega)
      rw [F, h7]
  · rw [k8] at y; exact absurd y (by decide)
theorem LQ.eL {q : Nat} (L : LQ c r a i p E q x0 m I Qe) {e : Nat} (he : e < m) (q' : Nat) : eL r q e q' ↔ q' = Qe e := by
  obtain ⟨pe, ql⟩ := L.er e he
  constructor
  · intro ⟨b1, b2⟩
    rw [pe] at b1
    injection b1 with b1
    exact ((nI_eq (by omega) (by omega)).mp b1).symm
  · intro e
    rw [e]
    exact ⟨pe, ql⟩
/-- one row -/
theorem rel_in {q : Nat} (C : CC c r a i p E τ) (L : LQ c r a i p E q x0 m I Qe) {vv : Int32} {j : Nat} (hj : j < 12) (hdp : dp ≤ 100) (ht : T j < 6100) (hQ : CQ c r a i p E τ g (T j) (G j) (dp + 1)) {nx : Int32} (hnx : c.1 356 (T j) = nx) : ∀ (d e : Nat) (row : Int32) (s1 : t_S) (N : Nat), e + d = m → d < N → BS row 16 (fun y => y < e ∧ Mn r p E (G j) (some (Qe y))) → l2_fr cmW c s1 → MemC c r a i p E τ s1 → (∀ x, x < 12 * dp + 12 → s1.1 426 x = s.1 426 x) → ∃ s', t_loop (b_X10_relate_50 (R_X10_behindPerm g)) N (vv, nI dp, nI m, nI j, nI (T j), row, nI (x0 + 1 + I e - i), nI e, s1) = some (.inl (vv, nI dp, nI m, nI (j + 1), nx, s')) ∧ l2_fr cmW c s' ∧ MemC c r a i p E τ s' ∧ (∀ x, x < 12 * dp + 12 → x ≠ 12 * dp + j → s'.1 426 x = s.1 426 x) ∧ BS (s'.1 426 (12 * dp + j)) 16 (fun y => y < m ∧ Mn r p E (G j) (some (Qe y))) := by
  intro d
  have m16 := L.m16
  have lei := L.le
  have ln := C.ln
  induction d with
  | zero =>
    intro e row s1 N he hN hb fr hm hk
    obtain ⟨N, rfl⟩ : ∃ y, N = y + 1 := ⟨N - 1, by omega⟩
    obtain rfl : e = m := by omega
    have fr2 : l2_fr cmW c (t_setI s1 426 (12 * dp + j) row) := fr.trans (l2_fr.set (Or.inr (Or.inl rfl)))
    have e56 : (t_setI s1 426 (12 * dp + j) row).1 356 (T j) = nx := ((cm_fr fr2 (by omega)).1).trans hnx
    refine ⟨t_setI s1 426 (12 * dp + j) row, l2_lpR ?_, fr2, ⟨fun j hj => ?_, fun u o k h1 h2 h3 => ?_⟩, fun x hx hne => ?_, ?_⟩
    · show k_X10_relate_50 _ _ _ _ _ _ _ _ _ s1 = _
      unfold k_X10_relate_50
      rw [if_pos (nI_le (Nat.le_refl _) (by omega)), show (12 : Int32) = nI 12 from rfl, pk_mul, nI_add, if_pos (l2_ix (by omega) (by decide)), t_let, if_pos (l2_ix ht (by decide)), nI_clamp (n := dp * 12 + j) (by omega), Nat.mul_comm dp 12, nI_clamp (n := T j) (by omega), e56, nI_1]
      rfl
    · rw [l2_sO (by decide)]
      exact hm.1 j hj
    · rw [l2_sO (by decide)] at h3 ⊢
      exact hm.2 u o k h1 h2 h3
    · rw [l2_g, if_neg hne]
      exact hk x hx
    · rw [l2_g, if_pos rfl]
      exact hb
  | succ d ih =>
    intro e row s1 N he hN hb fr hm hk
    obtain ⟨N, rfl⟩ : ∃ y, N = y + 1 := ⟨N - 1, by omega⟩
    obtain ⟨l1, l2, ⟨t', k', l3⟩, l4⟩ := L.el e (by omega)
    obtain ⟨s2, h1, h2, h3, h4⟩ := hQ s1 _ _ l4 fr hm
    obtain ⟨fa1, fa2, _, fa4⟩ := C.fa h2
    rw [nI_pm] at h1
    have ix : nI i + nI (x0 + 1 + I e - i) = nI (x0 + 1 + I e) := by rw [nI_add, show i + (x0 + 1 + I e - i) = x0 + 1 + I e by omega]
    have e80 : ∀ rw' : Int32, k_X10_relate_80 (R_X10_behindPerm g) vv (nI dp) (nI m) (nI j) (nI (T j)) rw' (nI (x0 + 1 + I e - i)) (nI e) s2 = some (.inl (vv, nI dp, nI m, nI j, nI (T j), rw', nI (x0 + 1 + I (e + 1) - i), nI (e + 1), s2)) := fun rw' => by
      unfold k_X10_relate_80
      rw [fa1, fa2, if_pos C.ok, ix, if_pos (l2_ix l2 (by omega)), nI_clamp (n := x0 + 1 + I e) (by omega), fa4, vl_size l3, nI_add, nI_1, show x0 + 1 + I e - i + (I (e + 1) - I e) = x0 + 1 + I (e + 1) - i by omega]
    have st : b_X10_relate_50 (R_X10_behindPerm g) (vv, nI dp, nI m, nI j, nI (T j), row, nI (x0 + 1 + I e - i), nI e, s1) = some (.inl (vv, nI dp, nI m, nI j, nI (T j), (row ||| (if bZ (Mn r p E (G j) (some (Qe e))) = 0 then 0 else (1 : Int32) <<< (nI e &&& 31))), nI (x0 + 1 + I (e + 1) - i), nI (e + 1), s2)) := by
      show k_X10_relate_50 _ _ _ _ _ _ _ _ _ s1 = _
      unfold k_X10_relate_50
      rw [if_neg (nI_ge (show e < m by omega) (by omega)), nI_1, h1, l2_bs]
      by_cases cM : bZ (Mn r p E (G j) (some (Qe e))) = 0
      · rw [if_pos cM, if_pos cM, e80]
        have : row ||| (0 : Int32) = row := by
          obtain ⟨a, a1, _⟩ := hb
          rw [a1, show (0 : Int32) = nI 0 from rfl, fa_or, Nat.or_zero]
        rw [this]
      · rw [if_neg cM, if_neg cM, e80]
    rw [l2_lpS st]
    refine ih (e + 1) _ s2 N (by omega) (by omega) ?_ h2 h3 (fun x hx => (h4 x (by omega)).trans (hk x hx))
    by_cases cM : Mn r p E (G j) (some (Qe e))
    · rw [bZ_t cM, if_neg (by decide)]
      refine (hb.or (BS.bit (e := e) (n := 16) (by omega) (by omega))).iff (fun y => ⟨fun z => ?_, fun z => ?_⟩)
      · rcases z with z | z
        · exact ⟨by omega, z.2⟩
        · rw [z]; exact ⟨by omega, cM⟩
      · by_cases ce : y = e
        · exact Or.inr ce
        · exact Or.inl ⟨by omega, z.2⟩
    · rw [bZ_f cM, if_pos rfl]
      refine (hb.or BS.zero).iff (fun y => ⟨fun z => ?_, fun z => ?_⟩)
      · rcases z with z | z
        · exact ⟨by omega, z.2⟩
        · exact z.elim
      · by_cases ce : y = e
        · rw [ce] at z
          exact absurd z.2 cM
        · exact Or.inl ⟨by omega, z.2⟩
/-- all rows -/
theorem rel_go {q : Nat} (C : CC c r a i p E τ) (L : LQ c r a i p E q x0 m I Qe) (hdp : dp ≤ 100) (hv : v ≤ 12) (ht : t < 6100) (hT : tc_R c t v T) (hQ : ∀ j, j < v → T j < 6100 ∧ CQ c r a i p E τ g (T j) (G j) (dp + 1)) (fr : l2_fr cmW c s) (hm : MemC c r a i p E τ s) : ∃ s', m_X10_relate (R_X10_behindPerm g) (nI t) (nI (x0 - i)) (nI dp) s = some (nI v, s') ∧ l2_fr cmW c s' ∧ MemC c r a i p E τ s' ∧ (∀ x, x < 12 * dp → s'.1 426 x = s.1 426 x) ∧ ∀ j, j < v → BS (s'.1 426 (12 * dp + j)) 16 (fun y => y < m ∧ Mn r p E (G j) (some (Qe y))) := by
  have lei := L.le
  have ln := C.ln
  obtain ⟨fa1, fa2, _, fa4⟩ := C.fa fr
  have f55 : s.1 355 t = nxG v T 0 := ((cm_fr fr (by omega)).1).trans (tc_n0 hT)
  have lp : ∀ (d j : Nat) (s1 : t_S) (N : Nat), j + d = v → d < N → l2_fr cmW c s1 → MemC c r a i p E τ s1 → (∀ x, x < 12 * dp → s1.1 426 x = s.1 426 x) → (∀ j', j' < j → BS (s1.1 426 (12 * dp + j')) 16 (fun y => y < m ∧ Mn r p E (G j') (some (Qe y)))) → ∃ s', t_loop (b_X10_relate_27 (R_X10_behindPerm g)) N (nI (x0 - i), nI dp, nI m, nI j, nxG v T j, s1) = some (nI v, s') ∧ l2_fr cmW c s' ∧ MemC c r a i p E τ s' ∧ (∀ x, x < 12 * dp → s'.1 426 x = s.1 426 x) ∧ ∀ j, j < v → BS (s'.1 426 (12 * dp + j)) 16 (fun y => y < m ∧ Mn r p E (G j) (some (Qe y))) := by
    intro d
    induction d with
    | zero =>
      intro j s1 N hj hN f1 m1 k1 b1
      obtain ⟨N, rfl⟩ : ∃ y, N = y + 1 := ⟨N - 1, by omega⟩
      obtain rfl : j = v := by omega
      refine ⟨s1, l2_lpR ?_, f1, m1, k1, b1⟩
      show k_X10_relate_27 _ _ _ _ _ _ s1 = _
      unfold k_X10_relate_27
      rw [nx_out (j := j) (v := j) (by omega)]
      by_cases c12 : (12 : Int32) ≤ nI j
      · rw [if_pos c12]; rfl
      · rw [if_neg c12, if_pos (show (-1 : Int32) < 0 by decide)]; rfl
    | succ d ih =>
      intro j s1 N hj hN f1 m1 k1 b1
      obtain ⟨N, rfl⟩ : ∃ y, N = y + 1 := ⟨N - 1, by omega⟩
      obtain ⟨t1, t2⟩ := hQ j (by omega)
      obtain ⟨s2, h1, h2, h3, h4, h5⟩ := rel_in (s := s1) (vv := nI (x0 - i)) C L (show j < 12 by omega) hdp t1 t2 (tc_nx hT (by omega)) m 0 0 s1 t_N (by omega) (by have := l2_N; have := L.m16; omega) (BS.zero.iff (fun e => ⟨fun y => y.elim, fun y => by have := y.1; omega⟩)) f1 m1 (fun _ _ => rfl)
      rw [L.i0, Nat.add_zero] at h1
      have st : b_X10_relate_27 (R_X10_behindPerm g) (nI (x0 - i), nI dp, nI m, nI j, nxG v T j, s1) = some (.inl (nI (x0 - i), nI dp, nI m, nI (j + 1), nxG v T (j + 1), s2)) := by
        show k_X10_relate_27 _ _ _ _ _ _ s1 = _
        unfold k_X10_relate_27
        rw [nx_in (j := j) (by omega), if_neg (show ¬ (12 : Int32) ≤ nI j from nI_ge (show j < 12 by omega) (by decide)), if_neg (nI_pos (by omega)), nI_1, show x0 - i + 1 = x0 + 1 - i by omega]
        exact h1
      rw [l2_lpS st]
      refine ih (j + 1) s2 N (by omega) (by omega) h2 h3 (fun x hx => (h4 x (by omega) (by omega)).trans (k1 x hx)) (fun j' hj' => ?_)
      by_cases e : j' = j
      · rw [e]; exact h5
      · rw [h4 _ (by omega) (by omega)]
        exact b1 j' (by omega)
  obtain ⟨s', h1, h2⟩ := lp v 0 s t_N (by omega) (by have := l2_N; omega) fr hm (fun _ _ => rfl) (fun j' hj' => by omega)
  refine ⟨s', ?_, h2⟩
  obtain ⟨n, hd⟩ := L.hd
  have pe : f_X8_partsOf (c.2.1 a x0) s = nI m := by
    unfold f_X8_partsOf
    rw [vl_i32 hd (by have := L.m16; omega)]
  unfold m_X10_relate
  rw [fa1, fa2, if_pos C.ok, nI_add, show i + (x0 - i) = x0 by omega, if_pos (l2_ix lei.2 (by omega)), if_pos (l2_ix ht (by decide)), nI_clamp (n := x0) (by omega), nI_clamp (n := t) (by omega), fa4, pe, f55]
  exact h1
end
