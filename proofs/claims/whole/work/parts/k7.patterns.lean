/-! Level 2: templs without parts: patterns. -/
section
variable {c r cs rs : t_S} {a i p E τ : Nat} {n t pl w0 q m v s0 : Nat} {P B : Nat → Nat}
/-- what both sides see of a pattern and a TEXT -/
structure PS (cs rs : t_S) (a pl w0 n q m v s0 : Nat) (P B : Nat → Nat) : Prop where
  rf : cs.2.2 353 14 = a
  mv : m ≤ 40 ∧ v ≤ 40 ∧ n < 13000 ∧ s0 + m ≤ 24300
  pb : ∀ k, k < m → 32 ≤ P k ∧ P k ≤ 126
  bb : ∀ k, k < v → B k ≤ 126
  cp : ∀ k, k < m → f_X8_sign 337 (nI pl) (nI k) cs = some (nI (P k))
  cb : ∀ k, k < v → f_X8_sign a (nI w0) (nI k) cs = some (nI (B k))
  rx : rs.2.1 957 n = lN s0
  rp : ∀ k, k < m → rs.1 963 (s0 + k) = nI (P k)
  rb : ∀ k, k < v → f_X13_signOf (nI q) (nI k) rs = some (nI (B k))
theorem ps_tail (h : PS cs rs a pl w0 n q m v s0 P B) : ∀ (d k N N' : Nat), k + d = m → d < N → d < N' → ∃ w : Int32, (w = 0 ∨ w = 1) ∧ t_loop (b_X10_fitsPattern_165 cs) N (nI pl, nI m, nI v, nI k, nI v) = some w ∧ t_loop (b_X13_isPattern_147 rs) N' (nI n, nI m, nI k) = some w := by
  obtain ⟨m40, v40, hn, hs⟩ := h.mv
  intro d
  induction d with
  | zero =>
    intro k N N' hk hN hN'
    obtain ⟨N, rfl⟩ : ∃ y, N = y + 1 := ⟨N - 1, by omega⟩
    obtain ⟨N', rfl⟩ : ∃ y, N' = y + 1 := ⟨N' - 1, by omega⟩
    obtain rfl : k = m := by omega
    refine ⟨1, Or.inr rfl, l2_lpM ?_, l2_lpM ?_⟩
    · show k_X10_fitsPattern_165 (nI pl) (nI k) (nI v) (nI k) (nI v) cs = _
      unfold k_X10_fitsPattern_165 k_X10_fitsPattern_195
      rw [if_pos (nI_le (Nat.le_refl _) (by omega)), if_neg (fun z => by have := (nI_ltI (by omega) (by omega)).mp z; omega), if_neg (fun z => by have := (nI_ltI (by omega) (by omega)).mp z; omega)]
    · show k_X13_isPattern_147 (nI n) (nI k) (nI k) rs = _
      unfold k_X13_isPattern_147 k_X13_isPattern_180
      rw [if_pos (nI_le (Nat.le_refl _) (by omega)), if_pos rfl]
  | succ d ih =>
    intro k N N' hk hN hN'
    obtain ⟨N, rfl⟩ : ∃ y, N = y + 1 := ⟨N - 1, by omega⟩
    obtain ⟨N', rfl⟩ : ∃ y, N' = y + 1 := ⟨N' - 1, by omega⟩
    have ck := h.cp k (by omega)
    have rk := h.rp k (by omega)
    have e1 : b_X10_fitsPattern_165 cs (nI pl, nI m, nI v, nI k, nI v) = (if nI (P k) = (42 : Int32) then some (.inl (nI pl, nI m, nI v, nI (k + 1), nI v)) else some (.inr 0)) := by
      show k_X10_fitsPattern_165 (nI pl) (nI m) (nI v) (nI k) (nI v) cs = _
      unfold k_X10_fitsPattern_165 k_X10_fitsPattern_195
      rw [if_neg (nI_ge (show k < m by omega) (by omega)), ck, l2_bs, nI_1, if_neg (show ¬ nI v < nI v from fun z => by have := (nI_ltI (by omega) (by omega)).mp z; omega), if_pos (nI_lt (show k < m by omega) (by omega))]
      rfl
    have e2 : b_X13_isPattern_147 rs (nI n, nI m, nI k) = (if nI (P k) = (42 : Int32) then some (.inl (nI n, nI m, nI (k + 1))) else some (.inr 0)) := by
      show k_X13_isPattern_147 (nI n) (nI m) (nI k) rs = _
      unfold k_X13_isPattern_147 k_X13_isPattern_180
      rw [if_neg (nI_ge (show k < m by omega) (by omega)), if_pos (l2_ix hn (by decide)), nI_clamp (n := n) (by omega), h.rx, lN_w, nI_add, if_pos (l2_ix (by omega) (by decide)), nI_clamp (n := s0 + k) (by omega), rk, nI_1, if_neg (show ¬ nI k = nI m from fun z => by have := (nI_eq (by omega) (by omega)).mp z; omega)]
      rfl
    by_cases c42 : nI (P k) = (42 : Int32)
    · rw [if_pos c42] at e1 e2
      rw [l2_lpS e1, l2_lpS e2]
      exact ih (k + 1) N N' (by omega) (by omega) (by omega)
    · rw [if_neg c42] at e1 e2
      exact ⟨0, Or.inl rfl, l2_lpR e1, l2_lpR e2⟩
/-- both walk alike -/
theorem ps_go (h : PS cs rs a pl w0 n q m v s0 P B) : ∀ (Φ k i fr it N N' : Nat) (st : Int32), k ≤ m → i ≤ v → fr ≤ i → (st = -1 ∨ ∃ z, z < m ∧ st = nI z) → (v + 1 - fr) * (m + 2) + (m + 1 - k) ≤ Φ → it + Φ ≤ 3900 → Φ < N → Φ < N' → ∃ w : Int32, (w = 0 ∨ w = 1) ∧ t_loop (b_X10_fitsPattern_39 cs) N (nI pl, nI w0, nI m, nI v, nI k, nI i, st, nI fr, nI it) = some w ∧ t_loop (b_X13_isPattern_31 rs) N' (nI n, nI q, nI v, nI m, nI i, nI k, st, nI fr) = some w := by
  obtain ⟨m40, v40, hn, hs⟩ := h.mv
  intro Φ
  induction Φ with
  | zero => intro k i fr it N N' st h1 h2 h3 h4 h5; omega
  | succ Φ ih =>
    intro k i fr it N N' st h1 h2 h3 h4 h5 h6 h7 h8
    obtain ⟨N, rfl⟩ : ∃ y, N = y + 1 := ⟨N - 1, by omega⟩
    obtain ⟨N', rfl⟩ : ∃ y, N' = y + 1 := ⟨N' - 1, by omega⟩
    by_cases ci : v ≤ i
    · -- the TEXT is through
      obtain rfl : i = v := by omega
      have tn := l2_N
      obtain ⟨w, w1, w2, w3⟩ := ps_tail h (m - k) k t_N t_N (by omega) (by omega) (by omega)
      refine ⟨w, w1, l2_lpM ?_, l2_lpM ?_⟩
      · show k_X10_fitsPattern_39 (nI pl) (nI w0) (nI m) (nI i) (nI k) (nI i) st (nI fr) (nI it) cs = _
        unfold k_X10_fitsPattern_39
        rw [if_pos (nI_le (Nat.le_refl _) (by omega)), w2]
      · show k_X13_isPattern_31 (nI n) (nI q) (nI i) (nI m) (nI i) (nI k) st (nI fr) rs = _
        unfold k_X13_isPattern_31
        rw [if_pos (nI_le (Nat.le_refl _) (by omega)), w3]
    · have iv : i < v := by omega
      -- what happens without a match
      have back : ∀ e1 e2 : Option _, e1 = (if st < (0 : Int32) then some (.inr 0) else some (.inl (nI pl, nI w0, nI m, nI v, st + 1, nI (fr + 1), st, nI (fr + 1), nI (it + 1)))) → e2 = (if st < (0 : Int32) then some (.inr 0) else some (.inl (nI n, nI q, nI v, nI m, nI (fr + 1), st + 1, st, nI (fr + 1)))) → b_X10_fitsPattern_39 cs (nI pl, nI w0, nI m, nI v, nI k, nI i, st, nI fr, nI it) = e1 → b_X13_isPattern_31 rs (nI n, nI q, nI v, nI m, nI i, nI k, st, nI fr) = e2 → ∃ w : Int32, (w = 0 ∨ w = 1) ∧ t_loop (b_X10_fitsPattern_39 cs) (N + 1) (nI pl, nI w0, nI m, nI v, nI k, nI i, st, nI fr, nI it) = some w ∧ t_loop (b_X13_isPattern_31 rs) (N' + 1) (nI n, nI q, nI v, nI m, nI i, nI k, st, nI fr) = some w := fun e1 e2 d1 d2 d3 d4 => by
        rw [d1] at d3
        rw [d2] at d4
        rcases h4 with e | ⟨z, z1, e⟩
        · rw [e, if_pos (show (-1 : Int32) < 0 by decide)] at d3 d4
          rw [e]
          exact ⟨0, Or.inl rfl, l2_lpR d3, l2_lpR d4⟩
        · subst e
          rw [if_neg (nI_pos (by omega)), nI_1] at d3 d4
          rw [l2_lpS d3, l2_lpS d4]
          refine ih (z + 1) (fr + 1) (fr + 1) (it + 1) N N' (nI z) (by omega) (by omega) (Nat.le_refl _) (Or.inr ⟨z, z1, rfl⟩) ?_ (by omega) (by omega) (by omega)
          have : (v + 1 - fr) * (m + 2) = (v + 1 - (fr + 1)) * (m + 2) + (m + 2) := by rw [← Nat.succ_mul]; congr 1; omega
          omega
      have n4 : ¬ (4000 : Int32) ≤ nI it := nI_ge (show it < 4000 by omega) (by decide)
      by_cases ck : m ≤ k
      · -- the pattern is through
        refine back _ _ rfl rfl ?_ ?_
        · show k_X10_fitsPattern_39 (nI pl) (nI w0) (nI m) (nI v) (nI k) (nI i) st (nI fr) (nI it) cs = _
          unfold k_X10_fitsPattern_39 k_X10_fitsPattern_77 k_X10_fitsPattern_136 k_X10_fitsPattern_159
          rw [if_neg (nI_ge iv (by omega)), if_neg n4, if_pos (nI_le ck (by omega)), if_neg (by decide), if_pos rfl, nI_1, nI_1]
          rfl
        · show k_X13_isPattern_31 (nI n) (nI q) (nI v) (nI m) (nI i) (nI k) st (nI fr) rs = _
          unfold k_X13_isPattern_31 k_X13_isPattern_63 k_X13_isPattern_121
          rw [if_neg (nI_ge iv (by omega)), if_pos (nI_le ck (by omega)), if_neg (by decide), if_pos (nI_le ck (by omega)), nI_1]
          rfl
      · have kp := h.cp k (by omega)
        have kr := h.rp k (by omega)
        have kb := h.pb k (by omega)
        have ic := h.cb i iv
        have ir := h.rb i iv
        have ib := h.bb i iv
        have n0 : ¬ nI (P k) = (0 : Int32) := nI_ne0 (by omega) (by omega)
        have E1 : b_X10_fitsPattern_39 cs (nI pl, nI w0, nI m, nI v, nI k, nI i, st, nI fr, nI it) = (if nI (P k) = (42 : Int32) then some (.inl (nI pl, nI w0, nI m, nI v, nI (k + 1), nI i, nI k, nI i, nI (it + 1))) else if nI (P k) = (63 : Int32) ∨ nI (P k) = nI (B i) then some (.inl (nI pl, nI w0, nI m, nI v, nI (k + 1), nI (i + 1), st, nI fr, nI (it + 1))) else (if st < (0 : Int32) then some (.inr 0) else some (.inl (nI pl, nI w0, nI m, nI v, st + 1, nI (fr + 1), st, nI (fr + 1), nI (it + 1))))) := by
          show k_X10_fitsPattern_39 (nI pl) (nI w0) (nI m) (nI v) (nI k) (nI i) st (nI fr) (nI it) cs = _
          unfold k_X10_fitsPattern_39 k_X10_fitsPattern_77 k_X10_fitsPattern_127 k_X10_fitsPattern_136 k_X10_fitsPattern_159
          rw [if_neg (nI_ge iv (by omega)), if_neg n4, if_neg (nI_ge (show k < m by omega) (by omega)), kp, l2_bs, if_neg n0, h.rf, ic, l2_bs, nI_1, nI_1, nI_1, nI_1]
          by_cases c1 : nI (P k) = (42 : Int32)
          · rw [if_pos c1, if_pos c1]
          · rw [if_neg c1, if_neg c1]
            by_cases c2 : nI (P k) = (63 : Int32)
            · rw [if_pos c2, if_pos (Or.inl c2)]
            · rw [if_neg c2]
              by_cases c3 : nI (P k) = nI (B i)
              · rw [if_pos c3, if_pos (Or.inr c3)]
              · rw [if_neg c3, if_neg (show ¬ (nI (P k) = (63 : Int32) ∨ nI (P k) = nI (B i)) from fun z => z.elim c2 c3)]
                rfl
        have E2 : b_X13_isPattern_31 rs (nI n, nI q, nI v, nI m, nI i, nI k, st, nI fr) = (if nI (P k) = (42 : Int32) then some (.inl (nI n, nI q, nI v, nI m, nI i, nI (k + 1), nI k, nI i)) else if nI (P k) = (63 : Int32) ∨ nI (P k) = nI (B i) then some (.inl (nI n, nI q, nI v, nI m, nI (i + 1), nI (k + 1), st, nI fr)) else (if st < (0 : Int32) then some (.inr 0) else some (.inl (nI n, nI q, nI v, nI m, nI (fr + 1), st + 1, st, nI (fr + 1))))) := by
          show k_X13_isPattern_31 (nI n) (nI q) (nI v) (nI m) (nI i) (nI k) st (nI fr) rs = _
          unfold k_X13_isPattern_31 k_X13_isPattern_63 k_X13_isPattern_112 k_X13_isPattern_121
          rw [if_neg (nI_ge iv (by omega)), if_neg (nI_ge (show k < m by omega) (by omega)), if_pos (l2_ix hn (by decide)), nI_clamp (n := n) (by omega), h.rx, lN_w, nI_add, if_pos (l2_ix (by omega) (by decide)), nI_clamp (n := s0 + k) (by omega), kr, ir, l2_bs, nI_1, nI_1, nI_1]
          by_cases c1 : nI (P k) = (42 : Int32)
          · rw [if_pos c1, if_pos c1]
          · rw [if_neg c1, if_neg c1, if_neg (nI_ge (show k < m by omega) (by omega))]
            by_cases c2 : nI (P k) = (63 : Int32)
            · rw [if_pos c2, if_pos (Or.inl c2)]
            · rw [if_neg c2]
              by_cases c3 : nI (P k) = nI (B i)
              · rw [if_pos c3, if_pos (Or.inr c3)]
              · rw [if_neg c3, if_neg (show ¬ (nI (P k) = (63 : Int32) ∨ nI (P k) = nI (B i)) from fun z => z.elim c2 c3)]
                rfl
        by_cases c1 : nI (P k) = (42 : Int32)
        · rw [if_pos c1] at E1 E2
          rw [l2_lpS E1, l2_lpS E2]
          refine ih (k + 1) i i (it + 1) N N' (nI k) (by omega) h2 (Nat.le_refl _) (Or.inr ⟨k, by omega, rfl⟩) ?_ (by omega) (by omega) (by omega)
          have : (v + 1 - i) * (m + 2) ≤ (v + 1 - fr) * (m + 2) := Nat.mul_le_mul_right _ (by omega)
          omega
        · rw [if_neg c1] at E1 E2
          by_cases c2 : nI (P k) = (63 : Int32) ∨ nI (P k) = nI (B i)
          · rw [if_pos c2] at E1 E2
            rw [l2_lpS E1, l2_lpS E2]
            exact ih (k + 1) (i + 1) fr (it + 1) N N' st (by omega) (by omega) (by omega) h4 (by omega) (by omega) (by omega) (by omega)
          · rw [if_neg c2] at E1 E2
            exact back _ _ rfl rfl E1 E2
theorem ps_both (h : PS cs rs a pl w0 n q m v s0 P B) : ∃ w : Int32, (w = 0 ∨ w = 1) ∧ t_loop (b_X10_fitsPattern_39 cs) t_N (nI pl, nI w0, nI m, nI v, 0, 0, (-1), 0, 0) = some w ∧ t_loop (b_X13_isPattern_31 rs) t_N (nI n, nI q, nI v, nI m, 0, 0, (-1), 0) = some w := by
  obtain ⟨m40, v40, _⟩ := h.mv
  have b : (v + 1) * (m + 2) ≤ 41 * 42 := Nat.mul_le_mul (by omega) (by omega)
  have tn := l2_N
  exact ps_go h 1800 0 0 0 0 t_N t_N (-1) (by omega) (by omega) (Nat.le_refl _) (Or.inl rfl) (by rw [Nat.sub_zero, Nat.sub_zero]; omega) (by omega) (by omega) (by omega)
/-- what a pattern means -/
def sP (r : t_S) (n : Nat) (o : Option Nat) : Prop := ∃ q, o = some q ∧ r.2.1 1006 q = lN 2 ∧ f_X13_isPattern (nI n) (nI q) r = some 1
theorem ext_2 {w : Int64} {n v : Nat} {s : t_S} (h : vl_c (v : Int) n 2 w) (hv : v < 2 ^ 31) : f_X8_extent w s = nI v := by
  have k2 : w.toInt32 &&& (15 : Int32) = (2 : Int32) := vl_kind h (s := s)
  unfold f_X8_extent k_X8_extent_23
  rw [if_pos k2, vl_i32 h hv]
theorem lf_pat {pl s0 : Nat} {P : Nat → Nat} (C : CC c r a i p E τ) (pb : p + 260 ≤ 626600) (pr : ∀ x, x ≤ E → wq (r.2.1 1006) p x < p + 250) (pd : ∀ x, x < E → PD (c.2.1 a) (r.2.1 1006) i p E x) (hn : n < 13000) (ht : t < 6100) (hk : r.1 955 n = nI 35) (h54 : c.1 354 t = nI 14) (h57 : c.1 357 t = nI pl) (hT : pT c r pl n m s0 P) : LfC c r a i p E t (sP r n) ∧ LfR r p E n (sP r n) := by
  have hT' := hT
  obtain ⟨m40, x57, x58, hs0, hp, hB, hw, _⟩ := hT'
  -- the joint walk
  have both : ∀ (cs rs : t_S) (x : Nat), x < E → r.2.1 1006 (wq (r.2.1 1006) p x) = lN 2 → l2_fr cmW c cs → l2_fr rmW r rs → ∃ w : Int32, (w = 0 ∨ w = 1) ∧ f_X10_fitsPattern (nI pl) (nI (wv (c.2.1 a) i x)) cs = some w ∧ f_X13_isPattern (nI n) (nI (wq (r.2.1 1006) p x)) rs = some w := fun cs rs x hx h2 fc fr => by
    have b0 := pr x (by omega)
    have ln := C.ln
    obtain ⟨fa1, fa2, _, fa4⟩ := C.fa fc
    have f37 : ∀ j, cs.2.1 337 j = c.2.1 337 j := fun j => (cm_fr fc (by omega)).2.1
    have f6 : ∀ j, rs.2.1 1006 j = r.2.1 1006 j := fun j => (rm_fr fr (by omega)).2
    have f57 : rs.2.1 957 n = lN s0 := ((rm_fr fr (by omega)).2).trans x57
    have f58 : rs.2.1 958 n = lN m := ((rm_fr fr (by omega)).2).trans x58
    obtain ⟨v, B, e1, e2, e3, e4, e5, e6, e7⟩ := pd_text C pr pd hx h2
    have sg : ∀ k, k < v → f_X8_sign a (nI (wv (c.2.1 a) i x)) (nI k) cs = some (nI (B k)) ∧ f_X13_signOf (nI (wq (r.2.1 1006) p x)) (nI k) rs = some (nI (B k)) := fun k hk => sg_both (c := cs) (r := rs) (arr := a) (T := wq (r.2.1 1006) p x) (v := v) (B := B) C.ok C.ln e4 (fun q' hq' => by rw [fa4, f6]; exact e5 q' hq') hk e1 (by omega) (by omega)
    have hps : PS cs rs a pl (wv (c.2.1 a) i x) n (wq (r.2.1 1006) p x) m v s0 P B := ⟨fa1, ⟨m40, e1, hn, hs0⟩, fun k hk => ⟨(hB k hk).1, (hB k hk).2.1⟩, fun k hk => (e4 k hk).2, fun k hk => hT.sign f37 hk, fun k hk => (sg k hk).1, f57, fun k hk => ((rm_fr fr (by omega)).1).trans (hB k hk).2.2, fun k hk => (sg k hk).2⟩
    obtain ⟨w, w1, w2, w3⟩ := ps_both hps
    refine ⟨w, w1, ?_, ?_⟩
    · unfold f_X10_fitsPattern
      rw [if_pos (l2_ix (show pl < 26000 by omega) (by decide)), fa1, if_pos C.ok, if_pos (l2_ix (show wv (c.2.1 a) i x < t_ln a by omega) (by omega)), nI_clamp (n := pl) (by omega), nI_clamp (n := wv (c.2.1 a) i x) (by omega), f37, fa4, ext_2 hw (by omega), ext_2 e2 (by omega)]
      exact w2
    · unfold f_X13_isPattern
      rw [nI_1, if_pos (l2_ix (by omega) (by decide)), if_pos (l2_ix hn (by decide)), nI_clamp (n := n) (by omega), nI_clamp (n := wq (r.2.1 1006) p x + 1) (by omega), f6, e3, f58, lN_w, lN_w]
      exact w3
  have ans : ∀ (w : Int32) (x : Nat), (w = 0 ∨ w = 1) → r.2.1 1006 (wq (r.2.1 1006) p x) = lN 2 → f_X13_isPattern (nI n) (nI (wq (r.2.1 1006) p x)) r = some w → w = bZ (sP r n (some (wq (r.2.1 1006) p x))) := fun w x w01 h2 hw => by
    rcases w01 with e | e
    · rw [e, bZ_f (fun ⟨q', y1, _, y2⟩ => by
        injection y1 with y1
        rw [← y1, hw, e] at y2
        injection y2 with y2
        exact absurd y2 (by decide))]
    · rw [e, bZ_t ⟨_, rfl, h2, by rw [hw, e]⟩]
  refine ⟨lfc_of h54 (fun rc s dp fr f54 => ⟨fun x hx _ => ?_, ?_⟩), lfr_of hn hk (fun rc s fr f55 f6 => ⟨fun x hx _ => ?_, ?_⟩)⟩
  · obtain ⟨w1, w2⟩ := C.wb x hx
    have ln := C.ln
    have hl' := wv_lt C pd hx
    obtain ⟨fa1, fa2, _, fa4⟩ := C.fa fr
    obtain ⟨t0, m0, K0, z1, z2, z3, _⟩ := pd_val C pb pr pd hx
    have ne : nI K0 = (2 : Int32) ↔ K0 = 2 := nI_eq (b := 2) (by omega) (by decide)
    have ix : nI i + nI (wv (c.2.1 a) i x - i) = nI (wv (c.2.1 a) i x) := by rw [nI_add, show i + (wv (c.2.1 a) i x - i) = wv (c.2.1 a) i x by omega]
    have f57 : s.1 357 t = nI pl := ((cm_fr fr (by omega)).1).trans h57
    unfold k_X10_matches_61
    rw [if_pos (l2_ix ht (by decide)), nI_clamp (n := t) (by omega), f54, if_neg (by decide), if_neg (by decide), if_neg (by decide), if_neg (by decide), if_neg (by decide), if_neg (by decide), if_neg (by decide), if_neg (by decide), if_neg (by decide), if_neg (by decide), if_neg (by decide), if_neg (by decide), if_neg (by decide), if_neg (by decide), if_pos (by decide), if_neg (nI_pos (by omega)), fa1, fa2, if_pos C.ok, ix, if_pos (l2_ix hl' (by omega)), nI_clamp (n := wv (c.2.1 a) i x) (by omega), fa4, vl_kind z1, f57]
    by_cases c2 : K0 = 2
    · rw [if_pos (ne.mpr c2)]
      have h2 : r.2.1 1006 (wq (r.2.1 1006) p x) = lN 2 := by rw [z3, c2]
      obtain ⟨w, y1, y2, y3⟩ := both s r x hx h2 fr l2_fr.rf
      rw [y2, l2_bs, ans w x y1 h2 y3]
      rcases bZ_01 (P := sP r n (some (wq (r.2.1 1006) p x))) with e | e <;> rw [e] <;> rfl
    · rw [if_neg (fun z => c2 (ne.mp z)), bZ_f (show ¬ sP r n (some (wq (r.2.1 1006) p x)) from fun ⟨q', y1, y2, _⟩ => by injection y1 with y1; rw [← y1, z3] at y2; exact c2 (lN_inj (by omega) (by decide) y2))]
  · unfold k_X10_matches_61
    rw [if_pos (l2_ix ht (by decide)), nI_clamp (n := t) (by omega), f54, if_neg (by decide), if_neg (by decide), if_neg (by decide), if_neg (by decide), if_neg (by decide), if_neg (by decide), if_neg (by decide), if_neg (by decide), if_neg (by decide), if_neg (by decide), if_neg (by decide), if_neg (by decide), if_neg (by decide), if_neg (by decide), if_pos (by decide), if_pos (by decide), bZ_f (show ¬ sP r n none from fun ⟨q, y, _⟩ => no_ns y)]
  · have b0 := pr x (by omega)
    obtain ⟨t0, m0, K0, z1, z2, z3, _⟩ := pd_val C pb pr pd hx
    have ne : nI K0 = (2 : Int32) ↔ K0 = 2 := nI_eq (b := 2) (by omega) (by decide)
    unfold m_X13_toneMatch
    rw [if_pos (l2_ix (by omega) (by decide)), if_pos (l2_ix hn (by decide)), nI_clamp (n := n) (by omega), f55, if_neg (by decide), if_neg (by decide), if_neg (by decide), if_neg (by decide), if_neg (by decide), if_neg (by decide), if_neg (by decide), if_neg (by decide), if_neg (by decide), if_neg (by decide), if_neg (by decide), if_neg (by decide), if_neg (by decide), if_neg (by decide), if_neg (by decide), if_neg (by decide), if_pos (by decide), nI_clamp (n := wq (r.2.1 1006) p x) (by omega), f6, z3, lN_w]
    by_cases c2 : K0 = 2
    · rw [if_pos (ne.mpr c2)]
      have h2 : r.2.1 1006 (wq (r.2.1 1006) p x) = lN 2 := by rw [z3, c2]
      obtain ⟨w, y1, y2, y3⟩ := both c r x hx h2 l2_fr.rf l2_fr.rf
      obtain ⟨w', _, u2, u3⟩ := both c s x hx h2 l2_fr.rf fr
      rw [y2] at u2
      injection u2 with u2
      rw [u3, l2_bs, ← u2, ans w x y1 h2 y3]
      rcases bZ_01 (P := sP r n (some (wq (r.2.1 1006) p x))) with e | e <;> rw [e] <;> rfl
    · rw [if_neg (fun z => c2 (ne.mp z)), bZ_f (show ¬ sP r n (some (wq (r.2.1 1006) p x)) from fun ⟨q', y1, y2, _⟩ => by injection y1 with y1; rw [← y1, z3] at y2; exact c2 (lN_inj (by omega) (by decide) y2))]
  · unfold m_X13_omitMatch
    rw [if_pos (l2_ix hn (by decide)), nI_clamp (n := n) (by omega), f55, if_neg (by decide), if_neg (by decide), if_neg (by decide), if_neg (by decide), if_neg (by decide), if_neg (by decide), if_neg (by decide), if_neg (by decide), if_neg (by decide), if_neg (by decide), if_neg (by decide), if_neg (by decide), if_neg (by decide), if_neg (by decide), if_neg (by decide), if_pos (by decide), bZ_f (show ¬ sP r n none from fun ⟨q, y, _⟩ => no_ns y)]
end
