/-! Level 2: = ( ): what has been worked out, held against a part. -/
/-- what = ( ) means: the VALUE lies at pe -/
def sL (r : t_S) (pe mm : Nat) (o : Option Nat) : Prop := match o with
  | none => r.2.1 1027 pe = lN 4
  | some q => ∀ d, d < mm → r.2.1 1027 (pe + d) = r.2.1 1006 (q + d)
section
variable {c r s : t_S} {a i p E τ : Nat} {n t : Nat}
theorem pd_vr {x : Nat} (C : CC c r a i p E τ) (pr : ∀ x, x ≤ E → wq (r.2.1 1006) p x < p + 250) (pd : ∀ x, x < E → PD (c.2.1 a) (r.2.1 1006) i p E x) (hx : x < E) : ∃ f n m, f ≤ 120 ∧ VR kp_wd (c.2.1 a) (r.2.1 1006) f (wv (c.2.1 a) i x) (wq (r.2.1 1006) p x) n m ∧ 0 < n ∧ wv (c.2.1 a) i x + n ≤ t_ln a ∧ wq (r.2.1 1006) p x + m < p + 250 ∧ ∃ t k, vl_c t n k (c.2.1 a (wv (c.2.1 a) i x)) := by
  obtain ⟨f, n0, m0, t, k, ⟨f1, V⟩, hc, ⟨hr, z, z1, z2, z3, zu⟩, _⟩ := pd x hx
  have zl := C.we z z2
  have zr := pr z z2
  exact ⟨f, n0, m0, f1, VW.vr _ _ _ _ _ V, V.pos.1, by omega, by omega, t, k, hc⟩
theorem lfr_slot {cc : Nat → Int64} {f pp pe nn mm : Nat} (C : CC c r a i p E τ) (pb : p + 260 ≤ 626600) (pr : ∀ x, x ≤ E → wq (r.2.1 1006) p x < p + 250) (pd : ∀ x, x < E → PD (c.2.1 a) (r.2.1 1006) i p E x) (hn : n < 13000) (hk : r.1 955 n = nI 38) (h26 : r.1 1026 n = nI pe) (hV : VR kp_wd cc (r.2.1 1027) f pp pe nn mm) (hf : f ≤ 800) (hb : pe + mm ≤ 370000) (hm : 0 < mm) : LfR r p E n (sL r pe mm) := by
  refine lfr_of hn hk (fun rc s fr f55 f6 => ?_)
  have f26 : s.1 1026 n = nI pe := ((rm_fr fr (by omega)).1).trans h26
  have f27 : ∀ j, s.2.1 1027 j = r.2.1 1027 j := fun j => (rm_fr fr (by omega)).2
  have e6 : s.2.1 1006 = r.2.1 1006 := funext f6
  have e27 : s.2.1 1027 = r.2.1 1027 := funext f27
  refine ⟨fun x hx _ => ?_, ?_⟩
  · have b0 := pr x (by omega)
    obtain ⟨f', n1, m1, f1, V1, _, _, bq, _⟩ := pd_vr C pr pd hx
    obtain ⟨q, hq⟩ : ∃ q, q = wq (r.2.1 1006) p x := ⟨_, rfl⟩
    rw [← hq] at b0 V1 bq ⊢
    have E1 : f_X13_endOf 1006 (nI q) s = some (nI (q + m1)) := vr_endOf (c := c.2.1 a) (i := wv (c.2.1 a) i x) (by decide +kernel) (by decide +kernel) (show f' ≤ 800 by omega) (by rw [e6]; exact V1) (by show q + m1 ≤ 626600; omega)
    have E2 : f_X13_endOf 1027 (nI pe) s = some (nI (pe + mm)) := vr_endOf (c := cc) (i := pp) (by decide +kernel) (by decide +kernel) hf (by rw [e27]; exact hV) (by show pe + mm ≤ 370000; omega)
    -- the loop
    have lp : ∀ (d k : Nat) (N : Nat), k + d = m1 → d < N → pe + m1 ≤ 370000 → (∀ j, j < k → r.2.1 1027 (pe + j) = r.2.1 1006 (q + j)) → t_loop (b_X13_isPrepared_44 s) N (nI q, nI pe, nI m1, 1, nI k) = some (bZ (∀ j, j < m1 → r.2.1 1027 (pe + j) = r.2.1 1006 (q + j))) := by
      intro d
      induction d with
      | zero =>
        intro k N hk hN hp ha
        obtain ⟨N, rfl⟩ : ∃ y, N = y + 1 := ⟨N - 1, by omega⟩
        refine l2_lpR ?_
        show k_X13_isPrepared_44 _ _ _ _ _ s = _
        unfold k_X13_isPrepared_44
        rw [if_pos (nI_le (show m1 ≤ k by omega) (by omega)), if_pos (show (1 : Int32) = 0 ∨ (1 : Int32) = 1 by decide), bZ_t (fun j hj => ha j (by omega))]
        rfl
      | succ d ih =>
        intro k N hk hN hp ha
        obtain ⟨N, rfl⟩ : ∃ y, N = y + 1 := ⟨N - 1, by omega⟩
        have st : ∀ fl : Int32, fl = 1 → b_X13_isPrepared_44 s (nI q, nI pe, nI m1, fl, nI k) = (if r.2.1 1027 (pe + k) = r.2.1 1006 (q + k) then some (.inl (nI q, nI pe, nI m1, 1, nI (k + 1))) else some (.inl (nI q, nI pe, nI m1, 0, nI (k + 1)))) := fun fl hfl => by
          show k_X13_isPrepared_44 _ _ _ _ _ s = _
          unfold k_X13_isPrepared_44 k_X13_isPrepared_83
          rw [if_neg (nI_ge (show k < m1 by omega) (by omega)), hfl, if_neg (show ¬ (1 : Int32) = 0 by decide), nI_add, nI_add, if_pos (l2_ix (by omega) (by decide)), if_pos (l2_ix (by omega) (by decide)), nI_clamp (n := pe + k) (by omega), nI_clamp (n := q + k) (by omega), f27, f6, nI_1]
          by_cases e : r.2.1 1027 (pe + k) = r.2.1 1006 (q + k)
          · rw [if_pos (l2_cmp0.mpr e), if_pos e]
          · rw [if_neg (fun z => e (l2_cmp0.mp z)), if_neg e]
        by_cases e : r.2.1 1027 (pe + k) = r.2.1 1006 (q + k)
        · have st1 := st 1 rfl
          rw [if_pos e] at st1
          rw [l2_lpS st1]
          refine ih (k + 1) N (by omega) (by omega) hp (fun j hj => ?_)
          by_cases cj : j = k
          · rw [cj]; exact e
          · exact ha j (by omega)
        · have st1 := st 1 rfl
          rw [if_neg e] at st1
          obtain ⟨N, rfl⟩ : ∃ y, N = y + 1 := ⟨N - 1, by omega⟩
          rw [l2_lpS st1, bZ_f (fun z => e (z k (by omega)))]
          refine l2_lpR ?_
          show k_X13_isPrepared_44 _ _ _ _ _ s = _
          unfold k_X13_isPrepared_44
          by_cases c1 : nI m1 ≤ nI (k + 1)
          · rw [if_pos c1]; rfl
          · rw [if_neg c1, if_pos rfl]; rfl
    have same : (∀ j, j < mm → r.2.1 1027 (pe + j) = r.2.1 1006 (q + j)) → mm = m1 := fun h => by
      have := VR.sameC (c := cc) (r := r.2.1 1027) (c' := c.2.1 a) (r' := r.2.1 1006) (wd := kp_wd) (fun t u x h1 h2 => by unfold kp_wd at h1 h2; omega) f f' pp pe nn mm _ q n1 m1 hV V1 (fun d hd => (h d hd).symm)
      exact this.2.1
    have ip : f_X13_isPrepared (nI n) (nI q) s = some (bZ (sL r pe mm (some q))) := by
      unfold f_X13_isPrepared
      have d1 : nI (pe + mm) - nI pe = nI mm := vr_len
      have d2 : nI (q + m1) - nI q = nI m1 := vr_len
      rw [if_pos (l2_ix hn (by decide)), E1, l2_bs, nI_clamp (n := n) (by omega), f26, E2, l2_bs, d1, d2]
      unfold k_X13_isPrepared_39
      by_cases em : mm = m1
      · rw [if_pos (by rw [em])]
        have := lp m1 0 t_N (by omega) (by have := l2_N; omega) (by omega) (fun j hj => by omega)
        rw [em]
        exact this
      · rw [if_neg (fun z => em ((nI_eq (by omega) (by omega)).mp z)), bZ_f (show ¬ sL r pe mm (some q) from fun z => em (same z))]
        have h : t_loop (b_X13_isPrepared_44 s) (t_N - 1 + 1) (nI q, nI pe, nI m1, 0, 0) = some 0 := by
          refine l2_lpR ?_
          show k_X13_isPrepared_44 _ _ _ _ _ s = _
          unfold k_X13_isPrepared_44
          by_cases c1 : nI m1 ≤ 0
          · rw [if_pos c1]; rfl
          · rw [if_neg c1, if_pos rfl]; rfl
        rw [show t_N - 1 + 1 = t_N by have := l2_N; omega] at h
        exact h
    unfold m_X13_toneMatch
    rw [if_pos (l2_ix (by omega) (by decide)), if_pos (l2_ix hn (by decide)), nI_clamp (n := n) (by omega), f55, if_neg (by decide), if_neg (by decide), if_neg (by decide), if_neg (by decide), if_neg (by decide), if_neg (by decide), if_neg (by decide), if_neg (by decide), if_neg (by decide), if_neg (by decide), if_neg (by decide), if_neg (by decide), if_neg (by decide), if_neg (by decide), if_neg (by decide), if_neg (by decide), if_neg (by decide), if_neg (by decide), if_neg (by decide), ip, l2_bs, if_pos bZ_01]
  · have cm : lg_cmp (r.2.1 1027 pe) (4 : Int64) = 0 ↔ r.2.1 1027 pe = lN 4 := l2_cmp0
    unfold m_X13_omitMatch
    rw [if_pos (l2_ix hn (by decide)), nI_clamp (n := n) (by omega), f55, if_neg (by decide), if_neg (by decide), if_neg (by decide), if_neg (by decide), if_neg (by decide), if_neg (by decide), if_neg (by decide), if_neg (by decide), if_neg (by decide), if_neg (by decide), if_neg (by decide), if_neg (by decide), if_neg (by decide), if_neg (by decide), if_neg (by decide), if_neg (by decide), if_neg (by decide), if_neg (by decide), f26, if_pos (l2_ix (by omega) (by decide)), nI_clamp (n := pe) (by omega), f27]
    by_cases e : r.2.1 1027 pe = lN 4
    · rw [if_pos (cm.mpr e), bZ_t (show sL r pe mm none from e)]
    · rw [if_neg (fun z => e (cm.mp z)), bZ_f (show ¬ sL r pe mm none from e)]
/-- the class's literal, once it has been worked out for good -/
theorem lfc_lit {f pp pe nn mm : Nat} (C : CC c r a i p E τ) (pr : ∀ x, x ≤ E → wq (r.2.1 1006) p x < p + 250) (pd : ∀ x, x < E → PD (c.2.1 a) (r.2.1 1006) i p E x) (ht : t < 6100) (hV : VR kp_wd (c.2.1 337) (r.2.1 1027) f pp pe nn mm) (hn0 : 0 < mm) (hp : pp + nn ≤ 26000) (hp1 : pp < 26000) (hh : ∃ t k, vl_c t nn k (c.2.1 337 pp)) (h57 : c.1 357 t = nI pp) (h54 : (r.2.1 1027 pe = lN 4 ∧ c.1 354 t = nI 5) ∨ (r.2.1 1027 pe ≠ lN 4 ∧ c.1 354 t = nI 4)) : LfC c r a i p E t (sL r pe mm) := by
  rcases h54 with ⟨om, h54⟩ | ⟨om, h54⟩
  · refine lfc_of h54 (fun rc s dp fr f54 => ⟨fun x hx h4 => ?_, ?_⟩)
    · have := C.wb x hx
      unfold k_X10_matches_61
      rw [if_pos (l2_ix ht (by decide)), nI_clamp (n := t) (by omega), f54, if_neg (by decide), if_neg (by decide), if_neg (by decide), if_neg (by decide), if_neg (by decide), if_pos (by decide), if_pos (nI_pos' (by omega)), bZ_f (fun z : sL r pe mm (some (wq (r.2.1 1006) p x)) => by
        have := z 0 hn0
        rw [Nat.add_zero, Nat.add_zero, om] at this
        exact h4 this.symm)]
    · unfold k_X10_matches_61
      rw [if_pos (l2_ix ht (by decide)), nI_clamp (n := t) (by omega), f54, if_neg (by decide), if_neg (by decide), if_neg (by decide), if_neg (by decide), if_neg (by decide), if_pos (by decide), if_neg (by decide), bZ_t (show sL r pe mm none from om)]
  · refine lfc_of h54 (fun rc s dp fr f54 => ⟨fun x hx h4 => ?_, ?_⟩)
    · obtain ⟨w1, w2⟩ := C.wb x hx
      have ln := C.ln
      obtain ⟨fa1, fa2, _, fa4⟩ := C.fa fr
      obtain ⟨f', n1, m1, f1, V1, n0, bn, bq, t1, k1, z1⟩ := pd_vr C pr pd hx
      have ix : nI i + nI (wv (c.2.1 a) i x - i) = nI (wv (c.2.1 a) i x) := by rw [nI_add, show i + (wv (c.2.1 a) i x - i) = wv (c.2.1 a) i x by omega]
      have f57 : s.1 357 t = nI pp := ((cm_fr fr (by omega)).1).trans h57
      have f37 : ∀ j, s.2.1 337 j = c.2.1 337 j := fun j => (cm_fr fr (by omega)).2.1
      obtain ⟨t2, k2, z2⟩ := hh
      have sm := vl_rows2 (s := s) (a := a) (b := 337) (i := wv (c.2.1 a) i x) (j := pp) C.ok (by decide +kernel) C.ln (by decide +kernel) bn (show pp < 26000 from hp1) (fun e => by
        rw [fa4, f37] at e
        have z1' := z1
        rw [e] at z1'
        have := (vl_un z1' z2).2.1
        show pp + n1 ≤ 26000
        omega) n0 (by rw [fa4]; exact z1)
      have eq : (∀ d, d < n1 → s.2.1 a (wv (c.2.1 a) i x + d) = s.2.1 337 (pp + d)) ↔ sL r pe mm (some (wq (r.2.1 1006) p x)) := by
        constructor
        · intro h
          obtain ⟨y1, y2, y3⟩ := VR.sameR kp_wd1 _ _ _ _ _ _ _ _ _ _ V1 hV (fun d hd => by have := h d hd; rw [fa4, f37] at this; exact this.symm)
          intro d hd
          exact y3 d (by omega)
        · intro h
          obtain ⟨y1, y2, y3⟩ := VR.sameC kp_wd2 _ _ _ _ _ _ _ _ _ _ hV V1 (fun d hd => (h d hd).symm)
          intro d hd
          rw [fa4, f37]
          exact y3 d (by omega)
      unfold k_X10_matches_61
      rw [if_pos (l2_ix ht (by decide)), nI_clamp (n := t) (by omega), f54, if_neg (by decide), if_neg (by decide), if_neg (by decide), if_neg (by decide), if_pos (by decide), if_neg (nI_pos (by omega)), fa1, fa2, ix, f57, sm, l2_bs]
      by_cases cc : ∀ d, d < n1 → s.2.1 a (wv (c.2.1 a) i x + d) = s.2.1 337 (pp + d)
      · rw [if_pos cc, if_neg (show ¬ (1 : Int32) = 0 by decide), bZ_t (eq.mp cc)]
      · rw [if_neg cc, if_pos rfl, bZ_f (fun z => cc (eq.mpr z))]
    · unfold k_X10_matches_61
      rw [if_pos (l2_ix ht (by decide)), nI_clamp (n := t) (by omega), f54, if_neg (by decide), if_neg (by decide), if_neg (by decide), if_neg (by decide), if_pos (by decide), if_pos (by decide), bZ_f (show ¬ sL r pe mm none from om)]
/-- bits of two longs -/
def bit2 (lo hi : Int64) (v : Nat) : Prop := if v < 64 then lo.toBitVec.getLsbD v = true else hi.toBitVec.getLsbD (v - 64) = true
theorem btw_1 {w : Int64} {v : Nat} (hv : v < 64) : lg_cmp ((w >>> ((nI v).toInt64 &&& 63)) &&& (1 : Int64)) (0 : Int64) = 0 ↔ ¬ w.toBitVec.getLsbD v = true := by
  have am : ∀ v, v < 64 → (((nI v).toInt64 &&& 63).toBitVec.smod 64#64).toNat = v := by decide +kernel
  have eb : ((w >>> ((nI v).toInt64 &&& 63)) &&& (1 : Int64)).toBitVec = w.toBitVec.sshiftRight v &&& 1#64 := by
    show w.toBitVec.sshiftRight (((nI v).toInt64 &&& 63).toBitVec.smod 64#64).toNat &&& 1#64 = _
    rw [am v hv]
  have z : lg_cmp ((w >>> ((nI v).toInt64 &&& 63)) &&& (1 : Int64)) (0 : Int64) = 0 ↔ (w >>> ((nI v).toInt64 &&& 63)) &&& (1 : Int64) = 0 := l2_cmp0
  rw [z, ← Int64.toBitVec_inj, eb]
  show w.toBitVec.sshiftRight v &&& 1#64 = 0#64 ↔ _
  constructor
  · intro h hb
    have : (w.toBitVec.sshiftRight v &&& 1#64).getLsbD 0 = (0#64).getLsbD 0 := by rw [h]
    rw [BitVec.getLsbD_and, BitVec.getLsbD_sshiftRight] at this
    simp [hv] at this
    rw [BitVec.getLsbD_eq_getElem hv, this] at hb
    exact absurd hb (by decide)
  · intro h
    apply BitVec.eq_of_getLsbD_eq
    intro j hj
    rw [BitVec.getLsbD_and, BitVec.getLsbD_sshiftRight]
    by_cases c : j = 0
    · subst c
      have h' : w.toBitVec.getLsbD v = false := by
        cases q : w.toBitVec.getLsbD v with
        | false => rfl
        | true => exact absurd q h
      rw [BitVec.getLsbD_eq_getElem hv] at h'
      simp [hv, h']
    · have : (1#64).getLsbD j = false := by
        show (1 : Nat).testBit j = false
        obtain ⟨j', rfl⟩ : ∃ y, j = y + 1 := ⟨j - 1, by omega⟩
        rw [Nat.testBit_succ]
        simp
      rw [this, Bool.and_false]
      simp
/-- the class's marks: to which parts of what is held it is alike -/
theorem lfc_same {cc : Nat → Int64} {f pp pe nn mm : Nat} (C : CC c r a i p E τ) (pr : ∀ x, x ≤ E → wq (r.2.1 1006) p x < p + 250) (pd : ∀ x, x < E → PD (c.2.1 a) (r.2.1 1006) i p E x) (ht : t < 6100) (hV : VR kp_wd cc (r.2.1 1027) f pp pe nn mm) (h54 : c.1 354 t = nI 17) (h0 : bit2 (c.2.1 361 t) (c.2.1 362 t) 0 ↔ r.2.1 1027 pe = lN 4) (hb : ∀ x, x < E → (bit2 (c.2.1 361 t) (c.2.1 362 t) (wv (c.2.1 a) i x - i + 1) ↔ ∀ d, d < nn → cc (pp + d) = c.2.1 a (wv (c.2.1 a) i x + d))) : LfC c r a i p E t (sL r pe mm) := by
  refine lfc_of h54 (fun rc s dp fr f54 => ?_)
  have f61 : s.2.1 361 t = c.2.1 361 t := (cm_fr fr (by omega)).2.1
  have f62 : s.2.1 362 t = c.2.1 362 t := (cm_fr fr (by omega)).2.1
  refine ⟨fun x hx h4 => ?_, ?_⟩
  · obtain ⟨w1, w2⟩ := C.wb x hx
    obtain ⟨f', n1, m1, f1, V1, _⟩ := pd_vr C pr pd hx
    obtain ⟨v, hv⟩ : ∃ v, v = wv (c.2.1 a) i x - i := ⟨_, rfl⟩
    have hbx := hb x hx
    rw [← hv] at hbx ⊢
    have eq : (∀ d, d < nn → cc (pp + d) = c.2.1 a (wv (c.2.1 a) i x + d)) ↔ sL r pe mm (some (wq (r.2.1 1006) p x)) := by
      constructor
      · intro h
        obtain ⟨y1, y2, y3⟩ := VR.sameR kp_wd1 _ _ _ _ _ _ _ _ _ _ hV V1 (fun d hd => (h d hd).symm)
        exact fun d hd => (y3 d hd).symm
      · intro h
        obtain ⟨y1, y2, y3⟩ := VR.sameC kp_wd2 _ _ _ _ _ _ _ _ _ _ hV V1 (fun d hd => (h d hd).symm)
        exact fun d hd => (y3 d hd).symm
    have fin : ∀ w : Int64, (lg_cmp (w &&& (1 : Int64)) (0 : Int64) = 0 ↔ ¬ bit2 (c.2.1 361 t) (c.2.1 362 t) (v + 1)) → k_X10_matches_361 rc w s = some (bZ (sL r pe mm (some (wq (r.2.1 1006) p x))), s) := fun w hw => by
      unfold k_X10_matches_361
      by_cases b : bit2 (c.2.1 361 t) (c.2.1 362 t) (v + 1)
      · rw [if_neg (fun z => hw.mp z b), bZ_t (eq.mp (hbx.mp b))]
      · rw [if_pos (hw.mpr b), bZ_f (fun z => b (hbx.mpr (eq.mpr z)))]
    unfold k_X10_matches_61
    rw [if_pos (l2_ix ht (by decide)), nI_clamp (n := t) (by omega), f54, if_neg (by decide), if_neg (by decide), if_neg (by decide), if_neg (by decide), if_neg (by decide), if_neg (by decide), if_neg (by decide), if_neg (by decide), if_neg (by decide), if_neg (by decide), if_neg (by decide), if_neg (by decide), if_neg (by decide), if_neg (by decide), if_neg (by decide), if_neg (by decide), if_neg (by decide), f61, f62]
    by_cases c63 : 63 ≤ v
    · rw [if_pos (show (63 : Int32) ≤ nI v from nI_le (a := 63) c63 (by omega)), show (63 : Int32) = nI 63 from rfl, nI_dif c63]
      refine fin _ ((btw_1 (by omega)).trans (not_congr ?_))
      unfold bit2
      rw [if_neg (by omega), show v + 1 - 64 = v - 63 by omega]
    · rw [if_neg (show ¬ (63 : Int32) ≤ nI v from nI_ge (show v < 63 by omega) (by decide)), nI_1]
      refine fin _ ((btw_1 (by omega)).trans (not_congr ?_))
      unfold bit2
      rw [if_pos (by omega)]
  · have n0 : nI 0 = (-1 : Int32) + 1 := by decide
    unfold k_X10_matches_61 k_X10_matches_361
    rw [if_pos (l2_ix ht (by decide)), nI_clamp (n := t) (by omega), f54, if_neg (by decide), if_neg (by decide), if_neg (by decide), if_neg (by decide), if_neg (by decide), if_neg (by decide), if_neg (by decide), if_neg (by decide), if_neg (by decide), if_neg (by decide), if_neg (by decide), if_neg (by decide), if_neg (by decide), if_neg (by decide), if_neg (by decide), if_neg (by decide), if_neg (by decide), f61, if_neg (show ¬ (63 : Int32) ≤ -1 by decide), ← n0]
    have b := btw_1 (w := c.2.1 361 t) (v := 0) (by decide)
    have h0' : (c.2.1 361 t).toBitVec.getLsbD 0 = true ↔ r.2.1 1027 pe = lN 4 := h0
    by_cases om : r.2.1 1027 pe = lN 4
    · rw [if_neg (fun z => b.mp z (h0'.mpr om)), bZ_t (show sL r pe mm none from om)]
    · rw [if_pos (b.mpr (fun z => om (h0'.mp z))), bZ_f (show ¬ sL r pe mm none from om)]
end
