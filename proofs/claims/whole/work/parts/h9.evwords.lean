/-! Level 2: leaves of exps: words, what they see of the run. -/
theorem t_isPcc {p : Nat} (h : t_isP p = true) : p = 343 ∨ p = 866 ∨ p = 876 ∨ p = 886 ∨ p = 896 ∨ p = 906 ∨ p = 916 ∨ p = 926 ∨ p = 936 := by
  simp only [t_isP, Bool.or_eq_true, Bool.and_eq_true, decide_eq_true_eq, beq_iff_eq] at h
  omega
/-- a word in an exp: what it is, on both sides -/
def WV (c0 r0 : t_S) (e n : Nat) : Prop := (∃ X, X < 7934 ∧ px_o c0 e 2 (nI (66 + X)) ∧ ∀ r, l2_fr eZr r0 r → f_X13_pushWord (nI n) r = (f_X13_push 3 (lN X) r).bind (fun y => some y.2)) ∨ (∃ (o : Nat) (x : Int32) (i p nn q : Nat), (o = 3 ∨ o = 4) ∧ px_o c0 e o x ∧ (∀ c, l2_fr (eZc c0) c0 c → f_X0_load (nI o) x c = f_X0_pushFrom 13 (nI i) c) ∧ VW (c0.2.1 13) (r0.2.1 1006) 120 i p nn q ∧ i + nn ≤ 190680 ∧ 218400 ≤ p ∧ p + q ≤ 626600 ∧ ∀ r, l2_fr eZr r0 r → f_X13_pushWord (nI n) r = f_X13_pushCopy (nI p) r)
/-- active: the same truth on both sides -/
def AV (c0 r0 : t_S) (e n : Nat) : Prop := ∃ (x b : Int32), px_o c0 e 8 x ∧ (∀ c, l2_fr (eZc c0) c0 c → f_X0_load 8 x c = (f_X0_pushCell (f_X0_truth b c) c)) ∧ ∀ rc r, l2_fr eZr r0 r → m_X13_workMore rc (nI n) r = f_X13_pushTruth b r
/-- what exps see of a run: the own COMPONENT, TIME, JUDGEMENT, who has ENDED -/
def EN (c0 r0 : t_S) : Prop := ∃ k j : Nat, t_isP (c0.2.2 334 15) = true ∧ k < 8 ∧ j ≤ 4 ∧ c0.1 (c0.2.2 334 15) 0 = nI k ∧ r0.1 950 100 = nI k ∧ c0.2.1 334 17 = r0.2.1 950 148 ∧ (0 ≤ (r0.2.1 950 148).toInt ∧ (r0.2.1 950 148).toInt ≤ 10 ^ 15) ∧ c0.1 (c0.2.2 334 15) 3 = nI j ∧ r0.1 1037 k = nI j ∧ ∀ i, i < 8 → ((c0.1 334 16 >>> (nI i &&& 31)) &&& (1 : Int32)) = (if r0.1 1036 i = 2 then 1 else 0)
section
variable {κ : KPP} {c0 r0 : t_S} {Kc : t_S → t_S → Prop} {Kr : Nat → Nat → t_S → t_S → Prop} {c r c' r' : t_S} {D a H S rr e0 e1 i g n m0 m1 cnt o K : Nat} {x : Int32}
theorem ev_wrd (hK : EK Kc Kr) (hr : rr ≤ 360) (h2 : c0.1 334 2 = nI cnt) (hc : cnt ≤ 16000) (hi : e0 < cnt) (he : e1 = e0 + 1) (hn : n < 13000) (hm0 : m0 = n) (hm1 : m1 = n + 1) (hk : r0.1 955 n = 58) (hw : WV c0 r0 e0 n) : EVp κ c0 r0 Kc Kr (g + 1) rr e0 e1 m0 m1 n := by
  have lf : ∀ {r r' : t_S}, l2_fr eZr r0 r → r.1 950 97 = 0 → f_X13_pushWord (nI n) r = some r' → (R_X13_behindFirst (g + 1)).2.1 (nI n) r = some r' := fun {r r'} f e q => by
    show m_X13_leaf (R_X13_behindFirst g) (nI n) r = some r'
    unfold m_X13_leaf
    have hk' : r.1 955 n = 58 := ((ez_r (b := 955) (j := n) f (by omega)).1).trans hk
    rw [if_pos e, if_pos (l2_ix hn (by decide)), nI_clamp (n := n) (by omega), hk', if_neg (by decide), if_neg (by decide), if_neg (by decide), if_neg (by decide), if_neg (by decide), if_neg (by decide), if_neg (by decide), if_neg (by decide), if_neg (by decide), if_pos (by decide), q, l2_bs]
  rcases hw with ⟨X, hX, ho, hP⟩ | ⟨o, x, i, p, nn, q, o34, ho, hL, V, v1, v2, v3, hP⟩
  · refine ev_leaf h2 hc hi ho (by decide) (by decide) he hn hm0 hm1 (K := 58) hk (by decide) (fun c r D a H S hE => ?_)
    obtain ⟨s1, s2, s3, s4, s5, _⟩ := ei_set (i := e0) hE
    obtain ⟨b1, b2, b3⟩ := hE.bd hr
    generalize t_setI c 334 13 (nI e0) = c1 at *
    obtain ⟨c', q1, q2, q3, q4, q5⟩ := cs_pushCell (w := f_X8_plainCell (3 : Int32) ((nI (66 + X)).toInt64) c1) s1 s2 b2 (by omega)
    obtain ⟨y, p1, _, p2, p3, p4, p6⟩ := rs_push (k := 3) (v := lN X) hE.2.2.1.1 b1 (by decide)
    have e97 : y.2.1 950 97 = 0 := by rw [(p6 950 97 (by omega)).1]; exact hE.2.2.1.2.1
    refine ⟨c', y.2, ?_, lf hE.1.2 hE.2.2.1.2.1 ?_, lf_fin hK hE s4 s3 q5 (fun b j y => by omega) p6 (fun b j y => by omega) (vw_word hX ?_ p3 p4) q2 q3 p2 e97 b1⟩
    · unfold f_X0_load
      rw [if_neg (by decide), if_neg (by decide), if_pos (by decide), q1, l2_bs]
    · rw [hP r hE.1.2, show (3 : Int32) = nI 3 from rfl, p1, l2_bs]
    · rw [q4]
      have := vl_plain (t := ((66 + X : Nat) : Int)) (x := (nI (66 + X)).toInt64) (k := 3) (nI_lT (by omega)) (by omega) (by decide) (s := c1) (y := 3) rfl
      rw [show ((66 + X : Nat) : Int) = (X : Int) + 66 by omega] at this
      exact this
  · refine ev_leaf h2 hc hi ho (by omega) (by omega) he hn hm0 hm1 (K := 58) hk (by decide) (fun c r D a H S hE => ?_)
    obtain ⟨s1, s2, s3, s4, s5, _⟩ := ei_set (i := e0) hE
    obtain ⟨b1, b2, b3⟩ := hE.bd hr
    generalize t_setI c 334 13 (nI e0) = c1 at *
    obtain ⟨t, k, hd, _⟩ := (VW.vr _ _ _ _ _ V).head
    have pos := V.pos
    have m2 := V.m2
    have e13 : ∀ j, c1.2.1 13 j = c0.2.1 13 j := fun j => (ez_c (j := j) s5 (by omega)).2.1
    have e6 : ∀ j, 218400 ≤ j → r.2.1 1006 j = r0.2.1 1006 j := fun j hj => (ez_r (b := 1006) (j := j) hE.1.2 (by omega)).2.1
    have V1 : VW (c1.2.1 13) (r.2.1 1006) 120 i p nn q := VW.copy _ _ _ _ _ _ _ V (fun d _ => e13 _) (fun d _ => e6 _ (by omega))
    obtain ⟨c', q1, q2, q3, q4, q5⟩ := cs_pushFrom (arr := 13) (i := i) (n := nn) s1 s2 b2 (by omega) (by decide +kernel) (by decide +kernel) (by show i + nn ≤ 190680; omega) pos.1 (by rw [e13]; exact hd)
    obtain ⟨r', p1, p2, p3, p6⟩ := rs_copy (e := p) hE.2.2.1.1 b1 V1 (by omega) (Or.inl (by omega)) v3 (by omega)
    have e97 : r'.1 950 97 = 0 := by rw [(p6 950 97 (by omega)).1]; exact hE.2.2.1.2.1
    refine ⟨c', r', ?_, lf hE.1.2 hE.2.2.1.2.1 ?_, lf_fin hK hE s4 s3 q5 (fun b j y => by omega) p6 (fun b j y => by omega) (VW.copy _ _ _ _ _ _ _ V1 (fun d hd => q4 d hd) (fun d hd => p3 d hd)) q2 q3 p2 e97 b1⟩
    · rw [hL c1 s5, q1]
    · rw [hP r hE.1.2, p1]
theorem ev_act (hK : EK Kc Kr) (hr : rr ≤ 360) (h2 : c0.1 334 2 = nI cnt) (hc : cnt ≤ 16000) (hi : e0 < cnt) (he : e1 = e0 + 1) (hn : n < 13000) (hm0 : m0 = n) (hm1 : m1 = n + 1) (hk : r0.1 955 n = 63) (hw : AV c0 r0 e0 n) : EVp κ c0 r0 Kc Kr (g + 2) rr e0 e1 m0 m1 n := by
  obtain ⟨x, b, ho, hL, hP⟩ := hw
  refine ev_leaf h2 hc hi ho (by decide) (by decide) he hn hm0 hm1 (K := 63) hk (by decide) (fun c r D a H S hE => ?_)
  obtain ⟨s1, s2, s3, s4, s5, _⟩ := ei_set (i := e0) hE
  obtain ⟨b1, b2, b3⟩ := hE.bd hr
  generalize t_setI c 334 13 (nI e0) = c1 at *
  obtain ⟨c', q1, q2, q3, q4, q5⟩ := cs_pushCell (w := f_X0_truth b c1) s1 s2 b2 (by omega)
  obtain ⟨r', p1, p2, p3, p4, p6⟩ := rs_truth (b := b) hE.2.2.1.1 b1
  have e97 : r'.1 950 97 = 0 := by rw [(p6 950 97 (by omega)).1]; exact hE.2.2.1.2.1
  refine ⟨c', r', ?_, ?_, lf_fin hK hE s4 s3 q5 (fun b j y => by omega) p6 (fun b j y => by omega) (vw_sc (t := if b = 0 then 0 else 1) (k := 1) ?_ p3 (by rw [p4]; split <;> rfl) (Or.inr (Or.inl ⟨rfl, by split <;> omega⟩))) q2 q3 p2 e97 b1⟩
  · show f_X0_load 8 x c1 = some c'
    rw [hL c1 s5, q1]
  · show m_X13_leaf (R_X13_behindFirst (g + 1)) (nI n) r = some r'
    unfold m_X13_leaf
    have hk' : r.1 955 n = 63 := ((ez_r (b := 955) (j := n) hE.1.2 (by omega)).1).trans hk
    rw [if_pos hE.2.2.1.2.1, if_pos (l2_ix hn (by decide)), nI_clamp (n := n) (by omega), hk', if_pos (by decide)]
    show (m_X13_workMore (R_X13_behindFirst g) (nI n) r).bind _ = _
    rw [hP _ r hE.1.2, p1, l2_bs]
  · rw [q4]
    exact tr_cell
theorem ev_see (hK : EK Kc Kr) (hr : rr ≤ 360) (h2 : c0.1 334 2 = nI cnt) (hc : cnt ≤ 16000) (hi : e0 < cnt) (he : e1 = e0 + 1) (hn : n < 13000) (hm0 : m0 = n) (hm1 : m1 = n + 1) {K : Nat} (K1 : 55 ≤ K) (K2 : K ≤ 57) (hk : r0.1 955 n = nI K) (ho : px_o c0 e0 (K - 50) 0) (hN : EN c0 r0) : EVp κ c0 r0 Kc Kr (g + 1) rr e0 e1 m0 m1 n := by
  obtain ⟨k, j, n1, n2, n3, n4, n5, n6, n7, n8, n9, _⟩ := hN
  have K3 : K = 55 ∨ K = 56 ∨ K = 57 := by omega
  refine ev_leaf h2 hc hi ho (by omega) (by omega) he hn hm0 hm1 hk (by omega) (fun c r D a H S hE => ?_)
  obtain ⟨s1, s2, s3, s4, s5, _⟩ := ei_set (i := e0) hE
  obtain ⟨b1, b2, b3⟩ := hE.bd hr
  generalize t_setI c 334 13 (nI e0) = c1 at *
  have x15 : c1.2.2 334 15 = c0.2.2 334 15 := (ez_c (b := 334) (j := 15) s5 (by omega)).2.2
  have pP := t_isPcc n1
  have xP : ∀ y, c1.1 (c0.2.2 334 15) y = c0.1 (c0.2.2 334 15) y := fun y => by
    rcases pP with e | e | e | e | e | e | e | e | e <;> rw [e]
    · exact (s5 343 y (by unfold eZc eWc; omega)).1
    all_goals exact (ez_c s5 (by omega)).1
  have x17 : c1.2.1 334 17 = c0.2.1 334 17 := (ez_c (b := 334) (j := 17) s5 (by omega)).2.1
  have y100 : r.1 950 100 = nI k := ((ez_r (b := 950) (j := 100) hE.1.2 (by omega)).1).trans n5
  have y148 : r.2.1 950 148 = r0.2.1 950 148 := (ez_r (b := 950) (j := 148) hE.1.2 (by omega)).2.1
  have y37 : r.1 1037 k = nI j := ((ez_r (b := 1037) (j := k) hE.1.2 (by omega)).1).trans n9
  have hk' : r.1 955 n = nI K := ((ez_r (b := 955) (j := n) hE.1.2 (by omega)).1).trans hk
  have fin : ∀ (w : Int64) (kk : Nat) (t : Int) (r' : t_S), vl_c t 1 kk w → f_X0_load (nI (K - 50)) 0 c1 = (f_X0_pushCell w c1).bind (fun r => some r) → (R_X13_behindFirst (g + 1)).2.1 (nI n) r = some r' → r'.1 950 98 = nI (H + 1) → r'.2.1 1006 (260 * (40 + H)) = lN kk → (r'.2.1 1006 (260 * (40 + H) + 1)).toInt = t → r'.1 950 97 = 0 → l2_fr (rsF H) r r' → ((kk = 0 ∧ -(10 ^ 15) ≤ t ∧ t ≤ 10 ^ 15) ∨ (kk = 1 ∧ (t = 0 ∨ t = 1)) ∨ (kk = 5 ∧ 0 ≤ t ∧ t < 8)) → ∃ c' r', f_X0_load (nI (K - 50)) 0 c1 = some c' ∧ (R_X13_behindFirst (g + 1)).2.1 (nI n) r = some r' ∧ Ef c0 Kc (Kr e0 e1) D a H S c r c' r' ∧ Eg D a H S c' r' := fun w kk t r' h1 h2 h3 h4 h5 h6 h7 h8 h9 => by
    obtain ⟨c', q1, q2, q3, q4, q5⟩ := cs_pushCell (w := w) s1 s2 b2 (by omega)
    refine ⟨c', r', by rw [h2, q1, l2_bs], h3, lf_fin hK hE s4 s3 q5 (fun b j y => by omega) h8 (fun b j y => y) (vw_sc (t := t) (k := kk) (by rw [q4]; exact h1) h5 h6 h9) q2 q3 h4 h7 b1⟩
  rcases K3 with rfl | rfl | rfl
  · obtain ⟨y, p1, _, p2, p3, p4, p6⟩ := rs_push (k := 5) (v := (r.1 950 100).toInt64) hE.2.2.1.1 b1 (by decide)
    have e97 : y.2.1 950 97 = 0 := by rw [(p6 950 97 (by omega)).1]; exact hE.2.2.1.2.1
    refine fin _ 5 k y.2 (vl_plain (t := (k : Int)) (x := (nI k).toInt64) (nI_lT (by omega)) (by omega) (by decide) (s := c1) (y := 5) rfl) ?_ ?_ p2 p3 (by rw [p4, y100, nI_lT (by omega)]) e97 (p6.mono (fun b j q => by unfold rsF; omega)) (Or.inr (Or.inr ⟨rfl, by omega, by omega⟩))
    · unfold f_X0_load
      rw [if_neg (by decide), if_neg (by decide), if_neg (by decide), if_neg (by decide), if_neg (by decide), if_pos (by decide), x15, if_pos n1, xP, n4]
    · show m_X13_leaf (R_X13_behindFirst g) (nI n) r = some y.2
      unfold m_X13_leaf k_X13_leaf_127
      rw [if_pos hE.2.2.1.2.1, if_pos (l2_ix hn (by decide)), nI_clamp (n := n) (by omega), hk', if_neg (by decide), if_neg (by decide), if_neg (by decide), if_neg (by decide), if_neg (by decide), if_neg (by decide), if_pos (by decide), if_pos (by decide), show (5 : Int32) = nI 5 from rfl, p1, l2_bs]
  · obtain ⟨r', p1, p2, p3, p4, p5, p6⟩ := rs_number (v := r.2.1 950 148) hE.2.2.1.1 hE.2.2.1.2.1 b1
    rw [y148] at p5
    refine fin _ 0 (r0.2.1 950 148).toInt r' (vl_plain (t := (r0.2.1 950 148).toInt) (x := c1.2.1 334 17) (by rw [x17, n6]) (by omega) (by decide) (s := c1) (y := 0) rfl) ?_ ?_ p2 p3 (by rw [p4, y148]) (by rw [p5, if_pos (by omega)]) p6 (Or.inl ⟨rfl, by omega, by omega⟩)
    · unfold f_X0_load
      rw [if_neg (by decide), if_neg (by decide), if_neg (by decide), if_neg (by decide), if_neg (by decide), if_neg (by decide), if_pos (by decide)]
    · show m_X13_leaf (R_X13_behindFirst g) (nI n) r = some r'
      unfold m_X13_leaf
      rw [if_pos hE.2.2.1.2.1, if_pos (l2_ix hn (by decide)), nI_clamp (n := n) (by omega), hk', if_neg (by decide), if_neg (by decide), if_neg (by decide), if_neg (by decide), if_neg (by decide), if_neg (by decide), if_neg (by decide), if_pos (by decide), p1, l2_bs]
  · obtain ⟨r', p1, p2, p3, p4, p5, p6⟩ := rs_number (v := (nI j).toInt64) hE.2.2.1.1 hE.2.2.1.2.1 b1
    have tj : (nI j).toInt64.toInt = j := nI_lT (by omega)
    rw [tj] at p5
    refine fin _ 0 j r' (vl_plain (t := (j : Int)) (x := (nI j).toInt64) tj (by omega) (by decide) (s := c1) (y := 0) rfl) ?_ ?_ p2 p3 (by rw [p4]; exact tj) (by rw [p5, if_pos (by omega)]) p6 (Or.inl ⟨rfl, by omega, by omega⟩)
    · unfold f_X0_load
      rw [if_neg (by decide), if_neg (by decide), if_neg (by decide), if_neg (by decide), if_neg (by decide), if_neg (by decide), if_neg (by decide), x15, if_pos n1, xP, n8]
    · show m_X13_leaf (R_X13_behindFirst g) (nI n) r = some r'
      unfold m_X13_leaf
      rw [if_pos hE.2.2.1.2.1, if_pos (l2_ix hn (by decide)), nI_clamp (n := n) (by omega), hk', if_neg (by decide), if_neg (by decide), if_neg (by decide), if_neg (by decide), if_neg (by decide), if_neg (by decide), if_neg (by decide), if_neg (by decide), if_pos (by decide), y100, if_pos (l2_ix n2 (by decide)), nI_clamp (n := k) (by omega), y37, p1, l2_bs]
end
