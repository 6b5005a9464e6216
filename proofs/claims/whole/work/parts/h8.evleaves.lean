/-! Level 2: leaves of exps: literals, words, what they see of the run. -/
section
variable {κ : KPP} {c0 r0 : t_S} {Kc : t_S → t_S → Prop} {Kr : Nat → Nat → t_S → t_S → Prop} {c r c' r' : t_S} {D a H S rr e0 e1 i g n m0 m1 cnt o K : Nat} {x : Int32}
theorem vw_sc {c r : Nat → Int64} {a p k : Nat} {t : Int} (hc : vl_c t 1 k (c a)) (hp : r p = lN k) (hv : (r (p + 1)).toInt = t) (h : (k = 0 ∧ -(10 ^ 15) ≤ t ∧ t ≤ 10 ^ 15) ∨ (k = 1 ∧ (t = 0 ∨ t = 1)) ∨ (k = 5 ∧ 0 ≤ t ∧ t < 8)) : VW c r 120 a p 1 2 := ⟨⟨by omega, by omega, by omega⟩, t, k, hc, hp, Or.inl ⟨h, rfl, rfl, hv⟩⟩
theorem vw_word {c r : Nat → Int64} {a p X : Nat} (hX : X < 7934) (hc : vl_c ((X : Int) + 66) 1 3 (c a)) (hp : r p = lN 3) (hv : r (p + 1) = lN X) : VW c r 120 a p 1 2 := ⟨⟨by omega, by omega, by omega⟩, _, 3, hc, hp, Or.inr (Or.inl ⟨rfl, rfl, rfl, X, hX, rfl, hv⟩)⟩
theorem vw_omit {c r : Nat → Int64} {a p : Nat} (hc : vl_c 0 1 4 (c a)) (hp : r p = lN 4) : VW c r 120 a p 1 1 := ⟨⟨by omega, by omega, by omega⟩, 0, 4, hc, hp, Or.inr (Or.inr (Or.inl ⟨rfl, rfl, rfl, rfl⟩))⟩
/-- the state in which an operation is done -/
theorem ei_set (h : Ein κ c0 r0 rr D a H S c r) : (t_setI c 334 13 (nI i)).1 334 7 = nI D ∧ (t_setI c 334 13 (nI i)).1 339 D = nI a ∧ (t_setI c 334 13 (nI i)).1 334 12 = 0 ∧ l2_fr (fun b j => b = 334 ∧ j = 13) c (t_setI c 334 13 (nI i)) ∧ l2_fr (eZc c0) c0 (t_setI c 334 13 (nI i)) ∧ (t_setI c 334 13 (nI i)).1 334 13 = nI i := by
  obtain ⟨⟨h1, h2⟩, ⟨h3, h4, h5⟩, _⟩ := h
  refine ⟨by rw [l2_g, if_neg (by decide)]; exact h3, by rw [l2_sO (by decide)]; exact h4, by rw [l2_g, if_neg (by decide)]; exact h5, l2_fr.set ⟨rfl, rfl⟩, h1.trans (l2_fr.set (Or.inl (Or.inl ⟨rfl, by omega⟩))), by rw [l2_g, if_pos rfl]⟩
theorem ev_leaf (h2 : c0.1 334 2 = nI cnt) (hc : cnt ≤ 16000) (hi : e0 < cnt) (ho : px_o c0 e0 o x) (o1 : 0 < o) (o2 : o ≤ 8) (he : e1 = e0 + 1) (hn : n < 13000) (hm0 : m0 = n) (hm1 : m1 = n + 1) (hk : r0.1 955 n = nI K) (hK : K < 64) (H : ∀ c r D a H S, Ein κ c0 r0 rr D a H S c r → ∃ c' r', f_X0_load (nI o) x (t_setI c 334 13 (nI e0)) = some c' ∧ (R_X13_behindFirst g).2.1 (nI n) r = some r' ∧ Ef c0 Kc (Kr e0 e1) D a H S c r c' r' ∧ Eg D a H S c' r') : EVp κ c0 r0 Kc Kr g rr e0 e1 m0 m1 n := by
  intro c r D a h S hE _ hS
  obtain ⟨c', r', l1, l2, l3, l4⟩ := H c r D a h S hE
  refine ⟨c', r', e1, 1, ⟨by omega, by omega, Nat.le_refl _, ?_⟩, l3, Or.inl ⟨rfl, l4⟩, ?_⟩
  · refine l2_tn.one ?_
    rw [cw_turn hE.1.1 h2 hc hi ho o1 (by omega) hE.2.1.2.2, if_neg (by omega), l1, l2_bs, he]
  · exact Rw.leaf hn (((ez_r (b := 955) (j := n) hE.1.2 (by omega)).1).trans hk) (Or.inl hK) (by omega) l2
/-- both pushes, put together -/
theorem lf_fin (hK : EK Kc Kr) {c1 : t_S} {n1 k1 : Nat} {Wc Wr : Nat → Nat → Prop} (hE : Ein κ c0 r0 rr D a H S c r) (f1 : l2_fr (fun b j => b = 334 ∧ j = 13) c c1) (h12 : c1.1 334 12 = 0) (f2 : l2_fr Wc c1 c') (w2 : ∀ b j, Wc b j → (b = 334 ∧ j = 7) ∨ (b = 338 ∧ a ≤ j) ∨ (b = 339 ∧ D < j)) (f3 : l2_fr Wr r r') (w3 : ∀ b j, Wr b j → (b = 950 ∧ (j = 97 ∨ j = 98)) ∨ (b = 1006 ∧ 260 * (40 + H) ≤ j ∧ j < 260 * (41 + H))) (V : VW (c'.2.1 338) (r'.2.1 1006) 120 a (260 * (40 + H)) n1 k1) (e7 : c'.1 334 7 = nI (D + 1)) (e39 : c'.1 339 (D + 1) = nI (a + n1)) (e98 : r'.1 950 98 = nI (H + 1)) (e97 : r'.1 950 97 = 0) (hH : H < 790) (hxy : e0 ≤ e1 := by omega) : Ef c0 Kc (Kr e0 e1) D a H S c r c' r' ∧ Eg D a H S c' r' := by
  have F : l2_fr (fun b j => (b = 334 ∧ (j = 7 ∨ j = 13)) ∨ (b = 338 ∧ a ≤ j) ∨ (b = 339 ∧ D < j)) c c' := (f1.mono (fun b j y => by omega)).trans (f2.mono (fun b j y => by have := w2 b j y; omega))
  refine ⟨Ef.of (h97 := fun _ => hE.2.2.1.2.1) hK F (f3.mono w3) (fun b j y => ⟨?_, ?_⟩) (fun b j y => ⟨?_, ?_⟩), ⟨n1, k1, V, e39⟩, ⟨e7, ?_⟩, e98, e97, ?_⟩
  · unfold eWc
    rcases y with y | y | y
    · exact Or.inl (by omega)
    · exact Or.inr (Or.inl y)
    · exact Or.inr (Or.inr (Or.inl y))
  · unfold eBc; omega
  · unfold eWr; omega
  · unfold eBr; omega
  · rw [(f2 334 12 (fun y => by have := w2 _ _ y; omega)).1]; exact h12
  · rw [(f3 950 103 (fun y => by have := w3 _ _ y; omega)).1]; exact hE.2.2.1.2.2
theorem Ein.bd (hE : Ein κ c0 r0 rr D a H S c r) (hr : rr ≤ 360) : H < 790 ∧ D < 3200 ∧ a + 240 ≤ 48000 := by
  obtain ⟨_, _, _, h1, h2, h3⟩ := hE
  omega
/-- a literal of the pool, of one cell -/
theorem ev_num (hK : EK Kc Kr) (hr : rr ≤ 360) (h2 : c0.1 334 2 = nI cnt) (hc : cnt ≤ 16000) (hi : e0 < cnt) {p v : Nat} (hp : p < 26000) (hv : v < 10 ^ 15) (ho : px_o c0 e0 1 (nI p)) (he : e1 = e0 + 1) (hn : n < 13000) (hm0 : m0 = n) (hm1 : m1 = n + 1) (hk : r0.1 955 n = 50) (hx : r0.2.1 957 n = lN v) (hw : vl_c v 1 0 (c0.2.1 337 p)) : EVp κ c0 r0 Kc Kr (g + 1) rr e0 e1 m0 m1 n := by
  refine ev_leaf h2 hc hi ho (by decide) (by decide) he hn hm0 hm1 (K := 50) hk (by decide) (fun c r D a H S hE => ?_)
  obtain ⟨s1, s2, s3, s4, s5, _⟩ := ei_set (i := e0) hE
  obtain ⟨b1, b2, b3⟩ := hE.bd hr
  generalize t_setI c 334 13 (nI e0) = c1 at *
  have hw1 : vl_c v 1 0 (c1.2.1 337 p) := by rw [(ez_c (j := p) s5 (by omega)).2.1]; exact hw
  obtain ⟨c', q1, q2, q3, q4, q5⟩ := cs_pushFrom (arr := 337) (i := p) s1 s2 b2 (by omega) (by decide +kernel) (by decide +kernel) (by show p + 1 ≤ 26000; omega) (by decide) hw1
  obtain ⟨r', p1, p2, p3, p4, p5, p6⟩ := rs_number (v := lN v) hE.2.2.1.1 hE.2.2.1.2.1 b1
  have tv : (lN v).toInt = v := pk_lT (by omega)
  have e97 : r'.1 950 97 = 0 := by rw [p5, tv, if_pos (by omega)]
  refine ⟨c', r', ?_, ?_, lf_fin hK hE s4 s3 q5 (fun b j y => by omega) p6 (fun b j y => y) (vw_sc (t := v) (k := 0) ?_ p3 (by rw [p4]; exact tv) (Or.inl ⟨rfl, by omega, by omega⟩)) q2 q3 p2 e97 b1⟩
  · unfold f_X0_load
    rw [if_neg (by decide), if_pos (by decide), q1, l2_bs]
  · show m_X13_leaf (R_X13_behindFirst g) (nI n) r = some r'
    unfold m_X13_leaf
    have hx' : r.2.1 957 n = lN v := ((ez_r (b := 957) (j := n) hE.1.2 (by omega)).2.1).trans hx
    have hk' : r.1 955 n = 50 := ((ez_r (b := 955) (j := n) hE.1.2 (by omega)).1).trans hk
    rw [if_pos hE.2.2.1.2.1, if_pos (l2_ix hn (by decide)), nI_clamp (n := n) (by omega), hk', hx', if_neg (by decide), if_pos (by decide), p1, l2_bs]
  · rw [show a = a + 0 from rfl, q4 0 (by decide)]
    exact hw1
/-- a truth -/
theorem ev_tru (hK : EK Kc Kr) (hr : rr ≤ 360) (h2 : c0.1 334 2 = nI cnt) (hc : cnt ≤ 16000) (hi : e0 < cnt) {p : Nat} (hp : p < 26000) (ho : px_o c0 e0 1 (nI p)) (he : e1 = e0 + 1) (hn : n < 13000) (hm0 : m0 = n) (hm1 : m1 = n + 1) (hk : r0.1 955 n = 51 ∨ r0.1 955 n = 52) (hw : vl_c (if r0.1 955 n = 51 then 1 else 0) 1 1 (c0.2.1 337 p)) : EVp κ c0 r0 Kc Kr (g + 1) rr e0 e1 m0 m1 n := by
  obtain ⟨K, k1, k2, k3⟩ : ∃ K : Nat, r0.1 955 n = nI K ∧ K < 64 ∧ (K = 51 ∨ K = 52) := by
    rcases hk with e | e
    · exact ⟨51, e, by decide, Or.inl rfl⟩
    · exact ⟨52, e, by decide, Or.inr rfl⟩
  refine ev_leaf h2 hc hi ho (by decide) (by decide) he hn hm0 hm1 k1 k2 (fun c r D a H S hE => ?_)
  obtain ⟨s1, s2, s3, s4, s5, _⟩ := ei_set (i := e0) hE
  obtain ⟨b1, b2, b3⟩ := hE.bd hr
  generalize t_setI c 334 13 (nI e0) = c1 at *
  have hw1 : vl_c (if r0.1 955 n = 51 then 1 else 0) 1 1 (c1.2.1 337 p) := by rw [(ez_c (j := p) s5 (by omega)).2.1]; exact hw
  obtain ⟨c', q1, q2, q3, q4, q5⟩ := cs_pushFrom (arr := 337) (i := p) s1 s2 b2 (by omega) (by decide +kernel) (by decide +kernel) (by show p + 1 ≤ 26000; omega) (by decide) hw1
  obtain ⟨r', p1, p2, p3, p4, p6⟩ := rs_truth (b := if r0.1 955 n = 51 then 1 else 0) hE.2.2.1.1 b1
  have e97 : r'.1 950 97 = 0 := by rw [(p6 950 97 (by omega)).1]; exact hE.2.2.1.2.1
  refine ⟨c', r', ?_, ?_, lf_fin hK hE s4 s3 q5 (fun b j y => by omega) p6 (fun b j y => by omega) (vw_sc (t := if r0.1 955 n = 51 then 1 else 0) (k := 1) ?_ p3 (by rw [p4]; split <;> (split <;> first | rfl | contradiction)) (Or.inr (Or.inl ⟨rfl, by split <;> omega⟩))) q2 q3 p2 e97 b1⟩
  · unfold f_X0_load
    rw [if_neg (by decide), if_pos (by decide), q1, l2_bs]
  · show m_X13_leaf (R_X13_behindFirst g) (nI n) r = some r'
    unfold m_X13_leaf k_X13_leaf_100
    have hk' : r.1 955 n = r0.1 955 n := (ez_r (b := 955) (j := n) hE.1.2 (by omega)).1
    rw [if_pos hE.2.2.1.2.1, if_pos (l2_ix hn (by decide)), nI_clamp (n := n) (by omega), hk']
    rcases hk with e | e
    · rw [e] at p1 ⊢
      rw [if_pos rfl] at p1
      rw [if_neg (by decide), if_neg (by decide), if_pos (by decide), if_pos rfl, p1, l2_bs]
    · rw [e] at p1 ⊢
      rw [if_neg (by decide)] at p1
      rw [if_neg (by decide), if_neg (by decide), if_neg (by decide), if_pos (by decide), if_neg (by decide), p1, l2_bs]
  · rw [show a = a + 0 from rfl, q4 0 (by decide)]
    exact hw1
/-- OMIT -/
theorem ev_omt (hK : EK Kc Kr) (hr : rr ≤ 360) (h2 : c0.1 334 2 = nI cnt) (hc : cnt ≤ 16000) (hi : e0 < cnt) {p : Nat} (hp : p < 26000) (ho : px_o c0 e0 1 (nI p)) (he : e1 = e0 + 1) (hn : n < 13000) (hm0 : m0 = n) (hm1 : m1 = n + 1) (hk : r0.1 955 n = 54) (hw : vl_c 0 1 4 (c0.2.1 337 p)) : EVp κ c0 r0 Kc Kr (g + 1) rr e0 e1 m0 m1 n := by
  refine ev_leaf h2 hc hi ho (by decide) (by decide) he hn hm0 hm1 (K := 54) hk (by decide) (fun c r D a H S hE => ?_)
  obtain ⟨s1, s2, s3, s4, s5, _⟩ := ei_set (i := e0) hE
  obtain ⟨b1, b2, b3⟩ := hE.bd hr
  generalize t_setI c 334 13 (nI e0) = c1 at *
  have hw1 : vl_c 0 1 4 (c1.2.1 337 p) := by rw [(ez_c (j := p) s5 (by omega)).2.1]; exact hw
  obtain ⟨c', q1, q2, q3, q4, q5⟩ := cs_pushFrom (arr := 337) (i := p) s1 s2 b2 (by omega) (by decide +kernel) (by decide +kernel) (by show p + 1 ≤ 26000; omega) (by decide) hw1
  obtain ⟨y, p1, _, p2, p3, p4, p6⟩ := rs_push (k := 4) (v := (r.1 950 100).toInt64) hE.2.2.1.1 b1 (by decide)
  have e97 : y.2.1 950 97 = 0 := by rw [(p6 950 97 (by omega)).1]; exact hE.2.2.1.2.1
  refine ⟨c', y.2, ?_, ?_, lf_fin hK hE s4 s3 q5 (fun b j y => by omega) p6 (fun b j y => by omega) (vw_omit ?_ p3) q2 q3 p2 e97 b1⟩
  · unfold f_X0_load
    rw [if_neg (by decide), if_pos (by decide), q1, l2_bs]
  · show m_X13_leaf (R_X13_behindFirst g) (nI n) r = some y.2
    unfold m_X13_leaf k_X13_leaf_127
    have hk' : r.1 955 n = 54 := ((ez_r (b := 955) (j := n) hE.1.2 (by omega)).1).trans hk
    rw [if_pos hE.2.2.1.2.1, if_pos (l2_ix hn (by decide)), nI_clamp (n := n) (by omega), hk', if_neg (by decide), if_neg (by decide), if_neg (by decide), if_neg (by decide), if_neg (by decide), if_pos (by decide), if_neg (by decide), show (4 : Int32) = nI 4 from rfl, p1, l2_bs]
  · rw [show a = a + 0 from rfl, q4 0 (by decide)]
    exact hw1
/-- a TEXT -/
theorem ev_txt (hK : EK Kc Kr) (hr : rr ≤ 360) (h2 : c0.1 334 2 = nI cnt) (hc : cnt ≤ 16000) (hi : e0 < cnt) {p p1 s1 : Nat} (hp : p1 ≤ 26000) (hs1 : s1 ≤ 24300) (ho : px_o c0 e0 1 (nI p)) (he : e1 = e0 + 1) (hn : n < 13000) (hm0 : m0 = n) (hm1 : m1 = n + 1) (hk : r0.1 955 n = 53) (hT : px_T c0 r0 p1 s1 p n) : EVp κ c0 r0 Kc Kr (g + 1) rr e0 e1 m0 m1 n := by
  obtain ⟨v, s0, B, v40, x7, x8, xs, xp, xB, xw, xS⟩ := hT
  refine ev_leaf h2 hc hi ho (by decide) (by decide) he hn hm0 hm1 (K := 53) hk (by decide) (fun c r D a H S hE => ?_)
  obtain ⟨t1, t2, t3, t4, t5, _⟩ := ei_set (i := e0) hE
  obtain ⟨b1, b2, b3⟩ := hE.bd hr
  generalize t_setI c 334 13 (nI e0) = c1 at *
  have e337 : ∀ j, c1.2.1 337 j = c0.2.1 337 j := fun j => (ez_c (j := j) t5 (by omega)).2.1
  have hw1 : vl_c v (1 + (v + 7) / 8) 2 (c1.2.1 337 p) := by rw [e337]; exact xw
  obtain ⟨c', q1, q2, q3, q4, q5⟩ := cs_pushFrom (arr := 337) (i := p) t1 t2 b2 (by omega) (by decide +kernel) (by decide +kernel) (by show p + (1 + (v + 7) / 8) ≤ 26000; omega) (by omega) hw1
  have e57 : ∀ b j, 955 ≤ b → b ≤ 1005 → r.1 b j = r0.1 b j ∧ r.2.1 b j = r0.2.1 b j := fun b j y1 y2 => ⟨(ez_r (b := b) (j := j) hE.1.2 (by omega)).1, (ez_r (b := b) (j := j) hE.1.2 (by omega)).2.1⟩
  obtain ⟨r', p1', p2, p3, p4, p5, p6⟩ := rs_text (r := r) (n := n) (v := v) (s0 := s0) (B := B) hE.2.2.1.1 b1 hn (((e57 957 n (by decide) (by decide)).2).trans x7) (((e57 958 n (by decide) (by decide)).2).trans x8) v40 (by omega) (fun j hj => ⟨(xB j hj).2.1, ((e57 963 _ (by decide) (by decide)).1).trans (xB j hj).2.2⟩)
  have e97 : r'.1 950 97 = 0 := by rw [(p6 950 97 (by omega)).1]; exact hE.2.2.1.2.1
  refine ⟨c', r', ?_, ?_, lf_fin (n1 := 1 + (v + 7) / 8) (k1 := 2 + (v + 7) / 8) hK hE t4 t3 q5 (fun b j y => by omega) p6 (fun b j y => by omega) ⟨⟨by omega, by omega, by omega⟩, v, 2, ?_, p3, Or.inr (Or.inr (Or.inr (Or.inl ⟨v, rfl, rfl, v40, rfl, rfl, p4, B, fun j hj => ⟨(xB j hj).1, (xB j hj).2.1⟩, fun q hq => ?_⟩)))⟩ q2 q3 p2 e97 b1⟩
  · unfold f_X0_load
    rw [if_neg (by decide), if_pos (by decide), q1, l2_bs]
  · show m_X13_leaf (R_X13_behindFirst g) (nI n) r = some r'
    unfold m_X13_leaf
    have hk' : r.1 955 n = 53 := ((e57 955 n (by decide) (by decide)).1).trans hk
    rw [if_pos hE.2.2.1.2.1, if_pos (l2_ix hn (by decide)), nI_clamp (n := n) (by omega), hk', if_neg (by decide), if_neg (by decide), if_neg (by decide), if_neg (by decide), if_pos (by decide), p1', l2_bs]
  · have := q4 0 (by omega)
    rw [Nat.add_zero, Nat.add_zero] at this
    rw [this]
    exact hw1
  · obtain ⟨S', y1, y2, y3⟩ := xS q hq
    have z : ∀ e, e < 8 → S' e = x8_S B v q e := fun e he => by unfold x8_S; exact y1 e he
    have i1 := q4 (1 + q) (by omega)
    rw [show a + 1 + q = a + (1 + q) by omega, i1, e337, show p + (1 + q) = p + 1 + q by omega]
    refine ⟨S', y1, y2, y3, ?_⟩
    have lt := y8_lt (S := x8_S B v q) 8 (Nat.le_refl _) (fun k hk => by
      unfold x8_S
      split
      · have := (xB _ (by assumption)).2.1; omega
      · omega) (fun k h1 h2 => by omega)
    rw [p5 q hq, pk_lT (by have : (256 : Nat) ^ 8 = 2 ^ 64 := rfl; omega)]
    unfold y8
    rw [z 0 (by decide), z 1 (by decide), z 2 (by decide), z 3 (by decide), z 4 (by decide), z 5 (by decide), z 6 (by decide), z 7 (by decide)]
    omega
end
