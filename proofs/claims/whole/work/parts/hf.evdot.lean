/-! Level 2: exps worked out: a field taken. -/
section
variable {κ : KPP} {c0 r0 : t_S} {Kc : t_S → t_S → Prop} {Kr : Nat → Nat → t_S → t_S → Prop} {c r c1 r1 c' r' : t_S} {D a H S rr e0 e1 i g n nn m m0 m1 cnt o K st X : Nat} {x : Int32} {oc or : Option t_S}
/-- the class's search for a field by its name -/
theorem fc_at {arr v x : Nat} {I X : Nat → Nat} (hok : t_oka arr 2 (t_ln arr) = true) (hL : t_ln arr < 1000000000) (hh : vl_c v n 6 (c.2.1 arr a)) (hn : a + n ≤ t_ln arr) (n0 : 0 < n) (I0 : I 0 = 0) (hx : x < 7934) (hI : ∀ j, j < v → I j + 1 < I (j + 1) ∧ I (j + 1) ≤ n - 1 ∧ X j < 7934 ∧ vl_c (X j + 66) 1 9 (c.2.1 arr (a + 1 + I j)) ∧ ∃ t k, vl_c t (I (j + 1) - I j - 1) k (c.2.1 arr (a + 1 + I j + 1))) (hv : v ≤ 120) (hn1 : n ≤ 120) (hv' : I v ≤ n - 1) : f_X8_fieldAt arr (nI a) (nI (66 + x)) c = some (if ff X x v 0 < v then nI (a + 1 + I (ff X x v 0) + 1) else -1) := by
  obtain ⟨q1, q2, q3, q4⟩ := ff_at (X := X) (x := x) v 0
  have wd : ∀ {w : Int64} {t nn k : Nat}, t < 2 ^ 31 → vl_c t nn k w → (w >>> ((12 : Int32).toInt64 &&& 63)).toInt32 = nI t := fun {w t nn k} ht hc => by
    have td : (w >>> ((12 : Int32).toInt64 &&& 63)) = lN t := Int64.toInt_inj.mp (by rw [pk_lT (by omega)]; exact vl_told hc (s := c))
    rw [td, lN_w]
  have up : ∀ j, j ≤ v → I j ≤ n - 1 := fun j hj => by
    by_cases e : j = v
    · rw [e]; exact hv'
    · have := hI j (by omega); omega
  unfold f_X8_fieldAt
  rw [if_pos hok, if_pos (l2_ix (by omega) (by omega)), nI_clamp (n := a) (by omega), wd (by omega) hh, nI_1]
  have ne : ∀ j, j < v → (nI (X j + 66) = nI (66 + x) ↔ X j = x) := fun j hj => by
    have := (hI j hj).2.2.1
    rw [nI_eq (by omega) (by omega)]
    omega
  have sr := l2_srch (b := b_X8_fieldAt_16 c) (Y := fun i => (arr, nI (66 + x), nI v, nI (a + 1 + I i), nI i)) (j := ff X x v 0) (r := if ff X x v 0 < v then nI (a + 1 + I (ff X x v 0) + 1) else -1) (by omega) (fun i hi => ?_) ?_
  · rw [I0, Nat.add_zero] at sr
    exact sr
  · have lt : i < v := by omega
    obtain ⟨i1, i2, i3, i4, t, k, i5⟩ := hI i lt
    show k_X8_fieldAt_16 arr (nI (66 + x)) (nI v) (nI (a + 1 + I i)) (nI i) c = _
    unfold k_X8_fieldAt_16
    rw [if_neg (nI_ge lt (by omega)), if_pos hok, if_pos (l2_ix (by omega) (by omega)), nI_clamp (n := a + 1 + I i) (by omega), wd (t := X i + 66) (by omega) i4, if_neg (fun y => q3 i (Nat.zero_le _) hi ((ne i lt).mp y)), nI_1, if_pos (l2_ix (by omega) (by omega)), nI_clamp (n := a + 1 + I i + 1) (by omega), vl_sz i5, show (1 : Int32) = nI 1 from rfl, nI_add, nI_add, nI_add, show a + 1 + I i + (1 + (I (i + 1) - I i - 1)) = a + 1 + I (i + 1) by omega]
  · show k_X8_fieldAt_16 arr (nI (66 + x)) (nI v) (nI (a + 1 + I (ff X x v 0))) (nI (ff X x v 0)) c = _
    unfold k_X8_fieldAt_16
    by_cases e : ff X x v 0 < v
    · obtain ⟨i1, i2, i3, i4, t, k, i5⟩ := hI _ e
      rw [if_neg (nI_ge e (by omega)), if_pos hok, if_pos (l2_ix (by omega) (by omega)), nI_clamp (n := a + 1 + I (ff X x v 0)) (by omega), wd (t := X (ff X x v 0) + 66) (by omega) i4, if_pos ((ne _ e).mpr (q4 (by omega))), if_pos e, nI_1]
      rfl
    · rw [if_pos (nI_le (by omega) (by omega)), if_neg e]
      rfl
/-- a part of the top VALUE takes its place -/
theorem uo_move {e : Nat} {n1 k1 : Nat} {rs : t_S} (h : T1 D a H nn m c1 r1) (hrs : rs.1 950 98 = nI H) (s97 : rs.1 950 97 = 0) (f : l2_fr (oWr H) r1 rs) (hJ : ∀ j, rs.2.1 1006 j = r1.2.1 1006 j) (V : VW (c1.2.1 338) (r1.2.1 1006) 120 i e n1 k1) (hi : a ≤ i ∧ i + n1 ≤ a + nn) (he : 260 * (40 + H) ≤ e ∧ e + k1 ≤ 260 * (40 + H) + m) : UO D a H c1 r1 (f_X0_topBecomes (nI i) c1) (f_X13_moveTo (nI e) rs) := by
  obtain ⟨V0, ⟨hA, h39, h7, h12⟩, ⟨h98, h97⟩, ⟨b1, b2, b3⟩, _⟩ := h
  have ps := V0.pos
  have mm := V0.m2
  have pp := V.pos
  have m2 := V.m2
  obtain ⟨t, k, hd, _⟩ := V.hd
  have V' : VW (c1.2.1 338) (rs.2.1 1006) 120 i e n1 k1 := VW.copy _ _ _ _ _ _ _ V (fun _ _ => rfl) (fun d _ => hJ _)
  obtain ⟨c2, q1, q2, q3, q4, q5⟩ := cs_become (i := i) (n := n1) h7 hA b2 pp.1 (by omega) (by omega) hd
  obtain ⟨r2, p1, p2, p3, p4⟩ := rs_moveTo (i := i) (n := n1) (m := k1) (e := e) hrs b1 V' (by decide) he.1 (by omega) (by omega)
  refine ⟨c2, r2, q1, p1, q5.mono (fun b j y => by unfold oWc; omega), f.trans (p4.mono (fun b j y => by unfold oWr; omega)), Or.inl ⟨n1, k1, VW.copy _ _ _ _ _ _ _ V' (fun d hd => q4 d hd) (fun d hd => p3 d hd), q3, q2, ?_, p2, ?_⟩⟩
  · rw [(q5 334 12 (by omega)).1]; exact h12
  · rw [(p4 950 97 (by omega)).1]; exact s97
/-- OMIT takes its place -/
theorem uo_omit {rs : t_S} {v : Int64} (h : T1 D a H nn m c1 r1) (hrs : rs.1 950 98 = nI H) (s97 : rs.1 950 97 = 0) (f : l2_fr (oWr H) r1 rs) : UO D a H c1 r1 (f_X0_topBecomes (-1) c1) ((f_X13_push (4 : Int32) v rs).bind (fun y => some y.2)) := by
  obtain ⟨V0, ⟨hA, h39, h7, h12⟩, ⟨h98, h97⟩, ⟨b1, b2, b3⟩, _⟩ := h
  obtain ⟨c2, q1, q2, q3, q4, q5⟩ := cs_omit h7 hA b2 (by omega)
  obtain ⟨y, p1, _, p2, p3, p4, p6⟩ := rs_push (k := 4) (v := v) hrs b1 (by decide)
  refine ⟨c2, y.2, q1, by rw [show (4 : Int32) = nI 4 from rfl, p1, l2_bs], q5.mono (fun b j y => by unfold oWc; omega), f.trans (p6.mono (fun b j y => by unfold oWr; omega)), Or.inl ⟨1, 1, vw_omit (by rw [q4]; exact om_cell) p3, q3, q2, ?_, p2, ?_⟩⟩
  · rw [(q5 334 12 (by omega)).1]; exact h12
  · rw [(p6 950 97 (by omega)).1]; exact s97
theorem UO.bc (h : UO D a H c1 r1 oc or) : UO D a H c1 r1 (oc.bind (fun r => some r)) or := by
  obtain ⟨c2, r2, h1, h2, h3⟩ := h
  exact ⟨c2, r2, by rw [h1, l2_bs], h2, h3⟩
theorem UO.br (h : UO D a H c1 r1 oc or) : UO D a H c1 r1 oc (or.bind (fun r => some r)) := by
  obtain ⟨c2, r2, h1, h2, h3⟩ := h
  exact ⟨c2, r2, h1, by rw [h2, l2_bs], h3⟩
theorem uo_dot (hn : n < 13000) (hX : X < 7934) (e7 : r1.2.1 957 n = lN X) (h : T1 D a H nn m c1 r1) : UO D a H c1 r1 (f_X0_unary (nI 14) (nI (66 + X)) c1) (f_X13_one (nI n) (nI 68) r1) := by
  obtain ⟨rs, hrs, s98, s97, fs, sJ, e1, etop⟩ := t1_off h
  have V := h.1
  obtain ⟨b1, b2, b3⟩ := h.2.2.2.1
  have fs' : l2_fr (oWr H) r1 rs := fs.mono (fun b j y => by unfold oWr; omega)
  have mm := V.m2
  have pp := V.pos
  obtain ⟨T, hT⟩ : ∃ T, T = 260 * (40 + H) := ⟨_, rfl⟩
  have C : f_X0_unary (nI 14) (nI (66 + X)) c1 = (if f_X8_kind (c1.2.1 338 a) c1 = (6 : Int32) then ((f_X8_fieldAt 338 (nI a) (nI (66 + X)) c1).bind (fun r5 => (f_X0_topBecomes r5 c1).bind (fun r6 => some r6))) else if f_X8_kind (c1.2.1 338 a) c1 = (7 : Int32) then (if f_X8_wordOf (c1.2.1 338 a) c1 = nI (66 + X) then k_X0_unary_290 (nI a + 1) c1 else k_X0_unary_290 (-1) c1) else some (t_setI c1 334 12 1)) := by
    have := un_c (o := 14) (x := nI (66 + X)) h.2.1.2.2.1 h.2.1.1 b2 (by omega) (some (t_setI c1 334 12 1)) (fun w => if f_X8_kind w c1 = (6 : Int32) then ((f_X8_fieldAt 338 (c1.1 339 ((c1.1 334 7 - (1 : Int32)).toNatClampNeg)) (nI (66 + X)) c1).bind (fun r5 => (f_X0_topBecomes r5 c1).bind (fun r6 => some r6))) else if f_X8_kind w c1 = (7 : Int32) then (if f_X8_wordOf w c1 = nI (66 + X) then k_X0_unary_290 (c1.1 339 ((c1.1 334 7 - (1 : Int32)).toNatClampNeg) + 1) c1 else k_X0_unary_290 (-1) c1) else some (t_setI c1 334 12 1)) rfl
    rw [h.2.1.2.2.1, sy_m1n (by omega), show D + 1 - 1 = D by omega, nI_clamp (n := D) (by omega), h.2.1.1] at this
    exact this
  have R : f_X13_one (nI n) (nI 68) r1 = ((f_X13_dot (nI n) (nI T) ((r1.2.1 1006 T).toInt32) rs).bind (fun r => some r)) := by
    unfold f_X13_one
    rw [etop, ← hT, if_pos (l2_ix (by omega) (by decide)), e1, ← hrs, nI_clamp (n := T) (by omega), t_let, if_pos (by decide)]
  have e7' : rs.2.1 957 n = lN X := by rw [sJ]; exact e7
  rw [C, R]
  have er : ∀ k : Nat, k ≤ 8 → k ≠ 6 → k ≠ 7 → ∀ t, vl_c t nn k (c1.2.1 338 a) → r1.2.1 1006 T = lN k → UO D a H c1 r1 (if f_X8_kind (c1.2.1 338 a) c1 = (6 : Int32) then ((f_X8_fieldAt 338 (nI a) (nI (66 + X)) c1).bind (fun r5 => (f_X0_topBecomes r5 c1).bind (fun r6 => some r6))) else if f_X8_kind (c1.2.1 338 a) c1 = (7 : Int32) then (if f_X8_wordOf (c1.2.1 338 a) c1 = nI (66 + X) then k_X0_unary_290 (nI a + 1) c1 else k_X0_unary_290 (-1) c1) else some (t_setI c1 334 12 1)) ((f_X13_dot (nI n) (nI T) ((r1.2.1 1006 T).toInt32) rs).bind (fun r => some r)) := fun k h8 h6 h7 t hd p0 => by
    have q : ∀ y : Nat, y < 100 → (nI k = nI y ↔ k = y) := fun y hy => nI_eq (by omega) (by omega)
    have q6 : ¬ nI k = (6 : Int32) := fun y => h6 ((q 6 (by decide)).mp y)
    have q7 : ¬ nI k = (7 : Int32) := fun y => h7 ((q 7 (by decide)).mp y)
    unfold f_X13_dot k_X13_dot_50 k_X13_dot_51
    rw [vl_kind hd, p0, lN_w, if_neg q6, if_neg q7, if_neg q6, if_neg q7, if_neg q6, if_neg q7]
    exact (uo_err (er := 1) (by decide) rfl fs' s97 rfl).br
  rw [← hT] at V
  have V' := V
  obtain ⟨⟨h1, h2, h4⟩, t, k, h3, h5, h6⟩ := V
  rcases h6 with ⟨y, _⟩ | ⟨y, _⟩ | ⟨y, _⟩ | ⟨v, y, _⟩ | ⟨y, d1, d2, X', x1, x2, x3, x4, x5⟩ | ⟨v, I, P, y, _⟩ | ⟨v, I, P, Y, y, y2, d, e, x1, x2, x3, x4, x5⟩
  · exact er k (by omega) (by omega) (by omega) t h3 h5
  · exact er k (by omega) (by omega) (by omega) t h3 h5
  · exact er k (by omega) (by omega) (by omega) t h3 h5
  · exact er k (by omega) (by omega) (by omega) t h3 h5
  · subst y
    have k6 : ¬ nI 7 = (6 : Int32) := by decide
    unfold f_X13_dot
    rw [vl_kind h3, h5, lN_w, if_neg k6, if_pos (show nI 7 = (7 : Int32) from rfl), if_neg k6, if_pos (show nI 7 = (7 : Int32) from rfl), nI_1 T, if_pos (l2_ix (by omega) (by decide)), if_pos (l2_ix hn (by decide)), nI_clamp (n := T + 1) (by omega), nI_clamp (n := n) (by omega), e7', sJ, x3]
    have wo : f_X8_wordOf (c1.2.1 338 a) c1 = nI (66 + X') := by
      have td : f_X8_told (c1.2.1 338 a) c1 = lN (66 + X') := Int64.toInt_inj.mp (by rw [pk_lT (by omega), vl_told h3, x2]; omega)
      unfold f_X8_wordOf
      have td' : (c1.2.1 338 a >>> ((12 : Int32).toInt64 &&& 63)) = lN (66 + X') := td
      rw [td', lN_w]
    rw [wo]
    have w1 : nI (66 + X') = nI (66 + X) ↔ X' = X := by rw [nI_eq (by omega) (by omega)]; omega
    have w2 : lg_cmp (lN X') (lN X) = 0 ↔ X' = X := by
      rw [l2_cmp0]
      exact ⟨fun z => lN_inj (by omega) (by omega) z, fun z => by rw [z]⟩
    have V5 : VW (c1.2.1 338) (r1.2.1 1006) 120 (a + 1) (T + 2) (nn - 1) (m - 2) := VW.dep _ _ _ _ _ x5 120 (by omega)
    by_cases eX : X' = X
    · rw [if_pos (w1.mpr eX), if_pos (w2.mpr eX), nI_1 a]
      unfold k_X0_unary_290 k_X13_dot_51 k_X13_dot_73
      rw [if_neg k6, if_pos (show nI 7 = (7 : Int32) from rfl), show nI T + (2 : Int32) = nI (T + 2) from nI_add T 2, if_pos (nI_pos' (by omega))]
      exact (uo_move h s98 s97 fs' (fun j => sJ _ _) V5 ⟨by omega, by omega⟩ ⟨by omega, by omega⟩).br.br.bc
    · rw [if_neg (fun z => eX (w1.mp z)), if_neg (fun z => eX (w2.mp z))]
      unfold k_X0_unary_290 k_X13_dot_50 k_X13_dot_51 k_X13_dot_73
      rw [if_neg k6, if_pos (show nI 7 = (7 : Int32) from rfl), if_neg (by decide)]
      exact (uo_omit h s98 s97 fs').br.bc
  · exact er k (by omega) (by omega) (by omega) t h3 h5
  · subst y y2
    unfold f_X13_dot
    rw [vl_kind h3, h5, lN_w, if_pos (show nI 6 = (6 : Int32) from rfl), if_pos (show nI 6 = (6 : Int32) from rfl), if_pos (l2_ix hn (by decide)), nI_clamp (n := n) (by omega), e7']
    have hv : v ≤ nn - 1 := by
      have q := vr_mono (I := I) (v := v) 1 (fun j hj => by have := (x5 j hj).1; omega) v (by omega)
      omega
    have F1 := fc_at (c := c1) (arr := 338) (a := a) (n := nn) (v := v) (x := X) (I := I) (X := Y) (by decide +kernel) (by decide +kernel) h3 (by show a + nn ≤ 48000; omega) h1 x1 hX (fun j hj => by
      obtain ⟨y1, y2, y3, y4⟩ := x5 j hj
      obtain ⟨t', k', hd', _⟩ := y4.hd
      exact ⟨y1.1, y1.2.2.1, y2.1, y2.2.2.1, t', k', hd'⟩) (by omega) h2 (by omega)
    have F2 := vw_field (s := rs) (c := c1.2.1 338) (f := 119) (v := v) (p := T) (I := fun j => a + 1 + I j + 1) (P := P) (L := fun j => I (j + 1) - I j - 1) (X := Y) (by rw [sJ]; exact h5) (by rw [sJ]; exact d) (by omega) x2 (fun j hj => by
      obtain ⟨y1, y2, y3, y4⟩ := x5 j hj
      exact ⟨y1.2.1, by omega, VW.copy _ _ _ _ _ _ _ y4 (fun _ _ => rfl) (fun _ _ => sJ _ _)⟩) (by decide) (by omega) (fun j hj => by
      obtain ⟨y1, y2, y3, y4⟩ := x5 j hj
      exact ⟨by rw [sJ]; exact y2.2.2.2, y2.1⟩) (x := X) hX
    rw [F1, F2, l2_bs, l2_bs]
    unfold k_X13_dot_51 k_X13_dot_73
    rw [if_pos (show nI 6 = (6 : Int32) from rfl)]
    by_cases e : ff Y X v 0 < v
    · obtain ⟨y1, y2, y3, y4⟩ := x5 _ e
      rw [if_pos e, if_pos e, if_pos (nI_pos' (by omega))]
      exact (uo_move h s98 s97 fs' (fun j => sJ _ _) (VW.dep _ _ _ _ _ y4 120 (by omega)) ⟨by omega, by omega⟩ ⟨by omega, by omega⟩).br.br.bc
    · rw [if_neg e, if_neg e, if_neg (by decide)]
      exact (uo_omit h s98 s97 fs').br.bc
end
