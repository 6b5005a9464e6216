/-! Level 2: names settled: types, templs, components, ports at large, vars. -/
/-- no such name outside -/
def un_R (nt : Nat → Nat) (r : t_S) (i X : Nat) : Prop := ∀ j, j < nt i → r.1 (nt_B i) j ≠ nI X
section
variable {W X e n f i so : Nat} {nt : Nat → Nat} {q v w kc hm : Int32} {S : Nat → Int32 → Prop} {c s r : t_S}
theorem to_R.un (h : to_R nt r i X v) (hn : nt i ≤ 60) : v < 0 ↔ un_R nt r i X := by
  rcases h.2 with ⟨y, z⟩ | ⟨j, j1, y, j2⟩
  · exact ⟨fun _ => z, fun _ => by rw [y]; decide⟩
  · exact ⟨fun z => absurd z (by rw [y]; exact nI_pos (by omega)), fun z => absurd j2 (z j j1)⟩
theorem lo_0 (h : sC W nt s r) (L : ls_R (s.1 846 7) (s.1 846 8) S) (hX : X < 7934) (hW : 66 + X < W) (he : e < 6002) (h9 : s.1 849 e = nI 0) (h0 : s.1 850 e = nI (66 + X)) (h2 : s.1 852 e = nI n) (hn : n < 3001) : ∃ v, to_R nt r 0 X v ∧ f_X3_settleName (nI e) s = some (ok_b v, t_setI s 321 n v) ∧ sL_O (fun b j => b = 321 ∧ j = n) (un_R nt r 0 X) False q S s (ok_b v, t_setI s 321 n v) := by
  obtain ⟨v, e1, e2⟩ := sn_0 h.1 hX hW he h9 h0 h2 hn
  have o := sL_O.one (q := q) (v := v) (a := 321) (j := n) L (by omega)
  exact ⟨v, e2, e1, o.1, o.2.1.trans (e2.un (h.1.le (by decide))), o.2.2⟩
theorem lo_1 (h : sC W nt s r) (L : ls_R (s.1 846 7) (s.1 846 8) S) (hX : X < 7934) (hW : 66 + X < W) (he : e < 6002) (h9 : s.1 849 e = nI 1) (h0 : s.1 850 e = nI (66 + X)) (h2 : s.1 852 e = nI n) (hn : n < 320) : ∃ v, to_R nt r 0 X v ∧ f_X3_settleName (nI e) s = some (ok_b v, t_setI s 443 n v) ∧ sL_O (fun b j => b = 443 ∧ j = n) (un_R nt r 0 X) False q S s (ok_b v, t_setI s 443 n v) := by
  obtain ⟨v, e1, e2⟩ := sn_1 h.1 hX hW he h9 h0 h2 hn
  have o := sL_O.one (q := q) (v := v) (a := 443) (j := n) L (by omega)
  exact ⟨v, e2, e1, o.1, o.2.1.trans (e2.un (h.1.le (by decide))), o.2.2⟩
theorem lo_2 (h : sC W nt s r) (L : ls_R (s.1 846 7) (s.1 846 8) S) (hX : X < 7934) (hW : 66 + X < W) (he : e < 6002) (h9 : s.1 849 e = nI 2) (h0 : s.1 850 e = nI (66 + X)) (h2 : s.1 852 e = nI n) (hn : n < 64) : ∃ v, to_R nt r 0 X v ∧ f_X3_settleName (nI e) s = some (ok_b v, t_setI s 435 n v) ∧ sL_O (fun b j => b = 435 ∧ j = n) (un_R nt r 0 X) False q S s (ok_b v, t_setI s 435 n v) := by
  obtain ⟨v, e1, e2⟩ := sn_2 h.1 hX hW he h9 h0 h2 hn
  have o := sL_O.one (q := q) (v := v) (a := 435) (j := n) L (by omega)
  exact ⟨v, e2, e1, o.1, o.2.1.trans (e2.un (h.1.le (by decide))), o.2.2⟩
theorem lo_4 (h : sC W nt s r) (L : ls_R (s.1 846 7) (s.1 846 8) S) (hX : X < 7934) (hW : 66 + X < W) (he : e < 6002) (h9 : s.1 849 e = nI 4) (h0 : s.1 850 e = nI (66 + X)) (h2 : s.1 852 e = nI n) (hn : n < 400) : ∃ v, to_R nt r 2 X v ∧ f_X3_settleName (nI e) s = some (ok_b v, t_setI s (445 + n) 6 v) ∧ sL_O (fun b j => b = (445 + n) ∧ j = 6) (un_R nt r 2 X) False q S s (ok_b v, t_setI s (445 + n) 6 v) := by
  obtain ⟨v, e1, e2⟩ := sn_4 h.1 hX hW he h9 h0 h2 hn
  have o := sL_O.one (q := q) (v := v) (a := (445 + n)) (j := 6) L (by omega)
  exact ⟨v, e2, e1, o.1, o.2.1.trans (e2.un (h.1.le (by decide))), o.2.2⟩
/-- a function's component -/
theorem lo_3 (L : ls_R (s.1 846 7) (s.1 846 8) S) (he : e < 6002) (h9 : s.1 849 e = nI 3) (h2 : s.1 852 e = nI f) (hf : f < 40) : f_X3_settleName (nI e) s = some (ok_b (s.1 438 f), s) ∧ sL_O (fun _ _ => False) (s.1 438 f < 0) False q S s (ok_b (s.1 438 f), s) :=
  ⟨sn_3 he h9 h2 hf, ok_b.is _, ok_b.iff, l2_fr.rf, L.iff (fun a b => ⟨Or.inl, fun w => w.elim id (fun w => w.2.2.elim)⟩)⟩
/-- a port at large -/
theorem lo_8 (h : sC W nt s r) (e0 : s.1 428 0 = nI (nt 2)) (L : ls_R (s.1 846 7) (s.1 846 8) S) (hX : X < 7934) (he : e < 6002) (h9 : s.1 849 e = nI 8) (h0 : s.1 850 e = nI (66 + X)) : ∃ x, f_X3_settleName (nI e) s = some x ∧ x.2 = s ∧ sL_O (fun _ _ => False) (¬ pt_R (nt 2) r X) False q S s x := by
  obtain ⟨w, e1, e2, e3⟩ := pt_has h.n8 e0 h.2.2.2 hX
  have o := sL_O.nil (q := q) (v := w) L e2
  refine ⟨(w, s), sn_8 he h9 (by rw [h0]; exact e1) e2, rfl, o.1, o.2.1.trans ⟨fun y z => ?_, fun y => ?_⟩, o.2.2⟩
  · rw [e3.mpr z] at y
    exact absurd y (by decide)
  · exact e2.resolve_right (fun z => y (e3.mp z))
/-- a templ's name -/
theorem lo_13 (h : sC W nt s r) (L : ls_R (s.1 846 7) (s.1 846 8) S) (hX : X < 7934) (hW : 66 + X < W) (he : e < 6002) (h9 : s.1 849 e = nI 13) (h0 : s.1 850 e = nI (66 + X)) (h2 : s.1 852 e = nI n) (hn : n < 6100) : ∃ x, f_X3_settleName (nI e) s = some x ∧ sL_O (fun b j => (b = 354 ∧ j = n) ∨ (b = 357 ∧ j = n)) (un_R nt r 1 X ∧ s.1 7 (66 + X) = 0) False q S s x ∧ ((un_R nt r 1 X ∧ x.2 = s) ∨ ∃ v, to_R nt r 1 X v ∧ ¬ un_R nt r 1 X ∧ x = (1, t_setI (t_setI s 354 n 7) 357 n v)) := by
  have hb := h.2.2.1 (66 + X)
  obtain ⟨v, tR, ⟨z, e1⟩ | ⟨z, e1⟩⟩ := sn_13 h.1 hb hX hW he h9 h0 h2 hn
  · have u := (tR.un (h.1.le (by decide))).mp z
    have o := sL_O.nil (q := q) L hb
    exact ⟨_, e1, ⟨o.1, o.2.1.trans ⟨fun y => ⟨u, y⟩, fun y => y.2⟩, o.2.2.1.mono (fun b j y => y.elim), o.2.2.2⟩, Or.inl ⟨u, rfl⟩⟩
  · have u : ¬ un_R nt r 1 X := fun y => z ((tR.un (h.1.le (by decide))).mpr y)
    have o := sL_O.two (q := q) (a := 354) (a2 := 357) (j := n) (j2 := n) (v := 7) (w := v) L (by decide) (by decide)
    exact ⟨_, e1, ⟨o.1, o.2.1.trans ⟨fun y => y.elim, fun y => u y.1⟩, o.2.2⟩, Or.inr ⟨v, tR, u, rfl⟩⟩
/-- a var of the function's component, or a word of an enum -/
theorem so_12w (h : sC W nt s r) (L : ls_R (s.1 846 7) (s.1 846 8) S) (hX : X < 7934) (hk : kc_R nt kc) (hn : n < 16000) : ∃ x, k_X3_settleName_290 (nI n) hm kc (nI (66 + X)) (nI 12) s = some x ∧ sL_O (fun b j => (b = 335 ∧ j = n) ∨ (b = 336 ∧ j = n)) (no_R 975 979 8 r kc X ∧ s.1 7 (66 + X) = 0) False q S s x ∧ ((no_R 975 979 8 r kc X ∧ x.2 = s) ∨ ∃ v, of_R 975 979 8 r kc X v ∧ ¬ v < 0 ∧ ¬ no_R 975 979 8 r kc X ∧ x = (1, t_setI (t_setI s 335 n 4) 336 n v)) := by
  have hb := h.2.2.1 (66 + X)
  obtain ⟨v, e1, e2, _, of⟩ := lk_var h hk hX
  have e := so_12 (hm := hm) e1 hb hX hn
  by_cases z : v < 0
  · rw [if_pos z] at e
    have u := e2.mp z
    have o := sL_O.nil (q := q) L hb
    exact ⟨_, e, ⟨o.1, o.2.1.trans ⟨fun y => ⟨u, y⟩, fun y => y.2⟩, o.2.2.1.mono (fun b j y => y.elim), o.2.2.2⟩, Or.inl ⟨u, rfl⟩⟩
  · rw [if_neg z] at e
    have u : ¬ no_R 975 979 8 r kc X := fun y => z (e2.mpr y)
    have o := sL_O.two (q := q) (a := 335) (a2 := 336) (j := n) (j2 := n) (v := 4) (w := v) L (by decide) (by decide)
    exact ⟨_, e, ⟨o.1, o.2.1.trans ⟨fun y => y.elim, fun y => u y.1⟩, o.2.2⟩, Or.inr ⟨v, of, z, u, rfl⟩⟩
end
