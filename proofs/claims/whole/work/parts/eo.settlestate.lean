/-! Level 2: names settled: the state of the loop; a component's own looked up. -/
/-- what settling writes -/
def sn_W (b j : Nat) : Prop := b = 321 ∨ b = 335 ∨ b = 336 ∨ b = 354 ∨ b = 357 ∨ b = 435 ∨ b = 443 ∨ (445 ≤ b ∧ b < 845 ∧ (j = 6 ∨ j = 7)) ∨ lf_W b j
/-- what it reads -/
def sC (W : Nat) (nt : Nat → Nat) (c r : t_S) : Prop := nt_R W nt c r ∧ (∀ g, g < nt 3 → ko_R nt r g (c.1 438 g)) ∧ BK c ∧ ∀ j, j < nt 2 → ∃ v0 v1 v2 A B D, cw_R c r j v0 v1 v2 A B D
def kc_R (nt : Nat → Nat) (kc : Int32) : Prop := kc = -1 ∨ ∃ j, j < nt 2 ∧ kc = nI j
/-- the component kc, if any, has no such name -/
def no_R (b t : Nat) (m : Int32) (r : t_S) (kc : Int32) (X : Nat) : Prop := kc < 0 ∨ ∃ i, f_X13_find b (m * kc) (r.1 t kc.toNatClampNeg) (nI X) r = some i ∧ i < 0
/-- what is found of component kc under a name; -1: nothing -/
def of_R (b t : Nat) (m : Int32) (r : t_S) (kc : Int32) (X : Nat) (v : Int32) : Prop := (kc < 0 ∧ v = -1) ∨ (¬ kc < 0 ∧ f_X13_find b (m * kc) (r.1 t kc.toNatClampNeg) (nI X) r = some v)
theorem of_R.eq {b t X : Nat} {m kc v w : Int32} {r : t_S} (h : of_R b t m r kc X v) (g : of_R b t m r kc X w) : v = w := by
  rcases h with ⟨h1, h2⟩ | ⟨h1, h2⟩
  · rcases g with ⟨_, g2⟩ | ⟨g1, _⟩
    · rw [h2, g2]
    · exact absurd h1 g1
  · rcases g with ⟨g1, _⟩ | ⟨_, g2⟩
    · exact absurd g1 h1
    · rw [h2] at g2
      cases g2
      rfl
section
variable {W X e n f so : Nat} {nt : Nat → Nat} {q v w kc hm : Int32} {S : Nat → Int32 → Prop} {c s r : t_S}
theorem sC.fr (h : sC W nt c r) (f : l2_fr sn_W c s) : sC W nt s r := by
  obtain ⟨h1, h2, h3, h4⟩ := h
  refine ⟨h1.fr f (l2_fr.rf (W := fun _ _ => False)) (fun j => by unfold sn_W lf_W; omega) (by unfold sn_W lf_W; omega) ⟨id, id, id, id⟩ (fun b j _ => id), fun g hg => ?_, h3.fr f (fun j => by unfold sn_W lf_W; omega), fun j hj => ?_⟩
  · rw [(f 438 g (by unfold sn_W lf_W; omega)).1]
    exact h2 g hg
  · obtain ⟨v0, v1, v2, A, B, D, h⟩ := h4 j hj
    exact ⟨v0, v1, v2, A, B, D, h.fr f (l2_fr.rf (W := fun _ _ => False)) (fun b j _ _ => by unfold sn_W lf_W; omega) (fun b j _ _ _ => id)⟩
theorem ko_R.own (h : ko_R nt r f v) : kc_R nt v := by
  obtain ⟨Y, _, _, _, ⟨y, _⟩ | ⟨j, j1, j2, _⟩⟩ := h
  · exact Or.inl y
  · exact Or.inr ⟨j, j1, j2⟩
theorem sC.n8 (h : sC W nt c r) : nt 2 ≤ 8 := (h.1.1 2 (by decide)).1
theorem lk_port (h : sC W nt s r) (hk : kc_R nt kc) (hX : X < 7934) : ∃ v, f_X5_portOf kc (nI (66 + X)) s = some v ∧ (v < 0 ↔ no_R 971 972 6 r kc X) ∧ (v = -1 ∨ ∃ i, i < 8 ∧ v = nI i) ∧ of_R 971 972 6 r kc X v := by
  rcases hk with rfl | ⟨j, hj, rfl⟩
  · refine ⟨-1, ?_, ⟨fun _ => Or.inl (by decide), fun _ => by decide⟩, Or.inl rfl, Or.inl ⟨by decide, rfl⟩⟩
    unfold f_X5_portOf
    rw [if_neg (by decide)]
  · have n8 := h.n8
    obtain ⟨v0, v1, v2, A, B, D, hc⟩ := h.2.2.2 j hj
    obtain ⟨w, e1, e2, e3⟩ := own_port hc (show j < 8 by omega) hX
    refine ⟨w, e1, ⟨fun y => Or.inr ⟨w, by rw [nI_clamp (n := j) (by omega)]; exact e2, y⟩, fun y => ?_⟩, ?_, Or.inr ⟨nI_pos (by omega), by rw [nI_clamp (n := j) (by omega)]; exact e2⟩⟩
    · rcases y with y | ⟨i, i1, i2⟩
      · exact absurd y (nI_pos (by omega))
      · rw [nI_clamp (n := j) (by omega), e2] at i1
        cases i1
        exact i2
    · have hh := hc.1
      rcases e3 with ⟨i, i1, i2, _⟩ | ⟨y, _⟩
      · exact Or.inr ⟨i, by omega, i2⟩
      · exact Or.inl y
theorem lk_timer (h : sC W nt s r) (hk : kc_R nt kc) (hX : X < 7934) : ∃ v, f_X5_timerOf kc (nI (66 + X)) s = some v ∧ (v < 0 ↔ no_R 973 974 4 r kc X) ∧ (v = -1 ∨ ∃ i, i < 8 ∧ v = nI i) ∧ of_R 973 974 4 r kc X v := by
  rcases hk with rfl | ⟨j, hj, rfl⟩
  · refine ⟨-1, ?_, ⟨fun _ => Or.inl (by decide), fun _ => by decide⟩, Or.inl rfl, Or.inl ⟨by decide, rfl⟩⟩
    unfold f_X5_timerOf
    rw [if_neg (by decide)]
  · have n8 := h.n8
    obtain ⟨v0, v1, v2, A, B, D, hc⟩ := h.2.2.2 j hj
    obtain ⟨w, e1, e2, e3⟩ := own_timer hc (show j < 8 by omega) hX
    refine ⟨w, e1, ⟨fun y => Or.inr ⟨w, by rw [nI_clamp (n := j) (by omega)]; exact e2, y⟩, fun y => ?_⟩, ?_, Or.inr ⟨nI_pos (by omega), by rw [nI_clamp (n := j) (by omega)]; exact e2⟩⟩
    · rcases y with y | ⟨i, i1, i2⟩
      · exact absurd y (nI_pos (by omega))
      · rw [nI_clamp (n := j) (by omega), e2] at i1
        cases i1
        exact i2
    · have hh := hc.1
      rcases e3 with ⟨i, i1, i2, _⟩ | ⟨y, _⟩
      · exact Or.inr ⟨i, by omega, i2⟩
      · exact Or.inl y
theorem lk_var (h : sC W nt s r) (hk : kc_R nt kc) (hX : X < 7934) : ∃ v, f_X5_varOf kc (nI (66 + X)) s = some v ∧ (v < 0 ↔ no_R 975 979 8 r kc X) ∧ (v = -1 ∨ ∃ i, i < 8 ∧ v = nI i) ∧ of_R 975 979 8 r kc X v := by
  rcases hk with rfl | ⟨j, hj, rfl⟩
  · refine ⟨-1, ?_, ⟨fun _ => Or.inl (by decide), fun _ => by decide⟩, Or.inl rfl, Or.inl ⟨by decide, rfl⟩⟩
    unfold f_X5_varOf
    rw [if_neg (by decide)]
  · have n8 := h.n8
    obtain ⟨v0, v1, v2, A, B, D, hc⟩ := h.2.2.2 j hj
    obtain ⟨w, e1, e2, e3⟩ := own_var hc (show j < 8 by omega) hX
    refine ⟨w, e1, ⟨fun y => Or.inr ⟨w, by rw [nI_clamp (n := j) (by omega)]; exact e2, y⟩, fun y => ?_⟩, ?_, Or.inr ⟨nI_pos (by omega), by rw [nI_clamp (n := j) (by omega)]; exact e2⟩⟩
    · rcases y with y | ⟨i, i1, i2⟩
      · exact absurd y (nI_pos (by omega))
      · rw [nI_clamp (n := j) (by omega), e2] at i1
        cases i1
        exact i2
    · have hh := hc.1
      rcases e3 with ⟨i, i1, i2, _⟩ | ⟨y, _⟩
      · exact Or.inr ⟨i, by omega, i2⟩
      · exact Or.inl y
theorem lo_5 (h : sC W nt s r) (L : ls_R (s.1 846 7) (s.1 846 8) S) (hX : X < 7934) (he : e < 6002) (h9 : s.1 849 e = nI 5) (h0 : s.1 850 e = nI (66 + X)) (h2 : s.1 852 e = nI n) (h1 : s.1 851 e = nI f) (hf : f < nt 3) (f40 : f < 40) (hn : n < 400) : ∃ v, of_R 971 972 6 r (s.1 438 f) X v ∧ f_X3_settleName (nI e) s = some (ok_b v, t_setI s (445 + n) 6 v) ∧ sL_O (fun b j => b = 445 + n ∧ j = 6) (no_R 971 972 6 r (s.1 438 f) X) False q S s (ok_b v, t_setI s (445 + n) 6 v) := by
  obtain ⟨v, e1, e2, _, of⟩ := lk_port h (h.2.1 f hf).own hX
  refine ⟨v, of, ?_, ?_⟩
  · rw [sn_unit (so := 5) (by decide) he h9 h0 h2 f40 h1]
    exact so_5 e1 hn
  · have o := sL_O.one (q := q) (v := v) (a := 445 + n) (j := 6) L (by omega)
    exact ⟨o.1, o.2.1.trans e2, o.2.2⟩
theorem lo_6 (h : sC W nt s r) (L : ls_R (s.1 846 7) (s.1 846 8) S) (hX : X < 7934) (he : e < 6002) (h9 : s.1 849 e = nI 6) (h0 : s.1 850 e = nI (66 + X)) (h2 : s.1 852 e = nI n) (h1 : s.1 851 e = nI f) (hf : f < nt 3) (f40 : f < 40) (hn : n < 400) : ∃ v, of_R 973 974 4 r (s.1 438 f) X v ∧ f_X3_settleName (nI e) s = some (ok_b v, t_setI s (445 + n) 6 v) ∧ sL_O (fun b j => b = 445 + n ∧ j = 6) (no_R 973 974 4 r (s.1 438 f) X) False q S s (ok_b v, t_setI s (445 + n) 6 v) := by
  obtain ⟨v, e1, e2, _, of⟩ := lk_timer h (h.2.1 f hf).own hX
  refine ⟨v, of, ?_, ?_⟩
  · rw [sn_unit (so := 6) (by decide) he h9 h0 h2 f40 h1]
    exact so_6 e1 hn
  · have o := sL_O.one (q := q) (v := v) (a := 445 + n) (j := 6) L (by omega)
    exact ⟨o.1, o.2.1.trans e2, o.2.2⟩
theorem lo_7 (h : sC W nt s r) (L : ls_R (s.1 846 7) (s.1 846 8) S) (hX : X < 7934) (he : e < 6002) (h9 : s.1 849 e = nI 7) (h0 : s.1 850 e = nI (66 + X)) (h2 : s.1 852 e = nI n) (h1 : s.1 851 e = nI f) (hf : f < nt 3) (f40 : f < 40) (hn : n < 16000) : ∃ v, of_R 973 974 4 r (s.1 438 f) X v ∧ f_X3_settleName (nI e) s = some (ok_b v, t_setI s 336 n v) ∧ sL_O (fun b j => b = 336 ∧ j = n) (no_R 973 974 4 r (s.1 438 f) X) False q S s (ok_b v, t_setI s 336 n v) := by
  obtain ⟨v, e1, e2, _, of⟩ := lk_timer h (h.2.1 f hf).own hX
  refine ⟨v, of, ?_, ?_⟩
  · rw [sn_unit (so := 7) (by decide) he h9 h0 h2 f40 h1]
    exact so_7 (by rw [if_pos (nI_pos' (by omega))]; exact e1) hn
  · have o := sL_O.one (q := q) (v := v) (a := 336) (j := n) L (by omega)
    exact ⟨o.1, o.2.1.trans e2, o.2.2⟩
/-- .. in a component's own exp, or in a template -/
theorem lo_7c (h : sC W nt s r) (L : ls_R (s.1 846 7) (s.1 846 8) S) (hX : X < 7934) (he : e < 6002) (h9 : s.1 849 e = nI 7) (h0 : s.1 850 e = nI (66 + X)) (h2 : s.1 852 e = nI n) (h1 : s.1 851 e = hm) (hh : hm < 0) (hk : kc_R nt (-2 - hm)) (hn : n < 16000) : ∃ v, of_R 973 974 4 r (-2 - hm) X v ∧ f_X3_settleName (nI e) s = some (ok_b v, t_setI s 336 n v) ∧ sL_O (fun b j => b = 336 ∧ j = n) (no_R 973 974 4 r (-2 - hm) X) False q S s (ok_b v, t_setI s 336 n v) := by
  obtain ⟨v, e1, e2, _, of⟩ := lk_timer h hk hX
  refine ⟨v, of, ?_, ?_⟩
  · rw [sn_comp (so := 7) (by decide) he h9 h0 h2 h1 hh]
    exact so_7 (by rw [if_neg (Int32.not_le.mpr hh)]; exact e1) hn
  · have o := sL_O.one (q := q) (v := v) (a := 336) (j := n) L (by omega)
    exact ⟨o.1, o.2.1.trans e2, o.2.2⟩
theorem lo_14 (h : sC W nt s r) (L : ls_R (s.1 846 7) (s.1 846 8) S) (hX : X < 7934) (he : e < 6002) (h9 : s.1 849 e = nI 14) (h0 : s.1 850 e = nI (66 + X)) (h2 : s.1 852 e = nI n) (h1 : s.1 851 e = nI f) (hf : f < nt 3) (f40 : f < 40) (hn : n < 400) : ∃ v w, of_R 975 979 8 r (s.1 438 f) X w ∧ v = (if w < 0 then -1 else 8 + w) ∧ f_X3_settleName (nI e) s = some (ok_b v, t_setI s (445 + n) 7 v) ∧ sL_O (fun b j => b = 445 + n ∧ j = 7) (no_R 975 979 8 r (s.1 438 f) X) False q S s (ok_b v, t_setI s (445 + n) 7 v) := by
  obtain ⟨v, e1, e2, e3, of⟩ := lk_var h (h.2.1 f hf).own hX
  have ev : (if v < 0 then -1 else 8 + v) < 0 ↔ v < 0 := by
    rcases e3 with rfl | ⟨i, hi, rfl⟩
    · decide
    · rw [if_neg (nI_pos (by omega)), show (8 : Int32) + nI i = nI (8 + i) from nI_add 8 i]
      exact ⟨fun y => absurd y (nI_pos (by omega)), fun y => absurd y (nI_pos (by omega))⟩
  refine ⟨if v < 0 then -1 else 8 + v, v, of, rfl, ?_, ?_⟩
  · rw [sn_unit (so := 14) (by decide) he h9 h0 h2 f40 h1]
    exact so_14 e1 hn
  · have o := sL_O.one (q := q) (v := if v < 0 then -1 else 8 + v) (a := 445 + n) (j := 7) L (by omega)
    exact ⟨o.1, o.2.1.trans (ev.trans e2), o.2.2⟩
end
