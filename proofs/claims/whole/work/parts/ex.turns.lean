/-! Level 2: names settled: a link's turn, by its sort. By gen_ex.py. -/
/-- a link: sort, word, home, spot, arguments -/
def le_D (c : t_S) (e so X : Nat) (hm : Int32) (sp : Nat) (ex : Int32) : Prop := (so < 20 ∧ X < 7934 ∧ sp < 16000) ∧ c.1 849 e = nI so ∧ c.1 850 e = nI (66 + X) ∧ c.1 851 e = hm ∧ c.1 852 e = nI sp ∧ c.1 853 e = ex
/-- by its home: in which component its word is looked up -/
def kx_R (nt : Nat → Nat) (c : t_S) (so : Nat) (hm kc : Int32) : Prop := (∃ f, f < nt 3 ∧ f < 40 ∧ hm = nI f ∧ kc = c.1 438 f) ∨ (∃ k, k < nt 2 ∧ k < 8 ∧ hm = -2 - nI k ∧ kc = (if so = 7 then nI k else -1)) ∨ (hm = -1 ∧ kc = -1)
/-- not settled -/
def lu_R (nt : Nat → Nat) (c r : t_S) (m so X : Nat) (hm : Int32) : Prop := (so < 3 ∧ un_R nt r 0 X) ∨ (so = 3 ∧ ∃ kc, kx_R nt c so hm kc ∧ kc < 0) ∨ (so = 4 ∧ un_R nt r 2 X) ∨ (so = 8 ∧ ¬ pt_R (nt 2) r X) ∨ ((so = 9 ∨ so = 10 ∨ so = 11) ∧ ∃ f v, hm = nI f ∧ f < 40 ∧ to_R nt r 3 X v ∧ ¬ ∃ g, g < nt 3 ∧ v = nI g ∧ cK c so f g) ∨ (so = 13 ∧ un_R nt r 1 X ∧ ¬ ew_W m r X) ∨ ∃ kc, kx_R nt c so hm kc ∧ ((so = 5 ∧ no_R 971 972 6 r kc X) ∨ ((so = 6 ∨ so = 7) ∧ no_R 973 974 4 r kc X) ∨ (so = 12 ∧ no_R 975 979 8 r kc X ∧ ¬ ew_W m r X) ∨ (so = 14 ∧ no_R 975 979 8 r kc X))
/-- another number of arguments -/
def lq_R (nt : Nat → Nat) (c r : t_S) (so X : Nat) (hm ex : Int32) : Prop := (so = 9 ∨ so = 10 ∨ so = 11) ∧ ∃ f v g, hm = nI f ∧ f < 40 ∧ to_R nt r 3 X v ∧ g < nt 3 ∧ v = nI g ∧ cK c so f g ∧ c.1 439 g ≠ ex
/-- what it writes -/
def lw_R (nt : Nat → Nat) (c r : t_S) (so X : Nat) (hm : Int32) (sp b i : Nat) (v : Int32) : Prop := (so = 0 ∧ b = 321 ∧ i = sp ∧ to_R nt r 0 X v) ∨ (so = 1 ∧ b = 443 ∧ i = sp ∧ to_R nt r 0 X v) ∨ (so = 2 ∧ b = 435 ∧ i = sp ∧ to_R nt r 0 X v) ∨ (so = 4 ∧ b = 445 + sp ∧ i = 6 ∧ to_R nt r 2 X v) ∨ ((so = 9 ∨ so = 10 ∨ so = 11) ∧ b = 445 + sp ∧ i = 6 ∧ ∃ f g, hm = nI f ∧ f < 40 ∧ to_R nt r 3 X v ∧ g < nt 3 ∧ v = nI g ∧ cK c so f g) ∨ (so = 13 ∧ i = sp ∧ ∃ w, to_R nt r 1 X w ∧ ¬ un_R nt r 1 X ∧ ((b = 354 ∧ v = 7) ∨ (b = 357 ∧ v = w))) ∨ ∃ kc w, kx_R nt c so hm kc ∧ ((so = 5 ∧ b = 445 + sp ∧ i = 6 ∧ of_R 971 972 6 r kc X w ∧ v = w) ∨ (so = 6 ∧ b = 445 + sp ∧ i = 6 ∧ of_R 973 974 4 r kc X w ∧ v = w) ∨ (so = 7 ∧ b = 336 ∧ i = sp ∧ of_R 973 974 4 r kc X w ∧ v = w) ∨ (so = 12 ∧ i = sp ∧ of_R 975 979 8 r kc X w ∧ ¬ no_R 975 979 8 r kc X ∧ ((b = 335 ∧ v = 4) ∨ (b = 336 ∧ v = w))) ∨ (so = 14 ∧ b = 445 + sp ∧ i = 7 ∧ of_R 975 979 8 r kc X w ∧ v = (if w < 0 then -1 else 8 + w)))
/-- what a link's turn comes to -/
def lT_O (nt : Nat → Nat) (c r : t_S) (m so X : Nat) (hm : Int32) (sp : Nat) (ex q : Int32) (S : Nat → Int32 → Prop) (s : t_S) (x : Int32 × t_S) : Prop := sL_O (fun b i => (∃ v, lw_R nt c r so X hm sp b i v) ∨ lf_W b i) (lu_R nt c r m so X hm) (lq_R nt c r so X hm ex) q S s x ∧ ∀ b i v, lw_R nt c r so X hm sp b i v → x.2.1 b i = v
section
variable {W X e n f so sp m i b : Nat} {nt : Nat → Nat} {q v w kc kc' hm ex : Int32} {U V : Prop} {S : Nat → Int32 → Prop} {c s r : t_S} {x : Int32 × t_S} {Ws : Nat → Nat → Prop}
theorem hm_no {k f : Nat} (hk : k < 8) (hf : f < 40) : (-2 : Int32) - nI k ≠ nI f ∧ (-2 : Int32) - nI k ≠ -1 ∧ nI f ≠ (-1 : Int32) ∧ (-2 : Int32) - nI k < 0 ∧ -2 - (-2 - nI k) = nI k := by
  have h8 : ∀ k, k < 8 → (-2 : Int32) - nI k < 0 ∧ (-2 : Int32) - nI k ≠ -1 ∧ -2 - (-2 - nI k) = nI k := by decide
  obtain ⟨a1, a2, a3⟩ := h8 k hk
  refine ⟨fun y => ?_, a2, fun y => ?_, a1, a3⟩
  · rw [y] at a1
    exact nI_pos (by omega) a1
  · have : ¬ nI f < 0 := nI_pos (by omega)
    rw [y] at this
    exact this (by decide)
theorem hm_eq {k k' : Nat} (hk : k < 8) (hk' : k' < 8) (h : (-2 : Int32) - nI k = -2 - nI k') : k = k' := by
  have a := (hm_no hk (f := 0) (by decide)).2.2.2.2
  have b := (hm_no hk' (f := 0) (by decide)).2.2.2.2
  rw [h, b] at a
  exact ((nI_eq (by omega) (by omega)).mp a).symm
theorem kx_R.eq (h : kx_R nt c so hm kc) (g : kx_R nt c so hm kc') : kc = kc' := by
  rcases h with ⟨f, f1, f2, f3, f4⟩ | ⟨k, k1, k2, k3, k4⟩ | ⟨k1, k2⟩
  · rcases g with ⟨f', g1, g2, g3, g4⟩ | ⟨k', l1, l2, l3, l4⟩ | ⟨l1, l2⟩
    · have e : f = f' := (nI_eq (by omega) (by omega)).mp (f3.symm.trans g3)
      rw [f4, g4, e]
    · exact absurd (l3.symm.trans f3) (hm_no l2 f2).1
    · exact absurd (f3.symm.trans l1) (hm_no (k := 0) (by decide) f2).2.2.1
  · rcases g with ⟨f', g1, g2, g3, g4⟩ | ⟨k', l1, l2, l3, l4⟩ | ⟨l1, l2⟩
    · exact absurd (k3.symm.trans g3) (hm_no k2 g2).1
    · have e : k = k' := hm_eq k2 l2 (k3.symm.trans l3)
      rw [k4, l4, e]
    · exact absurd (k3.symm.trans l1) (hm_no k2 (f := 0) (by decide)).2.1
  · rcases g with ⟨f', g1, g2, g3, g4⟩ | ⟨k', l1, l2, l3, l4⟩ | ⟨l1, l2⟩
    · exact absurd (g3.symm.trans k1) (hm_no (k := 0) (by decide) g2).2.2.1
    · exact absurd (l3.symm.trans k1) (hm_no l2 (f := 0) (by decide)).2.1
    · rw [k2, l2]
theorem le_D.un {so' X' sp' : Nat} {hm' ex' : Int32} (h : le_D c e so X hm sp ex) (g : le_D c e so' X' hm' sp' ex') : so = so' ∧ X = X' ∧ hm = hm' ∧ sp = sp' ∧ ex = ex' := by
  obtain ⟨⟨a1, a2, a3⟩, h1, h2, h3, h4, h5⟩ := h
  obtain ⟨⟨b1, b2, b3⟩, g1, g2, g3, g4, g5⟩ := g
  exact ⟨(nI_eq (by omega) (by omega)).mp (h1.symm.trans g1), by have := (nI_eq (by omega) (by omega)).mp (h2.symm.trans g2); omega, h3.symm.trans g3, (nI_eq (by omega) (by omega)).mp (h4.symm.trans g4), h5.symm.trans g5⟩
theorem le_D.fr (h : le_D c e so X hm sp ex) (f : l2_fr sn_W c s) : le_D s e so X hm sp ex := by
  obtain ⟨a, h1, h2, h3, h4, h5⟩ := h
  have g : ∀ b, 848 ≤ b → b ≤ 853 → s.1 b e = c.1 b e := fun b b1 b2 => (f b e (by unfold sn_W lf_W; omega)).1
  exact ⟨a, by rw [g _ (by decide) (by decide)]; exact h1, by rw [g _ (by decide) (by decide)]; exact h2, by rw [g _ (by decide) (by decide)]; exact h3, by rw [g _ (by decide) (by decide)]; exact h4, by rw [g _ (by decide) (by decide)]; exact h5⟩
theorem sn_c (f : l2_fr sn_W c s) : (∀ g, s.1 438 g = c.1 438 g) ∧ (∀ g, s.1 437 g = c.1 437 g) ∧ (∀ g, s.1 439 g = c.1 439 g) ∧ ∀ g, s.1 7 g = c.1 7 g := ⟨fun g => (f _ g (by unfold sn_W lf_W; omega)).1, fun g => (f _ g (by unfold sn_W lf_W; omega)).1, fun g => (f _ g (by unfold sn_W lf_W; omega)).1, fun g => (f _ g (by unfold sn_W lf_W; omega)).1⟩
theorem sL_O.to (o : sL_O Ws U V q S s x) (hw : ∀ b i, Ws b i → (∃ v, lw_R nt c r so X hm sp b i v) ∨ lf_W b i) (hu : U ↔ lu_R nt c r m so X hm) (hv : V ↔ lq_R nt c r so X hm ex) (hx : ∀ b i v, lw_R nt c r so X hm sp b i v → x.2.1 b i = v) : lT_O nt c r m so X hm sp ex q S s x := ⟨⟨o.1, o.2.1.trans hu, o.2.2.1.mono hw, o.2.2.2.iff (fun a b => or_congr Iff.rfl (and_congr Iff.rfl (and_congr Iff.rfl hv)))⟩, hx⟩
theorem t1_v {s : t_S} {a k : Nat} {v : Int32} : (t_setI s a k v).1 a k = v := by simp only [l2_gI, reduceIte]
theorem t2_v {s : t_S} {a k a' k' : Nat} {v v' : Int32} (h : a ≠ a') : (t_setI (t_setI s a k v) a' k' v').1 a k = v := by
  have fr : l2_fr (fun b i => b = a' ∧ i = k') (t_setI s a k v) (t_setI (t_setI s a k v) a' k' v') := l2_fr.set ⟨rfl, rfl⟩
  rw [(fr a k (by omega)).1]
  exact t1_v
theorem tn_0 (hC : sC W nt c r) (fs : l2_fr sn_W c s) (L : ls_R (s.1 846 7) (s.1 846 8) S) (he : e < 6002) (D : le_D c e 0 X hm sp ex) (hW : 66 + X < W) (hsp : sp < 3001) : ∃ x, f_X3_settleName (nI e) s = some x ∧ lT_O nt c r m 0 X hm sp ex q S s x := by
  have C' := hC.fr fs
  obtain ⟨⟨d1, d2, d3⟩, h9, h0, h1, h2, h3⟩ := D.fr fs
  obtain ⟨g8, g7, g9, gE⟩ := sn_c fs
  obtain ⟨v, tR, e1, o⟩ := lo_0 (q := q) C' L d2 hW he h9 h0 h2 hsp
  refine ⟨_, e1, o.to (fun b i y => Or.inl ⟨v, Or.inl ⟨rfl, y.1, y.2, tR⟩⟩) ⟨fun y => Or.inl ⟨by decide, y⟩, fun y => ?_⟩ ⟨fun y => y.elim, fun y => by rcases y.1 with y | y | y <;> omega⟩ (fun b i v' h => ?_)⟩
  · rcases y with ⟨y, z⟩ | ⟨y, z⟩ | ⟨y, z⟩ | ⟨y, z⟩ | ⟨y, z⟩ | ⟨y, z⟩ | ⟨kc1, hk, ⟨y, z⟩ | ⟨y, z⟩ | ⟨y, z⟩ | ⟨y, z⟩⟩
    · exact z
    · omega
    · omega
    · omega
    · omega
    · omega
    · omega
    · omega
    · omega
    · omega
  · rcases h with ⟨y, z⟩ | ⟨y, z⟩ | ⟨y, z⟩ | ⟨y, z⟩ | ⟨y, z⟩ | ⟨y, z⟩ | ⟨kc1, w1, hk, ⟨y, z⟩ | ⟨y, z⟩ | ⟨y, z⟩ | ⟨y, z⟩ | ⟨y, z⟩⟩
    · obtain ⟨rfl, rfl, tR2⟩ := z; exact t1_v.trans (tR.eq tR2)
    · omega
    · omega
    · omega
    · omega
    · omega
    · omega
    · omega
    · omega
    · omega
    · omega
theorem tn_1 (hC : sC W nt c r) (fs : l2_fr sn_W c s) (L : ls_R (s.1 846 7) (s.1 846 8) S) (he : e < 6002) (D : le_D c e 1 X hm sp ex) (hW : 66 + X < W) (hsp : sp < 320) : ∃ x, f_X3_settleName (nI e) s = some x ∧ lT_O nt c r m 1 X hm sp ex q S s x := by
  have C' := hC.fr fs
  obtain ⟨⟨d1, d2, d3⟩, h9, h0, h1, h2, h3⟩ := D.fr fs
  obtain ⟨g8, g7, g9, gE⟩ := sn_c fs
  obtain ⟨v, tR, e1, o⟩ := lo_1 (q := q) C' L d2 hW he h9 h0 h2 hsp
  refine ⟨_, e1, o.to (fun b i y => Or.inl ⟨v, Or.inr (Or.inl ⟨rfl, y.1, y.2, tR⟩)⟩) ⟨fun y => Or.inl ⟨by decide, y⟩, fun y => ?_⟩ ⟨fun y => y.elim, fun y => by rcases y.1 with y | y | y <;> omega⟩ (fun b i v' h => ?_)⟩
  · rcases y with ⟨y, z⟩ | ⟨y, z⟩ | ⟨y, z⟩ | ⟨y, z⟩ | ⟨y, z⟩ | ⟨y, z⟩ | ⟨kc1, hk, ⟨y, z⟩ | ⟨y, z⟩ | ⟨y, z⟩ | ⟨y, z⟩⟩
    · exact z
    · omega
    · omega
    · omega
    · omega
    · omega
    · omega
    · omega
    · omega
    · omega
  · rcases h with ⟨y, z⟩ | ⟨y, z⟩ | ⟨y, z⟩ | ⟨y, z⟩ | ⟨y, z⟩ | ⟨y, z⟩ | ⟨kc1, w1, hk, ⟨y, z⟩ | ⟨y, z⟩ | ⟨y, z⟩ | ⟨y, z⟩ | ⟨y, z⟩⟩
    · omega
    · obtain ⟨rfl, rfl, tR2⟩ := z; exact t1_v.trans (tR.eq tR2)
    · omega
    · omega
    · omega
    · omega
    · omega
    · omega
    · omega
    · omega
    · omega
theorem tn_2 (hC : sC W nt c r) (fs : l2_fr sn_W c s) (L : ls_R (s.1 846 7) (s.1 846 8) S) (he : e < 6002) (D : le_D c e 2 X hm sp ex) (hW : 66 + X < W) (hsp : sp < 64) : ∃ x, f_X3_settleName (nI e) s = some x ∧ lT_O nt c r m 2 X hm sp ex q S s x := by
  have C' := hC.fr fs
  obtain ⟨⟨d1, d2, d3⟩, h9, h0, h1, h2, h3⟩ := D.fr fs
  obtain ⟨g8, g7, g9, gE⟩ := sn_c fs
  obtain ⟨v, tR, e1, o⟩ := lo_2 (q := q) C' L d2 hW he h9 h0 h2 hsp
  refine ⟨_, e1, o.to (fun b i y => Or.inl ⟨v, Or.inr (Or.inr (Or.inl ⟨rfl, y.1, y.2, tR⟩))⟩) ⟨fun y => Or.inl ⟨by decide, y⟩, fun y => ?_⟩ ⟨fun y => y.elim, fun y => by rcases y.1 with y | y | y <;> omega⟩ (fun b i v' h => ?_)⟩
  · rcases y with ⟨y, z⟩ | ⟨y, z⟩ | ⟨y, z⟩ | ⟨y, z⟩ | ⟨y, z⟩ | ⟨y, z⟩ | ⟨kc1, hk, ⟨y, z⟩ | ⟨y, z⟩ | ⟨y, z⟩ | ⟨y, z⟩⟩
    · exact z
    · omega
    · omega
    · omega
    · omega
    · omega
    · omega
    · omega
    · omega
    · omega
  · rcases h with ⟨y, z⟩ | ⟨y, z⟩ | ⟨y, z⟩ | ⟨y, z⟩ | ⟨y, z⟩ | ⟨y, z⟩ | ⟨kc1, w1, hk, ⟨y, z⟩ | ⟨y, z⟩ | ⟨y, z⟩ | ⟨y, z⟩ | ⟨y, z⟩⟩
    · omega
    · omega
    · obtain ⟨rfl, rfl, tR2⟩ := z; exact t1_v.trans (tR.eq tR2)
    · omega
    · omega
    · omega
    · omega
    · omega
    · omega
    · omega
    · omega
theorem tn_4 (hC : sC W nt c r) (fs : l2_fr sn_W c s) (L : ls_R (s.1 846 7) (s.1 846 8) S) (he : e < 6002) (D : le_D c e 4 X hm sp ex) (hW : 66 + X < W) (hsp : sp < 400) : ∃ x, f_X3_settleName (nI e) s = some x ∧ lT_O nt c r m 4 X hm sp ex q S s x := by
  have C' := hC.fr fs
  obtain ⟨⟨d1, d2, d3⟩, h9, h0, h1, h2, h3⟩ := D.fr fs
  obtain ⟨g8, g7, g9, gE⟩ := sn_c fs
  obtain ⟨v, tR, e1, o⟩ := lo_4 (q := q) C' L d2 hW he h9 h0 h2 hsp
  refine ⟨_, e1, o.to (fun b i y => Or.inl ⟨v, Or.inr (Or.inr (Or.inr (Or.inl ⟨rfl, y.1, y.2, tR⟩)))⟩) ⟨fun y => Or.inr (Or.inr (Or.inl ⟨rfl, y⟩)), fun y => ?_⟩ ⟨fun y => y.elim, fun y => by rcases y.1 with y | y | y <;> omega⟩ (fun b i v' h => ?_)⟩
  · rcases y with ⟨y, z⟩ | ⟨y, z⟩ | ⟨y, z⟩ | ⟨y, z⟩ | ⟨y, z⟩ | ⟨y, z⟩ | ⟨kc1, hk, ⟨y, z⟩ | ⟨y, z⟩ | ⟨y, z⟩ | ⟨y, z⟩⟩
    · omega
    · omega
    · exact z
    · omega
    · omega
    · omega
    · omega
    · omega
    · omega
    · omega
  · rcases h with ⟨y, z⟩ | ⟨y, z⟩ | ⟨y, z⟩ | ⟨y, z⟩ | ⟨y, z⟩ | ⟨y, z⟩ | ⟨kc1, w1, hk, ⟨y, z⟩ | ⟨y, z⟩ | ⟨y, z⟩ | ⟨y, z⟩ | ⟨y, z⟩⟩
    · omega
    · omega
    · omega
    · obtain ⟨rfl, rfl, tR2⟩ := z; exact t1_v.trans (tR.eq tR2)
    · omega
    · omega
    · omega
    · omega
    · omega
    · omega
    · omega
theorem tn_3 (hC : sC W nt c r) (fs : l2_fr sn_W c s) (L : ls_R (s.1 846 7) (s.1 846 8) S) (he : e < 6002) (D : le_D c e 3 X hm sp ex) (hx : kx_R nt c 3 hm (c.1 438 sp)) (hsp : sp < 40) : ∃ x, f_X3_settleName (nI e) s = some x ∧ lT_O nt c r m 3 X hm sp ex q S s x := by
  have C' := hC.fr fs
  obtain ⟨⟨d1, d2, d3⟩, h9, h0, h1, h2, h3⟩ := D.fr fs
  obtain ⟨g8, g7, g9, gE⟩ := sn_c fs
  obtain ⟨e1, o⟩ := lo_3 (q := q) L he h9 h2 hsp
  refine ⟨_, e1, o.to (fun b i y => y.elim) ⟨fun y => Or.inr (Or.inl ⟨rfl, _, hx, by rw [← g8]; exact y⟩), fun y => ?_⟩ ⟨fun y => y.elim, fun y => by rcases y.1 with y | y | y <;> omega⟩ (fun b i v' h => ?_)⟩
  · rcases y with ⟨y, z⟩ | ⟨y, z⟩ | ⟨y, z⟩ | ⟨y, z⟩ | ⟨y, z⟩ | ⟨y, z⟩ | ⟨kc1, hk, ⟨y, z⟩ | ⟨y, z⟩ | ⟨y, z⟩ | ⟨y, z⟩⟩
    · omega
    · obtain ⟨kc1, k1, k2⟩ := z; rw [g8, hx.eq k1]; exact k2
    · omega
    · omega
    · omega
    · omega
    · omega
    · omega
    · omega
    · omega
  · rcases h with ⟨y, z⟩ | ⟨y, z⟩ | ⟨y, z⟩ | ⟨y, z⟩ | ⟨y, z⟩ | ⟨y, z⟩ | ⟨kc1, w1, hk, ⟨y, z⟩ | ⟨y, z⟩ | ⟨y, z⟩ | ⟨y, z⟩ | ⟨y, z⟩⟩
    · omega
    · omega
    · omega
    · omega
    · omega
    · omega
    · omega
    · omega
    · omega
    · omega
    · omega
theorem tn_8 (hC : sC W nt c r) (fs : l2_fr sn_W c s) (L : ls_R (s.1 846 7) (s.1 846 8) S) (he : e < 6002) (D : le_D c e 8 X hm sp ex) (e0 : c.1 428 0 = nI (nt 2)) : ∃ x, f_X3_settleName (nI e) s = some x ∧ lT_O nt c r m 8 X hm sp ex q S s x := by
  have C' := hC.fr fs
  obtain ⟨⟨d1, d2, d3⟩, h9, h0, h1, h2, h3⟩ := D.fr fs
  obtain ⟨g8, g7, g9, gE⟩ := sn_c fs
  obtain ⟨x, e1, ex', o⟩ := lo_8 (q := q) C' (by rw [(fs 428 0 (by unfold sn_W lf_W; omega)).1]; exact e0) L d2 he h9 h0
  refine ⟨_, e1, o.to (fun b i y => y.elim) ⟨fun y => Or.inr (Or.inr (Or.inr (Or.inl ⟨rfl, y⟩))), fun y => ?_⟩ ⟨fun y => y.elim, fun y => by rcases y.1 with y | y | y <;> omega⟩ (fun b i v' h => ?_)⟩
  · rcases y with ⟨y, z⟩ | ⟨y, z⟩ | ⟨y, z⟩ | ⟨y, z⟩ | ⟨y, z⟩ | ⟨y, z⟩ | ⟨kc1, hk, ⟨y, z⟩ | ⟨y, z⟩ | ⟨y, z⟩ | ⟨y, z⟩⟩
    · omega
    · omega
    · omega
    · exact z
    · omega
    · omega
    · omega
    · omega
    · omega
    · omega
  · rcases h with ⟨y, z⟩ | ⟨y, z⟩ | ⟨y, z⟩ | ⟨y, z⟩ | ⟨y, z⟩ | ⟨y, z⟩ | ⟨kc1, w1, hk, ⟨y, z⟩ | ⟨y, z⟩ | ⟨y, z⟩ | ⟨y, z⟩ | ⟨y, z⟩⟩
    · omega
    · omega
    · omega
    · omega
    · omega
    · omega
    · omega
    · omega
    · omega
    · omega
    · omega
theorem tn_5 (hC : sC W nt c r) (fs : l2_fr sn_W c s) (L : ls_R (s.1 846 7) (s.1 846 8) S) (he : e < 6002) (D : le_D c e 5 X hm sp ex) (hf : f < nt 3) (f40 : f < 40) (hm' : hm = nI f) (hsp : sp < 400) : ∃ x, f_X3_settleName (nI e) s = some x ∧ lT_O nt c r m 5 X hm sp ex q S s x := by
  have C' := hC.fr fs
  obtain ⟨⟨d1, d2, d3⟩, h9, h0, h1, h2, h3⟩ := D.fr fs
  obtain ⟨g8, g7, g9, gE⟩ := sn_c fs
  have hx : kx_R nt c 5 hm (c.1 438 f) := Or.inl ⟨f, hf, f40, hm', rfl⟩
  obtain ⟨v, tR, e1, o⟩ := lo_5 (q := q) C' L d2 he h9 h0 h2 (h1.trans hm') hf f40 hsp
  rw [g8] at tR o
  refine ⟨_, e1, o.to (fun b i y => Or.inl ⟨v, Or.inr (Or.inr (Or.inr (Or.inr (Or.inr (Or.inr ⟨_, v, hx, Or.inl ⟨rfl, y.1, y.2, tR, rfl⟩⟩)))))⟩) ⟨fun y => Or.inr (Or.inr (Or.inr (Or.inr (Or.inr (Or.inr ⟨_, hx, Or.inl ⟨rfl, y⟩⟩))))), fun y => ?_⟩ ⟨fun y => y.elim, fun y => by rcases y.1 with y | y | y <;> omega⟩ (fun b i v' h => ?_)⟩
  · rcases y with ⟨y, z⟩ | ⟨y, z⟩ | ⟨y, z⟩ | ⟨y, z⟩ | ⟨y, z⟩ | ⟨y, z⟩ | ⟨kc1, hk, ⟨y, z⟩ | ⟨y, z⟩ | ⟨y, z⟩ | ⟨y, z⟩⟩
    · omega
    · omega
    · omega
    · omega
    · omega
    · omega
    · rw [hx.eq hk]; exact z
    · omega
    · omega
    · omega
  · rcases h with ⟨y, z⟩ | ⟨y, z⟩ | ⟨y, z⟩ | ⟨y, z⟩ | ⟨y, z⟩ | ⟨y, z⟩ | ⟨kc1, w1, hk, ⟨y, z⟩ | ⟨y, z⟩ | ⟨y, z⟩ | ⟨y, z⟩ | ⟨y, z⟩⟩
    · omega
    · omega
    · omega
    · omega
    · omega
    · omega
    · obtain ⟨rfl, rfl, tR2, rfl⟩ := z; rw [← hx.eq hk] at tR2; exact t1_v.trans (tR.eq tR2)
    · omega
    · omega
    · omega
    · omega
theorem tn_6 (hC : sC W nt c r) (fs : l2_fr sn_W c s) (L : ls_R (s.1 846 7) (s.1 846 8) S) (he : e < 6002) (D : le_D c e 6 X hm sp ex) (hf : f < nt 3) (f40 : f < 40) (hm' : hm = nI f) (hsp : sp < 400) : ∃ x, f_X3_settleName (nI e) s = some x ∧ lT_O nt c r m 6 X hm sp ex q S s x := by
  have C' := hC.fr fs
  obtain ⟨⟨d1, d2, d3⟩, h9, h0, h1, h2, h3⟩ := D.fr fs
  obtain ⟨g8, g7, g9, gE⟩ := sn_c fs
  have hx : kx_R nt c 6 hm (c.1 438 f) := Or.inl ⟨f, hf, f40, hm', rfl⟩
  obtain ⟨v, tR, e1, o⟩ := lo_6 (q := q) C' L d2 he h9 h0 h2 (h1.trans hm') hf f40 hsp
  rw [g8] at tR o
  refine ⟨_, e1, o.to (fun b i y => Or.inl ⟨v, Or.inr (Or.inr (Or.inr (Or.inr (Or.inr (Or.inr ⟨_, v, hx, Or.inr (Or.inl ⟨rfl, y.1, y.2, tR, rfl⟩)⟩)))))⟩) ⟨fun y => Or.inr (Or.inr (Or.inr (Or.inr (Or.inr (Or.inr ⟨_, hx, Or.inr (Or.inl ⟨Or.inl rfl, y⟩)⟩))))), fun y => ?_⟩ ⟨fun y => y.elim, fun y => by rcases y.1 with y | y | y <;> omega⟩ (fun b i v' h => ?_)⟩
  · rcases y with ⟨y, z⟩ | ⟨y, z⟩ | ⟨y, z⟩ | ⟨y, z⟩ | ⟨y, z⟩ | ⟨y, z⟩ | ⟨kc1, hk, ⟨y, z⟩ | ⟨y, z⟩ | ⟨y, z⟩ | ⟨y, z⟩⟩
    · omega
    · omega
    · omega
    · omega
    · omega
    · omega
    · omega
    · rw [hx.eq hk]; exact z
    · omega
    · omega
  · rcases h with ⟨y, z⟩ | ⟨y, z⟩ | ⟨y, z⟩ | ⟨y, z⟩ | ⟨y, z⟩ | ⟨y, z⟩ | ⟨kc1, w1, hk, ⟨y, z⟩ | ⟨y, z⟩ | ⟨y, z⟩ | ⟨y, z⟩ | ⟨y, z⟩⟩
    · omega
    · omega
    · omega
    · omega
    · omega
    · omega
    · omega
    · obtain ⟨rfl, rfl, tR2, rfl⟩ := z; rw [← hx.eq hk] at tR2; exact t1_v.trans (tR.eq tR2)
    · omega
    · omega
    · omega
theorem tn_7 (hC : sC W nt c r) (fs : l2_fr sn_W c s) (L : ls_R (s.1 846 7) (s.1 846 8) S) (he : e < 6002) (D : le_D c e 7 X hm sp ex) (hx : kx_R nt c 7 hm kc) : ∃ x, f_X3_settleName (nI e) s = some x ∧ lT_O nt c r m 7 X hm sp ex q S s x := by
  have C' := hC.fr fs
  obtain ⟨⟨d1, d2, d3⟩, h9, h0, h1, h2, h3⟩ := D.fr fs
  obtain ⟨g8, g7, g9, gE⟩ := sn_c fs
  have key : ∃ v, of_R 973 974 4 r kc X v ∧ f_X3_settleName (nI e) s = some (ok_b v, t_setI s 336 sp v) ∧ sL_O (fun b j => b = 336 ∧ j = sp) (no_R 973 974 4 r kc X) False q S s (ok_b v, t_setI s 336 sp v) := by
    rcases id hx with ⟨f, f1, f2, f3, rfl⟩ | ⟨k, k1, k2, k3, k4⟩ | ⟨k1, rfl⟩
    · have g := lo_7 (q := q) C' L d2 he h9 h0 h2 (h1.trans f3) f1 f2 d3
      rw [g8] at g
      exact g
    · obtain ⟨_, _, _, n4, n5⟩ := hm_no k2 (f := 0) (by decide)
      have g := lo_7c (q := q) C' L d2 he h9 h0 h2 h1 (by rw [k3]; exact n4) (by rw [k3, n5]; exact Or.inr ⟨k, k1, rfl⟩) d3
      rw [k3, n5] at g
      rw [k4, if_pos rfl]
      exact g
    · have g := lo_7c (q := q) C' L d2 he h9 h0 h2 h1 (by rw [k1]; decide) (by rw [k1]; exact Or.inl rfl) d3
      rw [k1] at g
      exact g
  obtain ⟨v, tR, e1, o⟩ := key
  refine ⟨_, e1, o.to (fun b i y => Or.inl ⟨v, Or.inr (Or.inr (Or.inr (Or.inr (Or.inr (Or.inr ⟨_, v, hx, Or.inr (Or.inr (Or.inl ⟨rfl, y.1, y.2, tR, rfl⟩))⟩)))))⟩) ⟨fun y => Or.inr (Or.inr (Or.inr (Or.inr (Or.inr (Or.inr ⟨_, hx, Or.inr (Or.inl ⟨Or.inr rfl, y⟩)⟩))))), fun y => ?_⟩ ⟨fun y => y.elim, fun y => by rcases y.1 with y | y | y <;> omega⟩ (fun b i v' h => ?_)⟩
  · rcases y with ⟨y, z⟩ | ⟨y, z⟩ | ⟨y, z⟩ | ⟨y, z⟩ | ⟨y, z⟩ | ⟨y, z⟩ | ⟨kc1, hk, ⟨y, z⟩ | ⟨y, z⟩ | ⟨y, z⟩ | ⟨y, z⟩⟩
    · omega
    · omega
    · omega
    · omega
    · omega
    · omega
    · omega
    · rw [hx.eq hk]; exact z
    · omega
    · omega
  · rcases h with ⟨y, z⟩ | ⟨y, z⟩ | ⟨y, z⟩ | ⟨y, z⟩ | ⟨y, z⟩ | ⟨y, z⟩ | ⟨kc1, w1, hk, ⟨y, z⟩ | ⟨y, z⟩ | ⟨y, z⟩ | ⟨y, z⟩ | ⟨y, z⟩⟩
    · omega
    · omega
    · omega
    · omega
    · omega
    · omega
    · omega
    · omega
    · obtain ⟨rfl, rfl, tR2, rfl⟩ := z; rw [← hx.eq hk] at tR2; exact t1_v.trans (tR.eq tR2)
    · omega
    · omega
theorem tn_14 (hC : sC W nt c r) (fs : l2_fr sn_W c s) (L : ls_R (s.1 846 7) (s.1 846 8) S) (he : e < 6002) (D : le_D c e 14 X hm sp ex) (hf : f < nt 3) (f40 : f < 40) (hm' : hm = nI f) (hsp : sp < 400) : ∃ x, f_X3_settleName (nI e) s = some x ∧ lT_O nt c r m 14 X hm sp ex q S s x := by
  have C' := hC.fr fs
  obtain ⟨⟨d1, d2, d3⟩, h9, h0, h1, h2, h3⟩ := D.fr fs
  obtain ⟨g8, g7, g9, gE⟩ := sn_c fs
  have hx : kx_R nt c 14 hm (c.1 438 f) := Or.inl ⟨f, hf, f40, hm', rfl⟩
  obtain ⟨v, w, tR, ev, e1, o⟩ := lo_14 (q := q) C' L d2 he h9 h0 h2 (h1.trans hm') hf f40 hsp
  rw [g8] at tR o
  refine ⟨_, e1, o.to (fun b i y => Or.inl ⟨v, Or.inr (Or.inr (Or.inr (Or.inr (Or.inr (Or.inr ⟨_, w, hx, Or.inr (Or.inr (Or.inr (Or.inr ⟨rfl, y.1, y.2, tR, ev⟩)))⟩)))))⟩) ⟨fun y => Or.inr (Or.inr (Or.inr (Or.inr (Or.inr (Or.inr ⟨_, hx, Or.inr (Or.inr (Or.inr ⟨rfl, y⟩))⟩))))), fun y => ?_⟩ ⟨fun y => y.elim, fun y => by rcases y.1 with y | y | y <;> omega⟩ (fun b i v' h => ?_)⟩
  · rcases y with ⟨y, z⟩ | ⟨y, z⟩ | ⟨y, z⟩ | ⟨y, z⟩ | ⟨y, z⟩ | ⟨y, z⟩ | ⟨kc1, hk, ⟨y, z⟩ | ⟨y, z⟩ | ⟨y, z⟩ | ⟨y, z⟩⟩
    · omega
    · omega
    · omega
    · omega
    · omega
    · omega
    · omega
    · omega
    · omega
    · rw [hx.eq hk]; exact z
  · rcases h with ⟨y, z⟩ | ⟨y, z⟩ | ⟨y, z⟩ | ⟨y, z⟩ | ⟨y, z⟩ | ⟨y, z⟩ | ⟨kc1, w1, hk, ⟨y, z⟩ | ⟨y, z⟩ | ⟨y, z⟩ | ⟨y, z⟩ | ⟨y, z⟩⟩
    · omega
    · omega
    · omega
    · omega
    · omega
    · omega
    · omega
    · omega
    · omega
    · omega
    · obtain ⟨rfl, rfl, tR2, rfl⟩ := z; rw [← hx.eq hk] at tR2; rw [← tR.eq tR2]; exact t1_v.trans ev
theorem tn_13 (hC : sC W nt c r) (fs : l2_fr sn_W c s) (L : ls_R (s.1 846 7) (s.1 846 8) S) (he : e < 6002) (D : le_D c e 13 X hm sp ex) (hW : 66 + X < W) (hsp : sp < 6100) (hE : c.1 7 (66 + X) = 0 ↔ ¬ ew_W m r X) : ∃ x, f_X3_settleName (nI e) s = some x ∧ lT_O nt c r m 13 X hm sp ex q S s x := by
  have C' := hC.fr fs
  obtain ⟨⟨d1, d2, d3⟩, h9, h0, h1, h2, h3⟩ := D.fr fs
  obtain ⟨g8, g7, g9, gE⟩ := sn_c fs
  obtain ⟨x, e1, o, hx⟩ := lo_13 (q := q) C' L d2 hW he h9 h0 h2 hsp
  rw [gE] at o
  have hu : (un_R nt r 1 X ∧ c.1 7 (66 + X) = 0) ↔ lu_R nt c r m 13 X hm := by
    refine ⟨fun y => Or.inr (Or.inr (Or.inr (Or.inr (Or.inr (Or.inl ⟨rfl, y.1, hE.mp y.2⟩))))), fun y => ?_⟩
    rcases y with ⟨y, z⟩ | ⟨y, z⟩ | ⟨y, z⟩ | ⟨y, z⟩ | ⟨y, z⟩ | ⟨y, z⟩ | ⟨kc1, hk, ⟨y, z⟩ | ⟨y, z⟩ | ⟨y, z⟩ | ⟨y, z⟩⟩
    · omega
    · omega
    · omega
    · omega
    · omega
    · exact ⟨z.1, hE.mpr z.2⟩
    · omega
    · omega
    · omega
    · omega
  rcases hx with ⟨u, rfl⟩ | ⟨w, tR, u, rfl⟩
  · obtain ⟨o1, o2, o3, o4⟩ := o
    refine ⟨_, e1, ⟨o1, o2.trans hu, l2_fr.rf, o4.iff (fun a b => or_congr Iff.rfl (and_congr Iff.rfl (and_congr Iff.rfl ⟨fun y => y.elim, fun y => by rcases y.1 with y | y | y <;> omega⟩)))⟩, fun b i v' h => ?_⟩
    rcases h with ⟨y, z⟩ | ⟨y, z⟩ | ⟨y, z⟩ | ⟨y, z⟩ | ⟨y, z⟩ | ⟨y, z⟩ | ⟨kc1, w1, hk, ⟨y, z⟩ | ⟨y, z⟩ | ⟨y, z⟩ | ⟨y, z⟩ | ⟨y, z⟩⟩
    · omega
    · omega
    · omega
    · omega
    · omega
    · obtain ⟨_, _, _, n, _⟩ := z; exact absurd u n
    · omega
    · omega
    · omega
    · omega
    · omega
  · refine ⟨_, e1, o.to (fun b i y => Or.inl ?_) hu ⟨fun y => y.elim, fun y => by rcases y.1 with y | y | y <;> omega⟩ (fun b i v' h => ?_)⟩
    · rcases y with y | y
      · exact ⟨7, Or.inr (Or.inr (Or.inr (Or.inr (Or.inr (Or.inl ⟨rfl, y.2, w, tR, u, Or.inl ⟨y.1, rfl⟩⟩)))))⟩
      · exact ⟨w, Or.inr (Or.inr (Or.inr (Or.inr (Or.inr (Or.inl ⟨rfl, y.2, w, tR, u, Or.inr ⟨y.1, rfl⟩⟩)))))⟩
    · rcases h with ⟨y, z⟩ | ⟨y, z⟩ | ⟨y, z⟩ | ⟨y, z⟩ | ⟨y, z⟩ | ⟨y, z⟩ | ⟨kc1, w1, hk, ⟨y, z⟩ | ⟨y, z⟩ | ⟨y, z⟩ | ⟨y, z⟩ | ⟨y, z⟩⟩
      · omega
      · omega
      · omega
      · omega
      · omega
      · obtain ⟨rfl, w2, tR2, _, ⟨rfl, rfl⟩ | ⟨rfl, rfl⟩⟩ := z
        · exact t2_v (by decide)
        · exact t1_v.trans (tR.eq tR2)
      · omega
      · omega
      · omega
      · omega
      · omega
theorem tn_12 (hC : sC W nt c r) (fs : l2_fr sn_W c s) (L : ls_R (s.1 846 7) (s.1 846 8) S) (he : e < 6002) (D : le_D c e 12 X hm sp ex) (hx0 : kx_R nt c 12 hm kc) (hE : c.1 7 (66 + X) = 0 ↔ ¬ ew_W m r X) : ∃ x, f_X3_settleName (nI e) s = some x ∧ lT_O nt c r m 12 X hm sp ex q S s x := by
  have C' := hC.fr fs
  obtain ⟨⟨d1, d2, d3⟩, h9, h0, h1, h2, h3⟩ := D.fr fs
  obtain ⟨g8, g7, g9, gE⟩ := sn_c fs
  have key : ∃ x, f_X3_settleName (nI e) s = some x ∧ sL_O (fun b j => (b = 335 ∧ j = sp) ∨ (b = 336 ∧ j = sp)) (no_R 975 979 8 r kc X ∧ s.1 7 (66 + X) = 0) False q S s x ∧ ((no_R 975 979 8 r kc X ∧ x.2 = s) ∨ ∃ v, of_R 975 979 8 r kc X v ∧ ¬ v < 0 ∧ ¬ no_R 975 979 8 r kc X ∧ x = (1, t_setI (t_setI s 335 sp 4) 336 sp v)) := by
    rcases id hx0 with ⟨f, f1, f2, f3, rfl⟩ | ⟨k, k1, k2, k3, k4⟩ | ⟨k1, rfl⟩
    · rw [sn_unit (so := 12) (by decide) he h9 h0 h2 f2 (h1.trans f3), g8]
      exact so_12w (q := q) C' L d2 (hC.2.1 f f1).own d3
    · obtain ⟨_, _, _, n4, n5⟩ := hm_no k2 (f := 0) (by decide)
      rw [if_neg (by decide)] at k4
      subst k4
      rw [sn_comp (so := 12) (by decide) he h9 h0 h2 h1 (by rw [k3]; exact n4)]
      exact so_12w (q := q) C' L d2 (Or.inl rfl) d3
    · rw [sn_comp (so := 12) (by decide) he h9 h0 h2 h1 (by rw [k1]; decide)]
      exact so_12w (q := q) C' L d2 (Or.inl rfl) d3
  obtain ⟨x, e1, o, hx⟩ := key
  rw [gE] at o
  have hu : (no_R 975 979 8 r kc X ∧ c.1 7 (66 + X) = 0) ↔ lu_R nt c r m 12 X hm := by
    refine ⟨fun y => Or.inr (Or.inr (Or.inr (Or.inr (Or.inr (Or.inr ⟨_, hx0, Or.inr (Or.inr (Or.inl ⟨rfl, y.1, hE.mp y.2⟩))⟩))))), fun y => ?_⟩
    rcases y with ⟨y, z⟩ | ⟨y, z⟩ | ⟨y, z⟩ | ⟨y, z⟩ | ⟨y, z⟩ | ⟨y, z⟩ | ⟨kc1, hk, ⟨y, z⟩ | ⟨y, z⟩ | ⟨y, z⟩ | ⟨y, z⟩⟩
    · omega
    · omega
    · omega
    · omega
    · omega
    · omega
    · omega
    · omega
    · rw [hx0.eq hk]; exact ⟨z.1, hE.mpr z.2⟩
    · omega
  rcases hx with ⟨u, rfl⟩ | ⟨w, tR, _, u, rfl⟩
  · obtain ⟨o1, o2, o3, o4⟩ := o
    refine ⟨_, e1, ⟨o1, o2.trans hu, l2_fr.rf, o4.iff (fun a b => or_congr Iff.rfl (and_congr Iff.rfl (and_congr Iff.rfl ⟨fun y => y.elim, fun y => by rcases y.1 with y | y | y <;> omega⟩)))⟩, fun b i v' h => ?_⟩
    rcases h with ⟨y, z⟩ | ⟨y, z⟩ | ⟨y, z⟩ | ⟨y, z⟩ | ⟨y, z⟩ | ⟨y, z⟩ | ⟨kc1, w1, hk, ⟨y, z⟩ | ⟨y, z⟩ | ⟨y, z⟩ | ⟨y, z⟩ | ⟨y, z⟩⟩
    · omega
    · omega
    · omega
    · omega
    · omega
    · omega
    · omega
    · omega
    · omega
    · obtain ⟨_, _, n, _⟩ := z; rw [← hx0.eq hk] at n; exact absurd u n
    · omega
  · refine ⟨_, e1, o.to (fun b i y => Or.inl ?_) hu ⟨fun y => y.elim, fun y => by rcases y.1 with y | y | y <;> omega⟩ (fun b i v' h => ?_)⟩
    · rcases y with y | y
      · exact ⟨4, Or.inr (Or.inr (Or.inr (Or.inr (Or.inr (Or.inr ⟨_, w, hx0, Or.inr (Or.inr (Or.inr (Or.inl ⟨rfl, y.2, tR, u, Or.inl ⟨y.1, rfl⟩⟩)))⟩)))))⟩
      · exact ⟨w, Or.inr (Or.inr (Or.inr (Or.inr (Or.inr (Or.inr ⟨_, w, hx0, Or.inr (Or.inr (Or.inr (Or.inl ⟨rfl, y.2, tR, u, Or.inr ⟨y.1, rfl⟩⟩)))⟩)))))⟩
    · rcases h with ⟨y, z⟩ | ⟨y, z⟩ | ⟨y, z⟩ | ⟨y, z⟩ | ⟨y, z⟩ | ⟨y, z⟩ | ⟨kc1, w1, hk, ⟨y, z⟩ | ⟨y, z⟩ | ⟨y, z⟩ | ⟨y, z⟩ | ⟨y, z⟩⟩
      · omega
      · omega
      · omega
      · omega
      · omega
      · omega
      · omega
      · omega
      · omega
      · obtain ⟨rfl, tR2, _, ⟨rfl, rfl⟩ | ⟨rfl, rfl⟩⟩ := z
        · exact t2_v (by decide)
        · rw [← hx0.eq hk] at tR2; exact t1_v.trans (tR.eq tR2)
      · omega
theorem tn_9 (hC : sC W nt c r) (fs : l2_fr sn_W c s) (L : ls_R (s.1 846 7) (s.1 846 8) S) (he : e < 6002) (D : le_D c e so X hm sp ex) (hs : so = 9 ∨ so = 10 ∨ so = 11) (hW : 66 + X < W) (f40 : f < 40) (hm' : hm = nI f) (hsp : sp < 400) (hna : ∃ na : Nat, ex = nI na) (h8 : c.1 848 e = q) : ∃ x, f_X3_settleName (nI e) s = some x ∧ lT_O nt c r m so X hm sp ex q S s x := by
  have no : ∀ z : Nat, z ≠ 9 ∧ z ≠ 10 ∧ z ≠ 11 → so ≠ z := fun z hz y => by rcases hs with q | q | q <;> rw [q] at y <;> omega
  have no3 : ¬ so < 3 := by rcases hs with q | q | q <;> rw [q] <;> decide
  have C' := hC.fr fs
  obtain ⟨⟨d1, d2, d3⟩, h9, h0, h1, h2, h3⟩ := D.fr fs
  obtain ⟨g8, g7, g9, gE⟩ := sn_c fs
  obtain ⟨x, e1, O⟩ := sn_call C'.1 L d2 hW he hs h9 h0 (h1.trans hm') f40 h2 hsp h3 (((fs 848 e (by unfold sn_W lf_W; omega)).1).trans h8)
  obtain ⟨na, rfl⟩ := hna
  have n40 : nt 3 ≤ 40 := (hC.1.1 3 (by decide)).1
  obtain ⟨v, tR, o1, o2, o3, o4, o5⟩ := O.set n40 hsp L
  have ck : ∀ g, cK s so f g ↔ cK c so f g := fun g => by
    unfold cK
    rw [g7, g8, g8]
  have hU : (∃ g, g < nt 3 ∧ v = nI g ∧ cK s so f g) ↔ ∃ g, g < nt 3 ∧ v = nI g ∧ cK c so f g := ⟨fun ⟨g, a1, a2, a3⟩ => ⟨g, a1, a2, (ck g).mp a3⟩, fun ⟨g, a1, a2, a3⟩ => ⟨g, a1, a2, (ck g).mpr a3⟩⟩
  have hu : (¬ ∃ g, g < nt 3 ∧ v = nI g ∧ cK s so f g) ↔ lu_R nt c r m so X hm := by
    refine ⟨fun y => Or.inr (Or.inr (Or.inr (Or.inr (Or.inl ⟨hs, f, v, hm', f40, tR, fun z => y (hU.mpr z)⟩)))), fun y => ?_⟩
    rcases y with ⟨y, z⟩ | ⟨y, z⟩ | ⟨y, z⟩ | ⟨y, z⟩ | ⟨y, z⟩ | ⟨y, z⟩ | ⟨kc1, hk, ⟨y, z⟩ | ⟨y, z⟩ | ⟨y, z⟩ | ⟨y, z⟩⟩
    · exact absurd y no3
    · exact absurd y (no 3 (by decide))
    · exact absurd y (no 4 (by decide))
    · exact absurd y (no 8 (by decide))
    · obtain ⟨f', v', a1, a2, a3, a4⟩ := z
      have e : f' = f := (nI_eq (by omega) (by omega)).mp (a1.symm.trans hm')
      subst e
      rw [tR.eq a3]
      exact fun w => a4 (by rw [tR.eq a3] at hU; exact hU.mp w)
    · exact absurd y (no 13 (by decide))
    · exact absurd y (no 5 (by decide))
    · exact y.elim (fun q => absurd q (no 6 (by decide))) (fun q => absurd q (no 7 (by decide)))
    · exact absurd y (no 12 (by decide))
    · exact absurd y (no 14 (by decide))
  have hv : cl_S s so f na v (nt 3) 6 ↔ lq_R nt c r so X hm (nI na) := by
    constructor
    · rintro (⟨y, _⟩ | ⟨_, g, a1, a2, a3, a4⟩)
      · omega
      · exact ⟨hs, f, v, g, hm', f40, tR, a1, a2, (ck g).mp a3, by rw [← g9]; exact a4⟩
    · rintro ⟨_, f', v', g, a0, a0', a1, a2, a3, a4, a5⟩
      have e : f' = f := (nI_eq (by omega) (by omega)).mp (a0.symm.trans hm')
      subst e
      exact Or.inr ⟨rfl, g, a2, (tR.eq a1).trans a3, (ck g).mpr a4, by rw [g9]; exact a5⟩
  -- what it writes, if settled
  have on : x.1 = 1 → ∃ g, g < nt 3 ∧ v = nI g ∧ cK c so f g := fun y => hU.mp (Classical.byContradiction (fun n => by rw [o2.mpr n] at y; exact absurd y (by decide)))
  have val : ∀ b i v', lw_R nt c r so X hm sp b i v' → x.2.1 b i = v' := fun b i v' h => by
    rcases h with ⟨y, z⟩ | ⟨y, z⟩ | ⟨y, z⟩ | ⟨y, z⟩ | ⟨y, z⟩ | ⟨y, z⟩ | ⟨kc1, w1, hk, ⟨y, z⟩ | ⟨y, z⟩ | ⟨y, z⟩ | ⟨y, z⟩ | ⟨y, z⟩⟩
    · exact absurd y (no 0 (by decide))
    · exact absurd y (no 1 (by decide))
    · exact absurd y (no 2 (by decide))
    · exact absurd y (no 4 (by decide))
    · obtain ⟨rfl, rfl, f', g, a0, a0', a1, a2, a3, a4⟩ := z
      have e : f' = f := (nI_eq (by omega) (by omega)).mp (a0.symm.trans hm')
      subst e
      have x1 : x.1 = 1 := o1.resolve_left (fun y => o2.mp y (hU.mpr ⟨g, a2, (tR.eq a1).trans a3, a4⟩))
      exact (o5 x1).trans (tR.eq a1)
    · exact absurd y (no 13 (by decide))
    · exact absurd y (no 5 (by decide))
    · exact absurd y (no 6 (by decide))
    · exact absurd y (no 7 (by decide))
    · exact absurd y (no 12 (by decide))
    · exact absurd y (no 14 (by decide))
  refine ⟨x, e1, ⟨o1, o2.trans hu, ?_, o4.iff (fun a b => or_congr Iff.rfl (and_congr Iff.rfl (and_congr Iff.rfl hv)))⟩, val⟩
  rcases o1 with y | y
  · -- nothing but a late fault could be written: nor is that
    obtain ⟨v2, tR2, O2⟩ := O
    rcases O2 with ⟨_, rfl⟩ | ⟨g, _, _, ⟨_, rfl⟩ | ⟨_, _, rfl⟩ | ⟨_, _, s1, rfl, _, _⟩⟩
    · exact l2_fr.rf
    · exact l2_fr.rf
    · exact absurd (show (1 : Int32) = 0 from y) (by decide)
    · exact absurd (show (1 : Int32) = 0 from y) (by decide)
  · obtain ⟨g, a1, a2, a3⟩ := on y
    exact o3.mono (fun b i z => z.elim Or.inr (fun z => Or.inl ⟨v, Or.inr (Or.inr (Or.inr (Or.inr (Or.inl ⟨hs, z.1, z.2, f, g, hm', f40, tR, a1, a2, a3⟩))))⟩))
end
