/-! Level 2: names settled: all links; what they have written. -/
def lU (nt : Nat → Nat) (s r : t_S) (m e : Nat) : Prop := ∃ so X hm sp ex, le_D s e so X hm sp ex ∧ lu_R nt s r m so X hm
def lV (nt : Nat → Nat) (s r : t_S) (e : Nat) : Prop := ∃ so X hm sp ex, le_D s e so X hm sp ex ∧ lq_R nt s r so X hm ex
def lW (nt : Nat → Nat) (s r : t_S) (e b i : Nat) (v : Int32) : Prop := ∃ so X hm sp ex, le_D s e so X hm sp ex ∧ lw_R nt s r so X hm sp b i v
section
variable {W a t e p l sg m st x y n2 n3 ln f td so X sp b i j : Nat} {nt : Nat → Nat} {hm ex v v' : Int32} {s r : t_S} {S : Nat → Int32 → Prop}
/-- where a link writes -/
def lw_C (so sp b i : Nat) : Prop := (so = 0 ∧ b = 321 ∧ i = sp) ∨ (so = 1 ∧ b = 443 ∧ i = sp) ∨ (so = 2 ∧ b = 435 ∧ i = sp) ∨ ((so = 4 ∨ so = 5 ∨ so = 6 ∨ so = 9 ∨ so = 10 ∨ so = 11) ∧ b = 445 + sp ∧ i = 6) ∨ (so = 13 ∧ (b = 354 ∨ b = 357) ∧ i = sp) ∨ ((so = 7 ∨ so = 12) ∧ (b = 335 ∨ b = 336) ∧ i = sp) ∨ (so = 14 ∧ b = 445 + sp ∧ i = 7)
theorem lw_R.at (h : lw_R nt s r so X hm sp b i v) : lw_C so sp b i := by
  unfold lw_C
  rcases h with ⟨y, z1, z2, _⟩ | ⟨y, z1, z2, _⟩ | ⟨y, z1, z2, _⟩ | ⟨y, z1, z2, _⟩ | ⟨y, z1, z2, _⟩ | ⟨y, z1, w, _, _, z2⟩ | ⟨kc1, w1, hk, ⟨y, z1, z2, _⟩ | ⟨y, z1, z2, _⟩ | ⟨y, z1, z2, _⟩ | ⟨y, z1, _, _, z2⟩ | ⟨y, z1, z2, _⟩⟩
  · exact Or.inl ⟨y, z1, z2⟩
  · exact Or.inr (Or.inl ⟨y, z1, z2⟩)
  · exact Or.inr (Or.inr (Or.inl ⟨y, z1, z2⟩))
  · exact Or.inr (Or.inr (Or.inr (Or.inl ⟨Or.inl y, z1, z2⟩)))
  · exact Or.inr (Or.inr (Or.inr (Or.inl ⟨by omega, z1, z2⟩)))
  · exact Or.inr (Or.inr (Or.inr (Or.inr (Or.inl ⟨y, z2.imp (fun q => q.1) (fun q => q.1), z1⟩))))
  · exact Or.inr (Or.inr (Or.inr (Or.inl ⟨by omega, z1, z2⟩)))
  · exact Or.inr (Or.inr (Or.inr (Or.inl ⟨by omega, z1, z2⟩)))
  · exact Or.inr (Or.inr (Or.inr (Or.inr (Or.inr (Or.inl ⟨Or.inl y, Or.inr z1, z2⟩)))))
  · exact Or.inr (Or.inr (Or.inr (Or.inr (Or.inr (Or.inl ⟨Or.inr y, z2.imp (fun q => q.1) (fun q => q.1), z1⟩)))))
  · exact Or.inr (Or.inr (Or.inr (Or.inr (Or.inr (Or.inr ⟨y, z1, z2⟩)))))
/-- one link writes one value to a cell -/
theorem lw_R.eq (h : lw_R nt s r so X hm sp b i v) (g : lw_R nt s r so X hm sp b i v') : v = v' := by
  rcases h with ⟨y, _, _, z⟩ | ⟨y, _, _, z⟩ | ⟨y, _, _, z⟩ | ⟨y, _, _, z⟩ | ⟨y, _, _, f, g', _, _, z, _⟩ | ⟨y, _, w, z, _, z2⟩ | ⟨kc1, w1, hk, ⟨y, _, _, z, z2⟩ | ⟨y, _, _, z, z2⟩ | ⟨y, _, _, z, z2⟩ | ⟨y, _, z, _, z2⟩ | ⟨y, _, _, z, z2⟩⟩
  all_goals rcases g with ⟨y', _, _, q⟩ | ⟨y', _, _, q⟩ | ⟨y', _, _, q⟩ | ⟨y', _, _, q⟩ | ⟨y', _, _, f2, g2', _, _, q, _⟩ | ⟨y', _, w2, q, _, q2⟩ | ⟨kc2, w2, hk2, ⟨y', _, _, q, q2⟩ | ⟨y', _, _, q, q2⟩ | ⟨y', _, _, q, q2⟩ | ⟨y', _, q, _, q2⟩ | ⟨y', _, _, q, q2⟩⟩
  all_goals first
    | (exfalso; omega)
    | exact z.eq q
    | skip
  · rcases z2 with ⟨c1, c2⟩ | ⟨c1, c2⟩
    · rcases q2 with ⟨d1, d2⟩ | ⟨d1, d2⟩
      · rw [c2, d2]
      · omega
    · rcases q2 with ⟨d1, d2⟩ | ⟨d1, d2⟩
      · omega
      · rw [c2, d2]
        exact z.eq q
  · rw [← hk.eq hk2] at q
    rw [z2, q2]
    exact z.eq q
  · rw [← hk.eq hk2] at q
    rw [z2, q2]
    exact z.eq q
  · rw [← hk.eq hk2] at q
    rw [z2, q2]
    exact z.eq q
  · rw [← hk.eq hk2] at q
    rcases z2 with ⟨c1, c2⟩ | ⟨c1, c2⟩
    · rcases q2 with ⟨d1, d2⟩ | ⟨d1, d2⟩
      · rw [c2, d2]
      · omega
    · rcases q2 with ⟨d1, d2⟩ | ⟨d1, d2⟩
      · omega
      · rw [c2, d2]
        exact z.eq q
  · rw [← hk.eq hk2] at q
    rw [z2, q2, z.eq q]
/-- spots in order: one link each -/
theorem sa_one {K : Int32 → Prop} {L n b : Int} (h : sa_1 K L n b s) (hn : n ≤ L) (h6 : s.1 846 6 = nI l) (l6 : l ≤ 6000) (hx : x < l) (hy : y < l) (k1 : K (s.1 849 x)) (k2 : K (s.1 849 y)) (e : s.1 852 x = s.1 852 y) : x = y := by
  have g : ∀ z, z < l → (z : Int) < (s.1 846 6).toInt := fun z hz => by rw [h6, nI_toInt (by omega)]; omega
  rcases Nat.lt_trichotomy x y with q | q | q
  · have := ((h y (g y hy) k2).2.2 hn).2 x q k1
    rw [e] at this
    omega
  · exact q
  · have := ((h x (g x hx) k1).2.2 hn).2 y q k2
    rw [e] at this
    omega
theorem sQ.home (Q : sQ W nt a t e p l sg m st s r) (hx : x < l) (D : le_D s x so X hm sp ex) (hs : so = 1 ∨ so = 4 ∨ so = 5 ∨ so = 6 ∨ so = 9 ∨ so = 10 ∨ so = 11 ∨ so = 14) : ∃ ln, ln < st ∧ sl_B s r ln x ∧ (so ≠ 1 → sp = ln) := by
  have no : ∀ z : Nat, z < 20 → s.1 849 x = nI z → so = z := fun z hz y => (nI_eq (by have := D.1.1; omega) (by omega)).mp (D.2.1.symm.trans y)
  rcases Q.2.1 x hx with ⟨k, k1, k2, k3, X', hX, y9, _⟩ | ⟨E, k, hmE, k1, k2, h, _⟩ | ⟨k, i, cnt, X', pl, _, _, _, _, _, _, _, y9, _⟩ | ⟨f, X', pl, _, _, _, _, y9, _⟩ | ⟨ln, _, l2, h⟩
  · have := no 0 (by decide) y9
    omega
  · rcases h with ⟨_, X', _, y9, _⟩ | ⟨_, ⟨X', _, y9, _⟩, _⟩ | ⟨_, ⟨X', _, y9, _⟩, _⟩
    · have := no 13 (by decide) y9
      omega
    · have := no 12 (by decide) y9
      omega
    · have := no 7 (by decide) y9
      omega
  · have := no 2 (by decide) y9.1
    omega
  · have := no 3 (by decide) y9.1
    omega
  · refine ⟨ln, l2, h, fun n1 => ?_⟩
    obtain ⟨so2, X2, pl, f, sp2, ex2, s20, hX, hpl, f40, f3, ⟨y9, y0, y8, y1, y2, y3⟩, cs⟩ := Q.line l2 h hx
    have st4 : st ≤ 400 := Q.2.2.2.2.2.2.1.2.2.2.2.2.2.2.2.2.2
    have D2 : le_D s x so2 X2 (nI f) sp2 ex2 := ⟨⟨s20, hX, by omega⟩, y9, y0, y1, y2, y3⟩
    obtain ⟨u1, _, _, u4, _⟩ := D.un D2
    rcases cs with ⟨c1, _⟩ | ⟨_, c3⟩ | ⟨_, c3, _⟩ <;> omega
/-- two links of one line on one side -/
theorem sl_two {z x' : Nat} (h : sl_B s r ln x) (g : sl_B s r ln z) (c : (∃ v w : Nat, v ≠ 1 ∧ w ≠ 1 ∧ v ≠ 8 ∧ w ≠ 8 ∧ v < 20 ∧ w < 20 ∧ (v = 14 ↔ w = 14) ∧ s.1 849 x = nI v ∧ s.1 849 z = nI w)) (hx' : x' = 0) : s.1 849 x = s.1 849 z ∧ s.1 850 x = s.1 850 z ∧ s.1 851 x = s.1 851 z := by
  obtain ⟨K, V, so, side, X, pl, f, spot, ex, x1, x2, x3, x4, x5, x6, x7, x8, x9, x10, x11, x12, x13, x14⟩ := h
  obtain ⟨K', V', so', side', X', pl', f', spot', ex', y1, y2, y3, y4, y5, y6, y7, y8, y9, y10, y11, y12, y13, y14⟩ := g
  obtain ⟨v, w, v1, w1, v8, w8, v2, w2, vw, ev, ew⟩ := c
  have q1 : so = v := (nI_eq (by omega) (by omega)).mp (x11.1.symm.trans ev)
  have q2 : so' = w := (nI_eq (by omega) (by omega)).mp (y11.1.symm.trans ew)
  have eK : K = K' := (nI_eq (by omega) (by omega)).mp (x4.symm.trans y4)
  have eV : V = V' := sl_v_inj x2 y2 (x5.symm.trans y5)
  have ef : f = f' := (nI_eq (by omega) (by omega)).mp (x6.symm.trans y6)
  subst q1 q2 eK eV ef
  have es : so = so' ∧ side = side' := by
    unfold sl_ok at x10 y10
    rcases x10 with ⟨a1, a2⟩ | ⟨a1, a2⟩
    · rcases y10 with ⟨b1, b2⟩ | ⟨b1, b2⟩
      · omega
      · omega
    · rcases y10 with ⟨b1, b2⟩ | ⟨b1, b2⟩
      · omega
      · omega
  obtain ⟨rfl, rfl⟩ := es
  have eX : X = X' := (nI_eq (by omega) (by omega)).mp (x12.symm.trans y12)
  subst eX
  exact ⟨x11.1.trans y11.1.symm, x11.2.1.trans y11.2.1.symm, x11.2.2.2.1.trans y11.2.2.2.1.symm⟩
/-- two links write alike to one cell -/
theorem sQ.cons (Q : sQ W nt a t e p l sg m st s r) (hx : x < l) (hy : y < l) (h : lW nt s r x b i v) (g : lW nt s r y b i v') : v = v' := by
  obtain ⟨so, X, hm, sp, ex, D, hw⟩ := h
  obtain ⟨so', X', hm', sp', ex', D', gw⟩ := g
  obtain ⟨hC, hL, _, _, hS, hP, ⟨c6, l6, c8, a3, c9, t3, c2, e15, c0, m13, st4⟩, hW, hE, _⟩ := id Q
  have n40 : nt 3 ≤ 40 := (hC.1.1 3 (by decide)).1
  -- it is one link, or its words are the same
  have one : x = y → v = v' := fun z => by
    subst z
    obtain ⟨rfl, rfl, rfl, rfl, _⟩ := D.un D'
    exact hw.eq gw
  have alike : s.1 849 x = s.1 849 y → s.1 850 x = s.1 850 y → s.1 851 x = s.1 851 y → sp = sp' → v = v' := fun q1 q2 q3 q4 => by
    have r1 : so = so' := (nI_eq (by have := D.1.1; omega) (by have := D'.1.1; omega)).mp (D.2.1.symm.trans (q1.trans D'.2.1))
    have r2 : X = X' := by
      have := (nI_eq (by have := D.1.2.1; omega) (by have := D'.1.2.1; omega)).mp (D.2.2.1.symm.trans (q2.trans D'.2.2.1))
      omega
    have r3 : hm = hm' := D.2.2.2.1.symm.trans (q3.trans D'.2.2.2.1)
    subst r1 r2 r3 q4
    exact hw.eq gw
  have sps : sp = sp' → s.1 852 x = s.1 852 y := fun z => by rw [D.2.2.2.2.1, D'.2.2.2.2.1, z]
  have key : (so = 0 ∧ so' = 0 ∧ sp = sp') ∨ (so = 1 ∧ so' = 1 ∧ sp = sp') ∨ (so = 2 ∧ so' = 2 ∧ sp = sp') ∨ ((so = 4 ∨ so = 5 ∨ so = 6 ∨ so = 9 ∨ so = 10 ∨ so = 11) ∧ (so' = 4 ∨ so' = 5 ∨ so' = 6 ∨ so' = 9 ∨ so' = 10 ∨ so' = 11) ∧ sp = sp') ∨ (so = 13 ∧ so' = 13 ∧ sp = sp') ∨ ((so = 7 ∨ so = 12) ∧ (so' = 7 ∨ so' = 12) ∧ sp = sp') ∨ (so = 14 ∧ so' = 14 ∧ sp = sp') := by
    have c1 := hw.at
    have c2 := gw.at
    unfold lw_C at c1 c2
    rcases c1 with q | q | q | q | q | q | q
    · exact Or.inl (by omega)
    · exact Or.inr (Or.inl (by omega))
    · exact Or.inr (Or.inr (Or.inl (by omega)))
    · exact Or.inr (Or.inr (Or.inr (Or.inl ⟨q.1, by omega, by omega⟩)))
    · exact Or.inr (Or.inr (Or.inr (Or.inr (Or.inl (by omega)))))
    · exact Or.inr (Or.inr (Or.inr (Or.inr (Or.inr (Or.inl ⟨q.1, by omega, by omega⟩)))))
    · exact Or.inr (Or.inr (Or.inr (Or.inr (Or.inr (Or.inr (by omega))))))
  rcases key with ⟨k1, k2, k3⟩ | ⟨k1, k2, k3⟩ | ⟨k1, k2, k3⟩ | ⟨k1, k2, k3⟩ | ⟨k1, k2, k3⟩ | ⟨k1, k2, k3⟩ | ⟨k1, k2, k3⟩
  · subst k1 k2
    exact one (sa_one hS.2.1 (by rw [c8, nI_toInt (by omega)]; omega) c6 l6 hx hy D.2.1 D'.2.1 (sps k3))
  · subst k1 k2
    obtain ⟨f, f1, f2, _, f4, f5⟩ := hP x hx (Or.inr D.2.1)
    obtain ⟨f', g1, g2, _, g4, g5⟩ := hP y hy (Or.inr D'.2.1)
    have f4 := f4 D.2.1
    have g4 := g4 D'.2.1
    rw [sps k3] at f4
    have ef : f = f' := by omega
    subst ef
    refine one ?_
    rcases Nat.lt_trichotomy x y with q | q | q
    · have := (g5 x q f2).2 D'.2.1 D.2.1
      rw [sps k3] at this
      omega
    · exact q
    · have := (f5 y q g2).2 D.2.1 D'.2.1
      rw [sps k3] at this
      omega
  · subst k1 k2
    have go : ∀ z X hm sp ex, z < l → le_D s z 2 X hm sp ex → r.1 976 sp = nI X ∧ X < 7934 := fun z X hm sp ex hz D => by
      have no : ∀ q : Nat, q < 20 → q ≠ 2 → s.1 849 z ≠ nI q := fun q hq n y => n ((nI_eq (by omega) (by decide)).mp (y.symm.trans D.2.1))
      rcases hL z hz with ⟨k, k1, k2, k3, X', hX, y9, _⟩ | ⟨E, k, hmE, k1, k2, h, _⟩ | ⟨k, i, cnt, X', pl, x0, x1, x2, x3, x4, x5, x6, h, x8, _⟩ | ⟨f, X', pl, _, _, _, _, y9, _⟩ | ⟨ln, _, l2, K, V, so, side, X', pl, f, spot, ex, _, _, x3, _, _, _, _, _, _, x10, y9, _⟩
      · exact absurd y9 (no 0 (by decide) (by decide))
      · rcases h with ⟨_, X', _, y9, _⟩ | ⟨_, ⟨X', _, y9, _⟩, _⟩ | ⟨_, ⟨X', _, y9, _⟩, _⟩
        · exact absurd y9 (no 13 (by decide) (by decide))
        · exact absurd y9 (no 12 (by decide) (by decide))
        · exact absurd y9 (no 7 (by decide) (by decide))
      · have D2 : le_D s z 2 X' (-2 - nI k) (8 * k + i) 0 := ⟨⟨by decide, x5, by omega⟩, h.1, h.2.1, h.2.2.2.1, h.2.2.2.2.1, h.2.2.2.2.2⟩
        obtain ⟨_, u2, _, u4, _⟩ := D.un D2
        rw [u4, u2]
        exact ⟨x8, x5⟩
      · exact absurd y9.1 (no 3 (by decide) (by decide))
      · exact absurd y9.1 (no so (by omega) (by unfold sl_ok at x10; omega))
    obtain ⟨p1, p2⟩ := go x X hm sp ex hx D
    obtain ⟨q1, q2⟩ := go y X' hm' sp' ex' hy D'
    rw [← k3] at q1
    have eX : X = X' := (nI_eq (by omega) (by omega)).mp (p1.symm.trans q1)
    subst eX
    rcases hw with ⟨z, _⟩ | ⟨z, _⟩ | ⟨_, _, _, z1⟩ | ⟨z, _⟩ | ⟨z, _⟩ | ⟨z, _⟩ | ⟨_, _, _, ⟨z, _⟩ | ⟨z, _⟩ | ⟨z, _⟩ | ⟨z, _⟩ | ⟨z, _⟩⟩
    · omega
    · omega
    · rcases gw with ⟨z, _⟩ | ⟨z, _⟩ | ⟨_, _, _, z2⟩ | ⟨z, _⟩ | ⟨z, _⟩ | ⟨z, _⟩ | ⟨_, _, _, ⟨z, _⟩ | ⟨z, _⟩ | ⟨z, _⟩ | ⟨z, _⟩ | ⟨z, _⟩⟩
      · omega
      · omega
      · exact z1.eq z2
      · omega
      · omega
      · omega
      · omega
      · omega
      · omega
      · omega
      · omega
    · omega
    · omega
    · omega
    · omega
    · omega
    · omega
    · omega
    · omega
  · obtain ⟨ln, h1, h2, h3⟩ := Q.home hx D (by omega)
    obtain ⟨ln', g1, g2, g3⟩ := Q.home hy D' (by omega)
    have el : ln = ln' := by
      have := h3 (by omega)
      have := g3 (by omega)
      omega
    subst el
    obtain ⟨q1, q2, q3⟩ := sl_two h2 g2 ⟨so, so', by omega, by omega, by omega, by omega, D.1.1, D'.1.1, by omega, D.2.1, D'.2.1⟩ rfl
    exact alike q1 q2 q3 k3
  · subst k1 k2
    exact one (sa_one hS.2.2.1 (by rw [c9, nI_toInt (by omega)]; omega) c6 l6 hx hy D.2.1 D'.2.1 (sps k3))
  · have kk : ∀ {z q : Nat}, (q = 7 ∨ q = 12) → s.1 849 z = nI q → sk_7 (s.1 849 z) := fun {z q} a1 a2 => by
      rcases a1 with rfl | rfl
      · exact Or.inl a2
      · exact Or.inr a2
    exact one (sa_one hS.2.2.2 (by rw [c2, nI_toInt (by omega)]; omega) c6 l6 hx hy (kk k1 D.2.1) (kk k2 D'.2.1) (sps k3))
  · obtain ⟨ln, h1, h2, h3⟩ := Q.home hx D (by omega)
    obtain ⟨ln', g1, g2, g3⟩ := Q.home hy D' (by omega)
    have el : ln = ln' := by
      have := h3 (by omega)
      have := g3 (by omega)
      omega
    subst el
    obtain ⟨q1, q2, q3⟩ := sl_two h2 g2 ⟨so, so', by omega, by omega, by omega, by omega, D.1.1, D'.1.1, by omega, D.2.1, D'.2.1⟩ rfl
    exact alike q1 q2 q3 k3
/-- cells that settling writes -/
theorem lw_sn (h : lW nt s r x b i v) (hsp : ∀ so X hm sp ex, le_D s x so X hm sp ex → (so = 4 ∨ so = 5 ∨ so = 6 ∨ so = 9 ∨ so = 10 ∨ so = 11 ∨ so = 14) → sp < 400) : sn_W b i := by
  obtain ⟨so, X, hm, sp, ex, D, hw⟩ := h
  have c := hw.at
  have q := hsp so X hm sp ex D
  unfold lw_C at c
  unfold sn_W
  rcases c with c | c | c | c | c | c | c
  · exact Or.inl c.2.1
  · exact Or.inr (Or.inr (Or.inr (Or.inr (Or.inr (Or.inr (Or.inl c.2.1))))))
  · exact Or.inr (Or.inr (Or.inr (Or.inr (Or.inr (Or.inl c.2.1)))))
  · have := q (by omega)
    exact Or.inr (Or.inr (Or.inr (Or.inr (Or.inr (Or.inr (Or.inr (Or.inl ⟨by omega, by omega, Or.inl c.2.2⟩)))))))
  · exact c.2.1.elim (fun z => Or.inr (Or.inr (Or.inr (Or.inl z)))) (fun z => Or.inr (Or.inr (Or.inr (Or.inr (Or.inl z)))))
  · exact c.2.1.elim (fun z => Or.inr (Or.inl z)) (fun z => Or.inr (Or.inr (Or.inl z)))
  · have := q (by omega)
    exact Or.inr (Or.inr (Or.inr (Or.inr (Or.inr (Or.inr (Or.inr (Or.inl ⟨by omega, by omega, Or.inr c.2.2⟩)))))))
/-- what settling comes to -/
def sQ_O (nt : Nat → Nat) (l m : Nat) (S : Nat → Int32 → Prop) (s r s' : t_S) : Prop := l2_fr sn_W s s' ∧ l2_fr (fun b i => (∃ x v, x < l ∧ lW nt s r x b i v) ∨ lf_W b i) s s' ∧ ls_R (s'.1 846 7) (s'.1 846 8) (fun a b => S a b ∨ ∃ x, x < l ∧ b = s.1 848 x ∧ ((a = 4 ∧ lU nt s r m x) ∨ (a = 6 ∧ lV nt s r x))) ∧ ∀ x b i v, x < l → lW nt s r x b i v → s'.1 b i = v
theorem sQ.loop (Q : sQ W nt a t e p l sg m st s r) (L : ls_R (s.1 846 7) (s.1 846 8) S) : t_hk (t_loop b_X3_settleNames_35 t_N (0, s)) (sQ_O nt l m S s r) := by
  obtain ⟨hC, _, _, _, _, _, ⟨c6, l6, _, _, _, _, _, _, _, _, st4⟩, _⟩ := id Q
  have hsp : ∀ x, x < l → ∀ so X hm sp ex, le_D s x so X hm sp ex → (so = 4 ∨ so = 5 ∨ so = 6 ∨ so = 9 ∨ so = 10 ∨ so = 11 ∨ so = 14) → sp < 400 := fun x hx so X hm sp ex D hs => by
    obtain ⟨ln, h1, _, h3⟩ := Q.home hx D (by omega)
    have := h3 (by omega)
    omega
  refine l2_lp (fun u y => ∃ (j : Nat) (s' : t_S), j + u = l ∧ y = (nI j, s') ∧ sQ_O nt j m S s r s') ?_ (m := l) (Nat.lt_trans (show l < 1000000000 by omega) l2_N) ⟨0, s, by omega, rfl, l2_fr.rf, l2_fr.rf, L.iff (fun a b => ⟨Or.inl, fun y => y.elim id (fun ⟨x, hx, _⟩ => absurd hx (Nat.not_lt_zero _))⟩), fun x b i v hx => absurd hx (Nat.not_lt_zero _)⟩
  rintro u y ⟨j, s', hj, rfl, f0, f1, L1, V1⟩
  have e6' : s'.1 846 6 = nI l := (f0 846 6 (by unfold sn_W lf_W; omega)).1.trans c6
  by_cases z : l ≤ j
  · have ej : j = l := by omega
    subst ej
    show t_hk (k_X3_settleNames_35 (nI j) s') _
    unfold k_X3_settleNames_35
    rw [e6']
    exact l2_ck (nI_le z (by omega)) (l2_mp (l2_sm ⟨f0, f1, L1, V1⟩))
  obtain ⟨so, X, hm, sp, ex, D, T⟩ := Q.turn (show j < l by omega)
  obtain ⟨y, e1, ⟨o1, o2, o3, o4⟩, V2⟩ := T s' _ f0 L1
  have wsn : ∀ b i, ((∃ v, lw_R nt s r so X hm sp b i v) ∨ lf_W b i) → sn_W b i := fun b i w => by
    rcases w with ⟨v, w⟩ | w
    · exact lw_sn ⟨so, X, hm, sp, ex, D, w⟩ (hsp j (by omega))
    · exact Or.inr (Or.inr (Or.inr (Or.inr (Or.inr (Or.inr (Or.inr (Or.inr w)))))))
  obtain ⟨s2, g1, g2, g3, g4⟩ := sn_next e6' (show j < l by omega) (by omega) (q := s.1 848 j) (f0 848 j (by unfold sn_W lf_W; omega)).1 (W := fun b i => (∃ v, lw_R nt s r so X hm sp b i v) ∨ lf_W b i) (fun w => by have := wsn _ _ w; unfold sn_W lf_W at this; omega) e1 ⟨o1, o2, o3, o4⟩
  refine ⟨.inl (nI (j + 1), s2), g1, u - 1, by omega, j + 1, s2, by omega, rfl, f0.trans (g3.mono (fun b i w => w.elim (wsn b i) (fun q => wsn b i (Or.inr q)))), ?_, ?_, ?_⟩
  · refine (f1.mono (fun b i w => ?_)).trans (g3.mono (fun b i w => ?_))
    · rcases w with ⟨x, v, w1, w2⟩ | w
      · exact Or.inl ⟨x, v, by omega, w2⟩
      · exact Or.inr w
    · rcases w with (⟨v, w⟩ | w) | w
      · exact Or.inl ⟨j, v, by omega, so, X, hm, sp, ex, D, w⟩
      · exact Or.inr w
      · exact Or.inr w
  · refine g4.iff (fun a b => ⟨fun w => ?_, fun w => ?_⟩)
    · rcases w with (w | ⟨x, w1, w2⟩) | ⟨w1, w2⟩
      · exact Or.inl w
      · exact Or.inr ⟨x, by omega, w2⟩
      · exact Or.inr ⟨j, by omega, w1, w2.imp (fun q => ⟨q.1, so, X, hm, sp, ex, D, q.2⟩) (fun q => ⟨q.1, so, X, hm, sp, ex, D, q.2⟩)⟩
    · rcases w with w | ⟨x, w1, w2, w3⟩
      · exact Or.inl (Or.inl w)
      · by_cases q : x = j
        · subst q
          refine Or.inr ⟨w2, w3.imp (fun q => ⟨q.1, ?_⟩) (fun q => ⟨q.1, ?_⟩)⟩
          · obtain ⟨_, so', X', hm', sp', ex', D', q⟩ := q
            obtain ⟨rfl, rfl, rfl, _, _⟩ := D.un D'
            exact q
          · obtain ⟨_, so', X', hm', sp', ex', D', q⟩ := q
            obtain ⟨rfl, rfl, rfl, _, rfl⟩ := D.un D'
            exact q
        · exact Or.inl (Or.inr ⟨x, by omega, w2, w3⟩)
  · intro x b i v hx w
    -- behind the turn its own cells stand; others are as they were
    have own : ∀ v, lW nt s r j b i v → s2.1 b i = v := fun v q => by
      have nl : ¬ lf_W b i := fun w => by
        obtain ⟨so', X', hm', sp', ex', D', q⟩ := q
        have := q.at
        unfold lw_C at this
        unfold lf_W at w
        have := hsp j (by omega) so' X' hm' sp' ex' D'
        omega
      rw [(g2 b i nl).1]
      obtain ⟨so', X', hm', sp', ex', D', q⟩ := q
      obtain ⟨rfl, rfl, rfl, rfl, _⟩ := D.un D'
      exact V2 b i v q
    by_cases q : x = j
    · subst q
      exact own v w
    · by_cases c : ∃ v', lW nt s r j b i v'
      · obtain ⟨v', c⟩ := c
        rw [own v' c]
        exact Q.cons (show j < l by omega) (show x < l by omega) c w
      · have nl : ¬ lf_W b i := fun z => by
          obtain ⟨so', X', hm', sp', ex', D', q⟩ := w
          have := q.at
          unfold lw_C at this
          unfold lf_W at z
          have := hsp x (by omega) so' X' hm' sp' ex' D'
          omega
        rw [(g3 b i (fun z => by
          rcases z with (⟨v', z⟩ | z) | z
          · exact c ⟨v', so, X, hm, sp, ex, D, z⟩
          · exact nl z
          · exact nl z)).1]
        exact V1 x b i v (by omega) w
end
