/-! Level 2: exps worked out: a b with a sign between; a [ b ]; && and ||. -/
section
variable {κ : KPP} {c0 r0 : t_S} {Kc : t_S → t_S → Prop} {Kr : Nat → Nat → t_S → t_S → Prop} {c r c1 r1 c' r' cs : t_S} {D a H S rr rr2 e0 e1 ea i g n m m0 m1 cnt o K st X b sz n0 n1 n2 k1 k2 : Nat}
theorem bso {T : Type} (o : Option T) : (o.bind fun r => some r) = o := by cases o <;> rfl
theorem bf_two (hn : n < 13000) (hk : r1.1 955 n = 70) : (R_X13_behindFirst (g + 2)).1 (nI n) r1 = m_X13_two (R_X13_behindFirst g) (nI n) r1 := by
  show m_X13_behindFirst (R_X13_behindFirst (g + 1)) (nI n) r1 = _
  unfold m_X13_behindFirst
  rw [if_pos (l2_ix hn (by decide)), nI_clamp (n := n) (by omega), hk, if_pos rfl, bso]
  rfl
theorem bf_at {fa : Nat} (hn : n < 13000) (hk : r1.1 955 n = 69) (h9 : r1.1 959 n = nI fa) (hfa : fa < 13000) (h0 : r1.1 960 fa = nI b) : (R_X13_behindFirst (g + 2)).1 (nI n) r1 = ((R_X13_behindFirst (g + 1)).2.2.2.2.2.2.2.1 (nI b) r1).bind (fun r3 => if (r3.1 950 97) = (0 : Int32) then f_X13_element r3 else some r3) := by
  show m_X13_behindFirst (R_X13_behindFirst (g + 1)) (nI n) r1 = _
  unfold m_X13_behindFirst
  rw [if_pos (l2_ix hn (by decide)), nI_clamp (n := n) (by omega), hk, if_neg (by decide), if_pos rfl, h9, if_pos (l2_ix hfa (by decide)), nI_clamp (n := fa) (by omega), h0]
  refine congrArg (Option.bind _) (funext fun r3 => ?_)
  rw [bso]
/-- a [ b ] -/
theorem ev_at (hK : EK Kc Kr) (hr : rr ≤ 360) (h2 : c0.1 334 2 = nI cnt) (hc : cnt ≤ 16000) (hi : e1 - 1 < cnt) (h01 : e0 ≤ ea) (h0 : ea < e1) (ho : px_o c0 (e1 - 1) 15 0) {fa : Nat} (hn : n < 13000) (hfa : fa < 13000) (hk : r0.1 955 n = 69) (h9 : r0.1 959 n = nI fa) (h10 : r0.1 960 fa = nI b) (hm : m0 ≤ n ∧ n < m1) (ha : EVp κ c0 r0 Kc Kr (g + 2) rr e0 ea m0 n fa) (hb : EVp κ c0 r0 Kc Kr g (rr + 15) ea (e1 - 1) (n + 1) m1 b) : EVp κ c0 r0 Kc Kr (g + 2) rr e0 e1 m0 m1 n := by
  refine ev_spine2 (K := 69) hK hn hk (by omega) h9 (by omega) ha h01 (by omega) (stw_two (G := f_X13_element) (sz := m1 - m0) hK h2 hc hi h0 ho (by decide) (by decide) (by omega) hr hb (by omega) (fun c1 r1 D a H n1 k1 n2 k2 z1 z2 T => uo_at T) (fun r1 z => ?_))
  exact bf_at hn (((ez_r (b := 955) (j := n) z (by omega)).1).trans hk) (((ez_r (b := 959) (j := n) z (by omega)).1).trans h9) hfa (((ez_r (b := 960) (j := fa) z (by omega)).1).trans h10)
/-- a b with a sign between them -/
theorem ev_two {x : Nat} (hx : px_two x o) (hK : EK Kc Kr) (hr : rr ≤ 360) (h2 : c0.1 334 2 = nI cnt) (hc : cnt ≤ 16000) (hi : e1 - 1 < cnt) (h01 : e0 ≤ ea) (h0 : ea < e1) (ho : px_o c0 (e1 - 1) o 0) {fa : Nat} (hn : n < 13000) (hfa : fa < 13000) (hk : r0.1 955 n = 70) (h7 : r0.2.1 957 n = lN x) (h9 : r0.1 959 n = nI fa) (h10 : r0.1 960 fa = nI b) (hm : m0 ≤ n ∧ n < m1) (ha : EVp κ c0 r0 Kc Kr (g + 3) rr e0 ea m0 n fa) (hb : EVp κ c0 r0 Kc Kr g (rr + 1 + (15 - rr % 20)) ea (e1 - 1) (n + 1) m1 b) : EVp κ c0 r0 Kc Kr (g + 3) rr e0 e1 m0 m1 n := by
  have o1 : 14 < o ∧ o ≤ 27 := by unfold px_two at hx; omega
  have x1 : x < 100000 ∧ x ≠ 9766 ∧ x ≠ 31868 := by unfold px_two at hx; omega
  refine ev_spine2 (K := 70) hK hn hk (by omega) h9 (by omega) ha h01 (by omega) (stw_two (G := fun r3 => (f_X13_join (nI x) r3).bind (fun r => some r)) (sz := m1 - m0) hK h2 hc hi h0 ho o1.1 o1.2 (by omega) hr hb (by omega) (fun c1 r1 D a H n1 k1 n2 k2 z1 z2 T => ?_) (fun r1 z => ?_))
  · by_cases e : o = 21
    · subst e
      have ex : x = 38 := by unfold px_two at hx; omega
      subst ex
      exact (uo_join T).br
    · exact (uo_two hx e T).br
  · have q5 := ((ez_r (b := 955) (j := n) z (by omega)).1).trans hk
    have q7 := ((ez_r (b := 957) (j := n) z (by omega)).2.1).trans h7
    have q9 := ((ez_r (b := 959) (j := n) z (by omega)).1).trans h9
    have q10 := ((ez_r (b := 960) (j := fa) z (by omega)).1).trans h10
    have nx1 : ¬ nI x = (9766 : Int32) := fun y => by have := (nI_eq (a := x) (b := 9766) (by omega) (by decide)).mp y; omega
    have nx2 : ¬ nI x = (31868 : Int32) := fun y => by have := (nI_eq (a := x) (b := 31868) (by omega) (by decide)).mp y; omega
    rw [bf_two (g := g + 1) hn q5]
    unfold m_X13_two
    rw [if_pos (l2_ix hn (by decide)), nI_clamp (n := n) (by omega), q7, lN_w, if_neg nx1, if_neg nx2, q9, if_pos (l2_ix hfa (by decide)), nI_clamp (n := fa) (by omega), q10]
/-- the top cell -/
theorem tp_c (h7 : cs.1 334 7 = nI (D + 1)) (hA : cs.1 339 D = nI a) (hD : D < 3150) (ha : a < 48000) : f_X0_cellOf (cs.1 334 7 - (1 : Int32)) cs = some (cs.2.1 338 a) ∧ f_X0_top cs = some (cs.2.1 338 a) := by
  have s1 : cs.1 334 7 - (1 : Int32) = nI D := by rw [h7, sy_m1n (by omega), Nat.add_sub_cancel]
  constructor
  · unfold f_X0_cellOf
    rw [s1, h7, if_neg (nI_pos (by omega)), if_neg (nI_ge (by omega) (by omega)), if_pos (l2_ix (by omega) (by decide)), nI_clamp (n := D) (by omega), hA, if_pos (l2_ix ha (by decide)), nI_clamp (n := a) (by omega)]
  · unfold f_X0_top f_X0_topAt
    rw [s1, h7, if_neg (show ¬ nI (D + 1) ≤ (0 : Int32) from nI_ge (a := 0) (by omega) (by omega)), if_pos (l2_ix (by omega) (by decide)), nI_clamp (n := D) (by omega), hA, l2_bs, if_pos (l2_ix ha (by decide)), nI_clamp (n := a) (by omega)]
end
