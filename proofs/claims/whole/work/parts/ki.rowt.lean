/-! Level 2: the templs of a row, one after another, on both sides: what they keep. -/
theorem px_B.le {v a b : Nat} {E : Nat → Nat} (h : px_B v a b E) : ∀ {j i : Nat}, i ≤ j → j ≤ v → E i ≤ E j := by
  intro j
  induction j with
  | zero =>
    intro i hi _
    obtain rfl : i = 0 := by omega
    exact Nat.le_refl _
  | succ j ih =>
    intro i hi hj
    by_cases c : i = j + 1
    · rw [c]; exact Nat.le_refl _
    · have := ih (i := i) (by omega) (by omega)
      have := (h.2.2 j (by omega)).1
      omega
/-- what is seen later of what templs in these ranges keep -/
def Lat (t0 t1 m0 m1 a nh pc : Nat) (c r c2 r2 : t_S) (pc2 : Nat) : Prop := (∀ t, t0 ≤ t → t < t1 → c2.2.1 361 t = c.2.1 361 t ∧ c2.2.1 362 t = c.2.1 362 t) ∧ (∀ d, d < nh → c2.2.1 338 (a + d) = c.2.1 338 (a + d)) ∧ (∀ n, m0 ≤ n → n < m1 → r2.1 1026 n = r.1 1026 n) ∧ (∀ j, j < pc → r2.2.1 1027 j = r.2.1 1027 j) ∧ pc ≤ pc2 ∧ ∀ u, u < 60 → r.1 1030 u = r.1 950 133 → r2.1 1030 u = r2.1 950 133
/-- a fact that stays so -/
def QS (t0 t1 m0 m1 : Nat) (Q : t_S → t_S → Nat → Nat → Nat → Nat → Prop) : Prop := ∀ c r c2 r2 a nh p pc pc2, Q c r a nh p pc → Lat t0 t1 m0 m1 a nh pc c r c2 r2 pc2 → Q c2 r2 a nh p pc2
theorem Lat.trans {t0 t1 m0 m1 a nh pc pc2 pc3 : Nat} {c r c2 r2 c3 r3 : t_S} (h : Lat t0 t1 m0 m1 a nh pc c r c2 r2 pc2) (g : Lat t0 t1 m0 m1 a nh pc2 c2 r2 c3 r3 pc3) : Lat t0 t1 m0 m1 a nh pc c r c3 r3 pc3 := by
  obtain ⟨h1, h2, h3, h4, h5, h6⟩ := h
  obtain ⟨g1, g2, g3, g4, g5, g6⟩ := g
  exact ⟨fun t x y => ⟨(g1 t x y).1.trans (h1 t x y).1, (g1 t x y).2.trans (h1 t x y).2⟩, fun d hd => (g2 d hd).trans (h2 d hd), fun n x y => (g3 n x y).trans (h3 n x y), fun j hj => (g4 j (by omega)).trans (h4 j hj), by omega, fun u hu hs => g6 u hu (h6 u hu hs)⟩
theorem Lat.sub {t0 t1 m0 m1 t0' t1' m0' m1' a nh pc pc2 : Nat} {c r c2 r2 : t_S} (h : Lat t0 t1 m0 m1 a nh pc c r c2 r2 pc2) (h1 : t0 ≤ t0') (h2 : t1' ≤ t1) (h3 : m0 ≤ m0') (h4 : m1' ≤ m1) : Lat t0' t1' m0' m1' a nh pc c r c2 r2 pc2 := ⟨fun t x y => h.1 t (by omega) (by omega), h.2.1, fun n x y => h.2.2.1 n (by omega) (by omega), h.2.2.2⟩
section
variable {κ : KPP} {c0 r0 : t_S} {P : Nat → Int64} {TS : Nat → Nat → Nat → Prop} {wt : Nat → Nat} {Z Y Z' Y' : Nat → Prop} {c r c' r' : t_S} {x y D a H S nh mh pc pc' : Nat}
theorem KcZ.mono (h : KcZ Z' c c') (w : ∀ t, Z t → Z' t) : KcZ Z c c' := ⟨fun t ht => h.1 t (w t ht), h.2⟩
theorem KrZ.mono (h : KrZ c0 P TS wt Y' x y r r') (w : ∀ n, Y n → Y' n) : KrZ c0 P TS wt Y x y r r' := by
  obtain ⟨h1, h2, h3, h4, h5⟩ := h
  exact ⟨h1, h2, h3, h4, fun z => ⟨(h5 z).1, fun k => ⟨((h5 z).2 k).1, fun n hn => ((h5 z).2 k).2.1 n (w n hn), ((h5 z).2 k).2.2⟩⟩⟩
/-- ready for the next templ, a VALUE being held -/
def Eh (κ : KPP) (c0 r0 : t_S) (P : Nat → Int64) (TS : Nat → Nat → Nat → Prop) (wt : Nat → Nat) (rr D a H S nh mh pc x y : Nat) (c r : t_S) : Prop := Ein κ c0 r0 rr (D + 1) (a + nh) (H + 1) S c r ∧ VW (c.2.1 338) (r.2.1 1006) 120 a (260 * (40 + H)) nh mh ∧ c.1 339 D = nI a ∧ r.1 950 138 ≠ 0 ∧ r.1 950 135 = nI pc ∧ pc + 240 * rem wt r + 240 * q34 c0 y ≤ 360000 + 240 * q34 c0 x ∧ Tld P TS r ∧ κ.I x c r
/-- .. once more behind one -/
theorem Eh.next {rr z : Nat} (hCl : Cl κ c0 P TS wt) (h : Eh κ c0 r0 P TS wt rr D a H S nh mh pc x z c r) (F : Ef c0 (KcZ Z) (KrZ c0 P TS wt Y x y) (D + 1) (a + nh) (H + 1) S c r c' r') (hyz : y ≤ z) (e : Et D a nh H S c' r') (p135 : r'.1 950 135 = nI pc') (p37 : pc' ≤ 370000) : Eh κ c0 r0 P TS wt rr D a H S nh mh pc' y z c' r' ∧ pc ≤ pc' ∧ ∀ t0 t1 m0 m1, (∀ t, t0 ≤ t → t < t1 → Z t) → (∀ n, m0 ≤ n → n < m1 → Y n) → Lat t0 t1 m0 m1 a nh pc c r c' r' pc' := by
  obtain ⟨hE, hV, ha, h138, h135, hpot, hT, hI⟩ := h
  have hI2 := hCl _ _ _ _ _ _ _ _ hI F.2.2.1 F.2.2.2 e.2.2.1
  obtain ⟨e1, e98, e97, e103⟩ := e
  obtain ⟨f1, f2, f3, f4⟩ := F
  obtain ⟨_, k138, _, _, k5⟩ := f4
  obtain ⟨_, hR⟩ := k5 e97
  obtain ⟨R1, R2, R3⟩ := hR h138
  have qz := q34_up (c := c0) hyz
  obtain ⟨pc1, p1, p2, p3, p4, p5⟩ := R1 pc h135 (by omega)
  have qy := q34_up (c := c0) (x := x) (y := y) (by assumption)
  have ee : pc' = pc1 := (nI_eq (by omega) (by omega)).mp (p135.symm.trans p1)
  subst ee
  have m240 := hV.m2
  have nh1 := hV.pos
  have s38 : ∀ d, d < nh → c'.2.1 338 (a + d) = c.2.1 338 (a + d) := fun d hd => (f1 338 (a + d) (by unfold eWc; omega)).2.1
  refine ⟨⟨⟨⟨hE.1.1.trans (f1.mono (fun b j w => w.z)), hE.1.2.trans (f2.mono (fun b j w => w.z))⟩, e1, ⟨e98, e97, e103⟩, hE.2.2.2⟩, VW.copy _ _ _ _ _ _ _ hV s38 (fun d hd => (f2 1006 _ (by unfold eWr; omega)).2.1), ((f1 339 D (by unfold eWc; omega)).1).trans ha, by rw [k138]; exact h138, p135, by omega, p5 hT, hI2⟩, p2, fun t0 t1 m0 m1 hz hy => ⟨fun t x y => f3.1 t (hz t x y), s38, fun n x y => R2 n (hy n x y), p4, p2, R3⟩⟩
/-- v templs one after another -/
theorem ev_parts (hCl : Cl κ c0 P TS wt) {rr g v e0 e1 t0 t1 m0 m1 : Nat} {E T M G : Nat → Nat} {Q : Nat → t_S → t_S → Nat → Nat → Nat → Nat → Prop} (hE : px_B v e0 e1 E) (hT : px_B v t0 t1 T) (hM : px_B v m0 m1 M) (hm : m1 ≤ 13000) (hG : ∀ j, j < v → G j < 13000 ∧ r0.1 960 (G j) = (if j + 1 < v then nI (G (j + 1)) else -1)) (hv : v ≤ 16) {NT : Nat → Prop} (hNT : ∀ n, m0 ≤ n → n < m1 → NT n) (hYN : ∀ n, Y n → NT n) (dj : DJ Z Y t0 t1 m0 m1) (hp : ∀ j, j < v → QS (T j) (T (j + 1)) (M j) (M (j + 1)) (Q j) ∧ ∀ Z Y, (∀ n, Y n → NT n) → DJ Z Y (T j) (T (j + 1)) (M j) (M (j + 1)) → EVt κ c0 r0 P TS wt Z Y (g + 1) rr (E j) (E (j + 1)) (M j) (M (j + 1)) (G j) (Q j)) (h0 : Eh κ c0 r0 P TS wt rr D a H S nh mh pc e0 e1 c r) (hS : S + (m1 - m0) ≤ κ.s) : ∀ u, u ≤ v → ∃ c' r' i w, (w ≤ E u - e0 ∧ e0 ≤ i ∧ i ≤ E u ∧ l2_tn b_X0_work_12 w (nI e0, c) (nI i, c')) ∧ Ef c0 (KcZ Z) (KrZ c0 P TS wt Y e0 (E u)) (D + 1) (a + nh) (H + 1) S c r c' r' ∧ ((i = E u ∧ ∃ pc', Et D a nh H S c' r' ∧ Eh κ c0 r0 P TS wt rr D a H S nh mh pc' (E u) e1 c' r' ∧ pc' ≤ 370000 ∧ ∀ j, j < u → Q j c' r' a nh (260 * (40 + H)) pc') ∨ Eb e0 (E u) S c' r') ∧ ∀ N, t_loop (b_X13_prepare_195 (R_X13_behindFirst (g + 1))) (N + u) ((if 0 < v then nI (G 0) else -1), r) = t_loop (b_X13_prepare_195 (R_X13_behindFirst (g + 1))) N ((if u < v then nI (G u) else -1), r') := by
  intro u
  induction u with
  | zero =>
    intro _
    have E0 := hE.1
    refine ⟨c, r, e0, 0, ⟨Nat.zero_le _, Nat.le_refl _, by omega, l2_tn.nil⟩, ?_, Or.inl ⟨E0.symm, pc, ?_, ?_, ?_, fun j hj => by omega⟩, fun N => rfl⟩
    · exact Ef.of EK_Z (l2_fr.rf (W := fun _ _ => False)) (l2_fr.rf (W := fun _ _ => False)) (fun b j y => y.elim) (fun b j y => y.elim) (Nat.le_of_eq E0.symm)
    · exact ⟨h0.1.2.1, h0.1.2.2.1⟩
    · rw [E0]; exact h0
    · have := h0.2.2.2.2.2.1
      have qq := q34_up (c := c0) (show e0 ≤ e1 by
        rcases Nat.eq_zero_or_pos v with w | w
        · have := hE.2.1; rw [w, E0] at this; omega
        · have := hE.2.2 0 w; omega)
      omega
  | succ u ih =>
    intro hu
    obtain ⟨c1, r1, i, w, ⟨w1, w2, w3, w4⟩, F, alt, L⟩ := ih (by omega)
    obtain ⟨g13, g960⟩ := hG u (by omega)
    have bE := hE.2.2 u (by omega)
    have bT := hT.2.2 u (by omega)
    have bM := hM.2.2 u (by omega)
    obtain ⟨zz1, zz2⟩ := h0.1.z F
    rcases alt with ⟨rfl, pc1, hEt, hEh, p37, hQ⟩ | hEb
    · -- the next one
      obtain ⟨qs, hev⟩ := hp u (by omega)
      have d2 : DJ (fun t => Z t ∨ (t0 ≤ t ∧ t < T u)) (fun n => Y n ∨ (m0 ≤ n ∧ n < M u)) (T u) (T (u + 1)) (M u) (M (u + 1)) := ⟨fun t x y z => by
          rcases z with z | z
          · exact dj.1 t (by omega) (by omega) z
          · omega, fun n x y z => by
          rcases z with z | z
          · exact dj.2 n (by omega) (by omega) z
          · omega⟩
      obtain ⟨hE', hV', ha', h138', h135', hpot', hT', hI'⟩ := id hEh
      have qe := q34_up (c := c0) (show E (u + 1) ≤ e1 by omega)
      obtain ⟨c2, r2, i2, w', ⟨x1, x2, x3, x4⟩, F2, alt2, pr⟩ := hev _ _ (fun n hn => hn.elim (hYN n) (fun w => hNT n w.1 (by omega))) d2 c1 r1 D a H S nh mh pc1 hE' hV' ha' (by omega) h138' h135' (by omega) hT' hI'
      have F2' : Ef c0 (KcZ Z) (KrZ c0 P TS wt Y (E u) (E (u + 1))) (D + 1) (a + nh) (H + 1) S c1 r1 c2 r2 := ⟨F2.1, F2.2.1, F2.2.2.1.mono (fun t ht => Or.inl ht), F2.2.2.2.mono (fun n hn => Or.inl hn)⟩
      have FF := F.trans (x' := e0) (z' := E (u + 1)) EK_Z F2' (Nat.le_refl _) (Nat.le_refl _) (Nat.le_refl _) (Nat.le_refl _) ⟨Nat.le_refl _, Nat.le_refl _, Nat.le_refl _⟩
      have LL : ∀ N, t_loop (b_X13_prepare_195 (R_X13_behindFirst (g + 1))) (N + (u + 1)) ((if 0 < v then nI (G 0) else -1), r) = t_loop (b_X13_prepare_195 (R_X13_behindFirst (g + 1))) N ((if u + 1 < v then nI (G (u + 1)) else -1), r2) := fun N => by
        rw [show N + (u + 1) = (N + 1) + u by omega, L (N + 1), if_pos (show u < v by omega)]
        refine l2_lpS ?_
        show k_X13_prepare_195 _ (nI (G u)) r1 = _
        unfold k_X13_prepare_195
        rw [if_neg (nI_pos (by omega)), pr, l2_bs, if_pos (l2_ix g13 (by decide)), nI_clamp (n := G u) (by omega), ((ez_r (b := 960) (j := G u) (zz2.trans (F2.2.1.mono (fun b j w => w.z))) (by omega)).1).trans g960]
      refine ⟨c2, r2, i2, w + w', ⟨by omega, by omega, x3, w4.trans x4⟩, FF, ?_, LL⟩
      rcases alt2 with ⟨rfl, e2, pc2, p2, p22, q2⟩ | hEb
      · obtain ⟨n1, n2, n3⟩ := Eh.next hCl hEh F2 (by omega) e2 p2 p22
        refine Or.inl ⟨rfl, pc2, e2, n1, p22, fun j hj => ?_⟩
        by_cases c : j = u
        · rw [c]; exact q2
        · have hj' : j < u := by omega
          have mT : T (j + 1) ≤ T u := hT.le (by omega) (by omega)
          have mM : M (j + 1) ≤ M u := hM.le (by omega) (by omega)
          have bTj := hT.2.2 j (by omega)
          have bMj := hM.2.2 j (by omega)
          exact (hp j (by omega)).1 _ _ _ _ _ _ _ _ _ (hQ j hj') (n3 _ _ _ _ (fun t x y => Or.inr ⟨by omega, by omega⟩) (fun n x y => Or.inr ⟨by omega, by omega⟩))
      · exact Or.inr (hEb.w (by omega) (Nat.le_refl _))
    · -- an ERROR has been
      refine ⟨c1, r1, i, w, ⟨by omega, w2, by omega, w4⟩, F.w EK_Z (Nat.le_refl _) bE.1, Or.inr (hEb.w (Nat.le_refl _) bE.1), fun N => ?_⟩
      obtain ⟨er, st, er1, _, q97, _⟩ := hEb
      rw [show N + (u + 1) = (N + 1) + u by omega, L (N + 1), if_pos (show u < v by omega)]
      refine l2_lpS ?_
      have pr : (R_X13_behindFirst (g + 1)).2.2.2.2.1 (nI (G u)) r1 = some r1 := by
        show m_X13_prepare (R_X13_behindFirst g) (nI (G u)) r1 = _
        unfold m_X13_prepare
        rw [if_neg (by rw [q97]; exact nI_ne0 (by omega) (by omega))]
      show k_X13_prepare_195 _ (nI (G u)) r1 = _
      unfold k_X13_prepare_195
      rw [if_neg (nI_pos (by omega)), pr, l2_bs, if_pos (l2_ix g13 (by decide)), nI_clamp (n := G u) (by omega), ((ez_r (b := 960) (j := G u) zz2 (by omega)).1).trans g960]
end
