/-! Level 2: the reference's check of a line: the faults of its links, as a set. -/
/-- a call of a unit whose component is not told -/
def lX (s : t_S) (e : Nat) : Prop := (s.1 849 e = 9 ∨ s.1 849 e = 10) ∧ ∃ f : Nat, f < 40 ∧ s.1 851 e = nI f ∧ s.1 438 f < 0
/-- what a line's link brings in the reference -/
def rF (nt : Nat → Nat) (s r : t_S) (m e a : Nat) : Prop := (lX s e ∧ a = 4) ∨ (¬ lX s e ∧ ((a = 4 ∧ lU nt s r m e) ∨ (a = 6 ∧ lV nt s r e)))
/-- a link of a line's word: side 0, 1 -/
def sl_P (c r : t_S) (s side e : Nat) : Prop := ∃ K V so X pl f : Nat, ∃ spot ex : Int32, K < 30 ∧ V < 10 ∧ so < 20 ∧ r.1 988 s = nI K ∧ r.1 1000 s = sl_v V ∧ r.1 1001 s = nI f ∧ f < 40 ∧ X < 7934 ∧ pl ≤ 12000 ∧ sl_ok K V so side ∧ hi_e c e (nI so) X pl (nI f) spot ex ∧ r.1 (991 + 2 * side) s = nI X ∧ r.1 (992 + 2 * side) s = nI pl ∧ ((spot = nI s ∧ so ≠ 1) ∨ (so = 1 ∧ ∃ x : Nat, x < 320 ∧ spot = nI x))
def rD (nt : Nat → Nat) (s r : t_S) (m l ln side a : Nat) (b : Int32) : Prop := ∃ e, e < l ∧ sl_P s r ln side e ∧ b = s.1 848 e ∧ rF nt s r m e a
def rR (nt : Nat → Nat) (s r : t_S) (m l ln a : Nat) (b : Int32) : Prop := ∃ e, e < l ∧ sl_B s r ln e ∧ b = s.1 848 e ∧ rF nt s r m e a
def lnF (r : t_S) (ln K V f : Nat) : Prop := (K < 30 ∧ V < 10 ∧ f < 40) ∧ r.1 988 ln = nI K ∧ r.1 1000 ln = sl_v V ∧ r.1 1001 ln = nI f
section
variable {W X x y a t e p l sg m st n2 n3 ln f td so so0 K V pl na side e0 : Nat} {nt v : Nat → Nat} {E : en_S} {hm spot ex b kc u : Int32} {s r r' : t_S} {S : Nat → Int32 → Prop}
theorem rR_iff : rR nt s r m l ln a b ↔ rD nt s r m l ln 0 a b ∨ rD nt s r m l ln 1 a b := by
  constructor
  · rintro ⟨e, he, ⟨K, V, so, side, X, pl, f, spot, ex, x1, x2, x3, x4, x5, x6, x7, x8, x9, x10, x11⟩, hb, hF⟩
    have sd : side = 0 ∨ side = 1 := by
      rcases x10 with y | y
      · exact Or.inl y.1
      · exact Or.inr y.1
    rcases sd with rfl | rfl
    · exact Or.inl ⟨e, he, ⟨K, V, so, X, pl, f, spot, ex, x1, x2, x3, x4, x5, x6, x7, x8, x9, x10, x11⟩, hb, hF⟩
    · exact Or.inr ⟨e, he, ⟨K, V, so, X, pl, f, spot, ex, x1, x2, x3, x4, x5, x6, x7, x8, x9, x10, x11⟩, hb, hF⟩
  · rintro (⟨e, he, ⟨K, V, so, X, pl, f, spot, ex, h⟩, hb, hF⟩ | ⟨e, he, ⟨K, V, so, X, pl, f, spot, ex, h⟩, hb, hF⟩)
    · exact ⟨e, he, ⟨K, V, so, 0, X, pl, f, spot, ex, h⟩, hb, hF⟩
    · exact ⟨e, he, ⟨K, V, so, 1, X, pl, f, spot, ex, h⟩, hb, hF⟩
theorem sl_P.get (h : sl_P s r ln side e) (F : lnF r ln K V f) : ∃ so X pl : Nat, ∃ spot ex : Int32, so < 20 ∧ X < 7934 ∧ pl ≤ 12000 ∧ sl_ok K V so side ∧ hi_e s e (nI so) X pl (nI f) spot ex ∧ r.1 (991 + 2 * side) ln = nI X ∧ r.1 (992 + 2 * side) ln = nI pl ∧ ((spot = nI ln ∧ so ≠ 1) ∨ (so = 1 ∧ ∃ x : Nat, x < 320 ∧ spot = nI x)) := by
  obtain ⟨K', V', so, X, pl, f', spot, ex, x1, x2, x3, x4, x5, x6, x7, x8, x9, x10, x11, x12, x13, x14⟩ := h
  obtain ⟨⟨a1, a2, a3⟩, a4, a5, a6⟩ := F
  have eK : K' = K := (nI_eq (by omega) (by omega)).mp (x4.symm.trans a4)
  have eV : V' = V := sl_v_inj x2 a2 (x5.symm.trans a5)
  have ef : f' = f := (nI_eq (by omega) (by omega)).mp (x6.symm.trans a6)
  subst eK eV ef
  exact ⟨so, X, pl, spot, ex, x3, x8, x9, x10, x11, x12, x13, x14⟩
theorem rD_none (F : lnF r ln K V f) (no : ∀ so, ¬ sl_ok K V so side) : ¬ rD nt s r m l ln side a b := fun ⟨_, _, h, _⟩ => by
  obtain ⟨so, _, _, _, _, _, _, _, h, _⟩ := h.get F
  exact no so h
theorem rD_neg (F : lnF r ln K V f) (hn : r.1 (991 + 2 * side) ln = -1) : ¬ rD nt s r m l ln side a b := fun ⟨_, _, h, _⟩ => by
  obtain ⟨so, X, _, _, _, _, hX, _, _, _, h, _⟩ := h.get F
  rw [hn] at h
  have := congrArg Int32.toInt h
  rw [nI_toInt (by omega), show (-1 : Int32).toInt = -1 from rfl] at this
  omega
theorem lU_hi (Q : sQ W nt a t e p l sg m st s r) (hx : x < l) (h : hi_e s x (nI so) X pl hm spot ex) (s20 : so < 20) (hX : X < 7934) : (lU nt s r m x ↔ lu_R nt s r m so X hm) ∧ (lV nt s r x ↔ lq_R nt s r so X hm ex) := by
  obtain ⟨so', X', hm', sp', ex', D, _⟩ := Q.turn hx
  have e1 : so' = so := (nI_eq (by have := D.1.1; omega) (by omega)).mp (D.2.1.symm.trans h.1)
  have e2 : X' = X := by
    have := (nI_eq (by have := D.1.2.1; omega) (by omega)).mp (D.2.2.1.symm.trans h.2.1)
    omega
  have e3 : hm' = hm := D.2.2.2.1.symm.trans h.2.2.2.1
  have e5 : ex' = ex := D.2.2.2.2.2.symm.trans h.2.2.2.2.2
  subst e1 e2 e3 e5
  exact ⟨lU_iff D, ⟨fun ⟨so2, X2, hm2, sp2, ex2, D2, g⟩ => by
    obtain ⟨rfl, rfl, rfl, _, rfl⟩ := D.un D2
    exact g, fun g => ⟨_, _, _, _, _, D, g⟩⟩⟩
theorem nI_lit (hs : so < 20) (j : Nat) (hj : j < 20) (h : s.1 849 e = nI so) (g : s.1 849 e = nI j) : so = j := (nI_eq (by omega) (by omega)).mp (h.symm.trans g)
/-- one word that is no call's -/
theorem rD_one (Q : sQ W nt a t e p l sg m st s r) (F : lnF r ln K V f) (s20 : so0 < 20) (uq : ∀ so, sl_ok K V so side → so = so0) (ok : sl_ok K V so0 side) (nc : so0 ≠ 9 ∧ so0 ≠ 10 ∧ so0 ≠ 11) (hw : wl_R s r f ln l so0 side spot ex) (hs : (spot = nI ln ∧ so0 ≠ 1) ∨ (so0 = 1 ∧ ∃ x : Nat, x < 320 ∧ spot = nI x)) : ∃ X, X < 7934 ∧ 66 + X < W ∧ r.1 (991 + 2 * side) ln = nI X ∧ ∀ a b, rD nt s r m l ln side a b ↔ (b = r.1 (992 + 2 * side) ln ∧ a = 4 ∧ lu_R nt s r m so0 X (nI f)) := by
  obtain ⟨e0, X, pl, u1, u2, u3, u4, u5, u6⟩ := hw
  obtain ⟨⟨a1, a2, a3⟩, a4, a5, a6⟩ := id F
  have nx : ∀ z, s.1 849 z = nI so0 → ¬ lX s z := fun z hz y => by
    rcases y.1 with y | y
    · exact nc.1 (nI_lit s20 9 (by decide) hz y)
    · exact nc.2.1 (nI_lit s20 10 (by decide) hz y)
  refine ⟨X, u2, Q.2.2.2.2.2.2.2.1 e0 X u1 u4.2.1 u2, u5, fun a b => ⟨fun ⟨z, hz, h, hb, hF⟩ => ?_, fun ⟨hb, ha, h⟩ => ⟨e0, u1, ⟨K, V, so0, X, pl, f, spot, ex, a1, a2, s20, a4, a5, a6, a3, u2, u3, ok, u4, u5, u6, hs⟩, ?_, Or.inr ⟨nx e0 u4.1, Or.inl ⟨ha, (lU_hi Q u1 u4 s20 u2).1.mpr h⟩⟩⟩⟩⟩
  · obtain ⟨so, X', pl', spot', ex', x3, x8, x9, x10, x11, x12, x13, x14⟩ := h.get F
    have es := uq so x10
    subst es
    have eX : X' = X := (nI_eq (by omega) (by omega)).mp (x12.symm.trans u5)
    subst eX
    refine ⟨by rw [hb, x11.2.2.1, x13], ?_⟩
    rcases hF with ⟨y, _⟩ | ⟨_, ⟨y, hU⟩ | ⟨y, hV⟩⟩
    · exact absurd y (nx z x11.1)
    · exact ⟨y, (lU_hi Q hz x11 s20 u2).1.mp hU⟩
    · obtain ⟨c, _⟩ := (lU_hi Q hz x11 s20 u2).2.mp hV
      omega
  · rw [hb, u4.2.2.1, u6]
/-- two calls of one unit at one place are one -/
theorem sQ.call1 (Q : sQ W nt a t e p l sg m st s r) (hx : x < l) (hy : y < l) (tk : so = 9 ∨ so = 10 ∨ so = 11) (h1 : s.1 849 x = nI so) (h2 : s.1 849 y = nI so) (h3 : s.1 851 x = s.1 851 y) (h4 : s.1 848 x = s.1 848 y) : x = y := by
  have tk : tc_K (nI so) := by
    rcases tk with rfl | rfl | rfl
    · exact Or.inl rfl
    · exact Or.inr (Or.inl rfl)
    · exact Or.inr (Or.inr rfl)
  have ne : ∀ i j : Nat, i < j → j < l → s.1 849 i = nI so → s.1 849 j = nI so → s.1 851 i = s.1 851 j → s.1 848 i ≠ s.1 848 j := fun i j ij jl a1 a2 a3 a5 => by
    obtain ⟨g, g1, g2, _, _, g4⟩ := Q.2.2.2.2.2.1 j jl (Or.inl (by rw [a2]; exact tk))
    have := (g4 i ij (a3.trans g2)).1 (by rw [a2]; exact tk) (by rw [a1]; exact tk)
    rw [a5] at this
    omega
  rcases Nat.lt_trichotomy x y with q | q | q
  · exact absurd h4 (ne x y q hy h1 h2 h3)
  · exact q
  · exact absurd h4.symm (ne y x q hx h2 h1 h3.symm)
theorem lu_call (tR : to_R nt r 3 X u) (hs : so = 9 ∨ so = 10 ∨ so = 11) (f40 : f < 40) : (lu_R nt s r m so X (nI f) ↔ ¬ ∃ g, g < nt 3 ∧ u = nI g ∧ cK s so f g) ∧ (lq_R nt s r so X (nI f) (nI na) ↔ ∃ g, g < nt 3 ∧ u = nI g ∧ cK s so f g ∧ s.1 439 g ≠ nI na) := by
  refine ⟨⟨fun h => ?_, fun h => Or.inr (Or.inr (Or.inr (Or.inr (Or.inl ⟨hs, f, u, rfl, f40, tR, h⟩))))⟩, fun h => ?_, fun ⟨g, h1, h2, h3, h4⟩ => ⟨hs, f, u, g, rfl, f40, tR, h1, h2, h3, h4⟩⟩
  · rcases h with ⟨y, z⟩ | ⟨y, z⟩ | ⟨y, z⟩ | ⟨y, z⟩ | ⟨y, f', u', z1, z2, z3, z4⟩ | ⟨y, z⟩ | ⟨kc1, hk, ⟨y, z⟩ | ⟨y, z⟩ | ⟨y, z⟩ | ⟨y, z⟩⟩
    · omega
    · omega
    · omega
    · omega
    · have ef : f = f' := (nI_eq (by omega) (by omega)).mp z1
      subst ef
      rw [tR.eq z3]
      exact z4
    all_goals omega
  · obtain ⟨_, f', u', g, z1, z2, z3, z4, z5, z6, z7⟩ := h
    have ef : f = f' := (nI_eq (by omega) (by omega)).mp z1
    subst ef
    exact ⟨g, z4, (tR.eq z3).trans z5, z6, z7⟩
/-- a call's word -/
theorem rD_call (Q : sQ W nt a t e p l sg m st s r) (F : lnF r ln K V f) (hs : so0 = 9 ∨ so0 = 10 ∨ so0 = 11) (uq : ∀ so, sl_ok K V so 0 → so = so0) (ok : sl_ok K V so0 0) (hw : wl_R s r f ln l so0 0 (nI ln) (nI na)) : ∃ X, X < 7934 ∧ 66 + X < W ∧ r.1 991 ln = nI X ∧ ∀ u, to_R nt r 3 X u → ∀ a b, rD nt s r m l ln 0 a b ↔ (b = r.1 992 ln ∧ ((so0 ≠ 11 ∧ s.1 438 f < 0 ∧ a = 4) ∨ (¬ (so0 ≠ 11 ∧ s.1 438 f < 0) ∧ cl_S s so0 f na u (nt 3) a))) := by
  obtain ⟨e0, X, pl, u1, u2, u3, u4, u5, u6⟩ := hw
  obtain ⟨⟨a1, a2, a3⟩, a4, a5, a6⟩ := id F
  have s20 : so0 < 20 := by omega
  have n1 : so0 ≠ 1 := by omega
  have hX : lX s e0 ↔ so0 ≠ 11 ∧ s.1 438 f < 0 := ⟨fun ⟨y, f', y1, y2, y3⟩ => by
    have ef : f = f' := (nI_eq (by omega) (by omega)).mp (u4.2.2.2.1.symm.trans y2)
    subst ef
    refine ⟨?_, y3⟩
    rcases y with y | y
    · have := nI_lit s20 9 (by decide) u4.1 y
      omega
    · have := nI_lit s20 10 (by decide) u4.1 y
      omega, fun ⟨y, y3⟩ => ⟨by
    rcases hs with rfl | rfl | rfl
    · exact Or.inl u4.1
    · exact Or.inr u4.1
    · exact absurd rfl y, f, a3, u4.2.2.2.1, y3⟩⟩
  refine ⟨X, u2, Q.2.2.2.2.2.2.2.1 e0 X u1 u4.2.1 u2, u5, fun u tR a b => ?_⟩
  obtain ⟨cU, cV⟩ := lu_call (s := s) (m := m) (na := na) tR hs a3
  have lh := lU_hi Q u1 u4 s20 u2
  have key : rF nt s r m e0 a ↔ ((so0 ≠ 11 ∧ s.1 438 f < 0 ∧ a = 4) ∨ (¬ (so0 ≠ 11 ∧ s.1 438 f < 0) ∧ cl_S s so0 f na u (nt 3) a)) := by
    unfold rF cl_S
    rw [hX, lh.1, lh.2, cU, cV, and_assoc]
  refine ⟨fun ⟨z, hz, h, hb, hF⟩ => ?_, fun ⟨hb, h⟩ => ⟨e0, u1, ⟨K, V, so0, X, pl, f, nI ln, nI na, a1, a2, s20, a4, a5, a6, a3, u2, u3, ok, u4, u5, u6, Or.inl ⟨rfl, n1⟩⟩, ?_, key.mpr h⟩⟩
  · obtain ⟨so, X', pl', spot', ex', x3, x8, x9, x10, x11, x12, x13, x14⟩ := h.get F
    have es := uq so x10
    subst es
    have ee := Q.call1 hz u1 hs x11.1 u4.1 (x11.2.2.2.1.trans u4.2.2.2.1.symm) (x11.2.2.1.trans (x13.symm.trans (u6.trans u4.2.2.1.symm)))
    subst ee
    exact ⟨by rw [hb, u4.2.2.1]; exact u6.symm, key.mp hF⟩
  · rw [hb, u4.2.2.1]
    exact u6
theorem lu_1 : lu_R nt s r m 1 X hm ↔ un_R nt r 0 X := by
  refine ⟨fun y => ?_, fun y => Or.inl ⟨by decide, y⟩⟩
  rcases y with ⟨y, z⟩ | ⟨y, z⟩ | ⟨y, z⟩ | ⟨y, z⟩ | ⟨y, z⟩ | ⟨y, z⟩ | ⟨kc1, hk, ⟨y, z⟩ | ⟨y, z⟩ | ⟨y, z⟩ | ⟨y, z⟩⟩
  · exact z
  all_goals omega
theorem lu_4 : lu_R nt s r m 4 X hm ↔ un_R nt r 2 X := by
  refine ⟨fun y => ?_, fun y => Or.inr (Or.inr (Or.inl ⟨rfl, y⟩))⟩
  rcases y with ⟨y, z⟩ | ⟨y, z⟩ | ⟨y, z⟩ | ⟨y, z⟩ | ⟨y, z⟩ | ⟨y, z⟩ | ⟨kc1, hk, ⟨y, z⟩ | ⟨y, z⟩ | ⟨y, z⟩ | ⟨y, z⟩⟩
  · omega
  · omega
  · exact z
  all_goals omega
theorem lu_8 : lu_R nt s r m 8 X hm ↔ ¬ pt_R (nt 2) r X := by
  refine ⟨fun y => ?_, fun y => Or.inr (Or.inr (Or.inr (Or.inl ⟨rfl, y⟩)))⟩
  rcases y with ⟨y, z⟩ | ⟨y, z⟩ | ⟨y, z⟩ | ⟨y, z⟩ | ⟨y, z⟩ | ⟨y, z⟩ | ⟨kc1, hk, ⟨y, z⟩ | ⟨y, z⟩ | ⟨y, z⟩ | ⟨y, z⟩⟩
  · omega
  · omega
  · omega
  · exact z
  all_goals omega
theorem lu_5 (hx : kx_R nt s 5 hm kc) : lu_R nt s r m 5 X hm ↔ no_R 971 972 6 r kc X := by
  refine ⟨fun y => ?_, fun y => Or.inr (Or.inr (Or.inr (Or.inr (Or.inr (Or.inr ⟨kc, hx, Or.inl ⟨rfl, y⟩⟩)))))⟩
  rcases y with ⟨y, z⟩ | ⟨y, z⟩ | ⟨y, z⟩ | ⟨y, z⟩ | ⟨y, z⟩ | ⟨y, z⟩ | ⟨kc1, hk, ⟨y, z⟩ | ⟨y, z⟩ | ⟨y, z⟩ | ⟨y, z⟩⟩
  · omega
  · omega
  · omega
  · omega
  · omega
  · omega
  · rw [hx.eq hk]
    exact z
  all_goals omega
theorem lu_6 (hx : kx_R nt s 6 hm kc) : lu_R nt s r m 6 X hm ↔ no_R 973 974 4 r kc X := by
  refine ⟨fun y => ?_, fun y => Or.inr (Or.inr (Or.inr (Or.inr (Or.inr (Or.inr ⟨kc, hx, Or.inr (Or.inl ⟨Or.inl rfl, y⟩)⟩)))))⟩
  rcases y with ⟨y, z⟩ | ⟨y, z⟩ | ⟨y, z⟩ | ⟨y, z⟩ | ⟨y, z⟩ | ⟨y, z⟩ | ⟨kc1, hk, ⟨y, z⟩ | ⟨y, z⟩ | ⟨y, z⟩ | ⟨y, z⟩⟩
  · omega
  · omega
  · omega
  · omega
  · omega
  · omega
  · omega
  · rw [hx.eq hk]
    exact z
  all_goals omega
theorem lu_14 (hx : kx_R nt s 14 hm kc) : lu_R nt s r m 14 X hm ↔ no_R 975 979 8 r kc X := by
  refine ⟨fun y => ?_, fun y => Or.inr (Or.inr (Or.inr (Or.inr (Or.inr (Or.inr ⟨kc, hx, Or.inr (Or.inr (Or.inr ⟨rfl, y⟩))⟩)))))⟩
  rcases y with ⟨y, z⟩ | ⟨y, z⟩ | ⟨y, z⟩ | ⟨y, z⟩ | ⟨y, z⟩ | ⟨y, z⟩ | ⟨kc1, hk, ⟨y, z⟩ | ⟨y, z⟩ | ⟨y, z⟩ | ⟨y, z⟩⟩
  · omega
  · omega
  · omega
  · omega
  · omega
  · omega
  · omega
  · omega
  · omega
  · rw [hx.eq hk]
    exact z
/-- a line by what it may name -/
theorem sk_D (h : sk_R n2 n3 E v s r t e p l sg m f td ln so K V) : ((K = 1 ∧ V = 9 ∧ td < 8 ∧ (r.1 991 ln = -1 ∨ wl_R s r f ln l 1 0 (nI (8 * f + td)) 0)) ∨ (K = 2 ∧ V = 9 ∧ vr_L v s r f td ln l 0) ∨ (((K = 6 ∨ K = 15 ∨ K = 18) ∧ V = 9) ∨ (K = 20 ∧ V = 3)) ∨ (K = 14 ∧ V = 9 ∧ wl_R s r f ln l 4 0 (nI ln) 0) ∨ (K = 16 ∧ V = 9 ∧ wl_R s r f ln l 8 0 (nI ln) 0 ∧ wl_R s r f ln l 8 1 (nI ln) 0) ∨ (((K = 9 ∧ V = 9) ∨ ((K = 11 ∨ K = 20) ∧ V = 0)) ∧ wl_R s r f ln l 5 0 (nI ln) 0) ∨ ((((K = 12 ∨ K = 13) ∧ V = 9) ∨ ((K = 11 ∨ K = 20) ∧ V = 1)) ∧ wl_R s r f ln l 6 0 (nI ln) 0) ∨ (((K = 3 ∨ K = 4 ∨ K = 5 ∨ K = 7 ∨ K = 8 ∨ K = 10 ∨ K = 17 ∨ K = 19) ∧ V = 9) ∨ ((K = 11 ∨ K = 20) ∧ V = 2) ∨ (K = 20 ∧ V = 4))) ∧ ((K = 6 ∨ K = 14 ∨ ((K = 11 ∨ K = 20) ∧ V = 0)) → in_R v s r f td ln l) := by
  have ev : ev_R n2 n3 E v s r t e p l sg m f td ln so V → (V = 0 ∧ wl_R s r f ln l 5 0 (nI ln) 0 ∧ in_R v s r f td ln l) ∨ (V = 1 ∧ wl_R s r f ln l 6 0 (nI ln) 0) ∨ V = 2 := fun h => by
    rcases h with ⟨_, h1, h2, _, _, h3⟩ | ⟨_, h1, h2⟩ | ⟨_, h1, _⟩
    · exact Or.inl ⟨h1, h2, h3⟩
    · exact Or.inr (Or.inl ⟨h1, h2⟩)
    · exact Or.inr (Or.inr h1)
  have evD : (K = 11 ∨ K = 20) → ev_R n2 n3 E v s r t e p l sg m f td ln so V → ((((K = 9 ∧ V = 9) ∨ ((K = 11 ∨ K = 20) ∧ V = 0)) ∧ wl_R s r f ln l 5 0 (nI ln) 0) ∨ ((((K = 12 ∨ K = 13) ∧ V = 9) ∨ ((K = 11 ∨ K = 20) ∧ V = 1)) ∧ wl_R s r f ln l 6 0 (nI ln) 0) ∨ (((K = 3 ∨ K = 4 ∨ K = 5 ∨ K = 7 ∨ K = 8 ∨ K = 10 ∨ K = 17 ∨ K = 19) ∧ V = 9) ∨ ((K = 11 ∨ K = 20) ∧ V = 2) ∨ (K = 20 ∧ V = 4))) ∧ ((K = 6 ∨ K = 14 ∨ ((K = 11 ∨ K = 20) ∧ V = 0)) → in_R v s r f td ln l) := fun hk h => by
    rcases ev h with ⟨h1, h2, h3⟩ | ⟨h1, h2⟩ | h1
    · exact ⟨Or.inl ⟨Or.inr ⟨hk, h1⟩, h2⟩, fun _ => h3⟩
    · exact ⟨Or.inr (Or.inl ⟨Or.inr ⟨hk, h1⟩, h2⟩), fun y => by omega⟩
    · exact ⟨Or.inr (Or.inr (Or.inr (Or.inl ⟨hk, h1⟩))), fun y => by omega⟩
  rcases h with ⟨_, y, y2, ⟨_, _, cnt, y3, y4, _⟩, _, _, _, y5, _⟩ | ⟨_, y, y2, y3, _⟩ | ⟨y, y2, _⟩ | ⟨y, y2, _⟩ | ⟨_, y, y9, _, y2⟩ | ⟨_, y, y2, _⟩ | ⟨y, y2, _⟩ | ⟨_, y, y2⟩ | ⟨y, y2⟩ | ⟨_, y, y2, y3⟩ | ⟨_, y, y2, y3, y4⟩ | ⟨_, y, y9, _⟩ | ⟨_, y, y2, _, _, _, _, _, _, _, _, _, _, _, _, _, _, _, _, y3, y4, _⟩ | ⟨y, _⟩ | ⟨_, y, y2⟩ | ⟨_, y, y2⟩ | ⟨y, y2⟩
  · exact ⟨Or.inl ⟨y, y2, by omega, y5⟩, fun z => by omega⟩
  · exact ⟨Or.inr (Or.inl ⟨y, y2, y3⟩), fun z => by omega⟩
  · exact ⟨Or.inr (Or.inr (Or.inr (Or.inr (Or.inr (Or.inr (Or.inr (Or.inl ⟨by omega, y2⟩))))))), fun z => by omega⟩
  · exact ⟨Or.inr (Or.inr (Or.inr (Or.inr (Or.inr (Or.inr (Or.inr (Or.inl ⟨by omega, y2⟩))))))), fun z => by omega⟩
  · exact ⟨Or.inr (Or.inr (Or.inl (Or.inl ⟨Or.inl y, y9⟩))), fun _ => y2⟩
  · exact ⟨Or.inr (Or.inr (Or.inr (Or.inr (Or.inr (Or.inr (Or.inr (Or.inl ⟨by omega, y2⟩))))))), fun z => by omega⟩
  · rcases y with ⟨_, y, y3⟩ | ⟨_, y, y3⟩
    · exact ⟨Or.inr (Or.inr (Or.inr (Or.inr (Or.inr (Or.inl ⟨Or.inl ⟨y, y2⟩, y3⟩))))), fun z => by omega⟩
    · exact ⟨Or.inr (Or.inr (Or.inr (Or.inr (Or.inr (Or.inr (Or.inl ⟨Or.inl ⟨Or.inl y, y2⟩, y3⟩)))))), fun z => by omega⟩
  · exact ⟨Or.inr (Or.inr (Or.inr (Or.inr (Or.inr (Or.inr (Or.inr (Or.inl ⟨by omega, y2⟩))))))), fun z => by omega⟩
  · obtain ⟨q1, q2⟩ := evD (Or.inl y) y2
    exact ⟨Or.inr (Or.inr (Or.inr (Or.inr (Or.inr q1)))), q2⟩
  · exact ⟨Or.inr (Or.inr (Or.inr (Or.inr (Or.inr (Or.inr (Or.inl ⟨Or.inl ⟨Or.inr y, y2⟩, y3⟩)))))), fun z => by omega⟩
  · exact ⟨Or.inr (Or.inr (Or.inr (Or.inl ⟨y, y2, y3⟩))), fun _ => Or.inr y4⟩
  · exact ⟨Or.inr (Or.inr (Or.inl (Or.inl ⟨Or.inr (Or.inl y), y9⟩))), fun z => by omega⟩
  · exact ⟨Or.inr (Or.inr (Or.inr (Or.inr (Or.inl ⟨y, y2, y3, y4⟩)))), fun z => by omega⟩
  · refine ⟨Or.inr (Or.inr (Or.inl ?_)), fun z => ?_⟩
    · exact y.elim (fun q => Or.inl ⟨Or.inr (Or.inr q.2.1), q.2.2⟩) (fun q => Or.inr ⟨q.2.1, q.2.2⟩)
    · have : K = 18 ∨ (K = 20 ∧ V = 3) := y.elim (fun q => Or.inl q.2.1) (fun q => Or.inr ⟨q.2.1, q.2.2⟩)
      omega
  · exact ⟨Or.inr (Or.inr (Or.inr (Or.inr (Or.inr (Or.inr (Or.inr (Or.inl ⟨by omega, y2⟩))))))), fun z => by omega⟩
  · exact ⟨Or.inr (Or.inr (Or.inr (Or.inr (Or.inr (Or.inr (Or.inr (Or.inr (Or.inr ⟨y, y2⟩)))))))), fun z => by omega⟩
  · obtain ⟨q1, q2⟩ := evD (Or.inr y) y2
    exact ⟨Or.inr (Or.inr (Or.inr (Or.inr (Or.inr q1)))), q2⟩
end
