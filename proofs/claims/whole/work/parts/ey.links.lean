/-! Level 2: names settled: what every link of a module is, and its turn. -/
/-- all that settling stands on -/
def sQ (W : Nat) (nt : Nat → Nat) (a t e p l sg m st : Nat) (s r : t_S) : Prop := sC W nt s r ∧ (∀ x, x < l → mL (nt 2) (nt 3) s r 0 m 0 st x) ∧ (∀ x, x < m → mN True (nt 2) (nt 3) s r 0 l 0 st x) ∧ (∀ ln, ln < st → st_R (nt 2) (nt 3) s r t e p l sg m st ln) ∧ SA s ∧ mCP (nt 3) s r l ∧ (s.1 846 6 = nI l ∧ l ≤ 6000 ∧ s.1 316 8 = nI a ∧ a ≤ 3000 ∧ s.1 353 9 = nI t ∧ t ≤ 3000 ∧ s.1 334 2 = nI e ∧ e ≤ 15000 ∧ s.1 428 0 = nI (nt 2) ∧ m ≤ 13000 ∧ st ≤ 400) ∧ (∀ x X, x < l → s.1 850 x = nI (66 + X) → X < 7934 → 66 + X < W) ∧ (∀ X, X < 7934 → 66 + X < W → (s.1 7 (66 + X) = 0 ↔ ¬ ew_W m r X)) ∧ ∀ ln, ln < st → r.1 988 ln = 2 → ∃ k, k < m ∧ r.1 996 ln = nI k
section
variable {W a t e p l sg m st x n2 n3 ln f td : Nat} {nt : Nat → Nat} {s r : t_S} {v : Nat → Nat} {E : en_S}
theorem sp_nat {y : Int32} {n : Nat} (h0 : 0 ≤ y.toInt) (h : y.toInt < n) (hn : n ≤ 16000) : ∃ sp : Nat, sp < n ∧ y = nI sp := ⟨y.toInt.toNat, by omega, by
  rw [← Int32.toInt_inj, nI_toInt (by omega)]
  omega⟩
theorem sl_v_inj {V V' : Nat} (h : V < 10) (h' : V' < 10) (e : sl_v V = sl_v V') : V = V' := by
  have : ∀ a, a < 10 → ∀ b, b < 10 → sl_v a = sl_v b → a = b := by decide
  exact this V h V' h' e
/-- a line of a call -/
theorem sk_call {so K V : Nat} (h : sk_R n2 n3 E v s r t e p l sg m f td ln so K V) (hK : K = 6 ∨ K = 15 ∨ K = 18 ∨ (K = 20 ∧ V = 3)) : ∃ w lo hi na so', r.1 995 ln = nI w ∧ cl_R n2 n3 E s r t e p l sg m w lo hi na ∧ wl_R s r f ln l so' 0 (nI ln) (nI na) ∧ ((K = 6 ∧ so' = 9) ∨ (K = 15 ∧ so' = 11) ∨ ((K = 18 ∨ K = 20) ∧ so' = 10)) := by
  rcases h with ⟨_, y, _⟩ | ⟨_, y, _⟩ | ⟨y, _⟩ | ⟨y, _⟩ | ⟨_, y, _, ⟨w, lo, hi, na, y1, y2, y3, y4⟩, _⟩ | ⟨_, y, _⟩ | ⟨y, _⟩ | ⟨_, y, _⟩ | ⟨y, _⟩ | ⟨_, y, _⟩ | ⟨_, y, _⟩ | ⟨_, y, _, w, lo, mid, hi, t0, n, na, y1, y2, y3, y4, y5, y6⟩ | ⟨_, y, _⟩ | ⟨y, w, lo, hi, na, y1, y2, y3, y4⟩ | ⟨_, y, _⟩ | ⟨_, y, y2⟩ | ⟨y, y2⟩
  · omega
  · omega
  · omega
  · omega
  · exact ⟨w, lo, hi, na, 9, y1, y3, y4, Or.inl ⟨y, rfl⟩⟩
  · omega
  · have : K = 9 ∨ K = 12 := y.elim (fun z => Or.inl z.2.1) (fun z => Or.inr z.2.1)
    omega
  · omega
  · omega
  · omega
  · omega
  · exact ⟨w, mid, hi, na, 11, y2, y5, y6, Or.inr (Or.inl ⟨y, rfl⟩)⟩
  · omega
  · exact ⟨w, lo, hi, na, 10, y1, y3, y4, Or.inr (Or.inr ⟨by omega, rfl⟩)⟩
  · omega
  · omega
  · have : V = 0 ∨ V = 1 ∨ V = 2 := by
      rcases y2 with ⟨_, z, _⟩ | ⟨_, z, _⟩ | ⟨_, z, _⟩ <;> omega
    omega
theorem E_f_lt {f' : Nat} (h : mE n2 n3 r (E_f f td v)) (hf : f < 40) : f < n3 := by
  obtain ⟨_, h⟩ := h
  rcases h with ⟨y, _⟩ | ⟨k, _, _, _, k8, y, _⟩ | ⟨f2, _, _, h3, h40, y, _⟩
  · exact absurd y (hm_no (k := 0) (by decide) hf).2.2.1
  · exact absurd y.symm (hm_no k8 hf).1
  · have : f = f2 := (nI_eq (by omega) (by omega)).mp y
    omega
theorem sQ.line {y : Nat} (Q : sQ W nt a t e p l sg m st s r) (hl : ln < st) (h : sl_B s r ln y) (hy : y < l) : ∃ so X pl f sp : Nat, ∃ ex : Int32, so < 20 ∧ X < 7934 ∧ pl ≤ 12000 ∧ f < 40 ∧ f < nt 3 ∧ hi_e s y (nI so) X pl (nI f) (nI sp) ex ∧ ((so = 1 ∧ sp < 320) ∨ ((so = 4 ∨ so = 5 ∨ so = 6 ∨ so = 8 ∨ so = 14) ∧ sp = ln) ∨ ((so = 9 ∨ so = 10 ∨ so = 11) ∧ sp = ln ∧ ∃ na w G, ex = nI na ∧ na ≤ 12 ∧ r.1 995 ln = nI w ∧ w < m ∧ ch_R r w na G)) := by
  obtain ⟨K, V, so, side, X, pl, f, spot, ex, x1, x2, x3, x4, x5, x6, x7, x8, x9, x10, x11, x12, x13, x14⟩ := h
  have n40 : nt 3 ≤ 40 := (Q.1.1.1 3 (by decide)).1
  obtain ⟨f', td, v, so', K', V', ⟨z1, z2, z3, z4, z5⟩, z6, z7, z8, z9, z10, z11, _, _, _, _, _, zz⟩ := Q.2.2.2.1 ln hl
  have ef : f' = f := (nI_eq (by omega) (by omega)).mp (z6.symm.trans x6)
  have eK : K' = K := (nI_eq (by omega) (by omega)).mp (z10.symm.trans x4)
  have eV : V' = V := sl_v_inj z5 x2 (z11.symm.trans x5)
  subst ef eK eV
  have f3 := E_f_lt (f' := 0) z8 z1
  have st4 : st ≤ 400 := Q.2.2.2.2.2.2.1.2.2.2.2.2.2.2.2.2.2
  by_cases c : so = 9 ∨ so = 10 ∨ so = 11
  · have hK : K' = 6 ∨ K' = 15 ∨ K' = 18 ∨ (K' = 20 ∧ V' = 3) := by unfold sl_ok at x10; omega
    obtain ⟨w, lo, hi, na, so2, w1, w2, ⟨e0, X0, pl0, u1, u2, u3, u4, u5, u6⟩, w4⟩ := sk_call zz hK
    have es : so2 = so ∧ side = 0 := by unfold sl_ok at x10; omega
    obtain ⟨rfl, rfl⟩ := es
    have eX : X0 = X := (nI_eq (by omega) (by omega)).mp (u5.symm.trans x12)
    have ep : pl0 = pl := (nI_eq (by omega) (by omega)).mp (u6.symm.trans x13)
    have tk : tc_K (nI so2) := by
      rcases c with rfl | rfl | rfl
      · exact Or.inl rfl
      · exact Or.inr (Or.inl rfl)
      · exact Or.inr (Or.inr rfl)
    have ne : ∀ i j : Nat, i < j → j < l → s.1 849 i = nI so2 → s.1 849 j = nI so2 → s.1 851 i = nI f' → s.1 851 j = nI f' → s.1 848 i ≠ s.1 848 j := fun i j ij jl a1 a2 a3 a4 a5 => by
      obtain ⟨g, g1, g2, _, _, g4⟩ := Q.2.2.2.2.2.1 j jl (Or.inl (by rw [a2]; exact tk))
      have := (g4 i ij (a3.trans (a4.symm.trans g2))).1 (by rw [a2]; exact tk) (by rw [a1]; exact tk)
      rw [a5] at this
      omega
    have ee : e0 = y := by
      rcases Nat.lt_trichotomy e0 y with q | q | q
      · exact absurd (u4.2.2.1.trans ((congrArg nI ep).trans x11.2.2.1.symm)) (ne e0 y q hy u4.1 x11.1 u4.2.2.2.1 x11.2.2.2.1)
      · exact q
      · exact absurd (x11.2.2.1.trans ((congrArg nI ep).symm.trans u4.2.2.1.symm)) (ne y e0 q u1 x11.1 u4.1 x11.2.2.2.1 u4.2.2.2.1)
    subst ee
    obtain ⟨EE, G', c1, c2, c3, c4, _⟩ := w2
    have e1 : spot = nI ln := x11.2.2.2.2.1.symm.trans u4.2.2.2.2.1
    have e2 : ex = nI na := x11.2.2.2.2.2.symm.trans u4.2.2.2.2.2
    exact ⟨so2, X, pl, f', ln, ex, x3, x8, x9, z1, f3, by rw [← e1]; exact x11, Or.inr (Or.inr ⟨c, rfl, na, w, G', e2, c1, w1, c2, c4⟩)⟩
  · rcases x14 with ⟨x14, ne1⟩ | ⟨y1, x', hx', x14⟩
    · exact ⟨so, X, pl, f', ln, ex, x3, x8, x9, z1, f3, by rw [← x14]; exact x11, Or.inr (Or.inl ⟨by unfold sl_ok at x10; omega, rfl⟩)⟩
    · exact ⟨so, X, pl, f', x', ex, x3, x8, x9, z1, f3, by rw [← x14]; exact x11, Or.inl ⟨y1, hx'⟩⟩
/-- a link's home, by where its exp stands -/
theorem mE.kx {so : Nat} (h : mE (nt 2) (nt 3) r E) (hs : so = 7 ∨ so = 12) : ∃ kc, kx_R nt s so E.1 kc := by
  obtain ⟨hm, cx, td, ba, kn, v⟩ := E
  obtain ⟨_, h⟩ := h
  rcases h with ⟨y, _⟩ | ⟨k, _, _, h2, k8, y, _⟩ | ⟨f2, _, _, h3, h40, y, _⟩
  · exact ⟨-1, Or.inr (Or.inr ⟨y, rfl⟩)⟩
  · exact ⟨_, Or.inr (Or.inl ⟨k, h2, k8, y, rfl⟩)⟩
  · exact ⟨_, Or.inl ⟨f2, h3, h40, y, rfl⟩⟩
/-- every link: what it is, what its turn comes to -/
theorem sQ.turn (Q : sQ W nt a t e p l sg m st s r) (hx : x < l) : ∃ so X hm sp ex, le_D s x so X hm sp ex ∧ ∀ s' S, l2_fr sn_W s s' → ls_R (s'.1 846 7) (s'.1 846 8) S → ∃ y, f_X3_settleName (nI x) s' = some y ∧ lT_O nt s r m so X hm sp ex (s.1 848 x) S s' y := by
  obtain ⟨hC, hL, _, _, hS, _, ⟨c6, l6, c8, a3, c9, t3, c2, e15, c0, m13, st4⟩, hW, hE, _⟩ := id Q
  have he : x < 6002 := by omega
  have xi : (x : Int) < (s.1 846 6).toInt := by rw [c6, nI_toInt (by omega)]; omega
  have n40 : nt 3 ≤ 40 := (hC.1.1 3 (by decide)).1
  have n8 : nt 2 ≤ 8 := hC.n8
  rcases hL x hx with ⟨k, k1, k2, k3, X, hX, y9, y0, _⟩ | ⟨E, k, hmE, k1, k2, h, _⟩ | ⟨k, i, cnt, X, pl, x0, x1, x2, x3, x4, x5, x6, ⟨y9, y0, y8, y1, y2, y3⟩, _⟩ | ⟨f, X, pl, x0, x1, x2, x3, ⟨y9, y0, y8, y1, y2, y3⟩, _⟩ | ⟨ln, _, l2, h⟩
  · obtain ⟨b0, b1, _⟩ := hS.2.1 x xi (by rw [y9]; rfl)
    rw [c8, nI_toInt (by omega)] at b1
    obtain ⟨sp, p1, p2⟩ := sp_nat b0 b1 (by omega)
    have D : le_D s x 0 X (s.1 851 x) sp (s.1 853 x) := ⟨⟨by decide, hX, by omega⟩, y9, y0, rfl, p2, rfl⟩
    exact ⟨_, _, _, _, _, D, fun s' S f L => tn_0 hC f L he D (hW x X hx y0 hX) (by omega)⟩
  · rcases h with ⟨_, X, hX, y9, y0, _, _, y1⟩ | ⟨_, ⟨X, hX, y9, y0, _, _, y1⟩, _⟩ | ⟨_, ⟨X, hX, y9, y0, _, _, y1⟩, _⟩
    · obtain ⟨b0, b1, _⟩ := hS.2.2.1 x xi (by rw [y9]; rfl)
      rw [c9, nI_toInt (by omega)] at b1
      obtain ⟨sp, p1, p2⟩ := sp_nat b0 b1 (by omega)
      have D : le_D s x 13 X (s.1 851 x) sp (s.1 853 x) := ⟨⟨by decide, hX, by omega⟩, y9, y0, rfl, p2, rfl⟩
      exact ⟨_, _, _, _, _, D, fun s' S f L => tn_13 hC f L he D (hW x X hx y0 hX) (by omega) (hE X hX (hW x X hx y0 hX))⟩
    · obtain ⟨b0, b1, _⟩ := hS.2.2.2 x xi (by rw [y9]; exact Or.inr rfl)
      rw [c2, nI_toInt (by omega)] at b1
      obtain ⟨sp, p1, p2⟩ := sp_nat b0 b1 (by omega)
      obtain ⟨kc, hk⟩ := hmE.kx (s := s) (Or.inr rfl)
      have D : le_D s x 12 X E.1 sp (s.1 853 x) := ⟨⟨by decide, hX, by omega⟩, y9, y0, y1, p2, rfl⟩
      exact ⟨_, _, _, _, _, D, fun s' S f L => tn_12 hC f L he D hk (hE X hX (hW x X hx y0 hX))⟩
    · obtain ⟨b0, b1, _⟩ := hS.2.2.2 x xi (by rw [y9]; exact Or.inl rfl)
      rw [c2, nI_toInt (by omega)] at b1
      obtain ⟨sp, p1, p2⟩ := sp_nat b0 b1 (by omega)
      obtain ⟨kc, hk⟩ := hmE.kx (s := s) (Or.inl rfl)
      have D : le_D s x 7 X E.1 sp (s.1 853 x) := ⟨⟨by decide, hX, by omega⟩, y9, y0, y1, p2, rfl⟩
      exact ⟨_, _, _, _, _, D, fun s' S f L => tn_7 hC f L he D hk⟩
  · have D : le_D s x 2 X (-2 - nI k) (8 * k + i) 0 := ⟨⟨by decide, x5, by omega⟩, y9, y0, y1, y2, y3⟩
    exact ⟨_, _, _, _, _, D, fun s' S f L => tn_2 hC f L he D (hW x X hx y0 x5) (by omega)⟩
  · have D : le_D s x 3 X (nI f) f 0 := ⟨⟨by decide, x2, by omega⟩, y9, y0, y1, y2, y3⟩
    exact ⟨_, _, _, _, _, D, fun s' S f' L => tn_3 hC f' L he D (Or.inl ⟨f, x0, x1, rfl, rfl⟩) (by omega)⟩
  · obtain ⟨so, X, pl, f, sp, ex, s20, hX, hpl, f40, f3, ⟨y9, y0, y8, y1, y2, y3⟩, cs⟩ := Q.line l2 h hx
    have D : le_D s x so X (nI f) sp ex := ⟨⟨s20, hX, by omega⟩, y9, y0, y1, y2, y3⟩
    have w := hW x X hx y0 hX
    refine ⟨so, X, nI f, sp, ex, D, fun s' S f' L => ?_⟩
    rcases cs with ⟨rfl, c1⟩ | ⟨c1, c3⟩ | ⟨c1, c3, c4⟩
    · exact tn_1 hC f' L he D w c1
    · have sp4 : sp < 400 := by omega
      rcases c1 with rfl | rfl | rfl | rfl | rfl
      · exact tn_4 hC f' L he D w sp4
      · exact tn_5 hC f' L he D f3 f40 rfl sp4
      · exact tn_6 hC f' L he D f3 f40 rfl sp4
      · exact tn_8 hC f' L he D c0
      · exact tn_14 hC f' L he D f3 f40 rfl sp4
    · obtain ⟨na, w', G, c4, _⟩ := c4
      exact tn_9 hC f' L he D c1 w f40 rfl (by omega) ⟨na, c4⟩ rfl
end
