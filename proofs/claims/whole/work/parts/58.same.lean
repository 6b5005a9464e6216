/-! Level 2: the token that both sides look at is the same. -/
/-- the reserved words stand in the class's table -/
def rw_I (W : Nat) (H : Nat → Int64) (T : Nat → Int32) : Prop := 66 ≤ W ∧ ∀ w, w < 66 → H w = wk_h cb (cv_F w) (cv_n w) ∧ T w = wk_t cb (cv_F w) (cv_n w)
theorem cb_pos {w : Nat} (hw : w < 66) : ∀ i, i < cv_n w → 0 < cb (cv_F w + i) ∧ cb (cv_F w + i) < 256 := fun i hi => by
  obtain ⟨t1, t2, t3, t4, t5, t6⟩ := cv_tab w hw
  have := cb_ok (cv_F w + i) (by omega)
  omega
/-- two reserved words that a row of signs is are one -/
theorem rv_one {B : Nat → Nat} {p n v w : Nat} (hB : ∀ i, i < n → B (p + i) < 256) (hw : w < 66) (hv : v < 66) (h : rv_m B p n v) (hn : cv_n w = n) (hc : ∀ i, i < n → cb (cv_F w + i) = B (p + i)) : v = pv w := by
  obtain ⟨x, hx, rfl⟩ := pv_onto v hv
  obtain ⟨p1, p2, p3⟩ := pv_tab x hx
  obtain ⟨h1, h2⟩ := h
  have hxn : cv_n x = n := by omega
  have q : ∀ i, i < n → cb (cv_F x + i) = B (p + i) := fun i hi => by
    have a := (p3 i (by omega)).symm.trans (h2 i hi)
    have b := cb_pos hx i (by omega)
    have c := hB i hi
    exact (nI_eq (by omega) (by omega)).mp a
  by_cases e : x = w
  · rw [e]
  · exfalso
    by_cases f : x < w
    · exact cv_diff w hw x f ⟨by omega, fun i hi => (q i (by omega)).trans (hc i (by omega)).symm⟩
    · exact cv_diff x hx w (by omega) ⟨by omega, fun i hi => (hc i (by omega)).trans (q i (by omega)).symm⟩
theorem rv_word {B : Nat → Nat} {p n i W : Nat} {H : Nat → Int64} {T : Nat → Int32} {r : Int32} (hn : n ≤ 12) (hB : ∀ j, j < n → 0 < B (p + j) ∧ B (p + j) < 256) (hR : rw_I W H T) (hD : ∀ a b, a < W → b < W → H a = H b → T a = T b → a = b) (hi : i < W) (eH : H i = wk_h B p n) (eT : T i = wk_t B p n) (hr : rv_Q B p n r) : (i < 66 ∧ r = nI (pv i)) ∨ (66 ≤ i ∧ r = -1) := by
  have tab : ∀ w, w < 66 → (cv_n w = n ∧ ∀ j, j < n → cb (cv_F w + j) = B (p + j)) → i = w := fun w hw h => by
    have q := (wk_same (B := cb) (C := B) (p := cv_F w) (q := p) (n := cv_n w) (m := n) (cv_tab w hw).2.1 hn (cb_pos hw) hB).mpr ⟨h.1, fun j hj => h.2 j (by omega)⟩
    have x := hR.2 w hw
    exact hD i w hi (by have := hR.1; omega) (eH.trans (q.1.symm.trans x.1.symm)) (eT.trans (q.2.symm.trans x.2.symm))
  by_cases c : i < 66
  · refine Or.inl ⟨c, ?_⟩
    have x := hR.2 i c
    have q := (wk_same (B := cb) (C := B) (p := cv_F i) (q := p) (n := cv_n i) (m := n) (cv_tab i c).2.1 hn (cb_pos c) hB).mp ⟨x.1.symm.trans eH, x.2.symm.trans eT⟩
    obtain ⟨p1, p2, p3⟩ := pv_tab i c
    have hm : rv_m B p n (pv i) := ⟨by omega, fun j hj => by rw [p3 j (by omega), q.2 j (by omega)]⟩
    rcases hr with ⟨v, v1, v2, v3, v4⟩ | ⟨v1, v2⟩
    · have := rv_one (fun j hj => (hB j hj).2) c v1 v2 q.1 (fun j hj => q.2 j (by omega))
      rw [v4, this]
    · exact absurd hm (v1 _ p1)
  · refine Or.inr ⟨by omega, ?_⟩
    rcases hr with ⟨v, v1, v2, v3, v4⟩ | ⟨v1, v2⟩
    · exfalso
      obtain ⟨w, hw, rfl⟩ := pv_onto v v1
      obtain ⟨p1, p2, p3⟩ := pv_tab w hw
      obtain ⟨m1, m2⟩ := v2
      have := tab w hw ⟨by omega, fun j hj => by
        have a := (p3 j (by omega)).symm.trans (m2 j hj)
        have b := cb_pos hw j (by omega)
        have d := (hB j hj).2
        exact (nI_eq (by omega) (by omega)).mp a⟩
      omega
    · exact v2
/-- a sign's value in the reference, out of its number in the class -/
def sg (v : Nat) : Nat := if v = 10 then 256 * 46 + 46 else if v = 16 then 256 * 38 + 38 else if v = 17 then 256 * 124 + 124 else if v = 13 then 256 * 33 + 61 else if v = 11 then 256 * 58 + 61 else if v = 14 then 256 * 60 + 61 else if v = 12 then 256 * 61 + 61 else if v = 15 then 256 * 62 + 61 else v
theorem sg_of {B : Nat → Nat} {L p : Nat} (h : lx_so B L p ≠ 5) : rs_v B L p = sg (lx_so B L p) := by
  unfold rs_v lx_so at *
  by_cases z : lx_two (B p) (lx_nxt B L p) = 0
  · rw [if_pos z] at h ⊢
    rw [if_pos z]
    by_cases o : lx_one (B p) = true
    · rw [if_pos o]
      have := tk_one o
      unfold sg
      rw [if_neg (by omega), if_neg (by omega), if_neg (by omega), if_neg (by omega), if_neg (by omega), if_neg (by omega), if_neg (by omega), if_neg (by omega)]
    · rw [if_neg o] at h
      exact absurd rfl h
  · rw [if_neg z, if_neg z]
    generalize lx_nxt B L p = d at *
    generalize B p = c at *
    unfold lx_two at z ⊢
    by_cases x1 : c = 46 ∧ d = 46
    · rw [if_pos x1, x1.1, x1.2]; rfl
    rw [if_neg x1] at z ⊢
    by_cases x2 : c = 38 ∧ d = 38
    · rw [if_pos x2, x2.1, x2.2]; rfl
    rw [if_neg x2] at z ⊢
    by_cases x3 : c = 124 ∧ d = 124
    · rw [if_pos x3, x3.1, x3.2]; rfl
    rw [if_neg x3] at z ⊢
    by_cases x4 : d = 61
    · rw [if_pos x4] at z ⊢
      rw [x4]
      by_cases y1 : c = 33
      · rw [if_pos y1, y1]; rfl
      rw [if_neg y1] at z ⊢
      by_cases y2 : c = 58
      · rw [if_pos y2, y2]; rfl
      rw [if_neg y2] at z ⊢
      by_cases y3 : c = 60
      · rw [if_pos y3, y3]; rfl
      rw [if_neg y3] at z ⊢
      by_cases y4 : c = 61
      · rw [if_pos y4, y4]; rfl
      rw [if_neg y4] at z ⊢
      by_cases y5 : c = 62
      · rw [if_pos y5, y5]; rfl
      rw [if_neg y5] at z
      exact absurd rfl z
    · rw [if_neg x4] at z
      exact absurd rfl z
/-- one token, as the class (c) and the reference (r) look at it; p: its place -/
def ts_A (c r : t_S) (B : Nat → Nat) (L W : Nat) (H : Nat → Int64) (T : Nat → Int32) (p : Nat) : Prop :=
  (c.1 1 8 = 4 ∧ r.1 950 5 = 0) ∨
  (∃ i, i < 66 ∧ c.1 1 8 = nI (200 + i) ∧ c.2.1 1 10 = lN i ∧ r.1 950 5 = 1 ∧ r.1 950 10 = nI (pv i)) ∨
  (∃ i n, 66 ≤ i ∧ i < W ∧ n ≤ 12 ∧ 0 < n ∧ p + n ≤ L ∧ (∀ j, j < n → 0 < B (p + j) ∧ B (p + j) < 256) ∧ H i = wk_h B p n ∧ T i = wk_t B p n ∧ c.1 1 8 = 1 ∧ c.2.1 1 10 = lN i ∧ r.1 950 5 = 1 ∧ r.1 950 10 = -1 ∧ r.1 950 7 = nI n) ∨
  (∃ v, v < 10 ^ 15 ∧ c.1 1 8 = 2 ∧ c.2.1 1 10 = lN v ∧ r.1 950 5 = 2 ∧ r.1 950 10 = -1 ∧ r.2.1 950 8 = lN v) ∨
  (∃ n, n ≤ 40 ∧ p + 1 + n < L ∧ (∀ j, j < n → lx_tx (B (p + 1 + j)) = true) ∧ c.1 1 8 = 3 ∧ c.2.1 1 10 = lN n ∧ r.1 950 5 = 3 ∧ r.1 950 10 = -1 ∧ r.1 950 7 = nI n) ∨
  (∃ v, ((33 ≤ v ∧ v ≤ 125) ∨ (10 ≤ v ∧ v ≤ 17)) ∧ c.1 1 8 = nI v ∧ r.1 950 5 = 4 ∧ r.1 950 10 = -1 ∧ r.1 950 9 = nI (sg v))
theorem ts_of {c r : t_S} {B : Nat → Nat} {L W n u : Nat} {V sl : Nat → Nat} {H : Nat → Int64} {T : Nat → Int32} (hc : lc_A c B L W V sl H T n u) (hr : lr_A r B L u) (hR : rw_I W H T) : ts_A c r B L W H T (tk_P B L u) := by
  obtain ⟨cT, cI, cA, cu, c7, c8, c9, c10, c11, c5⟩ := hc
  obtain ⟨rT, r2, r6, rle, rr⟩ := hr
  obtain ⟨a1, a2, a3, a4, a5, a6⟩ := cA
  have tok : (tk_P B L u < L ∧ tk_ok B L W H T (tk_P B L u) (c.1 3 u) (c.2.1 5 u)) ∨ (L ≤ tk_P B L u ∧ c.1 3 u = 4) := by
    by_cases x : u + 1 < n
    · exact Or.inl ⟨(a5 u x).1, (a5 u x).2.1⟩
    · have x : n - 1 = u := by omega
      rw [x] at a6
      rcases a6 with y | y
      · exact Or.inr y
      · exact Or.inl ⟨y.1, y.2.1⟩
  unfold ts_A
  rw [c8, c10]
  rcases tok with ⟨pL, ok⟩ | ⟨pL, e4⟩
  · rcases rr with ⟨x, _⟩ | ⟨_, hv, r4, rE, rt⟩
    · omega
    obtain ⟨t1, t2, t3, t4, t5⟩ := rt
    obtain ⟨o1, o2, o3, o4⟩ := ok
    generalize hp : tk_P B L u = p at *
    cases e1 : lx_le (B p) with
    | true =>
      obtain ⟨x1, x2, x3⟩ := t1 e1
      obtain ⟨en, el⟩ := rn_le5 (B := B) (p := p) rle
      have ra := lx_r_all (g := lx_wd) (B := B) (L := L) (L - p) p rfl
      have hB : ∀ j, j < tk_n B L p → 0 < B (p + j) ∧ B (p + j) < 256 := fun j hj => tk_wd cT hj
      have pos : 0 < tk_n B L p := by
        have := (lx_r_all (g := lx_wd) (B := B) (L := L) (L - (p + 1)) (p + 1) rfl).1
        have q := lx_r_go (g := lx_wd) pL (by unfold lx_wd; rw [e1]; rfl)
        omega
      rcases o1 e1 with ⟨y1, i, y2, y3, y4, y5, y6⟩ | ⟨y1, y2⟩
      · rcases rv_word y1 hB hR cI.2.2.2.2.2.1 y2 y3 y4 x3 with ⟨z1, z2⟩ | ⟨z1, z2⟩
        · rw [if_pos z1] at y6
          exact Or.inr (Or.inl ⟨i, z1, y6, y5, x1, z2⟩)
        · rw [if_neg (by omega)] at y6
          exact Or.inr (Or.inr (Or.inl ⟨i, _, z1, y2, y1, pos, el, hB, y3, y4, y6, y5, x1, z2, x2⟩))
      · exact absurd y2 c5
    | false =>
      have m := t2 e1
      cases e2 : lx_di (B p) with
      | true =>
        obtain ⟨x1, x2, x3⟩ := t3 e1 e2
        obtain ⟨y1, y2⟩ := o2 e1 e2
        have hv2 := hv.2.1 e1 e2
        rw [if_pos hv2] at y1
        refine Or.inr (Or.inr (Or.inr (Or.inl ⟨_, ?_, y1, y2, x1, m, x3⟩)))
        have ra := lx_r_all (g := lx_di) (B := B) (L := L) (L - p) p rfl
        have q := lx_num_lt (B := B) (p := p) (min 15 (lx_r lx_di B L p - p)) (fun i hi => by
          have := (ra.2.2.1 (p + i) (by omega) (by omega)).1
          simp only [lx_di, decide_eq_true_eq] at this
          omega)
        exact Nat.lt_of_lt_of_le q (Nat.pow_le_pow_right (by decide) (by omega))
      | false =>
        by_cases e3 : B p = 34
        · obtain ⟨x1, x2⟩ := t4 e1 e2 e3
          obtain ⟨y1, y2⟩ := o3 e1 e2 e3
          have hv2 := hv.2.2.1 e1 e2 e3
          rw [if_pos hv2] at y1
          have ra := lx_r_all (g := lx_tx) (B := B) (L := L) (L - (p + 1)) (p + 1) rfl
          refine Or.inr (Or.inr (Or.inr (Or.inr (Or.inl ⟨lx_r lx_tx B L (p + 1) - (p + 1), hv2.2.2, by omega, fun j hj => (ra.2.2.1 (p + 1 + j) (by omega) (by omega)).1, y1, y2, x1, m, x2⟩))))
        · obtain ⟨x1, x2⟩ := t5 e1 e2 e3
          have y1 := o4 e1 e2 e3
          have hv2 := hv.2.2.2 e1 e2 e3
          refine Or.inr (Or.inr (Or.inr (Or.inr (Or.inr ⟨_, ?_, y1, x1, m, ?_⟩))))
          · unfold lx_so at hv2 ⊢
            by_cases z : lx_two (B p) (lx_nxt B L p) = 0
            · rw [if_pos z] at hv2 ⊢
              by_cases o : lx_one (B p) = true
              · rw [if_pos o]
                exact Or.inl (tk_one o)
              · rw [if_neg o] at hv2
                exact absurd rfl hv2
            · rw [if_neg z]
              exact Or.inr (tk_two z)
          · rw [x2, sg_of hv2]
  · rcases rr with ⟨_, r5, _⟩ | ⟨x, _⟩
    · exact Or.inl ⟨e4, r5⟩
    · omega
