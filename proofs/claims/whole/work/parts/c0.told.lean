/-! Level 2: the names that a module tells, on both sides. -/
/-- the words known while a text is read -/
def pc_W : pc_S → Nat
  | (_, _, _, W, _, _, _, _, _, _, _) => W
theorem pj.wW {P : pc_S} {u d z q m k : Nat} {c r : t_S} (h : pj P u d z q m c r) (h8 : c.1 1 8 = 1) (hk : k < 7934) (e : c.2.1 1 10 = lN (66 + k)) : 66 + k < pc_W P := by
  obtain ⟨B, L, W0, W, V, sl, H, T, n, t0, m0⟩ := P
  obtain ⟨⟨hc, hr, hR, ht⟩, _⟩ := h
  obtain ⟨i, i1, i2, i3, _⟩ := jt_word ⟨hc, hr, hR, ht⟩ h8
  have hW := hc.2.1.1
  have : 66 + k = i := (lN_eq (by omega) (by omega)).mp (e.symm.trans i3)
  show 66 + k < W
  omega
theorem io_run {b : Int32 × Int32 × Int32 → Option ((Int32 × Int32 × Int32) ⊕ Int32)} {x : Int32} {n : Nat} {R : Nat → Int32} (hb : ∀ l2 k, (l2 = 0 ∨ l2 = 1) → k < n → b (x, l2, nI k) = some (.inl (x, (if l2 = 0 then (if R k = x then 1 else 0) else 1), nI (k + 1)))) : ∀ v, v ≤ n → ∀ l2, (l2 = 0 ∨ l2 = 1) → ∃ l2', (l2' = 0 ∨ l2' = 1) ∧ l2_tn b v (x, l2, nI 0) (x, l2', nI v) ∧ (l2' = 0 ↔ l2 = 0 ∧ ∀ i, i < v → R i ≠ x) := by
  intro v
  induction v with
  | zero => exact fun _ l2 h => ⟨l2, h, l2_tn.nil, fun y => ⟨y, fun i hi => absurd hi (Nat.not_lt_zero _)⟩, fun y => y.1⟩
  | succ v ih =>
    intro hv l2 h
    obtain ⟨l3, g1, g2, g3⟩ := ih (by omega) l2 h
    have e := l2_tn.one (hb l3 v g1 (by omega))
    refine ⟨_, ?_, g2.trans e, ?_⟩
    · by_cases z : l3 = 0
      · rw [if_pos z]
        by_cases y : R v = x
        · rw [if_pos y]; exact Or.inr rfl
        · rw [if_neg y]; exact Or.inl rfl
      · rw [if_neg z]; exact Or.inr rfl
    · by_cases z : l3 = 0
      · rw [if_pos z]
        have q := g3.mp z
        by_cases y : R v = x
        · rw [if_pos y]
          exact ⟨fun w => absurd w (by decide), fun w => absurd y (w.2 v (by omega))⟩
        · rw [if_neg y]
          refine ⟨fun _ => ⟨q.1, fun i hi => ?_⟩, fun _ => rfl⟩
          by_cases w : i = v
          · rw [w]; exact y
          · exact q.2 i (by omega)
      · rw [if_neg z]
        exact ⟨fun w => absurd w (by decide), fun w => absurd (g3.mpr ⟨w.1, fun i hi => w.2 i (by omega)⟩) z⟩
theorem io_all {b : Int32 × Int32 × Int32 → Option ((Int32 × Int32 × Int32) ⊕ Int32)} {x : Int32} {n : Nat} {R : Nat → Int32} {F : Int32 → Option Int32} {Q : Prop} (hn : n ≤ 1000) (hb : ∀ l2 k, (l2 = 0 ∨ l2 = 1) → k < n → b (x, l2, nI k) = some (.inl (x, (if l2 = 0 then (if R k = x then 1 else 0) else 1), nI (k + 1)))) (he : ∀ l2, b (x, l2, nI n) = (F l2).map Sum.inr) (hF : ∀ l2, (l2 = 0 ∨ l2 = 1) → ∃ v, F l2 = some v ∧ (v = 0 ∨ v = 1) ∧ (v = 0 ↔ l2 = 0 ∧ Q)) : ∀ l2, (l2 = 0 ∨ l2 = 1) → ∃ v, t_loop b t_N (x, l2, 0) = some v ∧ (v = 0 ∨ v = 1) ∧ (v = 0 ↔ l2 = 0 ∧ (∀ i, i < n → R i ≠ x) ∧ Q) := by
  intro l2 h
  obtain ⟨l3, g1, g2, g3⟩ := io_run hb n (Nat.le_refl _) l2 h
  obtain ⟨v, v1, v2, v3⟩ := hF l3 g1
  refine ⟨v, l2_tnR g2 (by omega) (by rw [he, v1]; rfl), v2, ?_⟩
  rw [v3, g3]
  exact ⟨fun y => ⟨y.1.1, y.1.2, y.2⟩, fun y => ⟨⟨y.1, y.2.1⟩, y.2.2⟩⟩
/-- the tables: types, templates, components, functions -/
def nt_M (f : Nat) : Nat := if f = 0 then 60 else if f = 1 then 60 else if f = 2 then 8 else 40
def nt_B (f : Nat) : Nat := if f = 0 then 964 else if f = 1 then 967 else if f = 2 then 970 else 980
def nt_cc (c : t_S) (f : Nat) : Int32 := if f = 0 then c.1 316 13 else if f = 1 then c.1 353 11 else if f = 2 then c.1 428 0 else c.1 428 9
def nt_rc (r : t_S) (f : Nat) : Int32 := if f = 0 then r.1 950 40 else if f = 1 then r.1 950 44 else if f = 2 then r.1 950 55 else r.1 950 64
/-- nt f names told of each family: the class's meanings and the reference's tables -/
def nt_R (W : Nat) (nt : Nat → Nat) (c r : t_S) : Prop := (∀ f, f < 4 → nt f ≤ nt_M f ∧ nt_cc c f = nI (nt f) ∧ nt_rc r f = nI (nt f)) ∧ (∀ f k, f < 4 → k < nt f → ∃ X, X < 7934 ∧ 66 + X < W ∧ r.1 (nt_B f) k = nI X ∧ c.1 6 (66 + X) = nI (1 + 100 * f + k)) ∧ (∀ X, 66 + X < W → c.1 6 (66 + X) = 0 ∨ ∃ f k, f < 4 ∧ k < nt f ∧ r.1 (nt_B f) k = nI X ∧ c.1 6 (66 + X) = nI (1 + 100 * f + k))
section
variable {W : Nat} {nt : Nat → Nat} {c r : t_S}
theorem nt_R.le (h : nt_R W nt c r) {f : Nat} (hf : f < 4) : nt f ≤ 60 := by
  have := (h.1 f hf).1
  unfold nt_M at this
  split at this
  · exact this
  · split at this
    · exact this
    · split at this <;> omega
/-- whether a name is told -/
theorem nt_R.is (h : nt_R W nt c r) {X : Nat} (hX : X < 7934) (hW : 66 + X < W) : ∃ v, f_X13_isToldOutside (nI X) r = some v ∧ (v = 0 ∨ v = 1) ∧ (v = 0 ↔ c.1 6 (66 + X) = 0) := by
  have n0 := h.le (f := 0) (by decide)
  have n1 := h.le (f := 1) (by decide)
  have n2 := h.1 2 (by decide)
  have n3 := h.1 3 (by decide)
  have c0 : r.1 950 40 = nI (nt 0) := (h.1 0 (by decide)).2.2
  have c1 : r.1 950 44 = nI (nt 1) := (h.1 1 (by decide)).2.2
  have c2 : r.1 950 55 = nI (nt 2) := n2.2.2
  have c3 : r.1 950 64 = nI (nt 3) := n3.2.2
  have m2 : nt 2 ≤ 8 := n2.1
  have m3 : nt 3 ≤ 40 := n3.1
  have s3 := io_all (b := b_X13_isToldOutside_112 r) (x := nI X) (n := nt 3) (R := fun k => r.1 980 k) (F := fun l2 => if l2 = 0 ∨ l2 = 1 then some l2 else none) (Q := True) (by omega) (fun l2 k hl hk => by
    show k_X13_isToldOutside_112 (nI X) l2 (nI k) r = _
    unfold k_X13_isToldOutside_112 k_X13_isToldOutside_134 k_X13_isToldOutside_139
    rw [c3, if_neg (nI_ge hk (by omega))]
    rcases hl with rfl | rfl
    · rw [if_pos rfl, if_pos rfl, if_pos (l2_ix (by omega) (by decide)), nI_clamp (n := k) (by omega)]
      by_cases y : r.1 980 k = nI X
      · rw [if_pos y, if_pos y, nI_succ]
      · rw [if_neg y, if_neg y, nI_succ]
    · rw [if_neg (by decide), if_neg (by decide), nI_succ]) (fun l2 => by
    show k_X13_isToldOutside_112 (nI X) l2 (nI (nt 3)) r = _
    unfold k_X13_isToldOutside_112
    rw [c3, if_pos (nI_le (Nat.le_refl _) (by omega))]) (fun l2 hl => ⟨l2, if_pos hl, hl, fun y => ⟨y, trivial⟩, fun y => y.1⟩)
  have s2 := io_all (b := b_X13_isToldOutside_76 r) (x := nI X) (n := nt 2) (R := fun k => r.1 970 k) (F := fun l2 => t_loop (b_X13_isToldOutside_112 r) t_N (nI X, l2, 0)) (by omega) (fun l2 k hl hk => by
    show k_X13_isToldOutside_76 (nI X) l2 (nI k) r = _
    unfold k_X13_isToldOutside_76 k_X13_isToldOutside_98 k_X13_isToldOutside_103
    rw [c2, if_neg (nI_ge hk (by omega))]
    rcases hl with rfl | rfl
    · rw [if_pos rfl, if_pos rfl, if_pos (l2_ix (by omega) (by decide)), nI_clamp (n := k) (by omega)]
      by_cases y : r.1 970 k = nI X
      · rw [if_pos y, if_pos y, nI_succ]
      · rw [if_neg y, if_neg y, nI_succ]
    · rw [if_neg (by decide), if_neg (by decide), nI_succ]) (fun l2 => by
    show k_X13_isToldOutside_76 (nI X) l2 (nI (nt 2)) r = _
    unfold k_X13_isToldOutside_76
    rw [c2, if_pos (nI_le (Nat.le_refl _) (by omega))]) s3
  have s1 := io_all (b := b_X13_isToldOutside_40 r) (x := nI X) (n := nt 1) (R := fun k => r.1 967 k) (F := fun l2 => t_loop (b_X13_isToldOutside_76 r) t_N (nI X, l2, 0)) (by omega) (fun l2 k hl hk => by
    show k_X13_isToldOutside_40 (nI X) l2 (nI k) r = _
    unfold k_X13_isToldOutside_40 k_X13_isToldOutside_62 k_X13_isToldOutside_67
    rw [c1, if_neg (nI_ge hk (by omega))]
    rcases hl with rfl | rfl
    · rw [if_pos rfl, if_pos rfl, if_pos (l2_ix (by omega) (by decide)), nI_clamp (n := k) (by omega)]
      by_cases y : r.1 967 k = nI X
      · rw [if_pos y, if_pos y, nI_succ]
      · rw [if_neg y, if_neg y, nI_succ]
    · rw [if_neg (by decide), if_neg (by decide), nI_succ]) (fun l2 => by
    show k_X13_isToldOutside_40 (nI X) l2 (nI (nt 1)) r = _
    unfold k_X13_isToldOutside_40
    rw [c1, if_pos (nI_le (Nat.le_refl _) (by omega))]) s2
  have s0 := io_all (b := b_X13_isToldOutside_4 r) (x := nI X) (n := nt 0) (R := fun k => r.1 964 k) (F := fun l2 => t_loop (b_X13_isToldOutside_40 r) t_N (nI X, l2, 0)) (by omega) (fun l2 k hl hk => by
    show k_X13_isToldOutside_4 (nI X) l2 (nI k) r = _
    unfold k_X13_isToldOutside_4 k_X13_isToldOutside_26 k_X13_isToldOutside_31
    rw [c0, if_neg (nI_ge hk (by omega))]
    rcases hl with rfl | rfl
    · rw [if_pos rfl, if_pos rfl, if_pos (l2_ix (by omega) (by decide)), nI_clamp (n := k) (by omega)]
      by_cases y : r.1 964 k = nI X
      · rw [if_pos y, if_pos y, nI_succ]
      · rw [if_neg y, if_neg y, nI_succ]
    · rw [if_neg (by decide), if_neg (by decide), nI_succ]) (fun l2 => by
    show k_X13_isToldOutside_4 (nI X) l2 (nI (nt 0)) r = _
    unfold k_X13_isToldOutside_4
    rw [c0, if_pos (nI_le (Nat.le_refl _) (by omega))]) s1
  obtain ⟨v, v1, v2, v3⟩ := s0 0 (Or.inl rfl)
  refine ⟨v, v1, v2, v3.trans ⟨fun y => ?_, fun y => ?_⟩⟩
  · rcases h.2.2 X hW with z | ⟨f, k, f4, hk, e1, _⟩
    · exact z
    · have ff : f = 0 ∨ f = 1 ∨ f = 2 ∨ f = 3 := by omega
      rcases ff with rfl | rfl | rfl | rfl
      · exact absurd e1 (y.2.1 k hk)
      · exact absurd e1 (y.2.2.1 k hk)
      · exact absurd e1 (y.2.2.2.1 k hk)
      · exact absurd e1 (y.2.2.2.2.1 k hk)
  · have no : ∀ f, f < 4 → ∀ k, k < nt f → r.1 (nt_B f) k ≠ nI X := fun f f4 k hk e => by
      obtain ⟨X2, x1, x2, x3, x4⟩ := h.2.1 f k f4 hk
      have := h.le f4
      have ex : X2 = X := (nI_eq (by omega) (by omega)).mp (x3.symm.trans e)
      rw [ex, y] at x4
      have := (nI_eq (a := 0) (by decide) (by omega)).mp x4
      omega
    exact ⟨rfl, no 0 (by decide), no 1 (by decide), no 2 (by decide), no 3 (by decide), trivial⟩
end
