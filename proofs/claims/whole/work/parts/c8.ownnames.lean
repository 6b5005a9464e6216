/-! Level 2: the names of a component's own, on both sides. -/
/-- n names of a row of both sides -/
def rw_L (c r : t_S) (a b base n : Nat) (L : Nat → Nat) : Prop := ∀ i, i < n → L i < 7934 ∧ c.1 a (base + i) = nI (66 + L i) ∧ r.1 b (base + i) = nI (L i)
theorem rw_L.fr {c r c' r' : t_S} {a b base n : Nat} {L : Nat → Nat} {Wc Wr : Nat → Nat → Prop} (h : rw_L c r a b base n L) (fc : l2_fr Wc c c') (fr : l2_fr Wr r r') (w1 : ∀ i, i < n → ¬ Wc a (base + i)) (w2 : ∀ i, i < n → ¬ Wr b (base + i)) : rw_L c' r' a b base n L := fun i hi => ⟨(h i hi).1, by rw [(fc a _ (w1 i hi)).1]; exact (h i hi).2.1, by rw [(fr b _ (w2 i hi)).1]; exact (h i hi).2.2⟩
theorem rw_L.add {c r : t_S} {a b base n X : Nat} {L : Nat → Nat} (h : rw_L c r a b base n L) (hX : X < 7934) (e1 : c.1 a (base + n) = nI (66 + X)) (e2 : r.1 b (base + n) = nI X) : rw_L c r a b base (n + 1) (va_up L n X) := fun i hi => by
  rw [l2_upif]
  by_cases z : i = n
  · rw [if_pos z, z]
    exact ⟨hX, e1, e2⟩
  · rw [if_neg z]
    exact h i (by omega)
/-- a word in such a row, in the class -/
theorem fd_row {c r : t_S} {a b base n X : Nat} {L : Nat → Nat} (ha : t_oka a 1 (t_ln a) = true) (hb : base + n ≤ t_ln a) (hl : t_ln a < 2 ^ 31) (h : rw_L c r a b base n L) (hX : X < 7934) (hn : n ≤ 8) : t_hk (f_X5_find a (nI base) (nI n) (nI (66 + X)) c) (fun y => (∃ i, i < n ∧ y = nI i ∧ L i = X ∧ ∀ k, k < i → L k ≠ X) ∨ (y = -1 ∧ ∀ i, i < n → L i ≠ X)) := by
  unfold f_X5_find
  refine l2_lp (fun w y => ∃ j, j + w = n ∧ y = (a, nI base, nI n, nI (66 + X), nI j) ∧ ∀ k, k < j → L k ≠ X) ?_ (m := n) (Nat.lt_trans (show n < 1000000000 by omega) l2_N) ⟨0, by omega, rfl, fun k hk => by omega⟩
  rintro w y ⟨j, hj, rfl, hn⟩
  show t_hk (k_X5_find_3 a (nI base) (nI n) (nI (66 + X)) (nI j) c) _
  unfold k_X5_find_3
  by_cases z : n ≤ j
  · refine l2_ck (nI_le z (by omega)) (l2_mp (l2_sm (Or.inr ⟨rfl, fun i hi => hn i (by omega)⟩)))
  · refine l2_no (nI_ge (by omega) (by omega)) (l2_ck ha ?_)
    rw [nI_add]
    refine l2_ck (l2_ix (by omega) hl) ?_
    rw [nI_clamp (by omega), (h j (by omega)).2.1]
    by_cases q : L j = X
    · refine l2_ck (by rw [q]) (l2_mp (l2_sm (Or.inl ⟨j, by omega, rfl, q, hn⟩)))
    · refine l2_no (fun e => q ?_) (l2_sm ⟨w - 1, by omega, j + 1, by omega, ?_, fun k hk => ?_⟩)
      · have := (nI_eq (by have := (h j (by omega)).1; omega) (by omega)).mp e
        omega
      · rw [nI_1]
      · by_cases e : k = j
        · rw [e]; exact q
        · exact hn k (by omega)
/-- the reference's search loops in threes -/
theorem iq_run {b : Int32 × Int32 × Int32 × Int32 → Option ((Int32 × Int32 × Int32 × Int32) ⊕ Int32)} {x0 x : Int32} {n : Nat} {R : Nat → Int32} (hb : ∀ l2 k, (l2 = 0 ∨ l2 = 1) → k < n → b (x0, x, l2, nI k) = some (.inl (x0, x, (if l2 = 0 then (if R k = x then 1 else 0) else 1), nI (k + 1)))) : ∀ v, v ≤ n → ∀ l2, (l2 = 0 ∨ l2 = 1) → ∃ l2', (l2' = 0 ∨ l2' = 1) ∧ l2_tn b v (x0, x, l2, nI 0) (x0, x, l2', nI v) ∧ (l2' = 0 ↔ l2 = 0 ∧ ∀ i, i < v → R i ≠ x) := by
  intro v
  induction v with
  | zero => exact fun _ l2 h => ⟨l2, h, l2_tn.nil, fun y => ⟨y, fun i hi => absurd hi (Nat.not_lt_zero _)⟩, fun y => y.1⟩
  | succ v ih =>
    intro hv l2 h
    obtain ⟨l3, g1, g2, g3⟩ := ih (by omega) l2 h
    have e := l2_tn.one (hb l3 v g1 (by omega))
    refine ⟨_, ?_, g2.trans e, ?_⟩
    · by_cases z : l3 = 0
      · rw [if_pos z]
        by_cases y : R v = x
        · rw [if_pos y]; exact Or.inr rfl
        · rw [if_neg y]; exact Or.inl rfl
      · rw [if_neg z]; exact Or.inr rfl
    · by_cases z : l3 = 0
      · rw [if_pos z]
        have q := g3.mp z
        by_cases y : R v = x
        · rw [if_pos y]
          exact ⟨fun w => absurd w (by decide), fun w => absurd y (w.2 v (by omega))⟩
        · rw [if_neg y]
          refine ⟨fun _ => ⟨q.1, fun i hi => ?_⟩, fun _ => rfl⟩
          by_cases w : i = v
          · rw [w]; exact y
          · exact q.2 i (by omega)
      · rw [if_neg z]
        exact ⟨fun w => absurd w (by decide), fun w => absurd (g3.mpr ⟨w.1, fun i hi => w.2 i (by omega)⟩) z⟩
theorem iq_all {b : Int32 × Int32 × Int32 × Int32 → Option ((Int32 × Int32 × Int32 × Int32) ⊕ Int32)} {x0 x : Int32} {n : Nat} {R : Nat → Int32} {F : Int32 → Option Int32} {Q : Prop} (hn : n ≤ 1000) (hb : ∀ l2 k, (l2 = 0 ∨ l2 = 1) → k < n → b (x0, x, l2, nI k) = some (.inl (x0, x, (if l2 = 0 then (if R k = x then 1 else 0) else 1), nI (k + 1)))) (he : ∀ l2, b (x0, x, l2, nI n) = (F l2).map Sum.inr) (hF : ∀ l2, (l2 = 0 ∨ l2 = 1) → ∃ v, F l2 = some v ∧ (v = 0 ∨ v = 1) ∧ (v = 0 ↔ l2 = 0 ∧ Q)) : ∀ l2, (l2 = 0 ∨ l2 = 1) → ∃ v, t_loop b t_N (x0, x, l2, 0) = some v ∧ (v = 0 ∨ v = 1) ∧ (v = 0 ↔ l2 = 0 ∧ (∀ i, i < n → R i ≠ x) ∧ Q) := by
  intro l2 h
  obtain ⟨l3, g1, g2, g3⟩ := iq_run hb n (Nat.le_refl _) l2 h
  obtain ⟨v, v1, v2, v3⟩ := hF l3 g1
  refine ⟨v, l2_tnR g2 (by omega) (by rw [he, v1]; rfl), v2, ?_⟩
  rw [v3, g3]
  exact ⟨fun y => ⟨y.1.1, y.1.2, y.2⟩, fun y => ⟨⟨y.1, y.2.1⟩, y.2.2⟩⟩
/-- a component's own: ports, timers, vars -/
def cw_R (c r : t_S) (k v0 v1 v2 : Nat) (A B D : Nat → Nat) : Prop := (v0 ≤ 6 ∧ v1 ≤ 4 ∧ v2 ≤ 8) ∧ (c.1 429 k = nI v0 ∧ r.1 972 k = nI v0) ∧ (c.1 431 k = nI v1 ∧ r.1 974 k = nI v1) ∧ (c.1 433 k = nI v2 ∧ r.1 979 k = nI v2) ∧ rw_L c r 430 971 (6 * k) v0 A ∧ rw_L c r 432 973 (4 * k) v1 B ∧ rw_L c r 434 975 (8 * k) v2 D
theorem cw_R.fr {c r c' r' : t_S} {k v0 v1 v2 : Nat} {A B D : Nat → Nat} {Wc Wr : Nat → Nat → Prop} (h : cw_R c r k v0 v1 v2 A B D) (fc : l2_fr Wc c c') (fr : l2_fr Wr r r') (w1 : ∀ b j, 429 ≤ b → b ≤ 434 → ¬ Wc b j) (w2 : ∀ b j, 971 ≤ b → b ≤ 979 → b ≠ 976 ∧ b ≠ 977 ∧ b ≠ 978 → ¬ Wr b j) : cw_R c' r' k v0 v1 v2 A B D := by
  obtain ⟨h0, h1, h2, h3, h4, h5, h6⟩ := h
  have g : ∀ b j, 429 ≤ b → b ≤ 434 → c'.1 b j = c.1 b j := fun b j x y => (fc b j (w1 b j x y)).1
  have g' : ∀ b j, 971 ≤ b → b ≤ 979 → b ≠ 976 ∧ b ≠ 977 ∧ b ≠ 978 → r'.1 b j = r.1 b j := fun b j x y z => (fr b j (w2 b j x y z)).1
  refine ⟨h0, ⟨?_, ?_⟩, ⟨?_, ?_⟩, ⟨?_, ?_⟩, h4.fr fc fr (fun i _ => w1 _ _ (by decide) (by decide)) (fun i _ => w2 _ _ (by decide) (by decide) (by decide)), h5.fr fc fr (fun i _ => w1 _ _ (by decide) (by decide)) (fun i _ => w2 _ _ (by decide) (by decide) (by decide)), h6.fr fc fr (fun i _ => w1 _ _ (by decide) (by decide)) (fun i _ => w2 _ _ (by decide) (by decide) (by decide))⟩
  · rw [g 429 k (by decide) (by decide)]; exact h1.1
  · rw [g' 972 k (by decide) (by decide) (by decide)]; exact h1.2
  · rw [g 431 k (by decide) (by decide)]; exact h2.1
  · rw [g' 974 k (by decide) (by decide) (by decide)]; exact h2.2
  · rw [g 433 k (by decide) (by decide)]; exact h3.1
  · rw [g' 979 k (by decide) (by decide) (by decide)]; exact h3.2
theorem ow_has {c r : t_S} {k v0 v1 v2 X : Nat} {A B D : Nat → Nat} (h : cw_R c r k v0 v1 v2 A B D) (hk : k < 8) (hX : X < 7934) : t_hk (f_X5_hasOwn (nI k) (nI (66 + X)) c) (fun v => (v = 0 ∧ ((∀ i, i < v0 → A i ≠ X) ∧ (∀ i, i < v1 → B i ≠ X) ∧ ∀ i, i < v2 → D i ≠ X)) ∨ (v = 1 ∧ ¬ ((∀ i, i < v0 → A i ≠ X) ∧ (∀ i, i < v1 → B i ≠ X) ∧ ∀ i, i < v2 → D i ≠ X))) := by
  obtain ⟨h0, h1, h2, h3, h4, h5, h6⟩ := h
  unfold f_X5_hasOwn k_X5_hasOwn_66
  refine l2_no (nI_pos (by omega)) (l2_ck (l2_ix hk (by decide)) ?_)
  rw [nI_clamp (n := k) (by omega), h1.1, h2.1, h3.1, show nI k * (6 : Int32) = nI (6 * k) from (pk_mul k 6).trans (by rw [Nat.mul_comm]), show nI k * (4 : Int32) = nI (4 * k) from (pk_mul k 4).trans (by rw [Nat.mul_comm]), show nI k * (8 : Int32) = nI (8 * k) from (pk_mul k 8).trans (by rw [Nat.mul_comm])]
  refine l2_bd _ (fd_row (a := 430) rfl (show 6 * k + v0 ≤ 48 by omega) (by decide) h4 hX (by omega)) (fun y hy => ?_)
  rcases hy with ⟨i, i1, rfl, i3, _⟩ | ⟨rfl, n0⟩
  · exact l2_ck (nI_pos' (by omega)) (l2_sm (Or.inr ⟨rfl, fun w => w.1 i i1 i3⟩))
  refine l2_no (by decide) (l2_bd _ (fd_row (a := 432) rfl (show 4 * k + v1 ≤ 32 by omega) (by decide) h5 hX (by omega)) (fun y hy => ?_))
  rcases hy with ⟨i, i1, rfl, i3, _⟩ | ⟨rfl, n1⟩
  · exact l2_ck (nI_pos' (by omega)) (l2_sm (Or.inr ⟨rfl, fun w => w.2.1 i i1 i3⟩))
  refine l2_no (by decide) (l2_bd _ (fd_row (a := 434) rfl (show 8 * k + v2 ≤ 64 by omega) (by decide) h6 hX (by omega)) (fun y hy => ?_))
  rcases hy with ⟨i, i1, rfl, i3, _⟩ | ⟨rfl, n2⟩
  · exact l2_no (nI_pos (by omega)) (l2_sm (Or.inr ⟨rfl, fun w => w.2.2 i i1 i3⟩))
  · exact l2_ck (by decide) (l2_sm (Or.inl ⟨rfl, n0, n1, n2⟩))
theorem ow_is {c r : t_S} {k v0 v1 v2 X : Nat} {A B D : Nat → Nat} (h : cw_R c r k v0 v1 v2 A B D) (hk : k < 8) (hX : X < 7934) : ∃ v, f_X13_isOwn (nI k) (nI X) r = some v ∧ (v = 0 ∨ v = 1) ∧ (v = 0 ↔ ((∀ i, i < v0 → A i ≠ X) ∧ (∀ i, i < v1 → B i ≠ X) ∧ ∀ i, i < v2 → D i ≠ X)) := by
  obtain ⟨h0, h1, h2, h3, h4, h5, h6⟩ := h
  have ixk : t_ix (nI k) 8 = true := l2_ix hk (by decide)
  have ne : ∀ {n base b : Nat} {a : Nat} {L : Nat → Nat}, rw_L c r a b base n L → ((∀ i, i < n → r.1 b (base + i) ≠ nI X) ↔ ∀ i, i < n → L i ≠ X) := fun g => ⟨fun w i hi e => w i hi (by rw [(g i hi).2.2, e]), fun w i hi e => w i hi (by
    have := (g i hi).1
    exact (nI_eq (by omega) (by omega)).mp ((g i hi).2.2.symm.trans e))⟩
  have s2 := iq_all (b := b_X13_isOwn_96 r) (x0 := nI k) (x := nI X) (n := v2) (R := fun j => r.1 975 (8 * k + j)) (F := fun l2 => if l2 = 0 ∨ l2 = 1 then some l2 else none) (Q := True) (by omega) (fun l2 j hl hj => by
    show k_X13_isOwn_96 (nI k) (nI X) l2 (nI j) r = _
    unfold k_X13_isOwn_96 k_X13_isOwn_127 k_X13_isOwn_132
    rw [if_pos ixk, nI_clamp (n := k) (by omega), h3.2, if_neg (nI_ge hj (by omega)), show (8 : Int32) * nI k = nI (8 * k) from pk_mul 8 k, nI_add, nI_clamp (n := 8 * k + j) (by omega)]
    rcases hl with rfl | rfl
    · rw [if_pos rfl, if_pos rfl, if_pos (l2_ix (by omega) (by decide))]
      by_cases y : r.1 975 (8 * k + j) = nI X
      · rw [if_pos y, if_pos y, nI_succ]
      · rw [if_neg y, if_neg y, nI_succ]
    · rw [if_neg (by decide), if_neg (by decide), nI_succ]) (fun l2 => by
    show k_X13_isOwn_96 (nI k) (nI X) l2 (nI v2) r = _
    unfold k_X13_isOwn_96
    rw [if_pos ixk, nI_clamp (n := k) (by omega), h3.2, if_pos (nI_le (Nat.le_refl _) (by omega))]) (fun l2 hl => ⟨l2, if_pos hl, hl, fun y => ⟨y, trivial⟩, fun y => y.1⟩)
  have s1 := iq_all (b := b_X13_isOwn_51 r) (x0 := nI k) (x := nI X) (n := v1) (R := fun j => r.1 973 (4 * k + j)) (F := fun l2 => t_loop (b_X13_isOwn_96 r) t_N (nI k, nI X, l2, 0)) (by omega) (fun l2 j hl hj => by
    show k_X13_isOwn_51 (nI k) (nI X) l2 (nI j) r = _
    unfold k_X13_isOwn_51 k_X13_isOwn_81 k_X13_isOwn_86
    rw [if_pos ixk, nI_clamp (n := k) (by omega), h2.2, if_neg (nI_ge hj (by omega)), show (4 : Int32) * nI k = nI (4 * k) from pk_mul 4 k, nI_add, nI_clamp (n := 4 * k + j) (by omega)]
    rcases hl with rfl | rfl
    · rw [if_pos rfl, if_pos rfl, if_pos (l2_ix (by omega) (by decide))]
      by_cases y : r.1 973 (4 * k + j) = nI X
      · rw [if_pos y, if_pos y, nI_succ]
      · rw [if_neg y, if_neg y, nI_succ]
    · rw [if_neg (by decide), if_neg (by decide), nI_succ]) (fun l2 => by
    show k_X13_isOwn_51 (nI k) (nI X) l2 (nI v1) r = _
    unfold k_X13_isOwn_51
    rw [if_pos ixk, nI_clamp (n := k) (by omega), h2.2, if_pos (nI_le (Nat.le_refl _) (by omega))]) s2
  have s0 := iq_all (b := b_X13_isOwn_5 r) (x0 := nI k) (x := nI X) (n := v0) (R := fun j => r.1 971 (6 * k + j)) (F := fun l2 => t_loop (b_X13_isOwn_51 r) t_N (nI k, nI X, l2, 0)) (by omega) (fun l2 j hl hj => by
    show k_X13_isOwn_5 (nI k) (nI X) l2 (nI j) r = _
    unfold k_X13_isOwn_5 k_X13_isOwn_36 k_X13_isOwn_41
    rw [if_pos ixk, nI_clamp (n := k) (by omega), h1.2, if_neg (nI_ge hj (by omega)), show (6 : Int32) * nI k = nI (6 * k) from pk_mul 6 k, nI_add, nI_clamp (n := 6 * k + j) (by omega)]
    rcases hl with rfl | rfl
    · rw [if_pos rfl, if_pos rfl, if_pos (l2_ix (by omega) (by decide))]
      by_cases y : r.1 971 (6 * k + j) = nI X
      · rw [if_pos y, if_pos y, nI_succ]
      · rw [if_neg y, if_neg y, nI_succ]
    · rw [if_neg (by decide), if_neg (by decide), nI_succ]) (fun l2 => by
    show k_X13_isOwn_5 (nI k) (nI X) l2 (nI v0) r = _
    unfold k_X13_isOwn_5
    rw [if_pos ixk, nI_clamp (n := k) (by omega), h1.2, if_pos (nI_le (Nat.le_refl _) (by omega))]) s1
  obtain ⟨v, e1, e2, e3⟩ := s0 0 (Or.inl rfl)
  refine ⟨v, e1, e2, e3.trans ⟨fun y => ⟨(ne h4).mp y.2.1, (ne h5).mp y.2.2.1, (ne h6).mp y.2.2.2.1⟩, fun y => ⟨rfl, (ne h4).mpr y.1, (ne h5).mpr y.2.1, (ne h6).mpr y.2.2, trivial⟩⟩⟩
