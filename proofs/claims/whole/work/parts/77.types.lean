/-! Level 2: one type on both sides: node n of the class's types, node m of the reference's. -/
/-- the class's states agree on nodes a .. b - 1 and on g members; the reference's on nodes a .. b - 1 -/
def ag_C (a b g : Nat) (c c' : t_S) : Prop := (∀ i j, 317 ≤ i → i ≤ 323 → a ≤ j → j < b → c'.1 i j = c.1 i j ∧ c'.2.1 i j = c.2.1 i j) ∧ ∀ j, j < g → c'.1 325 j = c.1 325 j
def ag_R (a b : Nat) (r r' : t_S) : Prop := ∀ i j, 955 ≤ i → i ≤ 961 → a ≤ j → j < b → r'.1 i j = r.1 i j ∧ r'.2.1 i j = r.2.1 i j
theorem ag_C.sub {a b g a2 b2 g2 : Nat} {c c' : t_S} (h : ag_C a b g c c') (ha : a ≤ a2) (hb : b2 ≤ b) (hg : g2 ≤ g) : ag_C a2 b2 g2 c c' := ⟨fun i j x y z w => h.1 i j x y (by omega) (by omega), fun j hj => h.2 j (by omega)⟩
theorem ag_R.sub {a b a2 b2 : Nat} {r r' : t_S} (h : ag_R a b r r') (ha : a ≤ a2) (hb : b2 ≤ b) : ag_R a2 b2 r r' := fun i j x y z w => h i j x y (by omega) (by omega)
theorem ag_C.of {a b g : Nat} {c c' : t_S} {W : Nat → Nat → Prop} (f : l2_fr W c c') (h1 : ∀ i j, 317 ≤ i → i ≤ 323 → a ≤ j → j < b → ¬ W i j) (h2 : ∀ j, j < g → ¬ W 325 j) : ag_C a b g c c' := ⟨fun i j x y z w => ⟨(f i j (h1 i j x y z w)).1, (f i j (h1 i j x y z w)).2.1⟩, fun j hj => (f 325 j (h2 j hj)).1⟩
theorem ag_R.of {a b : Nat} {r r' : t_S} {W : Nat → Nat → Prop} (f : l2_fr W r r') (h1 : ∀ i j, 955 ≤ i → i ≤ 961 → a ≤ j → j < b → ¬ W i j) : ag_R a b r r' := fun i j x y z w => ⟨(f i j (h1 i j x y z w)).1, (f i j (h1 i j x y z w)).2.1⟩
theorem cc_R.ag {c c' : t_S} {n v a b g : Nat} {F : Nat → Nat} (h : cc_R c n v F) (A : ag_C a b g c c') (h1 : a ≤ n) (h2 : n < b) (h3 : ∀ j, j < v → F j < b) : cc_R c' n v F := by
  obtain ⟨x, y⟩ := h
  refine ⟨by rw [(A.1 318 n (by decide) (by decide) h1 h2).1]; exact x, fun j hj => ?_⟩
  obtain ⟨y1, y2, y3, y4⟩ := y j hj
  exact ⟨y1, y2, by rw [(A.1 319 (F j) (by decide) (by decide) (by omega) (h3 j hj)).1]; exact y3, y4⟩
theorem ch_R.ag {r r' : t_S} {m v a b : Nat} {G : Nat → Nat} (h : ch_R r m v G) (A : ag_R a b r r') (h1 : a ≤ m) (h2 : m < b) (h3 : ∀ j, j < v → G j < b) : ch_R r' m v G := by
  obtain ⟨x, y⟩ := h
  refine ⟨by rw [(A 959 m (by decide) (by decide) h1 h2).1]; exact x, fun j hj => ?_⟩
  obtain ⟨y1, y2, y3, y4⟩ := y j hj
  exact ⟨y1, y2, by rw [(A 960 (G j) (by decide) (by decide) (by omega) (h3 j hj)).1]; exact y3, y4⟩
/-- a span of n, m -/
def ty_S (c r : t_S) (n m most : Nat) : Prop := ∃ lo hi : Nat, lo ≤ hi ∧ hi ≤ most ∧ c.2.1 322 n = lN lo ∧ c.2.1 323 n = lN hi ∧ r.2.1 957 m = lN lo ∧ r.2.1 958 m = lN hi
/-- the least and the greatest of v ranges -/
def ty_mm (c : t_S) (n v : Nat) (F : Nat → Nat) : Prop := (v = 0 → (c.2.1 322 n).toInt = -(10 ^ 15) ∧ (c.2.1 323 n).toInt = 10 ^ 15) ∧ (0 < v → (∀ j, j < v → (c.2.1 322 n).toInt ≤ (c.2.1 322 (F j)).toInt ∧ (c.2.1 323 (F j)).toInt ≤ (c.2.1 323 n).toInt) ∧ (∃ j, j < v ∧ c.2.1 322 n = c.2.1 322 (F j)) ∧ ∃ j, j < v ∧ c.2.1 323 n = c.2.1 323 (F j))
/-- one range -/
def ty_g (c r : t_S) (F G : Nat) : Prop := c.1 317 F = 10 ∧ r.1 955 G = 9 ∧ c.2.1 322 F = r.2.1 957 G ∧ c.2.1 323 F = r.2.1 958 G ∧ -(10 ^ 15) ≤ (c.2.1 322 F).toInt ∧ (c.2.1 322 F).toInt ≤ (c.2.1 323 F).toInt ∧ (c.2.1 323 F).toInt ≤ 10 ^ 15
def ty_I (c r : t_S) (n m b b' : Nat) : Prop := ∃ (v : Nat) (F G : Nat → Nat), v ≤ 6 ∧ c.1 321 n = nI v ∧ cc_R c n v F ∧ ch_R r m v G ∧ (∀ j, j < v → F j < b ∧ G j < b' ∧ ty_g c r (F j) (G j)) ∧ ty_mm c n v F
/-- one word of an enum -/
def ty_w (c r : t_S) (j G X : Nat) : Prop := r.1 955 G = 11 ∧ X < 7934 ∧ r.2.1 957 G = lN X ∧ c.1 325 j = nI (66 + X)
def ty_E (c r : t_S) (n m b' g : Nat) : Prop := ∃ (v g0 : Nat) (G X : Nat → Nat), 0 < v ∧ v ≤ 16 ∧ c.1 321 n = nI v ∧ c.1 318 n = nI g0 ∧ g0 + v ≤ g ∧ ch_R r m v G ∧ (∀ j, j < v → G j < b' ∧ ty_w c r (g0 + j) (G j) (X j)) ∧ ∀ i j, i < j → j < v → X i ≠ X j
/-- one field, but for its type -/
def ty_f (c r : t_S) (F G X o : Nat) : Prop := c.1 317 F = 9 ∧ r.1 955 G = 10 ∧ X < 7934 ∧ c.1 320 F = nI (66 + X) ∧ r.2.1 957 G = lN X ∧ o ≤ 1 ∧ c.1 321 F = nI o ∧ r.2.1 958 G = lN o
def TY (NM : Nat → Nat → Prop) (c r : t_S) : Nat → Nat → Nat → Nat → Nat → Nat → Nat → Nat → Prop
  | 0, _, _, _, _, _, _, _ => False
  | f + 1, a, b, a', b', g, n, m => a ≤ n ∧ n < b ∧ a' ≤ m ∧ m < b' ∧ ∃ k : Nat, c.1 317 n = nI k ∧ r.1 955 m = nI k ∧
    ((k = 1 ∧ ty_I c r n m b b') ∨ k = 2 ∨ (k = 3 ∧ ty_S c r n m 40) ∨ (k = 4 ∧ ty_E c r n m b' g) ∨
     ((k = 5 ∨ k = 6) ∧ ∃ (v : Nat) (F G X O : Nat → Nat), v ≤ 16 ∧ (k = 6 → 0 < v) ∧ c.1 321 n = nI v ∧ cc_R c n v F ∧ ch_R r m v G ∧ (∀ i j, i < j → j < v → X i ≠ X j) ∧ ∀ j, j < v → F j < b ∧ G j < b' ∧ ty_f c r (F j) (G j) (X j) (O j) ∧ (k = 6 → O j = 0) ∧ ∃ n' m', c.1 318 (F j) = nI n' ∧ r.1 959 (G j) = nI m' ∧ r.1 960 m' = -1 ∧ TY NM c r f (F j + 1) (if j + 1 < v then F (j + 1) else b) (G j + 1) (if j + 1 < v then G (j + 1) else b') g n' m') ∨
     (k = 7 ∧ ty_S c r n m 16 ∧ ∃ n' m', c.1 318 n = nI n' ∧ r.1 959 m = nI m' ∧ r.1 960 m' = -1 ∧ TY NM c r f (n + 1) b (m + 1) b' g n' m') ∨
     (k = 8 ∧ NM n m))
theorem TY.at {NM : Nat → Nat → Prop} {c r : t_S} {f a b a' b' g n m : Nat} (h : TY NM c r f a b a' b' g n m) : a ≤ n ∧ n < b ∧ a' ≤ m ∧ m < b' := by
  cases f with
  | zero => exact h.elim
  | succ f => exact ⟨h.1, h.2.1, h.2.2.1, h.2.2.2.1⟩
theorem TY.fr {NM NM' : Nat → Nat → Prop} {c r c' r' : t_S} : ∀ f a b a' b' g n m, TY NM c r f a b a' b' g n m → ag_C a b g c c' → ag_R a' b' r r' → (∀ n m, a ≤ n → n < b → a' ≤ m → m < b' → NM n m → NM' n m) → ∀ f2 b2 b2' g2, f ≤ f2 → b ≤ b2 → b' ≤ b2' → g ≤ g2 → TY NM' c' r' f2 a b2 a' b2' g2 n m := by
  intro f
  induction f with
  | zero => intro a b a' b' g n m h; exact h.elim
  | succ f ih =>
    intro a b a' b' g n m h A R N f2 b2 b2' g2 hf hb hb' hg
    obtain ⟨h1, h2, h3, h4, k, h5, h6, h7⟩ := h
    cases f2 with
    | zero => omega
    | succ f2 =>
    have C : ∀ i j, 317 ≤ i → i ≤ 323 → a ≤ j → j < b → c'.1 i j = c.1 i j ∧ c'.2.1 i j = c.2.1 i j := A.1
    have sp : ∀ most, ty_S c r n m most → ty_S c' r' n m most := by
      rintro most ⟨lo, hi, x1, x2, x3, x4, x5, x6⟩
      exact ⟨lo, hi, x1, x2, by rw [(C 322 n (by decide) (by decide) h1 h2).2]; exact x3, by rw [(C 323 n (by decide) (by decide) h1 h2).2]; exact x4, by rw [(R 957 m (by decide) (by decide) h3 h4).2]; exact x5, by rw [(R 958 m (by decide) (by decide) h3 h4).2]; exact x6⟩
    refine ⟨h1, by omega, h3, by omega, k, by rw [(C 317 n (by decide) (by decide) h1 h2).1]; exact h5, by rw [(R 955 m (by decide) (by decide) h3 h4).1]; exact h6, ?_⟩
    rcases h7 with ⟨hk, v, F, G, x1, x2, x3, x4, x5, x6⟩ | hk | ⟨hk, x⟩ | ⟨hk, v, g0, G, X, x0, x1, x2, x3, x4, x5, x6, x7⟩ | ⟨hk, v, F, G, X, O, x1, x2, x3, x4, x5, x6, x7⟩ | ⟨hk, x, n', m', y1, y2, y3, y4⟩ | ⟨hk, x⟩
    · have e : ∀ j, j < v → (c'.2.1 322 (F j) = c.2.1 322 (F j) ∧ c'.2.1 323 (F j) = c.2.1 323 (F j)) := fun j hj => by
        obtain ⟨y1, y2, _⟩ := x5 j hj
        have := (x3.2 j hj).2.1
        exact ⟨(C 322 (F j) (by decide) (by decide) (by omega) y1).2, (C 323 (F j) (by decide) (by decide) (by omega) y1).2⟩
      have e0 : c'.2.1 322 n = c.2.1 322 n ∧ c'.2.1 323 n = c.2.1 323 n := ⟨(C 322 n (by decide) (by decide) h1 h2).2, (C 323 n (by decide) (by decide) h1 h2).2⟩
      refine Or.inl ⟨hk, v, F, G, x1, by rw [(C 321 n (by decide) (by decide) h1 h2).1]; exact x2, x3.ag A h1 h2 (fun j hj => (x5 j hj).1), x4.ag R h3 h4 (fun j hj => (x5 j hj).2.1), fun j hj => ?_, ?_⟩
      · obtain ⟨y1, y2, y3, y4, y5, y6, y7⟩ := x5 j hj
        have q1 := (x3.2 j hj).2.1
        have q2 := (x4.2 j hj).2.1
        refine ⟨by omega, by omega, ?_, ?_, ?_, ?_, ?_⟩
        · rw [(C 317 (F j) (by decide) (by decide) (by omega) y1).1]; exact y3
        · rw [(R 955 (G j) (by decide) (by decide) (by omega) y2).1]; exact y4
        · rw [(e j hj).1, (R 957 (G j) (by decide) (by decide) (by omega) y2).2]; exact y5
        · rw [(e j hj).2, (R 958 (G j) (by decide) (by decide) (by omega) y2).2]; exact y6
        · rw [(e j hj).1, (e j hj).2]; exact y7
      · refine ⟨fun z => by rw [e0.1, e0.2]; exact x6.1 z, fun z => ?_⟩
        obtain ⟨y1, ⟨j, y2, y3⟩, i, y4, y5⟩ := x6.2 z
        refine ⟨fun j hj => by rw [e0.1, e0.2, (e j hj).1, (e j hj).2]; exact y1 j hj, ⟨j, y2, by rw [e0.1, (e j y2).1]; exact y3⟩, i, y4, by rw [e0.2, (e i y4).2]; exact y5⟩
    · exact Or.inr (Or.inl hk)
    · exact Or.inr (Or.inr (Or.inl ⟨hk, sp _ x⟩))
    · refine Or.inr (Or.inr (Or.inr (Or.inl ⟨hk, v, g0, G, X, x0, x1, by rw [(C 321 n (by decide) (by decide) h1 h2).1]; exact x2, by rw [(C 318 n (by decide) (by decide) h1 h2).1]; exact x3, by omega, x5.ag R h3 h4 (fun j hj => (x6 j hj).1), fun j hj => ?_, x7⟩)))
      obtain ⟨y1, y2, y3, y4, y5⟩ := x6 j hj
      have q2 := (x5.2 j hj).2.1
      refine ⟨by omega, ?_, y3, ?_, ?_⟩
      · rw [(R 955 (G j) (by decide) (by decide) (by omega) y1).1]; exact y2
      · rw [(R 957 (G j) (by decide) (by decide) (by omega) y1).2]; exact y4
      · rw [A.2 (g0 + j) (by omega)]; exact y5
    · refine Or.inr (Or.inr (Or.inr (Or.inr (Or.inl ⟨hk, v, F, G, X, O, x1, x2, by rw [(C 321 n (by decide) (by decide) h1 h2).1]; exact x3, x4.ag A h1 h2 (fun j hj => (x7 j hj).1), x5.ag R h3 h4 (fun j hj => (x7 j hj).2.1), x6, fun j hj => ?_⟩))))
      obtain ⟨y1, y2, ⟨z1, z2, z3, z4, z5, z6, z7, z8⟩, y3, n', m', y4, y5, y6, y7⟩ := x7 j hj
      have q1 := (x4.2 j hj).2.1
      have q2 := (x5.2 j hj).2.1
      have at7 := y7.at
      have hi : (if j + 1 < v then F (j + 1) else b) ≤ b := by
        split
        · rename_i z
          have := (x7 (j + 1) z).1
          omega
        · exact Nat.le_refl _
      have hi' : (if j + 1 < v then G (j + 1) else b') ≤ b' := by
        split
        · rename_i z
          have := (x7 (j + 1) z).2.1
          omega
        · exact Nat.le_refl _
      refine ⟨by omega, by omega, ⟨?_, ?_, z3, ?_, ?_, z6, ?_, ?_⟩, y3, n', m', ?_, ?_, ?_, ?_⟩
      · rw [(C 317 (F j) (by decide) (by decide) (by omega) y1).1]; exact z1
      · rw [(R 955 (G j) (by decide) (by decide) (by omega) y2).1]; exact z2
      · rw [(C 320 (F j) (by decide) (by decide) (by omega) y1).1]; exact z4
      · rw [(R 957 (G j) (by decide) (by decide) (by omega) y2).2]; exact z5
      · rw [(C 321 (F j) (by decide) (by decide) (by omega) y1).1]; exact z7
      · rw [(R 958 (G j) (by decide) (by decide) (by omega) y2).2]; exact z8
      · rw [(C 318 (F j) (by decide) (by decide) (by omega) y1).1]; exact y4
      · rw [(R 959 (G j) (by decide) (by decide) (by omega) y2).1]; exact y5
      · rw [(R 960 m' (by decide) (by decide) (by omega) (by omega)).1]; exact y6
      · refine ih _ _ _ _ _ _ _ y7 (A.sub (by omega) hi (Nat.le_refl _)) (R.sub (by omega) hi') (fun n m u1 u2 u3 u4 => N n m (by omega) (by omega) (by omega) (by omega)) f2 _ _ g2 (by omega) ?_ ?_ hg
        · split <;> omega
        · split <;> omega
    · have at4 := y4.at
      refine Or.inr (Or.inr (Or.inr (Or.inr (Or.inr (Or.inl ⟨hk, sp _ x, n', m', ?_, ?_, ?_, ih _ _ _ _ _ _ _ y4 (A.sub (by omega) (Nat.le_refl _) (Nat.le_refl _)) (R.sub (by omega) (Nat.le_refl _)) (fun n m u1 u2 u3 u4 => N n m (by omega) (by omega) (by omega) (by omega)) f2 _ _ g2 (by omega) hb hb' hg⟩)))))
      · rw [(C 318 n (by decide) (by decide) h1 h2).1]; exact y1
      · rw [(R 959 m (by decide) (by decide) h3 h4).1]; exact y2
      · rw [(R 960 m' (by decide) (by decide) (by omega) (by omega)).1]; exact y3
    · exact Or.inr (Or.inr (Or.inr (Or.inr (Or.inr (Or.inr ⟨hk, N n m h1 h2 h3 h4 x⟩)))))
/-- the reference's question whether a part has that word -/
theorem ch_has {r : t_S} {m0 v x : Nat} {G X : Nat → Nat} (h : ch_R r m0 v G) (hm : m0 < 13000) (hv : v < 1000000) (hx : x < 100000) (hX : ∀ j, j < v → X j < 100000 ∧ r.2.1 957 (G j) = lN (X j)) : t_hk (f_X13_hasPart (nI m0) (nI x).toInt64 r) (fun y => (y = 1 ∧ ∃ j, j < v ∧ X j = x) ∨ (y = 0 ∧ ∀ j, j < v → X j ≠ x)) := by
  obtain ⟨h1, h2⟩ := h
  unfold f_X13_hasPart
  refine l2_ck (l2_ix hm (by decide)) ?_
  rw [nI_clamp (by omega), h1, nI_l (by omega)]
  refine l2_lp (fun w y => ∃ j fl, j + w = v ∧ y = (lN x, fl, if j < v then nI (G j) else -1) ∧ ((fl = 1 ∧ ∃ i, i < v ∧ X i = x) ∨ (fl = 0 ∧ ∀ i, i < j → X i ≠ x))) ?_ (m := v) (Nat.lt_trans (show v < 1000000000 by omega) l2_N) ⟨0, 0, by omega, rfl, Or.inr ⟨rfl, fun i hi => by omega⟩⟩
  rintro w y ⟨j, fl, hj, rfl, hf⟩
  show t_hk (k_X13_hasPart_11 (lN x) fl (if j < v then nI (G j) else -1) r) _
  unfold k_X13_hasPart_11
  have f01 : fl = 0 ∨ fl = 1 := by
    rcases hf with ⟨y, _⟩ | ⟨y, _⟩
    · exact Or.inr y
    · exact Or.inl y
  by_cases z : j < v
  · rw [if_pos z]
    obtain ⟨g1, g2, g3, g4⟩ := h2 j z
    refine l2_no (nI_pos (by omega)) ?_
    have nx : (if j + 1 < v then nI (G (j + 1)) else -1) = r.1 960 (G j) := g3.symm
    have step : ∀ k0 : Int32, ((k0 = 1 ∧ ∃ i, i < v ∧ X i = x) ∨ (k0 = 0 ∧ ∀ i, i < j + 1 → X i ≠ x)) → t_hk (k_X13_hasPart_38 (lN x) (nI (G j)) k0 r) (l2_nx (fun z => ∃ i, i < w ∧ ∃ j fl, j + i = v ∧ z = (lN x, fl, if j < v then nI (G j) else -1) ∧ ((fl = 1 ∧ ∃ i, i < v ∧ X i = x) ∨ (fl = 0 ∧ ∀ i, i < j → X i ≠ x))) (fun y => (y = 1 ∧ ∃ j, j < v ∧ X j = x) ∨ (y = 0 ∧ ∀ j, j < v → X j ≠ x))) := by
      intro k0 hk0
      unfold k_X13_hasPart_38
      refine l2_ck (l2_ix g1 (by decide)) (l2_sm ⟨w - 1, by omega, j + 1, k0, by omega, ?_, hk0⟩)
      rw [nI_clamp (by omega), nx]
    unfold k_X13_hasPart_33
    rcases hf with ⟨rfl, i, i1, i2⟩ | ⟨rfl, hn⟩
    · exact l2_no (by decide) (step 1 (Or.inl ⟨rfl, i, i1, i2⟩))
    · refine l2_ck rfl (l2_ck (l2_ix g1 (by decide)) ?_)
      rw [nI_clamp (by omega), (hX j z).2]
      have hXj := (hX j z).1
      refine l2_if (fun e => ?_) (fun e => ?_)
      · have e := (pk_lEQ (by omega) (by omega)).mp (l2_cmp0.mp e)
        exact step 1 (Or.inl ⟨rfl, j, z, e⟩)
      · refine step 0 (Or.inr ⟨rfl, fun i hi => ?_⟩)
        by_cases y : i = j
        · rw [y]
          exact fun q => e (l2_cmp0.mpr (by rw [q]))
        · exact hn i (by omega)
  · rw [if_neg z]
    refine l2_ck ch_m1 (l2_mp (l2_ck f01 (l2_sm ?_)))
    rcases hf with ⟨rfl, y⟩ | ⟨rfl, hn⟩
    · exact Or.inl ⟨rfl, y⟩
    · exact Or.inr ⟨rfl, fun i hi => hn i (by omega)⟩
/-- the class's member that has that word -/
theorem cc_mem {c : t_S} {n v g0 x : Nat} {X : Nat → Nat} (hn : n < 3001) (h1 : c.1 321 n = nI v) (h2 : c.1 318 n = nI g0) (hg : g0 + v ≤ 6002) (hX : ∀ j, j < v → X j < 100000 ∧ c.1 325 (g0 + j) = nI (66 + X j)) (hx : x < 100000) : t_hk (f_X11_memberOf (nI n) (nI (66 + x)) c) (fun y => (∃ j, j < v ∧ X j = x ∧ y = nI j) ∨ (y = -1 ∧ ∀ j, j < v → X j ≠ x)) := by
  unfold f_X11_memberOf
  refine l2_lp (fun w y => ∃ j, j + w = v ∧ y = (nI n, nI (66 + x), nI j) ∧ ∀ i, i < j → X i ≠ x) ?_ (m := v) (Nat.lt_trans (show v < 1000000000 by omega) l2_N) ⟨0, by omega, rfl, fun i hi => by omega⟩
  rintro w y ⟨j, hj, rfl, hh⟩
  show t_hk (k_X11_memberOf_2 (nI n) (nI (66 + x)) (nI j) c) _
  unfold k_X11_memberOf_2
  refine l2_ck (l2_ix hn (by decide)) ?_
  rw [nI_clamp (n := n) (by omega), h1, h2, nI_add]
  refine l2_if (fun z => ?_) (fun z => ?_)
  · have z := (nI_leI (by omega) (by omega)).mp z
    exact l2_mp (l2_sm (Or.inr ⟨rfl, fun i hi => hh i (by omega)⟩))
  have z : ¬ v ≤ j := fun y => z ((nI_leI (by omega) (by omega)).mpr y)
  refine l2_ck (l2_ix (by omega) (by decide)) ?_
  obtain ⟨q1, q2⟩ := hX j (by omega)
  rw [nI_clamp (n := g0 + j) (by omega), q2, nI_1]
  refine l2_if (fun e => ?_) (fun e => ?_)
  · have e := (nI_eq (by omega) (by omega)).mp e
    exact l2_mp (l2_sm (Or.inl ⟨j, by omega, by omega, rfl⟩))
  · refine l2_sm ⟨w - 1, by omega, j + 1, by omega, rfl, fun i hi => ?_⟩
    by_cases y : i = j
    · rw [y]
      exact fun q => e (by rw [q])
    · exact hh i (by omega)
/-- the class's field of that word -/
theorem cc_fld {c : t_S} {n v x : Nat} {F X : Nat → Nat} (hn : n < 3001) (hc : cc_R c n v F) (h1 : c.1 321 n = nI v) (hv : v < 100000) (hX : ∀ j, j < v → X j < 100000 ∧ c.1 320 (F j) = nI (66 + X j)) (hx : x < 100000) : t_hk (f_X11_fieldOf (nI n) (nI (66 + x)) c) (fun y => (∃ j, j < v ∧ X j = x ∧ y = nI (F j)) ∨ (y = -1 ∧ ∀ j, j < v → X j ≠ x)) := by
  obtain ⟨c1, c2⟩ := hc
  unfold f_X11_fieldOf
  refine l2_ck (l2_ix hn (by decide)) ?_
  rw [nI_clamp (by omega), c1]
  refine l2_lp (fun w y => ∃ j, j + w = v ∧ y = (nI n, nI (66 + x), (if j < v then nI (F j) else -1), nI j) ∧ ∀ i, i < j → X i ≠ x) ?_ (m := v) (Nat.lt_trans (show v < 1000000000 by omega) l2_N) ⟨0, by omega, rfl, fun i hi => by omega⟩
  rintro w y ⟨j, hj, rfl, hh⟩
  show t_hk (k_X11_fieldOf_10 (nI n) (nI (66 + x)) (if j < v then nI (F j) else -1) (nI j) c) _
  unfold k_X11_fieldOf_10
  refine l2_ck (l2_ix hn (by decide)) ?_
  rw [nI_clamp (n := n) (by omega), h1]
  refine l2_if (fun z => ?_) (fun z => ?_)
  · have z := (nI_leI (by omega) (by omega)).mp z
    exact l2_mp (l2_sm (Or.inr ⟨rfl, fun i hi => hh i (by omega)⟩))
  have z : ¬ v ≤ j := fun y => z ((nI_leI (by omega) (by omega)).mpr y)
  have z2 : j < v := by omega
  rw [if_pos z2]
  obtain ⟨g1, g2, g3, g4⟩ := c2 j z2
  refine l2_no (nI_pos (by omega)) (l2_ck (l2_ix g1 (by decide)) ?_)
  obtain ⟨q1, q2⟩ := hX j z2
  rw [nI_clamp (n := F j) (by omega), q2, nI_1, g3]
  refine l2_if (fun e => ?_) (fun e => ?_)
  · have e := (nI_eq (by omega) (by omega)).mp e
    exact l2_mp (l2_sm (Or.inl ⟨j, by omega, by omega, rfl⟩))
  · refine l2_sm ⟨w - 1, by omega, j + 1, by omega, rfl, fun i hi => ?_⟩
    by_cases y : i = j
    · rw [y]
      exact fun q => e (by rw [q])
    · exact hh i (by omega)
