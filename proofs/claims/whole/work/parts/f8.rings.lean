/-! Level 2: types that are themselves: rings on both sides. -/
def pth (R : Nat → Nat → Prop) : Nat → Nat → Nat → Prop
  | 0, i, u => i = u
  | k + 1, i, u => ∃ w, pth R k i w ∧ R w u
/-- type x is but a name of type v -/
def nR (nt : Nat → Nat) (r : t_S) (x v : Nat) : Prop := ∃ m0 X, r.1 965 x = nI m0 ∧ m0 < 13000 ∧ r.1 955 m0 = 8 ∧ r.2.1 957 m0 = lN X ∧ X < 7934 ∧ to_R nt r 0 X (nI v) ∧ v < nt 0
/-- types' own nodes on both sides, names settled -/
def tyF (nt : Nat → Nat) (s r : t_S) : Prop := ∀ x, x < nt 0 → ∃ m0 a0, m0 < 13000 ∧ a0 < 3001 ∧ r.1 965 x = nI m0 ∧ s.1 326 x = nI a0 ∧ s.1 327 x = r.1 966 x ∧ ((r.1 955 m0 ≠ 8 ∧ s.1 317 a0 ≠ 8) ∨ ∃ X w, X < 7934 ∧ r.1 955 m0 = 8 ∧ r.2.1 957 m0 = lN X ∧ s.1 317 a0 = 8 ∧ to_R nt r 0 X w ∧ s.1 321 a0 = w)
/-- type i comes back to itself -/
def rg_R (nt : Nat → Nat) (r : t_S) (i : Nat) : Prop := ∃ k, 1 ≤ k ∧ pth (nR nt r) k i i
section
variable {R : Nat → Nat → Prop} {n i j k u x v w a b : Nat} {nt : Nat → Nat} {s r r' : t_S}
theorem pg_h : ∀ (n : Nat) (f : Nat → Nat), (∀ i, i ≤ n → f i < n) → ∃ a b, a < b ∧ b ≤ n ∧ f a = f b := by
  intro n
  induction n with
  | zero => intro f h; exact absurd (h 0 (Nat.le_refl _)) (Nat.not_lt_zero _)
  | succ n ih =>
    intro f h
    by_cases c : ∃ a, a ≤ n ∧ f a = f (n + 1)
    · obtain ⟨a, h1, h2⟩ := c
      exact ⟨a, n + 1, by omega, Nat.le_refl _, h2⟩
    · have nc : ∀ a, a ≤ n → f a ≠ f (n + 1) := fun a ha y => c ⟨a, ha, y⟩
      obtain ⟨a, b, h1, h2, h3⟩ := ih (fun i => if f i = n then f (n + 1) else f i) (fun i hi => by
        show (if f i = n then f (n + 1) else f i) < n
        have g1 := h i (by omega)
        have g2 := h (n + 1) (Nat.le_refl _)
        have g3 := nc i hi
        by_cases z : f i = n
        · rw [if_pos z]; omega
        · rw [if_neg z]; omega)
      refine ⟨a, b, h1, by omega, ?_⟩
      have h3 : (if f a = n then f (n + 1) else f a) = (if f b = n then f (n + 1) else f b) := h3
      by_cases z : f a = n
      · by_cases y : f b = n
        · rw [z, y]
        · rw [if_pos z, if_neg y] at h3
          exact absurd h3.symm (nc b (by omega))
      · by_cases y : f b = n
        · rw [if_neg z, if_pos y] at h3
          exact absurd h3 (nc a (by omega))
        · rw [if_neg z, if_neg y] at h3
          exact h3
theorem pth.un (hf : ∀ x u v, R x u → R x v → u = v) : ∀ {k i u v}, pth R k i u → pth R k i v → u = v := by
  intro k
  induction k with
  | zero => intro i u v h g; exact h.symm.trans g
  | succ k ih =>
    rintro i u v ⟨w, h1, h2⟩ ⟨z, g1, g2⟩
    have := ih h1 g1
    subst this
    exact hf _ _ _ h2 g2
theorem pth.add {a : Nat} : ∀ {b u v}, pth R a i u → pth R b u v → pth R (a + b) i v := by
  intro b
  induction b with
  | zero => intro u v h g; have g : u = v := g; subst g; exact h
  | succ b ih =>
    rintro u v h ⟨w, g1, g2⟩
    exact ⟨w, ih h g1, g2⟩
theorem pth.split (hf : ∀ x u v, R x u → R x v → u = v) : ∀ {b u v}, pth R a i u → pth R (a + b) i v → pth R b u v := by
  intro b
  induction b with
  | zero => intro u v h g; exact h.un hf g
  | succ b ih =>
    rintro u v h ⟨w, g1, g2⟩
    exact ⟨w, ih h g1, g2⟩
theorem pth.mid : ∀ {b v}, pth R (a + b) i v → ∃ u, pth R a i u := by
  intro b
  induction b with
  | zero => intro v h; exact ⟨v, h⟩
  | succ b ih => rintro v ⟨w, g1, _⟩; exact ih g1
theorem pth.lt (hn : ∀ x u, R x u → u < n) (h : pth R k i u) (hk : 1 ≤ k) : u < n := by
  cases k with
  | zero => omega
  | succ k =>
    obtain ⟨w, _, g⟩ := h
    exact hn _ _ g
/-- who comes back comes back within n -/
theorem pth.short (hf : ∀ x u v, R x u → R x v → u = v) (hn : ∀ x u, R x u → u < n) : ∀ {N k}, k ≤ N → 1 ≤ k → pth R k i i → ∃ j, 1 ≤ j ∧ j ≤ n ∧ pth R j i i := by
  intro N
  induction N with
  | zero => intro k h1 h2; omega
  | succ N ih =>
    intro k h1 h2 h
    by_cases c : k ≤ n
    · exact ⟨k, h2, c, h⟩
    have hx : ∀ j, j ≤ k → ∃ u, pth R j i u := fun j hj => pth.mid (b := k - j) (by rw [show j + (k - j) = k by omega]; exact h)
    let f : Nat → Nat := fun j => if hj : j + 1 ≤ k then Classical.choose (hx (j + 1) hj) else 0
    have hfs : ∀ j, j + 1 ≤ k → pth R (j + 1) i (f j) := fun j hj => by
      show pth R (j + 1) i (if hj : j + 1 ≤ k then Classical.choose (hx (j + 1) hj) else 0)
      rw [dif_pos hj]
      exact Classical.choose_spec (hx (j + 1) hj)
    obtain ⟨a, b, a1, a2, a3⟩ := pg_h n f (fun j hj => (hfs j (by omega)).lt hn (by omega))
    have p1 := hfs a (by omega)
    have p2 := hfs b (by omega)
    rw [a3] at p1
    have p3 : pth R (k - (b + 1)) (f b) i := pth.split hf p2 (by rw [show b + 1 + (k - (b + 1)) = k by omega]; exact h)
    exact ih (k := a + 1 + (k - (b + 1))) (by omega) (by omega) (p1.add p3)
theorem pth.stop (h : ∀ w, ¬ pth R j i w) (hk : j ≤ k) : ∀ w, ¬ pth R k i w := fun w g => by
  obtain ⟨u, hu⟩ := pth.mid (a := j) (b := k - j) (by rw [show j + (k - j) = k by omega]; exact g)
  exact h u hu
theorem nR.un (x u v : Nat) (hn : nt 0 ≤ 60) (h : nR nt r x u) (g : nR nt r x v) : u = v := by
  obtain ⟨m0, X, h1, h2, h3, h4, h5, h6, h7⟩ := h
  obtain ⟨m1, Y, g1, g2, g3, g4, g5, g6, g7⟩ := g
  have em : m0 = m1 := (nI_eq (by omega) (by omega)).mp (h1.symm.trans g1)
  subst em
  have eX := lN_X h4 g4 h5 g5
  subst eX
  exact (nI_eq (by omega) (by omega)).mp (h6.eq g6)
/-- a type's node tells whither -/
theorem tyF.tells (T : tyF nt s r) (hn : nt 0 ≤ 60) (hx : x < nt 0) : ∃ m0 a0, m0 < 13000 ∧ a0 < 3001 ∧ r.1 965 x = nI m0 ∧ s.1 326 x = nI a0 ∧ ((r.1 955 m0 ≠ 8 ∧ s.1 317 a0 ≠ 8 ∧ ∀ v, ¬ nR nt r x v) ∨ ∃ X w, X < 7934 ∧ r.1 955 m0 = 8 ∧ r.2.1 957 m0 = lN X ∧ s.1 317 a0 = 8 ∧ to_R nt r 0 X w ∧ s.1 321 a0 = w ∧ ((w = -1 ∧ ∀ v, ¬ nR nt r x v) ∨ ∃ v, v < nt 0 ∧ w = nI v ∧ nR nt r x v)) := by
  obtain ⟨m0, a0, h1, h2, h3, h4, _, h⟩ := T x hx
  have em : ∀ {m1 : Nat}, m1 < 13000 → r.1 965 x = nI m1 → m1 = m0 := fun hm e => (nI_eq (by omega) (by omega)).mp (e.symm.trans h3)
  refine ⟨m0, a0, h1, h2, h3, h4, h.imp (fun ⟨g1, g2⟩ => ⟨g1, g2, fun v ⟨m1, X, y1, y2, y3, _⟩ => ?_⟩) (fun ⟨X, w, g1, g2, g3, g4, g5, g6⟩ => ⟨X, w, g1, g2, g3, g4, g5, g6, ?_⟩)⟩
  · rw [em y2 y1] at y3
    exact g1 y3
  · rcases g5.2 with ⟨y, _⟩ | ⟨v, y1, y2, y3⟩
    · refine Or.inl ⟨y, fun v ⟨m1, Y, z1, z2, z3, z4, z5, z6, z7⟩ => ?_⟩
      have e := em z2 z1
      subst e
      have eX := lN_X g3 z4 g1 z5
      subst eX
      have := congrArg Int32.toInt (y.symm.trans (g5.eq z6))
      rw [nI_toInt (by omega), show (-1 : Int32).toInt = -1 from rfl] at this
      omega
    · exact Or.inr ⟨v, y1, y2, m0, X, h3, h1, g2, g3, g1, by rw [← y2]; exact g5, y1⟩
theorem rg_60 (hn : nt 0 ≤ 60) {K : Nat} (hK : nt 0 ≤ K) : (∃ k, 1 ≤ k ∧ k ≤ K ∧ pth (nR nt r) k i i) ↔ rg_R nt r i := ⟨fun ⟨k, h1, _, h2⟩ => ⟨k, h1, h2⟩, fun ⟨k, h1, h2⟩ => by
  obtain ⟨j, j1, j2, j3⟩ := pth.short (n := nt 0) (fun x u v h g => nR.un x u v hn h g) (fun x u h => by
    obtain ⟨_, _, _, _, _, _, _, _, h7⟩ := h
    exact h7) (Nat.le_refl k) h1 h2
  exact ⟨j, j1, by omega, j3⟩⟩
/-- the class's loop -/
theorem rg_cls (T : tyF nt s r) (hn : nt 0 ≤ 60) (hi : i < nt 0) : t_hk (f_X11_isItself (nI i) s) (fun v => (v = 0 ∨ v = 1) ∧ (v = 1 ↔ rg_R nt r i)) := by
  have hf : ∀ x u v, nR nt r x u → nR nt r x v → u = v := fun x u v h g => nR.un x u v hn h g
  have out0 : (∀ k, 1 ≤ k → ¬ pth (nR nt r) k i i) → (((0 : Int32) = 0 ∨ (0 : Int32) = 1) ∧ ((0 : Int32) = 1 ↔ rg_R nt r i)) := fun h => ⟨Or.inl rfl, fun y => absurd y (by decide), fun ⟨k, k1, k2⟩ => absurd k2 (h k k1)⟩
  unfold f_X11_isItself
  refine l2_lp (fun u y => ∃ j x : Nat, j + u = 60 ∧ y = (nI i, nI x, nI j) ∧ x < nt 0 ∧ pth (nR nt r) j i x ∧ ∀ k, 1 ≤ k → k ≤ j → ¬ pth (nR nt r) k i i) ?_ (m := 60) (Nat.lt_trans (show 60 < 1000000000 by omega) l2_N) ⟨0, i, by omega, rfl, hi, rfl, fun k k1 k2 => by omega⟩
  rintro u y ⟨j, x, hj, rfl, hx, hp, no⟩
  show t_hk (k_X11_isItself_4 (nI i) (nI x) (nI j) s) _
  unfold k_X11_isItself_4
  by_cases z : j = 60
  · subst z
    refine l2_ck (show (60 : Int32) ≤ nI 60 from nI_le (a := 60) (by decide) (by decide)) (l2_mp (l2_sm ?_))
    refine ⟨Or.inl rfl, fun y => absurd y (by decide), fun y => ?_⟩
    obtain ⟨k, k1, k2, k3⟩ := (rg_60 hn (K := 60) hn).mpr y
    exact absurd k3 (no k k1 k2)
  refine l2_no (show ¬ (60 : Int32) ≤ nI j from nI_ge (b := 60) (by omega) (by decide)) (l2_ck (l2_ix (show x < 60 by omega) (by decide)) ?_)
  obtain ⟨m0, a0, h1, h2, h3, h4, h⟩ := T.tells hn hx
  rw [nI_clamp (n := x) (by omega), h4]
  refine l2_ck (l2_ix h2 (by decide)) ?_
  rw [nI_clamp (n := a0) (by omega)]
  have stop : (∀ v, ¬ nR nt r x v) → ∀ k, 1 ≤ k → ¬ pth (nR nt r) k i i := fun nv k k1 => by
    by_cases c : k ≤ j
    · exact no k k1 c
    · exact pth.stop (j := j + 1) (fun w ⟨x', y1, y2⟩ => nv w (by rw [hp.un hf y1]; exact y2)) (by omega) i
  rcases h with ⟨_, g2, g3⟩ | ⟨X, w, g1, g2, g3, g4, g5, g6, g7⟩
  · rw [if_neg g2]
    exact l2_mp (l2_sm (out0 (stop g3)))
  rw [if_pos g4, g6]
  rcases g7 with ⟨rfl, g7⟩ | ⟨v, v1, rfl, v3⟩
  · exact l2_no (by decide) (l2_mp (l2_sm (out0 (stop g7))))
  refine l2_ck (nI_pos' (by omega)) (l2_if (fun z => ?_) (fun z => ?_))
  · have ev : v = i := (nI_eq (by omega) (by omega)).mp z
    subst ev
    exact l2_mp (l2_sm ⟨Or.inr rfl, fun _ => ⟨j + 1, by omega, x, hp, v3⟩, fun _ => rfl⟩)
  · rw [nI_1]
    refine l2_sm ⟨u - 1, by omega, j + 1, v, by omega, rfl, v1, ⟨x, hp, v3⟩, fun k k1 k2 => ?_⟩
    by_cases c : k ≤ j
    · exact no k k1 c
    · have ek : k = j + 1 := by omega
      subst ek
      rintro ⟨x', y1, y2⟩
      have ex := hp.un hf y1
      subst ex
      exact z (by rw [hf x v i v3 y2])
/-- the reference's -/
theorem rg_ref (T : tyF nt s r) (hn : nt 0 ≤ 60) (f : l2_fr ck_W r r') (e40 : r'.1 950 40 = nI (nt 0)) (hi : i < nt 0) : t_hk (f_X13_isRing (nI i) r') (fun v => (v = 0 ∨ v = 1) ∧ (v = 1 ↔ rg_R nt r i)) := by
  have hf : ∀ x u v, nR nt r x u → nR nt r x v → u = v := fun x u v h g => nR.un x u v hn h g
  have out0 : (∀ k, 1 ≤ k → ¬ pth (nR nt r) k i i) → (((0 : Int32) = 0 ∨ (0 : Int32) = 1) ∧ ((0 : Int32) = 1 ↔ rg_R nt r i)) := fun h => ⟨Or.inl rfl, fun y => absurd y (by decide), fun ⟨k, k1, k2⟩ => absurd k2 (h k k1)⟩
  unfold f_X13_isRing
  refine l2_lp (fun u y => ∃ (j : Nat) (l2 : Int32), j + u = nt 0 + 1 ∧ y = (nI i, l2, nI j) ∧ (∀ k, 1 ≤ k → k ≤ j → ¬ pth (nR nt r) k i i) ∧ ((l2 = -1 ∧ ∀ w, ¬ pth (nR nt r) j i w) ∨ ∃ x : Nat, l2 = nI x ∧ x < nt 0 ∧ pth (nR nt r) j i x)) ?_ (m := nt 0 + 1) (Nat.lt_trans (show nt 0 + 1 < 1000000000 by omega) l2_N) ⟨0, nI i, by omega, rfl, fun k k1 k2 => by omega, Or.inr ⟨i, rfl, hi, rfl⟩⟩
  rintro u y ⟨j, l2, hj, rfl, no, hl⟩
  show t_hk (k_X13_isRing_4 (nI i) l2 (nI j) r') _
  unfold k_X13_isRing_4
  rw [e40]
  by_cases z : j = nt 0 + 1
  · subst z
    refine l2_ck (nI_lt (by omega) (by omega)) (l2_mp (l2_sm ?_))
    refine ⟨Or.inl rfl, fun y => absurd y (by decide), fun y => ?_⟩
    obtain ⟨k, k1, k2, k3⟩ := (rg_60 hn (K := nt 0 + 1) (by omega)).mpr y
    exact absurd k3 (no k k1 k2)
  refine l2_no (Int32.not_lt.mpr (nI_le (by omega) (by omega))) ?_
  rcases hl with ⟨rfl, ns⟩ | ⟨x, rfl, hx, hp⟩
  · refine l2_ck (by decide) (l2_mp (l2_sm (out0 (fun k k1 => ?_))))
    by_cases c : k ≤ j
    · exact no k k1 c
    · exact pth.stop ns (by omega) i
  refine l2_no (nI_pos (by omega)) (l2_ck (l2_ix (show x < 60 by omega) (by decide)) ?_)
  obtain ⟨m0, a0, h1, h2, h3, h4, h⟩ := T.tells hn hx
  rw [nI_clamp (n := x) (by omega), ck_c f (b := 965) (by decide) (by decide), h3]
  refine l2_ck (l2_ix h1 (by decide)) ?_
  rw [nI_clamp (n := m0) (by omega), ck_c f (b := 955) (by decide) (by decide), (f 957 m0 (by unfold ck_W; omega)).2.1]
  have stop : (∀ v, ¬ nR nt r x v) → ∀ w, ¬ pth (nR nt r) (j + 1) i w := fun nv w ⟨x', y1, y2⟩ => nv w (by rw [hp.un hf y1]; exact y2)
  rcases h with ⟨g2, _, g3⟩ | ⟨X, w, g1, g2, g3, g4, g5, g6, g7⟩
  · rw [if_neg g2]
    refine l2_mp (l2_sm (out0 (fun k k1 => ?_)))
    by_cases c : k ≤ j
    · exact no k k1 c
    · exact pth.stop (stop g3) (by omega) i
  have tR' : to_R nt r' 0 X w := (ck_to f (by decide)).mpr g5
  rw [if_pos g2, g3, lN_w X, show f_X13_find 964 0 (nI (nt 0)) (nI X) r' = some w from tR'.1, l2_bs]
  rcases g7 with ⟨rfl, g7⟩ | ⟨v, v1, rfl, v3⟩
  · refine l2_no (fun y => ?_) ?_
    · have := congrArg Int32.toInt y
      rw [nI_toInt (by omega), show (-1 : Int32).toInt = -1 from rfl] at this
      omega
    rw [nI_1]
    refine l2_sm ⟨u - 1, by omega, j + 1, -1, by omega, rfl, fun k k1 k2 => ?_, Or.inl ⟨rfl, stop g7⟩⟩
    by_cases c : k ≤ j
    · exact no k k1 c
    · rw [show k = j + 1 by omega]
      exact stop g7 i
  refine l2_if (fun z => ?_) (fun z => ?_)
  · have ev : v = i := (nI_eq (by omega) (by omega)).mp z
    subst ev
    exact l2_mp (l2_sm ⟨Or.inr rfl, fun _ => ⟨j + 1, by omega, x, hp, v3⟩, fun _ => rfl⟩)
  · rw [nI_1]
    refine l2_sm ⟨u - 1, by omega, j + 1, nI v, by omega, rfl, fun k k1 k2 => ?_, Or.inr ⟨v, rfl, v1, x, hp, v3⟩⟩
    by_cases c : k ≤ j
    · exact no k k1 c
    · have ek : k = j + 1 := by omega
      subst ek
      rintro ⟨x', y1, y2⟩
      have ex := hp.un hf y1
      subst ex
      exact z (by rw [hf x v i v3 y2])
end
