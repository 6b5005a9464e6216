/-! Level 2: one VALUE on both sides, well made: numbers in bounds, lists of at most 16, nothing OMIT within, fields by rising names. -/
def VW (c r : Nat → Int64) : Nat → Nat → Nat → Nat → Nat → Prop
  | 0, _, _, _, _ => False
  | f + 1, i, p, n, m => (0 < n ∧ n ≤ 120 ∧ 0 < m) ∧ ∃ (t : Int) (k : Nat), vl_c t n k (c i) ∧ r p = lN k ∧
    ((((k = 0 ∧ -(10 ^ 15) ≤ t ∧ t ≤ 10 ^ 15) ∨ (k = 1 ∧ (t = 0 ∨ t = 1)) ∨ (k = 5 ∧ 0 ≤ t ∧ t < 8)) ∧ n = 1 ∧ m = 2 ∧ (r (p + 1)).toInt = t) ∨
     (k = 3 ∧ n = 1 ∧ m = 2 ∧ ∃ X : Nat, X < 7934 ∧ t = X + 66 ∧ r (p + 1) = lN X) ∨
     (k = 4 ∧ n = 1 ∧ m = 1 ∧ t = 0) ∨
     (∃ v : Nat, k = 2 ∧ t = v ∧ v ≤ 40 ∧ n = 1 + (v + 7) / 8 ∧ m = 2 + (v + 7) / 8 ∧ r (p + 1) = lN v ∧ ∃ B : Nat → Nat, (∀ j, j < v → 32 ≤ B j ∧ B j ≤ 126) ∧ ∀ q, q < (v + 7) / 8 → vr_X v q B (c (i + 1 + q)) (r (p + 2 + q))) ∨
     (k = 7 ∧ 1 < n ∧ 2 < m ∧ ∃ X : Nat, X < 7934 ∧ t = X + 66 ∧ r (p + 1) = lN X ∧ r (p + 2) ≠ lN 4 ∧ VW c r f (i + 1) (p + 2) (n - 1) (m - 2)) ∨
     (∃ (v : Nat) (I P : Nat → Nat), k = 8 ∧ t = v ∧ v ≤ 16 ∧ r (p + 1) = lN v ∧ 2 ≤ m ∧ I 0 = 0 ∧ P 0 = 0 ∧ I v = n - 1 ∧ P v = m - 2 ∧ ∀ j, j < v → (I j < I (j + 1) ∧ P j ≤ P (j + 1) ∧ I (j + 1) ≤ n - 1 ∧ P (j + 1) ≤ m - 2) ∧ r (p + 2 + P j) ≠ lN 4 ∧ VW c r f (i + 1 + I j) (p + 2 + P j) (I (j + 1) - I j) (P (j + 1) - P j)) ∨
     (∃ (v : Nat) (I P X : Nat → Nat), k = 6 ∧ t = v ∧ r (p + 1) = lN v ∧ 2 + v ≤ m ∧ I 0 = 0 ∧ P 0 = 0 ∧ I v = n - 1 ∧ P v = m - 2 - v ∧ ∀ j, j < v → (I j + 1 < I (j + 1) ∧ P j ≤ P (j + 1) ∧ I (j + 1) ≤ n - 1 ∧ P (j + 1) ≤ m - 2 - v) ∧ (X j < 7934 ∧ (j + 1 < v → X j < X (j + 1)) ∧ vl_c (X j + 66) 1 9 (c (i + 1 + I j)) ∧ r (p + 2 + j) = lN (X j)) ∧ r (p + 2 + v + P j) ≠ lN 4 ∧ VW c r f (i + 1 + I j + 1) (p + 2 + v + P j) (I (j + 1) - I j - 1) (P (j + 1) - P j)))
theorem VW.pos {c r : Nat → Int64} {f i p n m : Nat} (h : VW c r f i p n m) : 0 < n ∧ n ≤ 120 ∧ 0 < m := by
  cases f with
  | zero => exact h.elim
  | succ f => exact h.1
theorem VW.vr {c r : Nat → Int64} : ∀ f i p n m, VW c r f i p n m → VR kp_wd c r f i p n m := by
  have tl : ∀ {x : Int64} {v : Nat}, v < 2 ^ 63 → x = lN v → x.toInt = v := fun hv e => by rw [e, pk_lT hv]
  intro f
  induction f with
  | zero => intro i p n m h; exact h.elim
  | succ f ih =>
    intro i p n m h
    obtain ⟨⟨h1, h2, h4⟩, t, k, h3, h5, h6⟩ := h
    have hk := h3.2.2
    refine ⟨t, k, h1, h2, h3, h4, tl (by omega) h5, ?_⟩
    rcases h6 with ⟨a, b, d, e⟩ | ⟨a, b, d, X, x1, x2, x3⟩ | h6 | ⟨v, a, b, d, e, g, l, B, x, y⟩ | ⟨a, b, d, X, x1, x2, x3, x4, x5⟩ | ⟨v, I, P, a, b, d, e, g, x1, x2, x3, x4, x5⟩ | ⟨v, I, P, X, a, b, d, e, x1, x2, x3, x4, x5⟩
    · exact Or.inl ⟨by omega, b, d, e⟩
    · exact Or.inr (Or.inl ⟨a, b, d, by rw [tl (by omega) x3]; exact x2⟩)
    · exact Or.inr (Or.inr (Or.inl h6))
    · exact Or.inr (Or.inr (Or.inr (Or.inl ⟨v, a, b, d, e, g, tl (by omega) l, B, x, y⟩)))
    · exact Or.inr (Or.inr (Or.inr (Or.inr (Or.inl ⟨a, b, d, by rw [tl (by omega) x3]; exact x2, ih _ _ _ _ x5⟩))))
    · exact Or.inr (Or.inr (Or.inr (Or.inr (Or.inr (Or.inl ⟨v, a, b, tl (by omega) e, g, I, P, x1, x2, x3, x4, fun j hj => ⟨by have := (x5 j hj).1; omega, (x5 j hj).1.2.1, (x5 j hj).1.2.2.1, (x5 j hj).1.2.2.2, ih _ _ _ _ (x5 j hj).2.2⟩⟩)))))
    · have hv : v ≤ n - 1 := by
        have q := vr_mono (I := I) (v := v) 1 (fun j hj => by have := (x5 j hj).1; omega) v (by omega)
        omega
      exact Or.inr (Or.inr (Or.inr (Or.inr (Or.inr (Or.inr ⟨v, a, b, tl (by omega) d, e, I, x1, x3, fun j hj => ⟨by have := (x5 j hj).1; omega, (x5 j hj).1.2.2.1, X j + 66, (x5 j hj).2.1.2.2.1, by rw [tl (by have := (x5 j hj).2.1.1; omega) (x5 j hj).2.1.2.2.2]; rfl⟩, P, x2, x4, fun j hj => ⟨(x5 j hj).1.2.1, (x5 j hj).1.2.2.2, ih _ _ _ _ (x5 j hj).2.2.2⟩⟩)))))
/-- a VALUE copied is the same VALUE -/
theorem VW.copy {c r c' r' : Nat → Int64} : ∀ (f i p n m i' p' : Nat), VW c r f i p n m → (∀ d, d < n → c' (i' + d) = c (i + d)) → (∀ d, d < m → r' (p' + d) = r (p + d)) → VW c' r' f i' p' n m := by
  intro f
  induction f with
  | zero => intro i p n m i' p' h; exact h.elim
  | succ f ih =>
    intro i p n m i' p' h hc hr
    obtain ⟨⟨h1, h2, h4⟩, t, k, h3, h5, h6⟩ := h
    have c0 : c' i' = c i := hc 0 h1
    have r0 : r' p' = r p := hr 0 h4
    have C : ∀ x y : Nat, y < n → i' + y = x → c' x = c (i + y) := fun x y hy e => by rw [← e]; exact hc y hy
    have R : ∀ x y : Nat, y < m → p' + y = x → r' x = r (p + y) := fun x y hy e => by rw [← e]; exact hr y hy
    refine ⟨⟨h1, h2, h4⟩, t, k, by rw [c0]; exact h3, by rw [r0]; exact h5, ?_⟩
    rcases h6 with ⟨a, b, d, e⟩ | ⟨a, b, d, X, x1, x2, x3⟩ | h6 | ⟨v, a, b, d, e, g, l, B, x, y⟩ | ⟨a, b, d, X, x1, x2, x3, x4, x5⟩ | ⟨v, I, P, a, b, d, e, g, x1, x2, x3, x4, x5⟩ | ⟨v, I, P, X, a, b, d, e, x1, x2, x3, x4, x5⟩
    · exact Or.inl ⟨a, b, d, by rw [R _ 1 (by omega) rfl]; exact e⟩
    · exact Or.inr (Or.inl ⟨a, b, d, X, x1, x2, by rw [R _ 1 (by omega) rfl]; exact x3⟩)
    · exact Or.inr (Or.inr (Or.inl h6))
    · refine Or.inr (Or.inr (Or.inr (Or.inl ⟨v, a, b, d, e, g, by rw [R _ 1 (by omega) rfl]; exact l, B, x, fun q hq => ?_⟩)))
      rw [C (i' + 1 + q) (1 + q) (by omega) (by omega), R (p' + 2 + q) (2 + q) (by omega) (by omega), ← Nat.add_assoc, ← Nat.add_assoc]
      exact y q hq
    · refine Or.inr (Or.inr (Or.inr (Or.inr (Or.inl ⟨a, b, d, X, x1, x2, by rw [R _ 1 (by omega) rfl]; exact x3, by rw [R _ 2 (by omega) rfl]; exact x4, ih _ _ _ _ _ _ x5 (fun x hx => ?_) (fun x hx => ?_)⟩))))
      · rw [C (i' + 1 + x) (1 + x) (by omega) (by omega), ← Nat.add_assoc]
      · rw [R (p' + 2 + x) (2 + x) (by omega) (by omega), ← Nat.add_assoc]
    · refine Or.inr (Or.inr (Or.inr (Or.inr (Or.inr (Or.inl ⟨v, I, P, a, b, d, by rw [R _ 1 (by omega) rfl]; exact e, g, x1, x2, x3, x4, fun j hj => ?_⟩)))))
      obtain ⟨⟨y1, y2, y3, y4⟩, y5, y6⟩ := x5 j hj
      have yp := y6.pos
      refine ⟨⟨y1, y2, y3, y4⟩, ?_, ih _ _ _ _ _ _ y6 (fun x hx => ?_) (fun x hx => ?_)⟩
      · rw [R (p' + 2 + P j) (2 + P j) (by omega) (by omega), ← Nat.add_assoc]
        exact y5
      · rw [C (i' + 1 + I j + x) (1 + I j + x) (by omega) (by omega), show i + (1 + I j + x) = i + 1 + I j + x by omega]
      · rw [R (p' + 2 + P j + x) (2 + P j + x) (by omega) (by omega), show p + (2 + P j + x) = p + 2 + P j + x by omega]
    · refine Or.inr (Or.inr (Or.inr (Or.inr (Or.inr (Or.inr ⟨v, I, P, X, a, b, by rw [R _ 1 (by omega) rfl]; exact d, e, x1, x2, x3, x4, fun j hj => ?_⟩)))))
      obtain ⟨⟨y1, y2, y3, y4⟩, ⟨z1, z2, z3, z4⟩, y5, y6⟩ := x5 j hj
      have yp := y6.pos
      refine ⟨⟨y1, y2, y3, y4⟩, ⟨z1, z2, ?_, ?_⟩, ?_, ih _ _ _ _ _ _ y6 (fun x hx => ?_) (fun x hx => ?_)⟩
      · rw [C (i' + 1 + I j) (1 + I j) (by omega) (by omega), ← Nat.add_assoc]
        exact z3
      · rw [R (p' + 2 + j) (2 + j) (by omega) (by omega), ← Nat.add_assoc]
        exact z4
      · rw [R (p' + 2 + v + P j) (2 + v + P j) (by omega) (by omega), show p + (2 + v + P j) = p + 2 + v + P j by omega]
        exact y5
      · rw [C (i' + 1 + I j + 1 + x) (1 + I j + 1 + x) (by omega) (by omega), show i + (1 + I j + 1 + x) = i + 1 + I j + 1 + x by omega]
      · rw [R (p' + 2 + v + P j + x) (2 + v + P j + x) (by omega) (by omega), show p + (2 + v + P j + x) = p + 2 + v + P j + x by omega]
/-- any fuel will do that is not below the weight -/
theorem VW.dep {c r : Nat → Int64} : ∀ f i p n m, VW c r f i p n m → ∀ g, n ≤ g → VW c r g i p n m := by
  intro f
  induction f with
  | zero => intro i p n m h; exact h.elim
  | succ f ih =>
    intro i p n m h g hg
    obtain ⟨⟨h1, h2, h4⟩, t, k, h3, h5, h6⟩ := h
    cases g with
    | zero => omega
    | succ g =>
    refine ⟨⟨h1, h2, h4⟩, t, k, h3, h5, ?_⟩
    rcases h6 with h6 | h6 | h6 | h6 | ⟨a, b, d, X, x1, x2, x3, x4, x5⟩ | ⟨v, I, P, a, b, d, e, y, x1, x2, x3, x4, x5⟩ | ⟨v, I, P, X, a, b, d, e, x1, x2, x3, x4, x5⟩
    · exact Or.inl h6
    · exact Or.inr (Or.inl h6)
    · exact Or.inr (Or.inr (Or.inl h6))
    · exact Or.inr (Or.inr (Or.inr (Or.inl h6)))
    · exact Or.inr (Or.inr (Or.inr (Or.inr (Or.inl ⟨a, b, d, X, x1, x2, x3, x4, ih _ _ _ _ x5 g (by omega)⟩))))
    · refine Or.inr (Or.inr (Or.inr (Or.inr (Or.inr (Or.inl ⟨v, I, P, a, b, d, e, y, x1, x2, x3, x4, fun j hj => ?_⟩)))))
      obtain ⟨y1, y5, y6⟩ := x5 j hj
      exact ⟨y1, y5, ih _ _ _ _ y6 g (by omega)⟩
    · refine Or.inr (Or.inr (Or.inr (Or.inr (Or.inr (Or.inr ⟨v, I, P, X, a, b, d, e, x1, x2, x3, x4, fun j hj => ?_⟩)))))
      obtain ⟨y1, y2, y5, y6⟩ := x5 j hj
      exact ⟨y1, y2, y5, ih _ _ _ _ y6 g (by omega)⟩
theorem VW.m2 {c r : Nat → Int64} {f i p n m : Nat} (h : VW c r f i p n m) : m ≤ 2 * n := VR.m2 _ _ _ _ _ (VW.vr _ _ _ _ _ h)
/-- what is kept, and well made -/
def kq_R (c r : t_S) (K : Nat) : Prop := c.1 12 2 = nI K ∧ r.1 950 96 = nI K ∧ K ≤ 40 ∧ ∀ v, v < K → ∃ n m, VW (c.2.1 13) (r.2.1 1006) 120 (120 * (1548 + v)) (260 * v) n m ∧ c.1 14 (1548 + v) = nI n
theorem kq_R.kp {c r : t_S} {K : Nat} (h : kq_R c r K) : kp_R kp_wd c r K := ⟨h.1, h.2.1, h.2.2.1, fun v hv => by
  obtain ⟨n, m, w, g⟩ := h.2.2.2 v hv
  exact ⟨n, m, VW.vr _ _ _ _ _ w, g⟩⟩
theorem kq_R.fr {c r c' r' : t_S} {K : Nat} (h : kq_R c r K) (a1 : c'.1 12 2 = c.1 12 2) (a2 : ∀ j, 185760 ≤ j → c'.2.1 13 j = c.2.1 13 j) (a3 : ∀ j, 1548 ≤ j → c'.1 14 j = c.1 14 j) (b1 : r'.1 950 96 = r.1 950 96) (b2 : ∀ j, j < 10400 → r'.2.1 1006 j = r.2.1 1006 j) : kq_R c' r' K := by
  obtain ⟨h1, h2, h3, h4⟩ := h
  refine ⟨a1.trans h1, b1.trans h2, h3, fun v hv => ?_⟩
  obtain ⟨n, m, w, g⟩ := h4 v hv
  have q := w.pos
  have q2 := w.m2
  exact ⟨n, m, VW.copy _ _ _ _ _ _ _ w (fun d hd => a2 _ (by omega)) (fun d hd => b2 _ (by omega)), (a3 _ (by omega)).trans g⟩
theorem kq_R.dn {c r c' r' : t_S} {K : Nat} (h : kq_R c r K) (a1 : c'.1 12 2 = nI (K - 1)) (a2 : c'.2.1 13 = c.2.1 13) (a3 : c'.1 14 = c.1 14) (b1 : r'.1 950 96 = nI (K - 1)) (b2 : r'.2.1 1006 = r.2.1 1006) : kq_R c' r' (K - 1) := by
  obtain ⟨h1, h2, h3, h4⟩ := h
  refine ⟨a1, b1, by omega, fun v hv => ?_⟩
  rw [a2, a3, b2]
  exact h4 v (by omega)
/-- one more kept on both sides -/
theorem kq_push {c r c1 r1 : t_S} {K a f i p n m : Nat} (h : kq_R c r K) (hK : K < 40) (hv : VW (c.2.1 a) (r.2.1 1006) f i p n m) (hc : vl_P c c1 a i n (1548 + K)) (hr : vr_P r r1 1006 p (260 * K) m) : kq_R (t_setI c1 12 2 (nI (K + 1))) (t_setI r1 950 96 (nI (K + 1))) (K + 1) := by
  obtain ⟨h1, h2, h3, h4⟩ := h
  obtain ⟨c2, c3, c4, c5, c6⟩ := hc
  obtain ⟨r2, r3, r4⟩ := hr
  refine ⟨by rw [l2_sI, l2_upif, if_pos rfl], by rw [l2_sI, l2_upif, if_pos rfl], by omega, fun v hv2 => ?_⟩
  have e14 : (t_setI c1 12 2 (nI (K + 1))).1 14 = c1.1 14 := l2_sO (by decide)
  rw [e14]
  show ∃ n m, VW (c1.2.1 13) (r1.2.1 1006) 120 (120 * (1548 + v)) (260 * v) n m ∧ c1.1 14 (1548 + v) = nI n
  by_cases e : v = K
  · subst e
    have q := hv.pos
    exact ⟨n, m, VW.dep _ _ _ _ _ (VW.copy _ _ _ _ _ _ _ hv (fun d hd => c2 d hd) (fun d hd => r2 d hd)) 120 (by omega), c4⟩
  · obtain ⟨n2, m2, w, g⟩ := h4 v (by omega)
    have q := w.pos
    have q2 := w.m2
    have q3 := hv.pos
    have q4 := hv.m2
    exact ⟨n2, m2, VW.copy _ _ _ _ _ _ _ w (fun d hd => c3 _ (by omega)) (fun d hd => r3 _ (by omega)), (c5 _ (by omega)).trans g⟩
