/-! Level 2: the parts of a VALUE one behind the other, on both sides. -/
def vk (w : Int64) : Nat := (w.toInt % 16).toNat
def vsz (w : Int64) : Nat := (w.toInt / 16 % 256).toNat
theorem vk_of {t : Int} {n k : Nat} {w : Int64} (h : vl_c t n k w) : vk w = k ∧ vsz w = n := by
  unfold vk vsz
  obtain ⟨h1, h2, h3⟩ := h
  omega
/-- a field's name is passed over -/
def sk (c : Nat → Int64) (u : Nat) : Nat := if vk (c u) = 9 then u + 1 else u
/-- where the x-th part begins in the class, its name ahead of it -/
def wu (c : Nat → Int64) (i : Nat) : Nat → Nat
  | 0 => i
  | x + 1 => sk c (wu c i x) + (if vk (c (sk c (wu c i x))) = 2 then vsz (c (sk c (wu c i x))) else 1)
def wv (c : Nat → Int64) (i x : Nat) : Nat := sk c (wu c i x)
/-- .. in the reference -/
def hl (r : Nat → Int64) (q : Nat) : Nat := if r q = lN 4 then 1 else if r q = lN 2 then 2 + ((r (q + 1)).toInt.toNat + 7) / 8 else if r q = lN 6 then 2 + (r (q + 1)).toInt.toNat else 2
def wq (r : Nat → Int64) (p : Nat) : Nat → Nat
  | 0 => p
  | x + 1 => wq r p x + hl r (wq r p x)
/-- the x-th part of those below E -/
def PD (c r : Nat → Int64) (i p E x : Nat) : Prop := ∃ (f n m : Nat) (t : Int) (k : Nat), (f ≤ 120 ∧ VW c r f (wv c i x) (wq r p x) n m) ∧ vl_c t n k (c (wv c i x)) ∧ (r (wq r p x) = lN k ∧ ∃ z, x < z ∧ z ≤ E ∧ wq r p z = wq r p x + m ∧ wu c i z = wv c i x + n) ∧
  ((k ≠ 6 ∧ k ≠ 7 ∧ k ≠ 8) ∨
   (k = 7 ∧ (∃ X : Nat, X < 7934 ∧ t = X + 66 ∧ r (wq r p x + 1) = lN X) ∧ r (wq r p x + 2) ≠ lN 4 ∧ x + 1 < E ∧ wv c i (x + 1) = wv c i x + 1 ∧ wq r p (x + 1) = wq r p x + 2) ∨
   (∃ (v : Nat) (I P C : Nat → Nat), k = 8 ∧ t = v ∧ v ≤ 16 ∧ r (wq r p x + 1) = lN v ∧ 2 ≤ m ∧ I 0 = 0 ∧ P 0 = 0 ∧ I v = n - 1 ∧ P v = m - 2 ∧ ∀ j, j < v → (I j < I (j + 1) ∧ P j ≤ P (j + 1) ∧ I (j + 1) ≤ n - 1 ∧ P (j + 1) ≤ m - 2) ∧ r (wq r p x + 2 + P j) ≠ lN 4 ∧ VW c r (f - 1) (wv c i x + 1 + I j) (wq r p x + 2 + P j) (I (j + 1) - I j) (P (j + 1) - P j) ∧ x < C j ∧ C j < E ∧ wv c i (C j) = wv c i x + 1 + I j ∧ wq r p (C j) = wq r p x + 2 + P j) ∨
   (∃ (v : Nat) (I P X C : Nat → Nat), k = 6 ∧ t = v ∧ v ≤ 59 ∧ r (wq r p x + 1) = lN v ∧ 2 + v ≤ m ∧ I 0 = 0 ∧ P 0 = 0 ∧ I v = n - 1 ∧ P v = m - 2 - v ∧ ∀ j, j < v → (I j + 1 < I (j + 1) ∧ P j ≤ P (j + 1) ∧ I (j + 1) ≤ n - 1 ∧ P (j + 1) ≤ m - 2 - v) ∧ (X j < 7934 ∧ (j + 1 < v → X j < X (j + 1)) ∧ vl_c (X j + 66) 1 9 (c (wv c i x + 1 + I j)) ∧ r (wq r p x + 2 + j) = lN (X j)) ∧ r (wq r p x + 2 + v + P j) ≠ lN 4 ∧ VW c r (f - 1) (wv c i x + 1 + I j + 1) (wq r p x + 2 + v + P j) (I (j + 1) - I j - 1) (P (j + 1) - P j) ∧ x < C j ∧ C j < E ∧ wv c i (C j) = wv c i x + 1 + I j + 1 ∧ wq r p (C j) = wq r p x + 2 + v + P j))
section
variable {c r : Nat → Int64} {i p : Nat}
theorem PD.up {E E' x : Nat} (h : PD c r i p E x) (he : E ≤ E') : PD c r i p E' x := by
  obtain ⟨f, n, m, t, k, h1, h2, ⟨h3, z, z1, z2, z3⟩, h4⟩ := h
  refine ⟨f, n, m, t, k, h1, h2, ⟨h3, z, z1, by omega, z3⟩, ?_⟩
  rcases h4 with h4 | ⟨a, b, d, e, g⟩ | ⟨v, I, P, C, a1, a2, a3, a4, a5, a6, a7, a8, a9, h⟩ | ⟨v, I, P, X, C, a1, a2, a3, a4, a5, a6, a7, a8, a9, h⟩
  · exact Or.inl h4
  · exact Or.inr (Or.inl ⟨a, b, d, by omega, g⟩)
  · refine Or.inr (Or.inr (Or.inl ⟨v, I, P, C, a1, a2, a3, a4, a5, a6, a7, a8, a9, fun j hj => ?_⟩))
    obtain ⟨b1, b2, b3, b4, b5, b6⟩ := h j hj
    exact ⟨b1, b2, b3, b4, by omega, b6⟩
  · refine Or.inr (Or.inr (Or.inr ⟨v, I, P, X, C, a1, a2, a3, a4, a5, a6, a7, a8, a9, fun j hj => ?_⟩))
    obtain ⟨b1, b2, b3, b4, b5, b6, b7⟩ := h j hj
    exact ⟨b1, b2, b3, b4, b5, by omega, b7⟩
/-- the parts of one VALUE, from the x-th part on -/
def PG (c r : Nat → Int64) (i p x a q n m : Nat) : Prop := ∃ M, 0 < M ∧ wu c i (x + M) = a + n ∧ wq r p (x + M) = q + m ∧ ∀ y, x ≤ y → y < x + M → PD c r i p (x + M) y
/-- several one behind the other -/
theorem pg_row {v x b d : Nat} {I P : Nat → Nat} (h0 : wu c i x = b + I 0) (h1 : wq r p x = d + P 0) (h : ∀ j, j < v → I j < I (j + 1) ∧ P j ≤ P (j + 1) ∧ ∀ y, wu c i y = b + I j → wq r p y = d + P j → PG c r i p y (b + I j) (d + P j) (I (j + 1) - I j) (P (j + 1) - P j)) : ∀ u, u ≤ v → ∃ (C : Nat → Nat), C 0 = x ∧ (∀ j, j ≤ u → wu c i (C j) = b + I j ∧ wq r p (C j) = d + P j ∧ x ≤ C j ∧ C j ≤ C u ∧ (j < u → C j < C u)) ∧ ∀ y, x ≤ y → y < C u → PD c r i p (C u) y := by
  intro u
  induction u with
  | zero =>
    intro _
    refine ⟨fun _ => x, rfl, fun j hj => ?_, fun y h2 h3 => ?_⟩
    · obtain rfl : j = 0 := by omega
      exact ⟨h0, h1, Nat.le_refl _, Nat.le_refl _, fun y => by omega⟩
    · have h3 : y < x := h3
      omega
  | succ u ih =>
    intro hu
    obtain ⟨C, c0, c1, c2⟩ := ih (by omega)
    obtain ⟨d1, d2, d3, d4, _⟩ := c1 u (Nat.le_refl _)
    obtain ⟨g1, g2, g3⟩ := h u (by omega)
    obtain ⟨M, m1, m2, m3, m4⟩ := g3 (C u) d1 d2
    refine ⟨fun j => if j = u + 1 then C u + M else C j, by show (if 0 = u + 1 then C u + M else C 0) = x; rw [if_neg (by omega)]; exact c0, fun j hj => ?_, fun y h2 h3 => ?_⟩
    · show wu c i (if j = u + 1 then C u + M else C j) = _ ∧ wq r p (if j = u + 1 then C u + M else C j) = _ ∧ x ≤ (if j = u + 1 then C u + M else C j) ∧ (if j = u + 1 then C u + M else C j) ≤ (if u + 1 = u + 1 then C u + M else C (u + 1)) ∧ (j < u + 1 → (if j = u + 1 then C u + M else C j) < (if u + 1 = u + 1 then C u + M else C (u + 1)))
      rw [if_pos (show u + 1 = u + 1 from rfl)]
      by_cases cj : j = u + 1
      · rw [if_pos cj, cj]
        exact ⟨by omega, by omega, by omega, Nat.le_refl _, fun y => by omega⟩
      · rw [if_neg cj]
        obtain ⟨e1, e2, e3, e4, e5⟩ := c1 j (by omega)
        exact ⟨e1, e2, e3, by omega, fun _ => by omega⟩
    · have h3 : y < (if u + 1 = u + 1 then C u + M else C (u + 1)) := h3
      rw [if_pos (show u + 1 = u + 1 from rfl)] at h3
      show PD c r i p (if u + 1 = u + 1 then C u + M else C (u + 1)) y
      rw [if_pos (show u + 1 = u + 1 from rfl)]
      by_cases cy : y < C u
      · exact (c2 y h2 cy).up (by omega)
      · exact m4 y (by omega) h3
theorem lN_ne {a b : Nat} (ha : a < 2 ^ 62) (hb : b < 2 ^ 62) (h : a ≠ b) : lN a ≠ lN b := fun y => h (lN_inj (by omega) (by omega) y)
theorem pe_go : ∀ f a q n m x, VW c r f a q n m → f ≤ 120 → wv c i x = a → wq r p x = q → PG c r i p x a q n m := by
  intro f
  induction f with
  | zero => intro a q n m x h; exact h.elim
  | succ f ih =>
    intro a q n m x V hf hv hw
    have V0 := V
    obtain ⟨⟨n0, n120, m0⟩, t, k, hc, hr, h6⟩ := V
    obtain ⟨kc, sc⟩ := vk_of hc
    have u1 : wu c i (x + 1) = a + (if k = 2 then n else 1) := by
      show wv c i x + (if vk (c (wv c i x)) = 2 then vsz (c (wv c i x)) else 1) = _
      rw [hv, kc, sc]
    have q1 : wq r p (x + 1) = q + hl r q := by
      show wq r p x + hl r (wq r p x) = _
      rw [hw]
    have ne : ∀ b : Nat, k < 9 → b < 9 → k ≠ b → ¬ r q = lN b := fun b h1 h2 h3 => by rw [hr]; exact lN_ne (by omega) (by omega) h3
    have leaf : (k ≠ 6 ∧ k ≠ 7 ∧ k ≠ 8) → wu c i (x + 1) = a + n → wq r p (x + 1) = q + m → PG c r i p x a q n m := fun h1 h2 h3 => ⟨1, Nat.one_pos, h2, h3, fun y y1 y2 => by
      obtain rfl : y = x := by omega
      exact ⟨f + 1, n, m, t, k, ⟨hf, by rw [hv, hw]; exact V0⟩, by rw [hv]; exact hc, ⟨by rw [hw]; exact hr, y + 1, by omega, Nat.le_refl _, by rw [hw]; exact h3, by rw [hv]; exact h2⟩, Or.inl h1⟩⟩
    have hd : ∀ {b d n' m' f' : Nat}, VW c r f' b d n' m' → sk c b = b := fun {b d n' m' f'} V => by
      cases f' with
      | zero => exact V.elim
      | succ f' =>
        obtain ⟨_, t', k', hc', _, h'⟩ := V
        have : k' ≤ 8 := by
          rcases h' with ⟨y, _⟩ | ⟨y, _⟩ | ⟨y, _⟩ | ⟨v, y, _⟩ | ⟨y, _⟩ | ⟨v, I, P, y, _⟩ | ⟨v, I, P, X, y, _⟩ <;> omega
        unfold sk
        rw [(vk_of hc').1, if_neg (by omega)]
    rcases h6 with ⟨y, y2, y3, y4⟩ | ⟨y, y2, y3, _⟩ | ⟨y, y2, y3, _⟩ | ⟨v, y, y1, y2, y3, y4, y5, _⟩ | ⟨y, y2, y3, Z, z1, z2, z3, z4, z5⟩ | ⟨v, I, P, y, y2, y3, y4, y5, I0, P0, Iv, Pv, hj⟩ | ⟨v, I, P, X, y, y2, y3, y4, I0, P0, Iv, Pv, hj⟩
    · refine leaf (by omega) (by rw [u1, if_neg (by omega)]; omega) ?_
      rw [q1, hl, if_neg (ne 4 (by omega) (by decide) (by omega)), if_neg (ne 2 (by omega) (by decide) (by omega)), if_neg (ne 6 (by omega) (by decide) (by omega)), y3]
    · refine leaf (by omega) (by rw [u1, if_neg (by omega)]; omega) ?_
      rw [q1, hl, if_neg (ne 4 (by omega) (by decide) (by omega)), if_neg (ne 2 (by omega) (by decide) (by omega)), if_neg (ne 6 (by omega) (by decide) (by omega)), y3]
    · refine leaf (by omega) (by rw [u1, if_neg (by omega)]; omega) ?_
      rw [q1, hl, if_pos (by rw [hr, y]), y3]
    · refine leaf (by omega) (by rw [u1, if_pos y]) ?_
      rw [q1, hl, if_neg (ne 4 (by omega) (by decide) (by omega)), if_pos (by rw [hr, y]), y5, pk_lT (by omega), y4]
      rfl
    · -- a choice
      have v1 : wv c i (x + 1) = a + 1 := by
        unfold wv
        rw [u1, if_neg (by omega)]
        exact hd z5
      have w1 : wq r p (x + 1) = q + 2 := by rw [q1, hl, if_neg (ne 4 (by omega) (by decide) (by omega)), if_neg (ne 2 (by omega) (by decide) (by omega)), if_neg (ne 6 (by omega) (by decide) (by omega))]
      obtain ⟨M, m1, m2, m3, m4⟩ := ih (a + 1) (q + 2) (n - 1) (m - 2) (x + 1) z5 (by omega) v1 w1
      refine ⟨1 + M, by omega, by rw [show x + (1 + M) = x + 1 + M by omega, m2]; omega, by rw [show x + (1 + M) = x + 1 + M by omega, m3]; omega, fun z za zb => ?_⟩
      by_cases cz : z = x
      · subst cz
        refine ⟨f + 1, n, m, t, k, ⟨hf, by rw [hv, hw]; exact V0⟩, by rw [hv]; exact hc, ⟨by rw [hw]; exact hr, z + (1 + M), by omega, Nat.le_refl _, by rw [show z + (1 + M) = z + 1 + M by omega, m3, hw]; omega, by rw [show z + (1 + M) = z + 1 + M by omega, m2, hv]; omega⟩, Or.inr (Or.inl ⟨y, ⟨Z, z1, z2, by rw [hw]; exact z3⟩, by rw [hw]; exact z4, by omega, by rw [hv]; exact v1, by rw [hw]; exact w1⟩)⟩
      · rw [show x + (1 + M) = x + 1 + M by omega]
        exact m4 z (by omega) (by omega)
    · -- a list
      have w1 : wq r p (x + 1) = q + 2 := by rw [q1, hl, if_neg (ne 4 (by omega) (by decide) (by omega)), if_neg (ne 2 (by omega) (by decide) (by omega)), if_neg (ne 6 (by omega) (by decide) (by omega))]
      obtain ⟨C, c0, c1, c2⟩ := pg_row (c := c) (r := r) (i := i) (p := p) (v := v) (x := x + 1) (b := a + 1) (d := q + 2) (I := I) (P := P) (by rw [u1, if_neg (by omega), I0]) (by rw [w1, P0]) (fun j jv => ⟨(hj j jv).1.1, (hj j jv).1.2.1, fun y h1 h2 => ih _ _ _ _ y (hj j jv).2.2 (by omega) (by unfold wv; rw [h1]; exact hd (hj j jv).2.2) h2⟩) v (Nat.le_refl _)
      obtain ⟨e1, e2, e3, e4, _⟩ := c1 v (Nat.le_refl _)
      refine ⟨C v - x, by omega, by rw [show x + (C v - x) = C v by omega, e1]; omega, by rw [show x + (C v - x) = C v by omega, e2]; omega, fun z za zb => ?_⟩
      rw [show x + (C v - x) = C v by omega] at zb ⊢
      by_cases cz : z = x
      · subst cz
        refine ⟨f + 1, n, m, t, k, ⟨hf, by rw [hv, hw]; exact V0⟩, by rw [hv]; exact hc, ⟨by rw [hw]; exact hr, C v, by omega, Nat.le_refl _, by rw [e2, hw]; omega, by rw [e1, hv]; omega⟩, Or.inr (Or.inr (Or.inl ⟨v, I, P, C, y, y2, y3, by rw [hw]; exact y4, y5, I0, P0, Iv, Pv, fun j jv => ?_⟩))⟩
        obtain ⟨f1, f2, f3, f4, f5⟩ := c1 j (by omega)
        rw [hv, hw]
        exact ⟨(hj j jv).1, (hj j jv).2.1, (hj j jv).2.2, by omega, f5 jv, by unfold wv; rw [f1]; exact hd (hj j jv).2.2, f2⟩
      · exact c2 z (by omega) zb
    · -- a record
      have hv59 : v ≤ 59 := by
        have qq := vr_mono (I := I) (v := v) 2 (fun j jv => by have := (hj j jv).1; omega) v (by omega)
        omega
      have w1 : wq r p (x + 1) = q + 2 + v := by rw [q1, hl, if_neg (ne 4 (by omega) (by decide) (by omega)), if_neg (ne 2 (by omega) (by decide) (by omega)), if_pos (by rw [hr, y]), y3, pk_lT (by omega)]; omega
      have sn : ∀ j, j < v → sk c (a + 1 + I j) = a + 1 + I j + 1 := fun j jv => by
        unfold sk
        rw [(vk_of (hj j jv).2.1.2.2.1).1, if_pos rfl]
      obtain ⟨C, c0, c1, c2⟩ := pg_row (c := c) (r := r) (i := i) (p := p) (v := v) (x := x + 1) (b := a + 1) (d := q + 2 + v) (I := I) (P := P) (by rw [u1, if_neg (by omega), I0]) (by omega) (fun j jv => ⟨(by have := (hj j jv).1.1; omega), (hj j jv).1.2.1, fun y h1 h2 => by
        obtain ⟨M, g1, g2, g3, g4⟩ := ih _ _ _ _ y (hj j jv).2.2.2 (by omega) (by unfold wv; rw [h1]; exact sn j jv) h2
        have := (hj j jv).1.1; exact ⟨M, g1, by omega, g3, g4⟩⟩) v (Nat.le_refl _)
      obtain ⟨e1, e2, e3, e4, _⟩ := c1 v (Nat.le_refl _)
      refine ⟨C v - x, by omega, by rw [show x + (C v - x) = C v by omega, e1]; omega, by rw [show x + (C v - x) = C v by omega, e2]; omega, fun z za zb => ?_⟩
      rw [show x + (C v - x) = C v by omega] at zb ⊢
      by_cases cz : z = x
      · subst cz
        refine ⟨f + 1, n, m, t, k, ⟨hf, by rw [hv, hw]; exact V0⟩, by rw [hv]; exact hc, ⟨by rw [hw]; exact hr, C v, by omega, Nat.le_refl _, by rw [e2, hw]; omega, by rw [e1, hv]; omega⟩, Or.inr (Or.inr (Or.inr ⟨v, I, P, X, C, y, y2, hv59, by rw [hw]; exact y3, y4, I0, P0, Iv, Pv, fun j jv => ?_⟩))⟩
        obtain ⟨f1, f2, f3, f4, f5⟩ := c1 j (by omega)
        rw [hv, hw]
        exact ⟨(hj j jv).1, (hj j jv).2.1, (hj j jv).2.2.1, (hj j jv).2.2.2, by omega, f5 jv, by unfold wv; rw [f1]; exact sn j jv, f2⟩
      · exact c2 z (by omega) zb
end
