/-! Level 2: one VALUE on both sides: n cells from i in the class's row c, m longs from p in the reference's row r. wd: the class's word number and the reference's name number are one word. -/
/-- the parts of a VALUE, one behind another, v of them; g: cells of the class ahead of each (a field's name) -/
def vr_S (V : Nat → Nat → Nat → Nat → Prop) (g v i p n m : Nat) : Prop := ∃ I P : Nat → Nat, I 0 = 0 ∧ P 0 = 0 ∧ I v = n ∧ P v = m ∧ ∀ j, j < v → I j + g ≤ I (j + 1) ∧ P j ≤ P (j + 1) ∧ I (j + 1) ≤ n ∧ P (j + 1) ≤ m ∧ V (i + I j + g) (p + P j) (I (j + 1) - I j - g) (P (j + 1) - P j)
def VR (wd : Int → Int → Prop) (c r : Nat → Int64) : Nat → Nat → Nat → Nat → Nat → Prop
  | 0, _, _, _, _ => False
  | f + 1, i, p, n, m => ∃ (t : Int) (k : Nat), 0 < n ∧ n ≤ 120 ∧ vl_c t n k (c i) ∧ 0 < m ∧ (r p).toInt = k ∧
    (((k = 0 ∨ k = 1 ∨ k = 5) ∧ n = 1 ∧ m = 2 ∧ (r (p + 1)).toInt = t) ∨
     (k = 3 ∧ n = 1 ∧ m = 2 ∧ wd t (r (p + 1)).toInt) ∨
     (k = 4 ∧ n = 1 ∧ m = 1 ∧ t = 0) ∨
     (∃ v : Nat, k = 2 ∧ t = v ∧ v ≤ 40 ∧ n = 1 + (v + 7) / 8 ∧ m = 2 + (v + 7) / 8 ∧ (r (p + 1)).toInt = v ∧ ∃ B : Nat → Nat, (∀ j, j < v → 32 ≤ B j ∧ B j ≤ 126) ∧ (∀ q, q < (v + 7) / 8 → ∃ S : Nat → Nat, (∀ e, e < 8 → S e = if 8 * q + e < v then B (8 * q + e) else 0) ∧ (c (i + 1 + q)).toInt / 16 = S 0 + 128 * (S 1 + 128 * (S 2 + 128 * (S 3 + 128 * (S 4 + 128 * (S 5 + 128 * (S 6 + 128 * (S 7 : Int))))))) ∧ (c (i + 1 + q)).toInt % 16 = 10 ∧ (r (p + 2 + q)).toInt = S 0 + 256 * (S 1 + 256 * (S 2 + 256 * (S 3 + 256 * (S 4 + 256 * (S 5 + 256 * (S 6 + 256 * (S 7 : Int)))))))) ) ∨
     (k = 7 ∧ 1 < n ∧ 2 < m ∧ wd t (r (p + 1)).toInt ∧ VR wd c r f (i + 1) (p + 2) (n - 1) (m - 2)) ∨
     (∃ v : Nat, k = 8 ∧ t = v ∧ (r (p + 1)).toInt = v ∧ 2 ≤ m ∧ vr_S (fun a b x y => VR wd c r f a b x y) 0 v (i + 1) (p + 2) (n - 1) (m - 2)) ∨
     (∃ v : Nat, k = 6 ∧ t = v ∧ (r (p + 1)).toInt = v ∧ 2 + v ≤ m ∧ (∃ I : Nat → Nat, I 0 = 0 ∧ I v = n - 1 ∧ (∀ j, j < v → I j + 1 ≤ I (j + 1) ∧ I (j + 1) ≤ n - 1 ∧ ∃ w : Int, vl_c w 1 9 (c (i + 1 + I j)) ∧ wd w (r (p + 2 + j)).toInt) ∧ ∃ P : Nat → Nat, P 0 = 0 ∧ P v = m - 2 - v ∧ ∀ j, j < v → P j ≤ P (j + 1) ∧ P (j + 1) ≤ m - 2 - v ∧ VR wd c r f (i + 1 + I j + 1) (p + 2 + v + P j) (I (j + 1) - I j - 1) (P (j + 1) - P j))))
/-- a VALUE copied is the same VALUE -/
theorem VR.copy {wd : Int → Int → Prop} {c r c' r' : Nat → Int64} : ∀ (f i p n m i' p' : Nat), VR wd c r f i p n m → (∀ d, d < n → c' (i' + d) = c (i + d)) → (∀ d, d < m → r' (p' + d) = r (p + d)) → VR wd c' r' f i' p' n m := by
  intro f
  induction f with
  | zero => intro i p n m i' p' h; exact h.elim
  | succ f ih =>
    intro i p n m i' p' h hc hr
    obtain ⟨t, k, h1, h2, h3, h4, h5, h6⟩ := h
    have c0 : c' i' = c i := hc 0 h1
    have r0 : r' p' = r p := hr 0 h4
    have r1 : 2 ≤ m → r' (p' + 1) = r (p + 1) := fun x => hr 1 (by omega)
    refine ⟨t, k, h1, h2, by rw [c0]; exact h3, h4, by rw [r0]; exact h5, ?_⟩
    rcases h6 with ⟨a, b, d, e⟩ | ⟨a, b, d, e⟩ | h6 | ⟨v, a, b, d, e, g, l, B, x, y⟩ | ⟨a, b, d, e, g⟩ | ⟨v, a, b, d, e, I, P, x1, x2, x3, x4, x5⟩ | ⟨v, a, b, d, e, I, x1, x3, x5, P, x2, x4, x6⟩
    · exact Or.inl ⟨a, b, d, by rw [r1 (by omega)]; exact e⟩
    · exact Or.inr (Or.inl ⟨a, b, d, by rw [r1 (by omega)]; exact e⟩)
    · exact Or.inr (Or.inr (Or.inl h6))
    · refine Or.inr (Or.inr (Or.inr (Or.inl ⟨v, a, b, d, e, g, by rw [r1 (by omega)]; exact l, B, x, fun q hq => ?_⟩)))
      obtain ⟨S, s1, s2, s3, s4⟩ := y q hq
      have e1 : c' (i' + 1 + q) = c (i + 1 + q) := by
        have := hc (1 + q) (by omega)
        rw [← Nat.add_assoc, ← Nat.add_assoc] at this
        exact this
      have e2 : r' (p' + 2 + q) = r (p + 2 + q) := by
        have := hr (2 + q) (by omega)
        rw [← Nat.add_assoc, ← Nat.add_assoc] at this
        exact this
      exact ⟨S, s1, by rw [e1]; exact s2, by rw [e1]; exact s3, by rw [e2]; exact s4⟩
    · refine Or.inr (Or.inr (Or.inr (Or.inr (Or.inl ⟨a, b, d, by rw [r1 (by omega)]; exact e, ih _ _ _ _ _ _ g (fun x hx => ?_) (fun x hx => ?_)⟩))))
      · have := hc (1 + x) (by omega)
        rw [← Nat.add_assoc, ← Nat.add_assoc] at this
        exact this
      · have := hr (2 + x) (by omega)
        rw [← Nat.add_assoc, ← Nat.add_assoc] at this
        exact this
    · refine Or.inr (Or.inr (Or.inr (Or.inr (Or.inr (Or.inl ⟨v, a, b, by rw [r1 e]; exact d, e, I, P, x1, x2, x3, x4, fun j hj => ?_⟩)))))
      obtain ⟨y1, y2, y3, y4, y5⟩ := x5 j hj
      refine ⟨y1, y2, y3, y4, ih _ _ _ _ _ _ y5 (fun x hx => ?_) (fun x hx => ?_)⟩
      · have := hc (1 + I j + 0 + x) (by omega)
        rw [show i' + (1 + I j + 0 + x) = i' + 1 + I j + 0 + x by omega, show i + (1 + I j + 0 + x) = i + 1 + I j + 0 + x by omega] at this
        exact this
      · have := hr (2 + P j + x) (by omega)
        rw [show p' + (2 + P j + x) = p' + 2 + P j + x by omega, show p + (2 + P j + x) = p + 2 + P j + x by omega] at this
        exact this
    · refine Or.inr (Or.inr (Or.inr (Or.inr (Or.inr (Or.inr ⟨v, a, b, by rw [r1 (by omega)]; exact d, e, I, x1, x3, fun j hj => ?_, P, x2, x4, fun j hj => ?_⟩)))))
      · obtain ⟨y1, y2, w, y3, y4⟩ := x5 j hj
        have e1 := hc (1 + I j) (by omega)
        have e2 := hr (2 + j) (by omega)
        rw [← Nat.add_assoc, ← Nat.add_assoc] at e1 e2
        exact ⟨y1, y2, w, by rw [e1]; exact y3, by rw [e2]; exact y4⟩
      · obtain ⟨y1, y2, w, y3, y4⟩ := x5 j hj
        obtain ⟨z1, z2, z3⟩ := x6 j hj
        refine ⟨z1, z2, ih _ _ _ _ _ _ z3 (fun x hx => ?_) (fun x hx => ?_)⟩
        · have := hc (1 + I j + 1 + x) (by omega)
          rw [show i' + (1 + I j + 1 + x) = i' + 1 + I j + 1 + x by omega, show i + (1 + I j + 1 + x) = i + 1 + I j + 1 + x by omega] at this
          exact this
        · have := hr (2 + v + P j + x) (by omega)
          rw [show p' + (2 + v + P j + x) = p' + 2 + v + P j + x by omega, show p + (2 + v + P j + x) = p + 2 + v + P j + x by omega] at this
          exact this
