/-! Level 2: exps worked out: - ! size, ended. -/
theorem neg_toInt {x : Int64} (h1 : -(2 ^ 60) ≤ x.toInt) (h2 : x.toInt ≤ 2 ^ 60) : (-x).toInt = -x.toInt := by
  rw [Int64.toInt_neg]
  have d := Int.bmod_def (-x.toInt) (2 ^ 64)
  simp only [Nat.reducePow] at d ⊢
  omega
section
variable {κ : KPP} {c0 r0 : t_S} {Kc : t_S → t_S → Prop} {Kr : Nat → Nat → t_S → t_S → Prop} {c r c' r' : t_S} {D a H S rr e0 e1 i g n m0 m1 cnt o K : Nat} {x : Int32}
/-- one VALUE in the top one's place -/
theorem lf_fin2 (hK : EK Kc Kr) {c1 : t_S} {n1 k1 : Nat} {Wc Wr : Nat → Nat → Prop} (h103 : r.1 950 103 = nI S) (f1 : l2_fr (fun b j => b = 334 ∧ j = 13) c c1) (h12 : c1.1 334 12 = 0) (f2 : l2_fr Wc c1 c') (w2 : ∀ b j, Wc b j → (b = 334 ∧ j = 7) ∨ (b = 338 ∧ a ≤ j) ∨ (b = 339 ∧ D < j) ∨ b = 340 ∨ b = 341) (f3 : l2_fr Wr r r') (w3 : ∀ b j, Wr b j → (b = 950 ∧ (j = 97 ∨ j = 98)) ∨ (b = 1006 ∧ 260 * (40 + H) ≤ j ∧ j < 218400) ∨ b = 1007 ∨ b = 1009) (V : VW (c'.2.1 338) (r'.2.1 1006) 120 a (260 * (40 + H)) n1 k1) (e7 : c'.1 334 7 = nI (D + 1)) (e39 : c'.1 339 (D + 1) = nI (a + n1)) (e98 : r'.1 950 98 = nI (H + 1)) (e97 : r'.1 950 97 = 0) (h97 : r.1 950 97 = 0) (hxy : e0 ≤ e1 := by omega) : Ef c0 Kc (Kr e0 e1) D a H S c r c' r' ∧ Eg D a H S c' r' := by
  have F : l2_fr (fun b j => (b = 334 ∧ (j = 7 ∨ j = 13)) ∨ (b = 338 ∧ a ≤ j) ∨ (b = 339 ∧ D < j) ∨ b = 340 ∨ b = 341) c c' := (f1.mono (fun b j y => by omega)).trans (f2.mono (fun b j y => by have := w2 b j y; omega))
  refine ⟨Ef.of (h97 := fun _ => h97) hK F (f3.mono w3) (fun b j y => ⟨?_, ?_⟩) (fun b j y => ⟨?_, ?_⟩), ⟨n1, k1, V, e39⟩, ⟨e7, ?_⟩, e98, e97, ?_⟩
  · unfold eWc
    rcases y with y | y | y | y | y
    · exact Or.inl (by omega)
    · exact Or.inr (Or.inl y)
    · exact Or.inr (Or.inr (Or.inl y))
    · exact Or.inr (Or.inr (Or.inr (Or.inl y)))
    · exact Or.inr (Or.inr (Or.inr (Or.inr (Or.inl y))))
  · unfold eBc; omega
  · unfold eWr; omega
  · unfold eBr; omega
  · rw [(f2 334 12 (fun y => by have := w2 _ _ y; omega)).1]; exact h12
  · rw [(f3 950 103 (fun y => by have := w3 _ _ y; omega)).1]; exact h103
/-- an ERROR on both sides -/
theorem er_fin (hK : EK Kc Kr) {c1 : t_S} {er st : Nat} {Wc Wr : Nat → Nat → Prop} (h103 : r.1 950 103 = nI S) (f1 : l2_fr (fun b j => b = 334 ∧ j = 13) c c1) (h13 : c1.1 334 13 = nI st) (f2 : l2_fr Wc c1 c') (w2 : ∀ b j, Wc b j → (b = 334 ∧ (j = 7 ∨ j = 12)) ∨ (b = 338 ∧ a ≤ j) ∨ (b = 339 ∧ D < j) ∨ b = 340 ∨ b = 341) (f3 : l2_fr Wr r r') (w3 : ∀ b j, Wr b j → (b = 950 ∧ (j = 97 ∨ j = 98)) ∨ (b = 1006 ∧ 260 * (40 + H) ≤ j ∧ j < 218400) ∨ b = 1007 ∨ b = 1009) (h1 : 1 ≤ er ∧ er ≤ 7) (e12 : c'.1 334 12 = nI er) (e97 : r'.1 950 97 = nI er) (hs : e0 ≤ st ∧ st < e1) : Ef c0 Kc (Kr e0 e1) D a H S c r c' r' ∧ Eb e0 e1 S c' r' := by
  have F : l2_fr (fun b j => (b = 334 ∧ (j = 7 ∨ j = 12 ∨ j = 13)) ∨ (b = 338 ∧ a ≤ j) ∨ (b = 339 ∧ D < j) ∨ b = 340 ∨ b = 341) c c' := (f1.mono (fun b j y => by omega)).trans (f2.mono (fun b j y => by have := w2 b j y; omega))
  refine ⟨Ef.of (h97 := fun z => by rw [e97] at z; exact absurd ((nI_eq (b := 0) (by omega) (by decide)).mp z) (by omega)) hK F (f3.mono w3) (fun b j y => ⟨?_, ?_⟩) (fun b j y => ⟨?_, ?_⟩), er, st, h1, e12, e97, ?_, hs.1, hs.2, ?_⟩
  · unfold eWc
    rcases y with y | y | y | y | y
    · exact Or.inl (by omega)
    · exact Or.inr (Or.inl y)
    · exact Or.inr (Or.inr (Or.inl y))
    · exact Or.inr (Or.inr (Or.inr (Or.inl y)))
    · exact Or.inr (Or.inr (Or.inr (Or.inr (Or.inl y))))
  · unfold eBc; omega
  · unfold eWr; omega
  · unfold eBr; omega
  · rw [(f2 334 13 (fun y => by have := w2 _ _ y; omega)).1]; exact h13
  · rw [(f3 950 103 (fun y => by have := w3 _ _ y; omega)).1]; exact h103
/-- the head of a VALUE, both sides -/
theorem VW.hd {c r : Nat → Int64} {f a p n m : Nat} (V : VW c r f a p n m) : ∃ (t : Int) (k : Nat), vl_c t n k (c a) ∧ k ≤ 8 ∧ r p = lN k ∧ (k ≠ 4 → 2 ≤ m) ∧ ((k = 0 ∧ -(10 ^ 15) ≤ t ∧ t ≤ 10 ^ 15) ∨ (k = 1 ∧ (t = 0 ∨ t = 1)) ∨ (k = 5 ∧ 0 ≤ t ∧ t < 8) → (r (p + 1)).toInt = t) ∧ (k = 0 → -(10 ^ 15) ≤ t ∧ t ≤ 10 ^ 15) ∧ (k = 1 → t = 0 ∨ t = 1) ∧ (k = 5 → 0 ≤ t ∧ t < 8) ∧ (k = 2 ∨ k = 8 ∨ k = 6 → ∃ v : Nat, v ≤ 120 ∧ t = v ∧ r (p + 1) = lN v) ∧ (k = 7 → ∃ X : Nat, X < 7934 ∧ t = X + 66 ∧ r (p + 1) = lN X) := by
  cases f with
  | zero => exact V.elim
  | succ f =>
  obtain ⟨⟨h1, h2, h4⟩, t, k, h3, h5, h6⟩ := V
  rcases h6 with ⟨a, b, d, e⟩ | ⟨a, b, d, X, x1, x2, x3⟩ | ⟨a, b, d, e⟩ | ⟨v, a, b, d, e, g, l, B, x, y⟩ | ⟨a, b, d, X, x1, x2, x3, x4, x5⟩ | ⟨v, I, P, a, b, d, e, g, x1, x2, x3, x4, x5⟩ | ⟨v, I, P, X, a, b, d, e, x1, x2, x3, x4, x5⟩
  · exact ⟨t, k, h3, by omega, h5, fun _ => by omega, fun _ => e, fun _ => by omega, fun _ => by omega, fun _ => by omega, fun y => by omega, fun y => by omega⟩
  · exact ⟨t, k, h3, by omega, h5, fun _ => by omega, fun y => by omega, fun y => by omega, fun y => by omega, fun y => by omega, fun y => by omega, fun y => by omega⟩
  · exact ⟨t, k, h3, by omega, h5, fun y => by omega, fun y => by omega, fun y => by omega, fun y => by omega, fun y => by omega, fun y => by omega, fun y => by omega⟩
  · exact ⟨t, k, h3, by omega, h5, fun y => by omega, fun y => by omega, fun y => by omega, fun y => by omega, fun y => by omega, fun _ => ⟨v, by omega, b, l⟩, fun y => by omega⟩
  · exact ⟨t, k, h3, by omega, h5, fun y => by omega, fun y => by omega, fun y => by omega, fun y => by omega, fun y => by omega, fun y => by omega, fun _ => ⟨X, x1, x2, x3⟩⟩
  · exact ⟨t, k, h3, by omega, h5, fun y => by omega, fun y => by omega, fun y => by omega, fun y => by omega, fun y => by omega, fun _ => ⟨v, by omega, b, e⟩, fun y => by omega⟩
  · have hv : v ≤ n - 1 := by
      have q := vr_mono (I := I) (v := v) 1 (fun j hj => by have := (x5 j hj).1; omega) v (by omega)
      omega
    exact ⟨t, k, h3, by omega, h5, fun y => by omega, fun y => by omega, fun y => by omega, fun y => by omega, fun y => by omega, fun _ => ⟨v, by omega, b, d⟩, fun y => by omega⟩
/-- the class is about to do an operation on its top VALUE -/
theorem un_c {c1 : t_S} {o : Nat} (h7 : c1.1 334 7 = nI (D + 1)) (hA : c1.1 339 D = nI a) (hD : D < 3200) (ha : a + 1 ≤ 48000) (F : Option t_S) (X : Int64 → Option t_S) (hF : f_X0_unary (nI o) x c1 = (if (1 : Int32) ≤ (c1.1 334 7) then (if t_ix ((c1.1 334 7) - (1 : Int32)) 3201 = true then if t_ix (c1.1 339 (((c1.1 334 7) - (1 : Int32)).toNatClampNeg)) 48000 = true then X (c1.2.1 338 ((c1.1 339 (((c1.1 334 7) - (1 : Int32)).toNatClampNeg)).toNatClampNeg)) else none else none) else F)) : f_X0_unary (nI o) x c1 = X (c1.2.1 338 a) := by
  rw [hF, h7, sy_m1n (by omega), show D + 1 - 1 = D by omega, if_pos (show (1 : Int32) ≤ nI (D + 1) from nI_le (a := 1) (by omega) (by omega)), if_pos (l2_ix (by omega) (by decide)), nI_clamp (n := D) (by omega), hA, if_pos (l2_ix (by omega) (by decide)), nI_clamp (n := a) (by omega)]
/-- the reference is about to do one -/
theorem un_r {r1 : t_S} (h98 : r1.1 950 98 = nI (H + 1)) : f_X13_top r1 = nI (260 * (40 + H)) := by
  unfold f_X13_top
  rw [h98, show (40 : Int32) = nI 40 from rfl, nI_add, sy_m1n (by omega), show (260 : Int32) = nI 260 from rfl, pk_mul, show 40 + (H + 1) - 1 = 40 + H by omega]
theorem bfo_one {r1 : t_S} (hn : n < 13000) (hk : r1.1 955 n = nI K) (h : 64 ≤ K ∧ K ≤ 68) : (R_X13_behindFirst (g + 1)).1 (nI n) r1 = f_X13_one (nI n) (nI K) r1 := by
  show m_X13_behindFirst (R_X13_behindFirst g) (nI n) r1 = _
  have ne : ∀ y : Nat, y < 100 → (nI K = nI y ↔ K = y) := fun y hy => nI_eq (by omega) (by omega)
  unfold m_X13_behindFirst
  rw [if_pos (l2_ix hn (by decide)), nI_clamp (n := n) (by omega), hk, if_neg (show ¬ nI K = (70 : Int32) from fun y => by have := (ne 70 (by decide)).mp y; omega), if_neg (show ¬ nI K = (69 : Int32) from fun y => by have := (ne 69 (by decide)).mp y; omega), if_neg (show ¬ nI K = (72 : Int32) from fun y => by have := (ne 72 (by decide)).mp y; omega)]
  cases f_X13_one (nI n) (nI K) r1 <;> rfl
end
