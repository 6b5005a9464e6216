/-! Level 2: a type behind names; numbers in ranges. -/
section
variable {T a m n k v : Nat} {R : Nat → Nat → Prop} {s : t_S} {F G X O : Nat → Nat}
/-- what a node of each side is -/
theorem mt_at (h : MT T a m R s) (q : R n k) (n8 : s.1 317 n ≠ 8) : n < 3000 ∧ k < 13000 ∧ ∃ K : Nat, 1 ≤ K ∧ K ≤ 7 ∧ s.1 317 n = nI K ∧ s.1 955 k = nI K ∧ MTn T a m R s n k K := by
  obtain ⟨x1, x2, K, x3, x4, x5⟩ := h.2.1 n k q
  have a3 := h.1.1
  have m3 := h.1.2.1
  refine ⟨by omega, by omega, K, ?_, ?_, x3, x4, x5⟩
  · rcases x5 with ⟨rfl, _⟩ | rfl | ⟨rfl, _⟩ | ⟨rfl, _⟩ | ⟨rfl | rfl, _⟩ | ⟨rfl, _⟩ | ⟨rfl, _⟩ <;> decide
  · rcases x5 with ⟨rfl, _⟩ | rfl | ⟨rfl, _⟩ | ⟨rfl, _⟩ | ⟨rfl | rfl, _⟩ | ⟨rfl, _⟩ | ⟨rfl, _⟩
    · decide
    · decide
    · decide
    · decide
    · decide
    · decide
    · decide
    · exact absurd x3 n8
/-- behind names both sides come to nodes that are one -/
theorem mt_meant (h : MT T a m R s) (q : R n k) : ∃ n' k', R n' k' ∧ s.1 317 n' ≠ 8 ∧ f_X11_resolve (nI n) s = some (nI n') ∧ f_X13_meant (nI k) s = some (nI k') ∧ (s.1 317 n ≠ 8 → n' = n ∧ k' = k) ∧ (s.1 317 n = 8 → ∃ w t, w < T ∧ t < T ∧ s.1 321 n = nI w ∧ f_X11_lastNamed (nI w) s = some (nI t) ∧ s.1 326 t = nI n') := by
  obtain ⟨x1, x2, K, x3, x4, x5⟩ := h.2.1 n k q
  have a3 := h.1.1
  have m3 := h.1.2.1
  have T6 := h.1.2.2.1
  obtain ⟨ρ, r1, r2⟩ := h.2.2.2
  by_cases z : s.1 317 n = 8
  · have z' : s.1 955 k = 8 := x4.trans (x3.symm.trans z)
    have K8 : K ≤ 8 := by
      rcases x5 with ⟨rfl, _⟩ | rfl | ⟨rfl, _⟩ | ⟨rfl, _⟩ | ⟨rfl | rfl, _⟩ | ⟨rfl, _⟩ | ⟨rfl, _⟩ <;> decide
    have eK : K = 8 := (nI_eq (b := 8) (by omega) (by decide)).mp (x3.symm.trans z)
    subst eK
    obtain ⟨w, X, w1, w2, w3, w4, w5⟩ : ∃ v X : Nat, v < T ∧ s.1 321 n = nI v ∧ X < 7934 ∧ s.2.1 957 k = lN X ∧ f_X13_find 964 0 (nI T) (nI X) s = some (nI v) := by
      rcases x5 with ⟨y, _⟩ | y | ⟨y, _⟩ | ⟨y, _⟩ | ⟨y | y, _⟩ | ⟨y, _⟩ | ⟨_, y⟩
      · omega
      · omega
      · omega
      · omega
      · omega
      · omega
      · omega
      · exact y
    have rw1 := r1 w w1
    obtain ⟨t, n', k', u1, u2, y1, y2, y3, y4, ⟨y5, y6, y7⟩, y8, y9⟩ := mt_named h r2 60 w 0 rw1 (by omega) w1
    obtain ⟨nu, nu', f1, f2, fq⟩ := h.2.2.1 w w1
    obtain ⟨fn, fk, _⟩ := h.2.1 nu nu' fq
    obtain ⟨fn', fk', _⟩ := h.2.1 n' k' y3
    obtain ⟨y10, y11⟩ := y9 nu' f2 (by omega)
    have ln : f_X11_lastNamed (nI w) s = some (nI t) := by
      unfold f_X11_lastNamed
      exact l2_tnR y6 (by omega) y7
    refine ⟨n', k', y3, y4, ?_, ?_, fun y => absurd z y, fun _ => ⟨w, t, w1, y1, w2, ln, y2⟩⟩
    · unfold f_X11_resolve
      rw [if_pos (l2_ix (by omega) (by decide)), nI_clamp (n := n) (by omega), if_pos z, w2, ln, l2_bs, if_pos (l2_ix (by omega) (by decide)), nI_clamp (n := t) (by omega), y2]
    · unfold f_X13_meant
      refine l2_tnR ((l2_tn.one ?_).trans y10) (by omega) y11
      show k_X13_meant_2 (nI k) s = _
      unfold k_X13_meant_2
      rw [if_pos (l2_ix (by omega) (by decide)), nI_clamp (n := k) (by omega), if_pos z', w4, lN_i, h.1.2.2.2.2, w5, l2_bs, if_pos (l2_ix (by omega) (by decide)), nI_clamp (n := w) (by omega), f2]
  · have z' : s.1 955 k ≠ 8 := fun y => z (x3.trans (x4.symm.trans y))
    refine ⟨n, k, q, z, ?_, ?_, fun _ => ⟨rfl, rfl⟩, fun y => absurd y z⟩
    · unfold f_X11_resolve
      rw [if_pos (l2_ix (by omega) (by decide)), nI_clamp (n := n) (by omega), if_neg z]
    · unfold f_X13_meant
      refine l2_tnR (u := 0) l2_tn.nil (by omega) ?_
      show k_X13_meant_2 (nI k) s = _
      unfold k_X13_meant_2
      rw [if_pos (l2_ix (by omega) (by decide)), nI_clamp (n := k) (by omega), if_neg z']; rfl
theorem fin_r {x lo hi : Int64} : f_X13_in x lo hi s = if lo.toInt ≤ x.toInt ∧ x.toInt ≤ hi.toInt then 1 else 0 := by
  unfold f_X13_in
  by_cases c1 : x.toInt < lo.toInt
  · rw [if_pos (t_cmp_lt.mpr c1), if_neg (by omega)]
  · rw [if_neg (fun y => c1 (t_cmp_lt.mp y))]
    by_cases c2 : hi.toInt < x.toInt
    · rw [if_pos (t_cmp_gt.mpr c2), if_neg (by omega)]
    · rw [if_neg (fun y => c2 (t_cmp_gt.mp y)), if_pos (by omega)]
/-- the first of v ranges, from F on, that has x -/
def gg (A B : Nat → Int) (x : Int) : Nat → Nat → Nat
  | 0, i => i
  | d + 1, i => if A i ≤ x ∧ x ≤ B i then i else gg A B x d (i + 1)
theorem gg_at {A B : Nat → Int} {x : Int} : ∀ d i, i ≤ gg A B x d i ∧ gg A B x d i ≤ i + d ∧ (∀ l, i ≤ l → l < gg A B x d i → ¬ (A l ≤ x ∧ x ≤ B l)) ∧ (gg A B x d i < i + d → A (gg A B x d i) ≤ x ∧ x ≤ B (gg A B x d i)) := by
  intro d
  induction d with
  | zero => intro i; exact ⟨Nat.le_refl _, Nat.le_refl _, fun l h1 h2 => absurd h2 (by show ¬ l < i; omega), fun q => absurd q (by show ¬ i < i + 0; omega)⟩
  | succ d ih =>
    intro i
    unfold gg
    by_cases z : A i ≤ x ∧ x ≤ B i
    · rw [if_pos z]
      exact ⟨Nat.le_refl _, by omega, fun l h1 h2 => by omega, fun _ => z⟩
    · rw [if_neg z]
      obtain ⟨q1, q2, q3, q4⟩ := ih (i + 1)
      refine ⟨by omega, by omega, fun l h1 h2 => ?_, fun q => q4 (by omega)⟩
      by_cases e : l = i
      · rw [e]; exact z
      · exact q3 l (by omega) h2
/-- numbers in ranges, on both sides -/
theorem mt_range (hn : n < 3000) (hk : k < 13000) (h : ty_I s s n k a m) {x : Int64} (hx : -(10 ^ 15) ≤ x.toInt ∧ x.toInt ≤ 10 ^ 15) : ∃ w : Int32, (w = 0 ∨ w = 1) ∧ f_X11_inRanges (nI n) x s = some w ∧ f_X13_inRanges (nI k) x s = some w := by
  obtain ⟨v, F, G, v6, h21, hc, hr, hF, mm⟩ := h
  have ixn : t_ix (nI n) 3001 = true := l2_ix (by omega) (by decide)
  have ixk : t_ix (nI k) 13000 = true := l2_ix hk (by decide)
  unfold f_X11_inRanges f_X13_inRanges
  rw [if_pos ixn, if_pos ixk, nI_clamp (n := n) (by omega), nI_clamp (n := k) (by omega), h21, hr.1, hc.1]
  by_cases v0 : v = 0
  · subst v0
    obtain ⟨m1, m2⟩ := mm.1 rfl
    refine ⟨1, Or.inr rfl, ?_, ?_⟩
    · rw [if_pos (show nI 0 = 0 from rfl), if_neg (fun y => by have := t_cmp_lt.mp y; omega), if_neg (fun y => by have := t_cmp_gt.mp y; omega)]
    · rw [if_neg (show ¬ 0 < 0 by decide), if_neg (show ¬ (0 : Int32) ≤ -1 by decide)]
      unfold k_X13_inRanges_14
      rw [if_pos ixk, nI_clamp (n := k) (by omega), hr.1, if_neg (show ¬ 0 < 0 by decide)]
      refine l2_tnR (u := 0) l2_tn.nil (by omega) ?_
      show k_X13_inRanges_24 x 1 (-1) s = _
      unfold k_X13_inRanges_24
      rw [if_pos (by decide), if_pos (Or.inr rfl)]; rfl
  · have vp : 0 < v := by omega
    obtain ⟨A, hA⟩ : ∃ A : Nat → Int, ∀ j, A j = (s.2.1 957 (G j)).toInt := ⟨_, fun _ => rfl⟩
    obtain ⟨B, hB⟩ : ∃ B : Nat → Int, ∀ j, B j = (s.2.1 958 (G j)).toInt := ⟨_, fun _ => rfl⟩
    obtain ⟨q1, q2, q3, q4⟩ := gg_at (A := A) (B := B) (x := x.toInt) v 0
    refine ⟨if gg A B x.toInt v 0 < v then 1 else 0, by split; exact Or.inr rfl; exact Or.inl rfl, ?_, ?_⟩
    · rw [if_neg (nI_ne0 vp (by omega)), if_pos vp]
      have := l2_srch (b := b_X11_inRanges_48 s) (Y := fun i => (nI n, x, (if i < v then nI (F i) else -1), nI i)) (j := gg A B x.toInt v 0) (r := if gg A B x.toInt v 0 < v then 1 else 0) (by omega) (fun i hi => ?_) ?_
      · rw [if_pos vp] at this
        exact this
      · have iv : i < v := by omega
        obtain ⟨f1, f2, f3, f4⟩ := hc.2 i iv
        obtain ⟨g1, g2, g3, g4, g5, g6, _⟩ := hF i iv
        show k_X11_inRanges_48 (nI n) x (if i < v then nI (F i) else -1) (nI i) s = _
        unfold k_X11_inRanges_48 k_X11_inRanges_90
        have ixF : t_ix (nI (F i)) 3001 = true := l2_ix f1 (by decide)
        have no := q3 i (Nat.zero_le _) hi
        rw [hA, hB] at no
        rw [if_pos ixn, nI_clamp (n := n) (by omega), h21, if_neg (nI_ge iv (by omega)), if_pos iv, if_neg (nI_pos (by omega)), if_pos ixF, nI_clamp (n := F i) (by omega), if_pos ixF, g5, g6, f3, nI_1]
        by_cases c1 : x.toInt < (s.2.1 957 (G i)).toInt
        · rw [if_pos (t_cmp_lt.mpr c1)]
        · rw [if_neg (fun y => c1 (t_cmp_lt.mp y)), if_pos (t_cmp_gt.mpr (by omega))]
      · show k_X11_inRanges_48 (nI n) x (if gg A B x.toInt v 0 < v then nI (F (gg A B x.toInt v 0)) else -1) (nI (gg A B x.toInt v 0)) s = _
        generalize gg A B x.toInt v 0 = i at *
        unfold k_X11_inRanges_48
        rw [if_pos ixn, nI_clamp (n := n) (by omega), h21]
        by_cases iv : i < v
        · obtain ⟨f1, f2, f3, f4⟩ := hc.2 i iv
          obtain ⟨g1, g2, g3, g4, g5, g6, _⟩ := hF i iv
          have yes := q4 (by omega)
          rw [hA, hB] at yes
          have ixF : t_ix (nI (F i)) 3001 = true := l2_ix f1 (by decide)
          rw [if_neg (nI_ge iv (by omega)), if_pos iv, if_neg (nI_pos (by omega)), if_pos ixF, nI_clamp (n := F i) (by omega), g5, g6, if_neg (fun y => by have := t_cmp_lt.mp y; omega), if_neg (fun y => by have := t_cmp_gt.mp y; omega), if_pos iv]
          rfl
        · rw [if_pos (nI_le (by omega) (by omega)), if_neg iv]
          rfl
    · obtain ⟨k0, k1, k2, k3⟩ := hr.2 0 vp
      rw [if_pos vp, if_pos (show (0 : Int32) ≤ nI (G 0) from nI_pos' (by omega))]
      unfold k_X13_inRanges_14
      rw [if_pos ixk, nI_clamp (n := k) (by omega), hr.1]
      have := l2_srch (b := b_X13_inRanges_24 s) (Y := fun i => (x, (if gg A B x.toInt v 0 < i then 1 else 0 : Int32), (if i < v then nI (G i) else -1))) (j := v) (r := (if gg A B x.toInt v 0 < v then 1 else 0)) (by omega) (fun i iv => ?_) ?_
      · exact this
      · obtain ⟨f1, f2, f3, f4⟩ := hr.2 i iv
        have ix : t_ix (nI (G i)) 13000 = true := l2_ix f1 (by decide)
        show k_X13_inRanges_24 x (if gg A B x.toInt v 0 < i then 1 else 0) (if i < v then nI (G i) else -1) s = _
        unfold k_X13_inRanges_24 k_X13_inRanges_55 k_X13_inRanges_60
        rw [if_pos iv, if_neg (nI_pos (by omega)), if_pos ix, if_pos ix, nI_clamp (n := G i) (by omega), f3, fin_r, ← hA, ← hB]
        by_cases z : gg A B x.toInt v 0 < i
        · rw [if_pos z, if_neg (show ¬ (1 : Int32) = 0 by decide), if_pos (show gg A B x.toInt v 0 < i + 1 by omega), if_pos ix]
        · rw [if_neg z, if_pos (show (0 : Int32) = 0 from rfl)]
          by_cases e : A i ≤ x.toInt ∧ x.toInt ≤ B i
          · rw [if_pos e, if_neg (show ¬ (1 : Int32) = 0 by decide), if_pos (show gg A B x.toInt v 0 < i + 1 from Nat.lt_of_not_le (fun q => q3 i (Nat.zero_le _) (by omega) e)), if_pos ix]
          · have ne : ¬ gg A B x.toInt v 0 < i + 1 := fun q => e (by
              have w : gg A B x.toInt v 0 = i := by omega
              have q5 := q4 (by omega)
              rw [w] at q5
              exact q5)
            rw [if_neg e, if_pos (show (0 : Int32) = 0 from rfl), if_neg ne]
      · show k_X13_inRanges_24 x (if gg A B x.toInt v 0 < v then 1 else 0) (if v < v then nI (G v) else -1) s = _
        unfold k_X13_inRanges_24
        rw [if_neg (show ¬ v < v by omega), if_pos (by decide)]
        by_cases z : gg A B x.toInt v 0 < v
        · rw [if_pos z, if_pos (Or.inr rfl)]; rfl
        · rw [if_neg z, if_pos (Or.inl rfl)]; rfl
end
