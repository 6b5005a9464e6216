/-! Level 2: two VALUES: their cells in the class's row are the same just when their longs in the reference's row are. -/
theorem vr_g7 {a b : Nat} {x y : Int} (h : (a : Int) + 128 * x = b + 128 * y) (ha : a < 128) (hb : b < 128) : a = b ∧ x = y := by constructor <;> omega
theorem vr_g8 {a b : Nat} {x y : Int} (h : (a : Int) + 256 * x = b + 256 * y) (ha : a < 128) (hb : b < 128) : a = b ∧ x = y := by constructor <;> omega
theorem vr_7 {S T : Nat → Nat} (hS : ∀ e, e < 8 → S e < 128) (hT : ∀ e, e < 8 → T e < 128) (h : (S 0 + 128 * (S 1 + 128 * (S 2 + 128 * (S 3 + 128 * (S 4 + 128 * (S 5 + 128 * (S 6 + 128 * (S 7 : Int))))))) : Int) = T 0 + 128 * (T 1 + 128 * (T 2 + 128 * (T 3 + 128 * (T 4 + 128 * (T 5 + 128 * (T 6 + 128 * (T 7 : Int)))))))) : ∀ e, e < 8 → S e = T e := by
  obtain ⟨e0, h⟩ := vr_g7 h (hS 0 (by decide)) (hT 0 (by decide))
  obtain ⟨e1, h⟩ := vr_g7 h (hS 1 (by decide)) (hT 1 (by decide))
  obtain ⟨e2, h⟩ := vr_g7 h (hS 2 (by decide)) (hT 2 (by decide))
  obtain ⟨e3, h⟩ := vr_g7 h (hS 3 (by decide)) (hT 3 (by decide))
  obtain ⟨e4, h⟩ := vr_g7 h (hS 4 (by decide)) (hT 4 (by decide))
  obtain ⟨e5, h⟩ := vr_g7 h (hS 5 (by decide)) (hT 5 (by decide))
  obtain ⟨e6, h⟩ := vr_g7 h (hS 6 (by decide)) (hT 6 (by decide))
  have e7 : S 7 = T 7 := by omega
  intro e he
  have c : e = 0 ∨ e = 1 ∨ e = 2 ∨ e = 3 ∨ e = 4 ∨ e = 5 ∨ e = 6 ∨ e = 7 := by omega
  rcases c with rfl | rfl | rfl | rfl | rfl | rfl | rfl | rfl <;> assumption
theorem vr_8 {S T : Nat → Nat} (hS : ∀ e, e < 8 → S e < 128) (hT : ∀ e, e < 8 → T e < 128) (h : (S 0 + 256 * (S 1 + 256 * (S 2 + 256 * (S 3 + 256 * (S 4 + 256 * (S 5 + 256 * (S 6 + 256 * (S 7 : Int))))))) : Int) = T 0 + 256 * (T 1 + 256 * (T 2 + 256 * (T 3 + 256 * (T 4 + 256 * (T 5 + 256 * (T 6 + 256 * (T 7 : Int)))))))) : ∀ e, e < 8 → S e = T e := by
  obtain ⟨e0, h⟩ := vr_g8 h (hS 0 (by decide)) (hT 0 (by decide))
  obtain ⟨e1, h⟩ := vr_g8 h (hS 1 (by decide)) (hT 1 (by decide))
  obtain ⟨e2, h⟩ := vr_g8 h (hS 2 (by decide)) (hT 2 (by decide))
  obtain ⟨e3, h⟩ := vr_g8 h (hS 3 (by decide)) (hT 3 (by decide))
  obtain ⟨e4, h⟩ := vr_g8 h (hS 4 (by decide)) (hT 4 (by decide))
  obtain ⟨e5, h⟩ := vr_g8 h (hS 5 (by decide)) (hT 5 (by decide))
  obtain ⟨e6, h⟩ := vr_g8 h (hS 6 (by decide)) (hT 6 (by decide))
  have e7 : S 7 = T 7 := by omega
  intro e he
  have c : e = 0 ∨ e = 1 ∨ e = 2 ∨ e = 3 ∨ e = 4 ∨ e = 5 ∨ e = 6 ∨ e = 7 := by omega
  rcases c with rfl | rfl | rfl | rfl | rfl | rfl | rfl | rfl <;> assumption
/-- eight signs in a cell of the class and in a long of the reference -/
def vr_X (v q : Nat) (B : Nat → Nat) (x y : Int64) : Prop := ∃ S : Nat → Nat, (∀ e, e < 8 → S e = if 8 * q + e < v then B (8 * q + e) else 0) ∧ x.toInt / 16 = S 0 + 128 * (S 1 + 128 * (S 2 + 128 * (S 3 + 128 * (S 4 + 128 * (S 5 + 128 * (S 6 + 128 * (S 7 : Int))))))) ∧ x.toInt % 16 = 10 ∧ y.toInt = S 0 + 256 * (S 1 + 256 * (S 2 + 256 * (S 3 + 256 * (S 4 + 256 * (S 5 + 256 * (S 6 + 256 * (S 7 : Int)))))))
theorem vr_Sb {v q : Nat} {B S : Nat → Nat} (hB : ∀ j, j < v → 32 ≤ B j ∧ B j ≤ 126) (h : ∀ e, e < 8 → S e = if 8 * q + e < v then B (8 * q + e) else 0) : ∀ e, e < 8 → S e < 128 := by
  intro e he
  rw [h e he]
  split
  · have := hB (8 * q + e) (by assumption)
    omega
  · omega
theorem vr_X7 {v q : Nat} {B C : Nat → Nat} {x y x' y' : Int64} (hB : ∀ j, j < v → 32 ≤ B j ∧ B j ≤ 126) (hC : ∀ j, j < v → 32 ≤ C j ∧ C j ≤ 126) (h : vr_X v q B x y) (g : vr_X v q C x' y') (e : x' = x) : y' = y := by
  obtain ⟨S, s1, s2, s3, s4⟩ := h
  obtain ⟨T, t1, t2, t3, t4⟩ := g
  subst e
  have w := vr_7 (vr_Sb hB s1) (vr_Sb hC t1) (s2.symm.trans t2)
  apply Int64.toInt_inj.mp
  rw [s4, t4, w 0 (by decide), w 1 (by decide), w 2 (by decide), w 3 (by decide), w 4 (by decide), w 5 (by decide), w 6 (by decide), w 7 (by decide)]
theorem vr_X8 {v q : Nat} {B C : Nat → Nat} {x y x' y' : Int64} (hB : ∀ j, j < v → 32 ≤ B j ∧ B j ≤ 126) (hC : ∀ j, j < v → 32 ≤ C j ∧ C j ≤ 126) (h : vr_X v q B x y) (g : vr_X v q C x' y') (e : y' = y) : x' = x := by
  obtain ⟨S, s1, s2, s3, s4⟩ := h
  obtain ⟨T, t1, t2, t3, t4⟩ := g
  subst e
  have w := vr_8 (vr_Sb hB s1) (vr_Sb hC t1) (s4.symm.trans t4)
  have q1 : x'.toInt / 16 = x.toInt / 16 := by rw [s2, t2, w 0 (by decide), w 1 (by decide), w 2 (by decide), w 3 (by decide), w 4 (by decide), w 5 (by decide), w 6 (by decide), w 7 (by decide)]
  apply Int64.toInt_inj.mp
  omega
theorem vr_ap {I I' P P' K : Nat → Nat} {z z' : Nat → Int64} {q q' v : Nat} (h0 : I 0 = I' 0) (h1 : P 0 = P' 0) (h2 : K 0 = 0) (E : ∀ j, j < v → I j = I' j → P j = P' j → I (j + 1) = I' (j + 1) ∧ P (j + 1) = P' (j + 1) ∧ ∀ d, d < K (j + 1) - K j → z' (q' + K j + d) = z (q + K j + d)) : ∀ j, j ≤ v → I j = I' j ∧ P j = P' j ∧ ∀ d, d < K j → z' (q' + d) = z (q + d) := by
  intro j
  induction j with
  | zero => intro _; exact ⟨h0, h1, fun d hd => by omega⟩
  | succ j ih =>
    intro hj
    obtain ⟨a, b, w⟩ := ih (by omega)
    obtain ⟨a', b', w'⟩ := E j (by omega) a b
    refine ⟨a', b', fun d hd => ?_⟩
    by_cases y : d < K j
    · exact w d y
    · have := w' (d - K j) (by omega)
      rw [show q' + K j + (d - K j) = q' + d by omega, show q + K j + (d - K j) = q + d by omega] at this
      exact this
/-- rows put together: a head of h longs, then the rest -/
theorem vr_hd {z z' : Nat → Int64} {q q' m : Nat} (h : Nat) (a : ∀ d, d < h → z' (q' + d) = z (q + d)) (b : ∀ d, d < m - h → z' (q' + h + d) = z (q + h + d)) : ∀ d, d < m → z' (q' + d) = z (q + d) := by
  intro d hd
  by_cases y : d < h
  · exact a d y
  · have := b (d - h) (by omega)
    rw [show q' + h + (d - h) = q' + d by omega, show q + h + (d - h) = q + d by omega] at this
    exact this
theorem vr_h1 {z z' : Nat → Int64} {q q' : Nat} (a : z' q' = z q) : ∀ d, d < 1 → z' (q' + d) = z (q + d) := fun d hd => by rw [show d = 0 by omega]; exact a
theorem vr_h2 {z z' : Nat → Int64} {q q' : Nat} (a : z' q' = z q) (b : z' (q' + 1) = z (q + 1)) : ∀ d, d < 2 → z' (q' + d) = z (q + d) := fun d hd => by
  have c : d = 0 ∨ d = 1 := by omega
  rcases c with rfl | rfl
  · exact a
  · exact b
/-- the same cells: the same longs -/
theorem VR.sameR {wd : Int → Int → Prop} {c r c' r' : Nat → Int64} (W : ∀ t x y, wd t x → wd t y → x = y) : ∀ (f f' i p n m i' p' n' m' : Nat), VR wd c r f i p n m → VR wd c' r' f' i' p' n' m' → (∀ d, d < n → c' (i' + d) = c (i + d)) → n = n' ∧ m = m' ∧ ∀ d, d < m → r' (p' + d) = r (p + d) := by
  intro f
  induction f with
  | zero => intro f' i p n m i' p' n' m' h; exact h.elim
  | succ f ih =>
    intro f' i p n m i' p' n' m' h g hc
    cases f' with
    | zero => exact g.elim
    | succ f' =>
    obtain ⟨t, k, h1, h2, h3, h4, h5, h6⟩ := h
    obtain ⟨t', k', g1, g2, g3, g4, g5, g6⟩ := g
    have c0 : c' i' = c i := hc 0 h1
    rw [c0] at g3
    obtain ⟨q1, q2, q3⟩ := vl_only g3 h3
    subst q1 q2 q3
    have r0 : r' p' = r p := Int64.toInt_inj.mp (g5.trans h5.symm)
    rcases h6 with ⟨a, b, d, e⟩ | ⟨a, b, d, e⟩ | ⟨a, b, d, e⟩ | ⟨v, a, b, d, e, w, l, B, x, y⟩ | ⟨a, b, d, e, w⟩ | ⟨v, a, b, d, e, I, P, x1, x2, x3, x4, x5⟩ | ⟨v, a, b, d, e, I, x1, x3, x5, P, x2, x4, x6⟩ <;> rcases g6 with ⟨a', b', d', e'⟩ | ⟨a', b', d', e'⟩ | ⟨a', b', d', e'⟩ | ⟨v', a', b', d', e', w', l', B', x', y'⟩ | ⟨a', b', d', e', w'⟩ | ⟨v', a', b', d', e', I', P', x1', x2', x3', x4', x5'⟩ | ⟨v', a', b', d', e', I', x1', x3', x5', P', x2', x4', x6'⟩ <;> first | (exfalso; omega) | skip
    · refine ⟨rfl, by omega, ?_⟩
      subst d
      exact vr_h2 r0 (Int64.toInt_inj.mp (e'.trans e.symm))
    · refine ⟨rfl, by omega, ?_⟩
      subst d
      exact vr_h2 r0 (Int64.toInt_inj.mp (W _ _ _ e' e))
    · refine ⟨rfl, by omega, ?_⟩
      subst d
      exact vr_h1 r0
    · have vv : v' = v := by omega
      subst vv
      refine ⟨rfl, by omega, vr_hd 2 (vr_h2 r0 (Int64.toInt_inj.mp (l'.trans l.symm))) (fun q hq => ?_)⟩
      have q1 := hc (1 + q) (by omega)
      rw [← Nat.add_assoc, ← Nat.add_assoc] at q1
      exact vr_X7 x x' (y q (by omega)) (y' q (by omega)) q1
    · obtain ⟨y1, y2, y3⟩ := ih _ _ _ _ _ _ _ _ _ w w' (fun d hd => by
        have q1 := hc (1 + d) (by omega)
        rw [← Nat.add_assoc, ← Nat.add_assoc] at q1
        exact q1)
      exact ⟨rfl, by omega, vr_hd 2 (vr_h2 r0 (Int64.toInt_inj.mp (W _ _ _ e' e))) y3⟩
    · have vv : v' = v := by omega
      subst vv
      obtain ⟨y1, y2, y3⟩ := vr_ap (I := I) (I' := I') (P := P) (P' := P') (K := P) (z := r) (z' := r') (q := p + 2) (q' := p' + 2) (v := v') (by omega) (by omega) x2 (fun j hj q1 q2 => by
        obtain ⟨a1, a2, a3, a4, a5⟩ := x5 j hj
        obtain ⟨b1, b2, b3, b4, b5⟩ := x5' j hj
        obtain ⟨s1, s2, s3⟩ := ih _ _ _ _ _ _ _ _ _ a5 b5 (fun d hd => by
          have q1 := hc (1 + I j + 0 + d) (by omega)
          rw [show i' + (1 + I j + 0 + d) = i' + 1 + I' j + 0 + d by omega, show i + (1 + I j + 0 + d) = i + 1 + I j + 0 + d by omega] at q1
          exact q1)
        refine ⟨by omega, by omega, fun d hd => ?_⟩
        have := s3 d hd
        rw [← q2] at this
        exact this) v' (Nat.le_refl _)
      refine ⟨rfl, by omega, vr_hd 2 (vr_h2 r0 (Int64.toInt_inj.mp (d'.trans d.symm))) (fun z hz => y3 z (by omega))⟩
    · have vv : v' = v := by omega
      subst vv
      have hI := vr_mono (I := I) (v := v') 1 (fun j hj => (x5 j hj).1)
      have fw : ∀ j, j < v' → I j = I' j → r' (p' + 2 + j) = r (p + 2 + j) := by
        intro j hj q1
        obtain ⟨a1, a2, z, a3, a4⟩ := x5 j hj
        obtain ⟨b1, b2, z', b3, b4⟩ := x5' j hj
        have q2 := hc (1 + I j) (by omega)
        rw [← Nat.add_assoc, ← Nat.add_assoc] at q2
        rw [← q1, q2] at b3
        have zz := (vl_only b3 a3).1
        subst zz
        exact Int64.toInt_inj.mp (W _ _ _ b4 a4)
      obtain ⟨y1, y2, y3⟩ := vr_ap (I := I) (I' := I') (P := P) (P' := P') (K := P) (z := r) (z' := r') (q := p + 2 + v') (q' := p' + 2 + v') (v := v') (by omega) (by omega) x2 (fun j hj q1 q2 => by
        obtain ⟨a1, a2, a3⟩ := x5 j hj
        obtain ⟨b1, b2, b3⟩ := x5' j hj
        obtain ⟨a4, a5, a6⟩ := x6 j hj
        obtain ⟨b4, b5, b6⟩ := x6' j hj
        obtain ⟨s1, s2, s3⟩ := ih _ _ _ _ _ _ _ _ _ a6 b6 (fun d hd => by
          have q1 := hc (1 + I j + 1 + d) (by omega)
          rw [show i' + (1 + I j + 1 + d) = i' + 1 + I' j + 1 + d by omega, show i + (1 + I j + 1 + d) = i + 1 + I j + 1 + d by omega] at q1
          exact q1)
        refine ⟨by omega, by omega, fun d hd => ?_⟩
        have := s3 d hd
        rw [← q2] at this
        exact this) v' (Nat.le_refl _)
      have fi : ∀ j, j ≤ v' → I j = I' j := by
        intro j hj
        exact (vr_ap (I := I) (I' := I') (P := P) (P' := P') (K := P) (z := r) (z' := r') (q := p + 2 + v') (q' := p' + 2 + v') (v := v') (by omega) (by omega) x2 (fun j hj q1 q2 => by
          obtain ⟨a1, a2, a3⟩ := x5 j hj
          obtain ⟨b1, b2, b3⟩ := x5' j hj
          obtain ⟨a4, a5, a6⟩ := x6 j hj
          obtain ⟨b4, b5, b6⟩ := x6' j hj
          obtain ⟨s1, s2, s3⟩ := ih _ _ _ _ _ _ _ _ _ a6 b6 (fun d hd => by
            have q1 := hc (1 + I j + 1 + d) (by omega)
            rw [show i' + (1 + I j + 1 + d) = i' + 1 + I' j + 1 + d by omega, show i + (1 + I j + 1 + d) = i + 1 + I j + 1 + d by omega] at q1
            exact q1)
          refine ⟨by omega, by omega, fun d hd => ?_⟩
          have := s3 d hd
          rw [← q2] at this
          exact this) j hj).1
      refine ⟨rfl, by omega, vr_hd 2 (vr_h2 r0 (Int64.toInt_inj.mp (d'.trans d.symm))) (vr_hd v' (fun z hz => fw z hz (fi z (by omega))) (fun z hz => y3 z (by omega)))⟩
/-- the same longs: the same cells -/
theorem VR.sameC {wd : Int → Int → Prop} {c r c' r' : Nat → Int64} (W : ∀ t u x, wd t x → wd u x → t = u) : ∀ (f f' i p n m i' p' n' m' : Nat), VR wd c r f i p n m → VR wd c' r' f' i' p' n' m' → (∀ d, d < m → r' (p' + d) = r (p + d)) → n = n' ∧ m = m' ∧ ∀ d, d < n → c' (i' + d) = c (i + d) := by
  intro f
  induction f with
  | zero => intro f' i p n m i' p' n' m' h; exact h.elim
  | succ f ih =>
    intro f' i p n m i' p' n' m' h g hc
    cases f' with
    | zero => exact g.elim
    | succ f' =>
    obtain ⟨t, k, h1, h2, h3, h4, h5, h6⟩ := h
    obtain ⟨t', k', g1, g2, g3, g4, g5, g6⟩ := g
    have r0 : r' p' = r p := hc 0 h4
    have kk : k' = k := by
      rw [r0, h5] at g5
      omega
    subst kk
    have r1 : 2 ≤ m → r' (p' + 1) = r (p + 1) := fun x => hc 1 (by omega)
    rcases h6 with ⟨a, b, d, e⟩ | ⟨a, b, d, e⟩ | ⟨a, b, d, e⟩ | ⟨v, a, b, d, e, w, l, B, x, y⟩ | ⟨a, b, d, e, w⟩ | ⟨v, a, b, d, e, I, P, x1, x2, x3, x4, x5⟩ | ⟨v, a, b, d, e, I, x1, x3, x5, P, x2, x4, x6⟩ <;> rcases g6 with ⟨a', b', d', e'⟩ | ⟨a', b', d', e'⟩ | ⟨a', b', d', e'⟩ | ⟨v', a', b', d', e', w', l', B', x', y'⟩ | ⟨a', b', d', e', w'⟩ | ⟨v', a', b', d', e', I', P', x1', x2', x3', x4', x5'⟩ | ⟨v', a', b', d', e', I', x1', x3', x5', P', x2', x4', x6'⟩ <;> first | (exfalso; omega) | skip
    · rw [r1 (by omega), e] at e'
      subst e' b b'
      exact ⟨rfl, by omega, vr_h1 (vl_same g3 h3)⟩
    · rw [r1 (by omega)] at e'
      have tt := W _ _ _ e' e
      subst tt b b'
      exact ⟨rfl, by omega, vr_h1 (vl_same g3 h3)⟩
    · have tt : t' = t := by omega
      subst tt b b'
      exact ⟨rfl, by omega, vr_h1 (vl_same g3 h3)⟩
    · have vv : v' = v := by
        rw [r1 (by omega), l] at l'
        omega
      subst vv
      have tt : t' = t := by omega
      have nn : n' = n := by omega
      subst tt nn
      refine ⟨rfl, by omega, vr_hd 1 (vr_h1 (vl_same g3 h3)) (fun q hq => ?_)⟩
      have q1 := hc (2 + q) (by omega)
      rw [← Nat.add_assoc, ← Nat.add_assoc] at q1
      exact vr_X8 x x' (y q (by omega)) (y' q (by omega)) q1
    · obtain ⟨y1, y2, y3⟩ := ih _ _ _ _ _ _ _ _ _ w w' (fun d hd => by
        have q1 := hc (2 + d) (by omega)
        rw [← Nat.add_assoc, ← Nat.add_assoc] at q1
        exact q1)
      rw [r1 (by omega)] at e'
      have tt := W _ _ _ e' e
      have nn : n' = n := by omega
      subst tt nn
      exact ⟨rfl, by omega, vr_hd 1 (vr_h1 (vl_same g3 h3)) y3⟩
    · have vv : v' = v := by
        rw [r1 (by omega), d] at d'
        omega
      subst vv
      obtain ⟨y1, y2, y3⟩ := vr_ap (I := I) (I' := I') (P := P) (P' := P') (K := I) (z := c) (z' := c') (q := i + 1) (q' := i' + 1) (v := v') (by omega) (by omega) x1 (fun j hj q1 q2 => by
        obtain ⟨a1, a2, a3, a4, a5⟩ := x5 j hj
        obtain ⟨b1, b2, b3, b4, b5⟩ := x5' j hj
        obtain ⟨s1, s2, s3⟩ := ih _ _ _ _ _ _ _ _ _ a5 b5 (fun d hd => by
          have q1 := hc (2 + P j + d) (by omega)
          rw [show p' + (2 + P j + d) = p' + 2 + P' j + d by omega, show p + (2 + P j + d) = p + 2 + P j + d by omega] at q1
          exact q1)
        refine ⟨by omega, by omega, fun d hd => ?_⟩
        have := s3 d (by omega)
        rw [← q1] at this
        exact this) v' (Nat.le_refl _)
      have tt : t' = t := by omega
      have nn : n' = n := by omega
      subst tt nn
      exact ⟨rfl, by omega, vr_hd 1 (vr_h1 (vl_same g3 h3)) (fun z hz => y3 z (by omega))⟩
    · have vv : v' = v := by
        rw [r1 (by omega), d] at d'
        omega
      subst vv
      obtain ⟨y1, y2, y3⟩ := vr_ap (I := I) (I' := I') (P := P) (P' := P') (K := I) (z := c) (z' := c') (q := i + 1) (q' := i' + 1) (v := v') (by omega) (by omega) x1 (fun j hj q1 q2 => by
        obtain ⟨a1, a2, z, a3, a7⟩ := x5 j hj
        obtain ⟨b1, b2, z', b3, b7⟩ := x5' j hj
        obtain ⟨a4, a5, a6⟩ := x6 j hj
        obtain ⟨b4, b5, b6⟩ := x6' j hj
        obtain ⟨s1, s2, s3⟩ := ih _ _ _ _ _ _ _ _ _ a6 b6 (fun d hd => by
          have q1 := hc (2 + v' + P j + d) (by omega)
          rw [show p' + (2 + v' + P j + d) = p' + 2 + v' + P' j + d by omega, show p + (2 + v' + P j + d) = p + 2 + v' + P j + d by omega] at q1
          exact q1)
        refine ⟨by omega, by omega, vr_hd 1 (vr_h1 ?_) (fun d hd => ?_)⟩
        · have q3 := hc (2 + j) (by omega)
          rw [← Nat.add_assoc, ← Nat.add_assoc] at q3
          rw [q3] at b7
          have zz := W _ _ _ b7 a7
          subst zz
          rw [← q1] at b3
          exact vl_same b3 a3
        · have := s3 d (by omega)
          rw [← q1] at this
          exact this) v' (Nat.le_refl _)
      have tt : t' = t := by omega
      have nn : n' = n := by omega
      subst tt nn
      exact ⟨rfl, by omega, vr_hd 1 (vr_h1 (vl_same g3 h3)) (fun z hz => y3 z (by omega))⟩
