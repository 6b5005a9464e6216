/-! Level 2: what nodes m .. m' - 1 of exps and templs have brought: links l .. l' - 1, faults that count if reading meets none, numbers of templs. -/
/-- the class's late fault is the least of these places -/
def lt_R (c : t_S) (S : Nat → Prop) : Prop := (c.1 846 7 = 0 ∧ ∀ p, ¬ S p) ∨ (c.1 846 7 = 4 ∧ ∃ p, p ≤ 12000 ∧ c.1 846 8 = nI p ∧ S p ∧ ∀ x, S x → p ≤ x)
theorem lt_R.iff {c : t_S} {S S' : Nat → Prop} (h : lt_R c S) (g : ∀ x, S x ↔ S' x) : lt_R c S' := by
  rcases h with ⟨a, b⟩ | ⟨a, p, b, d, e, f⟩
  · exact Or.inl ⟨a, fun p y => b p ((g p).mpr y)⟩
  · exact Or.inr ⟨a, p, b, d, (g p).mp e, fun x y => f x ((g x).mpr y)⟩
theorem lt_R.same {c c' : t_S} {S : Nat → Prop} (h : lt_R c S) (e7 : c'.1 846 7 = c.1 846 7) (e8 : c'.1 846 8 = c.1 846 8) : lt_R c' S := by
  unfold lt_R at *
  rw [e7, e8]
  exact h
theorem lt_late {c : t_S} {p : Nat} (hp : p ≤ 12000) : t_hk (f_X3_late 4 (nI p) c) (fun c' => l2_fr (fun b j => b = 846 ∧ (j = 7 ∨ j = 8)) c c' ∧ ∀ S, lt_R c S → lt_R c' (fun x => S x ∨ x = p)) := by
  refine l2_imp (lt_fr 4 (nI p) c) (fun c' hc => ⟨hc.1, fun S h => ?_⟩)
  obtain ⟨fr, hc⟩ := hc
  rcases h with ⟨a, b⟩ | ⟨a, p', b, d, e, f⟩
  · rcases hc with ⟨_, h, _⟩ | ⟨h7, h8, _⟩
    · exact absurd a h
    · exact Or.inr ⟨h7, p, hp, h8, Or.inr rfl, fun x y => y.elim (fun z => absurd z (b x)) (fun z => by omega)⟩
  · rcases hc with ⟨rfl, h, g⟩ | ⟨h7, h8, g⟩
    · have le : p' ≤ p := by
        rw [d] at g
        rcases g with g | g
        · have := (nI_ltI (by omega) (by omega)).mp g; omega
        · have := (nI_eq (by omega) (by omega)).mp g.1; omega
      exact Or.inr ⟨a, p', b, d, Or.inl e, fun x y => y.elim (f x) (fun z => by omega)⟩
    · have le : p ≤ p' := by
        rw [d, a] at g
        rcases g with g | g | g
        · exact absurd g (by decide)
        · have := (nI_ltI (by omega) (by omega)).mp g; omega
        · have := (nI_eq (by omega) (by omega)).mp g.1; omega
      exact Or.inr ⟨h7, p, hp, h8, Or.inr rfl, fun x y => y.elim (fun z => by have := f x z; omega) (fun z => by omega)⟩
def lt_N (E : en_S) (r : t_S) (k p : Nat) : Prop := p ≤ 12000 ∧ ((E.2.2.2.1 = 1 ∧ r.1 956 k = nI p ∧ ∃ K : Nat, ((55 ≤ K ∧ K ≤ 57) ∨ (61 ≤ K ∧ K ≤ 63)) ∧ r.1 955 k = nI K) ∨ (r.1 1003 k = nI p ∧ ∃ K X : Nat, (K = 67 ∨ K = 68 ∨ K = 71) ∧ r.1 955 k = nI K ∧ X < 7934 ∧ r.2.1 957 k = lN X ∧ E.2.2.2.2.1 ≤ 66 + X))
def xD_A (E : en_S) (c r : t_S) (l l' k : Nat) : Prop := ∃ K : Nat, 20 ≤ K ∧ K ≤ 72 ∧ r.1 955 k = nI K ∧ (K = 28 → ∃ e, l ≤ e ∧ e < l' ∧ w_en E.1 c r e k 13 (r.1 956 k)) ∧ (K = 58 → ∃ X, X < 7934 ∧ r.2.1 957 k = lN X ∧ r.2.1 958 k = lN E.2.1 ∧ r.1 961 k = nI E.2.2.1 ∧ (E.2.2.2.2.2 X ≠ 0 ∨ ∃ e, l ≤ e ∧ e < l' ∧ w_en E.1 c r e k 12 (r.1 956 k))) ∧ ((55 ≤ K ∧ K ≤ 57) ∨ (61 ≤ K ∧ K ≤ 63) → r.2.1 958 k = lN E.2.1 ∧ ∃ p, p ≤ 12000 ∧ r.1 956 k = nI p) ∧ (K = 63 → (r.1 956 k).toInt < (r.1 961 k).toInt ∧ ∃ e, l ≤ e ∧ e < l' ∧ w_en E.1 c r e k 7 (r.1 961 k))
def xD_B (E : en_S) (c r : t_S) (e k : Nat) : Prop := (r.1 955 k = 28 ∧ w_en E.1 c r e k 13 (r.1 956 k)) ∨ (r.1 955 k = 58 ∧ w_en E.1 c r e k 12 (r.1 956 k) ∧ (∃ X, X < 7934 ∧ r.2.1 957 k = lN X ∧ E.2.2.2.2.2 X = 0) ∧ r.2.1 958 k = lN E.2.1 ∧ r.1 961 k = nI E.2.2.1) ∨ (r.1 955 k = 63 ∧ w_en E.1 c r e k 7 (r.1 961 k) ∧ r.2.1 958 k = lN E.2.1)
def tm_k (r : t_S) (k : Nat) : Prop := ∃ K : Nat, 20 ≤ K ∧ K ≤ 41 ∧ r.1 955 k = nI K
def xD (E : en_S) (c0 c r : t_S) (l l' i i' m m' : Nat) : Prop := (∀ k, m ≤ k → k < m' → xD_A E c r l l' k) ∧ (∀ e, l ≤ e → e < l' → ∃ k, m ≤ k ∧ k < m' ∧ xD_B E c r e k) ∧ (∀ S, lt_R c0 S → lt_R c (fun p => S p ∨ ∃ k, m ≤ k ∧ k < m' ∧ lt_N E r k p)) ∧ ∃ ix : Nat → Nat, ∀ k, m ≤ k → k < m' → tm_k r k → r.1 962 k = nI (ix k) ∧ i ≤ ix k ∧ ix k < i' ∧ ∀ k2, k < k2 → k2 < m' → tm_k r k2 → ix k < ix k2
/-- two states of the reference agree on what is told of nodes a .. b - 1 -/
def xD_r (r r' : t_S) (a b : Nat) : Prop := ∀ k, a ≤ k → k < b → r'.1 955 k = r.1 955 k ∧ r'.1 956 k = r.1 956 k ∧ r'.1 962 k = r.1 962 k ∧ r'.1 1003 k = r.1 1003 k ∧ r'.2.1 957 k = r.2.1 957 k ∧ r'.2.1 958 k = r.2.1 958 k ∧ (r.1 955 k = 58 ∨ r.1 955 k = 63 → r'.1 961 k = r.1 961 k)
def xD_c (c c' : t_S) (l : Nat) : Prop := ∀ b e, 848 ≤ b → b ≤ 852 → e < l → c'.1 b e = c.1 b e
theorem w_en.fr {hm : Int32} {c r c' r' : t_S} {e k so l : Nat} {pl : Int32} (h : w_en hm c r e k so pl) (hc : xD_c c c' l) (he : e < l) (hr : r'.2.1 957 k = r.2.1 957 k) : w_en hm c' r' e k so pl := by
  obtain ⟨X, h1, h2, h3, h4, h5, h6⟩ := h
  exact ⟨X, h1, by rw [hc 849 e (by decide) (by decide) he]; exact h2, by rw [hc 850 e (by decide) (by decide) he]; exact h3, by rw [hr]; exact h4, by rw [hc 848 e (by decide) (by decide) he]; exact h5, by rw [hc 851 e (by decide) (by decide) he]; exact h6⟩
theorem xD_A.fr {E : en_S} {c r c' r' : t_S} {l l' k l2 a b : Nat} (h : xD_A E c r l l' k) (hc : xD_c c c' l') (hr : xD_r r r' a b) (h1 : a ≤ k) (h2 : k < b) (hl : l' ≤ l2) : xD_A E c' r' l l2 k := by
  obtain ⟨K, a1, a2, a3, a4, a5, a6, a7⟩ := h
  obtain ⟨q1, q2, q3, q4, q5, q6, q7⟩ := hr k h1 h2
  refine ⟨K, a1, a2, by rw [q1]; exact a3, fun z => ?_, fun z => ?_, fun z => by rw [q6, q2]; exact a6 z, fun z => ?_⟩
  · obtain ⟨e, e1, e2, e3⟩ := a4 z
    exact ⟨e, e1, by omega, by rw [q2]; exact e3.fr hc e2 q5⟩
  · obtain ⟨X, x1, x2, x3, x4, x5⟩ := a5 z
    refine ⟨X, x1, by rw [q5]; exact x2, by rw [q6]; exact x3, by rw [q7 (Or.inl (by rw [a3, z]; rfl))]; exact x4, x5.elim Or.inl (fun ⟨e, e1, e2, e3⟩ => Or.inr ⟨e, e1, by omega, by rw [q2]; exact e3.fr hc e2 q5⟩)⟩
  · obtain ⟨lt, e, e1, e2, e3⟩ := a7 z
    have e61 := q7 (Or.inr (by rw [a3, z]; rfl))
    exact ⟨by rw [q2, e61]; exact lt, e, e1, by omega, by rw [e61]; exact e3.fr hc e2 q5⟩
theorem xD_A.dn {E : en_S} {c r : t_S} {l l' k l0 : Nat} (h : xD_A E c r l l' k) (hl : l0 ≤ l) : xD_A E c r l0 l' k := by
  obtain ⟨K, a1, a2, a3, a4, a5, a6, a7⟩ := h
  refine ⟨K, a1, a2, a3, fun z => ?_, fun z => ?_, a6, fun z => ?_⟩
  · obtain ⟨e, e1, e2⟩ := a4 z
    exact ⟨e, by omega, e2⟩
  · obtain ⟨X, x1, x2, x3, x4, x5⟩ := a5 z
    exact ⟨X, x1, x2, x3, x4, x5.elim Or.inl (fun ⟨e, e1, e2⟩ => Or.inr ⟨e, by omega, e2⟩)⟩
  · obtain ⟨lt, e, e1, e2⟩ := a7 z
    exact ⟨lt, e, by omega, e2⟩
theorem xD_B.fr {E : en_S} {c r c' r' : t_S} {e k l a b : Nat} (h : xD_B E c r e k) (hc : xD_c c c' l) (he : e < l) (hr : xD_r r r' a b) (h1 : a ≤ k) (h2 : k < b) : xD_B E c' r' e k := by
  obtain ⟨q1, q2, q3, q4, q5, q6, q7⟩ := hr k h1 h2
  unfold xD_B
  rw [q1, q2, q5]
  rcases h with ⟨x, y⟩ | ⟨x, y, z, z2, z3⟩ | ⟨x, y, z2⟩
  · exact Or.inl ⟨x, y.fr hc he q5⟩
  · exact Or.inr (Or.inl ⟨x, y.fr hc he q5, z, by rw [q6]; exact z2, by rw [q7 (Or.inl x)]; exact z3⟩)
  · exact Or.inr (Or.inr ⟨x, by rw [q7 (Or.inr x)]; exact y.fr hc he q5, by rw [q6]; exact z2⟩)
theorem lt_N.fr {E : en_S} {r r' : t_S} {k p a b : Nat} (hr : xD_r r r' a b) (h1 : a ≤ k) (h2 : k < b) : lt_N E r' k p ↔ lt_N E r k p := by
  obtain ⟨q1, q2, q3, q4, q5, q6, q7⟩ := hr k h1 h2
  unfold lt_N
  rw [q1, q2, q4, q5]
theorem xD.fr {E : en_S} {c0 c r c' r' : t_S} {l l' i i' m m' : Nat} (h : xD E c0 c r l l' i i' m m') (hc : xD_c c c' l') (e7 : c'.1 846 7 = c.1 846 7) (e8 : c'.1 846 8 = c.1 846 8) (hr : xD_r r r' m m') : xD E c0 c' r' l l' i i' m m' := by
  obtain ⟨h1, h2, h3, ix, h4⟩ := h
  have tk : ∀ k, m ≤ k → k < m' → (tm_k r' k ↔ tm_k r k) := fun k a b => by
    unfold tm_k
    rw [(hr k a b).1]
  refine ⟨fun k a b => (h1 k a b).fr hc hr a b (Nat.le_refl _), fun e a b => ?_, fun S hS => ?_, ix, fun k a b t => ?_⟩
  · obtain ⟨k, k1, k2, k3⟩ := h2 e a b
    exact ⟨k, k1, k2, k3.fr hc b hr k1 k2⟩
  · refine ((h3 S hS).same e7 e8).iff (fun x => ⟨fun y => y.elim Or.inl (fun ⟨k, k1, k2, k3⟩ => Or.inr ⟨k, k1, k2, (lt_N.fr hr k1 k2).mpr k3⟩), fun y => y.elim Or.inl (fun ⟨k, k1, k2, k3⟩ => Or.inr ⟨k, k1, k2, (lt_N.fr hr k1 k2).mp k3⟩)⟩)
  · obtain ⟨y1, y2, y3, y4⟩ := h4 k a b ((tk k a b).mp t)
    exact ⟨by rw [(hr k a b).2.2.1]; exact y1, y2, y3, fun k2 z1 z2 z3 => y4 k2 z1 z2 ((tk k2 (by omega) z2).mp z3)⟩
theorem xD.trans {E : en_S} {c0 c1 c2 r1 r2 : t_S} {l l1 l2 i i1 i2 m m1 m2 : Nat} (h : xD E c0 c1 r1 l l1 i i1 m m1) (g : xD E c1 c2 r2 l1 l2 i1 i2 m1 m2) (hl : l ≤ l1 ∧ l1 ≤ l2) (hi : i ≤ i1 ∧ i1 ≤ i2) (hm : m ≤ m1 ∧ m1 ≤ m2) (hc : xD_c c1 c2 l1) (hr : xD_r r1 r2 m m1) : xD E c0 c2 r2 l l2 i i2 m m2 := by
  obtain ⟨h1, h2, h3, ix, h4⟩ := h
  obtain ⟨g1, g2, g3, iy, g4⟩ := g
  have tk : ∀ k, m ≤ k → k < m1 → (tm_k r2 k ↔ tm_k r1 k) := fun k a b => by
    unfold tm_k
    rw [(hr k a b).1]
  obtain ⟨iz, hz1, hz2⟩ : ∃ iz : Nat → Nat, (∀ k, k < m1 → iz k = ix k) ∧ (∀ k, ¬ k < m1 → iz k = iy k) := ⟨fun k => if k < m1 then ix k else iy k, fun k z => if_pos z, fun k z => if_neg z⟩
  refine ⟨fun k a b => ?_, fun e a b => ?_, fun S hS => ?_, iz, fun k a b t => ?_⟩
  · by_cases z : k < m1
    · exact (h1 k a z).fr hc hr a z hl.2
    · exact (g1 k (by omega) b).dn hl.1
  · by_cases z : e < l1
    · obtain ⟨k, k1, k2, k3⟩ := h2 e a z
      exact ⟨k, k1, by omega, k3.fr hc z hr k1 k2⟩
    · obtain ⟨k, k1, k2, k3⟩ := g2 e (by omega) b
      exact ⟨k, by omega, k2, k3⟩
  · refine (g3 _ (h3 S hS)).iff (fun x => ⟨fun y => ?_, fun y => ?_⟩)
    · rcases y with (y | ⟨k, k1, k2, k3⟩) | ⟨k, k1, k2, k3⟩
      · exact Or.inl y
      · exact Or.inr ⟨k, k1, by omega, (lt_N.fr hr k1 k2).mpr k3⟩
      · exact Or.inr ⟨k, by omega, k2, k3⟩
    · rcases y with y | ⟨k, k1, k2, k3⟩
      · exact Or.inl (Or.inl y)
      · by_cases z : k < m1
        · exact Or.inl (Or.inr ⟨k, k1, z, (lt_N.fr hr k1 z).mp k3⟩)
        · exact Or.inr ⟨k, by omega, k2, k3⟩
  · by_cases z : k < m1
    · obtain ⟨y1, y2, y3, y4⟩ := h4 k a z ((tk k a z).mp t)
      rw [hz1 k z]
      refine ⟨by rw [(hr k a z).2.2.1]; exact y1, y2, by omega, fun k2 z1 z2 z3 => ?_⟩
      by_cases w : k2 < m1
      · rw [hz1 k2 w]
        exact y4 k2 z1 w ((tk k2 (by omega) w).mp z3)
      · rw [hz2 k2 w]
        have := (g4 k2 (by omega) z2 z3).2.1
        omega
    · obtain ⟨y1, y2, y3, y4⟩ := g4 k (by omega) b t
      rw [hz2 k z]
      refine ⟨y1, by omega, y3, fun k2 z1 z2 z3 => ?_⟩
      rw [hz2 k2 (by omega)]
      exact y4 k2 z1 z2 z3
theorem xD.nil {E : en_S} {c0 c r : t_S} {l i m : Nat} (e7 : c.1 846 7 = c0.1 846 7) (e8 : c.1 846 8 = c0.1 846 8) : xD E c0 c r l l i i m m := ⟨fun k a b => by omega, fun e a b => by omega, fun S hS => (hS.same e7 e8).iff (fun x => ⟨Or.inl, fun y => y.elim id (fun ⟨k, k1, k2, _⟩ => by omega)⟩), fun _ => 0, fun k a b => by omega⟩
/-- one node, by its parts -/
theorem xD.mk1 {E : en_S} {c0 c r : t_S} {l l' i i' m K : Nat} {T : Nat → Prop} (h5 : r.1 955 m = nI K) (hK : K < 100) (hA : xD_A E c r l l' m) (hB : ∀ e, l ≤ e → e < l' → xD_B E c r e m) (hT : ∀ p, lt_N E r m p ↔ T p) (hC : ∀ S, lt_R c0 S → lt_R c (fun p => S p ∨ T p)) (hI : 20 ≤ K ∧ K ≤ 41 → r.1 962 m = nI i ∧ i < i') : xD E c0 c r l l' i i' m (m + 1) := by
  refine ⟨fun k a b => by rw [show k = m by omega]; exact hA, fun e a b => ⟨m, Nat.le_refl _, by omega, hB e a b⟩, fun S hS => (hC S hS).iff (fun x => ⟨fun y => y.elim Or.inl (fun z => Or.inr ⟨m, Nat.le_refl _, by omega, (hT x).mpr z⟩), fun y => y.elim Or.inl (fun ⟨k, k1, k2, k3⟩ => Or.inr ((hT x).mp (by rw [show m = k by omega]; exact k3)))⟩), fun _ => i, fun k a b t => ?_⟩
  have e : k = m := by omega
  subst e
  obtain ⟨K', t1, t2, t3⟩ := t
  have : K' = K := (nI_eq (by omega) (by omega)).mp (t3.symm.trans h5)
  subst this
  obtain ⟨y1, y2⟩ := hI ⟨t1, t2⟩
  exact ⟨y1, Nat.le_refl _, y2, fun k2 z1 z2 _ => by omega⟩
/-- a node that brings nothing -/
theorem xD.plain {E : en_S} {c0 c r : t_S} {l i i' m K : Nat} (h5 : r.1 955 m = nI K) (hK : 20 ≤ K ∧ K ≤ 72) (h28 : K ≠ 28 ∧ ¬ (55 ≤ K ∧ K ≤ 58) ∧ ¬ (61 ≤ K ∧ K ≤ 63) ∧ K ≠ 67 ∧ K ≠ 68 ∧ K ≠ 71) (e7 : c.1 846 7 = c0.1 846 7) (e8 : c.1 846 8 = c0.1 846 8) (hI : 20 ≤ K ∧ K ≤ 41 → r.1 962 m = nI i ∧ i < i') : xD E c0 c r l l i i' m (m + 1) := by
  refine xD.mk1 (T := fun _ => False) h5 (by omega) ⟨K, hK.1, hK.2, h5, fun z => by omega, fun z => by omega, fun z => by omega, fun z => by omega⟩ (fun e a b => by omega) (fun p => ⟨fun y => ?_, fun y => y.elim⟩) (fun S hS => (hS.same e7 e8).iff (fun x => ⟨Or.inl, fun y => y.elim id (fun z => z.elim)⟩)) hI
  obtain ⟨_, ⟨_, _, K', k1, k2⟩ | ⟨_, K', X, k1, k2, _⟩⟩ := y
  · have : K' = K := (nI_eq (by omega) (by omega)).mp (k2.symm.trans h5)
    omega
  · have : K' = K := (nI_eq (by omega) (by omega)).mp (k2.symm.trans h5)
    omega
