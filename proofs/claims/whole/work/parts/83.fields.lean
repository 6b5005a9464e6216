/-! Level 2: the fields of a record or choice: what has been read; the class's list; steps behind a fault. -/
/-- the class's link e is of the reference's node k, a type's name -/
def ty_en (c r : t_S) (e k : Nat) : Prop := ∃ x, x < 7934 ∧ c.1 849 e = 0 ∧ c.1 850 e = nI (66 + x) ∧ c.1 848 e = r.1 956 k ∧ r.2.1 957 k = lN x
def ty_NM (c r : t_S) (l n m : Nat) : Prop := ∃ e, e < l ∧ ty_en c r e m ∧ c.1 852 e = nI n
/-- what the nodes m .. m' - 1 have added: links l .. l' - 1 for names of types, words of enums -/
def ty_D (c0 c r : t_S) (l l' m m' : Nat) : Prop := (∀ k, m ≤ k → k < m' → ∃ K : Nat, 1 ≤ K ∧ K ≤ 11 ∧ r.1 955 k = nI K ∧ (K = 8 → ∃ e, l ≤ e ∧ e < l' ∧ ty_en c r e k)) ∧ (∀ e, l ≤ e → e < l' → ∃ k, m ≤ k ∧ k < m' ∧ r.1 955 k = 8 ∧ ty_en c r e k) ∧ ∀ x, x < 7934 → (c.1 7 (66 + x) ≠ 0 ↔ c0.1 7 (66 + x) ≠ 0 ∨ ∃ k, m ≤ k ∧ k < m' ∧ r.1 955 k = 11 ∧ r.2.1 957 k = lN x)
theorem ty_en.fr {c c' r r' : t_S} {e k : Nat} (h : ty_en c r e k) (hc : ∀ b, 848 ≤ b → b ≤ 850 → c'.1 b e = c.1 b e) (h6 : r'.1 956 k = r.1 956 k) (h7 : r'.2.1 957 k = r.2.1 957 k) : ty_en c' r' e k := by
  obtain ⟨x, h1, h2, h3, h4, h5⟩ := h
  exact ⟨x, h1, by rw [hc 849 (by decide) (by decide)]; exact h2, by rw [hc 850 (by decide) (by decide)]; exact h3, by rw [hc 848 (by decide) (by decide), h6]; exact h4, by rw [h7]; exact h5⟩
theorem ty_D.trans {c0 c1 c2 r1 r2 : t_S} {l l1 l2 m m1 m2 : Nat} (h : ty_D c0 c1 r1 l l1 m m1) (g : ty_D c1 c2 r2 l1 l2 m1 m2) (hl : l ≤ l1 ∧ l1 ≤ l2) (hm : m ≤ m1 ∧ m1 ≤ m2) (ac : ∀ b e, 848 ≤ b → b ≤ 850 → e < l1 → c2.1 b e = c1.1 b e) (ar : ∀ k, m ≤ k → k < m1 → r2.1 955 k = r1.1 955 k ∧ r2.1 956 k = r1.1 956 k ∧ (r1.1 955 k = 8 ∨ r1.1 955 k = 11 → r2.2.1 957 k = r1.2.1 957 k)) : ty_D c0 c2 r2 l l2 m m2 := by
  obtain ⟨h1, h2, h3⟩ := h
  obtain ⟨g1, g2, g3⟩ := g
  refine ⟨fun k x y => ?_, fun e x y => ?_, fun x hx => ?_⟩
  · by_cases z : k < m1
    · obtain ⟨K, a1, a2, a3, a4⟩ := h1 k x z
      obtain ⟨b1, b2, b3⟩ := ar k x z
      refine ⟨K, a1, a2, by rw [b1]; exact a3, fun e8 => ?_⟩
      obtain ⟨e, e1, e2, e3⟩ := a4 e8
      exact ⟨e, e1, by omega, e3.fr (fun b u v => ac b e u v e2) b2 (b3 (Or.inl (by rw [a3, e8]; rfl)))⟩
    · obtain ⟨K, a1, a2, a3, a4⟩ := g1 k (by omega) y
      refine ⟨K, a1, a2, a3, fun e8 => ?_⟩
      obtain ⟨e, e1, e2, e3⟩ := a4 e8
      exact ⟨e, by omega, e2, e3⟩
  · by_cases z : e < l1
    · obtain ⟨k, a1, a2, a3, a4⟩ := h2 e x z
      obtain ⟨b1, b2, b3⟩ := ar k a1 a2
      exact ⟨k, a1, by omega, by rw [b1]; exact a3, a4.fr (fun b u v => ac b e u v z) b2 (b3 (Or.inl a3))⟩
    · obtain ⟨k, a1, a2, a3⟩ := g2 e (by omega) y
      exact ⟨k, by omega, a2, a3⟩
  · rw [g3 x hx, h3 x hx]
    constructor
    · rintro ((y | ⟨k, a1, a2, a3, a4⟩) | ⟨k, a1, a2, a3, a4⟩)
      · exact Or.inl y
      · obtain ⟨b1, b2, b3⟩ := ar k a1 a2
        exact Or.inr ⟨k, a1, by omega, by rw [b1]; exact a3, by rw [b3 (Or.inr a3)]; exact a4⟩
      · exact Or.inr ⟨k, by omega, a2, a3, a4⟩
    · rintro (y | ⟨k, a1, a2, a3, a4⟩)
      · exact Or.inl (Or.inl y)
      · by_cases z : k < m1
        · obtain ⟨b1, b2, b3⟩ := ar k a1 z
          rw [b1] at a3
          exact Or.inl (Or.inr ⟨k, a1, z, a3, by rw [← b3 (Or.inr a3)]; exact a4⟩)
        · exact Or.inr ⟨k, by omega, a2, a3, a4⟩
theorem ty_D.fr {c0 c c' r r' : t_S} {l l' m m' : Nat} (h : ty_D c0 c r l l' m m') (hc : ∀ b j, b = 7 ∨ (848 ≤ b ∧ b ≤ 850) → c'.1 b j = c.1 b j) (ar : ∀ k, m ≤ k → k < m' → r'.1 955 k = r.1 955 k ∧ r'.1 956 k = r.1 956 k ∧ (r.1 955 k = 8 ∨ r.1 955 k = 11 → r'.2.1 957 k = r.2.1 957 k)) : ty_D c0 c' r' l l' m m' := by
  obtain ⟨h1, h2, h3⟩ := h
  refine ⟨fun k x y => ?_, fun e x y => ?_, fun x hx => ?_⟩
  · obtain ⟨K, a1, a2, a3, a4⟩ := h1 k x y
    obtain ⟨b1, b2, b3⟩ := ar k x y
    refine ⟨K, a1, a2, by rw [b1]; exact a3, fun e8 => ?_⟩
    obtain ⟨e, e1, e2, e3⟩ := a4 e8
    exact ⟨e, e1, e2, e3.fr (fun b u v => hc b e (Or.inr ⟨u, v⟩)) b2 (b3 (Or.inl (by rw [a3, e8]; rfl)))⟩
  · obtain ⟨k, a1, a2, a3, a4⟩ := h2 e x y
    obtain ⟨b1, b2, b3⟩ := ar k a1 a2
    exact ⟨k, a1, a2, by rw [b1]; exact a3, a4.fr (fun b u v => hc b e (Or.inr ⟨u, v⟩)) b2 (b3 (Or.inl a3))⟩
  · rw [hc 7 _ (Or.inl rfl), h3 x hx]
    constructor
    · rintro (y | ⟨k, a1, a2, a3, a4⟩)
      · exact Or.inl y
      · obtain ⟨b1, b2, b3⟩ := ar k a1 a2
        exact Or.inr ⟨k, a1, a2, by rw [b1]; exact a3, by rw [b3 (Or.inr a3)]; exact a4⟩
    · rintro (y | ⟨k, a1, a2, a3, a4⟩)
      · exact Or.inl y
      · obtain ⟨b1, b2, b3⟩ := ar k a1 a2
        rw [b1] at a3
        exact Or.inr ⟨k, a1, a2, a3, by rw [← b3 (Or.inr a3)]; exact a4⟩
/-- one node of another kind -/
theorem ty_D.one {c0 c r : t_S} {l m K : Nat} (h1 : 1 ≤ K ∧ K ≤ 11) (h8 : K ≠ 8) (h11 : K ≠ 11) (h : r.1 955 m = nI K) (hc : ∀ x, c.1 7 x = c0.1 7 x) : ty_D c0 c r l l m (m + 1) := by
  refine ⟨fun k x y => ⟨K, h1.1, h1.2, by rw [show k = m by omega]; exact h, fun e => absurd e h8⟩, fun e x y => by omega, fun x hx => ?_⟩
  rw [hc]
  refine ⟨fun y => Or.inl y, fun y => y.elim id (fun ⟨k, a1, a2, a3, a4⟩ => ?_)⟩
  rw [show k = m by omega, h] at a3
  exact absurd ((nI_eq (b := 11) (by omega) (by decide)).mp a3) h11
/-- what hangs at a type's node of the reference is there, in rising order, below b -/
def ty_to (r : t_S) (b i : Nat) (x : Int32) : Prop := x = -1 ∨ ∃ j, x = nI j ∧ i < j ∧ j < b ∧ r.1 955 j = 10
def ty_p (r : t_S) (b i : Nat) : Prop := ((r.1 955 i = 5 ∨ r.1 955 i = 6) → ty_to r b i (r.1 959 i)) ∧ (r.1 955 i = 10 → ty_to r b i (r.1 960 i) ∧ ∃ j, r.1 959 i = nI j ∧ j < b) ∧ (r.1 955 i = 7 → ∃ j, r.1 959 i = nI j ∧ j < b) ∧ (r.1 955 i = 3 ∨ r.1 955 i = 7 → ∃ lo : Nat, lo < 256 ∧ r.2.1 957 i = lN lo)
def ty_s (r : t_S) (a b : Nat) : Prop := ∀ i, a ≤ i → i < b → ty_p r b i
theorem ty_to.fr {r r' : t_S} {b b' i : Nat} {x : Int32} (h : ty_to r b i x) (hb : b ≤ b') (e : ∀ j, i < j → j < b → r'.1 955 j = r.1 955 j) : ty_to r' b' i x := by
  rcases h with h | ⟨j, h1, h2, h3, h4⟩
  · exact Or.inl h
  · exact Or.inr ⟨j, h1, h2, by omega, by rw [e j h2 h3]; exact h4⟩
theorem ty_p.fr {r r' : t_S} {b b' i : Nat} (h : ty_p r b i) (hb : b ≤ b') (h5 : r'.1 955 i = r.1 955 i) (h9 : r'.1 959 i = r.1 959 i) (h0 : r'.1 960 i = r.1 960 i) (h7 : r'.2.1 957 i = r.2.1 957 i) (e : ∀ j, i < j → j < b → r'.1 955 j = r.1 955 j) : ty_p r' b' i := by
  unfold ty_p at *
  rw [h5, h9, h0, h7]
  exact ⟨fun y => (h.1 y).fr hb e, fun y => ⟨(h.2.1 y).1.fr hb e, by
    obtain ⟨j, j1, j2⟩ := (h.2.1 y).2
    exact ⟨j, j1, by omega⟩⟩, fun y => by
    obtain ⟨j, j1, j2⟩ := h.2.2.1 y
    exact ⟨j, j1, by omega⟩, h.2.2.2⟩
/-- of no such kind -/
theorem ty_p.no {r : t_S} {b i K : Nat} (h : r.1 955 i = nI K) (hK : K < 100) (h3 : K ≠ 3) (h5 : K ≠ 5) (h6 : K ≠ 6) (h7 : K ≠ 7) (h10 : K ≠ 10) : ty_p r b i := by
  have ne : ∀ L : Nat, L < 100 → K ≠ L → r.1 955 i ≠ nI L := fun L hL hn y => hn ((nI_eq (by omega) (by omega)).mp (h.symm.trans y))
  exact ⟨fun y => y.elim (fun y => absurd y (ne 5 (by decide) h5)) (fun y => absurd y (ne 6 (by decide) h6)), fun y => absurd y (ne 10 (by decide) h10), fun y => absurd y (ne 7 (by decide) h7), fun y => y.elim (fun y => absurd y (ne 3 (by decide) h3)) (fun y => absurd y (ne 7 (by decide) h7))⟩
theorem ty_s.fr {r r' : t_S} {a b : Nat} (h : ty_s r a b) (e : ∀ i, a ≤ i → i < b → r'.1 955 i = r.1 955 i ∧ r'.1 959 i = r.1 959 i ∧ r'.1 960 i = r.1 960 i ∧ r'.2.1 957 i = r.2.1 957 i) : ty_s r' a b := fun i h1 h2 => (h i h1 h2).fr (Nat.le_refl _) (e i h1 h2).1 (e i h1 h2).2.1 (e i h1 h2).2.2.1 (e i h1 h2).2.2.2 (fun j j1 j2 => (e j (by omega) j2).1)
/-- a text: how short it may be -/
theorem ty_s.text {r : t_S} {a lo : Nat} (h : r.1 955 a = 3) (hl : lo < 256) (v : r.2.1 957 a = lN lo) : ty_s r a (a + 1) := fun i h1 h2 => by
  have e : i = a := by omega
  subst e
  exact ⟨fun y => absurd y (by rw [h]; decide), fun y => absurd y (by rw [h]; decide), fun y => absurd y (by rw [h]; decide), fun _ => ⟨lo, hl, v⟩⟩
theorem ty_s.one {r : t_S} {a K : Nat} (h : r.1 955 a = nI K) (hK : K < 100) (h3 : K ≠ 3) (h5 : K ≠ 5) (h6 : K ≠ 6) (h7 : K ≠ 7) (h10 : K ≠ 10) : ty_s r a (a + 1) := fun i h1 h2 => by
  have e : i = a := by omega
  subst e
  exact ty_p.no h hK h3 h5 h6 h7 h10
/-- what reading a type comes to, when all goes well: the class's node a, the reference's node m -/
def ty_OK (P : pc_S) (u q m a g l dd : Nat) (c0 r0 c r : t_S) : Prop := ∃ u2 q2 m2 a2 g2 l2, (u < u2 ∧ q < q2) ∧ a < a2 ∧ m < m2 ∧ g ≤ g2 ∧ l ≤ l2 ∧ tp P u2 0 0 q2 m2 a2 g2 l2 dd c r ∧ l2_fr (ty_Wc a g l) c0 c ∧ l2_fr (ty_Wr m) r0 r ∧ TY (ty_NM c r l2) c r (18 - dd) a a2 m m2 g2 a m ∧ r.1 960 m = -1 ∧ ty_D c0 c r l l2 m m2 ∧ ty_s r m m2
def ty_R (P : pc_S) (u q m a g l dd : Nat) (c0 r0 : t_S) (x y : Int32 × t_S) : Prop := l2_fr (ty_Wc 0 0 0) c0 x.2 ∧ l2_fr (ty_Wr 0) r0 y.2 ∧ ((x.1 = nI a ∧ y.1 = nI m ∧ ty_OK P u q m a g l dd c0 r0 x.2 y.2) ∨ pf P x.2 y.2)
/-- k fields have been read -/
def fi_K (n m0 a0 m g l K f : Nat) (c0 r0 c r : t_S) (a1 m1 g1 l1 k : Nat) (F G X O : Nat → Nat) : Prop := a0 ≤ a1 ∧ m ≤ m1 ∧ g ≤ g1 ∧ l ≤ l1 ∧ l2_fr (fun b j => ty_Wc a0 g l b j ∨ ((b = 318 ∨ b = 321) ∧ j = n)) c0 c ∧ l2_fr (fun b j => ty_Wr m b j ∨ (b = 959 ∧ j = m0)) r0 r ∧ cc_R c n k F ∧ ch_R r m0 k G ∧ c.1 321 n = nI k ∧ (∀ i j, i < j → j < k → X i ≠ X j) ∧ (∀ j, j < k → a0 ≤ F j ∧ F j < a1 ∧ m ≤ G j ∧ G j < m1 ∧ ty_f c r (F j) (G j) (X j) (O j) ∧ (K = 6 → O j = 0) ∧ ∃ n' m', c.1 318 (F j) = nI n' ∧ r.1 959 (G j) = nI m' ∧ r.1 960 m' = -1 ∧ TY (ty_NM c r l1) c r f (F j + 1) (if j + 1 < k then F (j + 1) else a1) (G j + 1) (if j + 1 < k then G (j + 1) else m1) g1 n' m') ∧ ty_D c0 c r l l1 m m1 ∧ ty_s r m m1
theorem fi_K.la {n m0 a0 m g l K f : Nat} {c0 r0 c r c' r' : t_S} {a1 m1 g1 l1 k : Nat} {F G X O : Nat → Nat} (h : fi_K n m0 a0 m g l K f c0 r0 c r a1 m1 g1 l1 k F G X O) (fc : l2_fr la_W c c') (fr : l2_fr rn_W r r') : fi_K n m0 a0 m g l K f c0 r0 c' r' a1 m1 g1 l1 k F G X O := by
  obtain ⟨h1, h2, h3, h4, h5, h6, h7, h8, h9, h10, h11, h12, h13⟩ := h
  have ac : ∀ b j, 2 ≤ b → c'.1 b j = c.1 b j ∧ c'.2.1 b j = c.2.1 b j := fun b j x => ⟨(fc b j (by unfold la_W; omega)).1, (fc b j (by unfold la_W; omega)).2.1⟩
  have ar : ∀ b j, 951 ≤ b → r'.1 b j = r.1 b j ∧ r'.2.1 b j = r.2.1 b j := fun b j x => ⟨(fr b j (by unfold rn_W; omega)).1, (fr b j (by unfold rn_W; omega)).2.1⟩
  refine ⟨h1, h2, h3, h4, h5.trans (fc.mono (fun b j y => Or.inl (ty_la y))), h6.trans (fr.mono (fun b j y => Or.inl (ty_rn y))), ?_, ?_, ?_, h10, fun j hj => ?_, h12.fr (fun b j y => (ac b j (by omega)).1) (fun k x y => ⟨(ar 955 k (by decide)).1, (ar 956 k (by decide)).1, fun _ => (ar 957 k (by decide)).2⟩), h13.fr (fun i _ _ => ⟨(ar 955 i (by decide)).1, (ar 959 i (by decide)).1, (ar 960 i (by decide)).1, (ar 957 i (by decide)).2⟩)⟩
  · refine ⟨by rw [(ac 318 n (by decide)).1]; exact h7.1, fun j hj => ?_⟩
    rw [(ac 319 _ (by decide)).1]; exact h7.2 j hj
  · refine ⟨by rw [(ar 959 m0 (by decide)).1]; exact h8.1, fun j hj => ?_⟩
    rw [(ar 960 _ (by decide)).1]; exact h8.2 j hj
  · rw [(ac 321 n (by decide)).1]; exact h9
  · obtain ⟨y1, y2, y3, y4, y5, y6, n', m', y7, y8, y9, y10⟩ := h11 j hj
    refine ⟨y1, y2, y3, y4, ?_, y6, n', m', ?_, ?_, ?_, ?_⟩
    · unfold ty_f
      rw [(ac 317 _ (by decide)).1, (ac 320 _ (by decide)).1, (ac 321 _ (by decide)).1, (ar 955 _ (by decide)).1, (ar 957 _ (by decide)).2, (ar 958 _ (by decide)).2]
      exact y5
    · rw [(ac 318 _ (by decide)).1]; exact y7
    · rw [(ar 959 _ (by decide)).1]; exact y8
    · rw [(ar 960 _ (by decide)).1]; exact y9
    · refine TY.fr _ _ _ _ _ _ _ _ y10 ⟨fun i j x y z w => ac i j (by omega), fun j hj => (ac 325 j (by decide)).1⟩ (fun i j x y z w => ar i j (by omega)) (fun n m _ _ _ _ ⟨e, e1, e2, e3⟩ => ⟨e, e1, e2.fr (fun b u v => (ac b e (by omega)).1) (ar 956 m (by decide)).1 (ar 957 m (by decide)).2, by rw [(ac 852 e (by decide)).1]; exact e3⟩) _ _ _ _ (Nat.le_refl _) (Nat.le_refl _) (Nat.le_refl _) (Nat.le_refl _)
/-- the class's list of fields: one more -/
theorem fi_tail {T : Type} {s : t_S} {n a k : Nat} {last : Int32} {F : Nat → Nat} {rc : RT_X6_readFields} {l2 l3 : Int32} {b : Option T} {Q : ((Int32 × Int32 × Int32 × Int32 × Int32 × t_S) ⊕ t_S) → T → Prop} (hn : n < a) (ha : a < 3001) (hk : k ≤ 100) (hc : cc_R s n k F) (hF : ∀ j, j < k → F j < a) (hlast : 0 < k → last = nI (F (k - 1))) (h21 : s.1 321 n = nI k) (h19 : s.1 319 a = -1)
    (K : ∀ s', l2_fr (fun b j => ((b = 318 ∨ b = 321) ∧ j = n) ∨ (b = 319 ∧ 0 < k ∧ j = F (k - 1))) s s' → cc_R s' n (k + 1) (va_up F k a) → s'.1 321 n = nI (k + 1) → t_h2 ((f_X2_take (44 : Int32) s').bind (fun r2 => if r2.1 = (0 : Int32) then ((k_X6_readFields_278 rc r2.2).map Sum.inr) else (some (.inl (nI n, l2, l3, nI a, (nI k + 1), r2.2))))) b Q) : t_h2 (k_X6_readFields_209 rc (nI n) l2 l3 last (nI k) (nI a) s) b Q := by
  have ixn : t_ix (nI n) 3001 = true := l2_ix (by omega) (by decide)
  have cn : (nI n).toNatClampNeg = n := nI_clamp (by omega)
  unfold k_X6_readFields_209
  by_cases z : k = 0
  · subst z
    refine h2_ckL rfl (h2_ckL ixn (h2_lL ?_))
    unfold k_X6_readFields_240
    rw [cn]
    refine h2_ckL ixn (h2_lL ?_)
    refine K _ ?_ ?_ ?_
    · exact (l2_fr.set (Or.inl ⟨by omega, rfl⟩)).trans (l2_fr.set (Or.inl ⟨by omega, rfl⟩))
    · refine cc_add0 (c := s) hn ha ?_ ?_
      · simp only [l2_gI, Nat.reduceEqDiff, reduceIte, eq_self]
      · simp only [l2_gI, Nat.reduceEqDiff, reduceIte]
        exact h19
    · simp only [l2_gI, Nat.reduceEqDiff, reduceIte, eq_self]
      rw [h21, nI_1]
  · have kz : ¬ nI k = (0 : Int32) := nI_ne0 (by omega) (by omega)
    have lt := hF (k - 1) (by omega)
    have gt := (hc.2 (k - 1) (by omega)).2.1
    have hl := hlast (by omega)
    subst hl
    have ixl : t_ix (nI (F (k - 1))) 3001 = true := l2_ix (by omega) (by decide)
    have cl : (nI (F (k - 1))).toNatClampNeg = F (k - 1) := nI_clamp (by omega)
    refine h2_noL kz (h2_ckL ixl (h2_lL ?_))
    unfold k_X6_readFields_240
    rw [cn, cl]
    refine h2_ckL ixn (h2_lL ?_)
    have m1 : ∀ j, j < k → ¬ F j = a := fun j hj e => by have := hF j hj; omega
    have al : ¬ a = F (k - 1) := fun e => m1 (k - 1) (by omega) e.symm
    refine K _ ?_ ?_ ?_
    · exact (l2_fr.set (Or.inr ⟨rfl, by omega, rfl⟩)).trans (l2_fr.set (Or.inl ⟨by omega, rfl⟩))
    · refine cc_add (c := s) hc (by omega) hn ha hF ?_ ?_ ?_ (fun j hj => ?_)
      · simp only [l2_gI, Nat.reduceEqDiff, reduceIte]
      · simp only [l2_gI, Nat.reduceEqDiff, reduceIte, eq_self]
      · simp only [l2_gI, Nat.reduceEqDiff, reduceIte, if_neg al]
        exact h19
      · have lt2 := ch_lt (fun j hj => (hc.2 j hj).2.2.2) j (k - 1) (by omega) (by omega)
        have jl : ¬ F j = F (k - 1) := by omega
        simp only [l2_gI, Nat.reduceEqDiff, reduceIte, if_neg jl]
    · simp only [l2_gI, Nat.reduceEqDiff, reduceIte, eq_self]
      rw [h21, nI_1]
/-- the class behind a fault: the end of a field -/
theorem lc_F.f209 {s : t_S} {f p n a : Nat} {k last l2 l3 : Int32} {rc : RT_X6_readFields} (h : lc_F s f p) (hn : n < 3001) (hl : k ≠ 0 → ∃ i, i < 3001 ∧ last = nI i) : t_hk (k_X6_readFields_209 rc (nI n) l2 l3 last k (nI a) s) (fun z => ∃ c', z = .inr c' ∧ lc_F c' f p ∧ l2_fr (ty_Wc 0 0 0) s c') := by
  have ixn : t_ix (nI n) 3001 = true := l2_ix hn (by decide)
  have go : ∀ s1, l2_fr (fun b j => b = 318 ∨ b = 319) s s1 → t_hk (k_X6_readFields_240 rc (nI n) l2 l3 k (nI a) s1) (fun z => ∃ c', z = .inr c' ∧ lc_F c' f p ∧ l2_fr (ty_Wc 0 0 0) s c') := by
    intro s1 w
    unfold k_X6_readFields_240
    refine l2_ck ixn ?_
    rw [nI_clamp (n := n) (by omega)]
    have w2 : l2_fr (fun b j => 318 ≤ b ∧ b ≤ 321) s (t_setI s1 321 n (s1.1 321 n + 1)) := (w.mono (fun b j y => by omega)).trans (l2_fr.set (by omega))
    refine l2_lt ?_
    have h2 := h.fr w2 (fun j _ _ => by omega)
    refine l2_eq (h2.need (x := 44) (by decide)).2 (l2_ck rfl (l2_mp ?_))
    unfold k_X6_readFields_278
    refine l2_eq (h2.need (x := 125) (by decide)).1 (l2_sm ⟨_, rfl, h2, w2.mono (fun b j y => by unfold ty_Wc; omega)⟩)
  unfold k_X6_readFields_209
  refine l2_if (fun _ => l2_ck ixn (l2_lt (go _ (l2_fr.set (Or.inl rfl))))) (fun z => ?_)
  obtain ⟨i, i1, i2⟩ := hl z
  subst i2
  exact l2_ck (l2_ix i1 (by decide)) (l2_lt (go _ (l2_fr.set (Or.inr rfl))))
/-- the reference behind a fault: the end of a field -/
theorem pr_176 {P : pc_S} {f p : Nat} {r : t_S} {rc : RT_X13_fields} (h : pr P f p r) (l1 l2 l4 : Int32) : t_hk (k_X13_fields_176 rc l1 l2 l4 r) (fun z => ∃ x r', z = .inl (l1, l2, x, l4 + 1, r') ∧ pr P f p r' ∧ l2_fr (ty_Wr 0) r r') := by
  unfold k_X13_fields_176
  refine l2_if (fun _ => l2_sm ⟨_, _, rfl, h, l2_fr.rf⟩) (fun _ => l2_eq (pr_next h).1 (l2_sm ⟨_, _, rfl, h.dead, ty_d5⟩))
/-- .. from behind the field's type on -/
theorem pr_f7 {P : pc_S} {f p j : Nat} {r : t_S} {rc : RT_X13_fields} (h : pr P f p r) (hj : j < 13000) (l1 l2 l4 : Int32) : t_hk (if l2 = (0 : Int32) then (if (f_X13_isWord (18 : Int32) r) = (0 : Int32) then (k_X13_fields_176 rc l1 l2 l4 r) else (t_let (t_setJ r 958 ((nI j).toNatClampNeg) (1 : Int64)) (fun s2 => (f_X13_next s2).bind (fun r9 => k_X13_fields_176 rc l1 l2 l4 r9)))) else (k_X13_fields_176 rc l1 l2 l4 r)) (fun z => ∃ x r', z = .inl (l1, l2, x, l4 + 1, r') ∧ pr P f p r' ∧ l2_fr (ty_Wr 0) r r') := by
  refine l2_if (fun _ => l2_if (fun _ => pr_176 h _ _ _) (fun _ => l2_lt ?_)) (fun _ => pr_176 h _ _ _)
  rw [nI_clamp (n := j) (by omega)]
  have g4 : l2_fr (fun b i => (b = 957 ∨ b = 958) ∧ i = j) r (t_setJ r 958 j 1) := l2_fr.setJ ⟨Or.inr rfl, rfl⟩
  have h2 := h.xy g4
  refine l2_eq (pr_next h2).1 (l2_imp (pr_176 h2.dead l1 l2 l4) (fun z hz => ?_))
  obtain ⟨x, r', e, hz, w⟩ := hz
  exact ⟨x, r', e, hz, ((g4.mono (fun b i y => ty_xy y)).trans ty_d5).trans w⟩
/-- .. from behind the field's name on -/
theorem pr_f4 {P : pc_S} {f p j : Nat} {r : t_S} {rc : RT_X13_fields} (HR : ∀ P f p r, pr P f p r → rc.2 r = some (0, r)) (h : pr P f p r) (hj : j < 13000) (l1 l2 l4 : Int32) : t_hk ((f_X13_mustBe (58 : Int32) r).bind (fun r5 => (rc.2 r5).bind (fun r6 => (f_X13_hang (nI j) r6.1 r6.2).bind (fun r7 => if l2 = (0 : Int32) then (if (f_X13_isWord (18 : Int32) r7) = (0 : Int32) then (k_X13_fields_176 rc l1 l2 l4 r7) else (t_let (t_setJ r7 958 ((nI j).toNatClampNeg) (1 : Int64)) (fun s2 => (f_X13_next s2).bind (fun r9 => k_X13_fields_176 rc l1 l2 l4 r9)))) else (k_X13_fields_176 rc l1 l2 l4 r7))))) (fun z => ∃ x r', z = .inl (l1, l2, x, l4 + 1, r') ∧ pr P f p r' ∧ l2_fr (ty_Wr 0) r r') := by
  refine l2_eq (pr_mustBe h 58) (l2_eq (HR P f p _ h.dead) (l2_eq (pr_hang h.dead _ _) (l2_imp (pr_f7 h.dead hj l1 l2 l4) (fun z hz => ?_))))
  obtain ⟨x, r', e, hz, w⟩ := hz
  exact ⟨x, r', e, hz, ty_d5.trans w⟩
theorem pr_f105 {P : pc_S} {f p j : Nat} {r : t_S} {rc : RT_X13_fields} (HR : ∀ P f p r, pr P f p r → rc.2 r = some (0, r)) (h : pr P f p r) (hj : j < 13000) (l1 l2 l4 l5 : Int32) : t_hk (if t_ix (nI j) 13000 = true then t_let (t_setJ r 957 ((nI j).toNatClampNeg) l5.toInt64) (fun s1 => (f_X13_hang l1 (nI j) s1).bind (fun r3 => (f_X13_next r3).bind (fun r4 => (f_X13_mustBe (58 : Int32) r4).bind (fun r5 => (rc.2 r5).bind (fun r6 => (f_X13_hang (nI j) r6.1 r6.2).bind (fun r7 => if l2 = (0 : Int32) then (if (f_X13_isWord (18 : Int32) r7) = (0 : Int32) then (k_X13_fields_176 rc l1 l2 l4 r7) else (t_let (t_setJ r7 958 ((nI j).toNatClampNeg) (1 : Int64)) (fun s2 => (f_X13_next s2).bind (fun r9 => k_X13_fields_176 rc l1 l2 l4 r9)))) else (k_X13_fields_176 rc l1 l2 l4 r7))))))) else none) (fun z => ∃ x r', z = .inl (l1, l2, x, l4 + 1, r') ∧ pr P f p r' ∧ l2_fr (ty_Wr 0) r r') := by
  refine l2_ck (l2_ix hj (by decide)) (l2_lt ?_)
  have cj : (nI j).toNatClampNeg = j := nI_clamp (by omega)
  have g4 : l2_fr (fun b i => (b = 957 ∨ b = 958) ∧ i = j) r (t_setJ r 957 ((nI j).toNatClampNeg) l5.toInt64) := by rw [cj]; exact l2_fr.setJ ⟨Or.inl rfl, rfl⟩
  have h2 := h.xy g4
  generalize t_setJ r 957 ((nI j).toNatClampNeg) l5.toInt64 = r2 at *
  refine l2_eq (pr_hang h2 _ _) (l2_eq (pr_next h2).1 (l2_imp (pr_f4 HR h2.dead hj l1 l2 l4) (fun z hz => ?_)))
  obtain ⟨x, r', e, hz, w⟩ := hz
  exact ⟨x, r', e, hz, ((g4.mono (fun b i y => ty_xy y)).trans ty_d5).trans w⟩
theorem pr_fi105 {P : pc_S} {f p : Nat} {r : t_S} {rc : RT_X13_fields} (HR : ∀ P f p r, pr P f p r → rc.2 r = some (0, r)) (h : pr P f p r) (l1 l2 l4 l5 : Int32) : t_hk (k_X13_fields_105 rc l1 l2 l4 l5 r) (fun z => ∃ x r', z = .inl (l1, l2, x, l4 + 1, r') ∧ pr P f p r' ∧ l2_fr (ty_Wr 0) r r') := by
  unfold k_X13_fields_105
  refine l2_bd _ (pr_node2 (nd_k20 (K := 10) (by decide)) h) (fun y hy => ?_)
  obtain ⟨y0, r1⟩ := y
  obtain ⟨j, j1, j2, j3, j4, j5⟩ := hy
  have j2 : y0 = nI j := j2
  subst j2
  refine l2_imp (pr_f105 HR j5 j1 l1 l2 l4 l5) (fun z hz => ?_)
  obtain ⟨x, r', e, hz, w⟩ := hz
  exact ⟨x, r', e, hz, (j3.mono (fun b i y => ty_nd y (Nat.zero_le _))).trans w⟩
theorem pr_fi89 {P : pc_S} {f p : Nat} {r : t_S} {rc : RT_X13_fields} (HR : ∀ P f p r, pr P f p r → rc.2 r = some (0, r)) (h : pr P f p r) (l1 l2 l4 l5 : Int32) : t_hk (k_X13_fields_89 rc l1 l2 l4 l5 r) (fun z => ∃ x r', z = .inl (l1, l2, x, l4 + 1, r') ∧ pr P f p r' ∧ l2_fr (ty_Wr 0) r r') := by
  unfold k_X13_fields_89
  refine l2_if (fun _ => ?_) (fun _ => pr_fi105 HR h _ _ _ _)
  rw [(pr_next h).2]
  exact pr_fi105 HR h _ _ _ _
theorem pr_fiend {P : pc_S} {f p : Nat} {r : t_S} {rc : RT_X13_fields} (h : pr P f p r) (l1 l2 x l4 : Int32) : b_X13_fields_45 rc (l1, l2, x, l4, r) = some (.inr (t_setI r 950 5 0)) := by
  show k_X13_fields_45 rc l1 l2 x l4 r = _
  unfold k_X13_fields_45 k_X13_fields_197
  rw [pr_mustBe h, if_neg h.ne]
  split <;> rfl
theorem lc_F.f105 {c : t_S} {f p : Nat} {rc : RT_X6_readFields} (h : lc_F c f p) (l1 l2 l3 l4 l5 : Int32) : t_hk (k_X6_readFields_105 rc l1 l2 l3 l4 l5 c) (fun z => ∃ c', z = .inr c' ∧ lc_F c' f p ∧ l2_fr (ty_Wc 0 0 0) c c') := by
  unfold k_X6_readFields_105
  refine l2_bd _ h.node (fun c' w => ?_)
  exact l2_no w.1.ne (l2_mp (l2_sm ⟨c', rfl, w⟩))
theorem lc_F.f32 {c : t_S} {f p : Nat} {rc : RT_X6_readFields} (h : lc_F c f p) {l1 l2 l3 l4 l5 : Int32} (h2 : ¬ (16 : Int32) < l5) : t_hk (k_X6_readFields_32 rc l1 l2 l3 l4 l5 c) (fun z => ∃ c', z = .inr c' ∧ lc_F c' f p ∧ l2_fr (ty_Wc 0 0 0) c c') := by
  unfold k_X6_readFields_32
  rw [if_neg h2, h.2.2.2.2, if_neg (by decide), (lc_stay h).2]
  exact h.f105 _ _ _ _ _
