/-! Level 2: late faults of names: the class's set and the reference's, alike but behind what they share. -/
def A_S (nt : Nat → Nat) (s r : t_S) (m l a : Nat) (b : Int32) : Prop := (a = 4 ∧ ∃ k p, k < m ∧ lt_M r k p ∧ b = nI p) ∨ ∃ x, x < l ∧ b = s.1 848 x ∧ ((a = 4 ∧ lU nt s r m x) ∨ (a = 6 ∧ lV nt s r x))
section
variable {W X x f a t e p l sg m st n : Nat} {nt : Nat → Nat} {hm : Int32} {s r : t_S} {S T G : Nat → Int32 → Prop}
theorem lu_2 : lu_R nt s r m 2 X hm ↔ un_R nt r 0 X := by
  refine ⟨fun y => ?_, fun y => Or.inl ⟨by decide, y⟩⟩
  rcases y with ⟨y, z⟩ | ⟨y, z⟩ | ⟨y, z⟩ | ⟨y, z⟩ | ⟨y, z⟩ | ⟨y, z⟩ | ⟨kc1, hk, ⟨y, z⟩ | ⟨y, z⟩ | ⟨y, z⟩ | ⟨y, z⟩⟩
  · exact z
  all_goals omega
theorem lu_3 (f3 : f < nt 3) (f40 : f < 40) : lu_R nt s r m 3 X (nI f) ↔ s.1 438 f < 0 := by
  have hx : kx_R nt s 3 (nI f) (s.1 438 f) := Or.inl ⟨f, f3, f40, rfl, rfl⟩
  refine ⟨fun y => ?_, fun y => Or.inr (Or.inl ⟨rfl, _, hx, y⟩)⟩
  rcases y with ⟨y, z⟩ | ⟨y, kc, hk, z⟩ | ⟨y, z⟩ | ⟨y, z⟩ | ⟨y, z⟩ | ⟨y, z⟩ | ⟨kc1, hk, ⟨y, z⟩ | ⟨y, z⟩ | ⟨y, z⟩ | ⟨y, z⟩⟩
  · omega
  · rw [hx.eq hk]
    exact z
  all_goals omega
/-- a function whose component is untold: both tell it -/
theorem un_sh (Q : sQ W nt a t e p l sg m st s r) (V : vT nt s r l) (f3 : f < nt 3) (h : s.1 438 f < 0) : A_S nt s r m l 4 (r.1 983 f) ∧ S6 nt s r m l st st 4 (r.1 983 f) := by
  have n40 : nt 3 ≤ 40 := (Q.1.1.1 3 (by decide)).1
  obtain ⟨Y, pl, e, hY, hpl, he, hi, r2, r3⟩ := V.2 f f3
  refine ⟨Or.inr ⟨e, he, r3.trans hi.2.2.1.symm, Or.inl ⟨rfl, (lU_hi Q he hi (by decide) hY).1.mpr ((lu_3 f3 (by omega)).mpr h)⟩⟩, Or.inl (Or.inr ⟨rfl, f, f3, h, rfl⟩)⟩
theorem lX_sh (Q : sQ W nt a t e p l sg m st s r) (V : vT nt s r l) (hx : x < l) (h : lX s x) : ∃ b', A_S nt s r m l 4 b' ∧ S6 nt s r m l st st 4 b' ∧ b'.toInt < (s.1 848 x).toInt := by
  have n40 : nt 3 ≤ 40 := (Q.1.1.1 3 (by decide)).1
  obtain ⟨hk, f, f40, e1, un⟩ := h
  obtain ⟨g, g3, g2, g4, _⟩ := Q.2.2.2.2.2.1 x hx (Or.inl (hk.elim Or.inl (fun y => Or.inr (Or.inl y))))
  have ef : g = f := (nI_eq (by omega) (by omega)).mp (g2.symm.trans e1)
  subst ef
  obtain ⟨h1, h2⟩ := un_sh Q V g3 un
  exact ⟨_, h1, h2, g4 hk⟩
theorem set_ab (Q : sQ W nt a t e p l sg m st s r) (V : vT nt s r l) : lN_R (A_S nt s r m l) (S6 nt s r m l st st) := by
  have n40 : nt 3 ≤ 40 := (Q.1.1.1 3 (by decide)).1
  have inU : ∀ k b, k < m → rU nt s r m l st k b → S6 nt s r m l st st 4 b := fun k b hk h => Or.inl (Or.inl (Or.inl ⟨rfl, k, hk, h⟩))
  rintro a b (⟨rfl, k, p, hk, hl, rfl⟩ | ⟨x, hx, rfl, ⟨rfl, hU⟩ | ⟨rfl, hV⟩⟩)
  · exact Or.inl (inU k _ hk (Or.inl ⟨p, hl, rfl⟩))
  · rcases Q.2.1 x hx with ⟨k, k1, k2, k3, k4⟩ | ⟨E, k, hmE, k1, k2, h, nw⟩ | ⟨k, i, cnt, X, pl, x0, x1, x2, x3, x4, x5, x6, x7, x8, x9⟩ | ⟨f, X, pl, x0, x1, x2, x3, x4, x5, x6⟩ | ⟨ln, _, l2, h⟩
    · exact Or.inl (inU k _ k2 (Or.inr ⟨x, hx, rfl, hU, Or.inl ⟨k3, k4⟩⟩))
    · by_cases c : r.1 955 k = 63 ∧ r.2.1 958 k = 0
      · have tk : (s.1 848 x) = r.1 961 k := by
          rcases h with ⟨y, _⟩ | ⟨y, _⟩ | ⟨_, ⟨_, _, _, _, _, y, _⟩, _⟩
          · exact absurd ((nI_eq (a := 28) (b := 63) (by decide) (by decide)).mp (y.symm.trans c.1)) (by decide)
          · exact absurd ((nI_eq (a := 58) (b := 63) (by decide) (by decide)).mp (y.symm.trans c.1)) (by decide)
          · exact y
        have no : ∀ z : Nat, z < 100 → r.1 955 k = nI z → z = 63 := fun z hz y => (nI_eq (by omega) (by decide)).mp (y.symm.trans c.1)
        rcases Q.2.2.1 k k2 with ⟨K, y1, y2, y3, _⟩ | ⟨⟨E', _, K, y1, y2, y3, _, _, y6, y7⟩, _⟩ | ⟨y1, _⟩
        · have := no K (by omega) y3
          omega
        · have eK := no K (by omega) y3
          subst eK
          obtain ⟨_, p, p1, p2⟩ := y6 (Or.inr ⟨by decide, by decide⟩)
          have lm : lt_M r k p := ⟨p1, c.2, p2, 63, Or.inr ⟨by decide, by decide⟩, y3⟩
          refine Or.inr ⟨4, nI p, Or.inl ⟨rfl, k, p, k2, lm, rfl⟩, inU k _ k2 (Or.inl ⟨p, lm, rfl⟩), ?_⟩
          rw [tk, ← p2]
          exact (y7 rfl).1
        · exact absurd (no 58 (by decide) y1) (by decide)
      · exact Or.inl (inU k _ k2 (Or.inr ⟨x, hx, rfl, hU, Or.inr ⟨E, hmE, h, c, fun ln hl => nw ln (Nat.zero_le _) hl⟩⟩))
    · have un := lu_2.mp ((lU_hi Q hx x7 (by decide) x5).1.mp hU)
      exact Or.inl (Or.inl (Or.inl (Or.inr ⟨rfl, k, i, x0, cnt, X, x2, x3, x4, x5, x8, un, x7.2.2.1.trans x9.symm⟩)))
    · have un := (lu_3 x0 x1).mp ((lU_hi Q hx x4 (by decide) x2).1.mp hU)
      exact Or.inl (Or.inl (Or.inr ⟨rfl, f, x0, un, x4.2.2.1.trans x6.symm⟩))
    · refine Or.inl (Or.inr ⟨ln, l2, x, hx, h, rfl, ?_⟩)
      by_cases c : lX s x
      · exact Or.inl ⟨c, rfl⟩
      · exact Or.inr ⟨c, Or.inl ⟨rfl, hU⟩⟩
  · by_cases c : lX s x
    · obtain ⟨b', h1, h2, h3⟩ := lX_sh Q V hx c
      exact Or.inr ⟨4, b', h1, h2, h3⟩
    · obtain ⟨so, X, hm, sp, ex, D, hs, h⟩ := id hV
      obtain ⟨ln, l1, l2, _⟩ := Q.home hx D (by omega)
      exact Or.inl (Or.inr ⟨ln, l1, x, hx, l2, rfl, Or.inr ⟨c, Or.inr ⟨rfl, hV⟩⟩⟩)
theorem set_ba (Q : sQ W nt a t e p l sg m st s r) (V : vT nt s r l) : lN_R (S6 nt s r m l st st) (A_S nt s r m l) := by
  rintro a b (((⟨rfl, k, hk, h⟩ | ⟨rfl, k, j, hk, h⟩) | ⟨rfl, f, f3, h, rfl⟩) | ⟨ln, hl, x, hx, h, rfl, hF⟩)
  · rcases h with ⟨p, h, rfl⟩ | ⟨e, he, rfl, hU, _⟩
    · exact Or.inl (Or.inl ⟨rfl, k, p, hk, h, rfl⟩)
    · exact Or.inl (Or.inr ⟨e, he, rfl, Or.inl ⟨rfl, hU⟩⟩)
  · obtain ⟨cnt, X, c8, hc, hj, hX, h6, un, rfl⟩ := h
    obtain ⟨v2, v8, hv, hV⟩ := V.1 k hk
    have ev : v2 = cnt := (nI_eq (by omega) (by omega)).mp (hv.symm.trans hc)
    subst ev
    rcases hV j hj with y | ⟨X', pl, e', h1, h2, h3, h4, h5, h7⟩
    · rw [y] at h6
      have := congrArg Int32.toInt h6
      rw [nI_toInt (by omega), show (-1 : Int32).toInt = -1 from rfl] at this
      omega
    · have eX : X' = X := (nI_eq (by omega) (by omega)).mp (h5.symm.trans h6)
      subst eX
      exact Or.inl (Or.inr ⟨e', h3, h7.trans h4.2.2.1.symm, Or.inl ⟨rfl, (lU_hi Q h3 h4 (by decide) h1).1.mpr (lu_2.mpr un)⟩⟩)
  · exact Or.inl (un_sh Q V f3 h).1
  · rcases hF with ⟨c, rfl⟩ | ⟨c, h⟩
    · obtain ⟨b', h1, h2, h3⟩ := lX_sh Q V hx c
      exact Or.inr ⟨4, b', h2, h1, h3⟩
    · exact Or.inl (Or.inr ⟨x, hx, rfl, h⟩)
/-- more on both sides alike -/
theorem lN_R.more (h : lN_R S T) : lN_R (fun a b => S a b ∨ G a b) (fun a b => T a b ∨ G a b) := fun a b y => by
  rcases y with y | y
  · rcases h a b y with z | ⟨a', b', z1, z2, z3⟩
    · exact Or.inl (Or.inl z)
    · exact Or.inr ⟨a', b', Or.inl z1, Or.inl z2, z3⟩
  · exact Or.inl (Or.inr y)
end
