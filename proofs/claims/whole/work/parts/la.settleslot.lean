/-! Level 2: told templates are settled by the class: what stands between two slots; an exp's operations. -/
theorem XR.opn {WN AN TN : Nat → Nat → Prop} {SN : Nat → Nat → Prop} {c r : t_S} {p1 s1 : Nat} (hW : ∀ e k, WN e k → ∃ o : Nat, 0 < o ∧ o < 34 ∧ c.1 335 e = nI o) : ∀ f lv rr e0 e1 t0 t1 m0 m1 n, XR WN AN TN SN c r p1 s1 f 0 lv rr e0 e1 t0 t1 m0 m1 n → (∀ k, m0 ≤ k → k < m1 → r.1 955 k ≠ 61) → ∀ i, e0 ≤ i → i < e1 → ∃ o : Nat, 0 < o ∧ o < 34 ∧ c.1 335 i = nI o := by
  intro f
  induction f with
  | zero => intro lv rr e0 e1 t0 t1 m0 m1 n h; exact h.elim
  | succ f ih =>
    intro lv rr e0 e1 t0 t1 m0 m1 n h nm i i0 i1
    obtain ⟨h1, h2, h3, h4, h⟩ := h
    have op : ∀ {j o : Nat} {a : Int32}, px_o c j o a → 0 < o → o < 34 → ∃ o : Nat, 0 < o ∧ o < 34 ∧ c.1 335 j = nI o := fun {j o a} z o1 o2 => ⟨o, o1, o2, z.1⟩
    rcases h with ⟨_, h⟩ | ⟨⟨q, _⟩, _⟩ | ⟨⟨q, _⟩, _⟩
    rotate_left
    · exact absurd q (by decide)
    · exact absurd q (by decide)
    rcases h with ⟨a1, a2, a3, a4, a5⟩ | ⟨a1, a2, n', a3, a4⟩ | ⟨a1, a2, K, o, a, n', a3, a4, a5, a6, a7⟩ | ⟨a1, a2, a3, X, n', a4, a5, a6, a7, a8⟩ | ⟨a1, ea, ta, a, b, a2, a3, a4, a5, h⟩ | ⟨a1, a2, a3, v, E, T, M, G, b1, b2, b3, b4, b5, b6, b7⟩ | ⟨a1, a2, v, E, T, M, X, N, b1, b2, b3, b4, b5, b6, b7, b8, b9⟩ | h
    · have e : i = e0 := by omega
      subst e
      rcases a5 with ⟨k, p, v, q1, q2, q3, q4, q5⟩ | ⟨k, p, q1, q2, q3⟩ | ⟨k, p, q1, q2⟩ | ⟨k, p, q1, q2, q3⟩ | ⟨K, k1, k2, k, q1⟩ | ⟨k, q1⟩ | ⟨k, q1, q2⟩
      · exact op q3 (by decide) (by decide)
      · exact op q2 (by decide) (by decide)
      · exact op q1 (by decide) (by decide)
      · exact op q2 (by decide) (by decide)
      · exact op q1 (by omega) (by omega)
      · exact hW _ _ q1
      · exact ⟨8, by decide, by decide, q1⟩
    · exact ih _ _ _ _ _ _ _ _ _ a4 (fun k y1 y2 => nm k (by omega) y2) i i0 i1
    · by_cases e : i = e1 - 1
      · rw [e]
        have oo : 0 < o ∧ o < 34 := by
          rcases a3 with y | y | y
          · omega
          · omega
          · have := y.2.1
            omega
        exact op a5 oo.1 oo.2
      · exact ih _ _ _ _ _ _ _ _ _ a7 (fun k y1 y2 => nm k (by omega) y2) i i0 (by omega)
    · by_cases e : i = e1 - 1
      · rw [e]; exact op a6 (by decide) (by decide)
      · exact ih _ _ _ _ _ _ _ _ _ a8 (fun k y1 y2 => nm k y1 (by omega)) i i0 (by omega)
    · by_cases e : i < ea
      · exact ih _ _ _ _ _ _ _ _ _ a5 (fun k y1 y2 => nm k y1 (by omega)) i i0 e
      · rcases h with ⟨_, po, x⟩ | ⟨_, x, o, px, q7, po, y⟩ | ⟨_, x, o, px, q7, po, po2, y⟩
        · by_cases e2 : i = e1 - 1
          · rw [e2]; exact op po (by decide) (by decide)
          · exact ih _ _ _ _ _ _ _ _ _ x (fun k y1 y2 => nm k (by omega) y2) i (by omega) (by omega)
        · by_cases e2 : i = e1 - 1
          · rw [e2]
            have oo : 0 < o ∧ o < 34 := by unfold px_two at px; omega
            exact op po oo.1 oo.2
          · exact ih _ _ _ _ _ _ _ _ _ y (fun k y1 y2 => nm k (by omega) y2) i (by omega) (by omega)
        · by_cases e2 : i = e1 - 1
          · rw [e2]; exact op po2 (by decide) (by decide)
          · by_cases e3 : i = ea
            · rw [e3]
              have oo : 0 < o ∧ o < 34 := by unfold px_log at px; omega
              exact op po oo.1 oo.2
            · exact ih _ _ _ _ _ _ _ _ _ y (fun k y1 y2 => nm k (by omega) y2) i (by omega) (by omega)
    · by_cases e : i = e1 - 1
      · rw [e]; exact op b5 (by decide) (by decide)
      · obtain ⟨j, j1, j2, j3⟩ := px_B.find b2 i0 (by omega)
        have bM := b4.2.2 j j1
        exact ih _ _ _ _ _ _ _ _ _ (b7 j j1) (fun k y1 y2 => nm k (by omega) (by omega)) i j2 j3
    · by_cases e : i < e1 - 1 - v
      · obtain ⟨j, j1, j2, j3⟩ := px_B.find b3 i0 e
        obtain ⟨x1, x2, x3, x4, x5, x6, x7⟩ := b9 j j1
        have bM := b5.2.2 j j1
        exact ih _ _ _ _ _ _ _ _ _ x7 (fun k y1 y2 => nm k (by omega) (by omega)) i j2 j3
      · by_cases e2 : i = e1 - 1 - v
        · rw [e2]; exact op b6 (by decide) (by decide)
        · obtain ⟨x1, x2, _⟩ := b9 (i - (e1 - v)) (by omega)
          rw [show e1 - v + (i - (e1 - v)) = i by omega] at x2
          exact op x2 (by decide) (by decide)
    · exact absurd h.2.2.1 (nm n h3 h4)
theorem XR.ops {WN AN TN : Nat → Nat → Prop} {SN : Nat → Nat → Prop} {c r : t_S} {p1 s1 : Nat} (hW : ∀ e k, WN e k → ∃ o : Nat, 0 < o ∧ o < 34 ∧ c.1 335 e = nI o) (f : Nat) (lv : Int32) (rr e0 e1 t0 t1 m0 m1 n : Nat) (h : XR WN AN TN SN c r p1 s1 f 0 lv rr e0 e1 t0 t1 m0 m1 n) (nm : ∀ k, m0 ≤ k → k < m1 → r.1 955 k ≠ 61) (i : Nat) (h0 : e0 ≤ i) (h1 : i < e1) : c.1 335 i ≠ 0 ∧ c.1 335 i ≠ 34 := by
  obtain ⟨o, o1, o2, e⟩ := XR.opn hW f lv rr e0 e1 t0 t1 m0 m1 n h nm i h0 h1
  rw [e]
  exact ⟨nI_ne0 o1 (by omega), fun y => by have := (nI_eq (b := 34) (by omega) (by decide)).mp y; omega⟩
/-- an exp that holds nothing against a templ: no node is a = ( ) -/
theorem XR.k38 {WN AN TN : Nat → Nat → Prop} {SN : Nat → Nat → Prop} {c r : t_S} {p1 s1 : Nat} : ∀ f lv rr e0 e1 t0 t1 m0 m1 n, XR WN AN TN SN c r p1 s1 f 0 lv rr e0 e1 t0 t1 m0 m1 n → (∀ k, m0 ≤ k → k < m1 → r.1 955 k ≠ 61) → ∀ k, m0 ≤ k → k < m1 → r.1 955 k ≠ 38 := by
  intro f
  induction f with
  | zero => intro lv rr e0 e1 t0 t1 m0 m1 n h; exact h.elim
  | succ f ih =>
    intro lv rr e0 e1 t0 t1 m0 m1 n h nm k k0 k1
    obtain ⟨h1, h2, h3, h4, h⟩ := h
    rcases h with ⟨_, h⟩ | ⟨⟨q, _⟩, _⟩ | ⟨⟨q, _⟩, _⟩
    rotate_left
    · exact absurd q (by decide)
    · exact absurd q (by decide)
    have no : ∀ {j K : Nat}, r.1 955 j = nI K → 50 ≤ K → K < 100 → r.1 955 j ≠ 38 := fun {j K} e a b y => by
      have := (nI_eq (b := 38) (by omega) (by decide)).mp (e.symm.trans y)
      omega
    rcases h with ⟨a1, a2, a3, a4, a5⟩ | ⟨a1, a2, n', a3, a4⟩ | ⟨a1, a2, K, o, a, n', a3, a4, a5, a6, a7⟩ | ⟨a1, a2, a3, X, n', a4, a5, a6, a7, a8⟩ | ⟨a1, ea, ta, a, b, a2, a3, a4, a5, h⟩ | ⟨a1, a2, a3, v, E, T, M, G, b1, b2, b3, b4, b5, b6, b7⟩ | ⟨a1, a2, v, E, T, M, X, N, b1, b2, b3, b4, b5, b6, b7, b8, b9⟩ | h
    · have e : k = n := by omega
      rw [e]
      rcases a5 with ⟨k, _⟩ | ⟨k | k, _⟩ | ⟨k, _⟩ | ⟨k, _⟩ | ⟨K, k1, k2, k, q1⟩ | ⟨k, q1⟩ | ⟨k, q1, q2⟩
      · rw [k]; decide
      · rw [k]; decide
      · rw [k]; decide
      · rw [k]; decide
      · rw [k]; decide
      · exact no k (by omega) (by omega)
      · rw [k]; decide
      · rw [k]; decide
    · by_cases e : k = n
      · rw [e, a2]; decide
      · exact ih _ _ _ _ _ _ _ _ _ a4 (fun k y1 y2 => nm k (by omega) y2) k (by omega) k1
    · by_cases e : k = n
      · rw [e]; exact no a4 (by omega) (by omega)
      · exact ih _ _ _ _ _ _ _ _ _ a7 (fun k y1 y2 => nm k (by omega) y2) k (by omega) k1
    · by_cases e : k = n
      · rw [e, a3]; decide
      · exact ih _ _ _ _ _ _ _ _ _ a8 (fun k y1 y2 => nm k y1 (by omega)) k k0 (by omega)
    · have s5 := a5.at
      by_cases e : k < n
      · exact ih _ _ _ _ _ _ _ _ _ a5 (fun k y1 y2 => nm k y1 (by omega)) k k0 e
      · rcases h with ⟨kk, po, x⟩ | ⟨kk, x, o, px, q7, po, y⟩ | ⟨kk, x, o, px, q7, po, po2, y⟩
        · by_cases e2 : k = n
          · rw [e2, kk]; decide
          · exact ih _ _ _ _ _ _ _ _ _ x (fun k y1 y2 => nm k (by omega) y2) k (by omega) k1
        · by_cases e2 : k = n
          · rw [e2, kk]; decide
          · exact ih _ _ _ _ _ _ _ _ _ y (fun k y1 y2 => nm k (by omega) y2) k (by omega) k1
        · by_cases e2 : k = n
          · rw [e2, kk]; decide
          · exact ih _ _ _ _ _ _ _ _ _ y (fun k y1 y2 => nm k (by omega) y2) k (by omega) k1
    · by_cases e : k = n
      · rw [e, a3]; decide
      · obtain ⟨j, j1, j2, j3⟩ := px_B.find b4 (t := k) (by omega) k1
        have bM := b4.2.2 j j1
        exact ih _ _ _ _ _ _ _ _ _ (b7 j j1) (fun k y1 y2 => nm k (by omega) (by omega)) k j2 j3
    · by_cases e : k = n
      · rw [e, a2]; decide
      · obtain ⟨j, j1, j2, j3⟩ := px_B.find b5 (t := k) (by omega) k1
        obtain ⟨x1, x2, x3, x4, x5, x6, x7⟩ := b9 j j1
        have bM := b5.2.2 j j1
        by_cases e2 : k = M j
        · rw [e2, x4]; decide
        · exact ih _ _ _ _ _ _ _ _ _ x7 (fun k y1 y2 => nm k (by omega) (by omega)) k (by omega) j3
    · exact absurd h.2.2.1 (nm n h3 h4)
/-- what settling may write, among nodes τ .. τ' - 1, the pool from pp on -/
def seW (cs : t_S) (τ τ' pp b j : Nat) : Prop := eBc b j ∨ (b = 334 ∧ j = 4) ∨ (b = 337 ∧ pp ≤ j) ∨ ((b = 354 ∨ b = 357 ∨ b = 362) ∧ τ ≤ j ∧ j < τ' ∧ cs.1 354 j = 17)
structure SI (cs s : t_S) (τ TE P0 pp : Nat) : Prop where
  op : ∀ j, s.1 335 j = cs.1 335 j ∧ s.1 336 j = cs.1 336 j
  cnt : s.1 334 2 = cs.1 334 2
  tm : ∀ b j, 354 ≤ b → b ≤ 362 → τ ≤ j → j < TE → s.1 b j = cs.1 b j ∧ s.2.1 b j = cs.2.1 b j
  pl : (∀ j, j < P0 → s.2.1 337 j = cs.2.1 337 j) ∧ P0 ≤ pp
  pp : s.1 334 4 = nI pp
  md : s.1 334 14 = 1
  st : s.1 334 7 = 0 ∧ s.1 339 0 = 0 ∧ s.1 334 12 = 0
section
variable {cs s s' y : t_S} {τ τ' TE P0 pp pp' : Nat}
theorem SI.next (h : SI cs s τ TE P0 pp) (f : l2_fr (seW cs τ τ' pp) s s') (hτ : τ ≤ τ') (e4 : s'.1 334 4 = nI pp') (hp : pp ≤ pp') (e : s'.1 334 7 = 0 ∧ s'.1 339 0 = 0 ∧ s'.1 334 12 = 0) : SI cs s' τ' TE P0 pp' := by
  have g : ∀ b j, ¬ seW cs τ τ' pp b j → s'.1 b j = s.1 b j ∧ s'.2.1 b j = s.2.1 b j := fun b j y => ⟨(f b j y).1, (f b j y).2.1⟩
  refine ⟨fun j => ?_, ?_, fun b j a1 a2 a3 a4 => ?_, ⟨fun j hj => ?_, by have := h.pl.2; omega⟩, e4, ?_, e⟩
  · rw [(g 335 j (by unfold seW eBc; omega)).1, (g 336 j (by unfold seW eBc; omega)).1]
    exact h.op j
  · rw [(g 334 2 (by unfold seW eBc; omega)).1]
    exact h.cnt
  · have := g b j (by unfold seW eBc; omega)
    rw [this.1, this.2]
    exact h.tm b j a1 a2 (by omega) a4
  · have := h.pl.2
    rw [(g 337 j (by unfold seW eBc; omega)).2]
    exact h.pl.1 j hj
  · rw [(g 334 14 (by unfold seW eBc; omega)).1]
    exact h.md
theorem seW.trans {a b d pa pb : Nat} {s2 : t_S} (h : l2_fr (seW cs a b pa) s s') (g : l2_fr (seW cs b d pb) s' s2) (h1 : a ≤ b) (h2 : b ≤ d) (h3 : pa ≤ pb) : l2_fr (seW cs a d pa) s s2 := (h.mono (fun x j y => by
  unfold seW at *
  rcases y with y | y | y | y
  · exact Or.inl y
  · exact Or.inr (Or.inl y)
  · exact Or.inr (Or.inr (Or.inl y))
  · exact Or.inr (Or.inr (Or.inr ⟨y.1, by have := y.2.1; omega, by have := y.2.2.1; omega, y.2.2.2⟩)))).trans (g.mono (fun x j y => by
  unfold seW at *
  rcases y with y | y | y | y
  · exact Or.inl y
  · exact Or.inr (Or.inl y)
  · exact Or.inr (Or.inr (Or.inl ⟨y.1, by omega⟩))
  · exact Or.inr (Or.inr (Or.inr ⟨y.1, by have := y.2.1; omega, by have := y.2.2.1; omega, y.2.2.2⟩))))
end
/-- a told slot, settled: a literal in the pool, below PE, or an ERROR -/
def FS (RM : t_S → Prop) (r : t_S) (ME PE : Nat) (s : t_S) (t m : Nat) : Prop := ∃ er pp M1 n' : Nat, er ≤ 7 ∧ (m < M1 ∧ M1 ≤ ME ∧ ME ≤ 13000) ∧ r.1 959 m = nI n' ∧ n' < 13000 ∧ SVt (s.2.1 337) RM (m + 1) M1 n' er pp ∧ ((er = 0 ∧ s.1 357 t = nI pp ∧ s.2.1 362 t = 0 ∧ ∃ (tt : Int) (nn kk : Nat), vl_c tt nn kk (s.2.1 337 pp) ∧ 0 < nn ∧ pp + nn ≤ PE ∧ s.1 354 t = (if kk = 4 then 5 else 4)) ∨ (er ≠ 0 ∧ s.1 354 t = 17 ∧ s.2.1 362 t = (nI er).toInt64))
section
variable {RM : t_S → Prop} {cs r s s' : t_S} {P P' : Nat → Int64} {M0 M1 n er pp ME PE PE' t m τ τ' : Nat}
theorem SVt.later {tt : Int} {nn kk : Nat} (h : SVt P RM M0 M1 n er pp) (hv : er = 0 → vl_c tt nn kk (P pp) ∧ ∀ d, d < nn → P' (pp + d) = P (pp + d)) : SVt P' RM M0 M1 n er pp := fun g q H S hg hR h98 hH h97 h103 hS => by
  obtain ⟨q', x1, x2, x3, x4, x5, x6⟩ := h g q H S hg hR h98 hH h97 h103 hS
  refine ⟨q', x1, x2, x3, x4, x5, fun e => ?_⟩
  obtain ⟨y1, n2, m2, V⟩ := x6 e
  obtain ⟨v1, v2⟩ := hv e
  obtain ⟨t3, k3, v3, -⟩ := V.hd
  have a1 := (vk_of v1).2
  have a3 := (vk_of v3).2
  exact ⟨y1, n2, m2, VW.copy _ _ _ _ _ _ _ V (fun d hd => v2 d (by omega)) (fun _ _ => rfl)⟩
theorem FS.later (h : FS RM r ME PE s t m) (f : l2_fr (seW cs τ τ' PE) s s') (ht : t < τ ∨ τ' ≤ t) (hp : PE ≤ PE') : FS RM r ME PE' s' t m := by
  obtain ⟨er, pp, M1, n', a1, a2, a3, a4, a5, a6⟩ := h
  have g : ∀ b j, ¬ seW cs τ τ' PE b j → s'.1 b j = s.1 b j ∧ s'.2.1 b j = s.2.1 b j := fun b j y => ⟨(f b j y).1, (f b j y).2.1⟩
  have g54 := g 354 t (by unfold seW eBc; omega)
  have g57 := g 357 t (by unfold seW eBc; omega)
  have g62 := g 362 t (by unfold seW eBc; omega)
  rcases a6 with ⟨e, b1, b2, tt, nn, kk, b3, b4, b5, b6⟩ | ⟨e, b1, b2⟩
  · have pl : ∀ d, d < nn → s'.2.1 337 (pp + d) = s.2.1 337 (pp + d) := fun d hd => (g 337 _ (by unfold seW eBc; omega)).2
    have p0 := pl 0 b4
    rw [Nat.add_zero] at p0
    exact ⟨er, pp, M1, n', a1, a2, a3, a4, a5.later (fun _ => ⟨b3, pl⟩), Or.inl ⟨e, g57.1.trans b1, g62.2.trans b2, tt, nn, kk, by rw [p0]; exact b3, b4, by omega, g54.1.trans b6⟩⟩
  · exact ⟨er, pp, M1, n', a1, a2, a3, a4, a5.later (tt := 0) (nn := 0) (kk := 0) (fun y => absurd y e), Or.inr ⟨e, g54.1.trans b1, g62.2.trans b2⟩⟩
end
