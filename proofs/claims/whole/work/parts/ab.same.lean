/-! Level 2: trees carried on; = ( exp ) on both sides. -/
theorem XR.lv {WN AN TN : Nat → Nat → Prop} {SN : Nat → Nat → Prop} {c r : t_S} {p1 s1 : Nat} {lv lv' : Int32} : ∀ f rr e0 e1 t0 t1 m0 m1 n, XR WN AN TN SN c r p1 s1 f 0 lv rr e0 e1 t0 t1 m0 m1 n → XR WN AN TN SN c r p1 s1 f 0 lv' rr e0 e1 t0 t1 m0 m1 n := by
  intro f
  induction f with
  | zero => intro rr e0 e1 t0 t1 m0 m1 n h; exact h.elim
  | succ f ih =>
    intro rr e0 e1 t0 t1 m0 m1 n h
    obtain ⟨h1, h2, h3, h4, h⟩ := h
    refine ⟨h1, h2, h3, h4, ?_⟩
    rcases h with ⟨hfl, h⟩ | ⟨hfl, _⟩ | ⟨hfl, _⟩
    · refine Or.inl ⟨hfl, ?_⟩
      rcases h with h | ⟨a1, a2, n', a3, a4⟩ | ⟨a1, a2, K, o, a, n', a3, a4, a5, a6, a7⟩ | ⟨a1, a2, a3, X, n', a4, a5, a6, a7, a8⟩ | ⟨a1, ea, ta, a, b, a2, a3, a4, a5, h⟩ | ⟨a1, a2, a3, v, E, T, M, G, b1, b2, b3, b4, b5, b6, b7⟩ | ⟨a1, a2, v, E, T, M, X, N, b1, b2, b3, b4, b5, b6, b7, b8, b9⟩ | ⟨a1, a2, a3, ea, ta, ma, a, b, b1, b2, b3, b4, b5, b6, b7, b8⟩
      · exact Or.inl h
      · exact Or.inr (Or.inl ⟨a1, a2, n', a3, ih _ _ _ _ _ _ _ _ a4⟩)
      · exact Or.inr (Or.inr (Or.inl ⟨a1, a2, K, o, a, n', a3, a4, a5, a6, ih _ _ _ _ _ _ _ _ a7⟩))
      · exact Or.inr (Or.inr (Or.inr (Or.inl ⟨a1, a2, a3, X, n', a4, a5, a6, a7, ih _ _ _ _ _ _ _ _ a8⟩)))
      · refine Or.inr (Or.inr (Or.inr (Or.inr (Or.inl ⟨a1, ea, ta, a, b, a2, a3, a4, ih _ _ _ _ _ _ _ _ a5, ?_⟩))))
        rcases h with ⟨b1, b2, b3⟩ | ⟨b1, x, o, b2, b3, b4, b5⟩ | ⟨b1, x, o, b2, b3, b4, b5, b6⟩
        · exact Or.inl ⟨b1, b2, ih _ _ _ _ _ _ _ _ b3⟩
        · exact Or.inr (Or.inl ⟨b1, x, o, b2, b3, b4, ih _ _ _ _ _ _ _ _ b5⟩)
        · exact Or.inr (Or.inr ⟨b1, x, o, b2, b3, b4, b5, ih _ _ _ _ _ _ _ _ b6⟩)
      · exact Or.inr (Or.inr (Or.inr (Or.inr (Or.inr (Or.inl ⟨a1, a2, a3, v, E, T, M, G, b1, b2, b3, b4, b5, b6, fun j hj => ih _ _ _ _ _ _ _ _ (b7 j hj)⟩)))))
      · exact Or.inr (Or.inr (Or.inr (Or.inr (Or.inr (Or.inr (Or.inl ⟨a1, a2, v, E, T, M, X, N, b1, b2, b3, b4, b5, b6, b7, b8, fun j hj => ⟨(b9 j hj).1, (b9 j hj).2.1, (b9 j hj).2.2.1, (b9 j hj).2.2.2.1, (b9 j hj).2.2.2.2.1, (b9 j hj).2.2.2.2.2.1, ih _ _ _ _ _ _ _ _ (b9 j hj).2.2.2.2.2.2⟩⟩))))))
      · exact Or.inr (Or.inr (Or.inr (Or.inr (Or.inr (Or.inr (Or.inr ⟨a1, a2, a3, ea, ta, ma, a, b, b1, b2, b3, b4, b5, b6, ih _ _ _ _ _ _ _ _ b7, b8⟩))))))
    · exact absurd hfl.1 (by decide)
    · exact absurd hfl.1 (by decide)
/-- at a lower rank, too -/
theorem XR.dn {WN AN TN : Nat → Nat → Prop} {SN : Nat → Nat → Prop} {c r : t_S} {p1 s1 : Nat} : ∀ f fl lv rr rr' e0 e1 t0 t1 m0 m1 n, rr' ≤ rr → XR WN AN TN SN c r p1 s1 f fl lv rr e0 e1 t0 t1 m0 m1 n → XR WN AN TN SN c r p1 s1 f fl lv rr' e0 e1 t0 t1 m0 m1 n := by
  intro f
  induction f with
  | zero => intro fl lv rr rr' e0 e1 t0 t1 m0 m1 n _ h; exact h.elim
  | succ f ih =>
    intro fl lv rr rr' e0 e1 t0 t1 m0 m1 n le h
    obtain ⟨h1, h2, h3, h4, h⟩ := h
    refine ⟨h1, h2, h3, h4, ?_⟩
    have d0 : ∀ {fl lv a0 a1 b0 b1 d0 d1 n'}, XR WN AN TN SN c r p1 s1 f fl lv rr a0 a1 b0 b1 d0 d1 n' → XR WN AN TN SN c r p1 s1 f fl lv rr' a0 a1 b0 b1 d0 d1 n' := fun x => ih _ _ _ _ _ _ _ _ _ _ _ le x
    have d1 : ∀ {k fl lv a0 a1 b0 b1 d0 d1 n'}, XR WN AN TN SN c r p1 s1 f fl lv (rr + k) a0 a1 b0 b1 d0 d1 n' → XR WN AN TN SN c r p1 s1 f fl lv (rr' + k) a0 a1 b0 b1 d0 d1 n' := fun x => ih _ _ _ _ _ _ _ _ _ _ _ (by omega) x
    rcases h with ⟨⟨hfl, hr⟩, h⟩ | ⟨⟨hfl, hr⟩, ht, mE, g1, g2, g3, h⟩ | ⟨⟨hfl, hr⟩, ht, a1, a2, a3, a4, a5, a6, a7, v, E, T, M, G, b1, b2, b3, b4, b5, b6, b7, b8⟩
    · refine Or.inl ⟨⟨hfl, by omega⟩, ?_⟩
      rcases h with h | ⟨a1, a2, n', a3, a4⟩ | ⟨a1, a2, K, o, a, n', a3, a4, a5, a6, a7⟩ | ⟨a1, a2, a3, X, n', a4, a5, a6, a7, a8⟩ | ⟨a1, ea, ta, a, b, a2, a3, a4, a5, h⟩ | ⟨a1, a2, a3, v, E, T, M, G, b1, b2, b3, b4, b5, b6, b7⟩ | ⟨a1, a2, v, E, T, M, X, N, b1, b2, b3, b4, b5, b6, b7, b8, b9⟩ | ⟨a1, a2, a3, ea, ta, ma, a, b, b1, b2, b3, b4, b5, b6, b7, b8⟩
      · exact Or.inl h
      · exact Or.inr (Or.inl ⟨a1, a2, n', a3, d1 a4⟩)
      · exact Or.inr (Or.inr (Or.inl ⟨a1, a2, K, o, a, n', a3, a4, a5, a6, by
        by_cases e : K = 62
        · rw [if_pos e] at a7 ⊢; exact d1 a7
        · rw [if_neg e] at a7 ⊢; exact d0 a7⟩))
      · exact Or.inr (Or.inr (Or.inr (Or.inl ⟨a1, a2, a3, X, n', a4, a5, a6, a7, d0 a8⟩)))
      · refine Or.inr (Or.inr (Or.inr (Or.inr (Or.inl ⟨a1, ea, ta, a, b, a2, a3, a4, d0 a5, ?_⟩))))
        rcases h with ⟨b1, b2, b3⟩ | ⟨b1, x, o, b2, b3, b4, b5⟩ | ⟨b1, x, o, b2, b3, b4, b5, b6⟩
        · exact Or.inl ⟨b1, b2, d1 b3⟩
        · exact Or.inr (Or.inl ⟨b1, x, o, b2, b3, b4, ih _ _ _ _ _ _ _ _ _ _ _ (by omega) b5⟩)
        · exact Or.inr (Or.inr ⟨b1, x, o, b2, b3, b4, b5, ih _ _ _ _ _ _ _ _ _ _ _ (by omega) b6⟩)
      · exact Or.inr (Or.inr (Or.inr (Or.inr (Or.inr (Or.inl ⟨a1, a2, a3, v, E, T, M, G, b1, b2, b3, b4, b5, b6, fun j hj => d1 (b7 j hj)⟩)))))
      · exact Or.inr (Or.inr (Or.inr (Or.inr (Or.inr (Or.inr (Or.inl ⟨a1, a2, v, E, T, M, X, N, b1, b2, b3, b4, b5, b6, b7, b8, fun j hj => ⟨(b9 j hj).1, (b9 j hj).2.1, (b9 j hj).2.2.1, (b9 j hj).2.2.2.1, (b9 j hj).2.2.2.2.1, (b9 j hj).2.2.2.2.2.1, d1 (b9 j hj).2.2.2.2.2.2⟩⟩))))))
      · exact Or.inr (Or.inr (Or.inr (Or.inr (Or.inr (Or.inr (Or.inr ⟨a1, a2, a3, ea, ta, ma, a, b, b1, b2, b3, b4, b5, b6, d1 b7, d1 b8⟩))))))
    · refine Or.inr (Or.inl ⟨⟨hfl, by omega⟩, ht, mE, g1, g2, g3, ?_⟩)
      rcases h with h | ⟨a1, a2, a3, a4, n', a5, a6⟩ | ⟨a1, a2, X, n', a3, a4, a5, a6, a7, a8, a9⟩ | ⟨a1, a2, v, E, T, M, X, N, b1, b2, b3, b4, b5, b6, b7, b8⟩ | ⟨K, Cc, a1, a2, a3, a4, v, E, T, M, G, W, b1, b2, b3, b4, b5, b6, b7, b8⟩
      · exact Or.inl h
      · exact Or.inr (Or.inl ⟨a1, a2, a3, a4, n', a5, d1 a6⟩)
      · exact Or.inr (Or.inr (Or.inl ⟨a1, a2, X, n', a3, a4, a5, a6, a7, a8, d1 a9⟩))
      · exact Or.inr (Or.inr (Or.inr (Or.inl ⟨a1, a2, v, E, T, M, X, N, b1, b2, b3, b4, b5, b6, b7, fun j hj => by
          obtain ⟨y1, y2, y3, y4, y5, y6, y7, y8, y9, y10, y11, y12⟩ := b8 j hj
          exact ⟨y1, y2, y3, y4, y5, y6, y7, y8, y9, y10, y11, d1 y12⟩⟩)))
      · exact Or.inr (Or.inr (Or.inr (Or.inr ⟨K, Cc, a1, a2, a3, a4, v, E, T, M, G, W, b1, b2, b3, b4, b5, b6, b7, fun j hj => ⟨(b8 j hj).1, d1 (b8 j hj).2⟩⟩)))
    · exact Or.inr (Or.inr ⟨⟨hfl, by omega⟩, ht, a1, a2, a3, a4, a5, a6, a7, v, E, T, M, G, b1, b2, b3, b4, b5, b6, b7, fun j hj => d0 (b8 j hj)⟩)
theorem XR.low {WN AN TN : Nat → Nat → Prop} {SN : Nat → Nat → Prop} {c r : t_S} {p1 s1 f fl rr rr' e0 e1 t0 t1 m0 m1 n : Nat} {lv : Int32} (h : XR WN AN TN SN c r p1 s1 f fl lv rr e0 e1 t0 t1 m0 m1 n) (le : rr' ≤ rr) : XR WN AN TN SN c r p1 s1 f fl lv rr' e0 e1 t0 t1 m0 m1 n := XR.dn _ _ _ _ _ _ _ _ _ _ _ _ le h
theorem XR.rk {WN AN TN : Nat → Nat → Prop} {SN : Nat → Nat → Prop} {c r : t_S} {p1 s1 f fl rr e0 e1 t0 t1 m0 m1 n : Nat} {lv : Int32} (h : XR WN AN TN SN c r p1 s1 f fl lv rr e0 e1 t0 t1 m0 m1 n) : rr ≤ 360 := by
  cases f with
  | zero => exact h.elim
  | succ f =>
    obtain ⟨_, _, _, _, h⟩ := h
    rcases h with h | h | h
    · exact h.1.2
    · exact h.1.2
    · exact h.1.2
theorem xG.low {P : pc_S} {E : en_S} {fl rx rx' u q m t e p l w o s i dd n : Nat} {lv : Int32} {c r c' r' : t_S} (h : xG P E fl lv rx u q m t e p l w o s i dd c r n c' r') (le : rx' ≤ rx) : xG P E fl lv rx' u q m t e p l w o s i dd c r n c' r' := by
  obtain ⟨u', q', m', t', e', p', l', s', i', k1, k2, X, k4, k5, k6, k7⟩ := h
  exact ⟨u', q', m', t', e', p', l', s', i', k1, k2, X, k4, k5, k6.low le, k7⟩
/-- a tree stays, whatever is written outside of it -/
theorem XR.own {E : en_S} {c r c' r' : t_S} {p1 s1 p2 s2 f f2 fl rr e0 e1 t0 t1 m0 m1 n l l' la lb : Nat} {lv : Int32} {Wc Wr : Nat → Nat → Prop} (h : XR (wn_R E c r l l') (an_R E c r l l') (tn_R E c r l l') (sn_R c) c r p1 s1 f fl lv rr e0 e1 t0 t1 m0 m1 n) (fc : l2_fr Wc c c') (fr : l2_fr Wr r r') (hp : p1 ≤ p2) (hs : s1 ≤ s2) (hf : f ≤ f2) (hl : la ≤ l ∧ l' ≤ lb) (w1 : ∀ b j, Wc b j → ¬ ((b = 335 ∨ b = 336) ∧ e0 ≤ j ∧ j < e1) ∧ ¬ (354 ≤ b ∧ b ≤ 362 ∧ t0 ≤ j ∧ j < t1 ∧ (b = 356 → j ≠ t0)) ∧ ¬ (b = 337 ∧ j < p1) ∧ ¬ (848 ≤ b ∧ b ≤ 852 ∧ j < l')) (w2 : ∀ b j, Wr b j → ¬ (955 ≤ b ∧ b ≤ 961 ∧ m0 ≤ j ∧ j < m1 ∧ (b = 960 → j ≠ n)) ∧ ¬ (b = 963 ∧ j < s1)) : XR (wn_R E c' r' la lb) (an_R E c' r' la lb) (tn_R E c' r' la lb) (sn_R c') c' r' p2 s2 f2 fl lv rr e0 e1 t0 t1 m0 m1 n := by
  have hc : xD_c c c' l' := fun b e y1 y2 y3 => (fc b e (fun y => (w1 b e y).2.2.2 ⟨y1, y2, y3⟩)).1
  have aR : ∀ b j, 955 ≤ b → b ≤ 961 → m0 ≤ j → j < m1 → (b = 960 → j ≠ n) → r'.1 b j = r.1 b j ∧ r'.2.1 b j = r.2.1 b j := fun b j y1 y2 y3 y4 y5 => ⟨(fr b j (fun y => (w2 b j y).1 ⟨y1, y2, y3, y4, y5⟩)).1, (fr b j (fun y => (w2 b j y).1 ⟨y1, y2, y3, y4, y5⟩)).2.1⟩
  have aC : ∀ b j, 354 ≤ b → b ≤ 362 → t0 ≤ j → j < t1 → (b = 356 → j ≠ t0) → c'.1 b j = c.1 b j ∧ c'.2.1 b j = c.2.1 b j := fun b j y1 y2 y3 y4 y5 => ⟨(fc b j (fun y => (w1 b j y).2.1 ⟨y1, y2, y3, y4, y5⟩)).1, (fc b j (fun y => (w1 b j y).2.1 ⟨y1, y2, y3, y4, y5⟩)).2.1⟩
  have aO : ∀ b j, b = 335 ∨ b = 336 → e0 ≤ j → j < e1 → c'.1 b j = c.1 b j := fun b j y1 y2 y3 => (fc b j (fun y => (w1 b j y).1 ⟨y1, y2, y3⟩)).1
  refine XR.ax hp hs _ _ _ _ _ _ _ _ _ _ _ h ⟨fun j y1 y2 => ⟨aO 335 j (Or.inl rfl) y1 y2, aO 336 j (Or.inr rfl) y1 y2⟩, fun b j y1 y2 y3 y4 y5 => (aC b j y1 (by omega) y3 y4 y5).1, fun j y1 y2 _ => ⟨(aC 361 j (by decide) (by decide) y1 y2 (by omega)).2, (aC 362 j (by decide) (by decide) y1 y2 (by omega)).2⟩, fun j y => (fc 337 j (fun z => (w1 337 j z).2.2.1 ⟨rfl, y⟩)).2.1, aR, fun j y => (fr 963 j (fun z => (w2 963 j z).2 ⟨rfl, y⟩)).1⟩ (fun a k y1 y2 y3 y4 g => ?_) (fun a k y1 y2 y3 y4 g => ?_) (fun a k y1 y2 y3 y4 g => ?_) (fun a _ y1 y2 _ _ g => ?_) f2 hf
  · exact g.fr ⟨aO 335 a (Or.inl rfl) y1 y2, aO 336 a (Or.inr rfl) y1 y2⟩ hc (aR 956 k (by decide) (by decide) y3 y4 (by omega)).1 (aR 957 k (by decide) (by decide) y3 y4 (by omega)).2 (aR 958 k (by decide) (by decide) y3 y4 (by omega)).2 (aR 961 k (by decide) (by decide) y3 y4 (by omega)).1 hl.1 hl.2
  · exact g.fr hc (aR 957 k (by decide) (by decide) y3 y4 (by omega)).2 (aR 958 k (by decide) (by decide) y3 y4 (by omega)).2 (aR 961 k (by decide) (by decide) y3 y4 (by omega)).1 hl.1 hl.2
  · exact g.fr (aC 354 a (by decide) (by decide) y1 y2 (by omega)).1 (aC 357 a (by decide) (by decide) y1 y2 (by omega)).1 hc (aR 956 k (by decide) (by decide) y3 y4 (by omega)).1 (aR 957 k (by decide) (by decide) y3 y4 (by omega)).2 hl.1 hl.2
  · exact ⟨(aC 354 a (by decide) (by decide) y1 y2 (by omega)).1.trans g.1, (aC 362 a (by decide) (by decide) y1 y2 (by omega)).2.trans g.2⟩
theorem pj.s1 {P : pc_S} {u d z q m : Nat} {c r : t_S} (h : pj P u d z q m c r) (hz : z ≤ 1) : ∀ x : Nat, (33 ≤ x ∧ x ≤ 125) → c.1 1 8 = nI x → c.1 1 8 ≠ 1 ∧ c.1 1 8 ≠ 4 := fun x hx e => by
  rw [e]
  exact ⟨fun y => by have := (nI_eq (b := 1) (by omega) (by decide)).mp y; omega, fun y => by have := (nI_eq (b := 4) (by omega) (by decide)).mp y; omega⟩
section
variable {P : pc_S} {E : en_S} {lv : Int32} {EB PB IB u q m t e p l w o s i dd : Nat} {c r : t_S} {rc rc2 rc3 : RT_X6_readBase} {rR : RT_X13_base}
/-- the bounds hold behind the first tokens of a tone -/
theorem sG.bnd {K v : Nat} {c2 r2 c3 r3 : t_S} (hb : xb P EB PB IB u q t e p l w o s i dd) (S : sG P E lv K u q m t e p l w o s i dd c r c2 r2) (hv : u < v) (J : pj P v 0 0 (q + 1) (m + 1) c3 r3) : xb P EB PB IB v (q + 1) (t + 1) e p l w o s (i + 1) dd := by
  have pm := J.pmono (v - u) u (by omega) (by omega)
  have cm := pc_c_mono P u v (by omega)
  obtain ⟨h1, h2, h3, h4, h5, h6, h7, h8, h9, h10, h11, h12⟩ := hb
  refine ⟨by omega, by omega, h3, by omega, h5, by omega, by omega, h8, h9, by omega, by omega, h12⟩
end
