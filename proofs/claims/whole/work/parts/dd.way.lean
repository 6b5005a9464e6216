/-! Level 2: an assignment: the steps to a part, what is known of them. -/
theorem va_self {α : Type} (f : Nat → α) (k : Nat) : va_up f k (f k) = f := funext (fun j => by
  rw [l2_upif]
  by_cases h : j = k
  · rw [if_pos h, h]
  · rw [if_neg h])
/-- an exp, its nodes from ma on, below mb -/
def xe_B (n2 n3 : Nat) (E : en_S) (c r : t_S) (t e p l s ma mb lo hi t0 n : Nat) : Prop := mE n2 n3 r E ∧ lo ≤ hi ∧ hi ≤ e ∧ ∃ t1 l0 l1 m0 m1 p1 s1 f : Nat, (t1 ≤ t ∧ p1 ≤ p ∧ l1 ≤ l ∧ s1 ≤ s ∧ ma ≤ m0 ∧ m1 ≤ mb) ∧ XR (wn_R E c r l0 l1) (an_R E c r l0 l1) (tn_R E c r l0 l1) (sn_R c) c r p1 s1 f 0 0 15 lo hi t0 t1 m0 m1 n
/-- one step to a part, at node g -/
def wp_R (n2 n3 : Nat) (E : en_S) (c r : t_S) (t e p l s g lo hi mb : Nat) : Prop := (r.1 955 g = 68 ∧ hi = lo + 1 ∧ hi ≤ e ∧ ∃ X, X < 7934 ∧ r.2.1 957 g = lN X ∧ px_o c lo 37 (nI (66 + X))) ∨ (r.1 955 g = 69 ∧ ∃ b h t0, r.1 959 g = nI b ∧ hi = h + 1 ∧ hi ≤ e ∧ xe_B n2 n3 E c r t e p l s (g + 1) mb lo h t0 b ∧ px_o c h 38 0)
def wv_R (n2 n3 : Nat) (E : en_S) (c r : t_S) (k : Nat → Nat) (w lo v : Nat) (EE G : Nat → Nat) : Prop := w < k 2 ∧ (r.1 955 w = 58 ∧ r.2.1 958 w = 0 ∧ r.1 961 w = 0) ∧ ch_R r w v G ∧ EE 0 = lo ∧ EE v = k 4 ∧ G v = k 2 ∧ lo ≤ k 4 ∧ ∀ j, j < v → w < G j ∧ G j < G (j + 1) ∧ G (j + 1) ≤ k 2 ∧ EE j < EE (j + 1) ∧ EE (j + 1) ≤ k 4 ∧ wp_R n2 n3 E c r (k 3) (k 4) (k 5) (k 6) (k 7) (G j) (EE j) (EE (j + 1)) (G (j + 1))
section
variable {n2 n3 a2 a3 : Nat} {E : en_S} {c r c' r' : t_S} {t e p l s m t2 e2 p2 l2 s2 m2 : Nat} {Wc Wr : Nat → Nat → Prop}
theorem xe_B.fr {ma mb mb2 lo hi t0 n : Nat} (h : xe_B n2 n3 E c r t e p l s ma mb lo hi t0 n) (fc : l2_fr Wc c c') (fr : l2_fr Wr r r') (w1 : cp_c Wc t e p l) (w2 : ∀ b j, Wr b j → ¬ (955 ≤ b ∧ b ≤ 961 ∧ ma ≤ j ∧ j < mb) ∧ ¬ (b = 963 ∧ j < s)) (hk : mK n2 n3 r r') (h2 : n2 ≤ a2) (h3 : n3 ≤ a3) (o : t ≤ t2 ∧ e ≤ e2 ∧ p ≤ p2 ∧ l ≤ l2 ∧ s ≤ s2 ∧ mb ≤ mb2) : xe_B a2 a3 E c' r' t2 e2 p2 l2 s2 ma mb2 lo hi t0 n := by
  obtain ⟨x1, x2, x3, t1, l0, l1, m0, m1, p1, s1, f, ⟨y1, y2, y3, y4, y5, y6⟩, x5⟩ := h
  refine ⟨x1.mono hk h2 h3, x2, by omega, t1, l0, l1, m0, m1, p1, s1, f, ⟨by omega, by omega, by omega, by omega, y5, by omega⟩, x5.own fc fr (Nat.le_refl _) (Nat.le_refl _) (Nat.le_refl _) ⟨Nat.le_refl _, Nat.le_refl _⟩ (fun b j y => ?_) (fun b j y => ?_)⟩
  · obtain ⟨a1, a2, a3, a4⟩ := w1 b j y
    exact ⟨fun z => a1 ⟨z.1, by omega⟩, fun z => a2 ⟨z.1, z.2.1, by omega⟩, fun z => a3 ⟨z.1, by omega⟩, fun z => a4 ⟨z.1, by omega, by omega⟩⟩
  · obtain ⟨a1, a2⟩ := w2 b j y
    exact ⟨fun z => a1 ⟨z.1, z.2.1, by omega, by omega⟩, fun z => a2 ⟨z.1, by omega⟩⟩
theorem xe_B.xe {ma mb lo hi t0 n : Nat} (h : xe_B n2 n3 E c r t e p l s ma mb lo hi t0 n) (hm : mb ≤ m) : xe_R n2 n3 E c r t e p l s m 0 0 lo hi t0 n := by
  obtain ⟨x1, x2, x3, t1, l0, l1, m0, m1, p1, s1, f, ⟨y1, y2, y3, y4, y5, y6⟩, x5⟩ := h
  have := x5.at
  exact ⟨x1, x2, x3, by omega, t1, l0, l1, m0, m1, p1, s1, f, ⟨y1, y2, y3, y4, by omega⟩, x5⟩
theorem wp_R.fr {g lo hi mb : Nat} (h : wp_R n2 n3 E c r t e p l s g lo hi mb) (fc : l2_fr Wc c c') (fr : l2_fr Wr r r') (w1 : cp_c Wc t e p l) (w2 : ∀ b j, Wr b j → ¬ (955 ≤ b ∧ b ≤ 961 ∧ g ≤ j ∧ j < mb ∧ ¬ (b = 960 ∧ j = g)) ∧ ¬ (b = 963 ∧ j < s)) (hg : g < mb) (hk : mK n2 n3 r r') (h2 : n2 ≤ a2) (h3 : n3 ≤ a3) (o : t ≤ t2 ∧ e ≤ e2 ∧ p ≤ p2 ∧ l ≤ l2 ∧ s ≤ s2) : wp_R a2 a3 E c' r' t2 e2 p2 l2 s2 g lo hi mb := by
  have rr : ∀ b, 955 ≤ b → b ≤ 959 → r'.1 b g = r.1 b g ∧ r'.2.1 b g = r.2.1 b g := fun b x y => ⟨(fr b g (fun z => (w2 b g z).1 ⟨x, by omega, Nat.le_refl _, hg, by omega⟩)).1, (fr b g (fun z => (w2 b g z).1 ⟨x, by omega, Nat.le_refl _, hg, by omega⟩)).2.1⟩
  have oo : ∀ i x y, i < e → px_o c i x y → px_o c' i x y := fun i x y hi z => ⟨by rw [(fc 335 i (fun y => (w1 _ _ y).1 ⟨Or.inl rfl, hi⟩)).1]; exact z.1, by rw [(fc 336 i (fun y => (w1 _ _ y).1 ⟨Or.inr rfl, hi⟩)).1]; exact z.2⟩
  unfold wp_R
  rw [(rr 955 (by decide) (by decide)).1, (rr 957 (by decide) (by decide)).2, (rr 959 (by decide) (by decide)).1]
  rcases h with ⟨x1, x2, x3, X, x4, x5, x6⟩ | ⟨x1, b, h, t0, x2, x3, x4, x5, x6⟩
  · exact Or.inl ⟨x1, x2, by omega, X, x4, x5, oo _ _ _ (by omega) x6⟩
  · exact Or.inr ⟨x1, b, h, t0, x2, x3, by omega, x5.fr fc fr w1 (fun b j y => ⟨fun z => (w2 b j y).1 ⟨z.1, z.2.1, by omega, z.2.2.2, by omega⟩, (w2 b j y).2⟩) hk h2 h3 ⟨o.1, o.2.1, o.2.2.1, o.2.2.2.1, o.2.2.2.2, Nat.le_refl _⟩, oo _ _ _ (by omega) x6⟩
theorem ch_R.up {n v x : Nat} {G : Nat → Nat} (h : ch_R r n v G) : ch_R r n v (va_up G v x) := by
  refine ⟨?_, fun j hj => ?_⟩
  · rw [h.1]
    by_cases z : 0 < v
    · rw [if_pos z, if_pos z, mj_up_ne _ _ (by omega)]
    · rw [if_neg z, if_neg z]
  · obtain ⟨a1, a2, a3, a4⟩ := h.2 j hj
    rw [mj_up_ne _ _ (show j ≠ v by omega)]
    refine ⟨a1, a2, ?_, fun y => ?_⟩
    · rw [a3]
      by_cases z : j + 1 < v
      · rw [if_pos z, if_pos z, mj_up_ne _ _ (by omega)]
      · rw [if_neg z, if_neg z]
    · rw [mj_up_ne _ _ (show j + 1 ≠ v by omega)]
      exact a4 y
/-- one step more -/
theorem wv_R.add {k k' : Nat → Nat} {w lo v : Nat} {EE G : Nat → Nat} (h : wv_R n2 n3 E c r k w lo v EE G) (fc : l2_fr Wc c c') (fr : l2_fr Wr r r') (w1 : cp_c Wc (k 3) (k 4) (k 5) (k 6)) (w2 : ∀ b j, Wr b j → ¬ (955 ≤ b ∧ b ≤ 961 ∧ j < k 2 ∧ ¬ (b = 959 ∧ j = w) ∧ ¬ (b = 960 ∧ 0 < v ∧ j = G (v - 1))) ∧ ¬ (b = 963 ∧ j < k 7)) (hk : mK n2 n3 r r') (o : k 3 ≤ k' 3 ∧ k 4 ≤ k' 4 ∧ k 5 ≤ k' 5 ∧ k 6 ≤ k' 6 ∧ k 7 ≤ k' 7) (ch : ch_R r' w (v + 1) G) (n5 : k 2 < k' 2) (n4 : k 4 < k' 4) (hp : wp_R n2 n3 E c' r' (k' 3) (k' 4) (k' 5) (k' 6) (k' 7) (k 2) (k 4) (k' 4) (k' 2)) : wv_R n2 n3 E c' r' k' w lo (v + 1) (va_up EE (v + 1) (k' 4)) (va_up G (v + 1) (k' 2)) := by
  obtain ⟨h1, h2, h3, h4, h5, h6, h7, h8⟩ := h
  have e0 : ∀ {f : Nat → Nat} {x : Nat} (j : Nat), j ≤ v → va_up f (v + 1) x j = f j := fun j hj => mj_up_ne _ _ (by omega)
  refine ⟨by omega, ⟨?_, ?_, ?_⟩, ch.up, by rw [e0 0 (Nat.zero_le _)]; exact h4, mj_up_eq _ _ _, mj_up_eq _ _ _, by omega, fun j hj => ?_⟩
  · rw [(fr 955 w (fun y => (w2 _ _ y).1 ⟨by decide, by decide, h1, by omega, by omega⟩)).1]; exact h2.1
  · rw [(fr 958 w (fun y => (w2 _ _ y).1 ⟨by decide, by decide, h1, by omega, by omega⟩)).2.1]; exact h2.2.1
  · rw [(fr 961 w (fun y => (w2 _ _ y).1 ⟨by decide, by decide, h1, by omega, by omega⟩)).1]; exact h2.2.2
  by_cases z : j = v
  · subst z
    rw [e0 j (Nat.le_refl _), e0 j (Nat.le_refl _), mj_up_eq, mj_up_eq, h5, h6]
    exact ⟨by omega, n5, Nat.le_refl _, n4, Nat.le_refl _, hp⟩
  · obtain ⟨y1, y2, y3, y4, y5, y6⟩ := h8 j (by omega)
    rw [e0 j (by omega), e0 j (by omega), e0 (j + 1) (by omega), e0 (j + 1) (by omega)]
    have mono : ∀ i j, i < j → j < v → G i < G j := ch_lt (fun j hj _ => (h8 j hj).2.1)
    refine ⟨y1, y2, by omega, y4, by omega, y6.fr fc fr w1 (fun b i y => ⟨fun q => (w2 b i y).1 ⟨q.1, q.2.1, by omega, by omega, fun a => ?_⟩, (w2 b i y).2⟩) y2 hk (Nat.le_refl _) (Nat.le_refl _) ⟨o.1, o.2.1, o.2.2.1, o.2.2.2.1, o.2.2.2.2⟩⟩
    obtain ⟨a1, a2, a3⟩ := a
    by_cases y : j = v - 1
    · rw [← y] at a3
      omega
    · have := mono j (v - 1) (by omega) (by omega)
      by_cases q2 : j + 1 = v - 1
      · rw [q2] at q
        omega
      · have := mono (j + 1) (v - 1) (by omega) (by omega)
        omega
/-- .. as the steps of a line -/
theorem wv_R.ww {k : Nat → Nat} {w lo v : Nat} {EE G : Nat → Nat} (h : wv_R n2 n3 E c r k w lo v EE G) : ww_R n2 n3 E c r (k 3) (k 4) (k 5) (k 6) (k 7) (k 2) w lo (k 4) := by
  obtain ⟨h1, h2, h3, h4, h5, h6, h7, h8⟩ := h
  refine ⟨v, EE, G, h1, h2.1, h3, h4, h5, Nat.le_refl _, fun j hj => ?_⟩
  obtain ⟨y1, y2, y3, y4, y5, y6⟩ := h8 j hj
  refine ⟨by omega, y4, y5, ?_⟩
  rcases y6 with ⟨x1, x2, x3, x4⟩ | ⟨x1, b, h, t0, x2, x3, x4, x5, x6⟩
  · exact Or.inl ⟨x1, x2, x4⟩
  · exact Or.inr ⟨x1, b, h, t0, x2, x3, x5.xe y3, x6⟩
end
