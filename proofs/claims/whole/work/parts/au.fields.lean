/-! Level 2: records of templs on both sides: one more field. -/
/-- a field: the class's node t, the reference's node m, its templ behind them -/
def fd_1 (E : en_S) (c r : t_S) (l l' p s f : Nat) (lv : Int32) (rr e e' t t' m m' X N : Nat) : Prop := X < 7934 ∧ t < t' ∧ m < m' ∧ c.1 354 t = 19 ∧ c.1 357 t = nI (66 + X) ∧ c.1 358 t = -1000 ∧ c.1 355 t = nI (t + 1) ∧ r.1 955 m = 40 ∧ r.2.1 957 m = lN X ∧ r.1 959 m = nI N ∧ r.1 960 N = -1 ∧ XR (wn_R E c r l l') (an_R E c r l l') (tn_R E c r l l') (sn_R c) c r p s f 1 (lv + 1) rr e e' (t + 1) t' (m + 1) m' N
/-- v fields read -/
def fd_H (P : pc_S) (E : en_S) (lv : Int32) (t0 m0 m t e p l w o s i dd : Nat) (c0 r0 : t_S) (v : Nat) (T M X : Nat → Nat) (u' q' m' t' e' p' l' s' i' : Nat) (c r : t_S) : Prop := xp P E u' 0 0 q' m' t' e' p' l' w o s' i' dd c r ∧ m ≤ m' ∧ l2_fr (rwc t0 t e p l w o) c0 c ∧ l2_fr (rwr m0 m s) r0 r ∧ px_B v t t' T ∧ px_B v m m' M ∧ tc_R c t0 v T ∧ ch_R r m0 v M ∧ (∀ i j, i < j → j < v → X i ≠ X j) ∧ xD E c0 c r l l' i i' m m' ∧ ∃ Ee N : Nat → Nat, px_B v e e' Ee ∧ ∀ j, j < v → fd_1 E c r l l' p' s' (m' - m) lv (20 * dd + 15) (Ee j) (Ee (j + 1)) (T j) (T (j + 1)) (M j) (M (j + 1)) (X j) (N j)
theorem fd_1.own {E : en_S} {c r c' r' : t_S} {l l' la lb p s p2 s2 f f2 rr e e' t t' m m' X N : Nat} {lv : Int32} {Wc Wr : Nat → Nat → Prop} (h : fd_1 E c r l l' p s f lv rr e e' t t' m m' X N) (fc : l2_fr Wc c c') (fr : l2_fr Wr r r') (hp : p ≤ p2) (hs : s ≤ s2) (hf : f ≤ f2) (hl : la ≤ l ∧ l' ≤ lb) (w1 : ∀ b j, Wc b j → ¬ ((b = 335 ∨ b = 336) ∧ e ≤ j ∧ j < e') ∧ ¬ (354 ≤ b ∧ b ≤ 362 ∧ t ≤ j ∧ j < t' ∧ (b = 356 → j ≠ t)) ∧ ¬ (b = 337 ∧ j < p) ∧ ¬ (848 ≤ b ∧ b ≤ 852 ∧ j < l')) (w2 : ∀ b j, Wr b j → ¬ (955 ≤ b ∧ b ≤ 961 ∧ m ≤ j ∧ j < m' ∧ (b = 960 → j ≠ m)) ∧ ¬ (b = 963 ∧ j < s)) : fd_1 E c' r' la lb p2 s2 f2 lv rr e e' t t' m m' X N := by
  obtain ⟨h1, h2, h3, h4, h5, h6, h7, h8, h9, h10, h12, h11⟩ := h
  have aC : ∀ b, b = 354 ∨ b = 355 ∨ b = 357 ∨ b = 358 → c'.1 b t = c.1 b t := fun b y => (fc b t (fun z => (w1 b t z).2.1 ⟨by omega, by omega, Nat.le_refl _, h2, fun q => by omega⟩)).1
  have aR : ∀ b, b = 955 ∨ b = 957 ∨ b = 959 → r'.1 b m = r.1 b m ∧ r'.2.1 b m = r.2.1 b m := fun b y => by
    have q := fr b m (fun z => (w2 b m z).1 ⟨by omega, by omega, Nat.le_refl _, h3, fun q => by omega⟩)
    exact ⟨q.1, q.2.1⟩
  obtain ⟨n1, n2, n3, n4⟩ := h11.at
  refine ⟨h1, h2, h3, by rw [aC 354 (by decide)]; exact h4, by rw [aC 357 (by decide)]; exact h5, by rw [aC 358 (by decide)]; exact h6, by rw [aC 355 (by decide)]; exact h7, by rw [(aR 955 (by decide)).1]; exact h8, by rw [(aR 957 (by decide)).2]; exact h9, by rw [(aR 959 (by decide)).1]; exact h10, by rw [(fr 960 N (fun z => (w2 960 N z).1 ⟨by decide, by decide, by omega, n4, fun q => by omega⟩)).1]; exact h12, h11.own fc fr hp hs hf hl (fun b j y => ?_) (fun b j y => ?_)⟩
  · have z := w1 b j y
    refine ⟨z.1, fun q => z.2.1 ⟨q.1, q.2.1, by omega, q.2.2.2.1, fun _ => by omega⟩, z.2.2.1, z.2.2.2⟩
  · have z := w2 b j y
    exact ⟨fun q => z.1 ⟨q.1, q.2.1, by omega, q.2.2.2.1, fun _ => by omega⟩, z.2⟩
