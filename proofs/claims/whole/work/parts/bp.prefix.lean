/-! Level 2: ahead of a base on both sides: - ! size @ NAME -/
/-- one of them: it waits at w in the class, it is node n of the reference -/
def pr_1 (c r : t_S) (w n K a : Nat) : Prop := ((64 ≤ K ∧ K ≤ 66 ∧ a = 0) ∨ (K = 67 ∧ 66 ≤ a ∧ a < 8000 ∧ r.2.1 957 n = lN (a - 66))) ∧ r.1 955 n = nI K ∧ c.1 854 (2 * w) = nI (K - 54) ∧ c.1 854 (2 * w + 1) = nI a
/-- v of them are read -/
def pr_H (P : pc_S) (E : en_S) (u q m t e p l w o s i dd : Nat) (c0 r0 : t_S) (v : Nat) (K A : Nat → Nat) (u1 : Nat) (c r : t_S) : Prop := xp P E u1 0 0 (q + v) (m + v) t e p l (w + v) o s i dd c r ∧ u ≤ u1 ∧ pc_p P u + v ≤ pc_p P u1 ∧ pc_c P u ≤ pc_c P u1 ∧ l2_fr (xWc t e p l w o) c0 c ∧ l2_fr (xWr m s) r0 r ∧ xD E c0 c r l l i i m (m + v) ∧ ∀ j, j < v → pr_1 c r (w + j) (m + j) (K j) (A j) ∧ r.1 959 (m + j) = (if j + 1 < v then nI (m + j + 1) else -1) ∧ r.1 960 (m + j) = -1
theorem pr_1.fr {c r c' r' : t_S} {w n K a : Nat} {Wc Wr : Nat → Nat → Prop} (h : pr_1 c r w n K a) (fc : l2_fr Wc c c') (fr : l2_fr Wr r r') (w1 : ¬ Wc 854 (2 * w) ∧ ¬ Wc 854 (2 * w + 1)) (w2 : ¬ Wr 955 n ∧ ¬ Wr 957 n) : pr_1 c' r' w n K a := by
  obtain ⟨h1, h2, h3, h4⟩ := h
  refine ⟨?_, by rw [(fr 955 n w2.1).1]; exact h2, by rw [(fc 854 _ w1.1).1]; exact h3, by rw [(fc 854 _ w1.2).1]; exact h4⟩
  rw [(fr 957 n w2.2).2.1]
  exact h1
section
variable {P : pc_S} {E : en_S} {xd : Int32} {EB PB IB u q m t e p l w o s i dd v u1 : Nat} {K A : Nat → Nat} {c0 r0 c r : t_S} {rc : RT_X6_readBase} {rR : RT_X13_base}
theorem xF.push {f p0 w' : Nat} (h : xF f p0 t e p l w o w' c0 c) (hw : w' ≤ 3000) (x y : Int32) (h1 : x ≠ 16 ∧ x ≠ 17) : t_hk (f_X6_pushWaiting x y c) (xF f p0 t e p l w o (w' + 1) c0) := by
  obtain ⟨h1', h2, h3, h4, h5, h6, h7, h8⟩ := h
  refine l2_imp (pw_push x y h5 hw) (fun c' hc => ?_)
  obtain ⟨g, g1, g2, g3⟩ := hc
  refine ⟨h1'.fr g (fun j _ _ => by omega), h2.trans (g.mono (fun b j y => ?_)), ?_, ?_, g1, by omega, by omega, fun i a b d => ?_⟩
  · rcases y with ⟨rfl, rfl⟩ | ⟨rfl, y⟩
    · exact xWc.i845 (by decide)
    · exact xWc.iwt (by omega)
  · obtain ⟨e', a, b, d⟩ := h3
    exact ⟨e', a, b, by rw [(g 334 2 (by omega)).1]; exact d⟩
  · obtain ⟨o', a, b, d⟩ := h4
    exact ⟨o', a, b, by rw [(g 845 9 (by omega)).1]; exact d⟩
  · by_cases z : i = w'
    · subst z
      rw [g2] at d
      exact absurd d (fun q => q.elim h1.1 h1.2)
    · rw [(g 854 _ (by omega)).1] at d ⊢
      exact h8 i a (by omega) d
theorem xF.one65 {f p0 w' : Nat} (h : xF f p0 t e p l w o w' c0 c) (hw : w' ≤ 3000) (a b d l4 : Int32) : t_hk (k_X6_readOne_65 rc a b d l4 c) (fun z => ∃ c', z = .inl (a, b, d + 1, c') ∧ xF f p0 t e p l w o (w' + 1) c0 c') := by
  have fin : ∀ x y c1, xF f p0 t e p l w o w' c0 c1 → x ≠ 16 ∧ x ≠ 17 → t_hk ((f_X6_pushWaiting x y c1).bind (fun r7 => k_X6_readOne_138 rc a b d r7)) (fun z => ∃ c', z = .inl (a, b, d + 1, c') ∧ xF f p0 t e p l w o (w' + 1) c0 c') := fun x y c1 h1 hx => l2_bd _ (h1.push hw x y hx) (fun c2 h2 => l2_sm ⟨c2, rfl, h2⟩)
  unfold k_X6_readOne_65
  refine l2_bd _ h.node (fun c1 h1 => l2_eq h1.stay.1 (l2_if (fun _ => fin _ _ _ h1 (by decide)) (fun _ => l2_if (fun _ => fin _ _ _ h1 (by decide)) (fun _ => l2_if (fun _ => fin _ _ _ h1 (by decide)) (fun _ => l2_eq h1.takeName (fin _ _ _ h1 (by decide)))))))
theorem xF.one7b {f p0 w' wb : Nat} (h : xF f p0 t e p l w o w' c0 c) (hb : w ≤ wb) (hw : wb ≤ w') (x k : Int32) : t_hk (k_X6_readOne_7 rc x (nI wb) k c) (fun z => ∃ r, z = .inr r ∧ xF f p0 t e p l w o wb c0 r) := by
  unfold k_X6_readOne_7
  have q := l2_imp (h.one144 (rc := rc) hb hw x) (fun c2 h2 => (⟨c2, rfl, h2⟩ : ∃ r, (Sum.inr c2 : (Int32 × Int32 × Int32 × t_S) ⊕ t_S) = .inr r ∧ xF f p0 t e p l w o wb c0 r))
  exact l2_if (fun _ => l2_mp q) (fun _ => l2_no h.stay.2.2.2.2 (l2_mp q))
/-- where the reference stands -/
def pr_l (m v : Nat) (l1 l2 : Int32) : Prop := (v = 0 ∧ l1 = -1 ∧ l2 = -1) ∨ (0 < v ∧ l1 = nI m ∧ l2 = nI (m + v - 1))
def prI (P : pc_S) (E : en_S) (xd : Int32) (u q m t e p l w o s i dd : Nat) (c0 r0 : t_S) (k : Nat) (x : Int32 × Int32 × Int32 × t_S) (y : Int32 × Int32 × Int32 × t_S) : Prop := ∃ v c r l1 l2, v ≤ 3001 ∧ k = 3002 - v ∧ x = (xd, nI w, nI v, c) ∧ y = (l1, l2, 1, r) ∧ ((v ≤ 3000 ∧ pr_l m v l1 l2 ∧ ∃ K A u1, pr_H P E u q m t e p l w o s i dd c0 r0 v K A u1 c r) ∨ ((l2 < 0 ∨ ∃ j, m ≤ j ∧ j < 13000 ∧ l2 = nI j) ∧ ∃ w', w ≤ w' ∧ xf P t e p l w o w' m s c0 r0 c r))
/-- one more -/
theorem pr_add {l1 l2 : Int32} {k a u2 : Nat} {Wc Wr : Nat → Nat → Prop} {Q : t_S → Int32 × t_S → Prop} {c2 r2 : t_S} (hb : xb P EB PB IB u q t e p l w o s i dd) (hL : pr_l m v l1 l2) (H : pr_H P E u q m t e p l w o s i dd c0 r0 v K A u1 c r) (X2 : xp P E u2 0 0 (q + v + 1) (m + v + 1) t e p l (w + v) o s i dd c2 r2) (hu : u1 ≤ u2) (hpp : pc_p P u1 + 1 ≤ pc_p P u2) (hcc : pc_c P u1 ≤ pc_c P u2) (fc : l2_fr Wc c c2) (fr : l2_fr Wr r r2) (wc : ∀ b j, Wc b j → xWc t e p l w o b j ∧ b ≠ 854) (wr : ∀ b j, Wr b j → xWr (m + v) s b j) (D : xD E c c2 r2 l l i i (m + v) (m + v + 1)) (h55 : r2.1 955 (m + v) = nI k) (h59 : r2.1 959 (m + v) = -1) (h60 : r2.1 960 (m + v) = -1) (hk : (64 ≤ k ∧ k ≤ 66 ∧ a = 0) ∨ (k = 67 ∧ 66 ≤ a ∧ a < 8000 ∧ r2.2.1 957 (m + v) = lN (a - 66))) : t_h2 ((f_X6_pushWaiting (nI (k - 54)) (nI a) c2).bind (fun r7 => k_X6_readOne_138 rc xd (nI w) (nI v) r7)) (k_X13_single_138 rR l1 l2 1 (nI (m + v)) r2) (h2_nx (b_X6_readOne_7 rc) (b_X13_single_6 rR) (fun x y => ∃ j, j < 3002 - v ∧ prI P E xd u q m t e p l w o s i dd c0 r0 j x y) Q) := by
  obtain ⟨X, h1, h2, h3, F1, F2, D0, hj⟩ := H
  have ple := X2.1.ple
  have ml := (X2.1.mle (by decide)).1
  have hb' := hb
  unfold xb at hb'
  refine h2_bL _ (pw_push (nI (k - 54)) (nI a) X2.2.2.2.2.2.2.1 (by omega)) (fun c3 hc => ?_)
  obtain ⟨g, g1, g2, g3⟩ := hc
  have fc3 : l2_fr (fun b j => Wc b j ∨ (b = 845 ∧ j = 7) ∨ (b = 854 ∧ (j = 2 * (w + v) ∨ j = 2 * (w + v) + 1))) c c3 := (fc.mono (fun b j y => Or.inl y)).trans (g.mono (fun b j y => Or.inr y))
  -- the reference's chain
  have go : ∀ r3, l2_fr (fun b j => b = 959 ∧ 0 < v ∧ j = m + v - 1) r2 r3 → (0 < v → r3.1 959 (m + v - 1) = nI (m + v)) → pr_H P E u q m t e p l w o s i dd c0 r0 (v + 1) (va_up K v k) (va_up A v a) u2 c3 r3 := by
    intro r3 f3 v3
    have fr3 : l2_fr (fun b j => Wr b j ∨ (b = 959 ∧ 0 < v ∧ j = m + v - 1)) r r3 := (fr.mono (fun b j y => Or.inl y)).trans (f3.mono (fun b j y => Or.inr y))
    have nr : ∀ b j, j < m + v → 955 ≤ b → b ≤ 962 ∨ b = 1003 → ¬ Wr b j := fun b j y1 y2 y3 z => by
      have := wr b j z
      unfold xWr at this
      omega
    refine ⟨?_, by omega, by omega, by omega, F1.trans (fc3.mono (fun b j y => ?_)), F2.trans (fr3.mono (fun b j y => ?_)), ?_, fun j y => ?_⟩
    · obtain ⟨x1, x2, x3, x4, x5, x6, x7, x8, x9, x10, x11⟩ := X2
      refine ⟨x1.fr g f3 (fun j => by omega) (fun b i _ _ => by omega) (fun b i _ _ => by omega) (by omega) (fun j _ => by omega) (fun b i _ _ => by omega), x2.fr g f3 (fun j _ _ => by omega) (fun b i _ _ => by omega) ⟨by omega, by omega⟩, ?_, ?_, ?_, ?_, g1, ?_, ?_, ?_, ?_⟩
      · rw [(g 353 9 (by omega)).1]; exact x3
      · rw [(g 334 2 (by omega)).1]; exact x4
      · rw [(g 334 4 (by omega)).1]; exact x5
      · rw [(g 846 6 (by omega)).1]; exact x6
      · rw [(g 845 9 (by omega)).1]; exact x8
      · rw [(f3 950 36 (by omega)).1]; exact x9
      · rw [(f3 950 26 (by omega)).1]; exact x10
      · rw [(f3 950 32 (by omega)).1]; exact x11
    · rcases y with y | ⟨rfl, rfl⟩ | ⟨rfl, y⟩
      · exact (wc b j y).1
      · exact xWc.i845 (by decide)
      · exact xWc.iwt (by omega)
    · rcases y with y | ⟨rfl, _, rfl⟩
      · exact (wr b j y).sub (by omega) (Nat.le_refl _)
      · exact Or.inr (Or.inr (Or.inl ⟨by decide, by decide, by omega⟩))
    · refine (D0.trans D ⟨Nat.le_refl _, Nat.le_refl _⟩ ⟨Nat.le_refl _, Nat.le_refl _⟩ ⟨by omega, by omega⟩ (fun b a y1 y2 y3 => ?_) (fun k y1 y2 => ?_)).own g f3 (fun b j y => by omega) (fun b j y => by omega)
      · exact (fc b a (fun z => by have := (wc b a z).1; unfold xWc at this; omega)).1
      · have q1 : ∀ b, (955 ≤ b ∧ b ≤ 962) ∨ b = 1003 → r2.1 b k = r.1 b k ∧ r2.2.1 b k = r.2.1 b k := fun b z => ⟨(fr b k (nr b k y2 (by omega) (by omega))).1, (fr b k (nr b k y2 (by omega) (by omega))).2.1⟩
        exact ⟨(q1 955 (by decide)).1, (q1 956 (by decide)).1, (q1 962 (by decide)).1, (q1 1003 (by decide)).1, (q1 957 (by decide)).2, (q1 958 (by decide)).2, fun _ => (q1 961 (by decide)).1⟩
    · by_cases z : j = v
      · subst z
        rw [mj_up_eq, mj_up_eq, if_neg (by omega)]
        refine ⟨⟨?_, ?_, g2, g3⟩, ?_, ?_⟩
        · rw [(f3 957 _ (by omega)).2.1]; exact hk
        · rw [(f3 955 _ (by omega)).1]; exact h55
        · rw [(f3 959 _ (by omega)).1]; exact h59
        · rw [(f3 960 _ (by omega)).1]; exact h60
      · obtain ⟨b1, b2, b3⟩ := hj j (by omega)
        rw [mj_up_ne _ _ z, mj_up_ne _ _ z, if_pos (by omega)]
        refine ⟨b1.fr fc3 fr3 ⟨?_, ?_⟩ ⟨?_, ?_⟩, ?_, ?_⟩
        · rintro (y | y | y)
          · exact (wc _ _ y).2 rfl
          · omega
          · omega
        · rintro (y | y | y)
          · exact (wc _ _ y).2 rfl
          · omega
          · omega
        · rintro (y | y)
          · exact nr 955 (m + j) (by omega) (by decide) (by decide) y
          · omega
        · rintro (y | y)
          · exact nr 957 (m + j) (by omega) (by decide) (by decide) y
          · omega
        · by_cases z2 : j = v - 1
          · subst z2
            rw [show m + (v - 1) = m + v - 1 by omega, v3 (by omega), show m + v - 1 + 1 = m + v by omega]
          · rw [(f3 959 _ (by omega)).1, (fr 959 _ (nr 959 (m + j) (by omega) (by decide) (by decide))).1, b2, if_pos (by omega)]
        · rw [(f3 960 _ (by omega)).1, (fr 960 _ (nr 960 (m + j) (by omega) (by decide) (by decide))).1]; exact b3
  unfold k_X13_single_138 k_X6_readOne_138
  have nv : nI v + 1 = nI (v + 1) := by rw [nI_succ]
  have put : ∀ l1' r3, pr_l m (v + 1) l1' (nI (m + v)) → l2_fr (fun b j => b = 959 ∧ 0 < v ∧ j = m + v - 1) r2 r3 → (0 < v → r3.1 959 (m + v - 1) = nI (m + v)) → h2_nx (b_X6_readOne_7 rc) (b_X13_single_6 rR) (fun x y => ∃ j, j < 3002 - v ∧ prI P E xd u q m t e p l w o s i dd c0 r0 j x y) Q (.inl (xd, nI w, nI v + 1, c3)) (.inl (l1', nI (m + v), 1, r3)) := fun l1' r3 z1 z2 z3 => ⟨3002 - (v + 1), by omega, v + 1, c3, r3, l1', nI (m + v), by omega, rfl, by rw [nv], rfl, Or.inl ⟨by omega, z1, _, _, u2, go r3 z2 z3⟩⟩
  rcases hL with ⟨v0, rfl, rfl⟩ | ⟨v0, rfl, rfl⟩
  · refine h2_ckR ch_m1 ?_
    unfold k_X13_single_150 k_X13_single_160
    refine h2_noR (by decide) (h2_sm (put (nI (m + v)) r2 (Or.inr ⟨by omega, by rw [v0]; rfl, by rw [show m + (v + 1) - 1 = m + v by omega]⟩) l2_fr.rf (fun z => by omega)))
  · refine h2_noR (nI_pos (by omega)) (h2_ckR (l2_ix (by omega) (by decide)) (h2_lR ?_))
    rw [nI_clamp (n := m + v - 1) (by omega)]
    unfold k_X13_single_150 k_X13_single_160
    refine h2_ckR (nI_pos' (by omega)) (h2_sm (put (nI m) _ (Or.inr ⟨by omega, rfl, by rw [show m + (v + 1) - 1 = m + v by omega]⟩) (l2_fr.set ⟨rfl, v0, rfl⟩) (fun _ => by simp only [l2_gI, reduceIte])))
end
