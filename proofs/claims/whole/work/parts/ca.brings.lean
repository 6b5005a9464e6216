/-! Level 2: what a piece of a module has brought: nodes, links, lines, faults that count if reading meets none. -/
/-- where an exp of a module stands, by what is told of components and functions -/
def mE (n2 n3 : Nat) (r : t_S) : en_S → Prop
  | (hm, cx, td, ba, kn, v) => kn = 2147483647 ∧ ((hm = -1 ∧ cx = 0 ∧ td = 0 ∧ ba = 1 ∧ ∀ X, v X = 0) ∨ (∃ k L cnt, k < n2 ∧ k < 8 ∧ hm = -2 - nI k ∧ cx = 1000 + k ∧ ba = 0 ∧ cnt ≤ 8 ∧ r.1 979 k = nI cnt ∧ td ≤ cnt ∧ (∀ i, i < td → L i < 7934 ∧ r.1 975 (8 * k + i) = nI (L i)) ∧ en_V td 9 L v) ∨ (∃ f L cnt, f < n3 ∧ f < 40 ∧ hm = nI f ∧ cx = 2000 + f ∧ ba = 0 ∧ cnt ≤ 8 ∧ r.1 986 f = nI cnt ∧ td ≤ cnt ∧ (∀ i, i < td → L i < 7934 ∧ r.1 984 (8 * f + i) = nI (L i)) ∧ en_V td 1 L v))
/-- the tables of components and functions have at most grown -/
def mK (n2 n3 : Nat) (r r' : t_S) : Prop := (∀ k, k < n2 → k < 8 → ∀ cnt, cnt ≤ 8 → r.1 979 k = nI cnt → (∃ x, cnt ≤ x ∧ x ≤ 8 ∧ r'.1 979 k = nI x) ∧ ∀ i, i < cnt → r'.1 975 (8 * k + i) = r.1 975 (8 * k + i) ∧ r'.1 976 (8 * k + i) = r.1 976 (8 * k + i) ∧ r'.1 977 (8 * k + i) = r.1 977 (8 * k + i)) ∧ (∀ f, f < n3 → f < 40 → (r'.1 982 f = r.1 982 f ∧ r'.1 983 f = r.1 983 f) ∧ ∀ cnt, cnt ≤ 8 → r.1 986 f = nI cnt → (∃ x, cnt ≤ x ∧ x ≤ 8 ∧ r'.1 986 f = nI x) ∧ ∀ i, i < cnt → r'.1 984 (8 * f + i) = r.1 984 (8 * f + i))
theorem mK.of {n2 n3 : Nat} {r r' : t_S} {W : Nat → Nat → Prop} (h : l2_fr W r r') (w : ∀ b j, (975 ≤ b ∧ b ≤ 977) ∨ b = 979 ∨ (982 ≤ b ∧ b ≤ 986) → ¬ W b j) : mK n2 n3 r r' := by
  have g : ∀ b j, (975 ≤ b ∧ b ≤ 977) ∨ b = 979 ∨ (982 ≤ b ∧ b ≤ 986) → r'.1 b j = r.1 b j := fun b j y => (h b j (w b j y)).1
  exact ⟨fun k _ _ cnt hc e => ⟨⟨cnt, Nat.le_refl _, hc, by rw [g 979 k (by omega)]; exact e⟩, fun i _ => ⟨g _ _ (by omega), g _ _ (by omega), g _ _ (by omega)⟩⟩, fun f _ _ => ⟨⟨g _ _ (by omega), g _ _ (by omega)⟩, fun cnt hc e => ⟨⟨cnt, Nat.le_refl _, hc, by rw [g 986 f (by omega)]; exact e⟩, fun i _ => g _ _ (by omega)⟩⟩⟩
theorem mE.mono {n2 n3 a2 a3 : Nat} {r r' : t_S} {E : en_S} (h : mE n2 n3 r E) (k : mK n2 n3 r r') (h2 : n2 ≤ a2) (h3 : n3 ≤ a3) : mE a2 a3 r' E := by
  obtain ⟨hm, cx, td, ba, kn, v⟩ := E
  obtain ⟨h0, h⟩ := h
  refine ⟨h0, ?_⟩
  rcases h with h | ⟨j, L, cnt, x0, x1, x2, x3, x4, x5, x6, x7, x8, x9⟩ | ⟨f, L, cnt, x0, x1, x2, x3, x4, x5, x6, x7, x8, x9⟩
  · exact Or.inl h
  · obtain ⟨⟨y, y1, y2, y3⟩, y4⟩ := k.1 j x0 x1 cnt x5 x6
    exact Or.inr (Or.inl ⟨j, L, y, by omega, x1, x2, x3, x4, y2, y3, by omega, fun i hi => ⟨(x8 i hi).1, by rw [(y4 i (by omega)).1]; exact (x8 i hi).2⟩, x9⟩)
  · obtain ⟨_, k2⟩ := k.2 f x0 x1
    obtain ⟨⟨y, y1, y2, y3⟩, y4⟩ := k2 cnt x5 x6
    exact Or.inr (Or.inr ⟨f, L, y, by omega, x1, x2, x3, x4, y2, y3, by omega, fun i hi => ⟨(x8 i hi).1, by rw [y4 i (by omega)]; exact (x8 i hi).2⟩, x9⟩)
/-- which links a line may have: its kind, its event, the link's sort, 0: its word, 1: its into -/
def sl_ok (K V so side : Nat) : Prop := (side = 0 ∧ ((so = 1 ∧ K = 1) ∨ (so = 14 ∧ K = 2) ∨ (so = 9 ∧ K = 6) ∨ (so = 11 ∧ K = 15) ∨ (so = 10 ∧ (K = 18 ∨ K = 20 ∧ V = 3)) ∨ (so = 4 ∧ K = 14) ∨ (so = 8 ∧ K = 16) ∨ (so = 5 ∧ (K = 9 ∨ (K = 11 ∨ K = 20) ∧ V = 0)) ∨ (so = 6 ∧ (K = 12 ∨ K = 13 ∨ (K = 11 ∨ K = 20) ∧ V = 1)))) ∨ (side = 1 ∧ ((so = 8 ∧ K = 16) ∨ (so = 14 ∧ (K = 6 ∨ K = 14 ∨ (K = 11 ∨ K = 20) ∧ V = 0))))
/-- a line's event, none: 9 -/
def sl_v (V : Nat) : Int32 := if V = 9 then -1 else nI V
/-- a link of a line -/
def sl_B (c r : t_S) (s e : Nat) : Prop := ∃ K V so side X pl f : Nat, ∃ spot ex : Int32, K < 30 ∧ V < 10 ∧ so < 20 ∧ r.1 988 s = nI K ∧ r.1 1000 s = sl_v V ∧ r.1 1001 s = nI f ∧ f < 40 ∧ X < 7934 ∧ pl ≤ 12000 ∧ sl_ok K V so side ∧ hi_e c e (nI so) X pl (nI f) spot ex ∧ r.1 (991 + 2 * side) s = nI X ∧ r.1 (992 + 2 * side) s = nI pl ∧ ((spot = nI s ∧ so ≠ 1) ∨ (so = 1 ∧ ∃ x : Nat, x < 320 ∧ spot = nI x))
def mN (zT : Prop) (n2 n3 : Nat) (c r : t_S) (l l' st st' k : Nat) : Prop := (∃ K : Nat, (zT ∧ 1 ≤ K) ∧ K ≤ 11 ∧ r.1 955 k = nI K ∧ (K = 8 → ∃ e, l ≤ e ∧ e < l' ∧ ty_en c r e k)) ∨ ((∃ E, mE n2 n3 r E ∧ xD_A E c r l l' k) ∧ ∀ s, st ≤ s → s < st' → r.1 988 s = 2 → r.1 996 s ≠ nI k) ∨ (r.1 955 k = 58 ∧ r.2.1 958 k = 0 ∧ r.1 961 k = 0 ∧ ∃ s, st ≤ s ∧ s < st' ∧ r.1 988 s = 2 ∧ r.1 996 s = nI k)
def mL (n2 n3 : Nat) (c r : t_S) (m m' st st' e : Nat) : Prop := (∃ k, m ≤ k ∧ k < m' ∧ r.1 955 k = 8 ∧ ty_en c r e k) ∨ (∃ E k, mE n2 n3 r E ∧ m ≤ k ∧ k < m' ∧ xD_B E c r e k ∧ ∀ s, st ≤ s → s < st' → r.1 988 s = 2 → r.1 996 s ≠ nI k) ∨ (∃ k i cnt X pl, k < n2 ∧ k < 8 ∧ cnt ≤ 8 ∧ r.1 979 k = nI cnt ∧ i < cnt ∧ X < 7934 ∧ pl ≤ 12000 ∧ hi_e c e 2 X pl (-2 - nI k) (nI (8 * k + i)) 0 ∧ r.1 976 (8 * k + i) = nI X ∧ r.1 977 (8 * k + i) = nI pl) ∨ (∃ f X pl, f < n3 ∧ f < 40 ∧ X < 7934 ∧ pl ≤ 12000 ∧ hi_e c e 3 X pl (nI f) (nI f) 0 ∧ r.1 982 f = nI X ∧ r.1 983 f = nI pl) ∨ (∃ s, st ≤ s ∧ s < st' ∧ sl_B c r s e)
/-- a fault of a node that is told while it is read -/
def lt_M (r : t_S) (k p : Nat) : Prop := p ≤ 12000 ∧ r.2.1 958 k = 0 ∧ r.1 956 k = nI p ∧ ∃ K : Nat, ((55 ≤ K ∧ K ≤ 57) ∨ (61 ≤ K ∧ K ≤ 63)) ∧ r.1 955 k = nI K
def mB (zT : Prop) (n2 n3 : Nat) (c0 c r : t_S) (l l' i i' m m' st st' : Nat) : Prop := (∀ k, m ≤ k → k < m' → mN zT n2 n3 c r l l' st st' k) ∧ (∀ e, l ≤ e → e < l' → mL n2 n3 c r m m' st st' e) ∧ (∀ S, lt_R c0 S → lt_R c (fun p => S p ∨ ∃ k, m ≤ k ∧ k < m' ∧ lt_M r k p)) ∧ (∃ ix : Nat → Nat, ∀ k, m ≤ k → k < m' → tm_k r k → r.1 962 k = nI (ix k) ∧ i ≤ ix k ∧ ix k < i' ∧ ∀ k2, k < k2 → k2 < m' → tm_k r k2 → ix k < ix k2) ∧ (∀ x, x < 7934 → (c.1 7 (66 + x) ≠ 0 ↔ c0.1 7 (66 + x) ≠ 0 ∨ ∃ k, m ≤ k ∧ k < m' ∧ r.1 955 k = 11 ∧ r.2.1 957 k = lN x)) ∧ ∀ s, st ≤ s → s < st' → r.1 988 s = 2 → ∃ k, m ≤ k ∧ k < m' ∧ r.1 996 s = nI k
/-- two states of the reference agree on lines a .. b - 1 -/
def mS_r (r r' : t_S) (a b : Nat) : Prop := ∀ s, a ≤ s → s < b → ∀ x, 988 ≤ x → x ≤ 1002 → x ≠ 989 ∧ x ≠ 998 ∧ x ≠ 999 → r'.1 x s = r.1 x s
def mL_c (c c' : t_S) (l : Nat) : Prop := ∀ b e, 848 ≤ b → b ≤ 853 → e < l → c'.1 b e = c.1 b e
theorem sl_B.fr {c r c' r' : t_S} {s e l a b : Nat} (h : sl_B c r s e) (hc : mL_c c c' l) (he : e < l) (hs : mS_r r r' a b) (h1 : a ≤ s) (h2 : s < b) : sl_B c' r' s e := by
  obtain ⟨K, V, so, side, X, pl, f, spot, ex, x1, x2, x3, x4, x5, x6, x7, x8, x9, x10, x11, x12, x13, x14⟩ := h
  have sd : side = 0 ∨ side = 1 := by
    rcases x10 with y | y
    · exact Or.inl y.1
    · exact Or.inr y.1
  refine ⟨K, V, so, side, X, pl, f, spot, ex, x1, x2, x3, ?_, ?_, ?_, x7, x8, x9, x10, x11.fr (fun b a1 a2 => hc b e a1 a2 he), ?_, ?_, x14⟩
  · rw [hs s h1 h2 988 (by decide) (by decide) (by decide)]; exact x4
  · rw [hs s h1 h2 1000 (by decide) (by decide) (by decide)]; exact x5
  · rw [hs s h1 h2 1001 (by decide) (by decide) (by decide)]; exact x6
  · rw [hs s h1 h2 _ (by omega) (by omega) (by omega)]; exact x12
  · rw [hs s h1 h2 _ (by omega) (by omega) (by omega)]; exact x13
section
variable {zT : Prop} {n2 n3 a2 a3 : Nat} {c0 c1 c2 c r c' r' r1 r2 : t_S} {l l' l1 l2 i i' i1 i2 m m' m1 m2 st st' st1 st2 : Nat}
theorem mL_c.xD (h : mL_c c c' l) : xD_c c c' l := fun b e x y z => h b e x (by omega) z
theorem ty_en.ag {e k : Nat} (h : ty_en c r e k) (hc : mL_c c c' l) (he : e < l) {a b : Nat} (hr : xD_r r r' a b) (h1 : a ≤ k) (h2 : k < b) : ty_en c' r' e k := by
  obtain ⟨q1, q2, q3, q4, q5, q6, q7⟩ := hr k h1 h2
  exact h.fr (fun b x y => hc b e x (by omega) he) q2 q5
theorem mN.fr {k l0 st0 : Nat} (h : mN zT n2 n3 c r l l' st st' k) (hc : mL_c c c' l') (hr : xD_r r r' m m') (hs : mS_r r r' st st') (hk : mK n2 n3 r r') (k1 : m ≤ k) (k2 : k < m') (h2 : n2 ≤ a2) (h3 : n3 ≤ a3) (hl : l0 ≤ l ∧ l' ≤ l2) (hst : st0 ≤ st ∧ st' ≤ st2) (no : ∀ s, st0 ≤ s → s < st2 → ¬ (st ≤ s ∧ s < st') → r'.1 988 s = 2 → r'.1 996 s ≠ nI k) : mN zT a2 a3 c' r' l0 l2 st0 st2 k := by
  obtain ⟨q1, q2, q3, q4, q5, q6, q7⟩ := hr k k1 k2
  rcases h with ⟨K, x1, x2, x3, x4⟩ | ⟨⟨E, x1, x2⟩, x3⟩ | ⟨x1, x2, x3, s, x4, x5, x6, x7⟩
  · refine Or.inl ⟨K, x1, x2, by rw [q1]; exact x3, fun z => ?_⟩
    obtain ⟨e, e1, e2, e3⟩ := x4 z
    exact ⟨e, by omega, by omega, e3.ag hc e2 hr k1 k2⟩
  · refine Or.inr (Or.inl ⟨⟨E, x1.mono hk h2 h3, (x2.fr hc.xD hr k1 k2 hl.2).dn hl.1⟩, fun s s1 s2 s3 s4 => ?_⟩)
    by_cases z : st ≤ s ∧ s < st'
    · rw [hs s z.1 z.2 988 (by decide) (by decide) (by decide)] at s3
      rw [hs s z.1 z.2 996 (by decide) (by decide) (by decide)] at s4
      exact x3 s z.1 z.2 s3 s4
    · exact no s s1 s2 z s3 s4
  · exact Or.inr (Or.inr ⟨by rw [q1]; exact x1, by rw [q6]; exact x2, by rw [q7 (Or.inl x1)]; exact x3, s, by omega, by omega, by rw [hs s x4 x5 988 (by decide) (by decide) (by decide)]; exact x6, by rw [hs s x4 x5 996 (by decide) (by decide) (by decide)]; exact x7⟩)
theorem mL.fr {e m0 st0 : Nat} (h : mL n2 n3 c r m m' st st' e) (hc : mL_c c c' l) (he : e < l) (hr : xD_r r r' m m') (hs : mS_r r r' st st') (hk : mK n2 n3 r r') (h2 : n2 ≤ a2) (h3 : n3 ≤ a3) (hm : m0 ≤ m ∧ m' ≤ m2) (hst : st0 ≤ st ∧ st' ≤ st2) (no : ∀ k, m ≤ k → k < m' → ∀ s, st0 ≤ s → s < st2 → ¬ (st ≤ s ∧ s < st') → r'.1 988 s = 2 → r'.1 996 s ≠ nI k) : mL a2 a3 c' r' m0 m2 st0 st2 e := by
  rcases h with ⟨k, x1, x2, x3, x4⟩ | ⟨E, k, x1, x2, x3, x4, x5⟩ | ⟨k, i, cnt, X, pl, x0, x1, x2, x3, x4, x5, x6, x7, x8, x9⟩ | ⟨f, X, pl, x0, x1, x2, x3, x4, x5, x6⟩ | ⟨s, x1, x2, x3⟩
  · exact Or.inl ⟨k, by omega, by omega, by rw [(hr k x1 x2).1]; exact x3, x4.ag hc he hr x1 x2⟩
  · refine Or.inr (Or.inl ⟨E, k, x1.mono hk h2 h3, by omega, by omega, x4.fr hc.xD he hr x2 x3, fun s s1 s2 s3 s4 => ?_⟩)
    by_cases z : st ≤ s ∧ s < st'
    · rw [hs s z.1 z.2 988 (by decide) (by decide) (by decide)] at s3
      rw [hs s z.1 z.2 996 (by decide) (by decide) (by decide)] at s4
      exact x5 s z.1 z.2 s3 s4
    · exact no k x2 x3 s s1 s2 z s3 s4
  · obtain ⟨⟨y, y1, y2, y3⟩, y4⟩ := hk.1 k x0 x1 cnt x2 x3
    exact Or.inr (Or.inr (Or.inl ⟨k, i, y, X, pl, by omega, x1, y2, y3, by omega, x5, x6, x7.fr (fun b a1 a2 => hc b e a1 a2 he), by rw [(y4 i x4).2.1]; exact x8, by rw [(y4 i x4).2.2]; exact x9⟩))
  · obtain ⟨⟨k1, k2⟩, _⟩ := hk.2 f x0 x1
    exact Or.inr (Or.inr (Or.inr (Or.inl ⟨f, X, pl, by omega, x1, x2, x3, x4.fr (fun b a1 a2 => hc b e a1 a2 he), by rw [k1]; exact x5, by rw [k2]; exact x6⟩)))
  · exact Or.inr (Or.inr (Or.inr (Or.inr ⟨s, by omega, by omega, x3.fr hc he hs x1 x2⟩)))
theorem lt_M.fr {k p a b : Nat} (hr : xD_r r r' a b) (h1 : a ≤ k) (h2 : k < b) : lt_M r' k p ↔ lt_M r k p := by
  obtain ⟨q1, q2, q3, q4, q5, q6, q7⟩ := hr k h1 h2
  unfold lt_M
  rw [q1, q2, q6]
theorem mB.trans (h : mB zT n2 n3 c0 c1 r1 l l1 i i1 m m1 st st1) (g : mB zT a2 a3 c1 c2 r2 l1 l2 i1 i2 m1 m2 st1 st2) (hl : l ≤ l1 ∧ l1 ≤ l2) (hi : i ≤ i1 ∧ i1 ≤ i2) (hm : m ≤ m1 ∧ m1 ≤ m2) (hst : st ≤ st1 ∧ st1 ≤ st2) (hc : mL_c c1 c2 l1) (hr : xD_r r1 r2 m m1) (hs : mS_r r1 r2 st st1) (hk : mK n2 n3 r1 r2) (h2 : n2 ≤ a2) (h3 : n3 ≤ a3) (b13 : m2 ≤ 13000) : mB zT a2 a3 c0 c2 r2 l l2 i i2 m m2 st st2 := by
  obtain ⟨h1', h2', h3', ⟨ix, h4'⟩, h5', h6'⟩ := h
  obtain ⟨g1', g2', g3', ⟨iy, g4'⟩, g5', g6'⟩ := g
  have tk : ∀ k, m ≤ k → k < m1 → (tm_k r2 k ↔ tm_k r1 k) := fun k a b => by
    unfold tm_k
    rw [(hr k a b).1]
  have h6'' : ∀ s, st ≤ s → s < st1 → r2.1 988 s = 2 → ∃ k, m ≤ k ∧ k < m1 ∧ r2.1 996 s = nI k := fun s a b d => by
    rw [hs s a b 988 (by decide) (by decide) (by decide)] at d
    obtain ⟨k, k1, k2, k3⟩ := h6' s a b d
    exact ⟨k, k1, k2, by rw [hs s a b 996 (by decide) (by decide) (by decide)]; exact k3⟩
  refine ⟨fun k a b => ?_, fun e a b => ?_, fun S hS => ?_, ?_, fun x hx => ?_, fun s a b d => ?_⟩
  · by_cases z : k < m1
    · refine (h1' k a z).fr hc hr hs hk a z h2 h3 ⟨Nat.le_refl _, hl.2⟩ ⟨Nat.le_refl _, hst.2⟩ (fun s s1 s2 s3 s4 s5 => ?_)
      obtain ⟨k', y1, y2, y3⟩ := g6' s (by omega) s2 s4
      have := (nI_eq (by omega) (by omega)).mp (y3.symm.trans s5)
      omega
    · refine (g1' k (by omega) b).fr (c' := c2) (m := m1) (m' := m2) (fun _ _ _ _ _ => rfl) (fun _ _ _ => ⟨rfl, rfl, rfl, rfl, rfl, rfl, fun _ => rfl⟩) (fun _ _ _ _ _ _ _ => rfl) (mK.of (l2_fr.rf (W := fun _ _ => False)) (fun _ _ _ y => y)) (by omega) b (Nat.le_refl _) (Nat.le_refl _) ⟨hl.1, Nat.le_refl _⟩ ⟨hst.1, Nat.le_refl _⟩ (fun s s1 s2 s3 s4 s5 => ?_)
      obtain ⟨k', y1, y2, y3⟩ := h6'' s s1 (by omega) s4
      have := (nI_eq (by omega) (by omega)).mp (y3.symm.trans s5)
      omega
  · by_cases z : e < l1
    · refine (h2' e a z).fr hc z hr hs hk h2 h3 ⟨Nat.le_refl _, hm.2⟩ ⟨Nat.le_refl _, hst.2⟩ (fun k k1 k2 s s1 s2 s3 s4 s5 => ?_)
      obtain ⟨k', y1, y2, y3⟩ := g6' s (by omega) s2 s4
      have := (nI_eq (by omega) (by omega)).mp (y3.symm.trans s5)
      omega
    · refine (g2' e (by omega) b).fr (c' := c2) (l := l2) (fun _ _ _ _ _ => rfl) b (fun _ _ _ => ⟨rfl, rfl, rfl, rfl, rfl, rfl, fun _ => rfl⟩) (fun _ _ _ _ _ _ _ => rfl) (mK.of (l2_fr.rf (W := fun _ _ => False)) (fun _ _ _ y => y)) (Nat.le_refl _) (Nat.le_refl _) ⟨hm.1, Nat.le_refl _⟩ ⟨hst.1, Nat.le_refl _⟩ (fun k k1 k2 s s1 s2 s3 s4 s5 => ?_)
      obtain ⟨k', y1, y2, y3⟩ := h6'' s s1 (by omega) s4
      have := (nI_eq (by omega) (by omega)).mp (y3.symm.trans s5)
      omega
  · refine (g3' _ (h3' S hS)).iff (fun x => ⟨fun y => ?_, fun y => ?_⟩)
    · rcases y with (y | ⟨k, k1, k2, k3⟩) | ⟨k, k1, k2, k3⟩
      · exact Or.inl y
      · exact Or.inr ⟨k, k1, by omega, (lt_M.fr hr k1 k2).mpr k3⟩
      · exact Or.inr ⟨k, by omega, k2, k3⟩
    · rcases y with y | ⟨k, k1, k2, k3⟩
      · exact Or.inl (Or.inl y)
      · by_cases z : k < m1
        · exact Or.inl (Or.inr ⟨k, k1, z, (lt_M.fr hr k1 z).mp k3⟩)
        · exact Or.inr ⟨k, by omega, k2, k3⟩
  · obtain ⟨iz, hz1, hz2⟩ : ∃ iz : Nat → Nat, (∀ k, k < m1 → iz k = ix k) ∧ (∀ k, ¬ k < m1 → iz k = iy k) := ⟨fun k => if k < m1 then ix k else iy k, fun k z => if_pos z, fun k z => if_neg z⟩
    refine ⟨iz, fun k a b t => ?_⟩
    by_cases z : k < m1
    · obtain ⟨y1, y2, y3, y4⟩ := h4' k a z ((tk k a z).mp t)
      rw [hz1 k z]
      refine ⟨by rw [(hr k a z).2.2.1]; exact y1, y2, by omega, fun k2 z1 z2 z3 => ?_⟩
      by_cases w : k2 < m1
      · rw [hz1 k2 w]
        exact y4 k2 z1 w ((tk k2 (by omega) w).mp z3)
      · rw [hz2 k2 w]
        have := (g4' k2 (by omega) z2 z3).2.1
        omega
    · obtain ⟨y1, y2, y3, y4⟩ := g4' k (by omega) b t
      rw [hz2 k z]
      refine ⟨y1, by omega, y3, fun k2 z1 z2 z3 => ?_⟩
      rw [hz2 k2 (by omega)]
      exact y4 k2 z1 z2 z3
  · rw [g5' x hx, h5' x hx]
    refine ⟨fun y => ?_, fun y => ?_⟩
    · rcases y with (y | ⟨k, k1, k2, k3, k4⟩) | ⟨k, k1, k2, k3, k4⟩
      · exact Or.inl y
      · exact Or.inr ⟨k, k1, by omega, by rw [(hr k k1 k2).1]; exact k3, by rw [(hr k k1 k2).2.2.2.2.1]; exact k4⟩
      · exact Or.inr ⟨k, by omega, k2, k3, k4⟩
    · rcases y with y | ⟨k, k1, k2, k3, k4⟩
      · exact Or.inl (Or.inl y)
      · by_cases z : k < m1
        · rw [(hr k k1 z).1] at k3
          rw [(hr k k1 z).2.2.2.2.1] at k4
          exact Or.inl (Or.inr ⟨k, k1, z, k3, k4⟩)
        · exact Or.inr ⟨k, by omega, k2, k3, k4⟩
  · by_cases z : s < st1
    · obtain ⟨k, k1, k2, k3⟩ := h6'' s a z d
      exact ⟨k, k1, by omega, k3⟩
    · obtain ⟨k, k1, k2, k3⟩ := g6' s (by omega) b d
      exact ⟨k, by omega, k2, k3⟩
/-- states further on that agree -/
theorem mB.fr (h : mB zT n2 n3 c0 c r l l' i i' m m' st st') (hc : mL_c c c' l') (e7 : c'.1 846 7 = c.1 846 7) (e8 : c'.1 846 8 = c.1 846 8) (hE : ∀ j, c'.1 7 j = c.1 7 j) (hr : xD_r r r' m m') (hs : mS_r r r' st st') (hk : mK n2 n3 r r') (h2 : n2 ≤ a2) (h3 : n3 ≤ a3) : mB zT a2 a3 c0 c' r' l l' i i' m m' st st' := by
  obtain ⟨h1', h2', h3', ⟨ix, h4'⟩, h5', h6'⟩ := h
  refine ⟨fun k a b => (h1' k a b).fr hc hr hs hk a b h2 h3 ⟨Nat.le_refl _, Nat.le_refl _⟩ ⟨Nat.le_refl _, Nat.le_refl _⟩ (fun s s1 s2 s3 => absurd ⟨s1, s2⟩ s3), fun e a b => (h2' e a b).fr hc b hr hs hk h2 h3 ⟨Nat.le_refl _, Nat.le_refl _⟩ ⟨Nat.le_refl _, Nat.le_refl _⟩ (fun k _ _ s s1 s2 s3 => absurd ⟨s1, s2⟩ s3), fun S hS => ?_, ⟨ix, fun k a b t => ?_⟩, fun x hx => ?_, fun s a b d => ?_⟩
  · refine ((h3' S hS).same e7 e8).iff (fun x => ⟨fun y => y.elim Or.inl (fun ⟨k, k1, k2, k3⟩ => Or.inr ⟨k, k1, k2, (lt_M.fr hr k1 k2).mpr k3⟩), fun y => y.elim Or.inl (fun ⟨k, k1, k2, k3⟩ => Or.inr ⟨k, k1, k2, (lt_M.fr hr k1 k2).mp k3⟩)⟩)
  · have tk : ∀ k, m ≤ k → k < m' → (tm_k r' k ↔ tm_k r k) := fun k a b => by
      unfold tm_k
      rw [(hr k a b).1]
    obtain ⟨y1, y2, y3, y4⟩ := h4' k a b ((tk k a b).mp t)
    exact ⟨by rw [(hr k a b).2.2.1]; exact y1, y2, y3, fun k2 z1 z2 z3 => y4 k2 z1 z2 ((tk k2 (by omega) z2).mp z3)⟩
  · rw [hE, h5' x hx]
    refine ⟨fun y => y.elim Or.inl (fun ⟨k, k1, k2, k3, k4⟩ => Or.inr ⟨k, k1, k2, by rw [(hr k k1 k2).1]; exact k3, by rw [(hr k k1 k2).2.2.2.2.1]; exact k4⟩), fun y => y.elim Or.inl (fun ⟨k, k1, k2, k3, k4⟩ => Or.inr ⟨k, k1, k2, ?_, ?_⟩)⟩
    · rw [(hr k k1 k2).1] at k3; exact k3
    · rw [(hr k k1 k2).2.2.2.2.1] at k4; exact k4
  · rw [hs s a b 988 (by decide) (by decide) (by decide)] at d
    obtain ⟨k, k1, k2, k3⟩ := h6' s a b d
    exact ⟨k, k1, k2, by rw [hs s a b 996 (by decide) (by decide) (by decide)]; exact k3⟩
/-- an exp or templ -/
theorem mB.ofX {E : en_S} (h : xD E c0 c r l l' i i' m m') (hE : mE n2 n3 r E) (h7 : ∀ j, c.1 7 j = c0.1 7 j) (st : Nat) : mB zT n2 n3 c0 c r l l' i i' m m' st st := by
  obtain ⟨h1, h2, h3, ix, h4⟩ := h
  have kn : E.2.2.2.2.1 = 2147483647 := hE.1
  have ba : (E.2.2.2.1 = 1 ↔ E.2.1 = 0) ∧ E.2.1 < 4000 := by
    obtain ⟨hm, cx, td, ba, kn, v⟩ := E
    rcases hE.2 with ⟨_, y2, _, y4, _⟩ | ⟨k, L, cnt, y0, y1, y2, y3, y4, _⟩ | ⟨k, L, cnt, y0, y1, y2, y3, y4, _⟩
    · exact ⟨⟨fun _ => y2, fun _ => y4⟩, by show cx < 4000; omega⟩
    · have y3 : cx = 1000 + k := y3
      have y4 : ba = 0 := y4
      exact ⟨⟨fun y => by have y : ba = 1 := y; omega, fun y => by have y : cx = 0 := y; omega⟩, by show cx < 4000; omega⟩
    · have y3 : cx = 2000 + k := y3
      have y4 : ba = 0 := y4
      exact ⟨⟨fun y => by have y : ba = 1 := y; omega, fun y => by have y : cx = 0 := y; omega⟩, by show cx < 4000; omega⟩
  have lt : ∀ k p, m ≤ k → k < m' → (lt_N E r k p ↔ lt_M r k p) := fun k p a b => by
    obtain ⟨K, a1, a2, a3, a4, a5, a6, a7⟩ := h1 k a b
    unfold lt_N lt_M
    refine ⟨fun y => ?_, fun y => ?_⟩
    · rcases y.2 with ⟨z1, z2, K', z3, z4⟩ | ⟨_, K', X, _, _, z3, _, z5⟩
      · have e : K = K' := (nI_eq (by omega) (by omega)).mp (a3.symm.trans z4)
        refine ⟨y.1, ?_, z2, K', z3, z4⟩
        rw [(a6 (by omega)).1, ba.1.mp z1]
        rfl
      · rw [kn] at z5
        omega
    · obtain ⟨y1, y2, y3, K', y4, y5⟩ := y
      have e : K = K' := (nI_eq (by omega) (by omega)).mp (a3.symm.trans y5)
      have z := (a6 (by omega)).1
      rw [y2] at z
      have z0 : E.2.1 = 0 := ((lN_eq (a := 0) (b := E.2.1) (by decide) (by omega)).mp z).symm
      exact ⟨y1, Or.inl ⟨ba.1.mpr z0, y3, K', y4, y5⟩⟩
  refine ⟨fun k a b => Or.inr (Or.inl ⟨⟨E, hE, h1 k a b⟩, fun s s1 s2 => by omega⟩), fun e a b => ?_, fun S hS => (h3 S hS).iff (fun x => ⟨fun y => y.elim Or.inl (fun ⟨k, k1, k2, k3⟩ => Or.inr ⟨k, k1, k2, (lt k x k1 k2).mp k3⟩), fun y => y.elim Or.inl (fun ⟨k, k1, k2, k3⟩ => Or.inr ⟨k, k1, k2, (lt k x k1 k2).mpr k3⟩)⟩), ⟨ix, h4⟩, fun x hx => ?_, fun s s1 s2 => by omega⟩
  · obtain ⟨k, k1, k2, k3⟩ := h2 e a b
    exact Or.inr (Or.inl ⟨E, k, hE, k1, k2, k3, fun s s1 s2 => by omega⟩)
  · rw [h7]
    refine ⟨Or.inl, fun y => y.elim id (fun ⟨k, k1, k2, k3, _⟩ => ?_)⟩
    obtain ⟨K, a1, a2, a3, _⟩ := h1 k k1 k2
    have : K = 11 := (nI_eq (b := 11) (by omega) (by decide)).mp (a3.symm.trans k3)
    omega
/-- a type -/
theorem mB.ofT (h : ty_D c0 c r l l' m m') (e7 : c.1 846 7 = c0.1 846 7) (e8 : c.1 846 8 = c0.1 846 8) (i st : Nat) : mB True n2 n3 c0 c r l l' i i m m' st st := by
  obtain ⟨h1, h2, h3⟩ := h
  refine ⟨fun k a b => Or.inl (by
    obtain ⟨K, a1, a2, a3, a4⟩ := h1 k a b
    exact ⟨K, ⟨trivial, a1⟩, a2, a3, a4⟩), fun e a b => Or.inl (h2 e a b), fun S hS => (hS.same e7 e8).iff (fun x => ⟨Or.inl, fun y => y.elim id (fun ⟨k, k1, k2, k3⟩ => ?_)⟩), ⟨fun _ => 0, fun k a b t => ?_⟩, h3, fun s s1 s2 => by omega⟩
  · obtain ⟨_, _, _, K', y4, y5⟩ := k3
    obtain ⟨K, a1, a2, a3, _⟩ := h1 k k1 k2
    have : K = K' := (nI_eq (by omega) (by omega)).mp (a3.symm.trans y5)
    omega
  · obtain ⟨K', t1, t2, t3⟩ := t
    obtain ⟨K, a1, a2, a3, _⟩ := h1 k a b
    have : K = K' := (nI_eq (by omega) (by omega)).mp (a3.symm.trans t3)
    omega
/-- nothing -/
theorem mB.nil (e7 : c.1 846 7 = c0.1 846 7) (e8 : c.1 846 8 = c0.1 846 8) (hE : ∀ j, c.1 7 j = c0.1 7 j) (l i m st : Nat) : mB zT n2 n3 c0 c r l l i i m m st st := ⟨fun k a b => by omega, fun e a b => by omega, fun S hS => (hS.same e7 e8).iff (fun x => ⟨Or.inl, fun y => y.elim id (fun ⟨k, k1, k2, _⟩ => by omega)⟩), ⟨fun _ => 0, fun k a b => by omega⟩, fun x hx => by
  rw [hE]
  exact ⟨Or.inl, fun y => y.elim id (fun ⟨k, k1, k2, _⟩ => by omega)⟩, fun s s1 s2 => by omega⟩
/-- a link -/
theorem mB.link (h : mL n2 n3 c r m m st st l) (e7 : c.1 846 7 = c0.1 846 7) (e8 : c.1 846 8 = c0.1 846 8) (hE : ∀ j, c.1 7 j = c0.1 7 j) (i : Nat) : mB zT n2 n3 c0 c r l (l + 1) i i m m st st := ⟨fun k a b => by omega, fun e a b => by
  have : e = l := by omega
  rw [this]
  exact h, fun S hS => (hS.same e7 e8).iff (fun x => ⟨Or.inl, fun y => y.elim id (fun ⟨k, k1, k2, _⟩ => by omega)⟩), ⟨fun _ => 0, fun k a b => by omega⟩, fun x hx => by
  rw [hE]
  exact ⟨Or.inl, fun y => y.elim id (fun ⟨k, k1, k2, _⟩ => by omega)⟩, fun s s1 s2 => by omega⟩
theorem mB.weak (h : mB zT n2 n3 c0 c r l l' i i' m m' st st') : mB True n2 n3 c0 c r l l' i i' m m' st st' := ⟨fun k a b => (h.1 k a b).imp (fun ⟨K, a1, a2, a3, a4⟩ => ⟨K, ⟨trivial, a1.2⟩, a2, a3, a4⟩) id, h.2⟩
/-- no types' nodes among them -/
theorem mB.tys (h : mB False n2 n3 c0 c r l l' i i' m m' st st') (b : Nat) : ∀ k, m ≤ k → k < m' → ty_p r b k := fun k k1 k2 => by
  rcases h.1 k k1 k2 with ⟨K, a1, _⟩ | ⟨⟨E, _, K, a1, a2, a3, _⟩, _⟩ | ⟨a1, _⟩
  · exact a1.1.elim
  · exact ty_p.no a3 (by omega) (by omega) (by omega) (by omega) (by omega) (by omega)
  · exact ty_p.no (K := 58) a1 (by decide) (by decide) (by decide) (by decide) (by decide) (by decide)
end
