/-! Level 2: the reference prepares told templates: small matters. -/
/-- an exp that holds nothing against a templ: no node is a templ's name -/
theorem XR.k28 {WN AN TN : Nat → Nat → Prop} {SN : Nat → Nat → Prop} {c r : t_S} {p1 s1 : Nat} : ∀ f lv rr e0 e1 t0 t1 m0 m1 n, XR WN AN TN SN c r p1 s1 f 0 lv rr e0 e1 t0 t1 m0 m1 n → (∀ k, m0 ≤ k → k < m1 → r.1 955 k ≠ 61) → ∀ k, m0 ≤ k → k < m1 → r.1 955 k ≠ 28 := by
  intro f
  induction f with
  | zero => intro lv rr e0 e1 t0 t1 m0 m1 n h; exact h.elim
  | succ f ih =>
    intro lv rr e0 e1 t0 t1 m0 m1 n h nm k k0 k1
    obtain ⟨h1, h2, h3, h4, h⟩ := h
    rcases h with ⟨_, h⟩ | ⟨⟨q, _⟩, _⟩ | ⟨⟨q, _⟩, _⟩
    rotate_left
    · exact absurd q (by decide)
    · exact absurd q (by decide)
    have no : ∀ {j K : Nat}, r.1 955 j = nI K → 50 ≤ K → K < 100 → r.1 955 j ≠ 28 := fun {j K} e a b y => by
      have := (nI_eq (b := 28) (by omega) (by decide)).mp (e.symm.trans y)
      omega
    rcases h with ⟨a1, a2, a3, a4, a5⟩ | ⟨a1, a2, n', a3, a4⟩ | ⟨a1, a2, K, o, a, n', a3, a4, a5, a6, a7⟩ | ⟨a1, a2, a3, X, n', a4, a5, a6, a7, a8⟩ | ⟨a1, ea, ta, a, b, a2, a3, a4, a5, h⟩ | ⟨a1, a2, a3, v, E, T, M, G, b1, b2, b3, b4, b5, b6, b7⟩ | ⟨a1, a2, v, E, T, M, X, N, b1, b2, b3, b4, b5, b6, b7, b8, b9⟩ | h
    · have e : k = n := by omega
      rw [e]
      rcases a5 with ⟨k, _⟩ | ⟨k | k, _⟩ | ⟨k, _⟩ | ⟨k, _⟩ | ⟨K, k1, k2, k, q1⟩ | ⟨k, q1⟩ | ⟨k, q1, q2⟩
      · rw [k]; decide
      · rw [k]; decide
      · rw [k]; decide
      · rw [k]; decide
      · rw [k]; decide
      · exact no k (by omega) (by omega)
      · rw [k]; decide
      · rw [k]; decide
    · by_cases e : k = n
      · rw [e, a2]; decide
      · exact ih _ _ _ _ _ _ _ _ _ a4 (fun k y1 y2 => nm k (by omega) y2) k (by omega) k1
    · by_cases e : k = n
      · rw [e]; exact no a4 (by omega) (by omega)
      · exact ih _ _ _ _ _ _ _ _ _ a7 (fun k y1 y2 => nm k (by omega) y2) k (by omega) k1
    · by_cases e : k = n
      · rw [e, a3]; decide
      · exact ih _ _ _ _ _ _ _ _ _ a8 (fun k y1 y2 => nm k y1 (by omega)) k k0 (by omega)
    · have s5 := a5.at
      by_cases e : k < n
      · exact ih _ _ _ _ _ _ _ _ _ a5 (fun k y1 y2 => nm k y1 (by omega)) k k0 e
      · rcases h with ⟨kk, po, x⟩ | ⟨kk, x, o, px, q7, po, y⟩ | ⟨kk, x, o, px, q7, po, po2, y⟩
        · by_cases e2 : k = n
          · rw [e2, kk]; decide
          · exact ih _ _ _ _ _ _ _ _ _ x (fun k y1 y2 => nm k (by omega) y2) k (by omega) k1
        · by_cases e2 : k = n
          · rw [e2, kk]; decide
          · exact ih _ _ _ _ _ _ _ _ _ y (fun k y1 y2 => nm k (by omega) y2) k (by omega) k1
        · by_cases e2 : k = n
          · rw [e2, kk]; decide
          · exact ih _ _ _ _ _ _ _ _ _ y (fun k y1 y2 => nm k (by omega) y2) k (by omega) k1
    · by_cases e : k = n
      · rw [e, a3]; decide
      · obtain ⟨j, j1, j2, j3⟩ := px_B.find b4 (t := k) (by omega) k1
        have bM := b4.2.2 j j1
        exact ih _ _ _ _ _ _ _ _ _ (b7 j j1) (fun k y1 y2 => nm k (by omega) (by omega)) k j2 j3
    · by_cases e : k = n
      · rw [e, a2]; decide
      · obtain ⟨j, j1, j2, j3⟩ := px_B.find b5 (t := k) (by omega) k1
        obtain ⟨x1, x2, x3, x4, x5, x6, x7⟩ := b9 j j1
        have bM := b5.2.2 j j1
        by_cases e2 : k = M j
        · rw [e2, x4]; decide
        · exact ih _ _ _ _ _ _ _ _ _ x7 (fun k y1 y2 => nm k (by omega) (by omega)) k (by omega) j3
    · exact absurd h.2.2.1 (nm n h3 h4)
section
variable {s : t_S} {W : Nat → Int32} {v e0 e1 a d : Nat} {E : Nat → Nat}
theorem fwf.app : ∀ d1 a d2, fwf s W a (d1 + d2) = if fwf s W a d1 = 0 then fwf s W (a + d1) d2 else fwf s W a d1 := by
  intro d1
  induction d1 with
  | zero =>
    intro a d2
    rw [show fwf s W a 0 = 0 from rfl, if_pos rfl, Nat.zero_add, Nat.add_zero]
  | succ d1 ih =>
    intro a d2
    rw [show d1 + 1 + d2 = (d1 + d2) + 1 by omega]
    have e : ∀ d, fwf s W a (d + 1) = if fwo s W a = 0 then fwf s W (a + 1) d else fwo s W a := fun _ => rfl
    rw [e, e]
    by_cases c : fwo s W a = 0
    · rw [if_pos c, if_pos c, ih, show a + 1 + d1 = a + (d1 + 1) by omega]
    · rw [if_neg c, if_neg c, if_neg c]
theorem fwf.zero : ∀ d a, (∀ i, a ≤ i → i < a + d → fwo s W i = 0) → fwf s W a d = 0 := by
  intro d
  induction d with
  | zero => intro a _; rfl
  | succ d ih =>
    intro a h
    have e : fwf s W a (d + 1) = if fwo s W a = 0 then fwf s W (a + 1) d else fwo s W a := rfl
    rw [e, if_pos (h a (Nat.le_refl _) (by omega))]
    exact ih (a + 1) (fun i x y => h i (by omega) (by omega))
theorem fwf.one : fwf s W a 1 = fwo s W a := by
  have e : fwf s W a 1 = if fwo s W a = 0 then 0 else fwo s W a := rfl
  rw [e]
  by_cases c : fwo s W a = 0
  · rw [if_pos c, c]
  · rw [if_neg c]
/-- operations of an exp tell nothing -/
theorem fwo.exp {o i : Nat} (h0 : 0 < o) (h1 : o < 34) (h : s.1 335 i = nI o) : fwo s W i = 0 := by
  unfold fwo
  rw [h, if_neg (fun y => by have := (nI_eq (b := 34) (by omega) (by decide)).mp y; omega), if_neg (fun y => by have := (nI_eq (b := 35) (by omega) (by decide)).mp y; omega)]
theorem fwf.parts (hE : px_B v e0 e1 E) : ∀ u, u ≤ v → wfs (fun j => fwf s W (E j) (E (j + 1) - E j)) u = fwf s W e0 (E u - e0) := by
  intro u
  induction u with
  | zero =>
    intro _
    rw [hE.1, Nat.sub_self]
    rfl
  | succ u ih =>
    intro hu
    have b := hE.2.2 u (by omega)
    have e : wfs (fun j => fwf s W (E j) (E (j + 1) - E j)) (u + 1) = if wfs (fun j => fwf s W (E j) (E (j + 1) - E j)) u = 0 then fwf s W (E u) (E (u + 1) - E u) else wfs (fun j => fwf s W (E j) (E (j + 1) - E j)) u := rfl
    rw [e, ih (by omega), show E (u + 1) - e0 = (E u - e0) + (E (u + 1) - E u) by omega, fwf.app, show e0 + (E u - e0) = E u by omega]
end
section
variable {c0 r0 : t_S} {P : Nat → Int64} {TS : Nat → Nat → Nat → Prop} {wt : Nat → Nat} {OW NM : Nat → Nat → Prop} {Y YD : Nat → Prop} {hb sb g m0 m1 n a ma mb K e0 e1 : Nat} {w : Int32}
/-- a node with one part -/
theorem prt_one (hn : n < 13000) (hk : r0.1 955 n = nI K) (hK : K < 100 ∧ K ≠ 38 ∧ K ≠ 28) (h59 : r0.1 959 n = nI a) (ha : a < 13000) (h60 : r0.1 960 a = -1) (he : e0 ≤ e1) (hm : m0 ≤ ma ∧ ma ≤ mb ∧ mb ≤ m1) (hY : ∀ n, Y n → YD n ∧ ¬ (m0 ≤ n ∧ n < m1)) (hOW : ∀ n pp, OW n pp → m0 ≤ n → n < m1 → YD n) (hNM : ∀ n v, NM n v → v < 60) (hq : ∀ k, m0 ≤ k → k < m1 → ¬ (ma ≤ k ∧ k < mb) → (∀ pp, ¬ OW k pp) ∧ ∀ v, ¬ NM k v) (hp : ∀ Y : Nat → Prop, (∀ n, Y n → YD n ∧ ¬ (ma ≤ n ∧ n < mb)) → PRt c0 r0 P TS wt OW NM Y hb sb (g + 1) e0 e1 ma mb a w) : PRt c0 r0 P TS wt OW NM Y hb sb (g + 2) e0 e1 m0 m1 n w := by
  have h := prt_node (v := 1) (wj := fun _ => w) (G := fun _ => a) (g := g) hn hk hK (by rw [if_pos (by decide)]; exact h59) (px_B1 he) (px_B1 hm.2.1) (by decide) (fun j hj => ⟨ha, by rw [if_neg (by omega)]; exact h60⟩) hY ⟨hm.1, hm.2.2⟩ hOW hNM hq (fun j hj Y' hY' => by
    obtain rfl : j = 0 := by omega
    exact hp Y' hY')
  have e : wfs (fun _ => w) 1 = w := if_pos rfl
  rw [e] at h
  exact h
/-- a leaf -/
theorem prt_leaf (hn : n < 13000) (hk : r0.1 955 n = nI K) (hK : K < 100 ∧ K ≠ 38 ∧ K ≠ 28) (h59 : r0.1 959 n = -1) (hY : ∀ n, Y n → YD n ∧ ¬ (m0 ≤ n ∧ n < m1)) (hOW : ∀ n pp, OW n pp → m0 ≤ n → n < m1 → YD n) (hNM : ∀ n v, NM n v → v < 60) (h01 : m0 ≤ m1) (hq : ∀ k, m0 ≤ k → k < m1 → (∀ pp, ¬ OW k pp) ∧ ∀ v, ¬ NM k v) : PRt c0 r0 P TS wt OW NM Y hb sb (g + 2) e0 e0 m0 m1 n 0 :=
  prt_node (v := 0) (wj := fun _ => 0) (G := fun _ => 0) (g := g) (E := fun _ => e0) (M := fun _ => m0) (ma := m0) (mb := m0) hn hk hK (by rw [if_neg (by decide)]; exact h59) px_B0 px_B0 (by decide) (fun j hj => by omega) hY ⟨Nat.le_refl _, h01⟩ hOW hNM (fun k a b _ => hq k a b) (fun j hj => by omega)
end
