/-! Level 2: the reference prepares told templates: all of them, by depth. -/
/-- a template's own slot, a literal of the class at pp -/
def OWu (RM : t_S → Prop) (c0 r0 : t_S) (PE n1 : Nat) (M0 M1 : Nat → Nat) (u n pp : Nat) : Prop := u < n1 ∧ (M0 u ≤ n ∧ n < M1 u) ∧ r0.1 955 n = 38 ∧ pp ≤ 26000 ∧ ∃ t, FS RM r0 (M1 u) PE c0 t n ∧ c0.1 357 t = nI pp ∧ c0.2.1 362 t = 0
/-- its names -/
def NMu (r0 : t_S) (n1 : Nat) (M0 M1 D : Nat → Nat) (u n v : Nat) : Prop := (M0 u ≤ n ∧ n < M1 u) ∧ r0.1 955 n = 28 ∧ fU r0 n = some (nI v) ∧ v < n1 ∧ D v < D u
/-- its slots and those of what it names, k steps deep -/
def TSd (RM : t_S → Prop) (c0 r0 : t_S) (PE n1 : Nat) (M0 M1 D : Nat → Nat) (W : Nat → Int32) : Nat → Nat → Nat → Nat → Prop
  | 0, _, _, _ => False
  | k + 1, u, n, pp => OWu RM c0 r0 PE n1 M0 M1 u n pp ∨ (u < n1 ∧ W u ≠ 0 ∧ n = 13000) ∨ ∃ x v, NMu r0 n1 M0 M1 D u x v ∧ TSd RM c0 r0 PE n1 M0 M1 D W k v n pp
def TSi (RM : t_S → Prop) (c0 r0 : t_S) (PE n1 : Nat) (M0 M1 D : Nat → Nat) (W : Nat → Int32) (u n pp : Nat) : Prop := ∃ k, TSd RM c0 r0 PE n1 M0 M1 D W k u n pp
/-- .. but of those that are not being prepared -/
def TSx (B : Nat → Prop) (TS : Nat → Nat → Nat → Prop) (u n pp : Nat) : Prop := ¬ B u ∧ TS u n pp
def wtu (c0 : t_S) (n1 : Nat) (A0 A1 : Nat → Nat) (u : Nat) : Nat := if u < n1 then q34 c0 (A1 u) - q34 c0 (A0 u) else 0
/-- nodes of no template of depth d or less -/
def YDd (n1 : Nat) (M0 M1 D : Nat → Nat) (d n : Nat) : Prop := ∀ v, v < n1 → D v ≤ d → ¬ (M0 v ≤ n ∧ n < M1 v)
/-- told templates, settled, on both sides -/
structure TR (WN AN TN : Nat → Nat → Prop) (c0 r0 : t_S) (RM : t_S → Prop) (p1 s1 n1 PE hb sb : Nat) (F T0 T1 A0 A1 M0 M1 N D : Nat → Nat) (W : Nat → Int32) : Prop where
  n60 : n1 ≤ 60
  pe : PE ≤ 26000
  hb3 : hb ≤ 395
  tr : ∀ u, u < n1 → XR WN AN TN (FS RM r0 (M1 u) PE c0) c0 r0 p1 s1 (F u) 1 1 15 (A0 u) (A1 u) (T0 u) (T1 u) (M0 u) (M1 u) (N u)
  tm : ∀ u, u < n1 → T1 u ≤ 6000 ∧ M1 u ≤ 13000 ∧ ∀ k, M0 u ≤ k → k < M1 u → ¬ TB r0 k
  wo : ∀ e k, WN e k → ∃ o : Nat, 0 < o ∧ o < 34 ∧ c0.1 335 e = nI o
  rm : ∀ r, l2_fr eZr r0 r → RM r
  tn : ∀ t m, TN t m → (c0.1 354 t = 6 ∧ ∃ (X : Nat) (y : Int32), X < 7934 ∧ c0.1 357 t = nI (66 + X) ∧ r0.2.1 957 m = lN X ∧ (∀ r, RM r → fU r m = some y) ∧ y < 0) ∨ (c0.1 354 t = 7 ∧ ∃ v : Nat, v < n1 ∧ c0.1 357 t = nI v ∧ ∀ r, RM r → fU r m = some (nI v))
  d1 : ∀ u, u < n1 → 1 ≤ D u ∧ D u ≤ 60
  dp : ∀ u t m v l : Nat, u < n1 → TN t m → T0 u ≤ t → t < T1 u → c0.1 354 t = 7 → c0.1 357 t = nI v → v < n1 → 1 ≤ l → l ≤ 40 → c0.1 358 t = nI l → l + D v ≤ D u
  lv : ∀ u t l : Nat, u < n1 → T0 u ≤ t → t < T1 u → 1 ≤ l → l ≤ 40 → c0.1 358 t = nI l → l ≤ D u
  od : ∀ u v, u < n1 → v < n1 → u ≠ v → M1 u ≤ M0 v ∨ M1 v ≤ M0 u
  wr : ∀ u, u < n1 → fwf c0 W (A0 u) (A1 u - A0 u) = W u
  rt : ∀ u, u < n1 → r0.1 968 u = nI (N u)
  sz : ∀ u, u < n1 → sb + (M1 u - M0 u) ≤ 13000
section
variable {s r0 c0 r : t_S} {RM : t_S → Prop} {W : Nat → Int32} {n1 PE hb sb p1 s1 k u v n pp a d : Nat} {F T0 T1 A0 A1 M0 M1 N D : Nat → Nat} {WN AN TN : Nat → Nat → Prop} {wt : Nat → Nat}
theorem sm_upd {f h : Nat → Nat} : ∀ n, u < n → (∀ v, v < n → v ≠ u → h v = f v) → h u = 0 → sm f n = sm h n + f u := by
  intro n
  induction n with
  | zero => intro h; omega
  | succ n ih =>
    intro hu e e0
    rw [sm_s, sm_s]
    by_cases c : u = n
    · subst c
      rw [e0, sm_cg u (f := h) (g := f) (fun i hi => e i (by omega) (by omega))]
      rfl
    · rw [ih (by omega) (fun v hv => e v (by omega)) e0, e n (by omega) (by omega)]
      omega
/-- one more is being prepared -/
theorem rem_mark (hu : u < 60) (h : r.1 1030 u ≠ r.1 950 133) : rem wt r = rem wt (t_setI r 1030 u (r.1 950 133)) + wt u := by
  have f : l2_fr (fun b j => b = 1030 ∧ j = u) r (t_setI r 1030 u (r.1 950 133)) := l2_fr.set ⟨rfl, rfl⟩
  have v : (t_setI r 1030 u (r.1 950 133)).1 1030 u = r.1 950 133 := by rw [l2_g, if_pos rfl]
  unfold rem
  rw [sm_upd (u := u) (h := fun w => if (t_setI r 1030 u (r.1 950 133)).1 1030 w = (t_setI r 1030 u (r.1 950 133)).1 950 133 then 0 else wt w) 60 hu (fun w _ hw => by
    show (if (t_setI r 1030 u (r.1 950 133)).1 1030 w = (t_setI r 1030 u (r.1 950 133)).1 950 133 then 0 else wt w) = _
    rw [(f 1030 w (by omega)).1, (f 950 133 (by omega)).1]) (by
    show (if (t_setI r 1030 u (r.1 950 133)).1 1030 u = (t_setI r 1030 u (r.1 950 133)).1 950 133 then 0 else wt u) = _
    rw [v, (f 950 133 (by omega)).1, if_pos rfl])]
  rw [if_neg h]
theorem fwf.val : ∀ d a, fwf s W a d = 0 ∨ ∃ i, a ≤ i ∧ i < a + d ∧ fwf s W a d = fwo s W i := by
  intro d
  induction d with
  | zero => intro a; exact Or.inl rfl
  | succ d ih =>
    intro a
    have e : fwf s W a (d + 1) = if fwo s W a = 0 then fwf s W (a + 1) d else fwo s W a := rfl
    rw [e]
    by_cases c : fwo s W a = 0
    · rw [if_pos c]
      rcases ih (a + 1) with y | ⟨i, y1, y2, y3⟩
      · exact Or.inl y
      · exact Or.inr ⟨i, by omega, by omega, y3⟩
    · rw [if_neg c]
      exact Or.inr ⟨a, Nat.le_refl _, by omega, rfl⟩
theorem FS.er {t m ME : Nat} (h : FS RM r0 ME PE c0 t m) : ∃ er pp0 M1 n' : Nat, er ≤ 7 ∧ r0.1 959 m = nI n' ∧ n' < 13000 ∧ SVt (c0.2.1 337) RM (m + 1) M1 n' er pp0 ∧ M1 ≤ ME ∧ c0.2.1 362 t = (nI er).toInt64 := by
  obtain ⟨er, pp, M1, n', a1, a2, a3, a4, a5, a6⟩ := h
  refine ⟨er, pp, M1, n', a1, a3, a4, a5, a2.2.1, ?_⟩
  rcases a6 with ⟨e, _, b, _⟩ | ⟨_, _, b⟩
  · rw [e]; exact b
  · exact b
theorem er_0 {er : Nat} (h : er ≤ 7) (e : (nI er).toInt64 = 0) : er = 0 := by
  have := congrArg Int64.toInt32 e
  rw [Int32.toInt32_toInt64] at this
  exact (nI_eq (b := 0) (by omega) (by decide)).mp this
theorem FS.lit {t m ME : Nat} (h : FS RM r0 ME PE c0 t m) (hp : PE ≤ 26000) (h57 : c0.1 357 t = nI pp) (pp2 : pp ≤ 26000) (h62 : c0.2.1 362 t = 0) : ∃ M1 n' : Nat, r0.1 959 m = nI n' ∧ n' < 13000 ∧ SVt (c0.2.1 337) RM (m + 1) M1 n' 0 pp ∧ M1 ≤ ME := by
  obtain ⟨er, pp', M1, n', a1, a2, a3, a4, a5, a6⟩ := h
  rcases a6 with ⟨e, b1, b, tt, nn, kk, b3, b4, b5, b6⟩ | ⟨e, _, b⟩
  · have := (nI_eq (a := pp') (b := pp) (by omega) (by omega)).mp (b1.symm.trans h57)
    subst this
    rw [e] at a5
    exact ⟨M1, n', a3, a4, a5, a2.2.1⟩
  · exact absurd (er_0 a1 (b.symm.trans h62)) e
/-- a told template's ERROR -/
theorem TR.w7 (T : TR WN AN TN c0 r0 RM p1 s1 n1 PE hb sb F T0 T1 A0 A1 M0 M1 N D W) : ∀ d u, u < n1 → D u ≤ d → ∃ w : Nat, w ≤ 7 ∧ W u = nI w := by
  intro d
  induction d with
  | zero => intro u hu h; have := (T.d1 u hu).1; omega
  | succ d ih =>
    intro u hu h
    have y := (T.tr u hu).at
    rw [← T.wr u hu]
    rcases fwf.val (s := c0) (W := W) (A1 u - A0 u) (A0 u) with z | ⟨i, i1, i2, z⟩
    · exact ⟨0, by decide, z⟩
    rw [z]
    have t6 := (T.tm u hu).1
    rcases XR.tko (l := 1) T.wo _ _ _ _ _ _ _ _ _ _ (T.tr u hu) (Or.inl ⟨rfl, by decide⟩) (Nat.le_refl _) (fun k x1 x2 y => (T.tm u hu).2.2 k x1 x2 ⟨61, y, by omega⟩) i i1 (by omega) with ⟨o, x1, x2, x3⟩ | ⟨t, m, x1, x2, x3, x4, x5⟩ | ⟨t, m, x1, x2, x3, x4, x5, l, l1, l2, l3⟩
    · exact ⟨0, by decide, fwo.exp x1 x2 x3⟩
    · obtain ⟨er, _, _, _, e7, _, _, _, _, e62⟩ := FS.er x3
      refine ⟨er, e7, ?_⟩
      unfold fwo
      rw [x5.1, if_pos (by decide), x5.2, nI_clamp (n := t) (by omega), e62, Int32.toInt32_toInt64]
    · have fo : fwo c0 W i = if c0.1 354 t = 7 then W (c0.1 357 t).toNatClampNeg else 0 := by
        unfold fwo
        rw [x5.1, if_neg (by decide), if_pos (by decide), x5.2, nI_clamp (n := t) (by omega)]
      rcases T.tn t m x3 with ⟨y1, _⟩ | ⟨y1, v, y2, y3, _⟩
      · exact ⟨0, by decide, by rw [fo, if_neg (by rw [y1]; decide)]; rfl⟩
      · have n60 := T.n60
        have := T.dp u t m v l hu x3 x1.1 x1.2 y1 y3 y2 l1 l2 l3
        rw [fo, if_pos y1, y3, nI_clamp (n := v) (by omega)]
        exact ih v y2 (by omega)
theorem TR.tnz (T : TR WN AN TN c0 r0 RM p1 s1 n1 PE hb sb F T0 T1 A0 A1 M0 M1 N D W) (t m : Nat) (h : TN t m) : (c0.1 354 t = 6 ∧ ∃ (X : Nat) (y : Int32), X < 7934 ∧ c0.1 357 t = nI (66 + X) ∧ r0.2.1 957 m = lN X ∧ (∀ r, l2_fr eZr r0 r → fU r m = some y) ∧ y < 0) ∨ (c0.1 354 t = 7 ∧ ∃ v : Nat, v < n1 ∧ c0.1 357 t = nI v ∧ ∀ r, l2_fr eZr r0 r → fU r m = some (nI v)) := by
  rcases T.tn t m h with ⟨y1, X, y, x1, x2, x3, x4, x5⟩ | ⟨y1, v, y2, y3, y4⟩
  · exact Or.inl ⟨y1, X, y, x1, x2, x3, fun r hr => x4 r (T.rm r hr), x5⟩
  · exact Or.inr ⟨y1, v, y2, y3, fun r hr => y4 r (T.rm r hr)⟩
theorem TSd.own : ∀ k u n pp, TSd RM c0 r0 PE n1 M0 M1 D W k u n pp → n = 13000 ∨ ∃ v, OWu RM c0 r0 PE n1 M0 M1 v n pp := by
  intro k
  induction k with
  | zero => intro u n pp h; exact h.elim
  | succ k ih =>
    intro u n pp h
    rcases h with h | ⟨_, _, h⟩ | ⟨x, v, _, h⟩
    · exact Or.inr ⟨u, h⟩
    · exact Or.inl h
    · exact ih v n pp h
end
