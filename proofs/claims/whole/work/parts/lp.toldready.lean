/-! Level 2: told templates are ready to be named. -/
section
variable {WN AN TN : Nat → Nat → Prop} {c0 r0 c' r' : t_S} {RM : t_S → Prop} {NS NT : Nat → Prop} {p1 s1 n1 PE hb sb pc a nh p mh E τ : Nat} {F T0 T1 A0 A1 M0 M1 N D : Nat → Nat} {W : Nat → Int32}
/-- prepared, it means the same -/
theorem tm_told (T : TR WN AN TN c0 r0 RM p1 s1 n1 PE hb sb F T0 T1 A0 A1 M0 M1 N D W) (hp1 : p1 ≤ 26000) (hs1 : s1 ≤ 24300) (hc : ∀ u, u < n1 → c0.1 (364 + u) 0 = nI (T0 u)) (hns : ∀ u n K : Nat, u < n1 → M0 u ≤ n → n < M1 u → r0.1 955 n = nI K → 20 ≤ K → K ≤ 41 → NS n) {TS : Nat → Nat → Nat → Prop} (L : LtC c0 r0 (c0.2.1 337) TS c' r' pc a nh p mh E τ) : ∀ d u, u < n1 → D u ≤ d → RD (c0.2.1 337) (TSi RM c0 r0 PE n1 M0 M1 D W) u r' → TM c' r' 338 a p E NS (D u + 1) (T0 u) (N u) := by
  intro d
  induction d with
  | zero => intro u hu h; have := (T.d1 u hu).1; omega
  | succ d ih =>
    intro u hu hd R
    obtain ⟨d1, d60⟩ := T.d1 u hu
    obtain ⟨t6, m13, ntb⟩ := T.tm u hu
    have w0 : W u = 0 := Classical.byContradiction (fun y => absurd (R 13000 0 ⟨1, Or.inr (Or.inl ⟨hu, y, rfl⟩)⟩).1 (by decide))
    have x := T.tr u hu
    have ya := x.at
    have hz : ∀ i, A0 u ≤ i → i < A1 u → fwo c0 W i = 0 := fun i i0 i1 => fwf.all _ _ ((T.wr u hu).trans w0) i i0 (by omega)
    have H : TMH TN c0 r0 RM TS NS p1 s1 n1 PE (T0 u) (T1 u) (M0 u) (M1 u) (D u) D W c' r' pc a nh p mh E τ := by
      refine ⟨L, hp1, hs1, T.pe, m13, T.n60, T.tnz, fun t m v l => T.dp u t m v l hu, fun t l => T.lv u t l hu, fun n K => hns u n K hu, fun m pp t a b h38 hpp fs h57 h62 => ?_, fun m v a b h28 hf hv hD => ⟨T0 v, N v, hc v hv, T.rt v hv, ih v hv (by omega) (fun n pp ⟨k, hk⟩ => R n pp ⟨k + 1, Or.inr (Or.inr ⟨m, v, ⟨⟨a, b⟩, h28, hf, hv, hD⟩, hk⟩)⟩)⟩⟩
      obtain ⟨g0, pe, nn, mm, f, g1, g2, g3, g4, g5⟩ := R m pp ⟨1, Or.inl ⟨hu, ⟨a, b⟩, h38, hpp, t, fs, h57, h62⟩⟩
      exact ⟨pe, nn, mm, f, g1, g2, g3, g5⟩
    have y := (tm_tree H (F u) 1 1 15 (A0 u) (A1 u) (T0 u) (T1 u) (M0 u) (M1 u) (N u) x (Or.inl ⟨rfl, by decide⟩) (Nat.le_refl _) (Nat.le_refl _) (Nat.le_refl _) (by omega) (Nat.le_refl _) (Nat.le_refl _) hz).1 rfl
    rw [show D u + 2 - 1 = D u + 1 by omega] at y
    exact y
/-- ready -/
theorem tok_all (T : TR WN AN TN c0 r0 RM p1 s1 n1 PE hb sb F T0 T1 A0 A1 M0 M1 N D W) (hp1 : p1 ≤ 26000) (hs1 : s1 ≤ 24300) (hc : ∀ u, u < n1 → c0.1 (364 + u) 0 = nI (T0 u)) (hns : ∀ u n K : Nat, u < n1 → M0 u ≤ n → n < M1 u → r0.1 955 n = nI K → 20 ≤ K → K ≤ 41 → NS n) (hW : wtD n1 W c0) (hNT : ∀ n, NT n → ∀ v, v < n1 → ¬ (M0 v ≤ n ∧ n < M1 v)) {u : Nat} (hu : u < n1) : TOK c0 r0 (c0.2.1 337) (TSx (fun _ => False) (TSi RM c0 r0 PE n1 M0 M1 D W)) (wtu c0 n1 A0 A1) NT NS hb sb 525 u := by
  have n60 := T.n60
  obtain ⟨d1, d60⟩ := T.d1 u hu
  obtain ⟨w, w7, hw⟩ := T.w7 (D u) u hu (Nat.le_refl _)
  refine ⟨w, T0 u, N u, ⟨(hW u hu).trans hw, w7, fun z => ⟨0, fun y => y, 1, Or.inr (Or.inl ⟨hu, by rw [hw]; exact nI_ne0 (by omega) (by omega), rfl⟩)⟩⟩, fun g hg => (tpr_all T (D u) u hu (Nat.le_refl _) (fun _ => False) (fun v y => y.elim) w w7 hw g (by omega)).mono (fun n hn v hv _ => hNT n hn v hv), ⟨hc u hu, T.rt u hu⟩, fun c' r' pc a nh p mh E τ L st => ?_⟩
  have R : RD (c0.2.1 337) (TSi RM c0 r0 PE n1 M0 M1 D W) u r' := fun n pp h => L.2.2.1 u (by omega) st n pp ⟨fun y => y, h⟩
  exact (tm_told T hp1 hs1 hc hns L (D u) u hu (Nat.le_refl _) R).upTo (by omega)
/-- what names name -/
theorem tnk_all (T : TR WN AN TN c0 r0 RM p1 s1 n1 PE hb sb F T0 T1 A0 A1 M0 M1 N D W) (hp1 : p1 ≤ 26000) (hs1 : s1 ≤ 24300) (hc : ∀ u, u < n1 → c0.1 (364 + u) 0 = nI (T0 u)) (hns : ∀ u n K : Nat, u < n1 → M0 u ≤ n → n < M1 u → r0.1 955 n = nI K → 20 ≤ K → K ≤ 41 → NS n) (hW : wtD n1 W c0) (hNT : ∀ n, NT n → ∀ v, v < n1 → ¬ (M0 v ≤ n ∧ n < M1 v)) (t n : Nat) (h : TN t n) : TNK c0 r0 (c0.2.1 337) (TSx (fun _ => False) (TSi RM c0 r0 PE n1 M0 M1 D W)) (wtu c0 n1 A0 A1) NT NS hb sb 525 t n := by
  have n60 := T.n60
  rcases T.tnz t n h with ⟨y1, X, y, x⟩ | ⟨y1, v, y2, y3, y4⟩
  · exact Or.inl ⟨y1, X, y, x⟩
  · exact Or.inr ⟨y1, v, by omega, y3, y4, tok_all T hp1 hs1 hc hns hW hNT y2⟩
/-- an exp's own nodes are no told template's slots -/
theorem told_nts (T : TR WN AN TN c0 r0 RM p1 s1 n1 PE hb sb F T0 T1 A0 A1 M0 M1 N D W) (hNT : ∀ n, NT n → n < 13000 ∧ ∀ v, v < n1 → ¬ (M0 v ≤ n ∧ n < M1 v)) (n : Nat) (h : NT n) (u pp : Nat) : ¬ TSx (fun _ => False) (TSi RM c0 r0 PE n1 M0 M1 D W) u n pp := fun ⟨_, k, y⟩ => by
  rcases TSd.own k u n pp y with z | ⟨v, z⟩
  · have := (hNT n h).1
    omega
  · exact (hNT n h).2 v z.1 z.2.1
/-- all of what told templates may still want -/
theorem told_wt (h : ∀ u v, u < v → v < n1 → A1 u ≤ A0 v) (h2 : ∀ u, u < n1 → A0 u ≤ A1 u) (n60 : n1 ≤ 60) {e : Nat} (h3 : ∀ u, u < n1 → A1 u ≤ e) : sm (wtu c0 n1 A0 A1) 60 ≤ q34 c0 e := by
  have go : ∀ n, n ≤ n1 → ∀ e, (∀ u, u < n → A1 u ≤ e) → sm (wtu c0 n1 A0 A1) n ≤ q34 c0 e := by
    intro n
    induction n with
    | zero => intro _ e _; exact Nat.zero_le _
    | succ n ih =>
      intro hn e he
      have y := ih (by omega) (A0 n) (fun u hu => h u n hu (by omega))
      have a1 := q34_up (c := c0) (h2 n (by omega))
      have a2 := q34_up (c := c0) (he n (by omega))
      rw [sm_s]
      have e : wtu c0 n1 A0 A1 n = q34 c0 (A1 n) - q34 c0 (A0 n) := if_pos (by omega)
      omega
  have up : ∀ n, n1 ≤ n → sm (wtu c0 n1 A0 A1) n = sm (wtu c0 n1 A0 A1) n1 := by
    intro n
    induction n with
    | zero => intro h; rw [show n1 = 0 by omega]
    | succ n ih =>
      intro hn
      by_cases c : n1 = n + 1
      · rw [c]
      · rw [sm_s, ih (by omega)]
        have e : wtu c0 n1 A0 A1 n = 0 := if_neg (by omega)
        omega
  rw [up 60 n60]
  exact go n1 (Nat.le_refl _) e h3
end
