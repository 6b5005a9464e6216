/-! Level 2: a templ's meaning needs no more turns than it is deep. -/
section
variable {c r : t_S} {a i p E : Nat} {NS : Nat → Prop} {F F' : Nat → Option Nat → Prop}
theorem ch_cn {n v : Nat} (h : ch_R r n v (gn r n)) (hv : v ≤ 16) : cn r n = v := (ch_gn h hv).1
theorem kp_cg {N N' : Nat → Nat → Prop} {m : Nat} (h : ∀ x y, x < m → (N x y ↔ N' x y)) : kp_L N m ↔ kp_L N' m := ⟨fun ⟨g, g1, g2⟩ => ⟨g, fun l hl => (h l _ hl).mp (g1 l hl), g2⟩, fun ⟨g, g1, g2⟩ => ⟨g, fun l hl => (h l _ hl).mpr (g1 l hl), g2⟩⟩
theorem ex_cg {A : Nat → Prop} {P Q : Nat → Prop} (h : ∀ x, P x ↔ Q x) : (∃ x, A x ∧ P x) ↔ ∃ x, A x ∧ Q x := ⟨fun ⟨x, a, b⟩ => ⟨x, a, (h x).mp b⟩, fun ⟨x, a, b⟩ => ⟨x, a, (h x).mpr b⟩⟩
theorem rc_cg {n q m v : Nat} (h : ∀ j, j < v → (r.1 955 (gn r n j) ≠ 39 ∧ ∀ o, F (gn r n j) o ↔ F' (gn r n j) o) ∨ (r.1 955 (gn r n j) = 39 ∧ ∀ y, y < cn r (gn r n j) → ∀ o, F (gn r (gn r n j) y) o ↔ F' (gn r (gn r n j) y) o)) : ∀ u, u ≤ v → ∀ e, rcS r F n q m u e ↔ rcS r F' n q m u e := by
  intro u
  induction u with
  | zero => intro _ e; exact Iff.rfl
  | succ u ih =>
    intro hu e
    have i1 := ih (by omega)
    unfold rcS
    refine and_congr Iff.rfl ?_
    rcases h u (by omega) with ⟨k, hq⟩ | ⟨k, hq⟩
    · refine or_congr (and_congr Iff.rfl (ex_cg (fun x => i1 x))) (or_congr ⟨fun y => absurd y.1 k, fun y => absurd y.1 k⟩ (and_congr Iff.rfl (and_congr Iff.rfl ?_)))
      exact ⟨fun ⟨e1, q', a1, a2, a3, a4⟩ => ⟨e1, q', (i1 e1).mp a1, a2, a3, (hq _).mp a4⟩, fun ⟨e1, q', a1, a2, a3, a4⟩ => ⟨e1, q', (i1 e1).mpr a1, a2, a3, (hq _).mpr a4⟩⟩
    · refine or_congr (and_congr Iff.rfl (ex_cg (fun x => i1 x))) (or_congr (and_congr Iff.rfl ?_) ⟨fun y => absurd k y.2.1, fun y => absurd k y.2.1⟩)
      have kk : ∀ e1, kp_L (fun x y => y < cn r (gn r n u) ∧ ∃ q', eL r q (e1 + x) q' ∧ F (gn r (gn r n u) y) (some q')) (cn r (gn r n u)) ↔ kp_L (fun x y => y < cn r (gn r n u) ∧ ∃ q', eL r q (e1 + x) q' ∧ F' (gn r (gn r n u) y) (some q')) (cn r (gn r n u)) := fun e1 => kp_cg (fun x y _ => ⟨fun ⟨b1, q', b2, b3⟩ => ⟨b1, q', b2, (hq y b1 _).mp b3⟩, fun ⟨b1, q', b2, b3⟩ => ⟨b1, q', b2, (hq y b1 _).mpr b3⟩⟩)
      exact ⟨fun ⟨e1, a1, a2, a3⟩ => ⟨e1, (i1 e1).mp a1, a2, (kk e1).mp a3⟩, fun ⟨e1, a1, a2, a3⟩ => ⟨e1, (i1 e1).mpr a1, a2, (kk e1).mpr a3⟩⟩
theorem TMt.k41 {R R2 : Nat → Nat → Prop} {t n : Nat} (h : TMt c r a i p E R R2 t n) : r.1 955 n ≠ 41 := by
  rcases h with ⟨S, _, _, _, K, k1, k2, k⟩ | ⟨k, _⟩ | ⟨k, _⟩ | ⟨k, _⟩ | ⟨K, C, k0, k1, k2, _⟩
  · rw [k1]
    have : nI K = (41 : Int32) ↔ K = 41 := nI_eq (b := 41) (by omega) (by decide)
    exact fun y => absurd (this.mp y) (by omega)
  · rw [k]; decide
  · rw [k]; decide
  · rw [k]; decide
  · rw [k2]
    have : nI K = (41 : Int32) ↔ K = 41 := nI_eq (b := 41) (by unfold px_row at k0; omega) (by decide)
    exact fun y => absurd (this.mp y) (by unfold px_row at k0; omega)
/-- a leaf's meaning -/
theorem Mt_leaf {n : Nat} {o : Option Nat} (h28 : r.1 955 n = 28 → ∃ y, fU r n = some y ∧ y < 0) (hk : ∃ K : Nat, r.1 955 n = nI K ∧ K < 100 ∧ K ≠ 41 ∧ K ≠ 30 ∧ K ≠ 29 ∧ K ≠ 31 ∧ K ≠ 32 ∧ K ≠ 33 ∧ K ≠ 34 ∧ K ≠ 36 ∧ K ≠ 37 ∧ K ≠ 39) : Mt r p E F n o ↔ ∃ S, LfR r p E n S ∧ S o := by
  obtain ⟨K, k1, k2, k⟩ := hk
  have ne : ∀ b : Nat, b < 100 → (nI K = nI b ↔ K = b) := fun b hb => nI_eq (by omega) (by omega)
  unfold Mt
  rw [k1]
  rw [if_neg (show ¬ nI K = (41 : Int32) from fun y => absurd ((ne 41 (by decide)).mp y) (by omega)), if_neg (show ¬ nI K = (30 : Int32) from fun y => absurd ((ne 30 (by decide)).mp y) (by omega)), if_neg (show ¬ nI K = (29 : Int32) from fun y => absurd ((ne 29 (by decide)).mp y) (by omega)), if_neg (show ¬ nI K = (31 : Int32) from fun y => absurd ((ne 31 (by decide)).mp y) (by omega)), if_neg (show ¬ nI K = (32 : Int32) from fun y => absurd ((ne 32 (by decide)).mp y) (by omega)), if_neg (show ¬ nI K = (33 : Int32) from fun y => absurd ((ne 33 (by decide)).mp y) (by omega)), if_neg (show ¬ nI K = (34 : Int32) from fun y => absurd ((ne 34 (by decide)).mp y) (by omega)), if_neg (show ¬ nI K = (36 : Int32) from fun y => absurd ((ne 36 (by decide)).mp y) (by omega)), if_neg (show ¬ nI K = (37 : Int32) from fun y => absurd ((ne 37 (by decide)).mp y) (by omega))]
  rw [k1] at h28
  constructor
  · intro h
    rcases h with ⟨u, u1, u2, u3, _⟩ | h
    · obtain ⟨y, y1, y2⟩ := h28 u2
      rw [u3] at y1
      injection y1 with y1
      rw [← y1] at y2
      exact absurd y2 (nI_pos (by omega))
    · exact h.2
  · exact fun h => Or.inr ⟨h28, h⟩
theorem Mt_cg {R : Nat → Nat → Prop} {t n : Nat} (h : TMt c r a i p E R R t n) (hn : ∀ t' n', R t' n' → n' < 13000 ∧ r.1 955 n' ≠ 39) (hF : ∀ t' n', R t' n' → ∀ o, F n' o ↔ F' n' o) (o : Option Nat) : Mt r p E F n o ↔ Mt r p E F' n o := by
  rcases h with ⟨S, _, _, k28, k⟩ | ⟨k, _, u, t', n', u1, u2, _, _, u3, u4⟩ | ⟨k, _, X, t', n', _, _, _, _, x1, x2⟩ | ⟨k, _, v, T, X, v16, _, hc, hj⟩ | ⟨K, C, k0, k1, k2, _, v, T, v12, _, hc, hj⟩
  · rw [Mt_leaf k28 k, Mt_leaf k28 k]
  · have e : (r.1 968 u).toNatClampNeg = n' := by rw [u3, nI_clamp (n := n') (by have := (hn _ _ u4).1; omega)]
    unfold Mt
    rw [k, if_neg (by decide), if_neg (by decide), if_neg (by decide), if_neg (by decide), if_neg (by decide), if_neg (by decide), if_neg (by decide), if_neg (by decide), if_neg (by decide), if_neg (by decide), if_neg (by decide), if_neg (by decide), if_neg (by decide), if_neg (by decide), if_neg (by decide), if_neg (by decide), if_neg (by decide), if_neg (by decide)]
    refine or_congr ?_ Iff.rfl
    have un : ∀ u', u' < 60 → fU r n = some (nI u') → u' = u := fun u' h1 h2 => by
      rw [u2] at h2
      injection h2 with h2
      exact ((nI_eq (by omega) (by omega)).mp h2).symm
    exact ⟨fun ⟨u', a1, a2, a3, a4⟩ => by rw [un u' a1 a3, e] at a4; exact ⟨u, u1, a2, u2, by rw [e]; exact (hF _ _ u4 o).mp a4⟩, fun ⟨u', a1, a2, a3, a4⟩ => by rw [un u' a1 a3, e] at a4; exact ⟨u, u1, a2, u2, by rw [e]; exact (hF _ _ u4 o).mpr a4⟩⟩
  · have e := gn_0 x1 (hn _ _ x2).1
    unfold Mt
    rw [k, if_neg (by decide), if_pos rfl, if_neg (by decide), if_pos rfl, e]
    exact ⟨fun ⟨q, a1, a2, a3, a4⟩ => ⟨q, a1, a2, a3, (hF _ _ x2 _).mp a4⟩, fun ⟨q, a1, a2, a3, a4⟩ => ⟨q, a1, a2, a3, (hF _ _ x2 _).mpr a4⟩⟩
  · have ec := ch_cn hc v16
    unfold Mt
    rw [k, if_neg (by decide), if_neg (by decide), if_pos rfl, if_neg (by decide), if_neg (by decide), if_pos rfl, ec]
    have ff : ∀ j, j < v → ∀ o, F (gn r (gn r n j) 0) o ↔ F' (gn r (gn r n j) 0) o := fun j jv o => by
      obtain ⟨_, _, _, _, t', n', _, b1, b2⟩ := hj j jv
      rw [gn_0 b1 (hn _ _ b2).1]
      exact hF _ _ b2 o
    exact ⟨fun ⟨q, a1, a2, a3, a4⟩ => ⟨q, a1, a2, fun j jv => by obtain ⟨o', b1, b2⟩ := a3 j jv; exact ⟨o', b1, (ff j jv _).mp b2⟩, a4⟩, fun ⟨q, a1, a2, a3, a4⟩ => ⟨q, a1, a2, fun j jv => by obtain ⟨o', b1, b2⟩ := a3 j jv; exact ⟨o', b1, (ff j jv _).mpr b2⟩, a4⟩⟩
  · have ec := ch_cn hc (by omega)
    have f1 : K ≠ 31 → ∀ j, j < v → ∀ o, F (gn r n j) o ↔ F' (gn r n j) o := fun hk j jv o => by
      rcases (hj j jv).2 with b | ⟨b, _⟩
      · exact hF _ _ b o
      · exact absurd b hk
    unfold Mt
    rw [k2, ec]
    rcases k0 with ⟨rfl, _⟩ | ⟨rfl, _⟩ | ⟨rfl, _⟩ | ⟨rfl, _⟩ | ⟨rfl, _⟩ | ⟨rfl, _⟩ | ⟨rfl, _⟩
    · rw [if_neg (by decide), if_neg (by decide), if_neg (by decide), if_pos (by decide), if_neg (by decide), if_neg (by decide), if_neg (by decide), if_pos (by decide)]
      have rr : ∀ q m e, rcS r F n q m v e ↔ rcS r F' n q m v e := fun q m e => rc_cg (v := v) (fun j jv => by
        rcases (hj j jv).2 with b | ⟨_, _, _, _, b5, _, v', T', v0, v12', _, b6, b7⟩
        · exact Or.inl ⟨(hn _ _ b).2, hF _ _ b⟩
        · refine Or.inr ⟨b5, fun y hy o => ?_⟩
          rw [ch_cn b6 (by omega)] at hy
          exact hF _ _ (b7 y hy).2 o) v (Nat.le_refl _) e
      exact ⟨fun ⟨q, m, a1, a2, a3, a4, a5⟩ => ⟨q, m, a1, a2, a3, a4, (rr q m m).mp a5⟩, fun ⟨q, m, a1, a2, a3, a4, a5⟩ => ⟨q, m, a1, a2, a3, a4, (rr q m m).mpr a5⟩⟩
    · have f1 := f1 (by decide)
      rw [if_neg (by decide), if_neg (by decide), if_neg (by decide), if_neg (by decide), if_pos (by decide), if_neg (by decide), if_neg (by decide), if_neg (by decide), if_neg (by decide), if_pos (by decide)]
      exact and_congr Iff.rfl ⟨fun y j jv z => y j jv ((f1 j jv o).mpr z), fun y j jv z => y j jv ((f1 j jv o).mp z)⟩
    · have f1 := f1 (by decide)
      rw [if_neg (by decide), if_neg (by decide), if_neg (by decide), if_neg (by decide), if_neg (by decide), if_pos (by decide), if_neg (by decide), if_neg (by decide), if_neg (by decide), if_neg (by decide), if_neg (by decide), if_pos (by decide)]
      exact ⟨fun y j jv => (f1 j jv o).mp (y j jv), fun y j jv => (f1 j jv o).mpr (y j jv)⟩
    · have f1 := f1 (by decide)
      rw [if_neg (by decide), if_neg (by decide), if_neg (by decide), if_neg (by decide), if_neg (by decide), if_neg (by decide), if_pos (by decide), if_neg (by decide), if_neg (by decide), if_neg (by decide), if_neg (by decide), if_neg (by decide), if_neg (by decide), if_pos (by decide)]
      exact ⟨fun ⟨j, jv, y⟩ => ⟨j, jv, (f1 j jv o).mp y⟩, fun ⟨j, jv, y⟩ => ⟨j, jv, (f1 j jv o).mpr y⟩⟩
    · have f1 := f1 (by decide)
      rw [if_neg (by decide), if_neg (by decide), if_neg (by decide), if_neg (by decide), if_neg (by decide), if_neg (by decide), if_neg (by decide), if_pos (by decide), if_neg (by decide), if_neg (by decide), if_neg (by decide), if_neg (by decide), if_neg (by decide), if_neg (by decide), if_neg (by decide), if_pos (by decide)]
      have kk : ∀ q m, kp_L (fun x y => y < v ∧ ∃ q', eL r q x q' ∧ F (gn r n y) (some q')) m ↔ kp_L (fun x y => y < v ∧ ∃ q', eL r q x q' ∧ F' (gn r n y) (some q')) m := fun q m => kp_cg (fun x y _ => ⟨fun ⟨b1, q', b2, b3⟩ => ⟨b1, q', b2, (f1 y b1 _).mp b3⟩, fun ⟨b1, q', b2, b3⟩ => ⟨b1, q', b2, (f1 y b1 _).mpr b3⟩⟩)
      exact ⟨fun ⟨q, m, a1, a2, a3, a4, a5⟩ => ⟨q, m, a1, a2, a3, a4, (kk q m).mp a5⟩, fun ⟨q, m, a1, a2, a3, a4, a5⟩ => ⟨q, m, a1, a2, a3, a4, (kk q m).mpr a5⟩⟩
    · have f1 := f1 (by decide)
      rw [if_neg (by decide), if_neg (by decide), if_neg (by decide), if_neg (by decide), if_neg (by decide), if_neg (by decide), if_neg (by decide), if_neg (by decide), if_pos (by decide), if_neg (by decide), if_neg (by decide), if_neg (by decide), if_neg (by decide), if_neg (by decide), if_neg (by decide), if_neg (by decide), if_neg (by decide), if_pos (by decide)]
      have kk : ∀ q m, kp_L (fun y x => x < m ∧ ∃ q', eL r q x q' ∧ F (gn r n y) (some q')) v ↔ kp_L (fun y x => x < m ∧ ∃ q', eL r q x q' ∧ F' (gn r n y) (some q')) v := fun q m => kp_cg (fun y x b0 => ⟨fun ⟨b1, q', b2, b3⟩ => ⟨b1, q', b2, (f1 y b0 _).mp b3⟩, fun ⟨b1, q', b2, b3⟩ => ⟨b1, q', b2, (f1 y b0 _).mpr b3⟩⟩)
      exact ⟨fun ⟨q, m, a1, a2, a3, a4, a5⟩ => ⟨q, m, a1, a2, a3, a4, (kk q m).mp a5⟩, fun ⟨q, m, a1, a2, a3, a4, a5⟩ => ⟨q, m, a1, a2, a3, a4, (kk q m).mpr a5⟩⟩
    · exact absurd rfl k1
/-- more turns change nothing -/
theorem Mf_st : ∀ f t n, TM c r a i p E NS f t n → ∀ k, 2 * f ≤ k → ∀ o, Mf r p E k n o ↔ Mf r p E (k + 1) n o := by
  intro f
  induction f with
  | zero => intro t n h; exact (TM_0 h).elim
  | succ f ih =>
    intro t n h k hk o
    obtain ⟨k, rfl⟩ : ∃ y, k = y + 2 := ⟨k - 2, by omega⟩
    obtain ⟨_, _, _, _, b, _, _, _, h⟩ := TM_s.mp h
    rcases h with ⟨_, _, h⟩ | ⟨_, k41, n0, lo, hi, x1, _, _, _, _, _, _, x2, _, h⟩
    · show (_ ∨ Mt r p E (Mf r p E (k + 1)) n o) ↔ (_ ∨ Mt r p E (Mf r p E (k + 2)) n o)
      exact or_congr Iff.rfl (Mt_cg (h.mono (fun _ _ y => y) (fun _ _ y => y.dn)) (fun t' n' y => ⟨y.at.2.2.1, y.at.2.2.2.2⟩) (fun t' n' y => ih t' n' y (k + 1) (by omega)) o)
    · show (_ ∨ Mt r p E (Mf r p E (k + 1)) n o) ↔ (_ ∨ Mt r p E (Mf r p E (k + 2)) n o)
      refine or_congr Iff.rfl ?_
      unfold Mt
      rw [if_pos k41, if_pos k41, gn_0 x1 x2]
      refine and_congr Iff.rfl ?_
      show (_ ∨ Mt r p E (Mf r p E k) n0 o) ↔ (_ ∨ Mt r p E (Mf r p E (k + 1)) n0 o)
      exact or_congr Iff.rfl (Mt_cg (h.mono (fun _ _ y => y) (fun _ _ y => y.dn)) (fun t' n' y => ⟨y.at.2.2.1, y.at.2.2.2.2⟩) (fun t' n' y => ih t' n' y k (by omega)) o)
/-- what a templ means, for good -/
def Mn (r : t_S) (p E : Nat) (n : Nat) (o : Option Nat) : Prop := Mf r p E 1000 n o
theorem Mf_up {f t n : Nat} (h : TM c r a i p E NS f t n) (o : Option Nat) : ∀ d k, 2 * f ≤ k → (Mf r p E k n o ↔ Mf r p E (k + d) n o) := by
  intro d
  induction d with
  | zero => intro k _; exact Iff.rfl
  | succ d ih => intro k hk; exact (ih k hk).trans (Mf_st f t n h (k + d) (by omega) o)
theorem Mn_is {f t n k : Nat} (h : TM c r a i p E NS f t n) (hk : 2 * f ≤ k) (hk2 : k ≤ 1000) (o : Option Nat) : Mf r p E k n o ↔ Mn r p E n o := by
  have := Mf_up h o (1000 - k) k hk
  rw [show k + (1000 - k) = 1000 by omega] at this
  exact this
/-- a templ's meaning out of its parts' -/
theorem Mn_un {f t n : Nat} (h : TMt c r a i p E (TM c r a i p E NS f) (TM c r a i p E NS (f - 1)) t n) (hf : 2 * f + 5 ≤ 1000) (o : Option Nat) : Mn r p E n o ↔ (o = none ∧ r.1 961 n = 1) ∨ Mt r p E (Mn r p E) n o := by
  show (_ ∨ Mt r p E (Mf r p E 999) n o) ↔ _
  exact or_congr Iff.rfl (Mt_cg (h.mono (fun _ _ y => y) (fun _ _ y => y.dn)) (fun t' n' y => ⟨y.at.2.2.1, y.at.2.2.2.2⟩) (fun t' n' y => Mn_is y (by omega) (by omega)) o)
theorem Mn_41 {f t n n0 : Nat} (h : TMt c r a i p E (TM c r a i p E NS f) (TM c r a i p E NS (f - 1)) t n0) (hf : 2 * f + 5 ≤ 1000) (hk : r.1 955 n = 41) (x1 : r.1 959 n = nI n0) (x2 : n0 < 13000) (o : Option Nat) : Mn r p E n o ↔ (o = none ∧ r.1 961 n = 1) ∨ Mt r p E (Mn r p E) n o := by
  show (_ ∨ Mt r p E (Mf r p E 999) n o) ↔ _
  refine or_congr Iff.rfl ?_
  unfold Mt
  rw [if_pos hk, if_pos hk, gn_0 x1 x2]
  refine and_congr Iff.rfl ?_
  show (_ ∨ Mt r p E (Mf r p E 998) n0 o) ↔ (_ ∨ Mt r p E (Mf r p E 999) n0 o)
  exact or_congr Iff.rfl (Mt_cg (h.mono (fun _ _ y => y) (fun _ _ y => y.dn)) (fun t' n' y => ⟨y.at.2.2.1, y.at.2.2.2.2⟩) (fun t' n' y => Mf_st f t' n' y 998 (by omega)) o)
end
