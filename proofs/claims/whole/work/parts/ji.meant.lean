/-! Level 2: what a templ means, and how both sides' templs hang together. -/
/-- a truth as a number -/
noncomputable def bZ (P : Prop) : Int32 := @ite Int32 P (Classical.propDecidable P) 1 0
theorem bZ_t {P : Prop} (h : P) : bZ P = 1 := by unfold bZ; rw [if_pos h]
theorem bZ_f {P : Prop} (h : ¬ P) : bZ P = 0 := by unfold bZ; rw [if_neg h]
theorem bZ_i {P Q : Prop} (h : P ↔ Q) : bZ P = bZ Q := by rw [propext h]
theorem bZ_1 {P : Prop} : bZ P = 1 ↔ P := ⟨fun y => Classical.byContradiction (fun z => by rw [bZ_f z] at y; exact absurd y (by decide)), bZ_t⟩
theorem bZ_0 {P : Prop} : bZ P = 0 ↔ ¬ P := ⟨fun y z => by rw [bZ_t z] at y; exact absurd y (by decide), bZ_f⟩
theorem bZ_01 {P : Prop} : bZ P = 0 ∨ bZ P = 1 := by
  by_cases h : P
  · exact Or.inr (bZ_t h)
  · exact Or.inl (bZ_f h)
/-- the parts that hang at a node of the reference -/
def pt (r : t_S) (n : Nat) : Nat → Int32
  | 0 => r.1 959 n
  | i + 1 => r.1 960 (pt r n i).toNatClampNeg
def gn (r : t_S) (n i : Nat) : Nat := (pt r n i).toNatClampNeg
def cn (r : t_S) (n : Nat) : Nat := ff (fun i => if pt r n i < 0 then 1 else 0) 1 20 0
theorem ch_pt {r : t_S} {n v : Nat} {G : Nat → Nat} (h : ch_R r n v G) : ∀ j, (j < v → pt r n j = nI (G j)) ∧ (j = v → pt r n j = -1) := by
  intro j
  induction j with
  | zero =>
    have e : pt r n 0 = r.1 959 n := rfl
    rw [e, h.1]
    exact ⟨fun y => if_pos y, fun y => if_neg (by omega)⟩
  | succ j ih =>
    have e : pt r n (j + 1) = r.1 960 (pt r n j).toNatClampNeg := rfl
    have st : j < v → pt r n (j + 1) = (if j + 1 < v then nI (G (j + 1)) else -1) := fun y => by
      obtain ⟨g1, _, g3, _⟩ := h.2 j y
      rw [e, ih.1 y, nI_clamp (n := G j) (by omega), g3]
    exact ⟨fun y => by rw [st (by omega), if_pos y], fun y => by rw [st (by omega), if_neg (by omega)]⟩
theorem ch_gn {r : t_S} {n v : Nat} {G : Nat → Nat} (h : ch_R r n v G) (hv : v ≤ 16) : cn r n = v ∧ ∀ j, j < v → gn r n j = G j := by
  have pj := ch_pt h
  refine ⟨?_, fun j hj => by unfold gn; rw [(pj j).1 hj, nI_clamp (n := G j) (by have := (h.2 j hj).1; omega)]⟩
  obtain ⟨f1, f2, f3, f4⟩ := ff_at (X := fun i => if pt r n i < 0 then 1 else 0) (x := 1) 20 0
  have lo : ∀ j, j < v → (if pt r n j < 0 then 1 else 0) ≠ 1 := fun j hj => by
    rw [(pj j).1 hj, if_neg (nI_pos (by have := (h.2 j hj).1; omega))]
    decide
  have hi : (if pt r n v < 0 then 1 else 0) = 1 := by rw [(pj v).2 rfl, if_pos (by decide)]
  have e : cn r n = ff (fun i => if pt r n i < 0 then 1 else 0) 1 20 0 := rfl
  rw [e]
  have le : ¬ v < ff (fun i => if pt r n i < 0 then 1 else 0) 1 20 0 := fun y => f3 v (Nat.zero_le _) y hi
  have ge : ¬ ff (fun i => if pt r n i < 0 then 1 else 0) 1 20 0 < v := fun y => lo _ y (f4 (by omega))
  omega
/-- what holding against templs writes: the reference, the class -/
def rmW (b _j : Nat) : Prop := b = 1028 ∨ (1031 ≤ b ∧ b ≤ 1033)
def cmW (b j : Nat) : Prop := b = 424 ∨ b = 426 ∨ b = 427 ∨ (b = 353 ∧ j = 20)
section
variable (c r : t_S) (a i p E : Nat)
/-- a templ without parts: what both sides say of it -/
def LfR (n : Nat) (S : Option Nat → Prop) : Prop := ∀ (rc : RT_X13_assign) (s : t_S), l2_fr rmW r s → (∀ x, x < E → r.2.1 1006 (wq (r.2.1 1006) p x) ≠ lN 4 → m_X13_toneMatch rc (nI n) (nI (wq (r.2.1 1006) p x)) s = some (bZ (S (some (wq (r.2.1 1006) p x))), s)) ∧ m_X13_omitMatch rc (nI n) s = some (bZ (S none), s)
def LfC (t : Nat) (S : Option Nat → Prop) : Prop := ∀ (rc : RT_X10_behindPerm) (s : t_S) (dp : Int32), l2_fr cmW c s → (∀ x, x < E → r.2.1 1006 (wq (r.2.1 1006) p x) ≠ lN 4 → k_X10_matches_61 rc (nI t) (nI (wv (c.2.1 a) i x - i)) dp s = some (bZ (S (some (wq (r.2.1 1006) p x))), s)) ∧ k_X10_matches_61 rc (nI t) (-1) dp s = some (bZ (S none), s)
/-- the template that a node names -/
noncomputable def fU (n : Nat) : Option Int32 := f_X13_find 967 0 (r.1 950 44) ((r.2.1 957 n).toInt32) r
/-- an element, a field of the part at q -/
def eL (q e q' : Nat) : Prop := f_X13_partOf (nI q) (nI e) r = some (nI q') ∧ q' < 626600
def fO (q g : Nat) (o : Option Nat) : Prop := ∃ y, f_X13_fieldOf (nI q) (r.2.1 957 g) r = some y ∧ ((y < 0 ∧ o = none) ∨ ∃ q', y = nI q' ∧ q' < 626600 ∧ o = some q')
noncomputable def fP (q g : Nat) : Nat := match f_X13_fieldOf (nI q) (r.2.1 957 g) r with
  | some y => if y < 0 then 0 else 1
  | none => 0
/-- a piece that takes any number of elements -/
def isS (g : Nat) : Prop := r.1 955 g = 21 ∧ r.1 961 g = 0
/-- how many elements the first pieces may take, of m -/
def rcS (F : Nat → Option Nat → Prop) (n q m : Nat) : Nat → Nat → Prop
  | 0, e => e = 0
  | u + 1, e' => e' ≤ m ∧ ((isS r (gn r n u) ∧ ∃ e, e ≤ e' ∧ rcS F n q m u e) ∨
      (r.1 955 (gn r n u) = 39 ∧ ∃ e, rcS F n q m u e ∧ e' = e + cn r (gn r n u) ∧ kp_L (fun x y => y < cn r (gn r n u) ∧ ∃ q', eL r q (e + x) q' ∧ F (gn r (gn r n u) y) (some q')) (cn r (gn r n u))) ∨
      (¬ isS r (gn r n u) ∧ r.1 955 (gn r n u) ≠ 39 ∧ ∃ e q', rcS F n q m u e ∧ e' = e + 1 ∧ eL r q e q' ∧ F (gn r n u) (some q')))
/-- what a tone means, F: what its parts do -/
def Mt (F : Nat → Option Nat → Prop) (n : Nat) (o : Option Nat) : Prop :=
  if r.1 955 n = 41 then (∃ q, o = some q ∧ (r.2.1 1006 q = lN 2 ∨ r.2.1 1006 q = lN 8) ∧ (r.2.1 957 n).toInt ≤ (r.2.1 1006 (q + 1)).toInt ∧ (r.2.1 1006 (q + 1)).toInt ≤ (r.2.1 958 n).toInt) ∧ F (gn r n 0) o
  else if r.1 955 n = 30 then ∃ q, o = some q ∧ r.2.1 1006 q = lN 7 ∧ r.2.1 1006 (q + 1) = r.2.1 957 n ∧ F (gn r n 0) (some (q + 2))
  else if r.1 955 n = 29 then ∃ q, o = some q ∧ r.2.1 1006 q = lN 6 ∧ (∀ j, j < cn r n → ∃ o', fO r q (gn r n j) o' ∧ F (gn r (gn r n j) 0) o') ∧ r.2.1 1006 (q + 1) = lN (sy_cn (fun j => fP r q (gn r n j)) (cn r n))
  else if r.1 955 n = 31 then ∃ q m, o = some q ∧ r.2.1 1006 q = lN 8 ∧ r.2.1 1006 (q + 1) = lN m ∧ m ≤ 16 ∧ rcS r F n q m (cn r n) m
  else if r.1 955 n = 32 then (∃ q, o = some q) ∧ ∀ j, j < cn r n → ¬ F (gn r n j) o
  else if r.1 955 n = 33 then ∀ j, j < cn r n → F (gn r n j) o
  else if r.1 955 n = 34 then ∃ j, j < cn r n ∧ F (gn r n j) o
  else if r.1 955 n = 36 then ∃ q m, o = some q ∧ r.2.1 1006 q = lN 8 ∧ r.2.1 1006 (q + 1) = lN m ∧ m ≤ 16 ∧ kp_L (fun x y => y < cn r n ∧ ∃ q', eL r q x q' ∧ F (gn r n y) (some q')) m
  else if r.1 955 n = 37 then ∃ q m, o = some q ∧ r.2.1 1006 q = lN 8 ∧ r.2.1 1006 (q + 1) = lN m ∧ m ≤ 16 ∧ kp_L (fun y x => x < m ∧ ∃ q', eL r q x q' ∧ F (gn r n y) (some q')) (cn r n)
  else (∃ u, u < 60 ∧ r.1 955 n = 28 ∧ fU r n = some (nI u) ∧ F (r.1 968 u).toNatClampNeg o) ∨ ((r.1 955 n = 28 → ∃ y, fU r n = some y ∧ y < 0) ∧ ∃ S, LfR r p E n S ∧ S o)
/-- what a templ means -/
def Mf : Nat → Nat → Option Nat → Prop
  | 0, _, _ => False
  | k + 1, n, o => (o = none ∧ r.1 961 n = 1) ∨ Mt r p E (Mf k) n o
/-- a tone on both sides, R: how its parts hang together, R2: those of a perm -/
def TMt (R R2 : Nat → Nat → Prop) (t n : Nat) : Prop :=
  (∃ S, LfC c r a i p E t S ∧ LfR r p E n S ∧ (r.1 955 n = 28 → ∃ y, fU r n = some y ∧ y < 0) ∧ ∃ K : Nat, r.1 955 n = nI K ∧ K < 100 ∧ K ≠ 41 ∧ K ≠ 30 ∧ K ≠ 29 ∧ K ≠ 31 ∧ K ≠ 32 ∧ K ≠ 33 ∧ K ≠ 34 ∧ K ≠ 36 ∧ K ≠ 37 ∧ K ≠ 39) ∨
  (r.1 955 n = 28 ∧ c.1 354 t = 7 ∧ ∃ u t' n', u < 60 ∧ fU r n = some (nI u) ∧ c.1 357 t = nI u ∧ c.1 (364 + u) 0 = nI t' ∧ r.1 968 u = nI n' ∧ R t' n') ∨
  (r.1 955 n = 30 ∧ c.1 354 t = 9 ∧ ∃ X t' n', X < 7934 ∧ c.1 357 t = nI (66 + X) ∧ r.2.1 957 n = lN X ∧ c.1 355 t = nI t' ∧ r.1 959 n = nI n' ∧ R t' n') ∨
  (r.1 955 n = 29 ∧ c.1 354 t = 8 ∧ ∃ (v : Nat) (T X : Nat → Nat), v ≤ 16 ∧ tc_R c t v T ∧ ch_R r n v (gn r n) ∧ ∀ j, j < v → T j < 6100 ∧ X j < 7934 ∧ c.1 357 (T j) = nI (66 + X j) ∧ r.2.1 957 (gn r n j) = lN (X j) ∧ ∃ t' n', c.1 355 (T j) = nI t' ∧ r.1 959 (gn r n j) = nI n' ∧ R t' n') ∨
  (∃ K C : Nat, px_row K C ∧ K ≠ 39 ∧ r.1 955 n = nI K ∧ c.1 354 t = nI C ∧ ∃ (v : Nat) (T : Nat → Nat), v ≤ 12 ∧ tc_R c t v T ∧ ch_R r n v (gn r n) ∧ ∀ j, j < v → T j < 6100 ∧ (R (T j) (gn r n j) ∨ (K = 31 ∧ c.1 354 (T j) = 18 ∧ c.1 359 (T j) = 0 ∧ c.1 360 (T j) = 0 ∧ r.1 955 (gn r n j) = 39 ∧ r.1 961 (gn r n j) = 0 ∧ ∃ (v' : Nat) (T' : Nat → Nat), 0 < v' ∧ v' ≤ 12 ∧ tc_R c (T j) v' T' ∧ ch_R r (gn r n j) v' (gn r (gn r n j)) ∧ ∀ j', j' < v' → T' j' < 6100 ∧ R2 (T' j') (gn r (gn r n j) j'))))
/-- a templ on both sides -/
def TN (NS : Nat → Prop) (R R2 : Nat → Nat → Prop) (t n : Nat) : Prop := NS n ∧ t < 6100 ∧ n < 13000 ∧ c.1 354 t ≠ 18 ∧ ∃ b : Nat, b ≤ 1 ∧ c.1 360 t = nI b ∧ r.1 961 n = nI b ∧
    ((c.1 359 t = 0 ∧ (c.1 354 t = 2 ↔ r.1 955 n = 21) ∧ TMt c r a i p E R R2 t n) ∨
     (c.1 359 t ≠ 0 ∧ r.1 955 n = 41 ∧ ∃ n0 lo hi : Nat, r.1 959 n = nI n0 ∧ lo ≤ 40 ∧ hi ≤ 40 ∧ r.2.1 957 n = lN lo ∧ r.2.1 958 n = lN hi ∧ c.1 359 t = nI (1 + 256 * lo + 65536 * hi) ∧ NS n0 ∧ n0 < 13000 ∧ r.1 961 n0 = 0 ∧ TMt c r a i p E R R2 t n0))
def TMp (NS : Nat → Prop) : Nat → (Nat → Nat → Prop) × (Nat → Nat → Prop)
  | 0 => (fun _ _ => False, fun _ _ => False)
  | f + 1 => (TN c r a i p E NS (TMp NS f).1 (TMp NS f).2, (TMp NS f).1)
def TM (NS : Nat → Prop) (f t n : Nat) : Prop := (TMp c r a i p E NS f).1 t n
end
section
variable {c r : t_S} {a i p E : Nat} {NS : Nat → Prop}
theorem TM_s {f t n : Nat} : TM c r a i p E NS (f + 1) t n ↔ TN c r a i p E NS (TM c r a i p E NS f) (TM c r a i p E NS (f - 1)) t n := by
  cases f with
  | zero => exact Iff.rfl
  | succ f => exact Iff.rfl
theorem TM_0 {t n : Nat} (h : TM c r a i p E NS 0 t n) : False := h
theorem TM.at {f t n : Nat} (h : TM c r a i p E NS f t n) : NS n ∧ t < 6100 ∧ n < 13000 ∧ c.1 354 t ≠ 18 ∧ r.1 955 n ≠ 39 := by
  cases f with
  | zero => exact (TM_0 h).elim
  | succ f =>
    obtain ⟨h1, h2, h3, h4, b, b1, b2, b3, h⟩ := TM_s.mp h
    refine ⟨h1, h2, h3, h4, ?_⟩
    rcases h with ⟨_, _, h⟩ | ⟨_, h, _⟩
    · rcases h with ⟨S, _, _, _, K, k1, k2, k⟩ | ⟨k, _⟩ | ⟨k, _⟩ | ⟨k, _⟩ | ⟨K, C, k0, k1, k2, _⟩
      · rw [k1]
        have : nI K = (39 : Int32) ↔ K = 39 := nI_eq (b := 39) (by omega) (by decide)
        exact fun y => absurd (this.mp y) (by omega)
      · rw [k]; decide
      · rw [k]; decide
      · rw [k]; decide
      · rw [k2]
        have : nI K = (39 : Int32) ↔ K = 39 := nI_eq (b := 39) (by unfold px_row at k0; omega) (by decide)
        exact fun y => absurd (this.mp y) k1
    · rw [h]; decide
theorem TMt.mono {R R2 S S2 : Nat → Nat → Prop} {t n : Nat} (h : TMt c r a i p E R R2 t n) (h1 : ∀ t n, R t n → S t n) (h2 : ∀ t n, R2 t n → S2 t n) : TMt c r a i p E S S2 t n := by
  rcases h with h | ⟨k, k2, u, t', n', u1, u2, u3, u4, u5, u6⟩ | ⟨k, k2, X, t', n', x0, x1, x2, x3, x4, x5⟩ | ⟨k, k2, v, T, X, v16, hT, hc, hj⟩ | ⟨K, C, k0, k1, k2, k3, v, T, v12, hT, hc, hj⟩
  · exact Or.inl h
  · exact Or.inr (Or.inl ⟨k, k2, u, t', n', u1, u2, u3, u4, u5, h1 _ _ u6⟩)
  · exact Or.inr (Or.inr (Or.inl ⟨k, k2, X, t', n', x0, x1, x2, x3, x4, h1 _ _ x5⟩))
  · refine Or.inr (Or.inr (Or.inr (Or.inl ⟨k, k2, v, T, X, v16, hT, hc, fun j jv => ?_⟩)))
    obtain ⟨a1, a2, a3, a4, t', n', a5, a6, a7⟩ := hj j jv
    exact ⟨a1, a2, a3, a4, t', n', a5, a6, h1 _ _ a7⟩
  · refine Or.inr (Or.inr (Or.inr (Or.inr ⟨K, C, k0, k1, k2, k3, v, T, v12, hT, hc, fun j jv => ?_⟩)))
    obtain ⟨a1, a2⟩ := hj j jv
    refine ⟨a1, ?_⟩
    rcases a2 with a2 | ⟨b1, b2, b3, b4, b5, b6, v', T', b7, b8, b9, b10, b11⟩
    · exact Or.inl (h1 _ _ a2)
    · exact Or.inr ⟨b1, b2, b3, b4, b5, b6, v', T', b7, b8, b9, b10, fun j' hj' => ⟨(b11 j' hj').1, h2 _ _ (b11 j' hj').2⟩⟩
theorem TM.up : ∀ f t n, TM c r a i p E NS f t n → TM c r a i p E NS (f + 1) t n := by
  intro f
  induction f using Nat.strongRecOn with
  | ind f ih =>
    intro t n h
    cases f with
    | zero => exact (TM_0 h).elim
    | succ f =>
      have d : ∀ t n, TM c r a i p E NS (f - 1) t n → TM c r a i p E NS (f + 1 - 1) t n := fun t n h => by
        cases f with
        | zero => exact (TM_0 h).elim
        | succ f => exact ih f (by omega) t n h
      obtain ⟨h1, h2, h3, h4, b, b1, b2, b3, h⟩ := TM_s.mp h
      refine TM_s.mpr ⟨h1, h2, h3, h4, b, b1, b2, b3, ?_⟩
      rcases h with ⟨a1, a2, a3⟩ | ⟨a1, a2, n0, lo, hi, a3, a4, a5, a6, a7, a8, a9, a10, a11, a12⟩
      · exact Or.inl ⟨a1, a2, a3.mono (ih f (by omega)) d⟩
      · exact Or.inr ⟨a1, a2, n0, lo, hi, a3, a4, a5, a6, a7, a8, a9, a10, a11, a12.mono (ih f (by omega)) d⟩
theorem TM.dn {f t n : Nat} (h : TM c r a i p E NS (f - 1) t n) : TM c r a i p E NS f t n := by
  cases f with
  | zero => exact (TM_0 h).elim
  | succ f => exact TM.up f t n h
theorem gn_0 {n n' : Nat} (h : r.1 959 n = nI n') (hn : n' < 13000) : gn r n 0 = n' := by
  show (r.1 959 n).toNatClampNeg = n'
  rw [h, nI_clamp (n := n') (by omega)]
end
