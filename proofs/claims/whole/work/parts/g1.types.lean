/-! Level 2: types as they stand behind a module, on both sides; what a name is; words, fields, ranges searched. -/
def MTn (T a m : Nat) (R : Nat → Nat → Prop) (s : t_S) (n k K : Nat) : Prop :=
  (K = 1 ∧ ty_I s s n k a m) ∨ K = 2 ∨ (K = 3 ∧ ty_S s s n k 40) ∨ (K = 4 ∧ ty_E s s n k m 6002) ∨
  ((K = 5 ∨ K = 6) ∧ ∃ (v : Nat) (F G X O : Nat → Nat), v ≤ 16 ∧ (K = 6 → 0 < v) ∧ s.1 321 n = nI v ∧ cc_R s n v F ∧ ch_R s k v G ∧ (∀ i j, i < j → j < v → X i ≠ X j) ∧ ∀ j, j < v → (F j < a ∧ G j < m) ∧ ty_f s s (F j) (G j) (X j) (O j) ∧ (K = 6 → O j = 0) ∧ ∃ n' k', s.1 318 (F j) = nI n' ∧ s.1 959 (G j) = nI k' ∧ R n' k') ∨
  (K = 7 ∧ ty_S s s n k 16 ∧ ∃ n' k', s.1 318 n = nI n' ∧ s.1 959 k = nI k' ∧ R n' k') ∨
  (K = 8 ∧ ∃ v X : Nat, v < T ∧ s.1 321 n = nI v ∧ X < 7934 ∧ s.2.1 957 k = lN X ∧ f_X13_find 964 0 (nI T) (nI X) s = some (nI v))
/-- types behind a module: T of them, a nodes in the class, m in the reference; R: nodes that are one -/
def MT (T a m : Nat) (R : Nat → Nat → Prop) (s : t_S) : Prop := (a ≤ 3000 ∧ m ≤ 13000 ∧ T ≤ 60 ∧ s.1 316 13 = nI T ∧ s.1 950 40 = nI T) ∧ (∀ n k, R n k → n < a ∧ k < m ∧ ∃ K : Nat, s.1 317 n = nI K ∧ s.1 955 k = nI K ∧ MTn T a m R s n k K) ∧ (∀ v, v < T → ∃ u u', s.1 326 v = nI u ∧ s.1 965 v = nI u' ∧ R u u') ∧ ∃ ρ : Nat → Nat, (∀ v, v < T → ρ v ≤ 60) ∧ ∀ v u w, v < T → s.1 326 v = nI u → s.1 317 u = 8 → s.1 321 u = nI w → w < T → ρ w < ρ v
theorem lp_cgg {σ ρ : Type} {b b' : σ → Option (σ ⊕ ρ)} (I : σ → Prop) (h : ∀ x, I x → b' x = b x) (hn : ∀ x y, I x → b x = some (.inl y) → I y) : ∀ n x, I x → t_loop b' n x = t_loop b n x := by
  intro n
  induction n with
  | zero => intro x _; rfl
  | succ n ih =>
    intro x hx
    show (match b' x with | none => none | some (.inl y) => t_loop b' n y | some (.inr r) => some r) = (match b x with | none => none | some (.inl y) => t_loop b n y | some (.inr r) => some r)
    rw [h x hx]
    cases e : b x with
    | none => rfl
    | some z =>
      cases z with
      | inl y => exact ih y (hn x y hx e)
      | inr r => rfl
theorem fd_stg {r r' : t_S} {b : Nat} {x n y : Int32} (h : ∀ j, r'.1 b j = r.1 b j) : f_X13_find b x n y r' = f_X13_find b x n y r := by
  unfold f_X13_find
  refine lp_cgg (fun y => y.1 = b) ?_ ?_ _ _ rfl
  · rintro ⟨a, l2, l3, l4, l5⟩ rfl
    show k_X13_find_3 a l2 l3 l4 l5 r' = k_X13_find_3 a l2 l3 l4 l5 r
    unfold k_X13_find_3
    rw [h]
  · rintro ⟨a, l2, l3, l4, l5⟩ y rfl e
    have e : k_X13_find_3 a l2 l3 l4 l5 r = some (.inl y) := e
    unfold k_X13_find_3 at e
    split at e
    · cases e
    · split at e
      · split at e
        · split at e
          · cases e
          · cases e; rfl
        · cases e
      · cases e
/-- what types stand on -/
def MT_W (b j : Nat) : Prop := (b = 316 ∧ j = 13) ∨ (317 ≤ b ∧ b ≤ 326 ∧ b ≠ 324) ∨ (b = 950 ∧ j = 40) ∨ (955 ≤ b ∧ b ≤ 965)
theorem MT.fr {T a m : Nat} {R : Nat → Nat → Prop} {s s' : t_S} {W : Nat → Nat → Prop} (h : MT T a m R s) (f : l2_fr W s s') (w : ∀ b j, MT_W b j → ¬ W b j) : MT T a m R s' := by
  have e1 : ∀ b j, MT_W b j → s'.1 b j = s.1 b j := fun b j q => (f b j (w b j q)).1
  have e2 : ∀ b j, MT_W b j → s'.2.1 b j = s.2.1 b j := fun b j q => (f b j (w b j q)).2.1
  have c : ∀ b j, (317 ≤ b ∧ b ≤ 326 ∧ b ≠ 324) ∨ (955 ≤ b ∧ b ≤ 965) → MT_W b j := fun b j q => by unfold MT_W; omega
  have a7 : s'.1 317 = s.1 317 := funext fun j => e1 317 j (c _ _ (by omega))
  have a8 : s'.1 318 = s.1 318 := funext fun j => e1 318 j (c _ _ (by omega))
  have a9 : s'.1 319 = s.1 319 := funext fun j => e1 319 j (c _ _ (by omega))
  have a20 : s'.1 320 = s.1 320 := funext fun j => e1 320 j (c _ _ (by omega))
  have a21 : s'.1 321 = s.1 321 := funext fun j => e1 321 j (c _ _ (by omega))
  have a22 : s'.2.1 322 = s.2.1 322 := funext fun j => e2 322 j (c _ _ (by omega))
  have a23 : s'.2.1 323 = s.2.1 323 := funext fun j => e2 323 j (c _ _ (by omega))
  have a25 : s'.1 325 = s.1 325 := funext fun j => e1 325 j (c _ _ (by omega))
  have a26 : s'.1 326 = s.1 326 := funext fun j => e1 326 j (c _ _ (by omega))
  have b5 : s'.1 955 = s.1 955 := funext fun j => e1 955 j (c _ _ (by omega))
  have b7 : s'.2.1 957 = s.2.1 957 := funext fun j => e2 957 j (c _ _ (by omega))
  have b8 : s'.2.1 958 = s.2.1 958 := funext fun j => e2 958 j (c _ _ (by omega))
  have b9 : s'.1 959 = s.1 959 := funext fun j => e1 959 j (c _ _ (by omega))
  have b0 : s'.1 960 = s.1 960 := funext fun j => e1 960 j (c _ _ (by omega))
  have b65 : s'.1 965 = s.1 965 := funext fun j => e1 965 j (c _ _ (by omega))
  have x1 : s'.1 316 13 = s.1 316 13 := e1 316 13 (Or.inl ⟨rfl, rfl⟩)
  have x2 : s'.1 950 40 = s.1 950 40 := e1 950 40 (by unfold MT_W; omega)
  have fd : ∀ X : Nat, f_X13_find 964 0 (nI T) (nI X) s' = f_X13_find 964 0 (nI T) (nI X) s := fun X => fd_stg (fun j => e1 964 j (c _ _ (by omega)))
  unfold MT MTn ty_I ty_S ty_E ty_mm ty_g ty_w ty_f cc_R ch_R
  simp only [a7, a8, a9, a20, a21, a22, a23, a25, a26, b5, b7, b8, b9, b0, b65, x1, x2, fd]
  exact h
/-- the first of d numbers from i on that is x -/
def ff (X : Nat → Nat) (x : Nat) : Nat → Nat → Nat
  | 0, i => i
  | d + 1, i => if X i = x then i else ff X x d (i + 1)
theorem ff_at {X : Nat → Nat} {x : Nat} : ∀ d i, i ≤ ff X x d i ∧ ff X x d i ≤ i + d ∧ (∀ l, i ≤ l → l < ff X x d i → X l ≠ x) ∧ (ff X x d i < i + d → X (ff X x d i) = x) := by
  intro d
  induction d with
  | zero => intro i; exact ⟨Nat.le_refl _, Nat.le_refl _, fun l h1 h2 => absurd h2 (by show ¬ l < i; omega), fun q => absurd q (by show ¬ i < i + 0; omega)⟩
  | succ d ih =>
    intro i
    unfold ff
    by_cases z : X i = x
    · rw [if_pos z]
      exact ⟨Nat.le_refl _, by omega, fun l h1 h2 => by omega, fun _ => z⟩
    · rw [if_neg z]
      obtain ⟨q1, q2, q3, q4⟩ := ih (i + 1)
      refine ⟨by omega, by omega, fun l h1 h2 => ?_, fun q => q4 (by omega)⟩
      by_cases e : l = i
      · rw [e]; exact z
      · exact q3 l (by omega) h2
theorem l2_srch {σ ρ : Type} {b : σ → Option (σ ⊕ ρ)} {Y : Nat → σ} {j : Nat} {r : ρ} (hv : j ≤ 100000) (step : ∀ i, i < j → b (Y i) = some (.inl (Y (i + 1)))) (fin : b (Y j) = some (.inr r)) : t_loop b t_N (Y 0) = some r := by
  have go : ∀ i, i ≤ j → l2_tn b i (Y 0) (Y i) := by
    intro i
    induction i with
    | zero => intro _; exact l2_tn.nil
    | succ i ih => intro hi; exact (ih (by omega)).trans (l2_tn.one (step i (by omega)))
  exact l2_tnR (go j (Nat.le_refl _)) (by omega) fin
section
variable {T a m n k v : Nat} {R : Nat → Nat → Prop} {s : t_S} {F G X O : Nat → Nat}
theorem cc_ptr {i : Nat} (h : cc_R s n v F) : (0 < i → i ≤ v → s.1 319 (F (i - 1)) = (if i < v then nI (F i) else -1)) := fun h0 hi => by
  have q := (h.2 (i - 1) (by omega)).2.2.1
  rw [show i - 1 + 1 = i by omega] at q
  exact q
/-- a field of this name in the class -/
theorem mt_fc (hn : n < 3000) (hv : v ≤ 16) (h21 : s.1 321 n = nI v) (hc : cc_R s n v F) (hF : ∀ j, j < v → s.1 320 (F j) = nI (66 + X j) ∧ X j < 7934) {x : Nat} (hx : x < 7934) : f_X11_fieldOf (nI n) (nI (66 + x)) s = some (if ff X x v 0 < v then nI (F (ff X x v 0)) else -1) := by
  obtain ⟨q1, q2, q3, q4⟩ := ff_at (X := X) (x := x) v 0
  unfold f_X11_fieldOf
  rw [if_pos (l2_ix (by omega) (by decide)), nI_clamp (n := n) (by omega), hc.1]
  have ixn : t_ix (nI n) 3001 = true := l2_ix (by omega) (by decide)
  refine l2_srch (b := b_X11_fieldOf_10 s) (Y := fun i => (nI n, nI (66 + x), (if i < v then nI (F i) else -1), nI i)) (j := ff X x v 0) (by omega) (fun i hi => ?_) ?_
  · show k_X11_fieldOf_10 (nI n) (nI (66 + x)) (if i < v then nI (F i) else -1) (nI i) s = _
    unfold k_X11_fieldOf_10
    have iv : i < v := by omega
    obtain ⟨f1, f2, f3, f4⟩ := hc.2 i iv
    rw [if_pos ixn, nI_clamp (n := n) (by omega), h21, if_neg (nI_ge iv (by omega)), if_pos iv, if_neg (nI_pos (by omega)), if_pos (l2_ix f1 (by decide)), nI_clamp (n := F i) (by omega), (hF i iv).1, if_neg (fun e => q3 i (Nat.zero_le _) hi (by have := (hF i iv).2; have := (nI_eq (by omega) (by omega)).mp e; omega)), f3, nI_1]
  · show k_X11_fieldOf_10 (nI n) (nI (66 + x)) (if ff X x v 0 < v then nI (F (ff X x v 0)) else -1) (nI (ff X x v 0)) s = _
    generalize ff X x v 0 = i at *
    unfold k_X11_fieldOf_10
    rw [if_pos ixn, nI_clamp (n := n) (by omega), h21]
    by_cases iv : i < v
    · obtain ⟨f1, f2, f3, f4⟩ := hc.2 i iv
      rw [if_neg (nI_ge iv (by omega)), if_pos iv, if_neg (nI_pos (by omega)), if_pos (l2_ix f1 (by decide)), nI_clamp (n := F i) (by omega), (hF i iv).1, q4 (by omega), if_pos rfl]
      rfl
    · rw [if_pos (nI_le (by omega) (by omega)), if_neg iv]
      rfl
/-- .. in the reference -/
theorem mt_fr (hk : k < 13000) (hv : v ≤ 16) (hc : ch_R s k v G) (hG : ∀ j, j < v → s.2.1 957 (G j) = lN (X j) ∧ X j < 7934) {x : Nat} (hx : x < 7934) : f_X13_fieldNode (nI k) (lN x) s = some (if ff X x v 0 < v then nI (G (ff X x v 0)) else -1) := by
  obtain ⟨q1, q2, q3, q4⟩ := ff_at (X := X) (x := x) v 0
  unfold f_X13_fieldNode
  rw [if_pos (l2_ix hk (by decide)), nI_clamp (n := k) (by omega), hc.1]
  refine l2_srch (b := b_X13_fieldNode_8 s) (Y := fun i => (lN x, (if i < v then nI (G i) else -1))) (j := ff X x v 0) (by omega) (fun i hi => ?_) ?_
  · show k_X13_fieldNode_8 (lN x) (if i < v then nI (G i) else -1) s = _
    unfold k_X13_fieldNode_8
    have iv : i < v := by omega
    obtain ⟨f1, f2, f3, f4⟩ := hc.2 i iv
    rw [if_pos iv, if_neg (nI_pos (by omega)), if_pos (l2_ix f1 (by decide)), nI_clamp (n := G i) (by omega), (hG i iv).1, if_neg (fun e => q3 i (Nat.zero_le _) hi (by have := (hG i iv).2; exact (lN_eq (by omega) (by omega)).mp (l2_cmp0.mp e))), f3]
  · show k_X13_fieldNode_8 (lN x) (if ff X x v 0 < v then nI (G (ff X x v 0)) else -1) s = _
    generalize ff X x v 0 = i at *
    unfold k_X13_fieldNode_8
    by_cases iv : i < v
    · obtain ⟨f1, f2, f3, f4⟩ := hc.2 i iv
      rw [if_pos iv, if_neg (nI_pos (by omega)), if_pos (l2_ix f1 (by decide)), nI_clamp (n := G i) (by omega), (hG i iv).1, q4 (by omega), if_pos (l2_cmp0.mpr rfl)]
      rfl
    · rw [if_neg iv, if_pos (by decide)]
      rfl
/-- whether a node has a part of this name or word, in the reference -/
theorem mt_hp (hk : k < 13000) (hv : v ≤ 16) (hc : ch_R s k v G) (hG : ∀ j, j < v → s.2.1 957 (G j) = lN (X j) ∧ X j < 7934) {x : Nat} (hx : x < 7934) : f_X13_hasPart (nI k) (lN x) s = some (if ff X x v 0 < v then 1 else 0) := by
  obtain ⟨q1, q2, q3, q4⟩ := ff_at (X := X) (x := x) v 0
  unfold f_X13_hasPart
  rw [if_pos (l2_ix hk (by decide)), nI_clamp (n := k) (by omega), hc.1]
  have := l2_srch (b := b_X13_hasPart_11 s) (Y := fun i => (lN x, (if ff X x v 0 < i then 1 else 0 : Int32), (if i < v then nI (G i) else -1))) (j := v) (r := (if ff X x v 0 < v then 1 else 0)) (by omega) (fun i iv => ?_) ?_
  · exact this
  · show k_X13_hasPart_11 (lN x) (if ff X x v 0 < i then 1 else 0) (if i < v then nI (G i) else -1) s = _
    unfold k_X13_hasPart_11 k_X13_hasPart_33 k_X13_hasPart_38
    obtain ⟨f1, f2, f3, f4⟩ := hc.2 i iv
    have ix : t_ix (nI (G i)) 13000 = true := l2_ix f1 (by decide)
    rw [if_pos iv, if_neg (nI_pos (by omega)), if_pos ix, if_pos ix, nI_clamp (n := G i) (by omega), (hG i iv).1, f3]
    by_cases z : ff X x v 0 < i
    · rw [if_pos z, if_neg (show ¬ (1 : Int32) = 0 by decide), if_pos (show ff X x v 0 < i + 1 by omega)]
    · rw [if_neg z, if_pos rfl]
      by_cases e : X i = x
      · rw [if_pos (l2_cmp0.mpr (by rw [e])), if_pos (show ff X x v 0 < i + 1 from Nat.lt_of_not_le (fun q => q3 i (Nat.zero_le _) (by omega) e))]
      · have ne : ¬ ff X x v 0 < i + 1 := fun q => e (by
          have w : ff X x v 0 = i := by omega
          have q5 := q4 (by omega)
          rw [w] at q5
          exact q5)
        rw [if_neg (fun q => e (by have := (hG i iv).2; exact (lN_eq (by omega) (by omega)).mp (l2_cmp0.mp q))), if_neg ne]
        first | rfl | (rw [if_pos ix])
  · show k_X13_hasPart_11 (lN x) (if ff X x v 0 < v then 1 else 0) (if v < v then nI (G v) else -1) s = _
    unfold k_X13_hasPart_11
    rw [if_neg (show ¬ v < v by omega), if_pos (by decide)]
    by_cases z : ff X x v 0 < v
    · rw [if_pos z, if_pos (Or.inr rfl)]; rfl
    · rw [if_neg z, if_pos (Or.inl rfl)]; rfl
/-- which of an enum's words, in the class -/
theorem mt_me {g0 : Nat} (hn : n < 3000) (hv : v ≤ 16) (h21 : s.1 321 n = nI v) (h18 : s.1 318 n = nI g0) (hg : g0 + v ≤ 6002) (hX : ∀ j, j < v → s.1 325 (g0 + j) = nI (66 + X j) ∧ X j < 7934) {x : Nat} (hx : x < 7934) : f_X11_memberOf (nI n) (nI (66 + x)) s = some (if ff X x v 0 < v then nI (ff X x v 0) else -1) := by
  obtain ⟨q1, q2, q3, q4⟩ := ff_at (X := X) (x := x) v 0
  unfold f_X11_memberOf
  have ixn : t_ix (nI n) 3001 = true := l2_ix (by omega) (by decide)
  refine l2_srch (b := b_X11_memberOf_2 s) (Y := fun i => (nI n, nI (66 + x), nI i)) (j := ff X x v 0) (by omega) (fun i hi => ?_) ?_
  · show k_X11_memberOf_2 (nI n) (nI (66 + x)) (nI i) s = _
    unfold k_X11_memberOf_2
    have iv : i < v := by omega
    rw [if_pos ixn, nI_clamp (n := n) (by omega), h21, h18, nI_add, if_neg (nI_ge iv (by omega)), if_pos (l2_ix (by omega) (by decide)), nI_clamp (n := g0 + i) (by omega), (hX i iv).1, if_neg (fun e => q3 i (Nat.zero_le _) hi (by have := (hX i iv).2; have := (nI_eq (by omega) (by omega)).mp e; omega)), nI_1]
  · show k_X11_memberOf_2 (nI n) (nI (66 + x)) (nI (ff X x v 0)) s = _
    generalize ff X x v 0 = i at *
    unfold k_X11_memberOf_2
    rw [if_pos ixn, nI_clamp (n := n) (by omega), h21, h18, nI_add]
    by_cases iv : i < v
    · rw [if_neg (nI_ge iv (by omega)), if_pos (l2_ix (by omega) (by decide)), nI_clamp (n := g0 + i) (by omega), (hX i iv).1, q4 (by omega), if_pos rfl, if_pos iv]
      rfl
    · rw [if_pos (nI_le (by omega) (by omega)), if_neg iv]
      rfl
end
