/-! Level 2: a templ's node on both sides: its parts' VALUES kept one after another. -/
section
variable {κ : KPP} {c0 r0 : t_S} {P : Nat → Int64} {TS : Nat → Nat → Nat → Prop} {wt : Nat → Nat} {Z Y : Nat → Prop}
theorem ev_node (hCl : Cl κ c0 P TS wt) {rr g v e0 e1 t0 t1 ma mb m0 m1 n K : Nat} {E T M G : Nat → Nat} {Q : Nat → t_S → t_S → Nat → Nat → Nat → Nat → Prop} (hn : n < 13000) (hk : r0.1 955 n = nI K) (hK : K < 100 ∧ K ≠ 38 ∧ K ≠ 28) (h59 : r0.1 959 n = (if 0 < v then nI (G 0) else -1)) (hE : px_B v e0 e1 E) (hT : px_B v t0 t1 T) (hM : px_B v ma mb M) (hm : m0 ≤ ma ∧ mb ≤ m1 ∧ m1 ≤ 13000) (hG : ∀ j, j < v → G j < 13000 ∧ r0.1 960 (G j) = (if j + 1 < v then nI (G (j + 1)) else -1)) (hv : v ≤ 16) {NT : Nat → Prop} (hNT : ∀ n, m0 ≤ n → n < m1 → NT n) (hYN : ∀ n, Y n → NT n) (dj : DJ Z Y t0 t1 ma mb) (hp : ∀ j, j < v → QS (T j) (T (j + 1)) (M j) (M (j + 1)) (Q j) ∧ ∀ Z Y, (∀ n, Y n → NT n) → DJ Z Y (T j) (T (j + 1)) (M j) (M (j + 1)) → EVt κ c0 r0 P TS wt Z Y (g + 1) rr (E j) (E (j + 1)) (M j) (M (j + 1)) (G j) (Q j)) : EVt κ c0 r0 P TS wt Z Y (g + 2) rr e0 e1 m0 m1 n (fun c r a nh p pc => ∀ j, j < v → Q j c r a nh p pc) := by
  intro c r D a H S nh mh pc hE0 hV ha hS h138 h135 hpot hTld hI
  obtain ⟨c', r', i, w, w1, F, alt, L⟩ := ev_parts hCl (v := v) hE hT hM (by omega) hG hv (fun n a b => hNT n (by omega) (by omega)) hYN dj hp ⟨hE0, hV, ha, h138, h135, hpot, hTld, hI⟩ (by omega) v (Nat.le_refl _)
  rw [hE.2.1] at w1 F alt
  have z2 := hE0.1.2
  refine ⟨c', r', i, w, w1, F, ?_, ?_⟩
  · rcases alt with ⟨q, pc', q1, q2, q3, q4⟩ | q
    · exact Or.inl ⟨q, q1, pc', q2.2.2.2.2.1, q3, q4⟩
    · exact Or.inr q
  · have e55 : r.1 955 n = nI K := ((ez_r (b := 955) (j := n) z2 (by omega)).1).trans hk
    have e59 : r.1 959 n = (if 0 < v then nI (G 0) else -1) := ((ez_r (b := 959) (j := n) z2 (by omega)).1).trans h59
    have n38 : ¬ nI K = (38 : Int32) := fun y => hK.2.1 ((nI_eq (b := 38) (by omega) (by decide)).mp y)
    have n28 : ¬ nI K = (28 : Int32) := fun y => hK.2.2 ((nI_eq (b := 28) (by omega) (by decide)).mp y)
    show m_X13_prepare (R_X13_behindFirst (g + 1)) (nI n) r = some r'
    unfold m_X13_prepare
    rw [if_pos hE0.2.2.1.2.1, if_pos (l2_ix hn (by decide)), nI_clamp (n := n) (by omega), e55, if_neg n38, if_neg n28, e59]
    have nN := l2_N
    rw [show t_N = (t_N - v - 1 + 1) + v by omega, L, if_neg (Nat.lt_irrefl v)]
    refine l2_lpR ?_
    show k_X13_prepare_195 _ (-1) r' = _
    unfold k_X13_prepare_195
    rw [if_pos (by decide)]
    rfl
theorem QS.all {v t0 t1 m0 m1 : Nat} {T M : Nat → Nat} {Q : Nat → t_S → t_S → Nat → Nat → Nat → Nat → Prop} (hT : px_B v t0 t1 T) (hM : px_B v m0 m1 M) {t0' t1' m0' m1' : Nat} (h1 : t0' ≤ t0) (h2 : t1 ≤ t1') (h3 : m0' ≤ m0) (h4 : m1 ≤ m1') (h : ∀ j, j < v → QS (T j) (T (j + 1)) (M j) (M (j + 1)) (Q j)) : QS t0' t1' m0' m1' (fun c r a nh p pc => ∀ j, j < v → Q j c r a nh p pc) := fun c r c2 r2 a nh p pc pc2 q l j hj => by
  have bT := hT.2.2 j hj
  have bM := hM.2.2 j hj
  exact h j hj _ _ _ _ _ _ _ _ _ (q j hj) (l.sub (by omega) (by omega) (by omega) (by omega))
/-- one part only -/
theorem px_B1 {a b : Nat} (h : a ≤ b) : px_B 1 a b (fun j => if j = 0 then a else b) := ⟨rfl, rfl, fun j hj => by
  obtain rfl : j = 0 := by omega
  exact ⟨h, Nat.le_refl _, Nat.le_refl _⟩⟩
theorem px_B0 {a : Nat} : px_B 0 a a (fun _ => a) := ⟨rfl, rfl, fun j hj => absurd hj (Nat.not_lt_zero _)⟩
/-- a slot's fact stays so -/
theorem QS.slot {t n t1 m1 : Nat} (ht : t < t1) (hn : n < m1) : QS t t1 n m1 (fun c r a nh p pc => SL2 t n c r a nh pc) := fun c r c2 r2 a nh p pc pc2 q l => q.later (l.1 t (Nat.le_refl _) ht).1 (l.1 t (Nat.le_refl _) ht).2 l.2.1 (l.2.2.1 n (Nat.le_refl _) hn) l.2.2.2.1 l.2.2.2.2.1
theorem EVt.mono {g rr e0 e1 m0 m1 n : Nat} {Q Q' : t_S → t_S → Nat → Nat → Nat → Nat → Prop} (h : EVt κ c0 r0 P TS wt Z Y g rr e0 e1 m0 m1 n Q) (w : ∀ c r a nh p pc, l2_fr (eZc c0) c0 c → l2_fr eZr r0 r → Q c r a nh p pc → Q' c r a nh p pc) : EVt κ c0 r0 P TS wt Z Y g rr e0 e1 m0 m1 n Q' := by
  intro c r D a H S nh mh pc hE hV ha hS h138 h135 hpot hT hI
  obtain ⟨c', r', i, u, h1, h2, h3, h4⟩ := h c r D a H S nh mh pc hE hV ha hS h138 h135 hpot hT hI
  obtain ⟨z1, z2⟩ := hE.z h2
  refine ⟨c', r', i, u, h1, h2, ?_, h4⟩
  rcases h3 with ⟨q, q1, pc', q2, q3, q4⟩ | q
  · exact Or.inl ⟨q, q1, pc', q2, q3, w _ _ _ _ _ _ z1 z2 q4⟩
  · exact Or.inr q
end
