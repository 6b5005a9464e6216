/-! Level 2: the reference holds a part against a templ: leaves, names, @, not, both, ( ). -/
section
variable {c r s : t_S} {a i p E σ : Nat} {ti : Nat → Nat} {NS : Nat → Prop} {n g num f : Nat} {o : Option Nat} {y : Int32}
/-- a node is held against any part, g turns deep -/
def RQ (r : t_S) (p E σ : Nat) (ti : Nat → Nat) (NS : Nat → Prop) (g n : Nat) : Prop := ∀ s o y num, PQ r p E o y num → l2_fr rmW r s → MemR r p E σ ti NS s → ∃ s', (R_X13_assign g).2.2.2.2.1 (nI n) y s = some (bZ (Mn r p E n o), s') ∧ l2_fr rmW r s' ∧ MemR r p E σ ti NS s'
/-- what is to be shown of a tone -/
def RT (r : t_S) (p E σ : Nat) (ti : Nat → Nat) (NS : Nat → Prop) (g n : Nat) (Q : Option Nat → Prop) : Prop := ∀ s o y num, PQ r p E o y num → l2_fr rmW r s → MemR r p E σ ti NS s → ∃ s', (if o = none then m_X13_omitMatch (R_X13_assign g) (nI n) s else m_X13_toneMatch (R_X13_assign g) (nI n) y s) = some (bZ (Q o), s') ∧ l2_fr rmW r s' ∧ MemR r p E σ ti NS s'
theorem rm_fr {b j : Nat} (h : l2_fr rmW r s) (hb : b ≠ 1028 ∧ ¬ (1031 ≤ b ∧ b ≤ 1033)) : s.1 b j = r.1 b j ∧ s.2.1 b j = r.2.1 b j := ⟨(h b j (by unfold rmW; omega)).1, (h b j (by unfold rmW; omega)).2.1⟩
theorem PQ.nn {x : Nat} (h : PQ r p E (some x) y num) : ∃ k, k < E ∧ x = wq (r.2.1 1006) p k ∧ y = nI x ∧ num = k + 1 ∧ r.2.1 1006 x ≠ lN 4 := by
  rcases h with ⟨h, _⟩ | ⟨k, h1, h2, h3, h4, h5⟩
  · exact no_sn h
  · injection h2 with h2
    exact ⟨k, h1, h2, by rw [h2]; exact h3, h4, by rw [h2]; exact h5⟩
theorem PQ.mk {k : Nat} (hk : k < E) (h4 : r.2.1 1006 (wq (r.2.1 1006) p k) ≠ lN 4) : PQ r p E (some (wq (r.2.1 1006) p k)) (nI (wq (r.2.1 1006) p k)) (k + 1) := Or.inr ⟨k, hk, rfl, rfl, rfl, h4⟩
theorem PQ.no : PQ r p E none (-1) 0 := Or.inl ⟨rfl, Or.inl ⟨rfl, rfl⟩⟩
/-- leaves -/
theorem rt_leaf {S : Option Nat → Prop} {F : Nat → Option Nat → Prop} (hS : LfR r p E n S) (h28 : r.1 955 n = 28 → ∃ y, fU r n = some y ∧ y < 0) (hk : ∃ K : Nat, r.1 955 n = nI K ∧ K < 100 ∧ K ≠ 41 ∧ K ≠ 30 ∧ K ≠ 29 ∧ K ≠ 31 ∧ K ≠ 32 ∧ K ≠ 33 ∧ K ≠ 34 ∧ K ≠ 36 ∧ K ≠ 37 ∧ K ≠ 39) : RT r p E σ ti NS g n (fun o => Mt r p E F n o) := by
  intro s o y num hP fr hm
  refine ⟨s, ?_, fr, hm⟩
  obtain ⟨t1, t2⟩ := hS (R_X13_assign g) s fr
  have inj : ∀ {A B : Prop} {s : t_S}, some (bZ A, s) = some (bZ B, s) → (A ↔ B) := fun {A B s} h => by
    injection h with h
    injection h with h
    constructor
    · intro ha
      rw [bZ_t ha] at h
      exact bZ_1.mp h.symm
    · intro hb
      rw [bZ_t hb] at h
      exact bZ_1.mp h
  cases o with
  | none =>
    rw [if_pos rfl, t2]
    refine congrArg (fun x => some (x, s)) (bZ_i (Iff.trans ?_ (Mt_leaf h28 hk).symm))
    exact ⟨fun h => ⟨S, hS, h⟩, fun ⟨S', hS', h⟩ => (inj (t2.symm.trans (hS' (R_X13_assign g) s fr).2)).mpr h⟩
  | some x =>
    obtain ⟨k, k1, k2, k3, _, k4⟩ := hP.nn
    subst k2
    rw [if_neg (fun y => no_sn y), k3, t1 k k1 k4]
    refine congrArg (fun x => some (x, s)) (bZ_i (Iff.trans ?_ (Mt_leaf h28 hk).symm))
    exact ⟨fun h => ⟨S, hS, h⟩, fun ⟨S', hS', h⟩ => (inj ((t1 k k1 k4).symm.trans ((hS' (R_X13_assign g) s fr).1 k k1 k4))).mpr h⟩
/-- a template's name -/
theorem rt_link {u n' : Nat} (hn : n < 13000) (hk : r.1 955 n = 28) (hu : u < 60) (hf : fU r n = some (nI u)) (h68 : r.1 968 u = nI n') (hn' : n' < 13000) (pb : p + 260 ≤ 626600) (pr : ∀ x, x ≤ E → wq (r.2.1 1006) p x < p + 250) (h : RQ r p E σ ti NS g n') : RT r p E σ ti NS g n (fun o => Mt r p E (Mn r p E) n o) := by
  intro s o y num hP fr hm
  obtain ⟨s', h1, h2, h3⟩ := h s o (if o = none then -1 else y) (if o = none then 0 else num) (by
    by_cases c : o = none
    · rw [if_pos c, if_pos c, c]; exact PQ.no
    · rw [if_neg c, if_neg c]; exact hP) fr hm
  refine ⟨s', ?_, h2, h3⟩
  have f55 : s.1 955 n = 28 := ((rm_fr fr (by omega)).1).trans hk
  have f68 : s.1 968 u = nI n' := ((rm_fr fr (by omega)).1).trans h68
  have ff : f_X13_find 967 0 (s.1 950 44) ((s.2.1 957 n).toInt32) s = some (nI u) := by
    rw [(rm_fr fr (j := 44) (b := 950) (by omega)).1, (rm_fr fr (j := n) (b := 957) (by omega)).2, fd_stg (fun j => (rm_fr fr (b := 967) (j := j) (by omega)).1)]
    exact hf
  have hM : Mt r p E (Mn r p E) n o ↔ Mn r p E n' o := by
    unfold Mt
    rw [hk, if_neg (by decide), if_neg (by decide), if_neg (by decide), if_neg (by decide), if_neg (by decide), if_neg (by decide), if_neg (by decide), if_neg (by decide), if_neg (by decide)]
    constructor
    · intro h
      rcases h with ⟨u', a1, a2, a3, a4⟩ | ⟨h, _⟩
      · rw [hf] at a3
        injection a3 with a3
        have : u = u' := (nI_eq (by omega) (by omega)).mp a3
        subst this
        rw [h68, nI_clamp (n := n') (by omega)] at a4
        exact a4
      · obtain ⟨y, y1, y2⟩ := h rfl
        rw [hf] at y1
        injection y1 with y1
        rw [← y1] at y2
        exact absurd y2 (nI_pos (by omega))
    · intro h
      exact Or.inl ⟨u, hu, rfl, hf, by rw [h68, nI_clamp (n := n') (by omega)]; exact h⟩
  rw [bZ_i hM]
  cases o with
  | none =>
    rw [if_pos rfl] at h1 ⊢
    unfold m_X13_omitMatch
    rw [if_pos (l2_ix hn (by decide)), nI_clamp (n := n) (by omega), f55, if_neg (by decide), if_neg (by decide), if_neg (by decide), if_neg (by decide), if_neg (by decide), if_neg (by decide), if_neg (by decide), if_neg (by decide), if_pos (by decide), ff, l2_bs, if_neg (nI_pos (by omega)), if_pos (l2_ix hu (by decide)), nI_clamp (n := u) (by omega), f68, h1, l2_bs]
    rcases bZ_01 (P := Mn r p E n' none) with e | e <;> rw [e] <;> rfl
  | some x =>
    obtain ⟨k, k1, k2, k3, _, k4⟩ := hP.nn
    have := pr k (by omega)
    rw [← k2] at this
    rw [if_neg (fun y => no_sn y)] at h1 ⊢
    rw [k3] at h1 ⊢
    unfold m_X13_toneMatch
    rw [if_pos (l2_ix (by omega) (by decide)), if_pos (l2_ix hn (by decide)), nI_clamp (n := n) (by omega), f55, if_neg (by decide), if_neg (by decide), if_neg (by decide), if_neg (by decide), if_neg (by decide), if_neg (by decide), if_neg (by decide), if_neg (by decide), if_neg (by decide), if_pos (by decide), ff, l2_bs, if_neg (nI_pos (by omega)), if_pos (l2_ix hu (by decide)), nI_clamp (n := u) (by omega), f68, h1, l2_bs, if_pos bZ_01]
/-- @ -/
theorem rt_tag {n' X : Nat} (hn : n < 13000) (hk : r.1 955 n = 30) (h7 : r.2.1 957 n = lN X) (hX : X < 7934) (h59 : r.1 959 n = nI n') (hn' : n' < 13000) (pb : p + 260 ≤ 626600) (pr : ∀ x, x ≤ E → wq (r.2.1 1006) p x < p + 250) (pd : ∀ x, x < E → PD (c.2.1 a) (r.2.1 1006) i p E x) (h : RQ r p E σ ti NS g n') : RT r p E σ ti NS g n (fun o => Mt r p E (Mn r p E) n o) := by
  intro s o y num hP fr hm
  have f55 : s.1 955 n = 30 := ((rm_fr fr (by omega)).1).trans hk
  have f59 : s.1 959 n = nI n' := ((rm_fr fr (by omega)).1).trans h59
  have f57 : s.2.1 957 n = lN X := ((rm_fr fr (by omega)).2).trans h7
  have hM : Mt r p E (Mn r p E) n o ↔ ∃ q, o = some q ∧ r.2.1 1006 q = lN 7 ∧ r.2.1 1006 (q + 1) = lN X ∧ Mn r p E n' (some (q + 2)) := by
    unfold Mt
    rw [hk, if_neg (by decide), if_pos rfl, gn_0 h59 hn', h7]
  rw [bZ_i hM]
  cases o with
  | none =>
    rw [if_pos rfl, bZ_f (fun ⟨q, y, _⟩ => no_ns y)]
    refine ⟨s, ?_, fr, hm⟩
    unfold m_X13_omitMatch
    rw [if_pos (l2_ix hn (by decide)), nI_clamp (n := n) (by omega), f55, if_neg (by decide), if_neg (by decide), if_neg (by decide), if_neg (by decide), if_neg (by decide), if_neg (by decide), if_neg (by decide), if_neg (by decide), if_neg (by decide), if_neg (by decide), if_pos (by decide)]
  | some x =>
    obtain ⟨k, k1, k2, k3, _, k4⟩ := hP.nn
    have xl := pr k (by omega)
    obtain ⟨f0, n0, m0, t0, K, _, hc, ⟨hr, _⟩, hk⟩ := pd k k1
    rw [← k2] at xl hr
    have f6 : ∀ j, s.2.1 1006 j = r.2.1 1006 j := fun j => (rm_fr fr (by omega)).2
    rw [if_neg (fun y => no_sn y), k3]
    have K9 : K < 16 := hc.2.2
    have ne : nI K = (7 : Int32) ↔ K = 7 := nI_eq (b := 7) (by omega) (by decide)
    have M : m_X13_toneMatch (R_X13_assign g) (nI n) (nI x) s = (if nI K = (7 : Int32) then (if (lg_cmp (r.2.1 1006 (x + 1)) (lN X)) = (0 : Int32) then ((R_X13_assign g).2.2.2.2.1 (nI n') (nI (x + 2)) s).bind (fun r20 => if r20.1 = (0 : Int32) then (some ((0 : Int32), r20.2)) else (some ((1 : Int32), r20.2))) else some (0, s)) else some (0, s)) := by
      unfold m_X13_toneMatch
      rw [if_pos (l2_ix (by omega) (by decide)), if_pos (l2_ix hn (by decide)), nI_clamp (n := n) (by omega), f55, if_neg (by decide), if_neg (by decide), if_neg (by decide), if_neg (by decide), if_neg (by decide), if_neg (by decide), if_neg (by decide), if_neg (by decide), if_neg (by decide), if_neg (by decide), if_neg (by decide), if_pos (by decide), nI_clamp (n := x) (by omega), f6, hr, lN_w, nI_1, if_pos (l2_ix (by omega) (by decide)), nI_clamp (n := x + 1) (by omega), f6, f57, f59, show (2 : Int32) = nI 2 from rfl, nI_add]
    rw [M]
    by_cases e7 : K = 7
    · rw [if_pos (ne.mpr e7)]
      by_cases eX : r.2.1 1006 (x + 1) = lN X
      · rw [if_pos (l2_cmp0.mpr eX)]
        rcases hk with ⟨_, y, _⟩ | ⟨_, _, z1, z2, z3, z4⟩ | ⟨v, I, P, C, y, _⟩ | ⟨v, I, P, X', C, y, _⟩
        · exact absurd e7 y
        · rw [← k2] at z1 z4
          obtain ⟨s', h1, h2, h3⟩ := h s (some (wq (r.2.1 1006) p (k + 1))) _ _ (PQ.mk z2 (by rw [z4]; exact z1)) fr hm
          rw [z4] at h1
          refine ⟨s', ?_, h2, h3⟩
          rw [h1, l2_bs]
          have e : Mn r p E n' (some (x + 2)) ↔ ∃ q, some x = some q ∧ r.2.1 1006 q = lN 7 ∧ r.2.1 1006 (q + 1) = lN X ∧ Mn r p E n' (some (q + 2)) := ⟨fun w => ⟨x, rfl, by rw [hr, e7], eX, w⟩, fun ⟨q, w1, _, _, w⟩ => by injection w1 with w1; rw [w1]; exact w⟩
          rw [bZ_i e]
          rcases bZ_01 (P := ∃ q, some x = some q ∧ r.2.1 1006 q = lN 7 ∧ r.2.1 1006 (q + 1) = lN X ∧ Mn r p E n' (some (q + 2))) with w | w <;> rw [w] <;> rfl
        · omega
        · omega
      · rw [if_neg (fun w => eX (l2_cmp0.mp w)), bZ_f (fun ⟨q, w1, _, w, _⟩ => by injection w1 with w1; rw [← w1] at w; exact eX w)]
        exact ⟨s, rfl, fr, hm⟩
    · rw [if_neg (fun w => e7 (ne.mp w)), bZ_f (fun ⟨q, w1, w, _⟩ => by injection w1 with w1; rw [← w1, hr] at w; exact e7 (lN_inj (by omega) (by omega) w))]
      exact ⟨s, rfl, fr, hm⟩
end
