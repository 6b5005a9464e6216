/-! Level 2: the reference's check of a node, whole: just what its links come to. -/
section
variable {W X k a t e p l sg m st n2 n3 K b d : Nat} {nt : Nat → Nat} {v z kc q : Int32} {E E' : en_S} {S : Nat → Int32 → Prop} {s r r' : t_S}
/-- of a node that is no name, of runs nothing is asked -/
theorem rn_none (hk : k < 13000) (h5 : r.1 955 k = nI K) (hK : K < 100 ∧ K ≠ 8 ∧ K ≠ 28 ∧ ¬ (55 ≤ K ∧ K ≤ 58) ∧ ¬ (61 ≤ K ∧ K ≤ 63)) : f_X13_checkNode (nI k) r = some r := by
  unfold f_X13_checkNode
  rw [if_pos (l2_ix hk (by decide)), nI_clamp (n := k) (by omega), h5]
  have e : (nI K).toInt = K := nI_toInt (by omega)
  rw [if_neg (by omega), if_neg (by omega), if_neg (by omega), if_neg (by omega), if_neg (by omega), if_neg (by omega), if_neg (by omega), if_neg (by omega), if_neg (by omega)]
theorem en_V.same {g : Nat} {L L' v v' : Nat → Nat} (h : en_V d g L v) (h' : en_V d g L' v') (e : ∀ i, i < d → L i = L' i) (X : Nat) : v X = v' X := by
  rcases h X with ⟨i, i1, i2, i3, i4⟩ | ⟨i1, i2⟩
  · rcases h' X with ⟨j, j1, j2, j3, j4⟩ | ⟨j1, j2⟩
    · have : i = j := by
        rcases Nat.lt_trichotomy i j with y | y | y
        · exact absurd ((e i i1).symm.trans i2) (j3 i y)
        · exact y
        · exact absurd ((e j j1).trans j2) (i3 j y)
      rw [i4, j4, this]
    · exact absurd ((e i i1).symm.trans i2) (j1 i i1)
  · rcases h' X with ⟨j, j1, j2, j3, j4⟩ | ⟨j1, j2⟩
    · exact absurd ((e j j1).trans j2) (i1 j j1)
    · rw [i2, j2]
/-- where an exp stands is told by its context and how many are told -/
theorem mE.same (h : mE n2 n3 r E) (h' : mE n2 n3 r E') (e1 : E.2.1 = E'.2.1) (e2 : E.2.2.1 = E'.2.2.1) : E.1 = E'.1 ∧ ∀ X, E.2.2.2.2.2 X = E'.2.2.2.2.2 X := by
  obtain ⟨hm, cx, td, ba, kn, v⟩ := E
  obtain ⟨hm', cx', td', ba', kn', v'⟩ := E'
  have e1 : cx = cx' := e1
  have e2 : td = td' := e2
  subst e1 e2
  show hm = hm' ∧ ∀ X, v X = v' X
  obtain ⟨_, h⟩ := h
  obtain ⟨_, h'⟩ := h'
  rcases h with ⟨x1, x2, x3, _, x4⟩ | ⟨k, L, cnt, x0, x1, x2, x3, x4, x5, x6, x7, x8, x9⟩ | ⟨f, L, cnt, x0, x1, x2, x3, x4, x5, x6, x7, x8, x9⟩
  · rcases h' with ⟨y1, y2, y3, _, y4⟩ | ⟨k', L', cnt', y0, y1, y2, y3, _⟩ | ⟨f', L', cnt', y0, y1, y2, y3, _⟩
    · exact ⟨x1.trans y1.symm, fun X => (x4 X).trans (y4 X).symm⟩
    · omega
    · omega
  · rcases h' with ⟨y1, y2, y3, _, y4⟩ | ⟨k', L', cnt', y0, y1, y2, y3, y4, y5, y6, y7, y8, y9⟩ | ⟨f', L', cnt', y0, y1, y2, y3, _⟩
    · omega
    · have ek : k = k' := by omega
      subst ek
      exact ⟨x2.trans y2.symm, x9.same y9 (fun i hi => (nI_eq (by have := (x8 i hi).1; omega) (by have := (y8 i hi).1; omega)).mp ((x8 i hi).2.symm.trans (y8 i hi).2))⟩
    · omega
  · rcases h' with ⟨y1, y2, y3, _, y4⟩ | ⟨k', L', cnt', y0, y1, y2, y3, _⟩ | ⟨f', L', cnt', y0, y1, y2, y3, y4, y5, y6, y7, y8, y9⟩
    · omega
    · omega
    · have ek : f = f' := by omega
      subst ek
      exact ⟨x2.trans y2.symm, x9.same y9 (fun i hi => (nI_eq (by have := (x8 i hi).1; omega) (by have := (y8 i hi).1; omega)).mp ((x8 i hi).2.symm.trans (y8 i hi).2))⟩
theorem mE.cx (h : mE n2 n3 r E) : E.2.1 < 3000 ∧ E.2.2.1 ≤ 8 := by
  obtain ⟨hm, cx, td, ba, kn, v⟩ := E
  obtain ⟨_, h⟩ := h
  rcases h with ⟨x1, x2, x3, _, x4⟩ | ⟨k, L, cnt, x0, x1, x2, x3, x4, x5, x6, x7, _⟩ | ⟨f, L, cnt, x0, x1, x2, x3, x4, x5, x6, x7, _⟩
  · exact ⟨show cx < 3000 by omega, show td ≤ 8 by omega⟩
  · exact ⟨show cx < 3000 by omega, show td ≤ 8 by omega⟩
  · exact ⟨show cx < 3000 by omega, show td ≤ 8 by omega⟩
/-- what stands of a component, looked up in the reference -/
theorem sC.rv (h : sC W nt s r) (f : l2_fr ck_W r r') (hk : kc_R nt kc) (hX : X < 7934) : kc < 0 ∨ ∃ j w, j < 8 ∧ kc = nI j ∧ f_X13_find 975 (8 * kc) (r'.1 979 kc.toNatClampNeg) (nI X) r' = some w ∧ (w = -1 ∨ ∃ i, i < 8 ∧ w = nI i) := by
  rcases hk with rfl | ⟨j, hj, rfl⟩
  · exact Or.inl (by decide)
  · have n8 := h.n8
    obtain ⟨v0, v1, v2, A, B, D, hc⟩ := h.2.2.2 j hj
    obtain ⟨w, e1, e2, e3⟩ := own_var hc (show j < 8 by omega) hX
    refine Or.inr ⟨j, w, by omega, rfl, ?_, ?_⟩
    · rw [nI_clamp (n := j) (by omega), ck_c f (b := 979) (by decide) (by decide), fd_st (fun j => ck_c f (b := 975) (by decide) (by decide))]
      exact e2
    · have hh := hc.1
      rcases e3 with ⟨i, i1, i2, _⟩ | ⟨y, _⟩
      · exact Or.inr ⟨i, by omega, i2⟩
      · exact Or.inl y
theorem sC.rt (h : sC W nt s r) (f : l2_fr ck_W r r') (hk : kc_R nt kc) (hX : X < 7934) : kc < 0 ∨ ∃ j w, j < 8 ∧ kc = nI j ∧ f_X13_find 973 (4 * kc) (r'.1 974 kc.toNatClampNeg) (nI X) r' = some w := by
  rcases hk with rfl | ⟨j, hj, rfl⟩
  · exact Or.inl (by decide)
  · have n8 := h.n8
    obtain ⟨v0, v1, v2, A, B, D, hc⟩ := h.2.2.2 j hj
    obtain ⟨w, e1, e2, e3⟩ := own_timer hc (show j < 8 by omega) hX
    refine Or.inr ⟨j, w, by omega, rfl, ?_⟩
    rw [nI_clamp (n := j) (by omega), ck_c f (b := 974) (by decide) (by decide), fd_st (fun j => ck_c f (b := 973) (by decide) (by decide))]
    exact e2
theorem sC.rp (h : sC W nt s r) (f : l2_fr ck_W r r') (hk : kc_R nt kc) (hX : X < 7934) : kc < 0 ∨ ∃ j w, j < 8 ∧ kc = nI j ∧ f_X13_find 971 (6 * kc) (r'.1 972 kc.toNatClampNeg) (nI X) r' = some w := by
  rcases hk with rfl | ⟨j, hj, rfl⟩
  · exact Or.inl (by decide)
  · have n8 := h.n8
    obtain ⟨v0, v1, v2, A, B, D, hc⟩ := h.2.2.2 j hj
    obtain ⟨w, e1, e2, e3⟩ := own_port hc (show j < 8 by omega) hX
    refine Or.inr ⟨j, w, by omega, rfl, ?_⟩
    rw [nI_clamp (n := j) (by omega), ck_c f (b := 972) (by decide) (by decide), fd_st (fun j => ck_c f (b := 971) (by decide) (by decide))]
    exact e2
/-- a word looked up from where an exp stands -/
theorem vo_E (hC : sC W nt s r) (f : l2_fr ck_W r r') (C : sK nt m st r) (hE : mE (nt 2) (nt 3) r E) (hX : X < 7934) : ∃ z, f_X13_varOf (nI X) (nI E.2.1) (nI E.2.2.1) r' = some z ∧ (E.2.2.2.2.2 X ≠ 0 → 0 ≤ z) ∧ (E.2.2.2.2.2 X = 0 → ∃ kc, kx_R nt s 12 E.1 kc ∧ (0 ≤ z ↔ ¬ no_R 975 979 8 r kc X)) := by
  obtain ⟨hm, cx, td, ba, kn, v⟩ := E
  show ∃ z, f_X13_varOf (nI X) (nI cx) (nI td) r' = some z ∧ (v X ≠ 0 → 0 ≤ z) ∧ (v X = 0 → ∃ kc, kx_R nt s 12 hm kc ∧ (0 ≤ z ↔ ¬ no_R 975 979 8 r kc X))
  have C' := C.fr f
  obtain ⟨_, h⟩ := hE
  have none_ : ∀ {z : Int32}, ¬ 0 ≤ z → (0 ≤ z ↔ ¬ no_R 975 979 8 r (-1) X) := fun hz => ⟨fun y => absurd y hz, fun y => absurd (Or.inl (by decide)) y⟩
  rcases h with ⟨x1, x2, x3, _, x4⟩ | ⟨k, L, cnt, x0, x1, x2, x3, x4, x5, x6, x7, x8, x9⟩ | ⟨g, L, cnt, x0, x1, x2, x3, x4, x5, x6, x7, x8, x9⟩
  · subst x2
    refine ⟨-1, ?_, fun y => absurd (x4 X) y, fun _ => ⟨-1, Or.inr (Or.inr ⟨x1, rfl⟩), none_ (by decide)⟩⟩
    unfold f_X13_varOf k_X13_varOf_42 f_X13_componentOf k_X13_componentOf_38 k_X13_varOf_97
    rw [if_pos (show nI 0 < (2000 : Int32) by decide), if_pos (show nI 0 < (2000 : Int32) by decide), if_pos (show nI 0 < (1000 : Int32) by decide)]
    rfl
  · subst x3
    have f5 : ∀ j, r'.1 975 j = r.1 975 j := fun j => ck_c f (by decide) (by decide)
    obtain ⟨w, e2, h2⟩ := fd_ref (b := 975) (base := 8 * k) (n := td) (L := L) (r := r') rfl (show 8 * k + td ≤ 64 by omega) (by decide) (fun i hi => ⟨(x8 i hi).1, by rw [f5]; exact (x8 i hi).2⟩) hX (by omega)
    have eq : f_X13_varOf (nI X) (nI (1000 + k)) (nI td) r' = k_X13_varOf_97 w r' := by
      unfold f_X13_varOf k_X13_varOf_42 f_X13_componentOf k_X13_componentOf_38 k_X13_varOf_93
      rw [if_pos (show nI (1000 + k) < (2000 : Int32) from nI_lt (b := 2000) (by omega) (by decide)), if_pos (show nI (1000 + k) < (2000 : Int32) from nI_lt (b := 2000) (by omega) (by decide)), if_neg (Int32.not_lt.mpr (show (1000 : Int32) ≤ nI (1000 + k) from nI_le (a := 1000) (by omega) (by omega))), if_neg (show ¬ (2000 : Int32) ≤ nI (1000 + k) from nI_ge (b := 2000) (by omega) (by decide)), l2_bs, show nI (1000 + k) - (1000 : Int32) = nI k from (pk_sub (b := 1000) (by omega)).trans (by rw [show 1000 + k - 1000 = k by omega]), if_pos (nI_pos' (by omega)), if_neg (Int32.not_lt.mpr (show (1000 : Int32) ≤ nI (1000 + k) from nI_le (a := 1000) (by omega) (by omega))), if_neg (show ¬ (2000 : Int32) ≤ nI (1000 + k) from nI_ge (b := 2000) (by omega) (by decide)), show (8 : Int32) * nI k = nI (8 * k) from pk_mul 8 k, e2, l2_bs]
    rw [eq]
    unfold k_X13_varOf_97
    rcases h2 with ⟨i, i1, rfl, i3, i4⟩ | ⟨rfl, i3⟩
    · rw [if_pos (nI_pos' (by omega)), show (100 : Int32) + nI i = nI (100 + i) from nI_add 100 i]
      refine ⟨_, rfl, fun _ => nI_pos' (by omega), fun y => ?_⟩
      rcases x9 X with ⟨j, _, _, _, j4⟩ | ⟨j1, _⟩
      · omega
      · exact absurd i3 (j1 i i1)
    · rw [if_neg (by decide)]
      refine ⟨-1, rfl, fun y => ?_, fun _ => ⟨-1, Or.inr (Or.inl ⟨k, x0, x1, x2, rfl⟩), none_ (by decide)⟩⟩
      rcases x9 X with ⟨j, j1, j2, _, _⟩ | ⟨_, j2⟩
      · exact absurd j2 (i3 j j1)
      · exact absurd j2 y
  · subst x3
    have f5 : ∀ j, r'.1 984 j = r.1 984 j := fun j => ck_c f (by decide) (by decide)
    obtain ⟨w, e2, h2⟩ := fd_ref (b := 984) (base := 8 * g) (n := td) (L := L) (r := r') rfl (show 8 * g + td ≤ 320 by omega) (by decide) (fun i hi => ⟨(x8 i hi).1, by rw [f5]; exact (x8 i hi).2⟩) hX (by omega)
    have e2' : f_X13_find 984 (8 * nI g) (nI td) (nI X) r' = some w := by rw [show (8 : Int32) * nI g = nI (8 * g) from pk_mul 8 g]; exact e2
    have eg : (2000 : Int32) + nI g = nI (2000 + g) := nI_add 2000 g
    rcases h2 with ⟨i, i1, rfl, i3, i4⟩ | ⟨rfl, i3⟩
    · refine ⟨nI i, ?_, fun _ => nI_pos' (by omega), fun y => ?_⟩
      · unfold f_X13_varOf
        rw [if_neg (Int32.not_lt.mpr (show (2000 : Int32) ≤ nI (2000 + g) from nI_le (a := 2000) (by omega) (by omega))), if_neg (show ¬ (3000 : Int32) ≤ nI (2000 + g) from nI_ge (b := 3000) (by omega) (by decide)), show nI (2000 + g) - (2000 : Int32) = nI g from (pk_sub (b := 2000) (by omega)).trans (by rw [show 2000 + g - 2000 = g by omega]), e2', l2_bs, if_neg (nI_pos (by omega))]
      · rcases x9 X with ⟨j, _, _, _, j4⟩ | ⟨j1, _⟩
        · omega
        · exact absurd i3 (j1 i i1)
    · have ko := hC.2.1 g x0
      have hc : f_X13_componentOf (2000 + nI g) r' = some (s.1 438 g) := co_unit (ck_ko f ko) x1 C'.2.2.2.2.1
      obtain ⟨z, z1, z2⟩ := rv_fn (u := -1) (td := nI td) (X := X) x1 e2' (by decide) hc (hC.rv f ko.own hX)
      rw [eg] at z1
      refine ⟨z, z1, fun y => ?_, fun _ => ⟨s.1 438 g, Or.inl ⟨g, x0, x1, x2, rfl⟩, z2.trans (not_congr (ck_no f (by decide) (by decide)))⟩⟩
      rcases x9 X with ⟨j, j1, j2, _, _⟩ | ⟨_, j2⟩
      · exact absurd j2 (i3 j j1)
      · exact absurd j2 y
end
