/-! Level 2: the reference holds a part against a templ: not, both, ( ). -/
/-- what the first j parts come to -/
def mA (K : Nat) (Q : Nat → Prop) (j : Nat) : Prop := (K = 34 ∧ ∃ i, i < j ∧ Q i) ∨ (K = 33 ∧ ∀ i, i < j → Q i) ∨ (K = 32 ∧ ∀ i, i < j → ¬ Q i)
theorem mA_0 {K : Nat} {Q : Nat → Prop} (hK : K = 32 ∨ K = 33 ∨ K = 34) : mA K Q 0 ↔ K ≠ 34 := by
  unfold mA
  constructor
  · intro h
    rcases h with ⟨_, i, h, _⟩ | ⟨h, _⟩ | ⟨h, _⟩ <;> omega
  · intro h
    rcases hK with e | e | e
    · exact Or.inr (Or.inr ⟨e, fun i hi => by omega⟩)
    · exact Or.inr (Or.inl ⟨e, fun i hi => by omega⟩)
    · exact absurd e h
theorem mA_s {K j : Nat} {Q : Nat → Prop} (hK : K = 32 ∨ K = 33 ∨ K = 34) : mA K Q (j + 1) ↔ (K = 34 ∧ (mA K Q j ∨ Q j)) ∨ (K = 33 ∧ mA K Q j ∧ Q j) ∨ (K = 32 ∧ mA K Q j ∧ ¬ Q j) := by
  unfold mA
  rcases hK with rfl | rfl | rfl
  · constructor
    · intro h
      rcases h with ⟨h, _⟩ | ⟨h, _⟩ | ⟨_, h⟩
      · omega
      · omega
      · exact Or.inr (Or.inr ⟨rfl, Or.inr (Or.inr ⟨rfl, fun i hi => h i (by omega)⟩), h j (by omega)⟩)
    · intro h
      rcases h with ⟨h, _⟩ | ⟨h, _⟩ | ⟨_, h, hq⟩
      · omega
      · omega
      · rcases h with ⟨h, _⟩ | ⟨h, _⟩ | ⟨_, h⟩
        · omega
        · omega
        · refine Or.inr (Or.inr ⟨rfl, fun i hi => ?_⟩)
          by_cases c : i = j
          · rw [c]; exact hq
          · exact h i (by omega)
  · constructor
    · intro h
      rcases h with ⟨h, _⟩ | ⟨_, h⟩ | ⟨h, _⟩
      · omega
      · exact Or.inr (Or.inl ⟨rfl, Or.inr (Or.inl ⟨rfl, fun i hi => h i (by omega)⟩), h j (by omega)⟩)
      · omega
    · intro h
      rcases h with ⟨h, _⟩ | ⟨_, h, hq⟩ | ⟨h, _⟩
      · omega
      · rcases h with ⟨h, _⟩ | ⟨_, h⟩ | ⟨h, _⟩
        · omega
        · refine Or.inr (Or.inl ⟨rfl, fun i hi => ?_⟩)
          by_cases c : i = j
          · rw [c]; exact hq
          · exact h i (by omega)
        · omega
      · omega
  · constructor
    · intro h
      rcases h with ⟨_, i, h1, h2⟩ | ⟨h, _⟩ | ⟨h, _⟩
      · by_cases c : i = j
        · rw [c] at h2; exact Or.inl ⟨rfl, Or.inr h2⟩
        · exact Or.inl ⟨rfl, Or.inl (Or.inl ⟨rfl, i, by omega, h2⟩)⟩
      · omega
      · omega
    · intro h
      rcases h with ⟨_, h⟩ | ⟨h, _⟩ | ⟨h, _⟩
      · rcases h with h | h
        · rcases h with ⟨_, i, h1, h2⟩ | ⟨h, _⟩ | ⟨h, _⟩
          · exact Or.inl ⟨rfl, i, by omega, h2⟩
          · omega
          · omega
        · exact Or.inl ⟨rfl, j, by omega, h⟩
      · omega
      · omega
section
variable {r s : t_S} {p E σ : Nat} {ti : Nat → Nat} {NS : Nat → Prop} {n g num v K : Nat} {G : Nat → Nat} {o : Option Nat} {y : Int32}
theorem nx_in {j : Nat} (h : j < v) : nxG v G j = nI (G j) := if_pos h
theorem nx_out {j : Nat} (h : ¬ j < v) : nxG v G j = -1 := if_neg h
theorem ch_nx {j : Nat} (hc : ch_R r n v G) (h : j < v) : r.1 960 (G j) = nxG v G (j + 1) := (hc.2 j h).2.2.1
theorem mm_go (hK : K = 32 ∨ K = 33 ∨ K = 34) (hP : PQ r p E o y num) (hc : ch_R r n v G) (hq : ∀ j, j < v → RQ r p E σ ti NS g (G j)) : ∀ (d j : Nat) (s1 : t_S) (N : Nat), j + d = v → d < N → l2_fr rmW r s1 → MemR r p E σ ti NS s1 → ∃ s', t_loop (b_X13_manyMatch_120 (R_X13_assign g)) N (y, nI K, bZ (mA K (fun i => Mn r p E (G i) o) j), nxG v G j, s1) = some (bZ (mA K (fun i => Mn r p E (G i) o) v), s') ∧ l2_fr rmW r s' ∧ MemR r p E σ ti NS s' := by
  intro d
  induction d with
  | zero =>
    intro j s1 N hj hN fr hm
    obtain ⟨N, rfl⟩ : ∃ y, N = y + 1 := ⟨N - 1, by omega⟩
    obtain rfl : j = v := by omega
    refine ⟨s1, l2_lpR ?_, fr, hm⟩
    show k_X13_manyMatch_120 _ y (nI K) _ _ s1 = _
    unfold k_X13_manyMatch_120
    rw [nx_out (by omega), if_pos (show (-1 : Int32) < 0 by decide), if_pos bZ_01]
    rfl
  | succ d ih =>
    intro j s1 N hj hN fr hm
    obtain ⟨N, rfl⟩ : ∃ y, N = y + 1 := ⟨N - 1, by omega⟩
    obtain ⟨g1, _, _, _⟩ := hc.2 j (by omega)
    obtain ⟨s2, h1, h2, h3⟩ := hq j (by omega) s1 o y num hP fr hm
    have e60 : s2.1 960 (G j) = nxG v G (j + 1) := ((rm_fr h2 (by omega)).1).trans (ch_nx hc (by omega))
    have k34 : nI K = (34 : Int32) ↔ K = 34 := nI_eq (b := 34) (by omega) (by decide)
    have k33 : nI K = (33 : Int32) ↔ K = 33 := nI_eq (b := 33) (by omega) (by decide)
    have st : b_X13_manyMatch_120 (R_X13_assign g) (y, nI K, bZ (mA K (fun i => Mn r p E (G i) o) j), nxG v G j, s1) = some (.inl (y, nI K, bZ (mA K (fun i => Mn r p E (G i) o) (j + 1)), nxG v G (j + 1), s2)) := by
      show k_X13_manyMatch_120 _ y (nI K) _ _ s1 = _
      unfold k_X13_manyMatch_120 k_X13_manyMatch_151 k_X13_manyMatch_180 k_X13_manyMatch_198 k_X13_manyMatch_199
      rw [nx_in (by omega), if_neg (nI_pos (by omega)), h1, l2_bs]
      simp only [if_pos (l2_ix (j := G j) (n := 13000) g1 (by decide)), nI_clamp (n := G j) (show G j < 2 ^ 31 by omega), e60]
      have z1 : ¬ (1 : Int32) = 0 := by decide
      by_cases A : mA K (fun i => Mn r p E (G i) o) j
      · rw [bZ_t A]
        by_cases B : Mn r p E (G j) o
        · rw [bZ_t B]
          rcases hK with e | e | e
          · rw [bZ_f (P := mA K (fun i => Mn r p E (G i) o) (j + 1)) (fun z => by
              rcases (mA_s (by omega)).mp z with ⟨h, _⟩ | ⟨h, _⟩ | ⟨_, _, h⟩
              · omega
              · omega
              · exact h B), if_neg (fun z => by have := k34.mp z; omega), if_neg (fun z => by have := k33.mp z; omega), if_neg z1, if_neg z1]
          · rw [bZ_t (P := mA K (fun i => Mn r p E (G i) o) (j + 1)) ((mA_s (by omega)).mpr (Or.inr (Or.inl ⟨e, A, B⟩))), if_neg (fun z => by have := k34.mp z; omega), if_pos (k33.mpr e), if_neg z1, if_neg z1]
          · rw [bZ_t (P := mA K (fun i => Mn r p E (G i) o) (j + 1)) ((mA_s (by omega)).mpr (Or.inl ⟨e, Or.inl A⟩)), if_pos (k34.mpr e), if_neg z1]
        · rw [bZ_f B]
          rcases hK with e | e | e
          · rw [bZ_t (P := mA K (fun i => Mn r p E (G i) o) (j + 1)) ((mA_s (by omega)).mpr (Or.inr (Or.inr ⟨e, A, B⟩))), if_neg (fun z => by have := k34.mp z; omega), if_neg (fun z => by have := k33.mp z; omega), if_neg z1, if_pos rfl]
          · rw [bZ_f (P := mA K (fun i => Mn r p E (G i) o) (j + 1)) (fun z => by
              rcases (mA_s (by omega)).mp z with ⟨h, _⟩ | ⟨_, _, h⟩ | ⟨h, _⟩
              · omega
              · exact B h
              · omega), if_neg (fun z => by have := k34.mp z; omega), if_pos (k33.mpr e), if_neg z1, if_pos rfl]
          · rw [bZ_t (P := mA K (fun i => Mn r p E (G i) o) (j + 1)) ((mA_s (by omega)).mpr (Or.inl ⟨e, Or.inl A⟩)), if_pos (k34.mpr e), if_neg z1]
      · rw [bZ_f A]
        rcases hK with e | e | e
        · rw [bZ_f (P := mA K (fun i => Mn r p E (G i) o) (j + 1)) (fun z => by
            rcases (mA_s (by omega)).mp z with ⟨h, _⟩ | ⟨h, _⟩ | ⟨_, h, _⟩
            · omega
            · omega
            · exact A h), if_neg (fun z => by have := k34.mp z; omega), if_neg (fun z => by have := k33.mp z; omega), if_pos rfl]
        · rw [bZ_f (P := mA K (fun i => Mn r p E (G i) o) (j + 1)) (fun z => by
            rcases (mA_s (by omega)).mp z with ⟨h, _⟩ | ⟨_, h, _⟩ | ⟨h, _⟩
            · omega
            · exact A h
            · omega), if_neg (fun z => by have := k34.mp z; omega), if_pos (k33.mpr e), if_pos rfl]
        · by_cases B : Mn r p E (G j) o
          · rw [bZ_t B, bZ_t (P := mA K (fun i => Mn r p E (G i) o) (j + 1)) ((mA_s (by omega)).mpr (Or.inl ⟨e, Or.inr B⟩)), if_pos (k34.mpr e), if_pos rfl, if_neg z1]
          · rw [bZ_f B, bZ_f (P := mA K (fun i => Mn r p E (G i) o) (j + 1)) (fun z => by
              rcases (mA_s (by omega)).mp z with ⟨_, h⟩ | ⟨h, _⟩ | ⟨h, _⟩
              · exact h.elim A B
              · omega
              · omega), if_pos (k34.mpr e), if_pos rfl, if_pos rfl]
    rw [l2_lpS st]
    exact ih (j + 1) s2 N (by omega) (by omega) h2 h3
theorem mo_go (hK : K = 33 ∨ K = 34) (hc : ch_R r n v G) (hq : ∀ j, j < v → RQ r p E σ ti NS g (G j)) : ∀ (d j : Nat) (s1 : t_S) (N : Nat), j + d = v → d < N → l2_fr rmW r s1 → MemR r p E σ ti NS s1 → ∃ s', t_loop (b_X13_omitMatch_167 (R_X13_assign g)) N (bZ (K = 33), bZ (mA K (fun i => Mn r p E (G i) none) j), nxG v G j, s1) = some (bZ (mA K (fun i => Mn r p E (G i) none) v), s') ∧ l2_fr rmW r s' ∧ MemR r p E σ ti NS s' := by
  intro d
  induction d with
  | zero =>
    intro j s1 N hj hN fr hm
    obtain ⟨N, rfl⟩ : ∃ y, N = y + 1 := ⟨N - 1, by omega⟩
    obtain rfl : j = v := by omega
    refine ⟨s1, l2_lpR ?_, fr, hm⟩
    show k_X13_omitMatch_167 _ _ _ _ s1 = _
    unfold k_X13_omitMatch_167
    rw [nx_out (by omega), if_pos (show (-1 : Int32) < 0 by decide), if_pos bZ_01]
    rfl
  | succ d ih =>
    intro j s1 N hj hN fr hm
    obtain ⟨N, rfl⟩ : ∃ y, N = y + 1 := ⟨N - 1, by omega⟩
    obtain ⟨g1, _, _, _⟩ := hc.2 j (by omega)
    obtain ⟨s2, h1, h2, h3⟩ := hq j (by omega) s1 none (-1) 0 PQ.no fr hm
    have e60 : s2.1 960 (G j) = nxG v G (j + 1) := ((rm_fr h2 (by omega)).1).trans (ch_nx hc (by omega))
    have st : b_X13_omitMatch_167 (R_X13_assign g) (bZ (K = 33), bZ (mA K (fun i => Mn r p E (G i) none) j), nxG v G j, s1) = some (.inl (bZ (K = 33), bZ (mA K (fun i => Mn r p E (G i) none) (j + 1)), nxG v G (j + 1), s2)) := by
      show k_X13_omitMatch_167 _ _ _ _ s1 = _
      unfold k_X13_omitMatch_167 k_X13_omitMatch_199 k_X13_omitMatch_213 k_X13_omitMatch_218
      rw [nx_in (by omega), if_neg (nI_pos (by omega)), h1, l2_bs]
      simp only [if_pos (l2_ix (j := G j) (n := 13000) g1 (by decide)), nI_clamp (n := G j) (show G j < 2 ^ 31 by omega), e60]
      have z1 : ¬ (1 : Int32) = 0 := by decide
      by_cases A : mA K (fun i => Mn r p E (G i) none) j
      · rw [bZ_t A]
        by_cases B : Mn r p E (G j) none
        · rw [bZ_t B]
          rcases hK with e | e
          · rw [bZ_t (P := mA K (fun i => Mn r p E (G i) none) (j + 1)) ((mA_s (by omega)).mpr (Or.inr (Or.inl ⟨e, A, B⟩))), bZ_t e, if_neg z1, if_neg z1, if_neg z1]
          · rw [bZ_t (P := mA K (fun i => Mn r p E (G i) none) (j + 1)) ((mA_s (by omega)).mpr (Or.inl ⟨e, Or.inl A⟩)), bZ_f (show ¬ K = 33 by omega), if_pos rfl, if_neg z1]
        · rw [bZ_f B]
          rcases hK with e | e
          · rw [bZ_f (P := mA K (fun i => Mn r p E (G i) none) (j + 1)) (fun z => by
              rcases (mA_s (by omega)).mp z with ⟨h, _⟩ | ⟨_, _, h⟩ | ⟨h, _⟩
              · omega
              · exact B h
              · omega), bZ_t e, if_neg z1, if_neg z1, if_pos rfl]
          · rw [bZ_t (P := mA K (fun i => Mn r p E (G i) none) (j + 1)) ((mA_s (by omega)).mpr (Or.inl ⟨e, Or.inl A⟩)), bZ_f (show ¬ K = 33 by omega), if_pos rfl, if_neg z1]
      · rw [bZ_f A]
        rcases hK with e | e
        · rw [bZ_f (P := mA K (fun i => Mn r p E (G i) none) (j + 1)) (fun z => by
            rcases (mA_s (by omega)).mp z with ⟨h, _⟩ | ⟨_, h, _⟩ | ⟨h, _⟩
            · omega
            · exact A h
            · omega), bZ_t e, if_neg z1, if_pos rfl]
        · by_cases B : Mn r p E (G j) none
          · rw [bZ_t B, bZ_t (P := mA K (fun i => Mn r p E (G i) none) (j + 1)) ((mA_s (by omega)).mpr (Or.inl ⟨e, Or.inr B⟩)), bZ_f (show ¬ K = 33 by omega), if_pos rfl, if_pos rfl, if_neg z1]
          · rw [bZ_f B, bZ_f (P := mA K (fun i => Mn r p E (G i) none) (j + 1)) (fun z => by
              rcases (mA_s (by omega)).mp z with ⟨_, h⟩ | ⟨h, _⟩ | ⟨h, _⟩
              · exact h.elim A B
              · omega
              · omega), bZ_f (show ¬ K = 33 by omega), if_pos rfl, if_pos rfl, if_pos rfl]
    rw [l2_lpS st]
    exact ih (j + 1) s2 N (by omega) (by omega) h2 h3
/-- a tone of the last kinds goes on to manyMatch -/
theorem rt_many {x : Nat} {R : Option (Int32 × t_S)} (hn : n < 13000) (hx : x < 626600) (hk : s.1 955 n = nI K) (hK : K = 31 ∨ K = 32 ∨ K = 33 ∨ K = 34 ∨ K = 36 ∨ K = 37) (hR : (R_X13_assign g).2.2.2.1 (nI n) (nI x) ((s.2.1 1006 x).toInt32) s = R) (h01 : ∀ z, R = some z → z.1 = 0 ∨ z.1 = 1) : m_X13_toneMatch (R_X13_assign g) (nI n) (nI x) s = R := by
  have fin : R.bind (fun z => if z.1 = 0 ∨ z.1 = 1 then some (z.1, z.2) else none) = R := by
    cases R with
    | none => rfl
    | some z => rw [l2_bs, if_pos (h01 z rfl)]
  unfold m_X13_toneMatch
  rw [if_pos (l2_ix hx (by decide)), if_pos (l2_ix hn (by decide)), nI_clamp (n := n) (by omega), nI_clamp (n := x) (by omega), hk]
  rcases hK with rfl | rfl | rfl | rfl | rfl | rfl
  · rw [if_neg (by decide), if_neg (by decide), if_neg (by decide), if_neg (by decide), if_neg (by decide), if_neg (by decide), if_neg (by decide), if_neg (by decide), if_neg (by decide), if_neg (by decide), if_neg (by decide), if_neg (by decide), if_pos (by decide), hR, fin]
  · rw [if_neg (by decide), if_neg (by decide), if_neg (by decide), if_neg (by decide), if_neg (by decide), if_neg (by decide), if_neg (by decide), if_neg (by decide), if_neg (by decide), if_neg (by decide), if_neg (by decide), if_neg (by decide), if_neg (by decide), if_pos (by decide), hR, fin]
  · rw [if_neg (by decide), if_neg (by decide), if_neg (by decide), if_neg (by decide), if_neg (by decide), if_neg (by decide), if_neg (by decide), if_neg (by decide), if_neg (by decide), if_neg (by decide), if_neg (by decide), if_neg (by decide), if_neg (by decide), if_neg (by decide), if_pos (by decide), hR, fin]
  · rw [if_neg (by decide), if_neg (by decide), if_neg (by decide), if_neg (by decide), if_neg (by decide), if_neg (by decide), if_neg (by decide), if_neg (by decide), if_neg (by decide), if_neg (by decide), if_neg (by decide), if_neg (by decide), if_neg (by decide), if_neg (by decide), if_neg (by decide), if_pos (by decide), hR, fin]
  · rw [if_neg (by decide), if_neg (by decide), if_neg (by decide), if_neg (by decide), if_neg (by decide), if_neg (by decide), if_neg (by decide), if_neg (by decide), if_neg (by decide), if_neg (by decide), if_neg (by decide), if_neg (by decide), if_neg (by decide), if_neg (by decide), if_neg (by decide), if_neg (by decide), if_neg (by decide), if_pos (by decide), hR, fin]
  · rw [if_neg (by decide), if_neg (by decide), if_neg (by decide), if_neg (by decide), if_neg (by decide), if_neg (by decide), if_neg (by decide), if_neg (by decide), if_neg (by decide), if_neg (by decide), if_neg (by decide), if_neg (by decide), if_neg (by decide), if_neg (by decide), if_neg (by decide), if_neg (by decide), if_neg (by decide), if_neg (by decide), if_pos (by decide), hR, fin]
theorem rt_rows (hK : K = 32 ∨ K = 33 ∨ K = 34) (hn : n < 13000) (hk : r.1 955 n = nI K) (hv : v ≤ 12) (hc : ch_R r n v (gn r n)) (pb : p + 260 ≤ 626600) (pr : ∀ x, x ≤ E → wq (r.2.1 1006) p x < p + 250) (h1 : ∀ j, j < v → RQ r p E σ ti NS g (gn r n j)) (h2 : ∀ j, j < v → RQ r p E σ ti NS (g + 1) (gn r n j)) : RT r p E σ ti NS (g + 1) n (fun o => Mt r p E (Mn r p E) n o) := by
  intro s o y num hP fr hm
  have f55 : s.1 955 n = nI K := ((rm_fr fr (by omega)).1).trans hk
  have f59 : s.1 959 n = nxG v (gn r n) 0 := ((rm_fr fr (by omega)).1).trans hc.1
  have ec := ch_cn hc (by omega)
  have hM : ∀ o, (K = 32 → o ≠ none) → (Mt r p E (Mn r p E) n o ↔ mA K (fun i => Mn r p E (gn r n i) o) v) := fun o ho => by
    unfold Mt mA
    rw [hk, ec]
    rcases hK with rfl | rfl | rfl
    · rw [if_neg (by decide), if_neg (by decide), if_neg (by decide), if_neg (by decide), if_pos (by decide)]
      constructor
      · exact fun z => Or.inr (Or.inr ⟨rfl, z.2⟩)
      · intro z
        rcases z with ⟨h, _⟩ | ⟨h, _⟩ | ⟨_, h⟩
        · omega
        · omega
        · refine ⟨?_, h⟩
          cases o with
          | none => exact absurd rfl (ho rfl)
          | some q => exact ⟨q, rfl⟩
    · rw [if_neg (by decide), if_neg (by decide), if_neg (by decide), if_neg (by decide), if_neg (by decide), if_pos (by decide)]
      constructor
      · exact fun z => Or.inr (Or.inl ⟨rfl, z⟩)
      · intro z
        rcases z with ⟨h, _⟩ | ⟨_, h⟩ | ⟨h, _⟩
        · omega
        · exact h
        · omega
    · rw [if_neg (by decide), if_neg (by decide), if_neg (by decide), if_neg (by decide), if_neg (by decide), if_neg (by decide), if_pos (by decide)]
      constructor
      · exact fun z => Or.inl ⟨rfl, z⟩
      · intro z
        rcases z with ⟨_, h⟩ | ⟨h, _⟩ | ⟨h, _⟩
        · exact h
        · omega
        · omega
  cases o with
  | none =>
    rw [if_pos rfl]
    unfold m_X13_omitMatch
    rw [if_pos (l2_ix hn (by decide)), nI_clamp (n := n) (by omega), f55]
    rcases hK with e | e | e
    · subst e
      rw [bZ_f (show ¬ Mt r p E (Mn r p E) n none from fun z => by
        unfold Mt at z
        rw [hk, if_neg (by decide), if_neg (by decide), if_neg (by decide), if_neg (by decide), if_pos (by decide)] at z
        obtain ⟨⟨q, z⟩, _⟩ := z
        exact no_ns z)]
      exact ⟨s, by rw [if_neg (by decide), if_neg (by decide), if_neg (by decide), if_neg (by decide), if_neg (by decide), if_neg (by decide), if_neg (by decide), if_neg (by decide), if_neg (by decide), if_neg (by decide), if_neg (by decide), if_neg (by decide), if_pos (by decide)], fr, hm⟩
    · obtain ⟨s', a1, a2, a3⟩ := mo_go (K := K) (Or.inl e) hc h2 v 0 s t_N (by omega) (by have := l2_N; omega) fr hm
      refine ⟨s', ?_, a2, a3⟩
      rw [bZ_i (hM none (by omega)), ← a1, bZ_t e, bZ_t ((mA_0 (by omega)).mpr (by omega))]
      subst e
      rw [if_neg (by decide), if_neg (by decide), if_neg (by decide), if_neg (by decide), if_neg (by decide), if_neg (by decide), if_neg (by decide), if_neg (by decide), if_neg (by decide), if_neg (by decide), if_neg (by decide), if_neg (by decide), if_neg (by decide), if_pos (by decide), if_pos (by decide)]
      unfold k_X13_omitMatch_155
      rw [if_pos (l2_ix hn (by decide)), nI_clamp (n := n) (by omega), f59]
    · obtain ⟨s', a1, a2, a3⟩ := mo_go (K := K) (Or.inr e) hc h2 v 0 s t_N (by omega) (by have := l2_N; omega) fr hm
      refine ⟨s', ?_, a2, a3⟩
      rw [bZ_i (hM none (by omega)), ← a1, bZ_f (show ¬ K = 33 by omega), bZ_f (fun z => (mA_0 (by omega)).mp z e)]
      subst e
      rw [if_neg (by decide), if_neg (by decide), if_neg (by decide), if_neg (by decide), if_neg (by decide), if_neg (by decide), if_neg (by decide), if_neg (by decide), if_neg (by decide), if_neg (by decide), if_neg (by decide), if_neg (by decide), if_neg (by decide), if_neg (by decide), if_pos (by decide), if_neg (by decide)]
      unfold k_X13_omitMatch_155
      rw [if_pos (l2_ix hn (by decide)), nI_clamp (n := n) (by omega), f59]
  | some x =>
    obtain ⟨k, k1, k2, k3, _, k4⟩ := hP.nn
    have xl := pr k (by omega)
    rw [← k2] at xl
    subst k3
    rw [if_neg (fun z => no_sn z), bZ_i (hM (some x) (fun _ z => no_sn z))]
    obtain ⟨s', a1, a2, a3⟩ := mm_go (K := K) hK hP hc h1 v 0 s t_N (by omega) (by have := l2_N; omega) fr hm
    have q : (R_X13_assign (g + 1)).2.2.2.1 (nI n) (nI x) ((s.2.1 1006 x).toInt32) s = some (bZ (mA K (fun i => Mn r p E (gn r n i) (some x)) v), s') := by
      show m_X13_manyMatch (R_X13_assign g) (nI n) (nI x) ((s.2.1 1006 x).toInt32) s = _
      rw [← a1]
      unfold m_X13_manyMatch k_X13_manyMatch_110
      rw [if_pos (l2_ix hn (by decide)), nI_clamp (n := n) (by omega), f55, f59]
      have z0 := mA_0 (Q := fun i => Mn r p E (gn r n i) (some x)) hK
      rcases hK with e | e | e
      · rw [bZ_t (z0.mpr (by omega)), e, if_neg (by decide), if_neg (by decide), if_neg (by decide), if_neg (by decide), if_pos (l2_ix hn (by decide))]
      · rw [bZ_t (z0.mpr (by omega)), e, if_neg (by decide), if_neg (by decide), if_neg (by decide), if_neg (by decide), if_pos (l2_ix hn (by decide))]
      · rw [bZ_f (fun w => z0.mp w e), e, if_neg (by decide), if_neg (by decide), if_neg (by decide), if_pos (by decide), if_pos (l2_ix hn (by decide))]
    exact ⟨s', rt_many hn (by omega) f55 (by omega) q (fun z hz => by injection hz with hz; rw [← hz]; exact bZ_01), a2, a3⟩
end
