/-! Level 2: the reference's names: what is found, what is added. -/
def nm_I (s : t_S) (N t : Nat) (A Z C : Nat → Nat) : Prop := N ≤ 8200 ∧ s.1 950 14 = nI N ∧ t ≤ 24300 ∧ s.1 950 15 = nI t ∧ (∀ k, k < N → s.1 952 k = nI (A k) ∧ s.1 953 k = nI (Z k) ∧ A k + Z k ≤ t) ∧ (∀ j, j < t → s.1 954 j = nI (C j) ∧ C j < 256) ∧ (∀ k l, k < N → l < N → Z k = Z l → (∀ i, i < Z k → C (A k + i) = C (A l + i)) → k = l)
/-- whether name k is the word of n signs at p -/
def nm_m (A Z C B : Nat → Nat) (p n k : Nat) : Prop := Z k = n ∧ ∀ i, i < n → C (A k + i) = B (p + i)
def nm_W (b j : Nat) : Prop := (952 ≤ b ∧ b ≤ 954) ∨ (b = 950 ∧ (j = 14 ∨ j = 15))
theorem nm_I.fr {P : Nat → Nat → Prop} {s s' : t_S} {N t : Nat} {A Z C : Nat → Nat} (h : nm_I s N t A Z C) (f : l2_fr P s s') (w1 : ¬ P 950 14) (w2 : ¬ P 950 15) (w3 : ∀ b i, 952 ≤ b → b ≤ 954 → ¬ P b i) : nm_I s' N t A Z C := by
  obtain ⟨g1, g2, g3, g4, g5, g6, g7⟩ := h
  refine ⟨g1, ?_, g3, ?_, fun k hk => ?_, fun j hj => ?_, g7⟩
  · rw [(f 950 14 w1).1]; exact g2
  · rw [(f 950 15 w2).1]; exact g4
  · rw [(f 952 k (w3 952 k (by omega) (by omega))).1, (f 953 k (w3 953 k (by omega) (by omega))).1]; exact g5 k hk
  · rw [(f 954 j (w3 954 j (by omega) (by omega))).1]; exact g6 j hj
theorem nm_I.add {s s' : t_S} {N t n p : Nat} {A Z C B : Nat → Nat} (h : nm_I s N t A Z C) (hN : N < 8200) (ht : t + n ≤ 24300) (hB : ∀ i, i < n → B (p + i) < 256) (no : ∀ k, k < N → ¬ nm_m A Z C B p n k) (e1 : s'.1 950 14 = nI (N + 1)) (e2 : s'.1 950 15 = nI (t + n)) (e3 : s'.1 952 = va_up (s.1 952) N (nI t)) (e4 : s'.1 953 = va_up (s.1 953) N (nI n)) (e5 : ∀ j, j < t → s'.1 954 j = s.1 954 j) (e6 : ∀ i, i < n → s'.1 954 (t + i) = nI (B (p + i))) : nm_I s' (N + 1) (t + n) (va_up A N t) (va_up Z N n) (fun j => if j < t then C j else B (p + (j - t))) := by
  obtain ⟨g1, g2, g3, g4, g5, g6, g7⟩ := h
  have old : ∀ k, k < N → ∀ i, i < Z k → (if A k + i < t then C (A k + i) else B (p + (A k + i - t))) = C (A k + i) := fun k hk i hi => by
    have := (g5 k hk).2.2
    rw [if_pos (by omega)]
  have new : ∀ i, i < n → (if t + i < t then C (t + i) else B (p + (t + i - t))) = B (p + i) := fun i hi => by
    rw [if_neg (by omega), Nat.add_sub_cancel_left]
  refine ⟨by omega, e1, ht, e2, fun k hk => ?_, fun j hj => ?_, fun k l hk hl hz hh => ?_⟩
  · rw [e3, e4]
    by_cases e : k = N
    · rw [e, mj_up_eq, mj_up_eq, mj_up_eq, mj_up_eq]
      exact ⟨rfl, rfl, Nat.le_refl _⟩
    · rw [mj_up_ne _ _ e, mj_up_ne _ _ e, mj_up_ne _ _ e, mj_up_ne _ _ e]
      obtain ⟨a, b, c⟩ := g5 k (by omega)
      exact ⟨a, b, by omega⟩
  · show s'.1 954 j = nI (if j < t then C j else B (p + (j - t))) ∧ (if j < t then C j else B (p + (j - t))) < 256
    by_cases e : j < t
    · rw [if_pos e, e5 j e]
      exact g6 j e
    · rw [if_neg e]
      have x := e6 (j - t) (by omega)
      rw [show t + (j - t) = j by omega] at x
      exact ⟨x, hB _ (by omega)⟩
  · by_cases e : k = N
    · by_cases f : l = N
      · omega
      · rw [e, mj_up_eq, mj_up_ne _ _ f] at hz
        exfalso
        refine no l (by omega) ⟨hz.symm, fun i hi => ?_⟩
        have x := hh i (by rw [e, mj_up_eq]; exact hi)
        rw [e, mj_up_eq, mj_up_ne _ _ f] at x
        have y := (new i hi).symm.trans (x.trans (old l (by omega) i (by omega)))
        exact y.symm
    · by_cases f : l = N
      · rw [f, mj_up_eq, mj_up_ne _ _ e] at hz
        exfalso
        refine no k (by omega) ⟨hz, fun i hi => ?_⟩
        have x := hh i (by rw [mj_up_ne _ _ e]; omega)
        rw [f, mj_up_eq, mj_up_ne _ _ e] at x
        exact (old k (by omega) i (by omega)).symm.trans (x.trans (new i hi))
      · rw [mj_up_ne _ _ e, mj_up_ne _ _ f] at hz
        refine g7 k l (by omega) (by omega) hz (fun i hi => ?_)
        have x := hh i (by rw [mj_up_ne _ _ e]; exact hi)
        rw [mj_up_ne _ _ e, mj_up_ne _ _ f] at x
        exact (old k (by omega) i hi).symm.trans (x.trans (old l (by omega) i (by omega)))
/-- the answer of the reference's look for a name -/
def nm_Q (N t : Nat) (A Z C B : Nat → Nat) (p n : Nat) (s : t_S) (r : Int32 × t_S) : Prop := (∃ k, k < N ∧ nm_m A Z C B p n k ∧ r = (nI k, s)) ∨ ((∀ k, k < N → ¬ nm_m A Z C B p n k) ∧ s.1 950 16 = 0 ∧ r = (-1, s)) ∨ ((∀ k, k < N → ¬ nm_m A Z C B p n k) ∧ s.1 950 16 ≠ 0 ∧ r.1 = nI N ∧ l2_fr nm_W s r.2 ∧ nm_I r.2 (N + 1) (t + n) (va_up A N t) (va_up Z N n) (fun j => if j < t then C j else B (p + (j - t))))
theorem nm_name {s : t_S} {B : Nat → Nat} {L p n N t : Nat} {A Z C : Nat → Nat} (hT : tx_Tr s B L) (hp : p + n ≤ L) (h6 : s.1 950 6 = nI p) (h7 : s.1 950 7 = nI n) (hI : nm_I s N t A Z C) (hN : N < 8200) (ht : t + n ≤ 24300) : t_hk (f_X13_name s) (nm_Q N t A Z C B p n s) := by
  have hL := hT.1
  have hI0 := hI
  obtain ⟨g1, g2, g3, g4, g5, g6, g7⟩ := hI
  unfold f_X13_name
  refine l2_lp (fun w y => ∃ k, k + w = N ∧ y = (nI k, s) ∧ ∀ l, l < k → ¬ nm_m A Z C B p n l) ?_ (m := N) (Nat.lt_trans (show N < 1000000000 by omega) l2_N) ⟨0, by omega, rfl, fun l hl => absurd hl (by omega)⟩
  rintro w y ⟨k, hk, rfl, hno⟩
  show t_hk (k_X13_name_2 (nI k) s) _
  unfold k_X13_name_2
  rw [g2]
  refine l2_if (fun c => ?_) (fun c => ?_)
  · have c : N ≤ k := (nI_leI (by omega) (by omega)).mp c
    have e : k = N := by omega
    subst e
    refine l2_mp (l2_if (fun z => l2_sm (Or.inr (Or.inl ⟨hno, z, rfl⟩))) (fun z => ?_))
    refine l2_ck (l2_ix hN (by decide)) ?_
    rw [nI_clamp (by omega), g4]
    refine l2_lt ?_
    rw [l2_sO (show 950 ≠ 952 by decide), g2, h7]
    refine l2_ck (l2_ix hN (by decide)) ?_
    rw [nI_clamp (by omega)]
    refine l2_lt ?_
    refine l2_lp (fun v y => ∃ i s1, i + v = n ∧ y = (nI i, s1) ∧ l2_fr nm_W s s1 ∧ s1.1 950 14 = nI k ∧ s1.1 950 15 = nI (t + i) ∧ s1.1 952 = va_up (s.1 952) k (nI t) ∧ s1.1 953 = va_up (s.1 953) k (nI n) ∧ (∀ j, j < t → s1.1 954 j = s.1 954 j) ∧ ∀ j, j < i → s1.1 954 (t + j) = nI (B (p + j))) ?_ (m := n) (Nat.lt_trans (show n < 1000000000 by omega) l2_N) ⟨0, _, by omega, rfl, (l2_fr.set (Or.inl (by omega))).trans (l2_fr.set (Or.inl (by omega))), ?_, ?_, ?_, ?_, ?_, fun j hj => absurd hj (by omega)⟩
    · rintro v y ⟨i, s1, hi, rfl, f1, k14, k15, k52, k53, k54, kn⟩
      show t_hk (k_X13_name_131 (nI i) s1) _
      unfold k_X13_name_131
      have j7 : s1.1 950 7 = nI n := by rw [(f1 950 7 (by unfold nm_W; omega)).1]; exact h7
      have j6 : s1.1 950 6 = nI p := by rw [(f1 950 6 (by unfold nm_W; omega)).1]; exact h6
      rw [j7]
      refine l2_if (fun c2 => ?_) (fun c2 => ?_)
      · have c2 : n ≤ i := (nI_leI (by omega) (by omega)).mp c2
        have ei : i = n := by omega
        subst ei
        rw [k14, nI_1]
        refine l2_mp (l2_lt ?_)
        have m14 : (t_setI s1 950 14 (nI (k + 1))).1 950 14 = nI (k + 1) := by simp only [l2_g, reduceIte]
        rw [m14, nI_pred]
        refine l2_sm (Or.inr (Or.inr ⟨hno, z, rfl, f1.trans (l2_fr.set (Or.inr ⟨rfl, Or.inl rfl⟩)), hI0.add hN ht (fun i hi => (hT.2.2 _ (by omega)).1) hno m14 ?_ ?_ ?_ ?_ ?_⟩))
        · simp only [l2_g, Nat.reduceEqDiff, reduceIte]
          exact k15
        · rw [l2_sO (by decide)]; exact k52
        · rw [l2_sO (by decide)]; exact k53
        · intro j hj
          rw [l2_sO (by decide)]; exact k54 j hj
        · intro j hj
          rw [l2_sO (by decide)]; exact kn j hj
      · have c2 : ¬ n ≤ i := fun x => c2 ((nI_leI (by omega) (by omega)).mpr x)
        rw [j6, nI_add, k15]
        refine l2_ck (l2_ix (by omega) (by decide)) (l2_ck (l2_ix (by omega) (by decide)) ?_)
        rw [nI_clamp (n := t + i) (by omega), nI_clamp (n := p + i) (by omega), (f1 951 (p + i) (by unfold nm_W; omega)).1, (hT.2.2 (p + i) (by omega)).2]
        refine l2_lt ?_
        rw [l2_sO (show 950 ≠ 954 by decide), k15, nI_1, nI_1]
        refine l2_lt (l2_sm ⟨v - 1, by omega, i + 1, _, by omega, rfl, (f1.trans (l2_fr.set (Or.inl (by omega)))).trans (l2_fr.set (Or.inr ⟨rfl, Or.inr rfl⟩)), ?_, ?_, ?_, ?_, ?_, ?_⟩)
        · simp only [l2_g, Nat.reduceEqDiff, reduceIte]
          rw [l2_sO (by decide)]
          exact k14
        · simp only [l2_g, reduceIte]
          rfl
        · rw [l2_sO (by decide), l2_sO (by decide)]; exact k52
        · rw [l2_sO (by decide), l2_sO (by decide)]; exact k53
        · intro j hj
          rw [l2_sO (by decide), l2_sI, mj_up_ne _ _ (by omega)]
          exact k54 j hj
        · intro j hj
          rw [l2_sO (by decide), l2_sI]
          by_cases e : j = i
          · rw [e, mj_up_eq]
          · rw [mj_up_ne _ _ (by omega)]
            exact kn j (by omega)
    · rw [l2_sO (by decide), l2_sO (by decide)]; exact g2
    · rw [l2_sO (by decide), l2_sO (by decide)]; exact g4
    · rw [l2_sO (by decide), l2_sI]
    · rw [l2_sI, l2_sO (by decide)]
    · intro j _
      rw [l2_sO (by decide), l2_sO (by decide)]
  · have c : ¬ N ≤ k := fun x => c ((nI_leI (by omega) (by omega)).mpr x)
    obtain ⟨a1, a2, a3⟩ := g5 k (by omega)
    refine l2_ck (l2_ix (by omega) (by decide)) ?_
    rw [nI_clamp (by omega), a2, h7]
    -- the look at one name
    have loop : ∀ q : Int32, ((q = 1 ∧ Z k = n) ∨ (q = 0 ∧ Z k ≠ n)) → t_hk (k_X13_name_28 (nI k) q s) (l2_nx (fun z => ∃ j, j < w ∧ ∃ k, k + j = N ∧ z = (nI k, s) ∧ ∀ l, l < k → ¬ nm_m A Z C B p n l) (nm_Q N t A Z C B p n s)) := by
      intro q hq
      unfold k_X13_name_28
      have nx : ¬ nm_m A Z C B p n k → t_hk (k_X13_name_82 (nI k) 0 s) (l2_nx (fun z => ∃ j, j < w ∧ ∃ k, k + j = N ∧ z = (nI k, s) ∧ ∀ l, l < k → ¬ nm_m A Z C B p n l) (nm_Q N t A Z C B p n s)) := by
        intro nm
        unfold k_X13_name_82
        rw [nI_1]
        refine l2_ck rfl (l2_sm ⟨w - 1, by omega, k + 1, by omega, rfl, fun l hl => ?_⟩)
        by_cases e : l = k
        · rw [e]; exact nm
        · exact hno l (by omega)
      refine l2_lp (fun v y => ∃ (i : Nat) (q : Int32), y = (nI k, q, nI i, s) ∧ i + v = n + 1 ∧ i ≤ n ∧ ((q = 1 ∧ Z k = n ∧ ∀ j, j < i → C (A k + j) = B (p + j)) ∨ (q = 0 ∧ ¬ nm_m A Z C B p n k))) ?_ (m := n + 1) (Nat.lt_trans (show n + 1 < 1000000000 by omega) l2_N) ⟨0, q, rfl, by omega, by omega, ?_⟩
      · rintro v y ⟨i, q2, rfl, hv, hin, hq2⟩
        show t_hk (k_X13_name_31 (nI k) q2 (nI i) s) _
        unfold k_X13_name_31
        rw [h7]
        have done : i = n ∨ q2 = 0 → t_hk ((k_X13_name_82 (nI k) q2 s).map Sum.inr) (l2_nx (fun z => ∃ j, j < v ∧ ∃ (i : Nat) (q : Int32), z = (nI k, q, nI i, s) ∧ i + j = n + 1 ∧ i ≤ n ∧ ((q = 1 ∧ Z k = n ∧ ∀ j, j < i → C (A k + j) = B (p + j)) ∨ (q = 0 ∧ ¬ nm_m A Z C B p n k))) (l2_nx (fun z => ∃ j, j < w ∧ ∃ k, k + j = N ∧ z = (nI k, s) ∧ ∀ l, l < k → ¬ nm_m A Z C B p n l) (nm_Q N t A Z C B p n s))) := by
          intro hd
          refine l2_mp ?_
          rcases hq2 with ⟨rfl, hz, hh⟩ | ⟨rfl, nm⟩
          · rcases hd with rfl | hd
            · unfold k_X13_name_82
              exact l2_no l2_10 (l2_mp (l2_sm (Or.inl ⟨k, by omega, ⟨hz, hh⟩, rfl⟩)))
            · exact absurd hd l2_10
          · exact nx nm
        refine l2_if (fun z => ?_) (fun z => ?_)
        · have z : n ≤ i := (nI_leI (by omega) (by omega)).mp z
          exact done (Or.inl (by omega))
        have z : ¬ n ≤ i := fun x => z ((nI_leI (by omega) (by omega)).mpr x)
        refine l2_if (fun x => done (Or.inr x)) (fun x => ?_)
        rcases hq2 with ⟨rfl, hz, hh⟩ | ⟨rfl, nm⟩
        · refine l2_ck (l2_ix (by omega) (by decide)) ?_
          rw [nI_clamp (n := k) (by omega), a1, nI_add, h6, nI_add]
          refine l2_ck (l2_ix (by omega) (by decide)) (l2_ck (l2_ix (by omega) (by decide)) ?_)
          obtain ⟨c1, c2⟩ := g6 (A k + i) (by omega)
          obtain ⟨d1, d2⟩ := hT.2.2 (p + i) (by omega)
          rw [nI_clamp (n := A k + i) (by omega), nI_clamp (n := p + i) (by omega), c1, d2]
          unfold k_X13_name_75
          rw [nI_1]
          refine l2_if (fun u => l2_sm ⟨v - 1, by omega, i + 1, 1, rfl, by omega, by omega, Or.inl ⟨rfl, hz, fun j hj => ?_⟩⟩) (fun u => l2_sm ⟨v - 1, by omega, i + 1, 0, rfl, by omega, by omega, Or.inr ⟨rfl, fun nm => ?_⟩⟩)
          · by_cases e : j = i
            · rw [e]
              exact (l2_eqI (by omega) (by omega)).mp u
            · exact hh j (by omega)
          · exact u (by rw [nm.2 i (by omega)])
        · exact absurd rfl x
      · rcases hq with ⟨rfl, hz⟩ | ⟨rfl, hz⟩
        · exact Or.inl ⟨rfl, hz, fun j hj => absurd hj (by omega)⟩
        · exact Or.inr ⟨rfl, fun nm => hz nm.1⟩
    have zb : Z k < 2 ^ 31 := by omega
    refine l2_if (fun z => loop 1 (Or.inl ⟨rfl, (l2_eqI zb (by omega)).mp z⟩)) (fun z => loop 0 (Or.inr ⟨rfl, fun x => z (by rw [x])⟩))
