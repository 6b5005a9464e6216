/-! Level 2: the reference holds a part against a templ: [ ], the loop over the pieces. -/
/-- what one piece is, on the reference's side -/
def pkR (r : t_S) (p E σ : Nat) (ti : Nat → Nat) (NS : Nat → Prop) (g gu : Nat) : Prop := gu < 13000 ∧ ((r.1 955 gu ≠ 39 ∧ RQ r p E σ ti NS (g + 1) gu) ∨ (r.1 955 gu = 39 ∧ ∃ v', 0 < v' ∧ v' ≤ 12 ∧ ch_R r gu v' (gn r gu) ∧ ∀ y, y < v' → RQ r p E σ ti NS g (gn r gu y)))
section
variable {r s : t_S} {p E σ : Nat} {ti : Nat → Nat} {NS : Nat → Prop} {n g v m P i : Nat} {Qe : Nat → Nat}
theorem lst_go {rc : RT_X13_assign} {l4 l5 l7 l8 : Int32} (hm : m ≤ 16) : ∀ (d k : Nat) (l6 : Int32) (N : Nat) (Q : Nat → Prop), k + d = m + 1 → d < N → BS l6 17 Q → ∃ l6', t_loop (b_X13_listMatch_116 rc) N (nI P, nI m, l4, l5, l6, l7, l8, nI i, nI k, s) = some (.inl (nI P, nI m, l4, l5, l6', l7, l8, nI (i + 1), s)) ∧ BS l6' 17 (fun e => Q e ∨ (k ≤ e ∧ e ≤ m)) := by
  intro d
  induction d with
  | zero =>
    intro k l6 N Q hk hN hb
    obtain ⟨N, rfl⟩ : ∃ y, N = y + 1 := ⟨N - 1, by omega⟩
    refine ⟨l6, l2_lpR ?_, hb.iff (fun e => ⟨Or.inl, fun z => z.elim id (fun w => by omega)⟩)⟩
    show k_X13_listMatch_116 _ _ _ _ _ _ _ _ _ _ _ = _
    unfold k_X13_listMatch_116 k_X13_listMatch_217
    rw [if_pos (nI_lt (show m < k by omega) (by omega)), nI_1]
    rfl
  | succ d ih =>
    intro k l6 N Q hk hN hb
    obtain ⟨N, rfl⟩ : ∃ y, N = y + 1 := ⟨N - 1, by omega⟩
    have st : b_X13_listMatch_116 rc (nI P, nI m, l4, l5, l6, l7, l8, nI i, nI k, s) = some (.inl (nI P, nI m, l4, l5, (l6 ||| ((1 : Int32) <<< (nI k &&& 31))), l7, l8, nI i, nI (k + 1), s)) := by
      show k_X13_listMatch_116 _ _ _ _ _ _ _ _ _ _ _ = _
      unfold k_X13_listMatch_116
      rw [if_neg (fun z => by have := (nI_ltI (a := m) (b := k) (by omega) (by omega)).mp z; omega), nI_1]
    obtain ⟨l6', h1, h2⟩ := ih (k + 1) _ N _ (by omega) (by omega) (hb.or (BS.bit (e := k) (n := 17) (by omega) (by omega)))
    refine ⟨l6', by rw [l2_lpS st]; exact h1, h2.iff (fun e => ⟨fun z => ?_, fun z => ?_⟩)⟩
    · rcases z with (z | z) | z
      · exact Or.inl z
      · exact Or.inr (by omega)
      · exact Or.inr (by omega)
    · rcases z with z | z
      · exact Or.inl (Or.inl z)
      · by_cases c : e = k
        · exact Or.inl (Or.inr c)
        · exact Or.inr (by omega)
theorem rli_in {u : Nat} (pc : pkR r p E σ ti NS g (gn r n u)) (hm16 : m ≤ 16) (el : ∀ e, e < m → (∀ s : t_S, s.2.1 1006 = r.2.1 1006 → f_X13_partOf (nI P) (nI e) s = some (nI (Qe e))) ∧ Qe e < 626600 ∧ ∃ num, PQ r p E (some (Qe e)) (nI (Qe e)) num) {l4 l7 : Int32} {sz : Nat} (h4 : BS l4 17 (rcS r (Mn r p E) n P m u)) (h7 : l7 = bZ (isS r (gn r n u))) (hsz : sz = if r.1 955 (gn r n u) = 39 then cn r (gn r n u) else 1) : ∀ (d i : Nat) (l6 : Int32) (s1 : t_S) (N : Nat), i + d = m + 1 → d < N → BS l6 17 (fun e' => e' ≤ m ∧ ∃ e, e < i ∧ rcS r (Mn r p E) n P m u e ∧ stS r (Mn r p E) P (gn r n u) e e') → l2_fr rmW r s1 → MemR r p E σ ti NS s1 → ∃ s' l6', t_loop (b_X13_listMatch_90 (R_X13_assign (g + 1))) N (nI P, nI m, l4, nI (gn r n u), l6, l7, nI sz, nI i, s1) = some (.inl (nI P, nI m, l6', r.1 960 (gn r n u), s')) ∧ BS l6' 17 (rcS r (Mn r p E) n P m (u + 1)) ∧ l2_fr rmW r s' ∧ MemR r p E σ ti NS s' := by
  obtain ⟨gl, pc⟩ := pc
  generalize hgu : gn r n u = gu at *
  intro d
  induction d with
  | zero =>
    intro i l6 s1 N hi hN hb fr hm
    obtain ⟨N, rfl⟩ : ∃ y, N = y + 1 := ⟨N - 1, by omega⟩
    refine ⟨s1, l6, l2_lpR ?_, hb.iff (fun e' => ?_), fr, hm⟩
    · show k_X13_listMatch_90 _ _ _ _ _ _ _ _ _ _ = _
      unfold k_X13_listMatch_90
      rw [if_pos (nI_lt (show m < i by omega) (by omega)), if_pos (l2_ix gl (by decide)), nI_clamp (n := gu) (by omega), (rm_fr fr (by omega)).1]
      rfl
    · rw [rcS_st, hgu]
      exact and_congr Iff.rfl ⟨fun ⟨e, _, h⟩ => ⟨e, h⟩, fun ⟨e, h⟩ => ⟨e, by have := rcS_le _ _ h.1; omega, h⟩⟩
  | succ d ih =>
    intro i l6 s1 N hi hN hb fr hm
    obtain ⟨N, rfl⟩ : ∃ y, N = y + 1 := ⟨N - 1, by omega⟩
    have hnl : ¬ nI m < nI i := fun z => by have := (nI_ltI (a := m) (b := i) (by omega) (by omega)).mp z; omega
    have f55 : s1.1 955 gu = r.1 955 gu := (rm_fr fr (by omega)).1
    have e6 : s1.2.1 1006 = r.2.1 1006 := by funext z; exact (rm_fr fr (by omega)).2
    have T := (h4.test (e := i) (by omega) (by omega)).1
    -- nothing new
    have skip : b_X13_listMatch_90 (R_X13_assign (g + 1)) (nI P, nI m, l4, nI gu, l6, l7, nI sz, nI i, s1) = some (.inl (nI P, nI m, l4, nI gu, l6, l7, nI sz, nI (i + 1), s1)) → (∀ e', e' ≤ m → rcS r (Mn r p E) n P m u i → ¬ stS r (Mn r p E) P gu i e') → ∃ s' l6', t_loop (b_X13_listMatch_90 (R_X13_assign (g + 1))) (N + 1) (nI P, nI m, l4, nI gu, l6, l7, nI sz, nI i, s1) = some (.inl (nI P, nI m, l6', r.1 960 gu, s')) ∧ BS l6' 17 (rcS r (Mn r p E) n P m (u + 1)) ∧ l2_fr rmW r s' ∧ MemR r p E σ ti NS s' := fun st no => by
      rw [l2_lpS st]
      refine ih (i + 1) l6 s1 N (by omega) (by omega) (hb.iff (fun e' => ⟨fun ⟨z1, e, z2, z3⟩ => ⟨z1, e, by omega, z3⟩, fun ⟨z1, e, z2, z3, z4⟩ => ⟨z1, e, ?_, z3, z4⟩⟩)) fr hm
      by_cases c : e = i
      · rw [c] at z3 z4
        exact absurd z4 (no e' z1 z3)
      · omega
    -- one more
    have more : ∀ (s2 : t_S) (Q : Prop), l2_fr rmW r s2 → MemR r p E σ ti NS s2 → rcS r (Mn r p E) n P m u i → i + sz ≤ m → (∀ e', stS r (Mn r p E) P gu i e' ↔ e' = i + sz ∧ Q) → b_X13_listMatch_90 (R_X13_assign (g + 1)) (nI P, nI m, l4, nI gu, l6, l7, nI sz, nI i, s1) = k_X13_listMatch_194 (R_X13_assign (g + 1)) (nI P) (nI m) l4 (nI gu) l6 l7 (nI sz) (nI i) (bZ Q) s2 → ∃ s' l6', t_loop (b_X13_listMatch_90 (R_X13_assign (g + 1))) (N + 1) (nI P, nI m, l4, nI gu, l6, l7, nI sz, nI i, s1) = some (.inl (nI P, nI m, l6', r.1 960 gu, s')) ∧ BS l6' 17 (rcS r (Mn r p E) n P m (u + 1)) ∧ l2_fr rmW r s' ∧ MemR r p E σ ti NS s' := fun s2 Q f2 m2 hr hs hst st => by
      unfold k_X13_listMatch_194 k_X13_listMatch_214 k_X13_listMatch_217 at st
      by_cases cQ : Q
      · rw [bZ_t cQ, if_neg (show ¬ (1 : Int32) = 0 by decide), nI_add, nI_1] at st
        rw [l2_lpS st]
        refine ih (i + 1) _ s2 N (by omega) (by omega) ((hb.or (BS.bit (e := i + sz) (n := 17) (by omega) (by omega))).iff (fun e' => ⟨fun z => ?_, fun ⟨z1, e, z2, z3, z4⟩ => ?_⟩)) f2 m2
        · rcases z with ⟨z1, e, z2, z3⟩ | z
          · exact ⟨z1, e, by omega, z3⟩
          · rw [z]
            exact ⟨hs, i, by omega, hr, (hst _).mpr ⟨rfl, cQ⟩⟩
        · by_cases c : e = i
          · rw [c] at z4
            exact Or.inr ((hst e').mp z4).1
          · exact Or.inl ⟨z1, e, by omega, z3, z4⟩
      · rw [bZ_f cQ, if_pos rfl, nI_1] at st
        rw [l2_lpS st]
        refine ih (i + 1) _ s2 N (by omega) (by omega) ((hb.or BS.zero).iff (fun e' => ⟨fun z => ?_, fun ⟨z1, e, z2, z3, z4⟩ => ?_⟩)) f2 m2
        · rcases z with ⟨z1, e, z2, z3⟩ | z
          · exact ⟨z1, e, by omega, z3⟩
          · exact z.elim
        · by_cases c : e = i
          · rw [c] at z4
            exact absurd ((hst e').mp z4).2 cQ
          · exact Or.inl ⟨z1, e, by omega, z3, z4⟩
    have st0 : b_X13_listMatch_90 (R_X13_assign (g + 1)) (nI P, nI m, l4, nI gu, l6, l7, nI sz, nI i, s1) = k_X13_listMatch_90 (R_X13_assign (g + 1)) (nI P) (nI m) l4 (nI gu) l6 l7 (nI sz) (nI i) s1 := rfl
    unfold k_X13_listMatch_90 k_X13_listMatch_217 at st0
    rw [if_neg hnl, nI_1] at st0
    have szb : sz ≤ 12 := by
      rcases pc with ⟨k, _⟩ | ⟨k, v', k1, k2, k3, _⟩
      · rw [hsz, if_neg k]; omega
      · rw [hsz, if_pos k, ch_cn k3 (by omega)]; omega
    by_cases cr : rcS r (Mn r p E) n P m u i
    · rw [if_pos (T.mpr cr)] at st0
      by_cases cs : isS r gu
      · -- any number
        rw [h7, bZ_t cs, if_neg (show ¬ (1 : Int32) = 0 by decide)] at st0
        rw [bZ_t cs] at h7
        obtain ⟨l6', k1, k2⟩ := lst_go (rc := R_X13_assign (g + 1)) (l4 := l4) (l5 := nI gu) (l7 := 1) (l8 := nI sz) (P := P) (i := i) (s := s1) hm16 (m + 1 - i) i l6 t_N _ (by omega) (by have := l2_N; omega) hb
        rw [k1] at st0
        rw [← h7] at st0
        rw [l2_lpS st0]
        refine ih (i + 1) l6' s1 N (by omega) (by omega) (k2.iff (fun e' => ⟨fun z => ?_, fun ⟨z1, e, z2, z3, z4⟩ => ?_⟩)) fr hm
        · rcases z with ⟨z1, e, z2, z3⟩ | z
          · exact ⟨z1, e, by omega, z3⟩
          · exact ⟨z.2, i, by omega, cr, Or.inl ⟨cs, z.1⟩⟩
        · by_cases c : e = i
          · rw [c] at z4
            rcases z4 with ⟨_, z4⟩ | ⟨z4, _⟩ | ⟨z4, _⟩
            · exact Or.inr ⟨z4, z1⟩
            · have := cs.1
              rw [z4] at this
              exact absurd this (by decide)
            · exact absurd cs z4
          · exact Or.inl ⟨z1, e, by omega, z3, z4⟩
      · rw [h7, bZ_f cs, if_pos rfl, nI_add] at st0
        rw [bZ_f cs] at h7
        subst h7
        by_cases cm : m < i + sz
        · rw [if_pos (nI_lt cm (by omega))] at st0
          refine skip st0 (fun e' h1 _ h2 => ?_)
          rcases h2 with ⟨h2, _⟩ | ⟨h2, h3, _⟩ | ⟨_, h2, h3, _⟩
          · exact cs h2
          · rw [if_pos h2] at hsz
            omega
          · rw [if_neg h2] at hsz
            omega
        · rw [if_neg (fun z => cm ((nI_ltI (by omega) (by omega)).mp z)), if_pos (l2_ix gl (by decide)), nI_clamp (n := gu) (by omega), f55] at st0
          rcases pc with ⟨k, rq⟩ | ⟨k, v', k1, k2, k3, k4⟩
          · -- a templ
            rw [if_neg k] at st0
            have z1 : sz = 1 := by rw [hsz, if_neg k]
            obtain ⟨pe, ql, num, pq⟩ := el i (by omega)
            obtain ⟨s2, a1, a2, a3⟩ := rq s1 _ _ _ pq fr hm
            rw [pe s1 e6, l2_bs, a1, l2_bs] at st0
            refine more s2 (Mn r p E gu (some (Qe i))) a2 a3 cr (by omega) (fun e' => ⟨fun z => ?_, fun z => ?_⟩) st0
            · rcases z with ⟨z, _⟩ | ⟨z, _⟩ | ⟨_, _, z, q', ⟨b1, b2⟩, b3⟩
              · exact absurd z cs
              · exact absurd z k
              · rw [pe r rfl] at b1
                injection b1 with b1
                rw [(nI_eq (by omega) (by omega)).mp b1, z1]
                exact ⟨z, b3⟩
            · exact Or.inr (Or.inr ⟨cs, k, by omega, Qe i, ⟨pe r rfl, ql⟩, z.2⟩)
          · -- perm
            rw [if_pos k] at st0
            have z1 : sz = v' := by rw [hsz, if_pos k, ch_cn k3 (by omega)]
            have A : AC r p E σ ti NS gu g v' m P (gn r gu) Qe := ⟨k3, ⟨k2, hm16⟩, k4, fun e he => ⟨(el e he).1, (el e he).2.2⟩⟩
            obtain ⟨s2, a1, a2, a3⟩ := as_go A (frm := i) (cnt := v') (l5 := 1) (Or.inr rfl) (by omega) fr hm
            rw [if_neg (by decide)] at a1
            have f59 : s1.1 959 gu = nxG v' (gn r gu) 0 := ((rm_fr fr (by omega)).1).trans k3.1
            have as1 : (R_X13_assign (g + 1)).1 (s1.1 959 gu) (nI P) (nI i) (nI sz) 1 s1 = some (bZ (kp_L (fun x y => y < v' ∧ aB r p E (gn r gu) Qe i 1 x y) v'), s2) := by
              rw [f59, z1]
              exact a1
            rw [as1, l2_bs] at st0
            refine more s2 _ a2 a3 cr (by omega) (fun e' => ?_) st0
            have kk : kp_L (fun x y => y < v' ∧ aB r p E (gn r gu) Qe i 1 x y) v' ↔ kp_L (fun x y => y < cn r gu ∧ ∃ q', eL r P (i + x) q' ∧ Mn r p E (gn r gu y) (some q')) (cn r gu) := by
              rw [ch_cn k3 (by omega)]
              refine kp_cg (fun x y hx => and_congr Iff.rfl ?_)
              obtain ⟨pe, ql, _⟩ := el (i + x) (by omega)
              unfold aB
              rw [if_neg (by decide), if_neg (by decide)]
              constructor
              · exact fun z => ⟨_, ⟨pe r rfl, ql⟩, z⟩
              · intro ⟨q', ⟨b1, b2⟩, b3⟩
                rw [pe r rfl] at b1
                injection b1 with b1
                rw [(nI_eq (by omega) (by omega)).mp b1]
                exact b3
            rw [kk]
            constructor
            · intro z
              rcases z with ⟨z, _⟩ | ⟨_, z2, z3⟩ | ⟨_, z, _⟩
              · exact absurd z cs
              · rw [ch_cn k3 (by omega)] at z2
                exact ⟨by omega, z3⟩
              · exact absurd k z
            · intro z
              exact Or.inr (Or.inl ⟨k, by rw [ch_cn k3 (by omega)]; omega, z.2⟩)
    · rw [if_neg (fun z => cr (T.mp z))] at st0
      exact skip st0 (fun e' _ z => absurd z cr)
end
