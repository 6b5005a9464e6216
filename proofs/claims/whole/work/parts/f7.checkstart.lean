/-! Level 2: the reference's check from its start to its lines. -/
/-- marked nodes: ways of assignments, of lines below i -/
def wz_R (m i : Nat) (r r2 : t_S) : Prop := ∀ k, k < m → (r2.1 1004 k = 0 ∨ r2.1 1004 k = 1) ∧ (r2.1 1004 k = 1 ↔ ∃ ln, ln < i ∧ r.1 988 ln = 2 ∧ r.1 996 ln = nI k)
section
variable {W a t e p l sg m st N : Nat} {nt : Nat → Nat} {s r r' : t_S} {S T : Nat → Int32 → Prop} {Q : t_S → Prop}
theorem ca_3 (Q0 : sQ W nt a t e p l sg m st s r) (C : sK nt m st r) (G : sX nt s r l st) (V : vT nt s r l) (f0 : l2_fr ck_W r r') (e90 : r'.1 950 90 = nI m) (w : wz_R m st r r') (L : r'.1 950 88 = 0) (go : ∀ r2, l2_fr ck_W r r2 → ls_R (r2.1 950 88) (r2.1 950 89) (S6 nt s r m l st st) → t_hk (t_loop b_X13_checkAll_251 t_N (0, r2)) Q) : t_hk (t_loop b_X13_checkAll_76 t_N (0, r')) Q := by
  have m13 : m ≤ 13000 := Q0.2.2.2.2.2.2.1.2.2.2.2.2.2.2.2.2.1
  refine ck_lp (fun i r2 => l2_fr ck_W r r2 ∧ r2.1 950 90 = nI m ∧ wz_R m st r r2 ∧ ls_R (r2.1 950 88) (r2.1 950 89) (S3 nt s r m l st i)) (N := m) (by omega) ⟨f0, e90, w, Or.inl ⟨L, fun a b ⟨_, x, hx, _⟩ => absurd hx (Nat.not_lt_zero _)⟩⟩ ?_ ?_
  · rintro P r2 ⟨f, _, _, L2⟩
    show t_hk (k_X13_checkAll_76 (nI m) r2) _
    unfold k_X13_checkAll_76
    rw [(C.fr f).1]
    exact l2_ck (nI_le (Nat.le_refl _) (by omega)) (l2_mp (ca_4 Q0 C G V f L2 go))
  · rintro i r2 hi ⟨f, e9, w2, L2⟩
    show t_hk (k_X13_checkAll_76 (nI i) r2) _
    unfold k_X13_checkAll_76
    rw [(C.fr f).1]
    refine l2_no (nI_ge hi (by omega)) ?_
    obtain ⟨r3, e3, g1, g2⟩ := nd_ck Q0 C f e9 (w2 i hi).1 (w2 i hi).2 hi L2
    rw [e3, l2_bs, nI_1]
    refine l2_sm ⟨r3, rfl, f.trans (g1.mono (fun b j y => lg_ck y)), ?_, fun k hk => ?_, g2.iff (fun a b => ⟨fun y => ?_, fun y => ?_⟩)⟩
    · rw [(g1 950 90 (by unfold lg_W; omega)).1]
      exact e9
    · rw [(g1 1004 k (by unfold lg_W; omega)).1]
      exact w2 k hk
    · rcases y with ⟨y, x, x1, x2⟩ | ⟨y, x⟩
      · exact ⟨y, x, by omega, x2⟩
      · exact ⟨y, i, by omega, x⟩
    · obtain ⟨y, x, x1, x2⟩ := y
      by_cases z : x = i
      · subst z
        exact Or.inr ⟨y, x2⟩
      · exact Or.inl ⟨y, x, by omega, x2⟩
theorem ca_2 (Q0 : sQ W nt a t e p l sg m st s r) (C : sK nt m st r) (G : sX nt s r l st) (V : vT nt s r l) (f0 : l2_fr ck_W r r') (e90 : r'.1 950 90 = nI m) (L : r'.1 950 88 = 0) (w : ∀ k, k < m → r'.1 1004 k = 0) (go : ∀ r2, l2_fr ck_W r r2 → ls_R (r2.1 950 88) (r2.1 950 89) (S6 nt s r m l st st) → t_hk (t_loop b_X13_checkAll_251 t_N (0, r2)) Q) : t_hk (t_loop b_X13_checkAll_38 t_N (0, r')) Q := by
  have st4 : st ≤ 400 := Q0.2.2.2.2.2.2.1.2.2.2.2.2.2.2.2.2.2
  have m13 : m ≤ 13000 := Q0.2.2.2.2.2.2.1.2.2.2.2.2.2.2.2.2.1
  refine ck_lp (fun i r2 => l2_fr ck_W r r2 ∧ r2.1 950 90 = nI m ∧ r2.1 950 88 = 0 ∧ wz_R m i r r2) (N := st) (by omega) ⟨f0, e90, L, fun k hk => ⟨Or.inl (w k hk), by rw [w k hk]; exact ⟨fun y => absurd y (by decide), fun ⟨x, hx, _⟩ => absurd hx (Nat.not_lt_zero _)⟩⟩⟩ ?_ ?_
  · rintro P r2 ⟨f, e9, L2, w2⟩
    show t_hk (k_X13_checkAll_38 (nI st) r2) _
    unfold k_X13_checkAll_38
    rw [(C.fr f).2.1]
    exact l2_ck (nI_le (Nat.le_refl _) (by omega)) (l2_mp (ca_3 Q0 C G V f e9 w2 L2 go))
  · rintro i r2 hi ⟨f, e9, L2, w2⟩
    show t_hk (k_X13_checkAll_38 (nI i) r2) _
    unfold k_X13_checkAll_38
    rw [(C.fr f).2.1]
    refine l2_no (nI_ge hi (by omega)) (l2_ck (l2_ix (show i < 401 by omega) (by decide)) ?_)
    rw [nI_clamp (n := i) (by omega), ck_c f (b := 988) (by decide) (by decide), ck_c f (b := 996) (by decide) (by decide)]
    refine l2_if (fun z => ?_) (fun z => ?_)
    · obtain ⟨k, hk, e6⟩ := Q0.2.2.2.2.2.2.2.2.2 i hi z
      rw [e6]
      refine l2_ck (l2_ix (show k < 13000 by omega) (by decide)) ?_
      rw [nI_clamp (n := k) (by omega)]
      refine l2_lt ?_
      unfold k_X13_checkAll_68
      rw [nI_1]
      have fr : l2_fr (fun b j => b = 1004 ∧ j = k) r2 (t_setI r2 1004 k 1) := l2_fr.set ⟨rfl, rfl⟩
      have vv : (t_setI r2 1004 k 1).1 1004 k = 1 := by simp only [l2_gI, reduceIte]
      refine l2_sm ⟨_, rfl, f.trans (fr.mono (fun b j y => Or.inr y.1)), by rw [(fr 950 90 (by omega)).1]; exact e9, by rw [(fr 950 88 (by omega)).1]; exact L2, fun k' hk' => ?_⟩
      by_cases c : k' = k
      · rw [c, vv]
        exact ⟨Or.inr rfl, fun _ => ⟨i, by omega, z, e6⟩, fun _ => rfl⟩
      · rw [(fr 1004 k' (fun y => c y.2)).1]
        refine ⟨(w2 k' hk').1, (w2 k' hk').2.trans ⟨fun ⟨ln, l1, l2⟩ => ⟨ln, by omega, l2⟩, fun ⟨ln, l1, l2, l3⟩ => ⟨ln, ?_, l2, l3⟩⟩⟩
        have ne : ln ≠ i := fun y => by
          subst y
          exact c ((nI_eq (by omega) (by omega)).mp (l3.symm.trans e6))
        omega
    · unfold k_X13_checkAll_68
      rw [nI_1]
      refine l2_sm ⟨r2, rfl, f, e9, L2, fun k' hk' => ⟨(w2 k' hk').1, (w2 k' hk').2.trans ⟨fun ⟨ln, l1, l2⟩ => ⟨ln, by omega, l2⟩, fun ⟨ln, l1, l2, l3⟩ => ⟨ln, ?_, l2, l3⟩⟩⟩⟩
      have ne : ln ≠ i := fun y => by
        subst y
        exact z l2
      omega
theorem ca_all (Q0 : sQ W nt a t e p l sg m st s r) (C : sK nt m st r) (G : sX nt s r l st) (V : vT nt s r l) (go : ∀ r2, l2_fr ck_W r r2 → ls_R (r2.1 950 88) (r2.1 950 89) (S6 nt s r m l st st) → t_hk (t_loop b_X13_checkAll_251 t_N (0, r2)) Q) : t_hk (f_X13_checkAll r) Q := by
  have m13 : m ≤ 13000 := Q0.2.2.2.2.2.2.1.2.2.2.2.2.2.2.2.2.1
  unfold f_X13_checkAll
  refine l2_lt (l2_lt ?_)
  have g1 : l2_fr ck_W r (t_setI r 950 88 0) := l2_fr.set (Or.inl ⟨rfl, by decide, by decide⟩)
  have e24 : (t_setI r 950 88 0).1 950 24 = nI m := by
    simp only [l2_gI, Nat.reduceEqDiff, and_false, if_false]
    exact C.1
  have e88 : (t_setI r 950 88 0).1 950 88 = 0 := by simp only [l2_gI, and_self, reduceIte]
  rw [e24]
  generalize t_setI r 950 88 0 = r1 at *
  have fr : l2_fr (fun b j => b = 950 ∧ j = 90) r1 (t_setI r1 950 90 (nI m)) := l2_fr.set ⟨rfl, rfl⟩
  have e90 : (t_setI r1 950 90 (nI m)).1 950 90 = nI m := by simp only [l2_gI, and_self, reduceIte]
  have g2 : l2_fr ck_W r (t_setI r1 950 90 (nI m)) := g1.trans (fr.mono (fun b j y => Or.inl ⟨y.1, by omega⟩))
  have z88 : (t_setI r1 950 90 (nI m)).1 950 88 = 0 := ((fr 950 88 (by omega)).1).trans e88
  generalize t_setI r1 950 90 (nI m) = r' at *
  refine ck_lp (fun i r2 => l2_fr ck_W r r2 ∧ r2.1 950 90 = nI m ∧ r2.1 950 88 = 0 ∧ ∀ k, k < i → r2.1 1004 k = 0) (N := m) (by omega) ⟨g2, e90, z88, fun k hk => absurd hk (Nat.not_lt_zero _)⟩ ?_ ?_
  · rintro P r2 ⟨f, e9, L2, w2⟩
    show t_hk (k_X13_checkAll_15 (nI m) r2) _
    unfold k_X13_checkAll_15
    rw [(C.fr f).1]
    exact l2_ck (nI_le (Nat.le_refl _) (by omega)) (l2_mp (ca_2 Q0 C G V f e9 L2 w2 go))
  · rintro i r2 hi ⟨f, e9, L2, w2⟩
    show t_hk (k_X13_checkAll_15 (nI i) r2) _
    unfold k_X13_checkAll_15
    rw [(C.fr f).1]
    refine l2_no (nI_ge hi (by omega)) (l2_ck (l2_ix (show i < 13000 by omega) (by decide)) ?_)
    rw [nI_clamp (n := i) (by omega), nI_1]
    refine l2_lt (l2_sm ?_)
    have fr : l2_fr (fun b j => b = 1004 ∧ j = i) r2 (t_setI r2 1004 i 0) := l2_fr.set ⟨rfl, rfl⟩
    have vv : (t_setI r2 1004 i 0).1 1004 i = 0 := by simp only [l2_gI, and_self, reduceIte]
    refine ⟨_, rfl, f.trans (fr.mono (fun b j y => Or.inr y.1)), by rw [(fr 950 90 (by omega)).1]; exact e9, by rw [(fr 950 88 (by omega)).1]; exact L2, fun k hk => ?_⟩
    by_cases c : k = i
    · rw [c, vv]
    · rw [(fr 1004 k (fun y => c y.2)).1]
      exact w2 k (by omega)
end
