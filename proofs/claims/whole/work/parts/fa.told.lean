/-! Level 2: what is told late of types and templs: rings, depths, both sides. -/
def S7 (nt : Nat → Nat) (s r : t_S) (m l st i a : Nat) (b : Int32) : Prop := S6 nt s r m l st st a b ∨ (a = 7 ∧ ∃ x, x < i ∧ rg_R nt r x ∧ b = r.1 966 x)
section
variable {W a t e p l sg m st N n : Nat} {nt d : Nat → Nat} {s s' r r' : t_S} {S T : Nat → Int32 → Prop} {Q : t_S → Prop}
theorem ca_7 (Q0 : sQ W nt a t e p l sg m st s r) (C : sK nt m st r) {z : t_S} (T : tyF nt z r) (f0 : l2_fr ck_W r r') (L : ls_R (r'.1 950 88) (r'.1 950 89) (S6 nt s r m l st st)) (go : ∀ r2, l2_fr ck_W r r2 → ls_R (r2.1 950 88) (r2.1 950 89) (S7 nt s r m l st (nt 0)) → t_hk ((f_X13_findDepths r2).bind (fun r1 => t_loop b_X13_checkAll_291 t_N (0, r1))) Q) : t_hk (t_loop b_X13_checkAll_251 t_N (0, r')) Q := by
  have n60 : nt 0 ≤ 60 := nt_60 Q0 (by decide)
  refine ck_lp (fun i r2 => l2_fr ck_W r r2 ∧ ls_R (r2.1 950 88) (r2.1 950 89) (S7 nt s r m l st i)) (N := nt 0) (by omega) ⟨f0, L.iff (fun a b => ⟨Or.inl, fun y => y.elim id (fun ⟨_, x, hx, _⟩ => absurd hx (Nat.not_lt_zero _))⟩)⟩ ?_ ?_
  · rintro P r2 ⟨f, L2⟩
    show t_hk (k_X13_checkAll_251 (nI (nt 0)) r2) _
    unfold k_X13_checkAll_251
    rw [(C.fr f).2.2.1]
    exact l2_ck (nI_le (Nat.le_refl _) (by omega)) (l2_mp (go r2 f L2))
  · rintro i r2 hi ⟨f, L2⟩
    show t_hk (k_X13_checkAll_251 (nI i) r2) _
    unfold k_X13_checkAll_251
    rw [(C.fr f).2.2.1]
    refine l2_no (nI_ge hi (by omega)) ?_
    obtain ⟨v, e1, v1, v2⟩ := rg_ref T n60 f (C.fr f).2.2.1 hi
    rw [e1, l2_bs]
    refine l2_if (fun z => ?_) (fun z => ?_)
    · unfold k_X13_checkAll_279
      rw [nI_1]
      have nr : ¬ rg_R nt r i := fun y => by
        have := z.symm.trans (v2.mpr y)
        exact absurd this (by decide)
      refine l2_sm ⟨r2, rfl, f, L2.iff (fun a b => or_congr Iff.rfl (and_congr Iff.rfl ⟨fun ⟨x, x1, x2⟩ => ⟨x, by omega, x2⟩, fun ⟨x, x1, x2⟩ => ⟨x, ?_, x2⟩⟩))⟩
      have ne : x ≠ i := fun y => nr (y ▸ x2.1)
      omega
    · refine l2_ck (l2_ix (show i < 60 by omega) (by decide)) ?_
      rw [nI_clamp (n := i) (by omega)]
      obtain ⟨r3, e3, g1, g2⟩ := ls_wrong (q := r2.1 966 i) L2 (k := 7) (by decide)
      rw [show f_X13_wrong (7 : Int32) (r2.1 966 i) r2 = some r3 from e3, l2_bs]
      unfold k_X13_checkAll_279
      rw [nI_1]
      have hr : rg_R nt r i := v2.mp (v1.resolve_left z)
      have c6 : r2.1 966 i = r.1 966 i := ck_c f (by decide) (by decide)
      refine l2_sm ⟨r3, rfl, f.trans (g1.mono (fun b j y => lg_ck y)), g2.iff (fun a b => ⟨fun y => ?_, fun y => ?_⟩)⟩
      · rcases y with (y | ⟨y, x, x1, x2⟩) | ⟨y1, y2⟩
        · exact Or.inl y
        · exact Or.inr ⟨y, x, by omega, x2⟩
        · exact Or.inr ⟨y1, i, by omega, hr, y2.trans c6⟩
      · rcases y with y | ⟨y, x, x1, x2, x3⟩
        · exact Or.inl (Or.inl y)
        · by_cases z : x = i
          · subst z
            exact Or.inr ⟨y, x3.trans c6.symm⟩
          · exact Or.inl (Or.inr ⟨y, x, by omega, x2, x3⟩)
/-- the reference's last loop -/
theorem ca_8 (n60 : n ≤ 60) (e44 : r.1 950 44 = nI n) (hd : ∀ i, i < n → d i ≤ 2000 ∧ r.1 1005 i = nI (d i)) (L : ls_R (r.1 950 88) (r.1 950 89) S) (go : ∀ r2, l2_fr lg_W r r2 → ls_R (r2.1 950 88) (r2.1 950 89) (fun a b => S a b ∨ (a = 7 ∧ ∃ x, x < n ∧ 60 < d x ∧ b = r.1 969 x)) → t_hk (if (r2.1 950 88) = (0 : Int32) then (some (r2)) else ((f_X13_fail (r2.1 950 88) (r2.1 950 89) r2).bind (fun r1 => some (r1)))) Q) : t_hk (t_loop b_X13_checkAll_291 t_N (0, r)) Q := by
  refine ck_lp (fun i r2 => l2_fr lg_W r r2 ∧ ls_R (r2.1 950 88) (r2.1 950 89) (fun a b => S a b ∨ (a = 7 ∧ ∃ x, x < i ∧ 60 < d x ∧ b = r.1 969 x))) (N := n) (by omega) ⟨l2_fr.rf, L.iff (fun a b => ⟨Or.inl, fun y => y.elim id (fun ⟨_, x, hx, _⟩ => absurd hx (Nat.not_lt_zero _))⟩)⟩ ?_ ?_
  · rintro P r2 ⟨f, L2⟩
    show t_hk (k_X13_checkAll_291 (nI n) r2) _
    unfold k_X13_checkAll_291
    rw [(f 950 44 (by unfold lg_W; omega)).1, e44]
    exact l2_ck (nI_le (Nat.le_refl _) (by omega)) (l2_mp (go r2 f L2))
  · rintro i r2 hi ⟨f, L2⟩
    show t_hk (k_X13_checkAll_291 (nI i) r2) _
    unfold k_X13_checkAll_291
    rw [(f 950 44 (by unfold lg_W; omega)).1, e44]
    refine l2_no (nI_ge hi (by omega)) (l2_ck (l2_ix (show i < 60 by omega) (by decide)) ?_)
    obtain ⟨d1, d2⟩ := hd i hi
    rw [nI_clamp (n := i) (by omega), (f 1005 i (by unfold lg_W; omega)).1, (f 969 i (by unfold lg_W; omega)).1, d2]
    refine l2_if (fun z => ?_) (fun z => ?_)
    · have dl : d i ≤ 60 := Classical.byContradiction (fun y => nI_ge (a := 60) (b := d i) (by omega) (by omega) z)
      unfold k_X13_checkAll_322
      rw [nI_1]
      refine l2_sm ⟨r2, rfl, f, L2.iff (fun a b => or_congr Iff.rfl (and_congr Iff.rfl ⟨fun ⟨x, x1, x2⟩ => ⟨x, by omega, x2⟩, fun ⟨x, x1, x2⟩ => ⟨x, ?_, x2⟩⟩))⟩
      have ne : x ≠ i := fun y => by
        subst y
        omega
      omega
    · have dl : 60 < d i := Classical.byContradiction (fun y => z (nI_le (b := 60) (by omega) (by decide)))
      obtain ⟨r3, e3, g1, g2⟩ := ls_wrong (q := r.1 969 i) L2 (k := 7) (by decide)
      rw [show f_X13_wrong (7 : Int32) (r.1 969 i) r2 = some r3 from e3, l2_bs]
      unfold k_X13_checkAll_322
      rw [nI_1]
      refine l2_sm ⟨r3, rfl, f.trans g1, g2.iff (fun a b => ⟨fun y => ?_, fun y => ?_⟩)⟩
      · rcases y with (y | ⟨y, x, x1, x2⟩) | ⟨y1, y2⟩
        · exact Or.inl y
        · exact Or.inr ⟨y, x, by omega, x2⟩
        · exact Or.inr ⟨y1, i, by omega, dl, y2⟩
      · rcases y with y | ⟨y, x, x1, x2, x3⟩
        · exact Or.inl (Or.inl y)
        · by_cases z : x = i
          · subst z
            exact Or.inr ⟨y, x3⟩
          · exact Or.inl (Or.inr ⟨y, x, by omega, x2, x3⟩)
theorem tyF.fr (T : tyF nt s r) (f : l2_fr lf_W s s') : tyF nt s' r := fun x hx => by
  have c : ∀ b j, b ≠ 846 → s'.1 b j = s.1 b j := fun b j y => (f b j (by unfold lf_W; omega)).1
  obtain ⟨m0, a0, h⟩ := T x hx
  refine ⟨m0, a0, ?_⟩
  rw [c 326 x (by decide), c 327 x (by decide), c 317 a0 (by decide), c 321 a0 (by decide)]
  exact h
/-- the class's loop over types -/
theorem cs_7 (n60 : nt 0 ≤ 60) (e13 : s.1 316 13 = nI (nt 0)) (T : tyF nt s r) (L : ls_R (s.1 846 7) (s.1 846 8) S) (go : ∀ s2, l2_fr lf_W s s2 → ls_R (s2.1 846 7) (s2.1 846 8) (fun a b => S a b ∨ (a = 7 ∧ ∃ x, x < nt 0 ∧ rg_R nt r x ∧ b = r.1 966 x)) → t_hk ((f_X10_measure s2).bind (fun r1 => t_loop b_X3_settleTold_54 t_N (0, r1))) Q) : t_hk (f_X3_settleTold s) Q := by
  unfold f_X3_settleTold
  refine ck_lp (fun i s2 => l2_fr lf_W s s2 ∧ ls_R (s2.1 846 7) (s2.1 846 8) (fun a b => S a b ∨ (a = 7 ∧ ∃ x, x < i ∧ rg_R nt r x ∧ b = r.1 966 x))) (N := nt 0) (by omega) ⟨l2_fr.rf, L.iff (fun a b => ⟨Or.inl, fun y => y.elim id (fun ⟨_, x, hx, _⟩ => absurd hx (Nat.not_lt_zero _))⟩)⟩ ?_ ?_
  · rintro P s2 ⟨f, L2⟩
    show t_hk (k_X3_settleTold_2 (nI (nt 0)) s2) _
    unfold k_X3_settleTold_2
    rw [(f 316 13 (by unfold lf_W; omega)).1, e13]
    exact l2_ck (nI_le (Nat.le_refl _) (by omega)) (l2_mp (go s2 f L2))
  · rintro i s2 hi ⟨f, L2⟩
    show t_hk (k_X3_settleTold_2 (nI i) s2) _
    unfold k_X3_settleTold_2
    rw [(f 316 13 (by unfold lf_W; omega)).1, e13]
    refine l2_no (nI_ge hi (by omega)) ?_
    obtain ⟨v, e1, v1, v2⟩ := rg_cls (T.fr f) n60 hi
    rw [e1, l2_bs]
    refine l2_if (fun z => ?_) (fun z => ?_)
    · unfold k_X3_settleTold_39
      rw [nI_1]
      have nr : ¬ rg_R nt r i := fun y => by
        have := z.symm.trans (v2.mpr y)
        exact absurd this (by decide)
      refine l2_sm ⟨s2, rfl, f, L2.iff (fun a b => or_congr Iff.rfl (and_congr Iff.rfl ⟨fun ⟨x, x1, x2⟩ => ⟨x, by omega, x2⟩, fun ⟨x, x1, x2⟩ => ⟨x, ?_, x2⟩⟩))⟩
      have ne : x ≠ i := fun y => nr (y ▸ x2.1)
      omega
    · refine l2_ck (l2_ix (show i < 60 by omega) (by decide)) ?_
      obtain ⟨_, _, _, _, _, _, c7, _⟩ := T i hi
      rw [nI_clamp (n := i) (by omega), (f 327 i (by unfold lf_W; omega)).1, c7]
      obtain ⟨s3, e3, g1, g2⟩ := ls_late (q := r.1 966 i) L2 (k := 7) (by decide)
      rw [show f_X3_late (7 : Int32) (r.1 966 i) s2 = some s3 from e3, l2_bs]
      unfold k_X3_settleTold_39
      rw [nI_1]
      have hr : rg_R nt r i := v2.mp (v1.resolve_left z)
      refine l2_sm ⟨s3, rfl, f.trans g1, g2.iff (fun a b => ⟨fun y => ?_, fun y => ?_⟩)⟩
      · rcases y with (y | ⟨y, x, x1, x2⟩) | ⟨y1, y2⟩
        · exact Or.inl y
        · exact Or.inr ⟨y, x, by omega, x2⟩
        · exact Or.inr ⟨y1, i, by omega, hr, y2⟩
      · rcases y with y | ⟨y, x, x1, x2, x3⟩
        · exact Or.inl (Or.inl y)
        · by_cases z : x = i
          · subst z
            exact Or.inr ⟨y, x3⟩
          · exact Or.inl (Or.inr ⟨y, x, by omega, x2, x3⟩)
/-- .. over templs -/
theorem cs_8 (n60 : n ≤ 60) (e11 : s.1 353 11 = nI n) (hd : ∀ i, i < n → d i ≤ 2000 ∧ s.1 (364 + i) 6 = nI (d i) ∧ s.1 (364 + i) 1 = r.1 969 i) (L : ls_R (s.1 846 7) (s.1 846 8) S) : t_hk (t_loop b_X3_settleTold_54 t_N (0, s)) (fun s2 => l2_fr lf_W s s2 ∧ ls_R (s2.1 846 7) (s2.1 846 8) (fun a b => S a b ∨ (a = 7 ∧ ∃ x, x < n ∧ 60 < d x ∧ b = r.1 969 x))) := by
  refine ck_lp (fun i s2 => l2_fr lf_W s s2 ∧ ls_R (s2.1 846 7) (s2.1 846 8) (fun a b => S a b ∨ (a = 7 ∧ ∃ x, x < i ∧ 60 < d x ∧ b = r.1 969 x))) (N := n) (by omega) ⟨l2_fr.rf, L.iff (fun a b => ⟨Or.inl, fun y => y.elim id (fun ⟨_, x, hx, _⟩ => absurd hx (Nat.not_lt_zero _))⟩)⟩ ?_ ?_
  · rintro P s2 ⟨f, L2⟩
    show t_hk (k_X3_settleTold_54 (nI n) s2) _
    unfold k_X3_settleTold_54
    rw [(f 353 11 (by unfold lf_W; omega)).1, e11]
    exact l2_ck (nI_le (Nat.le_refl _) (by omega)) (l2_mp (l2_sm ⟨f, L2⟩))
  · rintro i s2 hi ⟨f, L2⟩
    show t_hk (k_X3_settleTold_54 (nI i) s2) _
    unfold k_X3_settleTold_54
    rw [(f 353 11 (by unfold lf_W; omega)).1, e11]
    refine l2_no (nI_ge hi (by omega)) (l2_ck (l2_ix (show i < 60 by omega) (by decide)) ?_)
    obtain ⟨d1, d2, d3⟩ := hd i hi
    rw [nI_clamp (n := i) (by omega), Nat.one_mul, show ((6 : Int32).toNatClampNeg) = 6 from rfl, show ((1 : Int32).toNatClampNeg) = 1 from rfl, (f (364 + i) 6 (by unfold lf_W; omega)).1, (f (364 + i) 1 (by unfold lf_W; omega)).1, d2, d3]
    refine l2_if (fun z => ?_) (fun z => ?_)
    · have dl : d i ≤ 60 := Classical.byContradiction (fun y => nI_ge (a := 60) (b := d i) (by omega) (by omega) z)
      unfold k_X3_settleTold_99
      rw [nI_1]
      refine l2_sm ⟨s2, rfl, f, L2.iff (fun a b => or_congr Iff.rfl (and_congr Iff.rfl ⟨fun ⟨x, x1, x2⟩ => ⟨x, by omega, x2⟩, fun ⟨x, x1, x2⟩ => ⟨x, ?_, x2⟩⟩))⟩
      have ne : x ≠ i := fun y => by
        subst y
        omega
      omega
    · have dl : 60 < d i := Classical.byContradiction (fun y => z (nI_le (b := 60) (by omega) (by decide)))
      obtain ⟨s3, e3, g1, g2⟩ := ls_late (q := r.1 969 i) L2 (k := 7) (by decide)
      rw [show f_X3_late (7 : Int32) (r.1 969 i) s2 = some s3 from e3, l2_bs]
      unfold k_X3_settleTold_99
      rw [nI_1]
      refine l2_sm ⟨s3, rfl, f.trans g1, g2.iff (fun a b => ⟨fun y => ?_, fun y => ?_⟩)⟩
      · rcases y with (y | ⟨y, x, x1, x2⟩) | ⟨y1, y2⟩
        · exact Or.inl y
        · exact Or.inr ⟨y, x, by omega, x2⟩
        · exact Or.inr ⟨y1, i, by omega, dl, y2⟩
      · rcases y with y | ⟨y, x, x1, x2, x3⟩
        · exact Or.inl (Or.inl y)
        · by_cases z : x = i
          · subst z
            exact Or.inr ⟨y, x3⟩
          · exact Or.inl (Or.inr ⟨y, x, by omega, x2, x3⟩)
end
