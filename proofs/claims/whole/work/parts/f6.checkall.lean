/-! Level 2: the reference's check: nodes, vars' types, functions' components, lines. -/
/-- vars' types, functions' components, by the reference -/
def vT (nt : Nat → Nat) (s r : t_S) (l : Nat) : Prop := (∀ k, k < nt 2 → ∃ v2, v2 ≤ 8 ∧ r.1 979 k = nI v2 ∧ ∀ j, j < v2 → r.1 976 (8 * k + j) = -1 ∨ ∃ X pl e', X < 7934 ∧ pl ≤ 12000 ∧ e' < l ∧ hi_e s e' 2 X pl (-2 - nI k) (nI (8 * k + j)) 0 ∧ r.1 976 (8 * k + j) = nI X ∧ r.1 977 (8 * k + j) = nI pl) ∧ ∀ f, f < nt 3 → ∃ Y pl e, Y < 7934 ∧ pl ≤ 12000 ∧ e < l ∧ hi_e s e 3 Y pl (nI f) (nI f) 0 ∧ r.1 982 f = nI Y ∧ r.1 983 f = nI pl
def wV (nt : Nat → Nat) (r : t_S) (k j : Nat) (b : Int32) : Prop := ∃ cnt X, cnt ≤ 8 ∧ r.1 979 k = nI cnt ∧ j < cnt ∧ X < 7934 ∧ r.1 976 (8 * k + j) = nI X ∧ un_R nt r 0 X ∧ b = r.1 977 (8 * k + j)
def S3 (nt : Nat → Nat) (s r : t_S) (m l st k a : Nat) (b : Int32) : Prop := a = 4 ∧ ∃ j, j < k ∧ rU nt s r m l st j b
def S4 (nt : Nat → Nat) (s r : t_S) (m l st k a : Nat) (b : Int32) : Prop := S3 nt s r m l st m a b ∨ (a = 4 ∧ ∃ k' j, k' < k ∧ wV nt r k' j b)
def S5 (nt : Nat → Nat) (s r : t_S) (m l st f a : Nat) (b : Int32) : Prop := S4 nt s r m l st (nt 2) a b ∨ (a = 4 ∧ ∃ f', f' < f ∧ s.1 438 f' < 0 ∧ b = r.1 983 f')
def S6 (nt : Nat → Nat) (s r : t_S) (m l st ln a : Nat) (b : Int32) : Prop := S5 nt s r m l st (nt 3) a b ∨ ∃ ln', ln' < ln ∧ rR nt s r m l ln' a b
section
variable {W a t e p l sg m st N : Nat} {nt : Nat → Nat} {s r r' : t_S} {S T : Nat → Int32 → Prop} {Q : t_S → Prop}
theorem ck_lp {b : Int32 × t_S → Option ((Int32 × t_S) ⊕ t_S)} (I : Nat → t_S → Prop) (hN : N ≤ 20000) (h : I 0 s) (fin : ∀ (P : Int32 × t_S → Prop) s, I N s → t_hk (b (nI N, s)) (l2_nx P Q)) (step : ∀ i s, i < N → I i s → t_hk (b (nI i, s)) (fun w => ∃ s', w = .inl (nI (i + 1), s') ∧ I (i + 1) s')) : t_hk (t_loop b t_N (0, s)) Q := by
  refine l2_lp (fun u y => ∃ (j : Nat) (s' : t_S), j + u = N ∧ y = (nI j, s') ∧ I j s') ?_ (m := N) (Nat.lt_trans (show N < 1000000000 by omega) l2_N) ⟨0, s, by omega, rfl, h⟩
  rintro u y ⟨j, s', hj, rfl, hI⟩
  by_cases z : j = N
  · subst z
    exact fin _ s' hI
  · obtain ⟨w, e, s2, rfl, h2⟩ := step j s' (by omega) hI
    exact ⟨_, e, u - 1, by omega, j + 1, s2, by omega, rfl, h2⟩
theorem rl_findG {T : Type} {q w : Int32} {U : Prop} {F : t_S → Option T} {Q : T → Prop} (hw : 0 ≤ w ↔ ¬ U) (L : ls_R (r.1 950 88) (r.1 950 89) S) (go : ∀ r2, rN_Q U q S r r2 → t_hk (F r2) Q) : t_hk (if 0 ≤ w then F r else (f_X13_wrong 4 q r).bind F) Q := by
  by_cases y : 0 ≤ w
  · rw [if_pos y]
    exact go r (rl_ok L (hw.mp y))
  · rw [if_neg y]
    obtain ⟨r2, e, g⟩ := rN_bad (q := q) L (Classical.byContradiction (fun x => y (hw.mpr x)) : U)
    cases h : f_X13_wrong 4 q r with
    | none =>
      rw [h] at e
      cases e
    | some y =>
      rw [h] at e
      cases e
      exact go _ g
theorem ca_6 (Q0 : sQ W nt a t e p l sg m st s r) (C : sK nt m st r) (G : sX nt s r l st) (f0 : l2_fr ck_W r r') (L : ls_R (r'.1 950 88) (r'.1 950 89) (S5 nt s r m l st (nt 3))) (go : ∀ r2, l2_fr ck_W r r2 → ls_R (r2.1 950 88) (r2.1 950 89) (S6 nt s r m l st st) → t_hk (t_loop b_X13_checkAll_251 t_N (0, r2)) Q) : t_hk (t_loop b_X13_checkAll_230 t_N (0, r')) Q := by
  have st4 : st ≤ 400 := Q0.2.2.2.2.2.2.1.2.2.2.2.2.2.2.2.2.2
  refine ck_lp (fun i r2 => l2_fr ck_W r r2 ∧ ls_R (r2.1 950 88) (r2.1 950 89) (S6 nt s r m l st i)) (N := st) (by omega) ⟨f0, L.iff (fun a b => ⟨Or.inl, fun y => y.elim id (fun ⟨x, hx, _⟩ => absurd hx (Nat.not_lt_zero _))⟩)⟩ ?_ ?_
  · rintro P r2 ⟨f, L2⟩
    show t_hk (k_X13_checkAll_230 (nI st) r2) _
    unfold k_X13_checkAll_230
    rw [(C.fr f).2.1]
    exact l2_ck (nI_le (Nat.le_refl _) (by omega)) (l2_mp (go r2 f L2))
  · rintro i r2 hi ⟨f, L2⟩
    show t_hk (k_X13_checkAll_230 (nI i) r2) _
    unfold k_X13_checkAll_230
    rw [(C.fr f).2.1]
    refine l2_no (nI_ge hi (by omega)) ?_
    obtain ⟨r3, e3, g1, g2⟩ := ln_ck Q0 C G f hi L2
    rw [e3, l2_bs, nI_1]
    refine l2_sm ⟨r3, rfl, f.trans (g1.mono (fun b j y => lg_ck y)), g2.iff (fun a b => ⟨fun y => ?_, fun y => ?_⟩)⟩
    · rcases y with (y | ⟨x, x1, x2⟩) | y
      · exact Or.inl y
      · exact Or.inr ⟨x, by omega, x2⟩
      · exact Or.inr ⟨i, by omega, y⟩
    · rcases y with y | ⟨x, x1, x2⟩
      · exact Or.inl (Or.inl y)
      · by_cases z : x = i
        · subst z
          exact Or.inr x2
        · exact Or.inl (Or.inr ⟨x, by omega, x2⟩)
theorem ca_5 (Q0 : sQ W nt a t e p l sg m st s r) (C : sK nt m st r) (G : sX nt s r l st) (f0 : l2_fr ck_W r r') (L : ls_R (r'.1 950 88) (r'.1 950 89) (S4 nt s r m l st (nt 2))) (go : ∀ r2, l2_fr ck_W r r2 → ls_R (r2.1 950 88) (r2.1 950 89) (S6 nt s r m l st st) → t_hk (t_loop b_X13_checkAll_251 t_N (0, r2)) Q) : t_hk (t_loop b_X13_checkAll_181 t_N (0, r')) Q := by
  have n40 : nt 3 ≤ 40 := (Q0.1.1.1 3 (by decide)).1
  have n8 : nt 2 ≤ 8 := Q0.1.n8
  refine ck_lp (fun i r2 => l2_fr ck_W r r2 ∧ ls_R (r2.1 950 88) (r2.1 950 89) (S5 nt s r m l st i)) (N := nt 3) (by omega) ⟨f0, L.iff (fun a b => ⟨Or.inl, fun y => y.elim id (fun ⟨_, x, hx, _⟩ => absurd hx (Nat.not_lt_zero _))⟩)⟩ ?_ ?_
  · rintro P r2 ⟨f, L2⟩
    show t_hk (k_X13_checkAll_181 (nI (nt 3)) r2) _
    unfold k_X13_checkAll_181
    rw [(C.fr f).2.2.2.2.2]
    exact l2_ck (nI_le (Nat.le_refl _) (by omega)) (l2_mp (ca_6 Q0 C G f L2 go))
  · rintro i r2 hi ⟨f, L2⟩
    show t_hk (k_X13_checkAll_181 (nI i) r2) _
    unfold k_X13_checkAll_181
    rw [(C.fr f).2.2.2.2.2]
    refine l2_no (nI_ge hi (by omega)) (l2_ck (l2_ix (show i < 40 by omega) (by decide)) ?_)
    obtain ⟨Y, hY, y1, y2, y3⟩ := ck_ko f (Q0.1.2.1 i hi)
    rw [nI_clamp (n := i) (by omega), (C.fr f).2.2.2.2.1, y1, y2, l2_bs, ck_c f (b := 983) (by decide) (by decide)]
    have hw : 0 ≤ s.1 438 i ↔ ¬ s.1 438 i < 0 := by rw [Int32.not_lt]
    refine rl_findG (F := fun y => k_X13_checkAll_222 (nI i) y) hw L2 (fun r3 g => ?_)
    unfold k_X13_checkAll_222
    rw [nI_1]
    refine l2_sm ⟨r3, rfl, f.trans (g.1.mono (fun b j y => lg_ck y)), g.2.iff (fun a b => ⟨fun y => ?_, fun y => ?_⟩)⟩
    · rcases y with (y | ⟨y, x, x1, x2⟩) | ⟨y1, y2, y3⟩
      · exact Or.inl y
      · exact Or.inr ⟨y, x, by omega, x2⟩
      · exact Or.inr ⟨y2, i, by omega, y3, y1⟩
    · rcases y with y | ⟨y, x, x1, x2, x3⟩
      · exact Or.inl (Or.inl y)
      · by_cases z : x = i
        · subst z
          exact Or.inr ⟨x3, y, x2⟩
        · exact Or.inl (Or.inr ⟨y, x, by omega, x2, x3⟩)
/-- a component's vars -/
theorem ca_vars {k cnt : Nat} (Q0 : sQ W nt a t e p l sg m st s r) (C : sK nt m st r) (V : vT nt s r l) (hk : k < nt 2) (f0 : l2_fr ck_W r r') (L : ls_R (r'.1 950 88) (r'.1 950 89) S) (hW : ∀ X x, x < l → s.1 850 x = nI (66 + X) → X < 7934 → 66 + X < W) (hc : r.1 979 k = nI cnt) (c8 : cnt ≤ 8) : t_hk (t_loop b_X13_checkAll_110 t_N (nI k, (8 : Int32) * nI k, r')) (fun w => ∃ r2, w = .inl (nI (k + 1), r2) ∧ l2_fr ck_W r r2 ∧ ls_R (r2.1 950 88) (r2.1 950 89) (fun a b => S a b ∨ (a = 4 ∧ ∃ j, wV nt r k j b))) := by
  have n8 : nt 2 ≤ 8 := Q0.1.n8
  have n60 : nt 0 ≤ 60 := nt_60 Q0 (by decide)
  obtain ⟨v2, v8, hv, hV⟩ := V.1 k hk
  have ev : v2 = cnt := (nI_eq (by omega) (by omega)).mp (hv.symm.trans hc)
  subst ev
  have e8 : (8 : Int32) * nI k = nI (8 * k) := pk_mul 8 k
  rw [e8]
  refine l2_lp (fun u y => ∃ (j : Nat) (r2 : t_S), j + u = v2 ∧ y = (nI k, nI (8 * k + j), r2) ∧ l2_fr ck_W r r2 ∧ ls_R (r2.1 950 88) (r2.1 950 89) (fun a b => S a b ∨ (a = 4 ∧ ∃ i, i < j ∧ wV nt r k i b))) ?_ (m := v2) (Nat.lt_trans (show v2 < 1000000000 by omega) l2_N) ⟨0, r', by omega, rfl, f0, L.iff (fun a b => ⟨Or.inl, fun y => y.elim id (fun ⟨_, x, hx, _⟩ => absurd hx (Nat.not_lt_zero _))⟩)⟩
  rintro u y ⟨j, r2, hj, rfl, f, L2⟩
  show t_hk (k_X13_checkAll_110 (nI k) (nI (8 * k + j)) r2) _
  unfold k_X13_checkAll_110
  refine l2_ck (l2_ix (show k < 8 by omega) (by decide)) ?_
  rw [nI_clamp (n := k) (by omega), e8, ck_c f (b := 979) (by decide) (by decide), hv, show nI (8 * k) + nI v2 = nI (8 * k + v2) from nI_add _ _]
  by_cases z : j = v2
  · subst z
    refine l2_ck (nI_le (Nat.le_refl _) (by omega)) (l2_mp (l2_sm ?_))
    refine ⟨r2, by rw [nI_1], f, L2.iff (fun a b => or_congr Iff.rfl (and_congr Iff.rfl ⟨fun ⟨i, _, h⟩ => ⟨i, h⟩, fun ⟨i, h⟩ => ⟨i, ?_, h⟩⟩))⟩
    obtain ⟨cnt, X, h1, h2, h3, _⟩ := h
    have := (nI_eq (by omega) (by omega)).mp (h2.symm.trans hv)
    omega
  refine l2_no (nI_ge (by omega) (by omega)) (l2_ck (l2_ix (show 8 * k + j < 64 by omega) (by decide)) ?_)
  rw [nI_clamp (n := 8 * k + j) (by omega), ck_c f (b := 976) (by decide) (by decide)]
  have next : ∀ (T : Nat → Int32 → Prop) r3, l2_fr lg_W r2 r3 → (∀ a b, (S a b ∨ (a = 4 ∧ ∃ i, i < j + 1 ∧ wV nt r k i b)) ↔ T a b) → ls_R (r3.1 950 88) (r3.1 950 89) T → t_hk (k_X13_checkAll_167 (nI k) (nI (8 * k + j)) r3) (l2_nx (fun z => ∃ j, j < u ∧ ∃ (i : Nat) (r2 : t_S), i + j = v2 ∧ z = (nI k, nI (8 * k + i), r2) ∧ l2_fr ck_W r r2 ∧ ls_R (r2.1 950 88) (r2.1 950 89) (fun a b => S a b ∨ (a = 4 ∧ ∃ i', i' < i ∧ wV nt r k i' b))) (fun w => ∃ r2, w = .inl (nI (k + 1), r2) ∧ l2_fr ck_W r r2 ∧ ls_R (r2.1 950 88) (r2.1 950 89) (fun a b => S a b ∨ (a = 4 ∧ ∃ j, wV nt r k j b)))) := fun T r3 g hT L3 => by
    unfold k_X13_checkAll_167
    rw [nI_1]
    exact l2_sm ⟨u - 1, by omega, j + 1, r3, by omega, rfl, f.trans (g.mono (fun b j y => lg_ck y)), L3.iff (fun a b => (hT a b).symm)⟩
  rcases hV j (by omega) with h | ⟨X, pl, e', h1, h2, h3, h4, h5, h6⟩
  · rw [h]
    refine l2_ck (by decide) (next (fun a b => S a b ∨ (a = 4 ∧ ∃ i, i < j ∧ wV nt r k i b)) r2 l2_fr.rf (fun a b => or_congr Iff.rfl (and_congr Iff.rfl ⟨fun ⟨i, i1, i2⟩ => ⟨i, ?_, i2⟩, fun ⟨i, i1, i2⟩ => ⟨i, by omega, i2⟩⟩)) L2)
    have ne : i ≠ j := fun y => by
      subst y
      obtain ⟨_, X, _, _, _, hX, h7, _⟩ := i2
      rw [h] at h7
      have := congrArg Int32.toInt h7
      rw [nI_toInt (by omega), show (-1 : Int32).toInt = -1 from rfl] at this
      omega
    omega
  · obtain ⟨w, _, t2, t3⟩ := nt_told Q0.1.1 (i := 0) (by decide) h1 (hW X e' h3 h4.2.1 h1)
    have tR : to_R nt r 0 X w := ⟨t2, t3⟩
    have tR' : to_R nt r2 0 X w := (ck_to f (by decide)).mpr tR
    have hw : 0 ≤ w ↔ ¬ un_R nt r 0 X := by rw [← tR.un n60, Int32.not_lt]
    rw [h5]
    refine l2_no (nI_pos (by omega)) ?_
    rw [(C.fr f).2.2.1, show f_X13_find 964 0 (nI (nt 0)) (nI X) r2 = some w from tR'.1, l2_bs, ck_c f (b := 977) (by decide) (by decide)]
    refine rl_findG (F := fun y => k_X13_checkAll_167 (nI k) (nI (8 * k + j)) y) hw L2 (fun r3 g => next _ r3 g.1 (fun a b => ⟨fun y => ?_, fun y => ?_⟩) g.2)
    · rcases y with y | ⟨y, i, i1, i2⟩
      · exact Or.inl (Or.inl y)
      · by_cases z : i = j
        · subst z
          obtain ⟨_, X', _, _, _, hX', q1, q2, q3⟩ := i2
          have eX : X = X' := (nI_eq (by omega) (by omega)).mp (h5.symm.trans q1)
          subst eX
          exact Or.inr ⟨q3, y, q2⟩
        · exact Or.inl (Or.inr ⟨y, i, by omega, i2⟩)
    · rcases y with (y | ⟨y, i, i1, i2⟩) | ⟨y1, y2, y3⟩
      · exact Or.inl y
      · exact Or.inr ⟨y, i, by omega, i2⟩
      · exact Or.inr ⟨y2, j, by omega, v2, X, v8, hv, by omega, h1, h5, y3, y1⟩
theorem ca_4 (Q0 : sQ W nt a t e p l sg m st s r) (C : sK nt m st r) (G : sX nt s r l st) (V : vT nt s r l) (f0 : l2_fr ck_W r r') (L : ls_R (r'.1 950 88) (r'.1 950 89) (S3 nt s r m l st m)) (go : ∀ r2, l2_fr ck_W r r2 → ls_R (r2.1 950 88) (r2.1 950 89) (S6 nt s r m l st st) → t_hk (t_loop b_X13_checkAll_251 t_N (0, r2)) Q) : t_hk (t_loop b_X13_checkAll_97 t_N (0, r')) Q := by
  have n8 : nt 2 ≤ 8 := Q0.1.n8
  have hW := Q0.2.2.2.2.2.2.2.1
  refine ck_lp (fun i r2 => l2_fr ck_W r r2 ∧ ls_R (r2.1 950 88) (r2.1 950 89) (S4 nt s r m l st i)) (N := nt 2) (by omega) ⟨f0, L.iff (fun a b => ⟨Or.inl, fun y => y.elim id (fun ⟨_, x, _, hx, _⟩ => absurd hx (Nat.not_lt_zero _))⟩)⟩ ?_ ?_
  · rintro P r2 ⟨f, L2⟩
    show t_hk (k_X13_checkAll_97 (nI (nt 2)) r2) _
    unfold k_X13_checkAll_97
    rw [(C.fr f).2.2.2.2.1]
    exact l2_ck (nI_le (Nat.le_refl _) (by omega)) (l2_mp (ca_5 Q0 C G f L2 go))
  · rintro i r2 hi ⟨f, L2⟩
    show t_hk (k_X13_checkAll_97 (nI i) r2) _
    unfold k_X13_checkAll_97
    rw [(C.fr f).2.2.2.2.1]
    refine l2_no (nI_ge hi (by omega)) ?_
    obtain ⟨v2, v8, hv, _⟩ := V.1 i hi
    refine l2_imp (ca_vars Q0 C V hi f L2 (fun X x h1 h2 h3 => hW x X h1 h2 h3) hv v8) (fun w hw => ?_)
    obtain ⟨r3, rfl, g1, g2⟩ := hw
    refine ⟨r3, rfl, g1, g2.iff (fun a b => ⟨fun y => ?_, fun y => ?_⟩)⟩
    · rcases y with (y | ⟨y, x, j, x1, x2⟩) | ⟨y, j, x2⟩
      · exact Or.inl y
      · exact Or.inr ⟨y, x, j, by omega, x2⟩
      · exact Or.inr ⟨y, i, j, by omega, x2⟩
    · rcases y with y | ⟨y, x, j, x1, x2⟩
      · exact Or.inl (Or.inl y)
      · by_cases z : x = i
        · subst z
          exact Or.inr ⟨y, j, x2⟩
        · exact Or.inl (Or.inr ⟨y, x, j, by omega, x2⟩)
end
