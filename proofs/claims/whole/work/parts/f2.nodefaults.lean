/-! Level 2: the reference's check of a node: the faults of its links. -/
/-- node k brings a fault 4 at place b -/
def rU (nt : Nat → Nat) (s r : t_S) (m l st k : Nat) (b : Int32) : Prop := (∃ p, lt_M r k p ∧ b = nI p) ∨ ∃ e, e < l ∧ s.1 848 e = b ∧ lU nt s r m e ∧ ((r.1 955 k = 8 ∧ ty_en s r e k) ∨ ∃ E, mE (nt 2) (nt 3) r E ∧ xD_B E s r e k ∧ ¬ (r.1 955 k = 63 ∧ r.2.1 958 k = 0) ∧ ∀ ln, ln < st → r.1 988 ln = 2 → r.1 996 ln ≠ nI k)
def nd_Q (nt : Nat → Nat) (s r : t_S) (m l st k : Nat) (S : Nat → Int32 → Prop) (r' r2 : t_S) : Prop := l2_fr lg_W r' r2 ∧ ls_R (r2.1 950 88) (r2.1 950 89) (fun a b => S a b ∨ (a = 4 ∧ rU nt s r m l st k b))
section
variable {W X k a t e p l sg m st n2 n3 K b d : Nat} {nt : Nat → Nat} {v z kc q : Int32} {U : Prop} {E E' : en_S} {S : Nat → Int32 → Prop} {s r r' : t_S}
theorem nd_of (h : t_hk (f_X13_checkNode (nI k) r') (rN_Q U q S r')) (g : ∀ b, rU nt s r m l st k b ↔ (b = q ∧ U)) : t_hk (f_X13_checkNode (nI k) r') (nd_Q nt s r m l st k S r') := by
  obtain ⟨r2, e, h1, h2⟩ := h
  exact ⟨r2, e, h1, h2.iff (fun a b => or_congr Iff.rfl ⟨fun y => ⟨y.2.1, (g b).mpr ⟨y.1, y.2.2⟩⟩, fun y => ⟨((g b).mp y.2).1, y.1, ((g b).mp y.2).2⟩⟩)⟩
theorem nd_no (h : f_X13_checkNode (nI k) r' = some r') (L : ls_R (r'.1 950 88) (r'.1 950 89) S) (g : ∀ b, ¬ rU nt s r m l st k b) : t_hk (f_X13_checkNode (nI k) r') (nd_Q nt s r m l st k S r') :=
  ⟨r', h, l2_fr.rf, L.iff (fun a b => ⟨Or.inl, fun y => y.elim id (fun z => absurd z.2 (g b))⟩)⟩
theorem xD_B.kind (h : xD_B E s r e k) : r.1 955 k = nI 28 ∨ r.1 955 k = nI 58 ∨ r.1 955 k = nI 63 := h.elim (fun y => Or.inl y.1) (fun y => y.elim (fun y => Or.inr (Or.inl y.1)) (fun y => Or.inr (Or.inr y.1)))
/-- no fault of a node of another kind -/
theorem rU_no (h5 : r.1 955 k = nI K) (hK : K < 100 ∧ K ≠ 8 ∧ K ≠ 28 ∧ ¬ (55 ≤ K ∧ K ≤ 58) ∧ ¬ (61 ≤ K ∧ K ≤ 63)) (b : Int32) : ¬ rU nt s r m l st k b := by
  have no : ∀ z : Nat, z < 100 → r.1 955 k = nI z → K = z := fun z hz y => (nI_eq (by omega) (by omega)).mp (h5.symm.trans y)
  rintro (⟨p, ⟨_, _, _, K', k1, k2⟩, _⟩ | ⟨e, _, _, _, ⟨h8, _⟩ | ⟨E, _, h, _⟩⟩)
  · have := no K' (by omega) k2
    omega
  · have := no 8 (by decide) h8
    omega
  · rcases h.kind with y | y | y
    · have := no 28 (by decide) y
      omega
    · have := no 58 (by decide) y
      omega
    · have := no 63 (by decide) y
      omega
theorem ty_le (h : ty_en s r e k) (hD : ∃ so X hm sp ex, le_D s e so X hm sp ex) : ∃ X hm sp ex, le_D s e 0 X hm sp ex ∧ X < 7934 ∧ s.1 848 e = r.1 956 k ∧ r.2.1 957 k = lN X := by
  obtain ⟨so, X, hm, sp, ex, D⟩ := hD
  obtain ⟨x, hx, y9, y0, y8, y7⟩ := h
  have e1 : so = 0 := (nI_eq (b := 0) (by have := D.1.1; omega) (by decide)).mp (D.2.1.symm.trans y9)
  have e2 : X = x := by
    have := (nI_eq (by have := D.1.2.1; omega) (by omega)).mp (D.2.2.1.symm.trans y0)
    omega
  subst e1 e2
  exact ⟨X, hm, sp, ex, D, hx, y8, y7⟩
theorem w_le {so' : Nat} {hm' pl : Int32} (h : w_en hm' s r e k so' pl) (h20 : so' < 20) (hD : ∃ so X hm sp ex, le_D s e so X hm sp ex) : ∃ X sp ex, le_D s e so' X hm' sp ex ∧ X < 7934 ∧ s.1 848 e = pl ∧ r.2.1 957 k = lN X := by
  obtain ⟨so, X, hm, sp, ex, D⟩ := hD
  obtain ⟨x, hx, y9, y0, y7, y8, y1⟩ := h
  have e1 : so = so' := (nI_eq (by have := D.1.1; omega) (by omega)).mp (D.2.1.symm.trans y9)
  have e2 : X = x := by
    have := (nI_eq (by have := D.1.2.1; omega) (by omega)).mp (D.2.2.1.symm.trans y0)
    omega
  have e3 : hm = hm' := D.2.2.2.1.symm.trans y1
  subst e1 e2 e3
  exact ⟨X, sp, ex, D, hx, y8, y7⟩
theorem lN_X {X Y : Nat} {w : Int64} (h : w = lN X) (g : w = lN Y) (hX : X < 7934) (hY : Y < 7934) : X = Y := (lN_eq (by omega) (by omega)).mp (h.symm.trans g)
theorem lu_0 {hm : Int32} : lu_R nt s r m 0 X hm ↔ un_R nt r 0 X := by
  refine ⟨fun y => ?_, fun y => Or.inl ⟨by decide, y⟩⟩
  rcases y with ⟨y, z⟩ | ⟨y, z⟩ | ⟨y, z⟩ | ⟨y, z⟩ | ⟨y, z⟩ | ⟨y, z⟩ | ⟨kc1, hk, ⟨y, z⟩ | ⟨y, z⟩ | ⟨y, z⟩ | ⟨y, z⟩⟩
  · exact z
  all_goals omega
theorem lu_13 {hm : Int32} : lu_R nt s r m 13 X hm ↔ (un_R nt r 1 X ∧ ¬ ew_W m r X) := by
  refine ⟨fun y => ?_, fun y => Or.inr (Or.inr (Or.inr (Or.inr (Or.inr (Or.inl ⟨rfl, y⟩)))))⟩
  rcases y with ⟨y, z⟩ | ⟨y, z⟩ | ⟨y, z⟩ | ⟨y, z⟩ | ⟨y, z⟩ | ⟨y, z⟩ | ⟨kc1, hk, ⟨y, z⟩ | ⟨y, z⟩ | ⟨y, z⟩ | ⟨y, z⟩⟩
  · omega
  · omega
  · omega
  · omega
  · omega
  · exact z
  all_goals omega
theorem lu_12 {hm : Int32} (hx : kx_R nt s 12 hm kc) : lu_R nt s r m 12 X hm ↔ (no_R 975 979 8 r kc X ∧ ¬ ew_W m r X) := by
  refine ⟨fun y => ?_, fun y => Or.inr (Or.inr (Or.inr (Or.inr (Or.inr (Or.inr ⟨kc, hx, Or.inr (Or.inr (Or.inl ⟨rfl, y⟩))⟩)))))⟩
  rcases y with ⟨y, z⟩ | ⟨y, z⟩ | ⟨y, z⟩ | ⟨y, z⟩ | ⟨y, z⟩ | ⟨y, z⟩ | ⟨kc1, hk, ⟨y, z⟩ | ⟨y, z⟩ | ⟨y, z⟩ | ⟨y, z⟩⟩
  · omega
  · omega
  · omega
  · omega
  · omega
  · omega
  · omega
  · omega
  · rw [hx.eq hk]
    exact z
  · omega
theorem lu_7 {hm : Int32} (hx : kx_R nt s 7 hm kc) : lu_R nt s r m 7 X hm ↔ no_R 973 974 4 r kc X := by
  refine ⟨fun y => ?_, fun y => Or.inr (Or.inr (Or.inr (Or.inr (Or.inr (Or.inr ⟨kc, hx, Or.inr (Or.inl ⟨Or.inr rfl, y⟩)⟩)))))⟩
  rcases y with ⟨y, z⟩ | ⟨y, z⟩ | ⟨y, z⟩ | ⟨y, z⟩ | ⟨y, z⟩ | ⟨y, z⟩ | ⟨kc1, hk, ⟨y, z⟩ | ⟨y, z⟩ | ⟨y, z⟩ | ⟨y, z⟩⟩
  · omega
  · omega
  · omega
  · omega
  · omega
  · omega
  · omega
  · rw [hx.eq hk]
    exact z
  · omega
  · omega
theorem mE.hm (h : mE n2 n3 r E) (h' : mE n2 n3 r E') (e1 : E.2.1 = E'.2.1) : E.1 = E'.1 := by
  obtain ⟨hm, cx, td, ba, kn, v⟩ := E
  obtain ⟨hm', cx', td', ba', kn', v'⟩ := E'
  have e1 : cx = cx' := e1
  subst e1
  show hm = hm'
  obtain ⟨_, h⟩ := h
  obtain ⟨_, h'⟩ := h'
  rcases h with ⟨x1, x2, _⟩ | ⟨k, L, cnt, x0, x1, x2, x3, _⟩ | ⟨f, L, cnt, x0, x1, x2, x3, _⟩
  · rcases h' with ⟨y1, y2, _⟩ | ⟨k', L', cnt', y0, y1, y2, y3, _⟩ | ⟨f', L', cnt', y0, y1, y2, y3, _⟩
    · exact x1.trans y1.symm
    · omega
    · omega
  · rcases h' with ⟨y1, y2, _⟩ | ⟨k', L', cnt', y0, y1, y2, y3, _⟩ | ⟨f', L', cnt', y0, y1, y2, y3, _⟩
    · omega
    · have ek : k = k' := by omega
      subst ek
      exact x2.trans y2.symm
    · omega
  · rcases h' with ⟨y1, y2, _⟩ | ⟨k', L', cnt', y0, y1, y2, y3, _⟩ | ⟨f', L', cnt', y0, y1, y2, y3, _⟩
    · omega
    · omega
    · have ek : f = f' := by omega
      subst ek
      exact x2.trans y2.symm
/-- the component of a context that is no template's -/
theorem co_E (hC : sC W nt s r) (f : l2_fr ck_W r r') (C : sK nt m st r) (hE : mE (nt 2) (nt 3) r E) (d0 : E.2.1 ≠ 0) : ∃ kc, kx_R nt s 7 E.1 kc ∧ kc_R nt kc ∧ f_X13_componentOf (nI E.2.1) r' = some kc := by
  obtain ⟨hm, cx, td, ba, kn, v⟩ := E
  have d0 : cx ≠ 0 := d0
  show ∃ kc, kx_R nt s 7 hm kc ∧ kc_R nt kc ∧ f_X13_componentOf (nI cx) r' = some kc
  obtain ⟨_, h⟩ := hE
  rcases h with ⟨x1, x2, _⟩ | ⟨k, L, cnt, x0, x1, x2, x3, _⟩ | ⟨g, L, cnt, x0, x1, x2, x3, _⟩
  · omega
  · subst x3
    refine ⟨nI k, Or.inr (Or.inl ⟨k, x0, x1, x2, (if_pos rfl).symm⟩), Or.inr ⟨k, x0, rfl⟩, ?_⟩
    unfold f_X13_componentOf k_X13_componentOf_38
    rw [if_pos (show nI (1000 + k) < (2000 : Int32) from nI_lt (b := 2000) (by omega) (by decide)), if_neg (Int32.not_lt.mpr (show (1000 : Int32) ≤ nI (1000 + k) from nI_le (a := 1000) (by omega) (by omega))), if_neg (show ¬ (2000 : Int32) ≤ nI (1000 + k) from nI_ge (b := 2000) (by omega) (by decide)), show nI (1000 + k) - (1000 : Int32) = nI k from (pk_sub (b := 1000) (by omega)).trans (by rw [show 1000 + k - 1000 = k by omega])]
  · subst x3
    have ko := hC.2.1 g x0
    have hc : f_X13_componentOf (2000 + nI g) r' = some (s.1 438 g) := co_unit (ck_ko f ko) x1 (C.fr f).2.2.2.2.1
    rw [show (2000 : Int32) + nI g = nI (2000 + g) from nI_add 2000 g] at hc
    exact ⟨_, Or.inl ⟨g, x0, x1, x2, rfl⟩, ko.own, hc⟩
/-- a node whole -/
theorem nd_ck (Q : sQ W nt a t e p l sg m st s r) (C : sK nt m st r) (f : l2_fr ck_W r r') (e90 : r'.1 950 90 = nI m) (hw : r'.1 1004 k = 0 ∨ r'.1 1004 k = 1) (hw1 : r'.1 1004 k = 1 ↔ ∃ ln, ln < st ∧ r.1 988 ln = 2 ∧ r.1 996 ln = nI k) (hk : k < m) (L : ls_R (r'.1 950 88) (r'.1 950 89) S) : t_hk (f_X13_checkNode (nI k) r') (nd_Q nt s r m l st k S r') := by
  obtain ⟨hC, _, hN, _, _, _, ⟨_, _, _, _, _, _, _, _, _, m13, _⟩, hW, _, _⟩ := id Q
  have C' := C.fr f
  obtain ⟨_, _, C40, C44, _, _⟩ := C'
  have k13 : k < 13000 := by omega
  have n0 : nt 0 ≤ 60 := (hC.1.1 0 (by decide)).1
  have n1 : nt 1 ≤ 60 := (hC.1.1 1 (by decide)).1
  have f5 : r'.1 955 k = r.1 955 k := ck_c f (by decide) (by decide)
  have f6 : r'.1 956 k = r.1 956 k := ck_c f (by decide) (by decide)
  have f61 : r'.1 961 k = r.1 961 k := ck_c f (by decide) (by decide)
  have f7 : r'.2.1 957 k = r.2.1 957 k := (f 957 k (by unfold ck_W; omega)).2.1
  have f8 : r'.2.1 958 k = r.2.1 958 k := (f 958 k (by unfold ck_W; omega)).2.1
  have hD : ∀ e, e < l → ∃ so X hm sp ex, le_D s e so X hm sp ex := fun e he => by
    obtain ⟨so, X, hm, sp, ex, D, _⟩ := Q.turn he
    exact ⟨so, X, hm, sp, ex, D⟩
  have tell : ∀ i X, i < 4 → X < 7934 → 66 + X < W → ∃ v, to_R nt r' i X v := fun i X hi hX hw => by
    obtain ⟨v, _, e2, e3⟩ := nt_told hC.1 hi hX hw
    exact ⟨v, (ck_to f hi).mpr ⟨e2, e3⟩⟩
  have i57 : ∀ X, X < 7934 → r.2.1 957 k = lN X → (r'.2.1 957 k).toInt32 = nI X := fun X hX y => by rw [f7, y]; exact lN_w X
  rcases hN k hk with ⟨K, x1, x2, x3, x4⟩ | ⟨⟨E, hE, K, x1, x2, x3, x4, x5, x6, x7⟩, nw⟩ | ⟨x1, x2, x3, ln, _, l2, x5, x6⟩
  · -- a type's node
    have no : ∀ z : Nat, z < 100 → r.1 955 k = nI z → K = z := fun z hz y => (nI_eq (by omega) (by omega)).mp (x3.symm.trans y)
    by_cases h8 : K = 8
    rotate_left
    · exact nd_no (rn_none k13 (f5.trans x3) (by omega)) L (rU_no x3 (by omega))
    subst h8
    obtain ⟨e0, _, h2, h3⟩ := x4 rfl
    obtain ⟨X, hm, sp, ex, D, hX, y8, y7⟩ := ty_le h3 (hD e0 h2)
    obtain ⟨v, tR⟩ := tell 0 X (by decide) hX (hW e0 X h2 D.2.2.1 hX)
    refine nd_of (rn_8 tR n0 C40 k13 (f5.trans x3) (i57 X hX y7) f6 L) (fun b => ⟨fun y => ?_, fun y => ?_⟩)
    · rcases y with ⟨p, ⟨_, _, _, K', k1, k2⟩, _⟩ | ⟨e1, z1, z2, z3, ⟨_, z4⟩ | ⟨E, _, z4, _⟩⟩
      · have := no K' (by omega) k2
        omega
      · obtain ⟨X', hm', sp', ex', D', hX', y8', y7'⟩ := ty_le z4 (hD e1 z1)
        have eX := lN_X y7 y7' hX hX'
        subst eX
        exact ⟨z2.symm.trans y8', (ck_un f (by decide)).mpr (lu_0.mp ((lU_iff D').mp z3))⟩
      · rcases z4.kind with y | y | y
        · exact absurd (no 28 (by decide) y) (by decide)
        · exact absurd (no 58 (by decide) y) (by decide)
        · exact absurd (no 63 (by decide) y) (by decide)
    · exact Or.inr ⟨e0, h2, y8.trans y.1.symm, (lU_iff D).mpr (lu_0.mpr ((ck_un f (by decide)).mp y.2)), Or.inl ⟨x3, h3⟩⟩
  · -- a node of an exp or templ
    have no : ∀ z : Nat, z < 100 → r.1 955 k = nI z → K = z := fun z hz y => (nI_eq (by omega) (by omega)).mp (x3.symm.trans y)
    obtain ⟨cx3, td8⟩ := hE.cx
    have nw' : ∀ ln, ln < st → r.1 988 ln = 2 → r.1 996 ln ≠ nI k := fun ln h => nw ln (Nat.zero_le _) h
    have lt_run : ∀ b : Int32, (∃ p, lt_M r k p ∧ b = nI p) → ((55 ≤ K ∧ K ≤ 57) ∨ (61 ≤ K ∧ K ≤ 63)) ∧ r.2.1 958 k = 0 ∧ b = r.1 956 k := fun b ⟨p, ⟨_, y1, y2, K', k1, k2⟩, y3⟩ => by
      have := no K' (by omega) k2
      exact ⟨by omega, y1, y3.trans y2.symm⟩
    by_cases h28 : K = 28
    · subst h28
      obtain ⟨e0, _, h2, h3⟩ := x4 rfl
      obtain ⟨X, sp, ex, D, hX, y8, y7⟩ := w_le h3 (by decide) (hD e0 h2)
      obtain ⟨v, tR⟩ := tell 1 X (by decide) hX (hW e0 X h2 D.2.2.1 hX)
      refine nd_of (rn_28 tR n1 C44 m13 e90 hX k13 (f5.trans x3) (i57 X hX y7) f6 L) (fun b => ⟨fun y => ?_, fun y => ?_⟩)
      · rcases y with y | ⟨e1, z1, z2, z3, ⟨z4, _⟩ | ⟨E', hE', z4, _⟩⟩
        · have := (lt_run b y).1
          omega
        · exact absurd (no 8 (by decide) z4) (by decide)
        · rcases z4 with ⟨_, y⟩ | ⟨y, _⟩ | ⟨y, _⟩
          · obtain ⟨X', sp', ex', D', hX', y8', y7'⟩ := w_le y (by decide) (hD e1 z1)
            have eX := lN_X y7 y7' hX hX'
            subst eX
            obtain ⟨q1, q2⟩ := lu_13.mp ((lU_iff D').mp z3)
            exact ⟨z2.symm.trans y8', (ck_un f (by decide)).mpr q1, fun q => q2 ((ck_ew f).mp q)⟩
          · exact absurd (no 58 (by decide) y) (by decide)
          · exact absurd (no 63 (by decide) y) (by decide)
      · refine Or.inr ⟨e0, h2, y8.trans y.1.symm, (lU_iff D).mpr (lu_13.mpr ⟨(ck_un f (by decide)).mp y.2.1, fun q => y.2.2 ((ck_ew f).mpr q)⟩), Or.inr ⟨E, hE, Or.inl ⟨x3, h3⟩, fun q => absurd (no 63 (by decide) q.1) (by decide), nw'⟩⟩
    by_cases h58 : K = 58
    · subst h58
      obtain ⟨X, hX, y7, y8, y61, hl⟩ := x5 rfl
      obtain ⟨z, z1, z2, z3⟩ := vo_E hC f C hE hX
      have nw1 : ¬ (E.2.1 = 0 ∧ r'.1 961 k = 0 ∧ r'.1 1004 k = 1) := fun q => by
        obtain ⟨ln, q1, q2, q3⟩ := hw1.mp q.2.2
        exact nw ln (Nat.zero_le _) q1 q2 q3
      have hv : f_X13_varOf (nI X) (nI E.2.1) (r'.1 961 k) r' = some z := by rw [f61, y61]; exact z1
      by_cases hv0 : E.2.2.2.2.2 X = 0
      · obtain ⟨kc, hx, z4⟩ := z3 hv0
        obtain ⟨e0, _, h2, h3⟩ := hl.resolve_left (fun q => q hv0)
        obtain ⟨X0, sp, ex, D, hX0, y8', y7'⟩ := w_le h3 (by decide) (hD e0 h2)
        have eX := lN_X y7 y7' hX hX0
        subst eX
        refine nd_of (rn_58 (V := no_R 975 979 8 r kc X) k13 (f5.trans x3) (f8.trans y8) cx3 (i57 X hX y7) hX f6 hv z4 m13 e90 hw nw1 L) (fun b => ⟨fun y => ?_, fun y => ?_⟩)
        · rcases y with y | ⟨e1, q1, q2, q3, ⟨q4, _⟩ | ⟨E', hE', q4, _⟩⟩
          · have := (lt_run b y).1
            omega
          · exact absurd (no 8 (by decide) q4) (by decide)
          · rcases q4 with ⟨y, _⟩ | ⟨_, y, _, c1, c2⟩ | ⟨y, _⟩
            · exact absurd (no 28 (by decide) y) (by decide)
            · obtain ⟨X', sp', ex', D', hX', y8'', y7''⟩ := w_le y (by decide) (hD e1 q1)
              have eX := lN_X y7 y7'' hX hX'
              subst eX
              have eE := hE.same hE' ((lN_eq (by omega) (by have := hE'.cx.1; omega)).mp (y8.symm.trans c1)) ((nI_eq (by omega) (by have := hE'.cx.2; omega)).mp (y61.symm.trans c2))
              have hx' : kx_R nt s 12 E'.1 kc := eE.1 ▸ hx
              obtain ⟨u1, u2⟩ := (lu_12 hx').mp ((lU_iff D').mp q3)
              exact ⟨q2.symm.trans y8'', u1, fun u => u2 ((ck_ew f).mp u)⟩
            · exact absurd (no 63 (by decide) y) (by decide)
        · exact Or.inr ⟨e0, h2, y8'.trans y.1.symm, (lU_iff D).mpr ((lu_12 hx).mpr ⟨y.2.1, fun u => y.2.2 ((ck_ew f).mpr u)⟩), Or.inr ⟨E, hE, Or.inr (Or.inl ⟨x3, h3, ⟨X, hX, y7, hv0⟩, y8, y61⟩), fun q => absurd (no 63 (by decide) q.1) (by decide), nw'⟩⟩
      · have z0 := z2 hv0
        refine nd_of (U := False ∧ ¬ ew_W m r' X) (rn_58 (V := False) k13 (f5.trans x3) (f8.trans y8) cx3 (i57 X hX y7) hX f6 hv ⟨fun _ => id, fun _ => z0⟩ m13 e90 hw nw1 L) (fun b => ⟨fun y => ?_, fun y => y.2.1.elim⟩)
        rcases y with y | ⟨e1, q1, q2, q3, ⟨q4, _⟩ | ⟨E', hE', q4, _⟩⟩
        · have := (lt_run b y).1
          omega
        · exact absurd (no 8 (by decide) q4) (by decide)
        · rcases q4 with ⟨y, _⟩ | ⟨_, y, ⟨X', hX', c0, c3⟩, c1, c2⟩ | ⟨y, _⟩
          · exact absurd (no 28 (by decide) y) (by decide)
          · have eX := lN_X y7 c0 hX hX'
            subst eX
            have eE := hE.same hE' ((lN_eq (by omega) (by have := hE'.cx.1; omega)).mp (y8.symm.trans c1)) ((nI_eq (by omega) (by have := hE'.cx.2; omega)).mp (y61.symm.trans c2))
            rw [eE.2 X] at hv0
            exact absurd c3 hv0
          · exact absurd (no 63 (by decide) y) (by decide)
    by_cases h63 : K = 63
    · subst h63
      obtain ⟨y8, p, p1, p2⟩ := x6 (Or.inr ⟨by decide, by decide⟩)
      obtain ⟨_, e0, _, h2, h3⟩ := x7 rfl
      obtain ⟨X, sp, ex, D, hX, y8', y7⟩ := w_le h3 (by decide) (hD e0 h2)
      by_cases d0 : E.2.1 = 0
      · have z8 : r.2.1 958 k = 0 := by rw [y8, d0]; rfl
        have bad : t_hk (f_X13_checkNode (nI k) r') (rN_Q True (r.1 956 k) S r') := by
          unfold f_X13_checkNode
          rw [if_pos (l2_ix k13 (by decide)), nI_clamp (n := k) (by omega), f5.trans x3]
          obtain ⟨e1, _⟩ := rn_d (d := 0) (by decide)
          rw [if_neg (show ¬ (nI 63).toInt = 8 by decide), if_neg (show ¬ (nI 63).toInt = 28 by decide), if_neg (show ¬ (nI 63).toInt = 55 by decide), if_neg (show ¬ (nI 63).toInt = 56 by decide), if_neg (show ¬ (nI 63).toInt = 57 by decide), if_neg (show ¬ (nI 63).toInt = 58 by decide), if_neg (show ¬ (nI 63).toInt = 61 by decide), if_neg (show ¬ (nI 63).toInt = 62 by decide), if_pos (show (nI 63).toInt = 63 by decide), if_pos (show lg_cmp (r'.2.1 958 k) 0 = 0 by rw [f8, z8]; exact e1.mpr rfl)]
          unfold k_X13_checkNode_283
          rw [if_pos (l2_ix k13 (by decide)), nI_clamp (n := k) (by omega), f6]
          exact rN_bad L trivial
        refine nd_of bad (fun b => ⟨fun y => ⟨?_, trivial⟩, fun y => ?_⟩)
        · rcases y with y | ⟨e1, q1, q2, q3, ⟨q4, _⟩ | ⟨E', hE', q4, q5, _⟩⟩
          · exact (lt_run b y).2.2
          · exact absurd (no 8 (by decide) q4) (by decide)
          · exact absurd ⟨x3, z8⟩ q5
        · exact Or.inl ⟨p, ⟨p1, z8, p2, 63, Or.inr ⟨by decide, by decide⟩, x3⟩, y.1.trans p2⟩
      · have z8 : ¬ r.2.1 958 k = 0 := fun y => d0 ((lN_eq (b := 0) (by omega) (by decide)).mp (y8.symm.trans y))
        obtain ⟨kc, hx, ho, hc⟩ := co_E hC f C hE d0
        refine nd_of (rn_63 (X := X) k13 (f5.trans x3) (f8.trans y8) d0 cx3 hc (hC.rt f ho hX) (i57 X hX y7) f61 L) (fun b => ⟨fun y => ?_, fun y => ?_⟩)
        · rcases y with y | ⟨e1, q1, q2, q3, ⟨q4, _⟩ | ⟨E', hE', q4, _⟩⟩
          · exact absurd (lt_run b y).2.1 z8
          · exact absurd (no 8 (by decide) q4) (by decide)
          · rcases q4 with ⟨y, _⟩ | ⟨y, _⟩ | ⟨_, y, c1⟩
            · exact absurd (no 28 (by decide) y) (by decide)
            · exact absurd (no 58 (by decide) y) (by decide)
            · obtain ⟨X', sp', ex', D', hX', y8'', y7''⟩ := w_le y (by decide) (hD e1 q1)
              have eX := lN_X y7 y7'' hX hX'
              subst eX
              have eh := hE.hm hE' ((lN_eq (by omega) (by have := hE'.cx.1; omega)).mp (y8.symm.trans c1))
              have hx' : kx_R nt s 7 E'.1 kc := eh ▸ hx
              exact ⟨q2.symm.trans y8'', (ck_no f (by decide) (by decide)).mpr ((lu_7 hx').mp ((lU_iff D').mp q3))⟩
        · exact Or.inr ⟨e0, h2, y8'.trans y.1.symm, (lU_iff D).mpr ((lu_7 hx).mpr ((ck_no f (by decide) (by decide)).mp y.2)), Or.inr ⟨E, hE, Or.inr (Or.inr ⟨x3, h3, y8⟩), fun q => z8 q.2, nw'⟩⟩
    by_cases hr : K = 55 ∨ K = 56 ∨ K = 57 ∨ K = 61 ∨ K = 62
    · obtain ⟨y8, p, p1, p2⟩ := x6 (by omega)
      refine nd_of (rn_run hr k13 (f5.trans x3) (f8.trans y8) cx3 f6 L) (fun b => ⟨fun y => ?_, fun y => ?_⟩)
      · rcases y with y | ⟨e1, q1, q2, q3, ⟨q4, _⟩ | ⟨E', hE', q4, _⟩⟩
        · obtain ⟨_, u2, u3⟩ := lt_run b y
          exact ⟨u3, (lN_eq (b := 0) (by omega) (by decide)).mp (y8.symm.trans u2)⟩
        · have := no 8 (by decide) q4
          omega
        · rcases q4.kind with y | y | y
          · have := no 28 (by decide) y
            omega
          · have := no 58 (by decide) y
            omega
          · have := no 63 (by decide) y
            omega
      · have z8 : r.2.1 958 k = 0 := by rw [y8, y.2]; rfl
        exact Or.inl ⟨p, ⟨p1, z8, p2, K, by omega, x3⟩, y.1.trans p2⟩
    · exact nd_no (rn_none k13 (f5.trans x3) (by omega)) L (rU_no x3 (by omega))
  · -- a way of an assignment
    have w1 : r'.1 1004 k = 1 := hw1.mpr ⟨ln, l2, x5, x6⟩
    have no : ∀ z : Nat, z < 100 → r.1 955 k = nI z → 58 = z := fun z hz y => (nI_eq (by decide) (by omega)).mp ((show r.1 955 k = nI 58 from x1).symm.trans y)
    refine nd_no (rn_way k13 (f5.trans x1) (f8.trans x2) (f61.trans x3) w1) L (fun b y => ?_)
    rcases y with ⟨p, ⟨_, y1, y2, K', k1, k2⟩, _⟩ | ⟨e1, q1, q2, q3, ⟨q4, _⟩ | ⟨E', hE', q4, _, q5⟩⟩
    · have := no K' (by omega) k2
      omega
    · exact absurd (no 8 (by decide) q4) (by decide)
    · exact q5 ln l2 x5 x6
end
