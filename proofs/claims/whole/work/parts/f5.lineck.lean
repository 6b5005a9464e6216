/-! Level 2: the reference's check of a line: all kinds. -/
section
variable {W X x y a t e p l sg m st n2 n3 ln f td so so0 K V pl na side e0 : Nat} {nt v : Nat → Nat} {E : en_S} {hm spot ex b kc u w l2 q z : Int32} {s r r' r2 : t_S} {S T T0 T1 : Nat → Int32 → Prop} {U : Prop} {Q : t_S → Prop}
theorem rl_find {F : t_S → Option t_S} (hw : 0 ≤ w ↔ ¬ U) (L : ls_R (r.1 950 88) (r.1 950 89) S) (go : ∀ r2, rN_Q U q S r r2 → t_hk (F r2) Q) : t_hk (if 0 ≤ w then F r else (f_X13_wrong 4 q r).bind F) Q := by
  by_cases y : 0 ≤ w
  · rw [if_pos y]
    exact go r (rl_ok L (hw.mp y))
  · rw [if_neg y]
    exact rl_bad L (Classical.byContradiction (fun x => y (hw.mpr x))) go
theorem rl_isp {F : t_S → Option t_S} (hw : w = 0 ∨ w = 1) (hu : w = 1 ↔ ¬ U) (L : ls_R (r.1 950 88) (r.1 950 89) S) (go : ∀ r2, rN_Q U q S r r2 → t_hk (F r2) Q) : t_hk (if w = 0 then (f_X13_wrong 4 q r).bind F else F r) Q := by
  by_cases y : w = 0
  · rw [if_pos y]
    refine rl_bad L (Classical.byContradiction (fun x => ?_)) go
    have := y.symm.trans (hu.mpr x)
    exact absurd this (by decide)
  · rw [if_neg y]
    exact go r (rl_ok L (hu.mp (hw.resolve_left y)))
theorem nt_60 {i : Nat} (Q : sQ W nt a t e p l sg m st s r) (hi : i < 4) : nt i ≤ 60 := Nat.le_trans (Q.1.1.1 i hi).1 (by
  have hc : i = 0 ∨ i = 1 ∨ i = 2 ∨ i = 3 := by omega
  rcases hc with rfl | rfl | rfl | rfl <;> decide)
theorem sl_call (hs : (K = 6 ∧ so0 = 9) ∨ (K = 15 ∧ so0 = 11) ∨ ((K = 18 ∨ K = 20) ∧ so0 = 10)) (hK : K = 20 → V = 3) : (so0 = 9 ∨ so0 = 10 ∨ so0 = 11) ∧ (∀ so, sl_ok K V so 0 → so = so0) ∧ sl_ok K V so0 0 := by
  rcases hs with ⟨rfl, rfl⟩ | ⟨rfl, rfl⟩ | ⟨rfl | rfl, rfl⟩
  · exact ⟨Or.inl rfl, fun so y => by have := sl_s0 y; omega, Or.inl ⟨rfl, Or.inr (Or.inr (Or.inl ⟨rfl, rfl⟩))⟩⟩
  · exact ⟨Or.inr (Or.inr rfl), fun so y => by have := sl_s0 y; omega, Or.inl ⟨rfl, Or.inr (Or.inr (Or.inr (Or.inl ⟨rfl, rfl⟩)))⟩⟩
  · exact ⟨Or.inr (Or.inl rfl), fun so y => by have := sl_s0 y; omega, Or.inl ⟨rfl, Or.inr (Or.inr (Or.inr (Or.inr (Or.inl ⟨rfl, Or.inl rfl⟩))))⟩⟩
  · have v3 := hK rfl
    exact ⟨Or.inr (Or.inl rfl), fun so y => by have := sl_s0 y; omega, Or.inl ⟨rfl, Or.inr (Or.inr (Or.inr (Or.inr (Or.inl ⟨rfl, Or.inr ⟨rfl, v3⟩⟩))))⟩⟩
theorem sl_pt (h : (K = 9 ∧ V = 9) ∨ ((K = 11 ∨ K = 20) ∧ V = 0)) : (∀ so, sl_ok K V so 0 → so = 5) ∧ sl_ok K V 5 0 ∧ (K ≠ 6 ∧ K ≠ 15 ∧ K ≠ 18 ∧ ¬ (K = 20 ∧ V = 3)) ∧ (K ≠ 1 ∧ K ≠ 2 ∧ K ≠ 14 ∧ K ≠ 16) ∧ (K = 9 ∨ V = 0) := by
  refine ⟨fun so y => ?_, Or.inl ⟨rfl, Or.inr (Or.inr (Or.inr (Or.inr (Or.inr (Or.inr (Or.inr (Or.inl ⟨rfl, by omega⟩)))))))⟩, by omega, by omega, by omega⟩
  have q := sl_s0 y
  rcases h with ⟨rfl, rfl⟩ | ⟨rfl | rfl, rfl⟩ <;> omega
theorem sl_tm (h : ((K = 12 ∨ K = 13) ∧ V = 9) ∨ ((K = 11 ∨ K = 20) ∧ V = 1)) : (∀ so, sl_ok K V so 0 → so = 6) ∧ sl_ok K V 6 0 ∧ (K ≠ 6 ∧ K ≠ 15 ∧ K ≠ 18 ∧ ¬ (K = 20 ∧ V = 3)) ∧ (K ≠ 1 ∧ K ≠ 2 ∧ K ≠ 14 ∧ K ≠ 16) ∧ ¬ (K = 9 ∨ V = 0) ∧ (K = 12 ∨ K = 13 ∨ V = 1) := by
  refine ⟨fun so y => ?_, Or.inl ⟨rfl, Or.inr (Or.inr (Or.inr (Or.inr (Or.inr (Or.inr (Or.inr (Or.inr ⟨rfl, by omega⟩)))))))⟩, by omega, by omega, by omega, by omega⟩
  have q := sl_s0 y
  rcases h with ⟨rfl | rfl, rfl⟩ | ⟨rfl | rfl, rfl⟩ <;> omega
theorem sl_rest (h : ((K = 3 ∨ K = 4 ∨ K = 5 ∨ K = 7 ∨ K = 8 ∨ K = 10 ∨ K = 17 ∨ K = 19) ∧ V = 9) ∨ ((K = 11 ∨ K = 20) ∧ V = 2) ∨ (K = 20 ∧ V = 4)) : (∀ so, ¬ sl_ok K V so 0) ∧ (K ≠ 6 ∧ K ≠ 15 ∧ K ≠ 18 ∧ ¬ (K = 20 ∧ V = 3)) ∧ (K ≠ 1 ∧ K ≠ 2 ∧ K ≠ 14 ∧ K ≠ 16) ∧ ¬ (K = 9 ∨ V = 0) ∧ ¬ (K = 12 ∨ K = 13 ∨ V = 1) := by
  refine ⟨fun so y => ?_, by omega, by omega, by omega, by omega⟩
  have q := sl_s0 y
  rcases h with ⟨rfl | rfl | rfl | rfl | rfl | rfl | rfl | rfl, rfl⟩ | ⟨rfl | rfl, rfl⟩ | ⟨rfl, rfl⟩ <;> omega
/-- a call's word -/
theorem ln_call (Q : sQ W nt a t e p l sg m st s r) (C : sK nt m st r) (F : lnF r ln K V f) (zz : sk_R (nt 2) (nt 3) E v s r t e p l sg m f td ln so K V) (hE : mE (nt 2) (nt 3) r (E_f f td v)) (G : sX nt s r l st) (hK4 : K = 6 ∨ K = 15 ∨ K = 18 ∨ (K = 20 ∧ V = 3)) (f0 : l2_fr ck_W r r') (hl4 : ln < 400) (L : ls_R (r'.1 950 88) (r'.1 950 89) S) : t_hk (f_X13_checkCall (nI ln) (s.1 438 f) r') (fun r2 => l2_fr lg_W r' r2 ∧ ls_R (r2.1 950 88) (r2.1 950 89) (fun a b => S a b ∨ rD nt s r m l ln 0 a b)) := by
  have C' := C.fr f0
  have K30 := F.1.1
  have cc : ∀ b j, b ≠ 1004 → b ≠ 950 → r'.1 b j = r.1 b j := fun b j h1 h2 => ck_c f0 h1 h2
  have c91 := cc 991 ln (by decide) (by decide)
  have c92 := cc 992 ln (by decide) (by decide)
  have e8 : r'.1 988 ln = nI K := (cc 988 ln (by decide) (by decide)).trans F.2.1
  obtain ⟨w, lo, hi, na, so', h95, ⟨EE, H, na12, wm, _, hch, _⟩, hwl, hs⟩ := sk_call zz hK4
  obtain ⟨s9, uq, ok⟩ := sl_call (V := V) hs (by clear hs; omega)
  obtain ⟨X, hX, hw, r1, hT⟩ := rD_call Q F s9 uq ok hwl
  obtain ⟨u, _, t2, t3⟩ := nt_told Q.1.1 (i := 3) (by decide) hX hw
  have tR : to_R nt r 3 X u := ⟨t2, t3⟩
  have tR' : to_R nt r' 3 X u := (ck_to f0 (by decide)).mpr tR
  have hT := hT u tR
  have n40 : nt 3 ≤ 40 := (Q.1.1.1 3 (by decide)).1
  have m13 : m ≤ 13000 := Q.2.2.2.2.2.2.1.2.2.2.2.2.2.2.2.2.1
  have hch' : ch_R r' w na H := ⟨(cc 959 w (by decide) (by decide)).trans hch.1, fun j hj => ⟨(hch.2 j hj).1, (hch.2 j hj).2.1, (cc 960 (H j) (by decide) (by decide)).trans (hch.2 j hj).2.2.1, (hch.2 j hj).2.2.2⟩⟩
  obtain ⟨r2, e2, g1, g2⟩ := rc_call (na := na) (kc := s.1 438 f) tR' n40 C'.2.2.2.2.2 C'.2.2.2.2.1 hl4 (c91.trans r1) e8 K30 (fun g hg => ⟨_, ck_ko f0 (Q.1.2.1 g hg)⟩) ((cc 995 ln (by decide) (by decide)).trans h95) (show w < 13000 by clear hs hK4; omega) hch' na12 L
  refine ⟨r2, e2, g1, g2.iff (fun a b => or_congr Iff.rfl (Iff.symm ((hT a b).trans ?_)))⟩
  rw [c92]
  refine and_congr Iff.rfl ?_
  by_cases hf : so' ≠ 11 ∧ s.1 438 f < 0
  · have k15 : K ≠ 15 := by
      rcases hs with ⟨y, _⟩ | ⟨_, y⟩ | ⟨y, _⟩
      · rw [y]; decide
      · exact absurd y hf.1
      · rcases y with y | y <;> rw [y] <;> decide
    have q : rl_S nt r' K na u (s.1 438 f) 4 := cl_un (r := r') (na := na) (v := u) hf.1 hf.2 k15
    have nk : ¬ rK nt r' K u (s.1 438 f) := q.elim (fun y => y.2) (fun y => absurd y.1 (by decide))
    exact ⟨fun y => y.elim (fun y => by rw [y.2.2]; exact q) (fun y => absurd hf y.1), fun y => y.elim (fun y => Or.inl ⟨hf.1, hf.2, y.1⟩) (fun y => absurd y.2.1 nk)⟩
  · have hs' : (so' = 9 ∧ K = 6) ∨ (so' = 11 ∧ K = 15) ∨ (so' = 10 ∧ (K = 18 ∨ K = 20)) := hs.elim (fun y => Or.inl ⟨y.2, y.1⟩) (fun y => y.elim (fun y => Or.inr (Or.inl ⟨y.2, y.1⟩)) (fun y => Or.inr (Or.inr ⟨y.2, y.1⟩)))
    have q := cl_rl (na := na) (so := so') (f := f) tR' (fun g hg => ck_ko f0 (Q.1.2.1 g hg)) (fun g hg => by
      obtain ⟨⟨x, x1, x2, x3⟩, _⟩ := G.2.2 g hg
      exact ⟨x, x1, x2, (cc 981 g (by decide) (by decide)).trans x3⟩) (fun g hg => (G.2.2 g hg).2.trans (cc 985 g (by decide) (by decide)).symm) n40 (K := K) hs' (by
      by_cases c : so' = 11
      · exact Or.inl c
      · exact Or.inr (fun y => hf ⟨c, y⟩)) a
    exact ⟨fun y => y.elim (fun y => absurd ⟨y.1, y.2.1⟩ hf) (fun y => q.mp y.2), fun y => Or.inr ⟨hf, q.mpr y⟩⟩
/-- a line whole -/
theorem ln_ck (Q : sQ W nt a t e p l sg m st s r) (C : sK nt m st r) (G : sX nt s r l st) (f0 : l2_fr ck_W r r') (hl : ln < st) (L : ls_R (r'.1 950 88) (r'.1 950 89) S) : t_hk (f_X13_checkLine (nI ln) r') (lnP (rR nt s r m l ln) S r') := by
  obtain ⟨f, td, v, so, K, V, ⟨f40, td8, so30, K30, V10⟩, z6, z7, hE, z9, z10, z11, _, _, _, _, _, zz⟩ := Q.2.2.2.1 ln hl
  have F : lnF r ln K V f := ⟨⟨K30, V10, f40⟩, z10, z11, z6⟩
  have f3 : f < nt 3 := E_f_lt (f' := 0) hE f40
  have st4 : st ≤ 400 := Q.2.2.2.2.2.2.1.2.2.2.2.2.2.2.2.2.2
  have hl4 : ln < 400 := by omega
  have ko := Q.1.2.1 f f3
  have C' := C.fr f0
  have hc : f_X13_componentOf (2000 + nI f) r' = some (s.1 438 f) := co_unit (ck_ko f0 ko) f40 C'.2.2.2.2.1
  have hk := ko.own
  have n60 : ∀ i, i < 4 → nt i ≤ 60 := fun i hi => nt_60 Q hi
  have cc : ∀ b j, b ≠ 1004 → b ≠ 950 → r'.1 b j = r.1 b j := fun b j h1 h2 => ck_c f0 h1 h2
  have c91 := cc 991 ln (by decide) (by decide)
  have c92 := cc 992 ln (by decide) (by decide)
  have c93 := cc 993 ln (by decide) (by decide)
  have c94 := cc 994 ln (by decide) (by decide)
  have c02 : r'.1 1002 ln = nI td := (cc 1002 ln (by decide) (by decide)).trans z7
  have e8 : r'.1 988 ln = nI K := (cc 988 ln (by decide) (by decide)).trans z10
  have e0 : r'.1 1000 ln = sl_v V := (cc 1000 ln (by decide) (by decide)).trans z11
  have e1 : r'.1 1001 ln = nI f := (cc 1001 ln (by decide) (by decide)).trans z6
  have kx : ∀ so, kx_R nt s so (nI f) (s.1 438 f) := fun so => Or.inl ⟨f, f3, f40, rfl, rfl⟩
  have tell : ∀ i X, i < 4 → X < 7934 → 66 + X < W → ∃ v, to_R nt r i X v ∧ to_R nt r' i X v ∧ (0 ≤ v ↔ ¬ un_R nt r i X) := fun i X hi hX hw => by
    obtain ⟨v, _, t2, t3⟩ := nt_told Q.1.1 hi hX hw
    have tR : to_R nt r i X v := ⟨t2, t3⟩
    refine ⟨v, tR, (ck_to f0 hi).mpr tR, ?_⟩
    rw [← tR.un (n60 i hi), Int32.not_lt]
  obtain ⟨hD, hI⟩ := sk_D zz
  have hv : V = 0 → K = 11 ∨ K = 20 := fun v0 => by
    rcases hD with ⟨_, y, _⟩ | ⟨_, y, _⟩ | y | ⟨_, y, _⟩ | ⟨_, y, _⟩ | ⟨y, _⟩ | ⟨y, _⟩ | y <;> omega
  have finG : K ≠ 16 → ∀ {T0 : Nat → Int32 → Prop} r2, l2_fr lg_W r' r2 → ls_R (r2.1 950 88) (r2.1 950 89) (fun a b => S a b ∨ T0 a b) → (∀ a b, rD nt s r m l ln 0 a b ↔ T0 a b) → t_hk (k_X13_checkLine_442 (nI ln) (nI f) r2) (lnP (rR nt s r m l ln) S r') := fun K16 T0 r2 fr L2 hT => by
    obtain ⟨r3, e3, g3⟩ := ln_w2 Q C G F z7 hE hl K16 hI hv (f0.trans (fr.mono (fun b j y => lg_ck y))) L2
    exact ⟨r3, e3, lnP.cat fr g3 (fun a b => rR_iff.trans (or_congr (hT a b) Iff.rfl))⟩
  have fin1 : K ≠ 16 → ∀ {U : Prop} {q : Int32} r2, (∀ a b, rD nt s r m l ln 0 a b ↔ (b = q ∧ a = 4 ∧ U)) → rN_Q U q S r' r2 → t_hk (k_X13_checkLine_442 (nI ln) (nI f) r2) (lnP (rR nt s r m l ln) S r') := fun K16 U q r2 hT h => finG K16 r2 h.1 h.2 hT
  have fin0 : K ≠ 16 → (∀ a b, ¬ rD nt s r m l ln 0 a b) → t_hk (k_X13_checkLine_442 (nI ln) (nI f) r') (lnP (rR nt s r m l ln) S r') := fun K16 no => fin1 K16 (U := False) (q := 0) r' (fun a b => ⟨fun y => absurd y (no a b), fun y => y.2.2.elim⟩) (rl_ok L id)
  rcases hD with ⟨rfl, rfl, td7, h⟩ | ⟨rfl, rfl, h⟩ | hcall | ⟨rfl, rfl, h⟩ | ⟨rfl, rfl, h, h'⟩ | ⟨hKV, h⟩ | ⟨hKV, h⟩ | hKV
  · -- VAR
    rw [dp_0 hl4 K30 V10 e8 e0 e1 hc (by omega)]
    unfold k_X13_checkLine_76
    rw [if_pos (l2_ix (show ln < 401 by omega) (by decide)), nI_clamp (n := ln) (by omega), e8, if_pos (show nI 1 = (1 : Int32) from rfl), c91]
    rcases h with h | h
    · rw [h, if_pos (by decide)]
      exact fin0 (by decide) (fun a b => rD_neg F h)
    · obtain ⟨X, hX, hw, r1, hT⟩ := rD_one Q F (by decide) (fun so y => by have := sl_s0 y; omega) (Or.inl ⟨rfl, Or.inl ⟨rfl, rfl⟩⟩) (by decide) h (Or.inr ⟨rfl, _, show 8 * f + td < 320 by omega, rfl⟩)
      obtain ⟨w, _, tR', tu⟩ := tell 0 X (by decide) hX hw
      rw [show r.1 991 ln = nI X from r1, if_neg (nI_pos (by omega)), C'.2.2.1, show f_X13_find 964 0 (nI (nt 0)) (nI X) r' = some w from tR'.1, l2_bs, c92]
      exact rl_find (F := fun y => k_X13_checkLine_442 (nI ln) (nI f) y) tu L (fun r2 g => fin1 (by decide) r2 (fun a b => (hT a b).trans (by rw [lu_1])) g)
  · -- assignment
    rw [dp_0 hl4 K30 V10 e8 e0 e1 hc (by omega)]
    unfold k_X13_checkLine_76
    rw [if_pos (l2_ix (show ln < 401 by omega) (by decide)), nI_clamp (n := ln) (by omega), e8, if_neg (show ¬ nI 2 = (1 : Int32) by decide), if_pos (show nI 2 = (2 : Int32) from rfl), c91]
    obtain ⟨X, z, hX, r1, hz, U, hU, hT⟩ := vr_ck (side := 0) Q C G F hE (fun so y => by have := sl_s0 y; omega) (Or.inl ⟨rfl, Or.inr (Or.inl ⟨rfl, rfl⟩)⟩) hl4 h f0
    rw [show r.1 991 ln = nI X from r1, c02, hz, l2_bs, c92]
    exact rl_find (F := fun y => k_X13_checkLine_442 (nI ln) (nI f) y) hU L (fun r2 g => fin1 (by decide) r2 hT g)
  · -- calls
    have K16 : K ≠ 16 := by omega
    have hK4 : K = 6 ∨ K = 15 ∨ K = 18 ∨ (K = 20 ∧ V = 3) := by omega
    rw [dp_1 hl4 K30 V10 e8 e0 e1 hc hK4]
    obtain ⟨r2, e2, g1, g2⟩ := ln_call Q C F zz hE G hK4 f0 hl4 L
    rw [e2, l2_bs]
    exact finG K16 (T0 := rD nt s r m l ln 0) r2 g1 g2 (fun a b => Iff.rfl)
  · -- CREATE
    rw [dp_0 hl4 K30 V10 e8 e0 e1 hc (by omega)]
    unfold k_X13_checkLine_76
    rw [if_pos (l2_ix (show ln < 401 by omega) (by decide)), nI_clamp (n := ln) (by omega), e8, if_neg (show ¬ nI 14 = (1 : Int32) by decide), if_neg (show ¬ nI 14 = (2 : Int32) by decide), if_pos rfl, if_pos (show nI 14 = (14 : Int32) from rfl), c91]
    obtain ⟨X, hX, hw, r1, hT⟩ := rD_one Q F (by decide) (fun so y => by have := sl_s0 y; omega) (Or.inl ⟨rfl, by omega⟩) (by decide) h (Or.inl ⟨rfl, by decide⟩)
    obtain ⟨w, _, tR', tu⟩ := tell 2 X (by decide) hX hw
    rw [show r.1 991 ln = nI X from r1, C'.2.2.2.2.1, show f_X13_find 970 0 (nI (nt 2)) (nI X) r' = some w from tR'.1, l2_bs, c92]
    exact rl_find (F := fun y => k_X13_checkLine_442 (nI ln) (nI f) y) tu L (fun r2 g => fin1 (by decide) r2 (fun a b => (hT a b).trans (by rw [lu_4])) g)
  · -- CONNECT
    rw [dp_0 hl4 K30 V10 e8 e0 e1 hc (by omega)]
    unfold k_X13_checkLine_76
    rw [if_pos (l2_ix (show ln < 401 by omega) (by decide)), nI_clamp (n := ln) (by omega), e8, if_neg (show ¬ nI 16 = (1 : Int32) by decide), if_neg (show ¬ nI 16 = (2 : Int32) by decide), if_pos rfl, if_neg (show ¬ nI 16 = (14 : Int32) by decide), if_pos (show nI 16 = (16 : Int32) from rfl), c91]
    obtain ⟨X, hX, hw, r1, hT⟩ := rD_one (side := 0) Q F (by decide) (fun so y => by have := sl_s0 y; omega) (Or.inl ⟨rfl, by omega⟩) (by decide) h (Or.inl ⟨rfl, by decide⟩)
    obtain ⟨Y, hY, hw', r1', hT'⟩ := rD_one (side := 1) Q F (by decide) (fun so y => by have := sl_s1 y; omega) (Or.inr ⟨rfl, Or.inl ⟨rfl, rfl⟩⟩) (by decide) h' (Or.inl ⟨rfl, by decide⟩)
    have cw : ∀ {r2}, l2_fr ck_W r r2 → ∀ j, j < nt 2 → ∃ v0 v1 v2 A B D, cw_R s r2 j v0 v1 v2 A B D := fun {r2} fr j hj => by
      obtain ⟨v0, v1, v2, A, B, D, hcw⟩ := Q.1.2.2.2 j hj
      exact ⟨v0, v1, v2, A, B, D, hcw.fr (Wc := fun _ _ => False) l2_fr.rf fr (fun _ _ _ _ => id) (fun b j b1 b2 _ y => by unfold ck_W at y; omega)⟩
    obtain ⟨w, w1, w2, w3⟩ := pt_is Q.1.n8 C'.2.2.2.2.1 (cw f0) hX
    rw [show r.1 991 ln = nI X from r1, w1, l2_bs, c92]
    refine rl_isp (F := fun y => k_X13_checkLine_277 (nI ln) (nI f) y) (U := ¬ pt_R (nt 2) r X) w2 (w3.trans ((ck_pt f0).trans (Classical.not_not).symm)) L (fun r2 g => ?_)
    have f2 : l2_fr ck_W r r2 := f0.trans (g.1.mono (fun b j y => lg_ck y))
    refine rl_port2 hl4 (pt_is Q.1.n8 (C.fr f2).2.2.2.2.1 (cw f2) hY) ((ck_c f2 (by decide) (by decide)).trans r1') ((ck_c f2 (by decide) (by decide)) : r2.1 994 ln = r.1 994 ln) g.2 (fun r3 g3 => ?_)
    rw [r442_none hl4 (Or.inr (Or.inr ((ck_c (f2.trans (g3.1.mono (fun b j y => lg_ck y))) (by decide) (by decide)).trans z10)))]
    refine ⟨r3, rfl, lnP.cat (T0 := fun a b => b = r.1 992 ln ∧ a = 4 ∧ ¬ pt_R (nt 2) r X) (T1 := fun a b => b = r.1 994 ln ∧ a = 4 ∧ ¬ pt_R (nt 2) r2 Y) g.1 ⟨g3.1, g3.2⟩ (fun a b => rR_iff.trans (or_congr ((hT a b).trans (by rw [lu_8])) ((hT' a b).trans ?_)))⟩
    rw [lu_8, ck_pt f2]
  · -- ports
    obtain ⟨uq, ok, k1, k2, k3⟩ := sl_pt hKV
    rw [dp_0 hl4 K30 V10 e8 e0 e1 hc k1, dp_n hl4 K30 V10 e8 e0 k2, if_pos k3]
    obtain ⟨X, hX, hw, r1, hT⟩ := rD_one (side := 0) Q F (by decide) uq ok (by decide) h (Or.inl ⟨rfl, by decide⟩)
    exact rl_port hl4 (Q.1.rp f0 hk hX) (c91.trans r1) c92 L (fun r2 g => fin1 k2.2.2.2 r2 (fun a b => (hT a b).trans (by rw [lu_5 (kx 5), ck_no f0 (by decide) (by decide)])) g)
  · -- timers
    obtain ⟨uq, ok, k1, k2, k3, k4⟩ := sl_tm hKV
    rw [dp_0 hl4 K30 V10 e8 e0 e1 hc k1, dp_n hl4 K30 V10 e8 e0 k2, if_neg k3, if_pos k4]
    obtain ⟨X, hX, hw, r1, hT⟩ := rD_one (side := 0) Q F (by decide) uq ok (by decide) h (Or.inl ⟨rfl, by decide⟩)
    exact rl_timer hl4 (Q.1.rt f0 hk hX) (c91.trans r1) c92 L (fun r2 g => fin1 k2.2.2.2 r2 (fun a b => (hT a b).trans (by rw [lu_6 (kx 6), ck_no f0 (by decide) (by decide)])) g)
  · -- the rest
    obtain ⟨uq, k1, k2, k3, k4⟩ := sl_rest hKV
    rw [dp_0 hl4 K30 V10 e8 e0 e1 hc k1, dp_n hl4 K30 V10 e8 e0 k2, if_neg k3, if_neg k4]
    exact fin0 k2.2.2.2 (fun a b => rD_none F uq)
end
