/-! Level 2: the reference's check of a line, whole. -/
/-- what stands besides: second words, vars' links, functions -/
def sX (nt : Nat → Nat) (s r : t_S) (l st : Nat) : Prop := (∀ ln : Nat, ln < st → 0 ≤ (r.1 993 ln).toInt → okK (r.1 988 ln) (r.1 1000 ln)) ∧ (∀ e : Nat, e < l → s.1 849 e = 14 → ∃ n : Nat, s.1 852 e = nI n ∧ n < 400 ∧ (s.1 (445 + n) 7).toInt < 0) ∧ ∀ g, g < nt 3 → (∃ x, x ≤ 2 ∧ s.1 437 g = nI x ∧ r.1 981 g = nI (3 + x)) ∧ s.1 439 g = r.1 985 g
def lnP (T : Nat → Int32 → Prop) (S : Nat → Int32 → Prop) (r r2 : t_S) : Prop := l2_fr lg_W r r2 ∧ ls_R (r2.1 950 88) (r2.1 950 89) (fun a b => S a b ∨ T a b)
section
variable {W X x y a t e p l sg m st n2 n3 ln f td so so0 K V pl na side e0 : Nat} {nt v : Nat → Nat} {E : en_S} {hm spot ex b kc u l2 q z : Int32} {s r r' r2 : t_S} {S T T0 T1 : Nat → Int32 → Prop} {U : Prop} {Q : t_S → Prop}
theorem lnP.none (L : ls_R (r.1 950 88) (r.1 950 89) S) (h : ∀ a b, ¬ T a b) : lnP T S r r := ⟨l2_fr.rf, L.iff (fun a b => ⟨Or.inl, fun y => y.elim id (fun z => absurd z (h a b))⟩)⟩
theorem lnP.one (h : rN_Q U q S r r2) (g : ∀ a b, T a b ↔ (b = q ∧ a = 4 ∧ U)) : lnP T S r r2 := ⟨h.1, h.2.iff (fun a b => or_congr Iff.rfl (g a b).symm)⟩
theorem lnP.cat {r1 : t_S} (h : l2_fr lg_W r r1) (g : lnP T1 (fun a b => S a b ∨ T0 a b) r1 r2) (k : ∀ a b, T a b ↔ T0 a b ∨ T1 a b) : lnP T S r r2 := ⟨h.trans g.1, g.2.iff (fun a b => ⟨fun y => y.elim (fun y => y.elim Or.inl (fun y => Or.inr ((k a b).mpr (Or.inl y)))) (fun y => Or.inr ((k a b).mpr (Or.inr y))), fun y => y.elim (fun y => Or.inl (Or.inl y)) (fun y => ((k a b).mp y).elim (fun y => Or.inl (Or.inr y)) Or.inr)⟩)⟩
theorem sl_s1 (y : sl_ok K V so 1) : (so = 8 ∧ K = 16) ∨ (so = 14 ∧ (K = 6 ∨ K = 14 ∨ ((K = 11 ∨ K = 20) ∧ V = 0))) := by
  unfold sl_ok at y
  rcases y with ⟨y, _⟩ | ⟨_, y⟩
  · exact absurd y (by decide)
  · exact y
theorem sl_s0 (y : sl_ok K V so 0) : (so = 1 ∧ K = 1) ∨ (so = 14 ∧ K = 2) ∨ (so = 9 ∧ K = 6) ∨ (so = 11 ∧ K = 15) ∨ (so = 10 ∧ (K = 18 ∨ K = 20 ∧ V = 3)) ∨ (so = 4 ∧ K = 14) ∨ (so = 8 ∧ K = 16) ∨ (so = 5 ∧ (K = 9 ∨ (K = 11 ∨ K = 20) ∧ V = 0)) ∨ (so = 6 ∧ (K = 12 ∨ K = 13 ∨ (K = 11 ∨ K = 20) ∧ V = 1)) := by
  unfold sl_ok at y
  rcases y with ⟨_, y⟩ | ⟨y, _⟩
  · exact y
  · exact absurd y (by decide)
theorem sv_0 (h : V < 10) : (sl_v V = (0 : Int32) ↔ V = 0) ∧ (sl_v V = (1 : Int32) ↔ V = 1) ∧ (sl_v V = (3 : Int32) ↔ V = 3) := by
  have : ∀ a, a < 10 → (sl_v a = (0 : Int32) ↔ a = 0) ∧ (sl_v a = (1 : Int32) ↔ a = 1) ∧ (sl_v a = (3 : Int32) ↔ a = 3) := by decide
  exact this V h
theorem nK (hK : K < 30) (j : Nat) (hj : j < 30) (h : K ≠ j) : ¬ nI K = nI j := fun y => h ((nI_eq (by omega) (by omega)).mp y)
theorem dp_0 (hl : ln < 400) (hK : K < 30) (hV : V < 10) (e8 : r.1 988 ln = nI K) (e0 : r.1 1000 ln = sl_v V) (e1 : r.1 1001 ln = nI f) (hc : f_X13_componentOf (2000 + nI f) r = some kc) (n : K ≠ 6 ∧ K ≠ 15 ∧ K ≠ 18 ∧ ¬ (K = 20 ∧ V = 3)) : f_X13_checkLine (nI ln) r = k_X13_checkLine_76 (nI ln) (nI f) kc 0 r := by
  unfold f_X13_checkLine
  rw [if_pos (l2_ix (show ln < 401 by omega) (by decide)), nI_clamp (n := ln) (by omega), e1, hc, l2_bs, e8, if_neg (show ¬ nI K = (6 : Int32) from nK hK 6 (by decide) n.1), if_neg (show ¬ nI K = (18 : Int32) from nK hK 18 (by decide) n.2.2.1), if_neg (show ¬ nI K = (15 : Int32) from nK hK 15 (by decide) n.2.1)]
  by_cases c : K = 20
  · rw [if_pos (show nI K = (20 : Int32) by rw [c]; rfl), e0, if_neg (fun y => n.2.2.2 ⟨c, (sv_0 hV).2.2.mp y⟩)]
    rfl
  · rw [if_neg (show ¬ nI K = (20 : Int32) from nK hK 20 (by decide) c)]
    rfl
theorem dp_1 (hl : ln < 400) (hK : K < 30) (hV : V < 10) (e8 : r.1 988 ln = nI K) (e0 : r.1 1000 ln = sl_v V) (e1 : r.1 1001 ln = nI f) (hc : f_X13_componentOf (2000 + nI f) r = some kc) (n : K = 6 ∨ K = 15 ∨ K = 18 ∨ (K = 20 ∧ V = 3)) : f_X13_checkLine (nI ln) r = (f_X13_checkCall (nI ln) kc r).bind (fun r6 => k_X13_checkLine_442 (nI ln) (nI f) r6) := by
  have g : k_X13_checkLine_71 (nI ln) (nI f) kc r = (f_X13_checkCall (nI ln) kc r).bind (fun r6 => k_X13_checkLine_442 (nI ln) (nI f) r6) := by
    unfold k_X13_checkLine_71 k_X13_checkLine_76
    rw [if_pos (l2_ix (show ln < 401 by omega) (by decide)), nI_clamp (n := ln) (by omega), e8, if_neg (show ¬ nI K = (1 : Int32) from nK hK 1 (by decide) (by omega)), if_neg (show ¬ nI K = (2 : Int32) from nK hK 2 (by decide) (by omega)), if_neg (show ¬ (1 : Int32) = 0 by decide)]
  unfold f_X13_checkLine
  rw [if_pos (l2_ix (show ln < 401 by omega) (by decide)), nI_clamp (n := ln) (by omega), e1, hc, l2_bs, e8, g]
  rcases n with rfl | rfl | rfl | ⟨rfl, rfl⟩
  · rw [if_pos (show nI 6 = (6 : Int32) from rfl)]
  · rw [if_neg (show ¬ nI 15 = (6 : Int32) from nK hK 6 (by decide) (by decide)), if_neg (show ¬ nI 15 = (18 : Int32) from nK hK 18 (by decide) (by decide)), if_pos (show nI 15 = (15 : Int32) from rfl)]
  · rw [if_neg (show ¬ nI 18 = (6 : Int32) from nK hK 6 (by decide) (by decide)), if_pos (show nI 18 = (18 : Int32) from rfl)]
  · rw [if_neg (show ¬ nI 20 = (6 : Int32) from nK hK 6 (by decide) (by decide)), if_neg (show ¬ nI 20 = (18 : Int32) from nK hK 18 (by decide) (by decide)), if_neg (show ¬ nI 20 = (15 : Int32) from nK hK 15 (by decide) (by decide)), if_pos (show nI 20 = (20 : Int32) from rfl), e0, if_pos ((sv_0 hV).2.2.mpr rfl)]
theorem dp_n (hl : ln < 400) (hK : K < 30) (hV : V < 10) (e8 : r.1 988 ln = nI K) (e0 : r.1 1000 ln = sl_v V) (n : K ≠ 1 ∧ K ≠ 2 ∧ K ≠ 14 ∧ K ≠ 16) : k_X13_checkLine_76 (nI ln) l2 kc 0 r = if K = 9 ∨ V = 0 then k_X13_checkLine_324 (nI ln) l2 kc r else if K = 12 ∨ K = 13 ∨ V = 1 then k_X13_checkLine_401 (nI ln) l2 kc r else k_X13_checkLine_442 (nI ln) l2 r := by
  unfold k_X13_checkLine_76
  rw [if_pos (l2_ix (show ln < 401 by omega) (by decide)), nI_clamp (n := ln) (by omega), e8, e0, if_neg (show ¬ nI K = (1 : Int32) from nK hK 1 (by decide) n.1), if_neg (show ¬ nI K = (2 : Int32) from nK hK 2 (by decide) n.2.1), if_pos rfl, if_neg (show ¬ nI K = (14 : Int32) from nK hK 14 (by decide) n.2.2.1), if_neg (show ¬ nI K = (16 : Int32) from nK hK 16 (by decide) n.2.2.2)]
  by_cases c9 : K = 9
  · rw [if_pos (show nI K = (9 : Int32) by rw [c9]; rfl), if_pos (Or.inl c9)]
  rw [if_neg (show ¬ nI K = (9 : Int32) from nK hK 9 (by decide) c9)]
  by_cases c0 : V = 0
  · rw [if_pos ((sv_0 hV).1.mpr c0), if_pos (Or.inr c0)]
  rw [if_neg (fun y => c0 ((sv_0 hV).1.mp y)), if_neg (show ¬ (K = 9 ∨ V = 0) by omega)]
  by_cases c12 : K = 12
  · rw [if_pos (show nI K = (12 : Int32) by rw [c12]; rfl), if_pos (Or.inl c12)]
  rw [if_neg (show ¬ nI K = (12 : Int32) from nK hK 12 (by decide) c12)]
  by_cases c13 : K = 13
  · rw [if_pos (show nI K = (13 : Int32) by rw [c13]; rfl), if_pos (Or.inr (Or.inl c13))]
  rw [if_neg (show ¬ nI K = (13 : Int32) from nK hK 13 (by decide) c13)]
  by_cases c1 : V = 1
  · rw [if_pos ((sv_0 hV).2.1.mpr c1), if_pos (Or.inr (Or.inr c1))]
  · rw [if_neg (fun y => c1 ((sv_0 hV).2.1.mp y)), if_neg (show ¬ (K = 12 ∨ K = 13 ∨ V = 1) by omega)]
/-- a var: looked up from its line; its fault -/
theorem vr_ck (Q : sQ W nt a t e p l sg m st s r) (C : sK nt m st r) (G : sX nt s r l st) (F : lnF r ln K V f) (hE : mE (nt 2) (nt 3) r (E_f f td v)) (uq : ∀ so, sl_ok K V so side → so = 14) (ok : sl_ok K V 14 side) (hl : ln < 400) (h : vr_L v s r f td ln l side) (f0 : l2_fr ck_W r r') : ∃ X z, X < 7934 ∧ r.1 (991 + 2 * side) ln = nI X ∧ f_X13_varOf (nI X) (2000 + nI f) (nI td) r' = some z ∧ ∃ U : Prop, (0 ≤ z ↔ ¬ U) ∧ ∀ a b, rD nt s r m l ln side a b ↔ (b = r.1 (992 + 2 * side) ln ∧ a = 4 ∧ U) := by
  obtain ⟨X, hX, r1, h⟩ := h
  have f40 : f < 40 := F.1.2.2
  have f3 : f < nt 3 := E_f_lt (f' := 0) hE f40
  obtain ⟨z, z1, z2, z3⟩ := vo_E Q.1 f0 C hE hX
  have z1 : f_X13_varOf (nI X) (2000 + nI f) (nI td) r' = some z := by
    rw [show (2000 : Int32) + nI f = nI (2000 + f) from nI_add 2000 f]
    exact z1
  rcases h with ⟨i, i1, i2, i3⟩ | ⟨i1, i2, i3⟩
  · have z0 : 0 ≤ z := z2 (show v X ≠ 0 by omega)
    refine ⟨X, z, hX, r1, z1, False, ⟨fun _ => id, fun _ => z0⟩, fun a b => ⟨fun ⟨y, hy, h, _⟩ => ?_, fun y => y.2.2.elim⟩⟩
    obtain ⟨so, X', pl', spot', ex', x3, x8, x9, x10, x11, x12, x13, x14⟩ := h.get F
    have es := uq so x10
    subst es
    obtain ⟨n, n1, n2, n3⟩ := G.2.1 y hy x11.1
    have e1 : spot' = nI ln := x14.elim (fun q => q.1) (fun q => absurd q.1 (by decide))
    have e2 : n = ln := (nI_eq (by omega) (by omega)).mp (n1.symm.trans (x11.2.2.2.2.1.trans e1))
    subst e2
    have td8 := (mE.cx hE).2
    rw [i3, nI_toInt (by have : td ≤ 8 := td8; omega)] at n3
    omega
  · obtain ⟨kc, hk, z4⟩ := z3 i1
    have hk14 : kx_R nt s 14 (nI f) kc := by
      rcases hk with y | ⟨k, k1, k2, k3, k4⟩ | y
      · exact Or.inl y
      · exact Or.inr (Or.inl ⟨k, k1, k2, k3, k4.trans (by rw [if_neg (by decide), if_neg (by decide)])⟩)
      · exact Or.inr (Or.inr y)
    obtain ⟨X', hX', _, r1', h⟩ := rD_one Q F (by decide) uq ok (by decide) i3 (Or.inl ⟨rfl, by decide⟩)
    have eX : X' = X := (nI_eq (by omega) (by omega)).mp (r1'.symm.trans r1)
    subst eX
    exact ⟨X', z, hX, r1, z1, no_R 975 979 8 r kc X', z4, fun a b => (h a b).trans (by rw [lu_14 hk14])⟩
/-- a line's second word -/
theorem ln_w2 (Q : sQ W nt a t e p l sg m st s r) (C : sK nt m st r) (G : sX nt s r l st) (F : lnF r ln K V f) (e2 : r.1 1002 ln = nI td) (hE : mE (nt 2) (nt 3) r (E_f f td v)) (hl : ln < st) (K16 : K ≠ 16) (hi : (K = 6 ∨ K = 14 ∨ ((K = 11 ∨ K = 20) ∧ V = 0)) → in_R v s r f td ln l) (hv : V = 0 → K = 11 ∨ K = 20) (f0 : l2_fr ck_W r r') (L : ls_R (r'.1 950 88) (r'.1 950 89) S) : t_hk (k_X13_checkLine_442 (nI ln) (nI f) r') (lnP (rD nt s r m l ln 1) S r') := by
  obtain ⟨⟨hK, hV, f40⟩, g8, g0, g1⟩ := id F
  have st4 : st ≤ 400 := Q.2.2.2.2.2.2.1.2.2.2.2.2.2.2.2.2.2
  have hl4 : ln < 400 := by omega
  have c93 : r'.1 993 ln = r.1 993 ln := ck_c f0 (by decide) (by decide)
  have c94 : r'.1 994 ln = r.1 994 ln := ck_c f0 (by decide) (by decide)
  have c88 : r'.1 988 ln = nI K := (ck_c f0 (by decide) (by decide)).trans g8
  have c02 : r'.1 1002 ln = nI td := (ck_c f0 (by decide) (by decide)).trans e2
  by_cases c1 : K = 1
  · rw [r442_none hl4 (Or.inr (Or.inl (by rw [c88, c1]; rfl)))]
    exact ⟨r', rfl, lnP.none L (fun a b => rD_none F (fun so y => (sl_s1 y).elim (fun q => K16 q.2) (fun q => by have := q.2; omega)))⟩
  by_cases c : K = 6 ∨ K = 14 ∨ ((K = 11 ∨ K = 20) ∧ V = 0)
  · have h := hi c
    rcases h with ⟨_, h⟩ | h
    · rw [r442_none hl4 (Or.inl (by rw [c93, h]; decide))]
      exact ⟨r', rfl, lnP.none L (fun a b => rD_neg F h)⟩
    · obtain ⟨X, z, hX, r1, hz, U, hU, hD⟩ := vr_ck (side := 1) Q C G F hE (fun so y => (sl_s1 y).elim (fun q => absurd q.2 K16) (fun q => q.1)) (Or.inr ⟨rfl, Or.inr ⟨rfl, c⟩⟩) hl4 h f0
      obtain ⟨r2, e, g⟩ := r442_var (l2 := nI f) hl4 hX (c93.trans r1) c88 ⟨hK, c1, K16⟩ (by rw [c02]; exact hz) hU c94 L
      exact ⟨r2, e, lnP.one g hD⟩
  · have n3 : r'.1 993 ln < 0 := by
      rw [c93]
      refine Classical.byContradiction (fun y => ?_)
      have y0 : 0 ≤ (r.1 993 ln).toInt := Int32.le_iff_toInt_le.mp (Int32.not_lt.mp y)
      rcases G.1 ln hl y0 with q | q | q | q | q
      · exact nK hK 1 (by decide) c1 (g8.symm.trans q)
      · exact nK hK 6 (by decide) (by omega) (g8.symm.trans q)
      · exact nK hK 14 (by decide) (by omega) (g8.symm.trans q)
      · exact nK hK 16 (by decide) K16 (g8.symm.trans q)
      · have q0 := (sv_0 hV).1.mp (g0.symm.trans q)
        have := hv q0
        omega
    rw [r442_none hl4 (Or.inl n3)]
    exact ⟨r', rfl, lnP.none L (fun a b => rD_none F (fun so y => (sl_s1 y).elim (fun q => K16 q.2) (fun q => c q.2)))⟩
end
