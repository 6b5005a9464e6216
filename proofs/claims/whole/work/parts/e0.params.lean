/-! Level 2: a function as an item: its parameters. -/
section
variable {P : pc_S} {nt : Nat → Nat} {f n n2 Y a g f2 p0 u : Nat} {L : Nat → Nat} {ka : Int32} {k : Nat → Nat} {c0 r0 c r c1 r1 c' r' : t_S}
/-- ahead of a function's body -/
def us (P : pc_S) (nt : Nat → Nat) (f n2 Y n : Nat) (L : Nat → Nat) (ka : Int32) (a g : Nat) (k : Nat → Nat) (u : Nat) (c r : t_S) : Prop := mp P nt u (k 1) (k 2) a g (k 3) (k 4) (k 5) (k 6) (k 7) (k 8) (k 9) (nI f) (-1) ka c r ∧ fw_R c r f n L ∧ fh_R c r f n2 Y ka ∧ f < 40
def uWc (f b j : Nat) : Prop := la_W b j ∨ ((b = 439 ∨ b = 440) ∧ j = f) ∨ ((b = 442 ∨ b = 443) ∧ 8 * f ≤ j ∧ j < 8 * f + 8)
def uWr (f b j : Nat) : Prop := nk_W b j ∨ (b = 984 ∧ 8 * f ≤ j ∧ j < 8 * f + 8) ∨ ((b = 985 ∨ b = 986) ∧ j = f)
theorem uW_mo (h : l2_fr (uWc f) c c') : l2_fr mo_Wc c c' := h.mono (fun b j y => by unfold uWc la_W at y; unfold mo_Wc; omega)
theorem uW_mr (h : l2_fr (uWr f) r r') : l2_fr mo_Wr r r' := h.mono (fun b j y => by unfold uWr nk_W rn_W nm_W at y; unfold mo_Wr; omega)
theorem us.z (S : us P nt f n2 Y n L ka a g k u c r) (h : lc_F c' f2 p0) (fc : l2_fr (uWc f) c c') (g0 : l2_fr mo_Wc c0 c) : zS f f2 p0 c0 c' := by
  obtain ⟨M, _⟩ := S
  have cl := M.1.cle
  refine ⟨⟨M.mF h (fc 334 2 (by unfold uWc la_W; omega)).1 (fc 845 9 (by unfold uWc la_W; omega)).1 (fc 845 7 (by unfold uWc la_W; omega)).1, g0.trans (uW_mo fc)⟩, ?_, ?_⟩
  · exact ⟨k 6, by have := M.2.2.2.2.2.2.2.1; omega, by rw [(fc 846 6 (by unfold uWc la_W; omega)).1]; exact M.2.2.1.2.2.2.2.2.1⟩
  · rw [(fc 845 12 (by unfold uWc la_W; omega)).1]
    exact M.2.2.2.1.2.2.1
theorem us.mk {n' u' : Nat} {L' : Nat → Nat} (S : us P nt f n2 Y n L ka a g k u c r) (hu : u ≤ u') (J : pj P u' 0 0 (k 1) (k 2) c' r') (fc : l2_fr (uWc f) c c') (fr : l2_fr (uWr f) r r') (hw : fw_R c' r' f n' L') : us P nt f n2 Y n' L' ka a g k u' c' r' := by
  obtain ⟨M, _, hh, hf⟩ := S
  obtain ⟨_, _, ⟨k1, k2, k3, k4, k5, k6, k7⟩, ⟨v1, v2, v3, v4, v5, v6, v7⟩, ⟨s1, s2, s3⟩, ⟨b1, b2, b3, b4, b5, b6, b7, b8, b9⟩⟩ := id M
  have cm := pc_c_mono P u u' hu
  refine ⟨M.up hu (Nat.le_refl _) J fc fr (fun b j y => by unfold uWc la_W; omega) (fun b j y => by unfold uWr nk_W rn_W nm_W; omega) ⟨?_, Nat.le_trans b3 cm⟩ ⟨?_, b5⟩ ⟨?_, ?_, b9⟩ ⟨?_, ?_, ?_⟩, hw, hh.fr fc fr (fun b j _ _ => by unfold uWc la_W; omega) (fun b j y => by unfold uWr nk_W rn_W nm_W; omega), hf⟩
  · rw [(fc 846 6 (by unfold uWc la_W; omega)).1]; exact k6
  · rw [(fc 334 2 (by unfold uWc la_W; omega)).1]; exact k4
  · rw [(fc 428 18 (by unfold uWc la_W; omega)).1]; exact k7
  · rw [(fr 950 81 (by unfold uWr nk_W rn_W nm_W; omega)).1]; exact s3
  · rw [(fc 845 12 (by unfold uWc la_W; omega)).1]; exact v3
  · rw [(fc 845 13 (by unfold uWc la_W; omega)).1]; exact v4
  · rw [(fc 845 14 (by unfold uWc la_W; omega)).1]; exact v5
/-- so many parameters read -/
def uI (P : pc_S) (nt : Nat → Nat) (f n2 Y : Nat) (ka : Int32) (a g : Nat) (k : Nat → Nat) (c0 r0 : t_S) (n u : Nat) (c r : t_S) : Prop := ∃ L, us P nt f n2 Y n L ka a g k u c r ∧ k 0 ≤ u ∧ c.1 439 f = nI n ∧ (∀ i, i < n → c.1 443 (8 * f + i) = -1) ∧ l2_fr (uWc f) c0 c ∧ l2_fr (uWr f) r0 r
def uO (P : pc_S) (nt : Nat → Nat) (f n2 Y : Nat) (ka : Int32) (a g : Nat) (k : Nat → Nat) (c0 r0 : t_S) (c r : t_S) : Prop := (∃ n u, uI P nt f n2 Y ka a g k c0 r0 n u c r ∧ r.1 985 f = nI n) ∨ ∃ f2 p0, zS f f2 p0 c0 c ∧ yR P f2 p0 r0 r
def uJ (P : pc_S) (nt : Nat → Nat) (f n2 Y : Nat) (ka : Int32) (a g : Nat) (k : Nat → Nat) (c0 r0 : t_S) (j : Nat) (x : Int32 × t_S) (y : Int32 × Int32 × t_S) : Prop := (∃ n u c r, n ≤ 8 ∧ j = 9 - n ∧ x = (nI n, c) ∧ y = (nI f, 1, r) ∧ uI P nt f n2 Y ka a g k c0 r0 n u c r) ∨ ∃ l1 x2 f2 p0 c r, j = 0 ∧ l1 ≤ 100 ∧ x = (nI l1, c) ∧ y = (nI f, x2, r) ∧ zS f f2 p0 c0 c ∧ yR P f2 p0 r0 r
noncomputable def uT (l1 : Int32) (s : t_S) : Option ((Int32 × t_S) ⊕ t_S) := (f_X2_take 44 s).bind (fun r4 => if r4.1 = 0 then ((some r4.2).map Sum.inr) else some (.inl (l1 + 1, r4.2)))
/-- the sums kept of a function's places: one more -/
noncomputable def uS (l1 : Int32) (s : t_S) : Option ((Int32 × t_S) ⊕ t_S) := if t_ix (s.1 845 12) 40 = true then t_let (t_setI s 439 ((s.1 845 12).toNatClampNeg) ((s.1 439 ((s.1 845 12).toNatClampNeg)) + 1)) (fun s1 => if t_ix (s1.1 845 12) 40 = true then t_let (t_setI s1 440 ((s1.1 845 12).toNatClampNeg) ((s1.1 440 ((s1.1 845 12).toNatClampNeg)) + 1)) (fun s2 => uT l1 s2) else none) else none
theorem uS_eq {n3 n4 : Nat} (l1 : Int32) (hf : f < 40) (e12 : c.1 845 12 = nI f) : uS l1 c = uT l1 (t_setI (t_setI c 439 f (c.1 439 f + 1)) 440 f (c.1 440 f + 1)) := by
  unfold uS
  have q12 : ∀ x, (t_setI c 439 f x).1 845 12 = nI f := fun x => by simp only [l2_gI, Nat.reduceEqDiff, reduceIte]; exact e12
  have q40 : ∀ x, (t_setI c 439 f x).1 440 f = c.1 440 f := fun x => by simp only [l2_gI, Nat.reduceEqDiff, reduceIte]
  rw [e12, if_pos (l2_ix hf (by decide)), nI_clamp (n := f) (by omega)]
  show (if t_ix ((t_setI c 439 f (c.1 439 f + 1)).1 845 12) 40 = true then _ else none) = _
  rw [q12, if_pos (l2_ix hf (by decide)), nI_clamp (n := f) (by omega), q40]
  rfl
theorem u_turn (I : uI P nt f n2 Y ka a g k c0 r0 n u c r) (h81 : r0.1 981 f ≠ 5) : t_h2 (k_X6_readParameters_2 (nI n) c) (k_X13_parameters_2 (nI f) 1 r) (h2_nx b_X6_readParameters_2 b_X13_parameters_2 (fun x y => ∃ j, j < 9 - n ∧ uJ P nt f n2 Y ka a g k c0 r0 j x y) (uO P nt f n2 Y ka a g k c0 r0)) := by
  obtain ⟨L, S, hu, h439, h443, fc, fr⟩ := I
  have hf := S.2.2.2
  have M := S.1
  have hw := S.2.1
  have n8 : n ≤ 8 := hw.1
  have V := M.2.2.2.1
  have e81 : ¬ r.1 981 f = 5 := by rw [(fr 981 f (by unfold uWr nk_W rn_W nm_W; omega)).1]; exact h81
  unfold k_X6_readParameters_2 k_X13_parameters_2 k_X13_parameters_32
  rw [if_neg (show ¬ (12002 : Int32) ≤ nI n from nI_ge (b := 12002) (by omega) (by decide)), if_neg (show ¬ (1 : Int32) = 0 by decide), if_pos M.1.f0.2, if_pos (l2_ix hf (by decide)), nI_clamp (n := f) (by omega), if_neg e81]
  refine h2_bb _ (fp_place M.1 hw S.2.2.1 hf V.2.2.1 V.2.2.2.2.1) (fun x r1 hx => ?_)
  obtain ⟨xv, c1⟩ := x
  show t_h2 (if (0 : Int32) ≤ xv then uS (nI n) c1 else ((some c1).map Sum.inr)) _ _
  rcases hx with ⟨e, n8', ⟨X, hX, X1, X8, X2, X3⟩, z443, z986, C, R, J⟩ | ⟨e, C, R, _, f2, p0, w3, w4⟩
  rotate_left
  · have C : l2_fr (fun b j => la_W b j ∨ ((b = 442 ∨ b = 443) ∧ j = 8 * f + n ∧ n < 8)) c c1 := C
    have w3 : lc_F c1 f2 p0 := w3
    have C' : l2_fr (uWc f) c c1 := C.mono (fun b j y => y.elim Or.inl (fun y => Or.inr (by omega)))
    have R' : l2_fr (uWr f) r r1 := R.mono (fun b j y => y.elim Or.inl (fun y => Or.inr (by omega)))
    have z1 : zS f f2 p0 c0 c1 := S.z w3 C' (uW_mo fc)
    have y1 : yR P f2 p0 r0 r1 := ⟨w4, (uW_mr fr).trans (uW_mr R')⟩
    have hy : ∃ x r3, (if f_X13_is 44 r1 = 0 then some (Sum.inl (nI f, f_X13_is 44 r1, r1)) else ((f_X13_next r1).bind (fun r3 => some (Sum.inl (nI f, f_X13_is 44 r1, r3)))) : Option ((Int32 × Int32 × t_S) ⊕ t_S)) = some (Sum.inl (nI f, x, r3)) ∧ yR P f2 p0 r0 r3 := by
      by_cases q : f_X13_is 44 r1 = 0
      · rw [if_pos q]
        exact ⟨_, _, rfl, y1⟩
      · obtain ⟨r3, e3, y3⟩ := y1.next
        rw [if_neg q, e3, l2_bs]
        exact ⟨_, _, rfl, y3⟩
    obtain ⟨x2, r3, e3, y3⟩ := hy
    rw [e3]
    have out : ∀ c2, zS f f2 p0 c0 c2 → t_h2 (some (Sum.inr c2)) (some (Sum.inl (nI f, x2, r3))) (h2_nx b_X6_readParameters_2 b_X13_parameters_2 (fun x y => ∃ j, j < 9 - n ∧ uJ P nt f n2 Y ka a g k c0 r0 j x y) (uO P nt f n2 Y ka a g k c0 r0)) := fun c2 z2 => h2_sm (fun N hN => l2_imp (y3.pgo hf x2 N hN) (fun r4 y4 => Or.inr ⟨f2, p0, z2, y4⟩))
    by_cases q : (0 : Int32) ≤ xv
    · rw [if_pos q, uS_eq (n3 := 0) (n4 := 0) _ hf z1.2.2]
      have z2 := (z1.set (b := 439) (j := f) (x := c1.1 439 f + 1) (by unfold mo_Wc; omega) (by omega)).set (b := 440) (j := f) (x := c1.1 440 f + 1) (by unfold mo_Wc; omega) (by omega)
      unfold uT
      rw [z2.1.take (by decide), l2_bs, if_pos rfl]
      exact out _ z2
    · rw [if_neg q]
      exact out _ z1
  have e : xv = nI n := e
  subst e
  have X2 : c1.1 442 (8 * f + n) = nI (66 + X) := X2
  have z443 : c1.1 443 (8 * f + n) = -1 := z443
  have C : l2_fr (fun b j => la_W b j ∨ ((b = 442 ∨ b = 443) ∧ j = 8 * f + n)) c c1 := C
  have J : pj P (u + 1) 0 0 (k 1) (k 2) c1 r1 := J
  have e12 : c1.1 845 12 = nI f := by rw [(C 845 12 (by unfold la_W; omega)).1]; exact V.2.2.1
  rw [if_pos (nI_pos' (by omega)), uS_eq (n3 := 0) (n4 := 0) _ hf e12, (C 439 f (by unfold la_W; omega)).1, h439, (C 440 f (by unfold la_W; omega)).1, hw.2.1, nI_1]
  have f2 : l2_fr (fun b j => (b = 439 ∨ b = 440) ∧ j = f) c1 (t_setI (t_setI c1 439 f (nI (n + 1))) 440 f (nI (n + 1))) := (l2_fr.set ⟨Or.inl rfl, rfl⟩).trans (l2_fr.set ⟨Or.inr rfl, rfl⟩)
  have v39 : (t_setI (t_setI c1 439 f (nI (n + 1))) 440 f (nI (n + 1))).1 439 f = nI (n + 1) := by simp only [l2_gI, Nat.reduceEqDiff, reduceIte]
  have v40 : (t_setI (t_setI c1 439 f (nI (n + 1))) 440 f (nI (n + 1))).1 440 f = nI (n + 1) := by simp only [l2_gI, reduceIte]
  generalize t_setI (t_setI c1 439 f (nI (n + 1))) 440 f (nI (n + 1)) = c2 at *
  have J2 : pj P (u + 1) 0 0 (k 1) (k 2) c2 r1 := J.fr f2 (l2_fr.rf (W := fun _ _ => False)) (fun j => by omega) (fun b i _ _ => by omega) (fun b i _ _ => by omega) (by omega) (fun j _ y => y) (fun b i _ _ y => y)
  have C2 : l2_fr (uWc f) c c2 := (C.mono (fun b j y => y.elim Or.inl (fun y => Or.inr (by omega)))).trans (f2.mono (fun b j y => Or.inr (by omega)))
  have R2 : l2_fr (uWr f) r r1 := R.mono (fun b j y => y.elim Or.inl (fun y => Or.inr (by omega)))
  have hw2 : fw_R c2 r1 f (n + 1) (va_up L n X) := by
    have q := hw.2.2.2
    refine ⟨by omega, v40, z986, rw_L.add (rw_L.fr (rw_L.fr q C R (fun i hi => by unfold la_W; omega) (fun i hi => by unfold nk_W rn_W nm_W; omega)) f2 (l2_fr.rf (W := fun _ _ => False)) (fun i hi => by omega) (fun i hi y => y)) hX ?_ X3⟩
    rw [(f2 442 _ (by omega)).1]
    exact X2
  have S2 := S.mk (Nat.le_succ u) J2 C2 R2 hw2
  have h443' : ∀ i, i < n + 1 → c2.1 443 (8 * f + i) = -1 := fun i hi => by
    rw [(f2 443 _ (by omega)).1]
    by_cases q : i = n
    · rw [q]; exact z443
    · rw [(C 443 _ (by unfold la_W; omega)).1]; exact h443 i (by omega)
  have FC := fc.trans C2
  have FR := fr.trans R2
  unfold uT
  rcases J2.is (x := 44) (by decide) with ⟨x1, x2⟩ | ⟨x1, x2⟩
  · have x2 : f_X13_is 44 r1 = 1 := x2
    rw [x2, if_neg (show ¬ (1 : Int32) = 0 by decide)]
    refine h2_bb _ (pj_took J2 (by decide) (x := 44) (by decide) x1) (fun y r3 hw3 => ?_)
    obtain ⟨y0, y1, y2, y3⟩ := hw3
    obtain ⟨yv, c3⟩ := y
    have y0 : yv = 1 := y0
    have y1 : l2_fr la_W c2 c3 := y1
    subst y0
    rw [if_neg (show ¬ (1 : Int32) = 0 by decide)]
    have C3 : l2_fr (uWc f) c2 c3 := y1.mono (fun b j y => Or.inl y)
    have R3 : l2_fr (uWr f) r1 r3 := y2.mono (fun b j y => Or.inl (Or.inl y))
    show t_h2 (some (Sum.inl (nI n + 1, c3))) _ _
    rw [nI_1]
    rcases y3 with J3 | ⟨f2', p0, y3, y4⟩
    · have hw3 : fw_R c3 r3 f (n + 1) (va_up L n X) := hw2.fr y1 y2 ⟨by unfold la_W; omega, fun i hi => by unfold la_W; omega⟩ ⟨by unfold rn_W; omega, fun i hi => by unfold rn_W; omega⟩
      refine h2_sm ⟨9 - (n + 1), by omega, Or.inl ⟨n + 1, u + 1 + 1, c3, r3, by omega, rfl, rfl, rfl, va_up L n X, S2.mk (Nat.le_succ _) J3 C3 R3 hw3, by omega, ?_, fun i hi => ?_, FC.trans C3, FR.trans R3⟩⟩
      · rw [(y1 439 f (by unfold la_W; omega)).1]; exact v39
      · rw [(y1 443 _ (by unfold la_W; omega)).1]; exact h443' i hi
    · exact h2_sm ⟨0, by omega, Or.inr ⟨n + 1, 1, f2', p0, c3, r3, rfl, by omega, rfl, rfl, S2.z y3 C3 (uW_mo FC), ⟨y4, (uW_mr FR).trans (uW_mr R3)⟩⟩⟩
  · have x2 : f_X13_is 44 r1 = 0 := x2
    rw [x2, if_pos rfl, pj_nottook (x := 44) x1, l2_bs, if_pos rfl]
    show t_h2 (some (Sum.inr c2)) (some (Sum.inl (nI f, 0, r1))) _
    refine h2_sm (fun N hN => ?_)
    obtain ⟨N', rfl⟩ : ∃ N', N = N' + 1 := ⟨N - 1, by omega⟩
    have f5 : l2_fr (fun b j => b = 985 ∧ j = f) r1 (t_setI r1 985 f (nI (n + 1))) := l2_fr.set ⟨rfl, rfl⟩
    have v5 : (t_setI r1 985 f (nI (n + 1))).1 985 f = nI (n + 1) := by simp only [l2_gI, reduceIte]
    refine ⟨t_setI r1 985 f (nI (n + 1)), l2_lpR ?_, ?_⟩
    · show k_X13_parameters_2 (nI f) 0 r1 = _
      unfold k_X13_parameters_2 k_X13_parameters_55
      rw [if_pos rfl, if_pos (l2_ix hf (by decide)), nI_clamp (n := f) (by omega), z986]
      rfl
    generalize t_setI r1 985 f (nI (n + 1)) = r4 at *
    have nfc : l2_fr (fun _ _ => False) c2 c2 := l2_fr.rf
    have J4 : pj P (u + 1) 0 0 (k 1) (k 2) c2 r4 := J2.fr nfc f5 (fun j y => y) (fun b i _ _ y => y) (fun b i _ _ y => y) (fun y => y) (fun j _ => by omega) (fun b i _ _ => by omega)
    have R4 : l2_fr (uWr f) r1 r4 := f5.mono (fun b j y => Or.inr (Or.inr ⟨Or.inl y.1, y.2⟩))
    exact Or.inl ⟨n + 1, u + 1, ⟨va_up L n X, S2.mk (Nat.le_refl _) J4 l2_fr.rf R4 (hw2.fr nfc f5 ⟨fun y => y, fun _ _ y => y⟩ ⟨by omega, fun i hi => by omega⟩), by omega, v39, h443', FC, FR.trans R4⟩, v5⟩
theorem u_params (I : uI P nt f n2 Y ka a g k c0 r0 0 u c r) (h81 : r0.1 981 f ≠ 5) : t_h2 (f_X6_readParameters c) (f_X13_parameters (nI f) r) (uO P nt f n2 Y ka a g k c0 r0) := by
  have hf : f < 40 := by
    obtain ⟨_, S, _⟩ := I
    exact S.2.2.2
  unfold f_X6_readParameters f_X13_parameters
  refine h2_lpN (fun j x y => uJ P nt f n2 Y ka a g k c0 r0 j x y) ?_ (k := 9) (by decide) (Or.inl ⟨0, u, c, r, by decide, rfl, rfl, rfl, I⟩)
  rintro j x y (⟨n, u, c, r, hn, rfl, rfl, rfl, I⟩ | ⟨l1, x2, f2, p0, c, r, rfl, hl, rfl, rfl, z, y⟩)
  · exact u_turn I h81
  · show t_h2 (k_X6_readParameters_2 (nI l1) c) (k_X13_parameters_2 (nI f) x2 r) _
    unfold k_X6_readParameters_2 k_X13_parameters_2
    obtain ⟨r3, e3, y3⟩ := y.u55 hf
    rw [if_neg (show ¬ (12002 : Int32) ≤ nI l1 from nI_ge (b := 12002) (by omega) (by decide)), z.1.place, l2_bs, if_neg (show ¬ (0 : Int32) ≤ -1 by decide), if_neg y.ne, e3, ite_self]
    exact h2_sm (Or.inr ⟨f2, p0, z, y3⟩)
end
