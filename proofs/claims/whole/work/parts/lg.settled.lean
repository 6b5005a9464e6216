/-! Level 2: told templates are settled by the class, whole. -/
/-- names of told templates, and depths -/
structure TD (TN : Nat → Nat → Prop) (cs r0 : t_S) (n1 : Nat) (T0 T1 D : Nat → Nat) : Prop where
  nm : ∀ t m, TN t m → cs.1 354 t ≠ 17 ∧ (cs.1 354 t = 7 → ∃ v : Nat, v < n1 ∧ cs.1 357 t = nI v)
  d1 : ∀ u, u < n1 → 1 ≤ D u ∧ D u ≤ 60
  dp : ∀ u t v l : Nat, u < n1 → T0 u ≤ t → t < T1 u → cs.1 354 t = 7 → cs.1 357 t = nI v → v < n1 → 1 ≤ l → l ≤ 40 → cs.1 358 t = nI l → l + D v ≤ D u
/-- what settling may write -/
def sbW (cs : t_S) (n1 : Nat) (T0 T1 : Nat → Nat) (P0 b j : Nat) : Prop := saW cs n1 T0 T1 P0 b j ∨ (364 ≤ b ∧ b < 424 ∧ j = 5)
section
variable {WN AN TN SN : Nat → Nat → Prop} {cs r0 s s' : t_S} {RM : t_S → Prop} {wS : Nat → Nat} {p1 s1 P0 cnt n1 i τ pp b u : Nat} {F T0 T1 A0 A1 M0 M1 N D : Nat → Nat}
theorem ToldT.ko (H : StH WN cs r0 RM wS p1 s1 P0 cnt) (T : ToldT WN AN TN SN cs r0 wS p1 s1 P0 cnt n1 F T0 T1 A0 A1 M0 M1 N) (hu : u < n1) (h0 : A0 u ≤ i) (h1 : i < A1 u) : tkO TN SN cs r0 (T0 u) (T1 u) (M0 u) (M1 u) i :=
  XR.tko (l := 1) H.wo _ _ _ _ _ _ _ _ _ _ (T.tr u hu) (Or.inl ⟨rfl, by decide⟩) (Nat.le_refl _) (fun k x1 x2 y => (T.tm u hu).2.2 k x1 x2 ⟨61, y, by omega⟩) i h0 h1
/-- a name's node stays as it is -/
theorem TD.at (Q : TD TN cs r0 n1 T0 T1 D) (f : l2_fr (sbW cs n1 T0 T1 P0) cs s) {t m : Nat} (h : TN t m) : s.1 354 t = cs.1 354 t ∧ s.1 357 t = cs.1 357 t := by
  have e := (Q.nm t m h).1
  have w : ∀ x, x = 354 ∨ x = 357 → ¬ sbW cs n1 T0 T1 P0 x t := fun x hx y => by
    unfold sbW saW eBc at y
    rcases y with (y | y | y | y) | y
    · omega
    · omega
    · omega
    · exact e y.2.2
    · omega
  exact ⟨(f 354 t (w 354 (Or.inl rfl))).1, (f 357 t (w 357 (Or.inr rfl))).1⟩
theorem sbW.op (f : l2_fr (sbW cs n1 T0 T1 P0) cs s) (j : Nat) : s.1 335 j = cs.1 335 j ∧ s.1 336 j = cs.1 336 j := ⟨(f 335 j (by unfold sbW saW eBc; omega)).1, (f 336 j (by unfold sbW saW eBc; omega)).1⟩
theorem ToldT.fwk (H : StH WN cs r0 RM wS p1 s1 P0 cnt) (T : ToldT WN AN TN SN cs r0 wS p1 s1 P0 cnt n1 F T0 T1 A0 A1 M0 M1 N) (Q : TD TN cs r0 n1 T0 T1 D) (f : l2_fr (sbW cs n1 T0 T1 P0) cs s) (hu : u < n1) (h0 : A0 u ≤ i) (h1 : i < A1 u) : fwK s n1 i := by
  obtain ⟨o1, o2⟩ := sbW.op f i
  have t6 := (T.tm u hu).1
  unfold fwK
  rw [o1, o2]
  rcases T.ko H hu h0 h1 with ⟨o, x1, x2, x3⟩ | ⟨t, m, x1, x2, x3, x4, x5⟩ | ⟨t, m, x1, x2, x3, x4, x5, x6⟩
  · refine ⟨fun y => ?_, fun y => ?_⟩
    · have := (nI_eq (a := o) (b := 0) (by omega) (by decide)).mp (x3.symm.trans y)
      omega
    · rcases y with y | y
      · have := (nI_eq (a := o) (b := 34) (by omega) (by decide)).mp (x3.symm.trans y)
        omega
      · have := (nI_eq (a := o) (b := 35) (by omega) (by decide)).mp (x3.symm.trans y)
        omega
  · refine ⟨by rw [x5.1]; decide, fun _ => ⟨t, by omega, x5.2, fun y => ?_⟩⟩
    rw [x5.1] at y
    exact absurd y (by decide)
  · refine ⟨by rw [x5.1]; decide, fun _ => ⟨t, by omega, x5.2, fun _ y => ?_⟩⟩
    obtain ⟨e1, e2⟩ := Q.at f x3
    rw [e1] at y
    rw [e2]
    exact (Q.nm t m x3).2 y
/-- only templates of lower depth count -/
theorem ToldT.dw (H : StH WN cs r0 RM wS p1 s1 P0 cnt) (T : ToldT WN AN TN SN cs r0 wS p1 s1 P0 cnt n1 F T0 T1 A0 A1 M0 M1 N) (Q : TD TN cs r0 n1 T0 T1 D) (f : l2_fr (sbW cs n1 T0 T1 P0) cs s) : dW n1 D (FW s A0 A1) := by
  intro u hu
  refine ⟨Q.d1 u hu, fun W W' hW => ?_⟩
  obtain ⟨y1, y2, y3, y4⟩ := (T.tr u hu).at
  refine fwf.cg (fun i i0 i1 => fwo.cg (T.fwk H Q f hu i0 (by omega)) (fun t v t6 e36 e35 e54 e57 vn => hW v vn ?_) T.n60)
  obtain ⟨o1, o2⟩ := sbW.op f i
  have tt := (T.tm u hu).1
  rw [o1] at e35
  rw [o2] at e36
  rcases T.ko H hu i0 (show i < A1 u by omega) with ⟨o, x1, x2, x3⟩ | ⟨t', m, x1, x2, x3, x4, x5⟩ | ⟨t', m, x1, x2, x3, x4, x5, l, l1, l2, l3⟩
  · have := (nI_eq (a := o) (b := 35) (by omega) (by decide)).mp (x3.symm.trans e35)
    omega
  · rw [x5.1] at e35
    exact absurd e35 (by decide)
  · have et := (nI_eq (a := t') (b := t) (by omega) (by omega)).mp (x5.2.symm.trans e36)
    subst et
    obtain ⟨e1, e2⟩ := Q.at f x3
    have := Q.dp u t' v l hu x1.1 x1.2 (e1.symm.trans e54) (e2.symm.trans e57) vn l1 l2 l3
    omega
theorem FW.fr (f : l2_fr (fun b j => 364 ≤ b ∧ b < 424 ∧ j = 5) s s') : FW s' A0 A1 = FW s A0 A1 := by
  have e : ∀ W, fwo s' W = fwo s W := fun W => funext (fun i => by
    unfold fwo
    rw [(f 335 i (by omega)).1, (f 336 i (by omega)).1, (f 362 _ (by omega)).2.1, (f 354 _ (by omega)).1, (f 357 _ (by omega)).1])
  have e2 : ∀ W d a, fwf s' W a d = fwf s W a d := fun W d => by
    induction d with
    | zero => intro a; rfl
    | succ d ih =>
      intro a
      unfold fwf
      rw [ih, e]
  funext W u
  exact e2 W _ _
/-- settled, whole: every = ( ) holds what it comes to; every template's ERROR is what its operations say -/
theorem settled (H : StH WN cs r0 RM wS p1 s1 P0 cnt) (T : ToldT WN AN TN SN cs r0 wS p1 s1 P0 cnt n1 F T0 T1 A0 A1 M0 M1 N) (Q : TD TN cs r0 n1 T0 T1 D) (h4 : cs.1 334 4 = nI P0) : t_hk (f_X10_settle cs) (fun s => l2_fr (sbW cs n1 T0 T1 P0) cs s ∧ s.1 334 14 = 0 ∧ ∃ pp W, (pp ≤ 26000 ∧ s.1 334 4 = nI pp ∧ P0 ≤ pp) ∧ (∀ u, u < n1 → XR WN AN TN (FS RM r0 (M1 u) pp s) s r0 p1 s1 (F u) 1 1 15 (A0 u) (A1 u) (T0 u) (T1 u) (M0 u) (M1 u) (N u)) ∧ wtD n1 W s ∧ ∀ u, u < n1 → FW s A0 A1 W u = W u) := by
  have n60 := T.n60
  have nN := l2_N
  obtain ⟨s', tn, τ, pp, S, L2, L3, L4, L5⟩ := sal_all H T (LI.first H T h4) n1 (Nat.le_refl _)
  have bud := T.bud
  have S0 := S 0
  have f0 : l2_fr (fun x j => (x = 334 ∧ (j = 7 ∨ j = 12 ∨ j = 13)) ∨ (x = 339 ∧ j = 0)) s' (anew 0 s') := anew_f
  have e11 : s'.1 353 11 = nI n1 := by rw [(L5 353 11 (by unfold saW eBc; omega)).1]; exact T.e11
  have e4 : s'.1 334 4 = nI pp := ((f0 334 4 (by omega)).1).symm.trans S0.pp
  have f14 : l2_fr (fun x j => x = 334 ∧ j = 14) s' (t_setI s' 334 14 0) := l2_fr.set ⟨rfl, rfl⟩
  have v14 : (t_setI s' 334 14 0).1 334 14 = 0 := by rw [l2_g, if_pos rfl]
  have go : ∀ q, t_hk (t_loop b_X10_settle_46 t_N (0, t_setI s' 334 14 0)) q → t_hk (f_X10_settle cs) q := fun q ⟨y, y1, y2⟩ => by
    refine ⟨y, ?_, y2⟩
    show t_loop b_X10_settle_10 t_N (0, t_setI cs 334 14 1) = some y
    rw [show t_N = (t_N - n1 - 1) + 1 + n1 by omega]
    refine (tn _).trans (l2_lpR ?_)
    show k_X10_settle_10 (nI n1) s' = _
    unfold k_X10_settle_10
    rw [e11, if_pos (nI_le (Nat.le_refl _) (by omega))]
    show (t_loop b_X10_settle_46 t_N (0, t_setI s' 334 14 0)).map Sum.inr = _
    rw [y1]
    rfl
  refine go _ ?_
  generalize t_setI s' 334 14 0 = z at *
  have fz : l2_fr (sbW cs n1 T0 T1 P0) cs z := (L5.mono (fun x j y => Or.inl y)).trans (f14.mono (fun x j y => Or.inl (Or.inr (Or.inl ⟨y.1, Or.inr y.2⟩))))
  have h2 : z.1 334 2 = nI cnt := by rw [(fz 334 2 (by unfold sbW saW eBc; omega)).1]; exact H.h2
  have WHz : WH z n1 cnt A0 A1 := ⟨n60, by rw [(f14 353 11 (by omega)).1]; exact e11, h2, H.hc, fun u hu => by
    obtain ⟨a1, a2, a3⟩ := T.ea u hu
    exact ⟨by rw [(sbW.op fz _).1]; exact a1, a2, (T.tr u hu).at.1, by rw [(fz (364 + u) 2 (by unfold sbW saW eBc; omega)).1]; exact a3⟩, fun u i hu i0 i1 => T.fwk H Q fz hu i0 i1⟩
  refine l2_imp (wr_all WHz) (fun w hw => ?_)
  obtain ⟨f5, J, J1, J2⟩ := hw
  have fw : l2_fr (sbW cs n1 T0 T1 P0) cs w := fz.trans (f5.mono (fun x j y => Or.inr y))
  refine ⟨fw, by rw [(f5 334 14 (by omega)).1]; exact v14, pp, kW (FW z A0 A1) n1 J, ⟨by omega, by rw [(f5 334 4 (by omega)).1, (f14 334 4 (by omega)).1]; exact e4, S0.pl.2⟩, fun u hu => ?_, J2, fun u hu => ?_⟩
  · obtain ⟨x1, x2⟩ := L4 u hu
    refine XR.sx _ _ _ _ _ _ _ _ _ _ _ x2 ⟨fun j _ _ _ _ _ => ⟨(sbW.op fw j).1, fun _ => (sbW.op fw j).2⟩, fun b j b1 b2 j1 j2 hb => ?_, fun j j1 j2 e3 => ?_, fun j hj => ?_, fun _ _ _ _ _ _ => ⟨rfl, rfl⟩, fun _ _ => rfl⟩ (fun _ _ _ _ _ _ y => y) (fun _ _ _ _ _ _ y => y) (fun _ _ _ _ _ _ y => y) (fun t m _ _ _ _ y => y.same (fun b hb => ?_) (fun j => ?_)) _ (Nat.le_refl _)
    · refine (fw b j (fun y => ?_)).1
      unfold sbW saW eBc at y
      rcases y with (y | y | y | y) | y
      · omega
      · omega
      · omega
      · rcases hb with hb | hb
        · omega
        · exact hb.2 y.2.2
      · omega
    · have n17 : cs.1 354 j ≠ 17 := by rw [e3]; decide
      have no : ∀ b, b = 361 ∨ b = 362 → ¬ sbW cs n1 T0 T1 P0 b j := fun b hb y => by
        unfold sbW saW eBc at y
        rcases y with (y | y | y | y) | y
        · omega
        · omega
        · omega
        · exact n17 y.2.2
        · omega
      exact ⟨(fw 361 j (no 361 (Or.inl rfl))).2.1, (fw 362 j (no 362 (Or.inr rfl))).2.1⟩
    · have := H.p1
      exact (fw 337 j (by unfold sbW saW eBc; omega)).2.1
    · rw [(f5 b t (by omega)).1, (f5 b t (by omega)).2.1, (f14 b t (by omega)).1, (f14 b t (by omega)).2.1]
      exact ⟨rfl, rfl⟩
    · rw [(f5 337 j (by omega)).2.1, (f14 337 j (by omega)).2.1]
  · rw [FW.fr f5]
    exact kW.fix (T.dw H Q fz) J1 hu
end
