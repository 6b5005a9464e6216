/-! Level 2: told templates, settled, at any time; exps that name them. -/
/-- the class as it was settled, the reference as it was read, for all that told templates want -/
structure TLater (c0 r0 c1 r1 : t_S) (RM : t_S → Prop) (n1 : Nat) (T0 T1 : Nat → Nat) : Prop where
  op : ∀ j, c1.1 335 j = c0.1 335 j ∧ c1.1 336 j = c0.1 336 j
  tm : ∀ b j, 354 ≤ b → b ≤ 360 → c1.1 b j = c0.1 b j
  sl : ∀ u j, u < n1 → T0 u ≤ j → j < T1 u → c1.2.1 361 j = c0.2.1 361 j ∧ c1.2.1 362 j = c0.2.1 362 j
  pl : ∀ j, c1.2.1 337 j = c0.2.1 337 j
  rf : ∀ b j, (955 ≤ b ∧ b ≤ 963) ∨ b = 968 → r1.1 b j = r0.1 b j ∧ r1.2.1 b j = r0.2.1 b j
  rm : ∀ r, l2_fr eZr r1 r → RM r
section
variable {WN AN TN SN : Nat → Nat → Prop} {cs c0 r0 c1 r1 s : t_S} {RM : t_S → Prop} {wS : Nat → Nat} {NS NT : Nat → Prop} {p1 s1 P0 cnt n1 PE hb sb ce mN : Nat} {F T0 T1 A0 A1 M0 M1 N D : Nat → Nat} {W : Nat → Int32}
theorem TR.later (T : TR WN AN TN c0 r0 RM p1 s1 n1 PE hb sb F T0 T1 A0 A1 M0 M1 N D W) (Z : TLater c0 r0 c1 r1 RM n1 T0 T1) : TR WN AN TN c1 r1 RM p1 s1 n1 PE hb sb F T0 T1 A0 A1 M0 M1 N D W := by
  have pl : c1.2.1 337 = c0.2.1 337 := funext Z.pl
  refine ⟨T.n60, T.pe, T.hb3, fun u hu => ?_, fun u hu => ⟨(T.tm u hu).1, (T.tm u hu).2.1, fun k a b ⟨K, k1, k2⟩ => (T.tm u hu).2.2 k a b ⟨K, ((Z.rf 955 k (by omega)).1).symm.trans k1, k2⟩⟩, fun e k h => ?_, Z.rm, fun t m h => ?_, T.d1, fun u t m v l hu hT a b e4 e7 => ?_, fun u t l hu a b l1 l2 e8 => ?_, T.od, fun u hu => ?_, fun u hu => ((Z.rf 968 u (by omega)).1).trans (T.rt u hu), T.sz⟩
  · refine XR.sx _ _ _ _ _ _ _ _ _ _ _ (T.tr u hu) ⟨fun j _ _ _ _ _ => ⟨(Z.op j).1, fun _ => (Z.op j).2⟩, fun b j b1 b2 _ _ _ => Z.tm b j b1 b2, fun j j1 j2 _ => Z.sl u j hu j1 j2, fun j _ => Z.pl j, fun b j b1 b2 _ _ => Z.rf b j (by omega), fun j _ => (Z.rf 963 j (by omega)).1⟩ (fun _ _ _ _ _ _ y => y) (fun _ _ _ _ _ _ y => y) (fun _ _ _ _ _ _ y => y) (fun t m t1 t2 _ _ y => ?_) _ (Nat.le_refl _)
    obtain ⟨er, pp, M1', n', a1, a2, a3, a4, a5, a6⟩ := y
    refine ⟨er, pp, M1', n', a1, a2, ((Z.rf 959 m (by omega)).1).trans a3, a4, by rw [pl]; exact a5, ?_⟩
    rw [Z.tm 354 t (by decide) (by decide), Z.tm 357 t (by decide) (by decide), (Z.sl u t hu t1 t2).2, pl]
    exact a6
  · obtain ⟨o, o1, o2, o3⟩ := T.wo e k h
    exact ⟨o, o1, o2, ((Z.op e).1).trans o3⟩
  · rw [Z.tm 354 t (by decide) (by decide), Z.tm 357 t (by decide) (by decide), (Z.rf 957 m (by omega)).2]
    exact T.tn t m h
  · rw [Z.tm 354 t (by decide) (by decide)] at e4
    rw [Z.tm 357 t (by decide) (by decide)] at e7
    rw [Z.tm 358 t (by decide) (by decide)]
    exact T.dp u t m v l hu hT a b e4 e7
  · rw [Z.tm 358 t (by decide) (by decide)] at e8
    exact T.lv u t l hu a b l1 l2 e8
  · rw [← T.wr u hu]
    have t6 := (T.tm u hu).1
    have y := (T.tr u hu).at
    -- operations of the tree only
    have e : ∀ i, A0 u ≤ i → i < A1 u → fwo c1 W i = fwo c0 W i := fun i i0 i1 => by
      rcases XR.tko (l := 1) T.wo _ _ _ _ _ _ _ _ _ _ (T.tr u hu) (Or.inl ⟨rfl, by decide⟩) (Nat.le_refl _) (fun k x1 x2 y => (T.tm u hu).2.2 k x1 x2 ⟨61, y, by omega⟩) i i0 i1 with ⟨o, x1, x2, x3⟩ | ⟨t, m, x1, x2, x3, x4, x5⟩ | ⟨t, m, x1, x2, x3, x4, x5, l, l1, l2, l3⟩
      · rw [fwo.exp x1 x2 x3, fwo.exp x1 x2 (((Z.op i).1).trans x3)]
      · have p1 : fwo c1 W i = (c1.2.1 362 t).toInt32 := by
          unfold fwo
          rw [(Z.op i).1, x5.1, if_pos (by decide), (Z.op i).2, x5.2, nI_clamp (n := t) (by omega)]
        have p0 : fwo c0 W i = (c0.2.1 362 t).toInt32 := by
          unfold fwo
          rw [x5.1, if_pos (by decide), x5.2, nI_clamp (n := t) (by omega)]
        rw [p1, p0, (Z.sl u t hu x1.1 x1.2).2]
      · have p1 : fwo c1 W i = if c1.1 354 t = 7 then W (c1.1 357 t).toNatClampNeg else 0 := by
          unfold fwo
          rw [(Z.op i).1, x5.1, if_neg (by decide), if_pos (by decide), (Z.op i).2, x5.2, nI_clamp (n := t) (by omega)]
        have p0 : fwo c0 W i = if c0.1 354 t = 7 then W (c0.1 357 t).toNatClampNeg else 0 := by
          unfold fwo
          rw [x5.1, if_neg (by decide), if_pos (by decide), x5.2, nI_clamp (n := t) (by omega)]
        rw [p1, p0, Z.tm 354 t (by decide) (by decide), Z.tm 357 t (by decide) (by decide)]
    have go : ∀ d a, A0 u ≤ a → a + d ≤ A1 u → fwf c1 W a d = fwf c0 W a d := by
      intro d
      induction d with
      | zero => intro a _ _; rfl
      | succ d ih =>
        intro a a0 a1
        have ee : ∀ c : t_S, fwf c W a (d + 1) = if fwo c W a = 0 then fwf c W (a + 1) d else fwo c W a := fun _ => rfl
        rw [ee, ee, e a a0 (by omega), ih (a + 1) (by omega) (by omega)]
    exact go _ _ (Nat.le_refl _) (by omega)
/-- .. at once -/
theorem TR.first (H : StH WN cs r0 RM wS p1 s1 P0 cnt) (T : ToldT WN AN TN SN cs r0 wS p1 s1 P0 cnt n1 F T0 T1 A0 A1 M0 M1 N) (Q : TD TN cs r0 n1 T0 T1 D) (hl : ∀ u t l : Nat, u < n1 → T0 u ≤ t → t < T1 u → 1 ≤ l → l ≤ 40 → cs.1 358 t = nI l → l ≤ D u) (h4 : cs.1 334 4 = nI P0) (hb3 : hb ≤ 395) (htn : ∀ t m, TN t m → (cs.1 354 t = 6 ∧ ∃ (X : Nat) (y : Int32), X < 7934 ∧ cs.1 357 t = nI (66 + X) ∧ r0.2.1 957 m = lN X ∧ (∀ r, RM r → fU r m = some y) ∧ y < 0) ∨ (cs.1 354 t = 7 ∧ ∃ v : Nat, v < n1 ∧ cs.1 357 t = nI v ∧ ∀ r, RM r → fU r m = some (nI v))) (hod : ∀ u v, u < n1 → v < n1 → u ≠ v → M1 u ≤ M0 v ∨ M1 v ≤ M0 u) (hrt : ∀ u, u < n1 → r0.1 968 u = nI (N u)) (hsz : ∀ u, u < n1 → sb + (M1 u - M0 u) ≤ 13000) : t_hk (f_X10_settle cs) (fun s => l2_fr (sbW cs n1 T0 T1 P0) cs s ∧ s.1 334 14 = 0 ∧ ∃ PE W, (s.1 334 4 = nI PE ∧ P0 ≤ PE) ∧ TR WN AN TN s r0 RM p1 s1 n1 PE hb sb F T0 T1 A0 A1 M0 M1 N D W ∧ wtD n1 W s) := by
  refine l2_imp (settled H T Q h4) (fun s hs => ?_)
  obtain ⟨f, h14, PE, W, ⟨g1, g2, g3⟩, tr, wD, wr⟩ := hs
  have nd : ∀ b j, 358 ≤ b → b ≤ 361 → s.1 b j = cs.1 b j := fun b j b1 b2 => (f b j (by unfold sbW saW eBc; omega)).1
  have at' : ∀ t m, TN t m → s.1 354 t = cs.1 354 t ∧ s.1 357 t = cs.1 357 t := fun t m h => Q.at f h
  refine ⟨f, h14, PE, W, ⟨g2, g3⟩, ⟨T.n60, g1, hb3, tr, T.tm, fun e k h => ?_, fun r hr => H.rmz r0 r H.rm0 hr, fun t m h => ?_, Q.d1, fun u t m v l hu hT a b e4 e7 hv l1 l2 e8 => ?_, fun u t l hu a b l1 l2 e8 => ?_, hod, fun u hu => wr u hu, hrt, hsz⟩, wD⟩
  · obtain ⟨o, o1, o2, o3⟩ := H.wo e k h
    exact ⟨o, o1, o2, ((sbW.op f e).1).trans o3⟩
  · rw [(at' t m h).1, (at' t m h).2]
    exact htn t m h
  · rw [(at' t m hT).1] at e4
    rw [(at' t m hT).2] at e7
    rw [nd 358 t (by decide) (by decide)] at e8
    exact Q.dp u t v l hu a b e4 e7 hv l1 l2 e8
  · rw [nd 358 t (by decide) (by decide)] at e8
    exact hl u t l hu a b l1 l2 e8
end
