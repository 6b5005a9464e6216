/-! Level 2: depths of templs, both sides, from a module read: what settling wanted. -/
section
variable {P : pc_S} {nt : Nat → Nat} {a g : Nat} {k : Nat → Nat} {c0 c r s s' : t_S} {S : Nat → Int32 → Prop}
/-- what is written at a node's kind or number: by the link that stands there -/
theorem lW_354 {x b i : Nat} {v : Int32} (h : lW nt s r x b i v) (hb : b = 354 ∨ b = 357) : s.1 849 x = 13 ∧ s.1 852 x = nI i ∧ ∃ X w, X < 7934 ∧ s.1 850 x = nI (66 + X) ∧ to_R nt r 1 X w ∧ ¬ un_R nt r 1 X ∧ ((b = 354 ∧ v = 7) ∨ (b = 357 ∧ v = w)) := by
  obtain ⟨so, X, hm, sp, ex, ⟨⟨_, hX, _⟩, y1, y2, _, y4, _⟩, hw⟩ := h
  rcases hw with ⟨_, z, _⟩ | ⟨_, z, _⟩ | ⟨_, z, _⟩ | ⟨_, z, _⟩ | ⟨_, z, _⟩ | ⟨z1, z2, w, z3, z4, z5⟩ | ⟨kc, w, _, z⟩
  · omega
  · omega
  · omega
  · omega
  · omega
  · subst z1
    subst z2
    exact ⟨y1, y4, X, w, hX, y2, z3, z4, z5⟩
  · rcases z with ⟨_, z, _⟩ | ⟨_, z, _⟩ | ⟨_, z, _⟩ | ⟨_, _, _, _, z⟩ | ⟨_, z, _⟩
    · omega
    · omega
    · omega
    · omega
    · omega
/-- cells of templs' nodes once names are settled -/
theorem tn_set (h : mR P nt a g k c0 c r) (hM : MK (pc_V P) c) (Q : sQ (pc_W P) nt a (k 3) (k 4) (k 5) (k 6) (k 7) (k 2) (k 9) s r) (fs : l2_fr (su_W (nt 3)) c s) (O : sQ_O nt (k 6) (k 2) S s r s') : (∀ b t, 354 ≤ b → b ≤ 362 → b ≠ 354 → b ≠ 357 → s'.1 b t = c.1 b t) ∧ (∀ t, c.1 354 t ≠ 6 → s'.1 354 t = c.1 354 t ∧ s'.1 357 t = c.1 357 t) ∧ ∀ t e X, e < k 6 → c.1 849 e = 13 → c.1 850 e = nI (66 + X) → X < 7934 → c.1 852 e = nI t → t < 6100 → (∃ j, j < nt 1 ∧ f_X13_find 967 0 (nI (nt 1)) (nI X) r = some (nI j) ∧ s'.1 354 t = 7 ∧ s'.1 357 t = nI j) ∨ (f_X13_find 967 0 (nI (nt 1)) (nI X) r = some (-1) ∧ s'.1 354 t = c.1 354 t ∧ s'.1 357 t = c.1 357 t ∧ un_R nt r 1 X) := by
  have c4 : ∀ b j, b ≠ 1 → b ≠ 438 → s.1 b j = c.1 b j := fun b j y1 y2 => (fs b j (by unfold su_W; omega)).1
  have e6 : s.1 846 6 = nI (k 6) := Q.2.2.2.2.2.2.1.1
  have k6 : k 6 ≤ 6000 := Q.2.2.2.2.2.2.1.2.1
  have e9 : s.1 353 9 = nI (k 3) := Q.2.2.2.2.2.2.1.2.2.2.2.1
  have k3 : k 3 ≤ 3000 := Q.2.2.2.2.2.2.1.2.2.2.2.2.1
  have l6 : ∀ e : Nat, e < k 6 → (e : Int) < (s.1 846 6).toInt := fun e y => by
    rw [e6, nI_toInt (by omega)]
    omega
  -- a cell that changes
  have ch : ∀ b t, b = 354 ∨ b = 357 → s'.1 b t = c.1 b t ∨ ∃ x v, x < k 6 ∧ lW nt s r x b t v := fun b t hb => by
    by_cases z : ∃ x v, x < k 6 ∧ lW nt s r x b t v
    · exact Or.inr z
    · refine Or.inl (((O.2.1 b t (fun y => ?_)).1).trans (c4 b t (by omega) (by omega)))
      rcases y with y | y
      · exact z y
      · unfold lf_W at y
        omega
  -- two links at one spot are one
  have uni : ∀ e x t : Nat, e < k 6 → x < k 6 → s.1 849 e = 13 → s.1 849 x = 13 → s.1 852 e = nI t → s.1 852 x = nI t → e = x := fun e x t h1 h2 h3 h4 h5 h6 => by
    have A := Q.2.2.2.2.1.2.2.1
    have le : (s.1 353 9).toInt ≤ 3000 := by
      rw [e9, nI_toInt (by omega)]
      omega
    rcases Nat.lt_trichotomy e x with y | y | y
    · have := ((A x (l6 x h2) h4).2.2 le).2 e y h3
      rw [h5, h6] at this
      omega
    · exact y
    · have := ((A e (l6 e h1) h3).2.2 le).2 x y h4
      rw [h5, h6] at this
      omega
  refine ⟨fun b t y1 y2 y3 y4 => ((O.1 b t (by unfold sn_W lf_W; omega)).1).trans (c4 b t (by omega) (by omega)), fun t ht => ?_, fun t e X he h9 h0 hX h2 ht => ?_⟩
  · have no : ∀ b x v, b = 354 ∨ b = 357 → x < k 6 → ¬ lW nt s r x b t v := fun b x v hb hx w => by
      obtain ⟨w1, w2, _⟩ := lW_354 w hb
      have NL := (hM.2.2.2.2.1 (by rw [← c4 353 9 (by decide) (by decide), e9, nI_toInt (by omega)]; omega)).1 x (by rw [← c4 846 6 (by decide) (by decide)]; exact l6 x hx) (by rw [← c4 849 x (by decide) (by decide)]; exact w1)
      obtain ⟨n, n1, n2, n3, n4⟩ := NL
      rw [← c4 852 x (by decide) (by decide), w2] at n1
      by_cases z : t < 2 ^ 31
      · have := (nI_eq z (by omega)).mp n1
        subst this
        exact ht n4
      · -- such a node there isn't
        obtain ⟨so, X, hm, sp, ex, ⟨⟨_, _, sp1⟩, _⟩, hw⟩ := w
        rcases hw with ⟨_, z, _⟩ | ⟨_, z, _⟩ | ⟨_, z, _⟩ | ⟨_, z, _⟩ | ⟨_, z, _⟩ | ⟨_, z2, _⟩ | ⟨kc, w, _, z⟩
        · omega
        · omega
        · omega
        · omega
        · omega
        · omega
        · rcases z with ⟨_, z, _⟩ | ⟨_, z, _⟩ | ⟨_, z, _⟩ | ⟨_, _, _, _, z⟩ | ⟨_, z, _⟩ <;> omega
    refine ⟨(ch 354 t (Or.inl rfl)).resolve_right (fun ⟨x, v, hx, w⟩ => no _ x v (Or.inl rfl) hx w), (ch 357 t (Or.inr rfl)).resolve_right (fun ⟨x, v, hx, w⟩ => no _ x v (Or.inr rfl) hx w)⟩
  · have s9 : s.1 849 e = 13 := (c4 849 e (by decide) (by decide)).trans h9
    have s0 : s.1 850 e = nI (66 + X) := (c4 850 e (by decide) (by decide)).trans h0
    have s2 : s.1 852 e = nI t := (c4 852 e (by decide) (by decide)).trans h2
    have hw := Q.2.2.2.2.2.2.2.1 e X he s0 hX
    obtain ⟨v, _, v2, v3⟩ := nt_told Q.1.1 (i := 1) (by decide) hX hw
    have D : le_D s e 13 X (s.1 851 e) t (s.1 853 e) := ⟨⟨by decide, hX, by omega⟩, s9, s0, rfl, s2, rfl⟩
    rcases v3 with ⟨rfl, v3⟩ | ⟨j, j1, rfl, j2⟩
    · have no : ∀ b x v, b = 354 ∨ b = 357 → x < k 6 → ¬ lW nt s r x b t v := fun b x v hb hx w => by
        obtain ⟨w1, w2, X', w', hX', w3, _, w4, _⟩ := lW_354 w hb
        have := uni e x t he hx s9 w1 s2 w2
        subst this
        rw [s0] at w3
        have := (nI_eq (by omega) (by omega)).mp w3
        have : X' = X := by omega
        subst this
        exact w4 v3
      exact Or.inr ⟨v2, (ch 354 t (Or.inl rfl)).resolve_right (fun ⟨x, v, hx, w⟩ => no _ x v (Or.inl rfl) hx w), (ch 357 t (Or.inr rfl)).resolve_right (fun ⟨x, v, hx, w⟩ => no _ x v (Or.inr rfl) hx w), v3⟩
    · have to : to_R nt r 1 X (nI j) := ⟨v2, Or.inr ⟨j, j1, rfl, j2⟩⟩
      have nu : ¬ un_R nt r 1 X := fun y => y j j1 j2
      have w : ∀ b v, (b = 354 ∧ v = 7) ∨ (b = 357 ∧ v = nI j) → lW nt s r e b t v := fun b v y => ⟨13, X, _, t, _, D, Or.inr (Or.inr (Or.inr (Or.inr (Or.inr (Or.inl ⟨rfl, rfl, nI j, to, nu, y⟩)))))⟩
      exact Or.inl ⟨j, j1, v2, O.2.2.2 e 354 t 7 he (w _ _ (Or.inl ⟨rfl, rfl⟩)), O.2.2.2 e 357 t (nI j) he (w _ _ (Or.inr ⟨rfl, rfl⟩))⟩
/-- templs' nodes once names are settled: as wanted -/
theorem dpQ_of (h : mR P nt a g k c0 c r) (hM : MK (pc_V P) c) (Q : sQ (pc_W P) nt a (k 3) (k 4) (k 5) (k 6) (k 7) (k 2) (k 9) s r) (fs : l2_fr (su_W (nt 3)) c s) (O : sQ_O nt (k 6) (k 2) S s r s') : dpQ nt s' r := by
  obtain ⟨S1, S2, S3⟩ := tn_set h hM Q fs O
  have n60 : nt 1 ≤ 60 := (h.1.2.1.1 1 (by decide)).1
  have e44 : r.1 950 44 = nI (nt 1) := (h.1.2.1.1 1 (by decide)).2.2
  have c4 : ∀ b j, b ≠ 1 → b ≠ 438 → s.1 b j = c.1 b j := fun b j y1 y2 => (fs b j (by unfold su_W; omega)).1
  have e9 : c.1 353 9 = nI (k 3) := (c4 353 9 (by decide) (by decide)).symm.trans Q.2.2.2.2.2.2.1.2.2.2.2.1
  have k3 : k 3 ≤ 3000 := Q.2.2.2.2.2.2.1.2.2.2.2.2.1
  have k6 : k 6 ≤ 6000 := Q.2.2.2.2.2.2.1.2.1
  have k2 : k 2 ≤ 13000 := Q.2.2.2.2.2.2.1.2.2.2.2.2.2.2.2.2.1
  have Z : ∀ t, t < k 3 → lvk (c.1 358 t) ∧ c.1 354 t ≠ 7 := fun t ht => hM.2.2.2.2.2.1 t (by omega) (by rw [e9, nI_toInt (by omega)]; omega)
  have c36 : ∀ i j, i < nt 1 → j ≠ 6 → j ≠ 7 → s'.1 (364 + i) j = c.1 (364 + i) j := fun i j hi _ _ => ((O.1 _ _ (by unfold sn_W lf_W; omega)).1).trans (c4 _ _ (by omega) (by omega))
  -- a node's name
  have nm : ∀ t, t < k 3 → s'.1 354 t = 7 → ∃ v, v < nt 1 ∧ v < 60 ∧ s'.1 357 t = nI v := fun t ht e7 => by
    by_cases z : c.1 354 t = 6
    rotate_left
    · exact absurd ((S2 t z).1.symm.trans e7) (Z t ht).2
    · by_cases w : ∃ x v, x < k 6 ∧ lW nt s r x 354 t v
      · obtain ⟨x, v, hx, w⟩ := w
        obtain ⟨w1, w2, X, w', hX, w3, _⟩ := lW_354 w (Or.inl rfl)
        rcases S3 t x X hx ((c4 849 x (by decide) (by decide)).symm.trans w1) ((c4 850 x (by decide) (by decide)).symm.trans w3) hX ((c4 852 x (by decide) (by decide)).symm.trans w2) (by omega) with ⟨j, j1, _, _, j4⟩ | ⟨_, j2, _⟩
        · exact ⟨j, j1, by omega, j4⟩
        · exact absurd (j2.symm.trans e7) (Z t ht).2
      · have : s'.1 354 t = c.1 354 t := ((O.2.1 354 t (fun y => by
          rcases y with y | y
          · exact w y
          · unfold lf_W at y
            omega)).1).trans (c4 354 t (by decide) (by decide))
        exact absurd (this.symm.trans e7) (Z t ht).2
  have T := fun i (hi : i < nt 1) => h.2.2.1 i hi
  obtain ⟨T0, T1, TT⟩ : ∃ T0 T1 : Nat → Nat, ∀ i, i < nt 1 → ∃ e0 e1 l0 l1 m0 m1 p1 s1 n pl : Nat, (T1 i ≤ k 3 ∧ e1 + 1 ≤ k 4 ∧ l1 ≤ k 6 ∧ m1 ≤ k 2 ∧ p1 ≤ k 5 ∧ s1 ≤ k 7) ∧ (c.1 (364 + i) 0 = nI (T0 i) ∧ c.1 (364 + i) 2 = nI e0 ∧ c.1 (364 + i) 3 = nI (T0 i) ∧ c.1 (364 + i) 4 = nI (T1 i)) ∧ (pl ≤ 12000 ∧ c.1 (364 + i) 1 = nI pl ∧ r.1 969 i = nI pl) ∧ r.1 968 i = nI n ∧ px_o c e1 0 0 ∧ (T0 i < T1 i ∧ m0 ≤ n ∧ n < m1) ∧ XR (wn_R E_t c r l0 l1) (an_R E_t c r l0 l1) (tn_R E_t c r l0 l1) (sn_R c) c r p1 s1 (m1 - m0) 1 1 15 e0 e1 (T0 i) (T1 i) m0 m1 n ∧ r.1 960 n = -1 ∧ c.1 356 (T0 i) = -1 := by
    refine ⟨fun i => if hi : i < nt 1 then (T i hi).choose else 0, fun i => if hi : i < nt 1 then (T i hi).choose_spec.choose else 0, fun i hi => ?_⟩
    simp only [dif_pos hi]
    exact (T i hi).choose_spec.choose_spec
  refine ⟨T0, T1, fun i hi => ?_, fun r2 f2 r3 D f3 hD i hi => ?_, fun i hi => ?_⟩
  · obtain ⟨e0, e1, l0, l1, m0, m1, p1, s1, n, pl, b1, b2, b3, b4, b5, b6, X, _⟩ := TT i hi
    obtain ⟨x1, x2⟩ := X.root (Or.inl rfl)
    refine ⟨⟨x1, by omega⟩, ⟨(c36 i 3 hi (by decide) (by decide)).trans b2.2.2.1, (c36 i 4 hi (by decide) (by decide)).trans b2.2.2.2⟩, (S1 358 _ (by decide) (by decide) (by decide) (by decide)).trans x2, fun t ta tb => ?_⟩
    rw [S1 358 t (by decide) (by decide) (by decide) (by decide)]
    rcases (Z t (by omega)).1 with y | y
    · refine Or.inl (Int32.le_iff_toInt_le.mpr ?_)
      show _ ≤ (0 : Int)
      omega
    · refine Or.inr ⟨(c.1 358 t).toInt.toNat, by omega, by omega, ?_, fun y => nm t (by omega) y⟩
      rw [← Int32.toInt_inj, nI_toInt (by omega)]
      omega
  · obtain ⟨e0, e1, l0, l1, m0, m1, p1, s1, n, pl, b1, b2, b3, b4, b5, b6, X, _⟩ := TT i hi
    have f23 : ∀ b j, b ≠ 1005 → b ≠ 1004 → b ≠ 950 → r3.1 b j = r.1 b j ∧ r3.2.1 b j = r.2.1 b j := fun b j y1 y2 y3 => by
      have q1 := f3 b j (by omega)
      have q2 := f2 b j (by unfold ck_W; omega)
      exact ⟨q1.1.trans q2.1, q1.2.1.trans q2.2.1⟩
    have g44 : r3.1 950 44 = nI (nt 1) := by
      rw [(f3 950 44 (by omega)).1, (f2 950 44 (by unfold ck_W; omega)).1]
      exact e44
    have A : rdA (tn_R E_t c r l0 l1) (sn_R c) c r r3 (k 3) (vv s' D) := by
      have pos : ∀ l, 1 ≤ l → l ≤ 40 → (0 : Int32) < nI l := fun l y1 y2 => nI_lt (a := 0) (by omega) (by omega)
      refine ⟨fun b j y1 y2 => f23 b j (by omega) (by omega) (by omega), fun t n' l ht hn el y1 y2 => ?_, fun t l ht h6 el y1 y2 => ?_, fun t ht hl => ?_, fun t _ y => y.1, fun t ht => ?_, fun t ht => ?_⟩
      · obtain ⟨a6, e, e1', e2', ⟨X, hX, w1, w2, w3, w4, w5⟩, w6, w7⟩ := hn
        have rd : rdN n' r3 = (f_X13_find 967 0 (nI (nt 1)) (nI X) r).bind (fun r2 => if (0 : Int32) ≤ r2 then (if t_ix r2 60 = true then some ((1 : Int32) + (r3.1 1005 (r2.toNatClampNeg))) else none) else (some (1 : Int32))) := by
          unfold rdN
          rw [g44, (f23 957 n' (by decide) (by decide) (by decide)).2, w3, lN_i, fd_st (fun j => (f23 967 j (by decide) (by decide) (by decide)).1)]
        rw [rd]
        unfold vv
        rw [S1 358 t (by decide) (by decide) (by decide) (by decide), el, if_pos (pos l y1 y2), nI_clamp (by omega)]
        rcases S3 t e X (by omega) w1 w2 hX w6 (by omega) with ⟨j, j1, j2, j3, j4⟩ | ⟨j2, j3, j4, _⟩
        · obtain ⟨d1, d2⟩ := hD j j1
          refine ⟨1 + D j, by omega, by omega, ?_, ?_⟩
          · rw [j2, l2_bs, if_pos (show (0 : Int32) ≤ nI j from nI_le (a := 0) (Nat.zero_le _) (by omega)), if_pos (l2_ix (by omega) (by decide)), nI_clamp (by omega), d2, show (1 : Int32) = nI 1 from rfl, nI_add]
          · rw [j3, if_pos rfl, j4, nI_clamp (by omega)]
            omega
        · refine ⟨1, by omega, by omega, ?_, ?_⟩
          · rw [j2, l2_bs, if_neg (by decide)]
            rfl
          · rw [j3, a6, if_neg (by decide)]
            omega
      · unfold vv
        rw [S1 358 t (by decide) (by decide) (by decide) (by decide), el, if_pos (pos l y1 y2), nI_clamp (by omega), (S2 t h6).1, if_neg (Z t ht).2, Nat.add_zero]
      · unfold vv
        rw [S1 358 t (by decide) (by decide) (by decide) (by decide), if_neg]
        intro y
        have y : (0 : Int) < (c.1 358 t).toInt := Int32.lt_iff_toInt_lt.mp y
        omega
      · exact (Z t ht).1
      · unfold vv
        by_cases z : (0 : Int32) < s'.1 358 t
        · rw [if_pos z]
          rw [S1 358 t (by decide) (by decide) (by decide) (by decide)] at z ⊢
          have z : (0 : Int) < (c.1 358 t).toInt := Int32.lt_iff_toInt_lt.mp z
          have q := (Z t ht).1
          unfold lvk at q
          have e : (c.1 358 t).toNatClampNeg = (c.1 358 t).toInt.toNat := rfl
          rw [e]
          by_cases w : s'.1 354 t = 7
          · rw [if_pos w]
            obtain ⟨v, v1, v2, v3⟩ := nm t ht w
            rw [v3, nI_clamp (by omega)]
            have := (hD v v1).1
            omega
          · rw [if_neg w]
            omega
        · rw [if_neg z]
          omega
    obtain ⟨d, d1, _, d2, d3, d4⟩ := rd_main A (m1 - m0) 1 1 15 e0 e1 (T0 i) (T1 i) m0 m1 n X (Or.inl rfl) (by decide) (by decide) b1.1 (by omega)
    have d2 : d = dpV s' T0 T1 D i := by
      have d2 : 1 - 1 + d = mxv (vv s' D) (T0 i) (T1 i - T0 i) := d2
      unfold dpV
      omega
    rw [(f2 968 i (by unfold ck_W; omega)).1, b4, ← d2]
    exact ⟨d4 150 (by decide), by omega⟩
  · obtain ⟨e0, e1, l0, l1, m0, m1, p1, s1, n, pl, b1, b2, b3, _⟩ := TT i hi
    rw [c36 i 1 hi (by decide) (by decide), b3.2.1, b3.2.2]
end
