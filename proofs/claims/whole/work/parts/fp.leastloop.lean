/-! Level 2: the class's least weights: all rounds. -/
section
/-- values seen through φ -/
theorem gsR.map {φ : Nat → Nat} {F F' : (Nat → Nat) → Nat → Nat} {N : Nat} (hm : ∀ x y, φ (min x y) = min (φ x) (φ y)) (hF : ∀ (y : Nat → Nat) i, i < N → φ (F y i) = F' (fun u => φ (y u)) i) : ∀ n, n ≤ N → ∀ y : Nat → Nat, (fun u => φ (gsR F n y u)) = gsR F' n (fun u => φ (y u)) := by
  intro n
  induction n with
  | zero => intro _ y; rfl
  | succ n ih =>
    intro hn y
    show (fun u => φ (gsR F n (gsS F y n) u)) = gsR F' n (gsS F' (fun u => φ (y u)) n)
    rw [ih (by omega) (gsS F y n)]
    congr 1
    funext u
    unfold gsS
    by_cases c : u = n
    · rw [if_pos c, if_pos c, hm, hF y n (by omega)]
    · rw [if_neg c, if_neg c]
theorem gsK.map {φ : Nat → Nat} {F F' : (Nat → Nat) → Nat → Nat} {N T T' : Nat} (hm : ∀ x y, φ (min x y) = min (φ x) (φ y)) (hF : ∀ (y : Nat → Nat) i, i < N → φ (F y i) = F' (fun u => φ (y u)) i) (hT : φ T = T') : ∀ k, (fun u => φ (gsK F N T k u)) = gsK F' N T' k := by
  intro k
  induction k with
  | zero => funext u; exact hT
  | succ k ih =>
    show (fun u => φ (gsR F N (gsK F N T k) u)) = gsR F' N (gsK F' N T' k)
    rw [gsR.map hm hF N (Nat.le_refl _), ih]
theorem gsK.late {F : (Nat → Nat) → Nat → Nat} {N T k j : Nat} (h : gsK F N T (k + 1) = gsK F N T k) (hj : k ≤ j) : gsK F N T j = gsK F N T k := by
  have := gsK.rest h (j - k)
  rw [show k + (j - k) = j by omega] at this
  exact this
variable {s w : t_S} {a : Nat} {y z : Nat → Nat} {ρ : Nat → Nat}
/-- names lead nearer -/
def lsRk (s : t_S) (a : Nat) (ρ : Nat → Nat) : Prop := ∀ n, n < a → s.1 317 n = 8 → ρ (s.1 326 (s.1 321 n).toNatClampNeg).toNatClampNeg < ρ n
theorem lsF.loc (hW : lsW s a) (hR : lsRk s a ρ) : gsLoc (fun y n => min 1000000 (lsF s a y n)) a 1000000 ρ := by
  intro y z n v hn hv h hF
  have hF : lsF s a y n ≤ v := by
    have hF : min 1000000 (lsF s a y n) ≤ v := hF
    omega
  have h' : ∀ u, u < a → y u < v → z u ≤ y u := fun u hu hy => h u hu (Or.inl hy)
  suffices g : lsF s a z n ≤ v by
    show min 1000000 (lsF s a z n) ≤ v
    omega
  unfold lsF at *
  by_cases c1 : s.1 317 n = 1 ∨ s.1 317 n = 2 ∨ s.1 317 n = 4
  · rw [if_pos c1] at *; exact hF
  rw [if_neg c1] at *
  by_cases c2 : s.1 317 n = 3
  · rw [if_pos c2] at *; exact hF
  rw [if_neg c2] at *
  by_cases c3 : s.1 317 n = 5
  · rw [if_pos c3] at *
    exact lsRc.low h' hv _ _ _ _ (Nat.le_refl _) (by decide) hF
  rw [if_neg c3] at *
  by_cases c4 : s.1 317 n = 6
  · rw [if_pos c4] at *
    exact lsCh.low h' hv _ _ _ _ id hF
  rw [if_neg c4] at *
  by_cases c5 : s.1 317 n = 7
  · rw [if_pos c5] at *
    by_cases c6 : lsLo s n = 0
    · rw [if_pos c6] at *; exact hF
    rw [if_neg c6] at *
    by_cases c7 : lsV a y (s.1 318 n) < 2000000
    · rw [if_pos c7] at hF
      have m1 : lsV a y (s.1 318 n) ≤ lsLo s n * lsV a y (s.1 318 n) := Nat.le_mul_of_pos_left _ (by omega)
      have l := lsV.low (x := s.1 318 n) h' hv (by omega)
      have m2 := Nat.mul_le_mul_left (lsLo s n) l
      rw [if_pos (by omega)]
      omega
    · rw [if_neg c7] at hF
      omega
  rw [if_neg c5] at *
  by_cases c6 : s.1 317 n = 8
  · rw [if_pos c6] at *
    obtain ⟨t, u, t1, t2, t3, t4⟩ := (hW.2.2 n hn).2.2.2.1 c6
    have hr := hR n hn c6
    have a3 := hW.2.1
    rw [t1, nI_clamp (n := t) (by omega), t3] at hF ⊢
    rw [t1, nI_clamp (n := t) (by omega), t3, nI_clamp (n := u) (by omega)] at hr
    unfold lsV at *
    rw [nI_clamp (n := u) (by omega), if_pos t4] at *
    by_cases e : y u < v
    · have := h' u t4 e
      omega
    · have := h u t4 (Or.inr ⟨by omega, hr⟩)
      omega
  · rw [if_neg c6] at hF
    omega
theorem ls_min : ∀ x y, min 1000000 (min x y) = min (min 1000000 x) (min 1000000 y) := fun x y => by omega
theorem ls_bit : ∀ x y, (if min x y < 2000000 then 0 else 1) = min (if x < 2000000 then 0 else 1) (if y < 2000000 then 0 else 1) := fun x y => by
  by_cases a : x < 2000000
  · rw [if_pos a, if_pos (by omega)]
    omega
  · by_cases b : y < 2000000
    · rw [if_neg a, if_pos b, if_pos (by omega)]
      rfl
    · rw [if_neg a, if_neg b, if_neg (by omega)]
      rfl
theorem lsK.two (hW : lsW s a) : ∀ k u, lsB (gsK (lsF s a) a 2000000 k u) := by
  have rd : ∀ n, n ≤ a → ∀ y : Nat → Nat, (∀ u, lsB (y u)) → ∀ u, lsB (gsR (lsF s a) n y u) := by
    intro n
    induction n with
    | zero => intro _ y h; exact h
    | succ n ih =>
      intro hn y h
      refine ih (by omega) _ (fun u => ?_)
      unfold gsS
      by_cases c : u = n
      · rw [if_pos c]
        have h1 := h n
        have h2 := lsF.two hW (n := n) (by omega) h
        unfold lsB at *
        omega
      · rw [if_neg c]
        exact h u
  intro k
  induction k with
  | zero => intro u; exact Or.inr rfl
  | succ k ih => exact rd a (Nat.le_refl _) _ ih
theorem ls_rest (hW : lsW s a) (hR : lsRk s a ρ) : gsK (lsF s a) a 2000000 (a + 1) = gsK (lsF s a) a 2000000 a := by
  have M1 : gsMono (fun y n => min 1000000 (lsF s a y n)) a := fun y z n _ h => by
    have := lsF.mono (s := s) (a := a) h n
    show min 1000000 (lsF s a y n) ≤ min 1000000 (lsF s a z n)
    omega
  have e1 := gsK.fast (N := a) (T := 1000000) M1 (fun i _ => by
    show min 1000000 (lsF s a _ i) ≤ 1000000
    omega) (lsF.loc hW hR)
  have p1 := gsK.map (φ := fun x => min 1000000 x) (F := lsF s a) (F' := fun y n => min 1000000 (lsF s a y n)) (N := a) (T := 2000000) (T' := 1000000) ls_min (fun y i _ => lsF.m (fun u => by omega) i) rfl
  have p2 := gsK.map (φ := fun x => if x < 2000000 then 0 else 1) (F := lsF s a) (F' := fun b n => if lsF s a (fun u => if b u = 0 then 0 else 2000000) n < 2000000 then 0 else 1) (N := a) (T := 2000000) (T' := 1) ls_bit (fun y i _ => by
    have := lsF.b (s := s) (a := a) (y := y) (z := fun u => if (if y u < 2000000 then 0 else 1) = 0 then 0 else 2000000) (fun u => by
      by_cases c : y u < 2000000
      · rw [if_pos c, if_pos rfl]
        exact ⟨fun _ => by decide, fun _ => c⟩
      · rw [if_neg c, if_neg (by decide)]
        exact ⟨fun q => absurd q c, fun q => absurd q (by decide)⟩) i
    show (if lsF s a y i < 2000000 then 0 else 1) = _
    by_cases c : lsF s a y i < 2000000
    · rw [if_pos c, if_pos (this.mp c)]
    · rw [if_neg c, if_neg (fun q => c (this.mpr q))]) rfl
  obtain ⟨k, k1, k2⟩ := gsK.ends (F := fun b n => if lsF s a (fun u => if b u = 0 then 0 else 2000000) n < 2000000 then 0 else 1) (N := a) (T := 1)
  have l1 := gsK.late k2 (j := a + 1) (by omega)
  have l2 := gsK.late k2 (j := a) (by omega)
  funext u
  have b1 := lsK.two hW (a + 1) u
  have b2 := lsK.two hW a u
  have c1 : min 1000000 (gsK (lsF s a) a 2000000 (a + 1) u) = min 1000000 (gsK (lsF s a) a 2000000 a u) := by
    have q1 := congrFun (p1 (a + 1)) u
    have q2 := congrFun (p1 a) u
    rw [e1] at q1
    exact q1.trans q2.symm
  have c2 : (if gsK (lsF s a) a 2000000 (a + 1) u < 2000000 then 0 else 1) = (if gsK (lsF s a) a 2000000 a u < 2000000 then 0 else 1) := by
    have q1 := congrFun (p2 (a + 1)) u
    have q2 := congrFun (p2 a) u
    rw [l1] at q1
    rw [l2] at q2
    exact q1.trans q2.symm
  unfold lsB at *
  by_cases d1 : gsK (lsF s a) a 2000000 (a + 1) u < 2000000
  · rw [if_pos d1] at c2
    by_cases d2 : gsK (lsF s a) a 2000000 a u < 2000000
    · omega
    · rw [if_neg d2] at c2
      omega
  · rw [if_neg d1] at c2
    by_cases d2 : gsK (lsF s a) a 2000000 a u < 2000000
    · rw [if_pos d2] at c2
      omega
    · omega
/-- the least weights -/
noncomputable def lsY (s : t_S) (a : Nat) : Nat → Nat := gsK (lsF s a) a 2000000 a
theorem lsY.fix (hW : lsW s a) (hR : lsRk s a ρ) {i : Nat} (hi : i < a) : lsF s a (lsY s a) i = lsY s a i := gsK.fix (fun y z n _ h => lsF.mono h n) (fun i hi => lsF.top hW hi (fun _ => Nat.le_refl _)) (ls_rest hW hR) i hi
theorem lsS.set (h : lsS s a y w) (ha : a ≤ 3000) {n v : Nat} (hn : n < a) (hv : v ≤ 2000000) : lsS s a (fun i => if i = n then v else y i) (t_setI w 324 n (nI v)) := by
  have f : l2_fr (fun b j => b = 324 ∧ j = n) w (t_setI w 324 n (nI v)) := l2_fr.set ⟨rfl, rfl⟩
  refine ⟨h.1.trans (f.mono (fun b j y => Or.inl y.1)), fun i hi => ?_, fun i => ?_⟩
  · by_cases c : i = n
    · subst c
      simp only [l2_gI, reduceIte, if_pos hn]
    · rw [(f 324 i (by omega)).1, h.2.1 i hi]
      show _ = nI (if i < a then (if i = n then v else y i) else 2000000)
      rw [if_neg c]
  · show (if i = n then v else y i) ≤ 2000000
    split
    · exact hv
    · exact h.2.2 i
/-- one round -/
theorem ls_round (hW : lsW s a) (l2 : Int32) (h : lsS s a y w) : t_hk (t_loop b_X11_settle_38 t_N ((0 : Int32), l2, (w.1 316 8) - (1 : Int32), w)) (fun r => ∃ w1 l, r = .inl (l, l2 + 1, w1) ∧ lsS s a (gsR (lsF s a) a y) w1 ∧ (l = 0 ∨ l = 1) ∧ (l = 0 ↔ gsR (lsF s a) a y = y)) := by
  have a3 := hW.2.1
  have e8 : (w.1 316 8) - (1 : Int32) = (if a = 0 then -1 else nI (a - 1)) := by
    rw [(h.1 316 8 (by omega)).1, hW.1]
    by_cases c : a = 0
    · rw [if_pos c, c]; rfl
    · rw [if_neg c]
      obtain ⟨b, rfl⟩ : ∃ b, a = b + 1 := ⟨a - 1, by omega⟩
      rw [show b + 1 - 1 = b by omega]
      exact nI_pred b
  rw [e8]
  refine l2_lp (I := fun k x => ∃ y1 w1 l, x = (l, l2, (if k = 0 then -1 else nI (k - 1)), w1) ∧ k ≤ a ∧ lsS s a y1 w1 ∧ gsR (lsF s a) k y1 = gsR (lsF s a) a y ∧ (l = 0 ∨ l = 1) ∧ (l = 0 ↔ y1 = y) ∧ ∀ u, y1 u ≤ y u) ?_ (m := a) (by unfold t_N; omega) ⟨y, w, 0, rfl, Nat.le_refl _, h, rfl, Or.inl rfl, ⟨fun _ => rfl, fun _ => rfl⟩, fun u => Nat.le_refl _⟩
  rintro k x ⟨y1, w1, l, rfl, hk, h1, e, hl, hl2, le⟩
  show t_hk (k_X11_settle_38 l l2 (if k = 0 then -1 else nI (k - 1)) w1) _
  unfold k_X11_settle_38
  by_cases c : k = 0
  · subst c
    rw [if_pos rfl, if_pos (by decide)]
    have e : y1 = gsR (lsF s a) a y := e
    subst e
    exact l2_mp (l2_sm ⟨w1, l, rfl, h1, hl, hl2⟩)
  obtain ⟨k, rfl⟩ : ∃ j, k = j + 1 := ⟨k - 1, by omega⟩
  rw [if_neg c, show k + 1 - 1 = k by omega, if_neg (show ¬ nI k < (0 : Int32) from nI_nlt (a := k) (b := 0) (Nat.zero_le _) (by omega))]
  obtain ⟨v, hv, rfl⟩ := ls_one h1 hW (n := k) (by omega)
  refine l2_eq hv (l2_ck (l2_ix (by omega) (by decide)) ?_)
  rw [nI_clamp (n := k) (by omega), h1.2.1 k (by omega), if_pos (show k < a by omega)]
  have ft := lsF.top hW (n := k) (by omega) h1.2.2
  have y1k := h1.2.2 k
  have en : nI k + (-1 : Int32) = (if k = 0 then -1 else nI (k - 1)) := by
    by_cases c : k = 0
    · rw [if_pos c, c]; rfl
    · rw [if_neg c]
      obtain ⟨b, rfl⟩ : ∃ b, k = b + 1 := ⟨k - 1, by omega⟩
      rw [show b + 1 - 1 = b by omega, ← Int32.sub_eq_add_neg]
      exact nI_pred b
  unfold k_X11_settle_70
  rw [en]
  by_cases d : y1 k ≤ lsF s a y1 k
  · rw [if_pos (nI_le d (by omega))]
    have same : gsS (lsF s a) y1 k = y1 := by
      funext u
      unfold gsS
      by_cases q : u = k
      · rw [if_pos q, q]; omega
      · rw [if_neg q]
    have e' : gsR (lsF s a) k (gsS (lsF s a) y1 k) = gsR (lsF s a) a y := e
    rw [same] at e'
    exact l2_sm ⟨k, by omega, y1, w1, l, rfl, by omega, h1, e', hl, hl2, le⟩
  · rw [if_neg (nI_ge (by omega) (by omega))]
    have same : gsS (lsF s a) y1 k = fun i => if i = k then lsF s a y1 k else y1 i := by
      funext u
      unfold gsS
      by_cases q : u = k
      · rw [if_pos q, if_pos q]; omega
      · rw [if_neg q, if_neg q]
    have e' : gsR (lsF s a) k (gsS (lsF s a) y1 k) = gsR (lsF s a) a y := e
    rw [same] at e'
    refine l2_lt (l2_sm ⟨k, by omega, _, _, 1, rfl, by omega, h1.set a3 (by omega) ft, e', Or.inr rfl, ⟨fun q => absurd q (by decide), fun q => ?_⟩, fun u => ?_⟩)
    · have := congrFun q k
      simp only [if_true] at this
      have := le k
      omega
    · show (if u = k then lsF s a y1 k else y1 u) ≤ y u
      have := le u
      by_cases q : u = k
      · rw [if_pos q]
        subst q
        omega
      · rw [if_neg q]
        exact this
theorem ls_fill {v : Int32} : t_hk (f_J7_fill_53178 324 v w) (fun w' => l2_fr (fun b _ => b = 324) w w' ∧ ∀ i, i < 3001 → w'.1 324 i = v) := by
  have ln : t_ln 324 = 3001 := by decide +kernel
  unfold f_J7_fill_53178
  refine l2_ck (by decide) ?_
  refine l2_lp (I := fun k x => ∃ j w1, x = (324, v, nI j, (3001 : Int32), w1) ∧ j ≤ 3001 ∧ k = 3001 - j ∧ l2_fr (fun b _ => b = 324) w w1 ∧ ∀ i, i < j → w1.1 324 i = v) ?_ (m := 3001) (by unfold t_N; omega) ⟨0, w, rfl, by omega, rfl, l2_fr.rf, fun i hi => by omega⟩
  rintro k x ⟨j, w1, rfl, hj, rfl, f, g⟩
  show t_hk (k_J7_fill_53178_5 324 v (nI j) (3001 : Int32) w1) _
  unfold k_J7_fill_53178_5
  by_cases c : j = 3001
  · subst c
    rw [if_pos (by decide)]
    exact l2_mp (l2_sm ⟨f, g⟩)
  · rw [if_neg (show ¬ (3001 : Int32) ≤ nI j from nI_ge (b := 3001) (by omega) (by decide))]
    refine l2_ck (by decide) (l2_ck (l2_ix (by omega) (by decide)) (l2_lt ?_))
    rw [nI_clamp (n := j) (by omega), nI_1]
    have f2 : l2_fr (fun b i => b = 324 ∧ i = j) w1 (t_setI w1 324 j v) := l2_fr.set ⟨rfl, rfl⟩
    refine l2_sm ⟨3001 - (j + 1), by omega, j + 1, _, rfl, by omega, rfl, f.trans (f2.mono (fun b i y => y.1)), fun i hi => ?_⟩
    by_cases q : i = j
    · subst q
      simp only [l2_gI, and_self, reduceIte]
    · rw [(f2 324 i (by omega)).1]
      exact g i (by omega)
/-- all rounds -/
theorem ls_settle (hW : lsW s a) (hR : lsRk s a ρ) : t_hk (f_X11_settle s) (fun w => lsS s a (lsY s a) w) := by
  have a3 := hW.2.1
  unfold f_X11_settle
  refine l2_lt ?_
  have f1 : l2_fr (fun b j => b = 316 ∧ j = 15) s (t_setI s 316 15 0) := l2_fr.set ⟨rfl, rfl⟩
  generalize t_setI s 316 15 0 = s1 at *
  refine l2_bd _ (ls_fill (v := 2000000)) (fun w0 hw0 => ?_)
  obtain ⟨f2, v2⟩ := hw0
  have S0 : lsS s a (gsK (lsF s a) a 2000000 0) w0 := ⟨(f1.mono (fun b j y => Or.inr y)).trans (f2.mono (fun b j y => Or.inl y)), fun i hi => by
    rw [v2 i hi]
    show (2000000 : Int32) = nI (if i < a then 2000000 else 2000000)
    split <;> rfl, fun i => Nat.le_refl _⟩
  have rest := ls_rest hW hR
  refine l2_lp (I := fun j x => ∃ k w l, x = (l, nI k, w) ∧ k ≤ 3002 ∧ j = 3002 - k ∧ lsS s a (gsK (lsF s a) a 2000000 k) w ∧ (l = 0 ∨ l = 1) ∧ (l = 0 → gsK (lsF s a) a 2000000 k = lsY s a)) ?_ (m := 3002) (by unfold t_N; omega) ⟨0, w0, 1, rfl, by omega, rfl, S0, Or.inr rfl, fun q => absurd q (by decide)⟩
  rintro j x ⟨k, w, l, rfl, hk, rfl, hS, hl, hl0⟩
  show t_hk (k_X11_settle_18 l (nI k) w) _
  unfold k_X11_settle_18
  rcases hl with rfl | rfl
  · rw [if_pos rfl]
    have := hl0 rfl
    rw [this] at hS
    exact l2_mp (l2_sm hS)
  rw [if_neg (by decide)]
  by_cases c : k = 3002
  · subst c
    rw [if_pos (by decide)]
    have e : gsK (lsF s a) a 2000000 3002 = lsY s a := gsK.late rest (by omega)
    rw [e] at hS
    exact l2_mp (l2_sm hS)
  rw [if_neg (show ¬ (3001 : Int32) < nI k from nI_nlt (a := 3001) (by omega) (by decide))]
  obtain ⟨r, e, w1, l', rfl, h1, h2, h3⟩ := ls_round hW (nI k) hS
  rw [e]
  refine l2_sm ⟨3002 - (k + 1), by omega, k + 1, w1, l', by rw [nI_1], by omega, rfl, h1, h2, fun q => ?_⟩
  have fx : gsK (lsF s a) a 2000000 (k + 1) = gsK (lsF s a) a 2000000 k := h3.mp q
  rw [fx]
  by_cases d : k ≤ a
  · exact (gsK.late fx d).symm
  · exact gsK.late rest (by omega)
end
