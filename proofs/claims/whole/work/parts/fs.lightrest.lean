/-! Level 2: the reference's least weights come to rest. -/
section
variable {nt : Nat → Nat} {r w : t_S} {m : Nat} {y z : Nat → Nat} {ρ : Nat → Nat}
theorem rlRc.top : ∀ k f v, v ≤ 4000000000000000000 → rlRc r y k f v ≤ 4000000000000000000 := by
  intro k
  induction k with
  | zero => intro f v h; exact h
  | succ k ih =>
    intro f v h
    rw [rlRc.succ]
    split
    · exact h
    · refine ih _ _ ?_
      split <;> omega
theorem rlRc.ge : ∀ k f v, v ≤ 4000000000000000000 → v ≤ rlRc r y k f v := by
  intro k
  induction k with
  | zero => intro f v _; exact Nat.le_refl _
  | succ k ih =>
    intro f v h
    rw [rlRc.succ]
    split
    · exact Nat.le_refl _
    · split
      · have := ih (r.1 960 f.toNatClampNeg) (min 4000000000000000000 (v + min 4000000000000000000 (1 + y (r.1 959 f.toNatClampNeg).toNatClampNeg))) (by omega)
        omega
      · exact ih _ _ h
theorem rlRc.mono (h : ∀ u, y u ≤ z u) : ∀ k f v v', v ≤ v' → rlRc r y k f v ≤ rlRc r z k f v' := by
  intro k
  induction k with
  | zero => intro f v v' hv; exact hv
  | succ k ih =>
    intro f v v' hv
    have q := h (r.1 959 f.toNatClampNeg).toNatClampNeg
    rw [rlRc.succ, rlRc.succ]
    by_cases c1 : f.toInt < 0
    · rw [if_pos c1, if_pos c1]; exact hv
    rw [if_neg c1, if_neg c1]
    by_cases c2 : r.2.1 958 f.toNatClampNeg = 0
    · rw [if_pos c2, if_pos c2]
      exact ih _ _ _ (by omega)
    · rw [if_neg c2, if_neg c2]
      exact ih _ _ _ hv
theorem rlCh.top : ∀ k f v, v ≤ 4000000000000000000 → rlCh r y k f v ≤ 4000000000000000000 := by
  intro k
  induction k with
  | zero => intro f v h; exact h
  | succ k ih =>
    intro f v h
    rw [rlCh.succ]
    split
    · exact h
    · exact ih _ _ (by omega)
theorem rlCh.mono (h : ∀ u, y u ≤ z u) : ∀ k f v v', v ≤ v' → rlCh r y k f v ≤ rlCh r z k f v' := by
  intro k
  induction k with
  | zero => intro f v v' hv; exact hv
  | succ k ih =>
    intro f v v' hv
    have q := h (r.1 959 f.toNatClampNeg).toNatClampNeg
    rw [rlCh.succ, rlCh.succ]
    by_cases c1 : f.toInt < 0
    · rw [if_pos c1, if_pos c1]; exact hv
    rw [if_neg c1, if_neg c1]
    exact ih _ _ _ (by omega)
theorem rlF.mono (h : ∀ u, y u ≤ z u) (n : Nat) : rlF r y n ≤ rlF r z n := by
  unfold rlF
  by_cases c1 : r.1 955 n = 1 ∨ r.1 955 n = 2 ∨ r.1 955 n = 4
  · rw [if_pos c1, if_pos c1]; exact Nat.le_refl _
  rw [if_neg c1, if_neg c1]
  by_cases c2 : r.1 955 n = 3
  · rw [if_pos c2, if_pos c2]; exact Nat.le_refl _
  rw [if_neg c2, if_neg c2]
  by_cases c3 : r.1 955 n = 5
  · rw [if_pos c3, if_pos c3]; exact rlRc.mono h _ _ _ _ (Nat.le_refl _)
  rw [if_neg c3, if_neg c3]
  by_cases c4 : r.1 955 n = 6
  · rw [if_pos c4, if_pos c4]; exact rlCh.mono h _ _ _ _ (Nat.le_refl _)
  rw [if_neg c4, if_neg c4]
  by_cases c5 : r.1 955 n = 7
  · rw [if_pos c5, if_pos c5]
    by_cases c6 : rlLo r n = 0
    · rw [if_pos c6, if_pos c6]; exact Nat.le_refl _
    · rw [if_neg c6, if_neg c6]
      have := Nat.mul_le_mul_left (rlLo r n) (h (r.1 959 n).toNatClampNeg)
      omega
  rw [if_neg c5, if_neg c5]
  by_cases c6 : r.1 955 n = 8
  · rw [if_pos c6, if_pos c6]; exact h _
  · rw [if_neg c6, if_neg c6]; exact Nat.le_refl _
theorem rlF.top (hW : rlW nt r m) {n : Nat} (hn : n < m) (h : ∀ u, y u ≤ 4000000000000000000) : rlF r y n ≤ 4000000000000000000 := by
  unfold rlF
  split
  · decide
  · split
    · rename_i c2
      obtain ⟨lo, l1, l2⟩ := (hW.2.2 n hn).2.1.2.2.2 (Or.inl c2)
      unfold rlLo
      rw [l2, pk_lT (by omega)]
      omega
    · split
      · exact rlRc.top _ _ _ (by decide)
      · split
        · exact rlCh.top _ _ _ (Nat.le_refl _)
        · split
          · split
            · decide
            · omega
          · split
            · exact h _
            · exact Nat.le_refl _
theorem rlRc.low (hW : rlW nt r m) {v : Nat} (h : ∀ u, u < m → y u < v → z u ≤ y u) (hv : v < 4000000000000000000) : ∀ k f x x', rlL r m k f → x' ≤ x → x ≤ 4000000000000000000 → rlRc r y k f x ≤ v → rlRc r z k f x' ≤ v := by
  have m13 := hW.2.1
  intro k
  induction k with
  | zero => intro f x x' _ h1 _ h2; exact Nat.le_trans h1 h2
  | succ k ih =>
    intro f x x' hf h1 hx h2
    rw [rlRc.succ] at h2 ⊢
    rcases hf with rfl | ⟨j, rfl, hj, h10, kj⟩
    · rw [if_pos (by decide)] at h2 ⊢
      omega
    have np : ¬ (nI j).toInt < 0 := by rw [nI_toInt (by omega)]; omega
    obtain ⟨nx, c, c1, c2⟩ := rlL.next hW hj h10 kj
    rw [if_neg np, nI_clamp (n := j) (by omega), c1, nI_clamp (n := c) (by omega)] at h2 ⊢
    by_cases o : r.2.1 958 j = 0
    · rw [if_pos o] at h2 ⊢
      have g := rlRc.ge (r := r) (y := y) k (r.1 960 j) (min 4000000000000000000 (x + min 4000000000000000000 (1 + y c))) (by omega)
      have yc : y c < v := by omega
      have zc := h c c2 yc
      exact ih _ _ _ nx (by omega) (by omega) h2
    · rw [if_neg o] at h2 ⊢
      exact ih _ _ _ nx h1 hx h2
theorem rlCh.low (hW : rlW nt r m) {v : Nat} (h : ∀ u, u < m → y u < v → z u ≤ y u) (hv : v < 4000000000000000000) : ∀ k f x x', rlL r m k f → (x ≤ v → x' ≤ v) → rlCh r y k f x ≤ v → rlCh r z k f x' ≤ v := by
  have m13 := hW.2.1
  intro k
  induction k with
  | zero => intro f x x' _ h1 h2; exact h1 h2
  | succ k ih =>
    intro f x x' hf h1 h2
    rw [rlCh.succ] at h2 ⊢
    rcases hf with rfl | ⟨j, rfl, hj, h10, kj⟩
    · rw [if_pos (by decide)] at h2 ⊢
      exact h1 h2
    have np : ¬ (nI j).toInt < 0 := by rw [nI_toInt (by omega)]; omega
    obtain ⟨nx, c, c1, c2⟩ := rlL.next hW hj h10 kj
    rw [if_neg np, nI_clamp (n := j) (by omega), c1, nI_clamp (n := c) (by omega)] at h2 ⊢
    refine ih _ _ _ nx (fun q => ?_) h2
    by_cases s1 : x ≤ v
    · have := h1 s1
      omega
    · have zc := h c c2 (by omega)
      omega
/-- names lead nearer -/
def rlRk (r : t_S) (m : Nat) (ρ : Nat → Nat) : Prop := ∀ n, n < m → r.1 955 n = 8 → ρ (rlNm r n) < ρ n
theorem rlNm.lt (hW : rlW nt r m) {n : Nat} (hn : n < m) (h8 : r.1 955 n = 8) : rlNm r n < m := by
  have m13 := hW.2.1
  obtain ⟨v, u, v1, v2, v3, v4⟩ := (hW.2.2 n hn).2.2 h8
  unfold rlNm
  rw [v1]
  show (r.1 965 (nI v).toNatClampNeg).toNatClampNeg < m
  rw [nI_clamp (n := v) (by omega), v3, nI_clamp (n := u) (by omega)]
  exact v4
theorem rlL.start (hW : rlW nt r m) {n : Nat} (hn : n < m) (hk : r.1 955 n = 5 ∨ r.1 955 n = 6) : rlL r m 13000 (r.1 959 n) := by
  rcases (hW.2.2 n hn).2.1.1 hk with q | ⟨x, x1, x2, x3, x4⟩
  · exact Or.inl q
  · exact Or.inr ⟨x, x1, x3, x4, by omega⟩
theorem rlF.loc (hW : rlW nt r m) (hR : rlRk r m ρ) : gsLoc (rlF r) m 4000000000000000000 ρ := by
  intro y z n v hn hv h hF
  have m13 := hW.2.1
  have h' : ∀ u, u < m → y u < v → z u ≤ y u := fun u hu hy => h u hu (Or.inl hy)
  unfold rlF at *
  by_cases c1 : r.1 955 n = 1 ∨ r.1 955 n = 2 ∨ r.1 955 n = 4
  · rw [if_pos c1] at *; exact hF
  rw [if_neg c1] at *
  by_cases c2 : r.1 955 n = 3
  · rw [if_pos c2] at *; exact hF
  rw [if_neg c2] at *
  by_cases c3 : r.1 955 n = 5
  · rw [if_pos c3] at *
    exact rlRc.low hW h' hv _ _ _ _ (rlL.start hW hn (Or.inl c3)) (Nat.le_refl _) (by decide) hF
  rw [if_neg c3] at *
  by_cases c4 : r.1 955 n = 6
  · rw [if_pos c4] at *
    exact rlCh.low hW h' hv _ _ _ _ (rlL.start hW hn (Or.inr c4)) id hF
  rw [if_neg c4] at *
  by_cases c5 : r.1 955 n = 7
  · rw [if_pos c5] at *
    by_cases c6 : rlLo r n = 0
    · rw [if_pos c6] at *; exact hF
    rw [if_neg c6] at *
    obtain ⟨c, d1, d2⟩ := (hW.2.2 n hn).2.1.2.2.1 c5
    rw [d1, nI_clamp (n := c) (by omega)] at hF ⊢
    have m1 : y c ≤ rlLo r n * y c := Nat.le_mul_of_pos_left _ (by omega)
    have l := h' c d2 (by omega)
    have m2 := Nat.mul_le_mul_left (rlLo r n) l
    omega
  rw [if_neg c5] at *
  by_cases c6 : r.1 955 n = 8
  · rw [if_pos c6] at *
    have hr := hR n hn c6
    have hu := rlNm.lt hW hn c6
    by_cases e : y (rlNm r n) < v
    · have := h' _ hu e
      omega
    · have := h _ hu (Or.inr ⟨by omega, hr⟩)
      omega
  · rw [if_neg c6] at hF
    omega
theorem rl_rest (hW : rlW nt r m) (hR : rlRk r m ρ) : gsK (rlF r) m 4000000000000000000 (m + 1) = gsK (rlF r) m 4000000000000000000 m := gsK.fast (fun y z n _ h => rlF.mono h n) (fun i hi => rlF.top hW hi (fun _ => Nat.le_refl _)) (rlF.loc hW hR)
/-- the least weights -/
noncomputable def rlY (r : t_S) (m : Nat) : Nat → Nat := gsK (rlF r) m 4000000000000000000 m
theorem rlY.fix (hW : rlW nt r m) (hR : rlRk r m ρ) {i : Nat} (hi : i < m) : rlF r (rlY r m) i = rlY r m i := gsK.fix (fun y z n _ h => rlF.mono h n) (fun i hi => rlF.top hW hi (fun _ => Nat.le_refl _)) (rl_rest hW hR) i hi
theorem rlS.set (h : rlS r m y w) {n v : Nat} (hv : v ≤ 4000000000000000000) : rlS r m (fun i => if i = n then v else y i) (t_setJ w 1011 n (lN v)) := by
  have f : l2_fr (fun b j => b = 1011 ∧ j = n) w (t_setJ w 1011 n (lN v)) := l2_fr.setJ ⟨rfl, rfl⟩
  refine ⟨h.1.trans (f.mono (fun b j y => Or.inl y.1)), fun i hi => ?_, fun i => ?_⟩
  · by_cases c : i = n
    · subst c
      simp only [l2_gJ, and_self, reduceIte]
    · rw [(f 1011 i (by omega)).2.1, h.2.1 i hi]
      show _ = lN (if i = n then v else y i)
      rw [if_neg c]
  · show (if i = n then v else y i) ≤ 4000000000000000000
    split
    · exact hv
    · exact h.2.2 i
theorem rl_is (hW : rlW nt r m) (h : rlS r m y w) {n K : Nat} (hn : n < m) (hk : r.1 955 n = nI K) (hK : K < 100) : f_X13_isTypeNode (nI n) w = some (if 1 ≤ K ∧ K ≤ 8 then 1 else 0) := by
  have m13 := hW.2.1
  unfold f_X13_isTypeNode
  rw [if_pos (l2_ix (by omega) (by decide)), nI_clamp (n := n) (by omega), (h.st 955 n (by decide) (by decide) (by decide)).1, hk, rl_in (by omega)]
  by_cases c : 1 ≤ K ∧ K ≤ 8
  · rw [if_pos c, if_pos (Or.inr rfl)]
  · rw [if_neg c, if_pos (Or.inl rfl)]
/-- one round -/
theorem rl_round (hW : rlW nt r m) (h : rlS r m y w) : t_hk (t_loop b_X13_findLight_122 t_N ((0 : Int32), (w.1 950 29) - (1 : Int32), w)) (fun x => ∃ w1 l, x = .inl (l, w1) ∧ rlS r m (gsR (rlF r) m y) w1 ∧ (l = 0 ∨ l = 1) ∧ (l = 0 ↔ gsR (rlF r) m y = y) ∧ l2_fr (fun b _ => b = 1011) w w1) := by
  have m13 := hW.2.1
  have e8 : (w.1 950 29) - (1 : Int32) = (if m = 0 then -1 else nI (m - 1)) := by
    rw [(h.1 950 29 (by unfold rl_V; omega)).1, hW.1]
    by_cases c : m = 0
    · rw [if_pos c, c]; rfl
    · rw [if_neg c]
      obtain ⟨b, rfl⟩ : ∃ b, m = b + 1 := ⟨m - 1, by omega⟩
      rw [show b + 1 - 1 = b by omega]
      exact nI_pred b
  rw [e8]
  refine l2_lp (I := fun k x => ∃ y1 w1 l, x = (l, (if k = 0 then -1 else nI (k - 1)), w1) ∧ k ≤ m ∧ rlS r m y1 w1 ∧ gsR (rlF r) k y1 = gsR (rlF r) m y ∧ (l = 0 ∨ l = 1) ∧ (l = 0 ↔ y1 = y) ∧ (∀ u, y1 u ≤ y u) ∧ l2_fr (fun b _ => b = 1011) w w1) ?_ (m := m) (by unfold t_N; omega) ⟨y, w, 0, rfl, Nat.le_refl _, h, rfl, Or.inl rfl, ⟨fun _ => rfl, fun _ => rfl⟩, fun u => Nat.le_refl _, l2_fr.rf⟩
  rintro k x ⟨y1, w1, l, rfl, hk, h1, e, hl, hl2, le, fr⟩
  show t_hk (k_X13_findLight_122 l (if k = 0 then -1 else nI (k - 1)) w1) _
  unfold k_X13_findLight_122
  by_cases c : k = 0
  · subst c
    rw [if_pos rfl, if_pos (by decide)]
    have e : y1 = gsR (rlF r) m y := e
    subst e
    exact l2_mp (l2_sm ⟨w1, l, rfl, h1, hl, hl2, fr⟩)
  obtain ⟨k, rfl⟩ : ∃ j, k = j + 1 := ⟨k - 1, by omega⟩
  rw [if_neg c, show k + 1 - 1 = k by omega, if_neg (nI_pos (n := k) (by omega))]
  obtain ⟨⟨K, hK, e55⟩, _⟩ := hW.2.2 k (by omega)
  rw [rl_is hW h1 (by omega) e55 hK, l2_bs]
  have ft := rlF.top hW (n := k) (by omega) h1.2.2
  have y1k := h1.2.2 k
  have en : nI k + (-1 : Int32) = (if k = 0 then -1 else nI (k - 1)) := by
    by_cases c : k = 0
    · rw [if_pos c, c]; rfl
    · rw [if_neg c]
      obtain ⟨b, rfl⟩ : ∃ b, k = b + 1 := ⟨k - 1, by omega⟩
      rw [show b + 1 - 1 = b by omega, ← Int32.sub_eq_add_neg]
      exact nI_pred b
  have go : t_hk (k_X13_findLight_145 l (nI k) (lN (rlF r y1 k)) w1) (l2_nx (fun z => ∃ i, i < k + 1 ∧ ∃ y1 w1 l, z = (l, (if i = 0 then -1 else nI (i - 1)), w1) ∧ i ≤ m ∧ rlS r m y1 w1 ∧ gsR (rlF r) i y1 = gsR (rlF r) m y ∧ (l = 0 ∨ l = 1) ∧ (l = 0 ↔ y1 = y) ∧ (∀ u, y1 u ≤ y u) ∧ l2_fr (fun b _ => b = 1011) w w1) (fun x => ∃ w1 l, x = .inl (l, w1) ∧ rlS r m (gsR (rlF r) m y) w1 ∧ (l = 0 ∨ l = 1) ∧ (l = 0 ↔ gsR (rlF r) m y = y) ∧ l2_fr (fun b _ => b = 1011) w w1)) := by
    unfold k_X13_findLight_145
    refine l2_ck (l2_ix (by omega) (by decide)) ?_
    rw [nI_clamp (n := k) (by omega), h1.2.1 k (by omega)]
    have cmp : (0 : Int32) ≤ lg_cmp (lN (rlF r y1 k)) (lN (y1 k)) ↔ y1 k ≤ rlF r y1 k := by
      rw [← Int32.not_lt, t_cmp_lt, pk_lT (by omega), pk_lT (by omega)]
      omega
    unfold k_X13_findLight_166
    rw [en]
    by_cases d : y1 k ≤ rlF r y1 k
    · rw [if_pos (cmp.mpr d)]
      have same : gsS (rlF r) y1 k = y1 := by
        funext u
        unfold gsS
        by_cases q : u = k
        · rw [if_pos q, q]; omega
        · rw [if_neg q]
      have e' : gsR (rlF r) k (gsS (rlF r) y1 k) = gsR (rlF r) m y := e
      rw [same] at e'
      exact l2_sm ⟨k, by omega, y1, w1, l, rfl, by omega, h1, e', hl, hl2, le, fr⟩
    · rw [if_neg (fun q => d (cmp.mp q))]
      have same : gsS (rlF r) y1 k = fun i => if i = k then rlF r y1 k else y1 i := by
        funext u
        unfold gsS
        by_cases q : u = k
        · rw [if_pos q, if_pos q]; omega
        · rw [if_neg q, if_neg q]
      have e' : gsR (rlF r) k (gsS (rlF r) y1 k) = gsR (rlF r) m y := e
      rw [same] at e'
      refine l2_lt (l2_sm ⟨k, by omega, _, _, 1, rfl, by omega, h1.set ft, e', Or.inr rfl, ⟨fun q => absurd q (by decide), fun q => ?_⟩, fun u => ?_, fr.trans (l2_fr.setJ rfl)⟩)
      · have := congrFun q k
        simp only [if_true] at this
        have := le k
        omega
      · show (if u = k then rlF r y1 k else y1 u) ≤ y u
        have := le u
        by_cases q : u = k
        · rw [if_pos q]
          subst q
          omega
        · rw [if_neg q]
          exact this
  by_cases t : 1 ≤ K ∧ K ≤ 8
  · rw [if_pos t, if_neg (by decide)]
    obtain ⟨v, hv, rfl⟩ := rl_one h1 hW (n := k) (by omega) e55 t
    exact l2_eq hv go
  · rw [if_neg t, if_pos rfl]
    have ef : rlF r y1 k = 4000000000000000000 := by
      have ne : ∀ L : Nat, 1 ≤ L → L ≤ 8 → r.1 955 k ≠ nI L := fun L l1 l2 q => t (by
        have := (nI_eq (by omega) (by omega)).mp (e55.symm.trans q)
        omega)
      unfold rlF
      rw [if_neg (by rintro (q | q | q); exact ne 1 (by decide) (by decide) q; exact ne 2 (by decide) (by decide) q; exact ne 4 (by decide) (by decide) q), if_neg (show ¬ r.1 955 k = 3 from ne 3 (by decide) (by decide)), if_neg (show ¬ r.1 955 k = 5 from ne 5 (by decide) (by decide)), if_neg (show ¬ r.1 955 k = 6 from ne 6 (by decide) (by decide)), if_neg (show ¬ r.1 955 k = 7 from ne 7 (by decide) (by decide)), if_neg (show ¬ r.1 955 k = 8 from ne 8 (by decide) (by decide))]
    rw [ef] at go
    exact go
/-- all rounds -/
theorem rl_all (hW : rlW nt r m) (hR : rlRk r m ρ) (S0 : rlS r m (gsK (rlF r) m 4000000000000000000 0) w) : t_hk (t_loop b_X13_findLight_109 t_N ((1 : Int32), w)) (fun w1 => rlS r m (rlY r m) w1 ∧ l2_fr (fun b _ => b = 1011) w w1) := by
  have m13 := hW.2.1
  have rest := rl_rest hW hR
  have hl0 : gsK (rlF r) m 4000000000000000000 (m + 1) = rlY r m := rest
  refine l2_lp (I := fun j x => ∃ k w1 l, x = (l, w1) ∧ k ≤ m + 1 ∧ j = m + 1 - k ∧ rlS r m (gsK (rlF r) m 4000000000000000000 k) w1 ∧ (l = 0 ∨ l = 1) ∧ (l = 0 → gsK (rlF r) m 4000000000000000000 k = rlY r m) ∧ (k = m + 1 → l = 0) ∧ l2_fr (fun b _ => b = 1011) w w1) ?_ (m := m + 1) (by unfold t_N; omega) ⟨0, w, 1, rfl, by omega, rfl, S0, Or.inr rfl, fun q => absurd q (by decide), fun q => by omega, l2_fr.rf⟩
  rintro j x ⟨k, w1, l, rfl, hk, rfl, hS, hl, g1, g2, fr⟩
  show t_hk (k_X13_findLight_109 l w1) _
  unfold k_X13_findLight_109
  rcases hl with rfl | rfl
  · rw [if_pos rfl]
    have := g1 rfl
    rw [this] at hS
    exact l2_mp (l2_sm ⟨hS, fr⟩)
  rw [if_neg (by decide)]
  have k1 : k ≠ m + 1 := fun q => absurd (g2 q) (by decide)
  obtain ⟨x, e, w2, l', rfl, h1, h2, h3, h4⟩ := rl_round hW hS
  rw [e]
  have fx : l' = 0 → gsK (rlF r) m 4000000000000000000 (k + 1) = gsK (rlF r) m 4000000000000000000 k := fun q => h3.mp q
  refine l2_sm ⟨m + 1 - (k + 1), by omega, k + 1, w2, l', rfl, by omega, rfl, h1, h2, fun q => ?_, fun q => ?_, fr.trans h4⟩
  · rw [fx q]
    by_cases d : k ≤ m
    · exact (gsK.late (fx q) d).symm
    · omega
  · refine h3.mpr ?_
    have e : k = m := by omega
    subst e
    exact rest
end
