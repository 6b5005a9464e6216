/-! Level 2: the class's reserved words in its new table. -/
/-- where each reserved word begins in the class's row of them -/
def cv_L : List Nat := [0, 5, 14, 24, 33, 41, 46, 49, 54, 60, 64, 68, 73, 78, 83, 90, 97, 102, 105, 114, 121, 131, 136, 142, 147, 151, 156, 164, 171, 180, 185, 190, 193, 197, 205, 209, 215, 222, 225, 230, 236, 243, 248, 253, 257, 262, 269, 274, 278, 283, 287, 293, 298, 305, 311, 314, 322, 325, 330, 335, 341, 349, 354, 362, 367, 375, 380]
def cv_F (w : Nat) : Nat := cv_L.getD w 380
def cv_n (w : Nat) : Nat := cv_F (w + 1) - cv_F w - 1
def cb (i : Nat) : Nat := (mj_ch 0 i).toBitVec.toNat
theorem cv_tab : ∀ w, w < 66 → cv_F w + cv_n w + 1 = cv_F (w + 1) ∧ cv_n w ≤ 12 ∧ 0 < cv_n w ∧ cv_F (w + 1) ≤ 380 ∧ mj_ch 0 (cv_F w + cv_n w) = 32 ∧ ∀ i, i < cv_n w → mj_ch 0 (cv_F w + i) ≠ 32 := by decide +kernel
theorem cv_66 : cv_F 66 = 380 := by decide
theorem cb_ok : ∀ i, i < 380 → mj_ch 0 i = nI (cb i) ∧ 0 < cb i ∧ cb i < 128 := by decide +kernel
theorem cv_diff : ∀ w, w < 66 → ∀ v, v < w → ¬ (cv_n v = cv_n w ∧ ∀ i, i < cv_n v → cb (cv_F v + i) = cb (cv_F w + i)) := by decide +kernel
theorem cb_f {b : Nat} (h : b < 128) : (nI b).toInt8.toInt32.toInt8.toInt32 &&& 255 = nI b := by
  rw [tx_idem]
  exact sc_k8 b (by omega)
theorem ls_pk {f : Nat → Int32} {p o : Nat} : ∀ k i, i + k ≤ 8 → (∀ j, j < i + k → cb (p + o + j) < 128) → (∀ j, j < i + k → f (o + j) &&& 255 = nI (cb (p + o + j))) → lx_pk f k (o + i) (lN (wk_v cb (p + o) i)) = lN (wk_v cb (p + o) (i + k))
  | 0, i, _, _, _ => rfl
  | k + 1, i, h, hb, hf => by
    show lx_pk f k (o + i + 1) (lN (wk_v cb (p + o) i) <<< ((8 : Int32).toInt64 &&& 63) ||| (f (o + i) &&& 255).toInt64) = _
    have b1 := hb i (by omega)
    have lt := wk_lt (B := cb) (p := p + o) i (fun j hj => by have := hb j (by omega); omega)
    have h7 : 256 ^ i ≤ 256 ^ 7 := Nat.pow_le_pow_right (by decide) (by omega)
    have h78 : (256 : Nat) ^ 7 = 2 ^ 56 := by decide
    have e : wk_v cb (p + o) i * 2 ^ 8 ||| cb (p + o + i) = wk_v cb (p + o) (i + 1) := by
      rw [Nat.mul_comm, ← Nat.two_pow_add_eq_or_of_lt (i := 8) (by omega)]
      show _ = wk_v cb (p + o) i * 256 + cb (p + o + i)
      omega
    rw [hf i (by omega), nI_l (by omega), show (8 : Int32) = nI 8 from rfl, wb_shl _ (by decide), wb_or (by omega) (by omega), e]
    have := ls_pk (f := f) (p := p) (o := o) k (i + 1) (by omega) (fun j hj => hb j (by omega)) (fun j hj => hf j (by omega))
    rw [show i + (k + 1) = i + 1 + k by omega, ← this]
    rfl
/-- a state with these tables -/
def ls_S (wd : Nat) (hd : Nat → Int64) (tl so : Nat → Int32) (sN : Nat → Nat) : t_S := (fun b j => if b = 1 then nI wd else if b = 11 then nI (sN j) else if b = 10 then so j else if b = 9 then tl j else 0, fun b j => if b = 8 then hd j else 0, fun _ _ => 0)
theorem ls_go {s : t_S} {W : Nat} {V sl : Nat → Nat} {H : Nat → Int64} {T : Nat → Int32} (h : wt_I s W V sl H T) {K : Int64} {t : Int32} (nf : ∀ i, i < W → ¬ (H i = K ∧ T i = t)) : ∃ d, d < 16384 ∧ V ((lx_s0 K t + d) % 16384) = 0 ∧ (∀ u, u < d → 0 < V ((lx_s0 K t + u) % 16384)) ∧ lx_go H T V K t (lx_s0 K t) 16384 0 = some (.inl ((lx_s0 K t + d) % 16384)) := by
  obtain ⟨g1, g2, g3, g4, g5, g6, g7⟩ := h
  have ex : ∃ d, d < 16384 ∧ V ((lx_s0 K t + d) % 16384) = 0 ∧ ∀ u, u < d → 0 < V ((lx_s0 K t + u) % 16384) := by
    have step : ∀ n, n ≤ 16384 → (∃ d, d < 16384 ∧ V ((lx_s0 K t + d) % 16384) = 0 ∧ ∀ u, u < d → 0 < V ((lx_s0 K t + u) % 16384)) ∨ ∀ u, u < n → 0 < V ((lx_s0 K t + u) % 16384) := by
      intro n
      induction n with
      | zero => intro _; exact Or.inr (fun u hu => by omega)
      | succ n ih =>
        intro hn
        rcases ih (by omega) with x | x
        · exact Or.inl x
        · by_cases z : V ((lx_s0 K t + n) % 16384) = 0
          · exact Or.inl ⟨n, by omega, z, x⟩
          · refine Or.inr (fun u hu => ?_)
            by_cases e : u = n
            · rw [e]; omega
            · exact x u (by omega)
    rcases step 16384 (Nat.le_refl _) with x | x
    · exact x
    · have := wt_full (V := V) (o := lx_s0 K t) x 16384 (Nat.le_refl _)
      omega
  obtain ⟨d, d1, d2, d3⟩ := ex
  refine ⟨d, d1, d2, d3, ?_⟩
  have go : ∀ k i, i + k = 16384 → i ≤ d → lx_go H T V K t (lx_s0 K t) k i = some (.inl ((lx_s0 K t + d) % 16384)) := by
    intro k
    induction k with
    | zero => intro i h1 h2; omega
    | succ k ih =>
      intro i h1 h2
      show (if V ((lx_s0 K t + i) % 16384) = 0 then some (.inl ((lx_s0 K t + i) % 16384)) else if H (V ((lx_s0 K t + i) % 16384) - 1) = K ∧ T (V ((lx_s0 K t + i) % 16384) - 1) = t then some (.inr (V ((lx_s0 K t + i) % 16384) - 1)) else lx_go H T V K t (lx_s0 K t) k (i + 1)) = _
      by_cases e : i = d
      · rw [e, if_pos d2]
      · have x := d3 i (by omega)
        have y := (g3 _ (Nat.mod_lt (lx_s0 K t + i) (by decide))).2.1
        rw [if_neg (by omega), if_neg (nf _ (by omega))]
        exact ih (i + 1) (by omega) (by omega)
  exact go 16384 0 rfl (Nat.zero_le _)
def ls_J (w k : Nat) (x : lx_St) : Prop := ∃ (hd : Nat → Int64) (tl so mn ie f : Nat → Int32) (sN sl : Nat → Nat), x = (w, cv_F w, hd, tl, so, mn, ie, f, sN) ∧ wt_I (ls_S w hd tl so sN) w sN sl hd tl ∧ (∀ i, i < w → hd i = wk_h cb (cv_F i) (cv_n i) ∧ tl i = wk_t cb (cv_F i) (cv_n i)) ∧ (∀ i, mn i = 0 ∧ ie i = 0) ∧ ∀ j, j < k → f j &&& 255 = nI (cb (cv_F w + j))
theorem ls_sign {w k : Nat} {x : lx_St} (hw : w < 66) (hk : k < cv_n w) (h : ls_J w k x) : ls_J w (k + 1) (lx_put (mj_ch 0 (cv_F w + k)) (cv_F w + k) x) := by
  obtain ⟨hd, tl, so, mn, ie, f, sN, sl, rfl, h1, h2, h3, h4⟩ := h
  obtain ⟨t1, t2, t3, t4, t5, t6⟩ := cv_tab w hw
  refine ⟨hd, tl, so, mn, ie, va_up f (cv_F w + k - cv_F w) (mj_ch 0 (cv_F w + k)).toInt8.toInt32.toInt8.toInt32, sN, sl, ?_, h1, h2, h3, fun j hj => ?_⟩
  · show (if mj_ch 0 (cv_F w + k) = 32 then _ else _) = _
    rw [if_neg (t6 k hk)]
  · rw [Nat.add_sub_cancel_left]
    by_cases e : j = k
    · obtain ⟨c1, c2, c3⟩ := cb_ok (cv_F w + k) (by omega)
      rw [e, mj_up_eq, c1]
      exact cb_f c3
    · rw [mj_up_ne _ _ e]
      exact h4 j (by omega)
theorem ls_blank {w : Nat} {x : lx_St} (hw : w < 66) (h : ls_J w (cv_n w) x) : ls_J (w + 1) 0 (lx_put (mj_ch 0 (cv_F w + cv_n w)) (cv_F w + cv_n w) x) := by
  obtain ⟨hd, tl, so, mn, ie, f, sN, sl, rfl, h1, h2, h3, h4⟩ := h
  obtain ⟨t1, t2, t3, t4, t5, t6⟩ := cv_tab w hw
  have hcb : ∀ j, j < cv_n w → cb (cv_F w + j) < 128 ∧ 0 < cb (cv_F w + j) := fun j hj => ⟨(cb_ok _ (by omega)).2.2, (cb_ok _ (by omega)).2.1⟩
  obtain ⟨f', hf'⟩ : ∃ f', f' = va_up f (cv_F w + cv_n w - cv_F w) (mj_ch 0 (cv_F w + cv_n w)).toInt8.toInt32.toInt8.toInt32 := ⟨_, rfl⟩
  have hf : ∀ j, j < cv_n w → f' j &&& 255 = nI (cb (cv_F w + j)) := fun j hj => by
    rw [hf', Nat.add_sub_cancel_left, mj_up_ne _ _ (by omega)]
    exact h4 j hj
  have eH : lx_pk f' (min (cv_n w) 8) 0 0 = wk_h cb (cv_F w) (cv_n w) := by
    have := ls_pk (f := f') (p := cv_F w) (o := 0) (min (cv_n w) 8) 0 (by omega) (fun j hj => by rw [Nat.add_zero]; exact (hcb j (by omega)).1) (fun j hj => by rw [Nat.zero_add, Nat.add_zero]; exact hf j (by omega))
    rw [Nat.add_zero, Nat.zero_add] at this
    exact this
  have eT : (lx_pk f' (cv_n w - 8) 8 0).toInt32 = wk_t cb (cv_F w) (cv_n w) := by
    have := ls_pk (f := f') (p := cv_F w) (o := 8) (cv_n w - 8) 0 (by omega) (fun j hj => by rw [Nat.add_assoc]; exact (hcb (8 + j) (by omega)).1) (fun j hj => by rw [Nat.add_assoc]; exact hf (8 + j) (by omega))
    rw [Nat.add_zero, Nat.zero_add] at this
    have this : lx_pk f' (cv_n w - 8) 8 0 = lN (wk_v cb (cv_F w + 8) (cv_n w - 8)) := this
    rw [this, lN_i]
    rfl
  have nf : ∀ i, i < w → ¬ (hd i = wk_h cb (cv_F w) (cv_n w) ∧ tl i = wk_t cb (cv_F w) (cv_n w)) := by
    rintro i hi ⟨a, b⟩
    obtain ⟨u1, u2, u3, u4, u5, u6⟩ := cv_tab i (by omega)
    rw [(h2 i hi).1] at a
    rw [(h2 i hi).2] at b
    have q := (wk_same (B := cb) (C := cb) (p := cv_F i) (q := cv_F w) u2 t2 (fun j hj => by have := cb_ok (cv_F i + j) (by omega); omega) (fun j hj => by have := hcb j hj; omega)).mp ⟨a, b⟩
    exact cv_diff w hw i hi q
  obtain ⟨d, d1, d2, d3, d4⟩ := ls_go h1 nf
  have ex : lx_put (mj_ch 0 (cv_F w + cv_n w)) (cv_F w + cv_n w) (w, cv_F w, hd, tl, so, mn, ie, f, sN) = lx_look (cv_n w) (w, cv_F w + cv_n w + 1, hd, tl, so, mn, ie, f', sN) := by
    show (if mj_ch 0 (cv_F w + cv_n w) = 32 then _ else _) = _
    rw [if_pos t5, hf']
    rw [Nat.add_sub_cancel_left]
  have ey : lx_look (cv_n w) (w, cv_F w + cv_n w + 1, hd, tl, so, mn, ie, f', sN) = (w + 1, cv_F (w + 1), va_up hd w (wk_h cb (cv_F w) (cv_n w)), va_up tl w (wk_t cb (cv_F w) (cv_n w)), va_up so w (nI ((lx_s0 (wk_h cb (cv_F w) (cv_n w)) (wk_t cb (cv_F w) (cv_n w)) + d) % 16384)), va_up mn w 0, va_up ie w 0, f', va_up sN ((lx_s0 (wk_h cb (cv_F w) (cv_n w)) (wk_t cb (cv_F w) (cv_n w)) + d) % 16384) (w + 1)) := by
    show lx_add (lx_pk f' (min (cv_n w) 8) 0 0) (lx_pk f' (cv_n w - 8) 8 0).toInt32 (lx_go hd tl sN (lx_pk f' (min (cv_n w) 8) 0 0) (lx_pk f' (cv_n w - 8) 8 0).toInt32 (lx_s0 (lx_pk f' (min (cv_n w) 8) 0 0) (lx_pk f' (cv_n w - 8) 8 0).toInt32) 16384 0) (w, cv_F w + cv_n w + 1, hd, tl, so, mn, ie, f', sN) = _
    rw [eH, eT, d4, t1]
    rfl
  rw [ex, ey]
  refine ⟨_, _, _, _, _, _, _, _, rfl, h1.add (s' := ls_S (w + 1) (va_up hd w (wk_h cb (cv_F w) (cv_n w))) (va_up tl w (wk_t cb (cv_F w) (cv_n w))) (va_up so w (nI ((lx_s0 (wk_h cb (cv_F w) (cv_n w)) (wk_t cb (cv_F w) (cv_n w)) + d) % 16384))) (va_up sN ((lx_s0 (wk_h cb (cv_F w) (cv_n w)) (wk_t cb (cv_F w) (cv_n w)) + d) % 16384) (w + 1))) (by omega) d1 d2 d3 nf rfl ?_ rfl rfl rfl, fun i hi => ?_, fun i => ?_, fun j hj => absurd hj (by omega)⟩
  · funext j
    show nI (va_up sN _ (w + 1) j) = va_up (fun j => nI (sN j)) _ (nI (w + 1)) j
    by_cases e : j = (lx_s0 (wk_h cb (cv_F w) (cv_n w)) (wk_t cb (cv_F w) (cv_n w)) + d) % 16384
    · rw [e, mj_up_eq, mj_up_eq]
    · rw [mj_up_ne _ _ e, mj_up_ne _ _ e]
  · by_cases e : i = w
    · rw [e, mj_up_eq, mj_up_eq]
      exact ⟨rfl, rfl⟩
    · rw [mj_up_ne _ _ e, mj_up_ne _ _ e]
      exact h2 i (by omega)
  · by_cases e : i = w
    · rw [e, mj_up_eq, mj_up_eq]
      exact ⟨rfl, rfl⟩
    · rw [mj_up_ne _ _ e, mj_up_ne _ _ e]
      exact h3 i
theorem ls_zero : ls_J 0 0 (lx_run 0) := by
  refine ⟨_, _, _, _, _, _, _, fun _ => 0, rfl, ⟨by omega, rfl, fun j hj => ⟨rfl, Nat.le_refl _, fun z => (Nat.lt_irrefl 0 z).elim⟩, fun i hi => by omega, fun i hi => by omega, fun i j hi => by omega, ?_⟩, fun i hi => by omega, fun i => ⟨rfl, rfl⟩, fun j hj => absurd hj (by omega)⟩
  exact sy_cn0 16384
theorem ls_word {w : Nat} (hw : w < 66) (h : ls_J w 0 (lx_run (cv_F w))) : ∀ k, k ≤ cv_n w → ls_J w k (lx_run (cv_F w + k))
  | 0, _ => h
  | k + 1, hk => ls_sign hw (by omega) (ls_word hw h k (by omega))
theorem ls_all : ∀ w, w ≤ 66 → ls_J w 0 (lx_run (cv_F w))
  | 0, _ => ls_zero
  | w + 1, h => by
    have a := ls_blank (w := w) (by omega) (ls_word (by omega) (ls_all w (by omega)) (cv_n w) (Nat.le_refl _))
    have e : cv_F w + cv_n w + 1 = cv_F (w + 1) := (cv_tab w (by omega)).1
    rw [← e]
    exact a
theorem ls_380 : ls_J 66 0 (lx_run 380) := by
  have := ls_all 66 (Nat.le_refl _)
  rw [cv_66] at this
  exact this
/-- which of the reference's reserved words is the class's w-th -/
def pv_L : List Nat := [0, 1, 2, 3, 4, 5, 6, 7, 8, 9, 10, 11, 12, 13, 14, 15, 16, 17, 18, 19, 20, 21, 22, 23, 24, 25, 26, 27, 28, 29, 30, 31, 32, 33, 34, 35, 36, 37, 38, 39, 40, 41, 42, 43, 44, 45, 46, 47, 48, 49, 50, 51, 52, 54, 53, 55, 56, 57, 58, 59, 60, 65, 61, 62, 63, 64]
def pv (w : Nat) : Nat := pv_L.getD w 0
theorem pv_tab : ∀ w, w < 66 → pv w < 66 ∧ rv_n (pv w) = cv_n w ∧ ∀ i, i < cv_n w → mj_ch 5 (rv_F (pv w) + i) = nI (cb (cv_F w + i)) := by decide +kernel
theorem pv_onto : ∀ v, v < 66 → ∃ w, w < 66 ∧ pv w = v := by decide +kernel
