/-! Level 2: how many words lie ahead of a token; nodes of types, chains of nodes. -/
def tk_c (B : Nat → Nat) (L : Nat) : Nat → Nat
  | 0 => 0
  | u + 1 => tk_c B L u + (if tk_P B L u < L ∧ lx_le (B (tk_P B L u)) = true then 1 else 0)
theorem tk_words {B : Nat → Nat} {L : Nat} : ∀ u, 2 * tk_c B L u ≤ tk_E B L u + 1 ∧ (tk_E B L u < L → lx_le (B (tk_E B L u)) = true → 2 * tk_c B L u ≤ tk_E B L u) := by
  intro u
  induction u with
  | zero => exact ⟨Nat.zero_le _, fun _ _ => Nat.zero_le _⟩
  | succ u ih =>
    have ge : tk_E B L u ≤ tk_P B L u := lx_s_ge (B := B) (L := L) (L - tk_E B L u) (tk_E B L u) false rfl
    have e : tk_E B L (u + 1) = tk_e B L (tk_P B L u) := rfl
    rw [e]
    show 2 * (tk_c B L u + (if tk_P B L u < L ∧ lx_le (B (tk_P B L u)) = true then 1 else 0)) ≤ _ + 1 ∧ (_ → _ → 2 * (tk_c B L u + (if tk_P B L u < L ∧ lx_le (B (tk_P B L u)) = true then 1 else 0)) ≤ _)
    by_cases hp : tk_P B L u < L
    · have gt := (tk_e_gt (B := B) hp).1
      cases hl : lx_le (B (tk_P B L u)) with
      | true =>
        rw [if_pos ⟨hp, rfl⟩]
        have c : 2 * tk_c B L u ≤ tk_P B L u := by
          by_cases z : tk_P B L u = tk_E B L u
          · have := ih.2 (by omega) (by rw [← z]; exact hl)
            omega
          · omega
        refine ⟨by omega, fun a b => ?_⟩
        exfalso
        have er : tk_e B L (tk_P B L u) = lx_r lx_wd B L (tk_P B L u) := by
          unfold tk_e
          rw [if_pos hl]
        rw [er] at a b
        have q := (lx_r_all (g := lx_wd) (B := B) (L := L) (L - tk_P B L u) (tk_P B L u) rfl).2.2.2 a
        have q2 : ∀ x, lx_le x = true → lx_wd x = true := fun x hx => by unfold lx_wd; rw [hx]; rfl
        rw [q2 _ b] at q
        cases q
      | false =>
        rw [if_neg (fun x => by cases x.2)]
        exact ⟨by omega, fun _ _ => by omega⟩
    · rw [if_neg (fun x => hp x.1)]
      have ge2 : tk_P B L u ≤ tk_e B L (tk_P B L u) := by
        unfold tk_e
        rw [lx_r_end (by omega), lx_r_end (by omega), lx_r_end (by omega)]
        unfold lx_se
        split
        · omega
        · split
          · omega
          · split
            · omega
            · split <;> omega
      exact ⟨by omega, fun a _ => by omega⟩
/-- the words ahead of token u; where it stands -/
def pc_c (P : pc_S) (u : Nat) : Nat := tk_c P.1 P.2.1 u
def pc_p (P : pc_S) (u : Nat) : Nat := tk_P P.1 P.2.1 u
theorem pc_c_le (P : pc_S) (u : Nat) : pc_c P u ≤ pc_c P (u + 1) := Nat.le_add_right _ _
theorem pj.cle {P : pc_S} {u d z q m : Nat} {c r : t_S} (h : pj P u d z q m c r) : pc_c P u ≤ 6000 ∧ c.1 1 9 = nI (pc_p P u) ∧ r.1 950 6 = nI (pc_p P u) ∧ pc_p P u ≤ 12000 := by
  obtain ⟨B, L, W0, W, V, sl, H, T, n, t0, m0⟩ := P
  obtain ⟨⟨hc, hr, hR, ht⟩, _⟩ := h
  have a := (tk_words (B := B) (L := L) u).1
  have ge : tk_E B L u ≤ tk_P B L u := lx_s_ge (B := B) (L := L) (L - tk_E B L u) (tk_E B L u) false rfl
  have hL := hr.1.1
  have pl := hr.2.2.2.1
  refine ⟨?_, hc.2.2.2.2.2.2.1, hr.2.2.1, ?_⟩
  · show tk_c B L u ≤ 6000
    omega
  · show tk_P B L u ≤ 12000
    omega
/-- a word is one more -/
theorem pj.cword {P : pc_S} {u d z q m : Nat} {c r : t_S} (h : pj P u d z q m c r) (h8 : c.1 1 8 = 1) : pc_c P (u + 1) = pc_c P u + 1 := by
  obtain ⟨B, L, W0, W, V, sl, H, T, n, t0, m0⟩ := P
  obtain ⟨i, i1, i2, i3, ⟨o1, o2, _⟩, _⟩ := jt_word h.1 h8
  show tk_c B L u + (if tk_P B L u < L ∧ lx_le (B (tk_P B L u)) = true then 1 else 0) = tk_c B L u + 1
  rw [if_pos ⟨o1, o2⟩]
/-- a node of the class's types is made -/
def ta_at (c : t_S) (n : Nat) (k : Int32) : Prop := c.1 317 n = k ∧ c.1 318 n = -1 ∧ c.1 319 n = -1 ∧ c.1 320 n = -1 ∧ c.1 321 n = 0 ∧ c.2.1 322 n = 0 ∧ c.2.1 323 n = 0
def ta_W (n b j : Nat) : Prop := (317 ≤ b ∧ b ≤ 323 ∧ j = n) ∨ (b = 316 ∧ j = 8)
theorem ta_add {s : t_S} {n : Nat} {k : Int32} (h : s.1 316 8 = nI n) (hn : n < 3001) : t_hk (f_X11_add k s) (fun x => x.1 = nI n ∧ l2_fr (ta_W n) s x.2 ∧ x.2.1 316 8 = nI (n + 1) ∧ ta_at x.2 n k) := by
  unfold f_X11_add
  rw [h]
  refine l2_ck (show nI n < (3001 : Int32) from nI_lt (b := 3001) hn (by decide)) ?_
  rw [nI_1]
  refine l2_lt (l2_ck (l2_ix hn (by decide)) ?_)
  rw [nI_clamp (by omega)]
  refine l2_lt (l2_lt (l2_lt (l2_lt (l2_lt (l2_lt (l2_lt (l2_sm ⟨rfl, ?_, ?_, ?_⟩)))))))
  · exact (((((((l2_fr.set (Or.inr ⟨rfl, rfl⟩)).trans (l2_fr.set (Or.inl ⟨by decide, by decide, rfl⟩))).trans (l2_fr.set (Or.inl ⟨by decide, by decide, rfl⟩))).trans (l2_fr.set (Or.inl ⟨by decide, by decide, rfl⟩))).trans (l2_fr.set (Or.inl ⟨by decide, by decide, rfl⟩))).trans (l2_fr.set (Or.inl ⟨by decide, by decide, rfl⟩))).trans (l2_fr.setJ (Or.inl ⟨by decide, by decide, rfl⟩))).trans (l2_fr.setJ (Or.inl ⟨by decide, by decide, rfl⟩))
  · simp only [l2_gI, l2_gJI, Nat.reduceEqDiff, reduceIte]
  · refine ⟨?_, ?_, ?_, ?_, ?_, ?_, ?_⟩ <;> simp only [l2_gI, l2_gJI, l2_gJ, l2_gIJ, Nat.reduceEqDiff, reduceIte, eq_self]
/-- v nodes hang at m0, one beside another: the reference's -/
def ch_R (r : t_S) (m0 v : Nat) (G : Nat → Nat) : Prop := r.1 959 m0 = (if 0 < v then nI (G 0) else -1) ∧ ∀ j, j < v → G j < 13000 ∧ m0 < G j ∧ r.1 960 (G j) = (if j + 1 < v then nI (G (j + 1)) else -1) ∧ (j + 1 < v → G j < G (j + 1))
/-- .. the class's -/
def cc_R (c : t_S) (n0 v : Nat) (F : Nat → Nat) : Prop := c.1 318 n0 = (if 0 < v then nI (F 0) else -1) ∧ ∀ j, j < v → F j < 3001 ∧ n0 < F j ∧ c.1 319 (F j) = (if j + 1 < v then nI (F (j + 1)) else -1) ∧ (j + 1 < v → F j < F (j + 1))
theorem ch_lt {v : Nat} {G : Nat → Nat} (h : ∀ j, j < v → j + 1 < v → G j < G (j + 1)) : ∀ i j, i < j → j < v → G i < G j := by
  intro i j
  induction j with
  | zero => intro h; omega
  | succ j ih =>
    intro hi hj
    have a := h j (by omega) hj
    by_cases e : i = j
    · rw [e]; exact a
    · have := ih (by omega) (by omega)
      omega
theorem ch_m1 : (-1 : Int32) < 0 := by decide
theorem ch_last {r : t_S} {m0 v : Nat} {G : Nat → Nat} (h : ch_R r m0 v G) (hm : m0 < 13000) (hv : v < 1000000) : f_X13_lastOf (nI m0) r = some (if 0 < v then nI (G (v - 1)) else -1) := by
  apply l2_val
  unfold f_X13_lastOf
  obtain ⟨h1, h2⟩ := h
  refine l2_ck (l2_ix hm (by decide)) ?_
  rw [nI_clamp (by omega), h1]
  by_cases z : 0 < v
  · rw [if_pos z, if_pos z]
    refine l2_lp (fun w y => ∃ j, j + w = v ∧ j < v ∧ y = nI (G j)) ?_ (m := v) (Nat.lt_trans (show v < 1000000000 by omega) l2_N) ⟨0, by omega, z, rfl⟩
    rintro w y ⟨j, hj, hv2, rfl⟩
    show t_hk (k_X13_lastOf_7 (nI (G j)) r) _
    unfold k_X13_lastOf_7
    obtain ⟨g1, g2, g3, g4⟩ := h2 j hv2
    refine l2_no (nI_pos (by omega)) (l2_ck (l2_ix g1 (by decide)) ?_)
    rw [nI_clamp (by omega), g3]
    by_cases y : j + 1 < v
    · rw [if_pos y]
      have g := (h2 (j + 1) y).1
      exact l2_no (nI_pos (by omega)) (l2_sm ⟨w - 1, by omega, j + 1, by omega, y, rfl⟩)
    · rw [if_neg y]
      refine l2_ck ch_m1 (l2_mp (l2_sm ?_))
      rw [show v - 1 = j by omega]
      rfl
  · rw [if_neg z, if_neg z]
    refine ⟨_, l2_tnR (y := (-1 : Int32)) l2_tn.nil (by decide) (r := (-1 : Int32)) ?_, rfl⟩
    show k_X13_lastOf_7 (-1) r = _
    unfold k_X13_lastOf_7
    rw [if_pos ch_m1]
    rfl
/-- one more hangs there -/
theorem ch_hang {r : t_S} {m0 v x : Nat} {G : Nat → Nat} (h : ch_R r m0 v G) (hm : m0 < x) (hv : v < 1000000) (hx : x < 13000) (h0 : r.1 950 2 = 0) (hn : r.1 960 x = -1) (hG : ∀ j, j < v → G j < x) : t_hk (f_X13_hang (nI m0) (nI x) r) (fun r' => ch_R r' m0 (v + 1) (va_up G v x) ∧ l2_fr (fun b j => (b = 959 ∧ j = m0 ∧ v = 0) ∨ (b = 960 ∧ 0 < v ∧ j = G (v - 1))) r r') := by
  unfold f_X13_hang
  refine l2_ck h0 (l2_eq (ch_last h (by omega) hv) ?_)
  obtain ⟨h1, h2⟩ := h
  by_cases z : 0 < v
  · rw [if_pos z]
    obtain ⟨g1, g2, g3, g4⟩ := h2 (v - 1) (by omega)
    refine l2_ck (nI_pos' (by omega)) (l2_ck (l2_ix g1 (by decide)) ?_)
    rw [nI_clamp (by omega)]
    refine l2_lt (l2_sm ⟨⟨?_, fun j hj => ?_⟩, l2_fr.set (Or.inr ⟨rfl, z, rfl⟩)⟩)
    · rw [l2_sO (by decide), h1, if_pos z, if_pos (by omega), mj_up_ne _ _ (by omega)]
    · by_cases e : j = v
      · subst e
        rw [mj_up_eq, if_neg (by omega), l2_sI, mj_up_ne _ _ (by have := hG (j - 1) (by omega); omega)]
        exact ⟨hx, hm, hn, fun y => by omega⟩
      · obtain ⟨a1, a2, a3, a4⟩ := h2 j (by omega)
        rw [mj_up_ne _ _ e, l2_sI]
        refine ⟨a1, a2, ?_, fun _ => ?_⟩
        · by_cases e2 : j = v - 1
          · subst e2
            rw [mj_up_eq, if_pos (by omega), show v - 1 + 1 = v by omega, mj_up_eq]
          · have lt := ch_lt (fun j hj => (h2 j hj).2.2.2) j (v - 1) (by omega) (by omega)
            rw [mj_up_ne _ _ (by omega), a3, if_pos (by omega), if_pos (by omega), mj_up_ne _ _ (by omega)]
        · by_cases e2 : j + 1 = v
          · rw [e2, mj_up_eq]
            exact hG j (by omega)
          · rw [mj_up_ne _ _ e2]
            exact a4 (by omega)
  · rw [if_neg z]
    have e : v = 0 := by omega
    subst e
    refine l2_no (by decide) (l2_ck (l2_ix (by omega) (by decide)) ?_)
    rw [nI_clamp (by omega)]
    refine l2_lt (l2_sm ⟨⟨?_, fun j hj => ?_⟩, l2_fr.set (Or.inl ⟨rfl, rfl, rfl⟩)⟩)
    · rw [l2_sI, mj_up_eq, if_pos (by decide), mj_up_eq]
    · have e : j = 0 := by omega
      subst e
      rw [mj_up_eq, if_neg (by decide), l2_sO (by decide)]
      exact ⟨hx, hm, hn, fun y => by omega⟩
/-- .. and in the class: at the first, or behind the last -/
theorem cc_add0 {c c' : t_S} {n0 x : Nat} {F : Nat → Nat} (hx : n0 < x) (h3 : x < 3001) (e1 : c'.1 318 n0 = nI x) (e2 : c'.1 319 x = -1) : cc_R c' n0 1 (va_up F 0 x) := by
  refine ⟨by rw [if_pos (by decide), mj_up_eq]; exact e1, fun j hj => ?_⟩
  have e : j = 0 := by omega
  subst e
  rw [mj_up_eq, if_neg (by decide)]
  exact ⟨h3, hx, e2, fun y => by omega⟩
theorem cc_add {c c' : t_S} {n0 v x : Nat} {F : Nat → Nat} (h : cc_R c n0 v F) (z : 0 < v) (hx : n0 < x) (h3 : x < 3001) (hF : ∀ j, j < v → F j < x) (e0 : c'.1 318 n0 = c.1 318 n0) (e1 : c'.1 319 (F (v - 1)) = nI x) (e2 : c'.1 319 x = -1) (e3 : ∀ j, j + 1 < v → c'.1 319 (F j) = c.1 319 (F j)) : cc_R c' n0 (v + 1) (va_up F v x) := by
  obtain ⟨h1, h2⟩ := h
  refine ⟨?_, fun j hj => ?_⟩
  · rw [e0, h1, if_pos z, if_pos (by omega), mj_up_ne _ _ (by omega)]
  · by_cases e : j = v
    · subst e
      rw [mj_up_eq, if_neg (by omega)]
      exact ⟨h3, hx, e2, fun y => by omega⟩
    · obtain ⟨a1, a2, a3, a4⟩ := h2 j (by omega)
      rw [mj_up_ne _ _ e]
      refine ⟨a1, a2, ?_, fun _ => ?_⟩
      · by_cases e4 : j = v - 1
        · subst e4
          rw [if_pos (by omega), show v - 1 + 1 = v by omega, mj_up_eq]
          exact e1
        · rw [e3 j (by omega), a3, if_pos (by omega), if_pos (by omega), mj_up_ne _ _ (by omega)]
      · by_cases e4 : j + 1 = v
        · rw [e4, mj_up_eq]
          exact hF j (by omega)
        · rw [mj_up_ne _ _ e4]
          exact a4 (by omega)
