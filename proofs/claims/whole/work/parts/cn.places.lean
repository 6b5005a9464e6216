/-! Level 2: the places of a function: their names on both sides. -/
def fw_R (c r : t_S) (f n : Nat) (L : Nat → Nat) : Prop := n ≤ 8 ∧ c.1 440 f = nI n ∧ r.1 986 f = nI n ∧ rw_L c r 442 984 (8 * f) n L
/-- the component of a function, as far as it is told -/
def fh_R (c r : t_S) (f n2 Y : Nat) (ka : Int32) : Prop := n2 ≤ 8 ∧ r.1 950 55 = nI n2 ∧ r.1 982 f = nI Y ∧ (∀ k, k < n2 → ∃ v0 v1 v2 A B D, cw_R c r k v0 v1 v2 A B D) ∧ ((ka = -1 ∧ ∀ k, k < n2 → r.1 970 k ≠ nI Y) ∨ ∃ k, k < n2 ∧ ka = nI k ∧ r.1 970 k = nI Y ∧ ∀ j, j < n2 → r.1 970 j = nI Y → j = k)
section
variable {P : pc_S} {u d z q m f n n2 Y X k v0 v1 v2 p0 : Nat} {L A B D : Nat → Nat} {ka : Int32} {c0 r0 c r c' r' : t_S}
theorem fw_R.fr {Wc Wr : Nat → Nat → Prop} (h : fw_R c r f n L) (fc : l2_fr Wc c c') (fr : l2_fr Wr r r') (w1 : ¬ Wc 440 f ∧ ∀ i, i < n → ¬ Wc 442 (8 * f + i)) (w2 : ¬ Wr 986 f ∧ ∀ i, i < n → ¬ Wr 984 (8 * f + i)) : fw_R c' r' f n L := by
  obtain ⟨h1, h2, h3, h4⟩ := h
  exact ⟨h1, by rw [(fc 440 f w1.1).1]; exact h2, by rw [(fr 986 f w2.1).1]; exact h3, h4.fr fc fr w1.2 w2.2⟩
theorem fh_R.fr {Wc Wr : Nat → Nat → Prop} (h : fh_R c r f n2 Y ka) (fc : l2_fr Wc c c') (fr : l2_fr Wr r r') (w1 : ∀ b j, 429 ≤ b → b ≤ 434 → ¬ Wc b j) (w2 : ∀ b j, (b = 950 ∧ j = 55) ∨ (b = 982 ∧ j = f) ∨ (970 ≤ b ∧ b ≤ 979 ∧ b ≠ 976 ∧ b ≠ 977 ∧ b ≠ 978) → ¬ Wr b j) : fh_R c' r' f n2 Y ka := by
  obtain ⟨h1, h2, h3, h4, h5⟩ := h
  have g : ∀ k, r'.1 970 k = r.1 970 k := fun k => (fr 970 k (w2 _ _ (by omega))).1
  refine ⟨h1, by rw [(fr 950 55 (w2 _ _ (by omega))).1]; exact h2, by rw [(fr 982 f (w2 _ _ (by omega))).1]; exact h3, fun k hk => ?_, ?_⟩
  · obtain ⟨v0, v1, v2, A, B, D, h⟩ := h4 k hk
    exact ⟨v0, v1, v2, A, B, D, h.fr fc fr w1 (fun b j a1 a2 a3 => w2 b j (by omega))⟩
  · rcases h5 with ⟨y1, y2⟩ | ⟨k, y1, y2, y3, y4⟩
    · exact Or.inl ⟨y1, fun k hk => by rw [g]; exact y2 k hk⟩
    · exact Or.inr ⟨k, y1, y2, by rw [g]; exact y3, fun j hj e => y4 j hj (by rw [← g]; exact e)⟩
theorem ow_eq (h : cw_R c r k v0 v1 v2 A B D) (hk : k < 8) (hX : X < 7934) : ∃ v, f_X5_hasOwn (nI k) (nI (66 + X)) c = some v ∧ f_X13_isOwn (nI k) (nI X) r = some v ∧ (v = 0 ∨ v = 1) := by
  obtain ⟨v, e2, e3, e4⟩ := ow_is h hk hX
  obtain ⟨w, g2, g3⟩ := ow_has h hk hX
  refine ⟨v, ?_, e2, e3⟩
  rw [g2]
  rcases g3 with ⟨g3, no⟩ | ⟨g3, no⟩
  · rw [g3, e4.mpr no]
  · rcases e3 with e3 | e3
    · exact absurd (e4.mp e3) no
    · rw [g3, e3]
theorem lo_place (h : fw_R c r f n L) (hf : f < 40) (hX : X < 7934) : t_hk (f_X5_placeOf (nI f) (nI (66 + X)) c) (fun y => (∃ i, i < n ∧ y = nI i ∧ L i = X ∧ ∀ k, k < i → L k ≠ X) ∨ (y = -1 ∧ ∀ i, i < n → L i ≠ X)) := by
  obtain ⟨h1, h2, h3, h4⟩ := h
  unfold f_X5_placeOf
  refine l2_ck (nI_pos' (by omega)) (l2_ck (l2_ix hf (by decide)) ?_)
  rw [nI_clamp (n := f) (by omega), h2, show nI f * (8 : Int32) = nI (8 * f) from (pk_mul f 8).trans (by rw [Nat.mul_comm])]
  exact l2_bd _ (fd_row (a := 442) rfl (show 8 * f + n ≤ 320 by omega) (by decide) h4 hX h1) (fun y hy => l2_sm hy)
/-- the second loop of isLocal -/
theorem lo_51 (h : fh_R c r f n2 Y ka) (hf : f < 40) (hX : X < 7934) : ∀ l0 : Int32, (l0 = 0 ∨ l0 = 1) → ∃ v, t_loop (b_X13_isLocal_51 r) t_N (nI f, nI X, l0, 0) = some v ∧ (v = 0 ∨ v = 1) ∧ (v = 0 ↔ l0 = 0 ∧ ∀ j, j < n2 → ¬ (r.1 970 j = nI Y ∧ f_X13_isOwn (nI j) (nI X) r = some 1)) := by
  intro l0 h0
  obtain ⟨h1, h2, h3, h4, _⟩ := h
  refine l2_lp (fun w y => ∃ (j : Nat) (l3 : Int32), j + w = n2 + 1 ∧ j ≤ n2 ∧ y = (nI f, nI X, l3, nI j) ∧ (l3 = 0 ∨ l3 = 1) ∧ (l3 = 0 ↔ l0 = 0 ∧ ∀ i, i < j → ¬ (r.1 970 i = nI Y ∧ f_X13_isOwn (nI i) (nI X) r = some 1))) ?_ (m := n2 + 1) (Nat.lt_trans (show n2 + 1 < 1000000000 by omega) l2_N) ⟨0, l0, by omega, by omega, rfl, h0, fun y => ⟨y, fun i hi => absurd hi (Nat.not_lt_zero _)⟩, fun y => y.1⟩
  rintro w y ⟨j, l3, j1, j2, rfl, j3, j4⟩
  show t_hk (k_X13_isLocal_51 (nI f) (nI X) l3 (nI j) r) _
  unfold k_X13_isLocal_51
  rw [h2]
  by_cases z : n2 ≤ j
  · have e : j = n2 := by omega
    subst e
    exact l2_ck (nI_le (Nat.le_refl _) (by omega)) (l2_mp (l2_ck j3 (l2_sm ⟨j3, j4⟩)))
  · refine l2_no (nI_ge (by omega) (by omega)) ?_
    by_cases z3 : l3 = 0
    · subst z3
      obtain ⟨q1, q2⟩ := j4.mp rfl
      refine l2_ck rfl (l2_ck (l2_ix (by omega) (by decide)) (l2_ck (l2_ix hf (by decide)) ?_))
      rw [nI_clamp (n := j) (by omega), nI_clamp (n := f) (by omega), h3]
      have go : ¬ (r.1 970 j = nI Y ∧ f_X13_isOwn (nI j) (nI X) r = some 1) → t_hk (k_X13_isLocal_94 (nI f) (nI X) (nI j) r) (l2_nx (fun z => ∃ i, i < w ∧ ∃ (j : Nat) (l3 : Int32), j + i = n2 + 1 ∧ j ≤ n2 ∧ z = (nI f, nI X, l3, nI j) ∧ (l3 = 0 ∨ l3 = 1) ∧ (l3 = 0 ↔ l0 = 0 ∧ ∀ i, i < j → ¬ (r.1 970 i = nI Y ∧ f_X13_isOwn (nI i) (nI X) r = some 1))) (fun v => (v = 0 ∨ v = 1) ∧ (v = 0 ↔ l0 = 0 ∧ ∀ j, j < n2 → ¬ (r.1 970 j = nI Y ∧ f_X13_isOwn (nI j) (nI X) r = some 1)))) := fun no => by
        unfold k_X13_isLocal_94 k_X13_isLocal_95
        refine l2_sm ⟨w - 1, by omega, j + 1, 0, by omega, by omega, by rw [nI_1], Or.inl rfl, fun _ => ⟨q1, fun i hi => ?_⟩, fun _ => rfl⟩
        by_cases e : i = j
        · rw [e]; exact no
        · exact q2 i (by omega)
      by_cases zY : r.1 970 j = nI Y
      · refine l2_ck zY ?_
        obtain ⟨v0, v1, v2, A, B, D, hc⟩ := h4 j (by omega)
        obtain ⟨v, _, e2, e3⟩ := ow_eq hc (by omega) hX
        refine l2_eq e2 ?_
        rcases e3 with rfl | rfl
        · refine l2_ck rfl (go (fun y => ?_))
          rw [e2] at y
          exact absurd y.2 (by decide)
        · refine l2_no (by decide) ?_
          unfold k_X13_isLocal_95
          exact l2_sm ⟨w - 1, by omega, j + 1, 1, by omega, by omega, by rw [nI_1], Or.inr rfl, fun y => absurd y (by decide), fun y => absurd ⟨zY, e2⟩ (y.2 j (by omega))⟩
      · exact l2_no zY (go (fun y => zY y.1))
    · refine l2_no z3 (l2_mp (l2_ck j3 (l2_sm ⟨j3, fun y => absurd y z3, fun y => ?_⟩)))
      exact j4.mpr ⟨y.1, fun i hi => y.2 i (by omega)⟩
theorem lo_is (hw : fw_R c r f n L) (h : fh_R c r f n2 Y ka) (hf : f < 40) (hX : X < 7934) : ∃ v, f_X13_isLocal (nI f) (nI X) r = some v ∧ (v = 0 ∨ v = 1) ∧ (v = 0 ↔ (∀ i, i < n → L i ≠ X) ∧ ∀ j, j < n2 → ¬ (r.1 970 j = nI Y ∧ f_X13_isOwn (nI j) (nI X) r = some 1)) := by
  obtain ⟨h1, h2, h3, h4⟩ := hw
  have ixf : t_ix (nI f) 40 = true := l2_ix hf (by decide)
  have s0 := iq_all (b := b_X13_isLocal_5 r) (x0 := nI f) (x := nI X) (n := n) (R := fun j => r.1 984 (8 * f + j)) (F := fun l2 => t_loop (b_X13_isLocal_51 r) t_N (nI f, nI X, l2, 0)) (by omega) (fun l2 j hl hj => by
    show k_X13_isLocal_5 (nI f) (nI X) l2 (nI j) r = _
    unfold k_X13_isLocal_5 k_X13_isLocal_36 k_X13_isLocal_41
    rw [if_pos ixf, nI_clamp (n := f) (by omega), h3, if_neg (nI_ge hj (by omega)), show (8 : Int32) * nI f = nI (8 * f) from pk_mul 8 f, nI_add, nI_clamp (n := 8 * f + j) (by omega)]
    rcases hl with rfl | rfl
    · rw [if_pos rfl, if_pos rfl, if_pos (l2_ix (by omega) (by decide))]
      by_cases y : r.1 984 (8 * f + j) = nI X
      · rw [if_pos y, if_pos y, nI_succ]
      · rw [if_neg y, if_neg y, nI_succ]
    · rw [if_neg (by decide), if_neg (by decide), nI_succ]) (fun l2 => by
    show k_X13_isLocal_5 (nI f) (nI X) l2 (nI n) r = _
    unfold k_X13_isLocal_5
    rw [if_pos ixf, nI_clamp (n := f) (by omega), h3, if_pos (nI_le (Nat.le_refl _) (by omega))]) (lo_51 h hf hX)
  obtain ⟨v, e1, e2, e3⟩ := s0 0 (Or.inl rfl)
  refine ⟨v, e1, e2, e3.trans ⟨fun y => ⟨fun i hi e => y.2.1 i hi (by rw [(h4 i hi).2.2, e]), y.2.2⟩, fun y => ⟨rfl, fun i hi e => y.1 i hi ?_, y.2⟩⟩⟩
  have := (h4 i hi).1
  exact (nI_eq (by omega) (by omega)).mp ((h4 i hi).2.2.symm.trans e)
/-- what the class asks of its component: the same -/
theorem lo_above (h : fh_R c r f n2 Y ka) (hX : X < 7934) : ∃ v, f_X5_hasOwn ka (nI (66 + X)) c = some v ∧ (v = 0 ∨ v = 1) ∧ (v = 0 ↔ ∀ j, j < n2 → ¬ (r.1 970 j = nI Y ∧ f_X13_isOwn (nI j) (nI X) r = some 1)) := by
  obtain ⟨h1, h2, h3, h4, h5⟩ := h
  rcases h5 with ⟨rfl, y2⟩ | ⟨k, k1, rfl, k3, k4⟩
  · refine ⟨0, ?_, Or.inl rfl, fun _ j hj y => y2 j hj y.1, fun _ => rfl⟩
    unfold f_X5_hasOwn
    rw [if_pos (by decide)]
  · obtain ⟨v0, v1, v2, A, B, D, hc⟩ := h4 k k1
    obtain ⟨v, e1, e2, e3⟩ := ow_eq hc (by omega) hX
    refine ⟨v, e1, e3, fun y j hj z => ?_, fun y => ?_⟩
    · have e := k4 j hj z.1
      rw [e, e2, y] at z
      exact absurd z.2 (by decide)
    · rcases e3 with e3 | e3
      · exact e3
      · exact absurd ⟨k3, by rw [e2, e3]⟩ (y k k1)
/-- a place's name taken on both sides -/
def fp_G (P : pc_S) (u q m f n : Nat) (c r : t_S) (x : Int32 × t_S) (r' : t_S) : Prop := x.1 = nI n ∧ n < 8 ∧ (∃ X, X < 7934 ∧ c.2.1 1 10 = lN (66 + X) ∧ c.1 1 8 = 1 ∧ x.2.1 442 (8 * f + n) = nI (66 + X) ∧ r'.1 984 (8 * f + n) = nI X) ∧ x.2.1 443 (8 * f + n) = -1 ∧ r'.1 986 f = nI (n + 1) ∧ l2_fr (fun b j => la_W b j ∨ ((b = 442 ∨ b = 443) ∧ j = 8 * f + n)) c x.2 ∧ l2_fr (fun b j => nk_W b j ∨ (b = 984 ∧ j = 8 * f + n) ∨ (b = 986 ∧ j = f)) r r' ∧ pj P (u + 1) 0 0 q m x.2 r'
def fp_B (P : pc_S) (f n : Nat) (c r : t_S) (x : Int32 × t_S) (r' : t_S) : Prop := (x.1 = -1 ∨ x.1 = nI n) ∧ l2_fr (fun b j => la_W b j ∨ ((b = 442 ∨ b = 443) ∧ j = 8 * f + n ∧ n < 8)) c x.2 ∧ l2_fr (fun b j => nk_W b j ∨ (b = 984 ∧ j = 8 * f + n ∧ n < 8) ∨ (b = 986 ∧ j = f)) r r' ∧ (∃ n', n' ≤ 8 ∧ r'.1 986 f = nI n') ∧ pf P x.2 r'
theorem fp_place (J : pj P u d 0 q m c r) (hw : fw_R c r f n L) (h : fh_R c r f n2 Y ka) (hf : f < 40) (h12 : c.1 845 12 = nI f) (h14 : c.1 845 14 = ka) : t_h2 (f_X6_takePlace c) (f_X13_addLocal (nI f) r) (fun x r' => fp_G P u q m f n c r x r' ∨ fp_B P f n c r x r') := by
  obtain ⟨w1, w2, w3, w4⟩ := id hw
  have ixf : t_ix (nI f) 40 = true := l2_ix hf (by decide)
  have k100 : ∀ {c' : t_S} {f2 p : Nat}, lc_F c' f2 p → k_X6_takePlace_100 c' = some (-1, c') := fun h => by
    unfold k_X6_takePlace_100
    rw [if_neg h.ne]
  have k50 : ∀ {r' : t_S} {f2 p : Nat} (x : Int32), pr P f2 p r' → k_X13_addLocal_50 (nI f) x r' = some (t_setI r' 950 5 0) := fun x h => by
    unfold k_X13_addLocal_50 k_X13_addLocal_84
    rw [if_neg h.ne, (pr_next h).1]
    rfl
  have k30 : ∀ {r' : t_S} {f2 p : Nat} (x : Int32), pr P f2 p r' → k_X13_addLocal_30 (nI f) x r' = some (t_setI r' 950 5 0) := fun x h => by
    unfold k_X13_addLocal_30
    rw [if_pos ixf, (pr_next h).2, l2_bs, k50 x h, ite_self]
  have bad : ∀ {c' r' : t_S} {f2 p : Nat}, lc_F c' f2 p → pr P f2 p r' → l2_fr la_W c c' → l2_fr nk_W r r' → fp_B P f n c r ((-1 : Int32), c') (t_setI r' 950 5 0) := fun {c' r' f2 p} h1 h2 h3 h4 => by
    have g : l2_fr rn_W r' (t_setI r' 950 5 0) := l2_fr.set ⟨rfl, by decide, by decide⟩
    refine ⟨Or.inl rfl, h3.mono (fun b j y => Or.inl y), (h4.mono (fun b j y => Or.inl y)).trans (g.mono (fun b j y => Or.inl (Or.inl y))), ⟨n, w1, ?_⟩, _, _, h1, h2.dead⟩
    rw [(g 986 f (by unfold rn_W; omega)).1, (h4 986 f (by unfold nk_W rn_W nm_W; omega)).1]
    exact w3
  unfold f_X6_takePlace f_X13_addLocal
  by_cases h8 : c.1 1 8 = 1
  rotate_left
  · rw [if_neg h8]
    refine h2_bb _ (pj_noname J (by decide) h8) (fun c' x hx => ?_)
    obtain ⟨y1, y2, f2, p0, y3, y4⟩ := hx
    rw [if_neg y4.ne, k100 y3, k30 _ y4]
    exact h2_sm (Or.inr (bad y3 y4 y1 (y2.mono (fun b j y => Or.inl y))))
  obtain ⟨x, e1, X, hX, n1, n2', n3, J1⟩ := pj_name J h8
  have wd : f_X2_word c = nI (66 + X) := pj.wd n1
  rw [if_pos h8, wd, e1, l2_bs, if_pos J1.f0.2, n2', h12, h14]
  have nfc : l2_fr (fun _ _ => False) c c := l2_fr.rf
  have hw3 : fw_R c x.2 f n L := hw.fr nfc n3 ⟨fun y => y, fun i _ y => y⟩ ⟨by unfold nm_W; omega, fun i _ => by unfold nm_W; omega⟩
  have h3 : fh_R c x.2 f n2 Y ka := h.fr nfc n3 (fun b j _ _ y => y) (fun b j y => by unfold nm_W; omega)
  obtain ⟨v, a1, a2, a3⟩ := lo_is hw3 h3 hf hX
  obtain ⟨v', b1, b2, b3⟩ := lo_above h3 hX
  obtain ⟨y, c1, c2⟩ := lo_place hw hf hX
  rw [c1, l2_bs, a1, l2_bs]
  have flt : ∀ {f2 : Nat}, 0 < f2 ∧ f2 < 100 → t_h2 ((f_X2_fail (nI f2) c).bind (fun r1 => k_X6_takePlace_100 r1)) ((f_X13_fail (nI f2) (x.2.1 950 6) x.2).bind (fun r3 => k_X13_addLocal_30 (nI f) (nI X) r3)) (fun x r' => fp_G P u q m f n c r x r' ∨ fp_B P f n c r x r') := fun hf2 => by
    refine h2_bb _ (pj_fail J1 (by decide) hf2) (fun c' r' hw => ?_)
    obtain ⟨y1, y2, f2, p0, y3, y4⟩ := hw
    rw [k100 y3, k30 _ y4]
    exact h2_sm (Or.inr (bad y3 y4 y1 ((n3.mono (fun b j y => Or.inr y)).trans (y2.mono (fun b j y => Or.inl y)))))
  rcases c2 with ⟨i, i1, rfl, i3, _⟩ | ⟨rfl, no⟩
  · have vn : v ≠ 0 := fun e => (a3.mp e).1 i i1 i3
    rw [if_pos (nI_pos' (by omega)), if_neg vn]
    unfold k_X6_takePlace_64
    exact flt (f2 := 3) (by decide)
  rw [if_neg (by decide), b1, l2_bs]
  by_cases zv : v' = 0
  rotate_left
  · have vn : v ≠ 0 := fun e => zv (b3.mpr (a3.mp e).2)
    rw [if_neg zv, if_neg vn]
    unfold k_X6_takePlace_64
    exact flt (f2 := 3) (by decide)
  rw [if_pos zv, if_pos (a3.mpr ⟨no, b3.mp zv⟩), if_pos ixf, nI_clamp (n := f) (by omega), w2]
  unfold k_X13_addLocal_30
  rw [if_pos ixf, nI_clamp (n := f) (by omega), hw3.2.2.1]
  by_cases z8 : n = 8
  · rw [if_neg (show ¬ nI n < (8 : Int32) by rw [z8]; decide), if_pos (show nI n = (8 : Int32) by rw [z8]; rfl)]
    refine h2_bb _ (pj_fail (f := 5) J1 (by decide) (by decide)) (fun c' r' hw => ?_)
    obtain ⟨y1, y2, f2, p0, y3, y4⟩ := hw
    rw [k100 y3, k50 _ y4]
    exact h2_sm (Or.inr (bad y3 y4 y1 ((n3.mono (fun b j y => Or.inr y)).trans (y2.mono (fun b j y => Or.inl y)))))
  rw [if_pos (show nI n < (8 : Int32) from nI_lt (b := 8) (by omega) (by decide)), if_neg (show ¬ nI n = (8 : Int32) from fun e => z8 ((nI_eq (b := 8) (by omega) (by decide)).mp e))]
  unfold k_X6_takePlace_100 k_X13_addLocal_50
  rw [if_pos J1.f0.1, if_pos J1.f0.2, if_pos ixf, h12, if_pos ixf, nI_clamp (n := f) (by omega), w2, hw3.2.2.1, show nI f * (8 : Int32) = nI (8 * f) from (pk_mul f 8).trans (by rw [Nat.mul_comm]), show (8 : Int32) * nI f = nI (8 * f) from pk_mul 8 f, nI_add, nI_clamp (n := 8 * f + n) (by omega), wd]
  refine h2_ckL (l2_ix (show 8 * f + n < 320 by omega) (by decide)) (h2_lL (h2_lL (h2_ckR (l2_ix (show 8 * f + n < 320 by omega) (by decide)) (h2_lR (h2_lR ?_)))))
  have g1 : l2_fr (fun b j => (b = 442 ∨ b = 443) ∧ j = 8 * f + n) c (t_setI (t_setI c 442 (8 * f + n) (nI (66 + X))) 443 (8 * f + n) (-1)) := (l2_fr.set ⟨Or.inl rfl, rfl⟩).trans (l2_fr.set ⟨Or.inr rfl, rfl⟩)
  have v1 : (t_setI (t_setI c 442 (8 * f + n) (nI (66 + X))) 443 (8 * f + n) (-1)).1 442 (8 * f + n) = nI (66 + X) := by simp only [l2_gI, Nat.reduceEqDiff, reduceIte]
  have v2 : (t_setI (t_setI c 442 (8 * f + n) (nI (66 + X))) 443 (8 * f + n) (-1)).1 443 (8 * f + n) = -1 := by simp only [l2_gI, reduceIte]
  generalize t_setI (t_setI c 442 (8 * f + n) (nI (66 + X))) 443 (8 * f + n) (-1) = c3 at *
  have e3 : (t_setI x.2 984 (8 * f + n) (nI X)).1 986 f + 1 = nI (n + 1) := by
    simp only [l2_gI, Nat.reduceEqDiff, reduceIte]
    rw [hw3.2.2.1, nI_succ]
  rw [e3]
  have g2 : l2_fr (fun b j => (b = 984 ∧ j = 8 * f + n) ∨ (b = 986 ∧ j = f)) x.2 (t_setI (t_setI x.2 984 (8 * f + n) (nI X)) 986 f (nI (n + 1))) := (l2_fr.set (Or.inl ⟨rfl, rfl⟩)).trans (l2_fr.set (Or.inr ⟨rfl, rfl⟩))
  have v3 : (t_setI (t_setI x.2 984 (8 * f + n) (nI X)) 986 f (nI (n + 1))).1 984 (8 * f + n) = nI X := by simp only [l2_gI, Nat.reduceEqDiff, reduceIte]
  have v4 : (t_setI (t_setI x.2 984 (8 * f + n) (nI X)) 986 f (nI (n + 1))).1 986 f = nI (n + 1) := by simp only [l2_gI, reduceIte]
  generalize t_setI (t_setI x.2 984 (8 * f + n) (nI X)) 986 f (nI (n + 1)) = r3 at *
  have J3 : pj P u 1 0 q m c3 r3 := J1.fr g1 g2 (fun j => by omega) (fun b i _ _ => by omega) (fun b i _ _ => by omega) (by omega) (fun j _ => by omega) (fun b i _ _ => by omega)
  unfold k_X13_addLocal_84
  refine h2_bb _ (pj_adv J3 (by decide) (Or.inl rfl) (by rw [(g1 1 8 (by omega)).1, h8]; decide)) (fun c4 r4 hw4 => ?_)
  obtain ⟨y1, y2, y3⟩ := hw4
  have d12 : c4.1 845 12 = nI f := by rw [(y1 845 12 (by unfold la_W; omega)).1, (g1 845 12 (by omega)).1]; exact h12
  have d440 : c4.1 440 f = nI n := by rw [(y1 440 f (by unfold la_W; omega)).1, (g1 440 f (by omega)).1]; exact w2
  rw [d12, nI_clamp (n := f) (by omega), d440]
  refine h2_ckL ixf (h2_sm ?_)
  have C4 : l2_fr (fun b j => la_W b j ∨ ((b = 442 ∨ b = 443) ∧ j = 8 * f + n)) c c4 := (g1.mono (fun b j y => Or.inr y)).trans (y1.mono (fun b j y => Or.inl y))
  have R4 : l2_fr (fun b j => nk_W b j ∨ (b = 984 ∧ j = 8 * f + n) ∨ (b = 986 ∧ j = f)) r r4 := ((n3.mono (fun b j y => Or.inl (Or.inr y))).trans (g2.mono (fun b j y => Or.inr y))).trans (y2.mono (fun b j y => Or.inl (Or.inl y)))
  rcases y3 with J4 | y3
  · exact Or.inl ⟨rfl, by omega, ⟨X, hX, n1, h8, by rw [(y1 442 _ (by unfold la_W; omega)).1]; exact v1, by rw [(y2 984 _ (by unfold rn_W; omega)).1]; exact v3⟩, by rw [(y1 443 _ (by unfold la_W; omega)).1]; exact v2, by rw [(y2 986 _ (by unfold rn_W; omega)).1]; exact v4, C4, R4, J4⟩
  · exact Or.inr ⟨Or.inr rfl, C4.mono (fun b j y => y.elim Or.inl (fun y => Or.inr ⟨y.1, y.2, by omega⟩)), R4.mono (fun b j y => y.elim Or.inl (fun y => y.elim (fun y => Or.inr (Or.inl ⟨y.1, y.2, by omega⟩)) (fun y => Or.inr (Or.inr y)))), ⟨n + 1, by omega, by rw [(y2 986 _ (by unfold rn_W; omega)).1]; exact v4⟩, y3⟩
end
