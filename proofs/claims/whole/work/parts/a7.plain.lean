/-! Level 2: tones of one token: ? * true false omit, a TEXT. -/
theorem is_1 {x : Int32} {r : t_S} (h : f_X13_is x r = 1) : r.1 950 5 = 4 ∧ r.1 950 9 = x := by
  unfold f_X13_is at h
  by_cases a : r.1 950 5 = 4
  · rw [if_pos a] at h
    by_cases b : r.1 950 9 = x
    · exact ⟨a, b⟩
    · rw [if_neg b] at h; exact absurd h (by decide)
  · rw [if_neg a] at h; exact absurd h (by decide)
theorem k310p {rc : RT_X6_readBase} {a b d l4 : Int32} {s : t_S} (h : l4 = 63 ∨ l4 = 42 ∨ l4 = 221 ∨ l4 = 222 ∨ l4 = 223 ∨ l4 = 3) : k_X6_readTone_310 rc a b d l4 s = f_X2_advance s := by
  unfold k_X6_readTone_310
  cases f_X2_advance s with
  | none => rfl
  | some r1 =>
    show (if l4.toInt = 40 then _ else _) = some r1
    rcases h with rfl | rfl | rfl | rfl | rfl | rfl
    all_goals rw [if_neg (by decide), if_neg (by decide), if_neg (by decide), if_neg (by decide), if_neg (by decide), if_neg (by decide), if_neg (by decide), if_neg (by decide), if_neg (by decide), if_neg (by decide)]
noncomputable def nxR (K : Int32) (s : t_S) : Option (Int32 × t_S) := (f_X13_node K 1 s).bind (fun r1 => (f_X13_next r1.2).bind (fun r2 => some (r1.1, r2)))
theorem t136p {rc : RT_X13_base} {l1 K : Int32} {s : t_S} (h : l1 = 63 ∨ l1 = 42) : k_X13_tone_136 rc l1 K s = nxR K s := by
  unfold k_X13_tone_136 nxR
  cases f_X13_node K 1 s with
  | none => rfl
  | some r1 =>
    show (f_X13_next r1.2).bind _ = (f_X13_next r1.2).bind _
    cases f_X13_next r1.2 with
    | none => rfl
    | some r2 =>
      show (if l1.toInt = 40 then _ else _) = some (r1.1, r2)
      rcases h with rfl | rfl
      all_goals rw [if_neg (by decide), if_neg (by decide), if_neg (by decide), if_neg (by decide), if_neg (by decide)]
theorem wt94p {rc : RT_X13_base} {l1 K : Int32} {s : t_S} (h : l1 = 21 ∨ l1 = 22 ∨ l1 = 23) : k_X13_wordTone_94 rc l1 K s = nxR K s := by
  unfold k_X13_wordTone_94 nxR
  cases f_X13_node K 1 s with
  | none => rfl
  | some r1 =>
    show (if (0 : Int32) ≤ l1 then _ else _) = (f_X13_next r1.2).bind _
    have p0 : (0 : Int32) ≤ l1 := by rcases h with rfl | rfl | rfl <;> decide
    rw [if_pos p0]
    unfold k_X13_wordTone_125
    cases f_X13_next r1.2 with
    | none => rfl
    | some r2 =>
      show (if l1 = (26 : Int32) then _ else _) = some (r1.1, r2)
      rcases h with rfl | rfl | rfl
      all_goals rw [if_neg (by decide), if_neg (by decide), if_neg (by decide), if_pos (by decide)]
/-- the fault of the node itself -/
theorem nxF {P : pc_S} {f p0 m s j : Nat} {r0 r1 : t_S} (h : xR P f p0 m s r0 r1) (h1 : m ≤ j) (h2 : j < 13000) : t_hk ((f_X13_next r1).bind (fun r2 => some (nI j, r2))) (fun y => (∃ j, m ≤ j ∧ j < 13000 ∧ y.1 = nI j) ∧ xR P f p0 m s r0 y.2) := l2_bd _ h.next (fun r2 hr => l2_sm ⟨⟨j, h1, h2, rfl⟩, hr⟩)
/-- one token: the class's node tells kind C -/
theorem tn_plain {P : pc_S} {E : en_S} {lv : Int32} {EB PB IB K u q m t e p l w o s i dd p1 : Nat} {c r c2 r2 c3 : t_S} (hb : xb P EB PB IB u q t e p l w o s i dd) (S : sG P E lv K u q m t e p l w o s i dd c r c2 r2) (hK : 20 ≤ K ∧ K ≤ 41 ∧ K ≠ 28 ∧ K ≠ 30 ∧ K ≠ 40) (h1 : c.1 1 8 ≠ 1) (h4 : c.1 1 8 ≠ 4) (fc : l2_fr (fun b j => ((b = 354 ∨ b = 357) ∧ j = t) ∨ (b = 334 ∧ j = 4) ∨ (b = 337 ∧ p ≤ j)) c2 c3) (h34 : c3.1 334 4 = nI p1) (hp : p ≤ p1 ∧ 2 * p1 + pc_p P u ≤ 2 * p + pc_p P (u + 1) + 1) (hpl : pc_p P u ≤ pc_p P (u + 1)) (hX : ∀ TN, px_tone TN c3 r2 p1 s e e t m) : t_h2 ((f_X2_advance c3).bind (fun r3 => some (nI t, (1 : Int32), r3))) ((f_X13_next r2).bind (fun r4 => some (nI m, r4))) (tO_R P E lv u q m t e p l w o s i dd c r) := by
  obtain ⟨ht, hm, hq, X, g1, g2, ⟨t1, t2, t3, t4, t5, t6, t7, t8, t9⟩, ⟨d1, d2, d3, d4, d5, d6, d7⟩, d8⟩ := S
  have e8 : c3.1 1 8 = c.1 1 8 := by rw [(fc 1 8 (by omega)).1, (g1 1 8 (by unfold tm_W; omega)).1]
  have X3 : xp P E u 0 1 (q + 1) (m + 1) (t + 1) e p1 l w o s (i + 1) dd c3 r2 := by
    obtain ⟨x1, x2, x3, x4, x5, x6, x7, x8, x9, x10, x11⟩ := X
    refine ⟨x1.fr fc (l2_fr.rf (W := fun _ _ => False)) (fun j => by omega) (fun b i _ _ => by omega) (fun b i _ _ => by omega) (by omega) (fun j _ y => y) (fun b i _ _ y => y), x2.fr fc (l2_fr.rf (W := fun _ _ => False)) (fun j _ _ => by omega) (fun b i _ _ => by omega) ⟨fun y => y, fun y => y⟩, ?_, ?_, h34, ?_, ?_, ?_, x9, x10, x11⟩
    · rw [(fc 353 9 (by omega)).1]; exact x3
    · rw [(fc 334 2 (by omega)).1]; exact x4
    · rw [(fc 846 6 (by omega)).1]; exact x6
    · rw [(fc 845 7 (by omega)).1]; exact x7
    · rw [(fc 845 9 (by omega)).1]; exact x8
  have aC : ∀ b, 358 ≤ b → b ≤ 360 → c3.1 b t = c2.1 b t := fun b x y => (fc b t (by omega)).1
  have cle := pc_c_le P u
  refine tn_fin hb (Or.inr (by rw [e8]; exact h1)) (by rw [e8]; exact h4) X3 (Nat.le_refl _) ⟨Nat.le_refl _, by omega⟩ hp ⟨Nat.le_refl _, by omega⟩ ⟨Nat.le_refl _, by omega⟩ (Nat.le_refl _) (Nat.le_refl _) ((g1.mono (fun b j y => sG.w y)).trans (fc.mono (fun b j y => ?_))) (g2.mono (fun b j y => xn_r y)) (hX _) (xD.plain (K := K) d1 (by omega) (by omega) ?_ ?_ (fun _ => ⟨d8, by omega⟩)) d6 d7 (by rw [aC 358 (by decide) (by decide)]; exact t5) (by rw [aC 359 (by decide) (by decide)]; exact t6) ⟨by rw [aC 360 (by decide) (by decide)]; exact t7, by rw [(fc 356 t (by omega)).1]; exact t3⟩
  · rcases y with ⟨y, rfl⟩ | ⟨rfl, rfl⟩ | ⟨rfl, y⟩
    · exact xWc.itm (by omega) (by omega) (Nat.le_refl _)
    · exact xWc.i334 (Or.inr rfl)
    · exact xWc.ipl y
  · rw [(fc 846 7 (by omega)).1, (g1 846 7 (by unfold tm_W; omega)).1]
  · rw [(fc 846 8 (by omega)).1, (g1 846 8 (by unfold tm_W; omega)).1]
section
variable {P : pc_S} {E : en_S} {lv x : Int32} {EB PB IB u q m t e p l w o s i dd : Nat} {c r : t_S} {rc rc2 : RT_X6_readBase} {rR : RT_X13_base}
theorem pj.plt' {P : pc_S} {u d z q m : Nat} {c r : t_S} (h : pj P u d z q m c r) (h4 : c.1 1 8 ≠ 4) : pc_p P u < pc_p P (u + 1) := by
  obtain ⟨B, L, W0, W, V, sl, H, T, n, t0, mm⟩ := P
  obtain ⟨⟨hc, hr, hR, ht⟩, _⟩ := h
  obtain ⟨cT, cI, ⟨a1, a2, a3, a4, a5, a6⟩, cu, c7, c8, _, _, _, c5⟩ := hc
  have un : tk_P B L u < L := by
    by_cases z : u + 1 < n
    · exact (a5 u z).1
    · have e : n - 1 = u := by omega
      rw [e] at a6
      rcases a6 with y | y
      · exact absurd (c8.trans y.2) h4
      · exact y.1
  exact (tk_P_mono un).1
/-- ? and * -/
theorem tn_any (hC : ∀ a b d s, rc.2.2.2.2.2.2.2.2.2.2.2.2.2.2.2 a b d s = m_X6_readTone rc2 a b d s) (X : xp P E u 0 0 q m t e p l w o s i dd c r) (hb : xb P EB PB IB u q t e p l w o s i dd) (h : c.1 1 8 = nI 63 ∨ c.1 1 8 = nI 42) : t_h2 (tcC rc lv x c) (m_X13_tone rR r) (tO_R P E lv u q m t e p l w o s i dd c r) := by
  obtain ⟨K, v, hv, h8, h9, h5, hk⟩ : ∃ (K : Nat) (v : Int32), ((K = 20 ∧ v = 63) ∨ (K = 21 ∧ v = 42)) ∧ c.1 1 8 = v ∧ r.1 950 9 = v ∧ r.1 950 5 = 4 ∧ v ≠ 1 := by
    rcases h with h | h
    · rcases X.1.is (x := 63) (by decide) with ⟨_, b⟩ | ⟨b, _⟩
      · exact ⟨20, 63, Or.inl ⟨rfl, rfl⟩, h, (is_1 b).2, (is_1 b).1, by decide⟩
      · exact absurd h b
    · rcases X.1.is (x := 42) (by decide) with ⟨_, b⟩ | ⟨b, _⟩
      · exact ⟨21, 42, Or.inr ⟨rfl, rfl⟩, h, (is_1 b).2, (is_1 b).1, by decide⟩
      · exact absurd h b
  have n4 : c.1 1 8 ≠ 4 := by rw [h8]; rcases hv with ⟨_, rfl⟩ | ⟨_, rfl⟩ <;> decide
  have plt := X.1.plt' n4
  have eR : m_X13_tone rR r = nxR (nI K) r := by
    unfold m_X13_tone
    rw [h5, h9, if_neg (by decide), if_neg (by decide), if_neg (by decide)]
    unfold f_X13_is
    rw [h5, h9, if_pos rfl]
    rcases hv with ⟨rfl, rfl⟩ | ⟨rfl, rfl⟩
    · rw [if_pos (by decide), if_pos rfl]
      exact t136p (Or.inl rfl)
    · rw [if_pos (by decide), if_neg (by decide), if_pos rfl]
      exact t136p (Or.inr rfl)
  rw [eR]
  unfold nxR
  refine tn_mk X hb (by omega) (fun f p0 j r1 z1 z2 z3 _ _ => nxF z1 z2 z3) (fun c2 r2 S => ?_)
  rw [hC]
  have S' := S
  obtain ⟨ht, hm, hq, X2, g1, g2, ta, nd, d8⟩ := S
  have e8 : c2.1 1 8 = v := by rw [(g1 1 8 (by unfold tm_W; omega)).1]; exact h8
  have eC : ∀ k : Int32, (K = 20 → k = 1) → (K = 21 → k = 2) → m_X6_readTone rc2 (nI t) x lv c2 = f_X2_advance (t_setI c2 354 t k) := by
    intro k k1 k2
    unfold m_X6_readTone
    rw [e8]
    rcases hv with ⟨rfl, rfl⟩ | ⟨rfl, rfl⟩
    · rw [if_neg (by decide), if_neg (by decide), if_neg (by decide), if_neg (by decide), if_neg (by decide), if_pos (by decide), if_pos (l2_ix (by omega) (by decide)), nI_clamp (by omega), k1 rfl]
      exact k310p (Or.inl rfl)
    · rw [if_neg (by decide), if_neg (by decide), if_neg (by decide), if_pos (by decide), if_pos (l2_ix (by omega) (by decide)), nI_clamp (by omega), k2 rfl]
      exact k310p (Or.inr (Or.inl rfl))
  have fin : ∀ k : Int32, (K = 20 ∧ k = 1) ∨ (K = 21 ∧ k = 2) → t_h2 ((f_X2_advance (t_setI c2 354 t k)).bind (fun r3 => some (nI t, (1 : Int32), r3))) ((f_X13_next r2).bind (fun r4 => some (nI m, r4))) (tO_R P E lv u q m t e p l w o s i dd c r) := by
    intro k hk
    have w3 : (t_setI c2 354 t k).1 354 t = k := by simp only [l2_gI, reduceIte]
    refine tn_plain (p1 := p) hb S' (by omega) (by rw [h8]; exact ‹v ≠ 1›) n4 (l2_fr.set (Or.inl ⟨Or.inl rfl, rfl⟩)) ?_ ⟨Nat.le_refl _, by omega⟩ (by omega) (fun TN => Or.inl ⟨rfl, S'.2.2.2.2.2.2.2.1.2.2.2.2.1, ?_⟩)
    · simp only [l2_gI, Nat.reduceEqDiff, reduceIte]
      exact X2.2.2.2.2.1
    · rw [w3]
      rcases hk with ⟨rfl, rfl⟩ | ⟨rfl, rfl⟩
      · exact Or.inl ⟨nd.1, rfl⟩
      · exact Or.inr (Or.inl ⟨nd.1, rfl⟩)
  rcases hv with ⟨rfl, rfl⟩ | ⟨rfl, rfl⟩
  · rw [eC 1 (fun _ => rfl) (fun y => absurd y (by decide))]
    exact fin 1 (Or.inl ⟨rfl, rfl⟩)
  · rw [eC 2 (fun y => absurd y (by decide)) (fun _ => rfl)]
    exact fin 2 (Or.inr ⟨rfl, rfl⟩)
/-- true, false, omit -/
theorem tn_truth {rR2 : RT_X13_base} (hC : ∀ a b d s, rc.2.2.2.2.2.2.2.2.2.2.2.2.2.2.2 a b d s = m_X6_readTone rc2 a b d s) (hR : ∀ s, rR.2.2.2.2.2.2.2.2.2.2.2 s = m_X13_wordTone rR2 s) (X : xp P E u 0 0 q m t e p l w o s i dd c r) (hb : xb P EB PB IB u q t e p l w o s i dd) {y : Nat} (hy : 21 ≤ y ∧ y ≤ 23) (h : c.1 1 8 = nI (200 + y)) : t_h2 (tcC rc lv x c) (m_X13_tone rR r) (tO_R P E lv u q m t e p l w o s i dd c r) := by
  have hb' := hb
  unfold xb at hb'
  have ple := X.1.ple
  have pvy : pv y = y := by rcases (by omega : y = 21 ∨ y = 22 ∨ y = 23) with rfl | rfl | rfl <;> rfl
  have h10 : r.1 950 5 = 1 ∧ r.1 950 10 = nI y := by
    rcases X.1.isW (x := y) (by omega) with ⟨_, b⟩ | ⟨b, _⟩
    · unfold f_X13_isWord at b
      by_cases z : r.1 950 5 = 1
      · rw [if_pos z] at b
        by_cases z2 : r.1 950 10 = nI (pv y)
        · exact ⟨z, by rw [z2, pvy]⟩
        · rw [if_neg z2] at b; exact absurd b (by decide)
      · rw [if_neg z] at b; exact absurd b (by decide)
    · exact absurd h b
  have n1 : c.1 1 8 ≠ 1 := by rw [h]; intro z; have := (nI_eq (b := 1) (by omega) (by decide)).mp z; omega
  have n4 : c.1 1 8 ≠ 4 := by rw [h]; intro z; have := (nI_eq (b := 4) (by omega) (by decide)).mp z; omega
  have plt := X.1.plt' n4
  have bs : ∀ s : t_S, (rR.2.2.2.2.2.2.2.2.2.2.2 s).bind (fun r5 => some (r5.1, r5.2)) = rR.2.2.2.2.2.2.2.2.2.2.2 s := fun s => by cases rR.2.2.2.2.2.2.2.2.2.2.2 s <;> rfl
  obtain ⟨K, hK, eR⟩ : ∃ K : Nat, ((y = 21 ∧ K = 24) ∨ (y = 22 ∧ K = 25) ∨ (y = 23 ∧ K = 27)) ∧ m_X13_tone rR r = nxR (nI K) r := by
    unfold m_X13_tone
    rw [if_pos h10.1, bs, hR]
    unfold m_X13_wordTone
    rw [h10.2]
    rcases (by omega : y = 21 ∨ y = 22 ∨ y = 23) with rfl | rfl | rfl
    · exact ⟨24, Or.inl ⟨rfl, rfl⟩, by rw [if_pos (by decide), if_pos (by decide)]; exact wt94p (Or.inl rfl)⟩
    · exact ⟨25, Or.inr (Or.inl ⟨rfl, rfl⟩), by rw [if_pos (by decide), if_neg (by decide), if_pos (by decide)]; exact wt94p (Or.inr (Or.inl rfl))⟩
    · exact ⟨27, Or.inr (Or.inr ⟨rfl, rfl⟩), by rw [if_pos (by decide), if_neg (by decide), if_neg (by decide), if_pos (by decide)]; exact wt94p (Or.inr (Or.inr rfl))⟩
  rw [eR]
  unfold nxR
  refine tn_mk X hb (by omega) (fun f p0 j r1 z1 z2 z3 _ _ => nxF z1 z2 z3) (fun c2 r2 S => ?_)
  rw [hC]
  have S' := S
  obtain ⟨ht, hm, hq, X2, g1, g2, ta, nd, d8⟩ := S
  have e8 : c2.1 1 8 = nI (200 + y) := by rw [(g1 1 8 (by unfold tm_W; omega)).1]; exact h
  unfold m_X6_readTone
  rw [e8]
  -- a truth
  have truth : ∀ (tr : Int32) (wv : Int64) (z : Int), f_X0_truth tr c2 = wv → vl_c z 1 1 wv → (K = 24 ∧ z = 1 ∨ K = 25 ∧ z = 0) → nI (200 + y) = 221 ∨ nI (200 + y) = 222 → t_h2 (((f_X0_poolCell (f_X0_truth tr c2) c2).bind (fun r18 => (f_X10_setLiteral (nI t) r18.1 r18.2).bind (fun r19 => k_X6_readTone_310 rc2 (nI t) x lv (nI (200 + y)) r19))).bind (fun r3 => some (nI t, (1 : Int32), r3))) ((f_X13_next r2).bind (fun r4 => some (nI m, r4))) (tO_R P E lv u q m t e p l w o s i dd c r) := by
    intro tr wv z e1 hw hKz hy2
    rw [e1, Option.bind_assoc]
    refine h2_bL _ (pl_cell wv X2.2.2.2.2.1 (by omega)) (fun a ha => ?_)
    obtain ⟨a0, c3⟩ := a
    obtain ⟨a1, a2, a3, a4⟩ := ha
    have a1 : a0 = nI p := a1
    subst a1
    have a2 : l2_fr (fun b j => (b = 334 ∧ j = 4) ∨ (b = 337 ∧ j = p)) c2 c3 := a2
    have a3 : c3.1 334 4 = nI (p + 1) := a3
    have a4 : c3.2.1 337 p = wv := a4
    rw [Option.bind_assoc]
    refine h2_bL _ (tm_lit (t := t) (p := p) (s := c3) ht (by omega)) (fun c4 hc4 => ?_)
    obtain ⟨b1, b2, b3⟩ := hc4
    rw [a4, vl_kind hw, if_neg (by decide)] at b2
    rw [k310p (Or.inr (Or.inr (hy2.elim Or.inl (fun z => Or.inr (Or.inl z)))))]
    refine tn_plain (p1 := p + 1) hb S' (by omega) n1 n4 ((a2.mono (fun b j y => ?_)).trans (b1.mono (fun b j y => Or.inl y))) (by rw [(b1 334 4 (by omega)).1]; exact a3) ⟨by omega, by omega⟩ (by omega) (fun TN => Or.inl ⟨rfl, S'.2.2.2.2.2.2.2.1.2.2.2.2.1, Or.inr (Or.inr (Or.inr (Or.inr (Or.inl ⟨?_, b2, p, by omega, b3, ?_⟩))))⟩)
    · rcases y with y | ⟨y1, y2⟩
      · exact Or.inr (Or.inl y)
      · exact Or.inr (Or.inr ⟨y1, by omega⟩)
    · rw [nd.1]
      rcases hKz with ⟨rfl, _⟩ | ⟨rfl, _⟩
      · exact Or.inl rfl
      · exact Or.inr rfl
    · rw [(b1 337 p (by omega)).2.1, a4, nd.1]
      rcases hKz with ⟨rfl, rfl⟩ | ⟨rfl, rfl⟩
      · rw [if_pos (show nI 24 = (24 : Int32) from rfl)]; exact hw
      · rw [if_neg (by decide)]; exact hw
  rcases hK with ⟨rfl, rfl⟩ | ⟨rfl, rfl⟩ | ⟨rfl, rfl⟩
  · rw [if_neg (by decide), if_neg (by decide), if_neg (by decide), if_neg (by decide), if_neg (by decide), if_neg (by decide), if_pos (by decide)]
    exact truth 1 4113 1 rfl ⟨by decide, by decide, by decide⟩ (Or.inl ⟨rfl, rfl⟩) (Or.inl rfl)
  · rw [if_neg (by decide), if_neg (by decide), if_neg (by decide), if_neg (by decide), if_neg (by decide), if_neg (by decide), if_neg (by decide), if_pos (by decide)]
    exact truth 0 17 0 rfl ⟨by decide, by decide, by decide⟩ (Or.inr ⟨rfl, rfl⟩) (Or.inr rfl)
  · rw [if_neg (by decide), if_neg (by decide), if_neg (by decide), if_neg (by decide), if_neg (by decide), if_neg (by decide), if_neg (by decide), if_neg (by decide), if_pos (by decide), if_pos (l2_ix (by omega) (by decide)), nI_clamp (by omega)]
    show t_h2 ((k_X6_readTone_310 rc2 (nI t) x lv (nI (200 + 23)) (t_setI c2 354 t 5)).bind _) _ _
    rw [k310p (by decide)]
    have w3 : (t_setI c2 354 t 5).1 354 t = 5 := by simp only [l2_gI, reduceIte]
    refine tn_plain (p1 := p) hb S' (by omega) n1 n4 (l2_fr.set (Or.inl ⟨Or.inl rfl, rfl⟩)) ?_ ⟨Nat.le_refl _, by omega⟩ (by omega) (fun TN => Or.inl ⟨rfl, S'.2.2.2.2.2.2.2.1.2.2.2.2.1, ?_⟩)
    · simp only [l2_gI, Nat.reduceEqDiff, reduceIte]
      exact X2.2.2.2.2.1
    · rw [w3]
      exact Or.inr (Or.inr (Or.inl ⟨nd.1, rfl⟩))
end
