/-! Level 2: a component's own: a var, read. -/
section
variable {P : pc_S} {nt : Nat → Nat} {u q m a g t e p l s i st f p0 k v0 v1 v2 : Nat} {A B D : Nat → Nat} {c0 r0 c r : t_S}
theorem yR.own {X : Nat} (h : yR P f p0 r0 r) (hk : k < 8) (h979 : r.1 979 k = nI v2) (hv : v2 < 8) : t_hk ((f_X13_ownVar (nI k) (nI X) r).bind (fun r2 => k_X13_own_223 r2)) (yR P f p0 r0) := by
  obtain ⟨r5, e, h5, fr⟩ := h.1.hint
  rw [ov_eq hk e (by rw [(fr 979 k (by unfold hi_Wr nk_W rn_W nm_W; omega)).1]; exact h979) hv]
  obtain ⟨r6, e6, f6, _⟩ := ovQ_st k X (8 * k + v2) v2 r5
  rw [e6]
  have h6 : yR P f p0 r0 r6 := (yR.at ⟨h5, l2_fr.rf⟩ (h.2.trans (hi_mr fr))).fr f6 (fun b j y => by unfold mo_Wr; omega) (fun j _ => by omega) (fun b i _ _ => by omega)
  exact l2_bd _ (h6.mustBe _) (fun r7 h7 => h7.gvR)
theorem ov_end {c5 r8 c6 r9 c7 r10 c8 r11 c9 : t_S} {u5 l5 n X : Nat} {v : Nat → Nat} (hc : cw_R c r k v0 v1 v2 A B D) (hk : k < 8) (hX : X < 7934) (hv : v2 < 8) (hu : u < u5) (hl5 : l ≤ l5) (C5 : l2_fr (fun b j => hi_Wc l b j ∨ ((b = 434 ∨ b = 435) ∧ j = 8 * k + v2)) c c5) (R8 : l2_fr (fun b j => hi_Wr b j ∨ (975 ≤ b ∧ b ≤ 977 ∧ j = 8 * k + v2) ∨ (b = 950 ∧ 32 ≤ j ∧ j ≤ 34) ∨ (b = 979 ∧ j = k)) r r8) (w434 : c5.1 434 (8 * k + v2) = nI (66 + X)) (w435 : c5.1 435 (8 * k + v2) = -1) (w975 : r8.1 975 (8 * k + v2) = nI X) (w979 : r8.1 979 k = nI (v2 + 1)) (hh : (l5 = l ∧ r8.1 976 (8 * k + v2) = -1) ∨ (l5 = l + 1 ∧ ∃ X pl, X < 7934 ∧ pl ≤ 12000 ∧ hi_e c5 l 2 X pl (-2 - nI k) (nI (8 * k + v2)) 0 ∧ r8.1 976 (8 * k + v2) = nI X ∧ r8.1 977 (8 * k + v2) = nI pl)) (hV : en_V v2 9 D v) {u' q' m' t' e' p' l' s' i' : Nat} (G : ew_g P nt (E_v k v2 v) 0 0 1 u5 q m a g t e p l5 s i st (-1) (nI k) (-1) c5 r8 n c6 r9 u' q' m' t' e' p' l' s' i') (C67 : l2_fr (fun b j => b = 436 ∧ j = 8 * k + v2) c6 c7) (w436 : c7.1 436 (8 * k + v2) = nI e) (R910 : l2_fr (fun b j => b = 978 ∧ j = 8 * k + v2) r9 r10) (w978 : r10.1 978 (8 * k + v2) = nI n) (C78 : l2_fr la_W c7 c8) (R1011 : l2_fr rn_W r10 r11) (C89 : l2_fr (fun b j => b = 433 ∧ j = k) c8 c9) (w433 : c9.1 433 k = nI (v2 + 1)) (J9 : pj P (u' + 1) 0 0 q' m' c9 r11) : ow_G P nt k v0 v1 v2 u q m a g t e p l s i st c r c9 r11 := by
  obtain ⟨⟨o1, o2, o3, o4, o5, o6, o7, o8, o9⟩, M, eb, g4, g5, gz, g6, g7, g8, _, g32, gE⟩ := G
  obtain ⟨h0, h1, h2, h3, h4, h5, h6⟩ := hc
  have tt := g6.at
  have C69 : l2_fr (fun b j => la_W b j ∨ (b = 436 ∧ j = 8 * k + v2) ∨ (b = 433 ∧ j = k)) c6 c9 := ((C67.mono (fun b j y => Or.inr (Or.inl y))).trans (C78.mono (fun b j y => Or.inl y))).trans (C89.mono (fun b j y => Or.inr (Or.inr y)))
  have R911 : l2_fr (fun b j => rn_W b j ∨ (b = 978 ∧ j = 8 * k + v2)) r9 r11 := (R910.mono (fun b j y => Or.inr y)).trans (R1011.mono (fun b j y => Or.inl y))
  have M9 : mp P nt (u' + 1) q' m' a g t' (e' + 1) p' l' s' i' st (-1) (nI k) (-1) c9 r11 := M.go (by omega) (Nat.le_refl _) J9 C69 R911 (fun b j y => by unfold la_W; omega) (fun b j y => by unfold rn_W; omega)
  have C9 : l2_fr (ow_Wc k v0 v1 v2 t e p l) c c9 := ((C5.mono (V := ow_Wc k v0 v1 v2 t e p l) (fun b j y => by
    rcases y with (y | y | y) | y
    · exact Or.inl (x_la y)
    · exact Or.inl (y.1 ▸ y.2 ▸ xWc.i846 (by decide))
    · exact Or.inl (xWc.iln y.1 y.2.1 y.2.2)
    · exact Or.inr (Or.inr (Or.inr (Or.inr ⟨by omega, by omega, y.2, hv⟩))))).trans (g4.mono (V := ow_Wc k v0 v1 v2 t e p l) (fun b j y => Or.inl (y.sub (Nat.le_refl _) (Nat.le_refl _) (Nat.le_refl _) hl5 (Nat.le_refl _) (Nat.le_refl _))))).trans (C69.mono (V := ow_Wc k v0 v1 v2 t e p l) (fun b j y => by
    rcases y with y | y | y
    · exact Or.inl (x_la y)
    · exact Or.inr (Or.inr (Or.inr (Or.inr ⟨by omega, by omega, y.2, hv⟩)))
    · exact Or.inr (Or.inl ⟨by omega, y.2⟩)))
  have R9 : l2_fr (ow_Wr k v0 v1 v2 m s) r r11 := ((R8.mono (V := ow_Wr k v0 v1 v2 m s) (fun b j y => by
    rcases y with ((y | y) | y) | y | y | y
    · exact Or.inl (x_rn y)
    · exact Or.inl (x_nm y)
    · exact Or.inr (Or.inl ⟨y.1, by omega⟩)
    · exact Or.inr (Or.inr (Or.inr (Or.inr (Or.inr ⟨by omega, by omega, y.2.2, hv⟩))))
    · by_cases z : j = 32
      · exact Or.inl (Or.inl ⟨y.1, by omega⟩)
      · exact Or.inr (Or.inl ⟨y.1, by omega⟩)
    · exact Or.inr (Or.inr (Or.inl ⟨by omega, y.2⟩)))).trans (g5.mono (V := ow_Wr k v0 v1 v2 m s) (fun b j y => Or.inl y))).trans (R911.mono (V := ow_Wr k v0 v1 v2 m s) (fun b j y => by
    rcases y with y | y
    · exact Or.inl (x_rn y)
    · exact Or.inr (Or.inr (Or.inr (Or.inr (Or.inr ⟨by omega, by omega, y.2, hv⟩))))))
  have x975 : r9.1 975 (8 * k + v2) = nI X := by rw [(g5 975 _ (by unfold xWr; omega)).1]; exact w975
  have x979 : r9.1 979 k = nI (v2 + 1) := by rw [(g5 979 _ (by unfold xWr; omega)).1]; exact w979
  have D9 : ∀ j, j < v2 → D j < 7934 ∧ r9.1 975 (8 * k + j) = nI (D j) := fun j hj => ⟨(h6 j hj).1, by rw [(g5 975 _ (by unfold xWr; omega)).1, (R8 975 _ (by unfold hi_Wr nk_W rn_W nm_W; omega)).1]; exact (h6 j hj).2.2⟩
  have mE9 : ∀ n3, mE (k + 1) n3 r9 (E_v k v2 v) := fun n3 => ⟨rfl, Or.inr (Or.inl ⟨k, D, v2 + 1, by omega, hk, rfl, rfl, rfl, by omega, x979, by omega, D9, hV⟩)⟩
  have k911 : mK (k + 1) 0 r9 r11 := mK.of R911 (fun b j y => by unfold rn_W; omega)
  have k911' : mK (k + 1) (nt 3) r9 r11 := mK.of R911 (fun b j y => by unfold rn_W; omega)
  have cpc : cp_c (fun b j => la_W b j ∨ (b = 436 ∧ j = 8 * k + v2) ∨ (b = 433 ∧ j = k)) t' (e' + 1) p' l' := fun b j y => by unfold la_W at y; omega
  have cpr : cp_r (fun b j => rn_W b j ∨ (b = 978 ∧ j = 8 * k + v2)) m' s' := fun b j y => by unfold rn_W at y; omega
  have B1 : mB False (k + 1) (nt 3) c c5 r8 l l5 i i m m st st := by
    have f7 : ∀ b j, b = 7 ∨ b = 846 ∧ (j = 7 ∨ j = 8) → c5.1 b j = c.1 b j := fun b j y => (C5 b j (by unfold hi_Wc la_W; omega)).1
    rcases hh with ⟨rfl, _⟩ | ⟨rfl, X', pl, y1, y2, y3, y4, y5⟩
    · exact mB.nil (f7 846 7 (by omega)) (f7 846 8 (by omega)) (fun j => f7 7 j (by omega)) _ _ _ _
    · exact mB.link (Or.inr (Or.inr (Or.inl ⟨k, v2, v2 + 1, X', pl, by omega, hk, by omega, w979, by omega, y1, y2, y3, y4, y5⟩))) (f7 846 7 (by omega)) (f7 846 8 (by omega)) (fun j => f7 7 j (by omega)) _
  have B2 : mB False (k + 1) (nt 3) c5 c6 r9 l5 l' i i' m m' st st := mB.ofX g7 (mE9 _) (fun j => (g4 7 j (by unfold xWc; omega)).1) st
  have mle := J9.mle (by decide)
  have B3 : mB False (k + 1) (nt 3) c c6 r9 l l' i i' m m' st st := B1.trans B2 ⟨hl5, o7⟩ ⟨Nat.le_refl _, o9⟩ ⟨Nat.le_refl _, by omega⟩ ⟨Nat.le_refl _, Nat.le_refl _⟩ (fun b e x1 x2 x3 => (g4 b e (by unfold xWc; omega)).1) (fun k k1 k2 => by omega) (fun s s1 s2 => by omega) (mK.of g5 (fun b j y => by unfold xWr; omega)) (Nat.le_refl _) (Nat.le_refl _) (by omega)
  refine ⟨u' + 1, q', m', t', e' + 1, p', l', s', i', v0, v1, v2 + 1, A, B, va_up D v2 X, ⟨by omega, by omega, by omega, by omega, by omega, by omega, by omega, by omega, by omega⟩, M9, ?_, ⟨Nat.le_refl _, Nat.le_refl _, by omega, Nat.le_refl _, by omega⟩, C9, R9, B3.cap C69 R911 cpc cpr ⟨by unfold la_W; omega, by unfold la_W; omega⟩ (fun j => by unfold la_W; omega) (fun b j _ _ _ y1 y2 => by omega) k911' (Nat.le_refl _) (Nat.le_refl _), Or.inr ?_⟩
  · have ca' : ∀ b j, 429 ≤ b → b ≤ 434 → ¬ (b = 434 ∧ j = 8 * k + v2) → ¬ (b = 433 ∧ j = k) → c9.1 b j = c.1 b j := fun b j y1 y2 y3 y4 => by
      rw [(C69 b j (by unfold la_W; omega)).1, (g4 b j (by unfold xWc; omega)).1, (C5 b j (by unfold hi_Wc la_W; omega)).1]
    have ra' : ∀ b j, 971 ≤ b → b ≤ 979 → ¬ (975 ≤ b ∧ b ≤ 978 ∧ j = 8 * k + v2) → ¬ (b = 979 ∧ j = k) → r11.1 b j = r.1 b j := fun b j y1 y2 y3 y4 => by
      rw [(R911 b j (by unfold rn_W; omega)).1, (g5 b j (by unfold xWr; omega)).1, (R8 b j (by unfold hi_Wr nk_W rn_W nm_W; omega)).1]
    refine ⟨by omega, ⟨by rw [ca' 429 k (by decide) (by decide) (by omega) (by omega)]; exact h1.1, by rw [ra' 972 k (by decide) (by decide) (by omega) (by omega)]; exact h1.2⟩, ⟨by rw [ca' 431 k (by decide) (by decide) (by omega) (by omega)]; exact h2.1, by rw [ra' 974 k (by decide) (by decide) (by omega) (by omega)]; exact h2.2⟩, ⟨w433, by rw [(R911 979 k (by unfold rn_W; omega)).1]; exact x979⟩, fun i hi => ⟨(h4 i hi).1, by rw [ca' _ _ (by decide) (by decide) (by omega) (by omega)]; exact (h4 i hi).2.1, by rw [ra' _ _ (by decide) (by decide) (by omega) (by omega)]; exact (h4 i hi).2.2⟩, fun i hi => ⟨(h5 i hi).1, by rw [ca' _ _ (by decide) (by decide) (by omega) (by omega)]; exact (h5 i hi).2.1, by rw [ra' _ _ (by decide) (by decide) (by omega) (by omega)]; exact (h5 i hi).2.2⟩, ?_⟩
    refine rw_L.add (fun i hi => ⟨(h6 i hi).1, by rw [ca' _ _ (by decide) (by decide) (by omega) (by omega)]; exact (h6 i hi).2.1, by rw [ra' _ _ (by decide) (by decide) (by omega) (by omega)]; exact (h6 i hi).2.2⟩) hX ?_ ?_
    · rw [(C69 434 _ (by unfold la_W; omega)).1, (g4 434 _ (by unfold xWc; omega)).1]; exact w434
    · rw [(R911 975 _ (by unfold rn_W; omega)).1]; exact x975
  · have K6 : kv_R c9 r11 k v2 t' (e' + 1) p' l' s' m' := by
      obtain ⟨z1, z2⟩ := gz rfl
      refine ⟨e, e', t, t', l5, l', m, m', p', s', n, m' - m, v, ⟨Nat.le_refl _, Nat.le_refl _, Nat.le_refl _, Nat.le_refl _, Nat.le_refl _, Nat.le_refl _⟩, ?_, ?_, ⟨?_, ?_⟩, g6.own C69 R911 (Nat.le_refl _) (Nat.le_refl _) (Nat.le_refl _) ⟨Nat.le_refl _, Nat.le_refl _⟩ (fun b j y => by unfold la_W at y; omega) (fun b j y => by unfold rn_W at y; omega), ?_, (mE9 0).mono k911 (Nat.le_refl _) (Nat.le_refl _), ?_, ?_⟩
      · rw [(C89 436 _ (by omega)).1, (C78 436 _ (by unfold la_W; omega)).1]; exact w436
      · rw [(R1011 978 _ (by unfold rn_W; omega)).1]; exact w978
      · rw [(C69 335 _ (by unfold la_W; omega)).1]; exact z1
      · rw [(C69 336 _ (by unfold la_W; omega)).1]; exact z2
      · rw [(R911 960 _ (by unfold rn_W; omega)).1]; exact g8
      · rw [(C69 435 _ (by unfold la_W; omega)).1, (g4 435 _ (by unfold xWc; omega)).1]; exact w435
      · rw [(R911 976 _ (by unfold rn_W; omega)).1, (R911 977 _ (by unfold rn_W; omega)).1, (g5 976 _ (by unfold xWr; omega)).1, (g5 977 _ (by unfold xWr; omega)).1]
        rcases hh with ⟨_, y⟩ | ⟨rfl, X', pl, y1, y2, y3, y4, y5⟩
        · exact Or.inl y
        · exact Or.inr ⟨X', pl, l, y1, y2, by omega, y3.fr (fun b a1 a2 => by rw [(C69 b l (by unfold la_W; omega)).1, (g4 b l (by unfold xWc; omega)).1]), y4, y5⟩
    exact K6
end
