/-! Level 2: what stands behind a tone: length, ifpresent. -/
theorem wn_R.fr {E : en_S} {c r c' r' : t_S} {l l' l0 l1 i k : Nat} (h : wn_R E c r l l' i k) (o : c'.1 335 i = c.1 335 i ∧ c'.1 336 i = c.1 336 i) (hc : xD_c c c' l') (h6 : r'.1 956 k = r.1 956 k) (h7 : r'.2.1 957 k = r.2.1 957 k) (h8 : r'.2.1 958 k = r.2.1 958 k) (h1 : r'.1 961 k = r.1 961 k) (hl : l0 ≤ l) (hl1 : l' ≤ l1) : wn_R E c' r' l0 l1 i k := by
  obtain ⟨hm, cx, td, ba, kn, v⟩ := E
  obtain ⟨X, a1, a2, a3, a4, a5⟩ := h
  have po : ∀ o' a, px_o c i o' a → px_o c' i o' a := fun o' a g => by
    unfold px_o at *
    rw [o.1, o.2]
    exact g
  refine ⟨X, a1, by rw [h7]; exact a2, by rw [h8]; exact a3, by rw [h1]; exact a4, ?_⟩
  rcases a5 with ⟨b1, b2, b3⟩ | ⟨b1, b2, b3⟩ | ⟨b1, b2, e, b3, b4, b5, b6⟩
  · exact Or.inl ⟨b1, b2, po _ _ b3⟩
  · exact Or.inr (Or.inl ⟨b1, b2, po _ _ b3⟩)
  · exact Or.inr (Or.inr ⟨b1, po _ _ b2, e, by omega, by omega, by rw [h6]; exact b5.fr hc b4 h7, by rw [hc 852 e (by decide) (by decide) b4]; exact b6⟩)
theorem an_R.fr {E : en_S} {c r c' r' : t_S} {l l' l0 l1 i k : Nat} (h : an_R E c r l l' i k) (hc : xD_c c c' l') (h7 : r'.2.1 957 k = r.2.1 957 k) (h8 : r'.2.1 958 k = r.2.1 958 k) (h1 : r'.1 961 k = r.1 961 k) (hl : l0 ≤ l) (hl1 : l' ≤ l1) : an_R E c' r' l0 l1 i k := by
  obtain ⟨hm, cx, td, ba, kn, v⟩ := E
  obtain ⟨a1, e, a2, a3, a4, a5⟩ := h
  exact ⟨by rw [h8]; exact a1, e, by omega, by omega, by rw [h1]; exact a4.fr hc a3 h7, by rw [hc 852 e (by decide) (by decide) a3]; exact a5⟩
theorem tn_R.fr {E : en_S} {c r c' r' : t_S} {l l' l0 l1 t k : Nat} (h : tn_R E c r l l' t k) (h4 : c'.1 354 t = c.1 354 t) (h5 : c'.1 357 t = c.1 357 t) (hc : xD_c c c' l') (h6 : r'.1 956 k = r.1 956 k) (h7 : r'.2.1 957 k = r.2.1 957 k) (hl : l0 ≤ l) (hl1 : l' ≤ l1) : tn_R E c' r' l0 l1 t k := by
  obtain ⟨hm, cx, td, ba, kn, v⟩ := E
  obtain ⟨a1, e, a2, a3, a4, a5, a6⟩ := h
  exact ⟨by rw [h4]; exact a1, e, by omega, by omega, by rw [h6]; exact a4.fr hc a3 h7, by rw [hc 852 e (by decide) (by decide) a3]; exact a5, by rw [h5, hc 850 e (by decide) (by decide) a3]; exact a6⟩
theorem xk.adv {P : pc_S} {u q t e p l s i u' q' t' e' p' l' s' i' : Nat} (h : xk P u q t e p l s i u' q' t' e' p' l' s' i') (h1 : pc_p P u' < pc_p P (u' + 1)) (h2 : pc_c P u' ≤ pc_c P (u' + 1)) : xk P u q t e p l s i (u' + 1) q' t' e' p' l' s' i' := by
  unfold xk at *
  omega
/-- behind a templ's tone and its length -/
def vG (P : pc_S) (E : en_S) (lv : Int32) (u q m t e p l w o s i dd : Nat) (c r : t_S) (n : Nat) (c1 r1 : t_S) : Prop := ∃ u' q' mE m' t' e' p' l' s' i', xk P u q t e p l s i u' q' t' e' p' l' s' i' ∧ m < mE ∧ mE ≤ m' ∧ t < t' ∧ xp P E u' 0 0 q' m' t' e' p' l' w o s' i' (dd + 1) c1 r1 ∧ l2_fr (xWc t e p l w o) c c1 ∧ l2_fr (xWr m s) r r1 ∧ XT (wn_R E c1 r1 l l') (an_R E c1 r1 l l') (tn_R E c1 r1 l l') (sn_R c1) c1 r1 p' s' (m' - m - 1) lv (20 * (dd + 1) + 15) e e' t t' m mE ∧ xD E c c1 r1 l l' i i' m m' ∧ r1.1 960 n = -1 ∧ (c1.1 358 t = lv ∧ c1.1 356 t = -1) ∧ c1.1 360 t = 0 ∧ r1.1 961 n = 0 ∧ ((c1.1 359 t = 0 ∧ n = m ∧ mE = m') ∨ (n = mE ∧ m' = mE + 1 ∧ r1.1 955 n = 41 ∧ r1.1 959 n = nI m ∧ r1.1 961 m = 0 ∧ r1.1 960 m = -1 ∧ ∃ lo hi : Nat, lo ≤ hi ∧ hi ≤ 40 ∧ r1.2.1 957 n = lN lo ∧ r1.2.1 958 n = lN hi ∧ c1.1 359 t = nI (1 + 256 * lo + 65536 * hi)))
theorem xb.ebound {P : pc_S} {EB PB IB u q t e p l w o s i dd u' q' t' e' p' l' s' i' : Nat} (h : xb P EB PB IB u q t e p l w o s i dd) (k : xk P u q t e p l s i u' q' t' e' p' l' s' i') (hq : q' ≤ 3000) (hp : pc_p P u' ≤ 12000) (hc : pc_c P u' ≤ 6000) : e' ≤ 15998 ∧ t' ≤ 6000 ∧ p' ≤ 25600 ∧ l' ≤ 6000 ∧ o ≤ 288 ∧ s' ≤ 24000 ∧ w ≤ 3000 := by
  unfold xb at h
  unfold xk at k
  omega
theorem pj.ple {P : pc_S} {u d z q m : Nat} {c r : t_S} (h : pj P u d z q m c r) : pc_p P u ≤ 12000 ∧ pc_c P u ≤ 6000 ∧ q ≤ 3000 := ⟨h.cle.2.2.2, h.cle.1, by
  obtain ⟨B, L, W0, W, V, sl, H, T, n, t0, mm⟩ := P
  exact h.2.2.2.2.2.2.2.1⟩
theorem tm_95 {P : pc_S} {E : en_S} {lv : Int32} {EB PB IB u q m t e p l w o s i dd n : Nat} {c r c1 r1 : t_S} {rcC : RT_X6_readBase} {rcR : RT_X13_base} (hb : xb P EB PB IB u q t e p l w o s i dd) (hdd : dd ≤ 17) (G : vG P E lv u q m t e p l w o s i dd c r n c1 r1) : t_h2 (k_X6_readTempl_95 rcC (nI t) c1) (k_X13_templ_129 rcR (nI n) r1) (xTm_R P E lv u q m t e p l w o s i dd c r) := by
  obtain ⟨u', q', mE, m', t', e', p', l', s', i', xk1, hm, hmE, ht, X, fc, fr, hX, D, h60, ⟨h58, h56⟩, h360, h61, hw⟩ := G
  have bd := hb.ebound xk1 X.1.ple.2.2 X.1.ple.1 X.1.ple.2.1
  have ml := (X.1.mle (by decide)).1
  have hn : m ≤ n ∧ n < m' := by rcases hw with ⟨_, rfl, rfl⟩ | ⟨rfl, rfl, _⟩ <;> omega
  -- the end
  have fin : ∀ (u2 b : Nat) (c2 r2 : t_S), b ≤ 1 → xk P u q t e p l s i u2 q' t' e' p' l' s' i' → xp P E u2 0 0 q' m' t' e' p' l' w o s' i' (dd + 1) c2 r2 → l2_fr (fun b j => la_W b j ∨ (b = 360 ∧ j = t)) c1 c2 → l2_fr (fun b j => rn_W b j ∨ (b = 961 ∧ j = n)) r1 r2 → c2.1 360 t = nI b → r2.1 961 n = nI b → t_h2 (some (nI t, c2)) (k_X13_templ_149 rcR (nI n) r2) (xTm_R P E lv u q m t e p l w o s i dd c r) := by
    intro u2 b c2 r2 b1 k2 X2 g1 g2 v1 v2
    unfold k_X13_templ_149
    refine h2_lR ?_
    show t_h2 (some (nI t, c2)) (some (nI n, t_setI r2 950 32 (r2.1 950 32 - 1))) _
    have e32 : r2.1 950 32 - 1 = nI dd := by rw [X2.2.2.2.2.2.2.2.2.2.2, nI_pred]
    rw [e32]
    have g3 : l2_fr (fun b j => b = 950 ∧ j = 32) r2 (t_setI r2 950 32 (nI dd)) := l2_fr.set ⟨rfl, rfl⟩
    have v32 : (t_setI r2 950 32 (nI dd)).1 950 32 = nI dd := by simp only [l2_gI, reduceIte]
    generalize t_setI r2 950 32 (nI dd) = r3 at *
    refine h2_sm (Or.inl ⟨n, rfl, rfl, u2, q', m', t', e', p', l', s', i', k2, by omega, ?_, ?_, ?_, ?_, ?_, ?_, fun _ => by rw [(g1 356 t (by unfold la_W; omega)).1]; exact h56⟩)
    · obtain ⟨x1, x2, x3, x4, x5, x6, x7, x8, x9, x10, x11⟩ := X2
      exact ⟨x1.fr (l2_fr.rf (W := fun _ _ => False)) g3 (fun j y => y) (fun b i _ _ y => y) (fun b i _ _ y => y) (fun y => y) (fun j _ => by omega) (fun b i _ _ => by omega), x2.fr (l2_fr.rf (W := fun _ _ => False)) g3 (fun j _ _ y => y) (fun b i _ _ y => y) ⟨by omega, by omega⟩, x3, x4, x5, x6, x7, x8, by rw [(g3 950 36 (by omega)).1]; exact x9, by rw [(g3 950 26 (by omega)).1]; exact x10, v32⟩
    · exact fc.trans (g1.mono (fun b j y => y.elim x_la (fun z => by obtain ⟨rfl, rfl⟩ := z; exact xWc.itm (by decide) (by decide) (Nat.le_refl _))))
    · refine (fr.trans (g2.mono (fun b j y => y.elim x_rn (fun z => by obtain ⟨rfl, rfl⟩ := z; exact Or.inr (Or.inr (Or.inl ⟨by decide, by decide, hn.1⟩)))))).trans (g3.mono (fun b j y => Or.inl ⟨y.1, by omega⟩))
    · have aC : ∀ b j, 2 ≤ b → ¬ (b = 360 ∧ j = t) → c2.1 b j = c1.1 b j ∧ c2.2.1 b j = c1.2.1 b j := fun b j x y => ⟨(g1 b j (by unfold la_W; omega)).1, (g1 b j (by unfold la_W; omega)).2.1⟩
      have aR : ∀ b j, 951 ≤ b → ¬ (b = 961 ∧ j = n) → r3.1 b j = r1.1 b j ∧ r3.2.1 b j = r1.2.1 b j := fun b j x y => by
        have q1 := g3 b j (by omega)
        have q2 := g2 b j (by unfold rn_W; omega)
        exact ⟨q1.1.trans q2.1, q1.2.1.trans q2.2.1⟩
      have v3 : r3.1 961 n = nI b := by rw [(g3 961 n (by omega)).1]; exact v2
      have hc : xD_c c1 c2 l' := fun b e y1 y2 _ => (aC b e (by omega) (by omega)).1
      have T2 : XT (wn_R E c2 r3 l l') (an_R E c2 r3 l l') (tn_R E c2 r3 l l') (sn_R c2) c2 r3 p' s' (m' - m - 1) lv (20 * (dd + 1) + 15) e e' t t' m mE := by
        refine XT.ax (Nat.le_refl _) (Nat.le_refl _) hX ht hm ⟨fun j _ _ => ⟨(aC 335 j (by decide) (by omega)).1, (aC 336 j (by decide) (by omega)).1⟩, fun b j y1 y2 y3 _ _ => (aC b j (by omega) (by omega)).1, fun j _ _ _ => ⟨(aC 361 j (by decide) (by omega)).2, (aC 362 j (by decide) (by omega)).2⟩, fun j _ => (aC 337 j (by decide) (by omega)).2, fun b j y1 y2 y3 y4 _ => aR b j (by omega) (by rcases hw with ⟨_, rfl, _⟩ | ⟨rfl, _⟩ <;> omega), fun j _ => (aR 963 j (by decide) (by omega)).1⟩ (fun b y => (aC b t (by omega) (by omega)).1) (fun _ => ⟨(aC 361 t (by decide) (by omega)).2, (aC 362 t (by decide) (by omega)).2⟩) (fun b y => aR b m (by omega) (by omega)) (fun a k _ _ y3 y4 g => ?_) (fun a k _ _ y3 y4 g => ?_) (fun a k _ _ y3 y4 g => ?_) (fun a _ _ _ _ _ g => ?_) (Nat.le_refl _)
        · exact g.fr ⟨(aC 335 a (by decide) (by omega)).1, (aC 336 a (by decide) (by omega)).1⟩ hc (aR 956 k (by decide) (by omega)).1 (aR 957 k (by decide) (by omega)).2 (aR 958 k (by decide) (by omega)).2 (aR 961 k (by decide) (by rcases hw with ⟨_, rfl, _⟩ | ⟨rfl, _⟩ <;> omega)).1 (Nat.le_refl _) (Nat.le_refl _)
        · exact g.fr hc (aR 957 k (by decide) (by omega)).2 (aR 958 k (by decide) (by omega)).2 (aR 961 k (by decide) (by rcases hw with ⟨_, rfl, _⟩ | ⟨rfl, _⟩ <;> omega)).1 (Nat.le_refl _) (Nat.le_refl _)
        · exact g.fr (aC 354 a (by decide) (by omega)).1 (aC 357 a (by decide) (by omega)).1 hc (aR 956 k (by decide) (by omega)).1 (aR 957 k (by decide) (by omega)).2 (Nat.le_refl _) (Nat.le_refl _)
        · exact ⟨(aC 354 a (by decide) (by omega)).1.trans g.1, (aC 362 a (by decide) (by omega)).2.trans g.2⟩
      have he : e ≤ e' := by unfold xk at k2; omega
      rw [show 20 * (dd + 1) + 15 = 20 * dd + 15 + 20 by omega] at T2
      have XX := XT.wrap (m1 := m') (n := n) (by omega) T2 he ht hm hmE hn ?_
      · rw [show m' - m - 1 + 1 = m' - m by omega] at XX
        exact XX
      · refine ⟨by rw [(aC 358 t (by decide) (by omega)).1]; exact h58, b, b1, v1, v3, ?_⟩
        rw [(aC 359 t (by decide) (by omega)).1, (aR 955 n (by decide) (by omega)).1, (aR 959 n (by decide) (by omega)).1, (aR 957 n (by decide) (by omega)).2, (aR 958 n (by decide) (by omega)).2]
        rcases hw with ⟨y1, y2, y3⟩ | ⟨y1, y2, y3, y4, y5, y6, y7⟩
        · exact Or.inl ⟨y1, y2, y3⟩
        · exact Or.inr ⟨y1, y2, y3, y4, by rw [(aR 961 m (by decide) (by omega)).1]; exact y5, by rw [(aR 960 m (by decide) (by omega)).1]; exact y6, y7⟩
    · refine D.fr (fun b e y1 y2 _ => (g1 b e (by unfold la_W; omega)).1) (g1 846 7 (by unfold la_W; omega)).1 (g1 846 8 (by unfold la_W; omega)).1 (fun k y1 y2 => ?_)
      have aR : ∀ b j, 951 ≤ b → ¬ (b = 961 ∧ j = n) → r3.1 b j = r1.1 b j ∧ r3.2.1 b j = r1.2.1 b j := fun b j x y => by
        have q1 := g3 b j (by omega)
        have q2 := g2 b j (by unfold rn_W; omega)
        exact ⟨q1.1.trans q2.1, q1.2.1.trans q2.2.1⟩
      refine ⟨(aR 955 k (by decide) (by omega)).1, (aR 956 k (by decide) (by omega)).1, (aR 962 k (by decide) (by omega)).1, (aR 1003 k (by decide) (by omega)).1, (aR 957 k (by decide) (by omega)).2, (aR 958 k (by decide) (by omega)).2, fun z => (aR 961 k (by decide) (fun y => ?_)).1⟩
      -- the root is a templ's node
      obtain ⟨_, rfl⟩ := y
      have big : ∃ K : Nat, 20 ≤ K ∧ K ≤ 41 ∧ r1.1 955 k = nI K := by
        rcases hw with ⟨_, rfl, _⟩ | ⟨_, _, y3, _⟩
        · unfold XT px_tone at hX
          rcases hX with ⟨_, _, ⟨_, _, h⟩ | ⟨_, h, _⟩⟩ | ⟨_, h, _⟩ | ⟨h, _⟩ | ⟨h, _⟩ | ⟨K, C, h1, _, h2, _⟩
          · rcases h with h | h | h | ⟨h | h, _⟩ | ⟨h | h, _⟩ | ⟨⟨h, _⟩ | ⟨h, _⟩, _⟩
            · exact ⟨20, by decide, by decide, h.1⟩
            · exact ⟨21, by decide, by decide, h.1⟩
            · exact ⟨27, by decide, by decide, h.1⟩
            · exact ⟨22, by decide, by decide, h⟩
            · exact ⟨23, by decide, by decide, h⟩
            · exact ⟨24, by decide, by decide, h⟩
            · exact ⟨25, by decide, by decide, h⟩
            · exact ⟨26, by decide, by decide, h⟩
            · exact ⟨35, by decide, by decide, h⟩
          · exact ⟨28, by decide, by decide, h⟩
          · exact ⟨38, by decide, by decide, h⟩
          · exact ⟨30, by decide, by decide, h⟩
          · exact ⟨29, by decide, by decide, h⟩
          · exact ⟨K, by unfold px_row at h1; omega, by unfold px_row at h1; omega, h2⟩
        · exact ⟨41, by decide, by decide, y3⟩
      obtain ⟨K, k1, k2, k3⟩ := big
      rw [k3] at z
      rcases z with z | z
      · have := (nI_eq (b := 58) (by omega) (by decide)).mp z; omega
      · have := (nI_eq (b := 63) (by omega) (by decide)).mp z; omega
    · rw [(g3 960 n (by omega)).1, (g2 960 n (by unfold rn_W; omega)).1]
      exact h60
  unfold k_X6_readTempl_95 k_X13_templ_129
  rcases X.1.isW (x := 20) (by decide) with ⟨a, b⟩ | ⟨a, b⟩
  · rw [show (20 : Int32) = nI (pv 20) from rfl, b]
    refine h2_noR (by decide) (h2_bb _ (xp_took X (by decide) (x := 200 + 20) (by decide) a) (fun y r2 hy => ?_))
    obtain ⟨y0, c2⟩ := y
    obtain ⟨y1, y2, y3, y4⟩ := hy
    have y1 : y0 = 1 := y1
    subst y1
    have y2 : l2_fr la_W c1 c2 := y2
    refine h2_noL (show ¬ (1 : Int32) = 0 by decide) (h2_ckL (l2_ix (by omega) (by decide)) (h2_lL (h2_ckR (l2_ix (by omega) (by decide)) (h2_lR ?_))))
    show t_h2 (some (nI t, t_setI c2 360 (nI t).toNatClampNeg 1)) (k_X13_templ_149 rcR (nI n) (t_setI r2 961 (nI n).toNatClampNeg 1)) _
    rw [nI_clamp (n := t) (by omega), nI_clamp (n := n) (by omega)]
    have g1 : l2_fr (fun b j => b = 360 ∧ j = t) c2 (t_setI c2 360 t 1) := l2_fr.set ⟨rfl, rfl⟩
    have g2 : l2_fr (fun b j => b = 961 ∧ j = n) r2 (t_setI r2 961 n 1) := l2_fr.set ⟨rfl, rfl⟩
    have v1 : (t_setI c2 360 t 1).1 360 t = 1 := by simp only [l2_gI, reduceIte]
    have v2 : (t_setI r2 961 n 1).1 961 n = 1 := by simp only [l2_gI, reduceIte]
    generalize t_setI c2 360 t 1 = c3 at *
    generalize t_setI r2 961 n 1 = r3 at *
    rcases y4 with ⟨y4, y5, y6⟩ | ⟨f, p0, y4, y5⟩
    · have y4 : xp P E (u' + 1) 0 0 q' m' t' e' p' l' w o s' i' (dd + 1) c2 r2 := y4
      exact fin (u' + 1) 1 c3 r3 (by decide) (xk1.adv y5 y6) (y4.own g1 g2 (fun b j z => by omega) (fun b j z => by omega)) ((y2.mono (fun b j z => Or.inl z)).trans (g1.mono (fun b j z => Or.inr z))) ((y3.mono (fun b j z => Or.inl z)).trans (g2.mono (fun b j z => Or.inr z))) v1 v2
    · have y4 : lc_F c2 f p0 := y4
      refine h2_sep (fun x => xF f p0 t e p l w o w c x.2) (fun y => xR P f p0 m s r y.2) (l2_sm ?_) (xR.templ149 (rc := rcR) ?_ (nI n)) (fun x y hx hy => ?_)
      · refine (xF.of X (by omega) (by omega) ⟨Nat.le_refl _, by omega⟩ ⟨by unfold xk at xk1; omega, Nat.le_refl _⟩ fc y2 (fun b j z => x_la z) ⟨by unfold la_W; omega, by unfold la_W; omega, by unfold la_W; omega⟩ (fun j => by unfold la_W; omega) y4 xw.nil).fr g1 (fun b j z => by obtain ⟨rfl, rfl⟩ := z; exact xWc.itm (by decide) (by decide) (Nat.le_refl _)) (fun j _ _ => by omega) (by omega) (by omega) (fun j => by omega)
      · refine (((xR.of X.1 (by decide) y3 y5 (s := s')).sub fr (by omega) (by unfold xk at xk1; omega)).fr g2 (fun b j z => ?_) (fun j _ => by omega) (fun b i _ _ => by omega))
        obtain ⟨rfl, rfl⟩ := z
        exact Or.inr (Or.inr (Or.inl ⟨by decide, by decide, hn.1⟩))
      · exact Or.inr ⟨f, p0, hx, hy⟩
  · rw [show (20 : Int32) = nI (pv 20) from rfl, b]
    refine h2_ckR rfl (h2_eL (pj_nottook a) (h2_ckL rfl ?_))
    exact fin u' 0 c1 r1 (by decide) xk1 X l2_fr.rf l2_fr.rf h360 h61
