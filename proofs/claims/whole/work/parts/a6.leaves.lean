/-! Level 2: tones on both sides: where they begin, those of one token. -/
theorem XT.own {E : en_S} {c r c' r' : t_S} {p1 s1 f rr e0 e1 t0 t1 m0 mE l l' : Nat} {lv : Int32} {Wc Wr : Nat → Nat → Prop} (h : XT (wn_R E c r l l') (an_R E c r l l') (tn_R E c r l l') (sn_R c) c r p1 s1 f lv rr e0 e1 t0 t1 m0 mE) (ht : t0 < t1) (hm : m0 < mE) (fc : l2_fr Wc c c') (fr : l2_fr Wr r r') (w1 : ∀ b j, Wc b j → ¬ (335 ≤ b ∧ b ≤ 337) ∧ ¬ (354 ≤ b ∧ b ≤ 362) ∧ ¬ (848 ≤ b ∧ b ≤ 852)) (w2 : ∀ b j, Wr b j → b < 955 ∨ 963 < b) : XT (wn_R E c' r' l l') (an_R E c' r' l l') (tn_R E c' r' l l') (sn_R c') c' r' p1 s1 f lv rr e0 e1 t0 t1 m0 mE := by
  have aC : ∀ b j, (335 ≤ b ∧ b ≤ 337) ∨ (354 ≤ b ∧ b ≤ 362) ∨ (848 ≤ b ∧ b ≤ 852) → c'.1 b j = c.1 b j ∧ c'.2.1 b j = c.2.1 b j := fun b j x => ⟨(fc b j (fun y => by have := w1 b j y; omega)).1, (fc b j (fun y => by have := w1 b j y; omega)).2.1⟩
  have aR : ∀ b j, 955 ≤ b → b ≤ 963 → r'.1 b j = r.1 b j ∧ r'.2.1 b j = r.2.1 b j := fun b j x x2 => ⟨(fr b j (fun y => by have := w2 b j y; omega)).1, (fr b j (fun y => by have := w2 b j y; omega)).2.1⟩
  have hc : xD_c c c' l' := fun b e y1 y2 _ => (aC b e (by omega)).1
  refine XT.ax (Nat.le_refl _) (Nat.le_refl _) h ht hm ⟨fun j _ _ => ⟨(aC 335 j (by decide)).1, (aC 336 j (by decide)).1⟩, fun b j y1 y2 y3 _ _ => (aC b j (by omega)).1, fun j _ _ _ => ⟨(aC 361 j (by decide)).2, (aC 362 j (by decide)).2⟩, fun j _ => (aC 337 j (by decide)).2, fun b j y1 y2 y3 y4 _ => aR b j (by omega) (by omega), fun j _ => (aR 963 j (by decide) (by decide)).1⟩ (fun b y => (aC b t0 (by omega)).1) (fun _ => ⟨(aC 361 t0 (by decide)).2, (aC 362 t0 (by decide)).2⟩) (fun b y => aR b m0 (by omega) (by omega)) (fun a k _ _ y3 y4 g => ?_) (fun a k _ _ y3 y4 g => ?_) (fun a k _ _ y3 y4 g => ?_) (fun a _ _ _ _ _ g => ?_) (Nat.le_refl _)
  · exact g.fr ⟨(aC 335 a (by decide)).1, (aC 336 a (by decide)).1⟩ hc (aR 956 k (by decide) (by decide)).1 (aR 957 k (by decide) (by decide)).2 (aR 958 k (by decide) (by decide)).2 (aR 961 k (by decide) (by decide)).1 (Nat.le_refl _) (Nat.le_refl _)
  · exact g.fr hc (aR 957 k (by decide) (by decide)).2 (aR 958 k (by decide) (by decide)).2 (aR 961 k (by decide) (by decide)).1 (Nat.le_refl _) (Nat.le_refl _)
  · exact g.fr (aC 354 a (by decide)).1 (aC 357 a (by decide)).1 hc (aR 956 k (by decide) (by decide)).1 (aR 957 k (by decide) (by decide)).2 (Nat.le_refl _) (Nat.le_refl _)
  · exact ⟨(aC 354 a (by decide)).1.trans g.1, (aC 362 a (by decide)).2.trans g.2⟩
theorem xD.own {E : en_S} {c0 c r c' r' : t_S} {l l' i i' m m' : Nat} {Wc Wr : Nat → Nat → Prop} (h : xD E c0 c r l l' i i' m m') (fc : l2_fr Wc c c') (fr : l2_fr Wr r r') (w1 : ∀ b j, Wc b j → ¬ (848 ≤ b ∧ b ≤ 852) ∧ ¬ (b = 846 ∧ (j = 7 ∨ j = 8))) (w2 : ∀ b j, Wr b j → b < 955 ∨ b = 959 ∨ b = 960 ∨ b = 963) : xD E c0 c' r' l l' i i' m m' := by
  refine h.fr (fun b e y1 y2 _ => (fc b e (fun y => by have := w1 b e y; omega)).1) (fc 846 7 (fun y => by have := w1 _ _ y; omega)).1 (fc 846 8 (fun y => by have := w1 _ _ y; omega)).1 (fun k _ _ => ?_)
  have aR : ∀ b j, (955 ≤ b ∧ b ≤ 958) ∨ b = 961 ∨ b = 962 ∨ b = 1003 → r'.1 b j = r.1 b j ∧ r'.2.1 b j = r.2.1 b j := fun b j x => ⟨(fr b j (fun y => by have := w2 b j y; omega)).1, (fr b j (fun y => by have := w2 b j y; omega)).2.1⟩
  exact ⟨(aR 955 k (by decide)).1, (aR 956 k (by decide)).1, (aR 962 k (by decide)).1, (aR 1003 k (by decide)).1, (aR 957 k (by decide)).2, (aR 958 k (by decide)).2, fun _ => (aR 961 k (by decide)).1⟩
/-- what a tone comes to, with its node in the class -/
def tO_R (P : pc_S) (E : en_S) (lv : Int32) (u q m t e p l w o s i dd : Nat) (c r : t_S) (z : Int32 × Int32 × t_S) (y : Int32 × t_S) : Prop := (z.1 = nI t ∧ z.2.1 = 1 ∧ y.1 = nI m ∧ tG P E lv u q m t e p l w o s i dd c r z.2.2 y.2) ∨ ((∃ j, m ≤ j ∧ j < 13000 ∧ y.1 = nI j) ∧ (z.2.1 = 0 ∨ z.1 = nI t ∧ z.2.1 = 1) ∧ xf P t e p l w o w m s c r z.2.2 y.2)
noncomputable def tcC (rc : RT_X6_readBase) (lv x : Int32) (c : t_S) : Option (Int32 × Int32 × t_S) := (f_X6_node c).bind (fun r1 => if (r1.1 1 11) = (0 : Int32) then ((f_X10_add lv r1).bind (fun r2 => (rc.2.2.2.2.2.2.2.2.2.2.2.2.2.2.2 r2.1 x lv r2.2).bind (fun r3 => some (r2.1, (1 : Int32), r3)))) else some ((0 : Int32), (0 : Int32), r1))
theorem k35_eq {rc : RT_X6_readBase} {x lv : Int32} {c : t_S} : k_X6_readTempl_35 rc x lv c = (tcC rc lv x c).bind (fun z => if z.2.1 = 0 then some ((0 : Int32), z.2.2) else tlC rc z.1 z.2.2) := by
  unfold k_X6_readTempl_35 tcC
  cases h : f_X6_node c with
  | none => rfl
  | some r1 =>
    show (if (r1.1 1 11) = (0 : Int32) then _ else _) = (if (r1.1 1 11) = (0 : Int32) then _ else _ : Option (Int32 × Int32 × t_S)).bind _
    by_cases z : (r1.1 1 11) = (0 : Int32)
    · rw [if_pos z, if_pos z]
      cases h2 : f_X10_add lv r1 with
      | none => rfl
      | some r2 =>
        show (rc.2.2.2.2.2.2.2.2.2.2.2.2.2.2.2 r2.1 x lv r2.2).bind _ = ((rc.2.2.2.2.2.2.2.2.2.2.2.2.2.2.2 r2.1 x lv r2.2).bind _).bind _
        cases h3 : rc.2.2.2.2.2.2.2.2.2.2.2.2.2.2.2 r2.1 x lv r2.2 with
        | none => rfl
        | some r3 => rfl
    · rw [if_neg z, if_neg z]
      rfl
/-- a tone's nodes are made -/
def sG (P : pc_S) (E : en_S) (lv : Int32) (K u q m t e p l w o s i dd : Nat) (c r c2 r2 : t_S) : Prop := t < 6100 ∧ m < 12999 ∧ q < 3000 ∧ xp P E u 0 1 (q + 1) (m + 1) (t + 1) e p l w o s (i + 1) dd c2 r2 ∧ l2_fr (fun b j => (b = 845 ∧ j = 10) ∨ tm_W t b j) c c2 ∧ l2_fr (xn_W m) r r2 ∧ tm_at c2 t lv ∧ nd_at r2 m (nI K) (r.1 950 6) ∧ r2.1 962 m = nI i
theorem sG.w {t e p l w o b j : Nat} (h : (b = 845 ∧ j = 10) ∨ tm_W t b j) : xWc t e p l w o b j := by
  rcases h with ⟨rfl, rfl⟩ | ⟨h1, h2, rfl⟩ | ⟨rfl, rfl⟩
  · exact xWc.i845 (by decide)
  · exact xWc.itm h1 h2 (Nat.le_refl _)
  · exact xWc.i353
theorem xn_r {m s b j : Nat} (h : xn_W m b j) : xWr m s b j := by
  rcases h with ⟨h1, h2, h3⟩ | ⟨h1, h2⟩
  · exact Or.inr (Or.inr (Or.inl ⟨h1, h2, by omega⟩))
  · exact Or.inl ⟨h1, by omega⟩
theorem tn_mk {P : pc_S} {E : en_S} {lv : Int32} {EB PB IB K u q m t e p l w o s i dd : Nat} {x : Int32} {c r : t_S} {rc : RT_X6_readBase} {G : Int32 × t_S → Option (Int32 × t_S)} (X : xp P E u 0 0 q m t e p l w o s i dd c r) (hb : xb P EB PB IB u q t e p l w o s i dd) (hK : 20 ≤ K ∧ K ≤ 41) (hF : ∀ f p0 j r1, xR P f p0 m s r r1 → m ≤ j → j < 13000 → r1.1 950 5 = r.1 950 5 → r1.1 950 10 = r.1 950 10 → t_hk (G (nI j, r1)) (fun y => (∃ j, m ≤ j ∧ j < 13000 ∧ y.1 = nI j) ∧ xR P f p0 m s r y.2)) (main : ∀ c2 r2, sG P E lv K u q m t e p l w o s i dd c r c2 r2 → t_h2 ((rc.2.2.2.2.2.2.2.2.2.2.2.2.2.2.2 (nI t) x lv c2).bind (fun r3 => some (nI t, (1 : Int32), r3))) (G (nI m, r2)) (tO_R P E lv u q m t e p l w o s i dd c r)) : t_h2 (tcC rc lv x c) ((f_X13_node (nI K) 1 r).bind G) (tO_R P E lv u q m t e p l w o s i dd c r) := by
  have ple := X.1.ple
  have hb' := hb
  unfold xb at hb'
  unfold tcC
  refine h2_bb _ (xp_node X (by omega) s) (fun c1 y hy => ?_)
  obtain ⟨y0, r1⟩ := y
  rcases hy with ⟨hq, g1, hm, y1, y2, y3, y4, X1⟩ | ⟨g1, f, p0, y1, y2, ⟨j, j1, j2, j3⟩, y4, y5⟩
  rotate_left
  · have j3 : y0 = nI j := j3
    subst j3
    refine h2_noL y1.ne (h2_doneL (l2_imp (hF f p0 j r1 y2 j1 j2 y4 y5) (fun y hy => Or.inr ⟨hy.1, Or.inl rfl, f, p0, ?_, hy.2⟩)))
    exact xF.of X (by omega) (by omega) ⟨Nat.le_refl _, by omega⟩ ⟨Nat.le_refl _, Nat.le_refl _⟩ l2_fr.rf g1 (fun b j z => x_la z) ⟨by unfold la_W; omega, by unfold la_W; omega, by unfold la_W; omega⟩ (fun j => by unfold la_W; omega) y1 xw.nil
  have y1 : y0 = nI m := y1
  subst y1
  rw [if_pos hK] at X1
  have X1 : xp P E u 0 1 (q + 1) (m + 1) t e p l w o s (i + 1) dd c1 r1 := X1
  refine h2_ckL X1.1.f0.1 (h2_bL _ (tm_add lv X1.2.2.1 (by omega)) (fun z hz => ?_))
  obtain ⟨z0, c2⟩ := z
  obtain ⟨z1, z2, z3, z4⟩ := hz
  have z1 : z0 = nI t := z1
  subst z1
  have z2 : l2_fr (tm_W t) c1 c2 := z2
  refine main c2 r1 ⟨by omega, hm, hq, ?_, (g1.mono (fun b j h => Or.inl h)).trans (z2.mono (fun b j h => Or.inr h)), y2, z4, y3, y4 hK⟩
  obtain ⟨x1, x2, x3, x4, x5, x6, x7, x8, x9, x10, x11⟩ := X1
  refine ⟨x1.fr z2 (l2_fr.rf (W := fun _ _ => False)) (fun j => by unfold tm_W; omega) (fun b i _ _ => by unfold tm_W; omega) (fun b i _ _ => by unfold tm_W; omega) (by unfold tm_W; omega) (fun j _ y => y) (fun b i _ _ y => y), x2.fr z2 (l2_fr.rf (W := fun _ _ => False)) (fun j _ _ => by unfold tm_W; omega) (fun b i _ _ => by unfold tm_W; omega) ⟨fun y => y, fun y => y⟩, z3, ?_, ?_, ?_, ?_, ?_, x9, x10, x11⟩
  · rw [(z2 334 2 (by unfold tm_W; omega)).1]; exact x4
  · rw [(z2 334 4 (by unfold tm_W; omega)).1]; exact x5
  · rw [(z2 846 6 (by unfold tm_W; omega)).1]; exact x6
  · rw [(z2 845 7 (by unfold tm_W; omega)).1]; exact x7
  · rw [(z2 845 9 (by unfold tm_W; omega)).1]; exact x8
/-- a leaf, ahead of its last token -/
theorem tn_fin {P : pc_S} {E : en_S} {lv : Int32} {EB PB IB u q m t e p l w o s i dd u1 d1 e1 p1 l1 s1 : Nat} {c r c3 r3 : t_S} (hb : xb P EB PB IB u q t e p l w o s i dd) (hd : d1 = 1 ∨ c3.1 1 8 ≠ 1) (h4 : c3.1 1 8 ≠ 4) (X : xp P E u1 d1 1 (q + 1) (m + 1) (t + 1) e1 p1 l1 w o s1 (i + 1) dd c3 r3) (hu : u ≤ u1) (he : e ≤ e1 ∧ e1 ≤ e + 1) (hp : p ≤ p1 ∧ 2 * p1 + pc_p P u ≤ 2 * p + pc_p P (u1 + 1) + 1) (hl : l ≤ l1 ∧ l1 + pc_c P u ≤ l + pc_c P (u1 + 1)) (hs : s ≤ s1 ∧ s1 + pc_p P u ≤ s + pc_p P (u1 + 1)) (hpl : pc_p P u ≤ pc_p P u1) (hcl : pc_c P u ≤ pc_c P u1) (fc : l2_fr (xWc t e p l w o) c c3) (fr : l2_fr (xWr m s) r r3) (hX : px_tone (tn_R E c3 r3 l l1) c3 r3 p1 s1 e e1 t m) (D : xD E c c3 r3 l l1 i (i + 1) m (m + 1)) (h60 : r3.1 960 m = -1) (h61 : r3.1 961 m = 0) (h58 : c3.1 358 t = lv) (h59 : c3.1 359 t = 0) (h360 : c3.1 360 t = 0 ∧ c3.1 356 t = -1) : t_h2 ((f_X2_advance c3).bind (fun r3 => some (nI t, (1 : Int32), r3))) ((f_X13_next r3).bind (fun r4 => some (nI m, r4))) (tO_R P E lv u q m t e p l w o s i dd c r) := by
  have ple := X.1.ple
  have ml := (X.1.mle (by decide)).1
  have hb' := hb
  unfold xb at hb'
  refine h2_bb _ (xp_adv X (by decide) hd h4) (fun c4 r4 hw => h2_sm ?_)
  obtain ⟨g1, g2, g3⟩ := hw
  rcases g3 with ⟨X4, l1', l2'⟩ | ⟨f, p0, y1, y2⟩
  · refine Or.inl ⟨rfl, rfl, rfl, u1 + 1, q + 1, m + 1, t + 1, e1, p1, l1, s1, i + 1, ?_, by omega, by omega, X4, fc.trans (g1.mono (fun b j z => x_la z)), fr.trans (g2.mono (fun b j z => x_rn z)), ?_, D.own g1 g2 (fun b j y => by unfold la_W at y; omega) (fun b j y => by unfold rn_W at y; omega), ?_, ?_, ?_, ?_, ?_⟩
    · unfold xk
      omega
    · exact XT.own (Or.inl ⟨rfl, rfl, hX⟩) (by omega) (by omega) g1 g2 (fun b j y => by unfold la_W at y; omega) (fun b j y => by unfold rn_W at y; omega)
    · rw [(g2 960 m (by unfold rn_W; omega)).1]; exact h60
    · rw [(g2 961 m (by unfold rn_W; omega)).1]; exact h61
    · rw [(g1 358 t (by unfold la_W; omega)).1]; exact h58
    · rw [(g1 359 t (by unfold la_W; omega)).1]; exact h59
    · rw [(g1 360 t (by unfold la_W; omega)).1, (g1 356 t (by unfold la_W; omega)).1]; exact h360
  · refine Or.inr ⟨⟨m, Nat.le_refl _, by omega, rfl⟩, Or.inr ⟨rfl, rfl⟩, f, p0, ?_, (xR.of X.1 (by decide) g2 y2 (s := s1)).sub fr (by omega) hs.1⟩
    exact xF.of X (by omega) (by omega) ⟨Nat.le_refl _, by omega⟩ ⟨he.1, Nat.le_refl _⟩ fc g1 (fun b j z => x_la z) ⟨by unfold la_W; omega, by unfold la_W; omega, by unfold la_W; omega⟩ (fun j => by unfold la_W; omega) y1 xw.nil
