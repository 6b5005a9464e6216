/-! Level 2: bases on both sides: active WORD. -/
section
variable {P : pc_S} {E : en_S} {x : Int32} {EB PB IB u q m t e p l w o s i dd : Nat} {c r : t_S} {rc rc2 : RT_X6_readBase} {rR rW : RT_X13_base}
noncomputable def acC (c : t_S) : Option t_S := (f_X0_emit 8 0 c).bind (fun r11 => (f_X6_link 7 r11.1 0 r11.2).bind (fun r12 => some r12))
noncomputable def acR (m : Nat) (r : t_S) : Option (Int32 × t_S) := if t_ix (nI m) 13000 = true then t_let (t_setI r 961 ((nI m).toNatClampNeg) (r.1 950 6)) (fun s1 => (f_X13_freeName s1).bind (fun r3 => t_let (t_setJ r3.2 957 ((nI m).toNatClampNeg) r3.1.toInt64) (fun s2 => (f_X13_next s2).bind (fun r4 => some (nI m, r4))))) else none
theorem xF.link {f p0 w' : Nat} {c0 c1 : t_S} (h : xF f p0 t e p l w o w' c0 c1) (a b d : Int32) : f_X6_link a b d c1 = some c1 := by
  unfold f_X6_link
  rw [if_neg h.word, h.stay.2.1]
  rfl
theorem xF.ac1 {f p0 w' : Nat} {c0 c1 : t_S} (h : xF f p0 t e p l w o w' c0 c1) : t_hk (acC c1) (xF f p0 t e p l w o w' c0) := by
  unfold acC
  refine l2_bd _ (h.emit _ _) (fun v hv => ?_)
  rw [hv.1.link]
  exact l2_sm hv.1
theorem xR.ac1 {f p0 : Nat} {r0 r1 : t_S} (hm : m < 13000) (h : xR P f p0 m s r0 r1) : t_hk (acR m r1) (fun y => xR P f p0 m s r0 y.2) := by
  unfold acR
  refine l2_ck (l2_ix hm (by decide)) (l2_lt ?_)
  rw [nI_clamp (n := m) (by omega)]
  exact l2_bd _ ((h.set (b := 961) (Or.inl ⟨by decide, by decide, Nat.le_refl _⟩)).name) (fun y hy => l2_lt (l2_bd _ ((hy.setJ ⟨by decide, by decide, Nat.le_refl _⟩).next) (fun z hz => l2_sm hz)))
theorem bs_active (hC : ∀ a s, rc.1 a s = m_X6_readBase rc2 a s) (hW : ∀ s, rR.2.2.2.2.2.2.2.2.2.2.1 s = m_X13_wordBase rW s) (T : xT rW) (X : xp P E u 0 0 q m t e p l w o s i dd c r) (hb : xb P EB PB IB u q t e p l w o s i dd) (h : c.1 1 8 = nI (200 + 36)) : t_h2 (bsC rc x c) (m_X13_base rR r) (bO_R P E u q m t e p l w o s i dd c r) := by
  have hb' := hb
  unfold xb at hb'
  have mle := (X.1.mle (by decide)).1
  refine bs_runs (y := 36) (K := 63) (FC := acC) (FR := acR m) (by decide) hC hW T X hb h (fun s => ?_) (fun s => ?_) (fun f p0 c1 r1 y1 y2 => h2_sep _ _ y1.ac1 (y2.ac1 (by omega)) (fun z y hz hy => Or.inr ⟨f, p0, hz, hy⟩)) ?_
  · unfold k_X6_readBase_326 acC
    refine congrArg (Option.bind _) (funext fun r1 => ?_)
    rw [if_neg (by decide), if_neg (by decide), if_neg (by decide), if_neg (by decide), if_neg (by decide), if_pos (by decide)]
  · unfold k_X13_wordBase_199 acR
    refine congrArg (Option.bind _) (funext fun r1 => ?_)
    rw [if_neg (by decide), if_neg (by decide), if_pos (by decide)]
  intro c2 r2 c4 r4 B fc fr X4 k8 k1 hL k6 k5 pl1 pl2
  have fcB := B.fc
  have cle := X.1.cle
  have cle4 := X4.1.cle
  obtain ⟨hm, hq, X2, g1, g2, d1, d2, d3, d4, d5, d6, d7⟩ := B
  have ple := X4.1.ple
  have fc4 : l2_fr (xWc t e p l w o) c c4 := fcB.1.trans (fc.mono (fun b j y => fn_Cx y))
  have fr4 : l2_fr (xWr m s) r r4 := fcB.2.trans (fr.mono (fun b j y => by
    rcases y with y | ⟨y, rfl⟩
    · exact x_rn y
    · exact Or.inr (Or.inr (Or.inl ⟨by omega, by omega, Nat.le_refl _⟩))))
  unfold acC acR
  -- the class's operation
  refine h2_bL _ (em_emit (s := c4) (e := e) 8 0 X4.2.2.2.1 (by omega)) (fun a ha => ?_)
  obtain ⟨a0, c5⟩ := a
  obtain ⟨a1, a2, a3, a4, a5⟩ := ha
  have a1 : a0 = nI e := a1
  subst a1
  have a2 : l2_fr (fun b j => (b = 334 ∧ j = 2) ∨ ((b = 335 ∨ b = 336) ∧ j = e)) c4 c5 := a2
  have a3 : c5.1 334 2 = nI (e + 1) := a3
  have a4 : c5.1 335 e = 8 := a4
  have a5 : c5.1 336 e = 0 := a5
  -- the reference's place
  refine h2_ckR (l2_ix (by omega) (by decide)) (h2_lR ?_)
  rw [nI_clamp (n := m) (by omega)]
  have f1 : l2_fr (fun b j => b = 961 ∧ j = m) r4 (t_setI r4 961 m (r4.1 950 6)) := l2_fr.set ⟨rfl, rfl⟩
  have v1 : (t_setI r4 961 m (r4.1 950 6)).1 961 m = nI (pc_p P (u + 1)) := by simp only [l2_gI, reduceIte]; exact cle4.2.2.1
  generalize t_setI r4 961 m (r4.1 950 6) = r5 at *
  have X5 := bO_emit (X4.own (l2_fr.rf (W := fun _ _ => False)) f1 (fun b j y => y.elim) (fun b j y => by omega)) a2 a3
  have fc5 : l2_fr (xWc t e p l w o) c c5 := fc4.trans (a2.mono (fun b j y => by
    rcases y with ⟨rfl, rfl⟩ | ⟨y, rfl⟩
    · exact xWc.i334 (Or.inl rfl)
    · exact xWc.iop y (Nat.le_refl _)))
  have fr5 : l2_fr (xWr m s) r r5 := fr4.trans (f1.mono (fun b j y => Or.inr (Or.inr (Or.inl ⟨by omega, by omega, by omega⟩))))
  show t_h2 ((f_X6_link 7 (nI e) 0 c5).bind (fun r12 => some r12)) _ _
  unfold f_X6_link
  by_cases k18 : c5.1 1 8 = 1
  rotate_left
  · rw [if_neg k18, Option.bind_assoc]
    refine h2_bb _ (pj_noname X5.1 (by decide) k18) (fun c6 y hw => ?_)
    obtain ⟨w1, w2, w3⟩ := hw
    obtain ⟨f, p0, y1, y2⟩ := xf.of (c0 := c) (r0 := r) X5 (by decide) (by omega) (by omega) ⟨Nat.le_refl _, by omega⟩ ⟨by omega, Nat.le_refl _, by omega, Nat.le_refl _⟩ fc5 fr5 w1 w2 w3 xw.nil
    exact h2_doneL (l2_lt (l2_bd _ ((y2.setJ (b := 957) ⟨by decide, by decide, Nat.le_refl _⟩).next) (fun z hz => l2_sm (Or.inr ⟨f, p0, y1, hz⟩))))
  have n4 : c5.1 1 8 ≠ 4 := by rw [k18]; decide
  have plt := X5.1.plt' n4
  have cw := X5.1.cword k18
  have cle5 := X5.1.cle
  have kn := X5.2.1.kn
  refine h2_bR _ (pj_name X5.1 k18) (fun y hy => ?_)
  obtain ⟨y0, r6⟩ := y
  obtain ⟨Y, hY, n1, n2, n3, n4'⟩ := hy
  have n2 : y0 = nI Y := n2
  subst n2
  have n3 : l2_fr nm_W r5 r6 := n3
  have n4' : pj P (u + 1) 1 0 (q + 1) (m + 1) c5 r6 := n4'
  have ww : f_X2_word c5 = nI (66 + Y) := pj.wd n1
  rw [if_pos k18, ww, kn.2.2.2.2.2.2.2.2, Option.bind_assoc]
  refine h2_lR ?_
  show t_h2 _ ((f_X13_next (t_setJ r6 957 m (nI Y).toInt64)).bind (fun r4 => some (nI m, r4))) _
  rw [nI_l (n := Y) (by omega)]
  have f7 : l2_fr (fun b j => b = 957 ∧ j = m) r6 (t_setJ r6 957 m (lN Y)) := l2_fr.setJ ⟨rfl, rfl⟩
  have w7 : (t_setJ r6 957 m (lN Y)).2.1 957 m = lN Y := by simp only [l2_gJ, reduceIte]
  generalize t_setJ r6 957 m (lN Y) = r7 at *
  have fr57 : l2_fr (fun b j => nm_W b j ∨ (b = 957 ∧ j = m)) r5 r7 := (n3.mono (fun b j z => Or.inl z)).trans (f7.mono (fun b j z => Or.inr z))
  refine h2_bL _ (ln_add (s := c5) (l := l) X5.2.2.2.2.2.1 (by omega)) (fun c6 hc6 => ?_)
  obtain ⟨q1, q2, q3, q4, q5, q6, q7, q8⟩ := hc6
  have J7 : pj P (u + 1) 1 0 (q + 1) (m + 1) c6 r7 := n4'.fr q1 f7 (fun j => by omega) (fun b i _ _ => by omega) (fun b i _ _ => by omega) (by omega) (fun j _ => by omega) (fun b i _ _ => by omega)
  have X7 : xp P E (u + 1) 1 0 (q + 1) (m + 1) t (e + 1) p (l + 1) w o s i dd c6 r7 := by
    obtain ⟨x1, x2, x3, x4, x5, x6, x7, x8, x9, x10, x11⟩ := X5
    refine ⟨J7, x2.fr q1 fr57 (fun j _ _ => by omega) (fun b i _ _ => by omega) ⟨by unfold nm_W; omega, by unfold nm_W; omega⟩, ?_, ?_, ?_, q2, ?_, ?_, ?_, ?_, ?_⟩
    · rw [(q1 353 9 (by omega)).1]; exact x3
    · rw [(q1 334 2 (by omega)).1]; exact x4
    · rw [(q1 334 4 (by omega)).1]; exact x5
    · rw [(q1 845 7 (by omega)).1]; exact x7
    · rw [(q1 845 9 (by omega)).1]; exact x8
    · rw [(fr57 950 36 (by unfold nm_W; omega)).1]; exact x9
    · rw [(fr57 950 26 (by unfold nm_W; omega)).1]; exact x10
    · rw [(fr57 950 32 (by unfold nm_W; omega)).1]; exact x11
  have fc6 : l2_fr (xWc t e p l w o) c c6 := fc5.trans (q1.mono (fun b j y => by
    rcases y with ⟨rfl, rfl⟩ | ⟨y1, y2, rfl⟩
    · exact xWc.i846 (by decide)
    · exact xWc.iln y1 y2 (Nat.le_refl _)))
  have fr7 : l2_fr (xWr m s) r r7 := fr5.trans (fr57.mono (fun b j y => by
    rcases y with y | ⟨rfl, rfl⟩
    · exact x_nm y
    · exact Or.inr (Or.inr (Or.inl ⟨by decide, by decide, Nat.le_refl _⟩))))
  have ass : (((f_X2_advance c6).bind (fun r4 => some r4)).bind (fun r12 => some r12)) = (f_X2_advance c6).bind (fun v => some v) := by cases f_X2_advance c6 <;> rfl
  rw [ass]
  refine h2_bb _ (xp_adv X7 (by decide) (Or.inl rfl) (by rw [(q1 1 8 (by omega)).1]; exact n4)) (fun c8 r8 hw => h2_sm ?_)
  obtain ⟨w1, w2, w3⟩ := hw
  rcases w3 with ⟨X8, l1, l2⟩ | w3
  rotate_left
  · exact Or.inr (xf.of X7 (by decide) (by omega) (by omega) ⟨Nat.le_refl _, by omega⟩ ⟨by omega, Nat.le_refl _, by omega, Nat.le_refl _⟩ fc6 fr7 w1 w2 w3 xw.nil)
  -- what is told now
  have fr48 : l2_fr (fun b j => rn_W b j ∨ nm_W b j ∨ ((b = 957 ∨ b = 961) ∧ j = m)) r4 r8 := ((f1.mono (fun b j y => Or.inr (Or.inr ⟨Or.inr y.1, y.2⟩))).trans (fr57.mono (fun b j y => by
    rcases y with y | y
    · exact Or.inr (Or.inl y)
    · exact Or.inr (Or.inr ⟨Or.inl y.1, y.2⟩)))).trans (w2.mono (fun b j y => Or.inl y))
  have j5 : r8.1 955 m = nI 63 := by rw [(fr48 955 m (by unfold rn_W nm_W; omega)).1]; exact k5
  have j6 : r8.1 956 m = nI (pc_p P u) := by rw [(fr48 956 m (by unfold rn_W nm_W; omega)).1]; exact k6
  have j8 : r8.2.1 958 m = lN E.2.1 := by rw [(fr48 958 m (by unfold rn_W nm_W; omega)).2.1]; exact k8
  have j7 : r8.2.1 957 m = lN Y := by rw [(w2 957 m (by unfold rn_W; omega)).2.1]; exact w7
  have j1 : r8.1 961 m = nI (pc_p P (u + 1)) := by rw [(w2 961 m (by unfold rn_W; omega)).1, (fr57 961 m (by unfold nm_W; omega)).1]; exact v1
  have j0 : r8.1 960 m = -1 := by rw [(fr48 960 m (by unfold rn_W nm_W; omega)).1, (fr 960 m (by unfold rn_W; omega)).1]; exact d6
  have q68 : ∀ b, c8.1 b l = c6.1 b l ∨ b = 1 := fun b => by
    by_cases z : b = 1
    · exact Or.inr z
    · exact Or.inl (w1 b l (by unfold la_W; omega)).1
  have cl : ∀ b, b ≠ 1 → c8.1 b l = c6.1 b l := fun b z => (w1 b l (by unfold la_W; omega)).1
  have en8 : w_en E.1 c8 r8 l m 7 (r8.1 961 m) := ⟨Y, hY, by rw [cl 849 (by decide)]; exact q4, by rw [cl 850 (by decide)]; exact q5, j7, by rw [cl 848 (by decide), q3, j1]; exact cle5.2.1, by rw [cl 851 (by decide)]; exact q6⟩
  have o8 : px_o c8 e 8 0 := ⟨by rw [(w1 335 e (by unfold la_W; omega)).1, (q1 335 e (by omega)).1]; exact a4, by rw [(w1 336 e (by unfold la_W; omega)).1, (q1 336 e (by omega)).1]; exact a5⟩
  refine bO_ok (n := m) (u' := u + 1 + 1) (q' := q + 1) (m' := m + 1) (t' := t) (e' := e + 1) (p' := p) (l' := l + 1) (s' := s) (i' := i) ?_ (by omega) X8 (fc6.trans (w1.mono (fun b j y => x_la y))) (fr7.trans (w2.mono (fun b j y => x_rn y))) ?_ ?_ j0
  · unfold xk
    omega
  · rw [show m + 1 - m = 0 + 1 by omega]
    obtain ⟨hm', cx, td, ba, kn', vv⟩ := E
    exact ⟨by omega, Nat.le_refl _, Nat.le_refl _, by omega, Or.inl ⟨⟨rfl, (by have q0 := hb; unfold xb at q0; omega)⟩, Or.inl ⟨rfl, rfl, rfl, rfl, Or.inr (Or.inr (Or.inr (Or.inr (Or.inr (Or.inr ⟨j5, o8.1, j8, l, Nat.le_refl _, by omega, en8, by rw [cl 852 (by decide)]; exact q7⟩)))))⟩⟩⟩
  · have j61 : (r8.1 956 m).toInt < (r8.1 961 m).toInt := by
      have lt := pj.plt X.1 X5.1
      have q1 := cle.2.2.2
      have q2 := cle5.2.2.2
      rw [j6, j1, nI_toInt (by omega), nI_toInt (by omega)]
      omega
    refine xD.mk1 (K := 63) (T := fun p => E.2.2.2.1 = 1 ∧ p = pc_p P u) j5 (by decide) ⟨63, by decide, by decide, j5, fun z => absurd z (by decide), fun z => absurd z (by decide), fun _ => ⟨j8, _, cle.2.2.2, j6⟩, fun _ => ⟨j61, l, Nat.le_refl _, by omega, en8⟩⟩ (fun a y1 y2 => by rw [show a = l by omega]; exact Or.inr (Or.inr ⟨j5, en8, j8⟩)) (lt_N.run j5 (by decide) j6 cle.2.2.2) (fun S hS => ?_) (fun z => by omega)
    refine (hL S hS).same ?_ ?_
    · rw [(w1 846 7 (by unfold la_W; omega)).1, (q1 846 7 (by omega)).1, (a2 846 7 (by omega)).1]
    · rw [(w1 846 8 (by unfold la_W; omega)).1, (q1 846 8 (by omega)).1, (a2 846 8 (by omega)).1]
end
