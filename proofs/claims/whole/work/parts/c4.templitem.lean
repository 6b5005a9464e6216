/-! Level 2: a module's items on both sides: a template. -/
section
variable {P : pc_S} {nt : Nat → Nat} {u q m a g t e p l s i st f p0 : Nat} {c0 r0 c r : t_S}
/-- where a module's templates stand -/
def E_t : en_S := (-1, 0, 0, 1, 2147483647, fun _ => 0)
/-- what a template as an item writes -/
def mm_Wc (n t e p l b j : Nat) : Prop := xWc t e p l 0 0 b j ∨ b = 6 ∨ (b = 353 ∧ j = 11) ∨ (b = 364 + n ∧ j ≤ 4) ∨ (b = 845 ∧ j = 15)
def mm_Wr (n m s b j : Nat) : Prop := xWr m s b j ∨ (b = 950 ∧ ((31 ≤ j ∧ j ≤ 34) ∨ j = 44)) ∨ (967 ≤ b ∧ b ≤ 969 ∧ j = n)
theorem mm_mo {n : Nat} (hn : n < 60) (h : l2_fr (mm_Wc n t e p l) c0 c) : l2_fr mo_Wc c0 c := h.mono (fun b j y => by
  rcases y with y | y | y | y | y
  · unfold xWc at y
    unfold mo_Wc
    omega
  · exact Or.inr (Or.inl y)
  · unfold mo_Wc; omega
  · unfold mo_Wc; omega
  · unfold mo_Wc; omega)
theorem mm_mr {n : Nat} (h : l2_fr (mm_Wr n m s) r0 r) : l2_fr mo_Wr r0 r := h.mono (fun b j y => by
  rcases y with y | y | y
  · unfold xWr at y
    unfold mo_Wr
    omega
  · unfold mo_Wr; omega
  · unfold mo_Wr; omega)
/-- the joint state at a template -/
theorem mo_xp {c6 r8 : t_S} (M : mo P nt u q m a g t e p l s i st c r) {u3 : Nat} (hu : u ≤ u3) (J6 : pj P u3 0 0 q m c6 r8) (h15 : c6.1 845 15 = 1) (gc : ∀ b j, (b = 353 ∧ j = 9) ∨ (b = 334 ∧ (j = 2 ∨ j = 4)) ∨ (b = 846 ∧ j = 6) ∨ (b = 845 ∧ (j = 7 ∨ j = 9 ∨ j = 12 ∨ j = 13 ∨ j = 16)) → c6.1 b j = c.1 b j) (gr : r8.1 950 36 = r.1 950 36 ∧ r8.1 950 26 = r.1 950 26) (g0 : r8.1 950 32 = 0 ∧ r8.1 950 33 = 0 ∧ r8.1 950 34 = 0) : xp P E_t u3 0 0 q m t e p l 0 0 s i 0 c6 r8 ∧ xb P (2 * e + 9000) (2 * p) 0 u3 q t e p l 0 0 s i 0 := by
  obtain ⟨J, N, ⟨k1, k2, k3, k4, k5, k6, k7⟩, ⟨v1, v2, v3, v4, v5, v6, v7⟩, ⟨s1, s2, s3⟩, ⟨b1, b2, b3, b4, b5, b6, b7, b8, b9⟩⟩ := M
  have ple := J.cle
  have mle := J.mle (by decide)
  have cm := pc_c_mono P u u3 hu
  have pm : pc_p P u ≤ pc_p P u3 := by
    by_cases z : u = u3
    · rw [z]; exact Nat.le_refl _
    · exact Nat.le_of_lt (J6.pmono (u3 - u) u (by omega) (by omega))
  refine ⟨⟨J6, ⟨?_, ?_, by decide, ?_, by decide, ?_, by decide, ?_, by decide, Or.inl ⟨?_, ?_, fun _ => rfl⟩⟩, ?_, ?_, ?_, ?_, ?_, ?_, ?_, ?_, ?_⟩, ?_⟩
  · unfold f_X6_home
    rw [gc 845 12 (by omega), gc 845 13 (by omega), v3, v4]
    rfl
  · exact g0.2.1
  · exact g0.2.2
  · exact h15
  · rw [gc 845 16 (by omega)]; exact v7
  · rw [gc 845 12 (by omega)]; exact v3
  · rw [gc 845 13 (by omega)]; exact v4
  · rw [gc 353 9 (by omega)]; exact k3
  · rw [gc 334 2 (by omega)]; exact k4
  · rw [gc 334 4 (by omega)]; exact k5
  · rw [gc 846 6 (by omega)]; exact k6
  · rw [gc 845 7 (by omega)]; exact v1
  · rw [gc 845 9 (by omega)]; exact v2
  · rw [gr.1]; exact s1
  · rw [gr.2]; exact s2
  · exact g0.1
  · unfold xb
    omega
/-- the class behind a template's name, in steps -/
noncomputable def mcE (n : Nat) (r6 : Int32 × t_S) : Option t_S := t_let (t_setI r6.2 (364 + n) 0 r6.1) (fun s6 => t_let (t_setI s6 (364 + n) 4 (s6.1 353 9)) (fun s7 => (f_X0_emit (0 : Int32) (0 : Int32) s7).bind (fun r7 => t_let (t_setI r7.2 845 15 (0 : Int32)) (fun s8 => (f_X2_need (59 : Int32) s8).bind (fun r8 => some r8)))))
noncomputable def mcC (n : Nat) (r5 : t_S) : Option t_S := t_let (t_setI r5 845 15 (1 : Int32)) (fun s3 => t_let (t_setI s3 (364 + n) 2 (s3.1 334 2)) (fun s4 => t_let (t_setI s4 (364 + n) 3 (s4.1 353 9)) (fun s5 => (f_X6_readTempl (0 : Int32) (1 : Int32) s5).bind (mcE n))))
noncomputable def mcB (n : Nat) (c2 : t_S) : Option t_S := t_let (t_setI c2 (364 + n) 1 (c2.1 1 9)) (fun s1 => t_let (t_setI s1 353 11 ((s1.1 353 11) + (1 : Int32))) (fun s2 => (f_X2_advance s2).bind (fun r4 => (f_X2_need (61 : Int32) r4).bind (mcC n))))
theorem mF.gE {n : Nat} {y : Int32 × t_S} (h : mF f p0 y.2) (hn : n < 60) : t_hk (mcE n y) (fun c' => lc_F c' f p0 ∧ l2_fr mo_Wc y.2 c') := by
  unfold mcE
  refine l2_lt (l2_lt ?_)
  have g1 : l2_fr (fun b j => b = 364 + n ∧ j ≤ 4) y.2 (t_setI y.2 (364 + n) 0 y.1) := l2_fr.set ⟨rfl, by decide⟩
  generalize t_setI y.2 (364 + n) 0 y.1 = c1 at *
  have g2 : l2_fr (fun b j => b = 364 + n ∧ j ≤ 4) c1 (t_setI c1 (364 + n) 4 (c1.1 353 9)) := l2_fr.set ⟨rfl, by decide⟩
  generalize t_setI c1 (364 + n) 4 (c1.1 353 9) = c2 at *
  have h2 : mF f p0 c2 := h.fr (g1.trans g2) (fun j _ _ => by omega) (by omega) ⟨by omega, by omega⟩
  refine l2_bd _ (xF.emit h2 0 0) (fun z hz => l2_lt ?_)
  have g3 : l2_fr (fun b j => b = 845 ∧ j = 15) z.2 (t_setI z.2 845 15 0) := l2_fr.set ⟨rfl, rfl⟩
  have h3 := hz.1.me.fr g3 (fun j _ _ => by omega) (by omega) ⟨by omega, by omega⟩
  exact l2_eq (h3.1.need (by decide)).1 (l2_sm ⟨h3.1, (((g1.trans g2).mono (fun b j y => by unfold mo_Wc; omega)).trans (mo_xc hz.1.2.1)).trans (g3.mono (fun b j y => by unfold mo_Wc; omega))⟩)
theorem mF.gC {n : Nat} (h : mF f p0 c) (hn : n < 60) : t_hk (mcC n c) (fun c' => lc_F c' f p0 ∧ l2_fr mo_Wc c c') := by
  have S := xS_R 246
  unfold mcC
  refine l2_lt (l2_lt (l2_lt ?_))
  have g1 : l2_fr (fun b j => (b = 845 ∧ j = 15) ∨ (b = 364 + n ∧ j ≤ 4)) c (t_setI c 845 15 1) := l2_fr.set (Or.inl ⟨rfl, rfl⟩)
  generalize t_setI c 845 15 1 = c1 at *
  have g2 : l2_fr (fun b j => (b = 845 ∧ j = 15) ∨ (b = 364 + n ∧ j ≤ 4)) c1 (t_setI c1 (364 + n) 2 (c1.1 334 2)) := l2_fr.set (Or.inr ⟨rfl, by decide⟩)
  generalize t_setI c1 (364 + n) 2 (c1.1 334 2) = c2 at *
  have g3 : l2_fr (fun b j => (b = 845 ∧ j = 15) ∨ (b = 364 + n ∧ j ≤ 4)) c2 (t_setI c2 (364 + n) 3 (c2.1 353 9)) := l2_fr.set (Or.inr ⟨rfl, by decide⟩)
  generalize t_setI c2 (364 + n) 3 (c2.1 353 9) = c3 at *
  have g := (g1.trans g2).trans g3
  have h3 : mF f p0 c3 := h.fr g (fun j _ _ => by omega) (by omega) ⟨by omega, by omega⟩
  exact l2_bd _ (show t_hk (f_X6_readTempl 0 1 c3) _ from S.2.2.2.2.2.2.2.2.2.2.2.1 0 1 _ _ _ _ _ _ _ _ _ _ _ h3) (fun y hy => l2_imp (hy.me.gE hn) (fun z hz => ⟨hz.1, ((g.mono (fun b j y => by unfold mo_Wc; omega)).trans (mo_xc hy.2.1)).trans hz.2⟩))
theorem xR.it250 (h : xR P f p0 0 0 r0 r) : t_hk (k_X13_item_250 r) (xR P f p0 0 0 r0) := by
  unfold k_X13_item_250
  exact l2_bd _ (h.mustBe _) (fun r3 h3 => l2_sm h3)
theorem xR.ittem (h : xR P f p0 0 0 r0 r) (x : Int32) (n : Nat) : t_hk ((f_X13_templ r).bind (fun r3 => if (r3.2.1 950 2) = (0 : Int32) then (if t_ix x 60 = true then t_let (t_setI r3.2 968 n r3.1) (fun s1 => k_X13_item_250 s1) else none) else (k_X13_item_250 r3.2))) (xR P f p0 0 0 r0) := by
  have T : xT (R_X13_base (297 + 3)) := xT_R 297
  exact l2_eq (show f_X13_templ r = some (0, r) from (T.1 r h.ne).2.2.2) (l2_no h.ne h.it250)
theorem xR.it218 (h : xR P f p0 0 0 r0 r) (x : Int32) : t_hk (k_X13_item_218 x r) (xR P f p0 0 0 r0) := by
  unfold k_X13_item_218
  exact l2_bd _ h.next (fun r1 h1 => l2_bd _ (h1.mustBe _) (fun r2 h2 => h2.ittem x _))
theorem xD.base {E : en_S} {c1 : t_S} {l' i' m' : Nat} (h : xD E c0 c r l l' i i' m m') (e7 : c0.1 846 7 = c1.1 846 7) (e8 : c0.1 846 8 = c1.1 846 8) : xD E c1 c r l l' i i' m m' := ⟨h.1, h.2.1, fun S hS => h.2.2.1 S (hS.same e7 e8), h.2.2.2⟩
/-- what a template as an item comes to -/
def mm_tG (P : pc_S) (nt : Nat → Nat) (u q m a g t e p l s i st : Nat) (c r c' r' : t_S) : Prop := ∃ u' q' m' t' e' p' l' s' i' n', mo P (nt_up nt 1) u' q' m' a g t' (e' + 1) p' l' s' i' st c' r' ∧ (u < u' ∧ q < q' ∧ m < m' ∧ t ≤ t' ∧ e ≤ e' ∧ p ≤ p' ∧ l ≤ l' ∧ s ≤ s' ∧ i ≤ i') ∧ nt 1 < 60 ∧ l2_fr (mm_Wc (nt 1) t e p l) c c' ∧ l2_fr (mm_Wr (nt 1) m s) r r' ∧ (c'.1 (364 + nt 1) 0 = nI t ∧ c'.1 (364 + nt 1) 2 = nI e ∧ c'.1 (364 + nt 1) 3 = nI t ∧ c'.1 (364 + nt 1) 4 = nI t') ∧ (∃ pl, pl ≤ 12000 ∧ c'.1 (364 + nt 1) 1 = nI pl ∧ r'.1 969 (nt 1) = nI pl) ∧ r'.1 968 (nt 1) = nI n' ∧ px_o c' e' 0 0 ∧ XR (wn_R E_t c' r' l l') (an_R E_t c' r' l l') (tn_R E_t c' r' l l') (sn_R c') c' r' p' s' (m' - m) 1 1 15 e e' t t' m m' n' ∧ xD E_t c c' r' l l' i i' m m' ∧ r'.1 960 n' = -1 ∧ c'.1 356 t = -1
def mm_tP (P : pc_S) (nt : Nat → Nat) (u q m a g t e p l s i st : Nat) (c r c' r' : t_S) : Prop := l2_fr mo_Wc c c' ∧ l2_fr mo_Wr r r' ∧ (mm_tG P nt u q m a g t e p l s i st c r c' r' ∨ pf P c' r')
end
