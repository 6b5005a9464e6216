/-! Level 2: the steps of a statement: a var that is told, into. -/
section
variable {P : pc_S} {nt : Nat → Nat} {f n2 n3 Y n a g f2 p0 ln side : Nat} {L v : Nat → Nat} {ka : Int32} {k k1 k2 k' : Nat → Nat} {c0 r0 c r c1 r1 c' r' : t_S} {A B A' B' : Nat → Prop}
/-- the class's var of a line -/
noncomputable def tv_C (ln : Nat) (x : Int32) (s : t_S) : Option t_S := t_let (t_setI s (445 + ln) 7 x) (fun s1 => if x < (0 : Int32) then ((f_X6_link (14 : Int32) (nI ln) (0 : Int32) s1).bind (fun r2 => some r2)) else ((f_X2_advance s1).bind (fun r3 => some r3)))
theorem tv_eq (hl : ln < 400) (x : Int32) (s : t_S) : k_X6_takeVar_33 (nI ln) x s = tv_C ln x s := by
  unfold k_X6_takeVar_33 tv_C
  rw [if_pos (l2_ix hl (by decide)), nI_clamp (n := ln) (by omega)]
  simp only [Nat.one_mul]
  rfl
theorem zS.takeVar (h : zS f f2 p0 c0 c) (hl : ln < 400) : t_hk (f_X6_takeVar (nI ln) c) (zS f f2 p0 c0) := by
  unfold f_X6_takeVar
  rw [if_neg (h.1.no (by decide)), tv_eq hl]
  unfold tv_C
  have h2 := h.set (b := 445 + ln) (j := 7) (x := -1) (by unfold mo_Wc; omega) (by omega)
  refine l2_lt (l2_ck (by decide) ?_)
  rw [h2.1.link, l2_bs]
  exact l2_sm h2
theorem zS.into (h : zS f f2 p0 c0 c) : f_X6_readInto (nI ln) c = some c := by
  unfold f_X6_readInto
  rw [h.1.take (by decide), l2_bs, if_pos rfl]
theorem fs_takeVar {T U : Type} {F : t_S → Option T} {K : t_S → Option U} {Q : T → U → Prop} (S : fs P nt f n2 Y n L ka a g k c r) (hV : en_V n 1 L v) (hl : ln < 400) (hs : side ≤ 1) (gc : l2_fr mo_Wc c0 c) (gr' : l2_fr mo_Wr r0 r) (hg : ∀ k' c' r', fs P nt f n2 Y n L ka a g k' c' r' → (k' 9 = k 9 ∧ k' 4 = k 4 ∧ k' 1 = k 1) → k 0 < k' 0 → k' 8 = k 8 → k' 2 = k 2 → (∀ n3, sn n2 n3 f n ln (fun j => j = 7) (fun x => x = 991 + 2 * side ∨ x = 992 + 2 * side) k c r k' c' r') → sq c c' → vr_L v c' r' f n ln (k' 6) side → (k' 6 = k 6 ∨ k' 6 = k 6 + 1 ∧ ∃ X pl, wx_R c' r' f ln (k 6) 14 side (nI ln) 0 X pl) → r'.1 950 32 = r.1 950 32 → t_h2 (F c') (K r') Q) (hb : ∀ f2 p0 c' r', zS f f2 p0 c0 c' → yS P f f2 p0 r0 r' → t_h2 (F c') (K r') Q) : t_h2 ((f_X6_takeVar (nI ln) c).bind F) ((fw_W side ln r).bind K) Q := by
  have hf := S.2.2.2.1
  have h12 := S.1.2.2.2.1.2.2.1
  -- the class's cell, then a link
  have lnk : (∀ X, X < 7934 → c.2.1 1 10 = lN (66 + X) → v X = 0) → t_h2 ((tv_C ln (-1) c).bind F) ((fw_W side ln r).bind K) Q := fun v0 => by
    unfold tv_C
    have f1 : l2_fr (fun b j => b = 445 + ln ∧ j = 7) c (t_setI c (445 + ln) 7 (-1)) := l2_fr.set ⟨rfl, rfl⟩
    have v1 : (t_setI c (445 + ln) 7 (-1)).1 (445 + ln) 7 = -1 := by simp only [l2_gI, reduceIte]
    show t_h2 (Option.bind (if (-1 : Int32) < 0 then ((f_X6_link (14 : Int32) (nI ln) (0 : Int32) (t_setI c (445 + ln) 7 (-1))).bind (fun r2 => some r2)) else ((f_X2_advance (t_setI c (445 + ln) 7 (-1))).bind (fun r3 => some r3))) F) _ _
    rw [if_pos (by decide), bd_some]
    generalize t_setI c (445 + ln) 7 (-1) = c2 at *
    obtain ⟨S2, sn2, q2⟩ := S.cell (A := fun j => j = 7) (B := fun _ => False) hl (f1.mono (fun b i y => ⟨y.1, by omega⟩)) (l2_fr.rf (s := r)) (fun i _ y => (f1 _ _ (fun z => y z.2)).1) (fun _ _ _ _ => rfl)
    refine fs_word (so := 14) (spot := nI ln) (ex := 0) S2 hl hs ((sn2 0).mc gc) gr' (fun c' r' X pl S3 sn3 q3 wx e10 e32 => ?_) hb
    have c7 : c'.1 (445 + ln) 7 = -1 := by rw [(sn3 0).2.2.2.1 7 (by decide) (fun y => y)]; exact v1
    refine hg (lx k) c' r' S3 ⟨rfl, rfl, rfl⟩ (Nat.lt_succ_self _) rfl rfl (fun n3 => ((sn2 n3).trans (sn3 n3)).mono (fun i y => y.elim id False.elim) (fun i y => y.elim False.elim id)) (q2.trans q3) ⟨X, wx.1, wx.2.2.2.1, Or.inr ⟨v0 X wx.1 (by rw [← (f1 1 10 (by omega)).2.1]; exact e10), c7, wx.wl (Nat.lt_succ_self _)⟩⟩ (Or.inr ⟨rfl, X, pl, wx⟩) e32
  unfold f_X6_takeVar
  by_cases h8 : c.1 1 8 = 1
  rotate_left
  · rw [if_neg h8, tv_eq hl]
    unfold tv_C fw_W
    have f1 : l2_fr (fun b j => b = 445 + ln ∧ j = 7) c (t_setI c (445 + ln) 7 (-1)) := l2_fr.set ⟨rfl, rfl⟩
    show t_h2 (Option.bind (if (-1 : Int32) < 0 then ((f_X6_link (14 : Int32) (nI ln) (0 : Int32) (t_setI c (445 + ln) 7 (-1))).bind (fun r2 => some r2)) else ((f_X2_advance (t_setI c (445 + ln) 7 (-1))).bind (fun r3 => some r3))) F) (Option.bind (Option.bind (f_X13_freeName (t_setI r (992 + 2 * side) ln (r.1 950 6))) (fun r2 => t_let (t_setI r2.2 (991 + 2 * side) ln r2.1) (fun s2 => (f_X13_next s2).bind (fun r3 => some r3)))) K) Q
    rw [if_pos (by decide), bd_some]
    have f2 : l2_fr (fun b j => b = 992 + 2 * side ∧ j = ln) r (t_setI r (992 + 2 * side) ln (r.1 950 6)) := l2_fr.set ⟨rfl, rfl⟩
    generalize t_setI c (445 + ln) 7 (-1) = c2 at *
    generalize t_setI r (992 + 2 * side) ln (r.1 950 6) = r2 at *
    obtain ⟨S2, sn2, q2⟩ := S.cell (A := fun _ => True) (B := fun _ => True) hl (f1.mono (fun b i y => ⟨y.1, by omega⟩)) (f2.mono (fun b i y => Or.inl ⟨by omega, by omega, y.2⟩)) (fun i _ y => absurd trivial y) (fun _ _ _ y => absurd trivial y)
    have h82 : c2.1 1 8 ≠ 1 := by rw [(f1 1 8 (by omega)).1]; exact h8
    unfold f_X6_link
    rw [if_neg h82, bd_some]
    refine h2_bb _ (show t_h2 (f_X2_fail 2 c2) ((f_X13_freeName r2).bind (fun r2 => t_let (t_setI r2.2 (991 + 2 * side) ln r2.1) (fun s2 => (f_X13_next s2).bind (fun r3 => some r3)))) (fun c' r' => ∃ f2 p0, zS f f2 p0 c0 c' ∧ yS P f f2 p0 r0 r') from ?_) (fun c' r' ⟨f2, p0, y1, y2⟩ => hb f2 p0 c' r' y1 y2)
    obtain ⟨c3, x, e1, e2, w1, w2, f2', p0, w3, w4⟩ := pj_noname S2.1.1 (by decide) h82
    rw [e1, e2, l2_bs]
    have z3 : zS f f2' p0 c0 c3 := S2.z w3 w1 ((sn2 0).mc gc)
    have y3 : yS P f f2' p0 r0 x.2 := S2.y w4 w2 ((sn2 0).mr gr')
    have y4 := y3.set (b := 991 + 2 * side) (j := ln) (x := x.1) (by unfold mo_Wr; omega) (by omega)
    refine h2_doneL (l2_lt (l2_bd _ y4.next (fun y hy => l2_sm ⟨f2', p0, z3, hy⟩)))
  obtain ⟨x, e1, X, hX, n1, n2', n3', J1⟩ := pj_name S.1.1 h8
  have wd : f_X2_word c = nI (66 + X) := pj.wd n1
  obtain ⟨y, c2, hy⟩ := lo_place S.2.1 hf hX
  rw [if_pos h8, wd, h12, c2, l2_bs, tv_eq hl]
  rcases hy with ⟨i, i1, rfl, i3, i4⟩ | ⟨rfl, no⟩
  rotate_left
  · refine lnk (fun X' hX' e => ?_)
    have ex : X' = X := by
      have := (lN_eq (by omega) (by omega)).mp (e.symm.trans n1)
      omega
    rw [ex]
    rcases hV X with ⟨i, i1, i2, _⟩ | ⟨_, h⟩
    · exact absurd i2 (no i i1)
    · exact h
  have vX : v X = 1 + i := by
    rcases hV X with ⟨j, j1, j2, j3, j4⟩ | ⟨h, _⟩
    · have : i = j := by
        by_cases z : i < j
        · exact absurd i3 (j3 i z)
        · by_cases z2 : j < i
          · exact absurd j2 (i4 j z2)
          · omega
      rw [this]; exact j4
    · exact absurd i3 (h i i1)
  have nle := S.2.1.1
  unfold tv_C fw_W
  have f1 : l2_fr (fun b j => b = 445 + ln ∧ j = 7) c (t_setI c (445 + ln) 7 (nI i)) := l2_fr.set ⟨rfl, rfl⟩
  have v1 : (t_setI c (445 + ln) 7 (nI i)).1 (445 + ln) 7 = nI i := by simp only [l2_gI, reduceIte]
  show t_h2 (Option.bind (if nI i < 0 then ((f_X6_link (14 : Int32) (nI ln) (0 : Int32) (t_setI c (445 + ln) 7 (nI i))).bind (fun r2 => some r2)) else ((f_X2_advance (t_setI c (445 + ln) 7 (nI i))).bind (fun r3 => some r3))) F) (Option.bind (Option.bind (f_X13_freeName (t_setI r (992 + 2 * side) ln (r.1 950 6))) (fun r2 => t_let (t_setI r2.2 (991 + 2 * side) ln r2.1) (fun s2 => (f_X13_next s2).bind (fun r3 => some r3)))) K) Q
  rw [if_neg (nI_pos (by omega)), bd_some]
  have f2 : l2_fr (fun b j => b = 992 + 2 * side ∧ j = ln) r (t_setI r (992 + 2 * side) ln (r.1 950 6)) := l2_fr.set ⟨rfl, rfl⟩
  have v2 : (t_setI r (992 + 2 * side) ln (r.1 950 6)).1 (992 + 2 * side) ln = r.1 950 6 := by simp only [l2_gI, reduceIte]
  generalize t_setI c (445 + ln) 7 (nI i) = c3 at *
  generalize t_setI r (992 + 2 * side) ln (r.1 950 6) = r3 at *
  have J3 : pj P (k 0) 0 0 (k 1) (k 2) c3 r3 := S.1.1.fr f1 f2 (fun j => by omega) (fun b i _ _ => by omega) (fun b i _ _ => by omega) (by omega) (fun j _ => by omega) (fun b i _ _ => by omega)
  have h83 : c3.1 1 8 = 1 := by rw [(f1 1 8 (by omega)).1]; exact h8
  obtain ⟨x', e1', X', hX', n1', n2'', n3'', J4⟩ := pj_name J3 h83
  have exx : X' = X := by
    rw [(f1 1 10 (by omega)).2.1] at n1'
    have := (lN_eq (by omega) (by omega)).mp (n1'.symm.trans n1)
    omega
  subst exx
  rw [e1', l2_bs, n2'']
  have f5 : l2_fr (fun b j => b = 991 + 2 * side ∧ j = ln) x'.2 (t_setI x'.2 (991 + 2 * side) ln (nI X')) := l2_fr.set ⟨rfl, rfl⟩
  have v5 : (t_setI x'.2 (991 + 2 * side) ln (nI X')).1 (991 + 2 * side) ln = nI X' := by simp only [l2_gI, reduceIte]
  show t_h2 _ (Option.bind (Option.bind (f_X13_next (t_setI x'.2 (991 + 2 * side) ln (nI X'))) (fun r3 => some r3)) K) Q
  rw [bd_some]
  generalize t_setI x'.2 (991 + 2 * side) ln (nI X') = r5 at *
  have J5 : pj P (k 0) 1 0 (k 1) (k 2) c3 r5 := J4.fr (l2_fr.rf (W := fun _ _ => False)) f5 (fun j y => y) (fun b i _ _ y => y) (fun b i _ _ y => y) (fun y => y) (fun j _ => by omega) (fun b i _ _ => by omega)
  refine h2_bb _ (pj_adv J5 (by decide) (Or.inl rfl) (by rw [h83]; decide)) (fun c6 r6 hw => ?_)
  obtain ⟨y1, y2, y3⟩ := hw
  have C : l2_fr (rw_Wc ln) c c6 := (f1.mono (fun b j y => Or.inr ⟨y.1, by omega⟩)).trans (y1.mono (fun b j y => Or.inl y))
  have R : l2_fr (rw_Wr ln) r r6 := (((f2.mono (fun b j y => Or.inr (Or.inl ⟨by omega, by omega, y.2⟩))).trans (n3''.mono (fun b j y => Or.inl (Or.inr y)))).trans (f5.mono (fun b j y => Or.inr (Or.inl ⟨by omega, by omega, y.2⟩)))).trans (y2.mono (fun b j y => Or.inl (Or.inl y)))
  rcases y3 with J6 | ⟨f2', p0, y3, y4⟩
  · have hA : ∀ j, j < 12 → ¬ j = 7 → c6.1 (445 + ln) j = c.1 (445 + ln) j := fun j _ y => by rw [(y1 _ j (by unfold la_W; omega)).1, (f1 _ j (by omega)).1]
    have hB : ∀ x, 988 ≤ x → x ≤ 1002 → ¬ (x = 991 + 2 * side ∨ x = 992 + 2 * side) → r6.1 x ln = r.1 x ln := fun x a b y => by rw [(y2 x ln (by unfold rn_W; omega)).1, (f5 x ln (by omega)).1, (n3'' x ln (by unfold nm_W; omega)).1, (f2 x ln (by omega)).1]
    have cl := S.1.1.cle
    refine hg (nx k) c6 r6 (S.go hl (Nat.le_succ _) (Nat.le_refl _) ⟨rfl, rfl, rfl, rfl, rfl, rfl, rfl⟩ J6 C R) ⟨rfl, rfl, rfl⟩ (Nat.lt_succ_self _) rfl rfl (fun n3 => rw_sn hl ⟨Nat.le_succ _, Nat.le_refl _, Nat.le_refl _, Nat.le_refl _, Nat.le_refl _, Nat.le_refl _, Nat.le_refl _, Nat.le_refl _, Nat.le_refl _, Nat.le_refl _⟩ C R hA hB) (sq.of C (fun b j y => by unfold rw_Wc la_W; omega)) ⟨X', hX', by rw [(y2 _ ln (by unfold rn_W; omega)).1]; exact v5, Or.inl ⟨i, i1, vX, by rw [(y1 _ 7 (by unfold la_W; omega)).1]; exact v1⟩⟩ (Or.inl rfl) (by rw [(y2 950 32 (by unfold rn_W; omega)).1, (f5 950 32 (by omega)).1, (n3'' 950 32 (by unfold nm_W; omega)).1, (f2 950 32 (by omega)).1])
  · have z3 : zS f f2' p0 c0 c6 := by
      have S3 := S.cell (A := fun _ => True) (B := fun _ => False) hl (f1.mono (fun b i y => ⟨y.1, by omega⟩)) (l2_fr.rf (s := r)) (fun i _ y => absurd trivial y) (fun _ _ _ _ => rfl)
      exact S3.1.z y3 y1 (gc.trans (f1.mono (fun b j y => by unfold mo_Wc; omega)))
    refine hb f2' p0 c6 r6 z3 ⟨⟨y4, gr'.trans (R.mono (fun b j y => by unfold rw_Wr nk_W rn_W nm_W at y; unfold mo_Wr; omega))⟩, ?_⟩
    rw [(R 950 33 (by unfold rw_Wr nk_W rn_W nm_W; omega)).1]
    exact S.2.2.2.2.1
end
