/-! Level 2: an assignment: . NAME and [ exp ] behind its var. -/
noncomputable def wyC1 (s : t_S) : Option t_S := (f_X6_takeFieldName s).bind (fun r7 => (f_X0_emit 37 r7.1 r7.2).bind (fun r8 => some r8.2))
noncomputable def wyC2 (s : t_S) : Option t_S := (f_X6_readExp 0 s).bind (fun r4 => (f_X2_need 93 r4.2).bind (fun r5 => (f_X0_emit 38 0 r5).bind (fun r6 => some r6.2)))
noncomputable def wyC0 (s : t_S) : Option t_S := (f_X2_take 46 s).bind (fun r2 => if r2.1 = 0 then (f_X2_take 91 r2.2).bind (fun r3 => if r3.1 = 0 then some r3.2 else wyC2 r3.2) else wyC1 r2.2)
noncomputable def wyK1 (j : Int32) (s : t_S) : Option t_S := (f_X13_freeName s).bind (fun y => if t_ix j 13000 = true then t_let (t_setJ y.2 957 (j.toNatClampNeg) y.1.toInt64) (fun s => (f_X13_next s).bind (fun x => some x)) else none)
noncomputable def wyK2 (j : Int32) (s : t_S) : Option t_S := (f_X13_exp s).bind (fun r4 => if t_ix j 13000 = true then t_let (t_setI r4.2 959 (j.toNatClampNeg) r4.1) (fun s1 => (f_X13_mustBe 93 s1).bind (fun r6 => some r6)) else none)
section
variable {P : pc_S} {nt : Nat → Nat} {f n n2 n3 Y a g f2 p0 ln w lo vv : Nat} {L v EE G : Nat → Nat} {ka : Int32} {k kb k' : Nat → Nat} {c0 r0 cb rb c r c1 r1 c' r' : t_S} {A B : Nat → Prop} {E : en_S}
def wyO (P : pc_S) (nt : Nat → Nat) (f n2 Y n : Nat) (L v : Nat → Nat) (ka : Int32) (a g ln w lo : Nat) (kb : Nat → Nat) (cb rb c0 r0 : t_S) (vv : Nat) (c' r' : t_S) : Prop := (∃ EE G k', wI P nt f n2 Y n L v ka a g ln w lo kb cb rb vv EE G k' c' r') ∨ ∃ f2 p0, zS f f2 p0 c0 c' ∧ yS P f f2 p0 r0 r'
theorem zS.wy0 (h : zS f f2 p0 c0 c) : wyC0 c = some c := by
  unfold wyC0
  rw [h.1.take (by decide), l2_bs, if_pos rfl, h.1.take (by decide), l2_bs, if_pos rfl]
theorem zS.wy2 (h : zS f f2 p0 c0 c) : t_hk (wyC2 c) (zS f f2 p0 c0) := by
  unfold wyC2
  refine l2_bd _ (h.exp 0) (fun y hy => ?_)
  rw [hy.1.need (by decide), l2_bs]
  exact l2_bd _ (hy.emit _ _) (fun z hz => l2_sm hz)
theorem zS.field (h : zS f f2 p0 c0 c) : f_X6_takeFieldName c = some (0, c) := by
  unfold f_X6_takeFieldName k_X6_takeFieldName_19
  rw [if_neg (h.1.no (by decide)), h.1.fail, l2_bs, if_neg h.1.ne]
theorem zS.wy1 (h : zS f f2 p0 c0 c) : t_hk (wyC1 c) (zS f f2 p0 c0) := by
  unfold wyC1
  rw [h.field, l2_bs]
  exact l2_bd _ (h.emit _ _) (fun z hz => l2_sm hz)
theorem yS.wy1 {j : Nat} (h : yS P f f2 p0 r0 r) (hj : j < 13000) : t_hk (wyK1 (nI j) r) (yS P f f2 p0 r0) := by
  unfold wyK1
  refine l2_bd _ h.name (fun y hy => l2_ck (l2_ix hj (by decide)) (l2_lt ?_))
  rw [nI_clamp (n := j) (by omega)]
  exact l2_bd _ ((hy.setJ (by unfold mo_Wr; omega) (by decide)).next) (fun z hz => l2_sm hz)
theorem yS.wy2 {j : Nat} (h : yS P f f2 p0 r0 r) (hj : j < 13000) : t_hk (wyK2 (nI j) r) (yS P f f2 p0 r0) := by
  unfold wyK2
  rw [h.exp, l2_bs]
  refine l2_ck (l2_ix hj (by decide)) (l2_lt ?_)
  rw [nI_clamp (n := j) (by omega)]
  exact l2_bd _ ((h.set (by unfold mo_Wr; omega) (by omega)).mustBe 93) (fun z hz => l2_sm hz)
/-- what a step adds -/
theorem wI.add {Wc Wr : Nat → Nat → Prop} (hl : ln < 400) (I : wI P nt f n2 Y n L v ka a g ln w lo kb cb rb vv EE G k c r) (S' : fs P nt f n2 Y n L ka a g k' c' r') (h32 : r'.1 950 32 = 0) (o : gr k k') (k9 : k' 9 = k 9) (hq : k 1 < k' 1) (sl : ∀ x, k 4 + x ≤ 2 * k 1 + 2 * k 9 → k' 4 + x ≤ 2 * k' 1 + 2 * k' 9) (fc : l2_fr Wc c c') (fr : l2_fr Wr r r') (w1 : ∀ b j, Wc b j → xWc (k 3) (k 4) (k 5) (k 6) 0 0 b j) (w2 : ∀ b j, Wr b j → xWr (k 2) (k 7) b j ∨ (b = 959 ∧ j = w) ∨ (b = 960 ∧ 0 < vv ∧ j = G (vv - 1))) (ch : ch_R r' w (vv + 1) G) (n5 : k 2 < k' 2) (n4 : k 4 < k' 4) (h13 : k' 2 ≤ 13000) (hp : ∀ n3, f < n3 → xD (E_f f n v) c c' r' (k 6) (k' 6) (k 8) (k' 8) (k 2) (k' 2) ∧ mE n2 n3 r' (E_f f n v) ∧ wp_R n2 n3 (E_f f n v) c' r' (k' 3) (k' 4) (k' 5) (k' 6) (k' 7) (k 2) (k 4) (k' 4) (k' 2)) : wI P nt f n2 Y n L v ka a g ln w lo kb cb rb (vv + 1) (va_up EE (vv + 1) (k' 4)) (va_up G (vv + 1) (k' 2)) k' c' r' := by
  obtain ⟨S, _, ⟨kk9, k00, slk⟩, sn0, vk, kw, rest⟩ := I
  have o' := o
  obtain ⟨o0, o1, o2, o3, o4, o5, o6, o7, o8, o9⟩ := o'
  obtain ⟨⟨g0, g1, g2, g3, g4, g5, g6, g7, g8, g9⟩, _⟩ := sn0 0
  obtain ⟨_, W0⟩ := rest (f + 1) (Nat.lt_succ_self _)
  obtain ⟨W1, W2, W3, W4, W5, W6, W7, W8⟩ := W0
  have gv : 0 < vv → w < G (vv - 1) ∧ G (vv - 1) < k 2 := fun h => by
    have a1 := W8 (vv - 1) (by omega)
    have a2 := a1.2.1
    have a3 := a1.2.2.1
    exact ⟨a1.1, by omega⟩
  have rq : ∀ b j, Wr b j → (b = 950 ∧ j ≠ 33 ∧ j ≠ 34) ∨ (952 ≤ b ∧ b ≤ 954) ∨ (955 ≤ b ∧ b ≤ 962 ∧ w ≤ j ∧ (k 2 ≤ j ∨ (b = 959 ∧ j = w) ∨ (b = 960 ∧ 0 < vv ∧ j = G (vv - 1)))) ∨ (b = 963 ∧ k 7 ≤ j) ∨ (b = 1003 ∧ k 2 ≤ j) := fun b j y => by
    rcases w2 b j y with y | y | y
    · unfold xWr at y
      omega
    · omega
    · have := gv y.2.1
      omega
  have kk : ∀ n3, mK n2 n3 r r' := fun n3 => mK.of fr (fun b j y z => by
    have := rq _ _ z
    omega)
  refine ⟨S', h32, ⟨k9.trans kk9, by omega, fun x hx => sl x (slk x hx)⟩, fun n3 => (sn0 n3).add o fc fr (fun b j y => ?_) (fun b j y => ?_), by omega, kw, fun n3 h3 => ?_⟩
  · have z := w1 b j y
    refine ⟨Or.inl (z.sub (by omega) (by omega) (by omega) (by omega) (Nat.le_refl _) (Nat.le_refl _)), ?_⟩
    unfold xWc at z
    omega
  · have z := rq b j y
    refine ⟨?_, by omega, by omega, by omega, by omega⟩
    rcases w2 b j y with y | y | y
    · exact Or.inl (y.sub (by omega) (by omega))
    · exact Or.inl (Or.inr (Or.inr (Or.inl ⟨by omega, by omega, by omega⟩)))
    · have := gv y.2.1
      exact Or.inl (Or.inr (Or.inr (Or.inl ⟨by omega, by omega, by omega⟩)))
  · obtain ⟨m0, W⟩ := rest n3 h3
    obtain ⟨D, hE, wp⟩ := hp n3 h3
    have cc : ∀ b j, 848 ≤ b → b ≤ 853 → j < k 6 → c'.1 b j = c.1 b j := fun b j x1 x2 x3 => (fc b j (fun z => by
      have := w1 _ _ z
      unfold xWc at this
      omega)).1
    have m1 := mB.ofX (zT := False) D hE (fun j => (fc 7 j (fun z => by
      have := w1 _ _ z
      unfold xWc at this
      omega)).1) ln
    refine ⟨m0.trans m1 ⟨g6, o6⟩ ⟨g8, o8⟩ ⟨by omega, Nat.le_of_lt n5⟩ ⟨Nat.le_refl _, Nat.le_refl _⟩ cc (fun j j1 j2 => ?_) (fun s s1 s2 => by omega) (kk n3) (Nat.le_refl _) (Nat.le_refl _) h13, W.add fc fr (fun b j y => ?_) (fun b j y => ?_) (kk n3) ⟨o3, o4, o5, o6, o7⟩ ch n5 n4 wp⟩
    · have e : ∀ b, (b = 955 ∨ b = 956 ∨ b = 962 ∨ b = 1003 ∨ b = 957 ∨ b = 958 ∨ b = 961) → r'.1 b j = r.1 b j ∧ r'.2.1 b j = r.2.1 b j := fun b hb => by
        have := fr b j (fun z => by
          have := rq _ _ z
          omega)
        exact ⟨this.1, this.2.1⟩
      exact ⟨(e 955 (by omega)).1, (e 956 (by omega)).1, (e 962 (by omega)).1, (e 1003 (by omega)).1, (e 957 (by omega)).2, (e 958 (by omega)).2, fun _ => (e 961 (by omega)).1⟩
    · have := w1 b j y
      unfold xWc at this
      omega
    · have := rq b j y
      omega
theorem wy_dot (I : wI P nt f n2 Y n L v ka a g ln w lo kb cb rb vv EE G k c r) (t : c.1 1 8 = nI 46) (hV : en_V n 1 L v) (hl : ln < 400) (gc : l2_fr mo_Wc c0 cb) (gr' : l2_fr mo_Wr r0 rb) : t_h2 ((f_X6_node c).bind wyC0) ((f_X13_node (nI 68) 1 r).bind (fun y => (f_X13_next y.2).bind (fun z => (f_X13_hang (nI w) y.1 z).bind (fun h => wyK1 y.1 h)))) (wyO P nt f n2 Y n L v ka a g ln w lo kb cb rb c0 r0 (vv + 1)) := by
  have gc1 := (I.2.2.2.1 0).mc gc
  have gr1 := (I.2.2.2.1 0).mr gr'
  have b4 : k 4 ≤ 2 * k 1 + 2 * k 9 := I.1.1.2.2.2.2.2.2.2.2.2.1
  refine wy_pre (F := wyC1) (K := wyK1) (x := 46) (Or.inl ⟨rfl, rfl⟩) I t hV gc gr' (fun c1 y h1 h2 h3 => ?_) (fun c1 r1 S1 h321 C1 R1 d55 d59 ch1 m13 q3 => ?_) (fun f2 p0 j c' r' z y hj => ?_) (fun f2 p0 j c' r' z y hj => h2_sep _ _ z.wy1 (y.wy1 hj) (fun _ _ z y => Or.inr ⟨f2, p0, z, y⟩))
  · unfold wyC0
    rw [show (46 : Int32) = nI 46 from rfl, h2, l2_bs, if_neg (by rw [h3]; decide)]
  rotate_left
  · rw [z.wy0]
    exact h2_doneL (l2_imp (y.wy1 hj) (fun _ y => Or.inr ⟨f2, p0, z, y⟩))
  have C1m : l2_fr mo_Wc c0 c1 := gc1.trans (C1.mono (fun b j y => by unfold la_W at y; unfold mo_Wc; omega))
  have R1m : l2_fr mo_Wr r0 r1 := gr1.trans (R1.mono (fun b j y => by unfold wy_W xn_W rn_W at y; unfold mo_Wr; omega))
  unfold wyC1 wyK1
  refine fs_field (F := fun x s => (f_X0_emit 37 x s).bind (fun r8 => some r8.2)) (m := k 2) S1 (by omega) C1m R1m (fun c2 r2 X S2 C2 R2 hX d57 => ?_) (fun f2 p0 x c' r' z y => ?_)
  rotate_left
  · exact h2_doneR (l2_bd _ (z.emit _ _) (fun w hw => l2_sm (Or.inr ⟨f2, p0, hw, y⟩)))
  refine fs_op (F := fun s => some s) (o := 37) S2 (show k 4 + 1 ≤ 2 * (k 1 + 1) + 2 * k 9 by omega) (fun c3 S3 C3 px => h2_sm (Or.inl ⟨va_up EE (vv + 1) (k 4 + 1), va_up G (vv + 1) (k 2 + 1), ck (k 0 + 1 + 1) (k 1 + 1) (k 2 + 1) (k 3) (k 4 + 1) (k 5) (k 6) (k 7) (k 8) (k 9), ?_⟩))
  have C : l2_fr (xWc (k 3) (k 4) (k 5) (k 6) 0 0) c c3 := ((C1.mono (fun b j y => by
    rcases y with ⟨rfl, rfl⟩ | y
    · exact xWc.i845 (by decide)
    · exact x_la y)).trans (C2.mono (fun b j y => x_la y))).trans (C3.mono (fun b j y => by
    rcases y with ⟨rfl, rfl⟩ | ⟨y, rfl⟩
    · exact xWc.i334 (Or.inl rfl)
    · exact xWc.iop y (Nat.le_refl _)))
  have R : l2_fr (fun b j => wy_W (k 2) w vv G b j ∨ nm_W b j ∨ (b = 957 ∧ j = k 2)) r r2 := (R1.mono (fun b j y => Or.inl y)).trans (R2.mono (fun b j y => by
    rcases y with y | y | y
    · exact Or.inl (Or.inr (Or.inl y))
    · exact Or.inr (Or.inl y)
    · exact Or.inr (Or.inr y)))
  have k55 : r2.1 955 (k 2) = nI 68 := by rw [(R2 955 _ (by unfold rn_W nm_W; omega)).1]; exact d55
  refine wI.add hl I (k' := ck (k 0 + 1 + 1) (k 1 + 1) (k 2 + 1) (k 3) (k 4 + 1) (k 5) (k 6) (k 7) (k 8) (k 9)) S3 ?_ ?_ rfl (Nat.lt_succ_self _) (fun x hx => ?_) C R (fun b j y => y) (fun b j y => ?_) ?_ (Nat.lt_succ_self _) (Nat.lt_succ_self _) (show k 2 + 1 ≤ 13000 by omega) (fun n3 h3 => ⟨?_, S3.mE hV h3, Or.inl ⟨k55, rfl, Nat.le_refl _, X, hX, d57, px⟩⟩)
  · rw [(R2 950 32 (by unfold rn_W nm_W; omega)).1]; exact h321
  · exact ⟨by show k 0 ≤ k 0 + 1 + 1; omega, Nat.le_succ _, Nat.le_succ _, Nat.le_refl _, Nat.le_succ _, Nat.le_refl _, Nat.le_refl _, Nat.le_refl _, Nat.le_refl _, Nat.le_refl _⟩
  · show k 4 + 1 + x ≤ 2 * (k 1 + 1) + 2 * k 9
    omega
  · rcases y with (y | y | y | y) | y | ⟨rfl, rfl⟩
    · exact Or.inl (xn_r y)
    · exact Or.inl (x_rn y)
    · exact Or.inr (Or.inl ⟨y.1, y.2.1⟩)
    · exact Or.inr (Or.inr y)
    · exact Or.inl (x_nm y)
    · exact Or.inl (Or.inr (Or.inr (Or.inl ⟨by decide, by decide, Nat.le_refl _⟩)))
  · refine ⟨?_, fun j hj => ?_⟩
    · rw [(R2 959 w (by unfold rn_W nm_W; omega)).1]; exact ch1.1
    · rw [(R2 960 (G j) (by unfold rn_W nm_W; omega)).1]; exact ch1.2 j hj
  · refine xD.mk1 (K := 68) (T := fun _ => False) k55 (by decide) ⟨68, by decide, by decide, k55, fun z => absurd z (by decide), fun z => absurd z (by decide), fun z => by omega, fun z => absurd z (by decide)⟩ (fun a y1 y2 => by have y2 : a < k 6 := y2; omega) (fun p => ⟨fun y => ?_, fun y => y.elim⟩) (fun S hS => (hS.same ?_ ?_).iff (fun x => ⟨Or.inl, fun y => y.elim id (fun z => z.elim)⟩)) (fun z => by omega)
    · obtain ⟨_, ⟨y, _⟩ | ⟨_, K', X', _, _, y1, _, y2⟩⟩ := y
      · have y : (0 : Nat) = 1 := y
        omega
      · have y2 : 2147483647 ≤ 66 + X' := y2
        omega
    · rw [(C3 846 7 (by omega)).1, (C2 846 7 (by unfold la_W; omega)).1, (C1 846 7 (by unfold la_W; omega)).1]
    · rw [(C3 846 8 (by omega)).1, (C2 846 8 (by unfold la_W; omega)).1, (C1 846 8 (by unfold la_W; omega)).1]
theorem wy_at (I : wI P nt f n2 Y n L v ka a g ln w lo kb cb rb vv EE G k c r) (t : c.1 1 8 = nI 91) (hV : en_V n 1 L v) (hl : ln < 400) (gc : l2_fr mo_Wc c0 cb) (gr' : l2_fr mo_Wr r0 rb) : t_h2 ((f_X6_node c).bind wyC0) ((f_X13_node (nI 69) 1 r).bind (fun y => (f_X13_next y.2).bind (fun z => (f_X13_hang (nI w) y.1 z).bind (fun h => wyK2 y.1 h)))) (wyO P nt f n2 Y n L v ka a g ln w lo kb cb rb c0 r0 (vv + 1)) := by
  have gc1 := (I.2.2.2.1 0).mc gc
  have gr1 := (I.2.2.2.1 0).mr gr'
  have b4 : k 4 ≤ 2 * k 1 + 2 * k 9 := I.1.1.2.2.2.2.2.2.2.2.2.1
  refine wy_pre (F := wyC2) (K := wyK2) (x := 91) (Or.inr ⟨rfl, rfl⟩) I t hV gc gr' (fun c1 y h1 h2 h3 => ?_) (fun c1 r1 S1 h321 C1 R1 d55 d59 ch1 m13 q3 => ?_) (fun f2 p0 j c' r' z y hj => ?_) (fun f2 p0 j c' r' z y hj => h2_sep _ _ z.wy2 (y.wy2 hj) (fun _ _ z y => Or.inr ⟨f2, p0, z, y⟩))
  · unfold wyC0
    rw [pj_nottook (x := 46) (by rw [h1]; decide), l2_bs, if_pos rfl, show (91 : Int32) = nI 91 from rfl, h2, l2_bs, if_neg (by rw [h3]; decide)]
  rotate_left
  · rw [z.wy0]
    exact h2_doneL (l2_imp (y.wy2 hj) (fun _ y => Or.inr ⟨f2, p0, z, y⟩))
  have C1m : l2_fr mo_Wc c0 c1 := gc1.trans (C1.mono (fun b j y => by unfold la_W at y; unfold mo_Wc; omega))
  have R1m : l2_fr mo_Wr r0 r1 := gr1.trans (R1.mono (fun b j y => by unfold wy_W xn_W rn_W at y; unfold mo_Wr; omega))
  unfold wyC2 wyK2
  obtain ⟨y, y', e1, e2, hx1, h⟩ := ew_exp0 S1.1 (S1.en hV) h321
  rw [e1, e2, l2_bs, l2_bs]
  refine h2_ckR (l2_ix (by omega) (by decide)) (h2_lR ?_)
  rw [nI_clamp (n := k 2) (by omega)]
  obtain ⟨yv, c2⟩ := y
  obtain ⟨yv', r2⟩ := y'
  show t_h2 ((f_X2_need 93 c2).bind _) ((f_X13_mustBe 93 (t_setI r2 959 (k 2) yv')).bind _) _
  have f4 : l2_fr (fun b j => b = 959 ∧ j = k 2) r2 (t_setI r2 959 (k 2) yv') := l2_fr.set ⟨rfl, rfl⟩
  have v4 : (t_setI r2 959 (k 2) yv').1 959 (k 2) = yv' := by simp only [l2_gI, reduceIte]
  have fin : ∀ f2 p0 c', zS f f2 p0 c0 c' → t_hk ((f_X0_emit 38 0 c').bind (fun r6 => some r6.2)) (zS f f2 p0 c0) := fun f2 p0 c' z => l2_bd _ (z.emit _ _) (fun w hw => l2_sm hw)
  rcases h with ⟨nd, hy, u', q', m', t', e', p', l', s', i', G1⟩ | ⟨f2, p0, B1, B2, B3⟩
  rotate_left
  · have B1 : mF f2 p0 c2 := B1
    have B2 : l2_fr (xWc (k 3) (k 4) (k 5) (k 6) 0 0) c1 c2 := B2
    have z1 : zS f f2 p0 c0 c2 := ⟨⟨B1, C1m.trans (mo_xc (B2.mono (fun b j y => y.sub (Nat.zero_le _) (Nat.zero_le _) (Nat.zero_le _) (Nat.zero_le _) (Nat.le_refl _) (Nat.zero_le _))))⟩, S1.lk.exp _ _ e1, by rw [(B2 845 12 (by unfold xWc; omega)).1]; exact S1.1.2.2.2.1.2.2.1⟩
    have r1' : rS P f f2 p0 r0 r2 := ⟨B3.ry R1m, by rw [(B3.fr0 950 33 (by unfold xWr; omega)).1]; exact S1.2.2.2.2.1⟩
    obtain ⟨r3, e3, y3⟩ := (r1'.set (b := 959) (j := k 2) (x := yv') (by unfold mo_Wr; omega) (by omega)).mb (x := 93) (by unfold rj_no; decide)
    rw [z1.1.need (by decide), e3, l2_bs, l2_bs]
    exact h2_doneR (l2_imp (fin f2 p0 c2 z1) (fun _ z => Or.inr ⟨f2, p0, z, y3⟩))
  have hy : yv' = nI nd := hy
  subst hy
  have G2 := G1
  obtain ⟨⟨o1, o2, o3, o4, o5, o6, o7, o8, o9⟩, M, eb, g4, g5, _, g6, g7, g8, g9, g32, gE⟩ := G2
  obtain ⟨k2, hk2, S2, h322, sn2, kl, pc, _, n960, _⟩ := fs_ew (ln := ln) S1 G1 (fun n3 h3 => S1.mE hV h3) hl (by decide)
  have o1 : k 0 + 1 < u' := o1
  have o2 : k 1 + 1 < q' := o2
  have o3 : k 2 + 1 < m' := o3
  have o4 : k 3 ≤ t' := o4
  have o5 : k 4 ≤ e' := o5
  have o6 : k 5 ≤ p' := o6
  have o7 : k 6 ≤ l' := o7
  have o8 : k 7 ≤ s' := o8
  have o9 : k 8 ≤ i' := o9
  have g4 : l2_fr (xWc (k 3) (k 4) (k 5) (k 6) 0 0) c1 c2 := g4
  have g5 : l2_fr (xWr (k 2 + 1) (k 7)) r1 r2 := g5
  have g7 : xD (E_f f n v) c1 c2 r2 (k 6) l' (k 8) i' (k 2 + 1) m' := g7
  have eb : e' + 1 ≤ 2 * q' + 2 * k 9 ∧ 2 * e' + 1 + 3 * (k 1 + 1) ≤ 2 * k 4 + 3 * q' := eb
  have S2 : fs P nt f n2 Y n L ka a g k2 c2 r2 := S2
  have h322 : r2.1 950 32 = 0 := h322
  have tt := g6.at
  have R2 : l2_fr (fun b j => wy_W (k 2) w vv G b j ∨ xWr (k 2 + 1) (k 7) b j) r r2 := (R1.mono (fun b j y => Or.inl y)).trans (g5.mono (fun b j y => Or.inr y))
  have C2 : l2_fr (xWc (k 3) (k 4) (k 5) (k 6) 0 0) c c2 := (C1.mono (fun b j y => by
    rcases y with ⟨rfl, rfl⟩ | y
    · exact xWc.i845 (by decide)
    · exact x_la y)).trans g4
  have C2m : l2_fr mo_Wc c0 c2 := gc1.trans (mo_xc (C2.mono (fun b j y => y.sub (Nat.zero_le _) (Nat.zero_le _) (Nat.zero_le _) (Nat.zero_le _) (Nat.le_refl _) (Nat.zero_le _))))
  generalize t_setI r2 959 (k 2) (nI nd) = r3 at *
  have R3 : l2_fr (fun b j => wy_W (k 2) w vv G b j ∨ xWr (k 2) (k 7) b j) r r3 := (R2.mono (fun b j y => y.elim Or.inl (fun z => Or.inr (z.sub (Nat.le_succ _) (Nat.le_refl _))))).trans (f4.mono (fun b j y => Or.inr (Or.inr (Or.inr (Or.inl ⟨by omega, by omega, by omega⟩)))))
  have R3m : l2_fr mo_Wr r0 r3 := gr1.trans (R3.mono (fun b j y => by
    rcases y with y | y
    · unfold wy_W xn_W rn_W at y; unfold mo_Wr; omega
    · unfold xWr at y; unfold mo_Wr; omega))
  have X2 := (S2.1.xp (S2.en hV) h322).1
  have X3 := X2.own (l2_fr.rf (W := fun _ _ => False)) f4 (fun b j y => y.elim) (fun b j y => by omega)
  have S3 := S2.ofX X3 l2_fr.rf (mm := 0) (f4.mono (fun b j y => Or.inr (Or.inr (Or.inl ⟨by omega, by omega, Nat.zero_le _⟩)))) (Nat.le_refl _) (Nat.le_refl _) (by
    have b := S2.1.2.2.2.2.2
    omega)
  refine fs_need (c0 := c0) (r0 := r0) (x := 93) (s := 93) S3 hl (by decide) rfl C2m R3m (fun c4 r4 S4 sn4 q4 y1 y2 => ?_) (fun f2 p0 c' r' z y => h2_doneR (l2_imp (fin f2 p0 c' z) (fun _ z => Or.inr ⟨f2, p0, z, y⟩)))
  have e24 : k2 4 = e' := by rw [hk2]; rfl
  have e21 : k2 1 = q' := by rw [hk2]; rfl
  have e29 : k2 9 = k 9 := by rw [hk2]; rfl
  have e20 : k2 0 = u' := by rw [hk2]; rfl
  have e22 : k2 2 = m' := by rw [hk2]; rfl
  have e23 : k2 3 = t' := by rw [hk2]; rfl
  have e25 : k2 5 = p' := by rw [hk2]; rfl
  have e26 : k2 6 = l' := by rw [hk2]; rfl
  have e27 : k2 7 = s' := by rw [hk2]; rfl
  have e28 : k2 8 = i' := by rw [hk2]; rfl
  refine fs_op (F := fun s => some s) (o := 38) (x := 0) S4 (show k2 4 + 1 ≤ 2 * k2 1 + 2 * k2 9 by omega) (fun c5 S5 C5 px => h2_sm (Or.inl ⟨va_up EE (vv + 1) (e' + 1), va_up G (vv + 1) m', ck (u' + 1) q' m' t' (e' + 1) p' l' s' i' (k 9), ?_⟩))
  have px : px_o c5 e' 38 0 := e24 ▸ px
  have S5 : fs P nt f n2 Y n L ka a g (ck (u' + 1) q' m' t' (e' + 1) p' l' s' i' (k 9)) c5 r4 := by
    rw [← e24, ← e21, ← e29, ← e20, ← e22, ← e23, ← e25, ← e26, ← e27, ← e28]
    exact S5
  have C5 : l2_fr (fun b j => (b = 334 ∧ j = 2) ∨ ((b = 335 ∨ b = 336) ∧ j = e')) c4 c5 := C5.mono (fun b j y => by
    have y : (b = 334 ∧ j = 2) ∨ ((b = 335 ∨ b = 336) ∧ j = k2 4) := y
    omega)
  have C25 : l2_fr (fun b j => la_W b j ∨ (b = 334 ∧ j = 2) ∨ ((b = 335 ∨ b = 336) ∧ j = e')) c2 c5 := (y1.mono (fun b j y => Or.inl y)).trans (C5.mono (fun b j y => Or.inr y))
  have R24 : l2_fr (fun b j => rn_W b j ∨ (b = 959 ∧ j = k 2)) r2 r4 := (f4.mono (fun b j y => Or.inr y)).trans (y2.mono (fun b j y => Or.inl y))
  have C : l2_fr (xWc (k 3) (k 4) (k 5) (k 6) 0 0) c c5 := C2.trans (C25.mono (fun b j y => by
    rcases y with y | ⟨rfl, rfl⟩ | ⟨y, rfl⟩
    · exact x_la y
    · exact xWc.i334 (Or.inl rfl)
    · exact xWc.iop y o5))
  have R : l2_fr (fun b j => wy_W (k 2) w vv G b j ∨ xWr (k 2) (k 7) b j) r r4 := R3.trans (y2.mono (fun b j y => Or.inr (x_rn y)))
  have k55 : r1.1 955 (k 2) = nI 69 := d55
  have r55 : r4.1 955 (k 2) = nI 69 := by rw [(R24 955 _ (by unfold rn_W; omega)).1, (g5 955 _ (by unfold xWr; omega)).1]; exact d55
  have mlt : m' ≤ 12999 := by
    have := (S2.1.1.mle (by decide)).1
    omega
  refine wI.add hl I (k' := ck (u' + 1) q' m' t' (e' + 1) p' l' s' i' (k 9)) S5 ?_ ?_ rfl (show k 1 < q' by omega) (fun x hx => ?_) C R (fun b j y => y) (fun b j y => ?_) ?_ (show k 2 < m' by omega) (show k 4 < e' + 1 by omega) (show m' ≤ 13000 by omega) (fun n3 h3 => ⟨?_, S5.mE hV h3, Or.inr ⟨r55, nd, e', k 3, ?_, rfl, Nat.le_refl _, ?_, px⟩⟩)
  · rw [(y2 950 32 (by unfold rn_W; omega)).1, (f4 950 32 (by omega)).1]; exact h322
  · show k 0 ≤ u' + 1 ∧ k 1 ≤ q' ∧ k 2 ≤ m' ∧ k 3 ≤ t' ∧ k 4 ≤ e' + 1 ∧ k 5 ≤ p' ∧ k 6 ≤ l' ∧ k 7 ≤ s' ∧ k 8 ≤ i' ∧ k 9 ≤ k 9
    omega
  · show e' + 1 + x ≤ 2 * q' + 2 * k 9
    omega
  · rcases y with (y | y | y | y) | y
    · exact Or.inl (xn_r y)
    · exact Or.inl (x_rn y)
    · exact Or.inr (Or.inl ⟨y.1, y.2.1⟩)
    · exact Or.inr (Or.inr y)
    · exact Or.inl y
  · obtain ⟨_, W⟩ := I.2.2.2.2.2.2 (f + 1) (Nat.lt_succ_self _)
    obtain ⟨W1, W2, W3, W4, W5, W6, W7, W8⟩ := W
    refine ⟨?_, fun j hj => ?_⟩
    · rw [(R24 959 w (by unfold rn_W; omega)).1, (g5 959 w (by unfold xWr; omega)).1]; exact ch1.1
    · have le : G j ≤ k 2 := by
        by_cases z : j = vv
        · rw [z, W6]; exact Nat.le_refl _
        · have := (W8 j (by omega)).2.1
          have := (W8 j (by omega)).2.2.1
          omega
      rw [(R24 960 (G j) (by unfold rn_W; omega)).1, (g5 960 (G j) (by unfold xWr; omega)).1]; exact ch1.2 j hj
  · have D1 : xD (E_f f n v) c c1 r1 (k 6) (k 6) (k 8) (k 8) (k 2) (k 2 + 1) := xD.plain (K := 69) k55 (by decide) (by decide) (C1 846 7 (by unfold la_W; omega)).1 (C1 846 8 (by unfold la_W; omega)).1 (fun y => by omega)
    have D2 := D1.trans g7 ⟨Nat.le_refl _, o7⟩ ⟨Nat.le_refl _, o9⟩ ⟨Nat.le_succ _, by omega⟩ (fun b j x1 x2 x3 => (g4 b j (by unfold xWc; omega)).1) (fun j j1 j2 => by
      have e : ∀ b, (955 ≤ b ∧ b ≤ 962) ∨ b = 1003 → r2.1 b j = r1.1 b j ∧ r2.2.1 b j = r1.2.1 b j := fun b y => ⟨(g5 b j (by unfold xWr; omega)).1, (g5 b j (by unfold xWr; omega)).2.1⟩
      exact ⟨(e 955 (by omega)).1, (e 956 (by omega)).1, (e 962 (by omega)).1, (e 1003 (by omega)).1, (e 957 (by omega)).2, (e 958 (by omega)).2, fun _ => (e 961 (by omega)).1⟩)
    refine D2.fr (fun b j x1 x2 x3 => (C25 b j (by unfold la_W; omega)).1) (C25 846 7 (by unfold la_W; omega)).1 (C25 846 8 (by unfold la_W; omega)).1 (fun j j1 j2 => ?_)
    have e : ∀ b, b ≠ 959 → (955 ≤ b ∧ b ≤ 962) ∨ b = 1003 → r4.1 b j = r2.1 b j ∧ r4.2.1 b j = r2.2.1 b j := fun b y1 y => ⟨(R24 b j (by unfold rn_W; omega)).1, (R24 b j (by unfold rn_W; omega)).2.1⟩
    exact ⟨(e 955 (by omega) (by omega)).1, (e 956 (by omega) (by omega)).1, (e 962 (by omega) (by omega)).1, (e 1003 (by omega) (by omega)).1, (e 957 (by omega) (by omega)).2, (e 958 (by omega) (by omega)).2, fun _ => (e 961 (by omega) (by omega)).1⟩
  · rw [(y2 959 _ (by unfold rn_W; omega)).1]; exact v4
  · have xb : xe_B n2 n3 (E_f f n v) c2 r2 t' e' p' l' s' (k 2 + 1) m' (k 4) e' (k 3) nd := ⟨S2.mE hV h3, tt.1, Nat.le_refl _, t', k 6, l', k 2 + 1, m', p', s', m' - (k 2 + 1), ⟨Nat.le_refl _, Nat.le_refl _, Nat.le_refl _, Nat.le_refl _, Nat.le_refl _, Nat.le_refl _⟩, g6⟩
    exact xb.fr C25 R24 (fun b j y => by unfold la_W at y; omega) (fun b j y => by unfold rn_W at y; omega) (mK.of R24 (fun b j y => by unfold rn_W; omega)) (Nat.le_refl _) (Nat.le_refl _) ⟨Nat.le_refl _, Nat.le_succ _, Nat.le_refl _, Nat.le_refl _, Nat.le_refl _, Nat.le_refl _⟩
end
