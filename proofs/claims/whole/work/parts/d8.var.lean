/-! Level 2: VAR as a statement, whole. -/
section
variable {P : pc_S} {nt : Nat → Nat} {f n n' n2 n3 Y X a g f2 p0 ln so K V : Nat} {L L' v : Nat → Nat} {ka : Int32} {k k0 k1 k2 k' : Nat → Nat} {c0 r0 c r c1 r1 c2 r2 c' r' : t_S} {A B A' B' : Nat → Prop} {E : en_S}
/-- the frames up to := -/
def vh_Wc (f n l ln b j : Nat) : Prop := hi_Wc l b j ∨ ((b = 442 ∨ b = 443) ∧ j = 8 * f + n)
def vh_Wr (f n ln b j : Nat) : Prop := hi_Wr b j ∨ (b = 984 ∧ j = 8 * f + n) ∨ (b = 986 ∧ j = f) ∨ (991 ≤ b ∧ b ≤ 994 ∧ j = ln)
theorem vh_mK (h : l2_fr (vh_Wr f n ln) r r1) (hf : f < 40) (hn : n < 8) (e0 : r.1 986 f = nI n) (e1 : r1.1 986 f = nI (n + 1)) : mK n2 n3 r r1 := by
  have g : ∀ b j, (975 ≤ b ∧ b ≤ 979) ∨ b = 982 ∨ b = 983 ∨ (b = 984 ∧ j ≠ 8 * f + n) ∨ (b = 986 ∧ j ≠ f) → r1.1 b j = r.1 b j := fun b j y => (h b j (by unfold vh_Wr hi_Wr nk_W rn_W nm_W; omega)).1
  refine ⟨fun k _ _ cnt hc e => ⟨⟨cnt, Nat.le_refl _, hc, by rw [g 979 k (by omega)]; exact e⟩, fun i _ => ⟨g _ _ (by omega), g _ _ (by omega), g _ _ (by omega)⟩⟩, fun f' _ hf' => ⟨⟨g _ _ (by omega), g _ _ (by omega)⟩, fun cnt hc e => ?_⟩⟩
  by_cases z : f' = f
  · subst z
    have : cnt = n := (nI_eq (by omega) (by omega)).mp (e.symm.trans e0)
    exact ⟨⟨n + 1, by omega, by omega, e1⟩, fun i hi => g _ _ (by omega)⟩
  · exact ⟨⟨cnt, Nat.le_refl _, hc, by rw [g 986 f' (by omega)]; exact e⟩, fun i hi => g _ _ (by omega)⟩
theorem vh_sn {u' l' : Nat} (hC : l2_fr (vh_Wc f n (k 6) ln) c c1) (hR : l2_fr (vh_Wr f n ln) r r1) (hl : ln < 400) (hn : n < 8) (hu : k 0 ≤ u') (hl' : k 6 ≤ l') (hK : mK n2 n3 r r1) : sn n2 n3 f n ln (fun _ => False) (fun x => 991 ≤ x ∧ x ≤ 994) k c r (ck u' (k 1) (k 2) (k 3) (k 4) (k 5) l' (k 7) (k 8) (k 9)) c1 r1 := by
  refine ⟨⟨hu, Nat.le_refl _, Nat.le_refl _, Nat.le_refl _, Nat.le_refl _, Nat.le_refl _, hl', Nat.le_refl _, Nat.le_refl _, Nat.le_refl _⟩, hC.mono (fun b j y => ?_), hR.mono (fun b j y => ?_), fun j hj _ => (hC _ j (by unfold vh_Wc hi_Wc la_W; omega)).1, fun x x1 x2 y => (hR x ln (by unfold vh_Wr hi_Wr nk_W rn_W nm_W; omega)).1, hK⟩
  · rcases y with (y | y | y) | y
    · exact Or.inl (x_la y)
    · obtain ⟨rfl, rfl⟩ := y
      exact Or.inl (xWc.i846 (by decide))
    · exact Or.inl (xWc.iln y.1 y.2.1 y.2.2)
    · exact Or.inr (Or.inr (Or.inr (Or.inl ⟨y.1, by omega, by omega⟩)))
  · rcases y with ((y | y) | y) | y | y | y
    · exact Or.inl (x_rn y)
    · exact Or.inl (x_nm y)
    · exact Or.inr (Or.inl ⟨y.1, by omega⟩)
    · exact Or.inr (Or.inr (Or.inr (Or.inl ⟨y.1, by omega, by omega⟩)))
    · exact Or.inr (Or.inr (Or.inl y))
    · exact Or.inr (Or.inr (Or.inr (Or.inr (by omega))))
theorem LK.vtype (h : LK c) (x y : Int32) : t_pq (f_X6_readVarType x y c) (fun z => LK z) := by
  unfold f_X6_readVarType
  exact pc_bd (pl_f_X2_take h) (fun r1 h1 => pc_if (fun _ => pc_some h1) (fun _ => pc_bd (pl_f_X6_link h1) (fun r2 h2 => pc_some h2)))
theorem sI.var (h : sI P nt f n2 n3 Y n L v ka a g ln 0 k c r c0 r0) : t_h2 (f_X6_readPlain (nI ln) 1 c) (f_X13_simple (nI ln) 9 r) (sO P nt f n2 n3 Y n v ka a g ln 1 1 k c r c0 r0) := by
  rw [rp_1 h.2.2.2.1, sp_9 h.2.2.2.1]
  refine h.kind (by decide) (fun r1 h1 _ => ?_)
  obtain ⟨S, h32, hV, hl, hf, gc, gr', o, sl, hK⟩ := id h1
  have hf40 := S.2.2.2.1
  obtain ⟨w0, r3, d, e, R3, J3, hX⟩ := vl_pre S hl
  show t_h2 _ (f_X13_varLine (nI ln) r1) _
  rw [e]
  have nfc : l2_fr (fun _ _ => False) c c := l2_fr.rf
  have hw : fw_R c r3 f n L := S.2.1.fr nfc R3 ⟨fun y => y, fun _ _ y => y⟩ ⟨by unfold nm_W; omega, fun i _ => by unfold nm_W; omega⟩
  have hh : fh_R c r3 f n2 Y ka := S.2.2.1.fr nfc R3 (fun b j _ _ y => y) (fun b j y => by unfold nm_W; omega)
  have h12 : c.1 845 12 = nI f := S.1.2.2.2.1.2.2.1
  have h14 : c.1 845 14 = ka := S.1.2.2.2.1.2.2.2.2.1
  have vr : ∀ {x : t_S}, l2_fr (vh_Wr f n ln) r1 x → l2_fr mo_Wr r0 x ∧ x.1 950 33 = nI (2000 + f) := fun hx => ⟨gr'.trans (hx.mono (fun b j y => by unfold vh_Wr hi_Wr nk_W rn_W nm_W at y; unfold mo_Wr; omega)), by rw [(hx 950 33 (by unfold vh_Wr hi_Wr nk_W rn_W nm_W; omega)).1]; exact S.2.2.2.2.1⟩
  have vc : ∀ {x : t_S}, l2_fr (vh_Wc f n (k 6) ln) c x → l2_fr mo_Wc c0 x ∧ x.1 845 12 = nI f := fun hx => ⟨gc.trans (hx.mono (fun b j y => by unfold vh_Wc hi_Wc la_W at y; unfold mo_Wc; omega)), by rw [(hx 845 12 (by unfold vh_Wc hi_Wc la_W; omega)).1]; exact h12⟩
  refine h2_bb _ (fp_place J3 hw hh hf40 h12 h14) (fun x r4 hq => ?_)
  obtain ⟨xv, c4⟩ := x
  have R3' : l2_fr (vh_Wr f n ln) r1 r3 := R3.mono (fun b j y => y.elim (fun y => Or.inl (Or.inl (Or.inr y))) (fun y => Or.inr (Or.inr (Or.inr ⟨by omega, by omega, y.2⟩))))
  rcases hq with hG | hB
  rotate_left
  · obtain ⟨_, x2, x3, _, f2, p0, y3, y4⟩ := hB
    have x2 : l2_fr (fun b j => la_W b j ∨ ((b = 442 ∨ b = 443) ∧ j = 8 * f + n ∧ n < 8)) c c4 := x2
    have C4 : l2_fr (vh_Wc f n (k 6) ln) c c4 := x2.mono (fun b j y => y.elim (fun y => Or.inl (Or.inl y)) (fun y => Or.inr ⟨y.1, y.2.1⟩))
    have R4 : l2_fr (vh_Wr f n ln) r1 r4 := R3'.trans (x3.mono (fun b j y => y.elim (fun y => Or.inl (Or.inl y)) (fun y => y.elim (fun y => Or.inr (Or.inl ⟨y.1, y.2.1⟩)) (fun y => Or.inr (Or.inr (Or.inl y))))))
    obtain ⟨l, l1, l2⟩ := S.lk
    have z : zS f f2 p0 c0 c4 := ⟨⟨S.1.mF y3 (x2 334 2 (by unfold la_W; omega)).1 (x2 845 9 (by unfold la_W; omega)).1 (x2 845 7 (by unfold la_W; omega)).1, (vc C4).1⟩, ⟨l, l1, by rw [(x2 846 6 (by unfold la_W; omega)).1]; exact l2⟩, (vc C4).2⟩
    have y : yS P f f2 p0 r0 r4 := ⟨⟨y4, (vr R4).1⟩, (vr R4).2⟩
    exact h2_sep _ _ (l2_if (fun _ => z.rdw hl hf40 xv) (fun _ => l2_sm z)) (y.lnw hf40 w0) (fun a b z y => Or.inr ⟨f2, p0, z, y⟩)
  obtain ⟨x1, n8, ⟨X, hX', x10, x18, x442, x984⟩, x443, x986, C4', R4', J4⟩ := hG
  have x1 : xv = nI n := x1
  subst x1
  have x442 : c4.1 442 (8 * f + n) = nI (66 + X) := x442
  have x443 : c4.1 443 (8 * f + n) = -1 := x443
  have C4' : l2_fr (fun b j => la_W b j ∨ ((b = 442 ∨ b = 443) ∧ j = 8 * f + n)) c c4 := C4'
  have J4 : pj P (k 0 + 1) 0 0 (k 1) (k 2) c4 r4 := J4
  have C4 : l2_fr (vh_Wc f n (k 6) ln) c c4 := C4'.mono (fun b j y => y.elim (fun y => Or.inl (Or.inl y)) (fun y => Or.inr y))
  have R4 : l2_fr (vh_Wr f n ln) r1 r4 := R3'.trans (R4'.mono (fun b j y => y.elim (fun y => Or.inl (Or.inl y)) (fun y => y.elim (fun y => Or.inr (Or.inl y)) (fun y => Or.inr (Or.inr (Or.inl y))))))
  obtain ⟨X2, _, x2, rfl⟩ := hX x18
  have eX : X2 = X := by
    have := (lN_eq (by omega) (by omega)).mp (x2.symm.trans x10)
    omega
  subst eX
  show t_h2 (if (0 : Int32) ≤ nI n then vrD ln (nI n) c4 else some c4) _ _
  rw [if_pos (nI_pos' (by omega))]
  unfold vrD vlD
  rw [(vc C4).2, show nI f * (8 : Int32) = nI (8 * f) from (pk_mul f 8).trans (by rw [Nat.mul_comm]), nI_add]
  refine h2_lR ?_
  have f5 : l2_fr (fun b j => b = 993 ∧ j = ln) r4 (t_setI r4 993 ln (nI X2)) := l2_fr.set ⟨rfl, rfl⟩
  have v5 : (t_setI r4 993 ln (nI X2)).1 993 ln = nI X2 := by simp only [l2_gI, reduceIte]
  generalize t_setI r4 993 ln (nI X2) = r5 at *
  have R5 : l2_fr (vh_Wr f n ln) r1 r5 := R4.trans (f5.mono (fun b j y => Or.inr (Or.inr (Or.inr ⟨by omega, by omega, y.2⟩))))
  have J5 : pj P (k 0 + 1) 0 0 (k 1) (k 2) c4 r5 := J4.fr (l2_fr.rf (W := fun _ _ => False)) f5 (fun j y => y) (fun b i _ _ y => y) (fun b i _ _ y => y) (fun y => y) (fun j _ => by omega) (fun b i _ _ => by omega)
  have M5 : mp P nt (k 0 + 1) (k 1) (k 2) a g (k 3) (k 4) (k 5) (k 6) (k 7) (k 8) (k 9) (nI f) (-1) ka c4 r5 := S.1.go (Nat.le_succ _) (Nat.le_refl _) J5 C4' R5 (fun b j y => by unfold la_W; omega) (fun b j y => by unfold vh_Wr hi_Wr nk_W rn_W nm_W; omega)
  obtain ⟨l, l1, l2⟩ := S.lk
  have lk4 : LK c4 := ⟨l, l1, by rw [(C4' 846 6 (by unfold la_W; omega)).1]; exact l2⟩
  refine h2_bb _ (h2_self (hi_hint (so := 1) (spot := nI (8 * f + n)) M5)) (fun c5 r6 hq => ?_)
  obtain ⟨⟨C5', R6', hq⟩, ec5, _⟩ := hq
  have lk5 : LK c5 := LK.vtype lk4 _ _ c5 ec5
  have C5 : l2_fr (vh_Wc f n (k 6) ln) c c5 := C4.trans (C5'.mono (fun b j y => Or.inl y))
  have R6 : l2_fr (vh_Wr f n ln) r1 r6 := R5.trans (R6'.mono (fun b j y => Or.inl y))
  refine h2_lR (h2_lR ?_)
  have f7 : l2_fr (fun b j => b = 991 ∧ j = ln) r6 (t_setI r6 991 ln (r6.1 950 86)) := l2_fr.set ⟨rfl, rfl⟩
  have v7 : (t_setI r6 991 ln (r6.1 950 86)).1 991 ln = r6.1 950 86 := by simp only [l2_gI, reduceIte]
  generalize t_setI r6 991 ln (r6.1 950 86) = r7 at *
  have f8 : l2_fr (fun b j => b = 992 ∧ j = ln) r7 (t_setI r7 992 ln (r7.1 950 87)) := l2_fr.set ⟨rfl, rfl⟩
  have v8 : (t_setI r7 992 ln (r7.1 950 87)).1 992 ln = r7.1 950 87 := by simp only [l2_gI, reduceIte]
  generalize t_setI r7 992 ln (r7.1 950 87) = r8 at *
  have F68 : l2_fr (fun b j => 991 ≤ b ∧ b ≤ 992 ∧ j = ln) r6 r8 := (f7.mono (fun b j y => ⟨by omega, by omega, y.2⟩)).trans (f8.mono (fun b j y => ⟨by omega, by omega, y.2⟩))
  have R8 : l2_fr (vh_Wr f n ln) r1 r8 := R6.trans (F68.mono (fun b j y => Or.inr (Or.inr (Or.inr ⟨y.1, by omega, y.2.2⟩))))
  rcases hq with ⟨u', l', ou, ol, op, M6, alt⟩ | ⟨f2, p0, y3, y4⟩
  rotate_left
  · have z : zS f f2 p0 c0 c5 := ⟨⟨y3, (vc C5).1⟩, lk5, (vc C5).2⟩
    have y : yS P f f2 p0 r0 r6 := ⟨⟨y4, (vr R6).1⟩, (vr R6).2⟩
    have y8 : yS P f f2 p0 r0 r8 := y.fr F68 (fun b j y => by unfold mo_Wr; omega) (fun j y => by omega) (fun b i _ _ => by omega)
    rw [z.1.need (by decide), l2_bs]
    exact h2_sep _ _ (z.rdv hl hf40 (nI n)) (l2_bd _ (y8.mustBe 14909) (fun w hw => yS.lnv hw.toR hf40 hw)) (fun a b z y => Or.inr ⟨f2, p0, z, y⟩)
  have J8 : pj P u' 0 0 (k 1) (k 2) c5 r8 := M6.1.fr (l2_fr.rf (W := fun _ _ => False)) F68 (fun j y => y) (fun b i _ _ y => y) (fun b i _ _ y => y) (fun y => y) (fun j _ => by omega) (fun b i _ _ => by omega)
  refine h2_bb _ (pj_need J8 (by decide) (x := 11) (by decide) (by decide)) (fun c6 r9 hq => ?_)
  obtain ⟨y1, y2, y3⟩ := hq
  have C6 : l2_fr (vh_Wc f n (k 6) ln) c c6 := C5.trans (y1.mono (fun b j y => Or.inl (Or.inl y)))
  have R9 : l2_fr (vh_Wr f n ln) r1 r9 := R8.trans (y2.mono (fun b j y => Or.inl (Or.inl (Or.inl y))))
  rcases y3 with J9 | ⟨f2, p0, y3, y4⟩
  rotate_left
  · obtain ⟨l, l1, l2⟩ := lk5
    have z : zS f f2 p0 c0 c6 := ⟨⟨M6.mF y3 (y1 334 2 (by unfold la_W; omega)).1 (y1 845 9 (by unfold la_W; omega)).1 (y1 845 7 (by unfold la_W; omega)).1, (vc C6).1⟩, ⟨l, l1, by rw [(y1 846 6 (by unfold la_W; omega)).1]; exact l2⟩, (vc C6).2⟩
    have y : yS P f f2 p0 r0 r9 := ⟨⟨y4, (vr R9).1⟩, (vr R9).2⟩
    exact h2_sep _ _ (z.rdv hl hf40 (nI n)) (yS.lnv y.toR hf40 y) (fun a b z y => Or.inr ⟨f2, p0, z, y⟩)
  have R69 : l2_fr (fun b j => (991 ≤ b ∧ b ≤ 992 ∧ j = ln) ∨ rn_W b j) r6 r9 := (F68.mono (fun b j y => Or.inl y)).trans (y2.mono (fun b j y => Or.inr y))
  have M9 : mp P nt (u' + 1) (k 1) (k 2) a g (k 3) (k 4) (k 5) l' (k 7) (k 8) (k 9) (nI f) (-1) ka c6 r9 := M6.go (Nat.le_succ _) (Nat.le_refl _) J9 y1 R69 (fun b j y => by unfold la_W; omega) (fun b j y => by unfold rn_W; omega)
  have e86 : r9.1 986 f = nI (n + 1) := by
    rw [(R69 986 f (by unfold rn_W; omega)).1, (R6' 986 f (by unfold hi_Wr nk_W rn_W nm_W; omega)).1, (f5 986 f (by omega)).1]; exact x986
  have e84 : r9.1 984 (8 * f + n) = nI X2 := by
    rw [(R69 984 _ (by unfold rn_W; omega)).1, (R6' 984 _ (by unfold hi_Wr nk_W rn_W nm_W; omega)).1, (f5 984 _ (by omega)).1]; exact x984
  have e42 : c6.1 442 (8 * f + n) = nI (66 + X2) := by
    rw [(y1 442 _ (by unfold la_W; omega)).1, (C5' 442 _ (by unfold hi_Wc la_W; omega)).1]; exact x442
  have e43 : c6.1 443 (8 * f + n) = -1 := by
    rw [(y1 443 _ (by unfold la_W; omega)).1, (C5' 443 _ (by unfold hi_Wc la_W; omega)).1]; exact x443
  have e93 : r9.1 993 ln = nI X2 := by
    rw [(R69 993 ln (by unfold rn_W; omega)).1, (R6' 993 ln (by unfold hi_Wr nk_W rn_W nm_W; omega)).1]; exact v5
  obtain ⟨kk, hkk⟩ : ∃ kk, kk = ck (u' + 1) (k 1) (k 2) (k 3) (k 4) (k 5) l' (k 7) (k 8) (k 9) := ⟨_, rfl⟩
  have W : vz P nt f n2 Y n L X2 ka a g kk c6 r9 := by
    rw [hkk]
    exact ⟨M9, ⟨n8, by rw [(C6 440 f (by unfold vh_Wc hi_Wc la_W; omega)).1]; exact S.2.1.2.1, e86, S.2.1.2.2.2.fr C6 R9 (fun i hi => by unfold vh_Wc hi_Wc la_W; omega) (fun i hi => by unfold vh_Wr hi_Wr nk_W rn_W nm_W; omega), hX', e42, e84⟩, S.2.2.1.fr C6 R9 (fun b j _ _ => by unfold vh_Wc hi_Wc la_W; omega) (fun b j y => by unfold vh_Wr hi_Wr nk_W rn_W nm_W; omega), hf40, (vr R9).2, by rw [(R9 950 34 (by unfold vh_Wr hi_Wr nk_W rn_W nm_W; omega)).1]; exact S.2.2.2.2.2⟩
  have mk9 : mK n2 n3 r1 r9 := vh_mK R9 hf40 n8 S.2.1.2.2.1 e86
  have sn9 : sn n2 n3 f n ln (fun _ => False) (fun x => 991 ≤ x ∧ x ≤ 994) k c r1 kk c6 r9 := by
    rw [hkk]
    exact vh_sn C6 R9 hl n8 (by omega) ol mk9
  refine h2_imp (vz_tail W (by rw [(R9 950 32 (by unfold vh_Wr hi_Wr nk_W rn_W nm_W; omega)).1]; exact h32) hV hl hf (vc C6).1 (vr R9).1) (fun c7 r10 hq => ?_)
  rcases hq with ⟨k', S', k9', k00, sn2, m2, sx, c77, c743, r1086, r1084⟩ | hq
  rotate_left
  · exact Or.inr hq
  refine Or.inl ?_
  have q : sn n2 n3 f n ln (fun j => j = 5 ∨ j = 7) (fun x => 991 ≤ x ∧ x ≤ 995) k c r1 k' c7 r10 := (sn9.trans sn2).mono (fun j y => y.elim False.elim id) (fun x y => y.elim (fun y => by have y : 991 ≤ x ∧ x ≤ 994 := y; omega) (fun y => by have y : x = 995 := y; omega))
  obtain ⟨e1, e2, e3, e4⟩ := h1.row q (fun x y => by omega)
  have e91 : r10.1 991 ln = r6.1 950 86 := by
    rw [sn2.2.2.2.2.1 991 (by decide) (by decide) (by decide), (y2 991 ln (by unfold rn_W; omega)).1, (f8 991 ln (by omega)).1]; exact v7
  have e92 : r10.1 992 ln = r6.1 950 87 := by
    rw [sn2.2.2.2.2.1 992 (by decide) (by decide) (by decide), (y2 992 ln (by unfold rn_W; omega)).1, v8, (f7 950 87 (by omega)).1]
  have home : f_X6_home c4 = nI f := by
    unfold f_X6_home
    rw [(vc C4).2, if_neg (nI_pos (by omega))]
  have q6 : sq c c6 := sq.of C6 (fun b j y => by unfold vh_Wc hi_Wc la_W; omega)
  have hcl : mL_c c6 c7 l' := by
    have y := sf_mL sn2.2.1
    rw [hkk] at y
    exact y
  have m2' : mB False n2 n3 c6 c7 r10 l' (k' 6) (k 8) (k' 8) (k 2) (k' 2) ln ln := by
    rw [hkk] at m2
    exact m2
  have o2 : gr (ck (u' + 1) (k 1) (k 2) (k 3) (k 4) (k 5) l' (k 7) (k 8) (k 9)) k' := by
    have y := sn2.1
    rw [hkk] at y
    exact y
  have o26 : l' ≤ k' 6 := o2.2.2.2.2.2.2.1
  have o28 : k 8 ≤ k' 8 := o2.2.2.2.2.2.2.2.2.1
  have o22 : k 2 ≤ k' 2 := o2.2.2.1
  have k99 : k' 9 = k 9 := k9'.trans (by rw [hkk]; rfl)
  have wxa : (l' = k 6 ∧ r10.1 991 ln = -1) ∨ (l' = k 6 + 1 ∧ ∃ X pl, wx_R c6 r10 f ln (k 6) 1 0 (nI (8 * f + n)) 0 X pl) := by
    rcases alt with ⟨a1, a2⟩ | ⟨a1, X, pl, a2, a3, a4, a5, a6⟩
    · exact Or.inl ⟨a1, e91.trans a2⟩
    · rw [home] at a4
      exact Or.inr ⟨a1, X, pl, a2, a3, a4.fr (fun b x1 x2 => (y1 b (k 6) (by unfold la_W; omega)).1), e91.trans a5, e92.trans a6⟩
  have mL : mB False n2 n3 c c6 r10 (k 6) l' (k 8) (k 8) (k 2) (k 2) ln (ln + 1) := by
    rcases wxa with ⟨a1, _⟩ | ⟨a1, X, pl, wx⟩
    · rw [a1]
      exact (mB.nil q6.1 q6.2.1 q6.2.2 _ _ _ ln).wide e4
    · rw [a1]
      exact wx.mB hf40 ⟨by decide, by decide, by decide⟩ ⟨e1, e2, e3⟩ (by unfold sl_ok; omega) q6 _ _ _ _ ⟨Nat.le_refl _, Nat.lt_succ_self _⟩ e4 (Or.inr ⟨rfl, 8 * f + n, by omega, rfl⟩)
  have m := mL.same (m2'.wide e4) ⟨ol, o26, Nat.le_refl _, o28, Nat.le_refl _, o22⟩ hcl
  refine h1.fin S' (Nat.le_succ _) k99 q.1.1 q (fun j y => by unfold sA; omega) (fun x y => by unfold sE; omega) m (Or.inl ⟨rfl, rfl, rfl, ⟨hf, hf40, n + 1, Nat.lt_succ_self _, by omega, r1086⟩, c77, ⟨X2, hX', ?_, r1084⟩, c743.trans e43, ?_, sx⟩)
  · rw [sn2.2.2.2.2.1 993 (by decide) (by decide) (by decide)]; exact e93
  · rcases wxa with ⟨_, a2⟩ | ⟨a1, X, pl, wx⟩
    · exact Or.inl a2
    · exact Or.inr (wx_R.wl (e := k 6) ⟨wx.1, wx.2.1, wx.2.2.1.fr (fun b x1 x2 => hcl b (k 6) x1 x2 (by omega)), by rw [e91, ← e91]; exact wx.2.2.2.1, wx.2.2.2.2⟩ (by omega))
end
