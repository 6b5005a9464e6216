/-! Level 2: the steps of a statement: a call. -/
section
variable {P : pc_S} {nt : Nat → Nat} {f n2 n3 Y n a g f2 p0 ln side : Nat} {L v : Nat → Nat} {ka : Int32} {k k1 k2 k' : Nat → Nat} {c0 r0 c r c1 r1 c' r' : t_S} {A B A' B' : Nat → Prop}
theorem fs_name {T U : Type} {F : t_S → Option T} {K : t_S → Option U} {Q : T → U → Prop} (S : fs P nt f n2 Y n L ka a g k c r) (hl : ln < 400) (gc : l2_fr mo_Wc c0 c) (gr' : l2_fr mo_Wr r0 r) (hg : ∀ c' r' X pl, fs P nt f n2 Y n L ka a g (nx k) c' r' → (∀ n3, sn n2 n3 f n ln (fun _ => False) (fun x => x = 991 ∨ x = 992) k c r (nx k) c' r') → sq c c' → X < 7934 → pl ≤ 12000 → f_X2_word c = nI (66 + X) → c.1 1 9 = nI pl → r'.1 991 ln = nI X → r'.1 992 ln = nI pl → pc_p P (k 0) < pc_p P (k 0 + 1) → pc_c P (k 0 + 1) = pc_c P (k 0) + 1 → r'.1 950 32 = r.1 950 32 → t_h2 (F c') (K r') Q) (hb : ∀ f2 p0 c' r', zS f f2 p0 c0 c' → yS P f f2 p0 r0 r' → t_h2 (F c') (K r') Q) : t_h2 ((f_X2_need 1 c).bind F) ((fw_W 0 ln r).bind K) Q := by
  unfold f_X2_need fw_W
  show t_h2 _ (Option.bind (Option.bind (f_X13_freeName (t_setI r 992 ln (r.1 950 6))) (fun r2 => t_let (t_setI r2.2 991 ln r2.1) (fun s2 => (f_X13_next s2).bind (fun r3 => some r3)))) K) Q
  have f2' : l2_fr (fun b j => b = 992 ∧ j = ln) r (t_setI r 992 ln (r.1 950 6)) := l2_fr.set ⟨rfl, rfl⟩
  have v2 : (t_setI r 992 ln (r.1 950 6)).1 992 ln = r.1 950 6 := by simp only [l2_gI, reduceIte]
  generalize t_setI r 992 ln (r.1 950 6) = r2 at *
  obtain ⟨S2, sn2, q2⟩ := S.cell (A := fun _ => False) (B := fun x => x = 992) hl (l2_fr.rf (s := c)) (f2'.mono (fun b i y => Or.inl ⟨by omega, by omega, y.2⟩)) (fun _ _ _ => rfl) (fun x a b y => (f2' x ln (fun z => y z.1)).1)
  by_cases h8 : c.1 1 8 = 1
  rotate_left
  · rw [if_neg h8, bd_some]
    obtain ⟨c3, x, e1, e2, w1, w2, f2', p0, w3, w4⟩ := pj_noname S2.1.1 (by decide) h8
    rw [e1, e2, l2_bs, l2_bs]
    have y3 : yS P f f2' p0 r0 x.2 := S2.y w4 w2 ((sn2 0).mr gr')
    obtain ⟨y, e5, h5⟩ := (y3.set (b := 991) (j := ln) (x := x.1) (by unfold mo_Wr; omega) (by omega)).next
    show t_h2 (F c3) (Option.bind (Option.bind (f_X13_next (t_setI x.2 991 ln x.1)) (fun r3 => some r3)) K) Q
    rw [e5, l2_bs, l2_bs]
    exact hb f2' p0 c3 y (S2.z w3 w1 gc) h5
  rw [if_pos h8, bd_some]
  obtain ⟨x, e1, X, hX, n1, n2', n3', J4⟩ := pj_name S2.1.1 h8
  have wd : f_X2_word c = nI (66 + X) := pj.wd n1
  have cl := S.1.1.cle
  rw [e1, l2_bs, n2']
  show t_h2 _ (Option.bind (Option.bind (f_X13_next (t_setI x.2 991 ln (nI X))) (fun r3 => some r3)) K) Q
  rw [bd_some]
  have f5 : l2_fr (fun b j => b = 991 ∧ j = ln) x.2 (t_setI x.2 991 ln (nI X)) := l2_fr.set ⟨rfl, rfl⟩
  have v5 : (t_setI x.2 991 ln (nI X)).1 991 ln = nI X := by simp only [l2_gI, reduceIte]
  generalize t_setI x.2 991 ln (nI X) = r5 at *
  have J5 : pj P (k 0) 1 0 (k 1) (k 2) c r5 := J4.fr (l2_fr.rf (W := fun _ _ => False)) f5 (fun j y => y) (fun b i _ _ y => y) (fun b i _ _ y => y) (fun y => y) (fun j _ => by omega) (fun b i _ _ => by omega)
  refine h2_bb _ (pj_adv J5 (by decide) (Or.inl rfl) (by rw [h8]; decide)) (fun c6 r6 hw => ?_)
  obtain ⟨y1, y2, y3⟩ := hw
  have C : l2_fr (rw_Wc ln) c c6 := y1.mono (fun b j y => Or.inl y)
  have R : l2_fr (rw_Wr ln) r r6 := (((f2'.mono (fun b j y => Or.inr (Or.inl ⟨by omega, by omega, y.2⟩))).trans (n3'.mono (fun b j y => Or.inl (Or.inr y)))).trans (f5.mono (fun b j y => Or.inr (Or.inl ⟨by omega, by omega, y.2⟩)))).trans (y2.mono (fun b j y => Or.inl (Or.inl y)))
  rcases y3 with J6 | ⟨f2', p0, y3, y4⟩
  · have hB : ∀ x, 988 ≤ x → x ≤ 1002 → ¬ (x = 991 ∨ x = 992) → r6.1 x ln = r.1 x ln := fun y a b z => by rw [(y2 y ln (by unfold rn_W; omega)).1, (f5 y ln (by omega)).1, (n3' y ln (by unfold nm_W; omega)).1, (f2' y ln (by omega)).1]
    refine hg c6 r6 X (pc_p P (k 0)) (S.go hl (Nat.le_succ _) (Nat.le_refl _) ⟨rfl, rfl, rfl, rfl, rfl, rfl, rfl⟩ J6 C R) (fun n3 => rw_sn hl ⟨Nat.le_succ _, Nat.le_refl _, Nat.le_refl _, Nat.le_refl _, Nat.le_refl _, Nat.le_refl _, Nat.le_refl _, Nat.le_refl _, Nat.le_refl _, Nat.le_refl _⟩ C R (fun j _ _ => (y1 _ j (by unfold la_W; omega)).1) hB) (sq.of C (fun b j y => by unfold rw_Wc la_W; omega)) hX cl.2.2.2 wd cl.2.1 ?_ ?_ (S.1.1.plt J6) (S.1.1.cword h8) ?_
    · rw [(y2 991 ln (by unfold rn_W; omega)).1]; exact v5
    · rw [(y2 992 ln (by unfold rn_W; omega)).1, (f5 992 ln (by omega)).1, (n3' 992 ln (by unfold nm_W; omega)).1, v2]; exact cl.2.2.1
    · rw [(y2 950 32 (by unfold rn_W; omega)).1, (f5 950 32 (by omega)).1, (n3' 950 32 (by unfold nm_W; omega)).1, (f2' 950 32 (by omega)).1]
  · refine hb f2' p0 c6 r6 (S.z y3 y1 gc) ⟨⟨y4, gr'.trans (R.mono (fun b j y => by unfold rw_Wr nk_W rn_W nm_W at y; unfold mo_Wr; omega))⟩, ?_⟩
    rw [(R 950 33 (by unfold rw_Wr nk_W rn_W nm_W; omega)).1]
    exact S.2.2.2.2.1
theorem co_eq (hl : ln < 400) (r : t_S) : f_X13_callOf (nI ln) r = (fw_W 0 ln r).bind (fun r3 => (f_X13_mustBe 40 r3).bind (fun r4 => (ar_R r4).bind (fun y => k_X13_callOf_52 y.1 y.2))) := by
  unfold f_X13_callOf fw_W ar_R
  rw [if_pos (l2_ix (by omega) (by decide)), nI_clamp (n := ln) (by omega)]
  simp only [t_let, Option.bind_assoc, l2_bs]
  refine congrArg (Option.bind _) (funext fun r2 => congrArg (Option.bind _) (funext fun r3 => congrArg (Option.bind _) (funext fun r4 => congrArg (Option.bind _) (funext fun r5 => ?_))))
  split
  · simp only [Option.bind_assoc, l2_bs]
  · rfl
/-- the class from the exps on -/
noncomputable def rc_D (ln : Nat) (so w pl : Int32) (s : t_S) : Option t_S := (ar_C s).bind (fun r1 => k_X6_readCall_87 (nI ln) so w pl r1.1 r1.2)
noncomputable def rc_C (ln : Nat) (so w pl : Int32) (s : t_S) : Option t_S := rc_D ln so w pl (if (0 : Int32) ≤ s.1 (445 + ln) 5 then s else t_setI s (445 + ln) 5 (s.1 334 2))
theorem rc_eq (hl : ln < 400) (so : Int32) (c : t_S) : f_X6_readCall (nI ln) so c = (f_X2_need 1 c).bind (fun r2 => (f_X2_need 40 r2).bind (rc_C ln so (f_X2_word c) (c.1 1 9))) := by
  unfold f_X6_readCall
  refine congrArg (Option.bind _) (funext fun r2 => congrArg (Option.bind _) (funext fun r3 => ?_))
  rw [if_pos (l2_ix hl (by decide)), nI_clamp (n := ln) (by omega)]
  simp only [Nat.one_mul]
  have e66 : ∀ s, k_X6_readCall_66 (nI ln) so (f_X2_word c) (c.1 1 9) s = rc_D ln so (f_X2_word c) (c.1 1 9) s := fun s => by
    unfold k_X6_readCall_66 rc_D ar_C
    split
    · rfl
    · rfl
  unfold rc_C
  show (if (0 : Int32) ≤ r3.1 (445 + ln) 5 then _ else _) = _
  by_cases z : (0 : Int32) ≤ r3.1 (445 + ln) 5
  · rw [if_pos z, if_pos z, e66]
  · rw [if_neg z, if_neg z]
    exact e66 _
theorem zS.call (h : zS f f2 p0 c0 c) (hl : ln < 400) (so : Int32) : t_hk (f_X6_readCall (nI ln) so c) (zS f f2 p0 c0) := by
  rw [rc_eq hl]
  refine l2_eq (h.1.need (by decide)) (l2_eq (h.1.need (by decide)) ?_)
  have go : ∀ {s : t_S}, zS f f2 p0 c0 s → t_hk (rc_D ln so (f_X2_word c) (c.1 1 9) s) (zS f f2 p0 c0) := fun hs => by
    unfold rc_D
    refine l2_bd _ hs.args (fun y hy => ?_)
    unfold k_X6_readCall_87
    refine l2_eq (hy.1.need (by decide)) (l2_bd _ (hy.emit 0 0) (fun w hw => l2_bd _ (hw.add _ _ _ _ _ _) (fun u hu => l2_sm hu)))
  unfold rc_C
  split
  · exact go h
  · exact go (h.set (by unfold mo_Wc; omega) (by omega))
theorem yS.callOf (h : yS P f f2 p0 r0 r) (hl : ln < 400) : t_hk (f_X13_callOf (nI ln) r) (fun y => yS P f f2 p0 r0 y.2) := by
  rw [co_eq hl]
  refine l2_bd _ (h.word (by decide)) (fun r3 h3 => l2_bd _ (h3.mustBe 40) (fun r4 h4 => l2_bd _ h4.args (fun y hy => ?_)))
  unfold k_X13_callOf_52
  exact l2_bd _ (hy.1.mustBe 41) (fun z hz => l2_sm hz)
/-- a call: class's sort so -/
theorem fs_call {T U : Type} {F : t_S → Option T} {K : t_S → Option U} {Q : T → U → Prop} {so : Nat} (S : fs P nt f n2 Y n L ka a g k c r) (h32 : r.1 950 32 = 0) (hV : en_V n 1 L v) (hl : ln < 400) (gc : l2_fr mo_Wc c0 c) (gr' : l2_fr mo_Wr r0 r) (he : k 4 + 1 ≤ 2 * k 1 + 2 * k 9) (h5 : c.1 (445 + ln) 5 = -1 ∨ ∃ x, x < 100000 ∧ c.1 (445 + ln) 5 = nI x) (hg : ∀ k' c1 c' r' w na hi X pl, fs P nt f n2 Y n L ka a g k' c' r' → r'.1 950 32 = 0 → k' 9 = k 9 → k 0 < k' 0 → (∀ n3, sn n2 n3 f n ln (fun i => i = 5) (fun y => y = 991 ∨ y = 992 ∨ y = 995) k c r k' c' r') → ((c.1 (445 + ln) 5 = -1 ∧ c'.1 (445 + ln) 5 = nI (k 4)) ∨ (c.1 (445 + ln) 5 ≠ -1 ∧ c'.1 (445 + ln) 5 = c.1 (445 + ln) 5)) → r'.1 995 ln = nI w → (∀ n3, f < n3 → (∀ st, mB False n2 n3 c c1 r' (k 6) (k' 6 - 1) (k 8) (k' 8) (k 2) (k' 2) st st) ∧ cl_R n2 n3 (E_f f n v) c' r' (k' 3) (k' 4) (k' 5) (k' 6) (k' 7) (k' 2) w (k 4) hi na) → sq c1 c' → mL_c c1 c' (k' 6 - 1) → k 6 ≤ k' 6 - 1 → 1 ≤ k' 6 → wx_R c' r' f ln (k' 6 - 1) so 0 (nI ln) (nI na) X pl → t_h2 (F c') (K r') Q) (hb : ∀ f2 p0 c' r', zS f f2 p0 c0 c' → yS P f f2 p0 r0 r' → t_h2 (F c') (K r') Q) : t_h2 ((f_X6_readCall (nI ln) (nI so) c).bind F) ((f_X13_callOf (nI ln) r).bind (fun y => t_let (t_setI y.2 995 ln y.1) K)) Q := by
  have nf : ∀ x : t_S, l2_fr (fun _ _ => False) x x := fun _ => l2_fr.rf
  rw [rc_eq hl, co_eq hl]
  simp only [Option.bind_assoc]
  -- behind a fault
  have bad4 : ∀ f2 p0 c' r', zS f f2 p0 c0 c' → rS P f f2 p0 r0 r' → ∀ w : Nat, t_h2 ((k_X6_readCall_87 (nI ln) (nI so) (f_X2_word c) (c.1 1 9) 0 c').bind F) ((k_X13_callOf_52 (nI w) r').bind (fun y => t_let (t_setI y.2 995 ln y.1) K)) Q := fun f2 p0 c' r' z y w => by
    unfold k_X6_readCall_87 k_X13_callOf_52
    obtain ⟨y1, e1, h1⟩ := z.emit 0 0
    obtain ⟨y2, e2, h2⟩ := h1.add (nI so) (c.1 1 9) (f_X2_word c) (f_X6_home y1.2) (nI ln) 0
    obtain ⟨y3, e3, h3⟩ := y.mb (x := 41) (by unfold rj_no; decide)
    rw [z.1.need (by decide), l2_bs, e1, l2_bs, e2, l2_bs, e3, l2_bs, l2_bs, l2_bs]
    exact hb f2 p0 y2 _ h2 (h3.set (by unfold mo_Wr; omega) (by omega))
  have bad3 : ∀ f2 p0 c' r', zS f f2 p0 c0 c' → yS P f f2 p0 r0 r' → t_h2 ((rc_C ln (nI so) (f_X2_word c) (c.1 1 9) c').bind F) ((ar_R r').bind (fun y => (k_X13_callOf_52 y.1 y.2).bind (fun y => t_let (t_setI y.2 995 ln y.1) K))) Q := fun f2 p0 c' r' z y => by
    have go : ∀ {s : t_S}, zS f f2 p0 c0 s → t_h2 ((rc_D ln (nI so) (f_X2_word c) (c.1 1 9) s).bind F) ((ar_R r').bind (fun y => (k_X13_callOf_52 y.1 y.2).bind (fun y => t_let (t_setI y.2 995 ln y.1) K))) Q := fun {s} hs => by
      obtain ⟨x, e1, h1⟩ := hs.args
      obtain ⟨x2, e2, h2⟩ := y.args
      unfold rc_D
      rw [e1, e2, l2_bs, l2_bs]
      unfold k_X6_readCall_87 k_X13_callOf_52
      obtain ⟨y1, e1, h1'⟩ := h1.emit 0 0
      obtain ⟨y2, e2, h2'⟩ := h1'.add (nI so) (c.1 1 9) (f_X2_word c) (f_X6_home y1.2) (nI ln) x.1
      obtain ⟨y3, e3, h3⟩ := h2.1.mustBe 41
      rw [h1.1.need (by decide), l2_bs, e1, l2_bs, e2, l2_bs, e3, l2_bs, l2_bs, l2_bs]
      exact hb f2 p0 y2 _ h2' (h3.set (by unfold mo_Wr; omega) (by omega))
    unfold rc_C
    split
    · exact go z
    · exact go (z.set (by unfold mo_Wc; omega) (by omega))
  refine fs_name S hl gc gr' (fun c2 r2 X pl S2 sn2 q2 hX hpl wd e9 x991 x992 hp hcw x32 => ?_) (fun f2 p0 c' r' z y => ?_)
  rotate_left
  · obtain ⟨y1, e1, h1⟩ := y.mustBe 40
    rw [z.1.need (by decide), l2_bs, e1, l2_bs]
    exact bad3 f2 p0 c' y1 z h1
  refine fs_need (x := 40) (s := 40) S2 hl (by decide) rfl ((sn2 0).mc gc) ((sn2 0).mr gr') (fun c3 r3 S3 sn3 q3 y1 y2 => ?_) (fun f2 p0 c' r' z y => bad3 f2 p0 c' r' z y)
  have sn23 : ∀ n3, sn n2 n3 f n ln (fun i => i = 5) (fun y => y = 991 ∨ y = 992 ∨ y = 995) k c r (nx (nx k)) c3 r3 := fun n3 => ((sn2 n3).trans (sn3 n3 (fun _ => False) (fun _ => False))).mono (fun i y => y.elim False.elim False.elim) (fun x y => y.elim (fun z => by omega) False.elim)
  -- the class's column 5
  have col : c3.1 (445 + ln) 5 = c.1 (445 + ln) 5 := by rw [(sn3 0 (fun _ => False) (fun _ => False)).2.2.2.1 5 (by decide) (fun y => y), (sn2 0).2.2.2.1 5 (by decide) (fun y => y)]
  obtain ⟨c4, ec4, f4, v4⟩ : ∃ c4, (if (0 : Int32) ≤ c3.1 (445 + ln) 5 then c3 else t_setI c3 (445 + ln) 5 (c3.1 334 2)) = c4 ∧ l2_fr (fun b j => b = 445 + ln ∧ j = 5) c3 c4 ∧ ((c.1 (445 + ln) 5 = -1 ∧ c4.1 (445 + ln) 5 = nI (k 4)) ∨ (c.1 (445 + ln) 5 ≠ -1 ∧ c4.1 (445 + ln) 5 = c.1 (445 + ln) 5)) := by
    rw [col]
    have e4 : c3.1 334 2 = nI (k 4) := S3.1.2.2.1.2.2.2.1
    rcases h5 with h5 | ⟨x, x1, x2⟩
    · rw [h5, if_neg (by decide), e4]
      exact ⟨_, rfl, l2_fr.set ⟨rfl, rfl⟩, Or.inl ⟨rfl, by simp only [l2_gI, reduceIte]⟩⟩
    · rw [x2, if_pos (nI_pos' (by omega))]
      refine ⟨_, rfl, l2_fr.rf, Or.inr ⟨fun y => nI_pos (n := x) (by omega) (by rw [y]; decide), by rw [col]; exact x2⟩⟩
  unfold rc_C
  rw [ec4]
  obtain ⟨S4, sn4, q4⟩ := S3.cell (A := fun i => i = 5) (B := fun _ => False) hl (f4.mono (fun b i y => ⟨y.1, by omega⟩)) (l2_fr.rf (s := r3)) (fun i _ y => (f4 _ _ (fun z => y z.2)).1) (fun _ _ _ _ => rfl)
  have sn24 : ∀ n3, sn n2 n3 f n ln (fun i => i = 5) (fun y => y = 991 ∨ y = 992 ∨ y = 995) k c r (nx (nx k)) c4 r3 := fun n3 => ((sn23 n3).trans (sn4 n3)).mono (fun i y => y.elim id id) (fun x y => y.elim id False.elim)
  have r32 : r3.1 950 32 = 0 := by rw [(y2 950 32 (by unfold rn_W; omega)).1, x32]; exact h32
  have hp2 : pc_p P (k 0) < pc_p P (nx (nx k) 0) := by
    have := S2.1.1.plt S3.1.1
    exact Nat.lt_trans hp this
  unfold rc_D
  rw [Option.bind_assoc]
  refine h2_bb _ (fs_args (ln := ln) S4 r32 hV hl ((sn24 0).mc gc) ((sn24 0).mr gr') S.1.1 hp2) (fun x y hxy => ?_)
  obtain ⟨xv, c5⟩ := x
  obtain ⟨yv, r5⟩ := y
  rcases hxy with ⟨k5, na, hi, hx, hy, S5, r532, k59, k50, ehi, lsl, sl, sn5, pc5⟩ | ⟨f2, p0, z, y⟩
  rotate_left
  · unfold k_X6_readCall_87 k_X13_callOf_52
    obtain ⟨y1, e1, h1⟩ := zS.emit z 0 0
    obtain ⟨y2', e2, h2⟩ := h1.add (nI so) (c.1 1 9) (f_X2_word c) (f_X6_home y1.2) (nI ln) xv
    obtain ⟨y3, e3, h3⟩ := rS.mb y (x := 41) (by unfold rj_no; decide)
    rw [zF.need z.1 (by decide), l2_bs, e1, l2_bs, e2, l2_bs, e3, l2_bs, l2_bs, l2_bs]
    exact hb f2 p0 y2' _ h2 (h3.set (by unfold mo_Wr; omega) (by omega))
  have hx : xv = nI na := hx
  have hy : yv = nI (k 2) := hy
  subst hx hy
  have S5 : fs P nt f n2 Y n L ka a g k5 c5 r5 := S5
  have k59 : k5 9 = k 9 := k59
  have sl : k5 4 + 1 ≤ 2 * k5 1 + 2 * k5 9 := sl 1 he
  unfold k_X6_readCall_87 k_X13_callOf_52
  simp only [Option.bind_assoc]
  refine fs_need (x := 41) (s := 41) S5 hl (by decide) rfl ((sn5 0).mc ((sn24 0).mc gc)) ((sn5 0).mr ((sn24 0).mr gr')) (fun c6 r6 S6 sn6 q6 y61 y62 => ?_) (fun f2 p0 c' r' z y => ?_)
  rotate_left
  · obtain ⟨y1, e1, h1⟩ := z.emit 0 0
    obtain ⟨y2, e2, h2⟩ := h1.add (nI so) (c.1 1 9) (f_X2_word c) (f_X6_home y1.2) (nI ln) (nI na)
    rw [e1, l2_bs, e2, l2_bs, l2_bs, l2_bs]
    exact hb f2 p0 y2 _ h2 (y.set (by unfold mo_Wr; omega) (by omega))
  have e4 : c6.1 334 2 = nI (k5 4) := S6.1.2.2.1.2.2.2.1
  have e6 : c6.1 846 6 = nI (k5 6) := S6.1.2.2.1.2.2.2.2.2.1
  have ml := S6.1.1.mle (by decide)
  have cle : pc_c P (k5 0 + 1) ≤ 6000 := S6.1.1.cle.1
  have b3 : k5 6 ≤ pc_c P (k5 0 + 1) := S6.1.2.2.2.2.2.2.2.1
  have q1b : k5 1 ≤ 3000 := ml.2.2.1
  have s9b : k5 9 ≤ 400 := S6.1.2.2.2.2.2.2.2.2.2.2.2.2.2
  obtain ⟨y7, e7, _, g7, w7, o1, o2⟩ := em_emit 0 0 e4 (by omega)
  obtain ⟨c8, e8, g8, z1, z2, z3, z4, z5, z6, z7⟩ := ln_add (l := k5 6) (s := y7.2) (x1 := nI so) (x2 := c.1 1 9) (x3 := f_X2_word c) (x4 := f_X6_home y7.2) (x5 := nI ln) (x6 := nI na) (by rw [(g7 846 6 (by omega)).1]; exact e6) (by omega)
  rw [e7, l2_bs, e8, l2_bs, l2_bs, l2_bs]
  show t_h2 (F c8) (K (t_setI r6 995 ln (nI (k 2)))) Q
  have f7 : l2_fr (fun b j => b = 995 ∧ j = ln) r6 (t_setI r6 995 ln (nI (k 2))) := l2_fr.set ⟨rfl, rfl⟩
  have v7 : (t_setI r6 995 ln (nI (k 2))).1 995 ln = nI (k 2) := by simp only [l2_gI, reduceIte]
  generalize t_setI r6 995 ln (nI (k 2)) = r7 at *
  have lsl : k5 6 + pc_c P (k 0 + 1 + 1) ≤ k 6 + pc_c P (k5 0) := lsl
  have k6b : k 6 ≤ pc_c P (k 0) := S.1.2.2.2.2.2.2.2.1
  have cm1 := pc_c_le P (k 0 + 1)
  have cm2 := pc_c_le P (k5 0)
  have C68 : l2_fr (fun b j => (b = 334 ∧ j = 2) ∨ ((b = 335 ∨ b = 336) ∧ j = k5 4) ∨ (b = 846 ∧ j = 6) ∨ (848 ≤ b ∧ b ≤ 853 ∧ j = k5 6)) c6 c8 := (g7.mono (fun b j y => by omega)).trans (g8.mono (fun b j y => by omega))
  have J8 : pj P (k5 0 + 1) 0 0 (k5 1) (k5 2) c8 r7 := S6.1.1.fr C68 f7 (fun j => by omega) (fun b i _ _ => by omega) (fun b i _ _ => by omega) (by omega) (fun j _ => by omega) (fun b i _ _ => by omega)
  obtain ⟨k8, hk8⟩ : ∃ k8, k8 = ck (k5 0 + 1) (k5 1) (k5 2) (k5 3) (k5 4 + 1) (k5 5) (k5 6 + 1) (k5 7) (k5 8) (k5 9) := ⟨_, rfl⟩
  have S8 : fs P nt f n2 Y n L ka a g k8 c8 r7 := by
    rw [hk8]
    refine S6.up (Nat.le_refl _) (Nat.le_refl _) ⟨rfl, rfl, rfl, rfl⟩ J8 C68 f7 (fun b j y => by omega) ⟨by omega, by omega, by omega⟩ (fun b j _ _ => by omega) ⟨by omega, fun i _ => by omega⟩ (fun b j y => by omega) ⟨by omega, by omega⟩ (fun b j y => by omega) ⟨by omega, fun i _ => by omega⟩ ⟨z1, ?_⟩ ⟨?_, sl⟩ ⟨?_, ?_, s9b⟩
    · show k5 6 + 1 ≤ pc_c P (k5 0 + 1)
      omega
    · rw [(g8 334 2 (by omega)).1]; exact w7
    · rw [(C68 428 18 (by omega)).1]; exact S6.1.2.2.1.2.2.2.2.2.2
    · rw [(f7 950 81 (by omega)).1]; exact S6.1.2.2.2.2.1.2.2
  have sn8 : ∀ n3, sn n2 n3 f n ln (fun _ => False) (fun y => y = 995) (nx k5) c6 r6 k8 c8 r7 := fun n3 => by
    rw [hk8]
    refine ⟨⟨Nat.le_refl _, Nat.le_refl _, Nat.le_refl _, Nat.le_refl _, Nat.le_succ _, Nat.le_refl _, Nat.le_succ _, Nat.le_refl _, Nat.le_refl _, Nat.le_refl _⟩, C68.mono (fun b j y => ?_), f7.mono (fun b j y => Or.inr (Or.inr (Or.inr (Or.inr ⟨by omega, by omega, by omega⟩)))), fun j _ _ => (C68 _ j (by omega)).1, fun y _ _ z => (f7 y ln (by omega)).1, mK.of f7 (fun b j y => by omega)⟩
    rcases y with ⟨rfl, rfl⟩ | y | ⟨rfl, rfl⟩ | y
    · exact Or.inl (xWc.i334 (Or.inl rfl))
    · exact Or.inl (xWc.iop y.1 (by rw [y.2]; exact Nat.le_refl _))
    · exact Or.inl (xWc.i846 (by decide))
    · exact Or.inl (xWc.iln y.1 y.2.1 (by rw [y.2.2]; exact Nat.le_refl _))
  have C58 : l2_fr (fun b j => la_W b j ∨ (b = 334 ∧ j = 2) ∨ ((b = 335 ∨ b = 336) ∧ j = k5 4) ∨ (b = 846 ∧ j = 6) ∨ (848 ≤ b ∧ b ≤ 853 ∧ j = k5 6)) c5 c8 := (y61.mono (fun b j y => Or.inl y)).trans (C68.mono (fun b j y => Or.inr y))
  have R57 : l2_fr (fun b j => rn_W b j ∨ (b = 995 ∧ j = ln)) r5 r7 := (y62.mono (fun b j y => Or.inl y)).trans (f7.mono (fun b j y => Or.inr y))
  have kk : ∀ n3, mK n2 n3 r5 r7 := fun n3 => mK.of R57 (fun b j y => by unfold rn_W; omega)
  have cpc : cp_c (fun b j => la_W b j ∨ (b = 334 ∧ j = 2) ∨ ((b = 335 ∨ b = 336) ∧ j = k5 4) ∨ (b = 846 ∧ j = 6) ∨ (848 ≤ b ∧ b ≤ 853 ∧ j = k5 6)) (k5 3) (k5 4) (k5 5) (k5 6) := fun b j y => by unfold la_W at y; omega
  have cpr : cp_r (fun b j => rn_W b j ∨ (b = 995 ∧ j = ln)) (k5 2) (k5 7) := fun b j y => by unfold rn_W at y; omega
  have sn58 : ∀ n3, sn n2 n3 f n ln (fun i => i = 5) (fun y => y = 991 ∨ y = 992 ∨ y = 995) (nx (nx k)) c4 r3 k8 c8 r7 := fun n3 => (((sn5 n3).trans (sn6 n3 (fun _ => False) (fun _ => False))).trans (sn8 n3)).mono (fun i y => by rcases y with (y | y) | y <;> exact y.elim) (fun x y => by
    rcases y with (y | y) | y
    · exact y.elim
    · exact y.elim
    · exact Or.inr (Or.inr y))
  have home : f_X6_home y7.2 = nI f := by
    unfold f_X6_home
    have h12 : y7.2.1 845 12 = nI f := by rw [(g7 845 12 (by omega)).1]; exact S6.1.2.2.2.1.2.2.1
    rw [h12, if_neg (nI_pos (by have := S.2.2.2.1; omega))]
  have r991 : ∀ x, x = 991 ∨ x = 992 → r7.1 x ln = r2.1 x ln := fun x hx => by
    rw [(f7 x ln (by omega)).1, (y62 x ln (by unfold rn_W; omega)).1, (sn5 0).2.2.2.2.1 x (by omega) (by omega) (fun y => y), (y2 x ln (by unfold rn_W; omega)).1]
  have c45 : c8.1 (445 + ln) 5 = c4.1 (445 + ln) 5 := by
    rw [(C58 _ 5 (by unfold la_W; omega)).1]
    exact (sn5 0).2.2.2.1 5 (by decide) (fun y => y)
  have nf5 : l2_fr (fun _ _ => False) c5 c5 := l2_fr.rf
  have e6' : k8 6 - 1 = k5 6 := by rw [hk8]; rfl
  refine hg k8 c5 c8 r7 (k 2) na (k5 4) X pl S8 ?_ (by rw [hk8]; exact k59) ?_ (fun n3 => ((sn24 n3).trans (sn58 n3)).mono (fun i y => y.elim id id) (fun x y => y.elim id id)) ?_ v7 (fun n3 h3 => ⟨fun st => ?_, ?_⟩) ?_ ?_ ?_ (by rw [hk8]; exact Nat.le_add_left _ _) ?_
  · rw [(R57 950 32 (by unfold rn_W; omega)).1]; exact r532
  · have k50 : k 0 + 1 + 1 ≤ k5 0 := k50
    rw [hk8]
    show k 0 < k5 0 + 1
    omega
  · rw [c45]
    exact v4
  · rw [e6']
    have e8' : k8 8 = k5 8 := by rw [hk8]; rfl
    have e2' : k8 2 = k5 2 := by rw [hk8]; rfl
    rw [e8', e2']
    have pb := ((pc5 n3 h3).1 st).base (q4.1.trans (q3.1.trans q2.1)) (q4.2.1.trans (q3.2.1.trans q2.2.1)) (fun j => (q4.2.2 j).trans ((q3.2.2 j).trans (q2.2.2 j)))
    exact pb.cap nf5 R57 (t := 0) (e := 0) (p := 0) (s := k5 7) (fun _ _ y => y.elim) cpr ⟨fun y => y, fun y => y⟩ (fun _ y => y) (fun b j _ _ _ y1 y2 => by omega) (kk n3) (Nat.le_refl _) (Nat.le_refl _)
  · obtain ⟨EE, G, x1, x2, x3, x4, x5, x6, x7, x10⟩ := ((pc5 n3 h3).2).fr C58 R57 cpc cpr (kk n3) (Nat.le_refl _) (Nat.le_refl _) (t2 := k8 3) (e2 := k8 4) (p2 := k8 5) (l2 := k8 6) (s2 := k8 7) (m2 := k8 2) (by rw [hk8]; exact ⟨Nat.le_refl _, Nat.le_succ _, Nat.le_refl _, Nat.le_succ _, Nat.le_refl _, Nat.le_refl _⟩)
    refine ⟨EE, G, x1, x2, x3, x4, x5, by rw [x6]; exact ehi, ?_, ⟨?_, ?_⟩, x10⟩
    · rw [hk8]
      exact Nat.le_refl _
    · rw [(g8 335 _ (by omega)).1]; exact o1
    · rw [(g8 336 _ (by omega)).1]; exact o2
  · exact q6.trans (sq.of C68 (fun b j y => by omega))
  · rw [e6']
    exact fun b j x1 x2 x3 => (C58 b j (by unfold la_W; omega)).1
  · rw [e6']
    exact (sn5 0).1.2.2.2.2.2.2.1
  · rw [e6']
    refine ⟨hX, hpl, ⟨z3, ?_, ?_, ?_, z6, z7⟩, ?_, ?_⟩
    · rw [z4, wd]
    · rw [z2, e9]
    · rw [z5, home]
    · show r7.1 991 ln = nI X
      rw [r991 991 (Or.inl rfl)]; exact x991
    · show r7.1 992 ln = nI pl
      rw [r991 992 (Or.inr rfl)]; exact x992
end
