/-! Level 2: simple statements, kind by kind: CONNECT. -/
section
variable {P : pc_S} {nt : Nat → Nat} {f n n' n2 n3 Y a g f2 p0 ln so K V side : Nat} {L L' v : Nat → Nat} {ka : Int32} {k k0 k1 k2 k' : Nat → Nat} {c0 r0 c r c1 r1 c2 r2 c' r' : t_S} {A B A' B' : Nat → Prop}
/-- a component and its port, the class's -/
noncomputable def cn_C (ln j : Nat) (F : t_S → Option t_S) (s : t_S) : Option t_S := (f_X6_readExp 0 s).bind (fun y => (f_X2_need (nI 256) y.2).bind (fun x => (f_X6_link (nI 8) (nI ln) 0 x).bind (fun z => t_let (t_setI z (445 + ln) j (f_X2_word x)) F)))
noncomputable def cnp_R (ln x side : Nat) (K : t_S → Option t_S) (s : t_S) : Option t_S := (f_X13_exp s).bind (fun y => t_let (t_setI y.2 x ln y.1) (fun s2 => (f_X13_mustWord 56 s2).bind (fun w => (fw_W side ln w).bind K)))
theorem fs_port {Q : t_S → t_S → Prop} {F K : t_S → Option t_S} {j x : Nat} (S : fs P nt f n2 Y n L ka a g k c r) (h32 : r.1 950 32 = 0) (hV : en_V n 1 L v) (hl : ln < 400) (hf : f < n3) (hs : side ≤ 1) (hj : j < 12) (hx : 988 ≤ x ∧ x ≤ 1002 ∧ x ≠ 988 ∧ x ≠ 1000 ∧ x ≠ 1001 ∧ ¬ (991 ≤ x ∧ x ≤ 994)) (gc : l2_fr mo_Wc c0 c) (gr' : l2_fr mo_Wr r0 r) (hr : r.1 988 ln = nI 16 ∧ r.1 1000 ln = sl_v 9 ∧ r.1 1001 ln = nI f) (hg : ∀ k' c' r' nd hi X, fs P nt f n2 Y n L ka a g k' c' r' → r'.1 950 32 = 0 → k' 9 = k 9 → k 0 < k' 0 → (∀ x, k 4 + x ≤ 2 * k 1 + 2 * k 9 → k' 4 + x ≤ 2 * k' 1 + 2 * k' 9) → sn n2 n3 f n ln (fun i => i = j) (fun y => y = x ∨ y = 991 + 2 * side ∨ y = 992 + 2 * side) k c r k' c' r' → X < 7934 → r'.1 x ln = nI nd → c'.1 (445 + ln) j = nI (66 + X) → r'.1 (991 + 2 * side) ln = nI X → hi = k' 4 → (∀ A B k2 c2 r2, sn n2 n3 f n ln A B k' c' r' k2 c2 r2 → (∀ y, B y → y ≠ 988 ∧ y ≠ 1000 ∧ y ≠ 1001 ∧ y ≠ 991 + 2 * side ∧ y ≠ 992 + 2 * side) → mB False n2 n3 c c' r2 (k 6) (k' 6) (k 8) (k' 8) (k 2) (k' 2) ln (ln + 1) ∧ xe_R n2 n3 (E_f f n v) c2 r2 (k2 3) (k2 4) (k2 5) (k2 6) (k2 7) (k2 2) 0 0 (k 4) hi (k 3) nd ∧ wl_R c2 r2 f ln (k2 6) 8 side (nI ln) 0) → t_h2 (F c') (K r') Q) (hb : ∀ f2 p0 c' r', zS f f2 p0 c0 c' → yS P f f2 p0 r0 r' → t_h2 (F c') (K r') Q) : t_h2 (cn_C ln j F c) (cnp_R ln x side K r) Q := by
  unfold cn_C cnp_R
  have tail : ∀ f2 p0 c' r', zS f f2 p0 c0 c' → yS P f f2 p0 r0 r' → t_h2 ((f_X6_link (nI 8) (nI ln) 0 c').bind (fun z => t_let (t_setI z (445 + ln) j (f_X2_word c')) F)) ((fw_W side ln r').bind K) Q := fun f2 p0 c' r' z y => by
    obtain ⟨r3, e3, y3⟩ := y.word (side := side) (ln := ln) hs
    rw [z.1.link, e3, l2_bs, l2_bs]
    exact h2_lL (hb f2 p0 _ _ (z.set (by unfold mo_Wc; omega) (by omega)) y3)
  refine fs_exp0 (F := fun s => (f_X2_need (nI 256) s).bind (fun x => (f_X6_link (nI 8) (nI ln) 0 x).bind (fun z => t_let (t_setI z (445 + ln) j (f_X2_word x)) F))) (x := x) S h32 hV hl ⟨hx.1, hx.2.1⟩ gc gr' (fun k1 c1 r1 nd S1 h321 k9 k0 slk sn1 rx pc => ?_) (fun f2 p0 c' r' z y => ?_)
  rotate_left
  · rw [z.1.need (by decide), l2_bs]
    obtain ⟨r4, e4, y4⟩ := y.mw 56
    rw [e4, l2_bs]
    exact tail f2 p0 c' r4 z y4
  refine fs_needW (x := 56) (s := 56) S1 hl (by decide) (by decide) ((sn1 0).mc gc) ((sn1 0).mr gr') (fun c2 r2 S2 sn2 q2 y1 y2 => ?_) tail
  have sn02 := (sn1 0).trans (sn2 0 (fun _ => False) (fun _ => False))
  refine fs_word (so := 8) (side := side) S2 hl hs (sn02.mc gc) (sn02.mr gr') (fun c3 r3 X pl S3 sn3 q3 wx e10 e32 => h2_lL ?_) (fun f2 p0 c' r' z y => h2_lL (hb f2 p0 _ _ (z.set (by unfold mo_Wc; omega) (by omega)) y))
  rw [pj.wd e10]
  have f4 : l2_fr (fun b i => b = 445 + ln ∧ i = j) c3 (t_setI c3 (445 + ln) j (nI (66 + X))) := l2_fr.set ⟨rfl, rfl⟩
  have v4 : (t_setI c3 (445 + ln) j (nI (66 + X))).1 (445 + ln) j = nI (66 + X) := by simp only [l2_gI, reduceIte]
  generalize t_setI c3 (445 + ln) j (nI (66 + X)) = c4 at *
  obtain ⟨S4, sn4, q4⟩ := S3.cell (A := fun i => i = j) (B := fun _ => False) hl (f4.mono (fun b i y => ⟨y.1, by omega⟩)) (l2_fr.rf (s := r3)) (fun i _ y => (f4 _ i (fun z => y z.2)).1) (fun _ _ _ _ => rfl)
  have sn24 : sn n2 n3 f n ln (fun i => i = j) (fun y => y = 991 + 2 * side ∨ y = 992 + 2 * side) k1 c1 r1 (lx (nx k1)) c4 r3 := (((sn2 n3 (fun _ => False) (fun _ => False)).trans (sn3 n3)).trans (sn4 n3)).mono (fun i y => y.elim (fun y => y.elim False.elim False.elim) id) (fun i y => y.elim (fun y => y.elim False.elim id) False.elim)
  have sn14 : sn n2 n3 f n ln (fun i => i = j) (fun y => y = x ∨ y = 991 + 2 * side ∨ y = 992 + 2 * side) k c r (lx (nx k1)) c4 r3 := ((sn1 n3).trans sn24).mono (fun i y => y.elim False.elim id) (fun i y => y)
  have o1 := (sn1 0).1
  have k00 : k 0 < k1 0 := k0
  refine hg (lx (nx k1)) c4 r3 nd (k1 4) X S4 (e32.trans ((y2 950 32 (by unfold rn_W; omega)).1.trans h321)) k9 (show k 0 < k1 0 + 1 + 1 by omega) slk sn14 wx.1 ?_ v4 wx.2.2.2.1 rfl (fun A B k2 c2' r2' q hB => ?_)
  · rw [sn24.2.2.2.2.1 x hx.1 hx.2.1 (by omega)]; exact rx
  have q' := sn24.trans q
  have q3' := (sn4 n3).trans q
  have hrr : ∀ y, 988 ≤ y → y ≤ 1002 → y = 988 ∨ y = 1000 ∨ y = 1001 → r2'.1 y ln = r.1 y ln := fun y a b d => by
    rw [q.2.2.2.2.1 y a b (fun z => by have := hB y z; omega), sn14.2.2.2.2.1 y a b (by omega)]
  have e8 : r2'.1 988 ln = nI 16 := (hrr 988 (by decide) (by decide) (by decide)).trans hr.1
  have e4 : ∀ y, ln ≤ y → y < ln + 1 → r2'.1 988 y ≠ 2 := fun y a b d => by
    have e : y = ln := by omega
    rw [e, e8] at d
    exact absurd d (by decide)
  have rr : ∀ y, y = 991 + 2 * side ∨ y = 992 + 2 * side → r2'.1 y ln = r3.1 y ln := fun y a => q.2.2.2.2.1 y (by omega) (by omega) (fun z => by have := hB y z; omega)
  have w2 : wx_R c3 r2' f ln (k1 6) 8 side (nI ln) 0 X pl := ⟨wx.1, wx.2.1, wx.2.2.1, by rw [rr _ (Or.inl rfl)]; exact wx.2.2.2.1, by rw [rr _ (Or.inr rfl)]; exact wx.2.2.2.2⟩
  have oq := q.1
  have oq' := q'.1
  refine ⟨?_, ?_, ?_⟩
  · have m1 := (((pc n3 hf).1 ln).at q').wide e4
    have w4 : wx_R c4 r2' f ln (k1 6) 8 side (nI ln) 0 X pl := ⟨w2.1, w2.2.1, w2.2.2.1.fr (fun b x1 x2 => sf_mL (sn4 0).2.1 b (k1 6) x1 x2 (Nat.lt_succ_self _)), w2.2.2.2.1, w2.2.2.2.2⟩
    have m2 : mB False n2 n3 c2 c4 r2' (k1 6) (k1 6 + 1) (k1 8) (k1 8) (k1 2) (k1 2) ln (ln + 1) := w4.mB S.2.2.2.1 ⟨by decide, by decide, by decide⟩ ⟨e8, (hrr 1000 (by decide) (by decide) (by decide)).trans hr.2.1, (hrr 1001 (by decide) (by decide) (by decide)).trans hr.2.2⟩ (by unfold sl_ok; omega) (q3.trans q4) _ _ _ _ ⟨Nat.le_refl _, Nat.lt_succ_self _⟩ e4 (Or.inl ⟨rfl, by decide⟩)
    exact m1.same (m2.base q2.1 q2.2.1 q2.2.2) ⟨o1.2.2.2.2.2.2.1, Nat.le_succ _, o1.2.2.2.2.2.2.2.2.1, Nat.le_refl _, o1.2.2.1, Nat.le_refl _⟩ (sf_mL sn24.2.1)
  · exact ((pc n3 hf).2).fr q'.2.1 q'.2.2.1 sf_cp sf_cr q'.2.2.2.2.2 (Nat.le_refl _) (Nat.le_refl _) ⟨oq'.2.2.2.1, oq'.2.2.2.2.1, oq'.2.2.2.2.2.1, oq'.2.2.2.2.2.2.1, oq'.2.2.2.2.2.2.2.1, oq'.2.2.1⟩
  · have le : k1 6 + 1 ≤ k2 6 := oq.2.2.2.2.2.2.1
    exact wx_R.wl (e := k1 6) ⟨w2.1, w2.2.1, w2.2.2.1.fr (fun b x1 x2 => (sf_mL q3'.2.1 b (k1 6) x1 x2 (Nat.lt_succ_self _))), w2.2.2.2.1, w2.2.2.2.2⟩ (by omega)
theorem ro_18 (hl : ln < 400) (c : t_S) : f_X6_readOfComponents (nI ln) 18 c = t_let (t_setI c (445 + ln) 5 (c.1 334 2)) (cn_C ln 6 (fun s => (f_X2_need (nI 257) s).bind (cn_C ln 8 (fun s => (f_X0_emit 0 0 s).bind (fun x => some x.2))))) := by
  unfold f_X6_readOfComponents
  rw [if_pos (l2_ix hl (by decide)), if_neg (by decide), if_neg (by decide), if_neg (by decide), nI_clamp (n := ln) (by omega)]
  unfold cn_C f_X6_takePort
  simp only [Nat.one_mul, Option.bind_assoc, l2_bs]
  rfl
theorem sp_55 (hl : ln < 400) (r : t_S) : f_X13_simple (nI ln) 55 r = t_let (t_setI r 988 ln (nI 16)) (cnp_R ln 995 0 (fun s => (f_X13_mustWord 57 s).bind (cnp_R ln 996 1 (fun s => some s)))) := by
  rw [sp_m (by decide)]
  unfold f_X13_simpleMore
  rw [if_neg (by decide), if_neg (by decide), if_neg (by decide), if_neg (by decide), if_neg (by decide), if_pos (by decide), if_pos (l2_ix (by omega) (by decide)), nI_clamp (n := ln) (by omega)]
  simp only [fw_W0 hl, fw_W1 hl]
  unfold cnp_R
  rfl
/-- END behind exps -/
theorem fs_emit {T : Type} {F : t_S → Option T} {b : Option t_S} {Q : T → t_S → Prop} (S : fs P nt f n2 Y n L ka a g k c r) (hl : ln < 400) (he : k 4 + 1 ≤ 2 * k 1 + 2 * k 9) (hg : ∀ k' c', k' = ck (k 0) (k 1) (k 2) (k 3) (k 4 + 1) (k 5) (k 6) (k 7) (k 8) (k 9) → fs P nt f n2 Y n L ka a g k' c' r → (∀ n3, sn n2 n3 f n ln (fun _ => False) (fun _ => False) k c r k' c' r) → sq c c' → px_o c' (k 4) 0 0 → t_h2 (F c') b Q) : t_h2 ((f_X0_emit 0 0 c).bind (fun x => F x.2)) b Q := by
  have e4 : c.1 334 2 = nI (k 4) := S.1.2.2.1.2.2.2.1
  have q1b : k 1 ≤ 3000 := (S.1.1.mle (by decide)).2.2.1
  have s9b : k 9 ≤ 400 := S.1.2.2.2.2.2.2.2.2.2.2.2.2.2
  obtain ⟨y7, e7, _, g7, w7, o1, o2⟩ := em_emit 0 0 e4 (by omega)
  rw [e7, l2_bs]
  have nfr : l2_fr (fun _ _ => False) r r := l2_fr.rf
  have J8 : pj P (k 0) 0 0 (k 1) (k 2) y7.2 r := S.1.1.fr g7 nfr (fun j => by omega) (fun b i _ _ => by omega) (fun b i _ _ => by omega) (by omega) (fun j _ y => y) (fun b i _ _ y => y)
  refine hg _ y7.2 rfl (S.up (Nat.le_refl _) (Nat.le_refl _) ⟨rfl, rfl, rfl, rfl⟩ J8 g7 nfr (fun b j y => by omega) ⟨by omega, by omega, by omega⟩ (fun b j _ _ => by omega) ⟨by omega, fun i _ => by omega⟩ (fun _ _ _ z => z) ⟨fun y => y, fun y => y⟩ (fun _ _ _ z => z) ⟨fun y => y, fun i _ y => y⟩ ⟨?_, S.1.2.2.2.2.2.2.2.1⟩ ⟨w7, he⟩ ⟨?_, S.1.2.2.2.2.1.2.2, s9b⟩) (fun n3 => ⟨⟨Nat.le_refl _, Nat.le_refl _, Nat.le_refl _, Nat.le_refl _, Nat.le_succ _, Nat.le_refl _, Nat.le_refl _, Nat.le_refl _, Nat.le_refl _, Nat.le_refl _⟩, g7.mono (fun b j y => ?_), l2_fr.rf, fun j _ _ => (g7 _ j (by omega)).1, fun _ _ _ _ => rfl, mK.of nfr (fun _ _ _ z => z)⟩) (sq.of g7 (fun b j y => by omega)) ⟨o1, o2⟩
  · rw [(g7 846 6 (by omega)).1]; exact S.1.2.2.1.2.2.2.2.2.1
  · rw [(g7 428 18 (by omega)).1]; exact S.1.2.2.1.2.2.2.2.2.2
  · rcases y with ⟨rfl, rfl⟩ | y
    · exact Or.inl (xWc.i334 (Or.inl rfl))
    · exact Or.inl (xWc.iop y.1 (by rw [y.2]; exact Nat.le_refl _))
theorem zS.cnC {X : t_S → Prop} {F : t_S → Option t_S} {j : Nat} (h : zS f f2 p0 c0 c) (hl : ln < 400) (hF : ∀ c', zS f f2 p0 c0 c' → t_hk (F c') X) : t_hk (cn_C ln j F c) X := by
  unfold cn_C
  refine l2_bd _ (h.exp 0) (fun y hy => ?_)
  rw [hy.1.need (by decide), l2_bs, hy.1.link, l2_bs]
  exact l2_lt (hF _ (hy.set (by unfold mo_Wc; omega) (by omega)))
theorem yS.cnR {X : t_S → Prop} {K : t_S → Option t_S} {x : Nat} (h : yS P f f2 p0 r0 r) (hx : 988 ≤ x ∧ x ≤ 1002) (hs : side ≤ 1) (hK : ∀ r', yS P f f2 p0 r0 r' → t_hk (K r') X) : t_hk (cnp_R ln x side K r) X := by
  unfold cnp_R
  rw [h.exp, l2_bs]
  exact l2_lt (l2_bd _ ((h.set (by unfold mo_Wr; omega) (by omega)).mustWord 56) (fun y hy => l2_bd _ (hy.word hs) (fun z hz => hK z hz)))
theorem sI.connect (h : sI P nt f n2 n3 Y n L v ka a g ln 0 k c r c0 r0) : t_h2 (f_X6_readOfComponents (nI ln) 18 c) (f_X13_simple (nI ln) 55 r) (sO P nt f n2 n3 Y n v ka a g ln 18 16 k c r c0 r0) := by
  rw [ro_18 h.2.2.2.1, sp_55 h.2.2.2.1]
  refine h.kind (by decide) (fun r1 h1 _ => h2_lL ?_)
  obtain ⟨S, h32, hV, hl, hf, gc, gr', o, sl, hK⟩ := id h1
  have e4 : c.1 334 2 = nI (k 4) := S.1.2.2.1.2.2.2.1
  rw [e4]
  have f1 : l2_fr (fun b j => b = 445 + ln ∧ j = 5) c (t_setI c (445 + ln) 5 (nI (k 4))) := l2_fr.set ⟨rfl, rfl⟩
  have v1 : (t_setI c (445 + ln) 5 (nI (k 4))).1 (445 + ln) 5 = nI (k 4) := by simp only [l2_gI, reduceIte]
  generalize t_setI c (445 + ln) 5 (nI (k 4)) = c2 at *
  obtain ⟨S2, sn2, q2⟩ := S.cell (A := fun j => j = 5) (B := fun _ => False) hl (f1.mono (fun b j y => ⟨y.1, by omega⟩)) (l2_fr.rf (s := r1)) (fun j _ y => (f1 _ j (fun z => y z.2)).1) (fun _ _ _ _ => rfl)
  have fin : ∀ f2 p0 c', zS f f2 p0 c0 c' → t_hk ((f_X0_emit 0 0 c').bind (fun x => some x.2)) (zS f f2 p0 c0) := fun f2 p0 c' z => l2_bd _ (z.emit 0 0) (fun y hy => l2_sm hy)
  have bad2 : ∀ f2 p0 c' r', zS f f2 p0 c0 c' → yS P f f2 p0 r0 r' → t_h2 (cn_C ln 8 (fun s => (f_X0_emit 0 0 s).bind (fun x => some x.2)) c') (cnp_R ln 996 1 (fun s => some s) r') (sO P nt f n2 n3 Y n v ka a g ln 18 16 k c r1 c0 r0) := fun f2 p0 c' r' z y => h2_sep _ _ (z.cnC (ln := ln) (j := 8) hl (fun c' z => fin f2 p0 c' z)) (y.cnR (ln := ln) (by decide) (by decide) (fun r' y => l2_sm y)) (fun x1 x2 z y => Or.inr ⟨f2, p0, z, y.toR⟩)
  refine fs_port (n3 := n3) (j := 6) (x := 995) (side := 0) S2 h32 hV hl hf (by decide) (by decide) (by decide) ((sn2 0).mc gc) gr' ⟨o.2.2.1, o.2.2.2.2.2.2.2.1, o.2.2.2.2.2.2.2.2⟩ (fun k3 c3 r3 nd hi X S3 h323 k9 k0 slk sn3 hX r95 c36 r91 ehi rest => ?_) (fun f2 p0 c' r' z y => ?_)
  rotate_left
  · rw [z.1.need (by decide), l2_bs]
    obtain ⟨r4, e4, y4⟩ := y.mustWord 57
    rw [e4, l2_bs]
    exact bad2 f2 p0 c' r4 z y4
  have g2 := (sn2 0).mc gc
  refine fs_needW (x := 57) (s := 57) S3 hl (by decide) (by decide) (sn3.mc g2) (sn3.mr gr') (fun c4 r4 S4 sn4 q4 y1 y2 => ?_) bad2
  have sn4' := sn4 n3 (fun _ => False) (fun _ => False)
  have r4r : ∀ y, y = 988 ∨ y = 1000 ∨ y = 1001 → r4.1 y ln = r1.1 y ln := fun y a => by
    rw [(y2 y ln (by unfold rn_W; omega)).1, sn3.2.2.2.2.1 y (by omega) (by omega) (by omega)]
  refine fs_port (n3 := n3) (j := 8) (x := 996) (side := 1) S4 (by rw [(y2 950 32 (by unfold rn_W; omega)).1]; exact h323) hV hl hf (by decide) (by decide) (by decide) (sn4'.mc (sn3.mc g2)) (sn4'.mr (sn3.mr gr')) ⟨by rw [r4r 988 (by omega)]; exact o.2.2.1, by rw [r4r 1000 (by omega)]; exact o.2.2.2.2.2.2.2.1, by rw [r4r 1001 (by omega)]; exact o.2.2.2.2.2.2.2.2⟩ (fun k5 c5 r5 nd2 hi2 X2 S5 h325 k9' k0' slk' sn5 hX2 r96 c58 r93 ehi2 rest2 => ?_) (fun f2 p0 c' r' z y => h2_doneR (l2_imp (fin f2 p0 c' z) (fun x hx => Or.inr ⟨f2, p0, hx, y.toR⟩)))
  have sl5 : k5 4 + 1 ≤ 2 * k5 1 + 2 * k5 9 := slk' 1 (slk 1 (by omega))
  refine fs_emit (F := fun x => some x) S5 hl sl5 (fun k' c' hk' S6 sn6 q6 px => h2_sm (Or.inl ?_))
  have sn35 : sn n2 n3 f n ln (fun j => j = 8) (fun y => y = 996 ∨ y = 993 ∨ y = 994) k3 c3 r3 k5 c5 r5 := (sn4'.trans sn5).mono (fun j y => y.elim False.elim id) (fun x y => y.elim False.elim (fun z => by have z : x = 996 ∨ x = 991 + 2 * 1 ∨ x = 992 + 2 * 1 := z; omega))
  have sn36 : sn n2 n3 f n ln (fun j => j = 8) (fun y => y = 996 ∨ y = 993 ∨ y = 994) k3 c3 r3 k' c' r5 := (sn35.trans (sn6 n3)).mono (fun j y => y.elim id False.elim) (fun x y => y.elim id False.elim)
  have q : sn n2 n3 f n ln (fun j => j = 5 ∨ j = 6 ∨ j = 8) (fun y => 991 ≤ y ∧ y ≤ 996) k c r1 k' c' r5 := (((sn2 n3).trans sn3).trans sn36).mono (fun j y => by
    rcases y with (y | y) | y
    · exact Or.inl y
    · exact Or.inr (Or.inl y)
    · exact Or.inr (Or.inr y)) (fun x y => by
    rcases y with (y | y) | y
    · exact y.elim
    · have y : x = 995 ∨ x = 991 + 2 * 0 ∨ x = 992 + 2 * 0 := y
      omega
    · have y : x = 996 ∨ x = 993 ∨ x = 994 := y
      omega)
  obtain ⟨e1, e2, e3, e4'⟩ := h1.row q (fun x y => by omega)
  obtain ⟨m3, x3, w3⟩ := rest _ _ _ _ _ sn36 (fun y a => by omega)
  obtain ⟨m5, x5, w5⟩ := rest2 _ _ _ _ _ (sn6 n3) (fun y a => a.elim)
  have o3 := sn3.1
  have o35 := sn35.1
  have m35 := (m3.base q2.1 q2.2.1 q2.2.2).same (m5.base q4.1 q4.2.1 q4.2.2) ⟨o3.2.2.2.2.2.2.1, o35.2.2.2.2.2.2.1, o3.2.2.2.2.2.2.2.2.1, o35.2.2.2.2.2.2.2.2.1, o3.2.2.1, o35.2.2.1⟩ (sf_mL sn35.2.1)
  have m6 : mB False n2 n3 c5 c' r5 (k5 6) (k5 6) (k5 8) (k5 8) (k5 2) (k5 2) ln (ln + 1) := (mB.nil q6.1 q6.2.1 q6.2.2 _ _ _ ln).wide e4'
  have o05 := o3.trans o35
  have m := m35.same m6 ⟨o05.2.2.2.2.2.2.1, Nat.le_refl _, o05.2.2.2.2.2.2.2.2.1, Nat.le_refl _, o05.2.2.1, Nat.le_refl _⟩ (sf_mL (sn6 0).2.1)
  have k46 : k' 6 = k5 6 := by rw [hk']; rfl
  have k48 : k' 8 = k5 8 := by rw [hk']; rfl
  have k42 : k' 2 = k5 2 := by rw [hk']; rfl
  have k44 : k' 4 = k5 4 + 1 := by rw [hk']; rfl
  have k49 : k' 9 = k5 9 := by rw [hk']; rfl
  have oq := q.1
  refine h1.fin S6 (Nat.le_refl _) (by rw [k49]; exact k9'.trans k9) oq.1 q (fun j y => by unfold sA; omega) (fun x y => by unfold sE; omega) (by rw [k46, k48, k42]; exact m) ?_
  refine Or.inr (Or.inr (Or.inr (Or.inr (Or.inr (Or.inr (Or.inr (Or.inr (Or.inr (Or.inr (Or.inr (Or.inr (Or.inl ⟨rfl, rfl, rfl, k 4, hi, hi2, k 3, k3 3, nd, nd2, X, X2, ?_, r96, ?_, x3, ?_, ?_, ?_, w3, w5, hX, hX2, ?_, ?_, ?_, r93⟩))))))))))))
  · rw [sn36.2.2.2.2.1 995 (by decide) (by decide) (by decide)]; exact r95
  · rw [sn36.2.2.2.1 5 (by decide) (by decide), sn3.2.2.2.1 5 (by decide) (by decide)]; exact v1
  · rw [ehi]
    exact x5
  · rw [k44, ehi2]
    exact Nat.le_refl _
  · rw [ehi2]
    exact px
  · rw [sn36.2.2.2.1 6 (by decide) (by decide)]; exact c36
  · rw [sn36.2.2.2.2.1 991 (by decide) (by decide) (by decide)]; exact r91
  · rw [(sn6 0).2.2.2.1 8 (by decide) (fun y => y)]; exact c58
end
