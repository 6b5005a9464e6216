/-! Level 2: events: FROM, TIMEOUT, DONE, RECEIVE. -/
section
variable {P : pc_S} {nt : Nat → Nat} {f n n' n2 n3 a2 a3 Y a g f2 p0 ln so K V : Nat} {L L' v : Nat → Nat} {ka : Int32} {k k0 k1 k2 k' : Nat → Nat} {c0 r0 c r c1 r1 c2 r2 c' r' : t_S} {A B A' B' : Nat → Prop} {E : en_S}
noncomputable def fm_C (ln : Nat) (F : t_S → Option t_S) (s : t_S) : Option t_S := (f_X2_take 263 s).bind (fun y => if y.1 = 0 then F y.2 else (f_X6_readExp (-1) y.2).bind (fun z => t_let (t_setI z.2 (445 + ln) 10 z.1) F))
noncomputable def fm_R (ln : Nat) (K : t_S → Option t_S) (s : t_S) : Option t_S := if f_X13_isWord 62 s = 0 then K s else (f_X13_next s).bind (fun x => (f_X13_exp x).bind (fun y => t_let (t_setI y.2 996 ln y.1) K))
theorem yS.fm {X : t_S → Prop} {K : t_S → Option t_S} (h : yS P f f2 p0 r0 r) (hK : ∀ r', rS P f f2 p0 r0 r' → t_hk (K r') X) : t_hk (fm_R ln K r) X := by
  unfold fm_R
  refine l2_if (fun _ => hK r h.toR) (fun _ => l2_bd _ h.next (fun x hx => ?_))
  rw [hx.exp, l2_bs]
  exact l2_lt (hK _ (hx.set (by unfold mo_Wr; omega) (by omega)).toR)
theorem zS.fm {F : t_S → Option t_S} (h : zS f f2 p0 c0 c) : fm_C ln F c = F c := by
  unfold fm_C
  rw [h.1.take (by decide), l2_bs, if_pos rfl]
theorem fs_from {F K : t_S → Option t_S} {Q : t_S → t_S → Prop} (S : fs P nt f n2 Y n L ka a g k c r) (h32 : r.1 950 32 = 0) (hV : en_V n 1 L v) (hl : ln < 400) (gc : l2_fr mo_Wc c0 c) (gr' : l2_fr mo_Wr r0 r) (h10 : c.1 (445 + ln) 10 = -1) (h96 : r.1 996 ln = -1) (hg : ∀ k' c' r', fs P nt f n2 Y n L ka a g k' c' r' → k' 9 = k 9 → k 0 ≤ k' 0 → (∀ n3, sn n2 n3 f n ln (fun j => j = 10) (fun y => y = 996) k c r k' c' r') → (∀ n3, f < n3 → mB False n2 n3 c c' r' (k 6) (k' 6) (k 8) (k' 8) (k 2) (k' 2) ln ln ∧ ((c'.1 (445 + ln) 10 = -1 ∧ r'.1 996 ln = -1) ∨ sx_R n2 n3 (E_f f n v) c' r' (k' 3) (k' 4) (k' 5) (k' 6) (k' 7) (k' 2) (c'.1 (445 + ln) 10) (r'.1 996 ln))) → t_h2 (F c') (K r') Q) (hb : ∀ f2 p0 c' r', zS f f2 p0 c0 c' → rS P f f2 p0 r0 r' → t_h2 (F c') (K r') Q) : t_h2 (fm_C ln F c) (fm_R ln K r) Q := by
  unfold fm_C fm_R
  rcases S.1.1.isW (x := 63) (by decide) with ⟨x1, x2⟩ | ⟨x1, x2⟩
  rotate_left
  · have x2 : f_X13_isWord 62 r = 0 := x2
    rw [pj_nottook (x := 263) x1, l2_bs, if_pos rfl, if_pos x2]
    exact hg k c r S rfl (Nat.le_refl _) (fun n3 => sn.rf) (fun n3 _ => ⟨mB.nil rfl rfl (fun _ => rfl) _ _ _ _, Or.inl ⟨h10, h96⟩⟩)
  have x2 : f_X13_isWord 62 r = 1 := x2
  rw [if_neg (show ¬ f_X13_isWord 62 r = 0 by rw [x2]; decide)]
  refine h2_bb _ (pj_took S.1.1 (by decide) (x := 263) (by decide) x1) (fun y r1 hw => ?_)
  obtain ⟨y0, y1, y2, y3⟩ := hw
  obtain ⟨yv, c1⟩ := y
  have y0 : yv = 1 := y0
  have y1 : l2_fr la_W c c1 := y1
  subst y0
  rw [if_neg (show ¬ (1 : Int32) = 0 by decide)]
  rcases y3 with J | ⟨f2, p0, y3, y4⟩
  · have sn1 : ∀ n3, sn n2 n3 f n ln (fun _ => False) (fun _ => False) k c r (nx k) c1 r1 := fun n3 => (S.la (n3 := n3) (A := fun _ => False) (B := fun _ => False) (k' := nx k) hl rfl ⟨rfl, rfl, rfl, rfl, rfl, rfl, rfl, rfl, rfl⟩ J y1 y2).2.1
    obtain ⟨S1, _, q1⟩ := S.la (n2 := n2) (n3 := 0) (A := fun _ => False) (B := fun _ => False) (k' := nx k) hl rfl ⟨rfl, rfl, rfl, rfl, rfl, rfl, rfl, rfl, rfl⟩ J y1 y2
    refine fs_exp (j := 10) (x := 996) S1 (by rw [(y2 950 32 (by unfold rn_W; omega)).1]; exact h32) hV hl (by decide) (by decide) ((sn1 0).mc gc) ((sn1 0).mr gr') (fun k' c' r' S2 _ k9 k00 _ sn2 pc => ?_) hb
    have k00 : k 0 + 1 < k' 0 := k00
    exact hg k' c' r' S2 k9 (by omega) (fun n3 => ((sn1 n3).trans (sn2 n3)).mono (fun j y => y.elim False.elim id) (fun x y => y.elim False.elim id)) (fun n3 h3 => ⟨((pc n3 h3).1 ln).base q1.1 q1.2.1 q1.2.2, Or.inr (pc n3 h3).2⟩)
  · have z1 := S.z y3 y1 gc
    have yy := S.y y4 y2 gr'
    obtain ⟨z, ez, hz⟩ := z1.exp (-1)
    rw [ez, yy.exp, l2_bs, l2_bs]
    exact h2_lL (h2_lR (hb f2 p0 _ _ (hz.set (by unfold mo_Wc; omega) (by omega)) (yy.set (by unfold mo_Wr; omega) (by omega)).toR))
/-- an event's state, behind its first token -/
def eI (P : pc_S) (nt : Nat → Nat) (f n2 n3 Y n : Nat) (L v : Nat → Nat) (ka : Int32) (a g ln K V : Nat) (k : Nat → Nat) (c r c0 r0 : t_S) : Prop := fs P nt f n2 Y n L ka a g k c r ∧ r.1 950 32 = 0 ∧ en_V n 1 L v ∧ ln < 400 ∧ f < n3 ∧ l2_fr mo_Wc c0 c ∧ l2_fr mo_Wr r0 r ∧ (c.1 (445 + ln) 5 = -1 ∧ c.1 (445 + ln) 7 = -1 ∧ c.1 (445 + ln) 10 = -1 ∧ r.1 988 ln = nI K ∧ r.1 993 ln = -1 ∧ r.1 996 ln = -1 ∧ r.1 1000 ln = sl_v V ∧ r.1 1001 ln = nI f) ∧ k 4 + 2 ≤ 2 * k 1 + 2 * k 9 ∧ (K = 11 ∨ K = 20) ∧ V < 3
def eG (P : pc_S) (nt : Nat → Nat) (f n2 n3 Y n : Nat) (L v : Nat → Nat) (ka : Int32) (a g ln so V : Nat) (k : Nat → Nat) (c r c' r' : t_S) : Prop := ∃ k' : Nat → Nat, fs P nt f n2 Y n L ka a g k' c' r' ∧ k' 9 = k 9 ∧ k 0 ≤ k' 0 ∧ sn n2 n3 f n ln (fun j => 5 ≤ j ∧ j ≤ 10) (fun x => 991 ≤ x ∧ x ≤ 996) k c r k' c' r' ∧ mB False n2 n3 c c' r' (k 6) (k' 6) (k 8) (k' 8) (k 2) (k' 2) ln (ln + 1) ∧ ev_R n2 n3 (E_f f n v) v c' r' (k' 3) (k' 4) (k' 5) (k' 6) (k' 7) (k' 2) f n ln so V
def eO (P : pc_S) (nt : Nat → Nat) (f n2 n3 Y n : Nat) (L v : Nat → Nat) (ka : Int32) (a g ln so V : Nat) (k : Nat → Nat) (c r c0 r0 c' r' : t_S) : Prop := eG P nt f n2 n3 Y n L v ka a g ln so V k c r c' r' ∨ ∃ f2 p0, zS f f2 p0 c0 c' ∧ rS P f f2 p0 r0 r'
theorem eI.row (h : eI P nt f n2 n3 Y n L v ka a g ln K V k c r c0 r0) (q : sn n2 n3 f n ln A B k c r k' c' r') (hB : ∀ x, B x → x ≠ 988 ∧ x ≠ 1000 ∧ x ≠ 1001) : r'.1 988 ln = nI K ∧ r'.1 1000 ln = sl_v V ∧ r'.1 1001 ln = nI f ∧ ∀ x, ln ≤ x → x < ln + 1 → r'.1 988 x ≠ 2 := by
  obtain ⟨S, h32, hV, hl, hf, gc, gr', ⟨o1, o2, o3, o4, o5, o6, o7, o8⟩, sl, hK, hV3⟩ := h
  have e : ∀ x, x = 988 ∨ x = 1000 ∨ x = 1001 → r'.1 x ln = r.1 x ln := fun x y => q.2.2.2.2.1 x (by omega) (by omega) (fun z => by have := hB x z; omega)
  have e8 : r'.1 988 ln = nI K := by rw [e 988 (Or.inl rfl)]; exact o4
  refine ⟨e8, by rw [e 1000 (by omega)]; exact o7, by rw [e 1001 (by omega)]; exact o8, fun x x1 x2 y => ?_⟩
  have e1 : x = ln := by omega
  rw [e1, e8] at y
  have := (nI_eq (b := 2) (by omega) (by decide)).mp y
  omega
theorem ev_ok (hK : K = 11 ∨ K = 20) : sl_ok K 0 5 0 ∧ sl_ok K 1 6 0 ∧ sl_ok K 0 14 1 := by
  rcases hK with rfl | rfl
  · refine ⟨?_, ?_, ?_⟩ <;> (unfold sl_ok; omega)
  · refine ⟨?_, ?_, ?_⟩ <;> (unfold sl_ok; omega)
theorem eI.done (h : eI P nt f n2 n3 Y n L v ka a g ln K 2 k c r c0 r0) : t_h2 (rp_E ln c) (sp_E 995 ln r) (eO P nt f n2 n3 Y n L v ka a g ln 13 2 k c r c0 r0) := by
  obtain ⟨S, h32, hV, hl, hf, gc, gr', o, sl, hK, _⟩ := id h
  unfold rp_E sp_E
  refine fs_exp (j := 5) (x := 995) S h32 hV hl (by decide) (by decide) gc gr' (fun k' c' r' S1 _ k9 k0 _ sn1 pc => h2_sm (Or.inl ?_)) (fun f2 p0 c' r' z y => h2_sm (Or.inr ⟨f2, p0, z, y⟩))
  obtain ⟨_, _, _, e4⟩ := h.row (sn1 n3) (fun x y => by omega)
  exact ⟨k', S1, k9, Nat.le_of_lt k0, (sn1 n3).mono (fun j y => by omega) (fun x y => by omega), ((pc n3 hf).1 ln).wide e4, Or.inr (Or.inr ⟨rfl, rfl, (pc n3 hf).2⟩)⟩
theorem eI.timeout (h : eI P nt f n2 n3 Y n L v ka a g ln K 1 k c r c0 r0) : t_h2 ((f_X6_link (nI 6) (nI ln) 0 c).bind (fun s => some s)) ((f_X13_wordOf (nI ln) r).bind (fun s => some s)) (eO P nt f n2 n3 Y n L v ka a g ln 12 1 k c r c0 r0) := by
  obtain ⟨S, h32, hV, hl, hf, gc, gr', o, sl, hK, _⟩ := id h
  rw [fw_W0 hl]
  refine fs_word (side := 0) S hl (by decide) gc gr' (fun c1 r1 X pl S1 sn1 q1 wx e10 e32 => h2_sm (Or.inl ?_)) (fun f2 p0 c' r' z y => h2_sm (Or.inr ⟨f2, p0, z, y.toR⟩))
  obtain ⟨e1, e2, e3, e4⟩ := h.row (sn1 n3) (fun x y => by omega)
  have hKb : K < 30 := by omega
  have m := wx.mB (n2 := n2) (n3 := n3) S.2.2.2.1 ⟨hKb, by decide, by decide⟩ ⟨e1, e2, e3⟩ (ev_ok hK).2.1 q1 (k 8) (k 2) ln (ln + 1) ⟨Nat.le_refl _, Nat.lt_succ_self _⟩ e4 (Or.inl ⟨rfl, by decide⟩)
  exact ⟨lx k, S1, rfl, Nat.le_succ _, (sn1 n3).mono (fun j y => y.elim) (fun x y => by omega), m, Or.inr (Or.inl ⟨rfl, rfl, wx.wl (Nat.lt_succ_self _)⟩)⟩
theorem eI.receive (h : eI P nt f n2 n3 Y n L v ka a g ln K 0 k c r c0 r0) : t_h2 ((f_X6_link (nI 5) (nI ln) 0 c).bind (tp_C ln (fm_C ln (fun s => (f_X6_readInto (nI ln) s).bind (fun x => some x))))) ((f_X13_wordOf (nI ln) r).bind (tp_R ln (fm_R ln (it_R ln)))) (eO P nt f n2 n3 Y n L v ka a g ln 11 0 k c r c0 r0) := by
  obtain ⟨S, h32, hV, hl, hf, gc, gr', o, sl, hK, _⟩ := id h
  have bad3 : ∀ f2 p0 c' r', zS f f2 p0 c0 c' → rS P f f2 p0 r0 r' → t_h2 ((f_X6_readInto (nI ln) c').bind (fun x => some x)) (it_R ln r') (eO P nt f n2 n3 Y n L v ka a g ln 11 0 k c r c0 r0) := fun f2 p0 c' r' z y => by
    rw [z.into, l2_bs]
    exact h2_doneL (l2_imp (y.itR hl) (fun x hx => Or.inr ⟨f2, p0, z, hx⟩))
  have bad2 : ∀ f2 p0 c' r', zS f f2 p0 c0 c' → yS P f f2 p0 r0 r' → t_h2 (fm_C ln (fun s => (f_X6_readInto (nI ln) s).bind (fun x => some x)) c') (fm_R ln (it_R ln) r') (eO P nt f n2 n3 Y n L v ka a g ln 11 0 k c r c0 r0) := fun f2 p0 c' r' z y => by
    rw [z.fm, z.into, l2_bs]
    exact h2_doneL (y.fm (fun r2 hr => l2_imp (hr.itR hl) (fun x hx => Or.inr ⟨f2, p0, z, hx⟩)))
  rw [fw_W0 hl]
  refine fs_word (side := 0) S hl (by decide) gc gr' (fun c1 r1 X pl S1 sn1 q1 wx e10 e32 => ?_) (fun f2 p0 c' r' z y => ?_)
  rotate_left
  · unfold tp_C tp_R
    refine h2_lL ?_
    have z1 := z.set (b := 445 + ln) (j := 9) (x := c'.1 334 2) (by unfold mo_Wc; omega) (by omega)
    obtain ⟨z2, e2, h2⟩ := z1.templ 0 (-1000)
    have z3 := h2.set (b := 445 + ln) (j := 8) (x := z2.1) (by unfold mo_Wc; omega) (by omega)
    obtain ⟨z4, e4, h4⟩ := z3.emit 0 0
    rw [e2, y.templ, l2_bs, l2_bs]
    refine h2_lL (h2_lR ?_)
    show t_h2 ((f_X0_emit 0 0 (t_setI z2.2 (445 + ln) 8 z2.1)).bind _) _ _
    rw [e4, l2_bs]
    exact bad2 f2 p0 _ _ h4 (y.set (by unfold mo_Wr; omega) (by omega))
  refine fs_tpl S1 (e32.trans h32) hV hl ((sn1 0).mc gc) ((sn1 0).mr gr') (fun k2 c2 r2 S2 h322 k29 k20 slk sn2 pc2 => ?_) bad2
  have sn12 := fun n3 => (sn1 n3).trans (sn2 n3)
  refine fs_from S2 h322 hV hl ((sn12 0).mc gc) ((sn12 0).mr gr') (by rw [(sn2 0).2.2.2.1 10 (by decide) (by decide), (sn1 0).2.2.2.1 10 (by decide) (fun y => y)]; exact o.2.2.1) (by rw [(sn2 0).2.2.2.2.1 996 (by decide) (by decide) (by decide), (sn1 0).2.2.2.2.1 996 (by decide) (by decide) (by decide)]; exact o.2.2.2.2.2.1) (fun k3 c3 r3 S3 k39 k30 sn3 pc3 => ?_) bad3
  have sn13 := fun n3 => (sn12 n3).trans (sn3 n3)
  rw [← bd_some (it_R ln r3)]
  refine fs_into S3 hV hl ((sn13 0).mc gc) ((sn13 0).mr gr') (by rw [(sn3 0).2.2.2.1 7 (by decide) (by decide), (sn2 0).2.2.2.1 7 (by decide) (by decide), (sn1 0).2.2.2.1 7 (by decide) (fun y => y)]; exact o.2.1) (by rw [(sn3 0).2.2.2.2.1 993 (by decide) (by decide) (by decide), (sn2 0).2.2.2.2.1 993 (by decide) (by decide) (by decide), (sn1 0).2.2.2.2.1 993 (by decide) (by decide) (by decide)]; exact o.2.2.2.2.1) (fun k4 c4 r4 S4 k49 k40 k48 k42 sn4 q4 inn wx4 _ _ => h2_sm (Or.inl ?_)) (fun f2 p0 c' r' z y => h2_sm (Or.inr ⟨f2, p0, z, y.toR⟩))
  have sn34 := fun n3 => (sn3 n3).trans (sn4 n3)
  have sn24 := fun n3 => (sn2 n3).trans (sn34 n3)
  have q : sn n2 n3 f n ln (fun j => 7 ≤ j ∧ j ≤ 10) (fun x => 991 ≤ x ∧ x ≤ 996) k c r k4 c4 r4 := ((sn1 n3).trans (sn24 n3)).mono (fun j y => by
    rcases y with y | y | y | y
    · exact y.elim
    · have y : j = 8 ∨ j = 9 := y
      omega
    · have y : j = 10 := y
      omega
    · have y : j = 7 := y
      omega) (fun x y => by
    rcases y with y | y | y | y
    · have y : x = 991 + 2 * 0 ∨ x = 992 + 2 * 0 := y
      omega
    · have y : x = 995 := y
      omega
    · have y : x = 996 := y
      omega
    · have y : x = 993 ∨ x = 994 := y
      omega)
  obtain ⟨e1, e2, e3, e4⟩ := h.row q (fun x y => by omega)
  have rr : ∀ x, x = 991 ∨ x = 992 → r4.1 x ln = r1.1 x ln := fun x y => by
    rw [(sn4 0).2.2.2.2.1 x (by omega) (by omega) (by omega), (sn3 0).2.2.2.2.1 x (by omega) (by omega) (by omega), (sn2 0).2.2.2.2.1 x (by omega) (by omega) (by omega)]
  have w2 : wx_R c1 r4 f ln (k 6) 5 0 (nI ln) 0 X pl := ⟨wx.1, wx.2.1, wx.2.2.1, by rw [rr _ (Or.inl rfl)]; exact wx.2.2.2.1, by rw [rr _ (Or.inr rfl)]; exact wx.2.2.2.2⟩
  have hKb : K < 30 := by omega
  have m1 := w2.mB (n2 := n2) (n3 := n3) S.2.2.2.1 ⟨hKb, by decide, by decide⟩ ⟨e1, e2, e3⟩ (ev_ok hK).1 q1 (k 8) (k 2) ln (ln + 1) ⟨Nat.le_refl _, Nat.lt_succ_self _⟩ e4 (Or.inl ⟨rfl, by decide⟩)
  have m2 := ((pc2 n3 hf).1.at (sn34 n3)).wide e4
  have m3 := ((pc3 n3 hf).1.at (sn4 n3)).wide e4
  have m4 : mB False n2 n3 c3 c4 r4 (k3 6) (k4 6) (k3 8) (k3 8) (k3 2) (k3 2) ln (ln + 1) := in_mB q4 wx4 S.2.2.2.1 ⟨hKb, by decide⟩ ⟨e1, e2, e3⟩ (ev_ok hK).2.2 e4
  have o2 := (sn2 0).1
  have o3 := (sn3 0).1
  have o4 := (sn4 0).1
  have o34 := (sn34 0).1
  have o24 := (sn24 0).1
  have m12 := m1.same m2 ⟨Nat.le_succ _, o2.2.2.2.2.2.2.1, Nat.le_refl _, o2.2.2.2.2.2.2.2.2.1, Nat.le_refl _, o2.2.2.1⟩ (sf_mL (sn2 0).2.1)
  have o12 := (sn12 0).1
  have o13 := (sn13 0).1
  have m13 := m12.same m3 ⟨o12.2.2.2.2.2.2.1, o3.2.2.2.2.2.2.1, o12.2.2.2.2.2.2.2.2.1, o3.2.2.2.2.2.2.2.2.1, o12.2.2.1, o3.2.2.1⟩ (sf_mL (sn3 0).2.1)
  have m14 := m13.same m4 ⟨o13.2.2.2.2.2.2.1, o4.2.2.2.2.2.2.1, o13.2.2.2.2.2.2.2.2.1, Nat.le_refl _, o13.2.2.1, Nat.le_refl _⟩ (sf_mL (sn4 0).2.1)
  refine ⟨k4, S4, k49.trans (k39.trans k29), q.1.1, q.mono (fun j y => by omega) (fun x y => y), by rw [k48, k42]; exact m14, Or.inl ⟨rfl, rfl, ?_, ?_, ?_, inn⟩⟩
  · exact wx_R.wl (e := k 6) ⟨w2.1, w2.2.1, w2.2.2.1.fr (fun b x1 x2 => sf_mL (sn24 0).2.1 b (k 6) x1 x2 (Nat.lt_succ_self _)), w2.2.2.2.1, w2.2.2.2.2⟩ (show k 6 < k4 6 from o24.2.2.2.2.2.2.1)
  · exact ((pc2 n3 hf).2).fr (sn34 n3).2.1 (sn34 n3).2.2.1 sf_cp sf_cr (sn34 n3).2.2.2.2.2 (Nat.le_refl _) (Nat.le_refl _) ⟨o34.2.2.2.1, o34.2.2.2.2.1, o34.2.2.2.2.2.1, o34.2.2.2.2.2.2.1, o34.2.2.2.2.2.2.2.1, o34.2.2.1⟩ (fun j y => by rw [(sn4 0).2.2.2.1 j (by omega) (by omega), (sn3 0).2.2.2.1 j (by omega) (by omega)]) (by rw [(sn4 0).2.2.2.2.1 995 (by decide) (by decide) (by decide), (sn3 0).2.2.2.2.1 995 (by decide) (by decide) (by decide)])
  · rw [(sn4 0).2.2.2.1 10 (by decide) (by decide), (sn4 0).2.2.2.2.1 996 (by decide) (by decide) (by decide)]
    exact (pc3 n3 hf).2.elim Or.inl (fun y => Or.inr (y.fr (sn4 n3).2.1 (sn4 n3).2.2.1 sf_cp sf_cr (sn4 n3).2.2.2.2.2 (Nat.le_refl _) (Nat.le_refl _) ⟨o4.2.2.2.1, o4.2.2.2.2.1, o4.2.2.2.2.2.1, o4.2.2.2.2.2.2.1, o4.2.2.2.2.2.2.2.1, o4.2.2.1⟩))
end
