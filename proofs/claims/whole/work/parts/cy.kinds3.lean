/-! Level 2: simple statements, kind by kind: an exp that goes on, into, SET, CALL, USUAL. -/
section
variable {P : pc_S} {nt : Nat → Nat} {f n n' n2 n3 Y a g f2 p0 ln so K V : Nat} {L L' v : Nat → Nat} {ka : Int32} {k k0 k1 k2 k' : Nat → Nat} {c0 r0 c r c1 r1 c2 r2 c' r' : t_S} {A B A' B' : Nat → Prop}
/-- an exp that goes on: its node in row x -/
theorem fs_exp0 {T U : Type} {F : t_S → Option T} {K : t_S → Option U} {Q : T → U → Prop} {x : Nat} (S : fs P nt f n2 Y n L ka a g k c r) (h32 : r.1 950 32 = 0) (hV : en_V n 1 L v) (hl : ln < 400) (hx : 988 ≤ x ∧ x ≤ 1002) (gc : l2_fr mo_Wc c0 c) (gr' : l2_fr mo_Wr r0 r) (hg : ∀ k' c' r' nd, fs P nt f n2 Y n L ka a g k' c' r' → r'.1 950 32 = 0 → k' 9 = k 9 → k 0 < k' 0 → (∀ x, k 4 + x ≤ 2 * k 1 + 2 * k 9 → k' 4 + x ≤ 2 * k' 1 + 2 * k' 9) → (∀ n3, sn n2 n3 f n ln (fun _ => False) (fun y => y = x) k c r k' c' r') → r'.1 x ln = nI nd → (∀ n3, f < n3 → (∀ st, mB False n2 n3 c c' r' (k 6) (k' 6) (k 8) (k' 8) (k 2) (k' 2) st st) ∧ xe_R n2 n3 (E_f f n v) c' r' (k' 3) (k' 4) (k' 5) (k' 6) (k' 7) (k' 2) 0 0 (k 4) (k' 4) (k 3) nd) → t_h2 (F c') (K r') Q) (hb : ∀ f2 p0 c' r', zS f f2 p0 c0 c' → rS P f f2 p0 r0 r' → t_h2 (F c') (K r') Q) : t_h2 ((f_X6_readExp 0 c).bind (fun y => F y.2)) ((f_X13_exp r).bind (fun y => t_let (t_setI y.2 x ln y.1) K)) Q := by
  obtain ⟨y, y', e1, e2, hx1, h⟩ := ew_exp0 S.1 (S.en hV) h32
  rw [e1, e2, l2_bs, l2_bs]
  refine h2_lR ?_
  obtain ⟨yv, c1⟩ := y
  obtain ⟨yv', r1⟩ := y'
  show t_h2 (F c1) (K (t_setI r1 x ln yv')) Q
  have f4 : l2_fr (fun b i => b = x ∧ i = ln) r1 (t_setI r1 x ln yv') := l2_fr.set ⟨rfl, rfl⟩
  have v4 : (t_setI r1 x ln yv').1 x ln = yv' := by simp only [l2_gI, reduceIte]
  rcases h with ⟨nd, hy, u', q', m', t', e', p', l', s', i', G⟩ | ⟨f2, p0, B1, B2, B3⟩
  · have hy : yv' = nI nd := hy
    subst hy
    obtain ⟨k', hk', S1, h32', sn1, kl, pc, _, n960, _⟩ := fs_ew (ln := ln) S G (fun n3 h3 => S.mE hV h3) hl (by decide)
    generalize t_setI r1 x ln (nI nd) = r2 at *
    have nfc : l2_fr (fun _ _ => False) c1 c1 := l2_fr.rf
    obtain ⟨S2, sn2, q2⟩ := S1.cell (A := fun _ => False) (B := fun y => y = x) hl (l2_fr.rf (s := c1)) (f4.mono (fun b i y => Or.inl ⟨by omega, by omega, y.2⟩)) (fun i _ y => rfl) (fun y _ _ z => (f4 _ _ (fun w => z w.1)).1)
    have k4 : k' 4 = e' := by rw [hk']; rfl
    refine hg k' c1 r2 nd S2 (by rw [(f4 950 32 (by omega)).1]; exact h32') (by rw [hk']; rfl) kl.1 (fun x hx => by rw [hk']; show e' + 0 + x ≤ 2 * q' + 2 * k 9; have := kl.2; omega) (fun n3 => ((sn1 n3).trans (sn2 n3)).mono (fun i y => y.elim id id) (fun i y => y.elim False.elim id)) v4 (fun n3 h3 => ⟨fun st => ?_, ?_⟩)
    · exact mB.cap ((pc n3 h3).1 st) nfc f4 (t := 0) (e := 0) (p := 0) (s := 0) (fun b i y => y.elim) (fun b i y => by omega) ⟨fun y => y, fun y => y⟩ (fun i y => y) (fun b i _ _ _ y1 y2 => by omega) (mK.of f4 (fun b i y => by omega)) (Nat.le_refl _) (Nat.le_refl _)
    · rw [k4]
      have xx := ((pc n3 h3).2).fr nfc f4 (fun b i y => y.elim) (fun b i y => by omega) (mK.of f4 (fun b i y => by omega)) (Nat.le_refl _) (Nat.le_refl _) (t2 := k' 3) (e2 := k' 4) (p2 := k' 5) (l2 := k' 6) (s2 := k' 7) (m2 := k' 2) ⟨Nat.le_refl _, Nat.le_refl _, Nat.le_refl _, Nat.le_refl _, Nat.le_refl _, Nat.le_refl _⟩
      rw [k4] at xx
      exact xx
  · have B1 : mF f2 p0 c1 := B1
    have B2 : l2_fr (xWc (k 3) (k 4) (k 5) (k 6) 0 0) c c1 := B2
    have z1 : zS f f2 p0 c0 c1 := ⟨⟨B1, gc.trans (mo_xc (B2.mono (fun b j y => y.sub (Nat.zero_le _) (Nat.zero_le _) (Nat.zero_le _) (Nat.zero_le _) (Nat.le_refl _) (Nat.zero_le _))))⟩, S.lk.exp _ _ e1, by rw [(B2 845 12 (by unfold xWc; omega)).1]; exact S.1.2.2.2.1.2.2.1⟩
    have r1' : rS P f f2 p0 r0 r1 := ⟨B3.ry gr', by rw [(B3.fr0 950 33 (by unfold xWr; omega)).1]; exact S.2.2.2.2.1⟩
    exact hb f2 p0 _ _ z1 (r1'.set (by unfold mo_Wr; omega) (by omega))
/-- the reference's way into a var -/
noncomputable def it_R (ln : Nat) (r : t_S) : Option t_S := if f_X13_isWord 42 r = 0 then some r else (f_X13_next r).bind (fun r6 => (f_X13_into (nI ln) r6).bind (fun r7 => some r7))
theorem yS.itR (h : yS P f f2 p0 r0 r) (hl : ln < 400) : t_hk (it_R ln r) (yS P f f2 p0 r0) := by
  unfold it_R
  refine l2_if (fun _ => l2_sm h) (fun _ => l2_bd _ h.next (fun x hx => ?_))
  rw [fw_W1 hl]
  exact l2_bd _ (hx.word (side := 1) (by decide)) (fun y hy => l2_sm hy)
theorem rS.itR (h : rS P f f2 p0 r0 r) (hl : ln < 400) : t_hk (it_R ln r) (rS P f f2 p0 r0) := by
  rcases h.isW 42 with y | y
  · unfold it_R
    rw [if_pos y]
    exact l2_sm h
  · exact l2_imp (y.itR hl) (fun x hx => hx.toR)
theorem fs_into {T U : Type} {F : t_S → Option T} {K : t_S → Option U} {Q : T → U → Prop} (S : fs P nt f n2 Y n L ka a g k c r) (hV : en_V n 1 L v) (hl : ln < 400) (gc : l2_fr mo_Wc c0 c) (gr' : l2_fr mo_Wr r0 r) (h7 : c.1 (445 + ln) 7 = -1) (h93 : r.1 993 ln = -1) (hg : ∀ k' c' r', fs P nt f n2 Y n L ka a g k' c' r' → k' 9 = k 9 → k 0 ≤ k' 0 → k' 8 = k 8 → k' 2 = k 2 → (∀ n3, sn n2 n3 f n ln (fun j => j = 7) (fun x => x = 993 ∨ x = 994) k c r k' c' r') → sq c c' → in_R v c' r' f n ln (k' 6) → (k' 6 = k 6 ∨ k' 6 = k 6 + 1 ∧ ∃ X pl, wx_R c' r' f ln (k 6) 14 1 (nI ln) 0 X pl) → r'.1 950 32 = r.1 950 32 → (c.1 1 8 = 242 → vr_L v c' r' f n ln (k' 6) 1) → t_h2 (F c') (K r') Q) (hb : ∀ f2 p0 c' r', zS f f2 p0 c0 c' → yS P f f2 p0 r0 r' → t_h2 (F c') (K r') Q) : t_h2 ((f_X6_readInto (nI ln) c).bind F) ((it_R ln r).bind K) Q := by
  unfold f_X6_readInto it_R
  rcases S.1.1.isW (x := 42) (by decide) with ⟨x1, x2⟩ | ⟨x1, x2⟩
  rotate_left
  · have x2 : f_X13_isWord 42 r = 0 := x2
    rw [pj_nottook (x := 242) x1, l2_bs, if_pos rfl, if_pos x2, l2_bs, l2_bs]
    exact hg k c r S rfl (Nat.le_refl _) rfl rfl (fun n3 => sn.rf) ⟨rfl, rfl, fun _ => rfl⟩ (Or.inl ⟨h7, h93⟩) (Or.inl rfl) rfl (fun y => absurd y x1)
  have x2 : f_X13_isWord 42 r = 1 := x2
  rw [if_neg (show ¬ f_X13_isWord 42 r = 0 by rw [x2]; decide)]
  simp only [Option.bind_assoc]
  refine h2_bb _ (pj_took S.1.1 (by decide) (x := 242) (by decide) x1) (fun y r1 hw => ?_)
  obtain ⟨y0, y1, y2, y3⟩ := hw
  obtain ⟨yv, c1⟩ := y
  have y0 : yv = 1 := y0
  have y1 : l2_fr la_W c c1 := y1
  subst y0
  rw [if_neg (show ¬ (1 : Int32) = 0 by decide), bd_some, fw_W1 hl]
  simp only [l2_bs]
  rcases y3 with J | ⟨f2, p0, y3, y4⟩
  · have sn1 : ∀ n3, sn n2 n3 f n ln (fun _ => False) (fun _ => False) k c r (nx k) c1 r1 := fun n3 => (S.la (n3 := n3) (A := fun _ => False) (B := fun _ => False) (k' := nx k) hl rfl ⟨rfl, rfl, rfl, rfl, rfl, rfl, rfl, rfl, rfl⟩ J y1 y2).2.1
    obtain ⟨S1, _, q1⟩ := S.la (n2 := n2) (n3 := 0) (A := fun _ => False) (B := fun _ => False) (k' := nx k) hl rfl ⟨rfl, rfl, rfl, rfl, rfl, rfl, rfl, rfl, rfl⟩ J y1 y2
    refine fs_takeVar (side := 1) S1 hV hl (by decide) ((sn1 0).mc gc) ((sn1 0).mr gr') (fun k' c' r' S2 k9 k00 k8 k2' sn2 q2 vr wx e32 => ?_) hb
    have k00 : k 0 + 1 < k' 0 := k00
    exact hg k' c' r' S2 k9.1 (by omega) k8 k2' (fun n3 => ((sn1 n3).trans (sn2 n3)).mono (fun j y => y.elim False.elim id) (fun x y => y.elim False.elim id)) (q1.trans q2) (Or.inr vr) wx (e32.trans (y2 950 32 (by unfold rn_W; omega)).1) (fun _ => vr)
  · have z1 := S.z y3 y1 gc
    have yy := S.y y4 y2 gr'
    obtain ⟨c2, e2, hz⟩ := z1.takeVar (ln := ln) hl
    obtain ⟨r2, e3, hy⟩ := yy.word (side := 1) (ln := ln) (by decide)
    rw [e2, e3, l2_bs, l2_bs]
    exact hb f2 p0 _ _ hz hy
/-- .. as a piece of what is brought -/
theorem in_mB {l2 i m : Nat} (q : sq c c') (h : l2 = k 6 ∨ l2 = k 6 + 1 ∧ ∃ X pl, wx_R c' r' f ln (k 6) 14 1 (nI ln) 0 X pl) (hf : f < 40) (hK : K < 30 ∧ V < 10) (hr : r'.1 988 ln = nI K ∧ r'.1 1000 ln = sl_v V ∧ r'.1 1001 ln = nI f) (ok : sl_ok K V 14 1) (h2 : ∀ x, ln ≤ x → x < ln + 1 → r'.1 988 x ≠ 2) : mB False n2 n3 c c' r' (k 6) l2 i i m m ln (ln + 1) := by
  rcases h with rfl | ⟨rfl, X, pl, wx⟩
  · exact (mB.nil q.1 q.2.1 q.2.2 (k 6) i m ln).wide h2
  · exact wx.mB hf ⟨hK.1, hK.2, by decide⟩ hr ok q _ _ _ _ ⟨Nat.le_refl _, Nat.lt_succ_self _⟩ h2 (Or.inl ⟨rfl, by decide⟩)
/-- a call as a piece of what is brought, seen from later -/
theorem cl_mB {l0 i0 m0 wo na X pl : Nat} (h : mB False n2 n3 c c1 r1 l0 (k 6 - 1) i0 (k 8) m0 (k 2) ln ln) (q : sq c1 c') (hc : mL_c c1 c' (k 6 - 1)) (o : l0 ≤ k 6 - 1 ∧ 1 ≤ k 6 ∧ i0 ≤ k 8 ∧ m0 ≤ k 2) (wx : wx_R c' r1 f ln (k 6 - 1) wo 0 (nI ln) (nI na) X pl) (s : sn n2 n3 f n ln A B k c' r1 k' c2 r2) (hB : ∀ x, B x → x ≠ 991 ∧ x ≠ 992) (hf : f < 40) (hK : K < 30 ∧ V < 10 ∧ wo < 20 ∧ wo ≠ 1) (hr : r2.1 988 ln = nI K ∧ r2.1 1000 ln = sl_v V ∧ r2.1 1001 ln = nI f) (ok : sl_ok K V wo 0) (h2 : ∀ x, ln ≤ x → x < ln + 1 → r2.1 988 x ≠ 2) : mB False n2 n3 c c' r2 l0 (k 6) i0 (k 8) m0 (k 2) ln (ln + 1) ∧ ∀ l, k 6 ≤ l → wl_R c2 r2 f ln l wo 0 (nI ln) (nI na) := by
  have nf : l2_fr (fun _ _ => False) c1 c1 := l2_fr.rf
  have h1 := mB.cap h nf s.2.2.1 (t := 0) (e := 0) (p := 0) (s := k 7) (fun _ _ y => y.elim) sf_cr ⟨fun y => y, fun y => y⟩ (fun _ y => y) (fun b j _ _ _ y1 y2 => by omega) s.2.2.2.2.2 (Nat.le_refl _) (Nat.le_refl _)
  have rr : ∀ x, x = 991 ∨ x = 992 → r2.1 x ln = r1.1 x ln := fun x y => s.2.2.2.2.1 x (by omega) (by omega) (fun z => by have := hB x z; omega)
  have w2 : wx_R c' r2 f ln (k 6 - 1) wo 0 (nI ln) (nI na) X pl := ⟨wx.1, wx.2.1, wx.2.2.1, by rw [rr _ (Or.inl rfl)]; exact wx.2.2.2.1, by rw [rr _ (Or.inr rfl)]; exact wx.2.2.2.2⟩
  have m2 := w2.mB (n2 := n2) (n3 := n3) hf ⟨hK.1, hK.2.1, hK.2.2.1⟩ hr ok q (k 8) (k 2) ln (ln + 1) ⟨Nat.le_refl _, Nat.lt_succ_self _⟩ h2 (Or.inl ⟨rfl, hK.2.2.2⟩)
  have e : k 6 - 1 + 1 = k 6 := by omega
  rw [e] at m2
  refine ⟨(h1.wide h2).same m2 ⟨o.1, by omega, o.2.2.1, Nat.le_refl _, o.2.2.2, Nat.le_refl _⟩ hc, fun l hl => ?_⟩
  exact wx_R.wl (e := k 6 - 1) ⟨w2.1, w2.2.1, w2.2.2.1.fr (fun b x1 x2 => sf_mL s.2.1 b (k 6 - 1) x1 x2 (by omega)), w2.2.2.2.1, w2.2.2.2.2⟩ (by omega)
end
