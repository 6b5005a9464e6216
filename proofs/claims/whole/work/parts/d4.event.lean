/-! Level 2: an event whole. -/
theorem h2_thL {T U V : Type} {a : Option T} {b : Option U} {F : T → Option V} {P : T → U → Prop} {Q : V → U → Prop} (h : t_h2 a b P) (g : ∀ x y, P x y → t_hk (F x) (fun z => Q z y)) : t_h2 (a.bind F) b Q := by
  obtain ⟨x, y, e1, e2, p⟩ := h
  obtain ⟨z, e3, q⟩ := g x y p
  exact ⟨z, y, by rw [e1, l2_bs]; exact e3, e2, q⟩
section
variable {P : pc_S} {nt : Nat → Nat} {f n n' n2 n3 a2 a3 Y a g f2 p0 ln so K V : Nat} {L L' v : Nat → Nat} {ka : Int32} {k k0 k1 k2 k' : Nat → Nat} {c0 r0 c r c1 r1 c2 r2 c' r' : t_S} {A B A' B' : Nat → Prop} {E : en_S}
theorem re_0 (hl : ln < 400) (c : t_S) : f_X6_readEvent (nI ln) c = t_let (t_setI c (445 + ln) 0 (f_X6_sortOf (c.1 1 8) c)) (fun s1 => (f_X2_advance s1).bind (fun r3 => if r3.1 (445 + ln) 0 = 12 then (f_X6_link (nI 6) (nI ln) 0 r3).bind (k_X6_readEvent_46 (nI ln) (445 + ln)) else k_X6_readEvent_46 (nI ln) (445 + ln) r3)) := by
  unfold f_X6_readEvent
  rw [if_pos (l2_ix hl (by decide)), nI_clamp (n := ln) (by omega)]
  simp only [Nat.one_mul]
  rfl
theorem re_46 (hl : ln < 400) (c : t_S) : k_X6_readEvent_46 (nI ln) (445 + ln) c = if c.1 (445 + ln) 0 = 13 then (rp_E ln c).bind (k_X6_readEvent_62 (nI ln) (445 + ln)) else k_X6_readEvent_62 (nI ln) (445 + ln) c := by
  obtain ⟨s1, s2⟩ := st_sh ln hl
  unfold k_X6_readEvent_46 rp_E
  rw [if_pos s1, s2, if_pos (by decide)]
  simp only [show t_ix (5 : Int32) 12 = true from by decide, if_true, Option.bind_assoc]
  rfl
theorem re_62 (hl : ln < 400) (c : t_S) : k_X6_readEvent_62 (nI ln) (445 + ln) c = if c.1 (445 + ln) 0 = 11 then (f_X6_link (nI 5) (nI ln) 0 c).bind (tp_C ln (fm_C ln (fun s => (f_X6_readInto (nI ln) s).bind (fun x => some x)))) else some c := by
  obtain ⟨s1, s2⟩ := st_sh ln hl
  unfold k_X6_readEvent_62 tp_C fm_C
  rw [if_pos s1, s2, if_pos (by decide)]
  simp only [show t_ix (9 : Int32) 12 = true from by decide, show t_ix (8 : Int32) 12 = true from by decide, show t_ix (10 : Int32) 12 = true from by decide, if_true]
  rfl
theorem zS.re62 (h : zS f f2 p0 c0 c) (hl : ln < 400) : t_hk (k_X6_readEvent_62 (nI ln) (445 + ln) c) (zS f f2 p0 c0) := by
  rw [re_62 hl]
  refine l2_if (fun _ => ?_) (fun _ => l2_sm h)
  rw [h.1.link, l2_bs]
  unfold tp_C
  refine l2_lt (l2_bd _ ((h.set (b := 445 + ln) (j := 9) (x := c.1 334 2) (by unfold mo_Wc; omega) (by omega)).templ 0 (-1000)) (fun y hy => l2_lt (l2_bd _ ((hy.set (b := 445 + ln) (j := 8) (x := y.1) (by unfold mo_Wc; omega) (by omega)).emit 0 0) (fun z hz => ?_))))
  rw [hz.fm, hz.into, l2_bs]
  exact l2_sm hz
theorem zS.re46 (h : zS f f2 p0 c0 c) (hl : ln < 400) : t_hk (k_X6_readEvent_46 (nI ln) (445 + ln) c) (zS f f2 p0 c0) := by
  rw [re_46 hl]
  refine l2_if (fun _ => ?_) (fun _ => h.re62 hl)
  unfold rp_E
  rw [Option.bind_assoc]
  refine l2_bd _ (h.exp (-1)) (fun y hy => ?_)
  have hy2 := hy.set (b := 445 + ln) (j := 5) (x := y.1) (by unfold mo_Wc; omega) (by omega)
  exact hy2.re62 hl
/-- before an event -/
def eJ (P : pc_S) (nt : Nat → Nat) (f n2 n3 Y n : Nat) (L v : Nat → Nat) (ka : Int32) (a g ln K : Nat) (k : Nat → Nat) (c r c0 r0 : t_S) : Prop := fs P nt f n2 Y n L ka a g k c r ∧ r.1 950 32 = 0 ∧ en_V n 1 L v ∧ ln < 400 ∧ f < n3 ∧ l2_fr mo_Wc c0 c ∧ l2_fr mo_Wr r0 r ∧ (c.1 (445 + ln) 5 = -1 ∧ c.1 (445 + ln) 7 = -1 ∧ c.1 (445 + ln) 10 = -1 ∧ r.1 988 ln = nI K ∧ r.1 993 ln = -1 ∧ r.1 996 ln = -1 ∧ r.1 1001 ln = nI f) ∧ k 4 + 2 ≤ 2 * k 1 + 2 * k 9 ∧ (K = 11 ∨ K = 20)
theorem eJ.go {F K' : t_S → Option t_S} {Q : t_S → t_S → Prop} {i so V : Nat} (h : eJ P nt f n2 n3 Y n L v ka a g ln K k c r c0 r0) (t : c.1 1 8 = nI (200 + i)) (hi : i < 66) (hs : f_X6_sortOf (c.1 1 8) c = nI so) (hV3 : V < 3) (hg : ∀ c' r', eI P nt f n2 n3 Y n L v ka a g ln K V (nx k) c' r' c0 r0 → c'.1 (445 + ln) 0 = nI so → sn n2 n3 f n ln (fun j => j = 0) (fun x => x = 1000) k c r (nx k) c' r' → sq c c' → t_h2 (F c') (K' r') Q) (hb : ∀ f2 p0 c' r', zS f f2 p0 c0 c' → yS P f f2 p0 r0 r' → t_h2 (F c') (K' r') Q) : t_h2 (t_let (t_setI c (445 + ln) 0 (f_X6_sortOf (c.1 1 8) c)) (fun s1 => (f_X2_advance s1).bind F)) ((f_X13_next r).bind (fun r1 => t_let (t_setI r1 1000 ln (nI V)) K')) Q := by
  obtain ⟨S, h32, hV, hl, hf, gc, gr', ⟨o1, o2, o3, o4, o5, o6, o7⟩, sl, hK⟩ := h
  rw [hs]
  refine h2_lL ?_
  have f1 : l2_fr (fun b j => b = 445 + ln ∧ j = 0) c (t_setI c (445 + ln) 0 (nI so)) := l2_fr.set ⟨rfl, rfl⟩
  have v1 : (t_setI c (445 + ln) 0 (nI so)).1 (445 + ln) 0 = nI so := by simp only [l2_gI, reduceIte]
  generalize t_setI c (445 + ln) 0 (nI so) = c1 at *
  obtain ⟨S1, sn1, q1⟩ := S.cell (A := fun j => j = 0) (B := fun _ => False) hl (f1.mono (fun b j y => ⟨y.1, by omega⟩)) (l2_fr.rf (s := r)) (fun j _ y => (f1 _ j (fun z => y z.2)).1) (fun _ _ _ _ => rfl)
  have t1 : c1.1 1 8 = nI (200 + i) := by rw [(f1 1 8 (by omega)).1]; exact t
  have n1 : c1.1 1 8 ≠ 1 := by rw [t1]; exact fun y => by have := (nI_eq (b := 1) (by omega) (by decide)).mp y; omega
  have n4 : c1.1 1 8 ≠ 4 := by rw [t1]; exact fun y => by have := (nI_eq (b := 4) (by omega) (by decide)).mp y; omega
  refine fs_adv S1 S1.1.1 (Or.inr n1) n4 hl ((sn1 0).mc gc) gr' (fun c2 r2 S2 sn2 q2 y1 y2 => h2_lR ?_) (fun f2 p0 c' r' z y => h2_lR (hb f2 p0 _ _ z (y.set (by unfold mo_Wr; omega) (by omega))))
  have f3 : l2_fr (fun b j => b = 1000 ∧ j = ln) r2 (t_setI r2 1000 ln (nI V)) := l2_fr.set ⟨rfl, rfl⟩
  have v3 : (t_setI r2 1000 ln (nI V)).1 1000 ln = nI V := by simp only [l2_gI, reduceIte]
  generalize t_setI r2 1000 ln (nI V) = r3 at *
  obtain ⟨S3, sn3, q3⟩ := S2.cell (A := fun _ => False) (B := fun x => x = 1000) hl (l2_fr.rf (s := c2)) (f3.mono (fun b j y => Or.inl ⟨by omega, by omega, y.2⟩)) (fun _ _ _ => rfl) (fun x _ _ y => (f3 x ln (fun z => y z.1)).1)
  have q : ∀ n3, sn n2 n3 f n ln (fun j => j = 0) (fun x => x = 1000) k c r (nx k) c2 r3 := fun n3 => ((sn1 n3).trans ((sn2 n3 (fun _ => False) (fun _ => False)).trans (sn3 n3))).mono (fun j y => y.elim id (fun y => y.elim False.elim False.elim)) (fun x y => y.elim False.elim (fun y => y.elim False.elim id))
  have cc : ∀ j, j < 12 → j ≠ 0 → c2.1 (445 + ln) j = c.1 (445 + ln) j := fun j a b => (q 0).2.2.2.1 j a b
  have rr : ∀ x, 988 ≤ x → x ≤ 1002 → x ≠ 1000 → r3.1 x ln = r.1 x ln := fun x a b d => (q 0).2.2.2.2.1 x a b d
  have sv : sl_v V = nI V := by unfold sl_v; rw [if_neg (by omega)]
  refine hg c2 r3 ⟨S3, by rw [(f3 950 32 (by omega)).1, (y2 950 32 (by unfold rn_W; omega)).1]; exact h32, hV, hl, hf, (q 0).mc gc, (q 0).mr gr', ⟨by rw [cc 5 (by decide) (by decide)]; exact o1, by rw [cc 7 (by decide) (by decide)]; exact o2, by rw [cc 10 (by decide) (by decide)]; exact o3, by rw [rr 988 (by decide) (by decide) (by decide)]; exact o4, by rw [rr 993 (by decide) (by decide) (by decide)]; exact o5, by rw [rr 996 (by decide) (by decide) (by decide)]; exact o6, by rw [sv]; exact v3, by rw [rr 1001 (by decide) (by decide) (by decide)]; exact o7⟩, sl, hK, hV3⟩ ?_ (q n3) (q1.trans q2)
  rw [(y1 _ 0 (by unfold la_W; omega)).1]
  exact v1
/-- what it comes to -/
def fE (P : pc_S) (nt : Nat → Nat) (f n2 n3 Y n : Nat) (L v : Nat → Nat) (ka : Int32) (a g ln : Nat) (k : Nat → Nat) (c r c0 r0 c' r' : t_S) : Prop := (∃ so V, ((so = 11 ∧ V = 0) ∨ (so = 12 ∧ V = 1) ∨ (so = 13 ∧ V = 2)) ∧ c'.1 (445 + ln) 0 = nI so ∧ r'.1 1000 ln = nI V ∧ ∃ k' : Nat → Nat, fs P nt f n2 Y n L ka a g k' c' r' ∧ k' 9 = k 9 ∧ k 0 < k' 0 ∧ sn n2 n3 f n ln (fun j => j = 0 ∨ (5 ≤ j ∧ j ≤ 10)) (fun x => x = 1000 ∨ (991 ≤ x ∧ x ≤ 996)) k c r k' c' r' ∧ mB False n2 n3 c c' r' (k 6) (k' 6) (k 8) (k' 8) (k 2) (k' 2) ln (ln + 1) ∧ ev_R n2 n3 (E_f f n v) v c' r' (k' 3) (k' 4) (k' 5) (k' 6) (k' 7) (k' 2) f n ln so V) ∨ ∃ f2 p0, zS f f2 p0 c0 c' ∧ rS P f f2 p0 r0 r'
theorem eG.up {so V : Nat} (h : eG P nt f n2 n3 Y n L v ka a g ln so V (nx k) c1 r1 c' r') (hsv : (so = 11 ∧ V = 0) ∨ (so = 12 ∧ V = 1) ∨ (so = 13 ∧ V = 2)) (c10 : c1.1 (445 + ln) 0 = nI so) (r10 : r1.1 1000 ln = nI V) (q : sn n2 n3 f n ln (fun j => j = 0) (fun x => x = 1000) k c r (nx k) c1 r1) (q1 : sq c c1) : fE P nt f n2 n3 Y n L v ka a g ln k c r c0 r0 c' r' ∧ c'.1 (445 + ln) 0 = nI so := by
  obtain ⟨k', S', k9, k00, sn1, m, ev⟩ := h
  have e0 : c'.1 (445 + ln) 0 = nI so := by rw [sn1.2.2.2.1 0 (by decide) (by decide)]; exact c10
  refine ⟨Or.inl ⟨so, V, hsv, e0, by rw [sn1.2.2.2.2.1 1000 (by decide) (by decide) (by decide)]; exact r10, k', S', k9, Nat.lt_of_succ_le k00, (q.trans sn1).mono (fun j y => y) (fun x y => y), m.base q1.1 q1.2.1 q1.2.2, ev⟩, e0⟩
end
