/-! Level 2: simple statements, kind by kind: UNUSUAL, LOG, RETURN, STOP, SEND, BEGIN, HALT. -/
section
variable {P : pc_S} {nt : Nat → Nat} {f n n' n2 n3 Y a g f2 p0 ln so K V : Nat} {L L' v : Nat → Nat} {ka : Int32} {k k0 k1 k2 k' : Nat → Nat} {c0 r0 c r c1 r1 c2 r2 c' r' : t_S} {A B A' B' : Nat → Prop}
theorem rp_21 (hl : ln < 400) (c : t_S) : f_X6_readPlain (nI ln) 21 c = some c := by
  unfold f_X6_readPlain
  rw [if_pos (l2_ix hl (by decide)), if_pos (by decide)]
noncomputable def rp_E (ln : Nat) (c : t_S) : Option t_S := (f_X6_readExp (-1) c).bind (fun y => t_let (t_setI y.2 (445 + ln) 5 y.1) (fun s => some s))
noncomputable def sp_E (x ln : Nat) (r : t_S) : Option t_S := (f_X13_exp r).bind (fun y => t_let (t_setI y.2 x ln y.1) (fun s => some s))
theorem rp_5 (hl : ln < 400) (c : t_S) : f_X6_readPlain (nI ln) 5 c = if c.1 1 8 = 59 then some c else rp_E ln c := by
  unfold f_X6_readPlain rp_E
  rw [if_pos (l2_ix hl (by decide)), if_neg (by decide), if_neg (by decide), if_neg (by decide), if_neg (by decide), if_neg (by decide), if_pos (by decide), nI_clamp (n := ln) (by omega)]
  simp only [Nat.one_mul]
  rfl
theorem rp_8 (hl : ln < 400) (c : t_S) : f_X6_readPlain (nI ln) 8 c = rp_E ln c := by
  unfold f_X6_readPlain rp_E
  rw [if_pos (l2_ix hl (by decide)), if_neg (by decide), if_neg (by decide), if_neg (by decide), if_neg (by decide), if_neg (by decide), if_neg (by decide), if_neg (by decide), if_neg (by decide), if_pos (by decide), nI_clamp (n := ln) (by omega)]
  simp only [Nat.one_mul]
  rfl
theorem rp_9 (hl : ln < 400) (c : t_S) : f_X6_readPlain (nI ln) 9 c = (f_X6_link 5 (nI ln) 0 c).bind (rp_E ln) := by
  unfold f_X6_readPlain rp_E
  rw [if_pos (l2_ix hl (by decide)), if_neg (by decide), if_neg (by decide), if_neg (by decide), if_neg (by decide), if_neg (by decide), if_neg (by decide), if_neg (by decide), if_neg (by decide), if_neg (by decide), if_pos (by decide), nI_clamp (n := ln) (by omega)]
  simp only [Nat.one_mul]
  rfl
theorem rp_14 (hl : ln < 400) (c : t_S) : f_X6_readPlain (nI ln) 14 c = (f_X6_link 6 (nI ln) 0 c).bind (rp_E ln) := by
  unfold f_X6_readPlain rp_E
  rw [if_pos (l2_ix hl (by decide)), if_neg (by decide), if_neg (by decide), if_neg (by decide), if_neg (by decide), if_neg (by decide), if_neg (by decide), if_neg (by decide), if_neg (by decide), if_neg (by decide), if_neg (by decide), if_neg (by decide), if_neg (by decide), if_neg (by decide), if_neg (by decide), if_pos (by decide), nI_clamp (n := ln) (by omega)]
  simp only [Nat.one_mul]
  rfl
theorem rp_15 (hl : ln < 400) (c : t_S) : f_X6_readPlain (nI ln) 15 c = (f_X6_link 6 (nI ln) 0 c).bind (fun s => some s) := by
  unfold f_X6_readPlain
  rw [if_pos (l2_ix hl (by decide)), if_neg (by decide), if_neg (by decide), if_neg (by decide), if_neg (by decide), if_neg (by decide), if_neg (by decide), if_neg (by decide), if_neg (by decide), if_neg (by decide), if_neg (by decide), if_neg (by decide), if_neg (by decide), if_neg (by decide), if_neg (by decide), if_neg (by decide), if_pos (by decide)]
theorem rp_19 (hl : ln < 400) (c : t_S) : f_X6_readPlain (nI ln) 19 c = if c.1 1 8 = 59 then some c else rp_E ln c := by
  unfold f_X6_readPlain rp_E
  rw [if_pos (l2_ix hl (by decide)), if_neg (by decide), if_neg (by decide), if_neg (by decide), if_neg (by decide), if_neg (by decide), if_neg (by decide), if_neg (by decide), if_neg (by decide), if_neg (by decide), if_neg (by decide), if_neg (by decide), if_neg (by decide), if_neg (by decide), if_neg (by decide), if_neg (by decide), if_neg (by decide), if_neg (by decide), if_neg (by decide), if_neg (by decide), nI_clamp (n := ln) (by omega)]
  simp only [Nat.one_mul]
  rfl
noncomputable def sp_X (ln : Nat) (r : t_S) : Option t_S := if f_X13_is 59 r = 0 then sp_E 995 ln r else some r
theorem sp_108 (hl : ln < 400) (x : Int32) (r : t_S) : k_X13_simple_108 (nI ln) x (nI ln) r = t_let (t_setI r 988 ln x) (sp_X ln) := by
  unfold k_X13_simple_108
  rw [if_pos (l2_ix (by omega) (by decide)), nI_clamp (n := ln) (by omega)]
  unfold sp_X sp_E
  have ix : t_ix (nI ln) 401 = true := l2_ix (by omega) (by decide)
  simp only [ix, eq_self, if_true]
theorem sp_276 (hl : ln < 400) (x : Int32) (r : t_S) : k_X13_simple_276 (nI ln) x (nI ln) r = t_let (t_setI r 988 ln x) (fun s => (f_X13_wordOf (nI ln) s).bind (sp_E 995 ln)) := by
  unfold k_X13_simple_276
  rw [if_pos (l2_ix (by omega) (by decide)), nI_clamp (n := ln) (by omega)]
  unfold sp_E
  have ix : t_ix (nI ln) 401 = true := l2_ix (by omega) (by decide)
  simp only [ix, eq_self, if_true]
theorem sp_40 (hl : ln < 400) (r : t_S) : f_X13_simple (nI ln) 40 r = t_let (t_setI r 988 ln (nI 5)) (sp_X ln) := by
  unfold f_X13_simple
  rw [if_neg (by decide), if_pos (by decide), if_pos rfl]
  exact sp_108 hl 5 r
theorem sp_58 (hl : ln < 400) (r : t_S) : f_X13_simple (nI ln) 58 r = t_let (t_setI r 988 ln (nI 17)) (sp_X ln) := by
  unfold f_X13_simple
  rw [if_neg (by decide), if_neg (by decide), if_neg (by decide), if_neg (by decide), if_neg (by decide), if_neg (by decide), if_neg (by decide), if_pos (by decide), if_neg (by decide)]
  exact sp_108 hl 17 r
theorem sp_47 (hl : ln < 400) (r : t_S) : f_X13_simple (nI ln) 47 r = t_let (t_setI r 988 ln (nI 8)) (sp_E 995 ln) := by
  unfold f_X13_simple
  rw [if_neg (by decide), if_neg (by decide), if_neg (by decide), if_neg (by decide), if_pos (by decide), if_pos (l2_ix (by omega) (by decide)), nI_clamp (n := ln) (by omega)]
  rfl
theorem sp_48 (hl : ln < 400) (r : t_S) : f_X13_simple (nI ln) 48 r = t_let (t_setI r 988 ln (nI 9)) (fun s => (f_X13_wordOf (nI ln) s).bind (sp_E 995 ln)) := by
  unfold f_X13_simple
  rw [if_neg (by decide), if_neg (by decide), if_neg (by decide), if_neg (by decide), if_neg (by decide), if_pos (by decide), if_pos rfl]
  exact sp_276 hl 9 r
theorem sp_50 (hl : ln < 400) (r : t_S) : f_X13_simple (nI ln) 50 r = t_let (t_setI r 988 ln (nI 12)) (fun s => (f_X13_wordOf (nI ln) s).bind (sp_E 995 ln)) := by
  unfold f_X13_simple
  rw [if_neg (by decide), if_neg (by decide), if_neg (by decide), if_neg (by decide), if_neg (by decide), if_neg (by decide), if_pos (by decide), if_neg (by decide)]
  exact sp_276 hl 12 r
theorem sp_m {x : Int32} (hx : ¬ x.toInt = 9 ∧ ¬ x.toInt = 40 ∧ ¬ x.toInt = 41 ∧ ¬ x.toInt = 43 ∧ ¬ x.toInt = 47 ∧ ¬ x.toInt = 48 ∧ ¬ x.toInt = 50 ∧ ¬ x.toInt = 58) (r : t_S) : f_X13_simple (nI ln) x r = f_X13_simpleMore (nI ln) x r := by
  obtain ⟨h1, h2, h3, h4, h5, h6, h7, h8⟩ := hx
  unfold f_X13_simple
  rw [if_neg h1, if_neg h2, if_neg h3, if_neg h4, if_neg h5, if_neg h6, if_neg h7, if_neg h8, bd_some]
theorem sp_51 (hl : ln < 400) (r : t_S) : f_X13_simple (nI ln) 51 r = t_let (t_setI r 988 ln (nI 13)) (fun s => (f_X13_wordOf (nI ln) s).bind (fun s => some s)) := by
  rw [sp_m (by decide)]
  unfold f_X13_simpleMore
  rw [if_neg (by decide), if_pos (by decide), if_pos (l2_ix (by omega) (by decide)), nI_clamp (n := ln) (by omega)]
  rfl
theorem sp_60 (hl : ln < 400) (r : t_S) : f_X13_simple (nI ln) 60 r = t_let (t_setI r 988 ln (nI 19)) (fun s => some s) := by
  rw [sp_m (by decide)]
  unfold f_X13_simpleMore
  rw [if_pos (by decide), if_pos (l2_ix (by omega) (by decide)), nI_clamp (n := ln) (by omega)]
  rfl
abbrev sO (P : pc_S) (nt : Nat → Nat) (f n2 n3 Y n : Nat) (v : Nat → Nat) (ka : Int32) (a g ln so K : Nat) (k : Nat → Nat) (c r c0 r0 : t_S) : t_S → t_S → Prop := sr_O P nt f n2 n3 Y n v ka a g ln so K 9 k c r c0 r0
theorem sI.unusual (h : sI P nt f n2 n3 Y n L v ka a g ln 0 k c r c0 r0) : t_h2 (f_X6_readPlain (nI ln) 21 c) (f_X13_simple (nI ln) 60 r) (sO P nt f n2 n3 Y n v ka a g ln 21 19 k c r c0 r0) := by
  rw [rp_21 h.2.2.2.1, sp_60 h.2.2.2.1]
  exact h.kind (by decide) (fun r1 h1 _ => h1.none (by unfold sk_R; simp))
theorem sI.log (h : sI P nt f n2 n3 Y n L v ka a g ln 0 k c r c0 r0) : t_h2 (f_X6_readPlain (nI ln) 8 c) (f_X13_simple (nI ln) 47 r) (sO P nt f n2 n3 Y n v ka a g ln 8 8 k c r c0 r0) := by
  rw [rp_8 h.2.2.2.1, sp_47 h.2.2.2.1]
  exact h.kind (by decide) (fun r1 h1 _ => h1.exp (fun y => Or.inr (Or.inr (Or.inl ⟨Or.inr (Or.inr ⟨rfl, rfl⟩), rfl, y⟩))))
/-- an exp that may be missing -/
theorem sI.mexp (h : sI P nt f n2 n3 Y n L v ka a g ln K k c r c0 r0) (hk : (so = 5 ∧ K = 5) ∨ (so = 19 ∧ K = 17)) : t_h2 (if c.1 1 8 = 59 then some c else rp_E ln c) (sp_X ln r) (sr_O P nt f n2 n3 Y n v ka a g ln so K 9 k c r c0 r0) := by
  unfold sp_X
  rcases h.1.1.1.is (x := 59) (by decide) with ⟨x1, x2⟩ | ⟨x1, x2⟩
  · have x1 : c.1 1 8 = 59 := x1
    have x2 : f_X13_is 59 r = 1 := x2
    rw [if_pos x1, if_neg (by rw [x2]; decide)]
    exact h.none (Or.inr (Or.inr (Or.inr (Or.inl ⟨hk, rfl, Or.inl ⟨h.2.2.2.2.2.2.2.1.1, h.2.2.2.2.2.2.2.1.2.2.2.2.2.1⟩⟩))))
  · have x1 : ¬ c.1 1 8 = 59 := x1
    have x2 : f_X13_is 59 r = 0 := x2
    rw [if_neg x1, if_pos x2]
    exact h.exp (fun y => Or.inr (Or.inr (Or.inr (Or.inl ⟨hk, rfl, Or.inr y⟩))))
theorem sI.ret (h : sI P nt f n2 n3 Y n L v ka a g ln 0 k c r c0 r0) : t_h2 (f_X6_readPlain (nI ln) 5 c) (f_X13_simple (nI ln) 40 r) (sO P nt f n2 n3 Y n v ka a g ln 5 5 k c r c0 r0) := by
  rw [rp_5 h.2.2.2.1, sp_40 h.2.2.2.1]
  exact h.kind (by decide) (fun r1 h1 _ => h1.mexp (Or.inl ⟨rfl, rfl⟩))
theorem sI.stop (h : sI P nt f n2 n3 Y n L v ka a g ln 0 k c r c0 r0) : t_h2 (f_X6_readPlain (nI ln) 19 c) (f_X13_simple (nI ln) 58 r) (sO P nt f n2 n3 Y n v ka a g ln 19 17 k c r c0 r0) := by
  rw [rp_19 h.2.2.2.1, sp_58 h.2.2.2.1]
  exact h.kind (by decide) (fun r1 h1 _ => h1.mexp (Or.inr ⟨rfl, rfl⟩))
/-- a linked word, then an exp -/
theorem sI.wexp {wo : Nat} (h : sI P nt f n2 n3 Y n L v ka a g ln K k c r c0 r0) (ok : sl_ok K 9 wo 0) (hk : (so = 9 ∧ K = 9 ∧ wo = 5) ∨ (so = 14 ∧ K = 12 ∧ wo = 6)) : t_h2 ((f_X6_link (nI wo) (nI ln) 0 c).bind (rp_E ln)) ((f_X13_wordOf (nI ln) r).bind (sp_E 995 ln)) (sr_O P nt f n2 n3 Y n v ka a g ln so K 9 k c r c0 r0) := by
  obtain ⟨S, h32, hV, hl, hf, gc, gr', o, sl, hK⟩ := id h
  have bad : ∀ f2 p0 c' r', zS f f2 p0 c0 c' → yS P f f2 p0 r0 r' → t_h2 (rp_E ln c') (sp_E 995 ln r') (sr_O P nt f n2 n3 Y n v ka a g ln so K 9 k c r c0 r0) := fun f2 p0 c' r' z y => by
    unfold rp_E sp_E
    obtain ⟨y1, e1, h1⟩ := z.exp (-1)
    rw [e1, y.exp, l2_bs, l2_bs]
    exact h2_lL (h2_lR (h2_sm (Or.inr ⟨f2, p0, h1.set (by unfold mo_Wc; omega) (by omega), (y.set (by unfold mo_Wr; omega) (by omega)).toR⟩)))
  refine h.word ok ⟨by omega, by omega⟩ (fun c1 r1 S1 h321 sn1 rest => ?_) bad
  unfold rp_E sp_E
  refine fs_exp (j := 5) (x := 995) S1 h321 hV hl (by decide) (by decide) (sn1.mc gc) (sn1.mr gr') (fun k' c' r' S2 _ k9 k0 _ sn2 pc => h2_sm (Or.inl ?_)) (fun f2 p0 c' r' z y => h2_sm (Or.inr ⟨f2, p0, z, y⟩))
  obtain ⟨m1, hc, wl, _⟩ := rest _ _ _ _ _ (sn2 n3) (fun x y => by omega)
  have q := sn1.trans (sn2 n3)
  obtain ⟨_, _, _, e4⟩ := h.row q (fun x y => by have y : (x = 991 ∨ x = 992) ∨ x = 995 := y; omega)
  have o2 := (sn2 0).1
  have k00 : k 0 + 1 < k' 0 := k0
  refine h.fin S2 (Nat.le_refl _) k9 (by omega) q (fun j y => y.elim False.elim (fun z => by have z : j = 5 := z; unfold sA; omega)) (fun x y => by have y : (x = 991 ∨ x = 992) ∨ x = 995 := y; unfold sE; omega) (m1.same (((pc n3 hf).1 ln).wide e4) ?_ hc) ?_
  · exact ⟨Nat.le_succ _, o2.2.2.2.2.2.2.1, Nat.le_refl _, o2.2.2.2.2.2.2.2.2.1, Nat.le_refl _, o2.2.2.1⟩
  · have w := wl (k' 6) o2.2.2.2.2.2.2.1
    have sx := (pc n3 hf).2
    rcases hk with ⟨rfl, rfl, rfl⟩ | ⟨rfl, rfl, rfl⟩
    · exact Or.inr (Or.inr (Or.inr (Or.inr (Or.inr (Or.inr (Or.inl ⟨Or.inl ⟨rfl, rfl, w⟩, rfl, sx⟩))))))
    · exact Or.inr (Or.inr (Or.inr (Or.inr (Or.inr (Or.inr (Or.inl ⟨Or.inr ⟨rfl, rfl, w⟩, rfl, sx⟩))))))
theorem sI.send (h : sI P nt f n2 n3 Y n L v ka a g ln 0 k c r c0 r0) : t_h2 (f_X6_readPlain (nI ln) 9 c) (f_X13_simple (nI ln) 48 r) (sO P nt f n2 n3 Y n v ka a g ln 9 9 k c r c0 r0) := by
  rw [rp_9 h.2.2.2.1, sp_48 h.2.2.2.1]
  exact h.kind (by decide) (fun r1 h1 _ => h1.wexp (wo := 5) (by unfold sl_ok; omega) (Or.inl ⟨rfl, rfl, rfl⟩))
theorem sI.begin (h : sI P nt f n2 n3 Y n L v ka a g ln 0 k c r c0 r0) : t_h2 (f_X6_readPlain (nI ln) 14 c) (f_X13_simple (nI ln) 50 r) (sO P nt f n2 n3 Y n v ka a g ln 14 12 k c r c0 r0) := by
  rw [rp_14 h.2.2.2.1, sp_50 h.2.2.2.1]
  exact h.kind (by decide) (fun r1 h1 _ => h1.wexp (wo := 6) (by unfold sl_ok; omega) (Or.inr ⟨rfl, rfl, rfl⟩))
theorem sI.halt (h : sI P nt f n2 n3 Y n L v ka a g ln 0 k c r c0 r0) : t_h2 (f_X6_readPlain (nI ln) 15 c) (f_X13_simple (nI ln) 51 r) (sO P nt f n2 n3 Y n v ka a g ln 15 13 k c r c0 r0) := by
  rw [rp_15 h.2.2.2.1, sp_51 h.2.2.2.1]
  refine h.kind (by decide) (fun r1 h1 _ => h1.word (wo := 6) (by unfold sl_ok; omega) (by decide) (fun c2 r2 S2 _ sn2 rest => h2_sm (Or.inl ?_)) (fun f2 p0 c' r' z y => h2_sm (Or.inr ⟨f2, p0, z, y.toR⟩)))
  obtain ⟨m1, hc, wl, _⟩ := rest (fun _ => False) (fun _ => False) _ _ _ sn.rf (fun x y => y.elim)
  exact h1.fin S2 (Nat.le_refl _) rfl (Nat.le_succ _) sn2 (fun j y => y.elim) (fun x y => by unfold sE; omega) m1 (Or.inr (Or.inr (Or.inr (Or.inr (Or.inr (Or.inr (Or.inr (Or.inr (Or.inr (Or.inl ⟨rfl, rfl, rfl, wl _ (Nat.le_refl _)⟩))))))))))
end
