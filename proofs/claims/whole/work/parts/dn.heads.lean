/-! Level 2: IF, WHILE, ALT, events as statements. -/
/-- blocks and alts at a depth, both sides; behind a fault -/
def bkG (rcC : RT_X6_readAlts) (rcR : RT_X13_block) (d : Nat) : Prop := ∀ (P : pc_S) (nt : Nat → Nat) (f n2 n3 Y n : Nat) (L : Nat → Nat) (ka : Int32) (a g : Nat) (k : Nat → Nat) (c r : t_S) (up : Int32), fs P nt f n2 Y n L ka a g k c r → f < n3 → (up = -1 ∨ ∃ j, j < k 9 ∧ up = nI j) → t_h2 (rcC.2.1 (nI d) up c) (rcR.1 up (nI d) r) (bk_O P nt f n2 n3 Y n L ka a g k c r) ∧ t_h2 (rcC.1 (nI d) up c) (rcR.2.2.1 up (nI d) r) (bk_O P nt f n2 n3 Y n L ka a g k c r)
def bkC (rcC : RT_X6_readAlts) : Prop := ∀ (f f2 p0 : Nat) (c0 c : t_S) (x up : Int32), zS f f2 p0 c0 c → t_hk (rcC.2.1 x up c) (fun y => zS f f2 p0 c0 y.2) ∧ t_hk (rcC.1 x up c) (fun y => zS f f2 p0 c0 y.2)
def bkR (rcR : RT_X13_block) : Prop := ∀ (P : pc_S) (f f2 p0 : Nat) (r0 r : t_S) (x up : Int32), rS P f f2 p0 r0 r → t_hk (rcR.1 up x r) (fun y => yS P f f2 p0 r0 y.2) ∧ t_hk (rcR.2.2.1 up x r) (fun y => yS P f f2 p0 r0 y.2)
section
variable {P : pc_S} {nt : Nat → Nat} {f n n' n2 n3 Y a g f2 p0 so K V dd : Nat} {L L' v : Nat → Nat} {ka up w3 w4 : Int32} {k k0 k' : Nat → Nat} {c0 r0 c r c1 r1 c' r' : t_S} {A B : Nat → Prop} {rcC : RT_X6_readAlts} {rcR : RT_X13_block}
/-- behind its head -/
theorem cS.mk (S : fs P nt f n2 Y n L ka a g k c r) (q : sn n2 n3 f n (k0 9) A B k0 c0 r0 k c r) (h9 : k 9 = k0 9 + 1) (h0 : k0 0 < k 0) (m : mB False n2 n3 c0 c r (k0 6) (k 6) (k0 8) (k 8) (k0 2) (k 2) (k0 9) (k0 9 + 1)) (hrw : rw_S c r f n (k0 9) so K V up (-1) (-1)) (gd : gd_R n2 n3 (E_f f n v) c r (k 3) (k 4) (k 5) (k 6) (k 7) (k 2) (k0 9) so K) (sk : sk_R n2 n3 (E_f f n v) v c r (k 3) (k 4) (k 5) (k 6) (k 7) (k 2) f n (k0 9) so K V) : cS P nt f n2 n3 Y n v ka a g k0 c0 r0 so K V up (-1) (-1) n L k c r := ⟨S, ⟨Nat.le_refl _, by omega, h0, q.1⟩, q.2.1, q.2.2.1, q.2.2.2.2.2, by rw [h9]; exact m, fun l l1 l2 => by omega, hrw, gd, sk, Or.inl rfl, Or.inl rfl⟩
theorem cS.mc (h : cS P nt f n2 n3 Y n v ka a g k0 c0 r0 so K V up w3 w4 n' L' k c r) : l2_fr mo_Wc c0 c := sf_mo h.2.2.1
theorem cS.mr (h : cS P nt f n2 n3 Y n v ka a g k0 c0 r0 so K V up w3 w4 n' L' k c r) : l2_fr mo_Wr r0 r := sf_mr h.2.2.2.1
/-- a block in it, its first line told -/
theorem cS_bs {T U : Type} {bC bR : Option (Int32 × t_S)} {F : t_S → Option T} {K' : t_S → Option U} {Q : T → U → Prop} {w : Nat} (h : cS P nt f n2 n3 Y n v ka a g k0 c0 r0 so K V up w3 w4 n' L' k c r) (hB : t_h2 bC bR (bk_O P nt f n2 n3 Y n' L' ka a g k c r)) (hw : w ≤ 1) (hl : k0 9 < 400) (hg : ∀ k' n'' L'' w3' w4' c' r', cS P nt f n2 n3 Y n v ka a g k0 c0 r0 so K V up w3' w4' n'' L'' k' c' r' → t_h2 (F c') (K' r') Q) (hb : ∀ f2 p0 c' r', zS f f2 p0 c0 c' → yS P f f2 p0 r0 r' → t_h2 (F c') (K' r') Q) : t_h2 (bC.bind (fun x => t_let (t_setI x.2 (445 + k0 9) (3 + w) x.1) F)) (bR.bind (fun y => t_let (t_setI y.2 (998 + w) (k0 9) y.1) K')) Q := by
  refine h2_bb _ hB (fun x y hxy => h2_lL (h2_lR ?_))
  obtain ⟨xv, c1⟩ := x
  obtain ⟨yv, r1⟩ := y
  rcases hxy with q | ⟨f2, p0, z, y⟩
  · obtain ⟨e, k', n'', L'', h', hj⟩ := h.block q
    have e : xv = yv := e
    subst e
    exact hg _ _ _ _ _ _ _ (h'.set hj hw hl)
  · have z : zS f f2 p0 c c1 := z
    have y : yS P f f2 p0 r r1 := y
    exact hb f2 p0 _ _ ((z.at h.mc).set (by unfold mo_Wc; omega) (by omega)) ((y.at h.mr).set (by unfold mo_Wr; omega) (by omega))
/-- its kind, behind its word -/
theorem cS_kind {T U : Type} {bC : Option T} {K' : t_S → Option U} {Q : T → U → Prop} {k1 : Nat → Nat} {Kn : Nat} (S : fs P nt f n2 Y n L ka a g k1 c r) (hl : k0 9 < 400) (sn0 : sn n2 n3 f n (k0 9) (fun _ => True) (fun _ => True) k0 c0 r0 k1 c r) (op : op_R c r f n (k0 9) (nI so) up 0) (h32 : r.1 950 32 = 0) (hg : ∀ r', fs P nt f n2 Y n L ka a g k1 c r' → sn n2 n3 f n (k0 9) (fun _ => True) (fun _ => True) k0 c0 r0 k1 c r' → op_R c r' f n (k0 9) (nI so) up (nI Kn) → r'.1 950 32 = 0 → t_h2 bC (K' r') Q) : t_h2 bC (t_let (t_setI r 988 (k0 9) (nI Kn)) K') Q := by
  refine h2_lR ?_
  have fr : l2_fr (fun b j => b = 988 ∧ j = k0 9) r (t_setI r 988 (k0 9) (nI Kn)) := l2_fr.set ⟨rfl, rfl⟩
  have v1 : (t_setI r 988 (k0 9) (nI Kn)).1 988 (k0 9) = nI Kn := by simp only [l2_gI, reduceIte]
  generalize t_setI r 988 (k0 9) (nI Kn) = r1 at *
  obtain ⟨S1, sn1, _⟩ := S.cell (A := fun _ => True) (B := fun _ => True) hl (l2_fr.rf (s := c)) (fr.mono (fun b j y => Or.inl ⟨by omega, by omega, y.2⟩)) (fun _ _ y => absurd trivial y) (fun _ _ _ y => absurd trivial y)
  have e : ∀ x, x ≠ 988 → r1.1 x (k0 9) = r.1 x (k0 9) := fun x y => (fr x _ (fun z => y z.1)).1
  obtain ⟨a1, b1, b2, b3, b4, b5, b6, b7, b8, b9, b10, b11, b12, b13⟩ := op
  refine hg r1 S1 ((sn0.trans (sn1 n3)).mono (fun _ _ => trivial) (fun _ _ => trivial)) ⟨a1, v1, ?_, ?_, ?_, ?_, ?_, ?_, ?_, ?_, ?_, ?_, ?_, ?_⟩ (by rw [(fr 950 32 (by omega)).1]; exact h32)
  · rw [e 989 (by decide)]; exact b2
  · rw [e 990 (by decide)]; exact b3
  · rw [e 991 (by decide)]; exact b4
  · rw [e 993 (by decide)]; exact b5
  · rw [e 995 (by decide)]; exact b6
  · rw [e 996 (by decide)]; exact b7
  · rw [e 997 (by decide)]; exact b8
  · rw [e 998 (by decide)]; exact b9
  · rw [e 999 (by decide)]; exact b10
  · rw [e 1000 (by decide)]; exact b11
  · rw [e 1001 (by decide)]; exact b12
  · rw [e 1002 (by decide)]; exact b13
/-- a head that is an exp: IF, WHILE -/
theorem cS_exp {T U : Type} {F : t_S → Option T} {K' : t_S → Option U} {Q : T → U → Prop} (hso : so = 3 ∨ so = 4) (S0 : fs P nt f n2 Y n L ka a g k0 c0 r0) (hl : k0 9 < 400) (S : fs P nt f n2 Y n L ka a g (nx (ox k0)) c r) (sn0 : sn n2 n3 f n (k0 9) (fun _ => True) (fun _ => True) k0 c0 r0 (nx (ox k0)) c r) (q0 : sq c0 c) (op : op_R c r f n (k0 9) (nI so) up (nI so)) (h32 : r.1 950 32 = 0) (hV : en_V n 1 L v) (hf : f < n3) (hg : ∀ k' c' r', cS P nt f n2 n3 Y n v ka a g k0 c0 r0 so so 9 up (-1) (-1) n L k' c' r' → t_h2 (F c') (K' r') Q) (hb : ∀ f2 p0 c' r', zS f f2 p0 c0 c' → rS P f f2 p0 r0 r' → t_h2 (F c') (K' r') Q) : t_h2 ((f_X6_readExp (-1) c).bind (fun y => t_let (t_setI y.2 (445 + k0 9) 5 y.1) F)) ((f_X13_exp r).bind (fun y => t_let (t_setI y.2 995 (k0 9) y.1) K')) Q := by
  refine fs_exp (j := 5) (x := 995) S h32 hV hl (by decide) (by decide) (sn0.mc l2_fr.rf) (sn0.mr l2_fr.rf) (fun k' c' r' S1 _ k9 k00 _ sn1 pc => hg k' c' r' ?_) hb
  obtain ⟨⟨a1, a2, a3⟩, b1, b2, b3, b4, b5, b6, b7, b8, b9, b10, b11, b12, b13⟩ := op
  obtain ⟨m, sx⟩ := pc n3 hf
  have cc : ∀ j, j < 12 → j ≠ 5 → c'.1 (445 + k0 9) j = c.1 (445 + k0 9) j := fun j a b => (sn1 n3).2.2.2.1 j a b
  have rr : ∀ x, 988 ≤ x → x ≤ 1002 → x ≠ 995 → r'.1 x (k0 9) = r.1 x (k0 9) := fun x a b d => (sn1 n3).2.2.2.2.1 x a b d
  have e8 : r'.1 988 (k0 9) = nI so := by rw [rr 988 (by decide) (by decide) (by decide)]; exact b1
  have no2 : ∀ x, k0 9 ≤ x → x < k0 9 + 1 → r'.1 988 x ≠ 2 := fun x x1 x2 y => by
    have e : x = k0 9 := by omega
    rw [e, e8] at y
    have := (nI_eq (b := 2) (by omega) (by decide)).mp y
    omega
  have k00 : k0 0 + 1 < k' 0 := k00
  refine cS.mk S1 (sn0.trans (sn1 n3)) k9 (by omega) (((m (k0 9)).base q0.1 q0.2.1 q0.2.2).wide no2) ⟨?_, ?_, ?_, ?_, ?_, e8, ?_, ?_, ?_, ?_, ?_, ?_, ?_⟩ (fun y => by omega) ?_
  · rw [cc 0 (by decide) (by decide)]; exact a1
  · rw [cc 1 (by decide) (by decide)]; exact a3 1 (by decide) (by decide) (by decide)
  · rw [cc 2 (by decide) (by decide)]; exact a2
  · rw [cc 3 (by decide) (by decide)]; exact a3 3 (by decide) (by decide) (by decide)
  · rw [cc 4 (by decide) (by decide)]; exact a3 4 (by decide) (by decide) (by decide)
  · rw [rr 989 (by decide) (by decide) (by decide)]; exact b2
  · rw [rr 990 (by decide) (by decide) (by decide)]; exact b3
  · rw [rr 998 (by decide) (by decide) (by decide)]; exact b9
  · rw [rr 999 (by decide) (by decide) (by decide)]; exact b10
  · rw [rr 1000 (by decide) (by decide) (by decide)]; exact b11
  · rw [rr 1001 (by decide) (by decide) (by decide)]; exact b12
  · rw [rr 1002 (by decide) (by decide) (by decide)]; exact b13
  · exact Or.inr (Or.inr (Or.inl ⟨by omega, rfl, sx⟩))
end
