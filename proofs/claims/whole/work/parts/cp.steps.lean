/-! Level 2: the steps of a statement, both sides. -/
/-- one or more steps of line ln: of its row A and B are written -/
def sn (n2 n3 f n ln : Nat) (A B : Nat → Prop) (k : Nat → Nat) (c r : t_S) (k' : Nat → Nat) (c' r' : t_S) : Prop := gr k k' ∧ l2_fr (sf_Wc f n k ln) c c' ∧ l2_fr (sf_Wr f n k ln) r r' ∧ (∀ j, j < 12 → ¬ A j → c'.1 (445 + ln) j = c.1 (445 + ln) j) ∧ (∀ x, 988 ≤ x → x ≤ 1002 → ¬ B x → r'.1 x ln = r.1 x ln) ∧ mK n2 n3 r r'
/-- .. what it brings, seen with any later state of the reference -/
def sB (n2 n3 ln : Nat) (k : Nat → Nat) (c : t_S) (k' : Nat → Nat) (c' r' : t_S) : Prop := mB False n2 n3 c c' r' (k 6) (k' 6) (k 8) (k' 8) (k 2) (k' 2) ln ln
section
variable {P : pc_S} {nt : Nat → Nat} {f n2 n3 Y n a g f2 p0 ln : Nat} {L v : Nat → Nat} {ka : Int32} {k k1 k2 k' : Nat → Nat} {c0 r0 c r c1 r1 c' r' : t_S} {A B A' B' : Nat → Prop}
theorem mK.trans {r2 : t_S} (h : mK n2 n3 r r1) (g : mK n2 n3 r1 r2) : mK n2 n3 r r2 := by
  refine ⟨fun k k1 k2 cnt hc e => ?_, fun f f1 f2 => ?_⟩
  · obtain ⟨⟨x, x1, x2, x3⟩, x4⟩ := h.1 k k1 k2 cnt hc e
    obtain ⟨⟨y, y1, y2, y3⟩, y4⟩ := g.1 k k1 k2 x x2 x3
    exact ⟨⟨y, by omega, y2, y3⟩, fun i hi => ⟨by rw [(y4 i (by omega)).1]; exact (x4 i hi).1, by rw [(y4 i (by omega)).2.1]; exact (x4 i hi).2.1, by rw [(y4 i (by omega)).2.2]; exact (x4 i hi).2.2⟩⟩
  · obtain ⟨⟨x1, x2⟩, x3⟩ := h.2 f f1 f2
    obtain ⟨⟨y1, y2⟩, y3⟩ := g.2 f f1 f2
    refine ⟨⟨y1.trans x1, y2.trans x2⟩, fun cnt hc e => ?_⟩
    obtain ⟨⟨x, z1, z2, z3⟩, z4⟩ := x3 cnt hc e
    obtain ⟨⟨y, w1, w2, w3⟩, w4⟩ := y3 x z2 z3
    exact ⟨⟨y, by omega, w2, w3⟩, fun i hi => by rw [w4 i (by omega)]; exact z4 i hi⟩
theorem sn.trans (h : sn n2 n3 f n ln A B k c r k1 c1 r1) (q : sn n2 n3 f n ln A' B' k1 c1 r1 k' c' r') : sn n2 n3 f n ln (fun j => A j ∨ A' j) (fun x => B x ∨ B' x) k c r k' c' r' := by
  obtain ⟨h1, h2, h3, h4, h5, h6⟩ := h
  obtain ⟨q1, q2, q3, q4, q5, q6⟩ := q
  exact ⟨h1.trans q1, h2.trans (q2.mono (fun b j y => y.sub h1 (Nat.le_refl _) (Nat.le_refl _))), h3.trans (q3.mono (fun b j y => y.sub h1 (Nat.le_refl _) (Nat.le_refl _))), fun j hj y => by rw [q4 j hj (fun z => y (Or.inr z)), h4 j hj (fun z => y (Or.inl z))], fun x a b y => by rw [q5 x a b (fun z => y (Or.inr z)), h5 x a b (fun z => y (Or.inl z))], h6.trans q6⟩
theorem sn.mono (h : sn n2 n3 f n ln A B k c r k1 c1 r1) (hA : ∀ j, A j → A' j) (hB : ∀ x, B x → B' x) : sn n2 n3 f n ln A' B' k c r k1 c1 r1 := ⟨h.1, h.2.1, h.2.2.1, fun j hj y => h.2.2.2.1 j hj (fun z => y (hA j z)), fun x a b y => h.2.2.2.2.1 x a b (fun z => y (hB x z)), h.2.2.2.2.2⟩
theorem sn.rf : sn n2 n3 f n ln A B k c r k c r := ⟨gr.rf, l2_fr.rf, l2_fr.rf, fun _ _ _ => rfl, fun _ _ _ _ => rfl, mK.of (l2_fr.rf (W := fun _ _ => False)) (fun _ _ _ y => y)⟩
theorem sn.mc (h : sn n2 n3 f n ln A B k c r k' c' r') (g0 : l2_fr mo_Wc c0 c) : l2_fr mo_Wc c0 c' := g0.trans (sf_mo h.2.1)
theorem sn.mr (h : sn n2 n3 f n ln A B k c r k' c' r') (g0 : l2_fr mo_Wr r0 r) : l2_fr mo_Wr r0 r' := g0.trans (sf_mr h.2.2.1)
/-- what an earlier step has brought stays -/
theorem sB.at {k0 : Nat → Nat} (h : sB n2 n3 ln k0 c0 k c r) (q : sn n2 n3 f n ln A B k c r k' c' r') : sB n2 n3 ln k0 c0 k c r' := by
  have nf : l2_fr (fun _ _ => False) c c := l2_fr.rf
  exact mB.cap h nf q.2.2.1 (t := 0) (e := 0) (p := 0) (s := k 7) (fun _ _ y => y.elim) sf_cr ⟨fun y => y, fun y => y⟩ (fun _ y => y) (fun b j _ _ _ y1 y2 => by omega) q.2.2.2.2.2 (Nat.le_refl _) (Nat.le_refl _)
/-- one behind the other, seen with the same state of the reference -/
theorem mB.seq {zT : Prop} {b0 b1 b2 d0 d1 d2 m0 m1 m2 s0 s1 s2 : Nat} {c2 : t_S} (h : mB zT n2 n3 c0 c1 r b0 b1 d0 d1 m0 m1 s0 s1) (q : mB zT n2 n3 c1 c2 r b1 b2 d1 d2 m1 m2 s1 s2) (o : b0 ≤ b1 ∧ b1 ≤ b2 ∧ d0 ≤ d1 ∧ d1 ≤ d2 ∧ m0 ≤ m1 ∧ m1 ≤ m2 ∧ s0 ≤ s1 ∧ s1 ≤ s2) (hc : mL_c c1 c2 b1) (hm : m2 ≤ 13000) : mB zT n2 n3 c0 c2 r b0 b2 d0 d2 m0 m2 s0 s2 := h.trans q ⟨o.1, o.2.1⟩ ⟨o.2.2.1, o.2.2.2.1⟩ ⟨o.2.2.2.2.1, o.2.2.2.2.2.1⟩ ⟨o.2.2.2.2.2.2.1, o.2.2.2.2.2.2.2⟩ hc (fun _ _ _ => ⟨rfl, rfl, rfl, rfl, rfl, rfl, fun _ => rfl⟩) (fun _ _ _ _ _ _ _ => rfl) (mK.of (l2_fr.rf (W := fun _ _ => False)) (fun _ _ _ y => y)) (Nat.le_refl _) (Nat.le_refl _) hm
theorem sf_mL (h : l2_fr (sf_Wc f n k ln) c c') : mL_c c c' (k 6) := fun b j x1 x2 x3 => (h b j (fun w => (sf_cp b j w).2.2.2 ⟨x1, x2, x3⟩)).1
/-- quiet steps -/
def sq (c c' : t_S) : Prop := c'.1 846 7 = c.1 846 7 ∧ c'.1 846 8 = c.1 846 8 ∧ ∀ j, c'.1 7 j = c.1 7 j
theorem sq.trans {c2 : t_S} (h : sq c c1) (q : sq c1 c2) : sq c c2 := ⟨q.1.trans h.1, q.2.1.trans h.2.1, fun j => (q.2.2 j).trans (h.2.2 j)⟩
theorem sq.of {W : Nat → Nat → Prop} (h : l2_fr W c c') (w : ∀ b j, b = 7 ∨ b = 846 ∧ (j = 7 ∨ j = 8) → ¬ W b j) : sq c c' := ⟨(h _ _ (w _ _ (by omega))).1, (h _ _ (w _ _ (by omega))).1, fun j => (h _ _ (w _ _ (by omega))).1⟩
theorem rw_sn (hl : ln < 400) (o : gr k k') (fc : l2_fr (rw_Wc ln) c c') (fr : l2_fr (rw_Wr ln) r r') (hA : ∀ j, j < 12 → ¬ A j → c'.1 (445 + ln) j = c.1 (445 + ln) j) (hB : ∀ x, 988 ≤ x → x ≤ 1002 → ¬ B x → r'.1 x ln = r.1 x ln) : sn n2 n3 f n ln A B k c r k' c' r' := ⟨o, fc.mono (fun b j y => by
  rcases y with y | y
  · exact Or.inl (x_la y)
  · exact Or.inr (Or.inr (Or.inr (Or.inr (by omega))))), fr.mono (fun b j y => by
  rcases y with (y | y) | y | y
  · exact Or.inl (x_rn y)
  · exact Or.inl (x_nm y)
  · exact Or.inr (Or.inr (Or.inr (Or.inr (by omega))))
  · exact Or.inl (Or.inl (by omega))), hA, hB, mK.of fr (fun b j y => by unfold rw_Wr nk_W rn_W nm_W; omega)⟩
/-- one more token: everything else as it was -/
theorem fs.la {k' : Nat → Nat} (h : fs P nt f n2 Y n L ka a g k c r) (hl : ln < 400) (hu : k' 0 = k 0 + 1) (o : k' 1 = k 1 ∧ k' 2 = k 2 ∧ k' 3 = k 3 ∧ k' 4 = k 4 ∧ k' 5 = k 5 ∧ k' 6 = k 6 ∧ k' 7 = k 7 ∧ k' 8 = k 8 ∧ k' 9 = k 9) (J : pj P (k 0 + 1) 0 0 (k 1) (k 2) c' r') (fc : l2_fr la_W c c') (fr : l2_fr rn_W r r') : fs P nt f n2 Y n L ka a g k' c' r' ∧ sn n2 n3 f n ln A B k c r k' c' r' ∧ sq c c' := by
  have C : l2_fr (rw_Wc ln) c c' := fc.mono (fun b j y => Or.inl y)
  have R : l2_fr (rw_Wr ln) r r' := fr.mono (fun b j y => Or.inl (Or.inl y))
  obtain ⟨o1, o2, o3, o4, o5, o6, o7, o8, o9⟩ := o
  refine ⟨h.go hl (by omega) (by omega) ⟨o3, o4, o5, o6, o7, o8, o9⟩ (by rw [hu, o1, o2]; exact J) C R, rw_sn hl (by unfold gr; omega) C R (fun j hj _ => (fc _ _ (by unfold la_W; omega)).1) (fun x a b _ => (fr _ _ (by unfold rn_W; omega)).1), sq.of fc (fun b j y => by unfold la_W; omega)⟩
def nx (k : Nat → Nat) : Nat → Nat := ck (k 0 + 1) (k 1) (k 2) (k 3) (k 4) (k 5) (k 6) (k 7) (k 8) (k 9)
theorem fs_need {T U : Type} {F : t_S → Option T} {K : t_S → Option U} {Q : T → U → Prop} {x : Nat} {s : Int32} (S : fs P nt f n2 Y n L ka a g k c r) (hl : ln < 400) (hx : (33 ≤ x ∧ x ≤ 125) ∨ (10 ≤ x ∧ x ≤ 17)) (hs : s = nI (sg x)) (gc : l2_fr mo_Wc c0 c) (gr' : l2_fr mo_Wr r0 r) (hg : ∀ c' r', fs P nt f n2 Y n L ka a g (nx k) c' r' → (∀ n3 A B, sn n2 n3 f n ln A B k c r (nx k) c' r') → sq c c' → l2_fr la_W c c' → l2_fr rn_W r r' → t_h2 (F c') (K r') Q) (hb : ∀ f2 p0 c' r', zS f f2 p0 c0 c' → yS P f f2 p0 r0 r' → t_h2 (F c') (K r') Q) : t_h2 ((f_X2_need (nI x) c).bind F) ((f_X13_mustBe s r).bind K) Q := by
  refine h2_bb _ (pj_need S.1.1 (by decide) hx hs) (fun c' r' hw => ?_)
  obtain ⟨y1, y2, y3⟩ := hw
  rcases y3 with J | ⟨f2, p0, y3, y4⟩
  · have q := fun n3 A B => S.la (n3 := n3) (A := A) (B := B) (k' := nx k) hl rfl ⟨rfl, rfl, rfl, rfl, rfl, rfl, rfl, rfl, rfl⟩ J y1 y2
    exact hg c' r' (q 0 (fun _ => False) (fun _ => False)).1 (fun n3 A B => (q n3 A B).2.1) (q 0 (fun _ => False) (fun _ => False)).2.2 y1 y2
  · exact hb f2 p0 c' r' (S.z y3 y1 gc) (S.y y4 y2 gr')
theorem fs_needW {T U : Type} {F : t_S → Option T} {K : t_S → Option U} {Q : T → U → Prop} {x : Nat} {s : Int32} (S : fs P nt f n2 Y n L ka a g k c r) (hl : ln < 400) (hx : x < 66) (hs : s = nI (pv x)) (gc : l2_fr mo_Wc c0 c) (gr' : l2_fr mo_Wr r0 r) (hg : ∀ c' r', fs P nt f n2 Y n L ka a g (nx k) c' r' → (∀ n3 A B, sn n2 n3 f n ln A B k c r (nx k) c' r') → sq c c' → l2_fr la_W c c' → l2_fr rn_W r r' → t_h2 (F c') (K r') Q) (hb : ∀ f2 p0 c' r', zS f f2 p0 c0 c' → yS P f f2 p0 r0 r' → t_h2 (F c') (K r') Q) : t_h2 ((f_X2_need (nI (200 + x)) c).bind F) ((f_X13_mustWord s r).bind K) Q := by
  refine h2_bb _ (pj_needW S.1.1 (by decide) hx hs) (fun c' r' hw => ?_)
  obtain ⟨y1, y2, y3⟩ := hw
  rcases y3 with J | ⟨f2, p0, y3, y4⟩
  · have q := fun n3 A B => S.la (n3 := n3) (A := A) (B := B) (k' := nx k) hl rfl ⟨rfl, rfl, rfl, rfl, rfl, rfl, rfl, rfl, rfl⟩ J y1 y2
    exact hg c' r' (q 0 (fun _ => False) (fun _ => False)).1 (fun n3 A B => (q n3 A B).2.1) (q 0 (fun _ => False) (fun _ => False)).2.2 y1 y2
  · exact hb f2 p0 c' r' (S.z y3 y1 gc) (S.y y4 y2 gr')
theorem fs_adv {T U : Type} {F : t_S → Option T} {K : t_S → Option U} {Q : T → U → Prop} {d : Nat} (S : fs P nt f n2 Y n L ka a g k c r) (J0 : pj P (k 0) d 0 (k 1) (k 2) c r) (hd : d = 1 ∨ c.1 1 8 ≠ 1) (h4 : c.1 1 8 ≠ 4) (hl : ln < 400) (gc : l2_fr mo_Wc c0 c) (gr' : l2_fr mo_Wr r0 r) (hg : ∀ c' r', fs P nt f n2 Y n L ka a g (nx k) c' r' → (∀ n3 A B, sn n2 n3 f n ln A B k c r (nx k) c' r') → sq c c' → l2_fr la_W c c' → l2_fr rn_W r r' → t_h2 (F c') (K r') Q) (hb : ∀ f2 p0 c' r', zS f f2 p0 c0 c' → yS P f f2 p0 r0 r' → t_h2 (F c') (K r') Q) : t_h2 ((f_X2_advance c).bind F) ((f_X13_next r).bind K) Q := by
  refine h2_bb _ (pj_adv J0 (by decide) hd h4) (fun c' r' hw => ?_)
  obtain ⟨y1, y2, y3⟩ := hw
  rcases y3 with J | ⟨f2, p0, y3, y4⟩
  · have q := fun n3 A B => S.la (n3 := n3) (A := A) (B := B) (k' := nx k) hl rfl ⟨rfl, rfl, rfl, rfl, rfl, rfl, rfl, rfl, rfl⟩ J y1 y2
    exact hg c' r' (q 0 (fun _ => False) (fun _ => False)).1 (fun n3 A B => (q n3 A B).2.1) (q 0 (fun _ => False) (fun _ => False)).2.2 y1 y2
  · exact hb f2 p0 c' r' (S.z y3 y1 gc) (S.y y4 y2 gr')
/-- cells of the line's row set -/
theorem fs.cell (S : fs P nt f n2 Y n L ka a g k c r) (hl : ln < 400) (fc : l2_fr (fun b j => b = 445 + ln ∧ j < 12) c c') (fr : l2_fr (fun b j => (988 ≤ b ∧ b ≤ 1002 ∧ j = ln) ∨ (b = 950 ∧ j = 32)) r r') (hA : ∀ j, j < 12 → ¬ A j → c'.1 (445 + ln) j = c.1 (445 + ln) j) (hB : ∀ x, 988 ≤ x → x ≤ 1002 → ¬ B x → r'.1 x ln = r.1 x ln) : fs P nt f n2 Y n L ka a g k c' r' ∧ (∀ n3, sn n2 n3 f n ln A B k c r k c' r') ∧ sq c c' := by
  have C : l2_fr (rw_Wc ln) c c' := fc.mono (fun b j y => Or.inr y)
  have R : l2_fr (rw_Wr ln) r r' := fr.mono (fun b j y => Or.inr y)
  have J : pj P (k 0) 0 0 (k 1) (k 2) c' r' := S.1.1.fr fc fr (fun j => by omega) (fun b i _ _ => by omega) (fun b i _ _ => by omega) (by omega) (fun j _ => by omega) (fun b i _ _ => by omega)
  exact ⟨S.go hl (Nat.le_refl _) (Nat.le_refl _) ⟨rfl, rfl, rfl, rfl, rfl, rfl, rfl⟩ J C R, fun n3 => rw_sn hl gr.rf C R hA hB, sq.of fc (fun b j y => by omega)⟩
end
