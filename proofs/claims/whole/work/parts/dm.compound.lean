/-! Level 2: statements that have others in them: how far one is. -/
section
variable {P : pc_S} {nt : Nat → Nat} {f n n' n'' n2 n3 Y a g f2 p0 so K V : Nat} {L L' L'' v : Nat → Nat} {ka up w3 w4 : Int32} {k k0 k' : Nat → Nat} {c0 r0 c r c1 r1 c' r' : t_S} {A B : Nat → Prop}
/-- a block read well: its first line -/
def bk_G (P : pc_S) (nt : Nat → Nat) (f n2 n3 Y n : Nat) (L : Nat → Nat) (ka : Int32) (a g : Nat) (k : Nat → Nat) (c r : t_S) (x y : Int32) (c' r' : t_S) : Prop := x = y ∧ ∃ (k' : Nat → Nat) (n' : Nat) (L' : Nat → Nat), k 0 < k' 0 ∧ fs P nt f n2 Y n' L' ka a g k' c' r' ∧ n ≤ n' ∧ gr k k' ∧ l2_fr (sf_Wc f n k (k 9)) c c' ∧ l2_fr (sf_Wr f n k (k 9)) r r' ∧ mK n2 n3 r r' ∧ mB False n2 n3 c c' r' (k 6) (k' 6) (k 8) (k' 8) (k 2) (k' 2) (k 9) (k' 9) ∧ (∀ ln, k 9 ≤ ln → ln < k' 9 → stF_R f n2 n3 c' r' (k' 3) (k' 4) (k' 5) (k' 6) (k' 7) (k' 2) (k' 9) ln) ∧ ((x = -1 ∧ k' 9 = k 9) ∨ (x = nI (k 9) ∧ k 9 < k' 9))
def bk_O (P : pc_S) (nt : Nat → Nat) (f n2 n3 Y n : Nat) (L : Nat → Nat) (ka : Int32) (a g : Nat) (k : Nat → Nat) (c r : t_S) (x y : Int32 × t_S) : Prop := bk_G P nt f n2 n3 Y n L ka a g k c r x.1 y.1 x.2 y.2 ∨ ∃ f2 p0, zS f f2 p0 c x.2 ∧ yS P f f2 p0 r y.2
theorem zS.at {cb : t_S} (h : zS f f2 p0 cb c) (q : l2_fr mo_Wc c0 cb) : zS f f2 p0 c0 c := ⟨h.1.at q, h.2⟩
theorem yS.at {rb : t_S} (h : yS P f f2 p0 rb r) (q : l2_fr mo_Wr r0 rb) : yS P f f2 p0 r0 r := ⟨h.1.at q, h.2⟩
/-- row ln on both sides -/
def rw_S (c r : t_S) (f n ln so K V : Nat) (up w3 w4 : Int32) : Prop := c.1 (445 + ln) 0 = nI so ∧ c.1 (445 + ln) 1 = -1 ∧ c.1 (445 + ln) 2 = up ∧ c.1 (445 + ln) 3 = w3 ∧ c.1 (445 + ln) 4 = w4 ∧ r.1 988 ln = nI K ∧ r.1 989 ln = -1 ∧ r.1 990 ln = up ∧ r.1 998 ln = w3 ∧ r.1 999 ln = w4 ∧ r.1 1000 ln = sl_v V ∧ r.1 1001 ln = nI f ∧ r.1 1002 ln = nI n
theorem rw_S.same {ln : Nat} (h : rw_S c r f n ln so K V up w3 w4) (hc : ∀ j, j < 5 → c'.1 (445 + ln) j = c.1 (445 + ln) j) (hr : ∀ x, 988 ≤ x → x ≤ 1002 → r'.1 x ln = r.1 x ln) : rw_S c' r' f n ln so K V up w3 w4 := by
  unfold rw_S at *
  rw [hc 0 (by decide), hc 1 (by decide), hc 2 (by decide), hc 3 (by decide), hc 4 (by decide), hr 988 (by decide) (by decide), hr 989 (by decide) (by decide), hr 990 (by decide) (by decide), hr 998 (by decide) (by decide), hr 999 (by decide) (by decide), hr 1000 (by decide) (by decide), hr 1001 (by decide) (by decide), hr 1002 (by decide) (by decide)]
  exact h
/-- a line's guard, where it may have one -/
def gd_R (n2 n3 : Nat) (E : en_S) (c r : t_S) (t e p l s m ln so K : Nat) : Prop := (so = 22 ∨ so = 23 ∨ K = 20 ∧ 11 ≤ so ∧ so ≤ 13) → ((c.1 (445 + ln) 11 = -1 ∧ r.1 997 ln = -1) ∨ sx_R n2 n3 E c r t e p l s m (c.1 (445 + ln) 11) (r.1 997 ln))
/-- a line to come -/
def wj (lo hi : Nat) (w : Int32) : Prop := w = -1 ∨ ∃ j, lo < j ∧ j < hi ∧ w = nI j
theorem wj.mo {lo hi hi' : Nat} {w : Int32} (h : wj lo hi w) (hh : hi ≤ hi') : wj lo hi' w := h.elim Or.inl (fun ⟨j, j1, j2, j3⟩ => Or.inr ⟨j, j1, by omega, j3⟩)
/-- from a statement's beginning (k0, c0, r0), its line is the first -/
def cS (P : pc_S) (nt : Nat → Nat) (f n2 n3 Y n : Nat) (v : Nat → Nat) (ka : Int32) (a g : Nat) (k0 : Nat → Nat) (c0 r0 : t_S) (so K V : Nat) (up w3 w4 : Int32) (n' : Nat) (L' : Nat → Nat) (k : Nat → Nat) (c r : t_S) : Prop := fs P nt f n2 Y n' L' ka a g k c r ∧ (n ≤ n' ∧ k0 9 < k 9 ∧ k0 0 < k 0 ∧ gr k0 k) ∧ l2_fr (sf_Wc f n k0 (k0 9)) c0 c ∧ l2_fr (sf_Wr f n k0 (k0 9)) r0 r ∧ mK n2 n3 r0 r ∧ mB False n2 n3 c0 c r (k0 6) (k 6) (k0 8) (k 8) (k0 2) (k 2) (k0 9) (k 9) ∧ (∀ l, k0 9 < l → l < k 9 → stF_R f n2 n3 c r (k 3) (k 4) (k 5) (k 6) (k 7) (k 2) (k 9) l) ∧ rw_S c r f n (k0 9) so K V up w3 w4 ∧ gd_R n2 n3 (E_f f n v) c r (k 3) (k 4) (k 5) (k 6) (k 7) (k 2) (k0 9) so K ∧ sk_R n2 n3 (E_f f n v) v c r (k 3) (k 4) (k 5) (k 6) (k 7) (k 2) f n (k0 9) so K V ∧ wj (k0 9) (k 9) w3 ∧ wj (k0 9) (k 9) w4
/-- whole -/
theorem cS.fin (h : cS P nt f n2 n3 Y n v ka a g k0 c0 r0 so K V up w3 w4 n' L' k c r) (S0 : fs P nt f n2 Y n L ka a g k0 c0 r0) (hV : en_V n 1 L v) (hf : f < n3) (hk : so < 30 ∧ K < 30 ∧ V < 10) (hu : up = -1 ∨ ∃ j, j < k0 9 ∧ up = nI j) : so_G P nt f n2 n3 Y n L ka a g k0 c0 r0 c r := by
  obtain ⟨S, ⟨hn, h9, h0, g0⟩, fc, fr, kk, m, ls, ⟨a0, a1, a2, a3, a4, b0, b1, b2, b3, b4, b5, b6, b7⟩, gd, sk, j3, j4⟩ := h
  refine ⟨k, n', L', h0, h9, S, hn, g0, fc, fr, kk, m, fun ln l1 l2 => ?_, a1, b1⟩
  by_cases z : ln = k0 9
  · rw [z]
    exact ⟨⟨f, n, v, so, K, V, ⟨S0.2.2.2.1, S0.2.1.1, hk.1, hk.2.1, hk.2.2⟩, b6, b7, (S0.mE hV hf (b2 := n2)).mono kk (Nat.le_refl _) (Nat.le_refl _), a0, b0, b5, ⟨by rw [a1, b1], Or.inl a1⟩, ⟨by rw [a2, b2], by rw [a2]; exact hu⟩, ⟨by rw [a3, b3], by rw [a3]; exact j3⟩, ⟨by rw [a4, b4], by rw [a4]; exact j4⟩, gd, sk⟩, b6⟩
  · exact ls ln (by omega) l2
/-- further on, the row's cells as they were -/
theorem cS.go {Wc Wr : Nat → Nat → Prop} (h : cS P nt f n2 n3 Y n v ka a g k0 c0 r0 so K V up w3 w4 n' L' k c r) (S' : fs P nt f n2 Y n'' L'' ka a g k' c' r') (hn : n' ≤ n'') (o : gr k k') (fc : l2_fr Wc c c') (fr : l2_fr Wr r r') (w1 : ∀ b j, Wc b j → sf_Wc f n' k (k 9) b j) (w2 : ∀ b j, Wr b j → sf_Wr f n' k (k 9) b j) (kk : mK n2 n3 r r') (m : mB False n2 n3 c c' r' (k 6) (k' 6) (k 8) (k' 8) (k 2) (k' 2) (k 9) (k' 9)) (ls : ∀ l, k 9 ≤ l → l < k' 9 → stF_R f n2 n3 c' r' (k' 3) (k' 4) (k' 5) (k' 6) (k' 7) (k' 2) (k' 9) l) : cS P nt f n2 n3 Y n v ka a g k0 c0 r0 so K V up w3 w4 n'' L'' k' c' r' := by
  obtain ⟨S, ⟨hn0, h9, h0, g0⟩, fc0, fr0, kk0, m0, ls0, rw0, gd, sk, j3, j4⟩ := h
  have o' := o
  obtain ⟨o0, o1, o2, o3, o4, o5, o6, o7, o8, o9⟩ := o'
  have g0' := g0
  obtain ⟨g00, g01, g02, g03, g04, g05, g06, g07, g08, g09⟩ := g0'
  have C : l2_fr (sf_Wc f n' k (k 9)) c c' := fc.mono w1
  have R : l2_fr (sf_Wr f n' k (k 9)) r r' := fr.mono w2
  have s9b : k 9 ≤ 400 := S.1.2.2.2.2.2.2.2.2.2.2.2.2.2
  have hrow : ∀ b j, k0 9 ≤ b → b < k 9 → c'.1 (445 + b) j = c.1 (445 + b) j := fun b j b1 b2 => (C _ j (by unfold sf_Wc xWc; omega)).1
  have rrow : ∀ x l, 988 ≤ x → x ≤ 1002 → l < k 9 → r'.1 x l = r.1 x l := fun x l x1 x2 hl => (R x l (by unfold sf_Wr xWr; omega)).1
  have hV : ∀ f' td cnt, f' < n3 → f' < 40 → td < cnt → cnt ≤ 8 → r.1 986 f' = nI cnt → c'.1 443 (8 * f' + td) = c.1 443 (8 * f' + td) := fun f' td cnt x1 x2 x3 x4 x5 => (C 443 _ (fun y => by
    have y : (443 = 442 ∨ 443 = 443) ∧ 8 * f + n' ≤ 8 * f' + td ∧ 8 * f' + td < 8 * f + 8 := by
      unfold sf_Wc xWc at y
      omega
    have e : f' = f := by omega
    subst e
    have := (nI_eq (by omega) (by have := S.2.1.1; omega)).mp (x5.symm.trans S.2.1.2.2.1)
    omega)).1
  refine ⟨S', ⟨Nat.le_trans hn0 hn, by omega, by omega, g0.trans o⟩, fc0.trans (C.mono (fun b j y => y.sub g0 hn0 (Nat.le_of_lt h9))), fr0.trans (R.mono (fun b j y => y.sub g0 hn0 (Nat.le_of_lt h9))), mK.trans kk0 kk, ?_, fun l l1 l2 => ?_, rw0.same (fun j _ => hrow _ j (Nat.le_refl _) h9) (fun x x1 x2 => rrow x _ x1 x2 h9), fun y => ?_, sk.fr C R sf_cp sf_cr kk (Nat.le_refl _) (Nat.le_refl _) ⟨o3, o4, o5, o6, o7, o2⟩ (fun j _ => hrow _ j (Nat.le_refl _) h9) (fun x x1 x2 _ => rrow x _ x1 x2 h9) (fun cnt y1 y2 y3 y4 y5 => hV f n cnt y1 y2 y3 y4 y5), wj.mo j3 o9, wj.mo j4 o9⟩
  · exact m0.trans m ⟨g06, o6⟩ ⟨g08, o8⟩ ⟨g02, o2⟩ ⟨g09, o9⟩ (sf_mL C) (fun j j1 j2 => by
      have e : ∀ b, (955 ≤ b ∧ b ≤ 962) ∨ b = 1003 → r'.1 b j = r.1 b j ∧ r'.2.1 b j = r.2.1 b j := fun b y => by
        have := R b j (fun z => (sf_cr b j z).1 ⟨by omega, j2⟩)
        exact ⟨this.1, this.2.1⟩
      exact ⟨(e 955 (by omega)).1, (e 956 (by omega)).1, (e 962 (by omega)).1, (e 1003 (by omega)).1, (e 957 (by omega)).2, (e 958 (by omega)).2, fun _ => (e 961 (by omega)).1⟩) (fun s s1 s2 x x1 x2 _ => rrow x s x1 x2 s2) kk (Nat.le_refl _) (Nat.le_refl _) (by have := (S'.1.1.mle (by decide)).1; omega)
  · by_cases z : l < k 9
    · exact (ls0 l l1 z).fr C R sf_cp sf_cr kk (Nat.le_refl _) (Nat.le_refl _) ⟨o3, o4, o5, o6, o7, o2⟩ o9 (fun j => hrow l j (by omega) z) (fun x x1 x2 => rrow x l x1 x2 z) hV
    · exact ls l (by omega) l2
  · rw [hrow _ 11 (Nat.le_refl _) h9, rrow 997 _ (by decide) (by decide) h9]
    exact (gd y).elim Or.inl (fun z => Or.inr (z.fr C R sf_cp sf_cr kk (Nat.le_refl _) (Nat.le_refl _) ⟨o3, o4, o5, o6, o7, o2⟩))
/-- behind a block in it -/
theorem cS.block {x y : Int32} (h : cS P nt f n2 n3 Y n v ka a g k0 c0 r0 so K V up w3 w4 n' L' k c r) (q : bk_G P nt f n2 n3 Y n' L' ka a g k c r x y c' r') : x = y ∧ ∃ k' n'' L'', cS P nt f n2 n3 Y n v ka a g k0 c0 r0 so K V up w3 w4 n'' L'' k' c' r' ∧ wj (k0 9) (k' 9) x := by
  obtain ⟨e, k', n'', L'', x0, S', x1, x2, x3, x4, x5, x6, x7, x8⟩ := q
  refine ⟨e, k', n'', L'', h.go S' x1 x2 x3 x4 (fun _ _ y => y) (fun _ _ y => y) x5 x6 x7, ?_⟩
  rcases x8 with ⟨x8, _⟩ | ⟨x8, x9⟩
  · exact Or.inl x8
  · exact Or.inr ⟨k 9, h.2.1.2.1, x9, x8⟩
/-- another token -/
theorem cS.la (h : cS P nt f n2 n3 Y n v ka a g k0 c0 r0 so K V up w3 w4 n' L' k c r) (S' : fs P nt f n2 Y n' L' ka a g (nx k) c' r') (y1 : l2_fr la_W c c') (y2 : l2_fr rn_W r r') : cS P nt f n2 n3 Y n v ka a g k0 c0 r0 so K V up w3 w4 n' L' (nx k) c' r' := h.go S' (Nat.le_refl _) ⟨Nat.le_succ _, Nat.le_refl _, Nat.le_refl _, Nat.le_refl _, Nat.le_refl _, Nat.le_refl _, Nat.le_refl _, Nat.le_refl _, Nat.le_refl _, Nat.le_refl _⟩ y1 y2 (fun _ _ y => Or.inl (x_la y)) (fun _ _ y => Or.inl (x_rn y)) (mK.of y2 (fun b j y => by unfold rn_W; omega)) (mB.nil (y1 846 7 (by unfold la_W; omega)).1 (y1 846 8 (by unfold la_W; omega)).1 (fun j => (y1 7 j (by unfold la_W; omega)).1) _ _ _ _) (fun l l1 l2 => by
  have l2 : l < k 9 := l2
  omega)
/-- the first line of its block told, or that of its second one -/
theorem cS.set {x : Int32} {w : Nat} (h : cS P nt f n2 n3 Y n v ka a g k0 c0 r0 so K V up w3 w4 n' L' k c r) (hx : wj (k0 9) (k 9) x) (hw : w ≤ 1) (hl : k0 9 < 400) : cS P nt f n2 n3 Y n v ka a g k0 c0 r0 so K V up (if w = 0 then x else w3) (if w = 0 then w4 else x) n' L' k (t_setI c (445 + k0 9) (3 + w) x) (t_setI r (998 + w) (k0 9) x) := by
  obtain ⟨S, ⟨hn0, h9, h0, g0⟩, fc0, fr0, kk0, m0, ls0, ⟨a0, a1, a2, a3, a4, b0, b1, b2, b3, b4, b5, b6, b7⟩, gd, sk, j3, j4⟩ := h
  have fc : l2_fr (fun b j => b = 445 + k0 9 ∧ j = 3 + w) c (t_setI c (445 + k0 9) (3 + w) x) := l2_fr.set ⟨rfl, rfl⟩
  have fr : l2_fr (fun b j => b = 998 + w ∧ j = k0 9) r (t_setI r (998 + w) (k0 9) x) := l2_fr.set ⟨rfl, rfl⟩
  have vc : (t_setI c (445 + k0 9) (3 + w) x).1 (445 + k0 9) (3 + w) = x := by simp only [l2_gI, reduceIte]
  have vr : (t_setI r (998 + w) (k0 9) x).1 (998 + w) (k0 9) = x := by simp only [l2_gI, reduceIte]
  generalize t_setI c (445 + k0 9) (3 + w) x = c1 at *
  generalize t_setI r (998 + w) (k0 9) x = r1 at *
  obtain ⟨S1, sn1, q1⟩ := S.cell (A := fun _ => True) (B := fun _ => True) hl (fc.mono (fun b j y => ⟨y.1, by omega⟩)) (fr.mono (fun b j y => Or.inl ⟨by omega, by omega, y.2⟩)) (fun _ _ y => absurd trivial y) (fun _ _ _ y => absurd trivial y)
  have kk : mK n2 n3 r r1 := mK.of fr (fun b j y => by omega)
  have w1 : cp_c (fun b j => b = 445 + k0 9 ∧ j = 3 + w) (k 3) (k 4) (k 5) (k 6) := fun b j y => by omega
  have w2 : cp_r (fun b j => b = 998 + w ∧ j = k0 9) (k 2) (k 7) := fun b j y => by omega
  have cc : ∀ j, j ≠ 3 + w → c1.1 (445 + k0 9) j = c.1 (445 + k0 9) j := fun j y => (fc _ j (fun z => y z.2)).1
  have rr : ∀ y, y ≠ 998 + w → r1.1 y (k0 9) = r.1 y (k0 9) := fun y z => (fr y _ (fun w => z w.1)).1
  refine ⟨S1, ⟨hn0, h9, h0, g0⟩, fc0.trans (fc.mono (fun b j y => Or.inr (Or.inr (Or.inr (Or.inr (by omega)))))), fr0.trans (fr.mono (fun b j y => Or.inr (Or.inr (Or.inr (Or.inr (by omega)))))), mK.trans kk0 kk, ?_, fun l l1 l2 => ?_, ⟨?_, ?_, ?_, ?_, ?_, ?_, ?_, ?_, ?_, ?_, ?_, ?_, ?_⟩, fun y => ?_, ?_, ?_, ?_⟩
  · refine mB.fr m0 (fun b j x1 x2 x3 => (fc b j (by omega)).1) (fc 846 7 (by omega)).1 (fc 846 8 (by omega)).1 (fun j => (fc 7 j (by omega)).1) (fun j j1 j2 => ⟨(fr 955 j (by omega)).1, (fr 956 j (by omega)).1, (fr 962 j (by omega)).1, (fr 1003 j (by omega)).1, (fr 957 j (by omega)).2.1, (fr 958 j (by omega)).2.1, fun _ => (fr 961 j (by omega)).1⟩) (fun s s1 s2 y y1 y2 y3 => ?_) kk (Nat.le_refl _) (Nat.le_refl _)
    exact (fr y s (by omega)).1
  · exact (ls0 l l1 l2).fr fc fr w1 w2 kk (Nat.le_refl _) (Nat.le_refl _) ⟨Nat.le_refl _, Nat.le_refl _, Nat.le_refl _, Nat.le_refl _, Nat.le_refl _, Nat.le_refl _⟩ (Nat.le_refl _) (fun j => (fc _ j (by omega)).1) (fun y y1 y2 => (fr y l (by omega)).1) (fun f' td cnt _ _ _ _ _ => (fc 443 _ (by omega)).1)
  · rw [cc 0 (by omega)]; exact a0
  · rw [cc 1 (by omega)]; exact a1
  · rw [cc 2 (by omega)]; exact a2
  · by_cases z : w = 0
    · subst z; rw [if_pos rfl]; exact vc
    · rw [if_neg z, cc 3 (by omega)]; exact a3
  · by_cases z : w = 0
    · rw [if_pos z, cc 4 (by omega)]; exact a4
    · have e : w = 1 := by omega
      subst e; rw [if_neg z]; exact vc
  · rw [rr 988 (by omega)]; exact b0
  · rw [rr 989 (by omega)]; exact b1
  · rw [rr 990 (by omega)]; exact b2
  · by_cases z : w = 0
    · subst z; rw [if_pos rfl]; exact vr
    · rw [if_neg z, rr 998 (by omega)]; exact b3
  · by_cases z : w = 0
    · rw [if_pos z, rr 999 (by omega)]; exact b4
    · have e : w = 1 := by omega
      subst e; rw [if_neg z]; exact vr
  · rw [rr 1000 (by omega)]; exact b5
  · rw [rr 1001 (by omega)]; exact b6
  · rw [rr 1002 (by omega)]; exact b7
  · rw [cc 11 (by omega), rr 997 (by omega)]
    exact (gd y).elim Or.inl (fun z => Or.inr (z.fr fc fr w1 w2 kk (Nat.le_refl _) (Nat.le_refl _) ⟨Nat.le_refl _, Nat.le_refl _, Nat.le_refl _, Nat.le_refl _, Nat.le_refl _, Nat.le_refl _⟩))
  · exact sk.fr fc fr w1 w2 kk (Nat.le_refl _) (Nat.le_refl _) ⟨Nat.le_refl _, Nat.le_refl _, Nat.le_refl _, Nat.le_refl _, Nat.le_refl _, Nat.le_refl _⟩ (fun j y => cc j (by omega)) (fun y y1 y2 y3 => rr y (by omega)) (fun cnt _ _ _ _ _ => (fc 443 _ (by omega)).1)
  · by_cases z : w = 0
    · rw [if_pos z]; exact hx
    · rw [if_neg z]; exact j3
  · by_cases z : w = 0
    · rw [if_pos z]; exact j4
    · rw [if_neg z]; exact hx
end
