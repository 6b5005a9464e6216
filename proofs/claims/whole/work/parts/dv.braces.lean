/-! Level 2: blocks and alts: their loop. -/
section
variable {P : pc_S} {nt : Nat → Nat} {f n n' n'' n2 n3 Y a g f2 p0 so K V d dd i ln b fi la : Nat} {L L' L'' v : Nat → Nat} {ka up w3 w4 fst lst : Int32} {k k0 k' : Nat → Nat} {c0 r0 c r c1 r1 c' r' : t_S} {A B : Nat → Prop} {rcC : RT_X6_readAlts} {rcR : RT_X13_block}
/-- within a block, from its first line's state (k0, c0, r0) on -/
def bI (P : pc_S) (nt : Nat → Nat) (f n2 n3 Y n : Nat) (ka : Int32) (a g : Nat) (k0 : Nat → Nat) (c0 r0 : t_S) (fst lst : Int32) (n' : Nat) (L' : Nat → Nat) (k : Nat → Nat) (c r : t_S) : Prop := fs P nt f n2 Y n' L' ka a g k c r ∧ (n ≤ n' ∧ k0 0 ≤ k 0 ∧ gr k0 k) ∧ l2_fr (sf_Wc f n k0 (k0 9)) c0 c ∧ l2_fr (sf_Wr f n k0 (k0 9)) r0 r ∧ mK n2 n3 r0 r ∧ mB False n2 n3 c0 c r (k0 6) (k 6) (k0 8) (k 8) (k0 2) (k 2) (k0 9) (k 9) ∧ (∀ l, k0 9 ≤ l → l < k 9 → stF_R f n2 n3 c r (k 3) (k 4) (k 5) (k 6) (k 7) (k 2) (k 9) l) ∧ ((fst = -1 ∧ lst = -1 ∧ k 9 = k0 9) ∨ (fst = nI (k0 9) ∧ ∃ j, k0 9 ≤ j ∧ j < k 9 ∧ lst = nI j ∧ c.1 (445 + j) 1 = -1 ∧ r.1 989 j = -1))
/-- a line's next one told -/
theorem st_R.next {t e p l s m hi hi2 j : Nat} {Wc Wr : Nat → Nat → Prop} {x : Nat} (h : st_R n2 n3 c r t e p l s m hi ln) (fc : l2_fr (fun b j => b = 445 + ln ∧ j = 1) c c') (fr : l2_fr (fun b j => b = 989 ∧ j = ln) r r') (vc : c'.1 (445 + ln) 1 = nI x) (vr : r'.1 989 ln = nI x) (hx : ln < x ∧ x < hi) (hh : hi ≤ 400) : st_R n2 n3 c' r' t e p l s m hi ln := by
  obtain ⟨f, td, v, so, K, V, x1, x2, x3, x4, x5, x6, x7, x8, ⟨x9, x9'⟩, x10, x11, x12, x13⟩ := h
  have cc : ∀ j, j ≠ 1 → c'.1 (445 + ln) j = c.1 (445 + ln) j := fun j y => (fc _ j (fun z => y z.2)).1
  have rr : ∀ y, y ≠ 989 → r'.1 y ln = r.1 y ln := fun y z => (fr y ln (fun w => z w.1)).1
  have kk : mK n2 n3 r r' := mK.of fr (fun b j y => by omega)
  have w1 : cp_c (fun b j => b = 445 + ln ∧ j = 1) t e p l := fun b j y => by omega
  have w2 : cp_r (fun b j => b = 989 ∧ j = ln) m s := fun b j y => by omega
  refine ⟨f, td, v, so, K, V, x1, by rw [rr 1001 (by decide)]; exact x2, by rw [rr 1002 (by decide)]; exact x3, x4.mono kk (Nat.le_refl _) (Nat.le_refl _), by rw [cc 0 (by decide)]; exact x5, by rw [rr 988 (by decide)]; exact x6, by rw [rr 1000 (by decide)]; exact x7, ⟨by rw [vc, vr], by rw [vc]; exact Or.inr ⟨x, hx.1, hx.2, rfl⟩⟩, ⟨by rw [cc 2 (by decide), rr 990 (by decide)]; exact x9, by rw [cc 2 (by decide)]; exact x9'⟩, ⟨by rw [cc 3 (by decide), rr 998 (by decide)]; exact x10.1, by rw [cc 3 (by decide)]; exact x10.2⟩, ⟨by rw [cc 4 (by decide), rr 999 (by decide)]; exact x11.1, by rw [cc 4 (by decide)]; exact x11.2⟩, fun y => ?_, x13.fr fc fr w1 w2 kk (Nat.le_refl _) (Nat.le_refl _) ⟨Nat.le_refl _, Nat.le_refl _, Nat.le_refl _, Nat.le_refl _, Nat.le_refl _, Nat.le_refl _⟩ (fun j y => cc j (by omega)) (fun y y1 y2 y3 => rr y (by omega)) (fun cnt _ _ _ _ _ => (fc 443 _ (by omega)).1)⟩
  rw [cc 11 (by decide), rr 997 (by decide)]
  exact (x12 y).elim Or.inl (fun z => Or.inr (z.fr fc fr w1 w2 kk (Nat.le_refl _) (Nat.le_refl _) ⟨Nat.le_refl _, Nat.le_refl _, Nat.le_refl _, Nat.le_refl _, Nat.le_refl _, Nat.le_refl _⟩))
theorem stF_R.next {t e p l s m hi hi2 j : Nat} {Wc Wr : Nat → Nat → Prop} {x : Nat} (h : stF_R f n2 n3 c r t e p l s m hi ln) (fc : l2_fr (fun b j => b = 445 + ln ∧ j = 1) c c') (fr : l2_fr (fun b j => b = 989 ∧ j = ln) r r') (vc : c'.1 (445 + ln) 1 = nI x) (vr : r'.1 989 ln = nI x) (hx : ln < x ∧ x < hi) (hh : hi ≤ 400) : stF_R f n2 n3 c' r' t e p l s m hi ln := ⟨st_R.next (Wc := Wc) (Wr := Wr) (hi2 := hi2) (j := j) h.1 fc fr vc vr hx hh, by rw [(fr 1001 ln (by omega)).1]; exact h.2⟩
/-- one statement or branch more -/
theorem bI.more (h : bI P nt f n2 n3 Y n ka a g k0 c0 r0 fst lst n' L' k c r) (q : so_G P nt f n2 n3 Y n' L' ka a g k c r c' r') (hf : f < n3) : ∃ k' n'' L'', k 9 < k' 9 ∧ k 0 < k' 0 ∧ (fst = -1 → bI P nt f n2 n3 Y n ka a g k0 c0 r0 (nI (k 9)) (nI (k 9)) n'' L'' k' c' r') ∧ (∀ j, j < 400 → fst ≠ -1 → lst = nI j → k0 9 ≤ j ∧ j < k 9 ∧ bI P nt f n2 n3 Y n ka a g k0 c0 r0 fst (nI (k 9)) n'' L'' k' (t_setI c' (445 + j) 1 (nI (k 9))) (t_setI r' 989 j (nI (k 9)))) := by
  obtain ⟨S, ⟨hn, h0, g0⟩, fc0, fr0, kk0, m0, ls0, hh⟩ := h
  obtain ⟨k', n'', L'', x0, x9, S', xn, o, C, R, kk, m, ls, n1, n989⟩ := q
  have o' := o
  obtain ⟨o0, o1, o2, o3, o4, o5, o6, o7, o8, o9⟩ := o'
  have g0' := g0
  obtain ⟨g00, g01, g02, g03, g04, g05, g06, g07, g08, g09⟩ := g0'
  have s9 : k' 9 ≤ 400 := S'.1.2.2.2.2.2.2.2.2.2.2.2.2.2
  have hrow : ∀ b j, b < k 9 → c'.1 (445 + b) j = c.1 (445 + b) j := fun b j b2 => (C _ j (by unfold sf_Wc xWc; omega)).1
  have rrow : ∀ x l, 988 ≤ x → x ≤ 1002 → l < k 9 → r'.1 x l = r.1 x l := fun x l x1 x2 hl => (R x l (by unfold sf_Wr xWr; omega)).1
  have hV : ∀ f' td cnt, f' < n3 → f' < 40 → td < cnt → cnt ≤ 8 → r.1 986 f' = nI cnt → c'.1 443 (8 * f' + td) = c.1 443 (8 * f' + td) := fun f' td cnt x1 x2 x3 x4 x5 => (C 443 _ (fun y => by
    have y : (443 = 442 ∨ 443 = 443) ∧ 8 * f + n' ≤ 8 * f' + td ∧ 8 * f' + td < 8 * f + 8 := by
      unfold sf_Wc xWc at y
      omega
    have e : f' = f := by omega
    subst e
    have := (nI_eq (by omega) (by have := S.2.1.1; omega)).mp (x5.symm.trans S.2.1.2.2.1)
    omega)).1
  have mm : mB False n2 n3 c0 c' r' (k0 6) (k' 6) (k0 8) (k' 8) (k0 2) (k' 2) (k0 9) (k' 9) := m0.trans m ⟨g06, o6⟩ ⟨g08, o8⟩ ⟨g02, o2⟩ ⟨g09, o9⟩ (sf_mL C) (fun j j1 j2 => by
      have e : ∀ b, (955 ≤ b ∧ b ≤ 962) ∨ b = 1003 → r'.1 b j = r.1 b j ∧ r'.2.1 b j = r.2.1 b j := fun b y => by
        have := R b j (fun z => (sf_cr b j z).1 ⟨by omega, j2⟩)
        exact ⟨this.1, this.2.1⟩
      exact ⟨(e 955 (by omega)).1, (e 956 (by omega)).1, (e 962 (by omega)).1, (e 1003 (by omega)).1, (e 957 (by omega)).2, (e 958 (by omega)).2, fun _ => (e 961 (by omega)).1⟩) (fun s s1 s2 x x1 x2 _ => rrow x s x1 x2 s2) kk (Nat.le_refl _) (Nat.le_refl _) (by have := (S'.1.1.mle (by decide)).1; omega)
  have lall : ∀ l, k0 9 ≤ l → l < k' 9 → stF_R f n2 n3 c' r' (k' 3) (k' 4) (k' 5) (k' 6) (k' 7) (k' 2) (k' 9) l := fun l l1 l2 => by
    by_cases z : l < k 9
    · exact (ls0 l l1 z).fr C R sf_cp sf_cr kk (Nat.le_refl _) (Nat.le_refl _) ⟨o3, o4, o5, o6, o7, o2⟩ o9 (fun j => hrow l j z) (fun x x1 x2 => rrow x l x1 x2 z) hV
    · exact ls l (by omega) l2
  have FC : l2_fr (sf_Wc f n k0 (k0 9)) c0 c' := fc0.trans (C.mono (fun b j y => y.sub g0 hn g09))
  have FR : l2_fr (sf_Wr f n k0 (k0 9)) r0 r' := fr0.trans (R.mono (fun b j y => y.sub g0 hn g09))
  refine ⟨k', n'', L'', x9, x0, fun e => ⟨S', ⟨Nat.le_trans hn xn, Nat.le_trans h0 (Nat.le_of_lt x0), g0.trans o⟩, FC, FR, mK.trans kk0 kk, mm, lall, ?_⟩, fun j j400 e el => ?_⟩
  · rcases hh with ⟨h1, h2, h3⟩ | ⟨h1, _⟩
    · refine Or.inr ⟨by rw [h3], k 9, g09, x9, rfl, n1, n989⟩
    · rw [e] at h1
      exact absurd (show nI (k0 9) < 0 by rw [← h1]; decide) (nI_pos (by omega))
  · rcases hh with ⟨h1, _⟩ | ⟨h1, j', j1, j2, j3, j4, j5⟩
    · exact absurd h1 e
    have ej : j = j' := (nI_eq (by omega) (by omega)).mp (el.symm.trans j3)
    subst ej
    have fc : l2_fr (fun b i => b = 445 + j ∧ i = 1) c' (t_setI c' (445 + j) 1 (nI (k 9))) := l2_fr.set ⟨rfl, rfl⟩
    have vc : (t_setI c' (445 + j) 1 (nI (k 9))).1 (445 + j) 1 = nI (k 9) := by simp only [l2_gI, reduceIte]
    have fr : l2_fr (fun b i => b = 989 ∧ i = j) r' (t_setI r' 989 j (nI (k 9))) := l2_fr.set ⟨rfl, rfl⟩
    have vr : (t_setI r' 989 j (nI (k 9))).1 989 j = nI (k 9) := by simp only [l2_gI, reduceIte]
    refine ⟨j1, j2, ?_⟩
    generalize t_setI c' (445 + j) 1 (nI (k 9)) = c2 at *
    generalize t_setI r' 989 j (nI (k 9)) = r2 at *
    have S2 := (S'.cell (n2 := n2) (ln := j) (A := fun _ => True) (B := fun _ => True) (by omega) (fc.mono (fun b i y => ⟨y.1, by omega⟩)) (fr.mono (fun b i y => Or.inl ⟨by omega, by omega, y.2⟩)) (fun _ _ y => absurd trivial y) (fun _ _ _ y => absurd trivial y)).1
    have kk2 : mK n2 n3 r' r2 := mK.of fr (fun b i y => by omega)
    have w1 : cp_c (fun b i => b = 445 + j ∧ i = 1) (k' 3) (k' 4) (k' 5) (k' 6) := fun b i y => by omega
    have w2 : cp_r (fun b i => b = 989 ∧ i = j) (k' 2) (k' 7) := fun b i y => by omega
    refine ⟨S2, ⟨Nat.le_trans hn xn, Nat.le_trans h0 (Nat.le_of_lt x0), g0.trans o⟩, FC.trans (fc.mono (fun b i y => Or.inr (Or.inr (Or.inr (Or.inr (by omega)))))), FR.trans (fr.mono (fun b i y => Or.inr (Or.inr (Or.inr (Or.inr (by omega)))))), mK.trans (mK.trans kk0 kk) kk2, mm.cap fc fr (t := k' 3) (e := k' 4) (p := k' 5) (s := k' 7) w1 w2 ⟨by omega, by omega⟩ (fun i => by omega) (fun b i x1 x2 x3 _ _ y => x3 y.1) kk2 (Nat.le_refl _) (Nat.le_refl _), fun l l1 l2 => ?_, Or.inr ⟨h1, k 9, g09, x9, rfl, ?_, ?_⟩⟩
    · by_cases z : l = j
      · rw [z]
        exact stF_R.next (Wc := fun _ _ => False) (Wr := fun _ _ => False) (hi2 := 0) (j := 0) (lall j j1 (by omega)) fc fr vc vr ⟨j2, x9⟩ s9
      · exact (lall l l1 l2).fr fc fr w1 w2 kk2 (Nat.le_refl _) (Nat.le_refl _) ⟨Nat.le_refl _, Nat.le_refl _, Nat.le_refl _, Nat.le_refl _, Nat.le_refl _, Nat.le_refl _⟩ (Nat.le_refl _) (fun i => (fc _ i (by omega)).1) (fun y y1 y2 => (fr y l (by omega)).1) (fun f' td cnt _ _ _ _ _ => (fc 443 _ (by omega)).1)
    · rw [(fc _ 1 (by omega)).1]; exact n1
    · rw [(fr 989 _ (by omega)).1]; exact n989
end
