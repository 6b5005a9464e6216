/-! Level 2: VAR as a statement: from its := on. -/
section
variable {P : pc_S} {nt : Nat → Nat} {f n n' n2 n3 Y X a g f2 p0 ln so K V : Nat} {L L' v : Nat → Nat} {ka : Int32} {k k0 k1 k2 k' : Nat → Nat} {c0 r0 c r c1 r1 c2 r2 c' r' : t_S} {A B A' B' : Nat → Prop} {E : en_S}
/-- in a function, a place told but not yet counted -/
def vz (P : pc_S) (nt : Nat → Nat) (f n2 Y n : Nat) (L : Nat → Nat) (X : Nat) (ka : Int32) (a g : Nat) (k : Nat → Nat) (c r : t_S) : Prop := mp P nt (k 0) (k 1) (k 2) a g (k 3) (k 4) (k 5) (k 6) (k 7) (k 8) (k 9) (nI f) (-1) ka c r ∧ (n < 8 ∧ c.1 440 f = nI n ∧ r.1 986 f = nI (n + 1) ∧ rw_L c r 442 984 (8 * f) n L ∧ X < 7934 ∧ c.1 442 (8 * f + n) = nI (66 + X) ∧ r.1 984 (8 * f + n) = nI X) ∧ fh_R c r f n2 Y ka ∧ f < 40 ∧ r.1 950 33 = nI (2000 + f) ∧ r.1 950 34 = nI n
theorem vz.en (h : vz P nt f n2 Y n L X ka a g k c r) (hV : en_V n 1 L v) : en (E_f f n v) c r := by
  obtain ⟨⟨_, _, _, ⟨_, _, v3, v4, v5, v6, v7⟩, _, _⟩, ⟨w1, w2, w3, w4, _⟩, _, hf, h33, h34⟩ := h
  refine ⟨?_, h33, by omega, h34, by omega, v6, ?_, v7, by decide, Or.inr (Or.inl ⟨f, n, L, hf, v3, v4, w2, ⟨by omega, fun i hi => ⟨(w4 i hi).1, (w4 i hi).2.1⟩⟩, hV⟩)⟩
  · unfold f_X6_home
    rw [v3, if_neg (nI_pos (by omega))]
  · rw [if_neg (by omega)]
theorem vz.mE (h : vz P nt f n2 Y n L X ka a g k c r) (hV : en_V n 1 L v) (hf : f < n3) {b2 : Nat} : mE b2 n3 r (E_f f n v) := by
  obtain ⟨_, ⟨w1, w2, w3, w4, _⟩, _, hf', _⟩ := h
  exact ⟨rfl, Or.inr (Or.inr ⟨f, L, n + 1, hf, hf', rfl, rfl, rfl, by omega, w3, Nat.le_succ _, fun i hi => ⟨(w4 i hi).1, (w4 i hi).2.2⟩, hV⟩)⟩
theorem vz.lk (h : vz P nt f n2 Y n L X ka a g k c r) : LK c := by
  obtain ⟨⟨J, _, ⟨_, _, _, _, _, k6, _⟩, _, _, ⟨_, _, b3, _⟩⟩, _⟩ := h
  exact ⟨k 6, by have := J.cle; omega, k6⟩
noncomputable def vrC (ln : Nat) (x : Int32) (s : t_S) : Option t_S := (f_X6_readExp (-1) s).bind (fun r5 => t_let (t_setI r5.2 (445 + ln) 5 r5.1) (fun s1 => t_let (t_setI s1 (445 + ln) 7 x) (fun s2 => if t_ix (s2.1 845 12) 40 = true then t_let (t_setI s2 440 ((s2.1 845 12).toNatClampNeg) (s2.1 440 ((s2.1 845 12).toNatClampNeg) + 1)) (fun s3 => some s3) else none)))
noncomputable def vlE (ln f : Nat) (s : t_S) : Option t_S := (f_X13_exp s).bind (fun r5 => t_let (t_setI r5.2 995 ln r5.1) (fun s4 => if t_ix (nI f) 40 = true then t_let (t_setI s4 950 34 (s4.1 986 ((nI f).toNatClampNeg))) (fun s5 => some s5) else none))
theorem vz_tail (S : vz P nt f n2 Y n L X ka a g k c r) (h32 : r.1 950 32 = 0) (hV : en_V n 1 L v) (hl : ln < 400) (hf : f < n3) (gc : l2_fr mo_Wc c0 c) (gr' : l2_fr mo_Wr r0 r) : t_h2 (vrC ln (nI n) c) (vlE ln f r) (fun c' r' => (∃ k' : Nat → Nat, fs P nt f n2 Y (n + 1) (va_up L n X) ka a g k' c' r' ∧ k' 9 = k 9 ∧ k 0 < k' 0 ∧ sn n2 n3 f n ln (fun j => j = 5 ∨ j = 7) (fun x => x = 995) k c r k' c' r' ∧ mB False n2 n3 c c' r' (k 6) (k' 6) (k 8) (k' 8) (k 2) (k' 2) ln ln ∧ sx_R n2 n3 (E_f f n v) c' r' (k' 3) (k' 4) (k' 5) (k' 6) (k' 7) (k' 2) (c'.1 (445 + ln) 5) (r'.1 995 ln) ∧ c'.1 (445 + ln) 7 = nI n ∧ c'.1 443 (8 * f + n) = c.1 443 (8 * f + n) ∧ r'.1 986 f = nI (n + 1) ∧ r'.1 984 (8 * f + n) = nI X) ∨ ∃ f2 p0, zS f f2 p0 c0 c' ∧ rS P f f2 p0 r0 r') := by
  unfold vrC vlE
  have hf40 := S.2.2.2.1
  obtain ⟨y, y', e1, e2, hx1, h⟩ := ew_exp S.1 (S.en hV) h32
  rw [e1, e2, l2_bs, l2_bs]
  refine h2_lL (h2_lR (h2_lL ?_))
  obtain ⟨yv, c1⟩ := y
  obtain ⟨yv', r1⟩ := y'
  have hx1 : yv = nI (k 4) := hx1
  subst hx1
  show t_h2 (if t_ix ((t_setI (t_setI c1 (445 + ln) 5 (nI (k 4))) (445 + ln) 7 (nI n)).1 845 12) 40 = true then _ else none) (if t_ix (nI f) 40 = true then t_let (t_setI (t_setI r1 995 ln yv') 950 34 ((t_setI r1 995 ln yv').1 986 ((nI f).toNatClampNeg))) (fun s5 => some s5) else none) _
  have f3 : l2_fr (fun b i => b = 445 + ln ∧ (i = 5 ∨ i = 7)) c1 (t_setI (t_setI c1 (445 + ln) 5 (nI (k 4))) (445 + ln) 7 (nI n)) := (l2_fr.set (W := fun b i => b = 445 + ln ∧ (i = 5 ∨ i = 7)) ⟨rfl, Or.inl rfl⟩).trans (l2_fr.set (W := fun b i => b = 445 + ln ∧ (i = 5 ∨ i = 7)) ⟨rfl, Or.inr rfl⟩)
  have v5 : (t_setI (t_setI c1 (445 + ln) 5 (nI (k 4))) (445 + ln) 7 (nI n)).1 (445 + ln) 5 = nI (k 4) := by simp only [l2_gI, Nat.reduceEqDiff, reduceIte, ite_self]
  have v7 : (t_setI (t_setI c1 (445 + ln) 5 (nI (k 4))) (445 + ln) 7 (nI n)).1 (445 + ln) 7 = nI n := by simp only [l2_gI, reduceIte]
  have f4 : l2_fr (fun b i => b = 995 ∧ i = ln) r1 (t_setI r1 995 ln yv') := l2_fr.set ⟨rfl, rfl⟩
  have v4 : (t_setI r1 995 ln yv').1 995 ln = yv' := by simp only [l2_gI, reduceIte]
  have zz : ∀ f2 p0, zS f f2 p0 c0 c1 → zS f f2 p0 c0 (t_setI (t_setI c1 (445 + ln) 5 (nI (k 4))) (445 + ln) 7 (nI n)) := fun f2 p0 z => (z.set (by unfold mo_Wc; omega) (by omega)).set (by unfold mo_Wc; omega) (by omega)
  generalize t_setI (t_setI c1 (445 + ln) 5 (nI (k 4))) (445 + ln) 7 (nI n) = c2 at *
  generalize t_setI r1 995 ln yv' = r2 at *
  rw [if_pos (show t_ix (nI f) 40 = true from l2_ix hf40 (by decide)), nI_clamp (n := f) (by omega)]
  have s12 : c.1 845 12 = nI f := S.1.2.2.2.1.2.2.1
  rcases h with ⟨nd, hy, u', q', m', t', e', p', l', s', i', G⟩ | ⟨f2, p0, B1, B2, B3⟩
  rotate_left
  · have B1 : mF f2 p0 c1 := B1
    have B2 : l2_fr (xWc (k 3) (k 4) (k 5) (k 6) 0 0) c c1 := B2
    have z1 : zS f f2 p0 c0 c1 := ⟨⟨B1, gc.trans (mo_xc (B2.mono (fun b j y => y.sub (Nat.zero_le _) (Nat.zero_le _) (Nat.zero_le _) (Nat.zero_le _) (Nat.le_refl _) (Nat.zero_le _))))⟩, S.lk.exp _ _ e1, by rw [(B2 845 12 (by unfold xWc; omega)).1]; exact s12⟩
    have r1' : rS P f f2 p0 r0 r1 := ⟨B3.ry gr', by rw [(B3.fr0 950 33 (by unfold xWr; omega)).1]; exact S.2.2.2.2.1⟩
    have z2 := zz f2 p0 z1
    have z12 := z2.2.2
    have r2' : rS P f f2 p0 r0 r2 := r1'.fr f4 (fun b j y => by unfold mo_Wr; omega) (fun j y => by omega) (fun b i _ _ => by omega)
    rw [z12, if_pos (l2_ix hf40 (by decide)), nI_clamp (n := f) (by omega)]
    exact h2_lL (h2_lR (h2_sm (Or.inr ⟨f2, p0, z2.set (by unfold mo_Wc; omega) (by omega), r2'.set (by unfold mo_Wr; omega) (by omega)⟩)))
  have hy : yv' = nI nd := hy
  subst hy
  obtain ⟨⟨o1, o2, o3, o4, o5, o6, o7, o8, o9⟩, M, eb, g4, g5, gz, g6, g7, g8, g9, g32, gE⟩ := G
  have c12 : c2.1 845 12 = nI f := by rw [(f3 845 12 (by omega)).1, (g4 845 12 (by unfold xWc; omega)).1]; exact s12
  obtain ⟨⟨w1, w2, w3, w4, wX, w5, w6⟩, wh, _, w33, w34⟩ := S.2
  have c40 : c2.1 440 f = nI n := by rw [(f3 440 f (by omega)).1, (g4 440 f (by unfold xWc; omega)).1]; exact w2
  have r86 : r2.1 986 f = nI (n + 1) := by rw [(f4 986 f (by omega)).1, (g5 986 f (by unfold xWr; omega)).1]; exact w3
  rw [c12, if_pos (l2_ix hf40 (by decide)), nI_clamp (n := f) (by omega), c40, r86, nI_1]
  refine h2_lL (h2_lR (h2_sm (Or.inl ?_)))
  have f5 : l2_fr (fun b i => b = 440 ∧ i = f) c2 (t_setI c2 440 f (nI (n + 1))) := l2_fr.set ⟨rfl, rfl⟩
  have v40 : (t_setI c2 440 f (nI (n + 1))).1 440 f = nI (n + 1) := by simp only [l2_gI, reduceIte]
  have f6 : l2_fr (fun b i => b = 950 ∧ i = 34) r2 (t_setI r2 950 34 (nI (n + 1))) := l2_fr.set ⟨rfl, rfl⟩
  have v34 : (t_setI r2 950 34 (nI (n + 1))).1 950 34 = nI (n + 1) := by simp only [l2_gI, reduceIte]
  generalize t_setI c2 440 f (nI (n + 1)) = c3 at *
  generalize t_setI r2 950 34 (nI (n + 1)) = r3 at *
  have C13 : l2_fr (fun b i => (b = 445 + ln ∧ (i = 5 ∨ i = 7)) ∨ (b = 440 ∧ i = f)) c1 c3 := (f3.mono (fun b i y => Or.inl y)).trans (f5.mono (fun b i y => Or.inr y))
  have R13 : l2_fr (fun b i => (b = 995 ∧ i = ln) ∨ (b = 950 ∧ i = 34)) r1 r3 := (f4.mono (fun b i y => Or.inl y)).trans (f6.mono (fun b i y => Or.inr y))
  have C03 : l2_fr (fun b i => xWc (k 3) (k 4) (k 5) (k 6) 0 0 b i ∨ (b = 445 + ln ∧ (i = 5 ∨ i = 7)) ∨ (b = 440 ∧ i = f)) c c3 := (g4.mono (fun b i y => Or.inl y)).trans (C13.mono (fun b i y => Or.inr y))
  have R03 : l2_fr (fun b i => xWr (k 2) (k 7) b i ∨ (b = 995 ∧ i = ln) ∨ (b = 950 ∧ i = 34)) r r3 := (g5.mono (fun b i y => Or.inl y)).trans (R13.mono (fun b i y => Or.inr y))
  have J3 : pj P u' 0 0 q' m' c3 r3 := M.1.fr C13 R13 (fun j => by omega) (fun b i _ _ => by omega) (fun b i _ _ => by omega) (by omega) (fun j _ => by omega) (fun b i _ _ => by omega)
  have M3 : mp P nt u' q' m' a g t' (e' + 1) p' l' s' i' (k 9) (nI f) (-1) ka c3 r3 := M.go (Nat.le_refl _) (Nat.le_refl _) J3 C13 R13 (fun b j y => by omega) (fun b j y => by omega)
  have kk1 : mK n2 n3 r r1 := mK.of g5 (fun b j y => by unfold xWr; omega)
  have kk3 : mK n2 n3 r1 r3 := mK.of R13 (fun b j y => by omega)
  have mE0 : mE n2 n3 r (E_f f n v) := S.mE hV hf
  have tt := g6.at
  refine ⟨ck u' q' m' t' (e' + 1) p' l' s' i' (k 9), ⟨M3, ⟨by omega, v40, ?_, rw_L.add (w4.fr C03 R03 (fun i hi => ?_) (fun i hi => ?_)) wX ?_ ?_⟩, wh.fr C03 R03 (fun b j _ _ => by unfold xWc; omega) (fun b j y => by unfold xWr; omega), hf40, ?_, v34⟩, rfl, o1, ⟨?_, C03.mono (fun b j y => ?_), R03.mono (fun b j y => ?_), fun j hj y => ?_, fun x x1 x2 y => ?_, kk1.trans kk3⟩, ?_, ?_, ?_, ?_, ?_, ?_⟩
  · rw [(R13 986 f (by omega)).1, (g5 986 f (by unfold xWr; omega)).1]; exact w3
  · unfold xWc; omega
  · unfold xWr; omega
  · rw [(C03 442 _ (by unfold xWc; omega)).1]; exact w5
  · rw [(R03 984 _ (by unfold xWr; omega)).1]; exact w6
  · rw [(R03 950 33 (by unfold xWr; omega)).1]; exact w33
  · show k 0 ≤ u' ∧ k 1 ≤ q' ∧ k 2 ≤ m' ∧ k 3 ≤ t' ∧ k 4 ≤ e' + 1 ∧ k 5 ≤ p' ∧ k 6 ≤ l' ∧ k 7 ≤ s' ∧ k 8 ≤ i' ∧ k 9 ≤ k 9
    omega
  · rcases y with y | y | y
    · exact Or.inl y
    · exact Or.inr (Or.inr (Or.inr (Or.inr (by omega))))
    · exact Or.inr (Or.inr (Or.inl y))
  · rcases y with y | y | y
    · exact Or.inl y
    · exact Or.inr (Or.inr (Or.inr (Or.inr (by omega))))
    · exact Or.inr (Or.inl (by omega))
  · exact (C03 _ j (by unfold xWc; omega)).1
  · exact (R03 x ln (by unfold xWr; omega)).1
  · have m1 := mB.ofX (zT := False) g7 (mE0.mono kk1 (Nat.le_refl _) (Nat.le_refl _)) (fun j => (g4 7 j (by unfold xWc; omega)).1) ln
    exact mB.cap m1 C13 R13 (t := 0) (e := 0) (p := 0) (s := 0) (fun b i y => by omega) (fun b i y => by omega) ⟨by omega, by omega⟩ (fun i => by omega) (fun b i _ _ _ y1 y2 => by omega) kk3 (Nat.le_refl _) (Nat.le_refl _)
  · refine ⟨k 4, e', k 3, nd, by rw [(f5 _ 5 (by omega)).1]; exact v5, by rw [(f6 995 ln (by omega)).1]; exact v4, Nat.le_refl _, ?_, ?_⟩
    · obtain ⟨z1, z2⟩ := gz rfl
      exact ⟨by rw [(C13 335 _ (by omega)).1]; exact z1, by rw [(C13 336 _ (by omega)).1]; exact z2⟩
    · have xx : xe_R n2 n3 (E_f f n v) c1 r1 t' (e' + 1) p' l' s' m' 0 0 (k 4) e' (k 3) nd := ⟨mE0.mono kk1 (Nat.le_refl _) (Nat.le_refl _), tt.1, Nat.le_add_right _ _, tt.2.2.2, t', k 6, l', k 2, m', p', s', m' - k 2, ⟨Nat.le_refl _, Nat.le_refl _, Nat.le_refl _, Nat.le_refl _, Nat.le_refl _⟩, g6⟩
      exact xx.fr C13 R13 (fun b i y => by omega) (fun b i y => by omega) kk3 (Nat.le_refl _) (Nat.le_refl _) ⟨Nat.le_refl _, Nat.le_refl _, Nat.le_refl _, Nat.le_refl _, Nat.le_refl _, Nat.le_refl _⟩
  · rw [(f5 _ 7 (by omega)).1]; exact v7
  · rw [(C03 443 _ (by unfold xWc; omega)).1]
  · rw [(R13 986 f (by omega)).1, (g5 986 f (by unfold xWr; omega)).1]; exact w3
  · rw [(R03 984 _ (by unfold xWr; omega)).1]; exact w6
end
