/-! Level 2: the steps of a statement: a word that is linked, an exp. -/
/-- a link of line ln, the e-th -/
def wx_R (c r : t_S) (f ln e so side : Nat) (spot ex : Int32) (X pl : Nat) : Prop := X < 7934 ∧ pl ≤ 12000 ∧ hi_e c e (nI so) X pl (nI f) spot ex ∧ r.1 (991 + 2 * side) ln = nI X ∧ r.1 (992 + 2 * side) ln = nI pl
theorem wx_R.wl {c r : t_S} {f ln e so side l X pl : Nat} {spot ex : Int32} (h : wx_R c r f ln e so side spot ex X pl) (he : e < l) : wl_R c r f ln l so side spot ex := ⟨e, X, pl, he, h.1, h.2.1, h.2.2.1, h.2.2.2⟩
theorem wx_R.fr {c r c' r' : t_S} {f ln e so side X pl n : Nat} {spot ex : Int32} {k : Nat → Nat} (h : wx_R c r f ln e so side spot ex X pl) (fc : l2_fr (sf_Wc f n k ln) c c') (he : e < k 6) (hs : side ≤ 1) (hr : ∀ x, 991 ≤ x → x ≤ 994 → r'.1 x ln = r.1 x ln) : wx_R c' r' f ln e so side spot ex X pl := ⟨h.1, h.2.1, h.2.2.1.fr (fun b x1 x2 => sf_mL fc b e x1 x2 he), by rw [hr _ (by omega) (by omega)]; exact h.2.2.2.1, by rw [hr _ (by omega) (by omega)]; exact h.2.2.2.2⟩
/-- .. as a piece of what is brought -/
theorem wx_R.mB {c0 c r : t_S} {f ln e so side X pl K V n2 n3 : Nat} {spot ex : Int32} (h : wx_R c r f ln e so side spot ex X pl) (hf : f < 40) (hK : K < 30 ∧ V < 10 ∧ so < 20) (hr : r.1 988 ln = nI K ∧ r.1 1000 ln = sl_v V ∧ r.1 1001 ln = nI f) (ok : sl_ok K V so side) (q : sq c0 c) (i m st st' : Nat) (h1 : st ≤ ln ∧ ln < st') (h2 : ∀ s, st ≤ s → s < st' → r.1 988 s ≠ 2) (sp : (spot = nI ln ∧ so ≠ 1) ∨ (so = 1 ∧ ∃ x : Nat, x < 320 ∧ spot = nI x)) : mB False n2 n3 c0 c r e (e + 1) i i m m st st' := by
  obtain ⟨q1, q2, q3⟩ := q
  refine ⟨fun k a b => by omega, fun e' a b => ?_, fun S hS => (hS.same q1 q2).iff (fun x => ⟨Or.inl, fun y => y.elim id (fun ⟨k, k1, k2, _⟩ => by omega)⟩), ⟨fun _ => 0, fun k a b => by omega⟩, fun x hx => ?_, fun s s1 s2 s3 => absurd s3 (h2 s s1 s2)⟩
  · have e1 : e' = e := by omega
    rw [e1]
    exact Or.inr (Or.inr (Or.inr (Or.inr ⟨ln, h1.1, h1.2, K, V, so, side, X, pl, f, spot, ex, hK.1, hK.2.1, hK.2.2, hr.1, hr.2.1, hr.2.2, hf, h.1, h.2.1, ok, h.2.2.1, h.2.2.2.1, h.2.2.2.2, sp⟩)))
  · rw [q3]
    exact ⟨Or.inl, fun y => y.elim id (fun ⟨k, k1, k2, _⟩ => by omega)⟩
section
variable {P : pc_S} {nt : Nat → Nat} {f n2 n3 Y n a g f2 p0 ln side : Nat} {L v : Nat → Nat} {ka : Int32} {k k1 k2 k' : Nat → Nat} {c0 r0 c r c1 r1 c' r' : t_S} {A B A' B' : Nat → Prop}
def lx (k : Nat → Nat) : Nat → Nat := ck (k 0 + 1) (k 1) (k 2) (k 3) (k 4) (k 5) (k 6 + 1) (k 7) (k 8) (k 9)
/-- the reference's word of a line -/
noncomputable def fw_W (side ln : Nat) (s : t_S) : Option t_S := t_let (t_setI s (992 + 2 * side) ln (s.1 950 6)) (fun s1 => (f_X13_freeName s1).bind (fun r2 => t_let (t_setI r2.2 (991 + 2 * side) ln r2.1) (fun s2 => (f_X13_next s2).bind (fun r3 => some r3))))
theorem fw_W0 (hl : ln < 400) (r : t_S) : f_X13_wordOf (nI ln) r = fw_W 0 ln r := by
  unfold f_X13_wordOf fw_W
  rw [if_pos (l2_ix (by omega) (by decide)), nI_clamp (n := ln) (by omega)]
theorem fw_W1 (hl : ln < 400) (r : t_S) : f_X13_into (nI ln) r = fw_W 1 ln r := by
  unfold f_X13_into fw_W
  rw [if_pos (l2_ix (by omega) (by decide)), nI_clamp (n := ln) (by omega)]
theorem yS.word (h : yS P f f2 p0 r0 r) (hs : side ≤ 1) : t_hk (fw_W side ln r) (yS P f f2 p0 r0) := by
  unfold fw_W
  refine l2_lt ?_
  have h2 := h.set (b := 992 + 2 * side) (j := ln) (x := r.1 950 6) (by unfold mo_Wr; omega) (by omega)
  refine l2_bd _ h2.name (fun x h3 => l2_lt ?_)
  have h4 := h3.set (b := 991 + 2 * side) (j := ln) (x := x.1) (by unfold mo_Wr; omega) (by omega)
  exact l2_bd _ h4.next (fun y h5 => l2_sm h5)
theorem fs_word {T U : Type} {F : t_S → Option T} {K : t_S → Option U} {Q : T → U → Prop} {so : Nat} {spot ex : Int32} (S : fs P nt f n2 Y n L ka a g k c r) (hl : ln < 400) (hs : side ≤ 1) (gc : l2_fr mo_Wc c0 c) (gr' : l2_fr mo_Wr r0 r) (hg : ∀ c' r' X pl, fs P nt f n2 Y n L ka a g (lx k) c' r' → (∀ n3, sn n2 n3 f n ln (fun _ => False) (fun x => x = 991 + 2 * side ∨ x = 992 + 2 * side) k c r (lx k) c' r') → sq c c' → wx_R c' r' f ln (k 6) so side spot ex X pl → c.2.1 1 10 = lN (66 + X) → r'.1 950 32 = r.1 950 32 → t_h2 (F c') (K r') Q) (hb : ∀ f2 p0 c' r', zS f f2 p0 c0 c' → yS P f f2 p0 r0 r' → t_h2 (F c') (K r') Q) : t_h2 ((f_X6_link (nI so) spot ex c).bind F) ((fw_W side ln r).bind K) Q := by
  unfold fw_W
  have f1 : l2_fr (fun b j => (988 ≤ b ∧ b ≤ 1002 ∧ j = ln) ∨ (b = 950 ∧ j = 32)) r (t_setI r (992 + 2 * side) ln (r.1 950 6)) := l2_fr.set (Or.inl ⟨by omega, by omega, rfl⟩)
  have f1' : l2_fr (fun b j => b = 992 + 2 * side ∧ j = ln) r (t_setI r (992 + 2 * side) ln (r.1 950 6)) := l2_fr.set ⟨rfl, rfl⟩
  have v1 : (t_setI r (992 + 2 * side) ln (r.1 950 6)).1 (992 + 2 * side) ln = r.1 950 6 := by simp only [l2_gI, reduceIte]
  show t_h2 _ (Option.bind (Option.bind (f_X13_freeName (t_setI r (992 + 2 * side) ln (r.1 950 6))) (fun r2 => t_let (t_setI r2.2 (991 + 2 * side) ln r2.1) (fun s2 => (f_X13_next s2).bind (fun r3 => some r3)))) K) Q
  generalize t_setI r (992 + 2 * side) ln (r.1 950 6) = r2 at *
  obtain ⟨S2, _, _⟩ := S.cell (A := fun _ => False) (B := fun x => x = 992 + 2 * side) hl (l2_fr.rf (s := c)) f1 (fun _ _ _ => rfl) (fun x a b y => (f1' x ln (fun z => y z.1)).1)
  have home : f_X6_home c = nI f := by
    unfold f_X6_home
    have h12 := S.1.2.2.2.1.2.2.1
    rw [h12, if_neg (nI_pos (by have := S.2.2.2.1; omega))]
  obtain ⟨c4, r4, e1, e2, h⟩ := hk_link (F := fun x => some x) (K := fun x => some x) (so := nI so) (spot := spot) (ex := ex) (S := fun v x => t_setI x (991 + 2 * side) ln v) (Wr := fun b j => b = 991 + 2 * side ∧ j = ln) (Q := fun c' r' => (∃ X pl r1, X < 7934 ∧ pl ≤ 12000 ∧ mp P nt (k 0 + 1) (k 1) (k 2) a g (k 3) (k 4) (k 5) (k 6 + 1) (k 7) (k 8) (k 9) (nI f) (-1) ka c' r' ∧ l2_fr (hi_Wc (k 6)) c c' ∧ l2_fr nm_W r2 r1 ∧ l2_fr rn_W (t_setI r1 (991 + 2 * side) ln (nI X)) r' ∧ hi_e c' (k 6) (nI so) X pl (f_X6_home c) spot ex ∧ r2.1 950 6 = nI pl ∧ c.2.1 1 10 = lN (66 + X)) ∨ (∃ f2 p0, mF f2 p0 c' ∧ l2_fr (hi_Wc (k 6)) c c' ∧ l2_fr (fun b j => (b = 991 + 2 * side ∧ j = ln) ∨ nk_W b j) r2 r' ∧ pr P f2 p0 r')) S2.1 (fun v x => l2_fr.set ⟨rfl, rfl⟩) (fun b j y => by omega) (fun X pl c' r1 r' hX hpl M fc f2 f3 he _ e6 e10 _ => h2_sm (Or.inl ⟨X, pl, r1, hX, hpl, M, fc, f2, f3, he, e6, e10⟩)) (fun f2 p0 c' r' y1 y2 y3 y4 => h2_sm (Or.inr ⟨f2, p0, y1, y2, y3, y4⟩))
  rw [bd_some] at e1
  have e2' : (f_X13_freeName r2).bind (fun r2 => t_let (t_setI r2.2 (991 + 2 * side) ln r2.1) (fun s2 => (f_X13_next s2).bind (fun r3 => some r3))) = some r4 := e2
  rw [e1, e2', l2_bs, l2_bs]
  have lk := pl_f_X6_link (x1 := nI so) (x2 := spot) (x3 := ex) S.lk c4 e1
  rcases h with ⟨X, pl, r3, hX, hpl, M, fc, g2, g3, he, e6, e10⟩ | ⟨f2, p0, y1, y2, y3, y4⟩
  · have f3 : l2_fr (fun b j => b = 991 + 2 * side ∧ j = ln) r3 (t_setI r3 (991 + 2 * side) ln (nI X)) := l2_fr.set ⟨rfl, rfl⟩
    have v3 : (t_setI r3 (991 + 2 * side) ln (nI X)).1 (991 + 2 * side) ln = nI X := by simp only [l2_gI, reduceIte]
    generalize t_setI r3 (991 + 2 * side) ln (nI X) = r5 at *
    have R : l2_fr (fun b j => nk_W b j ∨ ((b = 991 + 2 * side ∨ b = 992 + 2 * side) ∧ j = ln)) r r4 := (((f1'.mono (fun b j y => Or.inr ⟨Or.inr y.1, y.2⟩)).trans (g2.mono (fun b j y => Or.inl (Or.inr y)))).trans (f3.mono (fun b j y => Or.inr ⟨Or.inl y.1, y.2⟩))).trans (g3.mono (fun b j y => Or.inl (Or.inl y)))
    have cr : ∀ x, 988 ≤ x → x ≤ 1002 → ¬ (x = 991 + 2 * side ∨ x = 992 + 2 * side) → r4.1 x ln = r.1 x ln := fun x a b y => (R x ln (by unfold nk_W rn_W nm_W; omega)).1
    have ff : fs P nt f n2 Y n L ka a g (lx k) c4 r4 := ⟨M, S.2.1.fr fc R ⟨by unfold hi_Wc la_W; omega, fun i _ => by unfold hi_Wc la_W; omega⟩ ⟨by unfold nk_W rn_W nm_W; omega, fun i _ => by unfold nk_W rn_W nm_W; omega⟩, S.2.2.1.fr fc R (fun b j _ _ => by unfold hi_Wc la_W; omega) (fun b j y => by unfold nk_W rn_W nm_W; omega), S.2.2.2.1, by rw [(R 950 33 (by unfold nk_W rn_W nm_W; omega)).1]; exact S.2.2.2.2.1, by rw [(R 950 34 (by unfold nk_W rn_W nm_W; omega)).1]; exact S.2.2.2.2.2⟩
    refine hg c4 r4 X pl ff (fun n3 => ⟨?_, ?_, ?_, fun j _ _ => (fc _ _ (by unfold hi_Wc la_W; omega)).1, cr, mK.of R (fun b j y => by unfold nk_W rn_W nm_W; omega)⟩) (sq.of fc (fun b j y => by unfold hi_Wc la_W; omega)) ⟨hX, hpl, home ▸ he, ?_, ?_⟩ e10 (R 950 32 (by unfold nk_W rn_W nm_W; omega)).1
    · exact ⟨Nat.le_succ _, Nat.le_refl _, Nat.le_refl _, Nat.le_refl _, Nat.le_refl _, Nat.le_refl _, Nat.le_succ _, Nat.le_refl _, Nat.le_refl _, Nat.le_refl _⟩
    · refine fc.mono (fun b j y => ?_)
      rcases y with y | y | y
      · exact Or.inl (x_la y)
      · obtain ⟨rfl, rfl⟩ := y
        exact Or.inl (xWc.i846 (by decide))
      · exact Or.inl (xWc.iln y.1 y.2.1 y.2.2)
    · refine R.mono (fun b j y => ?_)
      rcases y with (y | y) | y
      · exact Or.inl (x_rn y)
      · exact Or.inl (x_nm y)
      · exact Or.inr (Or.inr (Or.inr (Or.inr (by omega))))
    · rw [(g3 _ ln (by unfold rn_W; omega)).1]; exact v3
    · rw [(g3 _ ln (by unfold rn_W; omega)).1, (f3 _ ln (by omega)).1, (g2 _ ln (by unfold nm_W; omega)).1, v1, ← e6, (f1' 950 6 (by omega)).1]
  · refine hb f2 p0 c4 r4 ⟨⟨y1, gc.trans (hi_mo y2)⟩, lk, ?_⟩ ⟨⟨y4, gr'.trans ((f1'.trans (l2_fr.rf)).mono (fun b j y => by unfold mo_Wr; omega) |>.trans (y3.mono (fun b j y => by unfold nk_W rn_W nm_W at y; unfold mo_Wr; omega)))⟩, ?_⟩
    · rw [(y2 845 12 (by unfold hi_Wc la_W; omega)).1]
      exact S.1.2.2.2.1.2.2.1
    · rw [(y3 950 33 (by unfold nk_W rn_W nm_W; omega)).1]
      exact S2.2.2.2.2.1
/-- an exp's piece -/
theorem fs_ew {E : en_S} {z fl nd : Nat} {lv : Int32} {u' q' m' t' e' p' l' s' i' : Nat} (S : fs P nt f n2 Y n L ka a g k c r) (G : ew_g P nt E fl lv z (k 0) (k 1) (k 2) a g (k 3) (k 4) (k 5) (k 6) (k 7) (k 8) (k 9) (nI f) (-1) ka c r nd c' r' u' q' m' t' e' p' l' s' i') (hE : ∀ n3, f < n3 → mE n2 n3 r E) (hl : ln < 400) (hz : z ≤ 1) : ∃ k', k' = ck u' q' m' t' (e' + z) p' l' s' i' (k 9) ∧ fs P nt f n2 Y n L ka a g k' c' r' ∧ r'.1 950 32 = 0 ∧ (∀ n3, sn n2 n3 f n ln (fun _ => False) (fun _ => False) k c r k' c' r') ∧ (k 0 < k' 0 ∧ 2 * e' + 1 + 3 * k 1 ≤ 2 * k 4 + 3 * q' ∧ k 1 < q') ∧ (∀ n3, f < n3 → (∀ st, mB False n2 n3 c c' r' (k 6) (k' 6) (k 8) (k' 8) (k 2) (k' 2) st st) ∧ xe_R n2 n3 E c' r' (k' 3) (k' 4) (k' 5) (k' 6) (k' 7) (k' 2) fl lv (k 4) e' (k 3) nd) ∧ (z = 1 → px_o c' e' 0 0) ∧ r'.1 960 nd = -1 ∧ (fl ≠ 0 → c'.1 356 (k 3) = -1) := by
  obtain ⟨⟨o1, o2, o3, o4, o5, o6, o7, o8, o9⟩, M, eb, g4, g5, gz, g6, g7, g8, g9, g32, gE⟩ := G
  have tt := g6.at
  have nc : ∀ b j, ¬ (la_W b j) → ¬ xWc (k 3) (k 4) (k 5) (k 6) 0 0 b j → c'.1 b j = c.1 b j := fun b j _ y => (g4 b j y).1
  have kk : ∀ n3, mK n2 n3 r r' := fun n3 => mK.of g5 (fun b j y => by unfold xWr; omega)
  refine ⟨_, rfl, ⟨M, S.2.1.fr g4 g5 ⟨by unfold xWc; omega, fun i _ => by unfold xWc; omega⟩ ⟨by unfold xWr; omega, fun i _ => by unfold xWr; omega⟩, S.2.2.1.fr g4 g5 (fun b j _ _ => by unfold xWc; omega) (fun b j y => by unfold xWr; omega), S.2.2.2.1, by rw [(g5 950 33 (by unfold xWr; omega)).1]; exact S.2.2.2.2.1, by rw [(g5 950 34 (by unfold xWr; omega)).1]; exact S.2.2.2.2.2⟩, g32, fun n3 => ⟨?_, g4.mono (fun b j y => Or.inl y), g5.mono (fun b j y => Or.inl y), fun j _ _ => (g4 _ _ (by unfold xWc; omega)).1, fun x _ _ _ => (g5 _ _ (by unfold xWr; omega)).1, kk n3⟩, ⟨o1, eb.2, o2⟩, fun n3 h3 => ⟨fun st => ?_, ?_⟩, gz, g8, g9⟩
  · show k 0 ≤ u' ∧ k 1 ≤ q' ∧ k 2 ≤ m' ∧ k 3 ≤ t' ∧ k 4 ≤ e' + z ∧ k 5 ≤ p' ∧ k 6 ≤ l' ∧ k 7 ≤ s' ∧ k 8 ≤ i' ∧ k 9 ≤ k 9
    omega
  · exact mB.ofX g7 ((hE n3 h3).mono (kk n3) (Nat.le_refl _) (Nat.le_refl _)) (fun j => (g4 7 j (by unfold xWc; omega)).1) st
  · exact ⟨(hE n3 h3).mono (kk n3) (Nat.le_refl _) (Nat.le_refl _), tt.1, Nat.le_add_right _ _, tt.2.2.2, t', k 6, l', k 2, m', p', s', m' - k 2, ⟨Nat.le_refl _, Nat.le_refl _, Nat.le_refl _, Nat.le_refl _, Nat.le_refl _⟩, g6⟩
/-- a whole exp of line ln: its first operation in column j, its node in row x -/
theorem fs_exp {T U : Type} {F : t_S → Option T} {K : t_S → Option U} {Q : T → U → Prop} {j x : Nat} (S : fs P nt f n2 Y n L ka a g k c r) (h32 : r.1 950 32 = 0) (hV : en_V n 1 L v) (hl : ln < 400) (hj : j < 12) (hx : 988 ≤ x ∧ x ≤ 1002) (gc : l2_fr mo_Wc c0 c) (gr' : l2_fr mo_Wr r0 r) (hg : ∀ k' c' r', fs P nt f n2 Y n L ka a g k' c' r' → r'.1 950 32 = 0 → k' 9 = k 9 → k 0 < k' 0 → (∀ x, k 4 + x ≤ 2 * k 1 + 2 * k 9 → k' 4 + x ≤ 2 * k' 1 + 2 * k' 9) → (∀ n3, sn n2 n3 f n ln (fun i => i = j) (fun y => y = x) k c r k' c' r') → (∀ n3, f < n3 → (∀ st, mB False n2 n3 c c' r' (k 6) (k' 6) (k 8) (k' 8) (k 2) (k' 2) st st) ∧ sx_R n2 n3 (E_f f n v) c' r' (k' 3) (k' 4) (k' 5) (k' 6) (k' 7) (k' 2) (c'.1 (445 + ln) j) (r'.1 x ln)) → t_h2 (F c') (K r') Q) (hb : ∀ f2 p0 c' r', zS f f2 p0 c0 c' → rS P f f2 p0 r0 r' → t_h2 (F c') (K r') Q) : t_h2 ((f_X6_readExp (-1) c).bind (fun y => t_let (t_setI y.2 (445 + ln) j y.1) F)) ((f_X13_exp r).bind (fun y => t_let (t_setI y.2 x ln y.1) K)) Q := by
  obtain ⟨y, y', e1, e2, hx1, h⟩ := ew_exp S.1 (S.en hV) h32
  rw [e1, e2, l2_bs, l2_bs]
  refine h2_lL (h2_lR ?_)
  obtain ⟨yv, c1⟩ := y
  obtain ⟨yv', r1⟩ := y'
  have hx1 : yv = nI (k 4) := hx1
  subst hx1
  show t_h2 (F (t_setI c1 (445 + ln) j (nI (k 4)))) (K (t_setI r1 x ln yv')) Q
  have f3 : l2_fr (fun b i => b = 445 + ln ∧ i = j) c1 (t_setI c1 (445 + ln) j (nI (k 4))) := l2_fr.set ⟨rfl, rfl⟩
  have v3 : (t_setI c1 (445 + ln) j (nI (k 4))).1 (445 + ln) j = nI (k 4) := by simp only [l2_gI, reduceIte]
  have f4 : l2_fr (fun b i => b = x ∧ i = ln) r1 (t_setI r1 x ln yv') := l2_fr.set ⟨rfl, rfl⟩
  have v4 : (t_setI r1 x ln yv').1 x ln = yv' := by simp only [l2_gI, reduceIte]
  rcases h with ⟨nd, hy, u', q', m', t', e', p', l', s', i', G⟩ | ⟨f2, p0, B1, B2, B3⟩
  · have hy : yv' = nI nd := hy
    subst hy
    obtain ⟨k', hk', S1, h32', sn1, kl, pc, gz, n960, _⟩ := fs_ew (ln := ln) S G (fun n3 h3 => S.mE hV h3) hl (by decide)
    generalize t_setI c1 (445 + ln) j (nI (k 4)) = c2 at *
    generalize t_setI r1 x ln (nI nd) = r2 at *
    obtain ⟨S2, sn2, q2⟩ := S1.cell (A := fun i => i = j) (B := fun y => y = x) hl (f3.mono (fun b i y => ⟨y.1, by omega⟩)) (f4.mono (fun b i y => Or.inl ⟨by omega, by omega, y.2⟩)) (fun i _ y => (f3 _ _ (fun z => y z.2)).1) (fun y _ _ z => (f4 _ _ (fun w => z w.1)).1)
    have nfc : l2_fr (fun _ _ => False) c1 c1 := l2_fr.rf
    refine hg k' c2 r2 S2 (by rw [(f4 950 32 (by omega)).1]; exact h32') (by rw [hk']; rfl) kl.1 (fun x hx => by rw [hk']; show e' + 1 + x ≤ 2 * q' + 2 * k 9; have := kl.2; omega) (fun n3 => ((sn1 n3).trans (sn2 n3)).mono (fun i y => y.elim False.elim id) (fun i y => y.elim False.elim id)) (fun n3 h3 => ⟨fun st => ?_, ?_⟩)
    · exact mB.cap ((pc n3 h3).1 st) (f3.mono (fun b i y => y)) f4 (t := 0) (e := 0) (p := 0) (s := 0) (fun b i y => by omega) (fun b i y => by omega) ⟨by omega, by omega⟩ (fun i => by omega) (fun b i _ _ _ y1 y2 => by omega) (mK.of f4 (fun b i y => by omega)) (Nat.le_refl _) (Nat.le_refl _)
    · refine ⟨k 4, e', k 3, nd, v3, v4, ?_, ?_, ?_⟩
      · rw [hk']
        exact Nat.le_refl _
      · obtain ⟨z1, z2⟩ := gz rfl
        exact ⟨by rw [(f3 335 _ (by omega)).1]; exact z1, by rw [(f3 336 _ (by omega)).1]; exact z2⟩
      · exact ((pc n3 h3).2).fr f3 f4 (fun b i y => by omega) (fun b i y => by omega) (mK.of f4 (fun b i y => by omega)) (Nat.le_refl _) (Nat.le_refl _) ⟨Nat.le_refl _, Nat.le_refl _, Nat.le_refl _, Nat.le_refl _, Nat.le_refl _, Nat.le_refl _⟩
  · have B1 : mF f2 p0 c1 := B1
    have B2 : l2_fr (xWc (k 3) (k 4) (k 5) (k 6) 0 0) c c1 := B2
    have z1 : zS f f2 p0 c0 c1 := ⟨⟨B1, gc.trans (mo_xc (B2.mono (fun b j y => y.sub (Nat.zero_le _) (Nat.zero_le _) (Nat.zero_le _) (Nat.zero_le _) (Nat.le_refl _) (Nat.zero_le _))))⟩, S.lk.exp _ _ e1, by rw [(B2 845 12 (by unfold xWc; omega)).1]; exact S.1.2.2.2.1.2.2.1⟩
    have r1' : rS P f f2 p0 r0 r1 := ⟨B3.ry gr', by rw [(B3.fr0 950 33 (by unfold xWr; omega)).1]; exact S.2.2.2.2.1⟩
    exact hb f2 p0 _ _ (z1.set (by unfold mo_Wc; omega) (by omega)) (r1'.set (by unfold mo_Wr; omega) (by omega))
end
