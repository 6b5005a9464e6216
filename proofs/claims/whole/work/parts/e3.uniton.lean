/-! Level 2: a function as an item: the component it is told on. -/
section
variable {P : pc_S} {nt : Nat → Nat} {f n2 n3 a g f2 p0 so : Nat} {ka : Int32} {k : Nat → Nat} {c0 r0 c r c1 r1 c' r' : t_S}
theorem tk_P_le {B : Nat → Nat} {L j : Nat} (h : ∀ i, i + 1 = j → tk_P B L i < L) : tk_P B L j ≤ L + 1 := by
  cases j with
  | zero => exact Nat.le_succ_of_le (lx_s_le (B := B) (L := L) (L - 0) 0 false rfl (Nat.zero_le _))
  | succ j =>
    have e2 := (tk_e_gt (B := B) (h j rfl)).2
    have d : tk_E B L (j + 1) = tk_e B L (tk_P B L j) := rfl
    by_cases z : tk_E B L (j + 1) ≤ L
    · exact Nat.le_succ_of_le (lx_s_le (B := B) (L := L) (L - tk_E B L (j + 1)) (tk_E B L (j + 1)) false rfl z)
    · show lx_s B L false (tk_E B L (j + 1)) ≤ L + 1
      rw [lx_s_end (by omega)]
      omega
/-- from a place of the text on: what later links come to -/
theorem pj.tp {P : pc_S} {u d z q m f l : Nat} {c r : t_S} (h : pj P u d z q m c r) (h12 : c.1 845 12 = nI f) (hf : f < 40) (h6 : c.1 846 6 = nI l) (hl : l ≤ 100000) (h440 : c.1 440 f = nI 0) : TP (pc_p P u) l f 2147483648 0 0 True c := by
  obtain ⟨B, L, W0, W, V, sl, H, T, n, t0, mm⟩ := P
  obtain ⟨⟨hc, _⟩, _⟩ := h
  obtain ⟨cT, cI, ⟨a1, a2, a3, a4, a5, a6⟩, cu, c7, c8, c9, _⟩ := hc
  have z0 : (nI 0).toInt = 0 := rfl
  have hL := cT.1
  have le : ∀ j, j < n → tk_P B L j ≤ L + 1 := fun j hj => tk_P_le (fun i hi => (a5 i (by omega)).1)
  have mono : ∀ k a, a + (k + 1) < n → tk_P B L a < tk_P B L (a + (k + 1)) := fun k => by
    induction k with
    | zero => intro a ha; exact (tk_P_mono (a5 a ha).1).1
    | succ k ih =>
      intro a ha
      have x := ih a (by omega)
      have y := (tk_P_mono (a5 (a + (k + 1)) ha).1).1
      exact Nat.lt_trans x y
  refine fun _ => ⟨trivial, fun x y hxy hy => ?_, fun v hv => ?_, ⟨u, by omega, by rw [a3, nI_toInt (by omega)]; omega, c7, ?_, c8, ?_, ?_⟩, ⟨h12, hf⟩, by rw [h440, z0]; decide, fun e h0 he => ?_⟩
  · rw [a3, nI_toInt (by omega)] at hy
    have hy : y < n := by omega
    have m1 := mono (y - x - 1) x (by omega)
    rw [show x + (y - x - 1 + 1) = y by omega] at m1
    have l1 := le y hy
    rw [a4 x (by omega), a4 y hy, nI_toInt (by omega), nI_toInt (by omega)]
    omega
  · rw [a3, nI_toInt (by omega)] at hv
    have ev : v = n - 1 := by omega
    rw [ev]
    rcases a6 with a6 | a6
    · rw [a6.2]; decide
    · rw [a6.2.2]; decide
  · rw [c9, a4 u cu]
  · have l1 := le u cu
    rw [a4 u cu, nI_toInt (by omega)]
    exact Int.le_refl _
  · have l1 := le u cu
    rw [a4 u cu, nI_toInt (by omega)]
    omega
  · rw [h6, nI_toInt (by omega)] at he
    exact absurd he (by omega)
def kl1 (k : Nat → Nat) : Nat → Nat := ck (k 0 + 1) (k 1) (k 2) (k 3) (k 4) (k 5) (k 6 + 1) (k 7) (k 8) (k 9)
def un0 (so f : Nat) (c r : t_S) : Prop := c.1 439 f = nI 0 ∧ c.1 440 f = nI 0 ∧ r.1 981 f = nI (3 + so) ∧ r.1 985 f = nI 0 ∧ r.1 986 f = nI 0
def uD_Wc (k : Nat → Nat) (b j : Nat) : Prop := hi_Wc (k 6) b j ∨ (b = 845 ∧ j = 14)
def uD_Wr (f b j : Nat) : Prop := nk_W b j ∨ ((b = 982 ∨ b = 983) ∧ j = f)
/-- from the word behind ON on -/
def uD_G (P : pc_S) (nt : Nat → Nat) (f a g : Nat) (k : Nat → Nat) (c r c' r' : t_S) : Prop := ∃ (Y pl : Nat) (cs rs : t_S), uC_G P nt f (nt 2) a g (kl1 k) cs rs c' r' ∧ Y < 7934 ∧ pl ≤ 12000 ∧ hi_e cs (k 6) 3 Y pl (nI f) (nI f) 0 ∧ rs.1 982 f = nI Y ∧ rs.1 983 f = nI pl ∧ l2_fr (uD_Wc k) c cs ∧ l2_fr (uD_Wr f) r rs ∧ (c'.1 1 11 = 0 → ∀ e : Nat, k 6 + 1 ≤ e → (e : Int) < (c'.1 846 6).toInt → c'.1 851 e = nI f ∧ (pl : Int) < (c'.1 848 e).toInt ∧ tcO (k 6 + 1) f c' e)
theorem u_B (M : mp P nt (k 0) (k 1) (k 2) a g (k 3) (k 4) (k 5) (k 6) (k 7) (k 8) (k 9) (nI f) (-1) (-1) c r) (hf : f < 40) (hcw : ∀ i, i < nt 2 → ∃ v0 v1 v2 A B D, cw_R c r i v0 v1 v2 A B D) (h0 : un0 so f c r) (hso : so ≤ 2) : t_h2 (unB (nI so) c) (unR2 (nI (3 + so)) f r) (fun c' r' => uD_G P nt f a g k c r c' r' ∨ ∃ f2 p0, zF f2 p0 c c' ∧ yR P f2 p0 r r') := by
  obtain ⟨J, N, ⟨k1, k2, k3, k4, k5, k6, k7⟩, ⟨v1, v2, v3, v4, v5, v6, v7⟩, ⟨s1, s2, s3⟩, ⟨b1, b2, b3, b4, b5, b6, b7, b8, b9⟩⟩ := id M
  have cl := J.cle
  unfold unR2
  refine h2_lR ?_
  have f1 : l2_fr (fun b j => b = 983 ∧ j = f) r (t_setI r 983 f (r.1 950 6)) := l2_fr.set ⟨rfl, rfl⟩
  have w1 : (t_setI r 983 f (r.1 950 6)).1 983 f = r.1 950 6 := by simp only [l2_gI, reduceIte]
  generalize t_setI r 983 f (r.1 950 6) = r1 at *
  have J1 : pj P (k 0) 0 0 (k 1) (k 2) c r1 := J.fr (l2_fr.rf (W := fun _ _ => False)) f1 (fun j y => y) (fun b i _ _ y => y) (fun b i _ _ y => y) (fun y => y) (fun j _ => by omega) (fun b i _ _ => by omega)
  have lk : LK c := ⟨k 6, by omega, k6⟩
  have d1 : l2_fr (uD_Wr f) r r1 := f1.mono (fun b j y => Or.inr ⟨Or.inr y.1, y.2⟩)
  have d1m : l2_fr mo_Wr r r1 := f1.mono (fun b j y => by unfold mo_Wr; omega)
  -- its component told, whichever
  have st : ∀ kb : Int32, ∃ c2, c2 = t_setI c 845 14 kb ∧ l2_fr (fun b j => b = 845 ∧ j = 14) c c2 ∧ LK c2 ∧ c2.1 845 12 = nI f ∧ c2.2.1 = c.2.1 ∧ c2.1 1 8 = c.1 1 8 ∧ mp P nt (k 0) (k 1) (k 2) a g (k 3) (k 4) (k 5) (k 6) (k 7) (k 8) (k 9) (nI f) (-1) kb c2 r1 := fun kb => by
    have g1 : l2_fr (fun b j => b = 845 ∧ j = 14) c (t_setI c 845 14 kb) := l2_fr.set ⟨rfl, rfl⟩
    have w2 : (t_setI c 845 14 kb).1 845 14 = kb := by simp only [l2_gI, reduceIte]
    refine ⟨_, rfl, g1, lk.set (fun y => absurd y (by decide)), ?_, rfl, (g1 1 8 (by omega)).1, ?_⟩
    · rw [(g1 845 12 (by omega)).1]; exact v3
    generalize t_setI c 845 14 kb = c2 at *
    have J2 : pj P (k 0) 0 0 (k 1) (k 2) c2 r1 := J1.fr g1 (l2_fr.rf (W := fun _ _ => False)) (fun j => by omega) (fun b i _ _ => by omega) (fun b i _ _ => by omega) (by omega) (fun j _ y => y) (fun b i _ _ y => y)
    have gg : ∀ b j, ¬ (b = 845 ∧ j = 14) → c2.1 b j = c.1 b j := fun b j y => (g1 b j y).1
    exact M.up (Nat.le_refl _) (Nat.le_refl _) J2 g1 f1 (fun b j y => by omega) (fun b j y => by omega) ⟨by rw [gg _ _ (by omega)]; exact k6, b3⟩ ⟨by rw [gg _ _ (by omega)]; exact k4, b5⟩ ⟨by rw [gg _ _ (by omega)]; exact k7, by rw [(f1 950 81 (by omega)).1]; exact s3, b9⟩ ⟨by rw [gg _ _ (by omega)]; exact v3, by rw [gg _ _ (by omega)]; exact v4, w2⟩
  have eu : ∀ kb : Int32, k_X6_readUnitItem_122 (nI so) kb c = (f_X6_link 3 ((t_setI c 845 14 kb).1 845 12) 0 (t_setI c 845 14 kb)).bind (unC (nI so)) := fun kb => rfl
  have bad : ∀ {f2 p0 : Nat} {cs rs : t_S}, zS f f2 p0 c cs → yR P f2 p0 r rs → t_h2 (unC (nI so) cs) (unR3 (nI (3 + so)) f rs) (fun c' r' => uD_G P nt f a g k c r c' r' ∨ ∃ f2 p0, zF f2 p0 c c' ∧ yR P f2 p0 r r') := fun z y => h2_sep _ _ (z.uC hf (nI so)) (y.uR3 hf (nI (3 + so))) (fun _ _ z y => Or.inr ⟨_, _, z, y⟩)
  have eR : (f_X13_freeName r1).bind (fun x => (f_X13_next (t_setI x.2 982 f x.1)).bind (unR3 (nI (3 + so)) f)) = ((f_X13_freeName r1).bind (fun x => f_X13_next (t_setI x.2 982 f x.1))).bind (unR3 (nI (3 + so)) f) := (Option.bind_assoc _ _ _).symm
  unfold unB
  by_cases h8 : c.1 1 8 = 1
  rotate_left
  · rw [if_neg h8]
    unfold k_X6_readUnitItem_97 k_X6_readUnitItem_121
    rw [if_pos (show (-1 : Int32) < 200 by decide), eu]
    obtain ⟨c2, e2, g1, lk2, h12, _, h82, M2⟩ := st (-1)
    rw [← e2]
    have h8' : ¬ c2.1 1 8 = 1 := by rw [h82]; exact h8
    obtain ⟨c3, x, q1, q2, u1, u2, f2, p0, u3, u4⟩ := pj_noname M2.1 (by decide) h8'
    have z3 : zS f f2 p0 c c3 := by
      refine ⟨⟨M2.mF u3 (u1 334 2 (by unfold la_W; omega)).1 (u1 845 9 (by unfold la_W; omega)).1 (u1 845 7 (by unfold la_W; omega)).1, (g1.mono (fun b j y => by unfold mo_Wc; omega)).trans (mo_la u1)⟩, ?_, by rw [(u1 845 12 (by unfold la_W; omega)).1]; exact h12⟩
      obtain ⟨l, l1, l2⟩ := lk2
      exact ⟨l, l1, by rw [(u1 846 6 (by unfold la_W; omega)).1]; exact l2⟩
    have y3 : yR P f2 p0 r x.2 := ⟨u4, d1m.trans (mo_rn u2)⟩
    obtain ⟨r4, q4, y4⟩ := (y3.set (b := 982) (j := f) (v := x.1) (by unfold mo_Wr; omega) (by omega)).next
    have el : ∀ y, f_X6_link 3 y 0 c2 = some c3 := fun y => by
      unfold f_X6_link
      rw [if_neg h8', q1]
      rfl
    rw [el, l2_bs, q2, l2_bs, q4, l2_bs]
    exact bad z3 y4
  obtain ⟨x, e1, X, hX, n1, n2', n3', J4⟩ := pj_name J1 h8
  obtain ⟨kb, ek, hka⟩ := nt_ka (s := c) N hX (J1.wW h8 hX n1) (nI so)
  rw [if_pos h8, pj.wd n1, if_pos (l2_ix (show 66 + X < 8000 by omega) (by decide)), nI_clamp (n := 66 + X) (by omega), ek, eu]
  obtain ⟨c2, e2, g1, lk2, h12, hj, h82, M2⟩ := st kb
  rw [← e2, h12, eR]
  have H := hk_link (S := fun v x => t_setI x 982 f v) (Wr := fun b j => b = 982 ∧ j = f) (so := 3) (spot := nI f) (ex := 0) (F := fun x => some x) (K := fun x => some x) (Q := fun c' r' => (∃ pl, pl ≤ 12000 ∧ pl < pc_p P (k 0 + 1) ∧ mp P nt (k 0 + 1) (k 1) (k 2) a g (k 3) (k 4) (k 5) (k 6 + 1) (k 7) (k 8) (k 9) (nI f) (-1) kb c' r' ∧ hi_e c' (k 6) 3 X pl (nI f) (nI f) 0 ∧ r'.1 982 f = nI X ∧ r'.1 983 f = nI pl ∧ l2_fr (hi_Wc (k 6)) c2 c' ∧ l2_fr (fun b j => (b = 982 ∧ j = f) ∨ nk_W b j) r1 r') ∨ ∃ f2 p0, mF f2 p0 c' ∧ l2_fr (hi_Wc (k 6)) c2 c' ∧ l2_fr (fun b j => (b = 982 ∧ j = f) ∨ nk_W b j) r1 r' ∧ pr P f2 p0 r') M2 (fun v x => l2_fr.set ⟨rfl, rfl⟩) (fun b j y => by omega) (fun X' pl c' r2 r' hX' hpl M' C' n3 n4 he e9 e6 e10 hp => h2_sm (Or.inl ?_)) (fun f2 p0 c' r' m1 C' R' w => h2_sm (Or.inr ⟨f2, p0, m1, C', R', w⟩))
  rotate_left
  · have eX : X' = X := by
      have a1 : f_X2_word c2 = nI (66 + X') := pj.wd e10
      have a2 : f_X2_word c = nI (66 + X) := pj.wd n1
      have a3 : f_X2_word c2 = f_X2_word c := by
        unfold f_X2_word
        rw [hj]
      have := (nI_eq (by omega) (by omega)).mp ((a1.symm.trans a3).trans a2)
      omega
    subst eX
    have f5 : l2_fr (fun b j => b = 982 ∧ j = f) r2 (t_setI r2 982 f (nI X')) := l2_fr.set ⟨rfl, rfl⟩
    have v5 : (t_setI r2 982 f (nI X')).1 982 f = nI X' := by simp only [l2_gI, reduceIte]
    have n4 : l2_fr rn_W (t_setI r2 982 f (nI X')) r' := n4
    have hm : f_X6_home c2 = nI f := by
      unfold f_X6_home
      rw [h12, if_neg (nI_pos (by omega))]
    have ep : pl = pc_p P (k 0) := (nI_eq (by omega) (by have := M2.1.cle.2.2.2; omega)).mp (e9.symm.trans M2.1.cle.2.1)
    refine ⟨pl, hpl, ep ▸ hp, M', hm ▸ he, ?_, ?_, C', ((n3.mono (fun b j y => Or.inr (Or.inr y))).trans (f5.mono (fun b j y => Or.inl y))).trans (n4.mono (fun b j y => Or.inr (Or.inl y)))⟩
    · rw [(n4 982 f (by unfold rn_W; omega)).1]; exact v5
    · rw [(n4 983 f (by unfold rn_W; omega)).1, (f5 983 f (by omega)).1, (n3 983 f (by unfold nm_W; omega)).1, w1, ← e6, (f1 950 6 (by omega)).1]
  obtain ⟨c3, r3, q1, q2, h⟩ := H
  rw [bd_some] at q1
  simp only [bd_some] at q2
  rw [q1, q2, l2_bs, l2_bs]
  rcases h with ⟨pl, hpl, plt, M3, he, h82, h83, C3, R3⟩ | ⟨f2, p0, m1, C3, R3, w⟩
  rotate_left
  · refine bad ⟨⟨m1, (g1.mono (fun b j y => by unfold mo_Wc; omega)).trans (hi_mo C3)⟩, pl_f_X6_link lk2 c3 q1, ?_⟩ ⟨w, d1m.trans (R3.mono (fun b j y => by unfold nk_W rn_W nm_W at y; unfold mo_Wr; omega))⟩
    rw [(C3 845 12 (by unfold hi_Wc la_W; omega)).1]; exact h12
  have FC : l2_fr (uD_Wc k) c c3 := (g1.mono (fun b j y => Or.inr y)).trans (C3.mono (fun b j y => Or.inl y))
  have FR : l2_fr (uD_Wr f) r r3 := d1.trans (R3.mono (fun b j y => y.elim (fun z => Or.inr ⟨Or.inl z.1, z.2⟩) Or.inl))
  obtain ⟨x39, x40, x81, x85, x86⟩ := h0
  have kc : ∀ b j, (429 ≤ b ∧ b ≤ 444) → c3.1 b j = c.1 b j := fun b j y => (FC b j (by unfold uD_Wc hi_Wc la_W; omega)).1
  have kr : ∀ b j, (964 ≤ b ∧ b ≤ 981) ∨ (984 ≤ b ∧ b ≤ 987) → r3.1 b j = r.1 b j := fun b j y => (FR b j (by unfold uD_Wr nk_W rn_W nm_W; omega)).1
  have n28 : nt 2 ≤ 8 := (N.1 2 (by decide)).1
  have e55 : r.1 950 55 = nI (nt 2) := (N.1 2 (by decide)).2.2
  have hw : fw_R c3 r3 f 0 (fun _ => 0) := ⟨by decide, by rw [kc _ _ (by decide)]; exact x40, by rw [kr _ _ (by decide)]; exact x86, fun i hi => absurd hi (Nat.not_lt_zero _)⟩
  have hh : fh_R c3 r3 f (nt 2) X kb := by
    refine ⟨n28, ?_, h82, fun i hi => ?_, ?_⟩
    · rw [(FR 950 55 (by unfold uD_Wr nk_W rn_W nm_W; omega)).1]; exact e55
    · obtain ⟨v0, v1, v2, A, B, D, h⟩ := hcw i hi
      exact ⟨v0, v1, v2, A, B, D, h.fr FC FR (fun b j _ _ => by unfold uD_Wc hi_Wc la_W; omega) (fun b j _ _ _ => by unfold uD_Wr nk_W rn_W nm_W; omega)⟩
    · have q : ∀ i, r3.1 970 i = r.1 970 i := fun i => kr _ _ (by decide)
      rcases hka with ⟨y1, y2⟩ | ⟨i, y1, y2, y3, y4⟩
      · exact Or.inl ⟨y1, fun i hi => by rw [q]; exact y2 i hi⟩
      · exact Or.inr ⟨i, y1, y2, by rw [q]; exact y3, fun j hj e => y4 j hj (by rw [← q]; exact e)⟩
  have S3 : us P nt f (nt 2) X 0 (fun _ => 0) kb a g (kl1 k) (kl1 k 0) c3 r3 := ⟨M3, hw, hh, hf⟩
  obtain ⟨J3, _, ⟨_, _, _, _, _, l6, _⟩, ⟨_, _, l12, _⟩, _⟩ := id M3
  refine h2_imp (h2_pq (u_C (so := so) S3 (by rw [kc _ _ (by decide)]; exact x39) (by rw [kr _ _ (by decide)]; exact x81) (by rw [kr _ _ (by decide)]; exact x85) hso) (tp_unC (J3.tp l12 hf l6 (by omega) (by rw [kc _ _ (by decide)]; exact x40)))) (fun c' r' h => ?_)
  obtain ⟨h, tp⟩ := h
  rcases h with h | ⟨f2, p0, z, y⟩
  · exact Or.inl ⟨X, pl, c3, r3, h, hX, hpl, he, h82, h83, FC, FR, fun f0 e e1 e2 => ⟨(tp f0 e e1 e2).1, by have := (tp f0 e e1 e2).2.1; omega, (tp f0 e e1 e2).2.2⟩⟩
  · exact Or.inr ⟨f2, p0, z.at (FC.mono (fun b j y => by unfold uD_Wc hi_Wc la_W at y; unfold mo_Wc; omega)), y.at (FR.mono (fun b j y => by unfold uD_Wr nk_W rn_W nm_W at y; unfold mo_Wr; omega))⟩
end
