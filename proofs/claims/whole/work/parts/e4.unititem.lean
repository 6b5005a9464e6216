/-! Level 2: a function as an item, whole. -/
section
variable {P : pc_S} {nt : Nat → Nat} {f n n2 n3 a g f2 p0 so : Nat} {ka : Int32} {k : Nat → Nat} {c0 r0 c r c1 r1 c' r' : t_S}
def un_Wc (f : Nat) (k : Nat → Nat) (b j : Nat) : Prop := sf_Wc f 0 k (k 9) b j ∨ b = 6 ∨ (b = 428 ∧ j = 9) ∨ (437 ≤ b ∧ b ≤ 441 ∧ j = f) ∨ (b = 845 ∧ (j = 12 ∨ j = 14))
def un_Wr (f : Nat) (k : Nat → Nat) (b j : Nat) : Prop := sf_Wr f 0 k (k 9) b j ∨ (b = 950 ∧ ((31 ≤ j ∧ j ≤ 34) ∨ j = 64)) ∨ (980 ≤ b ∧ b ≤ 987 ∧ b ≠ 984 ∧ j = f)
/-- what a function as an item comes to -/
def un_tG (P : pc_S) (nt : Nat → Nat) (a g : Nat) (k : Nat → Nat) (so : Nat) (c r c' r' : t_S) : Prop := ∃ (k' : Nat → Nat) (pn n' Y pl : Nat) (L' : Nat → Nat) (fst : Int32), mo P (nt_up nt 3) (k' 0) (k' 1) (k' 2) a g (k' 3) (k' 4) (k' 5) (k' 6) (k' 7) (k' 8) (k' 9) c' r' ∧ k 0 < k' 0 ∧ gr k k' ∧ nt 3 < 40 ∧ l2_fr (un_Wc (nt 3) k) c c' ∧ l2_fr (un_Wr (nt 3) k) r r' ∧ (c'.1 437 (nt 3) = nI so ∧ c'.1 438 (nt 3) = -1 ∧ r'.1 981 (nt 3) = nI (3 + so)) ∧ (c'.1 439 (nt 3) = nI pn ∧ r'.1 985 (nt 3) = nI pn ∧ pn ≤ n' ∧ fw_R c' r' (nt 3) n' L' ∧ ∀ i, i < pn → c'.1 443 (8 * nt 3 + i) = -1) ∧ (Y < 7934 ∧ pl ≤ 12000 ∧ k 6 < k' 6 ∧ hi_e c' (k 6) 3 Y pl (nI (nt 3)) (nI (nt 3)) 0 ∧ r'.1 982 (nt 3) = nI Y ∧ r'.1 983 (nt 3) = nI pl ∧ ∀ e : Nat, k 6 < e → e < k' 6 → c'.1 851 e = nI (nt 3) ∧ (pl : Int) < (c'.1 848 e).toInt ∧ tcO (k 6 + 1) (nt 3) c' e) ∧ (c'.1 441 (nt 3) = fst ∧ r'.1 987 (nt 3) = fst ∧ ((fst = -1 ∧ k' 9 = k 9) ∨ (fst = nI (k 9) ∧ k 9 < k' 9))) ∧ mB False (nt 2) (nt 3 + 1) c c' r' (k 6) (k' 6) (k 8) (k' 8) (k 2) (k' 2) (k 9) (k' 9) ∧ ∀ ln, k 9 ≤ ln → ln < k' 9 → stF_R (nt 3) (nt 2) (nt 3 + 1) c' r' (k' 3) (k' 4) (k' 5) (k' 6) (k' 7) (k' 2) (k' 9) ln
def un_tP (P : pc_S) (nt : Nat → Nat) (a g : Nat) (k : Nat → Nat) (so : Nat) (c r c' r' : t_S) : Prop := l2_fr mo_Wc c c' ∧ l2_fr mo_Wr r r' ∧ (un_tG P nt a g k so c r c' r' ∨ pf P c' r')
theorem un_mo (h : l2_fr (un_Wc f k) c c') : l2_fr mo_Wc c c' := h.mono (fun b j y => by
  rcases y with y | y
  · exact (show mo_Wc b j from by
      rcases y with y | y | y | y | y
      · unfold xWc at y
        unfold mo_Wc
        omega
      all_goals (unfold mo_Wc; omega))
  · unfold mo_Wc
    omega)
theorem un_mr (h : l2_fr (un_Wr f k) r r') : l2_fr mo_Wr r r' := h.mono (fun b j y => by
  rcases y with y | y
  · exact (show mo_Wr b j from by
      rcases y with y | y | y | y | y
      · unfold xWr at y
        unfold mo_Wr
        omega
      all_goals (unfold mo_Wr; omega))
  · unfold mo_Wr
    omega)
/-- the tables of other functions stay -/
theorem un_mK (h : l2_fr (un_Wr f k) r r') (n2 : Nat) : mK n2 f r r' := by
  have g : ∀ b j, (975 ≤ b ∧ b ≤ 977) ∨ b = 979 ∨ (982 ≤ b ∧ b ≤ 986 ∧ b ≠ 984 ∧ j < f) ∨ (b = 984 ∧ j < 8 * f) → r'.1 b j = r.1 b j := fun b j y => (h b j (by unfold un_Wr sf_Wr xWr; omega)).1
  exact ⟨fun k _ _ cnt hc e => ⟨⟨cnt, Nat.le_refl _, hc, by rw [g 979 k (by omega)]; exact e⟩, fun i _ => ⟨g _ _ (by omega), g _ _ (by omega), g _ _ (by omega)⟩⟩, fun f' hf' _ => ⟨⟨g _ _ (by omega), g _ _ (by omega)⟩, fun cnt hc e => ⟨⟨cnt, Nat.le_refl _, hc, by rw [g 986 f' (by omega)]; exact e⟩, fun i _ => g _ _ (by omega)⟩⟩⟩
/-- all put together -/
theorem un_all {c6 r8 : t_S} (hf : nt 3 < 40) (C6 : l2_fr (fun b j => la_W b j ∨ b = 6 ∨ (b = 428 ∧ j = 9) ∨ (437 ≤ b ∧ b ≤ 441 ∧ j = nt 3) ∨ (b = 845 ∧ j = 12)) c c6) (R8 : l2_fr (fun b j => nk_W b j ∨ (b = 950 ∧ ((31 ≤ j ∧ j ≤ 34) ∨ j = 64)) ∨ (980 ≤ b ∧ b ≤ 987 ∧ b ≠ 984 ∧ j = nt 3)) r r8) (v7 : c6.1 437 (nt 3) = nI so) (v8 : c6.1 438 (nt 3) = -1) (w1 : r8.1 981 (nt 3) = nI (3 + so)) {nt' : Nat → Nat} (en : nt' 2 = nt 2) (k13 : k 2 ≤ 13000) (h : uD_G P nt' (nt 3) a g (ck (k 0 + 1 + 1 + 1) (k 1) (k 2) (k 3) (k 4) (k 5) (k 6) (k 7) (k 8) (k 9)) c6 r8 c' r') (en' : nt' = nt_up nt 3) : un_tG P nt a g k so c r c' r' := by
  obtain ⟨Y, pl, cs, rs, ⟨n, u, cb, rb, hu, n8, ⟨k', n', L', fst, M', hw', hn, k00, gr', FC3, FR3, kk3, m3, ls, h441, h987, hx⟩, FC2, FR2, q39, q85, q43⟩, hY, hpl, he, h82, h83, FC1, FR1, tp⟩ := h
  rw [en] at m3 ls kk3
  subst en'
  have hu : k 0 + 1 + 1 + 1 + 1 ≤ u := hu
  have k00 : u < k' 0 := k00
  have m3 : mB False (nt 2) (nt 3 + 1) cb c' r' (k 6 + 1) (k' 6) (k 8) (k' 8) (k 2) (k' 2) (k 9) (k' 9) := m3
  have ls : ∀ ln, k 9 ≤ ln → ln < k' 9 → stF_R (nt 3) (nt 2) (nt 3 + 1) c' r' (k' 3) (k' 4) (k' 5) (k' 6) (k' 7) (k' 2) (k' 9) ln := ls
  have hx : (fst = -1 ∧ k' 9 = k 9) ∨ (fst = nI (k 9) ∧ k 9 < k' 9) := hx
  have o : gr (ck u (k 1) (k 2) (k 3) (k 4) (k 5) (k 6 + 1) (k 7) (k 8) (k 9)) k' := gr'
  have o2 : gr k (ck u (k 1) (k 2) (k 3) (k 4) (k 5) (k 6 + 1) (k 7) (k 8) (k 9)) := ⟨show k 0 ≤ u by omega, Nat.le_refl _, Nat.le_refl _, Nat.le_refl _, Nat.le_refl _, Nat.le_refl _, Nat.le_succ _, Nat.le_refl _, Nat.le_refl _, Nat.le_refl _⟩
  have FC1 : l2_fr (uD_Wc k) c6 cs := FC1
  have he : hi_e cs (k 6) 3 Y pl (nI (nt 3)) (nI (nt 3)) 0 := he
  have FC3 : l2_fr (ub_Wc (nt 3) n (ck u (k 1) (k 2) (k 3) (k 4) (k 5) (k 6 + 1) (k 7) (k 8) (k 9))) cb c' := FC3
  have FR3 : l2_fr (ub_Wr (nt 3) n (ck u (k 1) (k 2) (k 3) (k 4) (k 5) (k 6 + 1) (k 7) (k 8) (k 9))) rb r' := FR3
  have C6b : l2_fr (fun b j => la_W b j ∨ b = 6 ∨ (b = 428 ∧ j = 9) ∨ (437 ≤ b ∧ b ≤ 441 ∧ j = nt 3) ∨ (b = 845 ∧ (j = 12 ∨ j = 14)) ∨ (b = 846 ∧ j = 6) ∨ (848 ≤ b ∧ b ≤ 853 ∧ k 6 ≤ j) ∨ ((b = 442 ∨ b = 443) ∧ 8 * nt 3 ≤ j ∧ j < 8 * nt 3 + 8)) c cb := ((C6.mono (fun b j y => y.elim Or.inl (fun y => Or.inr (by omega)))).trans (FC1.mono (fun b j y => by
    rcases y with (y | y | y) | y
    · exact Or.inl y
    all_goals exact Or.inr (by omega)))).trans (FC2.mono (fun b j y => y.elim Or.inl (fun y => Or.inr (by omega))))
  have R8b : l2_fr (fun b j => nk_W b j ∨ (b = 950 ∧ ((31 ≤ j ∧ j ≤ 34) ∨ j = 64)) ∨ (980 ≤ b ∧ b ≤ 987 ∧ b ≠ 984 ∧ j = nt 3) ∨ (b = 984 ∧ 8 * nt 3 ≤ j ∧ j < 8 * nt 3 + 8)) r rb := ((R8.mono (fun b j y => y.elim Or.inl (fun y => Or.inr (by omega)))).trans (FR1.mono (fun b j y => y.elim Or.inl (fun y => Or.inr (by omega))))).trans (FR2.mono (fun b j y => y.elim Or.inl (fun y => Or.inr (by omega))))
  have kc : ∀ b j, b = 437 ∨ b = 438 → c'.1 b j = c6.1 b j := fun b j y => by
    rw [(FC3 b j (by unfold ub_Wc sf_Wc xWc; omega)).1, (FC2 b j (by unfold uWc la_W; omega)).1, (FC1 b j (by unfold uD_Wc hi_Wc la_W; omega)).1]
  have kr : ∀ b j, 981 ≤ b ∧ b ≤ 983 → r'.1 b j = rs.1 b j := fun b j y => by
    rw [(FR3 b j (by unfold ub_Wr sf_Wr xWr; omega)).1, (FR2 b j (by unfold uWr nk_W rn_W nm_W; omega)).1]
  have hb : ∀ b, 848 ≤ b → b ≤ 853 → cb.1 b (k 6) = cs.1 b (k 6) := fun b b1 b2 => (FC2 b _ (by unfold uWc la_W; omega)).1
  have h3 : ∀ b, 848 ≤ b → b ≤ 853 → c'.1 b (k 6) = cb.1 b (k 6) := fun b b1 b2 => by
    have s9 : k 9 ≤ 400 := Nat.le_trans o.2.2.2.2.2.2.2.2.2 M'.2.2.2.2.2.2.2.2.2.2.2.2.2
    refine (FC3 b _ (fun y => ?_)).1
    have y : sf_Wc (nt 3) n (ck u (k 1) (k 2) (k 3) (k 4) (k 5) (k 6 + 1) (k 7) (k 8) (k 9)) (k 9) b (k 6) ∨ (b = 441 ∧ k 6 = nt 3) ∨ (b = 845 ∧ (k 6 = 12 ∨ k 6 = 14)) := y
    have y : (xWc (k 3) (k 4) (k 5) (k 6 + 1) 0 0 b (k 6) ∨ (b = 428 ∧ k 6 = 18) ∨ (b = 440 ∧ k 6 = nt 3) ∨ ((b = 442 ∨ b = 443) ∧ 8 * nt 3 + n ≤ k 6 ∧ k 6 < 8 * nt 3 + 8) ∨ (445 + k 9 ≤ b ∧ b < 845)) ∨ (b = 441 ∧ k 6 = nt 3) ∨ (b = 845 ∧ (k 6 = 12 ∨ k 6 = 14)) := y
    unfold xWc at y
    omega
  have m0 : mB False (nt 2) (nt 3 + 1) c cb rb (k 6) (k 6 + 1) (k 8) (k 8) (k 2) (k 2) (k 9) (k 9) := mB.link (Or.inr (Or.inr (Or.inr (Or.inl ⟨nt 3, Y, pl, Nat.lt_succ_self _, hf, hY, hpl, he.fr hb, by rw [(FR2 982 _ (by unfold uWr nk_W rn_W nm_W; omega)).1]; exact h82, by rw [(FR2 983 _ (by unfold uWr nk_W rn_W nm_W; omega)).1]; exact h83⟩)))) (C6b 846 7 (by unfold la_W; omega)).1 (C6b 846 8 (by unfold la_W; omega)).1 (fun j => (C6b 7 j (by unfold la_W; omega)).1) (k 8)
  have e443 : ∀ i, i < n → c'.1 443 (8 * nt 3 + i) = -1 := fun i hi => by
    rw [(FC3 443 _ (by unfold ub_Wc sf_Wc xWc; omega)).1]
    exact q43 i hi
  refine ⟨k', n, n', Y, pl, L', fst, M', by omega, o2.trans o, hf, ?_, ?_, ⟨?_, ?_, ?_⟩, ⟨?_, ?_, hn, hw', e443⟩, ⟨hY, hpl, Nat.lt_of_lt_of_le (Nat.lt_succ_self _) o.2.2.2.2.2.2.1, (he.fr hb).fr h3, ?_, ?_, ?_⟩, ⟨h441, h987, hx⟩, ?_, ls⟩
  · refine (C6b.mono (fun b j y => ?_)).trans (FC3.mono (fun b j y => ?_))
    · rcases y with y | y | y | y | y | y | y | y
      · exact Or.inl (Or.inl (x_la y))
      · exact Or.inr (Or.inl y)
      · exact Or.inr (Or.inr (Or.inl y))
      · exact Or.inr (Or.inr (Or.inr (Or.inl y)))
      · exact Or.inr (Or.inr (Or.inr (Or.inr y)))
      · exact Or.inl (Or.inl (by unfold xWc; omega))
      · exact Or.inl (Or.inl (by unfold xWc; omega))
      · exact Or.inl (Or.inr (Or.inr (Or.inr (Or.inl y))))
    · rcases y with y | y | y
      · exact Or.inl (y.sub o2 (Nat.zero_le _) (Nat.le_refl _))
      · exact Or.inr (Or.inr (Or.inr (Or.inl ⟨by omega, by omega, y.2⟩)))
      · exact Or.inr (Or.inr (Or.inr (Or.inr y)))
  · refine (R8b.mono (fun b j y => ?_)).trans (FR3.mono (fun b j y => ?_))
    · rcases y with (y | y) | y | y | y
      · exact Or.inl (Or.inl (x_rn y))
      · exact Or.inl (Or.inl (x_nm y))
      · exact Or.inr (Or.inl y)
      · exact Or.inr (Or.inr y)
      · exact Or.inl (Or.inr (Or.inr (Or.inr (Or.inl y))))
    · rcases y with y | y | y
      · exact Or.inl (y.sub o2 (Nat.zero_le _) (Nat.le_refl _))
      · exact Or.inr (Or.inl ⟨y.1, by omega⟩)
      · exact Or.inr (Or.inr ⟨by omega, by omega, by omega, y.2⟩)
  · rw [kc _ _ (by decide)]; exact v7
  · rw [kc _ _ (by decide)]; exact v8
  · rw [kr _ _ (by decide), (FR1 981 _ (by unfold uD_Wr nk_W rn_W nm_W; omega)).1]; exact w1
  · rw [(FC3 439 _ (by unfold ub_Wc sf_Wc xWc; omega)).1]; exact q39
  · rw [(FR3 985 _ (by unfold ub_Wr sf_Wr xWr; omega)).1]; exact q85
  · rw [kr _ _ (by decide)]; exact h82
  · rw [kr _ _ (by decide)]; exact h83
  · obtain ⟨J6, _, ⟨_, _, _, _, _, l6, _⟩, _, _, ⟨_, _, l7, _⟩⟩ := id M'
    have cl := J6.cle.1
    obtain ⟨B, L, W0, W, V, sl, H, T, nn, t0, mm⟩ := P
    exact fun e e1 e2 => tp J6.1.1.2.2.2.2.2.2.2.2.1 e e1 (by rw [l6, nI_toInt (by omega)]; omega)
  · refine m0.trans m3 ⟨Nat.le_succ _, o.2.2.2.2.2.2.1⟩ ⟨Nat.le_refl _, o.2.2.2.2.2.2.2.2.1⟩ ⟨Nat.le_refl _, o.2.2.1⟩ ⟨Nat.le_refl _, o.2.2.2.2.2.2.2.2.2⟩ (fun b e b1 b2 b3 => ?_) (fun j j1 j2 => absurd j2 (by omega)) (fun s s1 s2 => absurd s2 (by omega)) kk3 (Nat.le_refl _) (Nat.le_refl _) (by have := (M'.1.mle (by decide)).1; omega)
    have s9 : k 9 ≤ 400 := Nat.le_trans o.2.2.2.2.2.2.2.2.2 M'.2.2.2.2.2.2.2.2.2.2.2.2.2
    refine (FC3 b e (fun y => ?_)).1
    have y : (xWc (k 3) (k 4) (k 5) (k 6 + 1) 0 0 b e ∨ (b = 428 ∧ e = 18) ∨ (b = 440 ∧ e = nt 3) ∨ ((b = 442 ∨ b = 443) ∧ 8 * nt 3 + n ≤ e ∧ e < 8 * nt 3 + 8) ∨ (445 + k 9 ≤ b ∧ b < 845)) ∨ (b = 441 ∧ e = nt 3) ∨ (b = 845 ∧ (e = 12 ∨ e = 14)) := y
    unfold xWc at y
    omega
end
