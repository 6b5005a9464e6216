/-! Level 2: blocks and alts whole. -/
section
variable {P : pc_S} {nt : Nat → Nat} {f n n' n'' n2 n3 Y a g f2 p0 dd : Nat} {L L' v : Nat → Nat} {ka up fst lst : Int32} {k k0 k' : Nat → Nat} {c0 r0 c r c1 r1 c' r' : t_S} {rcC : RT_X6_readAlts} {rcR : RT_X13_block}
theorem nI_nl2 {m b : Nat} (h : b < m) (hm : m < 2 ^ 31) : ¬ nI m ≤ nI b := fun y => by
  have a := Int32.le_iff_toInt_le.mp y
  rw [nI_toInt hm, nI_toInt (by omega)] at a
  omega
theorem bI.start (S1 : fs P nt f n2 Y n L ka a g (nx k) c' r') (y1 : l2_fr la_W c c') (y2 : l2_fr rn_W r r') : bI P nt f n2 n3 Y n ka a g k c r (-1) (-1) n L (nx k) c' r' := ⟨S1, ⟨Nat.le_refl _, Nat.le_succ _, ⟨Nat.le_succ _, Nat.le_refl _, Nat.le_refl _, Nat.le_refl _, Nat.le_refl _, Nat.le_refl _, Nat.le_refl _, Nat.le_refl _, Nat.le_refl _, Nat.le_refl _⟩⟩, y1.mono (fun _ _ y => Or.inl (x_la y)), y2.mono (fun _ _ y => Or.inl (x_rn y)), mK.of y2 (fun b j y => by unfold rn_W; omega), mB.nil (y1 846 7 (by unfold la_W; omega)).1 (y1 846 8 (by unfold la_W; omega)).1 (fun j => (y1 7 j (by unfold la_W; omega)).1) _ _ _ _, fun l l1 l2 => by
  have l2 : l < k 9 := l2
  omega, Or.inl ⟨rfl, rfl, rfl⟩⟩
theorem bI.la (h : bI P nt f n2 n3 Y n ka a g k0 c0 r0 fst lst n' L' k c r) (S1 : fs P nt f n2 Y n' L' ka a g (nx k) c' r') (y1 : l2_fr la_W c c') (y2 : l2_fr rn_W r r') : bI P nt f n2 n3 Y n ka a g k0 c0 r0 fst lst n' L' (nx k) c' r' ∧ k0 0 < nx k 0 := by
  obtain ⟨S, ⟨hn, h0, g0⟩, fc0, fr0, kk0, m0, ls0, hh⟩ := h
  have kk : mK n2 n3 r r' := mK.of y2 (fun b j y => by unfold rn_W; omega)
  have la_cp : cp_c la_W (k 3) (k 4) (k 5) (k 6) := fun b j y => by unfold la_W at y; omega
  have rn_cp : cp_r rn_W (k 2) (k 7) := fun b j y => by unfold rn_W at y; omega
  refine ⟨⟨S1, ⟨hn, Nat.le_succ_of_le h0, g0.trans ⟨Nat.le_succ _, Nat.le_refl _, Nat.le_refl _, Nat.le_refl _, Nat.le_refl _, Nat.le_refl _, Nat.le_refl _, Nat.le_refl _, Nat.le_refl _, Nat.le_refl _⟩⟩, fc0.trans (y1.mono (fun _ _ y => Or.inl (x_la y))), fr0.trans (y2.mono (fun _ _ y => Or.inl (x_rn y))), mK.trans kk0 kk, m0.cap y1 y2 (t := k 3) (e := k 4) (p := k 5) (s := k 7) la_cp rn_cp ⟨by unfold la_W; omega, by unfold la_W; omega⟩ (fun j => by unfold la_W; omega) (fun b j _ _ _ _ _ => by unfold rn_W; omega) kk (Nat.le_refl _) (Nat.le_refl _), fun l l1 l2 => (ls0 l l1 l2).fr y1 y2 la_cp rn_cp kk (Nat.le_refl _) (Nat.le_refl _) ⟨Nat.le_refl _, Nat.le_refl _, Nat.le_refl _, Nat.le_refl _, Nat.le_refl _, Nat.le_refl _⟩ (Nat.le_refl _) (fun j => (y1 _ j (by unfold la_W; omega)).1) (fun x x1 x2 => (y2 x l (by unfold rn_W; omega)).1) (fun f' td cnt _ _ _ _ _ => (y1 443 _ (by unfold la_W; omega)).1), ?_⟩, Nat.lt_succ_of_le h0⟩
  rcases hh with h | ⟨h1, j, j1, j2, j3, j4, j5⟩
  · exact Or.inl h
  · exact Or.inr ⟨h1, j, j1, j2, j3, by rw [(y1 _ 1 (by unfold la_W; omega)).1]; exact j4, by rw [(y2 989 j (by unfold rn_W; omega)).1]; exact j5⟩
theorem bI.fin (h : bI P nt f n2 n3 Y n ka a g k0 c0 r0 fst lst n' L' k c r ∧ k0 0 < k 0) : bk_G P nt f n2 n3 Y n L ka a g k0 c0 r0 fst fst c r := by
  obtain ⟨⟨S, ⟨hn, h0, g0⟩, fc0, fr0, kk0, m0, ls0, hh⟩, lt⟩ := h
  refine ⟨rfl, k, n', L', lt, S, hn, g0, fc0, fr0, kk0, m0, ls0, ?_⟩
  rcases hh with ⟨h1, _, h3⟩ | ⟨h1, j, j1, j2, _⟩
  · exact Or.inl ⟨h1, h3⟩
  · exact Or.inr ⟨h1, by omega⟩
theorem zS.bloop (h : zS f f2 p0 c0 c) (x up fl : Int32) : t_loop (b_X6_readBraces_50 rcC) t_N (x, up, fl, -1, -1, 0, c) = some (-1, c) := by
  obtain ⟨N, hN⟩ : ∃ N, t_N = N + 1 := ⟨t_N - 1, by have := l2_N; omega⟩
  rw [hN]
  refine l2_lpR ?_
  show k_X6_readBraces_50 rcC x up fl (-1) (-1) 0 c = _
  unfold k_X6_readBraces_50 k_X6_readBraces_142
  rw [if_neg (by decide), if_neg h.1.ne, h.1.need (by decide), l2_bs]
  rfl
theorem zS.braces (h : zS f f2 p0 c0 c) (x up fl : Int32) : t_hk (k_X6_readBraces_20 rcC x up fl c) (fun y => zS f f2 p0 c0 y.2) := by
  unfold k_X6_readBraces_20 k_X6_readBraces_34
  rw [h.1.fail, l2_bs, ite_self, h.1.adv, l2_bs, h.bloop]
  exact l2_sm h
theorem zS.braces0 (h : zS f f2 p0 c0 c) (x up fl : Int32) : t_hk (m_X6_readBraces rcC x up fl c) (fun y => zS f f2 p0 c0 y.2) := by
  unfold m_X6_readBraces
  rw [h.1.fail, l2_bs, ite_self]
  exact h.braces x up fl
/-- between two turns -/
def bT (P : pc_S) (nt : Nat → Nat) (f n2 n3 Y n : Nat) (ka : Int32) (a g dd : Nat) (up : Int32) (k0 : Nat → Nat) (c0 r0 : t_S) (j : Nat) (x : Int32 × Int32 × Int32 × Int32 × Int32 × Int32 × t_S) (y : Int32 × Int32 × Int32 × Int32 × t_S) : Prop := ∃ cnt, cnt ≤ 401 ∧ j = 402 - cnt ∧ ((∃ fst lst n' L' k c r, bI P nt f n2 n3 Y n ka a g k0 c0 r0 fst lst n' L' k c r ∧ cnt + k0 9 ≤ k 9 ∧ x = (nI dd, up, 0, fst, lst, nI cnt, c) ∧ y = (up, nI dd, fst, lst, r)) ∨ ∃ f2 p0 a4 a5 b3 b4 c r, zS f f2 p0 c0 c ∧ yS P f f2 p0 r0 r ∧ x = (nI dd, up, 0, a4, a5, nI cnt, c) ∧ y = (up, nI dd, b3, b4, r))
theorem bk_loop (hf : f < n3) (I : bI P nt f n2 n3 Y n ka a g k0 c0 r0 (-1) (-1) n L k c r) (hS : ∀ (n : Nat) (L : Nat → Nat) (k : Nat → Nat) (c r : t_S), fs P nt f n2 Y n L ka a g k c r → (up = -1 ∨ ∃ j, j < k 9 ∧ up = nI j) → t_h2 (rcC.2.2.2.2 (nI dd) up c) (rcR.2.2.2 up (nI dd) r) (so_O P nt f n2 n3 Y n L ka a g k c r)) (hu : up = -1 ∨ ∃ j, j < k0 9 ∧ up = nI j) : t_h2 (t_loop (b_X6_readBraces_50 rcC) t_N (nI dd, up, 0, -1, -1, 0, c)) (t_loop (b_X13_block_35 rcR) t_N (up, nI dd, -1, -1, r)) (bk_O P nt f n2 n3 Y n L ka a g k0 c0 r0) := by
  refine h2_lpN (fun j x y => bT P nt f n2 n3 Y n ka a g dd up k0 c0 r0 j x y) ?_ (k := 402) (by decide) ⟨0, by decide, rfl, Or.inl ⟨-1, -1, n, L, k, c, r, I, by have := I.2.1.2.2.2.2.2.2.2.2.2.2.2; omega, rfl, rfl⟩⟩
  rintro j x y ⟨cnt, hc, rfl, h⟩
  rcases h with ⟨fst, lst, n', L', k, c, r, I, hcnt, rfl, rfl⟩ | ⟨f2, p0, a4, a5, b3, b4, c, r, z, y, rfl, rfl⟩
  rotate_left
  · show t_h2 (k_X6_readBraces_50 rcC (nI dd) up 0 a4 a5 (nI cnt) c) (k_X13_block_35 rcR up (nI dd) b3 b4 r) _
    unfold k_X6_readBraces_50 k_X13_block_35
    have e142 : k_X6_readBraces_142 rcC a4 c = some (a4, c) := by
      unfold k_X6_readBraces_142
      rw [z.1.need (by decide), l2_bs]
    obtain ⟨r1, e1, y1⟩ := y.mustBe 125
    have e91 : k_X13_block_91 rcR b3 r = some (b3, r1) := by
      unfold k_X13_block_91
      rw [e1, l2_bs]
    rw [if_neg y.ne, if_neg z.1.ne, e142, e91, ite_self]
    exact h2_sm (Or.inr ⟨f2, p0, z, y1⟩)
  show t_h2 (k_X6_readBraces_50 rcC (nI dd) up 0 fst lst (nI cnt) c) (k_X13_block_35 rcR up (nI dd) fst lst r) _
  have S := I.1
  have f0 := S.1.1.f0
  have s9 : k 9 ≤ 400 := S.1.2.2.2.2.2.2.2.2.2.2.2.2.2
  have mc : l2_fr mo_Wc c0 c := sf_mo I.2.2.1
  have mr : l2_fr mo_Wr r0 r := sf_mr I.2.2.2.1
  unfold k_X6_readBraces_50 k_X13_block_35
  rw [if_neg (show ¬ (400 : Int32) < nI cnt from nI_nlt (a := 400) (by omega) (by decide)), if_pos f0.1, if_pos f0.2]
  rcases S.1.1.is (x := 125) (by decide) with ⟨x1, x2⟩ | ⟨x1, x2⟩
  · have x2 : f_X13_is 125 r = 1 := x2
    rw [if_pos (show c.1 1 8 = 125 from x1), if_neg (show ¬ f_X13_is 125 r = 0 by rw [x2]; decide)]
    refine h2_mp ?_
    unfold k_X6_readBraces_142 k_X13_block_91
    refine h2_bb _ (pj_need S.1.1 (by decide) (x := 125) (by decide) rfl) (fun c1 r1 hw => h2_sm ?_)
    obtain ⟨y1, y2, y3⟩ := hw
    rcases y3 with J | ⟨f2, p0, y3, y4⟩
    · have S1 := (S.la (n2 := n2) (n3 := n3) (ln := 0) (A := fun _ => False) (B := fun _ => False) (k' := nx k) (by decide) rfl ⟨rfl, rfl, rfl, rfl, rfl, rfl, rfl, rfl, rfl⟩ J y1 y2).1
      exact Or.inl (bI.fin (I.la S1 y1 y2))
    · exact Or.inr ⟨f2, p0, S.z y3 y1 mc, S.y y4 y2 mr⟩
  have x2 : f_X13_is 125 r = 0 := x2
  rw [if_neg (show ¬ c.1 1 8 = 125 from x1), if_pos x2, if_pos rfl]
  have g9 := I.2.1.2.2.2.2.2.2.2.2.2.2.2
  refine h2_bb _ (hS n' L' k c r S (hu.elim Or.inl (fun ⟨j, j1, j2⟩ => Or.inr ⟨j, by omega, j2⟩))) (fun x y hxy => ?_)
  obtain ⟨xv, c1⟩ := x
  obtain ⟨yv, r1⟩ := y
  have lst2 : (lst = -1 ∧ fst = -1) ∨ ∃ j, j < 400 ∧ lst = nI j ∧ fst = nI (k0 9) := by
    rcases I.2.2.2.2.2.2.2 with ⟨h1, h2, _⟩ | ⟨h1, j, _, h3, h4, _⟩
    · exact Or.inl ⟨h2, h1⟩
    · exact Or.inr ⟨j, by omega, h4, h1⟩
  rcases hxy with ⟨e1, e2, q⟩ | ⟨f2, p0, z, y⟩
  · have e1 : xv = nI (k 9) := e1
    have e2 : yv = nI (k 9) := e2
    subst e1 e2
    obtain ⟨k', n'', L'', k9', k0', h1, h2⟩ := I.more q hf
    have s9' : k' 9 ≤ 400 := by
      rcases lst2 with ⟨_, e⟩ | ⟨j, hj, e, e'⟩
      · exact (h1 e).1.1.2.2.2.2.2.2.2.2.2.2.2.2.2
      · have := (h2 j hj (by rw [e']; exact fun y => nI_pos (n := k0 9) (by omega) (by rw [y]; decide)) e).2.2.1.1.2.2.2.2.2.2.2.2.2.2.2.2.2
        exact this
    unfold k_X6_readBraces_99 k_X6_readBraces_132 k_X13_block_73 k_X13_block_83
    rcases lst2 with ⟨el, ef⟩ | ⟨j, j4, el, ef⟩
    · subst el ef
      rw [if_neg (show ¬ (0 : Int32) ≤ -1 by decide), if_pos (show (-1 : Int32) < 0 by decide), if_neg (show ¬ (0 : Int32) ≤ -1 by decide)]
      refine h2_sm ⟨402 - (cnt + 1), by omega, cnt + 1, by omega, rfl, Or.inl ⟨nI (k 9), nI (k 9), n'', L'', k', c1, r1, h1 rfl, by omega, ?_, rfl⟩⟩
      rw [nI_succ]
    · have nf : fst ≠ -1 := by rw [ef]; exact fun y => nI_pos (n := k0 9) (by omega) (by rw [y]; decide)
      obtain ⟨j1, j2, I'⟩ := h2 j j4 nf el
      rw [ef, if_pos (nI_pos' (by omega)), el, if_neg (nI_pos (by omega)), if_neg (nI_pos (by omega)), if_pos (l2_ix (by omega) (by decide)), if_pos (l2_ix (by omega) (by decide)), nI_clamp (n := j) (by omega)]
      simp only [if_pos (show (0 : Int32) ≤ nI (k0 9) from nI_pos' (by omega))]
      refine h2_lL (h2_lR (h2_sm ⟨402 - (cnt + 1), by omega, cnt + 1, by omega, rfl, Or.inl ⟨nI (k0 9), nI (k 9), n'', L'', k', t_setI c1 (445 + 1 * j) 1 (nI (k 9)), t_setI r1 989 j (nI (k 9)), ?_, by omega, ?_, rfl⟩⟩))
      · rw [ef] at I'
        rw [Nat.one_mul]
        exact I'
      · rw [nI_succ]
        rfl
  · have z : zS f f2 p0 c c1 := z
    have y : yS P f f2 p0 r r1 := y
    have z0 := z.at mc
    have y0 := y.at mr
    unfold k_X6_readBraces_99 k_X6_readBraces_132 k_X13_block_73 k_X13_block_83
    rcases lst2 with ⟨el, ef⟩ | ⟨j, j4, el, ef⟩
    · subst el ef
      rw [if_neg (show ¬ (0 : Int32) ≤ -1 by decide), if_pos (show (-1 : Int32) < 0 by decide), if_neg (show ¬ (0 : Int32) ≤ -1 by decide)]
      refine h2_sm ⟨402 - (cnt + 1), by omega, cnt + 1, by omega, rfl, Or.inr ⟨f2, p0, xv, xv, yv, yv, c1, r1, z0, y0, ?_, rfl⟩⟩
      rw [nI_succ]
    · rw [ef, if_pos (nI_pos' (by omega)), el, if_neg (nI_pos (by omega)), if_neg (nI_pos (by omega)), if_pos (l2_ix (by omega) (by decide)), if_pos (l2_ix (by omega) (by decide)), nI_clamp (n := j) (by omega)]
      simp only [if_pos (show (0 : Int32) ≤ nI (k0 9) from nI_pos' (by omega))]
      refine h2_lL (h2_lR (h2_sm ⟨402 - (cnt + 1), by omega, cnt + 1, by omega, rfl, Or.inr ⟨f2, p0, nI (k0 9), xv, nI (k0 9), yv, t_setI c1 (445 + 1 * j) 1 xv, t_setI r1 989 j yv, z0.set (b := 445 + 1 * j) (j := 1) (x := xv) (by unfold mo_Wc; omega) (by omega), y0.set (b := 989) (j := j) (x := yv) (by unfold mo_Wr; omega) (by omega), ?_, rfl⟩⟩))
      rw [nI_succ]
      rfl
theorem bk_behind (h : rS P f f2 p0 r0 r) (x : Int32) : t_hk (m_X13_block rcR up x r) (fun y => yS P f f2 p0 r0 y.2) := by
  have go : ∀ {r1}, rS P f f2 p0 r0 r1 → t_hk (k_X13_block_24 rcR up x r1) (fun y => yS P f f2 p0 r0 y.2) := fun {r1} h1 => by
    unfold k_X13_block_24
    refine l2_bd _ (h1.mb (x := 123) (by unfold rj_no; decide)) (fun r2 h2 => ?_)
    obtain ⟨r3, e3, h3⟩ := h2.mustBe 125
    obtain ⟨N, hN⟩ : ∃ N, t_N = N + 1 := ⟨t_N - 1, by have := l2_N; omega⟩
    rw [hN]
    refine ⟨(-1, r3), l2_lpR ?_, h3⟩
    show k_X13_block_35 rcR up x (-1) (-1) r2 = _
    unfold k_X13_block_35 k_X13_block_91
    rw [if_neg h2.ne, e3, l2_bs]
    rfl
  unfold m_X13_block
  refine l2_if (fun _ => go h) (fun _ => l2_if (fun _ => go h) (fun z => ?_))
  rcases h.is (x := 123) (by unfold rj_no; decide) with y | y
  · exact absurd y z
  · rw [y.1.fail, l2_bs]
    exact go h
theorem bk_whole (S : fs P nt f n2 Y n L ka a g k c r) (hf : f < n3) (hu : up = -1 ∨ ∃ j, j < k 9 ∧ up = nI j) (hd : dd ≤ 17) (hS : dd ≤ 16 → ∀ (n : Nat) (L : Nat → Nat) (k : Nat → Nat) (c r : t_S), fs P nt f n2 Y n L ka a g k c r → (up = -1 ∨ ∃ j, j < k 9 ∧ up = nI j) → t_h2 (rcC.2.2.2.2 (nI dd) up c) (rcR.2.2.2 up (nI dd) r) (so_O P nt f n2 n3 Y n L ka a g k c r)) : t_h2 (m_X6_readBraces rcC (nI dd) up 0 c) (m_X13_block rcR up (nI dd) r) (bk_O P nt f n2 n3 Y n L ka a g k c r) := by
  have lpR : ∀ f2 p0 r1, yS P f f2 p0 r r1 → t_hk (t_loop (b_X13_block_35 rcR) t_N (up, nI dd, -1, -1, r1)) (fun y => yS P f f2 p0 r y.2) := fun f2 p0 r1 y => by
    obtain ⟨r3, e3, h3⟩ := y.mustBe 125
    obtain ⟨N, hN⟩ : ∃ N, t_N = N + 1 := ⟨t_N - 1, by have := l2_N; omega⟩
    rw [hN]
    refine ⟨(-1, r3), l2_lpR ?_, h3⟩
    show k_X13_block_35 rcR up (nI dd) (-1) (-1) r1 = _
    unfold k_X13_block_35 k_X13_block_91
    rw [if_neg y.ne, e3, l2_bs]
    rfl
  have flt : ∀ f2 p0 c1 r1, zS f f2 p0 c c1 → yS P f f2 p0 r r1 → t_h2 (k_X6_readBraces_20 rcC (nI dd) up 0 c1) (k_X13_block_24 rcR up (nI dd) r1) (bk_O P nt f n2 n3 Y n L ka a g k c r) := fun f2 p0 c1 r1 z y => by
    refine h2_sep _ _ (z.braces (rcC := rcC) (nI dd) up 0) ?_ (fun _ _ z y => Or.inr ⟨f2, p0, z, y⟩)
    unfold k_X13_block_24
    obtain ⟨r2, e2, h2⟩ := y.mustBe 123
    rw [e2, l2_bs]
    exact lpR f2 p0 r2 h2
  unfold m_X6_readBraces m_X13_block
  rcases S.1.1.is (x := 123) (by decide) with ⟨x1, x2⟩ | ⟨x1, x2⟩
  · have x2 : f_X13_is 123 r = 1 := x2
    rw [if_pos (show c.1 1 8 = 123 from x1)]
    by_cases z : dd ≤ 16
    · unfold k_X6_readBraces_20 k_X6_readBraces_34 k_X13_block_24
      rw [if_pos (show nI dd ≤ (16 : Int32) from nI_le (b := 16) z (by decide)), if_pos (show nI dd ≤ (16 : Int32) from nI_le (b := 16) z (by decide))]
      have e : f_X2_advance c = f_X2_need (nI 123) c := by
        unfold f_X2_need
        rw [if_pos x1]
        cases f_X2_advance c <;> rfl
      rw [e]
      refine h2_bb _ (pj_need S.1.1 (by decide) (x := 123) (by decide) rfl) (fun c1 r1 hw => ?_)
      obtain ⟨y1, y2, y3⟩ := hw
      rcases y3 with J | ⟨f2, p0, y3, y4⟩
      · have S1 := (S.la (n2 := n2) (n3 := n3) (ln := 0) (A := fun _ => False) (B := fun _ => False) (k' := nx k) (by decide) rfl ⟨rfl, rfl, rfl, rfl, rfl, rfl, rfl, rfl, rfl⟩ J y1 y2).1
        exact bk_loop hf (bI.start S1 y1 y2) (hS z) hu
      · have z1 := S.z y3 y1 l2_fr.rf
        have w1 := S.y y4 y2 l2_fr.rf
        have h1 := z1.braces (rcC := rcC) 0 up 0
        unfold k_X6_readBraces_20 k_X6_readBraces_34 at h1
        rw [if_pos (by decide), z1.1.adv, l2_bs] at h1
        have e0 : ∀ x, t_loop (b_X6_readBraces_50 rcC) t_N (x, up, 0, -1, -1, 0, c1) = some (-1, c1) := fun x => z1.bloop x up 0
        obtain ⟨y4, e4, h3⟩ := lpR f2 p0 r1 w1
        rw [e0, e4]
        exact h2_sm (Or.inr ⟨f2, p0, z1, h3⟩)
    · rw [if_neg (show ¬ nI dd ≤ (16 : Int32) from nI_nl2 (b := 16) (by omega) (by omega)), if_neg (show ¬ f_X13_is 123 r = 0 by rw [x2]; decide)]
      unfold k_X6_readBraces_20
      rw [if_neg (show ¬ nI dd ≤ (16 : Int32) from nI_nl2 (b := 16) (by omega) (by omega))]
      refine h2_bb _ (pj_fail (f := 5) S.1.1 (by decide) (by decide)) (fun c1 r1 hw => ?_)
      obtain ⟨w1, w2, f2, p0, w3, w4⟩ := hw
      have z1 := S.z w3 w1 l2_fr.rf
      have h := flt f2 p0 c1 r1 z1 (S.y w4 w2 l2_fr.rf)
      unfold k_X6_readBraces_20 at h
      rw [if_neg (show ¬ nI dd ≤ (16 : Int32) from nI_nl2 (b := 16) (by omega) (by omega)), z1.1.fail, l2_bs] at h
      exact h
  · have x2 : f_X13_is 123 r = 0 := x2
    rw [if_neg (show ¬ c.1 1 8 = 123 from x1), if_pos x2, ite_self]
    unfold k_X13_block_24 f_X13_mustBe
    rw [if_pos x2, Option.bind_assoc]
    refine h2_bb _ (pj_fail (f := 2) S.1.1 (by decide) (by decide)) (fun c1 r1 hw => ?_)
    obtain ⟨w1, w2, f2, p0, w3, w4⟩ := hw
    have w := S.y w4 w2 l2_fr.rf
    obtain ⟨r2, e2, h2⟩ := w.next
    unfold k_X13_mustBe_17
    rw [e2, l2_bs, l2_bs]
    exact h2_sep _ _ ((S.z w3 w1 l2_fr.rf).braces (rcC := rcC) (nI dd) up 0) (lpR f2 p0 r2 h2) (fun _ _ z y => Or.inr ⟨f2, p0, z, y⟩)
end
