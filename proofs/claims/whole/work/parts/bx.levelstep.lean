/-! Level 2: exps on both sides: a level's loop. -/
/-- the loop's state: one more operator comes, or none, or a fault -/
def lvI (P : pc_S) (E : en_S) (lv : Nat) (rc : RT_X6_readBase) (l1 l2 : Int32) (kk tz ez pz lz wz mz sz : Nat) (cz rz : t_S) (u q m t e p l w o s i dd : Nat) (c r : t_S) (v : Nat) (x : Int32 × Int32 × Int32 × t_S) : Prop := ∃ a mo r', x = (nI lv, a, mo, r') ∧ ((mo = 1 ∧ ∃ n qq, a = nI n ∧ r'.1 950 28 = nI qq ∧ qq ≤ 3000 ∧ v = 3001 - qq ∧ lv_G P E (lv + 1) (5 - lv) (lv + 1) rc l1 l2 wz kk u q m t e p l w o s i dd c r n r') ∨ (mo = 0 ∧ lv_R P E lv rc l1 l2 kk tz ez pz lz wz mz sz cz rz u q m t e p l w o s i dd c r (a, r')) ∨ (∃ f p0, lv_C rc l1 l2 kk f p0 tz ez pz lz wz o cz c ∧ xR P f p0 mz sz rz r'))
theorem rj_jn {P : pc_S} {p0 mz sz lv : Nat} {rz r' : t_S} (h1 : lv ≤ 1) (z5 : rj P p0 mz sz rz r') : f_X13_joins (nI lv) r' = 0 := by
  obtain ⟨_, a2, a3, _⟩ := z5
  have l01 : lv = 0 ∨ lv = 1 := by omega
  unfold f_X13_joins
  rw [if_pos a2]
  rcases l01 with rfl | rfl
  · rw [if_neg (by decide), if_pos (by decide), if_neg (by rcases a3 with q | q | q | q | q | q <;> rw [q] <;> decide)]
  · rw [if_neg (by decide), if_neg (by decide), if_pos (by decide), if_neg (by rcases a3 with q | q | q | q | q | q <;> rw [q] <;> decide)]
theorem pr.F {P : pc_S} {f p0 : Nat} {r : t_S} (h : pr P f p0 r) : lr_F r f p0 := by
  obtain ⟨B, L, W0, W, V, sl, H, T, n, t0, mm⟩ := P
  exact h.1
theorem jn_01 (x : Int32) (r : t_S) : f_X13_joins x r = 0 ∨ f_X13_joins x r = 1 := by
  unfold f_X13_joins k_X13_joins_130 k_X13_joins_163 k_X13_joins_196
  repeat' (first | exact Or.inl rfl | exact Or.inr rfl | refine ite_P (fun v => v = 0 ∨ v = 1) ?_ ?_)
/-- the operator that waits on top is let go -/
theorem lv_low {P : pc_S} {E : en_S} {u q m t e p l w o s i dd x g tb e' e5 wz : Nat} {c r : t_S} (X : xp P E u 0 0 q m t e p l (w + 1) o s i dd c r) (tx : ob_T x g tb) (k : c.1 854 (2 * w) = nI x) (hj : (x ≠ 16 ∧ x ≠ 17 ∧ e5 = e') ∨ ((x = 16 ∨ x = 17) ∧ e5 = e' + 1 ∧ c.1 854 (2 * w + 1) = nI e')) (he : e5 ≤ e) (he2 : e < 16000) (hw : wz ≤ w) (hw2 : w ≤ 3000) : ∃ c3, (∀ b, b ≤ 5 → (b < tb ∨ tb = b ∧ b ≠ 3) → b_X6_lower_0 (nI wz, nI b, c) = some (.inl (nI wz, nI b, c3))) ∧ xp P E u 0 0 q m t (e + 1) p l w o s i dd c3 r ∧ ((x ≠ 16 ∧ x ≠ 17 ∧ (∃ op, px_two g op ∧ px_o c3 e op 0) ∧ l2_fr (fun b j => (b = 845 ∧ j = 7) ∨ (b = 334 ∧ j = 2) ∨ ((b = 335 ∨ b = 336) ∧ j = e)) c c3) ∨ ((x = 16 ∨ x = 17) ∧ c3.1 336 e' = nI (e + 1) ∧ px_o c3 e 30 0 ∧ l2_fr (fun b j => (b = 845 ∧ j = 7) ∨ (b = 334 ∧ j = 2) ∨ ((b = 335 ∨ b = 336) ∧ j = e) ∨ (b = 336 ∧ j = e')) c c3)) ∧ c3.1 845 10 = c.1 845 10 ∧ c3.1 1 8 = c.1 1 8 := by
  have h7 : c.1 845 7 = nI (w + 1) := X.2.2.2.2.2.2.1
  obtain ⟨c3, e1, e2, e3, e4⟩ := lw_pop (w0 := wz) h7 hw2 hw tx k X.2.2.2.1 he2 (fun z => by
    rcases hj with ⟨a, b, _⟩ | ⟨_, a, b⟩
    · omega
    · exact ⟨e', by omega, b⟩)
  have e4' : ((x ≠ 16 ∧ x ≠ 17 ∧ (∃ op, px_two g op ∧ px_o c3 e op 0) ∧ l2_fr (fun b j => (b = 845 ∧ j = 7) ∨ (b = 334 ∧ j = 2) ∨ ((b = 335 ∨ b = 336) ∧ j = e)) c c3) ∨ ((x = 16 ∨ x = 17) ∧ c3.1 336 e' = nI (e + 1) ∧ px_o c3 e 30 0 ∧ l2_fr (fun b j => (b = 845 ∧ j = 7) ∨ (b = 334 ∧ j = 2) ∨ ((b = 335 ∨ b = 336) ∧ j = e) ∨ (b = 336 ∧ j = e')) c c3)) := by
    rcases e4 with e4 | ⟨z, j, j1, j2, j3, j4, j5⟩
    · exact Or.inl e4
    · obtain ⟨_, a, b⟩ := hj.resolve_left (fun y => by omega)
      have jj : j = e' := (nI_eq (by omega) (by omega)).mp (j2.symm.trans b)
      subst jj
      exact Or.inr ⟨z, j3, j4 (by omega), j5⟩
  have fp : l2_fr (fun b j => (b = 845 ∧ j = 7) ∨ (b = 334 ∧ j = 2) ∨ ((b = 335 ∨ b = 336) ∧ (j = e ∨ j = e'))) c c3 := by
    rcases e4' with ⟨_, _, _, f⟩ | ⟨_, _, _, f⟩
    · exact f.mono (fun b j y => by omega)
    · exact f.mono (fun b j y => by omega)
  refine ⟨c3, e1, ?_, e4', (fp 845 10 (by omega)).1, (fp 1 8 (by omega)).1⟩
  obtain ⟨x1, x2, x3, x4, x5, x6, x7, x8, x9, x10, x11⟩ := X
  have nf : l2_fr (fun _ _ => False) r r := l2_fr.rf
  refine ⟨x1.fr fp nf (fun j => by omega) (fun b i _ _ => by omega) (fun b i _ _ => by omega) (by omega) (fun j _ y => y) (fun b i _ _ y => y), x2.fr fp nf (fun j _ _ => by omega) (fun b i _ _ => by omega) ⟨fun y => y, fun y => y⟩, ?_, e3, ?_, ?_, e2, ?_, x9, x10, x11⟩
  · rw [(fp 353 9 (by omega)).1]; exact x3
  · rw [(fp 334 4 (by omega)).1]; exact x5
  · rw [(fp 846 6 (by omega)).1]; exact x6
  · rw [(fp 845 9 (by omega)).1]; exact x8
/-- a second comparison: the class says so at once, the reference stays before it -/
theorem lv_two {P : pc_S} {E : en_S} {tz ez pz lz mz sz wz u q m t e p l w o s i dd x g k n : Nat} {l1 l2 : Int32} {cz rz c1 c r : t_S} {rc : RT_X6_readBase} (X : xp P E u 0 0 q m t e p l (w + 1) o s i dd c r) (hb : e ≤ 16000 ∧ o ≤ 288 ∧ w ≤ 3000 ∧ wz ≤ w) (hz : ez ≤ e ∧ mz ≤ m ∧ sz ≤ s) (tx : ob_T x g 3) (hk : c.1 854 (2 * w) = nI x) (L : lwT wz 3 n c1 c) (hn : n ≤ 1000) (eb : ∀ s, f_X6_bindingOf (c1.1 1 8) s = nI 3) (etk : c1.1 1 8 = c.1 1 8) (fc : l2_fr (xWc tz ez pz lz wz o) cz c) (fr : l2_fr (xWr mz sz) rz r) (hx : xw ez wz (w + 1) c) (hk3 : k < 3000) : ∃ p0, (∀ N, t_hk (t_loop (b_X6_readExp_60 rc) (N + 1) (l1, l2, nI wz, nI k, c1)) (fun z => z.1 = l2 ∧ xF 2 p0 tz ez pz lz wz o wz cz z.2)) ∧ rj P p0 mz sz rz r := by
  have h7 : c.1 845 7 = nI (w + 1) := X.2.2.2.2.2.2.1
  have r2 : r.1 950 2 = 0 := X.1.f0.2
  obtain ⟨c', r', f1, f2, g1, g2, g3⟩ := pj_fail (f := 2) X.1 (by decide) (by decide)
  obtain ⟨f, p0, q1, q2⟩ := xf.of (o0 := o) (m0 := mz) (s0 := sz) X (by decide) hb.1 hb.2.1 ⟨by omega, by omega⟩ ⟨hz.1, Nat.le_refl _, hz.2.1, hz.2.2⟩ fc fr g1 g2 g3 hx
  rw [rs_fail r2] at f2
  have er : t_setI (t_setI r 950 2 (nI 2)) 950 3 (r.1 950 6) = r' := Option.some.inj f2
  subst er
  obtain ⟨v1, v2, v3, v4⟩ : lr_F (t_setI (t_setI r 950 2 (nI 2)) 950 3 (r.1 950 6)) f p0 := q2.1.F
  have f2' : f = 2 := by
    simp only [l2_gI, reduceIte] at v3
    exact ((nI_eq (by decide) (by omega)).mp v3).symm
  subst f2'
  have p6 : r.1 950 6 = nI p0 := by
    simp only [l2_gI, reduceIte] at v4
    exact v4
  obtain ⟨b2, b5, eb2, jn, opx⟩ := X.1.jn
  have bb : 3 = b2 := (nI_eq (by omega) (by omega)).mp ((eb c).symm.trans ((congrArg (fun x => f_X6_bindingOf x c) etk).trans (eb2 c)))
  subst bb
  obtain ⟨x2, g2', tx2, k8, k5, k9⟩ := opx (by decide)
  have ls : f_X6_lower (nI wz) (nI 3) c1 = some c := L.lower hn (by decide) (lw_stop h7 (by omega) (tb := 3) ⟨by omega, Or.inr ⟨by omega, x, g, tx, hk⟩⟩ (by decide) (Or.inr (Or.inl ⟨rfl, Or.inl rfl⟩)))
  refine ⟨p0, fun N => ?_, r2, k5, ?_, p6, fr, ⟨m, hz.2.1, by have := X.1.mle (by decide); omega, (X.1.mle (by decide)).2.1⟩, ?_⟩
  · have e60 : b_X6_readExp_60 rc (l1, l2, nI wz, nI k, c1) = k_X6_readExp_125 rc l1 l2 (nI wz) (nI k) c' := by
      show k_X6_readExp_60 rc l1 l2 (nI wz) (nI k) c1 = _
      unfold k_X6_readExp_60
      rw [if_neg (show ¬ (3000 : Int32) ≤ nI k from nI_ge (b := 3000) hk3 (by decide)), eb, if_neg (show ¬ nI 3 = (0 : Int32) by decide), ls, l2_bs, if_pos (show nI 3 = (3 : Int32) from rfl), h7, if_neg (nI_ge (by omega) (by omega)), pw_top h7 (by omega), hk, (bo_1 tx c).1, l2_bs, if_pos (show nI 3 = (3 : Int32) from rfl)]
      show (f_X2_fail (nI 2) c).bind _ = _
      rw [f1, l2_bs]
    rw [lp_1, e60]
    obtain ⟨c4, n1, n2⟩ := q1.node
    obtain ⟨z, n3, n4, n5⟩ := n2.exp175 (rc := rc) (Nat.le_refl _) (show wz ≤ w + 1 by omega) l1 l2
    refine ⟨z, ?_, n5, n4⟩
    unfold k_X6_readExp_125
    rw [n1, l2_bs, if_neg n2.1.ne, n3]
    rfl
  · rcases tx2 with ⟨rfl, rfl, _⟩ | ⟨rfl, rfl, _⟩ | ⟨rfl, rfl, _⟩ | ⟨rfl, rfl, _⟩ | ⟨_, _, h⟩ | ⟨_, _, h⟩ | ⟨_, _, h⟩ | ⟨_, _, h⟩ | ⟨_, _, h⟩ | ⟨_, _, h⟩ | ⟨_, _, h⟩ | ⟨_, _, h⟩ | ⟨rfl, rfl, _⟩ | ⟨rfl, rfl, _⟩
    · exact Or.inr (Or.inr (Or.inl k9))
    · exact Or.inr (Or.inr (Or.inr (Or.inl k9)))
    · exact Or.inr (Or.inr (Or.inr (Or.inr (Or.inl k9))))
    · exact Or.inr (Or.inr (Or.inr (Or.inr (Or.inr k9))))
    · exact absurd h (by decide)
    · exact absurd h (by decide)
    · exact absurd h (by decide)
    · exact absurd h (by decide)
    · exact absurd h (by decide)
    · exact absurd h (by decide)
    · exact absurd h (by decide)
    · exact absurd h (by decide)
    · exact Or.inl k9
    · exact Or.inr (Or.inl k9)
  · have := q2.1
    rw [p6] at this
    exact this
theorem lv_step {k j lv dd : Nat} (hlv : lv ≤ 4) (IH : LVs k j (lv + 1) dd) : LVs k j lv dd := by
  intro P E EB PB IB xd l1 l2 kk tz ez pz lz wz mz sz cz rz u q m t e p l w o s i c r tb X hb hod hl hx hkk hz fc fr hxw htb htl
  have T : xT (R_X13_base (j + 8 - lv + 3)) := xT_R (j + 8 - lv)
  have ei : j + 8 - lv + 3 = j + 11 - lv := by omega
  rw [ei] at T
  have S10 := xS_R (k + 6)
  have hB1 : ∀ x, bC ((R_X6_readBase (k + 10)).2.2.2.2.2.2.2.1 x) := S10.2.2.2.2.2.2.1
  have hz' := hz
  have hb' := hb
  unfold xb at hb'
  have ple := X.1.ple
  have e12 : j + 12 - lv = (j + 11 - lv) + 1 := by omega
  have nlv : nI lv + (1 : Int32) = nI (lv + 1) := by rw [nI_succ]
  have n5 : ¬ nI lv = (5 : Int32) := fun y => by have := (nI_eq (b := 5) (by omega) (by decide)).mp y; omega
  rw [e12]
  show t_hk (m_X13_level (R_X13_base (j + 11 - lv)) (nI lv) r) _
  unfold m_X13_level
  refine l2_ck X.1.f0.2 (l2_no n5 ?_)
  rw [nlv]
  have IH0 := IH P E EB PB IB xd l1 l2 kk tz ez pz lz wz mz sz cz rz u q m t e p l w o s i c r tb X hb hod hl hx hkk hz fc fr hxw htb (by omega)
  rw [show j + 12 - (lv + 1) = j + 11 - lv by omega] at IH0
  refine l2_bd _ IH0 (fun y hy => ?_)
  obtain ⟨ya, yr⟩ := y
  -- at a state of the loop's head: what joins says
  have head : ∀ a r', ((∃ n b, a = nI n ∧ b ≤ lv + 1 ∧ lv_G P E (lv + 1) (5 - lv) b (R_X6_readBase (k + 10)) l1 l2 wz kk u q m t e p l w o s i dd c r n r') ∨ (∃ f p0, lv_C (R_X6_readBase (k + 10)) l1 l2 kk f p0 tz ez pz lz wz o cz c ∧ xR P f p0 mz sz rz r') ∨ (lv ≤ 1 ∧ ∃ n p0, a = nI n ∧ mz ≤ n ∧ n < 13000 ∧ r'.1 960 n = -1 ∧ lv_C (R_X6_readBase (k + 10)) l1 l2 kk 2 p0 tz ez pz lz wz o cz c ∧ rj P p0 mz sz rz r')) → ∃ v, v ≤ 3001 ∧ lvI P E lv (R_X6_readBase (k + 10)) l1 l2 kk tz ez pz lz wz mz sz cz rz u q m t e p l w o s i dd c r v (nI lv, a, f_X13_joins (nI lv) r', r') ∧ ((∃ n b qq, a = nI n ∧ lv_G P E (lv + 1) (5 - lv) b (R_X6_readBase (k + 10)) l1 l2 wz kk u q m t e p l w o s i dd c r n r' ∧ r'.1 950 28 = nI qq ∧ qq ≤ 3000 ∧ v ≤ 3001 - qq) ∨ v = 0) := by
    intro a r' h
    rcases h with ⟨n, b, e1, hb2, G⟩ | h | ⟨h1, n, p0, e1, z1, z2, z3, z4, z5⟩
    · have GG := G
      obtain ⟨j1, c1, c2, qq, EQ, G1, L, eb, etk, h10, hq⟩ := GG
      obtain ⟨u', q', m', t', e', p', l', s', i', K1, K2, X', _⟩ := G1
      have q28 := X'.q28
      obtain ⟨b', b5, eb', jn, _⟩ := X'.1.jn
      have bb : b = b' := (nI_eq (by omega) (by omega)).mp ((eb c1).symm.trans ((congrArg (fun x => f_X6_bindingOf x c1) etk).trans (eb' c1)))
      subst bb
      by_cases z : b = lv + 1
      · refine ⟨3001 - q', by omega, ⟨a, _, r', rfl, Or.inl ⟨by rw [jn lv hlv, if_pos z], n, q', e1, q28.1, q28.2, rfl, by rw [← z]; exact z ▸ G⟩⟩, Or.inl ⟨n, b, q', e1, G, q28.1, q28.2, Nat.le_refl _⟩⟩
      · refine ⟨0, by omega, ⟨a, _, r', rfl, Or.inr (Or.inl ⟨by rw [jn lv hlv, if_neg z], Or.inl ⟨n, b, e1, by omega, ?_⟩⟩)⟩, Or.inr rfl⟩
        obtain ⟨j1, c1, c2, qq, EQ, G1, L, eb, etk, h10, hq⟩ := G
        exact ⟨j1, c1, c2, qq, EQ, G1, L.low (by omega) (Nat.le_refl _), eb, etk, h10, hq⟩
    · exact ⟨0, by omega, ⟨a, _, r', rfl, Or.inr (Or.inr h)⟩, Or.inr rfl⟩
    · have js : f_X13_joins (nI lv) r' = 0 := rj_jn h1 z5
      exact ⟨0, by omega, ⟨a, _, r', rfl, Or.inr (Or.inl ⟨js, Or.inr (Or.inr ⟨by omega, n, p0, e1, z1, z2, z3, z4, z5⟩)⟩)⟩, Or.inr rfl⟩
  have first : ∃ v, v ≤ 3001 ∧ lvI P E lv (R_X6_readBase (k + 10)) l1 l2 kk tz ez pz lz wz mz sz cz rz u q m t e p l w o s i dd c r v (nI lv, ya, f_X13_joins (nI lv) yr, yr) := by
    obtain ⟨v, v1, v2, _⟩ := head ya yr (by
      rcases hy with ⟨n, b, e1, hb2, j1, c1, c2, qq, EQ, G1, L, eb, etk, h10, hq⟩ | hy | ⟨h1, hy⟩
      · exact Or.inl ⟨n, b, e1, hb2, j1, c1, c2, qq, EQ, G1.low (by omega), L.low (Nat.le_refl _) (by omega), eb, etk, h10, hq⟩
      · exact Or.inr (Or.inl hy)
      · exact Or.inr (Or.inr ⟨by omega, hy⟩))
    exact ⟨v, v1, v2⟩
  obtain ⟨v0, hv0, first⟩ := first
  refine l2_lp (fun v x => lvI P E lv (R_X6_readBase (k + 10)) l1 l2 kk tz ez pz lz wz mz sz cz rz u q m t e p l w o s i dd c r v x) ?_ (m := v0) (Nat.lt_trans (show v0 < 1000000000 by omega) l2_N) first
  rintro v x ⟨a, mo, ra, rfl, h⟩
  show t_hk (k_X13_level_33 (R_X13_base (j + 11 - lv)) (nI lv) a mo ra) _
  unfold k_X13_level_33
  rcases h with ⟨rfl, n, qq, rfl, q28, qq3, rfl, j1, c1, c2, qq', EQ, G, L, eb, etk, h10, hq⟩ | ⟨rfl, h⟩ | ⟨f, p0, h1, h2⟩
  rotate_left
  · exact l2_ck rfl (l2_mp (l2_sm h))
  · exact l2_if (fun _ => l2_mp (l2_sm (Or.inr (Or.inl ⟨f, p0, h1, h2⟩)))) (fun _ => l2_no h2.ne (l2_mp (l2_sm (Or.inr (Or.inl ⟨f, p0, h1, h2⟩)))))
  -- an operator
  obtain ⟨u', q', m', t', e', p', l', s', i', G1, G2, X', G3, G4, G5, G6, G7, _⟩ := G
  have G1' := G1
  unfold xk at G1'
  obtain ⟨n1, n2, n3, n4⟩ := G5.at
  have ple' := X'.1.ple
  have bd := hb.ebound G1 ple'.2.2 ple'.1 ple'.2.1
  have qe : qq = q' ∧ qq' = q' := ⟨(nI_eq (by omega) (by omega)).mp (q28.symm.trans X'.q28.1), (nI_eq (by omega) (by omega)).mp (h10.symm.trans (X'.1.mle (by decide)).2.2.2)⟩
  obtain ⟨b', b5', eb', jn, opx⟩ := X'.1.jn
  have bb : lv + 1 = b' := (nI_eq (by omega) (by omega)).mp ((eb c1).symm.trans ((congrArg (fun x => f_X6_bindingOf x c1) etk).trans (eb' c1)))
  obtain ⟨x, g, tx, e8, e5, e9⟩ := opx (by omega)
  rw [← bb] at tx
  obtain ⟨_, _, _, sgx, xbd⟩ := bo_1 tx c2
  have gb : g < 70000 := by rw [← sgx]; exact sg_lt (by omega)
  refine l2_no (by decide) (l2_ck X'.1.f0.2 ?_)
  have wz1 : wz ≤ w := htb.1
  have fc2 : l2_fr (xWc tz ez pz lz wz o) cz c2 := fc.trans (G3.mono (fun b j y => y.sub (by omega) (by omega) (by omega) (by omega) wz1 (Nat.le_refl _)))
  have fr2 : l2_fr (xWr mz sz) rz ra := fr.trans (G4.mono (fun b j y => y.sub (by omega) (by omega)))
  have hxw2 : xw ez wz w c2 := fun i h1 h2 h3 => by
    rw [(G3 854 _ (by unfold xWc; omega)).1] at h3
    obtain ⟨j, z⟩ := hxw i h1 h2 h3
    exact ⟨j, by rw [(G3 854 _ (by unfold xWc; omega)).1]; exact z⟩
  have h7 : c2.1 845 7 = nI w := X'.2.2.2.2.2.2.1
  have tb2 : tb_R wz w tb c2 := by
    refine ⟨wz1, htb.2.elim Or.inl (fun ⟨z1, x, g, z2, z3⟩ => Or.inr ⟨z1, x, g, z2, ?_⟩)⟩
    rw [(G3 854 _ (by unfold xWc; omega)).1]
    exact z3
  have ET : ∀ N, exL (R_X6_readBase (k + 10)) l1 l2 wz (N + 1 + j1) kk c = (f_X6_node c2).bind (fun r1 => if r1.1 1 11 = 0 then (f_X6_pushOperator (r1.1 1 8) r1).bind (fun r2 => (f_X2_advance r2).bind (fun r3 => exL (R_X6_readBase (k + 10)) l1 l2 wz N (kk + j1 + 1) r3)) else k_X6_readExp_175 (R_X6_readBase (k + 10)) l1 l2 (nI wz) r1) := fun N => by
    rw [EQ (N + 1)]
    exact ex_turn (by omega) (by omega) (by omega) (Nat.le_refl _) eb L (by omega) h7 (by omega) tb2 (by omega)
  obtain ⟨c3, y, en1, en2, cs⟩ := xp_node (K := 70) X' (by decide) s'
  have en2 : f_X13_node 70 1 ra = some y := en2
  rw [en2, l2_bs]
  obtain ⟨y0, r1⟩ := y
  -- the loop goes on behind a fault
  have out : ∀ {f p0 : Nat} {z : (Int32 × Int32 × Int32 × t_S) ⊕ (Int32 × t_S)}, lv_C (R_X6_readBase (k + 10)) l1 l2 kk f p0 tz ez pz lz wz o cz c → (∃ a' mo r', z = .inl (nI lv, a', mo, r') ∧ xR P f p0 mz sz rz r') → l2_nx (fun x => ∃ v', v' < 3001 - qq ∧ lvI P E lv (R_X6_readBase (k + 10)) l1 l2 kk tz ez pz lz wz mz sz cz rz u q m t e p l w o s i dd c r v' x) (lv_R P E lv (R_X6_readBase (k + 10)) l1 l2 kk tz ez pz lz wz mz sz cz rz u q m t e p l w o s i dd c r) z := by
    intro f p0 z hC hz
    obtain ⟨a', mo, r', rfl, h'⟩ := hz
    exact ⟨0, by omega, a', mo, r', rfl, Or.inr (Or.inr ⟨f, p0, hC, h'⟩)⟩
  rcases cs with ⟨hq1, g1, hm, y1, y2, y3, y4, X3⟩ | ⟨g1, f, p0, y1, y2, ⟨j', j1', j2', j3'⟩, y4, y5⟩
  rotate_left
  · have j3' : y0 = nI j' := j3'
    subst j3'
    have hF : xF f p0 tz ez pz lz wz o w cz c3 := xF.of X' (by omega) (by omega) ⟨wz1, by omega⟩ ⟨by omega, Nat.le_refl _⟩ fc2 g1 (fun b j z => x_la z) ⟨by unfold la_W; omega, by unfold la_W; omega, by unfold la_W; omega⟩ (fun j => by unfold la_W; omega) y1 hxw2
    have hR : xR P f p0 mz sz rz r1 := y2.sub fr2 (by omega) (by omega)
    have hC : lv_C (R_X6_readBase (k + 10)) l1 l2 kk f p0 tz ez pz lz wz o cz c := fun N hN => by
      obtain ⟨N', rfl⟩ : ∃ a, N = a + 1 + j1 := ⟨N - 1 - j1, by omega⟩
      rw [ET, en1, l2_bs, if_neg y1.ne]
      exact l2_imp (hF.exp175 (Nat.le_refl _) wz1 l1 l2) (fun z hz => ⟨hz.2, hz.1⟩)
    refine l2_ck (l2_ix j2' (by decide)) ?_
    show t_hk (t_let (t_setJ r1 957 ((nI j').toNatClampNeg) _) _) _
    rw [nI_clamp (n := j') (by omega)]
    exact l2_imp (xR.lvB T hR ⟨by omega, j2'⟩ _) (fun z hz => out hC hz)
  have y1 : y0 = nI m' := y1
  subst y1
  rw [if_neg (by decide)] at X3
  have X3 : xp P E u' 0 1 (q' + 1) (m' + 1) t' e' p' l' w o s' i' dd c3 r1 := X3
  have y2 : l2_fr (xn_W m') ra r1 := y2
  have y3 : nd_at r1 m' (nI 70) (ra.1 950 6) := y3
  obtain ⟨d1, d2, d3, d4, d5, d6, d7⟩ := y3
  have k83 : c3.1 1 8 = nI x := by rw [(g1 1 8 (by omega)).1]; exact e8
  have k93 : r1.1 950 9 = nI g := by rw [(y2 950 9 (by unfold xn_W; omega)).1]; exact e9
  refine l2_ck (l2_ix (by omega) (by decide)) (l2_lt ?_)
  show t_hk ((f_X13_next (t_setJ r1 957 ((nI m').toNatClampNeg) (r1.1 950 9).toInt64)).bind _) _
  rw [nI_clamp (n := m') (by omega), k93, nI_l (n := g) (by omega)]
  have f2 : l2_fr (fun b j => b = 957 ∧ j = m') r1 (t_setJ r1 957 m' (lN g)) := l2_fr.setJ ⟨rfl, rfl⟩
  have v57 : (t_setJ r1 957 m' (lN g)).2.1 957 m' = lN g := by simp only [l2_gJ, reduceIte]
  generalize t_setJ r1 957 m' (lN g) = r2 at *
  have X3' := X3.own (l2_fr.rf (W := fun _ _ => False)) f2 (fun b j y => y.elim) (fun b j y => by omega)
  obtain ⟨c4, ep, e5', X4, k4, f4, hx4⟩ := pu_op X3' tx (by omega) (by omega)
  have k84 : c4.1 1 8 = nI x := by rw [(f4 1 8 (by omega)).1]; exact k83
  have nx : nI x ≠ 1 ∧ nI x ≠ 4 := ⟨fun y => by have := (nI_eq (b := 1) (by omega) (by decide)).mp y; omega, fun y => by have := (nI_eq (b := 4) (by omega) (by decide)).mp y; omega⟩
  obtain ⟨c5, r3, ea1, ea2, a2, a3, a4⟩ := xp_adv X4 (by decide) (Or.inr (by rw [k84]; exact nx.1)) (by rw [k84]; exact nx.2)
  rw [ea2, l2_bs]
  have ET2 : ∀ N, exL (R_X6_readBase (k + 10)) l1 l2 wz (N + 1 + j1) kk c = exL (R_X6_readBase (k + 10)) l1 l2 wz N (kk + j1 + 1) c5 := fun N => by
    rw [ET, en1, l2_bs, if_pos X3.1.f0.1, k83, ep, l2_bs, ea1, l2_bs]
  have toC : ∀ {f p0 : Nat}, lv_C (R_X6_readBase (k + 10)) l1 l2 (kk + j1 + 1) f p0 tz ez pz lz wz o cz c5 → lv_C (R_X6_readBase (k + 10)) l1 l2 kk f p0 tz ez pz lz wz o cz c := fun h N hN => by
    obtain ⟨N', rfl⟩ : ∃ a, N = a + 1 + j1 := ⟨N - 1 - j1, by omega⟩
    rw [ET2]
    exact h N' (by omega)
  have e5b : e' ≤ e5' ∧ e5' ≤ e' + 1 := by omega
  have f24 : l2_fr (fun b j => (b = 845 ∧ (j = 7 ∨ j = 10)) ∨ (b = 854 ∧ (j = 2 * w ∨ j = 2 * w + 1)) ∨ (b = 334 ∧ j = 2) ∨ ((b = 335 ∨ b = 336) ∧ j = e')) c2 c4 := (g1.mono (fun b j y => by omega)).trans (f4.mono (fun b j y => by omega))
  have up4 : ∀ b j, ((b = 845 ∧ (j = 7 ∨ j = 10)) ∨ (b = 854 ∧ (j = 2 * w ∨ j = 2 * w + 1)) ∨ (b = 334 ∧ j = 2) ∨ ((b = 335 ∨ b = 336) ∧ j = e')) → xWc tz ez pz lz wz o b j := fun b j y => by
    rcases y with ⟨rfl, y⟩ | ⟨rfl, y⟩ | ⟨rfl, rfl⟩ | ⟨y, rfl⟩
    · exact xWc.i845 (by omega)
    · exact xWc.iwt (by omega)
    · exact xWc.i334 (Or.inl rfl)
    · exact xWc.iop y (by omega)
  have fc4 : l2_fr (xWc tz ez pz lz wz o) cz c4 := fc2.trans (f24.mono up4)
  have fra2 : l2_fr (fun b j => xn_W m' b j ∨ (b = 957 ∧ j = m')) ra r2 := (y2.mono (fun b j y => Or.inl y)).trans (f2.mono (fun b j y => Or.inr y))
  have fr3 : l2_fr (xWr mz sz) rz r2 := fr2.trans (fra2.mono (fun b j y => by
    rcases y with y | ⟨rfl, rfl⟩
    · exact (xn_r y).sub (by omega) (Nat.le_refl _)
    · exact Or.inr (Or.inr (Or.inl ⟨by decide, by decide, by omega⟩))))
  have hxw4 : xw ez wz (w + 1) c4 := fun i h1 h2 h3 => by
    by_cases z : i = w
    · subst z
      rw [k4] at h3
      rcases hx4 with ⟨z1, z2, _⟩ | ⟨z1, z2, z3, _⟩
      · rcases h3 with h3 | h3
        · exact absurd ((nI_eq (b := 16) (by omega) (by decide)).mp h3) z1
        · exact absurd ((nI_eq (b := 17) (by omega) (by decide)).mp h3) z2
      · exact ⟨e', by omega, by omega, z3⟩
    · rw [(f24 854 _ (by omega)).1] at h3
      obtain ⟨j, z⟩ := hxw2 i h1 (by omega) h3
      exact ⟨j, by rw [(f24 854 _ (by omega)).1]; exact z⟩
  rcases a4 with ⟨X5, z1, z2⟩ | a4
  rotate_left
  · obtain ⟨f, p0, q1, q2⟩ := xf.of (o0 := o) (m0 := mz) (s0 := sz) X4 (by decide) (by omega) (by omega) ⟨by omega, by omega⟩ ⟨by omega, Nat.le_refl _, by omega, by omega⟩ fc4 fr3 a2 a3 a4 hxw4
    have hC := toC (lv_C.flt (rc := R_X6_readBase (k + 10)) (l1 := l1) (l2 := l2) (kk := kk + j1 + 1) hB1 q1 (by omega) (by omega))
    exact l2_imp (q2.lvC T) (fun z hz => out hC hz)
  -- the left side hangs there
  have h59 : r3.1 959 m' = -1 := by rw [(a3 959 m' (by unfold rn_W; omega)).1, (f2 959 m' (by omega)).1]; exact d5
  rw [hg_0 (by omega) X5.1.f0.2 h59, l2_bs]
  have f3 : l2_fr (fun b j => b = 959 ∧ j = m') r3 (t_setI r3 959 m' (nI n)) := l2_fr.set ⟨rfl, rfl⟩
  have v59 : (t_setI r3 959 m' (nI n)).1 959 m' = nI n := by simp only [l2_gI, reduceIte]
  generalize t_setI r3 959 m' (nI n) = r4 at *
  have X6 := X5.own (l2_fr.rf (W := fun _ _ => False)) f3 (fun b j y => y.elim) (fun b j y => by omega)
  have hb6 : xb P EB PB IB (u' + 1) (q' + 1) t' e5' p' l' (w + 1) o s' i' dd := by
    unfold xb at hb ⊢
    omega
  have fc5 : l2_fr (xWc tz ez pz lz wz o) cz c5 := fc4.trans (a2.mono (fun b j y => x_la y))
  have fr4 : l2_fr (xWr mz sz) rz r4 := (fr3.trans (a3.mono (fun b j y => x_rn y))).trans (f3.mono (fun b j y => Or.inr (Or.inr (Or.inl ⟨by omega, by omega, by omega⟩))))
  have hxw5 : xw ez wz (w + 1) c5 := fun i h1 h2 h3 => by
    rw [(a2 854 _ (by unfold la_W; omega)).1] at h3
    obtain ⟨j, z⟩ := hxw4 i h1 h2 h3
    exact ⟨j, by rw [(a2 854 _ (by unfold la_W; omega)).1]; exact z⟩
  have k5 : c5.1 854 (2 * w) = nI x := by rw [(a2 854 _ (by unfold la_W; omega)).1]; exact k4
  have tb5 : tb_R wz (w + 1) (lv + 1) c5 := ⟨by omega, Or.inr ⟨by omega, x, g, tx, k5⟩⟩
  have IH5 := IH P E EB PB IB xd l1 l2 (kk + j1 + 1) tz ez pz lz wz (m' + 1) s' cz r4 (u' + 1) (q' + 1) (m' + 1) t' e5' p' l' (w + 1) o s' i' c5 r4 (lv + 1) X6 hb6 hod hl hx (by omega) ⟨by omega, by omega, by omega, by omega, Nat.le_refl _, Nat.le_refl _⟩ fc5 l2_fr.rf hxw5 tb5 (Nat.le_refl _)
  rw [show j + 12 - (lv + 1) = j + 11 - lv by omega] at IH5
  rw [nlv]
  refine l2_bd _ IH5 (fun y5 hy5 => ?_)
  obtain ⟨ya5, r5⟩ := y5
  have h60 : r4.1 960 n = -1 := by rw [(f3 960 n (by omega)).1, (a3 960 n (by unfold rn_W; omega)).1, (fra2 960 n (by unfold xn_W; omega)).1]; exact G7
  have h60' : r4.1 960 m' = -1 := by rw [(f3 960 m' (by omega)).1, (a3 960 m' (by unfold rn_W; omega)).1, (f2 960 m' (by omega)).1]; exact d6
  have hm13 : m' < 13000 := by omega
  have hn13 : n < 13000 := by omega
  have jn2 : ∀ r6, nI lv ≠ 2 → (if nI lv = (2 : Int32) then (k_X13_level_109 (R_X13_base (j + 11 - lv)) (nI lv) (nI m') r6) else (if (f_X13_joins (nI lv) r6) = (0 : Int32) then (k_X13_level_109 (R_X13_base (j + 11 - lv)) (nI lv) (nI m') r6) else (k_X13_level_110 (R_X13_base (j + 11 - lv)) (nI lv) (nI m') 1 r6))) = some (.inl (nI lv, nI m', f_X13_joins (nI lv) r6, r6)) := fun r6 h => by
    rw [if_neg h]
    unfold k_X13_level_109 k_X13_level_110
    rcases jn_01 (nI lv) r6 with z | z
    · rw [z, if_pos rfl]
    · rw [z, if_neg (by decide)]
  rcases hy5 with ⟨n2, b2, rfl, hb2, j2, c1', c2', qq2, EQ2, xG2, L2, eb2, etk2, h102, hq2⟩ | ⟨f, p0, hC, hR⟩ | ⟨lv1, n2, p0, rfl, z1, z2, z3, hC, hJ⟩
  · have xG2 : xG P E 0 0 (20 * dd - (5 - (lv + 1))) (u' + 1) (q' + 1) (m' + 1) t' e5' p' l' (w + 1) o s' i' dd c5 r4 n2 c2' r5 := xG2
    obtain ⟨u6, q6, m6, t6, e6, p6, l6, s6, i6, H1, H2, X7, H3, H4, H5, H6, H7, _⟩ := xG2
    have H1' := H1
    unfold xk at H1'
    have bd6 := hb6.ebound H1 X7.1.ple.2.2 X7.1.ple.1 X7.1.ple.2.1
    have q28' := X7.q28
    have k55 : c2'.1 854 (2 * w) = nI x := by rw [(H3 854 _ (by unfold xWc; omega)).1]; exact k5
    have hj5 : (x ≠ 16 ∧ x ≠ 17 ∧ e5' = e') ∨ ((x = 16 ∨ x = 17) ∧ e5' = e' + 1 ∧ c2'.1 854 (2 * w + 1) = nI e') := by
      rcases hx4 with h | ⟨h, h2, h3, _⟩
      · exact Or.inl h
      · exact Or.inr ⟨h, h2, by rw [(H3 854 _ (by unfold xWc; omega)).1, (a2 854 _ (by unfold la_W; omega)).1]; exact h3⟩
    have hj6 : (x ≠ 16 ∧ x ≠ 17 ∧ e5' = e') ∨ ((x = 16 ∨ x = 17) ∧ e5' = e' + 1 ∧ ∃ op, px_log g op ∧ c5.1 335 e' = nI op) := by
      rcases hx4 with h | ⟨h, h2, h3, op, h4, h5⟩
      · exact Or.inl h
      · exact Or.inr ⟨h, h2, op, h4, by rw [(a2 335 _ (by unfold la_W; omega)).1]; exact h5⟩
    obtain ⟨c3', lw, X8, hpop, h10', etk'⟩ := lv_low X7 tx k55 hj5 (by omega) (by omega) wz1 (by omega)
    rw [hg_1 hm13 hn13 X7.1.f0.2 (by rw [(H4 959 m' (by unfold xWr; omega)).1]; exact v59) (by rw [(H4 960 n (by unfold xWr; omega)).1]; exact h60), l2_bs]
    have f56 : l2_fr (fun b j => b = 960 ∧ j = n) r5 (t_setI r5 960 n (nI n2)) := l2_fr.set ⟨rfl, rfl⟩
    have k6 : (t_setI r5 960 n (nI n2)).1 960 n = nI n2 := by simp only [l2_gI, reduceIte]
    generalize t_setI r5 960 n (nI n2) = r6 at *
    have X9 := X8.own (l2_fr.rf (W := fun _ _ => False)) f56 (fun b j y => y.elim) (fun b j y => by omega)
    have fra : l2_fr (fun b j => rn_W b j ∨ xn_W m' b j ∨ ((b = 957 ∨ b = 959) ∧ j = m')) ra r4 := ((fra2.mono (fun b j y => by
      rcases y with y | ⟨rfl, rfl⟩
      · exact Or.inr (Or.inl y)
      · exact Or.inr (Or.inr ⟨Or.inl rfl, rfl⟩))).trans (a3.mono (fun b j y => Or.inl y))).trans (f3.mono (fun b j y => Or.inr (Or.inr ⟨Or.inr y.1, y.2⟩)))
    have f25 : l2_fr (fun b j => la_W b j ∨ (b = 845 ∧ (j = 7 ∨ j = 10)) ∨ (b = 854 ∧ (j = 2 * w ∨ j = 2 * w + 1)) ∨ (b = 334 ∧ j = 2) ∨ ((b = 335 ∨ b = 336) ∧ j = e')) c2 c5 := (f24.mono (fun b j y => Or.inr y)).trans (a2.mono (fun b j y => Or.inl y))
    have k7 : r4.1 955 m' = 70 := by rw [(f3 955 m' (by omega)).1, (a3 955 m' (by unfold rn_W; omega)).1, (f2 955 m' (by omega)).1]; exact d1
    have k8 : r4.2.1 957 m' = lN g := by rw [(f3 957 m' (by omega)).2.1, (a3 957 m' (by unfold rn_W; omega)).2.1]; exact v57
    by_cases two : lv = 2 ∧ b2 = 3
    · obtain ⟨rfl, rfl⟩ := two
      obtain ⟨p0, w1, w2⟩ := lv_two (rc := R_X6_readBase (k + 10)) (l1 := l1) (l2 := l2) (k := kk + j1 + 1 + j2) (mz := mz) (sz := sz) (tz := tz) (ez := ez) (pz := pz) (lz := lz) (wz := wz) (cz := cz) (rz := rz) X7 ⟨by omega, by omega, by omega, wz1⟩ ⟨by omega, by omega, by omega⟩ tx k55 L2 (by omega) eb2 etk2 (fc5.trans (H3.mono (fun b j y => y.sub (by omega) (by omega) (by omega) (by omega) (by omega) (Nat.le_refl _)))) (fr4.trans (H4.mono (fun b j y => y.sub (by omega) (by omega)))) (fun i h1 h2 h3 => by
        rw [(H3 854 _ (by unfold xWc; omega)).1] at h3
        obtain ⟨j, z⟩ := hxw5 i h1 h2 h3
        exact ⟨j, by rw [(H3 854 _ (by unfold xWc; omega)).1]; exact z⟩) (by omega)
      have hC : lv_C (R_X6_readBase (k + 10)) l1 l2 kk 2 p0 tz ez pz lz wz o cz c := toC (fun N hN => by
        obtain ⟨N', rfl⟩ : ∃ a, N = a + 1 + j2 := ⟨N - 1 - j2, by omega⟩
        rw [EQ2]
        exact w1 N')
      rw [if_pos (show nI 2 = (2 : Int32) from rfl)]
      unfold k_X13_level_109 k_X13_level_110
      refine l2_sm ⟨0, by omega, nI m', 0, r6, rfl, Or.inr (Or.inl ⟨rfl, Or.inr (Or.inr ⟨by decide, m', p0, rfl, by omega, hm13, ?_, hC, w2.fr f56 (fun b j y => Or.inl (by omega))⟩)⟩)⟩
      rw [(f56 960 m' (by omega)).1, (H4 960 m' (by unfold xWr; omega)).1]
      exact h60'
    · have G' : lv_G P E (if lv = 2 then 2 else lv + 1) (5 - lv) b2 (R_X6_readBase (k + 10)) l1 l2 wz kk u q m t e p l w o s i dd c r m' r6 := by
        refine ⟨j1 + 1 + j2, c1', c3', qq2, fun N => ?_, lv_join (rx := 20 * dd - (5 - lv)) ⟨by have q0 := hb; unfold xb at q0; omega, by omega⟩ G1 G2 G3 G4 G5 G6 (by omega) z2 (by omega) hj6 f25 fra k7 k8 v59 h60' H1 H2 H3 H4 (H5.low (by omega)) H6 hpop f56 k6 X9, ?_, eb2, etk2.trans etk'.symm, h10'.trans h102, by omega⟩
        · rw [show N + (j1 + 1 + j2) = N + j2 + 1 + j1 by omega, ET2, EQ2, show kk + j1 + 1 + j2 = kk + (j1 + 1 + j2) by omega]
        · have L3 := L2.then (c3 := c3') (th' := if lv = 2 then 2 else lv + 1) (by split <;> omega) (fun b hb => lw b (by split at hb <;> omega) (by split at hb <;> omega))
          rw [show 5 - (lv + 1) + 1 = 5 - lv by omega] at L3
          exact L3
      by_cases lv2 : lv = 2
      · subst lv2
        rw [if_pos rfl] at G'
        rw [if_pos (show nI 2 = (2 : Int32) from rfl)]
        unfold k_X13_level_109 k_X13_level_110
        exact l2_sm ⟨0, by omega, nI m', 0, r6, rfl, Or.inr (Or.inl ⟨rfl, Or.inl ⟨m', b2, rfl, by omega, G'⟩⟩)⟩
      · rw [if_neg lv2] at G'
        rw [jn2 r6 (fun y => lv2 ((nI_eq (b := 2) (by omega) (by decide)).mp y))]
        obtain ⟨v', v1, v2, v3⟩ := head (nI m') r6 (Or.inl ⟨m', b2, rfl, hb2, G'⟩)
        refine l2_sm ⟨v', ?_, v2⟩
        rcases v3 with ⟨_, _, qq3, _, _, v4, v5, v6⟩ | v3
        · have : qq3 = q6 := (nI_eq (by omega) (by omega)).mp (v4.symm.trans X9.q28.1)
          omega
        · omega
  · have hC := toC hC
    have hR : xR P f p0 mz sz rz r5 := hR.sub fr4 (by omega) (by omega)
    refine l2_eq (hR.hang _ _) ?_
    unfold k_X13_level_109 k_X13_level_110
    exact l2_if (fun _ => l2_sm (out hC ⟨_, _, _, rfl, hR⟩)) (fun _ => l2_if (fun _ => l2_sm (out hC ⟨_, _, _, rfl, hR⟩)) (fun _ => l2_sm (out hC ⟨_, _, _, rfl, hR⟩)))
  · have hC := toC hC
    have hJ : rj P p0 (m' + 1) s' r4 r5 := hJ
    have H4 : l2_fr (xWr (m' + 1) s') r4 r5 := hJ.2.2.2.2.1
    rw [hg_1 hm13 hn13 hJ.1 (by rw [(H4 959 m' (by unfold xWr; omega)).1]; exact v59) (by rw [(H4 960 n (by unfold xWr; omega)).1]; exact h60), l2_bs]
    have f56 : l2_fr (fun b j => b = 960 ∧ j = n) r5 (t_setI r5 960 n (nI n2)) := l2_fr.set ⟨rfl, rfl⟩
    generalize t_setI r5 960 n (nI n2) = r6 at *
    have J6 : rj P p0 mz sz rz r6 := (hJ.sub fr4 (by omega) (by omega)).fr f56 (fun b j y => Or.inl (by omega))
    rw [jn2 r6 (fun y => by have := (nI_eq (b := 2) (by omega) (by decide)).mp y; omega)]
    exact l2_sm ⟨0, by omega, nI m', _, r6, rfl, Or.inr (Or.inl ⟨rj_jn (by omega) J6, Or.inr (Or.inr ⟨by omega, m', p0, rfl, by omega, hm13, by rw [(f56 960 m' (by omega)).1, (H4 960 m' (by unfold xWr; omega)).1]; exact h60', hC, J6⟩)⟩)⟩
