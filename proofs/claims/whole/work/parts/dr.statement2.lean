/-! Level 2: a statement whole. -/
/-- the class's statement behind its line -/
noncomputable def ctC (rc : RT_X6_readAlts) (d : Int32) (so ln : Nat) (c : t_S) : Option (Int32 × t_S) := if nI so = (2 : Int32) then (k_X6_readStatement_98 rc d (nI so) (nI ln) (445 + ln) c) else (if (f_X6_isEvent (nI so) c) = (0 : Int32) then ((f_X2_advance c).bind (fun r4 => k_X6_readStatement_98 rc d (nI so) (nI ln) (445 + ln) r4)) else (k_X6_readStatement_98 rc d (nI so) (nI ln) (445 + ln) c))
section
variable {P : pc_S} {nt : Nat → Nat} {f n n' n2 n3 Y a g f2 p0 so K V d dd i ln : Nat} {L L' v : Nat → Nat} {ka up w3 w4 : Int32} {k k0 k' : Nat → Nat} {c0 r0 c r c1 r1 c' r' : t_S} {A B : Nat → Prop} {rcC : RT_X6_readAlts} {rcR : RT_X13_block}
theorem k98_3 {d0 : Int32} (hl : ln < 400) (hd : d0 + 1 = nI d) (s : t_S) : k_X6_readStatement_98 rcC d0 (nI 3) (nI ln) (445 + ln) s = if_C rcC (nI d) ln (if_C3 rcC (nI d) ln) s := by
  obtain ⟨s1, s2⟩ := st_sh ln hl
  unfold k_X6_readStatement_98 if_C
  rw [if_neg (by decide), if_neg (by decide), if_pos (by decide), hd, s1, s2]
  simp only [show t_ix (5 : Int32) 12 = true from by decide, show t_ix (3 : Int32) 12 = true from by decide, show t_ix (4 : Int32) 12 = true from by decide, if_true]
  rfl
theorem k98_4 {d0 : Int32} (hl : ln < 400) (hd : d0 + 1 = nI d) (s : t_S) : k_X6_readStatement_98 rcC d0 (nI 4) (nI ln) (445 + ln) s = if_C rcC (nI d) ln (fun s => some (nI ln, s)) s := by
  obtain ⟨s1, s2⟩ := st_sh ln hl
  unfold k_X6_readStatement_98 if_C
  rw [if_neg (by decide), if_neg (by decide), if_neg (by decide), if_pos (by decide), hd, s1, s2]
  simp only [show t_ix (5 : Int32) 12 = true from by decide, show t_ix (3 : Int32) 12 = true from by decide, if_true]
  rfl
theorem k98_10 {d0 : Int32} (hl : ln < 400) (hd : d0 + 1 = nI d) (s : t_S) : k_X6_readStatement_98 rcC d0 (nI 10) (nI ln) (445 + ln) s = al_C rcC (nI d) ln s := by
  obtain ⟨s1, s2⟩ := st_sh ln hl
  unfold k_X6_readStatement_98 al_C
  rw [if_neg (by decide), if_neg (by decide), if_neg (by decide), if_neg (by decide), if_neg (by decide), if_neg (by decide), if_neg (by decide), if_neg (by decide), if_neg (by decide), if_pos (by decide), hd, s1, s2]
  simp only [show t_ix (3 : Int32) 12 = true from by decide, if_true]
  rfl
theorem k98_ev {d0 : Int32} {l5 : Nat} (hs : so = 11 ∨ so = 12 ∨ so = 13) (s : t_S) : k_X6_readStatement_98 rcC d0 (nI so) (nI ln) l5 s = (f_X6_readEvent (nI ln) s).bind (fun x => (f_X2_need 59 x).bind (fun r1 => some (nI ln, r1))) := by
  rcases hs with rfl | rfl | rfl <;> unfold k_X6_readStatement_98
  · rw [if_neg (by decide), if_neg (by decide), if_neg (by decide), if_neg (by decide), if_neg (by decide), if_neg (by decide), if_neg (by decide), if_neg (by decide), if_neg (by decide), if_neg (by decide), if_pos (by decide)]; rfl
  · rw [if_neg (by decide), if_neg (by decide), if_neg (by decide), if_neg (by decide), if_neg (by decide), if_neg (by decide), if_neg (by decide), if_neg (by decide), if_neg (by decide), if_neg (by decide), if_neg (by decide), if_pos (by decide)]; rfl
  · rw [if_neg (by decide), if_neg (by decide), if_neg (by decide), if_neg (by decide), if_neg (by decide), if_neg (by decide), if_neg (by decide), if_neg (by decide), if_neg (by decide), if_neg (by decide), if_neg (by decide), if_neg (by decide), if_pos (by decide)]; rfl
theorem k98_2 {d0 : Int32} {l5 : Nat} (s : t_S) : k_X6_readStatement_98 rcC d0 (nI 2) (nI ln) l5 s = (f_X6_readAssignment (nI ln) s).bind (fun x => some (nI ln, x)) := by
  unfold k_X6_readStatement_98
  rw [if_neg (by decide), if_pos (by decide)]
theorem zS.k23 (h : zS f f2 p0 c0 c) (x y z : Int32) : k_X6_readStatement_23 rcC x y z c = some (-1, c) := by
  have e : k_X6_readStatement_44 rcC x y z c = some (-1, c) := by
    unfold k_X6_readStatement_44
    rw [if_neg h.1.ne]
  unfold k_X6_readStatement_23
  rw [h.1.fail, l2_bs, e, ite_self]
theorem yS.l39s {b j : Nat} {x u w : Int32} (hb : (988 ≤ b ∧ b ≤ 1002) ∨ (b = 950 ∧ j = 81)) (h : yS P f f2 p0 r0 r ∧ r.1 950 5 = u ∧ r.1 950 10 = w) : yS P f f2 p0 r0 (t_setI r b j x) ∧ (t_setI r b j x).1 950 5 = u ∧ (t_setI r b j x).1 950 10 = w := by
  have fr : l2_fr (fun b2 j2 => b2 = b ∧ j2 = j) r (t_setI r b j x) := l2_fr.set ⟨rfl, rfl⟩
  exact ⟨h.1.set (by unfold mo_Wr; omega) (by omega), by rw [(fr 950 5 (by omega)).1]; exact h.2.1, by rw [(fr 950 10 (by omega)).1]; exact h.2.2⟩
theorem yS.l39 (h : yS P f f2 p0 r0 r) (K0 up : Int32) : t_hk (k_X13_line_39 K0 up 399 r) (fun y => y.1 = nI 399 ∧ yS P f f2 p0 r0 y.2 ∧ y.2.1 950 5 = r.1 950 5 ∧ y.2.1 950 10 = r.1 950 10) := by
  unfold k_X13_line_39
  refine l2_lt (l2_ck (show t_ix (399 : Int32) 401 = true by decide) ?_)
  have h0 := yS.l39s (b := 950) (j := 81) (x := 399 + 1) (Or.inr ⟨rfl, rfl⟩) ⟨h, rfl, rfl⟩
  generalize t_setI r 950 81 (399 + 1) = r1 at *
  refine l2_lt ?_
  have i1 := fun b (hb : (988 ≤ b ∧ b ≤ 1002) ∨ (b = 950 ∧ (399 : Int32).toNatClampNeg = 81)) (x : Int32) s h => yS.l39s (P := P) (f := f) (f2 := f2) (p0 := p0) (r0 := r0) (r := s) (u := r.1 950 5) (w := r.1 950 10) (b := b) (x := x) hb h
  refine l2_lt (l2_lt (l2_lt (l2_lt (l2_lt (l2_lt (l2_lt (l2_lt (l2_lt (l2_lt (l2_lt (l2_lt (l2_lt (l2_sm ⟨rfl, ?_⟩)))))))))))))
  exact (i1 1002 (by decide) _ _ (i1 1001 (by decide) _ _ (i1 1000 (by decide) _ _ (i1 999 (by decide) _ _ (i1 998 (by decide) _ _ (i1 997 (by decide) _ _ (i1 996 (by decide) _ _ (i1 995 (by decide) _ _ (i1 993 (by decide) _ _ (i1 992 (by decide) _ _ (i1 991 (by decide) _ _ (i1 990 (by decide) _ _ (i1 989 (by decide) _ _ (i1 988 (by decide) _ _ h0))))))))))))))
/-- a line's beginning, the two programs' words known -/
theorem st_main (S : fs P nt f n2 Y n L ka a g k c r) (hso : so ≠ 0 ∧ so < 30) (e1 : f_X6_sortOf (c.1 1 8) c = nI so) (e2 : f_X13_beginsStatement r = 1) (hT : ∀ c1 r0 r1, l2_fr (fun b j => b = 950 ∧ j = 32) r r0 → fs P nt f n2 Y n L ka a g k c r0 → k 9 < 400 → fs P nt f n2 Y n L ka a g (ox k) c1 r1 → r1.1 950 32 = 0 → (∀ n3, sn n2 n3 f n (k 9) (fun _ => True) (fun _ => True) k c r0 (ox k) c1 r1) → sq c c1 → op_R c1 r1 f n (k 9) (nI so) up 0 → c1.1 1 8 = c.1 1 8 → r1.1 950 5 = r.1 950 5 → r1.1 950 10 = r.1 950 10 → r1.1 992 (k 9) = r1.1 950 6 → t_h2 (ctC rcC (nI dd) so (k 9) c1) (stR rcR (nI dd) (r.1 950 10) (nI (k 9)) r1) (so_O P nt f n2 n3 Y n L ka a g k c r0)) (hTf : ∀ f2 p0 c1 r1, zS f f2 p0 c c1 → yS P f f2 p0 r r1 → r1.1 950 5 = r.1 950 5 → r1.1 950 10 = r.1 950 10 → t_hk (stR rcR (nI dd) (r.1 950 10) (nI 399) r1) (fun y => yS P f f2 p0 r y.2)) : t_h2 (m_X6_readStatement rcC (nI dd) up c) (m_X13_statement rcR up (nI dd) r) (so_O P nt f n2 n3 Y n L ka a g k c r) := by
  have e18 : c.1 428 18 = nI (k 9) := S.1.2.2.1.2.2.2.2.2.2
  have e81 : r.1 950 81 = nI (k 9) := S.1.2.2.2.2.1.2.2
  have s9 : k 9 ≤ 400 := S.1.2.2.2.2.2.2.2.2.2.2.2.2.2
  rw [stR_eq]
  unfold m_X6_readStatement k_X6_readStatement_23
  rw [e1, e2, if_neg (show ¬ nI so = (0 : Int32) from fun y => hso.1 ((nI_eq (b := 0) (by omega) (by decide)).mp y)), if_neg (show ¬ (1 : Int32) = 0 by decide), e18]
  refine h2_lR ?_
  have f1 : l2_fr (fun b j => b = 950 ∧ j = 32) r (t_setI r 950 32 0) := l2_fr.set ⟨rfl, rfl⟩
  have v1 : (t_setI r 950 32 0).1 950 32 = 0 := by simp only [l2_gI, reduceIte]
  generalize t_setI r 950 32 0 = r0 at *
  have S' := (S.cell (n2 := n2) (ln := 0) (A := fun _ => False) (B := fun _ => False) (by decide) (l2_fr.rf (s := c)) (f1.mono (fun b j y => Or.inr y)) (fun _ _ _ => rfl) (fun x a b y => (f1 x 0 (by omega)).1)).1
  rw [(f1 950 10 (by omega)).1]
  -- back to the state ahead of it
  have back : ∀ x y, so_O P nt f n2 n3 Y n L ka a g k c r0 x y → so_O P nt f n2 n3 Y n L ka a g k c r x y := fun x y h => by
    rcases h with ⟨h1, h2, k', n', L', x1, x2, x3, x4, x5, x6, x7, x8, x9, x10⟩ | ⟨f2, p0, z, y⟩
    · refine Or.inl ⟨h1, h2, k', n', L', x1, x2, x3, x4, x5, x6, (f1.mono (fun b j y => Or.inl (Or.inl (by omega)))).trans x7, mK.trans (mK.of f1 (fun b j y => by omega)) x8, x9, x10⟩
    · exact Or.inr ⟨f2, p0, z, y.at (f1.mono (fun b j y => by unfold mo_Wr; omega))⟩
  by_cases z : k 9 < 400
  · rw [if_pos (show nI (k 9) < (400 : Int32) from nI_lt (b := 400) z (by decide))]
    obtain ⟨c1, r1, o1, o2, S1, sn1, q1, op, fc, fr, r92⟩ := fs_open S' z (nI so) 0 up
    unfold k_X6_readStatement_44
    rw [if_pos S.1.1.f0.1, o1, l2_bs, o2, l2_bs, if_pos (l2_ix z (by decide)), nI_clamp (n := k 9) (by omega)]
    simp only [Nat.one_mul]
    refine h2_imp (show t_h2 (ctC rcC (nI dd) so (k 9) c1) (stR rcR (nI dd) (r.1 950 10) (nI (k 9)) r1) _ from hT c1 r0 r1 f1 S' z S1 (by rw [(fr 950 32 (by omega)).1]; exact v1) sn1 q1 op (fc 1 8 (by omega)).1 (by rw [(fr 950 5 (by omega)).1, (f1 950 5 (by omega)).1]) (by rw [(fr 950 10 (by omega)).1, (f1 950 10 (by omega)).1]) (by rw [r92, (fr 950 6 (by omega)).1])) (fun x y h => back x y h)
  · have e9 : k 9 = 400 := by omega
    rw [if_neg (show ¬ nI (k 9) < (400 : Int32) by rw [e9]; decide)]
    unfold f_X13_line
    rw [show r0.1 950 81 = 400 by rw [(f1 950 81 (by omega)).1, e81, e9]; rfl, if_pos rfl, Option.bind_assoc]
    refine h2_bb _ (h2_self (pj_fail (f := 5) S'.1.1 (by decide) (by decide))) (fun c1 r1 hw => ?_)
    obtain ⟨⟨w1, w2, f2, p0, w3, w4⟩, _, er⟩ := hw
    have z1 : zS f f2 p0 c c1 := S'.z w3 w1 l2_fr.rf
    have y1 : yS P f f2 p0 r0 r1 := S'.y w4 w2 l2_fr.rf
    have tk : r1.1 950 5 = r0.1 950 5 ∧ r1.1 950 10 = r0.1 950 10 ∧ r1.1 950 81 = r0.1 950 81 := by
      rw [rs_fail S'.1.1.f0.2] at er
      cases er
      refine ⟨?_, ?_, ?_⟩ <;> simp only [l2_gI, Nat.reduceEqDiff, reduceIte]
    have e44 : k_X6_readStatement_44 rcC (nI dd) up (nI so) c1 = some (-1, c1) := by
      unfold k_X6_readStatement_44
      rw [if_neg z1.1.ne]
    rw [e44]
    unfold k_X13_line_19
    rw [tk.2.2, (f1 950 81 (by omega)).1, e81, e9, if_pos (by decide)]
    have y2 : yS P f f2 p0 r r1 := y1.at (f1.mono (fun b j y => by unfold mo_Wr; omega))
    refine h2_doneL (l2_bd _ (y2.l39 0 up) (fun y hy => ?_))
    obtain ⟨h1, h2, h3, h4⟩ := hy
    rw [h1]
    exact l2_imp (hTf f2 p0 c1 y.2 z1 h2 (by rw [h3, tk.1, (f1 950 5 (by omega)).1]) (by rw [h4, tk.2.1, (f1 950 10 (by omega)).1])) (fun w hw => Or.inr ⟨f2, p0, z1, hw⟩)
theorem st_all (S : fs P nt f n2 Y n L ka a g k c r) (hf : f < n3) (hu : up = -1 ∨ ∃ j, j < k 9 ∧ up = nI j) (hdd : dd < 1000) (hG : bkG rcC rcR (dd + 1)) (hC : bkC rcC) (hR : bkR rcR) : t_h2 (m_X6_readStatement rcC (nI dd) up c) (m_X13_statement rcR up (nI dd) r) (so_O P nt f n2 n3 Y n L ka a g k c r) := by
  obtain ⟨v, hV⟩ := en_V.ex n 1 L (Nat.le_refl _)
  have f40 := S.2.2.2.1
  have hd : nI dd + 1 = nI (dd + 1) := nI_1 dd
  have bad2 : f_X6_sortOf (c.1 1 8) c = 0 → f_X13_beginsStatement r = 0 → t_h2 (m_X6_readStatement rcC (nI dd) up c) (m_X13_statement rcR up (nI dd) r) (so_O P nt f n2 n3 Y n L ka a g k c r) := fun h1 h2 => by
    rw [stR_eq]
    unfold m_X6_readStatement
    rw [h1, h2, if_pos rfl, if_pos rfl]
    refine h2_bb _ (pj_fail (f := 2) S.1.1 (by decide) (by decide)) (fun c1 r1 hw => ?_)
    obtain ⟨w1, w2, f2, p0, w3, w4⟩ := hw
    have z1 : zS f f2 p0 c c1 := S.z w3 w1 l2_fr.rf
    have y1 : yS P f f2 p0 r r1 := S.y w4 w2 l2_fr.rf
    rw [z1.k23]
    exact h2_sm (Or.inr ⟨f2, p0, z1, y1⟩)
  rcases S.1.1.kw with ⟨i, hi, t, h5, h10⟩ | ⟨no, h2⟩
  · have e1 : f_X6_sortOf (c.1 1 8) c = nI (so_n i) := by rw [t]; exact so_kw c i hi
    have e2 := bs_kw h5 i hi h10
    by_cases z : so_n i = 0
    · rw [z] at e1 e2
      exact bad2 e1 e2
    rw [if_neg z] at e2
    rcases so_all i hi z with ⟨e, rfl⟩ | ⟨e, rfl⟩ | ⟨e, rfl⟩ | ⟨e, ei⟩ | ⟨e, ei⟩ | ⟨e, ei⟩ | ⟨K, hK, hs⟩
    · rw [e] at e1
      refine st_main S (by decide) e1 e2 (fun c1 r0 r1 f1 S' h9 S1 h32 sn1 q1 op t1 t5 t10 r92 => ?_) (fun f2 p0 z1 r1 z y _ _ => ?_)
      · unfold ctC
        rw [if_neg (by decide), if_pos (show f_X6_isEvent (nI 3) c1 = 0 by unfold f_X6_isEvent k_X6_isEvent_18; decide), h10, stR_if h9 hd]
        simp only [k98_3 h9 hd]
        exact st_if S' h9 S1 h32 hV hf sn1 q1 op hu (t1.trans t) (by decide) hG hC hR
      · rw [h10, stR_if (ln := 399) (by decide) hd]
        exact l2_bd _ y.next (fun _ hy => hy.ifR hR _ _ (fun r' y => y.if3 hR _))
    · rw [e] at e1
      refine st_main S (by decide) e1 e2 (fun c1 r0 r1 f1 S' h9 S1 h32 sn1 q1 op t1 t5 t10 r92 => ?_) (fun f2 p0 z1 r1 z y _ _ => ?_)
      · unfold ctC
        rw [if_neg (by decide), if_pos (show f_X6_isEvent (nI 4) c1 = 0 by unfold f_X6_isEvent k_X6_isEvent_18; decide), h10, stR_while h9 hd]
        simp only [k98_4 h9 hd]
        exact st_while S' h9 S1 h32 hV hf sn1 q1 op hu (t1.trans t) (by decide) hG hC hR
      · rw [h10, stR_while (ln := 399) (by decide) hd]
        exact l2_bd _ y.next (fun _ hy => hy.ifR hR _ _ (fun r' y => l2_sm y))
    · rw [e] at e1
      refine st_main S (by decide) e1 e2 (fun c1 r0 r1 f1 S' h9 S1 h32 sn1 q1 op t1 t5 t10 r92 => ?_) (fun f2 p0 z1 r1 z y _ _ => ?_)
      · unfold ctC
        rw [if_neg (by decide), if_pos (show f_X6_isEvent (nI 10) c1 = 0 by unfold f_X6_isEvent k_X6_isEvent_18; decide), h10, stR_alt h9 hd]
        simp only [k98_10 h9 hd]
        exact st_alt S' h9 S1 h32 hV hf sn1 q1 op hu (t1.trans t) (by decide) hG hC hR
      · rw [h10, stR_alt (ln := 399) (by decide) hd]
        exact l2_bd _ y.next (fun _ hy => hy.alR hR _)
    all_goals first
      | (have ei' : i = 62 ∨ i = 64 ∨ i = 65 := by omega
         have hso : so_n i = 11 ∨ so_n i = 12 ∨ so_n i = 13 := by omega
         have hne : nI (so_n i) ≠ (2 : Int32) ∧ f_X6_isEvent (nI (so_n i)) c ≠ 0 := by
           rw [e]
           exact ⟨by decide, by unfold f_X6_isEvent k_X6_isEvent_18; decide⟩
         refine st_main S (by omega) e1 e2 (fun c1 r0 r1 f1 S' h9 S1 h32 sn1 q1 op t1 t5 t10 r92 => ?_) (fun f2 p0 z1 r1 z y _ _ => ?_)
         · unfold ctC
           rw [if_neg hne.1, if_neg (show ¬ f_X6_isEvent (nI (so_n i)) c1 = 0 from hne.2), h10, stR_event ei' h9, k98_ev hso]
           exact st_event S' h9 S1 h32 hV hf sn1 q1 op hu (t1.trans t) ei'
         · rw [h10, stR_event ei' (ln := 399) (by decide)]
           exact l2_lt (l2_bd _ ((y.set (b := 988) (j := 399) (x := nI 11) (by unfold mo_Wr; omega) (by omega)).event (by decide)) (fun w hw => l2_bd _ (hw.mb (x := 59) (by unfold rj_no; decide)) (fun u hu => l2_sm hu))))
      | skip
    have hso30 : so_n i < 30 ∧ nI (so_n i) ≠ (2 : Int32) ∧ f_X6_isEvent (nI (so_n i)) c = 0 ∧ K ≠ 20 ∧ so_n i ≠ 22 ∧ so_n i ≠ 23 := by
      unfold smp at hs
      unfold f_X6_isEvent k_X6_isEvent_18
      rcases hs with ⟨_, hs, hs2⟩ | ⟨_, hs, hs2⟩ | ⟨_, hs, hs2⟩ | ⟨_, hs, hs2⟩ | ⟨_, hs, hs2⟩ | ⟨_, hs, hs2⟩ | ⟨_, hs, hs2⟩ | ⟨_, hs, hs2⟩ | ⟨_, hs, hs2⟩ | ⟨_, hs, hs2⟩ | ⟨_, hs, hs2⟩ | ⟨_, hs, hs2⟩ | ⟨_, hs, hs2⟩ | ⟨_, hs, hs2⟩ <;> rw [hs, hs2] <;> decide
    refine st_main S ⟨z, hso30.1⟩ e1 e2 (fun c1 r0 r1 f1 S' h9 S1 h32 sn1 q1 op t1 t5 t10 r92 => ?_) (fun f2 p0 z1 r1 z y _ _ => ?_)
    · unfold ctC
      rw [if_neg hso30.2.1, if_pos (show f_X6_isEvent (nI (so_n i)) c1 = 0 from hso30.2.2.1), h10, stR_simple hs]
      simp only [k98_s hs rfl]
      exact st_simple S' h9 S1 h32 hV hf sn1 q1 op hu (t1.trans t) hi ⟨hso30.1, hK⟩ hso30.2.2.2 (fun c r I => I.all hs) (fun f2 p0 c' r' z y => h2_imp (bh_all z y h9 f40 hs) (fun _ _ h => ⟨f2, p0, h.1, h.2⟩))
    · rw [h10, stR_simple hs]
      refine l2_bd _ y.next (fun r2 hy => ?_)
      obtain ⟨x, y', _, e2', _, w⟩ := bh_all (ln := 399) z hy (by decide) f40 hs
      rw [e2', l2_bs]
      exact l2_bd _ (w.mb (x := 59) (by unfold rj_no; decide)) (fun u hu => l2_sm hu)
  · have h8 : c.1 1 8 = 1 ∨ r.1 950 5 ≠ 1 := by
      by_cases z : r.1 950 5 = 1
      · exact Or.inl (h2 z).2
      · exact Or.inr z
    by_cases h8 : c.1 1 8 = 1
    · obtain ⟨h5, h10⟩ := S.1.1.sort.1.mp h8
      refine st_main S (so := 2) (by decide) (by rw [h8]; exact so_w c) (bs_w h5 h10) (fun c1 r0 r1 f1 S' h9 S1 h32 sn1 q1 op t1 t5 t10 r92 => ?_) (fun f2 p0 z1 r1 z y t5 t10 => ?_)
      · unfold ctC
        rw [if_pos (show nI 2 = (2 : Int32) from rfl), k98_2, stR_word h10]
        exact st_assign S' h9 S1 h32 hV hf sn1 q1 op hu (t5.trans h5) (by rw [t10]; exact h10) r92
      · rw [stR_word h10]
        exact l2_bd _ (y.assign (ln := 399) (by decide) (t5.trans h5) (by rw [t10]; exact h10)) (fun x hx => l2_sm hx)
    · refine bad2 (so_no c h8 no) (bs_no (fun h => h8 (h2 h).2))
end
