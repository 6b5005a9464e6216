/-! Level 2: bases on both sides: ( exp ), ended ( exp ). -/
/-- what both have behind an exp in brackets, from the base's own start on -/
def bP (P : pc_S) (E : en_S) (u q m t e p l w o s i dd : Nat) (c r c3 r3 c' r' : t_S) : Prop := ∃ n u' q' m' t' e' p' l' s' i', xk P u q t e p l s i u' q' t' e' p' l' s' i' ∧ (2 * e' + 4 + 3 * q ≤ 2 * e + 3 * q' ∧ 2 * p' + pc_p P u ≤ 2 * p + pc_p P u') ∧ m + 1 < m' ∧ xp P E u' 0 0 q' m' t' e' p' l' w o s' i' dd c' r' ∧ l2_fr (xWc t e p l w o) c c' ∧ l2_fr (xWr m s) r r' ∧ l2_fr (xWc t e p l w o) c3 c' ∧ l2_fr (fun b j => xWr (m + 1) s b j ∨ (b = 959 ∧ j = m)) r3 r' ∧ r'.1 959 m = nI n ∧ XR (wn_R E c' r' l l') (an_R E c' r' l l') (tn_R E c' r' l l') (sn_R c') c' r' p' s' (m' - (m + 1)) 0 0 (20 * dd + 15) e e' t t' (m + 1) m' n ∧ xD E c c' r' l l' i i' m m' ∧ r'.1 960 m = -1 ∧ r'.1 955 m = r3.1 955 m ∧ r'.1 960 n = -1
section
variable {P : pc_S} {E : en_S} {x : Int32} {EB PB IB K u q m t e p l w o s i dd : Nat} {c r : t_S} {rc rc2 : RT_X6_readBase} {rR rW : RT_X13_base}
theorem bP.mk {v : Nat} {c2 r2 c3 r3 c7 r7 : t_S} (B : bG P E K u q m t e p l w o s i dd c r c2 r2) (fc : l2_fr fn_C c2 c3) (fr : l2_fr (fun b j => rn_W b j ∨ ((b = 957 ∨ b = 958 ∨ b = 961) ∧ j = m)) r2 r3) (D1 : xD E c c3 r3 l l i i m (m + 1)) (hu : u < v) (J : pj P v 0 0 (q + 1) (m + 1) c3 r3) (H : ex1 P E 1 v (q + 1) m t e p l w o s i dd c3 r3 c7 r7) : bP P E u q m t e p l w o s i dd c r c3 r3 c7 r7 := by
  have fcB := B.fc
  obtain ⟨hm, hq, X, g1, g2, d1, d2, d3, d4, d5, d6, d7⟩ := B
  have pm := J.pmono (v - u) u (by omega) (by omega)
  have cm := pc_c_mono P u v (by omega)
  obtain ⟨n, u', q', m', t', e', p', l', s', i', G1, G2, X7, G3, G4, G5, G6, G7, G8⟩ := H
  unfold xk at G1
  refine ⟨n, u', q', m', t', e', p', l', s', i', ?_, by omega, G2.1, X7, (fcB.1.trans (fc.mono (fun b j y => fn_Cx y))).trans G3, (fcB.2.trans (fr.mono (fun b j y => ?_))).trans (G4.mono (fun b j y => ?_)), G3, G4, G5, G6, ?_, ?_, ?_, G8⟩
  · unfold xk
    omega
  · rcases y with y | ⟨y, rfl⟩
    · exact x_rn y
    · exact Or.inr (Or.inr (Or.inl ⟨by omega, by omega, Nat.le_refl _⟩))
  · rcases y with y | ⟨rfl, rfl⟩
    · exact y.sub (by omega) (Nat.le_refl _)
    · exact Or.inr (Or.inr (Or.inl ⟨by decide, by decide, Nat.le_refl _⟩))
  · refine D1.trans G7 (by omega) (by omega) (by omega) (fun b a y1 y2 y3 => (G3 b a (by unfold xWc; omega)).1) (fun k y1 y2 => ?_)
    have e : k = m := by omega
    subst e
    have q1 : ∀ b, b ≠ 959 → (955 ≤ b ∧ b ≤ 962) ∨ b = 1003 → r7.1 b k = r3.1 b k ∧ r7.2.1 b k = r3.2.1 b k := fun b z1 z2 => ⟨(G4 b k (by unfold xWr; omega)).1, (G4 b k (by unfold xWr; omega)).2.1⟩
    exact ⟨(q1 955 (by decide) (by decide)).1, (q1 956 (by decide) (by decide)).1, (q1 962 (by decide) (by decide)).1, (q1 1003 (by decide) (by decide)).1, (q1 957 (by decide) (by decide)).2, (q1 958 (by decide) (by decide)).2, fun _ => (q1 961 (by decide) (by decide)).1⟩
  · rw [(G4 960 m (by unfold xWr; omega)).1, (fr 960 m (by unfold rn_W; omega)).1]; exact d6
  · rw [(G4 955 m (by unfold xWr; omega)).1]
theorem bO_ok {c' r' : t_S} {n u' q' m' t' e' p' l' s' i' : Nat} (h1 : xk P u q t e p l s i u' q' t' e' p' l' s' i') (h2 : m < m') (X : xp P E u' 0 0 q' m' t' e' p' l' w o s' i' dd c' r') (fc : l2_fr (xWc t e p l w o) c c') (fr : l2_fr (xWr m s) r r') (hX : XR (wn_R E c' r' l l') (an_R E c' r' l l') (tn_R E c' r' l l') (sn_R c') c' r' p' s' (m' - m) 0 0 (20 * dd) e e' t t' m m' n) (D : xD E c c' r' l l' i i' m m') (h60 : r'.1 960 n = -1) : bO_R P E u q m t e p l w o s i dd c r c' (nI n, r') := Or.inl ⟨n, rfl, u', q', m', t', e', p', l', s', i', h1, h2, X, fc, fr, hX, D, h60, fun y => absurd rfl y⟩
/-- ( exp ) -/
theorem bs_paren (hC : ∀ a s, rc.1 a s = m_X6_readBase rc2 a s) (hE : hE_R rc2 rR dd) (hx : x + 1 = nI dd) (hB : ∀ x, bC2 (rc2.2.2.1 x)) (hR : ∀ r : t_S, r.1 950 2 ≠ 0 → rR.2.1 r = some (0, r)) (X : xp P E u 0 0 q m t e p l w o s i dd c r) (hb : xb P EB PB IB u q t e p l w o s i dd) (h : c.1 1 8 = nI 40) : t_h2 (bsC rc x c) (m_X13_base rR r) (bO_R P E u q m t e p l w o s i dd c r) := by
  have hb' := hb
  unfold xb at hb'
  have ple := X.1.ple
  have f0 := X.1.f0
  have b40 : f_X13_is 40 r = 1 := by
    rcases X.1.is (x := 40) (by decide) with ⟨_, b⟩ | ⟨b, _⟩
    · exact b
    · exact absurd h b
  obtain ⟨h5, h9⟩ : r.1 950 5 = 4 ∧ r.1 950 9 = 40 := is_1 b40
  have eR : m_X13_base rR r = (f_X13_node (nI 72) 1 r).bind (fun r5 => (f_X13_next r5.2).bind (fun r6 => ((rR.2.1 r6).bind (fun r7 => (f_X13_hang r5.1 r7.1 r7.2).bind (fun r8 => f_X13_mustBe 41 r8))).bind (fun r9 => some (r5.1, r9)))) := by
    unfold m_X13_base
    rw [if_pos f0.2, h5, if_neg (by decide), if_neg (by decide), if_neg (by decide), b40, if_neg (by decide)]
    refine congrArg (Option.bind _) (funext fun r5 => congrArg (Option.bind _) (funext fun r6 => ?_))
    rw [Option.bind_assoc]
    refine congrArg (Option.bind _) (funext fun r7 => ?_)
    rw [Option.bind_assoc]
  rw [eR]
  refine bs_mk X hb (by decide) (fun f p0 j r1 z1 z2 z3 _ _ => ?_) (fun c2 r2 B => ?_)
  · exact l2_bd _ z1.next (fun r2 h2 => l2_bd _ (l2_eq (hR r2 h2.ne) (l2_eq (h2.hang _ _) (h2.mustBe _))) (fun r3 h3 => l2_sm h3))
  have B' := B
  have fcB := B.fc
  obtain ⟨hm, hq, X2, g1, g2, d1, d2, d3, d4, d5, d6, d7⟩ := B
  have e8 : c2.1 1 8 = nI 40 := by rw [(g1 1 8 (by omega)).1]; exact h
  rw [hC, mb_0 e8 (by unfold wq_T; decide)]
  unfold k_X6_readBase_82
  rw [if_neg (by decide), if_neg (by decide), if_neg (by decide), if_neg (by decide), if_neg (by decide), if_neg (by decide), if_neg (by decide), if_neg (by decide), if_neg (by decide)]
  unfold k_X6_readBase_326
  have eC : ∀ r1 : t_S, (if (nI 40).toInt = 40 then ((rc2.2.2.1 (x + (1 : Int32)) r1).bind (fun r2 => (f_X2_need (41 : Int32) r2.2).bind (fun r3 => some (r3)))) else if (nI 40).toInt = 91 then ((rc2.2.1 x r1).bind (fun r4 => some (r4))) else if (nI 40).toInt = 123 then ((rc2.2.2.2.1 x r1).bind (fun r5 => some (r5))) else if (nI 40).toInt = 234 then ((rc2.2.2.2.2.2.2.1 x r1).bind (fun r6 => some (r6))) else if (nI 40).toInt = 235 then ((f_X2_need (40 : Int32) r1).bind (fun r7 => (rc2.2.2.1 (x + (1 : Int32)) r7).bind (fun r8 => (f_X2_need (41 : Int32) r8.2).bind (fun r9 => (f_X0_emit (9 : Int32) (0 : Int32) r9).bind (fun r10 => some (r10.2)))))) else if (nI 40).toInt = 236 then ((f_X0_emit (8 : Int32) (0 : Int32) r1).bind (fun r11 => (f_X6_link (7 : Int32) r11.1 (0 : Int32) r11.2).bind (fun r12 => some (r12)))) else (some (r1))) = ((rc2.2.2.1 (nI dd) r1).bind (fun r2 => f_X2_need (nI 41) r2.2)).bind (fun v => some v) := fun r1 => by
    rw [if_pos (by decide), hx, Option.bind_assoc]
    rfl
  refine h2_bb _ (xp_adv X2 (by decide) (Or.inr (by rw [e8]; decide)) (by rw [e8]; decide)) (fun c3 r3 hw => ?_)
  obtain ⟨w1, w2, w3⟩ := hw
  rw [eC]
  rcases w3 with ⟨X3, l1, l2⟩ | w3
  rotate_left
  · obtain ⟨f, p0, y1, y2⟩ := xf.of (c0 := c) (r0 := r) X2 (by decide) (by omega) (by omega) ⟨Nat.le_refl _, by omega⟩ ⟨Nat.le_refl _, Nat.le_refl _, by omega, Nat.le_refl _⟩ fcB.1 fcB.2 w1 w2 w3 xw.nil
    refine h2_sep _ _ (l2_bd _ (l2_bd _ (hB _ _ _ _ _ _ _ _ _ _ _ _ y1) (fun z hz => l2_of (hz.stay.2.2.1 (nI 41) (by decide)).1 hz)) (fun z hz => l2_sm hz)) (l2_bd _ (l2_eq (hR r3 y2.ne) (l2_eq (y2.hang _ _) (y2.mustBe _))) (fun r8 h8 => l2_sm h8)) (fun z y hz hy => Or.inr ⟨f, p0, hz, hy⟩)
  have k9 : r3.1 959 m = -1 := by rw [(w2 959 m (by unfold rn_W; omega)).1]; exact d5
  refine h2_bb _ (bx_one hE X3 (hb.go (by omega) l2 (by omega)) k9 (x := 41) (by decide) rfl (by unfold rj_no; decide)) (fun c7 r7 hh => h2_sm ?_)
  rcases hh with H | ⟨f, p0, y1, y2⟩
  rotate_left
  · exact Or.inr ⟨f, p0, y1.sub (fcB.1.trans (w1.mono (fun b j y => x_la y))) (Nat.le_refl _) (Nat.le_refl _) (Nat.le_refl _) (Nat.le_refl _) (Nat.le_refl _), y2.sub (fcB.2.trans (w2.mono (fun b j y => x_rn y))) (Nat.le_refl _) (Nat.le_refl _)⟩
  have k5 : r3.1 955 m = nI 72 := by rw [(w2 955 m (by unfold rn_W; omega)).1]; exact d1
  have D1 : xD E c c3 r3 l l i i m (m + 1) := xD.plain (K := 72) k5 (by decide) (by decide) (by rw [(w1 846 7 (by unfold la_W; omega)).1, (g1 846 7 (by omega)).1]) (by rw [(w1 846 8 (by unfold la_W; omega)).1, (g1 846 8 (by omega)).1]) (fun y => by omega)
  obtain ⟨n, u', q', m', t', e', p', l', s', i', G1, G2, G3, X7, F1, F2, F3, F4, G4, G5, G6, G7, G8, G9⟩ := bP.mk B' (w1.mono (fun b j y => Or.inl y)) (w2.mono (fun b j y => Or.inl y)) D1 (by omega) X3.1 H
  refine bO_ok (n := m) G1 (by omega) X7 F1 F2 ?_ G6 G7
  obtain ⟨n1, n2, n3, n4⟩ := G5.at
  rw [show m' - m = (m' - (m + 1)) + 1 by omega]
  exact ⟨n1, n2, Nat.le_refl _, by omega, Or.inl ⟨⟨rfl, (by have q0 := hb; unfold xb at q0; omega)⟩, Or.inr (Or.inl ⟨rfl, by rw [G8, k5]; rfl, n, G4, G5⟩)⟩⟩
end
