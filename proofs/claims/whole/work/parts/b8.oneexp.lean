/-! Level 2: bases on both sides: an exp that hangs at a node, and the sign behind it. -/
theorem xb.go {P : pc_S} {EB PB IB u q t e p l w o s i dd v q' : Nat} (h : xb P EB PB IB u q t e p l w o s i dd) (h1 : pc_p P u ≤ pc_p P v) (h2 : pc_c P u ≤ pc_c P v) (h3 : q ≤ q') : xb P EB PB IB v q' t e p l w o s i dd := by
  unfold xb at *
  omega
/-- an exp hangs at node m, all from m + 1 on are its -/
def ex1 (P : pc_S) (E : en_S) (g u q m t e p l w o s i dd : Nat) (c r c' r' : t_S) : Prop := ∃ n u' q' m' t' e' p' l' s' i', xk P u q t e p l s i u' q' t' e' p' l' s' i' ∧ (m + 1 < m' ∧ 2 * p' + pc_p P u + g ≤ 2 * p + pc_p P u' + 1) ∧ xp P E u' 0 0 q' m' t' e' p' l' w o s' i' dd c' r' ∧ l2_fr (xWc t e p l w o) c c' ∧ l2_fr (fun b j => xWr (m + 1) s b j ∨ (b = 959 ∧ j = m)) r r' ∧ r'.1 959 m = nI n ∧ XR (wn_R E c' r' l l') (an_R E c' r' l l') (tn_R E c' r' l l') (sn_R c') c' r' p' s' (m' - (m + 1)) 0 0 (20 * dd + 15) e e' t t' (m + 1) m' n ∧ xD E c c' r' l l' i i' (m + 1) m' ∧ r'.1 960 n = -1
section
variable {P : pc_S} {E : en_S} {EB PB IB u q m t e p l w o s i dd : Nat} {c r : t_S} {rcC : RT_X6_readBase} {rcR : RT_X13_base}
theorem ex1.hang {n : Nat} {c' r' : t_S} (G : xG P E 0 0 (20 * dd + 15) u q (m + 1) t e p l w o s i dd c r n c' r') (k9 : r.1 959 m = -1) : t_hk (f_X13_hang (nI m) (nI n) r') (fun r2 => ex1 P E 0 u q m t e p l w o s i dd c r c' r2) := by
  obtain ⟨u', q', m', t', e', p', l', s', i', G1, G2, X, G3, G4, G5, G6, G7, _⟩ := G
  obtain ⟨n1, n2, n3, n4⟩ := G5.at
  obtain ⟨ml, m24, ql, qc⟩ := X.1.mle (by decide)
  have hch : ch_R r' m 0 (fun _ => 0) := ⟨by rw [(G4 959 m (by unfold xWr; omega)).1, k9, if_neg (by decide)], fun j hj => by omega⟩
  refine l2_imp (ch_hang hch (by omega) (by decide) (by omega) X.1.f0.2 G7 (fun j hj => by omega)) (fun r6 hr => ?_)
  obtain ⟨⟨c9, _⟩, f6⟩ := hr
  have c9 : r6.1 959 m = nI n := by
    rw [c9, if_pos (by decide)]
    rw [show va_up (fun _ => 0) 0 n 0 = n from mj_up_eq _ _ _]
  have f6 : l2_fr (fun b j => b = 959 ∧ j = m) r' r6 := f6.mono (fun b j y => by omega)
  refine ⟨n, u', q', m', t', e', p', l', s', i', G1, ⟨G2, by unfold xk at G1; omega⟩, X.own (l2_fr.rf (W := fun _ _ => False)) f6 (fun b j y => y.elim) (fun b j y => by omega), G3, (G4.mono (fun b j y => Or.inl y)).trans (f6.mono (fun b j y => Or.inr y)), c9, ?_, ?_, ?_⟩
  · exact G5.own (l2_fr.rf (W := fun _ _ => False)) f6 (Nat.le_refl _) (Nat.le_refl _) (Nat.le_refl _) ⟨Nat.le_refl _, Nat.le_refl _⟩ (fun b j y => y.elim) (fun b j y => by omega)
  · exact G6.own (l2_fr.rf (W := fun _ _ => False)) f6 (fun b j y => y.elim) (fun b j y => by omega)
  · rw [(f6 960 n (by omega)).1]; exact G7
/-- the sign behind it -/
theorem ex1.need {x : Nat} {sn : Int32} {c' r' : t_S} (hb : xb P EB PB IB u q t e p l w o s i dd) (hx : (33 ≤ x ∧ x ≤ 125) ∨ (10 ≤ x ∧ x ≤ 17)) (hs : sn = nI (sg x)) (H : ex1 P E 0 u q m t e p l w o s i dd c r c' r') : t_h2 (f_X2_need (nI x) c') (f_X13_mustBe sn r') (fun c2 r2 => ex1 P E 1 u q m t e p l w o s i dd c r c2 r2 ∨ xf P t e p l w o w m s c r c2 r2) := by
  obtain ⟨n, u', q', m', t', e', p', l', s', i', G1, G2, X, G3, G4, G5, G6, G7, G8⟩ := H
  have ple := X.1.ple
  have bd := hb.ebound G1 ple.2.2 ple.1 ple.2.1
  refine h2_imp (xp_need X (by decide) hx hs) (fun c2 r2 hw => ?_)
  obtain ⟨w1, w2, w3⟩ := hw
  obtain ⟨n1, n2, n3, n4⟩ := G6.at
  rcases w3 with ⟨X2, l1, l2⟩ | w3
  · refine Or.inl ⟨n, u' + 1, q', m', t', e', p', l', s', i', G1.adv l1 l2, ⟨G2.1, by omega⟩, X2, G3.trans (w1.mono (fun b j y => x_la y)), G4.trans (w2.mono (fun b j y => Or.inl (x_rn y))), by rw [(w2 959 m (by unfold rn_W; omega)).1]; exact G5, ?_, ?_, by rw [(w2 960 n (by unfold rn_W; omega)).1]; exact G8⟩
    · exact G6.own w1 w2 (Nat.le_refl _) (Nat.le_refl _) (Nat.le_refl _) ⟨Nat.le_refl _, Nat.le_refl _⟩ (fun b j y => by unfold la_W at y; omega) (fun b j y => by unfold rn_W at y; omega)
    · exact G7.own w1 w2 (fun b j y => by unfold la_W at y; omega) (fun b j y => by unfold rn_W at y; omega)
  · unfold xk at G1
    exact Or.inr (xf.of X (by decide) (by omega) (by omega) ⟨Nat.le_refl _, by omega⟩ ⟨by omega, Nat.le_refl _, by omega, by omega⟩ G3 (G4.mono (fun b j y => y.elim (fun z => z.sub (by omega) (Nat.le_refl _)) (fun z => Or.inr (Or.inr (Or.inl ⟨by omega, by omega, by omega⟩))))) w1 w2 w3 xw.nil)
/-- an exp, and the sign behind it -/
theorem bx_one {x : Nat} {sn : Int32} (hE : hE_R rcC rcR dd) (X : xp P E u 0 0 q (m + 1) t e p l w o s i dd c r) (hb : xb P EB PB IB u q t e p l w o s i dd) (k9 : r.1 959 m = -1) (hx : (33 ≤ x ∧ x ≤ 125) ∨ (10 ≤ x ∧ x ≤ 17)) (hs : sn = nI (sg x)) (hn : rj_no sn) : t_h2 ((rcC.2.2.1 (nI dd) c).bind (fun r2 => f_X2_need (nI x) r2.2)) ((rcR.2.1 r).bind (fun r7 => (f_X13_hang (nI m) r7.1 r7.2).bind (fun r8 => f_X13_mustBe sn r8))) (fun c2 r2 => ex1 P E 1 u q m t e p l w o s i dd c r c2 r2 ∨ xf P t e p l w o w m s c r c2 r2) := by
  have x5 : nI x ≠ 5 := fun y => by have := (nI_eq (a := x) (b := 5) (by omega) (by decide)).mp y; omega
  refine h2_bb _ (hE P E EB PB IB _ _ _ _ _ _ _ _ _ _ _ _ _ X hb) (fun a b hab => ?_)
  obtain ⟨a1, ⟨n, b1, hab⟩ | ⟨f, p0, y1, y2⟩⟩ := hab
  · obtain ⟨b0, r5⟩ := b
    have b1 : b0 = nI n := b1
    subst b1
    rcases hab with G | ⟨h1, h2, h3, p0, y1, y0⟩
    · exact h2_bR _ (ex1.hang G k9) (fun r6 H => H.need hb hx hs)
    · have y0 : rj P p0 (m + 1) s r r5 := y0
      have y2 : rj P p0 m s r r5 := rj.sub y0 l2_fr.rf (by omega) (Nat.le_refl _)
      obtain ⟨_, _, _, _, g5, _⟩ := y0
      have h3 : r5.1 960 n = -1 := h3
      have hch : ch_R r5 m 0 (fun _ => 0) := by
        refine ⟨?_, fun j hj => by omega⟩
        rw [if_neg (by decide), (g5 959 m (by unfold xWr; omega)).1]
        exact k9
      refine h2_sep _ _ (l2_of (y1.stay.2.2.1 (nI x) x5).1 y1) (l2_bd _ (y2.hang hch (Nat.le_refl _) (by omega) (by decide) h2 h3 (fun j hj => by omega)) (fun r6 h6 => h6.mustBe hn)) (fun z y hz hy => Or.inr ⟨2, p0, hz, hy⟩)
  · have y2 : xR P f p0 m s r b.2 := y2.sub l2_fr.rf (by omega) (Nat.le_refl _)
    exact h2_sep _ _ (l2_of (y1.stay.2.2.1 (nI x) x5).1 y1) (l2_eq (y2.hang _ _) (y2.mustBe _)) (fun z y hz hy => Or.inr ⟨f, p0, hz, hy⟩)
end
