/-! Level 2: records of templs on both sides: the record's own nodes. -/
def fdQ (P : pc_S) (E : en_S) (lv : Int32) (t0 m0 u q m t e p l w o s i dd : Nat) (c0 r0 c r : t_S) : Prop := (∃ (v : Nat) (T M X : Nat → Nat) (u' q' m' t' e' p' l' s' i' : Nat), v ≤ 16 ∧ rk P u q t e p l s i u' q' t' e' p' l' s' i' ∧ fd_H P E lv t0 m0 m t e p l w o s i dd c0 r0 v T M X u' q' m' t' e' p' l' s' i' c r) ∨ xf P t0 e p l w o w m0 s c0 r0 c r
section
variable {P : pc_S} {E : en_S} {lv x : Int32} {EB PB IB u q m t e p l w o s i dd : Nat} {c r : t_S}
/-- the tone made of it -/
theorem fd_end {v1 : Nat} {c2 r2 c3 r3 c' r' : t_S} (hb : xb P EB PB IB u q t e p l w o s i dd) (S : sG P E lv 29 u q m t e p l w o s i dd c r c2 r2) (hu : u < v1) (J : pj P v1 0 0 (q + 1) (m + 1) c3 r3) (fc : l2_fr (fun b j => la_W b j ∨ (b = 354 ∧ j = t)) c2 c3) (fr : l2_fr rn_W r2 r3) (k4 : c3.1 354 t = 8) (Q : fdQ P E lv t m v1 (q + 1) (m + 1) (t + 1) e p l w o s (i + 1) dd c3 r3 c' r') : tO_R P E lv u q m t e p l w o s i dd c r (nI t, (1 : Int32), c') (nI m, r') := by
  have S' := S
  have hb' := hb
  unfold xb at hb'
  obtain ⟨ht, hm, hq, X0, g1, g2, ⟨t1, t2, t3, t4, t5, t6, t7, t8, t9⟩, ⟨d1, d2, d3, d4, d5, d6, d7⟩, d8⟩ := S
  have pm' := J.pmono (v1 - u) u (by omega) (by omega)
  have cm := pc_c_mono P u v1 (by omega)
  have fc3 : l2_fr (xWc t e p l w o) c c3 := S'.fc.1.trans (fc.mono (fun b j y => by
    rcases y with y | ⟨rfl, rfl⟩
    · exact x_la y
    · exact xWc.itm (by decide) (by decide) (Nat.le_refl _)))
  have fr3 : l2_fr (xWr m s) r r3 := S'.fc.2.trans (fr.mono (fun b j y => x_rn y))
  rcases Q with ⟨v, T, M, XX, u', q', m', t', e', p', l', s', i', v16, G1, H⟩ | ⟨f, p0, hF, hR⟩
  rotate_left
  · exact Or.inr ⟨⟨m, Nat.le_refl _, by omega, rfl⟩, Or.inr ⟨rfl, rfl⟩, f, p0, hF.sub fc3 (Nat.le_refl _) (Nat.le_refl _) (Nat.le_refl _) (Nat.le_refl _) (Nat.le_refl _), hR.sub fr3 (Nat.le_refl _) (Nat.le_refl _)⟩
  obtain ⟨X, hmm, f1, f2, bT, bM, tc, ch, dis, D, Ee, N, bE, hj⟩ := H
  unfold rk at G1
  have fcc : l2_fr (xWc t e p l w o) c c' := fc3.trans (f1.mono (fun b j y => by
    rcases y with y | ⟨rfl, rfl⟩
    · exact y.sub (by omega) (Nat.le_refl _) (Nat.le_refl _) (Nat.le_refl _) (Nat.le_refl _) (Nat.le_refl _)
    · exact xWc.itm (by decide) (by decide) (Nat.le_refl _)))
  have frr : l2_fr (xWr m s) r r' := fr3.trans (f2.mono (fun b j y => by
    rcases y with y | ⟨rfl, rfl⟩
    · exact y.sub (by omega) (Nat.le_refl _)
    · exact Or.inr (Or.inr (Or.inl ⟨by decide, by decide, Nat.le_refl _⟩))))
  have aC : ∀ b, 356 ≤ b → b ≤ 362 → c'.1 b t = c2.1 b t := fun b y1 y2 => by rw [(f1 b t (by unfold rwc xWc; omega)).1, (fc b t (by unfold la_W; omega)).1]
  have k48 : c'.1 354 t = 8 := by rw [(f1 354 t (by unfold rwc xWc; omega)).1]; exact k4
  have q3 : ∀ b, b ≠ 959 → (955 ≤ b ∧ b ≤ 962) ∨ b = 1003 → r'.1 b m = r3.1 b m ∧ r'.2.1 b m = r3.2.1 b m := fun b z1 z2 => ⟨(f2 b m (by unfold rwr xWr; omega)).1, (f2 b m (by unfold rwr xWr; omega)).2.1⟩
  have aR : ∀ b, 955 ≤ b → b ≤ 962 → b ≠ 959 → r'.1 b m = r2.1 b m := fun b y1 y2 y3 => by rw [(q3 b y3 (Or.inl ⟨y1, y2⟩)).1, (fr b m (by unfold rn_W; omega)).1]
  have h55 : r'.1 955 m = nI 29 := by rw [aR 955 (by decide) (by decide) (by decide)]; exact d1
  have e7 : c3.1 846 7 = c.1 846 7 := by rw [(fc 846 7 (by unfold la_W; omega)).1, (g1 846 7 (by unfold tm_W; omega)).1]
  have e8 : c3.1 846 8 = c.1 846 8 := by rw [(fc 846 8 (by unfold la_W; omega)).1, (g1 846 8 (by unfold tm_W; omega)).1]
  have h54 : r3.1 955 m = nI 29 := by rw [(fr 955 m (by unfold rn_W; omega)).1]; exact d1
  have h64 : r3.1 962 m = nI i := by rw [(fr 962 m (by unfold rn_W; omega)).1]; exact d8
  have D1 : xD E c c3 r3 l l i (i + 1) m (m + 1) := xD.plain (K := 29) h54 (by decide) (by decide) e7 e8 (fun _ => ⟨h64, by omega⟩)
  have DD : xD E c c' r' l l' i i' m m' := D1.trans D (by omega) (by omega) (by omega) (fun b a y1 y2 y3 => (f1 b a (by unfold rwc xWc; omega)).1) (fun k y1 y2 => by
    have e : k = m := by omega
    subst e
    exact ⟨(q3 955 (by decide) (by decide)).1, (q3 956 (by decide) (by decide)).1, (q3 962 (by decide) (by decide)).1, (q3 1003 (by decide) (by decide)).1, (q3 957 (by decide) (by decide)).2, (q3 958 (by decide) (by decide)).2, fun _ => (q3 961 (by decide) (by decide)).1⟩)
  refine tn_ok (u' := u') (q' := q') (m' := m') (t' := t') (e' := e') (p' := p') (l' := l') (s' := s') (i' := i') ?_ (by omega) (by omega) X fcc frr (Or.inr (Or.inr (Or.inr (Or.inl ⟨h55, k48, v, Ee, T, M, XX, N, v16, bE, bT, bM, tc, ch, dis, fun j y => ?_⟩)))) DD ?_ ?_ (by rw [aC 358 (by decide) (by decide)]; exact t5) (by rw [aC 359 (by decide) (by decide)]; exact t6) ⟨by rw [aC 360 (by decide) (by decide)]; exact t7, by rw [aC 356 (by decide) (by decide)]; exact t3⟩
  · unfold xk
    omega
  · have z := hj j y
    unfold fd_1 at z
    rw [show m' - m - 1 = m' - (m + 1) by omega]
    exact z
  · rw [aR 960 (by decide) (by decide) (by decide)]; exact d6
  · rw [aR 961 (by decide) (by decide) (by decide)]; exact d7
end
