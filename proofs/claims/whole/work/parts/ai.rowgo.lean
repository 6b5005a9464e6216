/-! Level 2: rows of templs on both sides: a turn. -/
section
variable {P : pc_S} {E : en_S} {lv xd : Int32} {pm : Prop} {EB PB IB t0 m0 u q m t e p l w o s i dd v u' q' m' t' e' p' l' s' i' : Nat} {T : Nat → Nat} {c0 r0 c r : t_S} {rc rc4 rcC : RT_X6_readBase} {rR : RT_X13_base}
theorem rw_H.la {u2 : Nat} {c2 r2 : t_S} (H : rw_H P E lv pm t0 m0 m t e p l w o s i dd c0 r0 v T u' q' m' t' e' p' l' s' i' c r) (X : xp P E u2 0 0 q' m' t' e' p' l' w o s' i' dd c2 r2) (g : l2_fr la_W c c2) (f : l2_fr rn_W r r2) : rw_H P E lv pm t0 m0 m t e p l w o s i dd c0 r0 v T u2 q' m' t' e' p' l' s' i' c2 r2 := by
  obtain ⟨_, hmm, fc, fr, bT, tc, D, Ee, M, GG, W, bE, bM, ch, hj⟩ := H
  refine ⟨X, hmm, fc.trans (g.mono (fun b j y => Or.inl (x_la y))), fr.trans (f.mono (fun b j y => Or.inl (x_rn y))), bT, ⟨by rw [(g 355 t0 (by unfold la_W; omega)).1]; exact tc.1, fun j y => by rw [(g 356 _ (by unfold la_W; omega)).1]; exact tc.2 j y⟩, D.own g f (fun b j y => by unfold la_W at y; omega) (fun b j y => by unfold rn_W at y; omega), Ee, M, GG, W, bE, bM, ⟨by rw [(f 959 m0 (by unfold rn_W; omega)).1]; exact ch.1, fun j y => by rw [(f 960 _ (by unfold rn_W; omega)).1]; exact ch.2 j y⟩, fun j y => ⟨(hj j y).1, (hj j y).2.own g f (Nat.le_refl _) (Nat.le_refl _) (Nat.le_refl _) ⟨Nat.le_refl _, Nat.le_refl _⟩ (fun b k z => ?_) (fun b k z => ?_)⟩⟩
  · unfold la_W at z; omega
  · unfold rn_W at z; omega
theorem xF.t21 {f p0 w' : Nat} (h : xF f p0 t e p l w o w' c0 c) (x y : Int32) : t_hk (k_X6_readTempl_21 rc x y c) (fun z => xF f p0 t e p l w o w' c0 z.2) := by
  have go : t_hk (k_X6_readTempl_35 rc x y c) (fun z => xF f p0 t e p l w o w' c0 z.2) := by
    unfold k_X6_readTempl_35
    exact l2_bd _ h.node (fun c1 h1 => l2_no h1.stay.2.2.2.2 (l2_sm h1))
  unfold k_X6_readTempl_21
  exact l2_if (fun _ => go) (fun _ => l2_eq (h.stay.2.1 _) go)
/-- the class behind the templ's fault -/
theorem xF.in51b {f p0 w' : Nat} (a1 a3 a4 a5 a6 : Int32) {z : Int32 × t_S} (h : xF f p0 t e p l w o w' c0 z.2) : t_hk (if (z.2.1 1 11) = (0 : Int32) then (if a6 = (0 : Int32) then (if t_ix a1 6100 = true then t_let (t_setI z.2 355 (a1.toNatClampNeg) z.1) (fun s2 => k_X6_readInner_106 rc a1 a3 a4 a6 z.1 s2) else none) else (if t_ix a5 6100 = true then t_let (t_setI z.2 356 (a5.toNatClampNeg) z.1) (fun s1 => k_X6_readInner_106 rc a1 a3 a4 a6 z.1 s1) else none)) else ((some (z.2)).map Sum.inr)) (fun y => ∃ r, y = .inr r ∧ xF f p0 t e p l w o w' c0 r) := l2_no h.stay.2.2.2.2 (l2_mp (l2_sm ⟨_, rfl, h⟩))
theorem xF.in51 {f p0 w' : Nat} (HT : ∀ x y, bC2 (rc.2.2.2.2.2.2.2.2.2.2.2.2.2.1 x y)) (a1 a3 a4 a5 a6 : Int32) (h : xF f p0 t e p l w o w' c0 c) : t_hk (k_X6_readInner_51 rc a1 a3 a4 a5 a6 c) (fun y => ∃ r, y = .inr r ∧ xF f p0 t e p l w o w' c0 r) := by
  unfold k_X6_readInner_51
  exact l2_bd _ (HT _ _ _ _ _ _ _ _ _ _ _ _ _ h) (fun y h1 => h1.in51b a1 a3 a4 a5 a6)
theorem xF.in16 {f p0 w' : Nat} (HT : ∀ x y, bC2 (rc.2.2.2.2.2.2.2.2.2.2.2.2.2.1 x y)) (a1 a3 a4 a5 : Int32) (hv : v ≤ 12) (h : xF f p0 t e p l w o w' c0 c) : t_hk (k_X6_readInner_16 rc a1 a3 a4 a5 (nI v) c) (fun y => ∃ r, y = .inr r ∧ xF f p0 t e p l w o w' c0 r) := by
  unfold k_X6_readInner_16
  exact l2_no (nI_nlt (a := 12) hv (by decide)) (l2_if (fun _ => l2_ck h.tok.2.2.1 (h.in51 HT _ _ _ _ _)) (fun _ => h.in51 HT _ _ _ _ _))
/-- a row read, up to its bracket -/
def rwQ (P : pc_S) (E : en_S) (lv : Int32) (pm : Prop) (t0 m0 u q m t e p l w o s i dd : Nat) (c0 r0 c r : t_S) : Prop := (∃ (v : Nat) (T : Nat → Nat) (u' q' m' t' e' p' l' s' i' : Nat), 0 < v ∧ v ≤ 12 ∧ xk P u q t e p l s i u' q' t' e' p' l' s' i' ∧ m < m' ∧ rw_H P E lv pm t0 m0 m t e p l w o s i dd c0 r0 v T u' q' m' t' e' p' l' s' i' c r) ∨ xf P t0 e p l w o w m0 s c0 r0 c r
def rwI (P : pc_S) (E : en_S) (lv xd : Int32) (t0 m0 u q m t e p l w o s i dd : Nat) (c0 r0 : t_S) (k : Nat) (x : Int32 × Int32 × Int32 × Int32 × Int32 × t_S) (y : Int32 × Int32 × Int32 × Int32 × t_S) : Prop := ∃ (v : Nat) (c r : t_S) (l5 : Int32), v ≤ 12 ∧ k = 13 - v ∧ x = (nI t0, xd, lv, l5, nI v, c) ∧ y = (nI m0, 0, 1, nI v, r) ∧ ((∃ (T : Nat → Nat) (u' q' m' t' e' p' l' s' i' : Nat), rk P u q t e p l s i u' q' t' e' p' l' s' i' ∧ rw_H P E lv False t0 m0 m t e p l w o s i dd c0 r0 v T u' q' m' t' e' p' l' s' i' c r ∧ l5 = (if 0 < v then nI (T (v - 1)) else -1)) ∨ xf P t0 e p l w o w m0 s c0 r0 c r)
/-- from here on both are behind a fault -/
theorem rw_flt {f p0 k : Nat} {a : Option ((Int32 × Int32 × Int32 × Int32 × Int32 × t_S) ⊕ t_S)} {b : Option ((Int32 × Int32 × Int32 × Int32 × t_S) ⊕ t_S)} (ha : t_hk a (fun y => ∃ r, y = .inr r ∧ xF f p0 t0 e p l w o w c0 r)) (hb : t_hk b (fun z => (∃ r', z = .inr r' ∧ xR P f p0 m0 s r0 r') ∨ ∃ g1 g2 g3 g4 r', z = .inl (g1, g2, g3, g4, r') ∧ xR P f p0 m0 s r0 r')) : t_h2 a b (h2_nx (b_X6_readInner_16 rcC) (b_X13_templs_5 rR) (fun x y => ∃ j, j < k ∧ rwI P E lv xd t0 m0 u q m t e p l w o s i dd c0 r0 j x y) (fun c' r1 => t_hk (f_X13_mustBe 41 r1) (rwQ P E lv False t0 m0 u q m t e p l w o s i dd c0 r0 c'))) := by
  refine h2_sep _ _ ha hb (fun x y hx hy => ?_)
  obtain ⟨c1, rfl, hF⟩ := hx
  have fin : ∀ r1, xR P f p0 m0 s r0 r1 → t_hk (f_X13_mustBe 41 r1) (rwQ P E lv False t0 m0 u q m t e p l w o s i dd c0 r0 c1) := fun r1 h1 => l2_imp (h1.mustBe 41) (fun r2 h2 => Or.inr ⟨f, p0, hF, h2⟩)
  rcases hy with ⟨r1, rfl, hR⟩ | ⟨g1, g2, g3, g4, r1, rfl, hR⟩
  · exact fin r1 hR
  · refine xl_go (l2_imp (hR.templs5 g1 g2 g3 g4) (fun z hz => ?_))
    obtain ⟨r2, rfl, h2⟩ := hz
    exact ⟨r2, rfl, fin r2 h2⟩
end
