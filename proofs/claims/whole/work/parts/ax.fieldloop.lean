/-! Level 2: records of templs on both sides: the loop behind a fault. -/
section
variable {P : pc_S} {E : en_S} {lv xd : Int32} {t0 m0 u q m t e p l w o s i dd v : Nat} {c0 r0 c r : t_S} {rc rcC : RT_X6_readBase} {rR : RT_X13_base}
theorem xF.tf100 {f p0 w' : Nat} (a1 a2 a3 a4 a5 : Int32) (h : xF f p0 t e p l w o w' c0 c) : t_hk (k_X6_readTemplFields_100 rc a1 a2 a3 a4 a5 c) (fun y => ∃ r, y = .inr r ∧ xF f p0 t e p l w o w' c0 r) := by
  unfold k_X6_readTemplFields_100
  exact l2_bd _ h.node (fun c1 h1 => l2_no h1.stay.2.2.2.2 (l2_mp (l2_sm ⟨_, rfl, h1⟩)))
theorem xF.tf30 {f p0 w' : Nat} (a1 a2 a3 a4 : Int32) (hv : v ≤ 16) (h : xF f p0 t e p l w o w' c0 c) : t_hk (k_X6_readTemplFields_30 rc a1 a2 a3 a4 (nI v) c) (fun y => ∃ r, y = .inr r ∧ xF f p0 t e p l w o w' c0 r) := by
  unfold k_X6_readTemplFields_30
  exact l2_no (nI_nlt (a := 16) hv (by decide)) (l2_no h.word (l2_eq (h.stay.2.1 _) (h.tf100 _ _ _ _ _)))
/-- behind the templ -/
theorem xF.tf187 {f p0 w' n : Nat} (HT : ∀ x y, bC2 (rc.2.2.2.2.2.2.2.2.2.2.2.2.2.1 x y)) (a1 a2 a3 a5 : Int32) (hn : n < 6100) (ht : t ≤ n) (h : xF f p0 t e p l w o w' c0 c) : t_hk (k_X6_readTemplFields_187 rc a1 a2 a3 a5 (nI n) c) (fun y => ∃ r, y = .inr r ∧ xF f p0 t e p l w o w' c0 r) := by
  unfold k_X6_readTemplFields_187 k_X6_readTemplFields_248
  refine l2_eq h.stay.1 (l2_eq (h.stay.2.2.1 11 (by decide)).1 (l2_bd _ (HT _ _ _ _ _ _ _ _ _ _ _ _ _ h) (fun y h1 => l2_ck (l2_ix hn (by decide)) (l2_lt ?_))))
  rw [nI_clamp (by omega)]
  have h2 := h1.set (b := 355) (j := n) (v := y.1) (by decide) ht
  exact l2_eq (h2.stay.2.2.1 44 (by decide)).2 (l2_ck rfl (l2_mp (l2_eq (h2.stay.2.2.1 125 (by decide)).1 (l2_sm ⟨_, rfl, h2⟩))))
def fdI (P : pc_S) (E : en_S) (lv xd : Int32) (t0 m0 u q m t e p l w o s i dd : Nat) (c0 r0 : t_S) (k : Nat) (x : Int32 × Int32 × Int32 × Int32 × Int32 × t_S) (y : Int32 × Int32 × Int32 × t_S) : Prop := ∃ (v : Nat) (c r : t_S) (l5 : Int32), v ≤ 16 ∧ k = 17 - v ∧ x = (nI t0, xd, lv, l5, nI v, c) ∧ y = (nI m0, 1, nI v, r) ∧ ((∃ (T M X : Nat → Nat) (u' q' m' t' e' p' l' s' i' : Nat), rk P u q t e p l s i u' q' t' e' p' l' s' i' ∧ fd_H P E lv t0 m0 m t e p l w o s i dd c0 r0 v T M X u' q' m' t' e' p' l' s' i' c r ∧ l5 = (if 0 < v then nI (T (v - 1)) else -1)) ∨ xf P t0 e p l w o w m0 s c0 r0 c r)
theorem fd_flt {f p0 k : Nat} {a : Option ((Int32 × Int32 × Int32 × Int32 × Int32 × t_S) ⊕ t_S)} {b : Option ((Int32 × Int32 × Int32 × t_S) ⊕ t_S)} (hm : m0 ≤ 12999) (ha : t_hk a (fun y => ∃ r, y = .inr r ∧ xF f p0 t0 e p l w o w c0 r)) (hb : t_hk b (fun z => (∃ r', z = .inr r' ∧ xR P f p0 m0 s r0 r') ∨ ∃ g1 g2 g3 r', z = .inl (g1, g2, g3, r') ∧ xR P f p0 m0 s r0 r')) : t_h2 a b (h2_nx (b_X6_readTemplFields_30 rcC) (b_X13_fieldTempls_17 rR) (fun x y => ∃ j, j < k ∧ fdI P E lv xd t0 m0 u q m t e p l w o s i dd c0 r0 j x y) (fdQ P E lv t0 m0 u q m t e p l w o s i dd c0 r0)) := by
  refine h2_sep _ _ ha hb (fun x y hx hy => ?_)
  obtain ⟨c1, rfl, hF⟩ := hx
  rcases hy with ⟨r1, rfl, hR⟩ | ⟨g1, g2, g3, r1, rfl, hR⟩
  · exact Or.inr ⟨f, p0, hF, hR⟩
  · refine xl_go (l2_imp (hR.ft17 g1 g2 g3) (fun z hz => ?_))
    obtain ⟨r2, rfl, h2⟩ := hz
    exact ⟨r2, rfl, Or.inr ⟨f, p0, hF, h2⟩⟩
end
