/-! Level 2: one of a component's own, whole. -/
section
variable {P : pc_S} {nt : Nat → Nat} {u q m a g t e p l s i st f p0 k v0 v1 v2 : Nat} {A B D : Nat → Nat} {c0 r0 c r : t_S}
theorem mB.base {zT : Prop} {n2 n3 : Nat} {c1 : t_S} {l' i' m' st' : Nat} (h : mB zT n2 n3 c0 c r l l' i i' m m' st st') (e7 : c0.1 846 7 = c1.1 846 7) (e8 : c0.1 846 8 = c1.1 846 8) (hE : ∀ j, c0.1 7 j = c1.1 7 j) : mB zT n2 n3 c1 c r l l' i i' m m' st st' := by
  obtain ⟨h1, h2, h3, h4, h5, h6⟩ := h
  exact ⟨h1, h2, fun S hS => h3 S (hS.same e7 e8), h4, fun x hx => by rw [← hE]; exact h5 x hx, h6⟩
theorem ow_O.up {c1 r1 c' r' : t_S} {u1 : Nat} (h : ow_O P nt k v0 v1 v2 u1 q m a g t e p l s i st c1 r1 c' r') (hu : u ≤ u1) (fc : l2_fr la_W c c1) (fr : l2_fr rn_W r r1) : ow_O P nt k v0 v1 v2 u q m a g t e p l s i st c r c' r' := by
  obtain ⟨h1, h2, h3⟩ := h
  refine ⟨(mo_la fc).trans h1, (mo_rn fr).trans h2, ?_⟩
  rcases h3 with ⟨u', q', m', t', e', p', l', s', i', w0, w1, w2, A', B', D', ⟨o1, o2⟩, M, hc, x1, x2, x3, x4, x5⟩ | h3
  · refine Or.inl ⟨u', q', m', t', e', p', l', s', i', w0, w1, w2, A', B', D', ⟨by omega, o2⟩, M, hc, x1, (fc.mono (V := ow_Wc k v0 v1 v2 t e p l) (fun b j y => Or.inl (x_la y))).trans x2, (fr.mono (V := ow_Wr k v0 v1 v2 m s) (fun b j y => Or.inl (x_rn y))).trans x3, x4.base (fc 846 7 (by unfold la_W; omega)).1 (fc 846 8 (by unfold la_W; omega)).1 (fun j => (fc 7 j (by unfold la_W; omega)).1), x5⟩
  · exact Or.inr h3
theorem ow_k37 {W ca wa v mx : Nat} {T : Int32} (hW : ow_k W ca wa v mx v0 v1 v2 T) (c : t_S) : k_X6_readOwn_37 T c = (f_X2_advance c).bind (fun r1 => k_X6_readOwn_153 T ca (nI mx) wa r1) := by
  unfold k_X6_readOwn_37 k_X6_readOwn_85 k_X6_readOwn_111
  rcases hW with ⟨_, rfl, rfl, _, rfl, rfl⟩ | ⟨_, rfl, rfl, _, rfl, rfl⟩ | ⟨_, rfl, rfl, _, rfl, rfl⟩
  · rfl
  · rfl
  · rfl
theorem ow_one {W ca wa v mx : Nat} {T : Int32} (M : mp P nt u q m a g t e p l s i st (-1) (nI k) (-1) c r) (hc : cw_R c r k v0 v1 v2 A B D) (hk : k < 8) (hW : ow_k W ca wa v mx v0 v1 v2 T) (h8 : c.1 1 8 = T) : t_h2 (k_X6_readOwn_37 T c) (k_X13_own_16 (nI k) (nI W) r) (ow_O P nt k v0 v1 v2 u q m a g t e p l s i st c r) := by
  rw [ow_k37 hW]
  unfold k_X13_own_16
  have n8 : c.1 1 8 ≠ 1 ∧ c.1 1 8 ≠ 4 := by
    rw [h8]
    rcases hW with ⟨_, _, _, _, _, rfl⟩ | ⟨_, _, _, _, _, rfl⟩ | ⟨_, _, _, _, _, rfl⟩ <;> exact ⟨by decide, by decide⟩
  refine h2_noR ?_ ?_
  · rcases hW with ⟨rfl, _⟩ | ⟨rfl, _⟩ | ⟨rfl, _⟩
    · show ¬ f_X13_in (nI 7).toInt64 (lN 7) (lN 9) r = 0
      rw [in_nat (by decide) (by decide) (by decide)]; decide
    · show ¬ f_X13_in (nI 8).toInt64 (lN 7) (lN 9) r = 0
      rw [in_nat (by decide) (by decide) (by decide)]; decide
    · show ¬ f_X13_in (nI 9).toInt64 (lN 7) (lN 9) r = 0
      rw [in_nat (by decide) (by decide) (by decide)]; decide
  refine h2_bb _ (pj_adv M.1 (by decide) (Or.inr n8.1) n8.2) (fun c1 r1 hw => ?_)
  obtain ⟨w1, w2, w3⟩ := hw
  rcases w3 with J1 | ⟨f, p0, w3, w4⟩
  rotate_left
  · rw [w3.ow153]
    refine h2_doneL (l2_bd _ (pr_name w4) (fun x hx => l2_no hx.2.ne ?_))
    rw [hx.2.ow75 hk]
    exact l2_sm ⟨mo_la w1, (mo_rn w2).trans (mo_nk (hx.1.mono (fun b j y => Or.inr y))), Or.inr ⟨f, p0, w3, hx.2⟩⟩
  have M1 : mp P nt (u + 1) q m a g t e p l s i st (-1) (nI k) (-1) c1 r1 := M.la (by omega) (Nat.le_refl _) J1 w1 w2
  have hc1 : cw_R c1 r1 k v0 v1 v2 A B D := hc.fr w1 w2 (fun b j _ _ => by unfold la_W; omega) (fun b j _ _ _ => by unfold rn_W; omega)
  have h13 : c1.1 845 13 = nI k := M1.2.2.2.1.2.2.2.1
  refine h2_imp (ow_name (Q := ow_O P nt k v0 v1 v2 (u + 1) q m a g t e p l s i st c1 r1) J1 hc1 hk h13 hW (fun X r3 hX no hv n3 J3 h8' wd => ?_) (fun c' r' f p0 y1 y2 y3 y4 => ⟨mo_la y1, mo_nk y2, Or.inr ⟨f, p0, y3, y4⟩⟩)) (fun x y h => h.up (by omega) w1 w2)
  rcases hW with ⟨rfl, rfl, rfl, rfl, rfl, rfl⟩ | ⟨rfl, rfl, rfl, rfl, rfl, rfl⟩ | ⟨rfl, rfl, rfl, rfl, rfl, rfl⟩
  · exact ow_port M1 hc1 hk hX hv n3 J3 h8' wd
  · exact ow_timer M1 hc1 hk hX hv n3 J3 h8' wd
  · exact ow_var M1 hc1 hk hX hv n3 J3 h8' wd
theorem ow_own (M : mp P nt u q m a g t e p l s i st (-1) (nI k) (-1) c r) (hc : cw_R c r k v0 v1 v2 A B D) (hk : k < 8) : t_h2 (f_X6_readOwn c) (f_X13_own (nI k) r) (ow_O P nt k v0 v1 v2 u q m a g t e p l s i st c r) := by
  -- a fault told here
  have flt : ∀ x : Int32, t_h2 ((f_X2_fail (2 : Int32) c).bind (fun r1 => k_X6_readOwn_37 x r1)) ((f_X13_fail (2 : Int32) (r.1 950 6) r).bind (fun r6 => some r6)) (ow_O P nt k v0 v1 v2 u q m a g t e p l s i st c r) := fun x => by
    refine h2_bb _ (pj_fail (f := 2) M.1 (by decide) (by decide)) (fun c1 r1 hw => ?_)
    obtain ⟨w1, w2, f, p0, w3, w4⟩ := hw
    have e : k_X6_readOwn_37 x c1 = some c1 := by
      unfold k_X6_readOwn_37 k_X6_readOwn_85 k_X6_readOwn_111
      rw [(lc_stay w3).1, l2_bs]
      simp only [w3.ow153, ite_self]
    rw [e]
    exact h2_sm ⟨mo_la w1, mo_rn w2, Or.inr ⟨f, p0, w3, w4⟩⟩
  unfold f_X6_readOwn f_X13_own
  rcases M.1.kw with ⟨j, j1, j2, j3, j4⟩ | ⟨no, h10⟩
  · rw [if_pos j3, j4]
    by_cases z7 : j = 7
    · subst z7
      have e : c.1 1 8 = 207 := j2
      rw [if_pos e, e]
      exact ow_one M hc hk (Or.inl ⟨rfl, rfl, rfl, rfl, rfl, rfl⟩) e
    have n7 : c.1 1 8 ≠ 207 := fun y => z7 (by
      have := (nI_eq (a := 200 + j) (b := 207) (by omega) (by decide)).mp (j2.symm.trans y)
      omega)
    rw [if_neg n7]
    by_cases z8 : j = 8
    · subst z8
      have e : c.1 1 8 = 208 := j2
      rw [if_pos e, e]
      exact ow_one M hc hk (Or.inr (Or.inl ⟨rfl, rfl, rfl, rfl, rfl, rfl⟩)) e
    have n8 : c.1 1 8 ≠ 208 := fun y => z8 (by
      have := (nI_eq (a := 200 + j) (b := 208) (by omega) (by decide)).mp (j2.symm.trans y)
      omega)
    rw [if_neg n8]
    by_cases z9 : j = 9
    · subst z9
      have e : c.1 1 8 = 209 := j2
      rw [if_pos e, e]
      exact ow_one M hc hk (Or.inr (Or.inr ⟨rfl, rfl, rfl, rfl, rfl, rfl⟩)) e
    have n9 : c.1 1 8 ≠ 209 := fun y => z9 (by
      have := (nI_eq (a := 200 + j) (b := 209) (by omega) (by decide)).mp (j2.symm.trans y)
      omega)
    rw [if_neg n9]
    have pj3 : ¬ (7 ≤ pv j ∧ pv j ≤ 9) := fun y => by
      have h7 : pv j = 7 ∨ pv j = 8 ∨ pv j = 9 := by omega
      rcases h7 with h | h | h
      · exact z7 (pv_inj j j1 7 (by decide) (by rw [h]; rfl))
      · exact z8 (pv_inj j j1 8 (by decide) (by rw [h]; rfl))
      · exact z9 (pv_inj j j1 9 (by decide) (by rw [h]; rfl))
    have pvl := (pv_tab j j1).1
    unfold k_X13_own_16
    have e0 : f_X13_in (nI (pv j)).toInt64 7 9 r = 0 := (in_nat (a := 7) (b := 9) (by omega) (by decide) (by decide) r).trans (if_neg pj3)
    rw [if_pos e0]
    exact flt _
  · have nn : ∀ x : Nat, x < 66 → c.1 1 8 ≠ nI (200 + x) := no
    rw [if_neg (show ¬ c.1 1 8 = 207 from nn 7 (by decide)), if_neg (show ¬ c.1 1 8 = 208 from nn 8 (by decide)), if_neg (show ¬ c.1 1 8 = 209 from nn 9 (by decide))]
    unfold k_X13_own_16
    by_cases h5 : r.1 950 5 = 1
    · rw [if_pos h5, if_pos (show f_X13_in (r.1 950 10).toInt64 7 9 r = 0 from in_neg (a := 7) (b := 9) (h10 h5).1 (by decide) r)]
      exact flt _
    · rw [if_neg h5, if_pos (show f_X13_in (-1 : Int32).toInt64 7 9 r = 0 from in_neg (a := 7) (b := 9) (by decide) (by decide) r)]
      exact flt _
end
