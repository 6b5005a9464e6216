/-! Level 2: a component as an item, whole. -/
/-- what a component as an item comes to -/
def kd_tG (P : pc_S) (nt : Nat → Nat) (u q m a g t e p l s i st : Nat) (c r c' r' : t_S) : Prop := ∃ u' q' m' t' e' p' l' s' i' v0 v1 v2 : Nat, ∃ A B D : Nat → Nat, mo P (nt_up nt 2) u' q' m' a g t' e' p' l' s' i' st c' r' ∧ (u < u' ∧ q ≤ q' ∧ m ≤ m' ∧ t ≤ t' ∧ e ≤ e' ∧ p ≤ p' ∧ l ≤ l' ∧ s ≤ s' ∧ i ≤ i') ∧ nt 2 < 8 ∧ l2_fr (kd_Wc (nt 2) t e p l) c c' ∧ l2_fr (kd_Wr (nt 2) m s) r r' ∧ cw_R c' r' (nt 2) v0 v1 v2 A B D ∧ mB False (nt 2 + 1) (nt 3) c c' r' l l' i i' m m' st st ∧ ∀ j, j < v2 → kv_R c' r' (nt 2) j t' e' p' l' s' m'
def kd_tP (P : pc_S) (nt : Nat → Nat) (u q m a g t e p l s i st : Nat) (c r c' r' : t_S) : Prop := l2_fr mo_Wc c c' ∧ l2_fr mo_Wr r r' ∧ (kd_tG P nt u q m a g t e p l s i st c r c' r' ∨ pf P c' r')
section
variable {P : pc_S} {nt : Nat → Nat} {u q m a g t e p l s i st f p0 k v0 v1 v2 : Nat} {c0 r0 c r : t_S}
theorem km_R.end {w0 w1 w2 : Nat} {c1 r1 : t_S} (k2 : nt 2 < 8) (hu : u < u + 1) (h : km_R P (nt_up nt 2) (nt 2) (u + 1) q m a g t e p l s i st c r w0 w1 w2 c1 r1) : kd_tG P nt u q m a g t e p l s i st c r (t_setI c1 845 13 (-1)) r1 := by
  obtain ⟨u1, q1, m1, t1, e1, p1, l1, s1, i1, A, B, D, ⟨o1, o2⟩, M, hc, fc, fr, hB, hV⟩ := h
  have f : l2_fr (fun b j => b = 845 ∧ j = 13) c1 (t_setI c1 845 13 (-1)) := l2_fr.set ⟨rfl, rfl⟩
  have v : (t_setI c1 845 13 (-1)).1 845 13 = -1 := by simp only [l2_gI, reduceIte]
  generalize t_setI c1 845 13 (-1) = c2 at *
  have nf : l2_fr (fun _ _ => False) r1 r1 := l2_fr.rf
  have M0 := M
  obtain ⟨J, N, ⟨k1, k2', k3, k4, k5, k6, k7⟩, ⟨x1, x2, x3, x4, x5, x6, x7⟩, ⟨s1', s2, s3⟩, ⟨b1, b2, b3, b4, b5, b6, b7, b8, b9⟩⟩ := M
  have J2 : pj P u1 0 0 q1 m1 c2 r1 := J.fr f nf (fun j => by omega) (fun b i _ _ => by omega) (fun b i _ _ => by omega) (by omega) (fun j _ y => y) (fun b i _ _ y => y)
  have gg : ∀ b j, ¬ (b = 845 ∧ j = 13) → c2.1 b j = c1.1 b j := fun b j y => (f b j y).1
  have M2 : mp P (nt_up nt 2) u1 q1 m1 a g t1 e1 p1 l1 s1 i1 st (-1) (-1) (-1) c2 r1 := M0.up (Nat.le_refl _) (Nat.le_refl _) J2 f nf (fun b j y => by omega) (fun b j _ y => y) ⟨by rw [gg _ _ (by omega)]; exact k6, b3⟩ ⟨by rw [gg _ _ (by omega)]; exact k4, b5⟩ ⟨by rw [gg _ _ (by omega)]; exact k7, s3, b9⟩ ⟨by rw [gg _ _ (by omega)]; exact x3, v, by rw [gg _ _ (by omega)]; exact x5⟩
  have cpc : ∀ t e p l, cp_c (fun b j => b = 845 ∧ j = 13) t e p l := fun t e p l b j y => by omega
  have cpr : ∀ m s, cp_r (fun _ _ => False) m s := fun m s b j y => y.elim
  exact ⟨u1, q1, m1, t1, e1, p1, l1, s1, i1, w0, w1, w2, A, B, D, M2, ⟨by omega, o2⟩, k2, fc.trans (f.mono (fun b j y => Or.inr (Or.inr (Or.inr (Or.inr (Or.inr (Or.inr (Or.inr y)))))))), fr, hc.fr f nf (fun b j _ _ => by omega) (fun b j _ _ _ y => y), hB.cap (t := 0) (e := 0) (p := 0) (s := 0) f nf (cpc _ _ _ _) (cpr _ _) ⟨by omega, by omega⟩ (fun j => by omega) (fun b j _ _ _ y1 y2 => by omega) (mK.of nf (fun b j _ y => y)) (Nat.le_refl _) (Nat.le_refl _), fun j hj => (hV j hj).fr f nf (cpc _ _ _ _) (cpr _ _) ⟨by omega, by omega⟩ (fun b _ _ y => y) (mK.of nf (fun b j _ y => y)) (Nat.le_refl _) (Nat.le_refl _) (Nat.le_refl _) (Nat.le_refl _) (Nat.le_refl _) (Nat.le_refl _)⟩
/-- the class behind a component's name -/
noncomputable def kcA (s : t_S) : Option t_S := (f_X2_advance s).bind (fun r4 => (f_X2_need (123 : Int32) r4).bind (fun r5 => t_loop b_X6_readComponentItem_65 t_N (0, r5)))
theorem zF.kcL (h : zF f p0 c0 c) : t_hk (t_loop b_X6_readComponentItem_65 t_N (0, c)) (fun c' => lc_F c' f p0 ∧ l2_fr mo_Wc c0 c') := by
  refine xl_one (show t_hk (k_X6_readComponentItem_65 0 c) _ from ?_)
  unfold k_X6_readComponentItem_65
  rw [lc_F.ci104 h.1.1, if_neg h.ne]
  refine l2_no (by decide) (l2_sm ⟨_, rfl, h.1.1.fr (W := fun b j => b = 845 ∧ j = 13) (l2_fr.set ⟨rfl, rfl⟩) (fun j _ _ => by omega), h.2.trans (l2_fr.set (by unfold mo_Wc; omega))⟩)
theorem yR.kcL (h : yR P f p0 r0 r) : t_hk (t_loop b_X13_component_72 t_N (nI k, r)) (yR P f p0 r0) := by
  refine xl_one (show t_hk (k_X13_component_72 (nI k) r) _ from ?_)
  unfold k_X13_component_72 k_X13_component_96
  refine l2_no h.ne (l2_mp (l2_bd _ (h.mustBe _) (fun y hy => l2_sm ⟨_, rfl, hy⟩)))
/-- from its name on -/
theorem kd_item2 {c4 r6 : t_S} {X : Nat} (M : mo P nt u q m a g t e p l s i st c r) (g5 : nt 2 < 8) (J4 : pj P (u + 1) 1 0 q m c4 r6) (n4 : c4.1 1 8 ≠ 4) (N4 : nt_R (pc_W P) (nt_up nt 2) c4 r6) (C4 : l2_fr (fun b j => la_W b j ∨ (b = 6 ∧ j = 66 + X) ∨ (b = 428 ∧ j = 0) ∨ ((b = 429 ∨ b = 431 ∨ b = 433) ∧ j = nt 2) ∨ (b = 845 ∧ j = 13)) c c4) (R4 : l2_fr (fun b j => nk_W b j ∨ (b = 950 ∧ ((31 ≤ j ∧ j ≤ 34) ∨ j = 55)) ∨ ((b = 970 ∨ b = 972 ∨ b = 974 ∨ b = 979) ∧ j = nt 2)) r r6) (z1 : c4.1 845 13 = nI (nt 2) ∧ c4.1 429 (nt 2) = 0 ∧ c4.1 431 (nt 2) = 0 ∧ c4.1 433 (nt 2) = 0) (z2 : r6.1 972 (nt 2) = 0 ∧ r6.1 974 (nt 2) = 0 ∧ r6.1 979 (nt 2) = 0) : t_h2 (kcA c4) ((f_X13_next r6).bind (fun r3 => (f_X13_mustBe (123 : Int32) r3).bind (fun r4 => t_loop b_X13_component_72 t_N (nI (nt 2), r4)))) (kd_tP P nt u q m a g t e p l s i st c r) := by
  have M0 := M
  obtain ⟨J, N, ⟨k1, k2, k3, k4, k5, k6, k7⟩, ⟨x1, x2, x3, x4, x5, x6, x7⟩, ⟨s1, s2, s3⟩, ⟨b1, b2, b3, b4, b5, b6, b7, b8, b9⟩⟩ := M
  have kc4 : l2_fr (kd_Wc (nt 2) t e p l) c c4 := C4.mono (fun b j y => by
    rcases y with y | y | y | y | y
    · exact Or.inl (x_la y)
    · exact Or.inr (Or.inl y.1)
    · exact Or.inr (Or.inr (Or.inl y))
    · exact Or.inr (Or.inr (Or.inr (Or.inl y)))
    · exact Or.inr (Or.inr (Or.inr (Or.inr (Or.inr (Or.inr (Or.inr y)))))))
  have kr4 : l2_fr (kd_Wr (nt 2) m s) r r6 := R4.mono (fun b j y => by
    rcases y with (y | y) | y | y
    · exact Or.inl (x_rn y)
    · exact Or.inl (x_nm y)
    · exact Or.inr (Or.inl ⟨y.1, by omega⟩)
    · exact Or.inr (Or.inr (Or.inl y)))
  have g4 : ∀ b j, (b = 334 ∨ b = 846 ∨ (b = 428 ∧ j ≠ 0) ∨ (b = 845 ∧ j ≠ 13)) → c4.1 b j = c.1 b j := fun b j y => (C4 b j (by unfold la_W; omega)).1
  have mf : ∀ {x : t_S} {f p0 : Nat}, l2_fr la_W c4 x → lc_F x f p0 → zF f p0 c x := fun h y => ⟨mp.mF (mo.mp.mp M0) y (by rw [(h 334 2 (by unfold la_W; omega)).1]; exact g4 _ _ (by omega)) (by rw [(h 845 9 (by unfold la_W; omega)).1]; exact g4 _ _ (by omega)) (by rw [(h 845 7 (by unfold la_W; omega)).1]; exact g4 _ _ (by omega)), (kd_mo kc4).trans (mo_la h)⟩
  unfold kcA
  refine h2_bb _ (pj_adv J4 (by decide) (Or.inl rfl) n4) (fun c5 r7 hw => ?_)
  obtain ⟨y1, y2, y3⟩ := hw
  rcases y3 with J5 | ⟨f, p0, y3, y4⟩
  rotate_left
  · have zz := mf y1 y3
    refine h2_sep _ _ (l2_eq (zz.need (by decide)) zz.kcL) (l2_bd _ ((y4.y.at ((kd_mr kr4).trans (mo_rn y2))).mustBe _) (fun z hz => hz.kcL)) (fun x y hx hy => ⟨hx.2, hy.2, Or.inr ⟨f, p0, hx.1, hy.1⟩⟩)
  refine h2_bb _ (pj_need J5 (by decide) (x := 123) (by decide) rfl) (fun c6 r8 hw => ?_)
  obtain ⟨w1, w2, w3⟩ := hw
  have C46 : l2_fr la_W c4 c6 := y1.trans w1
  have R68 : l2_fr rn_W r6 r8 := y2.trans w2
  refine h2_imp (kl_loop (P := P) (nt := nt_up nt 2) (k := nt 2) (u := u + 1) (q := q) (m := m) (a := a) (g := g) (t := t) (e := e) (p := p) (l := l) (s := s) (i := i) (st := st) (c := c) (r := r) g5 ?_) (fun c' r' h => ⟨h.1, h.2.1, ?_⟩)
  · rcases w3 with J6 | ⟨f, p0, w3, w4⟩
    · refine Or.inl ⟨u + 1 + 1 + 1, q, m, t, e, p, l, s, i, fun _ => 0, fun _ => 0, fun _ => 0, ⟨by omega, Nat.le_refl _, Nat.le_refl _, Nat.le_refl _, Nat.le_refl _, Nat.le_refl _, Nat.le_refl _, Nat.le_refl _, Nat.le_refl _⟩, ?_, ?_, kc4.trans (C46.mono (V := kd_Wc (nt 2) t e p l) (fun b j y => Or.inl (x_la y))), kr4.trans (R68.mono (V := kd_Wr (nt 2) m s) (fun b j y => Or.inl (x_rn y))), mB.nil ?_ ?_ (fun j => ?_) _ _ _ _, fun j hj => absurd hj (Nat.not_lt_zero _)⟩
      · have C6 : l2_fr (fun b j => la_W b j ∨ (b = 6 ∧ j = 66 + X) ∨ (b = 428 ∧ j = 0) ∨ ((b = 429 ∨ b = 431 ∨ b = 433) ∧ j = nt 2) ∨ (b = 845 ∧ j = 13)) c c6 := C4.trans (C46.mono (fun b j y => Or.inl y))
        have R8 : l2_fr (fun b j => nk_W b j ∨ (b = 950 ∧ ((31 ≤ j ∧ j ≤ 34) ∨ j = 55)) ∨ ((b = 970 ∨ b = 972 ∨ b = 974 ∨ b = 979) ∧ j = nt 2)) r r8 := R4.trans (R68.mono (fun b j y => Or.inl (Or.inl y)))
        have cm := pc_c_mono P u (u + 1 + 1 + 1) (by omega)
        refine mp.mk (mo.mp.mp M0) (by omega) (Nat.le_refl _) J6 (N4.fr C46 R68 (fun j => by unfold la_W; omega) ⟨by unfold la_W; omega, by unfold la_W; omega, by unfold la_W; omega, by unfold la_W; omega⟩ ⟨by unfold rn_W; omega, by unfold rn_W; omega, by unfold rn_W; omega, by unfold rn_W; omega⟩ (fun b j y => by unfold rn_W; omega)) C6 R8 (fun b j y => by unfold la_W; omega) ⟨by unfold nk_W rn_W nm_W; omega, by unfold nk_W rn_W nm_W; omega⟩ ⟨?_, by omega⟩ ⟨?_, b5⟩ ⟨?_, ?_, b9⟩ ⟨?_, ?_, ?_⟩
        · rw [(C6 846 6 (by unfold la_W; omega)).1]; exact k6
        · rw [(C6 334 2 (by unfold la_W; omega)).1]; exact k4
        · rw [(C6 428 18 (by unfold la_W; omega)).1]; exact k7
        · rw [(R8 950 81 (by unfold nk_W rn_W nm_W; omega)).1]; exact s3
        · rw [(C6 845 12 (by unfold la_W; omega)).1]; exact x3
        · rw [(C46 845 13 (by unfold la_W; omega)).1]; exact z1.1
        · rw [(C6 845 14 (by unfold la_W; omega)).1]; exact x5
      · have ca : ∀ b, 429 ≤ b ∧ b ≤ 433 → c6.1 b (nt 2) = c4.1 b (nt 2) := fun b y => (C46 b _ (by unfold la_W; omega)).1
        have ra : ∀ b, 972 ≤ b ∧ b ≤ 979 → r8.1 b (nt 2) = r6.1 b (nt 2) := fun b y => (R68 b _ (by unfold rn_W; omega)).1
        exact ⟨by decide, ⟨by rw [ca 429 (by decide)]; exact z1.2.1, by rw [ra 972 (by decide)]; exact z2.1⟩, ⟨by rw [ca 431 (by decide)]; exact z1.2.2.1, by rw [ra 974 (by decide)]; exact z2.2.1⟩, ⟨by rw [ca 433 (by decide)]; exact z1.2.2.2, by rw [ra 979 (by decide)]; exact z2.2.2⟩, fun i hi => absurd hi (Nat.not_lt_zero _), fun i hi => absurd hi (Nat.not_lt_zero _), fun i hi => absurd hi (Nat.not_lt_zero _)⟩
      · rw [(C46 846 7 (by unfold la_W; omega)).1]; exact g4 _ _ (by omega)
      · rw [(C46 846 8 (by unfold la_W; omega)).1]; exact g4 _ _ (by omega)
      · rw [(C46 7 j (by unfold la_W; omega)).1]; exact (C4 7 j (by unfold la_W; omega)).1
    · exact Or.inr ⟨f, p0, w3, w4, (kd_mo kc4).trans (mo_la C46), (kd_mr kr4).trans (mo_rn R68)⟩
  · rcases h.2.2 with ⟨w0, w1, w2, c1, h1, h2⟩ | h
    · subst h2
      exact Or.inl (km_R.end g5 (Nat.lt_succ_self _) h1)
    · exact Or.inr h
end
