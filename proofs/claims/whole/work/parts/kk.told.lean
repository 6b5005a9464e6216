/-! Level 2: a templ that names a told template: its ERROR, its slots prepared. -/
/-- a told template is prepared by the reference, where at most hb VALUES wait; w: its ERROR -/
def TPr (c0 r0 : t_S) (P : Nat → Int64) (TS : Nat → Nat → Nat → Prop) (wt : Nat → Nat) (NT : Nat → Prop) (hb sb g u w : Nat) : Prop := ∀ r H S pc, l2_fr eZr r0 r → r.1 950 98 = nI H → r.1 950 97 = 0 → r.1 950 103 = nI S → H ≤ hb → S ≤ sb → r.1 950 138 ≠ 0 → r.1 950 135 = nI pc → pc + 240 * rem wt r ≤ 360000 → Tld P TS r → r.1 1030 u ≠ r.1 950 133 → ∃ r', (R_X13_behindFirst g).2.2.2.2.1 (r.1 968 u) (t_setI r 1030 u (r.1 950 133)) = some r' ∧ l2_fr (eWr H S) r r' ∧ (∀ x, KrZ c0 P TS wt NT x x r r') ∧ r'.1 950 98 = nI H ∧ r'.1 950 103 = nI S ∧ r'.1 950 97 = nI w ∧ (w = 0 → r'.1 1030 u = r'.1 950 133)
section
variable {κ : KPP} {c0 r0 : t_S} {P : Nat → Int64} {TS : Nat → Nat → Nat → Prop} {wt : Nat → Nat} {Z Y NT : Nat → Prop} {cnt g rr e0 t n u w m1 hb sb : Nat}
/-- operation 35 of the class -/
theorem wr_turn {c : t_S} (f : l2_fr (eZc c0) c0 c) (h2 : c0.1 334 2 = nI cnt) (hcnt : cnt ≤ 16000) (hi : e0 < cnt) (ho : px_o c0 e0 35 (nI t)) (h12 : c.1 334 12 = 0) (h14 : c0.1 334 14 = 0) (hw : ∀ s, (∀ b j, b ≠ 334 → s.1 b j = c.1 b j) → f_X10_wrongOf (nI t) s = some (nI w)) : ∃ c', b_X0_work_12 (nI e0, c) = some (.inl (nI (e0 + 1), c')) ∧ l2_fr (fun b j => b = 334 ∧ (j = 12 ∨ j = 13)) c c' ∧ c'.1 334 12 = nI w ∧ c'.1 334 13 = nI e0 := by
  have k := cw_turn f h2 hcnt hi ho (by decide) (by decide) h12
  rw [if_pos (by decide), if_pos (by decide), if_pos (by decide), if_pos (by decide), if_neg (by decide)] at k
  have e36 : c.1 336 e0 = nI t := ((ez_c (b := 336) (j := e0) f (by omega)).1).trans ho.2
  have e14 : c.1 334 14 = 0 := ((ez_c (b := 334) (j := 14) f (by omega)).1).trans h14
  obtain ⟨cs, hcs⟩ : ∃ cs, cs = t_setI c 334 13 (nI e0) := ⟨_, rfl⟩
  have f1 : l2_fr (fun b j => b = 334 ∧ j = 13) c cs := by rw [hcs]; exact l2_fr.set ⟨rfl, rfl⟩
  have v13 : cs.1 334 13 = nI e0 := by rw [hcs, l2_g, if_pos rfl]
  rw [← hcs] at k
  have ga : f_X0_gather (nI 35) (nI e0) cs = some (t_setI cs 334 12 (nI w)) := by
    unfold f_X0_gather
    rw [show (nI 35).toInt = 35 by decide, if_neg (by decide), if_neg (by decide), if_neg (by decide), if_neg (by decide), if_neg (by decide), if_neg (by decide), if_pos rfl, if_pos (((f1 334 14 (by omega)).1).trans e14), if_pos (l2_ix (by omega) (by decide)), nI_clamp (n := e0) (by omega), (f1 336 e0 (by omega)).1, e36, hw cs (fun b j hb => (f1 b j (by omega)).1), l2_bs, t_let]
  refine ⟨t_setI cs 334 12 (nI w), by rw [k, ga, l2_bs], (f1.mono (fun b j y => ⟨y.1, Or.inr y.2⟩)).trans (l2_fr.set ⟨rfl, Or.inl rfl⟩), by rw [l2_g, if_pos rfl], by rw [l2_g, if_neg (by decide)]; exact v13⟩
theorem ev_28 (h2 : c0.1 334 2 = nI cnt) (hcnt : cnt ≤ 16000) (h14 : c0.1 334 14 = 0) (hi : e0 < cnt) (ho : px_o c0 e0 35 (nI t)) (ht : t < 6100) (hn : n < 13000) (hk : r0.1 955 n = 28) (hrr : rr ≤ 360) (h7 : c0.1 354 t = 7) (h57 : c0.1 357 t = nI u) (hu : u < 60) (hf : ∀ r, l2_fr eZr r0 r → fU r n = some (nI u)) (hw : c0.1 (364 + u) 5 = nI w) (w7 : w ≤ 7) (hbad : w ≠ 0 → ∃ pp, TS u 13000 pp) (hYN : ∀ n, Y n → NT n) (hm : n < m1) (hκ : κ.k + 345 ≤ hb ∧ κ.s ≤ sb) (T : TPr c0 r0 P TS wt NT hb sb (g + 1) u w) : EVt κ c0 r0 P TS wt Z Y (g + 2) rr e0 (e0 + 1) n m1 n (fun c r _ _ _ _ => r.1 1030 u = r.1 950 133) := by
  intro c r D a H S nh mh pc hE hV ha hS h138 h135 hpot hTld _
  obtain ⟨z1, z2⟩ := hE.1
  obtain ⟨b1, b2, b3⟩ := hE.bd2 hrr
  have bκ : H + 1 + 15 ≤ κ.k + rr ∧ κ.k ≤ 400 ∧ κ.s ≤ 13000 := hE.2.2.2.2.2
  have qq := q34_up (c := c0) (show e0 ≤ e0 + 1 by omega)
  have wo : ∀ s, (∀ b j, b ≠ 334 → s.1 b j = c.1 b j) → f_X10_wrongOf (nI t) s = some (nI w) := fun s hs => by
    have e54 : s.1 354 t = 7 := (hs 354 t (by decide)).trans (((ez_c (b := 354) (j := t) z1 (by omega)).1).trans h7)
    have e57 : s.1 357 t = nI u := (hs 357 t (by decide)).trans (((ez_c (b := 357) (j := t) z1 (by omega)).1).trans h57)
    have e64 : s.1 (364 + u) 5 = nI w := (hs _ 5 (by omega)).trans (((ez_c (b := 364 + u) (j := 5) z1 (by omega)).1).trans hw)
    unfold f_X10_wrongOf
    rw [if_pos (l2_ix ht (by decide)), nI_clamp (n := t) (by omega), if_pos e54, e57, if_pos (l2_ix hu (by decide)), nI_clamp (n := u) (by omega), Nat.one_mul]
    exact congrArg some e64
  obtain ⟨c', t1, t2, t3, t4⟩ := wr_turn (w := w) z1 h2 hcnt hi ho hE.2.1.2.2 h14 wo
  have F1 : l2_fr (eWc c0 (a + nh) (D + 1)) c c' := t2.mono (fun b j y => by unfold eWc; omega)
  have Kc : KcZ Z c c' := EK_Z (c0 := c0) (P := P) (TS := TS) (wt := wt) (Y := Y).1.1 c c' (t2.mono (fun b j y => by unfold eBc; omega))
  have e55 : r.1 955 n = 28 := ((ez_r (b := 955) (j := n) z2 (by omega)).1).trans hk
  have fu : f_X13_find 967 (0 : Int32) (r.1 950 44) ((r.2.1 957 n).toInt32) r = some (nI u) := hf r z2
  have done : ∀ r', (R_X13_behindFirst (g + 2)).2.2.2.2.1 (nI n) r = some r' → l2_fr (eWr (H + 1) S) r r' → KrZ c0 P TS wt Y e0 (e0 + 1) r r' → r'.1 950 98 = nI (H + 1) → r'.1 950 103 = nI S → r'.1 950 97 = nI w → (w = 0 → r'.1 1030 u = r'.1 950 133) → ∃ c' r' i v, (v ≤ e0 + 1 - e0 ∧ e0 ≤ i ∧ i ≤ e0 + 1 ∧ l2_tn b_X0_work_12 v (nI e0, c) (nI i, c')) ∧ Ef c0 (KcZ Z) (KrZ c0 P TS wt Y e0 (e0 + 1)) (D + 1) (a + nh) (H + 1) S c r c' r' ∧ ((i = e0 + 1 ∧ Et D a nh H S c' r' ∧ ∃ pc', r'.1 950 135 = nI pc' ∧ pc' ≤ 370000 ∧ r'.1 1030 u = r'.1 950 133) ∨ Eb e0 (e0 + 1) S c' r') ∧ (R_X13_behindFirst (g + 2)).2.2.2.2.1 (nI n) r = some r' := fun r' pr Fr Kr e98 e103 e97 es => by
    refine ⟨c', r', e0 + 1, 1, ⟨by omega, by omega, Nat.le_refl _, l2_tn.one t1⟩, ⟨F1, Fr, Kc, Kr⟩, ?_, pr⟩
    by_cases w0 : w = 0
    · subst w0
      obtain ⟨_, hR⟩ := Kr.2.2.2.2 e97
      obtain ⟨R1, _, _⟩ := hR h138
      obtain ⟨pc1, p1, p2, p3, p4, p5⟩ := R1 pc h135 hpot
      exact Or.inl ⟨rfl, ⟨⟨((t2 334 7 (by omega)).1).trans hE.2.1.1, ((t2 339 (D + 1) (by omega)).1).trans hE.2.1.2.1, t3⟩, e98, e97, e103⟩, pc1, p1, by omega, es rfl⟩
    · exact Or.inr ⟨w, e0, ⟨by omega, w7⟩, t3, e97, t4, Nat.le_refl _, by omega, e103⟩
  by_cases st : r.1 1030 u = r.1 950 133
  · have w0 : w = 0 := Classical.byContradiction (fun y => by
      obtain ⟨pp, hp⟩ := hbad y
      exact absurd (hTld u hu st 13000 pp hp).1 (by decide))
    refine done r ?_ l2_fr.rf (KrZ.plain (by omega) (fun h => h) l2_fr.rf) hE.2.2.1.1 hE.2.2.1.2.2 (by rw [w0]; exact hE.2.2.1.2.1) (fun _ => st)
    show m_X13_prepare (R_X13_behindFirst (g + 1)) (nI n) r = some r
    unfold m_X13_prepare
    rw [if_pos hE.2.2.1.2.1, if_pos (l2_ix hn (by decide)), nI_clamp (n := n) (by omega), e55, if_neg (by decide), if_pos rfl, fu, l2_bs, if_neg (nI_pos (by omega)), if_pos (l2_ix hu (by decide)), nI_clamp (n := u) (by omega), if_pos st]
  · obtain ⟨r', q1, q2, q3, q4, q5, q6, q7⟩ := T r (H + 1) S pc z2 hE.2.2.1.1 hE.2.2.1.2.1 hE.2.2.1.2.2 (by omega) (by omega) h138 h135 (by omega) hTld st
    refine done r' ?_ q2 (EK.w EK_Z (Kc := KcZ Z) ((q3 e0).mono hYN) (Nat.le_refl _) (by omega)) q4 q5 q6 q7
    show m_X13_prepare (R_X13_behindFirst (g + 1)) (nI n) r = some r'
    unfold m_X13_prepare
    rw [if_pos hE.2.2.1.2.1, if_pos (l2_ix hn (by decide)), nI_clamp (n := n) (by omega), e55, if_neg (by decide), if_pos rfl, fu, l2_bs, if_neg (nI_pos (by omega)), if_pos (l2_ix hu (by decide)), nI_clamp (n := u) (by omega), if_neg st, t_let]
    have e68 : (t_setI r 1030 u (r.1 950 133)).1 968 u = r.1 968 u := ((l2_fr.set (W := fun b _ => b = 1030) (s := r) (a := 1030) (k := u) (v := r.1 950 133) rfl) 968 u (show ¬ 968 = 1030 by decide)).1
    rw [e68, q1, l2_bs]
end
