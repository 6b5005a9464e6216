/-! Level 2: exps worked out: ! size, a TAG put before. -/
section
variable {κ : KPP} {c0 r0 : t_S} {Kc : t_S → t_S → Prop} {Kr : Nat → Nat → t_S → t_S → Prop} {c r c1 r1 c' r' : t_S} {D a H S rr e0 e1 i g n nn m m0 m1 cnt o K st : Nat} {x : Int32} {oc or : Option t_S}
theorem uo_not (hn : n < 13000) (h : T1 D a H nn m c1 r1) : UO D a H c1 r1 (f_X0_unary (nI 11) x c1) (f_X13_one (nI n) (nI 65) r1) := by
  obtain ⟨t, k, hd, k8, p0, m2, ps, pn, pt, pc, _⟩ := h.1.hd
  obtain ⟨rs, hrs, s98, s97, fs, sJ, e1, etop⟩ := t1_off h
  obtain ⟨b1, b2, b3⟩ := h.2.2.2.1
  have C : f_X0_unary (nI 11) x c1 = (if f_X8_kind (c1.2.1 338 a) c1 = (1 : Int32) then (if (lg_cmp (f_X8_told (c1.2.1 338 a) c1) (0 : Int64)) = (0 : Int32) then (k_X0_unary_181 1 c1) else (k_X0_unary_181 0 c1)) else some (t_setI c1 334 12 1)) :=
    un_c (o := 11) h.2.1.2.2.1 h.2.1.1 b2 (by omega) _ (fun w => if f_X8_kind w c1 = (1 : Int32) then (if (lg_cmp (f_X8_told w c1) (0 : Int64)) = (0 : Int32) then (k_X0_unary_181 1 c1) else (k_X0_unary_181 0 c1)) else some (t_setI c1 334 12 1)) rfl
  have R : f_X13_one (nI n) (nI 65) r1 = (if (r1.2.1 1006 (260 * (40 + H))).toInt32 = (1 : Int32) then (if (lg_cmp (rs.2.1 1006 (260 * (40 + H) + 1)) (0 : Int64)) = (0 : Int32) then (k_X13_one_124 1 rs) else (k_X13_one_124 0 rs)) else ((f_X13_error (1 : Int32) rs).bind (fun r => some r))) := by
    unfold f_X13_one
    rw [etop, if_pos (l2_ix (by omega) (by decide)), e1, ← hrs, nI_clamp (n := 260 * (40 + H)) (by omega), nI_1]
    rw [t_let, if_neg (by decide), if_neg (by decide), if_neg (by decide), if_neg (by decide), if_pos (by decide), if_pos (l2_ix (by omega) (by decide)), nI_clamp (n := 260 * (40 + H) + 1) (by omega)]
  rw [vl_kind hd] at C
  rw [p0, lN_w] at R
  have q : nI k = (1 : Int32) ↔ k = 1 := nI_eq (b := 1) (by omega) (by decide)
  by_cases k0 : k = 1
  · rw [if_pos (q.mpr k0)] at C R
    subst k0
    have bt := pt rfl
    have e1 : (r1.2.1 1006 (260 * (40 + H) + 1)).toInt = t := ps (Or.inr (Or.inl ⟨rfl, bt⟩))
    have z1 : lg_cmp (f_X8_told (c1.2.1 338 a) c1) (0 : Int64) = 0 ↔ t = 0 := lg_0 (vl_told hd) rfl
    have z2 : lg_cmp (rs.2.1 1006 (260 * (40 + H) + 1)) (0 : Int64) = 0 ↔ t = 0 := lg_0 (by rw [sJ]; exact e1) rfl
    have fin : ∀ b : Int32, f_X0_unary (nI 11) x c1 = k_X0_unary_181 b c1 → f_X13_one (nI n) (nI 65) r1 = k_X13_one_124 b rs → UO D a H c1 r1 (f_X0_unary (nI 11) x c1) (f_X13_one (nI n) (nI 65) r1) := fun b C R => by
      obtain ⟨r2, z1, z2, z3, z4, z6⟩ := rs_truth (b := b) s98 b1
      refine uo_cell h C (tr_cell (b := b)) (by rw [R]; unfold k_X13_one_124; rw [z1, l2_bs]) z2 z3 (by rw [z4]; split <;> rfl) ?_ ((fs.mono (fun b j y => by unfold oWr; omega)).trans (z6.mono (fun b j y => by unfold oWr; omega))) (Or.inr (Or.inl ⟨rfl, by split <;> omega⟩))
      rw [(z6 950 97 (by omega)).1]; exact s97
    by_cases t0 : t = 0
    · rw [if_pos (z1.mpr t0)] at C
      rw [if_pos (z2.mpr t0)] at R
      exact fin 1 C R
    · rw [if_neg (fun y => t0 (z1.mp y))] at C
      rw [if_neg (fun y => t0 (z2.mp y))] at R
      exact fin 0 C R
  · rw [if_neg (fun y => k0 (q.mp y))] at C R
    exact uo_err (er := 1) (by decide) C (fs.mono (fun b j y => by unfold oWr; omega)) s97 R
theorem uo_size (hn : n < 13000) (h : T1 D a H nn m c1 r1) : UO D a H c1 r1 (f_X0_unary (nI 12) x c1) (f_X13_one (nI n) (nI 66) r1) := by
  obtain ⟨t, k, hd, k8, p0, m2, ps, pn, pt, pc, pv, _⟩ := h.1.hd
  obtain ⟨rs, hrs, s98, s97, fs, sJ, e1, etop⟩ := t1_off h
  obtain ⟨b1, b2, b3⟩ := h.2.2.2.1
  have C : f_X0_unary (nI 12) x c1 = (if f_X8_kind (c1.2.1 338 a) c1 = (2 : Int32) then k_X0_unary_218 (c1.2.1 338 a) c1 else if f_X8_kind (c1.2.1 338 a) c1 = (8 : Int32) then k_X0_unary_218 (c1.2.1 338 a) c1 else if f_X8_kind (c1.2.1 338 a) c1 = (6 : Int32) then k_X0_unary_218 (c1.2.1 338 a) c1 else some (t_setI c1 334 12 1)) :=
    un_c (o := 12) h.2.1.2.2.1 h.2.1.1 b2 (by omega) _ (fun w => if f_X8_kind w c1 = (2 : Int32) then k_X0_unary_218 w c1 else if f_X8_kind w c1 = (8 : Int32) then k_X0_unary_218 w c1 else if f_X8_kind w c1 = (6 : Int32) then k_X0_unary_218 w c1 else some (t_setI c1 334 12 1)) rfl
  have R : f_X13_one (nI n) (nI 66) r1 = (if (r1.2.1 1006 (260 * (40 + H))).toInt32 = (2 : Int32) then k_X13_one_156 (nI (260 * (40 + H))) rs else if (r1.2.1 1006 (260 * (40 + H))).toInt32 = (8 : Int32) then k_X13_one_156 (nI (260 * (40 + H))) rs else if (r1.2.1 1006 (260 * (40 + H))).toInt32 = (6 : Int32) then k_X13_one_156 (nI (260 * (40 + H))) rs else ((f_X13_error (1 : Int32) rs).bind (fun r => some r))) := by
    unfold f_X13_one
    rw [etop, if_pos (l2_ix (by omega) (by decide)), e1, ← hrs, nI_clamp (n := 260 * (40 + H)) (by omega)]
    rw [t_let, if_neg (by decide), if_neg (by decide), if_neg (by decide), if_neg (by decide), if_neg (by decide), if_pos (by decide)]
  rw [vl_kind hd] at C
  rw [p0, lN_w] at R
  have q : ∀ y : Nat, y < 100 → (nI k = nI y ↔ k = y) := fun y hy => nI_eq (by omega) (by omega)
  have q2 : nI k = (2 : Int32) ↔ k = 2 := q 2 (by decide)
  have q8 : nI k = (8 : Int32) ↔ k = 8 := q 8 (by decide)
  have q6 : nI k = (6 : Int32) ↔ k = 6 := q 6 (by decide)
  by_cases k0 : k = 2 ∨ k = 8 ∨ k = 6
  · obtain ⟨v, v1, v2, v3⟩ := pv k0
    have C' : f_X0_unary (nI 12) x c1 = k_X0_unary_218 (c1.2.1 338 a) c1 := by
      rw [C]
      rcases k0 with e | e | e
      · rw [if_pos (q2.mpr e)]
      · rw [if_neg (fun y => by have := q2.mp y; omega), if_pos (q8.mpr e)]
      · rw [if_neg (fun y => by have := q2.mp y; omega), if_neg (fun y => by have := q8.mp y; omega), if_pos (q6.mpr e)]
    have R' : f_X13_one (nI n) (nI 66) r1 = k_X13_one_156 (nI (260 * (40 + H))) rs := by
      rw [R]
      rcases k0 with e | e | e
      · rw [if_pos (q2.mpr e)]
      · rw [if_neg (fun y => by have := q2.mp y; omega), if_pos (q8.mpr e)]
      · rw [if_neg (fun y => by have := q2.mp y; omega), if_neg (fun y => by have := q8.mp y; omega), if_pos (q6.mpr e)]
    have ex : f_X8_extent (c1.2.1 338 a) c1 = nI v := by
      have kd : ((c1.2.1 338 a).toInt32 &&& (15 : Int32)) = nI k := vl_kind hd (s := c1)
      have td : ((c1.2.1 338 a) >>> ((12 : Int32).toInt64 &&& 63)) = lN v := Int64.toInt_inj.mp (by rw [pk_lT (by omega)]; exact (vl_told hd (s := c1)).trans v2)
      unfold f_X8_extent k_X8_extent_23
      rw [kd, td, lN_w]
      rcases k0 with e | e | e
      · rw [if_pos (q2.mpr e)]
      · rw [if_neg (fun y => by have := q2.mp y; omega), if_pos (q8.mpr e)]
      · rw [if_neg (fun y => by have := q2.mp y; omega), if_neg (fun y => by have := q8.mp y; omega), if_pos (q6.mpr e)]
    have C2 : f_X0_unary (nI 12) x c1 = (f_X0_replaceTop (f_X8_plainCell (0 : Int32) (nI v).toInt64 c1) c1).bind (fun r => some r) := by
      rw [C']
      unfold k_X0_unary_218
      rw [ex]
    obtain ⟨r2, z1, z2, z3, z4, z5, z6⟩ := rs_number (v := lN v) s98 s97 b1
    have tl : (lN v).toInt = v := pk_lT (by omega)
    refine uo_cell h C2 (vl_plain (t := (v : Int)) (x := (nI v).toInt64) (nI_lT (by omega)) (by omega) (by decide) rfl) ?_ z2 z3 (by rw [z4, tl]) (by rw [z5, tl, if_pos (by omega)]) ((fs.mono (fun b j y => by unfold oWr; omega)).trans (z6.mono (fun b j y => by unfold rsF at y; unfold oWr; omega))) (Or.inl ⟨rfl, by omega, by omega⟩)
    rw [R']
    unfold k_X13_one_156
    rw [nI_1, if_pos (l2_ix (by omega) (by decide)), nI_clamp (n := 260 * (40 + H) + 1) (by omega), sJ, v3, z1, l2_bs]
  · rw [if_neg (fun y => k0 (Or.inl (q2.mp y))), if_neg (fun y => k0 (Or.inr (Or.inl (q8.mp y)))), if_neg (fun y => k0 (Or.inr (Or.inr (q6.mp y))))] at C R
    exact uo_err (er := 1) (by decide) C (fs.mono (fun b j y => by unfold oWr; omega)) s97 R
end
