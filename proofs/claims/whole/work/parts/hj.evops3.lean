/-! Level 2: exps worked out: operations of two VALUES: numbers, order, alike or not. -/
/-- what the class does with its two top VALUES w, v -/
noncomputable def bX (a b : Nat) (x : Int32) (w v : Int64) (c1 : t_S) : Option t_S := if x = (15 : Int32) then ((f_X0_index w v c1).bind (fun r17 => some (r17)))
 else (if x = (21 : Int32) then ((f_X0_join w v c1).bind (fun r16 => some (r16)))
 else (if x < (26 : Int32) then (if (f_X8_kind w c1) = (0 : Int32) then (if (f_X8_kind v c1) = (0 : Int32) then (if x < (22 : Int32) then ((f_X0_reckon x (f_X8_told w c1) (f_X8_told v c1) c1).bind (fun r9 => some (r9)))
 else (t_let (t_setI c1 334 7 ((c1.1 334 7) - (1 : Int32))) (fun s1 =>
 (f_X0_replaceTop (f_X0_truth (f_X0_isOrdered x (f_X8_told w s1) (f_X8_told v s1) s1) s1) s1).bind (fun r14 => some (r14)))))
 else (k_X0_binary_178 c1))
 else (k_X0_binary_178 c1))
 else ((f_X8_same 338 (nI a) 338 (nI b) c1).bind (fun r15 =>
 t_let (t_setI c1 334 7 ((c1.1 334 7) - (1 : Int32))) (fun s2 =>
 if x = (26 : Int32) then (k_X0_binary_146 1 r15 s2)
 else (k_X0_binary_146 0 r15 s2))))))
section
variable {κ : KPP} {c0 r0 : t_S} {Kc : t_S → t_S → Prop} {Kr : Nat → Nat → t_S → t_S → Prop} {c r c1 r1 c' r' : t_S} {D a H S rr rr2 e0 e1 i g n nn m m0 m1 cnt o K st X b sz n0 n1 n2 k1 k2 : Nat} {x : Int32} {oc or : Option t_S}
theorem bi_x (h : T2 D a H n1 k1 n2 k2 c1 r1) : f_X0_binary x c1 = bX a (a + n1) x (c1.2.1 338 a) (c1.2.1 338 (a + n1)) c1 := bi_c h (bX a (a + n1) x) (fun _ _ => rfl)
theorem t2_7 (h : T2 D a H n1 k1 n2 k2 c1 r1) : c1.1 334 7 - (1 : Int32) = nI (D + 1) := by
  rw [h.2.1.2.2.2.1, sy_m1n (by omega), show D + 2 - 1 = D + 1 by omega]
/-- the reference has taken both off -/
theorem t2_off (h : T2 D a H n1 k1 n2 k2 c1 r1) : ∃ rs, rs = t_setI r1 950 98 (nI H) ∧ rs.1 950 98 = nI H ∧ rs.1 950 97 = 0 ∧ l2_fr (fun b j => b = 950 ∧ j = 98) r1 rs ∧ (∀ b j, rs.2.1 b j = r1.2.1 b j) ∧ (r1.1 950 98 - (2 : Int32) = nI H) ∧ f_X13_under r1 = nI (260 * (40 + H)) ∧ f_X13_top r1 = nI (260 * (41 + H)) := by
  obtain ⟨_, _, ⟨h98, h97⟩, b1, b2, b3⟩ := h
  have s2 : nI (H + 2) - (2 : Int32) = nI H := by
    rw [show (2 : Int32) = nI 2 from rfl, Nat.add_comm H 2]; exact vr_len
  have s3 : nI (40 + (H + 2)) - (2 : Int32) = nI (40 + H) := by
    rw [show (2 : Int32) = nI 2 from rfl, show 40 + (H + 2) = 2 + (40 + H) by omega]; exact vr_len
  refine ⟨_, rfl, by rw [l2_g, if_pos rfl], by rw [l2_g, if_neg (by decide)]; exact h97, l2_fr.set ⟨rfl, rfl⟩, fun _ _ => rfl, by rw [h98, s2], ?_, ?_⟩
  · unfold f_X13_under
    rw [h98, show (40 : Int32) = nI 40 from rfl, nI_add, s3, show (260 : Int32) = nI 260 from rfl, pk_mul]
  · unfold f_X13_top
    rw [h98, show (40 : Int32) = nI 40 from rfl, nI_add, sy_m1n (by omega), show (260 : Int32) = nI 260 from rfl, pk_mul, show 40 + (H + 2) - 1 = 41 + H by omega]
/-- both come to one cell -/
theorem uo_cell2 {w : Int64} {t : Int} {kk : Nat} {r2 : t_S} (h : T2 D a H n1 k1 n2 k2 c1 r1) (hc : oc = (f_X0_replaceTop w (t_setI c1 334 7 (nI (D + 1)))).bind (fun r => some r)) (hw : vl_c t 1 kk w) (hr : or = some r2) (e98 : r2.1 950 98 = nI (H + 1)) (p1 : r2.2.1 1006 (260 * (40 + H)) = lN kk) (p2 : (r2.2.1 1006 (260 * (40 + H) + 1)).toInt = t) (e97 : r2.1 950 97 = 0) (f : l2_fr (oWr H) r1 r2) (hs : (kk = 0 ∧ -(10 ^ 15) ≤ t ∧ t ≤ 10 ^ 15) ∨ (kk = 1 ∧ (t = 0 ∨ t = 1)) ∨ (kk = 5 ∧ 0 ≤ t ∧ t < 8)) : UO D a H c1 r1 oc or := by
  obtain ⟨_, ⟨hA, h39, _, h7, h12⟩, ⟨h98, h97⟩, b1, b2, b3⟩ := h
  have g7 : (t_setI c1 334 7 (nI (D + 1))).1 334 7 = nI (D + 1) := by rw [l2_g, if_pos rfl]
  have gA : (t_setI c1 334 7 (nI (D + 1))).1 339 D = nI a := by rw [l2_sO (by decide)]; exact hA
  have g12 : (t_setI c1 334 7 (nI (D + 1))).1 334 12 = 0 := by rw [l2_g, if_neg (by decide)]; exact h12
  have fg : l2_fr (fun b j => b = 334 ∧ j = 7) c1 (t_setI c1 334 7 (nI (D + 1))) := l2_fr.set ⟨rfl, rfl⟩
  generalize t_setI c1 334 7 (nI (D + 1)) = cs at *
  obtain ⟨c2, q1, q2, q3, q4, q5⟩ := cs_replace (w := w) g7 gA (by omega) (by omega)
  refine ⟨c2, r2, by rw [hc, q1, l2_bs], hr, (fg.mono (fun b j y => by unfold oWc; omega)).trans (q5.mono (fun b j y => by unfold oWc; omega)), f, Or.inl ⟨1, 2, vw_sc (t := t) (k := kk) (by rw [q4]; exact hw) p1 p2 hs, q3, q2, ?_, e98, e97⟩⟩
  rw [(q5 334 12 (by omega)).1]; exact g12
/-- .. a truth -/
theorem uo_tru2 {b : Int32} {rs : t_S} (h : T2 D a H n1 k1 n2 k2 c1 r1) (hrs : rs = t_setI r1 950 98 (nI H)) (hc : oc = (f_X0_replaceTop (f_X0_truth b (t_setI c1 334 7 (nI (D + 1)))) (t_setI c1 334 7 (nI (D + 1)))).bind (fun r => some r)) (hr : or = (f_X13_pushTruth b rs).bind (fun r => some r)) : UO D a H c1 r1 oc or := by
  obtain ⟨rs', hrs', s98, s97, fs, _⟩ := t2_off h
  have e : rs' = rs := by rw [hrs', hrs]
  subst e
  have bb := h.2.2.2
  obtain ⟨r2, z1, z2, z3, z4, z6⟩ := rs_truth (b := b) s98 (by omega)
  refine uo_cell2 h hc (tr_cell (b := b)) (by rw [hr, z1, l2_bs]) z2 z3 (by rw [z4]; split <;> rfl) ?_ ((fs.mono (fun b j y => by unfold oWr; omega)).trans (z6.mono (fun b j y => by unfold oWr; omega))) (Or.inr (Or.inl ⟨rfl, by split <;> omega⟩))
  rw [(z6 950 97 (by omega)).1]; exact s97
/-- .. what reckoning gives -/
theorem uo_rk {rs : t_S} (h : T2 D a H n1 k1 n2 k2 c1 r1) (hrs : rs = t_setI r1 950 98 (nI H)) (k : RK c1 rs oc or) : UO D a H c1 r1 oc or := by
  obtain ⟨rs', hrs', s98, s97, fs, _⟩ := t2_off h
  have e : rs' = rs := by rw [hrs', hrs]
  subst e
  have bb := h.2.2.2
  have fs' : l2_fr (oWr H) r1 rs' := fs.mono (fun b j y => by unfold oWr; omega)
  rcases k with ⟨z, q1, q2, q3⟩ | ⟨q1, q2 | ⟨z, q2, q3⟩⟩
  · obtain ⟨r2, z1, z2, z3, z4, z5, z6⟩ := rs_number (v := z) s98 s97 (by omega)
    unfold nB at q3
    refine uo_cell2 (w := f_X8_plainCell (0 : Int32) z (t_setI c1 334 7 (nI (D + 1)))) h ?_ (vl_plain (t := z.toInt) (x := z) rfl (by omega) (by decide) rfl) (by rw [q2, z1, l2_bs]) z2 z3 (by rw [z4]) (by rw [z5, if_pos q3]) (fs'.trans (z6.mono (fun b j y => by unfold rsF at y; unfold oWr; omega))) (Or.inl ⟨rfl, q3.1, q3.2⟩)
    · rw [q1]
      unfold k_X0_reckon_141
      rw [if_pos h.2.1.2.2.2.2, t_let, t2_7 h]
  · exact uo_err (er := 3) (by decide) q1 fs' s97 q2
  · obtain ⟨r2, z1, z2, z3, z4, z5, z6⟩ := rs_number (v := z) s98 s97 (by omega)
    refine ⟨_, r2, q1, by rw [q2, z1, l2_bs], l2_fr.set (Or.inl ⟨rfl, Or.inr rfl⟩), fs'.trans (z6.mono (fun b j y => by unfold rsF at y; unfold oWr; omega)), Or.inr ⟨3, by decide, by decide, by rw [l2_g, if_pos rfl]; rfl, ?_⟩⟩
    unfold nB at q3
    rw [z5, if_neg q3]
    rfl
/-- the class's side with numbers -/
theorem bx_num {w v : Int64} {t t' : Int} {k k' b : Nat} (ho : 15 < o ∧ o < 26 ∧ o ≠ 21) (hd : vl_c t n1 k w) (hd' : vl_c t' n2 k' v) : ((k ≠ 0 ∨ k' ≠ 0) → bX a b (nI o) w v c1 = some (t_setI c1 334 12 1)) ∧ (k = 0 → k' = 0 → (o < 22 → bX a b (nI o) w v c1 = (f_X0_reckon (nI o) (f_X8_told w c1) (f_X8_told v c1) c1).bind (fun r9 => some (r9))) ∧ (22 ≤ o → bX a b (nI o) w v c1 = (f_X0_replaceTop (f_X0_truth (f_X0_isOrdered (nI o) (f_X8_told w (t_setI c1 334 7 ((c1.1 334 7) - (1 : Int32)))) (f_X8_told v (t_setI c1 334 7 ((c1.1 334 7) - (1 : Int32)))) (t_setI c1 334 7 ((c1.1 334 7) - (1 : Int32)))) (t_setI c1 334 7 ((c1.1 334 7) - (1 : Int32)))) (t_setI c1 334 7 ((c1.1 334 7) - (1 : Int32)))).bind (fun r14 => some (r14)))) := by
  have qo : ∀ y : Nat, y < 100 → (nI o = nI y ↔ o = y) := fun y hy => nI_eq (by omega) (by omega)
  have lo : ∀ y : Nat, y < 100 → (nI o < nI y ↔ o < y) := fun y hy => nI_ltI (by omega) (by omega)
  have n15 : ¬ nI o = (15 : Int32) := fun z => by have := (qo 15 (by decide)).mp z; omega
  have n21 : ¬ nI o = (21 : Int32) := fun z => by have := (qo 21 (by decide)).mp z; omega
  have l26 : nI o < (26 : Int32) := (lo 26 (by decide)).mpr (by omega)
  have q : nI k = (0 : Int32) ↔ k = 0 := nI_eq (b := 0) (by have := hd.2.2; omega) (by decide)
  have q' : nI k' = (0 : Int32) ↔ k' = 0 := nI_eq (b := 0) (by have := hd'.2.2; omega) (by decide)
  unfold bX k_X0_binary_178
  rw [if_neg n15, if_neg n21, if_pos l26, vl_kind hd, vl_kind hd']
  refine ⟨fun e => ?_, fun e1 e2 => ⟨fun e => ?_, fun e => ?_⟩⟩
  · by_cases k0 : k = 0
    · rw [if_pos (q.mpr k0), if_neg (fun y => by have := q'.mp y; omega)]
      rfl
    · rw [if_neg (fun y => k0 (q.mp y))]
      rfl
  · rw [if_pos (q.mpr e1), if_pos (q'.mpr e2), if_pos (show nI o < (22 : Int32) from (lo 22 (by decide)).mpr e)]
  · rw [if_pos (q.mpr e1), if_pos (q'.mpr e2), if_neg (show ¬ nI o < (22 : Int32) from fun y => by have := (lo 22 (by decide)).mp y; omega)]
    rfl
/-- the reference's side with numbers -/
theorem jn_num {x k k' T U : Nat} {rs : t_S} (hx : x ≠ 15677 ∧ x ≠ 8509 ∧ x ≠ 38 ∧ x < 40000) (eu : f_X13_under r1 = nI T) (et : f_X13_top r1 = nI U) (hT : T < 600000) (hU : U < 600000) (p0 : r1.2.1 1006 T = lN k) (p0' : r1.2.1 1006 U = lN k') (k100 : k < 100) (k100' : k' < 100) (e2 : r1.1 950 98 - (2 : Int32) = nI H) (hrs : rs = t_setI r1 950 98 (nI H)) (sJ : ∀ b j, rs.2.1 b j = r1.2.1 b j) : ((k ≠ 0 ∨ k' ≠ 0) → f_X13_join (nI x) r1 = (f_X13_error 1 r1).bind (fun r => some r)) ∧ (k = 0 → k' = 0 → f_X13_join (nI x) r1 = (f_X13_reckon (nI x) (r1.2.1 1006 (T + 1)) (r1.2.1 1006 (U + 1)) rs).bind (fun r => some r)) := by
  have qx : ∀ y : Nat, y < 100000 → (nI x = nI y ↔ x = y) := fun y hy => nI_eq (by omega) (by omega)
  have x1 : ¬ nI x = (15677 : Int32) := fun z => by have := (qx 15677 (by decide)).mp z; omega
  have x2 : ¬ nI x = (8509 : Int32) := fun z => by have := (qx 8509 (by decide)).mp z; omega
  have x3 : ¬ nI x = (38 : Int32) := fun z => by have := (qx 38 (by decide)).mp z; omega
  have z : ∀ kk : Nat, kk < 100 → (lg_cmp (lN kk) 0 = 0 ↔ kk = 0) := fun kk hk => by
    rw [l2_cmp0]
    exact ⟨fun y => lN_inj (by omega) (by decide) y, fun y => by rw [y]; rfl⟩
  unfold f_X13_join k_X13_join_108
  rw [if_neg x1, if_neg x2, if_neg x3, eu, et, if_pos (l2_ix (by omega) (by decide)), nI_clamp (n := T) (by omega), p0]
  refine ⟨fun e => ?_, fun e1 e2' => ?_⟩
  · by_cases k0 : k = 0
    · rw [if_pos ((z k k100).mpr k0), if_pos (l2_ix (by omega) (by decide)), nI_clamp (n := U) (by omega), p0', if_neg (fun y => by have := (z k' k100').mp y; omega)]
    · rw [if_neg (fun y => k0 ((z k k100).mp y))]
  · rw [if_pos ((z k k100).mpr e1), if_pos (l2_ix (by omega) (by decide)), nI_clamp (n := U) (by omega), p0', if_pos ((z k' k100').mpr e2'), e2, nI_1, nI_1, t_let, if_pos (l2_ix (by omega) (by decide)), if_pos (l2_ix (by omega) (by decide)), nI_clamp (n := T + 1) (by omega), nI_clamp (n := U + 1) (by omega), ← hrs, sJ, sJ]
/-- numbers: what both sides are about to reckon with -/
theorem uo_num {x : Nat} (hx : x ≠ 15677 ∧ x ≠ 8509 ∧ x ≠ 38 ∧ x < 40000) (ho : 15 < o ∧ o < 26 ∧ o ≠ 21) (h : T2 D a H n1 k1 n2 k2 c1 r1) (R : ∀ p q : Int64, nB p → nB q → (o < 22 → ∀ rs, RK c1 rs (f_X0_reckon (nI o) p q c1) (f_X13_reckon (nI x) p q rs)) ∧ (22 ≤ o → ∃ b : Int32, (∀ s, f_X0_isOrdered (nI o) p q s = b) ∧ ∀ rs, f_X13_reckon (nI x) p q rs = (f_X13_pushTruth b rs).bind (fun r => some r))) : UO D a H c1 r1 (f_X0_binary (nI o) c1) (f_X13_join (nI x) r1) := by
  obtain ⟨t, k, hd, k8, p0, m2, ps, pn, hx1⟩ := h.1.1.hd
  obtain ⟨t', k', hd', k8', p0', m2', ps', pn', hx2⟩ := h.1.2.hd
  clear hx1 hx2
  obtain ⟨rs, hrs, s98, s97, fs, sJ, e2, eu, et⟩ := t2_off h
  have bb := h.2.2.2
  have C := bx_num (c1 := c1) (a := a) (b := a + n1) ho hd hd'
  have J := jn_num hx eu et (by omega) (by omega) p0 p0' (by omega) (by omega) e2 hrs sJ
  have hB := bi_x (x := nI o) h
  by_cases k0 : k = 0 ∧ k' = 0
  · obtain ⟨k0, k0'⟩ := k0
    have w1 : f_X8_told (c1.2.1 338 a) c1 = r1.2.1 1006 (260 * (40 + H) + 1) := Int64.toInt_inj.mp (by rw [vl_told hd, ps (Or.inl ⟨k0, pn k0⟩)])
    have w2 : f_X8_told (c1.2.1 338 (a + n1)) c1 = r1.2.1 1006 (260 * (41 + H) + 1) := Int64.toInt_inj.mp (by rw [vl_told hd', ps' (Or.inl ⟨k0', pn' k0'⟩)])
    have b1 : nB (r1.2.1 1006 (260 * (40 + H) + 1)) := by unfold nB; rw [ps (Or.inl ⟨k0, pn k0⟩)]; exact pn k0
    have b2 : nB (r1.2.1 1006 (260 * (41 + H) + 1)) := by unfold nB; rw [ps' (Or.inl ⟨k0', pn' k0'⟩)]; exact pn' k0'
    have RR := R _ _ b1 b2
    by_cases o22 : o < 22
    · have e := (C.2 k0 k0').1 o22
      rw [w1, w2] at e
      rw [hB, e, J.2 k0 k0']
      exact (uo_rk h hrs (RR.1 o22 rs)).bc.br
    · have e := (C.2 k0 k0').2 (by omega)
      obtain ⟨b, y1, y2⟩ := RR.2 (by omega)
      have v1 : ∀ s, f_X8_told (c1.2.1 338 a) s = r1.2.1 1006 (260 * (40 + H) + 1) := fun s => w1
      have v2 : ∀ s, f_X8_told (c1.2.1 338 (a + n1)) s = r1.2.1 1006 (260 * (41 + H) + 1) := fun s => w2
      rw [t2_7 h, v1, v2, y1] at e
      rw [hB, e, J.2 k0 k0']
      exact (uo_tru2 h hrs rfl (y2 rs)).br
  · rw [hB, C.1 (by omega), J.1 (by omega)]
    exact uo_err (er := 1) (by decide) rfl (l2_fr.rf) h.2.2.1.2 rfl
end
