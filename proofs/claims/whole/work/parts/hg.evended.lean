/-! Level 2: exps worked out: work() of a part; ended ( exp ). -/
section
variable {κ : KPP} {c0 r0 : t_S} {Kc : t_S → t_S → Prop} {Kr : Nat → Nat → t_S → t_S → Prop} {c r c1 r1 c' r' : t_S} {D a H S rr rr' e0 e1 i g n nn m m0 m1 cnt o K st X b : Nat} {x : Int32} {oc or : Option t_S}
theorem Ein.up (h : Ein κ c0 r0 rr D a H S c r) (hr : rr ≤ rr') : Ein κ c0 r0 rr' D a H S c r := by
  obtain ⟨h1, h2, h3, h4, h5, h6⟩ := h
  exact ⟨h1, h2, h3, by omega, by omega, by omega⟩
theorem Eb.s3 (h : Eb e0 e1 S c' r') : r'.1 950 103 = nI S := by
  obtain ⟨_, _, _, _, _, _, _, _, q⟩ := h
  exact q
theorem EVp.wk (h : EVp κ c0 r0 Kc Kr g rr e0 e1 m0 m1 n) (hE : Ein κ c0 r0 rr D a H S c r) (hv : Iv κ Kc Kr e0 c r) (hS : S + (m1 - m0) ≤ κ.s) : ∃ c' r' i u, (u ≤ e1 - e0 ∧ e0 ≤ i ∧ i ≤ e1 ∧ l2_tn b_X0_work_12 u (nI e0, c) (nI i, c')) ∧ Ef c0 Kc (Kr e0 e1) D a H S c r c' r' ∧ ((i = e1 ∧ Eg D a H S c' r') ∨ Eb e0 e1 S c' r') ∧ (R_X13_behindFirst (g + 1)).2.2.2.2.2.2.2.1 (nI n) r = some r' := by
  obtain ⟨c', r', i, u, u1, F, O, W⟩ := h c r D a H S hE hv hS
  refine ⟨c', r', i, u, u1, F, O, ?_⟩
  show m_X13_work (R_X13_behindFirst g) (nI n) r = some r'
  have e : r'.1 950 103 = nI S := by
    rcases O with ⟨_, G⟩ | B
    · exact G.2.2.2.2
    · exact B.s3
  have s13 := hE.s13 hS
  exact W.work (by omega) hE.2.2.1.2.2 e (by omega)
/-- an operation of one VALUE, whatever does it in the reference -/
theorem su_f {F : t_S → Option t_S} (hK : EK Kc Kr) (h2 : c0.1 334 2 = nI cnt) (hc : cnt ≤ 16000) (h0 : 0 < e1) (hi : e1 - 1 < cnt) (ho : px_o c0 (e1 - 1) o x) (o1 : 8 < o) (o2 : o ≤ 14) (U : ∀ c1 r1 D a H nn m, l2_fr (eZc c0) c0 c1 → l2_fr eZr r0 r1 → T1 D a H nn m c1 r1 → UO D a H c1 r1 (f_X0_unary (nI o) x c1) (F r1)) : StU c0 r0 Kc Kr F rr e1 := by
  intro c1 r1 D a H S z1 z2 hG hA b bb
  obtain ⟨⟨nn, m, V, e39⟩, ⟨e7, e12⟩, e98, e97, e103⟩ := hG
  have f1 : l2_fr (fun b j => b = 334 ∧ j = 13) c1 (t_setI c1 334 13 (nI (e1 - 1))) := l2_fr.set ⟨rfl, rfl⟩
  have v13 : (t_setI c1 334 13 (nI (e1 - 1))).1 334 13 = nI (e1 - 1) := by rw [l2_g, if_pos rfl]
  have t := cw_turn z1 h2 hc hi ho (by omega) (by omega) e12
  rw [if_pos o1, if_neg (by omega)] at t
  generalize t_setI c1 334 13 (nI (e1 - 1)) = cs at *
  have zz : l2_fr (eZc c0) c0 cs := z1.trans (f1.mono (fun b j y => by unfold eZc eWc; omega))
  have u := U cs r1 D a H nn m zz z2 ⟨VW.copy _ _ _ _ _ _ _ V (fun d _ => (f1 338 _ (by omega)).2.1) (fun _ _ => rfl), ⟨((f1 339 D (by omega)).1).trans hA, ((f1 339 _ (by omega)).1).trans e39, ((f1 334 7 (by omega)).1).trans e7, ((f1 334 12 (by omega)).1).trans e12⟩, ⟨e98, e97⟩, b, bb⟩
  obtain ⟨c2, r2, q1, q2, q3, q4⟩ := u.fin (c0 := c0) (Kc := Kc) (Kr := Kr) hK f1 v13 e103 e97
  exact ⟨c2, r2, by rw [t, q1, l2_bs, show e1 - 1 + 1 = e1 by omega], q2, q3.w hK (Nat.le_refl _) (by omega), q4.imp id (fun y => y.w (Nat.le_refl _) (by omega))⟩
theorem uo_ended (hN : EN c0 r0) (z1 : l2_fr (eZc c0) c0 c1) (z2 : l2_fr eZr r0 r1) (h : T1 D a H nn m c1 r1) : UO D a H c1 r1 (f_X0_unary (nI 9) x c1) (f_X13_one (nI n) (nI 62) r1) := by
  obtain ⟨t, k, hd, k8, p0, m2, ps, pn, pt, pc, _⟩ := h.1.hd
  obtain ⟨rs, hrs, s98, s97, fs, sJ, e1, etop⟩ := t1_off h
  obtain ⟨b1, b2, b3⟩ := h.2.2.2.1
  obtain ⟨_, _, _, _, _, _, _, _, _, _, _, hE⟩ := hN
  have C : f_X0_unary (nI 9) x c1 = (if f_X8_kind (c1.2.1 338 a) c1 = (5 : Int32) then (if (((c1.1 334 16) >>> (((f_X8_told (c1.2.1 338 a) c1).toInt32) &&& 31)) &&& (1 : Int32)) = (0 : Int32) then (k_X0_unary_112 0 c1) else (k_X0_unary_112 1 c1)) else some (t_setI c1 334 12 1)) :=
    un_c (o := 9) h.2.1.2.2.1 h.2.1.1 b2 (by omega) _ (fun w => if f_X8_kind w c1 = (5 : Int32) then (if (((c1.1 334 16) >>> (((f_X8_told w c1).toInt32) &&& 31)) &&& (1 : Int32)) = (0 : Int32) then (k_X0_unary_112 0 c1) else (k_X0_unary_112 1 c1)) else some (t_setI c1 334 12 1)) rfl
  have R : f_X13_one (nI n) (nI 62) r1 = (if (r1.2.1 1006 (260 * (40 + H))).toInt32 = (5 : Int32) then (if t_ix ((rs.2.1 1006 (260 * (40 + H) + 1)).toInt32) 8 = true then (if (rs.1 1036 (((rs.2.1 1006 (260 * (40 + H) + 1)).toInt32).toNatClampNeg)) = (2 : Int32) then (k_X13_one_207 1 rs) else (k_X13_one_207 0 rs)) else none) else ((f_X13_error (1 : Int32) rs).bind (fun r => some r))) := by
    unfold f_X13_one
    rw [etop, if_pos (l2_ix (by omega) (by decide)), e1, ← hrs, nI_clamp (n := 260 * (40 + H)) (by omega), nI_1]
    rw [t_let, if_neg (by decide), if_pos (by decide), if_pos (l2_ix (by omega) (by decide)), nI_clamp (n := 260 * (40 + H) + 1) (by omega)]
  rw [vl_kind hd] at C
  rw [p0, lN_w] at R
  have q : nI k = (5 : Int32) ↔ k = 5 := nI_eq (b := 5) (by omega) (by decide)
  by_cases k0 : k = 5
  · rw [if_pos (q.mpr k0)] at C R
    subst k0
    have bt := pc rfl
    have e1 : (r1.2.1 1006 (260 * (40 + H) + 1)).toInt = t := ps (Or.inr (Or.inr ⟨rfl, bt⟩))
    obtain ⟨u, rfl⟩ : ∃ u : Nat, t = u := ⟨t.toNat, by omega⟩
    have w1 : (f_X8_told (c1.2.1 338 a) c1).toInt32 = nI u := by
      have td : f_X8_told (c1.2.1 338 a) c1 = lN u := Int64.toInt_inj.mp (by rw [pk_lT (by omega)]; exact vl_told hd)
      rw [td, lN_w]
    have w2 : (rs.2.1 1006 (260 * (40 + H) + 1)).toInt32 = nI u := by
      have td : rs.2.1 1006 (260 * (40 + H) + 1) = lN u := Int64.toInt_inj.mp (by rw [pk_lT (by omega), sJ]; exact e1)
      rw [td, lN_w]
    have c16 : c1.1 334 16 = c0.1 334 16 := (ez_c (b := 334) (j := 16) z1 (by omega)).1
    have r36 : rs.1 1036 u = r0.1 1036 u := ((fs 1036 u (by omega)).1).trans (ez_r (b := 1036) (j := u) z2 (by omega)).1
    have bit := hE u (by omega)
    rw [w1, c16, bit] at C
    rw [w2, if_pos (l2_ix (by omega) (by decide)), nI_clamp (n := u) (by omega), r36] at R
    have fin : ∀ b : Int32, f_X0_unary (nI 9) x c1 = k_X0_unary_112 b c1 → f_X13_one (nI n) (nI 62) r1 = k_X13_one_207 b rs → UO D a H c1 r1 (f_X0_unary (nI 9) x c1) (f_X13_one (nI n) (nI 62) r1) := fun b C R => by
      obtain ⟨r2, z1, z2, z3, z4, z6⟩ := rs_truth (b := b) s98 b1
      refine uo_cell h C (tr_cell (b := b)) (by rw [R]; unfold k_X13_one_207; rw [z1, l2_bs]) z2 z3 (by rw [z4]; split <;> rfl) ?_ ((fs.mono (fun b j y => by unfold oWr; omega)).trans (z6.mono (fun b j y => by unfold oWr; omega))) (Or.inr (Or.inl ⟨rfl, by split <;> omega⟩))
      rw [(z6 950 97 (by omega)).1]; exact s97
    by_cases t0 : r0.1 1036 u = 2
    · rw [if_pos t0, if_neg (by decide)] at C
      rw [if_pos t0] at R
      exact fin 1 C R
    · rw [if_neg t0, if_pos rfl] at C
      rw [if_neg t0] at R
      exact fin 0 C R
  · rw [if_neg (fun y => k0 (q.mp y))] at C R
    exact uo_err (er := 1) (by decide) C (fs.mono (fun b j y => by unfold oWr; omega)) s97 R
theorem ev_ended (hK : EK Kc Kr) (hr : rr ≤ 360) (h2 : c0.1 334 2 = nI cnt) (hc : cnt ≤ 16000) (hi : e1 - 1 < cnt) (h0 : e0 < e1) (ho : px_o c0 (e1 - 1) 9 x) (hn : n < 13000) (hk : r0.1 955 n = 62) (h9 : r0.1 959 n = nI b) (hsz : m0 < m1) (hb : EVp κ c0 r0 Kc Kr g (rr + 15) e0 (e1 - 1) (m0 + 1) m1 b) (hN : EN c0 r0) : EVp κ c0 r0 Kc Kr (g + 3) rr e0 e1 m0 m1 n := by
  intro c r D a H S hE hv hS
  obtain ⟨c1, r1, j, u, ⟨u1, u2, u3, u4⟩, F, O, W⟩ := hb.wk (hE.up (by omega)) hv (by omega)
  have z := hE.z F
  have rk : r.1 955 n = 62 := ((ez_r (b := 955) (j := n) hE.1.2 (by omega)).1).trans hk
  have r9 : r.1 959 n = nI b := ((ez_r (b := 959) (j := n) hE.1.2 (by omega)).1).trans h9
  have L : ∀ r2, (if (r1.1 950 97) = (0 : Int32) then f_X13_one (nI n) (nI 62) r1 else some r1) = some r2 → (R_X13_behindFirst (g + 3)).2.1 (nI n) r = some r2 := fun r2 q => by
    show m_X13_leaf (R_X13_behindFirst (g + 2)) (nI n) r = some r2
    unfold m_X13_leaf
    rw [if_pos hE.2.2.1.2.1, if_pos (l2_ix hn (by decide)), nI_clamp (n := n) (by omega), rk, if_pos (by decide)]
    show (m_X13_workMore (R_X13_behindFirst (g + 1)) (nI n) r).bind _ = _
    unfold m_X13_workMore
    rw [if_pos (l2_ix hn (by decide)), nI_clamp (n := n) (by omega), rk, if_neg (by decide), r9, W, l2_bs]
    by_cases e : r1.1 950 97 = 0
    · rw [if_pos e] at q ⊢
      rw [if_neg (by decide), show (62 : Int32) = nI 62 from rfl, q, l2_bs, l2_bs]
    · rw [if_neg e] at q ⊢
      rw [l2_bs]
      exact q
  rcases O with ⟨rfl, G⟩ | B
  · have e97 : r1.1 950 97 = 0 := G.2.2.2.1
    have a39 : c1.1 339 D = nI a := by rw [(F.1 339 D (by unfold eWc; omega)).1]; exact hE.2.1.2.1
    have St := su_f (F := fun r1 => f_X13_one (nI n) (nI 62) r1) (rr := rr) hK h2 hc (by omega) hi ho (by decide) (by decide) (fun c1 r1 D a H nn m z1 z2 h => uo_ended hN z1 z2 h)
    obtain ⟨c2, r2, s1, s2, s3, s4⟩ := St c1 r1 D a H S z.1 z.2 G a39 (hE.bd hr) (hE.bd2 hr)
    refine ⟨c2, r2, e1, u + 1, ⟨by omega, by omega, Nat.le_refl _, u4.trans (l2_tn.one s1)⟩, F.trans hK s3 (Nat.le_refl _) (Nat.le_refl _) (Nat.le_refl _) (Nat.le_refl _), ?_, Rw.leaf hn rk (Or.inl (by decide)) (by decide) (L r2 (by rw [if_pos e97]; exact s2))⟩
    rcases s4 with s4 | s4
    · exact Or.inl ⟨rfl, s4⟩
    · exact Or.inr (s4.w (by omega) (Nat.le_refl _))
  · have B' := B
    obtain ⟨er, st, q1, q2, q3, q4, q5, q6, q7⟩ := B
    have ne : r1.1 950 97 ≠ 0 := by rw [q3]; exact nI_ne0 (by omega) (by omega)
    exact ⟨c1, r1, j, u, ⟨by omega, u2, by omega, u4⟩, F.w hK (Nat.le_refl _) (by omega), Or.inr (B'.w (Nat.le_refl _) (by omega)), Rw.leaf hn rk (Or.inl (by decide)) (by decide) (L r1 (by rw [if_neg ne]))⟩
end
