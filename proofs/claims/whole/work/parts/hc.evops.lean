/-! Level 2: exps worked out: one operation on the top VALUE. -/
/-- what an operation may write: class, reference -/
def oWc (D a b j : Nat) : Prop := (b = 334 ∧ (j = 7 ∨ j = 12)) ∨ (b = 338 ∧ a ≤ j) ∨ (b = 339 ∧ D < j) ∨ b = 340 ∨ b = 341
def oWr (H b j : Nat) : Prop := (b = 950 ∧ (j = 97 ∨ j = 98)) ∨ (b = 1006 ∧ 260 * (40 + H) ≤ j ∧ j < 218400) ∨ b = 1007 ∨ b = 1009
/-- what an operation comes to: one VALUE on both sides, or the same ERROR -/
def UO (D a H : Nat) (c1 r1 : t_S) (oc or : Option t_S) : Prop := ∃ c2 r2, oc = some c2 ∧ or = some r2 ∧ l2_fr (oWc D a) c1 c2 ∧ l2_fr (oWr H) r1 r2 ∧ ((∃ n m, VW (c2.2.1 338) (r2.2.1 1006) 120 a (260 * (40 + H)) n m ∧ c2.1 339 (D + 1) = nI (a + n) ∧ c2.1 334 7 = nI (D + 1) ∧ c2.1 334 12 = 0 ∧ r2.1 950 98 = nI (H + 1) ∧ r2.1 950 97 = 0) ∨ ∃ er : Nat, 1 ≤ er ∧ er ≤ 7 ∧ c2.1 334 12 = nI er ∧ r2.1 950 97 = nI er)
/-- one VALUE lies there, on both sides -/
def T1 (D a H nn m : Nat) (c1 r1 : t_S) : Prop := VW (c1.2.1 338) (r1.2.1 1006) 120 a (260 * (40 + H)) nn m ∧ (c1.1 339 D = nI a ∧ c1.1 339 (D + 1) = nI (a + nn) ∧ c1.1 334 7 = nI (D + 1) ∧ c1.1 334 12 = 0) ∧ (r1.1 950 98 = nI (H + 1) ∧ r1.1 950 97 = 0) ∧ (H < 790 ∧ D < 3200 ∧ a + 240 ≤ 48000) ∧ H < 750 ∧ D < 3150 ∧ a + 2000 ≤ 48000
section
variable {κ : KPP} {c0 r0 : t_S} {Kc : t_S → t_S → Prop} {Kr : Nat → Nat → t_S → t_S → Prop} {c r c1 r1 c' r' : t_S} {D a H S rr e0 e1 i g n nn m m0 m1 cnt o K st : Nat} {x : Int32} {oc or : Option t_S}
theorem UO.fin (hK : EK Kc Kr) (f1 : l2_fr (fun b j => b = 334 ∧ j = 13) c c1) (h13 : c1.1 334 13 = nI st) (h103 : r1.1 950 103 = nI S) (h97 : r1.1 950 97 = 0) (h : UO D a H c1 r1 oc or) : ∃ c2 r2, oc = some c2 ∧ or = some r2 ∧ Ef c0 Kc (Kr st (st + 1)) D a H S c r1 c2 r2 ∧ (Eg D a H S c2 r2 ∨ Eb st (st + 1) S c2 r2) := by
  obtain ⟨c2, r2, h1, h2, f2, f3, h4⟩ := h
  refine ⟨c2, r2, h1, h2, ?_, ?_⟩
  · have F : l2_fr (fun b j => (b = 334 ∧ (j = 7 ∨ j = 12 ∨ j = 13)) ∨ (b = 338 ∧ a ≤ j) ∨ (b = 339 ∧ D < j) ∨ b = 340 ∨ b = 341) c c2 := (f1.mono (fun b j y => by omega)).trans (f2.mono (fun b j y => by unfold oWc at y; omega))
    refine Ef.of (h97 := fun _ => h97) hK F (f3.mono (fun b j y => y)) (fun b j y => ⟨?_, ?_⟩) (fun b j y => ⟨?_, ?_⟩)
    · unfold eWc
      rcases y with y | y | y | y | y
      · exact Or.inl (by omega)
      · exact Or.inr (Or.inl y)
      · exact Or.inr (Or.inr (Or.inl y))
      · exact Or.inr (Or.inr (Or.inr (Or.inl y)))
      · exact Or.inr (Or.inr (Or.inr (Or.inr (Or.inl y))))
    · unfold eBc; omega
    · unfold oWr at y; unfold eWr; omega
    · unfold oWr at y; unfold eBr; omega
  · have e103 : r2.1 950 103 = nI S := by rw [(f3 950 103 (by unfold oWr; omega)).1]; exact h103
    have e13 : c2.1 334 13 = nI st := by rw [(f2 334 13 (by unfold oWc; omega)).1]; exact h13
    rcases h4 with ⟨n, m, V, e39, e7, e12, e98, e97⟩ | ⟨er, q1, q2, e12, e97⟩
    · exact Or.inl ⟨⟨n, m, V, e39⟩, ⟨e7, e12⟩, e98, e97, e103⟩
    · exact Or.inr ⟨er, st, ⟨q1, q2⟩, e12, e97, e13, Nat.le_refl _, by omega, e103⟩
/-- an operation of one VALUE -/
theorem su_go (hK : EK Kc Kr) (h2 : c0.1 334 2 = nI cnt) (hc : cnt ≤ 16000) (h0 : 0 < e1) (hi : e1 - 1 < cnt) (ho : px_o c0 (e1 - 1) o x) (o1 : 8 < o) (o2 : o ≤ 14) (hn : n < 13000) (hk : r0.1 955 n = nI K) (K1 : 64 ≤ K ∧ K ≤ 68) (U : ∀ c1 r1 D a H nn m, l2_fr (eZc c0) c0 c1 → l2_fr eZr r0 r1 → T1 D a H nn m c1 r1 → UO D a H c1 r1 (f_X0_unary (nI o) x c1) (f_X13_one (nI n) (nI K) r1)) : StU c0 r0 Kc Kr (fun r1 => (R_X13_behindFirst (g + 1)).1 (nI n) r1) rr e1 := by
  intro c1 r1 D a H S z1 z2 hG hA b bb
  obtain ⟨⟨nn, m, V, e39⟩, ⟨e7, e12⟩, e98, e97, e103⟩ := hG
  have f1 : l2_fr (fun b j => b = 334 ∧ j = 13) c1 (t_setI c1 334 13 (nI (e1 - 1))) := l2_fr.set ⟨rfl, rfl⟩
  have v13 : (t_setI c1 334 13 (nI (e1 - 1))).1 334 13 = nI (e1 - 1) := by rw [l2_g, if_pos rfl]
  have t := cw_turn z1 h2 hc hi ho (by omega) (by omega) e12
  rw [if_pos o1, if_neg (by omega)] at t
  generalize t_setI c1 334 13 (nI (e1 - 1)) = cs at *
  have zz : l2_fr (eZc c0) c0 cs := z1.trans (f1.mono (fun b j y => by unfold eZc eWc; omega))
  have u := U cs r1 D a H nn m zz z2 ⟨VW.copy _ _ _ _ _ _ _ V (fun d _ => (f1 338 _ (by omega)).2.1) (fun _ _ => rfl), ⟨((f1 339 D (by omega)).1).trans hA, ((f1 339 _ (by omega)).1).trans e39, ((f1 334 7 (by omega)).1).trans e7, ((f1 334 12 (by omega)).1).trans e12⟩, ⟨e98, e97⟩, b, bb⟩
  obtain ⟨c2, r2, q1, q2, q3, q4⟩ := u.fin (c0 := c0) (Kc := Kc) (Kr := Kr) hK f1 v13 e103 e97
  refine ⟨c2, r2, ?_, ?_, q3.w hK (Nat.le_refl _) (by omega), q4.imp id (fun y => y.w (Nat.le_refl _) (by omega))⟩
  · rw [t, q1, l2_bs, show e1 - 1 + 1 = e1 by omega]
  · show (R_X13_behindFirst (g + 1)).1 (nI n) r1 = some r2
    rw [bfo_one hn (((ez_r (b := 955) (j := n) z2 (by omega)).1).trans hk) K1, q2]
/-- .. that comes to one cell -/
theorem uo_cell {w : Int64} {t : Int} {kk : Nat} {r2 : t_S} (h : T1 D a H nn m c1 r1) (hc : oc = (f_X0_replaceTop w c1).bind (fun r => some r)) (hw : vl_c t 1 kk w) (hr : or = some r2) (e98 : r2.1 950 98 = nI (H + 1)) (p1 : r2.2.1 1006 (260 * (40 + H)) = lN kk) (p2 : (r2.2.1 1006 (260 * (40 + H) + 1)).toInt = t) (e97 : r2.1 950 97 = 0) (f : l2_fr (oWr H) r1 r2) (hs : (kk = 0 ∧ -(10 ^ 15) ≤ t ∧ t ≤ 10 ^ 15) ∨ (kk = 1 ∧ (t = 0 ∨ t = 1)) ∨ (kk = 5 ∧ 0 ≤ t ∧ t < 8)) : UO D a H c1 r1 oc or := by
  obtain ⟨V, ⟨hA, h39, h7, h12⟩, ⟨h98, h97⟩, ⟨b1, b2, b3⟩, _⟩ := h
  obtain ⟨c2, q1, q2, q3, q4, q5⟩ := cs_replace (w := w) h7 hA b2 (by omega)
  refine ⟨c2, r2, by rw [hc, q1, l2_bs], hr, q5.mono (fun b j y => by unfold oWc; omega), f, Or.inl ⟨1, 2, vw_sc (t := t) (k := kk) (by rw [q4]; exact hw) p1 p2 hs, q3, q2, ?_, e98, e97⟩⟩
  rw [(q5 334 12 (by omega)).1]; exact h12
/-- .. that comes to an ERROR -/
theorem uo_err {er : Nat} {rs : t_S} (h1 : 1 ≤ er ∧ er ≤ 7) (hc : oc = some (t_setI c1 334 12 (nI er))) (f : l2_fr (oWr H) r1 rs) (h97 : rs.1 950 97 = 0) (hr : or = (f_X13_error (nI er) rs).bind (fun r => some r)) : UO D a H c1 r1 oc or := by
  obtain ⟨r2, q1, q2, q3⟩ := rs_error (e := nI er) h97
  exact ⟨_, r2, hc, by rw [hr, q1, l2_bs], l2_fr.set (Or.inl ⟨rfl, Or.inr rfl⟩), f.trans (q3.mono (fun b j y => by unfold oWr; omega)), Or.inr ⟨er, h1.1, h1.2, by rw [l2_g, if_pos rfl], q2⟩⟩
/-- the reference has taken its top VALUE off -/
theorem t1_off (h : T1 D a H nn m c1 r1) : ∃ rs, rs = t_setI r1 950 98 (nI H) ∧ rs.1 950 98 = nI H ∧ rs.1 950 97 = 0 ∧ l2_fr (fun b j => b = 950 ∧ j = 98) r1 rs ∧ (∀ b j, rs.2.1 b j = r1.2.1 b j) ∧ (r1.1 950 98 - (1 : Int32) = nI H) ∧ f_X13_top r1 = nI (260 * (40 + H)) := by
  obtain ⟨V, ⟨hA, h39, h7, h12⟩, ⟨h98, h97⟩, ⟨b1, b2, b3⟩, _⟩ := h
  refine ⟨_, rfl, by rw [l2_g, if_pos rfl], by rw [l2_g, if_neg (by decide)]; exact h97, l2_fr.set ⟨rfl, rfl⟩, fun _ _ => rfl, by rw [h98, nI_1'], un_r h98⟩
/-- K's number -/
theorem kk_i {k : Nat} (h : k < 2 ^ 31) : (nI k).toInt = k := nI_toInt h
theorem uo_minus (hn : n < 13000) (h : T1 D a H nn m c1 r1) : UO D a H c1 r1 (f_X0_unary (nI 10) x c1) (f_X13_one (nI n) (nI 64) r1) := by
  obtain ⟨t, k, hd, k8, p0, m2, ps, pn, pt, pc, _⟩ := h.1.hd
  obtain ⟨rs, hrs, s98, s97, fs, sJ, e1, etop⟩ := t1_off h
  obtain ⟨b1, b2, b3⟩ := h.2.2.2.1
  have C : f_X0_unary (nI 10) x c1 = (if f_X8_kind (c1.2.1 338 a) c1 = (0 : Int32) then ((f_X0_replaceTop (f_X8_plainCell (0 : Int32) (-(f_X8_told (c1.2.1 338 a) c1)) c1) c1).bind (fun r => some r)) else some (t_setI c1 334 12 1)) :=
    un_c (o := 10) h.2.1.2.2.1 h.2.1.1 b2 (by omega) _ (fun w => if f_X8_kind w c1 = (0 : Int32) then ((f_X0_replaceTop (f_X8_plainCell (0 : Int32) (-(f_X8_told w c1)) c1) c1).bind (fun r => some r)) else some (t_setI c1 334 12 1)) rfl
  have R : f_X13_one (nI n) (nI 64) r1 = (if (r1.2.1 1006 (260 * (40 + H))).toInt32 = (0 : Int32) then ((f_X13_pushNumber (-(rs.2.1 1006 (260 * (40 + H) + 1))) rs).bind (fun r => some r)) else ((f_X13_error (1 : Int32) rs).bind (fun r => some r))) := by
    unfold f_X13_one
    rw [etop, if_pos (l2_ix (by omega) (by decide)), e1, ← hrs, nI_clamp (n := 260 * (40 + H)) (by omega), nI_1]
    rw [t_let, if_neg (by decide), if_neg (by decide), if_neg (by decide), if_pos (by decide), if_pos (l2_ix (by omega) (by decide)), nI_clamp (n := 260 * (40 + H) + 1) (by omega)]
  rw [vl_kind hd] at C
  rw [p0, lN_w] at R
  have q : nI k = (0 : Int32) ↔ k = 0 := nI_eq (b := 0) (by omega) (by decide)
  by_cases k0 : k = 0
  · rw [if_pos (q.mpr k0)] at C R
    subst k0
    have bt := pn rfl
    have e1 : (r1.2.1 1006 (260 * (40 + H) + 1)).toInt = t := ps (Or.inl ⟨rfl, bt⟩)
    have e2 : (-(rs.2.1 1006 (260 * (40 + H) + 1))).toInt = -t := by rw [sJ, neg_toInt (by omega) (by omega), e1]
    obtain ⟨r2, z1, z2, z3, z4, z5, z6⟩ := rs_number (v := -(rs.2.1 1006 (260 * (40 + H) + 1))) s98 s97 b1
    refine uo_cell h C (vl_plain (t := -t) (by rw [neg_toInt (by rw [vl_told hd]; omega) (by rw [vl_told hd]; omega), vl_told hd]) (by omega) (by decide) rfl) (by rw [R, z1, l2_bs]) z2 z3 (by rw [z4, e2]) (by rw [z5, e2, if_pos (by omega)]) ((fs.mono (fun b j y => by unfold oWr; omega)).trans (z6.mono (fun b j y => by unfold rsF at y; unfold oWr; omega))) (Or.inl ⟨rfl, by omega, by omega⟩)
  · rw [if_neg (fun y => k0 (q.mp y))] at C R
    exact uo_err (er := 1) (by decide) C (fs.mono (fun b j y => by unfold oWr; omega)) s97 R
theorem lg_0 {x y : Int64} {t u : Int} (h : x.toInt = t) (g : y.toInt = u) : lg_cmp x y = 0 ↔ t = u := by
  rw [l2_cmp0, ← Int64.toInt_inj, h, g]
end
