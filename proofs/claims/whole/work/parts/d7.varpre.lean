/-! Level 2: VAR as a statement: up to its place. -/
section
variable {P : pc_S} {nt : Nat → Nat} {f n n' n2 n3 Y X a g f2 p0 ln so K V : Nat} {L L' v : Nat → Nat} {ka : Int32} {k k0 k1 k2 k' : Nat → Nat} {c0 r0 c r c1 r1 c2 r2 c' r' : t_S} {A B A' B' : Nat → Prop} {E : en_S}
noncomputable def vrD (ln : Nat) (x : Int32) (s : t_S) : Option t_S := (f_X6_readVarType 1 ((s.1 845 12) * 8 + x) s).bind (fun r3 => (f_X2_need 11 r3).bind (vrC ln x))
noncomputable def vlD (ln f : Nat) (k0 : Int32) (s : t_S) : Option t_S := t_let (t_setI s 993 ln k0) (fun s1 => (f_X13_typeHint s1).bind (fun r3 => t_let (t_setI r3 991 ln (r3.1 950 86)) (fun s2 => t_let (t_setI s2 992 ln (s2.1 950 87)) (fun s3 => (f_X13_mustBe 14909 s3).bind (vlE ln f)))))
theorem rp_1 (hl : ln < 400) (c : t_S) : f_X6_readPlain (nI ln) 1 c = (f_X6_takePlace c).bind (fun y => if 0 ≤ y.1 then vrD ln y.1 y.2 else some y.2) := by
  unfold f_X6_readPlain
  rw [if_pos (l2_ix hl (by decide)), if_neg (by decide), if_pos (by decide), bd_some]
  unfold f_X6_readVar vrD vrC
  rw [if_pos (l2_ix hl (by decide)), nI_clamp (n := ln) (by omega)]
  simp only [Nat.one_mul]
  rfl
theorem sp_9 (hl : ln < 400) (r : t_S) : f_X13_simple (nI ln) 9 r = t_let (t_setI r 988 ln (nI 1)) (fun s => f_X13_varLine (nI ln) s) := by
  unfold f_X13_simple
  rw [if_pos (by decide), if_pos (l2_ix (by omega) (by decide)), nI_clamp (n := ln) (by omega)]
  show ((f_X13_varLine (nI ln) (t_setI r 988 ln (nI 1))).bind (fun r2 => some r2)) = f_X13_varLine (nI ln) (t_setI r 988 ln (nI 1))
  rw [bd_some]
theorem vl_49 (hl : ln < 400) (k0 : Int32) (r : t_S) : k_X13_varLine_49 (nI ln) (nI f) k0 r = (f_X13_addLocal (nI f) r).bind (vlD ln f k0) := by
  have ix : t_ix (nI ln) 401 = true := l2_ix (by omega) (by decide)
  unfold k_X13_varLine_49 vlD vlE
  simp only [ix, if_true, nI_clamp (n := ln) (by omega)]
/-- the word is numbered before its place is sought -/
theorem vl_pre (S : fs P nt f n2 Y n L ka a g k c r) (hl : ln < 400) : ∃ (k0 : Int32) (r3 : t_S) (d : Nat), f_X13_varLine (nI ln) r = (f_X13_addLocal (nI f) r3).bind (vlD ln f k0) ∧ l2_fr (fun b j => nm_W b j ∨ (b = 994 ∧ j = ln)) r r3 ∧ pj P (k 0) d 0 (k 1) (k 2) c r3 ∧ (c.1 1 8 = 1 → ∃ X, X < 7934 ∧ c.2.1 1 10 = lN (66 + X) ∧ k0 = nI X) := by
  have hf := S.2.2.2.1
  have e33 : r.1 950 33 = nI (2000 + f) := S.2.2.2.2.1
  have hx : nI (2000 + f) - (2000 : Int32) = nI f := by
    rw [show (2000 : Int32) = nI 2000 from rfl, pk_sub (by omega), Nat.add_sub_cancel_left]
  unfold f_X13_varLine
  rw [if_pos (l2_ix (by omega) (by decide)), nI_clamp (n := ln) (by omega), e33, hx]
  have f2 : l2_fr (fun b j => b = 994 ∧ j = ln) r (t_setI r 994 ln (r.1 950 6)) := l2_fr.set ⟨rfl, rfl⟩
  unfold t_let
  generalize t_setI r 994 ln (r.1 950 6) = r2 at *
  dsimp only
  have J2 : pj P (k 0) 0 0 (k 1) (k 2) c r2 := S.1.1.fr (l2_fr.rf (W := fun _ _ => False)) f2 (fun j y => y) (fun b i _ _ y => y) (fun b i _ _ y => y) (fun y => y) (fun j _ => by omega) (fun b i _ _ => by omega)
  have R2 : l2_fr (fun b j => nm_W b j ∨ (b = 994 ∧ j = ln)) r r2 := f2.mono (fun b j y => Or.inr y)
  by_cases h8 : c.1 1 8 = 1
  · obtain ⟨h5, h10⟩ := J2.sort.1.mp h8
    rw [if_pos h5, if_neg (Int32.not_le.mpr h10), if_pos J2.f0.2]
    obtain ⟨x, e, X, hX, x1, x2, x3, J3⟩ := pj_name1 J2 h8
    rw [e, l2_bs, vl_49 hl]
    exact ⟨x.1, x.2, 1, rfl, R2.trans (x3.mono (fun b j y => Or.inl y)), J3, fun _ => ⟨X, hX, x1, x2⟩⟩
  · refine ⟨-1, r2, 0, ?_, R2, J2, fun y => absurd y h8⟩
    have e48 : k_X13_varLine_48 (nI ln) (nI f) r2 = (f_X13_addLocal (nI f) r2).bind (vlD ln f (-1)) := by
      unfold k_X13_varLine_48
      exact vl_49 hl (-1) r2
    by_cases h5 : r2.1 950 5 = 1
    · have h10 : ¬ r2.1 950 10 < 0 := fun y => h8 (J2.sort.1.mpr ⟨h5, y⟩)
      rw [if_pos h5, if_pos (Int32.not_lt.mp h10)]
      exact e48
    · rw [if_neg h5]
      exact e48
theorem zS.rdv (h : zS f f2 p0 c0 c) (hl : ln < 400) (hf : f < 40) (x : Int32) : t_hk (vrC ln x c) (zS f f2 p0 c0) := by
  unfold vrC
  refine l2_bd _ (h.exp (-1)) (fun y hy => l2_lt (l2_lt ?_))
  have h2 := (hy.set (b := 445 + ln) (j := 5) (x := y.1) (by unfold mo_Wc; omega) (by omega)).set (b := 445 + ln) (j := 7) (x := x) (by unfold mo_Wc; omega) (by omega)
  generalize t_setI (t_setI y.2 (445 + ln) 5 y.1) (445 + ln) 7 x = c2 at *
  have e12 : c2.1 845 12 = nI f := h2.2.2
  rw [e12, if_pos (l2_ix hf (by decide)), nI_clamp (n := f) (by omega)]
  exact l2_lt (l2_sm (h2.set (by unfold mo_Wc; omega) (by omega)))
theorem zS.rdw (h : zS f f2 p0 c0 c) (hl : ln < 400) (hf : f < 40) (x : Int32) : t_hk (vrD ln x c) (zS f f2 p0 c0) := by
  unfold vrD
  rw [h.1.vtype, l2_bs, h.1.need (by decide), l2_bs]
  exact h.rdv hl hf x
theorem yS.lnv (h : rS P f f2 p0 r0 r) (hf : f < 40) (hy : yS P f f2 p0 r0 r) : t_hk (vlE ln f r) (rS P f f2 p0 r0) := by
  unfold vlE
  rw [hy.exp, l2_bs]
  refine l2_lt ?_
  have h2 := hy.set (b := 995) (j := ln) (x := 0) (by unfold mo_Wr; omega) (by omega)
  generalize t_setI r 995 ln 0 = r2 at *
  rw [if_pos (l2_ix hf (by decide))]
  exact l2_lt (l2_sm (h2.set (by unfold mo_Wr; omega) (by omega)).toR)
theorem yS.lnw (h : yS P f f2 p0 r0 r) (hf : f < 40) (k0 : Int32) : t_hk (vlD ln f k0 r) (rS P f f2 p0 r0) := by
  unfold vlD
  refine l2_lt (l2_bd _ (h.set (b := 993) (j := ln) (x := k0) (by unfold mo_Wr; omega) (by omega)).hint (fun y hy => l2_lt (l2_lt ?_)))
  have h2 := hy.set (b := 991) (j := ln) (x := y.1 950 86) (by unfold mo_Wr; omega) (by omega)
  generalize t_setI y 991 ln (y.1 950 86) = r2 at *
  have h3 := h2.set (b := 992) (j := ln) (x := r2.1 950 87) (by unfold mo_Wr; omega) (by omega)
  generalize t_setI r2 992 ln (r2.1 950 87) = r3 at *
  exact l2_bd _ (h3.mustBe 14909) (fun z hz => yS.lnv hz.toR hf hz)
end
