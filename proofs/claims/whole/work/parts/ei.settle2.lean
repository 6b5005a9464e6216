/-! Level 2: names settled: templs, ports, a component's own. -/
section
variable {P : pc_S} {nt : Nat → Nat} {W X e n f so : Nat} {v w kc hm : Int32} {s r : t_S}
/-- a templ's name -/
theorem sn_13 (N : nt_R W nt s r) (hb : s.1 7 (66 + X) = 0 ∨ s.1 7 (66 + X) = 1) (hX : X < 7934) (hW : 66 + X < W) (he : e < 6002) (h9 : s.1 849 e = nI 13) (h0 : s.1 850 e = nI (66 + X)) (h2 : s.1 852 e = nI n) (hn : n < 6100) : ∃ v, to_R nt r 1 X v ∧ ((v < 0 ∧ f_X3_settleName (nI e) s = some (s.1 7 (66 + X), s)) ∨ (¬ v < 0 ∧ f_X3_settleName (nI e) s = some (1, t_setI (t_setI s 354 n 7) 357 n v))) := by
  obtain ⟨v, e1, e2, e3⟩ := nt_told N (i := 1) (by decide) hX hW
  refine ⟨v, ⟨e2, e3⟩, ?_⟩
  unfold f_X3_settleName
  rw [if_pos (l2_ix he (by decide)), nI_clamp (n := e) (by omega)]
  rw [show s.1 (848 + 1 * ((1 : Int32).toNatClampNeg)) e = nI 13 from h9, show s.1 (848 + 1 * ((2 : Int32).toNatClampNeg)) e = nI (66 + X) from h0, show s.1 (848 + 1 * ((4 : Int32).toNatClampNeg)) e = nI n from h2]
  rw [if_neg (show ¬ ((nI 13).toInt < 0 ∨ 13 < (nI 13).toInt) by decide), if_neg (show ¬ (nI 13).toInt = 0 by decide), if_neg (show ¬ (nI 13).toInt = 1 by decide), if_neg (show ¬ (nI 13).toInt = 2 by decide), if_neg (show ¬ (nI 13).toInt = 3 by decide), if_neg (show ¬ (nI 13).toInt = 4 by decide), if_neg (show ¬ (nI 13).toInt = 5 by decide), if_neg (show ¬ (nI 13).toInt = 6 by decide), if_neg (show ¬ (nI 13).toInt = 7 by decide), if_neg (show ¬ (nI 13).toInt = 8 by decide), if_neg (show ¬ (nI 13).toInt = 9 by decide), if_neg (show ¬ (nI 13).toInt = 10 by decide), if_neg (show ¬ (nI 13).toInt = 11 by decide), if_neg (show ¬ (nI 13).toInt = 12 by decide)]
  unfold f_X3_settleTempl
  rw [show (1 : Int32) = nI 1 from rfl, e1, l2_bs]
  by_cases z : v < 0
  · refine Or.inl ⟨z, ?_⟩
    rw [if_neg (Int32.not_le.mpr z), if_pos (l2_ix (show 66 + X < 8000 by omega) (by decide)), nI_clamp (n := 66 + X) (by omega), show nI 1 = (1 : Int32) from rfl, if_pos hb, l2_bs, if_pos hb]
  · refine Or.inr ⟨z, ?_⟩
    rw [if_pos (Int32.not_lt.mp z), if_pos (l2_ix hn (by decide)), nI_clamp (n := n) (by omega)]
    rfl
/-- a port that any component may have -/
theorem sn_8 (he : e < 6002) (h9 : s.1 849 e = nI 8) (hp : f_X5_hasPort (s.1 850 e) s = some w) (hw : w = 0 ∨ w = 1) : f_X3_settleName (nI e) s = some (w, s) := by
  unfold f_X3_settleName
  rw [if_pos (l2_ix he (by decide)), nI_clamp (n := e) (by omega)]
  rw [show s.1 (848 + 1 * ((1 : Int32).toNatClampNeg)) e = nI 8 from h9]
  rw [if_neg (show ¬ ((nI 8).toInt < 0 ∨ 13 < (nI 8).toInt) by decide), if_neg (show ¬ (nI 8).toInt = 0 by decide), if_neg (show ¬ (nI 8).toInt = 1 by decide), if_neg (show ¬ (nI 8).toInt = 2 by decide), if_neg (show ¬ (nI 8).toInt = 3 by decide), if_neg (show ¬ (nI 8).toInt = 4 by decide), if_neg (show ¬ (nI 8).toInt = 5 by decide), if_neg (show ¬ (nI 8).toInt = 6 by decide), if_neg (show ¬ (nI 8).toInt = 7 by decide), if_pos (show (nI 8).toInt = 8 by decide)]
  rw [show f_X5_hasPort (s.1 (848 + 1 * ((2 : Int32).toNatClampNeg)) e) s = some w from hp, l2_bs, if_pos hw]

/-- by its home -/
theorem sn_unit (hs : so = 5 ∨ so = 6 ∨ so = 7 ∨ so = 12 ∨ so = 14) (he : e < 6002) (h9 : s.1 849 e = nI so) (h0 : s.1 850 e = nI (66 + X)) (h2 : s.1 852 e = nI n) (hf : f < 40) (h1 : s.1 851 e = nI f) : f_X3_settleName (nI e) s = k_X3_settleName_290 (nI n) (nI f) (s.1 438 f) (nI (66 + X)) (nI so) s := by
  unfold f_X3_settleName
  rw [if_pos (l2_ix he (by decide)), nI_clamp (n := e) (by omega)]
  rw [show s.1 (848 + 1 * ((1 : Int32).toNatClampNeg)) e = nI so from h9, show s.1 (848 + 1 * ((2 : Int32).toNatClampNeg)) e = nI (66 + X) from h0, show s.1 (848 + 1 * ((3 : Int32).toNatClampNeg)) e = nI f from h1, show s.1 (848 + 1 * ((4 : Int32).toNatClampNeg)) e = nI n from h2]
  rcases hs with rfl | rfl | rfl | rfl | rfl
  · rw [if_neg (show ¬ ((nI 5).toInt < 0 ∨ 13 < (nI 5).toInt) by decide), if_neg (show ¬ (nI 5).toInt = 0 by decide), if_neg (show ¬ (nI 5).toInt = 1 by decide), if_neg (show ¬ (nI 5).toInt = 2 by decide), if_neg (show ¬ (nI 5).toInt = 3 by decide), if_neg (show ¬ (nI 5).toInt = 4 by decide), if_pos (show (nI 5).toInt = 5 by decide), if_pos (nI_pos' (by omega)), if_pos (l2_ix hf (by decide)), nI_clamp (n := f) (by omega)]
  · rw [if_neg (show ¬ ((nI 6).toInt < 0 ∨ 13 < (nI 6).toInt) by decide), if_neg (show ¬ (nI 6).toInt = 0 by decide), if_neg (show ¬ (nI 6).toInt = 1 by decide), if_neg (show ¬ (nI 6).toInt = 2 by decide), if_neg (show ¬ (nI 6).toInt = 3 by decide), if_neg (show ¬ (nI 6).toInt = 4 by decide), if_neg (show ¬ (nI 6).toInt = 5 by decide), if_pos (show (nI 6).toInt = 6 by decide), if_pos (nI_pos' (by omega)), if_pos (l2_ix hf (by decide)), nI_clamp (n := f) (by omega)]
  · rw [if_neg (show ¬ ((nI 7).toInt < 0 ∨ 13 < (nI 7).toInt) by decide), if_neg (show ¬ (nI 7).toInt = 0 by decide), if_neg (show ¬ (nI 7).toInt = 1 by decide), if_neg (show ¬ (nI 7).toInt = 2 by decide), if_neg (show ¬ (nI 7).toInt = 3 by decide), if_neg (show ¬ (nI 7).toInt = 4 by decide), if_neg (show ¬ (nI 7).toInt = 5 by decide), if_neg (show ¬ (nI 7).toInt = 6 by decide), if_pos (show (nI 7).toInt = 7 by decide), if_pos (nI_pos' (by omega)), if_pos (l2_ix hf (by decide)), nI_clamp (n := f) (by omega)]
  · rw [if_neg (show ¬ ((nI 12).toInt < 0 ∨ 13 < (nI 12).toInt) by decide), if_neg (show ¬ (nI 12).toInt = 0 by decide), if_neg (show ¬ (nI 12).toInt = 1 by decide), if_neg (show ¬ (nI 12).toInt = 2 by decide), if_neg (show ¬ (nI 12).toInt = 3 by decide), if_neg (show ¬ (nI 12).toInt = 4 by decide), if_neg (show ¬ (nI 12).toInt = 5 by decide), if_neg (show ¬ (nI 12).toInt = 6 by decide), if_neg (show ¬ (nI 12).toInt = 7 by decide), if_neg (show ¬ (nI 12).toInt = 8 by decide), if_neg (show ¬ (nI 12).toInt = 9 by decide), if_neg (show ¬ (nI 12).toInt = 10 by decide), if_neg (show ¬ (nI 12).toInt = 11 by decide), if_pos (show (nI 12).toInt = 12 by decide), if_pos (nI_pos' (by omega)), if_pos (l2_ix hf (by decide)), nI_clamp (n := f) (by omega)]
  · rw [if_pos (show ((nI 14).toInt < 0 ∨ 13 < (nI 14).toInt) by decide), if_pos (nI_pos' (by omega)), if_pos (l2_ix hf (by decide)), nI_clamp (n := f) (by omega)]
/-- by its home -/
theorem sn_comp (hs : so = 5 ∨ so = 6 ∨ so = 7 ∨ so = 12 ∨ so = 14) (he : e < 6002) (h9 : s.1 849 e = nI so) (h0 : s.1 850 e = nI (66 + X)) (h2 : s.1 852 e = nI n) (h1 : s.1 851 e = hm) (hf : hm < 0) : f_X3_settleName (nI e) s = k_X3_settleName_290 (nI n) hm (-1) (nI (66 + X)) (nI so) s := by
  unfold f_X3_settleName
  rw [if_pos (l2_ix he (by decide)), nI_clamp (n := e) (by omega)]
  rw [show s.1 (848 + 1 * ((1 : Int32).toNatClampNeg)) e = nI so from h9, show s.1 (848 + 1 * ((2 : Int32).toNatClampNeg)) e = nI (66 + X) from h0, show s.1 (848 + 1 * ((3 : Int32).toNatClampNeg)) e = hm from h1, show s.1 (848 + 1 * ((4 : Int32).toNatClampNeg)) e = nI n from h2]
  rcases hs with rfl | rfl | rfl | rfl | rfl
  · rw [if_neg (show ¬ ((nI 5).toInt < 0 ∨ 13 < (nI 5).toInt) by decide), if_neg (show ¬ (nI 5).toInt = 0 by decide), if_neg (show ¬ (nI 5).toInt = 1 by decide), if_neg (show ¬ (nI 5).toInt = 2 by decide), if_neg (show ¬ (nI 5).toInt = 3 by decide), if_neg (show ¬ (nI 5).toInt = 4 by decide), if_pos (show (nI 5).toInt = 5 by decide), if_neg (Int32.not_le.mpr hf)]
  · rw [if_neg (show ¬ ((nI 6).toInt < 0 ∨ 13 < (nI 6).toInt) by decide), if_neg (show ¬ (nI 6).toInt = 0 by decide), if_neg (show ¬ (nI 6).toInt = 1 by decide), if_neg (show ¬ (nI 6).toInt = 2 by decide), if_neg (show ¬ (nI 6).toInt = 3 by decide), if_neg (show ¬ (nI 6).toInt = 4 by decide), if_neg (show ¬ (nI 6).toInt = 5 by decide), if_pos (show (nI 6).toInt = 6 by decide), if_neg (Int32.not_le.mpr hf)]
  · rw [if_neg (show ¬ ((nI 7).toInt < 0 ∨ 13 < (nI 7).toInt) by decide), if_neg (show ¬ (nI 7).toInt = 0 by decide), if_neg (show ¬ (nI 7).toInt = 1 by decide), if_neg (show ¬ (nI 7).toInt = 2 by decide), if_neg (show ¬ (nI 7).toInt = 3 by decide), if_neg (show ¬ (nI 7).toInt = 4 by decide), if_neg (show ¬ (nI 7).toInt = 5 by decide), if_neg (show ¬ (nI 7).toInt = 6 by decide), if_pos (show (nI 7).toInt = 7 by decide), if_neg (Int32.not_le.mpr hf)]
  · rw [if_neg (show ¬ ((nI 12).toInt < 0 ∨ 13 < (nI 12).toInt) by decide), if_neg (show ¬ (nI 12).toInt = 0 by decide), if_neg (show ¬ (nI 12).toInt = 1 by decide), if_neg (show ¬ (nI 12).toInt = 2 by decide), if_neg (show ¬ (nI 12).toInt = 3 by decide), if_neg (show ¬ (nI 12).toInt = 4 by decide), if_neg (show ¬ (nI 12).toInt = 5 by decide), if_neg (show ¬ (nI 12).toInt = 6 by decide), if_neg (show ¬ (nI 12).toInt = 7 by decide), if_neg (show ¬ (nI 12).toInt = 8 by decide), if_neg (show ¬ (nI 12).toInt = 9 by decide), if_neg (show ¬ (nI 12).toInt = 10 by decide), if_neg (show ¬ (nI 12).toInt = 11 by decide), if_pos (show (nI 12).toInt = 12 by decide), if_neg (Int32.not_le.mpr hf)]
  · rw [if_pos (show ((nI 14).toInt < 0 ∨ 13 < (nI 14).toInt) by decide), if_neg (Int32.not_le.mpr hf)]
theorem so_5 (hv : f_X5_portOf kc (nI (66 + X)) s = some v) (hn : n < 400) : k_X3_settleName_290 (nI n) hm kc (nI (66 + X)) (nI 5) s = some (ok_b v, t_setI s (445 + n) 6 v) := by
  unfold k_X3_settleName_290 f_X3_settleOwn
  rw [if_neg (show ¬ ((nI 5).toInt < 5 ∨ 14 < (nI 5).toInt) by decide), if_pos (show (nI 5).toInt = 5 by decide), hv, l2_bs, show (6 : Int32) = nI 6 from rfl, st_put hn (by decide), l2_bs, if_pos (ok_b.is v), l2_bs, if_pos (ok_b.is v)]
theorem so_6 (hv : f_X5_timerOf kc (nI (66 + X)) s = some v) (hn : n < 400) : k_X3_settleName_290 (nI n) hm kc (nI (66 + X)) (nI 6) s = some (ok_b v, t_setI s (445 + n) 6 v) := by
  unfold k_X3_settleName_290 f_X3_settleOwn
  rw [if_neg (show ¬ ((nI 6).toInt < 5 ∨ 14 < (nI 6).toInt) by decide), if_neg (show ¬ (nI 6).toInt = 5 by decide), if_pos (show (nI 6).toInt = 6 by decide), hv, l2_bs, show f_X3_put (nI n) 6 v s = some (ok_b v, t_setI s (445 + n) 6 v) from st_put hn (j := 6) (by decide), l2_bs, if_pos (ok_b.is v), l2_bs, if_pos (ok_b.is v)]
theorem so_7 (hv : f_X5_timerOf (if 0 ≤ hm then kc else -2 - hm) (nI (66 + X)) s = some v) (hn : n < 16000) : k_X3_settleName_290 (nI n) hm kc (nI (66 + X)) (nI 7) s = some (ok_b v, t_setI s 336 n v) := by
  have go : ∀ k : Int32, f_X5_timerOf k (nI (66 + X)) s = some v → k_X3_settleOwn_110 (nI (66 + X)) (nI n) k s = some (ok_b v, t_setI s 336 n v) := fun k hk => by
    unfold k_X3_settleOwn_110
    rw [hk, l2_bs, if_pos (l2_ix hn (by decide)), nI_clamp (n := n) (by omega)]
    unfold ok_b t_let
    split <;> rfl
  unfold k_X3_settleName_290 f_X3_settleOwn
  rw [if_neg (show ¬ ((nI 7).toInt < 5 ∨ 14 < (nI 7).toInt) by decide), if_neg (show ¬ (nI 7).toInt = 5 by decide), if_neg (show ¬ (nI 7).toInt = 6 by decide), if_pos (show (nI 7).toInt = 7 by decide)]
  by_cases z : 0 ≤ hm
  · rw [if_pos z] at hv
    rw [if_pos z, go _ hv, l2_bs, if_pos (ok_b.is v)]
  · rw [if_neg z] at hv
    rw [if_neg z, go _ hv, l2_bs, if_pos (ok_b.is v)]
theorem so_12 (hv : f_X5_varOf kc (nI (66 + X)) s = some v) (hb : s.1 7 (66 + X) = 0 ∨ s.1 7 (66 + X) = 1) (hX : X < 7934) (hn : n < 16000) : k_X3_settleName_290 (nI n) hm kc (nI (66 + X)) (nI 12) s = some (if v < 0 then (s.1 7 (66 + X), s) else (1, t_setI (t_setI s 335 n 4) 336 n v)) := by
  unfold k_X3_settleName_290 f_X3_settleOwn
  rw [if_neg (show ¬ ((nI 12).toInt < 5 ∨ 14 < (nI 12).toInt) by decide), if_neg (show ¬ (nI 12).toInt = 5 by decide), if_neg (show ¬ (nI 12).toInt = 6 by decide), if_neg (show ¬ (nI 12).toInt = 7 by decide), if_neg (show ¬ (nI 12).toInt = 8 by decide), if_neg (show ¬ (nI 12).toInt = 9 by decide), if_neg (show ¬ (nI 12).toInt = 10 by decide), if_neg (show ¬ (nI 12).toInt = 11 by decide), if_pos (show (nI 12).toInt = 12 by decide), hv, l2_bs]
  by_cases z : v < 0
  · rw [if_neg (Int32.not_le.mpr z), if_pos (l2_ix (show 66 + X < 8000 by omega) (by decide)), nI_clamp (n := 66 + X) (by omega), if_pos hb, l2_bs, if_pos hb, if_pos z]
  · rw [if_pos (Int32.not_lt.mp z), if_pos (l2_ix hn (by decide)), nI_clamp (n := n) (by omega), if_neg z]
    rfl
theorem so_14 (hv : f_X5_varOf kc (nI (66 + X)) s = some v) (hn : n < 400) : k_X3_settleName_290 (nI n) hm kc (nI (66 + X)) (nI 14) s = some (ok_b (if v < 0 then -1 else 8 + v), t_setI s (445 + n) 7 (if v < 0 then -1 else 8 + v)) := by
  unfold k_X3_settleName_290 f_X3_settleOwn
  rw [if_neg (show ¬ ((nI 14).toInt < 5 ∨ 14 < (nI 14).toInt) by decide), if_neg (show ¬ (nI 14).toInt = 5 by decide), if_neg (show ¬ (nI 14).toInt = 6 by decide), if_neg (show ¬ (nI 14).toInt = 7 by decide), if_neg (show ¬ (nI 14).toInt = 8 by decide), if_neg (show ¬ (nI 14).toInt = 9 by decide), if_neg (show ¬ (nI 14).toInt = 10 by decide), if_neg (show ¬ (nI 14).toInt = 11 by decide), if_neg (show ¬ (nI 14).toInt = 12 by decide), if_neg (show ¬ (nI 14).toInt = 13 by decide), hv, l2_bs]
  have go : ∀ u : Int32, k_X3_settleOwn_169 u 7 (nI n) s = some (ok_b u, t_setI s (445 + n) 7 u) := fun u => by
    unfold k_X3_settleOwn_169
    rw [show f_X3_put (nI n) 7 u s = some (ok_b u, t_setI s (445 + n) 7 u) from st_put hn (j := 7) (by decide), l2_bs, if_pos (ok_b.is u)]
  by_cases z : v < 0
  · rw [if_neg (Int32.not_le.mpr z), go, l2_bs, if_pos (ok_b.is _), if_pos z]
  · rw [if_pos (Int32.not_lt.mp z), go, l2_bs, if_pos (ok_b.is _), if_neg z]
end
