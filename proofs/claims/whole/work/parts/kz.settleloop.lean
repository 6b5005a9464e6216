/-! Level 2: told templates are settled by the class: one operation more; an ERROR, and on behind it. -/
def stW (t pp nn b j : Nat) : Prop := (b = 334 ∧ (j = 4 ∨ j = 7 ∨ j = 13)) ∨ ((b = 354 ∨ b = 357) ∧ j = t) ∨ (b = 337 ∧ pp ≤ j ∧ j < pp + nn)
section
variable {c0 c s s' y : t_S} {cnt i a b t nn pp k u st er : Nat}
/-- = ( ) goes into the pool -/
theorem st_34 {tt : Int} {kk : Nat} (f : l2_fr (eZc c0) c0 c) (h2 : c0.1 334 2 = nI cnt) (hc : cnt ≤ 16000) (hi : i < cnt) (ho : px_o c0 i 34 (nI t)) (h12 : c.1 334 12 = 0) (md : c.1 334 14 = 1) (ht : t < 6100) (h7 : c.1 334 7 = nI 1) (ha : c.1 339 0 = 0) (hb : c.1 339 1 = nI nn) (hv : vl_c tt nn kk (c.2.1 338 0)) (n0 : 0 < nn ∧ nn ≤ 120) (hpp : c.1 334 4 = nI pp) (hp : pp + nn ≤ 26000) : ∃ c', b_X0_work_12 (nI i, c) = some (.inl (nI (i + 1), c')) ∧ l2_fr (stW t pp nn) c c' ∧ c'.1 334 7 = 0 ∧ c'.1 334 4 = nI (pp + nn) ∧ c'.1 354 t = (if kk = 4 then 5 else 4) ∧ c'.1 357 t = nI pp ∧ ∀ d, d < nn → c'.2.1 337 (pp + d) = c.2.1 338 d := by
  have tt := cw_turn f h2 hc hi ho (by decide) (by decide) h12
  rw [if_pos (by decide), if_pos (by decide), if_pos (by decide), if_pos (by decide), if_neg (by decide)] at tt
  have e36 : c.1 336 i = nI t := ((ez_c (b := 336) (j := i) f (by omega)).1).trans ho.2
  obtain ⟨cs, hcs⟩ : ∃ cs, cs = t_setI c 334 13 (nI i) := ⟨_, rfl⟩
  have f1 : l2_fr (fun b j => b = 334 ∧ j = 13) c cs := by rw [hcs]; exact l2_fr.set ⟨rfl, rfl⟩
  rw [← hcs] at tt
  have g7 : cs.1 334 7 = nI 1 := ((f1 334 7 (by omega)).1).trans h7
  have g4 : cs.1 334 4 = nI pp := ((f1 334 4 (by omega)).1).trans hpp
  have gA : cs.1 339 0 = 0 := ((f1 339 0 (by omega)).1).trans ha
  have gB : cs.1 339 1 = nI nn := ((f1 339 1 (by omega)).1).trans hb
  have g14 : cs.1 334 14 = 1 := ((f1 334 14 (by omega)).1).trans md
  have s1 : cs.1 334 7 - (1 : Int32) = 0 := by rw [g7]; decide
  obtain ⟨k1, k2, k3⟩ := cp_at (s := cs) (a := 338) (b := 337) (x := 0) (y := pp) (m := nn) (by decide) (by omega) (by omega)
  have sub : nI nn - (0 : Int32) = nI nn := by rw [show (0 : Int32) = nI 0 from rfl, nI_dif (Nat.zero_le _), Nat.sub_zero]
  have cok : t_cpok (0 : Int32) (nI pp) (nI nn) 48000 26000 = true := by
    unfold t_cpok
    rw [nI_toInt (by omega), nI_toInt (by omega)]
    refine decide_eq_true ?_
    rw [show (0 : Int32).toInt = 0 from rfl]
    omega
  obtain ⟨c2, hc2⟩ : ∃ c2, c2 = t_cpJ cs 338 337 (nI 0) (nI pp) (nI nn) := ⟨_, rfl⟩
  rw [← hc2] at k1 k2 k3
  have v0 : c2.2.1 337 pp = c.2.1 338 0 := by
    have := k2 0 n0.1
    rw [Nat.add_zero, Nat.zero_add] at this
    rw [this, (f1 338 0 (by omega)).2.1]
  have kd : f_X8_kind (c2.2.1 337 pp) c2 = nI kk := by rw [v0]; exact vl_kind hv
  have k9 : kk < 16 := by
    obtain ⟨_, hv2⟩ := hv
    omega
  obtain ⟨x, hx⟩ : ∃ x : Int32, x = (if kk = 4 then 5 else 4) := ⟨_, rfl⟩
  have lit : f_X10_setLiteral (nI t) (nI pp) c2 = some (t_setI (t_setI c2 354 t x) 357 t (nI pp)) := by
    have q4 : nI kk = (4 : Int32) ↔ kk = 4 := nI_eq (b := 4) (by omega) (by decide)
    unfold f_X10_setLiteral k_X10_setLiteral_26
    rw [if_pos (l2_ix (by omega) (by decide)), nI_clamp (n := pp) (by omega), kd, nI_clamp (n := t) (by omega)]
    by_cases e : kk = 4
    · rw [if_pos (q4.mpr e), if_pos (l2_ix ht (by decide)), t_let, if_pos (l2_ix ht (by decide)), t_let, hx, if_pos e]
    · rw [if_neg (fun y => e (q4.mp y)), if_pos (l2_ix ht (by decide)), t_let, if_pos (l2_ix ht (by decide)), t_let, hx, if_neg e]
  obtain ⟨c3, hc3⟩ : ∃ c3, c3 = t_setI (t_setI c2 354 t x) 357 t (nI pp) := ⟨_, rfl⟩
  have f3 : l2_fr (fun b j => (b = 354 ∨ b = 357) ∧ j = t) c2 c3 := by
    rw [hc3]
    exact (l2_fr.set ⟨Or.inl rfl, rfl⟩).trans (l2_fr.set ⟨Or.inr rfl, rfl⟩)
  have e54 : c3.1 354 t = x := by rw [hc3, l2_sO (by decide), l2_g, if_pos rfl]
  have e57 : c3.1 357 t = nI pp := by rw [hc3, l2_g, if_pos rfl]
  have e4 : c3.1 334 4 = nI pp := by rw [(f3 334 4 (by omega)).1, k1]; exact g4
  have e7 : c3.1 334 7 = nI 1 := by rw [(f3 334 7 (by omega)).1, k1]; exact g7
  obtain ⟨c4, hc4⟩ : ∃ c4, c4 = t_setI c3 334 4 (nI (pp + nn)) := ⟨_, rfl⟩
  have f4 : l2_fr (fun b j => b = 334 ∧ j = 4) c3 c4 := by rw [hc4]; exact l2_fr.set ⟨rfl, rfl⟩
  obtain ⟨c5, hc5⟩ : ∃ c5, c5 = t_setI c4 334 7 0 := ⟨_, rfl⟩
  have f5 : l2_fr (fun b j => b = 334 ∧ j = 7) c4 c5 := by rw [hc5]; exact l2_fr.set ⟨rfl, rfl⟩
  have ks : f_X0_keepSame (nI t) cs = some c5 := by
    unfold f_X0_keepSame k_X0_keepSame_117
    rw [s1, g7, g14, show ((0 : Int32).toNatClampNeg) = 0 from rfl, show (nI 1).toNatClampNeg = 1 from nI_clamp (by decide), gA, gB, g4, if_pos (show t_ix (0 : Int32) 3201 = true by decide), if_pos (show t_ix (nI 1) 3201 = true by decide), if_neg (show ¬ (1 : Int32) = 0 by decide), sub, nI_add, if_neg (show ¬ (26000 : Int32) < nI (pp + nn) from fun y => by
      have := (nI_ltI (a := 26000) (b := pp + nn) (by decide) (by omega)).mp y
      omega), if_pos cok, t_let, show (0 : Int32) = nI 0 from rfl, ← hc2, k1, g4, lit, l2_bs, ← hc3, t_let, e4, nI_add, ← hc4, t_let, show c4.1 334 7 = nI 1 by rw [(f4 334 7 (by omega)).1]; exact e7, show nI 1 - (1 : Int32) = 0 by decide, ← hc5]
  have ga : f_X0_gather (nI 34) (nI i) cs = some c5 := by
    unfold f_X0_gather
    rw [show (nI 34).toInt = 34 by decide, if_neg (by decide), if_neg (by decide), if_neg (by decide), if_neg (by decide), if_neg (by decide), if_pos rfl, if_pos (l2_ix (by omega) (by decide)), nI_clamp (n := i) (by omega), (f1 336 i (by omega)).1, e36, ks, l2_bs]
  refine ⟨c5, by rw [tt, ga, l2_bs], ?_, by rw [hc5, l2_g, if_pos rfl], by rw [hc5, l2_g, if_neg (by decide), hc4, l2_g, if_pos rfl], ?_, ?_, fun d hd => ?_⟩
  · exact ((((f1.mono (fun b j y => Or.inl ⟨y.1, by omega⟩)).trans (k3.mono (fun b j y => Or.inr (Or.inr y)))).trans (f3.mono (fun b j y => Or.inr (Or.inl y)))).trans (f4.mono (fun b j y => Or.inl ⟨y.1, by omega⟩))).trans (f5.mono (fun b j y => Or.inl ⟨y.1, by omega⟩))
  · rw [(f5 354 t (by omega)).1, (f4 354 t (by omega)).1, e54, hx]
  · rw [(f5 357 t (by omega)).1, (f4 357 t (by omega)).1, e57]
  · rw [(f5 337 _ (by omega)).2.1, (f4 337 _ (by omega)).2.1, (f3 337 _ (by omega)).2.1, k2 d hd, Nat.zero_add, (f1 338 d (by omega)).2.1]
/-- a name: nothing yet -/
theorem st_35 {x : Int32} (f : l2_fr (eZc c0) c0 c) (h2 : c0.1 334 2 = nI cnt) (hc : cnt ≤ 16000) (hi : i < cnt) (ho : px_o c0 i 35 x) (h12 : c.1 334 12 = 0) (md : c.1 334 14 = 1) : b_X0_work_12 (nI i, c) = some (.inl (nI (i + 1), t_setI c 334 13 (nI i))) := by
  have tt := cw_turn f h2 hc hi ho (by decide) (by decide) h12
  rw [if_pos (by decide), if_pos (by decide), if_pos (by decide), if_pos (by decide), if_neg (by decide)] at tt
  have g14 : (t_setI c 334 13 (nI i)).1 334 14 = 1 := by rw [l2_g, if_neg (by decide)]; exact md
  have ga : f_X0_gather (nI 35) (nI i) (t_setI c 334 13 (nI i)) = some (t_setI c 334 13 (nI i)) := by
    unfold f_X0_gather
    rw [show (nI 35).toInt = 35 by decide, if_neg (by decide), if_neg (by decide), if_neg (by decide), if_neg (by decide), if_neg (by decide), if_neg (by decide), if_pos rfl, g14, if_neg (by decide)]
  rw [tt, ga, l2_bs]
/-- the walk stands -/
theorem st_stop (hi : i < 16000) (h : s.1 335 i = 0 ∨ s.1 334 12 ≠ 0) : b_X0_work_12 (nI i, s) = some (.inr (s.1 334 12, s)) := by
  show k_X0_work_12 (nI i) s = _
  unfold k_X0_work_12
  rw [if_neg (nI_pos (by omega))]
  by_cases c : s.1 334 2 ≤ nI i
  · rw [if_pos c]; rfl
  · rw [if_neg c, if_pos (l2_ix hi (by decide)), nI_clamp (n := i) (by omega)]
    by_cases d : s.1 335 i = 0
    · rw [if_pos d]; rfl
    · rw [if_neg d, if_neg (h.resolve_left d)]; rfl
noncomputable def restS (k : Nat) (r2 : Int32 × t_S) : Option ((Int32 × Int32 × t_S) ⊕ t_S) := if r2.1 = (0 : Int32) then ((some (r2.2)).map Sum.inr) else (t_loop (b_X10_settleOne_43) t_N (nI k, r2.1, (r2.2.1 334 13), r2.2))
noncomputable def tlS (M : Nat) (z : (Int32 × Int32 × t_S) ⊕ t_S) : Option t_S := Sum.elim (fun x => t_loop b_X10_settleOne_4 M x) some z
/-- within settleOne, k ERRORS ago: at operation a, the end will be y -/
def SW (k a : Nat) (s y : t_S) : Prop := ∀ N M, 16000 - a < N → 6100 - k < M → ((t_loop b_X0_work_12 N (nI a, s)).bind (restS k)).bind (tlS M) = some y
theorem SW.turn (h : l2_tn b_X0_work_12 u (nI a, s) (nI b, s')) (hu : u ≤ b - a) (hab : a ≤ b) (hb : b ≤ 16000) (g : SW k b s' y) : SW k a s y := fun N M hN hM => by
  obtain ⟨N', rfl⟩ : ∃ N', N = N' + u := ⟨N - u, by omega⟩
  rw [h N']
  exact g N' M (by omega) hM
theorem SW.fin (ha : a < 16000) (h : s.1 335 a = 0) (h12 : s.1 334 12 = 0) : SW k a s s := fun N M hN hM => by
  obtain ⟨N', rfl⟩ : ∃ N', N = N' + 1 := ⟨N - 1, by omega⟩
  rw [l2_lpR (st_stop ha (Or.inl h)), l2_bs]
  unfold restS
  rw [if_pos h12]
  rfl
/-- a state from which the walk begins anew -/
noncomputable def anew (b : Nat) (s : t_S) : t_S := t_setI (t_setI (t_setI (t_setI s 334 7 0) 339 0 0) 334 12 0) 334 13 (nI b)
theorem lp_el {σ ρ : Type} {f : σ → Option (σ ⊕ ρ)} {M : Nat} {x : σ} : t_loop f (M + 1) x = (f x).bind (fun z => Sum.elim (fun q => t_loop f M q) some z) := by
  cases h : f x with
  | none => unfold t_loop; rw [h]; rfl
  | some z =>
    cases z with
    | inl q => rw [l2_lpS h]; rfl
    | inr q => rw [l2_lpR h]; rfl
theorem st_scan (h2 : s.1 334 2 = nI cnt) (hc : cnt ≤ 16000) (hb : b < cnt) (h34 : s.1 335 b = 34) (h36 : s.1 336 b = nI t) (ht : t < 6100) (hk : k < 6100) : ∀ d j, j + d = b → (∀ x, j ≤ x → x < b → s.1 335 x ≠ 34 ∧ s.1 335 x ≠ 0) → ∀ N, d < N → ∀ e : Int32, t_loop b_X10_settleOne_43 N (nI k, e, nI j, s) = some (.inl (nI (b + 1), nI (k + 1), t_setJ s 362 t e.toInt64)) := by
  intro d
  induction d with
  | zero =>
    intro j hj _ N hN e
    obtain rfl : j = b := by omega
    obtain ⟨N', rfl⟩ : ∃ N', N = N' + 1 := ⟨N - 1, by omega⟩
    refine l2_lpR ?_
    show k_X10_settleOne_43 (nI k) e (nI j) s = _
    unfold k_X10_settleOne_43 k_X10_settleOne_89
    rw [h2, if_neg (nI_ge hb (by omega)), if_pos (l2_ix (by omega) (by decide)), nI_clamp (n := j) (by omega), if_pos h34, if_neg (nI_ge hb (by omega)), if_pos (l2_ix (by omega) (by decide)), if_neg (by rw [h34]; decide), h36, if_pos (l2_ix ht (by decide)), t_let, nI_clamp (n := t) (by omega), nI_1, nI_1]
    rfl
  | succ d ih =>
    intro j hj hx N hN e
    obtain ⟨N', rfl⟩ : ∃ N', N = N' + 1 := ⟨N - 1, by omega⟩
    have x := hx j (Nat.le_refl _) (by omega)
    rw [l2_lpS (y := (nI k, e, nI (j + 1), s)) (by
      show k_X10_settleOne_43 (nI k) e (nI j) s = _
      unfold k_X10_settleOne_43
      rw [h2, if_neg (nI_ge (by omega) (by omega)), if_pos (l2_ix (by omega) (by decide)), nI_clamp (n := j) (by omega), if_neg x.1, if_neg x.2, nI_1])]
    exact ih (j + 1) (by omega) (fun q a b => hx q (by omega) b) N' (by omega) e
theorem SW.start (ha : a < 16000) (hk : k < 6100) (g : SW k a (anew a s) y) {M : Nat} (hM : 6100 - k < M) : t_loop b_X10_settleOne_4 (M + 1) (nI a, nI k, s) = some y := by
  rw [lp_el]
  show (k_X10_settleOne_4 (nI a) (nI k) s).bind (tlS M) = _
  have e : k_X10_settleOne_4 (nI a) (nI k) s = (t_loop b_X0_work_12 t_N (nI a, anew a s)).bind (restS k) := by
    unfold k_X10_settleOne_4 f_X0_clear f_X0_work
    rw [if_neg (show ¬ (6100 : Int32) ≤ nI k from nI_ge (b := 6100) hk (by decide))]
    rfl
  rw [e]
  exact g t_N M (by have := l2_N; omega) hM
/-- an ERROR: the slot has it; the walk begins anew behind -/
theorem SW.err {s0 : t_S} (tn : l2_tn b_X0_work_12 u (nI a, s0) (nI i, s)) (hu : u + a ≤ 16000) (hi : i < 16000) (h12 : s.1 334 12 = nI er) (e0 : 0 < er ∧ er ≤ 7) (h13 : s.1 334 13 = nI st) (h2 : s.1 334 2 = nI cnt) (hc : cnt ≤ 16000) (hb : b + 1 < cnt) (hst : st ≤ b) (h34 : s.1 335 b = 34) (h36 : s.1 336 b = nI t) (ht : t < 6100) (hk : k + 1 < 6100) (hx : ∀ x, st ≤ x → x < b → s.1 335 x ≠ 34 ∧ s.1 335 x ≠ 0) (g : SW (k + 1) (b + 1) (anew (b + 1) (t_setJ s 362 t (nI er).toInt64)) y) : SW k a s0 y := fun N M hN hM => by
  obtain ⟨N', rfl⟩ : ∃ N', N = N' + 1 + u := ⟨N - 1 - u, by omega⟩
  obtain ⟨M', rfl⟩ : ∃ M', M = M' + 1 := ⟨M - 1, by omega⟩
  have ne : s.1 334 12 ≠ 0 := by rw [h12]; exact nI_ne0 e0.1 (by omega)
  rw [tn (N' + 1), l2_lpR (st_stop hi (Or.inr ne)), l2_bs]
  have nN := l2_N
  have r : restS k (s.1 334 12, s) = some (.inl (nI (b + 1), nI (k + 1), t_setJ s 362 t (nI er).toInt64)) := by
    unfold restS
    rw [if_neg ne, h12, h13]
    exact st_scan h2 hc (by omega) h34 h36 ht (by omega) (b - st) st (by omega) hx t_N (by omega) _
  rw [r, l2_bs]
  exact SW.start (by omega) hk g (by omega)
/-- .. with what is wanted of it -/
def SX (k a : Nat) (s : t_S) (Y : t_S → Prop) : Prop := ∃ y, SW k a s y ∧ Y y
theorem SX.turn {Y : t_S → Prop} (h : l2_tn b_X0_work_12 u (nI a, s) (nI b, s')) (hu : u ≤ b - a) (hab : a ≤ b) (hb : b ≤ 16000) (g : SX k b s' Y) : SX k a s Y := by
  obtain ⟨y, g1, g2⟩ := g
  exact ⟨y, SW.turn h hu hab hb g1, g2⟩
theorem SX.err {Y : t_S → Prop} {s0 : t_S} (tn : l2_tn b_X0_work_12 u (nI a, s0) (nI i, s)) (hu : u + a ≤ 16000) (hi : i < 16000) (h12 : s.1 334 12 = nI er) (e0 : 0 < er ∧ er ≤ 7) (h13 : s.1 334 13 = nI st) (h2 : s.1 334 2 = nI cnt) (hc : cnt ≤ 16000) (hb : b + 1 < cnt) (hst : st ≤ b) (h34 : s.1 335 b = 34) (h36 : s.1 336 b = nI t) (ht : t < 6100) (hk : k + 1 < 6100) (hx : ∀ x, st ≤ x → x < b → s.1 335 x ≠ 34 ∧ s.1 335 x ≠ 0) (g : SX (k + 1) (b + 1) (anew (b + 1) (t_setJ s 362 t (nI er).toInt64)) Y) : SX k a s0 Y := by
  obtain ⟨y, g1, g2⟩ := g
  exact ⟨y, SW.err tn hu hi h12 e0 h13 h2 hc hb hst h34 h36 ht hk hx g1, g2⟩
end
