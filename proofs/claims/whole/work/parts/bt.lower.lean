/-! Level 2: operators of exps in the class: lower, a turn of its loop. -/
theorem op_1 {x g b : Nat} (h : ob_T x g b) (h1 : x ≠ 16 ∧ x ≠ 17) (s : t_S) : ∃ o, px_two g o ∧ f_X6_operationOf (nI x) s = nI o := by
  rcases h with ⟨rfl, rfl, rfl⟩ | ⟨rfl, rfl, rfl⟩ | ⟨rfl, rfl, rfl⟩ | ⟨rfl, rfl, rfl⟩ | ⟨rfl, rfl, rfl⟩ | ⟨rfl, rfl, rfl⟩ | ⟨rfl, rfl, rfl⟩ | ⟨rfl, rfl, rfl⟩ | ⟨rfl, rfl, rfl⟩ | ⟨rfl, rfl, rfl⟩ | ⟨rfl, rfl, rfl⟩ | ⟨rfl, rfl, rfl⟩ | ⟨rfl, rfl, rfl⟩ | ⟨rfl, rfl, rfl⟩
  · exact ⟨26, by unfold px_two; decide, rfl⟩
  · exact ⟨27, by unfold px_two; decide, rfl⟩
  · exact ⟨23, by unfold px_two; decide, rfl⟩
  · exact ⟨25, by unfold px_two; decide, rfl⟩
  · exact absurd rfl h1.1
  · exact absurd rfl h1.2
  · exact ⟨20, by unfold px_two; decide, rfl⟩
  · exact ⟨21, by unfold px_two; decide, rfl⟩
  · exact ⟨18, by unfold px_two; decide, rfl⟩
  · exact ⟨16, by unfold px_two; decide, rfl⟩
  · exact ⟨17, by unfold px_two; decide, rfl⟩
  · exact ⟨19, by unfold px_two; decide, rfl⟩
  · exact ⟨22, by unfold px_two; decide, rfl⟩
  · exact ⟨24, by unfold px_two; decide, rfl⟩
/-- what waits on top binds so; 0: nothing waits in this exp -/
def tb_R (w0 w : Nat) (tb : Nat) (c : t_S) : Prop := w0 ≤ w ∧ ((w = w0 ∧ tb = 0) ∨ (w0 < w ∧ ∃ x g, ob_T x g tb ∧ c.1 854 (2 * (w - 1)) = nI x))
theorem lw_stop {w0 w tb b : Nat} {c : t_S} (h7 : c.1 845 7 = nI w) (hw : w ≤ 3001) (ht : tb_R w0 w tb c) (hb : b ≤ 5) (h : tb < b ∨ tb = b ∧ (b = 3 ∨ b = 0) ∨ w = w0) : b_X6_lower_0 (nI w0, nI b, c) = some (.inr c) := by
  show k_X6_lower_0 (nI w0) (nI b) c = _
  unfold k_X6_lower_0
  rw [h7]
  obtain ⟨h1, h2⟩ := ht
  by_cases z : w = w0
  · subst z
    rw [if_pos (nI_le (Nat.le_refl _) (by omega))]
    rfl
  · obtain ⟨lt, x, g, t, e⟩ := h2.resolve_left (fun y => z y.1)
    obtain ⟨_, b1, b2, b3, b4⟩ := bo_1 t c
    obtain ⟨k, rfl⟩ : ∃ k, w = k + 1 := ⟨w - 1, by omega⟩
    have e : c.1 854 (2 * k) = nI x := e
    rw [if_neg (nI_ge (by omega) (by omega)), pw_top h7 (by omega), e, (bo_1 t c).1, l2_bs]
    rw [if_neg (nI_nlt (by omega) (by omega)), l2_bs]
    by_cases q : tb = b
    · subst q
      rw [if_pos rfl]
      have b3 : tb = 3 := by omega
      subst b3
      rw [if_pos (show nI 3 = (3 : Int32) from rfl)]
      rfl
    · rw [if_neg (fun y => q ((nI_eq (by omega) (by omega)).mp y))]
      rfl
/-- one that binds tighter is let go -/
theorem lw_pop {w0 k x g tb e : Nat} {c : t_S} (h7 : c.1 845 7 = nI (k + 1)) (hk : k ≤ 3000) (hw : w0 ≤ k) (t : ob_T x g tb) (ex : c.1 854 (2 * k) = nI x) (h2 : c.1 334 2 = nI e) (he : e < 16000) (hj : x = 16 ∨ x = 17 → ∃ j, j < 16000 ∧ c.1 854 (2 * k + 1) = nI j) : ∃ c', (∀ b, b ≤ 5 → (b < tb ∨ tb = b ∧ b ≠ 3) → b_X6_lower_0 (nI w0, nI b, c) = some (.inl (nI w0, nI b, c'))) ∧ c'.1 845 7 = nI k ∧ c'.1 334 2 = nI (e + 1) ∧ ((x ≠ 16 ∧ x ≠ 17 ∧ (∃ o, px_two g o ∧ px_o c' e o 0) ∧ l2_fr (fun b j => (b = 845 ∧ j = 7) ∨ (b = 334 ∧ j = 2) ∨ ((b = 335 ∨ b = 336) ∧ j = e)) c c') ∨ ((x = 16 ∨ x = 17) ∧ ∃ j, j < 16000 ∧ c.1 854 (2 * k + 1) = nI j ∧ c'.1 336 j = nI (e + 1) ∧ (j ≠ e → px_o c' e 30 0) ∧ l2_fr (fun b i => (b = 845 ∧ i = 7) ∨ (b = 334 ∧ i = 2) ∨ ((b = 335 ∨ b = 336) ∧ i = e) ∨ (b = 336 ∧ i = j)) c c')) := by
  obtain ⟨_, b1, b2, b3, b4⟩ := bo_1 t c
  have e29 : ∀ b, b ≤ 5 → (b < tb ∨ tb = b ∧ b ≠ 3) → b_X6_lower_0 (nI w0, nI b, c) = k_X6_lower_29 (nI w0) (nI b) c := by
    intro b hb h
    show k_X6_lower_0 (nI w0) (nI b) c = _
    unfold k_X6_lower_0
    rw [h7, if_neg (nI_ge (by omega) (by omega)), pw_top h7 hk, ex, (bo_1 t c).1, l2_bs]
    by_cases q : b < tb
    · rw [if_pos ((nI_ltI (by omega) (by omega)).mpr q)]
    · have q2 := h.resolve_left q
      rw [if_neg (nI_nlt (by omega) (by omega)), l2_bs, if_pos (by rw [q2.1]), if_neg (show ¬ nI b = (3 : Int32) from fun y => q2.2 ((nI_eq (b := 3) (by omega) (by decide)).mp y))]
  have key : ∃ c', (∀ l2, k_X6_lower_29 (nI w0) l2 c = some (.inl (nI w0, l2, c'))) ∧ c'.1 845 7 = nI k ∧ c'.1 334 2 = nI (e + 1) ∧ ((x ≠ 16 ∧ x ≠ 17 ∧ (∃ o, px_two g o ∧ px_o c' e o 0) ∧ l2_fr (fun b j => (b = 845 ∧ j = 7) ∨ (b = 334 ∧ j = 2) ∨ ((b = 335 ∨ b = 336) ∧ j = e)) c c') ∨ ((x = 16 ∨ x = 17) ∧ ∃ j, j < 16000 ∧ c.1 854 (2 * k + 1) = nI j ∧ c'.1 336 j = nI (e + 1) ∧ (j ≠ e → px_o c' e 30 0) ∧ l2_fr (fun b i => (b = 845 ∧ i = 7) ∨ (b = 334 ∧ i = 2) ∨ ((b = 335 ∨ b = 336) ∧ i = e) ∨ (b = 336 ∧ i = j)) c c')) := by
    have g7 : l2_fr (fun b j => b = 845 ∧ j = 7) c (t_setI c 845 7 (nI k)) := l2_fr.set ⟨rfl, rfl⟩
    have v7 : (t_setI c 845 7 (nI k)).1 845 7 = nI k := by simp only [l2_gI, reduceIte]
    have x2 : (t_setI c 845 7 (nI k)).1 854 (2 * k) = nI x := by rw [(g7 854 _ (by omega)).1]; exact ex
    have k2 : (t_setI c 845 7 (nI k)).1 334 2 = nI e := by rw [(g7 334 2 (by omega)).1]; exact h2
    have e0 : ∀ l2, k_X6_lower_29 (nI w0) l2 c = (if nI x = (16 : Int32) then k_X6_lower_63 (nI w0) l2 (t_setI c 845 7 (nI k)) else (if nI x = (17 : Int32) then k_X6_lower_63 (nI w0) l2 (t_setI c 845 7 (nI k)) else ((f_X0_emit (f_X6_operationOf (nI x) (t_setI c 845 7 (nI k))) (0 : Int32) (t_setI c 845 7 (nI k))).bind (fun r3 => some (.inl (nI w0, l2, r3.2)))))) := by
      intro l2
      unfold k_X6_lower_29
      rw [h7, nI_pred]
      unfold t_let
      dsimp only
      rw [v7, show (2 : Int32) * nI k = nI (2 * k) from pk_mul 2 _, if_pos (l2_ix (by omega) (by decide)), nI_clamp (n := 2 * k) (by omega), x2]
    generalize t_setI c 845 7 (nI k) = c2 at *
    by_cases lg : x = 16 ∨ x = 17
    · have e63 : ∀ l2, (if nI x = (16 : Int32) then k_X6_lower_63 (nI w0) l2 c2 else (if nI x = (17 : Int32) then k_X6_lower_63 (nI w0) l2 c2 else ((f_X0_emit (f_X6_operationOf (nI x) c2) (0 : Int32) c2).bind (fun r3 => some (.inl (nI w0, l2, r3.2)))))) = k_X6_lower_63 (nI w0) l2 c2 := by
        intro l2
        rcases lg with rfl | rfl
        · rw [if_pos (show nI 16 = (16 : Int32) from rfl)]
        · rw [if_neg (show ¬ nI 17 = (16 : Int32) by decide), if_pos (show nI 17 = (17 : Int32) from rfl)]
      obtain ⟨j, j1, j2⟩ := hj lg
      obtain ⟨y, ey, y1, y2, y3, y4, y5⟩ := em_emit (s := c2) (e := e) 30 0 k2 he
      have j7 : y.2.1 845 7 = nI k := by rw [(y2 845 7 (by omega)).1]; exact v7
      have jj : y.2.1 854 (2 * k + 1) = nI j := by rw [(y2 854 _ (by omega)).1, (g7 854 _ (by omega)).1]; exact j2
      have f3 : l2_fr (fun b i => b = 336 ∧ i = j) y.2 (t_setI y.2 336 j (nI (e + 1))) := l2_fr.set ⟨rfl, rfl⟩
      have v3 : (t_setI y.2 336 j (nI (e + 1))).1 336 j = nI (e + 1) := by simp only [l2_gI, reduceIte]
      refine ⟨t_setI y.2 336 j (nI (e + 1)), fun l2 => ?_, by rw [(f3 845 7 (by omega)).1]; exact j7, by rw [(f3 334 2 (by omega)).1]; exact y3, Or.inr ⟨lg, j, j1, j2, v3, fun z => ⟨by rw [(f3 335 e (by omega)).1]; exact y4, by rw [(f3 336 e (by omega)).1]; exact y5⟩, ?_⟩⟩
      · rw [e0, e63]
        unfold k_X6_lower_63
        rw [ey, l2_bs, j7, show (2 : Int32) * nI k = nI (2 * k) from pk_mul 2 _, nI_1, if_pos (l2_ix (by omega) (by decide)), nI_clamp (n := 2 * k + 1) (by omega), jj, if_pos (l2_ix j1 (by decide)), nI_clamp (n := j) (by omega), y3]
        rfl
      · exact ((g7.mono (fun b i y => Or.inl y)).trans (y2.mono (fun b i y => by omega))).trans (f3.mono (fun b i y => by omega))
    · have n16 : ¬ nI x = (16 : Int32) := fun y => lg (Or.inl ((nI_eq (b := 16) (by omega) (by decide)).mp y))
      have n17 : ¬ nI x = (17 : Int32) := fun y => lg (Or.inr ((nI_eq (b := 17) (by omega) (by decide)).mp y))
      obtain ⟨o, o1, o2⟩ := op_1 t ⟨fun y => lg (Or.inl y), fun y => lg (Or.inr y)⟩ c2
      obtain ⟨y, ey, y1, y2, y3, y4, y5⟩ := em_emit (s := c2) (e := e) (nI o) 0 k2 he
      refine ⟨y.2, fun l2 => ?_, by rw [(y2 845 7 (by omega)).1]; exact v7, y3, Or.inl ⟨fun y => lg (Or.inl y), fun y => lg (Or.inr y), ⟨o, o1, y4, y5⟩, (g7.mono (fun b i y => Or.inl y)).trans (y2.mono (fun b i y => by omega))⟩⟩
      rw [e0, if_neg n16, if_neg n17, o2, ey, l2_bs]
  obtain ⟨c', k1, k2⟩ := key
  exact ⟨c', fun b hb h => by rw [e29 b hb h, k1], k2⟩
/-- some that wait are let go: so from the one state to the other, for all that bind no tighter than th -/
def lwT (w0 th n : Nat) (c1 c2 : t_S) : Prop := ∀ b, b ≤ th → ∃ u, u ≤ n ∧ l2_tn b_X6_lower_0 u (nI w0, nI b, c1) (nI w0, nI b, c2)
theorem lwT.nil {w0 th : Nat} {c : t_S} : lwT w0 th 0 c c := fun _ _ => ⟨0, Nat.le_refl _, l2_tn.nil⟩
theorem lwT.low {w0 th th' n n' : Nat} {c1 c2 : t_S} (h : lwT w0 th n c1 c2) (h1 : th' ≤ th) (h2 : n ≤ n') : lwT w0 th' n' c1 c2 := fun b hb => by
  obtain ⟨u, u1, u2⟩ := h b (by omega)
  exact ⟨u, by omega, u2⟩
theorem lwT.then {w0 th th' n : Nat} {c1 c2 c3 : t_S} (h : lwT w0 th n c1 c2) (ht : th' ≤ th) (g : ∀ b, b ≤ th' → b_X6_lower_0 (nI w0, nI b, c2) = some (.inl (nI w0, nI b, c3))) : lwT w0 th' (n + 1) c1 c3 := fun b hb => by
  obtain ⟨u, u1, u2⟩ := h b (by omega)
  exact ⟨u + 1, by omega, u2.trans (l2_tn.one (g b hb))⟩
theorem lwT.lower {w0 th n b : Nat} {c1 c2 : t_S} (h : lwT w0 th n c1 c2) (hn : n ≤ 1000) (hb : b ≤ th) (s : b_X6_lower_0 (nI w0, nI b, c2) = some (.inr c2)) : f_X6_lower (nI w0) (nI b) c1 = some c2 := by
  obtain ⟨u, u1, u2⟩ := h b hb
  exact l2_tnR u2 (by omega) s
/-- a loop's turn -/
theorem lp_1 {σ ρ : Type} {b : σ → Option (σ ⊕ ρ)} {N : Nat} {x : σ} : t_loop b (N + 1) x = (b x).bind (fun z => match z with | .inl y => t_loop b N y | .inr r => some r) := by
  show (match b x with | none => none | some (.inl y) => t_loop b N y | some (.inr r) => some r) = _
  cases b x with
  | none => rfl
  | some z => cases z <;> rfl
/-- readOne, then the loop -/
noncomputable def exL (rc : RT_X6_readBase) (l1 l2 : Int32) (w0 N k : Nat) (c : t_S) : Option (Int32 × t_S) := (rc.2.2.2.2.2.2.2.1 (if (0 : Int32) < l1 then l1 else (0 : Int32)) c).bind (fun r => t_loop (b_X6_readExp_60 rc) N (l1, l2, nI w0, nI k, r))
/-- an operator read -/
theorem ex_turn {rc : RT_X6_readBase} {l1 l2 : Int32} {w0 w tb b k N n th : Nat} {c1 c2 : t_S} (hk : k < 3000) (hb1 : 0 < b) (hb5 : b ≤ 5) (hth : b ≤ th) (e1 : ∀ s, f_X6_bindingOf (c1.1 1 8) s = nI b) (L : lwT w0 th n c1 c2) (hn : n ≤ 1000) (h7 : c2.1 845 7 = nI w) (hw : w ≤ 3000) (ht : tb_R w0 w tb c2) (htb : tb < b) : t_loop (b_X6_readExp_60 rc) (N + 1) (l1, l2, nI w0, nI k, c1) = (f_X6_node c2).bind (fun r1 => if r1.1 1 11 = 0 then (f_X6_pushOperator (r1.1 1 8) r1).bind (fun r2 => (f_X2_advance r2).bind (fun r3 => exL rc l1 l2 w0 N (k + 1) r3)) else k_X6_readExp_175 rc l1 l2 (nI w0) r1) := by
  have ls : f_X6_lower (nI w0) (nI b) c1 = some c2 := L.lower hn hth (lw_stop h7 (by omega) ht hb5 (Or.inl htb))
  have e60 : b_X6_readExp_60 rc (l1, l2, nI w0, nI k, c1) = k_X6_readExp_125 rc l1 l2 (nI w0) (nI k) c2 := by
    show k_X6_readExp_60 rc l1 l2 (nI w0) (nI k) c1 = _
    unfold k_X6_readExp_60
    rw [if_neg (show ¬ (3000 : Int32) ≤ nI k from nI_ge (b := 3000) hk (by decide)), e1, if_neg (show ¬ nI b = (0 : Int32) from fun y => by have := (nI_eq (b := 0) (by omega) (by decide)).mp y; omega), ls, l2_bs]
    by_cases z : b = 3
    · subst z
      rw [if_pos (show nI 3 = (3 : Int32) from rfl), h7]
      obtain ⟨q1, q2⟩ := ht
      by_cases y : w = w0
      · rw [if_pos (by rw [y]; exact nI_le (Nat.le_refl _) (by omega))]
      · obtain ⟨lt, x, g, t, e⟩ := q2.resolve_left (fun z => y z.1)
        obtain ⟨k', rfl⟩ : ∃ k', w = k' + 1 := ⟨w - 1, by omega⟩
        have e : c2.1 854 (2 * k') = nI x := e
        rw [if_neg (nI_ge (by omega) (by omega)), pw_top h7 (by omega), e, (bo_1 t c2).1, l2_bs, if_neg (show ¬ nI tb = (3 : Int32) from fun z => by have := (nI_eq (b := 3) (by omega) (by decide)).mp z; omega)]
    · rw [if_neg (show ¬ nI b = (3 : Int32) from fun y => z ((nI_eq (b := 3) (by omega) (by decide)).mp y))]
  rw [lp_1, e60]
  unfold k_X6_readExp_125 exL
  rw [Option.bind_assoc]
  refine congrArg (Option.bind _) (funext fun r1 => ?_)
  by_cases z : r1.1 1 11 = 0
  · rw [if_pos z, if_pos z, Option.bind_assoc]
    refine congrArg (Option.bind _) (funext fun r2 => ?_)
    rw [Option.bind_assoc]
    refine congrArg (Option.bind _) (funext fun r3 => ?_)
    rw [Option.bind_assoc]
    refine congrArg (Option.bind _) (funext fun r4 => ?_)
    show t_loop (b_X6_readExp_60 rc) N (l1, l2, nI w0, nI k + 1, r4) = _
    rw [nI_succ]
  · rw [if_neg z, if_neg z]
    cases k_X6_readExp_175 rc l1 l2 (nI w0) r1 <;> rfl
