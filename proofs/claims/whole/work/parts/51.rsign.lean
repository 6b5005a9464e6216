/-! Level 2: the reference's signs and reserved words. -/
theorem rs_one : ∀ c, c < 256 → (t_tix 6 (nI c) < 0 ↔ lx_one c = false) := by decide +kernel
/-- what the reference sees behind a sign -/
def rs_d (B : Nat → Nat) (L p : Nat) : Int32 := if p + 1 < L then nI (B (p + 1)) else -1
def rs_W (b j : Nat) : Prop := b = 950 ∧ (j = 2 ∨ j = 3 ∨ j = 4 ∨ j = 5 ∨ j = 9)
def rs_v (B : Nat → Nat) (L p : Nat) : Nat := if lx_two (B p) (lx_nxt B L p) = 0 then B p else 256 * B p + lx_nxt B L p
theorem rs_fail {s : t_S} {x y : Int32} (h : s.1 950 2 = 0) : f_X13_fail x y s = some (t_setI (t_setI s 950 2 x) 950 3 y) := by
  unfold f_X13_fail
  rw [if_pos h]
  rfl
theorem rs_nofail {s : t_S} {x y : Int32} (h : s.1 950 2 ≠ 0) : f_X13_fail x y s = some s := by
  unfold f_X13_fail
  rw [if_neg h]
/-- behind a sign -/
def rs_Q (B : Nat → Nat) (L p : Nat) (s s' : t_S) : Prop := s'.1 950 5 = 4 ∧ s'.1 950 4 = nI (lx_se B L p) ∧ s'.1 950 9 = nI (rs_v B L p) ∧ (if lx_so B L p = 5 then s'.1 950 2 = 1 ∧ s'.1 950 3 = nI p else s'.1 950 2 = 0) ∧ l2_fr rs_W s s'
theorem rs_so {B : Nat → Nat} {L p : Nat} : lx_so B L p = 5 ↔ (lx_two (B p) (lx_nxt B L p) = 0 ∧ lx_one (B p) = false) := by
  unfold lx_so
  by_cases z : lx_two (B p) (lx_nxt B L p) = 0
  · rw [if_pos z]
    cases o : lx_one (B p) with
    | true =>
      rw [if_pos rfl]
      have := tk_one o
      exact ⟨fun x => by omega, fun x => by cases x.2⟩
    | false =>
      rw [if_neg (by decide)]
      exact ⟨fun _ => ⟨z, rfl⟩, fun _ => rfl⟩
  · rw [if_neg z]
    have := tk_two z
    exact ⟨fun x => by omega, fun x => absurd x.1 z⟩
theorem rs_124 {s s1 : t_S} {B : Nat → Nat} {L p : Nat} (hc : B p < 256) (hd : lx_two (B p) (lx_nxt B L p) ≠ 0 → rs_d B L p = nI (lx_nxt B L p)) (hf : l2_fr (fun b j => b = 950 ∧ (j = 2 ∨ j = 3)) s s1) (h4 : s.1 950 4 = nI p) (h2 : if lx_so B L p = 5 then s1.1 950 2 = 1 ∧ s1.1 950 3 = nI p else s1.1 950 2 = 0) {v : Int32} (hv : v = if lx_two (B p) (lx_nxt B L p) = 0 then 0 else 1) : t_hk (k_X13_readSign_124 (nI (B p)) (rs_d B L p) v s1) (rs_Q B L p s) := by
  have g4 : s1.1 950 4 = nI p := by rw [(hf 950 4 (by omega)).1]; exact h4
  unfold k_X13_readSign_124
  refine l2_lt ?_
  have fin : ∀ (w x : Int32), w = nI (rs_v B L p) → nI p + x = nI (lx_se B L p) → rs_Q B L p s (t_setI (t_setI (t_setI s1 950 5 4) 950 9 w) 950 4 (nI p + x)) := by
    intro w x hw hx
    refine ⟨?_, ?_, ?_, ?_, ?_⟩
    · rw [l2_sI, mj_up_ne _ _ (by decide), l2_sI, mj_up_ne _ _ (by decide), l2_sI, mj_up_eq]
    · rw [l2_sI, mj_up_eq, hx]
    · rw [l2_sI, mj_up_ne _ _ (by decide), l2_sI, mj_up_eq, hw]
    · have e : ∀ j, j ≠ 4 → j ≠ 9 → j ≠ 5 → (t_setI (t_setI (t_setI s1 950 5 4) 950 9 w) 950 4 (nI p + x)).1 950 j = s1.1 950 j := fun j a b c => by
        rw [l2_sI, mj_up_ne _ _ a, l2_sI, mj_up_ne _ _ b, l2_sI, mj_up_ne _ _ c]
      rw [e 2 (by decide) (by decide) (by decide), e 3 (by decide) (by decide) (by decide)]
      exact h2
    · exact (((hf.mono (fun b j y => by unfold rs_W; omega)).trans (l2_fr.set ⟨rfl, by omega⟩)).trans (l2_fr.set ⟨rfl, by omega⟩)).trans (l2_fr.set ⟨rfl, by omega⟩)
  have at5 : ∀ w : Int32, (t_setI (t_setI s1 950 5 4) 950 9 w).1 950 4 = nI p := fun w => by
    rw [l2_sI, mj_up_ne _ _ (by decide), l2_sI, mj_up_ne _ _ (by decide)]
    exact g4
  by_cases z : lx_two (B p) (lx_nxt B L p) = 0
  · rw [if_pos z] at hv
    subst hv
    refine l2_ck rfl ?_
    unfold k_X13_readSign_145 k_X13_readSign_162
    refine l2_lt (l2_ck rfl ?_)
    rw [at5]
    refine l2_lt (l2_sm (fin _ 1 ?_ ?_))
    · unfold rs_v; rw [if_pos z]
    · unfold lx_se; rw [if_pos z, nI_1]
  · rw [if_neg z] at hv
    subst hv
    refine l2_no l2_10 ?_
    unfold k_X13_readSign_145 k_X13_readSign_162
    refine l2_lt (l2_no l2_10 ?_)
    rw [at5]
    refine l2_lt (l2_sm (fin _ 2 ?_ ?_))
    · unfold rs_v
      rw [if_neg z, hd z, show (256 : Int32) = nI 256 from rfl, pk_mul, nI_add]
    · unfold lx_se
      rw [if_neg z, show (2 : Int32) = nI 2 from rfl, nI_add]
theorem rs_88 {s : t_S} {B : Nat → Nat} {L p : Nat} (hc : B p < 256) (hd : lx_two (B p) (lx_nxt B L p) ≠ 0 → rs_d B L p = nI (lx_nxt B L p)) (h4 : s.1 950 4 = nI p) (h6 : s.1 950 6 = nI p) (h2 : s.1 950 2 = 0) {v : Int32} (hv : v = if lx_two (B p) (lx_nxt B L p) = 0 then 0 else 1) : t_hk (k_X13_readSign_88 (nI (B p)) (rs_d B L p) v s) (rs_Q B L p s) := by
  have ok : ¬ lx_so B L p = 5 → t_hk (k_X13_readSign_124 (nI (B p)) (rs_d B L p) v s) (rs_Q B L p s) := fun y => rs_124 hc hd l2_fr.rf h4 (by rw [if_neg y]; exact h2) hv
  unfold k_X13_readSign_88 k_X13_readSign_104
  by_cases z : lx_two (B p) (lx_nxt B L p) = 0
  · have hv0 : v = 0 := by rw [hv, if_pos z]
    cases o : lx_one (B p) with
    | true =>
      refine l2_no (fun x => by rw [(rs_one _ hc).mp x] at o; cases o) ?_
      refine l2_ck hv0 (l2_no l2_10 (ok (fun x => by rw [(rs_so.mp x).2] at o; cases o)))
    | false =>
      refine l2_ck ((rs_one _ hc).mpr o) (l2_ck hv0 (l2_ck rfl ?_))
      refine l2_eq (rs_fail h2) ?_
      rw [h6]
      refine rs_124 hc hd ((l2_fr.set ⟨rfl, Or.inl rfl⟩).trans (l2_fr.set ⟨rfl, Or.inr rfl⟩)) h4 ?_ hv
      rw [if_pos (rs_so.mpr ⟨z, o⟩)]
      refine ⟨?_, ?_⟩
      · rw [l2_sI, mj_up_ne _ _ (by decide), l2_sI, mj_up_eq]
      · rw [l2_sI, mj_up_eq]
  · have hv1 : v = 1 := by rw [hv, if_neg z]
    have go := ok (fun x => z (rs_so.mp x).1)
    rw [hv1] at go ⊢
    refine l2_if (fun _ => l2_no l2_10 go) (fun _ => l2_no l2_10 go)
theorem rs_read {s : t_S} {B : Nat → Nat} {L p : Nat} (hT : tx_Tr s B L) (hp : p < L) (h4 : s.1 950 4 = nI p) (h6 : s.1 950 6 = nI p) (h2 : s.1 950 2 = 0) : t_hk (f_X13_readSign (nI (B p)) s) (rs_Q B L p s) := by
  have hL := hT.1
  obtain ⟨b1, b2⟩ := hT.2.2 p hp
  have ed : f_X13_peek (s.1 950 4 + 1) s = some (rs_d B L p) := by
    rw [h4, nI_1]
    exact lx_peek hT (by omega)
  have dn : ∀ k, 0 < k → k < 256 → (rs_d B L p = nI k ↔ lx_nxt B L p = k) := by
    intro k h0 hk
    unfold rs_d lx_nxt
    by_cases c : p + 1 < L
    · rw [if_pos c, if_pos c]
      have := (hT.2.2 (p + 1) c).1
      exact l2_eqI (by omega) (by omega)
    · rw [if_neg c, if_neg c]
      refine ⟨fun x => ?_, fun x => by omega⟩
      have y := congrArg Int32.toInt x
      rw [nI_toInt (by omega)] at y
      have e : (-1 : Int32).toInt = -1 := rfl
      omega
  have hd : lx_two (B p) (lx_nxt B L p) ≠ 0 → rs_d B L p = nI (lx_nxt B L p) := by
    intro z
    have hn : 0 < lx_nxt B L p := by
      by_cases y : lx_nxt B L p = 0
      · rw [y] at z
        exfalso
        apply z
        unfold lx_two
        rw [if_neg (by omega), if_neg (by omega), if_neg (by omega), if_neg (by omega)]
      · omega
    have hl : lx_nxt B L p < 256 := by
      unfold lx_nxt
      split
      · exact (hT.2.2 _ (by omega)).1
      · omega
    exact (dn _ hn hl).mpr rfl
  have cn : ∀ k, k < 256 → (nI (B p) = nI k ↔ B p = k) := fun k hk => l2_eqI (by omega) (by omega)
  have yes : lx_two (B p) (lx_nxt B L p) ≠ 0 → t_hk (k_X13_readSign_83 (nI (B p)) (rs_d B L p) s) (rs_Q B L p s) := fun z => by
    unfold k_X13_readSign_83
    exact rs_88 b1 hd h4 h6 h2 (by rw [if_neg z])
  have no : lx_two (B p) (lx_nxt B L p) = 0 → t_hk (k_X13_readSign_87 (nI (B p)) (rs_d B L p) s) (rs_Q B L p s) := fun z => by
    unfold k_X13_readSign_87
    exact rs_88 b1 hd h4 h6 h2 (by rw [if_pos z])
  have r47 : (lx_nxt B L p = 61 → ¬ (B p = 58 ∨ B p = 61 ∨ B p = 33 ∨ B p = 60 ∨ B p = 62)) → t_hk (k_X13_readSign_47 (nI (B p)) (rs_d B L p) s) (rs_Q B L p s) := by
    intro hx
    have rest : ¬ (B p = 46 ∧ lx_nxt B L p = 46) → ¬ (B p = 38 ∧ lx_nxt B L p = 38) → ¬ (B p = 124 ∧ lx_nxt B L p = 124) → lx_two (B p) (lx_nxt B L p) = 0 := by
      intro a b c
      unfold lx_two
      rw [if_neg a, if_neg b, if_neg c]
      by_cases d : lx_nxt B L p = 61
      · have := hx d
        rw [if_pos d, if_neg (by omega), if_neg (by omega), if_neg (by omega), if_neg (by omega), if_neg (by omega)]
      · rw [if_neg d]
    have y1 : B p = 46 → lx_nxt B L p = 46 → lx_two (B p) (lx_nxt B L p) ≠ 0 := fun a b => by
      unfold lx_two
      rw [if_pos ⟨a, b⟩]
      decide
    have y2 : B p = 38 → lx_nxt B L p = 38 → lx_two (B p) (lx_nxt B L p) ≠ 0 := fun a b => by
      unfold lx_two
      rw [if_neg (by omega), if_pos ⟨a, b⟩]
      decide
    have y3 : B p = 124 → lx_nxt B L p = 124 → lx_two (B p) (lx_nxt B L p) ≠ 0 := fun a b => by
      unfold lx_two
      rw [if_neg (by omega), if_neg (by omega), if_pos ⟨a, b⟩]
      decide
    have r71 : ¬ (B p = 46 ∧ lx_nxt B L p = 46) → ¬ (B p = 38 ∧ lx_nxt B L p = 38) → t_hk (k_X13_readSign_71 (nI (B p)) (rs_d B L p) s) (rs_Q B L p s) := by
      intro a b
      unfold k_X13_readSign_71
      refine l2_if (fun u => l2_if (fun v => yes (y3 ((cn 124 (by decide)).mp u) ((dn 124 (by decide) (by decide)).mp v))) (fun v => no (rest a b (fun w => v ((dn 124 (by decide) (by decide)).mpr w.2))))) (fun u => no (rest a b (fun w => u ((cn 124 (by decide)).mpr w.1))))
    have r59 : ¬ (B p = 46 ∧ lx_nxt B L p = 46) → t_hk (k_X13_readSign_59 (nI (B p)) (rs_d B L p) s) (rs_Q B L p s) := by
      intro a
      unfold k_X13_readSign_59
      refine l2_if (fun u => l2_if (fun v => yes (y2 ((cn 38 (by decide)).mp u) ((dn 38 (by decide) (by decide)).mp v))) (fun v => r71 a (fun w => v ((dn 38 (by decide) (by decide)).mpr w.2)))) (fun u => r71 a (fun w => u ((cn 38 (by decide)).mpr w.1)))
    unfold k_X13_readSign_47
    refine l2_if (fun u => l2_if (fun v => yes (y1 ((cn 46 (by decide)).mp u) ((dn 46 (by decide) (by decide)).mp v))) (fun v => r59 (fun w => v ((dn 46 (by decide) (by decide)).mpr w.2)))) (fun u => r59 (fun w => u ((cn 46 (by decide)).mpr w.1)))
  unfold f_X13_readSign
  refine l2_eq ed ?_
  refine l2_if (fun u => ?_) (fun u => r47 (fun x => absurd ((dn 61 (by decide) (by decide)).mpr x) u))
  have u := (dn 61 (by decide) (by decide)).mp u
  have y : (B p = 58 ∨ B p = 61 ∨ B p = 33 ∨ B p = 60 ∨ B p = 62) → lx_two (B p) (lx_nxt B L p) ≠ 0 := by
    intro a
    unfold lx_two
    rw [if_neg (by omega), if_neg (by omega), if_neg (by omega), if_pos u]
    repeat' split
    all_goals omega
  refine l2_if (fun a => yes (y (Or.inl ((cn 58 (by decide)).mp a)))) (fun a => l2_if (fun b => yes (y (Or.inr (Or.inl ((cn 61 (by decide)).mp b))))) (fun b => l2_if (fun c => yes (y (Or.inr (Or.inr (Or.inl ((cn 33 (by decide)).mp c)))))) (fun c => l2_if (fun d => yes (y (Or.inr (Or.inr (Or.inr (Or.inl ((cn 60 (by decide)).mp d))))))) (fun d => l2_if (fun e => yes (y (Or.inr (Or.inr (Or.inr (Or.inr ((cn 62 (by decide)).mp e))))))) (fun e => r47 (fun _ x => ?_))))))
  rcases x with x | x | x | x | x
  · exact a ((cn 58 (by decide)).mpr x)
  · exact b ((cn 61 (by decide)).mpr x)
  · exact c ((cn 33 (by decide)).mpr x)
  · exact d ((cn 60 (by decide)).mpr x)
  · exact e ((cn 62 (by decide)).mpr x)
