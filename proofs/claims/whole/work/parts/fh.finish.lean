/-! Level 2: a module's end: both sides tell the same late fault or none, given templs' depths. -/
/-- what is told of types and templs -/
def G_S (nt : Nat → Nat) (r : t_S) (F : (Nat → Nat) → Nat → Nat) (a : Nat) (b : Int32) : Prop := (a = 7 ∧ ∃ x, x < nt 0 ∧ rg_R nt r x ∧ b = r.1 966 x) ∨ (a = 7 ∧ ∃ x, x < nt 1 ∧ 60 < kR F (nt 1) 64 x ∧ b = r.1 969 x)
/-- wanted of templs once names are settled -/
def dpQ (nt : Nat → Nat) (s r : t_S) : Prop := ∃ T0 T1, dpF (nt 1) T0 T1 s ∧ (∀ r2, l2_fr ck_W r r2 → rdH (nt 1) (dpV s T0 T1) r2) ∧ ∀ i, i < nt 1 → s.1 (364 + i) 1 = r.1 969 i
section
variable {P : pc_S} {nt : Nat → Nat} {a g m l : Nat} {k : Nat → Nat} {c0 c r s s' : t_S} {S T : Nat → Int32 → Prop}
theorem ls_of_lt (h : lt_R c (fun p => False ∨ ∃ k, 0 ≤ k ∧ k < m ∧ lt_M r k p)) : ls_R (c.1 846 7) (c.1 846 8) (fun a b => a = 4 ∧ ∃ k p, k < m ∧ lt_M r k p ∧ b = nI p) := by
  rcases h with ⟨h1, h2⟩ | ⟨h1, p, p1, p2, p3, p4⟩
  · exact Or.inl ⟨h1, fun a b ⟨_, k, p, hk, hl, _⟩ => h2 p (Or.inr ⟨k, Nat.zero_le _, hk, hl⟩)⟩
  · obtain ⟨k, _, hk, hl⟩ := p3.resolve_left id
    refine Or.inr ⟨4, by decide, h1, ⟨rfl, k, p, hk, hl, p2⟩, fun a b ⟨ha, k', p', hk', hl', hb⟩ => ?_⟩
    have le := p4 p' (Or.inr ⟨k', Nat.zero_le _, hk', hl'⟩)
    have p12 := hl'.1
    rw [p2, hb]
    by_cases e : p = p'
    · exact Or.inr ⟨by rw [e], by omega⟩
    · rw [nI_toInt (by omega), nI_toInt (by omega)]
      exact Or.inl (by omega)
/-- the class's end -/
theorem fin_c (h : mR P nt a g k c0 c r) (hM : MK (pc_V P) c) (hI : IL 2 0 r) (z7 : c0.1 846 7 = 0) (z : ∀ x, 66 + x < pc_W P → c0.1 7 (66 + x) = 0) (hd : ∀ s s' S, l2_fr (su_W (nt 3)) c s → sQ_O nt (k 6) (k 2) S s r s' → dpQ nt s' r) : ∃ s s' T0 T1 s4, l2_fr (su_W (nt 3)) c s ∧ sQ (pc_W P) nt a (k 3) (k 4) (k 5) (k 6) (k 7) (k 2) (k 9) s r ∧ (∃ S, sQ_O nt (k 6) (k 2) S s r s') ∧ (dpF (nt 1) T0 T1 s' ∧ ∀ r2, l2_fr ck_W r r2 → rdH (nt 1) (dpV s' T0 T1) r2) ∧ l2_fr (fun b j => lf_W b j ∨ (364 ≤ b ∧ b < 424 ∧ j = 6)) s' s4 ∧ ls_R (s4.1 846 7) (s4.1 846 8) (fun a b => A_S nt s r (k 2) (k 6) a b ∨ G_S nt r (dpV s' T0 T1) a b) ∧ f_X6_finishReading c = k_X6_finishReading_40 s4 := by
  have J := h.1.1
  have N := h.1.2.1
  have n60 : nt 0 ≤ 60 := (N.1 0 (by decide)).1
  have n61 : nt 1 ≤ 60 := (N.1 1 (by decide)).1
  have f1 : l2_fr (fun b j => b = 1 ∧ j = 1) c (t_setI c 1 1 0) := l2_fr.set ⟨rfl, rfl⟩
  have L0 := ls_of_lt ((h.2.2.2.2.2.2.1.2.2.1 (fun _ => False) (Or.inl ⟨z7, fun _ => id⟩)))
  have G : t_hk (f_X3_settleNames (t_setI c 1 1 0)) (fun s' => ∃ s, l2_fr (su_W (nt 3)) c s ∧ sQ (pc_W P) nt a (k 3) (k 4) (k 5) (k 6) (k 7) (k 2) (k 9) s r ∧ sQ_O nt (k 6) (k 2) (fun a b => a = 4 ∧ ∃ k', ∃ p, k' < k 2 ∧ lt_M r k' p ∧ b = nI p) s r s') := by
    refine su_all h hM f1 (fun s fs ko => ?_)
    have Q := sQ_of h hM z fs ko
    refine l2_imp (Q.loop (S := fun a b => a = 4 ∧ ∃ k', ∃ p, k' < k 2 ∧ lt_M r k' p ∧ b = nI p) ?_) (fun s' hs => ⟨s, fs, Q, hs⟩)
    rw [(fs 846 7 (by unfold su_W; omega)).1, (fs 846 8 (by unfold su_W; omega)).1]
    exact L0
  obtain ⟨s', e1, s, fs, Q, O⟩ := G
  obtain ⟨T0, T1, d1, d2, d3⟩ := hd s s' _ fs O
  have T := tyF_of h Q fs O
  have c5 : ∀ b j, ¬ su_W (nt 3) b j → ¬ sn_W b j → s'.1 b j = c.1 b j := fun b j y1 y2 => ((O.1 b j y2).1).trans (fs b j y1).1
  have e13 : s'.1 316 13 = nI (nt 0) := (c5 316 13 (by unfold su_W; omega) (by unfold sn_W lf_W; omega)).trans (N.1 0 (by decide)).2.1
  have e11 : s'.1 353 11 = nI (nt 1) := (c5 353 11 (by unfold su_W; omega) (by unfold sn_W lf_W; omega)).trans (N.1 1 (by decide)).2.1
  have e15 : s'.1 845 15 = 0 := (c5 845 15 (by unfold su_W; omega) (by unfold sn_W lf_W; omega)).trans h.1.2.2.2.1.2.2.2.2.2.1
  obtain ⟨s4, e4, f4, L4⟩ := cs_all n60 n61 e13 e11 T d1 d3 O.2.2.1
  refine ⟨s, s', T0, T1, s4, fs, Q, ⟨_, O⟩, ⟨d1, d2⟩, f4, L4.iff (fun a b => ⟨fun y => ?_, fun y => ?_⟩), ?_⟩
  · rcases y with ((y | y) | y) | y
    · exact Or.inl (Or.inl y)
    · exact Or.inl (Or.inr y)
    · exact Or.inr (Or.inl y)
    · exact Or.inr (Or.inr y)
  · rcases y with (y | y) | y | y
    · exact Or.inl (Or.inl (Or.inl y))
    · exact Or.inl (Or.inl (Or.inr y))
    · exact Or.inl (Or.inr y)
    · exact Or.inr y
  · have q : (t_setI c 1 1 0).1 1 11 = 0 := ((f1 1 11 (by omega)).1).trans J.f0.1
    unfold f_X6_finishReading
    show (if (t_setI c 1 1 0).1 1 11 = 0 then _ else _) = _
    rw [if_pos q, e1, l2_bs, if_pos e15, e4, l2_bs]
end
