/-! Level 2: the reference gives each of some its own: f_X13_assign. -/
section
variable {r s : t_S} {p E σ : Nat} {ti : Nat → Nat} {NS : Nat → Prop} {n g v m P cnt frm l5 : Nat} {G Qe : Nat → Nat}
/-- whether the x-th on the left can have the y-th on the right -/
def aB (r : t_S) (p E : Nat) (G Qe : Nat → Nat) (frm l5 x y : Nat) : Prop := Mn r p E (G (if l5 = 0 then x else y)) (some (Qe (frm + (if l5 = 0 then y else x))))
/-- what is known of the elements and of the templs -/
structure AC (r : t_S) (p E σ : Nat) (ti : Nat → Nat) (NS : Nat → Prop) (n g v m P : Nat) (G Qe : Nat → Nat) : Prop where
  ch : ch_R r n v G
  vb : v ≤ 12 ∧ m ≤ 16
  rq : ∀ j, j < v → RQ r p E σ ti NS g (G j)
  el : ∀ e, e < m → (∀ s : t_S, s.2.1 1006 = r.2.1 1006 → f_X13_partOf (nI P) (nI e) s = some (nI (Qe e))) ∧ ∃ num, PQ r p E (some (Qe e)) (nI (Qe e)) num
theorem as_nth (A : AC r p E σ ti NS n g v m P G Qe) {x : Nat} (hx : x < v) {l1 l2 l3 l5' l7 l8 l17 l18 l20 l21 l23 : Int32} {l9 l11 l13 l15 : Int64} (fr : l2_fr rmW r s) (h17 : l17 = nI x) : ∀ (d j N : Nat), j + d = x → d < N → t_loop (b_X13_assign_149 (R_X13_assign g)) N (l1, l2, l3, l5', l7, l8, l9, l11, l13, l15, l17, l18, l20, l21, nxG v G j, l23, nI j, s) = k_X13_assign_171 (R_X13_assign g) l1 l2 l3 l5' l7 l8 l9 l11 l13 l15 l17 l18 l20 l21 (nI (G x)) l23 s := by
  intro d
  induction d with
  | zero =>
    intro j N hj hN
    obtain ⟨N, rfl⟩ : ∃ y, N = y + 1 := ⟨N - 1, by omega⟩
    obtain rfl : j = x := by omega
    refine l2_lpM ?_
    show k_X13_assign_149 _ _ _ _ _ _ _ _ _ _ _ _ _ _ _ _ _ _ _ = _
    unfold k_X13_assign_149
    have := A.vb
    rw [h17, if_pos (nI_le (Nat.le_refl _) (by omega)), nx_in hx]
  | succ d ih =>
    intro j N hj hN
    obtain ⟨N, rfl⟩ : ∃ y, N = y + 1 := ⟨N - 1, by omega⟩
    have := A.vb
    obtain ⟨g1, _, _, _⟩ := A.ch.2 j (by omega)
    have e60 : s.1 960 (G j) = nxG v G (j + 1) := ((rm_fr fr (by omega)).1).trans (ch_nx A.ch (by omega))
    rw [← ih (j + 1) N (by omega) (by omega)]
    refine l2_lpS ?_
    show k_X13_assign_149 _ _ _ _ _ _ _ _ _ _ _ _ _ _ _ _ _ _ _ = _
    unfold k_X13_assign_149
    rw [h17, if_neg (nI_ge (show j < x by omega) (by omega)), nx_in (by omega), if_pos (l2_ix g1 (by decide)), nI_clamp (n := G j) (by omega), e60, nI_1]
/-- one cell -/
theorem as_cell (A : AC r p E σ ti NS n g v m P G Qe) {x y L R : Nat} (h5 : l5 = 0 ∨ l5 = 1) (hL : (l5 = 0 ∧ L = v ∧ frm + R ≤ m) ∨ (l5 = 1 ∧ R = v ∧ frm + L ≤ m)) (hx : x < L) (hy : y < R) (hR : R ≤ 16) {row l20 : Int32} (h20 : l5 = 1 → l20 = nxG v G y) (hb : BS row 16 (fun e => e < y ∧ aB r p E G Qe frm l5 x e)) {l9 l11 l13 l15 : Int64} (fr : l2_fr rmW r s) (hm : MemR r p E σ ti NS s) : ∃ s' row' l20', b_X13_assign_97 (R_X13_assign g) (nxG v G 0, nI P, nI frm, nI l5, nI L, nI R, l9, l11, l13, l15, nI x, row, l20, nI y, s) = some (.inl (nxG v G 0, nI P, nI frm, nI l5, nI L, nI R, l9, l11, l13, l15, nI x, row', l20', nI (y + 1), s')) ∧ (l5 = 1 → l20' = nxG v G (y + 1)) ∧ BS row' 16 (fun e => e < y + 1 ∧ aB r p E G Qe frm l5 x e) ∧ l2_fr rmW r s' ∧ MemR r p E σ ti NS s' := by
  have vb := A.vb
  obtain ⟨tj, htj⟩ : ∃ tj, tj = if l5 = 0 then x else y := ⟨_, rfl⟩
  obtain ⟨ei, hei⟩ : ∃ ei, ei = frm + (if l5 = 0 then y else x) := ⟨_, rfl⟩
  have tv : tj < v := by rcases hL with ⟨e, _, _⟩ | ⟨e, _, _⟩ <;> simp [htj, e] <;> omega
  have em : ei < m := by rcases hL with ⟨e, _, _⟩ | ⟨e, _, _⟩ <;> simp [hei, e] <;> omega
  obtain ⟨pe, num, pq⟩ := A.el ei em
  have e6 : s.2.1 1006 = r.2.1 1006 := by funext z; exact (rm_fr fr (by omega)).2
  obtain ⟨s', h1, h2, h3⟩ := A.rq tj tv s (some (Qe ei)) _ _ pq fr hm
  have aBe : aB r p E G Qe frm l5 x y ↔ Mn r p E (G tj) (some (Qe ei)) := by unfold aB; rw [htj, hei]
  have hb' : BS (row ||| (if bZ (Mn r p E (G tj) (some (Qe ei))) = 0 then 0 else (1 : Int32) <<< (nI y &&& 31))) 16 (fun e => e < y + 1 ∧ aB r p E G Qe frm l5 x e) := by
    by_cases c : Mn r p E (G tj) (some (Qe ei))
    · rw [bZ_t c, if_neg (by decide)]
      refine (hb.or (BS.bit (e := y) (n := 16) (by omega) (by omega))).iff (fun e => ⟨fun z => ?_, fun z => ?_⟩)
      · rcases z with z | z
        · exact ⟨by omega, z.2⟩
        · rw [z]; exact ⟨by omega, aBe.mpr c⟩
      · by_cases ce : e = y
        · exact Or.inr ce
        · exact Or.inl ⟨by omega, z.2⟩
    · rw [bZ_f c, if_pos rfl]
      refine (hb.or BS.zero).iff (fun e => ⟨fun z => ?_, fun z => ?_⟩)
      · rcases z with z | z
        · exact ⟨by omega, z.2⟩
        · exact z.elim
      · by_cases ce : e = y
        · rw [ce] at z
          exact absurd (aBe.mp z.2) c
        · exact Or.inl ⟨by omega, z.2⟩
  have nR : ¬ nI R ≤ nI y := nI_ge hy (by omega)
  have K : ∀ l20' : Int32, k_X13_assign_171 (R_X13_assign g) (nxG v G 0) (nI P) (nI frm) (nI l5) (nI L) (nI R) l9 l11 l13 l15 (nI x) row l20' (nI y) (nI (G tj)) (nI (Qe ei)) s = k_X13_assign_192 (R_X13_assign g) (nxG v G 0) (nI P) (nI frm) (nI l5) (nI L) (nI R) l9 l11 l13 l15 (nI x) l20' (nI y) (if bZ (Mn r p E (G tj) (some (Qe ei))) = 0 then 0 else (1 : Int32) <<< (nI y &&& 31)) row s' := fun l20' => by
    unfold k_X13_assign_171
    rw [h1, l2_bs]
    by_cases c : bZ (Mn r p E (G tj) (some (Qe ei))) = 0
    · rw [if_pos c, if_pos c]
    · rw [if_neg c, if_neg c]
  rcases h5 with e5 | e5
  · -- the templ is the x-th
    obtain rfl : tj = x := by rw [htj, if_pos e5]
    obtain rfl : ei = frm + y := by rw [hei, if_pos e5]
    refine ⟨s', _, l20, ?_, fun z => by omega, hb', h2, h3⟩
    show k_X13_assign_97 _ _ _ _ _ _ _ _ _ _ _ _ _ _ _ _ = _
    unfold k_X13_assign_97 k_X13_assign_115 k_X13_assign_132
    rw [if_neg nR, e5, if_pos (show nI 0 = (0 : Int32) from rfl), if_pos (show nI 0 = (0 : Int32) from rfl), nI_add, pe s e6, l2_bs, if_pos (show nI 0 = (0 : Int32) from rfl)]
    have nth := as_nth A tv (l1 := nxG v G 0) (l2 := nI P) (l3 := nI frm) (l5' := nI 0) (l7 := nI L) (l8 := nI R) (l17 := nI tj) (l18 := row) (l20 := l20) (l21 := nI y) (l23 := nI (Qe (frm + y))) (l9 := l9) (l11 := l11) (l13 := l13) (l15 := l15) fr rfl tj 0 t_N (by omega) (by have := l2_N; omega)
    have K' := K l20
    rw [e5] at K'
    rw [show (0 : Int32) = nI 0 from rfl, nth, K']
    unfold k_X13_assign_192 k_X13_assign_212
    rw [if_pos (show nI 0 = (0 : Int32) from rfl), nI_1]
    rfl
  · -- the templ is the y-th
    obtain rfl : tj = y := by rw [htj, if_neg (by omega)]
    obtain rfl : ei = frm + x := by rw [hei, if_neg (by omega)]
    obtain ⟨g1, _, _, _⟩ := A.ch.2 tj tv
    have e60 : s'.1 960 (G tj) = nxG v G (tj + 1) := ((rm_fr h2 (by omega)).1).trans (ch_nx A.ch tv)
    refine ⟨s', _, nxG v G (tj + 1), ?_, fun _ => rfl, hb', h2, h3⟩
    show k_X13_assign_97 _ _ _ _ _ _ _ _ _ _ _ _ _ _ _ _ = _
    unfold k_X13_assign_97 k_X13_assign_115 k_X13_assign_132
    rw [if_neg nR, e5, if_neg (show ¬ nI 1 = (0 : Int32) by decide), if_neg (show ¬ nI 1 = (0 : Int32) by decide), nI_add, pe s e6, l2_bs, if_neg (show ¬ nI 1 = (0 : Int32) by decide), h20 e5, nx_in tv]
    have K' := K (nI (G tj))
    rw [e5] at K'
    rw [K']
    unfold k_X13_assign_192 k_X13_assign_212
    rw [if_neg (show ¬ nI 1 = (0 : Int32) by decide), if_pos (l2_ix g1 (by decide)), nI_clamp (n := G tj) (by omega), e60, nI_1]
end
