/-- the statement's words of the start, one by one -/
def st_F : List Cond := flatC (Jvm.Cond.and given_1 narrow_1)
def st_tl : List (String × Nat) := [("MatchHouse$Lexer", 45), ("MatchHouse$Codes", 65), ("MatchHouse$Codes", 67), ("MatchHouse$Codes", 84), ("MatchHouse$Codes", 89), ("MatchHouseModel", 441), ("MatchHouseModel", 431)]
def st_tm (i : Nat) : Term := .string (st_tl.getD i ("", 0)).1 (st_tl.getD i ("", 0)).2
def st_p0 : List Nat := [9, 393, 402, 413, 424, 434, 823]
def st_ws (i : Nat) : List Cond := [.exactly (st_tm i) "java/lang/String", .eq (.field (st_tm i) "java/lang/String" "coder" "B") (.int 0), .arrayOf (.field (st_tm i) "java/lang/String" "value" "[B") .byte, .eq (.length (.field (st_tm i) "java/lang/String" "value" "[B")) (.int (Int32.ofNat (mj_len.getD i 0)))] ++ (List.range (mj_len.getD i 0)).map (fun j => .eq (.elem (.field (st_tm i) "java/lang/String" "value" "[B") (.int (Int32.ofNat j))) (.int ((mj_byt.getD i []).getD j 0)))
set_option maxRecDepth 20000 in
theorem st_seg : ∀ i, i < 7 → (st_F.drop (st_p0.getD i 0)).take (4 + mj_len.getD i 0) = st_ws i := by decide +kernel
theorem st_in {i : Nat} (hi : i < 7) {w : Cond} (hw : w ∈ st_ws i) : w ∈ st_F := by
  rw [← st_seg i hi] at hw
  exact List.mem_of_mem_drop (List.mem_of_mem_take hw)
theorem st_len : ∀ i, i < 7 → mj_len.getD i 0 < 2 ^ 31 := by decide
set_option maxRecDepth 20000 in
theorem st_ne : ∀ i, i < 7 → ∀ j, j < 7 → i ≠ j → (Cond.not (Cond.eq (st_tm i) (st_tm j))) ∈ st_F ∨ (Cond.not (Cond.eq (st_tm j) (st_tm i))) ∈ st_F := by decide +kernel
set_option maxRecDepth 20000 in
theorem st_eq : ∀ t ∈ mj_lit, t.2.2.2 < 7 ∧ ((t.1, t.2.1) = st_tl.getD t.2.2.2 ("", 0) ∨ (Cond.eq (st_tm t.2.2.2) (.string t.1 t.2.1)) ∈ st_F) := by decide +kernel
set_option maxRecDepth 20000 in
theorem st_sr : ∀ t ∈ mj_lit, (Cond.stringRef t.1 t.2.1 t.2.2.1) ∈ lw_tbl := by decide +kernel
theorem st_start {s : State} {b L : Nat} {xs : Nat → Int32} (hts : ∀ w ∈ lw_tbl, w.before #[Value.ref b] s = true) (hx : va_X b L xs s s.heap) (hgv : (Jvm.Cond.and given_1 narrow_1).before #[Value.ref b] s = true) : ∃ ad : Nat → Nat, (∀ i, i < 1000000 → ad i = s.heap.size + i) ∧ ad 1000300 = b ∧ st_X ad s.heap.size L xs s s.heap := by
  have hF : ∀ c ∈ st_F, c.before #[Value.ref b] s = true := flat_of_before _ hgv
  have hA : ∀ a : Nat, a < s.heap.size → ¬ (fun q : Nat => s.heap.size ≤ q) a := fun a h => Nat.not_le.mpr h
  obtain ⟨adK, adV, hS, hev⟩ := vk_Sof (N := 7) (tm := st_tm) (len := mj_len) (byt := mj_byt) (A := fun q : Nat => s.heap.size ≤ q) st_len (fun i hi => hF _ (st_in hi (List.mem_append_left _ List.mem_cons_self))) (fun i hi => hF _ (st_in hi (List.mem_append_left _ (List.mem_cons_of_mem _ List.mem_cons_self)))) (fun i hi => hF _ (st_in hi (List.mem_append_left _ (List.mem_cons_of_mem _ (List.mem_cons_of_mem _ List.mem_cons_self))))) (fun i hi => hF _ (st_in hi (List.mem_append_left _ (List.mem_cons_of_mem _ (List.mem_cons_of_mem _ (List.mem_cons_of_mem _ List.mem_cons_self)))))) (fun i hi j hj => hF _ (st_in hi (List.mem_append_right _ (List.mem_map.mpr ⟨j, List.mem_range.mpr hj, rfl⟩)))) (fun i j hi hj hij => (st_ne i hi j hj hij).imp (hF _) (hF _)) hA
  have hc := va_Zof (A := fun q : Nat => s.heap.size ≤ q) (C := "java/lang/String") (n := "COMPACT_STRINGS") (d := "Z") (v := .int 1) (hts _ (List.mem_of_getElem? (i := 441) (by decide +kernel))) (hts _ (List.mem_of_getElem? (i := 394) (by decide +kernel))) (va_eqi (hF _ (List.mem_of_getElem? (i := 4) (by decide +kernel)))) hA
  have hq := va_Zqof (A := fun q : Nat => s.heap.size ≤ q) (C := "jdk/internal/util/Preconditions") (n := "SIOOBE_FORMATTER") (d := "Ljava/util/function/BiFunction;") (hts _ (List.mem_of_getElem? (i := 457) (by decide +kernel))) (hts _ (List.mem_of_getElem? (i := 396) (by decide +kernel))) (hF _ (List.mem_of_getElem? (i := 5) (by decide +kernel))) hA
  obtain ⟨tq, htq⟩ : ∃ t : Nat, va_Z "jdk/internal/util/Preconditions" "SIOOBE_FORMATTER" "Ljava/util/function/BiFunction;" .null (fun q : Nat => s.heap.size ≤ q) s s.heap ∨ va_Z "jdk/internal/util/Preconditions" "SIOOBE_FORMATTER" "Ljava/util/function/BiFunction;" (.ref t) (fun q : Nat => s.heap.size ≤ q) s s.heap := by
    rcases hq with h | ⟨t, h⟩
    · exact ⟨0, Or.inl h⟩
    · exact ⟨t, Or.inr h⟩
  obtain ⟨ad, e1, eK, eV, eq, eb⟩ : ∃ ad : Nat → Nat, (∀ i, i < 1000000 → ad i = s.heap.size + i) ∧ (∀ i, i < 7 → ad (1000000 + i) = adK i) ∧ (∀ i, i < 7 → ad (1000100 + i) = adV i) ∧ ad 1000200 = tq ∧ ad 1000300 = b :=
    ⟨fun i => if i < 1000000 then s.heap.size + i else if i < 1000100 then adK (i - 1000000) else if i < 1000200 then adV (i - 1000100) else if i = 1000200 then tq else b, fun i hi => if_pos hi,
      fun i hi => (if_neg (by omega)).trans ((if_pos (by omega)).trans (congrArg adK (by omega))),
      fun i hi => (if_neg (by omega)).trans ((if_neg (by omega)).trans ((if_pos (by omega)).trans (congrArg adV (by omega)))),
      (if_neg (by omega)).trans ((if_neg (by omega)).trans ((if_neg (by omega)).trans (if_pos rfl))),
      (if_neg (by omega)).trans ((if_neg (by omega)).trans ((if_neg (by omega)).trans (if_neg (by omega))))⟩
  refine ⟨ad, e1, eb, by rw [eb]; exact hx, ⟨fun i hi => ?_, fun i j hi hj e => ?_⟩, fun t ht => ?_, hc, by rw [eq]; exact htq, over_moved (Vm.Alike.refl _) (hts _ st_wI), va_AO.of (hts _ st_wP)⟩
  · have h := hS.1 i hi
    simp only [eK i hi, eV i hi]
    exact h
  · simp only [eK i hi, eK j hj] at e
    exact hS.2 i j hi hj e
  · obtain ⟨ht7, h⟩ := st_eq t ht
    refine vk_R.of (hts _ (st_sr t ht)) ?_
    rw [eK _ ht7]
    rcases h with h | h
    · have e : st_tm t.2.2.2 = .string t.1 t.2.1 := by unfold st_tm; rw [← h]
      rw [← e]; exact hev _ ht7
    · exact va_eqR (hF _ h) (hev _ ht7)
