/-- an array class of what isn't an object, out of the tables' word -/
theorem st_prim {args : Array Value} {s : State} {ty : FieldType} (h : (Cond.arrayClass ty).before args s = true) : ∃ cA, ArrOfT s cA ty ∧ s.vm.findClass ("[" ++ ty.toString) = some cA := by
  obtain ⟨cA, kA, comp, h1, h2, h3⟩ := Cond.arrayClass_spec h
  exact ⟨cA, fun n z => ⟨(fun k h => by cases h), kA, h2, comp, h3⟩, h1⟩
theorem st_obj {args : Array Value} {s : State} {C : String} (h : (Cond.arrayOver (.object C)).before args s = true) : ∃ cA, ArrOfT s cA (.object C) ∧ va_RA s cA (.object C) := by
  obtain ⟨comp, cA, kA, f4, -, f2, f3, f1⟩ := Cond.arrayOver_spec h
  exact ⟨cA, fun n z => ⟨(fun k h => by cases h), kA, f2, comp, f3⟩, kA, comp, f2, f3, f4, f1⟩
theorem st_arr {args : Array Value} {s : State} {t : FieldType} (h : (Cond.arrayOver (.array t)).before args s = true) : ∃ cA, ArrOfT s cA (.array t) ∧ va_RA s cA (.array t) := by
  obtain ⟨comp, cA, kA, f4, -, f2, f3, f1⟩ := arrayOverA_spec h
  exact ⟨cA, fun n z => ⟨(fun k h => by cases h), kA, f2, comp, f3⟩, f1⟩
/-- the classes' numbers and slots, the array classes -/
theorem st_K {args : Array Value} {s : State} (hts : ∀ w ∈ mj_TG, w.before args s = true) (hP : (Cond.arrayOver (.object "MatchHouse$Part")).before args s = true) (hI : (Cond.arrayOver (.array .int)).before args s = true) : ∃ (D : va_G) (cy : Nat → ClassId), va_K D vwCl (mj_tys cy) s := by
  obtain ⟨c0, i0, k0⟩ := u_known (C := RX0) (T := TX0) (N := 21) (n := 21) hts mj_layX0 (hts _ IN_X0)
  obtain ⟨c1, i1, k1⟩ := u_known (C := RX1) (T := TX1) (N := 16) (n := 16) hts mj_layX1 (hts _ IN_X1)
  obtain ⟨c2, i2, k2⟩ := u_known (C := RX2) (T := TX2) (N := 20) (n := 20) hts mj_layX2 (hts _ IN_X2)
  obtain ⟨c3, i3, k3⟩ := u_known (C := RX3) (T := TX3) (N := 9) (n := 9) hts mj_layX3 (hts _ IN_X3)
  obtain ⟨c4, i4, k4⟩ := u_known (C := RX4) (T := TX4) (N := 17) (n := 17) hts mj_layX4 (hts _ IN_X4)
  obtain ⟨c5, i5, k5⟩ := u_known (C := RX5) (T := TX5) (N := 19) (n := 19) hts mj_layX5 (hts _ IN_X5)
  obtain ⟨c6, i6, k6⟩ := u_known (C := RX6) (T := TX6) (N := 17) (n := 17) hts mj_layX6 (hts _ IN_X6)
  obtain ⟨c7, i7, k7⟩ := u_known (C := RX7) (T := TX7) (N := 12) (n := 12) hts mj_layX7 (hts _ IN_X7)
  obtain ⟨c8, i8, k8⟩ := u_known (C := RX8) (T := TX8) (N := 6) (n := 6) hts mj_layX8 (hts _ IN_X8)
  obtain ⟨c9, i9, k9⟩ := u_known (C := RX9) (T := TX9) (N := 4) (n := 4) hts mj_layX9 (hts _ IN_X9)
  obtain ⟨c10, i10, k10⟩ := u_known (C := RX10) (T := TX10) (N := 22) (n := 22) hts mj_layX10 (hts _ IN_X10)
  obtain ⟨c11, i11, k11⟩ := u_known (C := RX11) (T := TX11) (N := 21) (n := 21) hts mj_layX11 (hts _ IN_X11)
  obtain ⟨c12, i12, k12⟩ := u_known (C := RX12) (T := TX12) (N := 13) (n := 13) hts mj_layX12 (hts _ IN_X12)
  obtain ⟨c13, i13, k13⟩ := u_known (C := RX13) (T := TX13) (N := 190) (n := 190) hts mj_layX13 (hts _ IN_X13)
  obtain ⟨a0, x0, y0⟩ := st_prim (hts _ AC_byte)
  obtain ⟨a1, x1, y1⟩ := st_prim (hts _ AC_int)
  obtain ⟨a2, x2, y2⟩ := st_prim (hts _ AC_long)
  obtain ⟨a3, x3, y3⟩ := st_prim (hts _ AC_boolean)
  obtain ⟨a4, x4, y4⟩ := st_obj hP
  obtain ⟨a5, x5, y5⟩ := st_arr hI
  refine ⟨(fun k => [c0, c1, c2, c3, c4, c5, c6, c7, c8, c9, c10, c11, c12, c13].getD k 0, fun k => [i0, i1, i2, i3, i4, i5, i6, i7, i8, i9, i10, i11, i12, i13].getD k (fun _ => 0)), fun k => [a0, a1, a2, a3, a4, a5].getD k 0, fun k q hq => ?_, fun k q hq => ?_⟩
  · match k, hq with
    | 0, hq => cases hq; exact k0
    | 1, hq => cases hq; exact k1
    | 2, hq => cases hq; exact k2
    | 3, hq => cases hq; exact k3
    | 4, hq => cases hq; exact k4
    | 5, hq => cases hq; exact k5
    | 6, hq => cases hq; exact k6
    | 7, hq => cases hq; exact k7
    | 8, hq => cases hq; exact k8
    | 9, hq => cases hq; exact k9
    | 10, hq => cases hq; exact k10
    | 11, hq => cases hq; exact k11
    | 12, hq => cases hq; exact k12
    | 13, hq => cases hq; exact k13
    | k + 14, hq => exact absurd hq (by simp)
  · match k, hq with
    | 0, hq => cases hq; exact ⟨x0, y0⟩
    | 1, hq => cases hq; exact ⟨x1, y1⟩
    | 2, hq => cases hq; exact ⟨x2, y2⟩
    | 3, hq => cases hq; exact ⟨x3, y3⟩
    | 4, hq => cases hq; exact ⟨x4, y4⟩
    | 5, hq => cases hq; exact ⟨x5, y5⟩
    | k + 6, hq => exact absurd hq (by simp [mj_tys])
/-- what lies outside: the script, the text constants, the statics -/
def st_X (ad : Nat → Nat) (bs L : Nat) (xs : Nat → Int32) (U : State) (H : Heap) : Prop := va_X (ad 1000300) L xs U H ∧ mj_Sx ad bs U H
theorem st_Ev {ad : Nat → Nat} {bs L : Nat} {xs : Nat → Int32} (ha : ∀ i, i < 1000000 → ad i = bs + i) (hb : ad 1000300 < bs) : mj_Ev ad bs (st_X ad bs L xs) := by
  refine ⟨ha, fun u U H hW hX => ?_, fun U H H1 hq hX => ?_, fun U H hX => hX.2⟩
  · obtain ⟨hx, h1, h2, h3, h4, h5, h6⟩ := hX
    refine ⟨hx.moved hW.alike, h1.moved hW.alike, fun t ht => (h2 t ht).warm hW, h3.moved hW.alike, ?_, over_moved hW.alike h5, h6.moved hW.alike⟩
    rcases h4 with h4 | h4
    · exact Or.inl (h4.moved hW.alike)
    · exact Or.inr (h4.moved hW.alike)
  · obtain ⟨hx, h1, h2, h3, h4, h5, h6⟩ := hX
    have hk : ∀ a : Nat, a < H.size → ¬ (fun q : Nat => bs ≤ q) a → H1[a]? = H[a]? := fun a _ ha => hq a (Nat.lt_of_not_le ha)
    refine ⟨hx.kept (hq _ hb), h1.kept hk, h2, h3.kept hk, ?_, h5, h6⟩
    rcases h4 with h4 | h4
    · exact Or.inl (h4.kept hk)
    · exact Or.inr (h4.kept hk)
theorem st_wI : Cond.arrayOver (.array .int) ∈ lw_tbl := List.mem_of_getElem? (i := 584) (by decide +kernel)
theorem st_wP : Cond.arrayOver (.object "MatchHouse$Part") ∈ lw_tbl := List.mem_of_getElem? (i := 1256) (by decide +kernel)
