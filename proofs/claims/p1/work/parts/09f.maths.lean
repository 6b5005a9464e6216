theorem MM_i : Cond.initialized "java/lang/Math" ∈ mj_TG := mj_in1 7 (by decide +kernel) rfl
theorem MM_min_s : Cond.static Lib.Math.min.name ∈ mj_TG := mj_in1 94 rfl rfl
theorem MM_min_c : Cond.code Lib.Math.min.name Lib.Math.min.code 2 (some .int) ∈ mj_TG := mj_in1 95 rfl rfl
theorem MM_min_X12_367 : Cond.methodLink RX12 367 Lib.Math.min.name ∈ mj_TG := mj_in11 147 rfl rfl
theorem MM_min_X2_144 : Cond.methodLink RX2 144 Lib.Math.min.name ∈ mj_TG := mj_in1 93 rfl rfl
theorem MM_min_X10_81 : Cond.methodLink RX10 81 Lib.Math.min.name ∈ mj_TG := mj_in7 86 rfl rfl
theorem MM_min_X11_95 : Cond.methodLink RX11 95 Lib.Math.min.name ∈ mj_TG := mj_in7 100 rfl rfl
theorem MM_min_J1_38 : Cond.methodLink RJ1 38 Lib.Math.min.name ∈ mj_TG := mj_in14 141 rfl rfl
theorem MM_min_J2_183 : Cond.methodLink RJ2 183 Lib.Math.min.name ∈ mj_TG := mj_in14 149 rfl rfl
theorem MM_max_s : Cond.static Lib.Math.max.name ∈ mj_TG := mj_in6 77 rfl rfl
theorem MM_max_c : Cond.code Lib.Math.max.name Lib.Math.max.code 2 (some .int) ∈ mj_TG := mj_in6 78 rfl rfl
theorem MM_max_X0_91 : Cond.methodLink RX0 91 Lib.Math.max.name ∈ mj_TG := mj_in8 1 rfl rfl
theorem MM_max_X4_78 : Cond.methodLink RX4 78 Lib.Math.max.name ∈ mj_TG := mj_in10 110 rfl rfl
theorem MM_max_X6_459 : Cond.methodLink RX6 459 Lib.Math.max.name ∈ mj_TG := mj_in6 76 rfl rfl
theorem MM_max_X7_170 : Cond.methodLink RX7 170 Lib.Math.max.name ∈ mj_TG := mj_in11 116 rfl rfl
theorem MM_max_X10_87 : Cond.methodLink RX10 87 Lib.Math.max.name ∈ mj_TG := mj_in7 87 rfl rfl
theorem MM_max_J1_92 : Cond.methodLink RJ1 92 Lib.Math.max.name ∈ mj_TG := mj_in14 140 rfl rfl
theorem MM_max_J2_224 : Cond.methodLink RJ2 224 Lib.Math.max.name ∈ mj_TG := mj_in14 148 rfl rfl
section MJ8
variable {D : va_G} {cy : Nat → ClassId} {ad : Nat → Nat} {bs : Nat} {X : State → Heap → Prop} {cc : ByteArray} {nL : Nat} {own : String} {rt : Option FieldType} {nm : String} {d mc ms nE : Nat} {post : Option Value → mj_H → Prop} {pc : Nat} {lv : List (Nat × Value)} {st : List Value} {h : mj_H} {n cells slots : Nat}
theorem mj_imin {idx : Nat} {x y : Int32} (hd : decode cc pc = .ok (.invokestatic idx, 3)) (hlk : Cond.methodLink own idx Lib.Math.min.name ∈ mj_TG) (hd1 : 1 ≤ d) (hst : (st.map fun v => v.category).sum ≤ 8) (hc : cells ≤ mc) (hs : slots ≤ ms) (kk : mj_G D cy ad bs X cc nL own rt nm d mc ms nE post (pc + 3) (lv) (.int (if y < x then y else x) :: st) (h) (n) (cells) (slots)) : mj_G D cy ad bs X cc nL own rt nm d mc ms nE post (pc) (lv) (.int y :: .int x :: st) (h) (n) (cells) (slots) := by
  intro p l e R s m args below meth c H locs ls Q E C hW hS hl hX hret
  have hRf := C.2.2.2.2.2.2.2.2.1
  refine va_mmin C.1 C.2.1 (C.2.2.1.trans hl.1.symm) C.2.2.2.2.2.1 (C.2.2.2.2.1 _ hlk) (C.2.2.2.2.1 _ MM_min_s) (C.2.2.2.2.1 _ MM_i) (C.2.2.2.2.1 _ MM_min_c) (by omega) ?_ (by omega) (by omega) hd (kk p l e R s m args below meth c H locs ls Q E C hW hS hl hX hret)
  rw [mj_cats]
  omega
theorem mj_imax {idx : Nat} {x y : Int32} (hd : decode cc pc = .ok (.invokestatic idx, 3)) (hlk : Cond.methodLink own idx Lib.Math.max.name ∈ mj_TG) (hd1 : 1 ≤ d) (hst : (st.map fun v => v.category).sum ≤ 8) (hc : cells ≤ mc) (hs : slots ≤ ms) (kk : mj_G D cy ad bs X cc nL own rt nm d mc ms nE post (pc + 3) (lv) (.int (if x < y then y else x) :: st) (h) (n) (cells) (slots)) : mj_G D cy ad bs X cc nL own rt nm d mc ms nE post (pc) (lv) (.int y :: .int x :: st) (h) (n) (cells) (slots) := by
  intro p l e R s m args below meth c H locs ls Q E C hW hS hl hX hret
  have hRf := C.2.2.2.2.2.2.2.2.1
  refine va_mmax C.1 C.2.1 (C.2.2.1.trans hl.1.symm) C.2.2.2.2.2.1 (C.2.2.2.2.1 _ hlk) (C.2.2.2.2.1 _ MM_max_s) (C.2.2.2.2.1 _ MM_i) (C.2.2.2.2.1 _ MM_max_c) (by omega) ?_ (by omega) (by omega) hd (kk p l e R s m args below meth c H locs ls Q E C hW hS hl hX hret)
  rw [mj_cats]
  omega
end MJ8
