/-! Math.min, max, abs of longs. -/
theorem MJ_min_s : Cond.static Lib.MathLoose.min_long.x ∈ mj_TG := mj_in5 178 rfl rfl
theorem MJ_min_c : Cond.code Lib.MathLoose.min_long.x Lib.MathLoose.min_long.code 4 (some .long) ∈ mj_TG := mj_in5 179 rfl rfl
theorem MJ_min_X6_353 : Cond.methodLink RX6 353 Lib.MathLoose.min_long.x ∈ mj_TG := mj_in5 177 rfl rfl
theorem MJ_min_X8_46 : Cond.methodLink RX8 46 Lib.MathLoose.min_long.x ∈ mj_TG := mj_in8 169 rfl rfl
theorem MJ_max_s : Cond.static Lib.MathLoose.max_long.x ∈ mj_TG := mj_in5 181 rfl rfl
theorem MJ_max_c : Cond.code Lib.MathLoose.max_long.x Lib.MathLoose.max_long.code 4 (some .long) ∈ mj_TG := mj_in5 182 rfl rfl
theorem MJ_max_X6_359 : Cond.methodLink RX6 359 Lib.MathLoose.max_long.x ∈ mj_TG := mj_in5 180 rfl rfl
theorem MJ_max_X8_52 : Cond.methodLink RX8 52 Lib.MathLoose.max_long.x ∈ mj_TG := mj_in8 170 rfl rfl
theorem MJ_max_X11_211 : Cond.methodLink RX11 211 Lib.MathLoose.max_long.x ∈ mj_TG := mj_in9 49 rfl rfl
theorem MJ_max_X12_354 : Cond.methodLink RX12 354 Lib.MathLoose.max_long.x ∈ mj_TG := mj_in11 134 rfl rfl
theorem MJ_abs_s : Cond.static Lib.MathLoose.abs_long.x ∈ mj_TG := mj_in7 222 rfl rfl
theorem MJ_abs_c : Cond.code Lib.MathLoose.abs_long.x Lib.MathLoose.abs_long.code 2 (some .long) ∈ mj_TG := mj_in7 223 rfl rfl
theorem MJ_abs_X0_212 : Cond.methodLink RX0 212 Lib.MathLoose.abs_long.x ∈ mj_TG := mj_in7 221 rfl rfl
theorem MJ_abs_X1_120 : Cond.methodLink RX1 120 Lib.MathLoose.abs_long.x ∈ mj_TG := mj_in9 102 rfl rfl
section MJL
variable {D : va_G} {cy : Nat → ClassId} {ad : Nat → Nat} {bs : Nat} {X : State → Heap → Prop} {cc : ByteArray} {nL : Nat} {own : String} {rt : Option FieldType} {nm : String} {d mc ms nE : Nat} {post : Option Value → mj_H → Prop} {pc : Nat} {lv : List (Nat × Value)} {st : List Value} {h : mj_H} {n cells slots : Nat}
theorem mj_lmin {idx : Nat} {x y : Int64} (hd : decode cc pc = .ok (.invokestatic idx, 3)) (hlk : Cond.methodLink own idx Lib.MathLoose.min_long.x ∈ mj_TG) (hd1 : 1 ≤ d) (hst : (st.map fun v => v.category).sum ≤ 8) (hc : cells ≤ mc) (hs : slots ≤ ms) (kk : mj_G D cy ad bs X cc nL own rt nm d mc ms nE post (pc + 3) (lv) (.long (if y < x then y else x) :: st) (h) (n) (cells) (slots)) : mj_G D cy ad bs X cc nL own rt nm d mc ms nE post (pc) (lv) (.long y :: .long x :: st) (h) (n) (cells) (slots) := by
  intro p l e R s m args below meth c H locs ls Q E C hW hS hl hX hret
  have hRf := C.2.2.2.2.2.2.2.2.1
  refine va_mmin_long C.1 C.2.1 (C.2.2.1.trans hl.1.symm) C.2.2.2.2.2.1 (C.2.2.2.2.1 _ hlk) (C.2.2.2.2.1 _ MJ_min_s) (C.2.2.2.2.1 _ MM_i) (C.2.2.2.2.1 _ MJ_min_c) (by omega) ?_ (by omega) (by omega) hd (kk p l e R s m args below meth c H locs ls Q E C hW hS hl hX hret)
  rw [mj_cats]
  omega
theorem mj_lmax {idx : Nat} {x y : Int64} (hd : decode cc pc = .ok (.invokestatic idx, 3)) (hlk : Cond.methodLink own idx Lib.MathLoose.max_long.x ∈ mj_TG) (hd1 : 1 ≤ d) (hst : (st.map fun v => v.category).sum ≤ 8) (hc : cells ≤ mc) (hs : slots ≤ ms) (kk : mj_G D cy ad bs X cc nL own rt nm d mc ms nE post (pc + 3) (lv) (.long (if y < x then x else y) :: st) (h) (n) (cells) (slots)) : mj_G D cy ad bs X cc nL own rt nm d mc ms nE post (pc) (lv) (.long y :: .long x :: st) (h) (n) (cells) (slots) := by
  intro p l e R s m args below meth c H locs ls Q E C hW hS hl hX hret
  have hRf := C.2.2.2.2.2.2.2.2.1
  refine va_mmax_long C.1 C.2.1 (C.2.2.1.trans hl.1.symm) C.2.2.2.2.2.1 (C.2.2.2.2.1 _ hlk) (C.2.2.2.2.1 _ MJ_max_s) (C.2.2.2.2.1 _ MM_i) (C.2.2.2.2.1 _ MJ_max_c) (by omega) ?_ (by omega) (by omega) hd (kk p l e R s m args below meth c H locs ls Q E C hW hS hl hX hret)
  rw [mj_cats]
  omega
theorem mj_labs {idx : Nat} {x : Int64} (hd : decode cc pc = .ok (.invokestatic idx, 3)) (hlk : Cond.methodLink own idx Lib.MathLoose.abs_long.x ∈ mj_TG) (hd1 : 1 ≤ d) (hst : (st.map fun v => v.category).sum ≤ 8) (hc : cells ≤ mc) (hs : slots ≤ ms) (kk : mj_G D cy ad bs X cc nL own rt nm d mc ms nE post (pc + 3) (lv) (.long (if 0 < x then x else -x) :: st) (h) (n) (cells) (slots)) : mj_G D cy ad bs X cc nL own rt nm d mc ms nE post (pc) (lv) (.long x :: st) (h) (n) (cells) (slots) := by
  intro p l e R s m args below meth c H locs ls Q E C hW hS hl hX hret
  have hRf := C.2.2.2.2.2.2.2.2.1
  refine va_mabs_long C.1 C.2.1 (C.2.2.1.trans hl.1.symm) C.2.2.2.2.2.1 (C.2.2.2.2.1 _ hlk) (C.2.2.2.2.1 _ MJ_abs_s) (C.2.2.2.2.1 _ MM_i) (C.2.2.2.2.1 _ MJ_abs_c) (by omega) ?_ (by omega) (by omega) hd (kk p l e R s m args below meth c H locs ls Q E C hW hS hl hX hret)
  rw [mj_cats]
  omega
end MJL
