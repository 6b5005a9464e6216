
/-! A small logic over a pure memory: entries by number (the k-th cell that the run made), values as the machine's, references by these numbers. -/
abbrev mj_H : Type := Nat → va_E
def mj_TG : List Cond := lw_tbl.filter goodWord
theorem mj_in {w : Cond} (i : Nat) (h : lw_tbl[i]? = some w) (g : goodWord w = true) : w ∈ mj_TG := List.mem_filter.mpr ⟨List.mem_of_getElem? h, g⟩
def mj_tv (ad : Nat → Nat) (v : Value) : Value := match v with
  | .ref a => .ref (ad a)
  | .int x => .int x
  | .long x => .long x
  | .float x => .float x
  | .double x => .double x
  | .null => .null
  | .retAddr x => .retAddr x
theorem mj_tv_cat (ad : Nat → Nat) (v : Value) : (mj_tv ad v).category = v.category := by cases v <;> rfl
def mj_ar (ad : Nat → Nat) (a : vp_A) : vp_A := match a with
  | (n, .inl f) => (n, .inl f)
  | (n, .inr (.inl f)) => (n, .inr (.inl f))
  | (n, .inr (.inr (.inl f))) => (n, .inr (.inr (.inl f)))
  | (n, .inr (.inr (.inr (.inl f)))) => (n, .inr (.inr (.inr (.inl f))))
  | (n, .inr (.inr (.inr (.inr f)))) => (n, .inr (.inr (.inr (.inr (fun j => (f j).map ad)))))
def mj_en (cy : Nat → ClassId) (ad : Nat → Nat) (e : va_E) : va_E := match e with
  | .inl (t, a) => .inl (cy t, mj_ar ad a)
  | .inr (ci, fs) => .inr (ci, fs.map (mj_tv ad))
def mj_ws (cy : Nat → ClassId) (ad : Nat → Nat) (h : mj_H) (n : Nat) : va_W := (List.range n).map (fun k => (ad k, mj_en cy ad (h k)))
def mj_tys (cy : Nat → ClassId) : List (ClassId × FieldType) := [(cy 0, .byte), (cy 1, .int), (cy 2, .long), (cy 3, .boolean), (cy 4, .object "MatchHouse$Part"), (cy 5, .array .int)]
def mj_lit : List (String × Nat × String × Nat) := [("MatchHouse$Lexer", 45, "type template component function altstep case on port timer var int bool text enum record choice list of optional length ifpresent true false omit not both pattern subset superset perm size me now verdict met ended active if else while return call into set pass inconc fail log send alt begin halt create start as connect at with stop usual unusual step receive from timeout done ", 0), ("MatchHouse$Codes", 65, "true", 1), ("MatchHouse$Codes", 67, "false", 2), ("MatchHouse$Codes", 84, "omit", 3), ("MatchHouse$Codes", 89, ":=", 4), ("MatchHouseModel", 441, "type template component function altstep case on port timer var int bool text enum record choice list of optional length ifpresent true false omit not both pattern subset superset perm size me now verdict met ended active if else while return call into set pass inconc fail log send alt begin halt create as start connect at with stop usual unusual receive from timeout done step ", 5), ("MatchHouseModel", 431, "(){}[],;:.?*+-/%=<>&!@", 6), ("MatchHouseModel", 1018, "true", 1), ("MatchHouseModel", 1020, "false", 2), ("MatchHouseModel", 1029, "omit", 3), ("MatchHouseModel", 1034, ":=", 4)]
def mj_len : List Nat := [380, 4, 5, 4, 2, 380, 22]
def mj_byt : List (List Int32) := [[116, 121, 112, 101, 32, 116, 101, 109, 112, 108, 97, 116, 101, 32, 99, 111, 109, 112, 111, 110, 101, 110, 116, 32, 102, 117, 110, 99, 116, 105, 111, 110, 32, 97, 108, 116, 115, 116, 101, 112, 32, 99, 97, 115, 101, 32, 111, 110, 32, 112, 111, 114, 116, 32, 116, 105, 109, 101, 114, 32, 118, 97, 114, 32, 105, 110, 116, 32, 98, 111, 111, 108, 32, 116, 101, 120, 116, 32, 101, 110, 117, 109, 32, 114, 101, 99, 111, 114, 100, 32, 99, 104, 111, 105, 99, 101, 32, 108, 105, 115, 116, 32, 111, 102, 32, 111, 112, 116, 105, 111, 110, 97, 108, 32, 108, 101, 110, 103, 116, 104, 32, 105, 102, 112, 114, 101, 115, 101, 110, 116, 32, 116, 114, 117, 101, 32, 102, 97, 108, 115, 101, 32, 111, 109, 105, 116, 32, 110, 111, 116, 32, 98, 111, 116, 104, 32, 112, 97, 116, 116, 101, 114, 110, 32, 115, 117, 98, 115, 101, 116, 32, 115, 117, 112, 101, 114, 115, 101, 116, 32, 112, 101, 114, 109, 32, 115, 105, 122, 101, 32, 109, 101, 32, 110, 111, 119, 32, 118, 101, 114, 100, 105, 99, 116, 32, 109, 101, 116, 32, 101, 110, 100, 101, 100, 32, 97, 99, 116, 105, 118, 101, 32, 105, 102, 32, 101, 108, 115, 101, 32, 119, 104, 105, 108, 101, 32, 114, 101, 116, 117, 114, 110, 32, 99, 97, 108, 108, 32, 105, 110, 116, 111, 32, 115, 101, 116, 32, 112, 97, 115, 115, 32, 105, 110, 99, 111, 110, 99, 32, 102, 97, 105, 108, 32, 108, 111, 103, 32, 115, 101, 110, 100, 32, 97, 108, 116, 32, 98, 101, 103, 105, 110, 32, 104, 97, 108, 116, 32, 99, 114, 101, 97, 116, 101, 32, 115, 116, 97, 114, 116, 32, 97, 115, 32, 99, 111, 110, 110, 101, 99, 116, 32, 97, 116, 32, 119, 105, 116, 104, 32, 115, 116, 111, 112, 32, 117, 115, 117, 97, 108, 32, 117, 110, 117, 115, 117, 97, 108, 32, 115, 116, 101, 112, 32, 114, 101, 99, 101, 105, 118, 101, 32, 102, 114, 111, 109, 32, 116, 105, 109, 101, 111, 117, 116, 32, 100, 111, 110, 101, 32], [116, 114, 117, 101], [102, 97, 108, 115, 101], [111, 109, 105, 116], [58, 61], [116, 121, 112, 101, 32, 116, 101, 109, 112, 108, 97, 116, 101, 32, 99, 111, 109, 112, 111, 110, 101, 110, 116, 32, 102, 117, 110, 99, 116, 105, 111, 110, 32, 97, 108, 116, 115, 116, 101, 112, 32, 99, 97, 115, 101, 32, 111, 110, 32, 112, 111, 114, 116, 32, 116, 105, 109, 101, 114, 32, 118, 97, 114, 32, 105, 110, 116, 32, 98, 111, 111, 108, 32, 116, 101, 120, 116, 32, 101, 110, 117, 109, 32, 114, 101, 99, 111, 114, 100, 32, 99, 104, 111, 105, 99, 101, 32, 108, 105, 115, 116, 32, 111, 102, 32, 111, 112, 116, 105, 111, 110, 97, 108, 32, 108, 101, 110, 103, 116, 104, 32, 105, 102, 112, 114, 101, 115, 101, 110, 116, 32, 116, 114, 117, 101, 32, 102, 97, 108, 115, 101, 32, 111, 109, 105, 116, 32, 110, 111, 116, 32, 98, 111, 116, 104, 32, 112, 97, 116, 116, 101, 114, 110, 32, 115, 117, 98, 115, 101, 116, 32, 115, 117, 112, 101, 114, 115, 101, 116, 32, 112, 101, 114, 109, 32, 115, 105, 122, 101, 32, 109, 101, 32, 110, 111, 119, 32, 118, 101, 114, 100, 105, 99, 116, 32, 109, 101, 116, 32, 101, 110, 100, 101, 100, 32, 97, 99, 116, 105, 118, 101, 32, 105, 102, 32, 101, 108, 115, 101, 32, 119, 104, 105, 108, 101, 32, 114, 101, 116, 117, 114, 110, 32, 99, 97, 108, 108, 32, 105, 110, 116, 111, 32, 115, 101, 116, 32, 112, 97, 115, 115, 32, 105, 110, 99, 111, 110, 99, 32, 102, 97, 105, 108, 32, 108, 111, 103, 32, 115, 101, 110, 100, 32, 97, 108, 116, 32, 98, 101, 103, 105, 110, 32, 104, 97, 108, 116, 32, 99, 114, 101, 97, 116, 101, 32, 97, 115, 32, 115, 116, 97, 114, 116, 32, 99, 111, 110, 110, 101, 99, 116, 32, 97, 116, 32, 119, 105, 116, 104, 32, 115, 116, 111, 112, 32, 117, 115, 117, 97, 108, 32, 117, 110, 117, 115, 117, 97, 108, 32, 114, 101, 99, 101, 105, 118, 101, 32, 102, 114, 111, 109, 32, 116, 105, 109, 101, 111, 117, 116, 32, 100, 111, 110, 101, 32, 115, 116, 101, 112, 32], [40, 41, 123, 125, 91, 93, 44, 59, 58, 46, 63, 42, 43, 45, 47, 37, 61, 60, 62, 38, 33, 64]]
/-- what lies outside of the pure memory: the text constants (their numbers begin at 1000000, their bytes' at 1000100), two statics of the JDK's -/
def mj_Sx (ad : Nat → Nat) (bs : Nat) (U : State) (H : Heap) : Prop := vk_S 7 mj_len mj_byt (fun i => ad (1000000 + i)) (fun i => ad (1000100 + i)) (fun q => bs ≤ q) U H ∧ (∀ t ∈ mj_lit, vk_R t.1 t.2.1 t.2.2.1 (ad (1000000 + t.2.2.2)) U) ∧ va_Z "java/lang/String" "COMPACT_STRINGS" "Z" (.int 1) (fun q => bs ≤ q) U H ∧ (va_Z "jdk/internal/util/Preconditions" "SIOOBE_FORMATTER" "Ljava/util/function/BiFunction;" .null (fun q => bs ≤ q) U H ∨ va_Z "jdk/internal/util/Preconditions" "SIOOBE_FORMATTER" "Ljava/util/function/BiFunction;" (.ref (ad 1000200)) (fun q => bs ≤ q) U H) ∧ (Cond.arrayOver (.array .int)).before #[] U = true ∧ va_AO "MatchHouse$Part" U
def mj_Ev (ad : Nat → Nat) (bs : Nat) (X : State → Heap → Prop) : Prop := (∀ i, i < 1000000 → ad i = bs + i) ∧ (∀ u U H, u.WarmedH U.vm → X u H → X U H) ∧ (∀ U H H1, (∀ q, q < bs → H1[q]? = H[q]?) → X U H → X U H1) ∧ (∀ U H, X U H → mj_Sx ad bs U H)
def mj_WH (D : va_G) (cy : Nat → ClassId) (ad : Nat → Nat) (bs : Nat) (h : mj_H) (n : Nat) (H : Heap) : Prop := H.size = bs + n ∧ n ≤ 1000000 ∧ va_P D vwCl (mj_ws cy ad h n) H
theorem mj_up_eq {α : Type} (f : Nat → α) (k : Nat) (v : α) : va_up f k v k = v := by simp [va_up]
theorem mj_up_ne {α : Type} (f : Nat → α) {k j : Nat} (v : α) (hj : j ≠ k) : va_up f k v j = f j := by simp [va_up, hj]
theorem mj_ws_get {cy : Nat → ClassId} {ad : Nat → Nat} {h : mj_H} {n k : Nat} (hk : k < n) : (mj_ws cy ad h n)[k]? = some (ad k, mj_en cy ad (h k)) := by
  unfold mj_ws
  rw [List.getElem?_map, List.getElem?_range hk]
  rfl
theorem mj_ws_len {cy : Nat → ClassId} {ad : Nat → Nat} {h : mj_H} {n : Nat} : (mj_ws cy ad h n).length = n := by simp [mj_ws]
theorem mj_ws_set {cy : Nat → ClassId} {ad : Nat → Nat} {h : mj_H} {n k : Nat} (e : va_E) : (mj_ws cy ad h n).set k (ad k, mj_en cy ad e) = mj_ws cy ad (va_up h k e) n := by
  apply List.ext_getElem?
  intro i
  by_cases hi : i < n
  · rw [mj_ws_get hi]
    by_cases hk : i = k
    · subst hk
      rw [List.getElem?_set_self (by rw [mj_ws_len]; exact hi), mj_up_eq]
    · rw [List.getElem?_set_ne (fun q => hk q.symm), mj_ws_get hi, mj_up_ne _ _ hk]
  · rw [List.getElem?_eq_none (by rw [List.length_set, mj_ws_len]; omega), List.getElem?_eq_none (by rw [mj_ws_len]; omega)]
theorem mj_ws_push {cy : Nat → ClassId} {ad : Nat → Nat} {h : mj_H} {n : Nat} (e : va_E) : mj_ws cy ad (va_up h n e) (n + 1) = mj_ws cy ad h n ++ [(ad n, mj_en cy ad e)] := by
  unfold mj_ws
  rw [List.range_succ, List.map_append]
  congr 1
  · apply List.map_congr_left
    intro a ha
    have := List.mem_range.mp ha
    rw [mj_up_ne _ _ (by omega)]
  · simp [mj_up_eq]
theorem mj_D {cy : Nat → ClassId} {ad : Nat → Nat} {bs : Nat} {h : mj_H} {n : Nat} (ha : ∀ i, i < 1000000 → ad i = bs + i) (hn : n ≤ 1000000) : va_D (fun q => bs ≤ q) (mj_ws cy ad h n) := by
  have key : ∀ (i : Nat) (p : Nat × va_E), (mj_ws cy ad h n)[i]? = some p → i < n ∧ p.1 = bs + i := by
    intro i p hp
    have hi : i < n := by
      have := (List.getElem?_eq_some_iff.mp hp).1
      rwa [mj_ws_len] at this
    rw [mj_ws_get hi] at hp
    cases hp
    exact ⟨hi, ha i (by omega)⟩
  refine ⟨fun i j p q hp hq hpq => ?_, fun k q hq => ?_⟩
  · have h1 := key i p hp
    have h2 := key j q hq
    omega
  · have h1 := key k q hq
    show bs ≤ q.1
    omega
def mj_Cx (D : va_G) (cy : Nat → ClassId) (bs : Nat) (cc : ByteArray) (nL : Nat) (own : String) (rt : Option FieldType) (nm : String) (d mc ms : Nat) (p : Program) (R : Room) (s : State) (m : MethodId) (args : Array Value) (meth : Method) (c : Code) : Prop :=
  p.tables.exec = Jvm.exec ∧ c.code = cc ∧ c.maxLocals = nL ∧ meth.sig.returnType = rt ∧ (∀ w ∈ mj_TG, w.before args s = true) ∧ s.vm.findClass own = some m.cls ∧ meth.locks = false ∧ meth.name = nm ∧ (d ≤ R.frames ∧ 44 * d ≤ R.locals ∧ mc ≤ R.cells ∧ ms ≤ R.slots) ∧ va_K D vwCl (mj_tys cy) s ∧ bs ≤ s.heap.size
/-- what an answer fits -/
def mj_fit (ty : FieldType) (v : Value) : Bool := match ty, v with
  | .int, .int _ => true
  | .boolean, .int x => x == 0 || x == 1
  | .long, .long _ => true
  | .char, .int x => (x.toUInt32 % 65536).toInt32 == x
  | .byte, .int x => x == 0
  | .object _, .ref _ => true
  | .object _, .null => true
  | .array _, .ref _ => true
  | .array _, .null => true
  | _, _ => false
def mj_rk (cc : ByteArray) (rt : Option FieldType) (pc : Nat) (v : Option Value) : Prop := match v with
  | none => decode cc pc = .ok (.return_, 1) ∧ rt = none
  | some (.int x) => decode cc pc = .ok (.ireturn, 1) ∧ ∃ ty, rt = some ty ∧ mj_fit ty (.int x) = true
  | some (.long x) => decode cc pc = .ok (.lreturn, 1) ∧ rt = some .long
  | some (.ref a) => decode cc pc = .ok (.areturn, 1) ∧ ∃ ty, rt = some ty ∧ ty.isReference = true
  | some .null => decode cc pc = .ok (.areturn, 1) ∧ ∃ ty, rt = some ty ∧ ty.isReference = true
  | _ => False
def mj_G (D : va_G) (cy : Nat → ClassId) (ad : Nat → Nat) (bs : Nat) (X : State → Heap → Prop) (cc : ByteArray) (nL : Nat) (own : String) (rt : Option FieldType) (nm : String) (d mc ms nE : Nat) (post : Option Value → mj_H → Prop) (pc : Nat) (lv : List (Nat × Value)) (st : List Value) (h : mj_H) (n cells slots : Nat) : Prop :=
  ∀ (p : Program) (l : Launch) (e : Env) (R : Room) (s : State) (m : MethodId) (args : Array Value) (below : List Frame) (meth : Method) (c : Code) (H : Heap) (locs : List Loc) (ls : Array Slot) (Q : State → Prop),
    mj_Ev ad bs X → mj_Cx D cy bs cc nL own rt nm d mc ms p R s m args meth c → mj_WH D cy ad bs h n H → va_S (fun q => bs ≤ q) s.heap H locs → lv_has ls nL (lv.map (fun q => (q.1, mj_tv ad q.2))) → X s H →
    (∀ (v : Option Value) (h' : mj_H) (H' : Heap) (locs' : List Loc) (ls' : Array Slot) (pc' : Nat), post v h' → mj_WH D cy ad bs h' nE H' → va_S (fun q => bs ≤ q) s.heap H' locs' → X s H' → mj_rk cc rt pc' v → W p l e R s m args below meth c H' locs' mc ms Q (F0 m pc' ls' ((v.map (mj_tv ad)).toList))) →
    W p l e R s m args below meth c H locs cells slots Q (F0 m pc ls (st.map (mj_tv ad)))
theorem mj_keep {ad : Nat → Nat} {bs : Nat} {X : State → Heap → Prop} {s : State} {H H1 : Heap} {locs locs1 : List Loc} {n : Nat} (E : mj_Ev ad bs X) (hW : H.size = bs + n) (hS : va_S (fun q => bs ≤ q) s.heap H locs) (hS1 : va_S (fun q => bs ≤ q) s.heap H1 locs1) (hb : bs ≤ s.heap.size) (hX : X s H) : X s H1 :=
  E.2.2.1 s H H1 (fun q hq => (hS1.2.1 q (by omega) (by show ¬ bs ≤ q; omega)).trans (hS.2.1 q (by omega) (by show ¬ bs ≤ q; omega)).symm) hX
theorem mj_sub {ls : Array Slot} {nL : Nat} {ad : Nat → Nat} {lv : List (Nat × Value)} (hl : lv_has ls nL (lv.map (fun q => (q.1, mj_tv ad q.2)))) {k i : Nat} {v : Value} (hk : lv[k]? = some (i, v)) : ls[i]? = some (.val (mj_tv ad v)) :=
  lv_at hl k (by rw [List.getElem?_map, hk]; rfl)
theorem mj_flt1 {ad : Nat → Nat} (i : Nat) : ∀ lv : List (Nat × Value), (lv.map (fun q => (q.1, mj_tv ad q.2))).filter (fun q => !(q.1 == i) && !(q.1 + 1 == i && q.2.category == 2)) = (lv.filter (fun q => !(q.1 == i) && !(q.1 + 1 == i && q.2.category == 2))).map (fun q => (q.1, mj_tv ad q.2)) := by
  intro lv
  rw [List.filter_map]
  congr 1
  apply List.filter_congr
  intro q _
  simp [mj_tv_cat]
theorem mj_flt2 {ad : Nat → Nat} (i : Nat) : ∀ lv : List (Nat × Value), (lv.map (fun q => (q.1, mj_tv ad q.2))).filter (fun q => !(q.1 == i) && (!(q.1 == i + 1) && !(q.1 + 1 == i && q.2.category == 2))) = (lv.filter (fun q => !(q.1 == i) && (!(q.1 == i + 1) && !(q.1 + 1 == i && q.2.category == 2)))).map (fun q => (q.1, mj_tv ad q.2)) := by
  intro lv
  rw [List.filter_map]
  congr 1
  apply List.filter_congr
  intro q _
  simp [mj_tv_cat]
section MJ
variable {D : va_G} {cy : Nat → ClassId} {ad : Nat → Nat} {bs : Nat} {X : State → Heap → Prop} {cc : ByteArray} {nL : Nat} {own : String} {rt : Option FieldType} {nm : String} {d mc ms nE : Nat} {post : Option Value → mj_H → Prop} {pc : Nat} {lv : List (Nat × Value)} {st : List Value} {h : mj_H} {n cells slots : Nat}
theorem mj_iadd {x y : Int32} (hd : decode cc pc = .ok (.iadd, 1))  (kk : mj_G D cy ad bs X cc nL own rt nm d mc ms nE post (pc + 1) (lv) (.int (x + y) :: st) h n cells slots) : mj_G D cy ad bs X cc nL own rt nm d mc ms nE post (pc) (lv) (.int y :: .int x :: st) h n cells slots := by
  intro p l e R s m args below meth c H locs ls Q E C hW hS hl hX hret
  exact lv_iadd C.1 C.2.1 hd  (kk p l e R s m args below meth c H locs ls Q E C hW hS hl hX hret)
theorem mj_isub {x y : Int32} (hd : decode cc pc = .ok (.isub, 1))  (kk : mj_G D cy ad bs X cc nL own rt nm d mc ms nE post (pc + 1) (lv) (.int (x - y) :: st) h n cells slots) : mj_G D cy ad bs X cc nL own rt nm d mc ms nE post (pc) (lv) (.int y :: .int x :: st) h n cells slots := by
  intro p l e R s m args below meth c H locs ls Q E C hW hS hl hX hret
  exact lv_isub C.1 C.2.1 hd  (kk p l e R s m args below meth c H locs ls Q E C hW hS hl hX hret)
theorem mj_imul {x y : Int32} (hd : decode cc pc = .ok (.imul, 1))  (kk : mj_G D cy ad bs X cc nL own rt nm d mc ms nE post (pc + 1) (lv) (.int (x * y) :: st) h n cells slots) : mj_G D cy ad bs X cc nL own rt nm d mc ms nE post (pc) (lv) (.int y :: .int x :: st) h n cells slots := by
  intro p l e R s m args below meth c H locs ls Q E C hW hS hl hX hret
  exact lv_imul C.1 C.2.1 hd  (kk p l e R s m args below meth c H locs ls Q E C hW hS hl hX hret)
theorem mj_iand {x y : Int32} (hd : decode cc pc = .ok (.iand, 1))  (kk : mj_G D cy ad bs X cc nL own rt nm d mc ms nE post (pc + 1) (lv) (.int (x &&& y) :: st) h n cells slots) : mj_G D cy ad bs X cc nL own rt nm d mc ms nE post (pc) (lv) (.int y :: .int x :: st) h n cells slots := by
  intro p l e R s m args below meth c H locs ls Q E C hW hS hl hX hret
  exact lv_iand C.1 C.2.1 hd  (kk p l e R s m args below meth c H locs ls Q E C hW hS hl hX hret)
theorem mj_ior {x y : Int32} (hd : decode cc pc = .ok (.ior, 1))  (kk : mj_G D cy ad bs X cc nL own rt nm d mc ms nE post (pc + 1) (lv) (.int (x ||| y) :: st) h n cells slots) : mj_G D cy ad bs X cc nL own rt nm d mc ms nE post (pc) (lv) (.int y :: .int x :: st) h n cells slots := by
  intro p l e R s m args below meth c H locs ls Q E C hW hS hl hX hret
  exact lv_ior C.1 C.2.1 hd  (kk p l e R s m args below meth c H locs ls Q E C hW hS hl hX hret)
theorem mj_ixor {x y : Int32} (hd : decode cc pc = .ok (.ixor, 1))  (kk : mj_G D cy ad bs X cc nL own rt nm d mc ms nE post (pc + 1) (lv) (.int (x ^^^ y) :: st) h n cells slots) : mj_G D cy ad bs X cc nL own rt nm d mc ms nE post (pc) (lv) (.int y :: .int x :: st) h n cells slots := by
  intro p l e R s m args below meth c H locs ls Q E C hW hS hl hX hret
  exact lv_ixor C.1 C.2.1 hd  (kk p l e R s m args below meth c H locs ls Q E C hW hS hl hX hret)
theorem mj_idiv {x y : Int32} (hd : decode cc pc = .ok (.idiv, 1)) (hne : ¬ y = 0) (kk : mj_G D cy ad bs X cc nL own rt nm d mc ms nE post (pc + 1) (lv) (.int (x / y) :: st) h n cells slots) : mj_G D cy ad bs X cc nL own rt nm d mc ms nE post (pc) (lv) (.int y :: .int x :: st) h n cells slots := by
  intro p l e R s m args below meth c H locs ls Q E C hW hS hl hX hret
  exact lv_idiv C.1 C.2.1 hd hne (kk p l e R s m args below meth c H locs ls Q E C hW hS hl hX hret)
theorem mj_ladd {x y : Int64} (hd : decode cc pc = .ok (.ladd, 1))  (kk : mj_G D cy ad bs X cc nL own rt nm d mc ms nE post (pc + 1) (lv) (.long (x + y) :: st) h n cells slots) : mj_G D cy ad bs X cc nL own rt nm d mc ms nE post (pc) (lv) (.long y :: .long x :: st) h n cells slots := by
  intro p l e R s m args below meth c H locs ls Q E C hW hS hl hX hret
  exact lv_ladd C.1 C.2.1 hd  (kk p l e R s m args below meth c H locs ls Q E C hW hS hl hX hret)
theorem mj_lsub {x y : Int64} (hd : decode cc pc = .ok (.lsub, 1))  (kk : mj_G D cy ad bs X cc nL own rt nm d mc ms nE post (pc + 1) (lv) (.long (x - y) :: st) h n cells slots) : mj_G D cy ad bs X cc nL own rt nm d mc ms nE post (pc) (lv) (.long y :: .long x :: st) h n cells slots := by
  intro p l e R s m args below meth c H locs ls Q E C hW hS hl hX hret
  exact lv_lsub C.1 C.2.1 hd  (kk p l e R s m args below meth c H locs ls Q E C hW hS hl hX hret)
theorem mj_lmul {x y : Int64} (hd : decode cc pc = .ok (.lmul, 1))  (kk : mj_G D cy ad bs X cc nL own rt nm d mc ms nE post (pc + 1) (lv) (.long (x * y) :: st) h n cells slots) : mj_G D cy ad bs X cc nL own rt nm d mc ms nE post (pc) (lv) (.long y :: .long x :: st) h n cells slots := by
  intro p l e R s m args below meth c H locs ls Q E C hW hS hl hX hret
  exact lv_lmul C.1 C.2.1 hd  (kk p l e R s m args below meth c H locs ls Q E C hW hS hl hX hret)
theorem mj_land {x y : Int64} (hd : decode cc pc = .ok (.land, 1))  (kk : mj_G D cy ad bs X cc nL own rt nm d mc ms nE post (pc + 1) (lv) (.long (x &&& y) :: st) h n cells slots) : mj_G D cy ad bs X cc nL own rt nm d mc ms nE post (pc) (lv) (.long y :: .long x :: st) h n cells slots := by
  intro p l e R s m args below meth c H locs ls Q E C hW hS hl hX hret
  exact lv_land C.1 C.2.1 hd  (kk p l e R s m args below meth c H locs ls Q E C hW hS hl hX hret)
theorem mj_lor {x y : Int64} (hd : decode cc pc = .ok (.lor, 1))  (kk : mj_G D cy ad bs X cc nL own rt nm d mc ms nE post (pc + 1) (lv) (.long (x ||| y) :: st) h n cells slots) : mj_G D cy ad bs X cc nL own rt nm d mc ms nE post (pc) (lv) (.long y :: .long x :: st) h n cells slots := by
  intro p l e R s m args below meth c H locs ls Q E C hW hS hl hX hret
  exact lv_lor C.1 C.2.1 hd  (kk p l e R s m args below meth c H locs ls Q E C hW hS hl hX hret)
theorem mj_lxor {x y : Int64} (hd : decode cc pc = .ok (.lxor, 1))  (kk : mj_G D cy ad bs X cc nL own rt nm d mc ms nE post (pc + 1) (lv) (.long (x ^^^ y) :: st) h n cells slots) : mj_G D cy ad bs X cc nL own rt nm d mc ms nE post (pc) (lv) (.long y :: .long x :: st) h n cells slots := by
  intro p l e R s m args below meth c H locs ls Q E C hW hS hl hX hret
  exact lv_lxor C.1 C.2.1 hd  (kk p l e R s m args below meth c H locs ls Q E C hW hS hl hX hret)
theorem mj_ldiv {x y : Int64} (hd : decode cc pc = .ok (.ldiv, 1)) (hne : ¬ y = 0) (kk : mj_G D cy ad bs X cc nL own rt nm d mc ms nE post (pc + 1) (lv) (.long (x / y) :: st) h n cells slots) : mj_G D cy ad bs X cc nL own rt nm d mc ms nE post (pc) (lv) (.long y :: .long x :: st) h n cells slots := by
  intro p l e R s m args below meth c H locs ls Q E C hW hS hl hX hret
  exact lv_ldiv C.1 C.2.1 hd hne (kk p l e R s m args below meth c H locs ls Q E C hW hS hl hX hret)
theorem mj_lshl {x v : Int64} {y : Int32} (hd : decode cc pc = .ok (.lshl, 1)) (hv : x <<< (y.toInt64 &&& 63) = v) (kk : mj_G D cy ad bs X cc nL own rt nm d mc ms nE post (pc + 1) (lv) (.long v :: st) h n cells slots) : mj_G D cy ad bs X cc nL own rt nm d mc ms nE post (pc) (lv) (.int y :: .long x :: st) h n cells slots := by
  intro p l e R s m args below meth c H locs ls Q E C hW hS hl hX hret
  exact lv_lshl C.1 C.2.1 hd hv (kk p l e R s m args below meth c H locs ls Q E C hW hS hl hX hret)
theorem mj_lushr {x v : Int64} {y : Int32} (hd : decode cc pc = .ok (.lushr, 1)) (hv : (x.toUInt64 >>> (y.toInt64.toUInt64 &&& Int64.toUInt64 63)).toInt64 = v) (kk : mj_G D cy ad bs X cc nL own rt nm d mc ms nE post (pc + 1) (lv) (.long v :: st) h n cells slots) : mj_G D cy ad bs X cc nL own rt nm d mc ms nE post (pc) (lv) (.int y :: .long x :: st) h n cells slots := by
  intro p l e R s m args below meth c H locs ls Q E C hW hS hl hX hret
  exact lv_lushr C.1 C.2.1 hd hv (kk p l e R s m args below meth c H locs ls Q E C hW hS hl hX hret)
theorem mj_iushr {x y v : Int32} (hd : decode cc pc = .ok (.iushr, 1)) (hv : (x.toUInt32 >>> (y.toUInt32 &&& Int32.toUInt32 31)).toInt32 = v) (kk : mj_G D cy ad bs X cc nL own rt nm d mc ms nE post (pc + 1) (lv) (.int v :: st) h n cells slots) : mj_G D cy ad bs X cc nL own rt nm d mc ms nE post (pc) (lv) (.int y :: .int x :: st) h n cells slots := by
  intro p l e R s m args below meth c H locs ls Q E C hW hS hl hX hret
  exact lv_iushr C.1 C.2.1 hd hv (kk p l e R s m args below meth c H locs ls Q E C hW hS hl hX hret)
theorem mj_i2l {x : Int32} {v : Int64} (hd : decode cc pc = .ok (.i2l, 1)) (hv : x.toInt64 = v) (kk : mj_G D cy ad bs X cc nL own rt nm d mc ms nE post (pc + 1) (lv) (.long v :: st) h n cells slots) : mj_G D cy ad bs X cc nL own rt nm d mc ms nE post (pc) (lv) (.int x :: st) h n cells slots := by
  intro p l e R s m args below meth c H locs ls Q E C hW hS hl hX hret
  exact lv_i2l C.1 C.2.1 hd hv (kk p l e R s m args below meth c H locs ls Q E C hW hS hl hX hret)
theorem mj_l2i {x : Int64} {v : Int32} (hd : decode cc pc = .ok (.l2i, 1)) (hv : x.toInt32 = v) (kk : mj_G D cy ad bs X cc nL own rt nm d mc ms nE post (pc + 1) (lv) (.int v :: st) h n cells slots) : mj_G D cy ad bs X cc nL own rt nm d mc ms nE post (pc) (lv) (.long x :: st) h n cells slots := by
  intro p l e R s m args below meth c H locs ls Q E C hW hS hl hX hret
  exact lv_l2i C.1 C.2.1 hd hv (kk p l e R s m args below meth c H locs ls Q E C hW hS hl hX hret)
theorem mj_i2b {x v : Int32} (hd : decode cc pc = .ok (.i2b, 1)) (hv : x.toInt8.toInt32 = v) (kk : mj_G D cy ad bs X cc nL own rt nm d mc ms nE post (pc + 1) (lv) (.int v :: st) h n cells slots) : mj_G D cy ad bs X cc nL own rt nm d mc ms nE post (pc) (lv) (.int x :: st) h n cells slots := by
  intro p l e R s m args below meth c H locs ls Q E C hW hS hl hX hret
  exact lv_i2b C.1 C.2.1 hd hv (kk p l e R s m args below meth c H locs ls Q E C hW hS hl hX hret)
theorem mj_iconst {i : Int} {v : Int32} (hd : decode cc pc = .ok (.iconst i, 1)) (hv : Int32.ofInt i = v) (kk : mj_G D cy ad bs X cc nL own rt nm d mc ms nE post (pc + 1) (lv) (.int v :: st) h n cells slots) : mj_G D cy ad bs X cc nL own rt nm d mc ms nE post (pc) (lv) (st) h n cells slots := by
  intro p l e R s m args below meth c H locs ls Q E C hW hS hl hX hret
  exact lv_iconst C.1 C.2.1 hd hv (kk p l e R s m args below meth c H locs ls Q E C hW hS hl hX hret)
theorem mj_bipush {i : Int} {v : Int32} (hd : decode cc pc = .ok (.bipush i, 2)) (hv : (Int8.ofInt i).toInt32 = v) (kk : mj_G D cy ad bs X cc nL own rt nm d mc ms nE post (pc + 2) (lv) (.int v :: st) h n cells slots) : mj_G D cy ad bs X cc nL own rt nm d mc ms nE post (pc) (lv) (st) h n cells slots := by
  intro p l e R s m args below meth c H locs ls Q E C hW hS hl hX hret
  exact lv_bipush C.1 C.2.1 hd hv (kk p l e R s m args below meth c H locs ls Q E C hW hS hl hX hret)
theorem mj_sipush {i : Int} {v : Int32} (hd : decode cc pc = .ok (.sipush i, 3)) (hv : (Int16.ofInt i).toInt32 = v) (kk : mj_G D cy ad bs X cc nL own rt nm d mc ms nE post (pc + 3) (lv) (.int v :: st) h n cells slots) : mj_G D cy ad bs X cc nL own rt nm d mc ms nE post (pc) (lv) (st) h n cells slots := by
  intro p l e R s m args below meth c H locs ls Q E C hW hS hl hX hret
  exact lv_sipush C.1 C.2.1 hd hv (kk p l e R s m args below meth c H locs ls Q E C hW hS hl hX hret)
theorem mj_lconst {i : Fin 2} {v : Int64} (hd : decode cc pc = .ok (.lconst i, 1)) (hv : Int64.ofNat (i : Nat) = v) (kk : mj_G D cy ad bs X cc nL own rt nm d mc ms nE post (pc + 1) (lv) (.long v :: st) h n cells slots) : mj_G D cy ad bs X cc nL own rt nm d mc ms nE post (pc) (lv) (st) h n cells slots := by
  intro p l e R s m args below meth c H locs ls Q E C hW hS hl hX hret
  exact lv_lconst C.1 C.2.1 hd hv (kk p l e R s m args below meth c H locs ls Q E C hW hS hl hX hret)
theorem mj_null  (hd : decode cc pc = .ok (.aconst_null, 1))  (kk : mj_G D cy ad bs X cc nL own rt nm d mc ms nE post (pc + 1) (lv) (.null :: st) h n cells slots) : mj_G D cy ad bs X cc nL own rt nm d mc ms nE post (pc) (lv) (st) h n cells slots := by
  intro p l e R s m args below meth c H locs ls Q E C hW hS hl hX hret
  exact lv_null C.1 C.2.1 hd  (kk p l e R s m args below meth c H locs ls Q E C hW hS hl hX hret)
theorem mj_ldc {idx : Nat} {v : Int32} (hd : decode cc pc = .ok (.ldc idx, 2)) (hc : Cond.constant own idx v ∈ mj_TG) (kk : mj_G D cy ad bs X cc nL own rt nm d mc ms nE post (pc + 2) (lv) (.int v :: st) h n cells slots) : mj_G D cy ad bs X cc nL own rt nm d mc ms nE post (pc) (lv) (st) h n cells slots := by
  intro p l e R s m args below meth c H locs ls Q E C hW hS hl hX hret
  exact (fun a b d k => lv_ldc a b C.2.2.2.2.2.1 (C.2.2.2.2.1 _ hc) d k) C.1 C.2.1 hd  (kk p l e R s m args below meth c H locs ls Q E C hW hS hl hX hret)
theorem mj_ldcw {idx : Nat} {v : Int32} (hd : decode cc pc = .ok (.ldc_w idx, 3)) (hc : Cond.constant own idx v ∈ mj_TG) (kk : mj_G D cy ad bs X cc nL own rt nm d mc ms nE post (pc + 3) (lv) (.int v :: st) h n cells slots) : mj_G D cy ad bs X cc nL own rt nm d mc ms nE post (pc) (lv) (st) h n cells slots := by
  intro p l e R s m args below meth c H locs ls Q E C hW hS hl hX hret
  exact (fun a b d k => lv_ldcw a b C.2.2.2.2.2.1 (C.2.2.2.2.1 _ hc) d k) C.1 C.2.1 hd  (kk p l e R s m args below meth c H locs ls Q E C hW hS hl hX hret)
theorem mj_ldc2 {idx : Nat} {v : Int64} (hd : decode cc pc = .ok (.ldc2_w idx, 3)) (hc : Cond.constantLong own idx v ∈ mj_TG) (kk : mj_G D cy ad bs X cc nL own rt nm d mc ms nE post (pc + 3) (lv) (.long v :: st) h n cells slots) : mj_G D cy ad bs X cc nL own rt nm d mc ms nE post (pc) (lv) (st) h n cells slots := by
  intro p l e R s m args below meth c H locs ls Q E C hW hS hl hX hret
  exact (fun a b d k => lv_ldc2 a b C.2.2.2.2.2.1 (C.2.2.2.2.1 _ hc) d k) C.1 C.2.1 hd  (kk p l e R s m args below meth c H locs ls Q E C hW hS hl hX hret)
theorem mj_dup {v : Value} (hd : decode cc pc = .ok (.dup, 1)) (hv : v.category = 1) (kk : mj_G D cy ad bs X cc nL own rt nm d mc ms nE post (pc + 1) (lv) (v :: v :: st) h n cells slots) : mj_G D cy ad bs X cc nL own rt nm d mc ms nE post (pc) (lv) (v :: st) h n cells slots := by
  intro p l e R s m args below meth c H locs ls Q E C hW hS hl hX hret
  exact lv_dup C.1 C.2.1 hd (by rw [mj_tv_cat]; exact hv) (kk p l e R s m args below meth c H locs ls Q E C hW hS hl hX hret)
theorem mj_pop {v : Value} (hd : decode cc pc = .ok (.pop, 1)) (hv : v.category = 1) (kk : mj_G D cy ad bs X cc nL own rt nm d mc ms nE post (pc + 1) (lv) (st) h n cells slots) : mj_G D cy ad bs X cc nL own rt nm d mc ms nE post (pc) (lv) (v :: st) h n cells slots := by
  intro p l e R s m args below meth c H locs ls Q E C hW hS hl hX hret
  exact lv_pop C.1 C.2.1 hd (by rw [mj_tv_cat]; exact hv) (kk p l e R s m args below meth c H locs ls Q E C hW hS hl hX hret)
theorem mj_dup2 {v w : Value} (hd : decode cc pc = .ok (.dup2, 1)) (hv : v.category = 1) (hw : w.category = 1) (kk : mj_G D cy ad bs X cc nL own rt nm d mc ms nE post (pc + 1) (lv) (v :: w :: v :: w :: st) h n cells slots) : mj_G D cy ad bs X cc nL own rt nm d mc ms nE post (pc) (lv) (v :: w :: st) h n cells slots := by
  intro p l e R s m args below meth c H locs ls Q E C hW hS hl hX hret
  exact lv_dup2_11 C.1 C.2.1 hd (by rw [mj_tv_cat]; exact hv) (by rw [mj_tv_cat]; exact hw) (kk p l e R s m args below meth c H locs ls Q E C hW hS hl hX hret)
theorem mj_iload {i : Nat} {x : Int32} (hd : decode cc pc = .ok (.iload i, 2)) (k : Nat) (hk : lv[k]? = some (i, .int x)) (kk : mj_G D cy ad bs X cc nL own rt nm d mc ms nE post (pc + 2) (lv) (.int x :: st) h n cells slots) : mj_G D cy ad bs X cc nL own rt nm d mc ms nE post (pc) (lv) (st) h n cells slots := by
  intro p l e R s m args below meth c H locs ls Q E C hW hS hl hX hret
  exact lv_iload C.1 C.2.1 hd (mj_sub hl hk) (kk p l e R s m args below meth c H locs ls Q E C hW hS hl hX hret)
theorem mj_iload_n {i : Fin 4} {x : Int32} (hd : decode cc pc = .ok (.iload_n i, 1)) (k : Nat) (hk : lv[k]? = some ((i : Nat), .int x)) (kk : mj_G D cy ad bs X cc nL own rt nm d mc ms nE post (pc + 1) (lv) (.int x :: st) h n cells slots) : mj_G D cy ad bs X cc nL own rt nm d mc ms nE post (pc) (lv) (st) h n cells slots := by
  intro p l e R s m args below meth c H locs ls Q E C hW hS hl hX hret
  exact lv_iload_n C.1 C.2.1 hd rfl (mj_sub hl hk) (kk p l e R s m args below meth c H locs ls Q E C hW hS hl hX hret)
theorem mj_lload {i : Nat} {x : Int64} (hd : decode cc pc = .ok (.lload i, 2)) (k : Nat) (hk : lv[k]? = some (i, .long x)) (kk : mj_G D cy ad bs X cc nL own rt nm d mc ms nE post (pc + 2) (lv) (.long x :: st) h n cells slots) : mj_G D cy ad bs X cc nL own rt nm d mc ms nE post (pc) (lv) (st) h n cells slots := by
  intro p l e R s m args below meth c H locs ls Q E C hW hS hl hX hret
  exact lv_lload C.1 C.2.1 hd (mj_sub hl hk) (kk p l e R s m args below meth c H locs ls Q E C hW hS hl hX hret)
theorem mj_lload_n {i : Fin 4} {x : Int64} (hd : decode cc pc = .ok (.lload_n i, 1)) (k : Nat) (hk : lv[k]? = some ((i : Nat), .long x)) (kk : mj_G D cy ad bs X cc nL own rt nm d mc ms nE post (pc + 1) (lv) (.long x :: st) h n cells slots) : mj_G D cy ad bs X cc nL own rt nm d mc ms nE post (pc) (lv) (st) h n cells slots := by
  intro p l e R s m args below meth c H locs ls Q E C hW hS hl hX hret
  exact lv_lload_n C.1 C.2.1 hd rfl (mj_sub hl hk) (kk p l e R s m args below meth c H locs ls Q E C hW hS hl hX hret)
theorem mj_aload {i : Nat} {x : Nat} (hd : decode cc pc = .ok (.aload i, 2)) (k : Nat) (hk : lv[k]? = some (i, .ref x)) (kk : mj_G D cy ad bs X cc nL own rt nm d mc ms nE post (pc + 2) (lv) (.ref x :: st) h n cells slots) : mj_G D cy ad bs X cc nL own rt nm d mc ms nE post (pc) (lv) (st) h n cells slots := by
  intro p l e R s m args below meth c H locs ls Q E C hW hS hl hX hret
  exact lv_aload C.1 C.2.1 hd (mj_sub hl hk) (kk p l e R s m args below meth c H locs ls Q E C hW hS hl hX hret)
theorem mj_aload_n {i : Fin 4} {x : Nat} (hd : decode cc pc = .ok (.aload_n i, 1)) (k : Nat) (hk : lv[k]? = some ((i : Nat), .ref x)) (kk : mj_G D cy ad bs X cc nL own rt nm d mc ms nE post (pc + 1) (lv) (.ref x :: st) h n cells slots) : mj_G D cy ad bs X cc nL own rt nm d mc ms nE post (pc) (lv) (st) h n cells slots := by
  intro p l e R s m args below meth c H locs ls Q E C hW hS hl hX hret
  exact lv_aload_n C.1 C.2.1 hd rfl (mj_sub hl hk) (kk p l e R s m args below meth c H locs ls Q E C hW hS hl hX hret)
theorem mj_istore {i : Nat} {x : Int32} {lv2 : List (Nat × Value)} (hd : decode cc pc = .ok (.istore i, 2)) (hn : i < nL) (hv : (i, Value.int x) :: lv.filter (fun q => !(q.1 == i) && !(q.1 + 1 == i && q.2.category == 2)) = lv2) (kk : mj_G D cy ad bs X cc nL own rt nm d mc ms nE post (pc + 2) (lv2) (st) h n cells slots) : mj_G D cy ad bs X cc nL own rt nm d mc ms nE post (pc) (lv) (.int x :: st) h n cells slots := by
  intro p l e R s m args below meth c H locs ls Q E C hW hS hl hX hret
  exact lv_istore C.1 C.2.1 hd hl hn (by rw [mj_flt1, ← hv]; rfl) (fun ls2 hl2 => kk p l e R s m args below meth c H locs ls2 Q E C hW hS hl2 hX hret)
theorem mj_istore_n {j : Fin 4} (i : Nat) {x : Int32} {lv2 : List (Nat × Value)} (hd : decode cc pc = .ok (.istore_n j, 1)) (hj : (j : Nat) = i) (hn : i < nL) (hv : (i, Value.int x) :: lv.filter (fun q => !(q.1 == i) && !(q.1 + 1 == i && q.2.category == 2)) = lv2) (kk : mj_G D cy ad bs X cc nL own rt nm d mc ms nE post (pc + 1) (lv2) (st) h n cells slots) : mj_G D cy ad bs X cc nL own rt nm d mc ms nE post (pc) (lv) (.int x :: st) h n cells slots := by
  intro p l e R s m args below meth c H locs ls Q E C hW hS hl hX hret
  exact lv_istore_n C.1 C.2.1 hd hj hl hn (by rw [mj_flt1, ← hv]; rfl) (fun ls2 hl2 => kk p l e R s m args below meth c H locs ls2 Q E C hW hS hl2 hX hret)
theorem mj_astore {i : Nat} {x : Nat} {lv2 : List (Nat × Value)} (hd : decode cc pc = .ok (.astore i, 2)) (hn : i < nL) (hv : (i, Value.ref x) :: lv.filter (fun q => !(q.1 == i) && !(q.1 + 1 == i && q.2.category == 2)) = lv2) (kk : mj_G D cy ad bs X cc nL own rt nm d mc ms nE post (pc + 2) (lv2) (st) h n cells slots) : mj_G D cy ad bs X cc nL own rt nm d mc ms nE post (pc) (lv) (.ref x :: st) h n cells slots := by
  intro p l e R s m args below meth c H locs ls Q E C hW hS hl hX hret
  exact lv_astore C.1 C.2.1 hd hl hn (by rw [mj_flt1, ← hv]; rfl) (fun ls2 hl2 => kk p l e R s m args below meth c H locs ls2 Q E C hW hS hl2 hX hret)
theorem mj_astore_n {j : Fin 4} (i : Nat) {x : Nat} {lv2 : List (Nat × Value)} (hd : decode cc pc = .ok (.astore_n j, 1)) (hj : (j : Nat) = i) (hn : i < nL) (hv : (i, Value.ref x) :: lv.filter (fun q => !(q.1 == i) && !(q.1 + 1 == i && q.2.category == 2)) = lv2) (kk : mj_G D cy ad bs X cc nL own rt nm d mc ms nE post (pc + 1) (lv2) (st) h n cells slots) : mj_G D cy ad bs X cc nL own rt nm d mc ms nE post (pc) (lv) (.ref x :: st) h n cells slots := by
  intro p l e R s m args below meth c H locs ls Q E C hW hS hl hX hret
  exact lv_astore_n C.1 C.2.1 hd hj hl hn (by rw [mj_flt1, ← hv]; rfl) (fun ls2 hl2 => kk p l e R s m args below meth c H locs ls2 Q E C hW hS hl2 hX hret)
theorem mj_lstore {i : Nat} {x : Int64} {lv2 : List (Nat × Value)} (hd : decode cc pc = .ok (.lstore i, 2)) (hn : i + 1 < nL) (hv : (i, Value.long x) :: lv.filter (fun q => !(q.1 == i) && (!(q.1 == i + 1) && !(q.1 + 1 == i && q.2.category == 2))) = lv2) (kk : mj_G D cy ad bs X cc nL own rt nm d mc ms nE post (pc + 2) (lv2) (st) h n cells slots) : mj_G D cy ad bs X cc nL own rt nm d mc ms nE post (pc) (lv) (.long x :: st) h n cells slots := by
  intro p l e R s m args below meth c H locs ls Q E C hW hS hl hX hret
  exact lv_lstore C.1 C.2.1 hd hl hn (by rw [mj_flt2, ← hv]; rfl) (fun ls2 hl2 => kk p l e R s m args below meth c H locs ls2 Q E C hW hS hl2 hX hret)
theorem mj_lstore_n {j : Fin 4} (i : Nat) {x : Int64} {lv2 : List (Nat × Value)} (hd : decode cc pc = .ok (.lstore_n j, 1)) (hj : (j : Nat) = i) (hn : i + 1 < nL) (hv : (i, Value.long x) :: lv.filter (fun q => !(q.1 == i) && (!(q.1 == i + 1) && !(q.1 + 1 == i && q.2.category == 2))) = lv2) (kk : mj_G D cy ad bs X cc nL own rt nm d mc ms nE post (pc + 1) (lv2) (st) h n cells slots) : mj_G D cy ad bs X cc nL own rt nm d mc ms nE post (pc) (lv) (.long x :: st) h n cells slots := by
  intro p l e R s m args below meth c H locs ls Q E C hW hS hl hX hret
  exact lv_lstore_n C.1 C.2.1 hd hj hl hn (by rw [mj_flt2, ← hv]; rfl) (fun ls2 hl2 => kk p l e R s m args below meth c H locs ls2 Q E C hW hS hl2 hX hret)
theorem mj_iinc {i k : Nat} {z : Int} {x v : Int32} {lv2 : List (Nat × Value)} (hd : decode cc pc = .ok (.iinc i z, 3)) (hk : lv[k]? = some (i, .int x)) (hv : x + Int32.ofInt z = v) (hn : i < nL) (hu : (i, Value.int v) :: lv.filter (fun q => !(q.1 == i) && !(q.1 + 1 == i && q.2.category == 2)) = lv2) (kk : mj_G D cy ad bs X cc nL own rt nm d mc ms nE post (pc + 3) (lv2) (st) h n cells slots) : mj_G D cy ad bs X cc nL own rt nm d mc ms nE post (pc) (lv) (st) h n cells slots := by
  intro p l e R s m args below meth c H locs ls Q E C hW hS hl hX hret
  exact lv_iinc (k := k) C.1 C.2.1 hd hl (by rw [List.getElem?_map, hk]; rfl) hv hn (by rw [mj_flt1, ← hu]; rfl) (fun ls2 hl2 => kk p l e R s m args below meth c H locs ls2 Q E C hW hS hl2 hX hret)
theorem mj_sublv (lv2 : List (Nat × Value)) (ks : List Nat) (hp : lv_pick lv ks = lv2) (kk : mj_G D cy ad bs X cc nL own rt nm d mc ms nE post (pc) (lv2) (st) h n cells slots) : mj_G D cy ad bs X cc nL own rt nm d mc ms nE post (pc) (lv) (st) h n cells slots := by
  intro p l e R s m args below meth c H locs ls Q E C hW hS hl hX hret
  refine kk p l e R s m args below meth c H locs ls Q E C hW hS (lv_sub hl ks ?_) hX hret
  subst hp
  unfold lv_pick
  rw [List.map_filterMap]
  congr 1
  funext k
  rw [List.getElem?_map]
theorem mj_if_eq {x : Int32} {off : Int} (tgt : Nat) (hd : decode cc pc = .ok (.ifCond .eq off, 3)) (ht : (pc : Int) + off = (tgt : Int)) (kt : x = 0 → mj_G D cy ad bs X cc nL own rt nm d mc ms nE post (tgt) (lv) (st) h n cells slots) (kf : ¬ x = 0 → mj_G D cy ad bs X cc nL own rt nm d mc ms nE post (pc + 3) (lv) (st) h n cells slots) : mj_G D cy ad bs X cc nL own rt nm d mc ms nE post (pc) (lv) (.int x :: st) h n cells slots := by
  intro p l e R s m args below meth c H locs ls Q E C hW hS hl hX hret
  exact lv_if_eq C.1 C.2.1 hd ht (fun z => kt z p l e R s m args below meth c H locs ls Q E C hW hS hl hX hret) (fun z => kf z p l e R s m args below meth c H locs ls Q E C hW hS hl hX hret)
theorem mj_icmp_eq {x y : Int32} {off : Int} (tgt : Nat) (hd : decode cc pc = .ok (.if_icmp .eq off, 3)) (ht : (pc : Int) + off = (tgt : Int)) (kt : x = y → mj_G D cy ad bs X cc nL own rt nm d mc ms nE post (tgt) (lv) (st) h n cells slots) (kf : ¬ x = y → mj_G D cy ad bs X cc nL own rt nm d mc ms nE post (pc + 3) (lv) (st) h n cells slots) : mj_G D cy ad bs X cc nL own rt nm d mc ms nE post (pc) (lv) (.int y :: .int x :: st) h n cells slots := by
  intro p l e R s m args below meth c H locs ls Q E C hW hS hl hX hret
  exact lv_icmp_eq C.1 C.2.1 hd ht (fun z => kt z p l e R s m args below meth c H locs ls Q E C hW hS hl hX hret) (fun z => kf z p l e R s m args below meth c H locs ls Q E C hW hS hl hX hret)
theorem mj_if_ne {x : Int32} {off : Int} (tgt : Nat) (hd : decode cc pc = .ok (.ifCond .ne off, 3)) (ht : (pc : Int) + off = (tgt : Int)) (kt : ¬ x = 0 → mj_G D cy ad bs X cc nL own rt nm d mc ms nE post (tgt) (lv) (st) h n cells slots) (kf : x = 0 → mj_G D cy ad bs X cc nL own rt nm d mc ms nE post (pc + 3) (lv) (st) h n cells slots) : mj_G D cy ad bs X cc nL own rt nm d mc ms nE post (pc) (lv) (.int x :: st) h n cells slots := by
  intro p l e R s m args below meth c H locs ls Q E C hW hS hl hX hret
  exact lv_if_ne C.1 C.2.1 hd ht (fun z => kt z p l e R s m args below meth c H locs ls Q E C hW hS hl hX hret) (fun z => kf z p l e R s m args below meth c H locs ls Q E C hW hS hl hX hret)
theorem mj_icmp_ne {x y : Int32} {off : Int} (tgt : Nat) (hd : decode cc pc = .ok (.if_icmp .ne off, 3)) (ht : (pc : Int) + off = (tgt : Int)) (kt : ¬ x = y → mj_G D cy ad bs X cc nL own rt nm d mc ms nE post (tgt) (lv) (st) h n cells slots) (kf : x = y → mj_G D cy ad bs X cc nL own rt nm d mc ms nE post (pc + 3) (lv) (st) h n cells slots) : mj_G D cy ad bs X cc nL own rt nm d mc ms nE post (pc) (lv) (.int y :: .int x :: st) h n cells slots := by
  intro p l e R s m args below meth c H locs ls Q E C hW hS hl hX hret
  exact lv_icmp_ne C.1 C.2.1 hd ht (fun z => kt z p l e R s m args below meth c H locs ls Q E C hW hS hl hX hret) (fun z => kf z p l e R s m args below meth c H locs ls Q E C hW hS hl hX hret)
theorem mj_if_lt {x : Int32} {off : Int} (tgt : Nat) (hd : decode cc pc = .ok (.ifCond .lt off, 3)) (ht : (pc : Int) + off = (tgt : Int)) (kt : x < 0 → mj_G D cy ad bs X cc nL own rt nm d mc ms nE post (tgt) (lv) (st) h n cells slots) (kf : ¬ x < 0 → mj_G D cy ad bs X cc nL own rt nm d mc ms nE post (pc + 3) (lv) (st) h n cells slots) : mj_G D cy ad bs X cc nL own rt nm d mc ms nE post (pc) (lv) (.int x :: st) h n cells slots := by
  intro p l e R s m args below meth c H locs ls Q E C hW hS hl hX hret
  exact lv_if_lt C.1 C.2.1 hd ht (fun z => kt z p l e R s m args below meth c H locs ls Q E C hW hS hl hX hret) (fun z => kf z p l e R s m args below meth c H locs ls Q E C hW hS hl hX hret)
theorem mj_icmp_lt {x y : Int32} {off : Int} (tgt : Nat) (hd : decode cc pc = .ok (.if_icmp .lt off, 3)) (ht : (pc : Int) + off = (tgt : Int)) (kt : x < y → mj_G D cy ad bs X cc nL own rt nm d mc ms nE post (tgt) (lv) (st) h n cells slots) (kf : ¬ x < y → mj_G D cy ad bs X cc nL own rt nm d mc ms nE post (pc + 3) (lv) (st) h n cells slots) : mj_G D cy ad bs X cc nL own rt nm d mc ms nE post (pc) (lv) (.int y :: .int x :: st) h n cells slots := by
  intro p l e R s m args below meth c H locs ls Q E C hW hS hl hX hret
  exact lv_icmp_lt C.1 C.2.1 hd ht (fun z => kt z p l e R s m args below meth c H locs ls Q E C hW hS hl hX hret) (fun z => kf z p l e R s m args below meth c H locs ls Q E C hW hS hl hX hret)
theorem mj_if_ge {x : Int32} {off : Int} (tgt : Nat) (hd : decode cc pc = .ok (.ifCond .ge off, 3)) (ht : (pc : Int) + off = (tgt : Int)) (kt : 0 ≤ x → mj_G D cy ad bs X cc nL own rt nm d mc ms nE post (tgt) (lv) (st) h n cells slots) (kf : ¬ 0 ≤ x → mj_G D cy ad bs X cc nL own rt nm d mc ms nE post (pc + 3) (lv) (st) h n cells slots) : mj_G D cy ad bs X cc nL own rt nm d mc ms nE post (pc) (lv) (.int x :: st) h n cells slots := by
  intro p l e R s m args below meth c H locs ls Q E C hW hS hl hX hret
  exact lv_if_ge C.1 C.2.1 hd ht (fun z => kt z p l e R s m args below meth c H locs ls Q E C hW hS hl hX hret) (fun z => kf z p l e R s m args below meth c H locs ls Q E C hW hS hl hX hret)
theorem mj_icmp_ge {x y : Int32} {off : Int} (tgt : Nat) (hd : decode cc pc = .ok (.if_icmp .ge off, 3)) (ht : (pc : Int) + off = (tgt : Int)) (kt : y ≤ x → mj_G D cy ad bs X cc nL own rt nm d mc ms nE post (tgt) (lv) (st) h n cells slots) (kf : ¬ y ≤ x → mj_G D cy ad bs X cc nL own rt nm d mc ms nE post (pc + 3) (lv) (st) h n cells slots) : mj_G D cy ad bs X cc nL own rt nm d mc ms nE post (pc) (lv) (.int y :: .int x :: st) h n cells slots := by
  intro p l e R s m args below meth c H locs ls Q E C hW hS hl hX hret
  exact lv_icmp_ge C.1 C.2.1 hd ht (fun z => kt z p l e R s m args below meth c H locs ls Q E C hW hS hl hX hret) (fun z => kf z p l e R s m args below meth c H locs ls Q E C hW hS hl hX hret)
theorem mj_if_gt {x : Int32} {off : Int} (tgt : Nat) (hd : decode cc pc = .ok (.ifCond .gt off, 3)) (ht : (pc : Int) + off = (tgt : Int)) (kt : 0 < x → mj_G D cy ad bs X cc nL own rt nm d mc ms nE post (tgt) (lv) (st) h n cells slots) (kf : ¬ 0 < x → mj_G D cy ad bs X cc nL own rt nm d mc ms nE post (pc + 3) (lv) (st) h n cells slots) : mj_G D cy ad bs X cc nL own rt nm d mc ms nE post (pc) (lv) (.int x :: st) h n cells slots := by
  intro p l e R s m args below meth c H locs ls Q E C hW hS hl hX hret
  exact lv_if_gt C.1 C.2.1 hd ht (fun z => kt z p l e R s m args below meth c H locs ls Q E C hW hS hl hX hret) (fun z => kf z p l e R s m args below meth c H locs ls Q E C hW hS hl hX hret)
theorem mj_icmp_gt {x y : Int32} {off : Int} (tgt : Nat) (hd : decode cc pc = .ok (.if_icmp .gt off, 3)) (ht : (pc : Int) + off = (tgt : Int)) (kt : y < x → mj_G D cy ad bs X cc nL own rt nm d mc ms nE post (tgt) (lv) (st) h n cells slots) (kf : ¬ y < x → mj_G D cy ad bs X cc nL own rt nm d mc ms nE post (pc + 3) (lv) (st) h n cells slots) : mj_G D cy ad bs X cc nL own rt nm d mc ms nE post (pc) (lv) (.int y :: .int x :: st) h n cells slots := by
  intro p l e R s m args below meth c H locs ls Q E C hW hS hl hX hret
  exact lv_icmp_gt C.1 C.2.1 hd ht (fun z => kt z p l e R s m args below meth c H locs ls Q E C hW hS hl hX hret) (fun z => kf z p l e R s m args below meth c H locs ls Q E C hW hS hl hX hret)
theorem mj_if_le {x : Int32} {off : Int} (tgt : Nat) (hd : decode cc pc = .ok (.ifCond .le off, 3)) (ht : (pc : Int) + off = (tgt : Int)) (kt : x ≤ 0 → mj_G D cy ad bs X cc nL own rt nm d mc ms nE post (tgt) (lv) (st) h n cells slots) (kf : ¬ x ≤ 0 → mj_G D cy ad bs X cc nL own rt nm d mc ms nE post (pc + 3) (lv) (st) h n cells slots) : mj_G D cy ad bs X cc nL own rt nm d mc ms nE post (pc) (lv) (.int x :: st) h n cells slots := by
  intro p l e R s m args below meth c H locs ls Q E C hW hS hl hX hret
  exact lv_if_le C.1 C.2.1 hd ht (fun z => kt z p l e R s m args below meth c H locs ls Q E C hW hS hl hX hret) (fun z => kf z p l e R s m args below meth c H locs ls Q E C hW hS hl hX hret)
theorem mj_icmp_le {x y : Int32} {off : Int} (tgt : Nat) (hd : decode cc pc = .ok (.if_icmp .le off, 3)) (ht : (pc : Int) + off = (tgt : Int)) (kt : x ≤ y → mj_G D cy ad bs X cc nL own rt nm d mc ms nE post (tgt) (lv) (st) h n cells slots) (kf : ¬ x ≤ y → mj_G D cy ad bs X cc nL own rt nm d mc ms nE post (pc + 3) (lv) (st) h n cells slots) : mj_G D cy ad bs X cc nL own rt nm d mc ms nE post (pc) (lv) (.int y :: .int x :: st) h n cells slots := by
  intro p l e R s m args below meth c H locs ls Q E C hW hS hl hX hret
  exact lv_icmp_le C.1 C.2.1 hd ht (fun z => kt z p l e R s m args below meth c H locs ls Q E C hW hS hl hX hret) (fun z => kf z p l e R s m args below meth c H locs ls Q E C hW hS hl hX hret)
theorem mj_goto {off : Int} (tgt : Nat) (hd : decode cc pc = .ok (.goto off, 3)) (ht : (pc : Int) + off = (tgt : Int)) (kk : mj_G D cy ad bs X cc nL own rt nm d mc ms nE post (tgt) (lv) (st) h n cells slots) : mj_G D cy ad bs X cc nL own rt nm d mc ms nE post (pc) (lv) (st) h n cells slots := by
  intro p l e R s m args below meth c H locs ls Q E C hW hS hl hX hret
  exact lv_goto C.1 C.2.1 hd ht (kk p l e R s m args below meth c H locs ls Q E C hW hS hl hX hret)
theorem mj_tableOut {dflt lo hi : Int} {offs : Array Int} {len : Nat} {x : Int32} (tgt : Nat) (hd : decode cc pc = .ok (.tableswitch dflt lo hi offs, len)) (hx : x.toInt < lo ∨ hi < x.toInt) (ht : (pc : Int) + dflt = (tgt : Int)) (kk : mj_G D cy ad bs X cc nL own rt nm d mc ms nE post (tgt) (lv) (st) h n cells slots) : mj_G D cy ad bs X cc nL own rt nm d mc ms nE post (pc) (lv) (.int x :: st) h n cells slots := by
  intro p l e R s m args below meth c H locs ls Q E C hW hS hl hX hret
  exact lv_tableOut C.1 C.2.1 hd hx ht (kk p l e R s m args below meth c H locs ls Q E C hW hS hl hX hret)
theorem mj_tableIn {dflt lo hi : Int} {offs : Array Int} {len : Nat} {x : Int32} {off : Int} (tgt : Nat) (hd : decode cc pc = .ok (.tableswitch dflt lo hi offs, len)) (h1 : ¬ x.toInt < lo) (h2 : ¬ hi < x.toInt) (ho : offs[(x.toInt - lo).toNat]? = some off) (ht : (pc : Int) + off = (tgt : Int)) (kk : mj_G D cy ad bs X cc nL own rt nm d mc ms nE post (tgt) (lv) (st) h n cells slots) : mj_G D cy ad bs X cc nL own rt nm d mc ms nE post (pc) (lv) (.int x :: st) h n cells slots := by
  intro p l e R s m args below meth c H locs ls Q E C hW hS hl hX hret
  exact lv_tableIn C.1 C.2.1 hd h1 h2 ho ht (kk p l e R s m args below meth c H locs ls Q E C hW hS hl hX hret)
end MJ
