def mj_rm (d mc ms : Nat) : Room := { frames := d, cells := mc, slots := ms, locals := 44 * d }
def mj_Qc (D : va_G) (cy : Nat → ClassId) (ad : Nat → Nat) (bs : Nat) (nE : Nat) (post : Option Value → mj_H → Prop) : Array Value → State → Outcome → State → Prop := fun _ st oc t => (∃ (v : Option Value) (h' : mj_H), oc = .returned (v.map (mj_tv ad)) ∧ post v h' ∧ mj_WH D cy ad bs h' nE t.heap) ∧ va_F (fun q => bs ≤ q) st t
/-- a method's contract over the pure memory: from h with n cells, with these arguments, it comes to its end with 'post', mc cells of ms slots more -/
def mj_C (y : MethodName) (cc : ByteArray) (maxL : Nat) (rt : Option FieldType) (d mc ms : Nat) (vs : List Value) (h : mj_H) (n : Nat) (post : Option Value → mj_H → Prop) : Prop :=
  ∀ (D : va_G) (cy : Nat → ClassId) (ad : Nat → Nat) (bs : Nat) (X : State → Heap → Prop) (l : Launch), mj_Ev ad bs X →
    Met l y (Cond.code y cc maxL rt :: mj_TG) (mj_rm d mc ms) (va_Pc (vs.map (mj_tv ad)) (fun U => mj_WH D cy ad bs h n U.heap ∧ va_K D vwCl (mj_tys cy) U ∧ X U U.heap)) (mj_Qc D cy ad bs (n + mc) post) mc ms (fun q => bs ≤ q)
theorem mj_args (ad : Nat → Nat) : ∀ (vs : List Value) (i : Nat), lv_args i (vs.map (mj_tv ad)) = (lv_args i vs).map (fun q => (q.1, mj_tv ad q.2)) := by
  intro vs
  induction vs with
  | nil => intro i; rfl
  | cons v vs ih =>
    intro i
    rw [List.map_cons]
    unfold lv_args
    rw [mj_tv_cat, ih, List.map_cons]
theorem mj_sl (ad : Nat → Nat) : ∀ (vs : List Value), (lg_sl (vs.map (mj_tv ad))).length = (lg_sl vs).length := by
  intro vs
  induction vs with
  | nil => rfl
  | cons v vs ih => cases v <;> simp_all [lg_sl, mj_tv, Value.category]
theorem mj_good : ∀ w ∈ mj_TG, (w.onTables && w.keeps) = true ∨ ∃ ty, w = .arrayClass ty := fun w hw => good_of_word (List.mem_filter.mp hw).2
theorem mj_aretW {p : Program} {l : Launch} {e : Env} {R : Room} {s : State} {m : MethodId} {args : Array Value} {below : List Frame} {meth : Method} {c : Code} {H : Heap} {locs : List Loc} {cells slots : Nat} {cc : ByteArray} {Qc : Array Value → State → Outcome → State → Prop} {free : Addr → Prop} {v : Value} {ty : FieldType} (hv : v.isRef = true) (hexec : p.tables.exec = Jvm.exec) (hb : c.code = cc) (hr : meth.sig.returnType = some ty) (hty : ty.isReference = true)
    (hq : ∀ t : State, t.heap = H → Qc args s (.returned (some v)) t) (hf : ∀ q ∈ locs, free q.base) {pc : Nat} {ls : Array Slot} (hd : decode cc pc = .ok (.areturn, 1)) (hlk : meth.locks = false) : W p l e R s m args below meth c H locs cells slots (MQ below Qc args s cells slots free) (F0 m pc ls [v]) := by
  intro T hT X
  obtain ⟨fs, hret, hrun, hended, hW, hfr⟩ := X.leave (v := some v) (fun z => by rw [hr] at z; cases z)
  have hm : T.vm.method? m = some meth := X.method'
  refine ⟨T.setFrames fs, ?_, .returned (some v), hrun, hended, hq _ hT, locs, ⟨⟨_, rfl⟩, hW, hfr⟩, hf⟩
  jvm_step X.here [X.here.top, hexec, hb, hd, hm, hr, areturn.wp_sem, hv, hty]
  (try refine ⟨rfl, ?_⟩); (try refine ⟨rfl, ?_⟩)
  first | (intro acts; rw [hret _ acts rfl rfl rfl]) | rw [hret _ _ rfl rfl rfl]
  exact Steps.refl _
theorem mj_C.of {y : MethodName} {cc : ByteArray} {maxL : Nat} {rt : Option FieldType} {d mc ms : Nat} {vs : List Value} {h : mj_H} {n : Nat} {post : Option Value → mj_H → Prop} (hy : plainName y.cls = true) (hsz : (lg_sl vs).length ≤ maxL)
    (body : ∀ (D : va_G) (cy : Nat → ClassId) (ad : Nat → Nat) (bs : Nat) (X : State → Heap → Prop), mj_G D cy ad bs X cc maxL y.cls rt y.name d mc ms (n + mc) post 0 (lv_args 0 vs) [] h n 0 0) : mj_C y cc maxL rt d mc ms vs h n post := by
  intro D cy ad bs X l E
  refine Met.ofW (cc := cc) (maxL := maxL) (ret := rt) hy rfl ?_
  intro p e s m args below meth c s₁ B hml hv
  obtain ⟨rfl, hWH, hK, hX⟩ := hv
  have hts := atoms_spec (ws := Cond.code y cc maxL rt :: mj_TG) B.pre
  have hown : s.vm.findClass y.cls = some m.cls := findClass_of_methodNamed B.named
  have hin : meth.name = y.name := (name_of_methodNamed B.named B.method).1
  have hl := lv_entry (vs.map (mj_tv ad)) (n := maxL) (by rw [mj_sl]; exact hsz)
  rw [lg_entry_eq]
  generalize (lg_sl (vs.map (mj_tv ad)) ++ List.replicate (maxL - (lg_sl (vs.map (mj_tv ad))).length) Slot.unset).toArray = ls at hl ⊢
  rw [mj_args] at hl
  have C : mj_Cx D cy bs cc maxL y.cls rt y.name d mc ms p (mj_rm d mc ms) s m (vs.map (mj_tv ad)).toArray meth c := ⟨B.exec, B.bytes, hml, B.returns, fun w hw => hts w (List.mem_cons_of_mem _ hw), hown, B.notSynchronized, hin, ⟨Nat.le_refl _, Nat.le_refl _, Nat.le_refl _, Nat.le_refl _⟩, hK, by rw [hWH.1]; omega⟩
  refine body D cy ad bs X p l e (mj_rm d mc ms) s m (vs.map (mj_tv ad)).toArray below meth c s.heap [] ls _ E C hWH va_S.rf hl hX ?_
  intro v h' H' locs' ls' pc' hp hW' hS' _ hk
  have hlocks := B.notSynchronized
  have hq : ∀ t : State, t.heap = H' → mj_Qc D cy ad bs (n + mc) post (vs.map (mj_tv ad)).toArray s (.returned (v.map (mj_tv ad))) t := fun t ht => ⟨⟨v, h', rfl, hp, by rw [ht]; exact hW'⟩, hS'.F ht⟩
  match v, hk with
  | none, hk => exact W.vret B.exec B.bytes (B.returns.trans hk.2) (fun t ht _ => hq t ht) hS'.2.2 hk.1
  | some (.int x), hk =>
    obtain ⟨h1, ty, h2, h3⟩ := hk
    exact W.zret (v := x) B.exec B.bytes (B.returns.trans h2) (mj_fit_ok ad h3).1 (fun t ht _ => hq t ht) hS'.2.2 h1
  | some (.long x), hk => exact W.lret (v := x) B.exec B.bytes (B.returns.trans hk.2) (fun t ht _ => hq t ht) hS'.2.2 hk.1
  | some (.ref a), hk =>
    obtain ⟨h1, ty, h2, h3⟩ := hk
    exact mj_aretW (v := .ref (ad a)) rfl B.exec B.bytes (B.returns.trans h2) h3 (fun t ht => hq t ht) hS'.2.2 h1 hlocks
  | some .null, hk =>
    obtain ⟨h1, ty, h2, h3⟩ := hk
    exact mj_aretW (v := .null) rfl B.exec B.bytes (B.returns.trans h2) h3 (fun t ht => hq t ht) hS'.2.2 h1 hlocks
/-- a method's facts: its code among the words, its class, how many arguments -/
def mj_mf (y : MethodName) (cc : ByteArray) (maxL : Nat) (rt : Option FieldType) (na : Nat) : Prop := Cond.code y cc maxL rt ∈ mj_TG ∧ Cond.initialized y.cls ∈ mj_TG ∧ (y.cls ≠ "java/lang/invoke/MethodHandle" ∧ y.cls ≠ "java/lang/invoke/VarHandle" ∧ (parseMethodDescriptor y.desc).map (fun d => d.parameters.length) = some na) ∧ maxL ≤ 25
theorem mj_aft {p : Program} {l : Launch} {e : Env} {R : Room} {s : State} {m : MethodId} {args : Array Value} {below : List Frame} {meth : Method} {c : Code} {H : Heap} {locs : List Loc} {cells slots mc ms pc : Nat} {ls : Array Slot} {st0 rest : List Value} {Q : State → Prop} {a : Array Value}
    {D : va_G} {cy : Nat → ClassId} {ad : Nat → Nat} {bs nE n : Nat} {X : State → Heap → Prop} {post : Option Value → mj_H → Prop} (E : mj_Ev ad bs X) (hz0 : H.size = bs + n) (hb0 : bs ≤ s.heap.size)
    (hr : va_Run p l e R s m args below meth c H locs cells slots mc ms (F0 m pc ls st0) rest (mj_Qc D cy ad bs nE post a) (fun q => bs ≤ q)) (hS : va_S (fun q => bs ≤ q) s.heap H locs) (hX : X s H)
    (kk : ∀ (v : Option Value) (h' : mj_H) (H1 : Heap) (locs1 : List Loc), post v h' → mj_WH D cy ad bs h' nE H1 → va_S (fun q => bs ≤ q) s.heap H1 locs1 → X s H1 → W p l e R s m args below meth c H1 locs1 (cells + mc) (slots + ms) Q (F0 m (pc + 3) ls ((v.map (mj_tv ad)).toList ++ rest))) : W p l e R s m args below meth c H locs cells slots Q (F0 m pc ls st0) := by
  intro T hT X0
  obtain ⟨v, st₀, t, T', L, h0, X', hL, e1, e2, ⟨⟨v', h', hv, hp, hw⟩, hz, hk⟩, stp⟩ := hr T hT X0
  have hv2 : v = v'.map (mj_tv ad) := by injection hv
  subst hv2
  rw [h0] at hz hk
  rw [← e1] at hw hz hk
  have hS1 : va_S (fun q => bs ≤ q) s.heap T'.heap (locs ++ L) := ⟨Nat.le_trans hS.1 hz, fun q h1 h2 => (hk q (Nat.lt_of_lt_of_le h1 hS.1) h2).trans (hS.2.1 q h1 h2), fun q hq => by
    rcases List.mem_append.mp hq with h | h
    · exact hS.2.2 q h
    · exact hL q h⟩
  obtain ⟨t2, a1, b1⟩ := kk v' h' T'.heap (locs ++ L) hp hw hS1 (mj_keep E hz0 hS hS1 hb0 hX) T' rfl X'
  exact ⟨t2, stp t2 a1, b1⟩
theorem mj_CB {R : Room} {s : State} {args : Array Value} {own : String} {idx d mc ms na : Nat} {y : MethodName} {cc : ByteArray} {maxL : Nat} {rt : Option FieldType} (hts : ∀ w ∈ mj_TG, w.before args s = true) (f : mj_mf y cc maxL rt na) (hl : Cond.methodLink own idx y ∈ mj_TG) (hR : d + 1 ≤ R.frames ∧ 44 * (d + 1) ≤ R.locals) :
    CallB R s args own idx y cc maxL rt (Cond.code y cc maxL rt :: mj_TG) (mj_rm d mc ms) mc ms na :=
  callB_of na hts (fun w hw => by
    rcases List.mem_cons.mp hw with h | h
    · exact ⟨h ▸ f.1, mj_good w (h ▸ f.1)⟩
    · exact ⟨h, mj_good w h⟩) rfl rfl rfl (hts _ f.2.1) (hts _ hl) f.2.2.1 ⟨hR.1, by
      have := f.2.2.2
      show 8 + (maxL + 11) + 44 * d ≤ R.locals
      omega⟩
section MJ3
variable {D : va_G} {cy : Nat → ClassId} {ad : Nat → Nat} {bs : Nat} {X : State → Heap → Prop} {cc : ByteArray} {nL : Nat} {own : String} {rt : Option FieldType} {nm : String} {d mc ms nE : Nat} {post : Option Value → mj_H → Prop} {pc : Nat} {lv : List (Nat × Value)} {st : List Value} {h : mj_H} {n cells slots : Nat}
variable {d' mc' ms' na idx maxL' : Nat} {y : MethodName} {cc' : ByteArray} {rt' : Option FieldType} {As sk : List Value} {post' : Option Value → mj_H → Prop}
theorem mj_cats (ad : Nat → Nat) (st : List Value) : ((st.map (mj_tv ad)).map fun v => v.category) = st.map fun v => v.category := by
  rw [List.map_map]
  apply List.map_congr_left
  intro v _
  exact mj_tv_cat ad v
theorem mj_pcOk {ad : Nat → Nat} {bs : Nat} {X : State → Heap → Prop} {D : va_G} {cy : Nat → ClassId} {h : mj_H} {n : Nat} {vs : List Value} (E : mj_Ev ad bs X) : FrameBlind (va_Pc (vs.map (mj_tv ad)) (fun U => mj_WH D cy ad bs h n U.heap ∧ va_K D vwCl (mj_tys cy) U ∧ X U U.heap)) :=
  fun a U g mk q => ⟨q.1, q.2.1, va_K.moved (u := U) (U := U.calling g mk a) (Vm.Alike.refl U.vm) q.2.2.1, E.2.1 U (U.calling g mk a) U.heap (State.WarmedH.refl U) q.2.2.2⟩
theorem mj_callV {a ci : Nat} {fs : List Value} (hd : decode cc pc = .ok (.invokevirtual idx, 3)) (f : mj_mf y cc' maxL' rt' na) (hC : mj_C y cc' maxL' rt' d' mc' ms' (.ref a :: As) h n post') (hlk : Cond.methodLink own idx y ∈ mj_TG) (hi : Cond.instanceMethod y ∈ mj_TG) (hse : Cond.selects y.cls y y ∈ mj_TG) (ha : a < n) (he : h a = .inr (ci, fs)) (hci : (vwCl[ci]?).map (fun q => q.1) = some y.cls) (hna : As.length = na) (hsk : sk = As.reverse ++ .ref a :: st) (hdd : d' + 1 ≤ d) (hst : (st.map fun v => v.category).sum ≤ 8) (hcs : cells + mc' ≤ mc) (hss : slots + ms' ≤ ms) (kk : ∀ (v : Option Value) (h' : mj_H), post' v h' → mj_G D cy ad bs X cc nL own rt nm d mc ms nE post (pc + 3) (lv) (v.toList ++ st) h' (n + mc') (cells + mc') (slots + ms')) : mj_G D cy ad bs X cc nL own rt nm d mc ms nE post (pc) (lv) (sk) h n cells slots := by
  intro p l e R s m args below meth c H locs ls Q E C hW hS hl hX hret
  subst hsk
  have hRf := C.2.2.2.2.2.2.2.2.1
  obtain ⟨r, hr1, hr2⟩ : ∃ r, vwCl[ci]? = some r ∧ r.1 = y.cls := by
    cases hq : vwCl[ci]? with
    | none => rw [hq] at hci; cases hci
    | some r => rw [hq] at hci; exact ⟨r, rfl, Option.some.inj hci⟩
  have hrun := va_runV (p := p) (l := l) (e := e) (R := R) (below := below) (meth := meth) (locs := locs) (cells := cells) (slots := slots) (g := F0 m pc ls ((As.reverse ++ .ref a :: st).map (mj_tv ad))) (b := ad a) (As := As.map (mj_tv ad)) (rest := st.map (mj_tv ad)) (C := y.cls) ⟨C.1, C.2.1, C.2.2.1, C.2.2.2.2.2.1, C.2.2.2.2.1⟩ (hC D cy ad bs X l E) ⟨mj_CB (d := d') (mc := mc') (ms := ms') C.2.2.2.2.1 f hlk ⟨by omega, by omega⟩, C.2.2.2.2.1 _ hi, C.2.2.2.2.1 _ hse⟩
    ⟨mj_pcOk E, by
      obtain ⟨cell, g1, g2, g3⟩ := va_recv C.2.2.2.2.2.2.2.2.2.1 hW.2.2 hr1 (q0 := a) (fs := fs.map (mj_tv ad)) (a := ad a) (by rw [mj_ws_get ha, he]; rfl)
      exact ⟨cell, g1, g2, by rw [← hr2]; exact g3⟩, fun U hU hWm => ⟨rfl, by rw [hU]; exact hW, va_K.moved hWm.alike C.2.2.2.2.2.2.2.2.2.1, by rw [hU]; exact E.2.1 s U H hWm hX⟩⟩
    rfl (by rw [List.length_map]; exact hna) hl.1 (by show List.map _ (As.reverse ++ .ref a :: st) = _; rw [List.map_append, List.map_reverse]; rfl) (lv_room (by rw [mj_cats]; exact hst)) hd ⟨by omega, by omega⟩
  refine mj_aft E hW.1 C.2.2.2.2.2.2.2.2.2.2 hrun hS hX (fun v h' H1 locs1 hp hW1 hS1 hX1 => ?_)
  have := kk v h' hp p l e R s m args below meth c H1 locs1 ls Q E C hW1 hS1 hl hX1 hret
  rw [List.map_append] at this
  have e0 : (v.map (mj_tv ad)).toList = v.toList.map (mj_tv ad) := by cases v <;> rfl
  rw [e0]
  exact this
theorem mj_callS (hd : decode cc pc = .ok (.invokestatic idx, 3)) (f : mj_mf y cc' maxL' rt' na) (hC : mj_C y cc' maxL' rt' d' mc' ms' As h n post') (hlk : Cond.methodLink own idx y ∈ mj_TG) (hi : Cond.static y ∈ mj_TG) (hna : As.length = na) (hsk : sk = As.reverse ++ st) (hdd : d' + 1 ≤ d) (hst : (st.map fun v => v.category).sum ≤ 8) (hcs : cells + mc' ≤ mc) (hss : slots + ms' ≤ ms) (kk : ∀ (v : Option Value) (h' : mj_H), post' v h' → mj_G D cy ad bs X cc nL own rt nm d mc ms nE post (pc + 3) (lv) (v.toList ++ st) h' (n + mc') (cells + mc') (slots + ms')) : mj_G D cy ad bs X cc nL own rt nm d mc ms nE post (pc) (lv) (sk) h n cells slots := by
  intro p l e R s m args below meth c H locs ls Q E C hW hS hl hX hret
  subst hsk
  have hRf := C.2.2.2.2.2.2.2.2.1
  have hrun := va_runS (p := p) (l := l) (e := e) (R := R) (below := below) (meth := meth) (locs := locs) (cells := cells) (slots := slots) (g := F0 m pc ls ((As.reverse ++ st).map (mj_tv ad))) (As := As.map (mj_tv ad)) (rest := st.map (mj_tv ad)) ⟨C.1, C.2.1, C.2.2.1, C.2.2.2.2.2.1, C.2.2.2.2.1⟩ (hC D cy ad bs X l E) ⟨mj_CB (d := d') (mc := mc') (ms := ms') C.2.2.2.2.1 f hlk ⟨by omega, by omega⟩, C.2.2.2.2.1 _ hi⟩
    ⟨mj_pcOk E, fun U hU hWm => ⟨rfl, by rw [hU]; exact hW, va_K.moved hWm.alike C.2.2.2.2.2.2.2.2.2.1, by rw [hU]; exact E.2.1 s U H hWm hX⟩⟩
    rfl (by rw [List.length_map]; exact hna) hl.1 (by show List.map _ (As.reverse ++ st) = _; rw [List.map_append, List.map_reverse]) (lv_room (by rw [mj_cats]; exact hst)) hd ⟨by omega, by omega⟩
  refine mj_aft E hW.1 C.2.2.2.2.2.2.2.2.2.2 hrun hS hX (fun v h' H1 locs1 hp hW1 hS1 hX1 => ?_)
  have := kk v h' hp p l e R s m args below meth c H1 locs1 ls Q E C hW1 hS1 hl hX1 hret
  rw [List.map_append] at this
  have e0 : (v.map (mj_tv ad)).toList = v.toList.map (mj_tv ad) := by cases v <;> rfl
  rw [e0]
  exact this
theorem mj_callI {a : Nat} (hd : decode cc pc = .ok (.invokespecial idx, 3)) (hrv : rt' = none) (hy1 : y.name = "<init>") (f : mj_mf y cc' maxL' rt' na) (hC : mj_C y cc' maxL' rt' d' mc' ms' (.ref a :: As) h n post') (hlk : Cond.methodLink own idx y ∈ mj_TG) (hi : Cond.instanceMethod y ∈ mj_TG) (hna : As.length = na) (hsk : sk = As.reverse ++ .ref a :: st) (hdd : d' + 1 ≤ d) (hst : (st.map fun v => v.category).sum ≤ 8) (hcs : cells + mc' ≤ mc) (hss : slots + ms' ≤ ms) (kk : ∀ (v : Option Value) (h' : mj_H), post' v h' → mj_G D cy ad bs X cc nL own rt nm d mc ms nE post (pc + 3) (lv) (v.toList ++ st) h' (n + mc') (cells + mc') (slots + ms')) : mj_G D cy ad bs X cc nL own rt nm d mc ms nE post (pc) (lv) (sk) h n cells slots := by
  intro p l e R s m args below meth c H locs ls Q E C hW hS hl hX hret
  subst hsk
  subst hrv
  have hRf := C.2.2.2.2.2.2.2.2.1
  have hrun := va_runI (p := p) (l := l) (e := e) (R := R) (below := below) (meth := meth) (locs := locs) (cells := cells) (slots := slots) (g := F0 m pc ls ((As.reverse ++ .ref a :: st).map (mj_tv ad))) (b := ad a) (As := As.map (mj_tv ad)) (rest := st.map (mj_tv ad)) ⟨C.1, C.2.1, C.2.2.1, C.2.2.2.2.2.1, C.2.2.2.2.1⟩ (hC D cy ad bs X l E) ⟨mj_CB (d := d') (mc := mc') (ms := ms') C.2.2.2.2.1 f hlk ⟨by omega, by omega⟩, hy1, C.2.2.2.2.1 _ hi⟩
    ⟨mj_pcOk E, fun U hU hWm => ⟨rfl, by rw [hU]; exact hW, va_K.moved hWm.alike C.2.2.2.2.2.2.2.2.2.1, by rw [hU]; exact E.2.1 s U H hWm hX⟩⟩
    rfl (by rw [List.length_map]; exact hna) hl.1 (by show List.map _ (As.reverse ++ .ref a :: st) = _; rw [List.map_append, List.map_reverse]; rfl) (lv_room (by rw [mj_cats]; exact hst)) hd ⟨by omega, by omega⟩
  refine mj_aft E hW.1 C.2.2.2.2.2.2.2.2.2.2 hrun hS hX (fun v h' H1 locs1 hp hW1 hS1 hX1 => ?_)
  have := kk v h' hp p l e R s m args below meth c H1 locs1 ls Q E C hW1 hS1 hl hX1 hret
  rw [List.map_append] at this
  have e0 : (v.map (mj_tv ad)).toList = v.toList.map (mj_tv ad) := by cases v <;> rfl
  rw [e0]
  exact this
theorem mj_objInit {a : Nat} (hd : decode cc pc = .ok (.invokespecial idx, 3)) (hlk : Cond.methodLink own idx Lib.objectInit ∈ mj_TG) (hi : Cond.instanceMethod Lib.objectInit ∈ mj_TG) (hco : Cond.code Lib.objectInit ⟨#[0xb1]⟩ 1 none ∈ mj_TG) (hd1 : 1 ≤ d) (hst : (st.map fun v => v.category).sum ≤ 8) (kk : mj_G D cy ad bs X cc nL own rt nm d mc ms nE post (pc + 3) (lv) (st) h n cells slots) : mj_G D cy ad bs X cc nL own rt nm d mc ms nE post (pc) (lv) (.ref a :: st) h n cells slots := by
  intro p l e R s m args below meth c H locs ls Q E C hW hS hl hX hret
  have hRf := C.2.2.2.2.2.2.2.2.1
  refine W.objInit C.1 C.2.1 C.2.2.2.2.2.1 (C.2.2.2.2.1 _ hlk) (C.2.2.2.2.1 _ hi) (C.2.2.2.2.1 _ hco) rfl (hl.1.trans C.2.2.1.symm) rfl hd (by omega) ?_ (kk p l e R s m args below meth c H locs ls Q E C hW hS hl hX hret)
  have := lv_room (m := m) (pc := pc) (ls := ls) (rest := []) (st := st.map (mj_tv ad)) (by rw [mj_cats]; exact hst)
  show 2 * (F0 m pc ls _).monitorRoom + _ + 12 ≤ _
  have h3 : 2 * (F0 m pc ls ((.ref a :: st).map (mj_tv ad))).monitorRoom + ((st.map (mj_tv ad)).map fun v => v.category).sum ≤ 8 := lv_room (by rw [mj_cats]; exact hst)
  omega
theorem mj_iret {x : Int32} {ty : FieldType} (hd : decode cc pc = .ok (.ireturn, 1)) (hr : rt = some ty) (hf : mj_fit ty (.int x) = true) (hp : post (some (.int x)) h) (hn : n = nE) (hc : cells ≤ mc) (hs : slots ≤ ms)  : mj_G D cy ad bs X cc nL own rt nm d mc ms nE post (pc) (lv) ([.int x]) (h) (n) (cells) (slots) := by
  intro p l e R s m args below meth c H locs ls Q E C hW hS hl hX hret
  subst hn
  exact W.widen hc hs (hret (some (.int x)) h H locs ls pc hp hW hS hX ⟨hd, ty, hr, hf⟩)
theorem mj_aret {v : Value} {ty : FieldType} (hd : decode cc pc = .ok (.areturn, 1)) (hr : rt = some ty) (hty : ty.isReference = true) (hv : v = .null ∨ ∃ a, v = .ref a) (hp : post (some v) h) (hn : n = nE) (hc : cells ≤ mc) (hs : slots ≤ ms) : mj_G D cy ad bs X cc nL own rt nm d mc ms nE post pc lv [v] h n cells slots := by
  intro p l e R s m args below meth c H locs ls Q E C hW hS hl hX hret
  subst hn
  rcases hv with rfl | ⟨a, rfl⟩
  · exact W.widen hc hs (hret (some .null) h H locs ls pc hp hW hS hX ⟨hd, ty, hr, hty⟩)
  · exact W.widen hc hs (hret (some (.ref a)) h H locs ls pc hp hW hS hX ⟨hd, ty, hr, hty⟩)
theorem mj_lret {x : Int64} (hd : decode cc pc = .ok (.lreturn, 1)) (hr : rt = some .long) (hp : post (some (.long x)) h) (hn : n = nE) (hc : cells ≤ mc) (hs : slots ≤ ms)  : mj_G D cy ad bs X cc nL own rt nm d mc ms nE post (pc) (lv) ([.long x]) (h) (n) (cells) (slots) := by
  intro p l e R s m args below meth c H locs ls Q E C hW hS hl hX hret
  subst hn
  exact W.widen hc hs (hret (some (.long x)) h H locs ls pc hp hW hS hX ⟨hd, hr⟩)
theorem mj_vret  (hd : decode cc pc = .ok (.return_, 1)) (hr : rt = none) (hp : post none h) (hn : n = nE) (hc : cells ≤ mc) (hs : slots ≤ ms)  : mj_G D cy ad bs X cc nL own rt nm d mc ms nE post (pc) (lv) ([]) (h) (n) (cells) (slots) := by
  intro p l e R s m args below meth c H locs ls Q E C hW hS hl hX hret
  subst hn
  exact W.widen hc hs (hret none h H locs ls pc hp hW hS hX ⟨hd, hr⟩)
theorem mj_new {ci N : Nat} {C0 : String} {T : u_T} (ty0 : Nat → FieldType) {fs : List Value} (hd : decode cc pc = .ok (.new idx, 3)) (hcl : mj_cl ci C0 T N) (hty : ∀ k, k < N → parseFieldDescriptor (T k).2.2.1 = some (ty0 k)) (hlk : Cond.classLink own idx C0 ∈ mj_TG) (hin : Cond.instantiable C0 N ∈ mj_TG) (hini : Cond.initialized C0 ∈ mj_TG) (hfs : ∀ j, j < N → defaultValue (ty0 j) = vp_V fs j) (hnr : ∀ f : Nat → Nat, fs.map (mj_tv f) = fs) (hn : n < 1000000) (hcs : cells + 1 ≤ mc) (hss : slots + N ≤ ms) (kk : mj_G D cy ad bs X cc nL own rt nm d mc ms nE post (pc + 3) (lv) (.ref n :: st) (va_up h n (.inr (ci, fs))) (n + 1) (cells + 1) (slots + N)) : mj_G D cy ad bs X cc nL own rt nm d mc ms nE post (pc) (lv) (st) (h) (n) (cells) (slots) := by
  intro p l e R s m args below meth c H locs ls Q E C hW hS hl hX hret
  have hRf := C.2.2.2.2.2.2.2.2.1
  have hKn := C.2.2.2.2.2.2.2.2.2.1.1 ci _ hcl.1
  refine W.newcK C.1 C.2.1 C.2.2.2.2.2.1 (C.2.2.2.2.1 _ hlk) (C.2.2.2.2.1 _ hin) (C.2.2.2.2.1 _ hini) rfl hd (by omega) (by omega) hKn.2.1 hW.1 fun H1 kC hkC e1 z1 o1 => ?_
  have hS1 : va_S (fun q => bs ≤ q) s.heap H1 locs := ⟨by have := hS.1; rw [hW.1] at this; omega, fun x h1 h2 => (o1 x (by have := hS.1; rw [hW.1] at this; omega)).trans (hS.2.1 x h1 h2), hS.2.2⟩
  have hW1 : mj_WH D cy ad bs (va_up h n (.inr (ci, fs))) (n + 1) H1 := by
    refine ⟨z1, by omega, ?_⟩
    rw [mj_ws_push]
    refine (hW.2.2.kept (fun k x hx => o1 x.1 (by have := (hW.2.2 k x hx).lt; rw [hW.1] at this; exact this))).app (fun k x hx => ?_)
    have hz : k < 1 := (List.getElem?_eq_some_iff.mp hx).1
    rw [show k = 0 by omega] at hx
    cases hx
    refine ⟨_, hcl.1, ?_⟩
    rw [E.1 n hn]
    have e2 := (u_born ty0 C.2.2.2.2.1 hcl.2.1 hKn hkC e1 hty).to hfs
    rw [← hnr ad] at e2
    exact e2
  have := kk p l e R s m args below meth c H1 locs ls Q E C hW1 hS1 hl (mj_keep E hW.1 hS hS1 C.2.2.2.2.2.2.2.2.2.2 hX) hret
  rw [show (Value.ref n :: st).map (mj_tv ad) = .ref (bs + n) :: st.map (mj_tv ad) by rw [← E.1 n hn]; rfl] at this
  exact this
theorem mj_newI {x : Int32} {N : Nat} (hd : decode cc pc = .ok (.newarray .int, 2)) (hA : Cond.arrayClass .int ∈ mj_TG) (hx : ¬ x < 0) (hN : x.toNatClampNeg = N) (hb : N * 4 ≤ 536870912) (hn : n < 1000000) (hcs : cells + 1 ≤ mc) (hss : slots + N ≤ ms) (kk : mj_G D cy ad bs X cc nL own rt nm d mc ms nE post (pc + 2) (lv) (.ref n :: st) (va_up h n (.inl (1, N, .inl (fun _ => 0)))) (n + 1) (cells + 1) (slots + N)) : mj_G D cy ad bs X cc nL own rt nm d mc ms nE post (pc) (lv) (.int x :: st) (h) (n) (cells) (slots) := by
  intro p l e R s m args below meth c H locs ls Q E C hW hS hl hX hret
  have hRf := C.2.2.2.2.2.2.2.2.1
  refine va_newaK C.1 C.2.1 (atype := .int) (C.2.2.2.2.1 _ hA) rfl hd rfl hx hN hb (by omega) (by omega) hW.1 fun H1 cA e1 z1 o1 hAr hNm => ?_
  have hcA : cA = cy 1 := Option.some.inj (hNm.symm.trans (C.2.2.2.2.2.2.2.2.2.1.2 1 _ rfl).2)
  subst hcA
  have hS1 : va_S (fun q => bs ≤ q) s.heap H1 locs := ⟨by have := hS.1; rw [hW.1] at this; omega, fun x h1 h2 => (o1 x (by have := hS.1; rw [hW.1] at this; omega)).trans (hS.2.1 x h1 h2), hS.2.2⟩
  have hW1 : mj_WH D cy ad bs (va_up h n (.inl (1, N, .inl (fun _ => 0)))) (n + 1) H1 := by
    refine ⟨z1, by omega, ?_⟩
    rw [mj_ws_push]
    refine (hW.2.2.kept (fun k x hx => o1 x.1 (by have := (hW.2.2 k x hx).lt; rw [hW.1] at this; exact this))).app (fun k x hx => ?_)
    have hz : k < 1 := (List.getElem?_eq_some_iff.mp hx).1
    rw [show k = 0 by omega] at hx
    cases hx
    show H1[ad n]? = some (vp_cell (cy 1) _)
    rw [E.1 n hn]
    exact e1
  have := kk p l e R s m args below meth c H1 locs ls Q E C hW1 hS1 hl (mj_keep E hW.1 hS hS1 C.2.2.2.2.2.2.2.2.2.2 hX) hret
  rw [show (Value.ref n :: st).map (mj_tv ad) = .ref (bs + n) :: st.map (mj_tv ad) by rw [← E.1 n hn]; rfl] at this
  exact this
theorem mj_newB {x : Int32} {N : Nat} (hd : decode cc pc = .ok (.newarray .byte, 2)) (hA : Cond.arrayClass .byte ∈ mj_TG) (hx : ¬ x < 0) (hN : x.toNatClampNeg = N) (hb : N * 1 ≤ 536870912) (hn : n < 1000000) (hcs : cells + 1 ≤ mc) (hss : slots + N ≤ ms) (kk : mj_G D cy ad bs X cc nL own rt nm d mc ms nE post (pc + 2) (lv) (.ref n :: st) (va_up h n (.inl (0, N, .inl (fun _ => 0)))) (n + 1) (cells + 1) (slots + N)) : mj_G D cy ad bs X cc nL own rt nm d mc ms nE post (pc) (lv) (.int x :: st) (h) (n) (cells) (slots) := by
  intro p l e R s m args below meth c H locs ls Q E C hW hS hl hX hret
  have hRf := C.2.2.2.2.2.2.2.2.1
  refine va_newaK C.1 C.2.1 (atype := .byte) (C.2.2.2.2.1 _ hA) rfl hd rfl hx hN hb (by omega) (by omega) hW.1 fun H1 cA e1 z1 o1 hAr hNm => ?_
  have hcA : cA = cy 0 := Option.some.inj (hNm.symm.trans (C.2.2.2.2.2.2.2.2.2.1.2 0 _ rfl).2)
  subst hcA
  have hS1 : va_S (fun q => bs ≤ q) s.heap H1 locs := ⟨by have := hS.1; rw [hW.1] at this; omega, fun x h1 h2 => (o1 x (by have := hS.1; rw [hW.1] at this; omega)).trans (hS.2.1 x h1 h2), hS.2.2⟩
  have hW1 : mj_WH D cy ad bs (va_up h n (.inl (0, N, .inl (fun _ => 0)))) (n + 1) H1 := by
    refine ⟨z1, by omega, ?_⟩
    rw [mj_ws_push]
    refine (hW.2.2.kept (fun k x hx => o1 x.1 (by have := (hW.2.2 k x hx).lt; rw [hW.1] at this; exact this))).app (fun k x hx => ?_)
    have hz : k < 1 := (List.getElem?_eq_some_iff.mp hx).1
    rw [show k = 0 by omega] at hx
    cases hx
    show H1[ad n]? = some (vp_cell (cy 0) _)
    rw [E.1 n hn]
    exact e1
  have := kk p l e R s m args below meth c H1 locs ls Q E C hW1 hS1 hl (mj_keep E hW.1 hS hS1 C.2.2.2.2.2.2.2.2.2.2 hX) hret
  rw [show (Value.ref n :: st).map (mj_tv ad) = .ref (bs + n) :: st.map (mj_tv ad) by rw [← E.1 n hn]; rfl] at this
  exact this
theorem mj_newZ {x : Int32} {N : Nat} (hd : decode cc pc = .ok (.newarray .boolean, 2)) (hA : Cond.arrayClass .boolean ∈ mj_TG) (hx : ¬ x < 0) (hN : x.toNatClampNeg = N) (hb : N * 1 ≤ 536870912) (hn : n < 1000000) (hcs : cells + 1 ≤ mc) (hss : slots + N ≤ ms) (kk : mj_G D cy ad bs X cc nL own rt nm d mc ms nE post (pc + 2) (lv) (.ref n :: st) (va_up h n (.inl (3, N, .inl (fun _ => 0)))) (n + 1) (cells + 1) (slots + N)) : mj_G D cy ad bs X cc nL own rt nm d mc ms nE post (pc) (lv) (.int x :: st) (h) (n) (cells) (slots) := by
  intro p l e R s m args below meth c H locs ls Q E C hW hS hl hX hret
  have hRf := C.2.2.2.2.2.2.2.2.1
  refine va_newaK C.1 C.2.1 (atype := .boolean) (C.2.2.2.2.1 _ hA) rfl hd rfl hx hN hb (by omega) (by omega) hW.1 fun H1 cA e1 z1 o1 hAr hNm => ?_
  have hcA : cA = cy 3 := Option.some.inj (hNm.symm.trans (C.2.2.2.2.2.2.2.2.2.1.2 3 _ rfl).2)
  subst hcA
  have hS1 : va_S (fun q => bs ≤ q) s.heap H1 locs := ⟨by have := hS.1; rw [hW.1] at this; omega, fun x h1 h2 => (o1 x (by have := hS.1; rw [hW.1] at this; omega)).trans (hS.2.1 x h1 h2), hS.2.2⟩
  have hW1 : mj_WH D cy ad bs (va_up h n (.inl (3, N, .inl (fun _ => 0)))) (n + 1) H1 := by
    refine ⟨z1, by omega, ?_⟩
    rw [mj_ws_push]
    refine (hW.2.2.kept (fun k x hx => o1 x.1 (by have := (hW.2.2 k x hx).lt; rw [hW.1] at this; exact this))).app (fun k x hx => ?_)
    have hz : k < 1 := (List.getElem?_eq_some_iff.mp hx).1
    rw [show k = 0 by omega] at hx
    cases hx
    show H1[ad n]? = some (vp_cell (cy 3) _)
    rw [E.1 n hn]
    exact e1
  have := kk p l e R s m args below meth c H1 locs ls Q E C hW1 hS1 hl (mj_keep E hW.1 hS hS1 C.2.2.2.2.2.2.2.2.2.2 hX) hret
  rw [show (Value.ref n :: st).map (mj_tv ad) = .ref (bs + n) :: st.map (mj_tv ad) by rw [← E.1 n hn]; rfl] at this
  exact this
theorem mj_newJ {x : Int32} {N : Nat} (hd : decode cc pc = .ok (.newarray .long, 2)) (hA : Cond.arrayClass .long ∈ mj_TG) (hx : ¬ x < 0) (hN : x.toNatClampNeg = N) (hb : N * 8 ≤ 536870912) (hn : n < 1000000) (hcs : cells + 1 ≤ mc) (hss : slots + N ≤ ms) (kk : mj_G D cy ad bs X cc nL own rt nm d mc ms nE post (pc + 2) (lv) (.ref n :: st) (va_up h n (.inl (2, N, .inr (.inl (fun _ => 0))))) (n + 1) (cells + 1) (slots + N)) : mj_G D cy ad bs X cc nL own rt nm d mc ms nE post (pc) (lv) (.int x :: st) (h) (n) (cells) (slots) := by
  intro p l e R s m args below meth c H locs ls Q E C hW hS hl hX hret
  have hRf := C.2.2.2.2.2.2.2.2.1
  refine va_newaK C.1 C.2.1 (atype := .long) (C.2.2.2.2.1 _ hA) rfl hd rfl hx hN hb (by omega) (by omega) hW.1 fun H1 cA e1 z1 o1 hAr hNm => ?_
  have hcA : cA = cy 2 := Option.some.inj (hNm.symm.trans (C.2.2.2.2.2.2.2.2.2.1.2 2 _ rfl).2)
  subst hcA
  have hS1 : va_S (fun q => bs ≤ q) s.heap H1 locs := ⟨by have := hS.1; rw [hW.1] at this; omega, fun x h1 h2 => (o1 x (by have := hS.1; rw [hW.1] at this; omega)).trans (hS.2.1 x h1 h2), hS.2.2⟩
  have hW1 : mj_WH D cy ad bs (va_up h n (.inl (2, N, .inr (.inl (fun _ => 0))))) (n + 1) H1 := by
    refine ⟨z1, by omega, ?_⟩
    rw [mj_ws_push]
    refine (hW.2.2.kept (fun k x hx => o1 x.1 (by have := (hW.2.2 k x hx).lt; rw [hW.1] at this; exact this))).app (fun k x hx => ?_)
    have hz : k < 1 := (List.getElem?_eq_some_iff.mp hx).1
    rw [show k = 0 by omega] at hx
    cases hx
    show H1[ad n]? = some (vp_cell (cy 2) _)
    rw [E.1 n hn]
    exact e1
  have := kk p l e R s m args below meth c H1 locs ls Q E C hW1 hS1 hl (mj_keep E hW.1 hS hS1 C.2.2.2.2.2.2.2.2.2.2 hX) hret
  rw [show (Value.ref n :: st).map (mj_tv ad) = .ref (bs + n) :: st.map (mj_tv ad) by rw [← E.1 n hn]; rfl] at this
  exact this
end MJ3
