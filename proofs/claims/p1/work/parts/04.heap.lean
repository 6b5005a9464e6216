/-- a class of the world: its number, its fields' rows among the tables' words -/
def mj_cl (ci : Nat) (C : String) (T : u_T) (N : Nat) : Prop := vwCl[ci]? = some (C, T, N) ∧ (∀ w ∈ u_ws C T N, w ∈ mj_TG) ∧ ∃ ty0 : Nat → FieldType, (∀ k, k < N → parseFieldDescriptor (T k).2.2.1 = some (ty0 k)) ∧ (∀ a, a < N → ∀ b, b < N → a ≠ b → (T a).2.1 ≠ (T b).2.1)
theorem mj_ins (ws : List Cond) (ps : List Nat) (hp : ws = ps.filterMap (fun i => lw_tbl[i]?)) (h : ws.all goodWord = true) : ∀ w ∈ ws, w ∈ mj_TG := by
  intro w hw
  have h1 := List.all_eq_true.mp h w hw
  rw [hp] at hw
  obtain ⟨i, -, hi⟩ := List.mem_filterMap.mp hw
  exact mj_in i hi h1
/-- a field that a class of the program reads or writes -/
def mj_fl (own : String) (idx ci kf : Nat) (ty : FieldType) (fin : Bool) : Prop := ∃ (C : String) (T : u_T) (N : Nat), mj_cl ci C T N ∧ kf < N ∧ Cond.fieldLink own idx C (T kf).2.1 (T kf).2.2.1 ∈ mj_TG ∧ (T kf).1 = C ∧ parseFieldDescriptor (T kf).2.2.1 = some ty ∧ (T kf).2.2.2 = fin
theorem mj_fit_ok {ty : FieldType} {v : Value} (ad : Nat → Nat) (h : mj_fit ty v = true) : narrow ty (mj_tv ad v) = mj_tv ad v ∧ fits ty (mj_tv ad v) = true := by
  cases ty <;> cases v <;> simp_all [mj_fit, mj_tv] <;> first | exact ⟨rfl, rfl⟩ | skip
  all_goals rename_i x
  all_goals first
    | (rcases h with h | h <;> subst h <;> exact ⟨rfl, rfl⟩)
    | (have e1 := pk_nc x; have e2 := pk_fc x; rw [h] at e1 e2; exact ⟨e1, e2⟩)
    | (subst h; exact ⟨rfl, rfl⟩)
theorem mj_seth {D : va_G} {cy : Nat → ClassId} {ad : Nat → Nat} {bs : Nat} {X : State → Heap → Prop} {h : mj_H} {n a : Nat} {H H' : Heap} {e' : va_E} (E : mj_Ev ad bs X) (hW : mj_WH D cy ad bs h n H) (ha : a < n) (hat : va_at D vwCl (ad a, mj_en cy ad e') H') (hz : H'.size = H.size) (oq : ∀ q : Nat, q ≠ ad a → H'[q]? = H[q]?) : mj_WH D cy ad bs (va_up h a e') n H' :=
  ⟨hz.trans hW.1, hW.2.1, by rw [← mj_ws_set]; exact hW.2.2.set (mj_D E.1 hW.2.1) (mj_ws_get ha) hat oq⟩
theorem mj_adge {ad : Nat → Nat} {bs : Nat} {X : State → Heap → Prop} {a n : Nat} (E : mj_Ev ad bs X) (ha : a < n) (hn : n ≤ 1000000) : bs ≤ ad a := by
  rw [E.1 a (by omega)]
  omega
section MJ2
variable {D : va_G} {cy : Nat → ClassId} {ad : Nat → Nat} {bs : Nat} {X : State → Heap → Prop} {cc : ByteArray} {nL : Nat} {own : String} {rt : Option FieldType} {nm : String} {d mc ms nE : Nat} {post : Option Value → mj_H → Prop} {pc : Nat} {lv : List (Nat × Value)} {st : List Value} {h : mj_H} {n cells slots : Nat}
theorem mj_get {idx ci kf a : Nat} {ty : FieldType} {fin : Bool} {fs : List Value} {v : Value} (hd : decode cc pc = .ok (.getfield idx, 3)) (f : mj_fl own idx ci kf ty fin) (ha : a < n) (he : h a = .inr (ci, fs)) (hv : fs[kf]? = some v) (kk : mj_G D cy ad bs X cc nL own rt nm d mc ms nE post (pc + 3) (lv) (v :: st) (h) (n) (cells) (slots)) : mj_G D cy ad bs X cc nL own rt nm d mc ms nE post (pc) (lv) (.ref a :: st) (h) (n) (cells) (slots) := by
  intro p l e R s m args below meth c H locs ls Q E C hW hS hl hX hret
  obtain ⟨C', T, N, hc, hk, hlk, h1, h2, h3⟩ := f
  refine va_get (D := D) (cl := vwCl) (tys := mj_tys cy) (ws := mj_ws cy ad h n) (Ts := mj_TG) (fs := fs.map (mj_tv ad)) C.1 C.2.1 C.2.2.2.2.1 hc.2.1 C.2.2.2.2.2.1 C.2.2.2.2.2.2.2.2.2.1 hW.2.2 a (by rw [mj_ws_get ha, he]; rfl) hc.1 kf hk (C.2.2.2.2.1 _ hlk) (by rw [h1]; exact fun _ z => z) (by rw [List.getElem?_map, hv]; rfl) hd (kk p l e R s m args below meth c H locs ls Q E C hW hS hl hX hret)
theorem mj_put {idx ci kf a : Nat} {ty : FieldType} {fs : List Value} {v : Value} (hd : decode cc pc = .ok (.putfield idx, 3)) (f : mj_fl own idx ci kf ty false) (ha : a < n) (he : h a = .inr (ci, fs)) (hft : mj_fit ty v = true) (hkl : kf < fs.length) (kk : mj_G D cy ad bs X cc nL own rt nm d mc ms nE post (pc + 3) (lv) (st) (va_up h a (.inr (ci, fs.set kf v))) (n) (cells) (slots)) : mj_G D cy ad bs X cc nL own rt nm d mc ms nE post (pc) (lv) (v :: .ref a :: st) (h) (n) (cells) (slots) := by
  intro p l e R s m args below meth c H locs ls Q E C hW hS hl hX hret
  obtain ⟨C', T, N, ⟨hc, hin, ty0, hty, hnm⟩, hk, hlk, h1, h2, h3⟩ := f
  have hg := hW.2.2 a _ (mj_ws_get ha)
  rw [he] at hg
  obtain ⟨r, g1, cell, q1, q2, q3, q4⟩ := hg
  have hr : r = (C', T, N) := Option.some.inj (g1.symm.trans hc)
  subst hr
  have hK := C.2.2.2.2.2.2.2.2.2.1
  have hnf := mj_fit_ok ad hft
  obtain ⟨hSl, hfc, kC, hkC, hkind⟩ := hK.1 ci _ hc
  have hap := va_apart (own := own) C.2.2.2.2.1 hin ty0 hty hnm hK hc
  obtain ⟨cf, kf0, fi, fd, hi, hsl⟩ := hSl kf hk
  have hlay := C.2.2.2.2.1 _ (hin _ (u_in_lay hk))
  unfold u_lay at hlay
  rw [if_neg (by rw [h3]; decide)] at hlay
  refine W.putK C.1 C.2.1 (f := fd) ⟨C.2.2.2.2.2.1, C.2.2.2.2.1 _ hlk, ⟨_, _, _, by rw [← h1]; exact hi⟩, (u_facts hfc hkC (u_lays C.2.2.2.2.1 hin hk) hi).1⟩ (by rw [q2]; exact u_store hfc hkC hkind hlay hi h2 hnf.1 hnf.2) q1 q3 (by rw [hsl]; exact k2_hasslot (q4 kf hk)) rfl rfl hd fun H' e1 e2 e3 => ?_
  rw [hsl] at e1
  have hS2 := hS.put (k := fd.slot) e2 e3 (mj_adge E ha hW.2.1)
  have hW2 := mj_seth (e' := .inr (ci, fs.set kf v)) E hW ha ⟨_, hc, t_OB.to (V := updV (vp_V (fs.map (mj_tv ad))) kf (mj_tv ad v)) ⟨_, e1, q2, q3, t_set q4 hap hk _⟩ (fun j _ => by rw [vp_updV_set (by rw [List.length_map]; exact hkl), List.map_set])⟩ e2 e3
  exact kk p l e R s m args below meth c H' _ ls Q E C hW2 hS2 hl (mj_keep E hW.1 hS hS2 C.2.2.2.2.2.2.2.2.2.2 hX) hret
theorem mj_putF {idx ci kf a : Nat} {ty : FieldType} {fs : List Value} {v : Value} (hd : decode cc pc = .ok (.putfield idx, 3)) (f : mj_fl own idx ci kf ty true) (ha : a < n) (he : h a = .inr (ci, fs)) (hft : mj_fit ty v = true) (hkl : kf < fs.length) (hi0 : nm = "<init>") (ho0 : (vwCl[ci]?).map (fun q => q.1) = some own) (kk : mj_G D cy ad bs X cc nL own rt nm d mc ms nE post (pc + 3) (lv) (st) (va_up h a (.inr (ci, fs.set kf v))) (n) (cells) (slots)) : mj_G D cy ad bs X cc nL own rt nm d mc ms nE post (pc) (lv) (v :: .ref a :: st) (h) (n) (cells) (slots) := by
  intro p l e R s m args below meth c H locs ls Q E C hW hS hl hX hret
  obtain ⟨C', T, N, ⟨hc, hin, ty0, hty, hnm⟩, hk, hlk, h1, h2, h3⟩ := f
  have hg := hW.2.2 a _ (mj_ws_get ha)
  rw [he] at hg
  obtain ⟨r, g1, cell, q1, q2, q3, q4⟩ := hg
  have hr : r = (C', T, N) := Option.some.inj (g1.symm.trans hc)
  subst hr
  have ho : C' = own := by
    rw [hc] at ho0
    exact Option.some.inj ho0
  have hK := C.2.2.2.2.2.2.2.2.2.1
  have hnf := mj_fit_ok ad hft
  obtain ⟨hSl, hfc, kC, hkC, hkind⟩ := hK.1 ci _ hc
  have hap := va_apart (own := own) C.2.2.2.2.1 hin ty0 hty hnm hK hc
  obtain ⟨cf, kf0, fi, fd, hi, hsl⟩ := hSl kf hk
  have hlay := C.2.2.2.2.1 _ (hin _ (u_in_lay hk))
  unfold u_lay at hlay
  rw [if_pos h3] at hlay
  have hcf : m.cls = cf := by
    obtain ⟨_, _, c', _, _, _, -, -, hf', -, -, -, hown2, -⟩ := Cond.laysFinal_spec hlay
    have z1 : c' = cf := by have := hi.symm.trans hf'; simp at this; exact this.1.symm
    rw [h1, ho] at hown2
    rw [← z1]; exact Option.some.inj (C.2.2.2.2.2.1.symm.trans hown2)
  refine W.putFinK C.1 C.2.1 C.2.2.2.2.2.1 (C.2.2.2.2.1 _ hlk) (by rw [← h1]; exact hi) (u_facts hfc hkC (u_lays C.2.2.2.2.1 hin hk) hi).1 hcf (C.2.2.2.2.2.2.2.1.trans hi0) (by rw [q2]; exact u_fits hfc hkC hkind (Or.inr hlay) hi h2 hnf.1 hnf.2) q1 q3 (by rw [hsl]; exact k2_hasslot (q4 kf hk)) rfl rfl hd fun H' e1 e2 e3 => ?_
  rw [hsl] at e1
  have hS2 := hS.put (k := fd.slot) e2 e3 (mj_adge E ha hW.2.1)
  have hW2 := mj_seth (e' := .inr (ci, fs.set kf v)) E hW ha ⟨_, hc, t_OB.to (V := updV (vp_V (fs.map (mj_tv ad))) kf (mj_tv ad v)) ⟨_, e1, q2, q3, t_set q4 hap hk _⟩ (fun j _ => by rw [vp_updV_set (by rw [List.length_map]; exact hkl), List.map_set])⟩ e2 e3
  exact kk p l e R s m args below meth c H' _ ls Q E C hW2 hS2 hl (mj_keep E hW.1 hS hS2 C.2.2.2.2.2.2.2.2.2.2 hX) hret
theorem mj_iald {a len : Nat} {f : Nat → Int32} {i : Int32} (hd : decode cc pc = .ok (.iaload, 1)) (ha : a < n) (he : h a = .inl (1, len, .inl f)) (hi : vp_in i len) (kk : mj_G D cy ad bs X cc nL own rt nm d mc ms nE post (pc + 1) (lv) (.int (f i.toNatClampNeg) :: st) (h) (n) (cells) (slots)) : mj_G D cy ad bs X cc nL own rt nm d mc ms nE post (pc) (lv) (.int i :: .ref a :: st) (h) (n) (cells) (slots) := by
  intro p l e R s m args below meth c H locs ls Q E C hW hS hl hX hret
  exact va_iald (D := D) (cl := vwCl) (tys := mj_tys cy) (ws := mj_ws cy ad h n) (f := f) C.1 C.2.1 C.2.2.2.2.2.2.2.2.2.1 hW.2.2 a 1 (by rw [mj_ws_get ha, he]; rfl) rfl hi hd (kk p l e R s m args below meth c H locs ls Q E C hW hS hl hX hret)
theorem mj_bald {a len : Nat} {f : Nat → Int32} {i : Int32} (hd : decode cc pc = .ok (.baload, 1)) (ha : a < n) (he : h a = .inl (0, len, .inl f)) (hi : vp_in i len) (kk : mj_G D cy ad bs X cc nL own rt nm d mc ms nE post (pc + 1) (lv) (.int (f i.toNatClampNeg) :: st) (h) (n) (cells) (slots)) : mj_G D cy ad bs X cc nL own rt nm d mc ms nE post (pc) (lv) (.int i :: .ref a :: st) (h) (n) (cells) (slots) := by
  intro p l e R s m args below meth c H locs ls Q E C hW hS hl hX hret
  exact va_bald (D := D) (cl := vwCl) (tys := mj_tys cy) (ws := mj_ws cy ad h n) (f := f) C.1 C.2.1 C.2.2.2.2.2.2.2.2.2.1 hW.2.2 a 0 (by rw [mj_ws_get ha, he]; rfl) rfl hi hd (kk p l e R s m args below meth c H locs ls Q E C hW hS hl hX hret)
theorem mj_zald {a len : Nat} {f : Nat → Int32} {i : Int32} (hd : decode cc pc = .ok (.baload, 1)) (ha : a < n) (he : h a = .inl (3, len, .inl f)) (hi : vp_in i len) (kk : mj_G D cy ad bs X cc nL own rt nm d mc ms nE post (pc + 1) (lv) (.int (f i.toNatClampNeg) :: st) (h) (n) (cells) (slots)) : mj_G D cy ad bs X cc nL own rt nm d mc ms nE post (pc) (lv) (.int i :: .ref a :: st) (h) (n) (cells) (slots) := by
  intro p l e R s m args below meth c H locs ls Q E C hW hS hl hX hret
  exact va_zald (D := D) (cl := vwCl) (tys := mj_tys cy) (ws := mj_ws cy ad h n) (f := f) C.1 C.2.1 C.2.2.2.2.2.2.2.2.2.1 hW.2.2 a 3 (by rw [mj_ws_get ha, he]; rfl) rfl hi hd (kk p l e R s m args below meth c H locs ls Q E C hW hS hl hX hret)
theorem mj_lald {a len : Nat} {f : Nat → Int64} {i : Int32} (hd : decode cc pc = .ok (.laload, 1)) (ha : a < n) (he : h a = .inl (2, len, .inr (.inl f))) (hi : vp_in i len) (kk : mj_G D cy ad bs X cc nL own rt nm d mc ms nE post (pc + 1) (lv) (.long (f i.toNatClampNeg) :: st) (h) (n) (cells) (slots)) : mj_G D cy ad bs X cc nL own rt nm d mc ms nE post (pc) (lv) (.int i :: .ref a :: st) (h) (n) (cells) (slots) := by
  intro p l e R s m args below meth c H locs ls Q E C hW hS hl hX hret
  exact va_lald (D := D) (cl := vwCl) (tys := mj_tys cy) (ws := mj_ws cy ad h n) (f := f) C.1 C.2.1 C.2.2.2.2.2.2.2.2.2.1 hW.2.2 a 2 (by rw [mj_ws_get ha, he]; rfl) rfl hi hd (kk p l e R s m args below meth c H locs ls Q E C hW hS hl hX hret)
theorem mj_aald {a len b : Nat} {f : Nat → Option Nat} {i : Int32} (hd : decode cc pc = .ok (.aaload, 1)) (ha : a < n) (he : h a = .inl (4, len, .inr (.inr (.inr (.inr f))))) (hi : vp_in i len) (hb : f i.toNatClampNeg = some b) (kk : mj_G D cy ad bs X cc nL own rt nm d mc ms nE post (pc + 1) (lv) (.ref b :: st) (h) (n) (cells) (slots)) : mj_G D cy ad bs X cc nL own rt nm d mc ms nE post (pc) (lv) (.int i :: .ref a :: st) (h) (n) (cells) (slots) := by
  intro p l e R s m args below meth c H locs ls Q E C hW hS hl hX hret
  refine va_aldq (D := D) (cl := vwCl) (tys := mj_tys cy) (ws := mj_ws cy ad h n) (f := fun j => (f j).map ad) C.1 C.2.1 C.2.2.2.2.2.2.2.2.2.1 hW.2.2 a 4 (by rw [mj_ws_get ha, he]; rfl) rfl hi hd ?_
  rw [hb]
  exact kk p l e R s m args below meth c H locs ls Q E C hW hS hl hX hret
theorem mj_iast {a len : Nat} {f : Nat → Int32} {i : Int32} {x : Int32} (hd : decode cc pc = .ok (.iastore, 1)) (ha : a < n) (he : h a = .inl (1, len, .inl (f))) (hi : vp_in i len) (kk : mj_G D cy ad bs X cc nL own rt nm d mc ms nE post (pc + 1) (lv) (st) (va_up h a (.inl (1, len, .inl (va_up f i.toNatClampNeg x)))) (n) (cells) (slots)) : mj_G D cy ad bs X cc nL own rt nm d mc ms nE post (pc) (lv) (.int x :: .int i :: .ref a :: st) (h) (n) (cells) (slots) := by
  intro p l e R s m args below meth c H locs ls Q E C hW hS hl hX hret
  have hg := hW.2.2 a _ (mj_ws_get ha)
  rw [he] at hg
  have hK := C.2.2.2.2.2.2.2.2.2.1
  refine W.iast C.1 C.2.1 hg ((hK.2 1 _ rfl).1 len (fun j => .int (f j))) (fun q => by cases q) (by show ¬ (i < 0 ∨ (arrV _ _ _).slots.size ≤ _); rw [arrV_size]; exact hi) rfl rfl hd fun H' e1 e2 e3 => ?_
  have hS2 := hS.put (k := i.toNatClampNeg) e2 e3 (mj_adge E ha hW.2.1)
  have hW2 := mj_seth (e' := .inl (1, len, .inl (va_up f i.toNatClampNeg x))) E hW ha (by
    show H'[ad a]? = some (vp_cell _ _)
    rw [e1]
    show some ((arrV (cy 1) len (fun j => .int (f j))).setSlot i.toNatClampNeg (.int x)) = some (arrV (cy 1) len (fun j => .int (va_up f i.toNatClampNeg x j)))
    rw [arrV_store]
    congr 2
    funext q
    by_cases hq : q = i.toNatClampNeg
    · subst hq
      simp [updV, va_up]
    · simp [updV, va_up, hq]) e2 e3
  exact kk p l e R s m args below meth c H' _ ls Q E C hW2 hS2 hl (mj_keep E hW.1 hS hS2 C.2.2.2.2.2.2.2.2.2.2 hX) hret
theorem mj_bast {a len : Nat} {f : Nat → Int32} {i : Int32} {x : Int32} (hd : decode cc pc = .ok (.bastore, 1)) (ha : a < n) (he : h a = .inl (0, len, .inl (f))) (hi : vp_in i len) (kk : mj_G D cy ad bs X cc nL own rt nm d mc ms nE post (pc + 1) (lv) (st) (va_up h a (.inl (0, len, .inl (va_up f i.toNatClampNeg x.toInt8.toInt32)))) (n) (cells) (slots)) : mj_G D cy ad bs X cc nL own rt nm d mc ms nE post (pc) (lv) (.int x :: .int i :: .ref a :: st) (h) (n) (cells) (slots) := by
  intro p l e R s m args below meth c H locs ls Q E C hW hS hl hX hret
  have hg := hW.2.2 a _ (mj_ws_get ha)
  rw [he] at hg
  have hK := C.2.2.2.2.2.2.2.2.2.1
  refine W.bast C.1 C.2.1 hg ((hK.2 0 _ rfl).1 len (fun j => .int (f j))) (fun q => by cases q) (by show ¬ (i < 0 ∨ (arrV _ _ _).slots.size ≤ _); rw [arrV_size]; exact hi) rfl rfl hd fun H' e1 e2 e3 => ?_
  have hS2 := hS.put (k := i.toNatClampNeg) e2 e3 (mj_adge E ha hW.2.1)
  have hW2 := mj_seth (e' := .inl (0, len, .inl (va_up f i.toNatClampNeg x.toInt8.toInt32))) E hW ha (by
    show H'[ad a]? = some (vp_cell _ _)
    rw [e1]
    show some ((arrV (cy 0) len (fun j => .int (f j))).setSlot i.toNatClampNeg (.int x.toInt8.toInt32)) = some (arrV (cy 0) len (fun j => .int (va_up f i.toNatClampNeg x.toInt8.toInt32 j)))
    rw [arrV_store]
    congr 2
    funext q
    by_cases hq : q = i.toNatClampNeg
    · subst hq
      simp [updV, va_up]
    · simp [updV, va_up, hq]) e2 e3
  exact kk p l e R s m args below meth c H' _ ls Q E C hW2 hS2 hl (mj_keep E hW.1 hS hS2 C.2.2.2.2.2.2.2.2.2.2 hX) hret
theorem mj_last {a len : Nat} {f : Nat → Int64} {i : Int32} {x : Int64} (hd : decode cc pc = .ok (.lastore, 1)) (ha : a < n) (he : h a = .inl (2, len, .inr (.inl (f)))) (hi : vp_in i len) (kk : mj_G D cy ad bs X cc nL own rt nm d mc ms nE post (pc + 1) (lv) (st) (va_up h a (.inl (2, len, .inr (.inl (va_up f i.toNatClampNeg x))))) (n) (cells) (slots)) : mj_G D cy ad bs X cc nL own rt nm d mc ms nE post (pc) (lv) (.long x :: .int i :: .ref a :: st) (h) (n) (cells) (slots) := by
  intro p l e R s m args below meth c H locs ls Q E C hW hS hl hX hret
  have hg := hW.2.2 a _ (mj_ws_get ha)
  rw [he] at hg
  have hK := C.2.2.2.2.2.2.2.2.2.1
  refine W.last C.1 C.2.1 hg ((hK.2 2 _ rfl).1 len (fun j => .long (f j))) (fun q => by cases q) (by show ¬ (i < 0 ∨ (arrV _ _ _).slots.size ≤ _); rw [arrV_size]; exact hi) rfl rfl hd fun H' e1 e2 e3 => ?_
  have hS2 := hS.put (k := i.toNatClampNeg) e2 e3 (mj_adge E ha hW.2.1)
  have hW2 := mj_seth (e' := .inl (2, len, .inr (.inl (va_up f i.toNatClampNeg x)))) E hW ha (by
    show H'[ad a]? = some (vp_cell _ _)
    rw [e1]
    show some ((arrV (cy 2) len (fun j => .long (f j))).setSlot i.toNatClampNeg (.long x)) = some (arrV (cy 2) len (fun j => .long (va_up f i.toNatClampNeg x j)))
    rw [arrV_store]
    congr 2
    funext q
    by_cases hq : q = i.toNatClampNeg
    · subst hq
      simp [updV, va_up]
    · simp [updV, va_up, hq]) e2 e3
  exact kk p l e R s m args below meth c H' _ ls Q E C hW2 hS2 hl (mj_keep E hW.1 hS hS2 C.2.2.2.2.2.2.2.2.2.2 hX) hret
end MJ2
