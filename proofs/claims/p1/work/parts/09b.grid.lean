theorem vr_outer (c : ClassId) (N h0 : Nat) : ∀ i : Nat, Jvm.Free.Multi.outerC c N h0 i = arrV c N (fun j => va_rf (if j < i then some (h0 + 1 + j) else none))
  | 0 => by
    show ({ cls := c, slots := Array.replicate N .null, vm := .none } : Cell) = _
    rw [arrV_new]
    refine congrArg (arrV c N) (funext fun j => ?_)
    simp [va_rf]
  | i + 1 => by
    show (Jvm.Free.Multi.outerC c N h0 i).setSlot i (.ref (h0 + 1 + i)) = _
    rw [vr_outer c N h0 i, arrV_store]
    refine congrArg (arrV c N) (funext fun j => ?_)
    by_cases e : j = i
    · subst e
      simp [updV, va_rf]
    · by_cases h : j < i
      · simp [updV, e, h, Nat.lt_succ_of_lt h]
      · simp [updV, e, h, show ¬ j < i + 1 by omega]
theorem mj_skeep {bs n : Nat} {s : State} {H H1 : Heap} {locs : List Loc} (hz : H.size = bs + n) (hS : va_S (fun q => bs ≤ q) s.heap H locs) (z : H.size ≤ H1.size) (hq : ∀ x : Nat, x < H.size → H1[x]? = H[x]?) : va_S (fun q => bs ≤ q) s.heap H1 locs :=
  ⟨Nat.le_trans hS.1 z, fun x h1 h2 => (hq x (Nat.lt_of_lt_of_le h1 hS.1)).trans (hS.2.1 x h1 h2), hS.2.2⟩
section MJ5
variable {D : va_G} {cy : Nat → ClassId} {ad : Nat → Nat} {bs : Nat} {X : State → Heap → Prop} {cc : ByteArray} {nL : Nat} {own : String} {rt : Option FieldType} {nm : String} {d mc ms nE : Nat} {post : Option Value → mj_H → Prop} {pc : Nat} {lv : List (Nat × Value)} {st : List Value} {h : mj_H} {n cells slots : Nat}
theorem mj_mnaA {idx : Nat} {x y : Int32} {N K : Nat} (hd : decode cc pc = .ok (.multianewarray idx 2, 4)) (hcl : Cond.classLink own idx ("[" ++ (FieldType.array .int).toString) ∈ mj_TG) (hA : Cond.arrayClass .int ∈ mj_TG) (hx : ¬ x < 0) (hy : ¬ y < 0) (hN : x.toNatClampNeg = N) (hK : y.toNatClampNeg = K) (hb1 : N * 4 ≤ 536870912) (hb2 : K * 4 ≤ 536870912) (hn : n + N < 1000000) (hcs : cells + (1 + N) ≤ mc) (hss : slots + (N + N * K) ≤ ms)
    (kk : ∀ h2 : mj_H, h2 n = .inl (5, N, .inr (.inr (.inr (.inr (fun i => if i < N then some (n + 1 + i) else none))))) → (∀ i, i < N → h2 (n + 1 + i) = .inl (1, K, .inl (fun _ => 0))) → (∀ j, j < n → h2 j = h j) → mj_G D cy ad bs X cc nL own rt nm d mc ms nE post (pc + 4) (lv) (.ref n :: st) (h2) (n + 1 + N) (cells + 1 + N) (slots + N + N * K)) : mj_G D cy ad bs X cc nL own rt nm d mc ms nE post (pc) (lv) (.int y :: .int x :: st) (h) (n) (cells) (slots) := by
  intro p l e R s m args below meth c H locs ls Q E C hW hS hl hX hret
  have hRf := C.2.2.2.2.2.2.2.2.1
  subst hN
  subst hK
  intro T hT Xs
  have hK5 := C.2.2.2.2.2.2.2.2.2.1.2 5 _ rfl
  have hK1 := C.2.2.2.2.2.2.2.2.2.1.2 1 _ rfl
  obtain ⟨vm₁, cA, comp, -, fA, fC, hO, -, X', step⟩ := Xs.multianewarray2F C.1 C.2.2.2.2.2.1 (C.2.2.2.2.1 _ hcl) (E.2.2.2 s H hX).2.2.2.2.1 (C.2.2.2.2.1 _ hA) (g := F0 m pc ls (.int y :: .int x :: st.map (mj_tv ad))) rfl (by rw [C.2.1]; exact hd) rfl hx hy hb1 hb2 (by omega) rfl rfl (by omega) (by omega)
  have eA : cA = cy 5 := Option.some.inj (fA.symm.trans hK5.2)
  have eC : comp = cy 1 := Option.some.inj (fC.symm.trans hK1.2)
  subst eA
  subst eC
  generalize hF : Jvm.Free.Multi.fill (T.setVm vm₁) (cy 5) (cy 1) x.toNatClampNeg y.toNatClampNeg (defaultValue .int) x.toNatClampNeg = F at X' step
  have hTh : (T.setVm vm₁).heap = H := hT
  obtain ⟨f1, f2, -, -⟩ := Jvm.Free.Multi.fill_facts (T.setVm vm₁) (cy 5) (cy 1) x.toNatClampNeg y.toNatClampNeg (defaultValue .int) x.toNatClampNeg
  rw [hF, hTh] at f1 f2
  have hold : ∀ q : Nat, q < H.size → F.heap[q]? = H[q]? := fun q hq => by
    have := Jvm.Free.Multi.fill_old (T.setVm vm₁) (cy 5) (cy 1) x.toNatClampNeg y.toNatClampNeg (defaultValue .int) (a := q) (by rw [hTh]; exact hq) x.toNatClampNeg
    rw [hF, hTh] at this
    exact this
  have hrow : ∀ j : Nat, j < x.toNatClampNeg → F.heap[H.size + 1 + j]? = some (vp_cell (cy 1) (y.toNatClampNeg, .inl (fun _ => 0))) := fun j hj => by
    have := Jvm.Free.Multi.fill_inner (T.setVm vm₁) (cy 5) (cy 1) x.toNatClampNeg y.toNatClampNeg (defaultValue .int) x.toNatClampNeg j hj
    rw [hF, hTh] at this
    rw [this]
    show some (Jvm.Free.Multi.innerC (cy 1) y.toNatClampNeg (.int 0)) = _
    unfold Jvm.Free.Multi.innerC
    rw [arrV_new]
    rfl
  have hS1 := mj_skeep hW.1 hS (by rw [f1]; omega) hold
  have hW1 : mj_WH D cy ad bs (fun j => if j < n then h j else if j = n then .inl (5, x.toNatClampNeg, .inr (.inr (.inr (.inr (fun i => if i < x.toNatClampNeg then some (n + 1 + i) else none))))) else .inl (1, y.toNatClampNeg, .inl (fun _ => 0))) (n + 1 + x.toNatClampNeg) F.heap := by
    refine ⟨by rw [f1, hW.1]; omega, by omega, fun k q hq => ?_⟩
    have hk : k < n + 1 + x.toNatClampNeg := by
      have := (List.getElem?_eq_some_iff.mp hq).1
      rwa [mj_ws_len] at this
    rw [mj_ws_get hk] at hq
    cases hq
    by_cases h1 : k < n
    · have := hW.2.2 k _ (mj_ws_get h1)
      show va_at D vwCl (ad k, mj_en cy ad (if k < n then h k else _)) F.heap
      rw [if_pos h1]
      refine this.kept ?_
      exact hold _ (by have := this.lt; exact this)
    · by_cases h2 : k = n
      · subst h2
        show va_at D vwCl (ad k, mj_en cy ad (if k < k then h k else if k = k then _ else _)) F.heap
        rw [if_neg h1, if_pos rfl]
        show F.heap[ad k]? = some (vp_cell (cy 5) _)
        rw [E.1 k (by omega), ← hW.1, f2, vr_outer]
        show some (arrV (cy 5) x.toNatClampNeg (fun j => va_rf (if j < x.toNatClampNeg then some (H.size + 1 + j) else none))) = some (arrV (cy 5) x.toNatClampNeg (fun j => va_rf ((if j < x.toNatClampNeg then some (k + 1 + j) else none).map ad)))
        congr 2
        funext j
        show va_rf (if j < x.toNatClampNeg then some (H.size + 1 + j) else none) = va_rf ((if j < x.toNatClampNeg then some (k + 1 + j) else none).map ad)
        by_cases hj : j < x.toNatClampNeg
        · rw [if_pos hj, if_pos hj]
          show va_rf (some (H.size + 1 + j)) = va_rf (some (ad (k + 1 + j)))
          rw [E.1 (k + 1 + j) (by omega), hW.1]
          congr 2
          omega
        · rw [if_neg hj, if_neg hj]
          rfl
      · show va_at D vwCl (ad k, mj_en cy ad (if k < n then h k else if k = n then _ else _)) F.heap
        rw [if_neg h1, if_neg h2]
        show F.heap[ad k]? = some (vp_cell (cy 1) _)
        rw [E.1 k (by omega), show bs + k = H.size + 1 + (k - n - 1) by rw [hW.1]; omega]
        exact hrow _ (by omega)
  have hk := kk _ (by simp) (fun i hi => by simp [show ¬ n + 1 + i < n by omega, show ¬ n + 1 + i = n by omega]) (fun j hj => by simp [hj]) p l e R s m args below meth c F.heap locs ls Q E C hW1 hS1 hl (mj_keep E hW.1 hS hS1 C.2.2.2.2.2.2.2.2.2.2 hX) hret
  obtain ⟨t, a1, b1⟩ := hk F rfl X'
  refine ⟨t, step t ?_, b1⟩
  have e2 : T.heap.size = ad n := by rw [hT, hW.1, E.1 n (by omega)]
  rw [e2]
  exact a1
theorem mj_anewA {idx : Nat} {x : Int32} {N : Nat} (hd : decode cc pc = .ok (.anewarray idx, 3)) (hcl : Cond.classLink own idx "MatchHouse$Part" ∈ mj_TG) (hx : ¬ x < 0) (hN : x.toNatClampNeg = N) (hb1 : N * 4 ≤ 536870912) (hn : n < 1000000) (hcs : cells + 1 ≤ mc) (hss : slots + N ≤ ms)
    (kk : ∀ h2 : mj_H, h2 n = .inl (4, N, .inr (.inr (.inr (.inr (fun _ => none))))) → (∀ j, j ≠ n → h2 j = h j) → mj_G D cy ad bs X cc nL own rt nm d mc ms nE post (pc + 3) (lv) (.ref n :: st) (h2) (n + 1) (cells + 1) (slots + N)) : mj_G D cy ad bs X cc nL own rt nm d mc ms nE post (pc) (lv) (.int x :: st) (h) (n) (cells) (slots) := by
  intro p l e R s m args below meth c H locs ls Q E C hW hS hl hX hret
  have hRf := C.2.2.2.2.2.2.2.2.1
  subst hN
  have hK4 := C.2.2.2.2.2.2.2.2.2.1.2 4 _ rfl
  refine W.anew C.1 C.2.1 C.2.2.2.2.2.1 (C.2.2.2.2.1 _ hcl) (va_AO.use (E.2.2.2 s H hX).2.2.2.2.2) rfl hd rfl hx hb1 (by omega) (by omega) fun cA kA comp z1 z2 z3 z4 => ?_
  obtain ⟨kA', comp', y1, y2, y3, y4⟩ := hK4.2
  have eA : cA = cy 4 := Option.some.inj (z1.symm.trans y4)
  subst eA
  have hold : ∀ q : Nat, q < H.size → (H.push { cls := cy 4, slots := Array.replicate x.toNatClampNeg .null, vm := .none })[q]? = H[q]? := fun q hq => by
    rw [Array.getElem?_push, if_neg (Nat.ne_of_lt hq)]
  have hS1 := mj_skeep (H1 := H.push { cls := cy 4, slots := Array.replicate x.toNatClampNeg .null, vm := .none }) hW.1 hS (by rw [Array.size_push]; omega) hold
  have hW1 : mj_WH D cy ad bs (va_up h n (.inl (4, x.toNatClampNeg, .inr (.inr (.inr (.inr (fun _ => none))))))) (n + 1) (H.push { cls := cy 4, slots := Array.replicate x.toNatClampNeg .null, vm := .none }) := by
    refine ⟨by rw [Array.size_push, hW.1]; omega, by omega, ?_⟩
    rw [mj_ws_push]
    refine (hW.2.2.kept (fun k q hq => hold q.1 ((hW.2.2 k q hq).lt))).app (fun k q hq => ?_)
    have hz : k < 1 := (List.getElem?_eq_some_iff.mp hq).1
    rw [show k = 0 by omega] at hq
    cases hq
    show (H.push _)[ad n]? = some (vp_cell (cy 4) _)
    rw [E.1 n hn, ← hW.1, arrV_new]
    simp
    rfl
  have := kk _ (mj_up_eq _ _ _) (fun j hj => mj_up_ne _ _ hj) p l e R s m args below meth c _ locs ls Q E C hW1 hS1 hl (mj_keep E hW.1 hS hS1 C.2.2.2.2.2.2.2.2.2.2 hX) hret
  rw [show (Value.ref n :: st).map (mj_tv ad) = .ref H.size :: st.map (mj_tv ad) by rw [hW.1, ← E.1 n hn]; rfl] at this
  exact this
theorem mj_aastA {a b len : Nat} {f : Nat → Option Nat} {i : Int32} {vs : List Value} (hd : decode cc pc = .ok (.aastore, 1)) (ha : a < n) (he : h a = .inl (4, len, .inr (.inr (.inr (.inr f))))) (hi : vp_in i len) (hbn : b < n) (hbe : h b = .inr (4, vs))
    (kk : ∀ h2 : mj_H, h2 a = .inl (4, len, .inr (.inr (.inr (.inr (va_up f i.toNatClampNeg (some b)))))) → (∀ j, j ≠ a → h2 j = h j) → mj_G D cy ad bs X cc nL own rt nm d mc ms nE post (pc + 1) (lv) (st) (h2) (n) (cells) (slots)) : mj_G D cy ad bs X cc nL own rt nm d mc ms nE post (pc) (lv) (.ref b :: .int i :: .ref a :: st) (h) (n) (cells) (slots) := by
  intro p l e R s m args below meth c H locs ls Q E C hW hS hl hX hret
  have hg := hW.2.2 a _ (mj_ws_get ha)
  rw [he] at hg
  have hg2 := hW.2.2 b _ (mj_ws_get hbn)
  rw [hbe] at hg2
  obtain ⟨r', hr', cellV, g1, g2, g3, -⟩ := hg2
  have hlt : i.toNatClampNeg < len := Nat.not_le.mp fun q => hi (Or.inr q)
  have hK := C.2.2.2.2.2.2.2.2.2.1
  have hcls := (hK.1 4 _ rfl).2
  obtain ⟨kA, comp, k1, k2, k3, -⟩ := (hK.2 4 _ rfl).2
  have hcomp : comp = D.1 4 := Option.some.inj (k3.symm.trans hcls.1)
  subst hcomp
  obtain ⟨kC, hkC, -⟩ := id hcls.2
  refine W.aast C.1 C.2.1 hg (fun q z => by cases z) (fun z => by cases z) k1 k2 rfl hkC ⟨fun q => hi (Or.inl q), by show _ < (arrV _ _ _).slots.size; rw [arrV_size]; exact hlt⟩ g1 (fun q z => by rw [g3] at z; cases z) (by rw [g2]; exact hkC) (by rw [g2]; exact va_assign hcls) rfl rfl hd fun H' e1 e2 e3 => ?_
  have hS2 := hS.put (k := i.toNatClampNeg) e2 e3 (mj_adge E ha hW.2.1)
  have hW2 := mj_seth (e' := .inl (4, len, .inr (.inr (.inr (.inr (va_up f i.toNatClampNeg (some b))))))) E hW ha (by
    show H'[ad a]? = some (vp_cell _ _)
    rw [e1]
    show some ((arrV (cy 4) len (fun j => va_rf ((f j).map ad))).setSlot i.toNatClampNeg (.ref (ad b))) = some (arrV (cy 4) len (fun j => va_rf ((va_up f i.toNatClampNeg (some b) j).map ad)))
    rw [arrV_store]
    congr 2
    funext q
    by_cases hq : q = i.toNatClampNeg
    · subst hq
      simp [updV, va_up, va_rf]
    · simp [updV, va_up, hq]) e2 e3
  exact kk _ (mj_up_eq _ _ _) (fun j hj => mj_up_ne _ _ hj) p l e R s m args below meth c H' _ ls Q E C hW2 hS2 hl (mj_keep E hW.1 hS hS2 C.2.2.2.2.2.2.2.2.2.2 hX) hret
theorem mj_aaldI {a len b : Nat} {f : Nat → Option Nat} {i : Int32} (hd : decode cc pc = .ok (.aaload, 1)) (ha : a < n) (he : h a = .inl (5, len, .inr (.inr (.inr (.inr f))))) (hi : vp_in i len) (hb : f i.toNatClampNeg = some b) (kk : mj_G D cy ad bs X cc nL own rt nm d mc ms nE post (pc + 1) (lv) (.ref b :: st) (h) (n) (cells) (slots)) : mj_G D cy ad bs X cc nL own rt nm d mc ms nE post (pc) (lv) (.int i :: .ref a :: st) (h) (n) (cells) (slots) := by
  intro p l e R s m args below meth c H locs ls Q E C hW hS hl hX hret
  have hg := hW.2.2 a _ (mj_ws_get ha)
  rw [he] at hg
  have hlt : i.toNatClampNeg < len := Nat.not_le.mp fun q => hi (Or.inr q)
  have hK := C.2.2.2.2.2.2.2.2.2.1
  refine W.aald C.1 C.2.1 hg ((hK.2 5 _ rfl).1 len (fun j => va_rf ((f j).map ad))) rfl (fun q => by cases q) (by show ¬ (i < 0 ∨ (arrV _ _ _).slots.size ≤ _); rw [arrV_size]; exact hi) (v := .ref (ad b)) (by
    show (arrV (cy 5) len (fun j => va_rf ((f j).map ad))).slots[i.toNatClampNeg]? = _
    rw [arrV_read _ _ hlt, hb]
    rfl) rfl rfl hd (kk p l e R s m args below meth c H locs ls Q E C hW hS hl hX hret)
end MJ5
