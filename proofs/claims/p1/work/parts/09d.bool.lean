section MJ7
variable {D : va_G} {cy : Nat → ClassId} {ad : Nat → Nat} {bs : Nat} {X : State → Heap → Prop} {cc : ByteArray} {nL : Nat} {own : String} {rt : Option FieldType} {nm : String} {d mc ms nE : Nat} {post : Option Value → mj_H → Prop} {pc : Nat} {lv : List (Nat × Value)} {st : List Value} {h : mj_H} {n cells slots : Nat}
theorem mj_zastA {a len : Nat} {f : Nat → Int32} {i x : Int32} (hd : decode cc pc = .ok (.bastore, 1)) (ha : a < n) (he : h a = .inl (3, len, .inl f)) (hi : vp_in i len) (hx : x = 0 ∨ x = 1) (kk : ∀ h2 : mj_H, h2 a = .inl (3, len, .inl (va_up f i.toNatClampNeg x)) → (∀ j, j ≠ a → h2 j = h j) → mj_G D cy ad bs X cc nL own rt nm d mc ms nE post (pc + 1) (lv) (st) (h2) (n) (cells) (slots)) : mj_G D cy ad bs X cc nL own rt nm d mc ms nE post (pc) (lv) (.int x :: .int i :: .ref a :: st) (h) (n) (cells) (slots) := by
  intro p l e R s m args below meth c H locs ls Q E C hW hS hl hX hret
  have hg := hW.2.2 a _ (mj_ws_get ha)
  rw [he] at hg
  have hK := C.2.2.2.2.2.2.2.2.2.1
  have hnr : narrow .boolean (.int x) = .int x := by rcases hx with rfl | rfl <;> rfl
  refine W.zast C.1 C.2.1 hg ((hK.2 3 _ rfl).1 len (fun j => .int (f j))) (fun q => by cases q) (by show ¬ (i < 0 ∨ (arrV _ _ _).slots.size ≤ _); rw [arrV_size]; exact hi) rfl rfl hd fun H' e1 e2 e3 => ?_
  rw [hnr] at e1
  have hS2 := hS.put (k := i.toNatClampNeg) e2 e3 (mj_adge E ha hW.2.1)
  have hW2 := mj_seth (e' := .inl (3, len, .inl (va_up f i.toNatClampNeg x))) E hW ha (by
    show H'[ad a]? = some (vp_cell _ _)
    rw [e1]
    show some ((arrV (cy 3) len (fun j => .int (f j))).setSlot i.toNatClampNeg (.int x)) = some (arrV (cy 3) len (fun j => .int (va_up f i.toNatClampNeg x j)))
    rw [arrV_store]
    congr 2
    funext q
    by_cases hq : q = i.toNatClampNeg
    · subst hq
      simp [updV, va_up]
    · simp [updV, va_up, hq]) e2 e3
  exact kk _ (mj_up_eq _ _ _) (fun j hj => mj_up_ne _ _ hj) p l e R s m args below meth c H' _ ls Q E C hW2 hS2 hl (mj_keep E hW.1 hS hS2 C.2.2.2.2.2.2.2.2.2.2 hX) hret
end MJ7
