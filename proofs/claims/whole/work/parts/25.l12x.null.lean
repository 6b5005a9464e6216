/-! A Part or null in a local. -/
section TPV
variable {D : va_G} {cy : Nat → ClassId} {ad : Nat → Nat} {bs : Nat} {X : State → Heap → Prop} {cc : ByteArray} {nL : Nat} {own : String} {rt : Option FieldType} {nm : String} {d mc ms nE : Nat} {post : Option Value → mj_H → Prop} {pc : Nat} {lv : List (Nat × Value)} {st : List Value} {h : mj_H} {n cells slots : Nat}
theorem t_pvC (x : Nat) : t_pv x = .null ∨ t_pv x = .ref x := by
  by_cases z : x = 0
  · subst z
    exact Or.inl rfl
  · exact Or.inr (t_pvR z)
theorem t_pvLd {i : Nat} {x : Nat} (hd : decode cc pc = .ok (.aload i, 2)) (k : Nat) (hk : lv[k]? = some (i, t_pv x)) (kk : mj_G D cy ad bs X cc nL own rt nm d mc ms nE post (pc + 2) lv (t_pv x :: st) h n cells slots) : mj_G D cy ad bs X cc nL own rt nm d mc ms nE post pc lv st h n cells slots := by
  rcases t_pvC x with z | z
  · rw [z] at hk kk
    intro p l e R s m args below meth c H locs ls Q E C hW hS hl hX hret
    exact lv_aloadN C.1 C.2.1 hd (mj_sub hl hk) (kk p l e R s m args below meth c H locs ls Q E C hW hS hl hX hret)
  · rw [z] at hk kk
    exact mj_aload hd k hk kk
theorem t_pvLdn {i : Fin 4} {x : Nat} (hd : decode cc pc = .ok (.aload_n i, 1)) (k : Nat) (hk : lv[k]? = some ((i : Nat), t_pv x)) (kk : mj_G D cy ad bs X cc nL own rt nm d mc ms nE post (pc + 1) lv (t_pv x :: st) h n cells slots) : mj_G D cy ad bs X cc nL own rt nm d mc ms nE post pc lv st h n cells slots := by
  rcases t_pvC x with z | z
  · rw [z] at hk kk
    intro p l e R s m args below meth c H locs ls Q E C hW hS hl hX hret
    exact lv_aload_nN C.1 C.2.1 hd rfl (mj_sub hl hk) (kk p l e R s m args below meth c H locs ls Q E C hW hS hl hX hret)
  · rw [z] at hk kk
    exact mj_aload_n hd k hk kk
theorem t_pvSt {i : Nat} {x : Nat} {lv2 : List (Nat × Value)} (hd : decode cc pc = .ok (.astore i, 2)) (hn : i < nL) (hv : (i, t_pv x) :: lv.filter (fun q => !(q.1 == i) && !(q.1 + 1 == i && q.2.category == 2)) = lv2) (kk : mj_G D cy ad bs X cc nL own rt nm d mc ms nE post (pc + 2) lv2 st h n cells slots) : mj_G D cy ad bs X cc nL own rt nm d mc ms nE post pc lv (t_pv x :: st) h n cells slots := by
  rcases t_pvC x with z | z
  · rw [z] at hv ⊢
    intro p l e R s m args below meth c H locs ls Q E C hW hS hl hX hret
    exact lv_astoreN C.1 C.2.1 hd hl hn (by rw [mj_flt1, ← hv]; rfl) (fun ls2 hl2 => kk p l e R s m args below meth c H locs ls2 Q E C hW hS hl2 hX hret)
  · rw [z] at hv ⊢
    exact mj_astore hd hn hv kk
theorem t_pvStn {j : Fin 4} (i : Nat) {x : Nat} {lv2 : List (Nat × Value)} (hd : decode cc pc = .ok (.astore_n j, 1)) (hj : (j : Nat) = i) (hn : i < nL) (hv : (i, t_pv x) :: lv.filter (fun q => !(q.1 == i) && !(q.1 + 1 == i && q.2.category == 2)) = lv2) (kk : mj_G D cy ad bs X cc nL own rt nm d mc ms nE post (pc + 1) lv2 st h n cells slots) : mj_G D cy ad bs X cc nL own rt nm d mc ms nE post pc lv (t_pv x :: st) h n cells slots := by
  rcases t_pvC x with z | z
  · rw [z] at hv ⊢
    intro p l e R s m args below meth c H locs ls Q E C hW hS hl hX hret
    exact lv_astore_nN C.1 C.2.1 hd hj hl hn (by rw [mj_flt1, ← hv]; rfl) (fun ls2 hl2 => kk p l e R s m args below meth c H locs ls2 Q E C hW hS hl2 hX hret)
  · rw [z] at hv ⊢
    exact mj_astore_n i hd hj hn hv kk
end TPV
