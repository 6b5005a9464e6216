theorem mj_in1 {w : Cond} (i : Nat) (e : tables_1_1[i]? = some w) (g : goodWord w = true) : w ∈ mj_TG := List.mem_filter.mpr ⟨List.mem_append_right _ (by have h := List.mem_of_getElem? e; exact (List.mem_append_left _ h)), g⟩
theorem mj_all1 (ws : List Cond) (ps : List Nat) (hp : ws = ps.filterMap (fun i => tables_1_1[i]?)) (g : ws.all goodWord = true) : ∀ w ∈ ws, w ∈ mj_TG := fun w hw => by
  have h1 := List.all_eq_true.mp g w hw
  rw [hp] at hw
  obtain ⟨i, -, hi⟩ := List.mem_filterMap.mp hw
  exact mj_in1 i hi h1
theorem mj_in2 {w : Cond} (i : Nat) (e : tables_1_2[i]? = some w) (g : goodWord w = true) : w ∈ mj_TG := List.mem_filter.mpr ⟨List.mem_append_right _ (by have h := List.mem_of_getElem? e; exact (List.mem_append_right _ (List.mem_append_left _ h))), g⟩
theorem mj_all2 (ws : List Cond) (ps : List Nat) (hp : ws = ps.filterMap (fun i => tables_1_2[i]?)) (g : ws.all goodWord = true) : ∀ w ∈ ws, w ∈ mj_TG := fun w hw => by
  have h1 := List.all_eq_true.mp g w hw
  rw [hp] at hw
  obtain ⟨i, -, hi⟩ := List.mem_filterMap.mp hw
  exact mj_in2 i hi h1
theorem mj_in3 {w : Cond} (i : Nat) (e : tables_1_3[i]? = some w) (g : goodWord w = true) : w ∈ mj_TG := List.mem_filter.mpr ⟨List.mem_append_right _ (by have h := List.mem_of_getElem? e; exact (List.mem_append_right _ (List.mem_append_right _ (List.mem_append_left _ h)))), g⟩
theorem mj_all3 (ws : List Cond) (ps : List Nat) (hp : ws = ps.filterMap (fun i => tables_1_3[i]?)) (g : ws.all goodWord = true) : ∀ w ∈ ws, w ∈ mj_TG := fun w hw => by
  have h1 := List.all_eq_true.mp g w hw
  rw [hp] at hw
  obtain ⟨i, -, hi⟩ := List.mem_filterMap.mp hw
  exact mj_in3 i hi h1
theorem mj_in4 {w : Cond} (i : Nat) (e : tables_1_4[i]? = some w) (g : goodWord w = true) : w ∈ mj_TG := List.mem_filter.mpr ⟨List.mem_append_right _ (by have h := List.mem_of_getElem? e; exact (List.mem_append_right _ (List.mem_append_right _ (List.mem_append_right _ (List.mem_append_left _ h))))), g⟩
theorem mj_all4 (ws : List Cond) (ps : List Nat) (hp : ws = ps.filterMap (fun i => tables_1_4[i]?)) (g : ws.all goodWord = true) : ∀ w ∈ ws, w ∈ mj_TG := fun w hw => by
  have h1 := List.all_eq_true.mp g w hw
  rw [hp] at hw
  obtain ⟨i, -, hi⟩ := List.mem_filterMap.mp hw
  exact mj_in4 i hi h1
theorem mj_in5 {w : Cond} (i : Nat) (e : tables_1_5[i]? = some w) (g : goodWord w = true) : w ∈ mj_TG := List.mem_filter.mpr ⟨List.mem_append_right _ (by have h := List.mem_of_getElem? e; exact (List.mem_append_right _ (List.mem_append_right _ (List.mem_append_right _ (List.mem_append_right _ (List.mem_append_left _ h)))))), g⟩
theorem mj_all5 (ws : List Cond) (ps : List Nat) (hp : ws = ps.filterMap (fun i => tables_1_5[i]?)) (g : ws.all goodWord = true) : ∀ w ∈ ws, w ∈ mj_TG := fun w hw => by
  have h1 := List.all_eq_true.mp g w hw
  rw [hp] at hw
  obtain ⟨i, -, hi⟩ := List.mem_filterMap.mp hw
  exact mj_in5 i hi h1
theorem mj_in6 {w : Cond} (i : Nat) (e : tables_1_6[i]? = some w) (g : goodWord w = true) : w ∈ mj_TG := List.mem_filter.mpr ⟨List.mem_append_right _ (by have h := List.mem_of_getElem? e; exact (List.mem_append_right _ (List.mem_append_right _ (List.mem_append_right _ (List.mem_append_right _ (List.mem_append_right _ (List.mem_append_left _ h))))))), g⟩
theorem mj_all6 (ws : List Cond) (ps : List Nat) (hp : ws = ps.filterMap (fun i => tables_1_6[i]?)) (g : ws.all goodWord = true) : ∀ w ∈ ws, w ∈ mj_TG := fun w hw => by
  have h1 := List.all_eq_true.mp g w hw
  rw [hp] at hw
  obtain ⟨i, -, hi⟩ := List.mem_filterMap.mp hw
  exact mj_in6 i hi h1
theorem mj_in7 {w : Cond} (i : Nat) (e : tables_1_7[i]? = some w) (g : goodWord w = true) : w ∈ mj_TG := List.mem_filter.mpr ⟨List.mem_append_right _ (by have h := List.mem_of_getElem? e; exact (List.mem_append_right _ (List.mem_append_right _ (List.mem_append_right _ (List.mem_append_right _ (List.mem_append_right _ (List.mem_append_right _ (List.mem_append_left _ h)))))))), g⟩
theorem mj_all7 (ws : List Cond) (ps : List Nat) (hp : ws = ps.filterMap (fun i => tables_1_7[i]?)) (g : ws.all goodWord = true) : ∀ w ∈ ws, w ∈ mj_TG := fun w hw => by
  have h1 := List.all_eq_true.mp g w hw
  rw [hp] at hw
  obtain ⟨i, -, hi⟩ := List.mem_filterMap.mp hw
  exact mj_in7 i hi h1
theorem mj_in8 {w : Cond} (i : Nat) (e : tables_1_8[i]? = some w) (g : goodWord w = true) : w ∈ mj_TG := List.mem_filter.mpr ⟨List.mem_append_right _ (by have h := List.mem_of_getElem? e; exact (List.mem_append_right _ (List.mem_append_right _ (List.mem_append_right _ (List.mem_append_right _ (List.mem_append_right _ (List.mem_append_right _ (List.mem_append_right _ (List.mem_append_left _ h))))))))), g⟩
theorem mj_all8 (ws : List Cond) (ps : List Nat) (hp : ws = ps.filterMap (fun i => tables_1_8[i]?)) (g : ws.all goodWord = true) : ∀ w ∈ ws, w ∈ mj_TG := fun w hw => by
  have h1 := List.all_eq_true.mp g w hw
  rw [hp] at hw
  obtain ⟨i, -, hi⟩ := List.mem_filterMap.mp hw
  exact mj_in8 i hi h1
theorem mj_in9 {w : Cond} (i : Nat) (e : tables_1_9[i]? = some w) (g : goodWord w = true) : w ∈ mj_TG := List.mem_filter.mpr ⟨List.mem_append_right _ (by have h := List.mem_of_getElem? e; exact (List.mem_append_right _ (List.mem_append_right _ (List.mem_append_right _ (List.mem_append_right _ (List.mem_append_right _ (List.mem_append_right _ (List.mem_append_right _ (List.mem_append_right _ (List.mem_append_left _ h)))))))))), g⟩
theorem mj_all9 (ws : List Cond) (ps : List Nat) (hp : ws = ps.filterMap (fun i => tables_1_9[i]?)) (g : ws.all goodWord = true) : ∀ w ∈ ws, w ∈ mj_TG := fun w hw => by
  have h1 := List.all_eq_true.mp g w hw
  rw [hp] at hw
  obtain ⟨i, -, hi⟩ := List.mem_filterMap.mp hw
  exact mj_in9 i hi h1
theorem mj_in10 {w : Cond} (i : Nat) (e : tables_1_10[i]? = some w) (g : goodWord w = true) : w ∈ mj_TG := List.mem_filter.mpr ⟨List.mem_append_right _ (by have h := List.mem_of_getElem? e; exact (List.mem_append_right _ (List.mem_append_right _ (List.mem_append_right _ (List.mem_append_right _ (List.mem_append_right _ (List.mem_append_right _ (List.mem_append_right _ (List.mem_append_right _ (List.mem_append_right _ (List.mem_append_left _ h))))))))))), g⟩
theorem mj_all10 (ws : List Cond) (ps : List Nat) (hp : ws = ps.filterMap (fun i => tables_1_10[i]?)) (g : ws.all goodWord = true) : ∀ w ∈ ws, w ∈ mj_TG := fun w hw => by
  have h1 := List.all_eq_true.mp g w hw
  rw [hp] at hw
  obtain ⟨i, -, hi⟩ := List.mem_filterMap.mp hw
  exact mj_in10 i hi h1
theorem mj_in11 {w : Cond} (i : Nat) (e : tables_1_11[i]? = some w) (g : goodWord w = true) : w ∈ mj_TG := List.mem_filter.mpr ⟨List.mem_append_right _ (by have h := List.mem_of_getElem? e; exact (List.mem_append_right _ (List.mem_append_right _ (List.mem_append_right _ (List.mem_append_right _ (List.mem_append_right _ (List.mem_append_right _ (List.mem_append_right _ (List.mem_append_right _ (List.mem_append_right _ (List.mem_append_right _ (List.mem_append_left _ h)))))))))))), g⟩
theorem mj_all11 (ws : List Cond) (ps : List Nat) (hp : ws = ps.filterMap (fun i => tables_1_11[i]?)) (g : ws.all goodWord = true) : ∀ w ∈ ws, w ∈ mj_TG := fun w hw => by
  have h1 := List.all_eq_true.mp g w hw
  rw [hp] at hw
  obtain ⟨i, -, hi⟩ := List.mem_filterMap.mp hw
  exact mj_in11 i hi h1
theorem mj_in12 {w : Cond} (i : Nat) (e : tables_1_12[i]? = some w) (g : goodWord w = true) : w ∈ mj_TG := List.mem_filter.mpr ⟨List.mem_append_right _ (by have h := List.mem_of_getElem? e; exact (List.mem_append_right _ (List.mem_append_right _ (List.mem_append_right _ (List.mem_append_right _ (List.mem_append_right _ (List.mem_append_right _ (List.mem_append_right _ (List.mem_append_right _ (List.mem_append_right _ (List.mem_append_right _ (List.mem_append_right _ (List.mem_append_left _ h))))))))))))), g⟩
theorem mj_all12 (ws : List Cond) (ps : List Nat) (hp : ws = ps.filterMap (fun i => tables_1_12[i]?)) (g : ws.all goodWord = true) : ∀ w ∈ ws, w ∈ mj_TG := fun w hw => by
  have h1 := List.all_eq_true.mp g w hw
  rw [hp] at hw
  obtain ⟨i, -, hi⟩ := List.mem_filterMap.mp hw
  exact mj_in12 i hi h1
theorem mj_in13 {w : Cond} (i : Nat) (e : tables_1_13[i]? = some w) (g : goodWord w = true) : w ∈ mj_TG := List.mem_filter.mpr ⟨List.mem_append_right _ (by have h := List.mem_of_getElem? e; exact (List.mem_append_right _ (List.mem_append_right _ (List.mem_append_right _ (List.mem_append_right _ (List.mem_append_right _ (List.mem_append_right _ (List.mem_append_right _ (List.mem_append_right _ (List.mem_append_right _ (List.mem_append_right _ (List.mem_append_right _ (List.mem_append_right _ (List.mem_append_left _ h)))))))))))))), g⟩
theorem mj_all13 (ws : List Cond) (ps : List Nat) (hp : ws = ps.filterMap (fun i => tables_1_13[i]?)) (g : ws.all goodWord = true) : ∀ w ∈ ws, w ∈ mj_TG := fun w hw => by
  have h1 := List.all_eq_true.mp g w hw
  rw [hp] at hw
  obtain ⟨i, -, hi⟩ := List.mem_filterMap.mp hw
  exact mj_in13 i hi h1
theorem mj_in14 {w : Cond} (i : Nat) (e : tables_1_14[i]? = some w) (g : goodWord w = true) : w ∈ mj_TG := List.mem_filter.mpr ⟨List.mem_append_right _ (by have h := List.mem_of_getElem? e; exact (List.mem_append_right _ (List.mem_append_right _ (List.mem_append_right _ (List.mem_append_right _ (List.mem_append_right _ (List.mem_append_right _ (List.mem_append_right _ (List.mem_append_right _ (List.mem_append_right _ (List.mem_append_right _ (List.mem_append_right _ (List.mem_append_right _ (List.mem_append_right _ (List.mem_append_left _ h))))))))))))))), g⟩
theorem mj_all14 (ws : List Cond) (ps : List Nat) (hp : ws = ps.filterMap (fun i => tables_1_14[i]?)) (g : ws.all goodWord = true) : ∀ w ∈ ws, w ∈ mj_TG := fun w hw => by
  have h1 := List.all_eq_true.mp g w hw
  rw [hp] at hw
  obtain ⟨i, -, hi⟩ := List.mem_filterMap.mp hw
  exact mj_in14 i hi h1
theorem mj_in15 {w : Cond} (i : Nat) (e : tables_1_15[i]? = some w) (g : goodWord w = true) : w ∈ mj_TG := List.mem_filter.mpr ⟨List.mem_append_right _ (by have h := List.mem_of_getElem? e; exact (List.mem_append_right _ (List.mem_append_right _ (List.mem_append_right _ (List.mem_append_right _ (List.mem_append_right _ (List.mem_append_right _ (List.mem_append_right _ (List.mem_append_right _ (List.mem_append_right _ (List.mem_append_right _ (List.mem_append_right _ (List.mem_append_right _ (List.mem_append_right _ (List.mem_append_right _ (List.mem_append_left _ h)))))))))))))))), g⟩
theorem mj_all15 (ws : List Cond) (ps : List Nat) (hp : ws = ps.filterMap (fun i => tables_1_15[i]?)) (g : ws.all goodWord = true) : ∀ w ∈ ws, w ∈ mj_TG := fun w hw => by
  have h1 := List.all_eq_true.mp g w hw
  rw [hp] at hw
  obtain ⟨i, -, hi⟩ := List.mem_filterMap.mp hw
  exact mj_in15 i hi h1
theorem mj_in16 {w : Cond} (i : Nat) (e : tables_1_16[i]? = some w) (g : goodWord w = true) : w ∈ mj_TG := List.mem_filter.mpr ⟨List.mem_append_right _ (by have h := List.mem_of_getElem? e; exact (List.mem_append_right _ (List.mem_append_right _ (List.mem_append_right _ (List.mem_append_right _ (List.mem_append_right _ (List.mem_append_right _ (List.mem_append_right _ (List.mem_append_right _ (List.mem_append_right _ (List.mem_append_right _ (List.mem_append_right _ (List.mem_append_right _ (List.mem_append_right _ (List.mem_append_right _ (List.mem_append_right _ (List.mem_append_left _ h))))))))))))))))), g⟩
theorem mj_all16 (ws : List Cond) (ps : List Nat) (hp : ws = ps.filterMap (fun i => tables_1_16[i]?)) (g : ws.all goodWord = true) : ∀ w ∈ ws, w ∈ mj_TG := fun w hw => by
  have h1 := List.all_eq_true.mp g w hw
  rw [hp] at hw
  obtain ⟨i, -, hi⟩ := List.mem_filterMap.mp hw
  exact mj_in16 i hi h1
theorem mj_in17 {w : Cond} (i : Nat) (e : tables_1_17[i]? = some w) (g : goodWord w = true) : w ∈ mj_TG := List.mem_filter.mpr ⟨List.mem_append_right _ (by have h := List.mem_of_getElem? e; exact (List.mem_append_right _ (List.mem_append_right _ (List.mem_append_right _ (List.mem_append_right _ (List.mem_append_right _ (List.mem_append_right _ (List.mem_append_right _ (List.mem_append_right _ (List.mem_append_right _ (List.mem_append_right _ (List.mem_append_right _ (List.mem_append_right _ (List.mem_append_right _ (List.mem_append_right _ (List.mem_append_right _ (List.mem_append_right _ (List.mem_append_left _ h)))))))))))))))))), g⟩
theorem mj_all17 (ws : List Cond) (ps : List Nat) (hp : ws = ps.filterMap (fun i => tables_1_17[i]?)) (g : ws.all goodWord = true) : ∀ w ∈ ws, w ∈ mj_TG := fun w hw => by
  have h1 := List.all_eq_true.mp g w hw
  rw [hp] at hw
  obtain ⟨i, -, hi⟩ := List.mem_filterMap.mp hw
  exact mj_in17 i hi h1
theorem mj_in18 {w : Cond} (i : Nat) (e : tables_1_18[i]? = some w) (g : goodWord w = true) : w ∈ mj_TG := List.mem_filter.mpr ⟨List.mem_append_right _ (by have h := List.mem_of_getElem? e; exact (List.mem_append_right _ (List.mem_append_right _ (List.mem_append_right _ (List.mem_append_right _ (List.mem_append_right _ (List.mem_append_right _ (List.mem_append_right _ (List.mem_append_right _ (List.mem_append_right _ (List.mem_append_right _ (List.mem_append_right _ (List.mem_append_right _ (List.mem_append_right _ (List.mem_append_right _ (List.mem_append_right _ (List.mem_append_right _ (List.mem_append_right _ (List.mem_append_left _ h))))))))))))))))))), g⟩
theorem mj_all18 (ws : List Cond) (ps : List Nat) (hp : ws = ps.filterMap (fun i => tables_1_18[i]?)) (g : ws.all goodWord = true) : ∀ w ∈ ws, w ∈ mj_TG := fun w hw => by
  have h1 := List.all_eq_true.mp g w hw
  rw [hp] at hw
  obtain ⟨i, -, hi⟩ := List.mem_filterMap.mp hw
  exact mj_in18 i hi h1
theorem mj_in19 {w : Cond} (i : Nat) (e : tables_1_19[i]? = some w) (g : goodWord w = true) : w ∈ mj_TG := List.mem_filter.mpr ⟨List.mem_append_right _ (by have h := List.mem_of_getElem? e; exact (List.mem_append_right _ (List.mem_append_right _ (List.mem_append_right _ (List.mem_append_right _ (List.mem_append_right _ (List.mem_append_right _ (List.mem_append_right _ (List.mem_append_right _ (List.mem_append_right _ (List.mem_append_right _ (List.mem_append_right _ (List.mem_append_right _ (List.mem_append_right _ (List.mem_append_right _ (List.mem_append_right _ (List.mem_append_right _ (List.mem_append_right _ (List.mem_append_right _ (h)))))))))))))))))))), g⟩
theorem mj_all19 (ws : List Cond) (ps : List Nat) (hp : ws = ps.filterMap (fun i => tables_1_19[i]?)) (g : ws.all goodWord = true) : ∀ w ∈ ws, w ∈ mj_TG := fun w hw => by
  have h1 := List.all_eq_true.mp g w hw
  rw [hp] at hw
  obtain ⟨i, -, hi⟩ := List.mem_filterMap.mp hw
  exact mj_in19 i hi h1
theorem mj_sl1 {q : MethodName × Nat} (i : Nat) (e : lw_privs_1[i]? = some q) : Cond.selects q.1.cls q.1 q.1 ∈ mj_TG := List.mem_filter.mpr ⟨List.mem_append_left _ (List.mem_map.mpr ⟨q, (by have h := List.mem_of_getElem? e; exact (List.mem_append_left _ h)), rfl⟩), rfl⟩
theorem mj_sl2 {q : MethodName × Nat} (i : Nat) (e : lw_privs_2[i]? = some q) : Cond.selects q.1.cls q.1 q.1 ∈ mj_TG := List.mem_filter.mpr ⟨List.mem_append_left _ (List.mem_map.mpr ⟨q, (by have h := List.mem_of_getElem? e; exact (List.mem_append_right _ (List.mem_append_left _ h))), rfl⟩), rfl⟩
theorem mj_sl3 {q : MethodName × Nat} (i : Nat) (e : lw_privs_3[i]? = some q) : Cond.selects q.1.cls q.1 q.1 ∈ mj_TG := List.mem_filter.mpr ⟨List.mem_append_left _ (List.mem_map.mpr ⟨q, (by have h := List.mem_of_getElem? e; exact (List.mem_append_right _ (List.mem_append_right _ (List.mem_append_left _ h)))), rfl⟩), rfl⟩
theorem mj_sl4 {q : MethodName × Nat} (i : Nat) (e : lw_privs_4[i]? = some q) : Cond.selects q.1.cls q.1 q.1 ∈ mj_TG := List.mem_filter.mpr ⟨List.mem_append_left _ (List.mem_map.mpr ⟨q, (by have h := List.mem_of_getElem? e; exact (List.mem_append_right _ (List.mem_append_right _ (List.mem_append_right _ (List.mem_append_left _ h))))), rfl⟩), rfl⟩
theorem mj_sl5 {q : MethodName × Nat} (i : Nat) (e : lw_privs_5[i]? = some q) : Cond.selects q.1.cls q.1 q.1 ∈ mj_TG := List.mem_filter.mpr ⟨List.mem_append_left _ (List.mem_map.mpr ⟨q, (by have h := List.mem_of_getElem? e; exact (List.mem_append_right _ (List.mem_append_right _ (List.mem_append_right _ (List.mem_append_right _ (List.mem_append_left _ h)))))), rfl⟩), rfl⟩
theorem mj_sl6 {q : MethodName × Nat} (i : Nat) (e : lw_privs_6[i]? = some q) : Cond.selects q.1.cls q.1 q.1 ∈ mj_TG := List.mem_filter.mpr ⟨List.mem_append_left _ (List.mem_map.mpr ⟨q, (by have h := List.mem_of_getElem? e; exact (List.mem_append_right _ (List.mem_append_right _ (List.mem_append_right _ (List.mem_append_right _ (List.mem_append_right _ (List.mem_append_left _ h))))))), rfl⟩), rfl⟩
theorem mj_sl7 {q : MethodName × Nat} (i : Nat) (e : lw_privs_7[i]? = some q) : Cond.selects q.1.cls q.1 q.1 ∈ mj_TG := List.mem_filter.mpr ⟨List.mem_append_left _ (List.mem_map.mpr ⟨q, (by have h := List.mem_of_getElem? e; exact (List.mem_append_right _ (List.mem_append_right _ (List.mem_append_right _ (List.mem_append_right _ (List.mem_append_right _ (List.mem_append_right _ (List.mem_append_left _ h)))))))), rfl⟩), rfl⟩
theorem mj_sl8 {q : MethodName × Nat} (i : Nat) (e : lw_privs_8[i]? = some q) : Cond.selects q.1.cls q.1 q.1 ∈ mj_TG := List.mem_filter.mpr ⟨List.mem_append_left _ (List.mem_map.mpr ⟨q, (by have h := List.mem_of_getElem? e; exact (List.mem_append_right _ (List.mem_append_right _ (List.mem_append_right _ (List.mem_append_right _ (List.mem_append_right _ (List.mem_append_right _ (List.mem_append_right _ (List.mem_append_left _ h))))))))), rfl⟩), rfl⟩
theorem mj_sl9 {q : MethodName × Nat} (i : Nat) (e : lw_privs_9[i]? = some q) : Cond.selects q.1.cls q.1 q.1 ∈ mj_TG := List.mem_filter.mpr ⟨List.mem_append_left _ (List.mem_map.mpr ⟨q, (by have h := List.mem_of_getElem? e; exact (List.mem_append_right _ (List.mem_append_right _ (List.mem_append_right _ (List.mem_append_right _ (List.mem_append_right _ (List.mem_append_right _ (List.mem_append_right _ (List.mem_append_right _ (List.mem_append_left _ h)))))))))), rfl⟩), rfl⟩
theorem mj_sl10 {q : MethodName × Nat} (i : Nat) (e : lw_privs_10[i]? = some q) : Cond.selects q.1.cls q.1 q.1 ∈ mj_TG := List.mem_filter.mpr ⟨List.mem_append_left _ (List.mem_map.mpr ⟨q, (by have h := List.mem_of_getElem? e; exact (List.mem_append_right _ (List.mem_append_right _ (List.mem_append_right _ (List.mem_append_right _ (List.mem_append_right _ (List.mem_append_right _ (List.mem_append_right _ (List.mem_append_right _ (List.mem_append_right _ (List.mem_append_left _ h))))))))))), rfl⟩), rfl⟩
theorem mj_sl11 {q : MethodName × Nat} (i : Nat) (e : lw_privs_11[i]? = some q) : Cond.selects q.1.cls q.1 q.1 ∈ mj_TG := List.mem_filter.mpr ⟨List.mem_append_left _ (List.mem_map.mpr ⟨q, (by have h := List.mem_of_getElem? e; exact (List.mem_append_right _ (List.mem_append_right _ (List.mem_append_right _ (List.mem_append_right _ (List.mem_append_right _ (List.mem_append_right _ (List.mem_append_right _ (List.mem_append_right _ (List.mem_append_right _ (List.mem_append_right _ (List.mem_append_left _ h)))))))))))), rfl⟩), rfl⟩
theorem mj_sl12 {q : MethodName × Nat} (i : Nat) (e : lw_privs_12[i]? = some q) : Cond.selects q.1.cls q.1 q.1 ∈ mj_TG := List.mem_filter.mpr ⟨List.mem_append_left _ (List.mem_map.mpr ⟨q, (by have h := List.mem_of_getElem? e; exact (List.mem_append_right _ (List.mem_append_right _ (List.mem_append_right _ (List.mem_append_right _ (List.mem_append_right _ (List.mem_append_right _ (List.mem_append_right _ (List.mem_append_right _ (List.mem_append_right _ (List.mem_append_right _ (List.mem_append_right _ (List.mem_append_left _ h))))))))))))), rfl⟩), rfl⟩
theorem mj_sl13 {q : MethodName × Nat} (i : Nat) (e : lw_privs_13[i]? = some q) : Cond.selects q.1.cls q.1 q.1 ∈ mj_TG := List.mem_filter.mpr ⟨List.mem_append_left _ (List.mem_map.mpr ⟨q, (by have h := List.mem_of_getElem? e; exact (List.mem_append_right _ (List.mem_append_right _ (List.mem_append_right _ (List.mem_append_right _ (List.mem_append_right _ (List.mem_append_right _ (List.mem_append_right _ (List.mem_append_right _ (List.mem_append_right _ (List.mem_append_right _ (List.mem_append_right _ (List.mem_append_right _ (List.mem_append_left _ h)))))))))))))), rfl⟩), rfl⟩
theorem mj_sl14 {q : MethodName × Nat} (i : Nat) (e : lw_privs_14[i]? = some q) : Cond.selects q.1.cls q.1 q.1 ∈ mj_TG := List.mem_filter.mpr ⟨List.mem_append_left _ (List.mem_map.mpr ⟨q, (by have h := List.mem_of_getElem? e; exact (List.mem_append_right _ (List.mem_append_right _ (List.mem_append_right _ (List.mem_append_right _ (List.mem_append_right _ (List.mem_append_right _ (List.mem_append_right _ (List.mem_append_right _ (List.mem_append_right _ (List.mem_append_right _ (List.mem_append_right _ (List.mem_append_right _ (List.mem_append_right _ (List.mem_append_left _ h))))))))))))))), rfl⟩), rfl⟩
theorem mj_sl15 {q : MethodName × Nat} (i : Nat) (e : lw_privs_15[i]? = some q) : Cond.selects q.1.cls q.1 q.1 ∈ mj_TG := List.mem_filter.mpr ⟨List.mem_append_left _ (List.mem_map.mpr ⟨q, (by have h := List.mem_of_getElem? e; exact (List.mem_append_right _ (List.mem_append_right _ (List.mem_append_right _ (List.mem_append_right _ (List.mem_append_right _ (List.mem_append_right _ (List.mem_append_right _ (List.mem_append_right _ (List.mem_append_right _ (List.mem_append_right _ (List.mem_append_right _ (List.mem_append_right _ (List.mem_append_right _ (List.mem_append_right _ (List.mem_append_left _ h)))))))))))))))), rfl⟩), rfl⟩
theorem mj_sl16 {q : MethodName × Nat} (i : Nat) (e : lw_privs_16[i]? = some q) : Cond.selects q.1.cls q.1 q.1 ∈ mj_TG := List.mem_filter.mpr ⟨List.mem_append_left _ (List.mem_map.mpr ⟨q, (by have h := List.mem_of_getElem? e; exact (List.mem_append_right _ (List.mem_append_right _ (List.mem_append_right _ (List.mem_append_right _ (List.mem_append_right _ (List.mem_append_right _ (List.mem_append_right _ (List.mem_append_right _ (List.mem_append_right _ (List.mem_append_right _ (List.mem_append_right _ (List.mem_append_right _ (List.mem_append_right _ (List.mem_append_right _ (List.mem_append_right _ (List.mem_append_left _ h))))))))))))))))), rfl⟩), rfl⟩
theorem mj_sl17 {q : MethodName × Nat} (i : Nat) (e : lw_privs_17[i]? = some q) : Cond.selects q.1.cls q.1 q.1 ∈ mj_TG := List.mem_filter.mpr ⟨List.mem_append_left _ (List.mem_map.mpr ⟨q, (by have h := List.mem_of_getElem? e; exact (List.mem_append_right _ (List.mem_append_right _ (List.mem_append_right _ (List.mem_append_right _ (List.mem_append_right _ (List.mem_append_right _ (List.mem_append_right _ (List.mem_append_right _ (List.mem_append_right _ (List.mem_append_right _ (List.mem_append_right _ (List.mem_append_right _ (List.mem_append_right _ (List.mem_append_right _ (List.mem_append_right _ (List.mem_append_right _ (List.mem_append_left _ h)))))))))))))))))), rfl⟩), rfl⟩
theorem mj_sl18 {q : MethodName × Nat} (i : Nat) (e : lw_privs_18[i]? = some q) : Cond.selects q.1.cls q.1 q.1 ∈ mj_TG := List.mem_filter.mpr ⟨List.mem_append_left _ (List.mem_map.mpr ⟨q, (by have h := List.mem_of_getElem? e; exact (List.mem_append_right _ (List.mem_append_right _ (List.mem_append_right _ (List.mem_append_right _ (List.mem_append_right _ (List.mem_append_right _ (List.mem_append_right _ (List.mem_append_right _ (List.mem_append_right _ (List.mem_append_right _ (List.mem_append_right _ (List.mem_append_right _ (List.mem_append_right _ (List.mem_append_right _ (List.mem_append_right _ (List.mem_append_right _ (List.mem_append_right _ (List.mem_append_left _ h))))))))))))))))))), rfl⟩), rfl⟩
theorem mj_sl19 {q : MethodName × Nat} (i : Nat) (e : lw_privs_19[i]? = some q) : Cond.selects q.1.cls q.1 q.1 ∈ mj_TG := List.mem_filter.mpr ⟨List.mem_append_left _ (List.mem_map.mpr ⟨q, (by have h := List.mem_of_getElem? e; exact (List.mem_append_right _ (List.mem_append_right _ (List.mem_append_right _ (List.mem_append_right _ (List.mem_append_right _ (List.mem_append_right _ (List.mem_append_right _ (List.mem_append_right _ (List.mem_append_right _ (List.mem_append_right _ (List.mem_append_right _ (List.mem_append_right _ (List.mem_append_right _ (List.mem_append_right _ (List.mem_append_right _ (List.mem_append_right _ (List.mem_append_right _ (List.mem_append_right _ (List.mem_append_left _ h)))))))))))))))))))), rfl⟩), rfl⟩
theorem mj_sl20 {q : MethodName × Nat} (i : Nat) (e : lw_privs_20[i]? = some q) : Cond.selects q.1.cls q.1 q.1 ∈ mj_TG := List.mem_filter.mpr ⟨List.mem_append_left _ (List.mem_map.mpr ⟨q, (by have h := List.mem_of_getElem? e; exact (List.mem_append_right _ (List.mem_append_right _ (List.mem_append_right _ (List.mem_append_right _ (List.mem_append_right _ (List.mem_append_right _ (List.mem_append_right _ (List.mem_append_right _ (List.mem_append_right _ (List.mem_append_right _ (List.mem_append_right _ (List.mem_append_right _ (List.mem_append_right _ (List.mem_append_right _ (List.mem_append_right _ (List.mem_append_right _ (List.mem_append_right _ (List.mem_append_right _ (List.mem_append_right _ (List.mem_append_left _ h))))))))))))))))))))), rfl⟩), rfl⟩
theorem mj_sl21 {q : MethodName × Nat} (i : Nat) (e : lw_privs_21[i]? = some q) : Cond.selects q.1.cls q.1 q.1 ∈ mj_TG := List.mem_filter.mpr ⟨List.mem_append_left _ (List.mem_map.mpr ⟨q, (by have h := List.mem_of_getElem? e; exact (List.mem_append_right _ (List.mem_append_right _ (List.mem_append_right _ (List.mem_append_right _ (List.mem_append_right _ (List.mem_append_right _ (List.mem_append_right _ (List.mem_append_right _ (List.mem_append_right _ (List.mem_append_right _ (List.mem_append_right _ (List.mem_append_right _ (List.mem_append_right _ (List.mem_append_right _ (List.mem_append_right _ (List.mem_append_right _ (List.mem_append_right _ (List.mem_append_right _ (List.mem_append_right _ (List.mem_append_right _ (List.mem_append_left _ h)))))))))))))))))))))), rfl⟩), rfl⟩
theorem mj_sl22 {q : MethodName × Nat} (i : Nat) (e : lw_privs_22[i]? = some q) : Cond.selects q.1.cls q.1 q.1 ∈ mj_TG := List.mem_filter.mpr ⟨List.mem_append_left _ (List.mem_map.mpr ⟨q, (by have h := List.mem_of_getElem? e; exact (List.mem_append_right _ (List.mem_append_right _ (List.mem_append_right _ (List.mem_append_right _ (List.mem_append_right _ (List.mem_append_right _ (List.mem_append_right _ (List.mem_append_right _ (List.mem_append_right _ (List.mem_append_right _ (List.mem_append_right _ (List.mem_append_right _ (List.mem_append_right _ (List.mem_append_right _ (List.mem_append_right _ (List.mem_append_right _ (List.mem_append_right _ (List.mem_append_right _ (List.mem_append_right _ (List.mem_append_right _ (List.mem_append_right _ (List.mem_append_left _ h))))))))))))))))))))))), rfl⟩), rfl⟩
theorem mj_sl23 {q : MethodName × Nat} (i : Nat) (e : lw_privs_23[i]? = some q) : Cond.selects q.1.cls q.1 q.1 ∈ mj_TG := List.mem_filter.mpr ⟨List.mem_append_left _ (List.mem_map.mpr ⟨q, (by have h := List.mem_of_getElem? e; exact (List.mem_append_right _ (List.mem_append_right _ (List.mem_append_right _ (List.mem_append_right _ (List.mem_append_right _ (List.mem_append_right _ (List.mem_append_right _ (List.mem_append_right _ (List.mem_append_right _ (List.mem_append_right _ (List.mem_append_right _ (List.mem_append_right _ (List.mem_append_right _ (List.mem_append_right _ (List.mem_append_right _ (List.mem_append_right _ (List.mem_append_right _ (List.mem_append_right _ (List.mem_append_right _ (List.mem_append_right _ (List.mem_append_right _ (List.mem_append_right _ (List.mem_append_left _ h)))))))))))))))))))))))), rfl⟩), rfl⟩
theorem mj_sl24 {q : MethodName × Nat} (i : Nat) (e : lw_privs_24[i]? = some q) : Cond.selects q.1.cls q.1 q.1 ∈ mj_TG := List.mem_filter.mpr ⟨List.mem_append_left _ (List.mem_map.mpr ⟨q, (by have h := List.mem_of_getElem? e; exact (List.mem_append_right _ (List.mem_append_right _ (List.mem_append_right _ (List.mem_append_right _ (List.mem_append_right _ (List.mem_append_right _ (List.mem_append_right _ (List.mem_append_right _ (List.mem_append_right _ (List.mem_append_right _ (List.mem_append_right _ (List.mem_append_right _ (List.mem_append_right _ (List.mem_append_right _ (List.mem_append_right _ (List.mem_append_right _ (List.mem_append_right _ (List.mem_append_right _ (List.mem_append_right _ (List.mem_append_right _ (List.mem_append_right _ (List.mem_append_right _ (List.mem_append_right _ (List.mem_append_left _ h))))))))))))))))))))))))), rfl⟩), rfl⟩
theorem mj_sl25 {q : MethodName × Nat} (i : Nat) (e : lw_privs_25[i]? = some q) : Cond.selects q.1.cls q.1 q.1 ∈ mj_TG := List.mem_filter.mpr ⟨List.mem_append_left _ (List.mem_map.mpr ⟨q, (by have h := List.mem_of_getElem? e; exact (List.mem_append_right _ (List.mem_append_right _ (List.mem_append_right _ (List.mem_append_right _ (List.mem_append_right _ (List.mem_append_right _ (List.mem_append_right _ (List.mem_append_right _ (List.mem_append_right _ (List.mem_append_right _ (List.mem_append_right _ (List.mem_append_right _ (List.mem_append_right _ (List.mem_append_right _ (List.mem_append_right _ (List.mem_append_right _ (List.mem_append_right _ (List.mem_append_right _ (List.mem_append_right _ (List.mem_append_right _ (List.mem_append_right _ (List.mem_append_right _ (List.mem_append_right _ (List.mem_append_right _ (h)))))))))))))))))))))))))), rfl⟩), rfl⟩
theorem mj_layX0_0 : ∀ w ∈ (List.range 11).map (fun i => u_lay RX0 TX0 (0 + i)), w ∈ mj_TG := mj_all2 _ [219, 221, 223, 225, 227, 229, 231, 233, 235, 237, 239] (by decide +kernel) (by decide +kernel)
theorem mj_layX0_1 : ∀ w ∈ (List.range 10).map (fun i => u_lay RX0 TX0 (11 + i)), w ∈ mj_TG := mj_all3 _ [1, 3, 5, 7, 9, 11, 13, 15, 17, 19] (by decide +kernel) (by decide +kernel)
theorem mj_layX0 : ∀ w ∈ u_ws RX0 TX0 21, w ∈ mj_TG := by
  intro w hw
  obtain ⟨k, hk, rfl⟩ := List.mem_map.mp hw
  have hk := List.mem_range.mp hk
  rcases (show (0 ≤ k ∧ k < 11) ∨ (11 ≤ k ∧ k < 21) by omega) with hk2 | hk2
  · exact mj_layX0_0 _ (List.mem_map.mpr ⟨k - 0, List.mem_range.mpr (by omega), by rw [show 0 + (k - 0) = k by omega]⟩)
  · exact mj_layX0_1 _ (List.mem_map.mpr ⟨k - 11, List.mem_range.mpr (by omega), by rw [show 11 + (k - 11) = k by omega]⟩)
theorem CL_X0 : mj_cl 0 RX0 TX0 21 := ⟨rfl, mj_layX0, tyX0, tyX0_ok, nmX0⟩
theorem mj_layX1_0 : ∀ w ∈ (List.range 16).map (fun i => u_lay RX1 TX1 (0 + i)), w ∈ mj_TG := mj_all4 _ [105, 107, 109, 111, 113, 115, 117, 119, 121, 123, 125, 127, 129, 131, 133, 135] (by decide +kernel) (by decide +kernel)
theorem mj_layX1 : ∀ w ∈ u_ws RX1 TX1 16, w ∈ mj_TG := by
  intro w hw
  obtain ⟨k, hk, rfl⟩ := List.mem_map.mp hw
  have hk := List.mem_range.mp hk
  rcases (show (0 ≤ k ∧ k < 16) by omega) with hk2
  · exact mj_layX1_0 _ (List.mem_map.mpr ⟨k - 0, List.mem_range.mpr (by omega), by rw [show 0 + (k - 0) = k by omega]⟩)
theorem CL_X1 : mj_cl 1 RX1 TX1 16 := ⟨rfl, mj_layX1, tyX1, tyX1_ok, nmX1⟩
theorem mj_layX2_0 : ∀ w ∈ (List.range 20).map (fun i => u_lay RX2 TX2 (0 + i)), w ∈ mj_TG := mj_all1 _ [140, 142, 144, 146, 148, 150, 152, 154, 156, 158, 160, 162, 164, 166, 168, 170, 172, 174, 176, 178] (by decide +kernel) (by decide +kernel)
theorem mj_layX2 : ∀ w ∈ u_ws RX2 TX2 20, w ∈ mj_TG := by
  intro w hw
  obtain ⟨k, hk, rfl⟩ := List.mem_map.mp hw
  have hk := List.mem_range.mp hk
  rcases (show (0 ≤ k ∧ k < 20) by omega) with hk2
  · exact mj_layX2_0 _ (List.mem_map.mpr ⟨k - 0, List.mem_range.mpr (by omega), by rw [show 0 + (k - 0) = k by omega]⟩)
theorem CL_X2 : mj_cl 2 RX2 TX2 20 := ⟨rfl, mj_layX2, tyX2, tyX2_ok, nmX2⟩
theorem mj_layX3_0 : ∀ w ∈ (List.range 9).map (fun i => u_lay RX3 TX3 (0 + i)), w ∈ mj_TG := mj_all4 _ [2, 4, 6, 8, 10, 12, 14, 16, 18] (by decide +kernel) (by decide +kernel)
theorem mj_layX3 : ∀ w ∈ u_ws RX3 TX3 9, w ∈ mj_TG := by
  intro w hw
  obtain ⟨k, hk, rfl⟩ := List.mem_map.mp hw
  have hk := List.mem_range.mp hk
  rcases (show (0 ≤ k ∧ k < 9) by omega) with hk2
  · exact mj_layX3_0 _ (List.mem_map.mpr ⟨k - 0, List.mem_range.mpr (by omega), by rw [show 0 + (k - 0) = k by omega]⟩)
theorem CL_X3 : mj_cl 3 RX3 TX3 9 := ⟨rfl, mj_layX3, tyX3, tyX3_ok, nmX3⟩
theorem mj_layX4_0 : ∀ w ∈ (List.range 17).map (fun i => u_lay RX4 TX4 (0 + i)), w ∈ mj_TG := mj_all2 _ [141, 143, 145, 147, 149, 151, 153, 155, 157, 159, 161, 163, 165, 167, 169, 171, 173] (by decide +kernel) (by decide +kernel)
theorem mj_layX4 : ∀ w ∈ u_ws RX4 TX4 17, w ∈ mj_TG := by
  intro w hw
  obtain ⟨k, hk, rfl⟩ := List.mem_map.mp hw
  have hk := List.mem_range.mp hk
  rcases (show (0 ≤ k ∧ k < 17) by omega) with hk2
  · exact mj_layX4_0 _ (List.mem_map.mpr ⟨k - 0, List.mem_range.mpr (by omega), by rw [show 0 + (k - 0) = k by omega]⟩)
theorem CL_X4 : mj_cl 4 RX4 TX4 17 := ⟨rfl, mj_layX4, tyX4, tyX4_ok, nmX4⟩
theorem mj_layX5_0 : ∀ w ∈ (List.range 19).map (fun i => u_lay RX5 TX5 (0 + i)), w ∈ mj_TG := mj_all3 _ [178, 180, 182, 184, 186, 188, 190, 192, 194, 196, 198, 200, 202, 204, 206, 208, 210, 212, 214] (by decide +kernel) (by decide +kernel)
theorem mj_layX5 : ∀ w ∈ u_ws RX5 TX5 19, w ∈ mj_TG := by
  intro w hw
  obtain ⟨k, hk, rfl⟩ := List.mem_map.mp hw
  have hk := List.mem_range.mp hk
  rcases (show (0 ≤ k ∧ k < 19) by omega) with hk2
  · exact mj_layX5_0 _ (List.mem_map.mpr ⟨k - 0, List.mem_range.mpr (by omega), by rw [show 0 + (k - 0) = k by omega]⟩)
theorem CL_X5 : mj_cl 5 RX5 TX5 19 := ⟨rfl, mj_layX5, tyX5, tyX5_ok, nmX5⟩
theorem mj_layX6_0 : ∀ w ∈ (List.range 17).map (fun i => u_lay RX6 TX6 (0 + i)), w ∈ mj_TG := mj_all4 _ [43, 45, 47, 49, 51, 53, 55, 57, 59, 61, 63, 65, 67, 69, 71, 73, 75] (by decide +kernel) (by decide +kernel)
theorem mj_layX6 : ∀ w ∈ u_ws RX6 TX6 17, w ∈ mj_TG := by
  intro w hw
  obtain ⟨k, hk, rfl⟩ := List.mem_map.mp hw
  have hk := List.mem_range.mp hk
  rcases (show (0 ≤ k ∧ k < 17) by omega) with hk2
  · exact mj_layX6_0 _ (List.mem_map.mpr ⟨k - 0, List.mem_range.mpr (by omega), by rw [show 0 + (k - 0) = k by omega]⟩)
theorem CL_X6 : mj_cl 6 RX6 TX6 17 := ⟨rfl, mj_layX6, tyX6, tyX6_ok, nmX6⟩
theorem mj_layX7_0 : ∀ w ∈ (List.range 12).map (fun i => u_lay RX7 TX7 (0 + i)), w ∈ mj_TG := mj_all4 _ [163, 165, 167, 169, 171, 173, 175, 177, 179, 181, 183, 185] (by decide +kernel) (by decide +kernel)
theorem mj_layX7 : ∀ w ∈ u_ws RX7 TX7 12, w ∈ mj_TG := by
  intro w hw
  obtain ⟨k, hk, rfl⟩ := List.mem_map.mp hw
  have hk := List.mem_range.mp hk
  rcases (show (0 ≤ k ∧ k < 12) by omega) with hk2
  · exact mj_layX7_0 _ (List.mem_map.mpr ⟨k - 0, List.mem_range.mpr (by omega), by rw [show 0 + (k - 0) = k by omega]⟩)
theorem CL_X7 : mj_cl 7 RX7 TX7 12 := ⟨rfl, mj_layX7, tyX7, tyX7_ok, nmX7⟩
theorem mj_layX8_0 : ∀ w ∈ (List.range 6).map (fun i => u_lay RX8 TX8 (0 + i)), w ∈ mj_TG := mj_all1 _ [212, 214, 216, 218, 220, 222] (by decide +kernel) (by decide +kernel)
theorem mj_layX8 : ∀ w ∈ u_ws RX8 TX8 6, w ∈ mj_TG := by
  intro w hw
  obtain ⟨k, hk, rfl⟩ := List.mem_map.mp hw
  have hk := List.mem_range.mp hk
  rcases (show (0 ≤ k ∧ k < 6) by omega) with hk2
  · exact mj_layX8_0 _ (List.mem_map.mpr ⟨k - 0, List.mem_range.mpr (by omega), by rw [show 0 + (k - 0) = k by omega]⟩)
theorem CL_X8 : mj_cl 8 RX8 TX8 6 := ⟨rfl, mj_layX8, tyX8, tyX8_ok, nmX8⟩
theorem mj_layX9_0 : ∀ w ∈ (List.range 4).map (fun i => u_lay RX9 TX9 (0 + i)), w ∈ mj_TG := mj_all4 _ [202, 204, 206, 208] (by decide +kernel) (by decide +kernel)
theorem mj_layX9 : ∀ w ∈ u_ws RX9 TX9 4, w ∈ mj_TG := by
  intro w hw
  obtain ⟨k, hk, rfl⟩ := List.mem_map.mp hw
  have hk := List.mem_range.mp hk
  rcases (show (0 ≤ k ∧ k < 4) by omega) with hk2
  · exact mj_layX9_0 _ (List.mem_map.mpr ⟨k - 0, List.mem_range.mpr (by omega), by rw [show 0 + (k - 0) = k by omega]⟩)
theorem CL_X9 : mj_cl 9 RX9 TX9 4 := ⟨rfl, mj_layX9, tyX9, tyX9_ok, nmX9⟩
theorem mj_layX10_0 : ∀ w ∈ (List.range 22).map (fun i => u_lay RX10 TX10 (0 + i)), w ∈ mj_TG := mj_all3 _ [70, 72, 74, 76, 78, 80, 82, 84, 86, 88, 90, 92, 94, 96, 98, 100, 102, 104, 106, 108, 110, 112] (by decide +kernel) (by decide +kernel)
theorem mj_layX10 : ∀ w ∈ u_ws RX10 TX10 22, w ∈ mj_TG := by
  intro w hw
  obtain ⟨k, hk, rfl⟩ := List.mem_map.mp hw
  have hk := List.mem_range.mp hk
  rcases (show (0 ≤ k ∧ k < 22) by omega) with hk2
  · exact mj_layX10_0 _ (List.mem_map.mpr ⟨k - 0, List.mem_range.mpr (by omega), by rw [show 0 + (k - 0) = k by omega]⟩)
theorem CL_X10 : mj_cl 10 RX10 TX10 22 := ⟨rfl, mj_layX10, tyX10, tyX10_ok, nmX10⟩
theorem mj_layX11_0 : ∀ w ∈ (List.range 21).map (fun i => u_lay RX11 TX11 (0 + i)), w ∈ mj_TG := mj_all2 _ [40, 42, 44, 46, 48, 50, 52, 54, 56, 58, 60, 62, 64, 66, 68, 70, 72, 74, 76, 78, 80] (by decide +kernel) (by decide +kernel)
theorem mj_layX11 : ∀ w ∈ u_ws RX11 TX11 21, w ∈ mj_TG := by
  intro w hw
  obtain ⟨k, hk, rfl⟩ := List.mem_map.mp hw
  have hk := List.mem_range.mp hk
  rcases (show (0 ≤ k ∧ k < 21) by omega) with hk2
  · exact mj_layX11_0 _ (List.mem_map.mpr ⟨k - 0, List.mem_range.mpr (by omega), by rw [show 0 + (k - 0) = k by omega]⟩)
theorem CL_X11 : mj_cl 11 RX11 TX11 21 := ⟨rfl, mj_layX11, tyX11, tyX11_ok, nmX11⟩
theorem mj_layX12_0 : ∀ w ∈ (List.range 8).map (fun i => u_lay RX12 TX12 (0 + i)), w ∈ mj_TG := mj_all4 _ [224, 226, 228, 230, 232, 234, 236, 238] (by decide +kernel) (by decide +kernel)
theorem mj_layX12_1 : ∀ w ∈ (List.range 5).map (fun i => u_lay RX12 TX12 (8 + i)), w ∈ mj_TG := mj_all5 _ [0, 2, 4, 6, 8] (by decide +kernel) (by decide +kernel)
theorem mj_layX12 : ∀ w ∈ u_ws RX12 TX12 13, w ∈ mj_TG := by
  intro w hw
  obtain ⟨k, hk, rfl⟩ := List.mem_map.mp hw
  have hk := List.mem_range.mp hk
  rcases (show (0 ≤ k ∧ k < 8) ∨ (8 ≤ k ∧ k < 13) by omega) with hk2 | hk2
  · exact mj_layX12_0 _ (List.mem_map.mpr ⟨k - 0, List.mem_range.mpr (by omega), by rw [show 0 + (k - 0) = k by omega]⟩)
  · exact mj_layX12_1 _ (List.mem_map.mpr ⟨k - 8, List.mem_range.mpr (by omega), by rw [show 8 + (k - 8) = k by omega]⟩)
theorem CL_X12 : mj_cl 12 RX12 TX12 13 := ⟨rfl, mj_layX12, tyX12, tyX12_ok, nmX12⟩
theorem mj_layX13_0 : ∀ w ∈ (List.range 35).map (fun i => u_lay RX13 TX13 (0 + i)), w ∈ mj_TG := mj_all12 _ [170, 172, 174, 176, 178, 180, 182, 184, 186, 188, 190, 192, 194, 196, 198, 200, 202, 204, 206, 208, 210, 212, 214, 216, 218, 220, 222, 224, 226, 228, 230, 232, 234, 236, 238] (by decide +kernel) (by decide +kernel)
theorem mj_layX13_1 : ∀ w ∈ (List.range 120).map (fun i => u_lay RX13 TX13 (35 + i)), w ∈ mj_TG := mj_all13 _ [0, 2, 4, 6, 8, 10, 12, 14, 16, 18, 20, 22, 24, 26, 28, 30, 32, 34, 36, 38, 40, 42, 44, 46, 48, 50, 52, 54, 56, 58, 60, 62, 64, 66, 68, 70, 72, 74, 76, 78, 80, 82, 84, 86, 88, 90, 92, 94, 96, 98, 100, 102, 104, 106, 108, 110, 112, 114, 116, 118, 120, 122, 124, 126, 128, 130, 132, 134, 136, 138, 140, 142, 144, 146, 148, 150, 152, 154, 156, 158, 160, 162, 164, 166, 168, 170, 172, 174, 176, 178, 180, 182, 184, 186, 188, 190, 192, 194, 196, 198, 200, 202, 204, 206, 208, 210, 212, 214, 216, 218, 220, 222, 224, 226, 228, 230, 232, 234, 236, 238] (by decide +kernel) (by decide +kernel)
theorem mj_layX13_2 : ∀ w ∈ (List.range 35).map (fun i => u_lay RX13 TX13 (155 + i)), w ∈ mj_TG := mj_all14 _ [0, 2, 4, 6, 8, 10, 12, 14, 16, 18, 20, 22, 24, 26, 28, 30, 32, 34, 36, 38, 40, 42, 44, 46, 48, 50, 52, 54, 56, 58, 60, 62, 64, 66, 68] (by decide +kernel) (by decide +kernel)
theorem mj_layX13 : ∀ w ∈ u_ws RX13 TX13 190, w ∈ mj_TG := by
  intro w hw
  obtain ⟨k, hk, rfl⟩ := List.mem_map.mp hw
  have hk := List.mem_range.mp hk
  rcases (show (0 ≤ k ∧ k < 35) ∨ (35 ≤ k ∧ k < 155) ∨ (155 ≤ k ∧ k < 190) by omega) with hk2 | hk2 | hk2
  · exact mj_layX13_0 _ (List.mem_map.mpr ⟨k - 0, List.mem_range.mpr (by omega), by rw [show 0 + (k - 0) = k by omega]⟩)
  · exact mj_layX13_1 _ (List.mem_map.mpr ⟨k - 35, List.mem_range.mpr (by omega), by rw [show 35 + (k - 35) = k by omega]⟩)
  · exact mj_layX13_2 _ (List.mem_map.mpr ⟨k - 155, List.mem_range.mpr (by omega), by rw [show 155 + (k - 155) = k by omega]⟩)
theorem CL_X13 : mj_cl 13 RX13 TX13 190 := ⟨rfl, mj_layX13, tyX13, tyX13_ok, nmX13⟩
theorem F_X12_10 : mj_fl RX12 10 12 0 (.object "MatchHouse$Lexer") true := ⟨RX12, TX12, 13, CL_X12, by decide, mj_in4 211 (by decide +kernel) rfl, rfl, tyX12_ok 0 (by decide), rfl⟩
theorem F_X12_19 : mj_fl RX12 19 12 1 (.object "MatchHouse$Store") true := ⟨RX12, TX12, 13, CL_X12, by decide, mj_in4 212 (by decide +kernel) rfl, rfl, tyX12_ok 1 (by decide), rfl⟩
theorem F_X12_26 : mj_fl RX12 26 12 2 (.object "MatchHouse$Types") true := ⟨RX12, TX12, 13, CL_X12, by decide, mj_in4 213 (by decide +kernel) rfl, rfl, tyX12_ok 2 (by decide), rfl⟩
theorem F_X12_35 : mj_fl RX12 35 12 3 (.object "MatchHouse$Code") true := ⟨RX12, TX12, 13, CL_X12, by decide, mj_in4 214 (by decide +kernel) rfl, rfl, tyX12_ok 3 (by decide), rfl⟩
theorem F_X12_44 : mj_fl RX12 44 12 4 (.object "MatchHouse$Templates") true := ⟨RX12, TX12, 13, CL_X12, by decide, mj_in4 215 (by decide +kernel) rfl, rfl, tyX12_ok 4 (by decide), rfl⟩
theorem F_X12_48 : mj_fl RX12 48 0 20 (.object "MatchHouse$Templates") false := ⟨RX0, TX0, 21, CL_X0, by decide, mj_in2 217 (by decide +kernel) rfl, rfl, tyX0_ok 20 (by decide), rfl⟩
theorem F_X12_52 : mj_fl RX12 52 12 5 (.object "MatchHouse$Plan") true := ⟨RX12, TX12, 13, CL_X12, by decide, mj_in4 216 (by decide +kernel) rfl, rfl, tyX12_ok 5 (by decide), rfl⟩
theorem F_X12_66 : mj_fl RX12 66 12 6 (.object "MatchHouse$Reader") true := ⟨RX12, TX12, 13, CL_X12, by decide, mj_in4 217 (by decide +kernel) rfl, rfl, tyX12_ok 6 (by decide), rfl⟩
theorem F_X12_75 : mj_fl RX12 75 12 7 (.object "MatchHouse$Codes") true := ⟨RX12, TX12, 13, CL_X12, by decide, mj_in4 218 (by decide +kernel) rfl, rfl, tyX12_ok 7 (by decide), rfl⟩
theorem F_X12_84 : mj_fl RX12 84 12 8 (.object "MatchHouse$Runner") true := ⟨RX12, TX12, 13, CL_X12, by decide, mj_in4 219 (by decide +kernel) rfl, rfl, tyX12_ok 8 (by decide), rfl⟩
theorem F_X12_91 : mj_fl RX12 91 12 9 (.object "MatchHouse$Systems") true := ⟨RX12, TX12, 13, CL_X12, by decide, mj_in4 220 (by decide +kernel) rfl, rfl, tyX12_ok 9 (by decide), rfl⟩
theorem F_X12_95 : mj_fl RX12 95 12 11 .int false := ⟨RX12, TX12, 13, CL_X12, by decide, mj_in4 222 (by decide +kernel) rfl, rfl, tyX12_ok 11 (by decide), rfl⟩
theorem F_X12_107 : mj_fl RX12 107 8 2 .int false := ⟨RX8, TX8, 6, CL_X8, by decide, mj_in1 203 (by decide +kernel) rfl, rfl, tyX8_ok 2 (by decide), rfl⟩
theorem F_X12_116 : mj_fl RX12 116 2 11 .int false := ⟨RX2, TX2, 20, CL_X2, by decide, mj_in1 123 (by decide +kernel) rfl, rfl, tyX2_ok 11 (by decide), rfl⟩
theorem F_X12_119 : mj_fl RX12 119 12 10 .int false := ⟨RX12, TX12, 13, CL_X12, by decide, mj_in4 221 (by decide +kernel) rfl, rfl, tyX12_ok 10 (by decide), rfl⟩
theorem F_X12_120 : mj_fl RX12 120 2 12 .int false := ⟨RX2, TX2, 20, CL_X2, by decide, mj_in1 125 (by decide +kernel) rfl, rfl, tyX2_ok 12 (by decide), rfl⟩
theorem F_X12_121 : mj_fl RX12 121 12 12 .boolean false := ⟨RX12, TX12, 13, CL_X12, by decide, mj_in4 223 (by decide +kernel) rfl, rfl, tyX12_ok 12 (by decide), rfl⟩
theorem F_X12_129 : mj_fl RX12 129 2 1 .int false := ⟨RX2, TX2, 20, CL_X2, by decide, mj_in1 109 (by decide +kernel) rfl, rfl, tyX2_ok 1 (by decide), rfl⟩
theorem F_X12_132 : mj_fl RX12 132 11 13 .int false := ⟨RX11, TX11, 21, CL_X11, by decide, mj_in2 30 (by decide +kernel) rfl, rfl, tyX11_ok 13 (by decide), rfl⟩
theorem F_X12_135 : mj_fl RX12 135 10 11 .int false := ⟨RX10, TX10, 22, CL_X10, by decide, mj_in3 55 (by decide +kernel) rfl, rfl, tyX10_ok 11 (by decide), rfl⟩
theorem F_X12_136 : mj_fl RX12 136 5 0 .int false := ⟨RX5, TX5, 19, CL_X5, by decide, mj_in3 123 (by decide +kernel) rfl, rfl, tyX5_ok 0 (by decide), rfl⟩
theorem F_X12_139 : mj_fl RX12 139 5 9 .int false := ⟨RX5, TX5, 19, CL_X5, by decide, mj_in3 148 (by decide +kernel) rfl, rfl, tyX5_ok 9 (by decide), rfl⟩
theorem F_X12_142 : mj_fl RX12 142 5 18 .int false := ⟨RX5, TX5, 19, CL_X5, by decide, mj_in3 176 (by decide +kernel) rfl, rfl, tyX5_ok 18 (by decide), rfl⟩
theorem F_X12_145 : mj_fl RX12 145 6 11 .int false := ⟨RX6, TX6, 17, CL_X6, by decide, mj_in4 37 (by decide +kernel) rfl, rfl, tyX6_ok 11 (by decide), rfl⟩
theorem F_X12_148 : mj_fl RX12 148 1 5 .int false := ⟨RX1, TX1, 16, CL_X1, by decide, mj_in4 92 (by decide +kernel) rfl, rfl, tyX1_ok 5 (by decide), rfl⟩
theorem F_X12_155 : mj_fl RX12 155 0 5 (.array .long) true := ⟨RX0, TX0, 21, CL_X0, by decide, mj_in2 193 (by decide +kernel) rfl, rfl, tyX0_ok 5 (by decide), rfl⟩
theorem F_X12_173 : mj_fl RX12 173 8 0 (.array .long) true := ⟨RX8, TX8, 6, CL_X8, by decide, mj_in1 197 (by decide +kernel) rfl, rfl, tyX8_ok 0 (by decide), rfl⟩
theorem F_X12_199 : mj_fl RX12 199 11 11 (.array .int) true := ⟨RX11, TX11, 21, CL_X11, by decide, mj_in2 25 (by decide +kernel) rfl, rfl, tyX11_ok 11 (by decide), rfl⟩
theorem F_X12_217 : mj_fl RX12 217 11 7 (.array .int) true := ⟨RX11, TX11, 21, CL_X11, by decide, mj_in2 14 (by decide +kernel) rfl, rfl, tyX11_ok 7 (by decide), rfl⟩
theorem F_X12_223 : mj_fl RX12 223 1 3 .int false := ⟨RX1, TX1, 16, CL_X1, by decide, mj_in4 89 (by decide +kernel) rfl, rfl, tyX1_ok 3 (by decide), rfl⟩
theorem F_X12_226 : mj_fl RX12 226 1 2 (.array .byte) true := ⟨RX1, TX1, 16, CL_X1, by decide, mj_in4 87 (by decide +kernel) rfl, rfl, tyX1_ok 2 (by decide), rfl⟩
theorem F_X12_230 : mj_fl RX12 230 10 10 (.array (.array .int)) true := ⟨RX10, TX10, 22, CL_X10, by decide, mj_in3 53 (by decide +kernel) rfl, rfl, tyX10_ok 10 (by decide), rfl⟩
theorem F_X12_242 : mj_fl RX12 242 10 17 .int false := ⟨RX10, TX10, 22, CL_X10, by decide, mj_in3 64 (by decide +kernel) rfl, rfl, tyX10_ok 17 (by decide), rfl⟩
theorem F_X12_245 : mj_fl RX12 245 10 16 (.array .int) true := ⟨RX10, TX10, 22, CL_X10, by decide, mj_in3 63 (by decide +kernel) rfl, rfl, tyX10_ok 16 (by decide), rfl⟩
theorem F_X12_252 : mj_fl RX12 252 1 4 (.array .byte) true := ⟨RX1, TX1, 16, CL_X1, by decide, mj_in4 91 (by decide +kernel) rfl, rfl, tyX1_ok 4 (by decide), rfl⟩
theorem F_X12_262 : mj_fl RX12 262 1 6 (.array .long) true := ⟨RX1, TX1, 16, CL_X1, by decide, mj_in4 95 (by decide +kernel) rfl, rfl, tyX1_ok 6 (by decide), rfl⟩
theorem F_X12_265 : mj_fl RX12 265 5 10 (.array .int) true := ⟨RX5, TX5, 19, CL_X5, by decide, mj_in3 152 (by decide +kernel) rfl, rfl, tyX5_ok 10 (by decide), rfl⟩
theorem F_X12_277 : mj_fl RX12 277 7 8 .boolean false := ⟨RX7, TX7, 12, CL_X7, by decide, mj_in4 159 (by decide +kernel) rfl, rfl, tyX7_ok 8 (by decide), rfl⟩
theorem F_X12_280 : mj_fl RX12 280 7 7 .long false := ⟨RX7, TX7, 12, CL_X7, by decide, mj_in4 157 (by decide +kernel) rfl, rfl, tyX7_ok 7 (by decide), rfl⟩
theorem F_X12_292 : mj_fl RX12 292 7 5 (.array (.object "MatchHouse$Part")) true := ⟨RX7, TX7, 12, CL_X7, by decide, mj_in4 153 (by decide +kernel) rfl, rfl, tyX7_ok 5 (by decide), rfl⟩
theorem F_X12_300 : mj_fl RX12 300 4 2 .int false := ⟨RX4, TX4, 17, CL_X4, by decide, mj_in2 104 (by decide +kernel) rfl, rfl, tyX4_ok 2 (by decide), rfl⟩
theorem F_X12_305 : mj_fl RX12 305 4 3 .int false := ⟨RX4, TX4, 17, CL_X4, by decide, mj_in2 108 (by decide +kernel) rfl, rfl, tyX4_ok 3 (by decide), rfl⟩
theorem F_X12_308 : mj_fl RX12 308 4 1 .int false := ⟨RX4, TX4, 17, CL_X4, by decide, mj_in2 101 (by decide +kernel) rfl, rfl, tyX4_ok 1 (by decide), rfl⟩
theorem F_X12_310 : mj_fl RX12 310 4 6 .int false := ⟨RX4, TX4, 17, CL_X4, by decide, mj_in2 117 (by decide +kernel) rfl, rfl, tyX4_ok 6 (by decide), rfl⟩
theorem F_X12_313 : mj_fl RX12 313 4 8 (.array .int) true := ⟨RX4, TX4, 17, CL_X4, by decide, mj_in2 122 (by decide +kernel) rfl, rfl, tyX4_ok 8 (by decide), rfl⟩
theorem F_X12_316 : mj_fl RX12 316 4 10 .int false := ⟨RX4, TX4, 17, CL_X4, by decide, mj_in2 127 (by decide +kernel) rfl, rfl, tyX4_ok 10 (by decide), rfl⟩
theorem F_X12_319 : mj_fl RX12 319 4 4 .int false := ⟨RX4, TX4, 17, CL_X4, by decide, mj_in2 111 (by decide +kernel) rfl, rfl, tyX4_ok 4 (by decide), rfl⟩
theorem F_X12_322 : mj_fl RX12 322 4 5 .int false := ⟨RX4, TX4, 17, CL_X4, by decide, mj_in2 114 (by decide +kernel) rfl, rfl, tyX4_ok 5 (by decide), rfl⟩
theorem F_X12_325 : mj_fl RX12 325 7 6 .int false := ⟨RX7, TX7, 12, CL_X7, by decide, mj_in4 155 (by decide +kernel) rfl, rfl, tyX7_ok 6 (by decide), rfl⟩
theorem F_X12_331 : mj_fl RX12 331 8 4 .int false := ⟨RX8, TX8, 6, CL_X8, by decide, mj_in1 208 (by decide +kernel) rfl, rfl, tyX8_ok 4 (by decide), rfl⟩
theorem F_X12_334 : mj_fl RX12 334 8 5 .int false := ⟨RX8, TX8, 6, CL_X8, by decide, mj_in1 211 (by decide +kernel) rfl, rfl, tyX8_ok 5 (by decide), rfl⟩
theorem F_X12_341 : mj_fl RX12 341 4 14 (.array .int) true := ⟨RX4, TX4, 17, CL_X4, by decide, mj_in2 135 (by decide +kernel) rfl, rfl, tyX4_ok 14 (by decide), rfl⟩
theorem F_X12_348 : mj_fl RX12 348 5 3 (.array .int) true := ⟨RX5, TX5, 19, CL_X5, by decide, mj_in3 132 (by decide +kernel) rfl, rfl, tyX5_ok 3 (by decide), rfl⟩
theorem F_X12_351 : mj_fl RX12 351 4 16 (.array .long) true := ⟨RX4, TX4, 17, CL_X4, by decide, mj_in2 140 (by decide +kernel) rfl, rfl, tyX4_ok 16 (by decide), rfl⟩
theorem F_X12_364 : mj_fl RX12 364 8 1 (.array .int) true := ⟨RX8, TX8, 6, CL_X8, by decide, mj_in1 202 (by decide +kernel) rfl, rfl, tyX8_ok 1 (by decide), rfl⟩
theorem F_X12_370 : mj_fl RX12 370 8 3 (.array (.array .int)) true := ⟨RX8, TX8, 6, CL_X8, by decide, mj_in1 206 (by decide +kernel) rfl, rfl, tyX8_ok 3 (by decide), rfl⟩
theorem F_X12_382 : mj_fl RX12 382 9 3 .int false := ⟨RX9, TX9, 4, CL_X9, by decide, mj_in4 201 (by decide +kernel) rfl, rfl, tyX9_ok 3 (by decide), rfl⟩
theorem F_X12_383 : mj_fl RX12 383 9 2 (.array .int) true := ⟨RX9, TX9, 4, CL_X9, by decide, mj_in4 199 (by decide +kernel) rfl, rfl, tyX9_ok 2 (by decide), rfl⟩
theorem F_X12_390 : mj_fl RX12 390 5 1 (.array .int) true := ⟨RX5, TX5, 19, CL_X5, by decide, mj_in3 127 (by decide +kernel) rfl, rfl, tyX5_ok 1 (by decide), rfl⟩
theorem F_X0_9 : mj_fl RX0 9 0 0 (.array .int) true := ⟨RX0, TX0, 21, CL_X0, by decide, mj_in2 176 (by decide +kernel) rfl, rfl, tyX0_ok 0 (by decide), rfl⟩
theorem F_X0_13 : mj_fl RX0 13 0 1 (.array .int) true := ⟨RX0, TX0, 21, CL_X0, by decide, mj_in2 179 (by decide +kernel) rfl, rfl, tyX0_ok 1 (by decide), rfl⟩
theorem F_X0_16 : mj_fl RX0 16 0 3 (.array .long) true := ⟨RX0, TX0, 21, CL_X0, by decide, mj_in2 186 (by decide +kernel) rfl, rfl, tyX0_ok 3 (by decide), rfl⟩
theorem F_X0_21 : mj_fl RX0 21 0 5 (.array .long) true := ⟨RX0, TX0, 21, CL_X0, by decide, mj_in2 191 (by decide +kernel) rfl, rfl, tyX0_ok 5 (by decide), rfl⟩
theorem F_X0_24 : mj_fl RX0 24 0 6 (.array .int) true := ⟨RX0, TX0, 21, CL_X0, by decide, mj_in2 194 (by decide +kernel) rfl, rfl, tyX0_ok 6 (by decide), rfl⟩
theorem F_X0_29 : mj_fl RX0 29 0 8 (.array .long) true := ⟨RX0, TX0, 21, CL_X0, by decide, mj_in2 198 (by decide +kernel) rfl, rfl, tyX0_ok 8 (by decide), rfl⟩
theorem F_X0_32 : mj_fl RX0 32 0 9 (.array .long) true := ⟨RX0, TX0, 21, CL_X0, by decide, mj_in2 199 (by decide +kernel) rfl, rfl, tyX0_ok 9 (by decide), rfl⟩
theorem F_X0_35 : mj_fl RX0 35 0 10 (.array .int) true := ⟨RX0, TX0, 21, CL_X0, by decide, mj_in2 200 (by decide +kernel) rfl, rfl, tyX0_ok 10 (by decide), rfl⟩
theorem F_X0_38 : mj_fl RX0 38 0 19 (.object "MatchHouse$Store") true := ⟨RX0, TX0, 21, CL_X0, by decide, mj_in2 216 (by decide +kernel) rfl, rfl, tyX0_ok 19 (by decide), rfl⟩
theorem F_X0_47 : mj_fl RX0 47 0 15 (.object "MatchHouse$Part") false := ⟨RX0, TX0, 21, CL_X0, by decide, mj_in2 208 (by decide +kernel) rfl, rfl, tyX0_ok 15 (by decide), rfl⟩
theorem F_X0_51 : mj_fl RX0 51 0 2 .int false := ⟨RX0, TX0, 21, CL_X0, by decide, mj_in2 183 (by decide +kernel) rfl, rfl, tyX0_ok 2 (by decide), rfl⟩
theorem F_X0_55 : mj_fl RX0 55 0 4 .int false := ⟨RX0, TX0, 21, CL_X0, by decide, mj_in2 190 (by decide +kernel) rfl, rfl, tyX0_ok 4 (by decide), rfl⟩
theorem F_X0_62 : mj_fl RX0 62 0 7 .int false := ⟨RX0, TX0, 21, CL_X0, by decide, mj_in2 196 (by decide +kernel) rfl, rfl, tyX0_ok 7 (by decide), rfl⟩
theorem F_X0_71 : mj_fl RX0 71 0 12 .int false := ⟨RX0, TX0, 21, CL_X0, by decide, mj_in2 202 (by decide +kernel) rfl, rfl, tyX0_ok 12 (by decide), rfl⟩
theorem F_X0_74 : mj_fl RX0 74 0 13 .int false := ⟨RX0, TX0, 21, CL_X0, by decide, mj_in2 205 (by decide +kernel) rfl, rfl, tyX0_ok 13 (by decide), rfl⟩
theorem F_X0_114 : mj_fl RX0 114 8 0 (.array .long) true := ⟨RX8, TX8, 6, CL_X8, by decide, mj_in1 198 (by decide +kernel) rfl, rfl, tyX8_ok 0 (by decide), rfl⟩
theorem F_X0_117 : mj_fl RX0 117 0 18 .int false := ⟨RX0, TX0, 21, CL_X0, by decide, mj_in2 215 (by decide +kernel) rfl, rfl, tyX0_ok 18 (by decide), rfl⟩
theorem F_X0_127 : mj_fl RX0 127 4 0 .int true := ⟨RX4, TX4, 17, CL_X4, by decide, mj_in2 98 (by decide +kernel) rfl, rfl, tyX4_ok 0 (by decide), rfl⟩
theorem F_X0_130 : mj_fl RX0 130 0 17 .long false := ⟨RX0, TX0, 21, CL_X0, by decide, mj_in2 213 (by decide +kernel) rfl, rfl, tyX0_ok 17 (by decide), rfl⟩
theorem F_X0_134 : mj_fl RX0 134 4 3 .int false := ⟨RX4, TX4, 17, CL_X4, by decide, mj_in2 107 (by decide +kernel) rfl, rfl, tyX4_ok 3 (by decide), rfl⟩
theorem F_X0_139 : mj_fl RX0 139 4 16 (.array .long) true := ⟨RX4, TX4, 17, CL_X4, by decide, mj_in2 138 (by decide +kernel) rfl, rfl, tyX4_ok 16 (by decide), rfl⟩
theorem F_X0_163 : mj_fl RX0 163 0 16 .int false := ⟨RX0, TX0, 21, CL_X0, by decide, mj_in2 211 (by decide +kernel) rfl, rfl, tyX0_ok 16 (by decide), rfl⟩
theorem F_X0_246 : mj_fl RX0 246 0 14 .boolean false := ⟨RX0, TX0, 21, CL_X0, by decide, mj_in2 207 (by decide +kernel) rfl, rfl, tyX0_ok 14 (by decide), rfl⟩
theorem F_X0_250 : mj_fl RX0 250 0 20 (.object "MatchHouse$Templates") false := ⟨RX0, TX0, 21, CL_X0, by decide, mj_in2 218 (by decide +kernel) rfl, rfl, tyX0_ok 20 (by decide), rfl⟩
theorem F_X0_274 : mj_fl RX0 274 0 11 .int false := ⟨RX0, TX0, 21, CL_X0, by decide, mj_in2 201 (by decide +kernel) rfl, rfl, tyX0_ok 11 (by decide), rfl⟩
theorem F_X0_277 : mj_fl RX0 277 8 1 (.array .int) true := ⟨RX8, TX8, 6, CL_X8, by decide, mj_in1 201 (by decide +kernel) rfl, rfl, tyX8_ok 1 (by decide), rfl⟩
theorem F_X1_9 : mj_fl RX1 9 1 2 (.array .byte) true := ⟨RX1, TX1, 16, CL_X1, by decide, mj_in4 86 (by decide +kernel) rfl, rfl, tyX1_ok 2 (by decide), rfl⟩
theorem F_X1_13 : mj_fl RX1 13 1 4 (.array .byte) true := ⟨RX1, TX1, 16, CL_X1, by decide, mj_in4 90 (by decide +kernel) rfl, rfl, tyX1_ok 4 (by decide), rfl⟩
theorem F_X1_18 : mj_fl RX1 18 1 6 (.array .long) true := ⟨RX1, TX1, 16, CL_X1, by decide, mj_in4 94 (by decide +kernel) rfl, rfl, tyX1_ok 6 (by decide), rfl⟩
theorem F_X1_22 : mj_fl RX1 22 1 11 (.array .long) true := ⟨RX1, TX1, 16, CL_X1, by decide, mj_in4 100 (by decide +kernel) rfl, rfl, tyX1_ok 11 (by decide), rfl⟩
theorem F_X1_25 : mj_fl RX1 25 1 12 (.array .int) true := ⟨RX1, TX1, 16, CL_X1, by decide, mj_in4 101 (by decide +kernel) rfl, rfl, tyX1_ok 12 (by decide), rfl⟩
theorem F_X1_29 : mj_fl RX1 29 1 13 (.array .int) true := ⟨RX1, TX1, 16, CL_X1, by decide, mj_in4 102 (by decide +kernel) rfl, rfl, tyX1_ok 13 (by decide), rfl⟩
theorem F_X1_32 : mj_fl RX1 32 1 14 (.array .int) true := ⟨RX1, TX1, 16, CL_X1, by decide, mj_in4 103 (by decide +kernel) rfl, rfl, tyX1_ok 14 (by decide), rfl⟩
theorem F_X1_35 : mj_fl RX1 35 1 0 (.object "MatchHouse$Lexer") true := ⟨RX1, TX1, 16, CL_X1, by decide, mj_in4 84 (by decide +kernel) rfl, rfl, tyX1_ok 0 (by decide), rfl⟩
theorem F_X1_39 : mj_fl RX1 39 1 1 (.object "MatchHouse$Types") true := ⟨RX1, TX1, 16, CL_X1, by decide, mj_in4 85 (by decide +kernel) rfl, rfl, tyX1_ok 1 (by decide), rfl⟩
theorem F_X1_43 : mj_fl RX1 43 1 3 .int false := ⟨RX1, TX1, 16, CL_X1, by decide, mj_in4 88 (by decide +kernel) rfl, rfl, tyX1_ok 3 (by decide), rfl⟩
theorem F_X1_47 : mj_fl RX1 47 1 15 .int false := ⟨RX1, TX1, 16, CL_X1, by decide, mj_in4 104 (by decide +kernel) rfl, rfl, tyX1_ok 15 (by decide), rfl⟩
theorem F_X1_132 : mj_fl RX1 132 1 5 .int false := ⟨RX1, TX1, 16, CL_X1, by decide, mj_in4 93 (by decide +kernel) rfl, rfl, tyX1_ok 5 (by decide), rfl⟩
theorem F_X1_149 : mj_fl RX1 149 11 0 (.array .int) true := ⟨RX11, TX11, 21, CL_X11, by decide, mj_in1 233 (by decide +kernel) rfl, rfl, tyX11_ok 0 (by decide), rfl⟩
theorem F_X1_163 : mj_fl RX1 163 11 4 (.array .int) true := ⟨RX11, TX11, 21, CL_X11, by decide, mj_in2 5 (by decide +kernel) rfl, rfl, tyX11_ok 4 (by decide), rfl⟩
theorem F_X1_181 : mj_fl RX1 181 11 1 (.array .int) true := ⟨RX11, TX11, 21, CL_X11, by decide, mj_in1 235 (by decide +kernel) rfl, rfl, tyX11_ok 1 (by decide), rfl⟩
theorem F_X1_187 : mj_fl RX1 187 11 5 (.array .long) true := ⟨RX11, TX11, 21, CL_X11, by decide, mj_in2 8 (by decide +kernel) rfl, rfl, tyX11_ok 5 (by decide), rfl⟩
theorem F_X1_190 : mj_fl RX1 190 11 6 (.array .long) true := ⟨RX11, TX11, 21, CL_X11, by decide, mj_in2 11 (by decide +kernel) rfl, rfl, tyX11_ok 6 (by decide), rfl⟩
theorem F_X1_198 : mj_fl RX1 198 11 2 (.array .int) true := ⟨RX11, TX11, 21, CL_X11, by decide, mj_in1 238 (by decide +kernel) rfl, rfl, tyX11_ok 2 (by decide), rfl⟩
theorem F_X1_204 : mj_fl RX1 204 11 3 (.array .int) true := ⟨RX11, TX11, 21, CL_X11, by decide, mj_in2 1 (by decide +kernel) rfl, rfl, tyX11_ok 3 (by decide), rfl⟩
theorem F_X1_212 : mj_fl RX1 212 1 7 .int false := ⟨RX1, TX1, 16, CL_X1, by decide, mj_in4 96 (by decide +kernel) rfl, rfl, tyX1_ok 7 (by decide), rfl⟩
theorem F_X1_215 : mj_fl RX1 215 1 8 .int false := ⟨RX1, TX1, 16, CL_X1, by decide, mj_in4 97 (by decide +kernel) rfl, rfl, tyX1_ok 8 (by decide), rfl⟩
theorem F_X1_218 : mj_fl RX1 218 1 9 .int false := ⟨RX1, TX1, 16, CL_X1, by decide, mj_in4 98 (by decide +kernel) rfl, rfl, tyX1_ok 9 (by decide), rfl⟩
theorem F_X1_221 : mj_fl RX1 221 1 10 .int false := ⟨RX1, TX1, 16, CL_X1, by decide, mj_in4 99 (by decide +kernel) rfl, rfl, tyX1_ok 10 (by decide), rfl⟩
theorem F_X1_239 : mj_fl RX1 239 11 7 (.array .int) true := ⟨RX11, TX11, 21, CL_X11, by decide, mj_in2 15 (by decide +kernel) rfl, rfl, tyX11_ok 7 (by decide), rfl⟩
theorem F_X1_266 : mj_fl RX1 266 11 9 (.array .int) true := ⟨RX11, TX11, 21, CL_X11, by decide, mj_in2 18 (by decide +kernel) rfl, rfl, tyX11_ok 9 (by decide), rfl⟩
theorem F_X2_11 : mj_fl RX2 11 2 0 (.array .byte) true := ⟨RX2, TX2, 20, CL_X2, by decide, mj_in1 106 (by decide +kernel) rfl, rfl, tyX2_ok 0 (by decide), rfl⟩
theorem F_X2_15 : mj_fl RX2 15 2 3 (.array .int) true := ⟨RX2, TX2, 20, CL_X2, by decide, mj_in1 111 (by decide +kernel) rfl, rfl, tyX2_ok 3 (by decide), rfl⟩
theorem F_X2_19 : mj_fl RX2 19 2 4 (.array .int) true := ⟨RX2, TX2, 20, CL_X2, by decide, mj_in1 112 (by decide +kernel) rfl, rfl, tyX2_ok 4 (by decide), rfl⟩
theorem F_X2_22 : mj_fl RX2 22 2 5 (.array .long) true := ⟨RX2, TX2, 20, CL_X2, by decide, mj_in1 113 (by decide +kernel) rfl, rfl, tyX2_ok 5 (by decide), rfl⟩
theorem F_X2_26 : mj_fl RX2 26 2 14 (.array .int) true := ⟨RX2, TX2, 20, CL_X2, by decide, mj_in1 130 (by decide +kernel) rfl, rfl, tyX2_ok 14 (by decide), rfl⟩
theorem F_X2_29 : mj_fl RX2 29 2 15 (.array .boolean) true := ⟨RX2, TX2, 20, CL_X2, by decide, mj_in1 133 (by decide +kernel) rfl, rfl, tyX2_ok 15 (by decide), rfl⟩
theorem F_X2_33 : mj_fl RX2 33 2 16 (.array .long) true := ⟨RX2, TX2, 20, CL_X2, by decide, mj_in1 136 (by decide +kernel) rfl, rfl, tyX2_ok 16 (by decide), rfl⟩
theorem F_X2_36 : mj_fl RX2 36 2 17 (.array .int) true := ⟨RX2, TX2, 20, CL_X2, by decide, mj_in1 137 (by decide +kernel) rfl, rfl, tyX2_ok 17 (by decide), rfl⟩
theorem F_X2_39 : mj_fl RX2 39 2 18 (.array .int) true := ⟨RX2, TX2, 20, CL_X2, by decide, mj_in1 138 (by decide +kernel) rfl, rfl, tyX2_ok 18 (by decide), rfl⟩
theorem F_X2_42 : mj_fl RX2 42 2 19 (.array .int) true := ⟨RX2, TX2, 20, CL_X2, by decide, mj_in1 139 (by decide +kernel) rfl, rfl, tyX2_ok 19 (by decide), rfl⟩
theorem F_X2_61 : mj_fl RX2 61 2 1 .int false := ⟨RX2, TX2, 20, CL_X2, by decide, mj_in1 107 (by decide +kernel) rfl, rfl, tyX2_ok 1 (by decide), rfl⟩
theorem F_X2_68 : mj_fl RX2 68 2 13 .int false := ⟨RX2, TX2, 20, CL_X2, by decide, mj_in1 129 (by decide +kernel) rfl, rfl, tyX2_ok 13 (by decide), rfl⟩
theorem F_X2_74 : mj_fl RX2 74 2 8 .int false := ⟨RX2, TX2, 20, CL_X2, by decide, mj_in1 117 (by decide +kernel) rfl, rfl, tyX2_ok 8 (by decide), rfl⟩
theorem F_X2_86 : mj_fl RX2 86 2 6 .int false := ⟨RX2, TX2, 20, CL_X2, by decide, mj_in1 114 (by decide +kernel) rfl, rfl, tyX2_ok 6 (by decide), rfl⟩
theorem F_X2_89 : mj_fl RX2 89 2 2 .int false := ⟨RX2, TX2, 20, CL_X2, by decide, mj_in1 110 (by decide +kernel) rfl, rfl, tyX2_ok 2 (by decide), rfl⟩
theorem F_X2_95 : mj_fl RX2 95 2 10 .long false := ⟨RX2, TX2, 20, CL_X2, by decide, mj_in1 120 (by decide +kernel) rfl, rfl, tyX2_ok 10 (by decide), rfl⟩
theorem F_X2_103 : mj_fl RX2 103 2 11 .int false := ⟨RX2, TX2, 20, CL_X2, by decide, mj_in1 124 (by decide +kernel) rfl, rfl, tyX2_ok 11 (by decide), rfl⟩
theorem F_X2_106 : mj_fl RX2 106 2 12 .int false := ⟨RX2, TX2, 20, CL_X2, by decide, mj_in1 127 (by decide +kernel) rfl, rfl, tyX2_ok 12 (by decide), rfl⟩
theorem F_X2_109 : mj_fl RX2 109 2 7 .int false := ⟨RX2, TX2, 20, CL_X2, by decide, mj_in1 115 (by decide +kernel) rfl, rfl, tyX2_ok 7 (by decide), rfl⟩
theorem F_X2_112 : mj_fl RX2 112 2 9 .int false := ⟨RX2, TX2, 20, CL_X2, by decide, mj_in1 118 (by decide +kernel) rfl, rfl, tyX2_ok 9 (by decide), rfl⟩
theorem F_X3_11 : mj_fl RX3 11 3 5 (.array (.array .int)) true := ⟨RX3, TX3, 9, CL_X3, by decide, mj_in3 236 (by decide +kernel) rfl, rfl, tyX3_ok 5 (by decide), rfl⟩
theorem F_X3_14 : mj_fl RX3 14 3 0 (.object "MatchHouse$Lexer") true := ⟨RX3, TX3, 9, CL_X3, by decide, mj_in3 226 (by decide +kernel) rfl, rfl, tyX3_ok 0 (by decide), rfl⟩
theorem F_X3_18 : mj_fl RX3 18 3 1 (.object "MatchHouse$Types") true := ⟨RX3, TX3, 9, CL_X3, by decide, mj_in3 228 (by decide +kernel) rfl, rfl, tyX3_ok 1 (by decide), rfl⟩
theorem F_X3_22 : mj_fl RX3 22 3 2 (.object "MatchHouse$Templates") true := ⟨RX3, TX3, 9, CL_X3, by decide, mj_in3 230 (by decide +kernel) rfl, rfl, tyX3_ok 2 (by decide), rfl⟩
theorem F_X3_26 : mj_fl RX3 26 3 3 (.object "MatchHouse$Code") true := ⟨RX3, TX3, 9, CL_X3, by decide, mj_in3 232 (by decide +kernel) rfl, rfl, tyX3_ok 3 (by decide), rfl⟩
theorem F_X3_30 : mj_fl RX3 30 3 4 (.object "MatchHouse$Plan") true := ⟨RX3, TX3, 9, CL_X3, by decide, mj_in3 234 (by decide +kernel) rfl, rfl, tyX3_ok 4 (by decide), rfl⟩
theorem F_X3_34 : mj_fl RX3 34 3 6 .int false := ⟨RX3, TX3, 9, CL_X3, by decide, mj_in3 237 (by decide +kernel) rfl, rfl, tyX3_ok 6 (by decide), rfl⟩
theorem F_X3_38 : mj_fl RX3 38 3 7 .int false := ⟨RX3, TX3, 9, CL_X3, by decide, mj_in3 238 (by decide +kernel) rfl, rfl, tyX3_ok 7 (by decide), rfl⟩
theorem F_X3_41 : mj_fl RX3 41 3 8 .int false := ⟨RX3, TX3, 9, CL_X3, by decide, mj_in4 0 (by decide +kernel) rfl, rfl, tyX3_ok 8 (by decide), rfl⟩
theorem F_X3_56 : mj_fl RX3 56 11 13 .int false := ⟨RX11, TX11, 21, CL_X11, by decide, mj_in2 31 (by decide +kernel) rfl, rfl, tyX11_ok 13 (by decide), rfl⟩
theorem F_X3_64 : mj_fl RX3 64 11 12 (.array .int) true := ⟨RX11, TX11, 21, CL_X11, by decide, mj_in2 27 (by decide +kernel) rfl, rfl, tyX11_ok 12 (by decide), rfl⟩
theorem F_X3_73 : mj_fl RX3 73 10 11 .int false := ⟨RX10, TX10, 22, CL_X10, by decide, mj_in3 56 (by decide +kernel) rfl, rfl, tyX10_ok 11 (by decide), rfl⟩
theorem F_X3_74 : mj_fl RX3 74 10 10 (.array (.array .int)) true := ⟨RX10, TX10, 22, CL_X10, by decide, mj_in3 51 (by decide +kernel) rfl, rfl, tyX10_ok 10 (by decide), rfl⟩
theorem F_X3_77 : mj_fl RX3 77 2 14 (.array .int) true := ⟨RX2, TX2, 20, CL_X2, by decide, mj_in1 131 (by decide +kernel) rfl, rfl, tyX2_ok 14 (by decide), rfl⟩
theorem F_X3_82 : mj_fl RX3 82 5 11 (.array .int) true := ⟨RX5, TX5, 19, CL_X5, by decide, mj_in3 155 (by decide +kernel) rfl, rfl, tyX5_ok 11 (by decide), rfl⟩
theorem F_X3_91 : mj_fl RX3 91 11 4 (.array .int) true := ⟨RX11, TX11, 21, CL_X11, by decide, mj_in2 4 (by decide +kernel) rfl, rfl, tyX11_ok 4 (by decide), rfl⟩
theorem F_X3_94 : mj_fl RX3 94 5 16 (.array .int) true := ⟨RX5, TX5, 19, CL_X5, by decide, mj_in3 168 (by decide +kernel) rfl, rfl, tyX5_ok 16 (by decide), rfl⟩
theorem F_X3_97 : mj_fl RX3 97 5 7 (.array .int) true := ⟨RX5, TX5, 19, CL_X5, by decide, mj_in3 142 (by decide +kernel) rfl, rfl, tyX5_ok 7 (by decide), rfl⟩
theorem F_X3_118 : mj_fl RX3 118 5 17 (.array (.array .int)) true := ⟨RX5, TX5, 19, CL_X5, by decide, mj_in3 173 (by decide +kernel) rfl, rfl, tyX5_ok 17 (by decide), rfl⟩
theorem F_X3_127 : mj_fl RX3 127 0 1 (.array .int) true := ⟨RX0, TX0, 21, CL_X0, by decide, mj_in2 181 (by decide +kernel) rfl, rfl, tyX0_ok 1 (by decide), rfl⟩
theorem F_X3_135 : mj_fl RX3 135 2 15 (.array .boolean) true := ⟨RX2, TX2, 20, CL_X2, by decide, mj_in1 134 (by decide +kernel) rfl, rfl, tyX2_ok 15 (by decide), rfl⟩
theorem F_X3_139 : mj_fl RX3 139 0 0 (.array .int) true := ⟨RX0, TX0, 21, CL_X0, by decide, mj_in2 178 (by decide +kernel) rfl, rfl, tyX0_ok 0 (by decide), rfl⟩
theorem F_X3_142 : mj_fl RX3 142 10 0 (.array .int) true := ⟨RX10, TX10, 22, CL_X10, by decide, mj_in3 30 (by decide +kernel) rfl, rfl, tyX10_ok 0 (by decide), rfl⟩
theorem F_X3_145 : mj_fl RX3 145 10 3 (.array .int) true := ⟨RX10, TX10, 22, CL_X10, by decide, mj_in3 37 (by decide +kernel) rfl, rfl, tyX10_ok 3 (by decide), rfl⟩
theorem F_X3_148 : mj_fl RX3 148 5 10 (.array .int) true := ⟨RX5, TX5, 19, CL_X5, by decide, mj_in3 151 (by decide +kernel) rfl, rfl, tyX5_ok 10 (by decide), rfl⟩
theorem F_X3_151 : mj_fl RX3 151 5 12 (.array .int) true := ⟨RX5, TX5, 19, CL_X5, by decide, mj_in3 157 (by decide +kernel) rfl, rfl, tyX5_ok 12 (by decide), rfl⟩
theorem F_X4_9 : mj_fl RX4 9 4 7 (.array .int) true := ⟨RX4, TX4, 17, CL_X4, by decide, mj_in2 118 (by decide +kernel) rfl, rfl, tyX4_ok 7 (by decide), rfl⟩
theorem F_X4_13 : mj_fl RX4 13 4 8 (.array .int) true := ⟨RX4, TX4, 17, CL_X4, by decide, mj_in2 120 (by decide +kernel) rfl, rfl, tyX4_ok 8 (by decide), rfl⟩
theorem F_X4_16 : mj_fl RX4 16 4 9 (.array .int) true := ⟨RX4, TX4, 17, CL_X4, by decide, mj_in2 123 (by decide +kernel) rfl, rfl, tyX4_ok 9 (by decide), rfl⟩
theorem F_X4_19 : mj_fl RX4 19 4 11 (.array .int) true := ⟨RX4, TX4, 17, CL_X4, by decide, mj_in2 128 (by decide +kernel) rfl, rfl, tyX4_ok 11 (by decide), rfl⟩
theorem F_X4_24 : mj_fl RX4 24 4 12 (.array .int) true := ⟨RX4, TX4, 17, CL_X4, by decide, mj_in2 130 (by decide +kernel) rfl, rfl, tyX4_ok 12 (by decide), rfl⟩
theorem F_X4_27 : mj_fl RX4 27 4 13 (.array .int) true := ⟨RX4, TX4, 17, CL_X4, by decide, mj_in2 132 (by decide +kernel) rfl, rfl, tyX4_ok 13 (by decide), rfl⟩
theorem F_X4_30 : mj_fl RX4 30 4 14 (.array .int) true := ⟨RX4, TX4, 17, CL_X4, by decide, mj_in2 133 (by decide +kernel) rfl, rfl, tyX4_ok 14 (by decide), rfl⟩
theorem F_X4_33 : mj_fl RX4 33 4 15 (.array .int) true := ⟨RX4, TX4, 17, CL_X4, by decide, mj_in2 136 (by decide +kernel) rfl, rfl, tyX4_ok 15 (by decide), rfl⟩
theorem F_X4_36 : mj_fl RX4 36 4 16 (.array .long) true := ⟨RX4, TX4, 17, CL_X4, by decide, mj_in2 137 (by decide +kernel) rfl, rfl, tyX4_ok 16 (by decide), rfl⟩
theorem F_X4_40 : mj_fl RX4 40 4 0 .int true := ⟨RX4, TX4, 17, CL_X4, by decide, mj_in2 96 (by decide +kernel) rfl, rfl, tyX4_ok 0 (by decide), rfl⟩
theorem F_X4_44 : mj_fl RX4 44 4 1 .int false := ⟨RX4, TX4, 17, CL_X4, by decide, mj_in2 99 (by decide +kernel) rfl, rfl, tyX4_ok 1 (by decide), rfl⟩
theorem F_X4_47 : mj_fl RX4 47 4 2 .int false := ⟨RX4, TX4, 17, CL_X4, by decide, mj_in2 102 (by decide +kernel) rfl, rfl, tyX4_ok 2 (by decide), rfl⟩
theorem F_X4_50 : mj_fl RX4 50 4 3 .int false := ⟨RX4, TX4, 17, CL_X4, by decide, mj_in2 105 (by decide +kernel) rfl, rfl, tyX4_ok 3 (by decide), rfl⟩
theorem F_X4_53 : mj_fl RX4 53 4 4 .int false := ⟨RX4, TX4, 17, CL_X4, by decide, mj_in2 109 (by decide +kernel) rfl, rfl, tyX4_ok 4 (by decide), rfl⟩
theorem F_X4_56 : mj_fl RX4 56 4 5 .int false := ⟨RX4, TX4, 17, CL_X4, by decide, mj_in2 112 (by decide +kernel) rfl, rfl, tyX4_ok 5 (by decide), rfl⟩
theorem F_X4_59 : mj_fl RX4 59 4 6 .int false := ⟨RX4, TX4, 17, CL_X4, by decide, mj_in2 115 (by decide +kernel) rfl, rfl, tyX4_ok 6 (by decide), rfl⟩
theorem F_X4_62 : mj_fl RX4 62 4 10 .int false := ⟨RX4, TX4, 17, CL_X4, by decide, mj_in2 125 (by decide +kernel) rfl, rfl, tyX4_ok 10 (by decide), rfl⟩
theorem F_X5_9 : mj_fl RX5 9 5 1 (.array .int) true := ⟨RX5, TX5, 19, CL_X5, by decide, mj_in3 125 (by decide +kernel) rfl, rfl, tyX5_ok 1 (by decide), rfl⟩
theorem F_X5_13 : mj_fl RX5 13 5 2 (.array .int) true := ⟨RX5, TX5, 19, CL_X5, by decide, mj_in3 128 (by decide +kernel) rfl, rfl, tyX5_ok 2 (by decide), rfl⟩
theorem F_X5_16 : mj_fl RX5 16 5 3 (.array .int) true := ⟨RX5, TX5, 19, CL_X5, by decide, mj_in3 130 (by decide +kernel) rfl, rfl, tyX5_ok 3 (by decide), rfl⟩
theorem F_X5_19 : mj_fl RX5 19 5 4 (.array .int) true := ⟨RX5, TX5, 19, CL_X5, by decide, mj_in3 133 (by decide +kernel) rfl, rfl, tyX5_ok 4 (by decide), rfl⟩
theorem F_X5_22 : mj_fl RX5 22 5 5 (.array .int) true := ⟨RX5, TX5, 19, CL_X5, by decide, mj_in3 135 (by decide +kernel) rfl, rfl, tyX5_ok 5 (by decide), rfl⟩
theorem F_X5_25 : mj_fl RX5 25 5 6 (.array .int) true := ⟨RX5, TX5, 19, CL_X5, by decide, mj_in3 138 (by decide +kernel) rfl, rfl, tyX5_ok 6 (by decide), rfl⟩
theorem F_X5_28 : mj_fl RX5 28 5 7 (.array .int) true := ⟨RX5, TX5, 19, CL_X5, by decide, mj_in3 140 (by decide +kernel) rfl, rfl, tyX5_ok 7 (by decide), rfl⟩
theorem F_X5_31 : mj_fl RX5 31 5 8 (.array .int) true := ⟨RX5, TX5, 19, CL_X5, by decide, mj_in3 144 (by decide +kernel) rfl, rfl, tyX5_ok 8 (by decide), rfl⟩
theorem F_X5_34 : mj_fl RX5 34 5 10 (.array .int) true := ⟨RX5, TX5, 19, CL_X5, by decide, mj_in3 150 (by decide +kernel) rfl, rfl, tyX5_ok 10 (by decide), rfl⟩
theorem F_X5_37 : mj_fl RX5 37 5 11 (.array .int) true := ⟨RX5, TX5, 19, CL_X5, by decide, mj_in3 153 (by decide +kernel) rfl, rfl, tyX5_ok 11 (by decide), rfl⟩
theorem F_X5_40 : mj_fl RX5 40 5 12 (.array .int) true := ⟨RX5, TX5, 19, CL_X5, by decide, mj_in3 156 (by decide +kernel) rfl, rfl, tyX5_ok 12 (by decide), rfl⟩
theorem F_X5_43 : mj_fl RX5 43 5 13 (.array .int) true := ⟨RX5, TX5, 19, CL_X5, by decide, mj_in3 159 (by decide +kernel) rfl, rfl, tyX5_ok 13 (by decide), rfl⟩
theorem F_X5_46 : mj_fl RX5 46 5 14 (.array .int) true := ⟨RX5, TX5, 19, CL_X5, by decide, mj_in3 162 (by decide +kernel) rfl, rfl, tyX5_ok 14 (by decide), rfl⟩
theorem F_X5_49 : mj_fl RX5 49 5 15 (.array .int) true := ⟨RX5, TX5, 19, CL_X5, by decide, mj_in3 165 (by decide +kernel) rfl, rfl, tyX5_ok 15 (by decide), rfl⟩
theorem F_X5_52 : mj_fl RX5 52 5 16 (.array .int) true := ⟨RX5, TX5, 19, CL_X5, by decide, mj_in3 167 (by decide +kernel) rfl, rfl, tyX5_ok 16 (by decide), rfl⟩
theorem F_X5_57 : mj_fl RX5 57 5 17 (.array (.array .int)) true := ⟨RX5, TX5, 19, CL_X5, by decide, mj_in3 171 (by decide +kernel) rfl, rfl, tyX5_ok 17 (by decide), rfl⟩
theorem F_X5_60 : mj_fl RX5 60 5 0 .int false := ⟨RX5, TX5, 19, CL_X5, by decide, mj_in3 122 (by decide +kernel) rfl, rfl, tyX5_ok 0 (by decide), rfl⟩
theorem F_X5_64 : mj_fl RX5 64 5 9 .int false := ⟨RX5, TX5, 19, CL_X5, by decide, mj_in3 147 (by decide +kernel) rfl, rfl, tyX5_ok 9 (by decide), rfl⟩
theorem F_X5_67 : mj_fl RX5 67 5 18 .int false := ⟨RX5, TX5, 19, CL_X5, by decide, mj_in3 175 (by decide +kernel) rfl, rfl, tyX5_ok 18 (by decide), rfl⟩
theorem F_X6_11 : mj_fl RX6 11 6 6 (.array .int) true := ⟨RX6, TX6, 17, CL_X6, by decide, mj_in4 31 (by decide +kernel) rfl, rfl, tyX6_ok 6 (by decide), rfl⟩
theorem F_X6_15 : mj_fl RX6 15 6 8 (.array .int) true := ⟨RX6, TX6, 17, CL_X6, by decide, mj_in4 33 (by decide +kernel) rfl, rfl, tyX6_ok 8 (by decide), rfl⟩
theorem F_X6_18 : mj_fl RX6 18 6 5 (.object "MatchHouse$Links") true := ⟨RX6, TX6, 17, CL_X6, by decide, mj_in4 30 (by decide +kernel) rfl, rfl, tyX6_ok 5 (by decide), rfl⟩
theorem F_X6_22 : mj_fl RX6 22 3 0 (.object "MatchHouse$Lexer") true := ⟨RX3, TX3, 9, CL_X3, by decide, mj_in3 227 (by decide +kernel) rfl, rfl, tyX3_ok 0 (by decide), rfl⟩
theorem F_X6_28 : mj_fl RX6 28 6 0 (.object "MatchHouse$Lexer") true := ⟨RX6, TX6, 17, CL_X6, by decide, mj_in4 25 (by decide +kernel) rfl, rfl, tyX6_ok 0 (by decide), rfl⟩
theorem F_X6_29 : mj_fl RX6 29 3 1 (.object "MatchHouse$Types") true := ⟨RX3, TX3, 9, CL_X3, by decide, mj_in3 229 (by decide +kernel) rfl, rfl, tyX3_ok 1 (by decide), rfl⟩
theorem F_X6_33 : mj_fl RX6 33 6 1 (.object "MatchHouse$Types") true := ⟨RX6, TX6, 17, CL_X6, by decide, mj_in4 26 (by decide +kernel) rfl, rfl, tyX6_ok 1 (by decide), rfl⟩
theorem F_X6_34 : mj_fl RX6 34 3 2 (.object "MatchHouse$Templates") true := ⟨RX3, TX3, 9, CL_X3, by decide, mj_in3 231 (by decide +kernel) rfl, rfl, tyX3_ok 2 (by decide), rfl⟩
theorem F_X6_38 : mj_fl RX6 38 6 2 (.object "MatchHouse$Templates") true := ⟨RX6, TX6, 17, CL_X6, by decide, mj_in4 27 (by decide +kernel) rfl, rfl, tyX6_ok 2 (by decide), rfl⟩
theorem F_X6_39 : mj_fl RX6 39 3 3 (.object "MatchHouse$Code") true := ⟨RX3, TX3, 9, CL_X3, by decide, mj_in3 233 (by decide +kernel) rfl, rfl, tyX3_ok 3 (by decide), rfl⟩
theorem F_X6_43 : mj_fl RX6 43 6 3 (.object "MatchHouse$Code") true := ⟨RX6, TX6, 17, CL_X6, by decide, mj_in4 28 (by decide +kernel) rfl, rfl, tyX6_ok 3 (by decide), rfl⟩
theorem F_X6_44 : mj_fl RX6 44 3 4 (.object "MatchHouse$Plan") true := ⟨RX3, TX3, 9, CL_X3, by decide, mj_in3 235 (by decide +kernel) rfl, rfl, tyX3_ok 4 (by decide), rfl⟩
theorem F_X6_48 : mj_fl RX6 48 6 4 (.object "MatchHouse$Plan") true := ⟨RX6, TX6, 17, CL_X6, by decide, mj_in4 29 (by decide +kernel) rfl, rfl, tyX6_ok 4 (by decide), rfl⟩
theorem F_X6_64 : mj_fl RX6 64 0 2 .int false := ⟨RX0, TX0, 21, CL_X0, by decide, mj_in2 184 (by decide +kernel) rfl, rfl, tyX0_ok 2 (by decide), rfl⟩
theorem F_X6_70 : mj_fl RX6 70 0 4 .int false := ⟨RX0, TX0, 21, CL_X0, by decide, mj_in2 189 (by decide +kernel) rfl, rfl, tyX0_ok 4 (by decide), rfl⟩
theorem F_X6_76 : mj_fl RX6 76 6 16 .int false := ⟨RX6, TX6, 17, CL_X6, by decide, mj_in4 42 (by decide +kernel) rfl, rfl, tyX6_ok 16 (by decide), rfl⟩
theorem F_X6_82 : mj_fl RX6 82 2 11 .int false := ⟨RX2, TX2, 20, CL_X2, by decide, mj_in1 122 (by decide +kernel) rfl, rfl, tyX2_ok 11 (by decide), rfl⟩
theorem F_X6_85 : mj_fl RX6 85 2 8 .int false := ⟨RX2, TX2, 20, CL_X2, by decide, mj_in1 116 (by decide +kernel) rfl, rfl, tyX2_ok 8 (by decide), rfl⟩
theorem F_X6_106 : mj_fl RX6 106 6 10 .int false := ⟨RX6, TX6, 17, CL_X6, by decide, mj_in4 35 (by decide +kernel) rfl, rfl, tyX6_ok 10 (by decide), rfl⟩
theorem F_X6_109 : mj_fl RX6 109 6 11 .int false := ⟨RX6, TX6, 17, CL_X6, by decide, mj_in4 36 (by decide +kernel) rfl, rfl, tyX6_ok 11 (by decide), rfl⟩
theorem F_X6_112 : mj_fl RX6 112 10 9 .int false := ⟨RX10, TX10, 22, CL_X10, by decide, mj_in3 49 (by decide +kernel) rfl, rfl, tyX10_ok 9 (by decide), rfl⟩
theorem F_X6_113 : mj_fl RX6 113 2 13 .int false := ⟨RX2, TX2, 20, CL_X2, by decide, mj_in1 128 (by decide +kernel) rfl, rfl, tyX2_ok 13 (by decide), rfl⟩
theorem F_X6_116 : mj_fl RX6 116 6 15 .boolean false := ⟨RX6, TX6, 17, CL_X6, by decide, mj_in4 41 (by decide +kernel) rfl, rfl, tyX6_ok 15 (by decide), rfl⟩
theorem F_X6_128 : mj_fl RX6 128 6 7 .int false := ⟨RX6, TX6, 17, CL_X6, by decide, mj_in4 32 (by decide +kernel) rfl, rfl, tyX6_ok 7 (by decide), rfl⟩
theorem F_X6_131 : mj_fl RX6 131 6 9 .int false := ⟨RX6, TX6, 17, CL_X6, by decide, mj_in4 34 (by decide +kernel) rfl, rfl, tyX6_ok 9 (by decide), rfl⟩
theorem F_X6_134 : mj_fl RX6 134 6 12 .int false := ⟨RX6, TX6, 17, CL_X6, by decide, mj_in4 38 (by decide +kernel) rfl, rfl, tyX6_ok 12 (by decide), rfl⟩
theorem F_X6_137 : mj_fl RX6 137 6 13 .int false := ⟨RX6, TX6, 17, CL_X6, by decide, mj_in4 39 (by decide +kernel) rfl, rfl, tyX6_ok 13 (by decide), rfl⟩
theorem F_X6_140 : mj_fl RX6 140 6 14 .int false := ⟨RX6, TX6, 17, CL_X6, by decide, mj_in4 40 (by decide +kernel) rfl, rfl, tyX6_ok 14 (by decide), rfl⟩
theorem F_X6_147 : mj_fl RX6 147 2 1 .int false := ⟨RX2, TX2, 20, CL_X2, by decide, mj_in1 108 (by decide +kernel) rfl, rfl, tyX2_ok 1 (by decide), rfl⟩
theorem F_X6_156 : mj_fl RX6 156 3 7 .int false := ⟨RX3, TX3, 9, CL_X3, by decide, mj_in3 239 (by decide +kernel) rfl, rfl, tyX3_ok 7 (by decide), rfl⟩
theorem F_X6_157 : mj_fl RX6 157 3 8 .int false := ⟨RX3, TX3, 9, CL_X3, by decide, mj_in4 1 (by decide +kernel) rfl, rfl, tyX3_ok 8 (by decide), rfl⟩
theorem F_X6_160 : mj_fl RX6 160 2 12 .int false := ⟨RX2, TX2, 20, CL_X2, by decide, mj_in1 126 (by decide +kernel) rfl, rfl, tyX2_ok 12 (by decide), rfl⟩
theorem F_X6_163 : mj_fl RX6 163 2 14 (.array .int) true := ⟨RX2, TX2, 20, CL_X2, by decide, mj_in1 132 (by decide +kernel) rfl, rfl, tyX2_ok 14 (by decide), rfl⟩
theorem F_X6_173 : mj_fl RX6 173 11 13 .int false := ⟨RX11, TX11, 21, CL_X11, by decide, mj_in2 32 (by decide +kernel) rfl, rfl, tyX11_ok 13 (by decide), rfl⟩
theorem F_X6_180 : mj_fl RX6 180 11 12 (.array .int) true := ⟨RX11, TX11, 21, CL_X11, by decide, mj_in2 28 (by decide +kernel) rfl, rfl, tyX11_ok 12 (by decide), rfl⟩
theorem F_X6_183 : mj_fl RX6 183 2 9 .int false := ⟨RX2, TX2, 20, CL_X2, by decide, mj_in1 119 (by decide +kernel) rfl, rfl, tyX2_ok 9 (by decide), rfl⟩
theorem F_X6_187 : mj_fl RX6 187 11 11 (.array .int) true := ⟨RX11, TX11, 21, CL_X11, by decide, mj_in2 24 (by decide +kernel) rfl, rfl, tyX11_ok 11 (by decide), rfl⟩
theorem F_X6_193 : mj_fl RX6 193 10 11 .int false := ⟨RX10, TX10, 22, CL_X10, by decide, mj_in3 57 (by decide +kernel) rfl, rfl, tyX10_ok 11 (by decide), rfl⟩
theorem F_X6_194 : mj_fl RX6 194 10 10 (.array (.array .int)) true := ⟨RX10, TX10, 22, CL_X10, by decide, mj_in3 52 (by decide +kernel) rfl, rfl, tyX10_ok 10 (by decide), rfl⟩
theorem F_X6_205 : mj_fl RX6 205 5 0 .int false := ⟨RX5, TX5, 19, CL_X5, by decide, mj_in3 124 (by decide +kernel) rfl, rfl, tyX5_ok 0 (by decide), rfl⟩
theorem F_X6_214 : mj_fl RX6 214 5 1 (.array .int) true := ⟨RX5, TX5, 19, CL_X5, by decide, mj_in3 126 (by decide +kernel) rfl, rfl, tyX5_ok 1 (by decide), rfl⟩
theorem F_X6_217 : mj_fl RX6 217 5 3 (.array .int) true := ⟨RX5, TX5, 19, CL_X5, by decide, mj_in3 131 (by decide +kernel) rfl, rfl, tyX5_ok 3 (by decide), rfl⟩
theorem F_X6_220 : mj_fl RX6 220 5 5 (.array .int) true := ⟨RX5, TX5, 19, CL_X5, by decide, mj_in3 137 (by decide +kernel) rfl, rfl, tyX5_ok 5 (by decide), rfl⟩
theorem F_X6_223 : mj_fl RX6 223 5 2 (.array .int) true := ⟨RX5, TX5, 19, CL_X5, by decide, mj_in3 129 (by decide +kernel) rfl, rfl, tyX5_ok 2 (by decide), rfl⟩
theorem F_X6_226 : mj_fl RX6 226 5 4 (.array .int) true := ⟨RX5, TX5, 19, CL_X5, by decide, mj_in3 134 (by decide +kernel) rfl, rfl, tyX5_ok 4 (by decide), rfl⟩
theorem F_X6_229 : mj_fl RX6 229 5 6 (.array .int) true := ⟨RX5, TX5, 19, CL_X5, by decide, mj_in3 139 (by decide +kernel) rfl, rfl, tyX5_ok 6 (by decide), rfl⟩
theorem F_X6_236 : mj_fl RX6 236 5 7 (.array .int) true := ⟨RX5, TX5, 19, CL_X5, by decide, mj_in3 143 (by decide +kernel) rfl, rfl, tyX5_ok 7 (by decide), rfl⟩
theorem F_X6_243 : mj_fl RX6 243 5 8 (.array .int) true := ⟨RX5, TX5, 19, CL_X5, by decide, mj_in3 146 (by decide +kernel) rfl, rfl, tyX5_ok 8 (by decide), rfl⟩
theorem F_X6_261 : mj_fl RX6 261 5 9 .int false := ⟨RX5, TX5, 19, CL_X5, by decide, mj_in3 149 (by decide +kernel) rfl, rfl, tyX5_ok 9 (by decide), rfl⟩
theorem F_X6_270 : mj_fl RX6 270 5 14 (.array .int) true := ⟨RX5, TX5, 19, CL_X5, by decide, mj_in3 164 (by decide +kernel) rfl, rfl, tyX5_ok 14 (by decide), rfl⟩
theorem F_X6_282 : mj_fl RX6 282 5 12 (.array .int) true := ⟨RX5, TX5, 19, CL_X5, by decide, mj_in3 158 (by decide +kernel) rfl, rfl, tyX5_ok 12 (by decide), rfl⟩
theorem F_X6_285 : mj_fl RX6 285 5 13 (.array .int) true := ⟨RX5, TX5, 19, CL_X5, by decide, mj_in3 161 (by decide +kernel) rfl, rfl, tyX5_ok 13 (by decide), rfl⟩
theorem F_X6_289 : mj_fl RX6 289 5 15 (.array .int) true := ⟨RX5, TX5, 19, CL_X5, by decide, mj_in3 166 (by decide +kernel) rfl, rfl, tyX5_ok 15 (by decide), rfl⟩
theorem F_X6_292 : mj_fl RX6 292 5 16 (.array .int) true := ⟨RX5, TX5, 19, CL_X5, by decide, mj_in3 170 (by decide +kernel) rfl, rfl, tyX5_ok 16 (by decide), rfl⟩
theorem F_X6_306 : mj_fl RX6 306 11 6 (.array .long) true := ⟨RX11, TX11, 21, CL_X11, by decide, mj_in2 12 (by decide +kernel) rfl, rfl, tyX11_ok 6 (by decide), rfl⟩
theorem F_X6_329 : mj_fl RX6 329 11 1 (.array .int) true := ⟨RX11, TX11, 21, CL_X11, by decide, mj_in1 236 (by decide +kernel) rfl, rfl, tyX11_ok 1 (by decide), rfl⟩
theorem F_X6_332 : mj_fl RX6 332 11 5 (.array .long) true := ⟨RX11, TX11, 21, CL_X11, by decide, mj_in2 9 (by decide +kernel) rfl, rfl, tyX11_ok 5 (by decide), rfl⟩
theorem F_X6_338 : mj_fl RX6 338 2 10 .long false := ⟨RX2, TX2, 20, CL_X2, by decide, mj_in1 121 (by decide +kernel) rfl, rfl, tyX2_ok 10 (by decide), rfl⟩
theorem F_X6_350 : mj_fl RX6 350 11 2 (.array .int) true := ⟨RX11, TX11, 21, CL_X11, by decide, mj_in1 239 (by decide +kernel) rfl, rfl, tyX11_ok 2 (by decide), rfl⟩
theorem F_X6_362 : mj_fl RX6 362 11 4 (.array .int) true := ⟨RX11, TX11, 21, CL_X11, by decide, mj_in2 6 (by decide +kernel) rfl, rfl, tyX11_ok 4 (by decide), rfl⟩
theorem F_X6_364 : mj_fl RX6 364 11 10 .int false := ⟨RX11, TX11, 21, CL_X11, by decide, mj_in2 21 (by decide +kernel) rfl, rfl, tyX11_ok 10 (by decide), rfl⟩
theorem F_X6_370 : mj_fl RX6 370 2 15 (.array .boolean) true := ⟨RX2, TX2, 20, CL_X2, by decide, mj_in1 135 (by decide +kernel) rfl, rfl, tyX2_ok 15 (by decide), rfl⟩
theorem F_X6_374 : mj_fl RX6 374 11 9 (.array .int) true := ⟨RX11, TX11, 21, CL_X11, by decide, mj_in2 19 (by decide +kernel) rfl, rfl, tyX11_ok 9 (by decide), rfl⟩
theorem F_X6_380 : mj_fl RX6 380 11 3 (.array .int) true := ⟨RX11, TX11, 21, CL_X11, by decide, mj_in2 2 (by decide +kernel) rfl, rfl, tyX11_ok 3 (by decide), rfl⟩
theorem F_X6_389 : mj_fl RX6 389 10 5 (.array .int) true := ⟨RX10, TX10, 22, CL_X10, by decide, mj_in3 41 (by decide +kernel) rfl, rfl, tyX10_ok 5 (by decide), rfl⟩
theorem F_X6_392 : mj_fl RX6 392 10 6 (.array .boolean) true := ⟨RX10, TX10, 22, CL_X10, by decide, mj_in3 43 (by decide +kernel) rfl, rfl, tyX10_ok 6 (by decide), rfl⟩
theorem F_X6_395 : mj_fl RX6 395 10 0 (.array .int) true := ⟨RX10, TX10, 22, CL_X10, by decide, mj_in3 31 (by decide +kernel) rfl, rfl, tyX10_ok 0 (by decide), rfl⟩
theorem F_X6_397 : mj_fl RX6 397 10 7 (.array .long) true := ⟨RX10, TX10, 22, CL_X10, by decide, mj_in3 45 (by decide +kernel) rfl, rfl, tyX10_ok 7 (by decide), rfl⟩
theorem F_X6_398 : mj_fl RX6 398 10 8 (.array .long) true := ⟨RX10, TX10, 22, CL_X10, by decide, mj_in3 47 (by decide +kernel) rfl, rfl, tyX10_ok 8 (by decide), rfl⟩
theorem F_X6_399 : mj_fl RX6 399 10 3 (.array .int) true := ⟨RX10, TX10, 22, CL_X10, by decide, mj_in3 38 (by decide +kernel) rfl, rfl, tyX10_ok 3 (by decide), rfl⟩
theorem F_X6_435 : mj_fl RX6 435 0 3 (.array .long) true := ⟨RX0, TX0, 21, CL_X0, by decide, mj_in2 188 (by decide +kernel) rfl, rfl, tyX0_ok 3 (by decide), rfl⟩
theorem F_X6_445 : mj_fl RX6 445 10 1 (.array .int) true := ⟨RX10, TX10, 22, CL_X10, by decide, mj_in3 33 (by decide +kernel) rfl, rfl, tyX10_ok 1 (by decide), rfl⟩
theorem F_X6_449 : mj_fl RX6 449 10 2 (.array .int) true := ⟨RX10, TX10, 22, CL_X10, by decide, mj_in3 35 (by decide +kernel) rfl, rfl, tyX10_ok 2 (by decide), rfl⟩
theorem F_X6_479 : mj_fl RX6 479 0 1 (.array .int) true := ⟨RX0, TX0, 21, CL_X0, by decide, mj_in2 182 (by decide +kernel) rfl, rfl, tyX0_ok 1 (by decide), rfl⟩
theorem F_X6_531 : mj_fl RX6 531 5 17 (.array (.array .int)) true := ⟨RX5, TX5, 19, CL_X5, by decide, mj_in3 174 (by decide +kernel) rfl, rfl, tyX5_ok 17 (by decide), rfl⟩
theorem F_X6_537 : mj_fl RX6 537 5 18 .int false := ⟨RX5, TX5, 19, CL_X5, by decide, mj_in3 177 (by decide +kernel) rfl, rfl, tyX5_ok 18 (by decide), rfl⟩
theorem F_X7_11 : mj_fl RX7 11 7 5 (.array (.object "MatchHouse$Part")) true := ⟨RX7, TX7, 12, CL_X7, by decide, mj_in4 152 (by decide +kernel) rfl, rfl, tyX7_ok 5 (by decide), rfl⟩
theorem F_X7_15 : mj_fl RX7 15 7 0 (.object "MatchHouse$Store") true := ⟨RX7, TX7, 12, CL_X7, by decide, mj_in4 147 (by decide +kernel) rfl, rfl, tyX7_ok 0 (by decide), rfl⟩
theorem F_X7_19 : mj_fl RX7 19 7 1 (.object "MatchHouse$Types") true := ⟨RX7, TX7, 12, CL_X7, by decide, mj_in4 148 (by decide +kernel) rfl, rfl, tyX7_ok 1 (by decide), rfl⟩
theorem F_X7_23 : mj_fl RX7 23 7 2 (.object "MatchHouse$Code") true := ⟨RX7, TX7, 12, CL_X7, by decide, mj_in4 149 (by decide +kernel) rfl, rfl, tyX7_ok 2 (by decide), rfl⟩
theorem F_X7_27 : mj_fl RX7 27 7 3 (.object "MatchHouse$Templates") true := ⟨RX7, TX7, 12, CL_X7, by decide, mj_in4 150 (by decide +kernel) rfl, rfl, tyX7_ok 3 (by decide), rfl⟩
theorem F_X7_31 : mj_fl RX7 31 7 4 (.object "MatchHouse$Plan") true := ⟨RX7, TX7, 12, CL_X7, by decide, mj_in4 151 (by decide +kernel) rfl, rfl, tyX7_ok 4 (by decide), rfl⟩
theorem F_X7_38 : mj_fl RX7 38 7 8 .boolean false := ⟨RX7, TX7, 12, CL_X7, by decide, mj_in4 158 (by decide +kernel) rfl, rfl, tyX7_ok 8 (by decide), rfl⟩
theorem F_X7_42 : mj_fl RX7 42 7 6 .int false := ⟨RX7, TX7, 12, CL_X7, by decide, mj_in4 154 (by decide +kernel) rfl, rfl, tyX7_ok 6 (by decide), rfl⟩
theorem F_X7_46 : mj_fl RX7 46 7 7 .long false := ⟨RX7, TX7, 12, CL_X7, by decide, mj_in4 156 (by decide +kernel) rfl, rfl, tyX7_ok 7 (by decide), rfl⟩
theorem F_X7_58 : mj_fl RX7 58 5 11 (.array .int) true := ⟨RX5, TX5, 19, CL_X5, by decide, mj_in3 154 (by decide +kernel) rfl, rfl, tyX5_ok 11 (by decide), rfl⟩
theorem F_X7_82 : mj_fl RX7 82 4 2 .int false := ⟨RX4, TX4, 17, CL_X4, by decide, mj_in2 103 (by decide +kernel) rfl, rfl, tyX4_ok 2 (by decide), rfl⟩
theorem F_X7_85 : mj_fl RX7 85 5 14 (.array .int) true := ⟨RX5, TX5, 19, CL_X5, by decide, mj_in3 163 (by decide +kernel) rfl, rfl, tyX5_ok 14 (by decide), rfl⟩
theorem F_X7_92 : mj_fl RX7 92 4 0 .int true := ⟨RX4, TX4, 17, CL_X4, by decide, mj_in2 97 (by decide +kernel) rfl, rfl, tyX4_ok 0 (by decide), rfl⟩
theorem F_X7_110 : mj_fl RX7 110 5 5 (.array .int) true := ⟨RX5, TX5, 19, CL_X5, by decide, mj_in3 136 (by decide +kernel) rfl, rfl, tyX5_ok 5 (by decide), rfl⟩
theorem F_X7_113 : mj_fl RX7 113 4 1 .int false := ⟨RX4, TX4, 17, CL_X4, by decide, mj_in2 100 (by decide +kernel) rfl, rfl, tyX4_ok 1 (by decide), rfl⟩
theorem F_X7_121 : mj_fl RX7 121 5 8 (.array .int) true := ⟨RX5, TX5, 19, CL_X5, by decide, mj_in3 145 (by decide +kernel) rfl, rfl, tyX5_ok 8 (by decide), rfl⟩
theorem F_X7_127 : mj_fl RX7 127 5 7 (.array .int) true := ⟨RX5, TX5, 19, CL_X5, by decide, mj_in3 141 (by decide +kernel) rfl, rfl, tyX5_ok 7 (by decide), rfl⟩
theorem F_X7_130 : mj_fl RX7 130 0 5 (.array .long) true := ⟨RX0, TX0, 21, CL_X0, by decide, mj_in2 192 (by decide +kernel) rfl, rfl, tyX0_ok 5 (by decide), rfl⟩
theorem F_X7_138 : mj_fl RX7 138 11 11 (.array .int) true := ⟨RX11, TX11, 21, CL_X11, by decide, mj_in2 23 (by decide +kernel) rfl, rfl, tyX11_ok 11 (by decide), rfl⟩
theorem F_X7_151 : mj_fl RX7 151 0 15 (.object "MatchHouse$Part") false := ⟨RX0, TX0, 21, CL_X0, by decide, mj_in2 209 (by decide +kernel) rfl, rfl, tyX0_ok 15 (by decide), rfl⟩
theorem F_X7_155 : mj_fl RX7 155 0 17 .long false := ⟨RX0, TX0, 21, CL_X0, by decide, mj_in2 212 (by decide +kernel) rfl, rfl, tyX0_ok 17 (by decide), rfl⟩
theorem F_X7_161 : mj_fl RX7 161 0 18 .int false := ⟨RX0, TX0, 21, CL_X0, by decide, mj_in2 214 (by decide +kernel) rfl, rfl, tyX0_ok 18 (by decide), rfl⟩
theorem F_X7_164 : mj_fl RX7 164 0 16 .int false := ⟨RX0, TX0, 21, CL_X0, by decide, mj_in2 210 (by decide +kernel) rfl, rfl, tyX0_ok 16 (by decide), rfl⟩
theorem F_X7_167 : mj_fl RX7 167 4 3 .int false := ⟨RX4, TX4, 17, CL_X4, by decide, mj_in2 106 (by decide +kernel) rfl, rfl, tyX4_ok 3 (by decide), rfl⟩
theorem F_X7_179 : mj_fl RX7 179 5 17 (.array (.array .int)) true := ⟨RX5, TX5, 19, CL_X5, by decide, mj_in3 172 (by decide +kernel) rfl, rfl, tyX5_ok 17 (by decide), rfl⟩
theorem F_X7_191 : mj_fl RX7 191 4 6 .int false := ⟨RX4, TX4, 17, CL_X4, by decide, mj_in2 116 (by decide +kernel) rfl, rfl, tyX4_ok 6 (by decide), rfl⟩
theorem F_X7_194 : mj_fl RX7 194 4 8 (.array .int) true := ⟨RX4, TX4, 17, CL_X4, by decide, mj_in2 121 (by decide +kernel) rfl, rfl, tyX4_ok 8 (by decide), rfl⟩
theorem F_X7_197 : mj_fl RX7 197 4 7 (.array .int) true := ⟨RX4, TX4, 17, CL_X4, by decide, mj_in2 119 (by decide +kernel) rfl, rfl, tyX4_ok 7 (by decide), rfl⟩
theorem F_X7_200 : mj_fl RX7 200 5 13 (.array .int) true := ⟨RX5, TX5, 19, CL_X5, by decide, mj_in3 160 (by decide +kernel) rfl, rfl, tyX5_ok 13 (by decide), rfl⟩
theorem F_X7_203 : mj_fl RX7 203 4 14 (.array .int) true := ⟨RX4, TX4, 17, CL_X4, by decide, mj_in2 134 (by decide +kernel) rfl, rfl, tyX4_ok 14 (by decide), rfl⟩
theorem F_X7_209 : mj_fl RX7 209 0 12 .int false := ⟨RX0, TX0, 21, CL_X0, by decide, mj_in2 203 (by decide +kernel) rfl, rfl, tyX0_ok 12 (by decide), rfl⟩
theorem F_X7_219 : mj_fl RX7 219 4 4 .int false := ⟨RX4, TX4, 17, CL_X4, by decide, mj_in2 110 (by decide +kernel) rfl, rfl, tyX4_ok 4 (by decide), rfl⟩
theorem F_X7_231 : mj_fl RX7 231 4 9 (.array .int) true := ⟨RX4, TX4, 17, CL_X4, by decide, mj_in2 124 (by decide +kernel) rfl, rfl, tyX4_ok 9 (by decide), rfl⟩
theorem F_X7_237 : mj_fl RX7 237 5 16 (.array .int) true := ⟨RX5, TX5, 19, CL_X5, by decide, mj_in3 169 (by decide +kernel) rfl, rfl, tyX5_ok 16 (by decide), rfl⟩
theorem F_X7_246 : mj_fl RX7 246 4 10 .int false := ⟨RX4, TX4, 17, CL_X4, by decide, mj_in2 126 (by decide +kernel) rfl, rfl, tyX4_ok 10 (by decide), rfl⟩
theorem F_X7_249 : mj_fl RX7 249 4 16 (.array .long) true := ⟨RX4, TX4, 17, CL_X4, by decide, mj_in2 139 (by decide +kernel) rfl, rfl, tyX4_ok 16 (by decide), rfl⟩
theorem F_X7_260 : mj_fl RX7 260 4 5 .int false := ⟨RX4, TX4, 17, CL_X4, by decide, mj_in2 113 (by decide +kernel) rfl, rfl, tyX4_ok 5 (by decide), rfl⟩
theorem F_X7_313 : mj_fl RX7 313 0 7 .int false := ⟨RX0, TX0, 21, CL_X0, by decide, mj_in2 197 (by decide +kernel) rfl, rfl, tyX0_ok 7 (by decide), rfl⟩
theorem F_X7_316 : mj_fl RX7 316 0 6 (.array .int) true := ⟨RX0, TX0, 21, CL_X0, by decide, mj_in2 195 (by decide +kernel) rfl, rfl, tyX0_ok 6 (by decide), rfl⟩
theorem F_X7_326 : mj_fl RX7 326 4 12 (.array .int) true := ⟨RX4, TX4, 17, CL_X4, by decide, mj_in2 131 (by decide +kernel) rfl, rfl, tyX4_ok 12 (by decide), rfl⟩
theorem F_X7_329 : mj_fl RX7 329 8 5 .int false := ⟨RX8, TX8, 6, CL_X8, by decide, mj_in1 210 (by decide +kernel) rfl, rfl, tyX8_ok 5 (by decide), rfl⟩
theorem F_X7_355 : mj_fl RX7 355 4 11 (.array .int) true := ⟨RX4, TX4, 17, CL_X4, by decide, mj_in2 129 (by decide +kernel) rfl, rfl, tyX4_ok 11 (by decide), rfl⟩
theorem F_X7_377 : mj_fl RX7 377 8 0 (.array .long) true := ⟨RX8, TX8, 6, CL_X8, by decide, mj_in1 199 (by decide +kernel) rfl, rfl, tyX8_ok 0 (by decide), rfl⟩
theorem F_X7_393 : mj_fl RX7 393 7 9 .int false := ⟨RX7, TX7, 12, CL_X7, by decide, mj_in4 160 (by decide +kernel) rfl, rfl, tyX7_ok 9 (by decide), rfl⟩
theorem F_X7_396 : mj_fl RX7 396 7 10 .int false := ⟨RX7, TX7, 12, CL_X7, by decide, mj_in4 161 (by decide +kernel) rfl, rfl, tyX7_ok 10 (by decide), rfl⟩
theorem F_X7_399 : mj_fl RX7 399 7 11 .int false := ⟨RX7, TX7, 12, CL_X7, by decide, mj_in4 162 (by decide +kernel) rfl, rfl, tyX7_ok 11 (by decide), rfl⟩
theorem F_X8_12 : mj_fl RX8 12 8 0 (.array .long) true := ⟨RX8, TX8, 6, CL_X8, by decide, mj_in1 196 (by decide +kernel) rfl, rfl, tyX8_ok 0 (by decide), rfl⟩
theorem F_X8_16 : mj_fl RX8 16 8 1 (.array .int) true := ⟨RX8, TX8, 6, CL_X8, by decide, mj_in1 200 (by decide +kernel) rfl, rfl, tyX8_ok 1 (by decide), rfl⟩
theorem F_X8_22 : mj_fl RX8 22 8 3 (.array (.array .int)) true := ⟨RX8, TX8, 6, CL_X8, by decide, mj_in1 205 (by decide +kernel) rfl, rfl, tyX8_ok 3 (by decide), rfl⟩
theorem F_X8_66 : mj_fl RX8 66 8 2 .int false := ⟨RX8, TX8, 6, CL_X8, by decide, mj_in1 204 (by decide +kernel) rfl, rfl, tyX8_ok 2 (by decide), rfl⟩
theorem F_X8_74 : mj_fl RX8 74 8 4 .int false := ⟨RX8, TX8, 6, CL_X8, by decide, mj_in1 207 (by decide +kernel) rfl, rfl, tyX8_ok 4 (by decide), rfl⟩
theorem F_X8_77 : mj_fl RX8 77 8 5 .int false := ⟨RX8, TX8, 6, CL_X8, by decide, mj_in1 209 (by decide +kernel) rfl, rfl, tyX8_ok 5 (by decide), rfl⟩
theorem F_X9_9 : mj_fl RX9 9 9 0 (.array .int) true := ⟨RX9, TX9, 4, CL_X9, by decide, mj_in4 196 (by decide +kernel) rfl, rfl, tyX9_ok 0 (by decide), rfl⟩
theorem F_X9_14 : mj_fl RX9 14 9 1 (.array .int) true := ⟨RX9, TX9, 4, CL_X9, by decide, mj_in4 197 (by decide +kernel) rfl, rfl, tyX9_ok 1 (by decide), rfl⟩
theorem F_X9_18 : mj_fl RX9 18 9 2 (.array .int) true := ⟨RX9, TX9, 4, CL_X9, by decide, mj_in4 198 (by decide +kernel) rfl, rfl, tyX9_ok 2 (by decide), rfl⟩
theorem F_X9_46 : mj_fl RX9 46 9 3 .int false := ⟨RX9, TX9, 4, CL_X9, by decide, mj_in4 200 (by decide +kernel) rfl, rfl, tyX9_ok 3 (by decide), rfl⟩
theorem F_X10_11 : mj_fl RX10 11 10 0 (.array .int) true := ⟨RX10, TX10, 22, CL_X10, by decide, mj_in3 29 (by decide +kernel) rfl, rfl, tyX10_ok 0 (by decide), rfl⟩
theorem F_X10_15 : mj_fl RX10 15 10 1 (.array .int) true := ⟨RX10, TX10, 22, CL_X10, by decide, mj_in3 32 (by decide +kernel) rfl, rfl, tyX10_ok 1 (by decide), rfl⟩
theorem F_X10_18 : mj_fl RX10 18 10 2 (.array .int) true := ⟨RX10, TX10, 22, CL_X10, by decide, mj_in3 34 (by decide +kernel) rfl, rfl, tyX10_ok 2 (by decide), rfl⟩
theorem F_X10_21 : mj_fl RX10 21 10 3 (.array .int) true := ⟨RX10, TX10, 22, CL_X10, by decide, mj_in3 36 (by decide +kernel) rfl, rfl, tyX10_ok 3 (by decide), rfl⟩
theorem F_X10_24 : mj_fl RX10 24 10 4 (.array .int) true := ⟨RX10, TX10, 22, CL_X10, by decide, mj_in3 39 (by decide +kernel) rfl, rfl, tyX10_ok 4 (by decide), rfl⟩
theorem F_X10_27 : mj_fl RX10 27 10 5 (.array .int) true := ⟨RX10, TX10, 22, CL_X10, by decide, mj_in3 40 (by decide +kernel) rfl, rfl, tyX10_ok 5 (by decide), rfl⟩
theorem F_X10_30 : mj_fl RX10 30 10 6 (.array .boolean) true := ⟨RX10, TX10, 22, CL_X10, by decide, mj_in3 42 (by decide +kernel) rfl, rfl, tyX10_ok 6 (by decide), rfl⟩
theorem F_X10_34 : mj_fl RX10 34 10 7 (.array .long) true := ⟨RX10, TX10, 22, CL_X10, by decide, mj_in3 44 (by decide +kernel) rfl, rfl, tyX10_ok 7 (by decide), rfl⟩
theorem F_X10_38 : mj_fl RX10 38 10 8 (.array .long) true := ⟨RX10, TX10, 22, CL_X10, by decide, mj_in3 46 (by decide +kernel) rfl, rfl, tyX10_ok 8 (by decide), rfl⟩
theorem F_X10_43 : mj_fl RX10 43 10 10 (.array (.array .int)) true := ⟨RX10, TX10, 22, CL_X10, by decide, mj_in3 50 (by decide +kernel) rfl, rfl, tyX10_ok 10 (by decide), rfl⟩
theorem F_X10_46 : mj_fl RX10 46 10 12 (.array .int) true := ⟨RX10, TX10, 22, CL_X10, by decide, mj_in3 58 (by decide +kernel) rfl, rfl, tyX10_ok 12 (by decide), rfl⟩
theorem F_X10_49 : mj_fl RX10 49 10 16 (.array .int) true := ⟨RX10, TX10, 22, CL_X10, by decide, mj_in3 62 (by decide +kernel) rfl, rfl, tyX10_ok 16 (by decide), rfl⟩
theorem F_X10_52 : mj_fl RX10 52 10 18 (.array .int) true := ⟨RX10, TX10, 22, CL_X10, by decide, mj_in3 66 (by decide +kernel) rfl, rfl, tyX10_ok 18 (by decide), rfl⟩
theorem F_X10_55 : mj_fl RX10 55 10 19 (.array .int) true := ⟨RX10, TX10, 22, CL_X10, by decide, mj_in3 67 (by decide +kernel) rfl, rfl, tyX10_ok 19 (by decide), rfl⟩
theorem F_X10_58 : mj_fl RX10 58 10 21 (.object "MatchHouse$Code") true := ⟨RX10, TX10, 22, CL_X10, by decide, mj_in3 69 (by decide +kernel) rfl, rfl, tyX10_ok 21 (by decide), rfl⟩
theorem F_X10_62 : mj_fl RX10 62 0 3 (.array .long) true := ⟨RX0, TX0, 21, CL_X0, by decide, mj_in2 187 (by decide +kernel) rfl, rfl, tyX0_ok 3 (by decide), rfl⟩
theorem F_X10_67 : mj_fl RX10 67 10 14 (.array .long) false := ⟨RX10, TX10, 22, CL_X10, by decide, mj_in3 60 (by decide +kernel) rfl, rfl, tyX10_ok 14 (by decide), rfl⟩
theorem F_X10_70 : mj_fl RX10 70 10 9 .int false := ⟨RX10, TX10, 22, CL_X10, by decide, mj_in3 48 (by decide +kernel) rfl, rfl, tyX10_ok 9 (by decide), rfl⟩
theorem F_X10_74 : mj_fl RX10 74 10 11 .int false := ⟨RX10, TX10, 22, CL_X10, by decide, mj_in3 54 (by decide +kernel) rfl, rfl, tyX10_ok 11 (by decide), rfl⟩
theorem F_X10_90 : mj_fl RX10 90 0 14 .boolean false := ⟨RX0, TX0, 21, CL_X0, by decide, mj_in2 206 (by decide +kernel) rfl, rfl, tyX0_ok 14 (by decide), rfl⟩
theorem F_X10_107 : mj_fl RX10 107 0 13 .int false := ⟨RX0, TX0, 21, CL_X0, by decide, mj_in2 204 (by decide +kernel) rfl, rfl, tyX0_ok 13 (by decide), rfl⟩
theorem F_X10_110 : mj_fl RX10 110 0 2 .int false := ⟨RX0, TX0, 21, CL_X0, by decide, mj_in2 185 (by decide +kernel) rfl, rfl, tyX0_ok 2 (by decide), rfl⟩
theorem F_X10_113 : mj_fl RX10 113 0 0 (.array .int) true := ⟨RX0, TX0, 21, CL_X0, by decide, mj_in2 177 (by decide +kernel) rfl, rfl, tyX0_ok 0 (by decide), rfl⟩
theorem F_X10_116 : mj_fl RX10 116 0 1 (.array .int) true := ⟨RX0, TX0, 21, CL_X0, by decide, mj_in2 180 (by decide +kernel) rfl, rfl, tyX0_ok 1 (by decide), rfl⟩
theorem F_X10_132 : mj_fl RX10 132 10 15 .int false := ⟨RX10, TX10, 22, CL_X10, by decide, mj_in3 61 (by decide +kernel) rfl, rfl, tyX10_ok 15 (by decide), rfl⟩
theorem F_X10_135 : mj_fl RX10 135 10 13 .int false := ⟨RX10, TX10, 22, CL_X10, by decide, mj_in3 59 (by decide +kernel) rfl, rfl, tyX10_ok 13 (by decide), rfl⟩
theorem F_X10_212 : mj_fl RX10 212 10 20 .int false := ⟨RX10, TX10, 22, CL_X10, by decide, mj_in3 68 (by decide +kernel) rfl, rfl, tyX10_ok 20 (by decide), rfl⟩
theorem F_X10_224 : mj_fl RX10 224 10 17 .int false := ⟨RX10, TX10, 22, CL_X10, by decide, mj_in3 65 (by decide +kernel) rfl, rfl, tyX10_ok 17 (by decide), rfl⟩
theorem F_X11_9 : mj_fl RX11 9 11 0 (.array .int) true := ⟨RX11, TX11, 21, CL_X11, by decide, mj_in1 232 (by decide +kernel) rfl, rfl, tyX11_ok 0 (by decide), rfl⟩
theorem F_X11_13 : mj_fl RX11 13 11 1 (.array .int) true := ⟨RX11, TX11, 21, CL_X11, by decide, mj_in1 234 (by decide +kernel) rfl, rfl, tyX11_ok 1 (by decide), rfl⟩
theorem F_X11_16 : mj_fl RX11 16 11 2 (.array .int) true := ⟨RX11, TX11, 21, CL_X11, by decide, mj_in1 237 (by decide +kernel) rfl, rfl, tyX11_ok 2 (by decide), rfl⟩
theorem F_X11_19 : mj_fl RX11 19 11 3 (.array .int) true := ⟨RX11, TX11, 21, CL_X11, by decide, mj_in2 0 (by decide +kernel) rfl, rfl, tyX11_ok 3 (by decide), rfl⟩
theorem F_X11_22 : mj_fl RX11 22 11 4 (.array .int) true := ⟨RX11, TX11, 21, CL_X11, by decide, mj_in2 3 (by decide +kernel) rfl, rfl, tyX11_ok 4 (by decide), rfl⟩
theorem F_X11_25 : mj_fl RX11 25 11 5 (.array .long) true := ⟨RX11, TX11, 21, CL_X11, by decide, mj_in2 7 (by decide +kernel) rfl, rfl, tyX11_ok 5 (by decide), rfl⟩
theorem F_X11_29 : mj_fl RX11 29 11 6 (.array .long) true := ⟨RX11, TX11, 21, CL_X11, by decide, mj_in2 10 (by decide +kernel) rfl, rfl, tyX11_ok 6 (by decide), rfl⟩
theorem F_X11_32 : mj_fl RX11 32 11 7 (.array .int) true := ⟨RX11, TX11, 21, CL_X11, by decide, mj_in2 13 (by decide +kernel) rfl, rfl, tyX11_ok 7 (by decide), rfl⟩
theorem F_X11_35 : mj_fl RX11 35 11 9 (.array .int) true := ⟨RX11, TX11, 21, CL_X11, by decide, mj_in2 17 (by decide +kernel) rfl, rfl, tyX11_ok 9 (by decide), rfl⟩
theorem F_X11_38 : mj_fl RX11 38 11 11 (.array .int) true := ⟨RX11, TX11, 21, CL_X11, by decide, mj_in2 22 (by decide +kernel) rfl, rfl, tyX11_ok 11 (by decide), rfl⟩
theorem F_X11_41 : mj_fl RX11 41 11 12 (.array .int) true := ⟨RX11, TX11, 21, CL_X11, by decide, mj_in2 26 (by decide +kernel) rfl, rfl, tyX11_ok 12 (by decide), rfl⟩
theorem F_X11_45 : mj_fl RX11 45 11 14 (.array .long) true := ⟨RX11, TX11, 21, CL_X11, by decide, mj_in2 33 (by decide +kernel) rfl, rfl, tyX11_ok 14 (by decide), rfl⟩
theorem F_X11_48 : mj_fl RX11 48 11 16 (.array .long) true := ⟨RX11, TX11, 21, CL_X11, by decide, mj_in2 35 (by decide +kernel) rfl, rfl, tyX11_ok 16 (by decide), rfl⟩
theorem F_X11_51 : mj_fl RX11 51 11 17 (.array .long) true := ⟨RX11, TX11, 21, CL_X11, by decide, mj_in2 36 (by decide +kernel) rfl, rfl, tyX11_ok 17 (by decide), rfl⟩
theorem F_X11_54 : mj_fl RX11 54 11 18 (.array .long) true := ⟨RX11, TX11, 21, CL_X11, by decide, mj_in2 37 (by decide +kernel) rfl, rfl, tyX11_ok 18 (by decide), rfl⟩
theorem F_X11_57 : mj_fl RX11 57 11 19 (.array .int) true := ⟨RX11, TX11, 21, CL_X11, by decide, mj_in2 38 (by decide +kernel) rfl, rfl, tyX11_ok 19 (by decide), rfl⟩
theorem F_X11_62 : mj_fl RX11 62 11 20 (.array .int) true := ⟨RX11, TX11, 21, CL_X11, by decide, mj_in2 39 (by decide +kernel) rfl, rfl, tyX11_ok 20 (by decide), rfl⟩
theorem F_X11_65 : mj_fl RX11 65 11 8 .int false := ⟨RX11, TX11, 21, CL_X11, by decide, mj_in2 16 (by decide +kernel) rfl, rfl, tyX11_ok 8 (by decide), rfl⟩
theorem F_X11_69 : mj_fl RX11 69 11 10 .int false := ⟨RX11, TX11, 21, CL_X11, by decide, mj_in2 20 (by decide +kernel) rfl, rfl, tyX11_ok 10 (by decide), rfl⟩
theorem F_X11_72 : mj_fl RX11 72 11 13 .int false := ⟨RX11, TX11, 21, CL_X11, by decide, mj_in2 29 (by decide +kernel) rfl, rfl, tyX11_ok 13 (by decide), rfl⟩
theorem F_X11_79 : mj_fl RX11 79 11 15 .int false := ⟨RX11, TX11, 21, CL_X11, by decide, mj_in2 34 (by decide +kernel) rfl, rfl, tyX11_ok 15 (by decide), rfl⟩
theorem F_X13_7 : mj_fl RX13 7 13 0 (.array .int) true := ⟨RX13, TX13, 190, CL_X13, by decide, mj_in11 222 (by decide +kernel) rfl, rfl, tyX13_ok 0 (by decide), rfl⟩
theorem F_X13_13 : mj_fl RX13 13 13 3 .int false := ⟨RX13, TX13, 190, CL_X13, by decide, mj_in11 225 (by decide +kernel) rfl, rfl, tyX13_ok 3 (by decide), rfl⟩
theorem F_X13_17 : mj_fl RX13 17 13 11 (.array .int) true := ⟨RX13, TX13, 190, CL_X13, by decide, mj_in11 233 (by decide +kernel) rfl, rfl, tyX13_ok 11 (by decide), rfl⟩
theorem F_X13_20 : mj_fl RX13 20 13 12 (.array .int) true := ⟨RX13, TX13, 190, CL_X13, by decide, mj_in11 234 (by decide +kernel) rfl, rfl, tyX13_ok 12 (by decide), rfl⟩
theorem F_X13_23 : mj_fl RX13 23 13 13 (.array .int) true := ⟨RX13, TX13, 190, CL_X13, by decide, mj_in11 235 (by decide +kernel) rfl, rfl, tyX13_ok 13 (by decide), rfl⟩
theorem F_X13_26 : mj_fl RX13 26 13 17 (.array .int) true := ⟨RX13, TX13, 190, CL_X13, by decide, mj_in11 239 (by decide +kernel) rfl, rfl, tyX13_ok 17 (by decide), rfl⟩
theorem F_X13_29 : mj_fl RX13 29 13 18 (.array .int) true := ⟨RX13, TX13, 190, CL_X13, by decide, mj_in12 0 (by decide +kernel) rfl, rfl, tyX13_ok 18 (by decide), rfl⟩
theorem F_X13_32 : mj_fl RX13 32 13 19 (.array .long) true := ⟨RX13, TX13, 190, CL_X13, by decide, mj_in12 1 (by decide +kernel) rfl, rfl, tyX13_ok 19 (by decide), rfl⟩
theorem F_X13_36 : mj_fl RX13 36 13 20 (.array .long) true := ⟨RX13, TX13, 190, CL_X13, by decide, mj_in12 2 (by decide +kernel) rfl, rfl, tyX13_ok 20 (by decide), rfl⟩
theorem F_X13_39 : mj_fl RX13 39 13 21 (.array .int) true := ⟨RX13, TX13, 190, CL_X13, by decide, mj_in12 3 (by decide +kernel) rfl, rfl, tyX13_ok 21 (by decide), rfl⟩
theorem F_X13_42 : mj_fl RX13 42 13 22 (.array .int) true := ⟨RX13, TX13, 190, CL_X13, by decide, mj_in12 4 (by decide +kernel) rfl, rfl, tyX13_ok 22 (by decide), rfl⟩
theorem F_X13_45 : mj_fl RX13 45 13 23 (.array .int) true := ⟨RX13, TX13, 190, CL_X13, by decide, mj_in12 5 (by decide +kernel) rfl, rfl, tyX13_ok 23 (by decide), rfl⟩
theorem F_X13_48 : mj_fl RX13 48 13 25 (.array .int) true := ⟨RX13, TX13, 190, CL_X13, by decide, mj_in12 7 (by decide +kernel) rfl, rfl, tyX13_ok 25 (by decide), rfl⟩
theorem F_X13_51 : mj_fl RX13 51 13 35 (.array .int) true := ⟨RX13, TX13, 190, CL_X13, by decide, mj_in12 17 (by decide +kernel) rfl, rfl, tyX13_ok 35 (by decide), rfl⟩
theorem F_X13_54 : mj_fl RX13 54 13 37 (.array .int) true := ⟨RX13, TX13, 190, CL_X13, by decide, mj_in12 19 (by decide +kernel) rfl, rfl, tyX13_ok 37 (by decide), rfl⟩
theorem F_X13_57 : mj_fl RX13 57 13 38 (.array .int) true := ⟨RX13, TX13, 190, CL_X13, by decide, mj_in12 20 (by decide +kernel) rfl, rfl, tyX13_ok 38 (by decide), rfl⟩
theorem F_X13_60 : mj_fl RX13 60 13 39 (.array .int) true := ⟨RX13, TX13, 190, CL_X13, by decide, mj_in12 21 (by decide +kernel) rfl, rfl, tyX13_ok 39 (by decide), rfl⟩
theorem F_X13_63 : mj_fl RX13 63 13 41 (.array .int) true := ⟨RX13, TX13, 190, CL_X13, by decide, mj_in12 23 (by decide +kernel) rfl, rfl, tyX13_ok 41 (by decide), rfl⟩
theorem F_X13_66 : mj_fl RX13 66 13 42 (.array .int) true := ⟨RX13, TX13, 190, CL_X13, by decide, mj_in12 24 (by decide +kernel) rfl, rfl, tyX13_ok 42 (by decide), rfl⟩
theorem F_X13_69 : mj_fl RX13 69 13 43 (.array .int) true := ⟨RX13, TX13, 190, CL_X13, by decide, mj_in12 25 (by decide +kernel) rfl, rfl, tyX13_ok 43 (by decide), rfl⟩
theorem F_X13_72 : mj_fl RX13 72 13 45 (.array .int) true := ⟨RX13, TX13, 190, CL_X13, by decide, mj_in12 27 (by decide +kernel) rfl, rfl, tyX13_ok 45 (by decide), rfl⟩
theorem F_X13_75 : mj_fl RX13 75 13 46 (.array .int) true := ⟨RX13, TX13, 190, CL_X13, by decide, mj_in12 28 (by decide +kernel) rfl, rfl, tyX13_ok 46 (by decide), rfl⟩
theorem F_X13_78 : mj_fl RX13 78 13 47 (.array .int) true := ⟨RX13, TX13, 190, CL_X13, by decide, mj_in12 29 (by decide +kernel) rfl, rfl, tyX13_ok 47 (by decide), rfl⟩
theorem F_X13_81 : mj_fl RX13 81 13 48 (.array .int) true := ⟨RX13, TX13, 190, CL_X13, by decide, mj_in12 30 (by decide +kernel) rfl, rfl, tyX13_ok 48 (by decide), rfl⟩
theorem F_X13_84 : mj_fl RX13 84 13 49 (.array .int) true := ⟨RX13, TX13, 190, CL_X13, by decide, mj_in12 31 (by decide +kernel) rfl, rfl, tyX13_ok 49 (by decide), rfl⟩
theorem F_X13_87 : mj_fl RX13 87 13 50 (.array .int) true := ⟨RX13, TX13, 190, CL_X13, by decide, mj_in12 32 (by decide +kernel) rfl, rfl, tyX13_ok 50 (by decide), rfl⟩
theorem F_X13_90 : mj_fl RX13 90 13 51 (.array .int) true := ⟨RX13, TX13, 190, CL_X13, by decide, mj_in12 33 (by decide +kernel) rfl, rfl, tyX13_ok 51 (by decide), rfl⟩
theorem F_X13_93 : mj_fl RX13 93 13 52 (.array .int) true := ⟨RX13, TX13, 190, CL_X13, by decide, mj_in12 34 (by decide +kernel) rfl, rfl, tyX13_ok 52 (by decide), rfl⟩
theorem F_X13_96 : mj_fl RX13 96 13 53 (.array .int) true := ⟨RX13, TX13, 190, CL_X13, by decide, mj_in12 35 (by decide +kernel) rfl, rfl, tyX13_ok 53 (by decide), rfl⟩
theorem F_X13_99 : mj_fl RX13 99 13 54 (.array .int) true := ⟨RX13, TX13, 190, CL_X13, by decide, mj_in12 36 (by decide +kernel) rfl, rfl, tyX13_ok 54 (by decide), rfl⟩
theorem F_X13_102 : mj_fl RX13 102 13 56 (.array .int) true := ⟨RX13, TX13, 190, CL_X13, by decide, mj_in12 38 (by decide +kernel) rfl, rfl, tyX13_ok 56 (by decide), rfl⟩
theorem F_X13_105 : mj_fl RX13 105 13 57 (.array .int) true := ⟨RX13, TX13, 190, CL_X13, by decide, mj_in12 39 (by decide +kernel) rfl, rfl, tyX13_ok 57 (by decide), rfl⟩
theorem F_X13_108 : mj_fl RX13 108 13 58 (.array .int) true := ⟨RX13, TX13, 190, CL_X13, by decide, mj_in12 40 (by decide +kernel) rfl, rfl, tyX13_ok 58 (by decide), rfl⟩
theorem F_X13_111 : mj_fl RX13 111 13 59 (.array .int) true := ⟨RX13, TX13, 190, CL_X13, by decide, mj_in12 41 (by decide +kernel) rfl, rfl, tyX13_ok 59 (by decide), rfl⟩
theorem F_X13_114 : mj_fl RX13 114 13 60 (.array .int) true := ⟨RX13, TX13, 190, CL_X13, by decide, mj_in12 42 (by decide +kernel) rfl, rfl, tyX13_ok 60 (by decide), rfl⟩
theorem F_X13_117 : mj_fl RX13 117 13 61 (.array .int) true := ⟨RX13, TX13, 190, CL_X13, by decide, mj_in12 43 (by decide +kernel) rfl, rfl, tyX13_ok 61 (by decide), rfl⟩
theorem F_X13_120 : mj_fl RX13 120 13 62 (.array .int) true := ⟨RX13, TX13, 190, CL_X13, by decide, mj_in12 44 (by decide +kernel) rfl, rfl, tyX13_ok 62 (by decide), rfl⟩
theorem F_X13_123 : mj_fl RX13 123 13 63 (.array .int) true := ⟨RX13, TX13, 190, CL_X13, by decide, mj_in12 45 (by decide +kernel) rfl, rfl, tyX13_ok 63 (by decide), rfl⟩
theorem F_X13_126 : mj_fl RX13 126 13 66 (.array .int) true := ⟨RX13, TX13, 190, CL_X13, by decide, mj_in12 48 (by decide +kernel) rfl, rfl, tyX13_ok 66 (by decide), rfl⟩
theorem F_X13_129 : mj_fl RX13 129 13 67 (.array .int) true := ⟨RX13, TX13, 190, CL_X13, by decide, mj_in12 49 (by decide +kernel) rfl, rfl, tyX13_ok 67 (by decide), rfl⟩
theorem F_X13_132 : mj_fl RX13 132 13 68 (.array .int) true := ⟨RX13, TX13, 190, CL_X13, by decide, mj_in12 50 (by decide +kernel) rfl, rfl, tyX13_ok 68 (by decide), rfl⟩
theorem F_X13_135 : mj_fl RX13 135 13 69 (.array .int) true := ⟨RX13, TX13, 190, CL_X13, by decide, mj_in12 51 (by decide +kernel) rfl, rfl, tyX13_ok 69 (by decide), rfl⟩
theorem F_X13_138 : mj_fl RX13 138 13 70 (.array .int) true := ⟨RX13, TX13, 190, CL_X13, by decide, mj_in12 52 (by decide +kernel) rfl, rfl, tyX13_ok 70 (by decide), rfl⟩
theorem F_X13_141 : mj_fl RX13 141 13 71 (.array .int) true := ⟨RX13, TX13, 190, CL_X13, by decide, mj_in12 53 (by decide +kernel) rfl, rfl, tyX13_ok 71 (by decide), rfl⟩
theorem F_X13_144 : mj_fl RX13 144 13 72 (.array .int) true := ⟨RX13, TX13, 190, CL_X13, by decide, mj_in12 54 (by decide +kernel) rfl, rfl, tyX13_ok 72 (by decide), rfl⟩
theorem F_X13_147 : mj_fl RX13 147 13 73 (.array .int) true := ⟨RX13, TX13, 190, CL_X13, by decide, mj_in12 55 (by decide +kernel) rfl, rfl, tyX13_ok 73 (by decide), rfl⟩
theorem F_X13_150 : mj_fl RX13 150 13 74 (.array .int) true := ⟨RX13, TX13, 190, CL_X13, by decide, mj_in12 56 (by decide +kernel) rfl, rfl, tyX13_ok 74 (by decide), rfl⟩
theorem F_X13_153 : mj_fl RX13 153 13 75 (.array .int) true := ⟨RX13, TX13, 190, CL_X13, by decide, mj_in12 57 (by decide +kernel) rfl, rfl, tyX13_ok 75 (by decide), rfl⟩
theorem F_X13_156 : mj_fl RX13 156 13 76 (.array .int) true := ⟨RX13, TX13, 190, CL_X13, by decide, mj_in12 58 (by decide +kernel) rfl, rfl, tyX13_ok 76 (by decide), rfl⟩
theorem F_X13_159 : mj_fl RX13 159 13 77 (.array .int) true := ⟨RX13, TX13, 190, CL_X13, by decide, mj_in12 59 (by decide +kernel) rfl, rfl, tyX13_ok 77 (by decide), rfl⟩
theorem F_X13_162 : mj_fl RX13 162 13 78 (.array .int) true := ⟨RX13, TX13, 190, CL_X13, by decide, mj_in12 60 (by decide +kernel) rfl, rfl, tyX13_ok 78 (by decide), rfl⟩
theorem F_X13_165 : mj_fl RX13 165 13 79 (.array .int) true := ⟨RX13, TX13, 190, CL_X13, by decide, mj_in12 61 (by decide +kernel) rfl, rfl, tyX13_ok 79 (by decide), rfl⟩
theorem F_X13_168 : mj_fl RX13 168 13 80 (.array .int) true := ⟨RX13, TX13, 190, CL_X13, by decide, mj_in12 62 (by decide +kernel) rfl, rfl, tyX13_ok 80 (by decide), rfl⟩
theorem F_X13_171 : mj_fl RX13 171 13 85 (.array .int) true := ⟨RX13, TX13, 190, CL_X13, by decide, mj_in12 67 (by decide +kernel) rfl, rfl, tyX13_ok 85 (by decide), rfl⟩
theorem F_X13_174 : mj_fl RX13 174 13 91 (.array .boolean) true := ⟨RX13, TX13, 190, CL_X13, by decide, mj_in12 73 (by decide +kernel) rfl, rfl, tyX13_ok 91 (by decide), rfl⟩
theorem F_X13_178 : mj_fl RX13 178 13 92 (.array .int) true := ⟨RX13, TX13, 190, CL_X13, by decide, mj_in12 74 (by decide +kernel) rfl, rfl, tyX13_ok 92 (by decide), rfl⟩
theorem F_X13_182 : mj_fl RX13 182 13 95 (.array .long) true := ⟨RX13, TX13, 190, CL_X13, by decide, mj_in12 77 (by decide +kernel) rfl, rfl, tyX13_ok 95 (by decide), rfl⟩
theorem F_X13_185 : mj_fl RX13 185 13 99 (.array .long) true := ⟨RX13, TX13, 190, CL_X13, by decide, mj_in12 81 (by decide +kernel) rfl, rfl, tyX13_ok 99 (by decide), rfl⟩
theorem F_X13_188 : mj_fl RX13 188 13 102 (.array .int) true := ⟨RX13, TX13, 190, CL_X13, by decide, mj_in12 84 (by decide +kernel) rfl, rfl, tyX13_ok 102 (by decide), rfl⟩
theorem F_X13_191 : mj_fl RX13 191 13 104 (.array .int) true := ⟨RX13, TX13, 190, CL_X13, by decide, mj_in12 86 (by decide +kernel) rfl, rfl, tyX13_ok 104 (by decide), rfl⟩
theorem F_X13_194 : mj_fl RX13 194 13 105 (.array .int) true := ⟨RX13, TX13, 190, CL_X13, by decide, mj_in12 87 (by decide +kernel) rfl, rfl, tyX13_ok 105 (by decide), rfl⟩
theorem F_X13_197 : mj_fl RX13 197 13 107 (.array .long) true := ⟨RX13, TX13, 190, CL_X13, by decide, mj_in12 89 (by decide +kernel) rfl, rfl, tyX13_ok 107 (by decide), rfl⟩
theorem F_X13_200 : mj_fl RX13 200 13 109 (.array .boolean) true := ⟨RX13, TX13, 190, CL_X13, by decide, mj_in12 91 (by decide +kernel) rfl, rfl, tyX13_ok 109 (by decide), rfl⟩
theorem F_X13_203 : mj_fl RX13 203 13 110 (.array .int) true := ⟨RX13, TX13, 190, CL_X13, by decide, mj_in12 92 (by decide +kernel) rfl, rfl, tyX13_ok 110 (by decide), rfl⟩
theorem F_X13_206 : mj_fl RX13 206 13 111 (.array .int) true := ⟨RX13, TX13, 190, CL_X13, by decide, mj_in12 93 (by decide +kernel) rfl, rfl, tyX13_ok 111 (by decide), rfl⟩
theorem F_X13_210 : mj_fl RX13 210 13 112 (.array .long) true := ⟨RX13, TX13, 190, CL_X13, by decide, mj_in12 94 (by decide +kernel) rfl, rfl, tyX13_ok 112 (by decide), rfl⟩
theorem F_X13_213 : mj_fl RX13 213 13 113 (.array .long) true := ⟨RX13, TX13, 190, CL_X13, by decide, mj_in12 95 (by decide +kernel) rfl, rfl, tyX13_ok 113 (by decide), rfl⟩
theorem F_X13_217 : mj_fl RX13 217 13 115 (.array .long) true := ⟨RX13, TX13, 190, CL_X13, by decide, mj_in12 97 (by decide +kernel) rfl, rfl, tyX13_ok 115 (by decide), rfl⟩
theorem F_X13_220 : mj_fl RX13 220 13 116 (.array .boolean) true := ⟨RX13, TX13, 190, CL_X13, by decide, mj_in12 98 (by decide +kernel) rfl, rfl, tyX13_ok 116 (by decide), rfl⟩
theorem F_X13_223 : mj_fl RX13 223 13 118 (.array .long) true := ⟨RX13, TX13, 190, CL_X13, by decide, mj_in12 100 (by decide +kernel) rfl, rfl, tyX13_ok 118 (by decide), rfl⟩
theorem F_X13_226 : mj_fl RX13 226 13 120 (.array .boolean) true := ⟨RX13, TX13, 190, CL_X13, by decide, mj_in12 102 (by decide +kernel) rfl, rfl, tyX13_ok 120 (by decide), rfl⟩
theorem F_X13_229 : mj_fl RX13 229 13 122 (.array .int) true := ⟨RX13, TX13, 190, CL_X13, by decide, mj_in12 104 (by decide +kernel) rfl, rfl, tyX13_ok 122 (by decide), rfl⟩
theorem F_X13_232 : mj_fl RX13 232 13 123 (.array .int) true := ⟨RX13, TX13, 190, CL_X13, by decide, mj_in12 105 (by decide +kernel) rfl, rfl, tyX13_ok 123 (by decide), rfl⟩
theorem F_X13_235 : mj_fl RX13 235 13 124 (.array .long) true := ⟨RX13, TX13, 190, CL_X13, by decide, mj_in12 106 (by decide +kernel) rfl, rfl, tyX13_ok 124 (by decide), rfl⟩
theorem F_X13_238 : mj_fl RX13 238 13 130 (.array .long) true := ⟨RX13, TX13, 190, CL_X13, by decide, mj_in12 112 (by decide +kernel) rfl, rfl, tyX13_ok 130 (by decide), rfl⟩
theorem F_X13_241 : mj_fl RX13 241 13 131 (.array .int) true := ⟨RX13, TX13, 190, CL_X13, by decide, mj_in12 113 (by decide +kernel) rfl, rfl, tyX13_ok 131 (by decide), rfl⟩
theorem F_X13_244 : mj_fl RX13 244 13 132 (.array .int) true := ⟨RX13, TX13, 190, CL_X13, by decide, mj_in12 114 (by decide +kernel) rfl, rfl, tyX13_ok 132 (by decide), rfl⟩
theorem F_X13_248 : mj_fl RX13 248 13 134 (.array .long) true := ⟨RX13, TX13, 190, CL_X13, by decide, mj_in12 116 (by decide +kernel) rfl, rfl, tyX13_ok 134 (by decide), rfl⟩
theorem F_X13_252 : mj_fl RX13 252 13 136 (.array .int) true := ⟨RX13, TX13, 190, CL_X13, by decide, mj_in12 118 (by decide +kernel) rfl, rfl, tyX13_ok 136 (by decide), rfl⟩
theorem F_X13_255 : mj_fl RX13 255 13 139 (.array .int) true := ⟨RX13, TX13, 190, CL_X13, by decide, mj_in12 121 (by decide +kernel) rfl, rfl, tyX13_ok 139 (by decide), rfl⟩
theorem F_X13_258 : mj_fl RX13 258 13 140 (.array .int) true := ⟨RX13, TX13, 190, CL_X13, by decide, mj_in12 122 (by decide +kernel) rfl, rfl, tyX13_ok 140 (by decide), rfl⟩
theorem F_X13_261 : mj_fl RX13 261 13 142 (.array .int) true := ⟨RX13, TX13, 190, CL_X13, by decide, mj_in12 124 (by decide +kernel) rfl, rfl, tyX13_ok 142 (by decide), rfl⟩
theorem F_X13_264 : mj_fl RX13 264 13 143 (.array .int) true := ⟨RX13, TX13, 190, CL_X13, by decide, mj_in12 125 (by decide +kernel) rfl, rfl, tyX13_ok 143 (by decide), rfl⟩
theorem F_X13_267 : mj_fl RX13 267 13 144 (.array .boolean) true := ⟨RX13, TX13, 190, CL_X13, by decide, mj_in12 126 (by decide +kernel) rfl, rfl, tyX13_ok 144 (by decide), rfl⟩
theorem F_X13_270 : mj_fl RX13 270 13 145 (.array .int) true := ⟨RX13, TX13, 190, CL_X13, by decide, mj_in12 127 (by decide +kernel) rfl, rfl, tyX13_ok 145 (by decide), rfl⟩
theorem F_X13_273 : mj_fl RX13 273 13 150 (.array .int) true := ⟨RX13, TX13, 190, CL_X13, by decide, mj_in12 132 (by decide +kernel) rfl, rfl, tyX13_ok 150 (by decide), rfl⟩
theorem F_X13_276 : mj_fl RX13 276 13 151 (.array .int) true := ⟨RX13, TX13, 190, CL_X13, by decide, mj_in12 133 (by decide +kernel) rfl, rfl, tyX13_ok 151 (by decide), rfl⟩
theorem F_X13_279 : mj_fl RX13 279 13 152 (.array .int) true := ⟨RX13, TX13, 190, CL_X13, by decide, mj_in12 134 (by decide +kernel) rfl, rfl, tyX13_ok 152 (by decide), rfl⟩
theorem F_X13_282 : mj_fl RX13 282 13 153 (.array .int) true := ⟨RX13, TX13, 190, CL_X13, by decide, mj_in12 135 (by decide +kernel) rfl, rfl, tyX13_ok 153 (by decide), rfl⟩
theorem F_X13_285 : mj_fl RX13 285 13 154 (.array .int) true := ⟨RX13, TX13, 190, CL_X13, by decide, mj_in12 136 (by decide +kernel) rfl, rfl, tyX13_ok 154 (by decide), rfl⟩
theorem F_X13_288 : mj_fl RX13 288 13 155 (.array .int) true := ⟨RX13, TX13, 190, CL_X13, by decide, mj_in12 137 (by decide +kernel) rfl, rfl, tyX13_ok 155 (by decide), rfl⟩
theorem F_X13_291 : mj_fl RX13 291 13 156 (.array .int) true := ⟨RX13, TX13, 190, CL_X13, by decide, mj_in12 138 (by decide +kernel) rfl, rfl, tyX13_ok 156 (by decide), rfl⟩
theorem F_X13_294 : mj_fl RX13 294 13 157 (.array .int) true := ⟨RX13, TX13, 190, CL_X13, by decide, mj_in12 139 (by decide +kernel) rfl, rfl, tyX13_ok 157 (by decide), rfl⟩
theorem F_X13_297 : mj_fl RX13 297 13 158 (.array .int) true := ⟨RX13, TX13, 190, CL_X13, by decide, mj_in12 140 (by decide +kernel) rfl, rfl, tyX13_ok 158 (by decide), rfl⟩
theorem F_X13_300 : mj_fl RX13 300 13 159 (.array .int) true := ⟨RX13, TX13, 190, CL_X13, by decide, mj_in12 141 (by decide +kernel) rfl, rfl, tyX13_ok 159 (by decide), rfl⟩
theorem F_X13_303 : mj_fl RX13 303 13 160 (.array .int) true := ⟨RX13, TX13, 190, CL_X13, by decide, mj_in12 142 (by decide +kernel) rfl, rfl, tyX13_ok 160 (by decide), rfl⟩
theorem F_X13_306 : mj_fl RX13 306 13 161 (.array .int) true := ⟨RX13, TX13, 190, CL_X13, by decide, mj_in12 143 (by decide +kernel) rfl, rfl, tyX13_ok 161 (by decide), rfl⟩
theorem F_X13_309 : mj_fl RX13 309 13 162 (.array .int) true := ⟨RX13, TX13, 190, CL_X13, by decide, mj_in12 144 (by decide +kernel) rfl, rfl, tyX13_ok 162 (by decide), rfl⟩
theorem F_X13_312 : mj_fl RX13 312 13 163 (.array .int) true := ⟨RX13, TX13, 190, CL_X13, by decide, mj_in12 145 (by decide +kernel) rfl, rfl, tyX13_ok 163 (by decide), rfl⟩
theorem F_X13_315 : mj_fl RX13 315 13 164 (.array .int) true := ⟨RX13, TX13, 190, CL_X13, by decide, mj_in12 146 (by decide +kernel) rfl, rfl, tyX13_ok 164 (by decide), rfl⟩
theorem F_X13_318 : mj_fl RX13 318 13 165 (.array .int) true := ⟨RX13, TX13, 190, CL_X13, by decide, mj_in12 147 (by decide +kernel) rfl, rfl, tyX13_ok 165 (by decide), rfl⟩
theorem F_X13_321 : mj_fl RX13 321 13 166 (.array .long) true := ⟨RX13, TX13, 190, CL_X13, by decide, mj_in12 148 (by decide +kernel) rfl, rfl, tyX13_ok 166 (by decide), rfl⟩
theorem F_X13_324 : mj_fl RX13 324 13 167 (.array .int) true := ⟨RX13, TX13, 190, CL_X13, by decide, mj_in12 149 (by decide +kernel) rfl, rfl, tyX13_ok 167 (by decide), rfl⟩
theorem F_X13_327 : mj_fl RX13 327 13 168 (.array .int) true := ⟨RX13, TX13, 190, CL_X13, by decide, mj_in12 150 (by decide +kernel) rfl, rfl, tyX13_ok 168 (by decide), rfl⟩
theorem F_X13_330 : mj_fl RX13 330 13 169 (.array .int) true := ⟨RX13, TX13, 190, CL_X13, by decide, mj_in12 151 (by decide +kernel) rfl, rfl, tyX13_ok 169 (by decide), rfl⟩
theorem F_X13_333 : mj_fl RX13 333 13 170 (.array .boolean) true := ⟨RX13, TX13, 190, CL_X13, by decide, mj_in12 152 (by decide +kernel) rfl, rfl, tyX13_ok 170 (by decide), rfl⟩
theorem F_X13_336 : mj_fl RX13 336 13 173 (.array .boolean) true := ⟨RX13, TX13, 190, CL_X13, by decide, mj_in12 155 (by decide +kernel) rfl, rfl, tyX13_ok 173 (by decide), rfl⟩
theorem F_X13_339 : mj_fl RX13 339 13 175 (.array .long) true := ⟨RX13, TX13, 190, CL_X13, by decide, mj_in12 157 (by decide +kernel) rfl, rfl, tyX13_ok 175 (by decide), rfl⟩
theorem F_X13_342 : mj_fl RX13 342 13 177 (.array .boolean) true := ⟨RX13, TX13, 190, CL_X13, by decide, mj_in12 159 (by decide +kernel) rfl, rfl, tyX13_ok 177 (by decide), rfl⟩
theorem F_X13_345 : mj_fl RX13 345 13 181 (.array .int) true := ⟨RX13, TX13, 190, CL_X13, by decide, mj_in12 163 (by decide +kernel) rfl, rfl, tyX13_ok 181 (by decide), rfl⟩
theorem F_X13_349 : mj_fl RX13 349 13 182 (.array .int) true := ⟨RX13, TX13, 190, CL_X13, by decide, mj_in12 164 (by decide +kernel) rfl, rfl, tyX13_ok 182 (by decide), rfl⟩
theorem F_X13_353 : mj_fl RX13 353 13 186 (.array .int) true := ⟨RX13, TX13, 190, CL_X13, by decide, mj_in12 166 (by decide +kernel) rfl, rfl, tyX13_ok 186 (by decide), rfl⟩
theorem F_X13_356 : mj_fl RX13 356 13 187 (.array .int) true := ⟨RX13, TX13, 190, CL_X13, by decide, mj_in12 167 (by decide +kernel) rfl, rfl, tyX13_ok 187 (by decide), rfl⟩
theorem F_X13_359 : mj_fl RX13 359 13 188 (.array .int) true := ⟨RX13, TX13, 190, CL_X13, by decide, mj_in12 168 (by decide +kernel) rfl, rfl, tyX13_ok 188 (by decide), rfl⟩
theorem F_X13_363 : mj_fl RX13 363 13 189 (.array .boolean) true := ⟨RX13, TX13, 190, CL_X13, by decide, mj_in12 169 (by decide +kernel) rfl, rfl, tyX13_ok 189 (by decide), rfl⟩
theorem F_X13_366 : mj_fl RX13 366 13 1 .int false := ⟨RX13, TX13, 190, CL_X13, by decide, mj_in11 223 (by decide +kernel) rfl, rfl, tyX13_ok 1 (by decide), rfl⟩
theorem F_X13_375 : mj_fl RX13 375 13 2 .int false := ⟨RX13, TX13, 190, CL_X13, by decide, mj_in11 224 (by decide +kernel) rfl, rfl, tyX13_ok 2 (by decide), rfl⟩
theorem F_X13_378 : mj_fl RX13 378 13 4 .int false := ⟨RX13, TX13, 190, CL_X13, by decide, mj_in11 226 (by decide +kernel) rfl, rfl, tyX13_ok 4 (by decide), rfl⟩
theorem F_X13_385 : mj_fl RX13 385 13 5 .int false := ⟨RX13, TX13, 190, CL_X13, by decide, mj_in11 227 (by decide +kernel) rfl, rfl, tyX13_ok 5 (by decide), rfl⟩
theorem F_X13_391 : mj_fl RX13 391 13 6 .int false := ⟨RX13, TX13, 190, CL_X13, by decide, mj_in11 228 (by decide +kernel) rfl, rfl, tyX13_ok 6 (by decide), rfl⟩
theorem F_X13_394 : mj_fl RX13 394 13 7 .int false := ⟨RX13, TX13, 190, CL_X13, by decide, mj_in11 229 (by decide +kernel) rfl, rfl, tyX13_ok 7 (by decide), rfl⟩
theorem F_X13_397 : mj_fl RX13 397 13 10 .int false := ⟨RX13, TX13, 190, CL_X13, by decide, mj_in11 232 (by decide +kernel) rfl, rfl, tyX13_ok 10 (by decide), rfl⟩
theorem F_X13_415 : mj_fl RX13 415 13 8 .long false := ⟨RX13, TX13, 190, CL_X13, by decide, mj_in11 230 (by decide +kernel) rfl, rfl, tyX13_ok 8 (by decide), rfl⟩
theorem F_X13_438 : mj_fl RX13 438 13 9 .int false := ⟨RX13, TX13, 190, CL_X13, by decide, mj_in11 231 (by decide +kernel) rfl, rfl, tyX13_ok 9 (by decide), rfl⟩
theorem F_X13_458 : mj_fl RX13 458 13 14 .int false := ⟨RX13, TX13, 190, CL_X13, by decide, mj_in11 236 (by decide +kernel) rfl, rfl, tyX13_ok 14 (by decide), rfl⟩
theorem F_X13_461 : mj_fl RX13 461 13 16 .boolean false := ⟨RX13, TX13, 190, CL_X13, by decide, mj_in11 238 (by decide +kernel) rfl, rfl, tyX13_ok 16 (by decide), rfl⟩
theorem F_X13_465 : mj_fl RX13 465 13 15 .int false := ⟨RX13, TX13, 190, CL_X13, by decide, mj_in11 237 (by decide +kernel) rfl, rfl, tyX13_ok 15 (by decide), rfl⟩
theorem F_X13_471 : mj_fl RX13 471 13 28 .int false := ⟨RX13, TX13, 190, CL_X13, by decide, mj_in12 10 (by decide +kernel) rfl, rfl, tyX13_ok 28 (by decide), rfl⟩
theorem F_X13_474 : mj_fl RX13 474 13 24 .int false := ⟨RX13, TX13, 190, CL_X13, by decide, mj_in12 6 (by decide +kernel) rfl, rfl, tyX13_ok 24 (by decide), rfl⟩
theorem F_X13_479 : mj_fl RX13 479 13 26 .int false := ⟨RX13, TX13, 190, CL_X13, by decide, mj_in12 8 (by decide +kernel) rfl, rfl, tyX13_ok 26 (by decide), rfl⟩
theorem F_X13_485 : mj_fl RX13 485 13 31 .int false := ⟨RX13, TX13, 190, CL_X13, by decide, mj_in12 13 (by decide +kernel) rfl, rfl, tyX13_ok 31 (by decide), rfl⟩
theorem F_X13_552 : mj_fl RX13 552 13 32 .int false := ⟨RX13, TX13, 190, CL_X13, by decide, mj_in12 14 (by decide +kernel) rfl, rfl, tyX13_ok 32 (by decide), rfl⟩
theorem F_X13_584 : mj_fl RX13 584 13 33 .int false := ⟨RX13, TX13, 190, CL_X13, by decide, mj_in12 15 (by decide +kernel) rfl, rfl, tyX13_ok 33 (by decide), rfl⟩
theorem F_X13_591 : mj_fl RX13 591 13 36 .int false := ⟨RX13, TX13, 190, CL_X13, by decide, mj_in12 18 (by decide +kernel) rfl, rfl, tyX13_ok 36 (by decide), rfl⟩
theorem F_X13_621 : mj_fl RX13 621 13 34 .int false := ⟨RX13, TX13, 190, CL_X13, by decide, mj_in12 16 (by decide +kernel) rfl, rfl, tyX13_ok 34 (by decide), rfl⟩
theorem F_X13_624 : mj_fl RX13 624 13 40 .int false := ⟨RX13, TX13, 190, CL_X13, by decide, mj_in12 22 (by decide +kernel) rfl, rfl, tyX13_ok 40 (by decide), rfl⟩
theorem F_X13_627 : mj_fl RX13 627 13 44 .int false := ⟨RX13, TX13, 190, CL_X13, by decide, mj_in12 26 (by decide +kernel) rfl, rfl, tyX13_ok 44 (by decide), rfl⟩
theorem F_X13_630 : mj_fl RX13 630 13 55 .int false := ⟨RX13, TX13, 190, CL_X13, by decide, mj_in12 37 (by decide +kernel) rfl, rfl, tyX13_ok 55 (by decide), rfl⟩
theorem F_X13_633 : mj_fl RX13 633 13 64 .int false := ⟨RX13, TX13, 190, CL_X13, by decide, mj_in12 46 (by decide +kernel) rfl, rfl, tyX13_ok 64 (by decide), rfl⟩
theorem F_X13_639 : mj_fl RX13 639 13 81 .int false := ⟨RX13, TX13, 190, CL_X13, by decide, mj_in12 63 (by decide +kernel) rfl, rfl, tyX13_ok 81 (by decide), rfl⟩
theorem F_X13_642 : mj_fl RX13 642 13 65 .boolean false := ⟨RX13, TX13, 190, CL_X13, by decide, mj_in12 47 (by decide +kernel) rfl, rfl, tyX13_ok 65 (by decide), rfl⟩
theorem F_X13_645 : mj_fl RX13 645 13 147 .boolean false := ⟨RX13, TX13, 190, CL_X13, by decide, mj_in12 129 (by decide +kernel) rfl, rfl, tyX13_ok 147 (by decide), rfl⟩
theorem F_X13_648 : mj_fl RX13 648 13 108 .boolean false := ⟨RX13, TX13, 190, CL_X13, by decide, mj_in12 90 (by decide +kernel) rfl, rfl, tyX13_ok 108 (by decide), rfl⟩
theorem F_X13_651 : mj_fl RX13 651 13 117 .boolean false := ⟨RX13, TX13, 190, CL_X13, by decide, mj_in12 99 (by decide +kernel) rfl, rfl, tyX13_ok 117 (by decide), rfl⟩
theorem F_X13_654 : mj_fl RX13 654 13 96 .int false := ⟨RX13, TX13, 190, CL_X13, by decide, mj_in12 78 (by decide +kernel) rfl, rfl, tyX13_ok 96 (by decide), rfl⟩
theorem F_X13_664 : mj_fl RX13 664 13 29 .int false := ⟨RX13, TX13, 190, CL_X13, by decide, mj_in12 11 (by decide +kernel) rfl, rfl, tyX13_ok 29 (by decide), rfl⟩
theorem F_X13_667 : mj_fl RX13 667 13 27 .int false := ⟨RX13, TX13, 190, CL_X13, by decide, mj_in12 9 (by decide +kernel) rfl, rfl, tyX13_ok 27 (by decide), rfl⟩
theorem F_X13_670 : mj_fl RX13 670 13 30 .int false := ⟨RX13, TX13, 190, CL_X13, by decide, mj_in12 12 (by decide +kernel) rfl, rfl, tyX13_ok 30 (by decide), rfl⟩
theorem F_X13_673 : mj_fl RX13 673 13 82 .int false := ⟨RX13, TX13, 190, CL_X13, by decide, mj_in12 64 (by decide +kernel) rfl, rfl, tyX13_ok 82 (by decide), rfl⟩
theorem F_X13_676 : mj_fl RX13 676 13 83 .int false := ⟨RX13, TX13, 190, CL_X13, by decide, mj_in12 65 (by decide +kernel) rfl, rfl, tyX13_ok 83 (by decide), rfl⟩
theorem F_X13_679 : mj_fl RX13 679 13 84 .int false := ⟨RX13, TX13, 190, CL_X13, by decide, mj_in12 66 (by decide +kernel) rfl, rfl, tyX13_ok 84 (by decide), rfl⟩
theorem F_X13_708 : mj_fl RX13 708 13 86 .int false := ⟨RX13, TX13, 190, CL_X13, by decide, mj_in12 68 (by decide +kernel) rfl, rfl, tyX13_ok 86 (by decide), rfl⟩
theorem F_X13_711 : mj_fl RX13 711 13 87 .int false := ⟨RX13, TX13, 190, CL_X13, by decide, mj_in12 69 (by decide +kernel) rfl, rfl, tyX13_ok 87 (by decide), rfl⟩
theorem F_X13_779 : mj_fl RX13 779 13 88 .int false := ⟨RX13, TX13, 190, CL_X13, by decide, mj_in12 70 (by decide +kernel) rfl, rfl, tyX13_ok 88 (by decide), rfl⟩
theorem F_X13_782 : mj_fl RX13 782 13 89 .int false := ⟨RX13, TX13, 190, CL_X13, by decide, mj_in12 71 (by decide +kernel) rfl, rfl, tyX13_ok 89 (by decide), rfl⟩
theorem F_X13_785 : mj_fl RX13 785 13 90 .int false := ⟨RX13, TX13, 190, CL_X13, by decide, mj_in12 72 (by decide +kernel) rfl, rfl, tyX13_ok 90 (by decide), rfl⟩
theorem F_X13_833 : mj_fl RX13 833 13 121 .int false := ⟨RX13, TX13, 190, CL_X13, by decide, mj_in12 103 (by decide +kernel) rfl, rfl, tyX13_ok 121 (by decide), rfl⟩
theorem F_X13_836 : mj_fl RX13 836 13 93 .int false := ⟨RX13, TX13, 190, CL_X13, by decide, mj_in12 75 (by decide +kernel) rfl, rfl, tyX13_ok 93 (by decide), rfl⟩
theorem F_X13_839 : mj_fl RX13 839 13 94 .int false := ⟨RX13, TX13, 190, CL_X13, by decide, mj_in12 76 (by decide +kernel) rfl, rfl, tyX13_ok 94 (by decide), rfl⟩
theorem F_X13_842 : mj_fl RX13 842 13 97 .int false := ⟨RX13, TX13, 190, CL_X13, by decide, mj_in12 79 (by decide +kernel) rfl, rfl, tyX13_ok 97 (by decide), rfl⟩
theorem F_X13_858 : mj_fl RX13 858 13 98 .int false := ⟨RX13, TX13, 190, CL_X13, by decide, mj_in12 80 (by decide +kernel) rfl, rfl, tyX13_ok 98 (by decide), rfl⟩
theorem F_X13_882 : mj_fl RX13 882 13 103 .int false := ⟨RX13, TX13, 190, CL_X13, by decide, mj_in12 85 (by decide +kernel) rfl, rfl, tyX13_ok 103 (by decide), rfl⟩
theorem F_X13_917 : mj_fl RX13 917 13 100 .int false := ⟨RX13, TX13, 190, CL_X13, by decide, mj_in12 82 (by decide +kernel) rfl, rfl, tyX13_ok 100 (by decide), rfl⟩
theorem F_X13_920 : mj_fl RX13 920 13 148 .long false := ⟨RX13, TX13, 190, CL_X13, by decide, mj_in12 130 (by decide +kernel) rfl, rfl, tyX13_ok 148 (by decide), rfl⟩
theorem F_X13_935 : mj_fl RX13 935 13 101 .int false := ⟨RX13, TX13, 190, CL_X13, by decide, mj_in12 83 (by decide +kernel) rfl, rfl, tyX13_ok 101 (by decide), rfl⟩
theorem F_X13_1009 : mj_fl RX13 1009 13 106 .int false := ⟨RX13, TX13, 190, CL_X13, by decide, mj_in12 88 (by decide +kernel) rfl, rfl, tyX13_ok 106 (by decide), rfl⟩
theorem F_X13_1078 : mj_fl RX13 1078 13 114 .int false := ⟨RX13, TX13, 190, CL_X13, by decide, mj_in12 96 (by decide +kernel) rfl, rfl, tyX13_ok 114 (by decide), rfl⟩
theorem F_X13_1122 : mj_fl RX13 1122 13 119 .int false := ⟨RX13, TX13, 190, CL_X13, by decide, mj_in12 101 (by decide +kernel) rfl, rfl, tyX13_ok 119 (by decide), rfl⟩
theorem F_X13_1152 : mj_fl RX13 1152 13 129 .int false := ⟨RX13, TX13, 190, CL_X13, by decide, mj_in12 111 (by decide +kernel) rfl, rfl, tyX13_ok 129 (by decide), rfl⟩
theorem F_X13_1155 : mj_fl RX13 1155 13 127 .int false := ⟨RX13, TX13, 190, CL_X13, by decide, mj_in12 109 (by decide +kernel) rfl, rfl, tyX13_ok 127 (by decide), rfl⟩
theorem F_X13_1158 : mj_fl RX13 1158 13 126 .int false := ⟨RX13, TX13, 190, CL_X13, by decide, mj_in12 108 (by decide +kernel) rfl, rfl, tyX13_ok 126 (by decide), rfl⟩
theorem F_X13_1164 : mj_fl RX13 1164 13 128 .long false := ⟨RX13, TX13, 190, CL_X13, by decide, mj_in12 110 (by decide +kernel) rfl, rfl, tyX13_ok 128 (by decide), rfl⟩
theorem F_X13_1167 : mj_fl RX13 1167 13 125 .int false := ⟨RX13, TX13, 190, CL_X13, by decide, mj_in12 107 (by decide +kernel) rfl, rfl, tyX13_ok 125 (by decide), rfl⟩
theorem F_X13_1212 : mj_fl RX13 1212 13 138 .int false := ⟨RX13, TX13, 190, CL_X13, by decide, mj_in12 120 (by decide +kernel) rfl, rfl, tyX13_ok 138 (by decide), rfl⟩
theorem F_X13_1215 : mj_fl RX13 1215 13 135 .int false := ⟨RX13, TX13, 190, CL_X13, by decide, mj_in12 117 (by decide +kernel) rfl, rfl, tyX13_ok 135 (by decide), rfl⟩
theorem F_X13_1224 : mj_fl RX13 1224 13 137 .int false := ⟨RX13, TX13, 190, CL_X13, by decide, mj_in12 119 (by decide +kernel) rfl, rfl, tyX13_ok 137 (by decide), rfl⟩
theorem F_X13_1227 : mj_fl RX13 1227 13 141 .int false := ⟨RX13, TX13, 190, CL_X13, by decide, mj_in12 123 (by decide +kernel) rfl, rfl, tyX13_ok 141 (by decide), rfl⟩
theorem F_X13_1236 : mj_fl RX13 1236 13 133 .int false := ⟨RX13, TX13, 190, CL_X13, by decide, mj_in12 115 (by decide +kernel) rfl, rfl, tyX13_ok 133 (by decide), rfl⟩
theorem F_X13_1282 : mj_fl RX13 1282 13 146 .int false := ⟨RX13, TX13, 190, CL_X13, by decide, mj_in12 128 (by decide +kernel) rfl, rfl, tyX13_ok 146 (by decide), rfl⟩
theorem F_X13_1300 : mj_fl RX13 1300 13 171 .long false := ⟨RX13, TX13, 190, CL_X13, by decide, mj_in12 153 (by decide +kernel) rfl, rfl, tyX13_ok 171 (by decide), rfl⟩
theorem F_X13_1315 : mj_fl RX13 1315 13 149 .int false := ⟨RX13, TX13, 190, CL_X13, by decide, mj_in12 131 (by decide +kernel) rfl, rfl, tyX13_ok 149 (by decide), rfl⟩
theorem F_X13_1324 : mj_fl RX13 1324 13 172 .long false := ⟨RX13, TX13, 190, CL_X13, by decide, mj_in12 154 (by decide +kernel) rfl, rfl, tyX13_ok 172 (by decide), rfl⟩
theorem F_X13_1360 : mj_fl RX13 1360 13 174 .boolean false := ⟨RX13, TX13, 190, CL_X13, by decide, mj_in12 156 (by decide +kernel) rfl, rfl, tyX13_ok 174 (by decide), rfl⟩
theorem F_X13_1412 : mj_fl RX13 1412 13 176 .int false := ⟨RX13, TX13, 190, CL_X13, by decide, mj_in12 158 (by decide +kernel) rfl, rfl, tyX13_ok 176 (by decide), rfl⟩
theorem F_X13_1455 : mj_fl RX13 1455 13 178 .int false := ⟨RX13, TX13, 190, CL_X13, by decide, mj_in12 160 (by decide +kernel) rfl, rfl, tyX13_ok 178 (by decide), rfl⟩
theorem F_X13_1472 : mj_fl RX13 1472 13 179 .int false := ⟨RX13, TX13, 190, CL_X13, by decide, mj_in12 161 (by decide +kernel) rfl, rfl, tyX13_ok 179 (by decide), rfl⟩
theorem F_X13_1475 : mj_fl RX13 1475 13 180 .int false := ⟨RX13, TX13, 190, CL_X13, by decide, mj_in12 162 (by decide +kernel) rfl, rfl, tyX13_ok 180 (by decide), rfl⟩
theorem F_X13_1502 : mj_fl RX13 1502 13 183 .int false := ⟨RX13, TX13, 190, CL_X13, by decide, mj_in12 165 (by decide +kernel) rfl, rfl, tyX13_ok 183 (by decide), rfl⟩
theorem OI_i : Cond.instanceMethod Lib.objectInit ∈ mj_TG := mj_in1 32 (by decide +kernel) rfl
theorem OI_c : Cond.code Lib.objectInit ⟨#[0xb1]⟩ 1 none ∈ mj_TG := mj_in1 33 (by decide +kernel) rfl
theorem K_X12_211 : Cond.constantLong RX12 211 (-1) ∈ mj_TG := mj_in9 35 (by decide +kernel) rfl
theorem K_X12_279 : Cond.constant RX12 279 (1000000000) ∈ mj_TG := mj_in11 89 (by decide +kernel) rfl
theorem K_X12_284 : Cond.constantLong RX12 284 (1000000000000) ∈ mj_TG := mj_in11 90 (by decide +kernel) rfl
theorem K_X0_20 : Cond.constant RX0 20 (48000) ∈ mj_TG := mj_in2 89 (by decide +kernel) rfl
theorem K_X0_69 : Cond.constantLong RX0 69 (20) ∈ mj_TG := mj_in7 185 (by decide +kernel) rfl
theorem K_X0_215 : Cond.constantLong RX0 215 (1000000000000000) ∈ mj_TG := mj_in7 224 (by decide +kernel) rfl
theorem K_X0_300 : Cond.constantLong RX0 300 (16) ∈ mj_TG := mj_in11 29 (by decide +kernel) rfl
theorem K_X1_125 : Cond.constantLong RX1 125 (10) ∈ mj_TG := mj_in9 103 (by decide +kernel) rfl
theorem K_X1_196 : Cond.constantLong RX1 196 (-1) ∈ mj_TG := mj_in9 213 (by decide +kernel) rfl
theorem K_X1_242 : Cond.constant RX1 242 (2000000) ∈ mj_TG := mj_in10 23 (by decide +kernel) rfl
theorem K_X2_140 : Cond.constantLong RX2 140 (10) ∈ mj_TG := mj_in5 98 (by decide +kernel) rfl
theorem K_X2_142 : Cond.constantLong RX2 142 (40) ∈ mj_TG := mj_in5 103 (by decide +kernel) rfl
theorem K_X2_153 : Cond.constantLong RX2 153 (6364136223846793005) ∈ mj_TG := mj_in1 100 (by decide +kernel) rfl
theorem K_X2_155 : Cond.constantLong RX2 155 (-7046029254386353131) ∈ mj_TG := mj_in1 101 (by decide +kernel) rfl
theorem K_X4_71 : Cond.constantLong RX4 71 (-1) ∈ mj_TG := mj_in10 86 (by decide +kernel) rfl
theorem K_X6_75 : Cond.constant RX6 75 (2147483647) ∈ mj_TG := mj_in5 63 (by decide +kernel) rfl
theorem K_X6_310 : Cond.constantLong RX6 310 (40) ∈ mj_TG := mj_in5 183 (by decide +kernel) rfl
theorem K_X6_327 : Cond.constantLong RX6 327 (16) ∈ mj_TG := mj_in5 212 (by decide +kernel) rfl
theorem K_X6_342 : Cond.constantLong RX6 342 (-1000000000000000) ∈ mj_TG := mj_in5 167 (by decide +kernel) rfl
theorem K_X6_344 : Cond.constantLong RX6 344 (1000000000000000) ∈ mj_TG := mj_in5 168 (by decide +kernel) rfl
theorem K_X6_498 : Cond.constantLong RX6 498 (20) ∈ mj_TG := mj_in6 100 (by decide +kernel) rfl
theorem K_X7_225 : Cond.constantLong RX7 225 (20) ∈ mj_TG := mj_in11 38 (by decide +kernel) rfl
theorem K_X7_252 : Cond.constantLong RX7 252 (-1) ∈ mj_TG := mj_in10 131 (by decide +kernel) rfl
theorem K_X7_336 : Cond.constantLong RX7 336 (1000000000) ∈ mj_TG := mj_in11 61 (by decide +kernel) rfl
theorem K_X8_11 : Cond.constant RX8 11 (190680) ∈ mj_TG := mj_in1 191 (by decide +kernel) rfl
theorem K_X8_25 : Cond.constant RX8 25 (190560) ∈ mj_TG := mj_in1 194 (by decide +kernel) rfl
theorem K_X8_26 : Cond.constantLong RX8 26 (20) ∈ mj_TG := mj_in1 195 (by decide +kernel) rfl
theorem K_X8_28 : Cond.constantLong RX8 28 (16) ∈ mj_TG := mj_in6 29 (by decide +kernel) rfl
theorem K_X8_30 : Cond.constantLong RX8 30 (2) ∈ mj_TG := mj_in6 7 (by decide +kernel) rfl
theorem K_X8_38 : Cond.constantLong RX8 38 (-2147483648) ∈ mj_TG := mj_in8 166 (by decide +kernel) rfl
theorem K_X8_40 : Cond.constantLong RX8 40 (2147483647) ∈ mj_TG := mj_in8 167 (by decide +kernel) rfl
theorem K_X8_55 : Cond.constantLong RX8 55 (10) ∈ mj_TG := mj_in6 15 (by decide +kernel) rfl
theorem K_X9_13 : Cond.constant RX9 13 (65536) ∈ mj_TG := mj_in4 194 (by decide +kernel) rfl
theorem K_X9_17 : Cond.constant RX9 17 (65537) ∈ mj_TG := mj_in4 195 (by decide +kernel) rfl
theorem K_X10_138 : Cond.constant RX10 138 (1000000000) ∈ mj_TG := mj_in8 10 (by decide +kernel) rfl
theorem K_X10_181 : Cond.constant RX10 181 (65535) ∈ mj_TG := mj_in8 70 (by decide +kernel) rfl
theorem K_X11_44 : Cond.constant RX11 44 (63021) ∈ mj_TG := mj_in1 231 (by decide +kernel) rfl
theorem K_X11_82 : Cond.constant RX11 82 (2000000) ∈ mj_TG := mj_in7 92 (by decide +kernel) rfl
theorem K_X11_92 : Cond.constantLong RX11 92 (7) ∈ mj_TG := mj_in7 98 (by decide +kernel) rfl
theorem K_X11_94 : Cond.constant RX11 94 (1000000) ∈ mj_TG := mj_in7 99 (by decide +kernel) rfl
theorem K_X11_152 : Cond.constant RX11 152 (180480) ∈ mj_TG := mj_in8 234 (by decide +kernel) rfl
theorem K_X11_153 : Cond.constantLong RX11 153 (-1) ∈ mj_TG := mj_in8 235 (by decide +kernel) rfl
theorem K_X11_195 : Cond.constantLong RX11 195 (2) ∈ mj_TG := mj_in9 50 (by decide +kernel) rfl
theorem K_X11_209 : Cond.constantLong RX11 209 (-2000000000000000) ∈ mj_TG := mj_in9 48 (by decide +kernel) rfl
theorem K_X11_215 : Cond.constantLong RX11 215 (4000000000000000000) ∈ mj_TG := mj_in9 58 (by decide +kernel) rfl
theorem K_X11_220 : Cond.constantLong RX11 220 (94) ∈ mj_TG := mj_in9 59 (by decide +kernel) rfl
theorem K_X13_181 : Cond.constant RX13 181 (626600) ∈ mj_TG := mj_in11 214 (by decide +kernel) rfl
theorem K_X13_209 : Cond.constant RX13 209 (150200) ∈ mj_TG := mj_in11 215 (by decide +kernel) rfl
theorem K_X13_216 : Cond.constant RX13 216 (273000) ∈ mj_TG := mj_in11 216 (by decide +kernel) rfl
theorem K_X13_247 : Cond.constant RX13 247 (370000) ∈ mj_TG := mj_in11 217 (by decide +kernel) rfl
theorem K_X13_251 : Cond.constant RX13 251 (577000) ∈ mj_TG := mj_in11 218 (by decide +kernel) rfl
theorem K_X13_348 : Cond.constant RX13 348 (66000) ∈ mj_TG := mj_in11 219 (by decide +kernel) rfl
theorem K_X13_352 : Cond.constant RX13 352 (65600) ∈ mj_TG := mj_in11 220 (by decide +kernel) rfl
theorem K_X13_362 : Cond.constant RX13 362 (65536) ∈ mj_TG := mj_in11 221 (by decide +kernel) rfl
theorem K_X13_369 : Cond.constantLong RX13 369 (20) ∈ mj_TG := mj_in14 79 (by decide +kernel) rfl
theorem K_X13_419 : Cond.constantLong RX13 419 (10) ∈ mj_TG := mj_in14 116 (by decide +kernel) rfl
theorem K_X13_421 : Cond.constantLong RX13 421 (48) ∈ mj_TG := mj_in14 117 (by decide +kernel) rfl
theorem K_X13_423 : Cond.constantLong RX13 423 (32) ∈ mj_TG := mj_in14 118 (by decide +kernel) rfl
theorem K_X13_425 : Cond.constantLong RX13 425 (126) ∈ mj_TG := mj_in14 119 (by decide +kernel) rfl
theorem K_X13_477 : Cond.constantLong RX13 477 (41) ∈ mj_TG := mj_in14 220 (by decide +kernel) rfl
theorem K_X13_488 : Cond.constantLong RX13 488 (16) ∈ mj_TG := mj_in14 211 (by decide +kernel) rfl
theorem K_X13_517 : Cond.constantLong RX13 517 (40) ∈ mj_TG := mj_in14 238 (by decide +kernel) rfl
theorem K_X13_522 : Cond.constantLong RX13 522 (-1000000000000000) ∈ mj_TG := mj_in14 225 (by decide +kernel) rfl
theorem K_X13_542 : Cond.constantLong RX13 542 (21) ∈ mj_TG := mj_in15 33 (by decide +kernel) rfl
theorem K_X13_544 : Cond.constantLong RX13 544 (23) ∈ mj_TG := mj_in15 66 (by decide +kernel) rfl
theorem K_X13_546 : Cond.constantLong RX13 546 (30) ∈ mj_TG := mj_in15 67 (by decide +kernel) rfl
theorem K_X13_548 : Cond.constantLong RX13 548 (36) ∈ mj_TG := mj_in15 68 (by decide +kernel) rfl
theorem K_X13_550 : Cond.constantLong RX13 550 (28) ∈ mj_TG := mj_in15 34 (by decide +kernel) rfl
theorem K_X13_619 : Cond.constantLong RX13 619 (31) ∈ mj_TG := mj_in15 81 (by decide +kernel) rfl
theorem K_X13_682 : Cond.constantLong RX13 682 (5) ∈ mj_TG := mj_in14 183 (by decide +kernel) rfl
theorem K_X13_697 : Cond.constantLong RX13 697 (7) ∈ mj_TG := mj_in15 100 (by decide +kernel) rfl
theorem K_X13_699 : Cond.constantLong RX13 699 (9) ∈ mj_TG := mj_in15 101 (by decide +kernel) rfl
theorem K_X13_733 : Cond.constantLong RX13 733 (39) ∈ mj_TG := mj_in15 149 (by decide +kernel) rfl
theorem K_X13_735 : Cond.constantLong RX13 735 (47) ∈ mj_TG := mj_in15 150 (by decide +kernel) rfl
theorem K_X13_737 : Cond.constantLong RX13 737 (52) ∈ mj_TG := mj_in15 151 (by decide +kernel) rfl
theorem K_X13_739 : Cond.constantLong RX13 739 (58) ∈ mj_TG := mj_in15 152 (by decide +kernel) rfl
theorem K_X13_741 : Cond.constantLong RX13 741 (61) ∈ mj_TG := mj_in15 153 (by decide +kernel) rfl
theorem K_X13_807 : Cond.constantLong RX13 807 (3000) ∈ mj_TG := mj_in15 217 (by decide +kernel) rfl
theorem K_X13_853 : Cond.constantLong RX13 853 (6) ∈ mj_TG := mj_in16 80 (by decide +kernel) rfl
theorem K_X13_864 : Cond.constantLong RX13 864 (1000000000000000) ∈ mj_TG := mj_in16 33 (by decide +kernel) rfl
theorem K_X13_873 : Cond.constantLong RX13 873 (255) ∈ mj_TG := mj_in16 139 (by decide +kernel) rfl
theorem K_X13_878 : Cond.constantLong RX13 878 (64) ∈ mj_TG := mj_in16 24 (by decide +kernel) rfl
theorem K_X13_880 : Cond.constantLong RX13 880 (70) ∈ mj_TG := mj_in16 25 (by decide +kernel) rfl
theorem K_X13_951 : Cond.constantLong RX13 951 (8) ∈ mj_TG := mj_in16 85 (by decide +kernel) rfl
theorem K_X13_969 : Cond.constantLong RX13 969 (4) ∈ mj_TG := mj_in16 71 (by decide +kernel) rfl
theorem K_X13_992 : Cond.constantLong RX13 992 (1000000000000001) ∈ mj_TG := mj_in16 217 (by decide +kernel) rfl
theorem K_X13_994 : Cond.constantLong RX13 994 (2) ∈ mj_TG := mj_in16 124 (by decide +kernel) rfl
theorem K_X13_1005 : Cond.constantLong RX13 1005 (2147483647) ∈ mj_TG := mj_in16 238 (by decide +kernel) rfl
theorem K_X13_1007 : Cond.constantLong RX13 1007 (-2147483648) ∈ mj_TG := mj_in16 239 (by decide +kernel) rfl
theorem K_X13_1054 : Cond.constantLong RX13 1054 (4000000000000000000) ∈ mj_TG := mj_in17 69 (by decide +kernel) rfl
theorem K_X13_1076 : Cond.constantLong RX13 1076 (120) ∈ mj_TG := mj_in17 90 (by decide +kernel) rfl
theorem K_X13_1087 : Cond.constantLong RX13 1087 (-1) ∈ mj_TG := mj_in17 103 (by decide +kernel) rfl
theorem K_X13_1125 : Cond.constantLong RX13 1125 (94) ∈ mj_TG := mj_in17 136 (by decide +kernel) rfl
theorem K_X13_1127 : Cond.constantLong RX13 1127 (2000000000000001) ∈ mj_TG := mj_in17 131 (by decide +kernel) rfl
theorem K_X13_1198 : Cond.constantLong RX13 1198 (3) ∈ mj_TG := mj_in17 219 (by decide +kernel) rfl
theorem K_X13_1239 : Cond.constant RX13 1239 (1000000000) ∈ mj_TG := mj_in16 110 (by decide +kernel) rfl
theorem K_X13_1277 : Cond.constantLong RX13 1277 (65535) ∈ mj_TG := mj_in16 172 (by decide +kernel) rfl
theorem K_X13_1303 : Cond.constantLong RX13 1303 (300) ∈ mj_TG := mj_in18 55 (by decide +kernel) rfl
theorem K_X13_1355 : Cond.constantLong RX13 1355 (10000) ∈ mj_TG := mj_in18 104 (by decide +kernel) rfl
theorem K_X13_1395 : Cond.constantLong RX13 1395 (1000000000) ∈ mj_TG := mj_in18 216 (by decide +kernel) rfl
theorem K_X13_1434 : Cond.constantLong RX13 1434 (9223372036854775807) ∈ mj_TG := mj_in18 134 (by decide +kernel) rfl
theorem K_X13_1485 : Cond.constantLong RX13 1485 (1000000000000) ∈ mj_TG := mj_in18 237 (by decide +kernel) rfl
theorem K_J11_76 : Cond.constant RJ11 76 (56320) ∈ mj_TG := mj_in14 179 (by decide +kernel) rfl
theorem K_J11_110 : Cond.constant RJ11 110 (55232) ∈ mj_TG := mj_in14 175 (by decide +kernel) rfl
theorem K_J6_264 : Cond.constant RJ6 264 (65536) ∈ mj_TG := mj_in9 2 (by decide +kernel) rfl
theorem K_J2_227 : Cond.constant RJ2 227 (65536) ∈ mj_TG := mj_in14 150 (by decide +kernel) rfl
theorem KL_X12_7 : Cond.classLink RX12 7 RX2 ∈ mj_TG := mj_in1 34 (by decide +kernel) rfl
theorem KL_X12_16 : Cond.classLink RX12 16 RX8 ∈ mj_TG := mj_in1 185 (by decide +kernel) rfl
theorem KL_X12_23 : Cond.classLink RX12 23 RX11 ∈ mj_TG := mj_in1 225 (by decide +kernel) rfl
theorem KL_X12_30 : Cond.classLink RX12 30 RX0 ∈ mj_TG := mj_in2 83 (by decide +kernel) rfl
theorem KL_X12_39 : Cond.classLink RX12 39 RX10 ∈ mj_TG := mj_in3 22 (by decide +kernel) rfl
theorem KL_X12_49 : Cond.classLink RX12 49 RX5 ∈ mj_TG := mj_in3 115 (by decide +kernel) rfl
theorem KL_X12_56 : Cond.classLink RX12 56 RX6 ∈ mj_TG := mj_in3 217 (by decide +kernel) rfl
theorem KL_X12_58 : Cond.classLink RX12 58 RX3 ∈ mj_TG := mj_in3 219 (by decide +kernel) rfl
theorem KL_X12_70 : Cond.classLink RX12 70 RX1 ∈ mj_TG := mj_in4 78 (by decide +kernel) rfl
theorem KL_X12_79 : Cond.classLink RX12 79 RX7 ∈ mj_TG := mj_in4 138 (by decide +kernel) rfl
theorem KL_X12_88 : Cond.classLink RX12 88 RX9 ∈ mj_TG := mj_in4 188 (by decide +kernel) rfl
theorem KL_X0_42 : Cond.classLink RX0 42 RX4 ∈ mj_TG := mj_in2 90 (by decide +kernel) rfl
theorem KL_X7_9 : Cond.classLink RX7 9 RX4 ∈ mj_TG := mj_in4 144 (by decide +kernel) rfl
theorem KL_L_7 : Cond.classLink RL 7 RX12 ∈ mj_TG := mj_in1 26 (by decide +kernel) rfl
theorem KL_L_10 : Cond.classLink RL 10 RX13 ∈ mj_TG := mj_in11 208 (by decide +kernel) rfl
theorem AC_byte : Cond.arrayClass .byte ∈ mj_TG := mj_in1 181 (by decide +kernel) rfl
theorem AC_int : Cond.arrayClass .int ∈ mj_TG := mj_in1 182 (by decide +kernel) rfl
theorem AC_long : Cond.arrayClass .long ∈ mj_TG := mj_in1 183 (by decide +kernel) rfl
theorem AC_boolean : Cond.arrayClass .boolean ∈ mj_TG := mj_in1 184 (by decide +kernel) rfl
theorem IN_X0 : Cond.instantiable RX0 21 ∈ mj_TG := mj_in2 84 (by decide +kernel) rfl
theorem II_X0 : Cond.initialized RX0 ∈ mj_TG := mj_in1 10 (by decide +kernel) rfl
theorem IN_X1 : Cond.instantiable RX1 16 ∈ mj_TG := mj_in4 79 (by decide +kernel) rfl
theorem II_X1 : Cond.initialized RX1 ∈ mj_TG := mj_in1 16 (by decide +kernel) rfl
theorem IN_X2 : Cond.instantiable RX2 20 ∈ mj_TG := mj_in1 35 (by decide +kernel) rfl
theorem II_X2 : Cond.initialized RX2 ∈ mj_TG := mj_in1 2 (by decide +kernel) rfl
theorem IN_X3 : Cond.instantiable RX3 9 ∈ mj_TG := mj_in3 220 (by decide +kernel) rfl
theorem II_X3 : Cond.initialized RX3 ∈ mj_TG := mj_in1 15 (by decide +kernel) rfl
theorem IN_X4 : Cond.instantiable RX4 17 ∈ mj_TG := mj_in2 91 (by decide +kernel) rfl
theorem II_X4 : Cond.initialized RX4 ∈ mj_TG := mj_in1 11 (by decide +kernel) rfl
theorem IN_X5 : Cond.instantiable RX5 19 ∈ mj_TG := mj_in3 116 (by decide +kernel) rfl
theorem II_X5 : Cond.initialized RX5 ∈ mj_TG := mj_in1 13 (by decide +kernel) rfl
theorem IN_X6 : Cond.instantiable RX6 17 ∈ mj_TG := mj_in3 218 (by decide +kernel) rfl
theorem II_X6 : Cond.initialized RX6 ∈ mj_TG := mj_in1 14 (by decide +kernel) rfl
theorem IN_X7 : Cond.instantiable RX7 12 ∈ mj_TG := mj_in4 139 (by decide +kernel) rfl
theorem II_X7 : Cond.initialized RX7 ∈ mj_TG := mj_in1 17 (by decide +kernel) rfl
theorem IN_X8 : Cond.instantiable RX8 6 ∈ mj_TG := mj_in1 186 (by decide +kernel) rfl
theorem II_X8 : Cond.initialized RX8 ∈ mj_TG := mj_in1 8 (by decide +kernel) rfl
theorem IN_X9 : Cond.instantiable RX9 4 ∈ mj_TG := mj_in4 189 (by decide +kernel) rfl
theorem II_X9 : Cond.initialized RX9 ∈ mj_TG := mj_in1 18 (by decide +kernel) rfl
theorem IN_X10 : Cond.instantiable RX10 22 ∈ mj_TG := mj_in3 23 (by decide +kernel) rfl
theorem II_X10 : Cond.initialized RX10 ∈ mj_TG := mj_in1 12 (by decide +kernel) rfl
theorem IN_X11 : Cond.instantiable RX11 21 ∈ mj_TG := mj_in1 226 (by decide +kernel) rfl
theorem II_X11 : Cond.initialized RX11 ∈ mj_TG := mj_in1 9 (by decide +kernel) rfl
theorem IN_X12 : Cond.instantiable RX12 13 ∈ mj_TG := mj_in1 27 (by decide +kernel) rfl
theorem II_X12 : Cond.initialized RX12 ∈ mj_TG := mj_in1 1 (by decide +kernel) rfl
theorem IN_X13 : Cond.instantiable RX13 190 ∈ mj_TG := mj_in11 209 (by decide +kernel) rfl
theorem II_X13 : Cond.initialized RX13 ∈ mj_TG := mj_in1 19 (by decide +kernel) rfl
