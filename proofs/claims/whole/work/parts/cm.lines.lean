/-! Level 2: a statement on both sides: what a line tells. -/
/-- where a function's exps stand -/
def E_f (f n : Nat) (v : Nat → Nat) : en_S := (nI f, 2000 + f, n, 0, 2147483647, v)
/-- an exp or templ that has been read: operations lo .. hi - 1, node n -/
def xe_R (n2 n3 : Nat) (E : en_S) (c r : t_S) (t e p l s m fl : Nat) (lv : Int32) (lo hi t0 n : Nat) : Prop := mE n2 n3 r E ∧ lo ≤ hi ∧ hi ≤ e ∧ n < m ∧ ∃ t1 l0 l1 m0 m1 p1 s1 f : Nat, (t1 ≤ t ∧ p1 ≤ p ∧ l1 ≤ l ∧ s1 ≤ s ∧ m1 ≤ m) ∧ XR (wn_R E c r l0 l1) (an_R E c r l0 l1) (tn_R E c r l0 l1) (sn_R c) c r p1 s1 f fl lv 15 lo hi t0 t1 m0 m1 n
/-- .. a whole exp, by its first operation and its node -/
def sx_R (n2 n3 : Nat) (E : en_S) (c r : t_S) (t e p l s m : Nat) (ci ri : Int32) : Prop := ∃ lo hi t0 n : Nat, ci = nI lo ∧ ri = nI n ∧ hi + 1 ≤ e ∧ px_o c hi 0 0 ∧ xe_R n2 n3 E c r t e p l s m 0 0 lo hi t0 n
/-- a call's exps -/
def cl_R (n2 n3 : Nat) (E : en_S) (c r : t_S) (t e p l s m w lo hi v : Nat) : Prop := ∃ EE G : Nat → Nat, v ≤ 12 ∧ w < m ∧ r.1 955 w = 60 ∧ ch_R r w v G ∧ EE 0 = lo ∧ EE v = hi ∧ hi + 1 ≤ e ∧ px_o c hi 0 0 ∧ ∀ j, j < v → G j < m ∧ ∃ t0, xe_R n2 n3 E c r t e p l s m 0 0 (EE j) (EE (j + 1)) t0 (G j)
/-- the steps to a part of a var -/
def ww_R (n2 n3 : Nat) (E : en_S) (c r : t_S) (t e p l s m w lo hi : Nat) : Prop := ∃ (v : Nat) (EE G : Nat → Nat), w < m ∧ r.1 955 w = 58 ∧ ch_R r w v G ∧ EE 0 = lo ∧ EE v = hi ∧ hi ≤ e ∧ ∀ j, j < v → G j < m ∧ EE j < EE (j + 1) ∧ EE (j + 1) ≤ hi ∧ ((r.1 955 (G j) = 68 ∧ EE (j + 1) = EE j + 1 ∧ ∃ X, X < 7934 ∧ r.2.1 957 (G j) = lN X ∧ px_o c (EE j) 37 (nI (66 + X))) ∨ (r.1 955 (G j) = 69 ∧ ∃ b h t0, r.1 959 (G j) = nI b ∧ EE (j + 1) = h + 1 ∧ xe_R n2 n3 E c r t e p l s m 0 0 (EE j) h t0 b ∧ px_o c h 38 0))
/-- a word of a line that is linked -/
def wl_R (c r : t_S) (f s l so side : Nat) (spot ex : Int32) : Prop := ∃ e X pl, e < l ∧ X < 7934 ∧ pl ≤ 12000 ∧ hi_e c e (nI so) X pl (nI f) spot ex ∧ r.1 (991 + 2 * side) s = nI X ∧ r.1 (992 + 2 * side) s = nI pl
/-- a line's var: of the function, or linked -/
def vr_L (v : Nat → Nat) (c r : t_S) (f td s l side : Nat) : Prop := ∃ X, X < 7934 ∧ r.1 (991 + 2 * side) s = nI X ∧ ((∃ i, i < td ∧ v X = 1 + i ∧ c.1 (445 + s) 7 = nI i) ∨ (v X = 0 ∧ c.1 (445 + s) 7 = -1 ∧ wl_R c r f s l 14 side (nI s) 0))
def in_R (v : Nat → Nat) (c r : t_S) (f td s l : Nat) : Prop := (c.1 (445 + s) 7 = -1 ∧ r.1 993 s = -1) ∨ vr_L v c r f td s l 1
/-- a line that is to come or none -/
def sb_R (lo hi : Nat) (v w : Int32) : Prop := v = w ∧ (v = -1 ∨ ∃ j, lo < j ∧ j < hi ∧ v = nI j)
/-- an event: its sort in the class, in the reference -/
def ev_R (n2 n3 : Nat) (E : en_S) (v : Nat → Nat) (c r : t_S) (t e p l s m f td ln so V : Nat) : Prop := (so = 11 ∧ V = 0 ∧ wl_R c r f ln l 5 0 (nI ln) 0 ∧ (∃ lo hi t0 n, c.1 (445 + ln) 9 = nI lo ∧ c.1 (445 + ln) 8 = nI t0 ∧ r.1 995 ln = nI n ∧ hi + 1 ≤ e ∧ px_o c hi 0 0 ∧ xe_R n2 n3 E c r t e p l s m 1 (-1000) lo hi t0 n ∧ r.1 960 n = -1 ∧ c.1 356 t0 = -1) ∧ ((c.1 (445 + ln) 10 = -1 ∧ r.1 996 ln = -1) ∨ sx_R n2 n3 E c r t e p l s m (c.1 (445 + ln) 10) (r.1 996 ln)) ∧ in_R v c r f td ln l) ∨ (so = 12 ∧ V = 1 ∧ wl_R c r f ln l 6 0 (nI ln) 0) ∨ (so = 13 ∧ V = 2 ∧ sx_R n2 n3 E c r t e p l s m (c.1 (445 + ln) 5) (r.1 995 ln))
/-- by its kind: class's sort so, reference's kind K, event V -/
def sk_R (n2 n3 : Nat) (E : en_S) (v : Nat → Nat) (c r : t_S) (t e p l s m f td ln so K V : Nat) : Prop :=
  (so = 1 ∧ K = 1 ∧ V = 9 ∧ (f < n3 ∧ f < 40 ∧ ∃ cnt, td < cnt ∧ cnt ≤ 8 ∧ r.1 986 f = nI cnt) ∧ c.1 (445 + ln) 7 = nI td ∧ (∃ X, X < 7934 ∧ r.1 993 ln = nI X ∧ r.1 984 (8 * f + td) = nI X) ∧ c.1 443 (8 * f + td) = -1 ∧ (r.1 991 ln = -1 ∨ wl_R c r f ln l 1 0 (nI (8 * f + td)) 0) ∧ sx_R n2 n3 E c r t e p l s m (c.1 (445 + ln) 5) (r.1 995 ln)) ∨
  (so = 2 ∧ K = 2 ∧ V = 9 ∧ vr_L v c r f td ln l 0 ∧ ∃ w lo mid hi t0 n, r.1 996 ln = nI w ∧ r.1 995 ln = nI n ∧ c.1 (445 + ln) 5 = nI lo ∧ c.1 (445 + ln) 9 = nI mid ∧ ww_R n2 n3 E c r t e p l s m w lo mid ∧ xe_R n2 n3 E c r t e p l s m 0 0 mid hi t0 n ∧ hi + 1 ≤ e ∧ px_o c hi 0 0) ∨
  (((so = 3 ∧ K = 3) ∨ (so = 4 ∧ K = 4) ∨ (so = 8 ∧ K = 8)) ∧ V = 9 ∧ sx_R n2 n3 E c r t e p l s m (c.1 (445 + ln) 5) (r.1 995 ln)) ∨
  (((so = 5 ∧ K = 5) ∨ (so = 19 ∧ K = 17)) ∧ V = 9 ∧ ((c.1 (445 + ln) 5 = -1 ∧ r.1 995 ln = -1) ∨ sx_R n2 n3 E c r t e p l s m (c.1 (445 + ln) 5) (r.1 995 ln))) ∨
  (so = 6 ∧ K = 6 ∧ V = 9 ∧ (∃ w lo hi na, r.1 995 ln = nI w ∧ c.1 (445 + ln) 5 = nI lo ∧ cl_R n2 n3 E c r t e p l s m w lo hi na ∧ wl_R c r f ln l 9 0 (nI ln) (nI na)) ∧ in_R v c r f td ln l) ∨
  (so = 7 ∧ K = 7 ∧ V = 9 ∧ ∃ x, 1 ≤ x ∧ x ≤ 3 ∧ c.1 (445 + ln) 6 = nI x ∧ r.1 991 ln = nI x) ∨
  (((so = 9 ∧ K = 9 ∧ wl_R c r f ln l 5 0 (nI ln) 0) ∨ (so = 14 ∧ K = 12 ∧ wl_R c r f ln l 6 0 (nI ln) 0)) ∧ V = 9 ∧ sx_R n2 n3 E c r t e p l s m (c.1 (445 + ln) 5) (r.1 995 ln)) ∨
  (so = 10 ∧ K = 10 ∧ V = 9) ∨
  (K = 11 ∧ ev_R n2 n3 E v c r t e p l s m f td ln so V) ∨
  (so = 15 ∧ K = 13 ∧ V = 9 ∧ wl_R c r f ln l 6 0 (nI ln) 0) ∨
  (so = 16 ∧ K = 14 ∧ V = 9 ∧ wl_R c r f ln l 4 0 (nI ln) 0 ∧ vr_L v c r f td ln l 1) ∨
  (so = 17 ∧ K = 15 ∧ V = 9 ∧ ∃ w lo mid hi t0 n na, r.1 996 ln = nI n ∧ r.1 995 ln = nI w ∧ c.1 (445 + ln) 5 = nI lo ∧ xe_R n2 n3 E c r t e p l s m 0 0 lo mid t0 n ∧ cl_R n2 n3 E c r t e p l s m w mid hi na ∧ wl_R c r f ln l 11 0 (nI ln) (nI na)) ∨
  (so = 18 ∧ K = 16 ∧ V = 9 ∧ ∃ lo mid hi t0 t1 n n' X Y, r.1 995 ln = nI n ∧ r.1 996 ln = nI n' ∧ c.1 (445 + ln) 5 = nI lo ∧ xe_R n2 n3 E c r t e p l s m 0 0 lo mid t0 n ∧ xe_R n2 n3 E c r t e p l s m 0 0 mid hi t1 n' ∧ hi + 1 ≤ e ∧ px_o c hi 0 0 ∧ wl_R c r f ln l 8 0 (nI ln) 0 ∧ wl_R c r f ln l 8 1 (nI ln) 0 ∧ X < 7934 ∧ Y < 7934 ∧ c.1 (445 + ln) 6 = nI (66 + X) ∧ r.1 991 ln = nI X ∧ c.1 (445 + ln) 8 = nI (66 + Y) ∧ r.1 993 ln = nI Y) ∨
  (((so = 20 ∧ K = 18 ∧ V = 9) ∨ (so = 23 ∧ K = 20 ∧ V = 3)) ∧ ∃ w lo hi na, r.1 995 ln = nI w ∧ c.1 (445 + ln) 5 = nI lo ∧ cl_R n2 n3 E c r t e p l s m w lo hi na ∧ wl_R c r f ln l 10 0 (nI ln) (nI na)) ∨
  (so = 21 ∧ K = 19 ∧ V = 9) ∨
  (so = 22 ∧ K = 20 ∧ V = 4) ∨
  (K = 20 ∧ ev_R n2 n3 E v c r t e p l s m f td ln so V)
/-- a line whole -/
def st_R (n2 n3 : Nat) (c r : t_S) (t e p l s m hi ln : Nat) : Prop := ∃ (f td : Nat) (v : Nat → Nat) (so K V : Nat), (f < 40 ∧ td ≤ 8 ∧ so < 30 ∧ K < 30 ∧ V < 10) ∧ r.1 1001 ln = nI f ∧ r.1 1002 ln = nI td ∧ mE n2 n3 r (E_f f td v) ∧ c.1 (445 + ln) 0 = nI so ∧ r.1 988 ln = nI K ∧ r.1 1000 ln = sl_v V ∧ sb_R ln hi (c.1 (445 + ln) 1) (r.1 989 ln) ∧ (c.1 (445 + ln) 2 = r.1 990 ln ∧ (c.1 (445 + ln) 2 = -1 ∨ ∃ j, j < ln ∧ c.1 (445 + ln) 2 = nI j)) ∧ sb_R ln hi (c.1 (445 + ln) 3) (r.1 998 ln) ∧ sb_R ln hi (c.1 (445 + ln) 4) (r.1 999 ln) ∧ ((so = 22 ∨ so = 23 ∨ K = 20 ∧ 11 ≤ so ∧ so ≤ 13) → ((c.1 (445 + ln) 11 = -1 ∧ r.1 997 ln = -1) ∨ sx_R n2 n3 (E_f f td v) c r t e p l s m (c.1 (445 + ln) 11) (r.1 997 ln))) ∧ sk_R n2 n3 (E_f f td v) v c r t e p l s m f td ln so K V
section
variable {n2 n3 a2 a3 : Nat} {E : en_S} {v : Nat → Nat} {c r c' r' : t_S} {t e p l s m t2 e2 p2 l2 s2 m2 : Nat} {Wc Wr : Nat → Nat → Prop}
theorem xe_R.fr {fl lo hi t0 n : Nat} {lv : Int32} (h : xe_R n2 n3 E c r t e p l s m fl lv lo hi t0 n) (fc : l2_fr Wc c c') (fr : l2_fr Wr r r') (w1 : cp_c Wc t e p l) (w2 : cp_r Wr m s) (hk : mK n2 n3 r r') (h2 : n2 ≤ a2) (h3 : n3 ≤ a3) (o : t ≤ t2 ∧ e ≤ e2 ∧ p ≤ p2 ∧ l ≤ l2 ∧ s ≤ s2 ∧ m ≤ m2) : xe_R a2 a3 E c' r' t2 e2 p2 l2 s2 m2 fl lv lo hi t0 n := by
  obtain ⟨x1, x2, x3, x4, t1, l0, l1, m0, m1, p1, s1, f, ⟨y1, y2, y3, y4, y5⟩, x5⟩ := h
  refine ⟨x1.mono hk h2 h3, x2, by omega, by omega, t1, l0, l1, m0, m1, p1, s1, f, ⟨by omega, by omega, by omega, by omega, by omega⟩, x5.own fc fr (Nat.le_refl _) (Nat.le_refl _) (Nat.le_refl _) ⟨Nat.le_refl _, Nat.le_refl _⟩ (fun b j y => ?_) (fun b j y => ?_)⟩
  · obtain ⟨a1, a2, a3, a4⟩ := w1 b j y
    exact ⟨fun z => a1 ⟨z.1, by omega⟩, fun z => a2 ⟨z.1, z.2.1, by omega⟩, fun z => a3 ⟨z.1, by omega⟩, fun z => a4 ⟨z.1, by omega, by omega⟩⟩
  · obtain ⟨a1, a2⟩ := w2 b j y
    exact ⟨fun z => a1 ⟨Or.inl ⟨z.1, by omega⟩, by omega⟩, fun z => a2 ⟨z.1, by omega⟩⟩
theorem sx_R.fr {ci ri : Int32} (h : sx_R n2 n3 E c r t e p l s m ci ri) (fc : l2_fr Wc c c') (fr : l2_fr Wr r r') (w1 : cp_c Wc t e p l) (w2 : cp_r Wr m s) (hk : mK n2 n3 r r') (h2 : n2 ≤ a2) (h3 : n3 ≤ a3) (o : t ≤ t2 ∧ e ≤ e2 ∧ p ≤ p2 ∧ l ≤ l2 ∧ s ≤ s2 ∧ m ≤ m2) : sx_R a2 a3 E c' r' t2 e2 p2 l2 s2 m2 ci ri := by
  obtain ⟨lo, hi, t0, n, x1, x2, x3, ⟨x4, x5⟩, x6⟩ := h
  refine ⟨lo, hi, t0, n, x1, x2, by omega, ⟨?_, ?_⟩, x6.fr fc fr w1 w2 hk h2 h3 o⟩
  · rw [(fc 335 hi (fun y => (w1 _ _ y).1 ⟨Or.inl rfl, by omega⟩)).1]; exact x4
  · rw [(fc 336 hi (fun y => (w1 _ _ y).1 ⟨Or.inr rfl, by omega⟩)).1]; exact x5
theorem ch_R.cp {n w : Nat} {G : Nat → Nat} (h : ch_R r n w G) (fr : l2_fr Wr r r') (w2 : cp_r Wr m s) (hn : n < m) (hG : ∀ j, j < w → G j < m) : ch_R r' n w G := by
  refine ⟨?_, fun j hj => ?_⟩
  · rw [(fr 959 n (fun y => (w2 _ _ y).1 ⟨by omega, hn⟩)).1]; exact h.1
  · rw [(fr 960 (G j) (fun y => (w2 _ _ y).1 ⟨by omega, hG j hj⟩)).1]; exact h.2 j hj
theorem cl_R.fr {w lo hi na : Nat} (h : cl_R n2 n3 E c r t e p l s m w lo hi na) (fc : l2_fr Wc c c') (fr : l2_fr Wr r r') (w1 : cp_c Wc t e p l) (w2 : cp_r Wr m s) (hk : mK n2 n3 r r') (h2 : n2 ≤ a2) (h3 : n3 ≤ a3) (o : t ≤ t2 ∧ e ≤ e2 ∧ p ≤ p2 ∧ l ≤ l2 ∧ s ≤ s2 ∧ m ≤ m2) : cl_R a2 a3 E c' r' t2 e2 p2 l2 s2 m2 w lo hi na := by
  obtain ⟨EE, G, x1, x2, x3, x4, x5, x6, x7, ⟨x8, x9⟩, x10⟩ := h
  refine ⟨EE, G, x1, by omega, ?_, x4.cp fr w2 x2 (fun j hj => (x10 j hj).1), x5, x6, by omega, ⟨?_, ?_⟩, fun j hj => ⟨?_, ?_⟩⟩
  · rw [(fr 955 w (fun y => (w2 _ _ y).1 ⟨by omega, x2⟩)).1]; exact x3
  · rw [(fc 335 hi (fun y => (w1 _ _ y).1 ⟨Or.inl rfl, by omega⟩)).1]; exact x8
  · rw [(fc 336 hi (fun y => (w1 _ _ y).1 ⟨Or.inr rfl, by omega⟩)).1]; exact x9
  · have := (x10 j hj).1; omega
  · obtain ⟨t0, y⟩ := (x10 j hj).2
    exact ⟨t0, y.fr fc fr w1 w2 hk h2 h3 o⟩
theorem ww_R.fr {w lo hi : Nat} (h : ww_R n2 n3 E c r t e p l s m w lo hi) (fc : l2_fr Wc c c') (fr : l2_fr Wr r r') (w1 : cp_c Wc t e p l) (w2 : cp_r Wr m s) (hk : mK n2 n3 r r') (h2 : n2 ≤ a2) (h3 : n3 ≤ a3) (o : t ≤ t2 ∧ e ≤ e2 ∧ p ≤ p2 ∧ l ≤ l2 ∧ s ≤ s2 ∧ m ≤ m2) : ww_R a2 a3 E c' r' t2 e2 p2 l2 s2 m2 w lo hi := by
  obtain ⟨n, EE, G, x1, x2, x3, x4, x5, x6, x7⟩ := h
  refine ⟨n, EE, G, by omega, ?_, x3.cp fr w2 x1 (fun j hj => (x7 j hj).1), x4, x5, by omega, fun j hj => ?_⟩
  · rw [(fr 955 w (fun y => (w2 _ _ y).1 ⟨by omega, x1⟩)).1]; exact x2
  · obtain ⟨y1, y2, y3, y4⟩ := x7 j hj
    refine ⟨by omega, y2, y3, ?_⟩
    rw [(fr 955 (G j) (fun y => (w2 _ _ y).1 ⟨by omega, y1⟩)).1, (fr 957 (G j) (fun y => (w2 _ _ y).1 ⟨by omega, y1⟩)).2.1, (fr 959 (G j) (fun y => (w2 _ _ y).1 ⟨by omega, y1⟩)).1]
    rcases y4 with ⟨z1, z2, X, z3, z4, z5, z6⟩ | ⟨z1, b, h, t0, z2, z3, z4, z5, z6⟩
    · refine Or.inl ⟨z1, z2, X, z3, z4, ?_, ?_⟩
      · rw [(fc 335 _ (fun y => (w1 _ _ y).1 ⟨Or.inl rfl, by omega⟩)).1]; exact z5
      · rw [(fc 336 _ (fun y => (w1 _ _ y).1 ⟨Or.inr rfl, by omega⟩)).1]; exact z6
    · refine Or.inr ⟨z1, b, h, t0, z2, z3, z4.fr fc fr w1 w2 hk h2 h3 o, ?_, ?_⟩
      · rw [(fc 335 _ (fun y => (w1 _ _ y).1 ⟨Or.inl rfl, by omega⟩)).1]; exact z5
      · rw [(fc 336 _ (fun y => (w1 _ _ y).1 ⟨Or.inr rfl, by omega⟩)).1]; exact z6
theorem wl_R.fr {f ln so side : Nat} {spot ex : Int32} (h : wl_R c r f ln l so side spot ex) (fc : l2_fr Wc c c') (w1 : cp_c Wc t e p l) (hs : side ≤ 1) (hr : ∀ x, 991 ≤ x → x ≤ 994 → r'.1 x ln = r.1 x ln) (hl : l ≤ l2) : wl_R c' r' f ln l2 so side spot ex := by
  obtain ⟨i, X, pl, x1, x2, x3, x4, x5, x6⟩ := h
  exact ⟨i, X, pl, by omega, x2, x3, x4.fr (fun b a1 a2 => (fc b i (fun y => (w1 _ _ y).2.2.2 ⟨a1, a2, x1⟩)).1), by rw [hr _ (by omega) (by omega)]; exact x5, by rw [hr _ (by omega) (by omega)]; exact x6⟩
theorem vr_L.fr {f td ln side : Nat} (h : vr_L v c r f td ln l side) (fc : l2_fr Wc c c') (w1 : cp_c Wc t e p l) (hs : side ≤ 1) (hr : ∀ x, 991 ≤ x → x ≤ 994 → r'.1 x ln = r.1 x ln) (h7 : c'.1 (445 + ln) 7 = c.1 (445 + ln) 7) (hl : l ≤ l2) : vr_L v c' r' f td ln l2 side := by
  obtain ⟨X, x1, x2, x3⟩ := h
  refine ⟨X, x1, by rw [hr _ (by omega) (by omega)]; exact x2, ?_⟩
  rw [h7]
  exact x3.elim Or.inl (fun y => Or.inr ⟨y.1, y.2.1, y.2.2.fr fc w1 hs hr hl⟩)
theorem in_R.fr {f td ln : Nat} (h : in_R v c r f td ln l) (fc : l2_fr Wc c c') (w1 : cp_c Wc t e p l) (hr : ∀ x, 991 ≤ x → x ≤ 994 → r'.1 x ln = r.1 x ln) (h7 : c'.1 (445 + ln) 7 = c.1 (445 + ln) 7) (hl : l ≤ l2) : in_R v c' r' f td ln l2 := by
  rcases h with h | h
  · exact Or.inl ⟨by rw [h7]; exact h.1, by rw [hr 993 (by decide) (by decide)]; exact h.2⟩
  · exact Or.inr (h.fr fc w1 (by decide) hr h7 hl)
theorem ev_R.fr {f td ln so V : Nat} (h : ev_R n2 n3 E v c r t e p l s m f td ln so V) (fc : l2_fr Wc c c') (fr : l2_fr Wr r r') (w1 : cp_c Wc t e p l) (w2 : cp_r Wr m s) (hk : mK n2 n3 r r') (h2 : n2 ≤ a2) (h3 : n3 ≤ a3) (o : t ≤ t2 ∧ e ≤ e2 ∧ p ≤ p2 ∧ l ≤ l2 ∧ s ≤ s2 ∧ m ≤ m2) (hc : ∀ j, j ≠ 1 ∧ j ≠ 3 ∧ j ≠ 4 → c'.1 (445 + ln) j = c.1 (445 + ln) j) (hr : ∀ x, 988 ≤ x → x ≤ 1002 → x ≠ 989 ∧ x ≠ 998 ∧ x ≠ 999 → r'.1 x ln = r.1 x ln) : ev_R a2 a3 E v c' r' t2 e2 p2 l2 s2 m2 f td ln so V := by
  have hr4 : ∀ x, 991 ≤ x → x ≤ 994 → r'.1 x ln = r.1 x ln := fun x a b => hr x (by omega) (by omega) (by omega)
  unfold ev_R at *
  rw [hc 9 (by decide), hc 8 (by decide), hc 10 (by decide), hc 5 (by decide), hr 995 (by decide) (by decide) (by decide), hr 996 (by decide) (by decide) (by decide)]
  rcases h with ⟨x1, x2, x3, ⟨lo, hi, t0, n, y1, y2, y3, y4, ⟨y5, y5'⟩, y6, y7, y8⟩, x5, x6⟩ | ⟨x1, x2, x3⟩ | ⟨x1, x2, x3⟩
  · have tt := y6.2.2.2.2
    obtain ⟨t1, l0, l1, m0, m1, p1, s1, ff, ⟨z1, _⟩, z2⟩ := tt
    have tlt := z2.tlt (by decide)
    refine Or.inl ⟨x1, x2, x3.fr fc w1 (by decide) hr4 o.2.2.2.1, ⟨lo, hi, t0, n, y1, y2, y3, by omega, ⟨?_, ?_⟩, y6.fr fc fr w1 w2 hk h2 h3 o, ?_, ?_⟩, x5.elim Or.inl (fun y => Or.inr (y.fr fc fr w1 w2 hk h2 h3 o)), x6.fr fc w1 hr4 (hc 7 (by decide)) o.2.2.2.1⟩
    · rw [(fc 335 _ (fun y => (w1 _ _ y).1 ⟨Or.inl rfl, by omega⟩)).1]; exact y5
    · rw [(fc 336 _ (fun y => (w1 _ _ y).1 ⟨Or.inr rfl, by omega⟩)).1]; exact y5'
    · rw [(fr 960 n (fun y => (w2 _ _ y).1 ⟨by omega, y6.2.2.2.1⟩)).1]; exact y7
    · rw [(fc 356 t0 (fun y => (w1 _ _ y).2.1 ⟨by decide, by decide, by omega⟩)).1]; exact y8
  · exact Or.inr (Or.inl ⟨x1, x2, x3.fr fc w1 (by decide) hr4 o.2.2.2.1⟩)
  · exact Or.inr (Or.inr ⟨x1, x2, x3.fr fc fr w1 w2 hk h2 h3 o⟩)
theorem sk_R.fr {f td ln so K V : Nat} (h : sk_R n2 n3 E v c r t e p l s m f td ln so K V) (fc : l2_fr Wc c c') (fr : l2_fr Wr r r') (w1 : cp_c Wc t e p l) (w2 : cp_r Wr m s) (hk : mK n2 n3 r r') (h2 : n2 ≤ a2) (h3 : n3 ≤ a3) (o : t ≤ t2 ∧ e ≤ e2 ∧ p ≤ p2 ∧ l ≤ l2 ∧ s ≤ s2 ∧ m ≤ m2) (hc : ∀ j, j ≠ 1 ∧ j ≠ 3 ∧ j ≠ 4 → c'.1 (445 + ln) j = c.1 (445 + ln) j) (hr : ∀ x, 988 ≤ x → x ≤ 1002 → x ≠ 989 ∧ x ≠ 998 ∧ x ≠ 999 → r'.1 x ln = r.1 x ln) (hV : ∀ cnt, f < n3 → f < 40 → td < cnt → cnt ≤ 8 → r.1 986 f = nI cnt → c'.1 443 (8 * f + td) = c.1 443 (8 * f + td)) : sk_R a2 a3 E v c' r' t2 e2 p2 l2 s2 m2 f td ln so K V := by
  have hr4 : ∀ x, 991 ≤ x → x ≤ 994 → r'.1 x ln = r.1 x ln := fun x a b => hr x (by omega) (by omega) (by omega)
  have sx : ∀ {ci ri : Int32}, sx_R n2 n3 E c r t e p l s m ci ri → sx_R a2 a3 E c' r' t2 e2 p2 l2 s2 m2 ci ri := fun y => y.fr fc fr w1 w2 hk h2 h3 o
  have xe : ∀ {fl lo hi t0 n : Nat} {lv : Int32}, xe_R n2 n3 E c r t e p l s m fl lv lo hi t0 n → xe_R a2 a3 E c' r' t2 e2 p2 l2 s2 m2 fl lv lo hi t0 n := fun y => y.fr fc fr w1 w2 hk h2 h3 o
  have cl : ∀ {w lo hi na : Nat}, cl_R n2 n3 E c r t e p l s m w lo hi na → cl_R a2 a3 E c' r' t2 e2 p2 l2 s2 m2 w lo hi na := fun y => y.fr fc fr w1 w2 hk h2 h3 o
  have wl0 : ∀ {so : Nat} {spot ex : Int32}, wl_R c r f ln l so 0 spot ex → wl_R c' r' f ln l2 so 0 spot ex := fun y => y.fr fc w1 (by decide) hr4 o.2.2.2.1
  have wl1 : ∀ {so : Nat} {spot ex : Int32}, wl_R c r f ln l so 1 spot ex → wl_R c' r' f ln l2 so 1 spot ex := fun y => y.fr fc w1 (by decide) hr4 o.2.2.2.1
  have vl : ∀ {side : Nat}, side ≤ 1 → vr_L v c r f td ln l side → vr_L v c' r' f td ln l2 side := fun hs y => y.fr fc w1 hs hr4 (hc 7 (by decide)) o.2.2.2.1
  have inn : in_R v c r f td ln l → in_R v c' r' f td ln l2 := fun y => y.fr fc w1 hr4 (hc 7 (by decide)) o.2.2.2.1
  have po : ∀ {hi o' : Nat} {a : Int32}, hi + 1 ≤ e → px_o c hi o' a → px_o c' hi o' a := fun y z => ⟨by rw [(fc 335 _ (fun y => (w1 _ _ y).1 ⟨Or.inl rfl, by omega⟩)).1]; exact z.1, by rw [(fc 336 _ (fun y => (w1 _ _ y).1 ⟨Or.inr rfl, by omega⟩)).1]; exact z.2⟩
  unfold sk_R at *
  rw [hc 5 (by decide), hc 6 (by decide), hc 7 (by decide), hc 8 (by decide), hc 9 (by decide), hr 991 (by decide) (by decide) (by decide), hr 993 (by decide) (by decide) (by decide), hr 995 (by decide) (by decide) (by decide), hr 996 (by decide) (by decide) (by decide)]
  rcases h with ⟨x1, x2, x3, x4, x5, x6, x7, x8, x9⟩ | ⟨x1, x2, x3, x4, w, lo, mid, hi, t0, n, y1, y2, y3, y4, y5, y6, y7, y8⟩ | ⟨x1, x2, x3⟩ | ⟨x1, x2, x3⟩ | ⟨x1, x2, x3, ⟨w, lo, hi, na, y1, y2, y3, y4⟩, x4⟩ | h | ⟨x1, x2, x3⟩ | h | ⟨x1, x2⟩ | ⟨x1, x2, x3, x4⟩ | ⟨x1, x2, x3, x4, x5⟩ | ⟨x1, x2, x3, w, lo, mid, hi, t0, n, na, y1, y2, y3, y4, y5, y6⟩ | ⟨x1, x2, x3, lo, mid, hi, t0, t1, n, n', X, Y, y1, y2, y3, y4, y5, y6, y7, y8, y9, y10⟩ | ⟨x1, w, lo, hi, na, y1, y2, y3, y4⟩ | h | h | ⟨x1, x2⟩
  · obtain ⟨f3, f4, cnt, q1, q2, q3⟩ := x4
    obtain ⟨_, k2⟩ := hk.2 f f3 f4
    obtain ⟨⟨cnt', q4, q5, q6⟩, q7⟩ := k2 cnt q2 q3
    rw [hV cnt f3 f4 q1 q2 q3, q7 td q1]
    exact Or.inl ⟨x1, x2, x3, ⟨by omega, f4, cnt', by omega, q5, q6⟩, x5, x6, x7, x8.elim Or.inl (fun y => Or.inr (wl0 y)), sx x9⟩
  · exact Or.inr (Or.inl ⟨x1, x2, x3, vl (by decide) x4, w, lo, mid, hi, t0, n, y1, y2, y3, y4, y5.fr fc fr w1 w2 hk h2 h3 o, xe y6, by omega, po y7 y8⟩)
  · exact Or.inr (Or.inr (Or.inl ⟨x1, x2, sx x3⟩))
  · exact Or.inr (Or.inr (Or.inr (Or.inl ⟨x1, x2, x3.elim Or.inl (fun y => Or.inr (sx y))⟩)))
  · exact Or.inr (Or.inr (Or.inr (Or.inr (Or.inl ⟨x1, x2, x3, ⟨w, lo, hi, na, y1, y2, cl y3, wl0 y4⟩, inn x4⟩))))
  · exact Or.inr (Or.inr (Or.inr (Or.inr (Or.inr (Or.inl h)))))
  · exact Or.inr (Or.inr (Or.inr (Or.inr (Or.inr (Or.inr (Or.inl ⟨x1.elim (fun y => Or.inl ⟨y.1, y.2.1, wl0 y.2.2⟩) (fun y => Or.inr ⟨y.1, y.2.1, wl0 y.2.2⟩), x2, sx x3⟩))))))
  · exact Or.inr (Or.inr (Or.inr (Or.inr (Or.inr (Or.inr (Or.inr (Or.inl h)))))))
  · exact Or.inr (Or.inr (Or.inr (Or.inr (Or.inr (Or.inr (Or.inr (Or.inr (Or.inl ⟨x1, x2.fr fc fr w1 w2 hk h2 h3 o hc hr⟩))))))))
  · exact Or.inr (Or.inr (Or.inr (Or.inr (Or.inr (Or.inr (Or.inr (Or.inr (Or.inr (Or.inl ⟨x1, x2, x3, wl0 x4⟩)))))))))
  · exact Or.inr (Or.inr (Or.inr (Or.inr (Or.inr (Or.inr (Or.inr (Or.inr (Or.inr (Or.inr (Or.inl ⟨x1, x2, x3, wl0 x4, vl (by decide) x5⟩))))))))))
  · exact Or.inr (Or.inr (Or.inr (Or.inr (Or.inr (Or.inr (Or.inr (Or.inr (Or.inr (Or.inr (Or.inr (Or.inl ⟨x1, x2, x3, w, lo, mid, hi, t0, n, na, y1, y2, y3, xe y4, cl y5, wl0 y6⟩)))))))))))
  · obtain ⟨z1, z2⟩ := y10
    exact Or.inr (Or.inr (Or.inr (Or.inr (Or.inr (Or.inr (Or.inr (Or.inr (Or.inr (Or.inr (Or.inr (Or.inr (Or.inl ⟨x1, x2, x3, lo, mid, hi, t0, t1, n, n', X, Y, y1, y2, y3, xe y4, xe y5, by omega, po y6 y7, wl0 y8, wl1 y9, z1, z2⟩))))))))))))
  · exact Or.inr (Or.inr (Or.inr (Or.inr (Or.inr (Or.inr (Or.inr (Or.inr (Or.inr (Or.inr (Or.inr (Or.inr (Or.inr (Or.inl ⟨x1, w, lo, hi, na, y1, y2, cl y3, wl0 y4⟩)))))))))))))
  · exact Or.inr (Or.inr (Or.inr (Or.inr (Or.inr (Or.inr (Or.inr (Or.inr (Or.inr (Or.inr (Or.inr (Or.inr (Or.inr (Or.inr (Or.inl h))))))))))))))
  · exact Or.inr (Or.inr (Or.inr (Or.inr (Or.inr (Or.inr (Or.inr (Or.inr (Or.inr (Or.inr (Or.inr (Or.inr (Or.inr (Or.inr (Or.inr (Or.inl h)))))))))))))))
  · exact Or.inr (Or.inr (Or.inr (Or.inr (Or.inr (Or.inr (Or.inr (Or.inr (Or.inr (Or.inr (Or.inr (Or.inr (Or.inr (Or.inr (Or.inr (Or.inr ⟨x1, x2.fr fc fr w1 w2 hk h2 h3 o hc hr⟩)))))))))))))))
theorem st_R.fr {hi hi2 ln : Nat} (h : st_R n2 n3 c r t e p l s m hi ln) (fc : l2_fr Wc c c') (fr : l2_fr Wr r r') (w1 : cp_c Wc t e p l) (w2 : cp_r Wr m s) (hk : mK n2 n3 r r') (h2 : n2 ≤ a2) (h3 : n3 ≤ a3) (o : t ≤ t2 ∧ e ≤ e2 ∧ p ≤ p2 ∧ l ≤ l2 ∧ s ≤ s2 ∧ m ≤ m2) (hh : hi ≤ hi2) (hc : ∀ j, c'.1 (445 + ln) j = c.1 (445 + ln) j) (hr : ∀ x, 988 ≤ x → x ≤ 1002 → r'.1 x ln = r.1 x ln) (hV : ∀ f td cnt, f < n3 → f < 40 → td < cnt → cnt ≤ 8 → r.1 986 f = nI cnt → c'.1 443 (8 * f + td) = c.1 443 (8 * f + td)) : st_R a2 a3 c' r' t2 e2 p2 l2 s2 m2 hi2 ln := by
  obtain ⟨f, td, v, so, K, V, ⟨x1, x1a, x1b, x1c, x1d⟩, x2, x3, x4, x5, x6, x7, x8, ⟨x9, x9'⟩, x10, x11, x12, x13⟩ := h
  have hb : ∀ {v w : Int32}, sb_R ln hi v w → sb_R ln hi2 v w := fun y => ⟨y.1, y.2.elim Or.inl (fun ⟨j, j1, j2, j3⟩ => Or.inr ⟨j, j1, by omega, j3⟩)⟩
  have hrr : ∀ x, 988 ≤ x → x ≤ 1002 → r'.1 x ln = r.1 x ln := hr
  refine ⟨f, td, v, so, K, V, ⟨x1, x1a, x1b, x1c, x1d⟩, by rw [hr 1001 (by decide) (by decide)]; exact x2, by rw [hr 1002 (by decide) (by decide)]; exact x3, x4.mono hk h2 h3, by rw [hc]; exact x5, by rw [hr 988 (by decide) (by decide)]; exact x6, by rw [hr 1000 (by decide) (by decide)]; exact x7, by rw [hc, hr 989 (by decide) (by decide)]; exact hb x8, ⟨by rw [hc, hr 990 (by decide) (by decide)]; exact x9, by rw [hc]; exact x9'⟩, by rw [hc, hr 998 (by decide) (by decide)]; exact hb x10, by rw [hc, hr 999 (by decide) (by decide)]; exact hb x11, fun y => ?_, x13.fr fc fr w1 w2 hk h2 h3 o (fun j _ => hc j) (fun x a b _ => hr x a b) (fun cnt y1 y2 y3 y4 y5 => hV f td cnt y1 y2 y3 y4 y5)⟩
  · rw [hc, hr 997 (by decide) (by decide)]
    exact (x12 y).elim Or.inl (fun y => Or.inr (y.fr fc fr w1 w2 hk h2 h3 o))
end
