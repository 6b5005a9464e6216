/-! Level 2: a module: what stands between two items. -/
/-- all that an item writes, from what is counted on -/
def mj_Wc (nt : Nat → Nat) (a g : Nat) (k : Nat → Nat) (b j : Nat) : Prop := xWc (k 3) (k 4) (k 5) (k 6) 0 0 b j ∨ b = 6 ∨ b = 7 ∨ (b = 316 ∧ (j = 8 ∨ j = 10 ∨ j = 13)) ∨ (317 ≤ b ∧ b ≤ 323 ∧ a ≤ j) ∨ (b = 325 ∧ g ≤ j) ∨ ((b = 326 ∨ b = 327) ∧ nt 0 ≤ j) ∨ (b = 353 ∧ j = 11) ∨ (364 + nt 1 ≤ b ∧ b ≤ 423) ∨ (b = 428 ∧ (j = 0 ∨ j = 9 ∨ j = 18)) ∨ ((b = 429 ∨ b = 431 ∨ b = 433) ∧ nt 2 ≤ j) ∨ (b = 430 ∧ 6 * nt 2 ≤ j) ∨ (b = 432 ∧ 4 * nt 2 ≤ j) ∨ (434 ≤ b ∧ b ≤ 436 ∧ 8 * nt 2 ≤ j) ∨ (437 ≤ b ∧ b ≤ 441 ∧ nt 3 ≤ j) ∨ ((b = 442 ∨ b = 443) ∧ 8 * nt 3 ≤ j) ∨ (445 + k 9 ≤ b ∧ b < 845) ∨ (b = 845 ∧ 12 ≤ j ∧ j ≤ 15)
def mj_Wr (nt : Nat → Nat) (k : Nat → Nat) (b j : Nat) : Prop := xWr (k 2) (k 7) b j ∨ (b = 950 ∧ ((31 ≤ j ∧ j ≤ 34) ∨ j = 40 ∨ j = 44 ∨ j = 55 ∨ j = 64 ∨ j = 81 ∨ j = 86 ∨ j = 87)) ∨ (964 ≤ b ∧ b ≤ 966 ∧ nt 0 ≤ j) ∨ (967 ≤ b ∧ b ≤ 969 ∧ nt 1 ≤ j) ∨ ((b = 970 ∨ b = 972 ∨ b = 974 ∨ b = 979) ∧ nt 2 ≤ j) ∨ (b = 971 ∧ 6 * nt 2 ≤ j) ∨ (b = 973 ∧ 4 * nt 2 ≤ j) ∨ (975 ≤ b ∧ b ≤ 978 ∧ 8 * nt 2 ≤ j) ∨ (980 ≤ b ∧ b ≤ 987 ∧ b ≠ 984 ∧ nt 3 ≤ j) ∨ (b = 984 ∧ 8 * nt 3 ≤ j) ∨ (988 ≤ b ∧ b ≤ 1002 ∧ k 9 ≤ j)
/-- a type -/
def tyI (c r : t_S) (a g l m i : Nat) : Prop := ∃ a0 a1 m0 m1 g1 : Nat, (a1 ≤ a ∧ m1 ≤ m ∧ g1 ≤ g) ∧ c.1 326 i = nI a0 ∧ r.1 965 i = nI m0 ∧ c.1 327 i = r.1 966 i ∧ TY (ty_NM c r l) c r 18 a0 a1 m0 m1 g1 a0 m0 ∧ r.1 960 m0 = -1
/-- a template -/
def tpI (c r : t_S) (t e p l s m i : Nat) : Prop := ∃ t0 t1 e0 e1 l0 l1 m0 m1 p1 s1 n pl : Nat, (t1 ≤ t ∧ e1 + 1 ≤ e ∧ l1 ≤ l ∧ m1 ≤ m ∧ p1 ≤ p ∧ s1 ≤ s) ∧ (c.1 (364 + i) 0 = nI t0 ∧ c.1 (364 + i) 2 = nI e0 ∧ c.1 (364 + i) 3 = nI t0 ∧ c.1 (364 + i) 4 = nI t1) ∧ (pl ≤ 12000 ∧ c.1 (364 + i) 1 = nI pl ∧ r.1 969 i = nI pl) ∧ r.1 968 i = nI n ∧ px_o c e1 0 0 ∧ (t0 < t1 ∧ m0 ≤ n ∧ n < m1) ∧ XR (wn_R E_t c r l0 l1) (an_R E_t c r l0 l1) (tn_R E_t c r l0 l1) (sn_R c) c r p1 s1 (m1 - m0) 1 1 15 e0 e1 t0 t1 m0 m1 n ∧ r.1 960 n = -1 ∧ c.1 356 t0 = -1
/-- .. where it lies told -/
def tpE (c r : t_S) (t e p l s m i t0 t1 e0 e1 m0 m1 n : Nat) : Prop := ∃ l0 l1 p1 s1 pl : Nat, (t1 ≤ t ∧ e1 + 1 ≤ e ∧ l1 ≤ l ∧ m1 ≤ m ∧ p1 ≤ p ∧ s1 ≤ s) ∧ (c.1 (364 + i) 0 = nI t0 ∧ c.1 (364 + i) 2 = nI e0 ∧ c.1 (364 + i) 3 = nI t0 ∧ c.1 (364 + i) 4 = nI t1) ∧ (pl ≤ 12000 ∧ c.1 (364 + i) 1 = nI pl ∧ r.1 969 i = nI pl) ∧ r.1 968 i = nI n ∧ px_o c e1 0 0 ∧ (t0 < t1 ∧ m0 ≤ n ∧ n < m1) ∧ XR (wn_R E_t c r l0 l1) (an_R E_t c r l0 l1) (tn_R E_t c r l0 l1) (sn_R c) c r p1 s1 (m1 - m0) 1 1 15 e0 e1 t0 t1 m0 m1 n ∧ r.1 960 n = -1 ∧ c.1 356 t0 = -1 ∧ ∀ j, m0 ≤ j → j < m1 → (∃ K : Nat, r.1 955 j = nI K ∧ (55 ≤ K ∧ K ≤ 57 ∨ 61 ≤ K ∧ K ≤ 63)) → r.2.1 958 j = 0 ∧ ∃ p : Nat, p ≤ 12000 ∧ r.1 956 j = nI p
/-- all templates, in order -/
def tpO (c r : t_S) (n1 t e p l s m : Nat) : Prop := ∃ T0 T1 A0 A1 M0 M1 N : Nat → Nat, (∀ i, i < n1 → tpE c r t e p l s m i (T0 i) (T1 i) (A0 i) (A1 i) (M0 i) (M1 i) (N i)) ∧ ∀ i j, i < j → j < n1 → T1 i ≤ T0 j ∧ A1 i + 1 ≤ A0 j ∧ M1 i ≤ M0 j
/-- a component -/
def kdI (c r : t_S) (t e p l s m k : Nat) : Prop := ∃ (v0 v1 v2 : Nat) (A B D : Nat → Nat), cw_R c r k v0 v1 v2 A B D ∧ ∀ j, j < v2 → kv_R c r k j t e p l s m
/-- a function -/
def unI (c r : t_S) (l st f : Nat) : Prop := ∃ (so pn n Y pl e lo hi : Nat) (L : Nat → Nat) (fst : Int32), so ≤ 2 ∧ (c.1 437 f = nI so ∧ c.1 438 f = -1 ∧ r.1 981 f = nI (3 + so)) ∧ (c.1 439 f = nI pn ∧ r.1 985 f = nI pn ∧ pn ≤ n ∧ fw_R c r f n L ∧ ∀ i, i < pn → c.1 443 (8 * f + i) = -1) ∧ (Y < 7934 ∧ pl ≤ 12000 ∧ e < l ∧ hi_e c e 3 Y pl (nI f) (nI f) 0 ∧ r.1 982 f = nI Y ∧ r.1 983 f = nI pl) ∧ (c.1 441 f = fst ∧ r.1 987 f = fst ∧ ((fst = -1 ∧ hi = lo) ∨ (fst = nI lo ∧ lo < hi))) ∧ hi ≤ st ∧ ∀ ln, lo ≤ ln → ln < hi → r.1 1001 ln = nI f
/-- links of calls, of places' types: of a function's home; of CALL, STEP, USUAL behind its ON; in order -/
def mCP (n : Nat) (c r : t_S) (l : Nat) : Prop := ∀ e : Nat, e < l → (tc_K (c.1 849 e) ∨ c.1 849 e = 1) → ∃ f, f < n ∧ c.1 851 e = nI f ∧ ((c.1 849 e = 9 ∨ c.1 849 e = 10) → (r.1 983 f).toInt < (c.1 848 e).toInt) ∧ (c.1 849 e = 1 → 8 * (f : Int) ≤ (c.1 852 e).toInt ∧ (c.1 852 e).toInt < 8 * (f : Int) + 8) ∧ ∀ e' : Nat, e' < e → c.1 851 e' = nI f → (tc_K (c.1 849 e) → tc_K (c.1 849 e') → (c.1 848 e').toInt < (c.1 848 e).toInt) ∧ (c.1 849 e = 1 → c.1 849 e' = 1 → (c.1 852 e').toInt < (c.1 852 e).toInt)
/-- new ones -/
def mCN (n n' : Nat) (c r : t_S) (l l' : Nat) : Prop := ∀ e : Nat, l ≤ e → e < l' → (tc_K (c.1 849 e) ∨ c.1 849 e = 1) → ∃ f, (n ≤ f ∧ f < n' ∧ f < 40) ∧ c.1 851 e = nI f ∧ ((c.1 849 e = 9 ∨ c.1 849 e = 10) → (r.1 983 f).toInt < (c.1 848 e).toInt) ∧ tcO l f c e
/-- no link of a type, a template, a component is a call's -/
theorem mL.nocall {n2 n3 m m' st e : Nat} {c r : t_S} (h : mL n2 n3 c r m m' st st e) : ¬ (tc_K (c.1 849 e) ∨ c.1 849 e = 1) := by
  intro h3
  have no : ∀ x : Nat, x = 0 ∨ x = 2 ∨ x = 3 ∨ x = 7 ∨ x = 12 ∨ x = 13 → c.1 849 e ≠ nI x := fun x x1 y => by
    rw [y] at h3
    rcases h3 with (z | z | z) | z
    · have := (nI_eq (b := 9) (by omega) (by decide)).mp z
      omega
    · have := (nI_eq (b := 10) (by omega) (by decide)).mp z
      omega
    · have := (nI_eq (b := 11) (by omega) (by decide)).mp z
      omega
    · have := (nI_eq (b := 1) (by omega) (by decide)).mp z
      omega
  rcases h with ⟨q, _, _, _, x, _, y, _⟩ | ⟨E, q, _, _, _, y, _⟩ | ⟨q, i, cnt, X, pl, _, _, _, _, _, _, _, y, _⟩ | ⟨f, X, pl, _, _, _, _, y, _⟩ | ⟨s, s1, s2, _⟩
  · exact no 0 (by decide) y
  · rcases y with ⟨_, X, _, y, _⟩ | ⟨_, ⟨X, _, y, _⟩, _⟩ | ⟨_, ⟨X, _, y, _⟩, _⟩
    · exact no 13 (by decide) y
    · exact no 12 (by decide) y
    · exact no 7 (by decide) y
  · exact no 2 (by decide) y.1
  · exact no 3 (by decide) y.1
  · omega
def mR (P : pc_S) (nt : Nat → Nat) (a g : Nat) (k : Nat → Nat) (c0 c r : t_S) : Prop := mo P nt (k 0) (k 1) (k 2) a g (k 3) (k 4) (k 5) (k 6) (k 7) (k 8) (k 9) c r ∧ (∀ i, i < nt 0 → tyI c r a g (k 6) (k 2) i) ∧ (∀ i, i < nt 1 → tpI c r (k 3) (k 4) (k 5) (k 6) (k 7) (k 2) i) ∧ (∀ i, i < nt 2 → kdI c r (k 3) (k 4) (k 5) (k 6) (k 7) (k 2) i) ∧ (∀ i, i < nt 3 → unI c r (k 6) (k 9) i) ∧ (∀ ln, ln < k 9 → st_R (nt 2) (nt 3) c r (k 3) (k 4) (k 5) (k 6) (k 7) (k 2) (k 9) ln) ∧ mB True (nt 2) (nt 3) c0 c r 0 (k 6) 0 (k 8) 0 (k 2) 0 (k 9) ∧ mCP (nt 3) c r (k 6) ∧ ty_s r 0 (k 2) ∧ tpO c r (nt 1) (k 3) (k 4) (k 5) (k 6) (k 7) (k 2)
section
variable {P : pc_S} {nt nt' : Nat → Nat} {a g a' g' i : Nat} {k k' : Nat → Nat} {c0 c r c' r' : t_S}
theorem mj_mK (fr : l2_fr (mj_Wr nt k) r r') {a2 a3 : Nat} (h2 : a2 ≤ nt 2) (h3 : a3 ≤ nt 3) : mK a2 a3 r r' := by
  have g : ∀ b j, (975 ≤ b ∧ b ≤ 977 ∧ j < 8 * nt 2) ∨ (b = 979 ∧ j < nt 2) ∨ (982 ≤ b ∧ b ≤ 986 ∧ b ≠ 984 ∧ j < nt 3) ∨ (b = 984 ∧ j < 8 * nt 3) → r'.1 b j = r.1 b j := fun b j y => (fr b j (by unfold mj_Wr xWr; omega)).1
  exact ⟨fun k hk _ cnt hc e => ⟨⟨cnt, Nat.le_refl _, hc, by rw [g 979 k (by omega)]; exact e⟩, fun i _ => ⟨g _ _ (by omega), g _ _ (by omega), g _ _ (by omega)⟩⟩, fun f' hf' _ => ⟨⟨g _ _ (by omega), g _ _ (by omega)⟩, fun cnt hc e => ⟨⟨cnt, Nat.le_refl _, hc, by rw [g 986 f' (by omega)]; exact e⟩, fun i _ => g _ _ (by omega)⟩⟩⟩
theorem mj_cp : cp_c (mj_Wc nt a g k) (k 3) (k 4) (k 5) (k 6) := fun b j y => by
  unfold mj_Wc xWc at y
  omega
theorem mj_cr : cp_r (mj_Wr nt k) (k 2) (k 7) := fun b j y => by
  unfold mj_Wr xWr at y
  omega
theorem tyI.old (h : tyI c r a g (k 6) (k 2) i) (fc : l2_fr (mj_Wc nt a g k) c c') (fr : l2_fr (mj_Wr nt k) r r') (hi : i < nt 0) (ha : a ≤ a') (hg : g ≤ g') (o : gr k k') : tyI c' r' a' g' (k' 6) (k' 2) i := by
  obtain ⟨a0, a1, m0, m1, g1, ⟨x1, x2, x3⟩, x4, x5, x6, x7, x8⟩ := h
  have z := x7.at
  obtain ⟨o0, o1, o2, o3, o4, o5, o6, o7, o8, o9⟩ := o
  refine ⟨a0, a1, m0, m1, g1, ⟨by omega, by omega, by omega⟩, ?_, ?_, ?_, ?_, ?_⟩
  · rw [(fc 326 i (by unfold mj_Wc xWc; omega)).1]; exact x4
  · rw [(fr 965 i (by unfold mj_Wr xWr; omega)).1]; exact x5
  · rw [(fc 327 i (by unfold mj_Wc xWc; omega)).1, (fr 966 i (by unfold mj_Wr xWr; omega)).1]; exact x6
  · refine TY.fr 18 a0 a1 m0 m1 g1 a0 m0 x7 (ag_C.of fc (fun b j h1 h2 h3 h4 => by unfold mj_Wc xWc; omega) (fun j h1 => by unfold mj_Wc xWc; omega)) (ag_R.of fr (fun b j h1 h2 h3 h4 => by unfold mj_Wr xWr; omega)) (fun n q h1 h2 h3 h4 hN => ?_) 18 a1 m1 g1 (Nat.le_refl _) (Nat.le_refl _) (Nat.le_refl _) (Nat.le_refl _)
    obtain ⟨e, e1, e2, e3⟩ := hN
    refine ⟨e, by omega, e2.fr (fun b b1 b2 => (fc b e (by unfold mj_Wc xWc; omega)).1) (fr 956 q (by unfold mj_Wr xWr; omega)).1 (fr 957 q (by unfold mj_Wr xWr; omega)).2.1, ?_⟩
    rw [(fc 852 e (by unfold mj_Wc xWc; omega)).1]; exact e3
  · rw [(fr 960 m0 (by unfold mj_Wr xWr; omega)).1]; exact x8
theorem tpI.old (h : tpI c r (k 3) (k 4) (k 5) (k 6) (k 7) (k 2) i) (fc : l2_fr (mj_Wc nt a g k) c c') (fr : l2_fr (mj_Wr nt k) r r') (hi : i < nt 1) (hn : nt 1 ≤ 60) (o : gr k k') : tpI c' r' (k' 3) (k' 4) (k' 5) (k' 6) (k' 7) (k' 2) i := by
  obtain ⟨t0, t1, e0, e1, l0, l1, m0, m1, p1, s1, n, pl, ⟨x1, x2, x3, x4, x5, x6⟩, ⟨y1, y2, y3, y4⟩, ⟨z1, z2, z3⟩, z4, ⟨z5, z6⟩, ⟨z7, z8, z9⟩, w1, w2, w3⟩ := h
  obtain ⟨o0, o1, o2, o3, o4, o5, o6, o7, o8, o9⟩ := o
  have cc : ∀ j, c'.1 (364 + i) j = c.1 (364 + i) j := fun j => (fc _ j (by unfold mj_Wc xWc; omega)).1
  refine ⟨t0, t1, e0, e1, l0, l1, m0, m1, p1, s1, n, pl, ⟨by omega, by omega, by omega, by omega, by omega, by omega⟩, ⟨by rw [cc]; exact y1, by rw [cc]; exact y2, by rw [cc]; exact y3, by rw [cc]; exact y4⟩, ⟨z1, by rw [cc]; exact z2, ?_⟩, ?_, ⟨?_, ?_⟩, ⟨z7, z8, z9⟩, ?_, ?_, ?_⟩
  · rw [(fr 969 i (by unfold mj_Wr xWr; omega)).1]; exact z3
  · rw [(fr 968 i (by unfold mj_Wr xWr; omega)).1]; exact z4
  · rw [(fc 335 e1 (by unfold mj_Wc xWc; omega)).1]; exact z5
  · rw [(fc 336 e1 (by unfold mj_Wc xWc; omega)).1]; exact z6
  · refine w1.own fc fr (Nat.le_refl _) (Nat.le_refl _) (Nat.le_refl _) ⟨Nat.le_refl _, Nat.le_refl _⟩ (fun b j y => ?_) (fun b j y => ?_)
    · have := mj_cp b j y
      omega
    · have := mj_cr b j y
      omega
  · rw [(fr 960 n (by unfold mj_Wr xWr; omega)).1]; exact w2
  · rw [(fc 356 t0 (by unfold mj_Wc xWc; omega)).1]; exact w3
theorem tpE.old {t0 t1 e0 e1 m0 m1 n : Nat} (h : tpE c r (k 3) (k 4) (k 5) (k 6) (k 7) (k 2) i t0 t1 e0 e1 m0 m1 n) (fc : l2_fr (mj_Wc nt a g k) c c') (fr : l2_fr (mj_Wr nt k) r r') (hi : i < nt 1) (hn : nt 1 ≤ 60) (o : gr k k') : tpE c' r' (k' 3) (k' 4) (k' 5) (k' 6) (k' 7) (k' 2) i t0 t1 e0 e1 m0 m1 n := by
  obtain ⟨l0, l1, p1, s1, pl, ⟨x1, x2, x3, x4, x5, x6⟩, ⟨y1, y2, y3, y4⟩, ⟨z1, z2, z3⟩, z4, ⟨z5, z6⟩, ⟨z7, z8, z9⟩, w1, w2, w3, w4⟩ := h
  obtain ⟨o0, o1, o2, o3, o4, o5, o6, o7, o8, o9⟩ := o
  have cc : ∀ j, c'.1 (364 + i) j = c.1 (364 + i) j := fun j => (fc _ j (by unfold mj_Wc xWc; omega)).1
  refine ⟨l0, l1, p1, s1, pl, ⟨by omega, by omega, by omega, by omega, by omega, by omega⟩, ⟨by rw [cc]; exact y1, by rw [cc]; exact y2, by rw [cc]; exact y3, by rw [cc]; exact y4⟩, ⟨z1, by rw [cc]; exact z2, ?_⟩, ?_, ⟨?_, ?_⟩, ⟨z7, z8, z9⟩, ?_, ?_, ?_, fun j j1 j2 ⟨K, k1, k2⟩ => ?_⟩
  · rw [(fr 969 i (by unfold mj_Wr xWr; omega)).1]; exact z3
  · rw [(fr 968 i (by unfold mj_Wr xWr; omega)).1]; exact z4
  · rw [(fc 335 e1 (by unfold mj_Wc xWc; omega)).1]; exact z5
  · rw [(fc 336 e1 (by unfold mj_Wc xWc; omega)).1]; exact z6
  · refine w1.own fc fr (Nat.le_refl _) (Nat.le_refl _) (Nat.le_refl _) ⟨Nat.le_refl _, Nat.le_refl _⟩ (fun b j y => ?_) (fun b j y => ?_)
    · have := mj_cp b j y
      omega
    · have := mj_cr b j y
      omega
  · rw [(fr 960 n (by unfold mj_Wr xWr; omega)).1]; exact w2
  · rw [(fc 356 t0 (by unfold mj_Wc xWc; omega)).1]; exact w3
  · obtain ⟨q1, p, q2, q3⟩ := w4 j j1 j2 ⟨K, ((fr 955 j (by unfold mj_Wr xWr; omega)).1).symm.trans k1, k2⟩
    exact ⟨((fr 958 j (by unfold mj_Wr xWr; omega)).2.1).trans q1, p, q2, ((fr 956 j (by unfold mj_Wr xWr; omega)).1).trans q3⟩
theorem kdI.old (h : kdI c r (k 3) (k 4) (k 5) (k 6) (k 7) (k 2) i) (fc : l2_fr (mj_Wc nt a g k) c c') (fr : l2_fr (mj_Wr nt k) r r') (hi : i < nt 2) (o : gr k k') : kdI c' r' (k' 3) (k' 4) (k' 5) (k' 6) (k' 7) (k' 2) i := by
  obtain ⟨v0, v1, v2, A, B, D, ⟨⟨b0, b1, b2⟩, ⟨x1, x2⟩, ⟨x3, x4⟩, ⟨x5, x6⟩, x7, x8, x9⟩, y⟩ := h
  obtain ⟨o0, o1, o2, o3, o4, o5, o6, o7, o8, o9⟩ := o
  have cc : ∀ b j, ((b = 429 ∨ b = 431 ∨ b = 433) ∧ j = i) ∨ (b = 430 ∧ j < 6 * i + 6) ∨ (b = 432 ∧ j < 4 * i + 4) ∨ (434 ≤ b ∧ b ≤ 436 ∧ j < 8 * i + 8) → ¬ mj_Wc nt a g k b j := fun b j y => by unfold mj_Wc xWc; omega
  have rr : ∀ b j, ((b = 972 ∨ b = 974 ∨ b = 979) ∧ j = i) ∨ (b = 971 ∧ j < 6 * i + 6) ∨ (b = 973 ∧ j < 4 * i + 4) ∨ (975 ≤ b ∧ b ≤ 978 ∧ j < 8 * i + 8) → ¬ mj_Wr nt k b j := fun b j y => by unfold mj_Wr xWr; omega
  refine ⟨v0, v1, v2, A, B, D, ⟨⟨b0, b1, b2⟩, ⟨?_, ?_⟩, ⟨?_, ?_⟩, ⟨?_, ?_⟩, x7.fr fc fr (fun j hj => cc _ _ (by omega)) (fun j hj => rr _ _ (by omega)), x8.fr fc fr (fun j hj => cc _ _ (by omega)) (fun j hj => rr _ _ (by omega)), x9.fr fc fr (fun j hj => cc _ _ (by omega)) (fun j hj => rr _ _ (by omega))⟩, fun j hj => (y j hj).fr fc fr mj_cp mj_cr ⟨cc _ _ (by omega), cc _ _ (by omega)⟩ (fun b h1 h2 => rr _ _ (by omega)) (mj_mK fr (by omega) (Nat.zero_le _)) o3 o4 o5 o6 o7 o2⟩
  · rw [(fc 429 i (cc _ _ (by omega))).1]; exact x1
  · rw [(fr 972 i (rr _ _ (by omega))).1]; exact x2
  · rw [(fc 431 i (cc _ _ (by omega))).1]; exact x3
  · rw [(fr 974 i (rr _ _ (by omega))).1]; exact x4
  · rw [(fc 433 i (cc _ _ (by omega))).1]; exact x5
  · rw [(fr 979 i (rr _ _ (by omega))).1]; exact x6
theorem unI.old (h : unI c r (k 6) (k 9) i) (fc : l2_fr (mj_Wc nt a g k) c c') (fr : l2_fr (mj_Wr nt k) r r') (hi : i < nt 3) (h9 : k 9 ≤ 400) (o : gr k k') : unI c' r' (k' 6) (k' 9) i := by
  obtain ⟨so, pn, n, Y, pl, e, lo, hi', L, fst, q0, ⟨x1, x2, x3⟩, ⟨y1, y2, y3, y4, y5⟩, ⟨z1, z2, z3, z4, z5, z6⟩, ⟨u1, u2, u3⟩, w1, w2⟩ := h
  have n8 : n ≤ 8 := y4.1
  obtain ⟨o0, o1, o2, o3, o4, o5, o6, o7, o8, o9⟩ := o
  have cc : ∀ b j, (437 ≤ b ∧ b ≤ 441 ∧ j = i) ∨ ((b = 442 ∨ b = 443) ∧ j < 8 * i + 8) → ¬ mj_Wc nt a g k b j := fun b j y => by unfold mj_Wc xWc; omega
  have rr : ∀ b j, (980 ≤ b ∧ b ≤ 987 ∧ b ≠ 984 ∧ j = i) ∨ (b = 984 ∧ j < 8 * i + 8) → ¬ mj_Wr nt k b j := fun b j y => by unfold mj_Wr xWr; omega
  refine ⟨so, pn, n, Y, pl, e, lo, hi', L, fst, q0, ⟨?_, ?_, ?_⟩, ⟨?_, ?_, y3, y4.fr fc fr ⟨cc _ _ (by omega), fun j hj => cc _ _ (by omega)⟩ ⟨rr _ _ (by omega), fun j hj => rr _ _ (by omega)⟩, fun j hj => ?_⟩, ⟨z1, z2, by omega, z4.fr (fun b b1 b2 => (fc b e (by unfold mj_Wc xWc; omega)).1), ?_, ?_⟩, ⟨?_, ?_, u3⟩, by omega, fun ln l1 l2 => ?_⟩
  · rw [(fc 437 i (cc _ _ (by omega))).1]; exact x1
  · rw [(fc 438 i (cc _ _ (by omega))).1]; exact x2
  · rw [(fr 981 i (rr _ _ (by omega))).1]; exact x3
  · rw [(fc 439 i (cc _ _ (by omega))).1]; exact y1
  · rw [(fr 985 i (rr _ _ (by omega))).1]; exact y2
  · rw [(fc 443 _ (cc _ _ (by omega))).1]; exact y5 j hj
  · rw [(fr 982 i (rr _ _ (by omega))).1]; exact z5
  · rw [(fr 983 i (rr _ _ (by omega))).1]; exact z6
  · rw [(fc 441 i (cc _ _ (by omega))).1]; exact u1
  · rw [(fr 987 i (rr _ _ (by omega))).1]; exact u2
  · rw [(fr 1001 ln (by unfold mj_Wr xWr; omega)).1]; exact w2 ln l1 l2
/-- lines and late faults, further on -/
theorem mR.lines (h : mR P nt a g k c0 c r) (fc : l2_fr (mj_Wc nt a g k) c c') (fr : l2_fr (mj_Wr nt k) r r') (h2 : nt 2 ≤ nt' 2) (h3 : nt 3 ≤ nt' 3) (o : gr k k') : ∀ ln, ln < k 9 → st_R (nt' 2) (nt' 3) c' r' (k' 3) (k' 4) (k' 5) (k' 6) (k' 7) (k' 2) (k' 9) ln := fun ln hl => by
  have h9 : k 9 ≤ 400 := h.1.2.2.2.2.2.2.2.2.2.2.2.2.2
  obtain ⟨o0, o1, o2, o3, o4, o5, o6, o7, o8, o9⟩ := o
  exact (h.2.2.2.2.2.1 ln hl).fr fc fr mj_cp mj_cr (mj_mK fr (Nat.le_refl _) (Nat.le_refl _)) h2 h3 ⟨o3, o4, o5, o6, o7, o2⟩ o9 (fun j => (fc _ j (by unfold mj_Wc xWc; omega)).1) (fun x x1 x2 => (fr x ln (by unfold mj_Wr xWr; omega)).1) (fun f td cnt y1 y2 y3 y4 y5 => (fc 443 _ (by unfold mj_Wc xWc; omega)).1)
theorem mR.bro (h : mR P nt a g k c0 c r) (fc : l2_fr (mj_Wc nt a g k) c c') (fr : l2_fr (mj_Wr nt k) r r') (h2 : nt 2 ≤ nt' 2) (h3 : nt 3 ≤ nt' 3) (o : gr k k') (m : mB True (nt' 2) (nt' 3) c c' r' (k 6) (k' 6) (k 8) (k' 8) (k 2) (k' 2) (k 9) (k' 9)) (h13 : k' 2 ≤ 13000) : mB True (nt' 2) (nt' 3) c0 c' r' 0 (k' 6) 0 (k' 8) 0 (k' 2) 0 (k' 9) := by
  obtain ⟨o0, o1, o2, o3, o4, o5, o6, o7, o8, o9⟩ := o
  refine h.2.2.2.2.2.2.1.trans m ⟨Nat.zero_le _, o6⟩ ⟨Nat.zero_le _, o8⟩ ⟨Nat.zero_le _, o2⟩ ⟨Nat.zero_le _, o9⟩ (fun b e b1 b2 b3 => (fc b e (by unfold mj_Wc xWc; omega)).1) (fun j j1 j2 => ?_) (fun s s1 s2 x x1 x2 _ => (fr x s (by unfold mj_Wr xWr; omega)).1) (mj_mK fr (Nat.le_refl _) (Nat.le_refl _)) h2 h3 h13
  have e : ∀ b, (955 ≤ b ∧ b ≤ 962) ∨ b = 1003 → r'.1 b j = r.1 b j ∧ r'.2.1 b j = r.2.1 b j := fun b y => by
    have := fr b j (by unfold mj_Wr xWr; omega)
    exact ⟨this.1, this.2.1⟩
  exact ⟨(e 955 (by omega)).1, (e 956 (by omega)).1, (e 962 (by omega)).1, (e 1003 (by omega)).1, (e 957 (by omega)).2, (e 958 (by omega)).2, fun _ => (e 961 (by omega)).1⟩
/-- calls, further on -/
theorem mR.calls (h : mR P nt a g k c0 c r) (fc : l2_fr (mj_Wc nt a g k) c c') (fr : l2_fr (mj_Wr nt k) r r') (h3 : nt 3 ≤ nt' 3) (n : mCN (nt 3) (nt' 3) c' r' (k 6) (k' 6)) : mCP (nt' 3) c' r' (k' 6) := fun e he hs => by
  have n40 : nt 3 ≤ 40 := (h.1.2.1.1 3 (by decide)).1
  have h9 : k 9 ≤ 400 := h.1.2.2.2.2.2.2.2.2.2.2.2.2.2
  have old : ∀ e : Nat, e < k 6 → ∀ b, 848 ≤ b → b ≤ 852 → c'.1 b e = c.1 b e := fun e he b b1 b2 => (fc b e (by unfold mj_Wc xWc; omega)).1
  by_cases z : e < k 6
  · have g := old e z
    rw [g 849 (by decide) (by decide)] at hs
    obtain ⟨f, f1, f2, f3, f5, f4⟩ := h.2.2.2.2.2.2.2.1 e z hs
    refine ⟨f, by omega, by rw [g 851 (by decide) (by decide)]; exact f2, fun y => ?_, fun y => ?_, fun e' e1 e2 => ?_⟩
    · rw [g 849 (by decide) (by decide)] at y
      rw [g 848 (by decide) (by decide), (fr 983 f (by unfold mj_Wr xWr; omega)).1]
      exact f3 y
    · rw [g 849 (by decide) (by decide)] at y
      rw [g 852 (by decide) (by decide)]
      exact f5 y
    · have g' := old e' (by omega)
      rw [g' 851 (by decide) (by decide)] at e2
      rw [g 849 (by decide) (by decide), g 848 (by decide) (by decide), g 852 (by decide) (by decide), g' 849 (by decide) (by decide), g' 848 (by decide) (by decide), g' 852 (by decide) (by decide)]
      exact f4 e' e1 e2
  · obtain ⟨f, ⟨f1, f2, f40⟩, f3, f4, f5, f6⟩ := n e (by omega) he hs
    refine ⟨f, f2, f3, f4, fun y => (f6 y).1, fun e' e1 e2 => ⟨fun y1 y2 => ?_, fun y1 y2 => ?_⟩⟩
    · by_cases w : e' < k 6
      · have g' := old e' w
        rw [g' 851 (by decide) (by decide)] at e2
        rw [g' 849 (by decide) (by decide)] at y2
        obtain ⟨f', q1, q2, _⟩ := h.2.2.2.2.2.2.2.1 e' w (Or.inl y2)
        have := (nI_eq (by omega) (by omega)).mp (q2.symm.trans e2)
        omega
      · exact f5 y1 e' (by omega) e1 y2
    · by_cases w : e' < k 6
      · have g' := old e' w
        rw [g' 851 (by decide) (by decide)] at e2
        rw [g' 849 (by decide) (by decide)] at y2
        obtain ⟨f', q1, q2, _⟩ := h.2.2.2.2.2.2.2.1 e' w (Or.inr y2)
        have := (nI_eq (by omega) (by omega)).mp (q2.symm.trans e2)
        omega
      · exact (f6 y1).2 e' (by omega) e1 y2
end
