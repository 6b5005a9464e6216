/-! Level 2: one exp or templ on both sides: operations e0 .. e1 - 1, nodes of templates t0 .. t1 - 1 of the class; nodes m0 .. m1 - 1 of the reference, n its root. Flag 0: an exp, 1: a templ, 2: perm. -/
/-- a TEXT: in the class's pool at p, in the reference's signs -/
def px_T (c r : t_S) (p1 s1 p n : Nat) : Prop := ∃ (v s0 : Nat) (B : Nat → Nat), v ≤ 40 ∧ r.2.1 957 n = lN s0 ∧ r.2.1 958 n = lN v ∧ s0 + v ≤ s1 ∧ p + 1 + (v + 7) / 8 ≤ p1 ∧ (∀ j, j < v → 32 ≤ B j ∧ B j ≤ 126 ∧ r.1 963 (s0 + j) = nI (B j)) ∧ vl_c v (1 + (v + 7) / 8) 2 (c.2.1 337 p) ∧ ∀ q, q < (v + 7) / 8 → ∃ S : Nat → Nat, (∀ e, e < 8 → S e = if 8 * q + e < v then B (8 * q + e) else 0) ∧ (c.2.1 337 (p + 1 + q)).toInt / 16 = S 0 + 128 * (S 1 + 128 * (S 2 + 128 * (S 3 + 128 * (S 4 + 128 * (S 5 + 128 * (S 6 + 128 * (S 7 : Int))))))) ∧ (c.2.1 337 (p + 1 + q)).toInt % 16 = 10
/-- an operation -/
def px_o (c : t_S) (i o : Nat) (a : Int32) : Prop := c.1 335 i = nI o ∧ c.1 336 i = a
/-- v parts hang at a node of the class's templates -/
def tc_R (c : t_S) (t0 v : Nat) (F : Nat → Nat) : Prop := c.1 355 t0 = (if 0 < v then nI (F 0) else -1) ∧ ∀ j, j < v → c.1 356 (F j) = if j + 1 < v then nI (F (j + 1)) else -1
/-- borders of v parts -/
def px_B (v a b : Nat) (E : Nat → Nat) : Prop := E 0 = a ∧ E v = b ∧ ∀ j, j < v → E j ≤ E (j + 1) ∧ E (j + 1) ≤ b ∧ a ≤ E j
/-- the class's operation of an operator: sign of the reference -/
def px_two (x o : Nat) : Prop := (x = 60 ∧ o = 22) ∨ (x = 62 ∧ o = 24) ∨ (x = 15677 ∧ o = 26) ∨ (x = 8509 ∧ o = 27) ∨ (x = 15421 ∧ o = 23) ∨ (x = 15933 ∧ o = 25) ∨ (x = 43 ∧ o = 16) ∨ (x = 45 ∧ o = 17) ∨ (x = 38 ∧ o = 21) ∨ (x = 42 ∧ o = 18) ∨ (x = 47 ∧ o = 19) ∨ (x = 37 ∧ o = 20)
def px_log (x o : Nat) : Prop := (x = 31868 ∧ o = 29) ∨ (x = 9766 ∧ o = 28)
/-- leaves of exps: one operation, one node -/
def px_leaf (WN AN : Nat → Nat → Prop) (c r : t_S) (p1 s1 e n : Nat) : Prop :=
  (r.1 955 n = 50 ∧ ∃ p v : Nat, p < p1 ∧ v < 10 ^ 15 ∧ px_o c e 1 (nI p) ∧ r.2.1 957 n = lN v ∧ vl_c v 1 0 (c.2.1 337 p)) ∨
  ((r.1 955 n = 51 ∨ r.1 955 n = 52) ∧ ∃ p : Nat, p < p1 ∧ px_o c e 1 (nI p) ∧ vl_c (if r.1 955 n = 51 then 1 else 0) 1 1 (c.2.1 337 p)) ∨
  (r.1 955 n = 53 ∧ ∃ p : Nat, px_o c e 1 (nI p) ∧ px_T c r p1 s1 p n) ∨
  (r.1 955 n = 54 ∧ ∃ p : Nat, p < p1 ∧ px_o c e 1 (nI p) ∧ vl_c 0 1 4 (c.2.1 337 p)) ∨
  (∃ K : Nat, 55 ≤ K ∧ K ≤ 57 ∧ r.1 955 n = nI K ∧ px_o c e (K - 50) 0) ∨
  (r.1 955 n = 58 ∧ WN e n) ∨ (r.1 955 n = 63 ∧ c.1 335 e = 8 ∧ AN e n)
/-- leaves of templs, but for what is told behind them -/
def px_tone (TN : Nat → Nat → Prop) (c r : t_S) (p1 s1 e0 e1 t n : Nat) : Prop :=
  (e1 = e0 ∧ r.1 959 n = -1 ∧ ((r.1 955 n = 20 ∧ c.1 354 t = 1) ∨ (r.1 955 n = 21 ∧ c.1 354 t = 2) ∨ (r.1 955 n = 27 ∧ c.1 354 t = 5) ∨
    ((r.1 955 n = 22 ∨ r.1 955 n = 23) ∧ c.1 354 t = 3 ∧ c.2.1 361 t = r.2.1 957 n ∧ c.2.1 362 t = r.2.1 958 n) ∨
    ((r.1 955 n = 24 ∨ r.1 955 n = 25) ∧ c.1 354 t = 4 ∧ ∃ p : Nat, p < p1 ∧ c.1 357 t = nI p ∧ vl_c (if r.1 955 n = 24 then 1 else 0) 1 1 (c.2.1 337 p)) ∨
    (((r.1 955 n = 26 ∧ c.1 354 t = 4) ∨ (r.1 955 n = 35 ∧ c.1 354 t = 14)) ∧ ∃ p : Nat, c.1 357 t = nI p ∧ px_T c r p1 s1 p n))) ∨
  (e1 = e0 + 1 ∧ r.1 955 n = 28 ∧ px_o c e0 35 (nI t) ∧ TN t n)
/-- what stands behind a tone: length, ifpresent -/
def px_wrap (c r : t_S) (lv : Int32) (t m0 mE m1 n : Nat) : Prop := c.1 358 t = lv ∧ ∃ b : Nat, b ≤ 1 ∧ c.1 360 t = nI b ∧ r.1 961 n = nI b ∧
  ((c.1 359 t = 0 ∧ n = m0 ∧ mE = m1) ∨ (n = mE ∧ m1 = mE + 1 ∧ r.1 955 n = 41 ∧ r.1 959 n = nI m0 ∧ r.1 961 m0 = 0 ∧ r.1 960 m0 = -1 ∧ ∃ lo hi : Nat, lo ≤ hi ∧ hi ≤ 40 ∧ r.2.1 957 n = lN lo ∧ r.2.1 958 n = lN hi ∧ c.1 359 t = nI (1 + 256 * lo + 65536 * hi)))
/-- the class's kind of a row of templs: the reference's -/
def px_row (K C : Nat) : Prop := (K = 31 ∧ C = 10) ∨ (K = 32 ∧ C = 11) ∨ (K = 33 ∧ C = 12) ∨ (K = 34 ∧ C = 13) ∨ (K = 36 ∧ C = 15) ∨ (K = 37 ∧ C = 16) ∨ (K = 39 ∧ C = 18)
def XR (WN AN TN : Nat → Nat → Prop) (SN : Nat → Nat → Prop) (c r : t_S) (p1 s1 : Nat) : Nat → Nat → Int32 → Nat → Nat → Nat → Nat → Nat → Nat → Nat → Nat → Prop
  | 0, _, _, _, _, _, _, _, _, _, _ => False
  | f + 1, fl, lv, rr, e0, e1, t0, t1, m0, m1, n => e0 ≤ e1 ∧ t0 ≤ t1 ∧ m0 ≤ n ∧ n < m1 ∧
    (((fl = 0 ∧ rr ≤ 360) ∧
      ((n = m0 ∧ e1 = e0 + 1 ∧ t1 = t0 ∧ m1 = m0 + 1 ∧ px_leaf WN AN c r p1 s1 e0 n) ∨
       (n = m0 ∧ r.1 955 n = 72 ∧ ∃ n', r.1 959 n = nI n' ∧ XR WN AN TN SN c r p1 s1 f 0 lv (rr + 15) e0 e1 t0 t1 (m0 + 1) m1 n') ∨
       (n = m0 ∧ e0 < e1 ∧ ∃ (K o a n' : Nat), ((K = 62 ∧ o = 9 ∧ a = 0) ∨ (64 ≤ K ∧ K ≤ 66 ∧ o = K - 54 ∧ a = 0) ∨ (K = 67 ∧ o = 13 ∧ 66 ≤ a ∧ a < 8000 ∧ r.2.1 957 n = lN (a - 66))) ∧ r.1 955 n = nI K ∧ px_o c (e1 - 1) o (nI a) ∧ r.1 959 n = nI n' ∧ XR WN AN TN SN c r p1 s1 f 0 lv (if K = 62 then rr + 15 else rr) e0 (e1 - 1) t0 t1 (m0 + 1) m1 n') ∨
       (m1 = n + 1 ∧ e0 < e1 ∧ r.1 955 n = 68 ∧ ∃ X n' : Nat, X < 7934 ∧ r.2.1 957 n = lN X ∧ px_o c (e1 - 1) 14 (nI (66 + X)) ∧ r.1 959 n = nI n' ∧ XR WN AN TN SN c r p1 s1 f 0 lv rr e0 (e1 - 1) t0 t1 m0 n n') ∨
       (e0 < e1 ∧ ∃ (ea ta a b : Nat), ea < e1 ∧ r.1 959 n = nI a ∧ r.1 960 a = nI b ∧ XR WN AN TN SN c r p1 s1 f 0 lv rr e0 ea t0 ta m0 n a ∧
         ((r.1 955 n = 69 ∧ px_o c (e1 - 1) 15 0 ∧ XR WN AN TN SN c r p1 s1 f 0 lv (rr + 15) ea (e1 - 1) ta t1 (n + 1) m1 b) ∨
          (r.1 955 n = 70 ∧ ∃ x o : Nat, px_two x o ∧ r.2.1 957 n = lN x ∧ px_o c (e1 - 1) o 0 ∧ XR WN AN TN SN c r p1 s1 f 0 lv (rr + 1 + (15 - rr % 20)) ea (e1 - 1) ta t1 (n + 1) m1 b) ∨
          (r.1 955 n = 70 ∧ ∃ x o : Nat, px_log x o ∧ r.2.1 957 n = lN x ∧ px_o c ea o (nI e1) ∧ px_o c (e1 - 1) 30 0 ∧ XR WN AN TN SN c r p1 s1 f 0 lv (rr + 1 + (15 - rr % 20)) (ea + 1) (e1 - 1) ta t1 (n + 1) m1 b))) ∨
       (n = m0 ∧ e0 < e1 ∧ r.1 955 n = 60 ∧ ∃ (v : Nat) (E T M G : Nat → Nat), v ≤ 12 ∧ px_B v e0 (e1 - 1) E ∧ px_B v t0 t1 T ∧ px_B v (m0 + 1) m1 M ∧ px_o c (e1 - 1) 31 (nI v) ∧ ch_R r n v G ∧ ∀ j, j < v → XR WN AN TN SN c r p1 s1 f 0 lv (rr + 15) (E j) (E (j + 1)) (T j) (T (j + 1)) (M j) (M (j + 1)) (G j)) ∨
       (n = m0 ∧ r.1 955 n = 59 ∧ ∃ (v : Nat) (E T M X N : Nat → Nat), v ≤ 16 ∧ e0 + v < e1 ∧ px_B v e0 (e1 - 1 - v) E ∧ px_B v t0 t1 T ∧ px_B v (m0 + 1) m1 M ∧ px_o c (e1 - 1 - v) 32 (nI v) ∧ ch_R r n v M ∧ (∀ i j, i < j → j < v → X i ≠ X j) ∧ ∀ j, j < v → X j < 7934 ∧ px_o c (e1 - v + j) 33 (nI (66 + X j)) ∧ M j < M (j + 1) ∧ r.1 955 (M j) = 71 ∧ r.2.1 957 (M j) = lN (X j) ∧ r.1 959 (M j) = nI (N j) ∧ XR WN AN TN SN c r p1 s1 f 0 lv (rr + 15) (E j) (E (j + 1)) (T j) (T (j + 1)) (M j + 1) (M (j + 1)) (N j)) ∨
       (n = m0 ∧ e0 < e1 ∧ r.1 955 n = 61 ∧ ∃ (ea ta ma a b : Nat), ea < e1 ∧ m0 < ma ∧ ma < m1 ∧ r.1 959 n = nI a ∧ r.1 960 a = nI b ∧ px_o c (e1 - 1) 36 (nI ta) ∧ XR WN AN TN SN c r p1 s1 f 0 lv (rr + 15) e0 ea t0 ta (m0 + 1) ma a ∧ XR WN AN TN SN c r p1 s1 f 1 (-1000) (rr + 15) ea (e1 - 1) ta t1 ma m1 b))) ∨
     ((fl = 1 ∧ rr ≤ 360) ∧ t0 < t1 ∧ ∃ mE, m0 < mE ∧ mE ≤ m1 ∧ px_wrap c r lv t0 m0 mE m1 n ∧
      ((t1 = t0 + 1 ∧ mE = m0 + 1 ∧ px_tone TN c r p1 s1 e0 e1 t0 m0) ∨
       (e0 < e1 ∧ r.1 955 m0 = 38 ∧ SN t0 m0 ∧ px_o c (e1 - 1) 34 (nI t0) ∧ ∃ n', r.1 959 m0 = nI n' ∧ XR WN AN TN SN c r p1 s1 f 0 lv (rr + 20) e0 (e1 - 1) (t0 + 1) t1 (m0 + 1) mE n') ∨
       (r.1 955 m0 = 30 ∧ c.1 354 t0 = 9 ∧ ∃ X n' : Nat, X < 7934 ∧ c.1 357 t0 = nI (66 + X) ∧ r.2.1 957 m0 = lN X ∧ c.1 355 t0 = nI (t0 + 1) ∧ r.1 959 m0 = nI n' ∧ r.1 960 n' = -1 ∧ XR WN AN TN SN c r p1 s1 f 1 (lv + 1) (rr + 20) e0 e1 (t0 + 1) t1 (m0 + 1) mE n') ∨
       (r.1 955 m0 = 29 ∧ c.1 354 t0 = 8 ∧ ∃ (v : Nat) (E T M X N : Nat → Nat), v ≤ 16 ∧ px_B v e0 e1 E ∧ px_B v (t0 + 1) t1 T ∧ px_B v (m0 + 1) mE M ∧ tc_R c t0 v T ∧ ch_R r m0 v M ∧ (∀ i j, i < j → j < v → X i ≠ X j) ∧ ∀ j, j < v → X j < 7934 ∧ T j < T (j + 1) ∧ M j < M (j + 1) ∧ c.1 354 (T j) = 19 ∧ c.1 357 (T j) = nI (66 + X j) ∧ c.1 358 (T j) = -1000 ∧ c.1 355 (T j) = nI (T j + 1) ∧ r.1 955 (M j) = 40 ∧ r.2.1 957 (M j) = lN (X j) ∧ r.1 959 (M j) = nI (N j) ∧ r.1 960 (N j) = -1 ∧ XR WN AN TN SN c r p1 s1 f 1 (lv + 1) (rr + 20) (E j) (E (j + 1)) (T j + 1) (T (j + 1)) (M j + 1) (M (j + 1)) (N j)) ∨
       (∃ K C : Nat, px_row K C ∧ K ≠ 39 ∧ r.1 955 m0 = nI K ∧ c.1 354 t0 = nI C ∧ ∃ (v : Nat) (E T M G W : Nat → Nat), v ≤ 12 ∧ (K ≠ 31 → 0 < v) ∧ px_B v e0 e1 E ∧ px_B v (t0 + 1) t1 T ∧ px_B v (m0 + 1) mE M ∧ tc_R c t0 v T ∧ ch_R r m0 v G ∧ ∀ j, j < v → (W j = 1 ∨ W j = 2 ∧ K = 31) ∧ XR WN AN TN SN c r p1 s1 f (W j) (lv + 1) (rr + 20) (E j) (E (j + 1)) (T j) (T (j + 1)) (M j) (M (j + 1)) (G j)))) ∨
     ((fl = 2 ∧ rr ≤ 360) ∧ t0 < t1 ∧ n = m0 ∧ r.1 955 n = 39 ∧ r.1 961 n = 0 ∧ c.1 354 t0 = 18 ∧ c.1 358 t0 = lv ∧ c.1 359 t0 = 0 ∧ c.1 360 t0 = 0 ∧ ∃ (v : Nat) (E T M G : Nat → Nat), v ≤ 12 ∧ 0 < v ∧ px_B v e0 e1 E ∧ px_B v (t0 + 1) t1 T ∧ px_B v (m0 + 1) m1 M ∧ tc_R c t0 v T ∧ ch_R r n v G ∧ ∀ j, j < v → XR WN AN TN SN c r p1 s1 f 1 (lv + 1) rr (E j) (E (j + 1)) (T j) (T (j + 1)) (M j) (M (j + 1)) (G j)))
/-- two states of both sides agree where an exp or templ lies, but for what its surroundings write at tq, nq -/
def ax_R (p1 s1 : Nat) (c r c' r' : t_S) (e0 e1 t0 t1 m0 m1 tq nq : Nat) : Prop :=
  (∀ j, e0 ≤ j → j < e1 → c'.1 335 j = c.1 335 j ∧ c'.1 336 j = c.1 336 j) ∧
  (∀ b j, 354 ≤ b → b ≤ 360 → t0 ≤ j → j < t1 → (b = 356 → j ≠ tq) → c'.1 b j = c.1 b j) ∧
  (∀ j, t0 ≤ j → j < t1 → c.1 354 j = 3 → c'.2.1 361 j = c.2.1 361 j ∧ c'.2.1 362 j = c.2.1 362 j) ∧
  (∀ j, j < p1 → c'.2.1 337 j = c.2.1 337 j) ∧
  (∀ b j, 955 ≤ b → b ≤ 961 → m0 ≤ j → j < m1 → (b = 960 → j ≠ nq) → r'.1 b j = r.1 b j ∧ r'.2.1 b j = r.2.1 b j) ∧
  ∀ j, j < s1 → r'.1 963 j = r.1 963 j
theorem ax_R.sub {p1 s1 : Nat} {c r c' r' : t_S} {e0 e1 t0 t1 m0 m1 tq nq a0 a1 b0 b1 d0 d1 tq2 nq2 : Nat} (h : ax_R p1 s1 c r c' r' e0 e1 t0 t1 m0 m1 tq nq) (h1 : e0 ≤ a0) (h2 : a1 ≤ e1) (h3 : t0 ≤ b0) (h4 : b1 ≤ t1) (h5 : m0 ≤ d0) (h6 : d1 ≤ m1) (ht : tq < b0 ∨ b1 ≤ tq ∨ tq = tq2) (hn : nq < d0 ∨ d1 ≤ nq ∨ nq = nq2) : ax_R p1 s1 c r c' r' a0 a1 b0 b1 d0 d1 tq2 nq2 := by
  obtain ⟨x1, x2, x3, x4, x5, x6⟩ := h
  exact ⟨fun j a b => x1 j (by omega) (by omega), fun b j a d g i k => x2 b j a d (by omega) (by omega) (by omega), fun j a b => x3 j (by omega) (by omega), x4, fun b j a d g i k => x5 b j a d (by omega) (by omega) (by omega), x6⟩
theorem px_o.ax {p1 s1 : Nat} {c r c' r' : t_S} {e0 e1 t0 t1 m0 m1 tq nq i o : Nat} {a : Int32} (h : px_o c i o a) (A : ax_R p1 s1 c r c' r' e0 e1 t0 t1 m0 m1 tq nq) (h1 : e0 ≤ i) (h2 : i < e1) : px_o c' i o a := by
  unfold px_o at *
  rw [(A.1 i h1 h2).1, (A.1 i h1 h2).2]
  exact h
theorem px_T.ax {p1 s1 : Nat} {c r c' r' : t_S} {e0 e1 t0 t1 m0 m1 tq nq p n : Nat} (h : px_T c r p1 s1 p n) (A : ax_R p1 s1 c r c' r' e0 e1 t0 t1 m0 m1 tq nq) (h1 : m0 ≤ n) (h2 : n < m1) : px_T c' r' p1 s1 p n := by
  obtain ⟨_, _, _, x4, x5, x6⟩ := A
  obtain ⟨v, s0, B, a1, a2, a3, a4, a5, a6, a7, a8⟩ := h
  refine ⟨v, s0, B, a1, by rw [(x5 957 n (by decide) (by decide) h1 h2 (by omega)).2]; exact a2, by rw [(x5 958 n (by decide) (by decide) h1 h2 (by omega)).2]; exact a3, a4, a5, fun j hj => ?_, by rw [x4 p (by omega)]; exact a7, fun q hq => ?_⟩
  · rw [x6 _ (by omega)]
    exact a6 j hj
  · rw [x4 _ (by omega)]
    exact a8 q hq
theorem tc_R.ax {p1 s1 : Nat} {c r c' r' : t_S} {e0 e1 t0 t1 m0 m1 nq v t : Nat} {F : Nat → Nat} (h : tc_R c t v F) (A : ax_R p1 s1 c r c' r' e0 e1 t0 t1 m0 m1 t nq) (h1 : t0 ≤ t) (h2 : t < t1) (h3 : ∀ j, j < v → t < F j ∧ F j < t1) : tc_R c' t v F := by
  obtain ⟨_, x2, _⟩ := A
  refine ⟨by rw [x2 355 t (by decide) (by decide) h1 h2 (by omega)]; exact h.1, fun j hj => ?_⟩
  have := h3 j hj
  rw [x2 356 _ (by decide) (by decide) (by omega) this.2 (by omega)]
  exact h.2 j hj
theorem ch_R.ax {p1 s1 : Nat} {c r c' r' : t_S} {e0 e1 t0 t1 m0 m1 tq nq v n : Nat} {G : Nat → Nat} (h : ch_R r n v G) (A : ax_R p1 s1 c r c' r' e0 e1 t0 t1 m0 m1 tq nq) (h1 : m0 ≤ n) (h2 : n < m1) (h3 : ∀ j, j < v → G j < m1 ∧ G j ≠ nq) : ch_R r' n v G := by
  obtain ⟨_, _, _, _, x5, _⟩ := A
  refine ⟨by rw [(x5 959 n (by decide) (by decide) h1 h2 (by omega)).1]; exact h.1, fun j hj => ?_⟩
  obtain ⟨y1, y2, y3, y4⟩ := h.2 j hj
  have := h3 j hj
  rw [(x5 960 (G j) (by decide) (by decide) (by omega) this.1 (fun _ => this.2)).1]
  exact ⟨y1, y2, y3, y4⟩
theorem px_leaf.ax {WN AN WN' AN' : Nat → Nat → Prop} {p1 s1 : Nat} {c r c' r' : t_S} {e0 e1 t0 t1 m0 m1 tq nq e n : Nat} (h : px_leaf WN AN c r p1 s1 e n) (A : ax_R p1 s1 c r c' r' e0 e1 t0 t1 m0 m1 tq nq) (h1 : m0 ≤ n) (h2 : n < m1) (h3 : e0 ≤ e) (h4 : e < e1) (hW : WN e n → WN' e n) (hA : AN e n → AN' e n) : px_leaf WN' AN' c' r' p1 s1 e n := by
  have A' := A
  obtain ⟨x1, _, _, x4, x5, _⟩ := A
  have k : r'.1 955 n = r.1 955 n := (x5 955 n (by decide) (by decide) h1 h2 (by omega)).1
  have k7 : r'.2.1 957 n = r.2.1 957 n := (x5 957 n (by decide) (by decide) h1 h2 (by omega)).2
  unfold px_leaf at *
  rw [k, k7, (x1 e h3 h4).1]
  rcases h with ⟨a, p, v, b1, b2, b3, b4, b5⟩ | ⟨a, p, b1, b2, b3⟩ | ⟨a, p, b1, b2⟩ | ⟨a, p, b1, b2, b3⟩ | ⟨K, a1, a2, a3, a4⟩ | ⟨a, b⟩ | ⟨a, b, d⟩
  · exact Or.inl ⟨a, p, v, b1, b2, b3.ax A' h3 h4, b4, by rw [x4 p b1]; exact b5⟩
  · exact Or.inr (Or.inl ⟨a, p, b1, b2.ax A' h3 h4, by rw [x4 p b1]; exact b3⟩)
  · exact Or.inr (Or.inr (Or.inl ⟨a, p, b1.ax A' h3 h4, b2.ax A' h1 h2⟩))
  · exact Or.inr (Or.inr (Or.inr (Or.inl ⟨a, p, b1, b2.ax A' h3 h4, by rw [x4 p b1]; exact b3⟩)))
  · exact Or.inr (Or.inr (Or.inr (Or.inr (Or.inl ⟨K, a1, a2, a3, a4.ax A' h3 h4⟩))))
  · exact Or.inr (Or.inr (Or.inr (Or.inr (Or.inr (Or.inl ⟨a, hW b⟩)))))
  · exact Or.inr (Or.inr (Or.inr (Or.inr (Or.inr (Or.inr ⟨a, b, hA d⟩)))))
theorem px_tone.ax {TN TN' : Nat → Nat → Prop} {p1 s1 : Nat} {c r c' r' : t_S} {e0 e1 t0 t1 m0 m1 tq nq a0 a1 t n : Nat} (h : px_tone TN c r p1 s1 a0 a1 t n) (A : ax_R p1 s1 c r c' r' e0 e1 t0 t1 m0 m1 tq nq) (h1 : m0 ≤ n) (h2 : n < m1) (h3 : t0 ≤ t) (h4 : t < t1) (h5 : e0 ≤ a0) (h6 : a1 ≤ e1) (hT : TN t n → TN' t n) : px_tone TN' c' r' p1 s1 a0 a1 t n := by
  have A' := A
  obtain ⟨x1, x2, x3, x4, x5, _⟩ := A
  have k : r'.1 955 n = r.1 955 n := (x5 955 n (by decide) (by decide) h1 h2 (by omega)).1
  have k7 : r'.2.1 957 n = r.2.1 957 n := (x5 957 n (by decide) (by decide) h1 h2 (by omega)).2
  have k8 : r'.2.1 958 n = r.2.1 958 n := (x5 958 n (by decide) (by decide) h1 h2 (by omega)).2
  have k9 : r'.1 959 n = r.1 959 n := (x5 959 n (by decide) (by decide) h1 h2 (by omega)).1
  have q4 : c'.1 354 t = c.1 354 t := x2 354 t (by decide) (by decide) h3 h4 (by omega)
  have q7 : c'.1 357 t = c.1 357 t := x2 357 t (by decide) (by decide) h3 h4 (by omega)
  unfold px_tone at *
  rw [k, k7, k8, k9, q4, q7]
  rcases h with ⟨a, a9, h⟩ | ⟨a, b, d, g⟩
  · refine Or.inl ⟨a, a9, ?_⟩
    rcases h with h | h | h | ⟨b1, b2, b3, b4⟩ | ⟨b1, b2, p, b3, b4, b5⟩ | ⟨b1, p, b2, b3⟩
    · exact Or.inl h
    · exact Or.inr (Or.inl h)
    · exact Or.inr (Or.inr (Or.inl h))
    · rw [(x3 t h3 h4 b2).1, (x3 t h3 h4 b2).2]
      exact Or.inr (Or.inr (Or.inr (Or.inl ⟨b1, b2, b3, b4⟩)))
    · exact Or.inr (Or.inr (Or.inr (Or.inr (Or.inl ⟨b1, b2, p, b3, b4, by rw [x4 p b3]; exact b5⟩))))
    · exact Or.inr (Or.inr (Or.inr (Or.inr (Or.inr ⟨b1, p, b2, b3.ax A' h1 h2⟩))))
  · exact Or.inr ⟨a, b, d.ax A' h5 (by omega), hT g⟩
