/-! Level 2: a TEXT, in the class's pool and among the reference's signs. -/
theorem tx_127 : ∀ b, b < 127 → 32 ≤ b → tx_c b &&& 127 = nI b := by decide +kernel
/-- the token is a TEXT -/
theorem pj.text {P : pc_S} {u d z q m : Nat} {c r : t_S} (h : pj P u d z q m c r) (h3 : c.1 1 8 = 3) : ∃ (v : Nat) (B : Nat → Nat), v ≤ 40 ∧ c.2.1 1 10 = lN v ∧ r.1 950 7 = nI v ∧ (∀ j, j < v → 32 ≤ B j ∧ B j ≤ 126 ∧ c.1 2 (pc_p P u + 1 + j) = tx_c (B j) ∧ r.1 951 (pc_p P u + 1 + j) = nI (B j)) ∧ pc_p P u + 2 + v ≤ pc_p P (u + 1) ∧ pc_p P u + 1 + v < 12000 := by
  obtain ⟨B, L, W0, W, V, sl, H, T, n, t0, mm⟩ := P
  obtain ⟨⟨hc, hr, hR, ht⟩, _⟩ := h
  have ts : ∀ v : Nat, 5 < v → v < 300 → nI v ≠ (3 : Int32) := fun v a b y => by
    have := (nI_eq (b := 3) (by omega) (by decide)).mp y
    omega
  unfold ts_A at ht
  rcases ht with ⟨a, b⟩ | ⟨i, a, b, _⟩ | ⟨i, k, _, _, _, _, _, _, _, _, a, _⟩ | ⟨v, _, a, _⟩ | ⟨v, v1, v2, v3, a1, a2, a3, a4, a5⟩ | ⟨v, a, b, _⟩
  · rw [a] at h3; exact absurd h3 (by decide)
  · rw [b] at h3; exact absurd h3 (ts _ (by omega) (by omega))
  · rw [a] at h3; exact absurd h3 (by decide)
  · rw [a] at h3; exact absurd h3 (by decide)
  · have hT := hc.1
    have hTr := hr.1
    have bb : ∀ j, j < v → 32 ≤ B (tk_P B L u + 1 + j) ∧ B (tk_P B L u + 1 + j) ≤ 126 := fun j hj => by
      have q := v3 j hj
      unfold lx_tx at q
      rw [Bool.and_eq_true, decide_eq_true_eq] at q
      exact q.1
    refine ⟨v, fun j => B (tk_P B L u + 1 + j), v1, a2, a5, fun j hj => ⟨(bb j hj).1, (bb j hj).2, (hT.2.2 _ (show tk_P B L u + 1 + j < L by omega)).2, (hTr.2.2 _ (show tk_P B L u + 1 + j < L by omega)).2⟩, ?_, show tk_P B L u + 1 + v < 12000 by have := hT.1; omega⟩
    -- the token's end
    show tk_P B L u + 2 + v ≤ tk_P B L (u + 1)
    have e := (tk_P_mono (B := B) (L := L) (u := u) (by omega)).2
    rcases hr.2.2.2.2 with ⟨w, _⟩ | ⟨w1, _, _, _, rn⟩
    · omega
    obtain ⟨o1, _, o2, o3, o4⟩ := rn
    have le : lx_le (B (tk_P B L u)) = false := by
      cases y : lx_le (B (tk_P B L u)) with
      | false => rfl
      | true =>
        have w := (o1 y).1
        rw [a3] at w
        exact absurd w (by decide)
    have di : lx_di (B (tk_P B L u)) = false := by
      cases y : lx_di (B (tk_P B L u)) with
      | false => rfl
      | true =>
        have w := (o2 le y).1
        rw [a3] at w
        exact absurd w (by decide)
    by_cases q : B (tk_P B L u) = 34
    · have w := (o3 le di q).2
      have rr := lx_r_all (g := lx_tx) (B := B) (L := L) _ (tk_P B L u + 1) rfl
      have eq : lx_r lx_tx B L (tk_P B L u + 1) - (tk_P B L u + 1) = v := by
        have := hT.1
        have := rr.2.1 (by omega)
        rw [a5] at w
        exact ((nI_eq (by omega) (by omega)).mp w).symm
      unfold tk_e at e
      rw [if_neg (by rw [le]; decide), if_neg (by rw [di]; decide), if_pos q] at e
      omega
    · have w := (o4 le di q).1
      rw [a3] at w
      exact absurd w (by decide)
  · have : v ≠ 3 := by omega
    rw [b] at h3
    exact absurd ((nI_eq (b := 3) (by omega) (by decide)).mp h3) this
/-- eight signs of seven bits -/
def x8 (S : Nat → Nat) : Nat := S 0 + 128 * (S 1 + 128 * (S 2 + 128 * (S 3 + 128 * (S 4 + 128 * (S 5 + 128 * (S 6 + 128 * S 7))))))
theorem x8_lt {S : Nat → Nat} (e : Nat) (he : e ≤ 8) (h : ∀ i, i < e → S i < 128) (z : ∀ i, e ≤ i → i < 8 → S i = 0) : x8 S < 128 ^ e := by
  unfold x8
  have a : ∀ i, i < 8 → (i < e ∧ S i < 128) ∨ (e ≤ i ∧ S i = 0) := fun i hi => by
    by_cases y : i < e
    · exact Or.inl ⟨y, h i y⟩
    · exact Or.inr ⟨by omega, z i (by omega) hi⟩
  have a0 := a 0 (by decide)
  have a1 := a 1 (by decide)
  have a2 := a 2 (by decide)
  have a3 := a 3 (by decide)
  have a4 := a 4 (by decide)
  have a5 := a 5 (by decide)
  have a6 := a 6 (by decide)
  have a7 := a 7 (by decide)
  have ce : e = 0 ∨ e = 1 ∨ e = 2 ∨ e = 3 ∨ e = 4 ∨ e = 5 ∨ e = 6 ∨ e = 7 ∨ e = 8 := by omega
  rcases ce with rfl | rfl | rfl | rfl | rfl | rfl | rfl | rfl | rfl <;> simp only [Nat.reducePow] <;> omega
theorem x8_add {S S' : Nat → Nat} {e b : Nat} (he : e < 8) (h : ∀ i, i < 8 → S' i = if i = e then S i + b else S i) : x8 S' = x8 S + b * 128 ^ e := by
  unfold x8
  rw [h 0 (by decide), h 1 (by decide), h 2 (by decide), h 3 (by decide), h 4 (by decide), h 5 (by decide), h 6 (by decide), h 7 (by decide)]
  have ce : e = 0 ∨ e = 1 ∨ e = 2 ∨ e = 3 ∨ e = 4 ∨ e = 5 ∨ e = 6 ∨ e = 7 := by omega
  rcases ce with rfl | rfl | rfl | rfl | rfl | rfl | rfl | rfl <;> simp only [Nat.reducePow, Nat.reduceEqDiff, reduceIte] <;> omega
/-- the first i of v signs, in the q-th cell -/
def x8_S (B : Nat → Nat) (i q e : Nat) : Nat := if 8 * q + e < i then B (8 * q + e) else 0
theorem px_put {c : t_S} {p i b : Nat} {B : Nat → Nat} (hp : p + 10 < 26000) (hi : i < 40) (hB : ∀ j, j ≤ i → B j < 128) (hb : b = B i) (h : i % 8 ≠ 0 → c.2.1 337 (p + 1 + i / 8) = lN (16 * x8 (x8_S B i (i / 8)) + 10)) : t_hk (f_X8_putSign 337 (nI p) (nI i) (nI b) c) (fun c' => l2_fr (fun x j => x = 337 ∧ j = p + 1 + i / 8) c c' ∧ c'.2.1 337 (p + 1 + i / 8) = lN (16 * x8 (x8_S B (i + 1) (i / 8)) + 10)) := by
  have ok : t_oka 337 2 (t_ln 337) = true := rfl
  have d8 : nI i / (8 : Int32) = nI (i / 8) := pk_div (a := i) (d := 8) (by omega) (by decide) (by decide)
  have r8 : nI i - nI i / (8 : Int32) * (8 : Int32) = nI (i % 8) := pk_rem (a := i) (d := 8) (by omega) (by decide) (by decide)
  have at1 : (nI p + (1 : Int32)) + nI i / (8 : Int32) = nI (p + 1 + i / 8) := by rw [d8, nI_1, nI_add]
  have ix : t_ix (nI (p + 1 + i / 8)) (t_ln 337) = true := l2_ix (show p + 1 + i / 8 < 26000 by omega) (by decide)
  have go : ∀ c1 : t_S, l2_fr (fun x j => x = 337 ∧ j = p + 1 + i / 8) c c1 → c1.2.1 337 (p + 1 + i / 8) = lN (16 * x8 (x8_S B i (i / 8)) + 10) → t_hk (k_X8_putSign_24 337 (nI i) (nI b) (nI (p + 1 + i / 8)) c1) (fun c' => l2_fr (fun x j => x = 337 ∧ j = p + 1 + i / 8) c c' ∧ c'.2.1 337 (p + 1 + i / 8) = lN (16 * x8 (x8_S B (i + 1) (i / 8)) + 10)) := by
    intro c1 w g
    unfold k_X8_putSign_24
    refine l2_ck ok (l2_ck ix (l2_lt ?_))
    rw [nI_clamp (by omega), g, r8, nI_l (n := b) (by have := hB i (Nat.le_refl _); omega), show (4 : Int32) + (7 : Int32) * nI (i % 8) = nI (4 + 7 * (i % 8)) by rw [show (7 : Int32) * nI (i % 8) = nI (7 * (i % 8)) from pk_mul 7 _, show (4 : Int32) = nI 4 from rfl, nI_add], wb_shl b (k := 4 + 7 * (i % 8)) (by omega)]
    have lt : x8 (x8_S B i (i / 8)) < 128 ^ (i % 8) := x8_lt (i % 8) (by omega) (fun k hk => by
      unfold x8_S
      split
      · exact hB _ (by omega)
      · omega) (fun k a b => by
      unfold x8_S
      rw [if_neg (by omega)])
    have bb := hB i (Nat.le_refl _)
    have add : x8 (x8_S B (i + 1) (i / 8)) = x8 (x8_S B i (i / 8)) + b * 128 ^ (i % 8) := x8_add (e := i % 8) (by omega) (fun k hk => by
      unfold x8_S
      by_cases e : k = i % 8
      · rw [if_pos e, if_pos (by omega), if_neg (by omega), hb, show 8 * (i / 8) + k = i by omega, Nat.zero_add]
      · rw [if_neg e]
        by_cases l : 8 * (i / 8) + k < i
        · rw [if_pos (by omega), if_pos l]
        · rw [if_neg (by omega), if_neg l])
    have val : lN (16 * x8 (x8_S B i (i / 8)) + 10) ||| lN (b * 2 ^ (4 + 7 * (i % 8))) = lN (16 * x8 (x8_S B (i + 1) (i / 8)) + 10) := by
      have ce : i % 8 = 0 ∨ i % 8 = 1 ∨ i % 8 = 2 ∨ i % 8 = 3 ∨ i % 8 = 4 ∨ i % 8 = 5 ∨ i % 8 = 6 ∨ i % 8 = 7 := by omega
      have key : ∀ k X : Nat, X < 2 ^ k → b * 2 ^ k < 2 ^ 64 → X < 2 ^ 64 → lN X ||| lN (b * 2 ^ k) = lN (X + b * 2 ^ k) := fun k X h1 h2 h3 => by
        rw [wb_or h3 h2, Nat.or_comm, Nat.mul_comm b, ← Nat.two_pow_add_eq_or_of_lt h1, Nat.add_comm]
      rw [add]
      rcases ce with e | e | e | e | e | e | e | e <;> rw [e] at lt ⊢ <;> simp only [Nat.reducePow, Nat.reduceMul, Nat.reduceAdd] at lt ⊢
      · have q := key 4 (16 * x8 (x8_S B i (i / 8)) + 10) (by omega) (by omega) (by omega)
        simp only [Nat.reducePow] at q
        rw [q]; congr 1; omega
      · have q := key 11 (16 * x8 (x8_S B i (i / 8)) + 10) (by omega) (by omega) (by omega)
        simp only [Nat.reducePow] at q
        rw [q]; congr 1; omega
      · have q := key 18 (16 * x8 (x8_S B i (i / 8)) + 10) (by omega) (by omega) (by omega)
        simp only [Nat.reducePow] at q
        rw [q]; congr 1; omega
      · have q := key 25 (16 * x8 (x8_S B i (i / 8)) + 10) (by omega) (by omega) (by omega)
        simp only [Nat.reducePow] at q
        rw [q]; congr 1; omega
      · have q := key 32 (16 * x8 (x8_S B i (i / 8)) + 10) (by omega) (by omega) (by omega)
        simp only [Nat.reducePow] at q
        rw [q]; congr 1; omega
      · have q := key 39 (16 * x8 (x8_S B i (i / 8)) + 10) (by omega) (by omega) (by omega)
        simp only [Nat.reducePow] at q
        rw [q]; congr 1; omega
      · have q := key 46 (16 * x8 (x8_S B i (i / 8)) + 10) (by omega) (by omega) (by omega)
        simp only [Nat.reducePow] at q
        rw [q]; congr 1; omega
      · have q := key 53 (16 * x8 (x8_S B i (i / 8)) + 10) (by omega) (by omega) (by omega)
        simp only [Nat.reducePow] at q
        rw [q]; congr 1; omega
    rw [val]
    refine l2_sm ⟨w.trans (l2_fr.setJ ⟨rfl, rfl⟩), ?_⟩
    simp only [l2_gJ, reduceIte]
  unfold f_X8_putSign
  rw [at1, r8]
  by_cases z : i % 8 = 0
  · rw [z]
    refine l2_ck rfl (l2_ck ok (l2_ck ix (l2_lt ?_)))
    rw [nI_clamp (by omega)]
    refine go _ (l2_fr.setJ ⟨rfl, rfl⟩) ?_
    have e0 : x8 (x8_S B i (i / 8)) = 0 := by
      have := x8_lt (S := x8_S B i (i / 8)) 0 (by decide) (fun k hk => by omega) (fun k a b => by
        unfold x8_S
        rw [if_neg (by omega)])
      omega
    rw [e0]
    simp only [l2_gJ, reduceIte]
    rfl
  · exact l2_no (nI_ne0 (by omega) (by omega)) (go c l2_fr.rf (h z))
