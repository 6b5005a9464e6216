/-! Level 2: where an exp stands (its names), and the joint state while exps and templs are read. -/
/-- home, context, how many are told, whether runs can't be named, words known, what a word is: 0 no var, 1 + i the i-th of the function's, 9 + i of the component's -/
def en_S : Type := Int32 × Nat × Nat × Nat × Nat × (Nat → Nat)
/-- n names of a row of the class -/
def en_L (c : t_S) (a b n : Nat) (L : Nat → Nat) : Prop := n ≤ 8 ∧ ∀ i, i < n → L i < 7934 ∧ c.1 a (b + i) = nI (66 + L i)
def en_V (n g : Nat) (L v : Nat → Nat) : Prop := ∀ X, (∃ i, i < n ∧ L i = X ∧ (∀ k, k < i → L k ≠ X) ∧ v X = g + i) ∨ ((∀ i, i < n → L i ≠ X) ∧ v X = 0)
def en : en_S → t_S → t_S → Prop
  | (hm, cx, td, ba, kn, v), c, r => f_X6_home c = hm ∧ r.1 950 33 = nI cx ∧ cx < 4000 ∧ r.1 950 34 = nI td ∧ td ≤ 8 ∧ c.1 845 15 = nI ba ∧ (ba = if cx = 0 ∨ 3000 ≤ cx then 1 else 0) ∧ c.1 845 16 = nI kn ∧ kn < 2 ^ 31 ∧
    ((c.1 845 12 = -1 ∧ c.1 845 13 = -1 ∧ ∀ X, v X = 0) ∨
     (∃ f n L, f < 40 ∧ c.1 845 12 = nI f ∧ c.1 845 13 = -1 ∧ c.1 440 f = nI n ∧ en_L c 442 (8 * f) n L ∧ en_V n 1 L v) ∨
     (∃ k n L, k < 8 ∧ c.1 845 12 = -1 ∧ c.1 845 13 = nI k ∧ c.1 433 k = nI n ∧ en_L c 434 (8 * k) n L ∧ en_V n 9 L v))
theorem en.fr {E : en_S} {c r c' r' : t_S} {Wc Wr : Nat → Nat → Prop} (h : en E c r) (fc : l2_fr Wc c c') (fr : l2_fr Wr r r') (w1 : ∀ j, 12 ≤ j → j ≤ 16 → ¬ Wc 845 j) (w2 : ∀ b i, 433 ≤ b → b ≤ 442 → ¬ Wc b i) (w3 : ¬ Wr 950 33 ∧ ¬ Wr 950 34) : en E c' r' := by
  obtain ⟨hm, cx, td, ba, kn, v⟩ := E
  obtain ⟨h1, h2, h3, h4, h5, h6, h7, h8, h9, h10⟩ := h
  have e : ∀ j, 12 ≤ j → j ≤ 16 → c'.1 845 j = c.1 845 j := fun j a b => (fc 845 j (w1 j a b)).1
  have g : ∀ b i, 433 ≤ b → b ≤ 442 → c'.1 b i = c.1 b i := fun b i x y => (fc b i (w2 b i x y)).1
  refine ⟨?_, ?_, h3, ?_, h5, ?_, h7, ?_, h9, ?_⟩
  · unfold f_X6_home at *
    rw [e 12 (by decide) (by decide), e 13 (by decide) (by decide)]
    exact h1
  · rw [(fr 950 33 w3.1).1]; exact h2
  · rw [(fr 950 34 w3.2).1]; exact h4
  · rw [e 15 (by decide) (by decide)]; exact h6
  · rw [e 16 (by decide) (by decide)]; exact h8
  · rw [e 12 (by decide) (by decide), e 13 (by decide) (by decide)]
    rcases h10 with h | ⟨f, n, L, a1, a2, a3, a4, ⟨a5, a6⟩, a7⟩ | ⟨k, n, L, a1, a2, a3, a4, ⟨a5, a6⟩, a7⟩
    · exact Or.inl h
    · exact Or.inr (Or.inl ⟨f, n, L, a1, a2, a3, by rw [g 440 f (by decide) (by decide)]; exact a4, ⟨a5, fun i hi => by rw [g 442 _ (by decide) (by decide)]; exact a6 i hi⟩, a7⟩)
    · exact Or.inr (Or.inr ⟨k, n, L, a1, a2, a3, by rw [g 433 k (by decide) (by decide)]; exact a4, ⟨a5, fun i hi => by rw [g 434 _ (by decide) (by decide)]; exact a6 i hi⟩, a7⟩)
/-- a word among n of a row -/
theorem fd_find {c : t_S} {a b n X : Nat} {L : Nat → Nat} (ha : t_oka a 1 (t_ln a) = true) (hb : b + 8 ≤ t_ln a) (hl : t_ln a < 2 ^ 31) (h : en_L c a b n L) (hX : X < 7934) : t_hk (f_X5_find a (nI b) (nI n) (nI (66 + X)) c) (fun y => (∃ i, i < n ∧ y = nI i ∧ L i = X ∧ ∀ k, k < i → L k ≠ X) ∨ (y = -1 ∧ ∀ i, i < n → L i ≠ X)) := by
  obtain ⟨h1, h2⟩ := h
  unfold f_X5_find
  refine l2_lp (fun w y => ∃ j, j + w = n ∧ y = (a, nI b, nI n, nI (66 + X), nI j) ∧ ∀ k, k < j → L k ≠ X) ?_ (m := n) (Nat.lt_trans (show n < 1000000000 by omega) l2_N) ⟨0, by omega, rfl, fun k hk => by omega⟩
  rintro w y ⟨j, hj, rfl, hn⟩
  show t_hk (k_X5_find_3 a (nI b) (nI n) (nI (66 + X)) (nI j) c) _
  unfold k_X5_find_3
  by_cases z : n ≤ j
  · refine l2_ck (nI_le z (by omega)) (l2_mp (l2_sm (Or.inr ⟨rfl, fun i hi => hn i (by omega)⟩)))
  · refine l2_no (nI_ge (by omega) (by omega)) (l2_ck ha ?_)
    rw [nI_add]
    refine l2_ck (l2_ix (by omega) hl) ?_
    rw [nI_clamp (by omega), (h2 j (by omega)).2]
    by_cases q : L j = X
    · refine l2_ck (by rw [q]) (l2_mp (l2_sm (Or.inl ⟨j, by omega, rfl, q, hn⟩)))
    · refine l2_no (fun e => q ?_) (l2_sm ⟨w - 1, by omega, j + 1, by omega, ?_, fun k hk => ?_⟩)
      · have := (nI_eq (by have := (h2 j (by omega)).1; omega) (by omega)).mp e
        omega
      · rw [nI_1]
      · by_cases e : k = j
        · rw [e]; exact q
        · exact hn k (by omega)
/-- an entry among the links: its sort so, home hm, the word of node k, at place pl -/
def w_en (hm : Int32) (c r : t_S) (e k so : Nat) (pl : Int32) : Prop := ∃ X, X < 7934 ∧ c.1 849 e = nI so ∧ c.1 850 e = nI (66 + X) ∧ r.2.1 957 k = lN X ∧ c.1 848 e = pl ∧ c.1 851 e = hm
/-- an exp's word: operation i, node k -/
def wn_R : en_S → t_S → t_S → Nat → Nat → Nat → Nat → Prop
  | (hm, cx, td, _, _, v), c, r, l, l', i, k => ∃ X, X < 7934 ∧ r.2.1 957 k = lN X ∧ r.2.1 958 k = lN cx ∧ r.1 961 k = nI td ∧ ((1 ≤ v X ∧ v X ≤ 8 ∧ px_o c i 3 (nI (v X - 1))) ∨ (9 ≤ v X ∧ v X ≤ 16 ∧ px_o c i 4 (nI (v X - 9))) ∨ (v X = 0 ∧ px_o c i 2 (nI (66 + X)) ∧ ∃ e, l ≤ e ∧ e < l' ∧ w_en hm c r e k 12 (r.1 956 k) ∧ c.1 852 e = nI i))
def an_R : en_S → t_S → t_S → Nat → Nat → Nat → Nat → Prop
  | (hm, cx, _, _, _, _), c, r, l, l', i, k => r.2.1 958 k = lN cx ∧ ∃ e, l ≤ e ∧ e < l' ∧ w_en hm c r e k 7 (r.1 961 k) ∧ c.1 852 e = nI i
def tn_R : en_S → t_S → t_S → Nat → Nat → Nat → Nat → Prop
  | (hm, _, _, _, _, _), c, r, l, l', t, k => c.1 354 t = 6 ∧ ∃ e, l ≤ e ∧ e < l' ∧ w_en hm c r e k 13 (r.1 956 k) ∧ c.1 852 e = nI t ∧ c.1 357 t = c.1 850 e
def sn_R (c : t_S) (t _k : Nat) : Prop := c.1 354 t = 17 ∧ c.2.1 362 t = 0
/-- a word of an exp, in the class -/
theorem en_word {E : en_S} {c r : t_S} {e l X : Nat} (h : en E c r) (h2 : c.1 334 2 = nI e) (he : e < 16000) (h6 : c.1 846 6 = nI l) (hl : l < 6002) (h10 : c.2.1 1 10 = lN (66 + X)) (hX : X < 7934) : t_hk (f_X6_emitWord c) (fun c' => l2_fr (fun b j => (b = 334 ∧ j = 2) ∨ ((b = 335 ∨ b = 336) ∧ j = e) ∨ (b = 846 ∧ j = 6) ∨ (848 ≤ b ∧ b ≤ 853 ∧ j = l)) c c' ∧ c'.1 334 2 = nI (e + 1) ∧ (((1 ≤ E.2.2.2.2.2 X ∧ E.2.2.2.2.2 X ≤ 8 ∧ px_o c' e 3 (nI (E.2.2.2.2.2 X - 1))) ∨ (9 ≤ E.2.2.2.2.2 X ∧ E.2.2.2.2.2 X ≤ 16 ∧ px_o c' e 4 (nI (E.2.2.2.2.2 X - 9)))) ∧ c'.1 846 6 = nI l ∨ (E.2.2.2.2.2 X = 0 ∧ px_o c' e 2 (nI (66 + X)) ∧ c'.1 846 6 = nI (l + 1) ∧ c'.1 848 l = c.1 1 9 ∧ c'.1 849 l = nI 12 ∧ c'.1 850 l = nI (66 + X) ∧ c'.1 851 l = E.1 ∧ c'.1 852 l = nI e))) := by
  obtain ⟨hm, cx, td, ba, kn, v⟩ := E
  obtain ⟨h1, _, _, _, _, _, _, _, _, h11⟩ := h
  have w : f_X2_word c = nI (66 + X) := by
    unfold f_X2_word
    rw [h10]
    exact lN_i _
  show t_hk _ (fun c' => _ ∧ _ ∧ (((1 ≤ v X ∧ v X ≤ 8 ∧ px_o c' e 3 (nI (v X - 1))) ∨ (9 ≤ v X ∧ v X ≤ 16 ∧ px_o c' e 4 (nI (v X - 9)))) ∧ c'.1 846 6 = nI l ∨ (v X = 0 ∧ px_o c' e 2 (nI (66 + X)) ∧ c'.1 846 6 = nI (l + 1) ∧ c'.1 848 l = c.1 1 9 ∧ c'.1 849 l = nI 12 ∧ c'.1 850 l = nI (66 + X) ∧ c'.1 851 l = hm ∧ c'.1 852 l = nI e)))
  have m1 : (-1 : Int32) < 0 := by decide
  have none : v X = 0 → t_hk (k_X6_emitWord_55 (nI (66 + X)) (-1) (-1) c) (fun c' => l2_fr (fun b j => (b = 334 ∧ j = 2) ∨ ((b = 335 ∨ b = 336) ∧ j = e) ∨ (b = 846 ∧ j = 6) ∨ (848 ≤ b ∧ b ≤ 853 ∧ j = l)) c c' ∧ c'.1 334 2 = nI (e + 1) ∧ (((1 ≤ v X ∧ v X ≤ 8 ∧ px_o c' e 3 (nI (v X - 1))) ∨ (9 ≤ v X ∧ v X ≤ 16 ∧ px_o c' e 4 (nI (v X - 9)))) ∧ c'.1 846 6 = nI l ∨ (v X = 0 ∧ px_o c' e 2 (nI (66 + X)) ∧ c'.1 846 6 = nI (l + 1) ∧ c'.1 848 l = c.1 1 9 ∧ c'.1 849 l = nI 12 ∧ c'.1 850 l = nI (66 + X) ∧ c'.1 851 l = hm ∧ c'.1 852 l = nI e))) := by
    intro v0
    unfold k_X6_emitWord_55
    refine l2_ck m1 (l2_ck m1 (l2_bd _ (em_emit 2 (nI (66 + X)) h2 he) (fun y hy => ?_)))
    obtain ⟨y1, y2, y3, y4, y5⟩ := hy
    rw [y1, h1]
    refine l2_bd _ (ln_add (l := l) (by rw [(y2 846 6 (by omega)).1]; exact h6) hl) (fun c' hc => l2_sm ?_)
    obtain ⟨z1, z2, z3, z4, z5, z6, z7, z8⟩ := hc
    refine ⟨(y2.mono (fun b j y => by omega)).trans (z1.mono (fun b j y => by omega)), by rw [(z1 334 2 (by omega)).1]; exact y3, Or.inr ⟨v0, ⟨?_, ?_⟩, z2, z3, z4, z5, z6, z7⟩⟩
    · rw [(z1 335 e (by omega)).1]; exact y4
    · rw [(z1 336 e (by omega)).1]; exact y5
  unfold f_X6_emitWord
  rw [w]
  rcases h11 with ⟨a1, a2, a3⟩ | ⟨f, n, L, a1, a2, a3, a4, a5, a6⟩ | ⟨k, n, L, a1, a2, a3, a4, a5, a6⟩
  · rw [a1]
    refine l2_ck m1 ?_
    unfold k_X6_emitWord_31
    rw [a2]
    exact l2_ck m1 (none (a3 X))
  · rw [a2]
    refine l2_no (nI_pos (by omega)) ?_
    unfold f_X5_placeOf
    rw [if_pos (nI_pos' (by omega)), if_pos (l2_ix a1 (by decide)), nI_clamp (by omega), a4, show nI f * (8 : Int32) = nI (8 * f) from (pk_mul f 8).trans (by rw [Nat.mul_comm])]
    have nn := a5.1
    refine l2_bd _ (l2_bd _ (fd_find (a := 442) (b := 8 * f) rfl (show 8 * f + 8 ≤ 320 by omega) (by decide) a5 hX) (fun y hy => l2_sm hy)) (fun y hy => ?_)
    unfold k_X6_emitWord_31
    rw [a3]
    refine l2_ck m1 ?_
    rcases hy with ⟨i, i1, rfl, i3, i4⟩ | ⟨rfl, no⟩
    · have vX : v X = 1 + i := by
        rcases a6 X with ⟨j, j1, j2, j3, j4⟩ | ⟨q, _⟩
        · have : i = j := by
            by_cases z : i < j
            · exact absurd i3 (j3 i z)
            · by_cases z2 : j < i
              · exact absurd j2 (i4 j z2)
              · omega
          rw [this]; exact j4
        · exact absurd i3 (q i i1)
      unfold k_X6_emitWord_55
      refine l2_no (nI_pos (by omega)) (l2_bd _ (em_emit 3 (nI i) h2 he) (fun y hy => l2_sm ?_))
      obtain ⟨y1, y2, y3, y4, y5⟩ := hy
      refine ⟨y2.mono (fun b j y => by omega), y3, Or.inl ⟨Or.inl ⟨by omega, by omega, y4, ?_⟩, by rw [(y2 846 6 (by omega)).1]; exact h6⟩⟩
      rw [y5, vX, show 1 + i - 1 = i by omega]
    · refine none ?_
      rcases a6 X with ⟨j, j1, j2, _⟩ | ⟨_, q⟩
      · exact absurd j2 (no j j1)
      · exact q
  · rw [a2]
    refine l2_ck m1 ?_
    unfold k_X6_emitWord_31
    rw [a3]
    refine l2_no (nI_pos (by omega)) ?_
    unfold f_X5_varOf
    rw [if_pos (nI_pos' (by omega)), if_pos (l2_ix a1 (by decide)), nI_clamp (by omega), a4, show nI k * (8 : Int32) = nI (8 * k) from (pk_mul k 8).trans (by rw [Nat.mul_comm])]
    have nn := a5.1
    refine l2_bd _ (l2_bd _ (fd_find (a := 434) (b := 8 * k) rfl (show 8 * k + 8 ≤ 64 by omega) (by decide) a5 hX) (fun y hy => l2_sm hy)) (fun y hy => ?_)
    rcases hy with ⟨i, i1, rfl, i3, i4⟩ | ⟨rfl, no⟩
    · have vX : v X = 9 + i := by
        rcases a6 X with ⟨j, j1, j2, j3, j4⟩ | ⟨q, _⟩
        · have : i = j := by
            by_cases z : i < j
            · exact absurd i3 (j3 i z)
            · by_cases z2 : j < i
              · exact absurd j2 (i4 j z2)
              · omega
          rw [this]; exact j4
        · exact absurd i3 (q i i1)
      unfold k_X6_emitWord_55
      refine l2_ck m1 (l2_no (nI_pos (by omega)) (l2_bd _ (em_emit 4 (nI i) h2 he) (fun y hy => l2_sm ?_)))
      obtain ⟨y1, y2, y3, y4, y5⟩ := hy
      refine ⟨y2.mono (fun b j y => by omega), y3, Or.inl ⟨Or.inr ⟨by omega, by omega, y4, ?_⟩, by rw [(y2 846 6 (by omega)).1]; exact h6⟩⟩
      rw [y5, vX, show 9 + i - 9 = i by omega]
    · refine none ?_
      rcases a6 X with ⟨j, j1, j2, _⟩ | ⟨_, q⟩
      · exact absurd j2 (no j j1)
      · exact q
