/-! Level 2: blanks and notes between tokens, on both sides. -/
def lx_bl (c : Nat) : Bool := c == 9 || c == 13 || c == 32
def lx_sf (B : Nat → Nat) (L : Nat) : Nat → Bool → Nat → Nat
  | 0, _, p => p
  | f + 1, n, p => if p < L then (if B p = 10 then lx_sf B L f false (p + 1) else if B p = 35 then lx_sf B L f true (p + 1) else if n = true then lx_sf B L f n (p + 1) else if lx_bl (B p) = true then lx_sf B L f n (p + 1) else p) else p
/-- where the next token begins, or the text ends -/
def lx_s (B : Nat → Nat) (L : Nat) (n : Bool) (p : Nat) : Nat := lx_sf B L (L - p) n p
theorem lx_s_eq (B : Nat → Nat) (L : Nat) (n : Bool) (p : Nat) : lx_s B L n p = if p < L then (if B p = 10 then lx_s B L false (p + 1) else if B p = 35 then lx_s B L true (p + 1) else if n = true then lx_s B L n (p + 1) else if lx_bl (B p) = true then lx_s B L n (p + 1) else p) else p := by
  unfold lx_s
  by_cases h : p < L
  · rw [show L - p = (L - (p + 1)) + 1 by omega]
    rfl
  · rw [show L - p = 0 by omega, if_neg h]
    rfl
theorem lx_s_end {B : Nat → Nat} {L : Nat} {n : Bool} {p : Nat} (h : L ≤ p) : lx_s B L n p = p := by
  rw [lx_s_eq, if_neg (by omega)]
theorem lx_s_10 {B : Nat → Nat} {L : Nat} {n : Bool} {p : Nat} (h : p < L) (c : B p = 10) : lx_s B L n p = lx_s B L false (p + 1) := by
  rw [lx_s_eq, if_pos h, if_pos c]
theorem lx_s_35 {B : Nat → Nat} {L : Nat} {n : Bool} {p : Nat} (h : p < L) (c : B p = 35) : lx_s B L n p = lx_s B L true (p + 1) := by
  rw [lx_s_eq, if_pos h, if_neg (by omega), if_pos c]
theorem lx_s_n {B : Nat → Nat} {L : Nat} {p : Nat} (h : p < L) (c : B p ≠ 10) : lx_s B L true p = lx_s B L true (p + 1) := by
  by_cases d : B p = 35
  · exact lx_s_35 h d
  · rw [lx_s_eq, if_pos h, if_neg c, if_neg d, if_pos rfl]
theorem lx_s_b {B : Nat → Nat} {L : Nat} {p : Nat} (h : p < L) (c : lx_bl (B p) = true) : lx_s B L false p = lx_s B L false (p + 1) := by
  have q : B p = 9 ∨ B p = 13 ∨ B p = 32 := by
    simp only [lx_bl, Bool.or_eq_true, beq_iff_eq] at c
    omega
  rw [lx_s_eq, if_pos h, if_neg (by omega), if_neg (by omega), if_neg (by decide), if_pos c]
theorem lx_s_t {B : Nat → Nat} {L : Nat} {p : Nat} (h : p < L) (c1 : B p ≠ 10) (c2 : B p ≠ 35) (c : lx_bl (B p) = false) : lx_s B L false p = p := by
  rw [lx_s_eq, if_pos h, if_neg c1, if_neg c2, if_neg (by decide), if_neg (by rw [c]; decide)]
theorem lx_s_ge {B : Nat → Nat} {L : Nat} : ∀ (k p : Nat) (n : Bool), L - p = k → p ≤ lx_s B L n p := by
  intro k
  induction k with
  | zero => intro p n h; rw [lx_s_end (by omega)]; exact Nat.le_refl _
  | succ k ih =>
    intro p n h
    have a := fun m => ih (p + 1) m (by omega)
    rw [lx_s_eq, if_pos (by omega)]
    split
    · have := a false; omega
    · split
      · have := a true; omega
      · split
        · have := a n; omega
        · split
          · have := a n; omega
          · exact Nat.le_refl _
theorem lx_s_le {B : Nat → Nat} {L : Nat} : ∀ (k p : Nat) (n : Bool), L - p = k → p ≤ L → lx_s B L n p ≤ L := by
  intro k
  induction k with
  | zero => intro p n h hp; rw [lx_s_end (by omega)]; exact hp
  | succ k ih =>
    intro p n h hp
    have a := fun m => ih (p + 1) m (by omega) (by omega)
    rw [lx_s_eq, if_pos (by omega)]
    split
    · exact a false
    · split
      · exact a true
      · split
        · exact a n
        · split
          · exact a n
          · exact hp
/-- the class's text -/
def tx_Tc (s : t_S) (B : Nat → Nat) (L : Nat) : Prop := L ≤ 12000 ∧ s.1 1 1 = nI L ∧ ∀ i, i < L → B i < 256 ∧ s.1 2 i = tx_c (B i)
/-- the reference's text -/
def tx_Tr (s : t_S) (B : Nat → Nat) (L : Nat) : Prop := L ≤ 12000 ∧ s.1 950 1 = nI L ∧ ∀ i, i < L → B i < 256 ∧ s.1 951 i = nI (B i)
theorem tx_255 {b : Nat} (h : b < 256) : tx_c b &&& 255 = nI b := sc_k8 b h
theorem tx_Tc.fr {W : Nat → Nat → Prop} {s s' : t_S} {B : Nat → Nat} {L : Nat} (h : tx_Tc s B L) (f : l2_fr W s s') (w1 : ¬ W 1 1) (w2 : ∀ i, ¬ W 2 i) : tx_Tc s' B L := by
  refine ⟨h.1, ?_, fun i hi => ⟨(h.2.2 i hi).1, ?_⟩⟩
  · rw [(f 1 1 w1).1]; exact h.2.1
  · rw [(f 2 i (w2 i)).1]; exact (h.2.2 i hi).2
theorem tx_Tr.fr {W : Nat → Nat → Prop} {s s' : t_S} {B : Nat → Nat} {L : Nat} (h : tx_Tr s B L) (f : l2_fr W s s') (w1 : ¬ W 950 1) (w2 : ∀ i, ¬ W 951 i) : tx_Tr s' B L := by
  refine ⟨h.1, ?_, fun i hi => ⟨(h.2.2 i hi).1, ?_⟩⟩
  · rw [(f 950 1 w1).1]; exact h.2.1
  · rw [(f 951 i (w2 i)).1]; exact (h.2.2 i hi).2
def lx_Wa (b j : Nat) : Prop := b = 1 ∧ j = 2
def lx_Wr (b j : Nat) : Prop := b = 950 ∧ j = 4
/-- only a field of an object changes -/
theorem l2_fr.one {a k : Nat} {s : t_S} {v : Int32} : l2_fr (fun b j => b = a ∧ j = k) s (t_setI s a k v) := l2_fr.set ⟨rfl, rfl⟩
theorem l2_eqI {n c : Nat} (hn : n < 2 ^ 31) (hc : c < 2 ^ 31) : (nI n = nI c) ↔ n = c := nI_eq hn hc
theorem lx_skip {s : t_S} {B : Nat → Nat} {L p : Nat} (hT : tx_Tc s B L) (hp : p ≤ L) (h : s.1 1 2 = nI p) : t_hk (f_X2_skipBlanks s) (fun s' => s'.1 1 2 = nI (lx_s B L false p) ∧ l2_fr lx_Wa s s') := by
  have hL := hT.1
  unfold f_X2_skipBlanks
  refine l2_lp (fun k y => ∃ q n s1, q + k = L ∧ y = ((if n = true then (1 : Int32) else 0), s1) ∧ s1.1 1 2 = nI q ∧ lx_s B L n q = lx_s B L false p ∧ l2_fr lx_Wa s s1) ?_ (m := L - p) (Nat.lt_trans (show L - p < 1000000000 by omega) l2_N) ⟨p, false, s, by omega, rfl, h, rfl, l2_fr.rf⟩
  rintro k y ⟨q, n, s1, hk, rfl, h1, h2, h3⟩
  have hT1 := hT.fr h3 (by unfold lx_Wa; omega) (fun i => by unfold lx_Wa; omega)
  show t_hk (k_X2_skipBlanks_2 (if n = true then (1 : Int32) else 0) s1) _
  unfold k_X2_skipBlanks_2
  rw [hT1.2.1, h1]
  refine l2_if (fun c => ?_) (fun c => ?_)
  · have c := (nI_leI (by omega) (by omega)).mp c
    refine l2_mp (l2_sm ⟨?_, h3⟩)
    rw [← h2, lx_s_end c]
    exact h1
  have c : ¬ L ≤ q := fun z => c ((nI_leI (by omega) (by omega)).mpr z)
  refine l2_ck (l2_ix (by omega) (by decide)) ?_
  obtain ⟨b1, b2⟩ := hT1.2.2 q (by omega)
  rw [nI_clamp (by omega), b2, tx_255 b1]
  have go : ∀ (m : Bool) (v : Int32), v = (if m = true then (1 : Int32) else 0) → lx_s B L n q = lx_s B L m (q + 1) → t_hk (k_X2_skipBlanks_72 v s1) (l2_nx (fun z => ∃ j, j < k ∧ ∃ q n s1, q + j = L ∧ z = ((if n = true then (1 : Int32) else 0), s1) ∧ s1.1 1 2 = nI q ∧ lx_s B L n q = lx_s B L false p ∧ l2_fr lx_Wa s s1) (fun s' => s'.1 1 2 = nI (lx_s B L false p) ∧ l2_fr lx_Wa s s')) := by
    rintro m v rfl hm
    unfold k_X2_skipBlanks_72
    rw [h1, nI_1]
    refine l2_lt (l2_sm ⟨k - 1, by omega, q + 1, m, _, by omega, rfl, ?_, by rw [← hm]; exact h2, h3.trans l2_fr.one⟩)
    rw [l2_sI, mj_up_eq]
  refine l2_if (fun d => ?_) (fun d => ?_)
  · have d := (l2_eqI (c := 10) (by omega) (by decide)).mp d
    exact go false 0 rfl (lx_s_10 (by omega) d)
  have d : B q ≠ 10 := fun z => d ((l2_eqI (c := 10) (by omega) (by decide)).mpr z)
  refine l2_if (fun e => ?_) (fun e => ?_)
  · have e := (l2_eqI (c := 35) (by omega) (by decide)).mp e
    exact go true 1 rfl (lx_s_35 (by omega) e)
  have e : B q ≠ 35 := fun z => e ((l2_eqI (c := 35) (by omega) (by decide)).mpr z)
  cases n with
  | true =>
    refine l2_no (by decide) ?_
    exact go true _ rfl (lx_s_n (by omega) d)
  | false =>
    refine l2_ck (by decide) ?_
    have bl : ∀ c : Nat, B q = c → lx_bl c = true → t_hk (k_X2_skipBlanks_72 (if false = true then (1 : Int32) else 0) s1) _ := fun c hc hb => go false _ rfl (lx_s_b (by omega) (by rw [hc]; exact hb))
    refine l2_if (fun f => ?_) (fun f => ?_)
    · exact bl 9 ((l2_eqI (c := 9) (by omega) (by decide)).mp f) rfl
    have f : B q ≠ 9 := fun z => f ((l2_eqI (c := 9) (by omega) (by decide)).mpr z)
    refine l2_if (fun g => ?_) (fun g => ?_)
    · exact bl 13 ((l2_eqI (c := 13) (by omega) (by decide)).mp g) rfl
    have g : B q ≠ 13 := fun z => g ((l2_eqI (c := 13) (by omega) (by decide)).mpr z)
    refine l2_if (fun i => ?_) (fun i => ?_)
    · exact bl 32 ((l2_eqI (c := 32) (by omega) (by decide)).mp i) rfl
    have i : B q ≠ 32 := fun z => i ((l2_eqI (c := 32) (by omega) (by decide)).mpr z)
    refine l2_mp (l2_sm ⟨?_, h3⟩)
    rw [← h2, lx_s_t (by omega) d e (by
      unfold lx_bl
      rw [beq_eq_false_iff_ne.mpr f, beq_eq_false_iff_ne.mpr g, beq_eq_false_iff_ne.mpr i]
      rfl)]
    exact h1
/-- what the reference's look at a place says: the byte as a number, - 1 behind the end -/
theorem lx_peek {s : t_S} {B : Nat → Nat} {L p : Nat} (hT : tx_Tr s B L) (hp : p < 2 ^ 30) : f_X13_peek (nI p) s = some (if p < L then nI (B p) else -1) := by
  have hL := hT.1
  unfold f_X13_peek
  rw [hT.2.1]
  by_cases c : p < L
  · rw [if_neg (nI_ge c (by omega)), if_pos (l2_ix (by omega) (by decide)), nI_clamp (by omega), (hT.2.2 p c).2, if_pos c]
  · rw [if_pos (nI_le (by omega) (by omega)), if_neg c]
theorem lx_rskip {s : t_S} {B : Nat → Nat} {L p : Nat} (hT : tx_Tr s B L) (hp : p ≤ L) (h : s.1 950 4 = nI p) : t_hk (f_X13_skip s) (fun s' => s'.1 950 4 = nI (lx_s B L false p) ∧ l2_fr lx_Wr s s') := by
  have hL := hT.1
  unfold f_X13_skip
  refine l2_lp (fun k y => ∃ (q : Nat) (n : Bool) (s1 : t_S), q ≤ L ∧ 2 * (L - q) + (if n = true then 1 else 0) = k ∧ y = ((if n = true then (1 : Int32) else 0), s1) ∧ s1.1 950 4 = nI q ∧ (n = true → lx_s B L false q = lx_s B L false p) ∧ (n = false → q = lx_s B L false p) ∧ l2_fr lx_Wr s s1) ?_ (m := 2 * (L - p) + 1) (Nat.lt_trans (show 2 * (L - p) + 1 < 1000000000 by omega) l2_N) ⟨p, true, s, hp, rfl, rfl, h, fun _ => rfl, (fun z => by cases z), l2_fr.rf⟩
  rintro k y ⟨q, n, s1, hq, hk, rfl, h1, h2, h4, h3⟩
  show t_hk (k_X13_skip_2 (if n = true then (1 : Int32) else 0) s1) _
  unfold k_X13_skip_2
  cases n with
  | false =>
    refine l2_ck (by decide) (l2_mp (l2_sm ⟨?_, h3⟩))
    rw [← h4 rfl]
    exact h1
  | true =>
    have h2 := h2 rfl
    have hT1 := hT.fr h3 (by unfold lx_Wr; omega) (fun i => by unfold lx_Wr; omega)
    refine l2_no (by decide) ?_
    rw [h1]
    refine l2_eq (lx_peek hT1 (by omega)) ?_
    by_cases c : q < L
    · rw [if_pos c]
      obtain ⟨b1, b2⟩ := hT1.2.2 q c
      have eqs : ∀ c : Nat, c < 256 → (nI (B q) = nI c ↔ B q = c) := fun c hc => l2_eqI (by omega) (by omega)
      have step : lx_s B L false q = lx_s B L false (q + 1) → B q ≠ 35 → t_hk (k_X13_skip_50 (nI (B q)) 1 s1) (l2_nx (fun z => ∃ j, j < k ∧ ∃ (q : Nat) (n : Bool) (s1 : t_S), q ≤ L ∧ 2 * (L - q) + (if n = true then 1 else 0) = j ∧ z = ((if n = true then (1 : Int32) else 0), s1) ∧ s1.1 950 4 = nI q ∧ (n = true → lx_s B L false q = lx_s B L false p) ∧ (n = false → q = lx_s B L false p) ∧ l2_fr lx_Wr s s1) (fun s' => s'.1 950 4 = nI (lx_s B L false p) ∧ l2_fr lx_Wr s s')) := by
        intro e ne
        unfold k_X13_skip_50
        refine l2_no (fun z => ne ((eqs 35 (by decide)).mp z)) (l2_no l2_10 (l2_lt ?_))
        rw [h1, nI_1]
        refine l2_sm ⟨2 * (L - (q + 1)) + 1, by rw [if_pos rfl] at hk; omega, q + 1, true, _, by omega, rfl, rfl, ?_, (fun _ => by rw [← e]; exact h2), (fun z => by cases z), h3.trans l2_fr.one⟩
        rw [l2_sI, mj_up_eq]
      refine l2_if (fun d => ?_) (fun d => ?_)
      · have d := (eqs 9 (by decide)).mp d
        exact step (lx_s_b c (by rw [d]; rfl)) (by omega)
      have d : B q ≠ 9 := fun z => d ((eqs 9 (by decide)).mpr z)
      refine l2_if (fun e => ?_) (fun e => ?_)
      · have e := (eqs 10 (by decide)).mp e
        exact step (lx_s_10 c e) (by omega)
      have e : B q ≠ 10 := fun z => e ((eqs 10 (by decide)).mpr z)
      refine l2_if (fun f => ?_) (fun f => ?_)
      · have f := (eqs 13 (by decide)).mp f
        exact step (lx_s_b c (by rw [f]; rfl)) (by omega)
      have f : B q ≠ 13 := fun z => f ((eqs 13 (by decide)).mpr z)
      refine l2_if (fun g => ?_) (fun g => ?_)
      · have g := (eqs 32 (by decide)).mp g
        exact step (lx_s_b c (by rw [g]; rfl)) (by omega)
      have g : B q ≠ 32 := fun z => g ((eqs 32 (by decide)).mpr z)
      refine l2_if (fun i => ?_) (fun i => ?_)
      · have i := (eqs 35 (by decide)).mp i
        unfold k_X13_skip_45 k_X13_skip_50
        refine l2_ck (by rw [i]; rfl) ?_
        refine l2_lp (fun w y => ∃ (u : Nat) (s2 : t_S), u + w = L ∧ q ≤ u ∧ y = ((1 : Int32), s2) ∧ s2.1 950 4 = nI u ∧ lx_s B L true u = lx_s B L false p ∧ (u = q → B u = 35) ∧ l2_fr lx_Wr s s2) ?_ (m := L - q) (Nat.lt_trans (show L - q < 1000000000 by omega) l2_N) ⟨q, s1, by omega, Nat.le_refl _, rfl, h1, ?_, fun _ => i, h3⟩
        · rintro w y ⟨u, s2, hu, hqu, rfl, g1, g2, g4, g3⟩
          have hT2 := hT.fr g3 (by unfold lx_Wr; omega) (fun i => by unfold lx_Wr; omega)
          show t_hk (k_X13_skip_57 (1 : Int32) s2) _
          unfold k_X13_skip_57
          rw [hT2.2.1, g1]
          have out : q < u → lx_s B L false u = lx_s B L true u → t_hk ((some (Sum.inl ((1 : Int32), s2))).map Sum.inr) (l2_nx (fun z => ∃ j, j < w ∧ ∃ (u : Nat) (s2 : t_S), u + j = L ∧ q ≤ u ∧ z = ((1 : Int32), s2) ∧ s2.1 950 4 = nI u ∧ lx_s B L true u = lx_s B L false p ∧ (u = q → B u = 35) ∧ l2_fr lx_Wr s s2) (l2_nx (fun z => ∃ j, j < k ∧ ∃ (q : Nat) (n : Bool) (s1 : t_S), q ≤ L ∧ 2 * (L - q) + (if n = true then 1 else 0) = j ∧ z = ((if n = true then (1 : Int32) else 0), s1) ∧ s1.1 950 4 = nI q ∧ (n = true → lx_s B L false q = lx_s B L false p) ∧ (n = false → q = lx_s B L false p) ∧ l2_fr lx_Wr s s1) (fun s' => s'.1 950 4 = nI (lx_s B L false p) ∧ l2_fr lx_Wr s s'))) := by
            intro hlt e2
            refine l2_mp (l2_sm ⟨2 * (L - u) + 1, by rw [if_pos rfl] at hk; omega, u, true, s2, by omega, rfl, rfl, g1, (fun _ => by rw [e2]; exact g2), (fun z => by cases z), g3⟩)
          refine l2_if (fun z => ?_) (fun z => ?_)
          · have z := (nI_leI (by omega) (by omega)).mp z
            exact out (by omega) (by rw [lx_s_end z, lx_s_end z])
          have z : ¬ L ≤ u := fun y => z ((nI_leI (by omega) (by omega)).mpr y)
          refine l2_ck (l2_ix (by omega) (by decide)) ?_
          obtain ⟨b3, b4⟩ := hT2.2.2 u (by omega)
          rw [nI_clamp (by omega), b4]
          refine l2_if (fun x => ?_) (fun x => ?_)
          · have x := (l2_eqI (c := 10) (by omega) (by decide)).mp x
            refine out ?_ (by rw [lx_s_10 (by omega) x, lx_s_10 (by omega) x])
            by_cases v : u = q
            · have := g4 v; omega
            · omega
          have x : B u ≠ 10 := fun y => x ((l2_eqI (c := 10) (by omega) (by decide)).mpr y)
          rw [nI_1]
          refine l2_lt (l2_sm ⟨w - 1, by omega, u + 1, _, by omega, by omega, rfl, ?_, ?_, fun v => by omega, g3.trans l2_fr.one⟩)
          · rw [l2_sI, mj_up_eq]
          · rw [← lx_s_n (by omega) x]
            exact g2
        · rw [lx_s_n c e, ← lx_s_35 (n := false) c i]
          exact h2
      · have i : B q ≠ 35 := fun z => i ((eqs 35 (by decide)).mpr z)
        unfold k_X13_skip_50
        refine l2_no (fun z => i ((eqs 35 (by decide)).mp z)) (l2_ck rfl ?_)
        refine l2_sm ⟨2 * (L - q), by rw [if_pos rfl] at hk; omega, q, false, s1, hq, rfl, rfl, h1, (fun z => by cases z), fun _ => ?_, h3⟩
        rw [← h2, lx_s_t c e i (by
          unfold lx_bl
          rw [beq_eq_false_iff_ne.mpr d, beq_eq_false_iff_ne.mpr f, beq_eq_false_iff_ne.mpr g]
          rfl)]
    · rw [if_neg c]
      unfold k_X13_skip_50
      refine l2_no (by decide) (l2_no (by decide) (l2_no (by decide) (l2_no (by decide) (l2_no (by decide) (l2_no (by decide) (l2_ck rfl ?_))))))
      refine l2_sm ⟨2 * (L - q), by rw [if_pos rfl] at hk; omega, q, false, s1, hq, rfl, rfl, h1, (fun z => by cases z), fun _ => ?_, h3⟩
      rw [← h2, lx_s_end (by omega)]
