/-! Level 2: the small steps of both parsers: is it this token; it must be; a node; a name. -/
theorem sg_inj : ∀ v, v < 126 → ∀ x, x < 126 → ((33 ≤ v ∧ v ≤ 125) ∨ (10 ≤ v ∧ v ≤ 17)) → ((33 ≤ x ∧ x ≤ 125) ∨ (10 ≤ x ∧ x ≤ 17)) → sg v = sg x → v = x := by
  intro v _ x _ a b h
  unfold sg at h
  repeat' split at h
  all_goals omega
theorem sg_lt {v : Nat} (h : v < 126) : sg v < 70000 := by
  unfold sg
  repeat' split
  all_goals omega
theorem pv_inj : ∀ i, i < 66 → ∀ j, j < 66 → pv i = pv j → i = j := by decide +kernel
/-- a sign -/
theorem jt_is {c r : t_S} {B : Nat → Nat} {L W n u : Nat} {V sl : Nat → Nat} {H : Nat → Int64} {T : Nat → Int32} (h : jt_A c r B L W V sl H T n u) {x : Nat} (hx : (33 ≤ x ∧ x ≤ 125) ∨ (10 ≤ x ∧ x ≤ 17)) : (c.1 1 8 = nI x ∧ f_X13_is (nI (sg x)) r = 1) ∨ (c.1 1 8 ≠ nI x ∧ f_X13_is (nI (sg x)) r = 0) := by
  obtain ⟨hc, hr, hR, ht⟩ := h
  unfold ts_A at ht
  unfold f_X13_is
  have ne : ∀ v : Nat, v < 300 → v ≠ x → nI v ≠ nI x := fun v hv e y => e ((nI_eq (by omega) (by omega)).mp y)
  rcases ht with ⟨a, b⟩ | ⟨i, a, b, d, e, _⟩ | ⟨i, m, a1, a2, a3, a4, a5, a6, a7, a8, a9, a10, a11, a12, a13⟩ | ⟨v, _, a, _, b, _⟩ | ⟨v, _, _, _, a, _, b, _⟩ | ⟨v, a, b, d, _, e⟩
  · rw [a, b, if_neg (by decide)]
    exact Or.inr ⟨ne 4 (by decide) (by omega), rfl⟩
  · rw [b, e, if_neg (by decide)]
    exact Or.inr ⟨ne _ (by omega) (by omega), rfl⟩
  · rw [a9, a11, if_neg (by decide)]
    exact Or.inr ⟨ne 1 (by decide) (by omega), rfl⟩
  · rw [a, b, if_neg (by decide)]
    exact Or.inr ⟨ne 2 (by decide) (by omega), rfl⟩
  · rw [a, b, if_neg (by decide)]
    exact Or.inr ⟨ne 3 (by decide) (by omega), rfl⟩
  · rw [b, d, e, if_pos rfl]
    have s1 := sg_lt (v := v) (by omega)
    have s2 := sg_lt (v := x) (by omega)
    by_cases y : v = x
    · subst y
      rw [if_pos rfl]
      exact Or.inl ⟨rfl, rfl⟩
    · rw [if_neg (fun z => y (sg_inj v (by omega) x (by omega) a hx ((nI_eq (by omega) (by omega)).mp z)))]
      exact Or.inr ⟨ne v (by omega) y, rfl⟩
/-- a reserved word -/
theorem jt_isW {c r : t_S} {B : Nat → Nat} {L W n u : Nat} {V sl : Nat → Nat} {H : Nat → Int64} {T : Nat → Int32} (h : jt_A c r B L W V sl H T n u) {x : Nat} (hx : x < 66) : (c.1 1 8 = nI (200 + x) ∧ f_X13_isWord (nI (pv x)) r = 1) ∨ (c.1 1 8 ≠ nI (200 + x) ∧ f_X13_isWord (nI (pv x)) r = 0) := by
  obtain ⟨hc, hr, hR, ht⟩ := h
  unfold ts_A at ht
  unfold f_X13_isWord
  have ne : ∀ v : Nat, v < 300 → v ≠ 200 + x → nI v ≠ nI (200 + x) := fun v hv e y => e ((nI_eq (by omega) (by omega)).mp y)
  have px := (pv_tab x hx).1
  rcases ht with ⟨a, b⟩ | ⟨i, a, b, d, e, g⟩ | ⟨i, m, a1, a2, a3, a4, a5, a6, a7, a8, a9, a10, a11, a12, a13⟩ | ⟨v, _, a, _, b, _⟩ | ⟨v, _, _, _, a, _, b, _⟩ | ⟨v, a, b, d, _, e⟩
  · rw [a, b, if_neg (by decide)]
    exact Or.inr ⟨ne 4 (by decide) (by omega), rfl⟩
  · have pi := (pv_tab i a).1
    rw [b, e, g, if_pos rfl]
    by_cases y : i = x
    · subst y
      rw [if_pos rfl]
      exact Or.inl ⟨rfl, rfl⟩
    · rw [if_neg (fun z => y (pv_inj i a x hx ((nI_eq (by omega) (by omega)).mp z)))]
      exact Or.inr ⟨ne _ (by omega) (by omega), rfl⟩
  · rw [a9, a11, a12, if_pos rfl]
    rw [if_neg (fun z => nI_pos (n := pv x) (by omega) (by rw [← z]; decide))]
    exact Or.inr ⟨ne 1 (by decide) (by omega), rfl⟩
  · rw [a, b, if_neg (by decide)]
    exact Or.inr ⟨ne 2 (by decide) (by omega), rfl⟩
  · rw [a, b, if_neg (by decide)]
    exact Or.inr ⟨ne 3 (by decide) (by omega), rfl⟩
  · rw [b, d, if_neg (by decide)]
    exact Or.inr ⟨ne _ (by omega) (by omega), rfl⟩
/-- which sort of token: free word 1, number 2, text 3, end 4 -/
theorem jt_sort {c r : t_S} {B : Nat → Nat} {L W n u : Nat} {V sl : Nat → Nat} {H : Nat → Int64} {T : Nat → Int32} (h : jt_A c r B L W V sl H T n u) : (c.1 1 8 = 1 ↔ r.1 950 5 = 1 ∧ r.1 950 10 < 0) ∧ (c.1 1 8 = 2 ↔ r.1 950 5 = 2) ∧ (c.1 1 8 = 3 ↔ r.1 950 5 = 3) ∧ (c.1 1 8 = 4 ↔ r.1 950 5 = 0) ∧ (c.1 1 8 ≠ 5) ∧ (c.1 1 8 = 2 → ∃ v, v < 10 ^ 15 ∧ c.2.1 1 10 = lN v ∧ r.2.1 950 8 = lN v) ∧ (r.1 950 5 = 1 → ¬ r.1 950 10 < 0 → ∃ i, i < 66 ∧ c.1 1 8 = nI (200 + i) ∧ r.1 950 10 = nI (pv i)) := by
  obtain ⟨hc, hr, hR, ht⟩ := h
  unfold ts_A at ht
  have ne : ∀ v d : Nat, v < 300 → d < 10 → v ≠ d → nI v ≠ nI d := fun v d hv hd e y => e ((nI_eq (by omega) (by omega)).mp y)
  have all : ∀ v : Nat, 5 < v → v < 300 → (nI v ≠ (1 : Int32) ∧ nI v ≠ (2 : Int32) ∧ nI v ≠ (3 : Int32) ∧ nI v ≠ (4 : Int32) ∧ nI v ≠ (5 : Int32)) := fun v a b => ⟨ne v 1 b (by decide) (by omega), ne v 2 b (by decide) (by omega), ne v 3 b (by decide) (by omega), ne v 4 b (by decide) (by omega), ne v 5 b (by decide) (by omega)⟩
  rcases ht with ⟨a, b⟩ | ⟨i, a, b, d, e, g⟩ | ⟨i, m, a1, a2, a3, a4, a5, a6, a7, a8, a9, a10, a11, a12, a13⟩ | ⟨v, hv, a, a2, b, _, a3⟩ | ⟨v, _, _, _, a, _, b, b2, _⟩ | ⟨v, a, b, d, b2, e⟩
  · rw [a, b]
    exact ⟨⟨fun x => absurd x (by decide), fun x => absurd x.1 (by decide)⟩, ⟨fun x => absurd x (by decide), fun x => absurd x (by decide)⟩, ⟨fun x => absurd x (by decide), fun x => absurd x (by decide)⟩, ⟨fun _ => rfl, fun _ => rfl⟩, by decide, fun x => absurd x (by decide), fun x => absurd x (by decide)⟩
  · have pi := (pv_tab i a).1
    obtain ⟨n1, n2, n3, n4, n5⟩ := all (200 + i) (by omega) (by omega)
    rw [b, e, g]
    exact ⟨⟨fun x => absurd x n1, fun x => absurd x.2 (nI_pos (by omega))⟩, ⟨fun x => absurd x n2, fun x => absurd x (by decide)⟩, ⟨fun x => absurd x n3, fun x => absurd x (by decide)⟩, ⟨fun x => absurd x n4, fun x => absurd x (by decide)⟩, n5, fun x => absurd x n2, fun _ _ => ⟨i, a, rfl, rfl⟩⟩
  · rw [a9, a11, a12]
    exact ⟨⟨fun _ => ⟨rfl, by decide⟩, fun _ => rfl⟩, ⟨fun x => absurd x (by decide), fun x => absurd x (by decide)⟩, ⟨fun x => absurd x (by decide), fun x => absurd x (by decide)⟩, ⟨fun x => absurd x (by decide), fun x => absurd x (by decide)⟩, by decide, fun x => absurd x (by decide), fun _ x => absurd (show (-1 : Int32) < 0 by decide) x⟩
  · rw [a, b]
    exact ⟨⟨fun x => absurd x (by decide), fun x => absurd x.1 (by decide)⟩, ⟨fun _ => rfl, fun _ => rfl⟩, ⟨fun x => absurd x (by decide), fun x => absurd x (by decide)⟩, ⟨fun x => absurd x (by decide), fun x => absurd x (by decide)⟩, by decide, fun _ => ⟨v, hv, a2, a3⟩, fun x => absurd x (by decide)⟩
  · rw [a, b]
    exact ⟨⟨fun x => absurd x (by decide), fun x => absurd x.1 (by decide)⟩, ⟨fun x => absurd x (by decide), fun x => absurd x (by decide)⟩, ⟨fun _ => rfl, fun _ => rfl⟩, ⟨fun x => absurd x (by decide), fun x => absurd x (by decide)⟩, by decide, fun x => absurd x (by decide), fun x => absurd x (by decide)⟩
  · obtain ⟨n1, n2, n3, n4, n5⟩ := all v (by omega) (by omega)
    rw [b, d]
    exact ⟨⟨fun x => absurd x n1, fun x => absurd x.1 (by decide)⟩, ⟨fun x => absurd x n2, fun x => absurd x (by decide)⟩, ⟨fun x => absurd x n3, fun x => absurd x (by decide)⟩, ⟨fun x => absurd x n4, fun x => absurd x (by decide)⟩, n5, fun x => absurd x n2, fun x => absurd x (by decide)⟩
/-- what pj tells of the token -/
theorem pj.A {P : pc_S} {u d z q m : Nat} {c r : t_S} (h : pj P u d z q m c r) : ∃ B L W V sl H T n, jt_A c r B L W V sl H T n u := by
  obtain ⟨B, L, W0, W, V, sl, H, T, n, t0, m0⟩ := P
  exact ⟨B, L, W, V, sl, H, T, n, h.1⟩
theorem pj.is {P : pc_S} {u d z q m : Nat} {c r : t_S} (h : pj P u d z q m c r) {x : Nat} (hx : (33 ≤ x ∧ x ≤ 125) ∨ (10 ≤ x ∧ x ≤ 17)) : (c.1 1 8 = nI x ∧ f_X13_is (nI (sg x)) r = 1) ∨ (c.1 1 8 ≠ nI x ∧ f_X13_is (nI (sg x)) r = 0) := by
  obtain ⟨B, L, W, V, sl, H, T, n, a⟩ := h.A
  exact jt_is a hx
theorem pj.isW {P : pc_S} {u d z q m : Nat} {c r : t_S} (h : pj P u d z q m c r) {x : Nat} (hx : x < 66) : (c.1 1 8 = nI (200 + x) ∧ f_X13_isWord (nI (pv x)) r = 1) ∨ (c.1 1 8 ≠ nI (200 + x) ∧ f_X13_isWord (nI (pv x)) r = 0) := by
  obtain ⟨B, L, W, V, sl, H, T, n, a⟩ := h.A
  exact jt_isW a hx
theorem pj.sort {P : pc_S} {u d z q m : Nat} {c r : t_S} (h : pj P u d z q m c r) : (c.1 1 8 = 1 ↔ r.1 950 5 = 1 ∧ r.1 950 10 < 0) ∧ (c.1 1 8 = 2 ↔ r.1 950 5 = 2) ∧ (c.1 1 8 = 3 ↔ r.1 950 5 = 3) ∧ (c.1 1 8 = 4 ↔ r.1 950 5 = 0) ∧ (c.1 1 8 ≠ 5) ∧ (c.1 1 8 = 2 → ∃ v, v < 10 ^ 15 ∧ c.2.1 1 10 = lN v ∧ r.2.1 950 8 = lN v) ∧ (r.1 950 5 = 1 → ¬ r.1 950 10 < 0 → ∃ i, i < 66 ∧ c.1 1 8 = nI (200 + i) ∧ r.1 950 10 = nI (pv i)) := by
  obtain ⟨B, L, W, V, sl, H, T, n, a⟩ := h.A
  exact jt_sort a
theorem pj.f0 {P : pc_S} {u d z q m : Nat} {c r : t_S} (h : pj P u d z q m c r) : c.1 1 11 = 0 ∧ r.1 950 2 = 0 := by
  obtain ⟨B, L, W, V, sl, H, T, n, a⟩ := h.A
  exact ⟨a.1.2.2.2.2.2.2.2.2.1, a.2.1.2.1⟩
/-- the place of the token, on both sides -/
theorem pj.at {P : pc_S} {u d z q m : Nat} {c r : t_S} (h : pj P u d z q m c r) : ∃ p, p ≤ 12000 ∧ c.1 1 9 = nI p ∧ r.1 950 6 = nI p := by
  obtain ⟨B, L, W, V, sl, H, T, n, a⟩ := h.A
  have l := a.2.1.1.1
  have l2 := a.2.1.2.2.2.1
  exact ⟨_, by omega, a.1.2.2.2.2.2.2.1, a.2.1.2.2.1⟩
theorem pf.c {P : pc_S} {c r : t_S} (h : pf P c r) : ∃ f p, lc_F c f p := by
  obtain ⟨f, p, a, b⟩ := h
  exact ⟨f, p, a⟩
theorem lc_F.ne {c : t_S} {f p : Nat} (h : lc_F c f p) : c.1 1 11 ≠ 0 := by
  obtain ⟨h1, h2, h3, h4, h5⟩ := h
  rw [h3]
  exact nI_ne0 h1 (by omega)
theorem lc_F.need {c : t_S} {f p : Nat} (h : lc_F c f p) {x : Int32} (hx : x ≠ 5) : f_X2_need x c = some c ∧ f_X2_take x c = some (0, c) := by
  have s := lc_stay h
  unfold f_X2_need f_X2_take
  rw [h.2.2.2.2, if_neg (fun e => hx e.symm), if_neg (fun e => hx e.symm), s.2]
  exact ⟨rfl, rfl⟩
theorem lc_F.fr {W : Nat → Nat → Prop} {c c' : t_S} {f p : Nat} (h : lc_F c f p) (w : l2_fr W c c') (w1 : ∀ j, 8 ≤ j → j ≤ 12 → ¬ W 1 j) : lc_F c' f p := by
  obtain ⟨h1, h2, h3, h4, h5⟩ := h
  refine ⟨h1, h2, ?_, ?_, ?_⟩
  · rw [(w 1 11 (w1 11 (by decide) (by decide))).1]; exact h3
  · rw [(w 1 12 (w1 12 (by decide) (by decide))).1]; exact h4
  · rw [(w 1 8 (w1 8 (by decide) (by decide))).1]; exact h5
theorem h2_sep {T U : Type} {a : Option T} {b : Option U} {Q : T → U → Prop} (X : T → Prop) (Y : U → Prop) (h : t_hk a X) (g : t_hk b Y) (i : ∀ x y, X x → Y y → Q x y) : t_h2 a b Q := by
  obtain ⟨x, e, p⟩ := h
  obtain ⟨y, e2, q⟩ := g
  exact ⟨x, y, e, e2, i x y p q⟩
/-- a sign that must be there -/
theorem pj_need {P : pc_S} {u d z q m : Nat} {c r : t_S} (h : pj P u d z q m c r) (hz : z ≤ 1) {x : Nat} (hx : (33 ≤ x ∧ x ≤ 125) ∨ (10 ≤ x ∧ x ≤ 17)) {s : Int32} (hs : s = nI (sg x)) : t_h2 (f_X2_need (nI x) c) (f_X13_mustBe s r) (fun c' r' => l2_fr la_W c c' ∧ l2_fr rn_W r r' ∧ (pj P (u + 1) 0 0 q m c' r' ∨ pf P c' r')) := by
  subst hs
  unfold f_X2_need f_X13_mustBe k_X13_mustBe_17
  rcases h.is hx with ⟨a, b⟩ | ⟨a, b⟩
  · rw [b]
    refine h2_ckL a (h2_noR (by decide) (h2_bb _ (pj_adv h hz (Or.inr (fun e => ?_)) (fun e => ?_)) (fun c' r' w => h2_sm w)))
    · rw [a] at e
      have := (nI_eq (b := 1) (by omega) (by decide)).mp e
      omega
    · rw [a] at e
      have := (nI_eq (b := 4) (by omega) (by decide)).mp e
      omega
  · rw [b]
    refine h2_noL a (h2_ckR rfl (h2_bb _ (pj_fail (f := 2) h hz (by decide)) (fun c' r' w => ?_)))
    obtain ⟨w1, w2, f, p, w3, w4⟩ := w
    refine h2_doneL ?_
    rw [(pr_next w4).1]
    exact l2_sm ⟨w1, w2.trans (l2_fr.set ⟨rfl, by decide, by decide⟩), Or.inr ⟨f, p, w3, w4.dead⟩⟩
/-- a reserved word that must be there -/
theorem pj_needW {P : pc_S} {u d z q m : Nat} {c r : t_S} (h : pj P u d z q m c r) (hz : z ≤ 1) {x : Nat} (hx : x < 66) {s : Int32} (hs : s = nI (pv x)) : t_h2 (f_X2_need (nI (200 + x)) c) (f_X13_mustWord s r) (fun c' r' => l2_fr la_W c c' ∧ l2_fr rn_W r r' ∧ (pj P (u + 1) 0 0 q m c' r' ∨ pf P c' r')) := by
  subst hs
  unfold f_X2_need f_X13_mustWord k_X13_mustWord_17
  rcases h.isW hx with ⟨a, b⟩ | ⟨a, b⟩
  · rw [b]
    refine h2_ckL a (h2_noR (by decide) (h2_bb _ (pj_adv h hz (Or.inr (fun e => ?_)) (fun e => ?_)) (fun c' r' w => h2_sm w)))
    · rw [a] at e
      have := (nI_eq (b := 1) (by omega) (by decide)).mp e
      omega
    · rw [a] at e
      have := (nI_eq (b := 4) (by omega) (by decide)).mp e
      omega
  · rw [b]
    refine h2_noL a (h2_ckR rfl (h2_bb _ (pj_fail (f := 2) h hz (by decide)) (fun c' r' w => ?_)))
    obtain ⟨w1, w2, f, p, w3, w4⟩ := w
    refine h2_doneL ?_
    rw [(pr_next w4).1]
    exact l2_sm ⟨w1, w2.trans (l2_fr.set ⟨rfl, by decide, by decide⟩), Or.inr ⟨f, p, w3, w4.dead⟩⟩
/-- a sign or reserved word (the class's number x) that is taken: the class's take, the reference's next -/
theorem pj_took {P : pc_S} {u d z q m : Nat} {c r : t_S} (h : pj P u d z q m c r) (hz : z ≤ 1) {x : Nat} (hx : 5 < x ∧ x < 300) (a : c.1 1 8 = nI x) : t_h2 (f_X2_take (nI x) c) (f_X13_next r) (fun y r' => y.1 = 1 ∧ l2_fr la_W c y.2 ∧ l2_fr rn_W r r' ∧ (pj P (u + 1) 0 0 q m y.2 r' ∨ pf P y.2 r')) := by
  unfold f_X2_take
  refine h2_ckL a (h2_imp (P := fun (y : Int32 × t_S) r' => ∃ c', y = (1, c') ∧ l2_fr la_W c c' ∧ l2_fr rn_W r r' ∧ (pj P (u + 1) 0 0 q m c' r' ∨ pf P c' r')) ?_ (fun y r' w => ?_))
  · obtain ⟨c', r', e1, e2, w⟩ := pj_adv h hz (Or.inr (fun e => by
      rw [a] at e
      have := (nI_eq (b := 1) (by omega) (by decide)).mp e
      omega)) (fun e => by
      rw [a] at e
      have := (nI_eq (b := 4) (by omega) (by decide)).mp e
      omega)
    rw [e1, e2]
    exact ⟨_, _, rfl, rfl, c', rfl, w⟩
  · obtain ⟨c', rfl, w⟩ := w
    exact ⟨rfl, w⟩
theorem pj_nottook {c : t_S} {x : Int32} (a : c.1 1 8 ≠ x) : f_X2_take x c = some (0, c) := by
  unfold f_X2_take
  rw [if_neg a]
/-- a node that counts -/
theorem pj_node {P : pc_S} {u d q m : Nat} {c r : t_S} {k : Int32} (h : pj P u d 0 q m c r) (hq : q < 3000) : f_X6_node c = some (t_setI c 845 10 (nI (q + 1))) ∧ t_hk (f_X13_node k 1 r) (fun x => m < 12999 ∧ x.1 = nI m ∧ l2_fr (nd_W m) r x.2 ∧ nd_at x.2 m k (r.1 950 6) ∧ pj P u d 1 (q + 1) (m + 1) (t_setI c 845 10 (nI (q + 1))) x.2) := by
  have h0 := h
  obtain ⟨B, L, W0, W, V, sl, H, T, n, t0, m0⟩ := P
  obtain ⟨⟨hc, hr, hR, ht⟩, h2, h3, ⟨N, t, h4, h5⟩, h6, h7, h8, h9, h10, h11, h12⟩ := h
  have pl := hr.2.2.2.1
  refine ⟨?_, ?_⟩
  · unfold f_X6_node
    rw [h7, if_pos (show nI q < (3000 : Int32) from nI_lt (b := 3000) hq (by decide)), nI_1]
    rfl
  · unfold f_X13_node k_X13_node_23
    refine l2_no (by decide) ?_
    rw [h8]
    refine l2_no (fun e => ?_) ?_
    · have := (nI_eq (b := 3000) (by omega) (by decide)).mp e
      omega
    rw [nI_1]
    refine l2_lt ?_
    have f1 : l2_fr (nd_W m) r (t_setI r 950 28 (nI (q + 1))) := l2_fr.set (Or.inr ⟨rfl, Or.inr (Or.inr rfl)⟩)
    have a28 : (t_setI r 950 28 (nI (q + 1))).1 950 28 = nI (q + 1) := by simp only [l2_g, reduceIte]
    have a24 : (t_setI r 950 28 (nI (q + 1))).1 950 24 = nI m := by
      simp only [l2_g, Nat.reduceEqDiff, reduceIte]
      exact h10
    have a6 : (t_setI r 950 28 (nI (q + 1))).1 950 6 = r.1 950 6 := by simp only [l2_g, Nat.reduceEqDiff, reduceIte]
    generalize t_setI r 950 28 (nI (q + 1)) = r1 at *
    refine l2_imp (nd_33 a24 (by omega)) (fun x hx => ?_)
    obtain ⟨j, j1, j2, j3, j4, j5, j6, j7⟩ := hx
    have e : j = m := j1 (by omega)
    subst e
    have ff := f1.trans j4
    have fc : l2_fr (fun b j => b = 845 ∧ j = 10) c (t_setI c 845 10 (nI (q + 1))) := l2_fr.set ⟨rfl, rfl⟩
    have ex : ∀ i, (1 ≤ i ∧ i ≤ 10) ∨ (14 ≤ i ∧ i ≤ 16) → x.2.1 950 i = r.1 950 i := fun i hi => (ff 950 i (by unfold nd_W; omega)).1
    refine ⟨by omega, j3, ff, by rw [← a6]; exact j7, jt_A.of (hc.fr fc (fun j => by omega) (fun i => by omega) (fun b i _ _ => by omega) (fun b i _ _ => by omega)) (hr.fr ff (by rw [ex 2 (by decide)]; exact hr.2.1) (fun i hi => by unfold nd_W; omega) (fun i => by unfold nd_W; omega)) hR, h2, h3, ⟨N, t, h4.fr ff (by unfold nd_W; omega) (by unfold nd_W; omega) (fun b i _ _ => by unfold nd_W; omega), h5⟩, ?_, ?_, ?_, by omega, j5, by omega, h12⟩
    · rw [ex 16 (by decide)]; exact h6
    · simp only [l2_g, reduceIte]
    · rw [j6]; exact a28
/-- a node that doesn't count -/
theorem pj_node0 {P : pc_S} {u d q m : Nat} {c r : t_S} {k : Int32} (h : pj P u d 0 q m c r) : t_hk (f_X13_node k 0 r) (fun x => m < 12999 ∧ x.1 = nI m ∧ l2_fr (nd_W m) r x.2 ∧ nd_at x.2 m k (r.1 950 6) ∧ pj P u d 1 q (m + 1) c x.2) := by
  have h0 := h
  obtain ⟨B, L, W0, W, V, sl, H, T, n, t0, m0⟩ := P
  obtain ⟨⟨hc, hr, hR, ht⟩, h2, h3, ⟨N, t, h4, h5⟩, h6, h7, h8, h9, h10, h11, h12⟩ := h
  have pl := hr.2.2.2.1
  unfold f_X13_node
  refine l2_ck rfl ?_
  refine l2_imp (nd_33 h10 (by omega)) (fun x hx => ?_)
  obtain ⟨j, j1, j2, j3, j4, j5, j6, j7⟩ := hx
  have e : j = m := j1 (by omega)
  subst e
  have ex : ∀ i, (1 ≤ i ∧ i ≤ 10) ∨ (14 ≤ i ∧ i ≤ 16) → x.2.1 950 i = r.1 950 i := fun i hi => (j4 950 i (by unfold nd_W; omega)).1
  refine ⟨by omega, j3, j4, j7, jt_A.of hc (hr.fr j4 (by rw [ex 2 (by decide)]; exact hr.2.1) (fun i hi => by unfold nd_W; omega) (fun i => by unfold nd_W; omega)) hR, h2, h3, ⟨N, t, h4.fr j4 (by unfold nd_W; omega) (by unfold nd_W; omega) (fun b i _ _ => by unfold nd_W; omega), h5⟩, ?_, h7, ?_, h9, j5, by omega, h12⟩
  · rw [ex 16 (by decide)]; exact h6
  · rw [j6]; exact h8
/-- a node of the reference behind a fault -/
theorem pr_node {P : pc_S} {f p : Nat} {r : t_S} {k b : Int32} (h : pr P f p r) : t_hk (f_X13_node k b r) (fun x => ∃ j, j < 13000 ∧ x.1 = nI j ∧ l2_fr (nd_W j) r x.2 ∧ nd_at x.2 j k (r.1 950 6) ∧ pr P f p x.2) := by
  have h0 := h
  have nf := (pr_next h).2
  obtain ⟨B, L, W0, W, V, sl, H, T, n, t0, m0⟩ := P
  obtain ⟨⟨f1, f2, f3, f4⟩, h2, h3, h4, ⟨m, h5, h6⟩, N, t, h7, h8⟩ := h
  have go : ∀ r1 : t_S, l2_fr (fun b j => b = 950 ∧ j = 28) r r1 → t_hk (k_X13_node_33 k r1) (fun x => ∃ j, j < 13000 ∧ x.1 = nI j ∧ l2_fr (nd_W j) r x.2 ∧ nd_at x.2 j k (r.1 950 6) ∧ pr (B, L, W0, W, V, sl, H, T, n, t0, m0) f p x.2) := by
    intro r1 w
    have a24 : r1.1 950 24 = nI m := by rw [(w 950 24 (by omega)).1]; exact h5
    refine l2_imp (nd_33 a24 h6) (fun x hx => ?_)
    obtain ⟨j, j1, j2, j3, j4, j5, j6, j7⟩ := hx
    have ff : l2_fr (nd_W j) r x.2 := (w.mono (fun b i y => by unfold nd_W; omega)).trans j4
    have a6 : r1.1 950 6 = r.1 950 6 := (w 950 6 (by omega)).1
    exact ⟨j, j2, j3, ff, by rw [← a6]; exact j7, h0.fr2 ff ⟨j + 1, j5, by omega⟩ (fun i hi => by unfold nd_W; omega) (fun b i _ _ => by unfold nd_W; omega)⟩
  unfold f_X13_node k_X13_node_23
  refine l2_if (fun _ => go r l2_fr.rf) (fun _ => l2_if (fun _ => ?_) (fun _ => l2_lt (go _ (l2_fr.set ⟨rfl, rfl⟩))))
  rw [nf]
  exact l2_lt (go _ (l2_fr.set ⟨rfl, rfl⟩))
/-- a free word's number -/
theorem pj_name {P : pc_S} {u d z q m : Nat} {c r : t_S} (h : pj P u d z q m c r) (h8 : c.1 1 8 = 1) : t_hk (f_X13_freeName r) (fun x => ∃ k, k < 7934 ∧ c.2.1 1 10 = lN (66 + k) ∧ x.1 = nI k ∧ l2_fr nm_W r x.2 ∧ pj P u 1 z q m c x.2) := by
  have hs := (h.sort.1).mp h8
  obtain ⟨B, L, W0, W, V, sl, H, T, n, t0, m0⟩ := P
  obtain ⟨⟨hc, hr, hR, ht⟩, h2, h3, ⟨N, t, h4, h5⟩, h6, h7, h9, h10, h11, h12, h13⟩ := h
  obtain ⟨i, i1, i2, i3, i4, i5, i6, i7, i8, i9⟩ := jt_word ⟨hc, hr, hR, ht⟩ h8
  have hI := hc.2.1
  have hW := hI.1
  unfold f_X13_freeName
  refine l2_ck hs.1 (l2_ck hs.2 ?_)
  refine l2_bd _ (nw_name0 (n := n) hr.1 hr.2.2.1 i9 hW hI.2.2.2.2.2.1 i1 i2 i4 i5 i6 h4 (show u + d = u ∨ u + d = u + 1 by omega) h5 h2 h6) (fun x hx => l2_sm ?_)
  obtain ⟨N', t', x1, x2, x3, x4, x5, x6, x7⟩ := hx
  have ex : ∀ i, (1 ≤ i ∧ i ≤ 10) ∨ i = 16 ∨ i = 24 ∨ i = 28 → x.2.1 950 i = r.1 950 i := fun i hi => (x4 950 i (by unfold nm_W; omega)).1
  refine ⟨i - 66, by omega, by rw [show 66 + (i - 66) = i by omega]; exact i3, x3, x4, jt_A.of hc (hr.fr x4 (by rw [ex 2 (by decide)]; exact hr.2.1) (fun i hi => by unfold nm_W; omega) (fun i => by unfold nm_W; omega)) hR, h2, by omega, ⟨N', t', x6, x7⟩, ?_, h7, ?_, h10, ?_, h12, h13⟩
  · rw [ex 16 (by decide)]; exact h6
  · rw [ex 28 (by decide)]; exact h9
  · rw [ex 24 (by decide)]; exact h11
/-- no free word: a fault on both sides -/
theorem pj_noname {P : pc_S} {u d z q m : Nat} {c r : t_S} (h : pj P u d z q m c r) (hz : z ≤ 1) (h8 : c.1 1 8 ≠ 1) : t_h2 (f_X2_fail 2 c) (f_X13_freeName r) (fun c' x => l2_fr la_W c c' ∧ l2_fr rn_W r x.2 ∧ pf P c' x.2) := by
  have hs := h.sort.1
  unfold f_X13_freeName k_X13_freeName_15
  have fin : t_h2 (f_X2_fail 2 c) ((f_X13_fail 2 (r.1 950 6) r).bind (fun r1 => some ((0 : Int32), r1))) (fun c' x => l2_fr la_W c c' ∧ l2_fr rn_W r x.2 ∧ pf P c' x.2) := by
    obtain ⟨c', r', e1, e2, w⟩ := pj_fail (f := 2) h hz (by decide)
    exact ⟨c', (0, r'), e1, by
      show (f_X13_fail (nI 2) (r.1 950 6) r).bind _ = _
      rw [e2]
      rfl, w⟩
  by_cases a : r.1 950 5 = 1
  · rw [if_pos a]
    by_cases b : r.1 950 10 < 0
    · exact absurd (hs.mpr ⟨a, b⟩) h8
    · rw [if_neg b]
      exact fin
  · rw [if_neg a]
    exact fin
/-- a name behind a fault -/
theorem pr_name {P : pc_S} {f p : Nat} {r : t_S} (h : pr P f p r) : t_hk (f_X13_freeName r) (fun x => l2_fr nm_W r x.2 ∧ pr P f p x.2) := by
  have h0 := h
  have nf := (pr_next h).2
  obtain ⟨B, L, W0, W, V, sl, H, T, n, t0, m0⟩ := P
  obtain ⟨⟨f1, f2, f3, f4⟩, h2, h3, h4, h5, N, t, h7, h8⟩ := h
  unfold f_X13_freeName k_X13_freeName_15
  have fin : t_hk ((f_X13_fail 2 (r.1 950 6) r).bind (fun r1 => some ((0 : Int32), r1))) (fun x => l2_fr nm_W r x.2 ∧ pr (B, L, W0, W, V, sl, H, T, n, t0, m0) f p x.2) := by
    rw [nf]
    exact l2_sm ⟨l2_fr.rf, h0⟩
  refine l2_if (fun a => l2_if (fun b => ?_) (fun _ => fin)) (fun _ => fin)
  rcases h8 with h8 | ⟨c0, u, d, y1, ⟨hc, hr, hR, ht⟩, y3⟩
  · rw [a] at h8
    exact absurd h8 (by decide)
  · have A : jt_A c0 (t_setI r 950 2 0) B L W V sl H T n u := ⟨hc, hr, hR, ht⟩
    have g5 : ∀ j, j ≠ 2 → (t_setI r 950 2 0).1 950 j = r.1 950 j := fun j hj => by rw [l2_g, if_neg hj]
    have c8 : c0.1 1 8 = 1 := (jt_sort A).1.mpr (by
      rw [g5 5 (by decide), g5 10 (by decide)]
      exact ⟨a, b⟩)
    obtain ⟨i, i1, i2, i3, i4, i5, i6, i7, i8, i9⟩ := jt_word A c8
    rw [g5 7 (by decide)] at i9
    have e6 := hr.2.2.1
    rw [g5 6 (by decide)] at e6
    have hI := hc.2.1
    refine l2_bd _ (nw_name0 (n := n) h3 e6 i9 hI.1 hI.2.2.2.2.2.1 i1 i2 i4 i5 i6 h7 (show u + d = u ∨ u + d = u + 1 by omega) y3 h2 h4) (fun x hx => l2_sm ?_)
    obtain ⟨N', t', x1, x2, x3, x4, x5, x6, x7⟩ := hx
    have ex : ∀ i, (1 ≤ i ∧ i ≤ 10) ∨ i = 16 ∨ i = 24 ∨ i = 28 → x.2.1 950 i = r.1 950 i := fun i hi => (x4 950 i (by unfold nm_W; omega)).1
    have yg : l2_fr (fun b j => nm_W b j) (t_setI r 950 2 0) (t_setI x.2 950 2 0) := by
      intro b j w
      obtain ⟨w1, w2, w3⟩ := x4 b j w
      refine ⟨?_, w2, w3⟩
      rw [l2_gI, l2_gI, w1]
    refine ⟨x4, ⟨f1, f2, by rw [ex 2 (by decide)]; exact f3, by rw [ex 3 (by decide)]; exact f4⟩, h2, h3.fr x4 (by unfold nm_W; omega) (fun i => by unfold nm_W; omega), by rw [ex 16 (by decide)]; exact h4, by rw [ex 24 (by decide)]; exact h5, N', t', x6, Or.inr ⟨c0, u, 1, by decide, jt_A.of hc (hr.fr yg (by simp only [l2_g, reduceIte]) (fun i hi => by unfold nm_W; omega) (fun i => by unfold nm_W; omega)) hR, x7⟩⟩
