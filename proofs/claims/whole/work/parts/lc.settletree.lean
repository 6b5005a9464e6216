/-! Level 2: told templates are settled by the class: a whole tree. -/
/-- an exp that holds nothing against a templ has no templ's nodes -/
theorem px_flat {v a b : Nat} {E : Nat → Nat} (h : px_B v a b E) (e : ∀ j, j < v → E (j + 1) = E j) : b = a := by
  have : ∀ j, j ≤ v → E j = a := by
    intro j
    induction j with
    | zero => intro _; exact h.1
    | succ j ih => intro hj; rw [e j (by omega)]; exact ih (by omega)
  rw [← h.2.1]
  exact this v (Nat.le_refl _)
theorem XR.nt {WN AN TN : Nat → Nat → Prop} {SN : Nat → Nat → Prop} {c r : t_S} {p1 s1 : Nat} : ∀ f lv rr e0 e1 t0 t1 m0 m1 n, XR WN AN TN SN c r p1 s1 f 0 lv rr e0 e1 t0 t1 m0 m1 n → (∀ k, m0 ≤ k → k < m1 → r.1 955 k ≠ 61) → t1 = t0 := by
  intro f
  induction f with
  | zero => intro lv rr e0 e1 t0 t1 m0 m1 n h; exact h.elim
  | succ f ih =>
    intro lv rr e0 e1 t0 t1 m0 m1 n h nm
    obtain ⟨h1, h2, h3, h4, h⟩ := h
    rcases h with ⟨_, h⟩ | ⟨⟨q, _⟩, _⟩ | ⟨⟨q, _⟩, _⟩
    rotate_left
    · exact absurd q (by decide)
    · exact absurd q (by decide)
    rcases h with ⟨a1, a2, a3, a4, a5⟩ | ⟨a1, a2, n', a3, a4⟩ | ⟨a1, a2, K, o, a, n', a3, a4, a5, a6, a7⟩ | ⟨a1, a2, a3, X, n', a4, a5, a6, a7, a8⟩ | ⟨a1, ea, ta, a, b, a2, a3, a4, a5, h⟩ | ⟨a1, a2, a3, v, E, T, M, G, b1, b2, b3, b4, b5, b6, b7⟩ | ⟨a1, a2, v, E, T, M, X, N, b1, b2, b3, b4, b5, b6, b7, b8, b9⟩ | h
    · exact a3
    · exact ih _ _ _ _ _ _ _ _ _ a4 (fun k y1 y2 => nm k (by omega) y2)
    · exact ih _ _ _ _ _ _ _ _ _ a7 (fun k y1 y2 => nm k (by omega) y2)
    · exact ih _ _ _ _ _ _ _ _ _ a8 (fun k y1 y2 => nm k y1 (by omega))
    · have e := ih _ _ _ _ _ _ _ _ _ a5 (fun k y1 y2 => nm k y1 (by omega))
      rcases h with ⟨_, po, x⟩ | ⟨_, x, o, px, q7, po, y⟩ | ⟨_, x, o, px, q7, po, po2, y⟩
      · exact (ih _ _ _ _ _ _ _ _ _ x (fun k y1 y2 => nm k (by omega) y2)).trans e
      · exact (ih _ _ _ _ _ _ _ _ _ y (fun k y1 y2 => nm k (by omega) y2)).trans e
      · exact (ih _ _ _ _ _ _ _ _ _ y (fun k y1 y2 => nm k (by omega) y2)).trans e
    · exact px_flat b3 (fun j hj => by
        have bM := b4.2.2 j hj
        exact ih _ _ _ _ _ _ _ _ _ (b7 j hj) (fun k y1 y2 => nm k (by omega) (by omega)))
    · exact px_flat b4 (fun j hj => by
        have bM := b5.2.2 j hj
        obtain ⟨x1, x2, x3, x4, x5, x6, x7⟩ := b9 j hj
        exact ih _ _ _ _ _ _ _ _ _ x7 (fun k y1 y2 => nm k (by omega) (by omega)))
    · exact absurd h.2.2.1 (nm n h3 h4)
theorem XR.snx {WN AN TN : Nat → Nat → Prop} {SN SN' : Nat → Nat → Prop} {c r : t_S} {p1 s1 f fl rr e0 e1 t0 t1 m0 m1 n : Nat} {lv : Int32} (h : XR WN AN TN SN c r p1 s1 f fl lv rr e0 e1 t0 t1 m0 m1 n) (hS : ∀ t k, t0 ≤ t → t < t1 → m0 ≤ k → k < m1 → SN t k → SN' t k) : XR WN AN TN SN' c r p1 s1 f fl lv rr e0 e1 t0 t1 m0 m1 n := XR.ax (Nat.le_refl _) (Nat.le_refl _) _ _ _ _ _ _ _ _ _ _ _ h ⟨fun _ _ _ => ⟨rfl, rfl⟩, fun _ _ _ _ _ _ _ => rfl, fun _ _ _ _ => ⟨rfl, rfl⟩, fun _ _ => rfl, fun _ _ _ _ _ _ _ => ⟨rfl, rfl⟩, fun _ _ => rfl⟩ (fun _ _ _ _ _ _ y => y) (fun _ _ _ _ _ _ y => y) (fun _ _ _ _ _ _ y => y) hS f (Nat.le_refl _)
section
variable {WN AN TN : Nat → Nat → Prop} {SN : Nat → Nat → Prop} {cs r0 s : t_S} {Y : t_S → Prop} {RM : t_S → Prop} {wS : Nat → Nat} {p1 s1 cnt P0 pp TE k f rr e0 e1 t0 t1 m0 m1 mE n : Nat} {lv : Int32}
/-- a stretch of code is settled: F is what stands then -/
def STG (cs : t_S) (wS : Nat → Nat) (TE P0 e0 e1 t0 t1 : Nat) (F : t_S → Nat → Prop) : Prop := ∀ s k pp (Y : t_S → Prop), SI cs s t0 TE P0 pp → k + (t1 - t0) < 6100 → pp + wS e1 ≤ 26000 + wS e0 → (∀ s' k' pp', SI cs s' t1 TE P0 pp' → l2_fr (seW cs t0 t1 pp) s s' → pp ≤ pp' → pp' + wS e0 ≤ pp + wS e1 → F s' pp' → k ≤ k' → k' ≤ k + (t1 - t0) → SX k' e1 s' Y) → SX k e0 s Y
theorem SI.up {τ τ' : Nat} (h : SI cs s τ TE P0 pp) (le : τ ≤ τ') : SI cs s τ' TE P0 pp := ⟨h.op, h.cnt, fun b j a1 a2 a3 a4 => h.tm b j a1 a2 (by omega) a4, h.pl, h.pp, h.md, h.st⟩
theorem seW.wide {a b a' b' pa : Nat} {s' : t_S} (h : l2_fr (seW cs a b pa) s s') (h1 : a' ≤ a) (h2 : b ≤ b') : l2_fr (seW cs a' b' pa) s s' := h.mono (fun x j y => by
  unfold seW at *
  rcases y with y | y | y | y
  · exact Or.inl y
  · exact Or.inr (Or.inl y)
  · exact Or.inr (Or.inr (Or.inl y))
  · exact Or.inr (Or.inr (Or.inr ⟨y.1, by have := y.2.1; omega, by have := y.2.2.1; omega, y.2.2.2⟩)))
/-- parts one after another -/
theorem st_parts {v : Nat} {E T : Nat → Nat} {F : Nat → t_S → Nat → Prop} (wm : ∀ a b, a ≤ b → wS a ≤ wS b) (hE : ∀ j, j < v → E j ≤ E (j + 1)) (hT : ∀ j, j < v → T j ≤ T (j + 1)) (hp : ∀ j, j < v → STG cs wS TE P0 (E j) (E (j + 1)) (T j) (T (j + 1)) (F j)) (later : ∀ j, j < v → ∀ s s' pa pb τ τ', F j s pa → l2_fr (seW cs τ τ' pa) s s' → T (j + 1) ≤ τ → pa ≤ pb → F j s' pb) : ∀ u, u ≤ v → STG cs wS TE P0 (E 0) (E u) (T 0) (T u) (fun s' pp' => ∀ j, j < u → F j s' pp') := by
  have mo : ∀ (G : Nat → Nat), (∀ j, j < v → G j ≤ G (j + 1)) → ∀ d i, i + d ≤ v → G i ≤ G (i + d) := by
    intro G hG d
    induction d with
    | zero => intro i _; exact Nat.le_refl _
    | succ d ih =>
      intro i hi
      have := ih i (by omega)
      have := hG (i + d) (by omega)
      rw [show i + (d + 1) = i + d + 1 by omega]
      omega
  intro u
  induction u with
  | zero =>
    intro _ s k pp Y S _ _ cont
    exact cont s k pp S l2_fr.rf (Nat.le_refl _) (Nat.le_refl _) (fun j hj => absurd hj (Nat.not_lt_zero _)) (Nat.le_refl _) (by omega)
  | succ u ih =>
    intro hu s k pp Y S hk room cont
    have e0 := mo E hE u 0 (by omega)
    have t0 := mo T hT u 0 (by omega)
    rw [Nat.zero_add] at e0 t0
    have eu := hE u (by omega)
    have tu := hT u (by omega)
    have w1 := wm _ _ eu
    refine ih (by omega) s k pp Y S (by omega) (by omega) (fun s1 k1 pp1 S1 f1 g1 g2 F1 k1a k1b => ?_)
    refine hp u (by omega) s1 k1 pp1 Y S1 (by omega) (by omega) (fun s2 k2 pp2 S2 f2 g3 g4 F2 k2a k2b => ?_)
    refine cont s2 k2 pp2 S2 (seW.trans f1 f2 t0 tu g1) (by omega) (by omega) (fun j hj => ?_) (by omega) (by omega)
    by_cases c : j = u
    · rw [c]; exact F2
    · have := mo T hT (u - (j + 1)) (j + 1) (by omega)
      rw [show j + 1 + (u - (j + 1)) = u by omega] at this
      exact later j (by omega) s1 s2 pp1 pp2 (T u) (T (u + 1)) (F1 j (by omega)) f2 this g3
theorem STG.in {F : t_S → Nat → Prop} {a b : Nat} (h : STG cs wS TE P0 e0 e1 a b F) (h1 : t0 ≤ a) (h2 : b ≤ t1) (h3 : a ≤ b) : STG cs wS TE P0 e0 e1 t0 t1 F := fun s k pp Y S hk room cont => h s k pp Y (S.up h1) (by omega) room (fun s' k' pp' S' f g1 g2 hF k1 k2 => cont s' k' pp' (S'.up h2) (seW.wide f h1 h2) g1 g2 hF k1 (by omega))
theorem STG.imp {F F' : t_S → Nat → Prop} (h : STG cs wS TE P0 e0 e1 t0 t1 F) (w : ∀ s p, F s p → F' s p) : STG cs wS TE P0 e0 e1 t0 t1 F' := fun s k pp Y S hk room cont => h s k pp Y S hk room (fun s' k' pp' S' f g1 g2 hF => cont s' k' pp' S' f g1 g2 (w _ _ hF))
/-- nothing to be done -/
theorem STG.nil (h : t0 ≤ t1) : STG cs wS TE P0 e0 e0 t0 t1 (fun _ _ => True) := fun s k pp Y S hk room cont => cont s k pp (S.up h) l2_fr.rf (Nat.le_refl _) (Nat.le_refl _) trivial (Nat.le_refl _) (by omega)
/-- an operation of a name -/
theorem STG.name (H : StH WN cs r0 RM wS p1 s1 P0 cnt) (h : t0 ≤ t1) {x : Int32} (ho : px_o cs e0 35 x) (he : e0 + 1 < cnt) : STG cs wS TE P0 e0 (e0 + 1) t0 t1 (fun _ _ => True) := fun s k pp Y S hk room cont => by
  have hc := H.hc
  have w := H.wm e0 (e0 + 1) (by omega)
  have t := st_35 (c0 := s) (c := s) (i := e0) (x := x) l2_fr.rf (by rw [S.cnt]; exact H.h2) hc (by omega) ⟨((S.op _).1).trans ho.1, ((S.op _).2).trans ho.2⟩ S.st.2.2 S.md
  have f : l2_fr (seW cs t0 t1 pp) s (t_setI s 334 13 (nI e0)) := l2_fr.set (Or.inl (Or.inl ⟨rfl, by omega⟩))
  exact SX.turn (l2_tn.one t) (by omega) (by omega) (by omega) (cont _ k pp ((S.up h).next (τ' := t1) (l2_fr.set (Or.inl (Or.inl ⟨rfl, by omega⟩))) (Nat.le_refl _) (by rw [l2_g, if_neg (by decide)]; exact S.pp) (Nat.le_refl _) ⟨by rw [l2_g, if_neg (by decide)]; exact S.st.1, by rw [l2_sO (by decide)]; exact S.st.2.1, by rw [l2_g, if_neg (by decide)]; exact S.st.2.2⟩) f (Nat.le_refl _) (by omega) trivial (Nat.le_refl _) (by omega))
/-- a tree is settled -/
theorem st_tree (H : StH WN cs r0 RM wS p1 s1 P0 cnt) (hSN : ∀ t k, SN t k → cs.1 354 t = 17 ∧ cs.2.1 362 t = 0) (hTE : TE ≤ 6100) {ME : Nat} (hME : ME ≤ 13000) : ∀ f fl lv rr e0 e1 t0 t1 m0 m1 n, XR WN AN TN SN cs r0 p1 s1 f fl lv rr e0 e1 t0 t1 m0 m1 n → (fl = 1 ∨ fl = 2) → t1 ≤ TE → m1 ≤ ME → e1 < cnt → (∀ k, m0 ≤ k → k < m1 → ¬ TB r0 k) → STG cs wS TE P0 e0 e1 t0 t1 (fun s' pp' => XR WN AN TN (FS RM r0 ME pp' s') cs r0 p1 s1 f fl lv rr e0 e1 t0 t1 m0 m1 n) := by
  intro f
  induction f with
  | zero => intro fl lv rr e0 e1 t0 t1 m0 m1 n h; exact h.elim
  | succ f ih =>
    intro fl lv rr e0 e1 t0 t1 m0 m1 n h hfl ht1 hm1 he1 ntb
    obtain ⟨h1, h2, h3, h4, h⟩ := h
    rcases h with ⟨⟨q, _⟩, _⟩ | ⟨q, ht, mE, g1, g2, hw, h⟩ | ⟨q, ht, rfl, a2, a3, a4, a5, a6, a7, v, E, T, M, G, b1, b2, b3, b4, b5, b6, b7, b8⟩
    · omega
    · rcases h with ⟨a1, a2, a3⟩ | ⟨a1, a2, a3, a4, n', a5, a6⟩ | ⟨a1, a2, X, n', a3, a4, a5, a6, a7, a8, a9⟩ | ⟨a1, a2, v, E, T, M, X, N, b1, b2, b3, b4, b5, b6, b7, b8⟩ | ⟨K, Cc, a1, a2, a3, a4, v, E, T, M, G, W, b1, b2, b3, b4, b5, b6, b7, b8⟩
      · have fin : ∀ s' pp', XR WN AN TN (FS RM r0 ME pp' s') cs r0 p1 s1 (f + 1) fl lv rr e0 e1 t0 t1 m0 m1 n := fun s' pp' => ⟨h1, h2, h3, h4, Or.inr (Or.inl ⟨q, ht, mE, g1, g2, hw, Or.inl ⟨a1, a2, a3⟩⟩)⟩
        rcases a3 with ⟨z, _⟩ | ⟨z, _, z3, _⟩
        · subst z
          exact (STG.nil h2).imp (fun s' p' _ => fin s' p')
        · subst z
          exact (STG.name H h2 z3 he1).imp (fun s' p' _ => fin s' p')
      · have x := a6
        obtain ⟨y1, y2, y3, y4⟩ := x.at
        have nt := XR.nt _ _ _ _ _ _ _ _ _ _ x (fun k x1 x2 y => ntb k (by omega) (by omega) ⟨61, y, by omega⟩)
        intro s k pp Y S hk room cont
        have w2 := H.wm (e1 - 1) e1 (by omega)
        have w1 := H.wm e0 (e1 - 1) (by omega)
        exact st_slot H S a1 he1 a5 (by omega) a4 (hSN _ _ a3) x (by omega) ht1 hTE ht ⟨by omega, by omega, hME⟩ (fun k x1 x2 => ntb k (by omega) (by omega)) (by omega) (by omega) (fun s' k' pp' S' f' z1 z2 hF z3 z4 => cont s' k' pp' S' f' z1 (by omega) ⟨h1, h2, h3, h4, Or.inr (Or.inl ⟨q, ht, mE, g1, g2, hw, Or.inr (Or.inl ⟨a1, a2, hF, a4, n', a5, x.snx (fun t k x1 x2 _ _ _ => by omega)⟩)⟩)⟩ z3 (by omega))
      · obtain ⟨y1, y2, y3, y4⟩ := a9.at
        exact ((ih _ _ _ _ _ _ _ _ _ _ a9 (Or.inl rfl) ht1 (by omega) he1 (fun k x1 x2 => ntb k (by omega) (by omega))).in (by omega) (Nat.le_refl _) y2).imp (fun s' p' x => ⟨h1, h2, h3, h4, Or.inr (Or.inl ⟨q, ht, mE, g1, g2, hw, Or.inr (Or.inr (Or.inl ⟨a1, a2, X, n', a3, a4, a5, a6, a7, a8, x⟩))⟩)⟩)
      · have st := st_parts (cs := cs) (TE := TE) (P0 := P0) (E := E) (T := T) (F := fun j s' p' => XR WN AN TN (FS RM r0 ME p' s') cs r0 p1 s1 f 1 (lv + 1) (rr + 20) (E j) (E (j + 1)) (T j + 1) (T (j + 1)) (M j + 1) (M (j + 1)) (N j)) H.wm (fun j hj => (b2.2.2 j hj).1) (fun j hj => (b3.2.2 j hj).1) (fun j hj => by
          obtain ⟨x1, x2, x3, x4, x5, x6, x7, x8, x9, x10, x11, x12⟩ := b8 j hj
          have bE := b2.2.2 j hj
          have bT := b3.2.2 j hj
          have bM := b4.2.2 j hj
          exact (ih _ _ _ _ _ _ _ _ _ _ x12 (Or.inl rfl) (by omega) (by omega) (by omega) (fun k z1 z2 => ntb k (by omega) (by omega))).in (by omega) (Nat.le_refl _) (by omega)) (fun j hj s s' pa pb τ τ' x fr hτ hp => x.snx (fun t k z1 z2 _ _ hF => hF.later fr (Or.inl (by omega)) hp)) v (Nat.le_refl _)
        rw [b2.1, b2.2.1, b3.1, b3.2.1] at st
        have t01 : t0 + 1 ≤ t1 := by omega
        exact (st.in (by omega) (Nat.le_refl _) t01).imp (fun s' p' x => ⟨h1, h2, h3, h4, Or.inr (Or.inl ⟨q, ht, mE, g1, g2, hw, Or.inr (Or.inr (Or.inr (Or.inl ⟨a1, a2, v, E, T, M, X, N, b1, b2, b3, b4, b5, b6, b7, fun j hj => by
          obtain ⟨x1, x2, x3, x4, x5, x6, x7, x8, x9, x10, x11, x12⟩ := b8 j hj
          exact ⟨x1, x2, x3, x4, x5, x6, x7, x8, x9, x10, x11, x j hj⟩⟩)))⟩)⟩)
      · have st := st_parts (cs := cs) (TE := TE) (P0 := P0) (E := E) (T := T) (F := fun j s' p' => XR WN AN TN (FS RM r0 ME p' s') cs r0 p1 s1 f (W j) (lv + 1) (rr + 20) (E j) (E (j + 1)) (T j) (T (j + 1)) (M j) (M (j + 1)) (G j)) H.wm (fun j hj => (b3.2.2 j hj).1) (fun j hj => (b4.2.2 j hj).1) (fun j hj => by
          have bE := b3.2.2 j hj
          have bT := b4.2.2 j hj
          have bM := b5.2.2 j hj
          exact ih _ _ _ _ _ _ _ _ _ _ (b8 j hj).2 (by have := (b8 j hj).1; omega) (by omega) (by omega) (by omega) (fun k z1 z2 => ntb k (by omega) (by omega))) (fun j hj s s' pa pb τ τ' x fr hτ hp => x.snx (fun t k z1 z2 _ _ hF => hF.later fr (Or.inl (by omega)) hp)) v (Nat.le_refl _)
        rw [b3.1, b3.2.1, b4.1, b4.2.1] at st
        have t01 : t0 + 1 ≤ t1 := by omega
        exact (st.in (by omega) (Nat.le_refl _) t01).imp (fun s' p' x => ⟨h1, h2, h3, h4, Or.inr (Or.inl ⟨q, ht, mE, g1, g2, hw, Or.inr (Or.inr (Or.inr (Or.inr ⟨K, Cc, a1, a2, a3, a4, v, E, T, M, G, W, b1, b2, b3, b4, b5, b6, b7, fun j hj => ⟨(b8 j hj).1, x j hj⟩⟩)))⟩)⟩)
    · have st := st_parts (cs := cs) (TE := TE) (P0 := P0) (E := E) (T := T) (F := fun j s' p' => XR WN AN TN (FS RM r0 ME p' s') cs r0 p1 s1 f 1 (lv + 1) rr (E j) (E (j + 1)) (T j) (T (j + 1)) (M j) (M (j + 1)) (G j)) H.wm (fun j hj => (b3.2.2 j hj).1) (fun j hj => (b4.2.2 j hj).1) (fun j hj => by
        have bE := b3.2.2 j hj
        have bT := b4.2.2 j hj
        have bM := b5.2.2 j hj
        exact ih _ _ _ _ _ _ _ _ _ _ (b8 j hj) (Or.inl rfl) (by omega) (by omega) (by omega) (fun k z1 z2 => ntb k (by omega) (by omega))) (fun j hj s s' pa pb τ τ' x fr hτ hp => x.snx (fun t k z1 z2 _ _ hF => hF.later fr (Or.inl (by omega)) hp)) v (Nat.le_refl _)
      rw [b3.1, b3.2.1, b4.1, b4.2.1] at st
      have t01 : t0 + 1 ≤ t1 := by omega
      exact (st.in (by omega) (Nat.le_refl _) t01).imp (fun s' p' x => ⟨h1, h2, h3, h4, Or.inr (Or.inr ⟨q, ht, rfl, a2, a3, a4, a5, a6, a7, v, E, T, M, G, b1, b2, b3, b4, b5, b6, b7, x⟩)⟩)
end
