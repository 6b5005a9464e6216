/-! Level 2: a module: one more item. -/
/-- behind an item -/
def mP (P : pc_S) (k : Nat → Nat) (c0 c r c' r' : t_S) : Prop := l2_fr mo_Wc c c' ∧ l2_fr mo_Wr r r' ∧ ((∃ (nt' : Nat → Nat) (a' g' : Nat) (k' : Nat → Nat), mR P nt' a' g' k' c0 c' r' ∧ k 0 < k' 0) ∨ pf P c' r')
section
variable {P : pc_S} {nt nt' : Nat → Nat} {a g a' g' i so : Nat} {k k' : Nat → Nat} {c0 c r c' r' : t_S}
theorem XR.t01 {WN AN TN : Nat → Nat → Prop} {SN : Nat → Nat → Prop} {p1 s1 f rr e0 e1 t0 t1 m0 m1 n : Nat} {lv : Int32} (h : XR WN AN TN SN c r p1 s1 f 1 lv rr e0 e1 t0 t1 m0 m1 n) : t0 < t1 := by
  cases f with
  | zero => exact h.elim
  | succ f =>
    obtain ⟨_, _, _, _, ⟨y, _⟩ | ⟨_, y, _⟩ | ⟨y, _⟩⟩ := h
    · exact absurd y.1 (by decide)
    · exact y
    · exact absurd y.1 (by decide)
theorem up_eq (nt : Nat → Nat) (f : Nat) : nt_up nt f f = nt f + 1 := by
  unfold nt_up
  rw [if_pos rfl]
theorem up_ne (nt : Nat → Nat) {f h : Nat} (e : h ≠ f) : nt_up nt f h = nt h := by
  unfold nt_up
  rw [if_neg e]
theorem mR.next (h : mR P nt a g k c0 c r) (M : mo P nt' (k' 0) (k' 1) (k' 2) a' g' (k' 3) (k' 4) (k' 5) (k' 6) (k' 7) (k' 8) (k' 9) c' r') (fc : l2_fr (mj_Wc nt a g k) c c') (fr : l2_fr (mj_Wr nt k) r r') (o : gr k k') (ha : a ≤ a') (hg : g ≤ g') (n0 : ∀ i, i < nt' 0 → ¬ i < nt 0 → tyI c' r' a' g' (k' 6) (k' 2) i) (n1 : ∀ i, i < nt' 1 → ¬ i < nt 1 → tpI c' r' (k' 3) (k' 4) (k' 5) (k' 6) (k' 7) (k' 2) i) (n2 : ∀ i, i < nt' 2 → ¬ i < nt 2 → kdI c' r' (k' 3) (k' 4) (k' 5) (k' 6) (k' 7) (k' 2) i) (n3 : ∀ i, i < nt' 3 → ¬ i < nt 3 → unI c' r' (k' 6) (k' 9) i) (nl : ∀ ln, k 9 ≤ ln → ln < k' 9 → st_R (nt' 2) (nt' 3) c' r' (k' 3) (k' 4) (k' 5) (k' 6) (k' 7) (k' 2) (k' 9) ln) (m : mB True (nt' 2) (nt' 3) c c' r' (k 6) (k' 6) (k 8) (k' 8) (k 2) (k' 2) (k 9) (k' 9)) (h2 : nt 2 ≤ nt' 2) (h3 : nt 3 ≤ nt' 3) (cp : mCN (nt 3) (nt' 3) c' r' (k 6) (k' 6)) (ts : ∀ i, k 2 ≤ i → i < k' 2 → ty_p r' (k' 2) i) (q : nt' 1 = nt 1 ∨ (nt' 1 = nt 1 + 1 ∧ ∃ t0 t1 e0 e1 m0 m1 n : Nat, tpE c' r' (k' 3) (k' 4) (k' 5) (k' 6) (k' 7) (k' 2) (nt 1) t0 t1 e0 e1 m0 m1 n ∧ k 3 ≤ t0 ∧ k 4 ≤ e0 ∧ k 2 ≤ m0) := by exact Or.inl (up_ne _ (by decide))) : mR P nt' a' g' k' c0 c' r' := by
  have h9 : k 9 ≤ 400 := h.1.2.2.2.2.2.2.2.2.2.2.2.2.2
  have n60 : nt 1 ≤ 60 := (h.1.2.1.1 1 (by decide)).1
  refine ⟨M, fun i hi => ?_, fun i hi => ?_, fun i hi => ?_, fun i hi => ?_, fun ln hl => ?_, h.bro fc fr h2 h3 o m (by have := (M.1.mle (by decide)).1; omega), h.calls fc fr h3 cp, fun i _ i2 => ?_, ?_⟩
  · by_cases z : i < nt 0
    · exact (h.2.1 i z).old fc fr z ha hg o
    · exact n0 i hi z
  · by_cases z : i < nt 1
    · exact (h.2.2.1 i z).old fc fr z n60 o
    · exact n1 i hi z
  · by_cases z : i < nt 2
    · exact (h.2.2.2.1 i z).old fc fr z o
    · exact n2 i hi z
  · by_cases z : i < nt 3
    · exact (h.2.2.2.2.1 i z).old fc fr z h9 o
    · exact n3 i hi z
  · by_cases z : ln < k 9
    · exact h.lines fc fr h2 h3 o ln z
    · exact nl ln (by omega) hl
  · by_cases z : i < k 2
    · have q : ∀ b j, (b = 955 ∨ b = 959 ∨ b = 960) → j < k 2 → r'.1 b j = r.1 b j := fun b j y1 y2 => (fr b j (by unfold mj_Wr xWr; omega)).1
      exact (h.2.2.2.2.2.2.2.2.1 i (Nat.zero_le _) z).fr o.2.2.1 (q 955 i (by decide) z) (q 959 i (by decide) z) (q 960 i (by decide) z) (fr 957 i (by unfold mj_Wr xWr; omega)).2.1 (fun j _ hj => q 955 j (by decide) hj)
    · exact ts i (by omega) i2
  · obtain ⟨T0, T1, A0, A1, M0, M1, N, h1, h2'⟩ := h.2.2.2.2.2.2.2.2.2
    rcases q with q | ⟨q, t0, t1, e0, e1, m0, m1, n, q1, q2, q3, q4⟩
    · rw [q]
      exact ⟨T0, T1, A0, A1, M0, M1, N, fun i hi => (h1 i hi).old fc fr hi n60 o, h2'⟩
    · rw [q]
      refine ⟨fun i => if i = nt 1 then t0 else T0 i, fun i => if i = nt 1 then t1 else T1 i, fun i => if i = nt 1 then e0 else A0 i, fun i => if i = nt 1 then e1 else A1 i, fun i => if i = nt 1 then m0 else M0 i, fun i => if i = nt 1 then m1 else M1 i, fun i => if i = nt 1 then n else N i, fun i hi => ?_, fun i j hij hj => ?_⟩
      · dsimp only
        by_cases z : i = nt 1
        · rw [if_pos z, if_pos z, if_pos z, if_pos z, if_pos z, if_pos z, if_pos z, z]
          exact q1
        · rw [if_neg z, if_neg z, if_neg z, if_neg z, if_neg z, if_neg z, if_neg z]
          exact (h1 i (by omega)).old fc fr (by omega) n60 o
      · have zi : ¬ i = nt 1 := by omega
        dsimp only
        rw [if_neg zi, if_neg zi, if_neg zi]
        by_cases z : j = nt 1
        · rw [if_pos z, if_pos z, if_pos z]
          obtain ⟨_, _, _, _, _, ⟨b1, b2, _, b4, _⟩, _⟩ := h1 i (by omega)
          exact ⟨by omega, by omega, by omega⟩
        · rw [if_neg z, if_neg z, if_neg z]
          exact h2' i j hij (by omega)
theorem mj_type {n : Nat} (hn : n = nt 0) {b j : Nat} (y : mt_Wc n a g (k 6) b j) : mj_Wc nt a g k b j := by
  subst hn
  rcases y with y | y | y | y | y | y | y | y | y | y
  · exact Or.inl (x_la y)
  · exact Or.inr (Or.inl y)
  · exact Or.inr (Or.inr (Or.inl y))
  · exact Or.inr (Or.inr (Or.inr (Or.inl y)))
  · exact Or.inl (by unfold xWc; omega)
  · exact Or.inr (Or.inr (Or.inr (Or.inr (Or.inl y))))
  · exact Or.inr (Or.inr (Or.inr (Or.inr (Or.inr (Or.inl y)))))
  · exact Or.inl (by unfold xWc; omega)
  · exact Or.inl (by unfold xWc; omega)
  · exact Or.inr (Or.inr (Or.inr (Or.inr (Or.inr (Or.inr (Or.inl ⟨y.1, by omega⟩))))))
theorem mj_typer {b j : Nat} (y : mt_Wr (nt 0) (k 2) b j) : mj_Wr nt k b j := by
  rcases y with y | y | y | y | y
  · exact Or.inl (x_rn y)
  · exact Or.inl (x_nm y)
  · rcases y with ⟨rfl, y | y | y | y⟩
    · exact Or.inl (by unfold xWr; omega)
    · exact Or.inl (by unfold xWr; omega)
    · exact Or.inr (Or.inl ⟨rfl, Or.inl y⟩)
    · exact Or.inr (Or.inl ⟨rfl, Or.inr (Or.inl y)⟩)
  · exact Or.inl (by unfold xWr; omega)
  · exact Or.inr (Or.inr (Or.inl ⟨y.1, y.2.1, by omega⟩))
theorem mj_templ (hn : nt 1 < 60) {b j : Nat} (y : mm_Wc (nt 1) (k 3) (k 4) (k 5) (k 6) b j) : mj_Wc nt a g k b j := by
  rcases y with y | y | y | y | y
  · exact Or.inl (y)
  · exact Or.inr (Or.inl (y))
  · exact Or.inr (Or.inr (Or.inr (Or.inr (Or.inr (Or.inr (Or.inr (Or.inl (y))))))))
  · exact Or.inr (Or.inr (Or.inr (Or.inr (Or.inr (Or.inr (Or.inr (Or.inr (Or.inl (⟨by omega, by omega⟩)))))))))
  · exact Or.inr (Or.inr (Or.inr (Or.inr (Or.inr (Or.inr (Or.inr (Or.inr (Or.inr (Or.inr (Or.inr (Or.inr (Or.inr (Or.inr (Or.inr (Or.inr (Or.inr (⟨y.1, by omega, by omega⟩)))))))))))))))))
theorem mj_templr {b j : Nat} (y : mm_Wr (nt 1) (k 2) (k 7) b j) : mj_Wr nt k b j := by
  rcases y with y | y | y
  · exact Or.inl (y)
  · exact Or.inr (Or.inl (⟨y.1, by omega⟩))
  · exact Or.inr (Or.inr (Or.inr (Or.inl (⟨y.1, y.2.1, by omega⟩))))
theorem mj_comp {b j : Nat} (y : kd_Wc (nt 2) (k 3) (k 4) (k 5) (k 6) b j) : mj_Wc nt a g k b j := by
  rcases y with y | y | y | y | y | y | y | y
  · exact Or.inl (y)
  · exact Or.inr (Or.inl (y))
  · exact Or.inr (Or.inr (Or.inr (Or.inr (Or.inr (Or.inr (Or.inr (Or.inr (Or.inr (Or.inl (⟨y.1, Or.inl y.2⟩))))))))))
  · exact Or.inr (Or.inr (Or.inr (Or.inr (Or.inr (Or.inr (Or.inr (Or.inr (Or.inr (Or.inr (Or.inl (⟨y.1, by omega⟩)))))))))))
  · exact Or.inr (Or.inr (Or.inr (Or.inr (Or.inr (Or.inr (Or.inr (Or.inr (Or.inr (Or.inr (Or.inr (Or.inl (⟨y.1, y.2.1⟩))))))))))))
  · exact Or.inr (Or.inr (Or.inr (Or.inr (Or.inr (Or.inr (Or.inr (Or.inr (Or.inr (Or.inr (Or.inr (Or.inr (Or.inl (⟨y.1, y.2.1⟩)))))))))))))
  · exact Or.inr (Or.inr (Or.inr (Or.inr (Or.inr (Or.inr (Or.inr (Or.inr (Or.inr (Or.inr (Or.inr (Or.inr (Or.inr (Or.inl (⟨y.1, y.2.1, y.2.2.1⟩))))))))))))))
  · exact Or.inr (Or.inr (Or.inr (Or.inr (Or.inr (Or.inr (Or.inr (Or.inr (Or.inr (Or.inr (Or.inr (Or.inr (Or.inr (Or.inr (Or.inr (Or.inr (Or.inr (⟨y.1, by omega, by omega⟩)))))))))))))))))
theorem mj_compr {b j : Nat} (y : kd_Wr (nt 2) (k 2) (k 7) b j) : mj_Wr nt k b j := by
  rcases y with y | y | y | y | y | y
  · exact Or.inl (y)
  · exact Or.inr (Or.inl (⟨y.1, by omega⟩))
  · exact Or.inr (Or.inr (Or.inr (Or.inr (Or.inl (⟨y.1, by omega⟩)))))
  · exact Or.inr (Or.inr (Or.inr (Or.inr (Or.inr (Or.inl (⟨y.1, y.2.1⟩))))))
  · exact Or.inr (Or.inr (Or.inr (Or.inr (Or.inr (Or.inr (Or.inl (⟨y.1, y.2.1⟩)))))))
  · exact Or.inr (Or.inr (Or.inr (Or.inr (Or.inr (Or.inr (Or.inr (Or.inl (⟨y.1, y.2.1, y.2.2.1⟩))))))))
theorem mj_unit {b j : Nat} (y : un_Wc (nt 3) k b j) : mj_Wc nt a g k b j := by
  rcases y with (y | y | y | y | y) | y | y | y | y
  · exact Or.inl (y)
  · exact Or.inr (Or.inr (Or.inr (Or.inr (Or.inr (Or.inr (Or.inr (Or.inr (Or.inr (Or.inl (⟨y.1, Or.inr (Or.inr y.2)⟩))))))))))
  · exact Or.inr (Or.inr (Or.inr (Or.inr (Or.inr (Or.inr (Or.inr (Or.inr (Or.inr (Or.inr (Or.inr (Or.inr (Or.inr (Or.inr (Or.inl (⟨by omega, by omega, by omega⟩)))))))))))))))
  · exact Or.inr (Or.inr (Or.inr (Or.inr (Or.inr (Or.inr (Or.inr (Or.inr (Or.inr (Or.inr (Or.inr (Or.inr (Or.inr (Or.inr (Or.inr (Or.inl (⟨y.1, by omega⟩))))))))))))))))
  · exact Or.inr (Or.inr (Or.inr (Or.inr (Or.inr (Or.inr (Or.inr (Or.inr (Or.inr (Or.inr (Or.inr (Or.inr (Or.inr (Or.inr (Or.inr (Or.inr (Or.inl (y)))))))))))))))))
  · exact Or.inr (Or.inl (y))
  · exact Or.inr (Or.inr (Or.inr (Or.inr (Or.inr (Or.inr (Or.inr (Or.inr (Or.inr (Or.inl (⟨y.1, Or.inr (Or.inl y.2)⟩))))))))))
  · exact Or.inr (Or.inr (Or.inr (Or.inr (Or.inr (Or.inr (Or.inr (Or.inr (Or.inr (Or.inr (Or.inr (Or.inr (Or.inr (Or.inr (Or.inl (⟨y.1, y.2.1, by omega⟩)))))))))))))))
  · exact Or.inr (Or.inr (Or.inr (Or.inr (Or.inr (Or.inr (Or.inr (Or.inr (Or.inr (Or.inr (Or.inr (Or.inr (Or.inr (Or.inr (Or.inr (Or.inr (Or.inr (⟨y.1, by omega, by omega⟩)))))))))))))))))
theorem mj_unitr {b j : Nat} (y : un_Wr (nt 3) k b j) : mj_Wr nt k b j := by
  rcases y with (y | y | y | y | y) | y | y
  · exact Or.inl (y)
  · exact Or.inr (Or.inl (⟨y.1, by omega⟩))
  · exact Or.inr (Or.inr (Or.inr (Or.inr (Or.inr (Or.inr (Or.inr (Or.inr (Or.inl (⟨by omega, by omega, by omega, by omega⟩)))))))))
  · exact Or.inr (Or.inr (Or.inr (Or.inr (Or.inr (Or.inr (Or.inr (Or.inr (Or.inr (Or.inl (⟨y.1, by omega⟩))))))))))
  · exact Or.inr (Or.inr (Or.inr (Or.inr (Or.inr (Or.inr (Or.inr (Or.inr (Or.inr (Or.inr (y))))))))))
  · exact Or.inr (Or.inl (⟨y.1, by omega⟩))
  · exact Or.inr (Or.inr (Or.inr (Or.inr (Or.inr (Or.inr (Or.inr (Or.inr (Or.inl (⟨y.1, y.2.1, y.2.2.1, by omega⟩)))))))))
theorem mR_type (h : mR P nt a g k c0 c r) (h8 : c.1 1 8 = nI 200) : t_h2 (f_X6_readTypeItem c) (k_X13_item_16 0 r) (mP P k c0 c r) := by
  refine h2_imp (mi_type h.1 h8) (fun c' r' hq => ⟨hq.1, hq.2.1, ?_⟩)
  rcases hq.2.2 with ⟨u', q', m', a', g', l', M, x1, x2, x3, x4, x5, x6, x7, fc, fr, y1, y2, y3, y4, y5, y6, y7⟩ | hf
  rotate_left
  · exact Or.inr hf
  have e2 : nt_up nt 0 2 = nt 2 := up_ne nt (by decide)
  have e3 : nt_up nt 0 3 = nt 3 := up_ne nt (by decide)
  have hBB : mB True (nt_up nt 0 2) (nt_up nt 0 3) c c' r' (k 6) l' (k 8) (k 8) (k 2) m' (k 9) (k 9) := mB.ofT y6 (fc 846 7 (by unfold mt_Wc la_W; omega)).1 (fc 846 8 (by unfold mt_Wc la_W; omega)).1 (k 8) (k 9)
  refine Or.inl ⟨nt_up nt 0, a', g', ck u' q' m' (k 3) (k 4) (k 5) l' (k 7) (k 8) (k 9), h.next M (fc.mono (fun b j y => mj_type rfl y)) (fr.mono (fun b j y => mj_typer y)) ⟨Nat.le_of_lt x1, Nat.le_of_lt x2, Nat.le_of_lt x4, Nat.le_refl _, Nat.le_refl _, Nat.le_refl _, x6, Nat.le_refl _, Nat.le_refl _, Nat.le_refl _⟩ (Nat.le_of_lt x3) x5 (fun i h1 h2 => ?_) (fun i h1 h2 => ?_) (fun i h1 h2 => ?_) (fun i h1 h2 => ?_) (fun ln l1 l2 => ?_) ?_ (by rw [e2]; exact Nat.le_refl _) (by rw [e3]; exact Nat.le_refl _) (fun e e1 e2 y => absurd y (hBB.2.1 e e1 e2).nocall) y7, x1⟩
  · rw [up_eq] at h1
    have e : i = nt 0 := by omega
    subst e
    exact ⟨a, a', k 2, m', g', ⟨Nat.le_refl _, Nat.le_refl _, Nat.le_refl _⟩, y1, y2, y3, y4, y5⟩
  · rw [up_ne nt (by decide)] at h1
    exact absurd h1 h2
  · rw [e2] at h1
    exact absurd h1 h2
  · rw [e3] at h1
    exact absurd h1 h2
  · have l2 : ln < k 9 := l2
    omega
  · exact hBB
theorem xD_A.seen {c r : t_S} {l l' j : Nat} (h : xD_A E_t c r l l' j) (hK : ∃ K : Nat, r.1 955 j = nI K ∧ (55 ≤ K ∧ K ≤ 57 ∨ 61 ≤ K ∧ K ≤ 63)) : r.2.1 958 j = 0 ∧ ∃ p : Nat, p ≤ 12000 ∧ r.1 956 j = nI p := by
  have key : ∀ K K' : Nat, K' ≤ 72 → (55 ≤ K ∧ K ≤ 57 ∨ 61 ≤ K ∧ K ≤ 63) → nI K' = nI K → K' = K := fun K K' a b e => (nI_eq (by omega) (by omega)).mp e
  obtain ⟨K, k1, k2⟩ := hK
  obtain ⟨K', _, b2, a3, _, _, a6, _⟩ := h
  have e := key K K' b2 k2 (a3.symm.trans k1)
  subst e
  exact ⟨(a6 k2).1, (a6 k2).2⟩
theorem mR_templ (h : mR P nt a g k c0 c r) (h8 : c.1 1 8 = nI 201) : t_h2 (f_X6_readTemplateItem c) (k_X13_item_16 1 r) (mP P k c0 c r) := by
  refine h2_imp (mm_item h.1 h8) (fun c' r' hq => ⟨hq.1, hq.2.1, ?_⟩)
  rcases hq.2.2 with ⟨u', q', m', t', e', p', l', s', i', n', M, ⟨o0, o1, o2, o3, o4, o5, o6, o7, o8⟩, n60, fc, fr, ⟨v0, v2, v3, v4⟩, ⟨pl, w1, w2, w3⟩, w4, w5, w6, w7, w8, w9⟩ | hf
  rotate_left
  · exact Or.inr hf
  have e2 : nt_up nt 1 2 = nt 2 := up_ne nt (by decide)
  have e3 : nt_up nt 1 3 = nt 3 := up_ne nt (by decide)
  have xa := w6.at
  have hBB : mB False (nt_up nt 1 2) (nt_up nt 1 3) c c' r' (k 6) l' (k 8) i' (k 2) m' (k 9) (k 9) := mB.ofX w7 ⟨rfl, Or.inl ⟨rfl, rfl, rfl, rfl, fun _ => rfl⟩⟩ (fun j => (fc 7 j (by unfold mm_Wc xWc; omega)).1) (k 9)
  refine Or.inl ⟨nt_up nt 1, a, g, ck u' q' m' t' (e' + 1) p' l' s' i' (k 9), h.next M (fc.mono (fun b j y => mj_templ n60 y)) (fr.mono (fun b j y => mj_templr y)) ⟨Nat.le_of_lt o0, Nat.le_of_lt o1, Nat.le_of_lt o2, o3, Nat.le_succ_of_le o4, o5, o6, o7, o8, Nat.le_refl _⟩ (Nat.le_refl _) (Nat.le_refl _) (fun i h1 h2 => ?_) (fun i h1 h2 => ?_) (fun i h1 h2 => ?_) (fun i h1 h2 => ?_) (fun ln l1 l2 => ?_) ?_ (by rw [e2]; exact Nat.le_refl _) (by rw [e3]; exact Nat.le_refl _) (fun e e1 e2 y => absurd y (hBB.2.1 e e1 e2).nocall) (fun i i1 i2 => hBB.tys _ i i1 i2) (q := Or.inr ⟨up_eq nt 1, k 3, t', k 4, e', k 2, m', n', ⟨k 6, l', p', s', pl, ⟨Nat.le_refl _, Nat.le_refl _, Nat.le_refl _, Nat.le_refl _, Nat.le_refl _, Nat.le_refl _⟩, ⟨v0, v2, v3, v4⟩, ⟨w1, w2, w3⟩, w4, w5, ⟨w6.t01, xa.2.2.1, xa.2.2.2⟩, w6, w8, w9, fun j j1 j2 hK => (w7.1 j j1 j2).seen hK⟩, Nat.le_refl _, Nat.le_refl _, Nat.le_refl _⟩), o0⟩
  · rw [up_ne nt (by decide)] at h1
    exact absurd h1 h2
  · rw [up_eq] at h1
    have e : i = nt 1 := by omega
    subst e
    exact ⟨k 3, t', k 4, e', k 6, l', k 2, m', p', s', n', pl, ⟨Nat.le_refl _, Nat.le_refl _, Nat.le_refl _, Nat.le_refl _, Nat.le_refl _, Nat.le_refl _⟩, ⟨v0, v2, v3, v4⟩, ⟨w1, w2, w3⟩, w4, w5, ⟨w6.t01, xa.2.2.1, xa.2.2.2⟩, w6, w8, w9⟩
  · rw [e2] at h1
    exact absurd h1 h2
  · rw [e3] at h1
    exact absurd h1 h2
  · have l2 : ln < k 9 := l2
    omega
  · exact hBB.weak
theorem mR_comp (h : mR P nt a g k c0 c r) (h8 : c.1 1 8 = nI 202) : t_h2 (f_X6_readComponentItem c) (k_X13_item_16 2 r) (mP P k c0 c r) := by
  refine h2_imp (kd_item h.1 h8) (fun c' r' hq => ⟨hq.1, hq.2.1, ?_⟩)
  rcases hq.2.2 with ⟨u', q', m', t', e', p', l', s', i', v0, v1, v2, A, B, D, M, ⟨o0, o1, o2, o3, o4, o5, o6, o7, o8⟩, n8, fc, fr, hc, hB, hV⟩ | hf
  rotate_left
  · exact Or.inr hf
  have e2 : nt_up nt 2 2 = nt 2 + 1 := up_eq nt 2
  have e3 : nt_up nt 2 3 = nt 3 := up_ne nt (by decide)
  have hBB : mB False (nt_up nt 2 2) (nt_up nt 2 3) c c' r' (k 6) l' (k 8) i' (k 2) m' (k 9) (k 9) := by
    rw [e2, e3]
    exact hB
  refine Or.inl ⟨nt_up nt 2, a, g, ck u' q' m' t' e' p' l' s' i' (k 9), h.next M (fc.mono (fun b j y => mj_comp y)) (fr.mono (fun b j y => mj_compr y)) ⟨Nat.le_of_lt o0, o1, o2, o3, o4, o5, o6, o7, o8, Nat.le_refl _⟩ (Nat.le_refl _) (Nat.le_refl _) (fun i h1 h2 => ?_) (fun i h1 h2 => ?_) (fun i h1 h2 => ?_) (fun i h1 h2 => ?_) (fun ln l1 l2 => ?_) ?_ (by rw [e2]; exact Nat.le_succ _) (by rw [e3]; exact Nat.le_refl _) (fun e e1 e2 y => absurd y (hBB.2.1 e e1 e2).nocall) (fun i i1 i2 => hBB.tys _ i i1 i2), o0⟩
  · rw [up_ne nt (by decide)] at h1
    exact absurd h1 h2
  · rw [up_ne nt (by decide)] at h1
    exact absurd h1 h2
  · rw [e2] at h1
    have e : i = nt 2 := by omega
    subst e
    exact ⟨v0, v1, v2, A, B, D, hc, hV⟩
  · rw [e3] at h1
    exact absurd h1 h2
  · have l2 : ln < k 9 := l2
    omega
  · exact hBB.weak
theorem mR_unit (h : mR P nt a g k c0 c r) (hso : so ≤ 2) (h8 : c.1 1 8 = nI (203 + so)) : t_h2 (f_X6_readUnitItem (nI so) c) (k_X13_item_16 (nI (3 + so)) r) (mP P k c0 c r) := by
  refine h2_imp (un_item h.1 (fun i hi => ?_) hso h8) (fun c' r' hq => ⟨hq.1, hq.2.1, ?_⟩)
  · obtain ⟨v0, v1, v2, A, B, D, hc, _⟩ := h.2.2.2.1 i hi
    exact ⟨v0, v1, v2, A, B, D, hc⟩
  rcases hq.2.2 with ⟨k', pn, n', Y, pl, L', fst, M, u0, o, n40, fc, fr, x1, x2, ⟨x3, x4, l61, x5, x6, x7, x11⟩, ⟨x8, x9, x10⟩, hB, ls⟩ | hf
  rotate_left
  · exact Or.inr hf
  have e2 : nt_up nt 3 2 = nt 2 := up_ne nt (by decide)
  have e3 : nt_up nt 3 3 = nt 3 + 1 := up_eq nt 3
  refine Or.inl ⟨nt_up nt 3, a, g, k', h.next M (fc.mono (fun b j y => mj_unit y)) (fr.mono (fun b j y => mj_unitr y)) o (Nat.le_refl _) (Nat.le_refl _) (fun i h1 h2 => ?_) (fun i h1 h2 => ?_) (fun i h1 h2 => ?_) (fun i h1 h2 => ?_) (fun ln l1 l2 => ?_) ?_ (by rw [e2]; exact Nat.le_refl _) (by rw [e3]; exact Nat.le_succ _) (fun e e1 e2' y => ?_) (fun i i1 i2 => hB.tys _ i i1 i2), u0⟩
  · rw [up_ne nt (by decide)] at h1
    exact absurd h1 h2
  · rw [up_ne nt (by decide)] at h1
    exact absurd h1 h2
  · rw [e2] at h1
    exact absurd h1 h2
  · rw [e3] at h1
    have e : i = nt 3 := by omega
    subst e
    exact ⟨so, pn, n', Y, pl, k 6, k 9, k' 9, L', fst, hso, x1, x2, ⟨x3, x4, l61, x5, x6, x7⟩, ⟨x8, x9, x10⟩, Nat.le_refl _, fun ln l1 l2 => (ls ln l1 l2).2⟩
  · rw [e2, e3]
    exact (ls ln l1 l2).1
  · rw [e2, e3]
    exact hB.weak
  · have ne : e ≠ k 6 := fun z => by
      subst z
      rw [x5.1] at y
      exact absurd y (by unfold tc_K; decide)
    obtain ⟨y1, y2, y3, y4⟩ := x11 e (by omega) e2'
    have first : ∀ e' : Nat, k 6 ≤ e' → (tc_K (c'.1 849 e') ∨ c'.1 849 e' = 1) → k 6 + 1 ≤ e' := fun e' z1 z2 => by
      by_cases z : e' = k 6
      · subst z
        rw [x5.1] at z2
        exact absurd z2 (by unfold tc_K; decide)
      · omega
    refine ⟨nt 3, ⟨Nat.le_refl _, by omega, n40⟩, y1, fun _ => ?_, fun z e' z1 z2 z3 => y3 z e' (first e' z1 (Or.inl z3)) z2 z3, fun z => ⟨(y4 z).1, fun e' z1 z2 z3 => (y4 z).2 e' (first e' z1 (Or.inr z3)) z2 z3⟩⟩
    rw [x7, nI_toInt (by omega)]
    exact y2
end
