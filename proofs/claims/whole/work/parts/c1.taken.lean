/-! Level 2: a name of the module taken, on both sides. -/
section
variable {P : pc_S} {nt : Nat → Nat} {u d z q m f : Nat} {c r : t_S}
/-- .. nothing of it written -/
theorem nt_R.fr {W : Nat} {c' r' : t_S} {Wc Wr : Nat → Nat → Prop} (h : nt_R W nt c r) (fc : l2_fr Wc c c') (fr : l2_fr Wr r r') (w1 : ∀ j, ¬ Wc 6 j) (w2 : ¬ Wc 316 13 ∧ ¬ Wc 353 11 ∧ ¬ Wc 428 0 ∧ ¬ Wc 428 9) (w3 : ¬ Wr 950 40 ∧ ¬ Wr 950 44 ∧ ¬ Wr 950 55 ∧ ¬ Wr 950 64) (w4 : ∀ b j, b = 964 ∨ b = 967 ∨ b = 970 ∨ b = 980 → ¬ Wr b j) : nt_R W nt c' r' := by
  have eB : ∀ g, nt_B g = 964 ∨ nt_B g = 967 ∨ nt_B g = 970 ∨ nt_B g = 980 := fun g => by
    unfold nt_B
    split
    · omega
    · split
      · omega
      · split <;> omega
  refine ⟨fun g hg => ⟨(h.1 g hg).1, ?_, ?_⟩, fun g k hg hk => ?_, fun Y hY => ?_⟩
  · have := (h.1 g hg).2.1
    unfold nt_cc at this ⊢
    rw [(fc 316 13 w2.1).1, (fc 353 11 w2.2.1).1, (fc 428 0 w2.2.2.1).1, (fc 428 9 w2.2.2.2).1]
    exact this
  · have := (h.1 g hg).2.2
    unfold nt_rc at this ⊢
    rw [(fr 950 40 w3.1).1, (fr 950 44 w3.2.1).1, (fr 950 55 w3.2.2.1).1, (fr 950 64 w3.2.2.2).1]
    exact this
  · obtain ⟨Y, y1, y2, y3, y4⟩ := h.2.1 g k hg hk
    exact ⟨Y, y1, y2, by rw [(fr _ k (w4 _ k (eB g))).1]; exact y3, by rw [(fc 6 _ (w1 _)).1]; exact y4⟩
  · rcases h.2.2 Y hY with y | ⟨g, k, a1, a2, a3, a4⟩
    · exact Or.inl (by rw [(fc 6 _ (w1 _)).1]; exact y)
    · exact Or.inr ⟨g, k, a1, a2, by rw [(fr _ k (w4 _ k (eB g))).1]; exact a3, by rw [(fc 6 _ (w1 _)).1]; exact a4⟩
def nk_W (b j : Nat) : Prop := rn_W b j ∨ nm_W b j
/-- what becomes of the name at the token -/
def nt_O (P : pc_S) (nt : Nat → Nat) (u z q m f : Nat) (c r : t_S) (y x : Int32 × t_S) : Prop := (∃ X, X < 7934 ∧ 66 + X < pc_W P ∧ y.1 = 1 ∧ x.1 = nI X ∧ c.1 1 8 = 1 ∧ c.2.1 1 10 = lN (66 + X) ∧ nt f < nt_M f ∧ c.1 6 (66 + X) = 0 ∧ l2_fr (fun b j => b = 6 ∧ j = 66 + X) c y.2 ∧ y.2.1 6 (66 + X) = nI (1 + 100 * f + nt f) ∧ l2_fr nm_W r x.2 ∧ pj P u 1 z q m y.2 x.2) ∨ (y.1 = 0 ∧ l2_fr la_W c y.2 ∧ l2_fr nk_W r x.2 ∧ pf P y.2 x.2)
theorem nt_take (J : pj P u d z q m c r) (hz : z ≤ 1) (hN : nt_R (pc_W P) nt c r) (hf : f < 4) : t_h2 (f_X6_takeName (nI f) (nI (nt f)) (nI (nt_M f)) c) (f_X13_outside (nI (nt f)) (nI (nt_M f)) r) (nt_O P nt u z q m f c r) := by
  have le := hN.le hf
  have lm := (hN.1 f hf).1
  have mm : nt_M f ≤ 60 := by
    unfold nt_M
    split
    · omega
    · split
      · omega
      · split <;> omega
  -- behind a fault
  have k64 : ∀ {c' : t_S} {f2 p : Nat}, lc_F c' f2 p → k_X6_takeName_64 (nI f) (nI (nt f)) c' = some (0, c') := fun h => by
    unfold k_X6_takeName_64
    rw [if_neg h.ne]
  have k29 : ∀ {r' : t_S} {f2 p : Nat} (v : Int32), pr P f2 p r' → k_X13_outside_29 (nI (nt f)) (nI (nt_M f)) v r' = some (v, r') := fun v h => by
    unfold k_X13_outside_29
    by_cases y : nI (nt f) = nI (nt_M f)
    · rw [if_pos y, (pr_next h).2]
      rfl
    · rw [if_neg y]
  unfold f_X6_takeName f_X13_outside
  by_cases k8 : c.1 1 8 = 1
  rotate_left
  · rw [if_neg k8]
    refine h2_bb _ (pj_noname J hz k8) (fun c' x hx => ?_)
    obtain ⟨w1, w2, f2, p0, w3, w4⟩ := hx
    rw [if_neg w4.ne, k64 w3, k29 _ w4]
    exact h2_sm (Or.inr ⟨rfl, w1, w2.mono (fun b j y => Or.inl y), f2, p0, w3, w4⟩)
  obtain ⟨x, e1, X, hX, n1, n2, n3, J1⟩ := pj_name J k8
  have hW := J.wW k8 hX n1
  have wd : f_X2_word c = nI (66 + X) := pj.wd n1
  rw [if_pos k8, wd, if_pos (l2_ix (by omega) (by decide)), nI_clamp (n := 66 + X) (by omega), e1, l2_bs, if_pos J1.f0.2, n2]
  obtain ⟨v, v1, v2, v3⟩ := (hN.fr (l2_fr.rf (W := fun _ _ => False)) n3 (fun j y => y) ⟨fun y => y, fun y => y, fun y => y, fun y => y⟩ ⟨by unfold nm_W; omega, by unfold nm_W; omega, by unfold nm_W; omega, by unfold nm_W; omega⟩ (fun b j y => by unfold nm_W; omega)).is hX hW
  rw [v1, l2_bs]
  by_cases k6 : c.1 6 (66 + X) = 0
  · rw [if_pos k6, if_pos (v3.mpr k6)]
    by_cases ml : nt f < nt_M f
    · rw [if_pos ((nI_ltI (by omega) (by omega)).mpr ml)]
      unfold k_X6_takeName_64 k_X13_outside_29
      rw [if_pos J.f0.1, wd, if_pos (l2_ix (by omega) (by decide)), nI_clamp (n := 66 + X) (by omega), if_neg (fun y => by have := (nI_eq (by omega) (by omega)).mp y; omega)]
      have ev : (1 : Int32) + (100 : Int32) * nI f + nI (nt f) = nI (1 + 100 * f + nt f) := by
        rw [show (100 : Int32) = nI 100 from rfl, show (1 : Int32) = nI 1 from rfl, pk_mul, nI_add, nI_add]
      rw [ev]
      have g : l2_fr (fun b j => b = 6 ∧ j = 66 + X) c (t_setI c 6 (66 + X) (nI (1 + 100 * f + nt f))) := l2_fr.set ⟨rfl, rfl⟩
      have gv : (t_setI c 6 (66 + X) (nI (1 + 100 * f + nt f))).1 6 (66 + X) = nI (1 + 100 * f + nt f) := by simp only [l2_gI, reduceIte]
      refine h2_sm (Or.inl ⟨X, hX, hW, rfl, rfl, k8, n1, ml, k6, g, gv, n3, ?_⟩)
      exact J1.fr g (l2_fr.rf (W := fun _ _ => False)) (fun j => by omega) (fun b i _ _ => by omega) (fun b i _ _ => by omega) (by omega) (fun j _ y => y) (fun b i _ _ y => y)
    · rw [if_neg (fun y => ml ((nI_ltI (by omega) (by omega)).mp y))]
      unfold k_X13_outside_29
      rw [if_pos (show nI (nt f) = nI (nt_M f) by rw [show nt f = nt_M f by omega])]
      refine h2_bb _ (pj_fail (f := 5) J1 hz (by decide)) (fun c' r' hw => ?_)
      obtain ⟨w1, w2, f2, p0, w3, w4⟩ := hw
      rw [k64 w3]
      exact h2_sm (Or.inr ⟨rfl, w1, (n3.mono (fun b j y => Or.inr y)).trans (w2.mono (fun b j y => Or.inl y)), f2, p0, w3, w4⟩)
  · rw [if_neg k6, if_neg (fun y => k6 (v3.mp y))]
    refine h2_bb _ (pj_fail (f := 3) J1 hz (by decide)) (fun c' r' hw => ?_)
    obtain ⟨w1, w2, f2, p0, w3, w4⟩ := hw
    rw [k64 w3, k29 _ w4]
    exact h2_sm (Or.inr ⟨rfl, w1, (n3.mono (fun b j y => Or.inr y)).trans (w2.mono (fun b j y => Or.inl y)), f2, p0, w3, w4⟩)
/-- .. one more is told -/
def nt_up (nt : Nat → Nat) (f : Nat) : Nat → Nat := fun g => if g = f then nt f + 1 else nt g
theorem nt_R.add {W X : Nat} {c' r' : t_S} (h : nt_R W nt c r) (hf : f < 4) (hX : X < 7934) (hW : 66 + X < W) (hm : nt f < nt_M f) (k6 : c.1 6 (66 + X) = 0) (g1 : ∀ j, j ≠ 66 + X → c'.1 6 j = c.1 6 j) (g2 : c'.1 6 (66 + X) = nI (1 + 100 * f + nt f)) (g3 : ∀ g, g < 4 → nt_cc c' g = nI (nt_up nt f g) ∧ nt_rc r' g = nI (nt_up nt f g)) (g4 : ∀ g k, g < 4 → k < nt g → r'.1 (nt_B g) k = r.1 (nt_B g) k) (g5 : r'.1 (nt_B f) (nt f) = nI X) : nt_R W (nt_up nt f) c' r' := by
  have up : ∀ g k, k < nt_up nt f g → k < nt g ∨ g = f ∧ k = nt f := fun g k hk => by
    unfold nt_up at hk
    split at hk
    · rename_i e
      subst e
      omega
    · exact Or.inl hk
  have lo : ∀ g k, k < nt g → k < nt_up nt f g := fun g k hk => by
    unfold nt_up
    split
    · rename_i e
      subst e
      omega
    · exact hk
  refine ⟨fun g hg => ⟨?_, g3 g hg⟩, fun g k hg hk => ?_, fun Y hY => ?_⟩
  · unfold nt_up
    split
    · rename_i e
      subst e
      omega
    · exact (h.1 g hg).1
  · rcases up g k hk with hk | ⟨rfl, rfl⟩
    · obtain ⟨Y, y1, y2, y3, y4⟩ := h.2.1 g k hg hk
      have := h.le hg
      have ne : 66 + Y ≠ 66 + X := fun e => by
        rw [e, k6] at y4
        have := (nI_eq (a := 0) (by decide) (by omega)).mp y4
        omega
      exact ⟨Y, y1, y2, by rw [g4 g k hg hk]; exact y3, by rw [g1 _ ne]; exact y4⟩
    · exact ⟨X, hX, hW, g5, g2⟩
  · by_cases e : Y = X
    · subst e
      refine Or.inr ⟨f, nt f, hf, ?_, g5, g2⟩
      unfold nt_up
      rw [if_pos rfl]
      omega
    · rcases h.2.2 Y hY with y | ⟨g, k, a1, a2, a3, a4⟩
      · exact Or.inl (by rw [g1 _ (by omega)]; exact y)
      · exact Or.inr ⟨g, k, a1, lo g k a2, by rw [g4 g k a1 a2]; exact a3, by rw [g1 _ (by omega)]; exact a4⟩
end
