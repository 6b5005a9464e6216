/-! Level 2: exps worked out: alike or not; all operations of numbers. -/
section
variable {κ : KPP} {c0 r0 : t_S} {Kc : t_S → t_S → Prop} {Kr : Nat → Nat → t_S → t_S → Prop} {c r c1 r1 c' r' : t_S} {D a H S rr rr2 e0 e1 i g n nn m m0 m1 cnt o K st X b sz n0 n1 n2 k1 k2 : Nat} {oc or : Option t_S}
/-- alike on one side as on the other -/
theorem sm_both (h : T2 D a H n1 k1 n2 k2 c1 r1) : ∃ v : Int32, (v = 0 ∨ v = 1) ∧ f_X8_same 338 (nI a) 338 (nI (a + n1)) c1 = some v ∧ f_X13_isAlike (nI (260 * (40 + H))) (nI (260 * (41 + H))) r1 = some v := by
  obtain ⟨⟨V, W⟩, _, _, b1, b2, b3⟩ := h
  have v1 := VW.vr _ _ _ _ _ V
  have v2 := VW.vr _ _ _ _ _ W
  have p1 := V.pos
  have p2 := W.pos
  have m1 := V.m2
  have m2 := W.m2
  obtain ⟨t, k, hd, _⟩ := V.hd
  obtain ⟨v, e, e01, e1⟩ := vr_isAlike (by decide) (by decide) v1 v2 (by omega) (by omega)
  have cl := vl_rows (a := 338) (b := 338) (i := a) (j := a + n1) (n := n1) (s := c1) (by decide +kernel) (by decide +kernel) (by decide +kernel) (by decide +kernel) (by show a + n1 ≤ 48000; omega) (by show a + n1 + n1 ≤ 48000; omega) p1.1 hd
  refine ⟨v, e01, ?_, e⟩
  rw [cl]
  by_cases y : ∀ d, d < n1 → c1.2.1 338 (a + d) = c1.2.1 338 (a + n1 + d)
  · rw [if_pos y]
    obtain ⟨_, z2, z3⟩ := VR.sameR kp_wd1 _ _ _ _ _ _ _ _ _ _ v1 v2 (fun d hd => (y d hd).symm)
    rw [e1.mpr ⟨z2, z3⟩]
  · rw [if_neg y]
    rcases e01 with z | z
    · rw [z]
    · exfalso
      obtain ⟨z1, z2⟩ := e1.mp z
      exact y (fun d hd => ((VR.sameC kp_wd2 _ _ _ _ _ _ _ _ _ _ v1 v2 z2).2.2 d hd).symm)
theorem uo_same (h : T2 D a H n1 k1 n2 k2 c1 r1) : UO D a H c1 r1 (f_X0_binary (nI 26) c1) (f_X13_join (nI 15677) r1) ∧ UO D a H c1 r1 (f_X0_binary (nI 27) c1) (f_X13_join (nI 8509) r1) := by
  obtain ⟨v, v01, hc, hr⟩ := sm_both h
  obtain ⟨rs, hrs, s98, s97, fs, sJ, e2, eu, et⟩ := t2_off h
  rw [bi_x h, bi_x h]
  unfold bX f_X13_join k_X13_join_24
  rw [hc, eu, et, hr, e2, ← hrs]
  have fin : ∀ b : Int32, UO D a H c1 r1 (k_X0_binary_154 b (t_setI c1 334 7 (nI (D + 1)))) (k_X13_join_65 b rs) := fun b => uo_tru2 (b := b) h hrs rfl rfl
  constructor
  · rw [if_neg (by decide), if_neg (by decide), if_neg (by decide), l2_bs, t_let, t2_7 h, if_pos (show nI 26 = (26 : Int32) from rfl), if_pos (show nI 15677 = (15677 : Int32) from rfl), l2_bs, t_let, if_pos (show nI 15677 = (15677 : Int32) from rfl)]
    unfold k_X0_binary_146 k_X13_join_57
    rcases v01 with rfl | rfl
    · rw [if_neg (by decide), if_neg (by decide)]
      exact fin 0
    · rw [if_pos rfl, if_pos rfl]
      exact fin 1
  · rw [if_neg (by decide), if_neg (by decide), if_neg (by decide), l2_bs, t_let, t2_7 h, if_neg (show ¬ nI 27 = (26 : Int32) by decide), if_neg (show ¬ nI 8509 = (15677 : Int32) by decide), if_pos (show nI 8509 = (8509 : Int32) from rfl), l2_bs, t_let, if_neg (show ¬ nI 8509 = (15677 : Int32) by decide)]
    unfold k_X0_binary_146 k_X13_join_57
    rcases v01 with rfl | rfl
    · rw [if_pos rfl, if_pos rfl]
      exact fin 1
    · rw [if_neg (by decide), if_neg (by decide)]
      exact fin 0
/-- all but & -/
theorem uo_two {x o : Nat} (hx : px_two x o) (h38 : o ≠ 21) (h : T2 D a H n1 k1 n2 k2 c1 r1) : UO D a H c1 r1 (f_X0_binary (nI o) c1) (f_X13_join (nI x) r1) := by
  have ord : ∀ (x o : Nat), (x = 60 ∧ o = 22) ∨ (x = 62 ∧ o = 24) ∨ (x = 15421 ∧ o = 23) ∨ (x = 15933 ∧ o = 25) → ∀ p q : Int64, ∃ b : Int32, (∀ s, f_X0_isOrdered (nI o) p q s = b) ∧ ∀ rs, f_X13_reckon (nI x) p q rs = (f_X13_pushTruth b rs).bind (fun r => some r) := fun x o e p q => by
    unfold f_X0_isOrdered f_X13_reckon k_X13_reckon_207 k_X13_reckon_224 k_X13_reckon_241 k_X13_reckon_258
    rcases e with ⟨rfl, rfl⟩ | ⟨rfl, rfl⟩ | ⟨rfl, rfl⟩ | ⟨rfl, rfl⟩
    · refine ⟨if (0 : Int32) ≤ lg_cmp p q then 0 else 1, fun s => by rw [if_neg (by decide), if_pos (by decide)], fun rs => ?_⟩
      rw [if_neg (by decide), if_neg (by decide), if_neg (by decide), if_neg (by decide), if_neg (by decide), if_pos (by decide)]
      split <;> rfl
    · refine ⟨if lg_cmp p q ≤ (0 : Int32) then 0 else 1, fun s => by rw [if_neg (by decide), if_neg (by decide), if_neg (by decide)], fun rs => ?_⟩
      rw [if_neg (by decide), if_neg (by decide), if_neg (by decide), if_neg (by decide), if_neg (by decide), if_neg (by decide), if_pos (by decide)]
      split <;> rfl
    · refine ⟨if (0 : Int32) < lg_cmp p q then 0 else 1, fun s => by rw [if_neg (by decide), if_neg (by decide), if_pos (by decide)], fun rs => ?_⟩
      rw [if_neg (by decide), if_neg (by decide), if_neg (by decide), if_neg (by decide), if_neg (by decide), if_neg (by decide), if_neg (by decide), if_pos (by decide)]
      split <;> rfl
    · refine ⟨if lg_cmp p q < (0 : Int32) then 0 else 1, fun s => by rw [if_pos (by decide)], fun rs => ?_⟩
      rw [if_neg (by decide), if_neg (by decide), if_neg (by decide), if_neg (by decide), if_neg (by decide), if_neg (by decide), if_neg (by decide), if_neg (by decide)]
      split <;> rfl
  rcases hx with ⟨rfl, rfl⟩ | ⟨rfl, rfl⟩ | ⟨rfl, rfl⟩ | ⟨rfl, rfl⟩ | ⟨rfl, rfl⟩ | ⟨rfl, rfl⟩ | ⟨rfl, rfl⟩ | ⟨rfl, rfl⟩ | ⟨rfl, rfl⟩ | ⟨rfl, rfl⟩ | ⟨rfl, rfl⟩ | ⟨rfl, rfl⟩
  · exact uo_num (by decide) (by decide) h (fun p q hp hq => ⟨fun z => absurd z (by decide), fun _ => ord _ _ (Or.inl ⟨rfl, rfl⟩) p q⟩)
  · exact uo_num (by decide) (by decide) h (fun p q hp hq => ⟨fun z => absurd z (by decide), fun _ => ord _ _ (Or.inr (Or.inl ⟨rfl, rfl⟩)) p q⟩)
  · exact (uo_same h).1
  · exact (uo_same h).2
  · exact uo_num (by decide) (by decide) h (fun p q hp hq => ⟨fun z => absurd z (by decide), fun _ => ord _ _ (Or.inr (Or.inr (Or.inl ⟨rfl, rfl⟩))) p q⟩)
  · exact uo_num (by decide) (by decide) h (fun p q hp hq => ⟨fun z => absurd z (by decide), fun _ => ord _ _ (Or.inr (Or.inr (Or.inr ⟨rfl, rfl⟩))) p q⟩)
  · exact uo_num (by decide) (by decide) h (fun p q hp hq => ⟨fun _ rs => (rk_add hp hq).1, fun z => absurd z (by decide)⟩)
  · exact uo_num (by decide) (by decide) h (fun p q hp hq => ⟨fun _ rs => (rk_add hp hq).2, fun z => absurd z (by decide)⟩)
  · exact absurd rfl h38
  · exact uo_num (by decide) (by decide) h (fun p q hp hq => ⟨fun _ rs => rk_mul hp hq, fun z => absurd z (by decide)⟩)
  · exact uo_num (by decide) (by decide) h (fun p q hp hq => ⟨fun _ rs => (rk_div hp hq).1, fun z => absurd z (by decide)⟩)
  · exact uo_num (by decide) (by decide) h (fun p q hp hq => ⟨fun _ rs => (rk_div hp hq).2, fun z => absurd z (by decide)⟩)
end
