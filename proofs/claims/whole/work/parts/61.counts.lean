/-! Level 2: count and drop. -/
/-- the numbers that count() tells, on both sides -/
def cn_R (s : t_S) : Prop := s.1 0 10 = s.1 950 2 ∧ s.1 0 11 = (if s.1 950 2 = 0 then -1 else s.1 950 3) ∧ s.1 1 1 = s.1 950 1 ∧ (s.1 0 12 = 0 ↔ s.1 950 65 = 0) ∧ (s.1 0 12 ≠ 0 → s.1 316 13 = s.1 950 40 ∧ s.1 353 11 = s.1 950 44 ∧ s.1 428 0 = s.1 950 55 ∧ s.1 428 9 = s.1 950 64 ∧ s.1 428 18 = s.1 950 81 ∧ s.1 845 11 = s.1 950 30) ∧ s.1 12 2 = s.1 950 96 ∧ s.1 856 5 = s.1 950 121
theorem cn_count {s : t_S} (h : cn_R s) (x : Int32) : f_X12_count x s = f_X13_count x s := by
  obtain ⟨a0, a1, a2, a3, a4, a9, a10⟩ := h
  have rd : ∀ p q : Int32, (s.1 0 12 ≠ 0 → p = q) → (if s.1 0 12 = 0 then (0 : Int32) else p) = (if s.1 950 65 = 0 then (0 : Int32) else q) := by
    intro p q hpq
    by_cases z : s.1 0 12 = 0
    · rw [if_pos z, if_pos (a3.mp z)]
    · rw [if_neg z, if_neg (fun y => z (a3.mpr y)), hpq z]
  unfold f_X12_count f_X13_count
  rw [a0, a1, a2, a9, a10, rd _ _ (fun z => (a4 z).1), rd _ _ (fun z => (a4 z).2.1), rd _ _ (fun z => (a4 z).2.2.1), rd _ _ (fun z => (a4 z).2.2.2.1), rd _ _ (fun z => (a4 z).2.2.2.2.1), rd _ _ (fun z => (a4 z).2.2.2.2.2)]
theorem l2_lwT {yx yy : MethodName} {cx cv : ByteArray} {mx my dx dy : Nat} {rt : Option FieldType} {As : List Value} {R0 R1 : t_S → Prop} {fx fy : t_S → Int32} (h1 : dx ≤ 1908) (h2 : dy ≤ 1908) (hx : ∀ s, t_C yx cx mx rt dx (.ref 0 :: As) s (fun v s' => v = some (.int (fx s)) ∧ s' = s)) (hy : ∀ s, t_C yy cv my rt dy (.ref 950 :: As) s (fun v s' => v = some (.int (fy s)) ∧ s' = s)) (hh : ∀ s, R0 s → fx s = fy s ∧ R1 s) : lw_sI yx yy cx cv mx my rt As (l2_RR R0) (l2_RR R1) := by
  rintro h ⟨s, hs, hr⟩
  obtain ⟨e, hq⟩ := hh s hr
  refine ⟨⟨_, (hs 0 (by decide)).trans (t_c (s := s) (a := 0) (ci := 12) (by decide +kernel)).2⟩, dx, _, h1, mj_C.at hs (hx s), fun v h1' hp => ?_⟩
  obtain ⟨s1, rfl, hv, rfl⟩ := hp
  refine ⟨⟨_, (t_c (s := s1) (a := 950) (ci := 13) (by decide +kernel)).2⟩, fx s1, dy, hv, h2, mj_C.imp (hy s1) (fun w h2' hp2 => ?_)⟩
  obtain ⟨s2, rfl, hw, rfl⟩ := hp2
  exact ⟨by rw [hw, e], _, fun _ _ => rfl, hq⟩
theorem L_s_count {R : t_S → Prop} (hR : ∀ s, R s → cn_R s) : lw_s_count (l2_RR R) (l2_RR R) := fun x => l2_lwT (fx := fun s => f_X12_count x s) (fy := fun s => f_X13_count x s) (by decide) (by decide) (fun s => C_X12_count x s) (fun s => C_X13_count x s) (fun s h => ⟨cn_count (hR s h) x, h⟩)
def dr_W (b j : Nat) : Prop := (b = 12 ∧ j = 2) ∨ (b = 950 ∧ j = 96)
/-- drop: the number of what is kept goes down by one on both sides -/
theorem dr_drop {s : t_S} {k : Nat} (hk : k ≤ 40) (h1 : s.1 12 2 = nI k) (h2 : s.1 950 96 = nI k) : t_hk (f_X12_drop s) (fun r => t_hk (f_X13_drop r.2) (fun r' => r'.1 = r.1 ∧ l2_fr dr_W s r'.2 ∧ r'.2.1 12 2 = nI (k - 1) ∧ r'.2.1 950 96 = nI (k - 1))) := by
  unfold f_X12_drop
  rw [h1]
  by_cases z : k = 0
  · subst z
    refine l2_no (by decide) (l2_sm ?_)
    unfold f_X13_drop
    refine l2_ck (h2.trans nI_0) (l2_sm ⟨rfl, l2_fr.rf, h1, h2⟩)
  · refine l2_ck (show (0 : Int32) < nI k from nI_lt (a := 0) (by omega) (by omega)) ?_
    rw [sy_m1n (by omega)]
    refine l2_lt (l2_sm ?_)
    unfold f_X13_drop
    show t_hk (if (t_setI s 12 2 (nI (k - 1))).1 950 96 = 0 then _ else t_let (t_setI (t_setI s 12 2 (nI (k - 1))) 950 96 ((t_setI s 12 2 (nI (k - 1))).1 950 96 - 1)) _) _
    rw [l2_sO (by decide), h2, sy_m1n (by omega)]
    refine l2_no (nI_ne0 (by omega) (by omega)) (l2_lt (l2_sm ⟨?_, (l2_fr.set (Or.inl ⟨rfl, rfl⟩)).trans (l2_fr.set (Or.inr ⟨rfl, rfl⟩)), ?_, ?_⟩))
    · show (t_setI (t_setI s 12 2 (nI (k - 1))) 950 96 (nI (k - 1))).1 950 96 = (t_setI s 12 2 (nI (k - 1))).1 12 2
      simp only [l2_g, reduceIte]
    · show (t_setI (t_setI s 12 2 (nI (k - 1))) 950 96 (nI (k - 1))).1 12 2 = _
      rw [l2_sO (by decide)]
      simp only [l2_g, reduceIte]
    · show (t_setI (t_setI s 12 2 (nI (k - 1))) 950 96 (nI (k - 1))).1 950 96 = _
      simp only [l2_g, reduceIte]
