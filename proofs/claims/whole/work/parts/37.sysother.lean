/-! Level 2: systems: can, row, move. -/
theorem l2_10 : ¬ (1 : Int32) = 0 := by decide
def sy_ab (T : Nat → Nat) (m : Nat) (X : Nat → Nat) : Nat → Nat
  | 0 => 1
  | i + 1 => sy_nx T m (sy_ab T m X i) (X i) 8
theorem sy_ab_lt {f : Nat → Int32} {T : Nat → Nat} (hT : sy_T f T) {m k : Nat} {X : Nat → Nat} (hm : m < 4) (hX : ∀ i, i < k → X i ≤ 8) : ∀ i, i ≤ k → sy_ab T m X i < 256
  | 0, _ => by show (1 : Nat) < 256; decide
  | i + 1, h => sy_nx_lt hT hm (hX i (by omega)) 8 (Nat.le_refl 8)
theorem sy_ab0 {T : Nat → Nat} {m i : Nat} {X : Nat → Nat} (h : sy_ab T m X i = 0) : ∀ k, i ≤ k → sy_ab T m X k = 0
  | 0, hk => by
    have e : i = 0 := by omega
    subst e
    exact h
  | k + 1, hk => by
    by_cases e : i = k + 1
    · rw [← e]; exact h
    · show sy_nx T m (sy_ab T m X k) (X k) 8 = 0
      rw [sy_ab0 h k (by omega)]
      exact sy_nx0 8
theorem sy_able {s : t_S} {T X : Nat → Nat} (hT : sy_T (s.1 947) T) {m k act : Nat} (hm : m < 4) (hk : k ≤ 65536) (ha : act ≤ 8) (hX : ∀ i, i < k → X i ≤ 8 ∧ s.1 949 i = nI (X i)) : f_X9_able (nI m) (nI k) (nI act) s = some (if sy_nx T m (sy_ab T m X k) act 8 = 0 then 0 else 1) := by
  apply l2_val
  refine l2_lp (fun w y => ∃ i, i + w = k ∧ y = (nI m, nI k, nI act, nI (sy_ab T m X i), nI i)) ?_ (m := k) (Nat.lt_trans (show k < 1000000000 by omega) l2_N) ⟨0, by omega, rfl⟩
  rintro w y ⟨i, hi, rfl⟩
  show t_hk (k_X9_able_6 (nI m) (nI k) (nI act) (nI (sy_ab T m X i)) (nI i) s) _
  have hb := sy_ab_lt hT hm (fun j hj => (hX j hj).1) i (show i ≤ k by omega)
  have fin : ∀ v, v < 256 → v = sy_ab T m X k → t_hk (k_X9_able_39 (nI m) (nI act) (nI v) s) (fun r => r = if sy_nx T m (sy_ab T m X k) act 8 = 0 then 0 else 1) := by
    intro v hv e
    unfold k_X9_able_39
    refine l2_eq (sy_canGo hT hm hv ha) ?_
    rw [e]
    refine l2_ck ?_ (l2_sm rfl)
    by_cases z : sy_nx T m (sy_ab T m X k) act 8 = 0
    · rw [if_pos z]; exact Or.inl rfl
    · rw [if_neg z]; exact Or.inr rfl
  unfold k_X9_able_6
  refine l2_if (fun c => ?_) (fun c => ?_)
  · have c := (nI_leI (by omega) (by omega)).mp c
    have e : i = k := by omega
    subst e
    exact l2_mp (fin _ hb rfl)
  have c : ¬ k ≤ i := fun z => c ((nI_leI (by omega) (by omega)).mpr z)
  refine l2_if (fun z => ?_) (fun z => ?_)
  · have z := (l2_z (by omega)).mp z
    refine l2_mp (fin _ hb ?_)
    rw [z, sy_ab0 z k (by omega)]
  refine l2_ck (l2_ix (by omega) (by decide)) ?_
  obtain ⟨x1, x2⟩ := hX i (by omega)
  rw [nI_clamp (by omega), x2, nI_1]
  refine l2_eq (sy_next hT hm hb x1) ?_
  exact l2_sm ⟨w - 1, by omega, i + 1, by omega, rfl⟩
theorem sy_rcan {s : t_S} {T X : Nat → Nat} (hT : sy_T (s.1 1059) T) {m k act : Nat} (hm : m < 4) (hk : k ≤ 65536) (ha : act ≤ 8) (hX : ∀ i, i < k → X i ≤ 8 ∧ s.1 1060 i = nI (X i)) : t_loop (b_X13_can_44 s) t_N (nI m, nI k, nI act, nI 1, nI 0) = some (if sy_nx T m (sy_ab T m X k) act 8 = 0 then 0 else 1) := by
  apply l2_val
  refine l2_lp (fun w y => ∃ i, i + w = k ∧ y = (nI m, nI k, nI act, nI (sy_ab T m X i), nI i)) ?_ (m := k) (Nat.lt_trans (show k < 1000000000 by omega) l2_N) ⟨0, by omega, rfl⟩
  rintro w y ⟨i, hi, rfl⟩
  show t_hk (k_X13_can_44 (nI m) (nI k) (nI act) (nI (sy_ab T m X i)) (nI i) s) _
  have hb := sy_ab_lt hT hm (fun j hj => (hX j hj).1) i (show i ≤ k by omega)
  unfold k_X13_can_44
  refine l2_if (fun c => ?_) (fun c => ?_)
  · have c := (nI_leI (by omega) (by omega)).mp c
    have e : i = k := by omega
    subst e
    refine l2_mp (l2_eq (sy_leads hT hm hb ha) ?_)
    have hn := sy_nx_lt hT hm ha (st := sy_ab T m X i) 8 (Nat.le_refl 8)
    refine l2_if (fun z => ?_) (fun z => ?_)
    · have z := (l2_z (by omega)).mp z
      rw [if_pos z]
      exact l2_sm rfl
    · rw [if_neg (fun y => z (by rw [y]; rfl))]
      exact l2_sm rfl
  have c : ¬ k ≤ i := fun z => c ((nI_leI (by omega) (by omega)).mpr z)
  refine l2_ck (l2_ix (by omega) (by decide)) ?_
  obtain ⟨x1, x2⟩ := hX i (by omega)
  rw [nI_clamp (by omega), x2, nI_1]
  refine l2_eq (sy_leads hT hm hb x1) ?_
  exact l2_sm ⟨w - 1, by omega, i + 1, by omega, rfl⟩
theorem sy_can {s : t_S} (h : sy_R s) (x1 x2 x3 : Int32) : ∃ r, f_X12_can x1 x2 x3 s = some r ∧ f_X13_can x1 x2 x3 s = some r := by
  have e3 : (3 : Int64).toInt = 3 := rfl
  have e8 : (8 : Int64).toInt = 8 := rfl
  obtain ⟨⟨T, hTc, hTr⟩, L, X, o1, o2, o3, o4⟩ := h
  unfold f_X12_can f_X13_can
  rw [o2, o3]
  by_cases a1 : 0 ≤ x1.toInt ∧ x1.toInt ≤ 3
  case neg => exact ⟨-1, by rw [sy_is0 a1, if_pos rfl], by rw [l2_in0 (by rw [e3]; exact a1), if_pos rfl]⟩
  have j1 := l2_in1 (h := 3) (s := s) a1.1 (by rw [e3]; exact a1.2)
  rw [j1, if_neg l2_10]
  obtain ⟨m, hm, rfl⟩ := l2_nat (n := 3) (by decide) a1
  have hm : m < 4 := by omega
  rw [sy_is1 hm, if_neg l2_10]
  by_cases a2 : x2 < 0
  · exact ⟨-1, by rw [if_pos a2], by rw [if_pos a2]⟩
  rw [if_neg a2, if_neg a2]
  by_cases a3 : nI L < x2
  · exact ⟨-1, by rw [if_pos a3], by rw [if_pos a3]⟩
  rw [if_neg a3, if_neg a3]
  have b2 : ¬ x2.toInt < 0 := fun z => a2 ((t_lt 0 rfl).mpr z)
  have b3 : ¬ (L : Int) < x2.toInt := fun z => a3 ((t_gt (L : Int) (nI_toInt (by omega))).mpr z)
  obtain ⟨k, hk, rfl⟩ := l2_nat (x := x2) (n := L) (by omega) ⟨by omega, by omega⟩
  by_cases a4 : 0 ≤ x3.toInt ∧ x3.toInt ≤ 8
  case neg =>
    refine ⟨-1, ?_, by rw [l2_in0 (by rw [e8]; exact a4), if_pos rfl]⟩
    by_cases a5 : x3 < 0
    · rw [if_pos a5]
    · rw [if_neg a5]
      have b5 : ¬ x3.toInt < 0 := fun z => a5 ((t_lt 0 rfl).mpr z)
      rw [if_neg (fun z => a4 ⟨by omega, (t_le 8 rfl).mp z⟩)]
  have j4 := l2_in1 (h := 8) (s := s) a4.1 (by rw [e8]; exact a4.2)
  rw [j4, if_neg l2_10]
  obtain ⟨act, ha, rfl⟩ := l2_nat (n := 8) (by decide) a4
  rw [if_neg (nI_pos (by omega)), if_pos (show nI act ≤ (8 : Int32) from nI_le (b := 8) ha (by decide)), sy_able (X := X) hTc hm (by omega) ha (fun i hi => ⟨(o4 i (by omega)).1, (o4 i (by omega)).2.1⟩), l2_bs]
  have q := sy_rcan (X := X) hTr hm (show k ≤ 65536 by omega) ha (fun i hi => ⟨(o4 i (by omega)).1, (o4 i (by omega)).2.2⟩)
  by_cases z : sy_nx T m (sy_ab T m X k) act 8 = 0
  · rw [if_pos z] at q ⊢
    rw [if_pos rfl]
    exact ⟨0, rfl, q⟩
  · rw [if_neg z] at q ⊢
    rw [if_neg l2_10]
    exact ⟨1, rfl, q⟩
theorem sy_row {s : t_S} (h : sy_R s) (x1 : Int32) : ∃ r, f_X12_row x1 s = some r ∧ f_X13_row x1 s = some r := by
  obtain ⟨_, L, X, o1, o2, o3, o4⟩ := h
  unfold f_X12_row f_X13_row k_X12_row_28
  rw [o2, o3]
  by_cases a : x1 = -1
  · rw [if_pos a, if_pos a]
    exact ⟨_, rfl, rfl⟩
  rw [if_neg a, if_neg a]
  have eL : ((nI L - 1).toInt64).toInt = (L : Int) - 1 := by
    rw [l2_s64]
    exact pk_sub_toInt (b := 1) (by omega) (by decide)
  by_cases b : x1 < 0
  · have b1 := (t_lt 0 rfl).mp b
    rw [if_pos b, l2_in0 (by omega), if_pos rfl]
    exact ⟨_, rfl, rfl⟩
  have b1 : ¬ x1.toInt < 0 := fun z => b ((t_lt 0 rfl).mpr z)
  rw [if_neg b]
  by_cases c : x1 < nI L
  · have c1 := (t_lt (L : Int) (nI_toInt (by omega))).mp c
    rw [if_pos c, l2_in1 (by omega) (by omega), if_neg l2_10]
    obtain ⟨j, hj, rfl⟩ := l2_nat (x := x1) (n := L) (by omega) ⟨by omega, by omega⟩
    have hj : j < L := by
      rw [nI_toInt (by omega)] at c1
      omega
    rw [if_pos (l2_ix (by omega) (by decide)), if_pos (l2_ix (by omega) (by decide)), nI_clamp (by omega), (o4 j hj).2.1, (o4 j hj).2.2]
    exact ⟨_, rfl, rfl⟩
  · have c1 : ¬ x1.toInt < (L : Int) := fun z => c ((t_lt (L : Int) (nI_toInt (by omega))).mpr z)
    rw [if_neg c, l2_in0 (by omega), if_pos rfl]
    exact ⟨_, rfl, rfl⟩
theorem l2_nIof (x : Int32) : x = nI x.toBitVec.toNat := Int32.toBitVec_inj.1 (by show x.toBitVec = BitVec.ofNat 32 _; simp)
theorem fa_and (a b : Nat) : nI a &&& nI b = nI (a &&& b) := by
  apply Int32.toBitVec_inj.1
  show BitVec.ofNat 32 a &&& BitVec.ofNat 32 b = BitVec.ofNat 32 (a &&& b)
  apply BitVec.eq_of_getLsbD_eq
  intro i hi
  simp [hi]
theorem l2_andle {a : Nat} (y : Int32) : ∃ w, w ≤ a ∧ nI a &&& y = nI w := ⟨a &&& y.toBitVec.toNat, Nat.and_le_left, by rw [← fa_and, ← l2_nIof]⟩
def sy_Vc (b _j : Nat) : Prop := b = 947
def sy_Vr (b _j : Nat) : Prop := b = 1059
theorem sy_move {s : t_S} (h : sy_R s) (x1 x2 x3 x4 x5 : Int32) : t_hk (f_X12_move x1 x2 x3 x4 x5 s) (fun r => l2_fr sy_Vc s r.2 ∧ t_hk (f_X13_move x1 x2 x3 x4 x5 r.2) (fun r' => r'.1 = r.1 ∧ l2_fr sy_Vr r.2 r'.2 ∧ sy_R r'.2)) := by
  have e3 : (3 : Int64).toInt = 3 := rfl
  have e7 : (7 : Int64).toInt = 7 := rfl
  have no : t_hk (f_X13_move x1 x2 x3 x4 x5 s) (fun r' => r' = (-1, s)) → t_hk (some ((-1 : Int32), s)) (fun r => l2_fr sy_Vc s r.2 ∧ t_hk (f_X13_move x1 x2 x3 x4 x5 r.2) (fun r' => r'.1 = r.1 ∧ l2_fr sy_Vr r.2 r'.2 ∧ sy_R r'.2)) := fun q => l2_sm ⟨l2_fr.rf, l2_imp q (fun r' e => by rw [e]; exact ⟨rfl, l2_fr.rf, h⟩)⟩
  unfold f_X12_move
  by_cases a1 : 0 ≤ x1.toInt ∧ x1.toInt ≤ 3
  case neg =>
    rw [sy_is0 a1, if_pos rfl]
    refine no ?_
    unfold f_X13_move
    rw [l2_in0 (by rw [e3]; exact a1), if_pos rfl]
    exact l2_sm rfl
  have i1 : f_X9_is x1 s = 1 := by
    obtain ⟨m, hm, e⟩ := l2_nat (n := 3) (by decide) a1
    rw [e]
    exact sy_is1 (by omega)
  rw [i1, if_neg l2_10]
  have j1 := fun t : t_S => l2_in1 (h := 3) (s := t) a1.1 (by rw [e3]; exact a1.2)
  by_cases a2 : 0 ≤ x2.toInt ∧ x2.toInt ≤ 7
  case neg =>
    have q : t_hk (f_X13_move x1 x2 x3 x4 x5 s) (fun r' => r' = (-1, s)) := by
      unfold f_X13_move
      rw [j1, if_neg l2_10, l2_in0 (by rw [e7]; exact a2), if_pos rfl]
      exact l2_sm rfl
    refine l2_if (fun _ => no q) (fun u => l2_if (fun _ => no q) (fun w => ?_))
    have u : ¬ x2.toInt < 0 := fun z => u ((t_lt 0 rfl).mpr z)
    have w : ¬ 7 < x2.toInt := fun z => w ((t_gt 7 rfl).mpr z)
    exact absurd ⟨by omega, by omega⟩ a2
  have j2 := fun t : t_S => l2_in1 (h := 7) (s := t) a2.1 (by rw [e7]; exact a2.2)
  rw [if_neg (fun z => by have := (t_lt 0 rfl).mp z; omega), if_neg (fun z => by have := (t_gt 7 rfl).mp z; omega)]
  by_cases a4 : 0 ≤ x4.toInt ∧ x4.toInt ≤ 7
  case neg =>
    have q : t_hk (f_X13_move x1 x2 x3 x4 x5 s) (fun r' => r' = (-1, s)) := by
      unfold f_X13_move
      rw [j1, if_neg l2_10, j2, if_neg l2_10, l2_in0 (by rw [e7]; exact a4), if_pos rfl]
      exact l2_sm rfl
    refine l2_if (fun _ => no q) (fun u => l2_if (fun _ => no q) (fun w => l2_if (fun _ => no q) (fun u4 => l2_if (fun w4 => ?_) (fun _ => no q))))
    have u4 : ¬ x4.toInt < 0 := fun z => u4 ((t_lt 0 rfl).mpr z)
    have w4 := (t_le 7 rfl).mp w4
    exact absurd ⟨by omega, by omega⟩ a4
  have j4 := fun t : t_S => l2_in1 (h := 7) (s := t) a4.1 (by rw [e7]; exact a4.2)
  by_cases a3 : 0 ≤ x3.toInt ∧ x3.toInt ≤ 7
  case neg =>
    have q : t_hk (f_X13_move x1 x2 x3 x4 x5 s) (fun r' => r' = (-1, s)) := by
      unfold f_X13_move
      rw [j1, if_neg l2_10, j2, if_neg l2_10, j4, if_neg l2_10, l2_in0 (by rw [e7]; exact a3), if_pos rfl]
      exact l2_sm rfl
    refine l2_if (fun _ => no q) (fun u => l2_if (fun _ => no q) (fun w => ?_))
    have u : ¬ x3.toInt < 0 := fun z => u ((t_lt 0 rfl).mpr z)
    have w : ¬ 7 < x3.toInt := fun z => w ((t_gt 7 rfl).mpr z)
    exact absurd ⟨by omega, by omega⟩ a3
  have j3 := fun t : t_S => l2_in1 (h := 7) (s := t) a3.1 (by rw [e7]; exact a3.2)
  rw [if_neg (fun z => by have := (t_lt 0 rfl).mp z; omega), if_neg (fun z => by have := (t_gt 7 rfl).mp z; omega), if_neg (fun z => by have := (t_lt 0 rfl).mp z; omega), if_pos ((t_le 7 rfl).mpr a4.2)]
  obtain ⟨m, hm, rfl⟩ := l2_nat (n := 3) (by decide) a1
  obtain ⟨f, hf, rfl⟩ := l2_nat (n := 7) (by decide) a2
  obtain ⟨c, hc, rfl⟩ := l2_nat (n := 7) (by decide) a3
  obtain ⟨o, ho, rfl⟩ := l2_nat (n := 7) (by decide) a4
  obtain ⟨⟨T, hTc, hTr⟩, hout⟩ := h
  have hi : (m * 8 + f) * 8 + c < 256 := by omega
  obtain ⟨t1, t2⟩ := hTc _ hi
  obtain ⟨_, t3⟩ := hTr _ hi
  have hw : T ((m * 8 + f) * 8 + c) / 2 ^ o % 2 < 2 := Nat.mod_lt _ (by decide)
  -- what is left in the table, whichever way
  have tab : ∀ y w : Int32, (∃ v, v < 256 ∧ y = nI v) → w = nI (T ((m * 8 + f) * 8 + c) / 2 ^ o % 2) → l2_fr sy_Vc s (t_setI s 947 ((m * 8 + f) * 8 + c) y) ∧ t_hk (some (w, t_setI (t_setI s 947 ((m * 8 + f) * 8 + c) y) 1059 ((m * 8 + f) * 8 + c) y)) (fun r' => r'.1 = w ∧ l2_fr sy_Vr (t_setI s 947 ((m * 8 + f) * 8 + c) y) r'.2 ∧ sy_R r'.2) := by
    rintro y w ⟨v, hv, rfl⟩ _
    refine ⟨l2_fr.set rfl, l2_sm ⟨rfl, l2_fr.set rfl, ⟨va_up T ((m * 8 + f) * 8 + c) v, ?_, ?_⟩, ?_⟩⟩
    · intro i hi2
      show va_up T _ v i < 256 ∧ (t_setI (t_setI s 947 _ (nI v)) 1059 _ (nI v)).1 947 i = _
      rw [l2_sO (by decide), l2_sI]
      by_cases e : i = (m * 8 + f) * 8 + c
      · rw [e, mj_up_eq, mj_up_eq]
        exact ⟨hv, rfl⟩
      · rw [mj_up_ne _ _ e, mj_up_ne _ _ e]
        exact hTc i hi2
    · intro i hi2
      show va_up T _ v i < 256 ∧ (t_setI (t_setI s 947 _ (nI v)) 1059 _ (nI v)).1 1059 i = _
      rw [l2_sI, l2_sO (by decide)]
      by_cases e : i = (m * 8 + f) * 8 + c
      · rw [e, mj_up_eq, mj_up_eq]
        exact ⟨hv, rfl⟩
      · rw [mj_up_ne _ _ e, mj_up_ne _ _ e]
        exact hTr i hi2
    · obtain ⟨L, X, o1, o2, o3, o4⟩ := hout
      refine ⟨L, X, o1, ?_, ?_, fun i hi2 => ⟨(o4 i hi2).1, ?_, ?_⟩⟩
      · show (t_setI (t_setI s 947 _ (nI v)) 1059 _ (nI v)).1 946 3 = _
        rw [l2_sO (by decide), l2_sO (by decide)]
        exact o2
      · show (t_setI (t_setI s 947 _ (nI v)) 1059 _ (nI v)).1 950 183 = _
        rw [l2_sO (by decide), l2_sO (by decide)]
        exact o3
      · show (t_setI (t_setI s 947 _ (nI v)) 1059 _ (nI v)).1 949 i = _
        rw [l2_sO (by decide), l2_sO (by decide)]
        exact (o4 i hi2).2.1
      · show (t_setI (t_setI s 947 _ (nI v)) 1059 _ (nI v)).1 1060 i = _
        rw [l2_sO (by decide), l2_sO (by decide)]
        exact (o4 i hi2).2.2
  have put : ∀ k0 : Int32, k0 = nI (T ((m * 8 + f) * 8 + c) / 2 ^ o % 2) → t_hk (k_X9_put_33 (nI o) x5 (nI ((m * 8 + f) * 8 + c)) k0 s) (fun r => r.1 = k0 ∧ l2_fr sy_Vc s r.2 ∧ t_hk (f_X13_move (nI m) (nI f) (nI c) (nI o) x5 r.2) (fun r' => r'.1 = k0 ∧ l2_fr sy_Vr r.2 r'.2 ∧ sy_R r'.2)) := by
    intro k0 hk
    have k01 : k0 = 0 ∨ k0 = 1 := by
      rcases (show T ((m * 8 + f) * 8 + c) / 2 ^ o % 2 = 0 ∨ T ((m * 8 + f) * 8 + c) / 2 ^ o % 2 = 1 by omega) with z | z
      · rw [hk, z]; exact Or.inl rfl
      · rw [hk, z]; exact Or.inr rfl
    have r13 : ∀ y : Int32, f_X13_move (nI m) (nI f) (nI c) (nI o) x5 (t_setI s 947 ((m * 8 + f) * 8 + c) y) = k_X13_move_114 k0 (if x5 = 0 then (nI (T ((m * 8 + f) * 8 + c)) &&& (((1 : Int32) <<< (nI o &&& 31)) ^^^ (-1 : Int32))) else (nI (T ((m * 8 + f) * 8 + c)) ||| ((1 : Int32) <<< (nI o &&& 31)))) (nI ((m * 8 + f) * 8 + c)) (t_setI s 947 ((m * 8 + f) * 8 + c) y) := by
      intro y
      unfold f_X13_move
      rw [j1, if_neg l2_10, j2, if_neg l2_10, j4, if_neg l2_10, j3, if_neg l2_10, sy_e2, if_pos (l2_ix (by omega) (by decide)), nI_clamp (by omega), l2_sO (by decide), t3, l2_bit (by omega) (by omega), ← hk]
      by_cases z : x5 = 0
      · rw [if_pos z, if_pos z]
      · rw [if_neg z, if_neg z]
    have mv : ∀ y : Int32, y = (if x5 = 0 then (nI (T ((m * 8 + f) * 8 + c)) &&& (((1 : Int32) <<< (nI o &&& 31)) ^^^ (-1 : Int32))) else (nI (T ((m * 8 + f) * 8 + c)) ||| ((1 : Int32) <<< (nI o &&& 31)))) → (∃ v, v < 256 ∧ y = nI v) → k0 = k0 ∧ l2_fr sy_Vc s (t_setI s 947 ((m * 8 + f) * 8 + c) y) ∧ t_hk (f_X13_move (nI m) (nI f) (nI c) (nI o) x5 (t_setI s 947 ((m * 8 + f) * 8 + c) y)) (fun r' => r'.1 = k0 ∧ l2_fr sy_Vr (t_setI s 947 ((m * 8 + f) * 8 + c) y) r'.2 ∧ sy_R r'.2) := by
      intro y hy hv
      obtain ⟨g1, g2⟩ := tab y k0 hv hk
      refine ⟨rfl, g1, ?_⟩
      rw [r13 y, ← hy]
      unfold k_X13_move_114
      refine l2_ck (l2_ix (by omega) (by decide)) ?_
      rw [nI_clamp (by omega)]
      exact l2_lt g2
    unfold k_X9_put_33
    refine l2_if (fun z => ?_) (fun z => ?_)
    · refine l2_ck (l2_ix (by omega) (by decide)) ?_
      rw [nI_clamp (by omega), t2]
      refine l2_lt (l2_ck k01 (l2_sm (mv _ (by rw [if_pos z]) ?_)))
      obtain ⟨w, hw1, hw2⟩ := l2_andle (a := T ((m * 8 + f) * 8 + c)) (((1 : Int32) <<< (nI o &&& 31)) ^^^ (-1 : Int32))
      exact ⟨w, by omega, hw2⟩
    · refine l2_ck (l2_ix (by omega) (by decide)) ?_
      rw [nI_clamp (by omega), t2]
      refine l2_lt (l2_ck k01 (l2_sm (mv _ (by rw [if_neg z]) ?_)))
      rw [l2_shl1 (by omega), fa_or]
      exact ⟨_, sy_or8 t1 (sy_p8 (by omega)), rfl⟩
  have put2 : t_hk (f_X9_put (nI m) (nI f) (nI c) (nI o) x5 s) (fun r => (r.1 = 0 ∨ r.1 = 1) ∧ l2_fr sy_Vc s r.2 ∧ t_hk (f_X13_move (nI m) (nI f) (nI c) (nI o) x5 r.2) (fun r' => r'.1 = r.1 ∧ l2_fr sy_Vr r.2 r'.2 ∧ sy_R r'.2)) := by
    unfold f_X9_put
    rw [sy_e, if_pos (l2_ix (by omega) (by decide)), nI_clamp (by omega), t2, l2_bit (by omega) (by omega)]
    refine l2_if (fun z => ?_) (fun z => ?_)
    · have z := (l2_z (by omega)).mp z
      refine l2_imp (put 0 (by rw [z]; rfl)) (fun r hr => ?_)
      exact ⟨Or.inl hr.1, hr.2.1, by rw [hr.1]; exact hr.2.2⟩
    · have z : T ((m * 8 + f) * 8 + c) / 2 ^ o % 2 = 1 := by
        by_cases y : T ((m * 8 + f) * 8 + c) / 2 ^ o % 2 = 0
        · exact absurd (by rw [y]; rfl) z
        · omega
      refine l2_imp (put 1 (by rw [z]; rfl)) (fun r hr => ?_)
      exact ⟨Or.inr hr.1, hr.2.1, by rw [hr.1]; exact hr.2.2⟩
  refine l2_bd _ put2 (fun r hr => ?_)
  rcases hr.1 with z | z
  · rw [if_pos z]
    rw [z] at hr
    exact l2_sm ⟨hr.2.1, hr.2.2⟩
  · rw [if_neg (by rw [z]; decide)]
    rw [z] at hr
    exact l2_sm ⟨hr.2.1, hr.2.2⟩
