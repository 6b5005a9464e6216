/-! Level 2: systems. T: the table of moves; sy_nx: where an act leads from a set. -/
def sy_T (f : Nat → Int32) (T : Nat → Nat) : Prop := ∀ i, i < 256 → T i < 256 ∧ f i = nI (T i)
def sy_q (T : Nat → Nat) (m s : Nat) : Nat := if T ((m * 8 + s) * 8 + 4) ||| T ((m * 8 + s) * 8 + 5) ||| T ((m * 8 + s) * 8 + 6) ||| T ((m * 8 + s) * 8 + 7) = 0 then 2 ^ s else 0
def sy_tm (T : Nat → Nat) (m st act s : Nat) : Nat := if st / 2 ^ s % 2 = 0 then 0 else if act = 8 then sy_q T m s else T ((m * 8 + s) * 8 + act)
def sy_nx (T : Nat → Nat) (m st act : Nat) : Nat → Nat
  | 0 => 0
  | k + 1 => sy_nx T m st act k ||| sy_tm T m st act k
theorem sy_or8 {a b : Nat} (ha : a < 256) (hb : b < 256) : a ||| b < 256 := Nat.or_lt_two_pow (n := 8) ha hb
theorem sy_p8 {s : Nat} (h : s < 8) : 2 ^ s < 256 := Nat.pow_lt_pow_right (a := 2) (n := 8) (by decide) h
theorem sy_q_lt {T : Nat → Nat} {m s : Nat} (h : s < 8) : sy_q T m s < 256 := by
  unfold sy_q
  split
  · exact sy_p8 h
  · omega
theorem sy_tm_lt {f : Nat → Int32} {T : Nat → Nat} (hT : sy_T f T) {m st act s : Nat} (hm : m < 4) (ha : act ≤ 8) (h : s < 8) : sy_tm T m st act s < 256 := by
  unfold sy_tm
  split
  · omega
  · split
    · exact sy_q_lt h
    · exact (hT _ (by omega)).1
theorem sy_nx_lt {f : Nat → Int32} {T : Nat → Nat} (hT : sy_T f T) {m st act : Nat} (hm : m < 4) (ha : act ≤ 8) : ∀ k, k ≤ 8 → sy_nx T m st act k < 256
  | 0, _ => by show (0 : Nat) < 256; decide
  | k + 1, h => sy_or8 (sy_nx_lt hT hm ha k (by omega)) (sy_tm_lt hT hm ha (by omega))
theorem sy_nx0 {T : Nat → Nat} {m act : Nat} : ∀ k, sy_nx T m 0 act k = 0
  | 0 => rfl
  | k + 1 => by
    show sy_nx T m 0 act k ||| sy_tm T m 0 act k = 0
    rw [sy_nx0 k]
    unfold sy_tm
    rw [if_pos (by rw [Nat.zero_div])]
    rfl
theorem sy_e (m s d : Nat) : (nI m * (8 : Int32) + nI s) * (8 : Int32) + nI d = nI ((m * 8 + s) * 8 + d) := by
  rw [show (8 : Int32) = nI 8 from rfl, pk_mul, nI_add, pk_mul, nI_add]
theorem sy_e2 (m s d : Nat) (t : t_S) : f_X13_cellOf (nI m) (nI s) (nI d) t = nI ((m * 8 + s) * 8 + d) := by
  unfold f_X13_cellOf
  rw [show (64 : Int32) = nI 64 from rfl, show (8 : Int32) = nI 8 from rfl, pk_mul, pk_mul, nI_add, nI_add]
  congr 1
  omega
theorem sy_quiet {s : t_S} {T : Nat → Nat} (hT : sy_T (s.1 947) T) {m st : Nat} (hm : m < 4) (hs : st < 8) : f_X9_quiet (nI m) (nI st) s = some (nI (sy_q T m st)) := by
  have E4 : (nI m * (8 : Int32) + nI st) * (8 : Int32) + (4 : Int32) = nI ((m * 8 + st) * 8 + 4) := sy_e m st 4
  have E5 : (nI m * (8 : Int32) + nI st) * (8 : Int32) + (5 : Int32) = nI ((m * 8 + st) * 8 + 5) := sy_e m st 5
  have E6 : (nI m * (8 : Int32) + nI st) * (8 : Int32) + (6 : Int32) = nI ((m * 8 + st) * 8 + 6) := sy_e m st 6
  have E7 : (nI m * (8 : Int32) + nI st) * (8 : Int32) + (7 : Int32) = nI ((m * 8 + st) * 8 + 7) := sy_e m st 7
  have b4 := hT ((m * 8 + st) * 8 + 4) (by omega)
  have b5 := hT ((m * 8 + st) * 8 + 5) (by omega)
  have b6 := hT ((m * 8 + st) * 8 + 6) (by omega)
  have b7 := hT ((m * 8 + st) * 8 + 7) (by omega)
  unfold f_X9_quiet
  rw [E4, E5, E6, E7, if_pos (l2_ix (by omega) (by decide)), if_pos (l2_ix (by omega) (by decide)), if_pos (l2_ix (by omega) (by decide)), if_pos (l2_ix (by omega) (by decide)), nI_clamp (by omega), nI_clamp (by omega), nI_clamp (by omega), nI_clamp (by omega), b4.2, b5.2, b6.2, b7.2, fa_or, fa_or, fa_or]
  have hb := sy_or8 (sy_or8 (sy_or8 b4.1 b5.1) b6.1) b7.1
  unfold sy_q
  by_cases z : T ((m * 8 + st) * 8 + 4) ||| T ((m * 8 + st) * 8 + 5) ||| T ((m * 8 + st) * 8 + 6) ||| T ((m * 8 + st) * 8 + 7) = 0
  · rw [if_pos z, z, if_pos nI_0, l2_shl1 (by omega)]
  · rw [if_neg z, if_neg (fun q => z ((nI_eq (by omega) (by decide)).mp (q.trans nI_0.symm)))]
    rfl
theorem sy_next {s : t_S} {T : Nat → Nat} (hT : sy_T (s.1 947) T) {m st act : Nat} (hm : m < 4) (hs : st < 256) (ha : act ≤ 8) : f_X9_next (nI m) (nI st) (nI act) s = some (nI (sy_nx T m st act 8)) := by
  apply l2_val
  refine l2_lp (fun k y => ∃ j, j + k = 8 ∧ y = (nI m, nI st, nI act, nI (sy_nx T m st act j), nI j)) ?_ (m := 8) (Nat.lt_trans (by decide) l2_N) ⟨0, rfl, rfl⟩
  rintro k y ⟨j, hj, rfl⟩
  show t_hk (k_X9_next_6 (nI m) (nI st) (nI act) (nI (sy_nx T m st act j)) (nI j) s) _
  unfold k_X9_next_6
  refine l2_if (fun c => ?_) (fun c => ?_)
  · have c : nI 8 ≤ nI j := c
    have c := (nI_leI (by decide) (by omega)).mp c
    have e : j = 8 := by omega
    subst e
    exact l2_mp (l2_sm rfl)
  have c : ¬ nI 8 ≤ nI j := c
  have c : ¬ 8 ≤ j := fun z => c ((nI_leI (by decide) (by omega)).mpr z)
  have hj8 : j < 8 := by omega
  have go : ∀ w, w = sy_tm T m st act j → t_hk (k_X9_next_60 (nI m) (nI st) (nI act) (nI (sy_nx T m st act j) ||| nI w) (nI j) s) (l2_nx (fun z => ∃ j_1, j_1 < k ∧ ∃ j, j + j_1 = 8 ∧ z = (nI m, nI st, nI act, nI (sy_nx T m st act j), nI j)) (fun r => r = nI (sy_nx T m st act 8))) := by
    rintro w rfl
    unfold k_X9_next_60
    refine l2_sm ⟨k - 1, by omega, j + 1, by omega, ?_⟩
    rw [fa_or, nI_1]
    rfl
  rw [l2_bit (by omega) (by omega)]
  refine l2_if (fun z => ?_) (fun z => ?_)
  · have z := (nI_eq (b := 0) (by omega) (by decide)).mp z
    have q := go 0 (by unfold sy_tm; rw [if_pos z])
    rw [fa_or, Nat.or_zero] at q
    exact q
  have z1 : ¬ st / 2 ^ j % 2 = 0 := fun y => z (by rw [y]; rfl)
  refine l2_if (fun y => ?_) (fun y => ?_)
  · have y := (nI_eq (b := 8) (by omega) (by decide)).mp y
    refine l2_eq (sy_quiet hT hm hj8) ?_
    exact go _ (by unfold sy_tm; rw [if_neg z1, if_pos y])
  have y1 : act ≠ 8 := fun u => y (by rw [u]; rfl)
  rw [sy_e]
  refine l2_ck (l2_ix (by omega) (by decide)) ?_
  rw [nI_clamp (by omega), (hT _ (by omega)).2]
  exact go _ (by unfold sy_tm; rw [if_neg z1, if_neg y1])
theorem sy_isq {s : t_S} {T : Nat → Nat} (hT : sy_T (s.1 1059) T) {m st : Nat} (hm : m < 4) (hs : st < 8) : f_X13_isQuiet (nI m) (nI st) s = some (if sy_q T m st = 0 then 0 else 1) := by
  have E4 : f_X13_cellOf (nI m) (nI st) (4 : Int32) s = nI ((m * 8 + st) * 8 + 4) := sy_e2 m st 4 s
  have E5 : f_X13_cellOf (nI m) (nI st) (5 : Int32) s = nI ((m * 8 + st) * 8 + 5) := sy_e2 m st 5 s
  have E6 : f_X13_cellOf (nI m) (nI st) (6 : Int32) s = nI ((m * 8 + st) * 8 + 6) := sy_e2 m st 6 s
  have E7 : f_X13_cellOf (nI m) (nI st) (7 : Int32) s = nI ((m * 8 + st) * 8 + 7) := sy_e2 m st 7 s
  have b4 := hT ((m * 8 + st) * 8 + 4) (by omega)
  have b5 := hT ((m * 8 + st) * 8 + 5) (by omega)
  have b6 := hT ((m * 8 + st) * 8 + 6) (by omega)
  have b7 := hT ((m * 8 + st) * 8 + 7) (by omega)
  have pz : 2 ^ st ≠ 0 := by
    have := Nat.two_pow_pos st
    omega
  have S : sy_q T m st = 0 ↔ ¬ (T ((m * 8 + st) * 8 + 4) = 0 ∧ T ((m * 8 + st) * 8 + 5) = 0 ∧ T ((m * 8 + st) * 8 + 6) = 0 ∧ T ((m * 8 + st) * 8 + 7) = 0) := by
    unfold sy_q
    by_cases z : T ((m * 8 + st) * 8 + 4) ||| T ((m * 8 + st) * 8 + 5) ||| T ((m * 8 + st) * 8 + 6) ||| T ((m * 8 + st) * 8 + 7) = 0
    · rw [if_pos z]
      have z2 := z
      simp only [Nat.or_eq_zero_iff] at z2
      exact ⟨fun q => absurd q pz, fun q => absurd ⟨z2.1.1.1, z2.1.1.2, z2.1.2, z2.2⟩ q⟩
    · rw [if_neg z]
      refine ⟨fun _ q => z ?_, fun _ => rfl⟩
      rw [q.1, q.2.1, q.2.2.1, q.2.2.2]
      rfl
  have ne : ∀ n, n < 256 → (nI n = (0 : Int32) ↔ n = 0) := fun n h => nI_eq (b := 0) (by omega) (by decide)
  unfold f_X13_isQuiet
  rw [E4, E5, E6, E7, if_pos (l2_ix (by omega) (by decide)), nI_clamp (by omega), nI_clamp (by omega), nI_clamp (by omega), nI_clamp (by omega), b4.2, b5.2, b6.2, b7.2]
  by_cases c4 : T ((m * 8 + st) * 8 + 4) = 0
  · rw [if_pos ((ne _ b4.1).mpr c4), if_pos (l2_ix (by omega) (by decide))]
    by_cases c5 : T ((m * 8 + st) * 8 + 5) = 0
    · rw [if_pos ((ne _ b5.1).mpr c5), if_pos (l2_ix (by omega) (by decide))]
      by_cases c6 : T ((m * 8 + st) * 8 + 6) = 0
      · rw [if_pos ((ne _ b6.1).mpr c6), if_pos (l2_ix (by omega) (by decide))]
        by_cases c7 : T ((m * 8 + st) * 8 + 7) = 0
        · rw [if_pos ((ne _ b7.1).mpr c7), if_neg (fun q => S.mp q ⟨c4, c5, c6, c7⟩)]
        · rw [if_neg (fun q => c7 ((ne _ b7.1).mp q)), if_pos (S.mpr (fun q => c7 q.2.2.2))]
      · rw [if_neg (fun q => c6 ((ne _ b6.1).mp q)), if_pos (S.mpr (fun q => c6 q.2.2.1))]
    · rw [if_neg (fun q => c5 ((ne _ b5.1).mp q)), if_pos (S.mpr (fun q => c5 q.2.1))]
  · rw [if_neg (fun q => c4 ((ne _ b4.1).mp q)), if_pos (S.mpr (fun q => c4 q.1))]
theorem sy_leads {s : t_S} {T : Nat → Nat} (hT : sy_T (s.1 1059) T) {m st act : Nat} (hm : m < 4) (hs : st < 256) (ha : act ≤ 8) : f_X13_leads (nI m) (nI st) (nI act) s = some (nI (sy_nx T m st act 8)) := by
  apply l2_val
  refine l2_lp (fun k y => ∃ j, j + k = 8 ∧ y = (nI m, nI st, nI act, nI (sy_nx T m st act j), nI j)) ?_ (m := 8) (Nat.lt_trans (by decide) l2_N) ⟨0, rfl, rfl⟩
  rintro k y ⟨j, hj, rfl⟩
  show t_hk (k_X13_leads_6 (nI m) (nI st) (nI act) (nI (sy_nx T m st act j)) (nI j) s) _
  unfold k_X13_leads_6
  refine l2_if (fun c => ?_) (fun c => ?_)
  · have c : nI 8 ≤ nI j := c
    have c := (nI_leI (by decide) (by omega)).mp c
    have e : j = 8 := by omega
    subst e
    exact l2_mp (l2_sm rfl)
  have c : ¬ nI 8 ≤ nI j := c
  have c : ¬ 8 ≤ j := fun z => c ((nI_leI (by decide) (by omega)).mpr z)
  have hj8 : j < 8 := by omega
  have go : ∀ w, w = sy_tm T m st act j → t_hk (k_X13_leads_68 (nI m) (nI st) (nI act) (nI (sy_nx T m st act j) ||| nI w) (nI j) s) (l2_nx (fun z => ∃ j_1, j_1 < k ∧ ∃ j, j + j_1 = 8 ∧ z = (nI m, nI st, nI act, nI (sy_nx T m st act j), nI j)) (fun r => r = nI (sy_nx T m st act 8))) := by
    rintro w rfl
    unfold k_X13_leads_68
    refine l2_sm ⟨k - 1, by omega, j + 1, by omega, ?_⟩
    rw [fa_or, nI_1]
    rfl
  rw [l2_bit (by omega) (by omega)]
  refine l2_if (fun z => ?_) (fun z => ?_)
  · have z := (nI_eq (b := 1) (by omega) (by decide)).mp z
    have z1 : ¬ st / 2 ^ j % 2 = 0 := by omega
    refine l2_if (fun y => ?_) (fun y => ?_)
    · have y := (nI_eq (b := 8) (by omega) (by decide)).mp y
      refine l2_eq (sy_isq hT hm hj8) ?_
      have w : ∀ v, v = sy_q T m j → t_hk (k_X13_leads_65 (nI m) (nI st) (nI act) (nI j) (nI v) (nI (sy_nx T m st act j)) s) _ := fun v hv => go v (by unfold sy_tm; rw [if_neg z1, if_pos y]; exact hv)
      by_cases u : sy_q T m j = 0
      · rw [if_pos u]
        exact l2_ck rfl (w 0 u.symm)
      · rw [if_neg u]
        refine l2_no (by decide) ?_
        rw [l2_shl1 (by omega)]
        refine w _ ?_
        unfold sy_q at u ⊢
        by_cases t : T ((m * 8 + j) * 8 + 4) ||| T ((m * 8 + j) * 8 + 5) ||| T ((m * 8 + j) * 8 + 6) ||| T ((m * 8 + j) * 8 + 7) = 0
        · rw [if_pos t]
        · rw [if_neg t] at u
          exact absurd rfl u
    have y1 : act ≠ 8 := fun u => y (by rw [u]; rfl)
    rw [sy_e2]
    refine l2_ck (l2_ix (by omega) (by decide)) ?_
    rw [nI_clamp (by omega), (hT _ (by omega)).2]
    exact go _ (by unfold sy_tm; rw [if_neg z1, if_neg y1])
  · have z1 : st / 2 ^ j % 2 = 0 := by
      by_cases u : st / 2 ^ j % 2 = 1
      · exact absurd (by rw [u]; rfl) z
      · omega
    have q := go 0 (by unfold sy_tm; rw [if_pos z1])
    rw [fa_or, Nat.or_zero] at q
    exact q
/-- the least act from a that the first can tell and the second can't -/
def sy_bad (T : Nat → Nat) (m n v a : Nat) : Prop := sy_nx T m (v / 256) a 8 ≠ 0 ∧ sy_nx T n (v % 256) a 8 = 0
theorem sy_canGo {s : t_S} {T : Nat → Nat} (hT : sy_T (s.1 947) T) {m st act : Nat} (hm : m < 4) (hs : st < 256) (ha : act ≤ 8) : f_X9_canGo (nI m) (nI st) (nI act) s = some (if sy_nx T m st act 8 = 0 then 0 else 1) := by
  apply l2_val
  unfold f_X9_canGo
  refine l2_eq (sy_next hT hm hs ha) ?_
  have hb := sy_nx_lt hT hm ha (st := st) 8 (Nat.le_refl 8)
  refine l2_if (fun c => ?_) (fun c => ?_)
  · have c := (nI_eq (b := 0) (by omega) (by decide)).mp c
    rw [if_pos c]
    exact l2_sm rfl
  · rw [if_neg (fun z => c (by rw [z]; rfl))]
    exact l2_sm rfl
theorem sy_hi {v : Nat} (h : v < 65536) : nI v >>> ((8 : Int32) &&& 31) = nI (v / 256) := pk_shrN (by omega) _ 8 (by decide)
theorem sy_lo {v : Nat} (h : v < 65536) : nI v &&& (255 : Int32) = nI (v % 256) := pk_andN (by omega) 8 (by decide)
theorem sy_breaking {s : t_S} {T : Nat → Nat} (hT : sy_T (s.1 947) T) {m n v : Nat} (hm : m < 4) (hn : n < 4) (hv : v < 65536) : t_hk (f_X9_breaking (nI m) (nI n) (nI v) s) (fun r => (r = -1 ∧ ∀ a, 4 ≤ a → a ≤ 8 → ¬ sy_bad T m n v a) ∨ ∃ a, 4 ≤ a ∧ a ≤ 8 ∧ r = nI a ∧ sy_bad T m n v a ∧ ∀ b, 4 ≤ b → b < a → ¬ sy_bad T m n v b) := by
  refine l2_lp (fun k y => ∃ j, 4 ≤ j ∧ j + k = 9 ∧ y = (nI m, nI n, nI v, nI j) ∧ ∀ b, 4 ≤ b → b < j → ¬ sy_bad T m n v b) ?_ (m := 5) (Nat.lt_trans (by decide) l2_N) ⟨4, by omega, rfl, rfl, fun b h1 h2 => absurd h2 (by omega)⟩
  rintro k y ⟨j, h4, hj, rfl, hb⟩
  show t_hk (k_X9_breaking_3 (nI m) (nI n) (nI v) (nI j) s) _
  unfold k_X9_breaking_3
  refine l2_if (fun c => ?_) (fun c => ?_)
  · have c := (nI_ltI (a := 8) (by decide) (by omega)).mp c
    exact l2_mp (l2_sm (Or.inl ⟨rfl, fun a h1 h2 => hb a h1 (by omega)⟩))
  have c : ¬ 8 < j := fun z => c ((nI_ltI (a := 8) (by decide) (by omega)).mpr z)
  have go : ¬ sy_bad T m n v j → t_hk (k_X9_breaking_42 (nI m) (nI n) (nI v) (nI j) s) (l2_nx (fun z => ∃ j, j < k ∧ ∃ j_1, 4 ≤ j_1 ∧ j_1 + j = 9 ∧ z = (nI m, nI n, nI v, nI j_1) ∧ ∀ b, 4 ≤ b → b < j_1 → ¬ sy_bad T m n v b) (fun r => (r = -1 ∧ ∀ a, 4 ≤ a → a ≤ 8 → ¬ sy_bad T m n v a) ∨ ∃ a, 4 ≤ a ∧ a ≤ 8 ∧ r = nI a ∧ sy_bad T m n v a ∧ ∀ b, 4 ≤ b → b < a → ¬ sy_bad T m n v b)) := by
    intro nb
    unfold k_X9_breaking_42
    refine l2_sm ⟨k - 1, by omega, j + 1, by omega, by omega, by rw [nI_1], fun b h1 h2 => ?_⟩
    by_cases e : b = j
    · rw [e]; exact nb
    · exact hb b h1 (by omega)
  rw [sy_hi hv, sy_lo hv]
  refine l2_eq (sy_canGo hT hm (by omega) (by omega)) ?_
  by_cases z : sy_nx T m (v / 256) j 8 = 0
  · rw [if_pos z]
    exact l2_ck rfl (go (fun q => q.1 z))
  · rw [if_neg z]
    refine l2_no (by decide) ?_
    refine l2_eq (sy_canGo hT hn (by omega) (by omega)) ?_
    by_cases w : sy_nx T n (v % 256) j 8 = 0
    · rw [if_pos w]
      exact l2_ck rfl (l2_mp (l2_sm (Or.inr ⟨j, h4, by omega, rfl, ⟨z, w⟩, hb⟩)))
    · rw [if_neg w]
      exact l2_no (by decide) (go (fun q => w q.2))
