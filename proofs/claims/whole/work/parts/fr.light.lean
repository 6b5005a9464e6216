/-! Level 2: the reference's least weights: what one node's is made of; one node's on the state. -/
section
variable {nt : Nat → Nat} {r w : t_S} {m : Nat} {y z : Nat → Nat} {ρ : Nat → Nat}
theorem rl_add {a b : Nat} (ha : a ≤ 4000000000000000000) (hb : b ≤ 4000000000000000000) {s : t_S} : f_X13_addFar (lN a) (lN b) s = lN (min 4000000000000000000 (a + b)) := by
  unfold f_X13_addFar
  have e : (4000000000000000000 : Int64) - lN b = lN (4000000000000000000 - b) := by
    rw [show (4000000000000000000 : Int64) = lN (4000000000000000000 - b) + lN b by rw [lN_add, show 4000000000000000000 - b + b = 4000000000000000000 by omega]; rfl]
    exact Int64.add_sub_cancel _ _
  rw [e]
  by_cases c : a < 4000000000000000000 - b
  · rw [if_pos (t_cmp_lt.mpr (by rw [pk_lT (by omega), pk_lT (by omega)]; omega)), lN_add, show min 4000000000000000000 (a + b) = a + b by omega]
  · rw [if_neg (fun q => c (by have q := t_cmp_lt.mp q; rw [pk_lT (by omega), pk_lT (by omega)] at q; omega)), show min 4000000000000000000 (a + b) = 4000000000000000000 by omega]
    rfl
theorem rl_mul {a b : Nat} (ha : a < 256) (hb : b ≤ 4000000000000000000) {s : t_S} : f_X13_mulFar (lN a) (lN b) s = some (lN (min 4000000000000000000 (a * b))) := by
  have z0 : ∀ n : Nat, n < 2 ^ 63 → (lg_cmp (lN n) (0 : Int64) = 0 ↔ n = 0) := fun n hn => by
    rw [l2_cmp0]
    exact pk_lEQ (b := 0) hn (by decide)
  have mul : lN a * lN b = lN (a * b) := (Int64.ofNat_mul a b).symm
  unfold f_X13_mulFar k_X13_mulFar_12
  by_cases a0 : a = 0
  · subst a0
    rw [if_pos ((z0 0 (by decide)).mpr rfl), Nat.zero_mul]
    rfl
  rw [if_neg (fun q => a0 ((z0 a (by omega)).mp q))]
  by_cases b0 : b = 0
  · subst b0
    rw [if_pos ((z0 0 (by decide)).mpr rfl), Nat.mul_zero]
    rfl
  rw [if_neg (fun q => b0 ((z0 b (by omega)).mp q)), if_pos (show ¬ lN b = 0 from fun q => b0 ((pk_lEQ (b := 0) (by omega) (by decide)).mp q))]
  have dv : (4000000000000000000 : Int64) / lN b = lN (4000000000000000000 / b) := pk_lDiv (a := 4000000000000000000) (by decide) (by omega) (by omega)
  have le : ∀ x y : Nat, x < 2 ^ 63 → y < 2 ^ 63 → (lg_cmp (lN x) (lN y) ≤ (0 : Int32) ↔ x ≤ y) := fun x y hx hy => by
    have q : lg_cmp (lN x) (lN y) ≤ (0 : Int32) ↔ ¬ 0 < lg_cmp (lN x) (lN y) := by
      rw [Int32.not_lt]
    rw [q, t_cmp_gt, pk_lT hx, pk_lT hy]
    omega
  have fb : 4000000000000000000 / b ≤ 4000000000000000000 := Nat.div_le_self _ _
  have iff : a ≤ 4000000000000000000 / b ↔ a * b ≤ 4000000000000000000 := Nat.le_div_iff_mul_le (by omega)
  rw [dv]
  by_cases c : a * b ≤ 4000000000000000000
  · rw [if_pos ((le _ _ (by omega) (by omega)).mpr (iff.mpr c)), mul, if_pos (show lg_cmp (lN (a * b)) (4000000000000000000 : Int64) ≤ 0 from (le (a * b) 4000000000000000000 (by omega) (by decide)).mpr c), show min 4000000000000000000 (a * b) = a * b by omega]
  · rw [if_neg (fun q => c (iff.mp ((le _ _ (by omega) (by omega)).mp q))), show min 4000000000000000000 (a * b) = 4000000000000000000 by omega]
    rfl
theorem rl_in {K : Nat} (hK : K < 1000) (s : t_S) : f_X13_in (nI K).toInt64 (1 : Int64) (8 : Int64) s = if 1 ≤ K ∧ K ≤ 8 then 1 else 0 := by
  unfold f_X13_in
  rw [nI_l (by omega)]
  have tv : (lN K).toInt = K := pk_lT (by omega)
  have lo : lg_cmp (lN K) 1 < 0 ↔ K < 1 := by rw [t_cmp_lt, tv, show (1 : Int64).toInt = 1 from rfl]; omega
  have hi : 0 < lg_cmp (lN K) 8 ↔ 8 < K := by rw [t_cmp_gt, tv, show (8 : Int64).toInt = 8 from rfl]; omega
  by_cases c1 : K < 1
  · rw [if_pos (lo.mpr c1), if_neg (by omega)]
  · rw [if_neg (fun y => c1 (lo.mp y))]
    by_cases c2 : 8 < K
    · rw [if_pos (hi.mpr c2), if_neg (by omega)]
    · rw [if_neg (fun y => c2 (hi.mp y)), if_pos (by omega)]
/-- of a record, its fields from f on -/
def rlRc (r : t_S) (y : Nat → Nat) : Nat → Int32 → Nat → Nat
  | 0, _, v => v
  | k + 1, f, v => if f.toInt < 0 then v else rlRc r y k (r.1 960 f.toNatClampNeg) (if r.2.1 958 f.toNatClampNeg = 0 then min 4000000000000000000 (v + min 4000000000000000000 (1 + y (r.1 959 f.toNatClampNeg).toNatClampNeg)) else v)
/-- of a choice -/
def rlCh (r : t_S) (y : Nat → Nat) : Nat → Int32 → Nat → Nat
  | 0, _, v => v
  | k + 1, f, v => if f.toInt < 0 then v else rlCh r y k (r.1 960 f.toNatClampNeg) (min v (min 4000000000000000000 (1 + y (r.1 959 f.toNatClampNeg).toNatClampNeg)))
theorem rlRc.succ {k v : Nat} {f : Int32} : rlRc r y (k + 1) f v = if f.toInt < 0 then v else rlRc r y k (r.1 960 f.toNatClampNeg) (if r.2.1 958 f.toNatClampNeg = 0 then min 4000000000000000000 (v + min 4000000000000000000 (1 + y (r.1 959 f.toNatClampNeg).toNatClampNeg)) else v) := rfl
theorem rlCh.succ {k v : Nat} {f : Int32} : rlCh r y (k + 1) f v = if f.toInt < 0 then v else rlCh r y k (r.1 960 f.toNatClampNeg) (min v (min 4000000000000000000 (1 + y (r.1 959 f.toNatClampNeg).toNatClampNeg))) := rfl
noncomputable def rlLo (r : t_S) (n : Nat) : Nat := (r.2.1 957 n).toInt.toNat
/-- the node of the type that node n names -/
noncomputable def rlNm (r : t_S) (n : Nat) : Nat := match f_X13_find 964 0 (r.1 950 40) ((r.2.1 957 n).toInt32) r with
  | some v => (r.1 965 v.toNatClampNeg).toNatClampNeg
  | none => 0
/-- a node's least weight from its parts' -/
noncomputable def rlF (r : t_S) (y : Nat → Nat) (n : Nat) : Nat :=
  if r.1 955 n = 1 ∨ r.1 955 n = 2 ∨ r.1 955 n = 4 then 1 else if r.1 955 n = 3 then 1 + (rlLo r n + 7) / 8 else if r.1 955 n = 5 then rlRc r y 13000 (r.1 959 n) 1 else if r.1 955 n = 6 then rlCh r y 13000 (r.1 959 n) 4000000000000000000 else if r.1 955 n = 7 then (if rlLo r n = 0 then 1 else min 4000000000000000000 (1 + min 4000000000000000000 (rlLo r n * y (r.1 959 n).toNatClampNeg))) else if r.1 955 n = 8 then y (rlNm r n) else 4000000000000000000
/-- types' nodes as they are behind a module -/
def rlW (nt : Nat → Nat) (r : t_S) (m : Nat) : Prop := r.1 950 29 = nI m ∧ m ≤ 13000 ∧ ∀ n, n < m → (∃ K : Nat, K < 100 ∧ r.1 955 n = nI K) ∧ ty_p r m n ∧ (r.1 955 n = 8 → ∃ v u : Nat, f_X13_find 964 0 (r.1 950 40) ((r.2.1 957 n).toInt32) r = some (nI v) ∧ v < 60 ∧ r.1 965 v = nI u ∧ u < m)
def rl_V (b j : Nat) : Prop := b = 1011 ∨ b = 1012 ∨ (b = 950 ∧ j = 108)
/-- values y at the nodes -/
def rlS (r : t_S) (m : Nat) (y : Nat → Nat) (w : t_S) : Prop := l2_fr rl_V r w ∧ (∀ i, i < m → w.2.1 1011 i = lN (y i)) ∧ ∀ i, y i ≤ 4000000000000000000
theorem rlS.st (h : rlS r m y w) : ∀ b j, b ≠ 1011 → b ≠ 1012 → b ≠ 950 → w.1 b j = r.1 b j ∧ w.2.1 b j = r.2.1 b j := fun b j y1 y2 y3 => ⟨(h.1 b j (by unfold rl_V; omega)).1, (h.1 b j (by unfold rl_V; omega)).2.1⟩
/-- a chain's place: its end, or a field -/
def rlL (r : t_S) (m k : Nat) (f : Int32) : Prop := f = -1 ∨ ∃ j, f = nI j ∧ j < m ∧ r.1 955 j = 10 ∧ 13000 ≤ k + j
theorem rlL.next (hW : rlW nt r m) {k j : Nat} (hj : j < m) (h10 : r.1 955 j = 10) (hk : 13000 ≤ k + 1 + j) : rlL r m k (r.1 960 j) ∧ ∃ c, r.1 959 j = nI c ∧ c < m := by
  obtain ⟨q, c⟩ := (hW.2.2 j hj).2.1.2.1 h10
  refine ⟨?_, c⟩
  rcases q with q | ⟨x, x1, x2, x3, x4⟩
  · exact Or.inl q
  · exact Or.inr ⟨x, x1, x3, x4, by omega⟩
theorem rl_rec (h : rlS r m y w) (hW : rlW nt r m) {n : Nat} (hn : n < m) (hk : r.1 955 n = 5) : t_hk (t_loop (b_X13_lightOf_67 w) t_N (1, r.1 959 n)) (fun v => v = lN (rlRc r y 13000 (r.1 959 n) 1)) := by
  obtain ⟨R, hR⟩ : ∃ R, rlRc r y 13000 (r.1 959 n) 1 = R := ⟨_, rfl⟩
  rw [hR]
  have m13 := hW.2.1
  have st := h.st
  have L0 : rlL r m 13000 (r.1 959 n) := by
    rcases (hW.2.2 n hn).2.1.1 (Or.inl hk) with q | ⟨x, x1, x2, x3, x4⟩
    · exact Or.inl q
    · exact Or.inr ⟨x, x1, x3, x4, by omega⟩
  refine l2_lp (I := fun k x => ∃ v f, x = (lN v, f) ∧ v ≤ 4000000000000000000 ∧ rlL r m k f ∧ rlRc r y k f v = R) ?_ (m := 13000) (by unfold t_N; omega) ⟨1, _, rfl, by omega, L0, hR⟩
  rintro k x ⟨v, f, rfl, hv, hf, eq⟩
  show t_hk (k_X13_lightOf_67 (lN v) f w) _
  unfold k_X13_lightOf_67
  rcases hf with rfl | ⟨j, rfl, hj, h10, kj⟩
  · rw [if_pos (by decide)]
    have e2 : v = R := by
      rw [← eq]
      cases k with
      | zero => rfl
      | succ k => rw [rlRc.succ, if_pos (by decide)]
    exact l2_mp (l2_sm (congrArg lN e2))
  obtain ⟨k, rfl⟩ : ∃ i, k = i + 1 := ⟨k - 1, by omega⟩
  have np : ¬ (nI j).toInt < 0 := by rw [nI_toInt (by omega)]; omega
  obtain ⟨nx, c, c1, c2⟩ := rlL.next hW hj h10 kj
  rw [rlRc.succ, if_neg np, nI_clamp (n := j) (by omega), c1, nI_clamp (n := c) (by omega)] at eq
  rw [if_neg (nI_pos (n := j) (by omega))]
  refine l2_ck (l2_ix (by omega) (by decide)) ?_
  rw [nI_clamp (n := j) (by omega), (st 958 j (by decide) (by decide) (by decide)).2, (st 959 j (by decide) (by decide) (by decide)).1, c1]
  have go : ∀ v', v' ≤ 4000000000000000000 → rlRc r y k (r.1 960 j) v' = R → t_hk (k_X13_lightOf_110 (nI j) (lN v') w) (l2_nx (fun z => ∃ i, i < k + 1 ∧ ∃ v f, z = (lN v, f) ∧ v ≤ 4000000000000000000 ∧ rlL r m i f ∧ rlRc r y i f v = R) (fun v => v = lN R)) := fun v' h1 h2 => by
    unfold k_X13_lightOf_110
    refine l2_ck (l2_ix (by omega) (by decide)) (l2_sm ⟨k, by omega, v', r.1 960 j, ?_, h1, nx, h2⟩)
    rw [nI_clamp (n := j) (by omega), (st 960 j (by decide) (by decide) (by decide)).1]
  by_cases z : r.2.1 958 j = 0
  · rw [if_pos z] at eq
    rw [if_pos (l2_cmp0.mpr z)]
    refine l2_ck (l2_ix (by omega) (by decide)) ?_
    rw [nI_clamp (n := c) (by omega), h.2.1 c c2, show (1 : Int64) = lN 1 from rfl, rl_add (by omega) (h.2.2 c), rl_add hv (by omega)]
    exact go _ (by omega) eq
  · rw [if_neg z] at eq
    rw [if_neg (fun q => z (l2_cmp0.mp q))]
    exact go _ hv eq
theorem rl_cho (h : rlS r m y w) (hW : rlW nt r m) {n : Nat} (hn : n < m) (hk : r.1 955 n = 6) : t_hk (t_loop (b_X13_lightOf_138 w) t_N (4000000000000000000, r.1 959 n)) (fun v => v = lN (rlCh r y 13000 (r.1 959 n) 4000000000000000000)) := by
  obtain ⟨R, hR⟩ : ∃ R, rlCh r y 13000 (r.1 959 n) 4000000000000000000 = R := ⟨_, rfl⟩
  rw [hR]
  have m13 := hW.2.1
  have st := h.st
  have L0 : rlL r m 13000 (r.1 959 n) := by
    rcases (hW.2.2 n hn).2.1.1 (Or.inr hk) with q | ⟨x, x1, x2, x3, x4⟩
    · exact Or.inl q
    · exact Or.inr ⟨x, x1, x3, x4, by omega⟩
  refine l2_lp (I := fun k x => ∃ v f, x = (lN v, f) ∧ v ≤ 4000000000000000000 ∧ rlL r m k f ∧ rlCh r y k f v = R) ?_ (m := 13000) (by unfold t_N; omega) ⟨4000000000000000000, _, rfl, by omega, L0, hR⟩
  rintro k x ⟨v, f, rfl, hv, hf, eq⟩
  show t_hk (k_X13_lightOf_138 (lN v) f w) _
  unfold k_X13_lightOf_138
  rcases hf with rfl | ⟨j, rfl, hj, h10, kj⟩
  · rw [if_pos (by decide)]
    have e2 : v = R := by
      rw [← eq]
      cases k with
      | zero => rfl
      | succ k => rw [rlCh.succ, if_pos (by decide)]
    exact l2_mp (l2_sm (congrArg lN e2))
  obtain ⟨k, rfl⟩ : ∃ i, k = i + 1 := ⟨k - 1, by omega⟩
  have np : ¬ (nI j).toInt < 0 := by rw [nI_toInt (by omega)]; omega
  obtain ⟨nx, c, c1, c2⟩ := rlL.next hW hj h10 kj
  rw [rlCh.succ, if_neg np, nI_clamp (n := j) (by omega), c1, nI_clamp (n := c) (by omega)] at eq
  rw [if_neg (nI_pos (n := j) (by omega))]
  refine l2_ck (l2_ix (by omega) (by decide)) ?_
  rw [nI_clamp (n := j) (by omega), (st 959 j (by decide) (by decide) (by decide)).1, c1]
  refine l2_ck (l2_ix (by omega) (by decide)) ?_
  have yc := h.2.2 c
  rw [nI_clamp (n := c) (by omega), h.2.1 c c2, show (1 : Int64) = lN 1 from rfl, rl_add (by omega) yc]
  have go : ∀ v', v' ≤ 4000000000000000000 → rlCh r y k (r.1 960 j) v' = R → t_hk (k_X13_lightOf_177 (nI j) (lN v') w) (l2_nx (fun z => ∃ i, i < k + 1 ∧ ∃ v f, z = (lN v, f) ∧ v ≤ 4000000000000000000 ∧ rlL r m i f ∧ rlCh r y i f v = R) (fun v => v = lN R)) := fun v' h1 h2 => by
    unfold k_X13_lightOf_177
    refine l2_ck (l2_ix (by omega) (by decide)) (l2_sm ⟨k, by omega, v', r.1 960 j, ?_, h1, nx, h2⟩)
    rw [nI_clamp (n := j) (by omega), (st 960 j (by decide) (by decide) (by decide)).1]
  have cmp : (0 : Int32) ≤ lg_cmp (lN (min 4000000000000000000 (1 + y c))) (lN v) ↔ v ≤ min 4000000000000000000 (1 + y c) := by
    rw [← Int32.not_lt, t_cmp_lt, pk_lT (by omega), pk_lT (by omega)]
    omega
  by_cases z : v ≤ min 4000000000000000000 (1 + y c)
  · rw [if_pos (cmp.mpr z)]
    rw [show min v (min 4000000000000000000 (1 + y c)) = v by omega] at eq
    exact go _ hv eq
  · rw [if_neg (fun q => z (cmp.mp q))]
    rw [show min v (min 4000000000000000000 (1 + y c)) = min 4000000000000000000 (1 + y c) by omega] at eq
    exact go _ (by omega) eq
/-- one node's least weight on the state -/
theorem rl_one (h : rlS r m y w) (hW : rlW nt r m) {n K : Nat} (hn : n < m) (hk : r.1 955 n = nI K) (hK : 1 ≤ K ∧ K ≤ 8) : t_hk (f_X13_lightOf (nI n) w) (fun v => v = lN (rlF r y n)) := by
  have m13 := hW.2.1
  have st := h.st
  obtain ⟨_, P, nm⟩ := hW.2.2 n hn
  have ne : ∀ L : Nat, L < 100 → K ≠ L → r.1 955 n ≠ nI L := fun L hL q e => q ((nI_eq (by omega) (by omega)).mp (hk.symm.trans e))
  have tK : (r.1 955 n).toInt = K := by rw [hk, nI_toInt (by omega)]
  unfold f_X13_lightOf
  refine l2_ck (l2_ix (by omega) (by decide)) ?_
  rw [nI_clamp (n := n) (by omega), (st 955 n (by decide) (by decide) (by decide)).1, (st 957 n (by decide) (by decide) (by decide)).2, (st 959 n (by decide) (by decide) (by decide)).1, tK]
  have hc : K = 1 ∨ K = 2 ∨ K = 3 ∨ K = 4 ∨ K = 5 ∨ K = 6 ∨ K = 7 ∨ K = 8 := by omega
  unfold rlF
  rcases hc with rfl | rfl | rfl | rfl | rfl | rfl | rfl | rfl
  · have hk : r.1 955 n = 1 := hk
    rw [if_pos (by decide), if_pos (Or.inl hk)]
    exact l2_sm rfl
  · have hk : r.1 955 n = 2 := hk
    rw [if_pos (by decide), if_pos (Or.inr (Or.inl hk))]
    exact l2_sm rfl
  · have hk : r.1 955 n = 3 := hk
    rw [if_neg (by decide), if_pos (by decide), if_neg (show ¬ (r.1 955 n = 1 ∨ r.1 955 n = 2 ∨ r.1 955 n = 4) by rw [hk]; decide), if_pos (show r.1 955 n = _ from hk)]
    obtain ⟨lo, l1, l2⟩ := P.2.2.2 (Or.inl hk)
    unfold rlLo f_X13_packs
    rw [l2, pk_lT (by omega)]
    have e : ((lN lo + (7 : Int64)).toInt32) / (8 : Int32) = nI ((lo + 7) / 8) := by
      rw [show (7 : Int64) = lN 7 from rfl, lN_add, lN_i]
      exact pk_div (d := 8) (by omega) (by decide) (by decide)
    rw [l2_bs, e, nI_l (by omega), show (1 : Int64) = lN 1 from rfl, lN_add]
    exact l2_sm rfl
  · have hk : r.1 955 n = 4 := hk
    rw [if_neg (by decide), if_neg (by decide), if_pos (by decide), if_pos (Or.inr (Or.inr hk))]
    exact l2_sm rfl
  · have hk : r.1 955 n = 5 := hk
    rw [if_neg (by decide), if_neg (by decide), if_neg (by decide), if_pos (by decide), if_neg (show ¬ (r.1 955 n = 1 ∨ r.1 955 n = 2 ∨ r.1 955 n = 4) by rw [hk]; decide), if_neg (show ¬ r.1 955 n = 3 by rw [hk]; decide), if_pos (show r.1 955 n = _ from hk)]
    exact rl_rec h hW hn hk
  · have hk : r.1 955 n = 6 := hk
    rw [if_neg (by decide), if_neg (by decide), if_neg (by decide), if_neg (by decide), if_pos (by decide), if_neg (show ¬ (r.1 955 n = 1 ∨ r.1 955 n = 2 ∨ r.1 955 n = 4) by rw [hk]; decide), if_neg (show ¬ r.1 955 n = 3 by rw [hk]; decide), if_neg (show ¬ r.1 955 n = 5 by rw [hk]; decide), if_pos (show r.1 955 n = _ from hk)]
    exact rl_cho h hW hn hk
  · have hk : r.1 955 n = 7 := hk
    rw [if_neg (by decide), if_neg (by decide), if_neg (by decide), if_neg (by decide), if_neg (by decide), if_pos (by decide), if_neg (show ¬ (r.1 955 n = 1 ∨ r.1 955 n = 2 ∨ r.1 955 n = 4) by rw [hk]; decide), if_neg (show ¬ r.1 955 n = 3 by rw [hk]; decide), if_neg (show ¬ r.1 955 n = 5 by rw [hk]; decide), if_neg (show ¬ r.1 955 n = 6 by rw [hk]; decide), if_pos (show r.1 955 n = _ from hk)]
    obtain ⟨lo, l1, l2⟩ := P.2.2.2 (Or.inr hk)
    obtain ⟨c, c1, c2⟩ := P.2.2.1 hk
    unfold rlLo
    rw [l2, pk_lT (by omega), c1, nI_clamp (n := c) (by omega)]
    have e0 : lg_cmp (lN lo) (0 : Int64) = 0 ↔ lo = 0 := by
      rw [l2_cmp0]
      exact pk_lEQ (b := 0) (by omega) (by decide)
    show t_hk _ (fun v => v = lN (if lo = 0 then 1 else min 4000000000000000000 (1 + min 4000000000000000000 (lo * y c))))
    by_cases z : lo = 0
    · rw [if_pos (e0.mpr z), if_pos z]
      exact l2_sm rfl
    · rw [if_neg (fun q => z (e0.mp q)), if_neg z]
      refine l2_ck (l2_ix (by omega) (by decide)) ?_
      rw [h.2.1 c c2, rl_mul l1 (h.2.2 c), l2_bs, show (1 : Int64) = lN 1 from rfl, rl_add (by omega) (by omega)]
      exact l2_sm rfl
  · have hk : r.1 955 n = 8 := hk
    rw [if_neg (by decide), if_neg (by decide), if_neg (by decide), if_neg (by decide), if_neg (by decide), if_neg (by decide), if_neg (show ¬ (r.1 955 n = 1 ∨ r.1 955 n = 2 ∨ r.1 955 n = 4) by rw [hk]; decide), if_neg (show ¬ r.1 955 n = 3 by rw [hk]; decide), if_neg (show ¬ r.1 955 n = 5 by rw [hk]; decide), if_neg (show ¬ r.1 955 n = 6 by rw [hk]; decide), if_neg (show ¬ r.1 955 n = 7 by rw [hk]; decide), if_pos (show r.1 955 n = _ from hk)]
    obtain ⟨v, u, v1, v2, v3, v4⟩ := nm hk
    have nme : rlNm r n = u := by
      unfold rlNm
      rw [v1]
      show (r.1 965 (nI v).toNatClampNeg).toNatClampNeg = u
      rw [nI_clamp (n := v) (by omega), v3, nI_clamp (n := u) (by omega)]
    rw [nme]
    have fd : f_X13_find 964 0 (w.1 950 40) ((r.2.1 957 n).toInt32) w = some (nI v) := by
      rw [(h.1 950 40 (by unfold rl_V; omega)).1, ← v1]
      exact fd_st (fun j => (h.1 964 j (by unfold rl_V; omega)).1)
    rw [fd, l2_bs]
    refine l2_ck (l2_ix (by omega) (by decide)) (l2_ck ?_ ?_)
    · rw [nI_clamp (n := v) (by omega), (st 965 v (by decide) (by decide) (by decide)).1, v3]
      exact l2_ix (by omega) (by decide)
    · rw [nI_clamp (n := v) (by omega), (st 965 v (by decide) (by decide) (by decide)).1, v3, nI_clamp (n := u) (by omega), h.2.1 u v4]
      exact l2_sm rfl
end
