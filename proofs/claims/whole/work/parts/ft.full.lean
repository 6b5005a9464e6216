/-! Level 2: the reference's full types: which may come to an end. -/
section
variable {nt : Nat → Nat} {r w : t_S} {m : Nat} {y z : Nat → Nat}
def rgRc (r : t_S) (y : Nat → Nat) : Nat → Int32 → Nat → Nat
  | 0, _, v => v
  | k + 1, f, v => if f.toInt < 0 then v else rgRc r y k (r.1 960 f.toNatClampNeg) (if v = 0 then (if r.2.1 958 f.toNatClampNeg = 0 then y (r.1 959 f.toNatClampNeg).toNatClampNeg else 0) else 1)
def rgCh (r : t_S) (y : Nat → Nat) : Nat → Int32 → Nat → Nat
  | 0, _, v => v
  | k + 1, f, v => if f.toInt < 0 then v else rgCh r y k (r.1 960 f.toNatClampNeg) (if v = 0 then 0 else y (r.1 959 f.toNatClampNeg).toNatClampNeg)
theorem rgRc.succ {k v : Nat} {f : Int32} : rgRc r y (k + 1) f v = if f.toInt < 0 then v else rgRc r y k (r.1 960 f.toNatClampNeg) (if v = 0 then (if r.2.1 958 f.toNatClampNeg = 0 then y (r.1 959 f.toNatClampNeg).toNatClampNeg else 0) else 1) := rfl
theorem rgCh.succ {k v : Nat} {f : Int32} : rgCh r y (k + 1) f v = if f.toInt < 0 then v else rgCh r y k (r.1 960 f.toNatClampNeg) (if v = 0 then 0 else y (r.1 959 f.toNatClampNeg).toNatClampNeg) := rfl
/-- 0: full; 1: not -/
noncomputable def rgF (r : t_S) (y : Nat → Nat) (n : Nat) : Nat :=
  if r.1 955 n = 1 ∨ r.1 955 n = 2 ∨ r.1 955 n = 3 ∨ r.1 955 n = 4 then 0 else if r.1 955 n = 5 then rgRc r y 13000 (r.1 959 n) 0 else if r.1 955 n = 6 then rgCh r y 13000 (r.1 959 n) 1 else if r.1 955 n = 7 then (if rlLo r n = 0 then 0 else y (r.1 959 n).toNatClampNeg) else if r.1 955 n = 8 then y (rlNm r n) else 1
def rgS (r : t_S) (m : Nat) (y : Nat → Nat) (w : t_S) : Prop := l2_fr rl_V r w ∧ (∀ i, i < m → w.1 1012 i = nI (1 - y i)) ∧ ∀ i, y i ≤ 1
theorem rgS.st (h : rgS r m y w) : ∀ b j, b ≠ 1011 → b ≠ 1012 → b ≠ 950 → w.1 b j = r.1 b j ∧ w.2.1 b j = r.2.1 b j := fun b j y1 y2 y3 => ⟨(h.1 b j (by unfold rl_V; omega)).1, (h.1 b j (by unfold rl_V; omega)).2.1⟩
theorem rgS.bit (h : rgS r m y w) {c : Nat} (hc : c < m) : (y c = 1 ∧ w.1 1012 c = 0) ∨ (y c = 0 ∧ w.1 1012 c = 1) := by
  have h1 := h.2.1 c hc
  have h2 := h.2.2 c
  have : y c = 0 ∨ y c = 1 := by omega
  rcases this with e | e
  · exact Or.inr ⟨e, by rw [h1, e]; rfl⟩
  · exact Or.inl ⟨e, by rw [h1, e]; rfl⟩
theorem rgRc.top (h : ∀ u, y u ≤ 1) : ∀ k f v, v ≤ 1 → rgRc r y k f v ≤ 1 := by
  intro k
  induction k with
  | zero => intro f v hv; exact hv
  | succ k ih =>
    intro f v hv
    rw [rgRc.succ]
    split
    · exact hv
    · refine ih _ _ ?_
      split
      · split
        · exact h _
        · decide
      · decide
theorem rgCh.top (h : ∀ u, y u ≤ 1) : ∀ k f v, v ≤ 1 → rgCh r y k f v ≤ 1 := by
  intro k
  induction k with
  | zero => intro f v hv; exact hv
  | succ k ih =>
    intro f v hv
    rw [rgCh.succ]
    split
    · exact hv
    · refine ih _ _ ?_
      split
      · decide
      · exact h _
theorem rg_rec (h : rgS r m y w) (hW : rlW nt r m) {n : Nat} (hn : n < m) (hk : r.1 955 n = 5) : t_hk (t_loop (b_X13_fullOf_45 w) t_N (1, r.1 959 n)) (fun v => v = nI (1 - rgRc r y 13000 (r.1 959 n) 0)) := by
  obtain ⟨R, hR⟩ : ∃ R, rgRc r y 13000 (r.1 959 n) 0 = R := ⟨_, rfl⟩
  rw [hR]
  have m13 := hW.2.1
  have st := h.st
  refine l2_lp (I := fun k x => ∃ v f, x = (nI (1 - v), f) ∧ v ≤ 1 ∧ rlL r m k f ∧ rgRc r y k f v = R) ?_ (m := 13000) (by unfold t_N; omega) ⟨0, _, rfl, by omega, rlL.start hW hn (Or.inl hk), hR⟩
  rintro k x ⟨v, f, rfl, hv, hf, eq⟩
  show t_hk (k_X13_fullOf_45 (nI (1 - v)) f w) _
  unfold k_X13_fullOf_45
  have v01 : v = 0 ∨ v = 1 := by omega
  rcases hf with rfl | ⟨j, rfl, hj, h10, kj⟩
  · rw [if_pos (by decide)]
    have e2 : v = R := by
      rw [← eq]
      cases k with
      | zero => rfl
      | succ k => rw [rgRc.succ, if_pos (by decide)]
    subst e2
    refine l2_mp (l2_ck ?_ (l2_sm rfl))
    rcases v01 with rfl | rfl
    · exact Or.inr rfl
    · exact Or.inl rfl
  obtain ⟨k, rfl⟩ : ∃ i, k = i + 1 := ⟨k - 1, by omega⟩
  have np : ¬ (nI j).toInt < 0 := by rw [nI_toInt (by omega)]; omega
  obtain ⟨nx, c, c1, c2⟩ := rlL.next hW hj h10 kj
  rw [rgRc.succ, if_neg np, nI_clamp (n := j) (by omega), c1, nI_clamp (n := c) (by omega)] at eq
  rw [if_neg (nI_pos (n := j) (by omega))]
  have go : ∀ v', v' ≤ 1 → rgRc r y k (r.1 960 j) v' = R → t_hk (k_X13_fullOf_83 (nI j) (nI (1 - v')) w) (l2_nx (fun z => ∃ i, i < k + 1 ∧ ∃ v f, z = (nI (1 - v), f) ∧ v ≤ 1 ∧ rlL r m i f ∧ rgRc r y i f v = R) (fun v => v = nI (1 - R))) := fun v' h1 h2 => by
    unfold k_X13_fullOf_83
    refine l2_ck (l2_ix (by omega) (by decide)) (l2_sm ⟨k, by omega, v', r.1 960 j, ?_, h1, nx, h2⟩)
    rw [nI_clamp (n := j) (by omega), (st 960 j (by decide) (by decide) (by decide)).1]
  rcases v01 with rfl | rfl
  · rw [if_pos rfl] at eq
    rw [if_neg (show ¬ nI (1 - 0) = (0 : Int32) by decide)]
    refine l2_ck (l2_ix (by omega) (by decide)) ?_
    rw [nI_clamp (n := j) (by omega), (st 958 j (by decide) (by decide) (by decide)).2, (st 959 j (by decide) (by decide) (by decide)).1, c1]
    by_cases z : r.2.1 958 j = 0
    · rw [if_pos z] at eq
      rw [if_pos (l2_cmp0.mpr z)]
      refine l2_ck (l2_ix (by omega) (by decide)) ?_
      rw [nI_clamp (n := c) (by omega)]
      rcases h.bit c2 with ⟨y1, y2⟩ | ⟨y1, y2⟩
      · rw [y1] at eq
        rw [if_pos y2]
        exact go 1 (by decide) eq
      · rw [y1] at eq
        rw [if_neg (by rw [y2]; decide)]
        exact go 0 (by decide) eq
    · rw [if_neg z] at eq
      rw [if_neg (fun q => z (l2_cmp0.mp q))]
      exact go 0 (by decide) eq
  · rw [if_neg (by decide)] at eq
    rw [if_pos (show nI (1 - 1) = (0 : Int32) by decide)]
    exact go 1 (by decide) eq
theorem rg_cho (h : rgS r m y w) (hW : rlW nt r m) {n : Nat} (hn : n < m) (hk : r.1 955 n = 6) : t_hk (t_loop (b_X13_fullOf_106 w) t_N (0, r.1 959 n)) (fun v => v = nI (1 - rgCh r y 13000 (r.1 959 n) 1)) := by
  obtain ⟨R, hR⟩ : ∃ R, rgCh r y 13000 (r.1 959 n) 1 = R := ⟨_, rfl⟩
  rw [hR]
  have m13 := hW.2.1
  have st := h.st
  refine l2_lp (I := fun k x => ∃ v f, x = (nI (1 - v), f) ∧ v ≤ 1 ∧ rlL r m k f ∧ rgCh r y k f v = R) ?_ (m := 13000) (by unfold t_N; omega) ⟨1, _, rfl, by omega, rlL.start hW hn (Or.inr hk), hR⟩
  rintro k x ⟨v, f, rfl, hv, hf, eq⟩
  show t_hk (k_X13_fullOf_106 (nI (1 - v)) f w) _
  unfold k_X13_fullOf_106
  have v01 : v = 0 ∨ v = 1 := by omega
  rcases hf with rfl | ⟨j, rfl, hj, h10, kj⟩
  · rw [if_pos (by decide)]
    have e2 : v = R := by
      rw [← eq]
      cases k with
      | zero => rfl
      | succ k => rw [rgCh.succ, if_pos (by decide)]
    subst e2
    refine l2_mp (l2_ck ?_ (l2_sm rfl))
    rcases v01 with rfl | rfl
    · exact Or.inr rfl
    · exact Or.inl rfl
  obtain ⟨k, rfl⟩ : ∃ i, k = i + 1 := ⟨k - 1, by omega⟩
  have np : ¬ (nI j).toInt < 0 := by rw [nI_toInt (by omega)]; omega
  obtain ⟨nx, c, c1, c2⟩ := rlL.next hW hj h10 kj
  rw [rgCh.succ, if_neg np, nI_clamp (n := j) (by omega), c1, nI_clamp (n := c) (by omega)] at eq
  rw [if_neg (nI_pos (n := j) (by omega))]
  have go : ∀ v', v' ≤ 1 → rgCh r y k (r.1 960 j) v' = R → t_hk (k_X13_fullOf_135 (nI j) (nI (1 - v')) w) (l2_nx (fun z => ∃ i, i < k + 1 ∧ ∃ v f, z = (nI (1 - v), f) ∧ v ≤ 1 ∧ rlL r m i f ∧ rgCh r y i f v = R) (fun v => v = nI (1 - R))) := fun v' h1 h2 => by
    unfold k_X13_fullOf_135
    refine l2_ck (l2_ix (by omega) (by decide)) (l2_sm ⟨k, by omega, v', r.1 960 j, ?_, h1, nx, h2⟩)
    rw [nI_clamp (n := j) (by omega), (st 960 j (by decide) (by decide) (by decide)).1]
  rcases v01 with rfl | rfl
  · rw [if_pos rfl] at eq
    rw [if_neg (show ¬ nI (1 - 0) = (0 : Int32) by decide)]
    exact go 0 (by decide) eq
  · rw [if_neg (by decide)] at eq
    rw [if_pos (show nI (1 - 1) = (0 : Int32) by decide)]
    refine l2_ck (l2_ix (by omega) (by decide)) ?_
    rw [nI_clamp (n := j) (by omega), (st 959 j (by decide) (by decide) (by decide)).1, c1]
    refine l2_ck (l2_ix (by omega) (by decide)) ?_
    rw [nI_clamp (n := c) (by omega)]
    rcases h.bit c2 with ⟨y1, y2⟩ | ⟨y1, y2⟩
    · rw [y1] at eq
      rw [if_pos y2]
      exact go 1 (by decide) eq
    · rw [y1] at eq
      rw [if_neg (by rw [y2]; decide)]
      exact go 0 (by decide) eq
/-- one node on the state -/
theorem rg_one (h : rgS r m y w) (hW : rlW nt r m) {n K : Nat} (hn : n < m) (hk : r.1 955 n = nI K) (hK : 1 ≤ K ∧ K ≤ 8) : t_hk (f_X13_fullOf (nI n) w) (fun v => v = nI (1 - rgF r y n)) := by
  have m13 := hW.2.1
  have st := h.st
  obtain ⟨_, P, nm⟩ := hW.2.2 n hn
  have tK : (r.1 955 n).toInt = K := by rw [hk, nI_toInt (by omega)]
  unfold f_X13_fullOf
  refine l2_ck (l2_ix (by omega) (by decide)) ?_
  rw [nI_clamp (n := n) (by omega), (st 955 n (by decide) (by decide) (by decide)).1, (st 957 n (by decide) (by decide) (by decide)).2, (st 959 n (by decide) (by decide) (by decide)).1, tK]
  have hc : K = 1 ∨ K = 2 ∨ K = 3 ∨ K = 4 ∨ K = 5 ∨ K = 6 ∨ K = 7 ∨ K = 8 := by omega
  unfold rgF
  rcases hc with rfl | rfl | rfl | rfl | rfl | rfl | rfl | rfl
  · have hk : r.1 955 n = 1 := hk
    rw [if_pos (by decide), if_pos (Or.inl hk)]
    exact l2_sm rfl
  · have hk : r.1 955 n = 2 := hk
    rw [if_pos (by decide), if_pos (Or.inr (Or.inl hk))]
    exact l2_sm rfl
  · have hk : r.1 955 n = 3 := hk
    rw [if_pos (by decide), if_pos (Or.inr (Or.inr (Or.inl hk)))]
    exact l2_sm rfl
  · have hk : r.1 955 n = 4 := hk
    rw [if_pos (by decide), if_pos (Or.inr (Or.inr (Or.inr hk)))]
    exact l2_sm rfl
  · have hk : r.1 955 n = 5 := hk
    rw [if_neg (by decide), if_pos (by decide), if_neg (show ¬ (r.1 955 n = 1 ∨ r.1 955 n = 2 ∨ r.1 955 n = 3 ∨ r.1 955 n = 4) by rw [hk]; decide), if_pos hk]
    exact rg_rec h hW hn hk
  · have hk : r.1 955 n = 6 := hk
    rw [if_neg (by decide), if_neg (by decide), if_pos (by decide), if_neg (show ¬ (r.1 955 n = 1 ∨ r.1 955 n = 2 ∨ r.1 955 n = 3 ∨ r.1 955 n = 4) by rw [hk]; decide), if_neg (show ¬ r.1 955 n = 5 by rw [hk]; decide), if_pos hk]
    exact rg_cho h hW hn hk
  · have hk : r.1 955 n = 7 := hk
    rw [if_neg (by decide), if_neg (by decide), if_neg (by decide), if_pos (by decide), if_neg (show ¬ (r.1 955 n = 1 ∨ r.1 955 n = 2 ∨ r.1 955 n = 3 ∨ r.1 955 n = 4) by rw [hk]; decide), if_neg (show ¬ r.1 955 n = 5 by rw [hk]; decide), if_neg (show ¬ r.1 955 n = 6 by rw [hk]; decide), if_pos hk]
    obtain ⟨lo, l1, l2⟩ := P.2.2.2 (Or.inr hk)
    obtain ⟨c, c1, c2⟩ := P.2.2.1 hk
    unfold rlLo
    rw [l2, pk_lT (by omega), c1, nI_clamp (n := c) (by omega)]
    have e0 : lg_cmp (lN lo) (0 : Int64) = 0 ↔ lo = 0 := by
      rw [l2_cmp0]
      exact pk_lEQ (b := 0) (by omega) (by decide)
    show t_hk _ (fun v => v = nI (1 - (if lo = 0 then 0 else y c)))
    unfold k_X13_fullOf_175
    by_cases z : lo = 0
    · rw [if_pos (e0.mpr z), if_pos z]
      exact l2_sm rfl
    · rw [if_neg (fun q => z (e0.mp q)), if_neg z]
      refine l2_ck (l2_ix (by omega) (by decide)) ?_
      rcases h.bit c2 with ⟨y1, y2⟩ | ⟨y1, y2⟩
      · rw [if_pos y2, y1]
        exact l2_sm rfl
      · rw [if_neg (by rw [y2]; decide), y1]
        exact l2_sm rfl
  · have hk : r.1 955 n = 8 := hk
    rw [if_neg (by decide), if_neg (by decide), if_neg (by decide), if_neg (by decide), if_neg (show ¬ (r.1 955 n = 1 ∨ r.1 955 n = 2 ∨ r.1 955 n = 3 ∨ r.1 955 n = 4) by rw [hk]; decide), if_neg (show ¬ r.1 955 n = 5 by rw [hk]; decide), if_neg (show ¬ r.1 955 n = 6 by rw [hk]; decide), if_neg (show ¬ r.1 955 n = 7 by rw [hk]; decide), if_pos hk]
    obtain ⟨v, u, v1, v2, v3, v4⟩ := nm hk
    have nme : rlNm r n = u := by
      unfold rlNm
      rw [v1]
      show (r.1 965 (nI v).toNatClampNeg).toNatClampNeg = u
      rw [nI_clamp (n := v) (by omega), v3, nI_clamp (n := u) (by omega)]
    rw [nme]
    have fd : f_X13_find 964 0 (w.1 950 40) ((r.2.1 957 n).toInt32) w = some (nI v) := by
      rw [(h.1 950 40 (by unfold rl_V; omega)).1, ← v1]
      exact fd_st (fun j => (h.1 964 j (by unfold rl_V; omega)).1)
    rw [fd, l2_bs]
    refine l2_ck (l2_ix (by omega) (by decide)) ?_
    rw [nI_clamp (n := v) (by omega), (st 965 v (by decide) (by decide) (by decide)).1, v3]
    refine l2_ck (l2_ix (by omega) (by decide)) ?_
    rw [nI_clamp (n := u) (by omega), h.2.1 u v4]
    have y1 := h.2.2 u
    refine l2_ck ?_ (l2_sm rfl)
    have : y u = 0 ∨ y u = 1 := by omega
    rcases this with e | e
    · rw [e]; exact Or.inr rfl
    · rw [e]; exact Or.inl rfl
theorem rgF.top (h : ∀ u, y u ≤ 1) (n : Nat) : rgF r y n ≤ 1 := by
  unfold rgF
  split
  · decide
  · split
    · exact rgRc.top h _ _ _ (by decide)
    · split
      · exact rgCh.top h _ _ _ (by decide)
      · split
        · split
          · decide
          · exact h _
        · split
          · exact h _
          · decide
theorem rgS.set (h : rgS r m y w) {n : Nat} : rgS r m (fun i => if i = n then 0 else y i) (t_setI w 1012 n 1) := by
  have f : l2_fr (fun b j => b = 1012 ∧ j = n) w (t_setI w 1012 n 1) := l2_fr.set ⟨rfl, rfl⟩
  refine ⟨h.1.trans (f.mono (fun b j y => Or.inr (Or.inl y.1))), fun i hi => ?_, fun i => ?_⟩
  · show _ = nI (1 - (if i = n then 0 else y i))
    by_cases c : i = n
    · subst c
      rw [if_pos rfl]
      simp only [l2_gI, and_self, reduceIte]
      rfl
    · rw [(f 1012 i (by omega)).1, h.2.1 i hi, if_neg c]
  · show (if i = n then 0 else y i) ≤ 1
    split
    · decide
    · exact h.2.2 i
/-- one round -/
theorem rg_round (hW : rlW nt r m) (h : rgS r m y w) : t_hk (t_loop b_X13_findLight_60 t_N ((0 : Int32), (w.1 950 29) - (1 : Int32), w)) (fun x => ∃ w1 l, x = .inl (l, w1) ∧ rgS r m (gsR (rgF r) m y) w1 ∧ (l = 0 ∨ l = 1) ∧ (l = 0 ↔ gsR (rgF r) m y = y) ∧ l2_fr (fun b _ => b = 1012) w w1) := by
  have m13 := hW.2.1
  have e8 : (w.1 950 29) - (1 : Int32) = (if m = 0 then -1 else nI (m - 1)) := by
    rw [(h.1 950 29 (by unfold rl_V; omega)).1, hW.1]
    by_cases c : m = 0
    · rw [if_pos c, c]; rfl
    · rw [if_neg c]
      obtain ⟨b, rfl⟩ : ∃ b, m = b + 1 := ⟨m - 1, by omega⟩
      rw [show b + 1 - 1 = b by omega]
      exact nI_pred b
  rw [e8]
  refine l2_lp (I := fun k x => ∃ y1 w1 l, x = (l, (if k = 0 then -1 else nI (k - 1)), w1) ∧ k ≤ m ∧ rgS r m y1 w1 ∧ gsR (rgF r) k y1 = gsR (rgF r) m y ∧ (l = 0 ∨ l = 1) ∧ (l = 0 ↔ y1 = y) ∧ (∀ u, y1 u ≤ y u) ∧ l2_fr (fun b _ => b = 1012) w w1) ?_ (m := m) (by unfold t_N; omega) ⟨y, w, 0, rfl, Nat.le_refl _, h, rfl, Or.inl rfl, ⟨fun _ => rfl, fun _ => rfl⟩, fun u => Nat.le_refl _, l2_fr.rf⟩
  rintro k x ⟨y1, w1, l, rfl, hk, h1, e, hl, hl2, le, fr⟩
  show t_hk (k_X13_findLight_60 l (if k = 0 then -1 else nI (k - 1)) w1) _
  unfold k_X13_findLight_60
  by_cases c : k = 0
  · subst c
    rw [if_pos rfl, if_pos (by decide)]
    have e : y1 = gsR (rgF r) m y := e
    subst e
    exact l2_mp (l2_sm ⟨w1, l, rfl, h1, hl, hl2, fr⟩)
  obtain ⟨k, rfl⟩ : ∃ j, k = j + 1 := ⟨k - 1, by omega⟩
  rw [if_neg c, show k + 1 - 1 = k by omega, if_neg (nI_pos (n := k) (by omega))]
  obtain ⟨⟨K, hK, e55⟩, _⟩ := hW.2.2 k (by omega)
  have is : f_X13_isTypeNode (nI k) w1 = some (if 1 ≤ K ∧ K ≤ 8 then 1 else 0) := by
    unfold f_X13_isTypeNode
    rw [if_pos (l2_ix (by omega) (by decide)), nI_clamp (n := k) (by omega), (h1.st 955 k (by decide) (by decide) (by decide)).1, e55, rl_in (by omega)]
    by_cases c : 1 ≤ K ∧ K ≤ 8
    · rw [if_pos c, if_pos (Or.inr rfl)]
    · rw [if_neg c, if_pos (Or.inl rfl)]
  rw [is, l2_bs]
  have y1k := h1.2.2 k
  have ft := rgF.top (r := r) h1.2.2 k
  have en : nI k + (-1 : Int32) = (if k = 0 then -1 else nI (k - 1)) := by
    by_cases c : k = 0
    · rw [if_pos c, c]; rfl
    · rw [if_neg c]
      obtain ⟨b, rfl⟩ : ∃ b, k = b + 1 := ⟨k - 1, by omega⟩
      rw [show b + 1 - 1 = b by omega, ← Int32.sub_eq_add_neg]
      exact nI_pred b
  have e' : gsR (rgF r) k (gsS (rgF r) y1 k) = gsR (rgF r) m y := e
  have stay : y1 k ≤ rgF r y1 k → t_hk (k_X13_findLight_98 l (nI k) w1) (l2_nx (fun z => ∃ i, i < k + 1 ∧ ∃ y1 w1 l, z = (l, (if i = 0 then -1 else nI (i - 1)), w1) ∧ i ≤ m ∧ rgS r m y1 w1 ∧ gsR (rgF r) i y1 = gsR (rgF r) m y ∧ (l = 0 ∨ l = 1) ∧ (l = 0 ↔ y1 = y) ∧ (∀ u, y1 u ≤ y u) ∧ l2_fr (fun b _ => b = 1012) w w1) (fun x => ∃ w1 l, x = .inl (l, w1) ∧ rgS r m (gsR (rgF r) m y) w1 ∧ (l = 0 ∨ l = 1) ∧ (l = 0 ↔ gsR (rgF r) m y = y) ∧ l2_fr (fun b _ => b = 1012) w w1)) := fun d => by
    unfold k_X13_findLight_98
    rw [en]
    have same : gsS (rgF r) y1 k = y1 := by
      funext u
      unfold gsS
      by_cases q : u = k
      · rw [if_pos q, q]; omega
      · rw [if_neg q]
    rw [same] at e'
    exact l2_sm ⟨k, by omega, y1, w1, l, rfl, by omega, h1, e', hl, hl2, le, fr⟩
  by_cases t : 1 ≤ K ∧ K ≤ 8
  · rw [if_pos t, if_neg (by decide)]
    refine l2_ck (l2_ix (by omega) (by decide)) ?_
    rw [nI_clamp (n := k) (by omega)]
    rcases h1.bit (show k < m by omega) with ⟨z1, z2⟩ | ⟨z1, z2⟩
    · rw [if_pos z2]
      obtain ⟨v, hv, rfl⟩ := rg_one h1 hW (n := k) (by omega) e55 t
      refine l2_eq hv ?_
      have : rgF r y1 k = 0 ∨ rgF r y1 k = 1 := by omega
      rcases this with d | d
      · rw [d, if_neg (by decide)]
        have same : gsS (rgF r) y1 k = fun i => if i = k then 0 else y1 i := by
          funext u
          unfold gsS
          by_cases q : u = k
          · rw [if_pos q, if_pos q]; omega
          · rw [if_neg q, if_neg q]
        rw [same] at e'
        unfold k_X13_findLight_98
        rw [en]
        refine l2_lt (l2_sm ⟨k, by omega, _, _, 1, rfl, by omega, h1.set, e', Or.inr rfl, ⟨fun q => absurd q (by decide), fun q => ?_⟩, fun u => ?_, fr.trans (l2_fr.set rfl)⟩)
        · have := congrFun q k
          simp only [if_true] at this
          have := le k
          omega
        · show (if u = k then 0 else y1 u) ≤ y u
          split
          · exact Nat.zero_le _
          · exact le u
      · rw [d, if_pos (by decide)]
        exact stay (by omega)
    · rw [if_neg (by rw [z2]; decide)]
      exact stay (by omega)
  · rw [if_neg t, if_pos rfl]
    have ef : rgF r y1 k = 1 := by
      have ne : ∀ L : Nat, 1 ≤ L → L ≤ 8 → r.1 955 k ≠ nI L := fun L l1 l2 q => t (by
        have := (nI_eq (by omega) (by omega)).mp (e55.symm.trans q)
        omega)
      unfold rgF
      rw [if_neg (by rintro (q | q | q | q); exact ne 1 (by decide) (by decide) q; exact ne 2 (by decide) (by decide) q; exact ne 3 (by decide) (by decide) q; exact ne 4 (by decide) (by decide) q), if_neg (show ¬ r.1 955 k = 5 from ne 5 (by decide) (by decide)), if_neg (show ¬ r.1 955 k = 6 from ne 6 (by decide) (by decide)), if_neg (show ¬ r.1 955 k = 7 from ne 7 (by decide) (by decide)), if_neg (show ¬ r.1 955 k = 8 from ne 8 (by decide) (by decide))]
    exact stay (by omega)
end
