/-! Level 2: exps worked out: all of them, but for records and met, which stand behind. -/
/-- a RECORD's node -/
def xr_rec (WN AN TN : Nat → Nat → Prop) (SN : Nat → Nat → Prop) (c r : t_S) (p1 s1 f : Nat) (lv : Int32) (rr e0 e1 t0 t1 m0 m1 n : Nat) : Prop := (n = m0 ∧ r.1 955 n = 59 ∧ ∃ (v : Nat) (E T M X N : Nat → Nat), v ≤ 16 ∧ e0 + v < e1 ∧ px_B v e0 (e1 - 1 - v) E ∧ px_B v t0 t1 T ∧ px_B v (m0 + 1) m1 M ∧ px_o c (e1 - 1 - v) 32 (nI v) ∧ ch_R r n v M ∧ (∀ i j, i < j → j < v → X i ≠ X j) ∧ ∀ j, j < v → X j < 7934 ∧ px_o c (e1 - v + j) 33 (nI (66 + X j)) ∧ M j < M (j + 1) ∧ r.1 955 (M j) = 71 ∧ r.2.1 957 (M j) = lN (X j) ∧ r.1 959 (M j) = nI (N j) ∧ XR WN AN TN SN c r p1 s1 f 0 lv (rr + 15) (E j) (E (j + 1)) (T j) (T (j + 1)) (M j + 1) (M (j + 1)) (N j))
/-- met's node -/
def xr_met (WN AN TN : Nat → Nat → Prop) (SN : Nat → Nat → Prop) (c r : t_S) (p1 s1 f : Nat) (lv : Int32) (rr e0 e1 t0 t1 m0 m1 n : Nat) : Prop := (n = m0 ∧ e0 < e1 ∧ r.1 955 n = 61 ∧ ∃ (ea ta ma a b : Nat), ea < e1 ∧ m0 < ma ∧ ma < m1 ∧ r.1 959 n = nI a ∧ r.1 960 a = nI b ∧ px_o c (e1 - 1) 36 (nI ta) ∧ XR WN AN TN SN c r p1 s1 f 0 lv (rr + 15) e0 ea t0 ta (m0 + 1) ma a ∧ XR WN AN TN SN c r p1 s1 f 1 (-1000) (rr + 15) ea (e1 - 1) ta t1 ma m1 b)
/-- ranges of templs and nodes apart from protected ones -/
def DJ (Z Y : Nat → Prop) (t0 t1 m0 m1 : Nat) : Prop := (∀ t, t0 ≤ t → t < t1 → ¬ Z t) ∧ ∀ n, m0 ≤ n → n < m1 → ¬ Y n
theorem DJ.sub {Z Y : Nat → Prop} {t0 t1 m0 m1 t0' t1' m0' m1' : Nat} (h : DJ Z Y t0 t1 m0 m1) (h1 : t0 ≤ t0') (h2 : t1' ≤ t1) (h3 : m0 ≤ m0') (h4 : m1' ≤ m1) : DJ Z Y t0' t1' m0' m1' := ⟨fun t a b => h.1 t (by omega) (by omega), fun n a b => h.2 n (by omega) (by omega)⟩
/-- all exps of depth f -/
def EvI (WN AN TN : Nat → Nat → Prop) (SN : Nat → Nat → Prop) (κ : KPP) (c0 r0 : t_S) (Kc : t_S → t_S → Prop) (Kr : Nat → Nat → t_S → t_S → Prop) (Z Y : Nat → Prop) (p1 s1 cnt f : Nat) : Prop := ∀ (lv : Int32) (rr e0 e1 t0 t1 m0 m1 n g : Nat), XR WN AN TN SN c0 r0 p1 s1 f 0 lv rr e0 e1 t0 t1 m0 m1 n → DJ Z Y t0 t1 m0 m1 → 3 * mu rr + 10 + κ.g ≤ g → e1 ≤ cnt → m1 ≤ 13000 → EVp κ c0 r0 Kc Kr g rr e0 e1 m0 m1 n
theorem bf_72 {r1 : t_S} {n g : Nat} (hn : n < 13000) (hk : r1.1 955 n = 72) : (R_X13_behindFirst (g + 1)).1 (nI n) r1 = some r1 := by
  show m_X13_behindFirst (R_X13_behindFirst g) (nI n) r1 = _
  unfold m_X13_behindFirst
  rw [if_pos (l2_ix hn (by decide)), nI_clamp (n := n) (by omega), hk, if_neg (by decide), if_neg (by decide), if_pos rfl]
theorem ev_step {WN AN TN : Nat → Nat → Prop} {SN : Nat → Nat → Prop} {κ : KPP} {c0 r0 : t_S} {Kc : t_S → t_S → Prop} {Kr : Nat → Nat → t_S → t_S → Prop} {Z Y : Nat → Prop} {p1 s1 cnt nc f : Nat} (hK : EK Kc Kr) (h2 : c0.1 334 2 = nI nc) (hcN : cnt ≤ nc) (hc : nc ≤ 16000) (hp1 : p1 ≤ 26000) (hs1 : s1 ≤ 24300) (hW : ∀ e n, WN e n → WV c0 r0 e n) (hA : ∀ e n, r0.1 955 n = 63 → ¬ Y n → c0.1 335 e = 8 → AN e n → AV c0 r0 e n) (hN : ∀ n K : Nat, r0.1 955 n = nI K → (55 ≤ K ∧ K ≤ 57 ∨ K = 62) → ¬ Y n → EN c0 r0) (ih : EvI WN AN TN SN κ c0 r0 Kc Kr Z Y p1 s1 cnt f) (HR : ∀ (lv : Int32) (rr e0 e1 t0 t1 m0 m1 n g : Nat), rr ≤ 360 → 3 * mu rr + 10 + κ.g ≤ g → e1 ≤ cnt → m1 ≤ 13000 → m0 ≤ n → n < m1 → xr_rec WN AN TN SN c0 r0 p1 s1 f lv rr e0 e1 t0 t1 m0 m1 n → DJ Z Y t0 t1 m0 m1 → EVp κ c0 r0 Kc Kr g rr e0 e1 m0 m1 n) (HM : ∀ (lv : Int32) (rr e0 e1 t0 t1 m0 m1 n g : Nat), rr ≤ 360 → 3 * mu rr + 10 + κ.g ≤ g → e1 ≤ cnt → m1 ≤ 13000 → m0 ≤ n → n < m1 → xr_met WN AN TN SN c0 r0 p1 s1 f lv rr e0 e1 t0 t1 m0 m1 n → DJ Z Y t0 t1 m0 m1 → EVp κ c0 r0 Kc Kr g rr e0 e1 m0 m1 n) : EvI WN AN TN SN κ c0 r0 Kc Kr Z Y p1 s1 cnt (f + 1) := by
  intro lv rr e0 e1 t0 t1 m0 m1 n g h dj hg he hm
  obtain ⟨h1, _, h3, h4, h⟩ := h
  obtain ⟨g, rfl⟩ : ∃ y, g = y + 3 := ⟨g - 3, by omega⟩
  rcases h with ⟨⟨_, hr⟩, h⟩ | ⟨⟨hfl, _⟩, _⟩ | ⟨⟨hfl, _⟩, _⟩
  rotate_left
  · exact absurd hfl (by decide)
  · exact absurd hfl (by decide)
  have mu15 := mu_15 hr
  have mu1 := mu_1 hr
  have hn : n < 13000 := by omega
  rcases h with ⟨a1, a2, a3, a4, a5⟩ | ⟨a1, a2, n', a3, a4⟩ | ⟨a1, a2, K, o, a, n', a3, a4, a5, a6, a7⟩ | ⟨a1, a2, a3, X, n', a4, a5, a6, a7, a8⟩ | ⟨a1, ea, ta, a, b, a2, a3, a4, a5, h⟩ | ⟨a1, a2, a3, v, E, T, M, G, b1, b2, b3, b4, b5, b6, b7⟩ | h | h
  · -- leaves
    have i0 : e0 < nc := by omega
    rcases a5 with ⟨k, p, v, q1, q2, q3, q4, q5⟩ | ⟨k, p, q1, q2, q3⟩ | ⟨k, p, q1, q2⟩ | ⟨k, p, q1, q2, q3⟩ | ⟨K, k1, k2, k, q1⟩ | ⟨k, q1⟩ | ⟨k, q1, q2⟩
    · exact ev_num hK hr h2 hc i0 (by omega) q2 q3 a2 hn a1.symm (by omega) k q4 q5
    · exact ev_tru hK hr h2 hc i0 (by omega) q2 a2 hn a1.symm (by omega) k q3
    · exact ev_txt hK hr h2 hc i0 hp1 hs1 q1 a2 hn a1.symm (by omega) k q2
    · exact ev_omt hK hr h2 hc i0 (by omega) q2 a2 hn a1.symm (by omega) k q3
    · exact ev_see hK hr h2 hc i0 a2 hn a1.symm (by omega) k1 k2 k q1 (hN n K k (by omega) (dj.2 n h3 h4))
    · exact ev_wrd hK hr h2 hc i0 a2 hn a1.symm (by omega) k (hW _ _ q1)
    · exact ev_act hK hr h2 hc i0 a2 hn a1.symm (by omega) k (hA _ _ k (dj.2 n h3 h4) q1 q2)
  · -- ( )
    have s := ih _ rr _ _ _ _ _ _ _ (g + 3) (XR.dn _ _ _ _ rr _ _ _ _ _ _ _ (by omega) a4) (dj.sub (Nat.le_refl _) (Nat.le_refl _) (by omega) (Nat.le_refl _)) hg he hm
    exact ev_spine2 (K := 72) hK hn a2 (Or.inr rfl) a3 (by omega) s h1 (Nat.le_refl _) (fun c1 r1 D a H S z1 z2 hG hA _ _ _ => ⟨c1, r1, e1, 0, ⟨Nat.zero_le _, Nat.le_refl _, Nat.le_refl _, l2_tn.nil⟩, bf_72 (g := g + 2) hn (((ez_r (b := 955) (j := n) z2 (by omega)).1).trans a2), Ef.of hK (l2_fr.rf (W := fun _ _ => False)) (l2_fr.rf (W := fun _ _ => False)) (fun b j y => y.elim) (fun b j y => y.elim), Or.inl ⟨rfl, hG⟩⟩)
  · -- - ! size, a TAG, ended
    obtain ⟨s1', _, s3, s4⟩ := a7.at
    have c1 : e1 - 1 < nc := by omega
    have K100 : K < 100 := by omega
    by_cases e62 : K = 62
    · subst e62
      obtain ⟨rfl, rfl⟩ : o = 9 ∧ a = 0 := by omega
      rw [if_pos rfl] at a7
      exact ev_ended hK hr h2 hc c1 a2 a5 hn a4 a6 (by omega) (ih _ _ _ _ _ _ _ _ _ g a7 (dj.sub (Nat.le_refl _) (Nat.le_refl _) (by omega) (Nat.le_refl _)) (by omega) (by omega) hm) (hN n 62 a4 (by omega) (dj.2 n h3 h4))
    · rw [if_neg e62] at a7
      have s := ih _ rr _ _ _ _ _ _ _ (g + 3) a7 (dj.sub (Nat.le_refl _) (Nat.le_refl _) (by omega) (Nat.le_refl _)) hg (by omega) hm
      have sp : ∀ St : StU c0 r0 Kc Kr (fun r1 => (R_X13_behindFirst (g + 2 + 1)).1 (nI n) r1) rr e1, EVp κ c0 r0 Kc Kr (g + 3) rr e0 e1 m0 m1 n := fun St => ev_spine (K := K) hK hr hn a4 (by omega) a6 (by omega) s (by omega) (Or.inr ⟨rfl, by omega, St⟩)
      by_cases e67 : K = 67
      · subst e67
        obtain ⟨rfl, w1, w2, w3⟩ : o = 13 ∧ 66 ≤ a ∧ a < 8000 ∧ r0.2.1 957 n = lN (a - 66) := by
          rcases a3 with q | q | q
          · omega
          · omega
          · exact ⟨q.2.1, q.2.2.1, q.2.2.2.1, q.2.2.2.2⟩
        refine sp (su_go (K := 67) hK h2 hc (by omega) c1 a5 (by decide) (by decide) hn a4 (by decide) (fun c1 r1 D a' H nn m z1 z2 T => ?_))
        have u := uo_tag (X := a - 66) hn (by omega) (((ez_r (b := 957) (j := n) z2 (by omega)).2.1).trans w3) T
        rw [show 66 + (a - 66) = a by omega] at u
        exact u
      · have o3 : o = K - 54 := by omega
        by_cases e64 : K = 64
        · subst e64 o3
          exact sp (su_go (K := 64) hK h2 hc (by omega) c1 a5 (by decide) (by decide) hn a4 (by decide) (fun c1 r1 D a' H nn m z1 z2 T => uo_minus hn T))
        · by_cases e65 : K = 65
          · subst e65 o3
            exact sp (su_go (K := 65) hK h2 hc (by omega) c1 a5 (by decide) (by decide) hn a4 (by decide) (fun c1 r1 D a' H nn m z1 z2 T => uo_not hn T))
          · obtain rfl : K = 66 := by omega
            subst o3
            exact sp (su_go (K := 66) hK h2 hc (by omega) c1 a5 (by decide) (by decide) hn a4 (by decide) (fun c1 r1 D a' H nn m z1 z2 T => uo_size hn T))
  · -- a field
    obtain ⟨s1', _, s3, s4⟩ := a8.at
    have s := ih _ rr _ _ _ _ _ _ _ (g + 3) a8 (dj.sub (Nat.le_refl _) (Nat.le_refl _) (by omega) (by omega)) hg (by omega) (by omega)
    exact ev_spine (K := 68) hK hr hn a3 (by omega) a7 (by omega) s (by omega) (Or.inr ⟨rfl, by omega, su_go (g := g + 2) (K := 68) hK h2 hc (by omega) (by omega) a6 (by decide) (by decide) hn a3 (by decide) (fun c1 r1 D a' H nn m z1 z2 T => uo_dot hn a4 (((ez_r (b := 957) (j := n) z2 (by omega)).2.1).trans a5) T)⟩)
  · -- two parts
    obtain ⟨s1', s2', s3, s4⟩ := a5.at
    have TT : ta ≤ t1 := by
      rcases h with ⟨_, _, x⟩ | ⟨_, _, _, _, _, _, y⟩ | ⟨_, _, _, _, _, _, _, y⟩
      · exact x.at.2.1
      · exact y.at.2.1
      · exact y.at.2.1
    have s := ih _ rr _ _ _ _ _ _ _ (g + 3) a5 (dj.sub (Nat.le_refl _) TT (Nat.le_refl _) (by omega)) hg (by omega) (by omega)
    rcases h with ⟨k, po, x⟩ | ⟨k, x, o, px, q7, po, y⟩ | ⟨k, x, o, px, q7, po, po2, y⟩
    · exact ev_at (g := g + 1) hK hr h2 hc (by omega) s1' a2 po hn (by omega) k a3 a4 ⟨h3, h4⟩ s (ih _ _ _ _ _ _ _ _ _ (g + 1) x (dj.sub s2' (Nat.le_refl _) (by omega) (Nat.le_refl _)) (by omega) (by omega) hm)
    · exact ev_two px hK hr h2 hc (by omega) s1' a2 po hn (by omega) k q7 a3 a4 ⟨h3, h4⟩ s (ih _ _ _ _ _ _ _ _ _ g y (dj.sub s2' (Nat.le_refl _) (by omega) (Nat.le_refl _)) (by omega) (by omega) hm)
    · exact ev_log px hK hr h2 hc (by omega) s1' y.at.1 po po2 hn (by omega) k q7 a3 a4 ⟨h3, h4⟩ s (ih _ _ _ _ _ _ _ _ _ g y (dj.sub s2' (Nat.le_refl _) (by omega) (Nat.le_refl _)) (by omega) (by omega) hm)
  · -- [ .. ]
    exact ev_list hK hr h2 hc (by omega) b1 hn a3 a2 b2 (a1 ▸ b4) (by omega) b5 b6 (fun j hj => ih _ _ _ _ _ _ _ _ _ g (b7 j hj) (dj.sub (b3.2.2 j hj).2.2 (b3.2.2 j hj).2.1 (by have := (b4.2.2 j hj).2.2; omega) (b4.2.2 j hj).2.1) (by omega) (by have := (b2.2.2 j hj).2.1; omega) (by have := (b4.2.2 j hj).2.1; omega))
  · exact HR lv rr e0 e1 t0 t1 m0 m1 n (g + 3) hr hg he hm h3 h4 h dj
  · exact HM lv rr e0 e1 t0 t1 m0 m1 n (g + 3) hr hg he hm h3 h4 h dj
