/-! Level 2: a component's own: their names. -/
theorem in_nat {K a b : Nat} (hK : K < 2 ^ 31) (ha : a < 2 ^ 31) (hb : b < 2 ^ 31) (s : t_S) : f_X13_in (nI K).toInt64 (lN a) (lN b) s = if a ≤ K ∧ K ≤ b then 1 else 0 := by
  unfold f_X13_in
  rw [nI_l (by omega)]
  have tv : (lN K).toInt = K := pk_lT (by omega)
  have ta : (lN a).toInt = a := pk_lT (by omega)
  have tb : (lN b).toInt = b := pk_lT (by omega)
  have lo : lg_cmp (lN K) (lN a) < 0 ↔ K < a := by rw [t_cmp_lt, tv, ta]; omega
  have hi : 0 < lg_cmp (lN K) (lN b) ↔ b < K := by rw [t_cmp_gt, tv, tb]; omega
  by_cases c1 : K < a
  · rw [if_pos (lo.mpr c1), if_neg (by omega)]
  · rw [if_neg (fun y => c1 (lo.mp y))]
    by_cases c2 : b < K
    · rw [if_pos (hi.mpr c2), if_neg (by omega)]
    · rw [if_neg (fun y => c2 (hi.mp y)), if_pos (by omega)]
theorem in_neg {v : Int32} (h : v < 0) {a b : Nat} (ha : a < 2 ^ 31) (s : t_S) : f_X13_in v.toInt64 (lN a) (lN b) s = 0 := by
  unfold f_X13_in
  have ta : (lN a).toInt = a := pk_lT (by omega)
  have q : lg_cmp v.toInt64 (lN a) < 0 := by
    rw [t_cmp_lt, Int32.toInt_toInt64, ta]
    have := Int32.lt_iff_toInt_lt.mp h
    have z : (0 : Int32).toInt = 0 := rfl
    omega
  rw [if_pos q]
section
variable {P : pc_S} {u d z q m f p0 k v0 v1 v2 : Nat} {A B D : Nat → Nat} {c0 r0 c r : t_S}
/-- a reserved word on both sides -/
theorem pj.kw (J : pj P u d z q m c r) : (∃ i, i < 66 ∧ c.1 1 8 = nI (200 + i) ∧ r.1 950 5 = 1 ∧ r.1 950 10 = nI (pv i)) ∨ ((∀ i, i < 66 → c.1 1 8 ≠ nI (200 + i)) ∧ (r.1 950 5 = 1 → r.1 950 10 < 0 ∧ c.1 1 8 = 1)) := by
  obtain ⟨a1, _, _, _, _, _, a7⟩ := J.sort
  by_cases z : ∃ i, i < 66 ∧ c.1 1 8 = nI (200 + i)
  · obtain ⟨i, i1, i2⟩ := z
    refine Or.inl ⟨i, i1, i2, ?_⟩
    rcases J.isW i1 with ⟨_, b⟩ | ⟨b, _⟩
    · unfold f_X13_isWord at b
      by_cases h5 : r.1 950 5 = 1
      · rw [if_pos h5] at b
        by_cases h10 : r.1 950 10 = nI (pv i)
        · exact ⟨h5, h10⟩
        · rw [if_neg h10] at b
          exact absurd b (by decide)
      · rw [if_neg h5] at b
        exact absurd b (by decide)
    · exact absurd i2 b
  · refine Or.inr ⟨fun i hi e => z ⟨i, hi, e⟩, fun h5 => ?_⟩
    by_cases n : r.1 950 10 < 0
    · exact ⟨n, a1.mpr ⟨h5, n⟩⟩
    · obtain ⟨i, i1, i2, _⟩ := a7 h5 n
      exact absurd ⟨i, i1, i2⟩ z
theorem lc_F.ow227 (h : lc_F c f p0) (x z : Int32) (y w : Nat) : k_X6_readOwn_227 x y z w c = some c := by
  unfold k_X6_readOwn_227
  rw [if_neg h.ne]
theorem lc_F.ow153 (h : lc_F c f p0) (x z : Int32) (y w : Nat) : k_X6_readOwn_153 x y z w c = some c := by
  unfold k_X6_readOwn_153
  rw [if_neg (by rw [h.2.2.2.2]; decide), (lc_stay h).2, l2_bs, h.ow227]
theorem pr.ow75 (h : pr P f p0 r) (hk : k < 8) (x y : Int32) : k_X13_own_75 (nI k) x y r = some r := by
  have e : k_X13_own_134 (nI k) x y r = some r := by
    unfold k_X13_own_134
    rw [if_neg h.ne]
  have e2 : k_X13_own_125 (nI k) x y r = some r := by
    unfold k_X13_own_125
    rw [(pr_next h).2, l2_bs, e]
  unfold k_X13_own_75
  have ix : t_ix (nI k) 8 = true := l2_ix hk (by decide)
  rw [e, e2]
  simp only [ix, eq_self, if_true, ite_self]
/-- what a component's own is: its word in the reference, its rows in the class, so many of it, at most -/
def ow_k (W ca wa v mx v0 v1 v2 : Nat) (T : Int32) : Prop := (W = 7 ∧ ca = 429 ∧ wa = 430 ∧ v = v0 ∧ mx = 6 ∧ T = 207) ∨ (W = 8 ∧ ca = 431 ∧ wa = 432 ∧ v = v1 ∧ mx = 4 ∧ T = 208) ∨ (W = 9 ∧ ca = 433 ∧ wa = 434 ∧ v = v2 ∧ mx = 8 ∧ T = 209)
theorem ow_name {W ca wa v mx : Nat} {T : Int32} {Q : t_S → t_S → Prop} (J : pj P u 0 0 q m c r) (hc : cw_R c r k v0 v1 v2 A B D) (hk : k < 8) (h13 : c.1 845 13 = nI k) (hW : ow_k W ca wa v mx v0 v1 v2 T) (hg : ∀ X r3, X < 7934 → ((∀ i, i < v0 → A i ≠ X) ∧ (∀ i, i < v1 → B i ≠ X) ∧ ∀ i, i < v2 → D i ≠ X) → v < mx → l2_fr nm_W r r3 → pj P u 1 0 q m c r3 → c.1 1 8 = 1 → f_X2_word c = nI (66 + X) → t_h2 (k_X6_readOwn_227 T ca (nI mx) wa c) (k_X13_own_134 (nI k) (nI W) (nI X) r3) Q) (hb : ∀ c' r' f p0, l2_fr la_W c c' → l2_fr nk_W r r' → lc_F c' f p0 → pr P f p0 r' → Q c' r') : t_h2 (k_X6_readOwn_153 T ca (nI mx) wa c) ((f_X13_freeName r).bind (fun r3 => if (r3.2.1 950 2) = (0 : Int32) then ((f_X13_isOwn (nI k) r3.1 r3.2).bind (fun r4 => if r4 = (0 : Int32) then (k_X13_own_75 (nI k) (nI W) r3.1 r3.2) else ((f_X13_fail (3 : Int32) (r3.2.1 950 6) r3.2).bind (fun r5 => k_X13_own_75 (nI k) (nI W) r3.1 r5)))) else (k_X13_own_75 (nI k) (nI W) r3.1 r3.2))) Q := by
  unfold k_X6_readOwn_153
  by_cases h8 : c.1 1 8 = 1
  rotate_left
  · rw [if_neg h8]
    refine h2_bb _ (pj_noname J (by decide) h8) (fun c' x hx => ?_)
    obtain ⟨w1, w2, f2, p0, w3, w4⟩ := hx
    rw [if_neg w4.ne, w3.ow227, w4.ow75 hk]
    exact h2_sm (hb c' x.2 f2 p0 w1 (w2.mono (fun b j y => Or.inl y)) w3 w4)
  obtain ⟨x, e1, X, hX, n1, n2, n3, J1⟩ := pj_name J h8
  have wd : f_X2_word c = nI (66 + X) := pj.wd n1
  rw [if_pos h8, wd, e1, l2_bs, if_pos J1.f0.2, n2, h13]
  have hc3 : cw_R c x.2 k v0 v1 v2 A B D := hc.fr (l2_fr.rf (W := fun _ _ => False)) n3 (fun b j _ _ y => y) (fun b j a1 a2 _ => by unfold nm_W; omega)
  obtain ⟨v', e2, e3, e4⟩ := ow_is hc3 hk hX
  obtain ⟨w', g2, g3⟩ := ow_has hc hk hX
  rw [e2, g2, l2_bs, l2_bs]
  have flt : ∀ {f : Nat}, 0 < f ∧ f < 100 → t_h2 ((f_X2_fail (nI f) c).bind (fun r6 => k_X6_readOwn_227 T ca (nI mx) wa r6)) ((f_X13_fail (nI f) (x.2.1 950 6) x.2).bind (fun r5 => k_X13_own_75 (nI k) (nI W) (nI X) r5)) Q := fun hf => by
    refine h2_bb _ (pj_fail J1 (by decide) hf) (fun c' r' hw => ?_)
    obtain ⟨w1, w2, f2, p0, w3, w4⟩ := hw
    rw [w3.ow227, w4.ow75 hk]
    exact h2_sm (hb c' r' f2 p0 w1 ((n3.mono (fun b j y => Or.inr y)).trans (w2.mono (fun b j y => Or.inl y))) w3 w4)
  rcases g3 with ⟨g3, no⟩ | ⟨g3, no⟩
  rotate_left
  · have v1' : v' ≠ 0 := fun y => no (e4.mp y)
    rw [g3, if_neg (by decide), if_neg v1']
    exact flt (f := 3) (by decide)
  rw [g3, if_pos rfl, if_pos (e4.mpr no)]
  have cnt : c.1 ca k = nI v ∧ v ≤ mx ∧ mx ≤ 8 ∧ t_oka ca 1 (t_ln ca) = true ∧ t_ln ca = 8 := by
    obtain ⟨h0, h1, h2, h3, h4, h5, h6⟩ := hc
    rcases hW with ⟨_, rfl, _, rfl, rfl, _⟩ | ⟨_, rfl, _, rfl, rfl, _⟩ | ⟨_, rfl, _, rfl, rfl, _⟩
    · exact ⟨h1.1, by omega, by decide, rfl, rfl⟩
    · exact ⟨h2.1, by omega, by decide, rfl, rfl⟩
    · exact ⟨h3.1, by omega, by decide, rfl, rfl⟩
  obtain ⟨c1, c2, c3, c4, c5⟩ := cnt
  rw [if_pos c4, c5, if_pos (l2_ix hk (by decide)), nI_clamp (n := k) (by omega), c1]
  have ref : k_X13_own_75 (nI k) (nI W) (nI X) x.2 = if v = mx then k_X13_own_125 (nI k) (nI W) (nI X) x.2 else k_X13_own_134 (nI k) (nI W) (nI X) x.2 := by
    obtain ⟨h0, h1, h2, h3, h4, h5, h6⟩ := hc3
    unfold k_X13_own_75
    have ix : t_ix (nI k) 8 = true := l2_ix hk (by decide)
    simp only [ix, eq_self, if_true]
    rw [nI_clamp (n := k) (by omega), h1.2, h2.2, h3.2]
    have eq : ∀ {a b : Nat}, a ≤ 8 → b ≤ 8 → (nI a = nI b ↔ a = b) := fun ha hb => nI_eq (by omega) (by omega)
    rcases hW with ⟨rfl, rfl, _, rfl, rfl, _⟩ | ⟨rfl, rfl, _, rfl, rfl, _⟩ | ⟨rfl, rfl, _, rfl, rfl, _⟩
    · rw [if_pos (show nI 7 = (7 : Int32) from rfl)]
      by_cases z : v = 6
      · rw [if_pos z, z, if_pos (show nI 6 = (6 : Int32) from rfl)]
      · rw [if_neg z, if_neg (show ¬ nI v = (6 : Int32) from fun y => z ((eq (b := 6) (by omega) (by decide)).mp y))]
    · rw [if_neg (show ¬ nI 8 = (7 : Int32) by decide), if_pos (show nI 8 = (8 : Int32) from rfl)]
      by_cases z : v = 4
      · rw [if_pos z, z, if_pos (show nI 4 = (4 : Int32) from rfl)]
      · rw [if_neg z, if_neg (show ¬ nI v = (4 : Int32) from fun y => z ((eq (b := 4) (by omega) (by decide)).mp y))]
    · rw [if_neg (show ¬ nI 9 = (7 : Int32) by decide), if_neg (show ¬ nI 9 = (8 : Int32) by decide)]
      by_cases z : v = 8
      · rw [if_pos z, z, if_pos (show nI 8 = (8 : Int32) from rfl)]
      · rw [if_neg z, if_neg (show ¬ nI v = (8 : Int32) from fun y => z ((eq (b := 8) (by omega) (by decide)).mp y))]
  rw [ref]
  by_cases z : v = mx
  · rw [if_pos z, if_neg (show ¬ nI v < nI mx from fun y => by have := (nI_ltI (by omega) (by omega)).mp y; omega)]
    unfold k_X13_own_125
    refine h2_bb _ (pj_fail (f := 5) J1 (by decide) (by decide)) (fun c' r' hw => ?_)
    obtain ⟨w1, w2, f2, p0, w3, w4⟩ := hw
    have e : k_X13_own_134 (nI k) (nI W) (nI X) r' = some r' := by
      unfold k_X13_own_134
      rw [if_neg w4.ne]
    rw [w3.ow227, e]
    exact h2_sm (hb c' r' f2 p0 w1 ((n3.mono (fun b j y => Or.inr y)).trans (w2.mono (fun b j y => Or.inl y))) w3 w4)
  · rw [if_neg z, if_pos ((nI_ltI (by omega) (by omega)).mpr (by omega))]
    exact hg X x.2 hX no (by omega) n3 J1 h8 wd
end
