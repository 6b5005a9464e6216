/-! Level 2: what holds of new objects. -/
theorem fr_words {h : mj_H} (hp : mh_new h 0 1) : ∃ V sl H T, wt_I (t_rof h) 66 V sl H T ∧ rw_I 66 H T ∧ ∀ i, (t_rof h).1 6 i = 0 ∧ (t_rof h).1 7 i = 0 := by
  obtain ⟨wd, fr, hd, tl, so, mn, ie, f, sN, eR, hwd, hsN, p0, p1, p2, p3, p4, p5, p6, p7, p8, p9, p10, p11, rest⟩ := hp
  clear rest
  obtain ⟨hd', tl', so', mn', ie', f', sN', sl, e, w, k1, k2, _⟩ := ls_380
  rw [e] at eR
  simp only [Prod.mk.injEq] at eR
  obtain ⟨rfl, rfl, rfl, rfl, rfl, rfl, rfl, rfl, rfl⟩ := eR
  have e13 : (t_rof h).1 1 13 = nI 66 := t_roI (a := 1) (k := 13) p1 rfl
  have e6 : (t_rof h).1 6 = mn := t_roA (a := 6) p6
  have e7 : (t_rof h).1 7 = ie := t_roA (a := 7) p7
  have e8 : (t_rof h).2.1 8 = hd := t_roAJ (a := 8) p8
  have e9 : (t_rof h).1 9 = tl := t_roA (a := 9) p9
  have e10 : (t_rof h).1 10 = so := t_roA (a := 10) p10
  have e11 : (t_rof h).1 11 = fun j => nI (sN j) := t_roA (a := 11) p11
  obtain ⟨g1, g2, g3, g4, g5, g6, g7⟩ := w
  refine ⟨sN, sl, hd, tl, ⟨g1, e13, fun j hj => ?_, fun i hi => ?_, g5, g6, g7⟩, ⟨Nat.le_refl _, k1⟩, fun i => ?_⟩
  · rw [e11]
    exact ⟨rfl, (g3 j hj).2⟩
  · rw [e10, e8, e9]
    obtain ⟨a, b, c, d, m⟩ := g4 i hi
    exact ⟨a, b, c, rfl, rfl⟩
  · rw [e6, e7]
    exact k2 i
theorem fr_small {h : mj_H} (hf : lw_fresh h) : sy_R (t_rof h) ∧ tx_R (t_rof h) ∧ cd_R (t_rof h) ∧ hd_R (t_rof h) ∧ wy_R (t_rof h) ∧ cn_R (t_rof h) := by
  obtain ⟨hp, h0, hn⟩ := hf
  obtain ⟨x1, x2, x3, x4, x5, x6, x7, x8, x9, x10, x11, x12, x13, x14⟩ := N_fx_of hp
  obtain ⟨y1, y2⟩ := N_fy_of h0 hn
  have z : ∀ j, j ≠ 3 → (t_rof h).1 950 j = 0 := fun j hj => by rw [y1 j, if_neg hj]
  refine ⟨⟨⟨fun _ => 0, fun i _ => ⟨by show (0 : Nat) < 256; decide, x13 i⟩, fun i _ => ⟨by show (0 : Nat) < 256; decide, y2 108 (by decide) i⟩⟩, 0, fun _ => 0, by decide, x11, z 183 (by decide), fun i hi => absurd hi (Nat.not_lt_zero i)⟩, ⟨0, fun _ => 0, by decide, x5, z 1 (by decide), fun i hi => absurd hi (Nat.not_lt_zero i)⟩, ⟨0, fun _ => 0, by decide, x8, z 121 (by decide), fun i hi => absurd hi (Nat.not_lt_zero i)⟩, ⟨0, by decide, x7, z 106 (by decide), fun i hi => absurd hi (Nat.not_lt_zero i)⟩, ⟨0, by decide, x9, z 146 (by decide), fun i hi => absurd hi (Nat.not_lt_zero i)⟩, ?_, ?_, ?_, ?_, ?_, ?_, ?_⟩
  · rw [x2, z 2 (by decide)]
  · rw [x3, if_pos (z 2 (by decide))]
  · rw [x5, z 1 (by decide)]
  · exact ⟨fun _ => z 65 (by decide), fun _ => x4⟩
  · exact fun q => absurd x4 q
  · rw [x6, z 96 (by decide)]
  · rw [x8, z 121 (by decide)]
/-- new objects are typed states -/
theorem fr_state {h : mj_H} (hf : lw_fresh h) : ∀ k, k < 1065 → h k = t_m (t_rof h) k := fun k hk => by
  obtain ⟨hp, h0, hn⟩ := hf
  by_cases c : k < 950
  · exact t_cls hp k c
  · exact t_oth h0 hn k (by omega) hk
theorem fr_start {R : t_S → Prop} {h : mj_H} (hf : lw_fresh h) (hR : R (t_rof h)) : l2_RR R h := ⟨_, fr_state hf, hR⟩
