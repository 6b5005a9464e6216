/-! Level 2: exps worked out: && and ||. -/
section
variable {κ : KPP} {c0 r0 : t_S} {Kc : t_S → t_S → Prop} {Kr : Nat → Nat → t_S → t_S → Prop} {c r c1 r1 c' r' cs : t_S} {D a H S rr rr2 e0 e1 ea i g n nn m m0 m1 cnt o K st x b sz n0 n1 n2 k1 k2 fa : Nat}
/-- goes on behind the second part: x's sign, the truth told -/
def jC (o : Nat) (t : Int) : Prop := (o = 29 ∧ t = 1) ∨ (o = 28 ∧ t = 0)
theorem jmp_c {t : Int} {k : Nat} (ho : o = 28 ∨ o = 29) (h7 : cs.1 334 7 = nI (D + 1)) (hA : cs.1 339 D = nI a) (hD : D < 3150) (ha : a < 48000) (hc : vl_c t nn k (cs.2.1 338 a)) (h1 : k = 1 → t = 0 ∨ t = 1) (he : ea < 16000) (h36 : cs.1 336 ea = nI e1) (he1 : 0 < e1 ∧ e1 ≤ 16000) : (k ≠ 1 → f_X0_jump (nI o) (nI ea) cs = some (nI ea, t_setI cs 334 12 1)) ∧ (k = 1 → jC o t → f_X0_jump (nI o) (nI ea) cs = some (nI (e1 - 1), cs)) ∧ (k = 1 → ¬ jC o t → f_X0_jump (nI o) (nI ea) cs = some (nI ea, t_setI cs 334 7 (nI D))) := by
  obtain ⟨q1, q2⟩ := tp_c h7 hA hD ha
  have kb := hc.2.2
  have qk : nI k = (1 : Int32) ↔ k = 1 := nI_eq (b := 1) (by omega) (by decide)
  have q29 : nI o = (29 : Int32) ↔ o = 29 := nI_eq (b := 29) (by omega) (by decide)
  have zt : lg_cmp (f_X8_told (cs.2.1 338 a) cs) 0 = 0 ↔ t = 0 := lg_0 (vl_told hc) rfl
  have s1 : cs.1 334 7 - (1 : Int32) = nI D := by rw [h7, sy_m1n (by omega), Nat.add_sub_cancel]
  unfold f_X0_jump k_X0_jump_41 k_X0_jump_54
  rw [q1, l2_bs, vl_kind hc, if_pos (l2_ix he (by decide)), nI_clamp (n := ea) (by omega), h36, sy_m1n he1.1, s1]
  refine ⟨fun k0 => ?_, fun k0 j => ?_, fun k0 j => ?_⟩
  · rw [if_neg (fun y => k0 (qk.mp y))]
    rfl
  · rw [if_pos (qk.mpr k0), q2, l2_bs]
    rcases j with ⟨rfl, rfl⟩ | ⟨rfl, rfl⟩
    · rw [if_neg (fun y => by have := zt.mp y; omega), if_pos (q29.mpr rfl), if_pos rfl]
    · rw [if_pos (zt.mpr rfl), if_neg (fun y => by have := q29.mp y; omega), if_pos rfl]
  · rw [if_pos (qk.mpr k0), q2, l2_bs]
    unfold jC at j
    rcases h1 k0 with rfl | rfl
    · rw [if_pos (zt.mpr rfl)]
      by_cases e : o = 29
      · rw [if_pos (q29.mpr e), if_neg (by decide)]
        rfl
      · exact absurd (Or.inr ⟨by omega, rfl⟩) j
    · rw [if_neg (fun y => by have := zt.mp y; omega)]
      by_cases e : o = 29
      · exact absurd (Or.inl ⟨e, rfl⟩) j
      · rw [if_neg (fun y => e (q29.mp y)), if_neg (by decide)]
        rfl
theorem jmp_r {t : Int} {k : Nat} {rc : RT_X13_behindFirst} (hx : px_log x o) (h98 : r1.1 950 98 = nI (H + 1)) (hH : H < 750) (kb : k < 100) (p0 : r1.2.1 1006 (260 * (40 + H)) = lN k) (p1 : k = 1 → (t = 0 ∨ t = 1) ∧ (r1.2.1 1006 (260 * (40 + H) + 1)).toInt = t) (hfa : fa < 13000) (h10 : r1.1 960 fa = nI b) : (k ≠ 1 → k_X13_two_29 rc (nI x) (nI fa) r1 = (f_X13_error 1 r1).bind (fun r => some r)) ∧ (k = 1 → jC o t → k_X13_two_29 rc (nI x) (nI fa) r1 = some r1) ∧ (k = 1 → ¬ jC o t → k_X13_two_29 rc (nI x) (nI fa) r1 = (rc.2.2.2.2.2.2.2.1 (nI b) (t_setI r1 950 98 (nI H))).bind (fun r2 => if (r2.1 950 97) = (0 : Int32) then (if t_ix (f_X13_top r2) 626600 = true then (if (lg_cmp (r2.2.1 1006 ((f_X13_top r2).toNatClampNeg)) (1 : Int64)) = (0 : Int32) then some r2 else (f_X13_error 1 r2).bind (fun r => some r)) else none) else some r2)) := by
  have et := un_r h98
  have s1 : r1.1 950 98 - (1 : Int32) = nI H := by rw [h98, nI_1']
  have z : ∀ kk : Nat, kk < 100 → (lg_cmp (lN kk) (1 : Int64) = 0 ↔ kk = 1) := fun kk hk => by
    have : lg_cmp (lN kk) (lN 1) = 0 ↔ kk = 1 := by
      rw [l2_cmp0]
      exact ⟨fun q => lN_inj (by omega) (by omega) q, fun q => by rw [q]⟩
    exact this
  have q3 : nI x = (31868 : Int32) ↔ x = 31868 := nI_eq (b := 31868) (by unfold px_log at hx; omega) (by decide)
  unfold px_log at hx
  unfold k_X13_two_29 k_X13_two_72 k_X13_two_84
  rw [et, if_pos (l2_ix (by omega) (by decide)), nI_clamp (n := 260 * (40 + H)) (by omega), p0, nI_1, if_pos (l2_ix (show 260 * (40 + H) + 1 < 626600 by omega) (by decide)), nI_clamp (n := 260 * (40 + H) + 1) (by omega), s1]
  have pop : (t_setI r1 950 98 (nI H)).1 960 fa = nI b := by rw [l2_sO (by decide)]; exact h10
  refine ⟨fun k0 => ?_, fun k0 j => ?_, fun k0 j => ?_⟩
  · rw [if_neg (fun y => k0 ((z k kb).mp y))]
  · obtain ⟨t01, tv⟩ := p1 k0
    have zt : lg_cmp (r1.2.1 1006 (260 * (40 + H) + 1)) (1 : Int64) = 0 ↔ t = 1 := lg_0 tv rfl
    rw [if_pos ((z k kb).mpr k0)]
    rcases j with ⟨e, rfl⟩ | ⟨e, rfl⟩
    · rw [if_pos (zt.mpr rfl), if_pos (q3.mpr (by omega)), if_pos rfl]
    · rw [if_neg (fun y => by have := zt.mp y; omega), if_neg (fun y => by have := q3.mp y; omega), if_pos rfl]
  · obtain ⟨t01, tv⟩ := p1 k0
    have zt : lg_cmp (r1.2.1 1006 (260 * (40 + H) + 1)) (1 : Int64) = 0 ↔ t = 1 := lg_0 tv rfl
    unfold jC at j
    rw [if_pos ((z k kb).mpr k0)]
    rcases t01 with rfl | rfl
    · have e : x = 31868 := by
        rcases hx with q | q
        · exact q.1
        · exact absurd (Or.inr ⟨q.2, rfl⟩) j
      rw [if_neg (fun y => by have := zt.mp y; omega), if_pos (q3.mpr e), if_neg (show ¬ (0 : Int32) = 1 by decide), t_let, if_pos (l2_ix hfa (by decide)), nI_clamp (n := fa) (by omega), pop]
    · have e : ¬ x = 31868 := by
        rcases hx with q | q
        · exact absurd (Or.inl ⟨q.2, rfl⟩) j
        · omega
      rw [if_pos (zt.mpr rfl), if_neg (fun y => e (q3.mp y)), if_neg (show ¬ (1 : Int32) = 0 by decide), t_let, if_pos (l2_ix hfa (by decide)), nI_clamp (n := fa) (by omega), pop]
end
