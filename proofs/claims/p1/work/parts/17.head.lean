set_option maxRecDepth 10000 in
set_option maxHeartbeats 2000000 in
theorem mh_new.kept {g g2 : mj_H} {a n : Nat} (ha : a < n) (hp : mh_new g a n) (hk : ∀ j, j < n + 949 → g2 j = g j) : mh_new g2 a n := by
  obtain ⟨wd, fr, hd, tl, so, mn, ie, f, sN, eR, hwd, hsN, p0, p1, p2, p3, p4, p5, p6, p7, p8, p9, p10, p11, p12, p13, p14, p15, p16, p17, p18, p19, p20, p21, p22, p23, p24, p25, p26, p27, p28, p29, p30, p31, p32, p33, p34, p35, p36, p37, p38, p39, p40, p41, p42, p43, p44, p45, p46, p47, p48, p49, p50, p51, p52, p53, p54, p55, p56, p57, p58, p59, p60, p61, p62, p63, p64, p65, p66, p67, p68, p69, p70, p71, p72, p73, p74, p75, p76, p77, p78, p79, p80, p81, p82, p83, p84, p85, p86, p87, p88, p89, p90, p91, p92, p93, p94, p95, p96, p97, p98, p99, p100, p101, p102, p103, p104, p105, p106, p107, p108⟩ := hp
  exact ⟨wd, fr, hd, tl, so, mn, ie, f, sN, eR, hwd, hsN, (hk _ (by omega)).trans p0, (hk _ (by omega)).trans p1, (hk _ (by omega)).trans p2, (hk _ (by omega)).trans p3, (hk _ (by omega)).trans p4, (hk _ (by omega)).trans p5, (hk _ (by omega)).trans p6, (hk _ (by omega)).trans p7, (hk _ (by omega)).trans p8, (hk _ (by omega)).trans p9, (hk _ (by omega)).trans p10, (hk _ (by omega)).trans p11, (hk _ (by omega)).trans p12, (hk _ (by omega)).trans p13, (hk _ (by omega)).trans p14, (hk _ (by omega)).trans p15, fun i hi => (hk _ (by omega)).trans (p16 i hi), (hk _ (by omega)).trans p17, (hk _ (by omega)).trans p18, (hk _ (by omega)).trans p19, (hk _ (by omega)).trans p20, (hk _ (by omega)).trans p21, (hk _ (by omega)).trans p22, (hk _ (by omega)).trans p23, (hk _ (by omega)).trans p24, (hk _ (by omega)).trans p25, (hk _ (by omega)).trans p26, (hk _ (by omega)).trans p27, (hk _ (by omega)).trans p28, (hk _ (by omega)).trans p29, (hk _ (by omega)).trans p30, (hk _ (by omega)).trans p31, (hk _ (by omega)).trans p32, (hk _ (by omega)).trans p33, (hk _ (by omega)).trans p34, (hk _ (by omega)).trans p35, (hk _ (by omega)).trans p36, (hk _ (by omega)).trans p37, (hk _ (by omega)).trans p38, (hk _ (by omega)).trans p39, (hk _ (by omega)).trans p40, (hk _ (by omega)).trans p41, (hk _ (by omega)).trans p42, (hk _ (by omega)).trans p43, (hk _ (by omega)).trans p44, (hk _ (by omega)).trans p45, (hk _ (by omega)).trans p46, (hk _ (by omega)).trans p47, (hk _ (by omega)).trans p48, (hk _ (by omega)).trans p49, (hk _ (by omega)).trans p50, (hk _ (by omega)).trans p51, (hk _ (by omega)).trans p52, (hk _ (by omega)).trans p53, (hk _ (by omega)).trans p54, (hk _ (by omega)).trans p55, (hk _ (by omega)).trans p56, (hk _ (by omega)).trans p57, (hk _ (by omega)).trans p58, (hk _ (by omega)).trans p59, (hk _ (by omega)).trans p60, (hk _ (by omega)).trans p61, (hk _ (by omega)).trans p62, (hk _ (by omega)).trans p63, (hk _ (by omega)).trans p64, fun i hi => (hk _ (by omega)).trans (p65 i hi), (hk _ (by omega)).trans p66, (hk _ (by omega)).trans p67, (hk _ (by omega)).trans p68, (hk _ (by omega)).trans p69, (hk _ (by omega)).trans p70, (hk _ (by omega)).trans p71, (hk _ (by omega)).trans p72, (hk _ (by omega)).trans p73, (hk _ (by omega)).trans p74, (hk _ (by omega)).trans p75, (hk _ (by omega)).trans p76, (hk _ (by omega)).trans p77, (hk _ (by omega)).trans p78, (hk _ (by omega)).trans p79, (hk _ (by omega)).trans p80, (hk _ (by omega)).trans p81, (hk _ (by omega)).trans p82, (hk _ (by omega)).trans p83, (hk _ (by omega)).trans p84, (hk _ (by omega)).trans p85, (hk _ (by omega)).trans p86, fun i hi => (hk _ (by omega)).trans (p87 i hi), (hk _ (by omega)).trans p88, (hk _ (by omega)).trans p89, (hk _ (by omega)).trans p90, fun i hi => (hk _ (by omega)).trans (p91 i hi), (hk _ (by omega)).trans p92, (hk _ (by omega)).trans p93, (hk _ (by omega)).trans p94, (hk _ (by omega)).trans p95, (hk _ (by omega)).trans p96, (hk _ (by omega)).trans p97, (hk _ (by omega)).trans p98, (hk _ (by omega)).trans p99, (hk _ (by omega)).trans p100, (hk _ (by omega)).trans p101, (hk _ (by omega)).trans p102, (hk _ (by omega)).trans p103, (hk _ (by omega)).trans p104, (hk _ (by omega)).trans p105, (hk _ (by omega)).trans p106, (hk _ (by omega)).trans p107, fun j hj => (p108 j hj).kept (fun q hq1 hq2 => hk q (by omega))⟩
theorem mh_new.obj {g : mj_H} {a n : Nat} (hp : mh_new g a n) : ∃ fs, g a = .inr (12, fs) := by
  obtain ⟨wd, fr, hd, tl, so, mn, ie, f, sN, eR, hwd, hsN, p0, _⟩ := hp
  exact ⟨_, p0⟩
theorem r_tv (n : Nat) {zi : Nat → Int32} {zj : Nat → Int64} (f : Nat → Nat) : (r_fs n 0 zi zj).map (mj_tv f) = r_fs n 0 zi zj := by
  refine r_ext (by rw [List.length_map, r_fs_len]) (r_fs_len _ _ _ _) (fun i hi => ?_)
  rw [List.getElem?_map, r_fs_at hi]
  show some (mj_tv f (r_val n 0 zi zj i _)) = some (r_val n 0 zi zj i _)
  generalize r_kl.getD i (0, 0) = q
  unfold r_val
  by_cases h2 : q.1 = 2
  · rw [if_pos h2, if_neg (Nat.not_lt_zero _)]; rfl
  · rw [if_neg h2]
    by_cases h1 : q.1 = 1
    · rw [if_pos h1]; rfl
    · rw [if_neg h1]; rfl
/-- both objects as new: the class's at 0, the other at 950 -/
def lw_fresh (h : mj_H) : Prop := mh_new h 0 1 ∧ h 950 = .inr (13, r_fs 951 114 (va_up (fun _ => 0) 3 (-1)) (fun _ => 0)) ∧ ∀ k, k < 114 → h (951 + k) = r_new k
set_option maxRecDepth 10000 in
set_option maxHeartbeats 4000000 in
/-- the law from its entry: both objects made, then the loop -/
theorem lw_head {D : va_G} {cy : Nat → ClassId} {ad : Nat → Nat} {bs : Nat} {X : State → Heap → Prop} {lnm : String} {L : Nat} {xs : Nat → Int32} (hx : ∀ U H, X U H → va_X (ad 1000300) L xs U H) (hq : ad 1000300 < bs) (hL : L ≤ 3072) {R : Nat → mj_H → Prop} (h0 : ∀ h, lw_fresh h → R 0 h) (hall : ∀ k, 6 * k + 6 ≤ L → lw_all (R k) (R (k + 1))) (h : mj_H) : mj_G D cy ad bs X cL_law 4 yL_law.cls (some .boolean) lnm 1909 299716 8203100 1065 (fun v _ => v = some (.int 1)) 0 [(0, .ref 1000300)] [] h 0 0 0 := by
  refine mj_newA (fs := [.null, .null, .null, .null, .null, .null, .null, .null, .null, .null, .int 0, .int 0, .int 0]) tyX12 dL_law_0 CL_X12 tyX12_ok KL_L_7 IN_X12 II_X12 (by decide +kernel) (fun _ => rfl) (by decide) (Nat.le_of_ble_eq_true rfl) (Nat.le_of_ble_eq_true rfl) (fun h1 q1 o1 => ?_)
  refine mj_dup dL_law_3 rfl ?_
  refine mj_callI dL_law_4 rfl rfl M_X12_init (C_X12_init 0 1 h1 (by decide) (by decide) q1) ML_L_9 IM_X12_init (As := []) rfl rfl (by decide) (Nat.le_of_ble_eq_true rfl) (Nat.le_of_ble_eq_true rfl) (Nat.le_of_ble_eq_true rfl) (fun v2 h2 hp => ?_)
  obtain ⟨rfl, m1, o2⟩ := hp
  refine mj_astore_n 1 (lv2 := [(1, .ref 0), (0, .ref 1000300)]) dL_law_7 rfl (by decide) rfl ?_
  refine mj_newA (fs := r_fs 0 0 (fun _ => 0) (fun _ => 0)) tyX13 dL_law_8 CL_X13 tyX13_ok KL_L_10 IN_X13 II_X13 (by decide +kernel) (r_tv 0) (by decide) (Nat.le_of_ble_eq_true rfl) (Nat.le_of_ble_eq_true rfl) (fun h3 q3 o3 => ?_)
  refine mj_dup dL_law_11 rfl ?_
  refine mj_callI dL_law_12 rfl rfl M_X13_init (C_X13_init 950 951 h3 (by decide) (by decide) q3) ML_L_12 IM_X13_init (As := []) rfl rfl (by decide) (Nat.le_of_ble_eq_true rfl) (Nat.le_of_ble_eq_true rfl) (Nat.le_of_ble_eq_true rfl) (fun v4 h4 hp => ?_)
  obtain ⟨rfl, m2, m3, m4⟩ := hp
  refine mj_astore_n 2 (lv2 := [(2, .ref 950), (1, .ref 0), (0, .ref 1000300)]) dL_law_15 rfl (by decide) rfl ?_
  refine mj_iconst (v := 0) dL_law_16 (by decide) ?_
  refine mj_istore_n 3 (lv2 := [(3, .int 0), (2, .ref 950), (1, .ref 0), (0, .ref 1000300)]) dL_law_17 rfl (by decide) rfl ?_
  have hf : lw_fresh h4 := ⟨m1.kept (by decide) (fun j hj => (m4 j (by omega) (by omega)).trans (o3 j (by omega))), m2, m3⟩
  exact lw_loop hx hq hL hall (L / 6) 0 0 h4 (by omega) rfl (h0 h4 hf)
