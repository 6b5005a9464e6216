/-! A new object of each, as numbers by place. -/
/-- the numbers read off a memory -/
def t_rof (h : mj_H) : t_S := (fun a k => match h a with | .inl (_, _, .inl f) => f k | .inr (_, fs) => (match fs[k]? with | some (.int x) => x | _ => 0) | _ => 0, fun a k => match h a with | .inl (_, _, .inr (.inl f)) => f k | .inr (_, fs) => (match fs[k]? with | some (.long x) => x | _ => 0) | _ => 0, fun a k => match h a with | .inr (_, fs) => (match fs[k]? with | some (.ref x) => x | _ => 0) | _ => 0)
theorem t_roI {h : mj_H} {a ci k : Nat} {fs : List Value} {x : Int32} (e : h a = .inr (ci, fs)) (hv : fs[k]? = some (.int x)) : (t_rof h).1 a k = x := by
  show (match h a with | .inl (_, _, .inl f) => f k | .inr (_, fs) => (match fs[k]? with | some (.int x) => x | _ => 0) | _ => 0) = x
  rw [e]
  show (match fs[k]? with | some (.int x) => x | _ => 0) = x
  rw [hv]
theorem t_roJ {h : mj_H} {a ci k : Nat} {fs : List Value} {x : Int64} (e : h a = .inr (ci, fs)) (hv : fs[k]? = some (.long x)) : (t_rof h).2.1 a k = x := by
  show (match h a with | .inl (_, _, .inr (.inl f)) => f k | .inr (_, fs) => (match fs[k]? with | some (.long x) => x | _ => 0) | _ => 0) = x
  rw [e]
  show (match fs[k]? with | some (.long x) => x | _ => 0) = x
  rw [hv]
theorem t_roR {h : mj_H} {a ci k : Nat} {fs : List Value} {x : Nat} (e : h a = .inr (ci, fs)) (hv : fs[k]? = some (.ref x)) : (t_rof h).2.2 a k = x := by
  show (match h a with | .inr (_, fs) => (match fs[k]? with | some (.ref x) => x | _ => 0) | _ => 0) = x
  rw [e]
  show (match fs[k]? with | some (.ref x) => x | _ => 0) = x
  rw [hv]
theorem t_roA {h : mj_H} {a ty len : Nat} {f : Nat → Int32} (e : h a = .inl (ty, len, .inl f)) : (t_rof h).1 a = f := by
  funext k
  show (match h a with | .inl (_, _, .inl f) => f k | .inr (_, fs) => (match fs[k]? with | some (.int x) => x | _ => 0) | _ => 0) = f k
  rw [e]
theorem t_roAJ {h : mj_H} {a ty len : Nat} {f : Nat → Int64} (e : h a = .inl (ty, len, .inr (.inl f))) : (t_rof h).2.1 a = f := by
  funext k
  show (match h a with | .inl (_, _, .inr (.inl f)) => f k | .inr (_, fs) => (match fs[k]? with | some (.long x) => x | _ => 0) | _ => 0) = f k
  rw [e]
theorem t_shA {h : mj_H} {k ty len : Nat} {f : Nat → Int32} (e : h k = .inl (ty, len, .inl f)) (hs : t_sh k = (ty, len, [])) (h2 : ty ≠ 2) (h4 : ty < 4) : h k = t_m (t_rof h) k := by
  show _ = t_e (t_rof h) k (t_sh k)
  rw [hs]
  unfold t_e
  rw [if_neg h2, if_pos h4, t_roA e, e]
theorem t_shJ {h : mj_H} {k len : Nat} {f : Nat → Int64} (e : h k = .inl (2, len, .inr (.inl f))) (hs : t_sh k = (2, len, [])) : h k = t_m (t_rof h) k := by
  show _ = t_e (t_rof h) k (t_sh k)
  rw [hs]
  unfold t_e
  rw [if_pos rfl, t_roAJ e, e]
theorem t_shQ {h : mj_H} {k ty len b st : Nat} {f : Nat → Option Nat} (e : h k = .inl (ty, len, .inr (.inr (.inr (.inr f))))) (hs : t_sh k = (ty, len, [(b, st)])) (h4 : 4 ≤ ty) (h6 : ty < 6) (hf : ∀ i, f i = if i < len then some (b + st * i) else none) : h k = t_m (t_rof h) k := by
  show _ = t_e (t_rof h) k (t_sh k)
  rw [hs]
  unfold t_e
  rw [if_neg (by omega), if_neg (by omega), if_pos h6, e, show f = fun i => if i < len then some (b + st * i) else none from funext hf]
  rfl
/-- whether a field's value is of its kind -/
def t_okv (q : Nat × Nat) (v : Value) : Bool := match v with
  | .int _ => q.1 == 0
  | .long _ => q.1 == 1
  | .ref a => (q.1 == 2 && a == q.2) || q.1 == 3
  | _ => false
theorem t_shO {h : mj_H} {k ci : Nat} {fs : List Value} {ks : List (Nat × Nat)} (e : h k = .inr (ci, fs)) (hs : t_sh k = (ci + 6, 0, ks)) (hl : fs.length = ks.length) (hv : (List.range ks.length).all (fun i => t_okv (ks.getD i (9, 0)) (fs.getD i .null)) = true) : h k = t_m (t_rof h) k := by
  show _ = t_e (t_rof h) k (t_sh k)
  rw [hs, t_e_obj rfl, e]
  congr 2
  apply List.ext_getElem?
  intro i
  by_cases hi : i < ks.length
  · rw [t_fl_at hi]
    have hq := List.all_eq_true.mp hv i (List.mem_range.mpr hi)
    have hfi : fs[i]? = some (fs.getD i .null) := by
      rw [List.getD_eq_getElem?_getD]
      cases hc : fs[i]? with
      | none => rw [List.getElem?_eq_none_iff] at hc; omega
      | some v => rfl
    generalize hvv : fs.getD i .null = v at hq hfi
    generalize ks.getD i (9, 0) = q at hq
    rw [hfi]
    congr 1
    unfold t_okv at hq
    unfold t_v
    cases v with
    | int x =>
      have h0 : q.1 = 0 := by simpa using hq
      rw [if_pos h0, t_roI e hfi]
    | long x =>
      have h0 : q.1 = 1 := by simpa using hq
      rw [if_neg (by omega), if_pos h0, t_roJ e hfi]
    | ref a =>
      have h0 : (q.1 = 2 ∧ a = q.2) ∨ q.1 = 3 := by simpa using hq
      rcases h0 with ⟨h0, h1⟩ | h0
      · rw [if_neg (by omega), if_neg (by omega), if_pos h0, h1]
      · rw [if_neg (by omega), if_neg (by omega), if_neg (by omega), t_roR e hfi]
    | float x => cases hq
    | double x => cases hq
    | null => cases hq
    | retAddr x => cases hq
  · rw [List.getElem?_eq_none (by omega), List.getElem?_eq_none (by rw [t_fl_len]; exact Nat.not_lt.mp hi)]
theorem t_r4 : ∀ q, q < 114 → t_sh (951 + q) = ((r_al.getD q (0, 0)).1, (r_al.getD q (0, 0)).2, []) := by decide +kernel
theorem t_r5 : ∀ q, q < 114 → (r_al.getD q (0, 0)).1 < 4 := by decide +kernel
theorem t_r6 : t_sh 950 = (13 + 6, 0, (t_sh 950).2.2) := by decide +kernel
theorem t_r7 : (r_fs 951 114 (va_up (fun _ => 0) 3 (-1)) (fun _ => 0)).length = (t_sh 950).2.2.length := by decide +kernel
theorem t_r8 : (List.range (t_sh 950).2.2.length).all (fun i => t_okv ((t_sh 950).2.2.getD i (9, 0)) ((r_fs 951 114 (va_up (fun _ => 0) 3 (-1)) (fun _ => 0)).getD i .null)) = true := by decide +kernel
theorem t_oth {h : mj_H} (h0 : h 950 = .inr (13, r_fs 951 114 (va_up (fun _ => 0) 3 (-1)) (fun _ => 0))) (h1 : ∀ k, k < 114 → h (951 + k) = r_new k) : ∀ k, 950 ≤ k → k < 1065 → h k = t_m (t_rof h) k := by
  intro k hk hk2
  by_cases e : k = 950
  · subst e
    exact t_shO h0 t_r6 t_r7 t_r8
  · obtain ⟨q, rfl⟩ : ∃ q, k = 951 + q := ⟨k - 951, by omega⟩
    have hq : q < 114 := by omega
    have hn := h1 q hq
    have hs := t_r4 q hq
    have h4 := t_r5 q hq
    unfold r_new at hn
    generalize r_al.getD q (0, 0) = p at hn hs h4
    by_cases e2 : p.1 = 2
    · rw [if_pos e2] at hn
      rw [e2] at hs
      exact t_shJ hn hs
    · rw [if_neg e2] at hn
      exact t_shA hn hs e2 h4
theorem t_part {h : mj_H} {b : Nat} {x : Int32} (hb : b = 866 ∨ b = 876 ∨ b = 886 ∨ b = 896 ∨ b = 906 ∨ b = 916 ∨ b = 926 ∨ b = 936) (hp : pt_ok h b x) : ∀ k, b ≤ k → k < b + 10 → h k = t_m (t_rof h) k := by
  obtain ⟨p0, p1, p2, p3, p4, p5, p6, p7, p8, p9⟩ := hp
  intro k h1 h2
  have hk : k = b + 0 ∨ k = b + 1 ∨ k = b + 2 ∨ k = b + 3 ∨ k = b + 4 ∨ k = b + 5 ∨ k = b + 6 ∨ k = b + 7 ∨ k = b + 8 ∨ k = b + 9 := by omega
  rcases hb with rfl | rfl | rfl | rfl | rfl | rfl | rfl | rfl <;> rcases hk with rfl | rfl | rfl | rfl | rfl | rfl | rfl | rfl | rfl | rfl
  · exact t_shO p0 rfl rfl rfl
  · exact t_shA p1 rfl (by decide) (by decide)
  · exact t_shA p2 rfl (by decide) (by decide)
  · exact t_shA p3 rfl (by decide) (by decide)
  · exact t_shA p4 rfl (by decide) (by decide)
  · exact t_shA p5 rfl (by decide) (by decide)
  · exact t_shA p6 rfl (by decide) (by decide)
  · exact t_shA p7 rfl (by decide) (by decide)
  · exact t_shA p8 rfl (by decide) (by decide)
  · exact t_shJ p9 rfl
  · exact t_shO p0 rfl rfl rfl
  · exact t_shA p1 rfl (by decide) (by decide)
  · exact t_shA p2 rfl (by decide) (by decide)
  · exact t_shA p3 rfl (by decide) (by decide)
  · exact t_shA p4 rfl (by decide) (by decide)
  · exact t_shA p5 rfl (by decide) (by decide)
  · exact t_shA p6 rfl (by decide) (by decide)
  · exact t_shA p7 rfl (by decide) (by decide)
  · exact t_shA p8 rfl (by decide) (by decide)
  · exact t_shJ p9 rfl
  · exact t_shO p0 rfl rfl rfl
  · exact t_shA p1 rfl (by decide) (by decide)
  · exact t_shA p2 rfl (by decide) (by decide)
  · exact t_shA p3 rfl (by decide) (by decide)
  · exact t_shA p4 rfl (by decide) (by decide)
  · exact t_shA p5 rfl (by decide) (by decide)
  · exact t_shA p6 rfl (by decide) (by decide)
  · exact t_shA p7 rfl (by decide) (by decide)
  · exact t_shA p8 rfl (by decide) (by decide)
  · exact t_shJ p9 rfl
  · exact t_shO p0 rfl rfl rfl
  · exact t_shA p1 rfl (by decide) (by decide)
  · exact t_shA p2 rfl (by decide) (by decide)
  · exact t_shA p3 rfl (by decide) (by decide)
  · exact t_shA p4 rfl (by decide) (by decide)
  · exact t_shA p5 rfl (by decide) (by decide)
  · exact t_shA p6 rfl (by decide) (by decide)
  · exact t_shA p7 rfl (by decide) (by decide)
  · exact t_shA p8 rfl (by decide) (by decide)
  · exact t_shJ p9 rfl
  · exact t_shO p0 rfl rfl rfl
  · exact t_shA p1 rfl (by decide) (by decide)
  · exact t_shA p2 rfl (by decide) (by decide)
  · exact t_shA p3 rfl (by decide) (by decide)
  · exact t_shA p4 rfl (by decide) (by decide)
  · exact t_shA p5 rfl (by decide) (by decide)
  · exact t_shA p6 rfl (by decide) (by decide)
  · exact t_shA p7 rfl (by decide) (by decide)
  · exact t_shA p8 rfl (by decide) (by decide)
  · exact t_shJ p9 rfl
  · exact t_shO p0 rfl rfl rfl
  · exact t_shA p1 rfl (by decide) (by decide)
  · exact t_shA p2 rfl (by decide) (by decide)
  · exact t_shA p3 rfl (by decide) (by decide)
  · exact t_shA p4 rfl (by decide) (by decide)
  · exact t_shA p5 rfl (by decide) (by decide)
  · exact t_shA p6 rfl (by decide) (by decide)
  · exact t_shA p7 rfl (by decide) (by decide)
  · exact t_shA p8 rfl (by decide) (by decide)
  · exact t_shJ p9 rfl
  · exact t_shO p0 rfl rfl rfl
  · exact t_shA p1 rfl (by decide) (by decide)
  · exact t_shA p2 rfl (by decide) (by decide)
  · exact t_shA p3 rfl (by decide) (by decide)
  · exact t_shA p4 rfl (by decide) (by decide)
  · exact t_shA p5 rfl (by decide) (by decide)
  · exact t_shA p6 rfl (by decide) (by decide)
  · exact t_shA p7 rfl (by decide) (by decide)
  · exact t_shA p8 rfl (by decide) (by decide)
  · exact t_shJ p9 rfl
  · exact t_shO p0 rfl rfl rfl
  · exact t_shA p1 rfl (by decide) (by decide)
  · exact t_shA p2 rfl (by decide) (by decide)
  · exact t_shA p3 rfl (by decide) (by decide)
  · exact t_shA p4 rfl (by decide) (by decide)
  · exact t_shA p5 rfl (by decide) (by decide)
  · exact t_shA p6 rfl (by decide) (by decide)
  · exact t_shA p7 rfl (by decide) (by decide)
  · exact t_shA p8 rfl (by decide) (by decide)
  · exact t_shJ p9 rfl
set_option maxHeartbeats 2000000 in
set_option maxRecDepth 10000 in
theorem t_cls_0 {h : mj_H} (hp : mh_new h 0 1) : ∀ k, 0 ≤ k → k < 16 → h k = t_m (t_rof h) k := by
  obtain ⟨wd, fr, hd, tl, so, mn, ie, f, sN, eR, hwd, hsN, p0, p1, p2, p3, p4, p5, p6, p7, p8, p9, p10, p11, p12, p13, p14, p15, p16, p17, p18, p19, p20, p21, p22, p23, p24, p25, p26, p27, p28, p29, p30, p31, p32, p33, p34, p35, p36, p37, p38, p39, p40, p41, p42, p43, p44, p45, p46, p47, p48, p49, p50, p51, p52, p53, p54, p55, p56, p57, p58, p59, p60, p61, p62, p63, p64, p65, p66, p67, p68, p69, p70, p71, p72, p73, p74, p75, p76, p77, p78, p79, p80, p81, p82, p83, p84, p85, p86, p87, p88, p89, p90, p91, p92, p93, p94, p95, p96, p97, p98, p99, p100, p101, p102, p103, p104, p105, p106, p107, p108⟩ := hp
  intro k h1 h2
  have hk : k = 0 ∨ k = 1 ∨ k = 2 ∨ k = 3 ∨ k = 4 ∨ k = 5 ∨ k = 6 ∨ k = 7 ∨ k = 8 ∨ k = 9 ∨ k = 10 ∨ k = 11 ∨ k = 12 ∨ k = 13 ∨ k = 14 ∨ k = 15 := by omega
  rcases hk with rfl | rfl | rfl | rfl | rfl | rfl | rfl | rfl | rfl | rfl | rfl | rfl | rfl | rfl | rfl | rfl
  · exact t_shO (k := 0) p0 rfl rfl rfl
  · exact t_shO (k := 1) p1 rfl rfl rfl
  · exact t_shA (k := 2) p2 rfl (by decide) (by decide)
  · exact t_shA (k := 3) p3 rfl (by decide) (by decide)
  · exact t_shA (k := 4) p4 rfl (by decide) (by decide)
  · exact t_shJ (k := 5) p5 rfl
  · exact t_shA (k := 6) p6 rfl (by decide) (by decide)
  · exact t_shA (k := 7) p7 rfl (by decide) (by decide)
  · exact t_shJ (k := 8) p8 rfl
  · exact t_shA (k := 9) p9 rfl (by decide) (by decide)
  · exact t_shA (k := 10) p10 rfl (by decide) (by decide)
  · exact t_shA (k := 11) p11 rfl (by decide) (by decide)
  · exact t_shO (k := 12) p12 rfl rfl rfl
  · exact t_shJ (k := 13) p13 rfl
  · exact t_shA (k := 14) p14 rfl (by decide) (by decide)
  · exact t_shQ (k := 15) (b := 16) (st := 1) p15 rfl (by decide) (by decide) (fun i => by (try split) <;> (try split) <;> first | rfl | omega | (congr 1; omega))
set_option maxHeartbeats 2000000 in
set_option maxRecDepth 10000 in
theorem t_cls_1 {h : mj_H} (hp : mh_new h 0 1) : ∀ k, 316 ≤ k → k < 332 → h k = t_m (t_rof h) k := by
  obtain ⟨wd, fr, hd, tl, so, mn, ie, f, sN, eR, hwd, hsN, p0, p1, p2, p3, p4, p5, p6, p7, p8, p9, p10, p11, p12, p13, p14, p15, p16, p17, p18, p19, p20, p21, p22, p23, p24, p25, p26, p27, p28, p29, p30, p31, p32, p33, p34, p35, p36, p37, p38, p39, p40, p41, p42, p43, p44, p45, p46, p47, p48, p49, p50, p51, p52, p53, p54, p55, p56, p57, p58, p59, p60, p61, p62, p63, p64, p65, p66, p67, p68, p69, p70, p71, p72, p73, p74, p75, p76, p77, p78, p79, p80, p81, p82, p83, p84, p85, p86, p87, p88, p89, p90, p91, p92, p93, p94, p95, p96, p97, p98, p99, p100, p101, p102, p103, p104, p105, p106, p107, p108⟩ := hp
  intro k h1 h2
  have hk : k = 316 ∨ k = 317 ∨ k = 318 ∨ k = 319 ∨ k = 320 ∨ k = 321 ∨ k = 322 ∨ k = 323 ∨ k = 324 ∨ k = 325 ∨ k = 326 ∨ k = 327 ∨ k = 328 ∨ k = 329 ∨ k = 330 ∨ k = 331 := by omega
  rcases hk with rfl | rfl | rfl | rfl | rfl | rfl | rfl | rfl | rfl | rfl | rfl | rfl | rfl | rfl | rfl | rfl
  · exact t_shO (k := 316) p17 rfl rfl rfl
  · exact t_shA (k := 317) p18 rfl (by decide) (by decide)
  · exact t_shA (k := 318) p19 rfl (by decide) (by decide)
  · exact t_shA (k := 319) p20 rfl (by decide) (by decide)
  · exact t_shA (k := 320) p21 rfl (by decide) (by decide)
  · exact t_shA (k := 321) p22 rfl (by decide) (by decide)
  · exact t_shJ (k := 322) p23 rfl
  · exact t_shJ (k := 323) p24 rfl
  · exact t_shA (k := 324) p25 rfl (by decide) (by decide)
  · exact t_shA (k := 325) p26 rfl (by decide) (by decide)
  · exact t_shA (k := 326) p27 rfl (by decide) (by decide)
  · exact t_shA (k := 327) p28 rfl (by decide) (by decide)
  · exact t_shJ (k := 328) p29 rfl
  · exact t_shJ (k := 329) p30 rfl
  · exact t_shJ (k := 330) p31 rfl
  · exact t_shJ (k := 331) p32 rfl
set_option maxHeartbeats 2000000 in
set_option maxRecDepth 10000 in
theorem t_cls_2 {h : mj_H} (hp : mh_new h 0 1) : ∀ k, 332 ≤ k → k < 348 → h k = t_m (t_rof h) k := by
  obtain ⟨wd, fr, hd, tl, so, mn, ie, f, sN, eR, hwd, hsN, p0, p1, p2, p3, p4, p5, p6, p7, p8, p9, p10, p11, p12, p13, p14, p15, p16, p17, p18, p19, p20, p21, p22, p23, p24, p25, p26, p27, p28, p29, p30, p31, p32, p33, p34, p35, p36, p37, p38, p39, p40, p41, p42, p43, p44, p45, p46, p47, p48, p49, p50, p51, p52, p53, p54, p55, p56, p57, p58, p59, p60, p61, p62, p63, p64, p65, p66, p67, p68, p69, p70, p71, p72, p73, p74, p75, p76, p77, p78, p79, p80, p81, p82, p83, p84, p85, p86, p87, p88, p89, p90, p91, p92, p93, p94, p95, p96, p97, p98, p99, p100, p101, p102, p103, p104, p105, p106, p107, p108⟩ := hp
  intro k h1 h2
  have hk : k = 332 ∨ k = 333 ∨ k = 334 ∨ k = 335 ∨ k = 336 ∨ k = 337 ∨ k = 338 ∨ k = 339 ∨ k = 340 ∨ k = 341 ∨ k = 342 ∨ k = 343 ∨ k = 344 ∨ k = 345 ∨ k = 346 ∨ k = 347 := by omega
  rcases hk with rfl | rfl | rfl | rfl | rfl | rfl | rfl | rfl | rfl | rfl | rfl | rfl | rfl | rfl | rfl | rfl
  · exact t_shA (k := 332) p33 rfl (by decide) (by decide)
  · exact t_shA (k := 333) p34 rfl (by decide) (by decide)
  · exact t_shO (k := 334) p35 rfl rfl rfl
  · exact t_shA (k := 335) p36 rfl (by decide) (by decide)
  · exact t_shA (k := 336) p37 rfl (by decide) (by decide)
  · exact t_shJ (k := 337) p38 rfl
  · exact t_shJ (k := 338) p39 rfl
  · exact t_shA (k := 339) p40 rfl (by decide) (by decide)
  · exact t_shJ (k := 340) p41 rfl
  · exact t_shJ (k := 341) p42 rfl
  · exact t_shA (k := 342) p43 rfl (by decide) (by decide)
  · exact t_shO (k := 343) p44 rfl rfl rfl
  · exact t_shA (k := 344) p45 rfl (by decide) (by decide)
  · exact t_shA (k := 345) p46 rfl (by decide) (by decide)
  · exact t_shA (k := 346) p47 rfl (by decide) (by decide)
  · exact t_shA (k := 347) p48 rfl (by decide) (by decide)
set_option maxHeartbeats 2000000 in
set_option maxRecDepth 10000 in
theorem t_cls_3 {h : mj_H} (hp : mh_new h 0 1) : ∀ k, 348 ≤ k → k < 364 → h k = t_m (t_rof h) k := by
  obtain ⟨wd, fr, hd, tl, so, mn, ie, f, sN, eR, hwd, hsN, p0, p1, p2, p3, p4, p5, p6, p7, p8, p9, p10, p11, p12, p13, p14, p15, p16, p17, p18, p19, p20, p21, p22, p23, p24, p25, p26, p27, p28, p29, p30, p31, p32, p33, p34, p35, p36, p37, p38, p39, p40, p41, p42, p43, p44, p45, p46, p47, p48, p49, p50, p51, p52, p53, p54, p55, p56, p57, p58, p59, p60, p61, p62, p63, p64, p65, p66, p67, p68, p69, p70, p71, p72, p73, p74, p75, p76, p77, p78, p79, p80, p81, p82, p83, p84, p85, p86, p87, p88, p89, p90, p91, p92, p93, p94, p95, p96, p97, p98, p99, p100, p101, p102, p103, p104, p105, p106, p107, p108⟩ := hp
  intro k h1 h2
  have hk : k = 348 ∨ k = 349 ∨ k = 350 ∨ k = 351 ∨ k = 352 ∨ k = 353 ∨ k = 354 ∨ k = 355 ∨ k = 356 ∨ k = 357 ∨ k = 358 ∨ k = 359 ∨ k = 360 ∨ k = 361 ∨ k = 362 ∨ k = 363 := by omega
  rcases hk with rfl | rfl | rfl | rfl | rfl | rfl | rfl | rfl | rfl | rfl | rfl | rfl | rfl | rfl | rfl | rfl
  · exact t_shA (k := 348) p49 rfl (by decide) (by decide)
  · exact t_shA (k := 349) p50 rfl (by decide) (by decide)
  · exact t_shA (k := 350) p51 rfl (by decide) (by decide)
  · exact t_shA (k := 351) p52 rfl (by decide) (by decide)
  · exact t_shJ (k := 352) p53 rfl
  · exact t_shO (k := 353) p54 rfl rfl rfl
  · exact t_shA (k := 354) p55 rfl (by decide) (by decide)
  · exact t_shA (k := 355) p56 rfl (by decide) (by decide)
  · exact t_shA (k := 356) p57 rfl (by decide) (by decide)
  · exact t_shA (k := 357) p58 rfl (by decide) (by decide)
  · exact t_shA (k := 358) p59 rfl (by decide) (by decide)
  · exact t_shA (k := 359) p60 rfl (by decide) (by decide)
  · exact t_shA (k := 360) p61 rfl (by decide) (by decide)
  · exact t_shJ (k := 361) p62 rfl
  · exact t_shJ (k := 362) p63 rfl
  · exact t_shQ (k := 363) (b := 364) (st := 1) p64 rfl (by decide) (by decide) (fun i => by (try split) <;> (try split) <;> first | rfl | omega | (congr 1; omega))
set_option maxHeartbeats 2000000 in
set_option maxRecDepth 10000 in
theorem t_cls_4 {h : mj_H} (hp : mh_new h 0 1) : ∀ k, 424 ≤ k → k < 440 → h k = t_m (t_rof h) k := by
  obtain ⟨wd, fr, hd, tl, so, mn, ie, f, sN, eR, hwd, hsN, p0, p1, p2, p3, p4, p5, p6, p7, p8, p9, p10, p11, p12, p13, p14, p15, p16, p17, p18, p19, p20, p21, p22, p23, p24, p25, p26, p27, p28, p29, p30, p31, p32, p33, p34, p35, p36, p37, p38, p39, p40, p41, p42, p43, p44, p45, p46, p47, p48, p49, p50, p51, p52, p53, p54, p55, p56, p57, p58, p59, p60, p61, p62, p63, p64, p65, p66, p67, p68, p69, p70, p71, p72, p73, p74, p75, p76, p77, p78, p79, p80, p81, p82, p83, p84, p85, p86, p87, p88, p89, p90, p91, p92, p93, p94, p95, p96, p97, p98, p99, p100, p101, p102, p103, p104, p105, p106, p107, p108⟩ := hp
  intro k h1 h2
  have hk : k = 424 ∨ k = 425 ∨ k = 426 ∨ k = 427 ∨ k = 428 ∨ k = 429 ∨ k = 430 ∨ k = 431 ∨ k = 432 ∨ k = 433 ∨ k = 434 ∨ k = 435 ∨ k = 436 ∨ k = 437 ∨ k = 438 ∨ k = 439 := by omega
  rcases hk with rfl | rfl | rfl | rfl | rfl | rfl | rfl | rfl | rfl | rfl | rfl | rfl | rfl | rfl | rfl | rfl
  · exact t_shA (k := 424) p66 rfl (by decide) (by decide)
  · exact t_shA (k := 425) p67 rfl (by decide) (by decide)
  · exact t_shA (k := 426) p68 rfl (by decide) (by decide)
  · exact t_shA (k := 427) p69 rfl (by decide) (by decide)
  · exact t_shO (k := 428) p70 rfl rfl rfl
  · exact t_shA (k := 429) p71 rfl (by decide) (by decide)
  · exact t_shA (k := 430) p72 rfl (by decide) (by decide)
  · exact t_shA (k := 431) p73 rfl (by decide) (by decide)
  · exact t_shA (k := 432) p74 rfl (by decide) (by decide)
  · exact t_shA (k := 433) p75 rfl (by decide) (by decide)
  · exact t_shA (k := 434) p76 rfl (by decide) (by decide)
  · exact t_shA (k := 435) p77 rfl (by decide) (by decide)
  · exact t_shA (k := 436) p78 rfl (by decide) (by decide)
  · exact t_shA (k := 437) p79 rfl (by decide) (by decide)
  · exact t_shA (k := 438) p80 rfl (by decide) (by decide)
  · exact t_shA (k := 439) p81 rfl (by decide) (by decide)
set_option maxHeartbeats 2000000 in
set_option maxRecDepth 10000 in
theorem t_cls_5 {h : mj_H} (hp : mh_new h 0 1) : ∀ k, 440 ≤ k → k < 445 → h k = t_m (t_rof h) k := by
  obtain ⟨wd, fr, hd, tl, so, mn, ie, f, sN, eR, hwd, hsN, p0, p1, p2, p3, p4, p5, p6, p7, p8, p9, p10, p11, p12, p13, p14, p15, p16, p17, p18, p19, p20, p21, p22, p23, p24, p25, p26, p27, p28, p29, p30, p31, p32, p33, p34, p35, p36, p37, p38, p39, p40, p41, p42, p43, p44, p45, p46, p47, p48, p49, p50, p51, p52, p53, p54, p55, p56, p57, p58, p59, p60, p61, p62, p63, p64, p65, p66, p67, p68, p69, p70, p71, p72, p73, p74, p75, p76, p77, p78, p79, p80, p81, p82, p83, p84, p85, p86, p87, p88, p89, p90, p91, p92, p93, p94, p95, p96, p97, p98, p99, p100, p101, p102, p103, p104, p105, p106, p107, p108⟩ := hp
  intro k h1 h2
  have hk : k = 440 ∨ k = 441 ∨ k = 442 ∨ k = 443 ∨ k = 444 := by omega
  rcases hk with rfl | rfl | rfl | rfl | rfl
  · exact t_shA (k := 440) p82 rfl (by decide) (by decide)
  · exact t_shA (k := 441) p83 rfl (by decide) (by decide)
  · exact t_shA (k := 442) p84 rfl (by decide) (by decide)
  · exact t_shA (k := 443) p85 rfl (by decide) (by decide)
  · exact t_shQ (k := 444) (b := 445) (st := 1) p86 rfl (by decide) (by decide) (fun i => by (try split) <;> (try split) <;> first | rfl | omega | (congr 1; omega))
set_option maxHeartbeats 2000000 in
set_option maxRecDepth 10000 in
theorem t_cls_6 {h : mj_H} (hp : mh_new h 0 1) : ∀ k, 845 ≤ k → k < 848 → h k = t_m (t_rof h) k := by
  obtain ⟨wd, fr, hd, tl, so, mn, ie, f, sN, eR, hwd, hsN, p0, p1, p2, p3, p4, p5, p6, p7, p8, p9, p10, p11, p12, p13, p14, p15, p16, p17, p18, p19, p20, p21, p22, p23, p24, p25, p26, p27, p28, p29, p30, p31, p32, p33, p34, p35, p36, p37, p38, p39, p40, p41, p42, p43, p44, p45, p46, p47, p48, p49, p50, p51, p52, p53, p54, p55, p56, p57, p58, p59, p60, p61, p62, p63, p64, p65, p66, p67, p68, p69, p70, p71, p72, p73, p74, p75, p76, p77, p78, p79, p80, p81, p82, p83, p84, p85, p86, p87, p88, p89, p90, p91, p92, p93, p94, p95, p96, p97, p98, p99, p100, p101, p102, p103, p104, p105, p106, p107, p108⟩ := hp
  intro k h1 h2
  have hk : k = 845 ∨ k = 846 ∨ k = 847 := by omega
  rcases hk with rfl | rfl | rfl
  · exact t_shO (k := 845) p88 rfl rfl rfl
  · exact t_shO (k := 846) p89 rfl rfl rfl
  · exact t_shQ (k := 847) (b := 848) (st := 1) p90 rfl (by decide) (by decide) (fun i => by (try split) <;> (try split) <;> first | rfl | omega | (congr 1; omega))
set_option maxHeartbeats 2000000 in
set_option maxRecDepth 10000 in
theorem t_cls_7 {h : mj_H} (hp : mh_new h 0 1) : ∀ k, 854 ≤ k → k < 866 → h k = t_m (t_rof h) k := by
  obtain ⟨wd, fr, hd, tl, so, mn, ie, f, sN, eR, hwd, hsN, p0, p1, p2, p3, p4, p5, p6, p7, p8, p9, p10, p11, p12, p13, p14, p15, p16, p17, p18, p19, p20, p21, p22, p23, p24, p25, p26, p27, p28, p29, p30, p31, p32, p33, p34, p35, p36, p37, p38, p39, p40, p41, p42, p43, p44, p45, p46, p47, p48, p49, p50, p51, p52, p53, p54, p55, p56, p57, p58, p59, p60, p61, p62, p63, p64, p65, p66, p67, p68, p69, p70, p71, p72, p73, p74, p75, p76, p77, p78, p79, p80, p81, p82, p83, p84, p85, p86, p87, p88, p89, p90, p91, p92, p93, p94, p95, p96, p97, p98, p99, p100, p101, p102, p103, p104, p105, p106, p107, p108⟩ := hp
  intro k h1 h2
  have hk : k = 854 ∨ k = 855 ∨ k = 856 ∨ k = 857 ∨ k = 858 ∨ k = 859 ∨ k = 860 ∨ k = 861 ∨ k = 862 ∨ k = 863 ∨ k = 864 ∨ k = 865 := by omega
  rcases hk with rfl | rfl | rfl | rfl | rfl | rfl | rfl | rfl | rfl | rfl | rfl | rfl
  · exact t_shA (k := 854) p92 rfl (by decide) (by decide)
  · exact t_shA (k := 855) p93 rfl (by decide) (by decide)
  · exact t_shO (k := 856) p94 rfl rfl rfl
  · exact t_shA (k := 857) p95 rfl (by decide) (by decide)
  · exact t_shA (k := 858) p96 rfl (by decide) (by decide)
  · exact t_shJ (k := 859) p97 rfl
  · exact t_shJ (k := 860) p98 rfl
  · exact t_shA (k := 861) p99 rfl (by decide) (by decide)
  · exact t_shA (k := 862) p100 rfl (by decide) (by decide)
  · exact t_shA (k := 863) p101 rfl (by decide) (by decide)
  · exact t_shO (k := 864) p102 rfl rfl rfl
  · exact t_shQ (k := 865) (b := 866) (st := 10) p103 rfl (by decide) (by decide) (fun i => by (try split) <;> (try split) <;> first | rfl | omega | (congr 1; omega))
set_option maxHeartbeats 2000000 in
set_option maxRecDepth 10000 in
theorem t_cls_8 {h : mj_H} (hp : mh_new h 0 1) : ∀ k, 946 ≤ k → k < 950 → h k = t_m (t_rof h) k := by
  obtain ⟨wd, fr, hd, tl, so, mn, ie, f, sN, eR, hwd, hsN, p0, p1, p2, p3, p4, p5, p6, p7, p8, p9, p10, p11, p12, p13, p14, p15, p16, p17, p18, p19, p20, p21, p22, p23, p24, p25, p26, p27, p28, p29, p30, p31, p32, p33, p34, p35, p36, p37, p38, p39, p40, p41, p42, p43, p44, p45, p46, p47, p48, p49, p50, p51, p52, p53, p54, p55, p56, p57, p58, p59, p60, p61, p62, p63, p64, p65, p66, p67, p68, p69, p70, p71, p72, p73, p74, p75, p76, p77, p78, p79, p80, p81, p82, p83, p84, p85, p86, p87, p88, p89, p90, p91, p92, p93, p94, p95, p96, p97, p98, p99, p100, p101, p102, p103, p104, p105, p106, p107, p108⟩ := hp
  intro k h1 h2
  have hk : k = 946 ∨ k = 947 ∨ k = 948 ∨ k = 949 := by omega
  rcases hk with rfl | rfl | rfl | rfl
  · exact t_shO (k := 946) p104 rfl rfl rfl
  · exact t_shA (k := 947) p105 rfl (by decide) (by decide)
  · exact t_shA (k := 948) p106 rfl (by decide) (by decide)
  · exact t_shA (k := 949) p107 rfl (by decide) (by decide)
set_option maxHeartbeats 2000000 in
set_option maxRecDepth 10000 in
theorem t_cls {h : mj_H} (hp : mh_new h 0 1) : ∀ k, k < 950 → h k = t_m (t_rof h) k := by
  have b0 := t_cls_0 hp
  have b1 := t_cls_1 hp
  have b2 := t_cls_2 hp
  have b3 := t_cls_3 hp
  have b4 := t_cls_4 hp
  have b5 := t_cls_5 hp
  have b6 := t_cls_6 hp
  have b7 := t_cls_7 hp
  have b8 := t_cls_8 hp
  obtain ⟨wd, fr, hd, tl, so, mn, ie, f, sN, eR, hwd, hsN, p0, p1, p2, p3, p4, p5, p6, p7, p8, p9, p10, p11, p12, p13, p14, p15, p16, p17, p18, p19, p20, p21, p22, p23, p24, p25, p26, p27, p28, p29, p30, p31, p32, p33, p34, p35, p36, p37, p38, p39, p40, p41, p42, p43, p44, p45, p46, p47, p48, p49, p50, p51, p52, p53, p54, p55, p56, p57, p58, p59, p60, p61, p62, p63, p64, p65, p66, p67, p68, p69, p70, p71, p72, p73, p74, p75, p76, p77, p78, p79, p80, p81, p82, p83, p84, p85, p86, p87, p88, p89, p90, p91, p92, p93, p94, p95, p96, p97, p98, p99, p100, p101, p102, p103, p104, p105, p106, p107, p108⟩ := hp
  intro k hk
  by_cases c16 : k < 16
  · exact b0 k (by omega) (by omega)
  by_cases c316 : k < 316
  · exact t_shA ((congrArg h (show k = 1 + 15 + (k - 16) by omega)).trans (p16 (k - 16) (by omega))) (t_r1 (by omega) (by omega)) (by decide) (by decide)
  by_cases c332 : k < 332
  · exact b1 k (by omega) (by omega)
  by_cases c348 : k < 348
  · exact b2 k (by omega) (by omega)
  by_cases c364 : k < 364
  · exact b3 k (by omega) (by omega)
  by_cases c424 : k < 424
  · exact t_shA ((congrArg h (show k = 1 + 363 + (k - 364) by omega)).trans (p65 (k - 364) (by omega))) (t_r2 (by omega) (by omega)) (by decide) (by decide)
  by_cases c440 : k < 440
  · exact b4 k (by omega) (by omega)
  by_cases c445 : k < 445
  · exact b5 k (by omega) (by omega)
  by_cases c845 : k < 845
  · exact t_shA ((congrArg h (show k = 1 + 444 + (k - 445) by omega)).trans (p87 (k - 445) (by omega))) (t_r3 (by omega) (by omega)) (by decide) (by decide)
  by_cases c848 : k < 848
  · exact b6 k (by omega) (by omega)
  by_cases c854 : k < 854
  · exact t_shA ((congrArg h (show k = 1 + 847 + (k - 848) by omega)).trans (p91 (k - 848) (by omega))) (t_r9 (by omega) (by omega)) (by decide) (by decide)
  by_cases c866 : k < 866
  · exact b7 k (by omega) (by omega)
  by_cases c876 : k < 876
  · exact t_part (b := 866) (by omega) (p108 0 (by decide)) k (by omega) (by omega)
  by_cases c886 : k < 886
  · exact t_part (b := 876) (by omega) (p108 1 (by decide)) k (by omega) (by omega)
  by_cases c896 : k < 896
  · exact t_part (b := 886) (by omega) (p108 2 (by decide)) k (by omega) (by omega)
  by_cases c906 : k < 906
  · exact t_part (b := 896) (by omega) (p108 3 (by decide)) k (by omega) (by omega)
  by_cases c916 : k < 916
  · exact t_part (b := 906) (by omega) (p108 4 (by decide)) k (by omega) (by omega)
  by_cases c926 : k < 926
  · exact t_part (b := 916) (by omega) (p108 5 (by decide)) k (by omega) (by omega)
  by_cases c936 : k < 936
  · exact t_part (b := 926) (by omega) (p108 6 (by decide)) k (by omega) (by omega)
  by_cases c946 : k < 946
  · exact t_part (b := 936) (by omega) (p108 7 (by decide)) k (by omega) (by omega)
  · exact b8 k (by omega) (by omega)
/-- what is used of the class's new object -/
def N_fx (s : t_S) : Prop := (s.1 1 13).toInt ≤ 66 ∧ s.1 0 10 = 0 ∧ s.1 0 11 = (-1) ∧ s.1 0 12 = 0 ∧ s.1 1 1 = 0 ∧ s.1 12 2 = 0 ∧ s.1 856 3 = 0 ∧ s.1 856 5 = 0 ∧ s.1 353 17 = 0 ∧ s.1 864 8 = 0 ∧ s.1 946 3 = 0 ∧ s.1 353 11 = 0 ∧ (∀ i, s.1 947 i = 0) ∧ (∀ i, s.1 948 i = 0)
/-- what is used of the other's -/
def N_fy (s : t_S) : Prop := (∀ k, s.1 950 k = if k = 3 then -1 else 0) ∧ ∀ q, q < 114 → ∀ i, s.1 (951 + q) i = 0
theorem N_fy.kept {L : List Nat} {s s' : t_S} (hL : L.all (fun b => decide (b < 950)) = true) (h : N_fy s) (hk : t_keep L s s') : N_fy s' := by
  have hc : ∀ b, 950 ≤ b → L.contains b = false := by
    intro b hb
    cases hc : L.contains b with
    | false => rfl
    | true =>
      have := List.all_eq_true.mp hL b (List.contains_iff_mem.mp hc)
      simp at this
      omega
  refine ⟨fun k => ?_, fun q hq i => ?_⟩
  · rw [(hk 950 (hc 950 (by decide))).1]; exact h.1 k
  · rw [(hk (951 + q) (hc _ (by omega))).1]; exact h.2 q hq i
set_option maxHeartbeats 2000000 in
set_option maxRecDepth 10000 in
theorem N_fx_of {h : mj_H} (hp : mh_new h 0 1) : N_fx (t_rof h) := by
  obtain ⟨wd, fr, hd, tl, so, mn, ie, f, sN, eR, hwd, hsN, p0, p1, p2, p3, p4, p5, p6, p7, p8, p9, p10, p11, p12, p13, p14, p15, p16, p17, p18, p19, p20, p21, p22, p23, p24, p25, p26, p27, p28, p29, p30, p31, p32, p33, p34, p35, p36, p37, p38, p39, p40, p41, p42, p43, p44, p45, p46, p47, p48, p49, p50, p51, p52, p53, p54, p55, p56, p57, p58, p59, p60, p61, p62, p63, p64, p65, p66, p67, p68, p69, p70, p71, p72, p73, p74, p75, p76, p77, p78, p79, p80, p81, p82, p83, p84, p85, p86, p87, p88, p89, p90, p91, p92, p93, p94, p95, p96, p97, p98, p99, p100, p101, p102, p103, p104, p105, p106, p107, p108⟩ := hp
  refine ⟨?_, t_roI (a := 0) (k := 10) (x := 0) p0 rfl, t_roI (a := 0) (k := 11) (x := (-1)) p0 rfl, t_roI (a := 0) (k := 12) (x := 0) p0 rfl, t_roI (a := 1) (k := 1) (x := 0) p1 rfl, t_roI (a := 12) (k := 2) (x := 0) p12 rfl, t_roI (a := 856) (k := 3) (x := 0) p94 rfl, t_roI (a := 856) (k := 5) (x := 0) p94 rfl, t_roI (a := 353) (k := 17) (x := 0) p54 rfl, t_roI (a := 864) (k := 8) (x := 0) p102 rfl, t_roI (a := 946) (k := 3) (x := 0) p104 rfl, t_roI (a := 353) (k := 11) (x := 0) p54 rfl, fun i => congrFun (t_roA (a := 947) p105) i, fun i => congrFun (t_roA (a := 948) p106) i⟩
  rw [t_roI (a := 1) (k := 13) (x := nI wd) p1 rfl, nI_toInt (by omega)]
  omega
theorem N_fy_of {h : mj_H} (h0 : h 950 = .inr (13, r_fs 951 114 (va_up (fun _ => 0) 3 (-1)) (fun _ => 0))) (h1 : ∀ k, k < 114 → h (951 + k) = r_new k) : N_fy (t_rof h) := by
  refine ⟨fun k => ?_, fun q hq i => ?_⟩
  · show (match h 950 with | .inl (_, _, .inl f) => f k | .inr (_, fs) => (match fs[k]? with | some (.int x) => x | _ => 0) | _ => 0) = _
    rw [h0]
    show (match (r_fs 951 114 (va_up (fun _ => 0) 3 (-1)) (fun _ => 0))[k]? with | some (.int x) => x | _ => 0) = _
    by_cases hk : k < 190
    · rw [r_fs_at hk]
      by_cases e : k = 3
      · subst e; rfl
      · rw [if_neg e]
        generalize r_kl.getD k (0, 0) = p
        have e0 : va_up (fun _ => (0 : Int32)) 3 (-1) k = 0 := mj_up_ne _ _ e
        unfold r_val
        by_cases e2 : p.1 = 2
        · by_cases e3 : p.2 < 114
          · simp [e2, e3]
          · simp [e2, e3]
        · by_cases e1 : p.1 = 1
          · simp [e1]
          · simp [e2, e1, e0]
    · rw [List.getElem?_eq_none (by rw [r_fs_len]; omega), if_neg (by omega)]
  · have hn := h1 q hq
    unfold r_new at hn
    by_cases e2 : (r_al.getD q (0, 0)).1 = 2
    · rw [if_pos e2] at hn
      show (match h (951 + q) with | .inl (_, _, .inl f) => f i | .inr (_, fs) => (match fs[i]? with | some (.int x) => x | _ => 0) | _ => 0) = _
      rw [hn]
    · rw [if_neg e2] at hn
      rw [t_roA hn]
