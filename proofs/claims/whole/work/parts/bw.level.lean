/-! Level 2: exps on both sides: a level, from the one below. -/
/-- a level of exps reads alike -/
def LVs (k j lv dd : Nat) : Prop := ∀ P E EB PB IB xd l1 l2 kk tz ez pz lz wz mz sz cz rz u q m t e p l w o s i c r tb, xp P E u 0 0 q m t e p l w o s i dd c r → xb P EB PB IB u q t e p l w o s i dd → o + 16 ≤ 16 * dd → (if (0 : Int32) < l1 then l1 else (0 : Int32)) = xd → xd + 1 = nI dd → kk ≤ q → (tz ≤ t ∧ ez ≤ e ∧ pz ≤ p ∧ lz ≤ l ∧ mz ≤ m ∧ sz ≤ s) → l2_fr (xWc tz ez pz lz wz o) cz c → l2_fr (xWr mz sz) rz r → xw ez wz w c → tb_R wz w tb c → tb ≤ lv → t_hk ((R_X13_base (j + 12 - lv)).2.2.2.2.2.1 (nI lv) r) (lv_R P E lv (R_X6_readBase (k + 10)) l1 l2 kk tz ez pz lz wz mz sz cz rz u q m t e p l w o s i dd c r)
section
variable {P : pc_S} {E : en_S} {l1 l2 : Int32} {EB PB IB kk tz ez pz lz wz mz sz u d z q m t e p l w o s i dd : Nat} {cz rz c r : t_S} {rc : RT_X6_readBase} {rR : RT_X13_base}
theorem xp.q28 (X : xp P E u d z q m t e p l w o s i dd c r) : r.1 950 28 = nI q ∧ q ≤ 3000 := by
  obtain ⟨J, _⟩ := X
  obtain ⟨B, L, W0, W, V, sl, H, T, n, t0, mm⟩ := P
  exact ⟨J.2.2.2.2.2.2.1, J.2.2.2.2.2.2.2.1⟩
theorem lv_D.flt {f p0 w' : Nat} (h : xF f p0 tz ez pz lz wz o w' cz c) (hw : wz ≤ w') (hk : kk ≤ 3000) : lv_D rc l1 l2 kk f p0 tz ez pz lz wz o cz c := by
  intro N hN
  obtain ⟨N, rfl⟩ : ∃ a, N = a + 1 := ⟨N - 1, by omega⟩
  obtain ⟨z, e1, z1, rfl, z2, z3⟩ := h.exp60 (rc := rc) (k := nI kk) (Nat.le_refl _) hw l1 l2
  exact ⟨z1, l2_lpR e1, z3, z2⟩
theorem lv_C.flt {f p0 w' : Nat} (hB : ∀ x, bC (rc.2.2.2.2.2.2.2.1 x)) (h : xF f p0 tz ez pz lz wz o w' cz c) (hw : wz ≤ w') (hk : kk ≤ 3000) : lv_C rc l1 l2 kk f p0 tz ez pz lz wz o cz c := by
  intro N hN
  unfold exL
  exact l2_bd _ (hB _ _ _ _ _ _ _ _ _ _ _ _ h) (fun c1 h1 => lv_D.flt h1 hw hk N hN)
/-- the reference behind a fault: the level's loop -/
theorem xR.lvB {f p0 : Nat} {lv : Int32} (T : xT rR) {n' : Nat} {a : Int32} (h : xR P f p0 mz sz rz r) (hn : mz ≤ n' ∧ n' < 13000) (g : Int64) : t_hk (t_let (t_setJ r 957 n' g) (fun s1 => (f_X13_next s1).bind (fun r3 => (f_X13_hang (nI n') a r3).bind (fun r4 => (rR.2.2.2.2.2.1 (lv + (1 : Int32)) r4).bind (fun r5 => (f_X13_hang (nI n') r5.1 r5.2).bind (fun r6 => if lv = (2 : Int32) then (k_X13_level_109 rR lv (nI n') r6) else (if (f_X13_joins lv r6) = (0 : Int32) then (k_X13_level_109 rR lv (nI n') r6) else (k_X13_level_110 rR lv (nI n') 1 r6)))))))) (fun z => ∃ a' mo r', z = .inl (lv, a', mo, r') ∧ xR P f p0 mz sz rz r') := by
  have fin : ∀ r6, xR P f p0 mz sz rz r6 → t_hk (if lv = (2 : Int32) then (k_X13_level_109 rR lv (nI n') r6) else (if (f_X13_joins lv r6) = (0 : Int32) then (k_X13_level_109 rR lv (nI n') r6) else (k_X13_level_110 rR lv (nI n') 1 r6))) (fun z => ∃ a' mo r', z = .inl (lv, a', mo, r') ∧ xR P f p0 mz sz rz r') := fun r6 h6 => by
    unfold k_X13_level_109 k_X13_level_110
    exact l2_if (fun _ => l2_sm ⟨_, _, _, rfl, h6⟩) (fun _ => l2_if (fun _ => l2_sm ⟨_, _, _, rfl, h6⟩) (fun _ => l2_sm ⟨_, _, _, rfl, h6⟩))
  refine l2_lt (l2_bd _ (h.setJ (b := 957) ⟨by decide, by decide, hn.1⟩).next (fun r3 h3 => l2_eq (h3.hang _ _) (l2_eq ((T.1 r3 h3.ne).2.2.1 _) (l2_eq (h3.hang _ _) (fin r3 h3)))))
/-- .. from the sign on -/
theorem xR.lvC {f p0 : Nat} {lv : Int32} (T : xT rR) {n' : Nat} {a : Int32} (h : xR P f p0 mz sz rz r) : t_hk ((f_X13_hang (nI n') a r).bind (fun r4 => (rR.2.2.2.2.2.1 (lv + (1 : Int32)) r4).bind (fun r5 => (f_X13_hang (nI n') r5.1 r5.2).bind (fun r6 => if lv = (2 : Int32) then (k_X13_level_109 rR lv (nI n') r6) else (if (f_X13_joins lv r6) = (0 : Int32) then (k_X13_level_109 rR lv (nI n') r6) else (k_X13_level_110 rR lv (nI n') 1 r6)))))) (fun z => ∃ a' mo r', z = .inl (lv, a', mo, r') ∧ xR P f p0 mz sz rz r') := by
  have fin : ∀ r6, xR P f p0 mz sz rz r6 → t_hk (if lv = (2 : Int32) then (k_X13_level_109 rR lv (nI n') r6) else (if (f_X13_joins lv r6) = (0 : Int32) then (k_X13_level_109 rR lv (nI n') r6) else (k_X13_level_110 rR lv (nI n') 1 r6))) (fun z => ∃ a' mo r', z = .inl (lv, a', mo, r') ∧ xR P f p0 mz sz rz r') := fun r6 h6 => by
    unfold k_X13_level_109 k_X13_level_110
    exact l2_if (fun _ => l2_sm ⟨_, _, _, rfl, h6⟩) (fun _ => l2_if (fun _ => l2_sm ⟨_, _, _, rfl, h6⟩) (fun _ => l2_sm ⟨_, _, _, rfl, h6⟩))
  exact l2_eq (h.hang _ _) (l2_eq ((T.1 r h.ne).2.2.1 _) (l2_eq (h.hang _ _) (fin r h)))
end
/-- the lowest level -/
theorem lv_5 {k j dd : Nat} (hA : hA_R (k + 6) (j + 3) dd) : LVs k j 5 dd := by
  intro P E EB PB IB xd l1 l2 kk tz ez pz lz wz mz sz cz rz u q m t e p l w o s i c r tb X hb hod hl hx hkk hz fc fr hxw htb htl
  have ple := X.1.ple
  obtain ⟨c', y, e1, e2, Q⟩ := se_one hA hx hb hod X
  have eR : (R_X13_base (j + 12 - 5)).2.2.2.2.2.1 (nI 5) r = some y := by
    show m_X13_level (R_X13_base (j + 6)) (nI 5) r = _
    unfold m_X13_level
    rw [if_pos X.1.f0.2, if_pos (show nI 5 = (5 : Int32) from rfl)]
    show (m_X13_single (R_X13_base (j + 5)) r).bind _ = _
    rw [e2]
    rfl
  have eC : ∀ N k', exL (R_X6_readBase (k + 10)) l1 l2 wz N k' c = t_loop (b_X6_readExp_60 (R_X6_readBase (k + 10))) N (l1, l2, nI wz, nI k', c') := by
    intro N k'
    unfold exL
    rw [hl]
    show (m_X6_readOne (R_X6_readBase (k + 9)) xd c).bind _ = _
    rw [e1]
    rfl
  rw [eR]
  refine l2_sm ?_
  rcases Q with ⟨n, y1, G⟩ | ⟨f, p0, q1, q2⟩
  · have GG := G
    obtain ⟨u', q', m', t', e', p', l', s', i', G1, G2, X', _⟩ := GG
    obtain ⟨b, b5, eb, _, _⟩ := X'.1.jn
    refine Or.inl ⟨n, b, y1, b5, 0, c', c', q', fun N => eC N kk, G, lwT.nil, eb, rfl, (X'.1.mle (by decide)).2.2.2, ?_, (X'.1.mle (by decide)).2.2.1⟩
    unfold xk at G1
    omega
  · have h1 : xF f p0 tz ez pz lz wz o w cz c' := q1.lowW fc hz.1 hz.2.1 hz.2.2.1 hz.2.2.2.1 (Nat.le_refl _) htb.1 hxw
    refine Or.inr (Or.inl ⟨f, p0, fun N hN => ?_, q2.sub fr hz.2.2.2.2.1 hz.2.2.2.2.2⟩)
    rw [eC]
    exact lv_D.flt h1 htb.1 (by omega) N hN
