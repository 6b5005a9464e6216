/-! Level 2: an event as a statement. -/
section
variable {P : pc_S} {nt : Nat → Nat} {f n n' n2 n3 Y a g f2 p0 so K V d i ln : Nat} {L L' v : Nat → Nat} {ka up w3 w4 : Int32} {k k0 k' : Nat → Nat} {c0 r0 c r c1 r1 c' r' : t_S} {A B : Nat → Prop}
/-- behind an event: its line's head -/
theorem cS.ev (hK : K = 11 ∨ K = 20) (S0 : fs P nt f n2 Y n L ka a g k0 c0 r0) (sn0 : sn n2 n3 f n (k0 9) (fun _ => True) (fun _ => True) k0 c0 r0 k c r) (m0 : mB False n2 n3 c0 c r (k0 6) (k 6) (k0 8) (k 8) (k0 2) (k 2) (k0 9) (k0 9)) (k9 : k 9 = k0 9 + 1) (k00 : k0 0 ≤ k 0) (hrow : rw_S c r f n (k0 9) so K V up (-1) (-1) ∨ (c.1 (445 + k0 9) 1 = -1 ∧ c.1 (445 + k0 9) 2 = up ∧ c.1 (445 + k0 9) 3 = -1 ∧ c.1 (445 + k0 9) 4 = -1 ∧ r.1 988 (k0 9) = nI K ∧ r.1 989 (k0 9) = -1 ∧ r.1 990 (k0 9) = up ∧ r.1 998 (k0 9) = -1 ∧ r.1 999 (k0 9) = -1 ∧ r.1 1001 (k0 9) = nI f ∧ r.1 1002 (k0 9) = nI n)) (gd : (c.1 (445 + k0 9) 11 = -1 ∧ r.1 997 (k0 9) = -1) ∨ sx_R n2 n3 (E_f f n v) c r (k 3) (k 4) (k 5) (k 6) (k 7) (k 2) (c.1 (445 + k0 9) 11) (r.1 997 (k0 9))) (h : fE P nt f n2 n3 Y n L v ka a g (k0 9) k c r c0 r0 c' r') : (∃ so V k', so < 30 ∧ V < 10 ∧ cS P nt f n2 n3 Y n v ka a g k0 c0 r0 so K V up (-1) (-1) n L k' c' r') ∨ ∃ f2 p0, zS f f2 p0 c0 c' ∧ rS P f f2 p0 r0 r' := by
  rcases h with ⟨so', V', hsv, c0', r1000, k', S', k'9, k'0, q, m, ev⟩ | h
  rotate_left
  · exact Or.inr h
  refine Or.inl ⟨so', V', k', by omega, by omega, ?_⟩
  have cc : ∀ j, j < 12 → ¬ (j = 0 ∨ (5 ≤ j ∧ j ≤ 10)) → c'.1 (445 + k0 9) j = c.1 (445 + k0 9) j := q.2.2.2.1
  have rr : ∀ x, 988 ≤ x → x ≤ 1002 → ¬ (x = 1000 ∨ (991 ≤ x ∧ x ≤ 996)) → r'.1 x (k0 9) = r.1 x (k0 9) := q.2.2.2.2.1
  obtain ⟨a1, a2, a3, a4, b0, b1, b2, b3, b4, b6, b7⟩ : c.1 (445 + k0 9) 1 = -1 ∧ c.1 (445 + k0 9) 2 = up ∧ c.1 (445 + k0 9) 3 = -1 ∧ c.1 (445 + k0 9) 4 = -1 ∧ r.1 988 (k0 9) = nI K ∧ r.1 989 (k0 9) = -1 ∧ r.1 990 (k0 9) = up ∧ r.1 998 (k0 9) = -1 ∧ r.1 999 (k0 9) = -1 ∧ r.1 1001 (k0 9) = nI f ∧ r.1 1002 (k0 9) = nI n := hrow.elim (fun ⟨_, a1, a2, a3, a4, b0, b1, b2, b3, b4, _, b6, b7⟩ => ⟨a1, a2, a3, a4, b0, b1, b2, b3, b4, b6, b7⟩) id
  have e88 : r'.1 988 (k0 9) = nI K := by rw [rr 988 (by decide) (by decide) (by omega)]; exact b0
  have no2 : ∀ x, k0 9 ≤ x → x < k0 9 + 1 → r'.1 988 x ≠ 2 := fun x x1 x2 y => by
    have e : x = k0 9 := by omega
    rw [e, e88] at y
    have := (nI_eq (b := 2) (by omega) (by decide)).mp y
    omega
  have o := q.1
  have o0 := sn0.1
  have mm : mB False n2 n3 c0 c' r' (k0 6) (k' 6) (k0 8) (k' 8) (k0 2) (k' 2) (k0 9) (k0 9 + 1) := ((m0.at q).wide no2).same m ⟨o0.2.2.2.2.2.2.1, o.2.2.2.2.2.2.1, o0.2.2.2.2.2.2.2.2.1, o.2.2.2.2.2.2.2.2.1, o0.2.2.1, o.2.2.1⟩ (sf_mL q.2.1)
  have sv : r'.1 1000 (k0 9) = sl_v V' := by
    rw [r1000]
    unfold sl_v
    rw [if_neg (by omega)]
  refine cS.mk S' (sn0.trans q) (k'9.trans k9) (by omega) mm ⟨c0', ?_, ?_, ?_, ?_, e88, ?_, ?_, ?_, ?_, sv, ?_, ?_⟩ (fun _ => ?_) ?_
  · rw [cc 1 (by decide) (by omega)]; exact a1
  · rw [cc 2 (by decide) (by omega)]; exact a2
  · rw [cc 3 (by decide) (by omega)]; exact a3
  · rw [cc 4 (by decide) (by omega)]; exact a4
  · rw [rr 989 (by decide) (by decide) (by omega)]; exact b1
  · rw [rr 990 (by decide) (by decide) (by omega)]; exact b2
  · rw [rr 998 (by decide) (by decide) (by omega)]; exact b3
  · rw [rr 999 (by decide) (by decide) (by omega)]; exact b4
  · rw [rr 1001 (by decide) (by decide) (by omega)]; exact b6
  · rw [rr 1002 (by decide) (by decide) (by omega)]; exact b7
  · rw [cc 11 (by decide) (by omega), rr 997 (by decide) (by decide) (by omega)]
    exact gd.elim Or.inl (fun z => Or.inr (z.fr q.2.1 q.2.2.1 sf_cp sf_cr q.2.2.2.2.2 (Nat.le_refl _) (Nat.le_refl _) ⟨o.2.2.2.1, o.2.2.2.2.1, o.2.2.2.2.2.1, o.2.2.2.2.2.2.1, o.2.2.2.2.2.2.2.1, o.2.2.1⟩))
  · rcases hK with rfl | rfl
    · exact Or.inr (Or.inr (Or.inr (Or.inr (Or.inr (Or.inr (Or.inr (Or.inr (Or.inl ⟨rfl, ev⟩))))))))
    · exact Or.inr (Or.inr (Or.inr (Or.inr (Or.inr (Or.inr (Or.inr (Or.inr (Or.inr (Or.inr (Or.inr (Or.inr (Or.inr (Or.inr (Or.inr (Or.inr ⟨rfl, ev⟩)))))))))))))))
/-- an event as a statement -/
theorem st_event (S0 : fs P nt f n2 Y n L ka a g k0 c0 r0) (h9 : k0 9 < 400) (S1 : fs P nt f n2 Y n L ka a g (ox k0) c1 r1) (h32 : r1.1 950 32 = 0) (hV : en_V n 1 L v) (hf : f < n3) (sn1 : ∀ n3, sn n2 n3 f n (k0 9) (fun _ => True) (fun _ => True) k0 c0 r0 (ox k0) c1 r1) (q1 : sq c0 c1) (op : op_R c1 r1 f n (k0 9) (nI so) up 0) (hu : up = -1 ∨ ∃ j, j < k0 9 ∧ up = nI j) (t : c1.1 1 8 = nI (200 + i)) (hi : i = 62 ∨ i = 64 ∨ i = 65) : t_h2 ((f_X6_readEvent (nI (k0 9)) c1).bind (fun x => (f_X2_need 59 x).bind (fun r1 => some (nI (k0 9), r1)))) (t_let (t_setI r1 988 (k0 9) (nI 11)) (fun s => (f_X13_event (nI (k0 9)) s).bind (fun y => (f_X13_mustBe 59 y).bind (fun r16 => some (nI (k0 9), r16))))) (so_O P nt f n2 n3 Y n L ka a g k0 c0 r0) := by
  refine cS_kind (n3 := n3) (Kn := 11) S1 h9 (sn1 n3) op h32 (fun r2 S2 sn2 op2 h322 => ?_)
  have b4 : k0 4 ≤ 2 * k0 1 + 2 * k0 9 := S0.1.2.2.2.2.2.2.2.2.2.1
  obtain ⟨⟨a1, a2, a3⟩, b1, b2, b3, b4', b5, b6, b7, b8, b9, b10, b11, b12, b13⟩ := op2
  have J : eJ P nt f n2 n3 Y n L v ka a g (k0 9) 11 (ox k0) c1 r2 c0 r0 := ⟨S2, h322, hV, h9, hf, sn2.mc l2_fr.rf, sn2.mr l2_fr.rf, ⟨a3 5 (by decide) (by decide) (by decide), a3 7 (by decide) (by decide) (by decide), a3 10 (by decide) (by decide) (by decide), b1, b5, b7, b12⟩, show k0 4 + 2 ≤ 2 * k0 1 + 2 * (k0 9 + 1) by omega, Or.inl rfl⟩
  refine h2_bb _ (J.event t hi) (fun x y hxy => ?_)
  have hE := cS.ev (n3 := n3) (v := v) (so := 0) (V := 0) (up := up) (Or.inl rfl) S0 sn2 (mB.nil q1.1 q1.2.1 q1.2.2 _ _ _ _) rfl (Nat.le_refl _) (Or.inr ⟨a3 1 (by decide) (by decide) (by decide), a2, a3 3 (by decide) (by decide) (by decide), a3 4 (by decide) (by decide) (by decide), b1, b2, b3, b9, b10, b12, b13⟩) (Or.inl ⟨a3 11 (by decide) (by decide) (by decide), b8⟩) hxy
  rcases hE with ⟨so', V', k', hso, hV', h'⟩ | ⟨f2, p0, z, y⟩
  rotate_left
  · obtain ⟨y1, e, h1⟩ := y.mb (x := 59) (by unfold rj_no; decide)
    rw [z.1.need (by decide), e, l2_bs, l2_bs]
    exact h2_sm (Or.inr ⟨f2, p0, z, h1⟩)
  refine h2_bb _ (pj_need h'.1.1.1 (by decide) (x := 59) (by decide) rfl) (fun c' r' hw => h2_sm ?_)
  obtain ⟨y1, y2, y3⟩ := hw
  rcases y3 with J' | ⟨f2, p0, y3, y4⟩
  · have S3 := (h'.1.la (n2 := n2) (n3 := n3) (ln := 0) (A := fun _ => False) (B := fun _ => False) (k' := nx k') (by decide) rfl ⟨rfl, rfl, rfl, rfl, rfl, rfl, rfl, rfl, rfl⟩ J' y1 y2).1
    exact (h'.la S3 y1 y2).out S0 hV hf ⟨hso, by decide, hV'⟩ hu
  · exact Or.inr ⟨f2, p0, h'.1.z y3 y1 h'.mc, h'.1.y y4 y2 h'.mr⟩
end
