/-! Level 2: a statement, by its word. -/
/-- the reference's statement behind its line -/
noncomputable def stR (rc : RT_X13_block) (x3 v l : Int32) (s : t_S) : Option (Int32 × t_S) := if (0 : Int32) ≤ v then (if v = 61 then (k_X13_statement_67 rc l s) else (if v = 63 then (k_X13_statement_67 rc l s) else (if v = 64 then (k_X13_statement_67 rc l s) else ((f_X13_next s).bind (fun r3 => if v.toInt = 37 then (if t_ix l 401 = true then t_let (t_setI r3 988 (l.toNatClampNeg) (3 : Int32)) (fun s2 => (f_X13_exp s2).bind (fun r5 => t_let (t_setI r5.2 995 (l.toNatClampNeg) r5.1) (fun s3 => (rc.1 l (x3 + (1 : Int32)) s3).bind (fun r6 => t_let (t_setI r6.2 998 (l.toNatClampNeg) r6.1) (fun s4 => if (f_X13_isWord (38 : Int32) s4) = (0 : Int32) then (some (l, s4)) else ((f_X13_next s4).bind (fun r8 => (rc.1 l (x3 + (1 : Int32)) r8).bind (fun r9 => t_let (t_setI r9.2 999 (l.toNatClampNeg) r9.1) (fun s5 => some (l, s5)))))))))) else none) else if v.toInt = 39 then (if t_ix l 401 = true then t_let (t_setI r3 988 (l.toNatClampNeg) (4 : Int32)) (fun s6 => (f_X13_exp s6).bind (fun r11 => t_let (t_setI r11.2 995 (l.toNatClampNeg) r11.1) (fun s7 => (rc.1 l (x3 + (1 : Int32)) s7).bind (fun r12 => t_let (t_setI r12.2 998 (l.toNatClampNeg) r12.1) (fun s8 => some (l, s8)))))) else none) else if v.toInt = 49 then (if t_ix l 401 = true then t_let (t_setI r3 988 (l.toNatClampNeg) (10 : Int32)) (fun s9 => (rc.2.2.1 l (x3 + (1 : Int32)) s9).bind (fun r14 => t_let (t_setI r14.2 998 (l.toNatClampNeg) r14.1) (fun s10 => some (l, s10)))) else none) else ((f_X13_simple l v r3).bind (fun r15 => (f_X13_mustBe (59 : Int32) r15).bind (fun r16 => some (l, r16))))))))) else ((f_X13_assignment l s).bind (fun r17 => some (l, r17)))
theorem stR_eq (rc : RT_X13_block) (up x3 : Int32) (r : t_S) : m_X13_statement rc up x3 r = if (f_X13_beginsStatement r) = (0 : Int32) then ((f_X13_fail (2 : Int32) (r.1 950 6) r).bind (fun r18 => some ((0 : Int32), r18))) else (t_let (t_setI r 950 32 (0 : Int32)) (fun s1 => (f_X13_line (0 : Int32) up s1).bind (fun r2 => stR rc x3 (s1.1 950 10) r2.1 r2.2))) := rfl
section
variable {P : pc_S} {nt : Nat → Nat} {f n n' n2 n3 Y a g f2 p0 so K V d dd i ln : Nat} {L L' v : Nat → Nat} {ka up w3 w4 : Int32} {k k0 k' : Nat → Nat} {c0 r0 c r c1 r1 c' r' : t_S} {A B : Nat → Prop} {rcC : RT_X6_readAlts} {rcR : RT_X13_block}
theorem stR_simple (hs : smp i so K) (x3 l : Int32) (s : t_S) : stR rcR x3 (nI (pv i)) l s = (f_X13_next s).bind (fun r3 => (f_X13_simple l (nI (pv i)) r3).bind (fun y => (f_X13_mustBe 59 y).bind (fun r16 => some (l, r16)))) := by
  rcases hs with ⟨rfl, rfl, rfl⟩ | ⟨rfl, rfl, rfl⟩ | ⟨rfl, rfl, rfl⟩ | ⟨rfl, rfl, rfl⟩ | ⟨rfl, rfl, rfl⟩ | ⟨rfl, rfl, rfl⟩ | ⟨rfl, rfl, rfl⟩ | ⟨rfl, rfl, rfl⟩ | ⟨rfl, rfl, rfl⟩ | ⟨rfl, rfl, rfl⟩ | ⟨rfl, rfl, rfl⟩ | ⟨rfl, rfl, rfl⟩ | ⟨rfl, rfl, rfl⟩ | ⟨rfl, rfl, rfl⟩ <;> unfold stR <;> rw [if_pos (by decide), if_neg (by decide), if_neg (by decide), if_neg (by decide)] <;> refine congrArg (Option.bind _) (funext (fun r3 => ?_)) <;> rw [if_neg (by decide), if_neg (by decide), if_neg (by decide)]
theorem stR_if {x3 : Int32} (hl : ln < 400) (hd : x3 + 1 = nI d) (s : t_S) : stR rcR x3 (nI (pv 37)) (nI ln) s = (f_X13_next s).bind (if_R rcR (nI d) (nI 3) ln (if_R3 rcR (nI d) ln)) := by
  unfold stR
  rw [if_pos (by decide), if_neg (by decide), if_neg (by decide), if_neg (by decide)]
  refine congrArg (Option.bind _) (funext (fun r3 => ?_))
  rw [if_pos (by decide), if_pos (l2_ix (by omega) (by decide)), nI_clamp (n := ln) (by omega), hd]
  rfl
theorem stR_while {x3 : Int32} (hl : ln < 400) (hd : x3 + 1 = nI d) (s : t_S) : stR rcR x3 (nI (pv 39)) (nI ln) s = (f_X13_next s).bind (if_R rcR (nI d) (nI 4) ln (fun s => some (nI ln, s))) := by
  unfold stR
  rw [if_pos (by decide), if_neg (by decide), if_neg (by decide), if_neg (by decide)]
  refine congrArg (Option.bind _) (funext (fun r3 => ?_))
  rw [if_neg (by decide), if_pos (by decide), if_pos (l2_ix (by omega) (by decide)), nI_clamp (n := ln) (by omega), hd]
  rfl
theorem stR_alt {x3 : Int32} (hl : ln < 400) (hd : x3 + 1 = nI d) (s : t_S) : stR rcR x3 (nI (pv 49)) (nI ln) s = (f_X13_next s).bind (al_R rcR (nI d) ln) := by
  unfold stR
  rw [if_pos (by decide), if_neg (by decide), if_neg (by decide), if_neg (by decide)]
  refine congrArg (Option.bind _) (funext (fun r3 => ?_))
  rw [if_neg (by decide), if_neg (by decide), if_pos (by decide), if_pos (l2_ix (by omega) (by decide)), nI_clamp (n := ln) (by omega), hd]
  rfl
theorem stR_event (hi : i = 62 ∨ i = 64 ∨ i = 65) (hl : ln < 400) (x3 : Int32) (s : t_S) : stR rcR x3 (nI (pv i)) (nI ln) s = t_let (t_setI s 988 ln (nI 11)) (fun s => (f_X13_event (nI ln) s).bind (fun y => (f_X13_mustBe 59 y).bind (fun r16 => some (nI ln, r16)))) := by
  have e67 : k_X13_statement_67 rcR (nI ln) s = t_let (t_setI s 988 ln (nI 11)) (fun s => (f_X13_event (nI ln) s).bind (fun y => (f_X13_mustBe 59 y).bind (fun r16 => some (nI ln, r16)))) := by
    unfold k_X13_statement_67
    rw [if_pos (l2_ix (by omega) (by decide)), nI_clamp (n := ln) (by omega)]
    rfl
  unfold stR
  rcases hi with rfl | rfl | rfl
  · rw [if_pos (by decide), if_pos (by decide), e67]
  · rw [if_pos (by decide), if_neg (by decide), if_pos (by decide), e67]
  · rw [if_pos (by decide), if_neg (by decide), if_neg (by decide), if_pos (by decide), e67]
theorem stR_word {v : Int32} (hv : v < 0) (x3 l : Int32) (s : t_S) : stR rcR x3 v l s = (f_X13_assignment l s).bind (fun r17 => some (l, r17)) := by
  unfold stR
  rw [if_neg (fun h => by
    have a : (0 : Int32).toInt ≤ v.toInt := Int32.le_iff_toInt_le.mp h
    have b : v.toInt < (0 : Int32).toInt := Int32.lt_iff_toInt_lt.mp hv
    omega)]
/-- an event behind a fault, the reference -/
theorem yS.event (h : yS P f f2 p0 r0 r) (hl : ln < 400) : t_hk (f_X13_event (nI ln) r) (rS P f f2 p0 r0) := by
  have ix : t_ix (nI ln) 401 = true := l2_ix (by omega) (by decide)
  have w1 : ∀ {s : t_S}, yS P f f2 p0 r0 s → t_hk (f_X13_wordOf (nI ln) s) (yS P f f2 p0 r0) := fun hs => by
    rw [fw_W0 hl]
    exact hs.word (side := 0) (by decide)
  have go : ∀ l2 : Int32, t_hk (k_X13_event_45 (nI ln) l2 r) (rS P f f2 p0 r0) := fun l2 => by
    unfold k_X13_event_45
    refine l2_bd _ h.next (fun r1 h1 => ?_)
    have go89 : ∀ (x : Int32), t_hk (k_X13_event_89 (nI ln) l2 x (nI ln) r1) (rS P f f2 p0 r0) := fun x => by
      unfold k_X13_event_89
      rw [if_pos ix, nI_clamp (n := ln) (by omega)]
      refine l2_lt ?_
      have h2 := h1.set (b := 1000) (j := ln) (x := x) (by unfold mo_Wr; omega) (by omega)
      refine l2_bd _ (w1 h2) (fun r3 h3 => l2_if (fun _ => ?_) (fun _ => l2_sm h3.toR))
      rw [h3.templ, l2_bs]
      simp only [ix, if_true]
      exact l2_lt ((h3.set (b := 995) (j := ln) (x := 0) (by unfold mo_Wr; omega) (by omega)).fm (K := it_R ln) (fun r2 hr => hr.itR hl))
    refine l2_if (fun _ => l2_ck ix (l2_lt ?_)) (fun _ => l2_if (fun _ => go89 _) (fun _ => go89 _))
    rw [nI_clamp (n := ln) (by omega)]
    have h2 := h1.set (b := 1000) (j := ln) (x := 2) (by unfold mo_Wr; omega) (by omega)
    rw [h2.exp, l2_bs]
    exact l2_lt (l2_sm (h2.set (b := 995) (j := ln) (x := 0) (by unfold mo_Wr; omega) (by omega)).toR)
  have k16 : ∀ l2 : Int32, t_hk (k_X13_event_16 (nI ln) l2 r) (rS P f f2 p0 r0) := fun l2 => by
    unfold k_X13_event_16
    refine l2_if (fun _ => go l2) (fun _ => l2_if (fun _ => go l2) (fun _ => l2_if (fun _ => go l2) (fun _ => ?_)))
    rw [h.1.fail, l2_bs]
    exact l2_sm h.toR
  unfold f_X13_event
  exact l2_if (fun _ => k16 _) (fun _ => k16 _)
end
