/-! Level 2: tones on both sides: a word and ( templs ). -/
theorem wt94r {rc : RT_X13_base} {l1 K : Int32} {s : t_S} (h : l1 = 24 ∨ l1 = 25 ∨ l1 = 27 ∨ l1 = 28) : k_X13_wordTone_94 rc l1 K s = (f_X13_node K 1 s).bind (fun r1 => (f_X13_next r1.2).bind (fun r2 => k_X13_wordTone_182 rc r1.1 r2)) := by
  unfold k_X13_wordTone_94
  cases f_X13_node K 1 s with
  | none => rfl
  | some r1 =>
    show (if (0 : Int32) ≤ l1 then _ else _) = (f_X13_next r1.2).bind _
    have p0 : (0 : Int32) ≤ l1 := by rcases h with rfl | rfl | rfl | rfl <;> decide
    rw [if_pos p0]
    unfold k_X13_wordTone_125
    cases f_X13_next r1.2 with
    | none => rfl
    | some r2 =>
      show (if l1 = (26 : Int32) then _ else _) = k_X13_wordTone_182 rc r1.1 r2
      rcases h with rfl | rfl | rfl | rfl
      · rw [if_neg (by decide), if_pos (by decide)]
      · rw [if_neg (by decide), if_neg (by decide), if_pos (by decide)]
      · rw [if_neg (by decide), if_neg (by decide), if_neg (by decide), if_neg (by decide)]
      · rw [if_neg (by decide), if_neg (by decide), if_neg (by decide), if_neg (by decide)]
/-- the words, their kinds -/
def rw_w (W K C : Nat) : Prop := (W = 24 ∧ K = 32 ∧ C = 11) ∨ (W = 25 ∧ K = 33 ∧ C = 12) ∨ (W = 27 ∧ K = 36 ∧ C = 15) ∨ (W = 28 ∧ K = 37 ∧ C = 16)
section
variable {P : pc_S} {E : en_S} {lv x : Int32} {EB PB IB u q m t e p l w o s i dd : Nat} {c r : t_S} {rc rc2 rc3 rc4 rc5 : RT_X6_readBase} {rR rR2 rR3 : RT_X13_base}
noncomputable def rowWC (rc : RT_X6_readBase) (t C : Nat) (x lv : Int32) (c : t_S) : Option (Int32 × Int32 × t_S) := (f_X2_need 40 c).bind (fun z => rowC rc t C x lv z)
noncomputable def rowWR (rR : RT_X13_base) (n : Int32) (r : t_S) : Option (Int32 × t_S) := (f_X13_mustBe 40 r).bind (fun r4 => rowR rR n r4)
theorem wt182 (hTs : ∀ a b s, rR2.2.2.2.2.2.2.2.2.1 a b s = m_X13_templs rR3 a b s) (n : Int32) (s : t_S) : k_X13_wordTone_182 rR2 n s = rowWR rR3 n s := by
  unfold k_X13_wordTone_182 rowWR rowR
  congr 1
  funext r1
  rw [hTs]
theorem rww_cls {C : Nat} (hW : ∀ a b d g s, rc2.2.2.2.2.2.2.2.2.2.2.1 a b d g s = m_X6_readRow rc5 a b d g s) (hI : ∀ a b d g s, rc5.2.2.2.2.2.1 a b d g s = m_X6_readInner rc3 a b d g s) (c3 : t_S) : ((rc2.2.2.2.2.2.2.2.2.2.2.1 (nI t) (nI C) x lv c3).bind (fun r3 => some r3)).bind (fun r3 => some (nI t, (1 : Int32), r3)) = rowWC rc3 t C x lv c3 := by
  rw [hW]
  unfold m_X6_readRow rowWC
  cases f_X2_need 40 c3 with
  | none => rfl
  | some r1 =>
    simp only [l2_bs]
    rw [hI]
    unfold rowC
    cases m_X6_readInner rc3 (nI t) (nI C) x lv r1 <;> rfl
theorem xF.rowWC {f p0 w' C : Nat} {c0 c1 : t_S} (hB : ∀ x y, bC2 (rc.2.2.2.2.2.2.2.2.2.2.2.2.2.1 x y)) (ht : t < 6100) (h : xF f p0 t e p l w o w' c0 c1) : t_hk (rowWC rc t C x lv c1) (fun z => z.1 = nI t ∧ z.2.1 = 1 ∧ xF f p0 t e p l w o w' c0 z.2.2) := l2_eq (h.stay.2.2.1 40 (by decide)).1 (h.rowC hB ht)
theorem xR.rowWR {f p0 : Nat} {r0 r1 : t_S} {n : Int32} (h : xR P f p0 m s r0 r1) : t_hk (rowWR rR n r1) (fun z => z.1 = n ∧ xR P f p0 m s r0 z.2) := l2_bd _ (h.mustBe _) (fun r2 h2 => h2.rowR)
/-- a word, ( templs ) -/
theorem tn_rows {W K C : Nat} (hwk : rw_w W K C) (hC : ∀ a b d s, rc.2.2.2.2.2.2.2.2.2.2.2.2.2.2.2 a b d s = m_X6_readTone rc2 a b d s) (hRt : ∀ s, rR.2.2.2.2.2.2.2.2.2.2.2 s = m_X13_wordTone rR2 s) (hW : ∀ a b d g s, rc2.2.2.2.2.2.2.2.2.2.2.1 a b d g s = m_X6_readRow rc5 a b d g s) (hI : ∀ a b d g s, rc5.2.2.2.2.2.1 a b d g s = m_X6_readInner rc3 a b d g s) (hTs : ∀ a b s, rR2.2.2.2.2.2.2.2.2.1 a b s = m_X13_templs rR3 a b s) (hT : hT_R rc3 rR3 dd) (hx : x + 1 = nI dd) (hTC : ∀ a b s, rc3.2.2.2.2.2.2.2.2.2.2.2.2.2.1 a b s = m_X6_readTempl rc4 a b s) (hB : ∀ x y, bC2 (rc3.2.2.2.2.2.2.2.2.2.2.2.2.2.1 x y)) (hR : xT rR3) (X : xp P E u 0 0 q m t e p l w o s i dd c r) (hb : xb P EB PB IB u q t e p l w o s i dd) (h : c.1 1 8 = nI (200 + W)) : t_h2 (tcC rc lv x c) (m_X13_tone rR r) (tO_R P E lv u q m t e p l w o s i dd c r) := by
  have hb' := hb
  unfold xb at hb'
  have ple := X.1.ple
  have pvW : pv W = W := by rcases hwk with ⟨rfl, _⟩ | ⟨rfl, _⟩ | ⟨rfl, _⟩ | ⟨rfl, _⟩ <;> decide
  have h10 : r.1 950 5 = 1 ∧ r.1 950 10 = nI W := by
    rcases X.1.isW (x := W) (by unfold rw_w at hwk; omega) with ⟨_, b⟩ | ⟨b, _⟩
    · unfold f_X13_isWord at b
      by_cases z : r.1 950 5 = 1
      · rw [if_pos z, pvW] at b
        by_cases z2 : r.1 950 10 = nI W
        · exact ⟨z, z2⟩
        · rw [if_neg z2] at b; exact absurd b (by decide)
      · rw [if_neg z] at b; exact absurd b (by decide)
    · exact absurd h b
  have bs : ∀ s : t_S, (rR.2.2.2.2.2.2.2.2.2.2.2 s).bind (fun r5 => some (r5.1, r5.2)) = rR.2.2.2.2.2.2.2.2.2.2.2 s := fun s => by cases rR.2.2.2.2.2.2.2.2.2.2.2 s <;> rfl
  have eR : m_X13_tone rR r = (f_X13_node (nI K) 1 r).bind (fun r1 => (f_X13_next r1.2).bind (fun r2 => rowWR rR3 r1.1 r2)) := by
    have e182 : (fun (r1 : Int32 × t_S) => (f_X13_next r1.2).bind (fun r2 => k_X13_wordTone_182 rR2 r1.1 r2)) = (fun r1 => (f_X13_next r1.2).bind (fun r2 => rowWR rR3 r1.1 r2)) := by
      funext r1
      congr 1
      funext r2
      exact wt182 hTs _ _
    unfold m_X13_tone
    rw [if_pos h10.1, bs, hRt]
    unfold m_X13_wordTone
    rw [h10.2]
    rcases hwk with ⟨rfl, rfl, _⟩ | ⟨rfl, rfl, _⟩ | ⟨rfl, rfl, _⟩ | ⟨rfl, rfl, _⟩
    · rw [if_pos (by decide), if_neg (by decide), if_neg (by decide), if_neg (by decide), if_pos (by decide), wt94r (l1 := nI 24) (Or.inl rfl), e182]
      rfl
    · rw [if_pos (by decide), if_neg (by decide), if_neg (by decide), if_neg (by decide), if_neg (by decide), if_pos (by decide), wt94r (l1 := nI 25) (Or.inr (Or.inl rfl)), e182]
      rfl
    · rw [if_pos (by decide), if_neg (by decide), if_neg (by decide), if_neg (by decide), if_neg (by decide), if_neg (by decide), if_neg (by decide), if_pos (by decide), wt94r (l1 := nI 27) (Or.inr (Or.inr (Or.inl rfl))), e182]
      rfl
    · rw [if_pos (by decide), if_neg (by decide), if_neg (by decide), if_neg (by decide), if_neg (by decide), if_neg (by decide), if_neg (by decide), if_neg (by decide), wt94r (l1 := nI 28) (Or.inr (Or.inr (Or.inr rfl))), e182]
      rfl
  rw [eR]
  have hpx : px_row K C ∧ K ≠ 39 ∧ 20 ≤ K ∧ K ≤ 41 := by unfold rw_w at hwk; unfold px_row; omega
  refine tn_mk (K := K) X hb hpx.2.2 (fun f p0 j r1 z1 z2 z3 _ _ => ?_) (fun c2 r2 S => ?_)
  · exact l2_bd _ z1.next (fun r2 hr => l2_imp hr.rowWR (fun y hy => ⟨⟨j, z2, z3, hy.1⟩, hy.2⟩))
  rw [hC]
  have S' := S
  obtain ⟨ht, hm, hq, X2, g1, g2, ta, nd, d8⟩ := S
  have e8 : c2.1 1 8 = nI (200 + W) := by rw [(g1 1 8 (by unfold tm_W; omega)).1]; exact h
  have n14 : c2.1 1 8 ≠ 1 ∧ c2.1 1 8 ≠ 4 := by
    rw [e8]
    refine ⟨fun y => ?_, fun y => ?_⟩
    · have := (nI_eq (b := 1) (by unfold rw_w at hwk; omega) (by decide)).mp y; omega
    · have := (nI_eq (b := 4) (by unfold rw_w at hwk; omega) (by decide)).mp y; omega
  have eC : (m_X6_readTone rc2 (nI t) x lv c2).bind (fun r3 => some (nI t, (1 : Int32), r3)) = (f_X2_advance c2).bind (fun c3 => rowWC rc3 t C x lv c3) := by
    have fn : (fun c3 => rowWC rc3 t C x lv c3) = (fun c3 => ((rc2.2.2.2.2.2.2.2.2.2.2.1 (nI t) (nI C) x lv c3).bind (fun r3 => some r3)).bind (fun r3 => some (nI t, (1 : Int32), r3))) := by
      funext c3
      exact (rww_cls hW hI c3).symm
    rw [fn]
    unfold m_X6_readTone
    rw [e8]
    rcases hwk with ⟨rfl, rfl, rfl⟩ | ⟨rfl, rfl, rfl⟩ | ⟨rfl, rfl, rfl⟩ | ⟨rfl, rfl, rfl⟩
    all_goals
      rw [if_neg (by decide), if_neg (by decide), if_neg (by decide), if_neg (by decide), if_neg (by decide), if_neg (by decide), if_neg (by decide), if_neg (by decide), if_neg (by decide)]
      unfold k_X6_readTone_310
      rw [Option.bind_assoc]
      refine congrArg (Option.bind (f_X2_advance c2)) (funext fun c3 => ?_)
    · rw [if_neg (by decide), if_neg (by decide), if_neg (by decide), if_neg (by decide), if_neg (by decide), if_pos (by decide)]
      rfl
    · rw [if_neg (by decide), if_neg (by decide), if_neg (by decide), if_neg (by decide), if_neg (by decide), if_neg (by decide), if_pos (by decide)]
      rfl
    · rw [if_neg (by decide), if_neg (by decide), if_neg (by decide), if_neg (by decide), if_neg (by decide), if_neg (by decide), if_neg (by decide), if_neg (by decide), if_pos (by decide)]
      rfl
    · rw [if_neg (by decide), if_neg (by decide), if_neg (by decide), if_neg (by decide), if_neg (by decide), if_neg (by decide), if_neg (by decide), if_neg (by decide), if_neg (by decide), if_pos (by decide)]
      rfl
  rw [eC]
  have join : ∀ {f p0 : Nat} {z : Int32 × Int32 × t_S} {y : Int32 × t_S}, (z.1 = nI t ∧ z.2.1 = 1 ∧ xF f p0 t e p l w o w c z.2.2) → (y.1 = nI m ∧ xR P f p0 m s r y.2) → tO_R P E lv u q m t e p l w o s i dd c r z y := fun hz hy => Or.inr ⟨⟨m, Nat.le_refl _, by omega, hy.1⟩, Or.inr ⟨hz.1, hz.2.1⟩, _, _, hz.2.2, hy.2⟩
  refine h2_bb _ (xp_adv X2 (by decide) (Or.inr n14.1) n14.2) (fun c3 r3 hw => ?_)
  obtain ⟨w1, w2, w3⟩ := hw
  rcases w3 with ⟨X3, l1, l2⟩ | ⟨f, p0, y1, y2⟩
  rotate_left
  · have hF : xF f p0 t e p l w o w c c3 := xF.of X2 (by omega) (by omega) ⟨Nat.le_refl _, by omega⟩ ⟨Nat.le_refl _, Nat.le_refl _⟩ S'.fc.1 w1 (fun b j z => x_la z) ⟨by unfold la_W; omega, by unfold la_W; omega, by unfold la_W; omega⟩ (fun j => by unfold la_W; omega) y1 xw.nil
    have hR' : xR P f p0 m s r r3 := (xR.of X2.1 (by decide) w2 y2 (s := s)).sub S'.fc.2 (by omega) (Nat.le_refl _)
    exact h2_sep _ _ (hF.rowWC hB ht) hR'.rowWR (fun z y hz hy => join hz hy)
  unfold rowWC rowWR
  refine h2_bb _ (xp_need X3 (by decide) (x := 40) (by decide) rfl) (fun c4 r4 hw => ?_)
  obtain ⟨v1, v2, v3⟩ := hw
  have fc4 : l2_fr la_W c2 c4 := w1.trans v1
  have fr4 : l2_fr rn_W r2 r4 := w2.trans v2
  rcases v3 with ⟨X4, l3, l4⟩ | ⟨f, p0, y1, y2⟩
  rotate_left
  · have hF : xF f p0 t e p l w o w c c4 := xF.of X3 (by omega) (by omega) ⟨Nat.le_refl _, by omega⟩ ⟨Nat.le_refl _, Nat.le_refl _⟩ (S'.fc.1.trans (w1.mono (fun b j y => x_la y))) v1 (fun b j z => x_la z) ⟨by unfold la_W; omega, by unfold la_W; omega, by unfold la_W; omega⟩ (fun j => by unfold la_W; omega) y1 xw.nil
    have hR' : xR P f p0 m s r r4 := (xR.of X3.1 (by decide) v2 y2 (s := s)).sub (S'.fc.2.trans (w2.mono (fun b j y => x_rn y))) (by omega) (Nat.le_refl _)
    exact h2_sep _ _ (hF.rowC hB ht) hR'.rowR (fun z y hz hy => join hz hy)
  exact row_go hb S' (by omega) X4 fc4 fr4 hpx.1 hpx.2.1 hT hx hTC hB hR
end
