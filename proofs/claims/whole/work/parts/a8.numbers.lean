/-! Level 2: tones on both sides: a TEXT, a pattern, a number, a WORD. -/
section
variable {P : pc_S} {E : en_S} {lv x : Int32} {EB PB IB u q m t e p l w o s i dd : Nat} {c r : t_S} {rc rc2 : RT_X6_readBase} {rR : RT_X13_base}
/-- a TEXT taken in on both sides, at a made node -/
theorem tn_text {K d z u1 : Nat} {c2 r2 : t_S} (hb : xb P EB PB IB u q t e p l w o s i dd) (hpu : pc_p P u ≤ pc_p P u1) (hq : q < 3000) (hm : m < 12999) (X : xp P E u1 d z (q + 1) (m + 1) (t + 1) e p l w o s (i + 1) dd c2 r2) (h3 : c2.1 1 8 = 3) (hK : r2.1 955 m = nI K) : ∃ p1 s1, p ≤ p1 ∧ 2 * p1 + pc_p P u1 ≤ 2 * p + pc_p P (u1 + 1) + 1 ∧ s ≤ s1 ∧ s1 + pc_p P u1 ≤ s + pc_p P (u1 + 1) ∧ pc_p P u1 < pc_p P (u1 + 1) ∧ p + 10 < 26000 ∧ t_hk (f_X6_poolText c2) (fun y => y.1 = nI p ∧ l2_fr (fun b j => (b = 334 ∧ j = 4) ∨ (b = 337 ∧ p ≤ j)) c2 y.2 ∧ y.2.1 334 4 = nI p1 ∧ f_X8_kind (y.2.2.1 337 p) y.2 = 2 ∧ t_hk (f_X13_keepText (nI m) r2) (fun r3 => l2_fr (fun b j => ((b = 957 ∨ b = 958) ∧ j = m) ∨ (b = 963 ∧ s ≤ j) ∨ (b = 950 ∧ j = 36)) r2 r3 ∧ r3.1 950 36 = nI s1 ∧ px_T y.2 r3 p1 s1 p m)) := by
  have ple := X.1.ple
  have hb' := hb
  unfold xb at hb'
  obtain ⟨v, B, v1, v2, v3, v4, v5, v6⟩ := X.1.text h3
  have cle := X.1.cle
  refine ⟨p + 1 + (v + 7) / 8, s + v, by omega, by omega, by omega, by omega, by omega, by omega, ?_⟩
  refine l2_imp (pl_text (B := B) X.2.2.2.2.1 (by omega) v1 cle.2.1 v2 (by omega) (fun j hj => ⟨(v4 j hj).1, (v4 j hj).2.1, (v4 j hj).2.2.1⟩)) (fun y hy => ?_)
  obtain ⟨y1, y2, y3, y4, y5⟩ := hy
  refine ⟨y1, y2, y3, by rw [vl_kind y4]; rfl, ?_⟩
  refine l2_imp (kt_text (B := B) X.2.2.2.2.2.2.2.2.1 (by omega) (by omega) v1 cle.2.2.1 v3 X.1.f0.2 (by omega) (fun j hj => (v4 j hj).2.2.2)) (fun r3 hr => ?_)
  obtain ⟨z1, z2, z3, z4, z5⟩ := hr
  exact ⟨z1, z2, px_T.mk v1 (fun j hj => ⟨(v4 j hj).1, (v4 j hj).2.1⟩) z3 z4 (Nat.le_refl _) (Nat.le_refl _) z5 y4 y5⟩
/-- the TEXT's last step, the class's node tells kind C -/
theorem tn_textfin {K d u1 p1 s1 : Nat} {c2 r2 c3 r3 c4 : t_S} {k : Int32} (hb : xb P EB PB IB u q t e p l w o s i dd) (S : sG P E lv K u q m t e p l w o s i dd c r c2 r2) (hu : u ≤ u1) (hpu : pc_p P u ≤ pc_p P u1 ∧ pc_c P u ≤ pc_c P u1) (hK : K = 26 ∧ k = 4 ∨ K = 35 ∧ k = 14) {c2' r2' : t_S} (gc : l2_fr la_W c2 c2') (gr : l2_fr rn_W r2 r2') (X : xp P E u1 d 1 (q + 1) (m + 1) (t + 1) e p l w o s (i + 1) dd c2' r2') (h3 : c2'.1 1 8 = 3) (hp : p ≤ p1 ∧ 2 * p1 + pc_p P u1 ≤ 2 * p + pc_p P (u1 + 1) + 1) (hs : s ≤ s1 ∧ s1 + pc_p P u1 ≤ s + pc_p P (u1 + 1)) (f3 : l2_fr (fun b j => (b = 334 ∧ j = 4) ∨ (b = 337 ∧ p ≤ j)) c2' c3) (h34 : c3.1 334 4 = nI p1) (f4 : l2_fr (fun b j => (b = 354 ∨ b = 357) ∧ j = t) c3 c4) (g3 : l2_fr (fun b j => ((b = 957 ∨ b = 958) ∧ j = m) ∨ (b = 963 ∧ s ≤ j) ∨ (b = 950 ∧ j = 36)) r2' r3) (h36 : r3.1 950 36 = nI s1) (T : px_T c3 r3 p1 s1 p m) (hk : c4.1 354 t = k) (h57 : c4.1 357 t = nI p) : t_h2 ((f_X2_advance c4).bind (fun r3 => some (nI t, (1 : Int32), r3))) ((f_X13_next r3).bind (fun r4 => some (nI m, r4))) (tO_R P E lv u q m t e p l w o s i dd c r) := by
  obtain ⟨ht, hm, hq, X0, g1, g2, ⟨t1, t2, t3, t4, t5, t6, t7, t8, t9⟩, ⟨d1, d2, d3, d4, d5, d6, d7⟩, d8⟩ := S
  have hb' := hb
  unfold xb at hb'
  have fc : l2_fr (fun b j => la_W b j ∨ ((b = 354 ∨ b = 357) ∧ j = t) ∨ (b = 334 ∧ j = 4) ∨ (b = 337 ∧ p ≤ j)) c2 c4 := ((gc.mono (fun b j y => Or.inl y)).trans (f3.mono (fun b j y => Or.inr (Or.inr y)))).trans (f4.mono (fun b j y => Or.inr (Or.inl y)))
  have fr : l2_fr (fun b j => rn_W b j ∨ ((b = 957 ∨ b = 958) ∧ j = m) ∨ (b = 963 ∧ s ≤ j) ∨ (b = 950 ∧ j = 36)) r2 r3 := (gr.mono (fun b j y => Or.inl y)).trans (g3.mono (fun b j y => Or.inr y))
  have e8 : c4.1 1 8 = 3 := by rw [(f4 1 8 (by omega)).1, (f3 1 8 (by omega)).1]; exact h3
  have X3 : xp P E u1 d 1 (q + 1) (m + 1) (t + 1) e p1 l w o s1 (i + 1) dd c4 r3 := by
    obtain ⟨x1, x2, x3, x4, x5, x6, x7, x8, x9, x10, x11⟩ := X
    have ff : l2_fr (fun b j => ((b = 354 ∨ b = 357) ∧ j = t) ∨ (b = 334 ∧ j = 4) ∨ (b = 337 ∧ p ≤ j)) c2' c4 := (f3.mono (fun b j y => Or.inr y)).trans (f4.mono (fun b j y => Or.inl y))
    refine ⟨x1.fr ff g3 (fun j => by omega) (fun b i _ _ => by omega) (fun b i _ _ => by omega) (by omega) (fun j _ => by omega) (fun b i _ _ => by omega), x2.fr ff g3 (fun j _ _ => by omega) (fun b i _ _ => by omega) ⟨by omega, by omega⟩, ?_, ?_, by rw [(f4 334 4 (by omega)).1]; exact h34, ?_, ?_, ?_, h36, ?_, ?_⟩
    · rw [(ff 353 9 (by omega)).1]; exact x3
    · rw [(ff 334 2 (by omega)).1]; exact x4
    · rw [(ff 846 6 (by omega)).1]; exact x6
    · rw [(ff 845 7 (by omega)).1]; exact x7
    · rw [(ff 845 9 (by omega)).1]; exact x8
    · rw [(g3 950 26 (by omega)).1]; exact x10
    · rw [(g3 950 32 (by omega)).1]; exact x11
  have aC : ∀ b, 358 ≤ b → b ≤ 360 → c4.1 b t = c2.1 b t := fun b x y => (fc b t (by unfold la_W; omega)).1
  have aR : ∀ b, 955 ≤ b → b ≤ 962 → b ≠ 957 → b ≠ 958 → r3.1 b m = r2.1 b m := fun b x y z1 z2 => (fr b m (by unfold rn_W; omega)).1
  have cle := pc_c_le P u1
  have k5 : r3.1 955 m = nI K := by rw [aR 955 (by decide) (by decide) (by decide) (by decide)]; exact d1
  refine tn_fin (u1 := u1) hb (Or.inr (by rw [e8]; decide)) (by rw [e8]; decide) X3 hu ⟨Nat.le_refl _, by omega⟩ ⟨hp.1, by omega⟩ ⟨Nat.le_refl _, by omega⟩ ⟨hs.1, by omega⟩ hpu.1 hpu.2 ((g1.mono (fun b j y => sG.w y)).trans (fc.mono (fun b j y => ?_))) ((g2.mono (fun b j y => xn_r y)).trans (fr.mono (fun b j y => ?_))) (Or.inl ⟨rfl, by rw [aR 959 (by decide) (by decide) (by decide) (by decide)]; exact d5, Or.inr (Or.inr (Or.inr (Or.inr (Or.inr ⟨?_, p, h57, ?_⟩))))⟩) (xD.plain (K := K) k5 (by omega) (by omega) ?_ ?_ (fun _ => ⟨by rw [aR 962 (by decide) (by decide) (by decide) (by decide)]; exact d8, by omega⟩)) ?_ ?_ (by rw [aC 358 (by decide) (by decide)]; exact t5) (by rw [aC 359 (by decide) (by decide)]; exact t6) ⟨by rw [aC 360 (by decide) (by decide)]; exact t7, by rw [(fc 356 t (by unfold la_W; omega)).1]; exact t3⟩
  · rcases y with y | ⟨y, rfl⟩ | ⟨rfl, rfl⟩ | ⟨rfl, y⟩
    · exact x_la y
    · exact xWc.itm (by omega) (by omega) (Nat.le_refl _)
    · exact xWc.i334 (Or.inr rfl)
    · exact xWc.ipl y
  · rcases y with y | ⟨y, rfl⟩ | ⟨rfl, y⟩ | ⟨rfl, rfl⟩
    · exact x_rn y
    · exact Or.inr (Or.inr (Or.inl ⟨by omega, by omega, Nat.le_refl _⟩))
    · exact Or.inr (Or.inr (Or.inr (Or.inl ⟨rfl, y⟩)))
    · exact Or.inl ⟨rfl, by omega⟩
  · rw [k5, hk]
    rcases hK with ⟨rfl, rfl⟩ | ⟨rfl, rfl⟩
    · exact Or.inl ⟨rfl, rfl⟩
    · exact Or.inr ⟨rfl, rfl⟩
  · obtain ⟨v, s0, B, a1, a2, a3, a4, a5, a6, a7, a8⟩ := T
    exact ⟨v, s0, B, a1, a2, a3, a4, a5, a6, by rw [(f4 337 p (by omega)).2.1]; exact a7, fun q hq => by rw [(f4 337 _ (by omega)).2.1]; exact a8 q hq⟩
  · rw [(fc 846 7 (by unfold la_W; omega)).1, (g1 846 7 (by unfold tm_W; omega)).1]
  · rw [(fc 846 8 (by unfold la_W; omega)).1, (g1 846 8 (by unfold tm_W; omega)).1]
  · rw [aR 960 (by decide) (by decide) (by decide) (by decide)]; exact d6
  · rw [aR 961 (by decide) (by decide) (by decide) (by decide)]; exact d7
/-- a TEXT -/
theorem tn_txt (hC : ∀ a b d s, rc.2.2.2.2.2.2.2.2.2.2.2.2.2.2.2 a b d s = m_X6_readTone rc2 a b d s) (X : xp P E u 0 0 q m t e p l w o s i dd c r) (hb : xb P EB PB IB u q t e p l w o s i dd) (h : c.1 1 8 = 3) : t_h2 (tcC rc lv x c) (m_X13_tone rR r) (tO_R P E lv u q m t e p l w o s i dd c r) := by
  have h5 := (X.1.sort.2.2.1).mp h
  have eR : m_X13_tone rR r = (f_X13_node (nI 26) 1 r).bind (fun r2 => (f_X13_keepText r2.1 r2.2).bind (fun r3 => (f_X13_next r3).bind (fun r4 => some (r2.1, r4)))) := by
    unfold m_X13_tone
    rw [h5, if_neg (by decide), if_pos rfl]
    rfl
  rw [eR]
  refine tn_mk X hb (by decide) (fun f p0 j r1 z1 z2 z3 _ _ => l2_bd _ (z1.keepText z2 z3) (fun r2 hr => nxF hr z2 z3)) (fun c2 r2 S => ?_)
  rw [hC]
  have S' := S
  obtain ⟨ht, hm, hq, X2, g1, g2, ta, nd, d8⟩ := S
  have e8 : c2.1 1 8 = 3 := by rw [(g1 1 8 (by unfold tm_W; omega)).1]; exact h
  obtain ⟨p1, s1, a1, a2, a3, a4, a5, a6, a7⟩ := tn_text hb (Nat.le_refl _) hq hm X2 e8 nd.1
  unfold m_X6_readTone
  rw [e8, if_neg (by decide), if_neg (by decide), if_pos (by decide), Option.bind_assoc]
  refine h2_bL _ a7 (fun y hy => ?_)
  obtain ⟨y0, c3⟩ := y
  obtain ⟨y1, y2, y3, y4, y5⟩ := hy
  have y1 : y0 = nI p := y1
  subst y1
  have y2 : l2_fr (fun b j => (b = 334 ∧ j = 4) ∨ (b = 337 ∧ p ≤ j)) c2 c3 := y2
  have y3 : c3.1 334 4 = nI p1 := y3
  have y4 : f_X8_kind (c3.2.1 337 p) c3 = 2 := y4
  rw [Option.bind_assoc]
  refine h2_bR _ y5 (fun r3 hr => ?_)
  obtain ⟨z1, z2, z3⟩ := hr
  refine h2_bL _ (tm_lit (t := t) (p := p) (s := c3) ht (by omega)) (fun c4 hc4 => ?_)
  obtain ⟨b1, b2, b3⟩ := hc4
  rw [y4, if_neg (by decide)] at b2
  rw [k310p (Or.inr (Or.inr (Or.inr (Or.inr (Or.inr rfl)))))]
  exact tn_textfin hb S' (Nat.le_refl _) ⟨Nat.le_refl _, Nat.le_refl _⟩ (Or.inl ⟨rfl, rfl⟩) l2_fr.rf l2_fr.rf X2 e8 ⟨a1, a2⟩ ⟨a3, a4⟩ y2 y3 b1 z1 z2 z3 b2 b3
end
