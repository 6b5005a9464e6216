/-! Level 2: an exp worked out on both sides: what is written, what it comes to; a turn of the class's walk. -/
/-- how many VALUES may wait; what stands all the while -/
structure KPP where
  k : Nat
  g : Nat
  s : Nat
  I : Nat → t_S → t_S → Prop
/-- how deep an exp may still be -/
def mu (rr : Nat) : Nat := 109 - (6 * (rr / 20) + (rr % 20 - 14))
theorem mu_15 {rr : Nat} (h : rr ≤ 360) : mu (rr + 15) + 1 ≤ mu rr := by unfold mu; omega
theorem mu_1 {rr : Nat} (h : rr ≤ 360) : mu (rr + 1 + (15 - rr % 20)) + 1 ≤ mu rr := by unfold mu; omega
theorem mu_le {rr rr' : Nat} (h : rr ≤ rr') : mu rr' ≤ mu rr := by unfold mu; omega
/-- what working out an exp may write in the class, from depth D on, whose next free cell is a -/
def eWc (c0 : t_S) (a D b j : Nat) : Prop := (b = 334 ∧ (j = 7 ∨ j = 12 ∨ j = 13)) ∨ (b = 338 ∧ a ≤ j) ∨ (b = 339 ∧ D < j) ∨ b = 340 ∨ b = 341 ∨ (b = 353 ∧ (j = 13 ∨ j = 14 ∨ j = 15 ∨ j = 20)) ∨ ((b = 361 ∨ b = 362) ∧ c0.1 354 j = 17) ∨ b = 424 ∨ b = 426 ∨ b = 427
/-- .. in the reference, where H VALUES lie and S nodes wait -/
def eWr (H S b j : Nat) : Prop := (b = 950 ∧ (j = 97 ∨ j = 98 ∨ j = 103 ∨ j = 133 ∨ j = 135 ∨ j = 137 ∨ j = 138 ∨ j = 141)) ∨ (b = 1006 ∧ 260 * (40 + H) ≤ j ∧ j < 218400) ∨ b = 1007 ∨ (b = 1008 ∧ S ≤ j) ∨ b = 1009 ∨ (1026 ≤ b ∧ b ≤ 1033)
def eZc (c0 : t_S) (b j : Nat) : Prop := eWc c0 0 0 b j ∨ b = 339
def eZr (b j : Nat) : Prop := eWr 0 0 b j
theorem eWc.up {c0 : t_S} {a D a' D' b j : Nat} (h : eWc c0 a' D' b j) (ha : a ≤ a') (hD : D ≤ D') : eWc c0 a D b j := by
  unfold eWc at *
  rcases h with h | h | h | h | h | h | h | h
  · exact Or.inl h
  · exact Or.inr (Or.inl ⟨h.1, by omega⟩)
  · exact Or.inr (Or.inr (Or.inl ⟨h.1, by omega⟩))
  · exact Or.inr (Or.inr (Or.inr (Or.inl h)))
  · exact Or.inr (Or.inr (Or.inr (Or.inr (Or.inl h))))
  · exact Or.inr (Or.inr (Or.inr (Or.inr (Or.inr (Or.inl h)))))
  · exact Or.inr (Or.inr (Or.inr (Or.inr (Or.inr (Or.inr (Or.inl h))))))
  · exact Or.inr (Or.inr (Or.inr (Or.inr (Or.inr (Or.inr (Or.inr h))))))
theorem eWr.up {H S H' S' b j : Nat} (h : eWr H' S' b j) (hH : H ≤ H') (hS : S ≤ S') : eWr H S b j := by
  unfold eWr at *
  omega
theorem eWc.z {c0 : t_S} {a D b j : Nat} (h : eWc c0 a D b j) : eZc c0 b j := Or.inl (h.up (Nat.zero_le _) (Nat.zero_le _))
theorem eWr.z {H S b j : Nat} (h : eWr H S b j) : eZr b j := h.up (Nat.zero_le _) (Nat.zero_le _)
/-- the plain ones among them: no templ is held against anything -/
def eBc (b j : Nat) : Prop := (b = 334 ∧ (j = 7 ∨ j = 12 ∨ j = 13)) ∨ b = 338 ∨ b = 339 ∨ b = 340 ∨ b = 341
def eBr (b j : Nat) : Prop := (b = 950 ∧ (j = 97 ∨ j = 98 ∨ j = 103)) ∨ (b = 1006 ∧ 10400 ≤ j ∧ j < 218400) ∨ b = 1007 ∨ b = 1008 ∨ b = 1009
section
variable {κ : KPP} {c0 r0 : t_S} {Kc : t_S → t_S → Prop} {Kr : Nat → Nat → t_S → t_S → Prop} {c r c' r' : t_S} {D a H S rr e0 e1 i : Nat}
/-- ready to work out an exp of rank rr -/
def Ein (κ : KPP) (c0 r0 : t_S) (rr D a H S : Nat) (c r : t_S) : Prop := (l2_fr (eZc c0) c0 c ∧ l2_fr eZr r0 r) ∧ (c.1 334 7 = nI D ∧ c.1 339 D = nI a ∧ c.1 334 12 = 0) ∧ (r.1 950 98 = nI H ∧ r.1 950 97 = 0 ∧ r.1 950 103 = nI S) ∧ D + 15 ≤ 2800 + rr ∧ a + 1800 ≤ 4500 + 120 * rr ∧ H + 15 ≤ κ.k + rr ∧ κ.k ≤ 400 ∧ κ.s ≤ 13000
theorem Ein.s13 (h : Ein κ c0 r0 rr D a H S c r) {x : Nat} (hx : x ≤ κ.s) : x ≤ 13000 := by
  obtain ⟨_, _, _, _, _, _, _, h⟩ := h
  omega
def Ef (c0 : t_S) (Kc Kr : t_S → t_S → Prop) (D a H S : Nat) (c r c' r' : t_S) : Prop := l2_fr (eWc c0 a D) c c' ∧ l2_fr (eWr H S) r r' ∧ Kc c c' ∧ Kr r r'
/-- one VALUE more -/
def Eg (D a H S : Nat) (c' r' : t_S) : Prop := (∃ n m, VW (c'.2.1 338) (r'.2.1 1006) 120 a (260 * (40 + H)) n m ∧ c'.1 339 (D + 1) = nI (a + n)) ∧ (c'.1 334 7 = nI (D + 1) ∧ c'.1 334 12 = 0) ∧ r'.1 950 98 = nI (H + 1) ∧ r'.1 950 97 = 0 ∧ r'.1 950 103 = nI S
/-- the same ERROR -/
def Eb (e0 e1 S : Nat) (c' r' : t_S) : Prop := ∃ er st : Nat, (1 ≤ er ∧ er ≤ 7) ∧ c'.1 334 12 = nI er ∧ r'.1 950 97 = nI er ∧ c'.1 334 13 = nI st ∧ e0 ≤ st ∧ st < e1 ∧ r'.1 950 103 = nI S
/-- K's are kept by plain writing (the reference's: while it has no ERROR), and go on -/
def EK (Kc : t_S → t_S → Prop) (Kr : Nat → Nat → t_S → t_S → Prop) : Prop := ((∀ c c', l2_fr eBc c c' → Kc c c') ∧ ∀ a b c, Kc a b → Kc b c → Kc a c) ∧ (∀ x y r r', x ≤ y → (r'.1 950 97 = 0 → r.1 950 97 = 0) → l2_fr eBr r r' → Kr x y r r') ∧ ∀ x y z a b c, Kr x y a b → Kr y z b c → Kr x z a c
theorem EK.w {x y x' y' : Nat} (hK : EK Kc Kr) (h : Kr x y r r') (h1 : x' ≤ x) (h2 : y ≤ y') : Kr x' y' r r' := hK.2.2 _ _ _ _ _ _ (hK.2.1 x' x r r h1 (fun h => h) (l2_fr.rf (W := eBr))) (hK.2.2 _ _ _ _ _ _ h (hK.2.1 y y' r' r' h2 (fun h => h) (l2_fr.rf (W := eBr))))
theorem Ef.of (hK : EK Kc Kr) {Wc Wr : Nat → Nat → Prop} (f1 : l2_fr Wc c c') (f2 : l2_fr Wr r r') (h1 : ∀ b j, Wc b j → eWc c0 a D b j ∧ eBc b j) (h2 : ∀ b j, Wr b j → eWr H S b j ∧ eBr b j) {x y : Nat} (hxy : x ≤ y := by omega) (h97 : r'.1 950 97 = 0 → r.1 950 97 = 0 := by first | exact fun h => h | (intro _; assumption)) : Ef c0 Kc (Kr x y) D a H S c r c' r' := ⟨f1.mono (fun b j y => (h1 b j y).1), f2.mono (fun b j y => (h2 b j y).1), hK.1.1 _ _ (f1.mono (fun b j y => (h1 b j y).2)), hK.2.1 _ _ _ _ hxy h97 (f2.mono (fun b j y => (h2 b j y).2))⟩
/-- a state that has come out of a good one -/
def Iv (κ : KPP) (Kc : t_S → t_S → Prop) (Kr : Nat → Nat → t_S → t_S → Prop) (e : Nat) (c r : t_S) : Prop := ∃ es cs rs, κ.I es cs rs ∧ Kc cs c ∧ Kr es e rs r
theorem Iv.of (hK : EK Kc Kr) (h : κ.I e0 c r) : Iv κ Kc Kr e0 c r := ⟨e0, c, r, h, hK.1.1 _ _ (l2_fr.rf (W := eBc)), hK.2.1 _ _ _ _ (Nat.le_refl _) (fun h => h) (l2_fr.rf (W := eBr))⟩
theorem Iv.ef {K D a H S : Nat} (h : Iv κ Kc Kr e0 c r) (hK : EK Kc Kr) (F : Ef c0 Kc (Kr e0 K) D a H S c r c' r') : Iv κ Kc Kr K c' r' := by
  obtain ⟨es, cs, rs, h1, h2, h3⟩ := h
  exact ⟨es, cs, rs, h1, hK.1.2 _ _ _ h2 F.2.2.1, hK.2.2 _ _ _ _ _ _ h3 F.2.2.2⟩
theorem Ef.w (hK : EK Kc Kr) {x y x' y' : Nat} (h : Ef c0 Kc (Kr x y) D a H S c r c' r') (h1 : x' ≤ x) (h2 : y ≤ y') : Ef c0 Kc (Kr x' y') D a H S c r c' r' := ⟨h.1, h.2.1, h.2.2.1, hK.w h.2.2.2 h1 h2⟩
theorem Ef.trans (hK : EK Kc Kr) {c2 r2 : t_S} {D' a' H' S' x y y' z x' z' : Nat} (h : Ef c0 Kc (Kr x y) D a H S c r c' r') (g : Ef c0 Kc (Kr y' z) D' a' H' S' c' r' c2 r2) (hD : D ≤ D') (ha : a ≤ a') (hH : H ≤ H') (hS : S ≤ S') (hxy : x' ≤ x ∧ y ≤ y' ∧ z ≤ z' := by omega) : Ef c0 Kc (Kr x' z') D a H S c r c2 r2 := ⟨h.1.trans (g.1.mono (fun b j y => y.up ha hD)), h.2.1.trans (g.2.1.mono (fun b j y => y.up hH hS)), hK.1.2 _ _ _ h.2.2.1 g.2.2.1, hK.2.2 _ y' _ _ _ _ (hK.w h.2.2.2 hxy.1 hxy.2.1) (hK.w g.2.2.2 (Nat.le_refl _) hxy.2.2)⟩
theorem Ein.z {K1 K2 : t_S → t_S → Prop} (h : Ein κ c0 r0 rr D a H S c r) (f : Ef c0 K1 K2 D a H S c r c' r') : l2_fr (eZc c0) c0 c' ∧ l2_fr eZr r0 r' := ⟨h.1.1.trans (f.1.mono (fun b j y => y.z)), h.1.2.trans (f.2.1.mono (fun b j y => y.z))⟩
/-- what never changes meanwhile -/
theorem ez_c {b j : Nat} (f : l2_fr (eZc c0) c0 c) (h : b = 335 ∨ b = 336 ∨ b = 337 ∨ (b = 334 ∧ (j = 2 ∨ j = 4 ∨ (14 ≤ j ∧ j ≤ 18))) ∨ b = 13 ∨ b = 14 ∨ (354 ≤ b ∧ b ≤ 360) ∨ (363 ≤ b ∧ b ≤ 423) ∨ 864 ≤ b) : c.1 b j = c0.1 b j ∧ c.2.1 b j = c0.2.1 b j ∧ c.2.2 b j = c0.2.2 b j := f b j (by unfold eZc eWc; omega)
theorem ez_r {b j : Nat} (f : l2_fr eZr r0 r) (h : (955 ≤ b ∧ b ≤ 1005) ∨ b < 950 ∨ (1034 ≤ b) ∨ (b = 1006 ∧ (j < 10400 ∨ 218400 ≤ j)) ∨ (b = 950 ∧ j ≠ 97 ∧ j ≠ 98 ∧ j ≠ 103 ∧ j < 133) ∨ (b = 950 ∧ 142 ≤ j)) : r.1 b j = r0.1 b j ∧ r.2.1 b j = r0.2.1 b j ∧ r.2.2 b j = r0.2.2 b j := f b j (by unfold eZr eWr; omega)
/-- a turn of the class's walk begins -/
theorem cw_turn {cnt o : Nat} {x : Int32} (f : l2_fr (eZc c0) c0 c) (h2 : c0.1 334 2 = nI cnt) (hc : cnt ≤ 16000) (hi : i < cnt) (ho : px_o c0 i o x) (o1 : 0 < o) (o2 : o < 40) (h12 : c.1 334 12 = 0) : b_X0_work_12 (nI i, c) = (if 8 < o then (if 14 < o then (if 27 < o then (if 29 < o then (if o = 36 then ((f_X0_hold x (t_setI c 334 13 (nI i))).bind (fun r3 => some (.inl (nI (i + 1), r3)))) else ((f_X0_gather (nI o) (nI i) (t_setI c 334 13 (nI i))).bind (fun r2 => some (.inl (nI (i + 1), r2))))) else ((f_X0_jump (nI o) (nI i) (t_setI c 334 13 (nI i))).bind (fun r4 => some (.inl ((if nI i < r4.1 then r4.1 else nI i) + 1, r4.2))))) else ((f_X0_binary (nI o) (t_setI c 334 13 (nI i))).bind (fun r5 => some (.inl (nI (i + 1), r5))))) else ((f_X0_unary (nI o) x (t_setI c 334 13 (nI i))).bind (fun r6 => some (.inl (nI (i + 1), r6))))) else ((f_X0_load (nI o) x (t_setI c 334 13 (nI i))).bind (fun r7 => some (.inl (nI (i + 1), r7))))) := by
  show k_X0_work_12 (nI i) c = _
  unfold k_X0_work_12 k_X0_work_151
  have e35 : c.1 335 i = nI o := ((ez_c (j := i) f (by omega)).1).trans ho.1
  have e36 : c.1 336 i = x := ((ez_c (j := i) f (by omega)).1).trans ho.2
  have e2 : c.1 334 2 = nI cnt := ((ez_c (b := 334) (j := 2) f (by omega)).1).trans h2
  have s1 : ∀ b j, b ≠ 334 → (t_setI c 334 13 (nI i)).1 b j = c.1 b j := fun b j hb => by rw [l2_sO hb]
  have lt : ∀ k : Nat, k < 100 → ((nI k < nI o) ↔ k < o) := fun k hk => nI_ltI (by omega) (by omega)
  rw [if_neg (nI_pos (by omega)), e2, if_neg (nI_ge hi (by omega)), if_pos (l2_ix (by omega) (by decide)), nI_clamp (n := i) (by omega), e35, if_neg (nI_ne0 o1 (by omega)), if_pos h12]
  show (if (8 : Int32) < (t_setI c 334 13 (nI i)).1 335 i then _ else _) = _
  rw [s1 335 i (by decide), s1 336 i (by decide), e35, e36, nI_1]
  have l8 : ((8 : Int32) < nI o ↔ 8 < o) := lt 8 (by decide)
  have l14 : ((14 : Int32) < nI o ↔ 14 < o) := lt 14 (by decide)
  have l27 : ((27 : Int32) < nI o ↔ 27 < o) := lt 27 (by decide)
  have l29 : ((29 : Int32) < nI o ↔ 29 < o) := lt 29 (by decide)
  have q36 : nI o = (36 : Int32) ↔ o = 36 := nI_eq (b := 36) (by omega) (by decide)
  by_cases c1 : 8 < o
  · rw [if_pos (l8.mpr c1), if_pos c1]
    by_cases c2 : 14 < o
    · rw [if_pos (l14.mpr c2), if_pos c2]
      by_cases c3 : 27 < o
      · rw [if_pos (l27.mpr c3), if_pos c3]
        by_cases c4 : 29 < o
        · rw [if_pos (l29.mpr c4), if_pos c4]
          by_cases c5 : o = 36
          · rw [if_pos (q36.mpr c5), if_pos c5]
          · rw [if_neg (fun y => c5 (q36.mp y)), if_neg c5]
        · rw [if_neg (fun y => c4 (l29.mp y)), if_neg c4]
      · rw [if_neg (fun y => c3 (l27.mp y)), if_neg c3]
    · rw [if_neg (fun y => c2 (l14.mp y)), if_neg c2]
  · rw [if_neg (fun y => c1 (l8.mp y)), if_neg c1]
end
