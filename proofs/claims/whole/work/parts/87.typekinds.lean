/-! Level 2: the types that hold no types, on both sides. -/
/-- what the reference does behind a type's own words -/
noncomputable def ty_ct (rc : RT_X13_fields) (r1 : Int32 × t_S) : Option (Int32 × t_S) := if (r1.2.1 950 2) = (0 : Int32) then (if t_ix r1.1 13000 = true then k_X13_type_107 rc r1.1 (r1.2.1 955 (r1.1.toNatClampNeg)) r1.2 else none) else (k_X13_type_107 rc r1.1 0 r1.2)
theorem ty_183 {rc : RT_X13_fields} {x : Int32} {s : t_S} : k_X13_type_183 rc x s = some (x, t_setI s 950 31 (s.1 950 31 - 1)) := rfl
theorem ty_ctF {rc : RT_X13_fields} {x : Int32} {s : t_S} (h : s.1 950 2 ≠ 0) : ty_ct rc (x, s) = some (x, t_setI s 950 31 (s.1 950 31 - 1)) := by
  unfold ty_ct
  rw [if_neg h]
  unfold k_X13_type_107
  rw [if_neg (by decide), if_neg (by decide), if_neg (by decide)]
  exact ty_183
theorem ty_ct0 {rc : RT_X13_fields} {m K : Nat} {s : t_S} (h : s.1 950 2 = 0) (hm : m < 13000) (hK : s.1 955 m = nI K) : ty_ct rc (nI m, s) = k_X13_type_107 rc (nI m) (nI K) s := by
  unfold ty_ct
  rw [if_pos h, if_pos (l2_ix hm (by decide)), nI_clamp (n := m) (by omega), hK]
theorem ty_ctP {rc : RT_X13_fields} {m K : Nat} {s : t_S} (h : s.1 950 2 = 0) (hm : m < 13000) (hK : s.1 955 m = nI K) (k5 : K < 100) (h5 : K ≠ 5) (h6 : K ≠ 6) (h7 : K ≠ 7) : ty_ct rc (nI m, s) = some (nI m, t_setI s 950 31 (s.1 950 31 - 1)) := by
  rw [ty_ct0 h hm hK]
  unfold k_X13_type_107
  have n5 : ¬ nI K = (5 : Int32) := fun e => h5 ((nI_eq (b := 5) (by omega) (by decide)).mp e)
  have n6 : ¬ nI K = (6 : Int32) := fun e => h6 ((nI_eq (b := 6) (by omega) (by decide)).mp e)
  have n7 : ¬ nI K = (7 : Int32) := fun e => h7 ((nI_eq (b := 7) (by omega) (by decide)).mp e)
  rw [if_neg n5, if_neg n6, if_neg n7]
  exact ty_183
theorem ty_31 {P : pc_S} {f p : Nat} {r : t_S} (h : pr P f p r) (v : Int32) : pr P f p (t_setI r 950 31 v) := h.fr (Wr := fun b j => b = 950 ∧ j = 31) (l2_fr.set ⟨rfl, rfl⟩) (fun j _ => by omega) (fun b i _ _ => by omega)
/-- the end of a type, when all went well -/
theorem ty_end {P : pc_S} {u u2 q q2 m m2 a a2 g g2 l l2 dd : Nat} {c r c' r' : t_S} (hu : u < u2 ∧ q < q2) (ha : a < a2) (hm : m < m2) (hg : g ≤ g2) (hl : l ≤ l2) (T : tp P u2 0 0 q2 m2 a2 g2 l2 (dd + 1) c' r') (fc : l2_fr (ty_Wc a g l) c c') (fr : l2_fr (ty_Wr m) r r') (hT : TY (ty_NM c' r' l2) c' r' (18 - dd) a a2 m m2 g2 a m) (h60 : r'.1 960 m = -1) (D : ty_D c c' r' l l2 m m2) (Sh : ty_s r' m m2) : ty_R P u q m a g l dd c r (nI a, c') (nI m, t_setI r' 950 31 (r'.1 950 31 - 1)) := by
  have w : l2_fr (fun b j => b = 950 ∧ j = 31) r' (t_setI r' 950 31 (r'.1 950 31 - 1)) := l2_fr.set ⟨rfl, rfl⟩
  have v31 : (t_setI r' 950 31 (r'.1 950 31 - 1)).1 950 31 = nI dd := by
    simp only [l2_g, reduceIte]
    rw [T.2.2.2.2.2.2.2, nI_pred]
  generalize t_setI r' 950 31 (r'.1 950 31 - 1) = r2 at *
  have fr2 := fr.trans (w.mono (fun b j y => (Or.inl ⟨y.1, by omega⟩ : ty_Wr m b j)))
  obtain ⟨J, t2, t3, t4, t5, t6, t7, t8⟩ := T
  refine ⟨fc.mono (fun b j y => y.sub (Nat.zero_le _) (Nat.zero_le _) (Nat.zero_le _)), fr2.mono (fun b j y => y.sub (Nat.zero_le _)), Or.inl ⟨rfl, rfl, u2, q2, m2, a2, g2, l2, hu, ha, hm, hg, hl, ⟨J.fr (l2_fr.rf (W := fun _ _ => False)) w (fun j y => y) (fun b i _ _ y => y) (fun b i _ _ y => y) (fun y => y) (fun j _ => by omega) (fun b i _ _ => by omega), t2, t3, t4, t5, t6, t7, v31⟩, fc, fr2, ?_, ?_, ?_, ?_⟩⟩
  · exact TY.fr _ _ _ _ _ _ _ _ hT ⟨fun _ _ _ _ _ _ => ⟨rfl, rfl⟩, fun _ _ => rfl⟩ (ag_R.of w (fun i j _ _ _ _ => by omega)) (fun a b _ _ _ _ ⟨e, e1, e2, e3⟩ => ⟨e, e1, e2.fr (fun _ _ _ => rfl) (w 956 b (by omega)).1 (w 957 b (by omega)).2.1, e3⟩) _ _ _ _ (Nat.le_refl _) (Nat.le_refl _) (Nat.le_refl _) (Nat.le_refl _)
  · show r2.1 960 m = -1
    rw [(w 960 m (by omega)).1]; exact h60
  · exact D.fr (fun _ _ _ => rfl) (fun i _ _ => ⟨(w 955 i (by omega)).1, (w 956 i (by omega)).1, fun _ => (w 957 i (by omega)).2.1⟩)
  · exact Sh.fr (fun i _ _ => ⟨(w 955 i (by omega)).1, (w 959 i (by omega)).1, (w 960 i (by omega)).1, (w 957 i (by omega)).2.1⟩)
/-- .. and behind a fault -/
theorem ty_endF {P : pc_S} {u q m a g l dd f p : Nat} {c r c' r' : t_S} {x y : Int32} (fc : l2_fr (ty_Wc 0 0 0) c c') (fr : l2_fr (ty_Wr 0) r r') (h : lc_F c' f p) (h2 : pr P f p r') : ty_R P u q m a g l dd c r (x, c') (y, t_setI r' 950 31 (r'.1 950 31 - 1)) := ⟨fc, fr.trans (l2_fr.set (Or.inl ⟨rfl, by decide⟩)), Or.inr ⟨f, p, h, ty_31 h2 _⟩⟩
/-- both behind a type's first word: its node is made on both sides, of kind K -/
def ty_S0 (P : pc_S) (u q m a g l dd K : Nat) (c r c3 r3 : t_S) : Prop := a < 3001 ∧ m < 12999 ∧ tp P (u + 1) 0 0 (q + 1) (m + 1) (a + 1) g l (dd + 1) c3 r3 ∧ ta_at c3 a (nI K) ∧ (r3.1 955 m = nI K ∧ r3.2.1 957 m = 0 ∧ r3.2.1 958 m = 0 ∧ r3.1 959 m = -1 ∧ r3.1 960 m = -1) ∧ l2_fr (ty_Wc a g l) c c3 ∧ l2_fr (ty_Wr m) r r3 ∧ ty_D c c3 r3 l l m (m + 1)
theorem ty_k2 {P : pc_S} {u q m a g l dd : Nat} {c r c3 r3 : t_S} {rc : RT_X13_fields} (h : ty_S0 P u q m a g l dd 2 c r c3 r3) (hd : dd ≤ 17) : t_h2 (some (nI a, c3)) (ty_ct rc (nI m, r3)) (ty_R P u q m a g l dd c r) := by
  obtain ⟨h1, h2, T, ⟨c1, _⟩, ⟨r1, _, _, _, r5⟩, fc, fr, D⟩ := h
  rw [ty_ctP T.1.f0.2 (by omega) r1 (by decide) (by decide) (by decide) (by decide)]
  refine h2_sm (ty_end (by omega) (by omega) (by omega) (Nat.le_refl _) (Nat.le_refl _) T fc fr ?_ r5 D (ty_s.one (K := 2) r1 (by decide) (by decide) (by decide) (by decide) (by decide) (by decide)))
  rw [show 18 - dd = (17 - dd) + 1 by omega]
  exact ⟨Nat.le_refl _, by omega, Nat.le_refl _, by omega, 2, c1, r1, Or.inr (Or.inl rfl)⟩
theorem ty_k1 {P : pc_S} {u q m a g l dd : Nat} {c r c3 r3 : t_S} {rc : RT_X13_fields} (h : ty_S0 P u q m a g l dd 1 c r c3 r3) (hd : dd ≤ 17) : t_h2 ((f_X6_readInt (nI a) c3).bind (fun x => some (nI a, x))) ((if f_X13_is 40 r3 = 0 then k_X13_typeHere_116 10 (nI m) r3 else (f_X13_ranges (nI m) r3).bind (fun x => some (nI m, x))).bind (ty_ct rc)) (ty_R P u q m a g l dd c r) := by
  obtain ⟨h1, h2, T, ⟨c17, c18, c19, c20, c21, c22, c23⟩, ⟨r55, r57, r58, r59, r60⟩, fc, fr, D⟩ := h
  have e116 : k_X13_typeHere_116 10 (nI m) r3 = some (nI m, r3) := by
    unfold k_X13_typeHere_116
    rw [if_neg (by decide), if_neg (by decide)]
  have f18 : 18 - dd = (17 - dd) + 1 := by omega
  rcases rg_int (n := a) (m0 := m) (by omega) (by omega) h1 (by omega) T c18 c21 r59 with ⟨b, h⟩ | ⟨b, h⟩
  · rw [b, if_pos rfl, e116]
    refine h2_bL _ h (fun c4 hc => ?_)
    obtain ⟨w, w1, w2⟩ := hc
    show t_h2 _ (ty_ct rc (nI m, r3)) _
    rw [ty_ctP T.1.f0.2 (by omega) r55 (by decide) (by decide) (by decide) (by decide)]
    obtain ⟨J, t2, t3, t4, t5, t6, t7, t8⟩ := T
    have J4 := J.fr w (l2_fr.rf (W := fun _ _ => False)) (fun j => by omega) (fun b i _ _ => by omega) (fun b i _ _ => by omega) (by omega) (fun j _ y => y) (fun b i _ _ y => y)
    refine h2_sm (ty_end (by omega) (by omega) (by omega) (Nat.le_refl _) (Nat.le_refl _) ⟨J4, ?_, t3, ?_, t5, ?_, t7, t8⟩ (fc.trans (w.mono (fun b j y => by unfold ty_Wc; omega))) fr ?_ r60 (D.fr (fun b j y => (w b j (by omega)).1) (fun i _ _ => ⟨rfl, rfl, fun _ => rfl⟩)) (ty_s.one (K := 1) r55 (by decide) (by decide) (by decide) (by decide) (by decide) (by decide)))
    · rw [(w 316 8 (by omega)).1]; exact t2
    · rw [(w 316 10 (by omega)).1]; exact t4
    · rw [(w 846 6 (by omega)).1]; exact t6
    · rw [f18]
      refine ⟨Nat.le_refl _, by omega, Nat.le_refl _, by omega, 1, by rw [(w 317 a (by omega)).1]; exact c17, r55, Or.inl ⟨rfl, 0, fun _ => 0, fun _ => 0, by decide, ?_, ⟨?_, fun j hj => by omega⟩, ⟨?_, fun j hj => by omega⟩, fun j hj => by omega, fun _ => ⟨w1, w2⟩, fun z => by omega⟩⟩
      · rw [(w 321 a (by omega)).1, c21]; rfl
      · rw [(w 318 a (by omega)).1, if_neg (by decide)]; exact c18
      · rw [if_neg (by decide)]; exact r59
  · rw [b, if_neg (by decide)]
    rw [Option.bind_assoc]
    refine h2_bb _ h (fun c4 r4 hq => ?_)
    obtain ⟨q1, q2, q3⟩ := hq
    show t_h2 _ (ty_ct rc (nI m, r4)) _
    rcases q3 with ⟨v, u1, q4, m1, a1, F, G, v6, hu, T4, k1, k2, k3, k4, k5, k6, k7, k8, k9, k10⟩ | ⟨f, p, q3, q4⟩
    · have e55 : r4.1 955 m = nI 1 := by rw [(k4 955 m (by unfold ty_Wr; omega)).1]; exact r55
      rw [ty_ctP T4.1.f0.2 (by omega) e55 (by decide) (by decide) (by decide) (by decide)]
      have fc4 : l2_fr (ty_Wc a g l) c c4 := fc.trans (k3.mono (fun b j y => by unfold ty_Wc at *; omega))
      have fr4 : l2_fr (ty_Wr m) r r4 := fr.trans (k4.mono (fun b j y => by unfold ty_Wr at *; omega))
      refine h2_sm (ty_end (by omega) (by omega) (by omega) (Nat.le_refl _) (Nat.le_refl _) T4 fc4 fr4 ?_ (by rw [(k4 960 m (by unfold ty_Wr; omega)).1]; exact r60) ?_ (fun i i1 i2 => ?_))
      · rw [f18]
        refine ⟨Nat.le_refl _, by omega, Nat.le_refl _, by omega, 1, by rw [(k3 317 a (by unfold ty_Wc; omega)).1]; exact c17, e55, Or.inl ⟨rfl, v, F, G, v6, k7, k5, k6, fun j hj => ?_, k9⟩⟩
        have := k8 j hj
        exact ⟨this.2.1, this.2.2.2.1, this.2.2.2.2⟩
      · have D2 : ty_D c3 c4 r4 l l (m + 1) m1 := by
          refine ⟨fun i x y => ⟨9, by decide, by decide, k10 i x y, fun e => absurd e (by decide)⟩, fun e x y => by omega, fun x hx => ?_⟩
          rw [(k3 7 _ (by unfold ty_Wc; omega)).1]
          refine ⟨fun y => Or.inl y, fun y => y.elim id (fun ⟨i, y1, y2, y3, _⟩ => ?_)⟩
          rw [k10 i y1 y2] at y3
          exact absurd y3 (by decide)
        exact D.trans D2 ⟨Nat.le_refl _, Nat.le_refl _⟩ ⟨by omega, k2⟩ (fun b e x y z => (k3 b e (by unfold ty_Wc; omega)).1) (fun i x y => ⟨(k4 955 i (by unfold ty_Wr; omega)).1, (k4 956 i (by unfold ty_Wr; omega)).1, fun _ => (k4 957 i (by unfold ty_Wr; omega)).2.1⟩)
      · by_cases e : i = m
        · subst e
          exact ty_p.no (K := 1) e55 (by decide) (by decide) (by decide) (by decide) (by decide) (by decide)
        · exact ty_p.no (K := 9) (k10 i (by omega) i2) (by decide) (by decide) (by decide) (by decide) (by decide) (by decide)
    · rw [ty_ctF q4.ne]
      exact h2_sm (ty_endF ((fc.mono (fun b j y => y.sub (Nat.zero_le _) (Nat.zero_le _) (Nat.zero_le _))).trans q1) ((fr.mono (fun b j y => y.sub (Nat.zero_le _))).trans q2) q3 q4)
