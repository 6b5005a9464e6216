/-! Level 2: calls on both sides: the same, but where the function's own component isn't told. -/
section
variable {nt : Nat → Nat} {X K f g ln so na pn : Nat} {G : Nat → Nat} {v kc : Int32} {S : Nat → Int32 → Prop} {s r : t_S}
theorem ck_rk (ko : ∀ g, g < nt 3 → ko_R nt r g (s.1 438 g)) (hu : ∀ g, g < nt 3 → ∃ x, x ≤ 2 ∧ s.1 437 g = nI x ∧ r.1 981 g = nI (3 + x)) (hg : g < nt 3) (n40 : nt 3 ≤ 40) (hs : (so = 9 ∧ K = 6) ∨ (so = 11 ∧ K = 15) ∨ (so = 10 ∧ (K = 18 ∨ K = 20))) : rK nt r K (nI g) (s.1 438 f) ↔ cK s so f g ∧ (so = 11 ∨ ¬ s.1 438 f < 0) := by
  obtain ⟨x, x1, x2, x3⟩ := hu g hg
  have hk : s.1 437 g = (if so = 10 then 1 else 0) ↔ r.1 981 g = (if K = 6 ∨ K = 15 then 3 else 4) := by
    rw [x2, x3]
    by_cases z : so = 10
    · rw [if_pos z, if_neg (by omega)]
      exact ⟨fun y => (nI_eq (b := 4) (by omega) (by decide)).mpr (by have := (nI_eq (b := 1) (by omega) (by decide)).mp y; omega), fun y => (nI_eq (b := 1) (by omega) (by decide)).mpr (by have := (nI_eq (b := 4) (by omega) (by decide)).mp y; omega)⟩
    · rw [if_neg z, if_pos (by omega)]
      exact ⟨fun y => (nI_eq (b := 3) (by omega) (by decide)).mpr (by have := (nI_eq (b := 0) (by omega) (by decide)).mp y; omega), fun y => (nI_eq (b := 0) (by omega) (by decide)).mpr (by have := (nI_eq (b := 3) (by omega) (by decide)).mp y; omega)⟩
  constructor
  · rintro ⟨g', g1, g2, g3, g4⟩
    have e : g = g' := (nI_eq (by omega) (by omega)).mp g2
    subst e
    rcases g4 with g4 | ⟨g4, g5⟩
    · have e11 : so = 11 := by omega
      exact ⟨⟨hk.mpr g3, Or.inl e11⟩, Or.inl e11⟩
    · exact ⟨⟨hk.mpr g3, Or.inr ((ko g hg).eq g5)⟩, Or.inr g4⟩
  · rintro ⟨⟨c1, c2⟩, c3⟩
    refine ⟨g, hg, rfl, hk.mp c1, ?_⟩
    by_cases z : so = 11
    · exact Or.inl (by omega)
    · refine Or.inr ⟨c3.resolve_left z, ?_⟩
      have q := c2.resolve_left z
      rw [← q]
      exact ko g hg
/-- what the class's link adds to the late faults, place q: 4 where not settled, 6 where the counts differ -/
def cl_S (s : t_S) (so f na : Nat) (v : Int32) (n3 : Nat) (a : Nat) : Prop := (a = 4 ∧ ¬ ∃ g, g < n3 ∧ v = nI g ∧ cK s so f g) ∨ (a = 6 ∧ ∃ g, g < n3 ∧ v = nI g ∧ cK s so f g ∧ s.1 439 g ≠ nI na)
/-- .. the reference's line -/
def rl_S (nt : Nat → Nat) (r : t_S) (K na : Nat) (v kc : Int32) (a : Nat) : Prop := (a = 4 ∧ ¬ rK nt r K v kc) ∨ (a = 6 ∧ rK nt r K v kc ∧ ∃ g, g < nt 3 ∧ v = nI g ∧ r.1 985 g ≠ nI na)
theorem cl_rl (tR : to_R nt r 3 X v) (ko : ∀ g, g < nt 3 → ko_R nt r g (s.1 438 g)) (hu : ∀ g, g < nt 3 → ∃ x, x ≤ 2 ∧ s.1 437 g = nI x ∧ r.1 981 g = nI (3 + x)) (hp : ∀ g, g < nt 3 → s.1 439 g = r.1 985 g) (n40 : nt 3 ≤ 40) (hs : (so = 9 ∧ K = 6) ∨ (so = 11 ∧ K = 15) ∨ (so = 10 ∧ (K = 18 ∨ K = 20))) (hf : so = 11 ∨ ¬ s.1 438 f < 0) (a : Nat) : cl_S s so f na v (nt 3) a ↔ rl_S nt r K na v (s.1 438 f) a := by
  have hk : ∀ g, g < nt 3 → v = nI g → (rK nt r K v (s.1 438 f) ↔ cK s so f g) := fun g hg ev => by
    rw [ev]
    exact (ck_rk ko hu hg n40 hs).trans ⟨fun y => y.1, fun y => ⟨y, hf⟩⟩
  have hx : rK nt r K v (s.1 438 f) ↔ ∃ g, g < nt 3 ∧ v = nI g ∧ cK s so f g := ⟨fun y => by
    obtain ⟨g, g1, g2, _⟩ := id y
    exact ⟨g, g1, g2, (hk g g1 g2).mp y⟩, fun ⟨g, g1, g2, g3⟩ => (hk g g1 g2).mpr g3⟩
  unfold cl_S rl_S
  rw [hx]
  refine or_congr Iff.rfl (and_congr Iff.rfl ⟨fun ⟨g, g1, g2, g3, g4⟩ => ⟨⟨g, g1, g2, g3⟩, g, g1, g2, by rw [← hp g g1]; exact g4⟩, fun ⟨⟨g, g1, g2, g3⟩, g', h1, h2, h3⟩ => ?_⟩)
  have e : g = g' := (nI_eq (by omega) (by omega)).mp (g2.symm.trans h2)
  subst e
  exact ⟨g, g1, g2, g3, by rw [hp g g1]; exact h3⟩
/-- where it isn't told, the class may only miss what the reference tells: 4 at the same place, or the class tells 6 there -/
theorem cl_un (n11 : so ≠ 11) (hf : s.1 438 f < 0) (K4 : K ≠ 15) : rl_S nt r K na v (s.1 438 f) 4 := Or.inl ⟨rfl, fun ⟨_, _, _, _, g4⟩ => g4.elim K4 (fun q => q.1 hf)⟩
/-- the class's link: as a set -/
theorem cS_O.set {q : Int32} {x : Int32 × t_S} (h : cS_O nt r s X so f ln (nI na) q S x) (n40 : nt 3 ≤ 40) (hl : ln < 400) (L : ls_R (s.1 846 7) (s.1 846 8) S) : ∃ v, to_R nt r 3 X v ∧ (x.1 = 0 ∨ x.1 = 1) ∧ (x.1 = 0 ↔ ¬ ∃ g, g < nt 3 ∧ v = nI g ∧ cK s so f g) ∧ l2_fr (fun b j => lf_W b j ∨ (b = 445 + ln ∧ j = 6)) s x.2 ∧ ls_R (x.2.1 846 7) (x.2.1 846 8) (fun a b => S a b ∨ (b = q ∧ a = 6 ∧ cl_S s so f na v (nt 3) 6)) ∧ (x.1 = 1 → x.2.1 (445 + ln) 6 = v) := by
  obtain ⟨v, tR, h⟩ := h
  have lnk : ∀ (y : t_S) (u : Int32), 846 ≠ 445 + ln → (t_setI y (445 + ln) 6 u).1 846 7 = y.1 846 7 ∧ (t_setI y (445 + ln) 6 u).1 846 8 = y.1 846 8 ∧ (t_setI y (445 + ln) 6 u).1 (445 + ln) 6 = u := fun y u hn => by
    have fr : l2_fr (fun b j => b = 445 + ln ∧ j = 6) y (t_setI y (445 + ln) 6 u) := l2_fr.set ⟨rfl, rfl⟩
    exact ⟨(fr 846 7 (by omega)).1, (fr 846 8 (by omega)).1, by simp only [l2_gI, reduceIte]⟩
  have no6 : ∀ {g}, g < nt 3 → v = nI g → (¬ cK s so f g ∨ s.1 439 g = nI na) → ¬ cl_S s so f na v (nt 3) 6 := fun {g} hg ev hc y => by
    rcases y with ⟨y, _⟩ | ⟨_, g', g1, g2, g3, g4⟩
    · omega
    · have e : g = g' := (nI_eq (by omega) (by omega)).mp (ev.symm.trans g2)
      subst e
      exact hc.elim (fun z => z g3) g4
  have same : ¬ cl_S s so f na v (nt 3) 6 → ∀ a b, S a b ↔ (S a b ∨ (b = q ∧ a = 6 ∧ cl_S s so f na v (nt 3) 6)) := fun n a b => ⟨Or.inl, fun y => y.elim id (fun z => absurd z.2.2 n)⟩
  refine ⟨v, tR, ?_⟩
  rcases h with ⟨z, rfl⟩ | ⟨g, hg, ev, h⟩
  · have n : ¬ ∃ g, g < nt 3 ∧ v = nI g ∧ cK s so f g := fun ⟨g, g1, g2, _⟩ => by
      rw [g2] at z
      exact nI_pos (by omega) z
    exact ⟨Or.inl rfl, ⟨fun _ => n, fun _ => rfl⟩, l2_fr.rf, L.iff (same (fun y => y.elim (fun w => absurd w.1 (by decide)) (fun ⟨_, g, g1, g2, g3, _⟩ => n ⟨g, g1, g2, g3⟩))), fun y => absurd (show (0 : Int32) = 1 from y) (by decide)⟩
  rcases h with ⟨nc, rfl⟩ | ⟨hc, e, rfl⟩ | ⟨hc, ne, s1, rfl, f1, L1⟩
  · refine ⟨Or.inl rfl, ⟨fun _ ⟨g', g1, g2, g3⟩ => ?_, fun _ => rfl⟩, l2_fr.rf, L.iff (same (no6 hg ev (Or.inl nc))), fun y => absurd (show (0 : Int32) = 1 from y) (by decide)⟩
    have ee : g = g' := (nI_eq (by omega) (by omega)).mp (ev.symm.trans g2)
    subst ee
    exact nc g3
  · have hn : 846 ≠ 445 + ln := by omega
    obtain ⟨l7, l8, l6⟩ := lnk s (nI g) hn
    refine ⟨Or.inr rfl, ⟨fun y => absurd (show (1 : Int32) = 0 from y) (by decide), fun y => absurd ⟨g, hg, ev, hc⟩ y⟩, l2_fr.set (Or.inr ⟨rfl, rfl⟩), ?_, fun _ => l6.trans ev.symm⟩
    rw [l7, l8]
    exact L.iff (same (no6 hg ev (Or.inr e)))
  · have hn : 846 ≠ 445 + ln := by omega
    obtain ⟨l7, l8, l6⟩ := lnk s1 (nI g) hn
    refine ⟨Or.inr rfl, ⟨fun y => absurd (show (1 : Int32) = 0 from y) (by decide), fun y => absurd ⟨g, hg, ev, hc⟩ y⟩, (f1.mono (fun b j y => Or.inl y)).trans (l2_fr.set (Or.inr ⟨rfl, rfl⟩)), ?_, fun _ => l6.trans ev.symm⟩
    rw [l7, l8]
    exact L1.iff (fun a b => or_congr Iff.rfl ⟨fun y => ⟨y.2, y.1, Or.inr ⟨rfl, g, hg, ev, hc, ne⟩⟩, fun y => ⟨y.2.1, y.1⟩⟩)
end
