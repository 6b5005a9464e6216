/-! Level 2: told templates are settled by the class: which ERROR of each is its first. -/
/-- rounds, no programs yet -/
def gW (F : (Nat → Int32) → Nat → Int32) (W : Nat → Int32) : Nat → Nat → Int32
  | 0 => W
  | u + 1 => fun i => if i = u then F (gW F W u) u else gW F W u i
def kW (F : (Nat → Int32) → Nat → Int32) (n : Nat) : Nat → Nat → Int32
  | 0 => fun _ => 0
  | j + 1 => gW F (kW F n j) n
section
variable {F : (Nat → Int32) → Nat → Int32} {W : Nat → Int32} {n u v j : Nat} {D : Nat → Nat}
theorem gW.mix : ∀ u v, gW F W u v = if v < u then F (gW F W v) v else W v := by
  intro u
  induction u with
  | zero => intro v; rw [if_neg (Nat.not_lt_zero _)]; rfl
  | succ u ih =>
    intro v
    show (if v = u then F (gW F W u) u else gW F W u v) = _
    by_cases c : v = u
    · rw [if_pos c, if_pos (by omega), c]
    · rw [if_neg c, ih v]
      by_cases e : v < u
      · rw [if_pos e, if_pos (by omega)]
      · rw [if_neg e, if_neg (by omega)]
theorem kW.nx (h : u < n) : kW F n (j + 1) u = F (gW F (kW F n j) u) u := by
  show gW F (kW F n j) n u = _
  rw [gW.mix, if_pos h]
/-- only templates of lower rank count -/
def dW (n : Nat) (D : Nat → Nat) (F : (Nat → Int32) → Nat → Int32) : Prop := ∀ u, u < n → (1 ≤ D u ∧ D u ≤ 60) ∧ ∀ W W' : Nat → Int32, (∀ v, v < n → D v < D u → W v = W' v) → F W u = F W' u
theorem kW.stay (h : dW n D F) : ∀ d u, u < n → D u ≤ d → ∀ j, d ≤ j → kW F n j u = kW F n d u := by
  intro d
  induction d with
  | zero => intro u hu hd; have := (h u hu).1.1; omega
  | succ d ih =>
    intro u hu hd j hj
    by_cases c : D u ≤ d
    · rw [ih u hu c j (by omega), ih u hu c (d + 1) (by omega)]
    · have e : ∀ k, d ≤ k → kW F n (k + 1) u = F (kW F n d) u := fun k hk => by
        rw [kW.nx hu]
        refine (h u hu).2 _ _ (fun v hv hD => ?_)
        rw [gW.mix]
        by_cases q : v < u
        · rw [if_pos q, ← kW.nx (F := F) hv, ih v hv (by omega) (k + 1) (by omega)]
        · rw [if_neg q, ih v hv (by omega) k hk]
      obtain ⟨k, rfl⟩ : ∃ k, j = k + 1 := ⟨j - 1, by omega⟩
      rw [e k (by omega), e d (Nat.le_refl _)]
/-- at the end every template's ERROR is what its parts say -/
theorem kW.fix (h : dW n D F) {J : Nat} (hJ : 60 ≤ J ∨ ∀ u, u < n → kW F n (J + 1) u = kW F n J u) (hu : u < n) : F (kW F n J) u = kW F n J u := by
  rcases hJ with hJ | hJ
  · obtain ⟨⟨d1, d2⟩, h2⟩ := h u hu
    have e : kW F n (J + 1) u = F (kW F n J) u := by
      rw [kW.nx hu]
      refine h2 _ _ (fun v hv hD => ?_)
      rw [gW.mix]
      by_cases q : v < u
      · rw [if_pos q, ← kW.nx (F := F) hv, kW.stay h (D v) v hv (Nat.le_refl _) (J + 1) (by omega), kW.stay h (D v) v hv (Nat.le_refl _) J (by omega)]
      · rw [if_neg q]
    rw [← e, kW.stay h (D u) u hu (Nat.le_refl _) (J + 1) (by omega), kW.stay h (D u) u hu (Nat.le_refl _) J (by omega)]
  · have e := hJ u hu
    rw [kW.nx hu] at e
    rw [← e]
    refine (h u hu).2 _ _ (fun v hv _ => ?_)
    rw [gW.mix]
    by_cases q : v < u
    · rw [if_pos q, ← kW.nx (F := F) hv, hJ v hv]
    · rw [if_neg q]
end
/-- what one operation of a told template says of ERRORs -/
def fwo (s : t_S) (W : Nat → Int32) (i : Nat) : Int32 := if s.1 335 i = 34 then (s.2.1 362 (s.1 336 i).toNatClampNeg).toInt32 else if s.1 335 i = 35 then (if s.1 354 (s.1 336 i).toNatClampNeg = 7 then W (s.1 357 (s.1 336 i).toNatClampNeg).toNatClampNeg else 0) else 0
/-- the first from a on, d operations -/
def fwf (s : t_S) (W : Nat → Int32) (a : Nat) : Nat → Int32
  | 0 => 0
  | d + 1 => if fwo s W a = 0 then fwf s W (a + 1) d else fwo s W a
/-- an operation of a told template, well made -/
def fwK (s : t_S) (n1 i : Nat) : Prop := s.1 335 i ≠ 0 ∧ (s.1 335 i = 34 ∨ s.1 335 i = 35 → ∃ t : Nat, t < 6100 ∧ s.1 336 i = nI t ∧ (s.1 335 i = 35 → s.1 354 t = 7 → ∃ v : Nat, v < n1 ∧ s.1 357 t = nI v))
def wtD (n : Nat) (W : Nat → Int32) (s : t_S) : Prop := ∀ u, u < n → s.1 (364 + u) 5 = W u
section
variable {s s' s2 : t_S} {W W' : Nat → Int32} {n a b cnt i d : Nat} {A0 A1 D : Nat → Nat} {Q : t_S → Prop}
theorem fwo.cg (K : fwK s n i) (h : ∀ t v : Nat, t < 6100 → s.1 336 i = nI t → s.1 335 i = 35 → s.1 354 t = 7 → s.1 357 t = nI v → v < n → W v = W' v) (hn : n ≤ 60) : fwo s W i = fwo s W' i := by
  unfold fwo
  by_cases c : s.1 335 i = 34
  · rw [if_pos c, if_pos c]
  rw [if_neg c, if_neg c]
  by_cases e : s.1 335 i = 35
  · rw [if_pos e, if_pos e]
    obtain ⟨t, t1, t2, t3⟩ := K.2 (Or.inr e)
    rw [t2, nI_clamp (by omega)]
    by_cases q : s.1 354 t = 7
    · rw [if_pos q, if_pos q]
      obtain ⟨v, v1, v2⟩ := t3 e q
      rw [v2, nI_clamp (by omega)]
      exact h t v t1 t2 e q v2 v1
    · rw [if_neg q, if_neg q]
  · rw [if_neg e, if_neg e]
theorem fwf.cg (h : ∀ i, a ≤ i → i < a + d → fwo s W i = fwo s W' i) : fwf s W a d = fwf s W' a d := by
  induction d generalizing a with
  | zero => rfl
  | succ d ih =>
    unfold fwf
    rw [h a (Nat.le_refl _) (by omega), ih (a := a + 1) (fun i x y => h i (by omega) (by omega))]
/-- the class's walk over one template -/
theorem fw_go (f : l2_fr (fun b j => 364 ≤ b ∧ b < 424 ∧ j = 5) s s2) (hW : wtD n W s2) (hn : n ≤ 60) (h2 : s.1 334 2 = nI cnt) (hc : cnt ≤ 16000) (hb : b < cnt) (he : s.1 335 b = 0) : ∀ d a, a + d = b → (∀ i, a ≤ i → i < b → fwK s n i) → ∀ N, d < N → t_loop (b_X10_firstWrong_2 s2) N (nI a) = some (fwf s W a d) := by
  have g : ∀ b j, b < 364 → s2.1 b j = s.1 b j := fun b j hb => (f b j (by omega)).1
  have gJ : ∀ b j, s2.2.1 b j = s.2.1 b j ∨ (364 ≤ b ∧ b < 424 ∧ j = 5) := fun b j => by
    by_cases c : 364 ≤ b ∧ b < 424 ∧ j = 5
    · exact Or.inr c
    · exact Or.inl (f b j c).2.1
  intro d
  induction d with
  | zero =>
    intro a ha _ N hN
    obtain ⟨N', rfl⟩ : ∃ N', N = N' + 1 := ⟨N - 1, by omega⟩
    refine l2_lpR ?_
    obtain rfl : a = b := by omega
    show k_X10_firstWrong_2 (nI a) s2 = _
    unfold k_X10_firstWrong_2
    rw [g 334 2 (by decide), h2, if_neg (nI_ge hb (by omega)), if_pos (l2_ix (by omega) (by decide)), nI_clamp (n := a) (by omega), g 335 a (by decide), if_pos he]
    rfl
  | succ d ih =>
    intro a ha hK N hN
    obtain ⟨N', rfl⟩ : ∃ N', N = N' + 1 := ⟨N - 1, by omega⟩
    have K := hK a (Nat.le_refl _) (by omega)
    have fin : ∀ x, k_X10_firstWrong_2 (nI a) s2 = k_X10_firstWrong_88 (nI a) x s2 → fwo s W a = x → t_loop (b_X10_firstWrong_2 s2) (N' + 1) (nI a) = some (fwf s W a (d + 1)) := fun x hx ho => by
      unfold fwf
      rw [ho]
      by_cases c : x = 0
      · rw [if_pos c, l2_lpS (y := nI (a + 1)) (by
          show k_X10_firstWrong_2 (nI a) s2 = _
          rw [hx]
          unfold k_X10_firstWrong_88
          rw [if_pos c, nI_1])]
        exact ih (a + 1) (by omega) (fun i y z => hK i (by omega) z) N' (by omega)
      · rw [if_neg c]
        refine l2_lpR ?_
        show k_X10_firstWrong_2 (nI a) s2 = _
        rw [hx]
        unfold k_X10_firstWrong_88
        rw [if_neg c]
        rfl
    have hd : k_X10_firstWrong_2 (nI a) s2 = (if (s.1 335 a) = (34 : Int32) then (if t_ix (s.1 336 a) 6100 = true then k_X10_firstWrong_88 (nI a) ((s2.2.1 362 ((s.1 336 a).toNatClampNeg)).toInt32) s2 else none) else (if (s.1 335 a) = (35 : Int32) then ((f_X10_wrongOf (s.1 336 a) s2).bind (fun r2 => k_X10_firstWrong_88 (nI a) r2 s2)) else (k_X10_firstWrong_88 (nI a) 0 s2))) := by
      unfold k_X10_firstWrong_2
      rw [g 334 2 (by decide), h2, if_neg (nI_ge (by omega) (by omega)), if_pos (l2_ix (by omega) (by decide)), nI_clamp (n := a) (by omega), g 335 a (by decide), g 336 a (by decide), if_neg K.1]
    by_cases c : s.1 335 a = 34
    · obtain ⟨t, t1, t2, _⟩ := K.2 (Or.inl c)
      refine fin _ ?_ rfl
      rw [hd, if_pos c, t2, if_pos (l2_ix t1 (by decide))]
      unfold fwo
      rw [if_pos c, t2, nI_clamp (n := t) (by omega), (gJ 362 t).resolve_right (by omega)]
    · rw [if_neg c] at hd
      by_cases e : s.1 335 a = 35
      · rw [if_pos e] at hd
        obtain ⟨t, t1, t2, t3⟩ := K.2 (Or.inr e)
        have ho : fwo s W a = (if s.1 354 t = 7 then W (s.1 357 t).toNatClampNeg else 0) := by
          unfold fwo
          rw [if_neg c, if_pos e, t2, nI_clamp (n := t) (by omega)]
        refine fin _ ?_ ho
        rw [hd, t2]
        unfold f_X10_wrongOf
        rw [if_pos (l2_ix t1 (by decide)), nI_clamp (n := t) (by omega), g 354 t (by decide), g 357 t (by decide)]
        by_cases q : s.1 354 t = 7
        · obtain ⟨v, v1, v2⟩ := t3 e q
          rw [if_pos q, if_pos q, v2, if_pos (l2_ix (by omega) (by decide)), nI_clamp (n := v) (by omega), Nat.one_mul, show ((5 : Int32).toNatClampNeg) = 5 from rfl, l2_bs, hW v v1]
        · rw [if_neg q, if_neg q, l2_bs]
      · rw [if_neg e] at hd
        refine fin 0 hd ?_
        unfold fwo
        rw [if_neg c, if_neg e]
/-- all that the rounds stand on -/
structure WH (s : t_S) (n cnt : Nat) (A0 A1 : Nat → Nat) : Prop where
  n60 : n ≤ 60
  e11 : s.1 353 11 = nI n
  h2 : s.1 334 2 = nI cnt
  hc : cnt ≤ 16000
  ea : ∀ u, u < n → s.1 335 (A1 u) = 0 ∧ A1 u < cnt ∧ A0 u ≤ A1 u ∧ s.1 (364 + u) 2 = nI (A0 u)
  op : ∀ u i, u < n → A0 u ≤ i → i < A1 u → fwK s n i
def FW (s : t_S) (A0 A1 : Nat → Nat) (W : Nat → Int32) (u : Nat) : Int32 := fwf s W (A0 u) (A1 u - A0 u)
theorem fw_one (H : WH s n cnt A0 A1) (f : l2_fr (fun b j => 364 ≤ b ∧ b < 424 ∧ j = 5) s s2) (hW : wtD n W s2) (hi : i < n) : f_X10_firstWrong (s2.1 (364 + i) 2) s2 = some (FW s A0 A1 W i) := by
  obtain ⟨e1, e2, e3, e4⟩ := H.ea i hi
  have hc := H.hc
  have nN := l2_N
  unfold f_X10_firstWrong FW
  rw [(f (364 + i) 2 (by omega)).1, e4]
  exact fw_go f hW H.n60 H.h2 H.hc e2 e1 (A1 i - A0 i) (A0 i) (by omega) (fun q x y => H.op i q hi x y) t_N (by omega)
theorem wr_round {fl : Int32} (H : WH s n cnt A0 A1) (f0 : l2_fr (fun b j => 364 ≤ b ∧ b < 424 ∧ j = 5) s s') (hW : wtD n W s') : t_hk (t_loop b_X10_settle_87 t_N (0, fl, 0, s')) (fun w => ∃ (fg : Nat) (s2 : t_S), w = .inl (nI fg, fl + 1, s2) ∧ fg ≤ 1 ∧ l2_fr (fun b j => 364 ≤ b ∧ b < 424 ∧ j = 5) s s2 ∧ wtD n (gW (FW s A0 A1) W n) s2 ∧ (fg = 0 → ∀ v, v < n → gW (FW s A0 A1) W n v = W v)) := by
  have n60 := H.n60
  refine l2_lp (fun m q => ∃ (i fg : Nat) (s2 : t_S), i + m = n ∧ q = (nI fg, fl, nI i, s2) ∧ fg ≤ 1 ∧ l2_fr (fun b j => 364 ≤ b ∧ b < 424 ∧ j = 5) s s2 ∧ wtD n (gW (FW s A0 A1) W i) s2 ∧ (fg = 0 → ∀ v, v < i → gW (FW s A0 A1) W i v = W v)) ?_ (m := n) (Nat.lt_trans (show n < 1000000000 by omega) l2_N) ⟨0, 0, s', by omega, rfl, by decide, f0, hW, fun _ v hv => absurd hv (Nat.not_lt_zero _)⟩
  rintro m q ⟨i, fg, s2, hi, rfl, hf, f, hW2, hu⟩
  show t_hk (k_X10_settle_87 (nI fg) fl (nI i) s2) _
  unfold k_X10_settle_87
  rw [(f 353 11 (by omega)).1, H.e11]
  by_cases c : i = n
  · subst c
    exact l2_ck (nI_le (Nat.le_refl _) (by omega)) (l2_mp (l2_sm ⟨fg, s2, rfl, hf, f, hW2, hu⟩))
  refine l2_no (nI_ge (by omega) (by omega)) ?_
  refine l2_ck (l2_ix (show i < 60 by omega) (by decide)) ?_
  have iN : i < n := by omega
  rw [nI_clamp (n := i) (by omega), Nat.one_mul, show ((2 : Int32).toNatClampNeg) = 2 from rfl, show ((5 : Int32).toNatClampNeg) = 5 from rfl, fw_one H f hW2 iN, l2_bs, hW2 i iN]
  have e0 : gW (FW s A0 A1) W i i = W i := by rw [gW.mix, if_neg (Nat.lt_irrefl _)]
  have new : ∀ g : Nat, g ≤ 1 → (g = 0 → fg = 0 ∧ FW s A0 A1 (gW (FW s A0 A1) W i) i = gW (FW s A0 A1) W i i) → t_hk (k_X10_settle_124 (nI g) fl (nI i) (FW s A0 A1 (gW (FW s A0 A1) W i) i) s2) (l2_nx (fun z => ∃ j, j < m ∧ ∃ (i fg : Nat) (s2 : t_S), i + j = n ∧ z = (nI fg, fl, nI i, s2) ∧ fg ≤ 1 ∧ l2_fr (fun b j => 364 ≤ b ∧ b < 424 ∧ j = 5) s s2 ∧ wtD n (gW (FW s A0 A1) W i) s2 ∧ (fg = 0 → ∀ v, v < i → gW (FW s A0 A1) W i v = W v)) (fun w => ∃ (fg : Nat) (s2 : t_S), w = .inl (nI fg, fl + 1, s2) ∧ fg ≤ 1 ∧ l2_fr (fun b j => 364 ≤ b ∧ b < 424 ∧ j = 5) s s2 ∧ wtD n (gW (FW s A0 A1) W n) s2 ∧ (fg = 0 → ∀ v, v < n → gW (FW s A0 A1) W n v = W v))) := fun g g1 g0 => by
    unfold k_X10_settle_124
    refine l2_ck (l2_ix (show i < 60 by omega) (by decide)) (l2_lt ?_)
    rw [nI_clamp (n := i) (by omega), Nat.one_mul, show ((5 : Int32).toNatClampNeg) = 5 from rfl, nI_1]
    generalize hx : FW s A0 A1 (gW (FW s A0 A1) W i) i = x at *
    have fr : l2_fr (fun b j => b = 364 + i ∧ j = 5) s2 (t_setI s2 (364 + i) 5 x) := l2_fr.set ⟨rfl, rfl⟩
    have vv : (t_setI s2 (364 + i) 5 x).1 (364 + i) 5 = x := by simp only [l2_gI, and_self, reduceIte]
    have en : ∀ v, gW (FW s A0 A1) W (i + 1) v = (if v = i then x else gW (FW s A0 A1) W i v) := fun v => by rw [← hx]; rfl
    refine l2_sm ⟨m - 1, by omega, i + 1, g, _, by omega, rfl, g1, f.trans (fr.mono (fun b j y => by omega)), fun u hu => ?_, fun y v hv => ?_⟩
    · rw [en]
      by_cases c : u = i
      · rw [c, vv, if_pos rfl]
      · rw [(fr (364 + u) 5 (by omega)).1, if_neg c]
        exact hW2 u hu
    · obtain ⟨y1, y2⟩ := g0 y
      rw [en]
      by_cases c : v = i
      · rw [c, if_pos rfl, y2, e0]
      · rw [if_neg c]
        exact hu y1 v (by omega)
  refine l2_if (fun z => ?_) (fun z => ?_)
  · exact new fg hf (fun y => ⟨y, z⟩)
  · exact new 1 (Nat.le_refl _) (fun y => absurd y (by decide))
/-- all rounds -/
theorem wr_all (H : WH s n cnt A0 A1) : t_hk (t_loop b_X10_settle_46 t_N (0, s)) (fun s2 => l2_fr (fun b j => 364 ≤ b ∧ b < 424 ∧ j = 5) s s2 ∧ ∃ J, (60 ≤ J ∨ ∀ u, u < n → kW (FW s A0 A1) n (J + 1) u = kW (FW s A0 A1) n J u) ∧ wtD n (kW (FW s A0 A1) n J) s2) := by
  have n60 := H.n60
  have go : ∀ s1, l2_fr (fun b j => 364 ≤ b ∧ b < 424 ∧ j = 5) s s1 → wtD n (fun _ => 0) s1 → t_hk (t_loop b_X10_settle_73 t_N (1, 0, s1)) (fun s2 => l2_fr (fun b j => 364 ≤ b ∧ b < 424 ∧ j = 5) s s2 ∧ ∃ J, (60 ≤ J ∨ ∀ u, u < n → kW (FW s A0 A1) n (J + 1) u = kW (FW s A0 A1) n J u) ∧ wtD n (kW (FW s A0 A1) n J) s2) := fun s1 f1 h1 => by
    refine l2_lp (fun m q => ∃ (j fg : Nat) (s2 : t_S), j + m = 62 ∧ q = (nI fg, nI j, s2) ∧ fg ≤ 1 ∧ l2_fr (fun b j => 364 ≤ b ∧ b < 424 ∧ j = 5) s s2 ∧ wtD n (kW (FW s A0 A1) n j) s2 ∧ (fg = 0 → ∃ i, j = i + 1 ∧ ∀ v, v < n → kW (FW s A0 A1) n (i + 1) v = kW (FW s A0 A1) n i v)) ?_ (m := 62) (Nat.lt_trans (show 62 < 1000000000 by decide) l2_N) ⟨0, 1, s1, by omega, rfl, by decide, f1, h1, fun y => absurd y (by decide)⟩
    rintro m q ⟨j, fg, s2, hj, rfl, hf, f, hW, hu⟩
    show t_hk (k_X10_settle_73 (nI fg) (nI j) s2) _
    unfold k_X10_settle_73
    by_cases z : fg = 0
    · obtain ⟨i, rfl, hi⟩ := hu z
      exact l2_ck (by rw [z]; rfl) (l2_mp (l2_sm ⟨f, i, Or.inr hi, fun u hu => (hW u hu).trans (hi u hu)⟩))
    refine l2_no (fun y => z ((nI_eq (b := 0) (by omega) (by decide)).mp y)) ?_
    by_cases c : j = 62
    · subst c
      exact l2_ck (by decide) (l2_mp (l2_sm ⟨f, 62, Or.inl (by decide), hW⟩))
    refine l2_no (Int32.not_lt.mpr (show nI j ≤ (61 : Int32) from nI_le (b := 61) (by omega) (by decide))) ?_
    refine l2_imp (wr_round (fl := nI j) H f hW) (fun w hw => ?_)
    obtain ⟨fg2, s3, rfl, q1, q2, q3, q4⟩ := hw
    exact ⟨m - 1, by omega, j + 1, fg2, s3, by omega, by rw [nI_1], q1, q2, q3, fun y => ⟨j, rfl, fun v hv => q4 y v hv⟩⟩
  refine ck_lp (fun i s2 => l2_fr (fun b j => 364 ≤ b ∧ b < 424 ∧ j = 5) s s2 ∧ ∀ u, u < i → s2.1 (364 + u) 5 = 0) (N := n) (by omega) ⟨l2_fr.rf, fun u hu => absurd hu (Nat.not_lt_zero _)⟩ ?_ ?_
  · rintro P s2 ⟨f, h⟩
    show t_hk (k_X10_settle_46 (nI n) s2) _
    unfold k_X10_settle_46
    rw [(f 353 11 (by omega)).1, H.e11]
    exact l2_ck (nI_le (Nat.le_refl _) (by omega)) (l2_mp (go s2 f (fun u hu => h u hu)))
  · rintro i s2 hi ⟨f, h⟩
    show t_hk (k_X10_settle_46 (nI i) s2) _
    unfold k_X10_settle_46
    rw [(f 353 11 (by omega)).1, H.e11]
    refine l2_no (nI_ge hi (by omega)) (l2_ck (l2_ix (show i < 60 by omega) (by decide)) (l2_lt ?_))
    rw [nI_clamp (n := i) (by omega), Nat.one_mul, show ((5 : Int32).toNatClampNeg) = 5 from rfl, nI_1]
    have fr : l2_fr (fun b j => b = 364 + i ∧ j = 5) s2 (t_setI s2 (364 + i) 5 0) := l2_fr.set ⟨rfl, rfl⟩
    have vv : (t_setI s2 (364 + i) 5 0).1 (364 + i) 5 = 0 := by simp only [l2_gI, and_self, reduceIte]
    refine l2_sm ⟨_, rfl, f.trans (fr.mono (fun b j y => by omega)), fun u hu => ?_⟩
    by_cases c : u = i
    · rw [c, vv]
    · rw [(fr (364 + u) 5 (by omega)).1]
      exact h u (by omega)
end
