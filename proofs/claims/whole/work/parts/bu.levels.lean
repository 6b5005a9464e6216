/-! Level 2: exps on both sides: what a level comes to. -/
section
/-- an exp's class, from readOne on, ends behind this fault -/
def lv_C (rc : RT_X6_readBase) (l1 l2 : Int32) (k f p0 tz ez pz lz wz oz : Nat) (cz c : t_S) : Prop := ∀ N, 3002 ≤ N + k → t_hk (exL rc l1 l2 wz N k c) (fun z => z.1 = l2 ∧ xF f p0 tz ez pz lz wz oz wz cz z.2)
/-- .. from the loop on -/
def lv_D (rc : RT_X6_readBase) (l1 l2 : Int32) (k f p0 tz ez pz lz wz oz : Nat) (cz c : t_S) : Prop := ∀ N, 3002 ≤ N + k → t_hk (t_loop (b_X6_readExp_60 rc) N (l1, l2, nI wz, nI k, c)) (fun z => z.1 = l2 ∧ xF f p0 tz ez pz lz wz oz wz cz z.2)
/-- good so far: n the root, j turns of the class's loop, c1 its state, c2 when what waits is let go -/
def lv_G (P : pc_S) (E : en_S) (th ub b : Nat) (rc : RT_X6_readBase) (l1 l2 : Int32) (wz k u q m t e p l w o s i dd : Nat) (c r : t_S) (n : Nat) (r' : t_S) : Prop := ∃ j c1 c2 qq, (∀ N, exL rc l1 l2 wz (N + j) k c = t_loop (b_X6_readExp_60 rc) N (l1, l2, nI wz, nI (k + j), c1)) ∧ xG P E 0 0 (20 * dd - ub) u q m t e p l w o s i dd c r n c2 r' ∧ lwT wz th ub c1 c2 ∧ (∀ s, f_X6_bindingOf (c1.1 1 8) s = nI b) ∧ c1.1 1 8 = c2.1 1 8 ∧ c2.1 845 10 = nI qq ∧ (q + j < qq ∧ qq ≤ 3000)
def lv_R (P : pc_S) (E : en_S) (lv : Nat) (rc : RT_X6_readBase) (l1 l2 : Int32) (k tz ez pz lz wz mz sz : Nat) (cz rz : t_S) (u q m t e p l w o s i dd : Nat) (c r : t_S) (y : Int32 × t_S) : Prop := (∃ n b, y.1 = nI n ∧ b ≤ lv ∧ lv_G P E lv (5 - lv) b rc l1 l2 wz k u q m t e p l w o s i dd c r n y.2) ∨ (∃ f p0, lv_C rc l1 l2 k f p0 tz ez pz lz wz o cz c ∧ xR P f p0 mz sz rz y.2) ∨ (lv ≤ 2 ∧ ∃ n p0, y.1 = nI n ∧ mz ≤ n ∧ n < 13000 ∧ y.2.1 960 n = -1 ∧ lv_C rc l1 l2 k 2 p0 tz ez pz lz wz o cz c ∧ rj P p0 mz sz rz y.2)
/-- an operator waits -/
theorem pu_op {P : pc_S} {E : en_S} {u d z q m t e p l w o s i dd x g b : Nat} {c r : t_S} (X : xp P E u d z q m t e p l w o s i dd c r) (ht : ob_T x g b) (hw : w ≤ 3000) (he : e < 16000) : t_hk (f_X6_pushOperator (nI x) c) (fun c' => ∃ e', xp P E u d z q m t e' p l (w + 1) o s i dd c' r ∧ c'.1 854 (2 * w) = nI x ∧ l2_fr (fun b j => (b = 845 ∧ j = 7) ∨ (b = 854 ∧ (j = 2 * w ∨ j = 2 * w + 1)) ∨ (b = 334 ∧ j = 2) ∨ ((b = 335 ∨ b = 336) ∧ j = e)) c c' ∧ ((x ≠ 16 ∧ x ≠ 17 ∧ e' = e) ∨ ((x = 16 ∨ x = 17) ∧ e' = e + 1 ∧ c'.1 854 (2 * w + 1) = nI e ∧ ∃ o, px_log g o ∧ c'.1 335 e = nI o))) := by
  have e7 : c.1 845 7 = nI w := X.2.2.2.2.2.2.1
  have up : ∀ {e' : Nat} {c' : t_S}, l2_fr (fun b j => (b = 845 ∧ j = 7) ∨ (b = 854 ∧ (j = 2 * w ∨ j = 2 * w + 1)) ∨ (b = 334 ∧ j = 2) ∨ ((b = 335 ∨ b = 336) ∧ j = e)) c c' → c'.1 845 7 = nI (w + 1) → c'.1 334 2 = nI e' → xp P E u d z q m t e' p l (w + 1) o s i dd c' r := by
    intro e' c' g g1 g2
    obtain ⟨x1, x2, x3, x4, x5, x6, x7, x8, x9, x10, x11⟩ := X
    have nf : l2_fr (fun _ _ => False) r r := l2_fr.rf
    refine ⟨x1.fr g nf (fun j => by omega) (fun b i _ _ => by omega) (fun b i _ _ => by omega) (by omega) (fun j _ y => y) (fun b i _ _ y => y), x2.fr g nf (fun j _ _ => by omega) (fun b i _ _ => by omega) ⟨fun y => y, fun y => y⟩, ?_, g2, ?_, ?_, g1, ?_, x9, x10, x11⟩
    · rw [(g 353 9 (by omega)).1]; exact x3
    · rw [(g 334 4 (by omega)).1]; exact x5
    · rw [(g 846 6 (by omega)).1]; exact x6
    · rw [(g 845 9 (by omega)).1]; exact x8
  have xb : x < 300 := by obtain ⟨_, _, _, _, b4⟩ := bo_1 ht c; omega
  -- && or ||
  have logic : ∀ op : Nat, px_log g op → x = 16 ∨ x = 17 → t_hk ((f_X0_emit (nI op) 0 c).bind (fun r1 => (f_X6_pushWaiting (nI x) r1.1 r1.2).bind (fun r2 => some r2))) (fun c' => ∃ e', xp P E u d z q m t e' p l (w + 1) o s i dd c' r ∧ c'.1 854 (2 * w) = nI x ∧ l2_fr (fun b j => (b = 845 ∧ j = 7) ∨ (b = 854 ∧ (j = 2 * w ∨ j = 2 * w + 1)) ∨ (b = 334 ∧ j = 2) ∨ ((b = 335 ∨ b = 336) ∧ j = e)) c c' ∧ ((x ≠ 16 ∧ x ≠ 17 ∧ e' = e) ∨ ((x = 16 ∨ x = 17) ∧ e' = e + 1 ∧ c'.1 854 (2 * w + 1) = nI e ∧ ∃ o, px_log g o ∧ c'.1 335 e = nI o))) := by
    intro op ho hx
    refine l2_bd _ (em_emit (s := c) (e := e) (nI op) 0 X.2.2.2.1 he) (fun y hy => ?_)
    obtain ⟨y0, c2⟩ := y
    obtain ⟨y1, y2, y3, y4, y5⟩ := hy
    have y1 : y0 = nI e := y1
    subst y1
    have y2 : l2_fr (fun b j => (b = 334 ∧ j = 2) ∨ ((b = 335 ∨ b = 336) ∧ j = e)) c c2 := y2
    have y3 : c2.1 334 2 = nI (e + 1) := y3
    have y4 : c2.1 335 e = nI op := y4
    refine l2_bd _ (pw_push (s := c2) (nI x) (nI e) (by rw [(y2 845 7 (by omega)).1]; exact e7) hw) (fun c' hc => l2_sm ?_)
    obtain ⟨g, g1, g2, g3⟩ := hc
    have fr : l2_fr (fun b j => (b = 845 ∧ j = 7) ∨ (b = 854 ∧ (j = 2 * w ∨ j = 2 * w + 1)) ∨ (b = 334 ∧ j = 2) ∨ ((b = 335 ∨ b = 336) ∧ j = e)) c c' := (y2.mono (fun b j y => by omega)).trans (g.mono (fun b j y => by omega))
    exact ⟨e + 1, up fr g1 (by rw [(g 334 2 (by omega)).1]; exact y3), g2, fr, Or.inr ⟨hx, rfl, g3, op, ho, by rw [(g 335 e (by omega)).1]; exact y4⟩⟩
  unfold f_X6_pushOperator k_X6_pushOperator_19 k_X6_pushOperator_36
  by_cases x16 : x = 16
  · subst x16
    refine l2_ck (show nI 16 = (16 : Int32) from rfl) ?_
    have hg : px_log g 28 := by
      obtain ⟨_, _, _, b3, _⟩ := bo_1 ht c
      have b3 : (9766 : Nat) = g := b3
      unfold px_log
      omega
    have e17 : ¬ nI 16 = (17 : Int32) := by decide
    have z := logic 28 hg (Or.inl rfl)
    simp only [if_neg e17, eq_self] at z ⊢
    exact z
  · have n16 : ¬ nI x = (16 : Int32) := fun y => x16 ((nI_eq (b := 16) (by omega) (by decide)).mp y)
    refine l2_no n16 ?_
    by_cases x17 : x = 17
    · subst x17
      refine l2_ck (show nI 17 = (17 : Int32) from rfl) ?_
      have hg : px_log g 29 := by
        obtain ⟨_, _, _, b3, _⟩ := bo_1 ht c
        have b3 : (31868 : Nat) = g := b3
        unfold px_log
        omega
      exact logic 29 hg (Or.inr rfl)
    · have n17 : ¬ nI x = (17 : Int32) := fun y => x17 ((nI_eq (b := 17) (by omega) (by decide)).mp y)
      refine l2_no n17 (l2_bd _ (pw_push (s := c) (nI x) 0 e7 hw) (fun c' hc => l2_sm ?_))
      obtain ⟨g', g1, g2, g3⟩ := hc
      have fr : l2_fr (fun b j => (b = 845 ∧ j = 7) ∨ (b = 854 ∧ (j = 2 * w ∨ j = 2 * w + 1)) ∨ (b = 334 ∧ j = 2) ∨ ((b = 335 ∨ b = 336) ∧ j = e)) c c' := g'.mono (fun b j y => by omega)
      exact ⟨e, up fr g1 (by rw [(g' 334 2 (by omega)).1]; exact X.2.2.2.1), g2, fr, Or.inl ⟨x16, x17, rfl⟩⟩
end
