/-! Level 2: calls on both sides out of their functions; the calls that touch but the text, the bits, the rows of answers and the systems. -/
theorem mj_C.at {y : MethodName} {cc : ByteArray} {maxL : Nat} {rt : Option FieldType} {d mc ms : Nat} {vs : List Value} {h h2 : mj_H} {n : Nat} {P : Option Value → mj_H → Prop} (he : ∀ k, k < n → h2 k = h k) (hC : mj_C y cc maxL rt d mc ms vs h n P) : mj_C y cc maxL rt d mc ms vs h2 n P := by
  intro D cy ad bs X l E
  have e : mj_ws cy ad h2 n = mj_ws cy ad h n := by
    unfold mj_ws
    apply List.map_congr_left
    intro k hk
    rw [he k (List.mem_range.mp hk)]
  have q := hC D cy ad bs X l E
  unfold mj_WH at q ⊢
  rw [e]
  exact q
/-- a relation of typed states, of memories -/
def l2_RR (R : t_S → Prop) : mj_H → Prop := fun h => ∃ s, (∀ k, k < 1065 → h k = t_m s k) ∧ R s
theorem l2_lwE {yx yy : MethodName} {cx cv : ByteArray} {mx my dx dy : Nat} {rt : Option FieldType} {As : List Value} {R0 R1 : t_S → Prop} {fx fy : t_S → Option (Int32 × t_S)} (h1 : dx ≤ 1908) (h2 : dy ≤ 1908) (hx : ∀ s r, fx s = some r → t_C yx cx mx rt dx (.ref 0 :: As) s (fun v s' => v = some (.int r.1) ∧ s' = r.2)) (hy : ∀ s r, fy s = some r → t_C yy cv my rt dy (.ref 950 :: As) s (fun v s' => v = some (.int r.1) ∧ s' = r.2)) (hh : ∀ s, R0 s → t_hk (fx s) (fun r => t_hk (fy r.2) (fun r' => r'.1 = r.1 ∧ R1 r'.2))) : lw_sI yx yy cx cv mx my rt As (l2_RR R0) (l2_RR R1) := by
  rintro h ⟨s, hs, hr⟩
  obtain ⟨r, er, r', er', e, hq⟩ := hh s hr
  refine ⟨⟨_, (hs 0 (by decide)).trans (t_c (s := s) (a := 0) (ci := 12) (by decide +kernel)).2⟩, dx, _, h1, mj_C.at hs (hx s r er), fun v h1' hp => ?_⟩
  obtain ⟨s1, rfl, hv, rfl⟩ := hp
  refine ⟨⟨_, (t_c (s := r.2) (a := 950) (ci := 13) (by decide +kernel)).2⟩, r.1, dy, hv, h2, mj_C.imp (hy r.2 r' er') (fun w h2' hp2 => ?_)⟩
  obtain ⟨s2, rfl, hw, rfl⟩ := hp2
  exact ⟨by rw [hw, e], r'.2, fun _ _ => rfl, hq⟩
theorem l2_lwP {yx yy : MethodName} {cx cv : ByteArray} {mx my dx dy : Nat} {rt : Option FieldType} {As : List Value} {R0 R1 : t_S → Prop} {fx fy : t_S → Option Int32} (h1 : dx ≤ 1908) (h2 : dy ≤ 1908) (hx : ∀ s r, fx s = some r → t_C yx cx mx rt dx (.ref 0 :: As) s (fun v s' => v = some (.int r) ∧ s' = s)) (hy : ∀ s r, fy s = some r → t_C yy cv my rt dy (.ref 950 :: As) s (fun v s' => v = some (.int r) ∧ s' = s)) (hh : ∀ s, R0 s → (∃ r, fx s = some r ∧ fy s = some r) ∧ R1 s) : lw_sI yx yy cx cv mx my rt As (l2_RR R0) (l2_RR R1) := by
  rintro h ⟨s, hs, hr⟩
  obtain ⟨⟨r, er, er'⟩, hq⟩ := hh s hr
  refine ⟨⟨_, (hs 0 (by decide)).trans (t_c (s := s) (a := 0) (ci := 12) (by decide +kernel)).2⟩, dx, _, h1, mj_C.at hs (hx s r er), fun v h1' hp => ?_⟩
  obtain ⟨s1, rfl, hv, rfl⟩ := hp
  refine ⟨⟨_, (t_c (s := s1) (a := 950) (ci := 13) (by decide +kernel)).2⟩, r, dy, hv, h2, mj_C.imp (hy s1 r er') (fun w h2' hp2 => ?_)⟩
  obtain ⟨s2, rfl, hw, rfl⟩ := hp2
  exact ⟨hw, _, fun _ _ => rfl, hq⟩
theorem sy_R.fr {P : Nat → Nat → Prop} {s s' : t_S} (h : sy_R s) (f : l2_fr P s s') (w1 : ¬ P 946 3) (w2 : ¬ P 950 183) (w3 : ∀ i, ¬ P 947 i) (w4 : ∀ i, ¬ P 949 i) (w5 : ∀ i, ¬ P 1059 i) (w6 : ∀ i, ¬ P 1060 i) : sy_R s' := by
  obtain ⟨⟨T, a, b⟩, L, X, c, d, e, g⟩ := h
  refine ⟨⟨T, fun i hi => ?_, fun i hi => ?_⟩, L, X, c, ?_, ?_, fun i hi => ?_⟩
  · rw [(f 947 i (w3 i)).1]; exact a i hi
  · rw [(f 1059 i (w5 i)).1]; exact b i hi
  · rw [(f 946 3 w1).1]; exact d
  · rw [(f 950 183 w2).1]; exact e
  · rw [(f 949 i (w4 i)).1, (f 1060 i (w6 i)).1]; exact g i hi
theorem tx_R.fr {P : Nat → Nat → Prop} {s s' : t_S} (h : tx_R s) (f : l2_fr P s s') (w1 : ¬ P 1 1) (w2 : ¬ P 950 1) (w3 : ∀ i, ¬ P 2 i) (w4 : ∀ i, ¬ P 951 i) : tx_R s' := by
  obtain ⟨L, B, a, b, c, d⟩ := h
  refine ⟨L, B, a, ?_, ?_, fun i hi => ?_⟩
  · rw [(f 1 1 w1).1]; exact b
  · rw [(f 950 1 w2).1]; exact c
  · rw [(f 2 i (w3 i)).1, (f 951 i (w4 i)).1]; exact d i hi
theorem cd_R.fr {P : Nat → Nat → Prop} {s s' : t_S} (h : cd_R s) (f : l2_fr P s s') (w1 : ¬ P 856 5) (w2 : ¬ P 950 121) (w3 : ∀ i, ¬ P 858 i) (w4 : ∀ i, ¬ P 1020 i) : cd_R s' := by
  obtain ⟨n, A, a, b, c, d⟩ := h
  refine ⟨n, A, a, ?_, ?_, fun i hi => ?_⟩
  · rw [(f 856 5 w1).1]; exact b
  · rw [(f 950 121 w2).1]; exact c
  · rw [(f 858 i (w3 i)).1, (f 1020 i (w4 i)).1]; exact d i hi
theorem hd_R.fr {P : Nat → Nat → Prop} {s s' : t_S} (h : hd_R s) (f : l2_fr P s s') (w1 : ¬ P 856 3) (w2 : ¬ P 950 106) (w3 : ∀ i, ¬ P 857 i) (w4 : ∀ i, ¬ P 1010 i) : hd_R s' := by
  obtain ⟨n, a, b, c, d⟩ := h
  refine ⟨n, a, ?_, ?_, fun i hi => ?_⟩
  · rw [(f 856 3 w1).1]; exact b
  · rw [(f 950 106 w2).1]; exact c
  · rw [(f 857 i (w3 i)).1, (f 1010 i (w4 i)).1]; exact d i hi
theorem wy_R.fr {P : Nat → Nat → Prop} {s s' : t_S} (h : wy_R s) (f : l2_fr P s s') (w1 : ¬ P 353 17) (w2 : ¬ P 950 146) (w3 : ∀ i, ¬ P 425 i) (w4 : ∀ i, ¬ P 1034 i) : wy_R s' := by
  obtain ⟨n, a, b, c, d⟩ := h
  refine ⟨n, a, ?_, ?_, fun i hi => ?_⟩
  · rw [(f 353 17 w1).1]; exact b
  · rw [(f 950 146 w2).1]; exact c
  · rw [(f 425 i (w3 i)).1, (f 1034 i (w4 i)).1]; exact d i hi
/-- what the small calls write -/
def sm_W (b j : Nat) : Prop := b = 2 ∨ b = 951 ∨ b = 858 ∨ b = 1020 ∨ (946 ≤ b ∧ b ≤ 949) ∨ (1059 ≤ b ∧ b ≤ 1064) ∨ (b = 1 ∧ j = 1) ∨ (b = 950 ∧ (j = 1 ∨ j = 121 ∨ j = 183)) ∨ (b = 856 ∧ j = 5)
/-- all that is related; O: what the small calls leave alone -/
def sm_R (O : t_S → Prop) (s : t_S) : Prop := sy_R s ∧ tx_R s ∧ cd_R s ∧ hd_R s ∧ wy_R s ∧ O s
theorem sm_sys {O : t_S → Prop} (hO : ∀ s s', l2_fr sm_W s s' → O s → O s') {P Q : Nat → Nat → Prop} {s s1 s2 : t_S} (h : sm_R O s) (f1 : l2_fr P s s1) (f2 : l2_fr Q s1 s2) (hP : ∀ b j, P b j → (946 ≤ b ∧ b ≤ 949)) (hQ : ∀ b j, Q b j → (b = 950 ∧ j = 183) ∨ (1059 ≤ b ∧ b ≤ 1064)) (n : sy_R s2) : sm_R O s2 := by
  have f : l2_fr (fun b j => (946 ≤ b ∧ b ≤ 949) ∨ (b = 950 ∧ j = 183) ∨ (1059 ≤ b ∧ b ≤ 1064)) s s2 := (f1.mono (fun b j x => Or.inl (hP b j x))).trans (f2.mono (fun b j x => Or.inr (hQ b j x)))
  obtain ⟨a, b, c, d, e, g⟩ := h
  exact ⟨n, b.fr f (by omega) (by omega) (fun i => by omega) (fun i => by omega), c.fr f (by omega) (by omega) (fun i => by omega) (fun i => by omega), d.fr f (by omega) (by omega) (fun i => by omega) (fun i => by omega), e.fr f (by omega) (by omega) (fun i => by omega) (fun i => by omega), hO s s2 (f.mono (fun b j x => by unfold sm_W; omega)) g⟩
theorem sm_text {O : t_S → Prop} (hO : ∀ s s', l2_fr sm_W s s' → O s → O s') {s s1 s2 : t_S} (h : sm_R O s) (f1 : l2_fr tx_Wc s s1) (f2 : l2_fr tx_Wr s1 s2) (n : tx_R s2) : sm_R O s2 := by
  have f : l2_fr (fun b j => b = 2 ∨ b = 951 ∨ (b = 1 ∧ j = 1) ∨ (b = 950 ∧ j = 1)) s s2 := (f1.mono (fun b j x => by unfold tx_Wc at x; omega)).trans (f2.mono (fun b j x => by unfold tx_Wr at x; omega))
  obtain ⟨a, b, c, d, e, g⟩ := h
  exact ⟨a.fr f (by omega) (by omega) (fun i => by omega) (fun i => by omega) (fun i => by omega) (fun i => by omega), n, c.fr f (by omega) (by omega) (fun i => by omega) (fun i => by omega), d.fr f (by omega) (by omega) (fun i => by omega) (fun i => by omega), e.fr f (by omega) (by omega) (fun i => by omega) (fun i => by omega), hO s s2 (f.mono (fun b j x => by unfold sm_W; omega)) g⟩
theorem sm_bits {O : t_S → Prop} (hO : ∀ s s', l2_fr sm_W s s' → O s → O s') {s s1 s2 : t_S} (h : sm_R O s) (f1 : l2_fr cd_Wc s s1) (f2 : l2_fr cd_Wr s1 s2) (n : cd_R s2) : sm_R O s2 := by
  have f : l2_fr (fun b j => b = 858 ∨ b = 1020 ∨ (b = 856 ∧ j = 5) ∨ (b = 950 ∧ j = 121)) s s2 := (f1.mono (fun b j x => by unfold cd_Wc at x; omega)).trans (f2.mono (fun b j x => by unfold cd_Wr at x; omega))
  obtain ⟨a, b, c, d, e, g⟩ := h
  exact ⟨a.fr f (by omega) (by omega) (fun i => by omega) (fun i => by omega) (fun i => by omega) (fun i => by omega), b.fr f (by omega) (by omega) (fun i => by omega) (fun i => by omega), n, d.fr f (by omega) (by omega) (fun i => by omega) (fun i => by omega), e.fr f (by omega) (by omega) (fun i => by omega) (fun i => by omega), hO s s2 (f.mono (fun b j x => by unfold sm_W; omega)) g⟩
theorem L_s_feed {O : t_S → Prop} (hO : ∀ s s', l2_fr sm_W s s' → O s → O s') : lw_s_feed (l2_RR (sm_R O)) (l2_RR (sm_R O)) := fun x1 x2 x3 x4 x5 => l2_lwE (fx := fun s => f_X12_feed x1 x2 x3 x4 x5 s) (fy := fun s => f_X13_feed x1 x2 x3 x4 x5 s) (by decide) (by decide) (fun s r h => C_X12_feed x1 x2 x3 x4 x5 s r h) (fun s r h => C_X13_feed x1 x2 x3 x4 x5 s r h) (fun s h => l2_imp (tx_feed h.2.1 x1 x2 x3 x4 x5) (fun r q => l2_imp q.2 (fun r' p => ⟨p.1, sm_text hO h q.1 p.2.1 p.2.2⟩)))
theorem L_s_end {O : t_S → Prop} (hO : ∀ s s', l2_fr sm_W s s' → O s → O s') : lw_s_end (l2_RR (sm_R O)) (l2_RR (sm_R O)) := fun x1 => l2_lwE (fx := fun s => f_X12_end x1 s) (fy := fun s => f_X13_end x1 s) (by decide) (by decide) (fun s r h => C_X12_end x1 s r h) (fun s r h => C_X13_end x1 s r h) (fun s h => l2_imp (tx_end h.2.1 x1) (fun r q => l2_imp q.2 (fun r' p => ⟨p.1, sm_text hO h q.1 p.2.1 p.2.2⟩)))
theorem L_s_bits {O : t_S → Prop} (hO : ∀ s s', l2_fr sm_W s s' → O s → O s') : lw_s_bits (l2_RR (sm_R O)) (l2_RR (sm_R O)) := fun x1 x2 => l2_lwE (fx := fun s => f_X12_bits x1 x2 s) (fy := fun s => f_X13_bits x1 x2 s) (by decide) (by decide) (fun s r h => C_X12_bits x1 x2 s r h) (fun s r h => C_X13_bits x1 x2 s r h) (fun s h => l2_imp (cd_bits h.2.2.1 x1 x2) (fun r q => l2_imp q.2 (fun r' p => ⟨p.1, sm_bits hO h q.1 p.2.1 p.2.2⟩)))
theorem L_s_noBits {O : t_S → Prop} (hO : ∀ s s', l2_fr sm_W s s' → O s → O s') : lw_s_noBits (l2_RR (sm_R O)) (l2_RR (sm_R O)) := l2_lwE (fx := fun s => f_X12_noBits  s) (fy := fun s => f_X13_noBits  s) (by decide) (by decide) (fun s r h => C_X12_noBits  s r h) (fun s r h => C_X13_noBits  s r h) (fun s h => l2_imp (cd_noBits h.2.2.1 ) (fun r q => l2_imp q.2 (fun r' p => ⟨p.1, sm_bits hO h q.1 p.2.1 p.2.2⟩)))
theorem L_s_move {O : t_S → Prop} (hO : ∀ s s', l2_fr sm_W s s' → O s → O s') : lw_s_move (l2_RR (sm_R O)) (l2_RR (sm_R O)) := fun x1 x2 x3 x4 x5 _ => l2_lwE (fx := fun s => f_X12_move x1 x2 x3 x4 x5 s) (fy := fun s => f_X13_move x1 x2 x3 x4 x5 s) (by decide) (by decide) (fun s r h => C_X12_move x1 x2 x3 x4 x5 s r h) (fun s r h => C_X13_move x1 x2 x3 x4 x5 s r h) (fun s h => l2_imp (sy_move h.1 x1 x2 x3 x4 x5) (fun r q => l2_imp q.2 (fun r' p => ⟨p.1, sm_sys hO h q.1 p.2.1 (fun b j x => by unfold sy_Vc at x; omega) (fun b j x => by unfold sy_Vr at x; omega) p.2.2⟩)))
theorem L_s_conforms {O : t_S → Prop} (hO : ∀ s s', l2_fr sm_W s s' → O s → O s') : lw_s_conforms (l2_RR (sm_R O)) (l2_RR (sm_R O)) := fun x1 x2 => l2_lwE (fx := fun s => f_X12_conforms x1 x2 s) (fy := fun s => f_X13_conforms x1 x2 s) (by decide) (by decide) (fun s r h => C_X12_conforms x1 x2 s r h) (fun s r h => C_X13_conforms x1 x2 s r h) (fun s h => l2_imp (sy_conforms h.1 x1 x2) (fun r q => l2_imp q.2 (fun r' p => ⟨p.1, sm_sys hO h q.1 p.2.1 (fun b j x => by unfold sy_Wc at x; omega) (fun b j x => by unfold sy_Wr at x; omega) p.2.2⟩)))
theorem L_s_bit {O : t_S → Prop} : lw_s_bit (l2_RR (sm_R O)) (l2_RR (sm_R O)) := fun x1 => l2_lwP (fx := fun s => f_X12_bit x1 s) (fy := fun s => f_X13_bit x1 s) (by decide) (by decide) (fun s r h => C_X12_bit x1 s r h) (fun s r h => C_X13_bit x1 s r h) (fun s h => ⟨cd_bit h.2.2.1 x1, h⟩)
theorem L_s_letter {O : t_S → Prop} : lw_s_letter (l2_RR (sm_R O)) (l2_RR (sm_R O)) := fun x1 => l2_lwP (fx := fun s => f_X12_letter x1 s) (fy := fun s => f_X13_letter x1 s) (by decide) (by decide) (fun s r h => C_X12_letter x1 s r h) (fun s r h => C_X13_letter x1 s r h) (fun s h => ⟨hd_letter h.2.2.2.1 x1, h⟩)
theorem L_s_why {O : t_S → Prop} : lw_s_why (l2_RR (sm_R O)) (l2_RR (sm_R O)) := fun x1 => l2_lwP (fx := fun s => f_X12_why x1 s) (fy := fun s => f_X13_why x1 s) (by decide) (by decide) (fun s r h => C_X12_why x1 s r h) (fun s r h => C_X13_why x1 s r h) (fun s h => ⟨wy_why h.2.2.2.2.1 x1, h⟩)
theorem L_s_row {O : t_S → Prop} : lw_s_row (l2_RR (sm_R O)) (l2_RR (sm_R O)) := fun x1 => l2_lwP (fx := fun s => f_X12_row x1 s) (fy := fun s => f_X13_row x1 s) (by decide) (by decide) (fun s r h => C_X12_row x1 s r h) (fun s r h => C_X13_row x1 s r h) (fun s h => ⟨sy_row h.1 x1, h⟩)
theorem L_s_can {O : t_S → Prop} : lw_s_can (l2_RR (sm_R O)) (l2_RR (sm_R O)) := fun x1 x2 x3 => l2_lwP (fx := fun s => f_X12_can x1 x2 x3 s) (fy := fun s => f_X13_can x1 x2 x3 s) (by decide) (by decide) (fun s r h => C_X12_can x1 x2 x3 s r h) (fun s r h => C_X13_can x1 x2 x3 s r h) (fun s h => ⟨sy_can h.1 x1 x2 x3, h⟩)
