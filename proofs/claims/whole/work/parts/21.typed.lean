/-! The memory once both objects are made: 1065 cells whose shape never changes; ints, longs and the few references that change, by cell and place. -/
abbrev t_D : Type := Nat × Nat × List (Nat × Nat)
abbrev t_S : Type := (Nat → Nat → Int32) × (Nat → Nat → Int64) × (Nat → Nat → Nat)
def t_lA : List t_D := [(18, 0, [(2, 1), (2, 12), (2, 316), (2, 334), (2, 353), (2, 428), (2, 845), (2, 856), (2, 864), (2, 946), (0, 0), (0, 0), (0, 0)]), (8, 0, [(2, 2), (0, 0), (0, 0), (2, 3), (2, 4), (2, 5), (0, 0), (0, 0), (0, 0), (0, 0), (1, 0), (0, 0), (0, 0), (0, 0), (2, 6), (2, 7), (2, 8), (2, 9), (2, 10), (2, 11)]), (0, 12000, []), (1, 12001, []), (1, 12001, []), (2, 12001, []), (1, 8000, []), (3, 8000, []), (2, 8000, []), (1, 8000, []), (1, 8000, []), (1, 16384, []), (14, 0, [(2, 13), (2, 14), (0, 0), (2, 15), (0, 0), (0, 0)]), (2, 190680, []), (1, 1589, []), (5, 300, [(16, 1)])]
def t_lB : List t_D := [(17, 0, [(2, 317), (2, 318), (2, 319), (2, 320), (2, 321), (2, 322), (2, 323), (2, 324), (0, 0), (2, 325), (0, 0), (2, 326), (2, 327), (0, 0), (2, 328), (0, 0), (2, 329), (2, 330), (2, 331), (2, 332), (2, 333)]), (1, 3001, []), (1, 3001, []), (1, 3001, []), (1, 3001, []), (1, 3001, []), (2, 3001, []), (2, 3001, []), (1, 3001, []), (1, 6002, []), (1, 60, []), (1, 60, []), (2, 63021, []), (2, 42, []), (2, 2820, []), (2, 2820, []), (1, 1000, []), (1, 120, []), (6, 0, [(2, 335), (2, 336), (0, 0), (2, 337), (0, 0), (2, 338), (2, 339), (0, 0), (2, 340), (2, 341), (2, 342), (0, 0), (0, 0), (0, 0), (0, 0), (3, 0), (0, 0), (1, 0), (0, 0), (2, 12), (2, 353)]), (1, 16000, []), (1, 16000, []), (2, 26000, []), (2, 48000, []), (1, 3201, []), (2, 240, []), (2, 240, []), (1, 124, []), (10, 0, [(0, 0), (0, 0), (0, 0), (0, 0), (0, 0), (0, 0), (0, 0), (2, 344), (2, 345), (2, 346), (0, 0), (2, 347), (2, 348), (2, 349), (2, 350), (2, 351), (2, 352)]), (1, 8, []), (1, 8, []), (1, 8, []), (1, 4, []), (1, 6, []), (1, 6, []), (1, 6, []), (1, 48, []), (2, 4, []), (16, 0, [(2, 354), (2, 355), (2, 356), (2, 357), (2, 358), (2, 359), (2, 360), (2, 361), (2, 362), (0, 0), (2, 363), (0, 0), (2, 424), (0, 0), (3, 0), (0, 0), (2, 425), (0, 0), (2, 426), (2, 427), (0, 0), (2, 334)]), (1, 6100, []), (1, 6100, []), (1, 6100, []), (1, 6100, []), (1, 6100, []), (1, 6100, []), (3, 6100, []), (2, 6100, []), (2, 6100, []), (5, 60, [(364, 1)])]
def t_lC : List t_D := [(1, 7320, []), (1, 240, []), (1, 1212, []), (1, 16, []), (11, 0, [(0, 0), (2, 429), (2, 430), (2, 431), (2, 432), (2, 433), (2, 434), (2, 435), (2, 436), (0, 0), (2, 437), (2, 438), (2, 439), (2, 440), (2, 441), (2, 442), (2, 443), (2, 444), (0, 0)]), (1, 8, []), (1, 48, []), (1, 8, []), (1, 32, []), (1, 8, []), (1, 64, []), (1, 64, []), (1, 64, []), (1, 40, []), (1, 40, []), (1, 40, []), (1, 40, []), (1, 40, []), (1, 320, []), (1, 320, []), (5, 400, [(445, 1)])]
def t_lE : List t_D := [(12, 0, [(2, 1), (2, 316), (2, 353), (2, 334), (2, 428), (2, 846), (2, 854), (0, 0), (2, 855), (0, 0), (0, 0), (0, 0), (0, 0), (0, 0), (0, 0), (0, 0), (0, 0)]), (9, 0, [(2, 1), (2, 316), (2, 353), (2, 334), (2, 428), (2, 847), (0, 0), (0, 0), (0, 0)]), (5, 6, [(848, 1)]), (1, 6002, []), (1, 6002, []), (1, 6002, []), (1, 6002, []), (1, 6002, []), (1, 6002, []), (1, 6004, []), (1, 288, []), (7, 0, [(2, 1), (2, 316), (2, 857), (0, 0), (2, 858), (0, 0), (2, 859), (0, 0), (0, 0), (0, 0), (0, 0), (2, 860), (2, 861), (2, 862), (2, 863), (0, 0)]), (0, 4000, []), (0, 8000, []), (2, 240, []), (2, 240, []), (1, 240, []), (1, 240, []), (1, 240, []), (13, 0, [(2, 12), (2, 316), (2, 334), (2, 353), (2, 428), (2, 865), (0, 0), (1, 0), (0, 0), (0, 0), (0, 0), (0, 0)]), (4, 8, [(866, 10)])]
def t_lF : List t_D := [(15, 0, [(2, 947), (2, 948), (2, 949), (0, 0)]), (1, 256, []), (1, 65536, []), (1, 65537, []), (19, 0, [(2, 951), (0, 0), (0, 0), (0, 0), (0, 0), (0, 0), (0, 0), (0, 0), (1, 0), (0, 0), (0, 0), (2, 952), (2, 953), (2, 954), (0, 0), (0, 0), (0, 0), (2, 955), (2, 956), (2, 957), (2, 958), (2, 959), (2, 960), (2, 961), (0, 0), (2, 962), (0, 0), (0, 0), (0, 0), (0, 0), (0, 0), (0, 0), (0, 0), (0, 0), (0, 0), (2, 963), (0, 0), (2, 964), (2, 965), (2, 966), (0, 0), (2, 967), (2, 968), (2, 969), (0, 0), (2, 970), (2, 971), (2, 972), (2, 973), (2, 974), (2, 975), (2, 976), (2, 977), (2, 978), (2, 979), (0, 0), (2, 980), (2, 981), (2, 982), (2, 983), (2, 984), (2, 985), (2, 986), (2, 987), (0, 0), (0, 0), (2, 988), (2, 989), (2, 990), (2, 991), (2, 992), (2, 993), (2, 994), (2, 995), (2, 996), (2, 997), (2, 998), (2, 999), (2, 1000), (2, 1001), (2, 1002), (0, 0), (0, 0), (0, 0), (0, 0), (2, 1003), (0, 0), (0, 0), (0, 0), (0, 0), (0, 0), (2, 1004), (2, 1005), (0, 0), (0, 0), (2, 1006), (0, 0), (0, 0), (0, 0), (2, 1007), (0, 0), (0, 0), (2, 1008), (0, 0), (2, 1009), (2, 1010), (0, 0), (2, 1011), (0, 0), (2, 1012), (2, 1013), (2, 1014), (2, 1015), (2, 1016), (0, 0), (2, 1017), (2, 1018), (0, 0), (2, 1019), (0, 0), (2, 1020), (0, 0), (2, 1021), (2, 1022), (2, 1023), (0, 0), (0, 0), (0, 0), (1, 0), (0, 0), (2, 1024), (2, 1025), (2, 1026), (0, 0), (2, 1027), (0, 0), (2, 1028), (0, 0), (0, 0), (2, 1029), (2, 1030), (0, 0), (2, 1031), (2, 1032), (2, 1033), (2, 1034), (0, 0), (0, 0), (1, 0), (0, 0), (2, 1035), (2, 1036), (2, 1037), (2, 1038), (2, 1039), (2, 1040), (2, 1041), (2, 1042), (2, 1043), (2, 1044), (2, 1045), (2, 1046), (2, 1047), (2, 1048), (2, 1049), (2, 1050), (2, 1051), (2, 1052), (2, 1053), (2, 1054), (2, 1055), (1, 0), (1, 0), (2, 1056), (0, 0), (2, 1057), (0, 0), (2, 1058), (0, 0), (0, 0), (0, 0), (2, 1059), (2, 1060), (0, 0), (0, 0), (0, 0), (2, 1061), (2, 1062), (2, 1063), (2, 1064)]), (1, 12000, []), (1, 8200, []), (1, 8200, []), (1, 24300, []), (1, 13000, []), (1, 13000, []), (2, 13000, []), (2, 13000, []), (1, 13000, []), (1, 13000, []), (1, 13000, []), (1, 13000, []), (1, 24300, []), (1, 60, []), (1, 60, []), (1, 60, []), (1, 60, []), (1, 60, []), (1, 60, []), (1, 8, []), (1, 48, []), (1, 8, []), (1, 32, []), (1, 8, []), (1, 64, []), (1, 64, []), (1, 64, []), (1, 64, []), (1, 8, []), (1, 40, []), (1, 40, []), (1, 40, []), (1, 40, []), (1, 320, []), (1, 40, []), (1, 40, []), (1, 40, []), (1, 401, []), (1, 401, []), (1, 401, []), (1, 401, []), (1, 401, []), (1, 401, []), (1, 401, []), (1, 401, []), (1, 401, []), (1, 401, []), (1, 401, []), (1, 401, []), (1, 401, []), (1, 401, []), (1, 401, []), (1, 13000, []), (3, 13000, []), (1, 60, []), (2, 626600, []), (2, 8600, []), (1, 13000, []), (1, 20, []), (1, 20000, []), (2, 13000, []), (3, 13000, []), (1, 13000, []), (1, 3100, []), (2, 150200, []), (2, 150200, []), (2, 273000, []), (3, 273000, []), (2, 8421, []), (3, 8600, []), (1, 400, []), (1, 400, []), (2, 400, []), (2, 8600, []), (1, 20, []), (1, 13000, []), (2, 370000, []), (1, 577000, []), (1, 270, []), (1, 60, []), (1, 16, []), (1, 16, []), (3, 16, []), (1, 130, []), (1, 8, []), (1, 8, []), (1, 8, []), (1, 8, []), (1, 64, []), (1, 64, []), (1, 64, []), (1, 8, []), (1, 32, []), (1, 8, []), (1, 8, []), (1, 48, []), (1, 48, []), (1, 384, []), (1, 48, []), (1, 48, []), (2, 32, []), (1, 300, []), (1, 300, []), (1, 300, []), (3, 300, []), (3, 64, []), (2, 3100, []), (3, 512, []), (1, 256, []), (1, 66000, []), (1, 65600, []), (1, 65600, []), (1, 65600, []), (3, 65536, [])]
def t_lP : List t_D := [(9, 0, []), (1, 8, []), (1, 8, []), (1, 8, []), (1, 4, []), (1, 6, []), (1, 6, []), (1, 6, []), (1, 48, []), (2, 4, [])]
def t_pt (k j : Nat) : t_D := if j = 0 then (10, 0, [(0, 0), (0, 0), (0, 0), (0, 0), (0, 0), (0, 0), (0, 0), (2, k + 1), (2, k + 2), (2, k + 3), (0, 0), (2, k + 4), (2, k + 5), (2, k + 6), (2, k + 7), (2, k + 8), (2, k + 9)]) else t_lP.getD j (9, 0, [])
def t_sh (k : Nat) : t_D := if k < 16 then t_lA.getD k (9, 0, []) else if k < 316 then (1, 3, []) else if k < 364 then t_lB.getD (k - 316) (9, 0, []) else if k < 424 then (1, 7, []) else if k < 445 then t_lC.getD (k - 424) (9, 0, []) else if k < 845 then (1, 12, []) else if k < 866 then t_lE.getD (k - 845) (9, 0, []) else if k < 946 then t_pt k ((k - 866) % 10) else t_lF.getD (k - 946) (9, 0, [])
def t_v (s : t_S) (k i : Nat) (q : Nat × Nat) : Value := if q.1 = 0 then .int (s.1 k i) else if q.1 = 1 then .long (s.2.1 k i) else if q.1 = 2 then .ref q.2 else .ref (s.2.2 k i)
def t_fl (s : t_S) (k : Nat) (fs : List (Nat × Nat)) : List Value := (List.range fs.length).map (fun i => t_v s k i (fs.getD i (9, 0)))
def t_e (s : t_S) (k : Nat) (d : t_D) : va_E :=
  if d.1 = 2 then .inl (2, d.2.1, .inr (.inl (s.2.1 k)))
  else if d.1 < 4 then .inl (d.1, d.2.1, .inl (s.1 k))
  else if d.1 < 6 then .inl (d.1, d.2.1, .inr (.inr (.inr (.inr (fun i => if i < d.2.1 then some ((d.2.2.getD 0 (0, 0)).1 + (d.2.2.getD 0 (0, 0)).2 * i) else none)))))
  else .inr (d.1 - 6, t_fl s k d.2.2)
/-- the memory that these numbers are -/
def t_m (s : t_S) : mj_H := fun k => t_e s k (t_sh k)
def t_setI (s : t_S) (a k : Nat) (v : Int32) : t_S := (va_up s.1 a (va_up (s.1 a) k v), s.2)
def t_setJ (s : t_S) (a k : Nat) (v : Int64) : t_S := (s.1, va_up s.2.1 a (va_up (s.2.1 a) k v), s.2.2)
def t_setR (s : t_S) (a k : Nat) (v : Nat) : t_S := (s.1, s.2.1, va_up s.2.2 a (va_up (s.2.2 a) k v))
def t_okf (a ci kf kd : Nat) : Bool := decide (a < 1065) && ((t_sh a).1 == ci + 6 && (decide (kf < (t_sh a).2.2.length) && ((t_sh a).2.2.getD kf (9, 0)).1 == kd))
def t_okr (a ci kf b : Nat) : Bool := decide (a < 1065) && ((t_sh a).1 == ci + 6 && (decide (kf < (t_sh a).2.2.length) && (t_sh a).2.2.getD kf (9, 0) == (2, b)))
def t_oka (a ty len : Nat) : Bool := decide (a < 1065) && ((t_sh a).1 == ty && (t_sh a).2.1 == len)
def t_okq (a ty len b k : Nat) : Bool := decide (a < 1065) && ((t_sh a).1 == ty && ((t_sh a).2.1 == len && (t_sh a).2.2 == [(b, k)]))
def t_okc (a ci : Nat) : Bool := decide (a < 1065) && (t_sh a).1 == ci + 6
theorem t_e_obj {s : t_S} {k ci : Nat} {d : t_D} (h : d.1 = ci + 6) : t_e s k d = .inr (ci, t_fl s k d.2.2) := by
  unfold t_e
  rw [if_neg (by omega), if_neg (by omega), if_neg (by omega), h, Nat.add_sub_cancel]
theorem t_c {s : t_S} {a ci : Nat} (h : t_okc a ci = true) : a < 1065 ∧ t_m s a = .inr (ci, t_fl s a (t_sh a).2.2) := by
  simp only [t_okc, Bool.and_eq_true, decide_eq_true_eq, beq_iff_eq] at h
  exact ⟨h.1, t_e_obj h.2⟩
theorem t_fl_at {s : t_S} {a kf : Nat} {fs : List (Nat × Nat)} (h : kf < fs.length) : (t_fl s a fs)[kf]? = some (t_v s a kf (fs.getD kf (9, 0))) := by
  unfold t_fl
  rw [List.getElem?_map, List.getElem?_range h]
  rfl
theorem t_fl_len {s : t_S} {a : Nat} {fs : List (Nat × Nat)} : (t_fl s a fs).length = fs.length := by simp [t_fl]
theorem t_f {s : t_S} {a ci kf kd : Nat} (h : t_okf a ci kf kd = true) : a < 1065 ∧ t_m s a = .inr (ci, t_fl s a (t_sh a).2.2) ∧ kf < (t_sh a).2.2.length ∧ ((t_sh a).2.2.getD kf (9, 0)).1 = kd ∧ (t_fl s a (t_sh a).2.2)[kf]? = some (t_v s a kf ((t_sh a).2.2.getD kf (9, 0))) := by
  simp only [t_okf, Bool.and_eq_true, decide_eq_true_eq, beq_iff_eq] at h
  exact ⟨h.1, t_e_obj h.2.1, h.2.2.1, h.2.2.2, t_fl_at h.2.2.1⟩
theorem t_r {s : t_S} {a ci kf b : Nat} (h : t_okr a ci kf b = true) : a < 1065 ∧ t_m s a = .inr (ci, t_fl s a (t_sh a).2.2) ∧ (t_fl s a (t_sh a).2.2)[kf]? = some (.ref b) := by
  simp only [t_okr, Bool.and_eq_true, decide_eq_true_eq, beq_iff_eq] at h
  refine ⟨h.1, t_e_obj h.2.1, ?_⟩
  rw [t_fl_at h.2.2.1, h.2.2.2]
  rfl
theorem t_upf {s s2 : t_S} {a ci kf : Nat} {v : Value} (hs : (t_sh a).1 = ci + 6) (hk : kf < (t_sh a).2.2.length) (hv : t_v s2 a kf ((t_sh a).2.2.getD kf (9, 0)) = v) (ho : ∀ i, i ≠ kf → ∀ q, t_v s2 a i q = t_v s a i q) (hn : ∀ k, k ≠ a → s2.1 k = s.1 k ∧ s2.2.1 k = s.2.1 k ∧ s2.2.2 k = s.2.2 k) : va_up (t_m s) a (.inr (ci, (t_fl s a (t_sh a).2.2).set kf v)) = t_m s2 := by
  funext k
  by_cases e : k = a
  · subst e
    rw [mj_up_eq]
    show _ = t_e s2 k (t_sh k)
    rw [t_e_obj hs]
    congr 2
    apply List.ext_getElem?
    intro i
    by_cases hi : i < (t_sh k).2.2.length
    · by_cases e2 : i = kf
      · subst e2
        rw [List.getElem?_set_self (by rw [t_fl_len]; exact hk), t_fl_at hk, hv]
      · rw [List.getElem?_set_ne (fun z => e2 z.symm), t_fl_at hi, t_fl_at hi, ho i e2]
    · rw [List.getElem?_eq_none (by rw [List.length_set, t_fl_len]; omega), List.getElem?_eq_none (by rw [t_fl_len]; omega)]
  · rw [mj_up_ne _ _ e]
    obtain ⟨h1, h2, h3⟩ := hn k e
    show t_e s k (t_sh k) = t_e s2 k (t_sh k)
    unfold t_e t_fl t_v
    rw [h1, h2, h3]
theorem t_upI {s : t_S} {a ci kf : Nat} {v : Int32} (h : t_okf a ci kf 0 = true) : va_up (t_m s) a (.inr (ci, (t_fl s a (t_sh a).2.2).set kf (.int v))) = t_m (t_setI s a kf v) := by
  have h0 := h
  simp only [t_okf, Bool.and_eq_true, decide_eq_true_eq, beq_iff_eq] at h
  refine t_upf h.2.1 h.2.2.1 ?_ (fun i hi q => ?_) (fun k hk => ⟨show va_up s.1 a _ k = s.1 k from mj_up_ne _ _ hk, rfl, rfl⟩)
  · have e1 : (t_setI s a kf v).1 a kf = v := by
      show va_up s.1 a (va_up (s.1 a) kf v) a kf = v
      rw [mj_up_eq, mj_up_eq]
    unfold t_v
    rw [if_pos h.2.2.2, e1]
  · have e1 : (t_setI s a kf v).1 a i = s.1 a i := by
      show va_up s.1 a (va_up (s.1 a) kf v) a i = _
      rw [mj_up_eq, mj_up_ne _ _ hi]
    unfold t_v
    rw [e1]
    rfl
theorem t_upJ {s : t_S} {a ci kf : Nat} {v : Int64} (h : t_okf a ci kf 1 = true) : va_up (t_m s) a (.inr (ci, (t_fl s a (t_sh a).2.2).set kf (.long v))) = t_m (t_setJ s a kf v) := by
  have h0 := h
  simp only [t_okf, Bool.and_eq_true, decide_eq_true_eq, beq_iff_eq] at h
  refine t_upf h.2.1 h.2.2.1 ?_ (fun i hi q => ?_) (fun k hk => ⟨rfl, show va_up s.2.1 a _ k = s.2.1 k from mj_up_ne _ _ hk, rfl⟩)
  · have e1 : (t_setJ s a kf v).2.1 a kf = v := by
      show va_up s.2.1 a (va_up (s.2.1 a) kf v) a kf = v
      rw [mj_up_eq, mj_up_eq]
    unfold t_v
    rw [if_neg (by rw [h.2.2.2]; decide), if_pos h.2.2.2, e1]
  · have e1 : (t_setJ s a kf v).2.1 a i = s.2.1 a i := by
      show va_up s.2.1 a (va_up (s.2.1 a) kf v) a i = _
      rw [mj_up_eq, mj_up_ne _ _ hi]
    unfold t_v
    rw [e1]
    rfl
theorem t_upR {s : t_S} {a ci kf : Nat} {v : Nat} (h : t_okf a ci kf 3 = true) : va_up (t_m s) a (.inr (ci, (t_fl s a (t_sh a).2.2).set kf (.ref v))) = t_m (t_setR s a kf v) := by
  have h0 := h
  simp only [t_okf, Bool.and_eq_true, decide_eq_true_eq, beq_iff_eq] at h
  refine t_upf h.2.1 h.2.2.1 ?_ (fun i hi q => ?_) (fun k hk => ⟨rfl, rfl, show va_up s.2.2 a _ k = s.2.2 k from mj_up_ne _ _ hk⟩)
  · have e1 : (t_setR s a kf v).2.2 a kf = v := by
      show va_up s.2.2 a (va_up (s.2.2 a) kf v) a kf = v
      rw [mj_up_eq, mj_up_eq]
    unfold t_v
    rw [if_neg (by rw [h.2.2.2]; decide), if_neg (by rw [h.2.2.2]; decide), if_neg (by rw [h.2.2.2]; decide), e1]
  · have e1 : (t_setR s a kf v).2.2 a i = s.2.2 a i := by
      show va_up s.2.2 a (va_up (s.2.2 a) kf v) a i = _
      rw [mj_up_eq, mj_up_ne _ _ hi]
    unfold t_v
    rw [e1]
    rfl
theorem t_a {s : t_S} {a ty len : Nat} (h : t_oka a ty len = true) (h2 : ty ≠ 2) (h4 : ty < 4) : a < 1065 ∧ t_m s a = .inl (ty, len, .inl (s.1 a)) := by
  simp only [t_oka, Bool.and_eq_true, decide_eq_true_eq, beq_iff_eq] at h
  refine ⟨h.1, ?_⟩
  show t_e s a (t_sh a) = _
  unfold t_e
  rw [if_neg (by omega), if_pos (by omega), h.2.1, h.2.2]
theorem t_aJ {s : t_S} {a len : Nat} (h : t_oka a 2 len = true) : a < 1065 ∧ t_m s a = .inl (2, len, .inr (.inl (s.2.1 a))) := by
  simp only [t_oka, Bool.and_eq_true, decide_eq_true_eq, beq_iff_eq] at h
  refine ⟨h.1, ?_⟩
  show t_e s a (t_sh a) = _
  unfold t_e
  rw [if_pos h.2.1, h.2.2]
theorem t_q {s : t_S} {a ty len b k : Nat} (h : t_okq a ty len b k = true) (h4 : 4 ≤ ty) (h6 : ty < 6) : a < 1065 ∧ t_m s a = .inl (ty, len, .inr (.inr (.inr (.inr (fun i => if i < len then some (b + k * i) else none))))) := by
  simp only [t_okq, Bool.and_eq_true, decide_eq_true_eq, beq_iff_eq] at h
  refine ⟨h.1, ?_⟩
  show t_e s a (t_sh a) = _
  unfold t_e
  rw [if_neg (by omega), if_neg (by omega), if_pos (by omega), h.2.1, h.2.2.1, h.2.2.2]
  rfl
theorem t_upa {s : t_S} {a ty len i : Nat} {v : Int32} (h : t_oka a ty len = true) (h2 : ty ≠ 2) (h4 : ty < 4) : va_up (t_m s) a (.inl (ty, len, .inl (va_up (s.1 a) i v))) = t_m (t_setI s a i v) := by
  have h0 := h
  simp only [t_oka, Bool.and_eq_true, decide_eq_true_eq, beq_iff_eq] at h
  funext k
  by_cases e : k = a
  · subst e
    rw [mj_up_eq, (t_a (s := t_setI s k i v) h0 h2 h4).2]
    rw [show (t_setI s k i v).1 k = va_up (s.1 k) i v from mj_up_eq s.1 k _]
  · rw [mj_up_ne _ _ e]
    show t_e s k (t_sh k) = t_e (t_setI s a i v) k (t_sh k)
    have e1 : (t_setI s a i v).1 k = s.1 k := mj_up_ne s.1 _ e
    unfold t_e t_fl t_v
    rw [e1]
    rfl
theorem t_upaJ {s : t_S} {a len i : Nat} {v : Int64} (h : t_oka a 2 len = true) : va_up (t_m s) a (.inl (2, len, .inr (.inl (va_up (s.2.1 a) i v)))) = t_m (t_setJ s a i v) := by
  have h0 := h
  simp only [t_oka, Bool.and_eq_true, decide_eq_true_eq, beq_iff_eq] at h
  funext k
  by_cases e : k = a
  · subst e
    rw [mj_up_eq, (t_aJ (s := t_setJ s k i v) h0).2]
    rw [show (t_setJ s k i v).2.1 k = va_up (s.2.1 k) i v from mj_up_eq s.2.1 k _]
  · rw [mj_up_ne _ _ e]
    show t_e s k (t_sh k) = t_e (t_setJ s a i v) k (t_sh k)
    have e1 : (t_setJ s a i v).2.1 k = s.2.1 k := mj_up_ne s.2.1 _ e
    unfold t_e t_fl t_v
    rw [e1]
    rfl
def t_P (post : Option Value → t_S → Prop) : Option Value → mj_H → Prop := fun v h => ∃ s, h = t_m s ∧ post v s
section T
variable {D : va_G} {cy : Nat → ClassId} {ad : Nat → Nat} {bs : Nat} {X : State → Heap → Prop} {cc : ByteArray} {nL : Nat} {own : String} {rt : Option FieldType} {nm : String} {d mc ms : Nat} {post : Option Value → t_S → Prop} {pc : Nat} {lv : List (Nat × Value)} {st : List Value} {s : t_S} {cells slots : Nat}
theorem t_getI {idx ci kf a : Nat} {ty : FieldType} {fin : Bool} (hd : decode cc pc = .ok (.getfield idx, 3)) (f : mj_fl own idx ci kf ty fin) (hs : t_okf a ci kf 0 = true) (kk : mj_G D cy ad bs X cc nL own rt nm d mc ms 1065 (t_P post) (pc + 3) lv (.int (s.1 a kf) :: st) (t_m s) 1065 cells slots) : mj_G D cy ad bs X cc nL own rt nm d mc ms 1065 (t_P post) (pc) lv (.ref a :: st) (t_m s) 1065 cells slots := by
  obtain ⟨h1, h2, h3, h4, h5⟩ := t_f (s := s) hs
  refine mj_get hd f h1 h2 (h5.trans ?_) kk
  unfold t_v
  rw [if_pos h4]
theorem t_getJ {idx ci kf a : Nat} {ty : FieldType} {fin : Bool} (hd : decode cc pc = .ok (.getfield idx, 3)) (f : mj_fl own idx ci kf ty fin) (hs : t_okf a ci kf 1 = true) (kk : mj_G D cy ad bs X cc nL own rt nm d mc ms 1065 (t_P post) (pc + 3) lv (.long (s.2.1 a kf) :: st) (t_m s) 1065 cells slots) : mj_G D cy ad bs X cc nL own rt nm d mc ms 1065 (t_P post) (pc) lv (.ref a :: st) (t_m s) 1065 cells slots := by
  obtain ⟨h1, h2, h3, h4, h5⟩ := t_f (s := s) hs
  refine mj_get hd f h1 h2 (h5.trans ?_) kk
  unfold t_v
  rw [if_neg (by omega), if_pos h4]
theorem t_getD {idx ci kf a : Nat} {ty : FieldType} {fin : Bool} (hd : decode cc pc = .ok (.getfield idx, 3)) (f : mj_fl own idx ci kf ty fin) (hs : t_okf a ci kf 3 = true) (kk : mj_G D cy ad bs X cc nL own rt nm d mc ms 1065 (t_P post) (pc + 3) lv (.ref (s.2.2 a kf) :: st) (t_m s) 1065 cells slots) : mj_G D cy ad bs X cc nL own rt nm d mc ms 1065 (t_P post) (pc) lv (.ref a :: st) (t_m s) 1065 cells slots := by
  obtain ⟨h1, h2, h3, h4, h5⟩ := t_f (s := s) hs
  refine mj_get hd f h1 h2 (h5.trans ?_) kk
  unfold t_v
  rw [if_neg (by omega), if_neg (by omega), if_neg (by omega)]
theorem t_getR {idx ci kf a : Nat} {ty : FieldType} {fin : Bool} (b : Nat) (hd : decode cc pc = .ok (.getfield idx, 3)) (f : mj_fl own idx ci kf ty fin) (hs : t_okr a ci kf b = true) (kk : mj_G D cy ad bs X cc nL own rt nm d mc ms 1065 (t_P post) (pc + 3) lv (.ref b :: st) (t_m s) 1065 cells slots) : mj_G D cy ad bs X cc nL own rt nm d mc ms 1065 (t_P post) (pc) lv (.ref a :: st) (t_m s) 1065 cells slots := by
  obtain ⟨h1, h2, h3⟩ := t_r (s := s) hs
  exact mj_get hd f h1 h2 h3 kk
theorem t_putI {idx ci kf a : Nat} {ty : FieldType} {v : Int32} (hd : decode cc pc = .ok (.putfield idx, 3)) (f : mj_fl own idx ci kf ty false) (hs : t_okf a ci kf 0 = true) (hft : mj_fit ty (.int v) = true) (kk : mj_G D cy ad bs X cc nL own rt nm d mc ms 1065 (t_P post) (pc + 3) lv (st) (t_m (t_setI s a kf v)) 1065 cells slots) : mj_G D cy ad bs X cc nL own rt nm d mc ms 1065 (t_P post) (pc) lv (.int v :: .ref a :: st) (t_m s) 1065 cells slots := by
  obtain ⟨h1, h2, h3, h4, h5⟩ := t_f (s := s) hs
  refine mj_put hd f h1 h2 hft (by rw [t_fl_len]; exact h3) ?_
  rw [t_upI hs]
  exact kk
theorem t_putJ {idx ci kf a : Nat} {ty : FieldType} {v : Int64} (hd : decode cc pc = .ok (.putfield idx, 3)) (f : mj_fl own idx ci kf ty false) (hs : t_okf a ci kf 1 = true) (hft : mj_fit ty (.long v) = true) (kk : mj_G D cy ad bs X cc nL own rt nm d mc ms 1065 (t_P post) (pc + 3) lv (st) (t_m (t_setJ s a kf v)) 1065 cells slots) : mj_G D cy ad bs X cc nL own rt nm d mc ms 1065 (t_P post) (pc) lv (.long v :: .ref a :: st) (t_m s) 1065 cells slots := by
  obtain ⟨h1, h2, h3, h4, h5⟩ := t_f (s := s) hs
  refine mj_put hd f h1 h2 hft (by rw [t_fl_len]; exact h3) ?_
  rw [t_upJ hs]
  exact kk
theorem t_putD {idx ci kf a : Nat} {ty : FieldType} {v : Nat} (hd : decode cc pc = .ok (.putfield idx, 3)) (f : mj_fl own idx ci kf ty false) (hs : t_okf a ci kf 3 = true) (hft : mj_fit ty (.ref v) = true) (kk : mj_G D cy ad bs X cc nL own rt nm d mc ms 1065 (t_P post) (pc + 3) lv (st) (t_m (t_setR s a kf v)) 1065 cells slots) : mj_G D cy ad bs X cc nL own rt nm d mc ms 1065 (t_P post) (pc) lv (.ref v :: .ref a :: st) (t_m s) 1065 cells slots := by
  obtain ⟨h1, h2, h3, h4, h5⟩ := t_f (s := s) hs
  refine mj_put hd f h1 h2 hft (by rw [t_fl_len]; exact h3) ?_
  rw [t_upR hs]
  exact kk
theorem t_iald {a len : Nat} {i : Int32} (hd : decode cc pc = .ok (.iaload, 1)) (hs : t_oka a 1 len = true) (hi : vp_in i len) (kk : mj_G D cy ad bs X cc nL own rt nm d mc ms 1065 (t_P post) (pc + 1) lv (.int (s.1 a i.toNatClampNeg) :: st) (t_m s) 1065 cells slots) : mj_G D cy ad bs X cc nL own rt nm d mc ms 1065 (t_P post) (pc) lv (.int i :: .ref a :: st) (t_m s) 1065 cells slots := by
  obtain ⟨h1, h2⟩ := t_a (s := s) hs (by decide) (by decide)
  exact mj_iald hd h1 h2 hi kk
theorem t_bald {a len : Nat} {i : Int32} (hd : decode cc pc = .ok (.baload, 1)) (hs : t_oka a 0 len = true) (hi : vp_in i len) (kk : mj_G D cy ad bs X cc nL own rt nm d mc ms 1065 (t_P post) (pc + 1) lv (.int (s.1 a i.toNatClampNeg) :: st) (t_m s) 1065 cells slots) : mj_G D cy ad bs X cc nL own rt nm d mc ms 1065 (t_P post) (pc) lv (.int i :: .ref a :: st) (t_m s) 1065 cells slots := by
  obtain ⟨h1, h2⟩ := t_a (s := s) hs (by decide) (by decide)
  exact mj_bald hd h1 h2 hi kk
theorem t_zald {a len : Nat} {i : Int32} (hd : decode cc pc = .ok (.baload, 1)) (hs : t_oka a 3 len = true) (hi : vp_in i len) (kk : mj_G D cy ad bs X cc nL own rt nm d mc ms 1065 (t_P post) (pc + 1) lv (.int (s.1 a i.toNatClampNeg) :: st) (t_m s) 1065 cells slots) : mj_G D cy ad bs X cc nL own rt nm d mc ms 1065 (t_P post) (pc) lv (.int i :: .ref a :: st) (t_m s) 1065 cells slots := by
  obtain ⟨h1, h2⟩ := t_a (s := s) hs (by decide) (by decide)
  exact mj_zald hd h1 h2 hi kk
theorem t_lald {a len : Nat} {i : Int32} (hd : decode cc pc = .ok (.laload, 1)) (hs : t_oka a 2 len = true) (hi : vp_in i len) (kk : mj_G D cy ad bs X cc nL own rt nm d mc ms 1065 (t_P post) (pc + 1) lv (.long (s.2.1 a i.toNatClampNeg) :: st) (t_m s) 1065 cells slots) : mj_G D cy ad bs X cc nL own rt nm d mc ms 1065 (t_P post) (pc) lv (.int i :: .ref a :: st) (t_m s) 1065 cells slots := by
  obtain ⟨h1, h2⟩ := t_aJ (s := s) hs
  exact mj_lald hd h1 h2 hi kk
theorem t_aaldP {a len b k : Nat} {i : Int32} (hd : decode cc pc = .ok (.aaload, 1)) (hs : t_okq a 4 len b k = true) (hi : vp_in i len) (kk : mj_G D cy ad bs X cc nL own rt nm d mc ms 1065 (t_P post) (pc + 1) lv (.ref (b + k * i.toNatClampNeg) :: st) (t_m s) 1065 cells slots) : mj_G D cy ad bs X cc nL own rt nm d mc ms 1065 (t_P post) (pc) lv (.int i :: .ref a :: st) (t_m s) 1065 cells slots := by
  obtain ⟨h1, h2⟩ := t_q (s := s) hs (by decide) (by decide)
  have hlt : i.toNatClampNeg < len := Nat.not_le.mp fun q => hi (Or.inr q)
  exact mj_aald hd h1 h2 hi (if_pos hlt) kk
theorem t_aaldI {a len b k : Nat} {i : Int32} (hd : decode cc pc = .ok (.aaload, 1)) (hs : t_okq a 5 len b k = true) (hi : vp_in i len) (kk : mj_G D cy ad bs X cc nL own rt nm d mc ms 1065 (t_P post) (pc + 1) lv (.ref (b + k * i.toNatClampNeg) :: st) (t_m s) 1065 cells slots) : mj_G D cy ad bs X cc nL own rt nm d mc ms 1065 (t_P post) (pc) lv (.int i :: .ref a :: st) (t_m s) 1065 cells slots := by
  obtain ⟨h1, h2⟩ := t_q (s := s) hs (by decide) (by decide)
  have hlt : i.toNatClampNeg < len := Nat.not_le.mp fun q => hi (Or.inr q)
  exact mj_aaldI hd h1 h2 hi (if_pos hlt) kk
theorem t_iast {a len : Nat} {i x : Int32} (hd : decode cc pc = .ok (.iastore, 1)) (hs : t_oka a 1 len = true) (hi : vp_in i len) (kk : mj_G D cy ad bs X cc nL own rt nm d mc ms 1065 (t_P post) (pc + 1) lv (st) (t_m (t_setI s a i.toNatClampNeg x)) 1065 cells slots) : mj_G D cy ad bs X cc nL own rt nm d mc ms 1065 (t_P post) (pc) lv (.int x :: .int i :: .ref a :: st) (t_m s) 1065 cells slots := by
  obtain ⟨h1, h2⟩ := t_a (s := s) hs (by decide) (by decide)
  refine mj_iast hd h1 h2 hi ?_
  rw [t_upa hs (by decide) (by decide)]
  exact kk
theorem t_bast {a len : Nat} {i x : Int32} (hd : decode cc pc = .ok (.bastore, 1)) (hs : t_oka a 0 len = true) (hi : vp_in i len) (kk : mj_G D cy ad bs X cc nL own rt nm d mc ms 1065 (t_P post) (pc + 1) lv (st) (t_m (t_setI s a i.toNatClampNeg (x.toInt8.toInt32))) 1065 cells slots) : mj_G D cy ad bs X cc nL own rt nm d mc ms 1065 (t_P post) (pc) lv (.int x :: .int i :: .ref a :: st) (t_m s) 1065 cells slots := by
  obtain ⟨h1, h2⟩ := t_a (s := s) hs (by decide) (by decide)
  refine mj_bast hd h1 h2 hi ?_
  rw [t_upa hs (by decide) (by decide)]
  exact kk
theorem t_zast {a len : Nat} {i x : Int32} (hd : decode cc pc = .ok (.bastore, 1)) (hs : t_oka a 3 len = true) (hi : vp_in i len) (hx : x = 0 ∨ x = 1) (kk : mj_G D cy ad bs X cc nL own rt nm d mc ms 1065 (t_P post) (pc + 1) lv (st) (t_m (t_setI s a i.toNatClampNeg x)) 1065 cells slots) : mj_G D cy ad bs X cc nL own rt nm d mc ms 1065 (t_P post) (pc) lv (.int x :: .int i :: .ref a :: st) (t_m s) 1065 cells slots := by
  obtain ⟨h1, h2⟩ := t_a (s := s) hs (by decide) (by decide)
  refine mj_zastA hd h1 h2 hi hx (fun h2 q o => ?_)
  have e : h2 = t_m (t_setI s a i.toNatClampNeg x) := by
    rw [← t_upa hs (by decide) (by decide)]
    funext k
    by_cases e : k = a
    · subst e; rw [mj_up_eq, q]
    · rw [mj_up_ne _ _ e, o k e]
  rw [e]
  exact kk
theorem t_last {a len : Nat} {i : Int32} {x : Int64} (hd : decode cc pc = .ok (.lastore, 1)) (hs : t_oka a 2 len = true) (hi : vp_in i len) (kk : mj_G D cy ad bs X cc nL own rt nm d mc ms 1065 (t_P post) (pc + 1) lv (st) (t_m (t_setJ s a i.toNatClampNeg x)) 1065 cells slots) : mj_G D cy ad bs X cc nL own rt nm d mc ms 1065 (t_P post) (pc) lv (.long x :: .int i :: .ref a :: st) (t_m s) 1065 cells slots := by
  obtain ⟨h1, h2⟩ := t_aJ (s := s) hs
  refine mj_last hd h1 h2 hi ?_
  rw [t_upaJ hs]
  exact kk
theorem t_alen0 {a len : Nat} {v : Int32} (hd : decode cc pc = .ok (.arraylength, 1)) (hs : t_oka a 0 len = true) (hv : Int32.ofNat len = v) (kk : mj_G D cy ad bs X cc nL own rt nm d mc ms 1065 (t_P post) (pc + 1) lv (.int v :: st) (t_m s) 1065 cells slots) : mj_G D cy ad bs X cc nL own rt nm d mc ms 1065 (t_P post) (pc) lv (.ref a :: st) (t_m s) 1065 cells slots := by
  obtain ⟨h1, h2⟩ := t_a (s := s) hs (by decide) (by decide)
  exact mj_alen0 hd h1 h2 hv kk
theorem t_alen1 {a len : Nat} {v : Int32} (hd : decode cc pc = .ok (.arraylength, 1)) (hs : t_oka a 1 len = true) (hv : Int32.ofNat len = v) (kk : mj_G D cy ad bs X cc nL own rt nm d mc ms 1065 (t_P post) (pc + 1) lv (.int v :: st) (t_m s) 1065 cells slots) : mj_G D cy ad bs X cc nL own rt nm d mc ms 1065 (t_P post) (pc) lv (.ref a :: st) (t_m s) 1065 cells slots := by
  obtain ⟨h1, h2⟩ := t_a (s := s) hs (by decide) (by decide)
  exact mj_alen1 hd h1 h2 hv kk
theorem t_alen3 {a len : Nat} {v : Int32} (hd : decode cc pc = .ok (.arraylength, 1)) (hs : t_oka a 3 len = true) (hv : Int32.ofNat len = v) (kk : mj_G D cy ad bs X cc nL own rt nm d mc ms 1065 (t_P post) (pc + 1) lv (.int v :: st) (t_m s) 1065 cells slots) : mj_G D cy ad bs X cc nL own rt nm d mc ms 1065 (t_P post) (pc) lv (.ref a :: st) (t_m s) 1065 cells slots := by
  obtain ⟨h1, h2⟩ := t_a (s := s) hs (by decide) (by decide)
  exact mj_alen3 hd h1 h2 hv kk
theorem t_alen2 {a len : Nat} {v : Int32} (hd : decode cc pc = .ok (.arraylength, 1)) (hs : t_oka a 2 len = true) (hv : Int32.ofNat len = v) (kk : mj_G D cy ad bs X cc nL own rt nm d mc ms 1065 (t_P post) (pc + 1) lv (.int v :: st) (t_m s) 1065 cells slots) : mj_G D cy ad bs X cc nL own rt nm d mc ms 1065 (t_P post) (pc) lv (.ref a :: st) (t_m s) 1065 cells slots := by
  obtain ⟨h1, h2⟩ := t_aJ (s := s) hs
  exact mj_alen2 hd h1 h2 hv kk
end T
/-- a method's contract from these numbers: no cell is made -/
def t_C (y : MethodName) (cc : ByteArray) (maxL : Nat) (rt : Option FieldType) (d : Nat) (vs : List Value) (s : t_S) (post : Option Value → t_S → Prop) : Prop := mj_C y cc maxL rt d 0 0 vs (t_m s) 1065 (t_P post)
theorem t_C.of {y : MethodName} {cc : ByteArray} {maxL : Nat} {rt : Option FieldType} {d : Nat} {vs : List Value} {s : t_S} {post : Option Value → t_S → Prop} (hy : plainName y.cls = true) (hsz : (lg_sl vs).length ≤ maxL)
    (body : ∀ (D : va_G) (cy : Nat → ClassId) (ad : Nat → Nat) (bs : Nat) (X : State → Heap → Prop), mj_G D cy ad bs X cc maxL y.cls rt y.name d 0 0 1065 (t_P post) 0 (lv_args 0 vs) [] (t_m s) 1065 0 0) : t_C y cc maxL rt d vs s post :=
  mj_C.of hy hsz body
theorem mj_C.imp {y : MethodName} {cc : ByteArray} {maxL : Nat} {rt : Option FieldType} {d mc ms : Nat} {vs : List Value} {h : mj_H} {n : Nat} {P Q : Option Value → mj_H → Prop} (hC : mj_C y cc maxL rt d mc ms vs h n P) (hi : ∀ v h', P v h' → Q v h') : mj_C y cc maxL rt d mc ms vs h n Q := by
  intro D cy ad bs X l E p e h1 h2 h3 s m args below hf ha hp hT
  obtain ⟨n', o, hw, hst, hend, ⟨⟨v, h', e1, e2, e3⟩, e4⟩, e5⟩ := hC D cy ad bs X l E p e h1 h2 h3 s m args below hf ha hp trivial
  exact ⟨n', o, hw, hst, hend, ⟨⟨v, h', e1, hi v h' e2, e3⟩, e4⟩, e5⟩
theorem t_C.imp {y : MethodName} {cc : ByteArray} {maxL : Nat} {rt : Option FieldType} {d : Nat} {vs : List Value} {s : t_S} {P Q : Option Value → t_S → Prop} (hC : t_C y cc maxL rt d vs s P) (hi : ∀ v s', P v s' → Q v s') : t_C y cc maxL rt d vs s Q :=
  mj_C.imp hC (fun v h' ⟨s', e, hp⟩ => ⟨s', e, hi v s' hp⟩)
section T2
variable {D : va_G} {cy : Nat → ClassId} {ad : Nat → Nat} {bs : Nat} {X : State → Heap → Prop} {cc : ByteArray} {nL : Nat} {own : String} {rt : Option FieldType} {nm : String} {d mc ms : Nat} {post : Option Value → t_S → Prop} {pc : Nat} {lv : List (Nat × Value)} {st : List Value} {s : t_S} {cells slots : Nat} {y : MethodName} {cc2 : ByteArray} {maxL2 : Nat} {rt2 : Option FieldType} {d2 na idx : Nat} {As sk : List Value} {post2 : Option Value → t_S → Prop}
theorem t_callV {a ci : Nat} (hd : decode cc pc = .ok (.invokevirtual idx, 3)) (f : mj_mf y cc2 maxL2 rt2 na) (hC : t_C y cc2 maxL2 rt2 d2 (.ref a :: As) s post2) (hlk : Cond.methodLink own idx y ∈ mj_TG) (hi : Cond.instanceMethod y ∈ mj_TG) (hse : Cond.selects y.cls y y ∈ mj_TG) (ha : t_okc a ci = true) (hci : (vwCl[ci]?).map (fun q => q.1) = some y.cls) (hna : As.length = na) (hsk : sk = As.reverse ++ .ref a :: st) (hdd : d2 + 1 ≤ d) (hst : (st.map fun v => v.category).sum ≤ 8) (hcs : cells ≤ mc) (hss : slots ≤ ms) (kk : ∀ (v : Option Value) (s2 : t_S), post2 v s2 → mj_G D cy ad bs X cc nL own rt nm d mc ms 1065 (t_P post) (pc + 3) lv (v.toList ++ st) (t_m s2) 1065 cells slots) : mj_G D cy ad bs X cc nL own rt nm d mc ms 1065 (t_P post) (pc) lv (sk) (t_m s) 1065 cells slots := by
  obtain ⟨h1, h2⟩ := t_c (s := s) ha
  refine mj_callV hd f hC hlk hi hse h1 h2 hci hna hsk hdd hst hcs hss (fun v h' hp => ?_)
  obtain ⟨s2, rfl, hp⟩ := hp
  exact kk v s2 hp
theorem t_callS (hd : decode cc pc = .ok (.invokestatic idx, 3)) (f : mj_mf y cc2 maxL2 rt2 na) (hC : t_C y cc2 maxL2 rt2 d2 As s post2) (hlk : Cond.methodLink own idx y ∈ mj_TG) (hi : Cond.static y ∈ mj_TG) (hna : As.length = na) (hsk : sk = As.reverse ++ st) (hdd : d2 + 1 ≤ d) (hst : (st.map fun v => v.category).sum ≤ 8) (hcs : cells ≤ mc) (hss : slots ≤ ms) (kk : ∀ (v : Option Value) (s2 : t_S), post2 v s2 → mj_G D cy ad bs X cc nL own rt nm d mc ms 1065 (t_P post) (pc + 3) lv (v.toList ++ st) (t_m s2) 1065 cells slots) : mj_G D cy ad bs X cc nL own rt nm d mc ms 1065 (t_P post) (pc) lv (sk) (t_m s) 1065 cells slots := by
  refine mj_callS hd f hC hlk hi hna hsk hdd hst hcs hss (fun v h' hp => ?_)
  obtain ⟨s2, rfl, hp⟩ := hp
  exact kk v s2 hp
theorem t_iret {x : Int32} {ty : FieldType} (hd : decode cc pc = .ok (.ireturn, 1)) (hr : rt = some ty) (hf : mj_fit ty (.int x) = true) (hp : post (some (.int x)) s) (hc : cells ≤ mc) (hs : slots ≤ ms) : mj_G D cy ad bs X cc nL own rt nm d mc ms 1065 (t_P post) (pc) lv ([.int x]) (t_m s) 1065 cells slots := mj_iret hd hr hf ⟨s, rfl, hp⟩ rfl hc hs
theorem t_lret {x : Int64} (hd : decode cc pc = .ok (.lreturn, 1)) (hr : rt = some .long) (hp : post (some (.long x)) s) (hc : cells ≤ mc) (hs : slots ≤ ms) : mj_G D cy ad bs X cc nL own rt nm d mc ms 1065 (t_P post) (pc) lv ([.long x]) (t_m s) 1065 cells slots := mj_lret hd hr ⟨s, rfl, hp⟩ rfl hc hs
theorem t_vret (hd : decode cc pc = .ok (.return_, 1)) (hr : rt = none) (hp : post none s) (hc : cells ≤ mc) (hs : slots ≤ ms) : mj_G D cy ad bs X cc nL own rt nm d mc ms 1065 (t_P post) (pc) lv ([]) (t_m s) 1065 cells slots := mj_vret hd hr ⟨s, rfl, hp⟩ rfl hc hs
end T2
