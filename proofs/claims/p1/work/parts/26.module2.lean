theorem qa_951 : t_oka 951 1 12000 = true := by decide +kernel
theorem qf_950_10 : t_okf 950 13 10 0 = true := by decide +kernel
theorem qf_950_108 : t_okf 950 13 108 0 = true := by decide +kernel
theorem qf_950_117 : t_okf 950 13 117 0 = true := by decide +kernel
theorem qf_950_14 : t_okf 950 13 14 0 = true := by decide +kernel
theorem qf_950_15 : t_okf 950 13 15 0 = true := by decide +kernel
theorem qf_950_16 : t_okf 950 13 16 0 = true := by decide +kernel
theorem qf_950_24 : t_okf 950 13 24 0 = true := by decide +kernel
theorem qf_950_26 : t_okf 950 13 26 0 = true := by decide +kernel
theorem qf_950_27 : t_okf 950 13 27 0 = true := by decide +kernel
theorem qf_950_28 : t_okf 950 13 28 0 = true := by decide +kernel
theorem qf_950_29 : t_okf 950 13 29 0 = true := by decide +kernel
theorem qf_950_3 : t_okf 950 13 3 0 = true := by decide +kernel
theorem qf_950_30 : t_okf 950 13 30 0 = true := by decide +kernel
theorem qf_950_36 : t_okf 950 13 36 0 = true := by decide +kernel
theorem qf_950_4 : t_okf 950 13 4 0 = true := by decide +kernel
theorem qf_950_40 : t_okf 950 13 40 0 = true := by decide +kernel
theorem qf_950_44 : t_okf 950 13 44 0 = true := by decide +kernel
theorem qf_950_5 : t_okf 950 13 5 0 = true := by decide +kernel
theorem qf_950_55 : t_okf 950 13 55 0 = true := by decide +kernel
theorem qf_950_6 : t_okf 950 13 6 0 = true := by decide +kernel
theorem qf_950_64 : t_okf 950 13 64 0 = true := by decide +kernel
theorem qf_950_7 : t_okf 950 13 7 0 = true := by decide +kernel
theorem qf_950_81 : t_okf 950 13 81 0 = true := by decide +kernel
theorem qf_950_82 : t_okf 950 13 82 0 = true := by decide +kernel
theorem qf_950_83 : t_okf 950 13 83 0 = true := by decide +kernel
theorem qf_950_84 : t_okf 950 13 84 0 = true := by decide +kernel
theorem qf_950_88 : t_okf 950 13 88 0 = true := by decide +kernel
theorem qf_950_90 : t_okf 950 13 90 0 = true := by decide +kernel
theorem qr_950_0 : t_okr 950 13 0 951 = true := by decide +kernel
theorem dX13_feed_0 : decode cX13_feed 0 = .ok (.aload_n 0, 1) := by decide +kernel
theorem dX13_feed_1 : decode cX13_feed 1 = .ok (.getfield 366, 3) := by decide +kernel
theorem dX13_feed_10 : decode cX13_feed 10 = .ok (.if_icmp .le 6, 3) := by decide +kernel
theorem dX13_feed_100 : decode cX13_feed 100 = .ok (.dup, 1) := by decide +kernel
theorem dX13_feed_101 : decode cX13_feed 101 = .ok (.getfield 366, 3) := by decide +kernel
theorem dX13_feed_104 : decode cX13_feed 104 = .ok (.iconst 1, 1) := by decide +kernel
theorem dX13_feed_105 : decode cX13_feed 105 = .ok (.iadd, 1) := by decide +kernel
theorem dX13_feed_106 : decode cX13_feed 106 = .ok (.putfield 366, 3) := by decide +kernel
theorem dX13_feed_109 : decode cX13_feed 109 = .ok (.iinc 6 1, 3) := by decide +kernel
theorem dX13_feed_112 : decode cX13_feed 112 = .ok (.goto (-93), 3) := by decide +kernel
theorem dX13_feed_115 : decode cX13_feed 115 = .ok (.aload_n 0, 1) := by decide +kernel
theorem dX13_feed_116 : decode cX13_feed 116 = .ok (.getfield 366, 3) := by decide +kernel
theorem dX13_feed_119 : decode cX13_feed 119 = .ok (.ireturn, 1) := by decide +kernel
theorem dX13_feed_16 : decode cX13_feed 16 = .ok (.iconst 0, 1) := by decide +kernel
theorem dX13_feed_17 : decode cX13_feed 17 = .ok (.istore 6, 2) := by decide +kernel
theorem dX13_feed_19 : decode cX13_feed 19 = .ok (.iload 6, 2) := by decide +kernel
theorem dX13_feed_21 : decode cX13_feed 21 = .ok (.bipush 20, 2) := by decide +kernel
theorem dX13_feed_23 : decode cX13_feed 23 = .ok (.if_icmp .ge 92, 3) := by decide +kernel
theorem dX13_feed_26 : decode cX13_feed 26 = .ok (.iload 6, 2) := by decide +kernel
theorem dX13_feed_28 : decode cX13_feed 28 = .ok (.iconst 4, 1) := by decide +kernel
theorem dX13_feed_29 : decode cX13_feed 29 = .ok (.if_icmp .ge 7, 3) := by decide +kernel
theorem dX13_feed_32 : decode cX13_feed 32 = .ok (.iload_n 1, 1) := by decide +kernel
theorem dX13_feed_33 : decode cX13_feed 33 = .ok (.goto 39, 3) := by decide +kernel
theorem dX13_feed_36 : decode cX13_feed 36 = .ok (.iload 6, 2) := by decide +kernel
theorem dX13_feed_38 : decode cX13_feed 38 = .ok (.bipush 8, 2) := by decide +kernel
theorem dX13_feed_4 : decode cX13_feed 4 = .ok (.bipush 20, 2) := by decide +kernel
theorem dX13_feed_40 : decode cX13_feed 40 = .ok (.if_icmp .ge 7, 3) := by decide +kernel
theorem dX13_feed_43 : decode cX13_feed 43 = .ok (.iload_n 2, 1) := by decide +kernel
theorem dX13_feed_44 : decode cX13_feed 44 = .ok (.goto 28, 3) := by decide +kernel
theorem dX13_feed_47 : decode cX13_feed 47 = .ok (.iload 6, 2) := by decide +kernel
theorem dX13_feed_49 : decode cX13_feed 49 = .ok (.bipush 12, 2) := by decide +kernel
theorem dX13_feed_51 : decode cX13_feed 51 = .ok (.if_icmp .ge 7, 3) := by decide +kernel
theorem dX13_feed_54 : decode cX13_feed 54 = .ok (.iload_n 3, 1) := by decide +kernel
theorem dX13_feed_55 : decode cX13_feed 55 = .ok (.goto 17, 3) := by decide +kernel
theorem dX13_feed_58 : decode cX13_feed 58 = .ok (.iload 6, 2) := by decide +kernel
theorem dX13_feed_6 : decode cX13_feed 6 = .ok (.iadd, 1) := by decide +kernel
theorem dX13_feed_60 : decode cX13_feed 60 = .ok (.bipush 16, 2) := by decide +kernel
theorem dX13_feed_62 : decode cX13_feed 62 = .ok (.if_icmp .ge 8, 3) := by decide +kernel
theorem dX13_feed_65 : decode cX13_feed 65 = .ok (.iload 4, 2) := by decide +kernel
theorem dX13_feed_67 : decode cX13_feed 67 = .ok (.goto 5, 3) := by decide +kernel
theorem dX13_feed_7 : decode cX13_feed 7 = .ok (.sipush 12000, 3) := by decide +kernel
theorem dX13_feed_70 : decode cX13_feed 70 = .ok (.iload 5, 2) := by decide +kernel
theorem dX13_feed_72 : decode cX13_feed 72 = .ok (.istore 7, 2) := by decide +kernel
theorem dX13_feed_74 : decode cX13_feed 74 = .ok (.aload_n 0, 1) := by decide +kernel
theorem dX13_feed_75 : decode cX13_feed 75 = .ok (.getfield 7, 3) := by decide +kernel
theorem dX13_feed_78 : decode cX13_feed 78 = .ok (.aload_n 0, 1) := by decide +kernel
theorem dX13_feed_79 : decode cX13_feed 79 = .ok (.getfield 366, 3) := by decide +kernel
theorem dX13_feed_82 : decode cX13_feed 82 = .ok (.iload 7, 2) := by decide +kernel
theorem dX13_feed_84 : decode cX13_feed 84 = .ok (.bipush 8, 2) := by decide +kernel
theorem dX13_feed_86 : decode cX13_feed 86 = .ok (.iconst 3, 1) := by decide +kernel
theorem dX13_feed_87 : decode cX13_feed 87 = .ok (.iload 6, 2) := by decide +kernel
theorem dX13_feed_89 : decode cX13_feed 89 = .ok (.iconst 4, 1) := by decide +kernel
theorem dX13_feed_90 : decode cX13_feed 90 = .ok (.irem, 1) := by decide +kernel
theorem dX13_feed_91 : decode cX13_feed 91 = .ok (.isub, 1) := by decide +kernel
theorem dX13_feed_92 : decode cX13_feed 92 = .ok (.imul, 1) := by decide +kernel
theorem dX13_feed_93 : decode cX13_feed 93 = .ok (.ishr, 1) := by decide +kernel
theorem dX13_feed_94 : decode cX13_feed 94 = .ok (.sipush 255, 3) := by decide +kernel
theorem dX13_feed_97 : decode cX13_feed 97 = .ok (.iand, 1) := by decide +kernel
theorem dX13_feed_98 : decode cX13_feed 98 = .ok (.iastore, 1) := by decide +kernel
theorem dX13_feed_99 : decode cX13_feed 99 = .ok (.aload_n 0, 1) := by decide +kernel
set_option maxRecDepth 4000 in
set_option maxHeartbeats 400000 in
theorem N_X13_feed (s : t_S) (x1 : Int32) (x2 : Int32) (x3 : Int32) (x4 : Int32) (x5 : Int32) (h_I_950_1 : s.1 950 1 = 0) : t_C yX13_feed cX13_feed 8 (some .int) 0 [.ref 950, .int x1, .int x2, .int x3, .int x4, .int x5] s (fun v s' => v = some (.int 20) ∧ t_keep [950, 951] s s') := by
  refine t_C.of (by decide +kernel) (Nat.le_of_ble_eq_true rfl) ?_
  intro D cy ad bs X
  suffices main : ∀ post : Option Value → t_S → Prop, (∀ v s', (v = some (.int 20) ∧ t_keep [950, 951] s s') → post v s') → mj_G D cy ad bs X cX13_feed 8 yX13_feed.cls (some .int) yX13_feed.name 0 0 0 1065 (t_P post) 0 [(0, .ref 950), (1, .int x1), (2, .int x2), (3, .int x3), (4, .int x4), (5, .int x5)] [] (t_m s) 1065 0 0 from main _ (fun _ _ h => h)
  intro post hpost
  refine mj_aload_n dX13_feed_0 0 rfl ?_
  refine t_getI dX13_feed_1 F_X13_366 qf_950_1 ?_
  rw [h_I_950_1]
  refine mj_bipush (v := 20) dX13_feed_4 (by decide) ?_
  refine mj_iadd dX13_feed_6 ?_
  rw [show (0 : Int32) + 20 = 20 by decide]
  refine mj_sipush (v := 12000) dX13_feed_7 (by decide) ?_
  refine mj_icmp_le 16 dX13_feed_10 (by decide) (fun _ => ?_) (fun z => absurd (by decide) z)
  refine mj_iconst (v := 0) dX13_feed_16 (by decide) ?_
  refine mj_istore (lv2 := [(6, .int 0), (0, .ref 950), (1, .int x1), (2, .int x2), (3, .int x3), (4, .int x4), (5, .int x5)]) dX13_feed_17 (by decide) rfl ?_
  refine mj_iload dX13_feed_19 0 rfl ?_
  refine mj_bipush (v := 20) dX13_feed_21 (by decide) ?_
  refine mj_icmp_ge 115 dX13_feed_23 (by decide) (fun z => absurd z (by decide)) (fun _ => ?_)
  refine mj_iload dX13_feed_26 0 rfl ?_
  refine mj_iconst (v := 4) dX13_feed_28 (by decide) ?_
  refine mj_icmp_ge 36 dX13_feed_29 (by decide) (fun z => absurd z (by decide)) (fun _ => ?_)
  refine mj_iload_n dX13_feed_32 2 rfl ?_
  refine mj_goto 72 dX13_feed_33 (by decide) ?_
  refine mj_istore (lv2 := [(7, .int x1), (6, .int 0), (0, .ref 950), (1, .int x1), (2, .int x2), (3, .int x3), (4, .int x4), (5, .int x5)]) dX13_feed_72 (by decide) rfl ?_
  refine mj_aload_n dX13_feed_74 2 rfl ?_
  refine t_getR 951 dX13_feed_75 F_X13_7 qr_950_0 ?_
  refine mj_aload_n dX13_feed_78 2 rfl ?_
  refine t_getI dX13_feed_79 F_X13_366 qf_950_1 ?_
  rw [h_I_950_1]
  refine mj_iload dX13_feed_82 0 rfl ?_
  refine mj_bipush (v := 8) dX13_feed_84 (by decide) ?_
  refine mj_iconst (v := 3) dX13_feed_86 (by decide) ?_
  refine mj_iload dX13_feed_87 1 rfl ?_
  refine mj_iconst (v := 4) dX13_feed_89 (by decide) ?_
  refine mj_irem dX13_feed_90 (by decide) ?_
  rw [show (0 : Int32) - 0 / 4 * 4 = 0 by decide]
  refine mj_isub dX13_feed_91 ?_
  rw [show (3 : Int32) - 0 = 3 by decide]
  refine mj_imul dX13_feed_92 ?_
  rw [show (8 : Int32) * 3 = 24 by decide]
  refine mj_ishr dX13_feed_93 ?_
  refine mj_sipush (v := 255) dX13_feed_94 (by decide) ?_
  refine mj_iand dX13_feed_97 ?_
  refine t_iast dX13_feed_98 qa_951 (by unfold vp_in; decide) ?_
  rw [show (0 : Int32).toNatClampNeg = 0 by decide]
  obtain ⟨s1, w2⟩ : ∃ z, z = t_setI s 951 0 ((x1 >>> (24 &&& 31)) &&& 255) := ⟨_, rfl⟩
  rw [← w2]
  refine mj_aload_n dX13_feed_99 2 rfl ?_
  refine mj_dup dX13_feed_100 rfl ?_
  refine t_getI dX13_feed_101 F_X13_366 qf_950_1 ?_
  rw [((t_oI w2 950 1 rfl).trans h_I_950_1)]
  refine mj_iconst (v := 1) dX13_feed_104 (by decide) ?_
  refine mj_iadd dX13_feed_105 ?_
  rw [show (0 : Int32) + 1 = 1 by decide]
  refine t_putI dX13_feed_106 F_X13_366 qf_950_1 (by decide) ?_
  obtain ⟨s3, w4⟩ : ∃ z, z = t_setI s1 950 1 1 := ⟨_, rfl⟩
  rw [← w4]
  refine mj_iinc (k := 1) (v := 1) (lv2 := [(6, .int 1), (7, .int x1), (0, .ref 950), (1, .int x1), (2, .int x2), (3, .int x3), (4, .int x4), (5, .int x5)]) dX13_feed_109 rfl (by decide) (by decide) rfl ?_
  refine mj_goto 19 dX13_feed_112 (by decide) ?_
  refine mj_iload dX13_feed_19 0 rfl ?_
  refine mj_bipush (v := 20) dX13_feed_21 (by decide) ?_
  refine mj_icmp_ge 115 dX13_feed_23 (by decide) (fun z => absurd z (by decide)) (fun _ => ?_)
  refine mj_iload dX13_feed_26 0 rfl ?_
  refine mj_iconst (v := 4) dX13_feed_28 (by decide) ?_
  refine mj_icmp_ge 36 dX13_feed_29 (by decide) (fun z => absurd z (by decide)) (fun _ => ?_)
  refine mj_iload_n dX13_feed_32 3 rfl ?_
  refine mj_goto 72 dX13_feed_33 (by decide) ?_
  refine mj_istore (lv2 := [(7, .int x1), (6, .int 1), (0, .ref 950), (1, .int x1), (2, .int x2), (3, .int x3), (4, .int x4), (5, .int x5)]) dX13_feed_72 (by decide) rfl ?_
  refine mj_aload_n dX13_feed_74 2 rfl ?_
  refine t_getR 951 dX13_feed_75 F_X13_7 qr_950_0 ?_
  refine mj_aload_n dX13_feed_78 2 rfl ?_
  refine t_getI dX13_feed_79 F_X13_366 qf_950_1 ?_
  rw [(t_wI w4)]
  refine mj_iload dX13_feed_82 0 rfl ?_
  refine mj_bipush (v := 8) dX13_feed_84 (by decide) ?_
  refine mj_iconst (v := 3) dX13_feed_86 (by decide) ?_
  refine mj_iload dX13_feed_87 1 rfl ?_
  refine mj_iconst (v := 4) dX13_feed_89 (by decide) ?_
  refine mj_irem dX13_feed_90 (by decide) ?_
  rw [show (1 : Int32) - 1 / 4 * 4 = 1 by decide]
  refine mj_isub dX13_feed_91 ?_
  rw [show (3 : Int32) - 1 = 2 by decide]
  refine mj_imul dX13_feed_92 ?_
  rw [show (8 : Int32) * 2 = 16 by decide]
  refine mj_ishr dX13_feed_93 ?_
  refine mj_sipush (v := 255) dX13_feed_94 (by decide) ?_
  refine mj_iand dX13_feed_97 ?_
  refine t_iast dX13_feed_98 qa_951 (by unfold vp_in; decide) ?_
  rw [show (1 : Int32).toNatClampNeg = 1 by decide]
  obtain ⟨s5, w6⟩ : ∃ z, z = t_setI s3 951 1 ((x1 >>> (16 &&& 31)) &&& 255) := ⟨_, rfl⟩
  rw [← w6]
  refine mj_aload_n dX13_feed_99 2 rfl ?_
  refine mj_dup dX13_feed_100 rfl ?_
  refine t_getI dX13_feed_101 F_X13_366 qf_950_1 ?_
  rw [((t_oI w6 950 1 rfl).trans (t_wI w4))]
  refine mj_iconst (v := 1) dX13_feed_104 (by decide) ?_
  refine mj_iadd dX13_feed_105 ?_
  rw [show (1 : Int32) + 1 = 2 by decide]
  refine t_putI dX13_feed_106 F_X13_366 qf_950_1 (by decide) ?_
  obtain ⟨s7, w8⟩ : ∃ z, z = t_setI s5 950 1 2 := ⟨_, rfl⟩
  rw [← w8]
  refine mj_iinc (k := 1) (v := 2) (lv2 := [(6, .int 2), (7, .int x1), (0, .ref 950), (1, .int x1), (2, .int x2), (3, .int x3), (4, .int x4), (5, .int x5)]) dX13_feed_109 rfl (by decide) (by decide) rfl ?_
  refine mj_goto 19 dX13_feed_112 (by decide) ?_
  refine mj_iload dX13_feed_19 0 rfl ?_
  refine mj_bipush (v := 20) dX13_feed_21 (by decide) ?_
  refine mj_icmp_ge 115 dX13_feed_23 (by decide) (fun z => absurd z (by decide)) (fun _ => ?_)
  refine mj_iload dX13_feed_26 0 rfl ?_
  refine mj_iconst (v := 4) dX13_feed_28 (by decide) ?_
  refine mj_icmp_ge 36 dX13_feed_29 (by decide) (fun z => absurd z (by decide)) (fun _ => ?_)
  refine mj_iload_n dX13_feed_32 3 rfl ?_
  refine mj_goto 72 dX13_feed_33 (by decide) ?_
  refine mj_istore (lv2 := [(7, .int x1), (6, .int 2), (0, .ref 950), (1, .int x1), (2, .int x2), (3, .int x3), (4, .int x4), (5, .int x5)]) dX13_feed_72 (by decide) rfl ?_
  refine mj_aload_n dX13_feed_74 2 rfl ?_
  refine t_getR 951 dX13_feed_75 F_X13_7 qr_950_0 ?_
  refine mj_aload_n dX13_feed_78 2 rfl ?_
  refine t_getI dX13_feed_79 F_X13_366 qf_950_1 ?_
  rw [(t_wI w8)]
  refine mj_iload dX13_feed_82 0 rfl ?_
  refine mj_bipush (v := 8) dX13_feed_84 (by decide) ?_
  refine mj_iconst (v := 3) dX13_feed_86 (by decide) ?_
  refine mj_iload dX13_feed_87 1 rfl ?_
  refine mj_iconst (v := 4) dX13_feed_89 (by decide) ?_
  refine mj_irem dX13_feed_90 (by decide) ?_
  rw [show (2 : Int32) - 2 / 4 * 4 = 2 by decide]
  refine mj_isub dX13_feed_91 ?_
  rw [show (3 : Int32) - 2 = 1 by decide]
  refine mj_imul dX13_feed_92 ?_
  rw [show (8 : Int32) * 1 = 8 by decide]
  refine mj_ishr dX13_feed_93 ?_
  refine mj_sipush (v := 255) dX13_feed_94 (by decide) ?_
  refine mj_iand dX13_feed_97 ?_
  refine t_iast dX13_feed_98 qa_951 (by unfold vp_in; decide) ?_
  rw [show (2 : Int32).toNatClampNeg = 2 by decide]
  obtain ⟨s9, w10⟩ : ∃ z, z = t_setI s7 951 2 ((x1 >>> (8 &&& 31)) &&& 255) := ⟨_, rfl⟩
  rw [← w10]
  refine mj_aload_n dX13_feed_99 2 rfl ?_
  refine mj_dup dX13_feed_100 rfl ?_
  refine t_getI dX13_feed_101 F_X13_366 qf_950_1 ?_
  rw [((t_oI w10 950 1 rfl).trans (t_wI w8))]
  refine mj_iconst (v := 1) dX13_feed_104 (by decide) ?_
  refine mj_iadd dX13_feed_105 ?_
  rw [show (2 : Int32) + 1 = 3 by decide]
  refine t_putI dX13_feed_106 F_X13_366 qf_950_1 (by decide) ?_
  obtain ⟨s11, w12⟩ : ∃ z, z = t_setI s9 950 1 3 := ⟨_, rfl⟩
  rw [← w12]
  refine mj_iinc (k := 1) (v := 3) (lv2 := [(6, .int 3), (7, .int x1), (0, .ref 950), (1, .int x1), (2, .int x2), (3, .int x3), (4, .int x4), (5, .int x5)]) dX13_feed_109 rfl (by decide) (by decide) rfl ?_
  refine mj_goto 19 dX13_feed_112 (by decide) ?_
  refine mj_iload dX13_feed_19 0 rfl ?_
  refine mj_bipush (v := 20) dX13_feed_21 (by decide) ?_
  refine mj_icmp_ge 115 dX13_feed_23 (by decide) (fun z => absurd z (by decide)) (fun _ => ?_)
  refine mj_iload dX13_feed_26 0 rfl ?_
  refine mj_iconst (v := 4) dX13_feed_28 (by decide) ?_
  refine mj_icmp_ge 36 dX13_feed_29 (by decide) (fun z => absurd z (by decide)) (fun _ => ?_)
  refine mj_iload_n dX13_feed_32 3 rfl ?_
  refine mj_goto 72 dX13_feed_33 (by decide) ?_
  refine mj_istore (lv2 := [(7, .int x1), (6, .int 3), (0, .ref 950), (1, .int x1), (2, .int x2), (3, .int x3), (4, .int x4), (5, .int x5)]) dX13_feed_72 (by decide) rfl ?_
  refine mj_aload_n dX13_feed_74 2 rfl ?_
  refine t_getR 951 dX13_feed_75 F_X13_7 qr_950_0 ?_
  refine mj_aload_n dX13_feed_78 2 rfl ?_
  refine t_getI dX13_feed_79 F_X13_366 qf_950_1 ?_
  rw [(t_wI w12)]
  refine mj_iload dX13_feed_82 0 rfl ?_
  refine mj_bipush (v := 8) dX13_feed_84 (by decide) ?_
  refine mj_iconst (v := 3) dX13_feed_86 (by decide) ?_
  refine mj_iload dX13_feed_87 1 rfl ?_
  refine mj_iconst (v := 4) dX13_feed_89 (by decide) ?_
  refine mj_irem dX13_feed_90 (by decide) ?_
  rw [show (3 : Int32) - 3 / 4 * 4 = 3 by decide]
  refine mj_isub dX13_feed_91 ?_
  rw [show (3 : Int32) - 3 = 0 by decide]
  refine mj_imul dX13_feed_92 ?_
  rw [show (8 : Int32) * 0 = 0 by decide]
  refine mj_ishr dX13_feed_93 ?_
  refine mj_sipush (v := 255) dX13_feed_94 (by decide) ?_
  refine mj_iand dX13_feed_97 ?_
  refine t_iast dX13_feed_98 qa_951 (by unfold vp_in; decide) ?_
  rw [show (3 : Int32).toNatClampNeg = 3 by decide]
  obtain ⟨s13, w14⟩ : ∃ z, z = t_setI s11 951 3 ((x1 >>> (0 &&& 31)) &&& 255) := ⟨_, rfl⟩
  rw [← w14]
  refine mj_aload_n dX13_feed_99 2 rfl ?_
  refine mj_dup dX13_feed_100 rfl ?_
  refine t_getI dX13_feed_101 F_X13_366 qf_950_1 ?_
  rw [((t_oI w14 950 1 rfl).trans (t_wI w12))]
  refine mj_iconst (v := 1) dX13_feed_104 (by decide) ?_
  refine mj_iadd dX13_feed_105 ?_
  rw [show (3 : Int32) + 1 = 4 by decide]
  refine t_putI dX13_feed_106 F_X13_366 qf_950_1 (by decide) ?_
  obtain ⟨s15, w16⟩ : ∃ z, z = t_setI s13 950 1 4 := ⟨_, rfl⟩
  rw [← w16]
  refine mj_iinc (k := 1) (v := 4) (lv2 := [(6, .int 4), (7, .int x1), (0, .ref 950), (1, .int x1), (2, .int x2), (3, .int x3), (4, .int x4), (5, .int x5)]) dX13_feed_109 rfl (by decide) (by decide) rfl ?_
  refine mj_goto 19 dX13_feed_112 (by decide) ?_
  refine mj_iload dX13_feed_19 0 rfl ?_
  refine mj_bipush (v := 20) dX13_feed_21 (by decide) ?_
  refine mj_icmp_ge 115 dX13_feed_23 (by decide) (fun z => absurd z (by decide)) (fun _ => ?_)
  refine mj_iload dX13_feed_26 0 rfl ?_
  refine mj_iconst (v := 4) dX13_feed_28 (by decide) ?_
  refine mj_icmp_ge 36 dX13_feed_29 (by decide) (fun _ => ?_) (fun z => absurd (by decide) z)
  refine mj_iload dX13_feed_36 0 rfl ?_
  refine mj_bipush (v := 8) dX13_feed_38 (by decide) ?_
  refine mj_icmp_ge 47 dX13_feed_40 (by decide) (fun z => absurd z (by decide)) (fun _ => ?_)
  refine mj_iload_n dX13_feed_43 4 rfl ?_
  refine mj_goto 72 dX13_feed_44 (by decide) ?_
  refine mj_istore (lv2 := [(7, .int x2), (6, .int 4), (0, .ref 950), (1, .int x1), (2, .int x2), (3, .int x3), (4, .int x4), (5, .int x5)]) dX13_feed_72 (by decide) rfl ?_
  refine mj_aload_n dX13_feed_74 2 rfl ?_
  refine t_getR 951 dX13_feed_75 F_X13_7 qr_950_0 ?_
  refine mj_aload_n dX13_feed_78 2 rfl ?_
  refine t_getI dX13_feed_79 F_X13_366 qf_950_1 ?_
  rw [(t_wI w16)]
  refine mj_iload dX13_feed_82 0 rfl ?_
  refine mj_bipush (v := 8) dX13_feed_84 (by decide) ?_
  refine mj_iconst (v := 3) dX13_feed_86 (by decide) ?_
  refine mj_iload dX13_feed_87 1 rfl ?_
  refine mj_iconst (v := 4) dX13_feed_89 (by decide) ?_
  refine mj_irem dX13_feed_90 (by decide) ?_
  rw [show (4 : Int32) - 4 / 4 * 4 = 0 by decide]
  refine mj_isub dX13_feed_91 ?_
  rw [show (3 : Int32) - 0 = 3 by decide]
  refine mj_imul dX13_feed_92 ?_
  rw [show (8 : Int32) * 3 = 24 by decide]
  refine mj_ishr dX13_feed_93 ?_
  refine mj_sipush (v := 255) dX13_feed_94 (by decide) ?_
  refine mj_iand dX13_feed_97 ?_
  refine t_iast dX13_feed_98 qa_951 (by unfold vp_in; decide) ?_
  rw [show (4 : Int32).toNatClampNeg = 4 by decide]
  obtain ⟨s17, w18⟩ : ∃ z, z = t_setI s15 951 4 ((x2 >>> (24 &&& 31)) &&& 255) := ⟨_, rfl⟩
  rw [← w18]
  refine mj_aload_n dX13_feed_99 2 rfl ?_
  refine mj_dup dX13_feed_100 rfl ?_
  refine t_getI dX13_feed_101 F_X13_366 qf_950_1 ?_
  rw [((t_oI w18 950 1 rfl).trans (t_wI w16))]
  refine mj_iconst (v := 1) dX13_feed_104 (by decide) ?_
  refine mj_iadd dX13_feed_105 ?_
  rw [show (4 : Int32) + 1 = 5 by decide]
  refine t_putI dX13_feed_106 F_X13_366 qf_950_1 (by decide) ?_
  obtain ⟨s19, w20⟩ : ∃ z, z = t_setI s17 950 1 5 := ⟨_, rfl⟩
  rw [← w20]
  refine mj_iinc (k := 1) (v := 5) (lv2 := [(6, .int 5), (7, .int x2), (0, .ref 950), (1, .int x1), (2, .int x2), (3, .int x3), (4, .int x4), (5, .int x5)]) dX13_feed_109 rfl (by decide) (by decide) rfl ?_
  refine mj_goto 19 dX13_feed_112 (by decide) ?_
  refine mj_iload dX13_feed_19 0 rfl ?_
  refine mj_bipush (v := 20) dX13_feed_21 (by decide) ?_
  refine mj_icmp_ge 115 dX13_feed_23 (by decide) (fun z => absurd z (by decide)) (fun _ => ?_)
  refine mj_iload dX13_feed_26 0 rfl ?_
  refine mj_iconst (v := 4) dX13_feed_28 (by decide) ?_
  refine mj_icmp_ge 36 dX13_feed_29 (by decide) (fun _ => ?_) (fun z => absurd (by decide) z)
  refine mj_iload dX13_feed_36 0 rfl ?_
  refine mj_bipush (v := 8) dX13_feed_38 (by decide) ?_
  refine mj_icmp_ge 47 dX13_feed_40 (by decide) (fun z => absurd z (by decide)) (fun _ => ?_)
  refine mj_iload_n dX13_feed_43 4 rfl ?_
  refine mj_goto 72 dX13_feed_44 (by decide) ?_
  refine mj_istore (lv2 := [(7, .int x2), (6, .int 5), (0, .ref 950), (1, .int x1), (2, .int x2), (3, .int x3), (4, .int x4), (5, .int x5)]) dX13_feed_72 (by decide) rfl ?_
  refine mj_aload_n dX13_feed_74 2 rfl ?_
  refine t_getR 951 dX13_feed_75 F_X13_7 qr_950_0 ?_
  refine mj_aload_n dX13_feed_78 2 rfl ?_
  refine t_getI dX13_feed_79 F_X13_366 qf_950_1 ?_
  rw [(t_wI w20)]
  refine mj_iload dX13_feed_82 0 rfl ?_
  refine mj_bipush (v := 8) dX13_feed_84 (by decide) ?_
  refine mj_iconst (v := 3) dX13_feed_86 (by decide) ?_
  refine mj_iload dX13_feed_87 1 rfl ?_
  refine mj_iconst (v := 4) dX13_feed_89 (by decide) ?_
  refine mj_irem dX13_feed_90 (by decide) ?_
  rw [show (5 : Int32) - 5 / 4 * 4 = 1 by decide]
  refine mj_isub dX13_feed_91 ?_
  rw [show (3 : Int32) - 1 = 2 by decide]
  refine mj_imul dX13_feed_92 ?_
  rw [show (8 : Int32) * 2 = 16 by decide]
  refine mj_ishr dX13_feed_93 ?_
  refine mj_sipush (v := 255) dX13_feed_94 (by decide) ?_
  refine mj_iand dX13_feed_97 ?_
  refine t_iast dX13_feed_98 qa_951 (by unfold vp_in; decide) ?_
  rw [show (5 : Int32).toNatClampNeg = 5 by decide]
  obtain ⟨s21, w22⟩ : ∃ z, z = t_setI s19 951 5 ((x2 >>> (16 &&& 31)) &&& 255) := ⟨_, rfl⟩
  rw [← w22]
  refine mj_aload_n dX13_feed_99 2 rfl ?_
  refine mj_dup dX13_feed_100 rfl ?_
  refine t_getI dX13_feed_101 F_X13_366 qf_950_1 ?_
  rw [((t_oI w22 950 1 rfl).trans (t_wI w20))]
  refine mj_iconst (v := 1) dX13_feed_104 (by decide) ?_
  refine mj_iadd dX13_feed_105 ?_
  rw [show (5 : Int32) + 1 = 6 by decide]
  refine t_putI dX13_feed_106 F_X13_366 qf_950_1 (by decide) ?_
  obtain ⟨s23, w24⟩ : ∃ z, z = t_setI s21 950 1 6 := ⟨_, rfl⟩
  rw [← w24]
  refine mj_iinc (k := 1) (v := 6) (lv2 := [(6, .int 6), (7, .int x2), (0, .ref 950), (1, .int x1), (2, .int x2), (3, .int x3), (4, .int x4), (5, .int x5)]) dX13_feed_109 rfl (by decide) (by decide) rfl ?_
  refine mj_goto 19 dX13_feed_112 (by decide) ?_
  refine mj_iload dX13_feed_19 0 rfl ?_
  refine mj_bipush (v := 20) dX13_feed_21 (by decide) ?_
  refine mj_icmp_ge 115 dX13_feed_23 (by decide) (fun z => absurd z (by decide)) (fun _ => ?_)
  refine mj_iload dX13_feed_26 0 rfl ?_
  refine mj_iconst (v := 4) dX13_feed_28 (by decide) ?_
  refine mj_icmp_ge 36 dX13_feed_29 (by decide) (fun _ => ?_) (fun z => absurd (by decide) z)
  refine mj_iload dX13_feed_36 0 rfl ?_
  refine mj_bipush (v := 8) dX13_feed_38 (by decide) ?_
  refine mj_icmp_ge 47 dX13_feed_40 (by decide) (fun z => absurd z (by decide)) (fun _ => ?_)
  refine mj_iload_n dX13_feed_43 4 rfl ?_
  refine mj_goto 72 dX13_feed_44 (by decide) ?_
  refine mj_istore (lv2 := [(7, .int x2), (6, .int 6), (0, .ref 950), (1, .int x1), (2, .int x2), (3, .int x3), (4, .int x4), (5, .int x5)]) dX13_feed_72 (by decide) rfl ?_
  refine mj_aload_n dX13_feed_74 2 rfl ?_
  refine t_getR 951 dX13_feed_75 F_X13_7 qr_950_0 ?_
  refine mj_aload_n dX13_feed_78 2 rfl ?_
  refine t_getI dX13_feed_79 F_X13_366 qf_950_1 ?_
  rw [(t_wI w24)]
  refine mj_iload dX13_feed_82 0 rfl ?_
  refine mj_bipush (v := 8) dX13_feed_84 (by decide) ?_
  refine mj_iconst (v := 3) dX13_feed_86 (by decide) ?_
  refine mj_iload dX13_feed_87 1 rfl ?_
  refine mj_iconst (v := 4) dX13_feed_89 (by decide) ?_
  refine mj_irem dX13_feed_90 (by decide) ?_
  rw [show (6 : Int32) - 6 / 4 * 4 = 2 by decide]
  refine mj_isub dX13_feed_91 ?_
  rw [show (3 : Int32) - 2 = 1 by decide]
  refine mj_imul dX13_feed_92 ?_
  rw [show (8 : Int32) * 1 = 8 by decide]
  refine mj_ishr dX13_feed_93 ?_
  refine mj_sipush (v := 255) dX13_feed_94 (by decide) ?_
  refine mj_iand dX13_feed_97 ?_
  refine t_iast dX13_feed_98 qa_951 (by unfold vp_in; decide) ?_
  rw [show (6 : Int32).toNatClampNeg = 6 by decide]
  obtain ⟨s25, w26⟩ : ∃ z, z = t_setI s23 951 6 ((x2 >>> (8 &&& 31)) &&& 255) := ⟨_, rfl⟩
  rw [← w26]
  refine mj_aload_n dX13_feed_99 2 rfl ?_
  refine mj_dup dX13_feed_100 rfl ?_
  refine t_getI dX13_feed_101 F_X13_366 qf_950_1 ?_
  rw [((t_oI w26 950 1 rfl).trans (t_wI w24))]
  refine mj_iconst (v := 1) dX13_feed_104 (by decide) ?_
  refine mj_iadd dX13_feed_105 ?_
  rw [show (6 : Int32) + 1 = 7 by decide]
  refine t_putI dX13_feed_106 F_X13_366 qf_950_1 (by decide) ?_
  obtain ⟨s27, w28⟩ : ∃ z, z = t_setI s25 950 1 7 := ⟨_, rfl⟩
  rw [← w28]
  refine mj_iinc (k := 1) (v := 7) (lv2 := [(6, .int 7), (7, .int x2), (0, .ref 950), (1, .int x1), (2, .int x2), (3, .int x3), (4, .int x4), (5, .int x5)]) dX13_feed_109 rfl (by decide) (by decide) rfl ?_
  refine mj_goto 19 dX13_feed_112 (by decide) ?_
  refine mj_iload dX13_feed_19 0 rfl ?_
  refine mj_bipush (v := 20) dX13_feed_21 (by decide) ?_
  refine mj_icmp_ge 115 dX13_feed_23 (by decide) (fun z => absurd z (by decide)) (fun _ => ?_)
  refine mj_iload dX13_feed_26 0 rfl ?_
  refine mj_iconst (v := 4) dX13_feed_28 (by decide) ?_
  refine mj_icmp_ge 36 dX13_feed_29 (by decide) (fun _ => ?_) (fun z => absurd (by decide) z)
  refine mj_iload dX13_feed_36 0 rfl ?_
  refine mj_bipush (v := 8) dX13_feed_38 (by decide) ?_
  refine mj_icmp_ge 47 dX13_feed_40 (by decide) (fun z => absurd z (by decide)) (fun _ => ?_)
  refine mj_iload_n dX13_feed_43 4 rfl ?_
  refine mj_goto 72 dX13_feed_44 (by decide) ?_
  refine mj_istore (lv2 := [(7, .int x2), (6, .int 7), (0, .ref 950), (1, .int x1), (2, .int x2), (3, .int x3), (4, .int x4), (5, .int x5)]) dX13_feed_72 (by decide) rfl ?_
  refine mj_aload_n dX13_feed_74 2 rfl ?_
  refine t_getR 951 dX13_feed_75 F_X13_7 qr_950_0 ?_
  refine mj_aload_n dX13_feed_78 2 rfl ?_
  refine t_getI dX13_feed_79 F_X13_366 qf_950_1 ?_
  rw [(t_wI w28)]
  refine mj_iload dX13_feed_82 0 rfl ?_
  refine mj_bipush (v := 8) dX13_feed_84 (by decide) ?_
  refine mj_iconst (v := 3) dX13_feed_86 (by decide) ?_
  refine mj_iload dX13_feed_87 1 rfl ?_
  refine mj_iconst (v := 4) dX13_feed_89 (by decide) ?_
  refine mj_irem dX13_feed_90 (by decide) ?_
  rw [show (7 : Int32) - 7 / 4 * 4 = 3 by decide]
  refine mj_isub dX13_feed_91 ?_
  rw [show (3 : Int32) - 3 = 0 by decide]
  refine mj_imul dX13_feed_92 ?_
  rw [show (8 : Int32) * 0 = 0 by decide]
  refine mj_ishr dX13_feed_93 ?_
  refine mj_sipush (v := 255) dX13_feed_94 (by decide) ?_
  refine mj_iand dX13_feed_97 ?_
  refine t_iast dX13_feed_98 qa_951 (by unfold vp_in; decide) ?_
  rw [show (7 : Int32).toNatClampNeg = 7 by decide]
  obtain ⟨s29, w30⟩ : ∃ z, z = t_setI s27 951 7 ((x2 >>> (0 &&& 31)) &&& 255) := ⟨_, rfl⟩
  rw [← w30]
  refine mj_aload_n dX13_feed_99 2 rfl ?_
  refine mj_dup dX13_feed_100 rfl ?_
  refine t_getI dX13_feed_101 F_X13_366 qf_950_1 ?_
  rw [((t_oI w30 950 1 rfl).trans (t_wI w28))]
  refine mj_iconst (v := 1) dX13_feed_104 (by decide) ?_
  refine mj_iadd dX13_feed_105 ?_
  rw [show (7 : Int32) + 1 = 8 by decide]
  refine t_putI dX13_feed_106 F_X13_366 qf_950_1 (by decide) ?_
  obtain ⟨s31, w32⟩ : ∃ z, z = t_setI s29 950 1 8 := ⟨_, rfl⟩
  rw [← w32]
  refine mj_iinc (k := 1) (v := 8) (lv2 := [(6, .int 8), (7, .int x2), (0, .ref 950), (1, .int x1), (2, .int x2), (3, .int x3), (4, .int x4), (5, .int x5)]) dX13_feed_109 rfl (by decide) (by decide) rfl ?_
  refine mj_goto 19 dX13_feed_112 (by decide) ?_
  refine mj_iload dX13_feed_19 0 rfl ?_
  refine mj_bipush (v := 20) dX13_feed_21 (by decide) ?_
  refine mj_icmp_ge 115 dX13_feed_23 (by decide) (fun z => absurd z (by decide)) (fun _ => ?_)
  refine mj_iload dX13_feed_26 0 rfl ?_
  refine mj_iconst (v := 4) dX13_feed_28 (by decide) ?_
  refine mj_icmp_ge 36 dX13_feed_29 (by decide) (fun _ => ?_) (fun z => absurd (by decide) z)
  refine mj_iload dX13_feed_36 0 rfl ?_
  refine mj_bipush (v := 8) dX13_feed_38 (by decide) ?_
  refine mj_icmp_ge 47 dX13_feed_40 (by decide) (fun _ => ?_) (fun z => absurd (by decide) z)
  refine mj_iload dX13_feed_47 0 rfl ?_
  refine mj_bipush (v := 12) dX13_feed_49 (by decide) ?_
  refine mj_icmp_ge 58 dX13_feed_51 (by decide) (fun z => absurd z (by decide)) (fun _ => ?_)
  refine mj_iload_n dX13_feed_54 5 rfl ?_
  refine mj_goto 72 dX13_feed_55 (by decide) ?_
  refine mj_istore (lv2 := [(7, .int x3), (6, .int 8), (0, .ref 950), (1, .int x1), (2, .int x2), (3, .int x3), (4, .int x4), (5, .int x5)]) dX13_feed_72 (by decide) rfl ?_
  refine mj_aload_n dX13_feed_74 2 rfl ?_
  refine t_getR 951 dX13_feed_75 F_X13_7 qr_950_0 ?_
  refine mj_aload_n dX13_feed_78 2 rfl ?_
  refine t_getI dX13_feed_79 F_X13_366 qf_950_1 ?_
  rw [(t_wI w32)]
  refine mj_iload dX13_feed_82 0 rfl ?_
  refine mj_bipush (v := 8) dX13_feed_84 (by decide) ?_
  refine mj_iconst (v := 3) dX13_feed_86 (by decide) ?_
  refine mj_iload dX13_feed_87 1 rfl ?_
  refine mj_iconst (v := 4) dX13_feed_89 (by decide) ?_
  refine mj_irem dX13_feed_90 (by decide) ?_
  rw [show (8 : Int32) - 8 / 4 * 4 = 0 by decide]
  refine mj_isub dX13_feed_91 ?_
  rw [show (3 : Int32) - 0 = 3 by decide]
  refine mj_imul dX13_feed_92 ?_
  rw [show (8 : Int32) * 3 = 24 by decide]
  refine mj_ishr dX13_feed_93 ?_
  refine mj_sipush (v := 255) dX13_feed_94 (by decide) ?_
  refine mj_iand dX13_feed_97 ?_
  refine t_iast dX13_feed_98 qa_951 (by unfold vp_in; decide) ?_
  rw [show (8 : Int32).toNatClampNeg = 8 by decide]
  obtain ⟨s33, w34⟩ : ∃ z, z = t_setI s31 951 8 ((x3 >>> (24 &&& 31)) &&& 255) := ⟨_, rfl⟩
  rw [← w34]
  refine mj_aload_n dX13_feed_99 2 rfl ?_
  refine mj_dup dX13_feed_100 rfl ?_
  refine t_getI dX13_feed_101 F_X13_366 qf_950_1 ?_
  rw [((t_oI w34 950 1 rfl).trans (t_wI w32))]
  refine mj_iconst (v := 1) dX13_feed_104 (by decide) ?_
  refine mj_iadd dX13_feed_105 ?_
  rw [show (8 : Int32) + 1 = 9 by decide]
  refine t_putI dX13_feed_106 F_X13_366 qf_950_1 (by decide) ?_
  obtain ⟨s35, w36⟩ : ∃ z, z = t_setI s33 950 1 9 := ⟨_, rfl⟩
  rw [← w36]
  refine mj_iinc (k := 1) (v := 9) (lv2 := [(6, .int 9), (7, .int x3), (0, .ref 950), (1, .int x1), (2, .int x2), (3, .int x3), (4, .int x4), (5, .int x5)]) dX13_feed_109 rfl (by decide) (by decide) rfl ?_
  refine mj_goto 19 dX13_feed_112 (by decide) ?_
  refine mj_iload dX13_feed_19 0 rfl ?_
  refine mj_bipush (v := 20) dX13_feed_21 (by decide) ?_
  refine mj_icmp_ge 115 dX13_feed_23 (by decide) (fun z => absurd z (by decide)) (fun _ => ?_)
  refine mj_iload dX13_feed_26 0 rfl ?_
  refine mj_iconst (v := 4) dX13_feed_28 (by decide) ?_
  refine mj_icmp_ge 36 dX13_feed_29 (by decide) (fun _ => ?_) (fun z => absurd (by decide) z)
  refine mj_iload dX13_feed_36 0 rfl ?_
  refine mj_bipush (v := 8) dX13_feed_38 (by decide) ?_
  refine mj_icmp_ge 47 dX13_feed_40 (by decide) (fun _ => ?_) (fun z => absurd (by decide) z)
  refine mj_iload dX13_feed_47 0 rfl ?_
  refine mj_bipush (v := 12) dX13_feed_49 (by decide) ?_
  refine mj_icmp_ge 58 dX13_feed_51 (by decide) (fun z => absurd z (by decide)) (fun _ => ?_)
  refine mj_iload_n dX13_feed_54 5 rfl ?_
  refine mj_goto 72 dX13_feed_55 (by decide) ?_
  refine mj_istore (lv2 := [(7, .int x3), (6, .int 9), (0, .ref 950), (1, .int x1), (2, .int x2), (3, .int x3), (4, .int x4), (5, .int x5)]) dX13_feed_72 (by decide) rfl ?_
  refine mj_aload_n dX13_feed_74 2 rfl ?_
  refine t_getR 951 dX13_feed_75 F_X13_7 qr_950_0 ?_
  refine mj_aload_n dX13_feed_78 2 rfl ?_
  refine t_getI dX13_feed_79 F_X13_366 qf_950_1 ?_
  rw [(t_wI w36)]
  refine mj_iload dX13_feed_82 0 rfl ?_
  refine mj_bipush (v := 8) dX13_feed_84 (by decide) ?_
  refine mj_iconst (v := 3) dX13_feed_86 (by decide) ?_
  refine mj_iload dX13_feed_87 1 rfl ?_
  refine mj_iconst (v := 4) dX13_feed_89 (by decide) ?_
  refine mj_irem dX13_feed_90 (by decide) ?_
  rw [show (9 : Int32) - 9 / 4 * 4 = 1 by decide]
  refine mj_isub dX13_feed_91 ?_
  rw [show (3 : Int32) - 1 = 2 by decide]
  refine mj_imul dX13_feed_92 ?_
  rw [show (8 : Int32) * 2 = 16 by decide]
  refine mj_ishr dX13_feed_93 ?_
  refine mj_sipush (v := 255) dX13_feed_94 (by decide) ?_
  refine mj_iand dX13_feed_97 ?_
  refine t_iast dX13_feed_98 qa_951 (by unfold vp_in; decide) ?_
  rw [show (9 : Int32).toNatClampNeg = 9 by decide]
  obtain ⟨s37, w38⟩ : ∃ z, z = t_setI s35 951 9 ((x3 >>> (16 &&& 31)) &&& 255) := ⟨_, rfl⟩
  rw [← w38]
  refine mj_aload_n dX13_feed_99 2 rfl ?_
  refine mj_dup dX13_feed_100 rfl ?_
  refine t_getI dX13_feed_101 F_X13_366 qf_950_1 ?_
  rw [((t_oI w38 950 1 rfl).trans (t_wI w36))]
  refine mj_iconst (v := 1) dX13_feed_104 (by decide) ?_
  refine mj_iadd dX13_feed_105 ?_
  rw [show (9 : Int32) + 1 = 10 by decide]
  refine t_putI dX13_feed_106 F_X13_366 qf_950_1 (by decide) ?_
  obtain ⟨s39, w40⟩ : ∃ z, z = t_setI s37 950 1 10 := ⟨_, rfl⟩
  rw [← w40]
  refine mj_iinc (k := 1) (v := 10) (lv2 := [(6, .int 10), (7, .int x3), (0, .ref 950), (1, .int x1), (2, .int x2), (3, .int x3), (4, .int x4), (5, .int x5)]) dX13_feed_109 rfl (by decide) (by decide) rfl ?_
  refine mj_goto 19 dX13_feed_112 (by decide) ?_
  refine mj_iload dX13_feed_19 0 rfl ?_
  refine mj_bipush (v := 20) dX13_feed_21 (by decide) ?_
  refine mj_icmp_ge 115 dX13_feed_23 (by decide) (fun z => absurd z (by decide)) (fun _ => ?_)
  refine mj_iload dX13_feed_26 0 rfl ?_
  refine mj_iconst (v := 4) dX13_feed_28 (by decide) ?_
  refine mj_icmp_ge 36 dX13_feed_29 (by decide) (fun _ => ?_) (fun z => absurd (by decide) z)
  refine mj_iload dX13_feed_36 0 rfl ?_
  refine mj_bipush (v := 8) dX13_feed_38 (by decide) ?_
  refine mj_icmp_ge 47 dX13_feed_40 (by decide) (fun _ => ?_) (fun z => absurd (by decide) z)
  refine mj_iload dX13_feed_47 0 rfl ?_
  refine mj_bipush (v := 12) dX13_feed_49 (by decide) ?_
  refine mj_icmp_ge 58 dX13_feed_51 (by decide) (fun z => absurd z (by decide)) (fun _ => ?_)
  refine mj_iload_n dX13_feed_54 5 rfl ?_
  refine mj_goto 72 dX13_feed_55 (by decide) ?_
  refine mj_istore (lv2 := [(7, .int x3), (6, .int 10), (0, .ref 950), (1, .int x1), (2, .int x2), (3, .int x3), (4, .int x4), (5, .int x5)]) dX13_feed_72 (by decide) rfl ?_
  refine mj_aload_n dX13_feed_74 2 rfl ?_
  refine t_getR 951 dX13_feed_75 F_X13_7 qr_950_0 ?_
  refine mj_aload_n dX13_feed_78 2 rfl ?_
  refine t_getI dX13_feed_79 F_X13_366 qf_950_1 ?_
  rw [(t_wI w40)]
  refine mj_iload dX13_feed_82 0 rfl ?_
  refine mj_bipush (v := 8) dX13_feed_84 (by decide) ?_
  refine mj_iconst (v := 3) dX13_feed_86 (by decide) ?_
  refine mj_iload dX13_feed_87 1 rfl ?_
  refine mj_iconst (v := 4) dX13_feed_89 (by decide) ?_
  refine mj_irem dX13_feed_90 (by decide) ?_
  rw [show (10 : Int32) - 10 / 4 * 4 = 2 by decide]
  refine mj_isub dX13_feed_91 ?_
  rw [show (3 : Int32) - 2 = 1 by decide]
  refine mj_imul dX13_feed_92 ?_
  rw [show (8 : Int32) * 1 = 8 by decide]
  refine mj_ishr dX13_feed_93 ?_
  refine mj_sipush (v := 255) dX13_feed_94 (by decide) ?_
  refine mj_iand dX13_feed_97 ?_
  refine t_iast dX13_feed_98 qa_951 (by unfold vp_in; decide) ?_
  rw [show (10 : Int32).toNatClampNeg = 10 by decide]
  obtain ⟨s41, w42⟩ : ∃ z, z = t_setI s39 951 10 ((x3 >>> (8 &&& 31)) &&& 255) := ⟨_, rfl⟩
  rw [← w42]
  refine mj_aload_n dX13_feed_99 2 rfl ?_
  refine mj_dup dX13_feed_100 rfl ?_
  refine t_getI dX13_feed_101 F_X13_366 qf_950_1 ?_
  rw [((t_oI w42 950 1 rfl).trans (t_wI w40))]
  refine mj_iconst (v := 1) dX13_feed_104 (by decide) ?_
  refine mj_iadd dX13_feed_105 ?_
  rw [show (10 : Int32) + 1 = 11 by decide]
  refine t_putI dX13_feed_106 F_X13_366 qf_950_1 (by decide) ?_
  obtain ⟨s43, w44⟩ : ∃ z, z = t_setI s41 950 1 11 := ⟨_, rfl⟩
  rw [← w44]
  refine mj_iinc (k := 1) (v := 11) (lv2 := [(6, .int 11), (7, .int x3), (0, .ref 950), (1, .int x1), (2, .int x2), (3, .int x3), (4, .int x4), (5, .int x5)]) dX13_feed_109 rfl (by decide) (by decide) rfl ?_
  refine mj_goto 19 dX13_feed_112 (by decide) ?_
  refine mj_iload dX13_feed_19 0 rfl ?_
  refine mj_bipush (v := 20) dX13_feed_21 (by decide) ?_
  refine mj_icmp_ge 115 dX13_feed_23 (by decide) (fun z => absurd z (by decide)) (fun _ => ?_)
  refine mj_iload dX13_feed_26 0 rfl ?_
  refine mj_iconst (v := 4) dX13_feed_28 (by decide) ?_
  refine mj_icmp_ge 36 dX13_feed_29 (by decide) (fun _ => ?_) (fun z => absurd (by decide) z)
  refine mj_iload dX13_feed_36 0 rfl ?_
  refine mj_bipush (v := 8) dX13_feed_38 (by decide) ?_
  refine mj_icmp_ge 47 dX13_feed_40 (by decide) (fun _ => ?_) (fun z => absurd (by decide) z)
  refine mj_iload dX13_feed_47 0 rfl ?_
  refine mj_bipush (v := 12) dX13_feed_49 (by decide) ?_
  refine mj_icmp_ge 58 dX13_feed_51 (by decide) (fun z => absurd z (by decide)) (fun _ => ?_)
  refine mj_iload_n dX13_feed_54 5 rfl ?_
  refine mj_goto 72 dX13_feed_55 (by decide) ?_
  refine mj_istore (lv2 := [(7, .int x3), (6, .int 11), (0, .ref 950), (1, .int x1), (2, .int x2), (3, .int x3), (4, .int x4), (5, .int x5)]) dX13_feed_72 (by decide) rfl ?_
  refine mj_aload_n dX13_feed_74 2 rfl ?_
  refine t_getR 951 dX13_feed_75 F_X13_7 qr_950_0 ?_
  refine mj_aload_n dX13_feed_78 2 rfl ?_
  refine t_getI dX13_feed_79 F_X13_366 qf_950_1 ?_
  rw [(t_wI w44)]
  refine mj_iload dX13_feed_82 0 rfl ?_
  refine mj_bipush (v := 8) dX13_feed_84 (by decide) ?_
  refine mj_iconst (v := 3) dX13_feed_86 (by decide) ?_
  refine mj_iload dX13_feed_87 1 rfl ?_
  refine mj_iconst (v := 4) dX13_feed_89 (by decide) ?_
  refine mj_irem dX13_feed_90 (by decide) ?_
  rw [show (11 : Int32) - 11 / 4 * 4 = 3 by decide]
  refine mj_isub dX13_feed_91 ?_
  rw [show (3 : Int32) - 3 = 0 by decide]
  refine mj_imul dX13_feed_92 ?_
  rw [show (8 : Int32) * 0 = 0 by decide]
  refine mj_ishr dX13_feed_93 ?_
  refine mj_sipush (v := 255) dX13_feed_94 (by decide) ?_
  refine mj_iand dX13_feed_97 ?_
  refine t_iast dX13_feed_98 qa_951 (by unfold vp_in; decide) ?_
  rw [show (11 : Int32).toNatClampNeg = 11 by decide]
  obtain ⟨s45, w46⟩ : ∃ z, z = t_setI s43 951 11 ((x3 >>> (0 &&& 31)) &&& 255) := ⟨_, rfl⟩
  rw [← w46]
  refine mj_aload_n dX13_feed_99 2 rfl ?_
  refine mj_dup dX13_feed_100 rfl ?_
  refine t_getI dX13_feed_101 F_X13_366 qf_950_1 ?_
  rw [((t_oI w46 950 1 rfl).trans (t_wI w44))]
  refine mj_iconst (v := 1) dX13_feed_104 (by decide) ?_
  refine mj_iadd dX13_feed_105 ?_
  rw [show (11 : Int32) + 1 = 12 by decide]
  refine t_putI dX13_feed_106 F_X13_366 qf_950_1 (by decide) ?_
  obtain ⟨s47, w48⟩ : ∃ z, z = t_setI s45 950 1 12 := ⟨_, rfl⟩
  rw [← w48]
  refine mj_iinc (k := 1) (v := 12) (lv2 := [(6, .int 12), (7, .int x3), (0, .ref 950), (1, .int x1), (2, .int x2), (3, .int x3), (4, .int x4), (5, .int x5)]) dX13_feed_109 rfl (by decide) (by decide) rfl ?_
  refine mj_goto 19 dX13_feed_112 (by decide) ?_
  refine mj_iload dX13_feed_19 0 rfl ?_
  refine mj_bipush (v := 20) dX13_feed_21 (by decide) ?_
  refine mj_icmp_ge 115 dX13_feed_23 (by decide) (fun z => absurd z (by decide)) (fun _ => ?_)
  refine mj_iload dX13_feed_26 0 rfl ?_
  refine mj_iconst (v := 4) dX13_feed_28 (by decide) ?_
  refine mj_icmp_ge 36 dX13_feed_29 (by decide) (fun _ => ?_) (fun z => absurd (by decide) z)
  refine mj_iload dX13_feed_36 0 rfl ?_
  refine mj_bipush (v := 8) dX13_feed_38 (by decide) ?_
  refine mj_icmp_ge 47 dX13_feed_40 (by decide) (fun _ => ?_) (fun z => absurd (by decide) z)
  refine mj_iload dX13_feed_47 0 rfl ?_
  refine mj_bipush (v := 12) dX13_feed_49 (by decide) ?_
  refine mj_icmp_ge 58 dX13_feed_51 (by decide) (fun _ => ?_) (fun z => absurd (by decide) z)
  refine mj_iload dX13_feed_58 0 rfl ?_
  refine mj_bipush (v := 16) dX13_feed_60 (by decide) ?_
  refine mj_icmp_ge 70 dX13_feed_62 (by decide) (fun z => absurd z (by decide)) (fun _ => ?_)
  refine mj_iload dX13_feed_65 6 rfl ?_
  refine mj_goto 72 dX13_feed_67 (by decide) ?_
  refine mj_istore (lv2 := [(7, .int x4), (6, .int 12), (0, .ref 950), (1, .int x1), (2, .int x2), (3, .int x3), (4, .int x4), (5, .int x5)]) dX13_feed_72 (by decide) rfl ?_
  refine mj_aload_n dX13_feed_74 2 rfl ?_
  refine t_getR 951 dX13_feed_75 F_X13_7 qr_950_0 ?_
  refine mj_aload_n dX13_feed_78 2 rfl ?_
  refine t_getI dX13_feed_79 F_X13_366 qf_950_1 ?_
  rw [(t_wI w48)]
  refine mj_iload dX13_feed_82 0 rfl ?_
  refine mj_bipush (v := 8) dX13_feed_84 (by decide) ?_
  refine mj_iconst (v := 3) dX13_feed_86 (by decide) ?_
  refine mj_iload dX13_feed_87 1 rfl ?_
  refine mj_iconst (v := 4) dX13_feed_89 (by decide) ?_
  refine mj_irem dX13_feed_90 (by decide) ?_
  rw [show (12 : Int32) - 12 / 4 * 4 = 0 by decide]
  refine mj_isub dX13_feed_91 ?_
  rw [show (3 : Int32) - 0 = 3 by decide]
  refine mj_imul dX13_feed_92 ?_
  rw [show (8 : Int32) * 3 = 24 by decide]
  refine mj_ishr dX13_feed_93 ?_
  refine mj_sipush (v := 255) dX13_feed_94 (by decide) ?_
  refine mj_iand dX13_feed_97 ?_
  refine t_iast dX13_feed_98 qa_951 (by unfold vp_in; decide) ?_
  rw [show (12 : Int32).toNatClampNeg = 12 by decide]
  obtain ⟨s49, w50⟩ : ∃ z, z = t_setI s47 951 12 ((x4 >>> (24 &&& 31)) &&& 255) := ⟨_, rfl⟩
  rw [← w50]
  refine mj_aload_n dX13_feed_99 2 rfl ?_
  refine mj_dup dX13_feed_100 rfl ?_
  refine t_getI dX13_feed_101 F_X13_366 qf_950_1 ?_
  rw [((t_oI w50 950 1 rfl).trans (t_wI w48))]
  refine mj_iconst (v := 1) dX13_feed_104 (by decide) ?_
  refine mj_iadd dX13_feed_105 ?_
  rw [show (12 : Int32) + 1 = 13 by decide]
  refine t_putI dX13_feed_106 F_X13_366 qf_950_1 (by decide) ?_
  obtain ⟨s51, w52⟩ : ∃ z, z = t_setI s49 950 1 13 := ⟨_, rfl⟩
  rw [← w52]
  refine mj_iinc (k := 1) (v := 13) (lv2 := [(6, .int 13), (7, .int x4), (0, .ref 950), (1, .int x1), (2, .int x2), (3, .int x3), (4, .int x4), (5, .int x5)]) dX13_feed_109 rfl (by decide) (by decide) rfl ?_
  refine mj_goto 19 dX13_feed_112 (by decide) ?_
  refine mj_iload dX13_feed_19 0 rfl ?_
  refine mj_bipush (v := 20) dX13_feed_21 (by decide) ?_
  refine mj_icmp_ge 115 dX13_feed_23 (by decide) (fun z => absurd z (by decide)) (fun _ => ?_)
  refine mj_iload dX13_feed_26 0 rfl ?_
  refine mj_iconst (v := 4) dX13_feed_28 (by decide) ?_
  refine mj_icmp_ge 36 dX13_feed_29 (by decide) (fun _ => ?_) (fun z => absurd (by decide) z)
  refine mj_iload dX13_feed_36 0 rfl ?_
  refine mj_bipush (v := 8) dX13_feed_38 (by decide) ?_
  refine mj_icmp_ge 47 dX13_feed_40 (by decide) (fun _ => ?_) (fun z => absurd (by decide) z)
  refine mj_iload dX13_feed_47 0 rfl ?_
  refine mj_bipush (v := 12) dX13_feed_49 (by decide) ?_
  refine mj_icmp_ge 58 dX13_feed_51 (by decide) (fun _ => ?_) (fun z => absurd (by decide) z)
  refine mj_iload dX13_feed_58 0 rfl ?_
  refine mj_bipush (v := 16) dX13_feed_60 (by decide) ?_
  refine mj_icmp_ge 70 dX13_feed_62 (by decide) (fun z => absurd z (by decide)) (fun _ => ?_)
  refine mj_iload dX13_feed_65 6 rfl ?_
  refine mj_goto 72 dX13_feed_67 (by decide) ?_
  refine mj_istore (lv2 := [(7, .int x4), (6, .int 13), (0, .ref 950), (1, .int x1), (2, .int x2), (3, .int x3), (4, .int x4), (5, .int x5)]) dX13_feed_72 (by decide) rfl ?_
  refine mj_aload_n dX13_feed_74 2 rfl ?_
  refine t_getR 951 dX13_feed_75 F_X13_7 qr_950_0 ?_
  refine mj_aload_n dX13_feed_78 2 rfl ?_
  refine t_getI dX13_feed_79 F_X13_366 qf_950_1 ?_
  rw [(t_wI w52)]
  refine mj_iload dX13_feed_82 0 rfl ?_
  refine mj_bipush (v := 8) dX13_feed_84 (by decide) ?_
  refine mj_iconst (v := 3) dX13_feed_86 (by decide) ?_
  refine mj_iload dX13_feed_87 1 rfl ?_
  refine mj_iconst (v := 4) dX13_feed_89 (by decide) ?_
  refine mj_irem dX13_feed_90 (by decide) ?_
  rw [show (13 : Int32) - 13 / 4 * 4 = 1 by decide]
  refine mj_isub dX13_feed_91 ?_
  rw [show (3 : Int32) - 1 = 2 by decide]
  refine mj_imul dX13_feed_92 ?_
  rw [show (8 : Int32) * 2 = 16 by decide]
  refine mj_ishr dX13_feed_93 ?_
  refine mj_sipush (v := 255) dX13_feed_94 (by decide) ?_
  refine mj_iand dX13_feed_97 ?_
  refine t_iast dX13_feed_98 qa_951 (by unfold vp_in; decide) ?_
  rw [show (13 : Int32).toNatClampNeg = 13 by decide]
  obtain ⟨s53, w54⟩ : ∃ z, z = t_setI s51 951 13 ((x4 >>> (16 &&& 31)) &&& 255) := ⟨_, rfl⟩
  rw [← w54]
  refine mj_aload_n dX13_feed_99 2 rfl ?_
  refine mj_dup dX13_feed_100 rfl ?_
  refine t_getI dX13_feed_101 F_X13_366 qf_950_1 ?_
  rw [((t_oI w54 950 1 rfl).trans (t_wI w52))]
  refine mj_iconst (v := 1) dX13_feed_104 (by decide) ?_
  refine mj_iadd dX13_feed_105 ?_
  rw [show (13 : Int32) + 1 = 14 by decide]
  refine t_putI dX13_feed_106 F_X13_366 qf_950_1 (by decide) ?_
  obtain ⟨s55, w56⟩ : ∃ z, z = t_setI s53 950 1 14 := ⟨_, rfl⟩
  rw [← w56]
  refine mj_iinc (k := 1) (v := 14) (lv2 := [(6, .int 14), (7, .int x4), (0, .ref 950), (1, .int x1), (2, .int x2), (3, .int x3), (4, .int x4), (5, .int x5)]) dX13_feed_109 rfl (by decide) (by decide) rfl ?_
  refine mj_goto 19 dX13_feed_112 (by decide) ?_
  refine mj_iload dX13_feed_19 0 rfl ?_
  refine mj_bipush (v := 20) dX13_feed_21 (by decide) ?_
  refine mj_icmp_ge 115 dX13_feed_23 (by decide) (fun z => absurd z (by decide)) (fun _ => ?_)
  refine mj_iload dX13_feed_26 0 rfl ?_
  refine mj_iconst (v := 4) dX13_feed_28 (by decide) ?_
  refine mj_icmp_ge 36 dX13_feed_29 (by decide) (fun _ => ?_) (fun z => absurd (by decide) z)
  refine mj_iload dX13_feed_36 0 rfl ?_
  refine mj_bipush (v := 8) dX13_feed_38 (by decide) ?_
  refine mj_icmp_ge 47 dX13_feed_40 (by decide) (fun _ => ?_) (fun z => absurd (by decide) z)
  refine mj_iload dX13_feed_47 0 rfl ?_
  refine mj_bipush (v := 12) dX13_feed_49 (by decide) ?_
  refine mj_icmp_ge 58 dX13_feed_51 (by decide) (fun _ => ?_) (fun z => absurd (by decide) z)
  refine mj_iload dX13_feed_58 0 rfl ?_
  refine mj_bipush (v := 16) dX13_feed_60 (by decide) ?_
  refine mj_icmp_ge 70 dX13_feed_62 (by decide) (fun z => absurd z (by decide)) (fun _ => ?_)
  refine mj_iload dX13_feed_65 6 rfl ?_
  refine mj_goto 72 dX13_feed_67 (by decide) ?_
  refine mj_istore (lv2 := [(7, .int x4), (6, .int 14), (0, .ref 950), (1, .int x1), (2, .int x2), (3, .int x3), (4, .int x4), (5, .int x5)]) dX13_feed_72 (by decide) rfl ?_
  refine mj_aload_n dX13_feed_74 2 rfl ?_
  refine t_getR 951 dX13_feed_75 F_X13_7 qr_950_0 ?_
  refine mj_aload_n dX13_feed_78 2 rfl ?_
  refine t_getI dX13_feed_79 F_X13_366 qf_950_1 ?_
  rw [(t_wI w56)]
  refine mj_iload dX13_feed_82 0 rfl ?_
  refine mj_bipush (v := 8) dX13_feed_84 (by decide) ?_
  refine mj_iconst (v := 3) dX13_feed_86 (by decide) ?_
  refine mj_iload dX13_feed_87 1 rfl ?_
  refine mj_iconst (v := 4) dX13_feed_89 (by decide) ?_
  refine mj_irem dX13_feed_90 (by decide) ?_
  rw [show (14 : Int32) - 14 / 4 * 4 = 2 by decide]
  refine mj_isub dX13_feed_91 ?_
  rw [show (3 : Int32) - 2 = 1 by decide]
  refine mj_imul dX13_feed_92 ?_
  rw [show (8 : Int32) * 1 = 8 by decide]
  refine mj_ishr dX13_feed_93 ?_
  refine mj_sipush (v := 255) dX13_feed_94 (by decide) ?_
  refine mj_iand dX13_feed_97 ?_
  refine t_iast dX13_feed_98 qa_951 (by unfold vp_in; decide) ?_
  rw [show (14 : Int32).toNatClampNeg = 14 by decide]
  obtain ⟨s57, w58⟩ : ∃ z, z = t_setI s55 951 14 ((x4 >>> (8 &&& 31)) &&& 255) := ⟨_, rfl⟩
  rw [← w58]
  refine mj_aload_n dX13_feed_99 2 rfl ?_
  refine mj_dup dX13_feed_100 rfl ?_
  refine t_getI dX13_feed_101 F_X13_366 qf_950_1 ?_
  rw [((t_oI w58 950 1 rfl).trans (t_wI w56))]
  refine mj_iconst (v := 1) dX13_feed_104 (by decide) ?_
  refine mj_iadd dX13_feed_105 ?_
  rw [show (14 : Int32) + 1 = 15 by decide]
  refine t_putI dX13_feed_106 F_X13_366 qf_950_1 (by decide) ?_
  obtain ⟨s59, w60⟩ : ∃ z, z = t_setI s57 950 1 15 := ⟨_, rfl⟩
  rw [← w60]
  refine mj_iinc (k := 1) (v := 15) (lv2 := [(6, .int 15), (7, .int x4), (0, .ref 950), (1, .int x1), (2, .int x2), (3, .int x3), (4, .int x4), (5, .int x5)]) dX13_feed_109 rfl (by decide) (by decide) rfl ?_
  refine mj_goto 19 dX13_feed_112 (by decide) ?_
  refine mj_iload dX13_feed_19 0 rfl ?_
  refine mj_bipush (v := 20) dX13_feed_21 (by decide) ?_
  refine mj_icmp_ge 115 dX13_feed_23 (by decide) (fun z => absurd z (by decide)) (fun _ => ?_)
  refine mj_iload dX13_feed_26 0 rfl ?_
  refine mj_iconst (v := 4) dX13_feed_28 (by decide) ?_
  refine mj_icmp_ge 36 dX13_feed_29 (by decide) (fun _ => ?_) (fun z => absurd (by decide) z)
  refine mj_iload dX13_feed_36 0 rfl ?_
  refine mj_bipush (v := 8) dX13_feed_38 (by decide) ?_
  refine mj_icmp_ge 47 dX13_feed_40 (by decide) (fun _ => ?_) (fun z => absurd (by decide) z)
  refine mj_iload dX13_feed_47 0 rfl ?_
  refine mj_bipush (v := 12) dX13_feed_49 (by decide) ?_
  refine mj_icmp_ge 58 dX13_feed_51 (by decide) (fun _ => ?_) (fun z => absurd (by decide) z)
  refine mj_iload dX13_feed_58 0 rfl ?_
  refine mj_bipush (v := 16) dX13_feed_60 (by decide) ?_
  refine mj_icmp_ge 70 dX13_feed_62 (by decide) (fun z => absurd z (by decide)) (fun _ => ?_)
  refine mj_iload dX13_feed_65 6 rfl ?_
  refine mj_goto 72 dX13_feed_67 (by decide) ?_
  refine mj_istore (lv2 := [(7, .int x4), (6, .int 15), (0, .ref 950), (1, .int x1), (2, .int x2), (3, .int x3), (4, .int x4), (5, .int x5)]) dX13_feed_72 (by decide) rfl ?_
  refine mj_aload_n dX13_feed_74 2 rfl ?_
  refine t_getR 951 dX13_feed_75 F_X13_7 qr_950_0 ?_
  refine mj_aload_n dX13_feed_78 2 rfl ?_
  refine t_getI dX13_feed_79 F_X13_366 qf_950_1 ?_
  rw [(t_wI w60)]
  refine mj_iload dX13_feed_82 0 rfl ?_
  refine mj_bipush (v := 8) dX13_feed_84 (by decide) ?_
  refine mj_iconst (v := 3) dX13_feed_86 (by decide) ?_
  refine mj_iload dX13_feed_87 1 rfl ?_
  refine mj_iconst (v := 4) dX13_feed_89 (by decide) ?_
  refine mj_irem dX13_feed_90 (by decide) ?_
  rw [show (15 : Int32) - 15 / 4 * 4 = 3 by decide]
  refine mj_isub dX13_feed_91 ?_
  rw [show (3 : Int32) - 3 = 0 by decide]
  refine mj_imul dX13_feed_92 ?_
  rw [show (8 : Int32) * 0 = 0 by decide]
  refine mj_ishr dX13_feed_93 ?_
  refine mj_sipush (v := 255) dX13_feed_94 (by decide) ?_
  refine mj_iand dX13_feed_97 ?_
  refine t_iast dX13_feed_98 qa_951 (by unfold vp_in; decide) ?_
  rw [show (15 : Int32).toNatClampNeg = 15 by decide]
  obtain ⟨s61, w62⟩ : ∃ z, z = t_setI s59 951 15 ((x4 >>> (0 &&& 31)) &&& 255) := ⟨_, rfl⟩
  rw [← w62]
  refine mj_aload_n dX13_feed_99 2 rfl ?_
  refine mj_dup dX13_feed_100 rfl ?_
  refine t_getI dX13_feed_101 F_X13_366 qf_950_1 ?_
  rw [((t_oI w62 950 1 rfl).trans (t_wI w60))]
  refine mj_iconst (v := 1) dX13_feed_104 (by decide) ?_
  refine mj_iadd dX13_feed_105 ?_
  rw [show (15 : Int32) + 1 = 16 by decide]
  refine t_putI dX13_feed_106 F_X13_366 qf_950_1 (by decide) ?_
  obtain ⟨s63, w64⟩ : ∃ z, z = t_setI s61 950 1 16 := ⟨_, rfl⟩
  rw [← w64]
  refine mj_iinc (k := 1) (v := 16) (lv2 := [(6, .int 16), (7, .int x4), (0, .ref 950), (1, .int x1), (2, .int x2), (3, .int x3), (4, .int x4), (5, .int x5)]) dX13_feed_109 rfl (by decide) (by decide) rfl ?_
  refine mj_goto 19 dX13_feed_112 (by decide) ?_
  refine mj_iload dX13_feed_19 0 rfl ?_
  refine mj_bipush (v := 20) dX13_feed_21 (by decide) ?_
  refine mj_icmp_ge 115 dX13_feed_23 (by decide) (fun z => absurd z (by decide)) (fun _ => ?_)
  refine mj_iload dX13_feed_26 0 rfl ?_
  refine mj_iconst (v := 4) dX13_feed_28 (by decide) ?_
  refine mj_icmp_ge 36 dX13_feed_29 (by decide) (fun _ => ?_) (fun z => absurd (by decide) z)
  refine mj_iload dX13_feed_36 0 rfl ?_
  refine mj_bipush (v := 8) dX13_feed_38 (by decide) ?_
  refine mj_icmp_ge 47 dX13_feed_40 (by decide) (fun _ => ?_) (fun z => absurd (by decide) z)
  refine mj_iload dX13_feed_47 0 rfl ?_
  refine mj_bipush (v := 12) dX13_feed_49 (by decide) ?_
  refine mj_icmp_ge 58 dX13_feed_51 (by decide) (fun _ => ?_) (fun z => absurd (by decide) z)
  refine mj_iload dX13_feed_58 0 rfl ?_
  refine mj_bipush (v := 16) dX13_feed_60 (by decide) ?_
  refine mj_icmp_ge 70 dX13_feed_62 (by decide) (fun _ => ?_) (fun z => absurd (by decide) z)
  refine mj_iload dX13_feed_70 7 rfl ?_
  refine mj_istore (lv2 := [(7, .int x5), (6, .int 16), (0, .ref 950), (1, .int x1), (2, .int x2), (3, .int x3), (4, .int x4), (5, .int x5)]) dX13_feed_72 (by decide) rfl ?_
  refine mj_aload_n dX13_feed_74 2 rfl ?_
  refine t_getR 951 dX13_feed_75 F_X13_7 qr_950_0 ?_
  refine mj_aload_n dX13_feed_78 2 rfl ?_
  refine t_getI dX13_feed_79 F_X13_366 qf_950_1 ?_
  rw [(t_wI w64)]
  refine mj_iload dX13_feed_82 0 rfl ?_
  refine mj_bipush (v := 8) dX13_feed_84 (by decide) ?_
  refine mj_iconst (v := 3) dX13_feed_86 (by decide) ?_
  refine mj_iload dX13_feed_87 1 rfl ?_
  refine mj_iconst (v := 4) dX13_feed_89 (by decide) ?_
  refine mj_irem dX13_feed_90 (by decide) ?_
  rw [show (16 : Int32) - 16 / 4 * 4 = 0 by decide]
  refine mj_isub dX13_feed_91 ?_
  rw [show (3 : Int32) - 0 = 3 by decide]
  refine mj_imul dX13_feed_92 ?_
  rw [show (8 : Int32) * 3 = 24 by decide]
  refine mj_ishr dX13_feed_93 ?_
  refine mj_sipush (v := 255) dX13_feed_94 (by decide) ?_
  refine mj_iand dX13_feed_97 ?_
  refine t_iast dX13_feed_98 qa_951 (by unfold vp_in; decide) ?_
  rw [show (16 : Int32).toNatClampNeg = 16 by decide]
  obtain ⟨s65, w66⟩ : ∃ z, z = t_setI s63 951 16 ((x5 >>> (24 &&& 31)) &&& 255) := ⟨_, rfl⟩
  rw [← w66]
  refine mj_aload_n dX13_feed_99 2 rfl ?_
  refine mj_dup dX13_feed_100 rfl ?_
  refine t_getI dX13_feed_101 F_X13_366 qf_950_1 ?_
  rw [((t_oI w66 950 1 rfl).trans (t_wI w64))]
  refine mj_iconst (v := 1) dX13_feed_104 (by decide) ?_
  refine mj_iadd dX13_feed_105 ?_
  rw [show (16 : Int32) + 1 = 17 by decide]
  refine t_putI dX13_feed_106 F_X13_366 qf_950_1 (by decide) ?_
  obtain ⟨s67, w68⟩ : ∃ z, z = t_setI s65 950 1 17 := ⟨_, rfl⟩
  rw [← w68]
  refine mj_iinc (k := 1) (v := 17) (lv2 := [(6, .int 17), (7, .int x5), (0, .ref 950), (1, .int x1), (2, .int x2), (3, .int x3), (4, .int x4), (5, .int x5)]) dX13_feed_109 rfl (by decide) (by decide) rfl ?_
  refine mj_goto 19 dX13_feed_112 (by decide) ?_
  refine mj_iload dX13_feed_19 0 rfl ?_
  refine mj_bipush (v := 20) dX13_feed_21 (by decide) ?_
  refine mj_icmp_ge 115 dX13_feed_23 (by decide) (fun z => absurd z (by decide)) (fun _ => ?_)
  refine mj_iload dX13_feed_26 0 rfl ?_
  refine mj_iconst (v := 4) dX13_feed_28 (by decide) ?_
  refine mj_icmp_ge 36 dX13_feed_29 (by decide) (fun _ => ?_) (fun z => absurd (by decide) z)
  refine mj_iload dX13_feed_36 0 rfl ?_
  refine mj_bipush (v := 8) dX13_feed_38 (by decide) ?_
  refine mj_icmp_ge 47 dX13_feed_40 (by decide) (fun _ => ?_) (fun z => absurd (by decide) z)
  refine mj_iload dX13_feed_47 0 rfl ?_
  refine mj_bipush (v := 12) dX13_feed_49 (by decide) ?_
  refine mj_icmp_ge 58 dX13_feed_51 (by decide) (fun _ => ?_) (fun z => absurd (by decide) z)
  refine mj_iload dX13_feed_58 0 rfl ?_
  refine mj_bipush (v := 16) dX13_feed_60 (by decide) ?_
  refine mj_icmp_ge 70 dX13_feed_62 (by decide) (fun _ => ?_) (fun z => absurd (by decide) z)
  refine mj_iload dX13_feed_70 7 rfl ?_
  refine mj_istore (lv2 := [(7, .int x5), (6, .int 17), (0, .ref 950), (1, .int x1), (2, .int x2), (3, .int x3), (4, .int x4), (5, .int x5)]) dX13_feed_72 (by decide) rfl ?_
  refine mj_aload_n dX13_feed_74 2 rfl ?_
  refine t_getR 951 dX13_feed_75 F_X13_7 qr_950_0 ?_
  refine mj_aload_n dX13_feed_78 2 rfl ?_
  refine t_getI dX13_feed_79 F_X13_366 qf_950_1 ?_
  rw [(t_wI w68)]
  refine mj_iload dX13_feed_82 0 rfl ?_
  refine mj_bipush (v := 8) dX13_feed_84 (by decide) ?_
  refine mj_iconst (v := 3) dX13_feed_86 (by decide) ?_
  refine mj_iload dX13_feed_87 1 rfl ?_
  refine mj_iconst (v := 4) dX13_feed_89 (by decide) ?_
  refine mj_irem dX13_feed_90 (by decide) ?_
  rw [show (17 : Int32) - 17 / 4 * 4 = 1 by decide]
  refine mj_isub dX13_feed_91 ?_
  rw [show (3 : Int32) - 1 = 2 by decide]
  refine mj_imul dX13_feed_92 ?_
  rw [show (8 : Int32) * 2 = 16 by decide]
  refine mj_ishr dX13_feed_93 ?_
  refine mj_sipush (v := 255) dX13_feed_94 (by decide) ?_
  refine mj_iand dX13_feed_97 ?_
  refine t_iast dX13_feed_98 qa_951 (by unfold vp_in; decide) ?_
  rw [show (17 : Int32).toNatClampNeg = 17 by decide]
  obtain ⟨s69, w70⟩ : ∃ z, z = t_setI s67 951 17 ((x5 >>> (16 &&& 31)) &&& 255) := ⟨_, rfl⟩
  rw [← w70]
  refine mj_aload_n dX13_feed_99 2 rfl ?_
  refine mj_dup dX13_feed_100 rfl ?_
  refine t_getI dX13_feed_101 F_X13_366 qf_950_1 ?_
  rw [((t_oI w70 950 1 rfl).trans (t_wI w68))]
  refine mj_iconst (v := 1) dX13_feed_104 (by decide) ?_
  refine mj_iadd dX13_feed_105 ?_
  rw [show (17 : Int32) + 1 = 18 by decide]
  refine t_putI dX13_feed_106 F_X13_366 qf_950_1 (by decide) ?_
  obtain ⟨s71, w72⟩ : ∃ z, z = t_setI s69 950 1 18 := ⟨_, rfl⟩
  rw [← w72]
  refine mj_iinc (k := 1) (v := 18) (lv2 := [(6, .int 18), (7, .int x5), (0, .ref 950), (1, .int x1), (2, .int x2), (3, .int x3), (4, .int x4), (5, .int x5)]) dX13_feed_109 rfl (by decide) (by decide) rfl ?_
  refine mj_goto 19 dX13_feed_112 (by decide) ?_
  refine mj_iload dX13_feed_19 0 rfl ?_
  refine mj_bipush (v := 20) dX13_feed_21 (by decide) ?_
  refine mj_icmp_ge 115 dX13_feed_23 (by decide) (fun z => absurd z (by decide)) (fun _ => ?_)
  refine mj_iload dX13_feed_26 0 rfl ?_
  refine mj_iconst (v := 4) dX13_feed_28 (by decide) ?_
  refine mj_icmp_ge 36 dX13_feed_29 (by decide) (fun _ => ?_) (fun z => absurd (by decide) z)
  refine mj_iload dX13_feed_36 0 rfl ?_
  refine mj_bipush (v := 8) dX13_feed_38 (by decide) ?_
  refine mj_icmp_ge 47 dX13_feed_40 (by decide) (fun _ => ?_) (fun z => absurd (by decide) z)
  refine mj_iload dX13_feed_47 0 rfl ?_
  refine mj_bipush (v := 12) dX13_feed_49 (by decide) ?_
  refine mj_icmp_ge 58 dX13_feed_51 (by decide) (fun _ => ?_) (fun z => absurd (by decide) z)
  refine mj_iload dX13_feed_58 0 rfl ?_
  refine mj_bipush (v := 16) dX13_feed_60 (by decide) ?_
  refine mj_icmp_ge 70 dX13_feed_62 (by decide) (fun _ => ?_) (fun z => absurd (by decide) z)
  refine mj_iload dX13_feed_70 7 rfl ?_
  refine mj_istore (lv2 := [(7, .int x5), (6, .int 18), (0, .ref 950), (1, .int x1), (2, .int x2), (3, .int x3), (4, .int x4), (5, .int x5)]) dX13_feed_72 (by decide) rfl ?_
  refine mj_aload_n dX13_feed_74 2 rfl ?_
  refine t_getR 951 dX13_feed_75 F_X13_7 qr_950_0 ?_
  refine mj_aload_n dX13_feed_78 2 rfl ?_
  refine t_getI dX13_feed_79 F_X13_366 qf_950_1 ?_
  rw [(t_wI w72)]
  refine mj_iload dX13_feed_82 0 rfl ?_
  refine mj_bipush (v := 8) dX13_feed_84 (by decide) ?_
  refine mj_iconst (v := 3) dX13_feed_86 (by decide) ?_
  refine mj_iload dX13_feed_87 1 rfl ?_
  refine mj_iconst (v := 4) dX13_feed_89 (by decide) ?_
  refine mj_irem dX13_feed_90 (by decide) ?_
  rw [show (18 : Int32) - 18 / 4 * 4 = 2 by decide]
  refine mj_isub dX13_feed_91 ?_
  rw [show (3 : Int32) - 2 = 1 by decide]
  refine mj_imul dX13_feed_92 ?_
  rw [show (8 : Int32) * 1 = 8 by decide]
  refine mj_ishr dX13_feed_93 ?_
  refine mj_sipush (v := 255) dX13_feed_94 (by decide) ?_
  refine mj_iand dX13_feed_97 ?_
  refine t_iast dX13_feed_98 qa_951 (by unfold vp_in; decide) ?_
  rw [show (18 : Int32).toNatClampNeg = 18 by decide]
  obtain ⟨s73, w74⟩ : ∃ z, z = t_setI s71 951 18 ((x5 >>> (8 &&& 31)) &&& 255) := ⟨_, rfl⟩
  rw [← w74]
  refine mj_aload_n dX13_feed_99 2 rfl ?_
  refine mj_dup dX13_feed_100 rfl ?_
  refine t_getI dX13_feed_101 F_X13_366 qf_950_1 ?_
  rw [((t_oI w74 950 1 rfl).trans (t_wI w72))]
  refine mj_iconst (v := 1) dX13_feed_104 (by decide) ?_
  refine mj_iadd dX13_feed_105 ?_
  rw [show (18 : Int32) + 1 = 19 by decide]
  refine t_putI dX13_feed_106 F_X13_366 qf_950_1 (by decide) ?_
  obtain ⟨s75, w76⟩ : ∃ z, z = t_setI s73 950 1 19 := ⟨_, rfl⟩
  rw [← w76]
  refine mj_iinc (k := 1) (v := 19) (lv2 := [(6, .int 19), (7, .int x5), (0, .ref 950), (1, .int x1), (2, .int x2), (3, .int x3), (4, .int x4), (5, .int x5)]) dX13_feed_109 rfl (by decide) (by decide) rfl ?_
  refine mj_goto 19 dX13_feed_112 (by decide) ?_
  refine mj_iload dX13_feed_19 0 rfl ?_
  refine mj_bipush (v := 20) dX13_feed_21 (by decide) ?_
  refine mj_icmp_ge 115 dX13_feed_23 (by decide) (fun z => absurd z (by decide)) (fun _ => ?_)
  refine mj_iload dX13_feed_26 0 rfl ?_
  refine mj_iconst (v := 4) dX13_feed_28 (by decide) ?_
  refine mj_icmp_ge 36 dX13_feed_29 (by decide) (fun _ => ?_) (fun z => absurd (by decide) z)
  refine mj_iload dX13_feed_36 0 rfl ?_
  refine mj_bipush (v := 8) dX13_feed_38 (by decide) ?_
  refine mj_icmp_ge 47 dX13_feed_40 (by decide) (fun _ => ?_) (fun z => absurd (by decide) z)
  refine mj_iload dX13_feed_47 0 rfl ?_
  refine mj_bipush (v := 12) dX13_feed_49 (by decide) ?_
  refine mj_icmp_ge 58 dX13_feed_51 (by decide) (fun _ => ?_) (fun z => absurd (by decide) z)
  refine mj_iload dX13_feed_58 0 rfl ?_
  refine mj_bipush (v := 16) dX13_feed_60 (by decide) ?_
  refine mj_icmp_ge 70 dX13_feed_62 (by decide) (fun _ => ?_) (fun z => absurd (by decide) z)
  refine mj_iload dX13_feed_70 7 rfl ?_
  refine mj_istore (lv2 := [(7, .int x5), (6, .int 19), (0, .ref 950), (1, .int x1), (2, .int x2), (3, .int x3), (4, .int x4), (5, .int x5)]) dX13_feed_72 (by decide) rfl ?_
  refine mj_aload_n dX13_feed_74 2 rfl ?_
  refine t_getR 951 dX13_feed_75 F_X13_7 qr_950_0 ?_
  refine mj_aload_n dX13_feed_78 2 rfl ?_
  refine t_getI dX13_feed_79 F_X13_366 qf_950_1 ?_
  rw [(t_wI w76)]
  refine mj_iload dX13_feed_82 0 rfl ?_
  refine mj_bipush (v := 8) dX13_feed_84 (by decide) ?_
  refine mj_iconst (v := 3) dX13_feed_86 (by decide) ?_
  refine mj_iload dX13_feed_87 1 rfl ?_
  refine mj_iconst (v := 4) dX13_feed_89 (by decide) ?_
  refine mj_irem dX13_feed_90 (by decide) ?_
  rw [show (19 : Int32) - 19 / 4 * 4 = 3 by decide]
  refine mj_isub dX13_feed_91 ?_
  rw [show (3 : Int32) - 3 = 0 by decide]
  refine mj_imul dX13_feed_92 ?_
  rw [show (8 : Int32) * 0 = 0 by decide]
  refine mj_ishr dX13_feed_93 ?_
  refine mj_sipush (v := 255) dX13_feed_94 (by decide) ?_
  refine mj_iand dX13_feed_97 ?_
  refine t_iast dX13_feed_98 qa_951 (by unfold vp_in; decide) ?_
  rw [show (19 : Int32).toNatClampNeg = 19 by decide]
  obtain ⟨s77, w78⟩ : ∃ z, z = t_setI s75 951 19 ((x5 >>> (0 &&& 31)) &&& 255) := ⟨_, rfl⟩
  rw [← w78]
  refine mj_aload_n dX13_feed_99 2 rfl ?_
  refine mj_dup dX13_feed_100 rfl ?_
  refine t_getI dX13_feed_101 F_X13_366 qf_950_1 ?_
  rw [((t_oI w78 950 1 rfl).trans (t_wI w76))]
  refine mj_iconst (v := 1) dX13_feed_104 (by decide) ?_
  refine mj_iadd dX13_feed_105 ?_
  rw [show (19 : Int32) + 1 = 20 by decide]
  refine t_putI dX13_feed_106 F_X13_366 qf_950_1 (by decide) ?_
  obtain ⟨s79, w80⟩ : ∃ z, z = t_setI s77 950 1 20 := ⟨_, rfl⟩
  rw [← w80]
  refine mj_iinc (k := 1) (v := 20) (lv2 := [(6, .int 20), (7, .int x5), (0, .ref 950), (1, .int x1), (2, .int x2), (3, .int x3), (4, .int x4), (5, .int x5)]) dX13_feed_109 rfl (by decide) (by decide) rfl ?_
  refine mj_goto 19 dX13_feed_112 (by decide) ?_
  refine mj_iload dX13_feed_19 0 rfl ?_
  refine mj_bipush (v := 20) dX13_feed_21 (by decide) ?_
  refine mj_icmp_ge 115 dX13_feed_23 (by decide) (fun _ => ?_) (fun z => absurd (by decide) z)
  refine mj_aload_n dX13_feed_115 2 rfl ?_
  refine t_getI dX13_feed_116 F_X13_366 qf_950_1 ?_
  rw [(t_wI w80)]
  exact t_iret dX13_feed_119 rfl (by decide) (hpost _ _ ⟨rfl, ((((((((((((((((((((((((((((((((((((((((t_keep_I w2 (by decide)).trans (t_keep_I w4 (by decide))).trans (t_keep_I w6 (by decide))).trans (t_keep_I w8 (by decide))).trans (t_keep_I w10 (by decide))).trans (t_keep_I w12 (by decide))).trans (t_keep_I w14 (by decide))).trans (t_keep_I w16 (by decide))).trans (t_keep_I w18 (by decide))).trans (t_keep_I w20 (by decide))).trans (t_keep_I w22 (by decide))).trans (t_keep_I w24 (by decide))).trans (t_keep_I w26 (by decide))).trans (t_keep_I w28 (by decide))).trans (t_keep_I w30 (by decide))).trans (t_keep_I w32 (by decide))).trans (t_keep_I w34 (by decide))).trans (t_keep_I w36 (by decide))).trans (t_keep_I w38 (by decide))).trans (t_keep_I w40 (by decide))).trans (t_keep_I w42 (by decide))).trans (t_keep_I w44 (by decide))).trans (t_keep_I w46 (by decide))).trans (t_keep_I w48 (by decide))).trans (t_keep_I w50 (by decide))).trans (t_keep_I w52 (by decide))).trans (t_keep_I w54 (by decide))).trans (t_keep_I w56 (by decide))).trans (t_keep_I w58 (by decide))).trans (t_keep_I w60 (by decide))).trans (t_keep_I w62 (by decide))).trans (t_keep_I w64 (by decide))).trans (t_keep_I w66 (by decide))).trans (t_keep_I w68 (by decide))).trans (t_keep_I w70 (by decide))).trans (t_keep_I w72 (by decide))).trans (t_keep_I w74 (by decide))).trans (t_keep_I w76 (by decide))).trans (t_keep_I w78 (by decide))).trans (t_keep_I w80 (by decide)))⟩) (Nat.le_of_ble_eq_true rfl) (Nat.le_of_ble_eq_true rfl)

theorem dX13_peek_0 : decode cX13_peek 0 = .ok (.iload_n 1, 1) := by decide +kernel
theorem dX13_peek_1 : decode cX13_peek 1 = .ok (.aload_n 0, 1) := by decide +kernel
theorem dX13_peek_17 : decode cX13_peek 17 = .ok (.iconst (-1), 1) := by decide +kernel
theorem dX13_peek_18 : decode cX13_peek 18 = .ok (.ireturn, 1) := by decide +kernel
theorem dX13_peek_2 : decode cX13_peek 2 = .ok (.getfield 366, 3) := by decide +kernel
theorem dX13_peek_5 : decode cX13_peek 5 = .ok (.if_icmp .ge 12, 3) := by decide +kernel
set_option maxRecDepth 4000 in
set_option maxHeartbeats 400000 in
theorem N_X13_peek (s : t_S) (h_I_950_1 : s.1 950 1 = 0) : t_C yX13_peek cX13_peek 2 (some .int) 0 [.ref 950, .int 0] s (fun v s' => v = some (.int (-1)) ∧ s' = s) := by
  refine t_C.of (by decide +kernel) (Nat.le_of_ble_eq_true rfl) ?_
  intro D cy ad bs X
  suffices main : ∀ post : Option Value → t_S → Prop, (∀ v s', (v = some (.int (-1)) ∧ s' = s) → post v s') → mj_G D cy ad bs X cX13_peek 2 yX13_peek.cls (some .int) yX13_peek.name 0 0 0 1065 (t_P post) 0 [(0, .ref 950), (1, .int 0)] [] (t_m s) 1065 0 0 from main _ (fun _ _ h => h)
  intro post hpost
  refine mj_iload_n dX13_peek_0 1 rfl ?_
  refine mj_aload_n dX13_peek_1 0 rfl ?_
  refine t_getI dX13_peek_2 F_X13_366 qf_950_1 ?_
  rw [h_I_950_1]
  refine mj_icmp_ge 17 dX13_peek_5 (by decide) (fun _ => ?_) (fun z => absurd (by decide) z)
  refine mj_iconst (v := (-1)) dX13_peek_17 (by decide) ?_
  exact t_iret dX13_peek_18 rfl (by decide) (hpost _ _ ⟨rfl, rfl⟩) (Nat.le_of_ble_eq_true rfl) (Nat.le_of_ble_eq_true rfl)

theorem dX13_skip_0 : decode cX13_skip 0 = .ok (.iconst 1, 1) := by decide +kernel
theorem dX13_skip_1 : decode cX13_skip 1 = .ok (.istore_n 1, 1) := by decide +kernel
theorem dX13_skip_109 : decode cX13_skip 109 = .ok (.goto (-107), 3) := by decide +kernel
theorem dX13_skip_11 : decode cX13_skip 11 = .ok (.invokevirtual 381, 3) := by decide +kernel
theorem dX13_skip_112 : decode cX13_skip 112 = .ok (.return_, 1) := by decide +kernel
theorem dX13_skip_14 : decode cX13_skip 14 = .ok (.istore_n 2, 1) := by decide +kernel
theorem dX13_skip_15 : decode cX13_skip 15 = .ok (.iload_n 2, 1) := by decide +kernel
theorem dX13_skip_16 : decode cX13_skip 16 = .ok (.bipush 9, 2) := by decide +kernel
theorem dX13_skip_18 : decode cX13_skip 18 = .ok (.if_icmp .eq 27, 3) := by decide +kernel
theorem dX13_skip_2 : decode cX13_skip 2 = .ok (.iload_n 1, 1) := by decide +kernel
theorem dX13_skip_21 : decode cX13_skip 21 = .ok (.iload_n 2, 1) := by decide +kernel
theorem dX13_skip_22 : decode cX13_skip 22 = .ok (.bipush 10, 2) := by decide +kernel
theorem dX13_skip_24 : decode cX13_skip 24 = .ok (.if_icmp .eq 21, 3) := by decide +kernel
theorem dX13_skip_27 : decode cX13_skip 27 = .ok (.iload_n 2, 1) := by decide +kernel
theorem dX13_skip_28 : decode cX13_skip 28 = .ok (.bipush 13, 2) := by decide +kernel
theorem dX13_skip_3 : decode cX13_skip 3 = .ok (.ifCond .eq 109, 3) := by decide +kernel
theorem dX13_skip_30 : decode cX13_skip 30 = .ok (.if_icmp .eq 15, 3) := by decide +kernel
theorem dX13_skip_33 : decode cX13_skip 33 = .ok (.iload_n 2, 1) := by decide +kernel
theorem dX13_skip_34 : decode cX13_skip 34 = .ok (.bipush 32, 2) := by decide +kernel
theorem dX13_skip_36 : decode cX13_skip 36 = .ok (.if_icmp .eq 9, 3) := by decide +kernel
theorem dX13_skip_39 : decode cX13_skip 39 = .ok (.iload_n 2, 1) := by decide +kernel
theorem dX13_skip_40 : decode cX13_skip 40 = .ok (.bipush 35, 2) := by decide +kernel
theorem dX13_skip_42 : decode cX13_skip 42 = .ok (.if_icmp .ne 7, 3) := by decide +kernel
theorem dX13_skip_49 : decode cX13_skip 49 = .ok (.iconst 0, 1) := by decide +kernel
theorem dX13_skip_50 : decode cX13_skip 50 = .ok (.istore_n 1, 1) := by decide +kernel
theorem dX13_skip_51 : decode cX13_skip 51 = .ok (.iload_n 2, 1) := by decide +kernel
theorem dX13_skip_52 : decode cX13_skip 52 = .ok (.bipush 35, 2) := by decide +kernel
theorem dX13_skip_54 : decode cX13_skip 54 = .ok (.if_icmp .ne 41, 3) := by decide +kernel
theorem dX13_skip_6 : decode cX13_skip 6 = .ok (.aload_n 0, 1) := by decide +kernel
theorem dX13_skip_7 : decode cX13_skip 7 = .ok (.aload_n 0, 1) := by decide +kernel
theorem dX13_skip_8 : decode cX13_skip 8 = .ok (.getfield 378, 3) := by decide +kernel
theorem dX13_skip_95 : decode cX13_skip 95 = .ok (.iload_n 1, 1) := by decide +kernel
theorem dX13_skip_96 : decode cX13_skip 96 = .ok (.ifCond .eq 13, 3) := by decide +kernel
set_option maxRecDepth 4000 in
set_option maxHeartbeats 400000 in
theorem N_X13_skip (s : t_S) (h_I_950_1 : s.1 950 1 = 0) (h_I_950_4 : s.1 950 4 = 0) : t_C yX13_skip cX13_skip 3 none 1 [.ref 950] s (fun v s' => v = none ∧ s' = s) := by
  refine t_C.of (by decide +kernel) (Nat.le_of_ble_eq_true rfl) ?_
  intro D cy ad bs X
  suffices main : ∀ post : Option Value → t_S → Prop, (∀ v s', (v = none ∧ s' = s) → post v s') → mj_G D cy ad bs X cX13_skip 3 yX13_skip.cls none yX13_skip.name 1 0 0 1065 (t_P post) 0 [(0, .ref 950)] [] (t_m s) 1065 0 0 from main _ (fun _ _ h => h)
  intro post hpost
  refine mj_iconst (v := 1) dX13_skip_0 (by decide) ?_
  refine mj_istore_n 1 (lv2 := [(1, .int 1), (0, .ref 950)]) dX13_skip_1 rfl (by decide) rfl ?_
  refine mj_iload_n dX13_skip_2 0 rfl ?_
  refine mj_if_eq 112 dX13_skip_3 (by decide) (fun z => absurd z (by decide)) (fun _ => ?_)
  refine mj_aload_n dX13_skip_6 1 rfl ?_
  refine mj_aload_n dX13_skip_7 1 rfl ?_
  refine t_getI dX13_skip_8 F_X13_378 qf_950_4 ?_
  rw [h_I_950_4]
  refine t_callV dX13_skip_11 M_X13_peek (N_X13_peek s h_I_950_1) ML_X13_381 IM_X13_peek SE_X13_peek qc_950 rfl (As := [.int 0]) rfl rfl (Nat.le_of_ble_eq_true rfl) (Nat.le_of_ble_eq_true rfl) (Nat.le_of_ble_eq_true rfl) (Nat.le_of_ble_eq_true rfl) (fun v s1 hp => ?_)
  obtain ⟨rfl, hq⟩ := hp
  rw [hq]
  clear hq s1
  refine mj_istore_n 2 (lv2 := [(2, .int (-1)), (1, .int 1), (0, .ref 950)]) dX13_skip_14 rfl (by decide) rfl ?_
  refine mj_iload_n dX13_skip_15 0 rfl ?_
  refine mj_bipush (v := 9) dX13_skip_16 (by decide) ?_
  refine mj_icmp_eq 45 dX13_skip_18 (by decide) (fun z => absurd z (by decide)) (fun _ => ?_)
  refine mj_iload_n dX13_skip_21 0 rfl ?_
  refine mj_bipush (v := 10) dX13_skip_22 (by decide) ?_
  refine mj_icmp_eq 45 dX13_skip_24 (by decide) (fun z => absurd z (by decide)) (fun _ => ?_)
  refine mj_iload_n dX13_skip_27 0 rfl ?_
  refine mj_bipush (v := 13) dX13_skip_28 (by decide) ?_
  refine mj_icmp_eq 45 dX13_skip_30 (by decide) (fun z => absurd z (by decide)) (fun _ => ?_)
  refine mj_iload_n dX13_skip_33 0 rfl ?_
  refine mj_bipush (v := 32) dX13_skip_34 (by decide) ?_
  refine mj_icmp_eq 45 dX13_skip_36 (by decide) (fun z => absurd z (by decide)) (fun _ => ?_)
  refine mj_iload_n dX13_skip_39 0 rfl ?_
  refine mj_bipush (v := 35) dX13_skip_40 (by decide) ?_
  refine mj_icmp_ne 49 dX13_skip_42 (by decide) (fun _ => ?_) (fun z => absurd z (by decide))
  refine mj_iconst (v := 0) dX13_skip_49 (by decide) ?_
  refine mj_istore_n 1 (lv2 := [(1, .int 0), (2, .int (-1)), (0, .ref 950)]) dX13_skip_50 rfl (by decide) rfl ?_
  refine mj_iload_n dX13_skip_51 1 rfl ?_
  refine mj_bipush (v := 35) dX13_skip_52 (by decide) ?_
  refine mj_icmp_ne 95 dX13_skip_54 (by decide) (fun _ => ?_) (fun z => absurd z (by decide))
  refine mj_iload_n dX13_skip_95 0 rfl ?_
  refine mj_if_eq 109 dX13_skip_96 (by decide) (fun _ => ?_) (fun z => absurd (by decide) z)
  refine mj_goto 2 dX13_skip_109 (by decide) ?_
  refine mj_iload_n dX13_skip_2 0 rfl ?_
  refine mj_if_eq 112 dX13_skip_3 (by decide) (fun _ => ?_) (fun z => absurd (by decide) z)
  exact t_vret dX13_skip_112 rfl (hpost _ _ ⟨rfl, rfl⟩) (Nat.le_of_ble_eq_true rfl) (Nat.le_of_ble_eq_true rfl)

theorem dX13_next_0 : decode cX13_next 0 = .ok (.aload_n 0, 1) := by decide +kernel
theorem dX13_next_1 : decode cX13_next 1 = .ok (.getfield 375, 3) := by decide +kernel
theorem dX13_next_13 : decode cX13_next 13 = .ok (.aload_n 0, 1) := by decide +kernel
theorem dX13_next_14 : decode cX13_next 14 = .ok (.invokevirtual 388, 3) := by decide +kernel
theorem dX13_next_17 : decode cX13_next 17 = .ok (.aload_n 0, 1) := by decide +kernel
theorem dX13_next_18 : decode cX13_next 18 = .ok (.aload_n 0, 1) := by decide +kernel
theorem dX13_next_19 : decode cX13_next 19 = .ok (.getfield 378, 3) := by decide +kernel
theorem dX13_next_22 : decode cX13_next 22 = .ok (.putfield 391, 3) := by decide +kernel
theorem dX13_next_25 : decode cX13_next 25 = .ok (.aload_n 0, 1) := by decide +kernel
theorem dX13_next_26 : decode cX13_next 26 = .ok (.iconst 0, 1) := by decide +kernel
theorem dX13_next_27 : decode cX13_next 27 = .ok (.putfield 394, 3) := by decide +kernel
theorem dX13_next_30 : decode cX13_next 30 = .ok (.aload_n 0, 1) := by decide +kernel
theorem dX13_next_31 : decode cX13_next 31 = .ok (.iconst (-1), 1) := by decide +kernel
theorem dX13_next_32 : decode cX13_next 32 = .ok (.putfield 397, 3) := by decide +kernel
theorem dX13_next_35 : decode cX13_next 35 = .ok (.aload_n 0, 1) := by decide +kernel
theorem dX13_next_36 : decode cX13_next 36 = .ok (.aload_n 0, 1) := by decide +kernel
theorem dX13_next_37 : decode cX13_next 37 = .ok (.getfield 378, 3) := by decide +kernel
theorem dX13_next_4 : decode cX13_next 4 = .ok (.ifCond .eq 9, 3) := by decide +kernel
theorem dX13_next_40 : decode cX13_next 40 = .ok (.invokevirtual 381, 3) := by decide +kernel
theorem dX13_next_43 : decode cX13_next 43 = .ok (.istore_n 1, 1) := by decide +kernel
theorem dX13_next_436 : decode cX13_next 436 = .ok (.aload_n 0, 1) := by decide +kernel
theorem dX13_next_437 : decode cX13_next 437 = .ok (.getfield 375, 3) := by decide +kernel
theorem dX13_next_44 : decode cX13_next 44 = .ok (.iload_n 1, 1) := by decide +kernel
theorem dX13_next_440 : decode cX13_next 440 = .ok (.ifCond .eq 8, 3) := by decide +kernel
theorem dX13_next_448 : decode cX13_next 448 = .ok (.return_, 1) := by decide +kernel
theorem dX13_next_45 : decode cX13_next 45 = .ok (.ifCond .ge 11, 3) := by decide +kernel
theorem dX13_next_48 : decode cX13_next 48 = .ok (.aload_n 0, 1) := by decide +kernel
theorem dX13_next_49 : decode cX13_next 49 = .ok (.iconst 0, 1) := by decide +kernel
theorem dX13_next_50 : decode cX13_next 50 = .ok (.putfield 385, 3) := by decide +kernel
theorem dX13_next_53 : decode cX13_next 53 = .ok (.goto 383, 3) := by decide +kernel
set_option maxRecDepth 4000 in
set_option maxHeartbeats 400000 in
theorem N_X13_next (s : t_S) (h_I_950_1 : s.1 950 1 = 0) (h_I_950_2 : s.1 950 2 = 0) (h_I_950_4 : s.1 950 4 = 0) : t_C yX13_next cX13_next 2 none 2 [.ref 950] s (fun v s' => v = none ∧ (s'.1 950 1 = s.1 950 1) ∧ (s'.1 950 10 = (-1)) ∧ (s'.1 950 100 = s.1 950 100) ∧ (s'.1 950 101 = s.1 950 101) ∧ (s'.1 950 103 = s.1 950 103) ∧ (s'.1 950 106 = s.1 950 106) ∧ (s'.1 950 108 = s.1 950 108) ∧ (s'.1 950 114 = s.1 950 114) ∧ (s'.1 950 117 = s.1 950 117) ∧ (s'.1 950 119 = s.1 950 119) ∧ (s'.1 950 121 = s.1 950 121) ∧ (s'.1 950 125 = s.1 950 125) ∧ (s'.1 950 126 = s.1 950 126) ∧ (s'.1 950 127 = s.1 950 127) ∧ (s'.1 950 129 = s.1 950 129) ∧ (s'.1 950 133 = s.1 950 133) ∧ (s'.1 950 135 = s.1 950 135) ∧ (s'.1 950 137 = s.1 950 137) ∧ (s'.1 950 138 = s.1 950 138) ∧ (s'.1 950 14 = s.1 950 14) ∧ (s'.1 950 141 = s.1 950 141) ∧ (s'.1 950 146 = s.1 950 146) ∧ (s'.1 950 147 = s.1 950 147) ∧ (s'.1 950 149 = s.1 950 149) ∧ (s'.1 950 15 = s.1 950 15) ∧ (s'.1 950 16 = s.1 950 16) ∧ (s'.1 950 174 = s.1 950 174) ∧ (s'.1 950 176 = s.1 950 176) ∧ (s'.1 950 178 = s.1 950 178) ∧ (s'.1 950 179 = s.1 950 179) ∧ (s'.1 950 180 = s.1 950 180) ∧ (s'.1 950 183 = s.1 950 183) ∧ (s'.1 950 184 = s.1 950 184) ∧ (s'.1 950 185 = s.1 950 185) ∧ (s'.1 950 2 = s.1 950 2) ∧ (s'.1 950 24 = s.1 950 24) ∧ (s'.1 950 26 = s.1 950 26) ∧ (s'.1 950 27 = s.1 950 27) ∧ (s'.1 950 28 = s.1 950 28) ∧ (s'.1 950 29 = s.1 950 29) ∧ (s'.1 950 3 = s.1 950 3) ∧ (s'.1 950 30 = s.1 950 30) ∧ (s'.1 950 31 = s.1 950 31) ∧ (s'.1 950 32 = s.1 950 32) ∧ (s'.1 950 33 = s.1 950 33) ∧ (s'.1 950 34 = s.1 950 34) ∧ (s'.1 950 36 = s.1 950 36) ∧ (s'.1 950 4 = s.1 950 4) ∧ (s'.1 950 40 = s.1 950 40) ∧ (s'.1 950 44 = s.1 950 44) ∧ (s'.1 950 5 = 0) ∧ (s'.1 950 55 = s.1 950 55) ∧ (s'.1 950 6 = 0) ∧ (s'.1 950 64 = s.1 950 64) ∧ (s'.1 950 65 = s.1 950 65) ∧ (s'.1 950 7 = 0) ∧ (s'.1 950 81 = s.1 950 81) ∧ (s'.1 950 82 = s.1 950 82) ∧ (s'.1 950 83 = s.1 950 83) ∧ (s'.1 950 84 = s.1 950 84) ∧ (s'.1 950 86 = s.1 950 86) ∧ (s'.1 950 87 = s.1 950 87) ∧ (s'.1 950 88 = s.1 950 88) ∧ (s'.1 950 89 = s.1 950 89) ∧ (s'.1 950 9 = s.1 950 9) ∧ (s'.1 950 90 = s.1 950 90) ∧ (s'.1 950 93 = s.1 950 93) ∧ (s'.1 950 94 = s.1 950 94) ∧ (s'.1 950 96 = s.1 950 96) ∧ (s'.1 950 97 = s.1 950 97) ∧ (s'.1 950 98 = s.1 950 98) ∧ (s'.2.1 950 128 = s.2.1 950 128) ∧ (s'.2.1 950 148 = s.2.1 950 148) ∧ (s'.2.1 950 171 = s.2.1 950 171) ∧ (s'.2.1 950 172 = s.2.1 950 172) ∧ (s'.2.1 950 8 = s.2.1 950 8) ∧ t_keep [950] s s') := by
  refine t_C.of (by decide +kernel) (Nat.le_of_ble_eq_true rfl) ?_
  intro D cy ad bs X
  suffices main : ∀ post : Option Value → t_S → Prop, (∀ v s', (v = none ∧ (s'.1 950 1 = s.1 950 1) ∧ (s'.1 950 10 = (-1)) ∧ (s'.1 950 100 = s.1 950 100) ∧ (s'.1 950 101 = s.1 950 101) ∧ (s'.1 950 103 = s.1 950 103) ∧ (s'.1 950 106 = s.1 950 106) ∧ (s'.1 950 108 = s.1 950 108) ∧ (s'.1 950 114 = s.1 950 114) ∧ (s'.1 950 117 = s.1 950 117) ∧ (s'.1 950 119 = s.1 950 119) ∧ (s'.1 950 121 = s.1 950 121) ∧ (s'.1 950 125 = s.1 950 125) ∧ (s'.1 950 126 = s.1 950 126) ∧ (s'.1 950 127 = s.1 950 127) ∧ (s'.1 950 129 = s.1 950 129) ∧ (s'.1 950 133 = s.1 950 133) ∧ (s'.1 950 135 = s.1 950 135) ∧ (s'.1 950 137 = s.1 950 137) ∧ (s'.1 950 138 = s.1 950 138) ∧ (s'.1 950 14 = s.1 950 14) ∧ (s'.1 950 141 = s.1 950 141) ∧ (s'.1 950 146 = s.1 950 146) ∧ (s'.1 950 147 = s.1 950 147) ∧ (s'.1 950 149 = s.1 950 149) ∧ (s'.1 950 15 = s.1 950 15) ∧ (s'.1 950 16 = s.1 950 16) ∧ (s'.1 950 174 = s.1 950 174) ∧ (s'.1 950 176 = s.1 950 176) ∧ (s'.1 950 178 = s.1 950 178) ∧ (s'.1 950 179 = s.1 950 179) ∧ (s'.1 950 180 = s.1 950 180) ∧ (s'.1 950 183 = s.1 950 183) ∧ (s'.1 950 184 = s.1 950 184) ∧ (s'.1 950 185 = s.1 950 185) ∧ (s'.1 950 2 = s.1 950 2) ∧ (s'.1 950 24 = s.1 950 24) ∧ (s'.1 950 26 = s.1 950 26) ∧ (s'.1 950 27 = s.1 950 27) ∧ (s'.1 950 28 = s.1 950 28) ∧ (s'.1 950 29 = s.1 950 29) ∧ (s'.1 950 3 = s.1 950 3) ∧ (s'.1 950 30 = s.1 950 30) ∧ (s'.1 950 31 = s.1 950 31) ∧ (s'.1 950 32 = s.1 950 32) ∧ (s'.1 950 33 = s.1 950 33) ∧ (s'.1 950 34 = s.1 950 34) ∧ (s'.1 950 36 = s.1 950 36) ∧ (s'.1 950 4 = s.1 950 4) ∧ (s'.1 950 40 = s.1 950 40) ∧ (s'.1 950 44 = s.1 950 44) ∧ (s'.1 950 5 = 0) ∧ (s'.1 950 55 = s.1 950 55) ∧ (s'.1 950 6 = 0) ∧ (s'.1 950 64 = s.1 950 64) ∧ (s'.1 950 65 = s.1 950 65) ∧ (s'.1 950 7 = 0) ∧ (s'.1 950 81 = s.1 950 81) ∧ (s'.1 950 82 = s.1 950 82) ∧ (s'.1 950 83 = s.1 950 83) ∧ (s'.1 950 84 = s.1 950 84) ∧ (s'.1 950 86 = s.1 950 86) ∧ (s'.1 950 87 = s.1 950 87) ∧ (s'.1 950 88 = s.1 950 88) ∧ (s'.1 950 89 = s.1 950 89) ∧ (s'.1 950 9 = s.1 950 9) ∧ (s'.1 950 90 = s.1 950 90) ∧ (s'.1 950 93 = s.1 950 93) ∧ (s'.1 950 94 = s.1 950 94) ∧ (s'.1 950 96 = s.1 950 96) ∧ (s'.1 950 97 = s.1 950 97) ∧ (s'.1 950 98 = s.1 950 98) ∧ (s'.2.1 950 128 = s.2.1 950 128) ∧ (s'.2.1 950 148 = s.2.1 950 148) ∧ (s'.2.1 950 171 = s.2.1 950 171) ∧ (s'.2.1 950 172 = s.2.1 950 172) ∧ (s'.2.1 950 8 = s.2.1 950 8) ∧ t_keep [950] s s') → post v s') → mj_G D cy ad bs X cX13_next 2 yX13_next.cls none yX13_next.name 2 0 0 1065 (t_P post) 0 [(0, .ref 950)] [] (t_m s) 1065 0 0 from main _ (fun _ _ h => h)
  intro post hpost
  refine mj_aload_n dX13_next_0 0 rfl ?_
  refine t_getI dX13_next_1 F_X13_375 qf_950_2 ?_
  rw [h_I_950_2]
  refine mj_if_eq 13 dX13_next_4 (by decide) (fun _ => ?_) (fun z => absurd (by decide) z)
  refine mj_aload_n dX13_next_13 0 rfl ?_
  refine t_callV dX13_next_14 M_X13_skip (N_X13_skip s h_I_950_1 h_I_950_4) ML_X13_388 IM_X13_skip SE_X13_skip qc_950 rfl (As := []) rfl rfl (Nat.le_of_ble_eq_true rfl) (Nat.le_of_ble_eq_true rfl) (Nat.le_of_ble_eq_true rfl) (Nat.le_of_ble_eq_true rfl) (fun v s1 hp => ?_)
  obtain ⟨rfl, hq⟩ := hp
  rw [hq]
  clear hq s1
  refine mj_aload_n dX13_next_17 0 rfl ?_
  refine mj_aload_n dX13_next_18 0 rfl ?_
  refine t_getI dX13_next_19 F_X13_378 qf_950_4 ?_
  rw [h_I_950_4]
  refine t_putI dX13_next_22 F_X13_391 qf_950_6 (by decide) ?_
  obtain ⟨s2, w3⟩ : ∃ z, z = t_setI s 950 6 0 := ⟨_, rfl⟩
  rw [← w3]
  refine mj_aload_n dX13_next_25 0 rfl ?_
  refine mj_iconst (v := 0) dX13_next_26 (by decide) ?_
  refine t_putI dX13_next_27 F_X13_394 qf_950_7 (by decide) ?_
  obtain ⟨s4, w5⟩ : ∃ z, z = t_setI s2 950 7 0 := ⟨_, rfl⟩
  rw [← w5]
  refine mj_aload_n dX13_next_30 0 rfl ?_
  refine mj_iconst (v := (-1)) dX13_next_31 (by decide) ?_
  refine t_putI dX13_next_32 F_X13_397 qf_950_10 (by decide) ?_
  obtain ⟨s6, w7⟩ : ∃ z, z = t_setI s4 950 10 (-1) := ⟨_, rfl⟩
  rw [← w7]
  refine mj_aload_n dX13_next_35 0 rfl ?_
  refine mj_aload_n dX13_next_36 0 rfl ?_
  refine t_getI dX13_next_37 F_X13_378 qf_950_4 ?_
  rw [((t_oI w7 950 4 rfl).trans ((t_oI w5 950 4 rfl).trans ((t_oI w3 950 4 rfl).trans h_I_950_4)))]
  refine t_callV dX13_next_40 M_X13_peek (N_X13_peek s6 ((t_oI w7 950 1 rfl).trans ((t_oI w5 950 1 rfl).trans ((t_oI w3 950 1 rfl).trans h_I_950_1)))) ML_X13_381 IM_X13_peek SE_X13_peek qc_950 rfl (As := [.int 0]) rfl rfl (Nat.le_of_ble_eq_true rfl) (Nat.le_of_ble_eq_true rfl) (Nat.le_of_ble_eq_true rfl) (Nat.le_of_ble_eq_true rfl) (fun v s8 hp => ?_)
  obtain ⟨rfl, hq⟩ := hp
  rw [hq]
  clear hq s8
  refine mj_istore_n 1 (lv2 := [(1, .int (-1)), (0, .ref 950)]) dX13_next_43 rfl (by decide) rfl ?_
  refine mj_iload_n dX13_next_44 0 rfl ?_
  refine mj_if_ge 56 dX13_next_45 (by decide) (fun z => absurd z (by decide)) (fun _ => ?_)
  refine mj_aload_n dX13_next_48 1 rfl ?_
  refine mj_iconst (v := 0) dX13_next_49 (by decide) ?_
  refine t_putI dX13_next_50 F_X13_385 qf_950_5 (by decide) ?_
  obtain ⟨s9, w10⟩ : ∃ z, z = t_setI s6 950 5 0 := ⟨_, rfl⟩
  rw [← w10]
  refine mj_goto 436 dX13_next_53 (by decide) ?_
  refine mj_aload_n dX13_next_436 1 rfl ?_
  refine t_getI dX13_next_437 F_X13_375 qf_950_2 ?_
  rw [((t_oI w10 950 2 rfl).trans ((t_oI w7 950 2 rfl).trans ((t_oI w5 950 2 rfl).trans ((t_oI w3 950 2 rfl).trans h_I_950_2))))]
  refine mj_if_eq 448 dX13_next_440 (by decide) (fun _ => ?_) (fun z => absurd (by decide) z)
  exact t_vret dX13_next_448 rfl (hpost _ _ ⟨rfl, ((t_oI w10 950 1 rfl).trans ((t_oI w7 950 1 rfl).trans ((t_oI w5 950 1 rfl).trans ((t_oI w3 950 1 rfl).trans rfl)))), ((t_oI w10 950 10 rfl).trans (t_wI w7)), ((t_oI w10 950 100 rfl).trans ((t_oI w7 950 100 rfl).trans ((t_oI w5 950 100 rfl).trans ((t_oI w3 950 100 rfl).trans rfl)))), ((t_oI w10 950 101 rfl).trans ((t_oI w7 950 101 rfl).trans ((t_oI w5 950 101 rfl).trans ((t_oI w3 950 101 rfl).trans rfl)))), ((t_oI w10 950 103 rfl).trans ((t_oI w7 950 103 rfl).trans ((t_oI w5 950 103 rfl).trans ((t_oI w3 950 103 rfl).trans rfl)))), ((t_oI w10 950 106 rfl).trans ((t_oI w7 950 106 rfl).trans ((t_oI w5 950 106 rfl).trans ((t_oI w3 950 106 rfl).trans rfl)))), ((t_oI w10 950 108 rfl).trans ((t_oI w7 950 108 rfl).trans ((t_oI w5 950 108 rfl).trans ((t_oI w3 950 108 rfl).trans rfl)))), ((t_oI w10 950 114 rfl).trans ((t_oI w7 950 114 rfl).trans ((t_oI w5 950 114 rfl).trans ((t_oI w3 950 114 rfl).trans rfl)))), ((t_oI w10 950 117 rfl).trans ((t_oI w7 950 117 rfl).trans ((t_oI w5 950 117 rfl).trans ((t_oI w3 950 117 rfl).trans rfl)))), ((t_oI w10 950 119 rfl).trans ((t_oI w7 950 119 rfl).trans ((t_oI w5 950 119 rfl).trans ((t_oI w3 950 119 rfl).trans rfl)))), ((t_oI w10 950 121 rfl).trans ((t_oI w7 950 121 rfl).trans ((t_oI w5 950 121 rfl).trans ((t_oI w3 950 121 rfl).trans rfl)))), ((t_oI w10 950 125 rfl).trans ((t_oI w7 950 125 rfl).trans ((t_oI w5 950 125 rfl).trans ((t_oI w3 950 125 rfl).trans rfl)))), ((t_oI w10 950 126 rfl).trans ((t_oI w7 950 126 rfl).trans ((t_oI w5 950 126 rfl).trans ((t_oI w3 950 126 rfl).trans rfl)))), ((t_oI w10 950 127 rfl).trans ((t_oI w7 950 127 rfl).trans ((t_oI w5 950 127 rfl).trans ((t_oI w3 950 127 rfl).trans rfl)))), ((t_oI w10 950 129 rfl).trans ((t_oI w7 950 129 rfl).trans ((t_oI w5 950 129 rfl).trans ((t_oI w3 950 129 rfl).trans rfl)))), ((t_oI w10 950 133 rfl).trans ((t_oI w7 950 133 rfl).trans ((t_oI w5 950 133 rfl).trans ((t_oI w3 950 133 rfl).trans rfl)))), ((t_oI w10 950 135 rfl).trans ((t_oI w7 950 135 rfl).trans ((t_oI w5 950 135 rfl).trans ((t_oI w3 950 135 rfl).trans rfl)))), ((t_oI w10 950 137 rfl).trans ((t_oI w7 950 137 rfl).trans ((t_oI w5 950 137 rfl).trans ((t_oI w3 950 137 rfl).trans rfl)))), ((t_oI w10 950 138 rfl).trans ((t_oI w7 950 138 rfl).trans ((t_oI w5 950 138 rfl).trans ((t_oI w3 950 138 rfl).trans rfl)))), ((t_oI w10 950 14 rfl).trans ((t_oI w7 950 14 rfl).trans ((t_oI w5 950 14 rfl).trans ((t_oI w3 950 14 rfl).trans rfl)))), ((t_oI w10 950 141 rfl).trans ((t_oI w7 950 141 rfl).trans ((t_oI w5 950 141 rfl).trans ((t_oI w3 950 141 rfl).trans rfl)))), ((t_oI w10 950 146 rfl).trans ((t_oI w7 950 146 rfl).trans ((t_oI w5 950 146 rfl).trans ((t_oI w3 950 146 rfl).trans rfl)))), ((t_oI w10 950 147 rfl).trans ((t_oI w7 950 147 rfl).trans ((t_oI w5 950 147 rfl).trans ((t_oI w3 950 147 rfl).trans rfl)))), ((t_oI w10 950 149 rfl).trans ((t_oI w7 950 149 rfl).trans ((t_oI w5 950 149 rfl).trans ((t_oI w3 950 149 rfl).trans rfl)))), ((t_oI w10 950 15 rfl).trans ((t_oI w7 950 15 rfl).trans ((t_oI w5 950 15 rfl).trans ((t_oI w3 950 15 rfl).trans rfl)))), ((t_oI w10 950 16 rfl).trans ((t_oI w7 950 16 rfl).trans ((t_oI w5 950 16 rfl).trans ((t_oI w3 950 16 rfl).trans rfl)))), ((t_oI w10 950 174 rfl).trans ((t_oI w7 950 174 rfl).trans ((t_oI w5 950 174 rfl).trans ((t_oI w3 950 174 rfl).trans rfl)))), ((t_oI w10 950 176 rfl).trans ((t_oI w7 950 176 rfl).trans ((t_oI w5 950 176 rfl).trans ((t_oI w3 950 176 rfl).trans rfl)))), ((t_oI w10 950 178 rfl).trans ((t_oI w7 950 178 rfl).trans ((t_oI w5 950 178 rfl).trans ((t_oI w3 950 178 rfl).trans rfl)))), ((t_oI w10 950 179 rfl).trans ((t_oI w7 950 179 rfl).trans ((t_oI w5 950 179 rfl).trans ((t_oI w3 950 179 rfl).trans rfl)))), ((t_oI w10 950 180 rfl).trans ((t_oI w7 950 180 rfl).trans ((t_oI w5 950 180 rfl).trans ((t_oI w3 950 180 rfl).trans rfl)))), ((t_oI w10 950 183 rfl).trans ((t_oI w7 950 183 rfl).trans ((t_oI w5 950 183 rfl).trans ((t_oI w3 950 183 rfl).trans rfl)))), ((t_oI w10 950 184 rfl).trans ((t_oI w7 950 184 rfl).trans ((t_oI w5 950 184 rfl).trans ((t_oI w3 950 184 rfl).trans rfl)))), ((t_oI w10 950 185 rfl).trans ((t_oI w7 950 185 rfl).trans ((t_oI w5 950 185 rfl).trans ((t_oI w3 950 185 rfl).trans rfl)))), ((t_oI w10 950 2 rfl).trans ((t_oI w7 950 2 rfl).trans ((t_oI w5 950 2 rfl).trans ((t_oI w3 950 2 rfl).trans rfl)))), ((t_oI w10 950 24 rfl).trans ((t_oI w7 950 24 rfl).trans ((t_oI w5 950 24 rfl).trans ((t_oI w3 950 24 rfl).trans rfl)))), ((t_oI w10 950 26 rfl).trans ((t_oI w7 950 26 rfl).trans ((t_oI w5 950 26 rfl).trans ((t_oI w3 950 26 rfl).trans rfl)))), ((t_oI w10 950 27 rfl).trans ((t_oI w7 950 27 rfl).trans ((t_oI w5 950 27 rfl).trans ((t_oI w3 950 27 rfl).trans rfl)))), ((t_oI w10 950 28 rfl).trans ((t_oI w7 950 28 rfl).trans ((t_oI w5 950 28 rfl).trans ((t_oI w3 950 28 rfl).trans rfl)))), ((t_oI w10 950 29 rfl).trans ((t_oI w7 950 29 rfl).trans ((t_oI w5 950 29 rfl).trans ((t_oI w3 950 29 rfl).trans rfl)))), ((t_oI w10 950 3 rfl).trans ((t_oI w7 950 3 rfl).trans ((t_oI w5 950 3 rfl).trans ((t_oI w3 950 3 rfl).trans rfl)))), ((t_oI w10 950 30 rfl).trans ((t_oI w7 950 30 rfl).trans ((t_oI w5 950 30 rfl).trans ((t_oI w3 950 30 rfl).trans rfl)))), ((t_oI w10 950 31 rfl).trans ((t_oI w7 950 31 rfl).trans ((t_oI w5 950 31 rfl).trans ((t_oI w3 950 31 rfl).trans rfl)))), ((t_oI w10 950 32 rfl).trans ((t_oI w7 950 32 rfl).trans ((t_oI w5 950 32 rfl).trans ((t_oI w3 950 32 rfl).trans rfl)))), ((t_oI w10 950 33 rfl).trans ((t_oI w7 950 33 rfl).trans ((t_oI w5 950 33 rfl).trans ((t_oI w3 950 33 rfl).trans rfl)))), ((t_oI w10 950 34 rfl).trans ((t_oI w7 950 34 rfl).trans ((t_oI w5 950 34 rfl).trans ((t_oI w3 950 34 rfl).trans rfl)))), ((t_oI w10 950 36 rfl).trans ((t_oI w7 950 36 rfl).trans ((t_oI w5 950 36 rfl).trans ((t_oI w3 950 36 rfl).trans rfl)))), ((t_oI w10 950 4 rfl).trans ((t_oI w7 950 4 rfl).trans ((t_oI w5 950 4 rfl).trans ((t_oI w3 950 4 rfl).trans rfl)))), ((t_oI w10 950 40 rfl).trans ((t_oI w7 950 40 rfl).trans ((t_oI w5 950 40 rfl).trans ((t_oI w3 950 40 rfl).trans rfl)))), ((t_oI w10 950 44 rfl).trans ((t_oI w7 950 44 rfl).trans ((t_oI w5 950 44 rfl).trans ((t_oI w3 950 44 rfl).trans rfl)))), (t_wI w10), ((t_oI w10 950 55 rfl).trans ((t_oI w7 950 55 rfl).trans ((t_oI w5 950 55 rfl).trans ((t_oI w3 950 55 rfl).trans rfl)))), ((t_oI w10 950 6 rfl).trans ((t_oI w7 950 6 rfl).trans ((t_oI w5 950 6 rfl).trans (t_wI w3)))), ((t_oI w10 950 64 rfl).trans ((t_oI w7 950 64 rfl).trans ((t_oI w5 950 64 rfl).trans ((t_oI w3 950 64 rfl).trans rfl)))), ((t_oI w10 950 65 rfl).trans ((t_oI w7 950 65 rfl).trans ((t_oI w5 950 65 rfl).trans ((t_oI w3 950 65 rfl).trans rfl)))), ((t_oI w10 950 7 rfl).trans ((t_oI w7 950 7 rfl).trans (t_wI w5))), ((t_oI w10 950 81 rfl).trans ((t_oI w7 950 81 rfl).trans ((t_oI w5 950 81 rfl).trans ((t_oI w3 950 81 rfl).trans rfl)))), ((t_oI w10 950 82 rfl).trans ((t_oI w7 950 82 rfl).trans ((t_oI w5 950 82 rfl).trans ((t_oI w3 950 82 rfl).trans rfl)))), ((t_oI w10 950 83 rfl).trans ((t_oI w7 950 83 rfl).trans ((t_oI w5 950 83 rfl).trans ((t_oI w3 950 83 rfl).trans rfl)))), ((t_oI w10 950 84 rfl).trans ((t_oI w7 950 84 rfl).trans ((t_oI w5 950 84 rfl).trans ((t_oI w3 950 84 rfl).trans rfl)))), ((t_oI w10 950 86 rfl).trans ((t_oI w7 950 86 rfl).trans ((t_oI w5 950 86 rfl).trans ((t_oI w3 950 86 rfl).trans rfl)))), ((t_oI w10 950 87 rfl).trans ((t_oI w7 950 87 rfl).trans ((t_oI w5 950 87 rfl).trans ((t_oI w3 950 87 rfl).trans rfl)))), ((t_oI w10 950 88 rfl).trans ((t_oI w7 950 88 rfl).trans ((t_oI w5 950 88 rfl).trans ((t_oI w3 950 88 rfl).trans rfl)))), ((t_oI w10 950 89 rfl).trans ((t_oI w7 950 89 rfl).trans ((t_oI w5 950 89 rfl).trans ((t_oI w3 950 89 rfl).trans rfl)))), ((t_oI w10 950 9 rfl).trans ((t_oI w7 950 9 rfl).trans ((t_oI w5 950 9 rfl).trans ((t_oI w3 950 9 rfl).trans rfl)))), ((t_oI w10 950 90 rfl).trans ((t_oI w7 950 90 rfl).trans ((t_oI w5 950 90 rfl).trans ((t_oI w3 950 90 rfl).trans rfl)))), ((t_oI w10 950 93 rfl).trans ((t_oI w7 950 93 rfl).trans ((t_oI w5 950 93 rfl).trans ((t_oI w3 950 93 rfl).trans rfl)))), ((t_oI w10 950 94 rfl).trans ((t_oI w7 950 94 rfl).trans ((t_oI w5 950 94 rfl).trans ((t_oI w3 950 94 rfl).trans rfl)))), ((t_oI w10 950 96 rfl).trans ((t_oI w7 950 96 rfl).trans ((t_oI w5 950 96 rfl).trans ((t_oI w3 950 96 rfl).trans rfl)))), ((t_oI w10 950 97 rfl).trans ((t_oI w7 950 97 rfl).trans ((t_oI w5 950 97 rfl).trans ((t_oI w3 950 97 rfl).trans rfl)))), ((t_oI w10 950 98 rfl).trans ((t_oI w7 950 98 rfl).trans ((t_oI w5 950 98 rfl).trans ((t_oI w3 950 98 rfl).trans rfl)))), ((t_cIJ w10 950 128).trans ((t_cIJ w7 950 128).trans ((t_cIJ w5 950 128).trans ((t_cIJ w3 950 128).trans rfl)))), ((t_cIJ w10 950 148).trans ((t_cIJ w7 950 148).trans ((t_cIJ w5 950 148).trans ((t_cIJ w3 950 148).trans rfl)))), ((t_cIJ w10 950 171).trans ((t_cIJ w7 950 171).trans ((t_cIJ w5 950 171).trans ((t_cIJ w3 950 171).trans rfl)))), ((t_cIJ w10 950 172).trans ((t_cIJ w7 950 172).trans ((t_cIJ w5 950 172).trans ((t_cIJ w3 950 172).trans rfl)))), ((t_cIJ w10 950 8).trans ((t_cIJ w7 950 8).trans ((t_cIJ w5 950 8).trans ((t_cIJ w3 950 8).trans rfl)))), ((((t_keep_I w3 (by decide)).trans (t_keep_I w5 (by decide))).trans (t_keep_I w7 (by decide))).trans (t_keep_I w10 (by decide)))⟩) (Nat.le_of_ble_eq_true rfl) (Nat.le_of_ble_eq_true rfl)

theorem dX13_findDepths_0 : decode cX13_findDepths 0 = .ok (.iconst 0, 1) := by decide +kernel
theorem dX13_findDepths_1 : decode cX13_findDepths 1 = .ok (.istore_n 1, 1) := by decide +kernel
theorem dX13_findDepths_2 : decode cX13_findDepths 2 = .ok (.iload_n 1, 1) := by decide +kernel
theorem dX13_findDepths_23 : decode cX13_findDepths 23 = .ok (.iconst 0, 1) := by decide +kernel
theorem dX13_findDepths_24 : decode cX13_findDepths 24 = .ok (.istore_n 1, 1) := by decide +kernel
theorem dX13_findDepths_25 : decode cX13_findDepths 25 = .ok (.iload_n 1, 1) := by decide +kernel
theorem dX13_findDepths_26 : decode cX13_findDepths 26 = .ok (.bipush 64, 2) := by decide +kernel
theorem dX13_findDepths_28 : decode cX13_findDepths 28 = .ok (.if_icmp .ge 56, 3) := by decide +kernel
theorem dX13_findDepths_3 : decode cX13_findDepths 3 = .ok (.aload_n 0, 1) := by decide +kernel
theorem dX13_findDepths_31 : decode cX13_findDepths 31 = .ok (.iconst 0, 1) := by decide +kernel
theorem dX13_findDepths_32 : decode cX13_findDepths 32 = .ok (.istore_n 2, 1) := by decide +kernel
theorem dX13_findDepths_33 : decode cX13_findDepths 33 = .ok (.iload_n 2, 1) := by decide +kernel
theorem dX13_findDepths_34 : decode cX13_findDepths 34 = .ok (.aload_n 0, 1) := by decide +kernel
theorem dX13_findDepths_35 : decode cX13_findDepths 35 = .ok (.getfield 627, 3) := by decide +kernel
theorem dX13_findDepths_38 : decode cX13_findDepths 38 = .ok (.if_icmp .ge 40, 3) := by decide +kernel
theorem dX13_findDepths_4 : decode cX13_findDepths 4 = .ok (.getfield 627, 3) := by decide +kernel
theorem dX13_findDepths_7 : decode cX13_findDepths 7 = .ok (.if_icmp .ge 16, 3) := by decide +kernel
theorem dX13_findDepths_78 : decode cX13_findDepths 78 = .ok (.iinc 1 1, 3) := by decide +kernel
theorem dX13_findDepths_81 : decode cX13_findDepths 81 = .ok (.goto (-56), 3) := by decide +kernel
theorem dX13_findDepths_84 : decode cX13_findDepths 84 = .ok (.return_, 1) := by decide +kernel
set_option maxRecDepth 4000 in
set_option maxHeartbeats 400000 in
theorem N_X13_findDepths (s : t_S) (h_I_950_44 : s.1 950 44 = 0) : t_C yX13_findDepths cX13_findDepths 4 none 0 [.ref 950] s (fun v s' => v = none ∧ s' = s) := by
  refine t_C.of (by decide +kernel) (Nat.le_of_ble_eq_true rfl) ?_
  intro D cy ad bs X
  suffices main : ∀ post : Option Value → t_S → Prop, (∀ v s', (v = none ∧ s' = s) → post v s') → mj_G D cy ad bs X cX13_findDepths 4 yX13_findDepths.cls none yX13_findDepths.name 0 0 0 1065 (t_P post) 0 [(0, .ref 950)] [] (t_m s) 1065 0 0 from main _ (fun _ _ h => h)
  intro post hpost
  refine mj_iconst (v := 0) dX13_findDepths_0 (by decide) ?_
  refine mj_istore_n 1 (lv2 := [(1, .int 0), (0, .ref 950)]) dX13_findDepths_1 rfl (by decide) rfl ?_
  refine mj_iload_n dX13_findDepths_2 0 rfl ?_
  refine mj_aload_n dX13_findDepths_3 1 rfl ?_
  refine t_getI dX13_findDepths_4 F_X13_627 qf_950_44 ?_
  rw [h_I_950_44]
  refine mj_icmp_ge 23 dX13_findDepths_7 (by decide) (fun _ => ?_) (fun z => absurd (by decide) z)
  refine mj_iconst (v := 0) dX13_findDepths_23 (by decide) ?_
  refine mj_istore_n 1 (lv2 := [(1, .int 0), (0, .ref 950)]) dX13_findDepths_24 rfl (by decide) rfl ?_
  refine mj_iload_n dX13_findDepths_25 0 rfl ?_
  refine mj_bipush (v := 64) dX13_findDepths_26 (by decide) ?_
  refine mj_icmp_ge 84 dX13_findDepths_28 (by decide) (fun z => absurd z (by decide)) (fun _ => ?_)
  refine mj_iconst (v := 0) dX13_findDepths_31 (by decide) ?_
  refine mj_istore_n 2 (lv2 := [(2, .int 0), (1, .int 0), (0, .ref 950)]) dX13_findDepths_32 rfl (by decide) rfl ?_
  refine mj_iload_n dX13_findDepths_33 0 rfl ?_
  refine mj_aload_n dX13_findDepths_34 2 rfl ?_
  refine t_getI dX13_findDepths_35 F_X13_627 qf_950_44 ?_
  rw [h_I_950_44]
  refine mj_icmp_ge 78 dX13_findDepths_38 (by decide) (fun _ => ?_) (fun z => absurd (by decide) z)
  refine mj_iinc (k := 1) (v := 1) (lv2 := [(1, .int 1), (2, .int 0), (0, .ref 950)]) dX13_findDepths_78 rfl (by decide) (by decide) rfl ?_
  refine mj_goto 25 dX13_findDepths_81 (by decide) ?_
  refine mj_iload_n dX13_findDepths_25 0 rfl ?_
  refine mj_bipush (v := 64) dX13_findDepths_26 (by decide) ?_
  refine mj_icmp_ge 84 dX13_findDepths_28 (by decide) (fun z => absurd z (by decide)) (fun _ => ?_)
  refine mj_iconst (v := 0) dX13_findDepths_31 (by decide) ?_
  refine mj_istore_n 2 (lv2 := [(2, .int 0), (1, .int 1), (0, .ref 950)]) dX13_findDepths_32 rfl (by decide) rfl ?_
  refine mj_iload_n dX13_findDepths_33 0 rfl ?_
  refine mj_aload_n dX13_findDepths_34 2 rfl ?_
  refine t_getI dX13_findDepths_35 F_X13_627 qf_950_44 ?_
  rw [h_I_950_44]
  refine mj_icmp_ge 78 dX13_findDepths_38 (by decide) (fun _ => ?_) (fun z => absurd (by decide) z)
  refine mj_iinc (k := 1) (v := 2) (lv2 := [(1, .int 2), (2, .int 0), (0, .ref 950)]) dX13_findDepths_78 rfl (by decide) (by decide) rfl ?_
  refine mj_goto 25 dX13_findDepths_81 (by decide) ?_
  refine mj_iload_n dX13_findDepths_25 0 rfl ?_
  refine mj_bipush (v := 64) dX13_findDepths_26 (by decide) ?_
  refine mj_icmp_ge 84 dX13_findDepths_28 (by decide) (fun z => absurd z (by decide)) (fun _ => ?_)
  refine mj_iconst (v := 0) dX13_findDepths_31 (by decide) ?_
  refine mj_istore_n 2 (lv2 := [(2, .int 0), (1, .int 2), (0, .ref 950)]) dX13_findDepths_32 rfl (by decide) rfl ?_
  refine mj_iload_n dX13_findDepths_33 0 rfl ?_
  refine mj_aload_n dX13_findDepths_34 2 rfl ?_
  refine t_getI dX13_findDepths_35 F_X13_627 qf_950_44 ?_
  rw [h_I_950_44]
  refine mj_icmp_ge 78 dX13_findDepths_38 (by decide) (fun _ => ?_) (fun z => absurd (by decide) z)
  refine mj_iinc (k := 1) (v := 3) (lv2 := [(1, .int 3), (2, .int 0), (0, .ref 950)]) dX13_findDepths_78 rfl (by decide) (by decide) rfl ?_
  refine mj_goto 25 dX13_findDepths_81 (by decide) ?_
  refine mj_iload_n dX13_findDepths_25 0 rfl ?_
  refine mj_bipush (v := 64) dX13_findDepths_26 (by decide) ?_
  refine mj_icmp_ge 84 dX13_findDepths_28 (by decide) (fun z => absurd z (by decide)) (fun _ => ?_)
  refine mj_iconst (v := 0) dX13_findDepths_31 (by decide) ?_
  refine mj_istore_n 2 (lv2 := [(2, .int 0), (1, .int 3), (0, .ref 950)]) dX13_findDepths_32 rfl (by decide) rfl ?_
  refine mj_iload_n dX13_findDepths_33 0 rfl ?_
  refine mj_aload_n dX13_findDepths_34 2 rfl ?_
  refine t_getI dX13_findDepths_35 F_X13_627 qf_950_44 ?_
  rw [h_I_950_44]
  refine mj_icmp_ge 78 dX13_findDepths_38 (by decide) (fun _ => ?_) (fun z => absurd (by decide) z)
  refine mj_iinc (k := 1) (v := 4) (lv2 := [(1, .int 4), (2, .int 0), (0, .ref 950)]) dX13_findDepths_78 rfl (by decide) (by decide) rfl ?_
  refine mj_goto 25 dX13_findDepths_81 (by decide) ?_
  refine mj_iload_n dX13_findDepths_25 0 rfl ?_
  refine mj_bipush (v := 64) dX13_findDepths_26 (by decide) ?_
  refine mj_icmp_ge 84 dX13_findDepths_28 (by decide) (fun z => absurd z (by decide)) (fun _ => ?_)
  refine mj_iconst (v := 0) dX13_findDepths_31 (by decide) ?_
  refine mj_istore_n 2 (lv2 := [(2, .int 0), (1, .int 4), (0, .ref 950)]) dX13_findDepths_32 rfl (by decide) rfl ?_
  refine mj_iload_n dX13_findDepths_33 0 rfl ?_
  refine mj_aload_n dX13_findDepths_34 2 rfl ?_
  refine t_getI dX13_findDepths_35 F_X13_627 qf_950_44 ?_
  rw [h_I_950_44]
  refine mj_icmp_ge 78 dX13_findDepths_38 (by decide) (fun _ => ?_) (fun z => absurd (by decide) z)
  refine mj_iinc (k := 1) (v := 5) (lv2 := [(1, .int 5), (2, .int 0), (0, .ref 950)]) dX13_findDepths_78 rfl (by decide) (by decide) rfl ?_
  refine mj_goto 25 dX13_findDepths_81 (by decide) ?_
  refine mj_iload_n dX13_findDepths_25 0 rfl ?_
  refine mj_bipush (v := 64) dX13_findDepths_26 (by decide) ?_
  refine mj_icmp_ge 84 dX13_findDepths_28 (by decide) (fun z => absurd z (by decide)) (fun _ => ?_)
  refine mj_iconst (v := 0) dX13_findDepths_31 (by decide) ?_
  refine mj_istore_n 2 (lv2 := [(2, .int 0), (1, .int 5), (0, .ref 950)]) dX13_findDepths_32 rfl (by decide) rfl ?_
  refine mj_iload_n dX13_findDepths_33 0 rfl ?_
  refine mj_aload_n dX13_findDepths_34 2 rfl ?_
  refine t_getI dX13_findDepths_35 F_X13_627 qf_950_44 ?_
  rw [h_I_950_44]
  refine mj_icmp_ge 78 dX13_findDepths_38 (by decide) (fun _ => ?_) (fun z => absurd (by decide) z)
  refine mj_iinc (k := 1) (v := 6) (lv2 := [(1, .int 6), (2, .int 0), (0, .ref 950)]) dX13_findDepths_78 rfl (by decide) (by decide) rfl ?_
  refine mj_goto 25 dX13_findDepths_81 (by decide) ?_
  refine mj_iload_n dX13_findDepths_25 0 rfl ?_
  refine mj_bipush (v := 64) dX13_findDepths_26 (by decide) ?_
  refine mj_icmp_ge 84 dX13_findDepths_28 (by decide) (fun z => absurd z (by decide)) (fun _ => ?_)
  refine mj_iconst (v := 0) dX13_findDepths_31 (by decide) ?_
  refine mj_istore_n 2 (lv2 := [(2, .int 0), (1, .int 6), (0, .ref 950)]) dX13_findDepths_32 rfl (by decide) rfl ?_
  refine mj_iload_n dX13_findDepths_33 0 rfl ?_
  refine mj_aload_n dX13_findDepths_34 2 rfl ?_
  refine t_getI dX13_findDepths_35 F_X13_627 qf_950_44 ?_
  rw [h_I_950_44]
  refine mj_icmp_ge 78 dX13_findDepths_38 (by decide) (fun _ => ?_) (fun z => absurd (by decide) z)
  refine mj_iinc (k := 1) (v := 7) (lv2 := [(1, .int 7), (2, .int 0), (0, .ref 950)]) dX13_findDepths_78 rfl (by decide) (by decide) rfl ?_
  refine mj_goto 25 dX13_findDepths_81 (by decide) ?_
  refine mj_iload_n dX13_findDepths_25 0 rfl ?_
  refine mj_bipush (v := 64) dX13_findDepths_26 (by decide) ?_
  refine mj_icmp_ge 84 dX13_findDepths_28 (by decide) (fun z => absurd z (by decide)) (fun _ => ?_)
  refine mj_iconst (v := 0) dX13_findDepths_31 (by decide) ?_
  refine mj_istore_n 2 (lv2 := [(2, .int 0), (1, .int 7), (0, .ref 950)]) dX13_findDepths_32 rfl (by decide) rfl ?_
  refine mj_iload_n dX13_findDepths_33 0 rfl ?_
  refine mj_aload_n dX13_findDepths_34 2 rfl ?_
  refine t_getI dX13_findDepths_35 F_X13_627 qf_950_44 ?_
  rw [h_I_950_44]
  refine mj_icmp_ge 78 dX13_findDepths_38 (by decide) (fun _ => ?_) (fun z => absurd (by decide) z)
  refine mj_iinc (k := 1) (v := 8) (lv2 := [(1, .int 8), (2, .int 0), (0, .ref 950)]) dX13_findDepths_78 rfl (by decide) (by decide) rfl ?_
  refine mj_goto 25 dX13_findDepths_81 (by decide) ?_
  refine mj_iload_n dX13_findDepths_25 0 rfl ?_
  refine mj_bipush (v := 64) dX13_findDepths_26 (by decide) ?_
  refine mj_icmp_ge 84 dX13_findDepths_28 (by decide) (fun z => absurd z (by decide)) (fun _ => ?_)
  refine mj_iconst (v := 0) dX13_findDepths_31 (by decide) ?_
  refine mj_istore_n 2 (lv2 := [(2, .int 0), (1, .int 8), (0, .ref 950)]) dX13_findDepths_32 rfl (by decide) rfl ?_
  refine mj_iload_n dX13_findDepths_33 0 rfl ?_
  refine mj_aload_n dX13_findDepths_34 2 rfl ?_
  refine t_getI dX13_findDepths_35 F_X13_627 qf_950_44 ?_
  rw [h_I_950_44]
  refine mj_icmp_ge 78 dX13_findDepths_38 (by decide) (fun _ => ?_) (fun z => absurd (by decide) z)
  refine mj_iinc (k := 1) (v := 9) (lv2 := [(1, .int 9), (2, .int 0), (0, .ref 950)]) dX13_findDepths_78 rfl (by decide) (by decide) rfl ?_
  refine mj_goto 25 dX13_findDepths_81 (by decide) ?_
  refine mj_iload_n dX13_findDepths_25 0 rfl ?_
  refine mj_bipush (v := 64) dX13_findDepths_26 (by decide) ?_
  refine mj_icmp_ge 84 dX13_findDepths_28 (by decide) (fun z => absurd z (by decide)) (fun _ => ?_)
  refine mj_iconst (v := 0) dX13_findDepths_31 (by decide) ?_
  refine mj_istore_n 2 (lv2 := [(2, .int 0), (1, .int 9), (0, .ref 950)]) dX13_findDepths_32 rfl (by decide) rfl ?_
  refine mj_iload_n dX13_findDepths_33 0 rfl ?_
  refine mj_aload_n dX13_findDepths_34 2 rfl ?_
  refine t_getI dX13_findDepths_35 F_X13_627 qf_950_44 ?_
  rw [h_I_950_44]
  refine mj_icmp_ge 78 dX13_findDepths_38 (by decide) (fun _ => ?_) (fun z => absurd (by decide) z)
  refine mj_iinc (k := 1) (v := 10) (lv2 := [(1, .int 10), (2, .int 0), (0, .ref 950)]) dX13_findDepths_78 rfl (by decide) (by decide) rfl ?_
  refine mj_goto 25 dX13_findDepths_81 (by decide) ?_
  refine mj_iload_n dX13_findDepths_25 0 rfl ?_
  refine mj_bipush (v := 64) dX13_findDepths_26 (by decide) ?_
  refine mj_icmp_ge 84 dX13_findDepths_28 (by decide) (fun z => absurd z (by decide)) (fun _ => ?_)
  refine mj_iconst (v := 0) dX13_findDepths_31 (by decide) ?_
  refine mj_istore_n 2 (lv2 := [(2, .int 0), (1, .int 10), (0, .ref 950)]) dX13_findDepths_32 rfl (by decide) rfl ?_
  refine mj_iload_n dX13_findDepths_33 0 rfl ?_
  refine mj_aload_n dX13_findDepths_34 2 rfl ?_
  refine t_getI dX13_findDepths_35 F_X13_627 qf_950_44 ?_
  rw [h_I_950_44]
  refine mj_icmp_ge 78 dX13_findDepths_38 (by decide) (fun _ => ?_) (fun z => absurd (by decide) z)
  refine mj_iinc (k := 1) (v := 11) (lv2 := [(1, .int 11), (2, .int 0), (0, .ref 950)]) dX13_findDepths_78 rfl (by decide) (by decide) rfl ?_
  refine mj_goto 25 dX13_findDepths_81 (by decide) ?_
  refine mj_iload_n dX13_findDepths_25 0 rfl ?_
  refine mj_bipush (v := 64) dX13_findDepths_26 (by decide) ?_
  refine mj_icmp_ge 84 dX13_findDepths_28 (by decide) (fun z => absurd z (by decide)) (fun _ => ?_)
  refine mj_iconst (v := 0) dX13_findDepths_31 (by decide) ?_
  refine mj_istore_n 2 (lv2 := [(2, .int 0), (1, .int 11), (0, .ref 950)]) dX13_findDepths_32 rfl (by decide) rfl ?_
  refine mj_iload_n dX13_findDepths_33 0 rfl ?_
  refine mj_aload_n dX13_findDepths_34 2 rfl ?_
  refine t_getI dX13_findDepths_35 F_X13_627 qf_950_44 ?_
  rw [h_I_950_44]
  refine mj_icmp_ge 78 dX13_findDepths_38 (by decide) (fun _ => ?_) (fun z => absurd (by decide) z)
  refine mj_iinc (k := 1) (v := 12) (lv2 := [(1, .int 12), (2, .int 0), (0, .ref 950)]) dX13_findDepths_78 rfl (by decide) (by decide) rfl ?_
  refine mj_goto 25 dX13_findDepths_81 (by decide) ?_
  refine mj_iload_n dX13_findDepths_25 0 rfl ?_
  refine mj_bipush (v := 64) dX13_findDepths_26 (by decide) ?_
  refine mj_icmp_ge 84 dX13_findDepths_28 (by decide) (fun z => absurd z (by decide)) (fun _ => ?_)
  refine mj_iconst (v := 0) dX13_findDepths_31 (by decide) ?_
  refine mj_istore_n 2 (lv2 := [(2, .int 0), (1, .int 12), (0, .ref 950)]) dX13_findDepths_32 rfl (by decide) rfl ?_
  refine mj_iload_n dX13_findDepths_33 0 rfl ?_
  refine mj_aload_n dX13_findDepths_34 2 rfl ?_
  refine t_getI dX13_findDepths_35 F_X13_627 qf_950_44 ?_
  rw [h_I_950_44]
  refine mj_icmp_ge 78 dX13_findDepths_38 (by decide) (fun _ => ?_) (fun z => absurd (by decide) z)
  refine mj_iinc (k := 1) (v := 13) (lv2 := [(1, .int 13), (2, .int 0), (0, .ref 950)]) dX13_findDepths_78 rfl (by decide) (by decide) rfl ?_
  refine mj_goto 25 dX13_findDepths_81 (by decide) ?_
  refine mj_iload_n dX13_findDepths_25 0 rfl ?_
  refine mj_bipush (v := 64) dX13_findDepths_26 (by decide) ?_
  refine mj_icmp_ge 84 dX13_findDepths_28 (by decide) (fun z => absurd z (by decide)) (fun _ => ?_)
  refine mj_iconst (v := 0) dX13_findDepths_31 (by decide) ?_
  refine mj_istore_n 2 (lv2 := [(2, .int 0), (1, .int 13), (0, .ref 950)]) dX13_findDepths_32 rfl (by decide) rfl ?_
  refine mj_iload_n dX13_findDepths_33 0 rfl ?_
  refine mj_aload_n dX13_findDepths_34 2 rfl ?_
  refine t_getI dX13_findDepths_35 F_X13_627 qf_950_44 ?_
  rw [h_I_950_44]
  refine mj_icmp_ge 78 dX13_findDepths_38 (by decide) (fun _ => ?_) (fun z => absurd (by decide) z)
  refine mj_iinc (k := 1) (v := 14) (lv2 := [(1, .int 14), (2, .int 0), (0, .ref 950)]) dX13_findDepths_78 rfl (by decide) (by decide) rfl ?_
  refine mj_goto 25 dX13_findDepths_81 (by decide) ?_
  refine mj_iload_n dX13_findDepths_25 0 rfl ?_
  refine mj_bipush (v := 64) dX13_findDepths_26 (by decide) ?_
  refine mj_icmp_ge 84 dX13_findDepths_28 (by decide) (fun z => absurd z (by decide)) (fun _ => ?_)
  refine mj_iconst (v := 0) dX13_findDepths_31 (by decide) ?_
  refine mj_istore_n 2 (lv2 := [(2, .int 0), (1, .int 14), (0, .ref 950)]) dX13_findDepths_32 rfl (by decide) rfl ?_
  refine mj_iload_n dX13_findDepths_33 0 rfl ?_
  refine mj_aload_n dX13_findDepths_34 2 rfl ?_
  refine t_getI dX13_findDepths_35 F_X13_627 qf_950_44 ?_
  rw [h_I_950_44]
  refine mj_icmp_ge 78 dX13_findDepths_38 (by decide) (fun _ => ?_) (fun z => absurd (by decide) z)
  refine mj_iinc (k := 1) (v := 15) (lv2 := [(1, .int 15), (2, .int 0), (0, .ref 950)]) dX13_findDepths_78 rfl (by decide) (by decide) rfl ?_
  refine mj_goto 25 dX13_findDepths_81 (by decide) ?_
  refine mj_iload_n dX13_findDepths_25 0 rfl ?_
  refine mj_bipush (v := 64) dX13_findDepths_26 (by decide) ?_
  refine mj_icmp_ge 84 dX13_findDepths_28 (by decide) (fun z => absurd z (by decide)) (fun _ => ?_)
  refine mj_iconst (v := 0) dX13_findDepths_31 (by decide) ?_
  refine mj_istore_n 2 (lv2 := [(2, .int 0), (1, .int 15), (0, .ref 950)]) dX13_findDepths_32 rfl (by decide) rfl ?_
  refine mj_iload_n dX13_findDepths_33 0 rfl ?_
  refine mj_aload_n dX13_findDepths_34 2 rfl ?_
  refine t_getI dX13_findDepths_35 F_X13_627 qf_950_44 ?_
  rw [h_I_950_44]
  refine mj_icmp_ge 78 dX13_findDepths_38 (by decide) (fun _ => ?_) (fun z => absurd (by decide) z)
  refine mj_iinc (k := 1) (v := 16) (lv2 := [(1, .int 16), (2, .int 0), (0, .ref 950)]) dX13_findDepths_78 rfl (by decide) (by decide) rfl ?_
  refine mj_goto 25 dX13_findDepths_81 (by decide) ?_
  refine mj_iload_n dX13_findDepths_25 0 rfl ?_
  refine mj_bipush (v := 64) dX13_findDepths_26 (by decide) ?_
  refine mj_icmp_ge 84 dX13_findDepths_28 (by decide) (fun z => absurd z (by decide)) (fun _ => ?_)
  refine mj_iconst (v := 0) dX13_findDepths_31 (by decide) ?_
  refine mj_istore_n 2 (lv2 := [(2, .int 0), (1, .int 16), (0, .ref 950)]) dX13_findDepths_32 rfl (by decide) rfl ?_
  refine mj_iload_n dX13_findDepths_33 0 rfl ?_
  refine mj_aload_n dX13_findDepths_34 2 rfl ?_
  refine t_getI dX13_findDepths_35 F_X13_627 qf_950_44 ?_
  rw [h_I_950_44]
  refine mj_icmp_ge 78 dX13_findDepths_38 (by decide) (fun _ => ?_) (fun z => absurd (by decide) z)
  refine mj_iinc (k := 1) (v := 17) (lv2 := [(1, .int 17), (2, .int 0), (0, .ref 950)]) dX13_findDepths_78 rfl (by decide) (by decide) rfl ?_
  refine mj_goto 25 dX13_findDepths_81 (by decide) ?_
  refine mj_iload_n dX13_findDepths_25 0 rfl ?_
  refine mj_bipush (v := 64) dX13_findDepths_26 (by decide) ?_
  refine mj_icmp_ge 84 dX13_findDepths_28 (by decide) (fun z => absurd z (by decide)) (fun _ => ?_)
  refine mj_iconst (v := 0) dX13_findDepths_31 (by decide) ?_
  refine mj_istore_n 2 (lv2 := [(2, .int 0), (1, .int 17), (0, .ref 950)]) dX13_findDepths_32 rfl (by decide) rfl ?_
  refine mj_iload_n dX13_findDepths_33 0 rfl ?_
  refine mj_aload_n dX13_findDepths_34 2 rfl ?_
  refine t_getI dX13_findDepths_35 F_X13_627 qf_950_44 ?_
  rw [h_I_950_44]
  refine mj_icmp_ge 78 dX13_findDepths_38 (by decide) (fun _ => ?_) (fun z => absurd (by decide) z)
  refine mj_iinc (k := 1) (v := 18) (lv2 := [(1, .int 18), (2, .int 0), (0, .ref 950)]) dX13_findDepths_78 rfl (by decide) (by decide) rfl ?_
  refine mj_goto 25 dX13_findDepths_81 (by decide) ?_
  refine mj_iload_n dX13_findDepths_25 0 rfl ?_
  refine mj_bipush (v := 64) dX13_findDepths_26 (by decide) ?_
  refine mj_icmp_ge 84 dX13_findDepths_28 (by decide) (fun z => absurd z (by decide)) (fun _ => ?_)
  refine mj_iconst (v := 0) dX13_findDepths_31 (by decide) ?_
  refine mj_istore_n 2 (lv2 := [(2, .int 0), (1, .int 18), (0, .ref 950)]) dX13_findDepths_32 rfl (by decide) rfl ?_
  refine mj_iload_n dX13_findDepths_33 0 rfl ?_
  refine mj_aload_n dX13_findDepths_34 2 rfl ?_
  refine t_getI dX13_findDepths_35 F_X13_627 qf_950_44 ?_
  rw [h_I_950_44]
  refine mj_icmp_ge 78 dX13_findDepths_38 (by decide) (fun _ => ?_) (fun z => absurd (by decide) z)
  refine mj_iinc (k := 1) (v := 19) (lv2 := [(1, .int 19), (2, .int 0), (0, .ref 950)]) dX13_findDepths_78 rfl (by decide) (by decide) rfl ?_
  refine mj_goto 25 dX13_findDepths_81 (by decide) ?_
  refine mj_iload_n dX13_findDepths_25 0 rfl ?_
  refine mj_bipush (v := 64) dX13_findDepths_26 (by decide) ?_
  refine mj_icmp_ge 84 dX13_findDepths_28 (by decide) (fun z => absurd z (by decide)) (fun _ => ?_)
  refine mj_iconst (v := 0) dX13_findDepths_31 (by decide) ?_
  refine mj_istore_n 2 (lv2 := [(2, .int 0), (1, .int 19), (0, .ref 950)]) dX13_findDepths_32 rfl (by decide) rfl ?_
  refine mj_iload_n dX13_findDepths_33 0 rfl ?_
  refine mj_aload_n dX13_findDepths_34 2 rfl ?_
  refine t_getI dX13_findDepths_35 F_X13_627 qf_950_44 ?_
  rw [h_I_950_44]
  refine mj_icmp_ge 78 dX13_findDepths_38 (by decide) (fun _ => ?_) (fun z => absurd (by decide) z)
  refine mj_iinc (k := 1) (v := 20) (lv2 := [(1, .int 20), (2, .int 0), (0, .ref 950)]) dX13_findDepths_78 rfl (by decide) (by decide) rfl ?_
  refine mj_goto 25 dX13_findDepths_81 (by decide) ?_
  refine mj_iload_n dX13_findDepths_25 0 rfl ?_
  refine mj_bipush (v := 64) dX13_findDepths_26 (by decide) ?_
  refine mj_icmp_ge 84 dX13_findDepths_28 (by decide) (fun z => absurd z (by decide)) (fun _ => ?_)
  refine mj_iconst (v := 0) dX13_findDepths_31 (by decide) ?_
  refine mj_istore_n 2 (lv2 := [(2, .int 0), (1, .int 20), (0, .ref 950)]) dX13_findDepths_32 rfl (by decide) rfl ?_
  refine mj_iload_n dX13_findDepths_33 0 rfl ?_
  refine mj_aload_n dX13_findDepths_34 2 rfl ?_
  refine t_getI dX13_findDepths_35 F_X13_627 qf_950_44 ?_
  rw [h_I_950_44]
  refine mj_icmp_ge 78 dX13_findDepths_38 (by decide) (fun _ => ?_) (fun z => absurd (by decide) z)
  refine mj_iinc (k := 1) (v := 21) (lv2 := [(1, .int 21), (2, .int 0), (0, .ref 950)]) dX13_findDepths_78 rfl (by decide) (by decide) rfl ?_
  refine mj_goto 25 dX13_findDepths_81 (by decide) ?_
  refine mj_iload_n dX13_findDepths_25 0 rfl ?_
  refine mj_bipush (v := 64) dX13_findDepths_26 (by decide) ?_
  refine mj_icmp_ge 84 dX13_findDepths_28 (by decide) (fun z => absurd z (by decide)) (fun _ => ?_)
  refine mj_iconst (v := 0) dX13_findDepths_31 (by decide) ?_
  refine mj_istore_n 2 (lv2 := [(2, .int 0), (1, .int 21), (0, .ref 950)]) dX13_findDepths_32 rfl (by decide) rfl ?_
  refine mj_iload_n dX13_findDepths_33 0 rfl ?_
  refine mj_aload_n dX13_findDepths_34 2 rfl ?_
  refine t_getI dX13_findDepths_35 F_X13_627 qf_950_44 ?_
  rw [h_I_950_44]
  refine mj_icmp_ge 78 dX13_findDepths_38 (by decide) (fun _ => ?_) (fun z => absurd (by decide) z)
  refine mj_iinc (k := 1) (v := 22) (lv2 := [(1, .int 22), (2, .int 0), (0, .ref 950)]) dX13_findDepths_78 rfl (by decide) (by decide) rfl ?_
  refine mj_goto 25 dX13_findDepths_81 (by decide) ?_
  refine mj_iload_n dX13_findDepths_25 0 rfl ?_
  refine mj_bipush (v := 64) dX13_findDepths_26 (by decide) ?_
  refine mj_icmp_ge 84 dX13_findDepths_28 (by decide) (fun z => absurd z (by decide)) (fun _ => ?_)
  refine mj_iconst (v := 0) dX13_findDepths_31 (by decide) ?_
  refine mj_istore_n 2 (lv2 := [(2, .int 0), (1, .int 22), (0, .ref 950)]) dX13_findDepths_32 rfl (by decide) rfl ?_
  refine mj_iload_n dX13_findDepths_33 0 rfl ?_
  refine mj_aload_n dX13_findDepths_34 2 rfl ?_
  refine t_getI dX13_findDepths_35 F_X13_627 qf_950_44 ?_
  rw [h_I_950_44]
  refine mj_icmp_ge 78 dX13_findDepths_38 (by decide) (fun _ => ?_) (fun z => absurd (by decide) z)
  refine mj_iinc (k := 1) (v := 23) (lv2 := [(1, .int 23), (2, .int 0), (0, .ref 950)]) dX13_findDepths_78 rfl (by decide) (by decide) rfl ?_
  refine mj_goto 25 dX13_findDepths_81 (by decide) ?_
  refine mj_iload_n dX13_findDepths_25 0 rfl ?_
  refine mj_bipush (v := 64) dX13_findDepths_26 (by decide) ?_
  refine mj_icmp_ge 84 dX13_findDepths_28 (by decide) (fun z => absurd z (by decide)) (fun _ => ?_)
  refine mj_iconst (v := 0) dX13_findDepths_31 (by decide) ?_
  refine mj_istore_n 2 (lv2 := [(2, .int 0), (1, .int 23), (0, .ref 950)]) dX13_findDepths_32 rfl (by decide) rfl ?_
  refine mj_iload_n dX13_findDepths_33 0 rfl ?_
  refine mj_aload_n dX13_findDepths_34 2 rfl ?_
  refine t_getI dX13_findDepths_35 F_X13_627 qf_950_44 ?_
  rw [h_I_950_44]
  refine mj_icmp_ge 78 dX13_findDepths_38 (by decide) (fun _ => ?_) (fun z => absurd (by decide) z)
  refine mj_iinc (k := 1) (v := 24) (lv2 := [(1, .int 24), (2, .int 0), (0, .ref 950)]) dX13_findDepths_78 rfl (by decide) (by decide) rfl ?_
  refine mj_goto 25 dX13_findDepths_81 (by decide) ?_
  refine mj_iload_n dX13_findDepths_25 0 rfl ?_
  refine mj_bipush (v := 64) dX13_findDepths_26 (by decide) ?_
  refine mj_icmp_ge 84 dX13_findDepths_28 (by decide) (fun z => absurd z (by decide)) (fun _ => ?_)
  refine mj_iconst (v := 0) dX13_findDepths_31 (by decide) ?_
  refine mj_istore_n 2 (lv2 := [(2, .int 0), (1, .int 24), (0, .ref 950)]) dX13_findDepths_32 rfl (by decide) rfl ?_
  refine mj_iload_n dX13_findDepths_33 0 rfl ?_
  refine mj_aload_n dX13_findDepths_34 2 rfl ?_
  refine t_getI dX13_findDepths_35 F_X13_627 qf_950_44 ?_
  rw [h_I_950_44]
  refine mj_icmp_ge 78 dX13_findDepths_38 (by decide) (fun _ => ?_) (fun z => absurd (by decide) z)
  refine mj_iinc (k := 1) (v := 25) (lv2 := [(1, .int 25), (2, .int 0), (0, .ref 950)]) dX13_findDepths_78 rfl (by decide) (by decide) rfl ?_
  refine mj_goto 25 dX13_findDepths_81 (by decide) ?_
  refine mj_iload_n dX13_findDepths_25 0 rfl ?_
  refine mj_bipush (v := 64) dX13_findDepths_26 (by decide) ?_
  refine mj_icmp_ge 84 dX13_findDepths_28 (by decide) (fun z => absurd z (by decide)) (fun _ => ?_)
  refine mj_iconst (v := 0) dX13_findDepths_31 (by decide) ?_
  refine mj_istore_n 2 (lv2 := [(2, .int 0), (1, .int 25), (0, .ref 950)]) dX13_findDepths_32 rfl (by decide) rfl ?_
  refine mj_iload_n dX13_findDepths_33 0 rfl ?_
  refine mj_aload_n dX13_findDepths_34 2 rfl ?_
  refine t_getI dX13_findDepths_35 F_X13_627 qf_950_44 ?_
  rw [h_I_950_44]
  refine mj_icmp_ge 78 dX13_findDepths_38 (by decide) (fun _ => ?_) (fun z => absurd (by decide) z)
  refine mj_iinc (k := 1) (v := 26) (lv2 := [(1, .int 26), (2, .int 0), (0, .ref 950)]) dX13_findDepths_78 rfl (by decide) (by decide) rfl ?_
  refine mj_goto 25 dX13_findDepths_81 (by decide) ?_
  refine mj_iload_n dX13_findDepths_25 0 rfl ?_
  refine mj_bipush (v := 64) dX13_findDepths_26 (by decide) ?_
  refine mj_icmp_ge 84 dX13_findDepths_28 (by decide) (fun z => absurd z (by decide)) (fun _ => ?_)
  refine mj_iconst (v := 0) dX13_findDepths_31 (by decide) ?_
  refine mj_istore_n 2 (lv2 := [(2, .int 0), (1, .int 26), (0, .ref 950)]) dX13_findDepths_32 rfl (by decide) rfl ?_
  refine mj_iload_n dX13_findDepths_33 0 rfl ?_
  refine mj_aload_n dX13_findDepths_34 2 rfl ?_
  refine t_getI dX13_findDepths_35 F_X13_627 qf_950_44 ?_
  rw [h_I_950_44]
  refine mj_icmp_ge 78 dX13_findDepths_38 (by decide) (fun _ => ?_) (fun z => absurd (by decide) z)
  refine mj_iinc (k := 1) (v := 27) (lv2 := [(1, .int 27), (2, .int 0), (0, .ref 950)]) dX13_findDepths_78 rfl (by decide) (by decide) rfl ?_
  refine mj_goto 25 dX13_findDepths_81 (by decide) ?_
  refine mj_iload_n dX13_findDepths_25 0 rfl ?_
  refine mj_bipush (v := 64) dX13_findDepths_26 (by decide) ?_
  refine mj_icmp_ge 84 dX13_findDepths_28 (by decide) (fun z => absurd z (by decide)) (fun _ => ?_)
  refine mj_iconst (v := 0) dX13_findDepths_31 (by decide) ?_
  refine mj_istore_n 2 (lv2 := [(2, .int 0), (1, .int 27), (0, .ref 950)]) dX13_findDepths_32 rfl (by decide) rfl ?_
  refine mj_iload_n dX13_findDepths_33 0 rfl ?_
  refine mj_aload_n dX13_findDepths_34 2 rfl ?_
  refine t_getI dX13_findDepths_35 F_X13_627 qf_950_44 ?_
  rw [h_I_950_44]
  refine mj_icmp_ge 78 dX13_findDepths_38 (by decide) (fun _ => ?_) (fun z => absurd (by decide) z)
  refine mj_iinc (k := 1) (v := 28) (lv2 := [(1, .int 28), (2, .int 0), (0, .ref 950)]) dX13_findDepths_78 rfl (by decide) (by decide) rfl ?_
  refine mj_goto 25 dX13_findDepths_81 (by decide) ?_
  refine mj_iload_n dX13_findDepths_25 0 rfl ?_
  refine mj_bipush (v := 64) dX13_findDepths_26 (by decide) ?_
  refine mj_icmp_ge 84 dX13_findDepths_28 (by decide) (fun z => absurd z (by decide)) (fun _ => ?_)
  refine mj_iconst (v := 0) dX13_findDepths_31 (by decide) ?_
  refine mj_istore_n 2 (lv2 := [(2, .int 0), (1, .int 28), (0, .ref 950)]) dX13_findDepths_32 rfl (by decide) rfl ?_
  refine mj_iload_n dX13_findDepths_33 0 rfl ?_
  refine mj_aload_n dX13_findDepths_34 2 rfl ?_
  refine t_getI dX13_findDepths_35 F_X13_627 qf_950_44 ?_
  rw [h_I_950_44]
  refine mj_icmp_ge 78 dX13_findDepths_38 (by decide) (fun _ => ?_) (fun z => absurd (by decide) z)
  refine mj_iinc (k := 1) (v := 29) (lv2 := [(1, .int 29), (2, .int 0), (0, .ref 950)]) dX13_findDepths_78 rfl (by decide) (by decide) rfl ?_
  refine mj_goto 25 dX13_findDepths_81 (by decide) ?_
  refine mj_iload_n dX13_findDepths_25 0 rfl ?_
  refine mj_bipush (v := 64) dX13_findDepths_26 (by decide) ?_
  refine mj_icmp_ge 84 dX13_findDepths_28 (by decide) (fun z => absurd z (by decide)) (fun _ => ?_)
  refine mj_iconst (v := 0) dX13_findDepths_31 (by decide) ?_
  refine mj_istore_n 2 (lv2 := [(2, .int 0), (1, .int 29), (0, .ref 950)]) dX13_findDepths_32 rfl (by decide) rfl ?_
  refine mj_iload_n dX13_findDepths_33 0 rfl ?_
  refine mj_aload_n dX13_findDepths_34 2 rfl ?_
  refine t_getI dX13_findDepths_35 F_X13_627 qf_950_44 ?_
  rw [h_I_950_44]
  refine mj_icmp_ge 78 dX13_findDepths_38 (by decide) (fun _ => ?_) (fun z => absurd (by decide) z)
  refine mj_iinc (k := 1) (v := 30) (lv2 := [(1, .int 30), (2, .int 0), (0, .ref 950)]) dX13_findDepths_78 rfl (by decide) (by decide) rfl ?_
  refine mj_goto 25 dX13_findDepths_81 (by decide) ?_
  refine mj_iload_n dX13_findDepths_25 0 rfl ?_
  refine mj_bipush (v := 64) dX13_findDepths_26 (by decide) ?_
  refine mj_icmp_ge 84 dX13_findDepths_28 (by decide) (fun z => absurd z (by decide)) (fun _ => ?_)
  refine mj_iconst (v := 0) dX13_findDepths_31 (by decide) ?_
  refine mj_istore_n 2 (lv2 := [(2, .int 0), (1, .int 30), (0, .ref 950)]) dX13_findDepths_32 rfl (by decide) rfl ?_
  refine mj_iload_n dX13_findDepths_33 0 rfl ?_
  refine mj_aload_n dX13_findDepths_34 2 rfl ?_
  refine t_getI dX13_findDepths_35 F_X13_627 qf_950_44 ?_
  rw [h_I_950_44]
  refine mj_icmp_ge 78 dX13_findDepths_38 (by decide) (fun _ => ?_) (fun z => absurd (by decide) z)
  refine mj_iinc (k := 1) (v := 31) (lv2 := [(1, .int 31), (2, .int 0), (0, .ref 950)]) dX13_findDepths_78 rfl (by decide) (by decide) rfl ?_
  refine mj_goto 25 dX13_findDepths_81 (by decide) ?_
  refine mj_iload_n dX13_findDepths_25 0 rfl ?_
  refine mj_bipush (v := 64) dX13_findDepths_26 (by decide) ?_
  refine mj_icmp_ge 84 dX13_findDepths_28 (by decide) (fun z => absurd z (by decide)) (fun _ => ?_)
  refine mj_iconst (v := 0) dX13_findDepths_31 (by decide) ?_
  refine mj_istore_n 2 (lv2 := [(2, .int 0), (1, .int 31), (0, .ref 950)]) dX13_findDepths_32 rfl (by decide) rfl ?_
  refine mj_iload_n dX13_findDepths_33 0 rfl ?_
  refine mj_aload_n dX13_findDepths_34 2 rfl ?_
  refine t_getI dX13_findDepths_35 F_X13_627 qf_950_44 ?_
  rw [h_I_950_44]
  refine mj_icmp_ge 78 dX13_findDepths_38 (by decide) (fun _ => ?_) (fun z => absurd (by decide) z)
  refine mj_iinc (k := 1) (v := 32) (lv2 := [(1, .int 32), (2, .int 0), (0, .ref 950)]) dX13_findDepths_78 rfl (by decide) (by decide) rfl ?_
  refine mj_goto 25 dX13_findDepths_81 (by decide) ?_
  refine mj_iload_n dX13_findDepths_25 0 rfl ?_
  refine mj_bipush (v := 64) dX13_findDepths_26 (by decide) ?_
  refine mj_icmp_ge 84 dX13_findDepths_28 (by decide) (fun z => absurd z (by decide)) (fun _ => ?_)
  refine mj_iconst (v := 0) dX13_findDepths_31 (by decide) ?_
  refine mj_istore_n 2 (lv2 := [(2, .int 0), (1, .int 32), (0, .ref 950)]) dX13_findDepths_32 rfl (by decide) rfl ?_
  refine mj_iload_n dX13_findDepths_33 0 rfl ?_
  refine mj_aload_n dX13_findDepths_34 2 rfl ?_
  refine t_getI dX13_findDepths_35 F_X13_627 qf_950_44 ?_
  rw [h_I_950_44]
  refine mj_icmp_ge 78 dX13_findDepths_38 (by decide) (fun _ => ?_) (fun z => absurd (by decide) z)
  refine mj_iinc (k := 1) (v := 33) (lv2 := [(1, .int 33), (2, .int 0), (0, .ref 950)]) dX13_findDepths_78 rfl (by decide) (by decide) rfl ?_
  refine mj_goto 25 dX13_findDepths_81 (by decide) ?_
  refine mj_iload_n dX13_findDepths_25 0 rfl ?_
  refine mj_bipush (v := 64) dX13_findDepths_26 (by decide) ?_
  refine mj_icmp_ge 84 dX13_findDepths_28 (by decide) (fun z => absurd z (by decide)) (fun _ => ?_)
  refine mj_iconst (v := 0) dX13_findDepths_31 (by decide) ?_
  refine mj_istore_n 2 (lv2 := [(2, .int 0), (1, .int 33), (0, .ref 950)]) dX13_findDepths_32 rfl (by decide) rfl ?_
  refine mj_iload_n dX13_findDepths_33 0 rfl ?_
  refine mj_aload_n dX13_findDepths_34 2 rfl ?_
  refine t_getI dX13_findDepths_35 F_X13_627 qf_950_44 ?_
  rw [h_I_950_44]
  refine mj_icmp_ge 78 dX13_findDepths_38 (by decide) (fun _ => ?_) (fun z => absurd (by decide) z)
  refine mj_iinc (k := 1) (v := 34) (lv2 := [(1, .int 34), (2, .int 0), (0, .ref 950)]) dX13_findDepths_78 rfl (by decide) (by decide) rfl ?_
  refine mj_goto 25 dX13_findDepths_81 (by decide) ?_
  refine mj_iload_n dX13_findDepths_25 0 rfl ?_
  refine mj_bipush (v := 64) dX13_findDepths_26 (by decide) ?_
  refine mj_icmp_ge 84 dX13_findDepths_28 (by decide) (fun z => absurd z (by decide)) (fun _ => ?_)
  refine mj_iconst (v := 0) dX13_findDepths_31 (by decide) ?_
  refine mj_istore_n 2 (lv2 := [(2, .int 0), (1, .int 34), (0, .ref 950)]) dX13_findDepths_32 rfl (by decide) rfl ?_
  refine mj_iload_n dX13_findDepths_33 0 rfl ?_
  refine mj_aload_n dX13_findDepths_34 2 rfl ?_
  refine t_getI dX13_findDepths_35 F_X13_627 qf_950_44 ?_
  rw [h_I_950_44]
  refine mj_icmp_ge 78 dX13_findDepths_38 (by decide) (fun _ => ?_) (fun z => absurd (by decide) z)
  refine mj_iinc (k := 1) (v := 35) (lv2 := [(1, .int 35), (2, .int 0), (0, .ref 950)]) dX13_findDepths_78 rfl (by decide) (by decide) rfl ?_
  refine mj_goto 25 dX13_findDepths_81 (by decide) ?_
  refine mj_iload_n dX13_findDepths_25 0 rfl ?_
  refine mj_bipush (v := 64) dX13_findDepths_26 (by decide) ?_
  refine mj_icmp_ge 84 dX13_findDepths_28 (by decide) (fun z => absurd z (by decide)) (fun _ => ?_)
  refine mj_iconst (v := 0) dX13_findDepths_31 (by decide) ?_
  refine mj_istore_n 2 (lv2 := [(2, .int 0), (1, .int 35), (0, .ref 950)]) dX13_findDepths_32 rfl (by decide) rfl ?_
  refine mj_iload_n dX13_findDepths_33 0 rfl ?_
  refine mj_aload_n dX13_findDepths_34 2 rfl ?_
  refine t_getI dX13_findDepths_35 F_X13_627 qf_950_44 ?_
  rw [h_I_950_44]
  refine mj_icmp_ge 78 dX13_findDepths_38 (by decide) (fun _ => ?_) (fun z => absurd (by decide) z)
  refine mj_iinc (k := 1) (v := 36) (lv2 := [(1, .int 36), (2, .int 0), (0, .ref 950)]) dX13_findDepths_78 rfl (by decide) (by decide) rfl ?_
  refine mj_goto 25 dX13_findDepths_81 (by decide) ?_
  refine mj_iload_n dX13_findDepths_25 0 rfl ?_
  refine mj_bipush (v := 64) dX13_findDepths_26 (by decide) ?_
  refine mj_icmp_ge 84 dX13_findDepths_28 (by decide) (fun z => absurd z (by decide)) (fun _ => ?_)
  refine mj_iconst (v := 0) dX13_findDepths_31 (by decide) ?_
  refine mj_istore_n 2 (lv2 := [(2, .int 0), (1, .int 36), (0, .ref 950)]) dX13_findDepths_32 rfl (by decide) rfl ?_
  refine mj_iload_n dX13_findDepths_33 0 rfl ?_
  refine mj_aload_n dX13_findDepths_34 2 rfl ?_
  refine t_getI dX13_findDepths_35 F_X13_627 qf_950_44 ?_
  rw [h_I_950_44]
  refine mj_icmp_ge 78 dX13_findDepths_38 (by decide) (fun _ => ?_) (fun z => absurd (by decide) z)
  refine mj_iinc (k := 1) (v := 37) (lv2 := [(1, .int 37), (2, .int 0), (0, .ref 950)]) dX13_findDepths_78 rfl (by decide) (by decide) rfl ?_
  refine mj_goto 25 dX13_findDepths_81 (by decide) ?_
  refine mj_iload_n dX13_findDepths_25 0 rfl ?_
  refine mj_bipush (v := 64) dX13_findDepths_26 (by decide) ?_
  refine mj_icmp_ge 84 dX13_findDepths_28 (by decide) (fun z => absurd z (by decide)) (fun _ => ?_)
  refine mj_iconst (v := 0) dX13_findDepths_31 (by decide) ?_
  refine mj_istore_n 2 (lv2 := [(2, .int 0), (1, .int 37), (0, .ref 950)]) dX13_findDepths_32 rfl (by decide) rfl ?_
  refine mj_iload_n dX13_findDepths_33 0 rfl ?_
  refine mj_aload_n dX13_findDepths_34 2 rfl ?_
  refine t_getI dX13_findDepths_35 F_X13_627 qf_950_44 ?_
  rw [h_I_950_44]
  refine mj_icmp_ge 78 dX13_findDepths_38 (by decide) (fun _ => ?_) (fun z => absurd (by decide) z)
  refine mj_iinc (k := 1) (v := 38) (lv2 := [(1, .int 38), (2, .int 0), (0, .ref 950)]) dX13_findDepths_78 rfl (by decide) (by decide) rfl ?_
  refine mj_goto 25 dX13_findDepths_81 (by decide) ?_
  refine mj_iload_n dX13_findDepths_25 0 rfl ?_
  refine mj_bipush (v := 64) dX13_findDepths_26 (by decide) ?_
  refine mj_icmp_ge 84 dX13_findDepths_28 (by decide) (fun z => absurd z (by decide)) (fun _ => ?_)
  refine mj_iconst (v := 0) dX13_findDepths_31 (by decide) ?_
  refine mj_istore_n 2 (lv2 := [(2, .int 0), (1, .int 38), (0, .ref 950)]) dX13_findDepths_32 rfl (by decide) rfl ?_
  refine mj_iload_n dX13_findDepths_33 0 rfl ?_
  refine mj_aload_n dX13_findDepths_34 2 rfl ?_
  refine t_getI dX13_findDepths_35 F_X13_627 qf_950_44 ?_
  rw [h_I_950_44]
  refine mj_icmp_ge 78 dX13_findDepths_38 (by decide) (fun _ => ?_) (fun z => absurd (by decide) z)
  refine mj_iinc (k := 1) (v := 39) (lv2 := [(1, .int 39), (2, .int 0), (0, .ref 950)]) dX13_findDepths_78 rfl (by decide) (by decide) rfl ?_
  refine mj_goto 25 dX13_findDepths_81 (by decide) ?_
  refine mj_iload_n dX13_findDepths_25 0 rfl ?_
  refine mj_bipush (v := 64) dX13_findDepths_26 (by decide) ?_
  refine mj_icmp_ge 84 dX13_findDepths_28 (by decide) (fun z => absurd z (by decide)) (fun _ => ?_)
  refine mj_iconst (v := 0) dX13_findDepths_31 (by decide) ?_
  refine mj_istore_n 2 (lv2 := [(2, .int 0), (1, .int 39), (0, .ref 950)]) dX13_findDepths_32 rfl (by decide) rfl ?_
  refine mj_iload_n dX13_findDepths_33 0 rfl ?_
  refine mj_aload_n dX13_findDepths_34 2 rfl ?_
  refine t_getI dX13_findDepths_35 F_X13_627 qf_950_44 ?_
  rw [h_I_950_44]
  refine mj_icmp_ge 78 dX13_findDepths_38 (by decide) (fun _ => ?_) (fun z => absurd (by decide) z)
  refine mj_iinc (k := 1) (v := 40) (lv2 := [(1, .int 40), (2, .int 0), (0, .ref 950)]) dX13_findDepths_78 rfl (by decide) (by decide) rfl ?_
  refine mj_goto 25 dX13_findDepths_81 (by decide) ?_
  refine mj_iload_n dX13_findDepths_25 0 rfl ?_
  refine mj_bipush (v := 64) dX13_findDepths_26 (by decide) ?_
  refine mj_icmp_ge 84 dX13_findDepths_28 (by decide) (fun z => absurd z (by decide)) (fun _ => ?_)
  refine mj_iconst (v := 0) dX13_findDepths_31 (by decide) ?_
  refine mj_istore_n 2 (lv2 := [(2, .int 0), (1, .int 40), (0, .ref 950)]) dX13_findDepths_32 rfl (by decide) rfl ?_
  refine mj_iload_n dX13_findDepths_33 0 rfl ?_
  refine mj_aload_n dX13_findDepths_34 2 rfl ?_
  refine t_getI dX13_findDepths_35 F_X13_627 qf_950_44 ?_
  rw [h_I_950_44]
  refine mj_icmp_ge 78 dX13_findDepths_38 (by decide) (fun _ => ?_) (fun z => absurd (by decide) z)
  refine mj_iinc (k := 1) (v := 41) (lv2 := [(1, .int 41), (2, .int 0), (0, .ref 950)]) dX13_findDepths_78 rfl (by decide) (by decide) rfl ?_
  refine mj_goto 25 dX13_findDepths_81 (by decide) ?_
  refine mj_iload_n dX13_findDepths_25 0 rfl ?_
  refine mj_bipush (v := 64) dX13_findDepths_26 (by decide) ?_
  refine mj_icmp_ge 84 dX13_findDepths_28 (by decide) (fun z => absurd z (by decide)) (fun _ => ?_)
  refine mj_iconst (v := 0) dX13_findDepths_31 (by decide) ?_
  refine mj_istore_n 2 (lv2 := [(2, .int 0), (1, .int 41), (0, .ref 950)]) dX13_findDepths_32 rfl (by decide) rfl ?_
  refine mj_iload_n dX13_findDepths_33 0 rfl ?_
  refine mj_aload_n dX13_findDepths_34 2 rfl ?_
  refine t_getI dX13_findDepths_35 F_X13_627 qf_950_44 ?_
  rw [h_I_950_44]
  refine mj_icmp_ge 78 dX13_findDepths_38 (by decide) (fun _ => ?_) (fun z => absurd (by decide) z)
  refine mj_iinc (k := 1) (v := 42) (lv2 := [(1, .int 42), (2, .int 0), (0, .ref 950)]) dX13_findDepths_78 rfl (by decide) (by decide) rfl ?_
  refine mj_goto 25 dX13_findDepths_81 (by decide) ?_
  refine mj_iload_n dX13_findDepths_25 0 rfl ?_
  refine mj_bipush (v := 64) dX13_findDepths_26 (by decide) ?_
  refine mj_icmp_ge 84 dX13_findDepths_28 (by decide) (fun z => absurd z (by decide)) (fun _ => ?_)
  refine mj_iconst (v := 0) dX13_findDepths_31 (by decide) ?_
  refine mj_istore_n 2 (lv2 := [(2, .int 0), (1, .int 42), (0, .ref 950)]) dX13_findDepths_32 rfl (by decide) rfl ?_
  refine mj_iload_n dX13_findDepths_33 0 rfl ?_
  refine mj_aload_n dX13_findDepths_34 2 rfl ?_
  refine t_getI dX13_findDepths_35 F_X13_627 qf_950_44 ?_
  rw [h_I_950_44]
  refine mj_icmp_ge 78 dX13_findDepths_38 (by decide) (fun _ => ?_) (fun z => absurd (by decide) z)
  refine mj_iinc (k := 1) (v := 43) (lv2 := [(1, .int 43), (2, .int 0), (0, .ref 950)]) dX13_findDepths_78 rfl (by decide) (by decide) rfl ?_
  refine mj_goto 25 dX13_findDepths_81 (by decide) ?_
  refine mj_iload_n dX13_findDepths_25 0 rfl ?_
  refine mj_bipush (v := 64) dX13_findDepths_26 (by decide) ?_
  refine mj_icmp_ge 84 dX13_findDepths_28 (by decide) (fun z => absurd z (by decide)) (fun _ => ?_)
  refine mj_iconst (v := 0) dX13_findDepths_31 (by decide) ?_
  refine mj_istore_n 2 (lv2 := [(2, .int 0), (1, .int 43), (0, .ref 950)]) dX13_findDepths_32 rfl (by decide) rfl ?_
  refine mj_iload_n dX13_findDepths_33 0 rfl ?_
  refine mj_aload_n dX13_findDepths_34 2 rfl ?_
  refine t_getI dX13_findDepths_35 F_X13_627 qf_950_44 ?_
  rw [h_I_950_44]
  refine mj_icmp_ge 78 dX13_findDepths_38 (by decide) (fun _ => ?_) (fun z => absurd (by decide) z)
  refine mj_iinc (k := 1) (v := 44) (lv2 := [(1, .int 44), (2, .int 0), (0, .ref 950)]) dX13_findDepths_78 rfl (by decide) (by decide) rfl ?_
  refine mj_goto 25 dX13_findDepths_81 (by decide) ?_
  refine mj_iload_n dX13_findDepths_25 0 rfl ?_
  refine mj_bipush (v := 64) dX13_findDepths_26 (by decide) ?_
  refine mj_icmp_ge 84 dX13_findDepths_28 (by decide) (fun z => absurd z (by decide)) (fun _ => ?_)
  refine mj_iconst (v := 0) dX13_findDepths_31 (by decide) ?_
  refine mj_istore_n 2 (lv2 := [(2, .int 0), (1, .int 44), (0, .ref 950)]) dX13_findDepths_32 rfl (by decide) rfl ?_
  refine mj_iload_n dX13_findDepths_33 0 rfl ?_
  refine mj_aload_n dX13_findDepths_34 2 rfl ?_
  refine t_getI dX13_findDepths_35 F_X13_627 qf_950_44 ?_
  rw [h_I_950_44]
  refine mj_icmp_ge 78 dX13_findDepths_38 (by decide) (fun _ => ?_) (fun z => absurd (by decide) z)
  refine mj_iinc (k := 1) (v := 45) (lv2 := [(1, .int 45), (2, .int 0), (0, .ref 950)]) dX13_findDepths_78 rfl (by decide) (by decide) rfl ?_
  refine mj_goto 25 dX13_findDepths_81 (by decide) ?_
  refine mj_iload_n dX13_findDepths_25 0 rfl ?_
  refine mj_bipush (v := 64) dX13_findDepths_26 (by decide) ?_
  refine mj_icmp_ge 84 dX13_findDepths_28 (by decide) (fun z => absurd z (by decide)) (fun _ => ?_)
  refine mj_iconst (v := 0) dX13_findDepths_31 (by decide) ?_
  refine mj_istore_n 2 (lv2 := [(2, .int 0), (1, .int 45), (0, .ref 950)]) dX13_findDepths_32 rfl (by decide) rfl ?_
  refine mj_iload_n dX13_findDepths_33 0 rfl ?_
  refine mj_aload_n dX13_findDepths_34 2 rfl ?_
  refine t_getI dX13_findDepths_35 F_X13_627 qf_950_44 ?_
  rw [h_I_950_44]
  refine mj_icmp_ge 78 dX13_findDepths_38 (by decide) (fun _ => ?_) (fun z => absurd (by decide) z)
  refine mj_iinc (k := 1) (v := 46) (lv2 := [(1, .int 46), (2, .int 0), (0, .ref 950)]) dX13_findDepths_78 rfl (by decide) (by decide) rfl ?_
  refine mj_goto 25 dX13_findDepths_81 (by decide) ?_
  refine mj_iload_n dX13_findDepths_25 0 rfl ?_
  refine mj_bipush (v := 64) dX13_findDepths_26 (by decide) ?_
  refine mj_icmp_ge 84 dX13_findDepths_28 (by decide) (fun z => absurd z (by decide)) (fun _ => ?_)
  refine mj_iconst (v := 0) dX13_findDepths_31 (by decide) ?_
  refine mj_istore_n 2 (lv2 := [(2, .int 0), (1, .int 46), (0, .ref 950)]) dX13_findDepths_32 rfl (by decide) rfl ?_
  refine mj_iload_n dX13_findDepths_33 0 rfl ?_
  refine mj_aload_n dX13_findDepths_34 2 rfl ?_
  refine t_getI dX13_findDepths_35 F_X13_627 qf_950_44 ?_
  rw [h_I_950_44]
  refine mj_icmp_ge 78 dX13_findDepths_38 (by decide) (fun _ => ?_) (fun z => absurd (by decide) z)
  refine mj_iinc (k := 1) (v := 47) (lv2 := [(1, .int 47), (2, .int 0), (0, .ref 950)]) dX13_findDepths_78 rfl (by decide) (by decide) rfl ?_
  refine mj_goto 25 dX13_findDepths_81 (by decide) ?_
  refine mj_iload_n dX13_findDepths_25 0 rfl ?_
  refine mj_bipush (v := 64) dX13_findDepths_26 (by decide) ?_
  refine mj_icmp_ge 84 dX13_findDepths_28 (by decide) (fun z => absurd z (by decide)) (fun _ => ?_)
  refine mj_iconst (v := 0) dX13_findDepths_31 (by decide) ?_
  refine mj_istore_n 2 (lv2 := [(2, .int 0), (1, .int 47), (0, .ref 950)]) dX13_findDepths_32 rfl (by decide) rfl ?_
  refine mj_iload_n dX13_findDepths_33 0 rfl ?_
  refine mj_aload_n dX13_findDepths_34 2 rfl ?_
  refine t_getI dX13_findDepths_35 F_X13_627 qf_950_44 ?_
  rw [h_I_950_44]
  refine mj_icmp_ge 78 dX13_findDepths_38 (by decide) (fun _ => ?_) (fun z => absurd (by decide) z)
  refine mj_iinc (k := 1) (v := 48) (lv2 := [(1, .int 48), (2, .int 0), (0, .ref 950)]) dX13_findDepths_78 rfl (by decide) (by decide) rfl ?_
  refine mj_goto 25 dX13_findDepths_81 (by decide) ?_
  refine mj_iload_n dX13_findDepths_25 0 rfl ?_
  refine mj_bipush (v := 64) dX13_findDepths_26 (by decide) ?_
  refine mj_icmp_ge 84 dX13_findDepths_28 (by decide) (fun z => absurd z (by decide)) (fun _ => ?_)
  refine mj_iconst (v := 0) dX13_findDepths_31 (by decide) ?_
  refine mj_istore_n 2 (lv2 := [(2, .int 0), (1, .int 48), (0, .ref 950)]) dX13_findDepths_32 rfl (by decide) rfl ?_
  refine mj_iload_n dX13_findDepths_33 0 rfl ?_
  refine mj_aload_n dX13_findDepths_34 2 rfl ?_
  refine t_getI dX13_findDepths_35 F_X13_627 qf_950_44 ?_
  rw [h_I_950_44]
  refine mj_icmp_ge 78 dX13_findDepths_38 (by decide) (fun _ => ?_) (fun z => absurd (by decide) z)
  refine mj_iinc (k := 1) (v := 49) (lv2 := [(1, .int 49), (2, .int 0), (0, .ref 950)]) dX13_findDepths_78 rfl (by decide) (by decide) rfl ?_
  refine mj_goto 25 dX13_findDepths_81 (by decide) ?_
  refine mj_iload_n dX13_findDepths_25 0 rfl ?_
  refine mj_bipush (v := 64) dX13_findDepths_26 (by decide) ?_
  refine mj_icmp_ge 84 dX13_findDepths_28 (by decide) (fun z => absurd z (by decide)) (fun _ => ?_)
  refine mj_iconst (v := 0) dX13_findDepths_31 (by decide) ?_
  refine mj_istore_n 2 (lv2 := [(2, .int 0), (1, .int 49), (0, .ref 950)]) dX13_findDepths_32 rfl (by decide) rfl ?_
  refine mj_iload_n dX13_findDepths_33 0 rfl ?_
  refine mj_aload_n dX13_findDepths_34 2 rfl ?_
  refine t_getI dX13_findDepths_35 F_X13_627 qf_950_44 ?_
  rw [h_I_950_44]
  refine mj_icmp_ge 78 dX13_findDepths_38 (by decide) (fun _ => ?_) (fun z => absurd (by decide) z)
  refine mj_iinc (k := 1) (v := 50) (lv2 := [(1, .int 50), (2, .int 0), (0, .ref 950)]) dX13_findDepths_78 rfl (by decide) (by decide) rfl ?_
  refine mj_goto 25 dX13_findDepths_81 (by decide) ?_
  refine mj_iload_n dX13_findDepths_25 0 rfl ?_
  refine mj_bipush (v := 64) dX13_findDepths_26 (by decide) ?_
  refine mj_icmp_ge 84 dX13_findDepths_28 (by decide) (fun z => absurd z (by decide)) (fun _ => ?_)
  refine mj_iconst (v := 0) dX13_findDepths_31 (by decide) ?_
  refine mj_istore_n 2 (lv2 := [(2, .int 0), (1, .int 50), (0, .ref 950)]) dX13_findDepths_32 rfl (by decide) rfl ?_
  refine mj_iload_n dX13_findDepths_33 0 rfl ?_
  refine mj_aload_n dX13_findDepths_34 2 rfl ?_
  refine t_getI dX13_findDepths_35 F_X13_627 qf_950_44 ?_
  rw [h_I_950_44]
  refine mj_icmp_ge 78 dX13_findDepths_38 (by decide) (fun _ => ?_) (fun z => absurd (by decide) z)
  refine mj_iinc (k := 1) (v := 51) (lv2 := [(1, .int 51), (2, .int 0), (0, .ref 950)]) dX13_findDepths_78 rfl (by decide) (by decide) rfl ?_
  refine mj_goto 25 dX13_findDepths_81 (by decide) ?_
  refine mj_iload_n dX13_findDepths_25 0 rfl ?_
  refine mj_bipush (v := 64) dX13_findDepths_26 (by decide) ?_
  refine mj_icmp_ge 84 dX13_findDepths_28 (by decide) (fun z => absurd z (by decide)) (fun _ => ?_)
  refine mj_iconst (v := 0) dX13_findDepths_31 (by decide) ?_
  refine mj_istore_n 2 (lv2 := [(2, .int 0), (1, .int 51), (0, .ref 950)]) dX13_findDepths_32 rfl (by decide) rfl ?_
  refine mj_iload_n dX13_findDepths_33 0 rfl ?_
  refine mj_aload_n dX13_findDepths_34 2 rfl ?_
  refine t_getI dX13_findDepths_35 F_X13_627 qf_950_44 ?_
  rw [h_I_950_44]
  refine mj_icmp_ge 78 dX13_findDepths_38 (by decide) (fun _ => ?_) (fun z => absurd (by decide) z)
  refine mj_iinc (k := 1) (v := 52) (lv2 := [(1, .int 52), (2, .int 0), (0, .ref 950)]) dX13_findDepths_78 rfl (by decide) (by decide) rfl ?_
  refine mj_goto 25 dX13_findDepths_81 (by decide) ?_
  refine mj_iload_n dX13_findDepths_25 0 rfl ?_
  refine mj_bipush (v := 64) dX13_findDepths_26 (by decide) ?_
  refine mj_icmp_ge 84 dX13_findDepths_28 (by decide) (fun z => absurd z (by decide)) (fun _ => ?_)
  refine mj_iconst (v := 0) dX13_findDepths_31 (by decide) ?_
  refine mj_istore_n 2 (lv2 := [(2, .int 0), (1, .int 52), (0, .ref 950)]) dX13_findDepths_32 rfl (by decide) rfl ?_
  refine mj_iload_n dX13_findDepths_33 0 rfl ?_
  refine mj_aload_n dX13_findDepths_34 2 rfl ?_
  refine t_getI dX13_findDepths_35 F_X13_627 qf_950_44 ?_
  rw [h_I_950_44]
  refine mj_icmp_ge 78 dX13_findDepths_38 (by decide) (fun _ => ?_) (fun z => absurd (by decide) z)
  refine mj_iinc (k := 1) (v := 53) (lv2 := [(1, .int 53), (2, .int 0), (0, .ref 950)]) dX13_findDepths_78 rfl (by decide) (by decide) rfl ?_
  refine mj_goto 25 dX13_findDepths_81 (by decide) ?_
  refine mj_iload_n dX13_findDepths_25 0 rfl ?_
  refine mj_bipush (v := 64) dX13_findDepths_26 (by decide) ?_
  refine mj_icmp_ge 84 dX13_findDepths_28 (by decide) (fun z => absurd z (by decide)) (fun _ => ?_)
  refine mj_iconst (v := 0) dX13_findDepths_31 (by decide) ?_
  refine mj_istore_n 2 (lv2 := [(2, .int 0), (1, .int 53), (0, .ref 950)]) dX13_findDepths_32 rfl (by decide) rfl ?_
  refine mj_iload_n dX13_findDepths_33 0 rfl ?_
  refine mj_aload_n dX13_findDepths_34 2 rfl ?_
  refine t_getI dX13_findDepths_35 F_X13_627 qf_950_44 ?_
  rw [h_I_950_44]
  refine mj_icmp_ge 78 dX13_findDepths_38 (by decide) (fun _ => ?_) (fun z => absurd (by decide) z)
  refine mj_iinc (k := 1) (v := 54) (lv2 := [(1, .int 54), (2, .int 0), (0, .ref 950)]) dX13_findDepths_78 rfl (by decide) (by decide) rfl ?_
  refine mj_goto 25 dX13_findDepths_81 (by decide) ?_
  refine mj_iload_n dX13_findDepths_25 0 rfl ?_
  refine mj_bipush (v := 64) dX13_findDepths_26 (by decide) ?_
  refine mj_icmp_ge 84 dX13_findDepths_28 (by decide) (fun z => absurd z (by decide)) (fun _ => ?_)
  refine mj_iconst (v := 0) dX13_findDepths_31 (by decide) ?_
  refine mj_istore_n 2 (lv2 := [(2, .int 0), (1, .int 54), (0, .ref 950)]) dX13_findDepths_32 rfl (by decide) rfl ?_
  refine mj_iload_n dX13_findDepths_33 0 rfl ?_
  refine mj_aload_n dX13_findDepths_34 2 rfl ?_
  refine t_getI dX13_findDepths_35 F_X13_627 qf_950_44 ?_
  rw [h_I_950_44]
  refine mj_icmp_ge 78 dX13_findDepths_38 (by decide) (fun _ => ?_) (fun z => absurd (by decide) z)
  refine mj_iinc (k := 1) (v := 55) (lv2 := [(1, .int 55), (2, .int 0), (0, .ref 950)]) dX13_findDepths_78 rfl (by decide) (by decide) rfl ?_
  refine mj_goto 25 dX13_findDepths_81 (by decide) ?_
  refine mj_iload_n dX13_findDepths_25 0 rfl ?_
  refine mj_bipush (v := 64) dX13_findDepths_26 (by decide) ?_
  refine mj_icmp_ge 84 dX13_findDepths_28 (by decide) (fun z => absurd z (by decide)) (fun _ => ?_)
  refine mj_iconst (v := 0) dX13_findDepths_31 (by decide) ?_
  refine mj_istore_n 2 (lv2 := [(2, .int 0), (1, .int 55), (0, .ref 950)]) dX13_findDepths_32 rfl (by decide) rfl ?_
  refine mj_iload_n dX13_findDepths_33 0 rfl ?_
  refine mj_aload_n dX13_findDepths_34 2 rfl ?_
  refine t_getI dX13_findDepths_35 F_X13_627 qf_950_44 ?_
  rw [h_I_950_44]
  refine mj_icmp_ge 78 dX13_findDepths_38 (by decide) (fun _ => ?_) (fun z => absurd (by decide) z)
  refine mj_iinc (k := 1) (v := 56) (lv2 := [(1, .int 56), (2, .int 0), (0, .ref 950)]) dX13_findDepths_78 rfl (by decide) (by decide) rfl ?_
  refine mj_goto 25 dX13_findDepths_81 (by decide) ?_
  refine mj_iload_n dX13_findDepths_25 0 rfl ?_
  refine mj_bipush (v := 64) dX13_findDepths_26 (by decide) ?_
  refine mj_icmp_ge 84 dX13_findDepths_28 (by decide) (fun z => absurd z (by decide)) (fun _ => ?_)
  refine mj_iconst (v := 0) dX13_findDepths_31 (by decide) ?_
  refine mj_istore_n 2 (lv2 := [(2, .int 0), (1, .int 56), (0, .ref 950)]) dX13_findDepths_32 rfl (by decide) rfl ?_
  refine mj_iload_n dX13_findDepths_33 0 rfl ?_
  refine mj_aload_n dX13_findDepths_34 2 rfl ?_
  refine t_getI dX13_findDepths_35 F_X13_627 qf_950_44 ?_
  rw [h_I_950_44]
  refine mj_icmp_ge 78 dX13_findDepths_38 (by decide) (fun _ => ?_) (fun z => absurd (by decide) z)
  refine mj_iinc (k := 1) (v := 57) (lv2 := [(1, .int 57), (2, .int 0), (0, .ref 950)]) dX13_findDepths_78 rfl (by decide) (by decide) rfl ?_
  refine mj_goto 25 dX13_findDepths_81 (by decide) ?_
  refine mj_iload_n dX13_findDepths_25 0 rfl ?_
  refine mj_bipush (v := 64) dX13_findDepths_26 (by decide) ?_
  refine mj_icmp_ge 84 dX13_findDepths_28 (by decide) (fun z => absurd z (by decide)) (fun _ => ?_)
  refine mj_iconst (v := 0) dX13_findDepths_31 (by decide) ?_
  refine mj_istore_n 2 (lv2 := [(2, .int 0), (1, .int 57), (0, .ref 950)]) dX13_findDepths_32 rfl (by decide) rfl ?_
  refine mj_iload_n dX13_findDepths_33 0 rfl ?_
  refine mj_aload_n dX13_findDepths_34 2 rfl ?_
  refine t_getI dX13_findDepths_35 F_X13_627 qf_950_44 ?_
  rw [h_I_950_44]
  refine mj_icmp_ge 78 dX13_findDepths_38 (by decide) (fun _ => ?_) (fun z => absurd (by decide) z)
  refine mj_iinc (k := 1) (v := 58) (lv2 := [(1, .int 58), (2, .int 0), (0, .ref 950)]) dX13_findDepths_78 rfl (by decide) (by decide) rfl ?_
  refine mj_goto 25 dX13_findDepths_81 (by decide) ?_
  refine mj_iload_n dX13_findDepths_25 0 rfl ?_
  refine mj_bipush (v := 64) dX13_findDepths_26 (by decide) ?_
  refine mj_icmp_ge 84 dX13_findDepths_28 (by decide) (fun z => absurd z (by decide)) (fun _ => ?_)
  refine mj_iconst (v := 0) dX13_findDepths_31 (by decide) ?_
  refine mj_istore_n 2 (lv2 := [(2, .int 0), (1, .int 58), (0, .ref 950)]) dX13_findDepths_32 rfl (by decide) rfl ?_
  refine mj_iload_n dX13_findDepths_33 0 rfl ?_
  refine mj_aload_n dX13_findDepths_34 2 rfl ?_
  refine t_getI dX13_findDepths_35 F_X13_627 qf_950_44 ?_
  rw [h_I_950_44]
  refine mj_icmp_ge 78 dX13_findDepths_38 (by decide) (fun _ => ?_) (fun z => absurd (by decide) z)
  refine mj_iinc (k := 1) (v := 59) (lv2 := [(1, .int 59), (2, .int 0), (0, .ref 950)]) dX13_findDepths_78 rfl (by decide) (by decide) rfl ?_
  refine mj_goto 25 dX13_findDepths_81 (by decide) ?_
  refine mj_iload_n dX13_findDepths_25 0 rfl ?_
  refine mj_bipush (v := 64) dX13_findDepths_26 (by decide) ?_
  refine mj_icmp_ge 84 dX13_findDepths_28 (by decide) (fun z => absurd z (by decide)) (fun _ => ?_)
  refine mj_iconst (v := 0) dX13_findDepths_31 (by decide) ?_
  refine mj_istore_n 2 (lv2 := [(2, .int 0), (1, .int 59), (0, .ref 950)]) dX13_findDepths_32 rfl (by decide) rfl ?_
  refine mj_iload_n dX13_findDepths_33 0 rfl ?_
  refine mj_aload_n dX13_findDepths_34 2 rfl ?_
  refine t_getI dX13_findDepths_35 F_X13_627 qf_950_44 ?_
  rw [h_I_950_44]
  refine mj_icmp_ge 78 dX13_findDepths_38 (by decide) (fun _ => ?_) (fun z => absurd (by decide) z)
  refine mj_iinc (k := 1) (v := 60) (lv2 := [(1, .int 60), (2, .int 0), (0, .ref 950)]) dX13_findDepths_78 rfl (by decide) (by decide) rfl ?_
  refine mj_goto 25 dX13_findDepths_81 (by decide) ?_
  refine mj_iload_n dX13_findDepths_25 0 rfl ?_
  refine mj_bipush (v := 64) dX13_findDepths_26 (by decide) ?_
  refine mj_icmp_ge 84 dX13_findDepths_28 (by decide) (fun z => absurd z (by decide)) (fun _ => ?_)
  refine mj_iconst (v := 0) dX13_findDepths_31 (by decide) ?_
  refine mj_istore_n 2 (lv2 := [(2, .int 0), (1, .int 60), (0, .ref 950)]) dX13_findDepths_32 rfl (by decide) rfl ?_
  refine mj_iload_n dX13_findDepths_33 0 rfl ?_
  refine mj_aload_n dX13_findDepths_34 2 rfl ?_
  refine t_getI dX13_findDepths_35 F_X13_627 qf_950_44 ?_
  rw [h_I_950_44]
  refine mj_icmp_ge 78 dX13_findDepths_38 (by decide) (fun _ => ?_) (fun z => absurd (by decide) z)
  refine mj_iinc (k := 1) (v := 61) (lv2 := [(1, .int 61), (2, .int 0), (0, .ref 950)]) dX13_findDepths_78 rfl (by decide) (by decide) rfl ?_
  refine mj_goto 25 dX13_findDepths_81 (by decide) ?_
  refine mj_iload_n dX13_findDepths_25 0 rfl ?_
  refine mj_bipush (v := 64) dX13_findDepths_26 (by decide) ?_
  refine mj_icmp_ge 84 dX13_findDepths_28 (by decide) (fun z => absurd z (by decide)) (fun _ => ?_)
  refine mj_iconst (v := 0) dX13_findDepths_31 (by decide) ?_
  refine mj_istore_n 2 (lv2 := [(2, .int 0), (1, .int 61), (0, .ref 950)]) dX13_findDepths_32 rfl (by decide) rfl ?_
  refine mj_iload_n dX13_findDepths_33 0 rfl ?_
  refine mj_aload_n dX13_findDepths_34 2 rfl ?_
  refine t_getI dX13_findDepths_35 F_X13_627 qf_950_44 ?_
  rw [h_I_950_44]
  refine mj_icmp_ge 78 dX13_findDepths_38 (by decide) (fun _ => ?_) (fun z => absurd (by decide) z)
  refine mj_iinc (k := 1) (v := 62) (lv2 := [(1, .int 62), (2, .int 0), (0, .ref 950)]) dX13_findDepths_78 rfl (by decide) (by decide) rfl ?_
  refine mj_goto 25 dX13_findDepths_81 (by decide) ?_
  refine mj_iload_n dX13_findDepths_25 0 rfl ?_
  refine mj_bipush (v := 64) dX13_findDepths_26 (by decide) ?_
  refine mj_icmp_ge 84 dX13_findDepths_28 (by decide) (fun z => absurd z (by decide)) (fun _ => ?_)
  refine mj_iconst (v := 0) dX13_findDepths_31 (by decide) ?_
  refine mj_istore_n 2 (lv2 := [(2, .int 0), (1, .int 62), (0, .ref 950)]) dX13_findDepths_32 rfl (by decide) rfl ?_
  refine mj_iload_n dX13_findDepths_33 0 rfl ?_
  refine mj_aload_n dX13_findDepths_34 2 rfl ?_
  refine t_getI dX13_findDepths_35 F_X13_627 qf_950_44 ?_
  rw [h_I_950_44]
  refine mj_icmp_ge 78 dX13_findDepths_38 (by decide) (fun _ => ?_) (fun z => absurd (by decide) z)
  refine mj_iinc (k := 1) (v := 63) (lv2 := [(1, .int 63), (2, .int 0), (0, .ref 950)]) dX13_findDepths_78 rfl (by decide) (by decide) rfl ?_
  refine mj_goto 25 dX13_findDepths_81 (by decide) ?_
  refine mj_iload_n dX13_findDepths_25 0 rfl ?_
  refine mj_bipush (v := 64) dX13_findDepths_26 (by decide) ?_
  refine mj_icmp_ge 84 dX13_findDepths_28 (by decide) (fun z => absurd z (by decide)) (fun _ => ?_)
  refine mj_iconst (v := 0) dX13_findDepths_31 (by decide) ?_
  refine mj_istore_n 2 (lv2 := [(2, .int 0), (1, .int 63), (0, .ref 950)]) dX13_findDepths_32 rfl (by decide) rfl ?_
  refine mj_iload_n dX13_findDepths_33 0 rfl ?_
  refine mj_aload_n dX13_findDepths_34 2 rfl ?_
  refine t_getI dX13_findDepths_35 F_X13_627 qf_950_44 ?_
  rw [h_I_950_44]
  refine mj_icmp_ge 78 dX13_findDepths_38 (by decide) (fun _ => ?_) (fun z => absurd (by decide) z)
  refine mj_iinc (k := 1) (v := 64) (lv2 := [(1, .int 64), (2, .int 0), (0, .ref 950)]) dX13_findDepths_78 rfl (by decide) (by decide) rfl ?_
  refine mj_goto 25 dX13_findDepths_81 (by decide) ?_
  refine mj_iload_n dX13_findDepths_25 0 rfl ?_
  refine mj_bipush (v := 64) dX13_findDepths_26 (by decide) ?_
  refine mj_icmp_ge 84 dX13_findDepths_28 (by decide) (fun _ => ?_) (fun z => absurd (by decide) z)
  exact t_vret dX13_findDepths_84 rfl (hpost _ _ ⟨rfl, rfl⟩) (Nat.le_of_ble_eq_true rfl) (Nat.le_of_ble_eq_true rfl)

theorem dX13_checkAll_0 : decode cX13_checkAll 0 = .ok (.aload_n 0, 1) := by decide +kernel
theorem dX13_checkAll_1 : decode cX13_checkAll 1 = .ok (.iconst 0, 1) := by decide +kernel
theorem dX13_checkAll_10 : decode cX13_checkAll 10 = .ok (.putfield 785, 3) := by decide +kernel
theorem dX13_checkAll_102 : decode cX13_checkAll 102 = .ok (.if_icmp .ge 77, 3) := by decide +kernel
theorem dX13_checkAll_13 : decode cX13_checkAll 13 = .ok (.iconst 0, 1) := by decide +kernel
theorem dX13_checkAll_14 : decode cX13_checkAll 14 = .ok (.istore_n 1, 1) := by decide +kernel
theorem dX13_checkAll_15 : decode cX13_checkAll 15 = .ok (.iload_n 1, 1) := by decide +kernel
theorem dX13_checkAll_16 : decode cX13_checkAll 16 = .ok (.aload_n 0, 1) := by decide +kernel
theorem dX13_checkAll_17 : decode cX13_checkAll 17 = .ok (.getfield 474, 3) := by decide +kernel
theorem dX13_checkAll_179 : decode cX13_checkAll 179 = .ok (.iconst 0, 1) := by decide +kernel
theorem dX13_checkAll_180 : decode cX13_checkAll 180 = .ok (.istore_n 1, 1) := by decide +kernel
theorem dX13_checkAll_181 : decode cX13_checkAll 181 = .ok (.iload_n 1, 1) := by decide +kernel
theorem dX13_checkAll_182 : decode cX13_checkAll 182 = .ok (.aload_n 0, 1) := by decide +kernel
theorem dX13_checkAll_183 : decode cX13_checkAll 183 = .ok (.getfield 633, 3) := by decide +kernel
theorem dX13_checkAll_186 : decode cX13_checkAll 186 = .ok (.if_icmp .ge 42, 3) := by decide +kernel
theorem dX13_checkAll_2 : decode cX13_checkAll 2 = .ok (.putfield 779, 3) := by decide +kernel
theorem dX13_checkAll_20 : decode cX13_checkAll 20 = .ok (.if_icmp .ge 16, 3) := by decide +kernel
theorem dX13_checkAll_228 : decode cX13_checkAll 228 = .ok (.iconst 0, 1) := by decide +kernel
theorem dX13_checkAll_229 : decode cX13_checkAll 229 = .ok (.istore_n 1, 1) := by decide +kernel
theorem dX13_checkAll_230 : decode cX13_checkAll 230 = .ok (.iload_n 1, 1) := by decide +kernel
theorem dX13_checkAll_231 : decode cX13_checkAll 231 = .ok (.aload_n 0, 1) := by decide +kernel
theorem dX13_checkAll_232 : decode cX13_checkAll 232 = .ok (.getfield 639, 3) := by decide +kernel
theorem dX13_checkAll_235 : decode cX13_checkAll 235 = .ok (.if_icmp .ge 14, 3) := by decide +kernel
theorem dX13_checkAll_249 : decode cX13_checkAll 249 = .ok (.iconst 0, 1) := by decide +kernel
theorem dX13_checkAll_250 : decode cX13_checkAll 250 = .ok (.istore_n 1, 1) := by decide +kernel
theorem dX13_checkAll_251 : decode cX13_checkAll 251 = .ok (.iload_n 1, 1) := by decide +kernel
theorem dX13_checkAll_252 : decode cX13_checkAll 252 = .ok (.aload_n 0, 1) := by decide +kernel
theorem dX13_checkAll_253 : decode cX13_checkAll 253 = .ok (.getfield 624, 3) := by decide +kernel
theorem dX13_checkAll_256 : decode cX13_checkAll 256 = .ok (.if_icmp .ge 29, 3) := by decide +kernel
theorem dX13_checkAll_285 : decode cX13_checkAll 285 = .ok (.aload_n 0, 1) := by decide +kernel
theorem dX13_checkAll_286 : decode cX13_checkAll 286 = .ok (.invokevirtual 818, 3) := by decide +kernel
theorem dX13_checkAll_289 : decode cX13_checkAll 289 = .ok (.iconst 0, 1) := by decide +kernel
theorem dX13_checkAll_290 : decode cX13_checkAll 290 = .ok (.istore_n 1, 1) := by decide +kernel
theorem dX13_checkAll_291 : decode cX13_checkAll 291 = .ok (.iload_n 1, 1) := by decide +kernel
theorem dX13_checkAll_292 : decode cX13_checkAll 292 = .ok (.aload_n 0, 1) := by decide +kernel
theorem dX13_checkAll_293 : decode cX13_checkAll 293 = .ok (.getfield 627, 3) := by decide +kernel
theorem dX13_checkAll_296 : decode cX13_checkAll 296 = .ok (.if_icmp .ge 32, 3) := by decide +kernel
theorem dX13_checkAll_328 : decode cX13_checkAll 328 = .ok (.aload_n 0, 1) := by decide +kernel
theorem dX13_checkAll_329 : decode cX13_checkAll 329 = .ok (.getfield 779, 3) := by decide +kernel
theorem dX13_checkAll_332 : decode cX13_checkAll 332 = .ok (.ifCond .eq 15, 3) := by decide +kernel
theorem dX13_checkAll_347 : decode cX13_checkAll 347 = .ok (.return_, 1) := by decide +kernel
theorem dX13_checkAll_36 : decode cX13_checkAll 36 = .ok (.iconst 0, 1) := by decide +kernel
theorem dX13_checkAll_37 : decode cX13_checkAll 37 = .ok (.istore_n 1, 1) := by decide +kernel
theorem dX13_checkAll_38 : decode cX13_checkAll 38 = .ok (.iload_n 1, 1) := by decide +kernel
theorem dX13_checkAll_39 : decode cX13_checkAll 39 = .ok (.aload_n 0, 1) := by decide +kernel
theorem dX13_checkAll_40 : decode cX13_checkAll 40 = .ok (.getfield 639, 3) := by decide +kernel
theorem dX13_checkAll_43 : decode cX13_checkAll 43 = .ok (.if_icmp .ge 31, 3) := by decide +kernel
theorem dX13_checkAll_5 : decode cX13_checkAll 5 = .ok (.aload_n 0, 1) := by decide +kernel
theorem dX13_checkAll_6 : decode cX13_checkAll 6 = .ok (.aload_n 0, 1) := by decide +kernel
theorem dX13_checkAll_7 : decode cX13_checkAll 7 = .ok (.getfield 474, 3) := by decide +kernel
theorem dX13_checkAll_74 : decode cX13_checkAll 74 = .ok (.iconst 0, 1) := by decide +kernel
theorem dX13_checkAll_75 : decode cX13_checkAll 75 = .ok (.istore_n 1, 1) := by decide +kernel
theorem dX13_checkAll_76 : decode cX13_checkAll 76 = .ok (.iload_n 1, 1) := by decide +kernel
theorem dX13_checkAll_77 : decode cX13_checkAll 77 = .ok (.aload_n 0, 1) := by decide +kernel
theorem dX13_checkAll_78 : decode cX13_checkAll 78 = .ok (.getfield 474, 3) := by decide +kernel
theorem dX13_checkAll_81 : decode cX13_checkAll 81 = .ok (.if_icmp .ge 14, 3) := by decide +kernel
theorem dX13_checkAll_95 : decode cX13_checkAll 95 = .ok (.iconst 0, 1) := by decide +kernel
theorem dX13_checkAll_96 : decode cX13_checkAll 96 = .ok (.istore_n 1, 1) := by decide +kernel
theorem dX13_checkAll_97 : decode cX13_checkAll 97 = .ok (.iload_n 1, 1) := by decide +kernel
theorem dX13_checkAll_98 : decode cX13_checkAll 98 = .ok (.aload_n 0, 1) := by decide +kernel
theorem dX13_checkAll_99 : decode cX13_checkAll 99 = .ok (.getfield 630, 3) := by decide +kernel
set_option maxRecDepth 4000 in
set_option maxHeartbeats 400000 in
theorem N_X13_checkAll (s : t_S) (h_I_950_24 : s.1 950 24 = 0) (h_I_950_40 : s.1 950 40 = 0) (h_I_950_44 : s.1 950 44 = 0) (h_I_950_55 : s.1 950 55 = 0) (h_I_950_64 : s.1 950 64 = 0) (h_I_950_81 : s.1 950 81 = 0) : t_C yX13_checkAll cX13_checkAll 3 none 1 [.ref 950] s (fun v s' => v = none ∧ (s'.1 950 1 = s.1 950 1) ∧ (s'.1 950 10 = s.1 950 10) ∧ (s'.1 950 100 = s.1 950 100) ∧ (s'.1 950 101 = s.1 950 101) ∧ (s'.1 950 103 = s.1 950 103) ∧ (s'.1 950 106 = s.1 950 106) ∧ (s'.1 950 108 = s.1 950 108) ∧ (s'.1 950 114 = s.1 950 114) ∧ (s'.1 950 117 = s.1 950 117) ∧ (s'.1 950 119 = s.1 950 119) ∧ (s'.1 950 121 = s.1 950 121) ∧ (s'.1 950 125 = s.1 950 125) ∧ (s'.1 950 126 = s.1 950 126) ∧ (s'.1 950 127 = s.1 950 127) ∧ (s'.1 950 129 = s.1 950 129) ∧ (s'.1 950 133 = s.1 950 133) ∧ (s'.1 950 135 = s.1 950 135) ∧ (s'.1 950 137 = s.1 950 137) ∧ (s'.1 950 138 = s.1 950 138) ∧ (s'.1 950 14 = s.1 950 14) ∧ (s'.1 950 141 = s.1 950 141) ∧ (s'.1 950 146 = s.1 950 146) ∧ (s'.1 950 147 = s.1 950 147) ∧ (s'.1 950 149 = s.1 950 149) ∧ (s'.1 950 15 = s.1 950 15) ∧ (s'.1 950 16 = s.1 950 16) ∧ (s'.1 950 174 = s.1 950 174) ∧ (s'.1 950 176 = s.1 950 176) ∧ (s'.1 950 178 = s.1 950 178) ∧ (s'.1 950 179 = s.1 950 179) ∧ (s'.1 950 180 = s.1 950 180) ∧ (s'.1 950 183 = s.1 950 183) ∧ (s'.1 950 184 = s.1 950 184) ∧ (s'.1 950 185 = s.1 950 185) ∧ (s'.1 950 2 = s.1 950 2) ∧ (s'.1 950 24 = s.1 950 24) ∧ (s'.1 950 26 = s.1 950 26) ∧ (s'.1 950 27 = s.1 950 27) ∧ (s'.1 950 28 = s.1 950 28) ∧ (s'.1 950 29 = s.1 950 29) ∧ (s'.1 950 3 = s.1 950 3) ∧ (s'.1 950 30 = s.1 950 30) ∧ (s'.1 950 31 = s.1 950 31) ∧ (s'.1 950 32 = s.1 950 32) ∧ (s'.1 950 33 = s.1 950 33) ∧ (s'.1 950 34 = s.1 950 34) ∧ (s'.1 950 36 = s.1 950 36) ∧ (s'.1 950 4 = s.1 950 4) ∧ (s'.1 950 40 = s.1 950 40) ∧ (s'.1 950 44 = s.1 950 44) ∧ (s'.1 950 5 = s.1 950 5) ∧ (s'.1 950 55 = s.1 950 55) ∧ (s'.1 950 6 = s.1 950 6) ∧ (s'.1 950 64 = s.1 950 64) ∧ (s'.1 950 65 = s.1 950 65) ∧ (s'.1 950 7 = s.1 950 7) ∧ (s'.1 950 81 = s.1 950 81) ∧ (s'.1 950 82 = s.1 950 82) ∧ (s'.1 950 83 = s.1 950 83) ∧ (s'.1 950 84 = s.1 950 84) ∧ (s'.1 950 86 = s.1 950 86) ∧ (s'.1 950 87 = s.1 950 87) ∧ (s'.1 950 88 = 0) ∧ (s'.1 950 89 = s.1 950 89) ∧ (s'.1 950 9 = s.1 950 9) ∧ (s'.1 950 90 = 0) ∧ (s'.1 950 93 = s.1 950 93) ∧ (s'.1 950 94 = s.1 950 94) ∧ (s'.1 950 96 = s.1 950 96) ∧ (s'.1 950 97 = s.1 950 97) ∧ (s'.1 950 98 = s.1 950 98) ∧ (s'.2.1 950 128 = s.2.1 950 128) ∧ (s'.2.1 950 148 = s.2.1 950 148) ∧ (s'.2.1 950 171 = s.2.1 950 171) ∧ (s'.2.1 950 172 = s.2.1 950 172) ∧ (s'.2.1 950 8 = s.2.1 950 8) ∧ t_keep [950] s s') := by
  refine t_C.of (by decide +kernel) (Nat.le_of_ble_eq_true rfl) ?_
  intro D cy ad bs X
  suffices main : ∀ post : Option Value → t_S → Prop, (∀ v s', (v = none ∧ (s'.1 950 1 = s.1 950 1) ∧ (s'.1 950 10 = s.1 950 10) ∧ (s'.1 950 100 = s.1 950 100) ∧ (s'.1 950 101 = s.1 950 101) ∧ (s'.1 950 103 = s.1 950 103) ∧ (s'.1 950 106 = s.1 950 106) ∧ (s'.1 950 108 = s.1 950 108) ∧ (s'.1 950 114 = s.1 950 114) ∧ (s'.1 950 117 = s.1 950 117) ∧ (s'.1 950 119 = s.1 950 119) ∧ (s'.1 950 121 = s.1 950 121) ∧ (s'.1 950 125 = s.1 950 125) ∧ (s'.1 950 126 = s.1 950 126) ∧ (s'.1 950 127 = s.1 950 127) ∧ (s'.1 950 129 = s.1 950 129) ∧ (s'.1 950 133 = s.1 950 133) ∧ (s'.1 950 135 = s.1 950 135) ∧ (s'.1 950 137 = s.1 950 137) ∧ (s'.1 950 138 = s.1 950 138) ∧ (s'.1 950 14 = s.1 950 14) ∧ (s'.1 950 141 = s.1 950 141) ∧ (s'.1 950 146 = s.1 950 146) ∧ (s'.1 950 147 = s.1 950 147) ∧ (s'.1 950 149 = s.1 950 149) ∧ (s'.1 950 15 = s.1 950 15) ∧ (s'.1 950 16 = s.1 950 16) ∧ (s'.1 950 174 = s.1 950 174) ∧ (s'.1 950 176 = s.1 950 176) ∧ (s'.1 950 178 = s.1 950 178) ∧ (s'.1 950 179 = s.1 950 179) ∧ (s'.1 950 180 = s.1 950 180) ∧ (s'.1 950 183 = s.1 950 183) ∧ (s'.1 950 184 = s.1 950 184) ∧ (s'.1 950 185 = s.1 950 185) ∧ (s'.1 950 2 = s.1 950 2) ∧ (s'.1 950 24 = s.1 950 24) ∧ (s'.1 950 26 = s.1 950 26) ∧ (s'.1 950 27 = s.1 950 27) ∧ (s'.1 950 28 = s.1 950 28) ∧ (s'.1 950 29 = s.1 950 29) ∧ (s'.1 950 3 = s.1 950 3) ∧ (s'.1 950 30 = s.1 950 30) ∧ (s'.1 950 31 = s.1 950 31) ∧ (s'.1 950 32 = s.1 950 32) ∧ (s'.1 950 33 = s.1 950 33) ∧ (s'.1 950 34 = s.1 950 34) ∧ (s'.1 950 36 = s.1 950 36) ∧ (s'.1 950 4 = s.1 950 4) ∧ (s'.1 950 40 = s.1 950 40) ∧ (s'.1 950 44 = s.1 950 44) ∧ (s'.1 950 5 = s.1 950 5) ∧ (s'.1 950 55 = s.1 950 55) ∧ (s'.1 950 6 = s.1 950 6) ∧ (s'.1 950 64 = s.1 950 64) ∧ (s'.1 950 65 = s.1 950 65) ∧ (s'.1 950 7 = s.1 950 7) ∧ (s'.1 950 81 = s.1 950 81) ∧ (s'.1 950 82 = s.1 950 82) ∧ (s'.1 950 83 = s.1 950 83) ∧ (s'.1 950 84 = s.1 950 84) ∧ (s'.1 950 86 = s.1 950 86) ∧ (s'.1 950 87 = s.1 950 87) ∧ (s'.1 950 88 = 0) ∧ (s'.1 950 89 = s.1 950 89) ∧ (s'.1 950 9 = s.1 950 9) ∧ (s'.1 950 90 = 0) ∧ (s'.1 950 93 = s.1 950 93) ∧ (s'.1 950 94 = s.1 950 94) ∧ (s'.1 950 96 = s.1 950 96) ∧ (s'.1 950 97 = s.1 950 97) ∧ (s'.1 950 98 = s.1 950 98) ∧ (s'.2.1 950 128 = s.2.1 950 128) ∧ (s'.2.1 950 148 = s.2.1 950 148) ∧ (s'.2.1 950 171 = s.2.1 950 171) ∧ (s'.2.1 950 172 = s.2.1 950 172) ∧ (s'.2.1 950 8 = s.2.1 950 8) ∧ t_keep [950] s s') → post v s') → mj_G D cy ad bs X cX13_checkAll 3 yX13_checkAll.cls none yX13_checkAll.name 1 0 0 1065 (t_P post) 0 [(0, .ref 950)] [] (t_m s) 1065 0 0 from main _ (fun _ _ h => h)
  intro post hpost
  refine mj_aload_n dX13_checkAll_0 0 rfl ?_
  refine mj_iconst (v := 0) dX13_checkAll_1 (by decide) ?_
  refine t_putI dX13_checkAll_2 F_X13_779 qf_950_88 (by decide) ?_
  obtain ⟨s1, w2⟩ : ∃ z, z = t_setI s 950 88 0 := ⟨_, rfl⟩
  rw [← w2]
  refine mj_aload_n dX13_checkAll_5 0 rfl ?_
  refine mj_aload_n dX13_checkAll_6 0 rfl ?_
  refine t_getI dX13_checkAll_7 F_X13_474 qf_950_24 ?_
  rw [((t_oI w2 950 24 rfl).trans h_I_950_24)]
  refine t_putI dX13_checkAll_10 F_X13_785 qf_950_90 (by decide) ?_
  obtain ⟨s3, w4⟩ : ∃ z, z = t_setI s1 950 90 0 := ⟨_, rfl⟩
  rw [← w4]
  refine mj_iconst (v := 0) dX13_checkAll_13 (by decide) ?_
  refine mj_istore_n 1 (lv2 := [(1, .int 0), (0, .ref 950)]) dX13_checkAll_14 rfl (by decide) rfl ?_
  refine mj_iload_n dX13_checkAll_15 0 rfl ?_
  refine mj_aload_n dX13_checkAll_16 1 rfl ?_
  refine t_getI dX13_checkAll_17 F_X13_474 qf_950_24 ?_
  rw [((t_oI w4 950 24 rfl).trans ((t_oI w2 950 24 rfl).trans h_I_950_24))]
  refine mj_icmp_ge 36 dX13_checkAll_20 (by decide) (fun _ => ?_) (fun z => absurd (by decide) z)
  refine mj_iconst (v := 0) dX13_checkAll_36 (by decide) ?_
  refine mj_istore_n 1 (lv2 := [(1, .int 0), (0, .ref 950)]) dX13_checkAll_37 rfl (by decide) rfl ?_
  refine mj_iload_n dX13_checkAll_38 0 rfl ?_
  refine mj_aload_n dX13_checkAll_39 1 rfl ?_
  refine t_getI dX13_checkAll_40 F_X13_639 qf_950_81 ?_
  rw [((t_oI w4 950 81 rfl).trans ((t_oI w2 950 81 rfl).trans h_I_950_81))]
  refine mj_icmp_ge 74 dX13_checkAll_43 (by decide) (fun _ => ?_) (fun z => absurd (by decide) z)
  refine mj_iconst (v := 0) dX13_checkAll_74 (by decide) ?_
  refine mj_istore_n 1 (lv2 := [(1, .int 0), (0, .ref 950)]) dX13_checkAll_75 rfl (by decide) rfl ?_
  refine mj_iload_n dX13_checkAll_76 0 rfl ?_
  refine mj_aload_n dX13_checkAll_77 1 rfl ?_
  refine t_getI dX13_checkAll_78 F_X13_474 qf_950_24 ?_
  rw [((t_oI w4 950 24 rfl).trans ((t_oI w2 950 24 rfl).trans h_I_950_24))]
  refine mj_icmp_ge 95 dX13_checkAll_81 (by decide) (fun _ => ?_) (fun z => absurd (by decide) z)
  refine mj_iconst (v := 0) dX13_checkAll_95 (by decide) ?_
  refine mj_istore_n 1 (lv2 := [(1, .int 0), (0, .ref 950)]) dX13_checkAll_96 rfl (by decide) rfl ?_
  refine mj_iload_n dX13_checkAll_97 0 rfl ?_
  refine mj_aload_n dX13_checkAll_98 1 rfl ?_
  refine t_getI dX13_checkAll_99 F_X13_630 qf_950_55 ?_
  rw [((t_oI w4 950 55 rfl).trans ((t_oI w2 950 55 rfl).trans h_I_950_55))]
  refine mj_icmp_ge 179 dX13_checkAll_102 (by decide) (fun _ => ?_) (fun z => absurd (by decide) z)
  refine mj_iconst (v := 0) dX13_checkAll_179 (by decide) ?_
  refine mj_istore_n 1 (lv2 := [(1, .int 0), (0, .ref 950)]) dX13_checkAll_180 rfl (by decide) rfl ?_
  refine mj_iload_n dX13_checkAll_181 0 rfl ?_
  refine mj_aload_n dX13_checkAll_182 1 rfl ?_
  refine t_getI dX13_checkAll_183 F_X13_633 qf_950_64 ?_
  rw [((t_oI w4 950 64 rfl).trans ((t_oI w2 950 64 rfl).trans h_I_950_64))]
  refine mj_icmp_ge 228 dX13_checkAll_186 (by decide) (fun _ => ?_) (fun z => absurd (by decide) z)
  refine mj_iconst (v := 0) dX13_checkAll_228 (by decide) ?_
  refine mj_istore_n 1 (lv2 := [(1, .int 0), (0, .ref 950)]) dX13_checkAll_229 rfl (by decide) rfl ?_
  refine mj_iload_n dX13_checkAll_230 0 rfl ?_
  refine mj_aload_n dX13_checkAll_231 1 rfl ?_
  refine t_getI dX13_checkAll_232 F_X13_639 qf_950_81 ?_
  rw [((t_oI w4 950 81 rfl).trans ((t_oI w2 950 81 rfl).trans h_I_950_81))]
  refine mj_icmp_ge 249 dX13_checkAll_235 (by decide) (fun _ => ?_) (fun z => absurd (by decide) z)
  refine mj_iconst (v := 0) dX13_checkAll_249 (by decide) ?_
  refine mj_istore_n 1 (lv2 := [(1, .int 0), (0, .ref 950)]) dX13_checkAll_250 rfl (by decide) rfl ?_
  refine mj_iload_n dX13_checkAll_251 0 rfl ?_
  refine mj_aload_n dX13_checkAll_252 1 rfl ?_
  refine t_getI dX13_checkAll_253 F_X13_624 qf_950_40 ?_
  rw [((t_oI w4 950 40 rfl).trans ((t_oI w2 950 40 rfl).trans h_I_950_40))]
  refine mj_icmp_ge 285 dX13_checkAll_256 (by decide) (fun _ => ?_) (fun z => absurd (by decide) z)
  refine mj_aload_n dX13_checkAll_285 1 rfl ?_
  refine t_callV dX13_checkAll_286 M_X13_findDepths (N_X13_findDepths s3 ((t_oI w4 950 44 rfl).trans ((t_oI w2 950 44 rfl).trans h_I_950_44))) ML_X13_818 IM_X13_findDepths SE_X13_findDepths qc_950 rfl (As := []) rfl rfl (Nat.le_of_ble_eq_true rfl) (Nat.le_of_ble_eq_true rfl) (Nat.le_of_ble_eq_true rfl) (Nat.le_of_ble_eq_true rfl) (fun v s5 hp => ?_)
  obtain ⟨rfl, hq⟩ := hp
  rw [hq]
  clear hq s5
  refine mj_iconst (v := 0) dX13_checkAll_289 (by decide) ?_
  refine mj_istore_n 1 (lv2 := [(1, .int 0), (0, .ref 950)]) dX13_checkAll_290 rfl (by decide) rfl ?_
  refine mj_iload_n dX13_checkAll_291 0 rfl ?_
  refine mj_aload_n dX13_checkAll_292 1 rfl ?_
  refine t_getI dX13_checkAll_293 F_X13_627 qf_950_44 ?_
  rw [((t_oI w4 950 44 rfl).trans ((t_oI w2 950 44 rfl).trans h_I_950_44))]
  refine mj_icmp_ge 328 dX13_checkAll_296 (by decide) (fun _ => ?_) (fun z => absurd (by decide) z)
  refine mj_aload_n dX13_checkAll_328 1 rfl ?_
  refine t_getI dX13_checkAll_329 F_X13_779 qf_950_88 ?_
  rw [((t_oI w4 950 88 rfl).trans (t_wI w2))]
  refine mj_if_eq 347 dX13_checkAll_332 (by decide) (fun _ => ?_) (fun z => absurd (by decide) z)
  exact t_vret dX13_checkAll_347 rfl (hpost _ _ ⟨rfl, ((t_oI w4 950 1 rfl).trans ((t_oI w2 950 1 rfl).trans rfl)), ((t_oI w4 950 10 rfl).trans ((t_oI w2 950 10 rfl).trans rfl)), ((t_oI w4 950 100 rfl).trans ((t_oI w2 950 100 rfl).trans rfl)), ((t_oI w4 950 101 rfl).trans ((t_oI w2 950 101 rfl).trans rfl)), ((t_oI w4 950 103 rfl).trans ((t_oI w2 950 103 rfl).trans rfl)), ((t_oI w4 950 106 rfl).trans ((t_oI w2 950 106 rfl).trans rfl)), ((t_oI w4 950 108 rfl).trans ((t_oI w2 950 108 rfl).trans rfl)), ((t_oI w4 950 114 rfl).trans ((t_oI w2 950 114 rfl).trans rfl)), ((t_oI w4 950 117 rfl).trans ((t_oI w2 950 117 rfl).trans rfl)), ((t_oI w4 950 119 rfl).trans ((t_oI w2 950 119 rfl).trans rfl)), ((t_oI w4 950 121 rfl).trans ((t_oI w2 950 121 rfl).trans rfl)), ((t_oI w4 950 125 rfl).trans ((t_oI w2 950 125 rfl).trans rfl)), ((t_oI w4 950 126 rfl).trans ((t_oI w2 950 126 rfl).trans rfl)), ((t_oI w4 950 127 rfl).trans ((t_oI w2 950 127 rfl).trans rfl)), ((t_oI w4 950 129 rfl).trans ((t_oI w2 950 129 rfl).trans rfl)), ((t_oI w4 950 133 rfl).trans ((t_oI w2 950 133 rfl).trans rfl)), ((t_oI w4 950 135 rfl).trans ((t_oI w2 950 135 rfl).trans rfl)), ((t_oI w4 950 137 rfl).trans ((t_oI w2 950 137 rfl).trans rfl)), ((t_oI w4 950 138 rfl).trans ((t_oI w2 950 138 rfl).trans rfl)), ((t_oI w4 950 14 rfl).trans ((t_oI w2 950 14 rfl).trans rfl)), ((t_oI w4 950 141 rfl).trans ((t_oI w2 950 141 rfl).trans rfl)), ((t_oI w4 950 146 rfl).trans ((t_oI w2 950 146 rfl).trans rfl)), ((t_oI w4 950 147 rfl).trans ((t_oI w2 950 147 rfl).trans rfl)), ((t_oI w4 950 149 rfl).trans ((t_oI w2 950 149 rfl).trans rfl)), ((t_oI w4 950 15 rfl).trans ((t_oI w2 950 15 rfl).trans rfl)), ((t_oI w4 950 16 rfl).trans ((t_oI w2 950 16 rfl).trans rfl)), ((t_oI w4 950 174 rfl).trans ((t_oI w2 950 174 rfl).trans rfl)), ((t_oI w4 950 176 rfl).trans ((t_oI w2 950 176 rfl).trans rfl)), ((t_oI w4 950 178 rfl).trans ((t_oI w2 950 178 rfl).trans rfl)), ((t_oI w4 950 179 rfl).trans ((t_oI w2 950 179 rfl).trans rfl)), ((t_oI w4 950 180 rfl).trans ((t_oI w2 950 180 rfl).trans rfl)), ((t_oI w4 950 183 rfl).trans ((t_oI w2 950 183 rfl).trans rfl)), ((t_oI w4 950 184 rfl).trans ((t_oI w2 950 184 rfl).trans rfl)), ((t_oI w4 950 185 rfl).trans ((t_oI w2 950 185 rfl).trans rfl)), ((t_oI w4 950 2 rfl).trans ((t_oI w2 950 2 rfl).trans rfl)), ((t_oI w4 950 24 rfl).trans ((t_oI w2 950 24 rfl).trans rfl)), ((t_oI w4 950 26 rfl).trans ((t_oI w2 950 26 rfl).trans rfl)), ((t_oI w4 950 27 rfl).trans ((t_oI w2 950 27 rfl).trans rfl)), ((t_oI w4 950 28 rfl).trans ((t_oI w2 950 28 rfl).trans rfl)), ((t_oI w4 950 29 rfl).trans ((t_oI w2 950 29 rfl).trans rfl)), ((t_oI w4 950 3 rfl).trans ((t_oI w2 950 3 rfl).trans rfl)), ((t_oI w4 950 30 rfl).trans ((t_oI w2 950 30 rfl).trans rfl)), ((t_oI w4 950 31 rfl).trans ((t_oI w2 950 31 rfl).trans rfl)), ((t_oI w4 950 32 rfl).trans ((t_oI w2 950 32 rfl).trans rfl)), ((t_oI w4 950 33 rfl).trans ((t_oI w2 950 33 rfl).trans rfl)), ((t_oI w4 950 34 rfl).trans ((t_oI w2 950 34 rfl).trans rfl)), ((t_oI w4 950 36 rfl).trans ((t_oI w2 950 36 rfl).trans rfl)), ((t_oI w4 950 4 rfl).trans ((t_oI w2 950 4 rfl).trans rfl)), ((t_oI w4 950 40 rfl).trans ((t_oI w2 950 40 rfl).trans rfl)), ((t_oI w4 950 44 rfl).trans ((t_oI w2 950 44 rfl).trans rfl)), ((t_oI w4 950 5 rfl).trans ((t_oI w2 950 5 rfl).trans rfl)), ((t_oI w4 950 55 rfl).trans ((t_oI w2 950 55 rfl).trans rfl)), ((t_oI w4 950 6 rfl).trans ((t_oI w2 950 6 rfl).trans rfl)), ((t_oI w4 950 64 rfl).trans ((t_oI w2 950 64 rfl).trans rfl)), ((t_oI w4 950 65 rfl).trans ((t_oI w2 950 65 rfl).trans rfl)), ((t_oI w4 950 7 rfl).trans ((t_oI w2 950 7 rfl).trans rfl)), ((t_oI w4 950 81 rfl).trans ((t_oI w2 950 81 rfl).trans rfl)), ((t_oI w4 950 82 rfl).trans ((t_oI w2 950 82 rfl).trans rfl)), ((t_oI w4 950 83 rfl).trans ((t_oI w2 950 83 rfl).trans rfl)), ((t_oI w4 950 84 rfl).trans ((t_oI w2 950 84 rfl).trans rfl)), ((t_oI w4 950 86 rfl).trans ((t_oI w2 950 86 rfl).trans rfl)), ((t_oI w4 950 87 rfl).trans ((t_oI w2 950 87 rfl).trans rfl)), ((t_oI w4 950 88 rfl).trans (t_wI w2)), ((t_oI w4 950 89 rfl).trans ((t_oI w2 950 89 rfl).trans rfl)), ((t_oI w4 950 9 rfl).trans ((t_oI w2 950 9 rfl).trans rfl)), (t_wI w4), ((t_oI w4 950 93 rfl).trans ((t_oI w2 950 93 rfl).trans rfl)), ((t_oI w4 950 94 rfl).trans ((t_oI w2 950 94 rfl).trans rfl)), ((t_oI w4 950 96 rfl).trans ((t_oI w2 950 96 rfl).trans rfl)), ((t_oI w4 950 97 rfl).trans ((t_oI w2 950 97 rfl).trans rfl)), ((t_oI w4 950 98 rfl).trans ((t_oI w2 950 98 rfl).trans rfl)), ((t_cIJ w4 950 128).trans ((t_cIJ w2 950 128).trans rfl)), ((t_cIJ w4 950 148).trans ((t_cIJ w2 950 148).trans rfl)), ((t_cIJ w4 950 171).trans ((t_cIJ w2 950 171).trans rfl)), ((t_cIJ w4 950 172).trans ((t_cIJ w2 950 172).trans rfl)), ((t_cIJ w4 950 8).trans ((t_cIJ w2 950 8).trans rfl)), ((t_keep_I w2 (by decide)).trans (t_keep_I w4 (by decide)))⟩) (Nat.le_of_ble_eq_true rfl) (Nat.le_of_ble_eq_true rfl)

theorem dX13_module_0 : decode cX13_module 0 = .ok (.aload_n 0, 1) := by decide +kernel
theorem dX13_module_1 : decode cX13_module 1 = .ok (.iconst 0, 1) := by decide +kernel
theorem dX13_module_10 : decode cX13_module 10 = .ok (.aload_n 0, 1) := by decide +kernel
theorem dX13_module_100 : decode cX13_module 100 = .ok (.aload_n 0, 1) := by decide +kernel
theorem dX13_module_101 : decode cX13_module 101 = .ok (.invokevirtual 452, 3) := by decide +kernel
theorem dX13_module_104 : decode cX13_module 104 = .ok (.aload_n 0, 1) := by decide +kernel
theorem dX13_module_105 : decode cX13_module 105 = .ok (.getfield 385, 3) := by decide +kernel
theorem dX13_module_108 : decode cX13_module 108 = .ok (.ifCond .eq 17, 3) := by decide +kernel
theorem dX13_module_11 : decode cX13_module 11 = .ok (.iconst 1, 1) := by decide +kernel
theorem dX13_module_12 : decode cX13_module 12 = .ok (.putfield 461, 3) := by decide +kernel
theorem dX13_module_125 : decode cX13_module 125 = .ok (.aload_n 0, 1) := by decide +kernel
theorem dX13_module_126 : decode cX13_module 126 = .ok (.getfield 375, 3) := by decide +kernel
theorem dX13_module_129 : decode cX13_module 129 = .ok (.ifCond .ne 7, 3) := by decide +kernel
theorem dX13_module_132 : decode cX13_module 132 = .ok (.aload_n 0, 1) := by decide +kernel
theorem dX13_module_133 : decode cX13_module 133 = .ok (.invokevirtual 661, 3) := by decide +kernel
theorem dX13_module_136 : decode cX13_module 136 = .ok (.aload_n 0, 1) := by decide +kernel
theorem dX13_module_137 : decode cX13_module 137 = .ok (.iconst 0, 1) := by decide +kernel
theorem dX13_module_138 : decode cX13_module 138 = .ok (.putfield 366, 3) := by decide +kernel
theorem dX13_module_141 : decode cX13_module 141 = .ok (.aload_n 0, 1) := by decide +kernel
theorem dX13_module_142 : decode cX13_module 142 = .ok (.aload_n 0, 1) := by decide +kernel
theorem dX13_module_143 : decode cX13_module 143 = .ok (.getfield 375, 3) := by decide +kernel
theorem dX13_module_146 : decode cX13_module 146 = .ok (.ifCond .ne 7, 3) := by decide +kernel
theorem dX13_module_149 : decode cX13_module 149 = .ok (.iconst 1, 1) := by decide +kernel
theorem dX13_module_15 : decode cX13_module 15 = .ok (.aload_n 0, 1) := by decide +kernel
theorem dX13_module_150 : decode cX13_module 150 = .ok (.goto 4, 3) := by decide +kernel
theorem dX13_module_154 : decode cX13_module 154 = .ok (.putfield 642, 3) := by decide +kernel
theorem dX13_module_157 : decode cX13_module 157 = .ok (.aload_n 0, 1) := by decide +kernel
theorem dX13_module_158 : decode cX13_module 158 = .ok (.aload_n 0, 1) := by decide +kernel
theorem dX13_module_159 : decode cX13_module 159 = .ok (.getfield 474, 3) := by decide +kernel
theorem dX13_module_16 : decode cX13_module 16 = .ok (.iconst 0, 1) := by decide +kernel
theorem dX13_module_162 : decode cX13_module 162 = .ok (.putfield 664, 3) := by decide +kernel
theorem dX13_module_165 : decode cX13_module 165 = .ok (.aload_n 0, 1) := by decide +kernel
theorem dX13_module_166 : decode cX13_module 166 = .ok (.aload_n 0, 1) := by decide +kernel
theorem dX13_module_167 : decode cX13_module 167 = .ok (.getfield 479, 3) := by decide +kernel
theorem dX13_module_17 : decode cX13_module 17 = .ok (.putfield 474, 3) := by decide +kernel
theorem dX13_module_170 : decode cX13_module 170 = .ok (.putfield 667, 3) := by decide +kernel
theorem dX13_module_173 : decode cX13_module 173 = .ok (.aload_n 0, 1) := by decide +kernel
theorem dX13_module_174 : decode cX13_module 174 = .ok (.aload_n 0, 1) := by decide +kernel
theorem dX13_module_175 : decode cX13_module 175 = .ok (.getfield 471, 3) := by decide +kernel
theorem dX13_module_178 : decode cX13_module 178 = .ok (.putfield 670, 3) := by decide +kernel
theorem dX13_module_181 : decode cX13_module 181 = .ok (.aload_n 0, 1) := by decide +kernel
theorem dX13_module_182 : decode cX13_module 182 = .ok (.aload_n 0, 1) := by decide +kernel
theorem dX13_module_183 : decode cX13_module 183 = .ok (.getfield 591, 3) := by decide +kernel
theorem dX13_module_186 : decode cX13_module 186 = .ok (.putfield 673, 3) := by decide +kernel
theorem dX13_module_189 : decode cX13_module 189 = .ok (.aload_n 0, 1) := by decide +kernel
theorem dX13_module_190 : decode cX13_module 190 = .ok (.aload_n 0, 1) := by decide +kernel
theorem dX13_module_191 : decode cX13_module 191 = .ok (.getfield 458, 3) := by decide +kernel
theorem dX13_module_194 : decode cX13_module 194 = .ok (.putfield 676, 3) := by decide +kernel
theorem dX13_module_197 : decode cX13_module 197 = .ok (.aload_n 0, 1) := by decide +kernel
theorem dX13_module_198 : decode cX13_module 198 = .ok (.aload_n 0, 1) := by decide +kernel
theorem dX13_module_199 : decode cX13_module 199 = .ok (.getfield 465, 3) := by decide +kernel
theorem dX13_module_2 : decode cX13_module 2 = .ok (.putfield 458, 3) := by decide +kernel
theorem dX13_module_20 : decode cX13_module 20 = .ok (.aload_n 0, 1) := by decide +kernel
theorem dX13_module_202 : decode cX13_module 202 = .ok (.putfield 679, 3) := by decide +kernel
theorem dX13_module_205 : decode cX13_module 205 = .ok (.aload_n 0, 1) := by decide +kernel
theorem dX13_module_206 : decode cX13_module 206 = .ok (.getfield 375, 3) := by decide +kernel
theorem dX13_module_209 : decode cX13_module 209 = .ok (.ireturn, 1) := by decide +kernel
theorem dX13_module_21 : decode cX13_module 21 = .ok (.iconst 0, 1) := by decide +kernel
theorem dX13_module_22 : decode cX13_module 22 = .ok (.putfield 479, 3) := by decide +kernel
theorem dX13_module_25 : decode cX13_module 25 = .ok (.aload_n 0, 1) := by decide +kernel
theorem dX13_module_26 : decode cX13_module 26 = .ok (.iconst 0, 1) := by decide +kernel
theorem dX13_module_27 : decode cX13_module 27 = .ok (.putfield 471, 3) := by decide +kernel
theorem dX13_module_30 : decode cX13_module 30 = .ok (.aload_n 0, 1) := by decide +kernel
theorem dX13_module_31 : decode cX13_module 31 = .ok (.iconst 0, 1) := by decide +kernel
theorem dX13_module_32 : decode cX13_module 32 = .ok (.putfield 591, 3) := by decide +kernel
theorem dX13_module_35 : decode cX13_module 35 = .ok (.aload_n 0, 1) := by decide +kernel
theorem dX13_module_36 : decode cX13_module 36 = .ok (.iconst 0, 1) := by decide +kernel
theorem dX13_module_37 : decode cX13_module 37 = .ok (.putfield 624, 3) := by decide +kernel
theorem dX13_module_40 : decode cX13_module 40 = .ok (.aload_n 0, 1) := by decide +kernel
theorem dX13_module_41 : decode cX13_module 41 = .ok (.iconst 0, 1) := by decide +kernel
theorem dX13_module_42 : decode cX13_module 42 = .ok (.putfield 627, 3) := by decide +kernel
theorem dX13_module_45 : decode cX13_module 45 = .ok (.aload_n 0, 1) := by decide +kernel
theorem dX13_module_46 : decode cX13_module 46 = .ok (.iconst 0, 1) := by decide +kernel
theorem dX13_module_47 : decode cX13_module 47 = .ok (.putfield 630, 3) := by decide +kernel
theorem dX13_module_5 : decode cX13_module 5 = .ok (.aload_n 0, 1) := by decide +kernel
theorem dX13_module_50 : decode cX13_module 50 = .ok (.aload_n 0, 1) := by decide +kernel
theorem dX13_module_51 : decode cX13_module 51 = .ok (.iconst 0, 1) := by decide +kernel
theorem dX13_module_52 : decode cX13_module 52 = .ok (.putfield 633, 3) := by decide +kernel
theorem dX13_module_55 : decode cX13_module 55 = .ok (.aload_n 0, 1) := by decide +kernel
theorem dX13_module_56 : decode cX13_module 56 = .ok (.iconst 0, 1) := by decide +kernel
theorem dX13_module_57 : decode cX13_module 57 = .ok (.putfield 639, 3) := by decide +kernel
theorem dX13_module_6 : decode cX13_module 6 = .ok (.iconst 0, 1) := by decide +kernel
theorem dX13_module_60 : decode cX13_module 60 = .ok (.aload_n 0, 1) := by decide +kernel
theorem dX13_module_61 : decode cX13_module 61 = .ok (.iconst 0, 1) := by decide +kernel
theorem dX13_module_62 : decode cX13_module 62 = .ok (.putfield 375, 3) := by decide +kernel
theorem dX13_module_65 : decode cX13_module 65 = .ok (.aload_n 0, 1) := by decide +kernel
theorem dX13_module_66 : decode cX13_module 66 = .ok (.iconst (-1), 1) := by decide +kernel
theorem dX13_module_67 : decode cX13_module 67 = .ok (.putfield 13, 3) := by decide +kernel
theorem dX13_module_7 : decode cX13_module 7 = .ok (.putfield 465, 3) := by decide +kernel
theorem dX13_module_70 : decode cX13_module 70 = .ok (.aload_n 0, 1) := by decide +kernel
theorem dX13_module_71 : decode cX13_module 71 = .ok (.iconst 0, 1) := by decide +kernel
theorem dX13_module_72 : decode cX13_module 72 = .ok (.putfield 378, 3) := by decide +kernel
theorem dX13_module_75 : decode cX13_module 75 = .ok (.aload_n 0, 1) := by decide +kernel
theorem dX13_module_76 : decode cX13_module 76 = .ok (.iconst 0, 1) := by decide +kernel
theorem dX13_module_77 : decode cX13_module 77 = .ok (.putfield 642, 3) := by decide +kernel
theorem dX13_module_80 : decode cX13_module 80 = .ok (.aload_n 0, 1) := by decide +kernel
theorem dX13_module_81 : decode cX13_module 81 = .ok (.iconst 0, 1) := by decide +kernel
theorem dX13_module_82 : decode cX13_module 82 = .ok (.putfield 645, 3) := by decide +kernel
theorem dX13_module_85 : decode cX13_module 85 = .ok (.aload_n 0, 1) := by decide +kernel
theorem dX13_module_86 : decode cX13_module 86 = .ok (.iconst 0, 1) := by decide +kernel
theorem dX13_module_87 : decode cX13_module 87 = .ok (.putfield 648, 3) := by decide +kernel
theorem dX13_module_90 : decode cX13_module 90 = .ok (.aload_n 0, 1) := by decide +kernel
theorem dX13_module_91 : decode cX13_module 91 = .ok (.iconst 0, 1) := by decide +kernel
theorem dX13_module_92 : decode cX13_module 92 = .ok (.putfield 651, 3) := by decide +kernel
theorem dX13_module_95 : decode cX13_module 95 = .ok (.aload_n 0, 1) := by decide +kernel
theorem dX13_module_96 : decode cX13_module 96 = .ok (.iconst 0, 1) := by decide +kernel
theorem dX13_module_97 : decode cX13_module 97 = .ok (.putfield 654, 3) := by decide +kernel
set_option maxRecDepth 4000 in
set_option maxHeartbeats 400000 in
theorem N_X13_module (s : t_S) (h_I_950_1 : s.1 950 1 = 0) : t_C yX13_module cX13_module 1 (some .int) 3 [.ref 950] s (fun v s' => v = some (.int 0) ∧ t_keep [950] s s') := by
  refine t_C.of (by decide +kernel) (Nat.le_of_ble_eq_true rfl) ?_
  intro D cy ad bs X
  suffices main : ∀ post : Option Value → t_S → Prop, (∀ v s', (v = some (.int 0) ∧ t_keep [950] s s') → post v s') → mj_G D cy ad bs X cX13_module 1 yX13_module.cls (some .int) yX13_module.name 3 0 0 1065 (t_P post) 0 [(0, .ref 950)] [] (t_m s) 1065 0 0 from main _ (fun _ _ h => h)
  intro post hpost
  refine mj_aload_n dX13_module_0 0 rfl ?_
  refine mj_iconst (v := 0) dX13_module_1 (by decide) ?_
  refine t_putI dX13_module_2 F_X13_458 qf_950_14 (by decide) ?_
  obtain ⟨s1, w2⟩ : ∃ z, z = t_setI s 950 14 0 := ⟨_, rfl⟩
  rw [← w2]
  refine mj_aload_n dX13_module_5 0 rfl ?_
  refine mj_iconst (v := 0) dX13_module_6 (by decide) ?_
  refine t_putI dX13_module_7 F_X13_465 qf_950_15 (by decide) ?_
  obtain ⟨s3, w4⟩ : ∃ z, z = t_setI s1 950 15 0 := ⟨_, rfl⟩
  rw [← w4]
  refine mj_aload_n dX13_module_10 0 rfl ?_
  refine mj_iconst (v := 1) dX13_module_11 (by decide) ?_
  refine t_putI dX13_module_12 F_X13_461 qf_950_16 (by decide) ?_
  obtain ⟨s5, w6⟩ : ∃ z, z = t_setI s3 950 16 1 := ⟨_, rfl⟩
  rw [← w6]
  refine mj_aload_n dX13_module_15 0 rfl ?_
  refine mj_iconst (v := 0) dX13_module_16 (by decide) ?_
  refine t_putI dX13_module_17 F_X13_474 qf_950_24 (by decide) ?_
  obtain ⟨s7, w8⟩ : ∃ z, z = t_setI s5 950 24 0 := ⟨_, rfl⟩
  rw [← w8]
  refine mj_aload_n dX13_module_20 0 rfl ?_
  refine mj_iconst (v := 0) dX13_module_21 (by decide) ?_
  refine t_putI dX13_module_22 F_X13_479 qf_950_26 (by decide) ?_
  obtain ⟨s9, w10⟩ : ∃ z, z = t_setI s7 950 26 0 := ⟨_, rfl⟩
  rw [← w10]
  refine mj_aload_n dX13_module_25 0 rfl ?_
  refine mj_iconst (v := 0) dX13_module_26 (by decide) ?_
  refine t_putI dX13_module_27 F_X13_471 qf_950_28 (by decide) ?_
  obtain ⟨s11, w12⟩ : ∃ z, z = t_setI s9 950 28 0 := ⟨_, rfl⟩
  rw [← w12]
  refine mj_aload_n dX13_module_30 0 rfl ?_
  refine mj_iconst (v := 0) dX13_module_31 (by decide) ?_
  refine t_putI dX13_module_32 F_X13_591 qf_950_36 (by decide) ?_
  obtain ⟨s13, w14⟩ : ∃ z, z = t_setI s11 950 36 0 := ⟨_, rfl⟩
  rw [← w14]
  refine mj_aload_n dX13_module_35 0 rfl ?_
  refine mj_iconst (v := 0) dX13_module_36 (by decide) ?_
  refine t_putI dX13_module_37 F_X13_624 qf_950_40 (by decide) ?_
  obtain ⟨s15, w16⟩ : ∃ z, z = t_setI s13 950 40 0 := ⟨_, rfl⟩
  rw [← w16]
  refine mj_aload_n dX13_module_40 0 rfl ?_
  refine mj_iconst (v := 0) dX13_module_41 (by decide) ?_
  refine t_putI dX13_module_42 F_X13_627 qf_950_44 (by decide) ?_
  obtain ⟨s17, w18⟩ : ∃ z, z = t_setI s15 950 44 0 := ⟨_, rfl⟩
  rw [← w18]
  refine mj_aload_n dX13_module_45 0 rfl ?_
  refine mj_iconst (v := 0) dX13_module_46 (by decide) ?_
  refine t_putI dX13_module_47 F_X13_630 qf_950_55 (by decide) ?_
  obtain ⟨s19, w20⟩ : ∃ z, z = t_setI s17 950 55 0 := ⟨_, rfl⟩
  rw [← w20]
  refine mj_aload_n dX13_module_50 0 rfl ?_
  refine mj_iconst (v := 0) dX13_module_51 (by decide) ?_
  refine t_putI dX13_module_52 F_X13_633 qf_950_64 (by decide) ?_
  obtain ⟨s21, w22⟩ : ∃ z, z = t_setI s19 950 64 0 := ⟨_, rfl⟩
  rw [← w22]
  refine mj_aload_n dX13_module_55 0 rfl ?_
  refine mj_iconst (v := 0) dX13_module_56 (by decide) ?_
  refine t_putI dX13_module_57 F_X13_639 qf_950_81 (by decide) ?_
  obtain ⟨s23, w24⟩ : ∃ z, z = t_setI s21 950 81 0 := ⟨_, rfl⟩
  rw [← w24]
  refine mj_aload_n dX13_module_60 0 rfl ?_
  refine mj_iconst (v := 0) dX13_module_61 (by decide) ?_
  refine t_putI dX13_module_62 F_X13_375 qf_950_2 (by decide) ?_
  obtain ⟨s25, w26⟩ : ∃ z, z = t_setI s23 950 2 0 := ⟨_, rfl⟩
  rw [← w26]
  refine mj_aload_n dX13_module_65 0 rfl ?_
  refine mj_iconst (v := (-1)) dX13_module_66 (by decide) ?_
  refine t_putI dX13_module_67 F_X13_13 qf_950_3 (by decide) ?_
  obtain ⟨s27, w28⟩ : ∃ z, z = t_setI s25 950 3 (-1) := ⟨_, rfl⟩
  rw [← w28]
  refine mj_aload_n dX13_module_70 0 rfl ?_
  refine mj_iconst (v := 0) dX13_module_71 (by decide) ?_
  refine t_putI dX13_module_72 F_X13_378 qf_950_4 (by decide) ?_
  obtain ⟨s29, w30⟩ : ∃ z, z = t_setI s27 950 4 0 := ⟨_, rfl⟩
  rw [← w30]
  refine mj_aload_n dX13_module_75 0 rfl ?_
  refine mj_iconst (v := 0) dX13_module_76 (by decide) ?_
  refine t_putI dX13_module_77 F_X13_642 qf_950_65 (by decide) ?_
  obtain ⟨s31, w32⟩ : ∃ z, z = t_setI s29 950 65 0 := ⟨_, rfl⟩
  rw [← w32]
  refine mj_aload_n dX13_module_80 0 rfl ?_
  refine mj_iconst (v := 0) dX13_module_81 (by decide) ?_
  refine t_putI dX13_module_82 F_X13_645 qf_950_147 (by decide) ?_
  obtain ⟨s33, w34⟩ : ∃ z, z = t_setI s31 950 147 0 := ⟨_, rfl⟩
  rw [← w34]
  refine mj_aload_n dX13_module_85 0 rfl ?_
  refine mj_iconst (v := 0) dX13_module_86 (by decide) ?_
  refine t_putI dX13_module_87 F_X13_648 qf_950_108 (by decide) ?_
  obtain ⟨s35, w36⟩ : ∃ z, z = t_setI s33 950 108 0 := ⟨_, rfl⟩
  rw [← w36]
  refine mj_aload_n dX13_module_90 0 rfl ?_
  refine mj_iconst (v := 0) dX13_module_91 (by decide) ?_
  refine t_putI dX13_module_92 F_X13_651 qf_950_117 (by decide) ?_
  obtain ⟨s37, w38⟩ : ∃ z, z = t_setI s35 950 117 0 := ⟨_, rfl⟩
  rw [← w38]
  refine mj_aload_n dX13_module_95 0 rfl ?_
  refine mj_iconst (v := 0) dX13_module_96 (by decide) ?_
  refine t_putI dX13_module_97 F_X13_654 qf_950_96 (by decide) ?_
  obtain ⟨s39, w40⟩ : ∃ z, z = t_setI s37 950 96 0 := ⟨_, rfl⟩
  rw [← w40]
  refine mj_aload_n dX13_module_100 0 rfl ?_
  refine t_callV dX13_module_101 M_X13_next (N_X13_next s39 ((t_oI w40 950 1 rfl).trans ((t_oI w38 950 1 rfl).trans ((t_oI w36 950 1 rfl).trans ((t_oI w34 950 1 rfl).trans ((t_oI w32 950 1 rfl).trans ((t_oI w30 950 1 rfl).trans ((t_oI w28 950 1 rfl).trans ((t_oI w26 950 1 rfl).trans ((t_oI w24 950 1 rfl).trans ((t_oI w22 950 1 rfl).trans ((t_oI w20 950 1 rfl).trans ((t_oI w18 950 1 rfl).trans ((t_oI w16 950 1 rfl).trans ((t_oI w14 950 1 rfl).trans ((t_oI w12 950 1 rfl).trans ((t_oI w10 950 1 rfl).trans ((t_oI w8 950 1 rfl).trans ((t_oI w6 950 1 rfl).trans ((t_oI w4 950 1 rfl).trans ((t_oI w2 950 1 rfl).trans h_I_950_1)))))))))))))))))))) ((t_oI w40 950 2 rfl).trans ((t_oI w38 950 2 rfl).trans ((t_oI w36 950 2 rfl).trans ((t_oI w34 950 2 rfl).trans ((t_oI w32 950 2 rfl).trans ((t_oI w30 950 2 rfl).trans ((t_oI w28 950 2 rfl).trans (t_wI w26)))))))) ((t_oI w40 950 4 rfl).trans ((t_oI w38 950 4 rfl).trans ((t_oI w36 950 4 rfl).trans ((t_oI w34 950 4 rfl).trans ((t_oI w32 950 4 rfl).trans (t_wI w30))))))) ML_X13_452 IM_X13_next SE_X13_next qc_950 rfl (As := []) rfl rfl (Nat.le_of_ble_eq_true rfl) (Nat.le_of_ble_eq_true rfl) (Nat.le_of_ble_eq_true rfl) (Nat.le_of_ble_eq_true rfl) (fun v s41 hp => ?_)
  obtain ⟨rfl, e42, e43, e44, e45, e46, e47, e48, e49, e50, e51, e52, e53, e54, e55, e56, e57, e58, e59, e60, e61, e62, e63, e64, e65, e66, e67, e68, e69, e70, e71, e72, e73, e74, e75, e76, e77, e78, e79, e80, e81, e82, e83, e84, e85, e86, e87, e88, e89, e90, e91, e92, e93, e94, e95, e96, e97, e98, e99, e100, e101, e102, e103, e104, e105, e106, e107, e108, e109, e110, e111, e112, e113, e114, e115, e116, e117, k118⟩ := hp
  refine mj_aload_n dX13_module_104 0 rfl ?_
  refine t_getI dX13_module_105 F_X13_385 qf_950_5 ?_
  rw [e92]
  refine mj_if_eq 125 dX13_module_108 (by decide) (fun _ => ?_) (fun z => absurd (by decide) z)
  refine mj_aload_n dX13_module_125 0 rfl ?_
  refine t_getI dX13_module_126 F_X13_375 qf_950_2 ?_
  rw [(e76.trans ((t_oI w40 950 2 rfl).trans ((t_oI w38 950 2 rfl).trans ((t_oI w36 950 2 rfl).trans ((t_oI w34 950 2 rfl).trans ((t_oI w32 950 2 rfl).trans ((t_oI w30 950 2 rfl).trans ((t_oI w28 950 2 rfl).trans (t_wI w26)))))))))]
  refine mj_if_ne 136 dX13_module_129 (by decide) (fun z => absurd (by decide) z) (fun _ => ?_)
  refine mj_aload_n dX13_module_132 0 rfl ?_
  refine t_callV dX13_module_133 M_X13_checkAll (N_X13_checkAll s41 (e77.trans ((t_oI w40 950 24 rfl).trans ((t_oI w38 950 24 rfl).trans ((t_oI w36 950 24 rfl).trans ((t_oI w34 950 24 rfl).trans ((t_oI w32 950 24 rfl).trans ((t_oI w30 950 24 rfl).trans ((t_oI w28 950 24 rfl).trans ((t_oI w26 950 24 rfl).trans ((t_oI w24 950 24 rfl).trans ((t_oI w22 950 24 rfl).trans ((t_oI w20 950 24 rfl).trans ((t_oI w18 950 24 rfl).trans ((t_oI w16 950 24 rfl).trans ((t_oI w14 950 24 rfl).trans ((t_oI w12 950 24 rfl).trans ((t_oI w10 950 24 rfl).trans (t_wI w8)))))))))))))))))) (e90.trans ((t_oI w40 950 40 rfl).trans ((t_oI w38 950 40 rfl).trans ((t_oI w36 950 40 rfl).trans ((t_oI w34 950 40 rfl).trans ((t_oI w32 950 40 rfl).trans ((t_oI w30 950 40 rfl).trans ((t_oI w28 950 40 rfl).trans ((t_oI w26 950 40 rfl).trans ((t_oI w24 950 40 rfl).trans ((t_oI w22 950 40 rfl).trans ((t_oI w20 950 40 rfl).trans ((t_oI w18 950 40 rfl).trans (t_wI w16)))))))))))))) (e91.trans ((t_oI w40 950 44 rfl).trans ((t_oI w38 950 44 rfl).trans ((t_oI w36 950 44 rfl).trans ((t_oI w34 950 44 rfl).trans ((t_oI w32 950 44 rfl).trans ((t_oI w30 950 44 rfl).trans ((t_oI w28 950 44 rfl).trans ((t_oI w26 950 44 rfl).trans ((t_oI w24 950 44 rfl).trans ((t_oI w22 950 44 rfl).trans ((t_oI w20 950 44 rfl).trans (t_wI w18))))))))))))) (e93.trans ((t_oI w40 950 55 rfl).trans ((t_oI w38 950 55 rfl).trans ((t_oI w36 950 55 rfl).trans ((t_oI w34 950 55 rfl).trans ((t_oI w32 950 55 rfl).trans ((t_oI w30 950 55 rfl).trans ((t_oI w28 950 55 rfl).trans ((t_oI w26 950 55 rfl).trans ((t_oI w24 950 55 rfl).trans ((t_oI w22 950 55 rfl).trans (t_wI w20)))))))))))) (e95.trans ((t_oI w40 950 64 rfl).trans ((t_oI w38 950 64 rfl).trans ((t_oI w36 950 64 rfl).trans ((t_oI w34 950 64 rfl).trans ((t_oI w32 950 64 rfl).trans ((t_oI w30 950 64 rfl).trans ((t_oI w28 950 64 rfl).trans ((t_oI w26 950 64 rfl).trans ((t_oI w24 950 64 rfl).trans (t_wI w22))))))))))) (e98.trans ((t_oI w40 950 81 rfl).trans ((t_oI w38 950 81 rfl).trans ((t_oI w36 950 81 rfl).trans ((t_oI w34 950 81 rfl).trans ((t_oI w32 950 81 rfl).trans ((t_oI w30 950 81 rfl).trans ((t_oI w28 950 81 rfl).trans ((t_oI w26 950 81 rfl).trans (t_wI w24))))))))))) ML_X13_661 IM_X13_checkAll SE_X13_checkAll qc_950 rfl (As := []) rfl rfl (Nat.le_of_ble_eq_true rfl) (Nat.le_of_ble_eq_true rfl) (Nat.le_of_ble_eq_true rfl) (Nat.le_of_ble_eq_true rfl) (fun v s119 hp => ?_)
  obtain ⟨rfl, e120, e121, e122, e123, e124, e125, e126, e127, e128, e129, e130, e131, e132, e133, e134, e135, e136, e137, e138, e139, e140, e141, e142, e143, e144, e145, e146, e147, e148, e149, e150, e151, e152, e153, e154, e155, e156, e157, e158, e159, e160, e161, e162, e163, e164, e165, e166, e167, e168, e169, e170, e171, e172, e173, e174, e175, e176, e177, e178, e179, e180, e181, e182, e183, e184, e185, e186, e187, e188, e189, e190, e191, e192, e193, e194, e195, k196⟩ := hp
  refine mj_aload_n dX13_module_136 0 rfl ?_
  refine mj_iconst (v := 0) dX13_module_137 (by decide) ?_
  refine t_putI dX13_module_138 F_X13_366 qf_950_1 (by decide) ?_
  obtain ⟨s197, w198⟩ : ∃ z, z = t_setI s119 950 1 0 := ⟨_, rfl⟩
  rw [← w198]
  refine mj_aload_n dX13_module_141 0 rfl ?_
  refine mj_aload_n dX13_module_142 0 rfl ?_
  refine t_getI dX13_module_143 F_X13_375 qf_950_2 ?_
  rw [((t_oI w198 950 2 rfl).trans (e154.trans (e76.trans ((t_oI w40 950 2 rfl).trans ((t_oI w38 950 2 rfl).trans ((t_oI w36 950 2 rfl).trans ((t_oI w34 950 2 rfl).trans ((t_oI w32 950 2 rfl).trans ((t_oI w30 950 2 rfl).trans ((t_oI w28 950 2 rfl).trans (t_wI w26)))))))))))]
  refine mj_if_ne 153 dX13_module_146 (by decide) (fun z => absurd (by decide) z) (fun _ => ?_)
  refine mj_iconst (v := 1) dX13_module_149 (by decide) ?_
  refine mj_goto 154 dX13_module_150 (by decide) ?_
  refine t_putI dX13_module_154 F_X13_642 qf_950_65 (by decide) ?_
  obtain ⟨s199, w200⟩ : ∃ z, z = t_setI s197 950 65 1 := ⟨_, rfl⟩
  rw [← w200]
  refine mj_aload_n dX13_module_157 0 rfl ?_
  refine mj_aload_n dX13_module_158 0 rfl ?_
  refine t_getI dX13_module_159 F_X13_474 qf_950_24 ?_
  rw [((t_oI w200 950 24 rfl).trans ((t_oI w198 950 24 rfl).trans (e155.trans (e77.trans ((t_oI w40 950 24 rfl).trans ((t_oI w38 950 24 rfl).trans ((t_oI w36 950 24 rfl).trans ((t_oI w34 950 24 rfl).trans ((t_oI w32 950 24 rfl).trans ((t_oI w30 950 24 rfl).trans ((t_oI w28 950 24 rfl).trans ((t_oI w26 950 24 rfl).trans ((t_oI w24 950 24 rfl).trans ((t_oI w22 950 24 rfl).trans ((t_oI w20 950 24 rfl).trans ((t_oI w18 950 24 rfl).trans ((t_oI w16 950 24 rfl).trans ((t_oI w14 950 24 rfl).trans ((t_oI w12 950 24 rfl).trans ((t_oI w10 950 24 rfl).trans (t_wI w8)))))))))))))))))))))]
  refine t_putI dX13_module_162 F_X13_664 qf_950_29 (by decide) ?_
  obtain ⟨s201, w202⟩ : ∃ z, z = t_setI s199 950 29 0 := ⟨_, rfl⟩
  rw [← w202]
  refine mj_aload_n dX13_module_165 0 rfl ?_
  refine mj_aload_n dX13_module_166 0 rfl ?_
  refine t_getI dX13_module_167 F_X13_479 qf_950_26 ?_
  rw [((t_oI w202 950 26 rfl).trans ((t_oI w200 950 26 rfl).trans ((t_oI w198 950 26 rfl).trans (e156.trans (e78.trans ((t_oI w40 950 26 rfl).trans ((t_oI w38 950 26 rfl).trans ((t_oI w36 950 26 rfl).trans ((t_oI w34 950 26 rfl).trans ((t_oI w32 950 26 rfl).trans ((t_oI w30 950 26 rfl).trans ((t_oI w28 950 26 rfl).trans ((t_oI w26 950 26 rfl).trans ((t_oI w24 950 26 rfl).trans ((t_oI w22 950 26 rfl).trans ((t_oI w20 950 26 rfl).trans ((t_oI w18 950 26 rfl).trans ((t_oI w16 950 26 rfl).trans ((t_oI w14 950 26 rfl).trans ((t_oI w12 950 26 rfl).trans (t_wI w10)))))))))))))))))))))]
  refine t_putI dX13_module_170 F_X13_667 qf_950_27 (by decide) ?_
  obtain ⟨s203, w204⟩ : ∃ z, z = t_setI s201 950 27 0 := ⟨_, rfl⟩
  rw [← w204]
  refine mj_aload_n dX13_module_173 0 rfl ?_
  refine mj_aload_n dX13_module_174 0 rfl ?_
  refine t_getI dX13_module_175 F_X13_471 qf_950_28 ?_
  rw [((t_oI w204 950 28 rfl).trans ((t_oI w202 950 28 rfl).trans ((t_oI w200 950 28 rfl).trans ((t_oI w198 950 28 rfl).trans (e158.trans (e80.trans ((t_oI w40 950 28 rfl).trans ((t_oI w38 950 28 rfl).trans ((t_oI w36 950 28 rfl).trans ((t_oI w34 950 28 rfl).trans ((t_oI w32 950 28 rfl).trans ((t_oI w30 950 28 rfl).trans ((t_oI w28 950 28 rfl).trans ((t_oI w26 950 28 rfl).trans ((t_oI w24 950 28 rfl).trans ((t_oI w22 950 28 rfl).trans ((t_oI w20 950 28 rfl).trans ((t_oI w18 950 28 rfl).trans ((t_oI w16 950 28 rfl).trans ((t_oI w14 950 28 rfl).trans (t_wI w12)))))))))))))))))))))]
  refine t_putI dX13_module_178 F_X13_670 qf_950_30 (by decide) ?_
  obtain ⟨s205, w206⟩ : ∃ z, z = t_setI s203 950 30 0 := ⟨_, rfl⟩
  rw [← w206]
  refine mj_aload_n dX13_module_181 0 rfl ?_
  refine mj_aload_n dX13_module_182 0 rfl ?_
  refine t_getI dX13_module_183 F_X13_591 qf_950_36 ?_
  rw [((t_oI w206 950 36 rfl).trans ((t_oI w204 950 36 rfl).trans ((t_oI w202 950 36 rfl).trans ((t_oI w200 950 36 rfl).trans ((t_oI w198 950 36 rfl).trans (e166.trans (e88.trans ((t_oI w40 950 36 rfl).trans ((t_oI w38 950 36 rfl).trans ((t_oI w36 950 36 rfl).trans ((t_oI w34 950 36 rfl).trans ((t_oI w32 950 36 rfl).trans ((t_oI w30 950 36 rfl).trans ((t_oI w28 950 36 rfl).trans ((t_oI w26 950 36 rfl).trans ((t_oI w24 950 36 rfl).trans ((t_oI w22 950 36 rfl).trans ((t_oI w20 950 36 rfl).trans ((t_oI w18 950 36 rfl).trans ((t_oI w16 950 36 rfl).trans (t_wI w14)))))))))))))))))))))]
  refine t_putI dX13_module_186 F_X13_673 qf_950_82 (by decide) ?_
  obtain ⟨s207, w208⟩ : ∃ z, z = t_setI s205 950 82 0 := ⟨_, rfl⟩
  rw [← w208]
  refine mj_aload_n dX13_module_189 0 rfl ?_
  refine mj_aload_n dX13_module_190 0 rfl ?_
  refine t_getI dX13_module_191 F_X13_458 qf_950_14 ?_
  rw [((t_oI w208 950 14 rfl).trans ((t_oI w206 950 14 rfl).trans ((t_oI w204 950 14 rfl).trans ((t_oI w202 950 14 rfl).trans ((t_oI w200 950 14 rfl).trans ((t_oI w198 950 14 rfl).trans (e139.trans (e61.trans ((t_oI w40 950 14 rfl).trans ((t_oI w38 950 14 rfl).trans ((t_oI w36 950 14 rfl).trans ((t_oI w34 950 14 rfl).trans ((t_oI w32 950 14 rfl).trans ((t_oI w30 950 14 rfl).trans ((t_oI w28 950 14 rfl).trans ((t_oI w26 950 14 rfl).trans ((t_oI w24 950 14 rfl).trans ((t_oI w22 950 14 rfl).trans ((t_oI w20 950 14 rfl).trans ((t_oI w18 950 14 rfl).trans ((t_oI w16 950 14 rfl).trans ((t_oI w14 950 14 rfl).trans ((t_oI w12 950 14 rfl).trans ((t_oI w10 950 14 rfl).trans ((t_oI w8 950 14 rfl).trans ((t_oI w6 950 14 rfl).trans ((t_oI w4 950 14 rfl).trans (t_wI w2))))))))))))))))))))))))))))]
  refine t_putI dX13_module_194 F_X13_676 qf_950_83 (by decide) ?_
  obtain ⟨s209, w210⟩ : ∃ z, z = t_setI s207 950 83 0 := ⟨_, rfl⟩
  rw [← w210]
  refine mj_aload_n dX13_module_197 0 rfl ?_
  refine mj_aload_n dX13_module_198 0 rfl ?_
  refine t_getI dX13_module_199 F_X13_465 qf_950_15 ?_
  rw [((t_oI w210 950 15 rfl).trans ((t_oI w208 950 15 rfl).trans ((t_oI w206 950 15 rfl).trans ((t_oI w204 950 15 rfl).trans ((t_oI w202 950 15 rfl).trans ((t_oI w200 950 15 rfl).trans ((t_oI w198 950 15 rfl).trans (e144.trans (e66.trans ((t_oI w40 950 15 rfl).trans ((t_oI w38 950 15 rfl).trans ((t_oI w36 950 15 rfl).trans ((t_oI w34 950 15 rfl).trans ((t_oI w32 950 15 rfl).trans ((t_oI w30 950 15 rfl).trans ((t_oI w28 950 15 rfl).trans ((t_oI w26 950 15 rfl).trans ((t_oI w24 950 15 rfl).trans ((t_oI w22 950 15 rfl).trans ((t_oI w20 950 15 rfl).trans ((t_oI w18 950 15 rfl).trans ((t_oI w16 950 15 rfl).trans ((t_oI w14 950 15 rfl).trans ((t_oI w12 950 15 rfl).trans ((t_oI w10 950 15 rfl).trans ((t_oI w8 950 15 rfl).trans ((t_oI w6 950 15 rfl).trans (t_wI w4))))))))))))))))))))))))))))]
  refine t_putI dX13_module_202 F_X13_679 qf_950_84 (by decide) ?_
  obtain ⟨s211, w212⟩ : ∃ z, z = t_setI s209 950 84 0 := ⟨_, rfl⟩
  rw [← w212]
  refine mj_aload_n dX13_module_205 0 rfl ?_
  refine t_getI dX13_module_206 F_X13_375 qf_950_2 ?_
  rw [((t_oI w212 950 2 rfl).trans ((t_oI w210 950 2 rfl).trans ((t_oI w208 950 2 rfl).trans ((t_oI w206 950 2 rfl).trans ((t_oI w204 950 2 rfl).trans ((t_oI w202 950 2 rfl).trans ((t_oI w200 950 2 rfl).trans ((t_oI w198 950 2 rfl).trans (e154.trans (e76.trans ((t_oI w40 950 2 rfl).trans ((t_oI w38 950 2 rfl).trans ((t_oI w36 950 2 rfl).trans ((t_oI w34 950 2 rfl).trans ((t_oI w32 950 2 rfl).trans ((t_oI w30 950 2 rfl).trans ((t_oI w28 950 2 rfl).trans (t_wI w26))))))))))))))))))]
  exact t_iret dX13_module_209 rfl (by decide) (hpost _ _ ⟨rfl, ((((((((((((((((((((((((((((((t_keep_I w2 (by decide)).trans (t_keep_I w4 (by decide))).trans (t_keep_I w6 (by decide))).trans (t_keep_I w8 (by decide))).trans (t_keep_I w10 (by decide))).trans (t_keep_I w12 (by decide))).trans (t_keep_I w14 (by decide))).trans (t_keep_I w16 (by decide))).trans (t_keep_I w18 (by decide))).trans (t_keep_I w20 (by decide))).trans (t_keep_I w22 (by decide))).trans (t_keep_I w24 (by decide))).trans (t_keep_I w26 (by decide))).trans (t_keep_I w28 (by decide))).trans (t_keep_I w30 (by decide))).trans (t_keep_I w32 (by decide))).trans (t_keep_I w34 (by decide))).trans (t_keep_I w36 (by decide))).trans (t_keep_I w38 (by decide))).trans (t_keep_I w40 (by decide))).trans (k118.mono (by decide))).trans (k196.mono (by decide))).trans (t_keep_I w198 (by decide))).trans (t_keep_I w200 (by decide))).trans (t_keep_I w202 (by decide))).trans (t_keep_I w204 (by decide))).trans (t_keep_I w206 (by decide))).trans (t_keep_I w208 (by decide))).trans (t_keep_I w210 (by decide))).trans (t_keep_I w212 (by decide)))⟩) (Nat.le_of_ble_eq_true rfl) (Nat.le_of_ble_eq_true rfl)

