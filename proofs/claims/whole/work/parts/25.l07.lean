/-! Methods as functions, 7: X10_matchesSome -/
theorem dX10_behindPerm_0 : decode cX10_behindPerm 0 = .ok (.aload_n 0, 1) := by decide +kernel
theorem dX10_behindPerm_1 : decode cX10_behindPerm 1 = .ok (.getfield 67, 3) := by decide +kernel
theorem dX10_behindPerm_10 : decode cX10_behindPerm 10 = .ok (.laload, 1) := by decide +kernel
theorem dX10_behindPerm_100 : decode cX10_behindPerm 100 = .ok (.goto (-68), 3) := by decide +kernel
theorem dX10_behindPerm_103 : decode cX10_behindPerm 103 = .ok (.iload 7, 2) := by decide +kernel
theorem dX10_behindPerm_105 : decode cX10_behindPerm 105 = .ok (.ireturn, 1) := by decide +kernel
theorem dX10_behindPerm_11 : decode cX10_behindPerm 11 = .ok (.invokestatic 185, 3) := by decide +kernel
theorem dX10_behindPerm_14 : decode cX10_behindPerm 14 = .ok (.istore 5, 2) := by decide +kernel
theorem dX10_behindPerm_16 : decode cX10_behindPerm 16 = .ok (.aload_n 0, 1) := by decide +kernel
theorem dX10_behindPerm_17 : decode cX10_behindPerm 17 = .ok (.iload_n 1, 1) := by decide +kernel
theorem dX10_behindPerm_18 : decode cX10_behindPerm 18 = .ok (.iload_n 2, 1) := by decide +kernel
theorem dX10_behindPerm_19 : decode cX10_behindPerm 19 = .ok (.iload 4, 2) := by decide +kernel
theorem dX10_behindPerm_21 : decode cX10_behindPerm 21 = .ok (.invokevirtual 177, 3) := by decide +kernel
theorem dX10_behindPerm_24 : decode cX10_behindPerm 24 = .ok (.istore 6, 2) := by decide +kernel
theorem dX10_behindPerm_26 : decode cX10_behindPerm 26 = .ok (.iconst 0, 1) := by decide +kernel
theorem dX10_behindPerm_27 : decode cX10_behindPerm 27 = .ok (.istore 7, 2) := by decide +kernel
theorem dX10_behindPerm_29 : decode cX10_behindPerm 29 = .ok (.iconst 0, 1) := by decide +kernel
theorem dX10_behindPerm_30 : decode cX10_behindPerm 30 = .ok (.istore 8, 2) := by decide +kernel
theorem dX10_behindPerm_32 : decode cX10_behindPerm 32 = .ok (.iload 8, 2) := by decide +kernel
theorem dX10_behindPerm_34 : decode cX10_behindPerm 34 = .ok (.iload 6, 2) := by decide +kernel
theorem dX10_behindPerm_36 : decode cX10_behindPerm 36 = .ok (.iadd, 1) := by decide +kernel
theorem dX10_behindPerm_37 : decode cX10_behindPerm 37 = .ok (.iload 5, 2) := by decide +kernel
theorem dX10_behindPerm_39 : decode cX10_behindPerm 39 = .ok (.if_icmp .gt 64, 3) := by decide +kernel
theorem dX10_behindPerm_4 : decode cX10_behindPerm 4 = .ok (.aload_n 0, 1) := by decide +kernel
theorem dX10_behindPerm_42 : decode cX10_behindPerm 42 = .ok (.iload_n 3, 1) := by decide +kernel
theorem dX10_behindPerm_43 : decode cX10_behindPerm 43 = .ok (.iload 8, 2) := by decide +kernel
theorem dX10_behindPerm_45 : decode cX10_behindPerm 45 = .ok (.ishr, 1) := by decide +kernel
theorem dX10_behindPerm_46 : decode cX10_behindPerm 46 = .ok (.iconst 1, 1) := by decide +kernel
theorem dX10_behindPerm_47 : decode cX10_behindPerm 47 = .ok (.iand, 1) := by decide +kernel
theorem dX10_behindPerm_48 : decode cX10_behindPerm 48 = .ok (.ifCond .eq 29, 3) := by decide +kernel
theorem dX10_behindPerm_5 : decode cX10_behindPerm 5 = .ok (.getfield 132, 3) := by decide +kernel
theorem dX10_behindPerm_51 : decode cX10_behindPerm 51 = .ok (.aload_n 0, 1) := by decide +kernel
theorem dX10_behindPerm_52 : decode cX10_behindPerm 52 = .ok (.iload 4, 2) := by decide +kernel
theorem dX10_behindPerm_54 : decode cX10_behindPerm 54 = .ok (.iload 6, 2) := by decide +kernel
theorem dX10_behindPerm_56 : decode cX10_behindPerm 56 = .ok (.iconst 1, 1) := by decide +kernel
theorem dX10_behindPerm_57 : decode cX10_behindPerm 57 = .ok (.iload 6, 2) := by decide +kernel
theorem dX10_behindPerm_59 : decode cX10_behindPerm 59 = .ok (.ishl, 1) := by decide +kernel
theorem dX10_behindPerm_60 : decode cX10_behindPerm 60 = .ok (.iconst 1, 1) := by decide +kernel
theorem dX10_behindPerm_61 : decode cX10_behindPerm 61 = .ok (.isub, 1) := by decide +kernel
theorem dX10_behindPerm_62 : decode cX10_behindPerm 62 = .ok (.iload 8, 2) := by decide +kernel
theorem dX10_behindPerm_64 : decode cX10_behindPerm 64 = .ok (.ishl, 1) := by decide +kernel
theorem dX10_behindPerm_65 : decode cX10_behindPerm 65 = .ok (.invokevirtual 182, 3) := by decide +kernel
theorem dX10_behindPerm_68 : decode cX10_behindPerm 68 = .ok (.iload 6, 2) := by decide +kernel
theorem dX10_behindPerm_70 : decode cX10_behindPerm 70 = .ok (.if_icmp .ne 7, 3) := by decide +kernel
theorem dX10_behindPerm_73 : decode cX10_behindPerm 73 = .ok (.iconst 1, 1) := by decide +kernel
theorem dX10_behindPerm_74 : decode cX10_behindPerm 74 = .ok (.goto 4, 3) := by decide +kernel
theorem dX10_behindPerm_77 : decode cX10_behindPerm 77 = .ok (.iconst 0, 1) := by decide +kernel
theorem dX10_behindPerm_78 : decode cX10_behindPerm 78 = .ok (.istore 9, 2) := by decide +kernel
theorem dX10_behindPerm_8 : decode cX10_behindPerm 8 = .ok (.iload_n 2, 1) := by decide +kernel
theorem dX10_behindPerm_80 : decode cX10_behindPerm 80 = .ok (.iload 9, 2) := by decide +kernel
theorem dX10_behindPerm_82 : decode cX10_behindPerm 82 = .ok (.ifCond .eq 15, 3) := by decide +kernel
theorem dX10_behindPerm_85 : decode cX10_behindPerm 85 = .ok (.iload 7, 2) := by decide +kernel
theorem dX10_behindPerm_87 : decode cX10_behindPerm 87 = .ok (.iconst 1, 1) := by decide +kernel
theorem dX10_behindPerm_88 : decode cX10_behindPerm 88 = .ok (.iload 8, 2) := by decide +kernel
theorem dX10_behindPerm_9 : decode cX10_behindPerm 9 = .ok (.iadd, 1) := by decide +kernel
theorem dX10_behindPerm_90 : decode cX10_behindPerm 90 = .ok (.iload 6, 2) := by decide +kernel
theorem dX10_behindPerm_92 : decode cX10_behindPerm 92 = .ok (.iadd, 1) := by decide +kernel
theorem dX10_behindPerm_93 : decode cX10_behindPerm 93 = .ok (.ishl, 1) := by decide +kernel
theorem dX10_behindPerm_94 : decode cX10_behindPerm 94 = .ok (.ior, 1) := by decide +kernel
theorem dX10_behindPerm_95 : decode cX10_behindPerm 95 = .ok (.istore 7, 2) := by decide +kernel
theorem dX10_behindPerm_97 : decode cX10_behindPerm 97 = .ok (.iinc 8 1, 3) := by decide +kernel
theorem dX10_matchesFields_0 : decode cX10_matchesFields 0 = .ok (.iconst 0, 1) := by decide +kernel
theorem dX10_matchesFields_1 : decode cX10_matchesFields 1 = .ok (.istore 4, 2) := by decide +kernel
theorem dX10_matchesFields_100 : decode cX10_matchesFields 100 = .ok (.iinc 6 1, 3) := by decide +kernel
theorem dX10_matchesFields_103 : decode cX10_matchesFields 103 = .ok (.goto (-89), 3) := by decide +kernel
theorem dX10_matchesFields_106 : decode cX10_matchesFields 106 = .ok (.iload 4, 2) := by decide +kernel
theorem dX10_matchesFields_108 : decode cX10_matchesFields 108 = .ok (.aload_n 0, 1) := by decide +kernel
theorem dX10_matchesFields_109 : decode cX10_matchesFields 109 = .ok (.getfield 67, 3) := by decide +kernel
theorem dX10_matchesFields_11 : decode cX10_matchesFields 11 = .ok (.iconst 0, 1) := by decide +kernel
theorem dX10_matchesFields_112 : decode cX10_matchesFields 112 = .ok (.aload_n 0, 1) := by decide +kernel
theorem dX10_matchesFields_113 : decode cX10_matchesFields 113 = .ok (.getfield 132, 3) := by decide +kernel
theorem dX10_matchesFields_116 : decode cX10_matchesFields 116 = .ok (.iload_n 2, 1) := by decide +kernel
theorem dX10_matchesFields_117 : decode cX10_matchesFields 117 = .ok (.iadd, 1) := by decide +kernel
theorem dX10_matchesFields_118 : decode cX10_matchesFields 118 = .ok (.laload, 1) := by decide +kernel
theorem dX10_matchesFields_119 : decode cX10_matchesFields 119 = .ok (.invokestatic 185, 3) := by decide +kernel
theorem dX10_matchesFields_12 : decode cX10_matchesFields 12 = .ok (.istore 6, 2) := by decide +kernel
theorem dX10_matchesFields_122 : decode cX10_matchesFields 122 = .ok (.if_icmp .ne 7, 3) := by decide +kernel
theorem dX10_matchesFields_125 : decode cX10_matchesFields 125 = .ok (.iconst 1, 1) := by decide +kernel
theorem dX10_matchesFields_126 : decode cX10_matchesFields 126 = .ok (.goto 4, 3) := by decide +kernel
theorem dX10_matchesFields_129 : decode cX10_matchesFields 129 = .ok (.iconst 0, 1) := by decide +kernel
theorem dX10_matchesFields_130 : decode cX10_matchesFields 130 = .ok (.ireturn, 1) := by decide +kernel
theorem dX10_matchesFields_14 : decode cX10_matchesFields 14 = .ok (.iload 6, 2) := by decide +kernel
theorem dX10_matchesFields_16 : decode cX10_matchesFields 16 = .ok (.bipush 16, 2) := by decide +kernel
theorem dX10_matchesFields_18 : decode cX10_matchesFields 18 = .ok (.if_icmp .ge 88, 3) := by decide +kernel
theorem dX10_matchesFields_21 : decode cX10_matchesFields 21 = .ok (.iload 5, 2) := by decide +kernel
theorem dX10_matchesFields_23 : decode cX10_matchesFields 23 = .ok (.ifCond .lt 83, 3) := by decide +kernel
theorem dX10_matchesFields_26 : decode cX10_matchesFields 26 = .ok (.aload_n 0, 1) := by decide +kernel
theorem dX10_matchesFields_27 : decode cX10_matchesFields 27 = .ok (.getfield 67, 3) := by decide +kernel
theorem dX10_matchesFields_3 : decode cX10_matchesFields 3 = .ok (.aload_n 0, 1) := by decide +kernel
theorem dX10_matchesFields_30 : decode cX10_matchesFields 30 = .ok (.aload_n 0, 1) := by decide +kernel
theorem dX10_matchesFields_31 : decode cX10_matchesFields 31 = .ok (.getfield 132, 3) := by decide +kernel
theorem dX10_matchesFields_34 : decode cX10_matchesFields 34 = .ok (.iload_n 2, 1) := by decide +kernel
theorem dX10_matchesFields_35 : decode cX10_matchesFields 35 = .ok (.iadd, 1) := by decide +kernel
theorem dX10_matchesFields_36 : decode cX10_matchesFields 36 = .ok (.aload_n 0, 1) := by decide +kernel
theorem dX10_matchesFields_37 : decode cX10_matchesFields 37 = .ok (.getfield 21, 3) := by decide +kernel
theorem dX10_matchesFields_4 : decode cX10_matchesFields 4 = .ok (.getfield 15, 3) := by decide +kernel
theorem dX10_matchesFields_40 : decode cX10_matchesFields 40 = .ok (.iload 5, 2) := by decide +kernel
theorem dX10_matchesFields_42 : decode cX10_matchesFields 42 = .ok (.iaload, 1) := by decide +kernel
theorem dX10_matchesFields_43 : decode cX10_matchesFields 43 = .ok (.invokestatic 195, 3) := by decide +kernel
theorem dX10_matchesFields_46 : decode cX10_matchesFields 46 = .ok (.istore 7, 2) := by decide +kernel
theorem dX10_matchesFields_48 : decode cX10_matchesFields 48 = .ok (.iload 7, 2) := by decide +kernel
theorem dX10_matchesFields_50 : decode cX10_matchesFields 50 = .ok (.ifCond .lt 6, 3) := by decide +kernel
theorem dX10_matchesFields_53 : decode cX10_matchesFields 53 = .ok (.iinc 4 1, 3) := by decide +kernel
theorem dX10_matchesFields_56 : decode cX10_matchesFields 56 = .ok (.aload_n 0, 1) := by decide +kernel
theorem dX10_matchesFields_57 : decode cX10_matchesFields 57 = .ok (.aload_n 0, 1) := by decide +kernel
theorem dX10_matchesFields_58 : decode cX10_matchesFields 58 = .ok (.getfield 15, 3) := by decide +kernel
theorem dX10_matchesFields_61 : decode cX10_matchesFields 61 = .ok (.iload 5, 2) := by decide +kernel
theorem dX10_matchesFields_63 : decode cX10_matchesFields 63 = .ok (.iaload, 1) := by decide +kernel
theorem dX10_matchesFields_64 : decode cX10_matchesFields 64 = .ok (.iload 7, 2) := by decide +kernel
theorem dX10_matchesFields_66 : decode cX10_matchesFields 66 = .ok (.ifCond .ge 7, 3) := by decide +kernel
theorem dX10_matchesFields_69 : decode cX10_matchesFields 69 = .ok (.iconst (-1), 1) := by decide +kernel
theorem dX10_matchesFields_7 : decode cX10_matchesFields 7 = .ok (.iload_n 1, 1) := by decide +kernel
theorem dX10_matchesFields_70 : decode cX10_matchesFields 70 = .ok (.goto 10, 3) := by decide +kernel
theorem dX10_matchesFields_73 : decode cX10_matchesFields 73 = .ok (.iload 7, 2) := by decide +kernel
theorem dX10_matchesFields_75 : decode cX10_matchesFields 75 = .ok (.aload_n 0, 1) := by decide +kernel
theorem dX10_matchesFields_76 : decode cX10_matchesFields 76 = .ok (.getfield 132, 3) := by decide +kernel
theorem dX10_matchesFields_79 : decode cX10_matchesFields 79 = .ok (.isub, 1) := by decide +kernel
theorem dX10_matchesFields_8 : decode cX10_matchesFields 8 = .ok (.iaload, 1) := by decide +kernel
theorem dX10_matchesFields_80 : decode cX10_matchesFields 80 = .ok (.iload_n 3, 1) := by decide +kernel
theorem dX10_matchesFields_81 : decode cX10_matchesFields 81 = .ok (.iconst 1, 1) := by decide +kernel
theorem dX10_matchesFields_82 : decode cX10_matchesFields 82 = .ok (.iadd, 1) := by decide +kernel
theorem dX10_matchesFields_83 : decode cX10_matchesFields 83 = .ok (.invokevirtual 145, 3) := by decide +kernel
theorem dX10_matchesFields_86 : decode cX10_matchesFields 86 = .ok (.ifCond .ne 5, 3) := by decide +kernel
theorem dX10_matchesFields_89 : decode cX10_matchesFields 89 = .ok (.iconst 0, 1) := by decide +kernel
theorem dX10_matchesFields_9 : decode cX10_matchesFields 9 = .ok (.istore 5, 2) := by decide +kernel
theorem dX10_matchesFields_90 : decode cX10_matchesFields 90 = .ok (.ireturn, 1) := by decide +kernel
theorem dX10_matchesFields_91 : decode cX10_matchesFields 91 = .ok (.aload_n 0, 1) := by decide +kernel
theorem dX10_matchesFields_92 : decode cX10_matchesFields 92 = .ok (.getfield 18, 3) := by decide +kernel
theorem dX10_matchesFields_95 : decode cX10_matchesFields 95 = .ok (.iload 5, 2) := by decide +kernel
theorem dX10_matchesFields_97 : decode cX10_matchesFields 97 = .ok (.iaload, 1) := by decide +kernel
theorem dX10_matchesFields_98 : decode cX10_matchesFields 98 = .ok (.istore 5, 2) := by decide +kernel
theorem dX10_matchesLink_0 : decode cX10_matchesLink 0 = .ok (.iload_n 1, 1) := by decide +kernel
theorem dX10_matchesLink_1 : decode cX10_matchesLink 1 = .ok (.bipush 122, 2) := by decide +kernel
theorem dX10_matchesLink_10 : decode cX10_matchesLink 10 = .ok (.aload_n 0, 1) := by decide +kernel
theorem dX10_matchesLink_11 : decode cX10_matchesLink 11 = .ok (.getfield 46, 3) := by decide +kernel
theorem dX10_matchesLink_14 : decode cX10_matchesLink 14 = .ok (.iload 4, 2) := by decide +kernel
theorem dX10_matchesLink_16 : decode cX10_matchesLink 16 = .ok (.iaload, 1) := by decide +kernel
theorem dX10_matchesLink_17 : decode cX10_matchesLink 17 = .ok (.iconst 1, 1) := by decide +kernel
theorem dX10_matchesLink_18 : decode cX10_matchesLink 18 = .ok (.ishr, 1) := by decide +kernel
theorem dX10_matchesLink_19 : decode cX10_matchesLink 19 = .ok (.aload_n 0, 1) := by decide +kernel
theorem dX10_matchesLink_20 : decode cX10_matchesLink 20 = .ok (.getfield 135, 3) := by decide +kernel
theorem dX10_matchesLink_23 : decode cX10_matchesLink 23 = .ok (.if_icmp .ne 21, 3) := by decide +kernel
theorem dX10_matchesLink_26 : decode cX10_matchesLink 26 = .ok (.aload_n 0, 1) := by decide +kernel
theorem dX10_matchesLink_27 : decode cX10_matchesLink 27 = .ok (.getfield 46, 3) := by decide +kernel
theorem dX10_matchesLink_3 : decode cX10_matchesLink 3 = .ok (.imul, 1) := by decide +kernel
theorem dX10_matchesLink_30 : decode cX10_matchesLink 30 = .ok (.iload 4, 2) := by decide +kernel
theorem dX10_matchesLink_32 : decode cX10_matchesLink 32 = .ok (.iaload, 1) := by decide +kernel
theorem dX10_matchesLink_33 : decode cX10_matchesLink 33 = .ok (.iconst 1, 1) := by decide +kernel
theorem dX10_matchesLink_34 : decode cX10_matchesLink 34 = .ok (.iand, 1) := by decide +kernel
theorem dX10_matchesLink_35 : decode cX10_matchesLink 35 = .ok (.ifCond .eq 7, 3) := by decide +kernel
theorem dX10_matchesLink_38 : decode cX10_matchesLink 38 = .ok (.iconst 1, 1) := by decide +kernel
theorem dX10_matchesLink_39 : decode cX10_matchesLink 39 = .ok (.goto 4, 3) := by decide +kernel
theorem dX10_matchesLink_4 : decode cX10_matchesLink 4 = .ok (.iload_n 2, 1) := by decide +kernel
theorem dX10_matchesLink_42 : decode cX10_matchesLink 42 = .ok (.iconst 0, 1) := by decide +kernel
theorem dX10_matchesLink_43 : decode cX10_matchesLink 43 = .ok (.ireturn, 1) := by decide +kernel
theorem dX10_matchesLink_44 : decode cX10_matchesLink 44 = .ok (.aload_n 0, 1) := by decide +kernel
theorem dX10_matchesLink_45 : decode cX10_matchesLink 45 = .ok (.aload_n 0, 1) := by decide +kernel
theorem dX10_matchesLink_46 : decode cX10_matchesLink 46 = .ok (.getfield 43, 3) := by decide +kernel
theorem dX10_matchesLink_49 : decode cX10_matchesLink 49 = .ok (.iload_n 1, 1) := by decide +kernel
theorem dX10_matchesLink_5 : decode cX10_matchesLink 5 = .ok (.iadd, 1) := by decide +kernel
theorem dX10_matchesLink_50 : decode cX10_matchesLink 50 = .ok (.aaload, 1) := by decide +kernel
theorem dX10_matchesLink_51 : decode cX10_matchesLink 51 = .ok (.iconst 0, 1) := by decide +kernel
theorem dX10_matchesLink_52 : decode cX10_matchesLink 52 = .ok (.iaload, 1) := by decide +kernel
theorem dX10_matchesLink_53 : decode cX10_matchesLink 53 = .ok (.iload_n 2, 1) := by decide +kernel
theorem dX10_matchesLink_54 : decode cX10_matchesLink 54 = .ok (.iload_n 3, 1) := by decide +kernel
theorem dX10_matchesLink_55 : decode cX10_matchesLink 55 = .ok (.iconst 1, 1) := by decide +kernel
theorem dX10_matchesLink_56 : decode cX10_matchesLink 56 = .ok (.iadd, 1) := by decide +kernel
theorem dX10_matchesLink_57 : decode cX10_matchesLink 57 = .ok (.invokevirtual 145, 3) := by decide +kernel
theorem dX10_matchesLink_6 : decode cX10_matchesLink 6 = .ok (.iconst 1, 1) := by decide +kernel
theorem dX10_matchesLink_60 : decode cX10_matchesLink 60 = .ok (.istore 5, 2) := by decide +kernel
theorem dX10_matchesLink_62 : decode cX10_matchesLink 62 = .ok (.aload_n 0, 1) := by decide +kernel
theorem dX10_matchesLink_63 : decode cX10_matchesLink 63 = .ok (.getfield 46, 3) := by decide +kernel
theorem dX10_matchesLink_66 : decode cX10_matchesLink 66 = .ok (.iload 4, 2) := by decide +kernel
theorem dX10_matchesLink_68 : decode cX10_matchesLink 68 = .ok (.aload_n 0, 1) := by decide +kernel
theorem dX10_matchesLink_69 : decode cX10_matchesLink 69 = .ok (.getfield 135, 3) := by decide +kernel
theorem dX10_matchesLink_7 : decode cX10_matchesLink 7 = .ok (.iadd, 1) := by decide +kernel
theorem dX10_matchesLink_72 : decode cX10_matchesLink 72 = .ok (.iconst 1, 1) := by decide +kernel
theorem dX10_matchesLink_73 : decode cX10_matchesLink 73 = .ok (.ishl, 1) := by decide +kernel
theorem dX10_matchesLink_74 : decode cX10_matchesLink 74 = .ok (.iload 5, 2) := by decide +kernel
theorem dX10_matchesLink_76 : decode cX10_matchesLink 76 = .ok (.ifCond .eq 7, 3) := by decide +kernel
theorem dX10_matchesLink_79 : decode cX10_matchesLink 79 = .ok (.iconst 1, 1) := by decide +kernel
theorem dX10_matchesLink_8 : decode cX10_matchesLink 8 = .ok (.istore 4, 2) := by decide +kernel
theorem dX10_matchesLink_80 : decode cX10_matchesLink 80 = .ok (.goto 4, 3) := by decide +kernel
theorem dX10_matchesLink_83 : decode cX10_matchesLink 83 = .ok (.iconst 0, 1) := by decide +kernel
theorem dX10_matchesLink_84 : decode cX10_matchesLink 84 = .ok (.ior, 1) := by decide +kernel
theorem dX10_matchesLink_85 : decode cX10_matchesLink 85 = .ok (.iastore, 1) := by decide +kernel
theorem dX10_matchesLink_86 : decode cX10_matchesLink 86 = .ok (.iload 5, 2) := by decide +kernel
theorem dX10_matchesLink_88 : decode cX10_matchesLink 88 = .ok (.ireturn, 1) := by decide +kernel
theorem dX10_matchesRow_0 : decode cX10_matchesRow 0 = .ok (.aload_n 0, 1) := by decide +kernel
theorem dX10_matchesRow_1 : decode cX10_matchesRow 1 = .ok (.getfield 67, 3) := by decide +kernel
theorem dX10_matchesRow_10 : decode cX10_matchesRow 10 = .ok (.laload, 1) := by decide +kernel
theorem dX10_matchesRow_101 : decode cX10_matchesRow 101 = .ok (.iload_n 2, 1) := by decide +kernel
theorem dX10_matchesRow_102 : decode cX10_matchesRow 102 = .ok (.iconst 1, 1) := by decide +kernel
theorem dX10_matchesRow_103 : decode cX10_matchesRow 103 = .ok (.iadd, 1) := by decide +kernel
theorem dX10_matchesRow_104 : decode cX10_matchesRow 104 = .ok (.istore 9, 2) := by decide +kernel
theorem dX10_matchesRow_106 : decode cX10_matchesRow 106 = .ok (.iconst 0, 1) := by decide +kernel
theorem dX10_matchesRow_107 : decode cX10_matchesRow 107 = .ok (.istore 10, 2) := by decide +kernel
theorem dX10_matchesRow_109 : decode cX10_matchesRow 109 = .ok (.iload 10, 2) := by decide +kernel
theorem dX10_matchesRow_11 : decode cX10_matchesRow 11 = .ok (.invokestatic 185, 3) := by decide +kernel
theorem dX10_matchesRow_111 : decode cX10_matchesRow 111 = .ok (.iload 4, 2) := by decide +kernel
theorem dX10_matchesRow_113 : decode cX10_matchesRow 113 = .ok (.if_icmp .ge 62, 3) := by decide +kernel
theorem dX10_matchesRow_116 : decode cX10_matchesRow 116 = .ok (.iload 5, 2) := by decide +kernel
theorem dX10_matchesRow_118 : decode cX10_matchesRow 118 = .ok (.iload 10, 2) := by decide +kernel
theorem dX10_matchesRow_120 : decode cX10_matchesRow 120 = .ok (.ishr, 1) := by decide +kernel
theorem dX10_matchesRow_121 : decode cX10_matchesRow 121 = .ok (.iconst 1, 1) := by decide +kernel
theorem dX10_matchesRow_122 : decode cX10_matchesRow 122 = .ok (.iand, 1) := by decide +kernel
theorem dX10_matchesRow_123 : decode cX10_matchesRow 123 = .ok (.ifCond .eq 26, 3) := by decide +kernel
theorem dX10_matchesRow_126 : decode cX10_matchesRow 126 = .ok (.aload_n 0, 1) := by decide +kernel
theorem dX10_matchesRow_127 : decode cX10_matchesRow 127 = .ok (.iload 6, 2) := by decide +kernel
theorem dX10_matchesRow_129 : decode cX10_matchesRow 129 = .ok (.iload 9, 2) := by decide +kernel
theorem dX10_matchesRow_131 : decode cX10_matchesRow 131 = .ok (.iload_n 3, 1) := by decide +kernel
theorem dX10_matchesRow_132 : decode cX10_matchesRow 132 = .ok (.iconst 1, 1) := by decide +kernel
theorem dX10_matchesRow_133 : decode cX10_matchesRow 133 = .ok (.iadd, 1) := by decide +kernel
theorem dX10_matchesRow_134 : decode cX10_matchesRow 134 = .ok (.invokevirtual 145, 3) := by decide +kernel
theorem dX10_matchesRow_137 : decode cX10_matchesRow 137 = .ok (.ifCond .eq 12, 3) := by decide +kernel
theorem dX10_matchesRow_14 : decode cX10_matchesRow 14 = .ok (.istore 4, 2) := by decide +kernel
theorem dX10_matchesRow_140 : decode cX10_matchesRow 140 = .ok (.iload 8, 2) := by decide +kernel
theorem dX10_matchesRow_142 : decode cX10_matchesRow 142 = .ok (.iconst 2, 1) := by decide +kernel
theorem dX10_matchesRow_143 : decode cX10_matchesRow 143 = .ok (.iload 10, 2) := by decide +kernel
theorem dX10_matchesRow_145 : decode cX10_matchesRow 145 = .ok (.ishl, 1) := by decide +kernel
theorem dX10_matchesRow_146 : decode cX10_matchesRow 146 = .ok (.ior, 1) := by decide +kernel
theorem dX10_matchesRow_147 : decode cX10_matchesRow 147 = .ok (.istore 8, 2) := by decide +kernel
theorem dX10_matchesRow_149 : decode cX10_matchesRow 149 = .ok (.iload 9, 2) := by decide +kernel
theorem dX10_matchesRow_151 : decode cX10_matchesRow 151 = .ok (.aload_n 0, 1) := by decide +kernel
theorem dX10_matchesRow_152 : decode cX10_matchesRow 152 = .ok (.getfield 67, 3) := by decide +kernel
theorem dX10_matchesRow_155 : decode cX10_matchesRow 155 = .ok (.aload_n 0, 1) := by decide +kernel
theorem dX10_matchesRow_156 : decode cX10_matchesRow 156 = .ok (.getfield 132, 3) := by decide +kernel
theorem dX10_matchesRow_159 : decode cX10_matchesRow 159 = .ok (.iload 9, 2) := by decide +kernel
theorem dX10_matchesRow_16 : decode cX10_matchesRow 16 = .ok (.iconst 1, 1) := by decide +kernel
theorem dX10_matchesRow_161 : decode cX10_matchesRow 161 = .ok (.iadd, 1) := by decide +kernel
theorem dX10_matchesRow_162 : decode cX10_matchesRow 162 = .ok (.laload, 1) := by decide +kernel
theorem dX10_matchesRow_163 : decode cX10_matchesRow 163 = .ok (.invokestatic 125, 3) := by decide +kernel
theorem dX10_matchesRow_166 : decode cX10_matchesRow 166 = .ok (.iadd, 1) := by decide +kernel
theorem dX10_matchesRow_167 : decode cX10_matchesRow 167 = .ok (.istore 9, 2) := by decide +kernel
theorem dX10_matchesRow_169 : decode cX10_matchesRow 169 = .ok (.iinc 10 1, 3) := by decide +kernel
theorem dX10_matchesRow_17 : decode cX10_matchesRow 17 = .ok (.istore 5, 2) := by decide +kernel
theorem dX10_matchesRow_172 : decode cX10_matchesRow 172 = .ok (.goto (-63), 3) := by decide +kernel
theorem dX10_matchesRow_175 : decode cX10_matchesRow 175 = .ok (.iload 8, 2) := by decide +kernel
theorem dX10_matchesRow_177 : decode cX10_matchesRow 177 = .ok (.istore 5, 2) := by decide +kernel
theorem dX10_matchesRow_179 : decode cX10_matchesRow 179 = .ok (.aload_n 0, 1) := by decide +kernel
theorem dX10_matchesRow_180 : decode cX10_matchesRow 180 = .ok (.getfield 18, 3) := by decide +kernel
theorem dX10_matchesRow_183 : decode cX10_matchesRow 183 = .ok (.iload 6, 2) := by decide +kernel
theorem dX10_matchesRow_185 : decode cX10_matchesRow 185 = .ok (.iaload, 1) := by decide +kernel
theorem dX10_matchesRow_186 : decode cX10_matchesRow 186 = .ok (.istore 6, 2) := by decide +kernel
theorem dX10_matchesRow_188 : decode cX10_matchesRow 188 = .ok (.iinc 7 1, 3) := by decide +kernel
theorem dX10_matchesRow_19 : decode cX10_matchesRow 19 = .ok (.aload_n 0, 1) := by decide +kernel
theorem dX10_matchesRow_191 : decode cX10_matchesRow 191 = .ok (.goto (-161), 3) := by decide +kernel
theorem dX10_matchesRow_194 : decode cX10_matchesRow 194 = .ok (.iload 5, 2) := by decide +kernel
theorem dX10_matchesRow_196 : decode cX10_matchesRow 196 = .ok (.iload 4, 2) := by decide +kernel
theorem dX10_matchesRow_198 : decode cX10_matchesRow 198 = .ok (.ishr, 1) := by decide +kernel
theorem dX10_matchesRow_199 : decode cX10_matchesRow 199 = .ok (.iconst 1, 1) := by decide +kernel
theorem dX10_matchesRow_20 : decode cX10_matchesRow 20 = .ok (.getfield 15, 3) := by decide +kernel
theorem dX10_matchesRow_200 : decode cX10_matchesRow 200 = .ok (.iand, 1) := by decide +kernel
theorem dX10_matchesRow_201 : decode cX10_matchesRow 201 = .ok (.ifCond .eq 7, 3) := by decide +kernel
theorem dX10_matchesRow_204 : decode cX10_matchesRow 204 = .ok (.iconst 1, 1) := by decide +kernel
theorem dX10_matchesRow_205 : decode cX10_matchesRow 205 = .ok (.goto 4, 3) := by decide +kernel
theorem dX10_matchesRow_208 : decode cX10_matchesRow 208 = .ok (.iconst 0, 1) := by decide +kernel
theorem dX10_matchesRow_209 : decode cX10_matchesRow 209 = .ok (.ireturn, 1) := by decide +kernel
theorem dX10_matchesRow_23 : decode cX10_matchesRow 23 = .ok (.iload_n 1, 1) := by decide +kernel
theorem dX10_matchesRow_24 : decode cX10_matchesRow 24 = .ok (.iaload, 1) := by decide +kernel
theorem dX10_matchesRow_25 : decode cX10_matchesRow 25 = .ok (.istore 6, 2) := by decide +kernel
theorem dX10_matchesRow_27 : decode cX10_matchesRow 27 = .ok (.iconst 0, 1) := by decide +kernel
theorem dX10_matchesRow_28 : decode cX10_matchesRow 28 = .ok (.istore 7, 2) := by decide +kernel
theorem dX10_matchesRow_30 : decode cX10_matchesRow 30 = .ok (.iload 7, 2) := by decide +kernel
theorem dX10_matchesRow_32 : decode cX10_matchesRow 32 = .ok (.bipush 12, 2) := by decide +kernel
theorem dX10_matchesRow_34 : decode cX10_matchesRow 34 = .ok (.if_icmp .ge 160, 3) := by decide +kernel
theorem dX10_matchesRow_37 : decode cX10_matchesRow 37 = .ok (.iload 6, 2) := by decide +kernel
theorem dX10_matchesRow_39 : decode cX10_matchesRow 39 = .ok (.ifCond .lt 155, 3) := by decide +kernel
theorem dX10_matchesRow_4 : decode cX10_matchesRow 4 = .ok (.aload_n 0, 1) := by decide +kernel
theorem dX10_matchesRow_42 : decode cX10_matchesRow 42 = .ok (.iload 5, 2) := by decide +kernel
theorem dX10_matchesRow_44 : decode cX10_matchesRow 44 = .ok (.ifCond .eq 150, 3) := by decide +kernel
theorem dX10_matchesRow_47 : decode cX10_matchesRow 47 = .ok (.aload_n 0, 1) := by decide +kernel
theorem dX10_matchesRow_48 : decode cX10_matchesRow 48 = .ok (.iload 6, 2) := by decide +kernel
theorem dX10_matchesRow_5 : decode cX10_matchesRow 5 = .ok (.getfield 132, 3) := by decide +kernel
theorem dX10_matchesRow_50 : decode cX10_matchesRow 50 = .ok (.invokevirtual 199, 3) := by decide +kernel
theorem dX10_matchesRow_53 : decode cX10_matchesRow 53 = .ok (.ifCond .eq 18, 3) := by decide +kernel
theorem dX10_matchesRow_56 : decode cX10_matchesRow 56 = .ok (.iconst 2, 1) := by decide +kernel
theorem dX10_matchesRow_57 : decode cX10_matchesRow 57 = .ok (.iload 4, 2) := by decide +kernel
theorem dX10_matchesRow_59 : decode cX10_matchesRow 59 = .ok (.ishl, 1) := by decide +kernel
theorem dX10_matchesRow_60 : decode cX10_matchesRow 60 = .ok (.iload 5, 2) := by decide +kernel
theorem dX10_matchesRow_62 : decode cX10_matchesRow 62 = .ok (.invokestatic 203, 3) := by decide +kernel
theorem dX10_matchesRow_65 : decode cX10_matchesRow 65 = .ok (.isub, 1) := by decide +kernel
theorem dX10_matchesRow_66 : decode cX10_matchesRow 66 = .ok (.istore 5, 2) := by decide +kernel
theorem dX10_matchesRow_68 : decode cX10_matchesRow 68 = .ok (.goto 111, 3) := by decide +kernel
theorem dX10_matchesRow_71 : decode cX10_matchesRow 71 = .ok (.aload_n 0, 1) := by decide +kernel
theorem dX10_matchesRow_72 : decode cX10_matchesRow 72 = .ok (.getfield 11, 3) := by decide +kernel
theorem dX10_matchesRow_75 : decode cX10_matchesRow 75 = .ok (.iload 6, 2) := by decide +kernel
theorem dX10_matchesRow_77 : decode cX10_matchesRow 77 = .ok (.iaload, 1) := by decide +kernel
theorem dX10_matchesRow_78 : decode cX10_matchesRow 78 = .ok (.bipush 18, 2) := by decide +kernel
theorem dX10_matchesRow_8 : decode cX10_matchesRow 8 = .ok (.iload_n 2, 1) := by decide +kernel
theorem dX10_matchesRow_80 : decode cX10_matchesRow 80 = .ok (.if_icmp .ne 18, 3) := by decide +kernel
theorem dX10_matchesRow_83 : decode cX10_matchesRow 83 = .ok (.aload_n 0, 1) := by decide +kernel
theorem dX10_matchesRow_84 : decode cX10_matchesRow 84 = .ok (.iload 6, 2) := by decide +kernel
theorem dX10_matchesRow_86 : decode cX10_matchesRow 86 = .ok (.iload_n 2, 1) := by decide +kernel
theorem dX10_matchesRow_87 : decode cX10_matchesRow 87 = .ok (.iload 5, 2) := by decide +kernel
theorem dX10_matchesRow_89 : decode cX10_matchesRow 89 = .ok (.iload_n 3, 1) := by decide +kernel
theorem dX10_matchesRow_9 : decode cX10_matchesRow 9 = .ok (.iadd, 1) := by decide +kernel
theorem dX10_matchesRow_90 : decode cX10_matchesRow 90 = .ok (.invokevirtual 208, 3) := by decide +kernel
theorem dX10_matchesRow_93 : decode cX10_matchesRow 93 = .ok (.istore 5, 2) := by decide +kernel
theorem dX10_matchesRow_95 : decode cX10_matchesRow 95 = .ok (.goto 84, 3) := by decide +kernel
theorem dX10_matchesRow_98 : decode cX10_matchesRow 98 = .ok (.iconst 0, 1) := by decide +kernel
theorem dX10_matchesRow_99 : decode cX10_matchesRow 99 = .ok (.istore 8, 2) := by decide +kernel
theorem dX10_matchesSome_0 : decode cX10_matchesSome 0 = .ok (.aload_n 0, 1) := by decide +kernel
theorem dX10_matchesSome_1 : decode cX10_matchesSome 1 = .ok (.getfield 15, 3) := by decide +kernel
theorem dX10_matchesSome_11 : decode cX10_matchesSome 11 = .ok (.iload 6, 2) := by decide +kernel
theorem dX10_matchesSome_13 : decode cX10_matchesSome 13 = .ok (.bipush 12, 2) := by decide +kernel
theorem dX10_matchesSome_15 : decode cX10_matchesSome 15 = .ok (.if_icmp .ge 40, 3) := by decide +kernel
theorem dX10_matchesSome_18 : decode cX10_matchesSome 18 = .ok (.iload 5, 2) := by decide +kernel
theorem dX10_matchesSome_20 : decode cX10_matchesSome 20 = .ok (.ifCond .lt 35, 3) := by decide +kernel
theorem dX10_matchesSome_23 : decode cX10_matchesSome 23 = .ok (.aload_n 0, 1) := by decide +kernel
theorem dX10_matchesSome_24 : decode cX10_matchesSome 24 = .ok (.iload 5, 2) := by decide +kernel
theorem dX10_matchesSome_26 : decode cX10_matchesSome 26 = .ok (.iload_n 2, 1) := by decide +kernel
theorem dX10_matchesSome_27 : decode cX10_matchesSome 27 = .ok (.iload_n 3, 1) := by decide +kernel
theorem dX10_matchesSome_28 : decode cX10_matchesSome 28 = .ok (.iconst 1, 1) := by decide +kernel
theorem dX10_matchesSome_29 : decode cX10_matchesSome 29 = .ok (.iadd, 1) := by decide +kernel
theorem dX10_matchesSome_30 : decode cX10_matchesSome 30 = .ok (.invokevirtual 145, 3) := by decide +kernel
theorem dX10_matchesSome_33 : decode cX10_matchesSome 33 = .ok (.iload 4, 2) := by decide +kernel
theorem dX10_matchesSome_35 : decode cX10_matchesSome 35 = .ok (.if_icmp .ne 5, 3) := by decide +kernel
theorem dX10_matchesSome_38 : decode cX10_matchesSome 38 = .ok (.iconst 1, 1) := by decide +kernel
theorem dX10_matchesSome_39 : decode cX10_matchesSome 39 = .ok (.ireturn, 1) := by decide +kernel
theorem dX10_matchesSome_4 : decode cX10_matchesSome 4 = .ok (.iload_n 1, 1) := by decide +kernel
theorem dX10_matchesSome_40 : decode cX10_matchesSome 40 = .ok (.aload_n 0, 1) := by decide +kernel
theorem dX10_matchesSome_41 : decode cX10_matchesSome 41 = .ok (.getfield 18, 3) := by decide +kernel
theorem dX10_matchesSome_44 : decode cX10_matchesSome 44 = .ok (.iload 5, 2) := by decide +kernel
theorem dX10_matchesSome_46 : decode cX10_matchesSome 46 = .ok (.iaload, 1) := by decide +kernel
theorem dX10_matchesSome_47 : decode cX10_matchesSome 47 = .ok (.istore 5, 2) := by decide +kernel
theorem dX10_matchesSome_49 : decode cX10_matchesSome 49 = .ok (.iinc 6 1, 3) := by decide +kernel
theorem dX10_matchesSome_5 : decode cX10_matchesSome 5 = .ok (.iaload, 1) := by decide +kernel
theorem dX10_matchesSome_52 : decode cX10_matchesSome 52 = .ok (.goto (-41), 3) := by decide +kernel
theorem dX10_matchesSome_55 : decode cX10_matchesSome 55 = .ok (.iconst 0, 1) := by decide +kernel
theorem dX10_matchesSome_56 : decode cX10_matchesSome 56 = .ok (.ireturn, 1) := by decide +kernel
theorem dX10_matchesSome_6 : decode cX10_matchesSome 6 = .ok (.istore 5, 2) := by decide +kernel
theorem dX10_matchesSome_8 : decode cX10_matchesSome 8 = .ok (.iconst 0, 1) := by decide +kernel
theorem dX10_matchesSome_9 : decode cX10_matchesSome 9 = .ok (.istore 6, 2) := by decide +kernel
theorem dX10_matches_0 : decode cX10_matches 0 = .ok (.iload_n 3, 1) := by decide +kernel
theorem dX10_matches_1 : decode cX10_matches 1 = .ok (.bipush 100, 2) := by decide +kernel
theorem dX10_matches_12 : decode cX10_matches 12 = .ok (.aload_n 0, 1) := by decide +kernel
theorem dX10_matches_13 : decode cX10_matches 13 = .ok (.getfield 30, 3) := by decide +kernel
theorem dX10_matches_148 : decode cX10_matches 148 = .ok (.iload_n 2, 1) := by decide +kernel
theorem dX10_matches_149 : decode cX10_matches 149 = .ok (.ifCond .lt 7, 3) := by decide +kernel
theorem dX10_matches_152 : decode cX10_matches 152 = .ok (.iconst 1, 1) := by decide +kernel
theorem dX10_matches_153 : decode cX10_matches 153 = .ok (.goto 4, 3) := by decide +kernel
theorem dX10_matches_156 : decode cX10_matches 156 = .ok (.iconst 0, 1) := by decide +kernel
theorem dX10_matches_157 : decode cX10_matches 157 = .ok (.ireturn, 1) := by decide +kernel
theorem dX10_matches_158 : decode cX10_matches 158 = .ok (.iconst 1, 1) := by decide +kernel
theorem dX10_matches_159 : decode cX10_matches 159 = .ok (.ireturn, 1) := by decide +kernel
theorem dX10_matches_16 : decode cX10_matches 16 = .ok (.iload_n 1, 1) := by decide +kernel
theorem dX10_matches_160 : decode cX10_matches 160 = .ok (.iload_n 2, 1) := by decide +kernel
theorem dX10_matches_161 : decode cX10_matches 161 = .ok (.ifCond .ge 7, 3) := by decide +kernel
theorem dX10_matches_164 : decode cX10_matches 164 = .ok (.iconst 1, 1) := by decide +kernel
theorem dX10_matches_165 : decode cX10_matches 165 = .ok (.goto 4, 3) := by decide +kernel
theorem dX10_matches_168 : decode cX10_matches 168 = .ok (.iconst 0, 1) := by decide +kernel
theorem dX10_matches_169 : decode cX10_matches 169 = .ok (.ireturn, 1) := by decide +kernel
theorem dX10_matches_17 : decode cX10_matches 17 = .ok (.baload, 1) := by decide +kernel
theorem dX10_matches_170 : decode cX10_matches 170 = .ok (.iload_n 2, 1) := by decide +kernel
theorem dX10_matches_171 : decode cX10_matches 171 = .ok (.ifCond .lt 36, 3) := by decide +kernel
theorem dX10_matches_174 : decode cX10_matches 174 = .ok (.aload_n 0, 1) := by decide +kernel
theorem dX10_matches_175 : decode cX10_matches 175 = .ok (.getfield 67, 3) := by decide +kernel
theorem dX10_matches_178 : decode cX10_matches 178 = .ok (.aload_n 0, 1) := by decide +kernel
theorem dX10_matches_179 : decode cX10_matches 179 = .ok (.getfield 132, 3) := by decide +kernel
theorem dX10_matches_18 : decode cX10_matches 18 = .ok (.ifCond .eq 5, 3) := by decide +kernel
theorem dX10_matches_182 : decode cX10_matches 182 = .ok (.iload_n 2, 1) := by decide +kernel
theorem dX10_matches_183 : decode cX10_matches 183 = .ok (.iadd, 1) := by decide +kernel
theorem dX10_matches_184 : decode cX10_matches 184 = .ok (.laload, 1) := by decide +kernel
theorem dX10_matches_185 : decode cX10_matches 185 = .ok (.aload_n 0, 1) := by decide +kernel
theorem dX10_matches_186 : decode cX10_matches 186 = .ok (.getfield 34, 3) := by decide +kernel
theorem dX10_matches_189 : decode cX10_matches 189 = .ok (.iload_n 1, 1) := by decide +kernel
theorem dX10_matches_190 : decode cX10_matches 190 = .ok (.laload, 1) := by decide +kernel
theorem dX10_matches_191 : decode cX10_matches 191 = .ok (.aload_n 0, 1) := by decide +kernel
theorem dX10_matches_192 : decode cX10_matches 192 = .ok (.getfield 38, 3) := by decide +kernel
theorem dX10_matches_195 : decode cX10_matches 195 = .ok (.iload_n 1, 1) := by decide +kernel
theorem dX10_matches_196 : decode cX10_matches 196 = .ok (.laload, 1) := by decide +kernel
theorem dX10_matches_197 : decode cX10_matches 197 = .ok (.invokestatic 153, 3) := by decide +kernel
theorem dX10_matches_200 : decode cX10_matches 200 = .ok (.ifCond .eq 7, 3) := by decide +kernel
theorem dX10_matches_203 : decode cX10_matches 203 = .ok (.iconst 1, 1) := by decide +kernel
theorem dX10_matches_204 : decode cX10_matches 204 = .ok (.goto 4, 3) := by decide +kernel
theorem dX10_matches_207 : decode cX10_matches 207 = .ok (.iconst 0, 1) := by decide +kernel
theorem dX10_matches_208 : decode cX10_matches 208 = .ok (.ireturn, 1) := by decide +kernel
theorem dX10_matches_209 : decode cX10_matches 209 = .ok (.iload_n 2, 1) := by decide +kernel
theorem dX10_matches_21 : decode cX10_matches 21 = .ok (.iconst 1, 1) := by decide +kernel
theorem dX10_matches_210 : decode cX10_matches 210 = .ok (.ifCond .lt 36, 3) := by decide +kernel
theorem dX10_matches_213 : decode cX10_matches 213 = .ok (.aload_n 0, 1) := by decide +kernel
theorem dX10_matches_214 : decode cX10_matches 214 = .ok (.getfield 67, 3) := by decide +kernel
theorem dX10_matches_217 : decode cX10_matches 217 = .ok (.aload_n 0, 1) := by decide +kernel
theorem dX10_matches_218 : decode cX10_matches 218 = .ok (.getfield 132, 3) := by decide +kernel
theorem dX10_matches_22 : decode cX10_matches 22 = .ok (.ireturn, 1) := by decide +kernel
theorem dX10_matches_221 : decode cX10_matches 221 = .ok (.iload_n 2, 1) := by decide +kernel
theorem dX10_matches_222 : decode cX10_matches 222 = .ok (.iadd, 1) := by decide +kernel
theorem dX10_matches_223 : decode cX10_matches 223 = .ok (.aload_n 0, 1) := by decide +kernel
theorem dX10_matches_224 : decode cX10_matches 224 = .ok (.getfield 58, 3) := by decide +kernel
theorem dX10_matches_227 : decode cX10_matches 227 = .ok (.getfield 62, 3) := by decide +kernel
theorem dX10_matches_23 : decode cX10_matches 23 = .ok (.aload_n 0, 1) := by decide +kernel
theorem dX10_matches_230 : decode cX10_matches 230 = .ok (.aload_n 0, 1) := by decide +kernel
theorem dX10_matches_231 : decode cX10_matches 231 = .ok (.getfield 21, 3) := by decide +kernel
theorem dX10_matches_234 : decode cX10_matches 234 = .ok (.iload_n 1, 1) := by decide +kernel
theorem dX10_matches_235 : decode cX10_matches 235 = .ok (.iaload, 1) := by decide +kernel
theorem dX10_matches_236 : decode cX10_matches 236 = .ok (.invokestatic 128, 3) := by decide +kernel
theorem dX10_matches_239 : decode cX10_matches 239 = .ok (.ifCond .eq 7, 3) := by decide +kernel
theorem dX10_matches_24 : decode cX10_matches 24 = .ok (.getfield 27, 3) := by decide +kernel
theorem dX10_matches_242 : decode cX10_matches 242 = .ok (.iconst 1, 1) := by decide +kernel
theorem dX10_matches_243 : decode cX10_matches 243 = .ok (.goto 4, 3) := by decide +kernel
theorem dX10_matches_246 : decode cX10_matches 246 = .ok (.iconst 0, 1) := by decide +kernel
theorem dX10_matches_247 : decode cX10_matches 247 = .ok (.ireturn, 1) := by decide +kernel
theorem dX10_matches_248 : decode cX10_matches 248 = .ok (.iload_n 2, 1) := by decide +kernel
theorem dX10_matches_249 : decode cX10_matches 249 = .ok (.ifCond .lt 33, 3) := by decide +kernel
theorem dX10_matches_252 : decode cX10_matches 252 = .ok (.aload_n 0, 1) := by decide +kernel
theorem dX10_matches_253 : decode cX10_matches 253 = .ok (.getfield 67, 3) := by decide +kernel
theorem dX10_matches_256 : decode cX10_matches 256 = .ok (.aload_n 0, 1) := by decide +kernel
theorem dX10_matches_257 : decode cX10_matches 257 = .ok (.getfield 132, 3) := by decide +kernel
theorem dX10_matches_260 : decode cX10_matches 260 = .ok (.iload_n 2, 1) := by decide +kernel
theorem dX10_matches_261 : decode cX10_matches 261 = .ok (.iadd, 1) := by decide +kernel
theorem dX10_matches_262 : decode cX10_matches 262 = .ok (.laload, 1) := by decide +kernel
theorem dX10_matches_263 : decode cX10_matches 263 = .ok (.iconst 3, 1) := by decide +kernel
theorem dX10_matches_264 : decode cX10_matches 264 = .ok (.aload_n 0, 1) := by decide +kernel
theorem dX10_matches_265 : decode cX10_matches 265 = .ok (.getfield 21, 3) := by decide +kernel
theorem dX10_matches_268 : decode cX10_matches 268 = .ok (.iload_n 1, 1) := by decide +kernel
theorem dX10_matches_269 : decode cX10_matches 269 = .ok (.iaload, 1) := by decide +kernel
theorem dX10_matches_27 : decode cX10_matches 27 = .ok (.iload_n 1, 1) := by decide +kernel
theorem dX10_matches_270 : decode cX10_matches 270 = .ok (.i2l, 1) := by decide +kernel
theorem dX10_matches_271 : decode cX10_matches 271 = .ok (.invokestatic 157, 3) := by decide +kernel
theorem dX10_matches_274 : decode cX10_matches 274 = .ok (.lcmp, 1) := by decide +kernel
theorem dX10_matches_275 : decode cX10_matches 275 = .ok (.ifCond .ne 7, 3) := by decide +kernel
theorem dX10_matches_278 : decode cX10_matches 278 = .ok (.iconst 1, 1) := by decide +kernel
theorem dX10_matches_279 : decode cX10_matches 279 = .ok (.goto 4, 3) := by decide +kernel
theorem dX10_matches_28 : decode cX10_matches 28 = .ok (.iaload, 1) := by decide +kernel
theorem dX10_matches_282 : decode cX10_matches 282 = .ok (.iconst 0, 1) := by decide +kernel
theorem dX10_matches_283 : decode cX10_matches 283 = .ok (.ireturn, 1) := by decide +kernel
theorem dX10_matches_284 : decode cX10_matches 284 = .ok (.iload_n 2, 1) := by decide +kernel
theorem dX10_matches_285 : decode cX10_matches 285 = .ok (.ifCond .lt 44, 3) := by decide +kernel
theorem dX10_matches_288 : decode cX10_matches 288 = .ok (.aload_n 0, 1) := by decide +kernel
theorem dX10_matches_289 : decode cX10_matches 289 = .ok (.getfield 67, 3) := by decide +kernel
theorem dX10_matches_29 : decode cX10_matches 29 = .ok (.ifCond .eq 32, 3) := by decide +kernel
theorem dX10_matches_292 : decode cX10_matches 292 = .ok (.aload_n 0, 1) := by decide +kernel
theorem dX10_matches_293 : decode cX10_matches 293 = .ok (.getfield 132, 3) := by decide +kernel
theorem dX10_matches_296 : decode cX10_matches 296 = .ok (.iload_n 2, 1) := by decide +kernel
theorem dX10_matches_297 : decode cX10_matches 297 = .ok (.iadd, 1) := by decide +kernel
theorem dX10_matches_298 : decode cX10_matches 298 = .ok (.laload, 1) := by decide +kernel
theorem dX10_matches_299 : decode cX10_matches 299 = .ok (.invokestatic 122, 3) := by decide +kernel
theorem dX10_matches_3 : decode cX10_matches 3 = .ok (.if_icmp .le 5, 3) := by decide +kernel
theorem dX10_matches_302 : decode cX10_matches 302 = .ok (.iconst 2, 1) := by decide +kernel
theorem dX10_matches_303 : decode cX10_matches 303 = .ok (.if_icmp .ne 26, 3) := by decide +kernel
theorem dX10_matches_306 : decode cX10_matches 306 = .ok (.aload_n 0, 1) := by decide +kernel
theorem dX10_matches_307 : decode cX10_matches 307 = .ok (.aload_n 0, 1) := by decide +kernel
theorem dX10_matches_308 : decode cX10_matches 308 = .ok (.getfield 21, 3) := by decide +kernel
theorem dX10_matches_311 : decode cX10_matches 311 = .ok (.iload_n 1, 1) := by decide +kernel
theorem dX10_matches_312 : decode cX10_matches 312 = .ok (.iaload, 1) := by decide +kernel
theorem dX10_matches_313 : decode cX10_matches 313 = .ok (.aload_n 0, 1) := by decide +kernel
theorem dX10_matches_314 : decode cX10_matches 314 = .ok (.getfield 132, 3) := by decide +kernel
theorem dX10_matches_317 : decode cX10_matches 317 = .ok (.iload_n 2, 1) := by decide +kernel
theorem dX10_matches_318 : decode cX10_matches 318 = .ok (.iadd, 1) := by decide +kernel
theorem dX10_matches_319 : decode cX10_matches 319 = .ok (.invokevirtual 161, 3) := by decide +kernel
theorem dX10_matches_32 : decode cX10_matches 32 = .ok (.iload_n 2, 1) := by decide +kernel
theorem dX10_matches_322 : decode cX10_matches 322 = .ok (.ifCond .eq 7, 3) := by decide +kernel
theorem dX10_matches_325 : decode cX10_matches 325 = .ok (.iconst 1, 1) := by decide +kernel
theorem dX10_matches_326 : decode cX10_matches 326 = .ok (.goto 4, 3) := by decide +kernel
theorem dX10_matches_329 : decode cX10_matches 329 = .ok (.iconst 0, 1) := by decide +kernel
theorem dX10_matches_33 : decode cX10_matches 33 = .ok (.ifCond .lt 26, 3) := by decide +kernel
theorem dX10_matches_330 : decode cX10_matches 330 = .ok (.ireturn, 1) := by decide +kernel
theorem dX10_matches_331 : decode cX10_matches 331 = .ok (.iload_n 2, 1) := by decide +kernel
theorem dX10_matches_332 : decode cX10_matches 332 = .ok (.bipush 63, 2) := by decide +kernel
theorem dX10_matches_334 : decode cX10_matches 334 = .ok (.if_icmp .ge 16, 3) := by decide +kernel
theorem dX10_matches_337 : decode cX10_matches 337 = .ok (.aload_n 0, 1) := by decide +kernel
theorem dX10_matches_338 : decode cX10_matches 338 = .ok (.getfield 34, 3) := by decide +kernel
theorem dX10_matches_341 : decode cX10_matches 341 = .ok (.iload_n 1, 1) := by decide +kernel
theorem dX10_matches_342 : decode cX10_matches 342 = .ok (.laload, 1) := by decide +kernel
theorem dX10_matches_343 : decode cX10_matches 343 = .ok (.iload_n 2, 1) := by decide +kernel
theorem dX10_matches_344 : decode cX10_matches 344 = .ok (.iconst 1, 1) := by decide +kernel
theorem dX10_matches_345 : decode cX10_matches 345 = .ok (.iadd, 1) := by decide +kernel
theorem dX10_matches_346 : decode cX10_matches 346 = .ok (.lshr, 1) := by decide +kernel
theorem dX10_matches_347 : decode cX10_matches 347 = .ok (.goto 14, 3) := by decide +kernel
theorem dX10_matches_350 : decode cX10_matches 350 = .ok (.aload_n 0, 1) := by decide +kernel
theorem dX10_matches_351 : decode cX10_matches 351 = .ok (.getfield 38, 3) := by decide +kernel
theorem dX10_matches_354 : decode cX10_matches 354 = .ok (.iload_n 1, 1) := by decide +kernel
theorem dX10_matches_355 : decode cX10_matches 355 = .ok (.laload, 1) := by decide +kernel
theorem dX10_matches_356 : decode cX10_matches 356 = .ok (.iload_n 2, 1) := by decide +kernel
theorem dX10_matches_357 : decode cX10_matches 357 = .ok (.bipush 63, 2) := by decide +kernel
theorem dX10_matches_359 : decode cX10_matches 359 = .ok (.isub, 1) := by decide +kernel
theorem dX10_matches_36 : decode cX10_matches 36 = .ok (.aload_n 0, 1) := by decide +kernel
theorem dX10_matches_360 : decode cX10_matches 360 = .ok (.lshr, 1) := by decide +kernel
theorem dX10_matches_361 : decode cX10_matches 361 = .ok (.lconst 1, 1) := by decide +kernel
theorem dX10_matches_362 : decode cX10_matches 362 = .ok (.land, 1) := by decide +kernel
theorem dX10_matches_363 : decode cX10_matches 363 = .ok (.lconst 0, 1) := by decide +kernel
theorem dX10_matches_364 : decode cX10_matches 364 = .ok (.lcmp, 1) := by decide +kernel
theorem dX10_matches_365 : decode cX10_matches 365 = .ok (.ifCond .eq 7, 3) := by decide +kernel
theorem dX10_matches_368 : decode cX10_matches 368 = .ok (.iconst 1, 1) := by decide +kernel
theorem dX10_matches_369 : decode cX10_matches 369 = .ok (.goto 4, 3) := by decide +kernel
theorem dX10_matches_37 : decode cX10_matches 37 = .ok (.getfield 27, 3) := by decide +kernel
theorem dX10_matches_372 : decode cX10_matches 372 = .ok (.iconst 0, 1) := by decide +kernel
theorem dX10_matches_373 : decode cX10_matches 373 = .ok (.ireturn, 1) := by decide +kernel
theorem dX10_matches_374 : decode cX10_matches 374 = .ok (.aload_n 0, 1) := by decide +kernel
theorem dX10_matches_375 : decode cX10_matches 375 = .ok (.aload_n 0, 1) := by decide +kernel
theorem dX10_matches_376 : decode cX10_matches 376 = .ok (.getfield 21, 3) := by decide +kernel
theorem dX10_matches_379 : decode cX10_matches 379 = .ok (.iload_n 1, 1) := by decide +kernel
theorem dX10_matches_380 : decode cX10_matches 380 = .ok (.iaload, 1) := by decide +kernel
theorem dX10_matches_381 : decode cX10_matches 381 = .ok (.iload_n 2, 1) := by decide +kernel
theorem dX10_matches_382 : decode cX10_matches 382 = .ok (.iload_n 3, 1) := by decide +kernel
theorem dX10_matches_383 : decode cX10_matches 383 = .ok (.invokevirtual 165, 3) := by decide +kernel
theorem dX10_matches_386 : decode cX10_matches 386 = .ok (.ireturn, 1) := by decide +kernel
theorem dX10_matches_387 : decode cX10_matches 387 = .ok (.iload_n 2, 1) := by decide +kernel
theorem dX10_matches_388 : decode cX10_matches 388 = .ok (.ifCond .lt 36, 3) := by decide +kernel
theorem dX10_matches_391 : decode cX10_matches 391 = .ok (.aload_n 0, 1) := by decide +kernel
theorem dX10_matches_392 : decode cX10_matches 392 = .ok (.getfield 67, 3) := by decide +kernel
theorem dX10_matches_395 : decode cX10_matches 395 = .ok (.aload_n 0, 1) := by decide +kernel
theorem dX10_matches_396 : decode cX10_matches 396 = .ok (.getfield 132, 3) := by decide +kernel
theorem dX10_matches_399 : decode cX10_matches 399 = .ok (.iload_n 2, 1) := by decide +kernel
theorem dX10_matches_40 : decode cX10_matches 40 = .ok (.iload_n 1, 1) := by decide +kernel
theorem dX10_matches_400 : decode cX10_matches 400 = .ok (.iadd, 1) := by decide +kernel
theorem dX10_matches_401 : decode cX10_matches 401 = .ok (.laload, 1) := by decide +kernel
theorem dX10_matches_402 : decode cX10_matches 402 = .ok (.invokestatic 122, 3) := by decide +kernel
theorem dX10_matches_405 : decode cX10_matches 405 = .ok (.bipush 6, 2) := by decide +kernel
theorem dX10_matches_407 : decode cX10_matches 407 = .ok (.if_icmp .ne 17, 3) := by decide +kernel
theorem dX10_matches_41 : decode cX10_matches 41 = .ok (.iaload, 1) := by decide +kernel
theorem dX10_matches_410 : decode cX10_matches 410 = .ok (.aload_n 0, 1) := by decide +kernel
theorem dX10_matches_411 : decode cX10_matches 411 = .ok (.iload_n 1, 1) := by decide +kernel
theorem dX10_matches_412 : decode cX10_matches 412 = .ok (.iload_n 2, 1) := by decide +kernel
theorem dX10_matches_413 : decode cX10_matches 413 = .ok (.iload_n 3, 1) := by decide +kernel
theorem dX10_matches_414 : decode cX10_matches 414 = .ok (.invokevirtual 168, 3) := by decide +kernel
theorem dX10_matches_417 : decode cX10_matches 417 = .ok (.ifCond .eq 7, 3) := by decide +kernel
theorem dX10_matches_42 : decode cX10_matches 42 = .ok (.aload_n 0, 1) := by decide +kernel
theorem dX10_matches_420 : decode cX10_matches 420 = .ok (.iconst 1, 1) := by decide +kernel
theorem dX10_matches_421 : decode cX10_matches 421 = .ok (.goto 4, 3) := by decide +kernel
theorem dX10_matches_424 : decode cX10_matches 424 = .ok (.iconst 0, 1) := by decide +kernel
theorem dX10_matches_425 : decode cX10_matches 425 = .ok (.ireturn, 1) := by decide +kernel
theorem dX10_matches_426 : decode cX10_matches 426 = .ok (.iload_n 2, 1) := by decide +kernel
theorem dX10_matches_427 : decode cX10_matches 427 = .ok (.ifCond .lt 68, 3) := by decide +kernel
theorem dX10_matches_43 : decode cX10_matches 43 = .ok (.getfield 67, 3) := by decide +kernel
theorem dX10_matches_430 : decode cX10_matches 430 = .ok (.aload_n 0, 1) := by decide +kernel
theorem dX10_matches_431 : decode cX10_matches 431 = .ok (.getfield 67, 3) := by decide +kernel
theorem dX10_matches_434 : decode cX10_matches 434 = .ok (.aload_n 0, 1) := by decide +kernel
theorem dX10_matches_435 : decode cX10_matches 435 = .ok (.getfield 132, 3) := by decide +kernel
theorem dX10_matches_438 : decode cX10_matches 438 = .ok (.iload_n 2, 1) := by decide +kernel
theorem dX10_matches_439 : decode cX10_matches 439 = .ok (.iadd, 1) := by decide +kernel
theorem dX10_matches_440 : decode cX10_matches 440 = .ok (.laload, 1) := by decide +kernel
theorem dX10_matches_441 : decode cX10_matches 441 = .ok (.invokestatic 122, 3) := by decide +kernel
theorem dX10_matches_444 : decode cX10_matches 444 = .ok (.bipush 7, 2) := by decide +kernel
theorem dX10_matches_446 : decode cX10_matches 446 = .ok (.if_icmp .ne 49, 3) := by decide +kernel
theorem dX10_matches_449 : decode cX10_matches 449 = .ok (.aload_n 0, 1) := by decide +kernel
theorem dX10_matches_450 : decode cX10_matches 450 = .ok (.getfield 67, 3) := by decide +kernel
theorem dX10_matches_453 : decode cX10_matches 453 = .ok (.aload_n 0, 1) := by decide +kernel
theorem dX10_matches_454 : decode cX10_matches 454 = .ok (.getfield 132, 3) := by decide +kernel
theorem dX10_matches_457 : decode cX10_matches 457 = .ok (.iload_n 2, 1) := by decide +kernel
theorem dX10_matches_458 : decode cX10_matches 458 = .ok (.iadd, 1) := by decide +kernel
theorem dX10_matches_459 : decode cX10_matches 459 = .ok (.laload, 1) := by decide +kernel
theorem dX10_matches_46 : decode cX10_matches 46 = .ok (.aload_n 0, 1) := by decide +kernel
theorem dX10_matches_460 : decode cX10_matches 460 = .ok (.invokestatic 171, 3) := by decide +kernel
theorem dX10_matches_463 : decode cX10_matches 463 = .ok (.aload_n 0, 1) := by decide +kernel
theorem dX10_matches_464 : decode cX10_matches 464 = .ok (.getfield 21, 3) := by decide +kernel
theorem dX10_matches_467 : decode cX10_matches 467 = .ok (.iload_n 1, 1) := by decide +kernel
theorem dX10_matches_468 : decode cX10_matches 468 = .ok (.iaload, 1) := by decide +kernel
theorem dX10_matches_469 : decode cX10_matches 469 = .ok (.if_icmp .ne 26, 3) := by decide +kernel
theorem dX10_matches_47 : decode cX10_matches 47 = .ok (.getfield 132, 3) := by decide +kernel
theorem dX10_matches_472 : decode cX10_matches 472 = .ok (.aload_n 0, 1) := by decide +kernel
theorem dX10_matches_473 : decode cX10_matches 473 = .ok (.aload_n 0, 1) := by decide +kernel
theorem dX10_matches_474 : decode cX10_matches 474 = .ok (.getfield 15, 3) := by decide +kernel
theorem dX10_matches_477 : decode cX10_matches 477 = .ok (.iload_n 1, 1) := by decide +kernel
theorem dX10_matches_478 : decode cX10_matches 478 = .ok (.iaload, 1) := by decide +kernel
theorem dX10_matches_479 : decode cX10_matches 479 = .ok (.iload_n 2, 1) := by decide +kernel
theorem dX10_matches_480 : decode cX10_matches 480 = .ok (.iconst 1, 1) := by decide +kernel
theorem dX10_matches_481 : decode cX10_matches 481 = .ok (.iadd, 1) := by decide +kernel
theorem dX10_matches_482 : decode cX10_matches 482 = .ok (.iload_n 3, 1) := by decide +kernel
theorem dX10_matches_483 : decode cX10_matches 483 = .ok (.iconst 1, 1) := by decide +kernel
theorem dX10_matches_484 : decode cX10_matches 484 = .ok (.iadd, 1) := by decide +kernel
theorem dX10_matches_485 : decode cX10_matches 485 = .ok (.invokevirtual 145, 3) := by decide +kernel
theorem dX10_matches_488 : decode cX10_matches 488 = .ok (.ifCond .eq 7, 3) := by decide +kernel
theorem dX10_matches_491 : decode cX10_matches 491 = .ok (.iconst 1, 1) := by decide +kernel
theorem dX10_matches_492 : decode cX10_matches 492 = .ok (.goto 4, 3) := by decide +kernel
theorem dX10_matches_495 : decode cX10_matches 495 = .ok (.iconst 0, 1) := by decide +kernel
theorem dX10_matches_496 : decode cX10_matches 496 = .ok (.ireturn, 1) := by decide +kernel
theorem dX10_matches_497 : decode cX10_matches 497 = .ok (.iload_n 2, 1) := by decide +kernel
theorem dX10_matches_498 : decode cX10_matches 498 = .ok (.ifCond .lt 36, 3) := by decide +kernel
theorem dX10_matches_50 : decode cX10_matches 50 = .ok (.iload_n 2, 1) := by decide +kernel
theorem dX10_matches_501 : decode cX10_matches 501 = .ok (.aload_n 0, 1) := by decide +kernel
theorem dX10_matches_502 : decode cX10_matches 502 = .ok (.getfield 67, 3) := by decide +kernel
theorem dX10_matches_505 : decode cX10_matches 505 = .ok (.aload_n 0, 1) := by decide +kernel
theorem dX10_matches_506 : decode cX10_matches 506 = .ok (.getfield 132, 3) := by decide +kernel
theorem dX10_matches_509 : decode cX10_matches 509 = .ok (.iload_n 2, 1) := by decide +kernel
theorem dX10_matches_51 : decode cX10_matches 51 = .ok (.iadd, 1) := by decide +kernel
theorem dX10_matches_510 : decode cX10_matches 510 = .ok (.iadd, 1) := by decide +kernel
theorem dX10_matches_511 : decode cX10_matches 511 = .ok (.laload, 1) := by decide +kernel
theorem dX10_matches_512 : decode cX10_matches 512 = .ok (.invokestatic 122, 3) := by decide +kernel
theorem dX10_matches_515 : decode cX10_matches 515 = .ok (.bipush 8, 2) := by decide +kernel
theorem dX10_matches_517 : decode cX10_matches 517 = .ok (.if_icmp .ne 17, 3) := by decide +kernel
theorem dX10_matches_52 : decode cX10_matches 52 = .ok (.laload, 1) := by decide +kernel
theorem dX10_matches_520 : decode cX10_matches 520 = .ok (.aload_n 0, 1) := by decide +kernel
theorem dX10_matches_521 : decode cX10_matches 521 = .ok (.iload_n 1, 1) := by decide +kernel
theorem dX10_matches_522 : decode cX10_matches 522 = .ok (.iload_n 2, 1) := by decide +kernel
theorem dX10_matches_523 : decode cX10_matches 523 = .ok (.iload_n 3, 1) := by decide +kernel
theorem dX10_matches_524 : decode cX10_matches 524 = .ok (.invokevirtual 174, 3) := by decide +kernel
theorem dX10_matches_527 : decode cX10_matches 527 = .ok (.ifCond .eq 7, 3) := by decide +kernel
theorem dX10_matches_53 : decode cX10_matches 53 = .ok (.invokestatic 149, 3) := by decide +kernel
theorem dX10_matches_530 : decode cX10_matches 530 = .ok (.iconst 1, 1) := by decide +kernel
theorem dX10_matches_531 : decode cX10_matches 531 = .ok (.goto 4, 3) := by decide +kernel
theorem dX10_matches_534 : decode cX10_matches 534 = .ok (.iconst 0, 1) := by decide +kernel
theorem dX10_matches_535 : decode cX10_matches 535 = .ok (.ireturn, 1) := by decide +kernel
theorem dX10_matches_536 : decode cX10_matches 536 = .ok (.iload_n 2, 1) := by decide +kernel
theorem dX10_matches_537 : decode cX10_matches 537 = .ok (.ifCond .lt 22, 3) := by decide +kernel
theorem dX10_matches_540 : decode cX10_matches 540 = .ok (.aload_n 0, 1) := by decide +kernel
theorem dX10_matches_541 : decode cX10_matches 541 = .ok (.getfield 67, 3) := by decide +kernel
theorem dX10_matches_544 : decode cX10_matches 544 = .ok (.aload_n 0, 1) := by decide +kernel
theorem dX10_matches_545 : decode cX10_matches 545 = .ok (.getfield 132, 3) := by decide +kernel
theorem dX10_matches_548 : decode cX10_matches 548 = .ok (.iload_n 2, 1) := by decide +kernel
theorem dX10_matches_549 : decode cX10_matches 549 = .ok (.iadd, 1) := by decide +kernel
theorem dX10_matches_550 : decode cX10_matches 550 = .ok (.laload, 1) := by decide +kernel
theorem dX10_matches_551 : decode cX10_matches 551 = .ok (.invokestatic 122, 3) := by decide +kernel
theorem dX10_matches_554 : decode cX10_matches 554 = .ok (.bipush 8, 2) := by decide +kernel
theorem dX10_matches_556 : decode cX10_matches 556 = .ok (.if_icmp .eq 5, 3) := by decide +kernel
theorem dX10_matches_559 : decode cX10_matches 559 = .ok (.iconst 0, 1) := by decide +kernel
theorem dX10_matches_56 : decode cX10_matches 56 = .ok (.ifCond .ne 5, 3) := by decide +kernel
theorem dX10_matches_560 : decode cX10_matches 560 = .ok (.ireturn, 1) := by decide +kernel
theorem dX10_matches_561 : decode cX10_matches 561 = .ok (.aload_n 0, 1) := by decide +kernel
theorem dX10_matches_562 : decode cX10_matches 562 = .ok (.iload_n 1, 1) := by decide +kernel
theorem dX10_matches_563 : decode cX10_matches 563 = .ok (.iload_n 2, 1) := by decide +kernel
theorem dX10_matches_564 : decode cX10_matches 564 = .ok (.iload_n 3, 1) := by decide +kernel
theorem dX10_matches_565 : decode cX10_matches 565 = .ok (.invokevirtual 177, 3) := by decide +kernel
theorem dX10_matches_568 : decode cX10_matches 568 = .ok (.istore 4, 2) := by decide +kernel
theorem dX10_matches_570 : decode cX10_matches 570 = .ok (.aload_n 0, 1) := by decide +kernel
theorem dX10_matches_571 : decode cX10_matches 571 = .ok (.iload_n 3, 1) := by decide +kernel
theorem dX10_matches_572 : decode cX10_matches 572 = .ok (.iload 4, 2) := by decide +kernel
theorem dX10_matches_574 : decode cX10_matches 574 = .ok (.ldc 181, 2) := by decide +kernel
theorem dX10_matches_576 : decode cX10_matches 576 = .ok (.invokevirtual 182, 3) := by decide +kernel
theorem dX10_matches_579 : decode cX10_matches 579 = .ok (.aload_n 0, 1) := by decide +kernel
theorem dX10_matches_580 : decode cX10_matches 580 = .ok (.getfield 11, 3) := by decide +kernel
theorem dX10_matches_583 : decode cX10_matches 583 = .ok (.iload_n 1, 1) := by decide +kernel
theorem dX10_matches_584 : decode cX10_matches 584 = .ok (.iaload, 1) := by decide +kernel
theorem dX10_matches_585 : decode cX10_matches 585 = .ok (.bipush 15, 2) := by decide +kernel
theorem dX10_matches_587 : decode cX10_matches 587 = .ok (.if_icmp .ne 20, 3) := by decide +kernel
theorem dX10_matches_59 : decode cX10_matches 59 = .ok (.iconst 0, 1) := by decide +kernel
theorem dX10_matches_590 : decode cX10_matches 590 = .ok (.aload_n 0, 1) := by decide +kernel
theorem dX10_matches_591 : decode cX10_matches 591 = .ok (.getfield 67, 3) := by decide +kernel
theorem dX10_matches_594 : decode cX10_matches 594 = .ok (.aload_n 0, 1) := by decide +kernel
theorem dX10_matches_595 : decode cX10_matches 595 = .ok (.getfield 132, 3) := by decide +kernel
theorem dX10_matches_598 : decode cX10_matches 598 = .ok (.iload_n 2, 1) := by decide +kernel
theorem dX10_matches_599 : decode cX10_matches 599 = .ok (.iadd, 1) := by decide +kernel
theorem dX10_matches_6 : decode cX10_matches 6 = .ok (.iconst 0, 1) := by decide +kernel
theorem dX10_matches_60 : decode cX10_matches 60 = .ok (.ireturn, 1) := by decide +kernel
theorem dX10_matches_600 : decode cX10_matches 600 = .ok (.laload, 1) := by decide +kernel
theorem dX10_matches_601 : decode cX10_matches 601 = .ok (.invokestatic 185, 3) := by decide +kernel
theorem dX10_matches_604 : decode cX10_matches 604 = .ok (.goto 5, 3) := by decide +kernel
theorem dX10_matches_607 : decode cX10_matches 607 = .ok (.iload 4, 2) := by decide +kernel
theorem dX10_matches_609 : decode cX10_matches 609 = .ok (.if_icmp .ne 7, 3) := by decide +kernel
theorem dX10_matches_61 : decode cX10_matches 61 = .ok (.aload_n 0, 1) := by decide +kernel
theorem dX10_matches_612 : decode cX10_matches 612 = .ok (.iconst 1, 1) := by decide +kernel
theorem dX10_matches_613 : decode cX10_matches 613 = .ok (.goto 4, 3) := by decide +kernel
theorem dX10_matches_616 : decode cX10_matches 616 = .ok (.iconst 0, 1) := by decide +kernel
theorem dX10_matches_617 : decode cX10_matches 617 = .ok (.ireturn, 1) := by decide +kernel
theorem dX10_matches_618 : decode cX10_matches 618 = .ok (.iload_n 2, 1) := by decide +kernel
theorem dX10_matches_619 : decode cX10_matches 619 = .ok (.ifCond .lt 18, 3) := by decide +kernel
theorem dX10_matches_62 : decode cX10_matches 62 = .ok (.getfield 11, 3) := by decide +kernel
theorem dX10_matches_622 : decode cX10_matches 622 = .ok (.aload_n 0, 1) := by decide +kernel
theorem dX10_matches_623 : decode cX10_matches 623 = .ok (.iload_n 1, 1) := by decide +kernel
theorem dX10_matches_624 : decode cX10_matches 624 = .ok (.iload_n 2, 1) := by decide +kernel
theorem dX10_matches_625 : decode cX10_matches 625 = .ok (.iload_n 3, 1) := by decide +kernel
theorem dX10_matches_626 : decode cX10_matches 626 = .ok (.iconst 1, 1) := by decide +kernel
theorem dX10_matches_627 : decode cX10_matches 627 = .ok (.invokevirtual 188, 3) := by decide +kernel
theorem dX10_matches_630 : decode cX10_matches 630 = .ok (.ifCond .ne 7, 3) := by decide +kernel
theorem dX10_matches_633 : decode cX10_matches 633 = .ok (.iconst 1, 1) := by decide +kernel
theorem dX10_matches_634 : decode cX10_matches 634 = .ok (.goto 4, 3) := by decide +kernel
theorem dX10_matches_637 : decode cX10_matches 637 = .ok (.iconst 0, 1) := by decide +kernel
theorem dX10_matches_638 : decode cX10_matches 638 = .ok (.ireturn, 1) := by decide +kernel
theorem dX10_matches_639 : decode cX10_matches 639 = .ok (.aload_n 0, 1) := by decide +kernel
theorem dX10_matches_640 : decode cX10_matches 640 = .ok (.iload_n 1, 1) := by decide +kernel
theorem dX10_matches_641 : decode cX10_matches 641 = .ok (.iload_n 2, 1) := by decide +kernel
theorem dX10_matches_642 : decode cX10_matches 642 = .ok (.iload_n 3, 1) := by decide +kernel
theorem dX10_matches_643 : decode cX10_matches 643 = .ok (.iconst 0, 1) := by decide +kernel
theorem dX10_matches_644 : decode cX10_matches 644 = .ok (.invokevirtual 188, 3) := by decide +kernel
theorem dX10_matches_647 : decode cX10_matches 647 = .ok (.ifCond .ne 7, 3) := by decide +kernel
theorem dX10_matches_65 : decode cX10_matches 65 = .ok (.iload_n 1, 1) := by decide +kernel
theorem dX10_matches_650 : decode cX10_matches 650 = .ok (.iconst 1, 1) := by decide +kernel
theorem dX10_matches_651 : decode cX10_matches 651 = .ok (.goto 4, 3) := by decide +kernel
theorem dX10_matches_654 : decode cX10_matches 654 = .ok (.iconst 0, 1) := by decide +kernel
theorem dX10_matches_655 : decode cX10_matches 655 = .ok (.ireturn, 1) := by decide +kernel
theorem dX10_matches_656 : decode cX10_matches 656 = .ok (.aload_n 0, 1) := by decide +kernel
theorem dX10_matches_657 : decode cX10_matches 657 = .ok (.iload_n 1, 1) := by decide +kernel
theorem dX10_matches_658 : decode cX10_matches 658 = .ok (.iload_n 2, 1) := by decide +kernel
theorem dX10_matches_659 : decode cX10_matches 659 = .ok (.iload_n 3, 1) := by decide +kernel
theorem dX10_matches_66 : decode cX10_matches 66 = .ok (.iaload, 1) := by decide +kernel
theorem dX10_matches_660 : decode cX10_matches 660 = .ok (.iconst 1, 1) := by decide +kernel
theorem dX10_matches_661 : decode cX10_matches 661 = .ok (.invokevirtual 188, 3) := by decide +kernel
theorem dX10_matches_664 : decode cX10_matches 664 = .ok (.ireturn, 1) := by decide +kernel
theorem dX10_matches_665 : decode cX10_matches 665 = .ok (.iconst 0, 1) := by decide +kernel
theorem dX10_matches_666 : decode cX10_matches 666 = .ok (.ireturn, 1) := by decide +kernel
theorem dX10_matches_67 : decode cX10_matches 67 = .ok (.tableswitch 598 1 17 #[81, 91, 103, 142, 93, 181, 307, 320, 359, 430, 551, 572, 589, 217, 469, 469, 264], 81) := by decide +kernel
theorem dX10_matches_7 : decode cX10_matches 7 = .ok (.ireturn, 1) := by decide +kernel
theorem dX10_matches_8 : decode cX10_matches 8 = .ok (.iload_n 2, 1) := by decide +kernel
theorem dX10_matches_9 : decode cX10_matches 9 = .ok (.ifCond .ge 14, 3) := by decide +kernel
theorem dX10_relate_0 : decode cX10_relate 0 = .ok (.aload_n 0, 1) := by decide +kernel
theorem dX10_relate_1 : decode cX10_relate 1 = .ok (.getfield 67, 3) := by decide +kernel
theorem dX10_relate_10 : decode cX10_relate 10 = .ok (.laload, 1) := by decide +kernel
theorem dX10_relate_100 : decode cX10_relate 100 = .ok (.iinc 9 1, 3) := by decide +kernel
theorem dX10_relate_103 : decode cX10_relate 103 = .ok (.goto (-53), 3) := by decide +kernel
theorem dX10_relate_106 : decode cX10_relate 106 = .ok (.aload_n 0, 1) := by decide +kernel
theorem dX10_relate_107 : decode cX10_relate 107 = .ok (.getfield 52, 3) := by decide +kernel
theorem dX10_relate_11 : decode cX10_relate 11 = .ok (.invokestatic 185, 3) := by decide +kernel
theorem dX10_relate_110 : decode cX10_relate 110 = .ok (.iload_n 3, 1) := by decide +kernel
theorem dX10_relate_111 : decode cX10_relate 111 = .ok (.bipush 12, 2) := by decide +kernel
theorem dX10_relate_113 : decode cX10_relate 113 = .ok (.imul, 1) := by decide +kernel
theorem dX10_relate_114 : decode cX10_relate 114 = .ok (.iload 5, 2) := by decide +kernel
theorem dX10_relate_116 : decode cX10_relate 116 = .ok (.iadd, 1) := by decide +kernel
theorem dX10_relate_117 : decode cX10_relate 117 = .ok (.iload 7, 2) := by decide +kernel
theorem dX10_relate_119 : decode cX10_relate 119 = .ok (.iastore, 1) := by decide +kernel
theorem dX10_relate_120 : decode cX10_relate 120 = .ok (.aload_n 0, 1) := by decide +kernel
theorem dX10_relate_121 : decode cX10_relate 121 = .ok (.getfield 18, 3) := by decide +kernel
theorem dX10_relate_124 : decode cX10_relate 124 = .ok (.iload 6, 2) := by decide +kernel
theorem dX10_relate_126 : decode cX10_relate 126 = .ok (.iaload, 1) := by decide +kernel
theorem dX10_relate_127 : decode cX10_relate 127 = .ok (.istore 6, 2) := by decide +kernel
theorem dX10_relate_129 : decode cX10_relate 129 = .ok (.iinc 5 1, 3) := by decide +kernel
theorem dX10_relate_132 : decode cX10_relate 132 = .ok (.goto (-105), 3) := by decide +kernel
theorem dX10_relate_135 : decode cX10_relate 135 = .ok (.iload 5, 2) := by decide +kernel
theorem dX10_relate_137 : decode cX10_relate 137 = .ok (.ireturn, 1) := by decide +kernel
theorem dX10_relate_14 : decode cX10_relate 14 = .ok (.istore 4, 2) := by decide +kernel
theorem dX10_relate_16 : decode cX10_relate 16 = .ok (.iconst 0, 1) := by decide +kernel
theorem dX10_relate_17 : decode cX10_relate 17 = .ok (.istore 5, 2) := by decide +kernel
theorem dX10_relate_19 : decode cX10_relate 19 = .ok (.aload_n 0, 1) := by decide +kernel
theorem dX10_relate_20 : decode cX10_relate 20 = .ok (.getfield 15, 3) := by decide +kernel
theorem dX10_relate_23 : decode cX10_relate 23 = .ok (.iload_n 1, 1) := by decide +kernel
theorem dX10_relate_24 : decode cX10_relate 24 = .ok (.iaload, 1) := by decide +kernel
theorem dX10_relate_25 : decode cX10_relate 25 = .ok (.istore 6, 2) := by decide +kernel
theorem dX10_relate_27 : decode cX10_relate 27 = .ok (.iload 5, 2) := by decide +kernel
theorem dX10_relate_29 : decode cX10_relate 29 = .ok (.bipush 12, 2) := by decide +kernel
theorem dX10_relate_31 : decode cX10_relate 31 = .ok (.if_icmp .ge 104, 3) := by decide +kernel
theorem dX10_relate_34 : decode cX10_relate 34 = .ok (.iload 6, 2) := by decide +kernel
theorem dX10_relate_36 : decode cX10_relate 36 = .ok (.ifCond .lt 99, 3) := by decide +kernel
theorem dX10_relate_39 : decode cX10_relate 39 = .ok (.iconst 0, 1) := by decide +kernel
theorem dX10_relate_4 : decode cX10_relate 4 = .ok (.aload_n 0, 1) := by decide +kernel
theorem dX10_relate_40 : decode cX10_relate 40 = .ok (.istore 7, 2) := by decide +kernel
theorem dX10_relate_42 : decode cX10_relate 42 = .ok (.iload_n 2, 1) := by decide +kernel
theorem dX10_relate_43 : decode cX10_relate 43 = .ok (.iconst 1, 1) := by decide +kernel
theorem dX10_relate_44 : decode cX10_relate 44 = .ok (.iadd, 1) := by decide +kernel
theorem dX10_relate_45 : decode cX10_relate 45 = .ok (.istore 8, 2) := by decide +kernel
theorem dX10_relate_47 : decode cX10_relate 47 = .ok (.iconst 0, 1) := by decide +kernel
theorem dX10_relate_48 : decode cX10_relate 48 = .ok (.istore 9, 2) := by decide +kernel
theorem dX10_relate_5 : decode cX10_relate 5 = .ok (.getfield 132, 3) := by decide +kernel
theorem dX10_relate_50 : decode cX10_relate 50 = .ok (.iload 9, 2) := by decide +kernel
theorem dX10_relate_52 : decode cX10_relate 52 = .ok (.iload 4, 2) := by decide +kernel
theorem dX10_relate_54 : decode cX10_relate 54 = .ok (.if_icmp .ge 52, 3) := by decide +kernel
theorem dX10_relate_57 : decode cX10_relate 57 = .ok (.aload_n 0, 1) := by decide +kernel
theorem dX10_relate_58 : decode cX10_relate 58 = .ok (.iload 6, 2) := by decide +kernel
theorem dX10_relate_60 : decode cX10_relate 60 = .ok (.iload 8, 2) := by decide +kernel
theorem dX10_relate_62 : decode cX10_relate 62 = .ok (.iload_n 3, 1) := by decide +kernel
theorem dX10_relate_63 : decode cX10_relate 63 = .ok (.iconst 1, 1) := by decide +kernel
theorem dX10_relate_64 : decode cX10_relate 64 = .ok (.iadd, 1) := by decide +kernel
theorem dX10_relate_65 : decode cX10_relate 65 = .ok (.invokevirtual 145, 3) := by decide +kernel
theorem dX10_relate_68 : decode cX10_relate 68 = .ok (.ifCond .eq 12, 3) := by decide +kernel
theorem dX10_relate_71 : decode cX10_relate 71 = .ok (.iload 7, 2) := by decide +kernel
theorem dX10_relate_73 : decode cX10_relate 73 = .ok (.iconst 1, 1) := by decide +kernel
theorem dX10_relate_74 : decode cX10_relate 74 = .ok (.iload 9, 2) := by decide +kernel
theorem dX10_relate_76 : decode cX10_relate 76 = .ok (.ishl, 1) := by decide +kernel
theorem dX10_relate_77 : decode cX10_relate 77 = .ok (.ior, 1) := by decide +kernel
theorem dX10_relate_78 : decode cX10_relate 78 = .ok (.istore 7, 2) := by decide +kernel
theorem dX10_relate_8 : decode cX10_relate 8 = .ok (.iload_n 2, 1) := by decide +kernel
theorem dX10_relate_80 : decode cX10_relate 80 = .ok (.iload 8, 2) := by decide +kernel
theorem dX10_relate_82 : decode cX10_relate 82 = .ok (.aload_n 0, 1) := by decide +kernel
theorem dX10_relate_83 : decode cX10_relate 83 = .ok (.getfield 67, 3) := by decide +kernel
theorem dX10_relate_86 : decode cX10_relate 86 = .ok (.aload_n 0, 1) := by decide +kernel
theorem dX10_relate_87 : decode cX10_relate 87 = .ok (.getfield 132, 3) := by decide +kernel
theorem dX10_relate_9 : decode cX10_relate 9 = .ok (.iadd, 1) := by decide +kernel
theorem dX10_relate_90 : decode cX10_relate 90 = .ok (.iload 8, 2) := by decide +kernel
theorem dX10_relate_92 : decode cX10_relate 92 = .ok (.iadd, 1) := by decide +kernel
theorem dX10_relate_93 : decode cX10_relate 93 = .ok (.laload, 1) := by decide +kernel
theorem dX10_relate_94 : decode cX10_relate 94 = .ok (.invokestatic 125, 3) := by decide +kernel
theorem dX10_relate_97 : decode cX10_relate 97 = .ok (.iadd, 1) := by decide +kernel
theorem dX10_relate_98 : decode cX10_relate 98 = .ok (.istore 8, 2) := by decide +kernel
abbrev RT_X10_behindPerm : Type := (Int32 → Int32 → Int32 → Int32 → t_S → Option (Int32 × t_S)) × (Int32 → Int32 → Int32 → t_S → Option (Int32 × t_S)) × (Int32 → Int32 → Int32 → t_S → Option (Int32 × t_S)) × (Int32 → Int32 → Int32 → t_S → Option (Int32 × t_S)) × (Int32 → Int32 → Int32 → t_S → Option (Int32 × t_S)) × (Int32 → Int32 → Int32 → Int32 → t_S → Option (Int32 × t_S)) × (Int32 → Int32 → Int32 → t_S → Option (Int32 × t_S))
def RH_X10_behindPerm (rc : RT_X10_behindPerm) (k : Nat) : Prop := (∀ (x1 : Int32) (x2 : Int32) (x3 : Int32) (x4 : Int32) (s : t_S) (r : Int32 × t_S), rc.1 x1 x2 x3 x4 s = some r → t_C yX10_behindPerm cX10_behindPerm 10 (some .int) (102 + k) [.ref 353, .int x1, .int x2, .int x3, .int x4] s (fun v s' => v = some (.int r.1) ∧ s' = r.2)) ∧ (∀ (x1 : Int32) (x2 : Int32) (x3 : Int32) (s : t_S) (r : Int32 × t_S), rc.2.1 x1 x2 x3 s = some r → t_C yX10_matches cX10_matches 5 (some .boolean) (102 + k) [.ref 353, .int x1, .int x2, .int x3] s (fun v s' => v = some (.int r.1) ∧ s' = r.2)) ∧ (∀ (x1 : Int32) (x2 : Int32) (x3 : Int32) (s : t_S) (r : Int32 × t_S), rc.2.2.1 x1 x2 x3 s = some r → t_C yX10_matchesFields cX10_matchesFields 8 (some .boolean) (102 + k) [.ref 353, .int x1, .int x2, .int x3] s (fun v s' => v = some (.int r.1) ∧ s' = r.2)) ∧ (∀ (x1 : Int32) (x2 : Int32) (x3 : Int32) (s : t_S) (r : Int32 × t_S), rc.2.2.2.1 x1 x2 x3 s = some r → t_C yX10_matchesLink cX10_matchesLink 6 (some .boolean) (102 + k) [.ref 353, .int x1, .int x2, .int x3] s (fun v s' => v = some (.int r.1) ∧ s' = r.2)) ∧ (∀ (x1 : Int32) (x2 : Int32) (x3 : Int32) (s : t_S) (r : Int32 × t_S), rc.2.2.2.2.1 x1 x2 x3 s = some r → t_C yX10_matchesRow cX10_matchesRow 11 (some .boolean) (102 + k) [.ref 353, .int x1, .int x2, .int x3] s (fun v s' => v = some (.int r.1) ∧ s' = r.2)) ∧ (∀ (x1 : Int32) (x2 : Int32) (x3 : Int32) (x4 : Int32) (s : t_S) (r : Int32 × t_S), rc.2.2.2.2.2.1 x1 x2 x3 x4 s = some r → t_C yX10_matchesSome cX10_matchesSome 7 (some .boolean) (102 + k) [.ref 353, .int x1, .int x2, .int x3, .int x4] s (fun v s' => v = some (.int r.1) ∧ s' = r.2)) ∧ (∀ (x1 : Int32) (x2 : Int32) (x3 : Int32) (s : t_S) (r : Int32 × t_S), rc.2.2.2.2.2.2 x1 x2 x3 s = some r → t_C yX10_relate cX10_relate 10 (some .int) (102 + k) [.ref 353, .int x1, .int x2, .int x3] s (fun v s' => v = some (.int r.1) ∧ s' = r.2))
noncomputable def k_X10_behindPerm_97 (rc : RT_X10_behindPerm) (l3 : Int32) (l4 : Int32) (l5 : Int32) (l6 : Int32) (l7 : Int32) (l8 : Int32) (s : t_S) : Option ((Int32 × Int32 × Int32 × Int32 × Int32 × Int32 × t_S) ⊕ (Int32 × t_S)) :=
 some (.inl (l3, l4, l5, l6, l7, (l8 + 1), s))
set_option maxRecDepth 4000 in
set_option maxHeartbeats 1000000 in
theorem B_X10_behindPerm_97 {D : va_G} {cy : Nat → ClassId} {ad : Nat → Nat} {bs : Nat} {X : State → Heap → Prop} (rc : RT_X10_behindPerm) {k : Nat} (H : RH_X10_behindPerm rc k) (l3 : Int32) (l4 : Int32) (l5 : Int32) (l6 : Int32) (l7 : Int32) (l8 : Int32) (s : t_S) (Q : (Int32 × Int32 × Int32 × Int32 × Int32 × Int32 × t_S) ⊕ (Int32 × t_S) → Prop) (Hb32 : ∀ (y0 : Int32) (y1 : Int32) (y2 : Int32) (y3 : Int32) (y4 : Int32) (y5 : Int32) (y6 : t_S), Q (.inl (y0, y1, y2, y3, y4, y5, y6)) → mj_G D cy ad bs X cX10_behindPerm 10 yX10_behindPerm.cls (some .int) yX10_behindPerm.name (102 + (k + 1)) 0 0 1065 (t_P (fun v s' => ∃ x, v = some (.int x) ∧ Q (.inr ((x, s'))))) 32 [(0, .ref 353), (3, .int (y0)), (4, .int (y1)), (5, .int (y2)), (6, .int (y3)), (7, .int (y4)), (8, .int (y5))] [] (t_m y6) 1065 0 0) (hk : t_hk (k_X10_behindPerm_97 rc l3 l4 l5 l6 l7 l8 s) Q) : mj_G D cy ad bs X cX10_behindPerm 10 yX10_behindPerm.cls (some .int) yX10_behindPerm.name (102 + (k + 1)) 0 0 1065 (t_P (fun v s' => ∃ x, v = some (.int x) ∧ Q (.inr ((x, s'))))) 97 [(0, .ref 353), (3, .int l3), (4, .int l4), (5, .int l5), (6, .int l6), (7, .int l7), (8, .int l8)] [] (t_m s) 1065 0 0 := by
  refine mj_iinc (k := 6) (v := (l8 + 1)) (lv2 := [(8, .int (l8 + 1)), (0, .ref 353), (3, .int l3), (4, .int l4), (5, .int l5), (6, .int l6), (7, .int l7)]) dX10_behindPerm_97 rfl rfl (by decide) rfl ?_
  refine mj_goto 32 dX10_behindPerm_100 (by decide) ?_
  refine mj_sublv [(0, .ref 353), (3, .int l3), (4, .int l4), (5, .int l5), (6, .int l6), (7, .int l7), (8, .int (l8 + 1))] [1, 2, 3, 4, 5, 6, 0] rfl ?_
  exact t_somK hk (fun hf => Hb32 l3 l4 l5 l6 l7 (l8 + 1) s hf)
noncomputable def k_X10_behindPerm_78 (rc : RT_X10_behindPerm) (l3 : Int32) (l4 : Int32) (l5 : Int32) (l6 : Int32) (l7 : Int32) (l8 : Int32) (k0 : Int32) (s : t_S) : Option ((Int32 × Int32 × Int32 × Int32 × Int32 × Int32 × t_S) ⊕ (Int32 × t_S)) :=
 if k0 = (0 : Int32) then (k_X10_behindPerm_97 rc l3 l4 l5 l6 l7 l8 s)
 else (k_X10_behindPerm_97 rc l3 l4 l5 l6 (l7 ||| ((1 : Int32) <<< ((l8 + l6) &&& 31))) l8 s)
set_option maxRecDepth 4000 in
set_option maxHeartbeats 1000000 in
theorem B_X10_behindPerm_78 {D : va_G} {cy : Nat → ClassId} {ad : Nat → Nat} {bs : Nat} {X : State → Heap → Prop} (rc : RT_X10_behindPerm) {k : Nat} (H : RH_X10_behindPerm rc k) (l3 : Int32) (l4 : Int32) (l5 : Int32) (l6 : Int32) (l7 : Int32) (l8 : Int32) (k0 : Int32) (s : t_S) (Q : (Int32 × Int32 × Int32 × Int32 × Int32 × Int32 × t_S) ⊕ (Int32 × t_S) → Prop) (Hb32 : ∀ (y0 : Int32) (y1 : Int32) (y2 : Int32) (y3 : Int32) (y4 : Int32) (y5 : Int32) (y6 : t_S), Q (.inl (y0, y1, y2, y3, y4, y5, y6)) → mj_G D cy ad bs X cX10_behindPerm 10 yX10_behindPerm.cls (some .int) yX10_behindPerm.name (102 + (k + 1)) 0 0 1065 (t_P (fun v s' => ∃ x, v = some (.int x) ∧ Q (.inr ((x, s'))))) 32 [(0, .ref 353), (3, .int (y0)), (4, .int (y1)), (5, .int (y2)), (6, .int (y3)), (7, .int (y4)), (8, .int (y5))] [] (t_m y6) 1065 0 0) (hk : t_hk (k_X10_behindPerm_78 rc l3 l4 l5 l6 l7 l8 k0 s) Q) : mj_G D cy ad bs X cX10_behindPerm 10 yX10_behindPerm.cls (some .int) yX10_behindPerm.name (102 + (k + 1)) 0 0 1065 (t_P (fun v s' => ∃ x, v = some (.int x) ∧ Q (.inr ((x, s'))))) 78 [(0, .ref 353), (3, .int l3), (4, .int l4), (5, .int l5), (6, .int l6), (7, .int l7), (8, .int l8)] [.int k0] (t_m s) 1065 0 0 := by
  refine mj_istore (lv2 := [(9, .int k0), (0, .ref 353), (3, .int l3), (4, .int l4), (5, .int l5), (6, .int l6), (7, .int l7), (8, .int l8)]) dX10_behindPerm_78 (by decide) rfl ?_
  refine mj_iload dX10_behindPerm_80 0 rfl ?_
  refine mj_if_eq 97 dX10_behindPerm_82 (by decide) (fun z => t_posK hk z (fun hk => ?_)) (fun z => t_negK hk z (fun hk => ?_))
  · refine mj_sublv [(0, .ref 353), (3, .int l3), (4, .int l4), (5, .int l5), (6, .int l6), (7, .int l7), (8, .int l8)] [1, 2, 3, 4, 5, 6, 7] rfl ?_
    exact B_X10_behindPerm_97 rc H _ _ _ _ _ _ _ _ (fun y0 y1 y2 y3 y4 y5 y6 hx => Hb32 y0 y1 y2 y3 y4 y5 y6 hx) hk
  · refine mj_iload dX10_behindPerm_85 6 rfl ?_
    refine mj_iconst (v := 1) dX10_behindPerm_87 (by decide) ?_
    refine mj_iload dX10_behindPerm_88 7 rfl ?_
    refine mj_iload dX10_behindPerm_90 5 rfl ?_
    refine mj_iadd dX10_behindPerm_92 ?_
    refine mj_ishl dX10_behindPerm_93 ?_
    refine mj_ior dX10_behindPerm_94 ?_
    refine mj_istore (lv2 := [(7, .int (l7 ||| ((1 : Int32) <<< ((l8 + l6) &&& 31)))), (9, .int k0), (0, .ref 353), (3, .int l3), (4, .int l4), (5, .int l5), (6, .int l6), (8, .int l8)]) dX10_behindPerm_95 (by decide) rfl ?_
    refine mj_sublv [(0, .ref 353), (3, .int l3), (4, .int l4), (5, .int l5), (6, .int l6), (7, .int (l7 ||| ((1 : Int32) <<< ((l8 + l6) &&& 31)))), (8, .int l8)] [2, 3, 4, 5, 6, 0, 7] rfl ?_
    exact B_X10_behindPerm_97 rc H _ _ _ _ _ _ _ _ (fun y0 y1 y2 y3 y4 y5 y6 hx => Hb32 y0 y1 y2 y3 y4 y5 y6 hx) hk
noncomputable def k_X10_behindPerm_77 (rc : RT_X10_behindPerm) (l3 : Int32) (l4 : Int32) (l5 : Int32) (l6 : Int32) (l7 : Int32) (l8 : Int32) (s : t_S) : Option ((Int32 × Int32 × Int32 × Int32 × Int32 × Int32 × t_S) ⊕ (Int32 × t_S)) :=
 k_X10_behindPerm_78 rc l3 l4 l5 l6 l7 l8 0 s
set_option maxRecDepth 4000 in
set_option maxHeartbeats 1000000 in
theorem B_X10_behindPerm_77 {D : va_G} {cy : Nat → ClassId} {ad : Nat → Nat} {bs : Nat} {X : State → Heap → Prop} (rc : RT_X10_behindPerm) {k : Nat} (H : RH_X10_behindPerm rc k) (l3 : Int32) (l4 : Int32) (l5 : Int32) (l6 : Int32) (l7 : Int32) (l8 : Int32) (s : t_S) (Q : (Int32 × Int32 × Int32 × Int32 × Int32 × Int32 × t_S) ⊕ (Int32 × t_S) → Prop) (Hb32 : ∀ (y0 : Int32) (y1 : Int32) (y2 : Int32) (y3 : Int32) (y4 : Int32) (y5 : Int32) (y6 : t_S), Q (.inl (y0, y1, y2, y3, y4, y5, y6)) → mj_G D cy ad bs X cX10_behindPerm 10 yX10_behindPerm.cls (some .int) yX10_behindPerm.name (102 + (k + 1)) 0 0 1065 (t_P (fun v s' => ∃ x, v = some (.int x) ∧ Q (.inr ((x, s'))))) 32 [(0, .ref 353), (3, .int (y0)), (4, .int (y1)), (5, .int (y2)), (6, .int (y3)), (7, .int (y4)), (8, .int (y5))] [] (t_m y6) 1065 0 0) (hk : t_hk (k_X10_behindPerm_77 rc l3 l4 l5 l6 l7 l8 s) Q) : mj_G D cy ad bs X cX10_behindPerm 10 yX10_behindPerm.cls (some .int) yX10_behindPerm.name (102 + (k + 1)) 0 0 1065 (t_P (fun v s' => ∃ x, v = some (.int x) ∧ Q (.inr ((x, s'))))) 77 [(0, .ref 353), (3, .int l3), (4, .int l4), (5, .int l5), (6, .int l6), (7, .int l7), (8, .int l8)] [] (t_m s) 1065 0 0 := by
  refine mj_iconst (v := 0) dX10_behindPerm_77 (by decide) ?_
  exact B_X10_behindPerm_78 rc H _ _ _ _ _ _ _ _ _ (fun y0 y1 y2 y3 y4 y5 y6 hx => Hb32 y0 y1 y2 y3 y4 y5 y6 hx) hk
noncomputable def k_X10_behindPerm_32 (rc : RT_X10_behindPerm) (l3 : Int32) (l4 : Int32) (l5 : Int32) (l6 : Int32) (l7 : Int32) (l8 : Int32) (s : t_S) : Option ((Int32 × Int32 × Int32 × Int32 × Int32 × Int32 × t_S) ⊕ (Int32 × t_S)) :=
 if l5 < (l8 + l6) then ((some (l7, s)).map Sum.inr)
 else (if ((l3 >>> (l8 &&& 31)) &&& (1 : Int32)) = (0 : Int32) then (k_X10_behindPerm_77 rc l3 l4 l5 l6 l7 l8 s)
 else ((f_X10_paired l4 l6 ((((1 : Int32) <<< (l6 &&& 31)) - (1 : Int32)) <<< (l8 &&& 31)) s).bind (fun r1 =>
 if r1.1 = l6 then (k_X10_behindPerm_78 rc l3 l4 l5 l6 l7 l8 1 r1.2)
 else (k_X10_behindPerm_77 rc l3 l4 l5 l6 l7 l8 r1.2))))
set_option maxRecDepth 4000 in
set_option maxHeartbeats 1000000 in
theorem B_X10_behindPerm_32 {D : va_G} {cy : Nat → ClassId} {ad : Nat → Nat} {bs : Nat} {X : State → Heap → Prop} (rc : RT_X10_behindPerm) {k : Nat} (H : RH_X10_behindPerm rc k) (l3 : Int32) (l4 : Int32) (l5 : Int32) (l6 : Int32) (l7 : Int32) (l8 : Int32) (s : t_S) (Q : (Int32 × Int32 × Int32 × Int32 × Int32 × Int32 × t_S) ⊕ (Int32 × t_S) → Prop) (Hb32 : ∀ (y0 : Int32) (y1 : Int32) (y2 : Int32) (y3 : Int32) (y4 : Int32) (y5 : Int32) (y6 : t_S), Q (.inl (y0, y1, y2, y3, y4, y5, y6)) → mj_G D cy ad bs X cX10_behindPerm 10 yX10_behindPerm.cls (some .int) yX10_behindPerm.name (102 + (k + 1)) 0 0 1065 (t_P (fun v s' => ∃ x, v = some (.int x) ∧ Q (.inr ((x, s'))))) 32 [(0, .ref 353), (3, .int (y0)), (4, .int (y1)), (5, .int (y2)), (6, .int (y3)), (7, .int (y4)), (8, .int (y5))] [] (t_m y6) 1065 0 0) (hk : t_hk (k_X10_behindPerm_32 rc l3 l4 l5 l6 l7 l8 s) Q) : mj_G D cy ad bs X cX10_behindPerm 10 yX10_behindPerm.cls (some .int) yX10_behindPerm.name (102 + (k + 1)) 0 0 1065 (t_P (fun v s' => ∃ x, v = some (.int x) ∧ Q (.inr ((x, s'))))) 32 [(0, .ref 353), (3, .int l3), (4, .int l4), (5, .int l5), (6, .int l6), (7, .int l7), (8, .int l8)] [] (t_m s) 1065 0 0 := by
  refine mj_iload dX10_behindPerm_32 6 rfl ?_
  refine mj_iload dX10_behindPerm_34 4 rfl ?_
  refine mj_iadd dX10_behindPerm_36 ?_
  refine mj_iload dX10_behindPerm_37 3 rfl ?_
  refine mj_icmp_gt 103 dX10_behindPerm_39 (by decide) (fun z => t_posK hk z (fun hk => ?_)) (fun z => t_negK hk z (fun hk => ?_))
  · refine t_mapK hk (fun hk => ?_)
    refine mj_iload dX10_behindPerm_103 5 rfl ?_
    exact t_somK hk (fun hf => t_iret dX10_behindPerm_105 rfl rfl ⟨_, rfl, hf⟩ (Nat.le_of_ble_eq_true rfl) (Nat.le_of_ble_eq_true rfl))
  · refine mj_iload_n dX10_behindPerm_42 1 rfl ?_
    refine mj_iload dX10_behindPerm_43 6 rfl ?_
    refine mj_ishr dX10_behindPerm_45 ?_
    refine mj_iconst (v := 1) dX10_behindPerm_46 (by decide) ?_
    refine mj_iand dX10_behindPerm_47 ?_
    refine mj_if_eq 77 dX10_behindPerm_48 (by decide) (fun z => t_posK hk z (fun hk => ?_)) (fun z => t_negK hk z (fun hk => ?_))
    · exact B_X10_behindPerm_77 rc H _ _ _ _ _ _ _ _ (fun y0 y1 y2 y3 y4 y5 y6 hx => Hb32 y0 y1 y2 y3 y4 y5 y6 hx) hk
    · refine mj_aload_n dX10_behindPerm_51 0 rfl ?_
      refine mj_iload dX10_behindPerm_52 2 rfl ?_
      refine mj_iload dX10_behindPerm_54 4 rfl ?_
      refine mj_iconst (v := 1) dX10_behindPerm_56 (by decide) ?_
      refine mj_iload dX10_behindPerm_57 4 rfl ?_
      refine mj_ishl dX10_behindPerm_59 ?_
      refine mj_iconst (v := 1) dX10_behindPerm_60 (by decide) ?_
      refine mj_isub dX10_behindPerm_61 ?_
      refine mj_iload dX10_behindPerm_62 6 rfl ?_
      refine mj_ishl dX10_behindPerm_64 ?_
      refine t_bndK hk (fun r1 er1 hk => ?_)
      refine t_callViE dX10_behindPerm_65 M_X10_paired (C_X10_paired _ _ _ _ _ er1) ML_X10_182 IM_X10_paired SE_X10_paired qc_353 rfl (As := [.int l4, .int l6, .int ((((1 : Int32) <<< (l6 &&& 31)) - (1 : Int32)) <<< (l8 &&& 31))]) rfl rfl (by omega) (Nat.le_of_ble_eq_true rfl) (Nat.le_of_ble_eq_true rfl) (Nat.le_of_ble_eq_true rfl) ?_
      refine mj_iload dX10_behindPerm_68 4 rfl ?_
      refine mj_icmp_ne 77 dX10_behindPerm_70 (by decide) (fun z => t_negK hk z (fun hk => ?_)) (fun z => t_posK hk z (fun hk => ?_))
      · exact B_X10_behindPerm_77 rc H _ _ _ _ _ _ _ _ (fun y0 y1 y2 y3 y4 y5 y6 hx => Hb32 y0 y1 y2 y3 y4 y5 y6 hx) hk
      · refine mj_iconst (v := 1) dX10_behindPerm_73 (by decide) ?_
        refine mj_goto 78 dX10_behindPerm_74 (by decide) ?_
        exact B_X10_behindPerm_78 rc H _ _ _ _ _ _ _ _ _ (fun y0 y1 y2 y3 y4 y5 y6 hx => Hb32 y0 y1 y2 y3 y4 y5 y6 hx) hk
noncomputable def b_X10_behindPerm_32 (rc : RT_X10_behindPerm) (x : Int32 × Int32 × Int32 × Int32 × Int32 × Int32 × t_S) : Option ((Int32 × Int32 × Int32 × Int32 × Int32 × Int32 × t_S) ⊕ (Int32 × t_S)) := k_X10_behindPerm_32 rc x.1 x.2.1 x.2.2.1 x.2.2.2.1 x.2.2.2.2.1 x.2.2.2.2.2.1 x.2.2.2.2.2.2
set_option maxRecDepth 4000 in
set_option maxHeartbeats 1000000 in
theorem LH_X10_behindPerm_32 {D : va_G} {cy : Nat → ClassId} {ad : Nat → Nat} {bs : Nat} {X : State → Heap → Prop} (rc : RT_X10_behindPerm) {k : Nat} (H : RH_X10_behindPerm rc k) : ∀ (n : Nat) (y0 : Int32) (y1 : Int32) (y2 : Int32) (y3 : Int32) (y4 : Int32) (y5 : Int32) (y6 : t_S) (Q : Int32 × t_S → Prop) (hk : t_hk (t_loop (b_X10_behindPerm_32 rc) n (y0, y1, y2, y3, y4, y5, y6)) Q), mj_G D cy ad bs X cX10_behindPerm 10 yX10_behindPerm.cls (some .int) yX10_behindPerm.name (102 + (k + 1)) 0 0 1065 (t_P (fun v s' => ∃ x, v = some (.int x) ∧ Q ((x, s')))) 32 [(0, .ref 353), (3, .int (y0)), (4, .int (y1)), (5, .int (y2)), (6, .int (y3)), (7, .int (y4)), (8, .int (y5))] [] (t_m y6) 1065 0 0 := by
  intro n
  induction n with
  | zero => intro y0 y1 y2 y3 y4 y5 y6 Q hk; obtain ⟨r, hr, _⟩ := hk; cases hr
  | succ n ih =>
    intro y0 y1 y2 y3 y4 y5 y6 Q hk
    exact B_X10_behindPerm_32 rc H y0 y1 y2 y3 y4 y5 y6 (fun y => t_lq (b_X10_behindPerm_32 rc) n Q y) (fun y0' y1' y2' y3' y4' y5' y6' hy => ih y0' y1' y2' y3' y4' y5' y6' Q hy) (t_lp hk)
noncomputable def m_X10_behindPerm (rc : RT_X10_behindPerm) (x1 : Int32) (x2 : Int32) (x3 : Int32) (x4 : Int32) (s : t_S) : Option (Int32 × t_S) :=
 if t_oka (s.2.2 353 14) 2 (t_ln (s.2.2 353 14)) = true then
  if t_ix ((s.1 353 15) + x2) (t_ln (s.2.2 353 14)) = true then
  (rc.2.2.2.2.2.2 x1 x2 x4 s).bind (fun r4 =>
 t_loop (b_X10_behindPerm_32 rc) t_N (x3, x4, (f_X8_partsOf (s.2.1 (s.2.2 353 14) (((s.1 353 15) + x2).toNatClampNeg)) s), r4.1, 0, 0, r4.2))
else none
else none
set_option maxRecDepth 4000 in
set_option maxHeartbeats 1000000 in
theorem E_X10_behindPerm (rc : RT_X10_behindPerm) {k : Nat} (H : RH_X10_behindPerm rc k) (x1 : Int32) (x2 : Int32) (x3 : Int32) (x4 : Int32) (s : t_S) (r : Int32 × t_S) (hr : m_X10_behindPerm rc x1 x2 x3 x4 s = some r) : t_C yX10_behindPerm cX10_behindPerm 10 (some .int) (102 + (k + 1)) [.ref 353, .int x1, .int x2, .int x3, .int x4] s (fun v s' => v = some (.int r.1) ∧ s' = r.2) := by
  refine t_C.imp (P := fun v s' => ∃ x, v = some (.int x) ∧ (fun q => q = r) ((x, s'))) (t_C.of (by decide +kernel) (Nat.le_of_ble_eq_true rfl) ?_) (fun v s' hp => by obtain ⟨x, rfl, rfl⟩ := hp; exact ⟨rfl, rfl⟩)
  intro D cy ad bs X
  have hk : t_hk (m_X10_behindPerm rc x1 x2 x3 x4 s) (fun q => q = r) := ⟨r, hr, rfl⟩
  show mj_G D cy ad bs X cX10_behindPerm 10 yX10_behindPerm.cls (some .int) yX10_behindPerm.name (102 + (k + 1)) 0 0 1065 (t_P (fun v s' => ∃ x, v = some (.int x) ∧ (fun q => q = r) ((x, s')))) 0 [(0, .ref 353), (1, .int x1), (2, .int x2), (3, .int x3), (4, .int x4)] [] (t_m s) 1065 0 0
  refine mj_aload_n dX10_behindPerm_0 0 rfl ?_
  refine t_getD dX10_behindPerm_1 F_X10_67 qf_353_14 ?_
  refine mj_aload_n dX10_behindPerm_4 0 rfl ?_
  refine t_getI dX10_behindPerm_5 F_X10_132 qf_353_15 ?_
  refine mj_iload_n dX10_behindPerm_8 2 rfl ?_
  refine mj_iadd dX10_behindPerm_9 ?_
  refine t_chkK hk (fun c0 hk => ?_)
  refine t_chkK hk (fun c1 hk => ?_)
  refine t_lald dX10_behindPerm_10 c0 (t_ixv c1) ?_
  refine t_callSiP dX10_behindPerm_11 M_X8_partsOf (C_X8_partsOf _ _) ML_X10_185 SM_X8_partsOf (As := [.long (s.2.1 (s.2.2 353 14) (((s.1 353 15) + x2).toNatClampNeg))]) rfl rfl (by omega) (Nat.le_of_ble_eq_true rfl) (Nat.le_of_ble_eq_true rfl) (Nat.le_of_ble_eq_true rfl) ?_
  refine mj_istore (lv2 := [(5, .int (f_X8_partsOf (s.2.1 (s.2.2 353 14) (((s.1 353 15) + x2).toNatClampNeg)) s)), (0, .ref 353), (1, .int x1), (2, .int x2), (3, .int x3), (4, .int x4)]) dX10_behindPerm_14 (by decide) rfl ?_
  refine mj_aload_n dX10_behindPerm_16 1 rfl ?_
  refine mj_iload_n dX10_behindPerm_17 2 rfl ?_
  refine mj_iload_n dX10_behindPerm_18 3 rfl ?_
  refine mj_iload dX10_behindPerm_19 5 rfl ?_
  refine t_bndK hk (fun r4 er4 hk => ?_)
  refine t_callViE dX10_behindPerm_21 M_X10_relate (H.2.2.2.2.2.2 _ _ _ _ _ er4) ML_X10_177 IM_X10_relate SE_X10_relate qc_353 rfl (As := [.int x1, .int x2, .int x4]) rfl rfl (by omega) (Nat.le_of_ble_eq_true rfl) (Nat.le_of_ble_eq_true rfl) (Nat.le_of_ble_eq_true rfl) ?_
  refine mj_istore (lv2 := [(6, .int r4.1), (5, .int (f_X8_partsOf (s.2.1 (s.2.2 353 14) (((s.1 353 15) + x2).toNatClampNeg)) s)), (0, .ref 353), (1, .int x1), (2, .int x2), (3, .int x3), (4, .int x4)]) dX10_behindPerm_24 (by decide) rfl ?_
  refine mj_iconst (v := 0) dX10_behindPerm_26 (by decide) ?_
  refine mj_istore (lv2 := [(7, .int 0), (6, .int r4.1), (5, .int (f_X8_partsOf (s.2.1 (s.2.2 353 14) (((s.1 353 15) + x2).toNatClampNeg)) s)), (0, .ref 353), (1, .int x1), (2, .int x2), (3, .int x3), (4, .int x4)]) dX10_behindPerm_27 (by decide) rfl ?_
  refine mj_iconst (v := 0) dX10_behindPerm_29 (by decide) ?_
  refine mj_istore (lv2 := [(8, .int 0), (7, .int 0), (6, .int r4.1), (5, .int (f_X8_partsOf (s.2.1 (s.2.2 353 14) (((s.1 353 15) + x2).toNatClampNeg)) s)), (0, .ref 353), (1, .int x1), (2, .int x2), (3, .int x3), (4, .int x4)]) dX10_behindPerm_30 (by decide) rfl ?_
  refine mj_sublv [(0, .ref 353), (3, .int x3), (4, .int x4), (5, .int (f_X8_partsOf (s.2.1 (s.2.2 353 14) (((s.1 353 15) + x2).toNatClampNeg)) s)), (6, .int r4.1), (7, .int 0), (8, .int 0)] [4, 7, 8, 3, 2, 1, 0] rfl ?_
  exact LH_X10_behindPerm_32 rc H _ x3 x4 (f_X8_partsOf (s.2.1 (s.2.2 353 14) (((s.1 353 15) + x2).toNatClampNeg)) s) r4.1 0 0 r4.2 _ hk
noncomputable def k_X10_matches_609 (rc : RT_X10_behindPerm) (k0 : Int32) (k1 : Int32) (s : t_S) : Option (Int32 × t_S) :=
 if k1 = k0 then (some ((1 : Int32), s))
 else (some ((0 : Int32), s))
set_option maxRecDepth 4000 in
set_option maxHeartbeats 1000000 in
theorem B_X10_matches_609 {D : va_G} {cy : Nat → ClassId} {ad : Nat → Nat} {bs : Nat} {X : State → Heap → Prop} (rc : RT_X10_behindPerm) {k : Nat} (H : RH_X10_behindPerm rc k) (k0 : Int32) (k1 : Int32) (s : t_S) (Q : Int32 × t_S → Prop) (hk : t_hk (k_X10_matches_609 rc k0 k1 s) Q) : mj_G D cy ad bs X cX10_matches 5 yX10_matches.cls (some .boolean) yX10_matches.name (102 + (k + 1)) 0 0 1065 (t_P (fun v s' => ∃ x, v = some (.int x) ∧ Q ((x, s')))) 609 [] [.int k0, .int k1] (t_m s) 1065 0 0 := by
  refine mj_icmp_ne 616 dX10_matches_609 (by decide) (fun z => t_negK hk z (fun hk => ?_)) (fun z => t_posK hk z (fun hk => ?_))
  · refine mj_iconst (v := 0) dX10_matches_616 (by decide) ?_
    exact t_somK hk (fun hf => t_iret dX10_matches_617 rfl (by decide) ⟨_, rfl, hf⟩ (Nat.le_of_ble_eq_true rfl) (Nat.le_of_ble_eq_true rfl))
  · refine mj_iconst (v := 1) dX10_matches_612 (by decide) ?_
    refine mj_goto 617 dX10_matches_613 (by decide) ?_
    exact t_somK hk (fun hf => t_iret dX10_matches_617 rfl (by decide) ⟨_, rfl, hf⟩ (Nat.le_of_ble_eq_true rfl) (Nat.le_of_ble_eq_true rfl))
noncomputable def k_X10_matches_361 (rc : RT_X10_behindPerm) (k0 : Int64) (s : t_S) : Option (Int32 × t_S) :=
 if (lg_cmp (k0 &&& (1 : Int64)) (0 : Int64)) = (0 : Int32) then (some ((0 : Int32), s))
 else (some ((1 : Int32), s))
set_option maxRecDepth 4000 in
set_option maxHeartbeats 1000000 in
theorem B_X10_matches_361 {D : va_G} {cy : Nat → ClassId} {ad : Nat → Nat} {bs : Nat} {X : State → Heap → Prop} (rc : RT_X10_behindPerm) {k : Nat} (H : RH_X10_behindPerm rc k) (k0 : Int64) (s : t_S) (Q : Int32 × t_S → Prop) (hk : t_hk (k_X10_matches_361 rc k0 s) Q) : mj_G D cy ad bs X cX10_matches 5 yX10_matches.cls (some .boolean) yX10_matches.name (102 + (k + 1)) 0 0 1065 (t_P (fun v s' => ∃ x, v = some (.int x) ∧ Q ((x, s')))) 361 [] [.long k0] (t_m s) 1065 0 0 := by
  refine mj_lconst (v := 1) dX10_matches_361 (by decide) ?_
  refine mj_land dX10_matches_362 ?_
  refine mj_lconst (v := 0) dX10_matches_363 (by decide) ?_
  refine mj_lcmp dX10_matches_364 ?_
  refine mj_if_eq 372 dX10_matches_365 (by decide) (fun z => t_posK hk z (fun hk => ?_)) (fun z => t_negK hk z (fun hk => ?_))
  · refine mj_iconst (v := 0) dX10_matches_372 (by decide) ?_
    exact t_somK hk (fun hf => t_iret dX10_matches_373 rfl (by decide) ⟨_, rfl, hf⟩ (Nat.le_of_ble_eq_true rfl) (Nat.le_of_ble_eq_true rfl))
  · refine mj_iconst (v := 1) dX10_matches_368 (by decide) ?_
    refine mj_goto 373 dX10_matches_369 (by decide) ?_
    exact t_somK hk (fun hf => t_iret dX10_matches_373 rfl (by decide) ⟨_, rfl, hf⟩ (Nat.le_of_ble_eq_true rfl) (Nat.le_of_ble_eq_true rfl))
noncomputable def k_X10_matches_61 (rc : RT_X10_behindPerm) (l1 : Int32) (l2 : Int32) (l3 : Int32) (s : t_S) : Option (Int32 × t_S) :=
 if t_ix l1 6100 = true then
  if (s.1 354 (l1.toNatClampNeg)).toInt < 1 ∨ 17 < (s.1 354 (l1.toNatClampNeg)).toInt then (some ((0 : Int32), s))
 else if (s.1 354 (l1.toNatClampNeg)).toInt = 1 then (if l2 < (0 : Int32) then (some ((0 : Int32), s))
 else (some ((1 : Int32), s)))
 else if (s.1 354 (l1.toNatClampNeg)).toInt = 2 then (some ((1 : Int32), s))
 else if (s.1 354 (l1.toNatClampNeg)).toInt = 3 then (if l2 < (0 : Int32) then (some ((0 : Int32), s))
 else (if t_oka (s.2.2 353 14) 2 (t_ln (s.2.2 353 14)) = true then
  if t_ix ((s.1 353 15) + l2) (t_ln (s.2.2 353 14)) = true then
  if (f_X10_isBetween (s.2.1 (s.2.2 353 14) (((s.1 353 15) + l2).toNatClampNeg)) (s.2.1 361 (l1.toNatClampNeg)) (s.2.1 362 (l1.toNatClampNeg)) s) = (0 : Int32) then (some ((0 : Int32), s))
 else (some ((1 : Int32), s))
else none
else none))
 else if (s.1 354 (l1.toNatClampNeg)).toInt = 4 then (if l2 < (0 : Int32) then (some ((0 : Int32), s))
 else ((f_X8_same (s.2.2 353 14) ((s.1 353 15) + l2) 337 (s.1 357 (l1.toNatClampNeg)) s).bind (fun r5 =>
 if r5 = (0 : Int32) then (some ((0 : Int32), s))
 else (some ((1 : Int32), s)))))
 else if (s.1 354 (l1.toNatClampNeg)).toInt = 5 then (if (0 : Int32) ≤ l2 then (some ((0 : Int32), s))
 else (some ((1 : Int32), s)))
 else if (s.1 354 (l1.toNatClampNeg)).toInt = 6 then (if l2 < (0 : Int32) then (some ((0 : Int32), s))
 else (if t_oka (s.2.2 353 14) 2 (t_ln (s.2.2 353 14)) = true then
  if t_ix ((s.1 353 15) + l2) (t_ln (s.2.2 353 14)) = true then
  if (lg_cmp (s.2.1 (s.2.2 353 14) (((s.1 353 15) + l2).toNatClampNeg)) (f_X8_plainCell (3 : Int32) ((s.1 357 (l1.toNatClampNeg)).toInt64) s)) = (0 : Int32) then (some ((1 : Int32), s))
 else (some ((0 : Int32), s))
else none
else none))
 else if (s.1 354 (l1.toNatClampNeg)).toInt = 7 then ((rc.2.2.2.1 (s.1 357 (l1.toNatClampNeg)) l2 l3 s).bind (fun r9 =>
 if r9.1 = 0 ∨ r9.1 = 1 then
  some (r9.1, r9.2)
else none))
 else if (s.1 354 (l1.toNatClampNeg)).toInt = 8 then (if l2 < (0 : Int32) then (some ((0 : Int32), s))
 else (if t_oka (s.2.2 353 14) 2 (t_ln (s.2.2 353 14)) = true then
  if t_ix ((s.1 353 15) + l2) (t_ln (s.2.2 353 14)) = true then
  if (f_X8_kind (s.2.1 (s.2.2 353 14) (((s.1 353 15) + l2).toNatClampNeg)) s) = (6 : Int32) then ((rc.2.2.1 l1 l2 l3 s).bind (fun r14 =>
 if r14.1 = (0 : Int32) then (some ((0 : Int32), r14.2))
 else (some ((1 : Int32), r14.2))))
 else (some ((0 : Int32), s))
else none
else none))
 else if (s.1 354 (l1.toNatClampNeg)).toInt = 9 then (if l2 < (0 : Int32) then (some ((0 : Int32), s))
 else (if t_oka (s.2.2 353 14) 2 (t_ln (s.2.2 353 14)) = true then
  if t_ix ((s.1 353 15) + l2) (t_ln (s.2.2 353 14)) = true then
  if (f_X8_kind (s.2.1 (s.2.2 353 14) (((s.1 353 15) + l2).toNatClampNeg)) s) = (7 : Int32) then (if (f_X8_wordOf (s.2.1 (s.2.2 353 14) (((s.1 353 15) + l2).toNatClampNeg)) s) = (s.1 357 (l1.toNatClampNeg)) then ((rc.2.1 (s.1 355 (l1.toNatClampNeg)) (l2 + (1 : Int32)) (l3 + (1 : Int32)) s).bind (fun r19 =>
 if r19.1 = (0 : Int32) then (some ((0 : Int32), r19.2))
 else (some ((1 : Int32), r19.2))))
 else (some ((0 : Int32), s)))
 else (some ((0 : Int32), s))
else none
else none))
 else if (s.1 354 (l1.toNatClampNeg)).toInt = 10 then (if l2 < (0 : Int32) then (some ((0 : Int32), s))
 else (if t_oka (s.2.2 353 14) 2 (t_ln (s.2.2 353 14)) = true then
  if t_ix ((s.1 353 15) + l2) (t_ln (s.2.2 353 14)) = true then
  if (f_X8_kind (s.2.1 (s.2.2 353 14) (((s.1 353 15) + l2).toNatClampNeg)) s) = (8 : Int32) then ((rc.2.2.2.2.1 l1 l2 l3 s).bind (fun r23 =>
 if r23.1 = (0 : Int32) then (some ((0 : Int32), r23.2))
 else (some ((1 : Int32), r23.2))))
 else (some ((0 : Int32), s))
else none
else none))
 else if (s.1 354 (l1.toNatClampNeg)).toInt = 11 then (if l2 < (0 : Int32) then (some ((0 : Int32), s))
 else ((rc.2.2.2.2.2.1 l1 l2 l3 (1 : Int32) s).bind (fun r24 =>
 if r24.1 = (0 : Int32) then (some ((1 : Int32), r24.2))
 else (some ((0 : Int32), r24.2)))))
 else if (s.1 354 (l1.toNatClampNeg)).toInt = 12 then ((rc.2.2.2.2.2.1 l1 l2 l3 (0 : Int32) s).bind (fun r25 =>
 if r25.1 = (0 : Int32) then (some ((1 : Int32), r25.2))
 else (some ((0 : Int32), r25.2))))
 else if (s.1 354 (l1.toNatClampNeg)).toInt = 13 then ((rc.2.2.2.2.2.1 l1 l2 l3 (1 : Int32) s).bind (fun r26 =>
 if r26.1 = 0 ∨ r26.1 = 1 then
  some (r26.1, r26.2)
else none))
 else if (s.1 354 (l1.toNatClampNeg)).toInt = 14 then (if l2 < (0 : Int32) then (some ((0 : Int32), s))
 else (if t_oka (s.2.2 353 14) 2 (t_ln (s.2.2 353 14)) = true then
  if t_ix ((s.1 353 15) + l2) (t_ln (s.2.2 353 14)) = true then
  if (f_X8_kind (s.2.1 (s.2.2 353 14) (((s.1 353 15) + l2).toNatClampNeg)) s) = (2 : Int32) then ((f_X10_fitsPattern (s.1 357 (l1.toNatClampNeg)) ((s.1 353 15) + l2) s).bind (fun r31 =>
 if r31 = (0 : Int32) then (some ((0 : Int32), s))
 else (some ((1 : Int32), s))))
 else (some ((0 : Int32), s))
else none
else none))
 else if (s.1 354 (l1.toNatClampNeg)).toInt = 15 then (if l2 < (0 : Int32) then (some ((0 : Int32), s))
 else (if t_oka (s.2.2 353 14) 2 (t_ln (s.2.2 353 14)) = true then
  if t_ix ((s.1 353 15) + l2) (t_ln (s.2.2 353 14)) = true then
  if (f_X8_kind (s.2.1 (s.2.2 353 14) (((s.1 353 15) + l2).toNatClampNeg)) s) = (8 : Int32) then ((rc.2.2.2.2.2.2 l1 l2 l3 s).bind (fun r35 =>
 (f_X10_paired l3 r35.1 (65535 : Int32) r35.2).bind (fun r36 =>
 if (r36.2.1 354 (l1.toNatClampNeg)) = (15 : Int32) then (if t_oka (r36.2.2.2 353 14) 2 (t_ln (r36.2.2.2 353 14)) = true then
  if t_ix ((r36.2.1 353 15) + l2) (t_ln (r36.2.2.2 353 14)) = true then
  k_X10_matches_609 rc (f_X8_partsOf (r36.2.2.1 (r36.2.2.2 353 14) (((r36.2.1 353 15) + l2).toNatClampNeg)) r36.2) r36.1 r36.2
else none
else none)
 else (k_X10_matches_609 rc r35.1 r36.1 r36.2))))
 else (some ((0 : Int32), s))
else none
else none))
 else if (s.1 354 (l1.toNatClampNeg)).toInt = 16 then (if l2 < (0 : Int32) then (some ((0 : Int32), s))
 else (if t_oka (s.2.2 353 14) 2 (t_ln (s.2.2 353 14)) = true then
  if t_ix ((s.1 353 15) + l2) (t_ln (s.2.2 353 14)) = true then
  if (f_X8_kind (s.2.1 (s.2.2 353 14) (((s.1 353 15) + l2).toNatClampNeg)) s) = (8 : Int32) then ((rc.2.2.2.2.2.2 l1 l2 l3 s).bind (fun r43 =>
 (f_X10_paired l3 r43.1 (65535 : Int32) r43.2).bind (fun r44 =>
 if (r44.2.1 354 (l1.toNatClampNeg)) = (15 : Int32) then (if t_oka (r44.2.2.2 353 14) 2 (t_ln (r44.2.2.2 353 14)) = true then
  if t_ix ((r44.2.1 353 15) + l2) (t_ln (r44.2.2.2 353 14)) = true then
  k_X10_matches_609 rc (f_X8_partsOf (r44.2.2.1 (r44.2.2.2 353 14) (((r44.2.1 353 15) + l2).toNatClampNeg)) r44.2) r44.1 r44.2
else none
else none)
 else (k_X10_matches_609 rc r43.1 r44.1 r44.2))))
 else (some ((0 : Int32), s))
else none
else none))
 else (if (63 : Int32) ≤ l2 then (k_X10_matches_361 rc ((s.2.1 362 (l1.toNatClampNeg)) >>> ((l2 - (63 : Int32)).toInt64 &&& 63)) s)
 else (k_X10_matches_361 rc ((s.2.1 361 (l1.toNatClampNeg)) >>> ((l2 + (1 : Int32)).toInt64 &&& 63)) s))
else none
set_option maxRecDepth 4000 in
set_option maxHeartbeats 1000000 in
theorem B_X10_matches_61 {D : va_G} {cy : Nat → ClassId} {ad : Nat → Nat} {bs : Nat} {X : State → Heap → Prop} (rc : RT_X10_behindPerm) {k : Nat} (H : RH_X10_behindPerm rc k) (l1 : Int32) (l2 : Int32) (l3 : Int32) (s : t_S) (Q : Int32 × t_S → Prop) (hk : t_hk (k_X10_matches_61 rc l1 l2 l3 s) Q) : mj_G D cy ad bs X cX10_matches 5 yX10_matches.cls (some .boolean) yX10_matches.name (102 + (k + 1)) 0 0 1065 (t_P (fun v s' => ∃ x, v = some (.int x) ∧ Q ((x, s')))) 61 [(0, .ref 353), (1, .int l1), (2, .int l2), (3, .int l3)] [] (t_m s) 1065 0 0 := by
  refine mj_aload_n dX10_matches_61 0 rfl ?_
  refine t_getR 354 dX10_matches_62 F_X10_11 qr_353_0 ?_
  refine mj_iload_n dX10_matches_65 1 rfl ?_
  refine t_chkK hk (fun c0 hk => ?_)
  refine t_iald dX10_matches_66 qa_354 (t_ixv c0) ?_
  by_cases hout : (s.1 354 (l1.toNatClampNeg)).toInt < 1 ∨ 17 < (s.1 354 (l1.toNatClampNeg)).toInt
  · replace hk := t_pos hk hout
    refine mj_tableOut 665 dX10_matches_67 hout (by decide) ?_
    refine mj_iconst (v := 0) dX10_matches_665 (by decide) ?_
    exact t_somK hk (fun hf => t_iret dX10_matches_666 rfl (by decide) ⟨_, rfl, hf⟩ (Nat.le_of_ble_eq_true rfl) (Nat.le_of_ble_eq_true rfl))
  · replace hk := t_neg hk hout
    have hh1 : ¬ (s.1 354 (l1.toNatClampNeg)).toInt < 1 := fun z => hout (Or.inl z)
    have hh2 : ¬ (17 : Int) < (s.1 354 (l1.toNatClampNeg)).toInt := fun z => hout (Or.inr z)
    by_cases h0 : (s.1 354 (l1.toNatClampNeg)).toInt = 1
    · replace hk := t_pos hk h0
      refine mj_tableIn 148 dX10_matches_67 hh1 hh2 (by rw [h0]; rfl) (by decide) ?_
      refine mj_iload_n dX10_matches_148 2 rfl ?_
      refine mj_if_lt 156 dX10_matches_149 (by decide) (fun z => t_posK hk z (fun hk => ?_)) (fun z => t_negK hk z (fun hk => ?_))
      · refine mj_iconst (v := 0) dX10_matches_156 (by decide) ?_
        exact t_somK hk (fun hf => t_iret dX10_matches_157 rfl (by decide) ⟨_, rfl, hf⟩ (Nat.le_of_ble_eq_true rfl) (Nat.le_of_ble_eq_true rfl))
      · refine mj_iconst (v := 1) dX10_matches_152 (by decide) ?_
        refine mj_goto 157 dX10_matches_153 (by decide) ?_
        exact t_somK hk (fun hf => t_iret dX10_matches_157 rfl (by decide) ⟨_, rfl, hf⟩ (Nat.le_of_ble_eq_true rfl) (Nat.le_of_ble_eq_true rfl))
    replace hk := t_neg hk h0
    by_cases h1 : (s.1 354 (l1.toNatClampNeg)).toInt = 2
    · replace hk := t_pos hk h1
      refine mj_tableIn 158 dX10_matches_67 hh1 hh2 (by rw [h1]; rfl) (by decide) ?_
      refine mj_iconst (v := 1) dX10_matches_158 (by decide) ?_
      exact t_somK hk (fun hf => t_iret dX10_matches_159 rfl (by decide) ⟨_, rfl, hf⟩ (Nat.le_of_ble_eq_true rfl) (Nat.le_of_ble_eq_true rfl))
    replace hk := t_neg hk h1
    by_cases h2 : (s.1 354 (l1.toNatClampNeg)).toInt = 3
    · replace hk := t_pos hk h2
      refine mj_tableIn 170 dX10_matches_67 hh1 hh2 (by rw [h2]; rfl) (by decide) ?_
      refine mj_iload_n dX10_matches_170 2 rfl ?_
      refine mj_if_lt 207 dX10_matches_171 (by decide) (fun z => t_posK hk z (fun hk => ?_)) (fun z => t_negK hk z (fun hk => ?_))
      · refine mj_iconst (v := 0) dX10_matches_207 (by decide) ?_
        exact t_somK hk (fun hf => t_iret dX10_matches_208 rfl (by decide) ⟨_, rfl, hf⟩ (Nat.le_of_ble_eq_true rfl) (Nat.le_of_ble_eq_true rfl))
      · refine mj_aload_n dX10_matches_174 0 rfl ?_
        refine t_getD dX10_matches_175 F_X10_67 qf_353_14 ?_
        refine mj_aload_n dX10_matches_178 0 rfl ?_
        refine t_getI dX10_matches_179 F_X10_132 qf_353_15 ?_
        refine mj_iload_n dX10_matches_182 2 rfl ?_
        refine mj_iadd dX10_matches_183 ?_
        refine t_chkK hk (fun c1 hk => ?_)
        refine t_chkK hk (fun c2 hk => ?_)
        refine t_lald dX10_matches_184 c1 (t_ixv c2) ?_
        refine mj_aload_n dX10_matches_185 0 rfl ?_
        refine t_getR 361 dX10_matches_186 F_X10_34 qr_353_7 ?_
        refine mj_iload_n dX10_matches_189 1 rfl ?_
        refine t_lald dX10_matches_190 qa_361 (t_ixv c0) ?_
        refine mj_aload_n dX10_matches_191 0 rfl ?_
        refine t_getR 362 dX10_matches_192 F_X10_38 qr_353_8 ?_
        refine mj_iload_n dX10_matches_195 1 rfl ?_
        refine t_lald dX10_matches_196 qa_362 (t_ixv c0) ?_
        refine t_callSiP dX10_matches_197 M_X10_isBetween (C_X10_isBetween _ _ _ _) ML_X10_153 SM_X10_isBetween (As := [.long (s.2.1 (s.2.2 353 14) (((s.1 353 15) + l2).toNatClampNeg)), .long (s.2.1 361 (l1.toNatClampNeg)), .long (s.2.1 362 (l1.toNatClampNeg))]) rfl rfl (by omega) (Nat.le_of_ble_eq_true rfl) (Nat.le_of_ble_eq_true rfl) (Nat.le_of_ble_eq_true rfl) ?_
        refine mj_if_eq 207 dX10_matches_200 (by decide) (fun z => t_posK hk z (fun hk => ?_)) (fun z => t_negK hk z (fun hk => ?_))
        · refine mj_iconst (v := 0) dX10_matches_207 (by decide) ?_
          exact t_somK hk (fun hf => t_iret dX10_matches_208 rfl (by decide) ⟨_, rfl, hf⟩ (Nat.le_of_ble_eq_true rfl) (Nat.le_of_ble_eq_true rfl))
        · refine mj_iconst (v := 1) dX10_matches_203 (by decide) ?_
          refine mj_goto 208 dX10_matches_204 (by decide) ?_
          exact t_somK hk (fun hf => t_iret dX10_matches_208 rfl (by decide) ⟨_, rfl, hf⟩ (Nat.le_of_ble_eq_true rfl) (Nat.le_of_ble_eq_true rfl))
    replace hk := t_neg hk h2
    by_cases h3 : (s.1 354 (l1.toNatClampNeg)).toInt = 4
    · replace hk := t_pos hk h3
      refine mj_tableIn 209 dX10_matches_67 hh1 hh2 (by rw [h3]; rfl) (by decide) ?_
      refine mj_iload_n dX10_matches_209 2 rfl ?_
      refine mj_if_lt 246 dX10_matches_210 (by decide) (fun z => t_posK hk z (fun hk => ?_)) (fun z => t_negK hk z (fun hk => ?_))
      · refine mj_iconst (v := 0) dX10_matches_246 (by decide) ?_
        exact t_somK hk (fun hf => t_iret dX10_matches_247 rfl (by decide) ⟨_, rfl, hf⟩ (Nat.le_of_ble_eq_true rfl) (Nat.le_of_ble_eq_true rfl))
      · refine mj_aload_n dX10_matches_213 0 rfl ?_
        refine t_getD dX10_matches_214 F_X10_67 qf_353_14 ?_
        refine mj_aload_n dX10_matches_217 0 rfl ?_
        refine t_getI dX10_matches_218 F_X10_132 qf_353_15 ?_
        refine mj_iload_n dX10_matches_221 2 rfl ?_
        refine mj_iadd dX10_matches_222 ?_
        refine mj_aload_n dX10_matches_223 0 rfl ?_
        refine t_getR 334 dX10_matches_224 F_X10_58 qr_353_21 ?_
        refine t_getR 337 dX10_matches_227 F_X10_62 qr_334_3 ?_
        refine mj_aload_n dX10_matches_230 0 rfl ?_
        refine t_getR 357 dX10_matches_231 F_X10_21 qr_353_3 ?_
        refine mj_iload_n dX10_matches_234 1 rfl ?_
        refine t_iald dX10_matches_235 qa_357 (t_ixv c0) ?_
        refine t_bndK hk (fun r5 er5 hk => ?_)
        refine t_callSiP dX10_matches_236 M_X8_same (C_X8_same _ _ _ _ _ _ er5) ML_X10_128 SM_X8_same (As := [.ref (s.2.2 353 14), .int ((s.1 353 15) + l2), .ref 337, .int (s.1 357 (l1.toNatClampNeg))]) rfl rfl (by omega) (Nat.le_of_ble_eq_true rfl) (Nat.le_of_ble_eq_true rfl) (Nat.le_of_ble_eq_true rfl) ?_
        refine mj_if_eq 246 dX10_matches_239 (by decide) (fun z => t_posK hk z (fun hk => ?_)) (fun z => t_negK hk z (fun hk => ?_))
        · refine mj_iconst (v := 0) dX10_matches_246 (by decide) ?_
          exact t_somK hk (fun hf => t_iret dX10_matches_247 rfl (by decide) ⟨_, rfl, hf⟩ (Nat.le_of_ble_eq_true rfl) (Nat.le_of_ble_eq_true rfl))
        · refine mj_iconst (v := 1) dX10_matches_242 (by decide) ?_
          refine mj_goto 247 dX10_matches_243 (by decide) ?_
          exact t_somK hk (fun hf => t_iret dX10_matches_247 rfl (by decide) ⟨_, rfl, hf⟩ (Nat.le_of_ble_eq_true rfl) (Nat.le_of_ble_eq_true rfl))
    replace hk := t_neg hk h3
    by_cases h4 : (s.1 354 (l1.toNatClampNeg)).toInt = 5
    · replace hk := t_pos hk h4
      refine mj_tableIn 160 dX10_matches_67 hh1 hh2 (by rw [h4]; rfl) (by decide) ?_
      refine mj_iload_n dX10_matches_160 2 rfl ?_
      refine mj_if_ge 168 dX10_matches_161 (by decide) (fun z => t_posK hk z (fun hk => ?_)) (fun z => t_negK hk z (fun hk => ?_))
      · refine mj_iconst (v := 0) dX10_matches_168 (by decide) ?_
        exact t_somK hk (fun hf => t_iret dX10_matches_169 rfl (by decide) ⟨_, rfl, hf⟩ (Nat.le_of_ble_eq_true rfl) (Nat.le_of_ble_eq_true rfl))
      · refine mj_iconst (v := 1) dX10_matches_164 (by decide) ?_
        refine mj_goto 169 dX10_matches_165 (by decide) ?_
        exact t_somK hk (fun hf => t_iret dX10_matches_169 rfl (by decide) ⟨_, rfl, hf⟩ (Nat.le_of_ble_eq_true rfl) (Nat.le_of_ble_eq_true rfl))
    replace hk := t_neg hk h4
    by_cases h5 : (s.1 354 (l1.toNatClampNeg)).toInt = 6
    · replace hk := t_pos hk h5
      refine mj_tableIn 248 dX10_matches_67 hh1 hh2 (by rw [h5]; rfl) (by decide) ?_
      refine mj_iload_n dX10_matches_248 2 rfl ?_
      refine mj_if_lt 282 dX10_matches_249 (by decide) (fun z => t_posK hk z (fun hk => ?_)) (fun z => t_negK hk z (fun hk => ?_))
      · refine mj_iconst (v := 0) dX10_matches_282 (by decide) ?_
        exact t_somK hk (fun hf => t_iret dX10_matches_283 rfl (by decide) ⟨_, rfl, hf⟩ (Nat.le_of_ble_eq_true rfl) (Nat.le_of_ble_eq_true rfl))
      · refine mj_aload_n dX10_matches_252 0 rfl ?_
        refine t_getD dX10_matches_253 F_X10_67 qf_353_14 ?_
        refine mj_aload_n dX10_matches_256 0 rfl ?_
        refine t_getI dX10_matches_257 F_X10_132 qf_353_15 ?_
        refine mj_iload_n dX10_matches_260 2 rfl ?_
        refine mj_iadd dX10_matches_261 ?_
        refine t_chkK hk (fun c5 hk => ?_)
        refine t_chkK hk (fun c6 hk => ?_)
        refine t_lald dX10_matches_262 c5 (t_ixv c6) ?_
        refine mj_iconst (v := 3) dX10_matches_263 (by decide) ?_
        refine mj_aload_n dX10_matches_264 0 rfl ?_
        refine t_getR 357 dX10_matches_265 F_X10_21 qr_353_3 ?_
        refine mj_iload_n dX10_matches_268 1 rfl ?_
        refine t_iald dX10_matches_269 qa_357 (t_ixv c0) ?_
        refine mj_i2l (v := (s.1 357 (l1.toNatClampNeg)).toInt64) dX10_matches_270 rfl ?_
        refine t_callSlP dX10_matches_271 M_X8_plainCell (C_X8_plainCell _ _ _) ML_X10_157 SM_X8_plainCell (As := [.int 3, .long ((s.1 357 (l1.toNatClampNeg)).toInt64)]) rfl rfl (by omega) (Nat.le_of_ble_eq_true rfl) (Nat.le_of_ble_eq_true rfl) (Nat.le_of_ble_eq_true rfl) ?_
        refine mj_lcmp dX10_matches_274 ?_
        refine mj_if_ne 282 dX10_matches_275 (by decide) (fun z => t_negK hk z (fun hk => ?_)) (fun z => t_posK hk z (fun hk => ?_))
        · refine mj_iconst (v := 0) dX10_matches_282 (by decide) ?_
          exact t_somK hk (fun hf => t_iret dX10_matches_283 rfl (by decide) ⟨_, rfl, hf⟩ (Nat.le_of_ble_eq_true rfl) (Nat.le_of_ble_eq_true rfl))
        · refine mj_iconst (v := 1) dX10_matches_278 (by decide) ?_
          refine mj_goto 283 dX10_matches_279 (by decide) ?_
          exact t_somK hk (fun hf => t_iret dX10_matches_283 rfl (by decide) ⟨_, rfl, hf⟩ (Nat.le_of_ble_eq_true rfl) (Nat.le_of_ble_eq_true rfl))
    replace hk := t_neg hk h5
    by_cases h6 : (s.1 354 (l1.toNatClampNeg)).toInt = 7
    · replace hk := t_pos hk h6
      refine mj_tableIn 374 dX10_matches_67 hh1 hh2 (by rw [h6]; rfl) (by decide) ?_
      refine mj_aload_n dX10_matches_374 0 rfl ?_
      refine mj_aload_n dX10_matches_375 0 rfl ?_
      refine t_getR 357 dX10_matches_376 F_X10_21 qr_353_3 ?_
      refine mj_iload_n dX10_matches_379 1 rfl ?_
      refine t_iald dX10_matches_380 qa_357 (t_ixv c0) ?_
      refine mj_iload_n dX10_matches_381 2 rfl ?_
      refine mj_iload_n dX10_matches_382 3 rfl ?_
      refine t_bndK hk (fun r9 er9 hk => ?_)
      refine t_callViE dX10_matches_383 M_X10_matchesLink (H.2.2.2.1 _ _ _ _ _ er9) ML_X10_165 IM_X10_matchesLink SE_X10_matchesLink qc_353 rfl (As := [.int (s.1 357 (l1.toNatClampNeg)), .int l2, .int l3]) rfl rfl (by omega) (Nat.le_of_ble_eq_true rfl) (Nat.le_of_ble_eq_true rfl) (Nat.le_of_ble_eq_true rfl) ?_
      refine t_chkK hk (fun c9 hk => ?_)
      exact t_somK hk (fun hf => t_iret dX10_matches_386 rfl (t_zfit c9) ⟨_, rfl, hf⟩ (Nat.le_of_ble_eq_true rfl) (Nat.le_of_ble_eq_true rfl))
    replace hk := t_neg hk h6
    by_cases h7 : (s.1 354 (l1.toNatClampNeg)).toInt = 8
    · replace hk := t_pos hk h7
      refine mj_tableIn 387 dX10_matches_67 hh1 hh2 (by rw [h7]; rfl) (by decide) ?_
      refine mj_iload_n dX10_matches_387 2 rfl ?_
      refine mj_if_lt 424 dX10_matches_388 (by decide) (fun z => t_posK hk z (fun hk => ?_)) (fun z => t_negK hk z (fun hk => ?_))
      · refine mj_iconst (v := 0) dX10_matches_424 (by decide) ?_
        exact t_somK hk (fun hf => t_iret dX10_matches_425 rfl (by decide) ⟨_, rfl, hf⟩ (Nat.le_of_ble_eq_true rfl) (Nat.le_of_ble_eq_true rfl))
      · refine mj_aload_n dX10_matches_391 0 rfl ?_
        refine t_getD dX10_matches_392 F_X10_67 qf_353_14 ?_
        refine mj_aload_n dX10_matches_395 0 rfl ?_
        refine t_getI dX10_matches_396 F_X10_132 qf_353_15 ?_
        refine mj_iload_n dX10_matches_399 2 rfl ?_
        refine mj_iadd dX10_matches_400 ?_
        refine t_chkK hk (fun c10 hk => ?_)
        refine t_chkK hk (fun c11 hk => ?_)
        refine t_lald dX10_matches_401 c10 (t_ixv c11) ?_
        refine t_callSiP dX10_matches_402 M_X8_kind (C_X8_kind _ _) ML_X10_122 SM_X8_kind (As := [.long (s.2.1 (s.2.2 353 14) (((s.1 353 15) + l2).toNatClampNeg))]) rfl rfl (by omega) (Nat.le_of_ble_eq_true rfl) (Nat.le_of_ble_eq_true rfl) (Nat.le_of_ble_eq_true rfl) ?_
        refine mj_bipush (v := 6) dX10_matches_405 (by decide) ?_
        refine mj_icmp_ne 424 dX10_matches_407 (by decide) (fun z => t_negK hk z (fun hk => ?_)) (fun z => t_posK hk z (fun hk => ?_))
        · refine mj_iconst (v := 0) dX10_matches_424 (by decide) ?_
          exact t_somK hk (fun hf => t_iret dX10_matches_425 rfl (by decide) ⟨_, rfl, hf⟩ (Nat.le_of_ble_eq_true rfl) (Nat.le_of_ble_eq_true rfl))
        · refine mj_aload_n dX10_matches_410 0 rfl ?_
          refine mj_iload_n dX10_matches_411 1 rfl ?_
          refine mj_iload_n dX10_matches_412 2 rfl ?_
          refine mj_iload_n dX10_matches_413 3 rfl ?_
          refine t_bndK hk (fun r14 er14 hk => ?_)
          refine t_callViE dX10_matches_414 M_X10_matchesFields (H.2.2.1 _ _ _ _ _ er14) ML_X10_168 IM_X10_matchesFields SE_X10_matchesFields qc_353 rfl (As := [.int l1, .int l2, .int l3]) rfl rfl (by omega) (Nat.le_of_ble_eq_true rfl) (Nat.le_of_ble_eq_true rfl) (Nat.le_of_ble_eq_true rfl) ?_
          refine mj_if_eq 424 dX10_matches_417 (by decide) (fun z => t_posK hk z (fun hk => ?_)) (fun z => t_negK hk z (fun hk => ?_))
          · refine mj_iconst (v := 0) dX10_matches_424 (by decide) ?_
            exact t_somK hk (fun hf => t_iret dX10_matches_425 rfl (by decide) ⟨_, rfl, hf⟩ (Nat.le_of_ble_eq_true rfl) (Nat.le_of_ble_eq_true rfl))
          · refine mj_iconst (v := 1) dX10_matches_420 (by decide) ?_
            refine mj_goto 425 dX10_matches_421 (by decide) ?_
            exact t_somK hk (fun hf => t_iret dX10_matches_425 rfl (by decide) ⟨_, rfl, hf⟩ (Nat.le_of_ble_eq_true rfl) (Nat.le_of_ble_eq_true rfl))
    replace hk := t_neg hk h7
    by_cases h8 : (s.1 354 (l1.toNatClampNeg)).toInt = 9
    · replace hk := t_pos hk h8
      refine mj_tableIn 426 dX10_matches_67 hh1 hh2 (by rw [h8]; rfl) (by decide) ?_
      refine mj_iload_n dX10_matches_426 2 rfl ?_
      refine mj_if_lt 495 dX10_matches_427 (by decide) (fun z => t_posK hk z (fun hk => ?_)) (fun z => t_negK hk z (fun hk => ?_))
      · refine mj_iconst (v := 0) dX10_matches_495 (by decide) ?_
        exact t_somK hk (fun hf => t_iret dX10_matches_496 rfl (by decide) ⟨_, rfl, hf⟩ (Nat.le_of_ble_eq_true rfl) (Nat.le_of_ble_eq_true rfl))
      · refine mj_aload_n dX10_matches_430 0 rfl ?_
        refine t_getD dX10_matches_431 F_X10_67 qf_353_14 ?_
        refine mj_aload_n dX10_matches_434 0 rfl ?_
        refine t_getI dX10_matches_435 F_X10_132 qf_353_15 ?_
        refine mj_iload_n dX10_matches_438 2 rfl ?_
        refine mj_iadd dX10_matches_439 ?_
        refine t_chkK hk (fun c14 hk => ?_)
        refine t_chkK hk (fun c15 hk => ?_)
        refine t_lald dX10_matches_440 c14 (t_ixv c15) ?_
        refine t_callSiP dX10_matches_441 M_X8_kind (C_X8_kind _ _) ML_X10_122 SM_X8_kind (As := [.long (s.2.1 (s.2.2 353 14) (((s.1 353 15) + l2).toNatClampNeg))]) rfl rfl (by omega) (Nat.le_of_ble_eq_true rfl) (Nat.le_of_ble_eq_true rfl) (Nat.le_of_ble_eq_true rfl) ?_
        refine mj_bipush (v := 7) dX10_matches_444 (by decide) ?_
        refine mj_icmp_ne 495 dX10_matches_446 (by decide) (fun z => t_negK hk z (fun hk => ?_)) (fun z => t_posK hk z (fun hk => ?_))
        · refine mj_iconst (v := 0) dX10_matches_495 (by decide) ?_
          exact t_somK hk (fun hf => t_iret dX10_matches_496 rfl (by decide) ⟨_, rfl, hf⟩ (Nat.le_of_ble_eq_true rfl) (Nat.le_of_ble_eq_true rfl))
        · refine mj_aload_n dX10_matches_449 0 rfl ?_
          refine t_getD dX10_matches_450 F_X10_67 qf_353_14 ?_
          refine mj_aload_n dX10_matches_453 0 rfl ?_
          refine t_getI dX10_matches_454 F_X10_132 qf_353_15 ?_
          refine mj_iload_n dX10_matches_457 2 rfl ?_
          refine mj_iadd dX10_matches_458 ?_
          refine t_lald dX10_matches_459 c14 (t_ixv c15) ?_
          refine t_callSiP dX10_matches_460 M_X8_wordOf (C_X8_wordOf _ _) ML_X10_171 SM_X8_wordOf (As := [.long (s.2.1 (s.2.2 353 14) (((s.1 353 15) + l2).toNatClampNeg))]) rfl rfl (by omega) (Nat.le_of_ble_eq_true rfl) (Nat.le_of_ble_eq_true rfl) (Nat.le_of_ble_eq_true rfl) ?_
          refine mj_aload_n dX10_matches_463 0 rfl ?_
          refine t_getR 357 dX10_matches_464 F_X10_21 qr_353_3 ?_
          refine mj_iload_n dX10_matches_467 1 rfl ?_
          refine t_iald dX10_matches_468 qa_357 (t_ixv c0) ?_
          refine mj_icmp_ne 495 dX10_matches_469 (by decide) (fun z => t_negK hk z (fun hk => ?_)) (fun z => t_posK hk z (fun hk => ?_))
          · refine mj_iconst (v := 0) dX10_matches_495 (by decide) ?_
            exact t_somK hk (fun hf => t_iret dX10_matches_496 rfl (by decide) ⟨_, rfl, hf⟩ (Nat.le_of_ble_eq_true rfl) (Nat.le_of_ble_eq_true rfl))
          · refine mj_aload_n dX10_matches_472 0 rfl ?_
            refine mj_aload_n dX10_matches_473 0 rfl ?_
            refine t_getR 355 dX10_matches_474 F_X10_15 qr_353_1 ?_
            refine mj_iload_n dX10_matches_477 1 rfl ?_
            refine t_iald dX10_matches_478 qa_355 (t_ixv c0) ?_
            refine mj_iload_n dX10_matches_479 2 rfl ?_
            refine mj_iconst (v := 1) dX10_matches_480 (by decide) ?_
            refine mj_iadd dX10_matches_481 ?_
            refine mj_iload_n dX10_matches_482 3 rfl ?_
            refine mj_iconst (v := 1) dX10_matches_483 (by decide) ?_
            refine mj_iadd dX10_matches_484 ?_
            refine t_bndK hk (fun r19 er19 hk => ?_)
            refine t_callViE dX10_matches_485 M_X10_matches (H.2.1 _ _ _ _ _ er19) ML_X10_145 IM_X10_matches SE_X10_matches qc_353 rfl (As := [.int (s.1 355 (l1.toNatClampNeg)), .int (l2 + (1 : Int32)), .int (l3 + (1 : Int32))]) rfl rfl (by omega) (Nat.le_of_ble_eq_true rfl) (Nat.le_of_ble_eq_true rfl) (Nat.le_of_ble_eq_true rfl) ?_
            refine mj_if_eq 495 dX10_matches_488 (by decide) (fun z => t_posK hk z (fun hk => ?_)) (fun z => t_negK hk z (fun hk => ?_))
            · refine mj_iconst (v := 0) dX10_matches_495 (by decide) ?_
              exact t_somK hk (fun hf => t_iret dX10_matches_496 rfl (by decide) ⟨_, rfl, hf⟩ (Nat.le_of_ble_eq_true rfl) (Nat.le_of_ble_eq_true rfl))
            · refine mj_iconst (v := 1) dX10_matches_491 (by decide) ?_
              refine mj_goto 496 dX10_matches_492 (by decide) ?_
              exact t_somK hk (fun hf => t_iret dX10_matches_496 rfl (by decide) ⟨_, rfl, hf⟩ (Nat.le_of_ble_eq_true rfl) (Nat.le_of_ble_eq_true rfl))
    replace hk := t_neg hk h8
    by_cases h9 : (s.1 354 (l1.toNatClampNeg)).toInt = 10
    · replace hk := t_pos hk h9
      refine mj_tableIn 497 dX10_matches_67 hh1 hh2 (by rw [h9]; rfl) (by decide) ?_
      refine mj_iload_n dX10_matches_497 2 rfl ?_
      refine mj_if_lt 534 dX10_matches_498 (by decide) (fun z => t_posK hk z (fun hk => ?_)) (fun z => t_negK hk z (fun hk => ?_))
      · refine mj_iconst (v := 0) dX10_matches_534 (by decide) ?_
        exact t_somK hk (fun hf => t_iret dX10_matches_535 rfl (by decide) ⟨_, rfl, hf⟩ (Nat.le_of_ble_eq_true rfl) (Nat.le_of_ble_eq_true rfl))
      · refine mj_aload_n dX10_matches_501 0 rfl ?_
        refine t_getD dX10_matches_502 F_X10_67 qf_353_14 ?_
        refine mj_aload_n dX10_matches_505 0 rfl ?_
        refine t_getI dX10_matches_506 F_X10_132 qf_353_15 ?_
        refine mj_iload_n dX10_matches_509 2 rfl ?_
        refine mj_iadd dX10_matches_510 ?_
        refine t_chkK hk (fun c19 hk => ?_)
        refine t_chkK hk (fun c20 hk => ?_)
        refine t_lald dX10_matches_511 c19 (t_ixv c20) ?_
        refine t_callSiP dX10_matches_512 M_X8_kind (C_X8_kind _ _) ML_X10_122 SM_X8_kind (As := [.long (s.2.1 (s.2.2 353 14) (((s.1 353 15) + l2).toNatClampNeg))]) rfl rfl (by omega) (Nat.le_of_ble_eq_true rfl) (Nat.le_of_ble_eq_true rfl) (Nat.le_of_ble_eq_true rfl) ?_
        refine mj_bipush (v := 8) dX10_matches_515 (by decide) ?_
        refine mj_icmp_ne 534 dX10_matches_517 (by decide) (fun z => t_negK hk z (fun hk => ?_)) (fun z => t_posK hk z (fun hk => ?_))
        · refine mj_iconst (v := 0) dX10_matches_534 (by decide) ?_
          exact t_somK hk (fun hf => t_iret dX10_matches_535 rfl (by decide) ⟨_, rfl, hf⟩ (Nat.le_of_ble_eq_true rfl) (Nat.le_of_ble_eq_true rfl))
        · refine mj_aload_n dX10_matches_520 0 rfl ?_
          refine mj_iload_n dX10_matches_521 1 rfl ?_
          refine mj_iload_n dX10_matches_522 2 rfl ?_
          refine mj_iload_n dX10_matches_523 3 rfl ?_
          refine t_bndK hk (fun r23 er23 hk => ?_)
          refine t_callViE dX10_matches_524 M_X10_matchesRow (H.2.2.2.2.1 _ _ _ _ _ er23) ML_X10_174 IM_X10_matchesRow SE_X10_matchesRow qc_353 rfl (As := [.int l1, .int l2, .int l3]) rfl rfl (by omega) (Nat.le_of_ble_eq_true rfl) (Nat.le_of_ble_eq_true rfl) (Nat.le_of_ble_eq_true rfl) ?_
          refine mj_if_eq 534 dX10_matches_527 (by decide) (fun z => t_posK hk z (fun hk => ?_)) (fun z => t_negK hk z (fun hk => ?_))
          · refine mj_iconst (v := 0) dX10_matches_534 (by decide) ?_
            exact t_somK hk (fun hf => t_iret dX10_matches_535 rfl (by decide) ⟨_, rfl, hf⟩ (Nat.le_of_ble_eq_true rfl) (Nat.le_of_ble_eq_true rfl))
          · refine mj_iconst (v := 1) dX10_matches_530 (by decide) ?_
            refine mj_goto 535 dX10_matches_531 (by decide) ?_
            exact t_somK hk (fun hf => t_iret dX10_matches_535 rfl (by decide) ⟨_, rfl, hf⟩ (Nat.le_of_ble_eq_true rfl) (Nat.le_of_ble_eq_true rfl))
    replace hk := t_neg hk h9
    by_cases h10 : (s.1 354 (l1.toNatClampNeg)).toInt = 11
    · replace hk := t_pos hk h10
      refine mj_tableIn 618 dX10_matches_67 hh1 hh2 (by rw [h10]; rfl) (by decide) ?_
      refine mj_iload_n dX10_matches_618 2 rfl ?_
      refine mj_if_lt 637 dX10_matches_619 (by decide) (fun z => t_posK hk z (fun hk => ?_)) (fun z => t_negK hk z (fun hk => ?_))
      · refine mj_iconst (v := 0) dX10_matches_637 (by decide) ?_
        exact t_somK hk (fun hf => t_iret dX10_matches_638 rfl (by decide) ⟨_, rfl, hf⟩ (Nat.le_of_ble_eq_true rfl) (Nat.le_of_ble_eq_true rfl))
      · refine mj_aload_n dX10_matches_622 0 rfl ?_
        refine mj_iload_n dX10_matches_623 1 rfl ?_
        refine mj_iload_n dX10_matches_624 2 rfl ?_
        refine mj_iload_n dX10_matches_625 3 rfl ?_
        refine mj_iconst (v := 1) dX10_matches_626 (by decide) ?_
        refine t_bndK hk (fun r24 er24 hk => ?_)
        refine t_callViE dX10_matches_627 M_X10_matchesSome (H.2.2.2.2.2.1 _ _ _ _ _ _ er24) ML_X10_188 IM_X10_matchesSome SE_X10_matchesSome qc_353 rfl (As := [.int l1, .int l2, .int l3, .int 1]) rfl rfl (by omega) (Nat.le_of_ble_eq_true rfl) (Nat.le_of_ble_eq_true rfl) (Nat.le_of_ble_eq_true rfl) ?_
        refine mj_if_ne 637 dX10_matches_630 (by decide) (fun z => t_negK hk z (fun hk => ?_)) (fun z => t_posK hk z (fun hk => ?_))
        · refine mj_iconst (v := 0) dX10_matches_637 (by decide) ?_
          exact t_somK hk (fun hf => t_iret dX10_matches_638 rfl (by decide) ⟨_, rfl, hf⟩ (Nat.le_of_ble_eq_true rfl) (Nat.le_of_ble_eq_true rfl))
        · refine mj_iconst (v := 1) dX10_matches_633 (by decide) ?_
          refine mj_goto 638 dX10_matches_634 (by decide) ?_
          exact t_somK hk (fun hf => t_iret dX10_matches_638 rfl (by decide) ⟨_, rfl, hf⟩ (Nat.le_of_ble_eq_true rfl) (Nat.le_of_ble_eq_true rfl))
    replace hk := t_neg hk h10
    by_cases h11 : (s.1 354 (l1.toNatClampNeg)).toInt = 12
    · replace hk := t_pos hk h11
      refine mj_tableIn 639 dX10_matches_67 hh1 hh2 (by rw [h11]; rfl) (by decide) ?_
      refine mj_aload_n dX10_matches_639 0 rfl ?_
      refine mj_iload_n dX10_matches_640 1 rfl ?_
      refine mj_iload_n dX10_matches_641 2 rfl ?_
      refine mj_iload_n dX10_matches_642 3 rfl ?_
      refine mj_iconst (v := 0) dX10_matches_643 (by decide) ?_
      refine t_bndK hk (fun r25 er25 hk => ?_)
      refine t_callViE dX10_matches_644 M_X10_matchesSome (H.2.2.2.2.2.1 _ _ _ _ _ _ er25) ML_X10_188 IM_X10_matchesSome SE_X10_matchesSome qc_353 rfl (As := [.int l1, .int l2, .int l3, .int 0]) rfl rfl (by omega) (Nat.le_of_ble_eq_true rfl) (Nat.le_of_ble_eq_true rfl) (Nat.le_of_ble_eq_true rfl) ?_
      refine mj_if_ne 654 dX10_matches_647 (by decide) (fun z => t_negK hk z (fun hk => ?_)) (fun z => t_posK hk z (fun hk => ?_))
      · refine mj_iconst (v := 0) dX10_matches_654 (by decide) ?_
        exact t_somK hk (fun hf => t_iret dX10_matches_655 rfl (by decide) ⟨_, rfl, hf⟩ (Nat.le_of_ble_eq_true rfl) (Nat.le_of_ble_eq_true rfl))
      · refine mj_iconst (v := 1) dX10_matches_650 (by decide) ?_
        refine mj_goto 655 dX10_matches_651 (by decide) ?_
        exact t_somK hk (fun hf => t_iret dX10_matches_655 rfl (by decide) ⟨_, rfl, hf⟩ (Nat.le_of_ble_eq_true rfl) (Nat.le_of_ble_eq_true rfl))
    replace hk := t_neg hk h11
    by_cases h12 : (s.1 354 (l1.toNatClampNeg)).toInt = 13
    · replace hk := t_pos hk h12
      refine mj_tableIn 656 dX10_matches_67 hh1 hh2 (by rw [h12]; rfl) (by decide) ?_
      refine mj_aload_n dX10_matches_656 0 rfl ?_
      refine mj_iload_n dX10_matches_657 1 rfl ?_
      refine mj_iload_n dX10_matches_658 2 rfl ?_
      refine mj_iload_n dX10_matches_659 3 rfl ?_
      refine mj_iconst (v := 1) dX10_matches_660 (by decide) ?_
      refine t_bndK hk (fun r26 er26 hk => ?_)
      refine t_callViE dX10_matches_661 M_X10_matchesSome (H.2.2.2.2.2.1 _ _ _ _ _ _ er26) ML_X10_188 IM_X10_matchesSome SE_X10_matchesSome qc_353 rfl (As := [.int l1, .int l2, .int l3, .int 1]) rfl rfl (by omega) (Nat.le_of_ble_eq_true rfl) (Nat.le_of_ble_eq_true rfl) (Nat.le_of_ble_eq_true rfl) ?_
      refine t_chkK hk (fun c26 hk => ?_)
      exact t_somK hk (fun hf => t_iret dX10_matches_664 rfl (t_zfit c26) ⟨_, rfl, hf⟩ (Nat.le_of_ble_eq_true rfl) (Nat.le_of_ble_eq_true rfl))
    replace hk := t_neg hk h12
    by_cases h13 : (s.1 354 (l1.toNatClampNeg)).toInt = 14
    · replace hk := t_pos hk h13
      refine mj_tableIn 284 dX10_matches_67 hh1 hh2 (by rw [h13]; rfl) (by decide) ?_
      refine mj_iload_n dX10_matches_284 2 rfl ?_
      refine mj_if_lt 329 dX10_matches_285 (by decide) (fun z => t_posK hk z (fun hk => ?_)) (fun z => t_negK hk z (fun hk => ?_))
      · refine mj_iconst (v := 0) dX10_matches_329 (by decide) ?_
        exact t_somK hk (fun hf => t_iret dX10_matches_330 rfl (by decide) ⟨_, rfl, hf⟩ (Nat.le_of_ble_eq_true rfl) (Nat.le_of_ble_eq_true rfl))
      · refine mj_aload_n dX10_matches_288 0 rfl ?_
        refine t_getD dX10_matches_289 F_X10_67 qf_353_14 ?_
        refine mj_aload_n dX10_matches_292 0 rfl ?_
        refine t_getI dX10_matches_293 F_X10_132 qf_353_15 ?_
        refine mj_iload_n dX10_matches_296 2 rfl ?_
        refine mj_iadd dX10_matches_297 ?_
        refine t_chkK hk (fun c27 hk => ?_)
        refine t_chkK hk (fun c28 hk => ?_)
        refine t_lald dX10_matches_298 c27 (t_ixv c28) ?_
        refine t_callSiP dX10_matches_299 M_X8_kind (C_X8_kind _ _) ML_X10_122 SM_X8_kind (As := [.long (s.2.1 (s.2.2 353 14) (((s.1 353 15) + l2).toNatClampNeg))]) rfl rfl (by omega) (Nat.le_of_ble_eq_true rfl) (Nat.le_of_ble_eq_true rfl) (Nat.le_of_ble_eq_true rfl) ?_
        refine mj_iconst (v := 2) dX10_matches_302 (by decide) ?_
        refine mj_icmp_ne 329 dX10_matches_303 (by decide) (fun z => t_negK hk z (fun hk => ?_)) (fun z => t_posK hk z (fun hk => ?_))
        · refine mj_iconst (v := 0) dX10_matches_329 (by decide) ?_
          exact t_somK hk (fun hf => t_iret dX10_matches_330 rfl (by decide) ⟨_, rfl, hf⟩ (Nat.le_of_ble_eq_true rfl) (Nat.le_of_ble_eq_true rfl))
        · refine mj_aload_n dX10_matches_306 0 rfl ?_
          refine mj_aload_n dX10_matches_307 0 rfl ?_
          refine t_getR 357 dX10_matches_308 F_X10_21 qr_353_3 ?_
          refine mj_iload_n dX10_matches_311 1 rfl ?_
          refine t_iald dX10_matches_312 qa_357 (t_ixv c0) ?_
          refine mj_aload_n dX10_matches_313 0 rfl ?_
          refine t_getI dX10_matches_314 F_X10_132 qf_353_15 ?_
          refine mj_iload_n dX10_matches_317 2 rfl ?_
          refine mj_iadd dX10_matches_318 ?_
          refine t_bndK hk (fun r31 er31 hk => ?_)
          refine t_callViP dX10_matches_319 M_X10_fitsPattern (C_X10_fitsPattern _ _ _ _ er31) ML_X10_161 IM_X10_fitsPattern SE_X10_fitsPattern qc_353 rfl (As := [.int (s.1 357 (l1.toNatClampNeg)), .int ((s.1 353 15) + l2)]) rfl rfl (by omega) (Nat.le_of_ble_eq_true rfl) (Nat.le_of_ble_eq_true rfl) (Nat.le_of_ble_eq_true rfl) ?_
          refine mj_if_eq 329 dX10_matches_322 (by decide) (fun z => t_posK hk z (fun hk => ?_)) (fun z => t_negK hk z (fun hk => ?_))
          · refine mj_iconst (v := 0) dX10_matches_329 (by decide) ?_
            exact t_somK hk (fun hf => t_iret dX10_matches_330 rfl (by decide) ⟨_, rfl, hf⟩ (Nat.le_of_ble_eq_true rfl) (Nat.le_of_ble_eq_true rfl))
          · refine mj_iconst (v := 1) dX10_matches_325 (by decide) ?_
            refine mj_goto 330 dX10_matches_326 (by decide) ?_
            exact t_somK hk (fun hf => t_iret dX10_matches_330 rfl (by decide) ⟨_, rfl, hf⟩ (Nat.le_of_ble_eq_true rfl) (Nat.le_of_ble_eq_true rfl))
    replace hk := t_neg hk h13
    by_cases h14 : (s.1 354 (l1.toNatClampNeg)).toInt = 15
    · replace hk := t_pos hk h14
      refine mj_tableIn 536 dX10_matches_67 hh1 hh2 (by rw [h14]; rfl) (by decide) ?_
      refine mj_iload_n dX10_matches_536 2 rfl ?_
      refine mj_if_lt 559 dX10_matches_537 (by decide) (fun z => t_posK hk z (fun hk => ?_)) (fun z => t_negK hk z (fun hk => ?_))
      · refine mj_iconst (v := 0) dX10_matches_559 (by decide) ?_
        exact t_somK hk (fun hf => t_iret dX10_matches_560 rfl (by decide) ⟨_, rfl, hf⟩ (Nat.le_of_ble_eq_true rfl) (Nat.le_of_ble_eq_true rfl))
      · refine mj_aload_n dX10_matches_540 0 rfl ?_
        refine t_getD dX10_matches_541 F_X10_67 qf_353_14 ?_
        refine mj_aload_n dX10_matches_544 0 rfl ?_
        refine t_getI dX10_matches_545 F_X10_132 qf_353_15 ?_
        refine mj_iload_n dX10_matches_548 2 rfl ?_
        refine mj_iadd dX10_matches_549 ?_
        refine t_chkK hk (fun c31 hk => ?_)
        refine t_chkK hk (fun c32 hk => ?_)
        refine t_lald dX10_matches_550 c31 (t_ixv c32) ?_
        refine t_callSiP dX10_matches_551 M_X8_kind (C_X8_kind _ _) ML_X10_122 SM_X8_kind (As := [.long (s.2.1 (s.2.2 353 14) (((s.1 353 15) + l2).toNatClampNeg))]) rfl rfl (by omega) (Nat.le_of_ble_eq_true rfl) (Nat.le_of_ble_eq_true rfl) (Nat.le_of_ble_eq_true rfl) ?_
        refine mj_bipush (v := 8) dX10_matches_554 (by decide) ?_
        refine mj_icmp_eq 561 dX10_matches_556 (by decide) (fun z => t_posK hk z (fun hk => ?_)) (fun z => t_negK hk z (fun hk => ?_))
        · refine mj_aload_n dX10_matches_561 0 rfl ?_
          refine mj_iload_n dX10_matches_562 1 rfl ?_
          refine mj_iload_n dX10_matches_563 2 rfl ?_
          refine mj_iload_n dX10_matches_564 3 rfl ?_
          refine t_bndK hk (fun r35 er35 hk => ?_)
          refine t_callViE dX10_matches_565 M_X10_relate (H.2.2.2.2.2.2 _ _ _ _ _ er35) ML_X10_177 IM_X10_relate SE_X10_relate qc_353 rfl (As := [.int l1, .int l2, .int l3]) rfl rfl (by omega) (Nat.le_of_ble_eq_true rfl) (Nat.le_of_ble_eq_true rfl) (Nat.le_of_ble_eq_true rfl) ?_
          refine mj_istore (lv2 := [(4, .int r35.1), (0, .ref 353), (1, .int l1), (2, .int l2), (3, .int l3)]) dX10_matches_568 (by decide) rfl ?_
          refine mj_aload_n dX10_matches_570 1 rfl ?_
          refine mj_iload_n dX10_matches_571 4 rfl ?_
          refine mj_iload dX10_matches_572 0 rfl ?_
          refine mj_ldc dX10_matches_574 K_X10_181 ?_
          refine t_bndK hk (fun r36 er36 hk => ?_)
          refine t_callViE dX10_matches_576 M_X10_paired (C_X10_paired _ _ _ _ _ er36) ML_X10_182 IM_X10_paired SE_X10_paired qc_353 rfl (As := [.int l3, .int r35.1, .int 65535]) rfl rfl (by omega) (Nat.le_of_ble_eq_true rfl) (Nat.le_of_ble_eq_true rfl) (Nat.le_of_ble_eq_true rfl) ?_
          refine mj_aload_n dX10_matches_579 1 rfl ?_
          refine t_getR 354 dX10_matches_580 F_X10_11 qr_353_0 ?_
          refine mj_iload_n dX10_matches_583 2 rfl ?_
          refine t_iald dX10_matches_584 qa_354 (t_ixv c0) ?_
          refine mj_bipush (v := 15) dX10_matches_585 (by decide) ?_
          refine mj_icmp_ne 607 dX10_matches_587 (by decide) (fun z => t_negK hk z (fun hk => ?_)) (fun z => t_posK hk z (fun hk => ?_))
          · refine mj_iload dX10_matches_607 0 rfl ?_
            refine mj_sublv [] [] rfl ?_
            exact B_X10_matches_609 rc H _ _ _ _ hk
          · refine mj_aload_n dX10_matches_590 1 rfl ?_
            refine t_getD dX10_matches_591 F_X10_67 qf_353_14 ?_
            refine mj_aload_n dX10_matches_594 1 rfl ?_
            refine t_getI dX10_matches_595 F_X10_132 qf_353_15 ?_
            refine mj_iload_n dX10_matches_598 3 rfl ?_
            refine mj_iadd dX10_matches_599 ?_
            refine t_chkK hk (fun c36 hk => ?_)
            refine t_chkK hk (fun c37 hk => ?_)
            refine t_lald dX10_matches_600 c36 (t_ixv c37) ?_
            refine t_callSiP dX10_matches_601 M_X8_partsOf (C_X8_partsOf _ _) ML_X10_185 SM_X8_partsOf (As := [.long (r36.2.2.1 (r36.2.2.2 353 14) (((r36.2.1 353 15) + l2).toNatClampNeg))]) rfl rfl (by omega) (Nat.le_of_ble_eq_true rfl) (Nat.le_of_ble_eq_true rfl) (Nat.le_of_ble_eq_true rfl) ?_
            refine mj_goto 609 dX10_matches_604 (by decide) ?_
            refine mj_sublv [] [] rfl ?_
            exact B_X10_matches_609 rc H _ _ _ _ hk
        · refine mj_iconst (v := 0) dX10_matches_559 (by decide) ?_
          exact t_somK hk (fun hf => t_iret dX10_matches_560 rfl (by decide) ⟨_, rfl, hf⟩ (Nat.le_of_ble_eq_true rfl) (Nat.le_of_ble_eq_true rfl))
    replace hk := t_neg hk h14
    by_cases h15 : (s.1 354 (l1.toNatClampNeg)).toInt = 16
    · replace hk := t_pos hk h15
      refine mj_tableIn 536 dX10_matches_67 hh1 hh2 (by rw [h15]; rfl) (by decide) ?_
      refine mj_iload_n dX10_matches_536 2 rfl ?_
      refine mj_if_lt 559 dX10_matches_537 (by decide) (fun z => t_posK hk z (fun hk => ?_)) (fun z => t_negK hk z (fun hk => ?_))
      · refine mj_iconst (v := 0) dX10_matches_559 (by decide) ?_
        exact t_somK hk (fun hf => t_iret dX10_matches_560 rfl (by decide) ⟨_, rfl, hf⟩ (Nat.le_of_ble_eq_true rfl) (Nat.le_of_ble_eq_true rfl))
      · refine mj_aload_n dX10_matches_540 0 rfl ?_
        refine t_getD dX10_matches_541 F_X10_67 qf_353_14 ?_
        refine mj_aload_n dX10_matches_544 0 rfl ?_
        refine t_getI dX10_matches_545 F_X10_132 qf_353_15 ?_
        refine mj_iload_n dX10_matches_548 2 rfl ?_
        refine mj_iadd dX10_matches_549 ?_
        refine t_chkK hk (fun c39 hk => ?_)
        refine t_chkK hk (fun c40 hk => ?_)
        refine t_lald dX10_matches_550 c39 (t_ixv c40) ?_
        refine t_callSiP dX10_matches_551 M_X8_kind (C_X8_kind _ _) ML_X10_122 SM_X8_kind (As := [.long (s.2.1 (s.2.2 353 14) (((s.1 353 15) + l2).toNatClampNeg))]) rfl rfl (by omega) (Nat.le_of_ble_eq_true rfl) (Nat.le_of_ble_eq_true rfl) (Nat.le_of_ble_eq_true rfl) ?_
        refine mj_bipush (v := 8) dX10_matches_554 (by decide) ?_
        refine mj_icmp_eq 561 dX10_matches_556 (by decide) (fun z => t_posK hk z (fun hk => ?_)) (fun z => t_negK hk z (fun hk => ?_))
        · refine mj_aload_n dX10_matches_561 0 rfl ?_
          refine mj_iload_n dX10_matches_562 1 rfl ?_
          refine mj_iload_n dX10_matches_563 2 rfl ?_
          refine mj_iload_n dX10_matches_564 3 rfl ?_
          refine t_bndK hk (fun r43 er43 hk => ?_)
          refine t_callViE dX10_matches_565 M_X10_relate (H.2.2.2.2.2.2 _ _ _ _ _ er43) ML_X10_177 IM_X10_relate SE_X10_relate qc_353 rfl (As := [.int l1, .int l2, .int l3]) rfl rfl (by omega) (Nat.le_of_ble_eq_true rfl) (Nat.le_of_ble_eq_true rfl) (Nat.le_of_ble_eq_true rfl) ?_
          refine mj_istore (lv2 := [(4, .int r43.1), (0, .ref 353), (1, .int l1), (2, .int l2), (3, .int l3)]) dX10_matches_568 (by decide) rfl ?_
          refine mj_aload_n dX10_matches_570 1 rfl ?_
          refine mj_iload_n dX10_matches_571 4 rfl ?_
          refine mj_iload dX10_matches_572 0 rfl ?_
          refine mj_ldc dX10_matches_574 K_X10_181 ?_
          refine t_bndK hk (fun r44 er44 hk => ?_)
          refine t_callViE dX10_matches_576 M_X10_paired (C_X10_paired _ _ _ _ _ er44) ML_X10_182 IM_X10_paired SE_X10_paired qc_353 rfl (As := [.int l3, .int r43.1, .int 65535]) rfl rfl (by omega) (Nat.le_of_ble_eq_true rfl) (Nat.le_of_ble_eq_true rfl) (Nat.le_of_ble_eq_true rfl) ?_
          refine mj_aload_n dX10_matches_579 1 rfl ?_
          refine t_getR 354 dX10_matches_580 F_X10_11 qr_353_0 ?_
          refine mj_iload_n dX10_matches_583 2 rfl ?_
          refine t_iald dX10_matches_584 qa_354 (t_ixv c0) ?_
          refine mj_bipush (v := 15) dX10_matches_585 (by decide) ?_
          refine mj_icmp_ne 607 dX10_matches_587 (by decide) (fun z => t_negK hk z (fun hk => ?_)) (fun z => t_posK hk z (fun hk => ?_))
          · refine mj_iload dX10_matches_607 0 rfl ?_
            refine mj_sublv [] [] rfl ?_
            exact B_X10_matches_609 rc H _ _ _ _ hk
          · refine mj_aload_n dX10_matches_590 1 rfl ?_
            refine t_getD dX10_matches_591 F_X10_67 qf_353_14 ?_
            refine mj_aload_n dX10_matches_594 1 rfl ?_
            refine t_getI dX10_matches_595 F_X10_132 qf_353_15 ?_
            refine mj_iload_n dX10_matches_598 3 rfl ?_
            refine mj_iadd dX10_matches_599 ?_
            refine t_chkK hk (fun c44 hk => ?_)
            refine t_chkK hk (fun c45 hk => ?_)
            refine t_lald dX10_matches_600 c44 (t_ixv c45) ?_
            refine t_callSiP dX10_matches_601 M_X8_partsOf (C_X8_partsOf _ _) ML_X10_185 SM_X8_partsOf (As := [.long (r44.2.2.1 (r44.2.2.2 353 14) (((r44.2.1 353 15) + l2).toNatClampNeg))]) rfl rfl (by omega) (Nat.le_of_ble_eq_true rfl) (Nat.le_of_ble_eq_true rfl) (Nat.le_of_ble_eq_true rfl) ?_
            refine mj_goto 609 dX10_matches_604 (by decide) ?_
            refine mj_sublv [] [] rfl ?_
            exact B_X10_matches_609 rc H _ _ _ _ hk
        · refine mj_iconst (v := 0) dX10_matches_559 (by decide) ?_
          exact t_somK hk (fun hf => t_iret dX10_matches_560 rfl (by decide) ⟨_, rfl, hf⟩ (Nat.le_of_ble_eq_true rfl) (Nat.le_of_ble_eq_true rfl))
    replace hk := t_neg hk h15
    have h16 : (s.1 354 (l1.toNatClampNeg)).toInt = 17 := by omega
    refine mj_tableIn 331 dX10_matches_67 hh1 hh2 (by rw [h16]; rfl) (by decide) ?_
    refine mj_iload_n dX10_matches_331 2 rfl ?_
    refine mj_bipush (v := 63) dX10_matches_332 (by decide) ?_
    refine mj_icmp_ge 350 dX10_matches_334 (by decide) (fun z => t_posK hk z (fun hk => ?_)) (fun z => t_negK hk z (fun hk => ?_))
    · refine mj_aload_n dX10_matches_350 0 rfl ?_
      refine t_getR 362 dX10_matches_351 F_X10_38 qr_353_8 ?_
      refine mj_iload_n dX10_matches_354 1 rfl ?_
      refine t_lald dX10_matches_355 qa_362 (t_ixv c0) ?_
      refine mj_iload_n dX10_matches_356 2 rfl ?_
      refine mj_bipush (v := 63) dX10_matches_357 (by decide) ?_
      refine mj_isub dX10_matches_359 ?_
      refine mj_lshr dX10_matches_360 rfl ?_
      refine mj_sublv [] [] rfl ?_
      exact B_X10_matches_361 rc H _ _ _ hk
    · refine mj_aload_n dX10_matches_337 0 rfl ?_
      refine t_getR 361 dX10_matches_338 F_X10_34 qr_353_7 ?_
      refine mj_iload_n dX10_matches_341 1 rfl ?_
      refine t_lald dX10_matches_342 qa_361 (t_ixv c0) ?_
      refine mj_iload_n dX10_matches_343 2 rfl ?_
      refine mj_iconst (v := 1) dX10_matches_344 (by decide) ?_
      refine mj_iadd dX10_matches_345 ?_
      refine mj_lshr dX10_matches_346 rfl ?_
      refine mj_goto 361 dX10_matches_347 (by decide) ?_
      refine mj_sublv [] [] rfl ?_
      exact B_X10_matches_361 rc H _ _ _ hk
noncomputable def k_X10_matches_23 (rc : RT_X10_behindPerm) (l1 : Int32) (l2 : Int32) (l3 : Int32) (s : t_S) : Option (Int32 × t_S) :=
 if t_ix l1 6100 = true then
  if (s.1 359 (l1.toNatClampNeg)) = (0 : Int32) then (k_X10_matches_61 rc l1 l2 l3 s)
 else (if l2 < (0 : Int32) then (some ((0 : Int32), s))
 else (if t_oka (s.2.2 353 14) 2 (t_ln (s.2.2 353 14)) = true then
  if t_ix ((s.1 353 15) + l2) (t_ln (s.2.2 353 14)) = true then
  if (f_X10_hasLength (s.1 359 (l1.toNatClampNeg)) (s.2.1 (s.2.2 353 14) (((s.1 353 15) + l2).toNatClampNeg)) s) = (0 : Int32) then (some ((0 : Int32), s))
 else (k_X10_matches_61 rc l1 l2 l3 s)
else none
else none))
else none
set_option maxRecDepth 4000 in
set_option maxHeartbeats 1000000 in
theorem B_X10_matches_23 {D : va_G} {cy : Nat → ClassId} {ad : Nat → Nat} {bs : Nat} {X : State → Heap → Prop} (rc : RT_X10_behindPerm) {k : Nat} (H : RH_X10_behindPerm rc k) (l1 : Int32) (l2 : Int32) (l3 : Int32) (s : t_S) (Q : Int32 × t_S → Prop) (hk : t_hk (k_X10_matches_23 rc l1 l2 l3 s) Q) : mj_G D cy ad bs X cX10_matches 5 yX10_matches.cls (some .boolean) yX10_matches.name (102 + (k + 1)) 0 0 1065 (t_P (fun v s' => ∃ x, v = some (.int x) ∧ Q ((x, s')))) 23 [(0, .ref 353), (1, .int l1), (2, .int l2), (3, .int l3)] [] (t_m s) 1065 0 0 := by
  refine mj_aload_n dX10_matches_23 0 rfl ?_
  refine t_getR 359 dX10_matches_24 F_X10_27 qr_353_5 ?_
  refine mj_iload_n dX10_matches_27 1 rfl ?_
  refine t_chkK hk (fun c0 hk => ?_)
  refine t_iald dX10_matches_28 qa_359 (t_ixv c0) ?_
  refine mj_if_eq 61 dX10_matches_29 (by decide) (fun z => t_posK hk z (fun hk => ?_)) (fun z => t_negK hk z (fun hk => ?_))
  · exact B_X10_matches_61 rc H _ _ _ _ _ hk
  · refine mj_iload_n dX10_matches_32 2 rfl ?_
    refine mj_if_lt 59 dX10_matches_33 (by decide) (fun z => t_posK hk z (fun hk => ?_)) (fun z => t_negK hk z (fun hk => ?_))
    · refine mj_iconst (v := 0) dX10_matches_59 (by decide) ?_
      exact t_somK hk (fun hf => t_iret dX10_matches_60 rfl (by decide) ⟨_, rfl, hf⟩ (Nat.le_of_ble_eq_true rfl) (Nat.le_of_ble_eq_true rfl))
    · refine mj_aload_n dX10_matches_36 0 rfl ?_
      refine t_getR 359 dX10_matches_37 F_X10_27 qr_353_5 ?_
      refine mj_iload_n dX10_matches_40 1 rfl ?_
      refine t_iald dX10_matches_41 qa_359 (t_ixv c0) ?_
      refine mj_aload_n dX10_matches_42 0 rfl ?_
      refine t_getD dX10_matches_43 F_X10_67 qf_353_14 ?_
      refine mj_aload_n dX10_matches_46 0 rfl ?_
      refine t_getI dX10_matches_47 F_X10_132 qf_353_15 ?_
      refine mj_iload_n dX10_matches_50 2 rfl ?_
      refine mj_iadd dX10_matches_51 ?_
      refine t_chkK hk (fun c1 hk => ?_)
      refine t_chkK hk (fun c2 hk => ?_)
      refine t_lald dX10_matches_52 c1 (t_ixv c2) ?_
      refine t_callSiP dX10_matches_53 M_X10_hasLength (C_X10_hasLength _ _ _) ML_X10_149 SM_X10_hasLength (As := [.int (s.1 359 (l1.toNatClampNeg)), .long (s.2.1 (s.2.2 353 14) (((s.1 353 15) + l2).toNatClampNeg))]) rfl rfl (by omega) (Nat.le_of_ble_eq_true rfl) (Nat.le_of_ble_eq_true rfl) (Nat.le_of_ble_eq_true rfl) ?_
      refine mj_if_ne 61 dX10_matches_56 (by decide) (fun z => t_negK hk z (fun hk => ?_)) (fun z => t_posK hk z (fun hk => ?_))
      · exact B_X10_matches_61 rc H _ _ _ _ _ hk
      · refine mj_iconst (v := 0) dX10_matches_59 (by decide) ?_
        exact t_somK hk (fun hf => t_iret dX10_matches_60 rfl (by decide) ⟨_, rfl, hf⟩ (Nat.le_of_ble_eq_true rfl) (Nat.le_of_ble_eq_true rfl))
noncomputable def m_X10_matches (rc : RT_X10_behindPerm) (x1 : Int32) (x2 : Int32) (x3 : Int32) (s : t_S) : Option (Int32 × t_S) :=
 if x3 ≤ (100 : Int32) then (if (0 : Int32) ≤ x2 then (k_X10_matches_23 rc x1 x2 x3 s)
 else (if t_ix x1 6100 = true then
  if (s.1 360 (x1.toNatClampNeg)) = (0 : Int32) then (k_X10_matches_23 rc x1 x2 x3 s)
 else (some ((1 : Int32), s))
else none))
 else (some ((0 : Int32), s))
set_option maxRecDepth 4000 in
set_option maxHeartbeats 1000000 in
theorem E_X10_matches (rc : RT_X10_behindPerm) {k : Nat} (H : RH_X10_behindPerm rc k) (x1 : Int32) (x2 : Int32) (x3 : Int32) (s : t_S) (r : Int32 × t_S) (hr : m_X10_matches rc x1 x2 x3 s = some r) : t_C yX10_matches cX10_matches 5 (some .boolean) (102 + (k + 1)) [.ref 353, .int x1, .int x2, .int x3] s (fun v s' => v = some (.int r.1) ∧ s' = r.2) := by
  refine t_C.imp (P := fun v s' => ∃ x, v = some (.int x) ∧ (fun q => q = r) ((x, s'))) (t_C.of (by decide +kernel) (Nat.le_of_ble_eq_true rfl) ?_) (fun v s' hp => by obtain ⟨x, rfl, rfl⟩ := hp; exact ⟨rfl, rfl⟩)
  intro D cy ad bs X
  have hk : t_hk (m_X10_matches rc x1 x2 x3 s) (fun q => q = r) := ⟨r, hr, rfl⟩
  show mj_G D cy ad bs X cX10_matches 5 yX10_matches.cls (some .boolean) yX10_matches.name (102 + (k + 1)) 0 0 1065 (t_P (fun v s' => ∃ x, v = some (.int x) ∧ (fun q => q = r) ((x, s')))) 0 [(0, .ref 353), (1, .int x1), (2, .int x2), (3, .int x3)] [] (t_m s) 1065 0 0
  refine mj_iload_n dX10_matches_0 3 rfl ?_
  refine mj_bipush (v := 100) dX10_matches_1 (by decide) ?_
  refine mj_icmp_le 8 dX10_matches_3 (by decide) (fun z => t_posK hk z (fun hk => ?_)) (fun z => t_negK hk z (fun hk => ?_))
  · refine mj_iload_n dX10_matches_8 2 rfl ?_
    refine mj_if_ge 23 dX10_matches_9 (by decide) (fun z => t_posK hk z (fun hk => ?_)) (fun z => t_negK hk z (fun hk => ?_))
    · exact B_X10_matches_23 rc H _ _ _ _ _ hk
    · refine mj_aload_n dX10_matches_12 0 rfl ?_
      refine t_getR 360 dX10_matches_13 F_X10_30 qr_353_6 ?_
      refine mj_iload_n dX10_matches_16 1 rfl ?_
      refine t_chkK hk (fun c0 hk => ?_)
      refine t_zald dX10_matches_17 qa_360 (t_ixv c0) ?_
      refine mj_if_eq 23 dX10_matches_18 (by decide) (fun z => t_posK hk z (fun hk => ?_)) (fun z => t_negK hk z (fun hk => ?_))
      · exact B_X10_matches_23 rc H _ _ _ _ _ hk
      · refine mj_iconst (v := 1) dX10_matches_21 (by decide) ?_
        exact t_somK hk (fun hf => t_iret dX10_matches_22 rfl (by decide) ⟨_, rfl, hf⟩ (Nat.le_of_ble_eq_true rfl) (Nat.le_of_ble_eq_true rfl))
  · refine mj_iconst (v := 0) dX10_matches_6 (by decide) ?_
    exact t_somK hk (fun hf => t_iret dX10_matches_7 rfl (by decide) ⟨_, rfl, hf⟩ (Nat.le_of_ble_eq_true rfl) (Nat.le_of_ble_eq_true rfl))
noncomputable def k_X10_matchesFields_80 (rc : RT_X10_behindPerm) (l2 : Int32) (l3 : Int32) (l4 : Int32) (l5 : Int32) (l6 : Int32) (k0 : Int32) (k1 : Int32) (s : t_S) : Option ((Int32 × Int32 × Int32 × Int32 × Int32 × t_S) ⊕ (Int32 × t_S)) :=
 (rc.2.1 k1 k0 (l3 + (1 : Int32)) s).bind (fun r1 =>
 if r1.1 = (0 : Int32) then ((some ((0 : Int32), r1.2)).map Sum.inr)
 else (if t_ix l5 6100 = true then
  some (.inl (l2, l3, l4, (r1.2.1 356 (l5.toNatClampNeg)), (l6 + 1), r1.2))
else none))
set_option maxRecDepth 4000 in
set_option maxHeartbeats 1000000 in
theorem B_X10_matchesFields_80 {D : va_G} {cy : Nat → ClassId} {ad : Nat → Nat} {bs : Nat} {X : State → Heap → Prop} (rc : RT_X10_behindPerm) {k : Nat} (H : RH_X10_behindPerm rc k) (l2 : Int32) (l3 : Int32) (l4 : Int32) (l5 : Int32) (l6 : Int32) (k0 : Int32) (k1 : Int32) (s : t_S) (Q : (Int32 × Int32 × Int32 × Int32 × Int32 × t_S) ⊕ (Int32 × t_S) → Prop) (Hb14 : ∀ (y0 : Int32) (y1 : Int32) (y2 : Int32) (y3 : Int32) (y4 : Int32) (y5 : t_S), Q (.inl (y0, y1, y2, y3, y4, y5)) → mj_G D cy ad bs X cX10_matchesFields 8 yX10_matchesFields.cls (some .boolean) yX10_matchesFields.name (102 + (k + 1)) 0 0 1065 (t_P (fun v s' => ∃ x, v = some (.int x) ∧ Q (.inr ((x, s'))))) 14 [(0, .ref 353), (2, .int (y0)), (3, .int (y1)), (4, .int (y2)), (5, .int (y3)), (6, .int (y4))] [] (t_m y5) 1065 0 0) (hk : t_hk (k_X10_matchesFields_80 rc l2 l3 l4 l5 l6 k0 k1 s) Q) : mj_G D cy ad bs X cX10_matchesFields 8 yX10_matchesFields.cls (some .boolean) yX10_matchesFields.name (102 + (k + 1)) 0 0 1065 (t_P (fun v s' => ∃ x, v = some (.int x) ∧ Q (.inr ((x, s'))))) 80 [(0, .ref 353), (2, .int l2), (3, .int l3), (4, .int l4), (5, .int l5), (6, .int l6)] [.int k0, .int k1, .ref 353] (t_m s) 1065 0 0 := by
  refine mj_iload_n dX10_matchesFields_80 2 rfl ?_
  refine mj_iconst (v := 1) dX10_matchesFields_81 (by decide) ?_
  refine mj_iadd dX10_matchesFields_82 ?_
  refine t_bndK hk (fun r1 er1 hk => ?_)
  refine t_callViE dX10_matchesFields_83 M_X10_matches (H.2.1 _ _ _ _ _ er1) ML_X10_145 IM_X10_matches SE_X10_matches qc_353 rfl (As := [.int k1, .int k0, .int (l3 + (1 : Int32))]) rfl rfl (by omega) (Nat.le_of_ble_eq_true rfl) (Nat.le_of_ble_eq_true rfl) (Nat.le_of_ble_eq_true rfl) ?_
  refine mj_if_ne 91 dX10_matchesFields_86 (by decide) (fun z => t_negK hk z (fun hk => ?_)) (fun z => t_posK hk z (fun hk => ?_))
  · refine mj_aload_n dX10_matchesFields_91 0 rfl ?_
    refine t_getR 356 dX10_matchesFields_92 F_X10_18 qr_353_2 ?_
    refine mj_iload dX10_matchesFields_95 4 rfl ?_
    refine t_chkK hk (fun c1 hk => ?_)
    refine t_iald dX10_matchesFields_97 qa_356 (t_ixv c1) ?_
    refine mj_istore (lv2 := [(5, .int (r1.2.1 356 (l5.toNatClampNeg))), (0, .ref 353), (2, .int l2), (3, .int l3), (4, .int l4), (6, .int l6)]) dX10_matchesFields_98 (by decide) rfl ?_
    refine mj_iinc (k := 5) (v := (l6 + 1)) (lv2 := [(6, .int (l6 + 1)), (5, .int (r1.2.1 356 (l5.toNatClampNeg))), (0, .ref 353), (2, .int l2), (3, .int l3), (4, .int l4)]) dX10_matchesFields_100 rfl rfl (by decide) rfl ?_
    refine mj_goto 14 dX10_matchesFields_103 (by decide) ?_
    refine mj_sublv [(0, .ref 353), (2, .int l2), (3, .int l3), (4, .int l4), (5, .int (r1.2.1 356 (l5.toNatClampNeg))), (6, .int (l6 + 1))] [2, 3, 4, 5, 1, 0] rfl ?_
    exact t_somK hk (fun hf => Hb14 l2 l3 l4 (r1.2.1 356 (l5.toNatClampNeg)) (l6 + 1) r1.2 hf)
  · refine t_mapK hk (fun hk => ?_)
    refine mj_iconst (v := 0) dX10_matchesFields_89 (by decide) ?_
    exact t_somK hk (fun hf => t_iret dX10_matchesFields_90 rfl (by decide) ⟨_, rfl, hf⟩ (Nat.le_of_ble_eq_true rfl) (Nat.le_of_ble_eq_true rfl))
noncomputable def k_X10_matchesFields_56 (rc : RT_X10_behindPerm) (l2 : Int32) (l3 : Int32) (l4 : Int32) (l5 : Int32) (l6 : Int32) (l7 : Int32) (s : t_S) : Option ((Int32 × Int32 × Int32 × Int32 × Int32 × t_S) ⊕ (Int32 × t_S)) :=
 if t_ix l5 6100 = true then
  if (0 : Int32) ≤ l7 then (k_X10_matchesFields_80 rc l2 l3 l4 l5 l6 (l7 - (s.1 353 15)) (s.1 355 (l5.toNatClampNeg)) s)
 else (k_X10_matchesFields_80 rc l2 l3 l4 l5 l6 (-1) (s.1 355 (l5.toNatClampNeg)) s)
else none
set_option maxRecDepth 4000 in
set_option maxHeartbeats 1000000 in
theorem B_X10_matchesFields_56 {D : va_G} {cy : Nat → ClassId} {ad : Nat → Nat} {bs : Nat} {X : State → Heap → Prop} (rc : RT_X10_behindPerm) {k : Nat} (H : RH_X10_behindPerm rc k) (l2 : Int32) (l3 : Int32) (l4 : Int32) (l5 : Int32) (l6 : Int32) (l7 : Int32) (s : t_S) (Q : (Int32 × Int32 × Int32 × Int32 × Int32 × t_S) ⊕ (Int32 × t_S) → Prop) (Hb14 : ∀ (y0 : Int32) (y1 : Int32) (y2 : Int32) (y3 : Int32) (y4 : Int32) (y5 : t_S), Q (.inl (y0, y1, y2, y3, y4, y5)) → mj_G D cy ad bs X cX10_matchesFields 8 yX10_matchesFields.cls (some .boolean) yX10_matchesFields.name (102 + (k + 1)) 0 0 1065 (t_P (fun v s' => ∃ x, v = some (.int x) ∧ Q (.inr ((x, s'))))) 14 [(0, .ref 353), (2, .int (y0)), (3, .int (y1)), (4, .int (y2)), (5, .int (y3)), (6, .int (y4))] [] (t_m y5) 1065 0 0) (hk : t_hk (k_X10_matchesFields_56 rc l2 l3 l4 l5 l6 l7 s) Q) : mj_G D cy ad bs X cX10_matchesFields 8 yX10_matchesFields.cls (some .boolean) yX10_matchesFields.name (102 + (k + 1)) 0 0 1065 (t_P (fun v s' => ∃ x, v = some (.int x) ∧ Q (.inr ((x, s'))))) 56 [(0, .ref 353), (2, .int l2), (3, .int l3), (4, .int l4), (5, .int l5), (6, .int l6), (7, .int l7)] [] (t_m s) 1065 0 0 := by
  refine mj_aload_n dX10_matchesFields_56 0 rfl ?_
  refine mj_aload_n dX10_matchesFields_57 0 rfl ?_
  refine t_getR 355 dX10_matchesFields_58 F_X10_15 qr_353_1 ?_
  refine mj_iload dX10_matchesFields_61 4 rfl ?_
  refine t_chkK hk (fun c0 hk => ?_)
  refine t_iald dX10_matchesFields_63 qa_355 (t_ixv c0) ?_
  refine mj_iload dX10_matchesFields_64 6 rfl ?_
  refine mj_if_ge 73 dX10_matchesFields_66 (by decide) (fun z => t_posK hk z (fun hk => ?_)) (fun z => t_negK hk z (fun hk => ?_))
  · refine mj_iload dX10_matchesFields_73 6 rfl ?_
    refine mj_aload_n dX10_matchesFields_75 0 rfl ?_
    refine t_getI dX10_matchesFields_76 F_X10_132 qf_353_15 ?_
    refine mj_isub dX10_matchesFields_79 ?_
    refine mj_sublv [(0, .ref 353), (2, .int l2), (3, .int l3), (4, .int l4), (5, .int l5), (6, .int l6)] [0, 1, 2, 3, 4, 5] rfl ?_
    exact B_X10_matchesFields_80 rc H _ _ _ _ _ _ _ _ _ (fun y0 y1 y2 y3 y4 y5 hx => Hb14 y0 y1 y2 y3 y4 y5 hx) hk
  · refine mj_iconst (v := (-1)) dX10_matchesFields_69 (by decide) ?_
    refine mj_goto 80 dX10_matchesFields_70 (by decide) ?_
    refine mj_sublv [(0, .ref 353), (2, .int l2), (3, .int l3), (4, .int l4), (5, .int l5), (6, .int l6)] [0, 1, 2, 3, 4, 5] rfl ?_
    exact B_X10_matchesFields_80 rc H _ _ _ _ _ _ _ _ _ (fun y0 y1 y2 y3 y4 y5 hx => Hb14 y0 y1 y2 y3 y4 y5 hx) hk
noncomputable def k_X10_matchesFields_106 (rc : RT_X10_behindPerm) (l2 : Int32) (l4 : Int32) (s : t_S) : Option (Int32 × t_S) :=
 if t_oka (s.2.2 353 14) 2 (t_ln (s.2.2 353 14)) = true then
  if t_ix ((s.1 353 15) + l2) (t_ln (s.2.2 353 14)) = true then
  if l4 = (f_X8_partsOf (s.2.1 (s.2.2 353 14) (((s.1 353 15) + l2).toNatClampNeg)) s) then (some ((1 : Int32), s))
 else (some ((0 : Int32), s))
else none
else none
set_option maxRecDepth 4000 in
set_option maxHeartbeats 1000000 in
theorem B_X10_matchesFields_106 {D : va_G} {cy : Nat → ClassId} {ad : Nat → Nat} {bs : Nat} {X : State → Heap → Prop} (rc : RT_X10_behindPerm) {k : Nat} (H : RH_X10_behindPerm rc k) (l2 : Int32) (l4 : Int32) (s : t_S) (Q : Int32 × t_S → Prop) (hk : t_hk (k_X10_matchesFields_106 rc l2 l4 s) Q) : mj_G D cy ad bs X cX10_matchesFields 8 yX10_matchesFields.cls (some .boolean) yX10_matchesFields.name (102 + (k + 1)) 0 0 1065 (t_P (fun v s' => ∃ x, v = some (.int x) ∧ Q ((x, s')))) 106 [(0, .ref 353), (2, .int l2), (4, .int l4)] [] (t_m s) 1065 0 0 := by
  refine mj_iload dX10_matchesFields_106 2 rfl ?_
  refine mj_aload_n dX10_matchesFields_108 0 rfl ?_
  refine t_getD dX10_matchesFields_109 F_X10_67 qf_353_14 ?_
  refine mj_aload_n dX10_matchesFields_112 0 rfl ?_
  refine t_getI dX10_matchesFields_113 F_X10_132 qf_353_15 ?_
  refine mj_iload_n dX10_matchesFields_116 1 rfl ?_
  refine mj_iadd dX10_matchesFields_117 ?_
  refine t_chkK hk (fun c0 hk => ?_)
  refine t_chkK hk (fun c1 hk => ?_)
  refine t_lald dX10_matchesFields_118 c0 (t_ixv c1) ?_
  refine t_callSiP dX10_matchesFields_119 M_X8_partsOf (C_X8_partsOf _ _) ML_X10_185 SM_X8_partsOf (As := [.long (s.2.1 (s.2.2 353 14) (((s.1 353 15) + l2).toNatClampNeg))]) rfl rfl (by omega) (Nat.le_of_ble_eq_true rfl) (Nat.le_of_ble_eq_true rfl) (Nat.le_of_ble_eq_true rfl) ?_
  refine mj_icmp_ne 129 dX10_matchesFields_122 (by decide) (fun z => t_negK hk z (fun hk => ?_)) (fun z => t_posK hk z (fun hk => ?_))
  · refine mj_iconst (v := 0) dX10_matchesFields_129 (by decide) ?_
    exact t_somK hk (fun hf => t_iret dX10_matchesFields_130 rfl (by decide) ⟨_, rfl, hf⟩ (Nat.le_of_ble_eq_true rfl) (Nat.le_of_ble_eq_true rfl))
  · refine mj_iconst (v := 1) dX10_matchesFields_125 (by decide) ?_
    refine mj_goto 130 dX10_matchesFields_126 (by decide) ?_
    exact t_somK hk (fun hf => t_iret dX10_matchesFields_130 rfl (by decide) ⟨_, rfl, hf⟩ (Nat.le_of_ble_eq_true rfl) (Nat.le_of_ble_eq_true rfl))
noncomputable def k_X10_matchesFields_14 (rc : RT_X10_behindPerm) (l2 : Int32) (l3 : Int32) (l4 : Int32) (l5 : Int32) (l6 : Int32) (s : t_S) : Option ((Int32 × Int32 × Int32 × Int32 × Int32 × t_S) ⊕ (Int32 × t_S)) :=
 if (16 : Int32) ≤ l6 then ((k_X10_matchesFields_106 rc l2 l4 s).map Sum.inr)
 else (if l5 < (0 : Int32) then ((k_X10_matchesFields_106 rc l2 l4 s).map Sum.inr)
 else (if t_ix l5 6100 = true then
  (f_X8_fieldAt (s.2.2 353 14) ((s.1 353 15) + l2) (s.1 357 (l5.toNatClampNeg)) s).bind (fun r2 =>
 if r2 < (0 : Int32) then (k_X10_matchesFields_56 rc l2 l3 l4 l5 l6 r2 s)
 else (k_X10_matchesFields_56 rc l2 l3 (l4 + 1) l5 l6 r2 s))
else none))
set_option maxRecDepth 4000 in
set_option maxHeartbeats 1000000 in
theorem B_X10_matchesFields_14 {D : va_G} {cy : Nat → ClassId} {ad : Nat → Nat} {bs : Nat} {X : State → Heap → Prop} (rc : RT_X10_behindPerm) {k : Nat} (H : RH_X10_behindPerm rc k) (l2 : Int32) (l3 : Int32) (l4 : Int32) (l5 : Int32) (l6 : Int32) (s : t_S) (Q : (Int32 × Int32 × Int32 × Int32 × Int32 × t_S) ⊕ (Int32 × t_S) → Prop) (Hb14 : ∀ (y0 : Int32) (y1 : Int32) (y2 : Int32) (y3 : Int32) (y4 : Int32) (y5 : t_S), Q (.inl (y0, y1, y2, y3, y4, y5)) → mj_G D cy ad bs X cX10_matchesFields 8 yX10_matchesFields.cls (some .boolean) yX10_matchesFields.name (102 + (k + 1)) 0 0 1065 (t_P (fun v s' => ∃ x, v = some (.int x) ∧ Q (.inr ((x, s'))))) 14 [(0, .ref 353), (2, .int (y0)), (3, .int (y1)), (4, .int (y2)), (5, .int (y3)), (6, .int (y4))] [] (t_m y5) 1065 0 0) (hk : t_hk (k_X10_matchesFields_14 rc l2 l3 l4 l5 l6 s) Q) : mj_G D cy ad bs X cX10_matchesFields 8 yX10_matchesFields.cls (some .boolean) yX10_matchesFields.name (102 + (k + 1)) 0 0 1065 (t_P (fun v s' => ∃ x, v = some (.int x) ∧ Q (.inr ((x, s'))))) 14 [(0, .ref 353), (2, .int l2), (3, .int l3), (4, .int l4), (5, .int l5), (6, .int l6)] [] (t_m s) 1065 0 0 := by
  refine mj_iload dX10_matchesFields_14 5 rfl ?_
  refine mj_bipush (v := 16) dX10_matchesFields_16 (by decide) ?_
  refine mj_icmp_ge 106 dX10_matchesFields_18 (by decide) (fun z => t_posK hk z (fun hk => ?_)) (fun z => t_negK hk z (fun hk => ?_))
  · refine mj_sublv [(0, .ref 353), (2, .int l2), (4, .int l4)] [0, 1, 3] rfl ?_
    refine t_mapK hk (fun hk => ?_)
    exact B_X10_matchesFields_106 rc H _ _ _ _ hk
  · refine mj_iload dX10_matchesFields_21 4 rfl ?_
    refine mj_if_lt 106 dX10_matchesFields_23 (by decide) (fun z => t_posK hk z (fun hk => ?_)) (fun z => t_negK hk z (fun hk => ?_))
    · refine mj_sublv [(0, .ref 353), (2, .int l2), (4, .int l4)] [0, 1, 3] rfl ?_
      refine t_mapK hk (fun hk => ?_)
      exact B_X10_matchesFields_106 rc H _ _ _ _ hk
    · refine mj_aload_n dX10_matchesFields_26 0 rfl ?_
      refine t_getD dX10_matchesFields_27 F_X10_67 qf_353_14 ?_
      refine mj_aload_n dX10_matchesFields_30 0 rfl ?_
      refine t_getI dX10_matchesFields_31 F_X10_132 qf_353_15 ?_
      refine mj_iload_n dX10_matchesFields_34 1 rfl ?_
      refine mj_iadd dX10_matchesFields_35 ?_
      refine mj_aload_n dX10_matchesFields_36 0 rfl ?_
      refine t_getR 357 dX10_matchesFields_37 F_X10_21 qr_353_3 ?_
      refine mj_iload dX10_matchesFields_40 4 rfl ?_
      refine t_chkK hk (fun c0 hk => ?_)
      refine t_iald dX10_matchesFields_42 qa_357 (t_ixv c0) ?_
      refine t_bndK hk (fun r2 er2 hk => ?_)
      refine t_callSiP dX10_matchesFields_43 M_X8_fieldAt (C_X8_fieldAt _ _ _ _ _ er2) ML_X10_195 SM_X8_fieldAt (As := [.ref (s.2.2 353 14), .int ((s.1 353 15) + l2), .int (s.1 357 (l5.toNatClampNeg))]) rfl rfl (by omega) (Nat.le_of_ble_eq_true rfl) (Nat.le_of_ble_eq_true rfl) (Nat.le_of_ble_eq_true rfl) ?_
      refine mj_istore (lv2 := [(7, .int r2), (0, .ref 353), (2, .int l2), (3, .int l3), (4, .int l4), (5, .int l5), (6, .int l6)]) dX10_matchesFields_46 (by decide) rfl ?_
      refine mj_iload dX10_matchesFields_48 0 rfl ?_
      refine mj_if_lt 56 dX10_matchesFields_50 (by decide) (fun z => t_posK hk z (fun hk => ?_)) (fun z => t_negK hk z (fun hk => ?_))
      · refine mj_sublv [(0, .ref 353), (2, .int l2), (3, .int l3), (4, .int l4), (5, .int l5), (6, .int l6), (7, .int r2)] [1, 2, 3, 4, 5, 6, 0] rfl ?_
        exact B_X10_matchesFields_56 rc H _ _ _ _ _ _ _ _ (fun y0 y1 y2 y3 y4 y5 hx => Hb14 y0 y1 y2 y3 y4 y5 hx) hk
      · refine mj_iinc (k := 4) (v := (l4 + 1)) (lv2 := [(4, .int (l4 + 1)), (7, .int r2), (0, .ref 353), (2, .int l2), (3, .int l3), (5, .int l5), (6, .int l6)]) dX10_matchesFields_53 rfl rfl (by decide) rfl ?_
        refine mj_sublv [(0, .ref 353), (2, .int l2), (3, .int l3), (4, .int (l4 + 1)), (5, .int l5), (6, .int l6), (7, .int r2)] [2, 3, 4, 0, 5, 6, 1] rfl ?_
        exact B_X10_matchesFields_56 rc H _ _ _ _ _ _ _ _ (fun y0 y1 y2 y3 y4 y5 hx => Hb14 y0 y1 y2 y3 y4 y5 hx) hk
noncomputable def b_X10_matchesFields_14 (rc : RT_X10_behindPerm) (x : Int32 × Int32 × Int32 × Int32 × Int32 × t_S) : Option ((Int32 × Int32 × Int32 × Int32 × Int32 × t_S) ⊕ (Int32 × t_S)) := k_X10_matchesFields_14 rc x.1 x.2.1 x.2.2.1 x.2.2.2.1 x.2.2.2.2.1 x.2.2.2.2.2
set_option maxRecDepth 4000 in
set_option maxHeartbeats 1000000 in
theorem LH_X10_matchesFields_14 {D : va_G} {cy : Nat → ClassId} {ad : Nat → Nat} {bs : Nat} {X : State → Heap → Prop} (rc : RT_X10_behindPerm) {k : Nat} (H : RH_X10_behindPerm rc k) : ∀ (n : Nat) (y0 : Int32) (y1 : Int32) (y2 : Int32) (y3 : Int32) (y4 : Int32) (y5 : t_S) (Q : Int32 × t_S → Prop) (hk : t_hk (t_loop (b_X10_matchesFields_14 rc) n (y0, y1, y2, y3, y4, y5)) Q), mj_G D cy ad bs X cX10_matchesFields 8 yX10_matchesFields.cls (some .boolean) yX10_matchesFields.name (102 + (k + 1)) 0 0 1065 (t_P (fun v s' => ∃ x, v = some (.int x) ∧ Q ((x, s')))) 14 [(0, .ref 353), (2, .int (y0)), (3, .int (y1)), (4, .int (y2)), (5, .int (y3)), (6, .int (y4))] [] (t_m y5) 1065 0 0 := by
  intro n
  induction n with
  | zero => intro y0 y1 y2 y3 y4 y5 Q hk; obtain ⟨r, hr, _⟩ := hk; cases hr
  | succ n ih =>
    intro y0 y1 y2 y3 y4 y5 Q hk
    exact B_X10_matchesFields_14 rc H y0 y1 y2 y3 y4 y5 (fun y => t_lq (b_X10_matchesFields_14 rc) n Q y) (fun y0' y1' y2' y3' y4' y5' hy => ih y0' y1' y2' y3' y4' y5' Q hy) (t_lp hk)
noncomputable def m_X10_matchesFields (rc : RT_X10_behindPerm) (x1 : Int32) (x2 : Int32) (x3 : Int32) (s : t_S) : Option (Int32 × t_S) :=
 if t_ix x1 6100 = true then
  t_loop (b_X10_matchesFields_14 rc) t_N (x2, x3, 0, (s.1 355 (x1.toNatClampNeg)), 0, s)
else none
set_option maxRecDepth 4000 in
set_option maxHeartbeats 1000000 in
theorem E_X10_matchesFields (rc : RT_X10_behindPerm) {k : Nat} (H : RH_X10_behindPerm rc k) (x1 : Int32) (x2 : Int32) (x3 : Int32) (s : t_S) (r : Int32 × t_S) (hr : m_X10_matchesFields rc x1 x2 x3 s = some r) : t_C yX10_matchesFields cX10_matchesFields 8 (some .boolean) (102 + (k + 1)) [.ref 353, .int x1, .int x2, .int x3] s (fun v s' => v = some (.int r.1) ∧ s' = r.2) := by
  refine t_C.imp (P := fun v s' => ∃ x, v = some (.int x) ∧ (fun q => q = r) ((x, s'))) (t_C.of (by decide +kernel) (Nat.le_of_ble_eq_true rfl) ?_) (fun v s' hp => by obtain ⟨x, rfl, rfl⟩ := hp; exact ⟨rfl, rfl⟩)
  intro D cy ad bs X
  have hk : t_hk (m_X10_matchesFields rc x1 x2 x3 s) (fun q => q = r) := ⟨r, hr, rfl⟩
  show mj_G D cy ad bs X cX10_matchesFields 8 yX10_matchesFields.cls (some .boolean) yX10_matchesFields.name (102 + (k + 1)) 0 0 1065 (t_P (fun v s' => ∃ x, v = some (.int x) ∧ (fun q => q = r) ((x, s')))) 0 [(0, .ref 353), (1, .int x1), (2, .int x2), (3, .int x3)] [] (t_m s) 1065 0 0
  refine mj_iconst (v := 0) dX10_matchesFields_0 (by decide) ?_
  refine mj_istore (lv2 := [(4, .int 0), (0, .ref 353), (1, .int x1), (2, .int x2), (3, .int x3)]) dX10_matchesFields_1 (by decide) rfl ?_
  refine mj_aload_n dX10_matchesFields_3 1 rfl ?_
  refine t_getR 355 dX10_matchesFields_4 F_X10_15 qr_353_1 ?_
  refine mj_iload_n dX10_matchesFields_7 2 rfl ?_
  refine t_chkK hk (fun c0 hk => ?_)
  refine t_iald dX10_matchesFields_8 qa_355 (t_ixv c0) ?_
  refine mj_istore (lv2 := [(5, .int (s.1 355 (x1.toNatClampNeg))), (4, .int 0), (0, .ref 353), (1, .int x1), (2, .int x2), (3, .int x3)]) dX10_matchesFields_9 (by decide) rfl ?_
  refine mj_iconst (v := 0) dX10_matchesFields_11 (by decide) ?_
  refine mj_istore (lv2 := [(6, .int 0), (5, .int (s.1 355 (x1.toNatClampNeg))), (4, .int 0), (0, .ref 353), (1, .int x1), (2, .int x2), (3, .int x3)]) dX10_matchesFields_12 (by decide) rfl ?_
  refine mj_sublv [(0, .ref 353), (2, .int x2), (3, .int x3), (4, .int 0), (5, .int (s.1 355 (x1.toNatClampNeg))), (6, .int 0)] [3, 5, 6, 2, 1, 0] rfl ?_
  exact LH_X10_matchesFields_14 rc H _ x2 x3 0 (s.1 355 (x1.toNatClampNeg)) 0 s _ hk
noncomputable def k_X10_matchesLink_84 (rc : RT_X10_behindPerm) (l5 : Int32) (k0 : Int32) (k1 : Int32) (k2 : Int32) (s : t_S) : Option (Int32 × t_S) :=
 if t_ix k2 7320 = true then
  t_let (t_setI s 424 (k2.toNatClampNeg) (k1 ||| k0)) (fun s1 =>
 if l5 = 0 ∨ l5 = 1 then
  some (l5, s1)
else none)
else none
set_option maxRecDepth 4000 in
set_option maxHeartbeats 1000000 in
theorem B_X10_matchesLink_84 {D : va_G} {cy : Nat → ClassId} {ad : Nat → Nat} {bs : Nat} {X : State → Heap → Prop} (rc : RT_X10_behindPerm) {k : Nat} (H : RH_X10_behindPerm rc k) (l5 : Int32) (k0 : Int32) (k1 : Int32) (k2 : Int32) (s : t_S) (Q : Int32 × t_S → Prop) (hk : t_hk (k_X10_matchesLink_84 rc l5 k0 k1 k2 s) Q) : mj_G D cy ad bs X cX10_matchesLink 6 yX10_matchesLink.cls (some .boolean) yX10_matchesLink.name (102 + (k + 1)) 0 0 1065 (t_P (fun v s' => ∃ x, v = some (.int x) ∧ Q ((x, s')))) 84 [(5, .int l5)] [.int k0, .int k1, .int k2, .ref 424] (t_m s) 1065 0 0 := by
  refine mj_ior dX10_matchesLink_84 ?_
  refine t_chkK hk (fun c0 hk => ?_)
  refine t_iastK dX10_matchesLink_85 qa_424 (t_ixv c0) (fun s1 ws1 => t_letE hk ws1 (fun hk => ?_))
  refine mj_iload dX10_matchesLink_86 0 rfl ?_
  refine t_chkK hk (fun c1 hk => ?_)
  exact t_somK hk (fun hf => t_iret dX10_matchesLink_88 rfl (t_zfit c1) ⟨_, rfl, hf⟩ (Nat.le_of_ble_eq_true rfl) (Nat.le_of_ble_eq_true rfl))
noncomputable def m_X10_matchesLink (rc : RT_X10_behindPerm) (x1 : Int32) (x2 : Int32) (x3 : Int32) (s : t_S) : Option (Int32 × t_S) :=
 if t_ix (((x1 * (122 : Int32)) + x2) + (1 : Int32)) 7320 = true then
  if ((s.1 424 ((((x1 * (122 : Int32)) + x2) + (1 : Int32)).toNatClampNeg)) >>> ((1 : Int32) &&& 31)) = (s.1 353 13) then (if ((s.1 424 ((((x1 * (122 : Int32)) + x2) + (1 : Int32)).toNatClampNeg)) &&& (1 : Int32)) = (0 : Int32) then (some ((0 : Int32), s))
 else (some ((1 : Int32), s)))
 else (if t_ix x1 60 = true then
  (rc.2.1 (s.1 (364 + 1 * (x1.toNatClampNeg)) ((0 : Int32).toNatClampNeg)) x2 (x3 + (1 : Int32)) s).bind (fun r3 =>
 if r3.1 = (0 : Int32) then (k_X10_matchesLink_84 rc r3.1 0 ((r3.2.1 353 13) <<< ((1 : Int32) &&& 31)) (((x1 * (122 : Int32)) + x2) + (1 : Int32)) r3.2)
 else (k_X10_matchesLink_84 rc r3.1 1 ((r3.2.1 353 13) <<< ((1 : Int32) &&& 31)) (((x1 * (122 : Int32)) + x2) + (1 : Int32)) r3.2))
else none)
else none
set_option maxRecDepth 4000 in
set_option maxHeartbeats 1000000 in
theorem E_X10_matchesLink (rc : RT_X10_behindPerm) {k : Nat} (H : RH_X10_behindPerm rc k) (x1 : Int32) (x2 : Int32) (x3 : Int32) (s : t_S) (r : Int32 × t_S) (hr : m_X10_matchesLink rc x1 x2 x3 s = some r) : t_C yX10_matchesLink cX10_matchesLink 6 (some .boolean) (102 + (k + 1)) [.ref 353, .int x1, .int x2, .int x3] s (fun v s' => v = some (.int r.1) ∧ s' = r.2) := by
  refine t_C.imp (P := fun v s' => ∃ x, v = some (.int x) ∧ (fun q => q = r) ((x, s'))) (t_C.of (by decide +kernel) (Nat.le_of_ble_eq_true rfl) ?_) (fun v s' hp => by obtain ⟨x, rfl, rfl⟩ := hp; exact ⟨rfl, rfl⟩)
  intro D cy ad bs X
  have hk : t_hk (m_X10_matchesLink rc x1 x2 x3 s) (fun q => q = r) := ⟨r, hr, rfl⟩
  show mj_G D cy ad bs X cX10_matchesLink 6 yX10_matchesLink.cls (some .boolean) yX10_matchesLink.name (102 + (k + 1)) 0 0 1065 (t_P (fun v s' => ∃ x, v = some (.int x) ∧ (fun q => q = r) ((x, s')))) 0 [(0, .ref 353), (1, .int x1), (2, .int x2), (3, .int x3)] [] (t_m s) 1065 0 0
  refine mj_iload_n dX10_matchesLink_0 1 rfl ?_
  refine mj_bipush (v := 122) dX10_matchesLink_1 (by decide) ?_
  refine mj_imul dX10_matchesLink_3 ?_
  refine mj_iload_n dX10_matchesLink_4 2 rfl ?_
  refine mj_iadd dX10_matchesLink_5 ?_
  refine mj_iconst (v := 1) dX10_matchesLink_6 (by decide) ?_
  refine mj_iadd dX10_matchesLink_7 ?_
  refine mj_istore (lv2 := [(4, .int (((x1 * (122 : Int32)) + x2) + (1 : Int32))), (0, .ref 353), (1, .int x1), (2, .int x2), (3, .int x3)]) dX10_matchesLink_8 (by decide) rfl ?_
  refine mj_aload_n dX10_matchesLink_10 1 rfl ?_
  refine t_getR 424 dX10_matchesLink_11 F_X10_46 qr_353_12 ?_
  refine mj_iload dX10_matchesLink_14 0 rfl ?_
  refine t_chkK hk (fun c0 hk => ?_)
  refine t_iald dX10_matchesLink_16 qa_424 (t_ixv c0) ?_
  refine mj_iconst (v := 1) dX10_matchesLink_17 (by decide) ?_
  refine mj_ishr dX10_matchesLink_18 ?_
  refine mj_aload_n dX10_matchesLink_19 1 rfl ?_
  refine t_getI dX10_matchesLink_20 F_X10_135 qf_353_13 ?_
  refine mj_icmp_ne 44 dX10_matchesLink_23 (by decide) (fun z => t_negK hk z (fun hk => ?_)) (fun z => t_posK hk z (fun hk => ?_))
  · refine mj_aload_n dX10_matchesLink_44 1 rfl ?_
    refine mj_aload_n dX10_matchesLink_45 1 rfl ?_
    refine t_getR 363 dX10_matchesLink_46 F_X10_43 qr_353_10 ?_
    refine mj_iload_n dX10_matchesLink_49 2 rfl ?_
    refine t_chkK hk (fun c1 hk => ?_)
    refine t_aaldI dX10_matchesLink_50 qq_363 (t_ixv c1) ?_
    refine mj_iconst (v := 0) dX10_matchesLink_51 (by decide) ?_
    refine t_iald dX10_matchesLink_52 (t_row364 (t_ixn c1)) (by unfold vp_in; decide) ?_
    refine mj_iload_n dX10_matchesLink_53 3 rfl ?_
    refine mj_iload_n dX10_matchesLink_54 4 rfl ?_
    refine mj_iconst (v := 1) dX10_matchesLink_55 (by decide) ?_
    refine mj_iadd dX10_matchesLink_56 ?_
    refine t_bndK hk (fun r3 er3 hk => ?_)
    refine t_callViE dX10_matchesLink_57 M_X10_matches (H.2.1 _ _ _ _ _ er3) ML_X10_145 IM_X10_matches SE_X10_matches qc_353 rfl (As := [.int (s.1 (364 + 1 * (x1.toNatClampNeg)) ((0 : Int32).toNatClampNeg)), .int x2, .int (x3 + (1 : Int32))]) rfl rfl (by omega) (Nat.le_of_ble_eq_true rfl) (Nat.le_of_ble_eq_true rfl) (Nat.le_of_ble_eq_true rfl) ?_
    refine mj_istore (lv2 := [(5, .int r3.1), (4, .int (((x1 * (122 : Int32)) + x2) + (1 : Int32))), (0, .ref 353), (1, .int x1), (2, .int x2), (3, .int x3)]) dX10_matchesLink_60 (by decide) rfl ?_
    refine mj_aload_n dX10_matchesLink_62 2 rfl ?_
    refine t_getR 424 dX10_matchesLink_63 F_X10_46 qr_353_12 ?_
    refine mj_iload dX10_matchesLink_66 1 rfl ?_
    refine mj_aload_n dX10_matchesLink_68 2 rfl ?_
    refine t_getI dX10_matchesLink_69 F_X10_135 qf_353_13 ?_
    refine mj_iconst (v := 1) dX10_matchesLink_72 (by decide) ?_
    refine mj_ishl dX10_matchesLink_73 ?_
    refine mj_iload dX10_matchesLink_74 0 rfl ?_
    refine mj_if_eq 83 dX10_matchesLink_76 (by decide) (fun z => t_posK hk z (fun hk => ?_)) (fun z => t_negK hk z (fun hk => ?_))
    · refine mj_iconst (v := 0) dX10_matchesLink_83 (by decide) ?_
      refine mj_sublv [(5, .int r3.1)] [0] rfl ?_
      exact B_X10_matchesLink_84 rc H _ _ _ _ _ _ hk
    · refine mj_iconst (v := 1) dX10_matchesLink_79 (by decide) ?_
      refine mj_goto 84 dX10_matchesLink_80 (by decide) ?_
      refine mj_sublv [(5, .int r3.1)] [0] rfl ?_
      exact B_X10_matchesLink_84 rc H _ _ _ _ _ _ hk
  · refine mj_aload_n dX10_matchesLink_26 1 rfl ?_
    refine t_getR 424 dX10_matchesLink_27 F_X10_46 qr_353_12 ?_
    refine mj_iload dX10_matchesLink_30 0 rfl ?_
    refine t_iald dX10_matchesLink_32 qa_424 (t_ixv c0) ?_
    refine mj_iconst (v := 1) dX10_matchesLink_33 (by decide) ?_
    refine mj_iand dX10_matchesLink_34 ?_
    refine mj_if_eq 42 dX10_matchesLink_35 (by decide) (fun z => t_posK hk z (fun hk => ?_)) (fun z => t_negK hk z (fun hk => ?_))
    · refine mj_iconst (v := 0) dX10_matchesLink_42 (by decide) ?_
      exact t_somK hk (fun hf => t_iret dX10_matchesLink_43 rfl (by decide) ⟨_, rfl, hf⟩ (Nat.le_of_ble_eq_true rfl) (Nat.le_of_ble_eq_true rfl))
    · refine mj_iconst (v := 1) dX10_matchesLink_38 (by decide) ?_
      refine mj_goto 43 dX10_matchesLink_39 (by decide) ?_
      exact t_somK hk (fun hf => t_iret dX10_matchesLink_43 rfl (by decide) ⟨_, rfl, hf⟩ (Nat.le_of_ble_eq_true rfl) (Nat.le_of_ble_eq_true rfl))
noncomputable def k_X10_matchesRow_194 (rc : RT_X10_behindPerm) (l4 : Int32) (l5 : Int32) (s : t_S) : Option (Int32 × t_S) :=
 if ((l5 >>> (l4 &&& 31)) &&& (1 : Int32)) = (0 : Int32) then (some ((0 : Int32), s))
 else (some ((1 : Int32), s))
set_option maxRecDepth 4000 in
set_option maxHeartbeats 1000000 in
theorem B_X10_matchesRow_194 {D : va_G} {cy : Nat → ClassId} {ad : Nat → Nat} {bs : Nat} {X : State → Heap → Prop} (rc : RT_X10_behindPerm) {k : Nat} (H : RH_X10_behindPerm rc k) (l4 : Int32) (l5 : Int32) (s : t_S) (Q : Int32 × t_S → Prop) (hk : t_hk (k_X10_matchesRow_194 rc l4 l5 s) Q) : mj_G D cy ad bs X cX10_matchesRow 11 yX10_matchesRow.cls (some .boolean) yX10_matchesRow.name (102 + (k + 1)) 0 0 1065 (t_P (fun v s' => ∃ x, v = some (.int x) ∧ Q ((x, s')))) 194 [(4, .int l4), (5, .int l5)] [] (t_m s) 1065 0 0 := by
  refine mj_iload dX10_matchesRow_194 1 rfl ?_
  refine mj_iload dX10_matchesRow_196 0 rfl ?_
  refine mj_ishr dX10_matchesRow_198 ?_
  refine mj_iconst (v := 1) dX10_matchesRow_199 (by decide) ?_
  refine mj_iand dX10_matchesRow_200 ?_
  refine mj_if_eq 208 dX10_matchesRow_201 (by decide) (fun z => t_posK hk z (fun hk => ?_)) (fun z => t_negK hk z (fun hk => ?_))
  · refine mj_iconst (v := 0) dX10_matchesRow_208 (by decide) ?_
    exact t_somK hk (fun hf => t_iret dX10_matchesRow_209 rfl (by decide) ⟨_, rfl, hf⟩ (Nat.le_of_ble_eq_true rfl) (Nat.le_of_ble_eq_true rfl))
  · refine mj_iconst (v := 1) dX10_matchesRow_204 (by decide) ?_
    refine mj_goto 209 dX10_matchesRow_205 (by decide) ?_
    exact t_somK hk (fun hf => t_iret dX10_matchesRow_209 rfl (by decide) ⟨_, rfl, hf⟩ (Nat.le_of_ble_eq_true rfl) (Nat.le_of_ble_eq_true rfl))
noncomputable def k_X10_matchesRow_179 (rc : RT_X10_behindPerm) (l2 : Int32) (l3 : Int32) (l4 : Int32) (l5 : Int32) (l6 : Int32) (l7 : Int32) (s : t_S) : Option ((Int32 × Int32 × Int32 × Int32 × Int32 × Int32 × t_S) ⊕ (Int32 × t_S)) :=
 if t_ix l6 6100 = true then
  some (.inl (l2, l3, l4, l5, (s.1 356 (l6.toNatClampNeg)), (l7 + 1), s))
else none
set_option maxRecDepth 4000 in
set_option maxHeartbeats 1000000 in
theorem B_X10_matchesRow_179 {D : va_G} {cy : Nat → ClassId} {ad : Nat → Nat} {bs : Nat} {X : State → Heap → Prop} (rc : RT_X10_behindPerm) {k : Nat} (H : RH_X10_behindPerm rc k) (l2 : Int32) (l3 : Int32) (l4 : Int32) (l5 : Int32) (l6 : Int32) (l7 : Int32) (s : t_S) (Q : (Int32 × Int32 × Int32 × Int32 × Int32 × Int32 × t_S) ⊕ (Int32 × t_S) → Prop) (Hb30 : ∀ (y0 : Int32) (y1 : Int32) (y2 : Int32) (y3 : Int32) (y4 : Int32) (y5 : Int32) (y6 : t_S), Q (.inl (y0, y1, y2, y3, y4, y5, y6)) → mj_G D cy ad bs X cX10_matchesRow 11 yX10_matchesRow.cls (some .boolean) yX10_matchesRow.name (102 + (k + 1)) 0 0 1065 (t_P (fun v s' => ∃ x, v = some (.int x) ∧ Q (.inr ((x, s'))))) 30 [(0, .ref 353), (2, .int (y0)), (3, .int (y1)), (4, .int (y2)), (5, .int (y3)), (6, .int (y4)), (7, .int (y5))] [] (t_m y6) 1065 0 0) (hk : t_hk (k_X10_matchesRow_179 rc l2 l3 l4 l5 l6 l7 s) Q) : mj_G D cy ad bs X cX10_matchesRow 11 yX10_matchesRow.cls (some .boolean) yX10_matchesRow.name (102 + (k + 1)) 0 0 1065 (t_P (fun v s' => ∃ x, v = some (.int x) ∧ Q (.inr ((x, s'))))) 179 [(0, .ref 353), (2, .int l2), (3, .int l3), (4, .int l4), (5, .int l5), (6, .int l6), (7, .int l7)] [] (t_m s) 1065 0 0 := by
  refine mj_aload_n dX10_matchesRow_179 0 rfl ?_
  refine t_getR 356 dX10_matchesRow_180 F_X10_18 qr_353_2 ?_
  refine mj_iload dX10_matchesRow_183 5 rfl ?_
  refine t_chkK hk (fun c0 hk => ?_)
  refine t_iald dX10_matchesRow_185 qa_356 (t_ixv c0) ?_
  refine mj_istore (lv2 := [(6, .int (s.1 356 (l6.toNatClampNeg))), (0, .ref 353), (2, .int l2), (3, .int l3), (4, .int l4), (5, .int l5), (7, .int l7)]) dX10_matchesRow_186 (by decide) rfl ?_
  refine mj_iinc (k := 6) (v := (l7 + 1)) (lv2 := [(7, .int (l7 + 1)), (6, .int (s.1 356 (l6.toNatClampNeg))), (0, .ref 353), (2, .int l2), (3, .int l3), (4, .int l4), (5, .int l5)]) dX10_matchesRow_188 rfl rfl (by decide) rfl ?_
  refine mj_goto 30 dX10_matchesRow_191 (by decide) ?_
  refine mj_sublv [(0, .ref 353), (2, .int l2), (3, .int l3), (4, .int l4), (5, .int l5), (6, .int (s.1 356 (l6.toNatClampNeg))), (7, .int (l7 + 1))] [2, 3, 4, 5, 6, 1, 0] rfl ?_
  exact t_somK hk (fun hf => Hb30 l2 l3 l4 l5 (s.1 356 (l6.toNatClampNeg)) (l7 + 1) s hf)
noncomputable def k_X10_matchesRow_149 (rc : RT_X10_behindPerm) (l2 : Int32) (l3 : Int32) (l4 : Int32) (l5 : Int32) (l6 : Int32) (l7 : Int32) (l8 : Int32) (l9 : Int32) (l10 : Int32) (s : t_S) : Option ((Int32 × Int32 × Int32 × Int32 × Int32 × Int32 × Int32 × Int32 × Int32 × t_S) ⊕ ((Int32 × Int32 × Int32 × Int32 × Int32 × Int32 × t_S) ⊕ (Int32 × t_S))) :=
 if t_oka (s.2.2 353 14) 2 (t_ln (s.2.2 353 14)) = true then
  if t_ix ((s.1 353 15) + l9) (t_ln (s.2.2 353 14)) = true then
  some (.inl (l2, l3, l4, l5, l6, l7, l8, (l9 + (f_X8_size (s.2.1 (s.2.2 353 14) (((s.1 353 15) + l9).toNatClampNeg)) s)), (l10 + 1), s))
else none
else none
set_option maxRecDepth 4000 in
set_option maxHeartbeats 1000000 in
theorem B_X10_matchesRow_149 {D : va_G} {cy : Nat → ClassId} {ad : Nat → Nat} {bs : Nat} {X : State → Heap → Prop} (rc : RT_X10_behindPerm) {k : Nat} (H : RH_X10_behindPerm rc k) (l2 : Int32) (l3 : Int32) (l4 : Int32) (l5 : Int32) (l6 : Int32) (l7 : Int32) (l8 : Int32) (l9 : Int32) (l10 : Int32) (s : t_S) (Q : (Int32 × Int32 × Int32 × Int32 × Int32 × Int32 × Int32 × Int32 × Int32 × t_S) ⊕ ((Int32 × Int32 × Int32 × Int32 × Int32 × Int32 × t_S) ⊕ (Int32 × t_S)) → Prop) (Hb30 : ∀ (y0 : Int32) (y1 : Int32) (y2 : Int32) (y3 : Int32) (y4 : Int32) (y5 : Int32) (y6 : t_S), Q (.inr (.inl (y0, y1, y2, y3, y4, y5, y6))) → mj_G D cy ad bs X cX10_matchesRow 11 yX10_matchesRow.cls (some .boolean) yX10_matchesRow.name (102 + (k + 1)) 0 0 1065 (t_P (fun v s' => ∃ x, v = some (.int x) ∧ Q (.inr (.inr ((x, s')))))) 30 [(0, .ref 353), (2, .int (y0)), (3, .int (y1)), (4, .int (y2)), (5, .int (y3)), (6, .int (y4)), (7, .int (y5))] [] (t_m y6) 1065 0 0) (Hb109 : ∀ (y0 : Int32) (y1 : Int32) (y2 : Int32) (y3 : Int32) (y4 : Int32) (y5 : Int32) (y6 : Int32) (y7 : Int32) (y8 : Int32) (y9 : t_S), Q (.inl (y0, y1, y2, y3, y4, y5, y6, y7, y8, y9)) → mj_G D cy ad bs X cX10_matchesRow 11 yX10_matchesRow.cls (some .boolean) yX10_matchesRow.name (102 + (k + 1)) 0 0 1065 (t_P (fun v s' => ∃ x, v = some (.int x) ∧ Q (.inr (.inr ((x, s')))))) 109 [(0, .ref 353), (2, .int (y0)), (3, .int (y1)), (4, .int (y2)), (5, .int (y3)), (6, .int (y4)), (7, .int (y5)), (8, .int (y6)), (9, .int (y7)), (10, .int (y8))] [] (t_m y9) 1065 0 0) (hk : t_hk (k_X10_matchesRow_149 rc l2 l3 l4 l5 l6 l7 l8 l9 l10 s) Q) : mj_G D cy ad bs X cX10_matchesRow 11 yX10_matchesRow.cls (some .boolean) yX10_matchesRow.name (102 + (k + 1)) 0 0 1065 (t_P (fun v s' => ∃ x, v = some (.int x) ∧ Q (.inr (.inr ((x, s')))))) 149 [(0, .ref 353), (2, .int l2), (3, .int l3), (4, .int l4), (5, .int l5), (6, .int l6), (7, .int l7), (8, .int l8), (9, .int l9), (10, .int l10)] [] (t_m s) 1065 0 0 := by
  refine mj_iload dX10_matchesRow_149 8 rfl ?_
  refine mj_aload_n dX10_matchesRow_151 0 rfl ?_
  refine t_getD dX10_matchesRow_152 F_X10_67 qf_353_14 ?_
  refine mj_aload_n dX10_matchesRow_155 0 rfl ?_
  refine t_getI dX10_matchesRow_156 F_X10_132 qf_353_15 ?_
  refine mj_iload dX10_matchesRow_159 8 rfl ?_
  refine mj_iadd dX10_matchesRow_161 ?_
  refine t_chkK hk (fun c0 hk => ?_)
  refine t_chkK hk (fun c1 hk => ?_)
  refine t_lald dX10_matchesRow_162 c0 (t_ixv c1) ?_
  refine t_callSiP dX10_matchesRow_163 M_X8_size (C_X8_size _ _) ML_X10_125 SM_X8_size (As := [.long (s.2.1 (s.2.2 353 14) (((s.1 353 15) + l9).toNatClampNeg))]) rfl rfl (by omega) (Nat.le_of_ble_eq_true rfl) (Nat.le_of_ble_eq_true rfl) (Nat.le_of_ble_eq_true rfl) ?_
  refine mj_iadd dX10_matchesRow_166 ?_
  refine mj_istore (lv2 := [(9, .int (l9 + (f_X8_size (s.2.1 (s.2.2 353 14) (((s.1 353 15) + l9).toNatClampNeg)) s))), (0, .ref 353), (2, .int l2), (3, .int l3), (4, .int l4), (5, .int l5), (6, .int l6), (7, .int l7), (8, .int l8), (10, .int l10)]) dX10_matchesRow_167 (by decide) rfl ?_
  refine mj_iinc (k := 9) (v := (l10 + 1)) (lv2 := [(10, .int (l10 + 1)), (9, .int (l9 + (f_X8_size (s.2.1 (s.2.2 353 14) (((s.1 353 15) + l9).toNatClampNeg)) s))), (0, .ref 353), (2, .int l2), (3, .int l3), (4, .int l4), (5, .int l5), (6, .int l6), (7, .int l7), (8, .int l8)]) dX10_matchesRow_169 rfl rfl (by decide) rfl ?_
  refine mj_goto 109 dX10_matchesRow_172 (by decide) ?_
  refine mj_sublv [(0, .ref 353), (2, .int l2), (3, .int l3), (4, .int l4), (5, .int l5), (6, .int l6), (7, .int l7), (8, .int l8), (9, .int (l9 + (f_X8_size (s.2.1 (s.2.2 353 14) (((s.1 353 15) + l9).toNatClampNeg)) s))), (10, .int (l10 + 1))] [2, 3, 4, 5, 6, 7, 8, 9, 1, 0] rfl ?_
  exact t_somK hk (fun hf => Hb109 l2 l3 l4 l5 l6 l7 l8 (l9 + (f_X8_size (s.2.1 (s.2.2 353 14) (((s.1 353 15) + l9).toNatClampNeg)) s)) (l10 + 1) s hf)
noncomputable def k_X10_matchesRow_109 (rc : RT_X10_behindPerm) (l2 : Int32) (l3 : Int32) (l4 : Int32) (l5 : Int32) (l6 : Int32) (l7 : Int32) (l8 : Int32) (l9 : Int32) (l10 : Int32) (s : t_S) : Option ((Int32 × Int32 × Int32 × Int32 × Int32 × Int32 × Int32 × Int32 × Int32 × t_S) ⊕ ((Int32 × Int32 × Int32 × Int32 × Int32 × Int32 × t_S) ⊕ (Int32 × t_S))) :=
 if l4 ≤ l10 then ((k_X10_matchesRow_179 rc l2 l3 l4 l8 l6 l7 s).map Sum.inr)
 else (if ((l5 >>> (l10 &&& 31)) &&& (1 : Int32)) = (0 : Int32) then (k_X10_matchesRow_149 rc l2 l3 l4 l5 l6 l7 l8 l9 l10 s)
 else ((rc.2.1 l6 l9 (l3 + (1 : Int32)) s).bind (fun r1 =>
 if r1.1 = (0 : Int32) then (k_X10_matchesRow_149 rc l2 l3 l4 l5 l6 l7 l8 l9 l10 r1.2)
 else (k_X10_matchesRow_149 rc l2 l3 l4 l5 l6 l7 (l8 ||| ((2 : Int32) <<< (l10 &&& 31))) l9 l10 r1.2))))
set_option maxRecDepth 4000 in
set_option maxHeartbeats 1000000 in
theorem B_X10_matchesRow_109 {D : va_G} {cy : Nat → ClassId} {ad : Nat → Nat} {bs : Nat} {X : State → Heap → Prop} (rc : RT_X10_behindPerm) {k : Nat} (H : RH_X10_behindPerm rc k) (l2 : Int32) (l3 : Int32) (l4 : Int32) (l5 : Int32) (l6 : Int32) (l7 : Int32) (l8 : Int32) (l9 : Int32) (l10 : Int32) (s : t_S) (Q : (Int32 × Int32 × Int32 × Int32 × Int32 × Int32 × Int32 × Int32 × Int32 × t_S) ⊕ ((Int32 × Int32 × Int32 × Int32 × Int32 × Int32 × t_S) ⊕ (Int32 × t_S)) → Prop) (Hb30 : ∀ (y0 : Int32) (y1 : Int32) (y2 : Int32) (y3 : Int32) (y4 : Int32) (y5 : Int32) (y6 : t_S), Q (.inr (.inl (y0, y1, y2, y3, y4, y5, y6))) → mj_G D cy ad bs X cX10_matchesRow 11 yX10_matchesRow.cls (some .boolean) yX10_matchesRow.name (102 + (k + 1)) 0 0 1065 (t_P (fun v s' => ∃ x, v = some (.int x) ∧ Q (.inr (.inr ((x, s')))))) 30 [(0, .ref 353), (2, .int (y0)), (3, .int (y1)), (4, .int (y2)), (5, .int (y3)), (6, .int (y4)), (7, .int (y5))] [] (t_m y6) 1065 0 0) (Hb109 : ∀ (y0 : Int32) (y1 : Int32) (y2 : Int32) (y3 : Int32) (y4 : Int32) (y5 : Int32) (y6 : Int32) (y7 : Int32) (y8 : Int32) (y9 : t_S), Q (.inl (y0, y1, y2, y3, y4, y5, y6, y7, y8, y9)) → mj_G D cy ad bs X cX10_matchesRow 11 yX10_matchesRow.cls (some .boolean) yX10_matchesRow.name (102 + (k + 1)) 0 0 1065 (t_P (fun v s' => ∃ x, v = some (.int x) ∧ Q (.inr (.inr ((x, s')))))) 109 [(0, .ref 353), (2, .int (y0)), (3, .int (y1)), (4, .int (y2)), (5, .int (y3)), (6, .int (y4)), (7, .int (y5)), (8, .int (y6)), (9, .int (y7)), (10, .int (y8))] [] (t_m y9) 1065 0 0) (hk : t_hk (k_X10_matchesRow_109 rc l2 l3 l4 l5 l6 l7 l8 l9 l10 s) Q) : mj_G D cy ad bs X cX10_matchesRow 11 yX10_matchesRow.cls (some .boolean) yX10_matchesRow.name (102 + (k + 1)) 0 0 1065 (t_P (fun v s' => ∃ x, v = some (.int x) ∧ Q (.inr (.inr ((x, s')))))) 109 [(0, .ref 353), (2, .int l2), (3, .int l3), (4, .int l4), (5, .int l5), (6, .int l6), (7, .int l7), (8, .int l8), (9, .int l9), (10, .int l10)] [] (t_m s) 1065 0 0 := by
  refine mj_iload dX10_matchesRow_109 9 rfl ?_
  refine mj_iload dX10_matchesRow_111 3 rfl ?_
  refine mj_icmp_ge 175 dX10_matchesRow_113 (by decide) (fun z => t_posK hk z (fun hk => ?_)) (fun z => t_negK hk z (fun hk => ?_))
  · refine t_mapK hk (fun hk => ?_)
    refine mj_iload dX10_matchesRow_175 7 rfl ?_
    refine mj_istore (lv2 := [(5, .int l8), (0, .ref 353), (2, .int l2), (3, .int l3), (4, .int l4), (6, .int l6), (7, .int l7), (8, .int l8), (9, .int l9), (10, .int l10)]) dX10_matchesRow_177 (by decide) rfl ?_
    refine mj_sublv [(0, .ref 353), (2, .int l2), (3, .int l3), (4, .int l4), (5, .int l8), (6, .int l6), (7, .int l7)] [1, 2, 3, 4, 0, 5, 6] rfl ?_
    exact B_X10_matchesRow_179 rc H _ _ _ _ _ _ _ _ (fun y0 y1 y2 y3 y4 y5 y6 hx => Hb30 y0 y1 y2 y3 y4 y5 y6 hx) hk
  · refine mj_iload dX10_matchesRow_116 4 rfl ?_
    refine mj_iload dX10_matchesRow_118 9 rfl ?_
    refine mj_ishr dX10_matchesRow_120 ?_
    refine mj_iconst (v := 1) dX10_matchesRow_121 (by decide) ?_
    refine mj_iand dX10_matchesRow_122 ?_
    refine mj_if_eq 149 dX10_matchesRow_123 (by decide) (fun z => t_posK hk z (fun hk => ?_)) (fun z => t_negK hk z (fun hk => ?_))
    · exact B_X10_matchesRow_149 rc H _ _ _ _ _ _ _ _ _ _ _ (fun y0 y1 y2 y3 y4 y5 y6 hx => Hb30 y0 y1 y2 y3 y4 y5 y6 hx) (fun y0 y1 y2 y3 y4 y5 y6 y7 y8 y9 hx => Hb109 y0 y1 y2 y3 y4 y5 y6 y7 y8 y9 hx) hk
    · refine mj_aload_n dX10_matchesRow_126 0 rfl ?_
      refine mj_iload dX10_matchesRow_127 5 rfl ?_
      refine mj_iload dX10_matchesRow_129 8 rfl ?_
      refine mj_iload_n dX10_matchesRow_131 2 rfl ?_
      refine mj_iconst (v := 1) dX10_matchesRow_132 (by decide) ?_
      refine mj_iadd dX10_matchesRow_133 ?_
      refine t_bndK hk (fun r1 er1 hk => ?_)
      refine t_callViE dX10_matchesRow_134 M_X10_matches (H.2.1 _ _ _ _ _ er1) ML_X10_145 IM_X10_matches SE_X10_matches qc_353 rfl (As := [.int l6, .int l9, .int (l3 + (1 : Int32))]) rfl rfl (by omega) (Nat.le_of_ble_eq_true rfl) (Nat.le_of_ble_eq_true rfl) (Nat.le_of_ble_eq_true rfl) ?_
      refine mj_if_eq 149 dX10_matchesRow_137 (by decide) (fun z => t_posK hk z (fun hk => ?_)) (fun z => t_negK hk z (fun hk => ?_))
      · exact B_X10_matchesRow_149 rc H _ _ _ _ _ _ _ _ _ _ _ (fun y0 y1 y2 y3 y4 y5 y6 hx => Hb30 y0 y1 y2 y3 y4 y5 y6 hx) (fun y0 y1 y2 y3 y4 y5 y6 y7 y8 y9 hx => Hb109 y0 y1 y2 y3 y4 y5 y6 y7 y8 y9 hx) hk
      · refine mj_iload dX10_matchesRow_140 7 rfl ?_
        refine mj_iconst (v := 2) dX10_matchesRow_142 (by decide) ?_
        refine mj_iload dX10_matchesRow_143 9 rfl ?_
        refine mj_ishl dX10_matchesRow_145 ?_
        refine mj_ior dX10_matchesRow_146 ?_
        refine mj_istore (lv2 := [(8, .int (l8 ||| ((2 : Int32) <<< (l10 &&& 31)))), (0, .ref 353), (2, .int l2), (3, .int l3), (4, .int l4), (5, .int l5), (6, .int l6), (7, .int l7), (9, .int l9), (10, .int l10)]) dX10_matchesRow_147 (by decide) rfl ?_
        refine mj_sublv [(0, .ref 353), (2, .int l2), (3, .int l3), (4, .int l4), (5, .int l5), (6, .int l6), (7, .int l7), (8, .int (l8 ||| ((2 : Int32) <<< (l10 &&& 31)))), (9, .int l9), (10, .int l10)] [1, 2, 3, 4, 5, 6, 7, 0, 8, 9] rfl ?_
        exact B_X10_matchesRow_149 rc H _ _ _ _ _ _ _ _ _ _ _ (fun y0 y1 y2 y3 y4 y5 y6 hx => Hb30 y0 y1 y2 y3 y4 y5 y6 hx) (fun y0 y1 y2 y3 y4 y5 y6 y7 y8 y9 hx => Hb109 y0 y1 y2 y3 y4 y5 y6 y7 y8 y9 hx) hk
noncomputable def b_X10_matchesRow_109 (rc : RT_X10_behindPerm) (x : Int32 × Int32 × Int32 × Int32 × Int32 × Int32 × Int32 × Int32 × Int32 × t_S) : Option ((Int32 × Int32 × Int32 × Int32 × Int32 × Int32 × Int32 × Int32 × Int32 × t_S) ⊕ ((Int32 × Int32 × Int32 × Int32 × Int32 × Int32 × t_S) ⊕ (Int32 × t_S))) := k_X10_matchesRow_109 rc x.1 x.2.1 x.2.2.1 x.2.2.2.1 x.2.2.2.2.1 x.2.2.2.2.2.1 x.2.2.2.2.2.2.1 x.2.2.2.2.2.2.2.1 x.2.2.2.2.2.2.2.2.1 x.2.2.2.2.2.2.2.2.2
set_option maxRecDepth 4000 in
set_option maxHeartbeats 1000000 in
theorem LH_X10_matchesRow_109 {D : va_G} {cy : Nat → ClassId} {ad : Nat → Nat} {bs : Nat} {X : State → Heap → Prop} (rc : RT_X10_behindPerm) {k : Nat} (H : RH_X10_behindPerm rc k) : ∀ (n : Nat) (y0 : Int32) (y1 : Int32) (y2 : Int32) (y3 : Int32) (y4 : Int32) (y5 : Int32) (y6 : Int32) (y7 : Int32) (y8 : Int32) (y9 : t_S) (Q : (Int32 × Int32 × Int32 × Int32 × Int32 × Int32 × t_S) ⊕ (Int32 × t_S) → Prop) (Hb30 : ∀ (y0 : Int32) (y1 : Int32) (y2 : Int32) (y3 : Int32) (y4 : Int32) (y5 : Int32) (y6 : t_S), Q (.inl (y0, y1, y2, y3, y4, y5, y6)) → mj_G D cy ad bs X cX10_matchesRow 11 yX10_matchesRow.cls (some .boolean) yX10_matchesRow.name (102 + (k + 1)) 0 0 1065 (t_P (fun v s' => ∃ x, v = some (.int x) ∧ Q (.inr ((x, s'))))) 30 [(0, .ref 353), (2, .int (y0)), (3, .int (y1)), (4, .int (y2)), (5, .int (y3)), (6, .int (y4)), (7, .int (y5))] [] (t_m y6) 1065 0 0) (hk : t_hk (t_loop (b_X10_matchesRow_109 rc) n (y0, y1, y2, y3, y4, y5, y6, y7, y8, y9)) Q), mj_G D cy ad bs X cX10_matchesRow 11 yX10_matchesRow.cls (some .boolean) yX10_matchesRow.name (102 + (k + 1)) 0 0 1065 (t_P (fun v s' => ∃ x, v = some (.int x) ∧ Q (.inr ((x, s'))))) 109 [(0, .ref 353), (2, .int (y0)), (3, .int (y1)), (4, .int (y2)), (5, .int (y3)), (6, .int (y4)), (7, .int (y5)), (8, .int (y6)), (9, .int (y7)), (10, .int (y8))] [] (t_m y9) 1065 0 0 := by
  intro n
  induction n with
  | zero => intro y0 y1 y2 y3 y4 y5 y6 y7 y8 y9 Q Hb30 hk; obtain ⟨r, hr, _⟩ := hk; cases hr
  | succ n ih =>
    intro y0 y1 y2 y3 y4 y5 y6 y7 y8 y9 Q Hb30 hk
    exact B_X10_matchesRow_109 rc H y0 y1 y2 y3 y4 y5 y6 y7 y8 y9 (fun y => t_lq (b_X10_matchesRow_109 rc) n Q y) (fun y0' y1' y2' y3' y4' y5' y6' hy => Hb30 y0' y1' y2' y3' y4' y5' y6' hy) (fun y0' y1' y2' y3' y4' y5' y6' y7' y8' y9' hy => ih y0' y1' y2' y3' y4' y5' y6' y7' y8' y9' Q Hb30 hy) (t_lp hk)
noncomputable def k_X10_matchesRow_30 (rc : RT_X10_behindPerm) (l2 : Int32) (l3 : Int32) (l4 : Int32) (l5 : Int32) (l6 : Int32) (l7 : Int32) (s : t_S) : Option ((Int32 × Int32 × Int32 × Int32 × Int32 × Int32 × t_S) ⊕ (Int32 × t_S)) :=
 if (12 : Int32) ≤ l7 then ((k_X10_matchesRow_194 rc l4 l5 s).map Sum.inr)
 else (if l6 < (0 : Int32) then ((k_X10_matchesRow_194 rc l4 l5 s).map Sum.inr)
 else (if l5 = (0 : Int32) then ((k_X10_matchesRow_194 rc l4 l5 s).map Sum.inr)
 else ((f_X10_isRest l6 s).bind (fun r1 =>
 if r1 = (0 : Int32) then (if t_ix l6 6100 = true then
  if (s.1 354 (l6.toNatClampNeg)) = (18 : Int32) then ((rc.1 l6 l2 l5 l3 s).bind (fun r3 =>
 k_X10_matchesRow_179 rc l2 l3 l4 r3.1 l6 l7 r3.2))
 else (t_loop (b_X10_matchesRow_109 rc) t_N (l2, l3, l4, l5, l6, l7, 0, (l2 + (1 : Int32)), 0, s))
else none)
 else (k_X10_matchesRow_179 rc l2 l3 l4 (((2 : Int32) <<< (l4 &&& 31)) - (f_J6_lowestOneBit_0f7a4 l5 s)) l6 l7 s)))))
set_option maxRecDepth 4000 in
set_option maxHeartbeats 1000000 in
theorem B_X10_matchesRow_30 {D : va_G} {cy : Nat → ClassId} {ad : Nat → Nat} {bs : Nat} {X : State → Heap → Prop} (rc : RT_X10_behindPerm) {k : Nat} (H : RH_X10_behindPerm rc k) (l2 : Int32) (l3 : Int32) (l4 : Int32) (l5 : Int32) (l6 : Int32) (l7 : Int32) (s : t_S) (Q : (Int32 × Int32 × Int32 × Int32 × Int32 × Int32 × t_S) ⊕ (Int32 × t_S) → Prop) (Hb30 : ∀ (y0 : Int32) (y1 : Int32) (y2 : Int32) (y3 : Int32) (y4 : Int32) (y5 : Int32) (y6 : t_S), Q (.inl (y0, y1, y2, y3, y4, y5, y6)) → mj_G D cy ad bs X cX10_matchesRow 11 yX10_matchesRow.cls (some .boolean) yX10_matchesRow.name (102 + (k + 1)) 0 0 1065 (t_P (fun v s' => ∃ x, v = some (.int x) ∧ Q (.inr ((x, s'))))) 30 [(0, .ref 353), (2, .int (y0)), (3, .int (y1)), (4, .int (y2)), (5, .int (y3)), (6, .int (y4)), (7, .int (y5))] [] (t_m y6) 1065 0 0) (hk : t_hk (k_X10_matchesRow_30 rc l2 l3 l4 l5 l6 l7 s) Q) : mj_G D cy ad bs X cX10_matchesRow 11 yX10_matchesRow.cls (some .boolean) yX10_matchesRow.name (102 + (k + 1)) 0 0 1065 (t_P (fun v s' => ∃ x, v = some (.int x) ∧ Q (.inr ((x, s'))))) 30 [(0, .ref 353), (2, .int l2), (3, .int l3), (4, .int l4), (5, .int l5), (6, .int l6), (7, .int l7)] [] (t_m s) 1065 0 0 := by
  refine mj_iload dX10_matchesRow_30 6 rfl ?_
  refine mj_bipush (v := 12) dX10_matchesRow_32 (by decide) ?_
  refine mj_icmp_ge 194 dX10_matchesRow_34 (by decide) (fun z => t_posK hk z (fun hk => ?_)) (fun z => t_negK hk z (fun hk => ?_))
  · refine mj_sublv [(4, .int l4), (5, .int l5)] [3, 4] rfl ?_
    refine t_mapK hk (fun hk => ?_)
    exact B_X10_matchesRow_194 rc H _ _ _ _ hk
  · refine mj_iload dX10_matchesRow_37 5 rfl ?_
    refine mj_if_lt 194 dX10_matchesRow_39 (by decide) (fun z => t_posK hk z (fun hk => ?_)) (fun z => t_negK hk z (fun hk => ?_))
    · refine mj_sublv [(4, .int l4), (5, .int l5)] [3, 4] rfl ?_
      refine t_mapK hk (fun hk => ?_)
      exact B_X10_matchesRow_194 rc H _ _ _ _ hk
    · refine mj_iload dX10_matchesRow_42 4 rfl ?_
      refine mj_if_eq 194 dX10_matchesRow_44 (by decide) (fun z => t_posK hk z (fun hk => ?_)) (fun z => t_negK hk z (fun hk => ?_))
      · refine mj_sublv [(4, .int l4), (5, .int l5)] [3, 4] rfl ?_
        refine t_mapK hk (fun hk => ?_)
        exact B_X10_matchesRow_194 rc H _ _ _ _ hk
      · refine mj_aload_n dX10_matchesRow_47 0 rfl ?_
        refine mj_iload dX10_matchesRow_48 5 rfl ?_
        refine t_bndK hk (fun r1 er1 hk => ?_)
        refine t_callViP dX10_matchesRow_50 M_X10_isRest (C_X10_isRest _ _ _ er1) ML_X10_199 IM_X10_isRest SE_X10_isRest qc_353 rfl (As := [.int l6]) rfl rfl (by omega) (Nat.le_of_ble_eq_true rfl) (Nat.le_of_ble_eq_true rfl) (Nat.le_of_ble_eq_true rfl) ?_
        refine mj_if_eq 71 dX10_matchesRow_53 (by decide) (fun z => t_posK hk z (fun hk => ?_)) (fun z => t_negK hk z (fun hk => ?_))
        · refine mj_aload_n dX10_matchesRow_71 0 rfl ?_
          refine t_getR 354 dX10_matchesRow_72 F_X10_11 qr_353_0 ?_
          refine mj_iload dX10_matchesRow_75 5 rfl ?_
          refine t_chkK hk (fun c1 hk => ?_)
          refine t_iald dX10_matchesRow_77 qa_354 (t_ixv c1) ?_
          refine mj_bipush (v := 18) dX10_matchesRow_78 (by decide) ?_
          refine mj_icmp_ne 98 dX10_matchesRow_80 (by decide) (fun z => t_negK hk z (fun hk => ?_)) (fun z => t_posK hk z (fun hk => ?_))
          · refine mj_iconst (v := 0) dX10_matchesRow_98 (by decide) ?_
            refine mj_istore (lv2 := [(8, .int 0), (0, .ref 353), (2, .int l2), (3, .int l3), (4, .int l4), (5, .int l5), (6, .int l6), (7, .int l7)]) dX10_matchesRow_99 (by decide) rfl ?_
            refine mj_iload_n dX10_matchesRow_101 2 rfl ?_
            refine mj_iconst (v := 1) dX10_matchesRow_102 (by decide) ?_
            refine mj_iadd dX10_matchesRow_103 ?_
            refine mj_istore (lv2 := [(9, .int (l2 + (1 : Int32))), (8, .int 0), (0, .ref 353), (2, .int l2), (3, .int l3), (4, .int l4), (5, .int l5), (6, .int l6), (7, .int l7)]) dX10_matchesRow_104 (by decide) rfl ?_
            refine mj_iconst (v := 0) dX10_matchesRow_106 (by decide) ?_
            refine mj_istore (lv2 := [(10, .int 0), (9, .int (l2 + (1 : Int32))), (8, .int 0), (0, .ref 353), (2, .int l2), (3, .int l3), (4, .int l4), (5, .int l5), (6, .int l6), (7, .int l7)]) dX10_matchesRow_107 (by decide) rfl ?_
            refine mj_sublv [(0, .ref 353), (2, .int l2), (3, .int l3), (4, .int l4), (5, .int l5), (6, .int l6), (7, .int l7), (8, .int 0), (9, .int (l2 + (1 : Int32))), (10, .int 0)] [3, 4, 5, 6, 7, 8, 9, 2, 1, 0] rfl ?_
            exact LH_X10_matchesRow_109 rc H _ l2 l3 l4 l5 l6 l7 0 (l2 + (1 : Int32)) 0 s _ (fun y0 y1 y2 y3 y4 y5 y6 hx => Hb30 y0 y1 y2 y3 y4 y5 y6 hx) hk
          · refine mj_aload_n dX10_matchesRow_83 0 rfl ?_
            refine mj_iload dX10_matchesRow_84 5 rfl ?_
            refine mj_iload_n dX10_matchesRow_86 1 rfl ?_
            refine mj_iload dX10_matchesRow_87 4 rfl ?_
            refine mj_iload_n dX10_matchesRow_89 2 rfl ?_
            refine t_bndK hk (fun r3 er3 hk => ?_)
            refine t_callViE dX10_matchesRow_90 M_X10_behindPerm (H.1 _ _ _ _ _ _ er3) ML_X10_208 IM_X10_behindPerm SE_X10_behindPerm qc_353 rfl (As := [.int l6, .int l2, .int l5, .int l3]) rfl rfl (by omega) (Nat.le_of_ble_eq_true rfl) (Nat.le_of_ble_eq_true rfl) (Nat.le_of_ble_eq_true rfl) ?_
            refine mj_istore (lv2 := [(5, .int r3.1), (0, .ref 353), (2, .int l2), (3, .int l3), (4, .int l4), (6, .int l6), (7, .int l7)]) dX10_matchesRow_93 (by decide) rfl ?_
            refine mj_goto 179 dX10_matchesRow_95 (by decide) ?_
            refine mj_sublv [(0, .ref 353), (2, .int l2), (3, .int l3), (4, .int l4), (5, .int r3.1), (6, .int l6), (7, .int l7)] [1, 2, 3, 4, 0, 5, 6] rfl ?_
            exact B_X10_matchesRow_179 rc H _ _ _ _ _ _ _ _ (fun y0 y1 y2 y3 y4 y5 y6 hx => Hb30 y0 y1 y2 y3 y4 y5 y6 hx) hk
        · refine mj_iconst (v := 2) dX10_matchesRow_56 (by decide) ?_
          refine mj_iload dX10_matchesRow_57 3 rfl ?_
          refine mj_ishl dX10_matchesRow_59 ?_
          refine mj_iload dX10_matchesRow_60 4 rfl ?_
          refine t_callSiP dX10_matchesRow_62 M_J6_lowestOneBit_0f7a4 (C_J6_lowestOneBit_0f7a4 _ _) ML_X10_203 SM_J6_lowestOneBit_0f7a4 (As := [.int l5]) rfl rfl (by omega) (Nat.le_of_ble_eq_true rfl) (Nat.le_of_ble_eq_true rfl) (Nat.le_of_ble_eq_true rfl) ?_
          refine mj_isub dX10_matchesRow_65 ?_
          refine mj_istore (lv2 := [(5, .int (((2 : Int32) <<< (l4 &&& 31)) - (f_J6_lowestOneBit_0f7a4 l5 s))), (0, .ref 353), (2, .int l2), (3, .int l3), (4, .int l4), (6, .int l6), (7, .int l7)]) dX10_matchesRow_66 (by decide) rfl ?_
          refine mj_goto 179 dX10_matchesRow_68 (by decide) ?_
          refine mj_sublv [(0, .ref 353), (2, .int l2), (3, .int l3), (4, .int l4), (5, .int (((2 : Int32) <<< (l4 &&& 31)) - (f_J6_lowestOneBit_0f7a4 l5 s))), (6, .int l6), (7, .int l7)] [1, 2, 3, 4, 0, 5, 6] rfl ?_
          exact B_X10_matchesRow_179 rc H _ _ _ _ _ _ _ _ (fun y0 y1 y2 y3 y4 y5 y6 hx => Hb30 y0 y1 y2 y3 y4 y5 y6 hx) hk
noncomputable def b_X10_matchesRow_30 (rc : RT_X10_behindPerm) (x : Int32 × Int32 × Int32 × Int32 × Int32 × Int32 × t_S) : Option ((Int32 × Int32 × Int32 × Int32 × Int32 × Int32 × t_S) ⊕ (Int32 × t_S)) := k_X10_matchesRow_30 rc x.1 x.2.1 x.2.2.1 x.2.2.2.1 x.2.2.2.2.1 x.2.2.2.2.2.1 x.2.2.2.2.2.2
set_option maxRecDepth 4000 in
set_option maxHeartbeats 1000000 in
theorem LH_X10_matchesRow_30 {D : va_G} {cy : Nat → ClassId} {ad : Nat → Nat} {bs : Nat} {X : State → Heap → Prop} (rc : RT_X10_behindPerm) {k : Nat} (H : RH_X10_behindPerm rc k) : ∀ (n : Nat) (y0 : Int32) (y1 : Int32) (y2 : Int32) (y3 : Int32) (y4 : Int32) (y5 : Int32) (y6 : t_S) (Q : Int32 × t_S → Prop) (hk : t_hk (t_loop (b_X10_matchesRow_30 rc) n (y0, y1, y2, y3, y4, y5, y6)) Q), mj_G D cy ad bs X cX10_matchesRow 11 yX10_matchesRow.cls (some .boolean) yX10_matchesRow.name (102 + (k + 1)) 0 0 1065 (t_P (fun v s' => ∃ x, v = some (.int x) ∧ Q ((x, s')))) 30 [(0, .ref 353), (2, .int (y0)), (3, .int (y1)), (4, .int (y2)), (5, .int (y3)), (6, .int (y4)), (7, .int (y5))] [] (t_m y6) 1065 0 0 := by
  intro n
  induction n with
  | zero => intro y0 y1 y2 y3 y4 y5 y6 Q hk; obtain ⟨r, hr, _⟩ := hk; cases hr
  | succ n ih =>
    intro y0 y1 y2 y3 y4 y5 y6 Q hk
    exact B_X10_matchesRow_30 rc H y0 y1 y2 y3 y4 y5 y6 (fun y => t_lq (b_X10_matchesRow_30 rc) n Q y) (fun y0' y1' y2' y3' y4' y5' y6' hy => ih y0' y1' y2' y3' y4' y5' y6' Q hy) (t_lp hk)
noncomputable def m_X10_matchesRow (rc : RT_X10_behindPerm) (x1 : Int32) (x2 : Int32) (x3 : Int32) (s : t_S) : Option (Int32 × t_S) :=
 if t_oka (s.2.2 353 14) 2 (t_ln (s.2.2 353 14)) = true then
  if t_ix ((s.1 353 15) + x2) (t_ln (s.2.2 353 14)) = true then
  if t_ix x1 6100 = true then
  t_loop (b_X10_matchesRow_30 rc) t_N (x2, x3, (f_X8_partsOf (s.2.1 (s.2.2 353 14) (((s.1 353 15) + x2).toNatClampNeg)) s), 1, (s.1 355 (x1.toNatClampNeg)), 0, s)
else none
else none
else none
set_option maxRecDepth 4000 in
set_option maxHeartbeats 1000000 in
theorem E_X10_matchesRow (rc : RT_X10_behindPerm) {k : Nat} (H : RH_X10_behindPerm rc k) (x1 : Int32) (x2 : Int32) (x3 : Int32) (s : t_S) (r : Int32 × t_S) (hr : m_X10_matchesRow rc x1 x2 x3 s = some r) : t_C yX10_matchesRow cX10_matchesRow 11 (some .boolean) (102 + (k + 1)) [.ref 353, .int x1, .int x2, .int x3] s (fun v s' => v = some (.int r.1) ∧ s' = r.2) := by
  refine t_C.imp (P := fun v s' => ∃ x, v = some (.int x) ∧ (fun q => q = r) ((x, s'))) (t_C.of (by decide +kernel) (Nat.le_of_ble_eq_true rfl) ?_) (fun v s' hp => by obtain ⟨x, rfl, rfl⟩ := hp; exact ⟨rfl, rfl⟩)
  intro D cy ad bs X
  have hk : t_hk (m_X10_matchesRow rc x1 x2 x3 s) (fun q => q = r) := ⟨r, hr, rfl⟩
  show mj_G D cy ad bs X cX10_matchesRow 11 yX10_matchesRow.cls (some .boolean) yX10_matchesRow.name (102 + (k + 1)) 0 0 1065 (t_P (fun v s' => ∃ x, v = some (.int x) ∧ (fun q => q = r) ((x, s')))) 0 [(0, .ref 353), (1, .int x1), (2, .int x2), (3, .int x3)] [] (t_m s) 1065 0 0
  refine mj_aload_n dX10_matchesRow_0 0 rfl ?_
  refine t_getD dX10_matchesRow_1 F_X10_67 qf_353_14 ?_
  refine mj_aload_n dX10_matchesRow_4 0 rfl ?_
  refine t_getI dX10_matchesRow_5 F_X10_132 qf_353_15 ?_
  refine mj_iload_n dX10_matchesRow_8 2 rfl ?_
  refine mj_iadd dX10_matchesRow_9 ?_
  refine t_chkK hk (fun c0 hk => ?_)
  refine t_chkK hk (fun c1 hk => ?_)
  refine t_lald dX10_matchesRow_10 c0 (t_ixv c1) ?_
  refine t_callSiP dX10_matchesRow_11 M_X8_partsOf (C_X8_partsOf _ _) ML_X10_185 SM_X8_partsOf (As := [.long (s.2.1 (s.2.2 353 14) (((s.1 353 15) + x2).toNatClampNeg))]) rfl rfl (by omega) (Nat.le_of_ble_eq_true rfl) (Nat.le_of_ble_eq_true rfl) (Nat.le_of_ble_eq_true rfl) ?_
  refine mj_istore (lv2 := [(4, .int (f_X8_partsOf (s.2.1 (s.2.2 353 14) (((s.1 353 15) + x2).toNatClampNeg)) s)), (0, .ref 353), (1, .int x1), (2, .int x2), (3, .int x3)]) dX10_matchesRow_14 (by decide) rfl ?_
  refine mj_iconst (v := 1) dX10_matchesRow_16 (by decide) ?_
  refine mj_istore (lv2 := [(5, .int 1), (4, .int (f_X8_partsOf (s.2.1 (s.2.2 353 14) (((s.1 353 15) + x2).toNatClampNeg)) s)), (0, .ref 353), (1, .int x1), (2, .int x2), (3, .int x3)]) dX10_matchesRow_17 (by decide) rfl ?_
  refine mj_aload_n dX10_matchesRow_19 2 rfl ?_
  refine t_getR 355 dX10_matchesRow_20 F_X10_15 qr_353_1 ?_
  refine mj_iload_n dX10_matchesRow_23 3 rfl ?_
  refine t_chkK hk (fun c3 hk => ?_)
  refine t_iald dX10_matchesRow_24 qa_355 (t_ixv c3) ?_
  refine mj_istore (lv2 := [(6, .int (s.1 355 (x1.toNatClampNeg))), (5, .int 1), (4, .int (f_X8_partsOf (s.2.1 (s.2.2 353 14) (((s.1 353 15) + x2).toNatClampNeg)) s)), (0, .ref 353), (1, .int x1), (2, .int x2), (3, .int x3)]) dX10_matchesRow_25 (by decide) rfl ?_
  refine mj_iconst (v := 0) dX10_matchesRow_27 (by decide) ?_
  refine mj_istore (lv2 := [(7, .int 0), (6, .int (s.1 355 (x1.toNatClampNeg))), (5, .int 1), (4, .int (f_X8_partsOf (s.2.1 (s.2.2 353 14) (((s.1 353 15) + x2).toNatClampNeg)) s)), (0, .ref 353), (1, .int x1), (2, .int x2), (3, .int x3)]) dX10_matchesRow_28 (by decide) rfl ?_
  refine mj_sublv [(0, .ref 353), (2, .int x2), (3, .int x3), (4, .int (f_X8_partsOf (s.2.1 (s.2.2 353 14) (((s.1 353 15) + x2).toNatClampNeg)) s)), (5, .int 1), (6, .int (s.1 355 (x1.toNatClampNeg))), (7, .int 0)] [4, 6, 7, 3, 2, 1, 0] rfl ?_
  exact LH_X10_matchesRow_30 rc H _ x2 x3 (f_X8_partsOf (s.2.1 (s.2.2 353 14) (((s.1 353 15) + x2).toNatClampNeg)) s) 1 (s.1 355 (x1.toNatClampNeg)) 0 s _ hk
noncomputable def k_X10_matchesSome_11 (rc : RT_X10_behindPerm) (l2 : Int32) (l3 : Int32) (l4 : Int32) (l5 : Int32) (l6 : Int32) (s : t_S) : Option ((Int32 × Int32 × Int32 × Int32 × Int32 × t_S) ⊕ (Int32 × t_S)) :=
 if (12 : Int32) ≤ l6 then ((some ((0 : Int32), s)).map Sum.inr)
 else (if l5 < (0 : Int32) then ((some ((0 : Int32), s)).map Sum.inr)
 else ((rc.2.1 l5 l2 (l3 + (1 : Int32)) s).bind (fun r1 =>
 if r1.1 = l4 then ((some ((1 : Int32), r1.2)).map Sum.inr)
 else (if t_ix l5 6100 = true then
  some (.inl (l2, l3, l4, (r1.2.1 356 (l5.toNatClampNeg)), (l6 + 1), r1.2))
else none))))
set_option maxRecDepth 4000 in
set_option maxHeartbeats 1000000 in
theorem B_X10_matchesSome_11 {D : va_G} {cy : Nat → ClassId} {ad : Nat → Nat} {bs : Nat} {X : State → Heap → Prop} (rc : RT_X10_behindPerm) {k : Nat} (H : RH_X10_behindPerm rc k) (l2 : Int32) (l3 : Int32) (l4 : Int32) (l5 : Int32) (l6 : Int32) (s : t_S) (Q : (Int32 × Int32 × Int32 × Int32 × Int32 × t_S) ⊕ (Int32 × t_S) → Prop) (Hb11 : ∀ (y0 : Int32) (y1 : Int32) (y2 : Int32) (y3 : Int32) (y4 : Int32) (y5 : t_S), Q (.inl (y0, y1, y2, y3, y4, y5)) → mj_G D cy ad bs X cX10_matchesSome 7 yX10_matchesSome.cls (some .boolean) yX10_matchesSome.name (102 + (k + 1)) 0 0 1065 (t_P (fun v s' => ∃ x, v = some (.int x) ∧ Q (.inr ((x, s'))))) 11 [(0, .ref 353), (2, .int (y0)), (3, .int (y1)), (4, .int (y2)), (5, .int (y3)), (6, .int (y4))] [] (t_m y5) 1065 0 0) (hk : t_hk (k_X10_matchesSome_11 rc l2 l3 l4 l5 l6 s) Q) : mj_G D cy ad bs X cX10_matchesSome 7 yX10_matchesSome.cls (some .boolean) yX10_matchesSome.name (102 + (k + 1)) 0 0 1065 (t_P (fun v s' => ∃ x, v = some (.int x) ∧ Q (.inr ((x, s'))))) 11 [(0, .ref 353), (2, .int l2), (3, .int l3), (4, .int l4), (5, .int l5), (6, .int l6)] [] (t_m s) 1065 0 0 := by
  refine mj_iload dX10_matchesSome_11 5 rfl ?_
  refine mj_bipush (v := 12) dX10_matchesSome_13 (by decide) ?_
  refine mj_icmp_ge 55 dX10_matchesSome_15 (by decide) (fun z => t_posK hk z (fun hk => ?_)) (fun z => t_negK hk z (fun hk => ?_))
  · refine t_mapK hk (fun hk => ?_)
    refine mj_iconst (v := 0) dX10_matchesSome_55 (by decide) ?_
    exact t_somK hk (fun hf => t_iret dX10_matchesSome_56 rfl (by decide) ⟨_, rfl, hf⟩ (Nat.le_of_ble_eq_true rfl) (Nat.le_of_ble_eq_true rfl))
  · refine mj_iload dX10_matchesSome_18 4 rfl ?_
    refine mj_if_lt 55 dX10_matchesSome_20 (by decide) (fun z => t_posK hk z (fun hk => ?_)) (fun z => t_negK hk z (fun hk => ?_))
    · refine t_mapK hk (fun hk => ?_)
      refine mj_iconst (v := 0) dX10_matchesSome_55 (by decide) ?_
      exact t_somK hk (fun hf => t_iret dX10_matchesSome_56 rfl (by decide) ⟨_, rfl, hf⟩ (Nat.le_of_ble_eq_true rfl) (Nat.le_of_ble_eq_true rfl))
    · refine mj_aload_n dX10_matchesSome_23 0 rfl ?_
      refine mj_iload dX10_matchesSome_24 4 rfl ?_
      refine mj_iload_n dX10_matchesSome_26 1 rfl ?_
      refine mj_iload_n dX10_matchesSome_27 2 rfl ?_
      refine mj_iconst (v := 1) dX10_matchesSome_28 (by decide) ?_
      refine mj_iadd dX10_matchesSome_29 ?_
      refine t_bndK hk (fun r1 er1 hk => ?_)
      refine t_callViE dX10_matchesSome_30 M_X10_matches (H.2.1 _ _ _ _ _ er1) ML_X10_145 IM_X10_matches SE_X10_matches qc_353 rfl (As := [.int l5, .int l2, .int (l3 + (1 : Int32))]) rfl rfl (by omega) (Nat.le_of_ble_eq_true rfl) (Nat.le_of_ble_eq_true rfl) (Nat.le_of_ble_eq_true rfl) ?_
      refine mj_iload dX10_matchesSome_33 3 rfl ?_
      refine mj_icmp_ne 40 dX10_matchesSome_35 (by decide) (fun z => t_negK hk z (fun hk => ?_)) (fun z => t_posK hk z (fun hk => ?_))
      · refine mj_aload_n dX10_matchesSome_40 0 rfl ?_
        refine t_getR 356 dX10_matchesSome_41 F_X10_18 qr_353_2 ?_
        refine mj_iload dX10_matchesSome_44 4 rfl ?_
        refine t_chkK hk (fun c1 hk => ?_)
        refine t_iald dX10_matchesSome_46 qa_356 (t_ixv c1) ?_
        refine mj_istore (lv2 := [(5, .int (r1.2.1 356 (l5.toNatClampNeg))), (0, .ref 353), (2, .int l2), (3, .int l3), (4, .int l4), (6, .int l6)]) dX10_matchesSome_47 (by decide) rfl ?_
        refine mj_iinc (k := 5) (v := (l6 + 1)) (lv2 := [(6, .int (l6 + 1)), (5, .int (r1.2.1 356 (l5.toNatClampNeg))), (0, .ref 353), (2, .int l2), (3, .int l3), (4, .int l4)]) dX10_matchesSome_49 rfl rfl (by decide) rfl ?_
        refine mj_goto 11 dX10_matchesSome_52 (by decide) ?_
        refine mj_sublv [(0, .ref 353), (2, .int l2), (3, .int l3), (4, .int l4), (5, .int (r1.2.1 356 (l5.toNatClampNeg))), (6, .int (l6 + 1))] [2, 3, 4, 5, 1, 0] rfl ?_
        exact t_somK hk (fun hf => Hb11 l2 l3 l4 (r1.2.1 356 (l5.toNatClampNeg)) (l6 + 1) r1.2 hf)
      · refine t_mapK hk (fun hk => ?_)
        refine mj_iconst (v := 1) dX10_matchesSome_38 (by decide) ?_
        exact t_somK hk (fun hf => t_iret dX10_matchesSome_39 rfl (by decide) ⟨_, rfl, hf⟩ (Nat.le_of_ble_eq_true rfl) (Nat.le_of_ble_eq_true rfl))
noncomputable def b_X10_matchesSome_11 (rc : RT_X10_behindPerm) (x : Int32 × Int32 × Int32 × Int32 × Int32 × t_S) : Option ((Int32 × Int32 × Int32 × Int32 × Int32 × t_S) ⊕ (Int32 × t_S)) := k_X10_matchesSome_11 rc x.1 x.2.1 x.2.2.1 x.2.2.2.1 x.2.2.2.2.1 x.2.2.2.2.2
set_option maxRecDepth 4000 in
set_option maxHeartbeats 1000000 in
theorem LH_X10_matchesSome_11 {D : va_G} {cy : Nat → ClassId} {ad : Nat → Nat} {bs : Nat} {X : State → Heap → Prop} (rc : RT_X10_behindPerm) {k : Nat} (H : RH_X10_behindPerm rc k) : ∀ (n : Nat) (y0 : Int32) (y1 : Int32) (y2 : Int32) (y3 : Int32) (y4 : Int32) (y5 : t_S) (Q : Int32 × t_S → Prop) (hk : t_hk (t_loop (b_X10_matchesSome_11 rc) n (y0, y1, y2, y3, y4, y5)) Q), mj_G D cy ad bs X cX10_matchesSome 7 yX10_matchesSome.cls (some .boolean) yX10_matchesSome.name (102 + (k + 1)) 0 0 1065 (t_P (fun v s' => ∃ x, v = some (.int x) ∧ Q ((x, s')))) 11 [(0, .ref 353), (2, .int (y0)), (3, .int (y1)), (4, .int (y2)), (5, .int (y3)), (6, .int (y4))] [] (t_m y5) 1065 0 0 := by
  intro n
  induction n with
  | zero => intro y0 y1 y2 y3 y4 y5 Q hk; obtain ⟨r, hr, _⟩ := hk; cases hr
  | succ n ih =>
    intro y0 y1 y2 y3 y4 y5 Q hk
    exact B_X10_matchesSome_11 rc H y0 y1 y2 y3 y4 y5 (fun y => t_lq (b_X10_matchesSome_11 rc) n Q y) (fun y0' y1' y2' y3' y4' y5' hy => ih y0' y1' y2' y3' y4' y5' Q hy) (t_lp hk)
noncomputable def m_X10_matchesSome (rc : RT_X10_behindPerm) (x1 : Int32) (x2 : Int32) (x3 : Int32) (x4 : Int32) (s : t_S) : Option (Int32 × t_S) :=
 if t_ix x1 6100 = true then
  t_loop (b_X10_matchesSome_11 rc) t_N (x2, x3, x4, (s.1 355 (x1.toNatClampNeg)), 0, s)
else none
set_option maxRecDepth 4000 in
set_option maxHeartbeats 1000000 in
theorem E_X10_matchesSome (rc : RT_X10_behindPerm) {k : Nat} (H : RH_X10_behindPerm rc k) (x1 : Int32) (x2 : Int32) (x3 : Int32) (x4 : Int32) (s : t_S) (r : Int32 × t_S) (hr : m_X10_matchesSome rc x1 x2 x3 x4 s = some r) : t_C yX10_matchesSome cX10_matchesSome 7 (some .boolean) (102 + (k + 1)) [.ref 353, .int x1, .int x2, .int x3, .int x4] s (fun v s' => v = some (.int r.1) ∧ s' = r.2) := by
  refine t_C.imp (P := fun v s' => ∃ x, v = some (.int x) ∧ (fun q => q = r) ((x, s'))) (t_C.of (by decide +kernel) (Nat.le_of_ble_eq_true rfl) ?_) (fun v s' hp => by obtain ⟨x, rfl, rfl⟩ := hp; exact ⟨rfl, rfl⟩)
  intro D cy ad bs X
  have hk : t_hk (m_X10_matchesSome rc x1 x2 x3 x4 s) (fun q => q = r) := ⟨r, hr, rfl⟩
  show mj_G D cy ad bs X cX10_matchesSome 7 yX10_matchesSome.cls (some .boolean) yX10_matchesSome.name (102 + (k + 1)) 0 0 1065 (t_P (fun v s' => ∃ x, v = some (.int x) ∧ (fun q => q = r) ((x, s')))) 0 [(0, .ref 353), (1, .int x1), (2, .int x2), (3, .int x3), (4, .int x4)] [] (t_m s) 1065 0 0
  refine mj_aload_n dX10_matchesSome_0 0 rfl ?_
  refine t_getR 355 dX10_matchesSome_1 F_X10_15 qr_353_1 ?_
  refine mj_iload_n dX10_matchesSome_4 1 rfl ?_
  refine t_chkK hk (fun c0 hk => ?_)
  refine t_iald dX10_matchesSome_5 qa_355 (t_ixv c0) ?_
  refine mj_istore (lv2 := [(5, .int (s.1 355 (x1.toNatClampNeg))), (0, .ref 353), (1, .int x1), (2, .int x2), (3, .int x3), (4, .int x4)]) dX10_matchesSome_6 (by decide) rfl ?_
  refine mj_iconst (v := 0) dX10_matchesSome_8 (by decide) ?_
  refine mj_istore (lv2 := [(6, .int 0), (5, .int (s.1 355 (x1.toNatClampNeg))), (0, .ref 353), (1, .int x1), (2, .int x2), (3, .int x3), (4, .int x4)]) dX10_matchesSome_9 (by decide) rfl ?_
  refine mj_sublv [(0, .ref 353), (2, .int x2), (3, .int x3), (4, .int x4), (5, .int (s.1 355 (x1.toNatClampNeg))), (6, .int 0)] [2, 4, 5, 6, 1, 0] rfl ?_
  exact LH_X10_matchesSome_11 rc H _ x2 x3 x4 (s.1 355 (x1.toNatClampNeg)) 0 s _ hk
noncomputable def k_X10_relate_80 (rc : RT_X10_behindPerm) (l2 : Int32) (l3 : Int32) (l4 : Int32) (l5 : Int32) (l6 : Int32) (l7 : Int32) (l8 : Int32) (l9 : Int32) (s : t_S) : Option ((Int32 × Int32 × Int32 × Int32 × Int32 × Int32 × Int32 × Int32 × t_S) ⊕ ((Int32 × Int32 × Int32 × Int32 × Int32 × t_S) ⊕ (Int32 × t_S))) :=
 if t_oka (s.2.2 353 14) 2 (t_ln (s.2.2 353 14)) = true then
  if t_ix ((s.1 353 15) + l8) (t_ln (s.2.2 353 14)) = true then
  some (.inl (l2, l3, l4, l5, l6, l7, (l8 + (f_X8_size (s.2.1 (s.2.2 353 14) (((s.1 353 15) + l8).toNatClampNeg)) s)), (l9 + 1), s))
else none
else none
set_option maxRecDepth 4000 in
set_option maxHeartbeats 1000000 in
theorem B_X10_relate_80 {D : va_G} {cy : Nat → ClassId} {ad : Nat → Nat} {bs : Nat} {X : State → Heap → Prop} (rc : RT_X10_behindPerm) {k : Nat} (H : RH_X10_behindPerm rc k) (l2 : Int32) (l3 : Int32) (l4 : Int32) (l5 : Int32) (l6 : Int32) (l7 : Int32) (l8 : Int32) (l9 : Int32) (s : t_S) (Q : (Int32 × Int32 × Int32 × Int32 × Int32 × Int32 × Int32 × Int32 × t_S) ⊕ ((Int32 × Int32 × Int32 × Int32 × Int32 × t_S) ⊕ (Int32 × t_S)) → Prop) (Hb27 : ∀ (y0 : Int32) (y1 : Int32) (y2 : Int32) (y3 : Int32) (y4 : Int32) (y5 : t_S), Q (.inr (.inl (y0, y1, y2, y3, y4, y5))) → mj_G D cy ad bs X cX10_relate 10 yX10_relate.cls (some .int) yX10_relate.name (102 + (k + 1)) 0 0 1065 (t_P (fun v s' => ∃ x, v = some (.int x) ∧ Q (.inr (.inr ((x, s')))))) 27 [(0, .ref 353), (2, .int (y0)), (3, .int (y1)), (4, .int (y2)), (5, .int (y3)), (6, .int (y4))] [] (t_m y5) 1065 0 0) (Hb50 : ∀ (y0 : Int32) (y1 : Int32) (y2 : Int32) (y3 : Int32) (y4 : Int32) (y5 : Int32) (y6 : Int32) (y7 : Int32) (y8 : t_S), Q (.inl (y0, y1, y2, y3, y4, y5, y6, y7, y8)) → mj_G D cy ad bs X cX10_relate 10 yX10_relate.cls (some .int) yX10_relate.name (102 + (k + 1)) 0 0 1065 (t_P (fun v s' => ∃ x, v = some (.int x) ∧ Q (.inr (.inr ((x, s')))))) 50 [(0, .ref 353), (2, .int (y0)), (3, .int (y1)), (4, .int (y2)), (5, .int (y3)), (6, .int (y4)), (7, .int (y5)), (8, .int (y6)), (9, .int (y7))] [] (t_m y8) 1065 0 0) (hk : t_hk (k_X10_relate_80 rc l2 l3 l4 l5 l6 l7 l8 l9 s) Q) : mj_G D cy ad bs X cX10_relate 10 yX10_relate.cls (some .int) yX10_relate.name (102 + (k + 1)) 0 0 1065 (t_P (fun v s' => ∃ x, v = some (.int x) ∧ Q (.inr (.inr ((x, s')))))) 80 [(0, .ref 353), (2, .int l2), (3, .int l3), (4, .int l4), (5, .int l5), (6, .int l6), (7, .int l7), (8, .int l8), (9, .int l9)] [] (t_m s) 1065 0 0 := by
  refine mj_iload dX10_relate_80 7 rfl ?_
  refine mj_aload_n dX10_relate_82 0 rfl ?_
  refine t_getD dX10_relate_83 F_X10_67 qf_353_14 ?_
  refine mj_aload_n dX10_relate_86 0 rfl ?_
  refine t_getI dX10_relate_87 F_X10_132 qf_353_15 ?_
  refine mj_iload dX10_relate_90 7 rfl ?_
  refine mj_iadd dX10_relate_92 ?_
  refine t_chkK hk (fun c0 hk => ?_)
  refine t_chkK hk (fun c1 hk => ?_)
  refine t_lald dX10_relate_93 c0 (t_ixv c1) ?_
  refine t_callSiP dX10_relate_94 M_X8_size (C_X8_size _ _) ML_X10_125 SM_X8_size (As := [.long (s.2.1 (s.2.2 353 14) (((s.1 353 15) + l8).toNatClampNeg))]) rfl rfl (by omega) (Nat.le_of_ble_eq_true rfl) (Nat.le_of_ble_eq_true rfl) (Nat.le_of_ble_eq_true rfl) ?_
  refine mj_iadd dX10_relate_97 ?_
  refine mj_istore (lv2 := [(8, .int (l8 + (f_X8_size (s.2.1 (s.2.2 353 14) (((s.1 353 15) + l8).toNatClampNeg)) s))), (0, .ref 353), (2, .int l2), (3, .int l3), (4, .int l4), (5, .int l5), (6, .int l6), (7, .int l7), (9, .int l9)]) dX10_relate_98 (by decide) rfl ?_
  refine mj_iinc (k := 8) (v := (l9 + 1)) (lv2 := [(9, .int (l9 + 1)), (8, .int (l8 + (f_X8_size (s.2.1 (s.2.2 353 14) (((s.1 353 15) + l8).toNatClampNeg)) s))), (0, .ref 353), (2, .int l2), (3, .int l3), (4, .int l4), (5, .int l5), (6, .int l6), (7, .int l7)]) dX10_relate_100 rfl rfl (by decide) rfl ?_
  refine mj_goto 50 dX10_relate_103 (by decide) ?_
  refine mj_sublv [(0, .ref 353), (2, .int l2), (3, .int l3), (4, .int l4), (5, .int l5), (6, .int l6), (7, .int l7), (8, .int (l8 + (f_X8_size (s.2.1 (s.2.2 353 14) (((s.1 353 15) + l8).toNatClampNeg)) s))), (9, .int (l9 + 1))] [2, 3, 4, 5, 6, 7, 8, 1, 0] rfl ?_
  exact t_somK hk (fun hf => Hb50 l2 l3 l4 l5 l6 l7 (l8 + (f_X8_size (s.2.1 (s.2.2 353 14) (((s.1 353 15) + l8).toNatClampNeg)) s)) (l9 + 1) s hf)
noncomputable def k_X10_relate_50 (rc : RT_X10_behindPerm) (l2 : Int32) (l3 : Int32) (l4 : Int32) (l5 : Int32) (l6 : Int32) (l7 : Int32) (l8 : Int32) (l9 : Int32) (s : t_S) : Option ((Int32 × Int32 × Int32 × Int32 × Int32 × Int32 × Int32 × Int32 × t_S) ⊕ ((Int32 × Int32 × Int32 × Int32 × Int32 × t_S) ⊕ (Int32 × t_S))) :=
 if l4 ≤ l9 then ((if t_ix ((l3 * (12 : Int32)) + l5) 1212 = true then
  t_let (t_setI s 426 (((l3 * (12 : Int32)) + l5).toNatClampNeg) l7) (fun s1 =>
 if t_ix l6 6100 = true then
  some (.inl (l2, l3, l4, (l5 + 1), (s1.1 356 (l6.toNatClampNeg)), s1))
else none)
else none).map Sum.inr)
 else ((rc.2.1 l6 l8 (l3 + (1 : Int32)) s).bind (fun r3 =>
 if r3.1 = (0 : Int32) then (k_X10_relate_80 rc l2 l3 l4 l5 l6 l7 l8 l9 r3.2)
 else (k_X10_relate_80 rc l2 l3 l4 l5 l6 (l7 ||| ((1 : Int32) <<< (l9 &&& 31))) l8 l9 r3.2)))
set_option maxRecDepth 4000 in
set_option maxHeartbeats 1000000 in
theorem B_X10_relate_50 {D : va_G} {cy : Nat → ClassId} {ad : Nat → Nat} {bs : Nat} {X : State → Heap → Prop} (rc : RT_X10_behindPerm) {k : Nat} (H : RH_X10_behindPerm rc k) (l2 : Int32) (l3 : Int32) (l4 : Int32) (l5 : Int32) (l6 : Int32) (l7 : Int32) (l8 : Int32) (l9 : Int32) (s : t_S) (Q : (Int32 × Int32 × Int32 × Int32 × Int32 × Int32 × Int32 × Int32 × t_S) ⊕ ((Int32 × Int32 × Int32 × Int32 × Int32 × t_S) ⊕ (Int32 × t_S)) → Prop) (Hb27 : ∀ (y0 : Int32) (y1 : Int32) (y2 : Int32) (y3 : Int32) (y4 : Int32) (y5 : t_S), Q (.inr (.inl (y0, y1, y2, y3, y4, y5))) → mj_G D cy ad bs X cX10_relate 10 yX10_relate.cls (some .int) yX10_relate.name (102 + (k + 1)) 0 0 1065 (t_P (fun v s' => ∃ x, v = some (.int x) ∧ Q (.inr (.inr ((x, s')))))) 27 [(0, .ref 353), (2, .int (y0)), (3, .int (y1)), (4, .int (y2)), (5, .int (y3)), (6, .int (y4))] [] (t_m y5) 1065 0 0) (Hb50 : ∀ (y0 : Int32) (y1 : Int32) (y2 : Int32) (y3 : Int32) (y4 : Int32) (y5 : Int32) (y6 : Int32) (y7 : Int32) (y8 : t_S), Q (.inl (y0, y1, y2, y3, y4, y5, y6, y7, y8)) → mj_G D cy ad bs X cX10_relate 10 yX10_relate.cls (some .int) yX10_relate.name (102 + (k + 1)) 0 0 1065 (t_P (fun v s' => ∃ x, v = some (.int x) ∧ Q (.inr (.inr ((x, s')))))) 50 [(0, .ref 353), (2, .int (y0)), (3, .int (y1)), (4, .int (y2)), (5, .int (y3)), (6, .int (y4)), (7, .int (y5)), (8, .int (y6)), (9, .int (y7))] [] (t_m y8) 1065 0 0) (hk : t_hk (k_X10_relate_50 rc l2 l3 l4 l5 l6 l7 l8 l9 s) Q) : mj_G D cy ad bs X cX10_relate 10 yX10_relate.cls (some .int) yX10_relate.name (102 + (k + 1)) 0 0 1065 (t_P (fun v s' => ∃ x, v = some (.int x) ∧ Q (.inr (.inr ((x, s')))))) 50 [(0, .ref 353), (2, .int l2), (3, .int l3), (4, .int l4), (5, .int l5), (6, .int l6), (7, .int l7), (8, .int l8), (9, .int l9)] [] (t_m s) 1065 0 0 := by
  refine mj_iload dX10_relate_50 8 rfl ?_
  refine mj_iload dX10_relate_52 3 rfl ?_
  refine mj_icmp_ge 106 dX10_relate_54 (by decide) (fun z => t_posK hk z (fun hk => ?_)) (fun z => t_negK hk z (fun hk => ?_))
  · refine t_mapK hk (fun hk => ?_)
    refine mj_aload_n dX10_relate_106 0 rfl ?_
    refine t_getR 426 dX10_relate_107 F_X10_52 qr_353_18 ?_
    refine mj_iload_n dX10_relate_110 2 rfl ?_
    refine mj_bipush (v := 12) dX10_relate_111 (by decide) ?_
    refine mj_imul dX10_relate_113 ?_
    refine mj_iload dX10_relate_114 4 rfl ?_
    refine mj_iadd dX10_relate_116 ?_
    refine mj_iload dX10_relate_117 6 rfl ?_
    refine t_chkK hk (fun c0 hk => ?_)
    refine t_iastK dX10_relate_119 qa_426 (t_ixv c0) (fun s1 ws1 => t_letE hk ws1 (fun hk => ?_))
    refine mj_aload_n dX10_relate_120 0 rfl ?_
    refine t_getR 356 dX10_relate_121 F_X10_18 qr_353_2 ?_
    refine mj_iload dX10_relate_124 5 rfl ?_
    refine t_chkK hk (fun c1 hk => ?_)
    refine t_iald dX10_relate_126 qa_356 (t_ixv c1) ?_
    refine mj_istore (lv2 := [(6, .int (s1.1 356 (l6.toNatClampNeg))), (0, .ref 353), (2, .int l2), (3, .int l3), (4, .int l4), (5, .int l5), (7, .int l7), (8, .int l8), (9, .int l9)]) dX10_relate_127 (by decide) rfl ?_
    refine mj_iinc (k := 5) (v := (l5 + 1)) (lv2 := [(5, .int (l5 + 1)), (6, .int (s1.1 356 (l6.toNatClampNeg))), (0, .ref 353), (2, .int l2), (3, .int l3), (4, .int l4), (7, .int l7), (8, .int l8), (9, .int l9)]) dX10_relate_129 rfl rfl (by decide) rfl ?_
    refine mj_goto 27 dX10_relate_132 (by decide) ?_
    refine mj_sublv [(0, .ref 353), (2, .int l2), (3, .int l3), (4, .int l4), (5, .int (l5 + 1)), (6, .int (s1.1 356 (l6.toNatClampNeg)))] [2, 3, 4, 5, 0, 1] rfl ?_
    exact t_somK hk (fun hf => Hb27 l2 l3 l4 (l5 + 1) (s1.1 356 (l6.toNatClampNeg)) s1 hf)
  · refine mj_aload_n dX10_relate_57 0 rfl ?_
    refine mj_iload dX10_relate_58 5 rfl ?_
    refine mj_iload dX10_relate_60 7 rfl ?_
    refine mj_iload_n dX10_relate_62 2 rfl ?_
    refine mj_iconst (v := 1) dX10_relate_63 (by decide) ?_
    refine mj_iadd dX10_relate_64 ?_
    refine t_bndK hk (fun r3 er3 hk => ?_)
    refine t_callViE dX10_relate_65 M_X10_matches (H.2.1 _ _ _ _ _ er3) ML_X10_145 IM_X10_matches SE_X10_matches qc_353 rfl (As := [.int l6, .int l8, .int (l3 + (1 : Int32))]) rfl rfl (by omega) (Nat.le_of_ble_eq_true rfl) (Nat.le_of_ble_eq_true rfl) (Nat.le_of_ble_eq_true rfl) ?_
    refine mj_if_eq 80 dX10_relate_68 (by decide) (fun z => t_posK hk z (fun hk => ?_)) (fun z => t_negK hk z (fun hk => ?_))
    · exact B_X10_relate_80 rc H _ _ _ _ _ _ _ _ _ _ (fun y0 y1 y2 y3 y4 y5 hx => Hb27 y0 y1 y2 y3 y4 y5 hx) (fun y0 y1 y2 y3 y4 y5 y6 y7 y8 hx => Hb50 y0 y1 y2 y3 y4 y5 y6 y7 y8 hx) hk
    · refine mj_iload dX10_relate_71 6 rfl ?_
      refine mj_iconst (v := 1) dX10_relate_73 (by decide) ?_
      refine mj_iload dX10_relate_74 8 rfl ?_
      refine mj_ishl dX10_relate_76 ?_
      refine mj_ior dX10_relate_77 ?_
      refine mj_istore (lv2 := [(7, .int (l7 ||| ((1 : Int32) <<< (l9 &&& 31)))), (0, .ref 353), (2, .int l2), (3, .int l3), (4, .int l4), (5, .int l5), (6, .int l6), (8, .int l8), (9, .int l9)]) dX10_relate_78 (by decide) rfl ?_
      refine mj_sublv [(0, .ref 353), (2, .int l2), (3, .int l3), (4, .int l4), (5, .int l5), (6, .int l6), (7, .int (l7 ||| ((1 : Int32) <<< (l9 &&& 31)))), (8, .int l8), (9, .int l9)] [1, 2, 3, 4, 5, 6, 0, 7, 8] rfl ?_
      exact B_X10_relate_80 rc H _ _ _ _ _ _ _ _ _ _ (fun y0 y1 y2 y3 y4 y5 hx => Hb27 y0 y1 y2 y3 y4 y5 hx) (fun y0 y1 y2 y3 y4 y5 y6 y7 y8 hx => Hb50 y0 y1 y2 y3 y4 y5 y6 y7 y8 hx) hk
noncomputable def b_X10_relate_50 (rc : RT_X10_behindPerm) (x : Int32 × Int32 × Int32 × Int32 × Int32 × Int32 × Int32 × Int32 × t_S) : Option ((Int32 × Int32 × Int32 × Int32 × Int32 × Int32 × Int32 × Int32 × t_S) ⊕ ((Int32 × Int32 × Int32 × Int32 × Int32 × t_S) ⊕ (Int32 × t_S))) := k_X10_relate_50 rc x.1 x.2.1 x.2.2.1 x.2.2.2.1 x.2.2.2.2.1 x.2.2.2.2.2.1 x.2.2.2.2.2.2.1 x.2.2.2.2.2.2.2.1 x.2.2.2.2.2.2.2.2
set_option maxRecDepth 4000 in
set_option maxHeartbeats 1000000 in
theorem LH_X10_relate_50 {D : va_G} {cy : Nat → ClassId} {ad : Nat → Nat} {bs : Nat} {X : State → Heap → Prop} (rc : RT_X10_behindPerm) {k : Nat} (H : RH_X10_behindPerm rc k) : ∀ (n : Nat) (y0 : Int32) (y1 : Int32) (y2 : Int32) (y3 : Int32) (y4 : Int32) (y5 : Int32) (y6 : Int32) (y7 : Int32) (y8 : t_S) (Q : (Int32 × Int32 × Int32 × Int32 × Int32 × t_S) ⊕ (Int32 × t_S) → Prop) (Hb27 : ∀ (y0 : Int32) (y1 : Int32) (y2 : Int32) (y3 : Int32) (y4 : Int32) (y5 : t_S), Q (.inl (y0, y1, y2, y3, y4, y5)) → mj_G D cy ad bs X cX10_relate 10 yX10_relate.cls (some .int) yX10_relate.name (102 + (k + 1)) 0 0 1065 (t_P (fun v s' => ∃ x, v = some (.int x) ∧ Q (.inr ((x, s'))))) 27 [(0, .ref 353), (2, .int (y0)), (3, .int (y1)), (4, .int (y2)), (5, .int (y3)), (6, .int (y4))] [] (t_m y5) 1065 0 0) (hk : t_hk (t_loop (b_X10_relate_50 rc) n (y0, y1, y2, y3, y4, y5, y6, y7, y8)) Q), mj_G D cy ad bs X cX10_relate 10 yX10_relate.cls (some .int) yX10_relate.name (102 + (k + 1)) 0 0 1065 (t_P (fun v s' => ∃ x, v = some (.int x) ∧ Q (.inr ((x, s'))))) 50 [(0, .ref 353), (2, .int (y0)), (3, .int (y1)), (4, .int (y2)), (5, .int (y3)), (6, .int (y4)), (7, .int (y5)), (8, .int (y6)), (9, .int (y7))] [] (t_m y8) 1065 0 0 := by
  intro n
  induction n with
  | zero => intro y0 y1 y2 y3 y4 y5 y6 y7 y8 Q Hb27 hk; obtain ⟨r, hr, _⟩ := hk; cases hr
  | succ n ih =>
    intro y0 y1 y2 y3 y4 y5 y6 y7 y8 Q Hb27 hk
    exact B_X10_relate_50 rc H y0 y1 y2 y3 y4 y5 y6 y7 y8 (fun y => t_lq (b_X10_relate_50 rc) n Q y) (fun y0' y1' y2' y3' y4' y5' hy => Hb27 y0' y1' y2' y3' y4' y5' hy) (fun y0' y1' y2' y3' y4' y5' y6' y7' y8' hy => ih y0' y1' y2' y3' y4' y5' y6' y7' y8' Q Hb27 hy) (t_lp hk)
noncomputable def k_X10_relate_27 (rc : RT_X10_behindPerm) (l2 : Int32) (l3 : Int32) (l4 : Int32) (l5 : Int32) (l6 : Int32) (s : t_S) : Option ((Int32 × Int32 × Int32 × Int32 × Int32 × t_S) ⊕ (Int32 × t_S)) :=
 if (12 : Int32) ≤ l5 then ((some (l5, s)).map Sum.inr)
 else (if l6 < (0 : Int32) then ((some (l5, s)).map Sum.inr)
 else (t_loop (b_X10_relate_50 rc) t_N (l2, l3, l4, l5, l6, 0, (l2 + (1 : Int32)), 0, s)))
set_option maxRecDepth 4000 in
set_option maxHeartbeats 1000000 in
theorem B_X10_relate_27 {D : va_G} {cy : Nat → ClassId} {ad : Nat → Nat} {bs : Nat} {X : State → Heap → Prop} (rc : RT_X10_behindPerm) {k : Nat} (H : RH_X10_behindPerm rc k) (l2 : Int32) (l3 : Int32) (l4 : Int32) (l5 : Int32) (l6 : Int32) (s : t_S) (Q : (Int32 × Int32 × Int32 × Int32 × Int32 × t_S) ⊕ (Int32 × t_S) → Prop) (Hb27 : ∀ (y0 : Int32) (y1 : Int32) (y2 : Int32) (y3 : Int32) (y4 : Int32) (y5 : t_S), Q (.inl (y0, y1, y2, y3, y4, y5)) → mj_G D cy ad bs X cX10_relate 10 yX10_relate.cls (some .int) yX10_relate.name (102 + (k + 1)) 0 0 1065 (t_P (fun v s' => ∃ x, v = some (.int x) ∧ Q (.inr ((x, s'))))) 27 [(0, .ref 353), (2, .int (y0)), (3, .int (y1)), (4, .int (y2)), (5, .int (y3)), (6, .int (y4))] [] (t_m y5) 1065 0 0) (hk : t_hk (k_X10_relate_27 rc l2 l3 l4 l5 l6 s) Q) : mj_G D cy ad bs X cX10_relate 10 yX10_relate.cls (some .int) yX10_relate.name (102 + (k + 1)) 0 0 1065 (t_P (fun v s' => ∃ x, v = some (.int x) ∧ Q (.inr ((x, s'))))) 27 [(0, .ref 353), (2, .int l2), (3, .int l3), (4, .int l4), (5, .int l5), (6, .int l6)] [] (t_m s) 1065 0 0 := by
  refine mj_iload dX10_relate_27 4 rfl ?_
  refine mj_bipush (v := 12) dX10_relate_29 (by decide) ?_
  refine mj_icmp_ge 135 dX10_relate_31 (by decide) (fun z => t_posK hk z (fun hk => ?_)) (fun z => t_negK hk z (fun hk => ?_))
  · refine t_mapK hk (fun hk => ?_)
    refine mj_iload dX10_relate_135 4 rfl ?_
    exact t_somK hk (fun hf => t_iret dX10_relate_137 rfl rfl ⟨_, rfl, hf⟩ (Nat.le_of_ble_eq_true rfl) (Nat.le_of_ble_eq_true rfl))
  · refine mj_iload dX10_relate_34 5 rfl ?_
    refine mj_if_lt 135 dX10_relate_36 (by decide) (fun z => t_posK hk z (fun hk => ?_)) (fun z => t_negK hk z (fun hk => ?_))
    · refine t_mapK hk (fun hk => ?_)
      refine mj_iload dX10_relate_135 4 rfl ?_
      exact t_somK hk (fun hf => t_iret dX10_relate_137 rfl rfl ⟨_, rfl, hf⟩ (Nat.le_of_ble_eq_true rfl) (Nat.le_of_ble_eq_true rfl))
    · refine mj_iconst (v := 0) dX10_relate_39 (by decide) ?_
      refine mj_istore (lv2 := [(7, .int 0), (0, .ref 353), (2, .int l2), (3, .int l3), (4, .int l4), (5, .int l5), (6, .int l6)]) dX10_relate_40 (by decide) rfl ?_
      refine mj_iload_n dX10_relate_42 2 rfl ?_
      refine mj_iconst (v := 1) dX10_relate_43 (by decide) ?_
      refine mj_iadd dX10_relate_44 ?_
      refine mj_istore (lv2 := [(8, .int (l2 + (1 : Int32))), (7, .int 0), (0, .ref 353), (2, .int l2), (3, .int l3), (4, .int l4), (5, .int l5), (6, .int l6)]) dX10_relate_45 (by decide) rfl ?_
      refine mj_iconst (v := 0) dX10_relate_47 (by decide) ?_
      refine mj_istore (lv2 := [(9, .int 0), (8, .int (l2 + (1 : Int32))), (7, .int 0), (0, .ref 353), (2, .int l2), (3, .int l3), (4, .int l4), (5, .int l5), (6, .int l6)]) dX10_relate_48 (by decide) rfl ?_
      refine mj_sublv [(0, .ref 353), (2, .int l2), (3, .int l3), (4, .int l4), (5, .int l5), (6, .int l6), (7, .int 0), (8, .int (l2 + (1 : Int32))), (9, .int 0)] [3, 4, 5, 6, 7, 8, 2, 1, 0] rfl ?_
      exact LH_X10_relate_50 rc H _ l2 l3 l4 l5 l6 0 (l2 + (1 : Int32)) 0 s _ (fun y0 y1 y2 y3 y4 y5 hx => Hb27 y0 y1 y2 y3 y4 y5 hx) hk
noncomputable def b_X10_relate_27 (rc : RT_X10_behindPerm) (x : Int32 × Int32 × Int32 × Int32 × Int32 × t_S) : Option ((Int32 × Int32 × Int32 × Int32 × Int32 × t_S) ⊕ (Int32 × t_S)) := k_X10_relate_27 rc x.1 x.2.1 x.2.2.1 x.2.2.2.1 x.2.2.2.2.1 x.2.2.2.2.2
set_option maxRecDepth 4000 in
set_option maxHeartbeats 1000000 in
theorem LH_X10_relate_27 {D : va_G} {cy : Nat → ClassId} {ad : Nat → Nat} {bs : Nat} {X : State → Heap → Prop} (rc : RT_X10_behindPerm) {k : Nat} (H : RH_X10_behindPerm rc k) : ∀ (n : Nat) (y0 : Int32) (y1 : Int32) (y2 : Int32) (y3 : Int32) (y4 : Int32) (y5 : t_S) (Q : Int32 × t_S → Prop) (hk : t_hk (t_loop (b_X10_relate_27 rc) n (y0, y1, y2, y3, y4, y5)) Q), mj_G D cy ad bs X cX10_relate 10 yX10_relate.cls (some .int) yX10_relate.name (102 + (k + 1)) 0 0 1065 (t_P (fun v s' => ∃ x, v = some (.int x) ∧ Q ((x, s')))) 27 [(0, .ref 353), (2, .int (y0)), (3, .int (y1)), (4, .int (y2)), (5, .int (y3)), (6, .int (y4))] [] (t_m y5) 1065 0 0 := by
  intro n
  induction n with
  | zero => intro y0 y1 y2 y3 y4 y5 Q hk; obtain ⟨r, hr, _⟩ := hk; cases hr
  | succ n ih =>
    intro y0 y1 y2 y3 y4 y5 Q hk
    exact B_X10_relate_27 rc H y0 y1 y2 y3 y4 y5 (fun y => t_lq (b_X10_relate_27 rc) n Q y) (fun y0' y1' y2' y3' y4' y5' hy => ih y0' y1' y2' y3' y4' y5' Q hy) (t_lp hk)
noncomputable def m_X10_relate (rc : RT_X10_behindPerm) (x1 : Int32) (x2 : Int32) (x3 : Int32) (s : t_S) : Option (Int32 × t_S) :=
 if t_oka (s.2.2 353 14) 2 (t_ln (s.2.2 353 14)) = true then
  if t_ix ((s.1 353 15) + x2) (t_ln (s.2.2 353 14)) = true then
  if t_ix x1 6100 = true then
  t_loop (b_X10_relate_27 rc) t_N (x2, x3, (f_X8_partsOf (s.2.1 (s.2.2 353 14) (((s.1 353 15) + x2).toNatClampNeg)) s), 0, (s.1 355 (x1.toNatClampNeg)), s)
else none
else none
else none
set_option maxRecDepth 4000 in
set_option maxHeartbeats 1000000 in
theorem E_X10_relate (rc : RT_X10_behindPerm) {k : Nat} (H : RH_X10_behindPerm rc k) (x1 : Int32) (x2 : Int32) (x3 : Int32) (s : t_S) (r : Int32 × t_S) (hr : m_X10_relate rc x1 x2 x3 s = some r) : t_C yX10_relate cX10_relate 10 (some .int) (102 + (k + 1)) [.ref 353, .int x1, .int x2, .int x3] s (fun v s' => v = some (.int r.1) ∧ s' = r.2) := by
  refine t_C.imp (P := fun v s' => ∃ x, v = some (.int x) ∧ (fun q => q = r) ((x, s'))) (t_C.of (by decide +kernel) (Nat.le_of_ble_eq_true rfl) ?_) (fun v s' hp => by obtain ⟨x, rfl, rfl⟩ := hp; exact ⟨rfl, rfl⟩)
  intro D cy ad bs X
  have hk : t_hk (m_X10_relate rc x1 x2 x3 s) (fun q => q = r) := ⟨r, hr, rfl⟩
  show mj_G D cy ad bs X cX10_relate 10 yX10_relate.cls (some .int) yX10_relate.name (102 + (k + 1)) 0 0 1065 (t_P (fun v s' => ∃ x, v = some (.int x) ∧ (fun q => q = r) ((x, s')))) 0 [(0, .ref 353), (1, .int x1), (2, .int x2), (3, .int x3)] [] (t_m s) 1065 0 0
  refine mj_aload_n dX10_relate_0 0 rfl ?_
  refine t_getD dX10_relate_1 F_X10_67 qf_353_14 ?_
  refine mj_aload_n dX10_relate_4 0 rfl ?_
  refine t_getI dX10_relate_5 F_X10_132 qf_353_15 ?_
  refine mj_iload_n dX10_relate_8 2 rfl ?_
  refine mj_iadd dX10_relate_9 ?_
  refine t_chkK hk (fun c0 hk => ?_)
  refine t_chkK hk (fun c1 hk => ?_)
  refine t_lald dX10_relate_10 c0 (t_ixv c1) ?_
  refine t_callSiP dX10_relate_11 M_X8_partsOf (C_X8_partsOf _ _) ML_X10_185 SM_X8_partsOf (As := [.long (s.2.1 (s.2.2 353 14) (((s.1 353 15) + x2).toNatClampNeg))]) rfl rfl (by omega) (Nat.le_of_ble_eq_true rfl) (Nat.le_of_ble_eq_true rfl) (Nat.le_of_ble_eq_true rfl) ?_
  refine mj_istore (lv2 := [(4, .int (f_X8_partsOf (s.2.1 (s.2.2 353 14) (((s.1 353 15) + x2).toNatClampNeg)) s)), (0, .ref 353), (1, .int x1), (2, .int x2), (3, .int x3)]) dX10_relate_14 (by decide) rfl ?_
  refine mj_iconst (v := 0) dX10_relate_16 (by decide) ?_
  refine mj_istore (lv2 := [(5, .int 0), (4, .int (f_X8_partsOf (s.2.1 (s.2.2 353 14) (((s.1 353 15) + x2).toNatClampNeg)) s)), (0, .ref 353), (1, .int x1), (2, .int x2), (3, .int x3)]) dX10_relate_17 (by decide) rfl ?_
  refine mj_aload_n dX10_relate_19 2 rfl ?_
  refine t_getR 355 dX10_relate_20 F_X10_15 qr_353_1 ?_
  refine mj_iload_n dX10_relate_23 3 rfl ?_
  refine t_chkK hk (fun c3 hk => ?_)
  refine t_iald dX10_relate_24 qa_355 (t_ixv c3) ?_
  refine mj_istore (lv2 := [(6, .int (s.1 355 (x1.toNatClampNeg))), (5, .int 0), (4, .int (f_X8_partsOf (s.2.1 (s.2.2 353 14) (((s.1 353 15) + x2).toNatClampNeg)) s)), (0, .ref 353), (1, .int x1), (2, .int x2), (3, .int x3)]) dX10_relate_25 (by decide) rfl ?_
  refine mj_sublv [(0, .ref 353), (2, .int x2), (3, .int x3), (4, .int (f_X8_partsOf (s.2.1 (s.2.2 353 14) (((s.1 353 15) + x2).toNatClampNeg)) s)), (5, .int 0), (6, .int (s.1 355 (x1.toNatClampNeg)))] [3, 5, 6, 2, 1, 0] rfl ?_
  exact LH_X10_relate_27 rc H _ x2 x3 (f_X8_partsOf (s.2.1 (s.2.2 353 14) (((s.1 353 15) + x2).toNatClampNeg)) s) 0 (s.1 355 (x1.toNatClampNeg)) s _ hk
/-- so many calls deep -/
noncomputable def R_X10_behindPerm : Nat → RT_X10_behindPerm
  | 0 => ⟨fun _ _ _ _ _ => none, fun _ _ _ _ => none, fun _ _ _ _ => none, fun _ _ _ _ => none, fun _ _ _ _ => none, fun _ _ _ _ _ => none, fun _ _ _ _ => none⟩
  | k + 1 => ⟨fun x1 x2 x3 x4 s => m_X10_behindPerm (R_X10_behindPerm k) x1 x2 x3 x4 s, fun x1 x2 x3 s => m_X10_matches (R_X10_behindPerm k) x1 x2 x3 s, fun x1 x2 x3 s => m_X10_matchesFields (R_X10_behindPerm k) x1 x2 x3 s, fun x1 x2 x3 s => m_X10_matchesLink (R_X10_behindPerm k) x1 x2 x3 s, fun x1 x2 x3 s => m_X10_matchesRow (R_X10_behindPerm k) x1 x2 x3 s, fun x1 x2 x3 x4 s => m_X10_matchesSome (R_X10_behindPerm k) x1 x2 x3 x4 s, fun x1 x2 x3 s => m_X10_relate (R_X10_behindPerm k) x1 x2 x3 s⟩
theorem RR_X10_behindPerm : ∀ k : Nat, RH_X10_behindPerm (R_X10_behindPerm k) k := by
  intro k
  induction k with
  | zero => exact ⟨fun _ _ _ _ _ _ h => (by cases h), fun _ _ _ _ _ h => (by cases h), fun _ _ _ _ _ h => (by cases h), fun _ _ _ _ _ h => (by cases h), fun _ _ _ _ _ h => (by cases h), fun _ _ _ _ _ _ h => (by cases h), fun _ _ _ _ _ h => (by cases h)⟩
  | succ k ih => exact ⟨fun x1 x2 x3 x4 s r h => E_X10_behindPerm (R_X10_behindPerm k) ih x1 x2 x3 x4 s r h, fun x1 x2 x3 s r h => E_X10_matches (R_X10_behindPerm k) ih x1 x2 x3 s r h, fun x1 x2 x3 s r h => E_X10_matchesFields (R_X10_behindPerm k) ih x1 x2 x3 s r h, fun x1 x2 x3 s r h => E_X10_matchesLink (R_X10_behindPerm k) ih x1 x2 x3 s r h, fun x1 x2 x3 s r h => E_X10_matchesRow (R_X10_behindPerm k) ih x1 x2 x3 s r h, fun x1 x2 x3 x4 s r h => E_X10_matchesSome (R_X10_behindPerm k) ih x1 x2 x3 x4 s r h, fun x1 x2 x3 s r h => E_X10_relate (R_X10_behindPerm k) ih x1 x2 x3 s r h⟩
noncomputable def f_X10_behindPerm (x1 : Int32) (x2 : Int32) (x3 : Int32) (x4 : Int32) (s : t_S) : Option (Int32 × t_S) := (R_X10_behindPerm 300).1 x1 x2 x3 x4 s
theorem C_X10_behindPerm (x1 : Int32) (x2 : Int32) (x3 : Int32) (x4 : Int32) (s : t_S) (r : Int32 × t_S) (hr : f_X10_behindPerm x1 x2 x3 x4 s = some r) : t_C yX10_behindPerm cX10_behindPerm 10 (some .int) 402 [.ref 353, .int x1, .int x2, .int x3, .int x4] s (fun v s' => v = some (.int r.1) ∧ s' = r.2) := (RR_X10_behindPerm 300).1 x1 x2 x3 x4 s r hr
noncomputable def f_X10_matches (x1 : Int32) (x2 : Int32) (x3 : Int32) (s : t_S) : Option (Int32 × t_S) := (R_X10_behindPerm 300).2.1 x1 x2 x3 s
theorem C_X10_matches (x1 : Int32) (x2 : Int32) (x3 : Int32) (s : t_S) (r : Int32 × t_S) (hr : f_X10_matches x1 x2 x3 s = some r) : t_C yX10_matches cX10_matches 5 (some .boolean) 402 [.ref 353, .int x1, .int x2, .int x3] s (fun v s' => v = some (.int r.1) ∧ s' = r.2) := (RR_X10_behindPerm 300).2.1 x1 x2 x3 s r hr
noncomputable def f_X10_matchesFields (x1 : Int32) (x2 : Int32) (x3 : Int32) (s : t_S) : Option (Int32 × t_S) := (R_X10_behindPerm 300).2.2.1 x1 x2 x3 s
theorem C_X10_matchesFields (x1 : Int32) (x2 : Int32) (x3 : Int32) (s : t_S) (r : Int32 × t_S) (hr : f_X10_matchesFields x1 x2 x3 s = some r) : t_C yX10_matchesFields cX10_matchesFields 8 (some .boolean) 402 [.ref 353, .int x1, .int x2, .int x3] s (fun v s' => v = some (.int r.1) ∧ s' = r.2) := (RR_X10_behindPerm 300).2.2.1 x1 x2 x3 s r hr
noncomputable def f_X10_matchesLink (x1 : Int32) (x2 : Int32) (x3 : Int32) (s : t_S) : Option (Int32 × t_S) := (R_X10_behindPerm 300).2.2.2.1 x1 x2 x3 s
theorem C_X10_matchesLink (x1 : Int32) (x2 : Int32) (x3 : Int32) (s : t_S) (r : Int32 × t_S) (hr : f_X10_matchesLink x1 x2 x3 s = some r) : t_C yX10_matchesLink cX10_matchesLink 6 (some .boolean) 402 [.ref 353, .int x1, .int x2, .int x3] s (fun v s' => v = some (.int r.1) ∧ s' = r.2) := (RR_X10_behindPerm 300).2.2.2.1 x1 x2 x3 s r hr
noncomputable def f_X10_matchesRow (x1 : Int32) (x2 : Int32) (x3 : Int32) (s : t_S) : Option (Int32 × t_S) := (R_X10_behindPerm 300).2.2.2.2.1 x1 x2 x3 s
theorem C_X10_matchesRow (x1 : Int32) (x2 : Int32) (x3 : Int32) (s : t_S) (r : Int32 × t_S) (hr : f_X10_matchesRow x1 x2 x3 s = some r) : t_C yX10_matchesRow cX10_matchesRow 11 (some .boolean) 402 [.ref 353, .int x1, .int x2, .int x3] s (fun v s' => v = some (.int r.1) ∧ s' = r.2) := (RR_X10_behindPerm 300).2.2.2.2.1 x1 x2 x3 s r hr
noncomputable def f_X10_matchesSome (x1 : Int32) (x2 : Int32) (x3 : Int32) (x4 : Int32) (s : t_S) : Option (Int32 × t_S) := (R_X10_behindPerm 300).2.2.2.2.2.1 x1 x2 x3 x4 s
theorem C_X10_matchesSome (x1 : Int32) (x2 : Int32) (x3 : Int32) (x4 : Int32) (s : t_S) (r : Int32 × t_S) (hr : f_X10_matchesSome x1 x2 x3 x4 s = some r) : t_C yX10_matchesSome cX10_matchesSome 7 (some .boolean) 402 [.ref 353, .int x1, .int x2, .int x3, .int x4] s (fun v s' => v = some (.int r.1) ∧ s' = r.2) := (RR_X10_behindPerm 300).2.2.2.2.2.1 x1 x2 x3 x4 s r hr
noncomputable def f_X10_relate (x1 : Int32) (x2 : Int32) (x3 : Int32) (s : t_S) : Option (Int32 × t_S) := (R_X10_behindPerm 300).2.2.2.2.2.2 x1 x2 x3 s
theorem C_X10_relate (x1 : Int32) (x2 : Int32) (x3 : Int32) (s : t_S) (r : Int32 × t_S) (hr : f_X10_relate x1 x2 x3 s = some r) : t_C yX10_relate cX10_relate 10 (some .int) 402 [.ref 353, .int x1, .int x2, .int x3] s (fun v s' => v = some (.int r.1) ∧ s' = r.2) := (RR_X10_behindPerm 300).2.2.2.2.2.2 x1 x2 x3 s r hr

