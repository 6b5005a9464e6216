/-! Methods as functions, 57: X13_prepare -/
theorem dX13_behindFirst_0 : decode cX13_behindFirst 0 = .ok (.aload_n 0, 1) := by decide +kernel
theorem dX13_behindFirst_1 : decode cX13_behindFirst 1 = .ok (.getfield 26, 3) := by decide +kernel
theorem dX13_behindFirst_10 : decode cX13_behindFirst 10 = .ok (.if_icmp .ne 11, 3) := by decide +kernel
theorem dX13_behindFirst_13 : decode cX13_behindFirst 13 = .ok (.aload_n 0, 1) := by decide +kernel
theorem dX13_behindFirst_14 : decode cX13_behindFirst 14 = .ok (.iload_n 1, 1) := by decide +kernel
theorem dX13_behindFirst_15 : decode cX13_behindFirst 15 = .ok (.invokestatic 894, 3) := by decide +kernel
theorem dX13_behindFirst_18 : decode cX13_behindFirst 18 = .ok (.goto 50, 3) := by decide +kernel
theorem dX13_behindFirst_21 : decode cX13_behindFirst 21 = .ok (.iload_n 2, 1) := by decide +kernel
theorem dX13_behindFirst_22 : decode cX13_behindFirst 22 = .ok (.bipush 69, 2) := by decide +kernel
theorem dX13_behindFirst_24 : decode cX13_behindFirst 24 = .ok (.if_icmp .ne 32, 3) := by decide +kernel
theorem dX13_behindFirst_27 : decode cX13_behindFirst 27 = .ok (.aload_n 0, 1) := by decide +kernel
theorem dX13_behindFirst_28 : decode cX13_behindFirst 28 = .ok (.aload_n 0, 1) := by decide +kernel
theorem dX13_behindFirst_29 : decode cX13_behindFirst 29 = .ok (.getfield 42, 3) := by decide +kernel
theorem dX13_behindFirst_32 : decode cX13_behindFirst 32 = .ok (.aload_n 0, 1) := by decide +kernel
theorem dX13_behindFirst_33 : decode cX13_behindFirst 33 = .ok (.getfield 39, 3) := by decide +kernel
theorem dX13_behindFirst_36 : decode cX13_behindFirst 36 = .ok (.iload_n 1, 1) := by decide +kernel
theorem dX13_behindFirst_37 : decode cX13_behindFirst 37 = .ok (.iaload, 1) := by decide +kernel
theorem dX13_behindFirst_38 : decode cX13_behindFirst 38 = .ok (.iaload, 1) := by decide +kernel
theorem dX13_behindFirst_39 : decode cX13_behindFirst 39 = .ok (.invokestatic 897, 3) := by decide +kernel
theorem dX13_behindFirst_4 : decode cX13_behindFirst 4 = .ok (.iload_n 1, 1) := by decide +kernel
theorem dX13_behindFirst_42 : decode cX13_behindFirst 42 = .ok (.aload_n 0, 1) := by decide +kernel
theorem dX13_behindFirst_43 : decode cX13_behindFirst 43 = .ok (.getfield 842, 3) := by decide +kernel
theorem dX13_behindFirst_46 : decode cX13_behindFirst 46 = .ok (.ifCond .ne 22, 3) := by decide +kernel
theorem dX13_behindFirst_49 : decode cX13_behindFirst 49 = .ok (.aload_n 0, 1) := by decide +kernel
theorem dX13_behindFirst_5 : decode cX13_behindFirst 5 = .ok (.iaload, 1) := by decide +kernel
theorem dX13_behindFirst_50 : decode cX13_behindFirst 50 = .ok (.invokevirtual 900, 3) := by decide +kernel
theorem dX13_behindFirst_53 : decode cX13_behindFirst 53 = .ok (.goto 15, 3) := by decide +kernel
theorem dX13_behindFirst_56 : decode cX13_behindFirst 56 = .ok (.iload_n 2, 1) := by decide +kernel
theorem dX13_behindFirst_57 : decode cX13_behindFirst 57 = .ok (.bipush 72, 2) := by decide +kernel
theorem dX13_behindFirst_59 : decode cX13_behindFirst 59 = .ok (.if_icmp .eq 9, 3) := by decide +kernel
theorem dX13_behindFirst_6 : decode cX13_behindFirst 6 = .ok (.istore_n 2, 1) := by decide +kernel
theorem dX13_behindFirst_62 : decode cX13_behindFirst 62 = .ok (.aload_n 0, 1) := by decide +kernel
theorem dX13_behindFirst_63 : decode cX13_behindFirst 63 = .ok (.iload_n 1, 1) := by decide +kernel
theorem dX13_behindFirst_64 : decode cX13_behindFirst 64 = .ok (.iload_n 2, 1) := by decide +kernel
theorem dX13_behindFirst_65 : decode cX13_behindFirst 65 = .ok (.invokevirtual 903, 3) := by decide +kernel
theorem dX13_behindFirst_68 : decode cX13_behindFirst 68 = .ok (.return_, 1) := by decide +kernel
theorem dX13_behindFirst_7 : decode cX13_behindFirst 7 = .ok (.iload_n 2, 1) := by decide +kernel
theorem dX13_behindFirst_8 : decode cX13_behindFirst 8 = .ok (.bipush 70, 2) := by decide +kernel
theorem dX13_leaf_0 : decode cX13_leaf 0 = .ok (.aload_n 0, 1) := by decide +kernel
theorem dX13_leaf_1 : decode cX13_leaf 1 = .ok (.getfield 842, 3) := by decide +kernel
theorem dX13_leaf_100 : decode cX13_leaf 100 = .ok (.invokevirtual 910, 3) := by decide +kernel
theorem dX13_leaf_103 : decode cX13_leaf 103 = .ok (.return_, 1) := by decide +kernel
theorem dX13_leaf_104 : decode cX13_leaf 104 = .ok (.aload_n 0, 1) := by decide +kernel
theorem dX13_leaf_105 : decode cX13_leaf 105 = .ok (.iload_n 1, 1) := by decide +kernel
theorem dX13_leaf_106 : decode cX13_leaf 106 = .ok (.invokevirtual 914, 3) := by decide +kernel
theorem dX13_leaf_109 : decode cX13_leaf 109 = .ok (.return_, 1) := by decide +kernel
theorem dX13_leaf_110 : decode cX13_leaf 110 = .ok (.aload_n 0, 1) := by decide +kernel
theorem dX13_leaf_111 : decode cX13_leaf 111 = .ok (.aload_n 0, 1) := by decide +kernel
theorem dX13_leaf_112 : decode cX13_leaf 112 = .ok (.getfield 26, 3) := by decide +kernel
theorem dX13_leaf_115 : decode cX13_leaf 115 = .ok (.iload_n 1, 1) := by decide +kernel
theorem dX13_leaf_116 : decode cX13_leaf 116 = .ok (.iaload, 1) := by decide +kernel
theorem dX13_leaf_117 : decode cX13_leaf 117 = .ok (.bipush 55, 2) := by decide +kernel
theorem dX13_leaf_119 : decode cX13_leaf 119 = .ok (.if_icmp .ne 7, 3) := by decide +kernel
theorem dX13_leaf_12 : decode cX13_leaf 12 = .ok (.iload_n 1, 1) := by decide +kernel
theorem dX13_leaf_122 : decode cX13_leaf 122 = .ok (.iconst 5, 1) := by decide +kernel
theorem dX13_leaf_123 : decode cX13_leaf 123 = .ok (.goto 4, 3) := by decide +kernel
theorem dX13_leaf_126 : decode cX13_leaf 126 = .ok (.iconst 4, 1) := by decide +kernel
theorem dX13_leaf_127 : decode cX13_leaf 127 = .ok (.aload_n 0, 1) := by decide +kernel
theorem dX13_leaf_128 : decode cX13_leaf 128 = .ok (.getfield 917, 3) := by decide +kernel
theorem dX13_leaf_13 : decode cX13_leaf 13 = .ok (.iaload, 1) := by decide +kernel
theorem dX13_leaf_131 : decode cX13_leaf 131 = .ok (.i2l, 1) := by decide +kernel
theorem dX13_leaf_132 : decode cX13_leaf 132 = .ok (.invokevirtual 869, 3) := by decide +kernel
theorem dX13_leaf_135 : decode cX13_leaf 135 = .ok (.istore_n 2, 1) := by decide +kernel
theorem dX13_leaf_136 : decode cX13_leaf 136 = .ok (.return_, 1) := by decide +kernel
theorem dX13_leaf_137 : decode cX13_leaf 137 = .ok (.aload_n 0, 1) := by decide +kernel
theorem dX13_leaf_138 : decode cX13_leaf 138 = .ok (.aload_n 0, 1) := by decide +kernel
theorem dX13_leaf_139 : decode cX13_leaf 139 = .ok (.getfield 920, 3) := by decide +kernel
theorem dX13_leaf_14 : decode cX13_leaf 14 = .ok (.tableswitch 159 50 60 #[58, 69, 69, 90, 96, 96, 123, 132, 147, 153, 153], 58) := by decide +kernel
theorem dX13_leaf_142 : decode cX13_leaf 142 = .ok (.invokevirtual 906, 3) := by decide +kernel
theorem dX13_leaf_145 : decode cX13_leaf 145 = .ok (.return_, 1) := by decide +kernel
theorem dX13_leaf_146 : decode cX13_leaf 146 = .ok (.aload_n 0, 1) := by decide +kernel
theorem dX13_leaf_147 : decode cX13_leaf 147 = .ok (.aload_n 0, 1) := by decide +kernel
theorem dX13_leaf_148 : decode cX13_leaf 148 = .ok (.getfield 279, 3) := by decide +kernel
theorem dX13_leaf_151 : decode cX13_leaf 151 = .ok (.aload_n 0, 1) := by decide +kernel
theorem dX13_leaf_152 : decode cX13_leaf 152 = .ok (.getfield 917, 3) := by decide +kernel
theorem dX13_leaf_155 : decode cX13_leaf 155 = .ok (.iaload, 1) := by decide +kernel
theorem dX13_leaf_156 : decode cX13_leaf 156 = .ok (.i2l, 1) := by decide +kernel
theorem dX13_leaf_157 : decode cX13_leaf 157 = .ok (.invokevirtual 906, 3) := by decide +kernel
theorem dX13_leaf_160 : decode cX13_leaf 160 = .ok (.return_, 1) := by decide +kernel
theorem dX13_leaf_161 : decode cX13_leaf 161 = .ok (.aload_n 0, 1) := by decide +kernel
theorem dX13_leaf_162 : decode cX13_leaf 162 = .ok (.iload_n 1, 1) := by decide +kernel
theorem dX13_leaf_163 : decode cX13_leaf 163 = .ok (.invokevirtual 923, 3) := by decide +kernel
theorem dX13_leaf_166 : decode cX13_leaf 166 = .ok (.return_, 1) := by decide +kernel
theorem dX13_leaf_167 : decode cX13_leaf 167 = .ok (.aload_n 0, 1) := by decide +kernel
theorem dX13_leaf_168 : decode cX13_leaf 168 = .ok (.iload_n 1, 1) := by decide +kernel
theorem dX13_leaf_169 : decode cX13_leaf 169 = .ok (.invokestatic 926, 3) := by decide +kernel
theorem dX13_leaf_172 : decode cX13_leaf 172 = .ok (.return_, 1) := by decide +kernel
theorem dX13_leaf_173 : decode cX13_leaf 173 = .ok (.aload_n 0, 1) := by decide +kernel
theorem dX13_leaf_174 : decode cX13_leaf 174 = .ok (.iload_n 1, 1) := by decide +kernel
theorem dX13_leaf_175 : decode cX13_leaf 175 = .ok (.invokestatic 929, 3) := by decide +kernel
theorem dX13_leaf_178 : decode cX13_leaf 178 = .ok (.return_, 1) := by decide +kernel
theorem dX13_leaf_4 : decode cX13_leaf 4 = .ok (.ifCond .eq 4, 3) := by decide +kernel
theorem dX13_leaf_7 : decode cX13_leaf 7 = .ok (.return_, 1) := by decide +kernel
theorem dX13_leaf_72 : decode cX13_leaf 72 = .ok (.aload_n 0, 1) := by decide +kernel
theorem dX13_leaf_73 : decode cX13_leaf 73 = .ok (.aload_n 0, 1) := by decide +kernel
theorem dX13_leaf_74 : decode cX13_leaf 74 = .ok (.getfield 32, 3) := by decide +kernel
theorem dX13_leaf_77 : decode cX13_leaf 77 = .ok (.iload_n 1, 1) := by decide +kernel
theorem dX13_leaf_78 : decode cX13_leaf 78 = .ok (.laload, 1) := by decide +kernel
theorem dX13_leaf_79 : decode cX13_leaf 79 = .ok (.invokevirtual 906, 3) := by decide +kernel
theorem dX13_leaf_8 : decode cX13_leaf 8 = .ok (.aload_n 0, 1) := by decide +kernel
theorem dX13_leaf_82 : decode cX13_leaf 82 = .ok (.return_, 1) := by decide +kernel
theorem dX13_leaf_83 : decode cX13_leaf 83 = .ok (.aload_n 0, 1) := by decide +kernel
theorem dX13_leaf_84 : decode cX13_leaf 84 = .ok (.aload_n 0, 1) := by decide +kernel
theorem dX13_leaf_85 : decode cX13_leaf 85 = .ok (.getfield 26, 3) := by decide +kernel
theorem dX13_leaf_88 : decode cX13_leaf 88 = .ok (.iload_n 1, 1) := by decide +kernel
theorem dX13_leaf_89 : decode cX13_leaf 89 = .ok (.iaload, 1) := by decide +kernel
theorem dX13_leaf_9 : decode cX13_leaf 9 = .ok (.getfield 26, 3) := by decide +kernel
theorem dX13_leaf_90 : decode cX13_leaf 90 = .ok (.bipush 51, 2) := by decide +kernel
theorem dX13_leaf_92 : decode cX13_leaf 92 = .ok (.if_icmp .ne 7, 3) := by decide +kernel
theorem dX13_leaf_95 : decode cX13_leaf 95 = .ok (.iconst 1, 1) := by decide +kernel
theorem dX13_leaf_96 : decode cX13_leaf 96 = .ok (.goto 4, 3) := by decide +kernel
theorem dX13_leaf_99 : decode cX13_leaf 99 = .ok (.iconst 0, 1) := by decide +kernel
theorem dX13_matchAll_0 : decode cX13_matchAll 0 = .ok (.aload_n 0, 1) := by decide +kernel
theorem dX13_matchAll_1 : decode cX13_matchAll 1 = .ok (.getfield 1212, 3) := by decide +kernel
theorem dX13_matchAll_12 : decode cX13_matchAll 12 = .ok (.aload_n 0, 1) := by decide +kernel
theorem dX13_matchAll_13 : decode cX13_matchAll 13 = .ok (.invokevirtual 1218, 3) := by decide +kernel
theorem dX13_matchAll_16 : decode cX13_matchAll 16 = .ok (.aload_n 0, 1) := by decide +kernel
theorem dX13_matchAll_17 : decode cX13_matchAll 17 = .ok (.dup, 1) := by decide +kernel
theorem dX13_matchAll_18 : decode cX13_matchAll 18 = .ok (.getfield 1212, 3) := by decide +kernel
theorem dX13_matchAll_21 : decode cX13_matchAll 21 = .ok (.iconst 1, 1) := by decide +kernel
theorem dX13_matchAll_22 : decode cX13_matchAll 22 = .ok (.iadd, 1) := by decide +kernel
theorem dX13_matchAll_23 : decode cX13_matchAll 23 = .ok (.putfield 1212, 3) := by decide +kernel
theorem dX13_matchAll_26 : decode cX13_matchAll 26 = .ok (.aload_n 0, 1) := by decide +kernel
theorem dX13_matchAll_27 : decode cX13_matchAll 27 = .ok (.iload_n 1, 1) := by decide +kernel
theorem dX13_matchAll_28 : decode cX13_matchAll 28 = .ok (.invokestatic 1221, 3) := by decide +kernel
theorem dX13_matchAll_31 : decode cX13_matchAll 31 = .ok (.aload_n 0, 1) := by decide +kernel
theorem dX13_matchAll_32 : decode cX13_matchAll 32 = .ok (.dup, 1) := by decide +kernel
theorem dX13_matchAll_33 : decode cX13_matchAll 33 = .ok (.getfield 1212, 3) := by decide +kernel
theorem dX13_matchAll_36 : decode cX13_matchAll 36 = .ok (.iconst 1, 1) := by decide +kernel
theorem dX13_matchAll_37 : decode cX13_matchAll 37 = .ok (.isub, 1) := by decide +kernel
theorem dX13_matchAll_38 : decode cX13_matchAll 38 = .ok (.putfield 1212, 3) := by decide +kernel
theorem dX13_matchAll_4 : decode cX13_matchAll 4 = .ok (.ifCond .ne 12, 3) := by decide +kernel
theorem dX13_matchAll_41 : decode cX13_matchAll 41 = .ok (.aload_n 0, 1) := by decide +kernel
theorem dX13_matchAll_42 : decode cX13_matchAll 42 = .ok (.getfield 842, 3) := by decide +kernel
theorem dX13_matchAll_45 : decode cX13_matchAll 45 = .ok (.ifCond .eq 5, 3) := by decide +kernel
theorem dX13_matchAll_48 : decode cX13_matchAll 48 = .ok (.iconst 0, 1) := by decide +kernel
theorem dX13_matchAll_49 : decode cX13_matchAll 49 = .ok (.ireturn, 1) := by decide +kernel
theorem dX13_matchAll_50 : decode cX13_matchAll 50 = .ok (.aload_n 0, 1) := by decide +kernel
theorem dX13_matchAll_51 : decode cX13_matchAll 51 = .ok (.dup, 1) := by decide +kernel
theorem dX13_matchAll_52 : decode cX13_matchAll 52 = .ok (.getfield 1224, 3) := by decide +kernel
theorem dX13_matchAll_55 : decode cX13_matchAll 55 = .ok (.iconst 1, 1) := by decide +kernel
theorem dX13_matchAll_56 : decode cX13_matchAll 56 = .ok (.iadd, 1) := by decide +kernel
theorem dX13_matchAll_57 : decode cX13_matchAll 57 = .ok (.putfield 1224, 3) := by decide +kernel
theorem dX13_matchAll_60 : decode cX13_matchAll 60 = .ok (.aload_n 0, 1) := by decide +kernel
theorem dX13_matchAll_61 : decode cX13_matchAll 61 = .ok (.iload_n 2, 1) := by decide +kernel
theorem dX13_matchAll_62 : decode cX13_matchAll 62 = .ok (.putfield 1227, 3) := by decide +kernel
theorem dX13_matchAll_65 : decode cX13_matchAll 65 = .ok (.aload_n 0, 1) := by decide +kernel
theorem dX13_matchAll_66 : decode cX13_matchAll 66 = .ok (.iload_n 2, 1) := by decide +kernel
theorem dX13_matchAll_67 : decode cX13_matchAll 67 = .ok (.invokevirtual 1230, 3) := by decide +kernel
theorem dX13_matchAll_7 : decode cX13_matchAll 7 = .ok (.aload_n 0, 1) := by decide +kernel
theorem dX13_matchAll_70 : decode cX13_matchAll 70 = .ok (.aload_n 0, 1) := by decide +kernel
theorem dX13_matchAll_71 : decode cX13_matchAll 71 = .ok (.iload_n 1, 1) := by decide +kernel
theorem dX13_matchAll_72 : decode cX13_matchAll 72 = .ok (.iload_n 2, 1) := by decide +kernel
theorem dX13_matchAll_73 : decode cX13_matchAll 73 = .ok (.invokestatic 1233, 3) := by decide +kernel
theorem dX13_matchAll_76 : decode cX13_matchAll 76 = .ok (.ireturn, 1) := by decide +kernel
theorem dX13_matchAll_8 : decode cX13_matchAll 8 = .ok (.iconst 0, 1) := by decide +kernel
theorem dX13_matchAll_9 : decode cX13_matchAll 9 = .ok (.putfield 1215, 3) := by decide +kernel
theorem dX13_met_0 : decode cX13_met 0 = .ok (.aload_n 0, 1) := by decide +kernel
theorem dX13_met_1 : decode cX13_met 1 = .ok (.getfield 858, 3) := by decide +kernel
theorem dX13_met_10 : decode cX13_met 10 = .ok (.getfield 39, 3) := by decide +kernel
theorem dX13_met_13 : decode cX13_met 13 = .ok (.iload_n 1, 1) := by decide +kernel
theorem dX13_met_14 : decode cX13_met 14 = .ok (.iaload, 1) := by decide +kernel
theorem dX13_met_15 : decode cX13_met 15 = .ok (.iaload, 1) := by decide +kernel
theorem dX13_met_16 : decode cX13_met 16 = .ok (.istore_n 3, 1) := by decide +kernel
theorem dX13_met_17 : decode cX13_met 17 = .ok (.aload_n 0, 1) := by decide +kernel
theorem dX13_met_18 : decode cX13_met 18 = .ok (.iload_n 3, 1) := by decide +kernel
theorem dX13_met_19 : decode cX13_met 19 = .ok (.aload_n 0, 1) := by decide +kernel
theorem dX13_met_20 : decode cX13_met 20 = .ok (.invokevirtual 941, 3) := by decide +kernel
theorem dX13_met_23 : decode cX13_met 23 = .ok (.invokestatic 944, 3) := by decide +kernel
theorem dX13_met_26 : decode cX13_met 26 = .ok (.istore 4, 2) := by decide +kernel
theorem dX13_met_28 : decode cX13_met 28 = .ok (.aload_n 0, 1) := by decide +kernel
theorem dX13_met_29 : decode cX13_met 29 = .ok (.getfield 842, 3) := by decide +kernel
theorem dX13_met_32 : decode cX13_met 32 = .ok (.ifCond .ne 16, 3) := by decide +kernel
theorem dX13_met_35 : decode cX13_met 35 = .ok (.aload_n 0, 1) := by decide +kernel
theorem dX13_met_36 : decode cX13_met 36 = .ok (.iload_n 2, 1) := by decide +kernel
theorem dX13_met_37 : decode cX13_met 37 = .ok (.iconst 1, 1) := by decide +kernel
theorem dX13_met_38 : decode cX13_met 38 = .ok (.isub, 1) := by decide +kernel
theorem dX13_met_39 : decode cX13_met 39 = .ok (.putfield 858, 3) := by decide +kernel
theorem dX13_met_4 : decode cX13_met 4 = .ok (.istore_n 2, 1) := by decide +kernel
theorem dX13_met_42 : decode cX13_met 42 = .ok (.aload_n 0, 1) := by decide +kernel
theorem dX13_met_43 : decode cX13_met 43 = .ok (.iload 4, 2) := by decide +kernel
theorem dX13_met_45 : decode cX13_met 45 = .ok (.invokevirtual 910, 3) := by decide +kernel
theorem dX13_met_48 : decode cX13_met 48 = .ok (.return_, 1) := by decide +kernel
theorem dX13_met_5 : decode cX13_met 5 = .ok (.aload_n 0, 1) := by decide +kernel
theorem dX13_met_6 : decode cX13_met 6 = .ok (.getfield 42, 3) := by decide +kernel
theorem dX13_met_9 : decode cX13_met 9 = .ok (.aload_n 0, 1) := by decide +kernel
theorem dX13_prepare_0 : decode cX13_prepare 0 = .ok (.aload_n 0, 1) := by decide +kernel
theorem dX13_prepare_1 : decode cX13_prepare 1 = .ok (.getfield 842, 3) := by decide +kernel
theorem dX13_prepare_101 : decode cX13_prepare 101 = .ok (.iconst 1, 1) := by decide +kernel
theorem dX13_prepare_102 : decode cX13_prepare 102 = .ok (.iadd, 1) := by decide +kernel
theorem dX13_prepare_103 : decode cX13_prepare 103 = .ok (.putfield 1215, 3) := by decide +kernel
theorem dX13_prepare_106 : decode cX13_prepare 106 = .ok (.iinc 5 1, 3) := by decide +kernel
theorem dX13_prepare_109 : decode cX13_prepare 109 = .ok (.goto (-38), 3) := by decide +kernel
theorem dX13_prepare_112 : decode cX13_prepare 112 = .ok (.aload_n 0, 1) := by decide +kernel
theorem dX13_prepare_113 : decode cX13_prepare 113 = .ok (.iload_n 2, 1) := by decide +kernel
theorem dX13_prepare_114 : decode cX13_prepare 114 = .ok (.putfield 858, 3) := by decide +kernel
theorem dX13_prepare_117 : decode cX13_prepare 117 = .ok (.return_, 1) := by decide +kernel
theorem dX13_prepare_118 : decode cX13_prepare 118 = .ok (.aload_n 0, 1) := by decide +kernel
theorem dX13_prepare_119 : decode cX13_prepare 119 = .ok (.getfield 26, 3) := by decide +kernel
theorem dX13_prepare_12 : decode cX13_prepare 12 = .ok (.iload_n 1, 1) := by decide +kernel
theorem dX13_prepare_122 : decode cX13_prepare 122 = .ok (.iload_n 1, 1) := by decide +kernel
theorem dX13_prepare_123 : decode cX13_prepare 123 = .ok (.iaload, 1) := by decide +kernel
theorem dX13_prepare_124 : decode cX13_prepare 124 = .ok (.bipush 28, 2) := by decide +kernel
theorem dX13_prepare_126 : decode cX13_prepare 126 = .ok (.if_icmp .ne 62, 3) := by decide +kernel
theorem dX13_prepare_129 : decode cX13_prepare 129 = .ok (.aload_n 0, 1) := by decide +kernel
theorem dX13_prepare_13 : decode cX13_prepare 13 = .ok (.iaload, 1) := by decide +kernel
theorem dX13_prepare_130 : decode cX13_prepare 130 = .ok (.aload_n 0, 1) := by decide +kernel
theorem dX13_prepare_131 : decode cX13_prepare 131 = .ok (.getfield 63, 3) := by decide +kernel
theorem dX13_prepare_134 : decode cX13_prepare 134 = .ok (.iconst 0, 1) := by decide +kernel
theorem dX13_prepare_135 : decode cX13_prepare 135 = .ok (.aload_n 0, 1) := by decide +kernel
theorem dX13_prepare_136 : decode cX13_prepare 136 = .ok (.getfield 627, 3) := by decide +kernel
theorem dX13_prepare_139 : decode cX13_prepare 139 = .ok (.aload_n 0, 1) := by decide +kernel
theorem dX13_prepare_14 : decode cX13_prepare 14 = .ok (.bipush 38, 2) := by decide +kernel
theorem dX13_prepare_140 : decode cX13_prepare 140 = .ok (.getfield 32, 3) := by decide +kernel
theorem dX13_prepare_143 : decode cX13_prepare 143 = .ok (.iload_n 1, 1) := by decide +kernel
theorem dX13_prepare_144 : decode cX13_prepare 144 = .ok (.laload, 1) := by decide +kernel
theorem dX13_prepare_145 : decode cX13_prepare 145 = .ok (.l2i, 1) := by decide +kernel
theorem dX13_prepare_146 : decode cX13_prepare 146 = .ok (.invokevirtual 788, 3) := by decide +kernel
theorem dX13_prepare_149 : decode cX13_prepare 149 = .ok (.istore_n 2, 1) := by decide +kernel
theorem dX13_prepare_150 : decode cX13_prepare 150 = .ok (.iload_n 2, 1) := by decide +kernel
theorem dX13_prepare_151 : decode cX13_prepare 151 = .ok (.ifCond .lt 36, 3) := by decide +kernel
theorem dX13_prepare_154 : decode cX13_prepare 154 = .ok (.aload_n 0, 1) := by decide +kernel
theorem dX13_prepare_155 : decode cX13_prepare 155 = .ok (.getfield 258, 3) := by decide +kernel
theorem dX13_prepare_158 : decode cX13_prepare 158 = .ok (.iload_n 2, 1) := by decide +kernel
theorem dX13_prepare_159 : decode cX13_prepare 159 = .ok (.iaload, 1) := by decide +kernel
theorem dX13_prepare_16 : decode cX13_prepare 16 = .ok (.if_icmp .ne 102, 3) := by decide +kernel
theorem dX13_prepare_160 : decode cX13_prepare 160 = .ok (.aload_n 0, 1) := by decide +kernel
theorem dX13_prepare_161 : decode cX13_prepare 161 = .ok (.getfield 1236, 3) := by decide +kernel
theorem dX13_prepare_164 : decode cX13_prepare 164 = .ok (.if_icmp .eq 23, 3) := by decide +kernel
theorem dX13_prepare_167 : decode cX13_prepare 167 = .ok (.aload_n 0, 1) := by decide +kernel
theorem dX13_prepare_168 : decode cX13_prepare 168 = .ok (.getfield 258, 3) := by decide +kernel
theorem dX13_prepare_171 : decode cX13_prepare 171 = .ok (.iload_n 2, 1) := by decide +kernel
theorem dX13_prepare_172 : decode cX13_prepare 172 = .ok (.aload_n 0, 1) := by decide +kernel
theorem dX13_prepare_173 : decode cX13_prepare 173 = .ok (.getfield 1236, 3) := by decide +kernel
theorem dX13_prepare_176 : decode cX13_prepare 176 = .ok (.iastore, 1) := by decide +kernel
theorem dX13_prepare_177 : decode cX13_prepare 177 = .ok (.aload_n 0, 1) := by decide +kernel
theorem dX13_prepare_178 : decode cX13_prepare 178 = .ok (.aload_n 0, 1) := by decide +kernel
theorem dX13_prepare_179 : decode cX13_prepare 179 = .ok (.getfield 66, 3) := by decide +kernel
theorem dX13_prepare_182 : decode cX13_prepare 182 = .ok (.iload_n 2, 1) := by decide +kernel
theorem dX13_prepare_183 : decode cX13_prepare 183 = .ok (.iaload, 1) := by decide +kernel
theorem dX13_prepare_184 : decode cX13_prepare 184 = .ok (.invokestatic 1221, 3) := by decide +kernel
theorem dX13_prepare_187 : decode cX13_prepare 187 = .ok (.return_, 1) := by decide +kernel
theorem dX13_prepare_188 : decode cX13_prepare 188 = .ok (.aload_n 0, 1) := by decide +kernel
theorem dX13_prepare_189 : decode cX13_prepare 189 = .ok (.getfield 39, 3) := by decide +kernel
theorem dX13_prepare_19 : decode cX13_prepare 19 = .ok (.aload_n 0, 1) := by decide +kernel
theorem dX13_prepare_192 : decode cX13_prepare 192 = .ok (.iload_n 1, 1) := by decide +kernel
theorem dX13_prepare_193 : decode cX13_prepare 193 = .ok (.iaload, 1) := by decide +kernel
theorem dX13_prepare_194 : decode cX13_prepare 194 = .ok (.istore_n 2, 1) := by decide +kernel
theorem dX13_prepare_195 : decode cX13_prepare 195 = .ok (.iload_n 2, 1) := by decide +kernel
theorem dX13_prepare_196 : decode cX13_prepare 196 = .ok (.ifCond .lt 18, 3) := by decide +kernel
theorem dX13_prepare_199 : decode cX13_prepare 199 = .ok (.aload_n 0, 1) := by decide +kernel
theorem dX13_prepare_20 : decode cX13_prepare 20 = .ok (.getfield 858, 3) := by decide +kernel
theorem dX13_prepare_200 : decode cX13_prepare 200 = .ok (.iload_n 2, 1) := by decide +kernel
theorem dX13_prepare_201 : decode cX13_prepare 201 = .ok (.invokestatic 1221, 3) := by decide +kernel
theorem dX13_prepare_204 : decode cX13_prepare 204 = .ok (.aload_n 0, 1) := by decide +kernel
theorem dX13_prepare_205 : decode cX13_prepare 205 = .ok (.getfield 42, 3) := by decide +kernel
theorem dX13_prepare_208 : decode cX13_prepare 208 = .ok (.iload_n 2, 1) := by decide +kernel
theorem dX13_prepare_209 : decode cX13_prepare 209 = .ok (.iaload, 1) := by decide +kernel
theorem dX13_prepare_210 : decode cX13_prepare 210 = .ok (.istore_n 2, 1) := by decide +kernel
theorem dX13_prepare_211 : decode cX13_prepare 211 = .ok (.goto (-16), 3) := by decide +kernel
theorem dX13_prepare_214 : decode cX13_prepare 214 = .ok (.return_, 1) := by decide +kernel
theorem dX13_prepare_23 : decode cX13_prepare 23 = .ok (.istore_n 2, 1) := by decide +kernel
theorem dX13_prepare_24 : decode cX13_prepare 24 = .ok (.aload_n 0, 1) := by decide +kernel
theorem dX13_prepare_25 : decode cX13_prepare 25 = .ok (.aload_n 0, 1) := by decide +kernel
theorem dX13_prepare_26 : decode cX13_prepare 26 = .ok (.getfield 39, 3) := by decide +kernel
theorem dX13_prepare_29 : decode cX13_prepare 29 = .ok (.iload_n 1, 1) := by decide +kernel
theorem dX13_prepare_30 : decode cX13_prepare 30 = .ok (.iaload, 1) := by decide +kernel
theorem dX13_prepare_31 : decode cX13_prepare 31 = .ok (.invokestatic 897, 3) := by decide +kernel
theorem dX13_prepare_34 : decode cX13_prepare 34 = .ok (.aload_n 0, 1) := by decide +kernel
theorem dX13_prepare_35 : decode cX13_prepare 35 = .ok (.getfield 842, 3) := by decide +kernel
theorem dX13_prepare_38 : decode cX13_prepare 38 = .ok (.ifCond .ne 74, 3) := by decide +kernel
theorem dX13_prepare_4 : decode cX13_prepare 4 = .ok (.ifCond .eq 4, 3) := by decide +kernel
theorem dX13_prepare_41 : decode cX13_prepare 41 = .ok (.aload_n 0, 1) := by decide +kernel
theorem dX13_prepare_42 : decode cX13_prepare 42 = .ok (.invokevirtual 941, 3) := by decide +kernel
theorem dX13_prepare_45 : decode cX13_prepare 45 = .ok (.istore_n 3, 1) := by decide +kernel
theorem dX13_prepare_46 : decode cX13_prepare 46 = .ok (.aload_n 0, 1) := by decide +kernel
theorem dX13_prepare_47 : decode cX13_prepare 47 = .ok (.getfield 182, 3) := by decide +kernel
theorem dX13_prepare_50 : decode cX13_prepare 50 = .ok (.iload_n 3, 1) := by decide +kernel
theorem dX13_prepare_51 : decode cX13_prepare 51 = .ok (.invokestatic 849, 3) := by decide +kernel
theorem dX13_prepare_54 : decode cX13_prepare 54 = .ok (.iload_n 3, 1) := by decide +kernel
theorem dX13_prepare_55 : decode cX13_prepare 55 = .ok (.isub, 1) := by decide +kernel
theorem dX13_prepare_56 : decode cX13_prepare 56 = .ok (.istore 4, 2) := by decide +kernel
theorem dX13_prepare_58 : decode cX13_prepare 58 = .ok (.aload_n 0, 1) := by decide +kernel
theorem dX13_prepare_59 : decode cX13_prepare 59 = .ok (.getfield 244, 3) := by decide +kernel
theorem dX13_prepare_62 : decode cX13_prepare 62 = .ok (.iload_n 1, 1) := by decide +kernel
theorem dX13_prepare_63 : decode cX13_prepare 63 = .ok (.aload_n 0, 1) := by decide +kernel
theorem dX13_prepare_64 : decode cX13_prepare 64 = .ok (.getfield 1215, 3) := by decide +kernel
theorem dX13_prepare_67 : decode cX13_prepare 67 = .ok (.iastore, 1) := by decide +kernel
theorem dX13_prepare_68 : decode cX13_prepare 68 = .ok (.iconst 0, 1) := by decide +kernel
theorem dX13_prepare_69 : decode cX13_prepare 69 = .ok (.istore 5, 2) := by decide +kernel
theorem dX13_prepare_7 : decode cX13_prepare 7 = .ok (.return_, 1) := by decide +kernel
theorem dX13_prepare_71 : decode cX13_prepare 71 = .ok (.iload 5, 2) := by decide +kernel
theorem dX13_prepare_73 : decode cX13_prepare 73 = .ok (.iload 4, 2) := by decide +kernel
theorem dX13_prepare_75 : decode cX13_prepare 75 = .ok (.if_icmp .ge 37, 3) := by decide +kernel
theorem dX13_prepare_78 : decode cX13_prepare 78 = .ok (.aload_n 0, 1) := by decide +kernel
theorem dX13_prepare_79 : decode cX13_prepare 79 = .ok (.getfield 248, 3) := by decide +kernel
theorem dX13_prepare_8 : decode cX13_prepare 8 = .ok (.aload_n 0, 1) := by decide +kernel
theorem dX13_prepare_82 : decode cX13_prepare 82 = .ok (.aload_n 0, 1) := by decide +kernel
theorem dX13_prepare_83 : decode cX13_prepare 83 = .ok (.getfield 1215, 3) := by decide +kernel
theorem dX13_prepare_86 : decode cX13_prepare 86 = .ok (.aload_n 0, 1) := by decide +kernel
theorem dX13_prepare_87 : decode cX13_prepare 87 = .ok (.getfield 182, 3) := by decide +kernel
theorem dX13_prepare_9 : decode cX13_prepare 9 = .ok (.getfield 26, 3) := by decide +kernel
theorem dX13_prepare_90 : decode cX13_prepare 90 = .ok (.iload_n 3, 1) := by decide +kernel
theorem dX13_prepare_91 : decode cX13_prepare 91 = .ok (.iload 5, 2) := by decide +kernel
theorem dX13_prepare_93 : decode cX13_prepare 93 = .ok (.iadd, 1) := by decide +kernel
theorem dX13_prepare_94 : decode cX13_prepare 94 = .ok (.laload, 1) := by decide +kernel
theorem dX13_prepare_95 : decode cX13_prepare 95 = .ok (.lastore, 1) := by decide +kernel
theorem dX13_prepare_96 : decode cX13_prepare 96 = .ok (.aload_n 0, 1) := by decide +kernel
theorem dX13_prepare_97 : decode cX13_prepare 97 = .ok (.dup, 1) := by decide +kernel
theorem dX13_prepare_98 : decode cX13_prepare 98 = .ok (.getfield 1215, 3) := by decide +kernel
theorem dX13_rowOf_0 : decode cX13_rowOf 0 = .ok (.aload_n 0, 1) := by decide +kernel
theorem dX13_rowOf_1 : decode cX13_rowOf 1 = .ok (.getfield 858, 3) := by decide +kernel
theorem dX13_rowOf_102 : decode cX13_rowOf 102 = .ok (.aload_n 0, 1) := by decide +kernel
theorem dX13_rowOf_103 : decode cX13_rowOf 103 = .ok (.getfield 182, 3) := by decide +kernel
theorem dX13_rowOf_106 : decode cX13_rowOf 106 = .ok (.sipush 260, 3) := by decide +kernel
theorem dX13_rowOf_109 : decode cX13_rowOf 109 = .ok (.bipush 40, 2) := by decide +kernel
theorem dX13_rowOf_11 : decode cX13_rowOf 11 = .ok (.iload_n 1, 1) := by decide +kernel
theorem dX13_rowOf_111 : decode cX13_rowOf 111 = .ok (.iload_n 2, 1) := by decide +kernel
theorem dX13_rowOf_112 : decode cX13_rowOf 112 = .ok (.iadd, 1) := by decide +kernel
theorem dX13_rowOf_113 : decode cX13_rowOf 113 = .ok (.iload 5, 2) := by decide +kernel
theorem dX13_rowOf_115 : decode cX13_rowOf 115 = .ok (.iadd, 1) := by decide +kernel
theorem dX13_rowOf_116 : decode cX13_rowOf 116 = .ok (.imul, 1) := by decide +kernel
theorem dX13_rowOf_117 : decode cX13_rowOf 117 = .ok (.laload, 1) := by decide +kernel
theorem dX13_rowOf_118 : decode cX13_rowOf 118 = .ok (.ldc2_w 969, 3) := by decide +kernel
theorem dX13_rowOf_12 : decode cX13_rowOf 12 = .ok (.iaload, 1) := by decide +kernel
theorem dX13_rowOf_121 : decode cX13_rowOf 121 = .ok (.lcmp, 1) := by decide +kernel
theorem dX13_rowOf_122 : decode cX13_rowOf 122 = .ok (.ifCond .ne 8, 3) := by decide +kernel
theorem dX13_rowOf_125 : decode cX13_rowOf 125 = .ok (.aload_n 0, 1) := by decide +kernel
theorem dX13_rowOf_126 : decode cX13_rowOf 126 = .ok (.iconst 1, 1) := by decide +kernel
theorem dX13_rowOf_127 : decode cX13_rowOf 127 = .ok (.invokevirtual 866, 3) := by decide +kernel
theorem dX13_rowOf_13 : decode cX13_rowOf 13 = .ok (.bipush 59, 2) := by decide +kernel
theorem dX13_rowOf_130 : decode cX13_rowOf 130 = .ok (.iinc 5 1, 3) := by decide +kernel
theorem dX13_rowOf_133 : decode cX13_rowOf 133 = .ok (.goto (-49), 3) := by decide +kernel
theorem dX13_rowOf_136 : decode cX13_rowOf 136 = .ok (.aload_n 0, 1) := by decide +kernel
theorem dX13_rowOf_137 : decode cX13_rowOf 137 = .ok (.getfield 842, 3) := by decide +kernel
theorem dX13_rowOf_140 : decode cX13_rowOf 140 = .ok (.ifCond .eq 4, 3) := by decide +kernel
theorem dX13_rowOf_143 : decode cX13_rowOf 143 = .ok (.return_, 1) := by decide +kernel
theorem dX13_rowOf_144 : decode cX13_rowOf 144 = .ok (.iconst 0, 1) := by decide +kernel
theorem dX13_rowOf_145 : decode cX13_rowOf 145 = .ok (.istore 5, 2) := by decide +kernel
theorem dX13_rowOf_147 : decode cX13_rowOf 147 = .ok (.iload 4, 2) := by decide +kernel
theorem dX13_rowOf_149 : decode cX13_rowOf 149 = .ok (.ifCond .eq 15, 3) := by decide +kernel
theorem dX13_rowOf_15 : decode cX13_rowOf 15 = .ok (.if_icmp .ne 7, 3) := by decide +kernel
theorem dX13_rowOf_152 : decode cX13_rowOf 152 = .ok (.aload_n 0, 1) := by decide +kernel
theorem dX13_rowOf_153 : decode cX13_rowOf 153 = .ok (.iload_n 1, 1) := by decide +kernel
theorem dX13_rowOf_154 : decode cX13_rowOf 154 = .ok (.iload_n 2, 1) := by decide +kernel
theorem dX13_rowOf_155 : decode cX13_rowOf 155 = .ok (.iload_n 3, 1) := by decide +kernel
theorem dX13_rowOf_156 : decode cX13_rowOf 156 = .ok (.invokevirtual 971, 3) := by decide +kernel
theorem dX13_rowOf_159 : decode cX13_rowOf 159 = .ok (.istore 5, 2) := by decide +kernel
theorem dX13_rowOf_161 : decode cX13_rowOf 161 = .ok (.goto 57, 3) := by decide +kernel
theorem dX13_rowOf_164 : decode cX13_rowOf 164 = .ok (.aload_n 0, 1) := by decide +kernel
theorem dX13_rowOf_165 : decode cX13_rowOf 165 = .ok (.getfield 185, 3) := by decide +kernel
theorem dX13_rowOf_168 : decode cX13_rowOf 168 = .ok (.iconst 0, 1) := by decide +kernel
theorem dX13_rowOf_169 : decode cX13_rowOf 169 = .ok (.ldc2_w 951, 3) := by decide +kernel
theorem dX13_rowOf_172 : decode cX13_rowOf 172 = .ok (.lastore, 1) := by decide +kernel
theorem dX13_rowOf_173 : decode cX13_rowOf 173 = .ok (.aload_n 0, 1) := by decide +kernel
theorem dX13_rowOf_174 : decode cX13_rowOf 174 = .ok (.getfield 185, 3) := by decide +kernel
theorem dX13_rowOf_177 : decode cX13_rowOf 177 = .ok (.iconst 1, 1) := by decide +kernel
theorem dX13_rowOf_178 : decode cX13_rowOf 178 = .ok (.iload_n 3, 1) := by decide +kernel
theorem dX13_rowOf_179 : decode cX13_rowOf 179 = .ok (.i2l, 1) := by decide +kernel
theorem dX13_rowOf_18 : decode cX13_rowOf 18 = .ok (.iconst 1, 1) := by decide +kernel
theorem dX13_rowOf_180 : decode cX13_rowOf 180 = .ok (.lastore, 1) := by decide +kernel
theorem dX13_rowOf_181 : decode cX13_rowOf 181 = .ok (.iconst 2, 1) := by decide +kernel
theorem dX13_rowOf_182 : decode cX13_rowOf 182 = .ok (.istore 5, 2) := by decide +kernel
theorem dX13_rowOf_184 : decode cX13_rowOf 184 = .ok (.iconst 0, 1) := by decide +kernel
theorem dX13_rowOf_185 : decode cX13_rowOf 185 = .ok (.istore 6, 2) := by decide +kernel
theorem dX13_rowOf_187 : decode cX13_rowOf 187 = .ok (.iload 6, 2) := by decide +kernel
theorem dX13_rowOf_189 : decode cX13_rowOf 189 = .ok (.iload_n 3, 1) := by decide +kernel
theorem dX13_rowOf_19 : decode cX13_rowOf 19 = .ok (.goto 4, 3) := by decide +kernel
theorem dX13_rowOf_190 : decode cX13_rowOf 190 = .ok (.if_icmp .ge 28, 3) := by decide +kernel
theorem dX13_rowOf_193 : decode cX13_rowOf 193 = .ok (.aload_n 0, 1) := by decide +kernel
theorem dX13_rowOf_194 : decode cX13_rowOf 194 = .ok (.iload 5, 2) := by decide +kernel
theorem dX13_rowOf_196 : decode cX13_rowOf 196 = .ok (.sipush 260, 3) := by decide +kernel
theorem dX13_rowOf_199 : decode cX13_rowOf 199 = .ok (.bipush 40, 2) := by decide +kernel
theorem dX13_rowOf_201 : decode cX13_rowOf 201 = .ok (.iload_n 2, 1) := by decide +kernel
theorem dX13_rowOf_202 : decode cX13_rowOf 202 = .ok (.iadd, 1) := by decide +kernel
theorem dX13_rowOf_203 : decode cX13_rowOf 203 = .ok (.iload 6, 2) := by decide +kernel
theorem dX13_rowOf_205 : decode cX13_rowOf 205 = .ok (.iadd, 1) := by decide +kernel
theorem dX13_rowOf_206 : decode cX13_rowOf 206 = .ok (.imul, 1) := by decide +kernel
theorem dX13_rowOf_207 : decode cX13_rowOf 207 = .ok (.invokevirtual 956, 3) := by decide +kernel
theorem dX13_rowOf_210 : decode cX13_rowOf 210 = .ok (.istore 5, 2) := by decide +kernel
theorem dX13_rowOf_212 : decode cX13_rowOf 212 = .ok (.iinc 6 1, 3) := by decide +kernel
theorem dX13_rowOf_215 : decode cX13_rowOf 215 = .ok (.goto (-28), 3) := by decide +kernel
theorem dX13_rowOf_218 : decode cX13_rowOf 218 = .ok (.aload_n 0, 1) := by decide +kernel
theorem dX13_rowOf_219 : decode cX13_rowOf 219 = .ok (.iload_n 2, 1) := by decide +kernel
theorem dX13_rowOf_22 : decode cX13_rowOf 22 = .ok (.iconst 0, 1) := by decide +kernel
theorem dX13_rowOf_220 : decode cX13_rowOf 220 = .ok (.putfield 858, 3) := by decide +kernel
theorem dX13_rowOf_223 : decode cX13_rowOf 223 = .ok (.aload_n 0, 1) := by decide +kernel
theorem dX13_rowOf_224 : decode cX13_rowOf 224 = .ok (.invokevirtual 959, 3) := by decide +kernel
theorem dX13_rowOf_227 : decode cX13_rowOf 227 = .ok (.return_, 1) := by decide +kernel
theorem dX13_rowOf_23 : decode cX13_rowOf 23 = .ok (.istore 4, 2) := by decide +kernel
theorem dX13_rowOf_25 : decode cX13_rowOf 25 = .ok (.aload_n 0, 1) := by decide +kernel
theorem dX13_rowOf_26 : decode cX13_rowOf 26 = .ok (.getfield 39, 3) := by decide +kernel
theorem dX13_rowOf_29 : decode cX13_rowOf 29 = .ok (.iload_n 1, 1) := by decide +kernel
theorem dX13_rowOf_30 : decode cX13_rowOf 30 = .ok (.iaload, 1) := by decide +kernel
theorem dX13_rowOf_31 : decode cX13_rowOf 31 = .ok (.istore 5, 2) := by decide +kernel
theorem dX13_rowOf_33 : decode cX13_rowOf 33 = .ok (.iload 5, 2) := by decide +kernel
theorem dX13_rowOf_35 : decode cX13_rowOf 35 = .ok (.ifCond .lt 46, 3) := by decide +kernel
theorem dX13_rowOf_38 : decode cX13_rowOf 38 = .ok (.aload_n 0, 1) := by decide +kernel
theorem dX13_rowOf_39 : decode cX13_rowOf 39 = .ok (.getfield 842, 3) := by decide +kernel
theorem dX13_rowOf_4 : decode cX13_rowOf 4 = .ok (.istore_n 2, 1) := by decide +kernel
theorem dX13_rowOf_42 : decode cX13_rowOf 42 = .ok (.ifCond .ne 39, 3) := by decide +kernel
theorem dX13_rowOf_45 : decode cX13_rowOf 45 = .ok (.aload_n 0, 1) := by decide +kernel
theorem dX13_rowOf_46 : decode cX13_rowOf 46 = .ok (.iload 4, 2) := by decide +kernel
theorem dX13_rowOf_48 : decode cX13_rowOf 48 = .ok (.ifCond .eq 13, 3) := by decide +kernel
theorem dX13_rowOf_5 : decode cX13_rowOf 5 = .ok (.iconst 0, 1) := by decide +kernel
theorem dX13_rowOf_51 : decode cX13_rowOf 51 = .ok (.aload_n 0, 1) := by decide +kernel
theorem dX13_rowOf_52 : decode cX13_rowOf 52 = .ok (.getfield 39, 3) := by decide +kernel
theorem dX13_rowOf_55 : decode cX13_rowOf 55 = .ok (.iload 5, 2) := by decide +kernel
theorem dX13_rowOf_57 : decode cX13_rowOf 57 = .ok (.iaload, 1) := by decide +kernel
theorem dX13_rowOf_58 : decode cX13_rowOf 58 = .ok (.goto 5, 3) := by decide +kernel
theorem dX13_rowOf_6 : decode cX13_rowOf 6 = .ok (.istore_n 3, 1) := by decide +kernel
theorem dX13_rowOf_61 : decode cX13_rowOf 61 = .ok (.iload 5, 2) := by decide +kernel
theorem dX13_rowOf_63 : decode cX13_rowOf 63 = .ok (.invokestatic 897, 3) := by decide +kernel
theorem dX13_rowOf_66 : decode cX13_rowOf 66 = .ok (.iinc 3 1, 3) := by decide +kernel
theorem dX13_rowOf_69 : decode cX13_rowOf 69 = .ok (.aload_n 0, 1) := by decide +kernel
theorem dX13_rowOf_7 : decode cX13_rowOf 7 = .ok (.aload_n 0, 1) := by decide +kernel
theorem dX13_rowOf_70 : decode cX13_rowOf 70 = .ok (.getfield 42, 3) := by decide +kernel
theorem dX13_rowOf_73 : decode cX13_rowOf 73 = .ok (.iload 5, 2) := by decide +kernel
theorem dX13_rowOf_75 : decode cX13_rowOf 75 = .ok (.iaload, 1) := by decide +kernel
theorem dX13_rowOf_76 : decode cX13_rowOf 76 = .ok (.istore 5, 2) := by decide +kernel
theorem dX13_rowOf_78 : decode cX13_rowOf 78 = .ok (.goto (-45), 3) := by decide +kernel
theorem dX13_rowOf_8 : decode cX13_rowOf 8 = .ok (.getfield 26, 3) := by decide +kernel
theorem dX13_rowOf_81 : decode cX13_rowOf 81 = .ok (.iconst 0, 1) := by decide +kernel
theorem dX13_rowOf_82 : decode cX13_rowOf 82 = .ok (.istore 5, 2) := by decide +kernel
theorem dX13_rowOf_84 : decode cX13_rowOf 84 = .ok (.iload 5, 2) := by decide +kernel
theorem dX13_rowOf_86 : decode cX13_rowOf 86 = .ok (.iload_n 3, 1) := by decide +kernel
theorem dX13_rowOf_87 : decode cX13_rowOf 87 = .ok (.if_icmp .ge 49, 3) := by decide +kernel
theorem dX13_rowOf_90 : decode cX13_rowOf 90 = .ok (.iload 4, 2) := by decide +kernel
theorem dX13_rowOf_92 : decode cX13_rowOf 92 = .ok (.ifCond .ne 44, 3) := by decide +kernel
theorem dX13_rowOf_95 : decode cX13_rowOf 95 = .ok (.aload_n 0, 1) := by decide +kernel
theorem dX13_rowOf_96 : decode cX13_rowOf 96 = .ok (.getfield 842, 3) := by decide +kernel
theorem dX13_rowOf_99 : decode cX13_rowOf 99 = .ok (.ifCond .ne 37, 3) := by decide +kernel
theorem dX13_two_0 : decode cX13_two 0 = .ok (.aload_n 0, 1) := by decide +kernel
theorem dX13_two_1 : decode cX13_two 1 = .ok (.getfield 32, 3) := by decide +kernel
theorem dX13_two_100 : decode cX13_two 100 = .ok (.getfield 42, 3) := by decide +kernel
theorem dX13_two_103 : decode cX13_two 103 = .ok (.iload_n 3, 1) := by decide +kernel
theorem dX13_two_104 : decode cX13_two 104 = .ok (.iaload, 1) := by decide +kernel
theorem dX13_two_105 : decode cX13_two 105 = .ok (.invokestatic 897, 3) := by decide +kernel
theorem dX13_two_108 : decode cX13_two 108 = .ok (.aload_n 0, 1) := by decide +kernel
theorem dX13_two_109 : decode cX13_two 109 = .ok (.getfield 842, 3) := by decide +kernel
theorem dX13_two_112 : decode cX13_two 112 = .ok (.ifCond .ne 22, 3) := by decide +kernel
theorem dX13_two_115 : decode cX13_two 115 = .ok (.aload_n 0, 1) := by decide +kernel
theorem dX13_two_116 : decode cX13_two 116 = .ok (.getfield 182, 3) := by decide +kernel
theorem dX13_two_119 : decode cX13_two 119 = .ok (.aload_n 0, 1) := by decide +kernel
theorem dX13_two_12 : decode cX13_two 12 = .ok (.iload_n 1, 1) := by decide +kernel
theorem dX13_two_120 : decode cX13_two 120 = .ok (.invokevirtual 941, 3) := by decide +kernel
theorem dX13_two_123 : decode cX13_two 123 = .ok (.laload, 1) := by decide +kernel
theorem dX13_two_124 : decode cX13_two 124 = .ok (.lconst 1, 1) := by decide +kernel
theorem dX13_two_125 : decode cX13_two 125 = .ok (.lcmp, 1) := by decide +kernel
theorem dX13_two_126 : decode cX13_two 126 = .ok (.ifCond .eq 8, 3) := by decide +kernel
theorem dX13_two_129 : decode cX13_two 129 = .ok (.aload_n 0, 1) := by decide +kernel
theorem dX13_two_13 : decode cX13_two 13 = .ok (.iaload, 1) := by decide +kernel
theorem dX13_two_130 : decode cX13_two 130 = .ok (.iconst 1, 1) := by decide +kernel
theorem dX13_two_131 : decode cX13_two 131 = .ok (.invokevirtual 866, 3) := by decide +kernel
theorem dX13_two_134 : decode cX13_two 134 = .ok (.return_, 1) := by decide +kernel
theorem dX13_two_135 : decode cX13_two 135 = .ok (.aload_n 0, 1) := by decide +kernel
theorem dX13_two_136 : decode cX13_two 136 = .ok (.aload_n 0, 1) := by decide +kernel
theorem dX13_two_137 : decode cX13_two 137 = .ok (.getfield 42, 3) := by decide +kernel
theorem dX13_two_14 : decode cX13_two 14 = .ok (.istore_n 3, 1) := by decide +kernel
theorem dX13_two_140 : decode cX13_two 140 = .ok (.iload_n 3, 1) := by decide +kernel
theorem dX13_two_141 : decode cX13_two 141 = .ok (.iaload, 1) := by decide +kernel
theorem dX13_two_142 : decode cX13_two 142 = .ok (.invokestatic 897, 3) := by decide +kernel
theorem dX13_two_145 : decode cX13_two 145 = .ok (.aload_n 0, 1) := by decide +kernel
theorem dX13_two_146 : decode cX13_two 146 = .ok (.getfield 842, 3) := by decide +kernel
theorem dX13_two_149 : decode cX13_two 149 = .ok (.ifCond .ne 8, 3) := by decide +kernel
theorem dX13_two_15 : decode cX13_two 15 = .ok (.iload_n 2, 1) := by decide +kernel
theorem dX13_two_152 : decode cX13_two 152 = .ok (.aload_n 0, 1) := by decide +kernel
theorem dX13_two_153 : decode cX13_two 153 = .ok (.iload_n 2, 1) := by decide +kernel
theorem dX13_two_154 : decode cX13_two 154 = .ok (.invokevirtual 977, 3) := by decide +kernel
theorem dX13_two_157 : decode cX13_two 157 = .ok (.return_, 1) := by decide +kernel
theorem dX13_two_16 : decode cX13_two 16 = .ok (.sipush 9766, 3) := by decide +kernel
theorem dX13_two_19 : decode cX13_two 19 = .ok (.if_icmp .eq 10, 3) := by decide +kernel
theorem dX13_two_22 : decode cX13_two 22 = .ok (.iload_n 2, 1) := by decide +kernel
theorem dX13_two_23 : decode cX13_two 23 = .ok (.sipush 31868, 3) := by decide +kernel
theorem dX13_two_26 : decode cX13_two 26 = .ok (.if_icmp .ne 109, 3) := by decide +kernel
theorem dX13_two_29 : decode cX13_two 29 = .ok (.aload_n 0, 1) := by decide +kernel
theorem dX13_two_30 : decode cX13_two 30 = .ok (.invokevirtual 941, 3) := by decide +kernel
theorem dX13_two_33 : decode cX13_two 33 = .ok (.istore 4, 2) := by decide +kernel
theorem dX13_two_35 : decode cX13_two 35 = .ok (.aload_n 0, 1) := by decide +kernel
theorem dX13_two_36 : decode cX13_two 36 = .ok (.getfield 182, 3) := by decide +kernel
theorem dX13_two_39 : decode cX13_two 39 = .ok (.iload 4, 2) := by decide +kernel
theorem dX13_two_4 : decode cX13_two 4 = .ok (.iload_n 1, 1) := by decide +kernel
theorem dX13_two_41 : decode cX13_two 41 = .ok (.laload, 1) := by decide +kernel
theorem dX13_two_42 : decode cX13_two 42 = .ok (.lconst 1, 1) := by decide +kernel
theorem dX13_two_43 : decode cX13_two 43 = .ok (.lcmp, 1) := by decide +kernel
theorem dX13_two_44 : decode cX13_two 44 = .ok (.ifCond .eq 9, 3) := by decide +kernel
theorem dX13_two_47 : decode cX13_two 47 = .ok (.aload_n 0, 1) := by decide +kernel
theorem dX13_two_48 : decode cX13_two 48 = .ok (.iconst 1, 1) := by decide +kernel
theorem dX13_two_49 : decode cX13_two 49 = .ok (.invokevirtual 866, 3) := by decide +kernel
theorem dX13_two_5 : decode cX13_two 5 = .ok (.laload, 1) := by decide +kernel
theorem dX13_two_52 : decode cX13_two 52 = .ok (.return_, 1) := by decide +kernel
theorem dX13_two_53 : decode cX13_two 53 = .ok (.aload_n 0, 1) := by decide +kernel
theorem dX13_two_54 : decode cX13_two 54 = .ok (.getfield 182, 3) := by decide +kernel
theorem dX13_two_57 : decode cX13_two 57 = .ok (.iload 4, 2) := by decide +kernel
theorem dX13_two_59 : decode cX13_two 59 = .ok (.iconst 1, 1) := by decide +kernel
theorem dX13_two_6 : decode cX13_two 6 = .ok (.l2i, 1) := by decide +kernel
theorem dX13_two_60 : decode cX13_two 60 = .ok (.iadd, 1) := by decide +kernel
theorem dX13_two_61 : decode cX13_two 61 = .ok (.laload, 1) := by decide +kernel
theorem dX13_two_62 : decode cX13_two 62 = .ok (.lconst 1, 1) := by decide +kernel
theorem dX13_two_63 : decode cX13_two 63 = .ok (.lcmp, 1) := by decide +kernel
theorem dX13_two_64 : decode cX13_two 64 = .ok (.ifCond .ne 7, 3) := by decide +kernel
theorem dX13_two_67 : decode cX13_two 67 = .ok (.iconst 1, 1) := by decide +kernel
theorem dX13_two_68 : decode cX13_two 68 = .ok (.goto 4, 3) := by decide +kernel
theorem dX13_two_7 : decode cX13_two 7 = .ok (.istore_n 2, 1) := by decide +kernel
theorem dX13_two_71 : decode cX13_two 71 = .ok (.iconst 0, 1) := by decide +kernel
theorem dX13_two_72 : decode cX13_two 72 = .ok (.iload_n 2, 1) := by decide +kernel
theorem dX13_two_73 : decode cX13_two 73 = .ok (.sipush 31868, 3) := by decide +kernel
theorem dX13_two_76 : decode cX13_two 76 = .ok (.if_icmp .ne 7, 3) := by decide +kernel
theorem dX13_two_79 : decode cX13_two 79 = .ok (.iconst 1, 1) := by decide +kernel
theorem dX13_two_8 : decode cX13_two 8 = .ok (.aload_n 0, 1) := by decide +kernel
theorem dX13_two_80 : decode cX13_two 80 = .ok (.goto 4, 3) := by decide +kernel
theorem dX13_two_83 : decode cX13_two 83 = .ok (.iconst 0, 1) := by decide +kernel
theorem dX13_two_84 : decode cX13_two 84 = .ok (.if_icmp .ne 4, 3) := by decide +kernel
theorem dX13_two_87 : decode cX13_two 87 = .ok (.return_, 1) := by decide +kernel
theorem dX13_two_88 : decode cX13_two 88 = .ok (.aload_n 0, 1) := by decide +kernel
theorem dX13_two_89 : decode cX13_two 89 = .ok (.dup, 1) := by decide +kernel
theorem dX13_two_9 : decode cX13_two 9 = .ok (.getfield 39, 3) := by decide +kernel
theorem dX13_two_90 : decode cX13_two 90 = .ok (.getfield 858, 3) := by decide +kernel
theorem dX13_two_93 : decode cX13_two 93 = .ok (.iconst 1, 1) := by decide +kernel
theorem dX13_two_94 : decode cX13_two 94 = .ok (.isub, 1) := by decide +kernel
theorem dX13_two_95 : decode cX13_two 95 = .ok (.putfield 858, 3) := by decide +kernel
theorem dX13_two_98 : decode cX13_two 98 = .ok (.aload_n 0, 1) := by decide +kernel
theorem dX13_two_99 : decode cX13_two 99 = .ok (.aload_n 0, 1) := by decide +kernel
theorem dX13_workMore_0 : decode cX13_workMore 0 = .ok (.aload_n 0, 1) := by decide +kernel
theorem dX13_workMore_1 : decode cX13_workMore 1 = .ok (.getfield 26, 3) := by decide +kernel
theorem dX13_workMore_10 : decode cX13_workMore 10 = .ok (.if_icmp .ne 71, 3) := by decide +kernel
theorem dX13_workMore_100 : decode cX13_workMore 100 = .ok (.bipush 61, 2) := by decide +kernel
theorem dX13_workMore_102 : decode cX13_workMore 102 = .ok (.if_icmp .ne 11, 3) := by decide +kernel
theorem dX13_workMore_105 : decode cX13_workMore 105 = .ok (.aload_n 0, 1) := by decide +kernel
theorem dX13_workMore_106 : decode cX13_workMore 106 = .ok (.iload_n 1, 1) := by decide +kernel
theorem dX13_workMore_107 : decode cX13_workMore 107 = .ok (.invokestatic 938, 3) := by decide +kernel
theorem dX13_workMore_110 : decode cX13_workMore 110 = .ok (.goto 9, 3) := by decide +kernel
theorem dX13_workMore_113 : decode cX13_workMore 113 = .ok (.aload_n 0, 1) := by decide +kernel
theorem dX13_workMore_114 : decode cX13_workMore 114 = .ok (.iload_n 1, 1) := by decide +kernel
theorem dX13_workMore_115 : decode cX13_workMore 115 = .ok (.iload_n 2, 1) := by decide +kernel
theorem dX13_workMore_116 : decode cX13_workMore 116 = .ok (.invokevirtual 903, 3) := by decide +kernel
theorem dX13_workMore_119 : decode cX13_workMore 119 = .ok (.return_, 1) := by decide +kernel
theorem dX13_workMore_13 : decode cX13_workMore 13 = .ok (.aload_n 0, 1) := by decide +kernel
theorem dX13_workMore_14 : decode cX13_workMore 14 = .ok (.getfield 273, 3) := by decide +kernel
theorem dX13_workMore_17 : decode cX13_workMore 17 = .ok (.aload_n 0, 1) := by decide +kernel
theorem dX13_workMore_18 : decode cX13_workMore 18 = .ok (.getfield 917, 3) := by decide +kernel
theorem dX13_workMore_21 : decode cX13_workMore 21 = .ok (.iaload, 1) := by decide +kernel
theorem dX13_workMore_22 : decode cX13_workMore 22 = .ok (.istore_n 3, 1) := by decide +kernel
theorem dX13_workMore_23 : decode cX13_workMore 23 = .ok (.aload_n 0, 1) := by decide +kernel
theorem dX13_workMore_24 : decode cX13_workMore 24 = .ok (.aload_n 0, 1) := by decide +kernel
theorem dX13_workMore_25 : decode cX13_workMore 25 = .ok (.getfield 81, 3) := by decide +kernel
theorem dX13_workMore_28 : decode cX13_workMore 28 = .ok (.iconst 4, 1) := by decide +kernel
theorem dX13_workMore_29 : decode cX13_workMore 29 = .ok (.iload_n 3, 1) := by decide +kernel
theorem dX13_workMore_30 : decode cX13_workMore 30 = .ok (.imul, 1) := by decide +kernel
theorem dX13_workMore_31 : decode cX13_workMore 31 = .ok (.aload_n 0, 1) := by decide +kernel
theorem dX13_workMore_32 : decode cX13_workMore 32 = .ok (.getfield 84, 3) := by decide +kernel
theorem dX13_workMore_35 : decode cX13_workMore 35 = .ok (.iload_n 3, 1) := by decide +kernel
theorem dX13_workMore_36 : decode cX13_workMore 36 = .ok (.iaload, 1) := by decide +kernel
theorem dX13_workMore_37 : decode cX13_workMore 37 = .ok (.aload_n 0, 1) := by decide +kernel
theorem dX13_workMore_38 : decode cX13_workMore 38 = .ok (.getfield 32, 3) := by decide +kernel
theorem dX13_workMore_4 : decode cX13_workMore 4 = .ok (.iload_n 1, 1) := by decide +kernel
theorem dX13_workMore_41 : decode cX13_workMore 41 = .ok (.iload_n 1, 1) := by decide +kernel
theorem dX13_workMore_42 : decode cX13_workMore 42 = .ok (.laload, 1) := by decide +kernel
theorem dX13_workMore_43 : decode cX13_workMore 43 = .ok (.l2i, 1) := by decide +kernel
theorem dX13_workMore_44 : decode cX13_workMore 44 = .ok (.invokevirtual 788, 3) := by decide +kernel
theorem dX13_workMore_47 : decode cX13_workMore 47 = .ok (.istore 4, 2) := by decide +kernel
theorem dX13_workMore_49 : decode cX13_workMore 49 = .ok (.aload_n 0, 1) := by decide +kernel
theorem dX13_workMore_5 : decode cX13_workMore 5 = .ok (.iaload, 1) := by decide +kernel
theorem dX13_workMore_50 : decode cX13_workMore 50 = .ok (.aload_n 0, 1) := by decide +kernel
theorem dX13_workMore_51 : decode cX13_workMore 51 = .ok (.getfield 321, 3) := by decide +kernel
theorem dX13_workMore_54 : decode cX13_workMore 54 = .ok (.iconst 4, 1) := by decide +kernel
theorem dX13_workMore_55 : decode cX13_workMore 55 = .ok (.aload_n 0, 1) := by decide +kernel
theorem dX13_workMore_56 : decode cX13_workMore 56 = .ok (.getfield 917, 3) := by decide +kernel
theorem dX13_workMore_59 : decode cX13_workMore 59 = .ok (.imul, 1) := by decide +kernel
theorem dX13_workMore_6 : decode cX13_workMore 6 = .ok (.istore_n 2, 1) := by decide +kernel
theorem dX13_workMore_60 : decode cX13_workMore 60 = .ok (.iload 4, 2) := by decide +kernel
theorem dX13_workMore_62 : decode cX13_workMore 62 = .ok (.iadd, 1) := by decide +kernel
theorem dX13_workMore_63 : decode cX13_workMore 63 = .ok (.laload, 1) := by decide +kernel
theorem dX13_workMore_64 : decode cX13_workMore 64 = .ok (.aload_n 0, 1) := by decide +kernel
theorem dX13_workMore_65 : decode cX13_workMore 65 = .ok (.getfield 920, 3) := by decide +kernel
theorem dX13_workMore_68 : decode cX13_workMore 68 = .ok (.lcmp, 1) := by decide +kernel
theorem dX13_workMore_69 : decode cX13_workMore 69 = .ok (.ifCond .le 7, 3) := by decide +kernel
theorem dX13_workMore_7 : decode cX13_workMore 7 = .ok (.iload_n 2, 1) := by decide +kernel
theorem dX13_workMore_72 : decode cX13_workMore 72 = .ok (.iconst 1, 1) := by decide +kernel
theorem dX13_workMore_73 : decode cX13_workMore 73 = .ok (.goto 4, 3) := by decide +kernel
theorem dX13_workMore_76 : decode cX13_workMore 76 = .ok (.iconst 0, 1) := by decide +kernel
theorem dX13_workMore_77 : decode cX13_workMore 77 = .ok (.invokevirtual 910, 3) := by decide +kernel
theorem dX13_workMore_8 : decode cX13_workMore 8 = .ok (.bipush 63, 2) := by decide +kernel
theorem dX13_workMore_80 : decode cX13_workMore 80 = .ok (.return_, 1) := by decide +kernel
theorem dX13_workMore_81 : decode cX13_workMore 81 = .ok (.aload_n 0, 1) := by decide +kernel
theorem dX13_workMore_82 : decode cX13_workMore 82 = .ok (.aload_n 0, 1) := by decide +kernel
theorem dX13_workMore_83 : decode cX13_workMore 83 = .ok (.getfield 39, 3) := by decide +kernel
theorem dX13_workMore_86 : decode cX13_workMore 86 = .ok (.iload_n 1, 1) := by decide +kernel
theorem dX13_workMore_87 : decode cX13_workMore 87 = .ok (.iaload, 1) := by decide +kernel
theorem dX13_workMore_88 : decode cX13_workMore 88 = .ok (.invokestatic 897, 3) := by decide +kernel
theorem dX13_workMore_91 : decode cX13_workMore 91 = .ok (.aload_n 0, 1) := by decide +kernel
theorem dX13_workMore_92 : decode cX13_workMore 92 = .ok (.getfield 842, 3) := by decide +kernel
theorem dX13_workMore_95 : decode cX13_workMore 95 = .ok (.ifCond .eq 4, 3) := by decide +kernel
theorem dX13_workMore_98 : decode cX13_workMore 98 = .ok (.return_, 1) := by decide +kernel
theorem dX13_workMore_99 : decode cX13_workMore 99 = .ok (.iload_n 2, 1) := by decide +kernel
theorem dX13_work_0 : decode cX13_work 0 = .ok (.aload_n 0, 1) := by decide +kernel
theorem dX13_work_1 : decode cX13_work 1 = .ok (.getfield 882, 3) := by decide +kernel
theorem dX13_work_12 : decode cX13_work 12 = .ok (.iload_n 3, 1) := by decide +kernel
theorem dX13_work_13 : decode cX13_work 13 = .ok (.iaload, 1) := by decide +kernel
theorem dX13_work_14 : decode cX13_work 14 = .ok (.invokevirtual 885, 3) := by decide +kernel
theorem dX13_work_17 : decode cX13_work 17 = .ok (.ifCond .eq 33, 3) := by decide +kernel
theorem dX13_work_20 : decode cX13_work 20 = .ok (.aload_n 0, 1) := by decide +kernel
theorem dX13_work_21 : decode cX13_work 21 = .ok (.getfield 188, 3) := by decide +kernel
theorem dX13_work_24 : decode cX13_work 24 = .ok (.aload_n 0, 1) := by decide +kernel
theorem dX13_work_25 : decode cX13_work 25 = .ok (.getfield 882, 3) := by decide +kernel
theorem dX13_work_28 : decode cX13_work 28 = .ok (.iload_n 3, 1) := by decide +kernel
theorem dX13_work_29 : decode cX13_work 29 = .ok (.iastore, 1) := by decide +kernel
theorem dX13_work_30 : decode cX13_work 30 = .ok (.aload_n 0, 1) := by decide +kernel
theorem dX13_work_31 : decode cX13_work 31 = .ok (.dup, 1) := by decide +kernel
theorem dX13_work_32 : decode cX13_work 32 = .ok (.getfield 882, 3) := by decide +kernel
theorem dX13_work_35 : decode cX13_work 35 = .ok (.iconst 1, 1) := by decide +kernel
theorem dX13_work_36 : decode cX13_work 36 = .ok (.iadd, 1) := by decide +kernel
theorem dX13_work_37 : decode cX13_work 37 = .ok (.putfield 882, 3) := by decide +kernel
theorem dX13_work_4 : decode cX13_work 4 = .ok (.istore_n 2, 1) := by decide +kernel
theorem dX13_work_40 : decode cX13_work 40 = .ok (.aload_n 0, 1) := by decide +kernel
theorem dX13_work_41 : decode cX13_work 41 = .ok (.getfield 39, 3) := by decide +kernel
theorem dX13_work_44 : decode cX13_work 44 = .ok (.iload_n 3, 1) := by decide +kernel
theorem dX13_work_45 : decode cX13_work 45 = .ok (.iaload, 1) := by decide +kernel
theorem dX13_work_46 : decode cX13_work 46 = .ok (.istore_n 3, 1) := by decide +kernel
theorem dX13_work_47 : decode cX13_work 47 = .ok (.goto (-40), 3) := by decide +kernel
theorem dX13_work_5 : decode cX13_work 5 = .ok (.iload_n 1, 1) := by decide +kernel
theorem dX13_work_50 : decode cX13_work 50 = .ok (.aload_n 0, 1) := by decide +kernel
theorem dX13_work_51 : decode cX13_work 51 = .ok (.iload_n 3, 1) := by decide +kernel
theorem dX13_work_52 : decode cX13_work 52 = .ok (.invokestatic 888, 3) := by decide +kernel
theorem dX13_work_55 : decode cX13_work 55 = .ok (.aload_n 0, 1) := by decide +kernel
theorem dX13_work_56 : decode cX13_work 56 = .ok (.getfield 882, 3) := by decide +kernel
theorem dX13_work_59 : decode cX13_work 59 = .ok (.iload_n 2, 1) := by decide +kernel
theorem dX13_work_6 : decode cX13_work 6 = .ok (.istore_n 3, 1) := by decide +kernel
theorem dX13_work_60 : decode cX13_work 60 = .ok (.if_icmp .le 36, 3) := by decide +kernel
theorem dX13_work_63 : decode cX13_work 63 = .ok (.aload_n 0, 1) := by decide +kernel
theorem dX13_work_64 : decode cX13_work 64 = .ok (.dup, 1) := by decide +kernel
theorem dX13_work_65 : decode cX13_work 65 = .ok (.getfield 882, 3) := by decide +kernel
theorem dX13_work_68 : decode cX13_work 68 = .ok (.iconst 1, 1) := by decide +kernel
theorem dX13_work_69 : decode cX13_work 69 = .ok (.isub, 1) := by decide +kernel
theorem dX13_work_7 : decode cX13_work 7 = .ok (.aload_n 0, 1) := by decide +kernel
theorem dX13_work_70 : decode cX13_work 70 = .ok (.putfield 882, 3) := by decide +kernel
theorem dX13_work_73 : decode cX13_work 73 = .ok (.aload_n 0, 1) := by decide +kernel
theorem dX13_work_74 : decode cX13_work 74 = .ok (.getfield 842, 3) := by decide +kernel
theorem dX13_work_77 : decode cX13_work 77 = .ok (.ifCond .ne (-22), 3) := by decide +kernel
theorem dX13_work_8 : decode cX13_work 8 = .ok (.aload_n 0, 1) := by decide +kernel
theorem dX13_work_80 : decode cX13_work 80 = .ok (.aload_n 0, 1) := by decide +kernel
theorem dX13_work_81 : decode cX13_work 81 = .ok (.aload_n 0, 1) := by decide +kernel
theorem dX13_work_82 : decode cX13_work 82 = .ok (.getfield 188, 3) := by decide +kernel
theorem dX13_work_85 : decode cX13_work 85 = .ok (.aload_n 0, 1) := by decide +kernel
theorem dX13_work_86 : decode cX13_work 86 = .ok (.getfield 882, 3) := by decide +kernel
theorem dX13_work_89 : decode cX13_work 89 = .ok (.iaload, 1) := by decide +kernel
theorem dX13_work_9 : decode cX13_work 9 = .ok (.getfield 26, 3) := by decide +kernel
theorem dX13_work_90 : decode cX13_work 90 = .ok (.invokestatic 891, 3) := by decide +kernel
theorem dX13_work_93 : decode cX13_work 93 = .ok (.goto (-38), 3) := by decide +kernel
theorem dX13_work_96 : decode cX13_work 96 = .ok (.return_, 1) := by decide +kernel
abbrev RT_X13_behindFirst : Type := (Int32 → t_S → Option (t_S)) × (Int32 → t_S → Option (t_S)) × (Int32 → Int32 → t_S → Option (Int32 × t_S)) × (Int32 → t_S → Option (t_S)) × (Int32 → t_S → Option (t_S)) × (Int32 → t_S → Option (t_S)) × (Int32 → t_S → Option (t_S)) × (Int32 → t_S → Option (t_S)) × (Int32 → t_S → Option (t_S))
def RH_X13_behindFirst (rc : RT_X13_behindFirst) (k : Nat) : Prop := (∀ (x2 : Int32) (s : t_S) (r : t_S), rc.1 x2 s = some r → t_C yX13_behindFirst cX13_behindFirst 3 none (783 + k) [.ref 950, .int x2] s (fun v s' => v = none ∧ s' = r)) ∧ (∀ (x2 : Int32) (s : t_S) (r : t_S), rc.2.1 x2 s = some r → t_C yX13_leaf cX13_leaf 3 none (783 + k) [.ref 950, .int x2] s (fun v s' => v = none ∧ s' = r)) ∧ (∀ (x2 : Int32) (x3 : Int32) (s : t_S) (r : Int32 × t_S), rc.2.2.1 x2 x3 s = some r → t_C yX13_matchAll cX13_matchAll 3 (some .boolean) (783 + k) [.ref 950, .int x2, .int x3] s (fun v s' => v = some (.int r.1) ∧ s' = r.2)) ∧ (∀ (x2 : Int32) (s : t_S) (r : t_S), rc.2.2.2.1 x2 s = some r → t_C yX13_met cX13_met 5 none (783 + k) [.ref 950, .int x2] s (fun v s' => v = none ∧ s' = r)) ∧ (∀ (x2 : Int32) (s : t_S) (r : t_S), rc.2.2.2.2.1 x2 s = some r → t_C yX13_prepare cX13_prepare 6 none (783 + k) [.ref 950, .int x2] s (fun v s' => v = none ∧ s' = r)) ∧ (∀ (x2 : Int32) (s : t_S) (r : t_S), rc.2.2.2.2.2.1 x2 s = some r → t_C yX13_rowOf cX13_rowOf 7 none (783 + k) [.ref 950, .int x2] s (fun v s' => v = none ∧ s' = r)) ∧ (∀ (x2 : Int32) (s : t_S) (r : t_S), rc.2.2.2.2.2.2.1 x2 s = some r → t_C yX13_two cX13_two 5 none (783 + k) [.ref 950, .int x2] s (fun v s' => v = none ∧ s' = r)) ∧ (∀ (x2 : Int32) (s : t_S) (r : t_S), rc.2.2.2.2.2.2.2.1 x2 s = some r → t_C yX13_work cX13_work 4 none (783 + k) [.ref 950, .int x2] s (fun v s' => v = none ∧ s' = r)) ∧ (∀ (x2 : Int32) (s : t_S) (r : t_S), rc.2.2.2.2.2.2.2.2 x2 s = some r → t_C yX13_workMore cX13_workMore 5 none (783 + k) [.ref 950, .int x2] s (fun v s' => v = none ∧ s' = r))
noncomputable def m_X13_behindFirst (rc : RT_X13_behindFirst) (x2 : Int32) (s : t_S) : Option (t_S) :=
 if t_ix x2 13000 = true then
  if (s.1 955 (x2.toNatClampNeg)) = (70 : Int32) then ((rc.2.2.2.2.2.2.1 x2 s).bind (fun r6 =>
 some (r6)))
 else (if (s.1 955 (x2.toNatClampNeg)) = (69 : Int32) then (if t_ix (s.1 959 (x2.toNatClampNeg)) 13000 = true then
  (rc.2.2.2.2.2.2.2.1 (s.1 960 ((s.1 959 (x2.toNatClampNeg)).toNatClampNeg)) s).bind (fun r4 =>
 if (r4.1 950 97) = (0 : Int32) then ((f_X13_element r4).bind (fun r5 =>
 some (r5)))
 else (some (r4)))
else none)
 else (if (s.1 955 (x2.toNatClampNeg)) = (72 : Int32) then (some (s))
 else ((f_X13_one x2 (s.1 955 (x2.toNatClampNeg)) s).bind (fun r2 =>
 some (r2)))))
else none
set_option maxRecDepth 4000 in
set_option maxHeartbeats 1000000 in
theorem E_X13_behindFirst (rc : RT_X13_behindFirst) {k : Nat} (H : RH_X13_behindFirst rc k) (x2 : Int32) (s : t_S) (r : t_S) (hr : m_X13_behindFirst rc x2 s = some r) : t_C yX13_behindFirst cX13_behindFirst 3 none (783 + (k + 1)) [.ref 950, .int x2] s (fun v s' => v = none ∧ s' = r) := by
  refine t_C.imp (P := fun v s' => v = none ∧ (fun q => q = r) (s')) (t_C.of (by decide +kernel) (Nat.le_of_ble_eq_true rfl) ?_) (fun v s' hp => hp)
  intro D cy ad bs X
  have hk : t_hk (m_X13_behindFirst rc x2 s) (fun q => q = r) := ⟨r, hr, rfl⟩
  show mj_G D cy ad bs X cX13_behindFirst 3 yX13_behindFirst.cls none yX13_behindFirst.name (783 + (k + 1)) 0 0 1065 (t_P (fun v s' => v = none ∧ (fun q => q = r) (s'))) 0 [(0, .ref 950), (1, .int x2)] [] (t_m s) 1065 0 0
  refine mj_aload_n dX13_behindFirst_0 0 rfl ?_
  refine t_getR 955 dX13_behindFirst_1 F_X13_26 qr_950_17 ?_
  refine mj_iload_n dX13_behindFirst_4 1 rfl ?_
  refine t_chkK hk (fun c0 hk => ?_)
  refine t_iald dX13_behindFirst_5 qa_955 (t_ixv c0) ?_
  refine mj_istore_n 2 (lv2 := [(2, .int (s.1 955 (x2.toNatClampNeg))), (0, .ref 950), (1, .int x2)]) dX13_behindFirst_6 rfl (by decide) rfl ?_
  refine mj_iload_n dX13_behindFirst_7 0 rfl ?_
  refine mj_bipush (v := 70) dX13_behindFirst_8 (by decide) ?_
  refine mj_icmp_ne 21 dX13_behindFirst_10 (by decide) (fun z => t_negK hk z (fun hk => ?_)) (fun z => t_posK hk z (fun hk => ?_))
  · refine mj_iload_n dX13_behindFirst_21 0 rfl ?_
    refine mj_bipush (v := 69) dX13_behindFirst_22 (by decide) ?_
    refine mj_icmp_ne 56 dX13_behindFirst_24 (by decide) (fun z => t_negK hk z (fun hk => ?_)) (fun z => t_posK hk z (fun hk => ?_))
    · refine mj_iload_n dX13_behindFirst_56 0 rfl ?_
      refine mj_bipush (v := 72) dX13_behindFirst_57 (by decide) ?_
      refine mj_icmp_eq 68 dX13_behindFirst_59 (by decide) (fun z => t_posK hk z (fun hk => ?_)) (fun z => t_negK hk z (fun hk => ?_))
      · exact t_somK hk (fun hf => t_vret dX13_behindFirst_68 rfl ⟨rfl, hf⟩ (Nat.le_of_ble_eq_true rfl) (Nat.le_of_ble_eq_true rfl))
      · refine mj_aload_n dX13_behindFirst_62 1 rfl ?_
        refine mj_iload_n dX13_behindFirst_63 2 rfl ?_
        refine mj_iload_n dX13_behindFirst_64 0 rfl ?_
        refine t_bndK hk (fun r2 er2 hk => ?_)
        refine t_callVvE dX13_behindFirst_65 M_X13_one (C_X13_one _ _ _ _ er2) ML_X13_903 IM_X13_one SE_X13_one qc_950 rfl (As := [.int x2, .int (s.1 955 (x2.toNatClampNeg))]) rfl rfl (by omega) (Nat.le_of_ble_eq_true rfl) (Nat.le_of_ble_eq_true rfl) (Nat.le_of_ble_eq_true rfl) ?_
        exact t_somK hk (fun hf => t_vret dX13_behindFirst_68 rfl ⟨rfl, hf⟩ (Nat.le_of_ble_eq_true rfl) (Nat.le_of_ble_eq_true rfl))
    · refine mj_aload_n dX13_behindFirst_27 1 rfl ?_
      refine mj_aload_n dX13_behindFirst_28 1 rfl ?_
      refine t_getR 960 dX13_behindFirst_29 F_X13_42 qr_950_22 ?_
      refine mj_aload_n dX13_behindFirst_32 1 rfl ?_
      refine t_getR 959 dX13_behindFirst_33 F_X13_39 qr_950_21 ?_
      refine mj_iload_n dX13_behindFirst_36 2 rfl ?_
      refine t_iald dX13_behindFirst_37 qa_959 (t_ixv c0) ?_
      refine t_chkK hk (fun c2 hk => ?_)
      refine t_iald dX13_behindFirst_38 qa_960 (t_ixv c2) ?_
      refine t_bndK hk (fun r4 er4 hk => ?_)
      refine t_callSvE dX13_behindFirst_39 M_X13_work (H.2.2.2.2.2.2.2.1 _ _ _ er4) ML_X13_897 SM_X13_work (As := [.ref 950, .int (s.1 960 ((s.1 959 (x2.toNatClampNeg)).toNatClampNeg))]) rfl rfl (by omega) (Nat.le_of_ble_eq_true rfl) (Nat.le_of_ble_eq_true rfl) (Nat.le_of_ble_eq_true rfl) ?_
      refine mj_aload_n dX13_behindFirst_42 1 rfl ?_
      refine t_getI dX13_behindFirst_43 F_X13_842 qf_950_97 ?_
      refine mj_if_ne 68 dX13_behindFirst_46 (by decide) (fun z => t_negK hk z (fun hk => ?_)) (fun z => t_posK hk z (fun hk => ?_))
      · exact t_somK hk (fun hf => t_vret dX13_behindFirst_68 rfl ⟨rfl, hf⟩ (Nat.le_of_ble_eq_true rfl) (Nat.le_of_ble_eq_true rfl))
      · refine mj_aload_n dX13_behindFirst_49 1 rfl ?_
        refine t_bndK hk (fun r5 er5 hk => ?_)
        refine t_callVvE dX13_behindFirst_50 M_X13_element (C_X13_element _ _ er5) ML_X13_900 IM_X13_element SE_X13_element qc_950 rfl (As := []) rfl rfl (by omega) (Nat.le_of_ble_eq_true rfl) (Nat.le_of_ble_eq_true rfl) (Nat.le_of_ble_eq_true rfl) ?_
        refine mj_goto 68 dX13_behindFirst_53 (by decide) ?_
        exact t_somK hk (fun hf => t_vret dX13_behindFirst_68 rfl ⟨rfl, hf⟩ (Nat.le_of_ble_eq_true rfl) (Nat.le_of_ble_eq_true rfl))
  · refine mj_aload_n dX13_behindFirst_13 1 rfl ?_
    refine mj_iload_n dX13_behindFirst_14 2 rfl ?_
    refine t_bndK hk (fun r6 er6 hk => ?_)
    refine t_callSvE dX13_behindFirst_15 M_X13_two (H.2.2.2.2.2.2.1 _ _ _ er6) ML_X13_894 SM_X13_two (As := [.ref 950, .int x2]) rfl rfl (by omega) (Nat.le_of_ble_eq_true rfl) (Nat.le_of_ble_eq_true rfl) (Nat.le_of_ble_eq_true rfl) ?_
    refine mj_goto 68 dX13_behindFirst_18 (by decide) ?_
    exact t_somK hk (fun hf => t_vret dX13_behindFirst_68 rfl ⟨rfl, hf⟩ (Nat.le_of_ble_eq_true rfl) (Nat.le_of_ble_eq_true rfl))
noncomputable def k_X13_leaf_100 (rc : RT_X13_behindFirst) (k0 : Int32) (s : t_S) : Option (t_S) :=
 (f_X13_pushTruth k0 s).bind (fun r1 =>
 some (r1))
set_option maxRecDepth 4000 in
set_option maxHeartbeats 1000000 in
theorem B_X13_leaf_100 {D : va_G} {cy : Nat → ClassId} {ad : Nat → Nat} {bs : Nat} {X : State → Heap → Prop} (rc : RT_X13_behindFirst) {k : Nat} (H : RH_X13_behindFirst rc k) (k0 : Int32) (s : t_S) (Q : t_S → Prop) (hk : t_hk (k_X13_leaf_100 rc k0 s) Q) : mj_G D cy ad bs X cX13_leaf 3 yX13_leaf.cls none yX13_leaf.name (783 + (k + 1)) 0 0 1065 (t_P (fun v s' => v = none ∧ Q (s'))) 100 [] [.int k0, .ref 950] (t_m s) 1065 0 0 := by
  refine t_bndK hk (fun r1 er1 hk => ?_)
  refine t_callVvE dX13_leaf_100 M_X13_pushTruth (C_X13_pushTruth _ _ _ er1) ML_X13_910 IM_X13_pushTruth SE_X13_pushTruth qc_950 rfl (As := [.int k0]) rfl rfl (by omega) (Nat.le_of_ble_eq_true rfl) (Nat.le_of_ble_eq_true rfl) (Nat.le_of_ble_eq_true rfl) ?_
  exact t_somK hk (fun hf => t_vret dX13_leaf_103 rfl ⟨rfl, hf⟩ (Nat.le_of_ble_eq_true rfl) (Nat.le_of_ble_eq_true rfl))
noncomputable def k_X13_leaf_127 (rc : RT_X13_behindFirst) (k0 : Int32) (s : t_S) : Option (t_S) :=
 (f_X13_push k0 ((s.1 950 100).toInt64) s).bind (fun r1 =>
 some (r1.2))
set_option maxRecDepth 4000 in
set_option maxHeartbeats 1000000 in
theorem B_X13_leaf_127 {D : va_G} {cy : Nat → ClassId} {ad : Nat → Nat} {bs : Nat} {X : State → Heap → Prop} (rc : RT_X13_behindFirst) {k : Nat} (H : RH_X13_behindFirst rc k) (k0 : Int32) (s : t_S) (Q : t_S → Prop) (hk : t_hk (k_X13_leaf_127 rc k0 s) Q) : mj_G D cy ad bs X cX13_leaf 3 yX13_leaf.cls none yX13_leaf.name (783 + (k + 1)) 0 0 1065 (t_P (fun v s' => v = none ∧ Q (s'))) 127 [(0, .ref 950)] [.int k0, .ref 950] (t_m s) 1065 0 0 := by
  refine mj_aload_n dX13_leaf_127 0 rfl ?_
  refine t_getI dX13_leaf_128 F_X13_917 qf_950_100 ?_
  refine mj_i2l (v := (s.1 950 100).toInt64) dX13_leaf_131 rfl ?_
  refine t_bndK hk (fun r1 er1 hk => ?_)
  refine t_callViE dX13_leaf_132 M_X13_push (C_X13_push _ _ _ _ er1) ML_X13_869 IM_X13_push SE_X13_push qc_950 rfl (As := [.int k0, .long ((s.1 950 100).toInt64)]) rfl rfl (by omega) (Nat.le_of_ble_eq_true rfl) (Nat.le_of_ble_eq_true rfl) (Nat.le_of_ble_eq_true rfl) ?_
  refine mj_istore_n 2 (lv2 := [(2, .int r1.1), (0, .ref 950)]) dX13_leaf_135 rfl (by decide) rfl ?_
  exact t_somK hk (fun hf => t_vret dX13_leaf_136 rfl ⟨rfl, hf⟩ (Nat.le_of_ble_eq_true rfl) (Nat.le_of_ble_eq_true rfl))
noncomputable def m_X13_leaf (rc : RT_X13_behindFirst) (x2 : Int32) (s : t_S) : Option (t_S) :=
 if (s.1 950 97) = (0 : Int32) then (if t_ix x2 13000 = true then
  if (s.1 955 (x2.toNatClampNeg)).toInt < 50 ∨ 60 < (s.1 955 (x2.toNatClampNeg)).toInt then ((rc.2.2.2.2.2.2.2.2 x2 s).bind (fun r2 =>
 some (r2)))
 else if (s.1 955 (x2.toNatClampNeg)).toInt = 50 then ((f_X13_pushNumber (s.2.1 957 (x2.toNatClampNeg)) s).bind (fun r3 =>
 some (r3)))
 else if (s.1 955 (x2.toNatClampNeg)).toInt = 51 then (if (s.1 955 (x2.toNatClampNeg)) = (51 : Int32) then (k_X13_leaf_100 rc 1 s)
 else (k_X13_leaf_100 rc 0 s))
 else if (s.1 955 (x2.toNatClampNeg)).toInt = 52 then (if (s.1 955 (x2.toNatClampNeg)) = (51 : Int32) then (k_X13_leaf_100 rc 1 s)
 else (k_X13_leaf_100 rc 0 s))
 else if (s.1 955 (x2.toNatClampNeg)).toInt = 53 then ((f_X13_pushTextOf x2 s).bind (fun r4 =>
 some (r4)))
 else if (s.1 955 (x2.toNatClampNeg)).toInt = 54 then (if (s.1 955 (x2.toNatClampNeg)) = (55 : Int32) then (k_X13_leaf_127 rc 5 s)
 else (k_X13_leaf_127 rc 4 s))
 else if (s.1 955 (x2.toNatClampNeg)).toInt = 55 then (if (s.1 955 (x2.toNatClampNeg)) = (55 : Int32) then (k_X13_leaf_127 rc 5 s)
 else (k_X13_leaf_127 rc 4 s))
 else if (s.1 955 (x2.toNatClampNeg)).toInt = 56 then ((f_X13_pushNumber (s.2.1 950 148) s).bind (fun r5 =>
 some (r5)))
 else if (s.1 955 (x2.toNatClampNeg)).toInt = 57 then (if t_ix (s.1 950 100) 8 = true then
  (f_X13_pushNumber ((s.1 1037 ((s.1 950 100).toNatClampNeg)).toInt64) s).bind (fun r7 =>
 some (r7))
else none)
 else if (s.1 955 (x2.toNatClampNeg)).toInt = 58 then ((f_X13_pushWord x2 s).bind (fun r8 =>
 some (r8)))
 else if (s.1 955 (x2.toNatClampNeg)).toInt = 59 then ((rc.2.2.2.2.2.1 x2 s).bind (fun r9 =>
 some (r9)))
 else ((rc.2.2.2.2.2.1 x2 s).bind (fun r10 =>
 some (r10)))
else none)
 else (some (s))
set_option maxRecDepth 4000 in
set_option maxHeartbeats 1000000 in
theorem E_X13_leaf (rc : RT_X13_behindFirst) {k : Nat} (H : RH_X13_behindFirst rc k) (x2 : Int32) (s : t_S) (r : t_S) (hr : m_X13_leaf rc x2 s = some r) : t_C yX13_leaf cX13_leaf 3 none (783 + (k + 1)) [.ref 950, .int x2] s (fun v s' => v = none ∧ s' = r) := by
  refine t_C.imp (P := fun v s' => v = none ∧ (fun q => q = r) (s')) (t_C.of (by decide +kernel) (Nat.le_of_ble_eq_true rfl) ?_) (fun v s' hp => hp)
  intro D cy ad bs X
  have hk : t_hk (m_X13_leaf rc x2 s) (fun q => q = r) := ⟨r, hr, rfl⟩
  show mj_G D cy ad bs X cX13_leaf 3 yX13_leaf.cls none yX13_leaf.name (783 + (k + 1)) 0 0 1065 (t_P (fun v s' => v = none ∧ (fun q => q = r) (s'))) 0 [(0, .ref 950), (1, .int x2)] [] (t_m s) 1065 0 0
  refine mj_aload_n dX13_leaf_0 0 rfl ?_
  refine t_getI dX13_leaf_1 F_X13_842 qf_950_97 ?_
  refine mj_if_eq 8 dX13_leaf_4 (by decide) (fun z => t_posK hk z (fun hk => ?_)) (fun z => t_negK hk z (fun hk => ?_))
  · refine mj_aload_n dX13_leaf_8 0 rfl ?_
    refine t_getR 955 dX13_leaf_9 F_X13_26 qr_950_17 ?_
    refine mj_iload_n dX13_leaf_12 1 rfl ?_
    refine t_chkK hk (fun c0 hk => ?_)
    refine t_iald dX13_leaf_13 qa_955 (t_ixv c0) ?_
    by_cases hout : (s.1 955 (x2.toNatClampNeg)).toInt < 50 ∨ 60 < (s.1 955 (x2.toNatClampNeg)).toInt
    · replace hk := t_pos hk hout
      refine mj_tableOut 173 dX13_leaf_14 hout (by decide) ?_
      refine mj_aload_n dX13_leaf_173 0 rfl ?_
      refine mj_iload_n dX13_leaf_174 1 rfl ?_
      refine t_bndK hk (fun r2 er2 hk => ?_)
      refine t_callSvE dX13_leaf_175 M_X13_workMore (H.2.2.2.2.2.2.2.2 _ _ _ er2) ML_X13_929 SM_X13_workMore (As := [.ref 950, .int x2]) rfl rfl (by omega) (Nat.le_of_ble_eq_true rfl) (Nat.le_of_ble_eq_true rfl) (Nat.le_of_ble_eq_true rfl) ?_
      exact t_somK hk (fun hf => t_vret dX13_leaf_178 rfl ⟨rfl, hf⟩ (Nat.le_of_ble_eq_true rfl) (Nat.le_of_ble_eq_true rfl))
    · replace hk := t_neg hk hout
      have hh1 : ¬ (s.1 955 (x2.toNatClampNeg)).toInt < 50 := fun z => hout (Or.inl z)
      have hh2 : ¬ (60 : Int) < (s.1 955 (x2.toNatClampNeg)).toInt := fun z => hout (Or.inr z)
      by_cases h0 : (s.1 955 (x2.toNatClampNeg)).toInt = 50
      · replace hk := t_pos hk h0
        refine mj_tableIn 72 dX13_leaf_14 hh1 hh2 (by rw [h0]; rfl) (by decide) ?_
        refine mj_aload_n dX13_leaf_72 0 rfl ?_
        refine mj_aload_n dX13_leaf_73 0 rfl ?_
        refine t_getR 957 dX13_leaf_74 F_X13_32 qr_950_19 ?_
        refine mj_iload_n dX13_leaf_77 1 rfl ?_
        refine t_lald dX13_leaf_78 qa_957 (t_ixv c0) ?_
        refine t_bndK hk (fun r3 er3 hk => ?_)
        refine t_callVvE dX13_leaf_79 M_X13_pushNumber (C_X13_pushNumber _ _ _ er3) ML_X13_906 IM_X13_pushNumber SE_X13_pushNumber qc_950 rfl (As := [.long (s.2.1 957 (x2.toNatClampNeg))]) rfl rfl (by omega) (Nat.le_of_ble_eq_true rfl) (Nat.le_of_ble_eq_true rfl) (Nat.le_of_ble_eq_true rfl) ?_
        exact t_somK hk (fun hf => t_vret dX13_leaf_82 rfl ⟨rfl, hf⟩ (Nat.le_of_ble_eq_true rfl) (Nat.le_of_ble_eq_true rfl))
      replace hk := t_neg hk h0
      by_cases h1 : (s.1 955 (x2.toNatClampNeg)).toInt = 51
      · replace hk := t_pos hk h1
        refine mj_tableIn 83 dX13_leaf_14 hh1 hh2 (by rw [h1]; rfl) (by decide) ?_
        refine mj_aload_n dX13_leaf_83 0 rfl ?_
        refine mj_aload_n dX13_leaf_84 0 rfl ?_
        refine t_getR 955 dX13_leaf_85 F_X13_26 qr_950_17 ?_
        refine mj_iload_n dX13_leaf_88 1 rfl ?_
        refine t_iald dX13_leaf_89 qa_955 (t_ixv c0) ?_
        refine mj_bipush (v := 51) dX13_leaf_90 (by decide) ?_
        refine mj_icmp_ne 99 dX13_leaf_92 (by decide) (fun z => t_negK hk z (fun hk => ?_)) (fun z => t_posK hk z (fun hk => ?_))
        · refine mj_iconst (v := 0) dX13_leaf_99 (by decide) ?_
          refine mj_sublv [] [] rfl ?_
          exact B_X13_leaf_100 rc H _ _ _ hk
        · refine mj_iconst (v := 1) dX13_leaf_95 (by decide) ?_
          refine mj_goto 100 dX13_leaf_96 (by decide) ?_
          refine mj_sublv [] [] rfl ?_
          exact B_X13_leaf_100 rc H _ _ _ hk
      replace hk := t_neg hk h1
      by_cases h2 : (s.1 955 (x2.toNatClampNeg)).toInt = 52
      · replace hk := t_pos hk h2
        refine mj_tableIn 83 dX13_leaf_14 hh1 hh2 (by rw [h2]; rfl) (by decide) ?_
        refine mj_aload_n dX13_leaf_83 0 rfl ?_
        refine mj_aload_n dX13_leaf_84 0 rfl ?_
        refine t_getR 955 dX13_leaf_85 F_X13_26 qr_950_17 ?_
        refine mj_iload_n dX13_leaf_88 1 rfl ?_
        refine t_iald dX13_leaf_89 qa_955 (t_ixv c0) ?_
        refine mj_bipush (v := 51) dX13_leaf_90 (by decide) ?_
        refine mj_icmp_ne 99 dX13_leaf_92 (by decide) (fun z => t_negK hk z (fun hk => ?_)) (fun z => t_posK hk z (fun hk => ?_))
        · refine mj_iconst (v := 0) dX13_leaf_99 (by decide) ?_
          refine mj_sublv [] [] rfl ?_
          exact B_X13_leaf_100 rc H _ _ _ hk
        · refine mj_iconst (v := 1) dX13_leaf_95 (by decide) ?_
          refine mj_goto 100 dX13_leaf_96 (by decide) ?_
          refine mj_sublv [] [] rfl ?_
          exact B_X13_leaf_100 rc H _ _ _ hk
      replace hk := t_neg hk h2
      by_cases h3 : (s.1 955 (x2.toNatClampNeg)).toInt = 53
      · replace hk := t_pos hk h3
        refine mj_tableIn 104 dX13_leaf_14 hh1 hh2 (by rw [h3]; rfl) (by decide) ?_
        refine mj_aload_n dX13_leaf_104 0 rfl ?_
        refine mj_iload_n dX13_leaf_105 1 rfl ?_
        refine t_bndK hk (fun r4 er4 hk => ?_)
        refine t_callVvE dX13_leaf_106 M_X13_pushTextOf (C_X13_pushTextOf _ _ _ er4) ML_X13_914 IM_X13_pushTextOf SE_X13_pushTextOf qc_950 rfl (As := [.int x2]) rfl rfl (by omega) (Nat.le_of_ble_eq_true rfl) (Nat.le_of_ble_eq_true rfl) (Nat.le_of_ble_eq_true rfl) ?_
        exact t_somK hk (fun hf => t_vret dX13_leaf_109 rfl ⟨rfl, hf⟩ (Nat.le_of_ble_eq_true rfl) (Nat.le_of_ble_eq_true rfl))
      replace hk := t_neg hk h3
      by_cases h4 : (s.1 955 (x2.toNatClampNeg)).toInt = 54
      · replace hk := t_pos hk h4
        refine mj_tableIn 110 dX13_leaf_14 hh1 hh2 (by rw [h4]; rfl) (by decide) ?_
        refine mj_aload_n dX13_leaf_110 0 rfl ?_
        refine mj_aload_n dX13_leaf_111 0 rfl ?_
        refine t_getR 955 dX13_leaf_112 F_X13_26 qr_950_17 ?_
        refine mj_iload_n dX13_leaf_115 1 rfl ?_
        refine t_iald dX13_leaf_116 qa_955 (t_ixv c0) ?_
        refine mj_bipush (v := 55) dX13_leaf_117 (by decide) ?_
        refine mj_icmp_ne 126 dX13_leaf_119 (by decide) (fun z => t_negK hk z (fun hk => ?_)) (fun z => t_posK hk z (fun hk => ?_))
        · refine mj_iconst (v := 4) dX13_leaf_126 (by decide) ?_
          refine mj_sublv [(0, .ref 950)] [0] rfl ?_
          exact B_X13_leaf_127 rc H _ _ _ hk
        · refine mj_iconst (v := 5) dX13_leaf_122 (by decide) ?_
          refine mj_goto 127 dX13_leaf_123 (by decide) ?_
          refine mj_sublv [(0, .ref 950)] [0] rfl ?_
          exact B_X13_leaf_127 rc H _ _ _ hk
      replace hk := t_neg hk h4
      by_cases h5 : (s.1 955 (x2.toNatClampNeg)).toInt = 55
      · replace hk := t_pos hk h5
        refine mj_tableIn 110 dX13_leaf_14 hh1 hh2 (by rw [h5]; rfl) (by decide) ?_
        refine mj_aload_n dX13_leaf_110 0 rfl ?_
        refine mj_aload_n dX13_leaf_111 0 rfl ?_
        refine t_getR 955 dX13_leaf_112 F_X13_26 qr_950_17 ?_
        refine mj_iload_n dX13_leaf_115 1 rfl ?_
        refine t_iald dX13_leaf_116 qa_955 (t_ixv c0) ?_
        refine mj_bipush (v := 55) dX13_leaf_117 (by decide) ?_
        refine mj_icmp_ne 126 dX13_leaf_119 (by decide) (fun z => t_negK hk z (fun hk => ?_)) (fun z => t_posK hk z (fun hk => ?_))
        · refine mj_iconst (v := 4) dX13_leaf_126 (by decide) ?_
          refine mj_sublv [(0, .ref 950)] [0] rfl ?_
          exact B_X13_leaf_127 rc H _ _ _ hk
        · refine mj_iconst (v := 5) dX13_leaf_122 (by decide) ?_
          refine mj_goto 127 dX13_leaf_123 (by decide) ?_
          refine mj_sublv [(0, .ref 950)] [0] rfl ?_
          exact B_X13_leaf_127 rc H _ _ _ hk
      replace hk := t_neg hk h5
      by_cases h6 : (s.1 955 (x2.toNatClampNeg)).toInt = 56
      · replace hk := t_pos hk h6
        refine mj_tableIn 137 dX13_leaf_14 hh1 hh2 (by rw [h6]; rfl) (by decide) ?_
        refine mj_aload_n dX13_leaf_137 0 rfl ?_
        refine mj_aload_n dX13_leaf_138 0 rfl ?_
        refine t_getJ dX13_leaf_139 F_X13_920 qf_950_148 ?_
        refine t_bndK hk (fun r5 er5 hk => ?_)
        refine t_callVvE dX13_leaf_142 M_X13_pushNumber (C_X13_pushNumber _ _ _ er5) ML_X13_906 IM_X13_pushNumber SE_X13_pushNumber qc_950 rfl (As := [.long (s.2.1 950 148)]) rfl rfl (by omega) (Nat.le_of_ble_eq_true rfl) (Nat.le_of_ble_eq_true rfl) (Nat.le_of_ble_eq_true rfl) ?_
        exact t_somK hk (fun hf => t_vret dX13_leaf_145 rfl ⟨rfl, hf⟩ (Nat.le_of_ble_eq_true rfl) (Nat.le_of_ble_eq_true rfl))
      replace hk := t_neg hk h6
      by_cases h7 : (s.1 955 (x2.toNatClampNeg)).toInt = 57
      · replace hk := t_pos hk h7
        refine mj_tableIn 146 dX13_leaf_14 hh1 hh2 (by rw [h7]; rfl) (by decide) ?_
        refine mj_aload_n dX13_leaf_146 0 rfl ?_
        refine mj_aload_n dX13_leaf_147 0 rfl ?_
        refine t_getR 1037 dX13_leaf_148 F_X13_279 qr_950_152 ?_
        refine mj_aload_n dX13_leaf_151 0 rfl ?_
        refine t_getI dX13_leaf_152 F_X13_917 qf_950_100 ?_
        refine t_chkK hk (fun c5 hk => ?_)
        refine t_iald dX13_leaf_155 qa_1037 (t_ixv c5) ?_
        refine mj_i2l (v := (s.1 1037 ((s.1 950 100).toNatClampNeg)).toInt64) dX13_leaf_156 rfl ?_
        refine t_bndK hk (fun r7 er7 hk => ?_)
        refine t_callVvE dX13_leaf_157 M_X13_pushNumber (C_X13_pushNumber _ _ _ er7) ML_X13_906 IM_X13_pushNumber SE_X13_pushNumber qc_950 rfl (As := [.long ((s.1 1037 ((s.1 950 100).toNatClampNeg)).toInt64)]) rfl rfl (by omega) (Nat.le_of_ble_eq_true rfl) (Nat.le_of_ble_eq_true rfl) (Nat.le_of_ble_eq_true rfl) ?_
        exact t_somK hk (fun hf => t_vret dX13_leaf_160 rfl ⟨rfl, hf⟩ (Nat.le_of_ble_eq_true rfl) (Nat.le_of_ble_eq_true rfl))
      replace hk := t_neg hk h7
      by_cases h8 : (s.1 955 (x2.toNatClampNeg)).toInt = 58
      · replace hk := t_pos hk h8
        refine mj_tableIn 161 dX13_leaf_14 hh1 hh2 (by rw [h8]; rfl) (by decide) ?_
        refine mj_aload_n dX13_leaf_161 0 rfl ?_
        refine mj_iload_n dX13_leaf_162 1 rfl ?_
        refine t_bndK hk (fun r8 er8 hk => ?_)
        refine t_callVvE dX13_leaf_163 M_X13_pushWord (C_X13_pushWord _ _ _ er8) ML_X13_923 IM_X13_pushWord SE_X13_pushWord qc_950 rfl (As := [.int x2]) rfl rfl (by omega) (Nat.le_of_ble_eq_true rfl) (Nat.le_of_ble_eq_true rfl) (Nat.le_of_ble_eq_true rfl) ?_
        exact t_somK hk (fun hf => t_vret dX13_leaf_166 rfl ⟨rfl, hf⟩ (Nat.le_of_ble_eq_true rfl) (Nat.le_of_ble_eq_true rfl))
      replace hk := t_neg hk h8
      by_cases h9 : (s.1 955 (x2.toNatClampNeg)).toInt = 59
      · replace hk := t_pos hk h9
        refine mj_tableIn 167 dX13_leaf_14 hh1 hh2 (by rw [h9]; rfl) (by decide) ?_
        refine mj_aload_n dX13_leaf_167 0 rfl ?_
        refine mj_iload_n dX13_leaf_168 1 rfl ?_
        refine t_bndK hk (fun r9 er9 hk => ?_)
        refine t_callSvE dX13_leaf_169 M_X13_rowOf (H.2.2.2.2.2.1 _ _ _ er9) ML_X13_926 SM_X13_rowOf (As := [.ref 950, .int x2]) rfl rfl (by omega) (Nat.le_of_ble_eq_true rfl) (Nat.le_of_ble_eq_true rfl) (Nat.le_of_ble_eq_true rfl) ?_
        exact t_somK hk (fun hf => t_vret dX13_leaf_172 rfl ⟨rfl, hf⟩ (Nat.le_of_ble_eq_true rfl) (Nat.le_of_ble_eq_true rfl))
      replace hk := t_neg hk h9
      have h10 : (s.1 955 (x2.toNatClampNeg)).toInt = 60 := by omega
      refine mj_tableIn 167 dX13_leaf_14 hh1 hh2 (by rw [h10]; rfl) (by decide) ?_
      refine mj_aload_n dX13_leaf_167 0 rfl ?_
      refine mj_iload_n dX13_leaf_168 1 rfl ?_
      refine t_bndK hk (fun r10 er10 hk => ?_)
      refine t_callSvE dX13_leaf_169 M_X13_rowOf (H.2.2.2.2.2.1 _ _ _ er10) ML_X13_926 SM_X13_rowOf (As := [.ref 950, .int x2]) rfl rfl (by omega) (Nat.le_of_ble_eq_true rfl) (Nat.le_of_ble_eq_true rfl) (Nat.le_of_ble_eq_true rfl) ?_
      exact t_somK hk (fun hf => t_vret dX13_leaf_172 rfl ⟨rfl, hf⟩ (Nat.le_of_ble_eq_true rfl) (Nat.le_of_ble_eq_true rfl))
  · exact t_somK hk (fun hf => t_vret dX13_leaf_7 rfl ⟨rfl, hf⟩ (Nat.le_of_ble_eq_true rfl) (Nat.le_of_ble_eq_true rfl))
noncomputable def k_X13_matchAll_16 (rc : RT_X13_behindFirst) (l1 : Int32) (l2 : Int32) (s : t_S) : Option (Int32 × t_S) :=
 t_let (t_setI s 950 138 ((s.1 950 138) + (1 : Int32))) (fun s1 =>
 (rc.2.2.2.2.1 l1 s1).bind (fun r1 =>
 t_let (t_setI r1 950 138 ((r1.1 950 138) - (1 : Int32))) (fun s2 =>
 if (s2.1 950 97) = (0 : Int32) then (t_let (t_setI s2 950 137 ((s2.1 950 137) + (1 : Int32))) (fun s3 =>
 t_let (t_setI s3 950 141 l2) (fun s4 =>
 (f_X13_numberParts l2 s4).bind (fun r2 =>
 (f_X13_match l1 l2 r2).bind (fun r3 =>
 if r3.1 = 0 ∨ r3.1 = 1 then
  some (r3.1, r3.2)
else none)))))
 else (some ((0 : Int32), s2)))))
set_option maxRecDepth 4000 in
set_option maxHeartbeats 1000000 in
theorem B_X13_matchAll_16 {D : va_G} {cy : Nat → ClassId} {ad : Nat → Nat} {bs : Nat} {X : State → Heap → Prop} (rc : RT_X13_behindFirst) {k : Nat} (H : RH_X13_behindFirst rc k) (l1 : Int32) (l2 : Int32) (s : t_S) (Q : Int32 × t_S → Prop) (hk : t_hk (k_X13_matchAll_16 rc l1 l2 s) Q) : mj_G D cy ad bs X cX13_matchAll 3 yX13_matchAll.cls (some .boolean) yX13_matchAll.name (783 + (k + 1)) 0 0 1065 (t_P (fun v s' => ∃ x, v = some (.int x) ∧ Q ((x, s')))) 16 [(0, .ref 950), (1, .int l1), (2, .int l2)] [] (t_m s) 1065 0 0 := by
  refine mj_aload_n dX13_matchAll_16 0 rfl ?_
  refine mj_dup dX13_matchAll_17 rfl ?_
  refine t_getI dX13_matchAll_18 F_X13_1212 qf_950_138 ?_
  refine mj_iconst (v := 1) dX13_matchAll_21 (by decide) ?_
  refine mj_iadd dX13_matchAll_22 ?_
  refine t_putIK dX13_matchAll_23 F_X13_1212 qf_950_138 rfl (fun s1 ws1 => t_letE hk ws1 (fun hk => ?_))
  refine mj_aload_n dX13_matchAll_26 0 rfl ?_
  refine mj_iload_n dX13_matchAll_27 1 rfl ?_
  refine t_bndK hk (fun r1 er1 hk => ?_)
  refine t_callSvE dX13_matchAll_28 M_X13_prepare (H.2.2.2.2.1 _ _ _ er1) ML_X13_1221 SM_X13_prepare (As := [.ref 950, .int l1]) rfl rfl (by omega) (Nat.le_of_ble_eq_true rfl) (Nat.le_of_ble_eq_true rfl) (Nat.le_of_ble_eq_true rfl) ?_
  refine mj_aload_n dX13_matchAll_31 0 rfl ?_
  refine mj_dup dX13_matchAll_32 rfl ?_
  refine t_getI dX13_matchAll_33 F_X13_1212 qf_950_138 ?_
  refine mj_iconst (v := 1) dX13_matchAll_36 (by decide) ?_
  refine mj_isub dX13_matchAll_37 ?_
  refine t_putIK dX13_matchAll_38 F_X13_1212 qf_950_138 rfl (fun s2 ws2 => t_letE hk ws2 (fun hk => ?_))
  refine mj_aload_n dX13_matchAll_41 0 rfl ?_
  refine t_getI dX13_matchAll_42 F_X13_842 qf_950_97 ?_
  refine mj_if_eq 50 dX13_matchAll_45 (by decide) (fun z => t_posK hk z (fun hk => ?_)) (fun z => t_negK hk z (fun hk => ?_))
  · refine mj_aload_n dX13_matchAll_50 0 rfl ?_
    refine mj_dup dX13_matchAll_51 rfl ?_
    refine t_getI dX13_matchAll_52 F_X13_1224 qf_950_137 ?_
    refine mj_iconst (v := 1) dX13_matchAll_55 (by decide) ?_
    refine mj_iadd dX13_matchAll_56 ?_
    refine t_putIK dX13_matchAll_57 F_X13_1224 qf_950_137 rfl (fun s3 ws3 => t_letE hk ws3 (fun hk => ?_))
    refine mj_aload_n dX13_matchAll_60 0 rfl ?_
    refine mj_iload_n dX13_matchAll_61 2 rfl ?_
    refine t_putIK dX13_matchAll_62 F_X13_1227 qf_950_141 rfl (fun s4 ws4 => t_letE hk ws4 (fun hk => ?_))
    refine mj_aload_n dX13_matchAll_65 0 rfl ?_
    refine mj_iload_n dX13_matchAll_66 2 rfl ?_
    refine t_bndK hk (fun r2 er2 hk => ?_)
    refine t_callVvE dX13_matchAll_67 M_X13_numberParts (C_X13_numberParts _ _ _ er2) ML_X13_1230 IM_X13_numberParts SE_X13_numberParts qc_950 rfl (As := [.int l2]) rfl rfl (by omega) (Nat.le_of_ble_eq_true rfl) (Nat.le_of_ble_eq_true rfl) (Nat.le_of_ble_eq_true rfl) ?_
    refine mj_aload_n dX13_matchAll_70 0 rfl ?_
    refine mj_iload_n dX13_matchAll_71 1 rfl ?_
    refine mj_iload_n dX13_matchAll_72 2 rfl ?_
    refine t_bndK hk (fun r3 er3 hk => ?_)
    refine t_callSiE dX13_matchAll_73 M_X13_match (C_X13_match _ _ _ _ er3) ML_X13_1233 SM_X13_match (As := [.ref 950, .int l1, .int l2]) rfl rfl (by omega) (Nat.le_of_ble_eq_true rfl) (Nat.le_of_ble_eq_true rfl) (Nat.le_of_ble_eq_true rfl) ?_
    refine t_chkK hk (fun c3 hk => ?_)
    exact t_somK hk (fun hf => t_iret dX13_matchAll_76 rfl (t_zfit c3) ⟨_, rfl, hf⟩ (Nat.le_of_ble_eq_true rfl) (Nat.le_of_ble_eq_true rfl))
  · refine mj_iconst (v := 0) dX13_matchAll_48 (by decide) ?_
    exact t_somK hk (fun hf => t_iret dX13_matchAll_49 rfl (by decide) ⟨_, rfl, hf⟩ (Nat.le_of_ble_eq_true rfl) (Nat.le_of_ble_eq_true rfl))
noncomputable def m_X13_matchAll (rc : RT_X13_behindFirst) (x2 : Int32) (x3 : Int32) (s : t_S) : Option (Int32 × t_S) :=
 if (s.1 950 138) = (0 : Int32) then (t_let (t_setI s 950 135 (0 : Int32)) (fun s1 =>
 (f_X13_nextStamp s1).bind (fun r1 =>
 k_X13_matchAll_16 rc x2 x3 r1)))
 else (k_X13_matchAll_16 rc x2 x3 s)
set_option maxRecDepth 4000 in
set_option maxHeartbeats 1000000 in
theorem E_X13_matchAll (rc : RT_X13_behindFirst) {k : Nat} (H : RH_X13_behindFirst rc k) (x2 : Int32) (x3 : Int32) (s : t_S) (r : Int32 × t_S) (hr : m_X13_matchAll rc x2 x3 s = some r) : t_C yX13_matchAll cX13_matchAll 3 (some .boolean) (783 + (k + 1)) [.ref 950, .int x2, .int x3] s (fun v s' => v = some (.int r.1) ∧ s' = r.2) := by
  refine t_C.imp (P := fun v s' => ∃ x, v = some (.int x) ∧ (fun q => q = r) ((x, s'))) (t_C.of (by decide +kernel) (Nat.le_of_ble_eq_true rfl) ?_) (fun v s' hp => by obtain ⟨x, rfl, rfl⟩ := hp; exact ⟨rfl, rfl⟩)
  intro D cy ad bs X
  have hk : t_hk (m_X13_matchAll rc x2 x3 s) (fun q => q = r) := ⟨r, hr, rfl⟩
  show mj_G D cy ad bs X cX13_matchAll 3 yX13_matchAll.cls (some .boolean) yX13_matchAll.name (783 + (k + 1)) 0 0 1065 (t_P (fun v s' => ∃ x, v = some (.int x) ∧ (fun q => q = r) ((x, s')))) 0 [(0, .ref 950), (1, .int x2), (2, .int x3)] [] (t_m s) 1065 0 0
  refine mj_aload_n dX13_matchAll_0 0 rfl ?_
  refine t_getI dX13_matchAll_1 F_X13_1212 qf_950_138 ?_
  refine mj_if_ne 16 dX13_matchAll_4 (by decide) (fun z => t_negK hk z (fun hk => ?_)) (fun z => t_posK hk z (fun hk => ?_))
  · exact B_X13_matchAll_16 rc H _ _ _ _ hk
  · refine mj_aload_n dX13_matchAll_7 0 rfl ?_
    refine mj_iconst (v := 0) dX13_matchAll_8 (by decide) ?_
    refine t_putIK dX13_matchAll_9 F_X13_1215 qf_950_135 rfl (fun s1 ws1 => t_letE hk ws1 (fun hk => ?_))
    refine mj_aload_n dX13_matchAll_12 0 rfl ?_
    refine t_bndK hk (fun r1 er1 hk => ?_)
    refine t_callVvE dX13_matchAll_13 M_X13_nextStamp (C_X13_nextStamp _ _ er1) ML_X13_1218 IM_X13_nextStamp SE_X13_nextStamp qc_950 rfl (As := []) rfl rfl (by omega) (Nat.le_of_ble_eq_true rfl) (Nat.le_of_ble_eq_true rfl) (Nat.le_of_ble_eq_true rfl) ?_
    exact B_X13_matchAll_16 rc H _ _ _ _ hk
noncomputable def m_X13_met (rc : RT_X13_behindFirst) (x2 : Int32) (s : t_S) : Option (t_S) :=
 if t_ix x2 13000 = true then
  if t_ix (s.1 959 (x2.toNatClampNeg)) 13000 = true then
  (rc.2.2.1 (s.1 960 ((s.1 959 (x2.toNatClampNeg)).toNatClampNeg)) (f_X13_top s) s).bind (fun r4 =>
 if (r4.2.1 950 97) = (0 : Int32) then (t_let (t_setI r4.2 950 98 ((s.1 950 98) - (1 : Int32))) (fun s1 =>
 (f_X13_pushTruth r4.1 s1).bind (fun r5 =>
 some (r5))))
 else (some (r4.2)))
else none
else none
set_option maxRecDepth 4000 in
set_option maxHeartbeats 1000000 in
theorem E_X13_met (rc : RT_X13_behindFirst) {k : Nat} (H : RH_X13_behindFirst rc k) (x2 : Int32) (s : t_S) (r : t_S) (hr : m_X13_met rc x2 s = some r) : t_C yX13_met cX13_met 5 none (783 + (k + 1)) [.ref 950, .int x2] s (fun v s' => v = none ∧ s' = r) := by
  refine t_C.imp (P := fun v s' => v = none ∧ (fun q => q = r) (s')) (t_C.of (by decide +kernel) (Nat.le_of_ble_eq_true rfl) ?_) (fun v s' hp => hp)
  intro D cy ad bs X
  have hk : t_hk (m_X13_met rc x2 s) (fun q => q = r) := ⟨r, hr, rfl⟩
  show mj_G D cy ad bs X cX13_met 5 yX13_met.cls none yX13_met.name (783 + (k + 1)) 0 0 1065 (t_P (fun v s' => v = none ∧ (fun q => q = r) (s'))) 0 [(0, .ref 950), (1, .int x2)] [] (t_m s) 1065 0 0
  refine mj_aload_n dX13_met_0 0 rfl ?_
  refine t_getI dX13_met_1 F_X13_858 qf_950_98 ?_
  refine mj_istore_n 2 (lv2 := [(2, .int (s.1 950 98)), (0, .ref 950), (1, .int x2)]) dX13_met_4 rfl (by decide) rfl ?_
  refine mj_aload_n dX13_met_5 1 rfl ?_
  refine t_getR 960 dX13_met_6 F_X13_42 qr_950_22 ?_
  refine mj_aload_n dX13_met_9 1 rfl ?_
  refine t_getR 959 dX13_met_10 F_X13_39 qr_950_21 ?_
  refine mj_iload_n dX13_met_13 2 rfl ?_
  refine t_chkK hk (fun c0 hk => ?_)
  refine t_iald dX13_met_14 qa_959 (t_ixv c0) ?_
  refine t_chkK hk (fun c1 hk => ?_)
  refine t_iald dX13_met_15 qa_960 (t_ixv c1) ?_
  refine mj_istore_n 3 (lv2 := [(3, .int (s.1 960 ((s.1 959 (x2.toNatClampNeg)).toNatClampNeg))), (2, .int (s.1 950 98)), (0, .ref 950), (1, .int x2)]) dX13_met_16 rfl (by decide) rfl ?_
  refine mj_aload_n dX13_met_17 2 rfl ?_
  refine mj_iload_n dX13_met_18 0 rfl ?_
  refine mj_aload_n dX13_met_19 2 rfl ?_
  refine t_callViP dX13_met_20 M_X13_top (C_X13_top _) ML_X13_941 IM_X13_top SE_X13_top qc_950 rfl (As := []) rfl rfl (by omega) (Nat.le_of_ble_eq_true rfl) (Nat.le_of_ble_eq_true rfl) (Nat.le_of_ble_eq_true rfl) ?_
  refine t_bndK hk (fun r4 er4 hk => ?_)
  refine t_callSiE dX13_met_23 M_X13_matchAll (H.2.2.1 _ _ _ _ er4) ML_X13_944 SM_X13_matchAll (As := [.ref 950, .int (s.1 960 ((s.1 959 (x2.toNatClampNeg)).toNatClampNeg)), .int (f_X13_top s)]) rfl rfl (by omega) (Nat.le_of_ble_eq_true rfl) (Nat.le_of_ble_eq_true rfl) (Nat.le_of_ble_eq_true rfl) ?_
  refine mj_istore (lv2 := [(4, .int r4.1), (3, .int (s.1 960 ((s.1 959 (x2.toNatClampNeg)).toNatClampNeg))), (2, .int (s.1 950 98)), (0, .ref 950), (1, .int x2)]) dX13_met_26 (by decide) rfl ?_
  refine mj_aload_n dX13_met_28 3 rfl ?_
  refine t_getI dX13_met_29 F_X13_842 qf_950_97 ?_
  refine mj_if_ne 48 dX13_met_32 (by decide) (fun z => t_negK hk z (fun hk => ?_)) (fun z => t_posK hk z (fun hk => ?_))
  · exact t_somK hk (fun hf => t_vret dX13_met_48 rfl ⟨rfl, hf⟩ (Nat.le_of_ble_eq_true rfl) (Nat.le_of_ble_eq_true rfl))
  · refine mj_aload_n dX13_met_35 3 rfl ?_
    refine mj_iload_n dX13_met_36 2 rfl ?_
    refine mj_iconst (v := 1) dX13_met_37 (by decide) ?_
    refine mj_isub dX13_met_38 ?_
    refine t_putIK dX13_met_39 F_X13_858 qf_950_98 rfl (fun s1 ws1 => t_letE hk ws1 (fun hk => ?_))
    refine mj_aload_n dX13_met_42 3 rfl ?_
    refine mj_iload dX13_met_43 0 rfl ?_
    refine t_bndK hk (fun r5 er5 hk => ?_)
    refine t_callVvE dX13_met_45 M_X13_pushTruth (C_X13_pushTruth _ _ _ er5) ML_X13_910 IM_X13_pushTruth SE_X13_pushTruth qc_950 rfl (As := [.int r4.1]) rfl rfl (by omega) (Nat.le_of_ble_eq_true rfl) (Nat.le_of_ble_eq_true rfl) (Nat.le_of_ble_eq_true rfl) ?_
    exact t_somK hk (fun hf => t_vret dX13_met_48 rfl ⟨rfl, hf⟩ (Nat.le_of_ble_eq_true rfl) (Nat.le_of_ble_eq_true rfl))
noncomputable def k_X13_prepare_112 (rc : RT_X13_behindFirst) (l2 : Int32) (s : t_S) : Option (t_S) :=
 t_let (t_setI s 950 98 l2) (fun s1 =>
 some (s1))
set_option maxRecDepth 4000 in
set_option maxHeartbeats 1000000 in
theorem B_X13_prepare_112 {D : va_G} {cy : Nat → ClassId} {ad : Nat → Nat} {bs : Nat} {X : State → Heap → Prop} (rc : RT_X13_behindFirst) {k : Nat} (H : RH_X13_behindFirst rc k) (l2 : Int32) (s : t_S) (Q : t_S → Prop) (hk : t_hk (k_X13_prepare_112 rc l2 s) Q) : mj_G D cy ad bs X cX13_prepare 6 yX13_prepare.cls none yX13_prepare.name (783 + (k + 1)) 0 0 1065 (t_P (fun v s' => v = none ∧ Q (s'))) 112 [(0, .ref 950), (2, .int l2)] [] (t_m s) 1065 0 0 := by
  refine mj_aload_n dX13_prepare_112 0 rfl ?_
  refine mj_iload_n dX13_prepare_113 1 rfl ?_
  refine t_putIK dX13_prepare_114 F_X13_858 qf_950_98 rfl (fun s1 ws1 => t_letE hk ws1 (fun hk => ?_))
  exact t_somK hk (fun hf => t_vret dX13_prepare_117 rfl ⟨rfl, hf⟩ (Nat.le_of_ble_eq_true rfl) (Nat.le_of_ble_eq_true rfl))
noncomputable def k_X13_prepare_195 (rc : RT_X13_behindFirst) (l2 : Int32) (s : t_S) : Option ((Int32 × t_S) ⊕ (t_S)) :=
 if l2 < (0 : Int32) then ((some (s)).map Sum.inr)
 else ((rc.2.2.2.2.1 l2 s).bind (fun r1 =>
 if t_ix l2 13000 = true then
  some (.inl ((r1.1 960 (l2.toNatClampNeg)), r1))
else none))
set_option maxRecDepth 4000 in
set_option maxHeartbeats 1000000 in
theorem B_X13_prepare_195 {D : va_G} {cy : Nat → ClassId} {ad : Nat → Nat} {bs : Nat} {X : State → Heap → Prop} (rc : RT_X13_behindFirst) {k : Nat} (H : RH_X13_behindFirst rc k) (l2 : Int32) (s : t_S) (Q : (Int32 × t_S) ⊕ (t_S) → Prop) (Hb195 : ∀ (y0 : Int32) (y1 : t_S), Q (.inl (y0, y1)) → mj_G D cy ad bs X cX13_prepare 6 yX13_prepare.cls none yX13_prepare.name (783 + (k + 1)) 0 0 1065 (t_P (fun v s' => v = none ∧ Q (.inr (s')))) 195 [(0, .ref 950), (2, .int (y0))] [] (t_m y1) 1065 0 0) (hk : t_hk (k_X13_prepare_195 rc l2 s) Q) : mj_G D cy ad bs X cX13_prepare 6 yX13_prepare.cls none yX13_prepare.name (783 + (k + 1)) 0 0 1065 (t_P (fun v s' => v = none ∧ Q (.inr (s')))) 195 [(0, .ref 950), (2, .int l2)] [] (t_m s) 1065 0 0 := by
  refine mj_iload_n dX13_prepare_195 1 rfl ?_
  refine mj_if_lt 214 dX13_prepare_196 (by decide) (fun z => t_posK hk z (fun hk => ?_)) (fun z => t_negK hk z (fun hk => ?_))
  · refine t_mapK hk (fun hk => ?_)
    exact t_somK hk (fun hf => t_vret dX13_prepare_214 rfl ⟨rfl, hf⟩ (Nat.le_of_ble_eq_true rfl) (Nat.le_of_ble_eq_true rfl))
  · refine mj_aload_n dX13_prepare_199 0 rfl ?_
    refine mj_iload_n dX13_prepare_200 1 rfl ?_
    refine t_bndK hk (fun r1 er1 hk => ?_)
    refine t_callSvE dX13_prepare_201 M_X13_prepare (H.2.2.2.2.1 _ _ _ er1) ML_X13_1221 SM_X13_prepare (As := [.ref 950, .int l2]) rfl rfl (by omega) (Nat.le_of_ble_eq_true rfl) (Nat.le_of_ble_eq_true rfl) (Nat.le_of_ble_eq_true rfl) ?_
    refine mj_aload_n dX13_prepare_204 0 rfl ?_
    refine t_getR 960 dX13_prepare_205 F_X13_42 qr_950_22 ?_
    refine mj_iload_n dX13_prepare_208 1 rfl ?_
    refine t_chkK hk (fun c1 hk => ?_)
    refine t_iald dX13_prepare_209 qa_960 (t_ixv c1) ?_
    refine mj_istore_n 2 (lv2 := [(2, .int (r1.1 960 (l2.toNatClampNeg))), (0, .ref 950)]) dX13_prepare_210 rfl (by decide) rfl ?_
    refine mj_goto 195 dX13_prepare_211 (by decide) ?_
    refine mj_sublv [(0, .ref 950), (2, .int (r1.1 960 (l2.toNatClampNeg)))] [1, 0] rfl ?_
    exact t_somK hk (fun hf => Hb195 (r1.1 960 (l2.toNatClampNeg)) r1 hf)
noncomputable def b_X13_prepare_195 (rc : RT_X13_behindFirst) (x : Int32 × t_S) : Option ((Int32 × t_S) ⊕ (t_S)) := k_X13_prepare_195 rc x.1 x.2
set_option maxRecDepth 4000 in
set_option maxHeartbeats 1000000 in
theorem LH_X13_prepare_195 {D : va_G} {cy : Nat → ClassId} {ad : Nat → Nat} {bs : Nat} {X : State → Heap → Prop} (rc : RT_X13_behindFirst) {k : Nat} (H : RH_X13_behindFirst rc k) : ∀ (n : Nat) (y0 : Int32) (y1 : t_S) (Q : t_S → Prop) (hk : t_hk (t_loop (b_X13_prepare_195 rc) n (y0, y1)) Q), mj_G D cy ad bs X cX13_prepare 6 yX13_prepare.cls none yX13_prepare.name (783 + (k + 1)) 0 0 1065 (t_P (fun v s' => v = none ∧ Q (s'))) 195 [(0, .ref 950), (2, .int (y0))] [] (t_m y1) 1065 0 0 := by
  intro n
  induction n with
  | zero => intro y0 y1 Q hk; obtain ⟨r, hr, _⟩ := hk; cases hr
  | succ n ih =>
    intro y0 y1 Q hk
    exact B_X13_prepare_195 rc H y0 y1 (fun y => t_lq (b_X13_prepare_195 rc) n Q y) (fun y0' y1' hy => ih y0' y1' Q hy) (t_lp (b := b_X13_prepare_195 rc) (n := n) (x := (y0, y1)) hk)
noncomputable def k_X13_prepare_71 (rc : RT_X13_behindFirst) (l2 : Int32) (l3 : Int32) (l4 : Int32) (l5 : Int32) (s : t_S) : Option ((Int32 × Int32 × Int32 × Int32 × t_S) ⊕ (t_S)) :=
 if l4 ≤ l5 then ((k_X13_prepare_112 rc l2 s).map Sum.inr)
 else (if t_ix (l3 + l5) 626600 = true then
  if t_ix (s.1 950 135) 370000 = true then
  t_let (t_setJ s 1027 ((s.1 950 135).toNatClampNeg) (s.2.1 1006 ((l3 + l5).toNatClampNeg))) (fun s1 =>
 t_let (t_setI s1 950 135 ((s1.1 950 135) + (1 : Int32))) (fun s2 =>
 some (.inl (l2, l3, l4, (l5 + 1), s2))))
else none
else none)
set_option maxRecDepth 4000 in
set_option maxHeartbeats 1000000 in
theorem B_X13_prepare_71 {D : va_G} {cy : Nat → ClassId} {ad : Nat → Nat} {bs : Nat} {X : State → Heap → Prop} (rc : RT_X13_behindFirst) {k : Nat} (H : RH_X13_behindFirst rc k) (l2 : Int32) (l3 : Int32) (l4 : Int32) (l5 : Int32) (s : t_S) (Q : (Int32 × Int32 × Int32 × Int32 × t_S) ⊕ (t_S) → Prop) (Hb71 : ∀ (y0 : Int32) (y1 : Int32) (y2 : Int32) (y3 : Int32) (y4 : t_S), Q (.inl (y0, y1, y2, y3, y4)) → mj_G D cy ad bs X cX13_prepare 6 yX13_prepare.cls none yX13_prepare.name (783 + (k + 1)) 0 0 1065 (t_P (fun v s' => v = none ∧ Q (.inr (s')))) 71 [(0, .ref 950), (2, .int (y0)), (3, .int (y1)), (4, .int (y2)), (5, .int (y3))] [] (t_m y4) 1065 0 0) (hk : t_hk (k_X13_prepare_71 rc l2 l3 l4 l5 s) Q) : mj_G D cy ad bs X cX13_prepare 6 yX13_prepare.cls none yX13_prepare.name (783 + (k + 1)) 0 0 1065 (t_P (fun v s' => v = none ∧ Q (.inr (s')))) 71 [(0, .ref 950), (2, .int l2), (3, .int l3), (4, .int l4), (5, .int l5)] [] (t_m s) 1065 0 0 := by
  refine mj_iload dX13_prepare_71 4 rfl ?_
  refine mj_iload dX13_prepare_73 3 rfl ?_
  refine mj_icmp_ge 112 dX13_prepare_75 (by decide) (fun z => t_posK hk z (fun hk => ?_)) (fun z => t_negK hk z (fun hk => ?_))
  · refine mj_sublv [(0, .ref 950), (2, .int l2)] [0, 1] rfl ?_
    refine t_mapK hk (fun hk => ?_)
    exact B_X13_prepare_112 rc H _ _ _ hk
  · refine mj_aload_n dX13_prepare_78 0 rfl ?_
    refine t_getR 1027 dX13_prepare_79 F_X13_248 qr_950_134 ?_
    refine mj_aload_n dX13_prepare_82 0 rfl ?_
    refine t_getI dX13_prepare_83 F_X13_1215 qf_950_135 ?_
    refine mj_aload_n dX13_prepare_86 0 rfl ?_
    refine t_getR 1006 dX13_prepare_87 F_X13_182 qr_950_95 ?_
    refine mj_iload_n dX13_prepare_90 2 rfl ?_
    refine mj_iload dX13_prepare_91 4 rfl ?_
    refine mj_iadd dX13_prepare_93 ?_
    refine t_chkK hk (fun c0 hk => ?_)
    refine t_lald dX13_prepare_94 qa_1006 (t_ixv c0) ?_
    refine t_chkK hk (fun c1 hk => ?_)
    refine t_lastK dX13_prepare_95 qa_1027 (t_ixv c1) (fun s1 ws1 => t_letE hk ws1 (fun hk => ?_))
    refine mj_aload_n dX13_prepare_96 0 rfl ?_
    refine mj_dup dX13_prepare_97 rfl ?_
    refine t_getI dX13_prepare_98 F_X13_1215 qf_950_135 ?_
    refine mj_iconst (v := 1) dX13_prepare_101 (by decide) ?_
    refine mj_iadd dX13_prepare_102 ?_
    refine t_putIK dX13_prepare_103 F_X13_1215 qf_950_135 rfl (fun s2 ws2 => t_letE hk ws2 (fun hk => ?_))
    refine mj_iinc (k := 4) (v := (l5 + 1)) (lv2 := [(5, .int (l5 + 1)), (0, .ref 950), (2, .int l2), (3, .int l3), (4, .int l4)]) dX13_prepare_106 rfl rfl (by decide) rfl ?_
    refine mj_goto 71 dX13_prepare_109 (by decide) ?_
    refine mj_sublv [(0, .ref 950), (2, .int l2), (3, .int l3), (4, .int l4), (5, .int (l5 + 1))] [1, 2, 3, 4, 0] rfl ?_
    exact t_somK hk (fun hf => Hb71 l2 l3 l4 (l5 + 1) s2 hf)
noncomputable def b_X13_prepare_71 (rc : RT_X13_behindFirst) (x : Int32 × Int32 × Int32 × Int32 × t_S) : Option ((Int32 × Int32 × Int32 × Int32 × t_S) ⊕ (t_S)) := k_X13_prepare_71 rc x.1 x.2.1 x.2.2.1 x.2.2.2.1 x.2.2.2.2
set_option maxRecDepth 4000 in
set_option maxHeartbeats 1000000 in
theorem LH_X13_prepare_71 {D : va_G} {cy : Nat → ClassId} {ad : Nat → Nat} {bs : Nat} {X : State → Heap → Prop} (rc : RT_X13_behindFirst) {k : Nat} (H : RH_X13_behindFirst rc k) : ∀ (n : Nat) (y0 : Int32) (y1 : Int32) (y2 : Int32) (y3 : Int32) (y4 : t_S) (Q : t_S → Prop) (hk : t_hk (t_loop (b_X13_prepare_71 rc) n (y0, y1, y2, y3, y4)) Q), mj_G D cy ad bs X cX13_prepare 6 yX13_prepare.cls none yX13_prepare.name (783 + (k + 1)) 0 0 1065 (t_P (fun v s' => v = none ∧ Q (s'))) 71 [(0, .ref 950), (2, .int (y0)), (3, .int (y1)), (4, .int (y2)), (5, .int (y3))] [] (t_m y4) 1065 0 0 := by
  intro n
  induction n with
  | zero => intro y0 y1 y2 y3 y4 Q hk; obtain ⟨r, hr, _⟩ := hk; cases hr
  | succ n ih =>
    intro y0 y1 y2 y3 y4 Q hk
    exact B_X13_prepare_71 rc H y0 y1 y2 y3 y4 (fun y => t_lq (b_X13_prepare_71 rc) n Q y) (fun y0' y1' y2' y3' y4' hy => ih y0' y1' y2' y3' y4' Q hy) (t_lp (b := b_X13_prepare_71 rc) (n := n) (x := (y0, y1, y2, y3, y4)) hk)
noncomputable def m_X13_prepare (rc : RT_X13_behindFirst) (x2 : Int32) (s : t_S) : Option (t_S) :=
 if (s.1 950 97) = (0 : Int32) then (if t_ix x2 13000 = true then
  if (s.1 955 (x2.toNatClampNeg)) = (38 : Int32) then ((rc.2.2.2.2.2.2.2.1 (s.1 959 (x2.toNatClampNeg)) s).bind (fun r5 =>
 if (r5.1 950 97) = (0 : Int32) then ((f_X13_endOf 1006 (f_X13_top r5) r5).bind (fun r7 =>
 t_let (t_setI r5 1026 (x2.toNatClampNeg) (r5.1 950 135)) (fun s2 =>
 t_loop (b_X13_prepare_71 rc) t_N ((s.1 950 98), (f_X13_top r5), (r7 - (f_X13_top r5)), 0, s2))))
 else (k_X13_prepare_112 rc (s.1 950 98) r5)))
 else (if (s.1 955 (x2.toNatClampNeg)) = (28 : Int32) then ((f_X13_find 967 (0 : Int32) (s.1 950 44) ((s.2.1 957 (x2.toNatClampNeg)).toInt32) s).bind (fun r2 =>
 if r2 < (0 : Int32) then (some (s))
 else (if t_ix r2 60 = true then
  if (s.1 1030 (r2.toNatClampNeg)) = (s.1 950 133) then (some (s))
 else (t_let (t_setI s 1030 (r2.toNatClampNeg) (s.1 950 133)) (fun s1 =>
 (rc.2.2.2.2.1 (s1.1 968 (r2.toNatClampNeg)) s1).bind (fun r4 =>
 some (r4))))
else none)))
 else (t_loop (b_X13_prepare_195 rc) t_N ((s.1 959 (x2.toNatClampNeg)), s)))
else none)
 else (some (s))
set_option maxRecDepth 4000 in
set_option maxHeartbeats 1000000 in
theorem E_X13_prepare (rc : RT_X13_behindFirst) {k : Nat} (H : RH_X13_behindFirst rc k) (x2 : Int32) (s : t_S) (r : t_S) (hr : m_X13_prepare rc x2 s = some r) : t_C yX13_prepare cX13_prepare 6 none (783 + (k + 1)) [.ref 950, .int x2] s (fun v s' => v = none ∧ s' = r) := by
  refine t_C.imp (P := fun v s' => v = none ∧ (fun q => q = r) (s')) (t_C.of (by decide +kernel) (Nat.le_of_ble_eq_true rfl) ?_) (fun v s' hp => hp)
  intro D cy ad bs X
  have hk : t_hk (m_X13_prepare rc x2 s) (fun q => q = r) := ⟨r, hr, rfl⟩
  show mj_G D cy ad bs X cX13_prepare 6 yX13_prepare.cls none yX13_prepare.name (783 + (k + 1)) 0 0 1065 (t_P (fun v s' => v = none ∧ (fun q => q = r) (s'))) 0 [(0, .ref 950), (1, .int x2)] [] (t_m s) 1065 0 0
  refine mj_aload_n dX13_prepare_0 0 rfl ?_
  refine t_getI dX13_prepare_1 F_X13_842 qf_950_97 ?_
  refine mj_if_eq 8 dX13_prepare_4 (by decide) (fun z => t_posK hk z (fun hk => ?_)) (fun z => t_negK hk z (fun hk => ?_))
  · refine mj_aload_n dX13_prepare_8 0 rfl ?_
    refine t_getR 955 dX13_prepare_9 F_X13_26 qr_950_17 ?_
    refine mj_iload_n dX13_prepare_12 1 rfl ?_
    refine t_chkK hk (fun c0 hk => ?_)
    refine t_iald dX13_prepare_13 qa_955 (t_ixv c0) ?_
    refine mj_bipush (v := 38) dX13_prepare_14 (by decide) ?_
    refine mj_icmp_ne 118 dX13_prepare_16 (by decide) (fun z => t_negK hk z (fun hk => ?_)) (fun z => t_posK hk z (fun hk => ?_))
    · refine mj_aload_n dX13_prepare_118 0 rfl ?_
      refine t_getR 955 dX13_prepare_119 F_X13_26 qr_950_17 ?_
      refine mj_iload_n dX13_prepare_122 1 rfl ?_
      refine t_iald dX13_prepare_123 qa_955 (t_ixv c0) ?_
      refine mj_bipush (v := 28) dX13_prepare_124 (by decide) ?_
      refine mj_icmp_ne 188 dX13_prepare_126 (by decide) (fun z => t_negK hk z (fun hk => ?_)) (fun z => t_posK hk z (fun hk => ?_))
      · refine mj_aload_n dX13_prepare_188 0 rfl ?_
        refine t_getR 959 dX13_prepare_189 F_X13_39 qr_950_21 ?_
        refine mj_iload_n dX13_prepare_192 1 rfl ?_
        refine t_iald dX13_prepare_193 qa_959 (t_ixv c0) ?_
        refine mj_istore_n 2 (lv2 := [(2, .int (s.1 959 (x2.toNatClampNeg))), (0, .ref 950), (1, .int x2)]) dX13_prepare_194 rfl (by decide) rfl ?_
        refine mj_sublv [(0, .ref 950), (2, .int (s.1 959 (x2.toNatClampNeg)))] [1, 0] rfl ?_
        exact LH_X13_prepare_195 rc H _ (s.1 959 (x2.toNatClampNeg)) s _ hk
      · refine mj_aload_n dX13_prepare_129 0 rfl ?_
        refine mj_aload_n dX13_prepare_130 0 rfl ?_
        refine t_getR 967 dX13_prepare_131 F_X13_63 qr_950_41 ?_
        refine mj_iconst (v := 0) dX13_prepare_134 (by decide) ?_
        refine mj_aload_n dX13_prepare_135 0 rfl ?_
        refine t_getI dX13_prepare_136 F_X13_627 qf_950_44 ?_
        refine mj_aload_n dX13_prepare_139 0 rfl ?_
        refine t_getR 957 dX13_prepare_140 F_X13_32 qr_950_19 ?_
        refine mj_iload_n dX13_prepare_143 1 rfl ?_
        refine t_lald dX13_prepare_144 qa_957 (t_ixv c0) ?_
        refine mj_l2i (v := (s.2.1 957 (x2.toNatClampNeg)).toInt32) dX13_prepare_145 rfl ?_
        refine t_bndK hk (fun r2 er2 hk => ?_)
        refine t_callViP dX13_prepare_146 M_X13_find (C_X13_find _ _ _ _ _ _ er2) ML_X13_788 IM_X13_find SE_X13_find qc_950 rfl (As := [.ref 967, .int 0, .int (s.1 950 44), .int ((s.2.1 957 (x2.toNatClampNeg)).toInt32)]) rfl rfl (by omega) (Nat.le_of_ble_eq_true rfl) (Nat.le_of_ble_eq_true rfl) (Nat.le_of_ble_eq_true rfl) ?_
        refine mj_istore_n 2 (lv2 := [(2, .int r2), (0, .ref 950), (1, .int x2)]) dX13_prepare_149 rfl (by decide) rfl ?_
        refine mj_iload_n dX13_prepare_150 0 rfl ?_
        refine mj_if_lt 187 dX13_prepare_151 (by decide) (fun z => t_posK hk z (fun hk => ?_)) (fun z => t_negK hk z (fun hk => ?_))
        · exact t_somK hk (fun hf => t_vret dX13_prepare_187 rfl ⟨rfl, hf⟩ (Nat.le_of_ble_eq_true rfl) (Nat.le_of_ble_eq_true rfl))
        · refine mj_aload_n dX13_prepare_154 1 rfl ?_
          refine t_getR 1030 dX13_prepare_155 F_X13_258 qr_950_140 ?_
          refine mj_iload_n dX13_prepare_158 0 rfl ?_
          refine t_chkK hk (fun c2 hk => ?_)
          refine t_iald dX13_prepare_159 qa_1030 (t_ixv c2) ?_
          refine mj_aload_n dX13_prepare_160 1 rfl ?_
          refine t_getI dX13_prepare_161 F_X13_1236 qf_950_133 ?_
          refine mj_icmp_eq 187 dX13_prepare_164 (by decide) (fun z => t_posK hk z (fun hk => ?_)) (fun z => t_negK hk z (fun hk => ?_))
          · exact t_somK hk (fun hf => t_vret dX13_prepare_187 rfl ⟨rfl, hf⟩ (Nat.le_of_ble_eq_true rfl) (Nat.le_of_ble_eq_true rfl))
          · refine mj_aload_n dX13_prepare_167 1 rfl ?_
            refine t_getR 1030 dX13_prepare_168 F_X13_258 qr_950_140 ?_
            refine mj_iload_n dX13_prepare_171 0 rfl ?_
            refine mj_aload_n dX13_prepare_172 1 rfl ?_
            refine t_getI dX13_prepare_173 F_X13_1236 qf_950_133 ?_
            refine t_iastK dX13_prepare_176 qa_1030 (t_ixv c2) (fun s1 ws1 => t_letE hk ws1 (fun hk => ?_))
            refine mj_aload_n dX13_prepare_177 1 rfl ?_
            refine mj_aload_n dX13_prepare_178 1 rfl ?_
            refine t_getR 968 dX13_prepare_179 F_X13_66 qr_950_42 ?_
            refine mj_iload_n dX13_prepare_182 0 rfl ?_
            refine t_iald dX13_prepare_183 qa_968 (t_ixv c2) ?_
            refine t_bndK hk (fun r4 er4 hk => ?_)
            refine t_callSvE dX13_prepare_184 M_X13_prepare (H.2.2.2.2.1 _ _ _ er4) ML_X13_1221 SM_X13_prepare (As := [.ref 950, .int (s1.1 968 (r2.toNatClampNeg))]) rfl rfl (by omega) (Nat.le_of_ble_eq_true rfl) (Nat.le_of_ble_eq_true rfl) (Nat.le_of_ble_eq_true rfl) ?_
            exact t_somK hk (fun hf => t_vret dX13_prepare_187 rfl ⟨rfl, hf⟩ (Nat.le_of_ble_eq_true rfl) (Nat.le_of_ble_eq_true rfl))
    · refine mj_aload_n dX13_prepare_19 0 rfl ?_
      refine t_getI dX13_prepare_20 F_X13_858 qf_950_98 ?_
      refine mj_istore_n 2 (lv2 := [(2, .int (s.1 950 98)), (0, .ref 950), (1, .int x2)]) dX13_prepare_23 rfl (by decide) rfl ?_
      refine mj_aload_n dX13_prepare_24 1 rfl ?_
      refine mj_aload_n dX13_prepare_25 1 rfl ?_
      refine t_getR 959 dX13_prepare_26 F_X13_39 qr_950_21 ?_
      refine mj_iload_n dX13_prepare_29 2 rfl ?_
      refine t_iald dX13_prepare_30 qa_959 (t_ixv c0) ?_
      refine t_bndK hk (fun r5 er5 hk => ?_)
      refine t_callSvE dX13_prepare_31 M_X13_work (H.2.2.2.2.2.2.2.1 _ _ _ er5) ML_X13_897 SM_X13_work (As := [.ref 950, .int (s.1 959 (x2.toNatClampNeg))]) rfl rfl (by omega) (Nat.le_of_ble_eq_true rfl) (Nat.le_of_ble_eq_true rfl) (Nat.le_of_ble_eq_true rfl) ?_
      refine mj_aload_n dX13_prepare_34 1 rfl ?_
      refine t_getI dX13_prepare_35 F_X13_842 qf_950_97 ?_
      refine mj_if_ne 112 dX13_prepare_38 (by decide) (fun z => t_negK hk z (fun hk => ?_)) (fun z => t_posK hk z (fun hk => ?_))
      · refine mj_sublv [(0, .ref 950), (2, .int (s.1 950 98))] [1, 0] rfl ?_
        exact B_X13_prepare_112 rc H _ _ _ hk
      · refine mj_aload_n dX13_prepare_41 1 rfl ?_
        refine t_callViP dX13_prepare_42 M_X13_top (C_X13_top _) ML_X13_941 IM_X13_top SE_X13_top qc_950 rfl (As := []) rfl rfl (by omega) (Nat.le_of_ble_eq_true rfl) (Nat.le_of_ble_eq_true rfl) (Nat.le_of_ble_eq_true rfl) ?_
        refine mj_istore_n 3 (lv2 := [(3, .int (f_X13_top r5)), (2, .int (s.1 950 98)), (0, .ref 950), (1, .int x2)]) dX13_prepare_45 rfl (by decide) rfl ?_
        refine mj_aload_n dX13_prepare_46 2 rfl ?_
        refine t_getR 1006 dX13_prepare_47 F_X13_182 qr_950_95 ?_
        refine mj_iload_n dX13_prepare_50 0 rfl ?_
        refine t_bndK hk (fun r7 er7 hk => ?_)
        refine t_callSiP dX13_prepare_51 M_X13_endOf (C_X13_endOf _ _ _ _ er7) ML_X13_849 SM_X13_endOf (As := [.ref 1006, .int (f_X13_top r5)]) rfl rfl (by omega) (Nat.le_of_ble_eq_true rfl) (Nat.le_of_ble_eq_true rfl) (Nat.le_of_ble_eq_true rfl) ?_
        refine mj_iload_n dX13_prepare_54 0 rfl ?_
        refine mj_isub dX13_prepare_55 ?_
        refine mj_istore (lv2 := [(4, .int (r7 - (f_X13_top r5))), (3, .int (f_X13_top r5)), (2, .int (s.1 950 98)), (0, .ref 950), (1, .int x2)]) dX13_prepare_56 (by decide) rfl ?_
        refine mj_aload_n dX13_prepare_58 3 rfl ?_
        refine t_getR 1026 dX13_prepare_59 F_X13_244 qr_950_132 ?_
        refine mj_iload_n dX13_prepare_62 4 rfl ?_
        refine mj_aload_n dX13_prepare_63 3 rfl ?_
        refine t_getI dX13_prepare_64 F_X13_1215 qf_950_135 ?_
        refine t_iastK dX13_prepare_67 qa_1026 (t_ixv c0) (fun s2 ws2 => t_letE hk ws2 (fun hk => ?_))
        refine mj_iconst (v := 0) dX13_prepare_68 (by decide) ?_
        refine mj_istore (lv2 := [(5, .int 0), (4, .int (r7 - (f_X13_top r5))), (3, .int (f_X13_top r5)), (2, .int (s.1 950 98)), (0, .ref 950), (1, .int x2)]) dX13_prepare_69 (by decide) rfl ?_
        refine mj_sublv [(0, .ref 950), (2, .int (s.1 950 98)), (3, .int (f_X13_top r5)), (4, .int (r7 - (f_X13_top r5))), (5, .int 0)] [4, 3, 2, 1, 0] rfl ?_
        exact LH_X13_prepare_71 rc H _ (s.1 950 98) (f_X13_top r5) (r7 - (f_X13_top r5)) 0 s2 _ hk
  · exact t_somK hk (fun hf => t_vret dX13_prepare_7 rfl ⟨rfl, hf⟩ (Nat.le_of_ble_eq_true rfl) (Nat.le_of_ble_eq_true rfl))
noncomputable def k_X13_rowOf_218 (rc : RT_X13_behindFirst) (l2 : Int32) (s : t_S) : Option (t_S) :=
 t_let (t_setI s 950 98 l2) (fun s1 =>
 (f_X13_pushMade s1).bind (fun r1 =>
 some (r1)))
set_option maxRecDepth 4000 in
set_option maxHeartbeats 1000000 in
theorem B_X13_rowOf_218 {D : va_G} {cy : Nat → ClassId} {ad : Nat → Nat} {bs : Nat} {X : State → Heap → Prop} (rc : RT_X13_behindFirst) {k : Nat} (H : RH_X13_behindFirst rc k) (l2 : Int32) (s : t_S) (Q : t_S → Prop) (hk : t_hk (k_X13_rowOf_218 rc l2 s) Q) : mj_G D cy ad bs X cX13_rowOf 7 yX13_rowOf.cls none yX13_rowOf.name (783 + (k + 1)) 0 0 1065 (t_P (fun v s' => v = none ∧ Q (s'))) 218 [(0, .ref 950), (2, .int l2)] [] (t_m s) 1065 0 0 := by
  refine mj_aload_n dX13_rowOf_218 0 rfl ?_
  refine mj_iload_n dX13_rowOf_219 1 rfl ?_
  refine t_putIK dX13_rowOf_220 F_X13_858 qf_950_98 rfl (fun s1 ws1 => t_letE hk ws1 (fun hk => ?_))
  refine mj_aload_n dX13_rowOf_223 0 rfl ?_
  refine t_bndK hk (fun r1 er1 hk => ?_)
  refine t_callVvE dX13_rowOf_224 M_X13_pushMade (C_X13_pushMade _ _ er1) ML_X13_959 IM_X13_pushMade SE_X13_pushMade qc_950 rfl (As := []) rfl rfl (by omega) (Nat.le_of_ble_eq_true rfl) (Nat.le_of_ble_eq_true rfl) (Nat.le_of_ble_eq_true rfl) ?_
  exact t_somK hk (fun hf => t_vret dX13_rowOf_227 rfl ⟨rfl, hf⟩ (Nat.le_of_ble_eq_true rfl) (Nat.le_of_ble_eq_true rfl))
noncomputable def k_X13_rowOf_187 (rc : RT_X13_behindFirst) (l2 : Int32) (l3 : Int32) (l5 : Int32) (l6 : Int32) (s : t_S) : Option ((Int32 × Int32 × Int32 × Int32 × t_S) ⊕ (t_S)) :=
 if l3 ≤ l6 then ((k_X13_rowOf_218 rc l2 s).map Sum.inr)
 else ((f_X13_putMade l5 ((260 : Int32) * (((40 : Int32) + l2) + l6)) s).bind (fun r1 =>
 some (.inl (l2, l3, r1.1, (l6 + 1), r1.2))))
set_option maxRecDepth 4000 in
set_option maxHeartbeats 1000000 in
theorem B_X13_rowOf_187 {D : va_G} {cy : Nat → ClassId} {ad : Nat → Nat} {bs : Nat} {X : State → Heap → Prop} (rc : RT_X13_behindFirst) {k : Nat} (H : RH_X13_behindFirst rc k) (l2 : Int32) (l3 : Int32) (l5 : Int32) (l6 : Int32) (s : t_S) (Q : (Int32 × Int32 × Int32 × Int32 × t_S) ⊕ (t_S) → Prop) (Hb187 : ∀ (y0 : Int32) (y1 : Int32) (y2 : Int32) (y3 : Int32) (y4 : t_S), Q (.inl (y0, y1, y2, y3, y4)) → mj_G D cy ad bs X cX13_rowOf 7 yX13_rowOf.cls none yX13_rowOf.name (783 + (k + 1)) 0 0 1065 (t_P (fun v s' => v = none ∧ Q (.inr (s')))) 187 [(0, .ref 950), (2, .int (y0)), (3, .int (y1)), (5, .int (y2)), (6, .int (y3))] [] (t_m y4) 1065 0 0) (hk : t_hk (k_X13_rowOf_187 rc l2 l3 l5 l6 s) Q) : mj_G D cy ad bs X cX13_rowOf 7 yX13_rowOf.cls none yX13_rowOf.name (783 + (k + 1)) 0 0 1065 (t_P (fun v s' => v = none ∧ Q (.inr (s')))) 187 [(0, .ref 950), (2, .int l2), (3, .int l3), (5, .int l5), (6, .int l6)] [] (t_m s) 1065 0 0 := by
  refine mj_iload dX13_rowOf_187 4 rfl ?_
  refine mj_iload_n dX13_rowOf_189 2 rfl ?_
  refine mj_icmp_ge 218 dX13_rowOf_190 (by decide) (fun z => t_posK hk z (fun hk => ?_)) (fun z => t_negK hk z (fun hk => ?_))
  · refine mj_sublv [(0, .ref 950), (2, .int l2)] [0, 1] rfl ?_
    refine t_mapK hk (fun hk => ?_)
    exact B_X13_rowOf_218 rc H _ _ _ hk
  · refine mj_aload_n dX13_rowOf_193 0 rfl ?_
    refine mj_iload dX13_rowOf_194 3 rfl ?_
    refine mj_sipush (v := 260) dX13_rowOf_196 (by decide) ?_
    refine mj_bipush (v := 40) dX13_rowOf_199 (by decide) ?_
    refine mj_iload_n dX13_rowOf_201 1 rfl ?_
    refine mj_iadd dX13_rowOf_202 ?_
    refine mj_iload dX13_rowOf_203 4 rfl ?_
    refine mj_iadd dX13_rowOf_205 ?_
    refine mj_imul dX13_rowOf_206 ?_
    refine t_bndK hk (fun r1 er1 hk => ?_)
    refine t_callViE dX13_rowOf_207 M_X13_putMade (C_X13_putMade _ _ _ _ er1) ML_X13_956 IM_X13_putMade SE_X13_putMade qc_950 rfl (As := [.int l5, .int ((260 : Int32) * (((40 : Int32) + l2) + l6))]) rfl rfl (by omega) (Nat.le_of_ble_eq_true rfl) (Nat.le_of_ble_eq_true rfl) (Nat.le_of_ble_eq_true rfl) ?_
    refine mj_istore (lv2 := [(5, .int r1.1), (0, .ref 950), (2, .int l2), (3, .int l3), (6, .int l6)]) dX13_rowOf_210 (by decide) rfl ?_
    refine mj_iinc (k := 4) (v := (l6 + 1)) (lv2 := [(6, .int (l6 + 1)), (5, .int r1.1), (0, .ref 950), (2, .int l2), (3, .int l3)]) dX13_rowOf_212 rfl rfl (by decide) rfl ?_
    refine mj_goto 187 dX13_rowOf_215 (by decide) ?_
    refine mj_sublv [(0, .ref 950), (2, .int l2), (3, .int l3), (5, .int r1.1), (6, .int (l6 + 1))] [2, 3, 4, 1, 0] rfl ?_
    exact t_somK hk (fun hf => Hb187 l2 l3 r1.1 (l6 + 1) r1.2 hf)
noncomputable def b_X13_rowOf_187 (rc : RT_X13_behindFirst) (x : Int32 × Int32 × Int32 × Int32 × t_S) : Option ((Int32 × Int32 × Int32 × Int32 × t_S) ⊕ (t_S)) := k_X13_rowOf_187 rc x.1 x.2.1 x.2.2.1 x.2.2.2.1 x.2.2.2.2
set_option maxRecDepth 4000 in
set_option maxHeartbeats 1000000 in
theorem LH_X13_rowOf_187 {D : va_G} {cy : Nat → ClassId} {ad : Nat → Nat} {bs : Nat} {X : State → Heap → Prop} (rc : RT_X13_behindFirst) {k : Nat} (H : RH_X13_behindFirst rc k) : ∀ (n : Nat) (y0 : Int32) (y1 : Int32) (y2 : Int32) (y3 : Int32) (y4 : t_S) (Q : t_S → Prop) (hk : t_hk (t_loop (b_X13_rowOf_187 rc) n (y0, y1, y2, y3, y4)) Q), mj_G D cy ad bs X cX13_rowOf 7 yX13_rowOf.cls none yX13_rowOf.name (783 + (k + 1)) 0 0 1065 (t_P (fun v s' => v = none ∧ Q (s'))) 187 [(0, .ref 950), (2, .int (y0)), (3, .int (y1)), (5, .int (y2)), (6, .int (y3))] [] (t_m y4) 1065 0 0 := by
  intro n
  induction n with
  | zero => intro y0 y1 y2 y3 y4 Q hk; obtain ⟨r, hr, _⟩ := hk; cases hr
  | succ n ih =>
    intro y0 y1 y2 y3 y4 Q hk
    exact B_X13_rowOf_187 rc H y0 y1 y2 y3 y4 (fun y => t_lq (b_X13_rowOf_187 rc) n Q y) (fun y0' y1' y2' y3' y4' hy => ih y0' y1' y2' y3' y4' Q hy) (t_lp (b := b_X13_rowOf_187 rc) (n := n) (x := (y0, y1, y2, y3, y4)) hk)
noncomputable def k_X13_rowOf_136 (rc : RT_X13_behindFirst) (l1 : Int32) (l2 : Int32) (l3 : Int32) (l4 : Int32) (s : t_S) : Option (t_S) :=
 if (s.1 950 97) = (0 : Int32) then (if l4 = (0 : Int32) then (t_let (t_setJ s 1007 ((0 : Int32).toNatClampNeg) (8 : Int64)) (fun s1 =>
 t_let (t_setJ s1 1007 ((1 : Int32).toNatClampNeg) l3.toInt64) (fun s2 =>
 t_loop (b_X13_rowOf_187 rc) t_N (l2, l3, 2, 0, s2))))
 else ((f_X13_recordRow l1 l2 l3 s).bind (fun r1 =>
 k_X13_rowOf_218 rc l2 r1.2)))
 else (some (s))
set_option maxRecDepth 4000 in
set_option maxHeartbeats 1000000 in
theorem B_X13_rowOf_136 {D : va_G} {cy : Nat → ClassId} {ad : Nat → Nat} {bs : Nat} {X : State → Heap → Prop} (rc : RT_X13_behindFirst) {k : Nat} (H : RH_X13_behindFirst rc k) (l1 : Int32) (l2 : Int32) (l3 : Int32) (l4 : Int32) (s : t_S) (Q : t_S → Prop) (hk : t_hk (k_X13_rowOf_136 rc l1 l2 l3 l4 s) Q) : mj_G D cy ad bs X cX13_rowOf 7 yX13_rowOf.cls none yX13_rowOf.name (783 + (k + 1)) 0 0 1065 (t_P (fun v s' => v = none ∧ Q (s'))) 136 [(0, .ref 950), (1, .int l1), (2, .int l2), (3, .int l3), (4, .int l4)] [] (t_m s) 1065 0 0 := by
  refine mj_aload_n dX13_rowOf_136 0 rfl ?_
  refine t_getI dX13_rowOf_137 F_X13_842 qf_950_97 ?_
  refine mj_if_eq 144 dX13_rowOf_140 (by decide) (fun z => t_posK hk z (fun hk => ?_)) (fun z => t_negK hk z (fun hk => ?_))
  · refine mj_iconst (v := 0) dX13_rowOf_144 (by decide) ?_
    refine mj_istore (lv2 := [(5, .int 0), (0, .ref 950), (1, .int l1), (2, .int l2), (3, .int l3), (4, .int l4)]) dX13_rowOf_145 (by decide) rfl ?_
    refine mj_iload dX13_rowOf_147 5 rfl ?_
    refine mj_if_eq 164 dX13_rowOf_149 (by decide) (fun z => t_posK hk z (fun hk => ?_)) (fun z => t_negK hk z (fun hk => ?_))
    · refine mj_aload_n dX13_rowOf_164 1 rfl ?_
      refine t_getR 1007 dX13_rowOf_165 F_X13_185 qr_950_99 ?_
      refine mj_iconst (v := 0) dX13_rowOf_168 (by decide) ?_
      refine mj_ldc2 dX13_rowOf_169 K_X13_951 ?_
      refine t_lastK dX13_rowOf_172 qa_1007 (by unfold vp_in; decide) (fun s1 ws1 => t_letE hk ws1 (fun hk => ?_))
      refine mj_aload_n dX13_rowOf_173 1 rfl ?_
      refine t_getR 1007 dX13_rowOf_174 F_X13_185 qr_950_99 ?_
      refine mj_iconst (v := 1) dX13_rowOf_177 (by decide) ?_
      refine mj_iload_n dX13_rowOf_178 4 rfl ?_
      refine mj_i2l (v := l3.toInt64) dX13_rowOf_179 rfl ?_
      refine t_lastK dX13_rowOf_180 qa_1007 (by unfold vp_in; decide) (fun s2 ws2 => t_letE hk ws2 (fun hk => ?_))
      refine mj_iconst (v := 2) dX13_rowOf_181 (by decide) ?_
      refine mj_istore (lv2 := [(5, .int 2), (0, .ref 950), (1, .int l1), (2, .int l2), (3, .int l3), (4, .int l4)]) dX13_rowOf_182 (by decide) rfl ?_
      refine mj_iconst (v := 0) dX13_rowOf_184 (by decide) ?_
      refine mj_istore (lv2 := [(6, .int 0), (5, .int 2), (0, .ref 950), (1, .int l1), (2, .int l2), (3, .int l3), (4, .int l4)]) dX13_rowOf_185 (by decide) rfl ?_
      refine mj_sublv [(0, .ref 950), (2, .int l2), (3, .int l3), (5, .int 2), (6, .int 0)] [2, 4, 5, 1, 0] rfl ?_
      exact LH_X13_rowOf_187 rc H _ l2 l3 2 0 s2 _ hk
    · refine mj_aload_n dX13_rowOf_152 1 rfl ?_
      refine mj_iload_n dX13_rowOf_153 2 rfl ?_
      refine mj_iload_n dX13_rowOf_154 3 rfl ?_
      refine mj_iload_n dX13_rowOf_155 4 rfl ?_
      refine t_bndK hk (fun r1 er1 hk => ?_)
      refine t_callViE dX13_rowOf_156 M_X13_recordRow (C_X13_recordRow _ _ _ _ _ er1) ML_X13_971 IM_X13_recordRow SE_X13_recordRow qc_950 rfl (As := [.int l1, .int l2, .int l3]) rfl rfl (by omega) (Nat.le_of_ble_eq_true rfl) (Nat.le_of_ble_eq_true rfl) (Nat.le_of_ble_eq_true rfl) ?_
      refine mj_istore (lv2 := [(5, .int r1.1), (0, .ref 950), (1, .int l1), (2, .int l2), (3, .int l3), (4, .int l4)]) dX13_rowOf_159 (by decide) rfl ?_
      refine mj_goto 218 dX13_rowOf_161 (by decide) ?_
      refine mj_sublv [(0, .ref 950), (2, .int l2)] [1, 3] rfl ?_
      exact B_X13_rowOf_218 rc H _ _ _ hk
  · exact t_somK hk (fun hf => t_vret dX13_rowOf_143 rfl ⟨rfl, hf⟩ (Nat.le_of_ble_eq_true rfl) (Nat.le_of_ble_eq_true rfl))
noncomputable def k_X13_rowOf_130 (rc : RT_X13_behindFirst) (l1 : Int32) (l2 : Int32) (l3 : Int32) (l4 : Int32) (l5 : Int32) (s : t_S) : Option ((Int32 × Int32 × Int32 × Int32 × Int32 × t_S) ⊕ (t_S)) :=
 some (.inl (l1, l2, l3, l4, (l5 + 1), s))
set_option maxRecDepth 4000 in
set_option maxHeartbeats 1000000 in
theorem B_X13_rowOf_130 {D : va_G} {cy : Nat → ClassId} {ad : Nat → Nat} {bs : Nat} {X : State → Heap → Prop} (rc : RT_X13_behindFirst) {k : Nat} (H : RH_X13_behindFirst rc k) (l1 : Int32) (l2 : Int32) (l3 : Int32) (l4 : Int32) (l5 : Int32) (s : t_S) (Q : (Int32 × Int32 × Int32 × Int32 × Int32 × t_S) ⊕ (t_S) → Prop) (Hb84 : ∀ (y0 : Int32) (y1 : Int32) (y2 : Int32) (y3 : Int32) (y4 : Int32) (y5 : t_S), Q (.inl (y0, y1, y2, y3, y4, y5)) → mj_G D cy ad bs X cX13_rowOf 7 yX13_rowOf.cls none yX13_rowOf.name (783 + (k + 1)) 0 0 1065 (t_P (fun v s' => v = none ∧ Q (.inr (s')))) 84 [(0, .ref 950), (1, .int (y0)), (2, .int (y1)), (3, .int (y2)), (4, .int (y3)), (5, .int (y4))] [] (t_m y5) 1065 0 0) (hk : t_hk (k_X13_rowOf_130 rc l1 l2 l3 l4 l5 s) Q) : mj_G D cy ad bs X cX13_rowOf 7 yX13_rowOf.cls none yX13_rowOf.name (783 + (k + 1)) 0 0 1065 (t_P (fun v s' => v = none ∧ Q (.inr (s')))) 130 [(0, .ref 950), (1, .int l1), (2, .int l2), (3, .int l3), (4, .int l4), (5, .int l5)] [] (t_m s) 1065 0 0 := by
  refine mj_iinc (k := 5) (v := (l5 + 1)) (lv2 := [(5, .int (l5 + 1)), (0, .ref 950), (1, .int l1), (2, .int l2), (3, .int l3), (4, .int l4)]) dX13_rowOf_130 rfl rfl (by decide) rfl ?_
  refine mj_goto 84 dX13_rowOf_133 (by decide) ?_
  refine mj_sublv [(0, .ref 950), (1, .int l1), (2, .int l2), (3, .int l3), (4, .int l4), (5, .int (l5 + 1))] [1, 2, 3, 4, 5, 0] rfl ?_
  exact t_somK hk (fun hf => Hb84 l1 l2 l3 l4 (l5 + 1) s hf)
noncomputable def k_X13_rowOf_84 (rc : RT_X13_behindFirst) (l1 : Int32) (l2 : Int32) (l3 : Int32) (l4 : Int32) (l5 : Int32) (s : t_S) : Option ((Int32 × Int32 × Int32 × Int32 × Int32 × t_S) ⊕ (t_S)) :=
 if l3 ≤ l5 then ((k_X13_rowOf_136 rc l1 l2 l3 l4 s).map Sum.inr)
 else (if l4 = (0 : Int32) then (if (s.1 950 97) = (0 : Int32) then (if t_ix ((260 : Int32) * (((40 : Int32) + l2) + l5)) 626600 = true then
  if (lg_cmp (s.2.1 1006 (((260 : Int32) * (((40 : Int32) + l2) + l5)).toNatClampNeg)) (4 : Int64)) = (0 : Int32) then ((f_X13_error (1 : Int32) s).bind (fun r2 =>
 k_X13_rowOf_130 rc l1 l2 l3 l4 l5 r2))
 else (k_X13_rowOf_130 rc l1 l2 l3 l4 l5 s)
else none)
 else ((k_X13_rowOf_136 rc l1 l2 l3 l4 s).map Sum.inr))
 else ((k_X13_rowOf_136 rc l1 l2 l3 l4 s).map Sum.inr))
set_option maxRecDepth 4000 in
set_option maxHeartbeats 1000000 in
theorem B_X13_rowOf_84 {D : va_G} {cy : Nat → ClassId} {ad : Nat → Nat} {bs : Nat} {X : State → Heap → Prop} (rc : RT_X13_behindFirst) {k : Nat} (H : RH_X13_behindFirst rc k) (l1 : Int32) (l2 : Int32) (l3 : Int32) (l4 : Int32) (l5 : Int32) (s : t_S) (Q : (Int32 × Int32 × Int32 × Int32 × Int32 × t_S) ⊕ (t_S) → Prop) (Hb84 : ∀ (y0 : Int32) (y1 : Int32) (y2 : Int32) (y3 : Int32) (y4 : Int32) (y5 : t_S), Q (.inl (y0, y1, y2, y3, y4, y5)) → mj_G D cy ad bs X cX13_rowOf 7 yX13_rowOf.cls none yX13_rowOf.name (783 + (k + 1)) 0 0 1065 (t_P (fun v s' => v = none ∧ Q (.inr (s')))) 84 [(0, .ref 950), (1, .int (y0)), (2, .int (y1)), (3, .int (y2)), (4, .int (y3)), (5, .int (y4))] [] (t_m y5) 1065 0 0) (hk : t_hk (k_X13_rowOf_84 rc l1 l2 l3 l4 l5 s) Q) : mj_G D cy ad bs X cX13_rowOf 7 yX13_rowOf.cls none yX13_rowOf.name (783 + (k + 1)) 0 0 1065 (t_P (fun v s' => v = none ∧ Q (.inr (s')))) 84 [(0, .ref 950), (1, .int l1), (2, .int l2), (3, .int l3), (4, .int l4), (5, .int l5)] [] (t_m s) 1065 0 0 := by
  refine mj_iload dX13_rowOf_84 5 rfl ?_
  refine mj_iload_n dX13_rowOf_86 3 rfl ?_
  refine mj_icmp_ge 136 dX13_rowOf_87 (by decide) (fun z => t_posK hk z (fun hk => ?_)) (fun z => t_negK hk z (fun hk => ?_))
  · refine mj_sublv [(0, .ref 950), (1, .int l1), (2, .int l2), (3, .int l3), (4, .int l4)] [0, 1, 2, 3, 4] rfl ?_
    refine t_mapK hk (fun hk => ?_)
    exact B_X13_rowOf_136 rc H _ _ _ _ _ _ hk
  · refine mj_iload dX13_rowOf_90 4 rfl ?_
    refine mj_if_ne 136 dX13_rowOf_92 (by decide) (fun z => t_negK hk z (fun hk => ?_)) (fun z => t_posK hk z (fun hk => ?_))
    · refine mj_sublv [(0, .ref 950), (1, .int l1), (2, .int l2), (3, .int l3), (4, .int l4)] [0, 1, 2, 3, 4] rfl ?_
      refine t_mapK hk (fun hk => ?_)
      exact B_X13_rowOf_136 rc H _ _ _ _ _ _ hk
    · refine mj_aload_n dX13_rowOf_95 0 rfl ?_
      refine t_getI dX13_rowOf_96 F_X13_842 qf_950_97 ?_
      refine mj_if_ne 136 dX13_rowOf_99 (by decide) (fun z => t_negK hk z (fun hk => ?_)) (fun z => t_posK hk z (fun hk => ?_))
      · refine mj_sublv [(0, .ref 950), (1, .int l1), (2, .int l2), (3, .int l3), (4, .int l4)] [0, 1, 2, 3, 4] rfl ?_
        refine t_mapK hk (fun hk => ?_)
        exact B_X13_rowOf_136 rc H _ _ _ _ _ _ hk
      · refine mj_aload_n dX13_rowOf_102 0 rfl ?_
        refine t_getR 1006 dX13_rowOf_103 F_X13_182 qr_950_95 ?_
        refine mj_sipush (v := 260) dX13_rowOf_106 (by decide) ?_
        refine mj_bipush (v := 40) dX13_rowOf_109 (by decide) ?_
        refine mj_iload_n dX13_rowOf_111 2 rfl ?_
        refine mj_iadd dX13_rowOf_112 ?_
        refine mj_iload dX13_rowOf_113 5 rfl ?_
        refine mj_iadd dX13_rowOf_115 ?_
        refine mj_imul dX13_rowOf_116 ?_
        refine t_chkK hk (fun c0 hk => ?_)
        refine t_lald dX13_rowOf_117 qa_1006 (t_ixv c0) ?_
        refine mj_ldc2 dX13_rowOf_118 K_X13_969 ?_
        refine mj_lcmp dX13_rowOf_121 ?_
        refine mj_if_ne 130 dX13_rowOf_122 (by decide) (fun z => t_negK hk z (fun hk => ?_)) (fun z => t_posK hk z (fun hk => ?_))
        · exact B_X13_rowOf_130 rc H _ _ _ _ _ _ _ (fun y0 y1 y2 y3 y4 y5 hx => Hb84 y0 y1 y2 y3 y4 y5 hx) hk
        · refine mj_aload_n dX13_rowOf_125 0 rfl ?_
          refine mj_iconst (v := 1) dX13_rowOf_126 (by decide) ?_
          refine t_bndK hk (fun r2 er2 hk => ?_)
          refine t_callVvE dX13_rowOf_127 M_X13_error (C_X13_error _ _ _ er2) ML_X13_866 IM_X13_error SE_X13_error qc_950 rfl (As := [.int 1]) rfl rfl (by omega) (Nat.le_of_ble_eq_true rfl) (Nat.le_of_ble_eq_true rfl) (Nat.le_of_ble_eq_true rfl) ?_
          exact B_X13_rowOf_130 rc H _ _ _ _ _ _ _ (fun y0 y1 y2 y3 y4 y5 hx => Hb84 y0 y1 y2 y3 y4 y5 hx) hk
noncomputable def b_X13_rowOf_84 (rc : RT_X13_behindFirst) (x : Int32 × Int32 × Int32 × Int32 × Int32 × t_S) : Option ((Int32 × Int32 × Int32 × Int32 × Int32 × t_S) ⊕ (t_S)) := k_X13_rowOf_84 rc x.1 x.2.1 x.2.2.1 x.2.2.2.1 x.2.2.2.2.1 x.2.2.2.2.2
set_option maxRecDepth 4000 in
set_option maxHeartbeats 1000000 in
theorem LH_X13_rowOf_84 {D : va_G} {cy : Nat → ClassId} {ad : Nat → Nat} {bs : Nat} {X : State → Heap → Prop} (rc : RT_X13_behindFirst) {k : Nat} (H : RH_X13_behindFirst rc k) : ∀ (n : Nat) (y0 : Int32) (y1 : Int32) (y2 : Int32) (y3 : Int32) (y4 : Int32) (y5 : t_S) (Q : t_S → Prop) (hk : t_hk (t_loop (b_X13_rowOf_84 rc) n (y0, y1, y2, y3, y4, y5)) Q), mj_G D cy ad bs X cX13_rowOf 7 yX13_rowOf.cls none yX13_rowOf.name (783 + (k + 1)) 0 0 1065 (t_P (fun v s' => v = none ∧ Q (s'))) 84 [(0, .ref 950), (1, .int (y0)), (2, .int (y1)), (3, .int (y2)), (4, .int (y3)), (5, .int (y4))] [] (t_m y5) 1065 0 0 := by
  intro n
  induction n with
  | zero => intro y0 y1 y2 y3 y4 y5 Q hk; obtain ⟨r, hr, _⟩ := hk; cases hr
  | succ n ih =>
    intro y0 y1 y2 y3 y4 y5 Q hk
    exact B_X13_rowOf_84 rc H y0 y1 y2 y3 y4 y5 (fun y => t_lq (b_X13_rowOf_84 rc) n Q y) (fun y0' y1' y2' y3' y4' y5' hy => ih y0' y1' y2' y3' y4' y5' Q hy) (t_lp (b := b_X13_rowOf_84 rc) (n := n) (x := (y0, y1, y2, y3, y4, y5)) hk)
noncomputable def k_X13_rowOf_81 (rc : RT_X13_behindFirst) (l1 : Int32) (l2 : Int32) (l3 : Int32) (l4 : Int32) (s : t_S) : Option (t_S) :=
 t_loop (b_X13_rowOf_84 rc) t_N (l1, l2, l3, l4, 0, s)
set_option maxRecDepth 4000 in
set_option maxHeartbeats 1000000 in
theorem B_X13_rowOf_81 {D : va_G} {cy : Nat → ClassId} {ad : Nat → Nat} {bs : Nat} {X : State → Heap → Prop} (rc : RT_X13_behindFirst) {k : Nat} (H : RH_X13_behindFirst rc k) (l1 : Int32) (l2 : Int32) (l3 : Int32) (l4 : Int32) (s : t_S) (Q : t_S → Prop) (hk : t_hk (k_X13_rowOf_81 rc l1 l2 l3 l4 s) Q) : mj_G D cy ad bs X cX13_rowOf 7 yX13_rowOf.cls none yX13_rowOf.name (783 + (k + 1)) 0 0 1065 (t_P (fun v s' => v = none ∧ Q (s'))) 81 [(0, .ref 950), (1, .int l1), (2, .int l2), (3, .int l3), (4, .int l4)] [] (t_m s) 1065 0 0 := by
  refine mj_iconst (v := 0) dX13_rowOf_81 (by decide) ?_
  refine mj_istore (lv2 := [(5, .int 0), (0, .ref 950), (1, .int l1), (2, .int l2), (3, .int l3), (4, .int l4)]) dX13_rowOf_82 (by decide) rfl ?_
  refine mj_sublv [(0, .ref 950), (1, .int l1), (2, .int l2), (3, .int l3), (4, .int l4), (5, .int 0)] [1, 2, 3, 4, 5, 0] rfl ?_
  exact LH_X13_rowOf_84 rc H _ l1 l2 l3 l4 0 s _ hk
noncomputable def k_X13_rowOf_63 (rc : RT_X13_behindFirst) (l1 : Int32) (l2 : Int32) (l3 : Int32) (l4 : Int32) (l5 : Int32) (k0 : Int32) (s : t_S) : Option ((Int32 × Int32 × Int32 × Int32 × Int32 × t_S) ⊕ (t_S)) :=
 (rc.2.2.2.2.2.2.2.1 k0 s).bind (fun r1 =>
 if t_ix l5 13000 = true then
  some (.inl (l1, l2, (l3 + 1), l4, (r1.1 960 (l5.toNatClampNeg)), r1))
else none)
set_option maxRecDepth 4000 in
set_option maxHeartbeats 1000000 in
theorem B_X13_rowOf_63 {D : va_G} {cy : Nat → ClassId} {ad : Nat → Nat} {bs : Nat} {X : State → Heap → Prop} (rc : RT_X13_behindFirst) {k : Nat} (H : RH_X13_behindFirst rc k) (l1 : Int32) (l2 : Int32) (l3 : Int32) (l4 : Int32) (l5 : Int32) (k0 : Int32) (s : t_S) (Q : (Int32 × Int32 × Int32 × Int32 × Int32 × t_S) ⊕ (t_S) → Prop) (Hb33 : ∀ (y0 : Int32) (y1 : Int32) (y2 : Int32) (y3 : Int32) (y4 : Int32) (y5 : t_S), Q (.inl (y0, y1, y2, y3, y4, y5)) → mj_G D cy ad bs X cX13_rowOf 7 yX13_rowOf.cls none yX13_rowOf.name (783 + (k + 1)) 0 0 1065 (t_P (fun v s' => v = none ∧ Q (.inr (s')))) 33 [(0, .ref 950), (1, .int (y0)), (2, .int (y1)), (3, .int (y2)), (4, .int (y3)), (5, .int (y4))] [] (t_m y5) 1065 0 0) (hk : t_hk (k_X13_rowOf_63 rc l1 l2 l3 l4 l5 k0 s) Q) : mj_G D cy ad bs X cX13_rowOf 7 yX13_rowOf.cls none yX13_rowOf.name (783 + (k + 1)) 0 0 1065 (t_P (fun v s' => v = none ∧ Q (.inr (s')))) 63 [(0, .ref 950), (1, .int l1), (2, .int l2), (3, .int l3), (4, .int l4), (5, .int l5)] [.int k0, .ref 950] (t_m s) 1065 0 0 := by
  refine t_bndK hk (fun r1 er1 hk => ?_)
  refine t_callSvE dX13_rowOf_63 M_X13_work (H.2.2.2.2.2.2.2.1 _ _ _ er1) ML_X13_897 SM_X13_work (As := [.ref 950, .int k0]) rfl rfl (by omega) (Nat.le_of_ble_eq_true rfl) (Nat.le_of_ble_eq_true rfl) (Nat.le_of_ble_eq_true rfl) ?_
  refine mj_iinc (k := 3) (v := (l3 + 1)) (lv2 := [(3, .int (l3 + 1)), (0, .ref 950), (1, .int l1), (2, .int l2), (4, .int l4), (5, .int l5)]) dX13_rowOf_66 rfl rfl (by decide) rfl ?_
  refine mj_aload_n dX13_rowOf_69 1 rfl ?_
  refine t_getR 960 dX13_rowOf_70 F_X13_42 qr_950_22 ?_
  refine mj_iload dX13_rowOf_73 5 rfl ?_
  refine t_chkK hk (fun c1 hk => ?_)
  refine t_iald dX13_rowOf_75 qa_960 (t_ixv c1) ?_
  refine mj_istore (lv2 := [(5, .int (r1.1 960 (l5.toNatClampNeg))), (3, .int (l3 + 1)), (0, .ref 950), (1, .int l1), (2, .int l2), (4, .int l4)]) dX13_rowOf_76 (by decide) rfl ?_
  refine mj_goto 33 dX13_rowOf_78 (by decide) ?_
  refine mj_sublv [(0, .ref 950), (1, .int l1), (2, .int l2), (3, .int (l3 + 1)), (4, .int l4), (5, .int (r1.1 960 (l5.toNatClampNeg)))] [2, 3, 4, 1, 5, 0] rfl ?_
  exact t_somK hk (fun hf => Hb33 l1 l2 (l3 + 1) l4 (r1.1 960 (l5.toNatClampNeg)) r1 hf)
noncomputable def k_X13_rowOf_33 (rc : RT_X13_behindFirst) (l1 : Int32) (l2 : Int32) (l3 : Int32) (l4 : Int32) (l5 : Int32) (s : t_S) : Option ((Int32 × Int32 × Int32 × Int32 × Int32 × t_S) ⊕ (t_S)) :=
 if l5 < (0 : Int32) then ((k_X13_rowOf_81 rc l1 l2 l3 l4 s).map Sum.inr)
 else (if (s.1 950 97) = (0 : Int32) then (if l4 = (0 : Int32) then (k_X13_rowOf_63 rc l1 l2 l3 l4 l5 l5 s)
 else (if t_ix l5 13000 = true then
  k_X13_rowOf_63 rc l1 l2 l3 l4 l5 (s.1 959 (l5.toNatClampNeg)) s
else none))
 else ((k_X13_rowOf_81 rc l1 l2 l3 l4 s).map Sum.inr))
set_option maxRecDepth 4000 in
set_option maxHeartbeats 1000000 in
theorem B_X13_rowOf_33 {D : va_G} {cy : Nat → ClassId} {ad : Nat → Nat} {bs : Nat} {X : State → Heap → Prop} (rc : RT_X13_behindFirst) {k : Nat} (H : RH_X13_behindFirst rc k) (l1 : Int32) (l2 : Int32) (l3 : Int32) (l4 : Int32) (l5 : Int32) (s : t_S) (Q : (Int32 × Int32 × Int32 × Int32 × Int32 × t_S) ⊕ (t_S) → Prop) (Hb33 : ∀ (y0 : Int32) (y1 : Int32) (y2 : Int32) (y3 : Int32) (y4 : Int32) (y5 : t_S), Q (.inl (y0, y1, y2, y3, y4, y5)) → mj_G D cy ad bs X cX13_rowOf 7 yX13_rowOf.cls none yX13_rowOf.name (783 + (k + 1)) 0 0 1065 (t_P (fun v s' => v = none ∧ Q (.inr (s')))) 33 [(0, .ref 950), (1, .int (y0)), (2, .int (y1)), (3, .int (y2)), (4, .int (y3)), (5, .int (y4))] [] (t_m y5) 1065 0 0) (hk : t_hk (k_X13_rowOf_33 rc l1 l2 l3 l4 l5 s) Q) : mj_G D cy ad bs X cX13_rowOf 7 yX13_rowOf.cls none yX13_rowOf.name (783 + (k + 1)) 0 0 1065 (t_P (fun v s' => v = none ∧ Q (.inr (s')))) 33 [(0, .ref 950), (1, .int l1), (2, .int l2), (3, .int l3), (4, .int l4), (5, .int l5)] [] (t_m s) 1065 0 0 := by
  refine mj_iload dX13_rowOf_33 5 rfl ?_
  refine mj_if_lt 81 dX13_rowOf_35 (by decide) (fun z => t_posK hk z (fun hk => ?_)) (fun z => t_negK hk z (fun hk => ?_))
  · refine mj_sublv [(0, .ref 950), (1, .int l1), (2, .int l2), (3, .int l3), (4, .int l4)] [0, 1, 2, 3, 4] rfl ?_
    refine t_mapK hk (fun hk => ?_)
    exact B_X13_rowOf_81 rc H _ _ _ _ _ _ hk
  · refine mj_aload_n dX13_rowOf_38 0 rfl ?_
    refine t_getI dX13_rowOf_39 F_X13_842 qf_950_97 ?_
    refine mj_if_ne 81 dX13_rowOf_42 (by decide) (fun z => t_negK hk z (fun hk => ?_)) (fun z => t_posK hk z (fun hk => ?_))
    · refine mj_sublv [(0, .ref 950), (1, .int l1), (2, .int l2), (3, .int l3), (4, .int l4)] [0, 1, 2, 3, 4] rfl ?_
      refine t_mapK hk (fun hk => ?_)
      exact B_X13_rowOf_81 rc H _ _ _ _ _ _ hk
    · refine mj_aload_n dX13_rowOf_45 0 rfl ?_
      refine mj_iload dX13_rowOf_46 4 rfl ?_
      refine mj_if_eq 61 dX13_rowOf_48 (by decide) (fun z => t_posK hk z (fun hk => ?_)) (fun z => t_negK hk z (fun hk => ?_))
      · refine mj_iload dX13_rowOf_61 5 rfl ?_
        exact B_X13_rowOf_63 rc H _ _ _ _ _ _ _ _ (fun y0 y1 y2 y3 y4 y5 hx => Hb33 y0 y1 y2 y3 y4 y5 hx) hk
      · refine mj_aload_n dX13_rowOf_51 0 rfl ?_
        refine t_getR 959 dX13_rowOf_52 F_X13_39 qr_950_21 ?_
        refine mj_iload dX13_rowOf_55 5 rfl ?_
        refine t_chkK hk (fun c0 hk => ?_)
        refine t_iald dX13_rowOf_57 qa_959 (t_ixv c0) ?_
        refine mj_goto 63 dX13_rowOf_58 (by decide) ?_
        exact B_X13_rowOf_63 rc H _ _ _ _ _ _ _ _ (fun y0 y1 y2 y3 y4 y5 hx => Hb33 y0 y1 y2 y3 y4 y5 hx) hk
noncomputable def b_X13_rowOf_33 (rc : RT_X13_behindFirst) (x : Int32 × Int32 × Int32 × Int32 × Int32 × t_S) : Option ((Int32 × Int32 × Int32 × Int32 × Int32 × t_S) ⊕ (t_S)) := k_X13_rowOf_33 rc x.1 x.2.1 x.2.2.1 x.2.2.2.1 x.2.2.2.2.1 x.2.2.2.2.2
set_option maxRecDepth 4000 in
set_option maxHeartbeats 1000000 in
theorem LH_X13_rowOf_33 {D : va_G} {cy : Nat → ClassId} {ad : Nat → Nat} {bs : Nat} {X : State → Heap → Prop} (rc : RT_X13_behindFirst) {k : Nat} (H : RH_X13_behindFirst rc k) : ∀ (n : Nat) (y0 : Int32) (y1 : Int32) (y2 : Int32) (y3 : Int32) (y4 : Int32) (y5 : t_S) (Q : t_S → Prop) (hk : t_hk (t_loop (b_X13_rowOf_33 rc) n (y0, y1, y2, y3, y4, y5)) Q), mj_G D cy ad bs X cX13_rowOf 7 yX13_rowOf.cls none yX13_rowOf.name (783 + (k + 1)) 0 0 1065 (t_P (fun v s' => v = none ∧ Q (s'))) 33 [(0, .ref 950), (1, .int (y0)), (2, .int (y1)), (3, .int (y2)), (4, .int (y3)), (5, .int (y4))] [] (t_m y5) 1065 0 0 := by
  intro n
  induction n with
  | zero => intro y0 y1 y2 y3 y4 y5 Q hk; obtain ⟨r, hr, _⟩ := hk; cases hr
  | succ n ih =>
    intro y0 y1 y2 y3 y4 y5 Q hk
    exact B_X13_rowOf_33 rc H y0 y1 y2 y3 y4 y5 (fun y => t_lq (b_X13_rowOf_33 rc) n Q y) (fun y0' y1' y2' y3' y4' y5' hy => ih y0' y1' y2' y3' y4' y5' Q hy) (t_lp (b := b_X13_rowOf_33 rc) (n := n) (x := (y0, y1, y2, y3, y4, y5)) hk)
noncomputable def k_X13_rowOf_23 (rc : RT_X13_behindFirst) (l1 : Int32) (l2 : Int32) (l3 : Int32) (k0 : Int32) (s : t_S) : Option (t_S) :=
 if t_ix l1 13000 = true then
  t_loop (b_X13_rowOf_33 rc) t_N (l1, l2, l3, k0, (s.1 959 (l1.toNatClampNeg)), s)
else none
set_option maxRecDepth 4000 in
set_option maxHeartbeats 1000000 in
theorem B_X13_rowOf_23 {D : va_G} {cy : Nat → ClassId} {ad : Nat → Nat} {bs : Nat} {X : State → Heap → Prop} (rc : RT_X13_behindFirst) {k : Nat} (H : RH_X13_behindFirst rc k) (l1 : Int32) (l2 : Int32) (l3 : Int32) (k0 : Int32) (s : t_S) (Q : t_S → Prop) (hk : t_hk (k_X13_rowOf_23 rc l1 l2 l3 k0 s) Q) : mj_G D cy ad bs X cX13_rowOf 7 yX13_rowOf.cls none yX13_rowOf.name (783 + (k + 1)) 0 0 1065 (t_P (fun v s' => v = none ∧ Q (s'))) 23 [(0, .ref 950), (1, .int l1), (2, .int l2), (3, .int l3)] [.int k0] (t_m s) 1065 0 0 := by
  refine mj_istore (lv2 := [(4, .int k0), (0, .ref 950), (1, .int l1), (2, .int l2), (3, .int l3)]) dX13_rowOf_23 (by decide) rfl ?_
  refine mj_aload_n dX13_rowOf_25 1 rfl ?_
  refine t_getR 959 dX13_rowOf_26 F_X13_39 qr_950_21 ?_
  refine mj_iload_n dX13_rowOf_29 2 rfl ?_
  refine t_chkK hk (fun c0 hk => ?_)
  refine t_iald dX13_rowOf_30 qa_959 (t_ixv c0) ?_
  refine mj_istore (lv2 := [(5, .int (s.1 959 (l1.toNatClampNeg))), (4, .int k0), (0, .ref 950), (1, .int l1), (2, .int l2), (3, .int l3)]) dX13_rowOf_31 (by decide) rfl ?_
  refine mj_sublv [(0, .ref 950), (1, .int l1), (2, .int l2), (3, .int l3), (4, .int k0), (5, .int (s.1 959 (l1.toNatClampNeg)))] [2, 3, 4, 5, 1, 0] rfl ?_
  exact LH_X13_rowOf_33 rc H _ l1 l2 l3 k0 (s.1 959 (l1.toNatClampNeg)) s _ hk
noncomputable def m_X13_rowOf (rc : RT_X13_behindFirst) (x2 : Int32) (s : t_S) : Option (t_S) :=
 if t_ix x2 13000 = true then
  if (s.1 955 (x2.toNatClampNeg)) = (59 : Int32) then (k_X13_rowOf_23 rc x2 (s.1 950 98) 0 1 s)
 else (k_X13_rowOf_23 rc x2 (s.1 950 98) 0 0 s)
else none
set_option maxRecDepth 4000 in
set_option maxHeartbeats 1000000 in
theorem E_X13_rowOf (rc : RT_X13_behindFirst) {k : Nat} (H : RH_X13_behindFirst rc k) (x2 : Int32) (s : t_S) (r : t_S) (hr : m_X13_rowOf rc x2 s = some r) : t_C yX13_rowOf cX13_rowOf 7 none (783 + (k + 1)) [.ref 950, .int x2] s (fun v s' => v = none ∧ s' = r) := by
  refine t_C.imp (P := fun v s' => v = none ∧ (fun q => q = r) (s')) (t_C.of (by decide +kernel) (Nat.le_of_ble_eq_true rfl) ?_) (fun v s' hp => hp)
  intro D cy ad bs X
  have hk : t_hk (m_X13_rowOf rc x2 s) (fun q => q = r) := ⟨r, hr, rfl⟩
  show mj_G D cy ad bs X cX13_rowOf 7 yX13_rowOf.cls none yX13_rowOf.name (783 + (k + 1)) 0 0 1065 (t_P (fun v s' => v = none ∧ (fun q => q = r) (s'))) 0 [(0, .ref 950), (1, .int x2)] [] (t_m s) 1065 0 0
  refine mj_aload_n dX13_rowOf_0 0 rfl ?_
  refine t_getI dX13_rowOf_1 F_X13_858 qf_950_98 ?_
  refine mj_istore_n 2 (lv2 := [(2, .int (s.1 950 98)), (0, .ref 950), (1, .int x2)]) dX13_rowOf_4 rfl (by decide) rfl ?_
  refine mj_iconst (v := 0) dX13_rowOf_5 (by decide) ?_
  refine mj_istore_n 3 (lv2 := [(3, .int 0), (2, .int (s.1 950 98)), (0, .ref 950), (1, .int x2)]) dX13_rowOf_6 rfl (by decide) rfl ?_
  refine mj_aload_n dX13_rowOf_7 2 rfl ?_
  refine t_getR 955 dX13_rowOf_8 F_X13_26 qr_950_17 ?_
  refine mj_iload_n dX13_rowOf_11 3 rfl ?_
  refine t_chkK hk (fun c0 hk => ?_)
  refine t_iald dX13_rowOf_12 qa_955 (t_ixv c0) ?_
  refine mj_bipush (v := 59) dX13_rowOf_13 (by decide) ?_
  refine mj_icmp_ne 22 dX13_rowOf_15 (by decide) (fun z => t_negK hk z (fun hk => ?_)) (fun z => t_posK hk z (fun hk => ?_))
  · refine mj_iconst (v := 0) dX13_rowOf_22 (by decide) ?_
    refine mj_sublv [(0, .ref 950), (1, .int x2), (2, .int (s.1 950 98)), (3, .int 0)] [2, 3, 1, 0] rfl ?_
    exact B_X13_rowOf_23 rc H _ _ _ _ _ _ hk
  · refine mj_iconst (v := 1) dX13_rowOf_18 (by decide) ?_
    refine mj_goto 23 dX13_rowOf_19 (by decide) ?_
    refine mj_sublv [(0, .ref 950), (1, .int x2), (2, .int (s.1 950 98)), (3, .int 0)] [2, 3, 1, 0] rfl ?_
    exact B_X13_rowOf_23 rc H _ _ _ _ _ _ hk
noncomputable def k_X13_two_84 (rc : RT_X13_behindFirst) (l3 : Int32) (k0 : Int32) (k1 : Int32) (s : t_S) : Option (t_S) :=
 if k1 = k0 then (some (s))
 else (t_let (t_setI s 950 98 ((s.1 950 98) - (1 : Int32))) (fun s1 =>
 if t_ix l3 13000 = true then
  (rc.2.2.2.2.2.2.2.1 (s1.1 960 (l3.toNatClampNeg)) s1).bind (fun r2 =>
 if (r2.1 950 97) = (0 : Int32) then (if t_ix (f_X13_top r2) 626600 = true then
  if (lg_cmp (r2.2.1 1006 ((f_X13_top r2).toNatClampNeg)) (1 : Int64)) = (0 : Int32) then (some (r2))
 else ((f_X13_error (1 : Int32) r2).bind (fun r5 =>
 some (r5)))
else none)
 else (some (r2)))
else none))
set_option maxRecDepth 4000 in
set_option maxHeartbeats 1000000 in
theorem B_X13_two_84 {D : va_G} {cy : Nat → ClassId} {ad : Nat → Nat} {bs : Nat} {X : State → Heap → Prop} (rc : RT_X13_behindFirst) {k : Nat} (H : RH_X13_behindFirst rc k) (l3 : Int32) (k0 : Int32) (k1 : Int32) (s : t_S) (Q : t_S → Prop) (hk : t_hk (k_X13_two_84 rc l3 k0 k1 s) Q) : mj_G D cy ad bs X cX13_two 5 yX13_two.cls none yX13_two.name (783 + (k + 1)) 0 0 1065 (t_P (fun v s' => v = none ∧ Q (s'))) 84 [(0, .ref 950), (3, .int l3)] [.int k0, .int k1] (t_m s) 1065 0 0 := by
  refine mj_icmp_ne 88 dX13_two_84 (by decide) (fun z => t_negK hk z (fun hk => ?_)) (fun z => t_posK hk z (fun hk => ?_))
  · refine mj_aload_n dX13_two_88 0 rfl ?_
    refine mj_dup dX13_two_89 rfl ?_
    refine t_getI dX13_two_90 F_X13_858 qf_950_98 ?_
    refine mj_iconst (v := 1) dX13_two_93 (by decide) ?_
    refine mj_isub dX13_two_94 ?_
    refine t_putIK dX13_two_95 F_X13_858 qf_950_98 rfl (fun s1 ws1 => t_letE hk ws1 (fun hk => ?_))
    refine mj_aload_n dX13_two_98 0 rfl ?_
    refine mj_aload_n dX13_two_99 0 rfl ?_
    refine t_getR 960 dX13_two_100 F_X13_42 qr_950_22 ?_
    refine mj_iload_n dX13_two_103 1 rfl ?_
    refine t_chkK hk (fun c0 hk => ?_)
    refine t_iald dX13_two_104 qa_960 (t_ixv c0) ?_
    refine t_bndK hk (fun r2 er2 hk => ?_)
    refine t_callSvE dX13_two_105 M_X13_work (H.2.2.2.2.2.2.2.1 _ _ _ er2) ML_X13_897 SM_X13_work (As := [.ref 950, .int (s1.1 960 (l3.toNatClampNeg))]) rfl rfl (by omega) (Nat.le_of_ble_eq_true rfl) (Nat.le_of_ble_eq_true rfl) (Nat.le_of_ble_eq_true rfl) ?_
    refine mj_aload_n dX13_two_108 0 rfl ?_
    refine t_getI dX13_two_109 F_X13_842 qf_950_97 ?_
    refine mj_if_ne 134 dX13_two_112 (by decide) (fun z => t_negK hk z (fun hk => ?_)) (fun z => t_posK hk z (fun hk => ?_))
    · exact t_somK hk (fun hf => t_vret dX13_two_134 rfl ⟨rfl, hf⟩ (Nat.le_of_ble_eq_true rfl) (Nat.le_of_ble_eq_true rfl))
    · refine mj_aload_n dX13_two_115 0 rfl ?_
      refine t_getR 1006 dX13_two_116 F_X13_182 qr_950_95 ?_
      refine mj_aload_n dX13_two_119 0 rfl ?_
      refine t_callViP dX13_two_120 M_X13_top (C_X13_top _) ML_X13_941 IM_X13_top SE_X13_top qc_950 rfl (As := []) rfl rfl (by omega) (Nat.le_of_ble_eq_true rfl) (Nat.le_of_ble_eq_true rfl) (Nat.le_of_ble_eq_true rfl) ?_
      refine t_chkK hk (fun c3 hk => ?_)
      refine t_lald dX13_two_123 qa_1006 (t_ixv c3) ?_
      refine mj_lconst (v := 1) dX13_two_124 (by decide) ?_
      refine mj_lcmp dX13_two_125 ?_
      refine mj_if_eq 134 dX13_two_126 (by decide) (fun z => t_posK hk z (fun hk => ?_)) (fun z => t_negK hk z (fun hk => ?_))
      · exact t_somK hk (fun hf => t_vret dX13_two_134 rfl ⟨rfl, hf⟩ (Nat.le_of_ble_eq_true rfl) (Nat.le_of_ble_eq_true rfl))
      · refine mj_aload_n dX13_two_129 0 rfl ?_
        refine mj_iconst (v := 1) dX13_two_130 (by decide) ?_
        refine t_bndK hk (fun r5 er5 hk => ?_)
        refine t_callVvE dX13_two_131 M_X13_error (C_X13_error _ _ _ er5) ML_X13_866 IM_X13_error SE_X13_error qc_950 rfl (As := [.int 1]) rfl rfl (by omega) (Nat.le_of_ble_eq_true rfl) (Nat.le_of_ble_eq_true rfl) (Nat.le_of_ble_eq_true rfl) ?_
        exact t_somK hk (fun hf => t_vret dX13_two_134 rfl ⟨rfl, hf⟩ (Nat.le_of_ble_eq_true rfl) (Nat.le_of_ble_eq_true rfl))
  · exact t_somK hk (fun hf => t_vret dX13_two_87 rfl ⟨rfl, hf⟩ (Nat.le_of_ble_eq_true rfl) (Nat.le_of_ble_eq_true rfl))
noncomputable def k_X13_two_72 (rc : RT_X13_behindFirst) (l2 : Int32) (l3 : Int32) (k0 : Int32) (s : t_S) : Option (t_S) :=
 if l2 = (31868 : Int32) then (k_X13_two_84 rc l3 1 k0 s)
 else (k_X13_two_84 rc l3 0 k0 s)
set_option maxRecDepth 4000 in
set_option maxHeartbeats 1000000 in
theorem B_X13_two_72 {D : va_G} {cy : Nat → ClassId} {ad : Nat → Nat} {bs : Nat} {X : State → Heap → Prop} (rc : RT_X13_behindFirst) {k : Nat} (H : RH_X13_behindFirst rc k) (l2 : Int32) (l3 : Int32) (k0 : Int32) (s : t_S) (Q : t_S → Prop) (hk : t_hk (k_X13_two_72 rc l2 l3 k0 s) Q) : mj_G D cy ad bs X cX13_two 5 yX13_two.cls none yX13_two.name (783 + (k + 1)) 0 0 1065 (t_P (fun v s' => v = none ∧ Q (s'))) 72 [(0, .ref 950), (2, .int l2), (3, .int l3)] [.int k0] (t_m s) 1065 0 0 := by
  refine mj_iload_n dX13_two_72 1 rfl ?_
  refine mj_sipush (v := 31868) dX13_two_73 (by decide) ?_
  refine mj_icmp_ne 83 dX13_two_76 (by decide) (fun z => t_negK hk z (fun hk => ?_)) (fun z => t_posK hk z (fun hk => ?_))
  · refine mj_iconst (v := 0) dX13_two_83 (by decide) ?_
    refine mj_sublv [(0, .ref 950), (3, .int l3)] [0, 2] rfl ?_
    exact B_X13_two_84 rc H _ _ _ _ _ hk
  · refine mj_iconst (v := 1) dX13_two_79 (by decide) ?_
    refine mj_goto 84 dX13_two_80 (by decide) ?_
    refine mj_sublv [(0, .ref 950), (3, .int l3)] [0, 2] rfl ?_
    exact B_X13_two_84 rc H _ _ _ _ _ hk
noncomputable def k_X13_two_29 (rc : RT_X13_behindFirst) (l2 : Int32) (l3 : Int32) (s : t_S) : Option (t_S) :=
 if t_ix (f_X13_top s) 626600 = true then
  if (lg_cmp (s.2.1 1006 ((f_X13_top s).toNatClampNeg)) (1 : Int64)) = (0 : Int32) then (if t_ix ((f_X13_top s) + (1 : Int32)) 626600 = true then
  if (lg_cmp (s.2.1 1006 (((f_X13_top s) + (1 : Int32)).toNatClampNeg)) (1 : Int64)) = (0 : Int32) then (k_X13_two_72 rc l2 l3 1 s)
 else (k_X13_two_72 rc l2 l3 0 s)
else none)
 else ((f_X13_error (1 : Int32) s).bind (fun r4 =>
 some (r4)))
else none
set_option maxRecDepth 4000 in
set_option maxHeartbeats 1000000 in
theorem B_X13_two_29 {D : va_G} {cy : Nat → ClassId} {ad : Nat → Nat} {bs : Nat} {X : State → Heap → Prop} (rc : RT_X13_behindFirst) {k : Nat} (H : RH_X13_behindFirst rc k) (l2 : Int32) (l3 : Int32) (s : t_S) (Q : t_S → Prop) (hk : t_hk (k_X13_two_29 rc l2 l3 s) Q) : mj_G D cy ad bs X cX13_two 5 yX13_two.cls none yX13_two.name (783 + (k + 1)) 0 0 1065 (t_P (fun v s' => v = none ∧ Q (s'))) 29 [(0, .ref 950), (2, .int l2), (3, .int l3)] [] (t_m s) 1065 0 0 := by
  refine mj_aload_n dX13_two_29 0 rfl ?_
  refine t_callViP dX13_two_30 M_X13_top (C_X13_top _) ML_X13_941 IM_X13_top SE_X13_top qc_950 rfl (As := []) rfl rfl (by omega) (Nat.le_of_ble_eq_true rfl) (Nat.le_of_ble_eq_true rfl) (Nat.le_of_ble_eq_true rfl) ?_
  refine mj_istore (lv2 := [(4, .int (f_X13_top s)), (0, .ref 950), (2, .int l2), (3, .int l3)]) dX13_two_33 (by decide) rfl ?_
  refine mj_aload_n dX13_two_35 1 rfl ?_
  refine t_getR 1006 dX13_two_36 F_X13_182 qr_950_95 ?_
  refine mj_iload dX13_two_39 0 rfl ?_
  refine t_chkK hk (fun c1 hk => ?_)
  refine t_lald dX13_two_41 qa_1006 (t_ixv c1) ?_
  refine mj_lconst (v := 1) dX13_two_42 (by decide) ?_
  refine mj_lcmp dX13_two_43 ?_
  refine mj_if_eq 53 dX13_two_44 (by decide) (fun z => t_posK hk z (fun hk => ?_)) (fun z => t_negK hk z (fun hk => ?_))
  · refine mj_aload_n dX13_two_53 1 rfl ?_
    refine t_getR 1006 dX13_two_54 F_X13_182 qr_950_95 ?_
    refine mj_iload dX13_two_57 0 rfl ?_
    refine mj_iconst (v := 1) dX13_two_59 (by decide) ?_
    refine mj_iadd dX13_two_60 ?_
    refine t_chkK hk (fun c2 hk => ?_)
    refine t_lald dX13_two_61 qa_1006 (t_ixv c2) ?_
    refine mj_lconst (v := 1) dX13_two_62 (by decide) ?_
    refine mj_lcmp dX13_two_63 ?_
    refine mj_if_ne 71 dX13_two_64 (by decide) (fun z => t_negK hk z (fun hk => ?_)) (fun z => t_posK hk z (fun hk => ?_))
    · refine mj_iconst (v := 0) dX13_two_71 (by decide) ?_
      refine mj_sublv [(0, .ref 950), (2, .int l2), (3, .int l3)] [1, 2, 3] rfl ?_
      exact B_X13_two_72 rc H _ _ _ _ _ hk
    · refine mj_iconst (v := 1) dX13_two_67 (by decide) ?_
      refine mj_goto 72 dX13_two_68 (by decide) ?_
      refine mj_sublv [(0, .ref 950), (2, .int l2), (3, .int l3)] [1, 2, 3] rfl ?_
      exact B_X13_two_72 rc H _ _ _ _ _ hk
  · refine mj_aload_n dX13_two_47 1 rfl ?_
    refine mj_iconst (v := 1) dX13_two_48 (by decide) ?_
    refine t_bndK hk (fun r4 er4 hk => ?_)
    refine t_callVvE dX13_two_49 M_X13_error (C_X13_error _ _ _ er4) ML_X13_866 IM_X13_error SE_X13_error qc_950 rfl (As := [.int 1]) rfl rfl (by omega) (Nat.le_of_ble_eq_true rfl) (Nat.le_of_ble_eq_true rfl) (Nat.le_of_ble_eq_true rfl) ?_
    exact t_somK hk (fun hf => t_vret dX13_two_52 rfl ⟨rfl, hf⟩ (Nat.le_of_ble_eq_true rfl) (Nat.le_of_ble_eq_true rfl))
noncomputable def m_X13_two (rc : RT_X13_behindFirst) (x2 : Int32) (s : t_S) : Option (t_S) :=
 if t_ix x2 13000 = true then
  if ((s.2.1 957 (x2.toNatClampNeg)).toInt32) = (9766 : Int32) then (k_X13_two_29 rc ((s.2.1 957 (x2.toNatClampNeg)).toInt32) (s.1 959 (x2.toNatClampNeg)) s)
 else (if ((s.2.1 957 (x2.toNatClampNeg)).toInt32) = (31868 : Int32) then (k_X13_two_29 rc ((s.2.1 957 (x2.toNatClampNeg)).toInt32) (s.1 959 (x2.toNatClampNeg)) s)
 else (if t_ix (s.1 959 (x2.toNatClampNeg)) 13000 = true then
  (rc.2.2.2.2.2.2.2.1 (s.1 960 ((s.1 959 (x2.toNatClampNeg)).toNatClampNeg)) s).bind (fun r3 =>
 if (r3.1 950 97) = (0 : Int32) then ((f_X13_join ((s.2.1 957 (x2.toNatClampNeg)).toInt32) r3).bind (fun r4 =>
 some (r4)))
 else (some (r3)))
else none))
else none
set_option maxRecDepth 4000 in
set_option maxHeartbeats 1000000 in
theorem E_X13_two (rc : RT_X13_behindFirst) {k : Nat} (H : RH_X13_behindFirst rc k) (x2 : Int32) (s : t_S) (r : t_S) (hr : m_X13_two rc x2 s = some r) : t_C yX13_two cX13_two 5 none (783 + (k + 1)) [.ref 950, .int x2] s (fun v s' => v = none ∧ s' = r) := by
  refine t_C.imp (P := fun v s' => v = none ∧ (fun q => q = r) (s')) (t_C.of (by decide +kernel) (Nat.le_of_ble_eq_true rfl) ?_) (fun v s' hp => hp)
  intro D cy ad bs X
  have hk : t_hk (m_X13_two rc x2 s) (fun q => q = r) := ⟨r, hr, rfl⟩
  show mj_G D cy ad bs X cX13_two 5 yX13_two.cls none yX13_two.name (783 + (k + 1)) 0 0 1065 (t_P (fun v s' => v = none ∧ (fun q => q = r) (s'))) 0 [(0, .ref 950), (1, .int x2)] [] (t_m s) 1065 0 0
  refine mj_aload_n dX13_two_0 0 rfl ?_
  refine t_getR 957 dX13_two_1 F_X13_32 qr_950_19 ?_
  refine mj_iload_n dX13_two_4 1 rfl ?_
  refine t_chkK hk (fun c0 hk => ?_)
  refine t_lald dX13_two_5 qa_957 (t_ixv c0) ?_
  refine mj_l2i (v := (s.2.1 957 (x2.toNatClampNeg)).toInt32) dX13_two_6 rfl ?_
  refine mj_istore_n 2 (lv2 := [(2, .int ((s.2.1 957 (x2.toNatClampNeg)).toInt32)), (0, .ref 950), (1, .int x2)]) dX13_two_7 rfl (by decide) rfl ?_
  refine mj_aload_n dX13_two_8 1 rfl ?_
  refine t_getR 959 dX13_two_9 F_X13_39 qr_950_21 ?_
  refine mj_iload_n dX13_two_12 2 rfl ?_
  refine t_iald dX13_two_13 qa_959 (t_ixv c0) ?_
  refine mj_istore_n 3 (lv2 := [(3, .int (s.1 959 (x2.toNatClampNeg))), (2, .int ((s.2.1 957 (x2.toNatClampNeg)).toInt32)), (0, .ref 950), (1, .int x2)]) dX13_two_14 rfl (by decide) rfl ?_
  refine mj_iload_n dX13_two_15 1 rfl ?_
  refine mj_sipush (v := 9766) dX13_two_16 (by decide) ?_
  refine mj_icmp_eq 29 dX13_two_19 (by decide) (fun z => t_posK hk z (fun hk => ?_)) (fun z => t_negK hk z (fun hk => ?_))
  · refine mj_sublv [(0, .ref 950), (2, .int ((s.2.1 957 (x2.toNatClampNeg)).toInt32)), (3, .int (s.1 959 (x2.toNatClampNeg)))] [2, 1, 0] rfl ?_
    exact B_X13_two_29 rc H _ _ _ _ hk
  · refine mj_iload_n dX13_two_22 1 rfl ?_
    refine mj_sipush (v := 31868) dX13_two_23 (by decide) ?_
    refine mj_icmp_ne 135 dX13_two_26 (by decide) (fun z => t_negK hk z (fun hk => ?_)) (fun z => t_posK hk z (fun hk => ?_))
    · refine mj_aload_n dX13_two_135 2 rfl ?_
      refine mj_aload_n dX13_two_136 2 rfl ?_
      refine t_getR 960 dX13_two_137 F_X13_42 qr_950_22 ?_
      refine mj_iload_n dX13_two_140 0 rfl ?_
      refine t_chkK hk (fun c1 hk => ?_)
      refine t_iald dX13_two_141 qa_960 (t_ixv c1) ?_
      refine t_bndK hk (fun r3 er3 hk => ?_)
      refine t_callSvE dX13_two_142 M_X13_work (H.2.2.2.2.2.2.2.1 _ _ _ er3) ML_X13_897 SM_X13_work (As := [.ref 950, .int (s.1 960 ((s.1 959 (x2.toNatClampNeg)).toNatClampNeg))]) rfl rfl (by omega) (Nat.le_of_ble_eq_true rfl) (Nat.le_of_ble_eq_true rfl) (Nat.le_of_ble_eq_true rfl) ?_
      refine mj_aload_n dX13_two_145 2 rfl ?_
      refine t_getI dX13_two_146 F_X13_842 qf_950_97 ?_
      refine mj_if_ne 157 dX13_two_149 (by decide) (fun z => t_negK hk z (fun hk => ?_)) (fun z => t_posK hk z (fun hk => ?_))
      · exact t_somK hk (fun hf => t_vret dX13_two_157 rfl ⟨rfl, hf⟩ (Nat.le_of_ble_eq_true rfl) (Nat.le_of_ble_eq_true rfl))
      · refine mj_aload_n dX13_two_152 2 rfl ?_
        refine mj_iload_n dX13_two_153 1 rfl ?_
        refine t_bndK hk (fun r4 er4 hk => ?_)
        refine t_callVvE dX13_two_154 M_X13_join (C_X13_join _ _ _ er4) ML_X13_977 IM_X13_join SE_X13_join qc_950 rfl (As := [.int ((s.2.1 957 (x2.toNatClampNeg)).toInt32)]) rfl rfl (by omega) (Nat.le_of_ble_eq_true rfl) (Nat.le_of_ble_eq_true rfl) (Nat.le_of_ble_eq_true rfl) ?_
        exact t_somK hk (fun hf => t_vret dX13_two_157 rfl ⟨rfl, hf⟩ (Nat.le_of_ble_eq_true rfl) (Nat.le_of_ble_eq_true rfl))
    · refine mj_sublv [(0, .ref 950), (2, .int ((s.2.1 957 (x2.toNatClampNeg)).toInt32)), (3, .int (s.1 959 (x2.toNatClampNeg)))] [2, 1, 0] rfl ?_
      exact B_X13_two_29 rc H _ _ _ _ hk
noncomputable def k_X13_work_55 (rc : RT_X13_behindFirst) (l2 : Int32) (s : t_S) : Option ((Int32 × t_S) ⊕ (t_S)) :=
 if (s.1 950 103) ≤ l2 then ((some (s)).map Sum.inr)
 else (t_let (t_setI s 950 103 ((s.1 950 103) - (1 : Int32))) (fun s1 =>
 if (s1.1 950 97) = (0 : Int32) then (if t_ix (s1.1 950 103) 13000 = true then
  (rc.1 (s1.1 1008 ((s1.1 950 103).toNatClampNeg)) s1).bind (fun r2 =>
 some (.inl (l2, r2)))
else none)
 else (some (.inl (l2, s1)))))
set_option maxRecDepth 4000 in
set_option maxHeartbeats 1000000 in
theorem B_X13_work_55 {D : va_G} {cy : Nat → ClassId} {ad : Nat → Nat} {bs : Nat} {X : State → Heap → Prop} (rc : RT_X13_behindFirst) {k : Nat} (H : RH_X13_behindFirst rc k) (l2 : Int32) (s : t_S) (Q : (Int32 × t_S) ⊕ (t_S) → Prop) (Hb55 : ∀ (y0 : Int32) (y1 : t_S), Q (.inl (y0, y1)) → mj_G D cy ad bs X cX13_work 4 yX13_work.cls none yX13_work.name (783 + (k + 1)) 0 0 1065 (t_P (fun v s' => v = none ∧ Q (.inr (s')))) 55 [(0, .ref 950), (2, .int (y0))] [] (t_m y1) 1065 0 0) (hk : t_hk (k_X13_work_55 rc l2 s) Q) : mj_G D cy ad bs X cX13_work 4 yX13_work.cls none yX13_work.name (783 + (k + 1)) 0 0 1065 (t_P (fun v s' => v = none ∧ Q (.inr (s')))) 55 [(0, .ref 950), (2, .int l2)] [] (t_m s) 1065 0 0 := by
  refine mj_aload_n dX13_work_55 0 rfl ?_
  refine t_getI dX13_work_56 F_X13_882 qf_950_103 ?_
  refine mj_iload_n dX13_work_59 1 rfl ?_
  refine mj_icmp_le 96 dX13_work_60 (by decide) (fun z => t_posK hk z (fun hk => ?_)) (fun z => t_negK hk z (fun hk => ?_))
  · refine t_mapK hk (fun hk => ?_)
    exact t_somK hk (fun hf => t_vret dX13_work_96 rfl ⟨rfl, hf⟩ (Nat.le_of_ble_eq_true rfl) (Nat.le_of_ble_eq_true rfl))
  · refine mj_aload_n dX13_work_63 0 rfl ?_
    refine mj_dup dX13_work_64 rfl ?_
    refine t_getI dX13_work_65 F_X13_882 qf_950_103 ?_
    refine mj_iconst (v := 1) dX13_work_68 (by decide) ?_
    refine mj_isub dX13_work_69 ?_
    refine t_putIK dX13_work_70 F_X13_882 qf_950_103 rfl (fun s1 ws1 => t_letE hk ws1 (fun hk => ?_))
    refine mj_aload_n dX13_work_73 0 rfl ?_
    refine t_getI dX13_work_74 F_X13_842 qf_950_97 ?_
    refine mj_if_ne 55 dX13_work_77 (by decide) (fun z => t_negK hk z (fun hk => ?_)) (fun z => t_posK hk z (fun hk => ?_))
    · exact t_somK hk (fun hf => Hb55 l2 s1 hf)
    · refine mj_aload_n dX13_work_80 0 rfl ?_
      refine mj_aload_n dX13_work_81 0 rfl ?_
      refine t_getR 1008 dX13_work_82 F_X13_188 qr_950_102 ?_
      refine mj_aload_n dX13_work_85 0 rfl ?_
      refine t_getI dX13_work_86 F_X13_882 qf_950_103 ?_
      refine t_chkK hk (fun c0 hk => ?_)
      refine t_iald dX13_work_89 qa_1008 (t_ixv c0) ?_
      refine t_bndK hk (fun r2 er2 hk => ?_)
      refine t_callSvE dX13_work_90 M_X13_behindFirst (H.1 _ _ _ er2) ML_X13_891 SM_X13_behindFirst (As := [.ref 950, .int (s1.1 1008 ((s1.1 950 103).toNatClampNeg))]) rfl rfl (by omega) (Nat.le_of_ble_eq_true rfl) (Nat.le_of_ble_eq_true rfl) (Nat.le_of_ble_eq_true rfl) ?_
      refine mj_goto 55 dX13_work_93 (by decide) ?_
      exact t_somK hk (fun hf => Hb55 l2 r2 hf)
noncomputable def b_X13_work_55 (rc : RT_X13_behindFirst) (x : Int32 × t_S) : Option ((Int32 × t_S) ⊕ (t_S)) := k_X13_work_55 rc x.1 x.2
set_option maxRecDepth 4000 in
set_option maxHeartbeats 1000000 in
theorem LH_X13_work_55 {D : va_G} {cy : Nat → ClassId} {ad : Nat → Nat} {bs : Nat} {X : State → Heap → Prop} (rc : RT_X13_behindFirst) {k : Nat} (H : RH_X13_behindFirst rc k) : ∀ (n : Nat) (y0 : Int32) (y1 : t_S) (Q : t_S → Prop) (hk : t_hk (t_loop (b_X13_work_55 rc) n (y0, y1)) Q), mj_G D cy ad bs X cX13_work 4 yX13_work.cls none yX13_work.name (783 + (k + 1)) 0 0 1065 (t_P (fun v s' => v = none ∧ Q (s'))) 55 [(0, .ref 950), (2, .int (y0))] [] (t_m y1) 1065 0 0 := by
  intro n
  induction n with
  | zero => intro y0 y1 Q hk; obtain ⟨r, hr, _⟩ := hk; cases hr
  | succ n ih =>
    intro y0 y1 Q hk
    exact B_X13_work_55 rc H y0 y1 (fun y => t_lq (b_X13_work_55 rc) n Q y) (fun y0' y1' hy => ih y0' y1' Q hy) (t_lp (b := b_X13_work_55 rc) (n := n) (x := (y0, y1)) hk)
noncomputable def k_X13_work_7 (rc : RT_X13_behindFirst) (l2 : Int32) (l3 : Int32) (s : t_S) : Option ((Int32 × Int32 × t_S) ⊕ (t_S)) :=
 if t_ix l3 13000 = true then
  if (f_X13_isSpine (s.1 955 (l3.toNatClampNeg)) s) = (0 : Int32) then (((rc.2.1 l3 s).bind (fun r3 =>
 t_loop (b_X13_work_55 rc) t_N (l2, r3))).map Sum.inr)
 else (if t_ix (s.1 950 103) 13000 = true then
  t_let (t_setI s 1008 ((s.1 950 103).toNatClampNeg) l3) (fun s1 =>
 t_let (t_setI s1 950 103 ((s1.1 950 103) + (1 : Int32))) (fun s2 =>
 some (.inl (l2, (s2.1 959 (l3.toNatClampNeg)), s2))))
else none)
else none
set_option maxRecDepth 4000 in
set_option maxHeartbeats 1000000 in
theorem B_X13_work_7 {D : va_G} {cy : Nat → ClassId} {ad : Nat → Nat} {bs : Nat} {X : State → Heap → Prop} (rc : RT_X13_behindFirst) {k : Nat} (H : RH_X13_behindFirst rc k) (l2 : Int32) (l3 : Int32) (s : t_S) (Q : (Int32 × Int32 × t_S) ⊕ (t_S) → Prop) (Hb7 : ∀ (y0 : Int32) (y1 : Int32) (y2 : t_S), Q (.inl (y0, y1, y2)) → mj_G D cy ad bs X cX13_work 4 yX13_work.cls none yX13_work.name (783 + (k + 1)) 0 0 1065 (t_P (fun v s' => v = none ∧ Q (.inr (s')))) 7 [(0, .ref 950), (2, .int (y0)), (3, .int (y1))] [] (t_m y2) 1065 0 0) (hk : t_hk (k_X13_work_7 rc l2 l3 s) Q) : mj_G D cy ad bs X cX13_work 4 yX13_work.cls none yX13_work.name (783 + (k + 1)) 0 0 1065 (t_P (fun v s' => v = none ∧ Q (.inr (s')))) 7 [(0, .ref 950), (2, .int l2), (3, .int l3)] [] (t_m s) 1065 0 0 := by
  refine mj_aload_n dX13_work_7 0 rfl ?_
  refine mj_aload_n dX13_work_8 0 rfl ?_
  refine t_getR 955 dX13_work_9 F_X13_26 qr_950_17 ?_
  refine mj_iload_n dX13_work_12 2 rfl ?_
  refine t_chkK hk (fun c0 hk => ?_)
  refine t_iald dX13_work_13 qa_955 (t_ixv c0) ?_
  refine t_callViP dX13_work_14 M_X13_isSpine (C_X13_isSpine _ _) ML_X13_885 IM_X13_isSpine SE_X13_isSpine qc_950 rfl (As := [.int (s.1 955 (l3.toNatClampNeg))]) rfl rfl (by omega) (Nat.le_of_ble_eq_true rfl) (Nat.le_of_ble_eq_true rfl) (Nat.le_of_ble_eq_true rfl) ?_
  refine mj_if_eq 50 dX13_work_17 (by decide) (fun z => t_posK hk z (fun hk => ?_)) (fun z => t_negK hk z (fun hk => ?_))
  · refine t_mapK hk (fun hk => ?_)
    refine mj_aload_n dX13_work_50 0 rfl ?_
    refine mj_iload_n dX13_work_51 2 rfl ?_
    refine t_bndK hk (fun r3 er3 hk => ?_)
    refine t_callSvE dX13_work_52 M_X13_leaf (H.2.1 _ _ _ er3) ML_X13_888 SM_X13_leaf (As := [.ref 950, .int l3]) rfl rfl (by omega) (Nat.le_of_ble_eq_true rfl) (Nat.le_of_ble_eq_true rfl) (Nat.le_of_ble_eq_true rfl) ?_
    refine mj_sublv [(0, .ref 950), (2, .int l2)] [0, 1] rfl ?_
    exact LH_X13_work_55 rc H _ l2 r3 _ hk
  · refine mj_aload_n dX13_work_20 0 rfl ?_
    refine t_getR 1008 dX13_work_21 F_X13_188 qr_950_102 ?_
    refine mj_aload_n dX13_work_24 0 rfl ?_
    refine t_getI dX13_work_25 F_X13_882 qf_950_103 ?_
    refine mj_iload_n dX13_work_28 2 rfl ?_
    refine t_chkK hk (fun c3 hk => ?_)
    refine t_iastK dX13_work_29 qa_1008 (t_ixv c3) (fun s1 ws1 => t_letE hk ws1 (fun hk => ?_))
    refine mj_aload_n dX13_work_30 0 rfl ?_
    refine mj_dup dX13_work_31 rfl ?_
    refine t_getI dX13_work_32 F_X13_882 qf_950_103 ?_
    refine mj_iconst (v := 1) dX13_work_35 (by decide) ?_
    refine mj_iadd dX13_work_36 ?_
    refine t_putIK dX13_work_37 F_X13_882 qf_950_103 rfl (fun s2 ws2 => t_letE hk ws2 (fun hk => ?_))
    refine mj_aload_n dX13_work_40 0 rfl ?_
    refine t_getR 959 dX13_work_41 F_X13_39 qr_950_21 ?_
    refine mj_iload_n dX13_work_44 2 rfl ?_
    refine t_iald dX13_work_45 qa_959 (t_ixv c0) ?_
    refine mj_istore_n 3 (lv2 := [(3, .int (s2.1 959 (l3.toNatClampNeg))), (0, .ref 950), (2, .int l2)]) dX13_work_46 rfl (by decide) rfl ?_
    refine mj_goto 7 dX13_work_47 (by decide) ?_
    refine mj_sublv [(0, .ref 950), (2, .int l2), (3, .int (s2.1 959 (l3.toNatClampNeg)))] [1, 2, 0] rfl ?_
    exact t_somK hk (fun hf => Hb7 l2 (s2.1 959 (l3.toNatClampNeg)) s2 hf)
noncomputable def b_X13_work_7 (rc : RT_X13_behindFirst) (x : Int32 × Int32 × t_S) : Option ((Int32 × Int32 × t_S) ⊕ (t_S)) := k_X13_work_7 rc x.1 x.2.1 x.2.2
set_option maxRecDepth 4000 in
set_option maxHeartbeats 1000000 in
theorem LH_X13_work_7 {D : va_G} {cy : Nat → ClassId} {ad : Nat → Nat} {bs : Nat} {X : State → Heap → Prop} (rc : RT_X13_behindFirst) {k : Nat} (H : RH_X13_behindFirst rc k) : ∀ (n : Nat) (y0 : Int32) (y1 : Int32) (y2 : t_S) (Q : t_S → Prop) (hk : t_hk (t_loop (b_X13_work_7 rc) n (y0, y1, y2)) Q), mj_G D cy ad bs X cX13_work 4 yX13_work.cls none yX13_work.name (783 + (k + 1)) 0 0 1065 (t_P (fun v s' => v = none ∧ Q (s'))) 7 [(0, .ref 950), (2, .int (y0)), (3, .int (y1))] [] (t_m y2) 1065 0 0 := by
  intro n
  induction n with
  | zero => intro y0 y1 y2 Q hk; obtain ⟨r, hr, _⟩ := hk; cases hr
  | succ n ih =>
    intro y0 y1 y2 Q hk
    exact B_X13_work_7 rc H y0 y1 y2 (fun y => t_lq (b_X13_work_7 rc) n Q y) (fun y0' y1' y2' hy => ih y0' y1' y2' Q hy) (t_lp (b := b_X13_work_7 rc) (n := n) (x := (y0, y1, y2)) hk)
noncomputable def m_X13_work (rc : RT_X13_behindFirst) (x2 : Int32) (s : t_S) : Option (t_S) :=
 t_loop (b_X13_work_7 rc) t_N ((s.1 950 103), x2, s)
set_option maxRecDepth 4000 in
set_option maxHeartbeats 1000000 in
theorem E_X13_work (rc : RT_X13_behindFirst) {k : Nat} (H : RH_X13_behindFirst rc k) (x2 : Int32) (s : t_S) (r : t_S) (hr : m_X13_work rc x2 s = some r) : t_C yX13_work cX13_work 4 none (783 + (k + 1)) [.ref 950, .int x2] s (fun v s' => v = none ∧ s' = r) := by
  refine t_C.imp (P := fun v s' => v = none ∧ (fun q => q = r) (s')) (t_C.of (by decide +kernel) (Nat.le_of_ble_eq_true rfl) ?_) (fun v s' hp => hp)
  intro D cy ad bs X
  have hk : t_hk (m_X13_work rc x2 s) (fun q => q = r) := ⟨r, hr, rfl⟩
  show mj_G D cy ad bs X cX13_work 4 yX13_work.cls none yX13_work.name (783 + (k + 1)) 0 0 1065 (t_P (fun v s' => v = none ∧ (fun q => q = r) (s'))) 0 [(0, .ref 950), (1, .int x2)] [] (t_m s) 1065 0 0
  refine mj_aload_n dX13_work_0 0 rfl ?_
  refine t_getI dX13_work_1 F_X13_882 qf_950_103 ?_
  refine mj_istore_n 2 (lv2 := [(2, .int (s.1 950 103)), (0, .ref 950), (1, .int x2)]) dX13_work_4 rfl (by decide) rfl ?_
  refine mj_iload_n dX13_work_5 2 rfl ?_
  refine mj_istore_n 3 (lv2 := [(3, .int x2), (2, .int (s.1 950 103)), (0, .ref 950), (1, .int x2)]) dX13_work_6 rfl (by decide) rfl ?_
  refine mj_sublv [(0, .ref 950), (2, .int (s.1 950 103)), (3, .int x2)] [2, 1, 0] rfl ?_
  exact LH_X13_work_7 rc H _ (s.1 950 103) x2 s _ hk
noncomputable def k_X13_workMore_77 (rc : RT_X13_behindFirst) (k0 : Int32) (s : t_S) : Option (t_S) :=
 (f_X13_pushTruth k0 s).bind (fun r1 =>
 some (r1))
set_option maxRecDepth 4000 in
set_option maxHeartbeats 1000000 in
theorem B_X13_workMore_77 {D : va_G} {cy : Nat → ClassId} {ad : Nat → Nat} {bs : Nat} {X : State → Heap → Prop} (rc : RT_X13_behindFirst) {k : Nat} (H : RH_X13_behindFirst rc k) (k0 : Int32) (s : t_S) (Q : t_S → Prop) (hk : t_hk (k_X13_workMore_77 rc k0 s) Q) : mj_G D cy ad bs X cX13_workMore 5 yX13_workMore.cls none yX13_workMore.name (783 + (k + 1)) 0 0 1065 (t_P (fun v s' => v = none ∧ Q (s'))) 77 [] [.int k0, .ref 950] (t_m s) 1065 0 0 := by
  refine t_bndK hk (fun r1 er1 hk => ?_)
  refine t_callVvE dX13_workMore_77 M_X13_pushTruth (C_X13_pushTruth _ _ _ er1) ML_X13_910 IM_X13_pushTruth SE_X13_pushTruth qc_950 rfl (As := [.int k0]) rfl rfl (by omega) (Nat.le_of_ble_eq_true rfl) (Nat.le_of_ble_eq_true rfl) (Nat.le_of_ble_eq_true rfl) ?_
  exact t_somK hk (fun hf => t_vret dX13_workMore_80 rfl ⟨rfl, hf⟩ (Nat.le_of_ble_eq_true rfl) (Nat.le_of_ble_eq_true rfl))
noncomputable def m_X13_workMore (rc : RT_X13_behindFirst) (x2 : Int32) (s : t_S) : Option (t_S) :=
 if t_ix x2 13000 = true then
  if (s.1 955 (x2.toNatClampNeg)) = (63 : Int32) then (if t_ix (s.1 950 100) 8 = true then
  if t_ix (s.1 1035 ((s.1 950 100).toNatClampNeg)) 8 = true then
  (f_X13_find 973 ((4 : Int32) * (s.1 1035 ((s.1 950 100).toNatClampNeg))) (s.1 974 ((s.1 1035 ((s.1 950 100).toNatClampNeg)).toNatClampNeg)) ((s.2.1 957 (x2.toNatClampNeg)).toInt32) s).bind (fun r7 =>
 if t_ix (((4 : Int32) * (s.1 950 100)) + r7) 32 = true then
  if (lg_cmp (s.2.1 1051 ((((4 : Int32) * (s.1 950 100)) + r7).toNatClampNeg)) (s.2.1 950 148)) ≤ (0 : Int32) then (k_X13_workMore_77 rc 0 s)
 else (k_X13_workMore_77 rc 1 s)
else none)
else none
else none)
 else ((rc.2.2.2.2.2.2.2.1 (s.1 959 (x2.toNatClampNeg)) s).bind (fun r2 =>
 if (r2.1 950 97) = (0 : Int32) then (if (s.1 955 (x2.toNatClampNeg)) = (61 : Int32) then ((rc.2.2.2.1 x2 r2).bind (fun r4 =>
 some (r4)))
 else ((f_X13_one x2 (s.1 955 (x2.toNatClampNeg)) r2).bind (fun r3 =>
 some (r3))))
 else (some (r2))))
else none
set_option maxRecDepth 4000 in
set_option maxHeartbeats 1000000 in
theorem E_X13_workMore (rc : RT_X13_behindFirst) {k : Nat} (H : RH_X13_behindFirst rc k) (x2 : Int32) (s : t_S) (r : t_S) (hr : m_X13_workMore rc x2 s = some r) : t_C yX13_workMore cX13_workMore 5 none (783 + (k + 1)) [.ref 950, .int x2] s (fun v s' => v = none ∧ s' = r) := by
  refine t_C.imp (P := fun v s' => v = none ∧ (fun q => q = r) (s')) (t_C.of (by decide +kernel) (Nat.le_of_ble_eq_true rfl) ?_) (fun v s' hp => hp)
  intro D cy ad bs X
  have hk : t_hk (m_X13_workMore rc x2 s) (fun q => q = r) := ⟨r, hr, rfl⟩
  show mj_G D cy ad bs X cX13_workMore 5 yX13_workMore.cls none yX13_workMore.name (783 + (k + 1)) 0 0 1065 (t_P (fun v s' => v = none ∧ (fun q => q = r) (s'))) 0 [(0, .ref 950), (1, .int x2)] [] (t_m s) 1065 0 0
  refine mj_aload_n dX13_workMore_0 0 rfl ?_
  refine t_getR 955 dX13_workMore_1 F_X13_26 qr_950_17 ?_
  refine mj_iload_n dX13_workMore_4 1 rfl ?_
  refine t_chkK hk (fun c0 hk => ?_)
  refine t_iald dX13_workMore_5 qa_955 (t_ixv c0) ?_
  refine mj_istore_n 2 (lv2 := [(2, .int (s.1 955 (x2.toNatClampNeg))), (0, .ref 950), (1, .int x2)]) dX13_workMore_6 rfl (by decide) rfl ?_
  refine mj_iload_n dX13_workMore_7 0 rfl ?_
  refine mj_bipush (v := 63) dX13_workMore_8 (by decide) ?_
  refine mj_icmp_ne 81 dX13_workMore_10 (by decide) (fun z => t_negK hk z (fun hk => ?_)) (fun z => t_posK hk z (fun hk => ?_))
  · refine mj_aload_n dX13_workMore_81 1 rfl ?_
    refine mj_aload_n dX13_workMore_82 1 rfl ?_
    refine t_getR 959 dX13_workMore_83 F_X13_39 qr_950_21 ?_
    refine mj_iload_n dX13_workMore_86 2 rfl ?_
    refine t_iald dX13_workMore_87 qa_959 (t_ixv c0) ?_
    refine t_bndK hk (fun r2 er2 hk => ?_)
    refine t_callSvE dX13_workMore_88 M_X13_work (H.2.2.2.2.2.2.2.1 _ _ _ er2) ML_X13_897 SM_X13_work (As := [.ref 950, .int (s.1 959 (x2.toNatClampNeg))]) rfl rfl (by omega) (Nat.le_of_ble_eq_true rfl) (Nat.le_of_ble_eq_true rfl) (Nat.le_of_ble_eq_true rfl) ?_
    refine mj_aload_n dX13_workMore_91 1 rfl ?_
    refine t_getI dX13_workMore_92 F_X13_842 qf_950_97 ?_
    refine mj_if_eq 99 dX13_workMore_95 (by decide) (fun z => t_posK hk z (fun hk => ?_)) (fun z => t_negK hk z (fun hk => ?_))
    · refine mj_iload_n dX13_workMore_99 0 rfl ?_
      refine mj_bipush (v := 61) dX13_workMore_100 (by decide) ?_
      refine mj_icmp_ne 113 dX13_workMore_102 (by decide) (fun z => t_negK hk z (fun hk => ?_)) (fun z => t_posK hk z (fun hk => ?_))
      · refine mj_aload_n dX13_workMore_113 1 rfl ?_
        refine mj_iload_n dX13_workMore_114 2 rfl ?_
        refine mj_iload_n dX13_workMore_115 0 rfl ?_
        refine t_bndK hk (fun r3 er3 hk => ?_)
        refine t_callVvE dX13_workMore_116 M_X13_one (C_X13_one _ _ _ _ er3) ML_X13_903 IM_X13_one SE_X13_one qc_950 rfl (As := [.int x2, .int (s.1 955 (x2.toNatClampNeg))]) rfl rfl (by omega) (Nat.le_of_ble_eq_true rfl) (Nat.le_of_ble_eq_true rfl) (Nat.le_of_ble_eq_true rfl) ?_
        exact t_somK hk (fun hf => t_vret dX13_workMore_119 rfl ⟨rfl, hf⟩ (Nat.le_of_ble_eq_true rfl) (Nat.le_of_ble_eq_true rfl))
      · refine mj_aload_n dX13_workMore_105 1 rfl ?_
        refine mj_iload_n dX13_workMore_106 2 rfl ?_
        refine t_bndK hk (fun r4 er4 hk => ?_)
        refine t_callSvE dX13_workMore_107 M_X13_met (H.2.2.2.1 _ _ _ er4) ML_X13_938 SM_X13_met (As := [.ref 950, .int x2]) rfl rfl (by omega) (Nat.le_of_ble_eq_true rfl) (Nat.le_of_ble_eq_true rfl) (Nat.le_of_ble_eq_true rfl) ?_
        refine mj_goto 119 dX13_workMore_110 (by decide) ?_
        exact t_somK hk (fun hf => t_vret dX13_workMore_119 rfl ⟨rfl, hf⟩ (Nat.le_of_ble_eq_true rfl) (Nat.le_of_ble_eq_true rfl))
    · exact t_somK hk (fun hf => t_vret dX13_workMore_98 rfl ⟨rfl, hf⟩ (Nat.le_of_ble_eq_true rfl) (Nat.le_of_ble_eq_true rfl))
  · refine mj_aload_n dX13_workMore_13 1 rfl ?_
    refine t_getR 1035 dX13_workMore_14 F_X13_273 qr_950_150 ?_
    refine mj_aload_n dX13_workMore_17 1 rfl ?_
    refine t_getI dX13_workMore_18 F_X13_917 qf_950_100 ?_
    refine t_chkK hk (fun c4 hk => ?_)
    refine t_iald dX13_workMore_21 qa_1035 (t_ixv c4) ?_
    refine mj_istore_n 3 (lv2 := [(3, .int (s.1 1035 ((s.1 950 100).toNatClampNeg))), (2, .int (s.1 955 (x2.toNatClampNeg))), (0, .ref 950), (1, .int x2)]) dX13_workMore_22 rfl (by decide) rfl ?_
    refine mj_aload_n dX13_workMore_23 2 rfl ?_
    refine mj_aload_n dX13_workMore_24 2 rfl ?_
    refine t_getR 973 dX13_workMore_25 F_X13_81 qr_950_48 ?_
    refine mj_iconst (v := 4) dX13_workMore_28 (by decide) ?_
    refine mj_iload_n dX13_workMore_29 0 rfl ?_
    refine mj_imul dX13_workMore_30 ?_
    refine mj_aload_n dX13_workMore_31 2 rfl ?_
    refine t_getR 974 dX13_workMore_32 F_X13_84 qr_950_49 ?_
    refine mj_iload_n dX13_workMore_35 0 rfl ?_
    refine t_chkK hk (fun c5 hk => ?_)
    refine t_iald dX13_workMore_36 qa_974 (t_ixv c5) ?_
    refine mj_aload_n dX13_workMore_37 2 rfl ?_
    refine t_getR 957 dX13_workMore_38 F_X13_32 qr_950_19 ?_
    refine mj_iload_n dX13_workMore_41 3 rfl ?_
    refine t_lald dX13_workMore_42 qa_957 (t_ixv c0) ?_
    refine mj_l2i (v := (s.2.1 957 (x2.toNatClampNeg)).toInt32) dX13_workMore_43 rfl ?_
    refine t_bndK hk (fun r7 er7 hk => ?_)
    refine t_callViP dX13_workMore_44 M_X13_find (C_X13_find _ _ _ _ _ _ er7) ML_X13_788 IM_X13_find SE_X13_find qc_950 rfl (As := [.ref 973, .int ((4 : Int32) * (s.1 1035 ((s.1 950 100).toNatClampNeg))), .int (s.1 974 ((s.1 1035 ((s.1 950 100).toNatClampNeg)).toNatClampNeg)), .int ((s.2.1 957 (x2.toNatClampNeg)).toInt32)]) rfl rfl (by omega) (Nat.le_of_ble_eq_true rfl) (Nat.le_of_ble_eq_true rfl) (Nat.le_of_ble_eq_true rfl) ?_
    refine mj_istore (lv2 := [(4, .int r7), (3, .int (s.1 1035 ((s.1 950 100).toNatClampNeg))), (2, .int (s.1 955 (x2.toNatClampNeg))), (0, .ref 950), (1, .int x2)]) dX13_workMore_47 (by decide) rfl ?_
    refine mj_aload_n dX13_workMore_49 3 rfl ?_
    refine mj_aload_n dX13_workMore_50 3 rfl ?_
    refine t_getR 1051 dX13_workMore_51 F_X13_321 qr_950_166 ?_
    refine mj_iconst (v := 4) dX13_workMore_54 (by decide) ?_
    refine mj_aload_n dX13_workMore_55 3 rfl ?_
    refine t_getI dX13_workMore_56 F_X13_917 qf_950_100 ?_
    refine mj_imul dX13_workMore_59 ?_
    refine mj_iload dX13_workMore_60 0 rfl ?_
    refine mj_iadd dX13_workMore_62 ?_
    refine t_chkK hk (fun c7 hk => ?_)
    refine t_lald dX13_workMore_63 qa_1051 (t_ixv c7) ?_
    refine mj_aload_n dX13_workMore_64 3 rfl ?_
    refine t_getJ dX13_workMore_65 F_X13_920 qf_950_148 ?_
    refine mj_lcmp dX13_workMore_68 ?_
    refine mj_if_le 76 dX13_workMore_69 (by decide) (fun z => t_posK hk z (fun hk => ?_)) (fun z => t_negK hk z (fun hk => ?_))
    · refine mj_iconst (v := 0) dX13_workMore_76 (by decide) ?_
      refine mj_sublv [] [] rfl ?_
      exact B_X13_workMore_77 rc H _ _ _ hk
    · refine mj_iconst (v := 1) dX13_workMore_72 (by decide) ?_
      refine mj_goto 77 dX13_workMore_73 (by decide) ?_
      refine mj_sublv [] [] rfl ?_
      exact B_X13_workMore_77 rc H _ _ _ hk
/-- so many calls deep -/
noncomputable def R_X13_behindFirst : Nat → RT_X13_behindFirst
  | 0 => ⟨fun _ _ => none, fun _ _ => none, fun _ _ _ => none, fun _ _ => none, fun _ _ => none, fun _ _ => none, fun _ _ => none, fun _ _ => none, fun _ _ => none⟩
  | k + 1 => ⟨fun x2 s => m_X13_behindFirst (R_X13_behindFirst k) x2 s, fun x2 s => m_X13_leaf (R_X13_behindFirst k) x2 s, fun x2 x3 s => m_X13_matchAll (R_X13_behindFirst k) x2 x3 s, fun x2 s => m_X13_met (R_X13_behindFirst k) x2 s, fun x2 s => m_X13_prepare (R_X13_behindFirst k) x2 s, fun x2 s => m_X13_rowOf (R_X13_behindFirst k) x2 s, fun x2 s => m_X13_two (R_X13_behindFirst k) x2 s, fun x2 s => m_X13_work (R_X13_behindFirst k) x2 s, fun x2 s => m_X13_workMore (R_X13_behindFirst k) x2 s⟩
theorem RR_X13_behindFirst : ∀ k : Nat, RH_X13_behindFirst (R_X13_behindFirst k) k := by
  intro k
  induction k with
  | zero => exact ⟨fun _ _ _ h => (by cases h), fun _ _ _ h => (by cases h), fun _ _ _ _ h => (by cases h), fun _ _ _ h => (by cases h), fun _ _ _ h => (by cases h), fun _ _ _ h => (by cases h), fun _ _ _ h => (by cases h), fun _ _ _ h => (by cases h), fun _ _ _ h => (by cases h)⟩
  | succ k ih => exact ⟨fun x2 s r h => E_X13_behindFirst (R_X13_behindFirst k) ih x2 s r h, fun x2 s r h => E_X13_leaf (R_X13_behindFirst k) ih x2 s r h, fun x2 x3 s r h => E_X13_matchAll (R_X13_behindFirst k) ih x2 x3 s r h, fun x2 s r h => E_X13_met (R_X13_behindFirst k) ih x2 s r h, fun x2 s r h => E_X13_prepare (R_X13_behindFirst k) ih x2 s r h, fun x2 s r h => E_X13_rowOf (R_X13_behindFirst k) ih x2 s r h, fun x2 s r h => E_X13_two (R_X13_behindFirst k) ih x2 s r h, fun x2 s r h => E_X13_work (R_X13_behindFirst k) ih x2 s r h, fun x2 s r h => E_X13_workMore (R_X13_behindFirst k) ih x2 s r h⟩
noncomputable def f_X13_behindFirst (x2 : Int32) (s : t_S) : Option (t_S) := (R_X13_behindFirst 1000).1 x2 s
theorem C_X13_behindFirst (x2 : Int32) (s : t_S) (r : t_S) (hr : f_X13_behindFirst x2 s = some r) : t_C yX13_behindFirst cX13_behindFirst 3 none 1783 [.ref 950, .int x2] s (fun v s' => v = none ∧ s' = r) := (RR_X13_behindFirst 1000).1 x2 s r hr
noncomputable def f_X13_leaf (x2 : Int32) (s : t_S) : Option (t_S) := (R_X13_behindFirst 1000).2.1 x2 s
theorem C_X13_leaf (x2 : Int32) (s : t_S) (r : t_S) (hr : f_X13_leaf x2 s = some r) : t_C yX13_leaf cX13_leaf 3 none 1783 [.ref 950, .int x2] s (fun v s' => v = none ∧ s' = r) := (RR_X13_behindFirst 1000).2.1 x2 s r hr
noncomputable def f_X13_matchAll (x2 : Int32) (x3 : Int32) (s : t_S) : Option (Int32 × t_S) := (R_X13_behindFirst 1000).2.2.1 x2 x3 s
theorem C_X13_matchAll (x2 : Int32) (x3 : Int32) (s : t_S) (r : Int32 × t_S) (hr : f_X13_matchAll x2 x3 s = some r) : t_C yX13_matchAll cX13_matchAll 3 (some .boolean) 1783 [.ref 950, .int x2, .int x3] s (fun v s' => v = some (.int r.1) ∧ s' = r.2) := (RR_X13_behindFirst 1000).2.2.1 x2 x3 s r hr
noncomputable def f_X13_met (x2 : Int32) (s : t_S) : Option (t_S) := (R_X13_behindFirst 1000).2.2.2.1 x2 s
theorem C_X13_met (x2 : Int32) (s : t_S) (r : t_S) (hr : f_X13_met x2 s = some r) : t_C yX13_met cX13_met 5 none 1783 [.ref 950, .int x2] s (fun v s' => v = none ∧ s' = r) := (RR_X13_behindFirst 1000).2.2.2.1 x2 s r hr
noncomputable def f_X13_prepare (x2 : Int32) (s : t_S) : Option (t_S) := (R_X13_behindFirst 1000).2.2.2.2.1 x2 s
theorem C_X13_prepare (x2 : Int32) (s : t_S) (r : t_S) (hr : f_X13_prepare x2 s = some r) : t_C yX13_prepare cX13_prepare 6 none 1783 [.ref 950, .int x2] s (fun v s' => v = none ∧ s' = r) := (RR_X13_behindFirst 1000).2.2.2.2.1 x2 s r hr
noncomputable def f_X13_rowOf (x2 : Int32) (s : t_S) : Option (t_S) := (R_X13_behindFirst 1000).2.2.2.2.2.1 x2 s
theorem C_X13_rowOf (x2 : Int32) (s : t_S) (r : t_S) (hr : f_X13_rowOf x2 s = some r) : t_C yX13_rowOf cX13_rowOf 7 none 1783 [.ref 950, .int x2] s (fun v s' => v = none ∧ s' = r) := (RR_X13_behindFirst 1000).2.2.2.2.2.1 x2 s r hr
noncomputable def f_X13_two (x2 : Int32) (s : t_S) : Option (t_S) := (R_X13_behindFirst 1000).2.2.2.2.2.2.1 x2 s
theorem C_X13_two (x2 : Int32) (s : t_S) (r : t_S) (hr : f_X13_two x2 s = some r) : t_C yX13_two cX13_two 5 none 1783 [.ref 950, .int x2] s (fun v s' => v = none ∧ s' = r) := (RR_X13_behindFirst 1000).2.2.2.2.2.2.1 x2 s r hr
noncomputable def f_X13_work (x2 : Int32) (s : t_S) : Option (t_S) := (R_X13_behindFirst 1000).2.2.2.2.2.2.2.1 x2 s
theorem C_X13_work (x2 : Int32) (s : t_S) (r : t_S) (hr : f_X13_work x2 s = some r) : t_C yX13_work cX13_work 4 none 1783 [.ref 950, .int x2] s (fun v s' => v = none ∧ s' = r) := (RR_X13_behindFirst 1000).2.2.2.2.2.2.2.1 x2 s r hr
noncomputable def f_X13_workMore (x2 : Int32) (s : t_S) : Option (t_S) := (R_X13_behindFirst 1000).2.2.2.2.2.2.2.2 x2 s
theorem C_X13_workMore (x2 : Int32) (s : t_S) (r : t_S) (hr : f_X13_workMore x2 s = some r) : t_C yX13_workMore cX13_workMore 5 none 1783 [.ref 950, .int x2] s (fun v s' => v = none ∧ s' = r) := (RR_X13_behindFirst 1000).2.2.2.2.2.2.2.2 x2 s r hr

