/-! Methods as functions, 70: X13_wordTone -/
theorem dX13_base_0 : decode cX13_base 0 = .ok (.aload_n 0, 1) := by decide +kernel
theorem dX13_base_1 : decode cX13_base 1 = .ok (.getfield 375, 3) := by decide +kernel
theorem dX13_base_10 : decode cX13_base 10 = .ok (.getfield 385, 3) := by decide +kernel
theorem dX13_base_100 : decode cX13_base 100 = .ok (.aload_n 0, 1) := by decide +kernel
theorem dX13_base_101 : decode cX13_base 101 = .ok (.bipush 72, 2) := by decide +kernel
theorem dX13_base_103 : decode cX13_base 103 = .ok (.iconst 1, 1) := by decide +kernel
theorem dX13_base_104 : decode cX13_base 104 = .ok (.invokevirtual 510, 3) := by decide +kernel
theorem dX13_base_107 : decode cX13_base 107 = .ok (.istore_n 1, 1) := by decide +kernel
theorem dX13_base_108 : decode cX13_base 108 = .ok (.aload_n 0, 1) := by decide +kernel
theorem dX13_base_109 : decode cX13_base 109 = .ok (.invokevirtual 452, 3) := by decide +kernel
theorem dX13_base_112 : decode cX13_base 112 = .ok (.aload_n 0, 1) := by decide +kernel
theorem dX13_base_113 : decode cX13_base 113 = .ok (.iload_n 1, 1) := by decide +kernel
theorem dX13_base_114 : decode cX13_base 114 = .ok (.aload_n 0, 1) := by decide +kernel
theorem dX13_base_115 : decode cX13_base 115 = .ok (.invokestatic 581, 3) := by decide +kernel
theorem dX13_base_118 : decode cX13_base 118 = .ok (.invokevirtual 507, 3) := by decide +kernel
theorem dX13_base_121 : decode cX13_base 121 = .ok (.aload_n 0, 1) := by decide +kernel
theorem dX13_base_122 : decode cX13_base 122 = .ok (.bipush 41, 2) := by decide +kernel
theorem dX13_base_124 : decode cX13_base 124 = .ok (.invokevirtual 528, 3) := by decide +kernel
theorem dX13_base_127 : decode cX13_base 127 = .ok (.iload_n 1, 1) := by decide +kernel
theorem dX13_base_128 : decode cX13_base 128 = .ok (.ireturn, 1) := by decide +kernel
theorem dX13_base_129 : decode cX13_base 129 = .ok (.aload_n 0, 1) := by decide +kernel
theorem dX13_base_13 : decode cX13_base 13 = .ok (.iconst 2, 1) := by decide +kernel
theorem dX13_base_130 : decode cX13_base 130 = .ok (.bipush 123, 2) := by decide +kernel
theorem dX13_base_132 : decode cX13_base 132 = .ok (.invokevirtual 449, 3) := by decide +kernel
theorem dX13_base_135 : decode cX13_base 135 = .ok (.ifCond .ne 23, 3) := by decide +kernel
theorem dX13_base_138 : decode cX13_base 138 = .ok (.aload_n 0, 1) := by decide +kernel
theorem dX13_base_139 : decode cX13_base 139 = .ok (.bipush 91, 2) := by decide +kernel
theorem dX13_base_14 : decode cX13_base 14 = .ok (.if_icmp .eq 11, 3) := by decide +kernel
theorem dX13_base_141 : decode cX13_base 141 = .ok (.invokevirtual 449, 3) := by decide +kernel
theorem dX13_base_144 : decode cX13_base 144 = .ok (.ifCond .ne 14, 3) := by decide +kernel
theorem dX13_base_147 : decode cX13_base 147 = .ok (.aload_n 0, 1) := by decide +kernel
theorem dX13_base_148 : decode cX13_base 148 = .ok (.iconst 2, 1) := by decide +kernel
theorem dX13_base_149 : decode cX13_base 149 = .ok (.aload_n 0, 1) := by decide +kernel
theorem dX13_base_150 : decode cX13_base 150 = .ok (.getfield 391, 3) := by decide +kernel
theorem dX13_base_153 : decode cX13_base 153 = .ok (.invokevirtual 411, 3) := by decide +kernel
theorem dX13_base_156 : decode cX13_base 156 = .ok (.iconst 0, 1) := by decide +kernel
theorem dX13_base_157 : decode cX13_base 157 = .ok (.ireturn, 1) := by decide +kernel
theorem dX13_base_158 : decode cX13_base 158 = .ok (.aload_n 0, 1) := by decide +kernel
theorem dX13_base_159 : decode cX13_base 159 = .ok (.bipush 123, 2) := by decide +kernel
theorem dX13_base_161 : decode cX13_base 161 = .ok (.invokevirtual 449, 3) := by decide +kernel
theorem dX13_base_164 : decode cX13_base 164 = .ok (.istore_n 1, 1) := by decide +kernel
theorem dX13_base_165 : decode cX13_base 165 = .ok (.aload_n 0, 1) := by decide +kernel
theorem dX13_base_166 : decode cX13_base 166 = .ok (.iload_n 1, 1) := by decide +kernel
theorem dX13_base_167 : decode cX13_base 167 = .ok (.ifCond .eq 8, 3) := by decide +kernel
theorem dX13_base_17 : decode cX13_base 17 = .ok (.aload_n 0, 1) := by decide +kernel
theorem dX13_base_170 : decode cX13_base 170 = .ok (.bipush 59, 2) := by decide +kernel
theorem dX13_base_172 : decode cX13_base 172 = .ok (.goto 5, 3) := by decide +kernel
theorem dX13_base_175 : decode cX13_base 175 = .ok (.bipush 60, 2) := by decide +kernel
theorem dX13_base_177 : decode cX13_base 177 = .ok (.iconst 1, 1) := by decide +kernel
theorem dX13_base_178 : decode cX13_base 178 = .ok (.invokevirtual 510, 3) := by decide +kernel
theorem dX13_base_18 : decode cX13_base 18 = .ok (.getfield 385, 3) := by decide +kernel
theorem dX13_base_181 : decode cX13_base 181 = .ok (.istore_n 2, 1) := by decide +kernel
theorem dX13_base_182 : decode cX13_base 182 = .ok (.aload_n 0, 1) := by decide +kernel
theorem dX13_base_183 : decode cX13_base 183 = .ok (.invokevirtual 452, 3) := by decide +kernel
theorem dX13_base_186 : decode cX13_base 186 = .ok (.iload_n 1, 1) := by decide +kernel
theorem dX13_base_187 : decode cX13_base 187 = .ok (.ifCond .eq 11, 3) := by decide +kernel
theorem dX13_base_190 : decode cX13_base 190 = .ok (.aload_n 0, 1) := by decide +kernel
theorem dX13_base_191 : decode cX13_base 191 = .ok (.iload_n 2, 1) := by decide +kernel
theorem dX13_base_192 : decode cX13_base 192 = .ok (.invokestatic 613, 3) := by decide +kernel
theorem dX13_base_195 : decode cX13_base 195 = .ok (.goto 23, 3) := by decide +kernel
theorem dX13_base_198 : decode cX13_base 198 = .ok (.aload_n 0, 1) := by decide +kernel
theorem dX13_base_199 : decode cX13_base 199 = .ok (.bipush 93, 2) := by decide +kernel
theorem dX13_base_201 : decode cX13_base 201 = .ok (.invokevirtual 449, 3) := by decide +kernel
theorem dX13_base_204 : decode cX13_base 204 = .ok (.ifCond .ne 8, 3) := by decide +kernel
theorem dX13_base_207 : decode cX13_base 207 = .ok (.aload_n 0, 1) := by decide +kernel
theorem dX13_base_208 : decode cX13_base 208 = .ok (.iload_n 2, 1) := by decide +kernel
theorem dX13_base_209 : decode cX13_base 209 = .ok (.invokestatic 616, 3) := by decide +kernel
theorem dX13_base_21 : decode cX13_base 21 = .ok (.iconst 3, 1) := by decide +kernel
theorem dX13_base_212 : decode cX13_base 212 = .ok (.aload_n 0, 1) := by decide +kernel
theorem dX13_base_213 : decode cX13_base 213 = .ok (.bipush 93, 2) := by decide +kernel
theorem dX13_base_215 : decode cX13_base 215 = .ok (.invokevirtual 528, 3) := by decide +kernel
theorem dX13_base_218 : decode cX13_base 218 = .ok (.iload_n 2, 1) := by decide +kernel
theorem dX13_base_219 : decode cX13_base 219 = .ok (.ireturn, 1) := by decide +kernel
theorem dX13_base_22 : decode cX13_base 22 = .ok (.if_icmp .ne 56, 3) := by decide +kernel
theorem dX13_base_25 : decode cX13_base 25 = .ok (.aload_n 0, 1) := by decide +kernel
theorem dX13_base_26 : decode cX13_base 26 = .ok (.aload_n 0, 1) := by decide +kernel
theorem dX13_base_27 : decode cX13_base 27 = .ok (.getfield 385, 3) := by decide +kernel
theorem dX13_base_30 : decode cX13_base 30 = .ok (.iconst 2, 1) := by decide +kernel
theorem dX13_base_31 : decode cX13_base 31 = .ok (.if_icmp .ne 8, 3) := by decide +kernel
theorem dX13_base_34 : decode cX13_base 34 = .ok (.bipush 50, 2) := by decide +kernel
theorem dX13_base_36 : decode cX13_base 36 = .ok (.goto 5, 3) := by decide +kernel
theorem dX13_base_39 : decode cX13_base 39 = .ok (.bipush 53, 2) := by decide +kernel
theorem dX13_base_4 : decode cX13_base 4 = .ok (.ifCond .eq 5, 3) := by decide +kernel
theorem dX13_base_41 : decode cX13_base 41 = .ok (.iconst 1, 1) := by decide +kernel
theorem dX13_base_42 : decode cX13_base 42 = .ok (.invokevirtual 510, 3) := by decide +kernel
theorem dX13_base_45 : decode cX13_base 45 = .ok (.istore_n 1, 1) := by decide +kernel
theorem dX13_base_46 : decode cX13_base 46 = .ok (.aload_n 0, 1) := by decide +kernel
theorem dX13_base_47 : decode cX13_base 47 = .ok (.getfield 385, 3) := by decide +kernel
theorem dX13_base_50 : decode cX13_base 50 = .ok (.iconst 2, 1) := by decide +kernel
theorem dX13_base_51 : decode cX13_base 51 = .ok (.if_icmp .ne 16, 3) := by decide +kernel
theorem dX13_base_54 : decode cX13_base 54 = .ok (.aload_n 0, 1) := by decide +kernel
theorem dX13_base_55 : decode cX13_base 55 = .ok (.getfield 32, 3) := by decide +kernel
theorem dX13_base_58 : decode cX13_base 58 = .ok (.iload_n 1, 1) := by decide +kernel
theorem dX13_base_59 : decode cX13_base 59 = .ok (.aload_n 0, 1) := by decide +kernel
theorem dX13_base_60 : decode cX13_base 60 = .ok (.getfield 415, 3) := by decide +kernel
theorem dX13_base_63 : decode cX13_base 63 = .ok (.lastore, 1) := by decide +kernel
theorem dX13_base_64 : decode cX13_base 64 = .ok (.goto 8, 3) := by decide +kernel
theorem dX13_base_67 : decode cX13_base 67 = .ok (.aload_n 0, 1) := by decide +kernel
theorem dX13_base_68 : decode cX13_base 68 = .ok (.iload_n 1, 1) := by decide +kernel
theorem dX13_base_69 : decode cX13_base 69 = .ok (.invokevirtual 565, 3) := by decide +kernel
theorem dX13_base_7 : decode cX13_base 7 = .ok (.iconst 0, 1) := by decide +kernel
theorem dX13_base_72 : decode cX13_base 72 = .ok (.aload_n 0, 1) := by decide +kernel
theorem dX13_base_73 : decode cX13_base 73 = .ok (.invokevirtual 452, 3) := by decide +kernel
theorem dX13_base_76 : decode cX13_base 76 = .ok (.iload_n 1, 1) := by decide +kernel
theorem dX13_base_77 : decode cX13_base 77 = .ok (.ireturn, 1) := by decide +kernel
theorem dX13_base_78 : decode cX13_base 78 = .ok (.aload_n 0, 1) := by decide +kernel
theorem dX13_base_79 : decode cX13_base 79 = .ok (.getfield 385, 3) := by decide +kernel
theorem dX13_base_8 : decode cX13_base 8 = .ok (.ireturn, 1) := by decide +kernel
theorem dX13_base_82 : decode cX13_base 82 = .ok (.iconst 1, 1) := by decide +kernel
theorem dX13_base_83 : decode cX13_base 83 = .ok (.if_icmp .ne 8, 3) := by decide +kernel
theorem dX13_base_86 : decode cX13_base 86 = .ok (.aload_n 0, 1) := by decide +kernel
theorem dX13_base_87 : decode cX13_base 87 = .ok (.invokestatic 610, 3) := by decide +kernel
theorem dX13_base_9 : decode cX13_base 9 = .ok (.aload_n 0, 1) := by decide +kernel
theorem dX13_base_90 : decode cX13_base 90 = .ok (.ireturn, 1) := by decide +kernel
theorem dX13_base_91 : decode cX13_base 91 = .ok (.aload_n 0, 1) := by decide +kernel
theorem dX13_base_92 : decode cX13_base 92 = .ok (.bipush 40, 2) := by decide +kernel
theorem dX13_base_94 : decode cX13_base 94 = .ok (.invokevirtual 449, 3) := by decide +kernel
theorem dX13_base_97 : decode cX13_base 97 = .ok (.ifCond .eq 32, 3) := by decide +kernel
theorem dX13_exp_0 : decode cX13_exp 0 = .ok (.aload_n 0, 1) := by decide +kernel
theorem dX13_exp_1 : decode cX13_exp 1 = .ok (.getfield 375, 3) := by decide +kernel
theorem dX13_exp_10 : decode cX13_exp 10 = .ok (.getfield 552, 3) := by decide +kernel
theorem dX13_exp_13 : decode cX13_exp 13 = .ok (.bipush 16, 2) := by decide +kernel
theorem dX13_exp_15 : decode cX13_exp 15 = .ok (.if_icmp .gt 10, 3) := by decide +kernel
theorem dX13_exp_18 : decode cX13_exp 18 = .ok (.aload_n 0, 1) := by decide +kernel
theorem dX13_exp_19 : decode cX13_exp 19 = .ok (.invokevirtual 594, 3) := by decide +kernel
theorem dX13_exp_22 : decode cX13_exp 22 = .ok (.ifCond .ne 25, 3) := by decide +kernel
theorem dX13_exp_25 : decode cX13_exp 25 = .ok (.aload_n 0, 1) := by decide +kernel
theorem dX13_exp_26 : decode cX13_exp 26 = .ok (.aload_n 0, 1) := by decide +kernel
theorem dX13_exp_27 : decode cX13_exp 27 = .ok (.invokevirtual 594, 3) := by decide +kernel
theorem dX13_exp_30 : decode cX13_exp 30 = .ok (.ifCond .eq 7, 3) := by decide +kernel
theorem dX13_exp_33 : decode cX13_exp 33 = .ok (.iconst 5, 1) := by decide +kernel
theorem dX13_exp_34 : decode cX13_exp 34 = .ok (.goto 4, 3) := by decide +kernel
theorem dX13_exp_37 : decode cX13_exp 37 = .ok (.iconst 2, 1) := by decide +kernel
theorem dX13_exp_38 : decode cX13_exp 38 = .ok (.aload_n 0, 1) := by decide +kernel
theorem dX13_exp_39 : decode cX13_exp 39 = .ok (.getfield 391, 3) := by decide +kernel
theorem dX13_exp_4 : decode cX13_exp 4 = .ok (.ifCond .eq 5, 3) := by decide +kernel
theorem dX13_exp_42 : decode cX13_exp 42 = .ok (.invokevirtual 411, 3) := by decide +kernel
theorem dX13_exp_45 : decode cX13_exp 45 = .ok (.iconst 0, 1) := by decide +kernel
theorem dX13_exp_46 : decode cX13_exp 46 = .ok (.ireturn, 1) := by decide +kernel
theorem dX13_exp_47 : decode cX13_exp 47 = .ok (.aload_n 0, 1) := by decide +kernel
theorem dX13_exp_48 : decode cX13_exp 48 = .ok (.dup, 1) := by decide +kernel
theorem dX13_exp_49 : decode cX13_exp 49 = .ok (.getfield 552, 3) := by decide +kernel
theorem dX13_exp_52 : decode cX13_exp 52 = .ok (.iconst 1, 1) := by decide +kernel
theorem dX13_exp_53 : decode cX13_exp 53 = .ok (.iadd, 1) := by decide +kernel
theorem dX13_exp_54 : decode cX13_exp 54 = .ok (.putfield 552, 3) := by decide +kernel
theorem dX13_exp_57 : decode cX13_exp 57 = .ok (.aload_n 0, 1) := by decide +kernel
theorem dX13_exp_58 : decode cX13_exp 58 = .ok (.iconst 0, 1) := by decide +kernel
theorem dX13_exp_59 : decode cX13_exp 59 = .ok (.invokestatic 597, 3) := by decide +kernel
theorem dX13_exp_62 : decode cX13_exp 62 = .ok (.istore_n 1, 1) := by decide +kernel
theorem dX13_exp_63 : decode cX13_exp 63 = .ok (.aload_n 0, 1) := by decide +kernel
theorem dX13_exp_64 : decode cX13_exp 64 = .ok (.dup, 1) := by decide +kernel
theorem dX13_exp_65 : decode cX13_exp 65 = .ok (.getfield 552, 3) := by decide +kernel
theorem dX13_exp_68 : decode cX13_exp 68 = .ok (.iconst 1, 1) := by decide +kernel
theorem dX13_exp_69 : decode cX13_exp 69 = .ok (.isub, 1) := by decide +kernel
theorem dX13_exp_7 : decode cX13_exp 7 = .ok (.iconst 0, 1) := by decide +kernel
theorem dX13_exp_70 : decode cX13_exp 70 = .ok (.putfield 552, 3) := by decide +kernel
theorem dX13_exp_73 : decode cX13_exp 73 = .ok (.iload_n 1, 1) := by decide +kernel
theorem dX13_exp_74 : decode cX13_exp 74 = .ok (.ireturn, 1) := by decide +kernel
theorem dX13_exp_8 : decode cX13_exp 8 = .ok (.ireturn, 1) := by decide +kernel
theorem dX13_exp_9 : decode cX13_exp 9 = .ok (.aload_n 0, 1) := by decide +kernel
theorem dX13_exps_0 : decode cX13_exps 0 = .ok (.iconst 1, 1) := by decide +kernel
theorem dX13_exps_1 : decode cX13_exps 1 = .ok (.istore_n 2, 1) := by decide +kernel
theorem dX13_exps_12 : decode cX13_exps 12 = .ok (.ifCond .ne 59, 3) := by decide +kernel
theorem dX13_exps_15 : decode cX13_exps 15 = .ok (.iload_n 3, 1) := by decide +kernel
theorem dX13_exps_16 : decode cX13_exps 16 = .ok (.bipush 12, 2) := by decide +kernel
theorem dX13_exps_18 : decode cX13_exps 18 = .ok (.if_icmp .ne 23, 3) := by decide +kernel
theorem dX13_exps_2 : decode cX13_exps 2 = .ok (.iconst 0, 1) := by decide +kernel
theorem dX13_exps_21 : decode cX13_exps 21 = .ok (.aload_n 0, 1) := by decide +kernel
theorem dX13_exps_22 : decode cX13_exps 22 = .ok (.aload_n 0, 1) := by decide +kernel
theorem dX13_exps_23 : decode cX13_exps 23 = .ok (.invokevirtual 594, 3) := by decide +kernel
theorem dX13_exps_26 : decode cX13_exps 26 = .ok (.ifCond .eq 7, 3) := by decide +kernel
theorem dX13_exps_29 : decode cX13_exps 29 = .ok (.iconst 5, 1) := by decide +kernel
theorem dX13_exps_3 : decode cX13_exps 3 = .ok (.istore_n 3, 1) := by decide +kernel
theorem dX13_exps_30 : decode cX13_exps 30 = .ok (.goto 4, 3) := by decide +kernel
theorem dX13_exps_33 : decode cX13_exps 33 = .ok (.iconst 2, 1) := by decide +kernel
theorem dX13_exps_34 : decode cX13_exps 34 = .ok (.aload_n 0, 1) := by decide +kernel
theorem dX13_exps_35 : decode cX13_exps 35 = .ok (.getfield 391, 3) := by decide +kernel
theorem dX13_exps_38 : decode cX13_exps 38 = .ok (.invokevirtual 411, 3) := by decide +kernel
theorem dX13_exps_4 : decode cX13_exps 4 = .ok (.iload_n 2, 1) := by decide +kernel
theorem dX13_exps_41 : decode cX13_exps 41 = .ok (.aload_n 0, 1) := by decide +kernel
theorem dX13_exps_42 : decode cX13_exps 42 = .ok (.iload_n 1, 1) := by decide +kernel
theorem dX13_exps_43 : decode cX13_exps 43 = .ok (.aload_n 0, 1) := by decide +kernel
theorem dX13_exps_44 : decode cX13_exps 44 = .ok (.invokestatic 581, 3) := by decide +kernel
theorem dX13_exps_47 : decode cX13_exps 47 = .ok (.invokevirtual 507, 3) := by decide +kernel
theorem dX13_exps_5 : decode cX13_exps 5 = .ok (.ifCond .eq 66, 3) := by decide +kernel
theorem dX13_exps_50 : decode cX13_exps 50 = .ok (.iinc 3 1, 3) := by decide +kernel
theorem dX13_exps_53 : decode cX13_exps 53 = .ok (.aload_n 0, 1) := by decide +kernel
theorem dX13_exps_54 : decode cX13_exps 54 = .ok (.bipush 44, 2) := by decide +kernel
theorem dX13_exps_56 : decode cX13_exps 56 = .ok (.invokevirtual 449, 3) := by decide +kernel
theorem dX13_exps_59 : decode cX13_exps 59 = .ok (.istore_n 2, 1) := by decide +kernel
theorem dX13_exps_60 : decode cX13_exps 60 = .ok (.iload_n 2, 1) := by decide +kernel
theorem dX13_exps_61 : decode cX13_exps 61 = .ok (.ifCond .eq (-57), 3) := by decide +kernel
theorem dX13_exps_64 : decode cX13_exps 64 = .ok (.aload_n 0, 1) := by decide +kernel
theorem dX13_exps_65 : decode cX13_exps 65 = .ok (.invokevirtual 452, 3) := by decide +kernel
theorem dX13_exps_68 : decode cX13_exps 68 = .ok (.goto (-64), 3) := by decide +kernel
theorem dX13_exps_71 : decode cX13_exps 71 = .ok (.return_, 1) := by decide +kernel
theorem dX13_exps_8 : decode cX13_exps 8 = .ok (.aload_n 0, 1) := by decide +kernel
theorem dX13_exps_9 : decode cX13_exps 9 = .ok (.getfield 375, 3) := by decide +kernel
theorem dX13_fieldExps_0 : decode cX13_fieldExps 0 = .ok (.aload_n 0, 1) := by decide +kernel
theorem dX13_fieldExps_1 : decode cX13_fieldExps 1 = .ok (.bipush 125, 2) := by decide +kernel
theorem dX13_fieldExps_10 : decode cX13_fieldExps 10 = .ok (.goto 4, 3) := by decide +kernel
theorem dX13_fieldExps_13 : decode cX13_fieldExps 13 = .ok (.iconst 0, 1) := by decide +kernel
theorem dX13_fieldExps_14 : decode cX13_fieldExps 14 = .ok (.istore_n 2, 1) := by decide +kernel
theorem dX13_fieldExps_15 : decode cX13_fieldExps 15 = .ok (.iconst 0, 1) := by decide +kernel
theorem dX13_fieldExps_16 : decode cX13_fieldExps 16 = .ok (.istore_n 3, 1) := by decide +kernel
theorem dX13_fieldExps_17 : decode cX13_fieldExps 17 = .ok (.iload_n 2, 1) := by decide +kernel
theorem dX13_fieldExps_18 : decode cX13_fieldExps 18 = .ok (.ifCond .eq 51, 3) := by decide +kernel
theorem dX13_fieldExps_21 : decode cX13_fieldExps 21 = .ok (.aload_n 0, 1) := by decide +kernel
theorem dX13_fieldExps_22 : decode cX13_fieldExps 22 = .ok (.getfield 375, 3) := by decide +kernel
theorem dX13_fieldExps_25 : decode cX13_fieldExps 25 = .ok (.ifCond .ne 44, 3) := by decide +kernel
theorem dX13_fieldExps_28 : decode cX13_fieldExps 28 = .ok (.aload_n 0, 1) := by decide +kernel
theorem dX13_fieldExps_29 : decode cX13_fieldExps 29 = .ok (.iload_n 1, 1) := by decide +kernel
theorem dX13_fieldExps_3 : decode cX13_fieldExps 3 = .ok (.invokevirtual 449, 3) := by decide +kernel
theorem dX13_fieldExps_30 : decode cX13_fieldExps 30 = .ok (.iload_n 3, 1) := by decide +kernel
theorem dX13_fieldExps_31 : decode cX13_fieldExps 31 = .ok (.bipush 71, 2) := by decide +kernel
theorem dX13_fieldExps_33 : decode cX13_fieldExps 33 = .ok (.invokevirtual 587, 3) := by decide +kernel
theorem dX13_fieldExps_36 : decode cX13_fieldExps 36 = .ok (.istore 4, 2) := by decide +kernel
theorem dX13_fieldExps_38 : decode cX13_fieldExps 38 = .ok (.aload_n 0, 1) := by decide +kernel
theorem dX13_fieldExps_39 : decode cX13_fieldExps 39 = .ok (.iload 4, 2) := by decide +kernel
theorem dX13_fieldExps_41 : decode cX13_fieldExps 41 = .ok (.aload_n 0, 1) := by decide +kernel
theorem dX13_fieldExps_42 : decode cX13_fieldExps 42 = .ok (.invokestatic 581, 3) := by decide +kernel
theorem dX13_fieldExps_45 : decode cX13_fieldExps 45 = .ok (.invokevirtual 507, 3) := by decide +kernel
theorem dX13_fieldExps_48 : decode cX13_fieldExps 48 = .ok (.iinc 3 1, 3) := by decide +kernel
theorem dX13_fieldExps_51 : decode cX13_fieldExps 51 = .ok (.aload_n 0, 1) := by decide +kernel
theorem dX13_fieldExps_52 : decode cX13_fieldExps 52 = .ok (.bipush 44, 2) := by decide +kernel
theorem dX13_fieldExps_54 : decode cX13_fieldExps 54 = .ok (.invokevirtual 449, 3) := by decide +kernel
theorem dX13_fieldExps_57 : decode cX13_fieldExps 57 = .ok (.istore_n 2, 1) := by decide +kernel
theorem dX13_fieldExps_58 : decode cX13_fieldExps 58 = .ok (.iload_n 2, 1) := by decide +kernel
theorem dX13_fieldExps_59 : decode cX13_fieldExps 59 = .ok (.ifCond .eq 7, 3) := by decide +kernel
theorem dX13_fieldExps_6 : decode cX13_fieldExps 6 = .ok (.ifCond .ne 7, 3) := by decide +kernel
theorem dX13_fieldExps_62 : decode cX13_fieldExps 62 = .ok (.aload_n 0, 1) := by decide +kernel
theorem dX13_fieldExps_63 : decode cX13_fieldExps 63 = .ok (.invokevirtual 452, 3) := by decide +kernel
theorem dX13_fieldExps_66 : decode cX13_fieldExps 66 = .ok (.goto (-49), 3) := by decide +kernel
theorem dX13_fieldExps_69 : decode cX13_fieldExps 69 = .ok (.aload_n 0, 1) := by decide +kernel
theorem dX13_fieldExps_70 : decode cX13_fieldExps 70 = .ok (.bipush 125, 2) := by decide +kernel
theorem dX13_fieldExps_72 : decode cX13_fieldExps 72 = .ok (.invokevirtual 528, 3) := by decide +kernel
theorem dX13_fieldExps_75 : decode cX13_fieldExps 75 = .ok (.return_, 1) := by decide +kernel
theorem dX13_fieldExps_9 : decode cX13_fieldExps 9 = .ok (.iconst 1, 1) := by decide +kernel
theorem dX13_fieldTempls_0 : decode cX13_fieldTempls 0 = .ok (.aload_n 0, 1) := by decide +kernel
theorem dX13_fieldTempls_1 : decode cX13_fieldTempls 1 = .ok (.bipush 125, 2) := by decide +kernel
theorem dX13_fieldTempls_10 : decode cX13_fieldTempls 10 = .ok (.goto 4, 3) := by decide +kernel
theorem dX13_fieldTempls_13 : decode cX13_fieldTempls 13 = .ok (.iconst 0, 1) := by decide +kernel
theorem dX13_fieldTempls_14 : decode cX13_fieldTempls 14 = .ok (.istore_n 2, 1) := by decide +kernel
theorem dX13_fieldTempls_15 : decode cX13_fieldTempls 15 = .ok (.iconst 0, 1) := by decide +kernel
theorem dX13_fieldTempls_16 : decode cX13_fieldTempls 16 = .ok (.istore_n 3, 1) := by decide +kernel
theorem dX13_fieldTempls_17 : decode cX13_fieldTempls 17 = .ok (.iload_n 2, 1) := by decide +kernel
theorem dX13_fieldTempls_18 : decode cX13_fieldTempls 18 = .ok (.ifCond .eq 51, 3) := by decide +kernel
theorem dX13_fieldTempls_21 : decode cX13_fieldTempls 21 = .ok (.aload_n 0, 1) := by decide +kernel
theorem dX13_fieldTempls_22 : decode cX13_fieldTempls 22 = .ok (.getfield 375, 3) := by decide +kernel
theorem dX13_fieldTempls_25 : decode cX13_fieldTempls 25 = .ok (.ifCond .ne 44, 3) := by decide +kernel
theorem dX13_fieldTempls_28 : decode cX13_fieldTempls 28 = .ok (.aload_n 0, 1) := by decide +kernel
theorem dX13_fieldTempls_29 : decode cX13_fieldTempls 29 = .ok (.iload_n 1, 1) := by decide +kernel
theorem dX13_fieldTempls_3 : decode cX13_fieldTempls 3 = .ok (.invokevirtual 449, 3) := by decide +kernel
theorem dX13_fieldTempls_30 : decode cX13_fieldTempls 30 = .ok (.iload_n 3, 1) := by decide +kernel
theorem dX13_fieldTempls_31 : decode cX13_fieldTempls 31 = .ok (.bipush 40, 2) := by decide +kernel
theorem dX13_fieldTempls_33 : decode cX13_fieldTempls 33 = .ok (.invokevirtual 587, 3) := by decide +kernel
theorem dX13_fieldTempls_36 : decode cX13_fieldTempls 36 = .ok (.istore 4, 2) := by decide +kernel
theorem dX13_fieldTempls_38 : decode cX13_fieldTempls 38 = .ok (.aload_n 0, 1) := by decide +kernel
theorem dX13_fieldTempls_39 : decode cX13_fieldTempls 39 = .ok (.iload 4, 2) := by decide +kernel
theorem dX13_fieldTempls_41 : decode cX13_fieldTempls 41 = .ok (.aload_n 0, 1) := by decide +kernel
theorem dX13_fieldTempls_42 : decode cX13_fieldTempls 42 = .ok (.invokestatic 574, 3) := by decide +kernel
theorem dX13_fieldTempls_45 : decode cX13_fieldTempls 45 = .ok (.invokevirtual 507, 3) := by decide +kernel
theorem dX13_fieldTempls_48 : decode cX13_fieldTempls 48 = .ok (.iinc 3 1, 3) := by decide +kernel
theorem dX13_fieldTempls_51 : decode cX13_fieldTempls 51 = .ok (.aload_n 0, 1) := by decide +kernel
theorem dX13_fieldTempls_52 : decode cX13_fieldTempls 52 = .ok (.bipush 44, 2) := by decide +kernel
theorem dX13_fieldTempls_54 : decode cX13_fieldTempls 54 = .ok (.invokevirtual 449, 3) := by decide +kernel
theorem dX13_fieldTempls_57 : decode cX13_fieldTempls 57 = .ok (.istore_n 2, 1) := by decide +kernel
theorem dX13_fieldTempls_58 : decode cX13_fieldTempls 58 = .ok (.iload_n 2, 1) := by decide +kernel
theorem dX13_fieldTempls_59 : decode cX13_fieldTempls 59 = .ok (.ifCond .eq 7, 3) := by decide +kernel
theorem dX13_fieldTempls_6 : decode cX13_fieldTempls 6 = .ok (.ifCond .ne 7, 3) := by decide +kernel
theorem dX13_fieldTempls_62 : decode cX13_fieldTempls 62 = .ok (.aload_n 0, 1) := by decide +kernel
theorem dX13_fieldTempls_63 : decode cX13_fieldTempls 63 = .ok (.invokevirtual 452, 3) := by decide +kernel
theorem dX13_fieldTempls_66 : decode cX13_fieldTempls 66 = .ok (.goto (-49), 3) := by decide +kernel
theorem dX13_fieldTempls_69 : decode cX13_fieldTempls 69 = .ok (.aload_n 0, 1) := by decide +kernel
theorem dX13_fieldTempls_70 : decode cX13_fieldTempls 70 = .ok (.bipush 125, 2) := by decide +kernel
theorem dX13_fieldTempls_72 : decode cX13_fieldTempls 72 = .ok (.invokevirtual 528, 3) := by decide +kernel
theorem dX13_fieldTempls_75 : decode cX13_fieldTempls 75 = .ok (.return_, 1) := by decide +kernel
theorem dX13_fieldTempls_9 : decode cX13_fieldTempls 9 = .ok (.iconst 1, 1) := by decide +kernel
theorem dX13_level_0 : decode cX13_level 0 = .ok (.aload_n 0, 1) := by decide +kernel
theorem dX13_level_1 : decode cX13_level 1 = .ok (.getfield 375, 3) := by decide +kernel
theorem dX13_level_10 : decode cX13_level 10 = .ok (.iconst 5, 1) := by decide +kernel
theorem dX13_level_102 : decode cX13_level 102 = .ok (.ifCond .eq 7, 3) := by decide +kernel
theorem dX13_level_105 : decode cX13_level 105 = .ok (.iconst 1, 1) := by decide +kernel
theorem dX13_level_106 : decode cX13_level 106 = .ok (.goto 4, 3) := by decide +kernel
theorem dX13_level_109 : decode cX13_level 109 = .ok (.iconst 0, 1) := by decide +kernel
theorem dX13_level_11 : decode cX13_level 11 = .ok (.if_icmp .ne 8, 3) := by decide +kernel
theorem dX13_level_110 : decode cX13_level 110 = .ok (.istore_n 3, 1) := by decide +kernel
theorem dX13_level_111 : decode cX13_level 111 = .ok (.goto (-78), 3) := by decide +kernel
theorem dX13_level_114 : decode cX13_level 114 = .ok (.iload_n 2, 1) := by decide +kernel
theorem dX13_level_115 : decode cX13_level 115 = .ok (.ireturn, 1) := by decide +kernel
theorem dX13_level_14 : decode cX13_level 14 = .ok (.aload_n 0, 1) := by decide +kernel
theorem dX13_level_15 : decode cX13_level 15 = .ok (.invokestatic 601, 3) := by decide +kernel
theorem dX13_level_18 : decode cX13_level 18 = .ok (.ireturn, 1) := by decide +kernel
theorem dX13_level_19 : decode cX13_level 19 = .ok (.aload_n 0, 1) := by decide +kernel
theorem dX13_level_20 : decode cX13_level 20 = .ok (.iload_n 1, 1) := by decide +kernel
theorem dX13_level_21 : decode cX13_level 21 = .ok (.iconst 1, 1) := by decide +kernel
theorem dX13_level_22 : decode cX13_level 22 = .ok (.iadd, 1) := by decide +kernel
theorem dX13_level_23 : decode cX13_level 23 = .ok (.invokestatic 597, 3) := by decide +kernel
theorem dX13_level_26 : decode cX13_level 26 = .ok (.istore_n 2, 1) := by decide +kernel
theorem dX13_level_27 : decode cX13_level 27 = .ok (.aload_n 0, 1) := by decide +kernel
theorem dX13_level_28 : decode cX13_level 28 = .ok (.iload_n 1, 1) := by decide +kernel
theorem dX13_level_29 : decode cX13_level 29 = .ok (.invokevirtual 604, 3) := by decide +kernel
theorem dX13_level_32 : decode cX13_level 32 = .ok (.istore_n 3, 1) := by decide +kernel
theorem dX13_level_33 : decode cX13_level 33 = .ok (.iload_n 3, 1) := by decide +kernel
theorem dX13_level_34 : decode cX13_level 34 = .ok (.ifCond .eq 80, 3) := by decide +kernel
theorem dX13_level_37 : decode cX13_level 37 = .ok (.aload_n 0, 1) := by decide +kernel
theorem dX13_level_38 : decode cX13_level 38 = .ok (.getfield 375, 3) := by decide +kernel
theorem dX13_level_4 : decode cX13_level 4 = .ok (.ifCond .eq 5, 3) := by decide +kernel
theorem dX13_level_41 : decode cX13_level 41 = .ok (.ifCond .ne 73, 3) := by decide +kernel
theorem dX13_level_44 : decode cX13_level 44 = .ok (.aload_n 0, 1) := by decide +kernel
theorem dX13_level_45 : decode cX13_level 45 = .ok (.bipush 70, 2) := by decide +kernel
theorem dX13_level_47 : decode cX13_level 47 = .ok (.iconst 1, 1) := by decide +kernel
theorem dX13_level_48 : decode cX13_level 48 = .ok (.invokevirtual 510, 3) := by decide +kernel
theorem dX13_level_51 : decode cX13_level 51 = .ok (.istore 4, 2) := by decide +kernel
theorem dX13_level_53 : decode cX13_level 53 = .ok (.aload_n 0, 1) := by decide +kernel
theorem dX13_level_54 : decode cX13_level 54 = .ok (.getfield 32, 3) := by decide +kernel
theorem dX13_level_57 : decode cX13_level 57 = .ok (.iload 4, 2) := by decide +kernel
theorem dX13_level_59 : decode cX13_level 59 = .ok (.aload_n 0, 1) := by decide +kernel
theorem dX13_level_60 : decode cX13_level 60 = .ok (.getfield 438, 3) := by decide +kernel
theorem dX13_level_63 : decode cX13_level 63 = .ok (.i2l, 1) := by decide +kernel
theorem dX13_level_64 : decode cX13_level 64 = .ok (.lastore, 1) := by decide +kernel
theorem dX13_level_65 : decode cX13_level 65 = .ok (.aload_n 0, 1) := by decide +kernel
theorem dX13_level_66 : decode cX13_level 66 = .ok (.invokevirtual 452, 3) := by decide +kernel
theorem dX13_level_69 : decode cX13_level 69 = .ok (.aload_n 0, 1) := by decide +kernel
theorem dX13_level_7 : decode cX13_level 7 = .ok (.iconst 0, 1) := by decide +kernel
theorem dX13_level_70 : decode cX13_level 70 = .ok (.iload 4, 2) := by decide +kernel
theorem dX13_level_72 : decode cX13_level 72 = .ok (.iload_n 2, 1) := by decide +kernel
theorem dX13_level_73 : decode cX13_level 73 = .ok (.invokevirtual 507, 3) := by decide +kernel
theorem dX13_level_76 : decode cX13_level 76 = .ok (.aload_n 0, 1) := by decide +kernel
theorem dX13_level_77 : decode cX13_level 77 = .ok (.iload 4, 2) := by decide +kernel
theorem dX13_level_79 : decode cX13_level 79 = .ok (.aload_n 0, 1) := by decide +kernel
theorem dX13_level_8 : decode cX13_level 8 = .ok (.ireturn, 1) := by decide +kernel
theorem dX13_level_80 : decode cX13_level 80 = .ok (.iload_n 1, 1) := by decide +kernel
theorem dX13_level_81 : decode cX13_level 81 = .ok (.iconst 1, 1) := by decide +kernel
theorem dX13_level_82 : decode cX13_level 82 = .ok (.iadd, 1) := by decide +kernel
theorem dX13_level_83 : decode cX13_level 83 = .ok (.invokestatic 597, 3) := by decide +kernel
theorem dX13_level_86 : decode cX13_level 86 = .ok (.invokevirtual 507, 3) := by decide +kernel
theorem dX13_level_89 : decode cX13_level 89 = .ok (.iload 4, 2) := by decide +kernel
theorem dX13_level_9 : decode cX13_level 9 = .ok (.iload_n 1, 1) := by decide +kernel
theorem dX13_level_91 : decode cX13_level 91 = .ok (.istore_n 2, 1) := by decide +kernel
theorem dX13_level_92 : decode cX13_level 92 = .ok (.iload_n 1, 1) := by decide +kernel
theorem dX13_level_93 : decode cX13_level 93 = .ok (.iconst 2, 1) := by decide +kernel
theorem dX13_level_94 : decode cX13_level 94 = .ok (.if_icmp .eq 15, 3) := by decide +kernel
theorem dX13_level_97 : decode cX13_level 97 = .ok (.aload_n 0, 1) := by decide +kernel
theorem dX13_level_98 : decode cX13_level 98 = .ok (.iload_n 1, 1) := by decide +kernel
theorem dX13_level_99 : decode cX13_level 99 = .ok (.invokevirtual 604, 3) := by decide +kernel
theorem dX13_single_0 : decode cX13_single 0 = .ok (.iconst (-1), 1) := by decide +kernel
theorem dX13_single_1 : decode cX13_single 1 = .ok (.istore_n 1, 1) := by decide +kernel
theorem dX13_single_10 : decode cX13_single 10 = .ok (.aload_n 0, 1) := by decide +kernel
theorem dX13_single_100 : decode cX13_single 100 = .ok (.aload_n 0, 1) := by decide +kernel
theorem dX13_single_101 : decode cX13_single 101 = .ok (.invokevirtual 452, 3) := by decide +kernel
theorem dX13_single_104 : decode cX13_single 104 = .ok (.iload 4, 2) := by decide +kernel
theorem dX13_single_106 : decode cX13_single 106 = .ok (.bipush 67, 2) := by decide +kernel
theorem dX13_single_108 : decode cX13_single 108 = .ok (.if_icmp .ne 30, 3) := by decide +kernel
theorem dX13_single_11 : decode cX13_single 11 = .ok (.getfield 375, 3) := by decide +kernel
theorem dX13_single_111 : decode cX13_single 111 = .ok (.aload_n 0, 1) := by decide +kernel
theorem dX13_single_112 : decode cX13_single 112 = .ok (.getfield 171, 3) := by decide +kernel
theorem dX13_single_115 : decode cX13_single 115 = .ok (.iload 5, 2) := by decide +kernel
theorem dX13_single_117 : decode cX13_single 117 = .ok (.aload_n 0, 1) := by decide +kernel
theorem dX13_single_118 : decode cX13_single 118 = .ok (.getfield 391, 3) := by decide +kernel
theorem dX13_single_121 : decode cX13_single 121 = .ok (.iastore, 1) := by decide +kernel
theorem dX13_single_122 : decode cX13_single 122 = .ok (.aload_n 0, 1) := by decide +kernel
theorem dX13_single_123 : decode cX13_single 123 = .ok (.getfield 32, 3) := by decide +kernel
theorem dX13_single_126 : decode cX13_single 126 = .ok (.iload 5, 2) := by decide +kernel
theorem dX13_single_128 : decode cX13_single 128 = .ok (.aload_n 0, 1) := by decide +kernel
theorem dX13_single_129 : decode cX13_single 129 = .ok (.invokevirtual 535, 3) := by decide +kernel
theorem dX13_single_132 : decode cX13_single 132 = .ok (.i2l, 1) := by decide +kernel
theorem dX13_single_133 : decode cX13_single 133 = .ok (.lastore, 1) := by decide +kernel
theorem dX13_single_134 : decode cX13_single 134 = .ok (.aload_n 0, 1) := by decide +kernel
theorem dX13_single_135 : decode cX13_single 135 = .ok (.invokevirtual 452, 3) := by decide +kernel
theorem dX13_single_138 : decode cX13_single 138 = .ok (.iload_n 2, 1) := by decide +kernel
theorem dX13_single_139 : decode cX13_single 139 = .ok (.ifCond .lt 11, 3) := by decide +kernel
theorem dX13_single_14 : decode cX13_single 14 = .ok (.ifCond .ne 153, 3) := by decide +kernel
theorem dX13_single_142 : decode cX13_single 142 = .ok (.aload_n 0, 1) := by decide +kernel
theorem dX13_single_143 : decode cX13_single 143 = .ok (.getfield 39, 3) := by decide +kernel
theorem dX13_single_146 : decode cX13_single 146 = .ok (.iload_n 2, 1) := by decide +kernel
theorem dX13_single_147 : decode cX13_single 147 = .ok (.iload 5, 2) := by decide +kernel
theorem dX13_single_149 : decode cX13_single 149 = .ok (.iastore, 1) := by decide +kernel
theorem dX13_single_150 : decode cX13_single 150 = .ok (.iload_n 1, 1) := by decide +kernel
theorem dX13_single_151 : decode cX13_single 151 = .ok (.ifCond .ge 8, 3) := by decide +kernel
theorem dX13_single_154 : decode cX13_single 154 = .ok (.iload 5, 2) := by decide +kernel
theorem dX13_single_156 : decode cX13_single 156 = .ok (.goto 4, 3) := by decide +kernel
theorem dX13_single_159 : decode cX13_single 159 = .ok (.iload_n 1, 1) := by decide +kernel
theorem dX13_single_160 : decode cX13_single 160 = .ok (.istore_n 1, 1) := by decide +kernel
theorem dX13_single_161 : decode cX13_single 161 = .ok (.iload 5, 2) := by decide +kernel
theorem dX13_single_163 : decode cX13_single 163 = .ok (.istore_n 2, 1) := by decide +kernel
theorem dX13_single_164 : decode cX13_single 164 = .ok (.goto (-158), 3) := by decide +kernel
theorem dX13_single_167 : decode cX13_single 167 = .ok (.aload_n 0, 1) := by decide +kernel
theorem dX13_single_168 : decode cX13_single 168 = .ok (.invokestatic 607, 3) := by decide +kernel
theorem dX13_single_17 : decode cX13_single 17 = .ok (.aload_n 0, 1) := by decide +kernel
theorem dX13_single_171 : decode cX13_single 171 = .ok (.istore 4, 2) := by decide +kernel
theorem dX13_single_173 : decode cX13_single 173 = .ok (.aload_n 0, 1) := by decide +kernel
theorem dX13_single_174 : decode cX13_single 174 = .ok (.getfield 375, 3) := by decide +kernel
theorem dX13_single_177 : decode cX13_single 177 = .ok (.ifCond .ne 118, 3) := by decide +kernel
theorem dX13_single_18 : decode cX13_single 18 = .ok (.bipush 45, 2) := by decide +kernel
theorem dX13_single_180 : decode cX13_single 180 = .ok (.aload_n 0, 1) := by decide +kernel
theorem dX13_single_181 : decode cX13_single 181 = .ok (.bipush 46, 2) := by decide +kernel
theorem dX13_single_183 : decode cX13_single 183 = .ok (.invokevirtual 449, 3) := by decide +kernel
theorem dX13_single_186 : decode cX13_single 186 = .ok (.ifCond .ne 12, 3) := by decide +kernel
theorem dX13_single_189 : decode cX13_single 189 = .ok (.aload_n 0, 1) := by decide +kernel
theorem dX13_single_190 : decode cX13_single 190 = .ok (.bipush 91, 2) := by decide +kernel
theorem dX13_single_192 : decode cX13_single 192 = .ok (.invokevirtual 449, 3) := by decide +kernel
theorem dX13_single_195 : decode cX13_single 195 = .ok (.ifCond .eq 100, 3) := by decide +kernel
theorem dX13_single_198 : decode cX13_single 198 = .ok (.aload_n 0, 1) := by decide +kernel
theorem dX13_single_199 : decode cX13_single 199 = .ok (.bipush 46, 2) := by decide +kernel
theorem dX13_single_2 : decode cX13_single 2 = .ok (.iconst (-1), 1) := by decide +kernel
theorem dX13_single_20 : decode cX13_single 20 = .ok (.invokevirtual 449, 3) := by decide +kernel
theorem dX13_single_201 : decode cX13_single 201 = .ok (.invokevirtual 449, 3) := by decide +kernel
theorem dX13_single_204 : decode cX13_single 204 = .ok (.istore 5, 2) := by decide +kernel
theorem dX13_single_206 : decode cX13_single 206 = .ok (.aload_n 0, 1) := by decide +kernel
theorem dX13_single_207 : decode cX13_single 207 = .ok (.iload 5, 2) := by decide +kernel
theorem dX13_single_209 : decode cX13_single 209 = .ok (.ifCond .eq 8, 3) := by decide +kernel
theorem dX13_single_212 : decode cX13_single 212 = .ok (.bipush 68, 2) := by decide +kernel
theorem dX13_single_214 : decode cX13_single 214 = .ok (.goto 5, 3) := by decide +kernel
theorem dX13_single_217 : decode cX13_single 217 = .ok (.bipush 69, 2) := by decide +kernel
theorem dX13_single_219 : decode cX13_single 219 = .ok (.iconst 1, 1) := by decide +kernel
theorem dX13_single_220 : decode cX13_single 220 = .ok (.invokevirtual 510, 3) := by decide +kernel
theorem dX13_single_223 : decode cX13_single 223 = .ok (.istore 6, 2) := by decide +kernel
theorem dX13_single_225 : decode cX13_single 225 = .ok (.aload_n 0, 1) := by decide +kernel
theorem dX13_single_226 : decode cX13_single 226 = .ok (.invokevirtual 452, 3) := by decide +kernel
theorem dX13_single_229 : decode cX13_single 229 = .ok (.aload_n 0, 1) := by decide +kernel
theorem dX13_single_23 : decode cX13_single 23 = .ok (.ifCond .eq 8, 3) := by decide +kernel
theorem dX13_single_230 : decode cX13_single 230 = .ok (.iload 6, 2) := by decide +kernel
theorem dX13_single_232 : decode cX13_single 232 = .ok (.iload 4, 2) := by decide +kernel
theorem dX13_single_234 : decode cX13_single 234 = .ok (.invokevirtual 507, 3) := by decide +kernel
theorem dX13_single_237 : decode cX13_single 237 = .ok (.iload 5, 2) := by decide +kernel
theorem dX13_single_239 : decode cX13_single 239 = .ok (.ifCond .eq 33, 3) := by decide +kernel
theorem dX13_single_242 : decode cX13_single 242 = .ok (.aload_n 0, 1) := by decide +kernel
theorem dX13_single_243 : decode cX13_single 243 = .ok (.getfield 171, 3) := by decide +kernel
theorem dX13_single_246 : decode cX13_single 246 = .ok (.iload 6, 2) := by decide +kernel
theorem dX13_single_248 : decode cX13_single 248 = .ok (.aload_n 0, 1) := by decide +kernel
theorem dX13_single_249 : decode cX13_single 249 = .ok (.getfield 391, 3) := by decide +kernel
theorem dX13_single_252 : decode cX13_single 252 = .ok (.iastore, 1) := by decide +kernel
theorem dX13_single_253 : decode cX13_single 253 = .ok (.aload_n 0, 1) := by decide +kernel
theorem dX13_single_254 : decode cX13_single 254 = .ok (.getfield 32, 3) := by decide +kernel
theorem dX13_single_257 : decode cX13_single 257 = .ok (.iload 6, 2) := by decide +kernel
theorem dX13_single_259 : decode cX13_single 259 = .ok (.aload_n 0, 1) := by decide +kernel
theorem dX13_single_26 : decode cX13_single 26 = .ok (.bipush 64, 2) := by decide +kernel
theorem dX13_single_260 : decode cX13_single 260 = .ok (.invokevirtual 535, 3) := by decide +kernel
theorem dX13_single_263 : decode cX13_single 263 = .ok (.i2l, 1) := by decide +kernel
theorem dX13_single_264 : decode cX13_single 264 = .ok (.lastore, 1) := by decide +kernel
theorem dX13_single_265 : decode cX13_single 265 = .ok (.aload_n 0, 1) := by decide +kernel
theorem dX13_single_266 : decode cX13_single 266 = .ok (.invokevirtual 452, 3) := by decide +kernel
theorem dX13_single_269 : decode cX13_single 269 = .ok (.goto 19, 3) := by decide +kernel
theorem dX13_single_272 : decode cX13_single 272 = .ok (.aload_n 0, 1) := by decide +kernel
theorem dX13_single_273 : decode cX13_single 273 = .ok (.iload 6, 2) := by decide +kernel
theorem dX13_single_275 : decode cX13_single 275 = .ok (.aload_n 0, 1) := by decide +kernel
theorem dX13_single_276 : decode cX13_single 276 = .ok (.invokestatic 581, 3) := by decide +kernel
theorem dX13_single_279 : decode cX13_single 279 = .ok (.invokevirtual 507, 3) := by decide +kernel
theorem dX13_single_28 : decode cX13_single 28 = .ok (.goto 46, 3) := by decide +kernel
theorem dX13_single_282 : decode cX13_single 282 = .ok (.aload_n 0, 1) := by decide +kernel
theorem dX13_single_283 : decode cX13_single 283 = .ok (.bipush 93, 2) := by decide +kernel
theorem dX13_single_285 : decode cX13_single 285 = .ok (.invokevirtual 528, 3) := by decide +kernel
theorem dX13_single_288 : decode cX13_single 288 = .ok (.iload 6, 2) := by decide +kernel
theorem dX13_single_290 : decode cX13_single 290 = .ok (.istore 4, 2) := by decide +kernel
theorem dX13_single_292 : decode cX13_single 292 = .ok (.goto (-119), 3) := by decide +kernel
theorem dX13_single_295 : decode cX13_single 295 = .ok (.iload_n 2, 1) := by decide +kernel
theorem dX13_single_296 : decode cX13_single 296 = .ok (.ifCond .lt 11, 3) := by decide +kernel
theorem dX13_single_299 : decode cX13_single 299 = .ok (.aload_n 0, 1) := by decide +kernel
theorem dX13_single_3 : decode cX13_single 3 = .ok (.istore_n 2, 1) := by decide +kernel
theorem dX13_single_300 : decode cX13_single 300 = .ok (.getfield 39, 3) := by decide +kernel
theorem dX13_single_303 : decode cX13_single 303 = .ok (.iload_n 2, 1) := by decide +kernel
theorem dX13_single_304 : decode cX13_single 304 = .ok (.iload 4, 2) := by decide +kernel
theorem dX13_single_306 : decode cX13_single 306 = .ok (.iastore, 1) := by decide +kernel
theorem dX13_single_307 : decode cX13_single 307 = .ok (.iload_n 1, 1) := by decide +kernel
theorem dX13_single_308 : decode cX13_single 308 = .ok (.ifCond .ge 8, 3) := by decide +kernel
theorem dX13_single_31 : decode cX13_single 31 = .ok (.aload_n 0, 1) := by decide +kernel
theorem dX13_single_311 : decode cX13_single 311 = .ok (.iload 4, 2) := by decide +kernel
theorem dX13_single_313 : decode cX13_single 313 = .ok (.goto 4, 3) := by decide +kernel
theorem dX13_single_316 : decode cX13_single 316 = .ok (.iload_n 1, 1) := by decide +kernel
theorem dX13_single_317 : decode cX13_single 317 = .ok (.ireturn, 1) := by decide +kernel
theorem dX13_single_32 : decode cX13_single 32 = .ok (.bipush 33, 2) := by decide +kernel
theorem dX13_single_34 : decode cX13_single 34 = .ok (.invokevirtual 449, 3) := by decide +kernel
theorem dX13_single_37 : decode cX13_single 37 = .ok (.ifCond .eq 8, 3) := by decide +kernel
theorem dX13_single_4 : decode cX13_single 4 = .ok (.iconst 1, 1) := by decide +kernel
theorem dX13_single_40 : decode cX13_single 40 = .ok (.bipush 65, 2) := by decide +kernel
theorem dX13_single_42 : decode cX13_single 42 = .ok (.goto 32, 3) := by decide +kernel
theorem dX13_single_45 : decode cX13_single 45 = .ok (.aload_n 0, 1) := by decide +kernel
theorem dX13_single_46 : decode cX13_single 46 = .ok (.bipush 30, 2) := by decide +kernel
theorem dX13_single_48 : decode cX13_single 48 = .ok (.invokevirtual 455, 3) := by decide +kernel
theorem dX13_single_5 : decode cX13_single 5 = .ok (.istore_n 3, 1) := by decide +kernel
theorem dX13_single_51 : decode cX13_single 51 = .ok (.ifCond .eq 8, 3) := by decide +kernel
theorem dX13_single_54 : decode cX13_single 54 = .ok (.bipush 66, 2) := by decide +kernel
theorem dX13_single_56 : decode cX13_single 56 = .ok (.goto 18, 3) := by decide +kernel
theorem dX13_single_59 : decode cX13_single 59 = .ok (.aload_n 0, 1) := by decide +kernel
theorem dX13_single_6 : decode cX13_single 6 = .ok (.iload_n 3, 1) := by decide +kernel
theorem dX13_single_60 : decode cX13_single 60 = .ok (.bipush 64, 2) := by decide +kernel
theorem dX13_single_62 : decode cX13_single 62 = .ok (.invokevirtual 449, 3) := by decide +kernel
theorem dX13_single_65 : decode cX13_single 65 = .ok (.ifCond .eq 8, 3) := by decide +kernel
theorem dX13_single_68 : decode cX13_single 68 = .ok (.bipush 67, 2) := by decide +kernel
theorem dX13_single_7 : decode cX13_single 7 = .ok (.ifCond .eq 160, 3) := by decide +kernel
theorem dX13_single_70 : decode cX13_single 70 = .ok (.goto 4, 3) := by decide +kernel
theorem dX13_single_73 : decode cX13_single 73 = .ok (.iconst 0, 1) := by decide +kernel
theorem dX13_single_74 : decode cX13_single 74 = .ok (.istore 4, 2) := by decide +kernel
theorem dX13_single_76 : decode cX13_single 76 = .ok (.iload 4, 2) := by decide +kernel
theorem dX13_single_78 : decode cX13_single 78 = .ok (.ifCond .eq 7, 3) := by decide +kernel
theorem dX13_single_81 : decode cX13_single 81 = .ok (.iconst 1, 1) := by decide +kernel
theorem dX13_single_82 : decode cX13_single 82 = .ok (.goto 4, 3) := by decide +kernel
theorem dX13_single_85 : decode cX13_single 85 = .ok (.iconst 0, 1) := by decide +kernel
theorem dX13_single_86 : decode cX13_single 86 = .ok (.istore_n 3, 1) := by decide +kernel
theorem dX13_single_87 : decode cX13_single 87 = .ok (.iload_n 3, 1) := by decide +kernel
theorem dX13_single_88 : decode cX13_single 88 = .ok (.ifCond .eq 76, 3) := by decide +kernel
theorem dX13_single_91 : decode cX13_single 91 = .ok (.aload_n 0, 1) := by decide +kernel
theorem dX13_single_92 : decode cX13_single 92 = .ok (.iload 4, 2) := by decide +kernel
theorem dX13_single_94 : decode cX13_single 94 = .ok (.iconst 1, 1) := by decide +kernel
theorem dX13_single_95 : decode cX13_single 95 = .ok (.invokevirtual 510, 3) := by decide +kernel
theorem dX13_single_98 : decode cX13_single 98 = .ok (.istore 5, 2) := by decide +kernel
theorem dX13_templ_0 : decode cX13_templ 0 = .ok (.aload_n 0, 1) := by decide +kernel
theorem dX13_templ_1 : decode cX13_templ 1 = .ok (.getfield 375, 3) := by decide +kernel
theorem dX13_templ_10 : decode cX13_templ 10 = .ok (.getfield 552, 3) := by decide +kernel
theorem dX13_templ_101 : decode cX13_templ 101 = .ok (.aload_n 0, 1) := by decide +kernel
theorem dX13_templ_102 : decode cX13_templ 102 = .ok (.iload_n 2, 1) := by decide +kernel
theorem dX13_templ_103 : decode cX13_templ 103 = .ok (.bipush 40, 2) := by decide +kernel
theorem dX13_templ_105 : decode cX13_templ 105 = .ok (.invokevirtual 497, 3) := by decide +kernel
theorem dX13_templ_108 : decode cX13_templ 108 = .ok (.aload_n 0, 1) := by decide +kernel
theorem dX13_templ_109 : decode cX13_templ 109 = .ok (.getfield 39, 3) := by decide +kernel
theorem dX13_templ_112 : decode cX13_templ 112 = .ok (.iload_n 2, 1) := by decide +kernel
theorem dX13_templ_113 : decode cX13_templ 113 = .ok (.iload_n 1, 1) := by decide +kernel
theorem dX13_templ_114 : decode cX13_templ 114 = .ok (.iastore, 1) := by decide +kernel
theorem dX13_templ_115 : decode cX13_templ 115 = .ok (.aload_n 0, 1) := by decide +kernel
theorem dX13_templ_116 : decode cX13_templ 116 = .ok (.getfield 29, 3) := by decide +kernel
theorem dX13_templ_119 : decode cX13_templ 119 = .ok (.iload_n 2, 1) := by decide +kernel
theorem dX13_templ_120 : decode cX13_templ 120 = .ok (.aload_n 0, 1) := by decide +kernel
theorem dX13_templ_121 : decode cX13_templ 121 = .ok (.getfield 29, 3) := by decide +kernel
theorem dX13_templ_124 : decode cX13_templ 124 = .ok (.iload_n 1, 1) := by decide +kernel
theorem dX13_templ_125 : decode cX13_templ 125 = .ok (.iaload, 1) := by decide +kernel
theorem dX13_templ_126 : decode cX13_templ 126 = .ok (.iastore, 1) := by decide +kernel
theorem dX13_templ_127 : decode cX13_templ 127 = .ok (.iload_n 2, 1) := by decide +kernel
theorem dX13_templ_128 : decode cX13_templ 128 = .ok (.istore_n 1, 1) := by decide +kernel
theorem dX13_templ_129 : decode cX13_templ 129 = .ok (.aload_n 0, 1) := by decide +kernel
theorem dX13_templ_13 : decode cX13_templ 13 = .ok (.bipush 16, 2) := by decide +kernel
theorem dX13_templ_130 : decode cX13_templ 130 = .ok (.bipush 20, 2) := by decide +kernel
theorem dX13_templ_132 : decode cX13_templ 132 = .ok (.invokevirtual 455, 3) := by decide +kernel
theorem dX13_templ_135 : decode cX13_templ 135 = .ok (.ifCond .eq 14, 3) := by decide +kernel
theorem dX13_templ_138 : decode cX13_templ 138 = .ok (.aload_n 0, 1) := by decide +kernel
theorem dX13_templ_139 : decode cX13_templ 139 = .ok (.invokevirtual 452, 3) := by decide +kernel
theorem dX13_templ_142 : decode cX13_templ 142 = .ok (.aload_n 0, 1) := by decide +kernel
theorem dX13_templ_143 : decode cX13_templ 143 = .ok (.getfield 45, 3) := by decide +kernel
theorem dX13_templ_146 : decode cX13_templ 146 = .ok (.iload_n 1, 1) := by decide +kernel
theorem dX13_templ_147 : decode cX13_templ 147 = .ok (.iconst 1, 1) := by decide +kernel
theorem dX13_templ_148 : decode cX13_templ 148 = .ok (.iastore, 1) := by decide +kernel
theorem dX13_templ_149 : decode cX13_templ 149 = .ok (.aload_n 0, 1) := by decide +kernel
theorem dX13_templ_15 : decode cX13_templ 15 = .ok (.if_icmp .gt 10, 3) := by decide +kernel
theorem dX13_templ_150 : decode cX13_templ 150 = .ok (.dup, 1) := by decide +kernel
theorem dX13_templ_151 : decode cX13_templ 151 = .ok (.getfield 552, 3) := by decide +kernel
theorem dX13_templ_154 : decode cX13_templ 154 = .ok (.iconst 1, 1) := by decide +kernel
theorem dX13_templ_155 : decode cX13_templ 155 = .ok (.isub, 1) := by decide +kernel
theorem dX13_templ_156 : decode cX13_templ 156 = .ok (.putfield 552, 3) := by decide +kernel
theorem dX13_templ_159 : decode cX13_templ 159 = .ok (.iload_n 1, 1) := by decide +kernel
theorem dX13_templ_160 : decode cX13_templ 160 = .ok (.ireturn, 1) := by decide +kernel
theorem dX13_templ_18 : decode cX13_templ 18 = .ok (.aload_n 0, 1) := by decide +kernel
theorem dX13_templ_19 : decode cX13_templ 19 = .ok (.invokevirtual 555, 3) := by decide +kernel
theorem dX13_templ_22 : decode cX13_templ 22 = .ok (.ifCond .ne 25, 3) := by decide +kernel
theorem dX13_templ_25 : decode cX13_templ 25 = .ok (.aload_n 0, 1) := by decide +kernel
theorem dX13_templ_26 : decode cX13_templ 26 = .ok (.aload_n 0, 1) := by decide +kernel
theorem dX13_templ_27 : decode cX13_templ 27 = .ok (.invokevirtual 555, 3) := by decide +kernel
theorem dX13_templ_30 : decode cX13_templ 30 = .ok (.ifCond .eq 7, 3) := by decide +kernel
theorem dX13_templ_33 : decode cX13_templ 33 = .ok (.iconst 5, 1) := by decide +kernel
theorem dX13_templ_34 : decode cX13_templ 34 = .ok (.goto 4, 3) := by decide +kernel
theorem dX13_templ_37 : decode cX13_templ 37 = .ok (.iconst 2, 1) := by decide +kernel
theorem dX13_templ_38 : decode cX13_templ 38 = .ok (.aload_n 0, 1) := by decide +kernel
theorem dX13_templ_39 : decode cX13_templ 39 = .ok (.getfield 391, 3) := by decide +kernel
theorem dX13_templ_4 : decode cX13_templ 4 = .ok (.ifCond .eq 5, 3) := by decide +kernel
theorem dX13_templ_42 : decode cX13_templ 42 = .ok (.invokevirtual 411, 3) := by decide +kernel
theorem dX13_templ_45 : decode cX13_templ 45 = .ok (.iconst 0, 1) := by decide +kernel
theorem dX13_templ_46 : decode cX13_templ 46 = .ok (.ireturn, 1) := by decide +kernel
theorem dX13_templ_47 : decode cX13_templ 47 = .ok (.aload_n 0, 1) := by decide +kernel
theorem dX13_templ_48 : decode cX13_templ 48 = .ok (.dup, 1) := by decide +kernel
theorem dX13_templ_49 : decode cX13_templ 49 = .ok (.getfield 552, 3) := by decide +kernel
theorem dX13_templ_52 : decode cX13_templ 52 = .ok (.iconst 1, 1) := by decide +kernel
theorem dX13_templ_53 : decode cX13_templ 53 = .ok (.iadd, 1) := by decide +kernel
theorem dX13_templ_54 : decode cX13_templ 54 = .ok (.putfield 552, 3) := by decide +kernel
theorem dX13_templ_57 : decode cX13_templ 57 = .ok (.aload_n 0, 1) := by decide +kernel
theorem dX13_templ_58 : decode cX13_templ 58 = .ok (.invokestatic 559, 3) := by decide +kernel
theorem dX13_templ_61 : decode cX13_templ 61 = .ok (.istore_n 1, 1) := by decide +kernel
theorem dX13_templ_62 : decode cX13_templ 62 = .ok (.aload_n 0, 1) := by decide +kernel
theorem dX13_templ_63 : decode cX13_templ 63 = .ok (.bipush 19, 2) := by decide +kernel
theorem dX13_templ_65 : decode cX13_templ 65 = .ok (.invokevirtual 455, 3) := by decide +kernel
theorem dX13_templ_68 : decode cX13_templ 68 = .ok (.ifCond .eq 61, 3) := by decide +kernel
theorem dX13_templ_7 : decode cX13_templ 7 = .ok (.iconst 0, 1) := by decide +kernel
theorem dX13_templ_71 : decode cX13_templ 71 = .ok (.aload_n 0, 1) := by decide +kernel
theorem dX13_templ_72 : decode cX13_templ 72 = .ok (.invokevirtual 452, 3) := by decide +kernel
theorem dX13_templ_75 : decode cX13_templ 75 = .ok (.aload_n 0, 1) := by decide +kernel
theorem dX13_templ_76 : decode cX13_templ 76 = .ok (.bipush 41, 2) := by decide +kernel
theorem dX13_templ_78 : decode cX13_templ 78 = .ok (.iconst 0, 1) := by decide +kernel
theorem dX13_templ_79 : decode cX13_templ 79 = .ok (.invokevirtual 510, 3) := by decide +kernel
theorem dX13_templ_8 : decode cX13_templ 8 = .ok (.ireturn, 1) := by decide +kernel
theorem dX13_templ_82 : decode cX13_templ 82 = .ok (.istore_n 2, 1) := by decide +kernel
theorem dX13_templ_83 : decode cX13_templ 83 = .ok (.aload_n 0, 1) := by decide +kernel
theorem dX13_templ_84 : decode cX13_templ 84 = .ok (.bipush 40, 2) := by decide +kernel
theorem dX13_templ_86 : decode cX13_templ 86 = .ok (.invokevirtual 449, 3) := by decide +kernel
theorem dX13_templ_89 : decode cX13_templ 89 = .ok (.ifCond .ne 12, 3) := by decide +kernel
theorem dX13_templ_9 : decode cX13_templ 9 = .ok (.aload_n 0, 1) := by decide +kernel
theorem dX13_templ_92 : decode cX13_templ 92 = .ok (.aload_n 0, 1) := by decide +kernel
theorem dX13_templ_93 : decode cX13_templ 93 = .ok (.iconst 2, 1) := by decide +kernel
theorem dX13_templ_94 : decode cX13_templ 94 = .ok (.aload_n 0, 1) := by decide +kernel
theorem dX13_templ_95 : decode cX13_templ 95 = .ok (.getfield 391, 3) := by decide +kernel
theorem dX13_templ_98 : decode cX13_templ 98 = .ok (.invokevirtual 411, 3) := by decide +kernel
theorem dX13_templs_0 : decode cX13_templs 0 = .ok (.iconst 1, 1) := by decide +kernel
theorem dX13_templs_1 : decode cX13_templs 1 = .ok (.istore_n 3, 1) := by decide +kernel
theorem dX13_templs_10 : decode cX13_templs 10 = .ok (.getfield 375, 3) := by decide +kernel
theorem dX13_templs_100 : decode cX13_templs 100 = .ok (.bipush 41, 2) := by decide +kernel
theorem dX13_templs_102 : decode cX13_templs 102 = .ok (.invokevirtual 528, 3) := by decide +kernel
theorem dX13_templs_105 : decode cX13_templs 105 = .ok (.aload_n 0, 1) := by decide +kernel
theorem dX13_templs_106 : decode cX13_templs 106 = .ok (.iload_n 1, 1) := by decide +kernel
theorem dX13_templs_107 : decode cX13_templs 107 = .ok (.iload 6, 2) := by decide +kernel
theorem dX13_templs_109 : decode cX13_templs 109 = .ok (.invokevirtual 507, 3) := by decide +kernel
theorem dX13_templs_112 : decode cX13_templs 112 = .ok (.goto 12, 3) := by decide +kernel
theorem dX13_templs_115 : decode cX13_templs 115 = .ok (.aload_n 0, 1) := by decide +kernel
theorem dX13_templs_116 : decode cX13_templs 116 = .ok (.iload_n 1, 1) := by decide +kernel
theorem dX13_templs_117 : decode cX13_templs 117 = .ok (.aload_n 0, 1) := by decide +kernel
theorem dX13_templs_118 : decode cX13_templs 118 = .ok (.invokestatic 574, 3) := by decide +kernel
theorem dX13_templs_121 : decode cX13_templs 121 = .ok (.invokevirtual 507, 3) := by decide +kernel
theorem dX13_templs_124 : decode cX13_templs 124 = .ok (.iinc 4 1, 3) := by decide +kernel
theorem dX13_templs_127 : decode cX13_templs 127 = .ok (.aload_n 0, 1) := by decide +kernel
theorem dX13_templs_128 : decode cX13_templs 128 = .ok (.bipush 44, 2) := by decide +kernel
theorem dX13_templs_13 : decode cX13_templs 13 = .ok (.ifCond .ne 132, 3) := by decide +kernel
theorem dX13_templs_130 : decode cX13_templs 130 = .ok (.invokevirtual 449, 3) := by decide +kernel
theorem dX13_templs_133 : decode cX13_templs 133 = .ok (.istore_n 3, 1) := by decide +kernel
theorem dX13_templs_134 : decode cX13_templs 134 = .ok (.iload_n 3, 1) := by decide +kernel
theorem dX13_templs_135 : decode cX13_templs 135 = .ok (.ifCond .eq 7, 3) := by decide +kernel
theorem dX13_templs_138 : decode cX13_templs 138 = .ok (.aload_n 0, 1) := by decide +kernel
theorem dX13_templs_139 : decode cX13_templs 139 = .ok (.invokevirtual 452, 3) := by decide +kernel
theorem dX13_templs_142 : decode cX13_templs 142 = .ok (.goto (-137), 3) := by decide +kernel
theorem dX13_templs_145 : decode cX13_templs 145 = .ok (.return_, 1) := by decide +kernel
theorem dX13_templs_16 : decode cX13_templs 16 = .ok (.iload_n 2, 1) := by decide +kernel
theorem dX13_templs_17 : decode cX13_templs 17 = .ok (.ifCond .eq 16, 3) := by decide +kernel
theorem dX13_templs_2 : decode cX13_templs 2 = .ok (.iconst 0, 1) := by decide +kernel
theorem dX13_templs_20 : decode cX13_templs 20 = .ok (.aload_n 0, 1) := by decide +kernel
theorem dX13_templs_21 : decode cX13_templs 21 = .ok (.bipush 29, 2) := by decide +kernel
theorem dX13_templs_23 : decode cX13_templs 23 = .ok (.invokevirtual 455, 3) := by decide +kernel
theorem dX13_templs_26 : decode cX13_templs 26 = .ok (.ifCond .eq 7, 3) := by decide +kernel
theorem dX13_templs_29 : decode cX13_templs 29 = .ok (.iconst 1, 1) := by decide +kernel
theorem dX13_templs_3 : decode cX13_templs 3 = .ok (.istore 4, 2) := by decide +kernel
theorem dX13_templs_30 : decode cX13_templs 30 = .ok (.goto 4, 3) := by decide +kernel
theorem dX13_templs_33 : decode cX13_templs 33 = .ok (.iconst 0, 1) := by decide +kernel
theorem dX13_templs_34 : decode cX13_templs 34 = .ok (.istore 5, 2) := by decide +kernel
theorem dX13_templs_36 : decode cX13_templs 36 = .ok (.iload 4, 2) := by decide +kernel
theorem dX13_templs_38 : decode cX13_templs 38 = .ok (.bipush 12, 2) := by decide +kernel
theorem dX13_templs_40 : decode cX13_templs 40 = .ok (.if_icmp .ne 28, 3) := by decide +kernel
theorem dX13_templs_43 : decode cX13_templs 43 = .ok (.aload_n 0, 1) := by decide +kernel
theorem dX13_templs_44 : decode cX13_templs 44 = .ok (.iload 5, 2) := by decide +kernel
theorem dX13_templs_46 : decode cX13_templs 46 = .ok (.ifCond .ne 10, 3) := by decide +kernel
theorem dX13_templs_49 : decode cX13_templs 49 = .ok (.aload_n 0, 1) := by decide +kernel
theorem dX13_templs_5 : decode cX13_templs 5 = .ok (.iload_n 3, 1) := by decide +kernel
theorem dX13_templs_50 : decode cX13_templs 50 = .ok (.invokevirtual 555, 3) := by decide +kernel
theorem dX13_templs_53 : decode cX13_templs 53 = .ok (.ifCond .eq 7, 3) := by decide +kernel
theorem dX13_templs_56 : decode cX13_templs 56 = .ok (.iconst 5, 1) := by decide +kernel
theorem dX13_templs_57 : decode cX13_templs 57 = .ok (.goto 4, 3) := by decide +kernel
theorem dX13_templs_6 : decode cX13_templs 6 = .ok (.ifCond .eq 139, 3) := by decide +kernel
theorem dX13_templs_60 : decode cX13_templs 60 = .ok (.iconst 2, 1) := by decide +kernel
theorem dX13_templs_61 : decode cX13_templs 61 = .ok (.aload_n 0, 1) := by decide +kernel
theorem dX13_templs_62 : decode cX13_templs 62 = .ok (.getfield 391, 3) := by decide +kernel
theorem dX13_templs_65 : decode cX13_templs 65 = .ok (.invokevirtual 411, 3) := by decide +kernel
theorem dX13_templs_68 : decode cX13_templs 68 = .ok (.iload 5, 2) := by decide +kernel
theorem dX13_templs_70 : decode cX13_templs 70 = .ok (.ifCond .eq 45, 3) := by decide +kernel
theorem dX13_templs_73 : decode cX13_templs 73 = .ok (.aload_n 0, 1) := by decide +kernel
theorem dX13_templs_74 : decode cX13_templs 74 = .ok (.bipush 39, 2) := by decide +kernel
theorem dX13_templs_76 : decode cX13_templs 76 = .ok (.iconst 1, 1) := by decide +kernel
theorem dX13_templs_77 : decode cX13_templs 77 = .ok (.invokevirtual 510, 3) := by decide +kernel
theorem dX13_templs_80 : decode cX13_templs 80 = .ok (.istore 6, 2) := by decide +kernel
theorem dX13_templs_82 : decode cX13_templs 82 = .ok (.aload_n 0, 1) := by decide +kernel
theorem dX13_templs_83 : decode cX13_templs 83 = .ok (.invokevirtual 452, 3) := by decide +kernel
theorem dX13_templs_86 : decode cX13_templs 86 = .ok (.aload_n 0, 1) := by decide +kernel
theorem dX13_templs_87 : decode cX13_templs 87 = .ok (.bipush 40, 2) := by decide +kernel
theorem dX13_templs_89 : decode cX13_templs 89 = .ok (.invokevirtual 528, 3) := by decide +kernel
theorem dX13_templs_9 : decode cX13_templs 9 = .ok (.aload_n 0, 1) := by decide +kernel
theorem dX13_templs_92 : decode cX13_templs 92 = .ok (.aload_n 0, 1) := by decide +kernel
theorem dX13_templs_93 : decode cX13_templs 93 = .ok (.iload 6, 2) := by decide +kernel
theorem dX13_templs_95 : decode cX13_templs 95 = .ok (.iconst 0, 1) := by decide +kernel
theorem dX13_templs_96 : decode cX13_templs 96 = .ok (.invokestatic 577, 3) := by decide +kernel
theorem dX13_templs_99 : decode cX13_templs 99 = .ok (.aload_n 0, 1) := by decide +kernel
theorem dX13_tone_0 : decode cX13_tone 0 = .ok (.aload_n 0, 1) := by decide +kernel
theorem dX13_tone_1 : decode cX13_tone 1 = .ok (.getfield 385, 3) := by decide +kernel
theorem dX13_tone_101 : decode cX13_tone 101 = .ok (.iload_n 1, 1) := by decide +kernel
theorem dX13_tone_102 : decode cX13_tone 102 = .ok (.bipush 64, 2) := by decide +kernel
theorem dX13_tone_104 : decode cX13_tone 104 = .ok (.if_icmp .ne 8, 3) := by decide +kernel
theorem dX13_tone_107 : decode cX13_tone 107 = .ok (.bipush 30, 2) := by decide +kernel
theorem dX13_tone_109 : decode cX13_tone 109 = .ok (.goto 27, 3) := by decide +kernel
theorem dX13_tone_112 : decode cX13_tone 112 = .ok (.iload_n 1, 1) := by decide +kernel
theorem dX13_tone_113 : decode cX13_tone 113 = .ok (.bipush 91, 2) := by decide +kernel
theorem dX13_tone_115 : decode cX13_tone 115 = .ok (.if_icmp .ne 8, 3) := by decide +kernel
theorem dX13_tone_118 : decode cX13_tone 118 = .ok (.bipush 31, 2) := by decide +kernel
theorem dX13_tone_12 : decode cX13_tone 12 = .ok (.ireturn, 1) := by decide +kernel
theorem dX13_tone_120 : decode cX13_tone 120 = .ok (.goto 16, 3) := by decide +kernel
theorem dX13_tone_123 : decode cX13_tone 123 = .ok (.iload_n 1, 1) := by decide +kernel
theorem dX13_tone_124 : decode cX13_tone 124 = .ok (.bipush 40, 2) := by decide +kernel
theorem dX13_tone_126 : decode cX13_tone 126 = .ok (.if_icmp .ne 8, 3) := by decide +kernel
theorem dX13_tone_129 : decode cX13_tone 129 = .ok (.bipush 34, 2) := by decide +kernel
theorem dX13_tone_13 : decode cX13_tone 13 = .ok (.aload_n 0, 1) := by decide +kernel
theorem dX13_tone_131 : decode cX13_tone 131 = .ok (.goto 5, 3) := by decide +kernel
theorem dX13_tone_134 : decode cX13_tone 134 = .ok (.bipush 38, 2) := by decide +kernel
theorem dX13_tone_136 : decode cX13_tone 136 = .ok (.iconst 1, 1) := by decide +kernel
theorem dX13_tone_137 : decode cX13_tone 137 = .ok (.invokevirtual 510, 3) := by decide +kernel
theorem dX13_tone_14 : decode cX13_tone 14 = .ok (.getfield 385, 3) := by decide +kernel
theorem dX13_tone_140 : decode cX13_tone 140 = .ok (.istore_n 2, 1) := by decide +kernel
theorem dX13_tone_141 : decode cX13_tone 141 = .ok (.aload_n 0, 1) := by decide +kernel
theorem dX13_tone_142 : decode cX13_tone 142 = .ok (.invokevirtual 452, 3) := by decide +kernel
theorem dX13_tone_145 : decode cX13_tone 145 = .ok (.iload_n 1, 1) := by decide +kernel
theorem dX13_tone_146 : decode cX13_tone 146 = .ok (.lookupswitch 158 #[(40, 119), (61, 134), (64, 58), (91, 95), (123, 50)], 50) := by decide +kernel
theorem dX13_tone_17 : decode cX13_tone 17 = .ok (.iconst 3, 1) := by decide +kernel
theorem dX13_tone_18 : decode cX13_tone 18 = .ok (.if_icmp .ne 22, 3) := by decide +kernel
theorem dX13_tone_196 : decode cX13_tone 196 = .ok (.aload_n 0, 1) := by decide +kernel
theorem dX13_tone_197 : decode cX13_tone 197 = .ok (.iload_n 2, 1) := by decide +kernel
theorem dX13_tone_198 : decode cX13_tone 198 = .ok (.invokestatic 571, 3) := by decide +kernel
theorem dX13_tone_201 : decode cX13_tone 201 = .ok (.goto 103, 3) := by decide +kernel
theorem dX13_tone_204 : decode cX13_tone 204 = .ok (.aload_n 0, 1) := by decide +kernel
theorem dX13_tone_205 : decode cX13_tone 205 = .ok (.getfield 171, 3) := by decide +kernel
theorem dX13_tone_208 : decode cX13_tone 208 = .ok (.iload_n 2, 1) := by decide +kernel
theorem dX13_tone_209 : decode cX13_tone 209 = .ok (.aload_n 0, 1) := by decide +kernel
theorem dX13_tone_21 : decode cX13_tone 21 = .ok (.aload_n 0, 1) := by decide +kernel
theorem dX13_tone_210 : decode cX13_tone 210 = .ok (.getfield 391, 3) := by decide +kernel
theorem dX13_tone_213 : decode cX13_tone 213 = .ok (.iastore, 1) := by decide +kernel
theorem dX13_tone_214 : decode cX13_tone 214 = .ok (.aload_n 0, 1) := by decide +kernel
theorem dX13_tone_215 : decode cX13_tone 215 = .ok (.getfield 32, 3) := by decide +kernel
theorem dX13_tone_218 : decode cX13_tone 218 = .ok (.iload_n 2, 1) := by decide +kernel
theorem dX13_tone_219 : decode cX13_tone 219 = .ok (.aload_n 0, 1) := by decide +kernel
theorem dX13_tone_22 : decode cX13_tone 22 = .ok (.bipush 26, 2) := by decide +kernel
theorem dX13_tone_220 : decode cX13_tone 220 = .ok (.invokevirtual 535, 3) := by decide +kernel
theorem dX13_tone_223 : decode cX13_tone 223 = .ok (.i2l, 1) := by decide +kernel
theorem dX13_tone_224 : decode cX13_tone 224 = .ok (.lastore, 1) := by decide +kernel
theorem dX13_tone_225 : decode cX13_tone 225 = .ok (.aload_n 0, 1) := by decide +kernel
theorem dX13_tone_226 : decode cX13_tone 226 = .ok (.invokevirtual 452, 3) := by decide +kernel
theorem dX13_tone_229 : decode cX13_tone 229 = .ok (.aload_n 0, 1) := by decide +kernel
theorem dX13_tone_230 : decode cX13_tone 230 = .ok (.iload_n 2, 1) := by decide +kernel
theorem dX13_tone_231 : decode cX13_tone 231 = .ok (.aload_n 0, 1) := by decide +kernel
theorem dX13_tone_232 : decode cX13_tone 232 = .ok (.invokestatic 574, 3) := by decide +kernel
theorem dX13_tone_235 : decode cX13_tone 235 = .ok (.invokevirtual 507, 3) := by decide +kernel
theorem dX13_tone_238 : decode cX13_tone 238 = .ok (.goto 66, 3) := by decide +kernel
theorem dX13_tone_24 : decode cX13_tone 24 = .ok (.iconst 1, 1) := by decide +kernel
theorem dX13_tone_241 : decode cX13_tone 241 = .ok (.aload_n 0, 1) := by decide +kernel
theorem dX13_tone_242 : decode cX13_tone 242 = .ok (.bipush 93, 2) := by decide +kernel
theorem dX13_tone_244 : decode cX13_tone 244 = .ok (.invokevirtual 449, 3) := by decide +kernel
theorem dX13_tone_247 : decode cX13_tone 247 = .ok (.ifCond .ne 9, 3) := by decide +kernel
theorem dX13_tone_25 : decode cX13_tone 25 = .ok (.invokevirtual 510, 3) := by decide +kernel
theorem dX13_tone_250 : decode cX13_tone 250 = .ok (.aload_n 0, 1) := by decide +kernel
theorem dX13_tone_251 : decode cX13_tone 251 = .ok (.iload_n 2, 1) := by decide +kernel
theorem dX13_tone_252 : decode cX13_tone 252 = .ok (.iconst 1, 1) := by decide +kernel
theorem dX13_tone_253 : decode cX13_tone 253 = .ok (.invokestatic 577, 3) := by decide +kernel
theorem dX13_tone_256 : decode cX13_tone 256 = .ok (.aload_n 0, 1) := by decide +kernel
theorem dX13_tone_257 : decode cX13_tone 257 = .ok (.bipush 93, 2) := by decide +kernel
theorem dX13_tone_259 : decode cX13_tone 259 = .ok (.invokevirtual 528, 3) := by decide +kernel
theorem dX13_tone_262 : decode cX13_tone 262 = .ok (.goto 42, 3) := by decide +kernel
theorem dX13_tone_265 : decode cX13_tone 265 = .ok (.aload_n 0, 1) := by decide +kernel
theorem dX13_tone_266 : decode cX13_tone 266 = .ok (.iload_n 2, 1) := by decide +kernel
theorem dX13_tone_267 : decode cX13_tone 267 = .ok (.iconst 0, 1) := by decide +kernel
theorem dX13_tone_268 : decode cX13_tone 268 = .ok (.invokestatic 577, 3) := by decide +kernel
theorem dX13_tone_271 : decode cX13_tone 271 = .ok (.aload_n 0, 1) := by decide +kernel
theorem dX13_tone_272 : decode cX13_tone 272 = .ok (.bipush 41, 2) := by decide +kernel
theorem dX13_tone_274 : decode cX13_tone 274 = .ok (.invokevirtual 528, 3) := by decide +kernel
theorem dX13_tone_277 : decode cX13_tone 277 = .ok (.goto 27, 3) := by decide +kernel
theorem dX13_tone_28 : decode cX13_tone 28 = .ok (.istore_n 1, 1) := by decide +kernel
theorem dX13_tone_280 : decode cX13_tone 280 = .ok (.aload_n 0, 1) := by decide +kernel
theorem dX13_tone_281 : decode cX13_tone 281 = .ok (.bipush 40, 2) := by decide +kernel
theorem dX13_tone_283 : decode cX13_tone 283 = .ok (.invokevirtual 528, 3) := by decide +kernel
theorem dX13_tone_286 : decode cX13_tone 286 = .ok (.aload_n 0, 1) := by decide +kernel
theorem dX13_tone_287 : decode cX13_tone 287 = .ok (.iload_n 2, 1) := by decide +kernel
theorem dX13_tone_288 : decode cX13_tone 288 = .ok (.aload_n 0, 1) := by decide +kernel
theorem dX13_tone_289 : decode cX13_tone 289 = .ok (.invokestatic 581, 3) := by decide +kernel
theorem dX13_tone_29 : decode cX13_tone 29 = .ok (.aload_n 0, 1) := by decide +kernel
theorem dX13_tone_292 : decode cX13_tone 292 = .ok (.invokevirtual 507, 3) := by decide +kernel
theorem dX13_tone_295 : decode cX13_tone 295 = .ok (.aload_n 0, 1) := by decide +kernel
theorem dX13_tone_296 : decode cX13_tone 296 = .ok (.bipush 41, 2) := by decide +kernel
theorem dX13_tone_298 : decode cX13_tone 298 = .ok (.invokevirtual 528, 3) := by decide +kernel
theorem dX13_tone_30 : decode cX13_tone 30 = .ok (.iload_n 1, 1) := by decide +kernel
theorem dX13_tone_301 : decode cX13_tone 301 = .ok (.goto 3, 3) := by decide +kernel
theorem dX13_tone_304 : decode cX13_tone 304 = .ok (.iload_n 2, 1) := by decide +kernel
theorem dX13_tone_305 : decode cX13_tone 305 = .ok (.ireturn, 1) := by decide +kernel
theorem dX13_tone_31 : decode cX13_tone 31 = .ok (.invokevirtual 565, 3) := by decide +kernel
theorem dX13_tone_34 : decode cX13_tone 34 = .ok (.aload_n 0, 1) := by decide +kernel
theorem dX13_tone_35 : decode cX13_tone 35 = .ok (.invokevirtual 452, 3) := by decide +kernel
theorem dX13_tone_38 : decode cX13_tone 38 = .ok (.iload_n 1, 1) := by decide +kernel
theorem dX13_tone_39 : decode cX13_tone 39 = .ok (.ireturn, 1) := by decide +kernel
theorem dX13_tone_4 : decode cX13_tone 4 = .ok (.iconst 1, 1) := by decide +kernel
theorem dX13_tone_40 : decode cX13_tone 40 = .ok (.aload_n 0, 1) := by decide +kernel
theorem dX13_tone_41 : decode cX13_tone 41 = .ok (.getfield 385, 3) := by decide +kernel
theorem dX13_tone_44 : decode cX13_tone 44 = .ok (.iconst 2, 1) := by decide +kernel
theorem dX13_tone_45 : decode cX13_tone 45 = .ok (.if_icmp .eq 12, 3) := by decide +kernel
theorem dX13_tone_48 : decode cX13_tone 48 = .ok (.aload_n 0, 1) := by decide +kernel
theorem dX13_tone_49 : decode cX13_tone 49 = .ok (.bipush 45, 2) := by decide +kernel
theorem dX13_tone_5 : decode cX13_tone 5 = .ok (.if_icmp .ne 8, 3) := by decide +kernel
theorem dX13_tone_51 : decode cX13_tone 51 = .ok (.invokevirtual 449, 3) := by decide +kernel
theorem dX13_tone_54 : decode cX13_tone 54 = .ok (.ifCond .eq 8, 3) := by decide +kernel
theorem dX13_tone_57 : decode cX13_tone 57 = .ok (.aload_n 0, 1) := by decide +kernel
theorem dX13_tone_58 : decode cX13_tone 58 = .ok (.invokevirtual 568, 3) := by decide +kernel
theorem dX13_tone_61 : decode cX13_tone 61 = .ok (.ireturn, 1) := by decide +kernel
theorem dX13_tone_62 : decode cX13_tone 62 = .ok (.aload_n 0, 1) := by decide +kernel
theorem dX13_tone_63 : decode cX13_tone 63 = .ok (.getfield 438, 3) := by decide +kernel
theorem dX13_tone_66 : decode cX13_tone 66 = .ok (.istore_n 1, 1) := by decide +kernel
theorem dX13_tone_67 : decode cX13_tone 67 = .ok (.aload_n 0, 1) := by decide +kernel
theorem dX13_tone_68 : decode cX13_tone 68 = .ok (.iload_n 1, 1) := by decide +kernel
theorem dX13_tone_69 : decode cX13_tone 69 = .ok (.bipush 63, 2) := by decide +kernel
theorem dX13_tone_71 : decode cX13_tone 71 = .ok (.if_icmp .ne 8, 3) := by decide +kernel
theorem dX13_tone_74 : decode cX13_tone 74 = .ok (.bipush 20, 2) := by decide +kernel
theorem dX13_tone_76 : decode cX13_tone 76 = .ok (.goto 60, 3) := by decide +kernel
theorem dX13_tone_79 : decode cX13_tone 79 = .ok (.iload_n 1, 1) := by decide +kernel
theorem dX13_tone_8 : decode cX13_tone 8 = .ok (.aload_n 0, 1) := by decide +kernel
theorem dX13_tone_80 : decode cX13_tone 80 = .ok (.bipush 42, 2) := by decide +kernel
theorem dX13_tone_82 : decode cX13_tone 82 = .ok (.if_icmp .ne 8, 3) := by decide +kernel
theorem dX13_tone_85 : decode cX13_tone 85 = .ok (.bipush 21, 2) := by decide +kernel
theorem dX13_tone_87 : decode cX13_tone 87 = .ok (.goto 49, 3) := by decide +kernel
theorem dX13_tone_9 : decode cX13_tone 9 = .ok (.invokestatic 562, 3) := by decide +kernel
theorem dX13_tone_90 : decode cX13_tone 90 = .ok (.iload_n 1, 1) := by decide +kernel
theorem dX13_tone_91 : decode cX13_tone 91 = .ok (.bipush 123, 2) := by decide +kernel
theorem dX13_tone_93 : decode cX13_tone 93 = .ok (.if_icmp .ne 8, 3) := by decide +kernel
theorem dX13_tone_96 : decode cX13_tone 96 = .ok (.bipush 29, 2) := by decide +kernel
theorem dX13_tone_98 : decode cX13_tone 98 = .ok (.goto 38, 3) := by decide +kernel
theorem dX13_wordBase_0 : decode cX13_wordBase 0 = .ok (.aload_n 0, 1) := by decide +kernel
theorem dX13_wordBase_1 : decode cX13_wordBase 1 = .ok (.getfield 397, 3) := by decide +kernel
theorem dX13_wordBase_10 : decode cX13_wordBase 10 = .ok (.i2l, 1) := by decide +kernel
theorem dX13_wordBase_101 : decode cX13_wordBase 101 = .ok (.iload_n 1, 1) := by decide +kernel
theorem dX13_wordBase_102 : decode cX13_wordBase 102 = .ok (.bipush 31, 2) := by decide +kernel
theorem dX13_wordBase_104 : decode cX13_wordBase 104 = .ok (.if_icmp .ne 8, 3) := by decide +kernel
theorem dX13_wordBase_107 : decode cX13_wordBase 107 = .ok (.bipush 55, 2) := by decide +kernel
theorem dX13_wordBase_109 : decode cX13_wordBase 109 = .ok (.goto 49, 3) := by decide +kernel
theorem dX13_wordBase_11 : decode cX13_wordBase 11 = .ok (.ldc2_w 542, 3) := by decide +kernel
theorem dX13_wordBase_112 : decode cX13_wordBase 112 = .ok (.iload_n 1, 1) := by decide +kernel
theorem dX13_wordBase_113 : decode cX13_wordBase 113 = .ok (.bipush 32, 2) := by decide +kernel
theorem dX13_wordBase_115 : decode cX13_wordBase 115 = .ok (.if_icmp .ne 8, 3) := by decide +kernel
theorem dX13_wordBase_118 : decode cX13_wordBase 118 = .ok (.bipush 56, 2) := by decide +kernel
theorem dX13_wordBase_120 : decode cX13_wordBase 120 = .ok (.goto 38, 3) := by decide +kernel
theorem dX13_wordBase_123 : decode cX13_wordBase 123 = .ok (.iload_n 1, 1) := by decide +kernel
theorem dX13_wordBase_124 : decode cX13_wordBase 124 = .ok (.bipush 33, 2) := by decide +kernel
theorem dX13_wordBase_126 : decode cX13_wordBase 126 = .ok (.if_icmp .ne 8, 3) := by decide +kernel
theorem dX13_wordBase_129 : decode cX13_wordBase 129 = .ok (.bipush 57, 2) := by decide +kernel
theorem dX13_wordBase_131 : decode cX13_wordBase 131 = .ok (.goto 27, 3) := by decide +kernel
theorem dX13_wordBase_134 : decode cX13_wordBase 134 = .ok (.iload_n 1, 1) := by decide +kernel
theorem dX13_wordBase_135 : decode cX13_wordBase 135 = .ok (.bipush 34, 2) := by decide +kernel
theorem dX13_wordBase_137 : decode cX13_wordBase 137 = .ok (.if_icmp .ne 8, 3) := by decide +kernel
theorem dX13_wordBase_14 : decode cX13_wordBase 14 = .ok (.ldc2_w 544, 3) := by decide +kernel
theorem dX13_wordBase_140 : decode cX13_wordBase 140 = .ok (.bipush 61, 2) := by decide +kernel
theorem dX13_wordBase_142 : decode cX13_wordBase 142 = .ok (.goto 16, 3) := by decide +kernel
theorem dX13_wordBase_145 : decode cX13_wordBase 145 = .ok (.iload_n 1, 1) := by decide +kernel
theorem dX13_wordBase_146 : decode cX13_wordBase 146 = .ok (.bipush 35, 2) := by decide +kernel
theorem dX13_wordBase_148 : decode cX13_wordBase 148 = .ok (.if_icmp .ne 8, 3) := by decide +kernel
theorem dX13_wordBase_151 : decode cX13_wordBase 151 = .ok (.bipush 62, 2) := by decide +kernel
theorem dX13_wordBase_153 : decode cX13_wordBase 153 = .ok (.goto 5, 3) := by decide +kernel
theorem dX13_wordBase_156 : decode cX13_wordBase 156 = .ok (.bipush 63, 2) := by decide +kernel
theorem dX13_wordBase_158 : decode cX13_wordBase 158 = .ok (.iconst 1, 1) := by decide +kernel
theorem dX13_wordBase_159 : decode cX13_wordBase 159 = .ok (.invokevirtual 510, 3) := by decide +kernel
theorem dX13_wordBase_162 : decode cX13_wordBase 162 = .ok (.istore_n 3, 1) := by decide +kernel
theorem dX13_wordBase_163 : decode cX13_wordBase 163 = .ok (.aload_n 0, 1) := by decide +kernel
theorem dX13_wordBase_164 : decode cX13_wordBase 164 = .ok (.getfield 36, 3) := by decide +kernel
theorem dX13_wordBase_167 : decode cX13_wordBase 167 = .ok (.iload_n 3, 1) := by decide +kernel
theorem dX13_wordBase_168 : decode cX13_wordBase 168 = .ok (.aload_n 0, 1) := by decide +kernel
theorem dX13_wordBase_169 : decode cX13_wordBase 169 = .ok (.getfield 584, 3) := by decide +kernel
theorem dX13_wordBase_17 : decode cX13_wordBase 17 = .ok (.invokestatic 371, 3) := by decide +kernel
theorem dX13_wordBase_172 : decode cX13_wordBase 172 = .ok (.i2l, 1) := by decide +kernel
theorem dX13_wordBase_173 : decode cX13_wordBase 173 = .ok (.lastore, 1) := by decide +kernel
theorem dX13_wordBase_174 : decode cX13_wordBase 174 = .ok (.aload_n 0, 1) := by decide +kernel
theorem dX13_wordBase_175 : decode cX13_wordBase 175 = .ok (.getfield 45, 3) := by decide +kernel
theorem dX13_wordBase_178 : decode cX13_wordBase 178 = .ok (.iload_n 3, 1) := by decide +kernel
theorem dX13_wordBase_179 : decode cX13_wordBase 179 = .ok (.aload_n 0, 1) := by decide +kernel
theorem dX13_wordBase_180 : decode cX13_wordBase 180 = .ok (.getfield 621, 3) := by decide +kernel
theorem dX13_wordBase_183 : decode cX13_wordBase 183 = .ok (.iastore, 1) := by decide +kernel
theorem dX13_wordBase_184 : decode cX13_wordBase 184 = .ok (.iload_n 1, 1) := by decide +kernel
theorem dX13_wordBase_185 : decode cX13_wordBase 185 = .ok (.ifCond .ge 14, 3) := by decide +kernel
theorem dX13_wordBase_188 : decode cX13_wordBase 188 = .ok (.aload_n 0, 1) := by decide +kernel
theorem dX13_wordBase_189 : decode cX13_wordBase 189 = .ok (.getfield 32, 3) := by decide +kernel
theorem dX13_wordBase_192 : decode cX13_wordBase 192 = .ok (.iload_n 3, 1) := by decide +kernel
theorem dX13_wordBase_193 : decode cX13_wordBase 193 = .ok (.aload_n 0, 1) := by decide +kernel
theorem dX13_wordBase_194 : decode cX13_wordBase 194 = .ok (.invokevirtual 468, 3) := by decide +kernel
theorem dX13_wordBase_197 : decode cX13_wordBase 197 = .ok (.i2l, 1) := by decide +kernel
theorem dX13_wordBase_198 : decode cX13_wordBase 198 = .ok (.lastore, 1) := by decide +kernel
theorem dX13_wordBase_199 : decode cX13_wordBase 199 = .ok (.aload_n 0, 1) := by decide +kernel
theorem dX13_wordBase_20 : decode cX13_wordBase 20 = .ok (.ifCond .ne 17, 3) := by decide +kernel
theorem dX13_wordBase_200 : decode cX13_wordBase 200 = .ok (.invokevirtual 452, 3) := by decide +kernel
theorem dX13_wordBase_203 : decode cX13_wordBase 203 = .ok (.iload_n 1, 1) := by decide +kernel
theorem dX13_wordBase_204 : decode cX13_wordBase 204 = .ok (.bipush 34, 2) := by decide +kernel
theorem dX13_wordBase_206 : decode cX13_wordBase 206 = .ok (.if_icmp .eq 9, 3) := by decide +kernel
theorem dX13_wordBase_209 : decode cX13_wordBase 209 = .ok (.iload_n 1, 1) := by decide +kernel
theorem dX13_wordBase_210 : decode cX13_wordBase 210 = .ok (.bipush 35, 2) := by decide +kernel
theorem dX13_wordBase_212 : decode cX13_wordBase 212 = .ok (.if_icmp .ne 48, 3) := by decide +kernel
theorem dX13_wordBase_215 : decode cX13_wordBase 215 = .ok (.aload_n 0, 1) := by decide +kernel
theorem dX13_wordBase_216 : decode cX13_wordBase 216 = .ok (.bipush 40, 2) := by decide +kernel
theorem dX13_wordBase_218 : decode cX13_wordBase 218 = .ok (.invokevirtual 528, 3) := by decide +kernel
theorem dX13_wordBase_221 : decode cX13_wordBase 221 = .ok (.aload_n 0, 1) := by decide +kernel
theorem dX13_wordBase_222 : decode cX13_wordBase 222 = .ok (.iload_n 3, 1) := by decide +kernel
theorem dX13_wordBase_223 : decode cX13_wordBase 223 = .ok (.aload_n 0, 1) := by decide +kernel
theorem dX13_wordBase_224 : decode cX13_wordBase 224 = .ok (.invokestatic 581, 3) := by decide +kernel
theorem dX13_wordBase_227 : decode cX13_wordBase 227 = .ok (.invokevirtual 507, 3) := by decide +kernel
theorem dX13_wordBase_23 : decode cX13_wordBase 23 = .ok (.iload_n 1, 1) := by decide +kernel
theorem dX13_wordBase_230 : decode cX13_wordBase 230 = .ok (.iload_n 1, 1) := by decide +kernel
theorem dX13_wordBase_231 : decode cX13_wordBase 231 = .ok (.bipush 34, 2) := by decide +kernel
theorem dX13_wordBase_233 : decode cX13_wordBase 233 = .ok (.if_icmp .ne 18, 3) := by decide +kernel
theorem dX13_wordBase_236 : decode cX13_wordBase 236 = .ok (.aload_n 0, 1) := by decide +kernel
theorem dX13_wordBase_237 : decode cX13_wordBase 237 = .ok (.bipush 44, 2) := by decide +kernel
theorem dX13_wordBase_239 : decode cX13_wordBase 239 = .ok (.invokevirtual 528, 3) := by decide +kernel
theorem dX13_wordBase_24 : decode cX13_wordBase 24 = .ok (.i2l, 1) := by decide +kernel
theorem dX13_wordBase_242 : decode cX13_wordBase 242 = .ok (.aload_n 0, 1) := by decide +kernel
theorem dX13_wordBase_243 : decode cX13_wordBase 243 = .ok (.iload_n 3, 1) := by decide +kernel
theorem dX13_wordBase_244 : decode cX13_wordBase 244 = .ok (.aload_n 0, 1) := by decide +kernel
theorem dX13_wordBase_245 : decode cX13_wordBase 245 = .ok (.invokestatic 574, 3) := by decide +kernel
theorem dX13_wordBase_248 : decode cX13_wordBase 248 = .ok (.invokevirtual 507, 3) := by decide +kernel
theorem dX13_wordBase_25 : decode cX13_wordBase 25 = .ok (.ldc2_w 619, 3) := by decide +kernel
theorem dX13_wordBase_251 : decode cX13_wordBase 251 = .ok (.aload_n 0, 1) := by decide +kernel
theorem dX13_wordBase_252 : decode cX13_wordBase 252 = .ok (.bipush 41, 2) := by decide +kernel
theorem dX13_wordBase_254 : decode cX13_wordBase 254 = .ok (.invokevirtual 528, 3) := by decide +kernel
theorem dX13_wordBase_257 : decode cX13_wordBase 257 = .ok (.goto 34, 3) := by decide +kernel
theorem dX13_wordBase_260 : decode cX13_wordBase 260 = .ok (.iload_n 1, 1) := by decide +kernel
theorem dX13_wordBase_261 : decode cX13_wordBase 261 = .ok (.bipush 36, 2) := by decide +kernel
theorem dX13_wordBase_263 : decode cX13_wordBase 263 = .ok (.if_icmp .ne 28, 3) := by decide +kernel
theorem dX13_wordBase_266 : decode cX13_wordBase 266 = .ok (.aload_n 0, 1) := by decide +kernel
theorem dX13_wordBase_267 : decode cX13_wordBase 267 = .ok (.getfield 45, 3) := by decide +kernel
theorem dX13_wordBase_270 : decode cX13_wordBase 270 = .ok (.iload_n 3, 1) := by decide +kernel
theorem dX13_wordBase_271 : decode cX13_wordBase 271 = .ok (.aload_n 0, 1) := by decide +kernel
theorem dX13_wordBase_272 : decode cX13_wordBase 272 = .ok (.getfield 391, 3) := by decide +kernel
theorem dX13_wordBase_275 : decode cX13_wordBase 275 = .ok (.iastore, 1) := by decide +kernel
theorem dX13_wordBase_276 : decode cX13_wordBase 276 = .ok (.aload_n 0, 1) := by decide +kernel
theorem dX13_wordBase_277 : decode cX13_wordBase 277 = .ok (.getfield 32, 3) := by decide +kernel
theorem dX13_wordBase_28 : decode cX13_wordBase 28 = .ok (.ldc2_w 548, 3) := by decide +kernel
theorem dX13_wordBase_280 : decode cX13_wordBase 280 = .ok (.iload_n 3, 1) := by decide +kernel
theorem dX13_wordBase_281 : decode cX13_wordBase 281 = .ok (.aload_n 0, 1) := by decide +kernel
theorem dX13_wordBase_282 : decode cX13_wordBase 282 = .ok (.invokevirtual 535, 3) := by decide +kernel
theorem dX13_wordBase_285 : decode cX13_wordBase 285 = .ok (.i2l, 1) := by decide +kernel
theorem dX13_wordBase_286 : decode cX13_wordBase 286 = .ok (.lastore, 1) := by decide +kernel
theorem dX13_wordBase_287 : decode cX13_wordBase 287 = .ok (.aload_n 0, 1) := by decide +kernel
theorem dX13_wordBase_288 : decode cX13_wordBase 288 = .ok (.invokevirtual 452, 3) := by decide +kernel
theorem dX13_wordBase_291 : decode cX13_wordBase 291 = .ok (.iload_n 3, 1) := by decide +kernel
theorem dX13_wordBase_292 : decode cX13_wordBase 292 = .ok (.ireturn, 1) := by decide +kernel
theorem dX13_wordBase_31 : decode cX13_wordBase 31 = .ok (.invokestatic 371, 3) := by decide +kernel
theorem dX13_wordBase_34 : decode cX13_wordBase 34 = .ok (.ifCond .eq 7, 3) := by decide +kernel
theorem dX13_wordBase_37 : decode cX13_wordBase 37 = .ok (.iconst 1, 1) := by decide +kernel
theorem dX13_wordBase_38 : decode cX13_wordBase 38 = .ok (.goto 4, 3) := by decide +kernel
theorem dX13_wordBase_4 : decode cX13_wordBase 4 = .ok (.istore_n 1, 1) := by decide +kernel
theorem dX13_wordBase_41 : decode cX13_wordBase 41 = .ok (.iconst 0, 1) := by decide +kernel
theorem dX13_wordBase_42 : decode cX13_wordBase 42 = .ok (.istore_n 2, 1) := by decide +kernel
theorem dX13_wordBase_43 : decode cX13_wordBase 43 = .ok (.iload_n 2, 1) := by decide +kernel
theorem dX13_wordBase_44 : decode cX13_wordBase 44 = .ok (.ifCond .ne 14, 3) := by decide +kernel
theorem dX13_wordBase_47 : decode cX13_wordBase 47 = .ok (.aload_n 0, 1) := by decide +kernel
theorem dX13_wordBase_48 : decode cX13_wordBase 48 = .ok (.iconst 2, 1) := by decide +kernel
theorem dX13_wordBase_49 : decode cX13_wordBase 49 = .ok (.aload_n 0, 1) := by decide +kernel
theorem dX13_wordBase_5 : decode cX13_wordBase 5 = .ok (.iload_n 1, 1) := by decide +kernel
theorem dX13_wordBase_50 : decode cX13_wordBase 50 = .ok (.getfield 391, 3) := by decide +kernel
theorem dX13_wordBase_53 : decode cX13_wordBase 53 = .ok (.invokevirtual 411, 3) := by decide +kernel
theorem dX13_wordBase_56 : decode cX13_wordBase 56 = .ok (.iconst 0, 1) := by decide +kernel
theorem dX13_wordBase_57 : decode cX13_wordBase 57 = .ok (.ireturn, 1) := by decide +kernel
theorem dX13_wordBase_58 : decode cX13_wordBase 58 = .ok (.aload_n 0, 1) := by decide +kernel
theorem dX13_wordBase_59 : decode cX13_wordBase 59 = .ok (.iload_n 1, 1) := by decide +kernel
theorem dX13_wordBase_6 : decode cX13_wordBase 6 = .ok (.ifCond .lt 31, 3) := by decide +kernel
theorem dX13_wordBase_60 : decode cX13_wordBase 60 = .ok (.ifCond .ge 8, 3) := by decide +kernel
theorem dX13_wordBase_63 : decode cX13_wordBase 63 = .ok (.bipush 58, 2) := by decide +kernel
theorem dX13_wordBase_65 : decode cX13_wordBase 65 = .ok (.goto 93, 3) := by decide +kernel
theorem dX13_wordBase_68 : decode cX13_wordBase 68 = .ok (.iload_n 1, 1) := by decide +kernel
theorem dX13_wordBase_69 : decode cX13_wordBase 69 = .ok (.bipush 21, 2) := by decide +kernel
theorem dX13_wordBase_71 : decode cX13_wordBase 71 = .ok (.if_icmp .ne 8, 3) := by decide +kernel
theorem dX13_wordBase_74 : decode cX13_wordBase 74 = .ok (.bipush 51, 2) := by decide +kernel
theorem dX13_wordBase_76 : decode cX13_wordBase 76 = .ok (.goto 82, 3) := by decide +kernel
theorem dX13_wordBase_79 : decode cX13_wordBase 79 = .ok (.iload_n 1, 1) := by decide +kernel
theorem dX13_wordBase_80 : decode cX13_wordBase 80 = .ok (.bipush 22, 2) := by decide +kernel
theorem dX13_wordBase_82 : decode cX13_wordBase 82 = .ok (.if_icmp .ne 8, 3) := by decide +kernel
theorem dX13_wordBase_85 : decode cX13_wordBase 85 = .ok (.bipush 52, 2) := by decide +kernel
theorem dX13_wordBase_87 : decode cX13_wordBase 87 = .ok (.goto 71, 3) := by decide +kernel
theorem dX13_wordBase_9 : decode cX13_wordBase 9 = .ok (.iload_n 1, 1) := by decide +kernel
theorem dX13_wordBase_90 : decode cX13_wordBase 90 = .ok (.iload_n 1, 1) := by decide +kernel
theorem dX13_wordBase_91 : decode cX13_wordBase 91 = .ok (.bipush 23, 2) := by decide +kernel
theorem dX13_wordBase_93 : decode cX13_wordBase 93 = .ok (.if_icmp .ne 8, 3) := by decide +kernel
theorem dX13_wordBase_96 : decode cX13_wordBase 96 = .ok (.bipush 54, 2) := by decide +kernel
theorem dX13_wordBase_98 : decode cX13_wordBase 98 = .ok (.goto 60, 3) := by decide +kernel
theorem dX13_wordTone_0 : decode cX13_wordTone 0 = .ok (.aload_n 0, 1) := by decide +kernel
theorem dX13_wordTone_1 : decode cX13_wordTone 1 = .ok (.getfield 397, 3) := by decide +kernel
theorem dX13_wordTone_10 : decode cX13_wordTone 10 = .ok (.bipush 28, 2) := by decide +kernel
theorem dX13_wordTone_100 : decode cX13_wordTone 100 = .ok (.ifCond .ge 25, 3) := by decide +kernel
theorem dX13_wordTone_103 : decode cX13_wordTone 103 = .ok (.aload_n 0, 1) := by decide +kernel
theorem dX13_wordTone_104 : decode cX13_wordTone 104 = .ok (.getfield 32, 3) := by decide +kernel
theorem dX13_wordTone_107 : decode cX13_wordTone 107 = .ok (.iload_n 2, 1) := by decide +kernel
theorem dX13_wordTone_108 : decode cX13_wordTone 108 = .ok (.aload_n 0, 1) := by decide +kernel
theorem dX13_wordTone_109 : decode cX13_wordTone 109 = .ok (.invokevirtual 468, 3) := by decide +kernel
theorem dX13_wordTone_112 : decode cX13_wordTone 112 = .ok (.i2l, 1) := by decide +kernel
theorem dX13_wordTone_113 : decode cX13_wordTone 113 = .ok (.lastore, 1) := by decide +kernel
theorem dX13_wordTone_114 : decode cX13_wordTone 114 = .ok (.aload_n 0, 1) := by decide +kernel
theorem dX13_wordTone_115 : decode cX13_wordTone 115 = .ok (.getfield 36, 3) := by decide +kernel
theorem dX13_wordTone_118 : decode cX13_wordTone 118 = .ok (.iload_n 2, 1) := by decide +kernel
theorem dX13_wordTone_119 : decode cX13_wordTone 119 = .ok (.aload_n 0, 1) := by decide +kernel
theorem dX13_wordTone_12 : decode cX13_wordTone 12 = .ok (.goto 82, 3) := by decide +kernel
theorem dX13_wordTone_120 : decode cX13_wordTone 120 = .ok (.getfield 584, 3) := by decide +kernel
theorem dX13_wordTone_123 : decode cX13_wordTone 123 = .ok (.i2l, 1) := by decide +kernel
theorem dX13_wordTone_124 : decode cX13_wordTone 124 = .ok (.lastore, 1) := by decide +kernel
theorem dX13_wordTone_125 : decode cX13_wordTone 125 = .ok (.aload_n 0, 1) := by decide +kernel
theorem dX13_wordTone_126 : decode cX13_wordTone 126 = .ok (.invokevirtual 452, 3) := by decide +kernel
theorem dX13_wordTone_129 : decode cX13_wordTone 129 = .ok (.iload_n 1, 1) := by decide +kernel
theorem dX13_wordTone_130 : decode cX13_wordTone 130 = .ok (.bipush 26, 2) := by decide +kernel
theorem dX13_wordTone_132 : decode cX13_wordTone 132 = .ok (.if_icmp .ne 32, 3) := by decide +kernel
theorem dX13_wordTone_135 : decode cX13_wordTone 135 = .ok (.aload_n 0, 1) := by decide +kernel
theorem dX13_wordTone_136 : decode cX13_wordTone 136 = .ok (.getfield 385, 3) := by decide +kernel
theorem dX13_wordTone_139 : decode cX13_wordTone 139 = .ok (.iconst 3, 1) := by decide +kernel
theorem dX13_wordTone_140 : decode cX13_wordTone 140 = .ok (.if_icmp .eq 12, 3) := by decide +kernel
theorem dX13_wordTone_143 : decode cX13_wordTone 143 = .ok (.aload_n 0, 1) := by decide +kernel
theorem dX13_wordTone_144 : decode cX13_wordTone 144 = .ok (.iconst 2, 1) := by decide +kernel
theorem dX13_wordTone_145 : decode cX13_wordTone 145 = .ok (.aload_n 0, 1) := by decide +kernel
theorem dX13_wordTone_146 : decode cX13_wordTone 146 = .ok (.getfield 391, 3) := by decide +kernel
theorem dX13_wordTone_149 : decode cX13_wordTone 149 = .ok (.invokevirtual 411, 3) := by decide +kernel
theorem dX13_wordTone_15 : decode cX13_wordTone 15 = .ok (.iload_n 1, 1) := by decide +kernel
theorem dX13_wordTone_152 : decode cX13_wordTone 152 = .ok (.aload_n 0, 1) := by decide +kernel
theorem dX13_wordTone_153 : decode cX13_wordTone 153 = .ok (.iload_n 2, 1) := by decide +kernel
theorem dX13_wordTone_154 : decode cX13_wordTone 154 = .ok (.invokevirtual 565, 3) := by decide +kernel
theorem dX13_wordTone_157 : decode cX13_wordTone 157 = .ok (.aload_n 0, 1) := by decide +kernel
theorem dX13_wordTone_158 : decode cX13_wordTone 158 = .ok (.invokevirtual 452, 3) := by decide +kernel
theorem dX13_wordTone_16 : decode cX13_wordTone 16 = .ok (.bipush 21, 2) := by decide +kernel
theorem dX13_wordTone_161 : decode cX13_wordTone 161 = .ok (.goto 39, 3) := by decide +kernel
theorem dX13_wordTone_164 : decode cX13_wordTone 164 = .ok (.iload_n 1, 1) := by decide +kernel
theorem dX13_wordTone_165 : decode cX13_wordTone 165 = .ok (.bipush 24, 2) := by decide +kernel
theorem dX13_wordTone_167 : decode cX13_wordTone 167 = .ok (.if_icmp .eq 15, 3) := by decide +kernel
theorem dX13_wordTone_170 : decode cX13_wordTone 170 = .ok (.iload_n 1, 1) := by decide +kernel
theorem dX13_wordTone_171 : decode cX13_wordTone 171 = .ok (.bipush 25, 2) := by decide +kernel
theorem dX13_wordTone_173 : decode cX13_wordTone 173 = .ok (.if_icmp .eq 9, 3) := by decide +kernel
theorem dX13_wordTone_176 : decode cX13_wordTone 176 = .ok (.iload_n 1, 1) := by decide +kernel
theorem dX13_wordTone_177 : decode cX13_wordTone 177 = .ok (.bipush 27, 2) := by decide +kernel
theorem dX13_wordTone_179 : decode cX13_wordTone 179 = .ok (.if_icmp .lt 21, 3) := by decide +kernel
theorem dX13_wordTone_18 : decode cX13_wordTone 18 = .ok (.if_icmp .ne 8, 3) := by decide +kernel
theorem dX13_wordTone_182 : decode cX13_wordTone 182 = .ok (.aload_n 0, 1) := by decide +kernel
theorem dX13_wordTone_183 : decode cX13_wordTone 183 = .ok (.bipush 40, 2) := by decide +kernel
theorem dX13_wordTone_185 : decode cX13_wordTone 185 = .ok (.invokevirtual 528, 3) := by decide +kernel
theorem dX13_wordTone_188 : decode cX13_wordTone 188 = .ok (.aload_n 0, 1) := by decide +kernel
theorem dX13_wordTone_189 : decode cX13_wordTone 189 = .ok (.iload_n 2, 1) := by decide +kernel
theorem dX13_wordTone_190 : decode cX13_wordTone 190 = .ok (.iconst 0, 1) := by decide +kernel
theorem dX13_wordTone_191 : decode cX13_wordTone 191 = .ok (.invokestatic 577, 3) := by decide +kernel
theorem dX13_wordTone_194 : decode cX13_wordTone 194 = .ok (.aload_n 0, 1) := by decide +kernel
theorem dX13_wordTone_195 : decode cX13_wordTone 195 = .ok (.bipush 41, 2) := by decide +kernel
theorem dX13_wordTone_197 : decode cX13_wordTone 197 = .ok (.invokevirtual 528, 3) := by decide +kernel
theorem dX13_wordTone_200 : decode cX13_wordTone 200 = .ok (.iload_n 2, 1) := by decide +kernel
theorem dX13_wordTone_201 : decode cX13_wordTone 201 = .ok (.ireturn, 1) := by decide +kernel
theorem dX13_wordTone_21 : decode cX13_wordTone 21 = .ok (.bipush 24, 2) := by decide +kernel
theorem dX13_wordTone_23 : decode cX13_wordTone 23 = .ok (.goto 71, 3) := by decide +kernel
theorem dX13_wordTone_26 : decode cX13_wordTone 26 = .ok (.iload_n 1, 1) := by decide +kernel
theorem dX13_wordTone_27 : decode cX13_wordTone 27 = .ok (.bipush 22, 2) := by decide +kernel
theorem dX13_wordTone_29 : decode cX13_wordTone 29 = .ok (.if_icmp .ne 8, 3) := by decide +kernel
theorem dX13_wordTone_32 : decode cX13_wordTone 32 = .ok (.bipush 25, 2) := by decide +kernel
theorem dX13_wordTone_34 : decode cX13_wordTone 34 = .ok (.goto 60, 3) := by decide +kernel
theorem dX13_wordTone_37 : decode cX13_wordTone 37 = .ok (.iload_n 1, 1) := by decide +kernel
theorem dX13_wordTone_38 : decode cX13_wordTone 38 = .ok (.bipush 23, 2) := by decide +kernel
theorem dX13_wordTone_4 : decode cX13_wordTone 4 = .ok (.istore_n 1, 1) := by decide +kernel
theorem dX13_wordTone_40 : decode cX13_wordTone 40 = .ok (.if_icmp .ne 8, 3) := by decide +kernel
theorem dX13_wordTone_43 : decode cX13_wordTone 43 = .ok (.bipush 27, 2) := by decide +kernel
theorem dX13_wordTone_45 : decode cX13_wordTone 45 = .ok (.goto 49, 3) := by decide +kernel
theorem dX13_wordTone_48 : decode cX13_wordTone 48 = .ok (.iload_n 1, 1) := by decide +kernel
theorem dX13_wordTone_49 : decode cX13_wordTone 49 = .ok (.bipush 24, 2) := by decide +kernel
theorem dX13_wordTone_5 : decode cX13_wordTone 5 = .ok (.aload_n 0, 1) := by decide +kernel
theorem dX13_wordTone_51 : decode cX13_wordTone 51 = .ok (.if_icmp .ne 8, 3) := by decide +kernel
theorem dX13_wordTone_54 : decode cX13_wordTone 54 = .ok (.bipush 32, 2) := by decide +kernel
theorem dX13_wordTone_56 : decode cX13_wordTone 56 = .ok (.goto 38, 3) := by decide +kernel
theorem dX13_wordTone_59 : decode cX13_wordTone 59 = .ok (.iload_n 1, 1) := by decide +kernel
theorem dX13_wordTone_6 : decode cX13_wordTone 6 = .ok (.iload_n 1, 1) := by decide +kernel
theorem dX13_wordTone_60 : decode cX13_wordTone 60 = .ok (.bipush 25, 2) := by decide +kernel
theorem dX13_wordTone_62 : decode cX13_wordTone 62 = .ok (.if_icmp .ne 8, 3) := by decide +kernel
theorem dX13_wordTone_65 : decode cX13_wordTone 65 = .ok (.bipush 33, 2) := by decide +kernel
theorem dX13_wordTone_67 : decode cX13_wordTone 67 = .ok (.goto 27, 3) := by decide +kernel
theorem dX13_wordTone_7 : decode cX13_wordTone 7 = .ok (.ifCond .ge 8, 3) := by decide +kernel
theorem dX13_wordTone_70 : decode cX13_wordTone 70 = .ok (.iload_n 1, 1) := by decide +kernel
theorem dX13_wordTone_71 : decode cX13_wordTone 71 = .ok (.bipush 26, 2) := by decide +kernel
theorem dX13_wordTone_73 : decode cX13_wordTone 73 = .ok (.if_icmp .ne 8, 3) := by decide +kernel
theorem dX13_wordTone_76 : decode cX13_wordTone 76 = .ok (.bipush 35, 2) := by decide +kernel
theorem dX13_wordTone_78 : decode cX13_wordTone 78 = .ok (.goto 16, 3) := by decide +kernel
theorem dX13_wordTone_81 : decode cX13_wordTone 81 = .ok (.iload_n 1, 1) := by decide +kernel
theorem dX13_wordTone_82 : decode cX13_wordTone 82 = .ok (.bipush 27, 2) := by decide +kernel
theorem dX13_wordTone_84 : decode cX13_wordTone 84 = .ok (.if_icmp .ne 8, 3) := by decide +kernel
theorem dX13_wordTone_87 : decode cX13_wordTone 87 = .ok (.bipush 36, 2) := by decide +kernel
theorem dX13_wordTone_89 : decode cX13_wordTone 89 = .ok (.goto 5, 3) := by decide +kernel
theorem dX13_wordTone_92 : decode cX13_wordTone 92 = .ok (.bipush 37, 2) := by decide +kernel
theorem dX13_wordTone_94 : decode cX13_wordTone 94 = .ok (.iconst 1, 1) := by decide +kernel
theorem dX13_wordTone_95 : decode cX13_wordTone 95 = .ok (.invokevirtual 510, 3) := by decide +kernel
theorem dX13_wordTone_98 : decode cX13_wordTone 98 = .ok (.istore_n 2, 1) := by decide +kernel
theorem dX13_wordTone_99 : decode cX13_wordTone 99 = .ok (.iload_n 1, 1) := by decide +kernel
abbrev RT_X13_base : Type := (t_S → Option (Int32 × t_S)) × (t_S → Option (Int32 × t_S)) × (Int32 → t_S → Option (t_S)) × (Int32 → t_S → Option (t_S)) × (Int32 → t_S → Option (t_S)) × (Int32 → t_S → Option (Int32 × t_S)) × (t_S → Option (Int32 × t_S)) × (t_S → Option (Int32 × t_S)) × (Int32 → Int32 → t_S → Option (t_S)) × (t_S → Option (Int32 × t_S)) × (t_S → Option (Int32 × t_S)) × (t_S → Option (Int32 × t_S))
def RH_X13_base (rc : RT_X13_base) (k : Nat) : Prop := (∀ (s : t_S) (r : Int32 × t_S), rc.1 s = some r → t_C yX13_base cX13_base 3 (some .int) (8 + k) [.ref 950] s (fun v s' => v = some (.int r.1) ∧ s' = r.2)) ∧ (∀ (s : t_S) (r : Int32 × t_S), rc.2.1 s = some r → t_C yX13_exp cX13_exp 2 (some .int) (8 + k) [.ref 950] s (fun v s' => v = some (.int r.1) ∧ s' = r.2)) ∧ (∀ (x2 : Int32) (s : t_S) (r : t_S), rc.2.2.1 x2 s = some r → t_C yX13_exps cX13_exps 4 none (8 + k) [.ref 950, .int x2] s (fun v s' => v = none ∧ s' = r)) ∧ (∀ (x2 : Int32) (s : t_S) (r : t_S), rc.2.2.2.1 x2 s = some r → t_C yX13_fieldExps cX13_fieldExps 5 none (8 + k) [.ref 950, .int x2] s (fun v s' => v = none ∧ s' = r)) ∧ (∀ (x2 : Int32) (s : t_S) (r : t_S), rc.2.2.2.2.1 x2 s = some r → t_C yX13_fieldTempls cX13_fieldTempls 5 none (8 + k) [.ref 950, .int x2] s (fun v s' => v = none ∧ s' = r)) ∧ (∀ (x2 : Int32) (s : t_S) (r : Int32 × t_S), rc.2.2.2.2.2.1 x2 s = some r → t_C yX13_level cX13_level 5 (some .int) (8 + k) [.ref 950, .int x2] s (fun v s' => v = some (.int r.1) ∧ s' = r.2)) ∧ (∀ (s : t_S) (r : Int32 × t_S), rc.2.2.2.2.2.2.1 s = some r → t_C yX13_single cX13_single 7 (some .int) (8 + k) [.ref 950] s (fun v s' => v = some (.int r.1) ∧ s' = r.2)) ∧ (∀ (s : t_S) (r : Int32 × t_S), rc.2.2.2.2.2.2.2.1 s = some r → t_C yX13_templ cX13_templ 3 (some .int) (8 + k) [.ref 950] s (fun v s' => v = some (.int r.1) ∧ s' = r.2)) ∧ (∀ (x2 : Int32) (x3 : Int32) (s : t_S) (r : t_S), rc.2.2.2.2.2.2.2.2.1 x2 x3 s = some r → t_C yX13_templs cX13_templs 7 none (8 + k) [.ref 950, .int x2, .int x3] s (fun v s' => v = none ∧ s' = r)) ∧ (∀ (s : t_S) (r : Int32 × t_S), rc.2.2.2.2.2.2.2.2.2.1 s = some r → t_C yX13_tone cX13_tone 3 (some .int) (8 + k) [.ref 950] s (fun v s' => v = some (.int r.1) ∧ s' = r.2)) ∧ (∀ (s : t_S) (r : Int32 × t_S), rc.2.2.2.2.2.2.2.2.2.2.1 s = some r → t_C yX13_wordBase cX13_wordBase 4 (some .int) (8 + k) [.ref 950] s (fun v s' => v = some (.int r.1) ∧ s' = r.2)) ∧ (∀ (s : t_S) (r : Int32 × t_S), rc.2.2.2.2.2.2.2.2.2.2.2 s = some r → t_C yX13_wordTone cX13_wordTone 3 (some .int) (8 + k) [.ref 950] s (fun v s' => v = some (.int r.1) ∧ s' = r.2))
noncomputable def k_X13_base_72 (rc : RT_X13_base) (l1 : Int32) (s : t_S) : Option (Int32 × t_S) :=
 (f_X13_next s).bind (fun r1 =>
 some (l1, r1))
set_option maxRecDepth 4000 in
set_option maxHeartbeats 1000000 in
theorem B_X13_base_72 {D : va_G} {cy : Nat → ClassId} {ad : Nat → Nat} {bs : Nat} {X : State → Heap → Prop} (rc : RT_X13_base) {k : Nat} (H : RH_X13_base rc k) (l1 : Int32) (s : t_S) (Q : Int32 × t_S → Prop) (hk : t_hk (k_X13_base_72 rc l1 s) Q) : mj_G D cy ad bs X cX13_base 3 yX13_base.cls (some .int) yX13_base.name (8 + (k + 1)) 0 0 1065 (t_P (fun v s' => ∃ x, v = some (.int x) ∧ Q ((x, s')))) 72 [(0, .ref 950), (1, .int l1)] [] (t_m s) 1065 0 0 := by
  refine mj_aload_n dX13_base_72 0 rfl ?_
  refine t_bndK hk (fun r1 er1 hk => ?_)
  refine t_callVvE dX13_base_73 M_X13_next (C_X13_next _ _ er1) ML_X13_452 IM_X13_next SE_X13_next qc_950 rfl (As := []) rfl rfl (by omega) (Nat.le_of_ble_eq_true rfl) (Nat.le_of_ble_eq_true rfl) (Nat.le_of_ble_eq_true rfl) ?_
  refine mj_iload_n dX13_base_76 1 rfl ?_
  exact t_somK hk (fun hf => t_iret dX13_base_77 rfl rfl ⟨_, rfl, hf⟩ (Nat.le_of_ble_eq_true rfl) (Nat.le_of_ble_eq_true rfl))
noncomputable def k_X13_base_41 (rc : RT_X13_base) (k0 : Int32) (s : t_S) : Option (Int32 × t_S) :=
 (f_X13_node k0 (1 : Int32) s).bind (fun r1 =>
 if (r1.2.1 950 5) = (2 : Int32) then (if t_ix r1.1 13000 = true then
  t_let (t_setJ r1.2 957 (r1.1.toNatClampNeg) (r1.2.2.1 950 8)) (fun s1 =>
 k_X13_base_72 rc r1.1 s1)
else none)
 else ((f_X13_keepText r1.1 r1.2).bind (fun r2 =>
 k_X13_base_72 rc r1.1 r2)))
set_option maxRecDepth 4000 in
set_option maxHeartbeats 1000000 in
theorem B_X13_base_41 {D : va_G} {cy : Nat → ClassId} {ad : Nat → Nat} {bs : Nat} {X : State → Heap → Prop} (rc : RT_X13_base) {k : Nat} (H : RH_X13_base rc k) (k0 : Int32) (s : t_S) (Q : Int32 × t_S → Prop) (hk : t_hk (k_X13_base_41 rc k0 s) Q) : mj_G D cy ad bs X cX13_base 3 yX13_base.cls (some .int) yX13_base.name (8 + (k + 1)) 0 0 1065 (t_P (fun v s' => ∃ x, v = some (.int x) ∧ Q ((x, s')))) 41 [(0, .ref 950)] [.int k0, .ref 950] (t_m s) 1065 0 0 := by
  refine mj_iconst (v := 1) dX13_base_41 (by decide) ?_
  refine t_bndK hk (fun r1 er1 hk => ?_)
  refine t_callViE dX13_base_42 M_X13_node (C_X13_node _ _ _ _ er1) ML_X13_510 IM_X13_node SE_X13_node qc_950 rfl (As := [.int k0, .int 1]) rfl rfl (by omega) (Nat.le_of_ble_eq_true rfl) (Nat.le_of_ble_eq_true rfl) (Nat.le_of_ble_eq_true rfl) ?_
  refine mj_istore_n 1 (lv2 := [(1, .int r1.1), (0, .ref 950)]) dX13_base_45 rfl (by decide) rfl ?_
  refine mj_aload_n dX13_base_46 1 rfl ?_
  refine t_getI dX13_base_47 F_X13_385 qf_950_5 ?_
  refine mj_iconst (v := 2) dX13_base_50 (by decide) ?_
  refine mj_icmp_ne 67 dX13_base_51 (by decide) (fun z => t_negK hk z (fun hk => ?_)) (fun z => t_posK hk z (fun hk => ?_))
  · refine mj_aload_n dX13_base_67 1 rfl ?_
    refine mj_iload_n dX13_base_68 0 rfl ?_
    refine t_bndK hk (fun r2 er2 hk => ?_)
    refine t_callVvE dX13_base_69 M_X13_keepText (C_X13_keepText _ _ _ er2) ML_X13_565 IM_X13_keepText SE_X13_keepText qc_950 rfl (As := [.int r1.1]) rfl rfl (by omega) (Nat.le_of_ble_eq_true rfl) (Nat.le_of_ble_eq_true rfl) (Nat.le_of_ble_eq_true rfl) ?_
    refine mj_sublv [(0, .ref 950), (1, .int r1.1)] [1, 0] rfl ?_
    exact B_X13_base_72 rc H _ _ _ hk
  · refine mj_aload_n dX13_base_54 1 rfl ?_
    refine t_getR 957 dX13_base_55 F_X13_32 qr_950_19 ?_
    refine mj_iload_n dX13_base_58 0 rfl ?_
    refine mj_aload_n dX13_base_59 1 rfl ?_
    refine t_getJ dX13_base_60 F_X13_415 qf_950_8 ?_
    refine t_chkK hk (fun c2 hk => ?_)
    refine t_lastK dX13_base_63 qa_957 (t_ixv c2) (fun s1 ws1 => t_letE hk ws1 (fun hk => ?_))
    refine mj_goto 72 dX13_base_64 (by decide) ?_
    refine mj_sublv [(0, .ref 950), (1, .int r1.1)] [1, 0] rfl ?_
    exact B_X13_base_72 rc H _ _ _ hk
noncomputable def k_X13_base_25 (rc : RT_X13_base) (s : t_S) : Option (Int32 × t_S) :=
 if (s.1 950 5) = (2 : Int32) then (k_X13_base_41 rc 50 s)
 else (k_X13_base_41 rc 53 s)
set_option maxRecDepth 4000 in
set_option maxHeartbeats 1000000 in
theorem B_X13_base_25 {D : va_G} {cy : Nat → ClassId} {ad : Nat → Nat} {bs : Nat} {X : State → Heap → Prop} (rc : RT_X13_base) {k : Nat} (H : RH_X13_base rc k) (s : t_S) (Q : Int32 × t_S → Prop) (hk : t_hk (k_X13_base_25 rc s) Q) : mj_G D cy ad bs X cX13_base 3 yX13_base.cls (some .int) yX13_base.name (8 + (k + 1)) 0 0 1065 (t_P (fun v s' => ∃ x, v = some (.int x) ∧ Q ((x, s')))) 25 [(0, .ref 950)] [] (t_m s) 1065 0 0 := by
  refine mj_aload_n dX13_base_25 0 rfl ?_
  refine mj_aload_n dX13_base_26 0 rfl ?_
  refine t_getI dX13_base_27 F_X13_385 qf_950_5 ?_
  refine mj_iconst (v := 2) dX13_base_30 (by decide) ?_
  refine mj_icmp_ne 39 dX13_base_31 (by decide) (fun z => t_negK hk z (fun hk => ?_)) (fun z => t_posK hk z (fun hk => ?_))
  · refine mj_bipush (v := 53) dX13_base_39 (by decide) ?_
    exact B_X13_base_41 rc H _ _ _ hk
  · refine mj_bipush (v := 50) dX13_base_34 (by decide) ?_
    refine mj_goto 41 dX13_base_36 (by decide) ?_
    exact B_X13_base_41 rc H _ _ _ hk
noncomputable def k_X13_base_212 (rc : RT_X13_base) (l2 : Int32) (s : t_S) : Option (Int32 × t_S) :=
 (f_X13_mustBe (93 : Int32) s).bind (fun r1 =>
 some (l2, r1))
set_option maxRecDepth 4000 in
set_option maxHeartbeats 1000000 in
theorem B_X13_base_212 {D : va_G} {cy : Nat → ClassId} {ad : Nat → Nat} {bs : Nat} {X : State → Heap → Prop} (rc : RT_X13_base) {k : Nat} (H : RH_X13_base rc k) (l2 : Int32) (s : t_S) (Q : Int32 × t_S → Prop) (hk : t_hk (k_X13_base_212 rc l2 s) Q) : mj_G D cy ad bs X cX13_base 3 yX13_base.cls (some .int) yX13_base.name (8 + (k + 1)) 0 0 1065 (t_P (fun v s' => ∃ x, v = some (.int x) ∧ Q ((x, s')))) 212 [(0, .ref 950), (2, .int l2)] [] (t_m s) 1065 0 0 := by
  refine mj_aload_n dX13_base_212 0 rfl ?_
  refine mj_bipush (v := 93) dX13_base_213 (by decide) ?_
  refine t_bndK hk (fun r1 er1 hk => ?_)
  refine t_callVvE dX13_base_215 M_X13_mustBe (C_X13_mustBe _ _ _ er1) ML_X13_528 IM_X13_mustBe SE_X13_mustBe qc_950 rfl (As := [.int 93]) rfl rfl (by omega) (Nat.le_of_ble_eq_true rfl) (Nat.le_of_ble_eq_true rfl) (Nat.le_of_ble_eq_true rfl) ?_
  refine mj_iload_n dX13_base_218 1 rfl ?_
  exact t_somK hk (fun hf => t_iret dX13_base_219 rfl rfl ⟨_, rfl, hf⟩ (Nat.le_of_ble_eq_true rfl) (Nat.le_of_ble_eq_true rfl))
noncomputable def k_X13_base_177 (rc : RT_X13_base) (l1 : Int32) (k0 : Int32) (s : t_S) : Option (Int32 × t_S) :=
 (f_X13_node k0 (1 : Int32) s).bind (fun r1 =>
 (f_X13_next r1.2).bind (fun r2 =>
 if l1 = (0 : Int32) then (if (f_X13_is (93 : Int32) r2) = (0 : Int32) then ((rc.2.2.1 r1.1 r2).bind (fun r4 =>
 k_X13_base_212 rc r1.1 r4))
 else (k_X13_base_212 rc r1.1 r2))
 else ((rc.2.2.2.1 r1.1 r2).bind (fun r5 =>
 some (r1.1, r5)))))
set_option maxRecDepth 4000 in
set_option maxHeartbeats 1000000 in
theorem B_X13_base_177 {D : va_G} {cy : Nat → ClassId} {ad : Nat → Nat} {bs : Nat} {X : State → Heap → Prop} (rc : RT_X13_base) {k : Nat} (H : RH_X13_base rc k) (l1 : Int32) (k0 : Int32) (s : t_S) (Q : Int32 × t_S → Prop) (hk : t_hk (k_X13_base_177 rc l1 k0 s) Q) : mj_G D cy ad bs X cX13_base 3 yX13_base.cls (some .int) yX13_base.name (8 + (k + 1)) 0 0 1065 (t_P (fun v s' => ∃ x, v = some (.int x) ∧ Q ((x, s')))) 177 [(0, .ref 950), (1, .int l1)] [.int k0, .ref 950] (t_m s) 1065 0 0 := by
  refine mj_iconst (v := 1) dX13_base_177 (by decide) ?_
  refine t_bndK hk (fun r1 er1 hk => ?_)
  refine t_callViE dX13_base_178 M_X13_node (C_X13_node _ _ _ _ er1) ML_X13_510 IM_X13_node SE_X13_node qc_950 rfl (As := [.int k0, .int 1]) rfl rfl (by omega) (Nat.le_of_ble_eq_true rfl) (Nat.le_of_ble_eq_true rfl) (Nat.le_of_ble_eq_true rfl) ?_
  refine mj_istore_n 2 (lv2 := [(2, .int r1.1), (0, .ref 950), (1, .int l1)]) dX13_base_181 rfl (by decide) rfl ?_
  refine mj_aload_n dX13_base_182 1 rfl ?_
  refine t_bndK hk (fun r2 er2 hk => ?_)
  refine t_callVvE dX13_base_183 M_X13_next (C_X13_next _ _ er2) ML_X13_452 IM_X13_next SE_X13_next qc_950 rfl (As := []) rfl rfl (by omega) (Nat.le_of_ble_eq_true rfl) (Nat.le_of_ble_eq_true rfl) (Nat.le_of_ble_eq_true rfl) ?_
  refine mj_iload_n dX13_base_186 2 rfl ?_
  refine mj_if_eq 198 dX13_base_187 (by decide) (fun z => t_posK hk z (fun hk => ?_)) (fun z => t_negK hk z (fun hk => ?_))
  · refine mj_aload_n dX13_base_198 1 rfl ?_
    refine mj_bipush (v := 93) dX13_base_199 (by decide) ?_
    refine t_callViP dX13_base_201 M_X13_is (C_X13_is _ _) ML_X13_449 IM_X13_is SE_X13_is qc_950 rfl (As := [.int 93]) rfl rfl (by omega) (Nat.le_of_ble_eq_true rfl) (Nat.le_of_ble_eq_true rfl) (Nat.le_of_ble_eq_true rfl) ?_
    refine mj_if_ne 212 dX13_base_204 (by decide) (fun z => t_negK hk z (fun hk => ?_)) (fun z => t_posK hk z (fun hk => ?_))
    · refine mj_sublv [(0, .ref 950), (2, .int r1.1)] [1, 0] rfl ?_
      exact B_X13_base_212 rc H _ _ _ hk
    · refine mj_aload_n dX13_base_207 1 rfl ?_
      refine mj_iload_n dX13_base_208 0 rfl ?_
      refine t_bndK hk (fun r4 er4 hk => ?_)
      refine t_callSvE dX13_base_209 M_X13_exps (H.2.2.1 _ _ _ er4) ML_X13_616 SM_X13_exps (As := [.ref 950, .int r1.1]) rfl rfl (by omega) (Nat.le_of_ble_eq_true rfl) (Nat.le_of_ble_eq_true rfl) (Nat.le_of_ble_eq_true rfl) ?_
      refine mj_sublv [(0, .ref 950), (2, .int r1.1)] [1, 0] rfl ?_
      exact B_X13_base_212 rc H _ _ _ hk
  · refine mj_aload_n dX13_base_190 1 rfl ?_
    refine mj_iload_n dX13_base_191 0 rfl ?_
    refine t_bndK hk (fun r5 er5 hk => ?_)
    refine t_callSvE dX13_base_192 M_X13_fieldExps (H.2.2.2.1 _ _ _ er5) ML_X13_613 SM_X13_fieldExps (As := [.ref 950, .int r1.1]) rfl rfl (by omega) (Nat.le_of_ble_eq_true rfl) (Nat.le_of_ble_eq_true rfl) (Nat.le_of_ble_eq_true rfl) ?_
    refine mj_goto 218 dX13_base_195 (by decide) ?_
    refine mj_iload_n dX13_base_218 0 rfl ?_
    exact t_somK hk (fun hf => t_iret dX13_base_219 rfl rfl ⟨_, rfl, hf⟩ (Nat.le_of_ble_eq_true rfl) (Nat.le_of_ble_eq_true rfl))
noncomputable def k_X13_base_158 (rc : RT_X13_base) (s : t_S) : Option (Int32 × t_S) :=
 if (f_X13_is (123 : Int32) s) = (0 : Int32) then (k_X13_base_177 rc (f_X13_is (123 : Int32) s) 60 s)
 else (k_X13_base_177 rc (f_X13_is (123 : Int32) s) 59 s)
set_option maxRecDepth 4000 in
set_option maxHeartbeats 1000000 in
theorem B_X13_base_158 {D : va_G} {cy : Nat → ClassId} {ad : Nat → Nat} {bs : Nat} {X : State → Heap → Prop} (rc : RT_X13_base) {k : Nat} (H : RH_X13_base rc k) (s : t_S) (Q : Int32 × t_S → Prop) (hk : t_hk (k_X13_base_158 rc s) Q) : mj_G D cy ad bs X cX13_base 3 yX13_base.cls (some .int) yX13_base.name (8 + (k + 1)) 0 0 1065 (t_P (fun v s' => ∃ x, v = some (.int x) ∧ Q ((x, s')))) 158 [(0, .ref 950)] [] (t_m s) 1065 0 0 := by
  refine mj_aload_n dX13_base_158 0 rfl ?_
  refine mj_bipush (v := 123) dX13_base_159 (by decide) ?_
  refine t_callViP dX13_base_161 M_X13_is (C_X13_is _ _) ML_X13_449 IM_X13_is SE_X13_is qc_950 rfl (As := [.int 123]) rfl rfl (by omega) (Nat.le_of_ble_eq_true rfl) (Nat.le_of_ble_eq_true rfl) (Nat.le_of_ble_eq_true rfl) ?_
  refine mj_istore_n 1 (lv2 := [(1, .int (f_X13_is (123 : Int32) s)), (0, .ref 950)]) dX13_base_164 rfl (by decide) rfl ?_
  refine mj_aload_n dX13_base_165 1 rfl ?_
  refine mj_iload_n dX13_base_166 0 rfl ?_
  refine mj_if_eq 175 dX13_base_167 (by decide) (fun z => t_posK hk z (fun hk => ?_)) (fun z => t_negK hk z (fun hk => ?_))
  · refine mj_bipush (v := 60) dX13_base_175 (by decide) ?_
    refine mj_sublv [(0, .ref 950), (1, .int (f_X13_is (123 : Int32) s))] [1, 0] rfl ?_
    exact B_X13_base_177 rc H _ _ _ _ hk
  · refine mj_bipush (v := 59) dX13_base_170 (by decide) ?_
    refine mj_goto 177 dX13_base_172 (by decide) ?_
    refine mj_sublv [(0, .ref 950), (1, .int (f_X13_is (123 : Int32) s))] [1, 0] rfl ?_
    exact B_X13_base_177 rc H _ _ _ _ hk
noncomputable def m_X13_base (rc : RT_X13_base) (s : t_S) : Option (Int32 × t_S) :=
 if (s.1 950 2) = (0 : Int32) then (if (s.1 950 5) = (2 : Int32) then (k_X13_base_25 rc s)
 else (if (s.1 950 5) = (3 : Int32) then (k_X13_base_25 rc s)
 else (if (s.1 950 5) = (1 : Int32) then ((rc.2.2.2.2.2.2.2.2.2.2.1 s).bind (fun r10 =>
 some (r10.1, r10.2)))
 else (if (f_X13_is (40 : Int32) s) = (0 : Int32) then (if (f_X13_is (123 : Int32) s) = (0 : Int32) then (if (f_X13_is (91 : Int32) s) = (0 : Int32) then ((f_X13_fail (2 : Int32) (s.1 950 6) s).bind (fun r4 =>
 some ((0 : Int32), r4)))
 else (k_X13_base_158 rc s))
 else (k_X13_base_158 rc s))
 else ((f_X13_node (72 : Int32) (1 : Int32) s).bind (fun r5 =>
 (f_X13_next r5.2).bind (fun r6 =>
 (rc.2.1 r6).bind (fun r7 =>
 (f_X13_hang r5.1 r7.1 r7.2).bind (fun r8 =>
 (f_X13_mustBe (41 : Int32) r8).bind (fun r9 =>
 some (r5.1, r9)))))))))))
 else (some ((0 : Int32), s))
set_option maxRecDepth 4000 in
set_option maxHeartbeats 1000000 in
theorem E_X13_base (rc : RT_X13_base) {k : Nat} (H : RH_X13_base rc k) (s : t_S) (r : Int32 × t_S) (hr : m_X13_base rc s = some r) : t_C yX13_base cX13_base 3 (some .int) (8 + (k + 1)) [.ref 950] s (fun v s' => v = some (.int r.1) ∧ s' = r.2) := by
  refine t_C.imp (P := fun v s' => ∃ x, v = some (.int x) ∧ (fun q => q = r) ((x, s'))) (t_C.of (by decide +kernel) (Nat.le_of_ble_eq_true rfl) ?_) (fun v s' hp => by obtain ⟨x, rfl, rfl⟩ := hp; exact ⟨rfl, rfl⟩)
  intro D cy ad bs X
  have hk : t_hk (m_X13_base rc s) (fun q => q = r) := ⟨r, hr, rfl⟩
  show mj_G D cy ad bs X cX13_base 3 yX13_base.cls (some .int) yX13_base.name (8 + (k + 1)) 0 0 1065 (t_P (fun v s' => ∃ x, v = some (.int x) ∧ (fun q => q = r) ((x, s')))) 0 [(0, .ref 950)] [] (t_m s) 1065 0 0
  refine mj_aload_n dX13_base_0 0 rfl ?_
  refine t_getI dX13_base_1 F_X13_375 qf_950_2 ?_
  refine mj_if_eq 9 dX13_base_4 (by decide) (fun z => t_posK hk z (fun hk => ?_)) (fun z => t_negK hk z (fun hk => ?_))
  · refine mj_aload_n dX13_base_9 0 rfl ?_
    refine t_getI dX13_base_10 F_X13_385 qf_950_5 ?_
    refine mj_iconst (v := 2) dX13_base_13 (by decide) ?_
    refine mj_icmp_eq 25 dX13_base_14 (by decide) (fun z => t_posK hk z (fun hk => ?_)) (fun z => t_negK hk z (fun hk => ?_))
    · exact B_X13_base_25 rc H _ _ hk
    · refine mj_aload_n dX13_base_17 0 rfl ?_
      refine t_getI dX13_base_18 F_X13_385 qf_950_5 ?_
      refine mj_iconst (v := 3) dX13_base_21 (by decide) ?_
      refine mj_icmp_ne 78 dX13_base_22 (by decide) (fun z => t_negK hk z (fun hk => ?_)) (fun z => t_posK hk z (fun hk => ?_))
      · refine mj_aload_n dX13_base_78 0 rfl ?_
        refine t_getI dX13_base_79 F_X13_385 qf_950_5 ?_
        refine mj_iconst (v := 1) dX13_base_82 (by decide) ?_
        refine mj_icmp_ne 91 dX13_base_83 (by decide) (fun z => t_negK hk z (fun hk => ?_)) (fun z => t_posK hk z (fun hk => ?_))
        · refine mj_aload_n dX13_base_91 0 rfl ?_
          refine mj_bipush (v := 40) dX13_base_92 (by decide) ?_
          refine t_callViP dX13_base_94 M_X13_is (C_X13_is _ _) ML_X13_449 IM_X13_is SE_X13_is qc_950 rfl (As := [.int 40]) rfl rfl (by omega) (Nat.le_of_ble_eq_true rfl) (Nat.le_of_ble_eq_true rfl) (Nat.le_of_ble_eq_true rfl) ?_
          refine mj_if_eq 129 dX13_base_97 (by decide) (fun z => t_posK hk z (fun hk => ?_)) (fun z => t_negK hk z (fun hk => ?_))
          · refine mj_aload_n dX13_base_129 0 rfl ?_
            refine mj_bipush (v := 123) dX13_base_130 (by decide) ?_
            refine t_callViP dX13_base_132 M_X13_is (C_X13_is _ _) ML_X13_449 IM_X13_is SE_X13_is qc_950 rfl (As := [.int 123]) rfl rfl (by omega) (Nat.le_of_ble_eq_true rfl) (Nat.le_of_ble_eq_true rfl) (Nat.le_of_ble_eq_true rfl) ?_
            refine mj_if_ne 158 dX13_base_135 (by decide) (fun z => t_negK hk z (fun hk => ?_)) (fun z => t_posK hk z (fun hk => ?_))
            · exact B_X13_base_158 rc H _ _ hk
            · refine mj_aload_n dX13_base_138 0 rfl ?_
              refine mj_bipush (v := 91) dX13_base_139 (by decide) ?_
              refine t_callViP dX13_base_141 M_X13_is (C_X13_is _ _) ML_X13_449 IM_X13_is SE_X13_is qc_950 rfl (As := [.int 91]) rfl rfl (by omega) (Nat.le_of_ble_eq_true rfl) (Nat.le_of_ble_eq_true rfl) (Nat.le_of_ble_eq_true rfl) ?_
              refine mj_if_ne 158 dX13_base_144 (by decide) (fun z => t_negK hk z (fun hk => ?_)) (fun z => t_posK hk z (fun hk => ?_))
              · exact B_X13_base_158 rc H _ _ hk
              · refine mj_aload_n dX13_base_147 0 rfl ?_
                refine mj_iconst (v := 2) dX13_base_148 (by decide) ?_
                refine mj_aload_n dX13_base_149 0 rfl ?_
                refine t_getI dX13_base_150 F_X13_391 qf_950_6 ?_
                refine t_bndK hk (fun r4 er4 hk => ?_)
                refine t_callVvE dX13_base_153 M_X13_fail (C_X13_fail _ _ _ _ er4) ML_X13_411 IM_X13_fail SE_X13_fail qc_950 rfl (As := [.int 2, .int (s.1 950 6)]) rfl rfl (by omega) (Nat.le_of_ble_eq_true rfl) (Nat.le_of_ble_eq_true rfl) (Nat.le_of_ble_eq_true rfl) ?_
                refine mj_iconst (v := 0) dX13_base_156 (by decide) ?_
                exact t_somK hk (fun hf => t_iret dX13_base_157 rfl rfl ⟨_, rfl, hf⟩ (Nat.le_of_ble_eq_true rfl) (Nat.le_of_ble_eq_true rfl))
          · refine mj_aload_n dX13_base_100 0 rfl ?_
            refine mj_bipush (v := 72) dX13_base_101 (by decide) ?_
            refine mj_iconst (v := 1) dX13_base_103 (by decide) ?_
            refine t_bndK hk (fun r5 er5 hk => ?_)
            refine t_callViE dX13_base_104 M_X13_node (C_X13_node _ _ _ _ er5) ML_X13_510 IM_X13_node SE_X13_node qc_950 rfl (As := [.int 72, .int 1]) rfl rfl (by omega) (Nat.le_of_ble_eq_true rfl) (Nat.le_of_ble_eq_true rfl) (Nat.le_of_ble_eq_true rfl) ?_
            refine mj_istore_n 1 (lv2 := [(1, .int r5.1), (0, .ref 950)]) dX13_base_107 rfl (by decide) rfl ?_
            refine mj_aload_n dX13_base_108 1 rfl ?_
            refine t_bndK hk (fun r6 er6 hk => ?_)
            refine t_callVvE dX13_base_109 M_X13_next (C_X13_next _ _ er6) ML_X13_452 IM_X13_next SE_X13_next qc_950 rfl (As := []) rfl rfl (by omega) (Nat.le_of_ble_eq_true rfl) (Nat.le_of_ble_eq_true rfl) (Nat.le_of_ble_eq_true rfl) ?_
            refine mj_aload_n dX13_base_112 1 rfl ?_
            refine mj_iload_n dX13_base_113 0 rfl ?_
            refine mj_aload_n dX13_base_114 1 rfl ?_
            refine t_bndK hk (fun r7 er7 hk => ?_)
            refine t_callSiE dX13_base_115 M_X13_exp (H.2.1 _ _ er7) ML_X13_581 SM_X13_exp (As := [.ref 950]) rfl rfl (by omega) (Nat.le_of_ble_eq_true rfl) (Nat.le_of_ble_eq_true rfl) (Nat.le_of_ble_eq_true rfl) ?_
            refine t_bndK hk (fun r8 er8 hk => ?_)
            refine t_callVvE dX13_base_118 M_X13_hang (C_X13_hang _ _ _ _ er8) ML_X13_507 IM_X13_hang SE_X13_hang qc_950 rfl (As := [.int r5.1, .int r7.1]) rfl rfl (by omega) (Nat.le_of_ble_eq_true rfl) (Nat.le_of_ble_eq_true rfl) (Nat.le_of_ble_eq_true rfl) ?_
            refine mj_aload_n dX13_base_121 1 rfl ?_
            refine mj_bipush (v := 41) dX13_base_122 (by decide) ?_
            refine t_bndK hk (fun r9 er9 hk => ?_)
            refine t_callVvE dX13_base_124 M_X13_mustBe (C_X13_mustBe _ _ _ er9) ML_X13_528 IM_X13_mustBe SE_X13_mustBe qc_950 rfl (As := [.int 41]) rfl rfl (by omega) (Nat.le_of_ble_eq_true rfl) (Nat.le_of_ble_eq_true rfl) (Nat.le_of_ble_eq_true rfl) ?_
            refine mj_iload_n dX13_base_127 0 rfl ?_
            exact t_somK hk (fun hf => t_iret dX13_base_128 rfl rfl ⟨_, rfl, hf⟩ (Nat.le_of_ble_eq_true rfl) (Nat.le_of_ble_eq_true rfl))
        · refine mj_aload_n dX13_base_86 0 rfl ?_
          refine t_bndK hk (fun r10 er10 hk => ?_)
          refine t_callSiE dX13_base_87 M_X13_wordBase (H.2.2.2.2.2.2.2.2.2.2.1 _ _ er10) ML_X13_610 SM_X13_wordBase (As := [.ref 950]) rfl rfl (by omega) (Nat.le_of_ble_eq_true rfl) (Nat.le_of_ble_eq_true rfl) (Nat.le_of_ble_eq_true rfl) ?_
          exact t_somK hk (fun hf => t_iret dX13_base_90 rfl rfl ⟨_, rfl, hf⟩ (Nat.le_of_ble_eq_true rfl) (Nat.le_of_ble_eq_true rfl))
      · exact B_X13_base_25 rc H _ _ hk
  · refine mj_iconst (v := 0) dX13_base_7 (by decide) ?_
    exact t_somK hk (fun hf => t_iret dX13_base_8 rfl rfl ⟨_, rfl, hf⟩ (Nat.le_of_ble_eq_true rfl) (Nat.le_of_ble_eq_true rfl))
noncomputable def k_X13_exp_38 (rc : RT_X13_base) (k0 : Int32) (s : t_S) : Option (Int32 × t_S) :=
 (f_X13_fail k0 (s.1 950 6) s).bind (fun r1 =>
 some ((0 : Int32), r1))
set_option maxRecDepth 4000 in
set_option maxHeartbeats 1000000 in
theorem B_X13_exp_38 {D : va_G} {cy : Nat → ClassId} {ad : Nat → Nat} {bs : Nat} {X : State → Heap → Prop} (rc : RT_X13_base) {k : Nat} (H : RH_X13_base rc k) (k0 : Int32) (s : t_S) (Q : Int32 × t_S → Prop) (hk : t_hk (k_X13_exp_38 rc k0 s) Q) : mj_G D cy ad bs X cX13_exp 2 yX13_exp.cls (some .int) yX13_exp.name (8 + (k + 1)) 0 0 1065 (t_P (fun v s' => ∃ x, v = some (.int x) ∧ Q ((x, s')))) 38 [(0, .ref 950)] [.int k0, .ref 950] (t_m s) 1065 0 0 := by
  refine mj_aload_n dX13_exp_38 0 rfl ?_
  refine t_getI dX13_exp_39 F_X13_391 qf_950_6 ?_
  refine t_bndK hk (fun r1 er1 hk => ?_)
  refine t_callVvE dX13_exp_42 M_X13_fail (C_X13_fail _ _ _ _ er1) ML_X13_411 IM_X13_fail SE_X13_fail qc_950 rfl (As := [.int k0, .int (s.1 950 6)]) rfl rfl (by omega) (Nat.le_of_ble_eq_true rfl) (Nat.le_of_ble_eq_true rfl) (Nat.le_of_ble_eq_true rfl) ?_
  refine mj_iconst (v := 0) dX13_exp_45 (by decide) ?_
  exact t_somK hk (fun hf => t_iret dX13_exp_46 rfl rfl ⟨_, rfl, hf⟩ (Nat.le_of_ble_eq_true rfl) (Nat.le_of_ble_eq_true rfl))
noncomputable def k_X13_exp_25 (rc : RT_X13_base) (s : t_S) : Option (Int32 × t_S) :=
 if (f_X13_beginsExp s) = (0 : Int32) then (k_X13_exp_38 rc 2 s)
 else (k_X13_exp_38 rc 5 s)
set_option maxRecDepth 4000 in
set_option maxHeartbeats 1000000 in
theorem B_X13_exp_25 {D : va_G} {cy : Nat → ClassId} {ad : Nat → Nat} {bs : Nat} {X : State → Heap → Prop} (rc : RT_X13_base) {k : Nat} (H : RH_X13_base rc k) (s : t_S) (Q : Int32 × t_S → Prop) (hk : t_hk (k_X13_exp_25 rc s) Q) : mj_G D cy ad bs X cX13_exp 2 yX13_exp.cls (some .int) yX13_exp.name (8 + (k + 1)) 0 0 1065 (t_P (fun v s' => ∃ x, v = some (.int x) ∧ Q ((x, s')))) 25 [(0, .ref 950)] [] (t_m s) 1065 0 0 := by
  refine mj_aload_n dX13_exp_25 0 rfl ?_
  refine mj_aload_n dX13_exp_26 0 rfl ?_
  refine t_callViP dX13_exp_27 M_X13_beginsExp (C_X13_beginsExp _) ML_X13_594 IM_X13_beginsExp SE_X13_beginsExp qc_950 rfl (As := []) rfl rfl (by omega) (Nat.le_of_ble_eq_true rfl) (Nat.le_of_ble_eq_true rfl) (Nat.le_of_ble_eq_true rfl) ?_
  refine mj_if_eq 37 dX13_exp_30 (by decide) (fun z => t_posK hk z (fun hk => ?_)) (fun z => t_negK hk z (fun hk => ?_))
  · refine mj_iconst (v := 2) dX13_exp_37 (by decide) ?_
    exact B_X13_exp_38 rc H _ _ _ hk
  · refine mj_iconst (v := 5) dX13_exp_33 (by decide) ?_
    refine mj_goto 38 dX13_exp_34 (by decide) ?_
    exact B_X13_exp_38 rc H _ _ _ hk
noncomputable def m_X13_exp (rc : RT_X13_base) (s : t_S) : Option (Int32 × t_S) :=
 if (s.1 950 2) = (0 : Int32) then (if (16 : Int32) < (s.1 950 32) then (k_X13_exp_25 rc s)
 else (if (f_X13_beginsExp s) = (0 : Int32) then (k_X13_exp_25 rc s)
 else (t_let (t_setI s 950 32 ((s.1 950 32) + (1 : Int32))) (fun s1 =>
 (rc.2.2.2.2.2.1 (0 : Int32) s1).bind (fun r2 =>
 t_let (t_setI r2.2 950 32 ((r2.2.1 950 32) - (1 : Int32))) (fun s2 =>
 some (r2.1, s2)))))))
 else (some ((0 : Int32), s))
set_option maxRecDepth 4000 in
set_option maxHeartbeats 1000000 in
theorem E_X13_exp (rc : RT_X13_base) {k : Nat} (H : RH_X13_base rc k) (s : t_S) (r : Int32 × t_S) (hr : m_X13_exp rc s = some r) : t_C yX13_exp cX13_exp 2 (some .int) (8 + (k + 1)) [.ref 950] s (fun v s' => v = some (.int r.1) ∧ s' = r.2) := by
  refine t_C.imp (P := fun v s' => ∃ x, v = some (.int x) ∧ (fun q => q = r) ((x, s'))) (t_C.of (by decide +kernel) (Nat.le_of_ble_eq_true rfl) ?_) (fun v s' hp => by obtain ⟨x, rfl, rfl⟩ := hp; exact ⟨rfl, rfl⟩)
  intro D cy ad bs X
  have hk : t_hk (m_X13_exp rc s) (fun q => q = r) := ⟨r, hr, rfl⟩
  show mj_G D cy ad bs X cX13_exp 2 yX13_exp.cls (some .int) yX13_exp.name (8 + (k + 1)) 0 0 1065 (t_P (fun v s' => ∃ x, v = some (.int x) ∧ (fun q => q = r) ((x, s')))) 0 [(0, .ref 950)] [] (t_m s) 1065 0 0
  refine mj_aload_n dX13_exp_0 0 rfl ?_
  refine t_getI dX13_exp_1 F_X13_375 qf_950_2 ?_
  refine mj_if_eq 9 dX13_exp_4 (by decide) (fun z => t_posK hk z (fun hk => ?_)) (fun z => t_negK hk z (fun hk => ?_))
  · refine mj_aload_n dX13_exp_9 0 rfl ?_
    refine t_getI dX13_exp_10 F_X13_552 qf_950_32 ?_
    refine mj_bipush (v := 16) dX13_exp_13 (by decide) ?_
    refine mj_icmp_gt 25 dX13_exp_15 (by decide) (fun z => t_posK hk z (fun hk => ?_)) (fun z => t_negK hk z (fun hk => ?_))
    · exact B_X13_exp_25 rc H _ _ hk
    · refine mj_aload_n dX13_exp_18 0 rfl ?_
      refine t_callViP dX13_exp_19 M_X13_beginsExp (C_X13_beginsExp _) ML_X13_594 IM_X13_beginsExp SE_X13_beginsExp qc_950 rfl (As := []) rfl rfl (by omega) (Nat.le_of_ble_eq_true rfl) (Nat.le_of_ble_eq_true rfl) (Nat.le_of_ble_eq_true rfl) ?_
      refine mj_if_ne 47 dX13_exp_22 (by decide) (fun z => t_negK hk z (fun hk => ?_)) (fun z => t_posK hk z (fun hk => ?_))
      · refine mj_aload_n dX13_exp_47 0 rfl ?_
        refine mj_dup dX13_exp_48 rfl ?_
        refine t_getI dX13_exp_49 F_X13_552 qf_950_32 ?_
        refine mj_iconst (v := 1) dX13_exp_52 (by decide) ?_
        refine mj_iadd dX13_exp_53 ?_
        refine t_putIK dX13_exp_54 F_X13_552 qf_950_32 rfl (fun s1 ws1 => t_letE hk ws1 (fun hk => ?_))
        refine mj_aload_n dX13_exp_57 0 rfl ?_
        refine mj_iconst (v := 0) dX13_exp_58 (by decide) ?_
        refine t_bndK hk (fun r2 er2 hk => ?_)
        refine t_callSiE dX13_exp_59 M_X13_level (H.2.2.2.2.2.1 _ _ _ er2) ML_X13_597 SM_X13_level (As := [.ref 950, .int 0]) rfl rfl (by omega) (Nat.le_of_ble_eq_true rfl) (Nat.le_of_ble_eq_true rfl) (Nat.le_of_ble_eq_true rfl) ?_
        refine mj_istore_n 1 (lv2 := [(1, .int r2.1), (0, .ref 950)]) dX13_exp_62 rfl (by decide) rfl ?_
        refine mj_aload_n dX13_exp_63 1 rfl ?_
        refine mj_dup dX13_exp_64 rfl ?_
        refine t_getI dX13_exp_65 F_X13_552 qf_950_32 ?_
        refine mj_iconst (v := 1) dX13_exp_68 (by decide) ?_
        refine mj_isub dX13_exp_69 ?_
        refine t_putIK dX13_exp_70 F_X13_552 qf_950_32 rfl (fun s2 ws2 => t_letE hk ws2 (fun hk => ?_))
        refine mj_iload_n dX13_exp_73 0 rfl ?_
        exact t_somK hk (fun hf => t_iret dX13_exp_74 rfl rfl ⟨_, rfl, hf⟩ (Nat.le_of_ble_eq_true rfl) (Nat.le_of_ble_eq_true rfl))
      · exact B_X13_exp_25 rc H _ _ hk
  · refine mj_iconst (v := 0) dX13_exp_7 (by decide) ?_
    exact t_somK hk (fun hf => t_iret dX13_exp_8 rfl rfl ⟨_, rfl, hf⟩ (Nat.le_of_ble_eq_true rfl) (Nat.le_of_ble_eq_true rfl))
noncomputable def k_X13_exps_41 (rc : RT_X13_base) (l1 : Int32) (l3 : Int32) (s : t_S) : Option ((Int32 × Int32 × Int32 × t_S) ⊕ (t_S)) :=
 (rc.2.1 s).bind (fun r1 =>
 (f_X13_hang l1 r1.1 r1.2).bind (fun r2 =>
 if (f_X13_is (44 : Int32) r2) = (0 : Int32) then (some (.inl (l1, (f_X13_is (44 : Int32) r2), (l3 + 1), r2)))
 else ((f_X13_next r2).bind (fun r4 =>
 some (.inl (l1, (f_X13_is (44 : Int32) r2), (l3 + 1), r4))))))
set_option maxRecDepth 4000 in
set_option maxHeartbeats 1000000 in
theorem B_X13_exps_41 {D : va_G} {cy : Nat → ClassId} {ad : Nat → Nat} {bs : Nat} {X : State → Heap → Prop} (rc : RT_X13_base) {k : Nat} (H : RH_X13_base rc k) (l1 : Int32) (l3 : Int32) (s : t_S) (Q : (Int32 × Int32 × Int32 × t_S) ⊕ (t_S) → Prop) (Hb4 : ∀ (y0 : Int32) (y1 : Int32) (y2 : Int32) (y3 : t_S), Q (.inl (y0, y1, y2, y3)) → mj_G D cy ad bs X cX13_exps 4 yX13_exps.cls none yX13_exps.name (8 + (k + 1)) 0 0 1065 (t_P (fun v s' => v = none ∧ Q (.inr (s')))) 4 [(0, .ref 950), (1, .int (y0)), (2, .int (y1)), (3, .int (y2))] [] (t_m y3) 1065 0 0) (hk : t_hk (k_X13_exps_41 rc l1 l3 s) Q) : mj_G D cy ad bs X cX13_exps 4 yX13_exps.cls none yX13_exps.name (8 + (k + 1)) 0 0 1065 (t_P (fun v s' => v = none ∧ Q (.inr (s')))) 41 [(0, .ref 950), (1, .int l1), (3, .int l3)] [] (t_m s) 1065 0 0 := by
  refine mj_aload_n dX13_exps_41 0 rfl ?_
  refine mj_iload_n dX13_exps_42 1 rfl ?_
  refine mj_aload_n dX13_exps_43 0 rfl ?_
  refine t_bndK hk (fun r1 er1 hk => ?_)
  refine t_callSiE dX13_exps_44 M_X13_exp (H.2.1 _ _ er1) ML_X13_581 SM_X13_exp (As := [.ref 950]) rfl rfl (by omega) (Nat.le_of_ble_eq_true rfl) (Nat.le_of_ble_eq_true rfl) (Nat.le_of_ble_eq_true rfl) ?_
  refine t_bndK hk (fun r2 er2 hk => ?_)
  refine t_callVvE dX13_exps_47 M_X13_hang (C_X13_hang _ _ _ _ er2) ML_X13_507 IM_X13_hang SE_X13_hang qc_950 rfl (As := [.int l1, .int r1.1]) rfl rfl (by omega) (Nat.le_of_ble_eq_true rfl) (Nat.le_of_ble_eq_true rfl) (Nat.le_of_ble_eq_true rfl) ?_
  refine mj_iinc (k := 2) (v := (l3 + 1)) (lv2 := [(3, .int (l3 + 1)), (0, .ref 950), (1, .int l1)]) dX13_exps_50 rfl rfl (by decide) rfl ?_
  refine mj_aload_n dX13_exps_53 1 rfl ?_
  refine mj_bipush (v := 44) dX13_exps_54 (by decide) ?_
  refine t_callViP dX13_exps_56 M_X13_is (C_X13_is _ _) ML_X13_449 IM_X13_is SE_X13_is qc_950 rfl (As := [.int 44]) rfl rfl (by omega) (Nat.le_of_ble_eq_true rfl) (Nat.le_of_ble_eq_true rfl) (Nat.le_of_ble_eq_true rfl) ?_
  refine mj_istore_n 2 (lv2 := [(2, .int (f_X13_is (44 : Int32) r2)), (3, .int (l3 + 1)), (0, .ref 950), (1, .int l1)]) dX13_exps_59 rfl (by decide) rfl ?_
  refine mj_iload_n dX13_exps_60 0 rfl ?_
  refine mj_if_eq 4 dX13_exps_61 (by decide) (fun z => t_posK hk z (fun hk => ?_)) (fun z => t_negK hk z (fun hk => ?_))
  · refine mj_sublv [(0, .ref 950), (1, .int l1), (2, .int (f_X13_is (44 : Int32) r2)), (3, .int (l3 + 1))] [2, 3, 0, 1] rfl ?_
    exact t_somK hk (fun hf => Hb4 l1 (f_X13_is (44 : Int32) r2) (l3 + 1) r2 hf)
  · refine mj_aload_n dX13_exps_64 2 rfl ?_
    refine t_bndK hk (fun r4 er4 hk => ?_)
    refine t_callVvE dX13_exps_65 M_X13_next (C_X13_next _ _ er4) ML_X13_452 IM_X13_next SE_X13_next qc_950 rfl (As := []) rfl rfl (by omega) (Nat.le_of_ble_eq_true rfl) (Nat.le_of_ble_eq_true rfl) (Nat.le_of_ble_eq_true rfl) ?_
    refine mj_goto 4 dX13_exps_68 (by decide) ?_
    refine mj_sublv [(0, .ref 950), (1, .int l1), (2, .int (f_X13_is (44 : Int32) r2)), (3, .int (l3 + 1))] [2, 3, 0, 1] rfl ?_
    exact t_somK hk (fun hf => Hb4 l1 (f_X13_is (44 : Int32) r2) (l3 + 1) r4 hf)
noncomputable def k_X13_exps_34 (rc : RT_X13_base) (l1 : Int32) (l3 : Int32) (k0 : Int32) (s : t_S) : Option ((Int32 × Int32 × Int32 × t_S) ⊕ (t_S)) :=
 (f_X13_fail k0 (s.1 950 6) s).bind (fun r1 =>
 k_X13_exps_41 rc l1 l3 r1)
set_option maxRecDepth 4000 in
set_option maxHeartbeats 1000000 in
theorem B_X13_exps_34 {D : va_G} {cy : Nat → ClassId} {ad : Nat → Nat} {bs : Nat} {X : State → Heap → Prop} (rc : RT_X13_base) {k : Nat} (H : RH_X13_base rc k) (l1 : Int32) (l3 : Int32) (k0 : Int32) (s : t_S) (Q : (Int32 × Int32 × Int32 × t_S) ⊕ (t_S) → Prop) (Hb4 : ∀ (y0 : Int32) (y1 : Int32) (y2 : Int32) (y3 : t_S), Q (.inl (y0, y1, y2, y3)) → mj_G D cy ad bs X cX13_exps 4 yX13_exps.cls none yX13_exps.name (8 + (k + 1)) 0 0 1065 (t_P (fun v s' => v = none ∧ Q (.inr (s')))) 4 [(0, .ref 950), (1, .int (y0)), (2, .int (y1)), (3, .int (y2))] [] (t_m y3) 1065 0 0) (hk : t_hk (k_X13_exps_34 rc l1 l3 k0 s) Q) : mj_G D cy ad bs X cX13_exps 4 yX13_exps.cls none yX13_exps.name (8 + (k + 1)) 0 0 1065 (t_P (fun v s' => v = none ∧ Q (.inr (s')))) 34 [(0, .ref 950), (1, .int l1), (3, .int l3)] [.int k0, .ref 950] (t_m s) 1065 0 0 := by
  refine mj_aload_n dX13_exps_34 0 rfl ?_
  refine t_getI dX13_exps_35 F_X13_391 qf_950_6 ?_
  refine t_bndK hk (fun r1 er1 hk => ?_)
  refine t_callVvE dX13_exps_38 M_X13_fail (C_X13_fail _ _ _ _ er1) ML_X13_411 IM_X13_fail SE_X13_fail qc_950 rfl (As := [.int k0, .int (s.1 950 6)]) rfl rfl (by omega) (Nat.le_of_ble_eq_true rfl) (Nat.le_of_ble_eq_true rfl) (Nat.le_of_ble_eq_true rfl) ?_
  exact B_X13_exps_41 rc H _ _ _ _ (fun y0 y1 y2 y3 hx => Hb4 y0 y1 y2 y3 hx) hk
noncomputable def k_X13_exps_4 (rc : RT_X13_base) (l1 : Int32) (l2 : Int32) (l3 : Int32) (s : t_S) : Option ((Int32 × Int32 × Int32 × t_S) ⊕ (t_S)) :=
 if l2 = (0 : Int32) then ((some (s)).map Sum.inr)
 else (if (s.1 950 2) = (0 : Int32) then (if l3 = (12 : Int32) then (if (f_X13_beginsExp s) = (0 : Int32) then (k_X13_exps_34 rc l1 l3 2 s)
 else (k_X13_exps_34 rc l1 l3 5 s))
 else (k_X13_exps_41 rc l1 l3 s))
 else ((some (s)).map Sum.inr))
set_option maxRecDepth 4000 in
set_option maxHeartbeats 1000000 in
theorem B_X13_exps_4 {D : va_G} {cy : Nat → ClassId} {ad : Nat → Nat} {bs : Nat} {X : State → Heap → Prop} (rc : RT_X13_base) {k : Nat} (H : RH_X13_base rc k) (l1 : Int32) (l2 : Int32) (l3 : Int32) (s : t_S) (Q : (Int32 × Int32 × Int32 × t_S) ⊕ (t_S) → Prop) (Hb4 : ∀ (y0 : Int32) (y1 : Int32) (y2 : Int32) (y3 : t_S), Q (.inl (y0, y1, y2, y3)) → mj_G D cy ad bs X cX13_exps 4 yX13_exps.cls none yX13_exps.name (8 + (k + 1)) 0 0 1065 (t_P (fun v s' => v = none ∧ Q (.inr (s')))) 4 [(0, .ref 950), (1, .int (y0)), (2, .int (y1)), (3, .int (y2))] [] (t_m y3) 1065 0 0) (hk : t_hk (k_X13_exps_4 rc l1 l2 l3 s) Q) : mj_G D cy ad bs X cX13_exps 4 yX13_exps.cls none yX13_exps.name (8 + (k + 1)) 0 0 1065 (t_P (fun v s' => v = none ∧ Q (.inr (s')))) 4 [(0, .ref 950), (1, .int l1), (2, .int l2), (3, .int l3)] [] (t_m s) 1065 0 0 := by
  refine mj_iload_n dX13_exps_4 2 rfl ?_
  refine mj_if_eq 71 dX13_exps_5 (by decide) (fun z => t_posK hk z (fun hk => ?_)) (fun z => t_negK hk z (fun hk => ?_))
  · refine t_mapK hk (fun hk => ?_)
    exact t_somK hk (fun hf => t_vret dX13_exps_71 rfl ⟨rfl, hf⟩ (Nat.le_of_ble_eq_true rfl) (Nat.le_of_ble_eq_true rfl))
  · refine mj_aload_n dX13_exps_8 0 rfl ?_
    refine t_getI dX13_exps_9 F_X13_375 qf_950_2 ?_
    refine mj_if_ne 71 dX13_exps_12 (by decide) (fun z => t_negK hk z (fun hk => ?_)) (fun z => t_posK hk z (fun hk => ?_))
    · refine t_mapK hk (fun hk => ?_)
      exact t_somK hk (fun hf => t_vret dX13_exps_71 rfl ⟨rfl, hf⟩ (Nat.le_of_ble_eq_true rfl) (Nat.le_of_ble_eq_true rfl))
    · refine mj_iload_n dX13_exps_15 3 rfl ?_
      refine mj_bipush (v := 12) dX13_exps_16 (by decide) ?_
      refine mj_icmp_ne 41 dX13_exps_18 (by decide) (fun z => t_negK hk z (fun hk => ?_)) (fun z => t_posK hk z (fun hk => ?_))
      · refine mj_sublv [(0, .ref 950), (1, .int l1), (3, .int l3)] [0, 1, 3] rfl ?_
        exact B_X13_exps_41 rc H _ _ _ _ (fun y0 y1 y2 y3 hx => Hb4 y0 y1 y2 y3 hx) hk
      · refine mj_aload_n dX13_exps_21 0 rfl ?_
        refine mj_aload_n dX13_exps_22 0 rfl ?_
        refine t_callViP dX13_exps_23 M_X13_beginsExp (C_X13_beginsExp _) ML_X13_594 IM_X13_beginsExp SE_X13_beginsExp qc_950 rfl (As := []) rfl rfl (by omega) (Nat.le_of_ble_eq_true rfl) (Nat.le_of_ble_eq_true rfl) (Nat.le_of_ble_eq_true rfl) ?_
        refine mj_if_eq 33 dX13_exps_26 (by decide) (fun z => t_posK hk z (fun hk => ?_)) (fun z => t_negK hk z (fun hk => ?_))
        · refine mj_iconst (v := 2) dX13_exps_33 (by decide) ?_
          refine mj_sublv [(0, .ref 950), (1, .int l1), (3, .int l3)] [0, 1, 3] rfl ?_
          exact B_X13_exps_34 rc H _ _ _ _ _ (fun y0 y1 y2 y3 hx => Hb4 y0 y1 y2 y3 hx) hk
        · refine mj_iconst (v := 5) dX13_exps_29 (by decide) ?_
          refine mj_goto 34 dX13_exps_30 (by decide) ?_
          refine mj_sublv [(0, .ref 950), (1, .int l1), (3, .int l3)] [0, 1, 3] rfl ?_
          exact B_X13_exps_34 rc H _ _ _ _ _ (fun y0 y1 y2 y3 hx => Hb4 y0 y1 y2 y3 hx) hk
noncomputable def b_X13_exps_4 (rc : RT_X13_base) (x : Int32 × Int32 × Int32 × t_S) : Option ((Int32 × Int32 × Int32 × t_S) ⊕ (t_S)) := k_X13_exps_4 rc x.1 x.2.1 x.2.2.1 x.2.2.2
set_option maxRecDepth 4000 in
set_option maxHeartbeats 1000000 in
theorem LH_X13_exps_4 {D : va_G} {cy : Nat → ClassId} {ad : Nat → Nat} {bs : Nat} {X : State → Heap → Prop} (rc : RT_X13_base) {k : Nat} (H : RH_X13_base rc k) : ∀ (n : Nat) (y0 : Int32) (y1 : Int32) (y2 : Int32) (y3 : t_S) (Q : t_S → Prop) (hk : t_hk (t_loop (b_X13_exps_4 rc) n (y0, y1, y2, y3)) Q), mj_G D cy ad bs X cX13_exps 4 yX13_exps.cls none yX13_exps.name (8 + (k + 1)) 0 0 1065 (t_P (fun v s' => v = none ∧ Q (s'))) 4 [(0, .ref 950), (1, .int (y0)), (2, .int (y1)), (3, .int (y2))] [] (t_m y3) 1065 0 0 := by
  intro n
  induction n with
  | zero => intro y0 y1 y2 y3 Q hk; obtain ⟨r, hr, _⟩ := hk; cases hr
  | succ n ih =>
    intro y0 y1 y2 y3 Q hk
    exact B_X13_exps_4 rc H y0 y1 y2 y3 (fun y => t_lq (b_X13_exps_4 rc) n Q y) (fun y0' y1' y2' y3' hy => ih y0' y1' y2' y3' Q hy) (t_lp (b := b_X13_exps_4 rc) (n := n) (x := (y0, y1, y2, y3)) hk)
noncomputable def m_X13_exps (rc : RT_X13_base) (x2 : Int32) (s : t_S) : Option (t_S) :=
 t_loop (b_X13_exps_4 rc) t_N (x2, 1, 0, s)
set_option maxRecDepth 4000 in
set_option maxHeartbeats 1000000 in
theorem E_X13_exps (rc : RT_X13_base) {k : Nat} (H : RH_X13_base rc k) (x2 : Int32) (s : t_S) (r : t_S) (hr : m_X13_exps rc x2 s = some r) : t_C yX13_exps cX13_exps 4 none (8 + (k + 1)) [.ref 950, .int x2] s (fun v s' => v = none ∧ s' = r) := by
  refine t_C.imp (P := fun v s' => v = none ∧ (fun q => q = r) (s')) (t_C.of (by decide +kernel) (Nat.le_of_ble_eq_true rfl) ?_) (fun v s' hp => hp)
  intro D cy ad bs X
  have hk : t_hk (m_X13_exps rc x2 s) (fun q => q = r) := ⟨r, hr, rfl⟩
  show mj_G D cy ad bs X cX13_exps 4 yX13_exps.cls none yX13_exps.name (8 + (k + 1)) 0 0 1065 (t_P (fun v s' => v = none ∧ (fun q => q = r) (s'))) 0 [(0, .ref 950), (1, .int x2)] [] (t_m s) 1065 0 0
  refine mj_iconst (v := 1) dX13_exps_0 (by decide) ?_
  refine mj_istore_n 2 (lv2 := [(2, .int 1), (0, .ref 950), (1, .int x2)]) dX13_exps_1 rfl (by decide) rfl ?_
  refine mj_iconst (v := 0) dX13_exps_2 (by decide) ?_
  refine mj_istore_n 3 (lv2 := [(3, .int 0), (2, .int 1), (0, .ref 950), (1, .int x2)]) dX13_exps_3 rfl (by decide) rfl ?_
  refine mj_sublv [(0, .ref 950), (1, .int x2), (2, .int 1), (3, .int 0)] [2, 3, 1, 0] rfl ?_
  exact LH_X13_exps_4 rc H _ x2 1 0 s _ hk
noncomputable def k_X13_fieldExps_69 (rc : RT_X13_base) (s : t_S) : Option (t_S) :=
 (f_X13_mustBe (125 : Int32) s).bind (fun r1 =>
 some (r1))
set_option maxRecDepth 4000 in
set_option maxHeartbeats 1000000 in
theorem B_X13_fieldExps_69 {D : va_G} {cy : Nat → ClassId} {ad : Nat → Nat} {bs : Nat} {X : State → Heap → Prop} (rc : RT_X13_base) {k : Nat} (H : RH_X13_base rc k) (s : t_S) (Q : t_S → Prop) (hk : t_hk (k_X13_fieldExps_69 rc s) Q) : mj_G D cy ad bs X cX13_fieldExps 5 yX13_fieldExps.cls none yX13_fieldExps.name (8 + (k + 1)) 0 0 1065 (t_P (fun v s' => v = none ∧ Q (s'))) 69 [(0, .ref 950)] [] (t_m s) 1065 0 0 := by
  refine mj_aload_n dX13_fieldExps_69 0 rfl ?_
  refine mj_bipush (v := 125) dX13_fieldExps_70 (by decide) ?_
  refine t_bndK hk (fun r1 er1 hk => ?_)
  refine t_callVvE dX13_fieldExps_72 M_X13_mustBe (C_X13_mustBe _ _ _ er1) ML_X13_528 IM_X13_mustBe SE_X13_mustBe qc_950 rfl (As := [.int 125]) rfl rfl (by omega) (Nat.le_of_ble_eq_true rfl) (Nat.le_of_ble_eq_true rfl) (Nat.le_of_ble_eq_true rfl) ?_
  exact t_somK hk (fun hf => t_vret dX13_fieldExps_75 rfl ⟨rfl, hf⟩ (Nat.le_of_ble_eq_true rfl) (Nat.le_of_ble_eq_true rfl))
noncomputable def k_X13_fieldExps_17 (rc : RT_X13_base) (l1 : Int32) (l2 : Int32) (l3 : Int32) (s : t_S) : Option ((Int32 × Int32 × Int32 × t_S) ⊕ (t_S)) :=
 if l2 = (0 : Int32) then ((k_X13_fieldExps_69 rc s).map Sum.inr)
 else (if (s.1 950 2) = (0 : Int32) then ((f_X13_fieldHere l1 l3 (71 : Int32) s).bind (fun r1 =>
 (rc.2.1 r1.2).bind (fun r2 =>
 (f_X13_hang r1.1 r2.1 r2.2).bind (fun r3 =>
 if (f_X13_is (44 : Int32) r3) = (0 : Int32) then (some (.inl (l1, (f_X13_is (44 : Int32) r3), (l3 + 1), r3)))
 else ((f_X13_next r3).bind (fun r5 =>
 some (.inl (l1, (f_X13_is (44 : Int32) r3), (l3 + 1), r5))))))))
 else ((k_X13_fieldExps_69 rc s).map Sum.inr))
set_option maxRecDepth 4000 in
set_option maxHeartbeats 1000000 in
theorem B_X13_fieldExps_17 {D : va_G} {cy : Nat → ClassId} {ad : Nat → Nat} {bs : Nat} {X : State → Heap → Prop} (rc : RT_X13_base) {k : Nat} (H : RH_X13_base rc k) (l1 : Int32) (l2 : Int32) (l3 : Int32) (s : t_S) (Q : (Int32 × Int32 × Int32 × t_S) ⊕ (t_S) → Prop) (Hb17 : ∀ (y0 : Int32) (y1 : Int32) (y2 : Int32) (y3 : t_S), Q (.inl (y0, y1, y2, y3)) → mj_G D cy ad bs X cX13_fieldExps 5 yX13_fieldExps.cls none yX13_fieldExps.name (8 + (k + 1)) 0 0 1065 (t_P (fun v s' => v = none ∧ Q (.inr (s')))) 17 [(0, .ref 950), (1, .int (y0)), (2, .int (y1)), (3, .int (y2))] [] (t_m y3) 1065 0 0) (hk : t_hk (k_X13_fieldExps_17 rc l1 l2 l3 s) Q) : mj_G D cy ad bs X cX13_fieldExps 5 yX13_fieldExps.cls none yX13_fieldExps.name (8 + (k + 1)) 0 0 1065 (t_P (fun v s' => v = none ∧ Q (.inr (s')))) 17 [(0, .ref 950), (1, .int l1), (2, .int l2), (3, .int l3)] [] (t_m s) 1065 0 0 := by
  refine mj_iload_n dX13_fieldExps_17 2 rfl ?_
  refine mj_if_eq 69 dX13_fieldExps_18 (by decide) (fun z => t_posK hk z (fun hk => ?_)) (fun z => t_negK hk z (fun hk => ?_))
  · refine mj_sublv [(0, .ref 950)] [0] rfl ?_
    refine t_mapK hk (fun hk => ?_)
    exact B_X13_fieldExps_69 rc H _ _ hk
  · refine mj_aload_n dX13_fieldExps_21 0 rfl ?_
    refine t_getI dX13_fieldExps_22 F_X13_375 qf_950_2 ?_
    refine mj_if_ne 69 dX13_fieldExps_25 (by decide) (fun z => t_negK hk z (fun hk => ?_)) (fun z => t_posK hk z (fun hk => ?_))
    · refine mj_sublv [(0, .ref 950)] [0] rfl ?_
      refine t_mapK hk (fun hk => ?_)
      exact B_X13_fieldExps_69 rc H _ _ hk
    · refine mj_aload_n dX13_fieldExps_28 0 rfl ?_
      refine mj_iload_n dX13_fieldExps_29 1 rfl ?_
      refine mj_iload_n dX13_fieldExps_30 3 rfl ?_
      refine mj_bipush (v := 71) dX13_fieldExps_31 (by decide) ?_
      refine t_bndK hk (fun r1 er1 hk => ?_)
      refine t_callViE dX13_fieldExps_33 M_X13_fieldHere (C_X13_fieldHere _ _ _ _ _ er1) ML_X13_587 IM_X13_fieldHere SE_X13_fieldHere qc_950 rfl (As := [.int l1, .int l3, .int 71]) rfl rfl (by omega) (Nat.le_of_ble_eq_true rfl) (Nat.le_of_ble_eq_true rfl) (Nat.le_of_ble_eq_true rfl) ?_
      refine mj_istore (lv2 := [(4, .int r1.1), (0, .ref 950), (1, .int l1), (2, .int l2), (3, .int l3)]) dX13_fieldExps_36 (by decide) rfl ?_
      refine mj_aload_n dX13_fieldExps_38 1 rfl ?_
      refine mj_iload dX13_fieldExps_39 0 rfl ?_
      refine mj_aload_n dX13_fieldExps_41 1 rfl ?_
      refine t_bndK hk (fun r2 er2 hk => ?_)
      refine t_callSiE dX13_fieldExps_42 M_X13_exp (H.2.1 _ _ er2) ML_X13_581 SM_X13_exp (As := [.ref 950]) rfl rfl (by omega) (Nat.le_of_ble_eq_true rfl) (Nat.le_of_ble_eq_true rfl) (Nat.le_of_ble_eq_true rfl) ?_
      refine t_bndK hk (fun r3 er3 hk => ?_)
      refine t_callVvE dX13_fieldExps_45 M_X13_hang (C_X13_hang _ _ _ _ er3) ML_X13_507 IM_X13_hang SE_X13_hang qc_950 rfl (As := [.int r1.1, .int r2.1]) rfl rfl (by omega) (Nat.le_of_ble_eq_true rfl) (Nat.le_of_ble_eq_true rfl) (Nat.le_of_ble_eq_true rfl) ?_
      refine mj_iinc (k := 4) (v := (l3 + 1)) (lv2 := [(3, .int (l3 + 1)), (4, .int r1.1), (0, .ref 950), (1, .int l1), (2, .int l2)]) dX13_fieldExps_48 rfl rfl (by decide) rfl ?_
      refine mj_aload_n dX13_fieldExps_51 2 rfl ?_
      refine mj_bipush (v := 44) dX13_fieldExps_52 (by decide) ?_
      refine t_callViP dX13_fieldExps_54 M_X13_is (C_X13_is _ _) ML_X13_449 IM_X13_is SE_X13_is qc_950 rfl (As := [.int 44]) rfl rfl (by omega) (Nat.le_of_ble_eq_true rfl) (Nat.le_of_ble_eq_true rfl) (Nat.le_of_ble_eq_true rfl) ?_
      refine mj_istore_n 2 (lv2 := [(2, .int (f_X13_is (44 : Int32) r3)), (3, .int (l3 + 1)), (4, .int r1.1), (0, .ref 950), (1, .int l1)]) dX13_fieldExps_57 rfl (by decide) rfl ?_
      refine mj_iload_n dX13_fieldExps_58 0 rfl ?_
      refine mj_if_eq 66 dX13_fieldExps_59 (by decide) (fun z => t_posK hk z (fun hk => ?_)) (fun z => t_negK hk z (fun hk => ?_))
      · refine mj_goto 17 dX13_fieldExps_66 (by decide) ?_
        refine mj_sublv [(0, .ref 950), (1, .int l1), (2, .int (f_X13_is (44 : Int32) r3)), (3, .int (l3 + 1))] [3, 4, 0, 1] rfl ?_
        exact t_somK hk (fun hf => Hb17 l1 (f_X13_is (44 : Int32) r3) (l3 + 1) r3 hf)
      · refine mj_aload_n dX13_fieldExps_62 3 rfl ?_
        refine t_bndK hk (fun r5 er5 hk => ?_)
        refine t_callVvE dX13_fieldExps_63 M_X13_next (C_X13_next _ _ er5) ML_X13_452 IM_X13_next SE_X13_next qc_950 rfl (As := []) rfl rfl (by omega) (Nat.le_of_ble_eq_true rfl) (Nat.le_of_ble_eq_true rfl) (Nat.le_of_ble_eq_true rfl) ?_
        refine mj_goto 17 dX13_fieldExps_66 (by decide) ?_
        refine mj_sublv [(0, .ref 950), (1, .int l1), (2, .int (f_X13_is (44 : Int32) r3)), (3, .int (l3 + 1))] [3, 4, 0, 1] rfl ?_
        exact t_somK hk (fun hf => Hb17 l1 (f_X13_is (44 : Int32) r3) (l3 + 1) r5 hf)
noncomputable def b_X13_fieldExps_17 (rc : RT_X13_base) (x : Int32 × Int32 × Int32 × t_S) : Option ((Int32 × Int32 × Int32 × t_S) ⊕ (t_S)) := k_X13_fieldExps_17 rc x.1 x.2.1 x.2.2.1 x.2.2.2
set_option maxRecDepth 4000 in
set_option maxHeartbeats 1000000 in
theorem LH_X13_fieldExps_17 {D : va_G} {cy : Nat → ClassId} {ad : Nat → Nat} {bs : Nat} {X : State → Heap → Prop} (rc : RT_X13_base) {k : Nat} (H : RH_X13_base rc k) : ∀ (n : Nat) (y0 : Int32) (y1 : Int32) (y2 : Int32) (y3 : t_S) (Q : t_S → Prop) (hk : t_hk (t_loop (b_X13_fieldExps_17 rc) n (y0, y1, y2, y3)) Q), mj_G D cy ad bs X cX13_fieldExps 5 yX13_fieldExps.cls none yX13_fieldExps.name (8 + (k + 1)) 0 0 1065 (t_P (fun v s' => v = none ∧ Q (s'))) 17 [(0, .ref 950), (1, .int (y0)), (2, .int (y1)), (3, .int (y2))] [] (t_m y3) 1065 0 0 := by
  intro n
  induction n with
  | zero => intro y0 y1 y2 y3 Q hk; obtain ⟨r, hr, _⟩ := hk; cases hr
  | succ n ih =>
    intro y0 y1 y2 y3 Q hk
    exact B_X13_fieldExps_17 rc H y0 y1 y2 y3 (fun y => t_lq (b_X13_fieldExps_17 rc) n Q y) (fun y0' y1' y2' y3' hy => ih y0' y1' y2' y3' Q hy) (t_lp (b := b_X13_fieldExps_17 rc) (n := n) (x := (y0, y1, y2, y3)) hk)
noncomputable def k_X13_fieldExps_14 (rc : RT_X13_base) (l1 : Int32) (k0 : Int32) (s : t_S) : Option (t_S) :=
 t_loop (b_X13_fieldExps_17 rc) t_N (l1, k0, 0, s)
set_option maxRecDepth 4000 in
set_option maxHeartbeats 1000000 in
theorem B_X13_fieldExps_14 {D : va_G} {cy : Nat → ClassId} {ad : Nat → Nat} {bs : Nat} {X : State → Heap → Prop} (rc : RT_X13_base) {k : Nat} (H : RH_X13_base rc k) (l1 : Int32) (k0 : Int32) (s : t_S) (Q : t_S → Prop) (hk : t_hk (k_X13_fieldExps_14 rc l1 k0 s) Q) : mj_G D cy ad bs X cX13_fieldExps 5 yX13_fieldExps.cls none yX13_fieldExps.name (8 + (k + 1)) 0 0 1065 (t_P (fun v s' => v = none ∧ Q (s'))) 14 [(0, .ref 950), (1, .int l1)] [.int k0] (t_m s) 1065 0 0 := by
  refine mj_istore_n 2 (lv2 := [(2, .int k0), (0, .ref 950), (1, .int l1)]) dX13_fieldExps_14 rfl (by decide) rfl ?_
  refine mj_iconst (v := 0) dX13_fieldExps_15 (by decide) ?_
  refine mj_istore_n 3 (lv2 := [(3, .int 0), (2, .int k0), (0, .ref 950), (1, .int l1)]) dX13_fieldExps_16 rfl (by decide) rfl ?_
  refine mj_sublv [(0, .ref 950), (1, .int l1), (2, .int k0), (3, .int 0)] [2, 3, 1, 0] rfl ?_
  exact LH_X13_fieldExps_17 rc H _ l1 k0 0 s _ hk
noncomputable def m_X13_fieldExps (rc : RT_X13_base) (x2 : Int32) (s : t_S) : Option (t_S) :=
 if (f_X13_is (125 : Int32) s) = (0 : Int32) then (k_X13_fieldExps_14 rc x2 1 s)
 else (k_X13_fieldExps_14 rc x2 0 s)
set_option maxRecDepth 4000 in
set_option maxHeartbeats 1000000 in
theorem E_X13_fieldExps (rc : RT_X13_base) {k : Nat} (H : RH_X13_base rc k) (x2 : Int32) (s : t_S) (r : t_S) (hr : m_X13_fieldExps rc x2 s = some r) : t_C yX13_fieldExps cX13_fieldExps 5 none (8 + (k + 1)) [.ref 950, .int x2] s (fun v s' => v = none ∧ s' = r) := by
  refine t_C.imp (P := fun v s' => v = none ∧ (fun q => q = r) (s')) (t_C.of (by decide +kernel) (Nat.le_of_ble_eq_true rfl) ?_) (fun v s' hp => hp)
  intro D cy ad bs X
  have hk : t_hk (m_X13_fieldExps rc x2 s) (fun q => q = r) := ⟨r, hr, rfl⟩
  show mj_G D cy ad bs X cX13_fieldExps 5 yX13_fieldExps.cls none yX13_fieldExps.name (8 + (k + 1)) 0 0 1065 (t_P (fun v s' => v = none ∧ (fun q => q = r) (s'))) 0 [(0, .ref 950), (1, .int x2)] [] (t_m s) 1065 0 0
  refine mj_aload_n dX13_fieldExps_0 0 rfl ?_
  refine mj_bipush (v := 125) dX13_fieldExps_1 (by decide) ?_
  refine t_callViP dX13_fieldExps_3 M_X13_is (C_X13_is _ _) ML_X13_449 IM_X13_is SE_X13_is qc_950 rfl (As := [.int 125]) rfl rfl (by omega) (Nat.le_of_ble_eq_true rfl) (Nat.le_of_ble_eq_true rfl) (Nat.le_of_ble_eq_true rfl) ?_
  refine mj_if_ne 13 dX13_fieldExps_6 (by decide) (fun z => t_negK hk z (fun hk => ?_)) (fun z => t_posK hk z (fun hk => ?_))
  · refine mj_iconst (v := 0) dX13_fieldExps_13 (by decide) ?_
    exact B_X13_fieldExps_14 rc H _ _ _ _ hk
  · refine mj_iconst (v := 1) dX13_fieldExps_9 (by decide) ?_
    refine mj_goto 14 dX13_fieldExps_10 (by decide) ?_
    exact B_X13_fieldExps_14 rc H _ _ _ _ hk
noncomputable def k_X13_fieldTempls_69 (rc : RT_X13_base) (s : t_S) : Option (t_S) :=
 (f_X13_mustBe (125 : Int32) s).bind (fun r1 =>
 some (r1))
set_option maxRecDepth 4000 in
set_option maxHeartbeats 1000000 in
theorem B_X13_fieldTempls_69 {D : va_G} {cy : Nat → ClassId} {ad : Nat → Nat} {bs : Nat} {X : State → Heap → Prop} (rc : RT_X13_base) {k : Nat} (H : RH_X13_base rc k) (s : t_S) (Q : t_S → Prop) (hk : t_hk (k_X13_fieldTempls_69 rc s) Q) : mj_G D cy ad bs X cX13_fieldTempls 5 yX13_fieldTempls.cls none yX13_fieldTempls.name (8 + (k + 1)) 0 0 1065 (t_P (fun v s' => v = none ∧ Q (s'))) 69 [(0, .ref 950)] [] (t_m s) 1065 0 0 := by
  refine mj_aload_n dX13_fieldTempls_69 0 rfl ?_
  refine mj_bipush (v := 125) dX13_fieldTempls_70 (by decide) ?_
  refine t_bndK hk (fun r1 er1 hk => ?_)
  refine t_callVvE dX13_fieldTempls_72 M_X13_mustBe (C_X13_mustBe _ _ _ er1) ML_X13_528 IM_X13_mustBe SE_X13_mustBe qc_950 rfl (As := [.int 125]) rfl rfl (by omega) (Nat.le_of_ble_eq_true rfl) (Nat.le_of_ble_eq_true rfl) (Nat.le_of_ble_eq_true rfl) ?_
  exact t_somK hk (fun hf => t_vret dX13_fieldTempls_75 rfl ⟨rfl, hf⟩ (Nat.le_of_ble_eq_true rfl) (Nat.le_of_ble_eq_true rfl))
noncomputable def k_X13_fieldTempls_17 (rc : RT_X13_base) (l1 : Int32) (l2 : Int32) (l3 : Int32) (s : t_S) : Option ((Int32 × Int32 × Int32 × t_S) ⊕ (t_S)) :=
 if l2 = (0 : Int32) then ((k_X13_fieldTempls_69 rc s).map Sum.inr)
 else (if (s.1 950 2) = (0 : Int32) then ((f_X13_fieldHere l1 l3 (40 : Int32) s).bind (fun r1 =>
 (rc.2.2.2.2.2.2.2.1 r1.2).bind (fun r2 =>
 (f_X13_hang r1.1 r2.1 r2.2).bind (fun r3 =>
 if (f_X13_is (44 : Int32) r3) = (0 : Int32) then (some (.inl (l1, (f_X13_is (44 : Int32) r3), (l3 + 1), r3)))
 else ((f_X13_next r3).bind (fun r5 =>
 some (.inl (l1, (f_X13_is (44 : Int32) r3), (l3 + 1), r5))))))))
 else ((k_X13_fieldTempls_69 rc s).map Sum.inr))
set_option maxRecDepth 4000 in
set_option maxHeartbeats 1000000 in
theorem B_X13_fieldTempls_17 {D : va_G} {cy : Nat → ClassId} {ad : Nat → Nat} {bs : Nat} {X : State → Heap → Prop} (rc : RT_X13_base) {k : Nat} (H : RH_X13_base rc k) (l1 : Int32) (l2 : Int32) (l3 : Int32) (s : t_S) (Q : (Int32 × Int32 × Int32 × t_S) ⊕ (t_S) → Prop) (Hb17 : ∀ (y0 : Int32) (y1 : Int32) (y2 : Int32) (y3 : t_S), Q (.inl (y0, y1, y2, y3)) → mj_G D cy ad bs X cX13_fieldTempls 5 yX13_fieldTempls.cls none yX13_fieldTempls.name (8 + (k + 1)) 0 0 1065 (t_P (fun v s' => v = none ∧ Q (.inr (s')))) 17 [(0, .ref 950), (1, .int (y0)), (2, .int (y1)), (3, .int (y2))] [] (t_m y3) 1065 0 0) (hk : t_hk (k_X13_fieldTempls_17 rc l1 l2 l3 s) Q) : mj_G D cy ad bs X cX13_fieldTempls 5 yX13_fieldTempls.cls none yX13_fieldTempls.name (8 + (k + 1)) 0 0 1065 (t_P (fun v s' => v = none ∧ Q (.inr (s')))) 17 [(0, .ref 950), (1, .int l1), (2, .int l2), (3, .int l3)] [] (t_m s) 1065 0 0 := by
  refine mj_iload_n dX13_fieldTempls_17 2 rfl ?_
  refine mj_if_eq 69 dX13_fieldTempls_18 (by decide) (fun z => t_posK hk z (fun hk => ?_)) (fun z => t_negK hk z (fun hk => ?_))
  · refine mj_sublv [(0, .ref 950)] [0] rfl ?_
    refine t_mapK hk (fun hk => ?_)
    exact B_X13_fieldTempls_69 rc H _ _ hk
  · refine mj_aload_n dX13_fieldTempls_21 0 rfl ?_
    refine t_getI dX13_fieldTempls_22 F_X13_375 qf_950_2 ?_
    refine mj_if_ne 69 dX13_fieldTempls_25 (by decide) (fun z => t_negK hk z (fun hk => ?_)) (fun z => t_posK hk z (fun hk => ?_))
    · refine mj_sublv [(0, .ref 950)] [0] rfl ?_
      refine t_mapK hk (fun hk => ?_)
      exact B_X13_fieldTempls_69 rc H _ _ hk
    · refine mj_aload_n dX13_fieldTempls_28 0 rfl ?_
      refine mj_iload_n dX13_fieldTempls_29 1 rfl ?_
      refine mj_iload_n dX13_fieldTempls_30 3 rfl ?_
      refine mj_bipush (v := 40) dX13_fieldTempls_31 (by decide) ?_
      refine t_bndK hk (fun r1 er1 hk => ?_)
      refine t_callViE dX13_fieldTempls_33 M_X13_fieldHere (C_X13_fieldHere _ _ _ _ _ er1) ML_X13_587 IM_X13_fieldHere SE_X13_fieldHere qc_950 rfl (As := [.int l1, .int l3, .int 40]) rfl rfl (by omega) (Nat.le_of_ble_eq_true rfl) (Nat.le_of_ble_eq_true rfl) (Nat.le_of_ble_eq_true rfl) ?_
      refine mj_istore (lv2 := [(4, .int r1.1), (0, .ref 950), (1, .int l1), (2, .int l2), (3, .int l3)]) dX13_fieldTempls_36 (by decide) rfl ?_
      refine mj_aload_n dX13_fieldTempls_38 1 rfl ?_
      refine mj_iload dX13_fieldTempls_39 0 rfl ?_
      refine mj_aload_n dX13_fieldTempls_41 1 rfl ?_
      refine t_bndK hk (fun r2 er2 hk => ?_)
      refine t_callSiE dX13_fieldTempls_42 M_X13_templ (H.2.2.2.2.2.2.2.1 _ _ er2) ML_X13_574 SM_X13_templ (As := [.ref 950]) rfl rfl (by omega) (Nat.le_of_ble_eq_true rfl) (Nat.le_of_ble_eq_true rfl) (Nat.le_of_ble_eq_true rfl) ?_
      refine t_bndK hk (fun r3 er3 hk => ?_)
      refine t_callVvE dX13_fieldTempls_45 M_X13_hang (C_X13_hang _ _ _ _ er3) ML_X13_507 IM_X13_hang SE_X13_hang qc_950 rfl (As := [.int r1.1, .int r2.1]) rfl rfl (by omega) (Nat.le_of_ble_eq_true rfl) (Nat.le_of_ble_eq_true rfl) (Nat.le_of_ble_eq_true rfl) ?_
      refine mj_iinc (k := 4) (v := (l3 + 1)) (lv2 := [(3, .int (l3 + 1)), (4, .int r1.1), (0, .ref 950), (1, .int l1), (2, .int l2)]) dX13_fieldTempls_48 rfl rfl (by decide) rfl ?_
      refine mj_aload_n dX13_fieldTempls_51 2 rfl ?_
      refine mj_bipush (v := 44) dX13_fieldTempls_52 (by decide) ?_
      refine t_callViP dX13_fieldTempls_54 M_X13_is (C_X13_is _ _) ML_X13_449 IM_X13_is SE_X13_is qc_950 rfl (As := [.int 44]) rfl rfl (by omega) (Nat.le_of_ble_eq_true rfl) (Nat.le_of_ble_eq_true rfl) (Nat.le_of_ble_eq_true rfl) ?_
      refine mj_istore_n 2 (lv2 := [(2, .int (f_X13_is (44 : Int32) r3)), (3, .int (l3 + 1)), (4, .int r1.1), (0, .ref 950), (1, .int l1)]) dX13_fieldTempls_57 rfl (by decide) rfl ?_
      refine mj_iload_n dX13_fieldTempls_58 0 rfl ?_
      refine mj_if_eq 66 dX13_fieldTempls_59 (by decide) (fun z => t_posK hk z (fun hk => ?_)) (fun z => t_negK hk z (fun hk => ?_))
      · refine mj_goto 17 dX13_fieldTempls_66 (by decide) ?_
        refine mj_sublv [(0, .ref 950), (1, .int l1), (2, .int (f_X13_is (44 : Int32) r3)), (3, .int (l3 + 1))] [3, 4, 0, 1] rfl ?_
        exact t_somK hk (fun hf => Hb17 l1 (f_X13_is (44 : Int32) r3) (l3 + 1) r3 hf)
      · refine mj_aload_n dX13_fieldTempls_62 3 rfl ?_
        refine t_bndK hk (fun r5 er5 hk => ?_)
        refine t_callVvE dX13_fieldTempls_63 M_X13_next (C_X13_next _ _ er5) ML_X13_452 IM_X13_next SE_X13_next qc_950 rfl (As := []) rfl rfl (by omega) (Nat.le_of_ble_eq_true rfl) (Nat.le_of_ble_eq_true rfl) (Nat.le_of_ble_eq_true rfl) ?_
        refine mj_goto 17 dX13_fieldTempls_66 (by decide) ?_
        refine mj_sublv [(0, .ref 950), (1, .int l1), (2, .int (f_X13_is (44 : Int32) r3)), (3, .int (l3 + 1))] [3, 4, 0, 1] rfl ?_
        exact t_somK hk (fun hf => Hb17 l1 (f_X13_is (44 : Int32) r3) (l3 + 1) r5 hf)
noncomputable def b_X13_fieldTempls_17 (rc : RT_X13_base) (x : Int32 × Int32 × Int32 × t_S) : Option ((Int32 × Int32 × Int32 × t_S) ⊕ (t_S)) := k_X13_fieldTempls_17 rc x.1 x.2.1 x.2.2.1 x.2.2.2
set_option maxRecDepth 4000 in
set_option maxHeartbeats 1000000 in
theorem LH_X13_fieldTempls_17 {D : va_G} {cy : Nat → ClassId} {ad : Nat → Nat} {bs : Nat} {X : State → Heap → Prop} (rc : RT_X13_base) {k : Nat} (H : RH_X13_base rc k) : ∀ (n : Nat) (y0 : Int32) (y1 : Int32) (y2 : Int32) (y3 : t_S) (Q : t_S → Prop) (hk : t_hk (t_loop (b_X13_fieldTempls_17 rc) n (y0, y1, y2, y3)) Q), mj_G D cy ad bs X cX13_fieldTempls 5 yX13_fieldTempls.cls none yX13_fieldTempls.name (8 + (k + 1)) 0 0 1065 (t_P (fun v s' => v = none ∧ Q (s'))) 17 [(0, .ref 950), (1, .int (y0)), (2, .int (y1)), (3, .int (y2))] [] (t_m y3) 1065 0 0 := by
  intro n
  induction n with
  | zero => intro y0 y1 y2 y3 Q hk; obtain ⟨r, hr, _⟩ := hk; cases hr
  | succ n ih =>
    intro y0 y1 y2 y3 Q hk
    exact B_X13_fieldTempls_17 rc H y0 y1 y2 y3 (fun y => t_lq (b_X13_fieldTempls_17 rc) n Q y) (fun y0' y1' y2' y3' hy => ih y0' y1' y2' y3' Q hy) (t_lp (b := b_X13_fieldTempls_17 rc) (n := n) (x := (y0, y1, y2, y3)) hk)
noncomputable def k_X13_fieldTempls_14 (rc : RT_X13_base) (l1 : Int32) (k0 : Int32) (s : t_S) : Option (t_S) :=
 t_loop (b_X13_fieldTempls_17 rc) t_N (l1, k0, 0, s)
set_option maxRecDepth 4000 in
set_option maxHeartbeats 1000000 in
theorem B_X13_fieldTempls_14 {D : va_G} {cy : Nat → ClassId} {ad : Nat → Nat} {bs : Nat} {X : State → Heap → Prop} (rc : RT_X13_base) {k : Nat} (H : RH_X13_base rc k) (l1 : Int32) (k0 : Int32) (s : t_S) (Q : t_S → Prop) (hk : t_hk (k_X13_fieldTempls_14 rc l1 k0 s) Q) : mj_G D cy ad bs X cX13_fieldTempls 5 yX13_fieldTempls.cls none yX13_fieldTempls.name (8 + (k + 1)) 0 0 1065 (t_P (fun v s' => v = none ∧ Q (s'))) 14 [(0, .ref 950), (1, .int l1)] [.int k0] (t_m s) 1065 0 0 := by
  refine mj_istore_n 2 (lv2 := [(2, .int k0), (0, .ref 950), (1, .int l1)]) dX13_fieldTempls_14 rfl (by decide) rfl ?_
  refine mj_iconst (v := 0) dX13_fieldTempls_15 (by decide) ?_
  refine mj_istore_n 3 (lv2 := [(3, .int 0), (2, .int k0), (0, .ref 950), (1, .int l1)]) dX13_fieldTempls_16 rfl (by decide) rfl ?_
  refine mj_sublv [(0, .ref 950), (1, .int l1), (2, .int k0), (3, .int 0)] [2, 3, 1, 0] rfl ?_
  exact LH_X13_fieldTempls_17 rc H _ l1 k0 0 s _ hk
noncomputable def m_X13_fieldTempls (rc : RT_X13_base) (x2 : Int32) (s : t_S) : Option (t_S) :=
 if (f_X13_is (125 : Int32) s) = (0 : Int32) then (k_X13_fieldTempls_14 rc x2 1 s)
 else (k_X13_fieldTempls_14 rc x2 0 s)
set_option maxRecDepth 4000 in
set_option maxHeartbeats 1000000 in
theorem E_X13_fieldTempls (rc : RT_X13_base) {k : Nat} (H : RH_X13_base rc k) (x2 : Int32) (s : t_S) (r : t_S) (hr : m_X13_fieldTempls rc x2 s = some r) : t_C yX13_fieldTempls cX13_fieldTempls 5 none (8 + (k + 1)) [.ref 950, .int x2] s (fun v s' => v = none ∧ s' = r) := by
  refine t_C.imp (P := fun v s' => v = none ∧ (fun q => q = r) (s')) (t_C.of (by decide +kernel) (Nat.le_of_ble_eq_true rfl) ?_) (fun v s' hp => hp)
  intro D cy ad bs X
  have hk : t_hk (m_X13_fieldTempls rc x2 s) (fun q => q = r) := ⟨r, hr, rfl⟩
  show mj_G D cy ad bs X cX13_fieldTempls 5 yX13_fieldTempls.cls none yX13_fieldTempls.name (8 + (k + 1)) 0 0 1065 (t_P (fun v s' => v = none ∧ (fun q => q = r) (s'))) 0 [(0, .ref 950), (1, .int x2)] [] (t_m s) 1065 0 0
  refine mj_aload_n dX13_fieldTempls_0 0 rfl ?_
  refine mj_bipush (v := 125) dX13_fieldTempls_1 (by decide) ?_
  refine t_callViP dX13_fieldTempls_3 M_X13_is (C_X13_is _ _) ML_X13_449 IM_X13_is SE_X13_is qc_950 rfl (As := [.int 125]) rfl rfl (by omega) (Nat.le_of_ble_eq_true rfl) (Nat.le_of_ble_eq_true rfl) (Nat.le_of_ble_eq_true rfl) ?_
  refine mj_if_ne 13 dX13_fieldTempls_6 (by decide) (fun z => t_negK hk z (fun hk => ?_)) (fun z => t_posK hk z (fun hk => ?_))
  · refine mj_iconst (v := 0) dX13_fieldTempls_13 (by decide) ?_
    exact B_X13_fieldTempls_14 rc H _ _ _ _ hk
  · refine mj_iconst (v := 1) dX13_fieldTempls_9 (by decide) ?_
    refine mj_goto 14 dX13_fieldTempls_10 (by decide) ?_
    exact B_X13_fieldTempls_14 rc H _ _ _ _ hk
noncomputable def k_X13_level_110 (rc : RT_X13_base) (l1 : Int32) (l2 : Int32) (k0 : Int32) (s : t_S) : Option ((Int32 × Int32 × Int32 × t_S) ⊕ (Int32 × t_S)) :=
 some (.inl (l1, l2, k0, s))
set_option maxRecDepth 4000 in
set_option maxHeartbeats 1000000 in
theorem B_X13_level_110 {D : va_G} {cy : Nat → ClassId} {ad : Nat → Nat} {bs : Nat} {X : State → Heap → Prop} (rc : RT_X13_base) {k : Nat} (H : RH_X13_base rc k) (l1 : Int32) (l2 : Int32) (k0 : Int32) (s : t_S) (Q : (Int32 × Int32 × Int32 × t_S) ⊕ (Int32 × t_S) → Prop) (Hb33 : ∀ (y0 : Int32) (y1 : Int32) (y2 : Int32) (y3 : t_S), Q (.inl (y0, y1, y2, y3)) → mj_G D cy ad bs X cX13_level 5 yX13_level.cls (some .int) yX13_level.name (8 + (k + 1)) 0 0 1065 (t_P (fun v s' => ∃ x, v = some (.int x) ∧ Q (.inr ((x, s'))))) 33 [(0, .ref 950), (1, .int (y0)), (2, .int (y1)), (3, .int (y2))] [] (t_m y3) 1065 0 0) (hk : t_hk (k_X13_level_110 rc l1 l2 k0 s) Q) : mj_G D cy ad bs X cX13_level 5 yX13_level.cls (some .int) yX13_level.name (8 + (k + 1)) 0 0 1065 (t_P (fun v s' => ∃ x, v = some (.int x) ∧ Q (.inr ((x, s'))))) 110 [(0, .ref 950), (1, .int l1), (2, .int l2)] [.int k0] (t_m s) 1065 0 0 := by
  refine mj_istore_n 3 (lv2 := [(3, .int k0), (0, .ref 950), (1, .int l1), (2, .int l2)]) dX13_level_110 rfl (by decide) rfl ?_
  refine mj_goto 33 dX13_level_111 (by decide) ?_
  refine mj_sublv [(0, .ref 950), (1, .int l1), (2, .int l2), (3, .int k0)] [1, 2, 3, 0] rfl ?_
  exact t_somK hk (fun hf => Hb33 l1 l2 k0 s hf)
noncomputable def k_X13_level_109 (rc : RT_X13_base) (l1 : Int32) (l2 : Int32) (s : t_S) : Option ((Int32 × Int32 × Int32 × t_S) ⊕ (Int32 × t_S)) :=
 k_X13_level_110 rc l1 l2 0 s
set_option maxRecDepth 4000 in
set_option maxHeartbeats 1000000 in
theorem B_X13_level_109 {D : va_G} {cy : Nat → ClassId} {ad : Nat → Nat} {bs : Nat} {X : State → Heap → Prop} (rc : RT_X13_base) {k : Nat} (H : RH_X13_base rc k) (l1 : Int32) (l2 : Int32) (s : t_S) (Q : (Int32 × Int32 × Int32 × t_S) ⊕ (Int32 × t_S) → Prop) (Hb33 : ∀ (y0 : Int32) (y1 : Int32) (y2 : Int32) (y3 : t_S), Q (.inl (y0, y1, y2, y3)) → mj_G D cy ad bs X cX13_level 5 yX13_level.cls (some .int) yX13_level.name (8 + (k + 1)) 0 0 1065 (t_P (fun v s' => ∃ x, v = some (.int x) ∧ Q (.inr ((x, s'))))) 33 [(0, .ref 950), (1, .int (y0)), (2, .int (y1)), (3, .int (y2))] [] (t_m y3) 1065 0 0) (hk : t_hk (k_X13_level_109 rc l1 l2 s) Q) : mj_G D cy ad bs X cX13_level 5 yX13_level.cls (some .int) yX13_level.name (8 + (k + 1)) 0 0 1065 (t_P (fun v s' => ∃ x, v = some (.int x) ∧ Q (.inr ((x, s'))))) 109 [(0, .ref 950), (1, .int l1), (2, .int l2)] [] (t_m s) 1065 0 0 := by
  refine mj_iconst (v := 0) dX13_level_109 (by decide) ?_
  exact B_X13_level_110 rc H _ _ _ _ _ (fun y0 y1 y2 y3 hx => Hb33 y0 y1 y2 y3 hx) hk
noncomputable def k_X13_level_33 (rc : RT_X13_base) (l1 : Int32) (l2 : Int32) (l3 : Int32) (s : t_S) : Option ((Int32 × Int32 × Int32 × t_S) ⊕ (Int32 × t_S)) :=
 if l3 = (0 : Int32) then ((some (l2, s)).map Sum.inr)
 else (if (s.1 950 2) = (0 : Int32) then ((f_X13_node (70 : Int32) (1 : Int32) s).bind (fun r1 =>
 if t_ix r1.1 13000 = true then
  t_let (t_setJ r1.2 957 (r1.1.toNatClampNeg) ((r1.2.1 950 9).toInt64)) (fun s1 =>
 (f_X13_next s1).bind (fun r3 =>
 (f_X13_hang r1.1 l2 r3).bind (fun r4 =>
 (rc.2.2.2.2.2.1 (l1 + (1 : Int32)) r4).bind (fun r5 =>
 (f_X13_hang r1.1 r5.1 r5.2).bind (fun r6 =>
 if l1 = (2 : Int32) then (k_X13_level_109 rc l1 r1.1 r6)
 else (if (f_X13_joins l1 r6) = (0 : Int32) then (k_X13_level_109 rc l1 r1.1 r6)
 else (k_X13_level_110 rc l1 r1.1 1 r6)))))))
else none))
 else ((some (l2, s)).map Sum.inr))
set_option maxRecDepth 4000 in
set_option maxHeartbeats 1000000 in
theorem B_X13_level_33 {D : va_G} {cy : Nat → ClassId} {ad : Nat → Nat} {bs : Nat} {X : State → Heap → Prop} (rc : RT_X13_base) {k : Nat} (H : RH_X13_base rc k) (l1 : Int32) (l2 : Int32) (l3 : Int32) (s : t_S) (Q : (Int32 × Int32 × Int32 × t_S) ⊕ (Int32 × t_S) → Prop) (Hb33 : ∀ (y0 : Int32) (y1 : Int32) (y2 : Int32) (y3 : t_S), Q (.inl (y0, y1, y2, y3)) → mj_G D cy ad bs X cX13_level 5 yX13_level.cls (some .int) yX13_level.name (8 + (k + 1)) 0 0 1065 (t_P (fun v s' => ∃ x, v = some (.int x) ∧ Q (.inr ((x, s'))))) 33 [(0, .ref 950), (1, .int (y0)), (2, .int (y1)), (3, .int (y2))] [] (t_m y3) 1065 0 0) (hk : t_hk (k_X13_level_33 rc l1 l2 l3 s) Q) : mj_G D cy ad bs X cX13_level 5 yX13_level.cls (some .int) yX13_level.name (8 + (k + 1)) 0 0 1065 (t_P (fun v s' => ∃ x, v = some (.int x) ∧ Q (.inr ((x, s'))))) 33 [(0, .ref 950), (1, .int l1), (2, .int l2), (3, .int l3)] [] (t_m s) 1065 0 0 := by
  refine mj_iload_n dX13_level_33 3 rfl ?_
  refine mj_if_eq 114 dX13_level_34 (by decide) (fun z => t_posK hk z (fun hk => ?_)) (fun z => t_negK hk z (fun hk => ?_))
  · refine t_mapK hk (fun hk => ?_)
    refine mj_iload_n dX13_level_114 2 rfl ?_
    exact t_somK hk (fun hf => t_iret dX13_level_115 rfl rfl ⟨_, rfl, hf⟩ (Nat.le_of_ble_eq_true rfl) (Nat.le_of_ble_eq_true rfl))
  · refine mj_aload_n dX13_level_37 0 rfl ?_
    refine t_getI dX13_level_38 F_X13_375 qf_950_2 ?_
    refine mj_if_ne 114 dX13_level_41 (by decide) (fun z => t_negK hk z (fun hk => ?_)) (fun z => t_posK hk z (fun hk => ?_))
    · refine t_mapK hk (fun hk => ?_)
      refine mj_iload_n dX13_level_114 2 rfl ?_
      exact t_somK hk (fun hf => t_iret dX13_level_115 rfl rfl ⟨_, rfl, hf⟩ (Nat.le_of_ble_eq_true rfl) (Nat.le_of_ble_eq_true rfl))
    · refine mj_aload_n dX13_level_44 0 rfl ?_
      refine mj_bipush (v := 70) dX13_level_45 (by decide) ?_
      refine mj_iconst (v := 1) dX13_level_47 (by decide) ?_
      refine t_bndK hk (fun r1 er1 hk => ?_)
      refine t_callViE dX13_level_48 M_X13_node (C_X13_node _ _ _ _ er1) ML_X13_510 IM_X13_node SE_X13_node qc_950 rfl (As := [.int 70, .int 1]) rfl rfl (by omega) (Nat.le_of_ble_eq_true rfl) (Nat.le_of_ble_eq_true rfl) (Nat.le_of_ble_eq_true rfl) ?_
      refine mj_istore (lv2 := [(4, .int r1.1), (0, .ref 950), (1, .int l1), (2, .int l2), (3, .int l3)]) dX13_level_51 (by decide) rfl ?_
      refine mj_aload_n dX13_level_53 1 rfl ?_
      refine t_getR 957 dX13_level_54 F_X13_32 qr_950_19 ?_
      refine mj_iload dX13_level_57 0 rfl ?_
      refine mj_aload_n dX13_level_59 1 rfl ?_
      refine t_getI dX13_level_60 F_X13_438 qf_950_9 ?_
      refine mj_i2l (v := (r1.2.1 950 9).toInt64) dX13_level_63 rfl ?_
      refine t_chkK hk (fun c1 hk => ?_)
      refine t_lastK dX13_level_64 qa_957 (t_ixv c1) (fun s1 ws1 => t_letE hk ws1 (fun hk => ?_))
      refine mj_aload_n dX13_level_65 1 rfl ?_
      refine t_bndK hk (fun r3 er3 hk => ?_)
      refine t_callVvE dX13_level_66 M_X13_next (C_X13_next _ _ er3) ML_X13_452 IM_X13_next SE_X13_next qc_950 rfl (As := []) rfl rfl (by omega) (Nat.le_of_ble_eq_true rfl) (Nat.le_of_ble_eq_true rfl) (Nat.le_of_ble_eq_true rfl) ?_
      refine mj_aload_n dX13_level_69 1 rfl ?_
      refine mj_iload dX13_level_70 0 rfl ?_
      refine mj_iload_n dX13_level_72 3 rfl ?_
      refine t_bndK hk (fun r4 er4 hk => ?_)
      refine t_callVvE dX13_level_73 M_X13_hang (C_X13_hang _ _ _ _ er4) ML_X13_507 IM_X13_hang SE_X13_hang qc_950 rfl (As := [.int r1.1, .int l2]) rfl rfl (by omega) (Nat.le_of_ble_eq_true rfl) (Nat.le_of_ble_eq_true rfl) (Nat.le_of_ble_eq_true rfl) ?_
      refine mj_aload_n dX13_level_76 1 rfl ?_
      refine mj_iload dX13_level_77 0 rfl ?_
      refine mj_aload_n dX13_level_79 1 rfl ?_
      refine mj_iload_n dX13_level_80 2 rfl ?_
      refine mj_iconst (v := 1) dX13_level_81 (by decide) ?_
      refine mj_iadd dX13_level_82 ?_
      refine t_bndK hk (fun r5 er5 hk => ?_)
      refine t_callSiE dX13_level_83 M_X13_level (H.2.2.2.2.2.1 _ _ _ er5) ML_X13_597 SM_X13_level (As := [.ref 950, .int (l1 + (1 : Int32))]) rfl rfl (by omega) (Nat.le_of_ble_eq_true rfl) (Nat.le_of_ble_eq_true rfl) (Nat.le_of_ble_eq_true rfl) ?_
      refine t_bndK hk (fun r6 er6 hk => ?_)
      refine t_callVvE dX13_level_86 M_X13_hang (C_X13_hang _ _ _ _ er6) ML_X13_507 IM_X13_hang SE_X13_hang qc_950 rfl (As := [.int r1.1, .int r5.1]) rfl rfl (by omega) (Nat.le_of_ble_eq_true rfl) (Nat.le_of_ble_eq_true rfl) (Nat.le_of_ble_eq_true rfl) ?_
      refine mj_iload dX13_level_89 0 rfl ?_
      refine mj_istore_n 2 (lv2 := [(2, .int r1.1), (4, .int r1.1), (0, .ref 950), (1, .int l1), (3, .int l3)]) dX13_level_91 rfl (by decide) rfl ?_
      refine mj_iload_n dX13_level_92 3 rfl ?_
      refine mj_iconst (v := 2) dX13_level_93 (by decide) ?_
      refine mj_icmp_eq 109 dX13_level_94 (by decide) (fun z => t_posK hk z (fun hk => ?_)) (fun z => t_negK hk z (fun hk => ?_))
      · refine mj_sublv [(0, .ref 950), (1, .int l1), (2, .int r1.1)] [2, 3, 0] rfl ?_
        exact B_X13_level_109 rc H _ _ _ _ (fun y0 y1 y2 y3 hx => Hb33 y0 y1 y2 y3 hx) hk
      · refine mj_aload_n dX13_level_97 2 rfl ?_
        refine mj_iload_n dX13_level_98 3 rfl ?_
        refine t_callViP dX13_level_99 M_X13_joins (C_X13_joins _ _) ML_X13_604 IM_X13_joins SE_X13_joins qc_950 rfl (As := [.int l1]) rfl rfl (by omega) (Nat.le_of_ble_eq_true rfl) (Nat.le_of_ble_eq_true rfl) (Nat.le_of_ble_eq_true rfl) ?_
        refine mj_if_eq 109 dX13_level_102 (by decide) (fun z => t_posK hk z (fun hk => ?_)) (fun z => t_negK hk z (fun hk => ?_))
        · refine mj_sublv [(0, .ref 950), (1, .int l1), (2, .int r1.1)] [2, 3, 0] rfl ?_
          exact B_X13_level_109 rc H _ _ _ _ (fun y0 y1 y2 y3 hx => Hb33 y0 y1 y2 y3 hx) hk
        · refine mj_iconst (v := 1) dX13_level_105 (by decide) ?_
          refine mj_goto 110 dX13_level_106 (by decide) ?_
          refine mj_sublv [(0, .ref 950), (1, .int l1), (2, .int r1.1)] [2, 3, 0] rfl ?_
          exact B_X13_level_110 rc H _ _ _ _ _ (fun y0 y1 y2 y3 hx => Hb33 y0 y1 y2 y3 hx) hk
noncomputable def b_X13_level_33 (rc : RT_X13_base) (x : Int32 × Int32 × Int32 × t_S) : Option ((Int32 × Int32 × Int32 × t_S) ⊕ (Int32 × t_S)) := k_X13_level_33 rc x.1 x.2.1 x.2.2.1 x.2.2.2
set_option maxRecDepth 4000 in
set_option maxHeartbeats 1000000 in
theorem LH_X13_level_33 {D : va_G} {cy : Nat → ClassId} {ad : Nat → Nat} {bs : Nat} {X : State → Heap → Prop} (rc : RT_X13_base) {k : Nat} (H : RH_X13_base rc k) : ∀ (n : Nat) (y0 : Int32) (y1 : Int32) (y2 : Int32) (y3 : t_S) (Q : Int32 × t_S → Prop) (hk : t_hk (t_loop (b_X13_level_33 rc) n (y0, y1, y2, y3)) Q), mj_G D cy ad bs X cX13_level 5 yX13_level.cls (some .int) yX13_level.name (8 + (k + 1)) 0 0 1065 (t_P (fun v s' => ∃ x, v = some (.int x) ∧ Q ((x, s')))) 33 [(0, .ref 950), (1, .int (y0)), (2, .int (y1)), (3, .int (y2))] [] (t_m y3) 1065 0 0 := by
  intro n
  induction n with
  | zero => intro y0 y1 y2 y3 Q hk; obtain ⟨r, hr, _⟩ := hk; cases hr
  | succ n ih =>
    intro y0 y1 y2 y3 Q hk
    exact B_X13_level_33 rc H y0 y1 y2 y3 (fun y => t_lq (b_X13_level_33 rc) n Q y) (fun y0' y1' y2' y3' hy => ih y0' y1' y2' y3' Q hy) (t_lp (b := b_X13_level_33 rc) (n := n) (x := (y0, y1, y2, y3)) hk)
noncomputable def m_X13_level (rc : RT_X13_base) (x2 : Int32) (s : t_S) : Option (Int32 × t_S) :=
 if (s.1 950 2) = (0 : Int32) then (if x2 = (5 : Int32) then ((rc.2.2.2.2.2.2.1 s).bind (fun r3 =>
 some (r3.1, r3.2)))
 else ((rc.2.2.2.2.2.1 (x2 + (1 : Int32)) s).bind (fun r1 =>
 t_loop (b_X13_level_33 rc) t_N (x2, r1.1, (f_X13_joins x2 r1.2), r1.2))))
 else (some ((0 : Int32), s))
set_option maxRecDepth 4000 in
set_option maxHeartbeats 1000000 in
theorem E_X13_level (rc : RT_X13_base) {k : Nat} (H : RH_X13_base rc k) (x2 : Int32) (s : t_S) (r : Int32 × t_S) (hr : m_X13_level rc x2 s = some r) : t_C yX13_level cX13_level 5 (some .int) (8 + (k + 1)) [.ref 950, .int x2] s (fun v s' => v = some (.int r.1) ∧ s' = r.2) := by
  refine t_C.imp (P := fun v s' => ∃ x, v = some (.int x) ∧ (fun q => q = r) ((x, s'))) (t_C.of (by decide +kernel) (Nat.le_of_ble_eq_true rfl) ?_) (fun v s' hp => by obtain ⟨x, rfl, rfl⟩ := hp; exact ⟨rfl, rfl⟩)
  intro D cy ad bs X
  have hk : t_hk (m_X13_level rc x2 s) (fun q => q = r) := ⟨r, hr, rfl⟩
  show mj_G D cy ad bs X cX13_level 5 yX13_level.cls (some .int) yX13_level.name (8 + (k + 1)) 0 0 1065 (t_P (fun v s' => ∃ x, v = some (.int x) ∧ (fun q => q = r) ((x, s')))) 0 [(0, .ref 950), (1, .int x2)] [] (t_m s) 1065 0 0
  refine mj_aload_n dX13_level_0 0 rfl ?_
  refine t_getI dX13_level_1 F_X13_375 qf_950_2 ?_
  refine mj_if_eq 9 dX13_level_4 (by decide) (fun z => t_posK hk z (fun hk => ?_)) (fun z => t_negK hk z (fun hk => ?_))
  · refine mj_iload_n dX13_level_9 1 rfl ?_
    refine mj_iconst (v := 5) dX13_level_10 (by decide) ?_
    refine mj_icmp_ne 19 dX13_level_11 (by decide) (fun z => t_negK hk z (fun hk => ?_)) (fun z => t_posK hk z (fun hk => ?_))
    · refine mj_aload_n dX13_level_19 0 rfl ?_
      refine mj_iload_n dX13_level_20 1 rfl ?_
      refine mj_iconst (v := 1) dX13_level_21 (by decide) ?_
      refine mj_iadd dX13_level_22 ?_
      refine t_bndK hk (fun r1 er1 hk => ?_)
      refine t_callSiE dX13_level_23 M_X13_level (H.2.2.2.2.2.1 _ _ _ er1) ML_X13_597 SM_X13_level (As := [.ref 950, .int (x2 + (1 : Int32))]) rfl rfl (by omega) (Nat.le_of_ble_eq_true rfl) (Nat.le_of_ble_eq_true rfl) (Nat.le_of_ble_eq_true rfl) ?_
      refine mj_istore_n 2 (lv2 := [(2, .int r1.1), (0, .ref 950), (1, .int x2)]) dX13_level_26 rfl (by decide) rfl ?_
      refine mj_aload_n dX13_level_27 1 rfl ?_
      refine mj_iload_n dX13_level_28 2 rfl ?_
      refine t_callViP dX13_level_29 M_X13_joins (C_X13_joins _ _) ML_X13_604 IM_X13_joins SE_X13_joins qc_950 rfl (As := [.int x2]) rfl rfl (by omega) (Nat.le_of_ble_eq_true rfl) (Nat.le_of_ble_eq_true rfl) (Nat.le_of_ble_eq_true rfl) ?_
      refine mj_istore_n 3 (lv2 := [(3, .int (f_X13_joins x2 r1.2)), (2, .int r1.1), (0, .ref 950), (1, .int x2)]) dX13_level_32 rfl (by decide) rfl ?_
      refine mj_sublv [(0, .ref 950), (1, .int x2), (2, .int r1.1), (3, .int (f_X13_joins x2 r1.2))] [2, 3, 1, 0] rfl ?_
      exact LH_X13_level_33 rc H _ x2 r1.1 (f_X13_joins x2 r1.2) r1.2 _ hk
    · refine mj_aload_n dX13_level_14 0 rfl ?_
      refine t_bndK hk (fun r3 er3 hk => ?_)
      refine t_callSiE dX13_level_15 M_X13_single (H.2.2.2.2.2.2.1 _ _ er3) ML_X13_601 SM_X13_single (As := [.ref 950]) rfl rfl (by omega) (Nat.le_of_ble_eq_true rfl) (Nat.le_of_ble_eq_true rfl) (Nat.le_of_ble_eq_true rfl) ?_
      exact t_somK hk (fun hf => t_iret dX13_level_18 rfl rfl ⟨_, rfl, hf⟩ (Nat.le_of_ble_eq_true rfl) (Nat.le_of_ble_eq_true rfl))
  · refine mj_iconst (v := 0) dX13_level_7 (by decide) ?_
    exact t_somK hk (fun hf => t_iret dX13_level_8 rfl rfl ⟨_, rfl, hf⟩ (Nat.le_of_ble_eq_true rfl) (Nat.le_of_ble_eq_true rfl))
noncomputable def k_X13_single_160 (rc : RT_X13_base) (l3 : Int32) (l5 : Int32) (k0 : Int32) (s : t_S) : Option ((Int32 × Int32 × Int32 × t_S) ⊕ (Int32 × t_S)) :=
 some (.inl (k0, l5, l3, s))
set_option maxRecDepth 4000 in
set_option maxHeartbeats 1000000 in
theorem B_X13_single_160 {D : va_G} {cy : Nat → ClassId} {ad : Nat → Nat} {bs : Nat} {X : State → Heap → Prop} (rc : RT_X13_base) {k : Nat} (H : RH_X13_base rc k) (l3 : Int32) (l5 : Int32) (k0 : Int32) (s : t_S) (Q : (Int32 × Int32 × Int32 × t_S) ⊕ (Int32 × t_S) → Prop) (Hb6 : ∀ (y0 : Int32) (y1 : Int32) (y2 : Int32) (y3 : t_S), Q (.inl (y0, y1, y2, y3)) → mj_G D cy ad bs X cX13_single 7 yX13_single.cls (some .int) yX13_single.name (8 + (k + 1)) 0 0 1065 (t_P (fun v s' => ∃ x, v = some (.int x) ∧ Q (.inr ((x, s'))))) 6 [(0, .ref 950), (1, .int (y0)), (2, .int (y1)), (3, .int (y2))] [] (t_m y3) 1065 0 0) (hk : t_hk (k_X13_single_160 rc l3 l5 k0 s) Q) : mj_G D cy ad bs X cX13_single 7 yX13_single.cls (some .int) yX13_single.name (8 + (k + 1)) 0 0 1065 (t_P (fun v s' => ∃ x, v = some (.int x) ∧ Q (.inr ((x, s'))))) 160 [(0, .ref 950), (3, .int l3), (5, .int l5)] [.int k0] (t_m s) 1065 0 0 := by
  refine mj_istore_n 1 (lv2 := [(1, .int k0), (0, .ref 950), (3, .int l3), (5, .int l5)]) dX13_single_160 rfl (by decide) rfl ?_
  refine mj_iload dX13_single_161 3 rfl ?_
  refine mj_istore_n 2 (lv2 := [(2, .int l5), (1, .int k0), (0, .ref 950), (3, .int l3), (5, .int l5)]) dX13_single_163 rfl (by decide) rfl ?_
  refine mj_goto 6 dX13_single_164 (by decide) ?_
  refine mj_sublv [(0, .ref 950), (1, .int k0), (2, .int l5), (3, .int l3)] [2, 1, 0, 3] rfl ?_
  exact t_somK hk (fun hf => Hb6 k0 l5 l3 s hf)
noncomputable def k_X13_single_150 (rc : RT_X13_base) (l1 : Int32) (l3 : Int32) (l5 : Int32) (s : t_S) : Option ((Int32 × Int32 × Int32 × t_S) ⊕ (Int32 × t_S)) :=
 if (0 : Int32) ≤ l1 then (k_X13_single_160 rc l3 l5 l1 s)
 else (k_X13_single_160 rc l3 l5 l5 s)
set_option maxRecDepth 4000 in
set_option maxHeartbeats 1000000 in
theorem B_X13_single_150 {D : va_G} {cy : Nat → ClassId} {ad : Nat → Nat} {bs : Nat} {X : State → Heap → Prop} (rc : RT_X13_base) {k : Nat} (H : RH_X13_base rc k) (l1 : Int32) (l3 : Int32) (l5 : Int32) (s : t_S) (Q : (Int32 × Int32 × Int32 × t_S) ⊕ (Int32 × t_S) → Prop) (Hb6 : ∀ (y0 : Int32) (y1 : Int32) (y2 : Int32) (y3 : t_S), Q (.inl (y0, y1, y2, y3)) → mj_G D cy ad bs X cX13_single 7 yX13_single.cls (some .int) yX13_single.name (8 + (k + 1)) 0 0 1065 (t_P (fun v s' => ∃ x, v = some (.int x) ∧ Q (.inr ((x, s'))))) 6 [(0, .ref 950), (1, .int (y0)), (2, .int (y1)), (3, .int (y2))] [] (t_m y3) 1065 0 0) (hk : t_hk (k_X13_single_150 rc l1 l3 l5 s) Q) : mj_G D cy ad bs X cX13_single 7 yX13_single.cls (some .int) yX13_single.name (8 + (k + 1)) 0 0 1065 (t_P (fun v s' => ∃ x, v = some (.int x) ∧ Q (.inr ((x, s'))))) 150 [(0, .ref 950), (1, .int l1), (3, .int l3), (5, .int l5)] [] (t_m s) 1065 0 0 := by
  refine mj_iload_n dX13_single_150 1 rfl ?_
  refine mj_if_ge 159 dX13_single_151 (by decide) (fun z => t_posK hk z (fun hk => ?_)) (fun z => t_negK hk z (fun hk => ?_))
  · refine mj_iload_n dX13_single_159 1 rfl ?_
    refine mj_sublv [(0, .ref 950), (3, .int l3), (5, .int l5)] [0, 2, 3] rfl ?_
    exact B_X13_single_160 rc H _ _ _ _ _ (fun y0 y1 y2 y3 hx => Hb6 y0 y1 y2 y3 hx) hk
  · refine mj_iload dX13_single_154 3 rfl ?_
    refine mj_goto 160 dX13_single_156 (by decide) ?_
    refine mj_sublv [(0, .ref 950), (3, .int l3), (5, .int l5)] [0, 2, 3] rfl ?_
    exact B_X13_single_160 rc H _ _ _ _ _ (fun y0 y1 y2 y3 hx => Hb6 y0 y1 y2 y3 hx) hk
noncomputable def k_X13_single_138 (rc : RT_X13_base) (l1 : Int32) (l2 : Int32) (l3 : Int32) (l5 : Int32) (s : t_S) : Option ((Int32 × Int32 × Int32 × t_S) ⊕ (Int32 × t_S)) :=
 if l2 < (0 : Int32) then (k_X13_single_150 rc l1 l3 l5 s)
 else (if t_ix l2 13000 = true then
  t_let (t_setI s 959 (l2.toNatClampNeg) l5) (fun s1 =>
 k_X13_single_150 rc l1 l3 l5 s1)
else none)
set_option maxRecDepth 4000 in
set_option maxHeartbeats 1000000 in
theorem B_X13_single_138 {D : va_G} {cy : Nat → ClassId} {ad : Nat → Nat} {bs : Nat} {X : State → Heap → Prop} (rc : RT_X13_base) {k : Nat} (H : RH_X13_base rc k) (l1 : Int32) (l2 : Int32) (l3 : Int32) (l5 : Int32) (s : t_S) (Q : (Int32 × Int32 × Int32 × t_S) ⊕ (Int32 × t_S) → Prop) (Hb6 : ∀ (y0 : Int32) (y1 : Int32) (y2 : Int32) (y3 : t_S), Q (.inl (y0, y1, y2, y3)) → mj_G D cy ad bs X cX13_single 7 yX13_single.cls (some .int) yX13_single.name (8 + (k + 1)) 0 0 1065 (t_P (fun v s' => ∃ x, v = some (.int x) ∧ Q (.inr ((x, s'))))) 6 [(0, .ref 950), (1, .int (y0)), (2, .int (y1)), (3, .int (y2))] [] (t_m y3) 1065 0 0) (hk : t_hk (k_X13_single_138 rc l1 l2 l3 l5 s) Q) : mj_G D cy ad bs X cX13_single 7 yX13_single.cls (some .int) yX13_single.name (8 + (k + 1)) 0 0 1065 (t_P (fun v s' => ∃ x, v = some (.int x) ∧ Q (.inr ((x, s'))))) 138 [(0, .ref 950), (1, .int l1), (2, .int l2), (3, .int l3), (5, .int l5)] [] (t_m s) 1065 0 0 := by
  refine mj_iload_n dX13_single_138 2 rfl ?_
  refine mj_if_lt 150 dX13_single_139 (by decide) (fun z => t_posK hk z (fun hk => ?_)) (fun z => t_negK hk z (fun hk => ?_))
  · refine mj_sublv [(0, .ref 950), (1, .int l1), (3, .int l3), (5, .int l5)] [0, 1, 3, 4] rfl ?_
    exact B_X13_single_150 rc H _ _ _ _ _ (fun y0 y1 y2 y3 hx => Hb6 y0 y1 y2 y3 hx) hk
  · refine mj_aload_n dX13_single_142 0 rfl ?_
    refine t_getR 959 dX13_single_143 F_X13_39 qr_950_21 ?_
    refine mj_iload_n dX13_single_146 2 rfl ?_
    refine mj_iload dX13_single_147 4 rfl ?_
    refine t_chkK hk (fun c0 hk => ?_)
    refine t_iastK dX13_single_149 qa_959 (t_ixv c0) (fun s1 ws1 => t_letE hk ws1 (fun hk => ?_))
    refine mj_sublv [(0, .ref 950), (1, .int l1), (3, .int l3), (5, .int l5)] [0, 1, 3, 4] rfl ?_
    exact B_X13_single_150 rc H _ _ _ _ _ (fun y0 y1 y2 y3 hx => Hb6 y0 y1 y2 y3 hx) hk
noncomputable def k_X13_single_86 (rc : RT_X13_base) (l1 : Int32) (l2 : Int32) (l4 : Int32) (k0 : Int32) (s : t_S) : Option ((Int32 × Int32 × Int32 × t_S) ⊕ (Int32 × t_S)) :=
 if k0 = (0 : Int32) then (some (.inl (l1, l2, k0, s)))
 else ((f_X13_node l4 (1 : Int32) s).bind (fun r1 =>
 (f_X13_next r1.2).bind (fun r2 =>
 if l4 = (67 : Int32) then (if t_ix r1.1 13000 = true then
  t_let (t_setI r2 1003 (r1.1.toNatClampNeg) (r2.1 950 6)) (fun s1 =>
 (f_X13_freeName s1).bind (fun r4 =>
 t_let (t_setJ r4.2 957 (r1.1.toNatClampNeg) r4.1.toInt64) (fun s2 =>
 (f_X13_next s2).bind (fun r5 =>
 k_X13_single_138 rc l1 l2 k0 r1.1 r5))))
else none)
 else (k_X13_single_138 rc l1 l2 k0 r1.1 r2))))
set_option maxRecDepth 4000 in
set_option maxHeartbeats 1000000 in
theorem B_X13_single_86 {D : va_G} {cy : Nat → ClassId} {ad : Nat → Nat} {bs : Nat} {X : State → Heap → Prop} (rc : RT_X13_base) {k : Nat} (H : RH_X13_base rc k) (l1 : Int32) (l2 : Int32) (l4 : Int32) (k0 : Int32) (s : t_S) (Q : (Int32 × Int32 × Int32 × t_S) ⊕ (Int32 × t_S) → Prop) (Hb6 : ∀ (y0 : Int32) (y1 : Int32) (y2 : Int32) (y3 : t_S), Q (.inl (y0, y1, y2, y3)) → mj_G D cy ad bs X cX13_single 7 yX13_single.cls (some .int) yX13_single.name (8 + (k + 1)) 0 0 1065 (t_P (fun v s' => ∃ x, v = some (.int x) ∧ Q (.inr ((x, s'))))) 6 [(0, .ref 950), (1, .int (y0)), (2, .int (y1)), (3, .int (y2))] [] (t_m y3) 1065 0 0) (hk : t_hk (k_X13_single_86 rc l1 l2 l4 k0 s) Q) : mj_G D cy ad bs X cX13_single 7 yX13_single.cls (some .int) yX13_single.name (8 + (k + 1)) 0 0 1065 (t_P (fun v s' => ∃ x, v = some (.int x) ∧ Q (.inr ((x, s'))))) 86 [(0, .ref 950), (1, .int l1), (2, .int l2), (4, .int l4)] [.int k0] (t_m s) 1065 0 0 := by
  refine mj_istore_n 3 (lv2 := [(3, .int k0), (0, .ref 950), (1, .int l1), (2, .int l2), (4, .int l4)]) dX13_single_86 rfl (by decide) rfl ?_
  refine mj_iload_n dX13_single_87 0 rfl ?_
  refine mj_if_eq 164 dX13_single_88 (by decide) (fun z => t_posK hk z (fun hk => ?_)) (fun z => t_negK hk z (fun hk => ?_))
  · refine mj_goto 6 dX13_single_164 (by decide) ?_
    refine mj_sublv [(0, .ref 950), (1, .int l1), (2, .int l2), (3, .int k0)] [1, 2, 3, 0] rfl ?_
    exact t_somK hk (fun hf => Hb6 l1 l2 k0 s hf)
  · refine mj_aload_n dX13_single_91 1 rfl ?_
    refine mj_iload dX13_single_92 4 rfl ?_
    refine mj_iconst (v := 1) dX13_single_94 (by decide) ?_
    refine t_bndK hk (fun r1 er1 hk => ?_)
    refine t_callViE dX13_single_95 M_X13_node (C_X13_node _ _ _ _ er1) ML_X13_510 IM_X13_node SE_X13_node qc_950 rfl (As := [.int l4, .int 1]) rfl rfl (by omega) (Nat.le_of_ble_eq_true rfl) (Nat.le_of_ble_eq_true rfl) (Nat.le_of_ble_eq_true rfl) ?_
    refine mj_istore (lv2 := [(5, .int r1.1), (3, .int k0), (0, .ref 950), (1, .int l1), (2, .int l2), (4, .int l4)]) dX13_single_98 (by decide) rfl ?_
    refine mj_aload_n dX13_single_100 2 rfl ?_
    refine t_bndK hk (fun r2 er2 hk => ?_)
    refine t_callVvE dX13_single_101 M_X13_next (C_X13_next _ _ er2) ML_X13_452 IM_X13_next SE_X13_next qc_950 rfl (As := []) rfl rfl (by omega) (Nat.le_of_ble_eq_true rfl) (Nat.le_of_ble_eq_true rfl) (Nat.le_of_ble_eq_true rfl) ?_
    refine mj_iload dX13_single_104 5 rfl ?_
    refine mj_bipush (v := 67) dX13_single_106 (by decide) ?_
    refine mj_icmp_ne 138 dX13_single_108 (by decide) (fun z => t_negK hk z (fun hk => ?_)) (fun z => t_posK hk z (fun hk => ?_))
    · refine mj_sublv [(0, .ref 950), (1, .int l1), (2, .int l2), (3, .int k0), (5, .int r1.1)] [2, 3, 4, 1, 0] rfl ?_
      exact B_X13_single_138 rc H _ _ _ _ _ _ (fun y0 y1 y2 y3 hx => Hb6 y0 y1 y2 y3 hx) hk
    · refine mj_aload_n dX13_single_111 2 rfl ?_
      refine t_getR 1003 dX13_single_112 F_X13_171 qr_950_85 ?_
      refine mj_iload dX13_single_115 0 rfl ?_
      refine mj_aload_n dX13_single_117 2 rfl ?_
      refine t_getI dX13_single_118 F_X13_391 qf_950_6 ?_
      refine t_chkK hk (fun c2 hk => ?_)
      refine t_iastK dX13_single_121 qa_1003 (t_ixv c2) (fun s1 ws1 => t_letE hk ws1 (fun hk => ?_))
      refine mj_aload_n dX13_single_122 2 rfl ?_
      refine t_getR 957 dX13_single_123 F_X13_32 qr_950_19 ?_
      refine mj_iload dX13_single_126 0 rfl ?_
      refine mj_aload_n dX13_single_128 2 rfl ?_
      refine t_bndK hk (fun r4 er4 hk => ?_)
      refine t_callViE dX13_single_129 M_X13_freeName (C_X13_freeName _ _ er4) ML_X13_535 IM_X13_freeName SE_X13_freeName qc_950 rfl (As := []) rfl rfl (by omega) (Nat.le_of_ble_eq_true rfl) (Nat.le_of_ble_eq_true rfl) (Nat.le_of_ble_eq_true rfl) ?_
      refine mj_i2l (v := r4.1.toInt64) dX13_single_132 rfl ?_
      refine t_lastK dX13_single_133 qa_957 (t_ixv c2) (fun s2 ws2 => t_letE hk ws2 (fun hk => ?_))
      refine mj_aload_n dX13_single_134 2 rfl ?_
      refine t_bndK hk (fun r5 er5 hk => ?_)
      refine t_callVvE dX13_single_135 M_X13_next (C_X13_next _ _ er5) ML_X13_452 IM_X13_next SE_X13_next qc_950 rfl (As := []) rfl rfl (by omega) (Nat.le_of_ble_eq_true rfl) (Nat.le_of_ble_eq_true rfl) (Nat.le_of_ble_eq_true rfl) ?_
      refine mj_sublv [(0, .ref 950), (1, .int l1), (2, .int l2), (3, .int k0), (5, .int r1.1)] [2, 3, 4, 1, 0] rfl ?_
      exact B_X13_single_138 rc H _ _ _ _ _ _ (fun y0 y1 y2 y3 hx => Hb6 y0 y1 y2 y3 hx) hk
noncomputable def k_X13_single_74 (rc : RT_X13_base) (l1 : Int32) (l2 : Int32) (k0 : Int32) (s : t_S) : Option ((Int32 × Int32 × Int32 × t_S) ⊕ (Int32 × t_S)) :=
 if k0 = (0 : Int32) then (k_X13_single_86 rc l1 l2 k0 0 s)
 else (k_X13_single_86 rc l1 l2 k0 1 s)
set_option maxRecDepth 4000 in
set_option maxHeartbeats 1000000 in
theorem B_X13_single_74 {D : va_G} {cy : Nat → ClassId} {ad : Nat → Nat} {bs : Nat} {X : State → Heap → Prop} (rc : RT_X13_base) {k : Nat} (H : RH_X13_base rc k) (l1 : Int32) (l2 : Int32) (k0 : Int32) (s : t_S) (Q : (Int32 × Int32 × Int32 × t_S) ⊕ (Int32 × t_S) → Prop) (Hb6 : ∀ (y0 : Int32) (y1 : Int32) (y2 : Int32) (y3 : t_S), Q (.inl (y0, y1, y2, y3)) → mj_G D cy ad bs X cX13_single 7 yX13_single.cls (some .int) yX13_single.name (8 + (k + 1)) 0 0 1065 (t_P (fun v s' => ∃ x, v = some (.int x) ∧ Q (.inr ((x, s'))))) 6 [(0, .ref 950), (1, .int (y0)), (2, .int (y1)), (3, .int (y2))] [] (t_m y3) 1065 0 0) (hk : t_hk (k_X13_single_74 rc l1 l2 k0 s) Q) : mj_G D cy ad bs X cX13_single 7 yX13_single.cls (some .int) yX13_single.name (8 + (k + 1)) 0 0 1065 (t_P (fun v s' => ∃ x, v = some (.int x) ∧ Q (.inr ((x, s'))))) 74 [(0, .ref 950), (1, .int l1), (2, .int l2)] [.int k0] (t_m s) 1065 0 0 := by
  refine mj_istore (lv2 := [(4, .int k0), (0, .ref 950), (1, .int l1), (2, .int l2)]) dX13_single_74 (by decide) rfl ?_
  refine mj_iload dX13_single_76 0 rfl ?_
  refine mj_if_eq 85 dX13_single_78 (by decide) (fun z => t_posK hk z (fun hk => ?_)) (fun z => t_negK hk z (fun hk => ?_))
  · refine mj_iconst (v := 0) dX13_single_85 (by decide) ?_
    refine mj_sublv [(0, .ref 950), (1, .int l1), (2, .int l2), (4, .int k0)] [1, 2, 3, 0] rfl ?_
    exact B_X13_single_86 rc H _ _ _ _ _ _ (fun y0 y1 y2 y3 hx => Hb6 y0 y1 y2 y3 hx) hk
  · refine mj_iconst (v := 1) dX13_single_81 (by decide) ?_
    refine mj_goto 86 dX13_single_82 (by decide) ?_
    refine mj_sublv [(0, .ref 950), (1, .int l1), (2, .int l2), (4, .int k0)] [1, 2, 3, 0] rfl ?_
    exact B_X13_single_86 rc H _ _ _ _ _ _ (fun y0 y1 y2 y3 hx => Hb6 y0 y1 y2 y3 hx) hk
noncomputable def k_X13_single_288 (rc : RT_X13_base) (l1 : Int32) (l2 : Int32) (l6 : Int32) (s : t_S) : Option ((Int32 × Int32 × Int32 × t_S) ⊕ (Int32 × t_S)) :=
 some (.inl (l1, l2, l6, s))
set_option maxRecDepth 4000 in
set_option maxHeartbeats 1000000 in
theorem B_X13_single_288 {D : va_G} {cy : Nat → ClassId} {ad : Nat → Nat} {bs : Nat} {X : State → Heap → Prop} (rc : RT_X13_base) {k : Nat} (H : RH_X13_base rc k) (l1 : Int32) (l2 : Int32) (l6 : Int32) (s : t_S) (Q : (Int32 × Int32 × Int32 × t_S) ⊕ (Int32 × t_S) → Prop) (Hb173 : ∀ (y0 : Int32) (y1 : Int32) (y2 : Int32) (y3 : t_S), Q (.inl (y0, y1, y2, y3)) → mj_G D cy ad bs X cX13_single 7 yX13_single.cls (some .int) yX13_single.name (8 + (k + 1)) 0 0 1065 (t_P (fun v s' => ∃ x, v = some (.int x) ∧ Q (.inr ((x, s'))))) 173 [(0, .ref 950), (1, .int (y0)), (2, .int (y1)), (4, .int (y2))] [] (t_m y3) 1065 0 0) (hk : t_hk (k_X13_single_288 rc l1 l2 l6 s) Q) : mj_G D cy ad bs X cX13_single 7 yX13_single.cls (some .int) yX13_single.name (8 + (k + 1)) 0 0 1065 (t_P (fun v s' => ∃ x, v = some (.int x) ∧ Q (.inr ((x, s'))))) 288 [(0, .ref 950), (1, .int l1), (2, .int l2), (6, .int l6)] [] (t_m s) 1065 0 0 := by
  refine mj_iload dX13_single_288 3 rfl ?_
  refine mj_istore (lv2 := [(4, .int l6), (0, .ref 950), (1, .int l1), (2, .int l2), (6, .int l6)]) dX13_single_290 (by decide) rfl ?_
  refine mj_goto 173 dX13_single_292 (by decide) ?_
  refine mj_sublv [(0, .ref 950), (1, .int l1), (2, .int l2), (4, .int l6)] [1, 2, 3, 0] rfl ?_
  exact t_somK hk (fun hf => Hb173 l1 l2 l6 s hf)
noncomputable def k_X13_single_219 (rc : RT_X13_base) (l1 : Int32) (l2 : Int32) (l4 : Int32) (l5 : Int32) (k0 : Int32) (s : t_S) : Option ((Int32 × Int32 × Int32 × t_S) ⊕ (Int32 × t_S)) :=
 (f_X13_node k0 (1 : Int32) s).bind (fun r1 =>
 (f_X13_next r1.2).bind (fun r2 =>
 (f_X13_hang r1.1 l4 r2).bind (fun r3 =>
 if l5 = (0 : Int32) then ((rc.2.1 r3).bind (fun r4 =>
 (f_X13_hang r1.1 r4.1 r4.2).bind (fun r5 =>
 (f_X13_mustBe (93 : Int32) r5).bind (fun r6 =>
 k_X13_single_288 rc l1 l2 r1.1 r6))))
 else (if t_ix r1.1 13000 = true then
  t_let (t_setI r3 1003 (r1.1.toNatClampNeg) (r3.1 950 6)) (fun s1 =>
 (f_X13_freeName s1).bind (fun r8 =>
 t_let (t_setJ r8.2 957 (r1.1.toNatClampNeg) r8.1.toInt64) (fun s2 =>
 (f_X13_next s2).bind (fun r9 =>
 k_X13_single_288 rc l1 l2 r1.1 r9))))
else none))))
set_option maxRecDepth 4000 in
set_option maxHeartbeats 1000000 in
theorem B_X13_single_219 {D : va_G} {cy : Nat → ClassId} {ad : Nat → Nat} {bs : Nat} {X : State → Heap → Prop} (rc : RT_X13_base) {k : Nat} (H : RH_X13_base rc k) (l1 : Int32) (l2 : Int32) (l4 : Int32) (l5 : Int32) (k0 : Int32) (s : t_S) (Q : (Int32 × Int32 × Int32 × t_S) ⊕ (Int32 × t_S) → Prop) (Hb173 : ∀ (y0 : Int32) (y1 : Int32) (y2 : Int32) (y3 : t_S), Q (.inl (y0, y1, y2, y3)) → mj_G D cy ad bs X cX13_single 7 yX13_single.cls (some .int) yX13_single.name (8 + (k + 1)) 0 0 1065 (t_P (fun v s' => ∃ x, v = some (.int x) ∧ Q (.inr ((x, s'))))) 173 [(0, .ref 950), (1, .int (y0)), (2, .int (y1)), (4, .int (y2))] [] (t_m y3) 1065 0 0) (hk : t_hk (k_X13_single_219 rc l1 l2 l4 l5 k0 s) Q) : mj_G D cy ad bs X cX13_single 7 yX13_single.cls (some .int) yX13_single.name (8 + (k + 1)) 0 0 1065 (t_P (fun v s' => ∃ x, v = some (.int x) ∧ Q (.inr ((x, s'))))) 219 [(0, .ref 950), (1, .int l1), (2, .int l2), (4, .int l4), (5, .int l5)] [.int k0, .ref 950] (t_m s) 1065 0 0 := by
  refine mj_iconst (v := 1) dX13_single_219 (by decide) ?_
  refine t_bndK hk (fun r1 er1 hk => ?_)
  refine t_callViE dX13_single_220 M_X13_node (C_X13_node _ _ _ _ er1) ML_X13_510 IM_X13_node SE_X13_node qc_950 rfl (As := [.int k0, .int 1]) rfl rfl (by omega) (Nat.le_of_ble_eq_true rfl) (Nat.le_of_ble_eq_true rfl) (Nat.le_of_ble_eq_true rfl) ?_
  refine mj_istore (lv2 := [(6, .int r1.1), (0, .ref 950), (1, .int l1), (2, .int l2), (4, .int l4), (5, .int l5)]) dX13_single_223 (by decide) rfl ?_
  refine mj_aload_n dX13_single_225 1 rfl ?_
  refine t_bndK hk (fun r2 er2 hk => ?_)
  refine t_callVvE dX13_single_226 M_X13_next (C_X13_next _ _ er2) ML_X13_452 IM_X13_next SE_X13_next qc_950 rfl (As := []) rfl rfl (by omega) (Nat.le_of_ble_eq_true rfl) (Nat.le_of_ble_eq_true rfl) (Nat.le_of_ble_eq_true rfl) ?_
  refine mj_aload_n dX13_single_229 1 rfl ?_
  refine mj_iload dX13_single_230 0 rfl ?_
  refine mj_iload dX13_single_232 4 rfl ?_
  refine t_bndK hk (fun r3 er3 hk => ?_)
  refine t_callVvE dX13_single_234 M_X13_hang (C_X13_hang _ _ _ _ er3) ML_X13_507 IM_X13_hang SE_X13_hang qc_950 rfl (As := [.int r1.1, .int l4]) rfl rfl (by omega) (Nat.le_of_ble_eq_true rfl) (Nat.le_of_ble_eq_true rfl) (Nat.le_of_ble_eq_true rfl) ?_
  refine mj_iload dX13_single_237 5 rfl ?_
  refine mj_if_eq 272 dX13_single_239 (by decide) (fun z => t_posK hk z (fun hk => ?_)) (fun z => t_negK hk z (fun hk => ?_))
  · refine mj_aload_n dX13_single_272 1 rfl ?_
    refine mj_iload dX13_single_273 0 rfl ?_
    refine mj_aload_n dX13_single_275 1 rfl ?_
    refine t_bndK hk (fun r4 er4 hk => ?_)
    refine t_callSiE dX13_single_276 M_X13_exp (H.2.1 _ _ er4) ML_X13_581 SM_X13_exp (As := [.ref 950]) rfl rfl (by omega) (Nat.le_of_ble_eq_true rfl) (Nat.le_of_ble_eq_true rfl) (Nat.le_of_ble_eq_true rfl) ?_
    refine t_bndK hk (fun r5 er5 hk => ?_)
    refine t_callVvE dX13_single_279 M_X13_hang (C_X13_hang _ _ _ _ er5) ML_X13_507 IM_X13_hang SE_X13_hang qc_950 rfl (As := [.int r1.1, .int r4.1]) rfl rfl (by omega) (Nat.le_of_ble_eq_true rfl) (Nat.le_of_ble_eq_true rfl) (Nat.le_of_ble_eq_true rfl) ?_
    refine mj_aload_n dX13_single_282 1 rfl ?_
    refine mj_bipush (v := 93) dX13_single_283 (by decide) ?_
    refine t_bndK hk (fun r6 er6 hk => ?_)
    refine t_callVvE dX13_single_285 M_X13_mustBe (C_X13_mustBe _ _ _ er6) ML_X13_528 IM_X13_mustBe SE_X13_mustBe qc_950 rfl (As := [.int 93]) rfl rfl (by omega) (Nat.le_of_ble_eq_true rfl) (Nat.le_of_ble_eq_true rfl) (Nat.le_of_ble_eq_true rfl) ?_
    refine mj_sublv [(0, .ref 950), (1, .int l1), (2, .int l2), (6, .int r1.1)] [1, 2, 3, 0] rfl ?_
    exact B_X13_single_288 rc H _ _ _ _ _ (fun y0 y1 y2 y3 hx => Hb173 y0 y1 y2 y3 hx) hk
  · refine mj_aload_n dX13_single_242 1 rfl ?_
    refine t_getR 1003 dX13_single_243 F_X13_171 qr_950_85 ?_
    refine mj_iload dX13_single_246 0 rfl ?_
    refine mj_aload_n dX13_single_248 1 rfl ?_
    refine t_getI dX13_single_249 F_X13_391 qf_950_6 ?_
    refine t_chkK hk (fun c6 hk => ?_)
    refine t_iastK dX13_single_252 qa_1003 (t_ixv c6) (fun s1 ws1 => t_letE hk ws1 (fun hk => ?_))
    refine mj_aload_n dX13_single_253 1 rfl ?_
    refine t_getR 957 dX13_single_254 F_X13_32 qr_950_19 ?_
    refine mj_iload dX13_single_257 0 rfl ?_
    refine mj_aload_n dX13_single_259 1 rfl ?_
    refine t_bndK hk (fun r8 er8 hk => ?_)
    refine t_callViE dX13_single_260 M_X13_freeName (C_X13_freeName _ _ er8) ML_X13_535 IM_X13_freeName SE_X13_freeName qc_950 rfl (As := []) rfl rfl (by omega) (Nat.le_of_ble_eq_true rfl) (Nat.le_of_ble_eq_true rfl) (Nat.le_of_ble_eq_true rfl) ?_
    refine mj_i2l (v := r8.1.toInt64) dX13_single_263 rfl ?_
    refine t_lastK dX13_single_264 qa_957 (t_ixv c6) (fun s2 ws2 => t_letE hk ws2 (fun hk => ?_))
    refine mj_aload_n dX13_single_265 1 rfl ?_
    refine t_bndK hk (fun r9 er9 hk => ?_)
    refine t_callVvE dX13_single_266 M_X13_next (C_X13_next _ _ er9) ML_X13_452 IM_X13_next SE_X13_next qc_950 rfl (As := []) rfl rfl (by omega) (Nat.le_of_ble_eq_true rfl) (Nat.le_of_ble_eq_true rfl) (Nat.le_of_ble_eq_true rfl) ?_
    refine mj_goto 288 dX13_single_269 (by decide) ?_
    refine mj_sublv [(0, .ref 950), (1, .int l1), (2, .int l2), (6, .int r1.1)] [1, 2, 3, 0] rfl ?_
    exact B_X13_single_288 rc H _ _ _ _ _ (fun y0 y1 y2 y3 hx => Hb173 y0 y1 y2 y3 hx) hk
noncomputable def k_X13_single_198 (rc : RT_X13_base) (l1 : Int32) (l2 : Int32) (l4 : Int32) (s : t_S) : Option ((Int32 × Int32 × Int32 × t_S) ⊕ (Int32 × t_S)) :=
 if (f_X13_is (46 : Int32) s) = (0 : Int32) then (k_X13_single_219 rc l1 l2 l4 (f_X13_is (46 : Int32) s) 69 s)
 else (k_X13_single_219 rc l1 l2 l4 (f_X13_is (46 : Int32) s) 68 s)
set_option maxRecDepth 4000 in
set_option maxHeartbeats 1000000 in
theorem B_X13_single_198 {D : va_G} {cy : Nat → ClassId} {ad : Nat → Nat} {bs : Nat} {X : State → Heap → Prop} (rc : RT_X13_base) {k : Nat} (H : RH_X13_base rc k) (l1 : Int32) (l2 : Int32) (l4 : Int32) (s : t_S) (Q : (Int32 × Int32 × Int32 × t_S) ⊕ (Int32 × t_S) → Prop) (Hb173 : ∀ (y0 : Int32) (y1 : Int32) (y2 : Int32) (y3 : t_S), Q (.inl (y0, y1, y2, y3)) → mj_G D cy ad bs X cX13_single 7 yX13_single.cls (some .int) yX13_single.name (8 + (k + 1)) 0 0 1065 (t_P (fun v s' => ∃ x, v = some (.int x) ∧ Q (.inr ((x, s'))))) 173 [(0, .ref 950), (1, .int (y0)), (2, .int (y1)), (4, .int (y2))] [] (t_m y3) 1065 0 0) (hk : t_hk (k_X13_single_198 rc l1 l2 l4 s) Q) : mj_G D cy ad bs X cX13_single 7 yX13_single.cls (some .int) yX13_single.name (8 + (k + 1)) 0 0 1065 (t_P (fun v s' => ∃ x, v = some (.int x) ∧ Q (.inr ((x, s'))))) 198 [(0, .ref 950), (1, .int l1), (2, .int l2), (4, .int l4)] [] (t_m s) 1065 0 0 := by
  refine mj_aload_n dX13_single_198 0 rfl ?_
  refine mj_bipush (v := 46) dX13_single_199 (by decide) ?_
  refine t_callViP dX13_single_201 M_X13_is (C_X13_is _ _) ML_X13_449 IM_X13_is SE_X13_is qc_950 rfl (As := [.int 46]) rfl rfl (by omega) (Nat.le_of_ble_eq_true rfl) (Nat.le_of_ble_eq_true rfl) (Nat.le_of_ble_eq_true rfl) ?_
  refine mj_istore (lv2 := [(5, .int (f_X13_is (46 : Int32) s)), (0, .ref 950), (1, .int l1), (2, .int l2), (4, .int l4)]) dX13_single_204 (by decide) rfl ?_
  refine mj_aload_n dX13_single_206 1 rfl ?_
  refine mj_iload dX13_single_207 0 rfl ?_
  refine mj_if_eq 217 dX13_single_209 (by decide) (fun z => t_posK hk z (fun hk => ?_)) (fun z => t_negK hk z (fun hk => ?_))
  · refine mj_bipush (v := 69) dX13_single_217 (by decide) ?_
    refine mj_sublv [(0, .ref 950), (1, .int l1), (2, .int l2), (4, .int l4), (5, .int (f_X13_is (46 : Int32) s))] [1, 2, 3, 4, 0] rfl ?_
    exact B_X13_single_219 rc H _ _ _ _ _ _ _ (fun y0 y1 y2 y3 hx => Hb173 y0 y1 y2 y3 hx) hk
  · refine mj_bipush (v := 68) dX13_single_212 (by decide) ?_
    refine mj_goto 219 dX13_single_214 (by decide) ?_
    refine mj_sublv [(0, .ref 950), (1, .int l1), (2, .int l2), (4, .int l4), (5, .int (f_X13_is (46 : Int32) s))] [1, 2, 3, 4, 0] rfl ?_
    exact B_X13_single_219 rc H _ _ _ _ _ _ _ (fun y0 y1 y2 y3 hx => Hb173 y0 y1 y2 y3 hx) hk
noncomputable def k_X13_single_307 (rc : RT_X13_base) (l1 : Int32) (l4 : Int32) (s : t_S) : Option (Int32 × t_S) :=
 if (0 : Int32) ≤ l1 then (some (l1, s))
 else (some (l4, s))
set_option maxRecDepth 4000 in
set_option maxHeartbeats 1000000 in
theorem B_X13_single_307 {D : va_G} {cy : Nat → ClassId} {ad : Nat → Nat} {bs : Nat} {X : State → Heap → Prop} (rc : RT_X13_base) {k : Nat} (H : RH_X13_base rc k) (l1 : Int32) (l4 : Int32) (s : t_S) (Q : Int32 × t_S → Prop) (hk : t_hk (k_X13_single_307 rc l1 l4 s) Q) : mj_G D cy ad bs X cX13_single 7 yX13_single.cls (some .int) yX13_single.name (8 + (k + 1)) 0 0 1065 (t_P (fun v s' => ∃ x, v = some (.int x) ∧ Q ((x, s')))) 307 [(1, .int l1), (4, .int l4)] [] (t_m s) 1065 0 0 := by
  refine mj_iload_n dX13_single_307 0 rfl ?_
  refine mj_if_ge 316 dX13_single_308 (by decide) (fun z => t_posK hk z (fun hk => ?_)) (fun z => t_negK hk z (fun hk => ?_))
  · refine mj_iload_n dX13_single_316 0 rfl ?_
    exact t_somK hk (fun hf => t_iret dX13_single_317 rfl rfl ⟨_, rfl, hf⟩ (Nat.le_of_ble_eq_true rfl) (Nat.le_of_ble_eq_true rfl))
  · refine mj_iload dX13_single_311 1 rfl ?_
    refine mj_goto 317 dX13_single_313 (by decide) ?_
    exact t_somK hk (fun hf => t_iret dX13_single_317 rfl rfl ⟨_, rfl, hf⟩ (Nat.le_of_ble_eq_true rfl) (Nat.le_of_ble_eq_true rfl))
noncomputable def k_X13_single_295 (rc : RT_X13_base) (l1 : Int32) (l2 : Int32) (l4 : Int32) (s : t_S) : Option (Int32 × t_S) :=
 if l2 < (0 : Int32) then (k_X13_single_307 rc l1 l4 s)
 else (if t_ix l2 13000 = true then
  t_let (t_setI s 959 (l2.toNatClampNeg) l4) (fun s1 =>
 k_X13_single_307 rc l1 l4 s1)
else none)
set_option maxRecDepth 4000 in
set_option maxHeartbeats 1000000 in
theorem B_X13_single_295 {D : va_G} {cy : Nat → ClassId} {ad : Nat → Nat} {bs : Nat} {X : State → Heap → Prop} (rc : RT_X13_base) {k : Nat} (H : RH_X13_base rc k) (l1 : Int32) (l2 : Int32) (l4 : Int32) (s : t_S) (Q : Int32 × t_S → Prop) (hk : t_hk (k_X13_single_295 rc l1 l2 l4 s) Q) : mj_G D cy ad bs X cX13_single 7 yX13_single.cls (some .int) yX13_single.name (8 + (k + 1)) 0 0 1065 (t_P (fun v s' => ∃ x, v = some (.int x) ∧ Q ((x, s')))) 295 [(0, .ref 950), (1, .int l1), (2, .int l2), (4, .int l4)] [] (t_m s) 1065 0 0 := by
  refine mj_iload_n dX13_single_295 2 rfl ?_
  refine mj_if_lt 307 dX13_single_296 (by decide) (fun z => t_posK hk z (fun hk => ?_)) (fun z => t_negK hk z (fun hk => ?_))
  · refine mj_sublv [(1, .int l1), (4, .int l4)] [1, 3] rfl ?_
    exact B_X13_single_307 rc H _ _ _ _ hk
  · refine mj_aload_n dX13_single_299 0 rfl ?_
    refine t_getR 959 dX13_single_300 F_X13_39 qr_950_21 ?_
    refine mj_iload_n dX13_single_303 2 rfl ?_
    refine mj_iload dX13_single_304 3 rfl ?_
    refine t_chkK hk (fun c0 hk => ?_)
    refine t_iastK dX13_single_306 qa_959 (t_ixv c0) (fun s1 ws1 => t_letE hk ws1 (fun hk => ?_))
    refine mj_sublv [(1, .int l1), (4, .int l4)] [1, 3] rfl ?_
    exact B_X13_single_307 rc H _ _ _ _ hk
noncomputable def k_X13_single_173 (rc : RT_X13_base) (l1 : Int32) (l2 : Int32) (l4 : Int32) (s : t_S) : Option ((Int32 × Int32 × Int32 × t_S) ⊕ (Int32 × t_S)) :=
 if (s.1 950 2) = (0 : Int32) then (if (f_X13_is (46 : Int32) s) = (0 : Int32) then (if (f_X13_is (91 : Int32) s) = (0 : Int32) then ((k_X13_single_295 rc l1 l2 l4 s).map Sum.inr)
 else (k_X13_single_198 rc l1 l2 l4 s))
 else (k_X13_single_198 rc l1 l2 l4 s))
 else ((k_X13_single_295 rc l1 l2 l4 s).map Sum.inr)
set_option maxRecDepth 4000 in
set_option maxHeartbeats 1000000 in
theorem B_X13_single_173 {D : va_G} {cy : Nat → ClassId} {ad : Nat → Nat} {bs : Nat} {X : State → Heap → Prop} (rc : RT_X13_base) {k : Nat} (H : RH_X13_base rc k) (l1 : Int32) (l2 : Int32) (l4 : Int32) (s : t_S) (Q : (Int32 × Int32 × Int32 × t_S) ⊕ (Int32 × t_S) → Prop) (Hb173 : ∀ (y0 : Int32) (y1 : Int32) (y2 : Int32) (y3 : t_S), Q (.inl (y0, y1, y2, y3)) → mj_G D cy ad bs X cX13_single 7 yX13_single.cls (some .int) yX13_single.name (8 + (k + 1)) 0 0 1065 (t_P (fun v s' => ∃ x, v = some (.int x) ∧ Q (.inr ((x, s'))))) 173 [(0, .ref 950), (1, .int (y0)), (2, .int (y1)), (4, .int (y2))] [] (t_m y3) 1065 0 0) (hk : t_hk (k_X13_single_173 rc l1 l2 l4 s) Q) : mj_G D cy ad bs X cX13_single 7 yX13_single.cls (some .int) yX13_single.name (8 + (k + 1)) 0 0 1065 (t_P (fun v s' => ∃ x, v = some (.int x) ∧ Q (.inr ((x, s'))))) 173 [(0, .ref 950), (1, .int l1), (2, .int l2), (4, .int l4)] [] (t_m s) 1065 0 0 := by
  refine mj_aload_n dX13_single_173 0 rfl ?_
  refine t_getI dX13_single_174 F_X13_375 qf_950_2 ?_
  refine mj_if_ne 295 dX13_single_177 (by decide) (fun z => t_negK hk z (fun hk => ?_)) (fun z => t_posK hk z (fun hk => ?_))
  · refine t_mapK hk (fun hk => ?_)
    exact B_X13_single_295 rc H _ _ _ _ _ hk
  · refine mj_aload_n dX13_single_180 0 rfl ?_
    refine mj_bipush (v := 46) dX13_single_181 (by decide) ?_
    refine t_callViP dX13_single_183 M_X13_is (C_X13_is _ _) ML_X13_449 IM_X13_is SE_X13_is qc_950 rfl (As := [.int 46]) rfl rfl (by omega) (Nat.le_of_ble_eq_true rfl) (Nat.le_of_ble_eq_true rfl) (Nat.le_of_ble_eq_true rfl) ?_
    refine mj_if_ne 198 dX13_single_186 (by decide) (fun z => t_negK hk z (fun hk => ?_)) (fun z => t_posK hk z (fun hk => ?_))
    · exact B_X13_single_198 rc H _ _ _ _ _ (fun y0 y1 y2 y3 hx => Hb173 y0 y1 y2 y3 hx) hk
    · refine mj_aload_n dX13_single_189 0 rfl ?_
      refine mj_bipush (v := 91) dX13_single_190 (by decide) ?_
      refine t_callViP dX13_single_192 M_X13_is (C_X13_is _ _) ML_X13_449 IM_X13_is SE_X13_is qc_950 rfl (As := [.int 91]) rfl rfl (by omega) (Nat.le_of_ble_eq_true rfl) (Nat.le_of_ble_eq_true rfl) (Nat.le_of_ble_eq_true rfl) ?_
      refine mj_if_eq 295 dX13_single_195 (by decide) (fun z => t_posK hk z (fun hk => ?_)) (fun z => t_negK hk z (fun hk => ?_))
      · refine t_mapK hk (fun hk => ?_)
        exact B_X13_single_295 rc H _ _ _ _ _ hk
      · exact B_X13_single_198 rc H _ _ _ _ _ (fun y0 y1 y2 y3 hx => Hb173 y0 y1 y2 y3 hx) hk
noncomputable def b_X13_single_173 (rc : RT_X13_base) (x : Int32 × Int32 × Int32 × t_S) : Option ((Int32 × Int32 × Int32 × t_S) ⊕ (Int32 × t_S)) := k_X13_single_173 rc x.1 x.2.1 x.2.2.1 x.2.2.2
set_option maxRecDepth 4000 in
set_option maxHeartbeats 1000000 in
theorem LH_X13_single_173 {D : va_G} {cy : Nat → ClassId} {ad : Nat → Nat} {bs : Nat} {X : State → Heap → Prop} (rc : RT_X13_base) {k : Nat} (H : RH_X13_base rc k) : ∀ (n : Nat) (y0 : Int32) (y1 : Int32) (y2 : Int32) (y3 : t_S) (Q : Int32 × t_S → Prop) (hk : t_hk (t_loop (b_X13_single_173 rc) n (y0, y1, y2, y3)) Q), mj_G D cy ad bs X cX13_single 7 yX13_single.cls (some .int) yX13_single.name (8 + (k + 1)) 0 0 1065 (t_P (fun v s' => ∃ x, v = some (.int x) ∧ Q ((x, s')))) 173 [(0, .ref 950), (1, .int (y0)), (2, .int (y1)), (4, .int (y2))] [] (t_m y3) 1065 0 0 := by
  intro n
  induction n with
  | zero => intro y0 y1 y2 y3 Q hk; obtain ⟨r, hr, _⟩ := hk; cases hr
  | succ n ih =>
    intro y0 y1 y2 y3 Q hk
    exact B_X13_single_173 rc H y0 y1 y2 y3 (fun y => t_lq (b_X13_single_173 rc) n Q y) (fun y0' y1' y2' y3' hy => ih y0' y1' y2' y3' Q hy) (t_lp (b := b_X13_single_173 rc) (n := n) (x := (y0, y1, y2, y3)) hk)
noncomputable def k_X13_single_167 (rc : RT_X13_base) (l1 : Int32) (l2 : Int32) (s : t_S) : Option (Int32 × t_S) :=
 (rc.1 s).bind (fun r1 =>
 t_loop (b_X13_single_173 rc) t_N (l1, l2, r1.1, r1.2))
set_option maxRecDepth 4000 in
set_option maxHeartbeats 1000000 in
theorem B_X13_single_167 {D : va_G} {cy : Nat → ClassId} {ad : Nat → Nat} {bs : Nat} {X : State → Heap → Prop} (rc : RT_X13_base) {k : Nat} (H : RH_X13_base rc k) (l1 : Int32) (l2 : Int32) (s : t_S) (Q : Int32 × t_S → Prop) (hk : t_hk (k_X13_single_167 rc l1 l2 s) Q) : mj_G D cy ad bs X cX13_single 7 yX13_single.cls (some .int) yX13_single.name (8 + (k + 1)) 0 0 1065 (t_P (fun v s' => ∃ x, v = some (.int x) ∧ Q ((x, s')))) 167 [(0, .ref 950), (1, .int l1), (2, .int l2)] [] (t_m s) 1065 0 0 := by
  refine mj_aload_n dX13_single_167 0 rfl ?_
  refine t_bndK hk (fun r1 er1 hk => ?_)
  refine t_callSiE dX13_single_168 M_X13_base (H.1 _ _ er1) ML_X13_607 SM_X13_base (As := [.ref 950]) rfl rfl (by omega) (Nat.le_of_ble_eq_true rfl) (Nat.le_of_ble_eq_true rfl) (Nat.le_of_ble_eq_true rfl) ?_
  refine mj_istore (lv2 := [(4, .int r1.1), (0, .ref 950), (1, .int l1), (2, .int l2)]) dX13_single_171 (by decide) rfl ?_
  refine mj_sublv [(0, .ref 950), (1, .int l1), (2, .int l2), (4, .int r1.1)] [1, 2, 3, 0] rfl ?_
  exact LH_X13_single_173 rc H _ l1 l2 r1.1 r1.2 _ hk
noncomputable def k_X13_single_6 (rc : RT_X13_base) (l1 : Int32) (l2 : Int32) (l3 : Int32) (s : t_S) : Option ((Int32 × Int32 × Int32 × t_S) ⊕ (Int32 × t_S)) :=
 if l3 = (0 : Int32) then ((k_X13_single_167 rc l1 l2 s).map Sum.inr)
 else (if (s.1 950 2) = (0 : Int32) then (if (f_X13_is (45 : Int32) s) = (0 : Int32) then (if (f_X13_is (33 : Int32) s) = (0 : Int32) then (if (f_X13_isWord (30 : Int32) s) = (0 : Int32) then (if (f_X13_is (64 : Int32) s) = (0 : Int32) then (k_X13_single_74 rc l1 l2 0 s)
 else (k_X13_single_74 rc l1 l2 67 s))
 else (k_X13_single_74 rc l1 l2 66 s))
 else (k_X13_single_74 rc l1 l2 65 s))
 else (k_X13_single_74 rc l1 l2 64 s))
 else ((k_X13_single_167 rc l1 l2 s).map Sum.inr))
set_option maxRecDepth 4000 in
set_option maxHeartbeats 1000000 in
theorem B_X13_single_6 {D : va_G} {cy : Nat → ClassId} {ad : Nat → Nat} {bs : Nat} {X : State → Heap → Prop} (rc : RT_X13_base) {k : Nat} (H : RH_X13_base rc k) (l1 : Int32) (l2 : Int32) (l3 : Int32) (s : t_S) (Q : (Int32 × Int32 × Int32 × t_S) ⊕ (Int32 × t_S) → Prop) (Hb6 : ∀ (y0 : Int32) (y1 : Int32) (y2 : Int32) (y3 : t_S), Q (.inl (y0, y1, y2, y3)) → mj_G D cy ad bs X cX13_single 7 yX13_single.cls (some .int) yX13_single.name (8 + (k + 1)) 0 0 1065 (t_P (fun v s' => ∃ x, v = some (.int x) ∧ Q (.inr ((x, s'))))) 6 [(0, .ref 950), (1, .int (y0)), (2, .int (y1)), (3, .int (y2))] [] (t_m y3) 1065 0 0) (hk : t_hk (k_X13_single_6 rc l1 l2 l3 s) Q) : mj_G D cy ad bs X cX13_single 7 yX13_single.cls (some .int) yX13_single.name (8 + (k + 1)) 0 0 1065 (t_P (fun v s' => ∃ x, v = some (.int x) ∧ Q (.inr ((x, s'))))) 6 [(0, .ref 950), (1, .int l1), (2, .int l2), (3, .int l3)] [] (t_m s) 1065 0 0 := by
  refine mj_iload_n dX13_single_6 3 rfl ?_
  refine mj_if_eq 167 dX13_single_7 (by decide) (fun z => t_posK hk z (fun hk => ?_)) (fun z => t_negK hk z (fun hk => ?_))
  · refine mj_sublv [(0, .ref 950), (1, .int l1), (2, .int l2)] [0, 1, 2] rfl ?_
    refine t_mapK hk (fun hk => ?_)
    exact B_X13_single_167 rc H _ _ _ _ hk
  · refine mj_aload_n dX13_single_10 0 rfl ?_
    refine t_getI dX13_single_11 F_X13_375 qf_950_2 ?_
    refine mj_if_ne 167 dX13_single_14 (by decide) (fun z => t_negK hk z (fun hk => ?_)) (fun z => t_posK hk z (fun hk => ?_))
    · refine mj_sublv [(0, .ref 950), (1, .int l1), (2, .int l2)] [0, 1, 2] rfl ?_
      refine t_mapK hk (fun hk => ?_)
      exact B_X13_single_167 rc H _ _ _ _ hk
    · refine mj_aload_n dX13_single_17 0 rfl ?_
      refine mj_bipush (v := 45) dX13_single_18 (by decide) ?_
      refine t_callViP dX13_single_20 M_X13_is (C_X13_is _ _) ML_X13_449 IM_X13_is SE_X13_is qc_950 rfl (As := [.int 45]) rfl rfl (by omega) (Nat.le_of_ble_eq_true rfl) (Nat.le_of_ble_eq_true rfl) (Nat.le_of_ble_eq_true rfl) ?_
      refine mj_if_eq 31 dX13_single_23 (by decide) (fun z => t_posK hk z (fun hk => ?_)) (fun z => t_negK hk z (fun hk => ?_))
      · refine mj_aload_n dX13_single_31 0 rfl ?_
        refine mj_bipush (v := 33) dX13_single_32 (by decide) ?_
        refine t_callViP dX13_single_34 M_X13_is (C_X13_is _ _) ML_X13_449 IM_X13_is SE_X13_is qc_950 rfl (As := [.int 33]) rfl rfl (by omega) (Nat.le_of_ble_eq_true rfl) (Nat.le_of_ble_eq_true rfl) (Nat.le_of_ble_eq_true rfl) ?_
        refine mj_if_eq 45 dX13_single_37 (by decide) (fun z => t_posK hk z (fun hk => ?_)) (fun z => t_negK hk z (fun hk => ?_))
        · refine mj_aload_n dX13_single_45 0 rfl ?_
          refine mj_bipush (v := 30) dX13_single_46 (by decide) ?_
          refine t_callViP dX13_single_48 M_X13_isWord (C_X13_isWord _ _) ML_X13_455 IM_X13_isWord SE_X13_isWord qc_950 rfl (As := [.int 30]) rfl rfl (by omega) (Nat.le_of_ble_eq_true rfl) (Nat.le_of_ble_eq_true rfl) (Nat.le_of_ble_eq_true rfl) ?_
          refine mj_if_eq 59 dX13_single_51 (by decide) (fun z => t_posK hk z (fun hk => ?_)) (fun z => t_negK hk z (fun hk => ?_))
          · refine mj_aload_n dX13_single_59 0 rfl ?_
            refine mj_bipush (v := 64) dX13_single_60 (by decide) ?_
            refine t_callViP dX13_single_62 M_X13_is (C_X13_is _ _) ML_X13_449 IM_X13_is SE_X13_is qc_950 rfl (As := [.int 64]) rfl rfl (by omega) (Nat.le_of_ble_eq_true rfl) (Nat.le_of_ble_eq_true rfl) (Nat.le_of_ble_eq_true rfl) ?_
            refine mj_if_eq 73 dX13_single_65 (by decide) (fun z => t_posK hk z (fun hk => ?_)) (fun z => t_negK hk z (fun hk => ?_))
            · refine mj_iconst (v := 0) dX13_single_73 (by decide) ?_
              refine mj_sublv [(0, .ref 950), (1, .int l1), (2, .int l2)] [0, 1, 2] rfl ?_
              exact B_X13_single_74 rc H _ _ _ _ _ (fun y0 y1 y2 y3 hx => Hb6 y0 y1 y2 y3 hx) hk
            · refine mj_bipush (v := 67) dX13_single_68 (by decide) ?_
              refine mj_goto 74 dX13_single_70 (by decide) ?_
              refine mj_sublv [(0, .ref 950), (1, .int l1), (2, .int l2)] [0, 1, 2] rfl ?_
              exact B_X13_single_74 rc H _ _ _ _ _ (fun y0 y1 y2 y3 hx => Hb6 y0 y1 y2 y3 hx) hk
          · refine mj_bipush (v := 66) dX13_single_54 (by decide) ?_
            refine mj_goto 74 dX13_single_56 (by decide) ?_
            refine mj_sublv [(0, .ref 950), (1, .int l1), (2, .int l2)] [0, 1, 2] rfl ?_
            exact B_X13_single_74 rc H _ _ _ _ _ (fun y0 y1 y2 y3 hx => Hb6 y0 y1 y2 y3 hx) hk
        · refine mj_bipush (v := 65) dX13_single_40 (by decide) ?_
          refine mj_goto 74 dX13_single_42 (by decide) ?_
          refine mj_sublv [(0, .ref 950), (1, .int l1), (2, .int l2)] [0, 1, 2] rfl ?_
          exact B_X13_single_74 rc H _ _ _ _ _ (fun y0 y1 y2 y3 hx => Hb6 y0 y1 y2 y3 hx) hk
      · refine mj_bipush (v := 64) dX13_single_26 (by decide) ?_
        refine mj_goto 74 dX13_single_28 (by decide) ?_
        refine mj_sublv [(0, .ref 950), (1, .int l1), (2, .int l2)] [0, 1, 2] rfl ?_
        exact B_X13_single_74 rc H _ _ _ _ _ (fun y0 y1 y2 y3 hx => Hb6 y0 y1 y2 y3 hx) hk
noncomputable def b_X13_single_6 (rc : RT_X13_base) (x : Int32 × Int32 × Int32 × t_S) : Option ((Int32 × Int32 × Int32 × t_S) ⊕ (Int32 × t_S)) := k_X13_single_6 rc x.1 x.2.1 x.2.2.1 x.2.2.2
set_option maxRecDepth 4000 in
set_option maxHeartbeats 1000000 in
theorem LH_X13_single_6 {D : va_G} {cy : Nat → ClassId} {ad : Nat → Nat} {bs : Nat} {X : State → Heap → Prop} (rc : RT_X13_base) {k : Nat} (H : RH_X13_base rc k) : ∀ (n : Nat) (y0 : Int32) (y1 : Int32) (y2 : Int32) (y3 : t_S) (Q : Int32 × t_S → Prop) (hk : t_hk (t_loop (b_X13_single_6 rc) n (y0, y1, y2, y3)) Q), mj_G D cy ad bs X cX13_single 7 yX13_single.cls (some .int) yX13_single.name (8 + (k + 1)) 0 0 1065 (t_P (fun v s' => ∃ x, v = some (.int x) ∧ Q ((x, s')))) 6 [(0, .ref 950), (1, .int (y0)), (2, .int (y1)), (3, .int (y2))] [] (t_m y3) 1065 0 0 := by
  intro n
  induction n with
  | zero => intro y0 y1 y2 y3 Q hk; obtain ⟨r, hr, _⟩ := hk; cases hr
  | succ n ih =>
    intro y0 y1 y2 y3 Q hk
    exact B_X13_single_6 rc H y0 y1 y2 y3 (fun y => t_lq (b_X13_single_6 rc) n Q y) (fun y0' y1' y2' y3' hy => ih y0' y1' y2' y3' Q hy) (t_lp (b := b_X13_single_6 rc) (n := n) (x := (y0, y1, y2, y3)) hk)
noncomputable def m_X13_single (rc : RT_X13_base) (s : t_S) : Option (Int32 × t_S) :=
 t_loop (b_X13_single_6 rc) t_N ((-1), (-1), 1, s)
set_option maxRecDepth 4000 in
set_option maxHeartbeats 1000000 in
theorem E_X13_single (rc : RT_X13_base) {k : Nat} (H : RH_X13_base rc k) (s : t_S) (r : Int32 × t_S) (hr : m_X13_single rc s = some r) : t_C yX13_single cX13_single 7 (some .int) (8 + (k + 1)) [.ref 950] s (fun v s' => v = some (.int r.1) ∧ s' = r.2) := by
  refine t_C.imp (P := fun v s' => ∃ x, v = some (.int x) ∧ (fun q => q = r) ((x, s'))) (t_C.of (by decide +kernel) (Nat.le_of_ble_eq_true rfl) ?_) (fun v s' hp => by obtain ⟨x, rfl, rfl⟩ := hp; exact ⟨rfl, rfl⟩)
  intro D cy ad bs X
  have hk : t_hk (m_X13_single rc s) (fun q => q = r) := ⟨r, hr, rfl⟩
  show mj_G D cy ad bs X cX13_single 7 yX13_single.cls (some .int) yX13_single.name (8 + (k + 1)) 0 0 1065 (t_P (fun v s' => ∃ x, v = some (.int x) ∧ (fun q => q = r) ((x, s')))) 0 [(0, .ref 950)] [] (t_m s) 1065 0 0
  refine mj_iconst (v := (-1)) dX13_single_0 (by decide) ?_
  refine mj_istore_n 1 (lv2 := [(1, .int (-1)), (0, .ref 950)]) dX13_single_1 rfl (by decide) rfl ?_
  refine mj_iconst (v := (-1)) dX13_single_2 (by decide) ?_
  refine mj_istore_n 2 (lv2 := [(2, .int (-1)), (1, .int (-1)), (0, .ref 950)]) dX13_single_3 rfl (by decide) rfl ?_
  refine mj_iconst (v := 1) dX13_single_4 (by decide) ?_
  refine mj_istore_n 3 (lv2 := [(3, .int 1), (2, .int (-1)), (1, .int (-1)), (0, .ref 950)]) dX13_single_5 rfl (by decide) rfl ?_
  refine mj_sublv [(0, .ref 950), (1, .int (-1)), (2, .int (-1)), (3, .int 1)] [3, 2, 1, 0] rfl ?_
  exact LH_X13_single_6 rc H _ (-1) (-1) 1 s _ hk
noncomputable def k_X13_templ_38 (rc : RT_X13_base) (k0 : Int32) (s : t_S) : Option (Int32 × t_S) :=
 (f_X13_fail k0 (s.1 950 6) s).bind (fun r1 =>
 some ((0 : Int32), r1))
set_option maxRecDepth 4000 in
set_option maxHeartbeats 1000000 in
theorem B_X13_templ_38 {D : va_G} {cy : Nat → ClassId} {ad : Nat → Nat} {bs : Nat} {X : State → Heap → Prop} (rc : RT_X13_base) {k : Nat} (H : RH_X13_base rc k) (k0 : Int32) (s : t_S) (Q : Int32 × t_S → Prop) (hk : t_hk (k_X13_templ_38 rc k0 s) Q) : mj_G D cy ad bs X cX13_templ 3 yX13_templ.cls (some .int) yX13_templ.name (8 + (k + 1)) 0 0 1065 (t_P (fun v s' => ∃ x, v = some (.int x) ∧ Q ((x, s')))) 38 [(0, .ref 950)] [.int k0, .ref 950] (t_m s) 1065 0 0 := by
  refine mj_aload_n dX13_templ_38 0 rfl ?_
  refine t_getI dX13_templ_39 F_X13_391 qf_950_6 ?_
  refine t_bndK hk (fun r1 er1 hk => ?_)
  refine t_callVvE dX13_templ_42 M_X13_fail (C_X13_fail _ _ _ _ er1) ML_X13_411 IM_X13_fail SE_X13_fail qc_950 rfl (As := [.int k0, .int (s.1 950 6)]) rfl rfl (by omega) (Nat.le_of_ble_eq_true rfl) (Nat.le_of_ble_eq_true rfl) (Nat.le_of_ble_eq_true rfl) ?_
  refine mj_iconst (v := 0) dX13_templ_45 (by decide) ?_
  exact t_somK hk (fun hf => t_iret dX13_templ_46 rfl rfl ⟨_, rfl, hf⟩ (Nat.le_of_ble_eq_true rfl) (Nat.le_of_ble_eq_true rfl))
noncomputable def k_X13_templ_25 (rc : RT_X13_base) (s : t_S) : Option (Int32 × t_S) :=
 if (f_X13_beginsTempl s) = (0 : Int32) then (k_X13_templ_38 rc 2 s)
 else (k_X13_templ_38 rc 5 s)
set_option maxRecDepth 4000 in
set_option maxHeartbeats 1000000 in
theorem B_X13_templ_25 {D : va_G} {cy : Nat → ClassId} {ad : Nat → Nat} {bs : Nat} {X : State → Heap → Prop} (rc : RT_X13_base) {k : Nat} (H : RH_X13_base rc k) (s : t_S) (Q : Int32 × t_S → Prop) (hk : t_hk (k_X13_templ_25 rc s) Q) : mj_G D cy ad bs X cX13_templ 3 yX13_templ.cls (some .int) yX13_templ.name (8 + (k + 1)) 0 0 1065 (t_P (fun v s' => ∃ x, v = some (.int x) ∧ Q ((x, s')))) 25 [(0, .ref 950)] [] (t_m s) 1065 0 0 := by
  refine mj_aload_n dX13_templ_25 0 rfl ?_
  refine mj_aload_n dX13_templ_26 0 rfl ?_
  refine t_callViP dX13_templ_27 M_X13_beginsTempl (C_X13_beginsTempl _) ML_X13_555 IM_X13_beginsTempl SE_X13_beginsTempl qc_950 rfl (As := []) rfl rfl (by omega) (Nat.le_of_ble_eq_true rfl) (Nat.le_of_ble_eq_true rfl) (Nat.le_of_ble_eq_true rfl) ?_
  refine mj_if_eq 37 dX13_templ_30 (by decide) (fun z => t_posK hk z (fun hk => ?_)) (fun z => t_negK hk z (fun hk => ?_))
  · refine mj_iconst (v := 2) dX13_templ_37 (by decide) ?_
    exact B_X13_templ_38 rc H _ _ _ hk
  · refine mj_iconst (v := 5) dX13_templ_33 (by decide) ?_
    refine mj_goto 38 dX13_templ_34 (by decide) ?_
    exact B_X13_templ_38 rc H _ _ _ hk
noncomputable def k_X13_templ_149 (rc : RT_X13_base) (l1 : Int32) (s : t_S) : Option (Int32 × t_S) :=
 t_let (t_setI s 950 32 ((s.1 950 32) - (1 : Int32))) (fun s1 =>
 some (l1, s1))
set_option maxRecDepth 4000 in
set_option maxHeartbeats 1000000 in
theorem B_X13_templ_149 {D : va_G} {cy : Nat → ClassId} {ad : Nat → Nat} {bs : Nat} {X : State → Heap → Prop} (rc : RT_X13_base) {k : Nat} (H : RH_X13_base rc k) (l1 : Int32) (s : t_S) (Q : Int32 × t_S → Prop) (hk : t_hk (k_X13_templ_149 rc l1 s) Q) : mj_G D cy ad bs X cX13_templ 3 yX13_templ.cls (some .int) yX13_templ.name (8 + (k + 1)) 0 0 1065 (t_P (fun v s' => ∃ x, v = some (.int x) ∧ Q ((x, s')))) 149 [(0, .ref 950), (1, .int l1)] [] (t_m s) 1065 0 0 := by
  refine mj_aload_n dX13_templ_149 0 rfl ?_
  refine mj_dup dX13_templ_150 rfl ?_
  refine t_getI dX13_templ_151 F_X13_552 qf_950_32 ?_
  refine mj_iconst (v := 1) dX13_templ_154 (by decide) ?_
  refine mj_isub dX13_templ_155 ?_
  refine t_putIK dX13_templ_156 F_X13_552 qf_950_32 rfl (fun s1 ws1 => t_letE hk ws1 (fun hk => ?_))
  refine mj_iload_n dX13_templ_159 1 rfl ?_
  exact t_somK hk (fun hf => t_iret dX13_templ_160 rfl rfl ⟨_, rfl, hf⟩ (Nat.le_of_ble_eq_true rfl) (Nat.le_of_ble_eq_true rfl))
noncomputable def k_X13_templ_129 (rc : RT_X13_base) (l1 : Int32) (s : t_S) : Option (Int32 × t_S) :=
 if (f_X13_isWord (20 : Int32) s) = (0 : Int32) then (k_X13_templ_149 rc l1 s)
 else ((f_X13_next s).bind (fun r2 =>
 if t_ix l1 13000 = true then
  t_let (t_setI r2 961 (l1.toNatClampNeg) (1 : Int32)) (fun s1 =>
 k_X13_templ_149 rc l1 s1)
else none))
set_option maxRecDepth 4000 in
set_option maxHeartbeats 1000000 in
theorem B_X13_templ_129 {D : va_G} {cy : Nat → ClassId} {ad : Nat → Nat} {bs : Nat} {X : State → Heap → Prop} (rc : RT_X13_base) {k : Nat} (H : RH_X13_base rc k) (l1 : Int32) (s : t_S) (Q : Int32 × t_S → Prop) (hk : t_hk (k_X13_templ_129 rc l1 s) Q) : mj_G D cy ad bs X cX13_templ 3 yX13_templ.cls (some .int) yX13_templ.name (8 + (k + 1)) 0 0 1065 (t_P (fun v s' => ∃ x, v = some (.int x) ∧ Q ((x, s')))) 129 [(0, .ref 950), (1, .int l1)] [] (t_m s) 1065 0 0 := by
  refine mj_aload_n dX13_templ_129 0 rfl ?_
  refine mj_bipush (v := 20) dX13_templ_130 (by decide) ?_
  refine t_callViP dX13_templ_132 M_X13_isWord (C_X13_isWord _ _) ML_X13_455 IM_X13_isWord SE_X13_isWord qc_950 rfl (As := [.int 20]) rfl rfl (by omega) (Nat.le_of_ble_eq_true rfl) (Nat.le_of_ble_eq_true rfl) (Nat.le_of_ble_eq_true rfl) ?_
  refine mj_if_eq 149 dX13_templ_135 (by decide) (fun z => t_posK hk z (fun hk => ?_)) (fun z => t_negK hk z (fun hk => ?_))
  · exact B_X13_templ_149 rc H _ _ _ hk
  · refine mj_aload_n dX13_templ_138 0 rfl ?_
    refine t_bndK hk (fun r2 er2 hk => ?_)
    refine t_callVvE dX13_templ_139 M_X13_next (C_X13_next _ _ er2) ML_X13_452 IM_X13_next SE_X13_next qc_950 rfl (As := []) rfl rfl (by omega) (Nat.le_of_ble_eq_true rfl) (Nat.le_of_ble_eq_true rfl) (Nat.le_of_ble_eq_true rfl) ?_
    refine mj_aload_n dX13_templ_142 0 rfl ?_
    refine t_getR 961 dX13_templ_143 F_X13_45 qr_950_23 ?_
    refine mj_iload_n dX13_templ_146 1 rfl ?_
    refine mj_iconst (v := 1) dX13_templ_147 (by decide) ?_
    refine t_chkK hk (fun c2 hk => ?_)
    refine t_iastK dX13_templ_148 qa_961 (t_ixv c2) (fun s1 ws1 => t_letE hk ws1 (fun hk => ?_))
    exact B_X13_templ_149 rc H _ _ _ hk
noncomputable def k_X13_templ_101 (rc : RT_X13_base) (l1 : Int32) (l2 : Int32) (s : t_S) : Option (Int32 × t_S) :=
 (f_X13_span l2 (40 : Int32) s).bind (fun r1 =>
 if t_ix l2 13000 = true then
  t_let (t_setI r1 959 (l2.toNatClampNeg) l1) (fun s1 =>
 if t_ix l1 13000 = true then
  t_let (t_setI s1 956 (l2.toNatClampNeg) (s1.1 956 (l1.toNatClampNeg))) (fun s2 =>
 k_X13_templ_129 rc l2 s2)
else none)
else none)
set_option maxRecDepth 4000 in
set_option maxHeartbeats 1000000 in
theorem B_X13_templ_101 {D : va_G} {cy : Nat → ClassId} {ad : Nat → Nat} {bs : Nat} {X : State → Heap → Prop} (rc : RT_X13_base) {k : Nat} (H : RH_X13_base rc k) (l1 : Int32) (l2 : Int32) (s : t_S) (Q : Int32 × t_S → Prop) (hk : t_hk (k_X13_templ_101 rc l1 l2 s) Q) : mj_G D cy ad bs X cX13_templ 3 yX13_templ.cls (some .int) yX13_templ.name (8 + (k + 1)) 0 0 1065 (t_P (fun v s' => ∃ x, v = some (.int x) ∧ Q ((x, s')))) 101 [(0, .ref 950), (1, .int l1), (2, .int l2)] [] (t_m s) 1065 0 0 := by
  refine mj_aload_n dX13_templ_101 0 rfl ?_
  refine mj_iload_n dX13_templ_102 2 rfl ?_
  refine mj_bipush (v := 40) dX13_templ_103 (by decide) ?_
  refine t_bndK hk (fun r1 er1 hk => ?_)
  refine t_callVvE dX13_templ_105 M_X13_span (C_X13_span _ _ _ _ er1) ML_X13_497 IM_X13_span SE_X13_span qc_950 rfl (As := [.int l2, .int 40]) rfl rfl (by omega) (Nat.le_of_ble_eq_true rfl) (Nat.le_of_ble_eq_true rfl) (Nat.le_of_ble_eq_true rfl) ?_
  refine mj_aload_n dX13_templ_108 0 rfl ?_
  refine t_getR 959 dX13_templ_109 F_X13_39 qr_950_21 ?_
  refine mj_iload_n dX13_templ_112 2 rfl ?_
  refine mj_iload_n dX13_templ_113 1 rfl ?_
  refine t_chkK hk (fun c1 hk => ?_)
  refine t_iastK dX13_templ_114 qa_959 (t_ixv c1) (fun s1 ws1 => t_letE hk ws1 (fun hk => ?_))
  refine mj_aload_n dX13_templ_115 0 rfl ?_
  refine t_getR 956 dX13_templ_116 F_X13_29 qr_950_18 ?_
  refine mj_iload_n dX13_templ_119 2 rfl ?_
  refine mj_aload_n dX13_templ_120 0 rfl ?_
  refine t_getR 956 dX13_templ_121 F_X13_29 qr_950_18 ?_
  refine mj_iload_n dX13_templ_124 1 rfl ?_
  refine t_chkK hk (fun c2 hk => ?_)
  refine t_iald dX13_templ_125 qa_956 (t_ixv c2) ?_
  refine t_iastK dX13_templ_126 qa_956 (t_ixv c1) (fun s2 ws2 => t_letE hk ws2 (fun hk => ?_))
  refine mj_iload_n dX13_templ_127 2 rfl ?_
  refine mj_istore_n 1 (lv2 := [(1, .int l2), (0, .ref 950), (2, .int l2)]) dX13_templ_128 rfl (by decide) rfl ?_
  refine mj_sublv [(0, .ref 950), (1, .int l2)] [1, 0] rfl ?_
  exact B_X13_templ_129 rc H _ _ _ hk
noncomputable def m_X13_templ (rc : RT_X13_base) (s : t_S) : Option (Int32 × t_S) :=
 if (s.1 950 2) = (0 : Int32) then (if (16 : Int32) < (s.1 950 32) then (k_X13_templ_25 rc s)
 else (if (f_X13_beginsTempl s) = (0 : Int32) then (k_X13_templ_25 rc s)
 else (t_let (t_setI s 950 32 ((s.1 950 32) + (1 : Int32))) (fun s1 =>
 (rc.2.2.2.2.2.2.2.2.2.1 s1).bind (fun r2 =>
 if (f_X13_isWord (19 : Int32) r2.2) = (0 : Int32) then (k_X13_templ_129 rc r2.1 r2.2)
 else ((f_X13_next r2.2).bind (fun r4 =>
 (f_X13_node (41 : Int32) (0 : Int32) r4).bind (fun r5 =>
 if (f_X13_is (40 : Int32) r5.2) = (0 : Int32) then ((f_X13_fail (2 : Int32) (r5.2.1 950 6) r5.2).bind (fun r7 =>
 k_X13_templ_101 rc r2.1 r5.1 r7))
 else (k_X13_templ_101 rc r2.1 r5.1 r5.2)))))))))
 else (some ((0 : Int32), s))
set_option maxRecDepth 4000 in
set_option maxHeartbeats 1000000 in
theorem E_X13_templ (rc : RT_X13_base) {k : Nat} (H : RH_X13_base rc k) (s : t_S) (r : Int32 × t_S) (hr : m_X13_templ rc s = some r) : t_C yX13_templ cX13_templ 3 (some .int) (8 + (k + 1)) [.ref 950] s (fun v s' => v = some (.int r.1) ∧ s' = r.2) := by
  refine t_C.imp (P := fun v s' => ∃ x, v = some (.int x) ∧ (fun q => q = r) ((x, s'))) (t_C.of (by decide +kernel) (Nat.le_of_ble_eq_true rfl) ?_) (fun v s' hp => by obtain ⟨x, rfl, rfl⟩ := hp; exact ⟨rfl, rfl⟩)
  intro D cy ad bs X
  have hk : t_hk (m_X13_templ rc s) (fun q => q = r) := ⟨r, hr, rfl⟩
  show mj_G D cy ad bs X cX13_templ 3 yX13_templ.cls (some .int) yX13_templ.name (8 + (k + 1)) 0 0 1065 (t_P (fun v s' => ∃ x, v = some (.int x) ∧ (fun q => q = r) ((x, s')))) 0 [(0, .ref 950)] [] (t_m s) 1065 0 0
  refine mj_aload_n dX13_templ_0 0 rfl ?_
  refine t_getI dX13_templ_1 F_X13_375 qf_950_2 ?_
  refine mj_if_eq 9 dX13_templ_4 (by decide) (fun z => t_posK hk z (fun hk => ?_)) (fun z => t_negK hk z (fun hk => ?_))
  · refine mj_aload_n dX13_templ_9 0 rfl ?_
    refine t_getI dX13_templ_10 F_X13_552 qf_950_32 ?_
    refine mj_bipush (v := 16) dX13_templ_13 (by decide) ?_
    refine mj_icmp_gt 25 dX13_templ_15 (by decide) (fun z => t_posK hk z (fun hk => ?_)) (fun z => t_negK hk z (fun hk => ?_))
    · exact B_X13_templ_25 rc H _ _ hk
    · refine mj_aload_n dX13_templ_18 0 rfl ?_
      refine t_callViP dX13_templ_19 M_X13_beginsTempl (C_X13_beginsTempl _) ML_X13_555 IM_X13_beginsTempl SE_X13_beginsTempl qc_950 rfl (As := []) rfl rfl (by omega) (Nat.le_of_ble_eq_true rfl) (Nat.le_of_ble_eq_true rfl) (Nat.le_of_ble_eq_true rfl) ?_
      refine mj_if_ne 47 dX13_templ_22 (by decide) (fun z => t_negK hk z (fun hk => ?_)) (fun z => t_posK hk z (fun hk => ?_))
      · refine mj_aload_n dX13_templ_47 0 rfl ?_
        refine mj_dup dX13_templ_48 rfl ?_
        refine t_getI dX13_templ_49 F_X13_552 qf_950_32 ?_
        refine mj_iconst (v := 1) dX13_templ_52 (by decide) ?_
        refine mj_iadd dX13_templ_53 ?_
        refine t_putIK dX13_templ_54 F_X13_552 qf_950_32 rfl (fun s1 ws1 => t_letE hk ws1 (fun hk => ?_))
        refine mj_aload_n dX13_templ_57 0 rfl ?_
        refine t_bndK hk (fun r2 er2 hk => ?_)
        refine t_callSiE dX13_templ_58 M_X13_tone (H.2.2.2.2.2.2.2.2.2.1 _ _ er2) ML_X13_559 SM_X13_tone (As := [.ref 950]) rfl rfl (by omega) (Nat.le_of_ble_eq_true rfl) (Nat.le_of_ble_eq_true rfl) (Nat.le_of_ble_eq_true rfl) ?_
        refine mj_istore_n 1 (lv2 := [(1, .int r2.1), (0, .ref 950)]) dX13_templ_61 rfl (by decide) rfl ?_
        refine mj_aload_n dX13_templ_62 1 rfl ?_
        refine mj_bipush (v := 19) dX13_templ_63 (by decide) ?_
        refine t_callViP dX13_templ_65 M_X13_isWord (C_X13_isWord _ _) ML_X13_455 IM_X13_isWord SE_X13_isWord qc_950 rfl (As := [.int 19]) rfl rfl (by omega) (Nat.le_of_ble_eq_true rfl) (Nat.le_of_ble_eq_true rfl) (Nat.le_of_ble_eq_true rfl) ?_
        refine mj_if_eq 129 dX13_templ_68 (by decide) (fun z => t_posK hk z (fun hk => ?_)) (fun z => t_negK hk z (fun hk => ?_))
        · refine mj_sublv [(0, .ref 950), (1, .int r2.1)] [1, 0] rfl ?_
          exact B_X13_templ_129 rc H _ _ _ hk
        · refine mj_aload_n dX13_templ_71 1 rfl ?_
          refine t_bndK hk (fun r4 er4 hk => ?_)
          refine t_callVvE dX13_templ_72 M_X13_next (C_X13_next _ _ er4) ML_X13_452 IM_X13_next SE_X13_next qc_950 rfl (As := []) rfl rfl (by omega) (Nat.le_of_ble_eq_true rfl) (Nat.le_of_ble_eq_true rfl) (Nat.le_of_ble_eq_true rfl) ?_
          refine mj_aload_n dX13_templ_75 1 rfl ?_
          refine mj_bipush (v := 41) dX13_templ_76 (by decide) ?_
          refine mj_iconst (v := 0) dX13_templ_78 (by decide) ?_
          refine t_bndK hk (fun r5 er5 hk => ?_)
          refine t_callViE dX13_templ_79 M_X13_node (C_X13_node _ _ _ _ er5) ML_X13_510 IM_X13_node SE_X13_node qc_950 rfl (As := [.int 41, .int 0]) rfl rfl (by omega) (Nat.le_of_ble_eq_true rfl) (Nat.le_of_ble_eq_true rfl) (Nat.le_of_ble_eq_true rfl) ?_
          refine mj_istore_n 2 (lv2 := [(2, .int r5.1), (1, .int r2.1), (0, .ref 950)]) dX13_templ_82 rfl (by decide) rfl ?_
          refine mj_aload_n dX13_templ_83 2 rfl ?_
          refine mj_bipush (v := 40) dX13_templ_84 (by decide) ?_
          refine t_callViP dX13_templ_86 M_X13_is (C_X13_is _ _) ML_X13_449 IM_X13_is SE_X13_is qc_950 rfl (As := [.int 40]) rfl rfl (by omega) (Nat.le_of_ble_eq_true rfl) (Nat.le_of_ble_eq_true rfl) (Nat.le_of_ble_eq_true rfl) ?_
          refine mj_if_ne 101 dX13_templ_89 (by decide) (fun z => t_negK hk z (fun hk => ?_)) (fun z => t_posK hk z (fun hk => ?_))
          · refine mj_sublv [(0, .ref 950), (1, .int r2.1), (2, .int r5.1)] [2, 1, 0] rfl ?_
            exact B_X13_templ_101 rc H _ _ _ _ hk
          · refine mj_aload_n dX13_templ_92 2 rfl ?_
            refine mj_iconst (v := 2) dX13_templ_93 (by decide) ?_
            refine mj_aload_n dX13_templ_94 2 rfl ?_
            refine t_getI dX13_templ_95 F_X13_391 qf_950_6 ?_
            refine t_bndK hk (fun r7 er7 hk => ?_)
            refine t_callVvE dX13_templ_98 M_X13_fail (C_X13_fail _ _ _ _ er7) ML_X13_411 IM_X13_fail SE_X13_fail qc_950 rfl (As := [.int 2, .int (r5.2.1 950 6)]) rfl rfl (by omega) (Nat.le_of_ble_eq_true rfl) (Nat.le_of_ble_eq_true rfl) (Nat.le_of_ble_eq_true rfl) ?_
            refine mj_sublv [(0, .ref 950), (1, .int r2.1), (2, .int r5.1)] [2, 1, 0] rfl ?_
            exact B_X13_templ_101 rc H _ _ _ _ hk
      · exact B_X13_templ_25 rc H _ _ hk
  · refine mj_iconst (v := 0) dX13_templ_7 (by decide) ?_
    exact t_somK hk (fun hf => t_iret dX13_templ_8 rfl rfl ⟨_, rfl, hf⟩ (Nat.le_of_ble_eq_true rfl) (Nat.le_of_ble_eq_true rfl))
noncomputable def k_X13_templs_124 (rc : RT_X13_base) (l1 : Int32) (l2 : Int32) (l4 : Int32) (s : t_S) : Option ((Int32 × Int32 × Int32 × Int32 × t_S) ⊕ (t_S)) :=
 if (f_X13_is (44 : Int32) s) = (0 : Int32) then (some (.inl (l1, l2, (f_X13_is (44 : Int32) s), (l4 + 1), s)))
 else ((f_X13_next s).bind (fun r2 =>
 some (.inl (l1, l2, (f_X13_is (44 : Int32) s), (l4 + 1), r2))))
set_option maxRecDepth 4000 in
set_option maxHeartbeats 1000000 in
theorem B_X13_templs_124 {D : va_G} {cy : Nat → ClassId} {ad : Nat → Nat} {bs : Nat} {X : State → Heap → Prop} (rc : RT_X13_base) {k : Nat} (H : RH_X13_base rc k) (l1 : Int32) (l2 : Int32) (l4 : Int32) (s : t_S) (Q : (Int32 × Int32 × Int32 × Int32 × t_S) ⊕ (t_S) → Prop) (Hb5 : ∀ (y0 : Int32) (y1 : Int32) (y2 : Int32) (y3 : Int32) (y4 : t_S), Q (.inl (y0, y1, y2, y3, y4)) → mj_G D cy ad bs X cX13_templs 7 yX13_templs.cls none yX13_templs.name (8 + (k + 1)) 0 0 1065 (t_P (fun v s' => v = none ∧ Q (.inr (s')))) 5 [(0, .ref 950), (1, .int (y0)), (2, .int (y1)), (3, .int (y2)), (4, .int (y3))] [] (t_m y4) 1065 0 0) (hk : t_hk (k_X13_templs_124 rc l1 l2 l4 s) Q) : mj_G D cy ad bs X cX13_templs 7 yX13_templs.cls none yX13_templs.name (8 + (k + 1)) 0 0 1065 (t_P (fun v s' => v = none ∧ Q (.inr (s')))) 124 [(0, .ref 950), (1, .int l1), (2, .int l2), (4, .int l4)] [] (t_m s) 1065 0 0 := by
  refine mj_iinc (k := 3) (v := (l4 + 1)) (lv2 := [(4, .int (l4 + 1)), (0, .ref 950), (1, .int l1), (2, .int l2)]) dX13_templs_124 rfl rfl (by decide) rfl ?_
  refine mj_aload_n dX13_templs_127 1 rfl ?_
  refine mj_bipush (v := 44) dX13_templs_128 (by decide) ?_
  refine t_callViP dX13_templs_130 M_X13_is (C_X13_is _ _) ML_X13_449 IM_X13_is SE_X13_is qc_950 rfl (As := [.int 44]) rfl rfl (by omega) (Nat.le_of_ble_eq_true rfl) (Nat.le_of_ble_eq_true rfl) (Nat.le_of_ble_eq_true rfl) ?_
  refine mj_istore_n 3 (lv2 := [(3, .int (f_X13_is (44 : Int32) s)), (4, .int (l4 + 1)), (0, .ref 950), (1, .int l1), (2, .int l2)]) dX13_templs_133 rfl (by decide) rfl ?_
  refine mj_iload_n dX13_templs_134 0 rfl ?_
  refine mj_if_eq 142 dX13_templs_135 (by decide) (fun z => t_posK hk z (fun hk => ?_)) (fun z => t_negK hk z (fun hk => ?_))
  · refine mj_goto 5 dX13_templs_142 (by decide) ?_
    refine mj_sublv [(0, .ref 950), (1, .int l1), (2, .int l2), (3, .int (f_X13_is (44 : Int32) s)), (4, .int (l4 + 1))] [2, 3, 4, 0, 1] rfl ?_
    exact t_somK hk (fun hf => Hb5 l1 l2 (f_X13_is (44 : Int32) s) (l4 + 1) s hf)
  · refine mj_aload_n dX13_templs_138 2 rfl ?_
    refine t_bndK hk (fun r2 er2 hk => ?_)
    refine t_callVvE dX13_templs_139 M_X13_next (C_X13_next _ _ er2) ML_X13_452 IM_X13_next SE_X13_next qc_950 rfl (As := []) rfl rfl (by omega) (Nat.le_of_ble_eq_true rfl) (Nat.le_of_ble_eq_true rfl) (Nat.le_of_ble_eq_true rfl) ?_
    refine mj_goto 5 dX13_templs_142 (by decide) ?_
    refine mj_sublv [(0, .ref 950), (1, .int l1), (2, .int l2), (3, .int (f_X13_is (44 : Int32) s)), (4, .int (l4 + 1))] [2, 3, 4, 0, 1] rfl ?_
    exact t_somK hk (fun hf => Hb5 l1 l2 (f_X13_is (44 : Int32) s) (l4 + 1) r2 hf)
noncomputable def k_X13_templs_68 (rc : RT_X13_base) (l1 : Int32) (l2 : Int32) (l4 : Int32) (l5 : Int32) (s : t_S) : Option ((Int32 × Int32 × Int32 × Int32 × t_S) ⊕ (t_S)) :=
 if l5 = (0 : Int32) then ((rc.2.2.2.2.2.2.2.1 s).bind (fun r1 =>
 (f_X13_hang l1 r1.1 r1.2).bind (fun r2 =>
 k_X13_templs_124 rc l1 l2 l4 r2)))
 else ((f_X13_node (39 : Int32) (1 : Int32) s).bind (fun r3 =>
 (f_X13_next r3.2).bind (fun r4 =>
 (f_X13_mustBe (40 : Int32) r4).bind (fun r5 =>
 (rc.2.2.2.2.2.2.2.2.1 r3.1 (0 : Int32) r5).bind (fun r6 =>
 (f_X13_mustBe (41 : Int32) r6).bind (fun r7 =>
 (f_X13_hang l1 r3.1 r7).bind (fun r8 =>
 k_X13_templs_124 rc l1 l2 l4 r8)))))))
set_option maxRecDepth 4000 in
set_option maxHeartbeats 1000000 in
theorem B_X13_templs_68 {D : va_G} {cy : Nat → ClassId} {ad : Nat → Nat} {bs : Nat} {X : State → Heap → Prop} (rc : RT_X13_base) {k : Nat} (H : RH_X13_base rc k) (l1 : Int32) (l2 : Int32) (l4 : Int32) (l5 : Int32) (s : t_S) (Q : (Int32 × Int32 × Int32 × Int32 × t_S) ⊕ (t_S) → Prop) (Hb5 : ∀ (y0 : Int32) (y1 : Int32) (y2 : Int32) (y3 : Int32) (y4 : t_S), Q (.inl (y0, y1, y2, y3, y4)) → mj_G D cy ad bs X cX13_templs 7 yX13_templs.cls none yX13_templs.name (8 + (k + 1)) 0 0 1065 (t_P (fun v s' => v = none ∧ Q (.inr (s')))) 5 [(0, .ref 950), (1, .int (y0)), (2, .int (y1)), (3, .int (y2)), (4, .int (y3))] [] (t_m y4) 1065 0 0) (hk : t_hk (k_X13_templs_68 rc l1 l2 l4 l5 s) Q) : mj_G D cy ad bs X cX13_templs 7 yX13_templs.cls none yX13_templs.name (8 + (k + 1)) 0 0 1065 (t_P (fun v s' => v = none ∧ Q (.inr (s')))) 68 [(0, .ref 950), (1, .int l1), (2, .int l2), (4, .int l4), (5, .int l5)] [] (t_m s) 1065 0 0 := by
  refine mj_iload dX13_templs_68 4 rfl ?_
  refine mj_if_eq 115 dX13_templs_70 (by decide) (fun z => t_posK hk z (fun hk => ?_)) (fun z => t_negK hk z (fun hk => ?_))
  · refine mj_aload_n dX13_templs_115 0 rfl ?_
    refine mj_iload_n dX13_templs_116 1 rfl ?_
    refine mj_aload_n dX13_templs_117 0 rfl ?_
    refine t_bndK hk (fun r1 er1 hk => ?_)
    refine t_callSiE dX13_templs_118 M_X13_templ (H.2.2.2.2.2.2.2.1 _ _ er1) ML_X13_574 SM_X13_templ (As := [.ref 950]) rfl rfl (by omega) (Nat.le_of_ble_eq_true rfl) (Nat.le_of_ble_eq_true rfl) (Nat.le_of_ble_eq_true rfl) ?_
    refine t_bndK hk (fun r2 er2 hk => ?_)
    refine t_callVvE dX13_templs_121 M_X13_hang (C_X13_hang _ _ _ _ er2) ML_X13_507 IM_X13_hang SE_X13_hang qc_950 rfl (As := [.int l1, .int r1.1]) rfl rfl (by omega) (Nat.le_of_ble_eq_true rfl) (Nat.le_of_ble_eq_true rfl) (Nat.le_of_ble_eq_true rfl) ?_
    refine mj_sublv [(0, .ref 950), (1, .int l1), (2, .int l2), (4, .int l4)] [0, 1, 2, 3] rfl ?_
    exact B_X13_templs_124 rc H _ _ _ _ _ (fun y0 y1 y2 y3 y4 hx => Hb5 y0 y1 y2 y3 y4 hx) hk
  · refine mj_aload_n dX13_templs_73 0 rfl ?_
    refine mj_bipush (v := 39) dX13_templs_74 (by decide) ?_
    refine mj_iconst (v := 1) dX13_templs_76 (by decide) ?_
    refine t_bndK hk (fun r3 er3 hk => ?_)
    refine t_callViE dX13_templs_77 M_X13_node (C_X13_node _ _ _ _ er3) ML_X13_510 IM_X13_node SE_X13_node qc_950 rfl (As := [.int 39, .int 1]) rfl rfl (by omega) (Nat.le_of_ble_eq_true rfl) (Nat.le_of_ble_eq_true rfl) (Nat.le_of_ble_eq_true rfl) ?_
    refine mj_istore (lv2 := [(6, .int r3.1), (0, .ref 950), (1, .int l1), (2, .int l2), (4, .int l4), (5, .int l5)]) dX13_templs_80 (by decide) rfl ?_
    refine mj_aload_n dX13_templs_82 1 rfl ?_
    refine t_bndK hk (fun r4 er4 hk => ?_)
    refine t_callVvE dX13_templs_83 M_X13_next (C_X13_next _ _ er4) ML_X13_452 IM_X13_next SE_X13_next qc_950 rfl (As := []) rfl rfl (by omega) (Nat.le_of_ble_eq_true rfl) (Nat.le_of_ble_eq_true rfl) (Nat.le_of_ble_eq_true rfl) ?_
    refine mj_aload_n dX13_templs_86 1 rfl ?_
    refine mj_bipush (v := 40) dX13_templs_87 (by decide) ?_
    refine t_bndK hk (fun r5 er5 hk => ?_)
    refine t_callVvE dX13_templs_89 M_X13_mustBe (C_X13_mustBe _ _ _ er5) ML_X13_528 IM_X13_mustBe SE_X13_mustBe qc_950 rfl (As := [.int 40]) rfl rfl (by omega) (Nat.le_of_ble_eq_true rfl) (Nat.le_of_ble_eq_true rfl) (Nat.le_of_ble_eq_true rfl) ?_
    refine mj_aload_n dX13_templs_92 1 rfl ?_
    refine mj_iload dX13_templs_93 0 rfl ?_
    refine mj_iconst (v := 0) dX13_templs_95 (by decide) ?_
    refine t_bndK hk (fun r6 er6 hk => ?_)
    refine t_callSvE dX13_templs_96 M_X13_templs (H.2.2.2.2.2.2.2.2.1 _ _ _ _ er6) ML_X13_577 SM_X13_templs (As := [.ref 950, .int r3.1, .int 0]) rfl rfl (by omega) (Nat.le_of_ble_eq_true rfl) (Nat.le_of_ble_eq_true rfl) (Nat.le_of_ble_eq_true rfl) ?_
    refine mj_aload_n dX13_templs_99 1 rfl ?_
    refine mj_bipush (v := 41) dX13_templs_100 (by decide) ?_
    refine t_bndK hk (fun r7 er7 hk => ?_)
    refine t_callVvE dX13_templs_102 M_X13_mustBe (C_X13_mustBe _ _ _ er7) ML_X13_528 IM_X13_mustBe SE_X13_mustBe qc_950 rfl (As := [.int 41]) rfl rfl (by omega) (Nat.le_of_ble_eq_true rfl) (Nat.le_of_ble_eq_true rfl) (Nat.le_of_ble_eq_true rfl) ?_
    refine mj_aload_n dX13_templs_105 1 rfl ?_
    refine mj_iload_n dX13_templs_106 2 rfl ?_
    refine mj_iload dX13_templs_107 0 rfl ?_
    refine t_bndK hk (fun r8 er8 hk => ?_)
    refine t_callVvE dX13_templs_109 M_X13_hang (C_X13_hang _ _ _ _ er8) ML_X13_507 IM_X13_hang SE_X13_hang qc_950 rfl (As := [.int l1, .int r3.1]) rfl rfl (by omega) (Nat.le_of_ble_eq_true rfl) (Nat.le_of_ble_eq_true rfl) (Nat.le_of_ble_eq_true rfl) ?_
    refine mj_goto 124 dX13_templs_112 (by decide) ?_
    refine mj_sublv [(0, .ref 950), (1, .int l1), (2, .int l2), (4, .int l4)] [1, 2, 3, 4] rfl ?_
    exact B_X13_templs_124 rc H _ _ _ _ _ (fun y0 y1 y2 y3 y4 hx => Hb5 y0 y1 y2 y3 y4 hx) hk
noncomputable def k_X13_templs_61 (rc : RT_X13_base) (l1 : Int32) (l2 : Int32) (l4 : Int32) (l5 : Int32) (k0 : Int32) (s : t_S) : Option ((Int32 × Int32 × Int32 × Int32 × t_S) ⊕ (t_S)) :=
 (f_X13_fail k0 (s.1 950 6) s).bind (fun r1 =>
 k_X13_templs_68 rc l1 l2 l4 l5 r1)
set_option maxRecDepth 4000 in
set_option maxHeartbeats 1000000 in
theorem B_X13_templs_61 {D : va_G} {cy : Nat → ClassId} {ad : Nat → Nat} {bs : Nat} {X : State → Heap → Prop} (rc : RT_X13_base) {k : Nat} (H : RH_X13_base rc k) (l1 : Int32) (l2 : Int32) (l4 : Int32) (l5 : Int32) (k0 : Int32) (s : t_S) (Q : (Int32 × Int32 × Int32 × Int32 × t_S) ⊕ (t_S) → Prop) (Hb5 : ∀ (y0 : Int32) (y1 : Int32) (y2 : Int32) (y3 : Int32) (y4 : t_S), Q (.inl (y0, y1, y2, y3, y4)) → mj_G D cy ad bs X cX13_templs 7 yX13_templs.cls none yX13_templs.name (8 + (k + 1)) 0 0 1065 (t_P (fun v s' => v = none ∧ Q (.inr (s')))) 5 [(0, .ref 950), (1, .int (y0)), (2, .int (y1)), (3, .int (y2)), (4, .int (y3))] [] (t_m y4) 1065 0 0) (hk : t_hk (k_X13_templs_61 rc l1 l2 l4 l5 k0 s) Q) : mj_G D cy ad bs X cX13_templs 7 yX13_templs.cls none yX13_templs.name (8 + (k + 1)) 0 0 1065 (t_P (fun v s' => v = none ∧ Q (.inr (s')))) 61 [(0, .ref 950), (1, .int l1), (2, .int l2), (4, .int l4), (5, .int l5)] [.int k0, .ref 950] (t_m s) 1065 0 0 := by
  refine mj_aload_n dX13_templs_61 0 rfl ?_
  refine t_getI dX13_templs_62 F_X13_391 qf_950_6 ?_
  refine t_bndK hk (fun r1 er1 hk => ?_)
  refine t_callVvE dX13_templs_65 M_X13_fail (C_X13_fail _ _ _ _ er1) ML_X13_411 IM_X13_fail SE_X13_fail qc_950 rfl (As := [.int k0, .int (s.1 950 6)]) rfl rfl (by omega) (Nat.le_of_ble_eq_true rfl) (Nat.le_of_ble_eq_true rfl) (Nat.le_of_ble_eq_true rfl) ?_
  exact B_X13_templs_68 rc H _ _ _ _ _ _ (fun y0 y1 y2 y3 y4 hx => Hb5 y0 y1 y2 y3 y4 hx) hk
noncomputable def k_X13_templs_56 (rc : RT_X13_base) (l1 : Int32) (l2 : Int32) (l4 : Int32) (l5 : Int32) (s : t_S) : Option ((Int32 × Int32 × Int32 × Int32 × t_S) ⊕ (t_S)) :=
 k_X13_templs_61 rc l1 l2 l4 l5 5 s
set_option maxRecDepth 4000 in
set_option maxHeartbeats 1000000 in
theorem B_X13_templs_56 {D : va_G} {cy : Nat → ClassId} {ad : Nat → Nat} {bs : Nat} {X : State → Heap → Prop} (rc : RT_X13_base) {k : Nat} (H : RH_X13_base rc k) (l1 : Int32) (l2 : Int32) (l4 : Int32) (l5 : Int32) (s : t_S) (Q : (Int32 × Int32 × Int32 × Int32 × t_S) ⊕ (t_S) → Prop) (Hb5 : ∀ (y0 : Int32) (y1 : Int32) (y2 : Int32) (y3 : Int32) (y4 : t_S), Q (.inl (y0, y1, y2, y3, y4)) → mj_G D cy ad bs X cX13_templs 7 yX13_templs.cls none yX13_templs.name (8 + (k + 1)) 0 0 1065 (t_P (fun v s' => v = none ∧ Q (.inr (s')))) 5 [(0, .ref 950), (1, .int (y0)), (2, .int (y1)), (3, .int (y2)), (4, .int (y3))] [] (t_m y4) 1065 0 0) (hk : t_hk (k_X13_templs_56 rc l1 l2 l4 l5 s) Q) : mj_G D cy ad bs X cX13_templs 7 yX13_templs.cls none yX13_templs.name (8 + (k + 1)) 0 0 1065 (t_P (fun v s' => v = none ∧ Q (.inr (s')))) 56 [(0, .ref 950), (1, .int l1), (2, .int l2), (4, .int l4), (5, .int l5)] [.ref 950] (t_m s) 1065 0 0 := by
  refine mj_iconst (v := 5) dX13_templs_56 (by decide) ?_
  refine mj_goto 61 dX13_templs_57 (by decide) ?_
  exact B_X13_templs_61 rc H _ _ _ _ _ _ _ (fun y0 y1 y2 y3 y4 hx => Hb5 y0 y1 y2 y3 y4 hx) hk
noncomputable def k_X13_templs_34 (rc : RT_X13_base) (l1 : Int32) (l2 : Int32) (l4 : Int32) (k0 : Int32) (s : t_S) : Option ((Int32 × Int32 × Int32 × Int32 × t_S) ⊕ (t_S)) :=
 if l4 = (12 : Int32) then (if k0 = (0 : Int32) then (if (f_X13_beginsTempl s) = (0 : Int32) then (k_X13_templs_61 rc l1 l2 l4 k0 2 s)
 else (k_X13_templs_56 rc l1 l2 l4 k0 s))
 else (k_X13_templs_56 rc l1 l2 l4 k0 s))
 else (k_X13_templs_68 rc l1 l2 l4 k0 s)
set_option maxRecDepth 4000 in
set_option maxHeartbeats 1000000 in
theorem B_X13_templs_34 {D : va_G} {cy : Nat → ClassId} {ad : Nat → Nat} {bs : Nat} {X : State → Heap → Prop} (rc : RT_X13_base) {k : Nat} (H : RH_X13_base rc k) (l1 : Int32) (l2 : Int32) (l4 : Int32) (k0 : Int32) (s : t_S) (Q : (Int32 × Int32 × Int32 × Int32 × t_S) ⊕ (t_S) → Prop) (Hb5 : ∀ (y0 : Int32) (y1 : Int32) (y2 : Int32) (y3 : Int32) (y4 : t_S), Q (.inl (y0, y1, y2, y3, y4)) → mj_G D cy ad bs X cX13_templs 7 yX13_templs.cls none yX13_templs.name (8 + (k + 1)) 0 0 1065 (t_P (fun v s' => v = none ∧ Q (.inr (s')))) 5 [(0, .ref 950), (1, .int (y0)), (2, .int (y1)), (3, .int (y2)), (4, .int (y3))] [] (t_m y4) 1065 0 0) (hk : t_hk (k_X13_templs_34 rc l1 l2 l4 k0 s) Q) : mj_G D cy ad bs X cX13_templs 7 yX13_templs.cls none yX13_templs.name (8 + (k + 1)) 0 0 1065 (t_P (fun v s' => v = none ∧ Q (.inr (s')))) 34 [(0, .ref 950), (1, .int l1), (2, .int l2), (4, .int l4)] [.int k0] (t_m s) 1065 0 0 := by
  refine mj_istore (lv2 := [(5, .int k0), (0, .ref 950), (1, .int l1), (2, .int l2), (4, .int l4)]) dX13_templs_34 (by decide) rfl ?_
  refine mj_iload dX13_templs_36 4 rfl ?_
  refine mj_bipush (v := 12) dX13_templs_38 (by decide) ?_
  refine mj_icmp_ne 68 dX13_templs_40 (by decide) (fun z => t_negK hk z (fun hk => ?_)) (fun z => t_posK hk z (fun hk => ?_))
  · refine mj_sublv [(0, .ref 950), (1, .int l1), (2, .int l2), (4, .int l4), (5, .int k0)] [1, 2, 3, 4, 0] rfl ?_
    exact B_X13_templs_68 rc H _ _ _ _ _ _ (fun y0 y1 y2 y3 y4 hx => Hb5 y0 y1 y2 y3 y4 hx) hk
  · refine mj_aload_n dX13_templs_43 1 rfl ?_
    refine mj_iload dX13_templs_44 0 rfl ?_
    refine mj_if_ne 56 dX13_templs_46 (by decide) (fun z => t_negK hk z (fun hk => ?_)) (fun z => t_posK hk z (fun hk => ?_))
    · refine mj_sublv [(0, .ref 950), (1, .int l1), (2, .int l2), (4, .int l4), (5, .int k0)] [1, 2, 3, 4, 0] rfl ?_
      exact B_X13_templs_56 rc H _ _ _ _ _ _ (fun y0 y1 y2 y3 y4 hx => Hb5 y0 y1 y2 y3 y4 hx) hk
    · refine mj_aload_n dX13_templs_49 1 rfl ?_
      refine t_callViP dX13_templs_50 M_X13_beginsTempl (C_X13_beginsTempl _) ML_X13_555 IM_X13_beginsTempl SE_X13_beginsTempl qc_950 rfl (As := []) rfl rfl (by omega) (Nat.le_of_ble_eq_true rfl) (Nat.le_of_ble_eq_true rfl) (Nat.le_of_ble_eq_true rfl) ?_
      refine mj_if_eq 60 dX13_templs_53 (by decide) (fun z => t_posK hk z (fun hk => ?_)) (fun z => t_negK hk z (fun hk => ?_))
      · refine mj_iconst (v := 2) dX13_templs_60 (by decide) ?_
        refine mj_sublv [(0, .ref 950), (1, .int l1), (2, .int l2), (4, .int l4), (5, .int k0)] [1, 2, 3, 4, 0] rfl ?_
        exact B_X13_templs_61 rc H _ _ _ _ _ _ _ (fun y0 y1 y2 y3 y4 hx => Hb5 y0 y1 y2 y3 y4 hx) hk
      · refine mj_sublv [(0, .ref 950), (1, .int l1), (2, .int l2), (4, .int l4), (5, .int k0)] [1, 2, 3, 4, 0] rfl ?_
        exact B_X13_templs_56 rc H _ _ _ _ _ _ (fun y0 y1 y2 y3 y4 hx => Hb5 y0 y1 y2 y3 y4 hx) hk
noncomputable def k_X13_templs_33 (rc : RT_X13_base) (l1 : Int32) (l2 : Int32) (l4 : Int32) (s : t_S) : Option ((Int32 × Int32 × Int32 × Int32 × t_S) ⊕ (t_S)) :=
 k_X13_templs_34 rc l1 l2 l4 0 s
set_option maxRecDepth 4000 in
set_option maxHeartbeats 1000000 in
theorem B_X13_templs_33 {D : va_G} {cy : Nat → ClassId} {ad : Nat → Nat} {bs : Nat} {X : State → Heap → Prop} (rc : RT_X13_base) {k : Nat} (H : RH_X13_base rc k) (l1 : Int32) (l2 : Int32) (l4 : Int32) (s : t_S) (Q : (Int32 × Int32 × Int32 × Int32 × t_S) ⊕ (t_S) → Prop) (Hb5 : ∀ (y0 : Int32) (y1 : Int32) (y2 : Int32) (y3 : Int32) (y4 : t_S), Q (.inl (y0, y1, y2, y3, y4)) → mj_G D cy ad bs X cX13_templs 7 yX13_templs.cls none yX13_templs.name (8 + (k + 1)) 0 0 1065 (t_P (fun v s' => v = none ∧ Q (.inr (s')))) 5 [(0, .ref 950), (1, .int (y0)), (2, .int (y1)), (3, .int (y2)), (4, .int (y3))] [] (t_m y4) 1065 0 0) (hk : t_hk (k_X13_templs_33 rc l1 l2 l4 s) Q) : mj_G D cy ad bs X cX13_templs 7 yX13_templs.cls none yX13_templs.name (8 + (k + 1)) 0 0 1065 (t_P (fun v s' => v = none ∧ Q (.inr (s')))) 33 [(0, .ref 950), (1, .int l1), (2, .int l2), (4, .int l4)] [] (t_m s) 1065 0 0 := by
  refine mj_iconst (v := 0) dX13_templs_33 (by decide) ?_
  exact B_X13_templs_34 rc H _ _ _ _ _ _ (fun y0 y1 y2 y3 y4 hx => Hb5 y0 y1 y2 y3 y4 hx) hk
noncomputable def k_X13_templs_5 (rc : RT_X13_base) (l1 : Int32) (l2 : Int32) (l3 : Int32) (l4 : Int32) (s : t_S) : Option ((Int32 × Int32 × Int32 × Int32 × t_S) ⊕ (t_S)) :=
 if l3 = (0 : Int32) then ((some (s)).map Sum.inr)
 else (if (s.1 950 2) = (0 : Int32) then (if l2 = (0 : Int32) then (k_X13_templs_33 rc l1 l2 l4 s)
 else (if (f_X13_isWord (29 : Int32) s) = (0 : Int32) then (k_X13_templs_33 rc l1 l2 l4 s)
 else (k_X13_templs_34 rc l1 l2 l4 1 s)))
 else ((some (s)).map Sum.inr))
set_option maxRecDepth 4000 in
set_option maxHeartbeats 1000000 in
theorem B_X13_templs_5 {D : va_G} {cy : Nat → ClassId} {ad : Nat → Nat} {bs : Nat} {X : State → Heap → Prop} (rc : RT_X13_base) {k : Nat} (H : RH_X13_base rc k) (l1 : Int32) (l2 : Int32) (l3 : Int32) (l4 : Int32) (s : t_S) (Q : (Int32 × Int32 × Int32 × Int32 × t_S) ⊕ (t_S) → Prop) (Hb5 : ∀ (y0 : Int32) (y1 : Int32) (y2 : Int32) (y3 : Int32) (y4 : t_S), Q (.inl (y0, y1, y2, y3, y4)) → mj_G D cy ad bs X cX13_templs 7 yX13_templs.cls none yX13_templs.name (8 + (k + 1)) 0 0 1065 (t_P (fun v s' => v = none ∧ Q (.inr (s')))) 5 [(0, .ref 950), (1, .int (y0)), (2, .int (y1)), (3, .int (y2)), (4, .int (y3))] [] (t_m y4) 1065 0 0) (hk : t_hk (k_X13_templs_5 rc l1 l2 l3 l4 s) Q) : mj_G D cy ad bs X cX13_templs 7 yX13_templs.cls none yX13_templs.name (8 + (k + 1)) 0 0 1065 (t_P (fun v s' => v = none ∧ Q (.inr (s')))) 5 [(0, .ref 950), (1, .int l1), (2, .int l2), (3, .int l3), (4, .int l4)] [] (t_m s) 1065 0 0 := by
  refine mj_iload_n dX13_templs_5 3 rfl ?_
  refine mj_if_eq 145 dX13_templs_6 (by decide) (fun z => t_posK hk z (fun hk => ?_)) (fun z => t_negK hk z (fun hk => ?_))
  · refine t_mapK hk (fun hk => ?_)
    exact t_somK hk (fun hf => t_vret dX13_templs_145 rfl ⟨rfl, hf⟩ (Nat.le_of_ble_eq_true rfl) (Nat.le_of_ble_eq_true rfl))
  · refine mj_aload_n dX13_templs_9 0 rfl ?_
    refine t_getI dX13_templs_10 F_X13_375 qf_950_2 ?_
    refine mj_if_ne 145 dX13_templs_13 (by decide) (fun z => t_negK hk z (fun hk => ?_)) (fun z => t_posK hk z (fun hk => ?_))
    · refine t_mapK hk (fun hk => ?_)
      exact t_somK hk (fun hf => t_vret dX13_templs_145 rfl ⟨rfl, hf⟩ (Nat.le_of_ble_eq_true rfl) (Nat.le_of_ble_eq_true rfl))
    · refine mj_iload_n dX13_templs_16 2 rfl ?_
      refine mj_if_eq 33 dX13_templs_17 (by decide) (fun z => t_posK hk z (fun hk => ?_)) (fun z => t_negK hk z (fun hk => ?_))
      · refine mj_sublv [(0, .ref 950), (1, .int l1), (2, .int l2), (4, .int l4)] [0, 1, 2, 4] rfl ?_
        exact B_X13_templs_33 rc H _ _ _ _ _ (fun y0 y1 y2 y3 y4 hx => Hb5 y0 y1 y2 y3 y4 hx) hk
      · refine mj_aload_n dX13_templs_20 0 rfl ?_
        refine mj_bipush (v := 29) dX13_templs_21 (by decide) ?_
        refine t_callViP dX13_templs_23 M_X13_isWord (C_X13_isWord _ _) ML_X13_455 IM_X13_isWord SE_X13_isWord qc_950 rfl (As := [.int 29]) rfl rfl (by omega) (Nat.le_of_ble_eq_true rfl) (Nat.le_of_ble_eq_true rfl) (Nat.le_of_ble_eq_true rfl) ?_
        refine mj_if_eq 33 dX13_templs_26 (by decide) (fun z => t_posK hk z (fun hk => ?_)) (fun z => t_negK hk z (fun hk => ?_))
        · refine mj_sublv [(0, .ref 950), (1, .int l1), (2, .int l2), (4, .int l4)] [0, 1, 2, 4] rfl ?_
          exact B_X13_templs_33 rc H _ _ _ _ _ (fun y0 y1 y2 y3 y4 hx => Hb5 y0 y1 y2 y3 y4 hx) hk
        · refine mj_iconst (v := 1) dX13_templs_29 (by decide) ?_
          refine mj_goto 34 dX13_templs_30 (by decide) ?_
          refine mj_sublv [(0, .ref 950), (1, .int l1), (2, .int l2), (4, .int l4)] [0, 1, 2, 4] rfl ?_
          exact B_X13_templs_34 rc H _ _ _ _ _ _ (fun y0 y1 y2 y3 y4 hx => Hb5 y0 y1 y2 y3 y4 hx) hk
noncomputable def b_X13_templs_5 (rc : RT_X13_base) (x : Int32 × Int32 × Int32 × Int32 × t_S) : Option ((Int32 × Int32 × Int32 × Int32 × t_S) ⊕ (t_S)) := k_X13_templs_5 rc x.1 x.2.1 x.2.2.1 x.2.2.2.1 x.2.2.2.2
set_option maxRecDepth 4000 in
set_option maxHeartbeats 1000000 in
theorem LH_X13_templs_5 {D : va_G} {cy : Nat → ClassId} {ad : Nat → Nat} {bs : Nat} {X : State → Heap → Prop} (rc : RT_X13_base) {k : Nat} (H : RH_X13_base rc k) : ∀ (n : Nat) (y0 : Int32) (y1 : Int32) (y2 : Int32) (y3 : Int32) (y4 : t_S) (Q : t_S → Prop) (hk : t_hk (t_loop (b_X13_templs_5 rc) n (y0, y1, y2, y3, y4)) Q), mj_G D cy ad bs X cX13_templs 7 yX13_templs.cls none yX13_templs.name (8 + (k + 1)) 0 0 1065 (t_P (fun v s' => v = none ∧ Q (s'))) 5 [(0, .ref 950), (1, .int (y0)), (2, .int (y1)), (3, .int (y2)), (4, .int (y3))] [] (t_m y4) 1065 0 0 := by
  intro n
  induction n with
  | zero => intro y0 y1 y2 y3 y4 Q hk; obtain ⟨r, hr, _⟩ := hk; cases hr
  | succ n ih =>
    intro y0 y1 y2 y3 y4 Q hk
    exact B_X13_templs_5 rc H y0 y1 y2 y3 y4 (fun y => t_lq (b_X13_templs_5 rc) n Q y) (fun y0' y1' y2' y3' y4' hy => ih y0' y1' y2' y3' y4' Q hy) (t_lp (b := b_X13_templs_5 rc) (n := n) (x := (y0, y1, y2, y3, y4)) hk)
noncomputable def m_X13_templs (rc : RT_X13_base) (x2 : Int32) (x3 : Int32) (s : t_S) : Option (t_S) :=
 t_loop (b_X13_templs_5 rc) t_N (x2, x3, 1, 0, s)
set_option maxRecDepth 4000 in
set_option maxHeartbeats 1000000 in
theorem E_X13_templs (rc : RT_X13_base) {k : Nat} (H : RH_X13_base rc k) (x2 : Int32) (x3 : Int32) (s : t_S) (r : t_S) (hr : m_X13_templs rc x2 x3 s = some r) : t_C yX13_templs cX13_templs 7 none (8 + (k + 1)) [.ref 950, .int x2, .int x3] s (fun v s' => v = none ∧ s' = r) := by
  refine t_C.imp (P := fun v s' => v = none ∧ (fun q => q = r) (s')) (t_C.of (by decide +kernel) (Nat.le_of_ble_eq_true rfl) ?_) (fun v s' hp => hp)
  intro D cy ad bs X
  have hk : t_hk (m_X13_templs rc x2 x3 s) (fun q => q = r) := ⟨r, hr, rfl⟩
  show mj_G D cy ad bs X cX13_templs 7 yX13_templs.cls none yX13_templs.name (8 + (k + 1)) 0 0 1065 (t_P (fun v s' => v = none ∧ (fun q => q = r) (s'))) 0 [(0, .ref 950), (1, .int x2), (2, .int x3)] [] (t_m s) 1065 0 0
  refine mj_iconst (v := 1) dX13_templs_0 (by decide) ?_
  refine mj_istore_n 3 (lv2 := [(3, .int 1), (0, .ref 950), (1, .int x2), (2, .int x3)]) dX13_templs_1 rfl (by decide) rfl ?_
  refine mj_iconst (v := 0) dX13_templs_2 (by decide) ?_
  refine mj_istore (lv2 := [(4, .int 0), (3, .int 1), (0, .ref 950), (1, .int x2), (2, .int x3)]) dX13_templs_3 (by decide) rfl ?_
  refine mj_sublv [(0, .ref 950), (1, .int x2), (2, .int x3), (3, .int 1), (4, .int 0)] [2, 3, 4, 1, 0] rfl ?_
  exact LH_X13_templs_5 rc H _ x2 x3 1 0 s _ hk
noncomputable def k_X13_tone_256 (rc : RT_X13_base) (l2 : Int32) (s : t_S) : Option (Int32 × t_S) :=
 (f_X13_mustBe (93 : Int32) s).bind (fun r1 =>
 some (l2, r1))
set_option maxRecDepth 4000 in
set_option maxHeartbeats 1000000 in
theorem B_X13_tone_256 {D : va_G} {cy : Nat → ClassId} {ad : Nat → Nat} {bs : Nat} {X : State → Heap → Prop} (rc : RT_X13_base) {k : Nat} (H : RH_X13_base rc k) (l2 : Int32) (s : t_S) (Q : Int32 × t_S → Prop) (hk : t_hk (k_X13_tone_256 rc l2 s) Q) : mj_G D cy ad bs X cX13_tone 3 yX13_tone.cls (some .int) yX13_tone.name (8 + (k + 1)) 0 0 1065 (t_P (fun v s' => ∃ x, v = some (.int x) ∧ Q ((x, s')))) 256 [(0, .ref 950), (2, .int l2)] [] (t_m s) 1065 0 0 := by
  refine mj_aload_n dX13_tone_256 0 rfl ?_
  refine mj_bipush (v := 93) dX13_tone_257 (by decide) ?_
  refine t_bndK hk (fun r1 er1 hk => ?_)
  refine t_callVvE dX13_tone_259 M_X13_mustBe (C_X13_mustBe _ _ _ er1) ML_X13_528 IM_X13_mustBe SE_X13_mustBe qc_950 rfl (As := [.int 93]) rfl rfl (by omega) (Nat.le_of_ble_eq_true rfl) (Nat.le_of_ble_eq_true rfl) (Nat.le_of_ble_eq_true rfl) ?_
  refine mj_goto 304 dX13_tone_262 (by decide) ?_
  refine mj_iload_n dX13_tone_304 1 rfl ?_
  exact t_somK hk (fun hf => t_iret dX13_tone_305 rfl rfl ⟨_, rfl, hf⟩ (Nat.le_of_ble_eq_true rfl) (Nat.le_of_ble_eq_true rfl))
noncomputable def k_X13_tone_136 (rc : RT_X13_base) (l1 : Int32) (k0 : Int32) (s : t_S) : Option (Int32 × t_S) :=
 (f_X13_node k0 (1 : Int32) s).bind (fun r1 =>
 (f_X13_next r1.2).bind (fun r2 =>
 if l1.toInt = 40 then ((rc.2.2.2.2.2.2.2.2.1 r1.1 (0 : Int32) r2).bind (fun r3 =>
 (f_X13_mustBe (41 : Int32) r3).bind (fun r4 =>
 some (r1.1, r4))))
 else if l1.toInt = 61 then ((f_X13_mustBe (40 : Int32) r2).bind (fun r5 =>
 (rc.2.1 r5).bind (fun r6 =>
 (f_X13_hang r1.1 r6.1 r6.2).bind (fun r7 =>
 (f_X13_mustBe (41 : Int32) r7).bind (fun r8 =>
 some (r1.1, r8))))))
 else if l1.toInt = 64 then (if t_ix r1.1 13000 = true then
  t_let (t_setI r2 1003 (r1.1.toNatClampNeg) (r2.1 950 6)) (fun s1 =>
 (f_X13_freeName s1).bind (fun r10 =>
 t_let (t_setJ r10.2 957 (r1.1.toNatClampNeg) r10.1.toInt64) (fun s2 =>
 (f_X13_next s2).bind (fun r11 =>
 (rc.2.2.2.2.2.2.2.1 r11).bind (fun r12 =>
 (f_X13_hang r1.1 r12.1 r12.2).bind (fun r13 =>
 some (r1.1, r13)))))))
else none)
 else if l1.toInt = 91 then (if (f_X13_is (93 : Int32) r2) = (0 : Int32) then ((rc.2.2.2.2.2.2.2.2.1 r1.1 (1 : Int32) r2).bind (fun r15 =>
 k_X13_tone_256 rc r1.1 r15))
 else (k_X13_tone_256 rc r1.1 r2))
 else if l1.toInt = 123 then ((rc.2.2.2.2.1 r1.1 r2).bind (fun r16 =>
 some (r1.1, r16)))
 else (some (r1.1, r2))))
set_option maxRecDepth 4000 in
set_option maxHeartbeats 1000000 in
theorem B_X13_tone_136 {D : va_G} {cy : Nat → ClassId} {ad : Nat → Nat} {bs : Nat} {X : State → Heap → Prop} (rc : RT_X13_base) {k : Nat} (H : RH_X13_base rc k) (l1 : Int32) (k0 : Int32) (s : t_S) (Q : Int32 × t_S → Prop) (hk : t_hk (k_X13_tone_136 rc l1 k0 s) Q) : mj_G D cy ad bs X cX13_tone 3 yX13_tone.cls (some .int) yX13_tone.name (8 + (k + 1)) 0 0 1065 (t_P (fun v s' => ∃ x, v = some (.int x) ∧ Q ((x, s')))) 136 [(0, .ref 950), (1, .int l1)] [.int k0, .ref 950] (t_m s) 1065 0 0 := by
  refine mj_iconst (v := 1) dX13_tone_136 (by decide) ?_
  refine t_bndK hk (fun r1 er1 hk => ?_)
  refine t_callViE dX13_tone_137 M_X13_node (C_X13_node _ _ _ _ er1) ML_X13_510 IM_X13_node SE_X13_node qc_950 rfl (As := [.int k0, .int 1]) rfl rfl (by omega) (Nat.le_of_ble_eq_true rfl) (Nat.le_of_ble_eq_true rfl) (Nat.le_of_ble_eq_true rfl) ?_
  refine mj_istore_n 2 (lv2 := [(2, .int r1.1), (0, .ref 950), (1, .int l1)]) dX13_tone_140 rfl (by decide) rfl ?_
  refine mj_aload_n dX13_tone_141 1 rfl ?_
  refine t_bndK hk (fun r2 er2 hk => ?_)
  refine t_callVvE dX13_tone_142 M_X13_next (C_X13_next _ _ er2) ML_X13_452 IM_X13_next SE_X13_next qc_950 rfl (As := []) rfl rfl (by omega) (Nat.le_of_ble_eq_true rfl) (Nat.le_of_ble_eq_true rfl) (Nat.le_of_ble_eq_true rfl) ?_
  refine mj_iload_n dX13_tone_145 2 rfl ?_
  by_cases h0 : l1.toInt = 40
  · replace hk := t_pos hk h0
    refine mj_lookup 265 dX13_tone_146 (by decide) (by rw [h0] <;> rfl) (by decide) ?_
    refine mj_aload_n dX13_tone_265 1 rfl ?_
    refine mj_iload_n dX13_tone_266 0 rfl ?_
    refine mj_iconst (v := 0) dX13_tone_267 (by decide) ?_
    refine t_bndK hk (fun r3 er3 hk => ?_)
    refine t_callSvE dX13_tone_268 M_X13_templs (H.2.2.2.2.2.2.2.2.1 _ _ _ _ er3) ML_X13_577 SM_X13_templs (As := [.ref 950, .int r1.1, .int 0]) rfl rfl (by omega) (Nat.le_of_ble_eq_true rfl) (Nat.le_of_ble_eq_true rfl) (Nat.le_of_ble_eq_true rfl) ?_
    refine mj_aload_n dX13_tone_271 1 rfl ?_
    refine mj_bipush (v := 41) dX13_tone_272 (by decide) ?_
    refine t_bndK hk (fun r4 er4 hk => ?_)
    refine t_callVvE dX13_tone_274 M_X13_mustBe (C_X13_mustBe _ _ _ er4) ML_X13_528 IM_X13_mustBe SE_X13_mustBe qc_950 rfl (As := [.int 41]) rfl rfl (by omega) (Nat.le_of_ble_eq_true rfl) (Nat.le_of_ble_eq_true rfl) (Nat.le_of_ble_eq_true rfl) ?_
    refine mj_goto 304 dX13_tone_277 (by decide) ?_
    refine mj_iload_n dX13_tone_304 0 rfl ?_
    exact t_somK hk (fun hf => t_iret dX13_tone_305 rfl rfl ⟨_, rfl, hf⟩ (Nat.le_of_ble_eq_true rfl) (Nat.le_of_ble_eq_true rfl))
  replace hk := t_neg hk h0
  by_cases h1 : l1.toInt = 61
  · replace hk := t_pos hk h1
    refine mj_lookup 280 dX13_tone_146 (by decide) (by rw [h1] <;> rfl) (by decide) ?_
    refine mj_aload_n dX13_tone_280 1 rfl ?_
    refine mj_bipush (v := 40) dX13_tone_281 (by decide) ?_
    refine t_bndK hk (fun r5 er5 hk => ?_)
    refine t_callVvE dX13_tone_283 M_X13_mustBe (C_X13_mustBe _ _ _ er5) ML_X13_528 IM_X13_mustBe SE_X13_mustBe qc_950 rfl (As := [.int 40]) rfl rfl (by omega) (Nat.le_of_ble_eq_true rfl) (Nat.le_of_ble_eq_true rfl) (Nat.le_of_ble_eq_true rfl) ?_
    refine mj_aload_n dX13_tone_286 1 rfl ?_
    refine mj_iload_n dX13_tone_287 0 rfl ?_
    refine mj_aload_n dX13_tone_288 1 rfl ?_
    refine t_bndK hk (fun r6 er6 hk => ?_)
    refine t_callSiE dX13_tone_289 M_X13_exp (H.2.1 _ _ er6) ML_X13_581 SM_X13_exp (As := [.ref 950]) rfl rfl (by omega) (Nat.le_of_ble_eq_true rfl) (Nat.le_of_ble_eq_true rfl) (Nat.le_of_ble_eq_true rfl) ?_
    refine t_bndK hk (fun r7 er7 hk => ?_)
    refine t_callVvE dX13_tone_292 M_X13_hang (C_X13_hang _ _ _ _ er7) ML_X13_507 IM_X13_hang SE_X13_hang qc_950 rfl (As := [.int r1.1, .int r6.1]) rfl rfl (by omega) (Nat.le_of_ble_eq_true rfl) (Nat.le_of_ble_eq_true rfl) (Nat.le_of_ble_eq_true rfl) ?_
    refine mj_aload_n dX13_tone_295 1 rfl ?_
    refine mj_bipush (v := 41) dX13_tone_296 (by decide) ?_
    refine t_bndK hk (fun r8 er8 hk => ?_)
    refine t_callVvE dX13_tone_298 M_X13_mustBe (C_X13_mustBe _ _ _ er8) ML_X13_528 IM_X13_mustBe SE_X13_mustBe qc_950 rfl (As := [.int 41]) rfl rfl (by omega) (Nat.le_of_ble_eq_true rfl) (Nat.le_of_ble_eq_true rfl) (Nat.le_of_ble_eq_true rfl) ?_
    refine mj_goto 304 dX13_tone_301 (by decide) ?_
    refine mj_iload_n dX13_tone_304 0 rfl ?_
    exact t_somK hk (fun hf => t_iret dX13_tone_305 rfl rfl ⟨_, rfl, hf⟩ (Nat.le_of_ble_eq_true rfl) (Nat.le_of_ble_eq_true rfl))
  replace hk := t_neg hk h1
  by_cases h2 : l1.toInt = 64
  · replace hk := t_pos hk h2
    refine mj_lookup 204 dX13_tone_146 (by decide) (by rw [h2] <;> rfl) (by decide) ?_
    refine mj_aload_n dX13_tone_204 1 rfl ?_
    refine t_getR 1003 dX13_tone_205 F_X13_171 qr_950_85 ?_
    refine mj_iload_n dX13_tone_208 0 rfl ?_
    refine mj_aload_n dX13_tone_209 1 rfl ?_
    refine t_getI dX13_tone_210 F_X13_391 qf_950_6 ?_
    refine t_chkK hk (fun c8 hk => ?_)
    refine t_iastK dX13_tone_213 qa_1003 (t_ixv c8) (fun s1 ws1 => t_letE hk ws1 (fun hk => ?_))
    refine mj_aload_n dX13_tone_214 1 rfl ?_
    refine t_getR 957 dX13_tone_215 F_X13_32 qr_950_19 ?_
    refine mj_iload_n dX13_tone_218 0 rfl ?_
    refine mj_aload_n dX13_tone_219 1 rfl ?_
    refine t_bndK hk (fun r10 er10 hk => ?_)
    refine t_callViE dX13_tone_220 M_X13_freeName (C_X13_freeName _ _ er10) ML_X13_535 IM_X13_freeName SE_X13_freeName qc_950 rfl (As := []) rfl rfl (by omega) (Nat.le_of_ble_eq_true rfl) (Nat.le_of_ble_eq_true rfl) (Nat.le_of_ble_eq_true rfl) ?_
    refine mj_i2l (v := r10.1.toInt64) dX13_tone_223 rfl ?_
    refine t_lastK dX13_tone_224 qa_957 (t_ixv c8) (fun s2 ws2 => t_letE hk ws2 (fun hk => ?_))
    refine mj_aload_n dX13_tone_225 1 rfl ?_
    refine t_bndK hk (fun r11 er11 hk => ?_)
    refine t_callVvE dX13_tone_226 M_X13_next (C_X13_next _ _ er11) ML_X13_452 IM_X13_next SE_X13_next qc_950 rfl (As := []) rfl rfl (by omega) (Nat.le_of_ble_eq_true rfl) (Nat.le_of_ble_eq_true rfl) (Nat.le_of_ble_eq_true rfl) ?_
    refine mj_aload_n dX13_tone_229 1 rfl ?_
    refine mj_iload_n dX13_tone_230 0 rfl ?_
    refine mj_aload_n dX13_tone_231 1 rfl ?_
    refine t_bndK hk (fun r12 er12 hk => ?_)
    refine t_callSiE dX13_tone_232 M_X13_templ (H.2.2.2.2.2.2.2.1 _ _ er12) ML_X13_574 SM_X13_templ (As := [.ref 950]) rfl rfl (by omega) (Nat.le_of_ble_eq_true rfl) (Nat.le_of_ble_eq_true rfl) (Nat.le_of_ble_eq_true rfl) ?_
    refine t_bndK hk (fun r13 er13 hk => ?_)
    refine t_callVvE dX13_tone_235 M_X13_hang (C_X13_hang _ _ _ _ er13) ML_X13_507 IM_X13_hang SE_X13_hang qc_950 rfl (As := [.int r1.1, .int r12.1]) rfl rfl (by omega) (Nat.le_of_ble_eq_true rfl) (Nat.le_of_ble_eq_true rfl) (Nat.le_of_ble_eq_true rfl) ?_
    refine mj_goto 304 dX13_tone_238 (by decide) ?_
    refine mj_iload_n dX13_tone_304 0 rfl ?_
    exact t_somK hk (fun hf => t_iret dX13_tone_305 rfl rfl ⟨_, rfl, hf⟩ (Nat.le_of_ble_eq_true rfl) (Nat.le_of_ble_eq_true rfl))
  replace hk := t_neg hk h2
  by_cases h3 : l1.toInt = 91
  · replace hk := t_pos hk h3
    refine mj_lookup 241 dX13_tone_146 (by decide) (by rw [h3] <;> rfl) (by decide) ?_
    refine mj_aload_n dX13_tone_241 1 rfl ?_
    refine mj_bipush (v := 93) dX13_tone_242 (by decide) ?_
    refine t_callViP dX13_tone_244 M_X13_is (C_X13_is _ _) ML_X13_449 IM_X13_is SE_X13_is qc_950 rfl (As := [.int 93]) rfl rfl (by omega) (Nat.le_of_ble_eq_true rfl) (Nat.le_of_ble_eq_true rfl) (Nat.le_of_ble_eq_true rfl) ?_
    refine mj_if_ne 256 dX13_tone_247 (by decide) (fun z => t_negK hk z (fun hk => ?_)) (fun z => t_posK hk z (fun hk => ?_))
    · refine mj_sublv [(0, .ref 950), (2, .int r1.1)] [1, 0] rfl ?_
      exact B_X13_tone_256 rc H _ _ _ hk
    · refine mj_aload_n dX13_tone_250 1 rfl ?_
      refine mj_iload_n dX13_tone_251 0 rfl ?_
      refine mj_iconst (v := 1) dX13_tone_252 (by decide) ?_
      refine t_bndK hk (fun r15 er15 hk => ?_)
      refine t_callSvE dX13_tone_253 M_X13_templs (H.2.2.2.2.2.2.2.2.1 _ _ _ _ er15) ML_X13_577 SM_X13_templs (As := [.ref 950, .int r1.1, .int 1]) rfl rfl (by omega) (Nat.le_of_ble_eq_true rfl) (Nat.le_of_ble_eq_true rfl) (Nat.le_of_ble_eq_true rfl) ?_
      refine mj_sublv [(0, .ref 950), (2, .int r1.1)] [1, 0] rfl ?_
      exact B_X13_tone_256 rc H _ _ _ hk
  replace hk := t_neg hk h3
  by_cases h4 : l1.toInt = 123
  · replace hk := t_pos hk h4
    refine mj_lookup 196 dX13_tone_146 (by decide) (by rw [h4] <;> rfl) (by decide) ?_
    refine mj_aload_n dX13_tone_196 1 rfl ?_
    refine mj_iload_n dX13_tone_197 0 rfl ?_
    refine t_bndK hk (fun r16 er16 hk => ?_)
    refine t_callSvE dX13_tone_198 M_X13_fieldTempls (H.2.2.2.2.1 _ _ _ er16) ML_X13_571 SM_X13_fieldTempls (As := [.ref 950, .int r1.1]) rfl rfl (by omega) (Nat.le_of_ble_eq_true rfl) (Nat.le_of_ble_eq_true rfl) (Nat.le_of_ble_eq_true rfl) ?_
    refine mj_goto 304 dX13_tone_201 (by decide) ?_
    refine mj_iload_n dX13_tone_304 0 rfl ?_
    exact t_somK hk (fun hf => t_iret dX13_tone_305 rfl rfl ⟨_, rfl, hf⟩ (Nat.le_of_ble_eq_true rfl) (Nat.le_of_ble_eq_true rfl))
  replace hk := t_neg hk h4
  refine mj_lookup 304 dX13_tone_146 (by decide) (t_lk0 _ (And.intro h0 (And.intro h1 (And.intro h2 (And.intro h3 (And.intro h4 trivial)))))) (by decide) ?_
  refine mj_iload_n dX13_tone_304 0 rfl ?_
  exact t_somK hk (fun hf => t_iret dX13_tone_305 rfl rfl ⟨_, rfl, hf⟩ (Nat.le_of_ble_eq_true rfl) (Nat.le_of_ble_eq_true rfl))
noncomputable def k_X13_tone_57 (rc : RT_X13_base) (s : t_S) : Option (Int32 × t_S) :=
 (f_X13_numberTone s).bind (fun r1 =>
 some (r1.1, r1.2))
set_option maxRecDepth 4000 in
set_option maxHeartbeats 1000000 in
theorem B_X13_tone_57 {D : va_G} {cy : Nat → ClassId} {ad : Nat → Nat} {bs : Nat} {X : State → Heap → Prop} (rc : RT_X13_base) {k : Nat} (H : RH_X13_base rc k) (s : t_S) (Q : Int32 × t_S → Prop) (hk : t_hk (k_X13_tone_57 rc s) Q) : mj_G D cy ad bs X cX13_tone 3 yX13_tone.cls (some .int) yX13_tone.name (8 + (k + 1)) 0 0 1065 (t_P (fun v s' => ∃ x, v = some (.int x) ∧ Q ((x, s')))) 57 [(0, .ref 950)] [] (t_m s) 1065 0 0 := by
  refine mj_aload_n dX13_tone_57 0 rfl ?_
  refine t_bndK hk (fun r1 er1 hk => ?_)
  refine t_callViE dX13_tone_58 M_X13_numberTone (C_X13_numberTone _ _ er1) ML_X13_568 IM_X13_numberTone SE_X13_numberTone qc_950 rfl (As := []) rfl rfl (by omega) (Nat.le_of_ble_eq_true rfl) (Nat.le_of_ble_eq_true rfl) (Nat.le_of_ble_eq_true rfl) ?_
  exact t_somK hk (fun hf => t_iret dX13_tone_61 rfl rfl ⟨_, rfl, hf⟩ (Nat.le_of_ble_eq_true rfl) (Nat.le_of_ble_eq_true rfl))
noncomputable def m_X13_tone (rc : RT_X13_base) (s : t_S) : Option (Int32 × t_S) :=
 if (s.1 950 5) = (1 : Int32) then ((rc.2.2.2.2.2.2.2.2.2.2.2 s).bind (fun r5 =>
 some (r5.1, r5.2)))
 else (if (s.1 950 5) = (3 : Int32) then ((f_X13_node (26 : Int32) (1 : Int32) s).bind (fun r2 =>
 (f_X13_keepText r2.1 r2.2).bind (fun r3 =>
 (f_X13_next r3).bind (fun r4 =>
 some (r2.1, r4)))))
 else (if (s.1 950 5) = (2 : Int32) then (k_X13_tone_57 rc s)
 else (if (f_X13_is (45 : Int32) s) = (0 : Int32) then (if (s.1 950 9) = (63 : Int32) then (k_X13_tone_136 rc (s.1 950 9) 20 s)
 else (if (s.1 950 9) = (42 : Int32) then (k_X13_tone_136 rc (s.1 950 9) 21 s)
 else (if (s.1 950 9) = (123 : Int32) then (k_X13_tone_136 rc (s.1 950 9) 29 s)
 else (if (s.1 950 9) = (64 : Int32) then (k_X13_tone_136 rc (s.1 950 9) 30 s)
 else (if (s.1 950 9) = (91 : Int32) then (k_X13_tone_136 rc (s.1 950 9) 31 s)
 else (if (s.1 950 9) = (40 : Int32) then (k_X13_tone_136 rc (s.1 950 9) 34 s)
 else (k_X13_tone_136 rc (s.1 950 9) 38 s)))))))
 else (k_X13_tone_57 rc s))))
set_option maxRecDepth 4000 in
set_option maxHeartbeats 1000000 in
theorem E_X13_tone (rc : RT_X13_base) {k : Nat} (H : RH_X13_base rc k) (s : t_S) (r : Int32 × t_S) (hr : m_X13_tone rc s = some r) : t_C yX13_tone cX13_tone 3 (some .int) (8 + (k + 1)) [.ref 950] s (fun v s' => v = some (.int r.1) ∧ s' = r.2) := by
  refine t_C.imp (P := fun v s' => ∃ x, v = some (.int x) ∧ (fun q => q = r) ((x, s'))) (t_C.of (by decide +kernel) (Nat.le_of_ble_eq_true rfl) ?_) (fun v s' hp => by obtain ⟨x, rfl, rfl⟩ := hp; exact ⟨rfl, rfl⟩)
  intro D cy ad bs X
  have hk : t_hk (m_X13_tone rc s) (fun q => q = r) := ⟨r, hr, rfl⟩
  show mj_G D cy ad bs X cX13_tone 3 yX13_tone.cls (some .int) yX13_tone.name (8 + (k + 1)) 0 0 1065 (t_P (fun v s' => ∃ x, v = some (.int x) ∧ (fun q => q = r) ((x, s')))) 0 [(0, .ref 950)] [] (t_m s) 1065 0 0
  refine mj_aload_n dX13_tone_0 0 rfl ?_
  refine t_getI dX13_tone_1 F_X13_385 qf_950_5 ?_
  refine mj_iconst (v := 1) dX13_tone_4 (by decide) ?_
  refine mj_icmp_ne 13 dX13_tone_5 (by decide) (fun z => t_negK hk z (fun hk => ?_)) (fun z => t_posK hk z (fun hk => ?_))
  · refine mj_aload_n dX13_tone_13 0 rfl ?_
    refine t_getI dX13_tone_14 F_X13_385 qf_950_5 ?_
    refine mj_iconst (v := 3) dX13_tone_17 (by decide) ?_
    refine mj_icmp_ne 40 dX13_tone_18 (by decide) (fun z => t_negK hk z (fun hk => ?_)) (fun z => t_posK hk z (fun hk => ?_))
    · refine mj_aload_n dX13_tone_40 0 rfl ?_
      refine t_getI dX13_tone_41 F_X13_385 qf_950_5 ?_
      refine mj_iconst (v := 2) dX13_tone_44 (by decide) ?_
      refine mj_icmp_eq 57 dX13_tone_45 (by decide) (fun z => t_posK hk z (fun hk => ?_)) (fun z => t_negK hk z (fun hk => ?_))
      · exact B_X13_tone_57 rc H _ _ hk
      · refine mj_aload_n dX13_tone_48 0 rfl ?_
        refine mj_bipush (v := 45) dX13_tone_49 (by decide) ?_
        refine t_callViP dX13_tone_51 M_X13_is (C_X13_is _ _) ML_X13_449 IM_X13_is SE_X13_is qc_950 rfl (As := [.int 45]) rfl rfl (by omega) (Nat.le_of_ble_eq_true rfl) (Nat.le_of_ble_eq_true rfl) (Nat.le_of_ble_eq_true rfl) ?_
        refine mj_if_eq 62 dX13_tone_54 (by decide) (fun z => t_posK hk z (fun hk => ?_)) (fun z => t_negK hk z (fun hk => ?_))
        · refine mj_aload_n dX13_tone_62 0 rfl ?_
          refine t_getI dX13_tone_63 F_X13_438 qf_950_9 ?_
          refine mj_istore_n 1 (lv2 := [(1, .int (s.1 950 9)), (0, .ref 950)]) dX13_tone_66 rfl (by decide) rfl ?_
          refine mj_aload_n dX13_tone_67 1 rfl ?_
          refine mj_iload_n dX13_tone_68 0 rfl ?_
          refine mj_bipush (v := 63) dX13_tone_69 (by decide) ?_
          refine mj_icmp_ne 79 dX13_tone_71 (by decide) (fun z => t_negK hk z (fun hk => ?_)) (fun z => t_posK hk z (fun hk => ?_))
          · refine mj_iload_n dX13_tone_79 0 rfl ?_
            refine mj_bipush (v := 42) dX13_tone_80 (by decide) ?_
            refine mj_icmp_ne 90 dX13_tone_82 (by decide) (fun z => t_negK hk z (fun hk => ?_)) (fun z => t_posK hk z (fun hk => ?_))
            · refine mj_iload_n dX13_tone_90 0 rfl ?_
              refine mj_bipush (v := 123) dX13_tone_91 (by decide) ?_
              refine mj_icmp_ne 101 dX13_tone_93 (by decide) (fun z => t_negK hk z (fun hk => ?_)) (fun z => t_posK hk z (fun hk => ?_))
              · refine mj_iload_n dX13_tone_101 0 rfl ?_
                refine mj_bipush (v := 64) dX13_tone_102 (by decide) ?_
                refine mj_icmp_ne 112 dX13_tone_104 (by decide) (fun z => t_negK hk z (fun hk => ?_)) (fun z => t_posK hk z (fun hk => ?_))
                · refine mj_iload_n dX13_tone_112 0 rfl ?_
                  refine mj_bipush (v := 91) dX13_tone_113 (by decide) ?_
                  refine mj_icmp_ne 123 dX13_tone_115 (by decide) (fun z => t_negK hk z (fun hk => ?_)) (fun z => t_posK hk z (fun hk => ?_))
                  · refine mj_iload_n dX13_tone_123 0 rfl ?_
                    refine mj_bipush (v := 40) dX13_tone_124 (by decide) ?_
                    refine mj_icmp_ne 134 dX13_tone_126 (by decide) (fun z => t_negK hk z (fun hk => ?_)) (fun z => t_posK hk z (fun hk => ?_))
                    · refine mj_bipush (v := 38) dX13_tone_134 (by decide) ?_
                      refine mj_sublv [(0, .ref 950), (1, .int (s.1 950 9))] [1, 0] rfl ?_
                      exact B_X13_tone_136 rc H _ _ _ _ hk
                    · refine mj_bipush (v := 34) dX13_tone_129 (by decide) ?_
                      refine mj_goto 136 dX13_tone_131 (by decide) ?_
                      refine mj_sublv [(0, .ref 950), (1, .int (s.1 950 9))] [1, 0] rfl ?_
                      exact B_X13_tone_136 rc H _ _ _ _ hk
                  · refine mj_bipush (v := 31) dX13_tone_118 (by decide) ?_
                    refine mj_goto 136 dX13_tone_120 (by decide) ?_
                    refine mj_sublv [(0, .ref 950), (1, .int (s.1 950 9))] [1, 0] rfl ?_
                    exact B_X13_tone_136 rc H _ _ _ _ hk
                · refine mj_bipush (v := 30) dX13_tone_107 (by decide) ?_
                  refine mj_goto 136 dX13_tone_109 (by decide) ?_
                  refine mj_sublv [(0, .ref 950), (1, .int (s.1 950 9))] [1, 0] rfl ?_
                  exact B_X13_tone_136 rc H _ _ _ _ hk
              · refine mj_bipush (v := 29) dX13_tone_96 (by decide) ?_
                refine mj_goto 136 dX13_tone_98 (by decide) ?_
                refine mj_sublv [(0, .ref 950), (1, .int (s.1 950 9))] [1, 0] rfl ?_
                exact B_X13_tone_136 rc H _ _ _ _ hk
            · refine mj_bipush (v := 21) dX13_tone_85 (by decide) ?_
              refine mj_goto 136 dX13_tone_87 (by decide) ?_
              refine mj_sublv [(0, .ref 950), (1, .int (s.1 950 9))] [1, 0] rfl ?_
              exact B_X13_tone_136 rc H _ _ _ _ hk
          · refine mj_bipush (v := 20) dX13_tone_74 (by decide) ?_
            refine mj_goto 136 dX13_tone_76 (by decide) ?_
            refine mj_sublv [(0, .ref 950), (1, .int (s.1 950 9))] [1, 0] rfl ?_
            exact B_X13_tone_136 rc H _ _ _ _ hk
        · exact B_X13_tone_57 rc H _ _ hk
    · refine mj_aload_n dX13_tone_21 0 rfl ?_
      refine mj_bipush (v := 26) dX13_tone_22 (by decide) ?_
      refine mj_iconst (v := 1) dX13_tone_24 (by decide) ?_
      refine t_bndK hk (fun r2 er2 hk => ?_)
      refine t_callViE dX13_tone_25 M_X13_node (C_X13_node _ _ _ _ er2) ML_X13_510 IM_X13_node SE_X13_node qc_950 rfl (As := [.int 26, .int 1]) rfl rfl (by omega) (Nat.le_of_ble_eq_true rfl) (Nat.le_of_ble_eq_true rfl) (Nat.le_of_ble_eq_true rfl) ?_
      refine mj_istore_n 1 (lv2 := [(1, .int r2.1), (0, .ref 950)]) dX13_tone_28 rfl (by decide) rfl ?_
      refine mj_aload_n dX13_tone_29 1 rfl ?_
      refine mj_iload_n dX13_tone_30 0 rfl ?_
      refine t_bndK hk (fun r3 er3 hk => ?_)
      refine t_callVvE dX13_tone_31 M_X13_keepText (C_X13_keepText _ _ _ er3) ML_X13_565 IM_X13_keepText SE_X13_keepText qc_950 rfl (As := [.int r2.1]) rfl rfl (by omega) (Nat.le_of_ble_eq_true rfl) (Nat.le_of_ble_eq_true rfl) (Nat.le_of_ble_eq_true rfl) ?_
      refine mj_aload_n dX13_tone_34 1 rfl ?_
      refine t_bndK hk (fun r4 er4 hk => ?_)
      refine t_callVvE dX13_tone_35 M_X13_next (C_X13_next _ _ er4) ML_X13_452 IM_X13_next SE_X13_next qc_950 rfl (As := []) rfl rfl (by omega) (Nat.le_of_ble_eq_true rfl) (Nat.le_of_ble_eq_true rfl) (Nat.le_of_ble_eq_true rfl) ?_
      refine mj_iload_n dX13_tone_38 0 rfl ?_
      exact t_somK hk (fun hf => t_iret dX13_tone_39 rfl rfl ⟨_, rfl, hf⟩ (Nat.le_of_ble_eq_true rfl) (Nat.le_of_ble_eq_true rfl))
  · refine mj_aload_n dX13_tone_8 0 rfl ?_
    refine t_bndK hk (fun r5 er5 hk => ?_)
    refine t_callSiE dX13_tone_9 M_X13_wordTone (H.2.2.2.2.2.2.2.2.2.2.2 _ _ er5) ML_X13_562 SM_X13_wordTone (As := [.ref 950]) rfl rfl (by omega) (Nat.le_of_ble_eq_true rfl) (Nat.le_of_ble_eq_true rfl) (Nat.le_of_ble_eq_true rfl) ?_
    exact t_somK hk (fun hf => t_iret dX13_tone_12 rfl rfl ⟨_, rfl, hf⟩ (Nat.le_of_ble_eq_true rfl) (Nat.le_of_ble_eq_true rfl))
noncomputable def k_X13_wordBase_251 (rc : RT_X13_base) (l3 : Int32) (s : t_S) : Option (Int32 × t_S) :=
 (f_X13_mustBe (41 : Int32) s).bind (fun r1 =>
 some (l3, r1))
set_option maxRecDepth 4000 in
set_option maxHeartbeats 1000000 in
theorem B_X13_wordBase_251 {D : va_G} {cy : Nat → ClassId} {ad : Nat → Nat} {bs : Nat} {X : State → Heap → Prop} (rc : RT_X13_base) {k : Nat} (H : RH_X13_base rc k) (l3 : Int32) (s : t_S) (Q : Int32 × t_S → Prop) (hk : t_hk (k_X13_wordBase_251 rc l3 s) Q) : mj_G D cy ad bs X cX13_wordBase 4 yX13_wordBase.cls (some .int) yX13_wordBase.name (8 + (k + 1)) 0 0 1065 (t_P (fun v s' => ∃ x, v = some (.int x) ∧ Q ((x, s')))) 251 [(0, .ref 950), (3, .int l3)] [] (t_m s) 1065 0 0 := by
  refine mj_aload_n dX13_wordBase_251 0 rfl ?_
  refine mj_bipush (v := 41) dX13_wordBase_252 (by decide) ?_
  refine t_bndK hk (fun r1 er1 hk => ?_)
  refine t_callVvE dX13_wordBase_254 M_X13_mustBe (C_X13_mustBe _ _ _ er1) ML_X13_528 IM_X13_mustBe SE_X13_mustBe qc_950 rfl (As := [.int 41]) rfl rfl (by omega) (Nat.le_of_ble_eq_true rfl) (Nat.le_of_ble_eq_true rfl) (Nat.le_of_ble_eq_true rfl) ?_
  refine mj_goto 291 dX13_wordBase_257 (by decide) ?_
  refine mj_iload_n dX13_wordBase_291 1 rfl ?_
  exact t_somK hk (fun hf => t_iret dX13_wordBase_292 rfl rfl ⟨_, rfl, hf⟩ (Nat.le_of_ble_eq_true rfl) (Nat.le_of_ble_eq_true rfl))
noncomputable def k_X13_wordBase_215 (rc : RT_X13_base) (l1 : Int32) (l3 : Int32) (s : t_S) : Option (Int32 × t_S) :=
 (f_X13_mustBe (40 : Int32) s).bind (fun r1 =>
 (rc.2.1 r1).bind (fun r2 =>
 (f_X13_hang l3 r2.1 r2.2).bind (fun r3 =>
 if l1 = (34 : Int32) then ((f_X13_mustBe (44 : Int32) r3).bind (fun r4 =>
 (rc.2.2.2.2.2.2.2.1 r4).bind (fun r5 =>
 (f_X13_hang l3 r5.1 r5.2).bind (fun r6 =>
 k_X13_wordBase_251 rc l3 r6))))
 else (k_X13_wordBase_251 rc l3 r3))))
set_option maxRecDepth 4000 in
set_option maxHeartbeats 1000000 in
theorem B_X13_wordBase_215 {D : va_G} {cy : Nat → ClassId} {ad : Nat → Nat} {bs : Nat} {X : State → Heap → Prop} (rc : RT_X13_base) {k : Nat} (H : RH_X13_base rc k) (l1 : Int32) (l3 : Int32) (s : t_S) (Q : Int32 × t_S → Prop) (hk : t_hk (k_X13_wordBase_215 rc l1 l3 s) Q) : mj_G D cy ad bs X cX13_wordBase 4 yX13_wordBase.cls (some .int) yX13_wordBase.name (8 + (k + 1)) 0 0 1065 (t_P (fun v s' => ∃ x, v = some (.int x) ∧ Q ((x, s')))) 215 [(0, .ref 950), (1, .int l1), (3, .int l3)] [] (t_m s) 1065 0 0 := by
  refine mj_aload_n dX13_wordBase_215 0 rfl ?_
  refine mj_bipush (v := 40) dX13_wordBase_216 (by decide) ?_
  refine t_bndK hk (fun r1 er1 hk => ?_)
  refine t_callVvE dX13_wordBase_218 M_X13_mustBe (C_X13_mustBe _ _ _ er1) ML_X13_528 IM_X13_mustBe SE_X13_mustBe qc_950 rfl (As := [.int 40]) rfl rfl (by omega) (Nat.le_of_ble_eq_true rfl) (Nat.le_of_ble_eq_true rfl) (Nat.le_of_ble_eq_true rfl) ?_
  refine mj_aload_n dX13_wordBase_221 0 rfl ?_
  refine mj_iload_n dX13_wordBase_222 2 rfl ?_
  refine mj_aload_n dX13_wordBase_223 0 rfl ?_
  refine t_bndK hk (fun r2 er2 hk => ?_)
  refine t_callSiE dX13_wordBase_224 M_X13_exp (H.2.1 _ _ er2) ML_X13_581 SM_X13_exp (As := [.ref 950]) rfl rfl (by omega) (Nat.le_of_ble_eq_true rfl) (Nat.le_of_ble_eq_true rfl) (Nat.le_of_ble_eq_true rfl) ?_
  refine t_bndK hk (fun r3 er3 hk => ?_)
  refine t_callVvE dX13_wordBase_227 M_X13_hang (C_X13_hang _ _ _ _ er3) ML_X13_507 IM_X13_hang SE_X13_hang qc_950 rfl (As := [.int l3, .int r2.1]) rfl rfl (by omega) (Nat.le_of_ble_eq_true rfl) (Nat.le_of_ble_eq_true rfl) (Nat.le_of_ble_eq_true rfl) ?_
  refine mj_iload_n dX13_wordBase_230 1 rfl ?_
  refine mj_bipush (v := 34) dX13_wordBase_231 (by decide) ?_
  refine mj_icmp_ne 251 dX13_wordBase_233 (by decide) (fun z => t_negK hk z (fun hk => ?_)) (fun z => t_posK hk z (fun hk => ?_))
  · refine mj_sublv [(0, .ref 950), (3, .int l3)] [0, 2] rfl ?_
    exact B_X13_wordBase_251 rc H _ _ _ hk
  · refine mj_aload_n dX13_wordBase_236 0 rfl ?_
    refine mj_bipush (v := 44) dX13_wordBase_237 (by decide) ?_
    refine t_bndK hk (fun r4 er4 hk => ?_)
    refine t_callVvE dX13_wordBase_239 M_X13_mustBe (C_X13_mustBe _ _ _ er4) ML_X13_528 IM_X13_mustBe SE_X13_mustBe qc_950 rfl (As := [.int 44]) rfl rfl (by omega) (Nat.le_of_ble_eq_true rfl) (Nat.le_of_ble_eq_true rfl) (Nat.le_of_ble_eq_true rfl) ?_
    refine mj_aload_n dX13_wordBase_242 0 rfl ?_
    refine mj_iload_n dX13_wordBase_243 2 rfl ?_
    refine mj_aload_n dX13_wordBase_244 0 rfl ?_
    refine t_bndK hk (fun r5 er5 hk => ?_)
    refine t_callSiE dX13_wordBase_245 M_X13_templ (H.2.2.2.2.2.2.2.1 _ _ er5) ML_X13_574 SM_X13_templ (As := [.ref 950]) rfl rfl (by omega) (Nat.le_of_ble_eq_true rfl) (Nat.le_of_ble_eq_true rfl) (Nat.le_of_ble_eq_true rfl) ?_
    refine t_bndK hk (fun r6 er6 hk => ?_)
    refine t_callVvE dX13_wordBase_248 M_X13_hang (C_X13_hang _ _ _ _ er6) ML_X13_507 IM_X13_hang SE_X13_hang qc_950 rfl (As := [.int l3, .int r5.1]) rfl rfl (by omega) (Nat.le_of_ble_eq_true rfl) (Nat.le_of_ble_eq_true rfl) (Nat.le_of_ble_eq_true rfl) ?_
    refine mj_sublv [(0, .ref 950), (3, .int l3)] [0, 2] rfl ?_
    exact B_X13_wordBase_251 rc H _ _ _ hk
noncomputable def k_X13_wordBase_199 (rc : RT_X13_base) (l1 : Int32) (l3 : Int32) (s : t_S) : Option (Int32 × t_S) :=
 (f_X13_next s).bind (fun r1 =>
 if l1 = (34 : Int32) then (k_X13_wordBase_215 rc l1 l3 r1)
 else (if l1 = (35 : Int32) then (k_X13_wordBase_215 rc l1 l3 r1)
 else (if l1 = (36 : Int32) then (if t_ix l3 13000 = true then
  t_let (t_setI r1 961 (l3.toNatClampNeg) (r1.1 950 6)) (fun s1 =>
 (f_X13_freeName s1).bind (fun r3 =>
 t_let (t_setJ r3.2 957 (l3.toNatClampNeg) r3.1.toInt64) (fun s2 =>
 (f_X13_next s2).bind (fun r4 =>
 some (l3, r4)))))
else none)
 else (some (l3, r1)))))
set_option maxRecDepth 4000 in
set_option maxHeartbeats 1000000 in
theorem B_X13_wordBase_199 {D : va_G} {cy : Nat → ClassId} {ad : Nat → Nat} {bs : Nat} {X : State → Heap → Prop} (rc : RT_X13_base) {k : Nat} (H : RH_X13_base rc k) (l1 : Int32) (l3 : Int32) (s : t_S) (Q : Int32 × t_S → Prop) (hk : t_hk (k_X13_wordBase_199 rc l1 l3 s) Q) : mj_G D cy ad bs X cX13_wordBase 4 yX13_wordBase.cls (some .int) yX13_wordBase.name (8 + (k + 1)) 0 0 1065 (t_P (fun v s' => ∃ x, v = some (.int x) ∧ Q ((x, s')))) 199 [(0, .ref 950), (1, .int l1), (3, .int l3)] [] (t_m s) 1065 0 0 := by
  refine mj_aload_n dX13_wordBase_199 0 rfl ?_
  refine t_bndK hk (fun r1 er1 hk => ?_)
  refine t_callVvE dX13_wordBase_200 M_X13_next (C_X13_next _ _ er1) ML_X13_452 IM_X13_next SE_X13_next qc_950 rfl (As := []) rfl rfl (by omega) (Nat.le_of_ble_eq_true rfl) (Nat.le_of_ble_eq_true rfl) (Nat.le_of_ble_eq_true rfl) ?_
  refine mj_iload_n dX13_wordBase_203 1 rfl ?_
  refine mj_bipush (v := 34) dX13_wordBase_204 (by decide) ?_
  refine mj_icmp_eq 215 dX13_wordBase_206 (by decide) (fun z => t_posK hk z (fun hk => ?_)) (fun z => t_negK hk z (fun hk => ?_))
  · exact B_X13_wordBase_215 rc H _ _ _ _ hk
  · refine mj_iload_n dX13_wordBase_209 1 rfl ?_
    refine mj_bipush (v := 35) dX13_wordBase_210 (by decide) ?_
    refine mj_icmp_ne 260 dX13_wordBase_212 (by decide) (fun z => t_negK hk z (fun hk => ?_)) (fun z => t_posK hk z (fun hk => ?_))
    · refine mj_iload_n dX13_wordBase_260 1 rfl ?_
      refine mj_bipush (v := 36) dX13_wordBase_261 (by decide) ?_
      refine mj_icmp_ne 291 dX13_wordBase_263 (by decide) (fun z => t_negK hk z (fun hk => ?_)) (fun z => t_posK hk z (fun hk => ?_))
      · refine mj_iload_n dX13_wordBase_291 2 rfl ?_
        exact t_somK hk (fun hf => t_iret dX13_wordBase_292 rfl rfl ⟨_, rfl, hf⟩ (Nat.le_of_ble_eq_true rfl) (Nat.le_of_ble_eq_true rfl))
      · refine mj_aload_n dX13_wordBase_266 0 rfl ?_
        refine t_getR 961 dX13_wordBase_267 F_X13_45 qr_950_23 ?_
        refine mj_iload_n dX13_wordBase_270 2 rfl ?_
        refine mj_aload_n dX13_wordBase_271 0 rfl ?_
        refine t_getI dX13_wordBase_272 F_X13_391 qf_950_6 ?_
        refine t_chkK hk (fun c1 hk => ?_)
        refine t_iastK dX13_wordBase_275 qa_961 (t_ixv c1) (fun s1 ws1 => t_letE hk ws1 (fun hk => ?_))
        refine mj_aload_n dX13_wordBase_276 0 rfl ?_
        refine t_getR 957 dX13_wordBase_277 F_X13_32 qr_950_19 ?_
        refine mj_iload_n dX13_wordBase_280 2 rfl ?_
        refine mj_aload_n dX13_wordBase_281 0 rfl ?_
        refine t_bndK hk (fun r3 er3 hk => ?_)
        refine t_callViE dX13_wordBase_282 M_X13_freeName (C_X13_freeName _ _ er3) ML_X13_535 IM_X13_freeName SE_X13_freeName qc_950 rfl (As := []) rfl rfl (by omega) (Nat.le_of_ble_eq_true rfl) (Nat.le_of_ble_eq_true rfl) (Nat.le_of_ble_eq_true rfl) ?_
        refine mj_i2l (v := r3.1.toInt64) dX13_wordBase_285 rfl ?_
        refine t_lastK dX13_wordBase_286 qa_957 (t_ixv c1) (fun s2 ws2 => t_letE hk ws2 (fun hk => ?_))
        refine mj_aload_n dX13_wordBase_287 0 rfl ?_
        refine t_bndK hk (fun r4 er4 hk => ?_)
        refine t_callVvE dX13_wordBase_288 M_X13_next (C_X13_next _ _ er4) ML_X13_452 IM_X13_next SE_X13_next qc_950 rfl (As := []) rfl rfl (by omega) (Nat.le_of_ble_eq_true rfl) (Nat.le_of_ble_eq_true rfl) (Nat.le_of_ble_eq_true rfl) ?_
        refine mj_iload_n dX13_wordBase_291 2 rfl ?_
        exact t_somK hk (fun hf => t_iret dX13_wordBase_292 rfl rfl ⟨_, rfl, hf⟩ (Nat.le_of_ble_eq_true rfl) (Nat.le_of_ble_eq_true rfl))
    · exact B_X13_wordBase_215 rc H _ _ _ _ hk
noncomputable def k_X13_wordBase_158 (rc : RT_X13_base) (l1 : Int32) (k0 : Int32) (s : t_S) : Option (Int32 × t_S) :=
 (f_X13_node k0 (1 : Int32) s).bind (fun r1 =>
 if t_ix r1.1 13000 = true then
  t_let (t_setJ r1.2 958 (r1.1.toNatClampNeg) ((r1.2.1 950 33).toInt64)) (fun s1 =>
 t_let (t_setI s1 961 (r1.1.toNatClampNeg) (s1.1 950 34)) (fun s2 =>
 if (0 : Int32) ≤ l1 then (k_X13_wordBase_199 rc l1 r1.1 s2)
 else ((f_X13_name s2).bind (fun r3 =>
 t_let (t_setJ r3.2 957 (r1.1.toNatClampNeg) r3.1.toInt64) (fun s3 =>
 k_X13_wordBase_199 rc l1 r1.1 s3)))))
else none)
set_option maxRecDepth 4000 in
set_option maxHeartbeats 1000000 in
theorem B_X13_wordBase_158 {D : va_G} {cy : Nat → ClassId} {ad : Nat → Nat} {bs : Nat} {X : State → Heap → Prop} (rc : RT_X13_base) {k : Nat} (H : RH_X13_base rc k) (l1 : Int32) (k0 : Int32) (s : t_S) (Q : Int32 × t_S → Prop) (hk : t_hk (k_X13_wordBase_158 rc l1 k0 s) Q) : mj_G D cy ad bs X cX13_wordBase 4 yX13_wordBase.cls (some .int) yX13_wordBase.name (8 + (k + 1)) 0 0 1065 (t_P (fun v s' => ∃ x, v = some (.int x) ∧ Q ((x, s')))) 158 [(0, .ref 950), (1, .int l1)] [.int k0, .ref 950] (t_m s) 1065 0 0 := by
  refine mj_iconst (v := 1) dX13_wordBase_158 (by decide) ?_
  refine t_bndK hk (fun r1 er1 hk => ?_)
  refine t_callViE dX13_wordBase_159 M_X13_node (C_X13_node _ _ _ _ er1) ML_X13_510 IM_X13_node SE_X13_node qc_950 rfl (As := [.int k0, .int 1]) rfl rfl (by omega) (Nat.le_of_ble_eq_true rfl) (Nat.le_of_ble_eq_true rfl) (Nat.le_of_ble_eq_true rfl) ?_
  refine mj_istore_n 3 (lv2 := [(3, .int r1.1), (0, .ref 950), (1, .int l1)]) dX13_wordBase_162 rfl (by decide) rfl ?_
  refine mj_aload_n dX13_wordBase_163 1 rfl ?_
  refine t_getR 958 dX13_wordBase_164 F_X13_36 qr_950_20 ?_
  refine mj_iload_n dX13_wordBase_167 0 rfl ?_
  refine mj_aload_n dX13_wordBase_168 1 rfl ?_
  refine t_getI dX13_wordBase_169 F_X13_584 qf_950_33 ?_
  refine mj_i2l (v := (r1.2.1 950 33).toInt64) dX13_wordBase_172 rfl ?_
  refine t_chkK hk (fun c1 hk => ?_)
  refine t_lastK dX13_wordBase_173 qa_958 (t_ixv c1) (fun s1 ws1 => t_letE hk ws1 (fun hk => ?_))
  refine mj_aload_n dX13_wordBase_174 1 rfl ?_
  refine t_getR 961 dX13_wordBase_175 F_X13_45 qr_950_23 ?_
  refine mj_iload_n dX13_wordBase_178 0 rfl ?_
  refine mj_aload_n dX13_wordBase_179 1 rfl ?_
  refine t_getI dX13_wordBase_180 F_X13_621 qf_950_34 ?_
  refine t_iastK dX13_wordBase_183 qa_961 (t_ixv c1) (fun s2 ws2 => t_letE hk ws2 (fun hk => ?_))
  refine mj_iload_n dX13_wordBase_184 2 rfl ?_
  refine mj_if_ge 199 dX13_wordBase_185 (by decide) (fun z => t_posK hk z (fun hk => ?_)) (fun z => t_negK hk z (fun hk => ?_))
  · refine mj_sublv [(0, .ref 950), (1, .int l1), (3, .int r1.1)] [1, 2, 0] rfl ?_
    exact B_X13_wordBase_199 rc H _ _ _ _ hk
  · refine mj_aload_n dX13_wordBase_188 1 rfl ?_
    refine t_getR 957 dX13_wordBase_189 F_X13_32 qr_950_19 ?_
    refine mj_iload_n dX13_wordBase_192 0 rfl ?_
    refine mj_aload_n dX13_wordBase_193 1 rfl ?_
    refine t_bndK hk (fun r3 er3 hk => ?_)
    refine t_callViE dX13_wordBase_194 M_X13_name (C_X13_name _ _ er3) ML_X13_468 IM_X13_name SE_X13_name qc_950 rfl (As := []) rfl rfl (by omega) (Nat.le_of_ble_eq_true rfl) (Nat.le_of_ble_eq_true rfl) (Nat.le_of_ble_eq_true rfl) ?_
    refine mj_i2l (v := r3.1.toInt64) dX13_wordBase_197 rfl ?_
    refine t_lastK dX13_wordBase_198 qa_957 (t_ixv c1) (fun s3 ws3 => t_letE hk ws3 (fun hk => ?_))
    refine mj_sublv [(0, .ref 950), (1, .int l1), (3, .int r1.1)] [1, 2, 0] rfl ?_
    exact B_X13_wordBase_199 rc H _ _ _ _ hk
noncomputable def k_X13_wordBase_42 (rc : RT_X13_base) (l1 : Int32) (k0 : Int32) (s : t_S) : Option (Int32 × t_S) :=
 if k0 = (0 : Int32) then ((f_X13_fail (2 : Int32) (s.1 950 6) s).bind (fun r1 =>
 some ((0 : Int32), r1)))
 else (if (0 : Int32) ≤ l1 then (if l1 = (21 : Int32) then (k_X13_wordBase_158 rc l1 51 s)
 else (if l1 = (22 : Int32) then (k_X13_wordBase_158 rc l1 52 s)
 else (if l1 = (23 : Int32) then (k_X13_wordBase_158 rc l1 54 s)
 else (if l1 = (31 : Int32) then (k_X13_wordBase_158 rc l1 55 s)
 else (if l1 = (32 : Int32) then (k_X13_wordBase_158 rc l1 56 s)
 else (if l1 = (33 : Int32) then (k_X13_wordBase_158 rc l1 57 s)
 else (if l1 = (34 : Int32) then (k_X13_wordBase_158 rc l1 61 s)
 else (if l1 = (35 : Int32) then (k_X13_wordBase_158 rc l1 62 s)
 else (k_X13_wordBase_158 rc l1 63 s)))))))))
 else (k_X13_wordBase_158 rc l1 58 s))
set_option maxRecDepth 4000 in
set_option maxHeartbeats 1000000 in
theorem B_X13_wordBase_42 {D : va_G} {cy : Nat → ClassId} {ad : Nat → Nat} {bs : Nat} {X : State → Heap → Prop} (rc : RT_X13_base) {k : Nat} (H : RH_X13_base rc k) (l1 : Int32) (k0 : Int32) (s : t_S) (Q : Int32 × t_S → Prop) (hk : t_hk (k_X13_wordBase_42 rc l1 k0 s) Q) : mj_G D cy ad bs X cX13_wordBase 4 yX13_wordBase.cls (some .int) yX13_wordBase.name (8 + (k + 1)) 0 0 1065 (t_P (fun v s' => ∃ x, v = some (.int x) ∧ Q ((x, s')))) 42 [(0, .ref 950), (1, .int l1)] [.int k0] (t_m s) 1065 0 0 := by
  refine mj_istore_n 2 (lv2 := [(2, .int k0), (0, .ref 950), (1, .int l1)]) dX13_wordBase_42 rfl (by decide) rfl ?_
  refine mj_iload_n dX13_wordBase_43 0 rfl ?_
  refine mj_if_ne 58 dX13_wordBase_44 (by decide) (fun z => t_negK hk z (fun hk => ?_)) (fun z => t_posK hk z (fun hk => ?_))
  · refine mj_aload_n dX13_wordBase_58 1 rfl ?_
    refine mj_iload_n dX13_wordBase_59 2 rfl ?_
    refine mj_if_ge 68 dX13_wordBase_60 (by decide) (fun z => t_posK hk z (fun hk => ?_)) (fun z => t_negK hk z (fun hk => ?_))
    · refine mj_iload_n dX13_wordBase_68 2 rfl ?_
      refine mj_bipush (v := 21) dX13_wordBase_69 (by decide) ?_
      refine mj_icmp_ne 79 dX13_wordBase_71 (by decide) (fun z => t_negK hk z (fun hk => ?_)) (fun z => t_posK hk z (fun hk => ?_))
      · refine mj_iload_n dX13_wordBase_79 2 rfl ?_
        refine mj_bipush (v := 22) dX13_wordBase_80 (by decide) ?_
        refine mj_icmp_ne 90 dX13_wordBase_82 (by decide) (fun z => t_negK hk z (fun hk => ?_)) (fun z => t_posK hk z (fun hk => ?_))
        · refine mj_iload_n dX13_wordBase_90 2 rfl ?_
          refine mj_bipush (v := 23) dX13_wordBase_91 (by decide) ?_
          refine mj_icmp_ne 101 dX13_wordBase_93 (by decide) (fun z => t_negK hk z (fun hk => ?_)) (fun z => t_posK hk z (fun hk => ?_))
          · refine mj_iload_n dX13_wordBase_101 2 rfl ?_
            refine mj_bipush (v := 31) dX13_wordBase_102 (by decide) ?_
            refine mj_icmp_ne 112 dX13_wordBase_104 (by decide) (fun z => t_negK hk z (fun hk => ?_)) (fun z => t_posK hk z (fun hk => ?_))
            · refine mj_iload_n dX13_wordBase_112 2 rfl ?_
              refine mj_bipush (v := 32) dX13_wordBase_113 (by decide) ?_
              refine mj_icmp_ne 123 dX13_wordBase_115 (by decide) (fun z => t_negK hk z (fun hk => ?_)) (fun z => t_posK hk z (fun hk => ?_))
              · refine mj_iload_n dX13_wordBase_123 2 rfl ?_
                refine mj_bipush (v := 33) dX13_wordBase_124 (by decide) ?_
                refine mj_icmp_ne 134 dX13_wordBase_126 (by decide) (fun z => t_negK hk z (fun hk => ?_)) (fun z => t_posK hk z (fun hk => ?_))
                · refine mj_iload_n dX13_wordBase_134 2 rfl ?_
                  refine mj_bipush (v := 34) dX13_wordBase_135 (by decide) ?_
                  refine mj_icmp_ne 145 dX13_wordBase_137 (by decide) (fun z => t_negK hk z (fun hk => ?_)) (fun z => t_posK hk z (fun hk => ?_))
                  · refine mj_iload_n dX13_wordBase_145 2 rfl ?_
                    refine mj_bipush (v := 35) dX13_wordBase_146 (by decide) ?_
                    refine mj_icmp_ne 156 dX13_wordBase_148 (by decide) (fun z => t_negK hk z (fun hk => ?_)) (fun z => t_posK hk z (fun hk => ?_))
                    · refine mj_bipush (v := 63) dX13_wordBase_156 (by decide) ?_
                      refine mj_sublv [(0, .ref 950), (1, .int l1)] [1, 2] rfl ?_
                      exact B_X13_wordBase_158 rc H _ _ _ _ hk
                    · refine mj_bipush (v := 62) dX13_wordBase_151 (by decide) ?_
                      refine mj_goto 158 dX13_wordBase_153 (by decide) ?_
                      refine mj_sublv [(0, .ref 950), (1, .int l1)] [1, 2] rfl ?_
                      exact B_X13_wordBase_158 rc H _ _ _ _ hk
                  · refine mj_bipush (v := 61) dX13_wordBase_140 (by decide) ?_
                    refine mj_goto 158 dX13_wordBase_142 (by decide) ?_
                    refine mj_sublv [(0, .ref 950), (1, .int l1)] [1, 2] rfl ?_
                    exact B_X13_wordBase_158 rc H _ _ _ _ hk
                · refine mj_bipush (v := 57) dX13_wordBase_129 (by decide) ?_
                  refine mj_goto 158 dX13_wordBase_131 (by decide) ?_
                  refine mj_sublv [(0, .ref 950), (1, .int l1)] [1, 2] rfl ?_
                  exact B_X13_wordBase_158 rc H _ _ _ _ hk
              · refine mj_bipush (v := 56) dX13_wordBase_118 (by decide) ?_
                refine mj_goto 158 dX13_wordBase_120 (by decide) ?_
                refine mj_sublv [(0, .ref 950), (1, .int l1)] [1, 2] rfl ?_
                exact B_X13_wordBase_158 rc H _ _ _ _ hk
            · refine mj_bipush (v := 55) dX13_wordBase_107 (by decide) ?_
              refine mj_goto 158 dX13_wordBase_109 (by decide) ?_
              refine mj_sublv [(0, .ref 950), (1, .int l1)] [1, 2] rfl ?_
              exact B_X13_wordBase_158 rc H _ _ _ _ hk
          · refine mj_bipush (v := 54) dX13_wordBase_96 (by decide) ?_
            refine mj_goto 158 dX13_wordBase_98 (by decide) ?_
            refine mj_sublv [(0, .ref 950), (1, .int l1)] [1, 2] rfl ?_
            exact B_X13_wordBase_158 rc H _ _ _ _ hk
        · refine mj_bipush (v := 52) dX13_wordBase_85 (by decide) ?_
          refine mj_goto 158 dX13_wordBase_87 (by decide) ?_
          refine mj_sublv [(0, .ref 950), (1, .int l1)] [1, 2] rfl ?_
          exact B_X13_wordBase_158 rc H _ _ _ _ hk
      · refine mj_bipush (v := 51) dX13_wordBase_74 (by decide) ?_
        refine mj_goto 158 dX13_wordBase_76 (by decide) ?_
        refine mj_sublv [(0, .ref 950), (1, .int l1)] [1, 2] rfl ?_
        exact B_X13_wordBase_158 rc H _ _ _ _ hk
    · refine mj_bipush (v := 58) dX13_wordBase_63 (by decide) ?_
      refine mj_goto 158 dX13_wordBase_65 (by decide) ?_
      refine mj_sublv [(0, .ref 950), (1, .int l1)] [1, 2] rfl ?_
      exact B_X13_wordBase_158 rc H _ _ _ _ hk
  · refine mj_aload_n dX13_wordBase_47 1 rfl ?_
    refine mj_iconst (v := 2) dX13_wordBase_48 (by decide) ?_
    refine mj_aload_n dX13_wordBase_49 1 rfl ?_
    refine t_getI dX13_wordBase_50 F_X13_391 qf_950_6 ?_
    refine t_bndK hk (fun r1 er1 hk => ?_)
    refine t_callVvE dX13_wordBase_53 M_X13_fail (C_X13_fail _ _ _ _ er1) ML_X13_411 IM_X13_fail SE_X13_fail qc_950 rfl (As := [.int 2, .int (s.1 950 6)]) rfl rfl (by omega) (Nat.le_of_ble_eq_true rfl) (Nat.le_of_ble_eq_true rfl) (Nat.le_of_ble_eq_true rfl) ?_
    refine mj_iconst (v := 0) dX13_wordBase_56 (by decide) ?_
    exact t_somK hk (fun hf => t_iret dX13_wordBase_57 rfl rfl ⟨_, rfl, hf⟩ (Nat.le_of_ble_eq_true rfl) (Nat.le_of_ble_eq_true rfl))
noncomputable def k_X13_wordBase_37 (rc : RT_X13_base) (l1 : Int32) (s : t_S) : Option (Int32 × t_S) :=
 k_X13_wordBase_42 rc l1 1 s
set_option maxRecDepth 4000 in
set_option maxHeartbeats 1000000 in
theorem B_X13_wordBase_37 {D : va_G} {cy : Nat → ClassId} {ad : Nat → Nat} {bs : Nat} {X : State → Heap → Prop} (rc : RT_X13_base) {k : Nat} (H : RH_X13_base rc k) (l1 : Int32) (s : t_S) (Q : Int32 × t_S → Prop) (hk : t_hk (k_X13_wordBase_37 rc l1 s) Q) : mj_G D cy ad bs X cX13_wordBase 4 yX13_wordBase.cls (some .int) yX13_wordBase.name (8 + (k + 1)) 0 0 1065 (t_P (fun v s' => ∃ x, v = some (.int x) ∧ Q ((x, s')))) 37 [(0, .ref 950), (1, .int l1)] [] (t_m s) 1065 0 0 := by
  refine mj_iconst (v := 1) dX13_wordBase_37 (by decide) ?_
  refine mj_goto 42 dX13_wordBase_38 (by decide) ?_
  exact B_X13_wordBase_42 rc H _ _ _ _ hk
noncomputable def m_X13_wordBase (rc : RT_X13_base) (s : t_S) : Option (Int32 × t_S) :=
 if (s.1 950 10) < (0 : Int32) then (k_X13_wordBase_37 rc (s.1 950 10) s)
 else (if (f_X13_in ((s.1 950 10).toInt64) (21 : Int64) (23 : Int64) s) = (0 : Int32) then (if (f_X13_in ((s.1 950 10).toInt64) (31 : Int64) (36 : Int64) s) = (0 : Int32) then (k_X13_wordBase_42 rc (s.1 950 10) 0 s)
 else (k_X13_wordBase_37 rc (s.1 950 10) s))
 else (k_X13_wordBase_37 rc (s.1 950 10) s))
set_option maxRecDepth 4000 in
set_option maxHeartbeats 1000000 in
theorem E_X13_wordBase (rc : RT_X13_base) {k : Nat} (H : RH_X13_base rc k) (s : t_S) (r : Int32 × t_S) (hr : m_X13_wordBase rc s = some r) : t_C yX13_wordBase cX13_wordBase 4 (some .int) (8 + (k + 1)) [.ref 950] s (fun v s' => v = some (.int r.1) ∧ s' = r.2) := by
  refine t_C.imp (P := fun v s' => ∃ x, v = some (.int x) ∧ (fun q => q = r) ((x, s'))) (t_C.of (by decide +kernel) (Nat.le_of_ble_eq_true rfl) ?_) (fun v s' hp => by obtain ⟨x, rfl, rfl⟩ := hp; exact ⟨rfl, rfl⟩)
  intro D cy ad bs X
  have hk : t_hk (m_X13_wordBase rc s) (fun q => q = r) := ⟨r, hr, rfl⟩
  show mj_G D cy ad bs X cX13_wordBase 4 yX13_wordBase.cls (some .int) yX13_wordBase.name (8 + (k + 1)) 0 0 1065 (t_P (fun v s' => ∃ x, v = some (.int x) ∧ (fun q => q = r) ((x, s')))) 0 [(0, .ref 950)] [] (t_m s) 1065 0 0
  refine mj_aload_n dX13_wordBase_0 0 rfl ?_
  refine t_getI dX13_wordBase_1 F_X13_397 qf_950_10 ?_
  refine mj_istore_n 1 (lv2 := [(1, .int (s.1 950 10)), (0, .ref 950)]) dX13_wordBase_4 rfl (by decide) rfl ?_
  refine mj_iload_n dX13_wordBase_5 0 rfl ?_
  refine mj_if_lt 37 dX13_wordBase_6 (by decide) (fun z => t_posK hk z (fun hk => ?_)) (fun z => t_negK hk z (fun hk => ?_))
  · refine mj_sublv [(0, .ref 950), (1, .int (s.1 950 10))] [1, 0] rfl ?_
    exact B_X13_wordBase_37 rc H _ _ _ hk
  · refine mj_iload_n dX13_wordBase_9 0 rfl ?_
    refine mj_i2l (v := (s.1 950 10).toInt64) dX13_wordBase_10 rfl ?_
    refine mj_ldc2 dX13_wordBase_11 K_X13_542 ?_
    refine mj_ldc2 dX13_wordBase_14 K_X13_544 ?_
    refine t_callSiP dX13_wordBase_17 M_X13_in (C_X13_in _ _ _ _) ML_X13_371 SM_X13_in (As := [.long ((s.1 950 10).toInt64), .long 21, .long 23]) rfl rfl (by omega) (Nat.le_of_ble_eq_true rfl) (Nat.le_of_ble_eq_true rfl) (Nat.le_of_ble_eq_true rfl) ?_
    refine mj_if_ne 37 dX13_wordBase_20 (by decide) (fun z => t_negK hk z (fun hk => ?_)) (fun z => t_posK hk z (fun hk => ?_))
    · refine mj_sublv [(0, .ref 950), (1, .int (s.1 950 10))] [1, 0] rfl ?_
      exact B_X13_wordBase_37 rc H _ _ _ hk
    · refine mj_iload_n dX13_wordBase_23 0 rfl ?_
      refine mj_i2l (v := (s.1 950 10).toInt64) dX13_wordBase_24 rfl ?_
      refine mj_ldc2 dX13_wordBase_25 K_X13_619 ?_
      refine mj_ldc2 dX13_wordBase_28 K_X13_548 ?_
      refine t_callSiP dX13_wordBase_31 M_X13_in (C_X13_in _ _ _ _) ML_X13_371 SM_X13_in (As := [.long ((s.1 950 10).toInt64), .long 31, .long 36]) rfl rfl (by omega) (Nat.le_of_ble_eq_true rfl) (Nat.le_of_ble_eq_true rfl) (Nat.le_of_ble_eq_true rfl) ?_
      refine mj_if_eq 41 dX13_wordBase_34 (by decide) (fun z => t_posK hk z (fun hk => ?_)) (fun z => t_negK hk z (fun hk => ?_))
      · refine mj_iconst (v := 0) dX13_wordBase_41 (by decide) ?_
        refine mj_sublv [(0, .ref 950), (1, .int (s.1 950 10))] [1, 0] rfl ?_
        exact B_X13_wordBase_42 rc H _ _ _ _ hk
      · refine mj_sublv [(0, .ref 950), (1, .int (s.1 950 10))] [1, 0] rfl ?_
        exact B_X13_wordBase_37 rc H _ _ _ hk
noncomputable def k_X13_wordTone_152 (rc : RT_X13_base) (l2 : Int32) (s : t_S) : Option (Int32 × t_S) :=
 (f_X13_keepText l2 s).bind (fun r1 =>
 (f_X13_next r1).bind (fun r2 =>
 some (l2, r2)))
set_option maxRecDepth 4000 in
set_option maxHeartbeats 1000000 in
theorem B_X13_wordTone_152 {D : va_G} {cy : Nat → ClassId} {ad : Nat → Nat} {bs : Nat} {X : State → Heap → Prop} (rc : RT_X13_base) {k : Nat} (H : RH_X13_base rc k) (l2 : Int32) (s : t_S) (Q : Int32 × t_S → Prop) (hk : t_hk (k_X13_wordTone_152 rc l2 s) Q) : mj_G D cy ad bs X cX13_wordTone 3 yX13_wordTone.cls (some .int) yX13_wordTone.name (8 + (k + 1)) 0 0 1065 (t_P (fun v s' => ∃ x, v = some (.int x) ∧ Q ((x, s')))) 152 [(0, .ref 950), (2, .int l2)] [] (t_m s) 1065 0 0 := by
  refine mj_aload_n dX13_wordTone_152 0 rfl ?_
  refine mj_iload_n dX13_wordTone_153 1 rfl ?_
  refine t_bndK hk (fun r1 er1 hk => ?_)
  refine t_callVvE dX13_wordTone_154 M_X13_keepText (C_X13_keepText _ _ _ er1) ML_X13_565 IM_X13_keepText SE_X13_keepText qc_950 rfl (As := [.int l2]) rfl rfl (by omega) (Nat.le_of_ble_eq_true rfl) (Nat.le_of_ble_eq_true rfl) (Nat.le_of_ble_eq_true rfl) ?_
  refine mj_aload_n dX13_wordTone_157 0 rfl ?_
  refine t_bndK hk (fun r2 er2 hk => ?_)
  refine t_callVvE dX13_wordTone_158 M_X13_next (C_X13_next _ _ er2) ML_X13_452 IM_X13_next SE_X13_next qc_950 rfl (As := []) rfl rfl (by omega) (Nat.le_of_ble_eq_true rfl) (Nat.le_of_ble_eq_true rfl) (Nat.le_of_ble_eq_true rfl) ?_
  refine mj_goto 200 dX13_wordTone_161 (by decide) ?_
  refine mj_iload_n dX13_wordTone_200 1 rfl ?_
  exact t_somK hk (fun hf => t_iret dX13_wordTone_201 rfl rfl ⟨_, rfl, hf⟩ (Nat.le_of_ble_eq_true rfl) (Nat.le_of_ble_eq_true rfl))
noncomputable def k_X13_wordTone_182 (rc : RT_X13_base) (l2 : Int32) (s : t_S) : Option (Int32 × t_S) :=
 (f_X13_mustBe (40 : Int32) s).bind (fun r1 =>
 (rc.2.2.2.2.2.2.2.2.1 l2 (0 : Int32) r1).bind (fun r2 =>
 (f_X13_mustBe (41 : Int32) r2).bind (fun r3 =>
 some (l2, r3))))
set_option maxRecDepth 4000 in
set_option maxHeartbeats 1000000 in
theorem B_X13_wordTone_182 {D : va_G} {cy : Nat → ClassId} {ad : Nat → Nat} {bs : Nat} {X : State → Heap → Prop} (rc : RT_X13_base) {k : Nat} (H : RH_X13_base rc k) (l2 : Int32) (s : t_S) (Q : Int32 × t_S → Prop) (hk : t_hk (k_X13_wordTone_182 rc l2 s) Q) : mj_G D cy ad bs X cX13_wordTone 3 yX13_wordTone.cls (some .int) yX13_wordTone.name (8 + (k + 1)) 0 0 1065 (t_P (fun v s' => ∃ x, v = some (.int x) ∧ Q ((x, s')))) 182 [(0, .ref 950), (2, .int l2)] [] (t_m s) 1065 0 0 := by
  refine mj_aload_n dX13_wordTone_182 0 rfl ?_
  refine mj_bipush (v := 40) dX13_wordTone_183 (by decide) ?_
  refine t_bndK hk (fun r1 er1 hk => ?_)
  refine t_callVvE dX13_wordTone_185 M_X13_mustBe (C_X13_mustBe _ _ _ er1) ML_X13_528 IM_X13_mustBe SE_X13_mustBe qc_950 rfl (As := [.int 40]) rfl rfl (by omega) (Nat.le_of_ble_eq_true rfl) (Nat.le_of_ble_eq_true rfl) (Nat.le_of_ble_eq_true rfl) ?_
  refine mj_aload_n dX13_wordTone_188 0 rfl ?_
  refine mj_iload_n dX13_wordTone_189 1 rfl ?_
  refine mj_iconst (v := 0) dX13_wordTone_190 (by decide) ?_
  refine t_bndK hk (fun r2 er2 hk => ?_)
  refine t_callSvE dX13_wordTone_191 M_X13_templs (H.2.2.2.2.2.2.2.2.1 _ _ _ _ er2) ML_X13_577 SM_X13_templs (As := [.ref 950, .int l2, .int 0]) rfl rfl (by omega) (Nat.le_of_ble_eq_true rfl) (Nat.le_of_ble_eq_true rfl) (Nat.le_of_ble_eq_true rfl) ?_
  refine mj_aload_n dX13_wordTone_194 0 rfl ?_
  refine mj_bipush (v := 41) dX13_wordTone_195 (by decide) ?_
  refine t_bndK hk (fun r3 er3 hk => ?_)
  refine t_callVvE dX13_wordTone_197 M_X13_mustBe (C_X13_mustBe _ _ _ er3) ML_X13_528 IM_X13_mustBe SE_X13_mustBe qc_950 rfl (As := [.int 41]) rfl rfl (by omega) (Nat.le_of_ble_eq_true rfl) (Nat.le_of_ble_eq_true rfl) (Nat.le_of_ble_eq_true rfl) ?_
  refine mj_iload_n dX13_wordTone_200 1 rfl ?_
  exact t_somK hk (fun hf => t_iret dX13_wordTone_201 rfl rfl ⟨_, rfl, hf⟩ (Nat.le_of_ble_eq_true rfl) (Nat.le_of_ble_eq_true rfl))
noncomputable def k_X13_wordTone_125 (rc : RT_X13_base) (l1 : Int32) (l2 : Int32) (s : t_S) : Option (Int32 × t_S) :=
 (f_X13_next s).bind (fun r1 =>
 if l1 = (26 : Int32) then (if (r1.1 950 5) = (3 : Int32) then (k_X13_wordTone_152 rc l2 r1)
 else ((f_X13_fail (2 : Int32) (r1.1 950 6) r1).bind (fun r2 =>
 k_X13_wordTone_152 rc l2 r2)))
 else (if l1 = (24 : Int32) then (k_X13_wordTone_182 rc l2 r1)
 else (if l1 = (25 : Int32) then (k_X13_wordTone_182 rc l2 r1)
 else (if l1 < (27 : Int32) then (some (l2, r1))
 else (k_X13_wordTone_182 rc l2 r1)))))
set_option maxRecDepth 4000 in
set_option maxHeartbeats 1000000 in
theorem B_X13_wordTone_125 {D : va_G} {cy : Nat → ClassId} {ad : Nat → Nat} {bs : Nat} {X : State → Heap → Prop} (rc : RT_X13_base) {k : Nat} (H : RH_X13_base rc k) (l1 : Int32) (l2 : Int32) (s : t_S) (Q : Int32 × t_S → Prop) (hk : t_hk (k_X13_wordTone_125 rc l1 l2 s) Q) : mj_G D cy ad bs X cX13_wordTone 3 yX13_wordTone.cls (some .int) yX13_wordTone.name (8 + (k + 1)) 0 0 1065 (t_P (fun v s' => ∃ x, v = some (.int x) ∧ Q ((x, s')))) 125 [(0, .ref 950), (1, .int l1), (2, .int l2)] [] (t_m s) 1065 0 0 := by
  refine mj_aload_n dX13_wordTone_125 0 rfl ?_
  refine t_bndK hk (fun r1 er1 hk => ?_)
  refine t_callVvE dX13_wordTone_126 M_X13_next (C_X13_next _ _ er1) ML_X13_452 IM_X13_next SE_X13_next qc_950 rfl (As := []) rfl rfl (by omega) (Nat.le_of_ble_eq_true rfl) (Nat.le_of_ble_eq_true rfl) (Nat.le_of_ble_eq_true rfl) ?_
  refine mj_iload_n dX13_wordTone_129 1 rfl ?_
  refine mj_bipush (v := 26) dX13_wordTone_130 (by decide) ?_
  refine mj_icmp_ne 164 dX13_wordTone_132 (by decide) (fun z => t_negK hk z (fun hk => ?_)) (fun z => t_posK hk z (fun hk => ?_))
  · refine mj_iload_n dX13_wordTone_164 1 rfl ?_
    refine mj_bipush (v := 24) dX13_wordTone_165 (by decide) ?_
    refine mj_icmp_eq 182 dX13_wordTone_167 (by decide) (fun z => t_posK hk z (fun hk => ?_)) (fun z => t_negK hk z (fun hk => ?_))
    · refine mj_sublv [(0, .ref 950), (2, .int l2)] [0, 2] rfl ?_
      exact B_X13_wordTone_182 rc H _ _ _ hk
    · refine mj_iload_n dX13_wordTone_170 1 rfl ?_
      refine mj_bipush (v := 25) dX13_wordTone_171 (by decide) ?_
      refine mj_icmp_eq 182 dX13_wordTone_173 (by decide) (fun z => t_posK hk z (fun hk => ?_)) (fun z => t_negK hk z (fun hk => ?_))
      · refine mj_sublv [(0, .ref 950), (2, .int l2)] [0, 2] rfl ?_
        exact B_X13_wordTone_182 rc H _ _ _ hk
      · refine mj_iload_n dX13_wordTone_176 1 rfl ?_
        refine mj_bipush (v := 27) dX13_wordTone_177 (by decide) ?_
        refine mj_icmp_lt 200 dX13_wordTone_179 (by decide) (fun z => t_posK hk z (fun hk => ?_)) (fun z => t_negK hk z (fun hk => ?_))
        · refine mj_iload_n dX13_wordTone_200 2 rfl ?_
          exact t_somK hk (fun hf => t_iret dX13_wordTone_201 rfl rfl ⟨_, rfl, hf⟩ (Nat.le_of_ble_eq_true rfl) (Nat.le_of_ble_eq_true rfl))
        · refine mj_sublv [(0, .ref 950), (2, .int l2)] [0, 2] rfl ?_
          exact B_X13_wordTone_182 rc H _ _ _ hk
  · refine mj_aload_n dX13_wordTone_135 0 rfl ?_
    refine t_getI dX13_wordTone_136 F_X13_385 qf_950_5 ?_
    refine mj_iconst (v := 3) dX13_wordTone_139 (by decide) ?_
    refine mj_icmp_eq 152 dX13_wordTone_140 (by decide) (fun z => t_posK hk z (fun hk => ?_)) (fun z => t_negK hk z (fun hk => ?_))
    · refine mj_sublv [(0, .ref 950), (2, .int l2)] [0, 2] rfl ?_
      exact B_X13_wordTone_152 rc H _ _ _ hk
    · refine mj_aload_n dX13_wordTone_143 0 rfl ?_
      refine mj_iconst (v := 2) dX13_wordTone_144 (by decide) ?_
      refine mj_aload_n dX13_wordTone_145 0 rfl ?_
      refine t_getI dX13_wordTone_146 F_X13_391 qf_950_6 ?_
      refine t_bndK hk (fun r2 er2 hk => ?_)
      refine t_callVvE dX13_wordTone_149 M_X13_fail (C_X13_fail _ _ _ _ er2) ML_X13_411 IM_X13_fail SE_X13_fail qc_950 rfl (As := [.int 2, .int (r1.1 950 6)]) rfl rfl (by omega) (Nat.le_of_ble_eq_true rfl) (Nat.le_of_ble_eq_true rfl) (Nat.le_of_ble_eq_true rfl) ?_
      refine mj_sublv [(0, .ref 950), (2, .int l2)] [0, 2] rfl ?_
      exact B_X13_wordTone_152 rc H _ _ _ hk
noncomputable def k_X13_wordTone_94 (rc : RT_X13_base) (l1 : Int32) (k0 : Int32) (s : t_S) : Option (Int32 × t_S) :=
 (f_X13_node k0 (1 : Int32) s).bind (fun r1 =>
 if (0 : Int32) ≤ l1 then (k_X13_wordTone_125 rc l1 r1.1 r1.2)
 else ((f_X13_name r1.2).bind (fun r2 =>
 if t_ix r1.1 13000 = true then
  t_let (t_setJ r2.2 957 (r1.1.toNatClampNeg) r2.1.toInt64) (fun s1 =>
 t_let (t_setJ s1 958 (r1.1.toNatClampNeg) ((s1.1 950 33).toInt64)) (fun s2 =>
 k_X13_wordTone_125 rc l1 r1.1 s2))
else none)))
set_option maxRecDepth 4000 in
set_option maxHeartbeats 1000000 in
theorem B_X13_wordTone_94 {D : va_G} {cy : Nat → ClassId} {ad : Nat → Nat} {bs : Nat} {X : State → Heap → Prop} (rc : RT_X13_base) {k : Nat} (H : RH_X13_base rc k) (l1 : Int32) (k0 : Int32) (s : t_S) (Q : Int32 × t_S → Prop) (hk : t_hk (k_X13_wordTone_94 rc l1 k0 s) Q) : mj_G D cy ad bs X cX13_wordTone 3 yX13_wordTone.cls (some .int) yX13_wordTone.name (8 + (k + 1)) 0 0 1065 (t_P (fun v s' => ∃ x, v = some (.int x) ∧ Q ((x, s')))) 94 [(0, .ref 950), (1, .int l1)] [.int k0, .ref 950] (t_m s) 1065 0 0 := by
  refine mj_iconst (v := 1) dX13_wordTone_94 (by decide) ?_
  refine t_bndK hk (fun r1 er1 hk => ?_)
  refine t_callViE dX13_wordTone_95 M_X13_node (C_X13_node _ _ _ _ er1) ML_X13_510 IM_X13_node SE_X13_node qc_950 rfl (As := [.int k0, .int 1]) rfl rfl (by omega) (Nat.le_of_ble_eq_true rfl) (Nat.le_of_ble_eq_true rfl) (Nat.le_of_ble_eq_true rfl) ?_
  refine mj_istore_n 2 (lv2 := [(2, .int r1.1), (0, .ref 950), (1, .int l1)]) dX13_wordTone_98 rfl (by decide) rfl ?_
  refine mj_iload_n dX13_wordTone_99 2 rfl ?_
  refine mj_if_ge 125 dX13_wordTone_100 (by decide) (fun z => t_posK hk z (fun hk => ?_)) (fun z => t_negK hk z (fun hk => ?_))
  · refine mj_sublv [(0, .ref 950), (1, .int l1), (2, .int r1.1)] [1, 2, 0] rfl ?_
    exact B_X13_wordTone_125 rc H _ _ _ _ hk
  · refine mj_aload_n dX13_wordTone_103 1 rfl ?_
    refine t_getR 957 dX13_wordTone_104 F_X13_32 qr_950_19 ?_
    refine mj_iload_n dX13_wordTone_107 0 rfl ?_
    refine mj_aload_n dX13_wordTone_108 1 rfl ?_
    refine t_bndK hk (fun r2 er2 hk => ?_)
    refine t_callViE dX13_wordTone_109 M_X13_name (C_X13_name _ _ er2) ML_X13_468 IM_X13_name SE_X13_name qc_950 rfl (As := []) rfl rfl (by omega) (Nat.le_of_ble_eq_true rfl) (Nat.le_of_ble_eq_true rfl) (Nat.le_of_ble_eq_true rfl) ?_
    refine mj_i2l (v := r2.1.toInt64) dX13_wordTone_112 rfl ?_
    refine t_chkK hk (fun c2 hk => ?_)
    refine t_lastK dX13_wordTone_113 qa_957 (t_ixv c2) (fun s1 ws1 => t_letE hk ws1 (fun hk => ?_))
    refine mj_aload_n dX13_wordTone_114 1 rfl ?_
    refine t_getR 958 dX13_wordTone_115 F_X13_36 qr_950_20 ?_
    refine mj_iload_n dX13_wordTone_118 0 rfl ?_
    refine mj_aload_n dX13_wordTone_119 1 rfl ?_
    refine t_getI dX13_wordTone_120 F_X13_584 qf_950_33 ?_
    refine mj_i2l (v := (s1.1 950 33).toInt64) dX13_wordTone_123 rfl ?_
    refine t_lastK dX13_wordTone_124 qa_958 (t_ixv c2) (fun s2 ws2 => t_letE hk ws2 (fun hk => ?_))
    refine mj_sublv [(0, .ref 950), (1, .int l1), (2, .int r1.1)] [1, 2, 0] rfl ?_
    exact B_X13_wordTone_125 rc H _ _ _ _ hk
noncomputable def m_X13_wordTone (rc : RT_X13_base) (s : t_S) : Option (Int32 × t_S) :=
 if (0 : Int32) ≤ (s.1 950 10) then (if (s.1 950 10) = (21 : Int32) then (k_X13_wordTone_94 rc (s.1 950 10) 24 s)
 else (if (s.1 950 10) = (22 : Int32) then (k_X13_wordTone_94 rc (s.1 950 10) 25 s)
 else (if (s.1 950 10) = (23 : Int32) then (k_X13_wordTone_94 rc (s.1 950 10) 27 s)
 else (if (s.1 950 10) = (24 : Int32) then (k_X13_wordTone_94 rc (s.1 950 10) 32 s)
 else (if (s.1 950 10) = (25 : Int32) then (k_X13_wordTone_94 rc (s.1 950 10) 33 s)
 else (if (s.1 950 10) = (26 : Int32) then (k_X13_wordTone_94 rc (s.1 950 10) 35 s)
 else (if (s.1 950 10) = (27 : Int32) then (k_X13_wordTone_94 rc (s.1 950 10) 36 s)
 else (k_X13_wordTone_94 rc (s.1 950 10) 37 s))))))))
 else (k_X13_wordTone_94 rc (s.1 950 10) 28 s)
set_option maxRecDepth 4000 in
set_option maxHeartbeats 1000000 in
theorem E_X13_wordTone (rc : RT_X13_base) {k : Nat} (H : RH_X13_base rc k) (s : t_S) (r : Int32 × t_S) (hr : m_X13_wordTone rc s = some r) : t_C yX13_wordTone cX13_wordTone 3 (some .int) (8 + (k + 1)) [.ref 950] s (fun v s' => v = some (.int r.1) ∧ s' = r.2) := by
  refine t_C.imp (P := fun v s' => ∃ x, v = some (.int x) ∧ (fun q => q = r) ((x, s'))) (t_C.of (by decide +kernel) (Nat.le_of_ble_eq_true rfl) ?_) (fun v s' hp => by obtain ⟨x, rfl, rfl⟩ := hp; exact ⟨rfl, rfl⟩)
  intro D cy ad bs X
  have hk : t_hk (m_X13_wordTone rc s) (fun q => q = r) := ⟨r, hr, rfl⟩
  show mj_G D cy ad bs X cX13_wordTone 3 yX13_wordTone.cls (some .int) yX13_wordTone.name (8 + (k + 1)) 0 0 1065 (t_P (fun v s' => ∃ x, v = some (.int x) ∧ (fun q => q = r) ((x, s')))) 0 [(0, .ref 950)] [] (t_m s) 1065 0 0
  refine mj_aload_n dX13_wordTone_0 0 rfl ?_
  refine t_getI dX13_wordTone_1 F_X13_397 qf_950_10 ?_
  refine mj_istore_n 1 (lv2 := [(1, .int (s.1 950 10)), (0, .ref 950)]) dX13_wordTone_4 rfl (by decide) rfl ?_
  refine mj_aload_n dX13_wordTone_5 1 rfl ?_
  refine mj_iload_n dX13_wordTone_6 0 rfl ?_
  refine mj_if_ge 15 dX13_wordTone_7 (by decide) (fun z => t_posK hk z (fun hk => ?_)) (fun z => t_negK hk z (fun hk => ?_))
  · refine mj_iload_n dX13_wordTone_15 0 rfl ?_
    refine mj_bipush (v := 21) dX13_wordTone_16 (by decide) ?_
    refine mj_icmp_ne 26 dX13_wordTone_18 (by decide) (fun z => t_negK hk z (fun hk => ?_)) (fun z => t_posK hk z (fun hk => ?_))
    · refine mj_iload_n dX13_wordTone_26 0 rfl ?_
      refine mj_bipush (v := 22) dX13_wordTone_27 (by decide) ?_
      refine mj_icmp_ne 37 dX13_wordTone_29 (by decide) (fun z => t_negK hk z (fun hk => ?_)) (fun z => t_posK hk z (fun hk => ?_))
      · refine mj_iload_n dX13_wordTone_37 0 rfl ?_
        refine mj_bipush (v := 23) dX13_wordTone_38 (by decide) ?_
        refine mj_icmp_ne 48 dX13_wordTone_40 (by decide) (fun z => t_negK hk z (fun hk => ?_)) (fun z => t_posK hk z (fun hk => ?_))
        · refine mj_iload_n dX13_wordTone_48 0 rfl ?_
          refine mj_bipush (v := 24) dX13_wordTone_49 (by decide) ?_
          refine mj_icmp_ne 59 dX13_wordTone_51 (by decide) (fun z => t_negK hk z (fun hk => ?_)) (fun z => t_posK hk z (fun hk => ?_))
          · refine mj_iload_n dX13_wordTone_59 0 rfl ?_
            refine mj_bipush (v := 25) dX13_wordTone_60 (by decide) ?_
            refine mj_icmp_ne 70 dX13_wordTone_62 (by decide) (fun z => t_negK hk z (fun hk => ?_)) (fun z => t_posK hk z (fun hk => ?_))
            · refine mj_iload_n dX13_wordTone_70 0 rfl ?_
              refine mj_bipush (v := 26) dX13_wordTone_71 (by decide) ?_
              refine mj_icmp_ne 81 dX13_wordTone_73 (by decide) (fun z => t_negK hk z (fun hk => ?_)) (fun z => t_posK hk z (fun hk => ?_))
              · refine mj_iload_n dX13_wordTone_81 0 rfl ?_
                refine mj_bipush (v := 27) dX13_wordTone_82 (by decide) ?_
                refine mj_icmp_ne 92 dX13_wordTone_84 (by decide) (fun z => t_negK hk z (fun hk => ?_)) (fun z => t_posK hk z (fun hk => ?_))
                · refine mj_bipush (v := 37) dX13_wordTone_92 (by decide) ?_
                  refine mj_sublv [(0, .ref 950), (1, .int (s.1 950 10))] [1, 0] rfl ?_
                  exact B_X13_wordTone_94 rc H _ _ _ _ hk
                · refine mj_bipush (v := 36) dX13_wordTone_87 (by decide) ?_
                  refine mj_goto 94 dX13_wordTone_89 (by decide) ?_
                  refine mj_sublv [(0, .ref 950), (1, .int (s.1 950 10))] [1, 0] rfl ?_
                  exact B_X13_wordTone_94 rc H _ _ _ _ hk
              · refine mj_bipush (v := 35) dX13_wordTone_76 (by decide) ?_
                refine mj_goto 94 dX13_wordTone_78 (by decide) ?_
                refine mj_sublv [(0, .ref 950), (1, .int (s.1 950 10))] [1, 0] rfl ?_
                exact B_X13_wordTone_94 rc H _ _ _ _ hk
            · refine mj_bipush (v := 33) dX13_wordTone_65 (by decide) ?_
              refine mj_goto 94 dX13_wordTone_67 (by decide) ?_
              refine mj_sublv [(0, .ref 950), (1, .int (s.1 950 10))] [1, 0] rfl ?_
              exact B_X13_wordTone_94 rc H _ _ _ _ hk
          · refine mj_bipush (v := 32) dX13_wordTone_54 (by decide) ?_
            refine mj_goto 94 dX13_wordTone_56 (by decide) ?_
            refine mj_sublv [(0, .ref 950), (1, .int (s.1 950 10))] [1, 0] rfl ?_
            exact B_X13_wordTone_94 rc H _ _ _ _ hk
        · refine mj_bipush (v := 27) dX13_wordTone_43 (by decide) ?_
          refine mj_goto 94 dX13_wordTone_45 (by decide) ?_
          refine mj_sublv [(0, .ref 950), (1, .int (s.1 950 10))] [1, 0] rfl ?_
          exact B_X13_wordTone_94 rc H _ _ _ _ hk
      · refine mj_bipush (v := 25) dX13_wordTone_32 (by decide) ?_
        refine mj_goto 94 dX13_wordTone_34 (by decide) ?_
        refine mj_sublv [(0, .ref 950), (1, .int (s.1 950 10))] [1, 0] rfl ?_
        exact B_X13_wordTone_94 rc H _ _ _ _ hk
    · refine mj_bipush (v := 24) dX13_wordTone_21 (by decide) ?_
      refine mj_goto 94 dX13_wordTone_23 (by decide) ?_
      refine mj_sublv [(0, .ref 950), (1, .int (s.1 950 10))] [1, 0] rfl ?_
      exact B_X13_wordTone_94 rc H _ _ _ _ hk
  · refine mj_bipush (v := 28) dX13_wordTone_10 (by decide) ?_
    refine mj_goto 94 dX13_wordTone_12 (by decide) ?_
    refine mj_sublv [(0, .ref 950), (1, .int (s.1 950 10))] [1, 0] rfl ?_
    exact B_X13_wordTone_94 rc H _ _ _ _ hk
/-- so many calls deep -/
noncomputable def R_X13_base : Nat → RT_X13_base
  | 0 => ⟨fun _ => none, fun _ => none, fun _ _ => none, fun _ _ => none, fun _ _ => none, fun _ _ => none, fun _ => none, fun _ => none, fun _ _ _ => none, fun _ => none, fun _ => none, fun _ => none⟩
  | k + 1 => ⟨fun  s => m_X13_base (R_X13_base k) s, fun  s => m_X13_exp (R_X13_base k) s, fun x2 s => m_X13_exps (R_X13_base k) x2 s, fun x2 s => m_X13_fieldExps (R_X13_base k) x2 s, fun x2 s => m_X13_fieldTempls (R_X13_base k) x2 s, fun x2 s => m_X13_level (R_X13_base k) x2 s, fun  s => m_X13_single (R_X13_base k) s, fun  s => m_X13_templ (R_X13_base k) s, fun x2 x3 s => m_X13_templs (R_X13_base k) x2 x3 s, fun  s => m_X13_tone (R_X13_base k) s, fun  s => m_X13_wordBase (R_X13_base k) s, fun  s => m_X13_wordTone (R_X13_base k) s⟩
theorem RR_X13_base : ∀ k : Nat, RH_X13_base (R_X13_base k) k := by
  intro k
  induction k with
  | zero => exact ⟨fun _ _ h => (by cases h), fun _ _ h => (by cases h), fun _ _ _ h => (by cases h), fun _ _ _ h => (by cases h), fun _ _ _ h => (by cases h), fun _ _ _ h => (by cases h), fun _ _ h => (by cases h), fun _ _ h => (by cases h), fun _ _ _ _ h => (by cases h), fun _ _ h => (by cases h), fun _ _ h => (by cases h), fun _ _ h => (by cases h)⟩
  | succ k ih => exact ⟨fun  s r h => E_X13_base (R_X13_base k) ih s r h, fun  s r h => E_X13_exp (R_X13_base k) ih s r h, fun x2 s r h => E_X13_exps (R_X13_base k) ih x2 s r h, fun x2 s r h => E_X13_fieldExps (R_X13_base k) ih x2 s r h, fun x2 s r h => E_X13_fieldTempls (R_X13_base k) ih x2 s r h, fun x2 s r h => E_X13_level (R_X13_base k) ih x2 s r h, fun  s r h => E_X13_single (R_X13_base k) ih s r h, fun  s r h => E_X13_templ (R_X13_base k) ih s r h, fun x2 x3 s r h => E_X13_templs (R_X13_base k) ih x2 x3 s r h, fun  s r h => E_X13_tone (R_X13_base k) ih s r h, fun  s r h => E_X13_wordBase (R_X13_base k) ih s r h, fun  s r h => E_X13_wordTone (R_X13_base k) ih s r h⟩
noncomputable def f_X13_base (s : t_S) : Option (Int32 × t_S) := (R_X13_base 300).1 s
theorem C_X13_base (s : t_S) (r : Int32 × t_S) (hr : f_X13_base s = some r) : t_C yX13_base cX13_base 3 (some .int) 308 [.ref 950] s (fun v s' => v = some (.int r.1) ∧ s' = r.2) := (RR_X13_base 300).1 s r hr
noncomputable def f_X13_exp (s : t_S) : Option (Int32 × t_S) := (R_X13_base 300).2.1 s
theorem C_X13_exp (s : t_S) (r : Int32 × t_S) (hr : f_X13_exp s = some r) : t_C yX13_exp cX13_exp 2 (some .int) 308 [.ref 950] s (fun v s' => v = some (.int r.1) ∧ s' = r.2) := (RR_X13_base 300).2.1 s r hr
noncomputable def f_X13_exps (x2 : Int32) (s : t_S) : Option (t_S) := (R_X13_base 300).2.2.1 x2 s
theorem C_X13_exps (x2 : Int32) (s : t_S) (r : t_S) (hr : f_X13_exps x2 s = some r) : t_C yX13_exps cX13_exps 4 none 308 [.ref 950, .int x2] s (fun v s' => v = none ∧ s' = r) := (RR_X13_base 300).2.2.1 x2 s r hr
noncomputable def f_X13_fieldExps (x2 : Int32) (s : t_S) : Option (t_S) := (R_X13_base 300).2.2.2.1 x2 s
theorem C_X13_fieldExps (x2 : Int32) (s : t_S) (r : t_S) (hr : f_X13_fieldExps x2 s = some r) : t_C yX13_fieldExps cX13_fieldExps 5 none 308 [.ref 950, .int x2] s (fun v s' => v = none ∧ s' = r) := (RR_X13_base 300).2.2.2.1 x2 s r hr
noncomputable def f_X13_fieldTempls (x2 : Int32) (s : t_S) : Option (t_S) := (R_X13_base 300).2.2.2.2.1 x2 s
theorem C_X13_fieldTempls (x2 : Int32) (s : t_S) (r : t_S) (hr : f_X13_fieldTempls x2 s = some r) : t_C yX13_fieldTempls cX13_fieldTempls 5 none 308 [.ref 950, .int x2] s (fun v s' => v = none ∧ s' = r) := (RR_X13_base 300).2.2.2.2.1 x2 s r hr
noncomputable def f_X13_level (x2 : Int32) (s : t_S) : Option (Int32 × t_S) := (R_X13_base 300).2.2.2.2.2.1 x2 s
theorem C_X13_level (x2 : Int32) (s : t_S) (r : Int32 × t_S) (hr : f_X13_level x2 s = some r) : t_C yX13_level cX13_level 5 (some .int) 308 [.ref 950, .int x2] s (fun v s' => v = some (.int r.1) ∧ s' = r.2) := (RR_X13_base 300).2.2.2.2.2.1 x2 s r hr
noncomputable def f_X13_single (s : t_S) : Option (Int32 × t_S) := (R_X13_base 300).2.2.2.2.2.2.1 s
theorem C_X13_single (s : t_S) (r : Int32 × t_S) (hr : f_X13_single s = some r) : t_C yX13_single cX13_single 7 (some .int) 308 [.ref 950] s (fun v s' => v = some (.int r.1) ∧ s' = r.2) := (RR_X13_base 300).2.2.2.2.2.2.1 s r hr
noncomputable def f_X13_templ (s : t_S) : Option (Int32 × t_S) := (R_X13_base 300).2.2.2.2.2.2.2.1 s
theorem C_X13_templ (s : t_S) (r : Int32 × t_S) (hr : f_X13_templ s = some r) : t_C yX13_templ cX13_templ 3 (some .int) 308 [.ref 950] s (fun v s' => v = some (.int r.1) ∧ s' = r.2) := (RR_X13_base 300).2.2.2.2.2.2.2.1 s r hr
noncomputable def f_X13_templs (x2 : Int32) (x3 : Int32) (s : t_S) : Option (t_S) := (R_X13_base 300).2.2.2.2.2.2.2.2.1 x2 x3 s
theorem C_X13_templs (x2 : Int32) (x3 : Int32) (s : t_S) (r : t_S) (hr : f_X13_templs x2 x3 s = some r) : t_C yX13_templs cX13_templs 7 none 308 [.ref 950, .int x2, .int x3] s (fun v s' => v = none ∧ s' = r) := (RR_X13_base 300).2.2.2.2.2.2.2.2.1 x2 x3 s r hr
noncomputable def f_X13_tone (s : t_S) : Option (Int32 × t_S) := (R_X13_base 300).2.2.2.2.2.2.2.2.2.1 s
theorem C_X13_tone (s : t_S) (r : Int32 × t_S) (hr : f_X13_tone s = some r) : t_C yX13_tone cX13_tone 3 (some .int) 308 [.ref 950] s (fun v s' => v = some (.int r.1) ∧ s' = r.2) := (RR_X13_base 300).2.2.2.2.2.2.2.2.2.1 s r hr
noncomputable def f_X13_wordBase (s : t_S) : Option (Int32 × t_S) := (R_X13_base 300).2.2.2.2.2.2.2.2.2.2.1 s
theorem C_X13_wordBase (s : t_S) (r : Int32 × t_S) (hr : f_X13_wordBase s = some r) : t_C yX13_wordBase cX13_wordBase 4 (some .int) 308 [.ref 950] s (fun v s' => v = some (.int r.1) ∧ s' = r.2) := (RR_X13_base 300).2.2.2.2.2.2.2.2.2.2.1 s r hr
noncomputable def f_X13_wordTone (s : t_S) : Option (Int32 × t_S) := (R_X13_base 300).2.2.2.2.2.2.2.2.2.2.2 s
theorem C_X13_wordTone (s : t_S) (r : Int32 × t_S) (hr : f_X13_wordTone s = some r) : t_C yX13_wordTone cX13_wordTone 3 (some .int) 308 [.ref 950] s (fun v s' => v = some (.int r.1) ∧ s' = r.2) := (RR_X13_base 300).2.2.2.2.2.2.2.2.2.2.2 s r hr

