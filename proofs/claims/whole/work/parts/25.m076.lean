/-! Methods as functions, 76: X13_branch, X13_bytesFor -/
theorem dX13_block_0 : decode cX13_block 0 = .ok (.iload_n 2, 1) := by decide +kernel
theorem dX13_block_1 : decode cX13_block 1 = .ok (.bipush 16, 2) := by decide +kernel
theorem dX13_block_12 : decode cX13_block 12 = .ok (.ifCond .eq 12, 3) := by decide +kernel
theorem dX13_block_15 : decode cX13_block 15 = .ok (.aload_n 0, 1) := by decide +kernel
theorem dX13_block_16 : decode cX13_block 16 = .ok (.iconst 5, 1) := by decide +kernel
theorem dX13_block_17 : decode cX13_block 17 = .ok (.aload_n 0, 1) := by decide +kernel
theorem dX13_block_18 : decode cX13_block 18 = .ok (.getfield 391, 3) := by decide +kernel
theorem dX13_block_21 : decode cX13_block 21 = .ok (.invokevirtual 411, 3) := by decide +kernel
theorem dX13_block_24 : decode cX13_block 24 = .ok (.aload_n 0, 1) := by decide +kernel
theorem dX13_block_25 : decode cX13_block 25 = .ok (.bipush 123, 2) := by decide +kernel
theorem dX13_block_27 : decode cX13_block 27 = .ok (.invokevirtual 528, 3) := by decide +kernel
theorem dX13_block_3 : decode cX13_block 3 = .ok (.if_icmp .le 21, 3) := by decide +kernel
theorem dX13_block_30 : decode cX13_block 30 = .ok (.iconst (-1), 1) := by decide +kernel
theorem dX13_block_31 : decode cX13_block 31 = .ok (.istore_n 3, 1) := by decide +kernel
theorem dX13_block_32 : decode cX13_block 32 = .ok (.iconst (-1), 1) := by decide +kernel
theorem dX13_block_33 : decode cX13_block 33 = .ok (.istore 4, 2) := by decide +kernel
theorem dX13_block_35 : decode cX13_block 35 = .ok (.aload_n 0, 1) := by decide +kernel
theorem dX13_block_36 : decode cX13_block 36 = .ok (.getfield 375, 3) := by decide +kernel
theorem dX13_block_39 : decode cX13_block 39 = .ok (.ifCond .ne 52, 3) := by decide +kernel
theorem dX13_block_42 : decode cX13_block 42 = .ok (.aload_n 0, 1) := by decide +kernel
theorem dX13_block_43 : decode cX13_block 43 = .ok (.bipush 125, 2) := by decide +kernel
theorem dX13_block_45 : decode cX13_block 45 = .ok (.invokevirtual 449, 3) := by decide +kernel
theorem dX13_block_48 : decode cX13_block 48 = .ok (.ifCond .ne 43, 3) := by decide +kernel
theorem dX13_block_51 : decode cX13_block 51 = .ok (.aload_n 0, 1) := by decide +kernel
theorem dX13_block_52 : decode cX13_block 52 = .ok (.iload_n 1, 1) := by decide +kernel
theorem dX13_block_53 : decode cX13_block 53 = .ok (.iload_n 2, 1) := by decide +kernel
theorem dX13_block_54 : decode cX13_block 54 = .ok (.invokestatic 743, 3) := by decide +kernel
theorem dX13_block_57 : decode cX13_block 57 = .ok (.istore 5, 2) := by decide +kernel
theorem dX13_block_59 : decode cX13_block 59 = .ok (.iload 4, 2) := by decide +kernel
theorem dX13_block_6 : decode cX13_block 6 = .ok (.aload_n 0, 1) := by decide +kernel
theorem dX13_block_61 : decode cX13_block 61 = .ok (.ifCond .lt 12, 3) := by decide +kernel
theorem dX13_block_64 : decode cX13_block 64 = .ok (.aload_n 0, 1) := by decide +kernel
theorem dX13_block_65 : decode cX13_block 65 = .ok (.getfield 129, 3) := by decide +kernel
theorem dX13_block_68 : decode cX13_block 68 = .ok (.iload 4, 2) := by decide +kernel
theorem dX13_block_7 : decode cX13_block 7 = .ok (.bipush 123, 2) := by decide +kernel
theorem dX13_block_70 : decode cX13_block 70 = .ok (.iload 5, 2) := by decide +kernel
theorem dX13_block_72 : decode cX13_block 72 = .ok (.iastore, 1) := by decide +kernel
theorem dX13_block_73 : decode cX13_block 73 = .ok (.iload_n 3, 1) := by decide +kernel
theorem dX13_block_74 : decode cX13_block 74 = .ok (.ifCond .ge 8, 3) := by decide +kernel
theorem dX13_block_77 : decode cX13_block 77 = .ok (.iload 5, 2) := by decide +kernel
theorem dX13_block_79 : decode cX13_block 79 = .ok (.goto 4, 3) := by decide +kernel
theorem dX13_block_82 : decode cX13_block 82 = .ok (.iload_n 3, 1) := by decide +kernel
theorem dX13_block_83 : decode cX13_block 83 = .ok (.istore_n 3, 1) := by decide +kernel
theorem dX13_block_84 : decode cX13_block 84 = .ok (.iload 5, 2) := by decide +kernel
theorem dX13_block_86 : decode cX13_block 86 = .ok (.istore 4, 2) := by decide +kernel
theorem dX13_block_88 : decode cX13_block 88 = .ok (.goto (-53), 3) := by decide +kernel
theorem dX13_block_9 : decode cX13_block 9 = .ok (.invokevirtual 449, 3) := by decide +kernel
theorem dX13_block_91 : decode cX13_block 91 = .ok (.aload_n 0, 1) := by decide +kernel
theorem dX13_block_92 : decode cX13_block 92 = .ok (.bipush 125, 2) := by decide +kernel
theorem dX13_block_94 : decode cX13_block 94 = .ok (.invokevirtual 528, 3) := by decide +kernel
theorem dX13_block_97 : decode cX13_block 97 = .ok (.iload_n 3, 1) := by decide +kernel
theorem dX13_block_98 : decode cX13_block 98 = .ok (.ireturn, 1) := by decide +kernel
theorem dX13_branch_0 : decode cX13_branch 0 = .ok (.aload_n 0, 1) := by decide +kernel
theorem dX13_branch_1 : decode cX13_branch 1 = .ok (.bipush 91, 2) := by decide +kernel
theorem dX13_branch_10 : decode cX13_branch 10 = .ok (.iconst 2, 1) := by decide +kernel
theorem dX13_branch_101 : decode cX13_branch 101 = .ok (.invokevirtual 528, 3) := by decide +kernel
theorem dX13_branch_104 : decode cX13_branch 104 = .ok (.aload_n 0, 1) := by decide +kernel
theorem dX13_branch_105 : decode cX13_branch 105 = .ok (.bipush 65, 2) := by decide +kernel
theorem dX13_branch_107 : decode cX13_branch 107 = .ok (.invokevirtual 455, 3) := by decide +kernel
theorem dX13_branch_11 : decode cX13_branch 11 = .ok (.aload_n 0, 1) := by decide +kernel
theorem dX13_branch_110 : decode cX13_branch 110 = .ok (.ifCond .eq 33, 3) := by decide +kernel
theorem dX13_branch_113 : decode cX13_branch 113 = .ok (.aload_n 0, 1) := by decide +kernel
theorem dX13_branch_114 : decode cX13_branch 114 = .ok (.invokevirtual 452, 3) := by decide +kernel
theorem dX13_branch_117 : decode cX13_branch 117 = .ok (.aload_n 0, 1) := by decide +kernel
theorem dX13_branch_118 : decode cX13_branch 118 = .ok (.getfield 162, 3) := by decide +kernel
theorem dX13_branch_12 : decode cX13_branch 12 = .ok (.getfield 391, 3) := by decide +kernel
theorem dX13_branch_121 : decode cX13_branch 121 = .ok (.iload_n 3, 1) := by decide +kernel
theorem dX13_branch_122 : decode cX13_branch 122 = .ok (.iconst 3, 1) := by decide +kernel
theorem dX13_branch_123 : decode cX13_branch 123 = .ok (.iastore, 1) := by decide +kernel
theorem dX13_branch_124 : decode cX13_branch 124 = .ok (.aload_n 0, 1) := by decide +kernel
theorem dX13_branch_125 : decode cX13_branch 125 = .ok (.getfield 147, 3) := by decide +kernel
theorem dX13_branch_128 : decode cX13_branch 128 = .ok (.iload_n 3, 1) := by decide +kernel
theorem dX13_branch_129 : decode cX13_branch 129 = .ok (.aload_n 0, 1) := by decide +kernel
theorem dX13_branch_130 : decode cX13_branch 130 = .ok (.iload_n 3, 1) := by decide +kernel
theorem dX13_branch_131 : decode cX13_branch 131 = .ok (.invokevirtual 764, 3) := by decide +kernel
theorem dX13_branch_134 : decode cX13_branch 134 = .ok (.iastore, 1) := by decide +kernel
theorem dX13_branch_135 : decode cX13_branch 135 = .ok (.aload_n 0, 1) := by decide +kernel
theorem dX13_branch_136 : decode cX13_branch 136 = .ok (.bipush 59, 2) := by decide +kernel
theorem dX13_branch_138 : decode cX13_branch 138 = .ok (.invokevirtual 528, 3) := by decide +kernel
theorem dX13_branch_141 : decode cX13_branch 141 = .ok (.iload_n 3, 1) := by decide +kernel
theorem dX13_branch_142 : decode cX13_branch 142 = .ok (.ireturn, 1) := by decide +kernel
theorem dX13_branch_143 : decode cX13_branch 143 = .ok (.aload_n 0, 1) := by decide +kernel
theorem dX13_branch_144 : decode cX13_branch 144 = .ok (.iload_n 3, 1) := by decide +kernel
theorem dX13_branch_145 : decode cX13_branch 145 = .ok (.invokestatic 755, 3) := by decide +kernel
theorem dX13_branch_148 : decode cX13_branch 148 = .ok (.aload_n 0, 1) := by decide +kernel
theorem dX13_branch_149 : decode cX13_branch 149 = .ok (.getfield 156, 3) := by decide +kernel
theorem dX13_branch_15 : decode cX13_branch 15 = .ok (.invokevirtual 411, 3) := by decide +kernel
theorem dX13_branch_152 : decode cX13_branch 152 = .ok (.iload_n 3, 1) := by decide +kernel
theorem dX13_branch_153 : decode cX13_branch 153 = .ok (.aload_n 0, 1) := by decide +kernel
theorem dX13_branch_154 : decode cX13_branch 154 = .ok (.iload_n 3, 1) := by decide +kernel
theorem dX13_branch_155 : decode cX13_branch 155 = .ok (.iload_n 2, 1) := by decide +kernel
theorem dX13_branch_156 : decode cX13_branch 156 = .ok (.iconst 1, 1) := by decide +kernel
theorem dX13_branch_157 : decode cX13_branch 157 = .ok (.iadd, 1) := by decide +kernel
theorem dX13_branch_158 : decode cX13_branch 158 = .ok (.invokestatic 724, 3) := by decide +kernel
theorem dX13_branch_161 : decode cX13_branch 161 = .ok (.iastore, 1) := by decide +kernel
theorem dX13_branch_162 : decode cX13_branch 162 = .ok (.iload_n 3, 1) := by decide +kernel
theorem dX13_branch_163 : decode cX13_branch 163 = .ok (.ireturn, 1) := by decide +kernel
theorem dX13_branch_18 : decode cX13_branch 18 = .ok (.iconst 0, 1) := by decide +kernel
theorem dX13_branch_19 : decode cX13_branch 19 = .ok (.ireturn, 1) := by decide +kernel
theorem dX13_branch_20 : decode cX13_branch 20 = .ok (.aload_n 0, 1) := by decide +kernel
theorem dX13_branch_21 : decode cX13_branch 21 = .ok (.iconst 0, 1) := by decide +kernel
theorem dX13_branch_22 : decode cX13_branch 22 = .ok (.putfield 552, 3) := by decide +kernel
theorem dX13_branch_25 : decode cX13_branch 25 = .ok (.aload_n 0, 1) := by decide +kernel
theorem dX13_branch_26 : decode cX13_branch 26 = .ok (.bipush 20, 2) := by decide +kernel
theorem dX13_branch_28 : decode cX13_branch 28 = .ok (.iload_n 1, 1) := by decide +kernel
theorem dX13_branch_29 : decode cX13_branch 29 = .ok (.invokevirtual 749, 3) := by decide +kernel
theorem dX13_branch_3 : decode cX13_branch 3 = .ok (.invokevirtual 449, 3) := by decide +kernel
theorem dX13_branch_32 : decode cX13_branch 32 = .ok (.istore_n 3, 1) := by decide +kernel
theorem dX13_branch_33 : decode cX13_branch 33 = .ok (.aload_n 0, 1) := by decide +kernel
theorem dX13_branch_34 : decode cX13_branch 34 = .ok (.invokevirtual 452, 3) := by decide +kernel
theorem dX13_branch_37 : decode cX13_branch 37 = .ok (.aload_n 0, 1) := by decide +kernel
theorem dX13_branch_38 : decode cX13_branch 38 = .ok (.bipush 38, 2) := by decide +kernel
theorem dX13_branch_40 : decode cX13_branch 40 = .ok (.invokevirtual 455, 3) := by decide +kernel
theorem dX13_branch_43 : decode cX13_branch 43 = .ok (.ifCond .eq 36, 3) := by decide +kernel
theorem dX13_branch_46 : decode cX13_branch 46 = .ok (.aload_n 0, 1) := by decide +kernel
theorem dX13_branch_47 : decode cX13_branch 47 = .ok (.invokevirtual 452, 3) := by decide +kernel
theorem dX13_branch_50 : decode cX13_branch 50 = .ok (.aload_n 0, 1) := by decide +kernel
theorem dX13_branch_51 : decode cX13_branch 51 = .ok (.bipush 93, 2) := by decide +kernel
theorem dX13_branch_53 : decode cX13_branch 53 = .ok (.invokevirtual 528, 3) := by decide +kernel
theorem dX13_branch_56 : decode cX13_branch 56 = .ok (.aload_n 0, 1) := by decide +kernel
theorem dX13_branch_57 : decode cX13_branch 57 = .ok (.getfield 162, 3) := by decide +kernel
theorem dX13_branch_6 : decode cX13_branch 6 = .ok (.ifCond .ne 14, 3) := by decide +kernel
theorem dX13_branch_60 : decode cX13_branch 60 = .ok (.iload_n 3, 1) := by decide +kernel
theorem dX13_branch_61 : decode cX13_branch 61 = .ok (.iconst 4, 1) := by decide +kernel
theorem dX13_branch_62 : decode cX13_branch 62 = .ok (.iastore, 1) := by decide +kernel
theorem dX13_branch_63 : decode cX13_branch 63 = .ok (.aload_n 0, 1) := by decide +kernel
theorem dX13_branch_64 : decode cX13_branch 64 = .ok (.getfield 156, 3) := by decide +kernel
theorem dX13_branch_67 : decode cX13_branch 67 = .ok (.iload_n 3, 1) := by decide +kernel
theorem dX13_branch_68 : decode cX13_branch 68 = .ok (.aload_n 0, 1) := by decide +kernel
theorem dX13_branch_69 : decode cX13_branch 69 = .ok (.iload_n 3, 1) := by decide +kernel
theorem dX13_branch_70 : decode cX13_branch 70 = .ok (.iload_n 2, 1) := by decide +kernel
theorem dX13_branch_71 : decode cX13_branch 71 = .ok (.iconst 1, 1) := by decide +kernel
theorem dX13_branch_72 : decode cX13_branch 72 = .ok (.iadd, 1) := by decide +kernel
theorem dX13_branch_73 : decode cX13_branch 73 = .ok (.invokestatic 724, 3) := by decide +kernel
theorem dX13_branch_76 : decode cX13_branch 76 = .ok (.iastore, 1) := by decide +kernel
theorem dX13_branch_77 : decode cX13_branch 77 = .ok (.iload_n 3, 1) := by decide +kernel
theorem dX13_branch_78 : decode cX13_branch 78 = .ok (.ireturn, 1) := by decide +kernel
theorem dX13_branch_79 : decode cX13_branch 79 = .ok (.aload_n 0, 1) := by decide +kernel
theorem dX13_branch_80 : decode cX13_branch 80 = .ok (.bipush 93, 2) := by decide +kernel
theorem dX13_branch_82 : decode cX13_branch 82 = .ok (.invokevirtual 449, 3) := by decide +kernel
theorem dX13_branch_85 : decode cX13_branch 85 = .ok (.ifCond .ne 13, 3) := by decide +kernel
theorem dX13_branch_88 : decode cX13_branch 88 = .ok (.aload_n 0, 1) := by decide +kernel
theorem dX13_branch_89 : decode cX13_branch 89 = .ok (.getfield 153, 3) := by decide +kernel
theorem dX13_branch_9 : decode cX13_branch 9 = .ok (.aload_n 0, 1) := by decide +kernel
theorem dX13_branch_92 : decode cX13_branch 92 = .ok (.iload_n 3, 1) := by decide +kernel
theorem dX13_branch_93 : decode cX13_branch 93 = .ok (.aload_n 0, 1) := by decide +kernel
theorem dX13_branch_94 : decode cX13_branch 94 = .ok (.invokestatic 581, 3) := by decide +kernel
theorem dX13_branch_97 : decode cX13_branch 97 = .ok (.iastore, 1) := by decide +kernel
theorem dX13_branch_98 : decode cX13_branch 98 = .ok (.aload_n 0, 1) := by decide +kernel
theorem dX13_branch_99 : decode cX13_branch 99 = .ok (.bipush 93, 2) := by decide +kernel
theorem dX13_branches_0 : decode cX13_branches 0 = .ok (.iload_n 2, 1) := by decide +kernel
theorem dX13_branches_1 : decode cX13_branches 1 = .ok (.bipush 16, 2) := by decide +kernel
theorem dX13_branches_12 : decode cX13_branches 12 = .ok (.ifCond .eq 12, 3) := by decide +kernel
theorem dX13_branches_15 : decode cX13_branches 15 = .ok (.aload_n 0, 1) := by decide +kernel
theorem dX13_branches_16 : decode cX13_branches 16 = .ok (.iconst 5, 1) := by decide +kernel
theorem dX13_branches_17 : decode cX13_branches 17 = .ok (.aload_n 0, 1) := by decide +kernel
theorem dX13_branches_18 : decode cX13_branches 18 = .ok (.getfield 391, 3) := by decide +kernel
theorem dX13_branches_21 : decode cX13_branches 21 = .ok (.invokevirtual 411, 3) := by decide +kernel
theorem dX13_branches_24 : decode cX13_branches 24 = .ok (.aload_n 0, 1) := by decide +kernel
theorem dX13_branches_25 : decode cX13_branches 25 = .ok (.bipush 123, 2) := by decide +kernel
theorem dX13_branches_27 : decode cX13_branches 27 = .ok (.invokevirtual 528, 3) := by decide +kernel
theorem dX13_branches_3 : decode cX13_branches 3 = .ok (.if_icmp .le 21, 3) := by decide +kernel
theorem dX13_branches_30 : decode cX13_branches 30 = .ok (.iconst (-1), 1) := by decide +kernel
theorem dX13_branches_31 : decode cX13_branches 31 = .ok (.istore_n 3, 1) := by decide +kernel
theorem dX13_branches_32 : decode cX13_branches 32 = .ok (.iconst (-1), 1) := by decide +kernel
theorem dX13_branches_33 : decode cX13_branches 33 = .ok (.istore 4, 2) := by decide +kernel
theorem dX13_branches_35 : decode cX13_branches 35 = .ok (.aload_n 0, 1) := by decide +kernel
theorem dX13_branches_36 : decode cX13_branches 36 = .ok (.getfield 375, 3) := by decide +kernel
theorem dX13_branches_39 : decode cX13_branches 39 = .ok (.ifCond .ne 52, 3) := by decide +kernel
theorem dX13_branches_42 : decode cX13_branches 42 = .ok (.aload_n 0, 1) := by decide +kernel
theorem dX13_branches_43 : decode cX13_branches 43 = .ok (.bipush 125, 2) := by decide +kernel
theorem dX13_branches_45 : decode cX13_branches 45 = .ok (.invokevirtual 449, 3) := by decide +kernel
theorem dX13_branches_48 : decode cX13_branches 48 = .ok (.ifCond .ne 43, 3) := by decide +kernel
theorem dX13_branches_51 : decode cX13_branches 51 = .ok (.aload_n 0, 1) := by decide +kernel
theorem dX13_branches_52 : decode cX13_branches 52 = .ok (.iload_n 1, 1) := by decide +kernel
theorem dX13_branches_53 : decode cX13_branches 53 = .ok (.iload_n 2, 1) := by decide +kernel
theorem dX13_branches_54 : decode cX13_branches 54 = .ok (.invokestatic 776, 3) := by decide +kernel
theorem dX13_branches_57 : decode cX13_branches 57 = .ok (.istore 5, 2) := by decide +kernel
theorem dX13_branches_59 : decode cX13_branches 59 = .ok (.iload 4, 2) := by decide +kernel
theorem dX13_branches_6 : decode cX13_branches 6 = .ok (.aload_n 0, 1) := by decide +kernel
theorem dX13_branches_61 : decode cX13_branches 61 = .ok (.ifCond .lt 12, 3) := by decide +kernel
theorem dX13_branches_64 : decode cX13_branches 64 = .ok (.aload_n 0, 1) := by decide +kernel
theorem dX13_branches_65 : decode cX13_branches 65 = .ok (.getfield 129, 3) := by decide +kernel
theorem dX13_branches_68 : decode cX13_branches 68 = .ok (.iload 4, 2) := by decide +kernel
theorem dX13_branches_7 : decode cX13_branches 7 = .ok (.bipush 123, 2) := by decide +kernel
theorem dX13_branches_70 : decode cX13_branches 70 = .ok (.iload 5, 2) := by decide +kernel
theorem dX13_branches_72 : decode cX13_branches 72 = .ok (.iastore, 1) := by decide +kernel
theorem dX13_branches_73 : decode cX13_branches 73 = .ok (.iload_n 3, 1) := by decide +kernel
theorem dX13_branches_74 : decode cX13_branches 74 = .ok (.ifCond .ge 8, 3) := by decide +kernel
theorem dX13_branches_77 : decode cX13_branches 77 = .ok (.iload 5, 2) := by decide +kernel
theorem dX13_branches_79 : decode cX13_branches 79 = .ok (.goto 4, 3) := by decide +kernel
theorem dX13_branches_82 : decode cX13_branches 82 = .ok (.iload_n 3, 1) := by decide +kernel
theorem dX13_branches_83 : decode cX13_branches 83 = .ok (.istore_n 3, 1) := by decide +kernel
theorem dX13_branches_84 : decode cX13_branches 84 = .ok (.iload 5, 2) := by decide +kernel
theorem dX13_branches_86 : decode cX13_branches 86 = .ok (.istore 4, 2) := by decide +kernel
theorem dX13_branches_88 : decode cX13_branches 88 = .ok (.goto (-53), 3) := by decide +kernel
theorem dX13_branches_9 : decode cX13_branches 9 = .ok (.invokevirtual 449, 3) := by decide +kernel
theorem dX13_branches_91 : decode cX13_branches 91 = .ok (.aload_n 0, 1) := by decide +kernel
theorem dX13_branches_92 : decode cX13_branches 92 = .ok (.bipush 125, 2) := by decide +kernel
theorem dX13_branches_94 : decode cX13_branches 94 = .ok (.invokevirtual 528, 3) := by decide +kernel
theorem dX13_branches_97 : decode cX13_branches 97 = .ok (.iload_n 3, 1) := by decide +kernel
theorem dX13_branches_98 : decode cX13_branches 98 = .ok (.ireturn, 1) := by decide +kernel
theorem dX13_statement_0 : decode cX13_statement 0 = .ok (.aload_n 0, 1) := by decide +kernel
theorem dX13_statement_1 : decode cX13_statement 1 = .ok (.invokevirtual 746, 3) := by decide +kernel
theorem dX13_statement_10 : decode cX13_statement 10 = .ok (.getfield 391, 3) := by decide +kernel
theorem dX13_statement_13 : decode cX13_statement 13 = .ok (.invokevirtual 411, 3) := by decide +kernel
theorem dX13_statement_132 : decode cX13_statement 132 = .ok (.aload_n 0, 1) := by decide +kernel
theorem dX13_statement_133 : decode cX13_statement 133 = .ok (.getfield 126, 3) := by decide +kernel
theorem dX13_statement_136 : decode cX13_statement 136 = .ok (.iload 4, 2) := by decide +kernel
theorem dX13_statement_138 : decode cX13_statement 138 = .ok (.iconst 3, 1) := by decide +kernel
theorem dX13_statement_139 : decode cX13_statement 139 = .ok (.iastore, 1) := by decide +kernel
theorem dX13_statement_140 : decode cX13_statement 140 = .ok (.aload_n 0, 1) := by decide +kernel
theorem dX13_statement_141 : decode cX13_statement 141 = .ok (.getfield 147, 3) := by decide +kernel
theorem dX13_statement_144 : decode cX13_statement 144 = .ok (.iload 4, 2) := by decide +kernel
theorem dX13_statement_146 : decode cX13_statement 146 = .ok (.aload_n 0, 1) := by decide +kernel
theorem dX13_statement_147 : decode cX13_statement 147 = .ok (.invokestatic 581, 3) := by decide +kernel
theorem dX13_statement_150 : decode cX13_statement 150 = .ok (.iastore, 1) := by decide +kernel
theorem dX13_statement_151 : decode cX13_statement 151 = .ok (.aload_n 0, 1) := by decide +kernel
theorem dX13_statement_152 : decode cX13_statement 152 = .ok (.getfield 156, 3) := by decide +kernel
theorem dX13_statement_155 : decode cX13_statement 155 = .ok (.iload 4, 2) := by decide +kernel
theorem dX13_statement_157 : decode cX13_statement 157 = .ok (.aload_n 0, 1) := by decide +kernel
theorem dX13_statement_158 : decode cX13_statement 158 = .ok (.iload 4, 2) := by decide +kernel
theorem dX13_statement_16 : decode cX13_statement 16 = .ok (.iconst 0, 1) := by decide +kernel
theorem dX13_statement_160 : decode cX13_statement 160 = .ok (.iload_n 2, 1) := by decide +kernel
theorem dX13_statement_161 : decode cX13_statement 161 = .ok (.iconst 1, 1) := by decide +kernel
theorem dX13_statement_162 : decode cX13_statement 162 = .ok (.iadd, 1) := by decide +kernel
theorem dX13_statement_163 : decode cX13_statement 163 = .ok (.invokestatic 724, 3) := by decide +kernel
theorem dX13_statement_166 : decode cX13_statement 166 = .ok (.iastore, 1) := by decide +kernel
theorem dX13_statement_167 : decode cX13_statement 167 = .ok (.aload_n 0, 1) := by decide +kernel
theorem dX13_statement_168 : decode cX13_statement 168 = .ok (.bipush 38, 2) := by decide +kernel
theorem dX13_statement_17 : decode cX13_statement 17 = .ok (.ireturn, 1) := by decide +kernel
theorem dX13_statement_170 : decode cX13_statement 170 = .ok (.invokevirtual 455, 3) := by decide +kernel
theorem dX13_statement_173 : decode cX13_statement 173 = .ok (.ifCond .eq 105, 3) := by decide +kernel
theorem dX13_statement_176 : decode cX13_statement 176 = .ok (.aload_n 0, 1) := by decide +kernel
theorem dX13_statement_177 : decode cX13_statement 177 = .ok (.invokevirtual 452, 3) := by decide +kernel
theorem dX13_statement_18 : decode cX13_statement 18 = .ok (.aload_n 0, 1) := by decide +kernel
theorem dX13_statement_180 : decode cX13_statement 180 = .ok (.aload_n 0, 1) := by decide +kernel
theorem dX13_statement_181 : decode cX13_statement 181 = .ok (.getfield 159, 3) := by decide +kernel
theorem dX13_statement_184 : decode cX13_statement 184 = .ok (.iload 4, 2) := by decide +kernel
theorem dX13_statement_186 : decode cX13_statement 186 = .ok (.aload_n 0, 1) := by decide +kernel
theorem dX13_statement_187 : decode cX13_statement 187 = .ok (.iload 4, 2) := by decide +kernel
theorem dX13_statement_189 : decode cX13_statement 189 = .ok (.iload_n 2, 1) := by decide +kernel
theorem dX13_statement_19 : decode cX13_statement 19 = .ok (.iconst 0, 1) := by decide +kernel
theorem dX13_statement_190 : decode cX13_statement 190 = .ok (.iconst 1, 1) := by decide +kernel
theorem dX13_statement_191 : decode cX13_statement 191 = .ok (.iadd, 1) := by decide +kernel
theorem dX13_statement_192 : decode cX13_statement 192 = .ok (.invokestatic 724, 3) := by decide +kernel
theorem dX13_statement_195 : decode cX13_statement 195 = .ok (.iastore, 1) := by decide +kernel
theorem dX13_statement_196 : decode cX13_statement 196 = .ok (.goto 82, 3) := by decide +kernel
theorem dX13_statement_199 : decode cX13_statement 199 = .ok (.aload_n 0, 1) := by decide +kernel
theorem dX13_statement_20 : decode cX13_statement 20 = .ok (.putfield 552, 3) := by decide +kernel
theorem dX13_statement_200 : decode cX13_statement 200 = .ok (.getfield 126, 3) := by decide +kernel
theorem dX13_statement_203 : decode cX13_statement 203 = .ok (.iload 4, 2) := by decide +kernel
theorem dX13_statement_205 : decode cX13_statement 205 = .ok (.iconst 4, 1) := by decide +kernel
theorem dX13_statement_206 : decode cX13_statement 206 = .ok (.iastore, 1) := by decide +kernel
theorem dX13_statement_207 : decode cX13_statement 207 = .ok (.aload_n 0, 1) := by decide +kernel
theorem dX13_statement_208 : decode cX13_statement 208 = .ok (.getfield 147, 3) := by decide +kernel
theorem dX13_statement_211 : decode cX13_statement 211 = .ok (.iload 4, 2) := by decide +kernel
theorem dX13_statement_213 : decode cX13_statement 213 = .ok (.aload_n 0, 1) := by decide +kernel
theorem dX13_statement_214 : decode cX13_statement 214 = .ok (.invokestatic 581, 3) := by decide +kernel
theorem dX13_statement_217 : decode cX13_statement 217 = .ok (.iastore, 1) := by decide +kernel
theorem dX13_statement_218 : decode cX13_statement 218 = .ok (.aload_n 0, 1) := by decide +kernel
theorem dX13_statement_219 : decode cX13_statement 219 = .ok (.getfield 156, 3) := by decide +kernel
theorem dX13_statement_222 : decode cX13_statement 222 = .ok (.iload 4, 2) := by decide +kernel
theorem dX13_statement_224 : decode cX13_statement 224 = .ok (.aload_n 0, 1) := by decide +kernel
theorem dX13_statement_225 : decode cX13_statement 225 = .ok (.iload 4, 2) := by decide +kernel
theorem dX13_statement_227 : decode cX13_statement 227 = .ok (.iload_n 2, 1) := by decide +kernel
theorem dX13_statement_228 : decode cX13_statement 228 = .ok (.iconst 1, 1) := by decide +kernel
theorem dX13_statement_229 : decode cX13_statement 229 = .ok (.iadd, 1) := by decide +kernel
theorem dX13_statement_23 : decode cX13_statement 23 = .ok (.aload_n 0, 1) := by decide +kernel
theorem dX13_statement_230 : decode cX13_statement 230 = .ok (.invokestatic 724, 3) := by decide +kernel
theorem dX13_statement_233 : decode cX13_statement 233 = .ok (.iastore, 1) := by decide +kernel
theorem dX13_statement_234 : decode cX13_statement 234 = .ok (.goto 44, 3) := by decide +kernel
theorem dX13_statement_237 : decode cX13_statement 237 = .ok (.aload_n 0, 1) := by decide +kernel
theorem dX13_statement_238 : decode cX13_statement 238 = .ok (.getfield 126, 3) := by decide +kernel
theorem dX13_statement_24 : decode cX13_statement 24 = .ok (.getfield 397, 3) := by decide +kernel
theorem dX13_statement_241 : decode cX13_statement 241 = .ok (.iload 4, 2) := by decide +kernel
theorem dX13_statement_243 : decode cX13_statement 243 = .ok (.bipush 10, 2) := by decide +kernel
theorem dX13_statement_245 : decode cX13_statement 245 = .ok (.iastore, 1) := by decide +kernel
theorem dX13_statement_246 : decode cX13_statement 246 = .ok (.aload_n 0, 1) := by decide +kernel
theorem dX13_statement_247 : decode cX13_statement 247 = .ok (.getfield 156, 3) := by decide +kernel
theorem dX13_statement_250 : decode cX13_statement 250 = .ok (.iload 4, 2) := by decide +kernel
theorem dX13_statement_252 : decode cX13_statement 252 = .ok (.aload_n 0, 1) := by decide +kernel
theorem dX13_statement_253 : decode cX13_statement 253 = .ok (.iload 4, 2) := by decide +kernel
theorem dX13_statement_255 : decode cX13_statement 255 = .ok (.iload_n 2, 1) := by decide +kernel
theorem dX13_statement_256 : decode cX13_statement 256 = .ok (.iconst 1, 1) := by decide +kernel
theorem dX13_statement_257 : decode cX13_statement 257 = .ok (.iadd, 1) := by decide +kernel
theorem dX13_statement_258 : decode cX13_statement 258 = .ok (.invokestatic 720, 3) := by decide +kernel
theorem dX13_statement_261 : decode cX13_statement 261 = .ok (.iastore, 1) := by decide +kernel
theorem dX13_statement_262 : decode cX13_statement 262 = .ok (.goto 16, 3) := by decide +kernel
theorem dX13_statement_265 : decode cX13_statement 265 = .ok (.aload_n 0, 1) := by decide +kernel
theorem dX13_statement_266 : decode cX13_statement 266 = .ok (.iload 4, 2) := by decide +kernel
theorem dX13_statement_268 : decode cX13_statement 268 = .ok (.iload_n 3, 1) := by decide +kernel
theorem dX13_statement_269 : decode cX13_statement 269 = .ok (.invokevirtual 758, 3) := by decide +kernel
theorem dX13_statement_27 : decode cX13_statement 27 = .ok (.istore_n 3, 1) := by decide +kernel
theorem dX13_statement_272 : decode cX13_statement 272 = .ok (.aload_n 0, 1) := by decide +kernel
theorem dX13_statement_273 : decode cX13_statement 273 = .ok (.bipush 59, 2) := by decide +kernel
theorem dX13_statement_275 : decode cX13_statement 275 = .ok (.invokevirtual 528, 3) := by decide +kernel
theorem dX13_statement_278 : decode cX13_statement 278 = .ok (.iload 4, 2) := by decide +kernel
theorem dX13_statement_28 : decode cX13_statement 28 = .ok (.aload_n 0, 1) := by decide +kernel
theorem dX13_statement_280 : decode cX13_statement 280 = .ok (.ireturn, 1) := by decide +kernel
theorem dX13_statement_29 : decode cX13_statement 29 = .ok (.iconst 0, 1) := by decide +kernel
theorem dX13_statement_30 : decode cX13_statement 30 = .ok (.iload_n 1, 1) := by decide +kernel
theorem dX13_statement_31 : decode cX13_statement 31 = .ok (.invokevirtual 749, 3) := by decide +kernel
theorem dX13_statement_34 : decode cX13_statement 34 = .ok (.istore 4, 2) := by decide +kernel
theorem dX13_statement_36 : decode cX13_statement 36 = .ok (.iload_n 3, 1) := by decide +kernel
theorem dX13_statement_37 : decode cX13_statement 37 = .ok (.ifCond .ge 12, 3) := by decide +kernel
theorem dX13_statement_4 : decode cX13_statement 4 = .ok (.ifCond .ne 14, 3) := by decide +kernel
theorem dX13_statement_40 : decode cX13_statement 40 = .ok (.aload_n 0, 1) := by decide +kernel
theorem dX13_statement_41 : decode cX13_statement 41 = .ok (.iload 4, 2) := by decide +kernel
theorem dX13_statement_43 : decode cX13_statement 43 = .ok (.invokevirtual 752, 3) := by decide +kernel
theorem dX13_statement_46 : decode cX13_statement 46 = .ok (.iload 4, 2) := by decide +kernel
theorem dX13_statement_48 : decode cX13_statement 48 = .ok (.ireturn, 1) := by decide +kernel
theorem dX13_statement_49 : decode cX13_statement 49 = .ok (.iload_n 3, 1) := by decide +kernel
theorem dX13_statement_50 : decode cX13_statement 50 = .ok (.bipush 61, 2) := by decide +kernel
theorem dX13_statement_52 : decode cX13_statement 52 = .ok (.if_icmp .eq 15, 3) := by decide +kernel
theorem dX13_statement_55 : decode cX13_statement 55 = .ok (.iload_n 3, 1) := by decide +kernel
theorem dX13_statement_56 : decode cX13_statement 56 = .ok (.bipush 63, 2) := by decide +kernel
theorem dX13_statement_58 : decode cX13_statement 58 = .ok (.if_icmp .eq 9, 3) := by decide +kernel
theorem dX13_statement_61 : decode cX13_statement 61 = .ok (.iload_n 3, 1) := by decide +kernel
theorem dX13_statement_62 : decode cX13_statement 62 = .ok (.bipush 64, 2) := by decide +kernel
theorem dX13_statement_64 : decode cX13_statement 64 = .ok (.if_icmp .ne 27, 3) := by decide +kernel
theorem dX13_statement_67 : decode cX13_statement 67 = .ok (.aload_n 0, 1) := by decide +kernel
theorem dX13_statement_68 : decode cX13_statement 68 = .ok (.getfield 126, 3) := by decide +kernel
theorem dX13_statement_7 : decode cX13_statement 7 = .ok (.aload_n 0, 1) := by decide +kernel
theorem dX13_statement_71 : decode cX13_statement 71 = .ok (.iload 4, 2) := by decide +kernel
theorem dX13_statement_73 : decode cX13_statement 73 = .ok (.bipush 11, 2) := by decide +kernel
theorem dX13_statement_75 : decode cX13_statement 75 = .ok (.iastore, 1) := by decide +kernel
theorem dX13_statement_76 : decode cX13_statement 76 = .ok (.aload_n 0, 1) := by decide +kernel
theorem dX13_statement_77 : decode cX13_statement 77 = .ok (.iload 4, 2) := by decide +kernel
theorem dX13_statement_79 : decode cX13_statement 79 = .ok (.invokestatic 755, 3) := by decide +kernel
theorem dX13_statement_8 : decode cX13_statement 8 = .ok (.iconst 2, 1) := by decide +kernel
theorem dX13_statement_82 : decode cX13_statement 82 = .ok (.aload_n 0, 1) := by decide +kernel
theorem dX13_statement_83 : decode cX13_statement 83 = .ok (.bipush 59, 2) := by decide +kernel
theorem dX13_statement_85 : decode cX13_statement 85 = .ok (.invokevirtual 528, 3) := by decide +kernel
theorem dX13_statement_88 : decode cX13_statement 88 = .ok (.iload 4, 2) := by decide +kernel
theorem dX13_statement_9 : decode cX13_statement 9 = .ok (.aload_n 0, 1) := by decide +kernel
theorem dX13_statement_90 : decode cX13_statement 90 = .ok (.ireturn, 1) := by decide +kernel
theorem dX13_statement_91 : decode cX13_statement 91 = .ok (.aload_n 0, 1) := by decide +kernel
theorem dX13_statement_92 : decode cX13_statement 92 = .ok (.invokevirtual 452, 3) := by decide +kernel
theorem dX13_statement_95 : decode cX13_statement 95 = .ok (.iload_n 3, 1) := by decide +kernel
theorem dX13_statement_96 : decode cX13_statement 96 = .ok (.lookupswitch 169 #[(37, 36), (39, 103), (49, 141)], 36) := by decide +kernel
abbrev RT_X13_block : Type := (Int32 → Int32 → t_S → Option (Int32 × t_S)) × (Int32 → Int32 → t_S → Option (Int32 × t_S)) × (Int32 → Int32 → t_S → Option (Int32 × t_S)) × (Int32 → Int32 → t_S → Option (Int32 × t_S))
def RH_X13_block (rc : RT_X13_block) (k : Nat) : Prop := (∀ (x2 : Int32) (x3 : Int32) (s : t_S) (r : Int32 × t_S), rc.1 x2 x3 s = some r → t_C yX13_block cX13_block 6 (some .int) (312 + k) [.ref 950, .int x2, .int x3] s (fun v s' => v = some (.int r.1) ∧ s' = r.2)) ∧ (∀ (x2 : Int32) (x3 : Int32) (s : t_S) (r : Int32 × t_S), rc.2.1 x2 x3 s = some r → t_C yX13_branch cX13_branch 4 (some .int) (312 + k) [.ref 950, .int x2, .int x3] s (fun v s' => v = some (.int r.1) ∧ s' = r.2)) ∧ (∀ (x2 : Int32) (x3 : Int32) (s : t_S) (r : Int32 × t_S), rc.2.2.1 x2 x3 s = some r → t_C yX13_branches cX13_branches 6 (some .int) (312 + k) [.ref 950, .int x2, .int x3] s (fun v s' => v = some (.int r.1) ∧ s' = r.2)) ∧ (∀ (x2 : Int32) (x3 : Int32) (s : t_S) (r : Int32 × t_S), rc.2.2.2 x2 x3 s = some r → t_C yX13_statement cX13_statement 5 (some .int) (312 + k) [.ref 950, .int x2, .int x3] s (fun v s' => v = some (.int r.1) ∧ s' = r.2))
noncomputable def k_X13_block_83 (rc : RT_X13_block) (l1 : Int32) (l2 : Int32) (l5 : Int32) (k0 : Int32) (s : t_S) : Option ((Int32 × Int32 × Int32 × Int32 × t_S) ⊕ (Int32 × t_S)) :=
 some (.inl (l1, l2, k0, l5, s))
set_option maxRecDepth 4000 in
set_option maxHeartbeats 1000000 in
theorem B_X13_block_83 {D : va_G} {cy : Nat → ClassId} {ad : Nat → Nat} {bs : Nat} {X : State → Heap → Prop} (rc : RT_X13_block) {k : Nat} (H : RH_X13_block rc k) (l1 : Int32) (l2 : Int32) (l5 : Int32) (k0 : Int32) (s : t_S) (Q : (Int32 × Int32 × Int32 × Int32 × t_S) ⊕ (Int32 × t_S) → Prop) (Hb35 : ∀ (y0 : Int32) (y1 : Int32) (y2 : Int32) (y3 : Int32) (y4 : t_S), Q (.inl (y0, y1, y2, y3, y4)) → mj_G D cy ad bs X cX13_block 6 yX13_block.cls (some .int) yX13_block.name (312 + (k + 1)) 0 0 1065 (t_P (fun v s' => ∃ x, v = some (.int x) ∧ Q (.inr ((x, s'))))) 35 [(0, .ref 950), (1, .int (y0)), (2, .int (y1)), (3, .int (y2)), (4, .int (y3))] [] (t_m y4) 1065 0 0) (hk : t_hk (k_X13_block_83 rc l1 l2 l5 k0 s) Q) : mj_G D cy ad bs X cX13_block 6 yX13_block.cls (some .int) yX13_block.name (312 + (k + 1)) 0 0 1065 (t_P (fun v s' => ∃ x, v = some (.int x) ∧ Q (.inr ((x, s'))))) 83 [(0, .ref 950), (1, .int l1), (2, .int l2), (5, .int l5)] [.int k0] (t_m s) 1065 0 0 := by
  refine mj_istore_n 3 (lv2 := [(3, .int k0), (0, .ref 950), (1, .int l1), (2, .int l2), (5, .int l5)]) dX13_block_83 rfl (by decide) rfl ?_
  refine mj_iload dX13_block_84 4 rfl ?_
  refine mj_istore (lv2 := [(4, .int l5), (3, .int k0), (0, .ref 950), (1, .int l1), (2, .int l2), (5, .int l5)]) dX13_block_86 (by decide) rfl ?_
  refine mj_goto 35 dX13_block_88 (by decide) ?_
  refine mj_sublv [(0, .ref 950), (1, .int l1), (2, .int l2), (3, .int k0), (4, .int l5)] [2, 3, 4, 1, 0] rfl ?_
  exact t_somK hk (fun hf => Hb35 l1 l2 k0 l5 s hf)
noncomputable def k_X13_block_73 (rc : RT_X13_block) (l1 : Int32) (l2 : Int32) (l3 : Int32) (l5 : Int32) (s : t_S) : Option ((Int32 × Int32 × Int32 × Int32 × t_S) ⊕ (Int32 × t_S)) :=
 if (0 : Int32) ≤ l3 then (k_X13_block_83 rc l1 l2 l5 l3 s)
 else (k_X13_block_83 rc l1 l2 l5 l5 s)
set_option maxRecDepth 4000 in
set_option maxHeartbeats 1000000 in
theorem B_X13_block_73 {D : va_G} {cy : Nat → ClassId} {ad : Nat → Nat} {bs : Nat} {X : State → Heap → Prop} (rc : RT_X13_block) {k : Nat} (H : RH_X13_block rc k) (l1 : Int32) (l2 : Int32) (l3 : Int32) (l5 : Int32) (s : t_S) (Q : (Int32 × Int32 × Int32 × Int32 × t_S) ⊕ (Int32 × t_S) → Prop) (Hb35 : ∀ (y0 : Int32) (y1 : Int32) (y2 : Int32) (y3 : Int32) (y4 : t_S), Q (.inl (y0, y1, y2, y3, y4)) → mj_G D cy ad bs X cX13_block 6 yX13_block.cls (some .int) yX13_block.name (312 + (k + 1)) 0 0 1065 (t_P (fun v s' => ∃ x, v = some (.int x) ∧ Q (.inr ((x, s'))))) 35 [(0, .ref 950), (1, .int (y0)), (2, .int (y1)), (3, .int (y2)), (4, .int (y3))] [] (t_m y4) 1065 0 0) (hk : t_hk (k_X13_block_73 rc l1 l2 l3 l5 s) Q) : mj_G D cy ad bs X cX13_block 6 yX13_block.cls (some .int) yX13_block.name (312 + (k + 1)) 0 0 1065 (t_P (fun v s' => ∃ x, v = some (.int x) ∧ Q (.inr ((x, s'))))) 73 [(0, .ref 950), (1, .int l1), (2, .int l2), (3, .int l3), (5, .int l5)] [] (t_m s) 1065 0 0 := by
  refine mj_iload_n dX13_block_73 3 rfl ?_
  refine mj_if_ge 82 dX13_block_74 (by decide) (fun z => t_posK hk z (fun hk => ?_)) (fun z => t_negK hk z (fun hk => ?_))
  · refine mj_iload_n dX13_block_82 3 rfl ?_
    refine mj_sublv [(0, .ref 950), (1, .int l1), (2, .int l2), (5, .int l5)] [0, 1, 2, 4] rfl ?_
    exact B_X13_block_83 rc H _ _ _ _ _ _ (fun y0 y1 y2 y3 y4 hx => Hb35 y0 y1 y2 y3 y4 hx) hk
  · refine mj_iload dX13_block_77 4 rfl ?_
    refine mj_goto 83 dX13_block_79 (by decide) ?_
    refine mj_sublv [(0, .ref 950), (1, .int l1), (2, .int l2), (5, .int l5)] [0, 1, 2, 4] rfl ?_
    exact B_X13_block_83 rc H _ _ _ _ _ _ (fun y0 y1 y2 y3 y4 hx => Hb35 y0 y1 y2 y3 y4 hx) hk
noncomputable def k_X13_block_91 (rc : RT_X13_block) (l3 : Int32) (s : t_S) : Option (Int32 × t_S) :=
 (f_X13_mustBe (125 : Int32) s).bind (fun r1 =>
 some (l3, r1))
set_option maxRecDepth 4000 in
set_option maxHeartbeats 1000000 in
theorem B_X13_block_91 {D : va_G} {cy : Nat → ClassId} {ad : Nat → Nat} {bs : Nat} {X : State → Heap → Prop} (rc : RT_X13_block) {k : Nat} (H : RH_X13_block rc k) (l3 : Int32) (s : t_S) (Q : Int32 × t_S → Prop) (hk : t_hk (k_X13_block_91 rc l3 s) Q) : mj_G D cy ad bs X cX13_block 6 yX13_block.cls (some .int) yX13_block.name (312 + (k + 1)) 0 0 1065 (t_P (fun v s' => ∃ x, v = some (.int x) ∧ Q ((x, s')))) 91 [(0, .ref 950), (3, .int l3)] [] (t_m s) 1065 0 0 := by
  refine mj_aload_n dX13_block_91 0 rfl ?_
  refine mj_bipush (v := 125) dX13_block_92 (by decide) ?_
  refine t_bndK hk (fun r1 er1 hk => ?_)
  refine t_callVvE dX13_block_94 M_X13_mustBe (C_X13_mustBe _ _ _ er1) ML_X13_528 IM_X13_mustBe SE_X13_mustBe qc_950 rfl (As := [.int 125]) rfl rfl (by omega) (Nat.le_of_ble_eq_true rfl) (Nat.le_of_ble_eq_true rfl) (Nat.le_of_ble_eq_true rfl) ?_
  refine mj_iload_n dX13_block_97 1 rfl ?_
  exact t_somK hk (fun hf => t_iret dX13_block_98 rfl rfl ⟨_, rfl, hf⟩ (Nat.le_of_ble_eq_true rfl) (Nat.le_of_ble_eq_true rfl))
noncomputable def k_X13_block_35 (rc : RT_X13_block) (l1 : Int32) (l2 : Int32) (l3 : Int32) (l4 : Int32) (s : t_S) : Option ((Int32 × Int32 × Int32 × Int32 × t_S) ⊕ (Int32 × t_S)) :=
 if (s.1 950 2) = (0 : Int32) then (if (f_X13_is (125 : Int32) s) = (0 : Int32) then ((rc.2.2.2 l1 l2 s).bind (fun r2 =>
 if l4 < (0 : Int32) then (k_X13_block_73 rc l1 l2 l3 r2.1 r2.2)
 else (if t_ix l4 401 = true then
  t_let (t_setI r2.2 989 (l4.toNatClampNeg) r2.1) (fun s1 =>
 k_X13_block_73 rc l1 l2 l3 r2.1 s1)
else none)))
 else ((k_X13_block_91 rc l3 s).map Sum.inr))
 else ((k_X13_block_91 rc l3 s).map Sum.inr)
set_option maxRecDepth 4000 in
set_option maxHeartbeats 1000000 in
theorem B_X13_block_35 {D : va_G} {cy : Nat → ClassId} {ad : Nat → Nat} {bs : Nat} {X : State → Heap → Prop} (rc : RT_X13_block) {k : Nat} (H : RH_X13_block rc k) (l1 : Int32) (l2 : Int32) (l3 : Int32) (l4 : Int32) (s : t_S) (Q : (Int32 × Int32 × Int32 × Int32 × t_S) ⊕ (Int32 × t_S) → Prop) (Hb35 : ∀ (y0 : Int32) (y1 : Int32) (y2 : Int32) (y3 : Int32) (y4 : t_S), Q (.inl (y0, y1, y2, y3, y4)) → mj_G D cy ad bs X cX13_block 6 yX13_block.cls (some .int) yX13_block.name (312 + (k + 1)) 0 0 1065 (t_P (fun v s' => ∃ x, v = some (.int x) ∧ Q (.inr ((x, s'))))) 35 [(0, .ref 950), (1, .int (y0)), (2, .int (y1)), (3, .int (y2)), (4, .int (y3))] [] (t_m y4) 1065 0 0) (hk : t_hk (k_X13_block_35 rc l1 l2 l3 l4 s) Q) : mj_G D cy ad bs X cX13_block 6 yX13_block.cls (some .int) yX13_block.name (312 + (k + 1)) 0 0 1065 (t_P (fun v s' => ∃ x, v = some (.int x) ∧ Q (.inr ((x, s'))))) 35 [(0, .ref 950), (1, .int l1), (2, .int l2), (3, .int l3), (4, .int l4)] [] (t_m s) 1065 0 0 := by
  refine mj_aload_n dX13_block_35 0 rfl ?_
  refine t_getI dX13_block_36 F_X13_375 qf_950_2 ?_
  refine mj_if_ne 91 dX13_block_39 (by decide) (fun z => t_negK hk z (fun hk => ?_)) (fun z => t_posK hk z (fun hk => ?_))
  · refine mj_sublv [(0, .ref 950), (3, .int l3)] [0, 3] rfl ?_
    refine t_mapK hk (fun hk => ?_)
    exact B_X13_block_91 rc H _ _ _ hk
  · refine mj_aload_n dX13_block_42 0 rfl ?_
    refine mj_bipush (v := 125) dX13_block_43 (by decide) ?_
    refine t_callViP dX13_block_45 M_X13_is (C_X13_is _ _) ML_X13_449 IM_X13_is SE_X13_is qc_950 rfl (As := [.int 125]) rfl rfl (by omega) (Nat.le_of_ble_eq_true rfl) (Nat.le_of_ble_eq_true rfl) (Nat.le_of_ble_eq_true rfl) ?_
    refine mj_if_ne 91 dX13_block_48 (by decide) (fun z => t_negK hk z (fun hk => ?_)) (fun z => t_posK hk z (fun hk => ?_))
    · refine mj_sublv [(0, .ref 950), (3, .int l3)] [0, 3] rfl ?_
      refine t_mapK hk (fun hk => ?_)
      exact B_X13_block_91 rc H _ _ _ hk
    · refine mj_aload_n dX13_block_51 0 rfl ?_
      refine mj_iload_n dX13_block_52 1 rfl ?_
      refine mj_iload_n dX13_block_53 2 rfl ?_
      refine t_bndK hk (fun r2 er2 hk => ?_)
      refine t_callSiE dX13_block_54 M_X13_statement (H.2.2.2 _ _ _ _ er2) ML_X13_743 SM_X13_statement (As := [.ref 950, .int l1, .int l2]) rfl rfl (by omega) (Nat.le_of_ble_eq_true rfl) (Nat.le_of_ble_eq_true rfl) (Nat.le_of_ble_eq_true rfl) ?_
      refine mj_istore (lv2 := [(5, .int r2.1), (0, .ref 950), (1, .int l1), (2, .int l2), (3, .int l3), (4, .int l4)]) dX13_block_57 (by decide) rfl ?_
      refine mj_iload dX13_block_59 5 rfl ?_
      refine mj_if_lt 73 dX13_block_61 (by decide) (fun z => t_posK hk z (fun hk => ?_)) (fun z => t_negK hk z (fun hk => ?_))
      · refine mj_sublv [(0, .ref 950), (1, .int l1), (2, .int l2), (3, .int l3), (5, .int r2.1)] [1, 2, 3, 4, 0] rfl ?_
        exact B_X13_block_73 rc H _ _ _ _ _ _ (fun y0 y1 y2 y3 y4 hx => Hb35 y0 y1 y2 y3 y4 hx) hk
      · refine mj_aload_n dX13_block_64 1 rfl ?_
        refine t_getR 989 dX13_block_65 F_X13_129 qr_950_67 ?_
        refine mj_iload dX13_block_68 5 rfl ?_
        refine mj_iload dX13_block_70 0 rfl ?_
        refine t_chkK hk (fun c2 hk => ?_)
        refine t_iastK dX13_block_72 qa_989 (t_ixv c2) (fun s1 ws1 => t_letE hk ws1 (fun hk => ?_))
        refine mj_sublv [(0, .ref 950), (1, .int l1), (2, .int l2), (3, .int l3), (5, .int r2.1)] [1, 2, 3, 4, 0] rfl ?_
        exact B_X13_block_73 rc H _ _ _ _ _ _ (fun y0 y1 y2 y3 y4 hx => Hb35 y0 y1 y2 y3 y4 hx) hk
noncomputable def b_X13_block_35 (rc : RT_X13_block) (x : Int32 × Int32 × Int32 × Int32 × t_S) : Option ((Int32 × Int32 × Int32 × Int32 × t_S) ⊕ (Int32 × t_S)) := k_X13_block_35 rc x.1 x.2.1 x.2.2.1 x.2.2.2.1 x.2.2.2.2
set_option maxRecDepth 4000 in
set_option maxHeartbeats 1000000 in
theorem LH_X13_block_35 {D : va_G} {cy : Nat → ClassId} {ad : Nat → Nat} {bs : Nat} {X : State → Heap → Prop} (rc : RT_X13_block) {k : Nat} (H : RH_X13_block rc k) : ∀ (n : Nat) (y0 : Int32) (y1 : Int32) (y2 : Int32) (y3 : Int32) (y4 : t_S) (Q : Int32 × t_S → Prop) (hk : t_hk (t_loop (b_X13_block_35 rc) n (y0, y1, y2, y3, y4)) Q), mj_G D cy ad bs X cX13_block 6 yX13_block.cls (some .int) yX13_block.name (312 + (k + 1)) 0 0 1065 (t_P (fun v s' => ∃ x, v = some (.int x) ∧ Q ((x, s')))) 35 [(0, .ref 950), (1, .int (y0)), (2, .int (y1)), (3, .int (y2)), (4, .int (y3))] [] (t_m y4) 1065 0 0 := by
  intro n
  induction n with
  | zero => intro y0 y1 y2 y3 y4 Q hk; obtain ⟨r, hr, _⟩ := hk; cases hr
  | succ n ih =>
    intro y0 y1 y2 y3 y4 Q hk
    exact B_X13_block_35 rc H y0 y1 y2 y3 y4 (fun y => t_lq (b_X13_block_35 rc) n Q y) (fun y0' y1' y2' y3' y4' hy => ih y0' y1' y2' y3' y4' Q hy) (t_lp (b := b_X13_block_35 rc) (n := n) (x := (y0, y1, y2, y3, y4)) hk)
noncomputable def k_X13_block_24 (rc : RT_X13_block) (l1 : Int32) (l2 : Int32) (s : t_S) : Option (Int32 × t_S) :=
 (f_X13_mustBe (123 : Int32) s).bind (fun r1 =>
 t_loop (b_X13_block_35 rc) t_N (l1, l2, (-1), (-1), r1))
set_option maxRecDepth 4000 in
set_option maxHeartbeats 1000000 in
theorem B_X13_block_24 {D : va_G} {cy : Nat → ClassId} {ad : Nat → Nat} {bs : Nat} {X : State → Heap → Prop} (rc : RT_X13_block) {k : Nat} (H : RH_X13_block rc k) (l1 : Int32) (l2 : Int32) (s : t_S) (Q : Int32 × t_S → Prop) (hk : t_hk (k_X13_block_24 rc l1 l2 s) Q) : mj_G D cy ad bs X cX13_block 6 yX13_block.cls (some .int) yX13_block.name (312 + (k + 1)) 0 0 1065 (t_P (fun v s' => ∃ x, v = some (.int x) ∧ Q ((x, s')))) 24 [(0, .ref 950), (1, .int l1), (2, .int l2)] [] (t_m s) 1065 0 0 := by
  refine mj_aload_n dX13_block_24 0 rfl ?_
  refine mj_bipush (v := 123) dX13_block_25 (by decide) ?_
  refine t_bndK hk (fun r1 er1 hk => ?_)
  refine t_callVvE dX13_block_27 M_X13_mustBe (C_X13_mustBe _ _ _ er1) ML_X13_528 IM_X13_mustBe SE_X13_mustBe qc_950 rfl (As := [.int 123]) rfl rfl (by omega) (Nat.le_of_ble_eq_true rfl) (Nat.le_of_ble_eq_true rfl) (Nat.le_of_ble_eq_true rfl) ?_
  refine mj_iconst (v := (-1)) dX13_block_30 (by decide) ?_
  refine mj_istore_n 3 (lv2 := [(3, .int (-1)), (0, .ref 950), (1, .int l1), (2, .int l2)]) dX13_block_31 rfl (by decide) rfl ?_
  refine mj_iconst (v := (-1)) dX13_block_32 (by decide) ?_
  refine mj_istore (lv2 := [(4, .int (-1)), (3, .int (-1)), (0, .ref 950), (1, .int l1), (2, .int l2)]) dX13_block_33 (by decide) rfl ?_
  refine mj_sublv [(0, .ref 950), (1, .int l1), (2, .int l2), (3, .int (-1)), (4, .int (-1))] [2, 3, 4, 1, 0] rfl ?_
  exact LH_X13_block_35 rc H _ l1 l2 (-1) (-1) r1 _ hk
noncomputable def m_X13_block (rc : RT_X13_block) (x2 : Int32) (x3 : Int32) (s : t_S) : Option (Int32 × t_S) :=
 if x3 ≤ (16 : Int32) then (k_X13_block_24 rc x2 x3 s)
 else (if (f_X13_is (123 : Int32) s) = (0 : Int32) then (k_X13_block_24 rc x2 x3 s)
 else ((f_X13_fail (5 : Int32) (s.1 950 6) s).bind (fun r2 =>
 k_X13_block_24 rc x2 x3 r2)))
set_option maxRecDepth 4000 in
set_option maxHeartbeats 1000000 in
theorem E_X13_block (rc : RT_X13_block) {k : Nat} (H : RH_X13_block rc k) (x2 : Int32) (x3 : Int32) (s : t_S) (r : Int32 × t_S) (hr : m_X13_block rc x2 x3 s = some r) : t_C yX13_block cX13_block 6 (some .int) (312 + (k + 1)) [.ref 950, .int x2, .int x3] s (fun v s' => v = some (.int r.1) ∧ s' = r.2) := by
  refine t_C.imp (P := fun v s' => ∃ x, v = some (.int x) ∧ (fun q => q = r) ((x, s'))) (t_C.of (by decide +kernel) (Nat.le_of_ble_eq_true rfl) ?_) (fun v s' hp => by obtain ⟨x, rfl, rfl⟩ := hp; exact ⟨rfl, rfl⟩)
  intro D cy ad bs X
  have hk : t_hk (m_X13_block rc x2 x3 s) (fun q => q = r) := ⟨r, hr, rfl⟩
  show mj_G D cy ad bs X cX13_block 6 yX13_block.cls (some .int) yX13_block.name (312 + (k + 1)) 0 0 1065 (t_P (fun v s' => ∃ x, v = some (.int x) ∧ (fun q => q = r) ((x, s')))) 0 [(0, .ref 950), (1, .int x2), (2, .int x3)] [] (t_m s) 1065 0 0
  refine mj_iload_n dX13_block_0 2 rfl ?_
  refine mj_bipush (v := 16) dX13_block_1 (by decide) ?_
  refine mj_icmp_le 24 dX13_block_3 (by decide) (fun z => t_posK hk z (fun hk => ?_)) (fun z => t_negK hk z (fun hk => ?_))
  · exact B_X13_block_24 rc H _ _ _ _ hk
  · refine mj_aload_n dX13_block_6 0 rfl ?_
    refine mj_bipush (v := 123) dX13_block_7 (by decide) ?_
    refine t_callViP dX13_block_9 M_X13_is (C_X13_is _ _) ML_X13_449 IM_X13_is SE_X13_is qc_950 rfl (As := [.int 123]) rfl rfl (by omega) (Nat.le_of_ble_eq_true rfl) (Nat.le_of_ble_eq_true rfl) (Nat.le_of_ble_eq_true rfl) ?_
    refine mj_if_eq 24 dX13_block_12 (by decide) (fun z => t_posK hk z (fun hk => ?_)) (fun z => t_negK hk z (fun hk => ?_))
    · exact B_X13_block_24 rc H _ _ _ _ hk
    · refine mj_aload_n dX13_block_15 0 rfl ?_
      refine mj_iconst (v := 5) dX13_block_16 (by decide) ?_
      refine mj_aload_n dX13_block_17 0 rfl ?_
      refine t_getI dX13_block_18 F_X13_391 qf_950_6 ?_
      refine t_bndK hk (fun r2 er2 hk => ?_)
      refine t_callVvE dX13_block_21 M_X13_fail (C_X13_fail _ _ _ _ er2) ML_X13_411 IM_X13_fail SE_X13_fail qc_950 rfl (As := [.int 5, .int (s.1 950 6)]) rfl rfl (by omega) (Nat.le_of_ble_eq_true rfl) (Nat.le_of_ble_eq_true rfl) (Nat.le_of_ble_eq_true rfl) ?_
      exact B_X13_block_24 rc H _ _ _ _ hk
noncomputable def k_X13_branch_98 (rc : RT_X13_block) (l2 : Int32) (l3 : Int32) (s : t_S) : Option (Int32 × t_S) :=
 (f_X13_mustBe (93 : Int32) s).bind (fun r1 =>
 if (f_X13_isWord (65 : Int32) r1) = (0 : Int32) then ((f_X13_event l3 r1).bind (fun r3 =>
 (rc.1 l3 (l2 + (1 : Int32)) r3).bind (fun r4 =>
 if t_ix l3 401 = true then
  t_let (t_setI r4.2 998 (l3.toNatClampNeg) r4.1) (fun s1 =>
 some (l3, s1))
else none)))
 else ((f_X13_next r1).bind (fun r6 =>
 if t_ix l3 401 = true then
  t_let (t_setI r6 1000 (l3.toNatClampNeg) (3 : Int32)) (fun s2 =>
 (f_X13_callOf l3 s2).bind (fun r8 =>
 t_let (t_setI r8.2 995 (l3.toNatClampNeg) r8.1) (fun s3 =>
 (f_X13_mustBe (59 : Int32) s3).bind (fun r9 =>
 some (l3, r9)))))
else none)))
set_option maxRecDepth 4000 in
set_option maxHeartbeats 1000000 in
theorem B_X13_branch_98 {D : va_G} {cy : Nat → ClassId} {ad : Nat → Nat} {bs : Nat} {X : State → Heap → Prop} (rc : RT_X13_block) {k : Nat} (H : RH_X13_block rc k) (l2 : Int32) (l3 : Int32) (s : t_S) (Q : Int32 × t_S → Prop) (hk : t_hk (k_X13_branch_98 rc l2 l3 s) Q) : mj_G D cy ad bs X cX13_branch 4 yX13_branch.cls (some .int) yX13_branch.name (312 + (k + 1)) 0 0 1065 (t_P (fun v s' => ∃ x, v = some (.int x) ∧ Q ((x, s')))) 98 [(0, .ref 950), (2, .int l2), (3, .int l3)] [] (t_m s) 1065 0 0 := by
  refine mj_aload_n dX13_branch_98 0 rfl ?_
  refine mj_bipush (v := 93) dX13_branch_99 (by decide) ?_
  refine t_bndK hk (fun r1 er1 hk => ?_)
  refine t_callVvE dX13_branch_101 M_X13_mustBe (C_X13_mustBe _ _ _ er1) ML_X13_528 IM_X13_mustBe SE_X13_mustBe qc_950 rfl (As := [.int 93]) rfl rfl (by omega) (Nat.le_of_ble_eq_true rfl) (Nat.le_of_ble_eq_true rfl) (Nat.le_of_ble_eq_true rfl) ?_
  refine mj_aload_n dX13_branch_104 0 rfl ?_
  refine mj_bipush (v := 65) dX13_branch_105 (by decide) ?_
  refine t_callViP dX13_branch_107 M_X13_isWord (C_X13_isWord _ _) ML_X13_455 IM_X13_isWord SE_X13_isWord qc_950 rfl (As := [.int 65]) rfl rfl (by omega) (Nat.le_of_ble_eq_true rfl) (Nat.le_of_ble_eq_true rfl) (Nat.le_of_ble_eq_true rfl) ?_
  refine mj_if_eq 143 dX13_branch_110 (by decide) (fun z => t_posK hk z (fun hk => ?_)) (fun z => t_negK hk z (fun hk => ?_))
  · refine mj_aload_n dX13_branch_143 0 rfl ?_
    refine mj_iload_n dX13_branch_144 2 rfl ?_
    refine t_bndK hk (fun r3 er3 hk => ?_)
    refine t_callSvE dX13_branch_145 M_X13_event (C_X13_event _ _ _ er3) ML_X13_755 SM_X13_event (As := [.ref 950, .int l3]) rfl rfl (by omega) (Nat.le_of_ble_eq_true rfl) (Nat.le_of_ble_eq_true rfl) (Nat.le_of_ble_eq_true rfl) ?_
    refine mj_aload_n dX13_branch_148 0 rfl ?_
    refine t_getR 998 dX13_branch_149 F_X13_156 qr_950_76 ?_
    refine mj_iload_n dX13_branch_152 2 rfl ?_
    refine mj_aload_n dX13_branch_153 0 rfl ?_
    refine mj_iload_n dX13_branch_154 2 rfl ?_
    refine mj_iload_n dX13_branch_155 1 rfl ?_
    refine mj_iconst (v := 1) dX13_branch_156 (by decide) ?_
    refine mj_iadd dX13_branch_157 ?_
    refine t_bndK hk (fun r4 er4 hk => ?_)
    refine t_callSiE dX13_branch_158 M_X13_block (H.1 _ _ _ _ er4) ML_X13_724 SM_X13_block (As := [.ref 950, .int l3, .int (l2 + (1 : Int32))]) rfl rfl (by omega) (Nat.le_of_ble_eq_true rfl) (Nat.le_of_ble_eq_true rfl) (Nat.le_of_ble_eq_true rfl) ?_
    refine t_chkK hk (fun c4 hk => ?_)
    refine t_iastK dX13_branch_161 qa_998 (t_ixv c4) (fun s1 ws1 => t_letE hk ws1 (fun hk => ?_))
    refine mj_iload_n dX13_branch_162 2 rfl ?_
    exact t_somK hk (fun hf => t_iret dX13_branch_163 rfl rfl ⟨_, rfl, hf⟩ (Nat.le_of_ble_eq_true rfl) (Nat.le_of_ble_eq_true rfl))
  · refine mj_aload_n dX13_branch_113 0 rfl ?_
    refine t_bndK hk (fun r6 er6 hk => ?_)
    refine t_callVvE dX13_branch_114 M_X13_next (C_X13_next _ _ er6) ML_X13_452 IM_X13_next SE_X13_next qc_950 rfl (As := []) rfl rfl (by omega) (Nat.le_of_ble_eq_true rfl) (Nat.le_of_ble_eq_true rfl) (Nat.le_of_ble_eq_true rfl) ?_
    refine mj_aload_n dX13_branch_117 0 rfl ?_
    refine t_getR 1000 dX13_branch_118 F_X13_162 qr_950_78 ?_
    refine mj_iload_n dX13_branch_121 2 rfl ?_
    refine mj_iconst (v := 3) dX13_branch_122 (by decide) ?_
    refine t_chkK hk (fun c6 hk => ?_)
    refine t_iastK dX13_branch_123 qa_1000 (t_ixv c6) (fun s2 ws2 => t_letE hk ws2 (fun hk => ?_))
    refine mj_aload_n dX13_branch_124 0 rfl ?_
    refine t_getR 995 dX13_branch_125 F_X13_147 qr_950_73 ?_
    refine mj_iload_n dX13_branch_128 2 rfl ?_
    refine mj_aload_n dX13_branch_129 0 rfl ?_
    refine mj_iload_n dX13_branch_130 2 rfl ?_
    refine t_bndK hk (fun r8 er8 hk => ?_)
    refine t_callViE dX13_branch_131 M_X13_callOf (C_X13_callOf _ _ _ er8) ML_X13_764 IM_X13_callOf SE_X13_callOf qc_950 rfl (As := [.int l3]) rfl rfl (by omega) (Nat.le_of_ble_eq_true rfl) (Nat.le_of_ble_eq_true rfl) (Nat.le_of_ble_eq_true rfl) ?_
    refine t_iastK dX13_branch_134 qa_995 (t_ixv c6) (fun s3 ws3 => t_letE hk ws3 (fun hk => ?_))
    refine mj_aload_n dX13_branch_135 0 rfl ?_
    refine mj_bipush (v := 59) dX13_branch_136 (by decide) ?_
    refine t_bndK hk (fun r9 er9 hk => ?_)
    refine t_callVvE dX13_branch_138 M_X13_mustBe (C_X13_mustBe _ _ _ er9) ML_X13_528 IM_X13_mustBe SE_X13_mustBe qc_950 rfl (As := [.int 59]) rfl rfl (by omega) (Nat.le_of_ble_eq_true rfl) (Nat.le_of_ble_eq_true rfl) (Nat.le_of_ble_eq_true rfl) ?_
    refine mj_iload_n dX13_branch_141 2 rfl ?_
    exact t_somK hk (fun hf => t_iret dX13_branch_142 rfl rfl ⟨_, rfl, hf⟩ (Nat.le_of_ble_eq_true rfl) (Nat.le_of_ble_eq_true rfl))
noncomputable def m_X13_branch (rc : RT_X13_block) (x2 : Int32) (x3 : Int32) (s : t_S) : Option (Int32 × t_S) :=
 if (f_X13_is (91 : Int32) s) = (0 : Int32) then ((f_X13_fail (2 : Int32) (s.1 950 6) s).bind (fun r12 =>
 some ((0 : Int32), r12)))
 else (t_let (t_setI s 950 32 (0 : Int32)) (fun s1 =>
 (f_X13_line (20 : Int32) x2 s1).bind (fun r2 =>
 (f_X13_next r2.2).bind (fun r3 =>
 if (f_X13_isWord (38 : Int32) r3) = (0 : Int32) then (if (f_X13_is (93 : Int32) r3) = (0 : Int32) then ((f_X13_exp r3).bind (fun r6 =>
 if t_ix r2.1 401 = true then
  t_let (t_setI r6.2 997 (r2.1.toNatClampNeg) r6.1) (fun s2 =>
 k_X13_branch_98 rc x3 r2.1 s2)
else none))
 else (k_X13_branch_98 rc x3 r2.1 r3))
 else ((f_X13_next r3).bind (fun r8 =>
 (f_X13_mustBe (93 : Int32) r8).bind (fun r9 =>
 if t_ix r2.1 401 = true then
  t_let (t_setI r9 1000 (r2.1.toNatClampNeg) (4 : Int32)) (fun s3 =>
 (rc.1 r2.1 (x3 + (1 : Int32)) s3).bind (fun r11 =>
 t_let (t_setI r11.2 998 (r2.1.toNatClampNeg) r11.1) (fun s4 =>
 some (r2.1, s4))))
else none)))))))
set_option maxRecDepth 4000 in
set_option maxHeartbeats 1000000 in
theorem E_X13_branch (rc : RT_X13_block) {k : Nat} (H : RH_X13_block rc k) (x2 : Int32) (x3 : Int32) (s : t_S) (r : Int32 × t_S) (hr : m_X13_branch rc x2 x3 s = some r) : t_C yX13_branch cX13_branch 4 (some .int) (312 + (k + 1)) [.ref 950, .int x2, .int x3] s (fun v s' => v = some (.int r.1) ∧ s' = r.2) := by
  refine t_C.imp (P := fun v s' => ∃ x, v = some (.int x) ∧ (fun q => q = r) ((x, s'))) (t_C.of (by decide +kernel) (Nat.le_of_ble_eq_true rfl) ?_) (fun v s' hp => by obtain ⟨x, rfl, rfl⟩ := hp; exact ⟨rfl, rfl⟩)
  intro D cy ad bs X
  have hk : t_hk (m_X13_branch rc x2 x3 s) (fun q => q = r) := ⟨r, hr, rfl⟩
  show mj_G D cy ad bs X cX13_branch 4 yX13_branch.cls (some .int) yX13_branch.name (312 + (k + 1)) 0 0 1065 (t_P (fun v s' => ∃ x, v = some (.int x) ∧ (fun q => q = r) ((x, s')))) 0 [(0, .ref 950), (1, .int x2), (2, .int x3)] [] (t_m s) 1065 0 0
  refine mj_aload_n dX13_branch_0 0 rfl ?_
  refine mj_bipush (v := 91) dX13_branch_1 (by decide) ?_
  refine t_callViP dX13_branch_3 M_X13_is (C_X13_is _ _) ML_X13_449 IM_X13_is SE_X13_is qc_950 rfl (As := [.int 91]) rfl rfl (by omega) (Nat.le_of_ble_eq_true rfl) (Nat.le_of_ble_eq_true rfl) (Nat.le_of_ble_eq_true rfl) ?_
  refine mj_if_ne 20 dX13_branch_6 (by decide) (fun z => t_negK hk z (fun hk => ?_)) (fun z => t_posK hk z (fun hk => ?_))
  · refine mj_aload_n dX13_branch_20 0 rfl ?_
    refine mj_iconst (v := 0) dX13_branch_21 (by decide) ?_
    refine t_putIK dX13_branch_22 F_X13_552 qf_950_32 rfl (fun s1 ws1 => t_letE hk ws1 (fun hk => ?_))
    refine mj_aload_n dX13_branch_25 0 rfl ?_
    refine mj_bipush (v := 20) dX13_branch_26 (by decide) ?_
    refine mj_iload_n dX13_branch_28 1 rfl ?_
    refine t_bndK hk (fun r2 er2 hk => ?_)
    refine t_callViE dX13_branch_29 M_X13_line (C_X13_line _ _ _ _ er2) ML_X13_749 IM_X13_line SE_X13_line qc_950 rfl (As := [.int 20, .int x2]) rfl rfl (by omega) (Nat.le_of_ble_eq_true rfl) (Nat.le_of_ble_eq_true rfl) (Nat.le_of_ble_eq_true rfl) ?_
    refine mj_istore_n 3 (lv2 := [(3, .int r2.1), (0, .ref 950), (1, .int x2), (2, .int x3)]) dX13_branch_32 rfl (by decide) rfl ?_
    refine mj_aload_n dX13_branch_33 1 rfl ?_
    refine t_bndK hk (fun r3 er3 hk => ?_)
    refine t_callVvE dX13_branch_34 M_X13_next (C_X13_next _ _ er3) ML_X13_452 IM_X13_next SE_X13_next qc_950 rfl (As := []) rfl rfl (by omega) (Nat.le_of_ble_eq_true rfl) (Nat.le_of_ble_eq_true rfl) (Nat.le_of_ble_eq_true rfl) ?_
    refine mj_aload_n dX13_branch_37 1 rfl ?_
    refine mj_bipush (v := 38) dX13_branch_38 (by decide) ?_
    refine t_callViP dX13_branch_40 M_X13_isWord (C_X13_isWord _ _) ML_X13_455 IM_X13_isWord SE_X13_isWord qc_950 rfl (As := [.int 38]) rfl rfl (by omega) (Nat.le_of_ble_eq_true rfl) (Nat.le_of_ble_eq_true rfl) (Nat.le_of_ble_eq_true rfl) ?_
    refine mj_if_eq 79 dX13_branch_43 (by decide) (fun z => t_posK hk z (fun hk => ?_)) (fun z => t_negK hk z (fun hk => ?_))
    · refine mj_aload_n dX13_branch_79 1 rfl ?_
      refine mj_bipush (v := 93) dX13_branch_80 (by decide) ?_
      refine t_callViP dX13_branch_82 M_X13_is (C_X13_is _ _) ML_X13_449 IM_X13_is SE_X13_is qc_950 rfl (As := [.int 93]) rfl rfl (by omega) (Nat.le_of_ble_eq_true rfl) (Nat.le_of_ble_eq_true rfl) (Nat.le_of_ble_eq_true rfl) ?_
      refine mj_if_ne 98 dX13_branch_85 (by decide) (fun z => t_negK hk z (fun hk => ?_)) (fun z => t_posK hk z (fun hk => ?_))
      · refine mj_sublv [(0, .ref 950), (2, .int x3), (3, .int r2.1)] [1, 3, 0] rfl ?_
        exact B_X13_branch_98 rc H _ _ _ _ hk
      · refine mj_aload_n dX13_branch_88 1 rfl ?_
        refine t_getR 997 dX13_branch_89 F_X13_153 qr_950_75 ?_
        refine mj_iload_n dX13_branch_92 0 rfl ?_
        refine mj_aload_n dX13_branch_93 1 rfl ?_
        refine t_bndK hk (fun r6 er6 hk => ?_)
        refine t_callSiE dX13_branch_94 M_X13_exp (C_X13_exp _ _ er6) ML_X13_581 SM_X13_exp (As := [.ref 950]) rfl rfl (by omega) (Nat.le_of_ble_eq_true rfl) (Nat.le_of_ble_eq_true rfl) (Nat.le_of_ble_eq_true rfl) ?_
        refine t_chkK hk (fun c6 hk => ?_)
        refine t_iastK dX13_branch_97 qa_997 (t_ixv c6) (fun s2 ws2 => t_letE hk ws2 (fun hk => ?_))
        refine mj_sublv [(0, .ref 950), (2, .int x3), (3, .int r2.1)] [1, 3, 0] rfl ?_
        exact B_X13_branch_98 rc H _ _ _ _ hk
    · refine mj_aload_n dX13_branch_46 1 rfl ?_
      refine t_bndK hk (fun r8 er8 hk => ?_)
      refine t_callVvE dX13_branch_47 M_X13_next (C_X13_next _ _ er8) ML_X13_452 IM_X13_next SE_X13_next qc_950 rfl (As := []) rfl rfl (by omega) (Nat.le_of_ble_eq_true rfl) (Nat.le_of_ble_eq_true rfl) (Nat.le_of_ble_eq_true rfl) ?_
      refine mj_aload_n dX13_branch_50 1 rfl ?_
      refine mj_bipush (v := 93) dX13_branch_51 (by decide) ?_
      refine t_bndK hk (fun r9 er9 hk => ?_)
      refine t_callVvE dX13_branch_53 M_X13_mustBe (C_X13_mustBe _ _ _ er9) ML_X13_528 IM_X13_mustBe SE_X13_mustBe qc_950 rfl (As := [.int 93]) rfl rfl (by omega) (Nat.le_of_ble_eq_true rfl) (Nat.le_of_ble_eq_true rfl) (Nat.le_of_ble_eq_true rfl) ?_
      refine mj_aload_n dX13_branch_56 1 rfl ?_
      refine t_getR 1000 dX13_branch_57 F_X13_162 qr_950_78 ?_
      refine mj_iload_n dX13_branch_60 0 rfl ?_
      refine mj_iconst (v := 4) dX13_branch_61 (by decide) ?_
      refine t_chkK hk (fun c9 hk => ?_)
      refine t_iastK dX13_branch_62 qa_1000 (t_ixv c9) (fun s3 ws3 => t_letE hk ws3 (fun hk => ?_))
      refine mj_aload_n dX13_branch_63 1 rfl ?_
      refine t_getR 998 dX13_branch_64 F_X13_156 qr_950_76 ?_
      refine mj_iload_n dX13_branch_67 0 rfl ?_
      refine mj_aload_n dX13_branch_68 1 rfl ?_
      refine mj_iload_n dX13_branch_69 0 rfl ?_
      refine mj_iload_n dX13_branch_70 3 rfl ?_
      refine mj_iconst (v := 1) dX13_branch_71 (by decide) ?_
      refine mj_iadd dX13_branch_72 ?_
      refine t_bndK hk (fun r11 er11 hk => ?_)
      refine t_callSiE dX13_branch_73 M_X13_block (H.1 _ _ _ _ er11) ML_X13_724 SM_X13_block (As := [.ref 950, .int r2.1, .int (x3 + (1 : Int32))]) rfl rfl (by omega) (Nat.le_of_ble_eq_true rfl) (Nat.le_of_ble_eq_true rfl) (Nat.le_of_ble_eq_true rfl) ?_
      refine t_iastK dX13_branch_76 qa_998 (t_ixv c9) (fun s4 ws4 => t_letE hk ws4 (fun hk => ?_))
      refine mj_iload_n dX13_branch_77 0 rfl ?_
      exact t_somK hk (fun hf => t_iret dX13_branch_78 rfl rfl ⟨_, rfl, hf⟩ (Nat.le_of_ble_eq_true rfl) (Nat.le_of_ble_eq_true rfl))
  · refine mj_aload_n dX13_branch_9 0 rfl ?_
    refine mj_iconst (v := 2) dX13_branch_10 (by decide) ?_
    refine mj_aload_n dX13_branch_11 0 rfl ?_
    refine t_getI dX13_branch_12 F_X13_391 qf_950_6 ?_
    refine t_bndK hk (fun r12 er12 hk => ?_)
    refine t_callVvE dX13_branch_15 M_X13_fail (C_X13_fail _ _ _ _ er12) ML_X13_411 IM_X13_fail SE_X13_fail qc_950 rfl (As := [.int 2, .int (s.1 950 6)]) rfl rfl (by omega) (Nat.le_of_ble_eq_true rfl) (Nat.le_of_ble_eq_true rfl) (Nat.le_of_ble_eq_true rfl) ?_
    refine mj_iconst (v := 0) dX13_branch_18 (by decide) ?_
    exact t_somK hk (fun hf => t_iret dX13_branch_19 rfl rfl ⟨_, rfl, hf⟩ (Nat.le_of_ble_eq_true rfl) (Nat.le_of_ble_eq_true rfl))
noncomputable def k_X13_branches_83 (rc : RT_X13_block) (l1 : Int32) (l2 : Int32) (l5 : Int32) (k0 : Int32) (s : t_S) : Option ((Int32 × Int32 × Int32 × Int32 × t_S) ⊕ (Int32 × t_S)) :=
 some (.inl (l1, l2, k0, l5, s))
set_option maxRecDepth 4000 in
set_option maxHeartbeats 1000000 in
theorem B_X13_branches_83 {D : va_G} {cy : Nat → ClassId} {ad : Nat → Nat} {bs : Nat} {X : State → Heap → Prop} (rc : RT_X13_block) {k : Nat} (H : RH_X13_block rc k) (l1 : Int32) (l2 : Int32) (l5 : Int32) (k0 : Int32) (s : t_S) (Q : (Int32 × Int32 × Int32 × Int32 × t_S) ⊕ (Int32 × t_S) → Prop) (Hb35 : ∀ (y0 : Int32) (y1 : Int32) (y2 : Int32) (y3 : Int32) (y4 : t_S), Q (.inl (y0, y1, y2, y3, y4)) → mj_G D cy ad bs X cX13_branches 6 yX13_branches.cls (some .int) yX13_branches.name (312 + (k + 1)) 0 0 1065 (t_P (fun v s' => ∃ x, v = some (.int x) ∧ Q (.inr ((x, s'))))) 35 [(0, .ref 950), (1, .int (y0)), (2, .int (y1)), (3, .int (y2)), (4, .int (y3))] [] (t_m y4) 1065 0 0) (hk : t_hk (k_X13_branches_83 rc l1 l2 l5 k0 s) Q) : mj_G D cy ad bs X cX13_branches 6 yX13_branches.cls (some .int) yX13_branches.name (312 + (k + 1)) 0 0 1065 (t_P (fun v s' => ∃ x, v = some (.int x) ∧ Q (.inr ((x, s'))))) 83 [(0, .ref 950), (1, .int l1), (2, .int l2), (5, .int l5)] [.int k0] (t_m s) 1065 0 0 := by
  refine mj_istore_n 3 (lv2 := [(3, .int k0), (0, .ref 950), (1, .int l1), (2, .int l2), (5, .int l5)]) dX13_branches_83 rfl (by decide) rfl ?_
  refine mj_iload dX13_branches_84 4 rfl ?_
  refine mj_istore (lv2 := [(4, .int l5), (3, .int k0), (0, .ref 950), (1, .int l1), (2, .int l2), (5, .int l5)]) dX13_branches_86 (by decide) rfl ?_
  refine mj_goto 35 dX13_branches_88 (by decide) ?_
  refine mj_sublv [(0, .ref 950), (1, .int l1), (2, .int l2), (3, .int k0), (4, .int l5)] [2, 3, 4, 1, 0] rfl ?_
  exact t_somK hk (fun hf => Hb35 l1 l2 k0 l5 s hf)
noncomputable def k_X13_branches_73 (rc : RT_X13_block) (l1 : Int32) (l2 : Int32) (l3 : Int32) (l5 : Int32) (s : t_S) : Option ((Int32 × Int32 × Int32 × Int32 × t_S) ⊕ (Int32 × t_S)) :=
 if (0 : Int32) ≤ l3 then (k_X13_branches_83 rc l1 l2 l5 l3 s)
 else (k_X13_branches_83 rc l1 l2 l5 l5 s)
set_option maxRecDepth 4000 in
set_option maxHeartbeats 1000000 in
theorem B_X13_branches_73 {D : va_G} {cy : Nat → ClassId} {ad : Nat → Nat} {bs : Nat} {X : State → Heap → Prop} (rc : RT_X13_block) {k : Nat} (H : RH_X13_block rc k) (l1 : Int32) (l2 : Int32) (l3 : Int32) (l5 : Int32) (s : t_S) (Q : (Int32 × Int32 × Int32 × Int32 × t_S) ⊕ (Int32 × t_S) → Prop) (Hb35 : ∀ (y0 : Int32) (y1 : Int32) (y2 : Int32) (y3 : Int32) (y4 : t_S), Q (.inl (y0, y1, y2, y3, y4)) → mj_G D cy ad bs X cX13_branches 6 yX13_branches.cls (some .int) yX13_branches.name (312 + (k + 1)) 0 0 1065 (t_P (fun v s' => ∃ x, v = some (.int x) ∧ Q (.inr ((x, s'))))) 35 [(0, .ref 950), (1, .int (y0)), (2, .int (y1)), (3, .int (y2)), (4, .int (y3))] [] (t_m y4) 1065 0 0) (hk : t_hk (k_X13_branches_73 rc l1 l2 l3 l5 s) Q) : mj_G D cy ad bs X cX13_branches 6 yX13_branches.cls (some .int) yX13_branches.name (312 + (k + 1)) 0 0 1065 (t_P (fun v s' => ∃ x, v = some (.int x) ∧ Q (.inr ((x, s'))))) 73 [(0, .ref 950), (1, .int l1), (2, .int l2), (3, .int l3), (5, .int l5)] [] (t_m s) 1065 0 0 := by
  refine mj_iload_n dX13_branches_73 3 rfl ?_
  refine mj_if_ge 82 dX13_branches_74 (by decide) (fun z => t_posK hk z (fun hk => ?_)) (fun z => t_negK hk z (fun hk => ?_))
  · refine mj_iload_n dX13_branches_82 3 rfl ?_
    refine mj_sublv [(0, .ref 950), (1, .int l1), (2, .int l2), (5, .int l5)] [0, 1, 2, 4] rfl ?_
    exact B_X13_branches_83 rc H _ _ _ _ _ _ (fun y0 y1 y2 y3 y4 hx => Hb35 y0 y1 y2 y3 y4 hx) hk
  · refine mj_iload dX13_branches_77 4 rfl ?_
    refine mj_goto 83 dX13_branches_79 (by decide) ?_
    refine mj_sublv [(0, .ref 950), (1, .int l1), (2, .int l2), (5, .int l5)] [0, 1, 2, 4] rfl ?_
    exact B_X13_branches_83 rc H _ _ _ _ _ _ (fun y0 y1 y2 y3 y4 hx => Hb35 y0 y1 y2 y3 y4 hx) hk
noncomputable def k_X13_branches_91 (rc : RT_X13_block) (l3 : Int32) (s : t_S) : Option (Int32 × t_S) :=
 (f_X13_mustBe (125 : Int32) s).bind (fun r1 =>
 some (l3, r1))
set_option maxRecDepth 4000 in
set_option maxHeartbeats 1000000 in
theorem B_X13_branches_91 {D : va_G} {cy : Nat → ClassId} {ad : Nat → Nat} {bs : Nat} {X : State → Heap → Prop} (rc : RT_X13_block) {k : Nat} (H : RH_X13_block rc k) (l3 : Int32) (s : t_S) (Q : Int32 × t_S → Prop) (hk : t_hk (k_X13_branches_91 rc l3 s) Q) : mj_G D cy ad bs X cX13_branches 6 yX13_branches.cls (some .int) yX13_branches.name (312 + (k + 1)) 0 0 1065 (t_P (fun v s' => ∃ x, v = some (.int x) ∧ Q ((x, s')))) 91 [(0, .ref 950), (3, .int l3)] [] (t_m s) 1065 0 0 := by
  refine mj_aload_n dX13_branches_91 0 rfl ?_
  refine mj_bipush (v := 125) dX13_branches_92 (by decide) ?_
  refine t_bndK hk (fun r1 er1 hk => ?_)
  refine t_callVvE dX13_branches_94 M_X13_mustBe (C_X13_mustBe _ _ _ er1) ML_X13_528 IM_X13_mustBe SE_X13_mustBe qc_950 rfl (As := [.int 125]) rfl rfl (by omega) (Nat.le_of_ble_eq_true rfl) (Nat.le_of_ble_eq_true rfl) (Nat.le_of_ble_eq_true rfl) ?_
  refine mj_iload_n dX13_branches_97 1 rfl ?_
  exact t_somK hk (fun hf => t_iret dX13_branches_98 rfl rfl ⟨_, rfl, hf⟩ (Nat.le_of_ble_eq_true rfl) (Nat.le_of_ble_eq_true rfl))
noncomputable def k_X13_branches_35 (rc : RT_X13_block) (l1 : Int32) (l2 : Int32) (l3 : Int32) (l4 : Int32) (s : t_S) : Option ((Int32 × Int32 × Int32 × Int32 × t_S) ⊕ (Int32 × t_S)) :=
 if (s.1 950 2) = (0 : Int32) then (if (f_X13_is (125 : Int32) s) = (0 : Int32) then ((rc.2.1 l1 l2 s).bind (fun r2 =>
 if l4 < (0 : Int32) then (k_X13_branches_73 rc l1 l2 l3 r2.1 r2.2)
 else (if t_ix l4 401 = true then
  t_let (t_setI r2.2 989 (l4.toNatClampNeg) r2.1) (fun s1 =>
 k_X13_branches_73 rc l1 l2 l3 r2.1 s1)
else none)))
 else ((k_X13_branches_91 rc l3 s).map Sum.inr))
 else ((k_X13_branches_91 rc l3 s).map Sum.inr)
set_option maxRecDepth 4000 in
set_option maxHeartbeats 1000000 in
theorem B_X13_branches_35 {D : va_G} {cy : Nat → ClassId} {ad : Nat → Nat} {bs : Nat} {X : State → Heap → Prop} (rc : RT_X13_block) {k : Nat} (H : RH_X13_block rc k) (l1 : Int32) (l2 : Int32) (l3 : Int32) (l4 : Int32) (s : t_S) (Q : (Int32 × Int32 × Int32 × Int32 × t_S) ⊕ (Int32 × t_S) → Prop) (Hb35 : ∀ (y0 : Int32) (y1 : Int32) (y2 : Int32) (y3 : Int32) (y4 : t_S), Q (.inl (y0, y1, y2, y3, y4)) → mj_G D cy ad bs X cX13_branches 6 yX13_branches.cls (some .int) yX13_branches.name (312 + (k + 1)) 0 0 1065 (t_P (fun v s' => ∃ x, v = some (.int x) ∧ Q (.inr ((x, s'))))) 35 [(0, .ref 950), (1, .int (y0)), (2, .int (y1)), (3, .int (y2)), (4, .int (y3))] [] (t_m y4) 1065 0 0) (hk : t_hk (k_X13_branches_35 rc l1 l2 l3 l4 s) Q) : mj_G D cy ad bs X cX13_branches 6 yX13_branches.cls (some .int) yX13_branches.name (312 + (k + 1)) 0 0 1065 (t_P (fun v s' => ∃ x, v = some (.int x) ∧ Q (.inr ((x, s'))))) 35 [(0, .ref 950), (1, .int l1), (2, .int l2), (3, .int l3), (4, .int l4)] [] (t_m s) 1065 0 0 := by
  refine mj_aload_n dX13_branches_35 0 rfl ?_
  refine t_getI dX13_branches_36 F_X13_375 qf_950_2 ?_
  refine mj_if_ne 91 dX13_branches_39 (by decide) (fun z => t_negK hk z (fun hk => ?_)) (fun z => t_posK hk z (fun hk => ?_))
  · refine mj_sublv [(0, .ref 950), (3, .int l3)] [0, 3] rfl ?_
    refine t_mapK hk (fun hk => ?_)
    exact B_X13_branches_91 rc H _ _ _ hk
  · refine mj_aload_n dX13_branches_42 0 rfl ?_
    refine mj_bipush (v := 125) dX13_branches_43 (by decide) ?_
    refine t_callViP dX13_branches_45 M_X13_is (C_X13_is _ _) ML_X13_449 IM_X13_is SE_X13_is qc_950 rfl (As := [.int 125]) rfl rfl (by omega) (Nat.le_of_ble_eq_true rfl) (Nat.le_of_ble_eq_true rfl) (Nat.le_of_ble_eq_true rfl) ?_
    refine mj_if_ne 91 dX13_branches_48 (by decide) (fun z => t_negK hk z (fun hk => ?_)) (fun z => t_posK hk z (fun hk => ?_))
    · refine mj_sublv [(0, .ref 950), (3, .int l3)] [0, 3] rfl ?_
      refine t_mapK hk (fun hk => ?_)
      exact B_X13_branches_91 rc H _ _ _ hk
    · refine mj_aload_n dX13_branches_51 0 rfl ?_
      refine mj_iload_n dX13_branches_52 1 rfl ?_
      refine mj_iload_n dX13_branches_53 2 rfl ?_
      refine t_bndK hk (fun r2 er2 hk => ?_)
      refine t_callSiE dX13_branches_54 M_X13_branch (H.2.1 _ _ _ _ er2) ML_X13_776 SM_X13_branch (As := [.ref 950, .int l1, .int l2]) rfl rfl (by omega) (Nat.le_of_ble_eq_true rfl) (Nat.le_of_ble_eq_true rfl) (Nat.le_of_ble_eq_true rfl) ?_
      refine mj_istore (lv2 := [(5, .int r2.1), (0, .ref 950), (1, .int l1), (2, .int l2), (3, .int l3), (4, .int l4)]) dX13_branches_57 (by decide) rfl ?_
      refine mj_iload dX13_branches_59 5 rfl ?_
      refine mj_if_lt 73 dX13_branches_61 (by decide) (fun z => t_posK hk z (fun hk => ?_)) (fun z => t_negK hk z (fun hk => ?_))
      · refine mj_sublv [(0, .ref 950), (1, .int l1), (2, .int l2), (3, .int l3), (5, .int r2.1)] [1, 2, 3, 4, 0] rfl ?_
        exact B_X13_branches_73 rc H _ _ _ _ _ _ (fun y0 y1 y2 y3 y4 hx => Hb35 y0 y1 y2 y3 y4 hx) hk
      · refine mj_aload_n dX13_branches_64 1 rfl ?_
        refine t_getR 989 dX13_branches_65 F_X13_129 qr_950_67 ?_
        refine mj_iload dX13_branches_68 5 rfl ?_
        refine mj_iload dX13_branches_70 0 rfl ?_
        refine t_chkK hk (fun c2 hk => ?_)
        refine t_iastK dX13_branches_72 qa_989 (t_ixv c2) (fun s1 ws1 => t_letE hk ws1 (fun hk => ?_))
        refine mj_sublv [(0, .ref 950), (1, .int l1), (2, .int l2), (3, .int l3), (5, .int r2.1)] [1, 2, 3, 4, 0] rfl ?_
        exact B_X13_branches_73 rc H _ _ _ _ _ _ (fun y0 y1 y2 y3 y4 hx => Hb35 y0 y1 y2 y3 y4 hx) hk
noncomputable def b_X13_branches_35 (rc : RT_X13_block) (x : Int32 × Int32 × Int32 × Int32 × t_S) : Option ((Int32 × Int32 × Int32 × Int32 × t_S) ⊕ (Int32 × t_S)) := k_X13_branches_35 rc x.1 x.2.1 x.2.2.1 x.2.2.2.1 x.2.2.2.2
set_option maxRecDepth 4000 in
set_option maxHeartbeats 1000000 in
theorem LH_X13_branches_35 {D : va_G} {cy : Nat → ClassId} {ad : Nat → Nat} {bs : Nat} {X : State → Heap → Prop} (rc : RT_X13_block) {k : Nat} (H : RH_X13_block rc k) : ∀ (n : Nat) (y0 : Int32) (y1 : Int32) (y2 : Int32) (y3 : Int32) (y4 : t_S) (Q : Int32 × t_S → Prop) (hk : t_hk (t_loop (b_X13_branches_35 rc) n (y0, y1, y2, y3, y4)) Q), mj_G D cy ad bs X cX13_branches 6 yX13_branches.cls (some .int) yX13_branches.name (312 + (k + 1)) 0 0 1065 (t_P (fun v s' => ∃ x, v = some (.int x) ∧ Q ((x, s')))) 35 [(0, .ref 950), (1, .int (y0)), (2, .int (y1)), (3, .int (y2)), (4, .int (y3))] [] (t_m y4) 1065 0 0 := by
  intro n
  induction n with
  | zero => intro y0 y1 y2 y3 y4 Q hk; obtain ⟨r, hr, _⟩ := hk; cases hr
  | succ n ih =>
    intro y0 y1 y2 y3 y4 Q hk
    exact B_X13_branches_35 rc H y0 y1 y2 y3 y4 (fun y => t_lq (b_X13_branches_35 rc) n Q y) (fun y0' y1' y2' y3' y4' hy => ih y0' y1' y2' y3' y4' Q hy) (t_lp (b := b_X13_branches_35 rc) (n := n) (x := (y0, y1, y2, y3, y4)) hk)
noncomputable def k_X13_branches_24 (rc : RT_X13_block) (l1 : Int32) (l2 : Int32) (s : t_S) : Option (Int32 × t_S) :=
 (f_X13_mustBe (123 : Int32) s).bind (fun r1 =>
 t_loop (b_X13_branches_35 rc) t_N (l1, l2, (-1), (-1), r1))
set_option maxRecDepth 4000 in
set_option maxHeartbeats 1000000 in
theorem B_X13_branches_24 {D : va_G} {cy : Nat → ClassId} {ad : Nat → Nat} {bs : Nat} {X : State → Heap → Prop} (rc : RT_X13_block) {k : Nat} (H : RH_X13_block rc k) (l1 : Int32) (l2 : Int32) (s : t_S) (Q : Int32 × t_S → Prop) (hk : t_hk (k_X13_branches_24 rc l1 l2 s) Q) : mj_G D cy ad bs X cX13_branches 6 yX13_branches.cls (some .int) yX13_branches.name (312 + (k + 1)) 0 0 1065 (t_P (fun v s' => ∃ x, v = some (.int x) ∧ Q ((x, s')))) 24 [(0, .ref 950), (1, .int l1), (2, .int l2)] [] (t_m s) 1065 0 0 := by
  refine mj_aload_n dX13_branches_24 0 rfl ?_
  refine mj_bipush (v := 123) dX13_branches_25 (by decide) ?_
  refine t_bndK hk (fun r1 er1 hk => ?_)
  refine t_callVvE dX13_branches_27 M_X13_mustBe (C_X13_mustBe _ _ _ er1) ML_X13_528 IM_X13_mustBe SE_X13_mustBe qc_950 rfl (As := [.int 123]) rfl rfl (by omega) (Nat.le_of_ble_eq_true rfl) (Nat.le_of_ble_eq_true rfl) (Nat.le_of_ble_eq_true rfl) ?_
  refine mj_iconst (v := (-1)) dX13_branches_30 (by decide) ?_
  refine mj_istore_n 3 (lv2 := [(3, .int (-1)), (0, .ref 950), (1, .int l1), (2, .int l2)]) dX13_branches_31 rfl (by decide) rfl ?_
  refine mj_iconst (v := (-1)) dX13_branches_32 (by decide) ?_
  refine mj_istore (lv2 := [(4, .int (-1)), (3, .int (-1)), (0, .ref 950), (1, .int l1), (2, .int l2)]) dX13_branches_33 (by decide) rfl ?_
  refine mj_sublv [(0, .ref 950), (1, .int l1), (2, .int l2), (3, .int (-1)), (4, .int (-1))] [2, 3, 4, 1, 0] rfl ?_
  exact LH_X13_branches_35 rc H _ l1 l2 (-1) (-1) r1 _ hk
noncomputable def m_X13_branches (rc : RT_X13_block) (x2 : Int32) (x3 : Int32) (s : t_S) : Option (Int32 × t_S) :=
 if x3 ≤ (16 : Int32) then (k_X13_branches_24 rc x2 x3 s)
 else (if (f_X13_is (123 : Int32) s) = (0 : Int32) then (k_X13_branches_24 rc x2 x3 s)
 else ((f_X13_fail (5 : Int32) (s.1 950 6) s).bind (fun r2 =>
 k_X13_branches_24 rc x2 x3 r2)))
set_option maxRecDepth 4000 in
set_option maxHeartbeats 1000000 in
theorem E_X13_branches (rc : RT_X13_block) {k : Nat} (H : RH_X13_block rc k) (x2 : Int32) (x3 : Int32) (s : t_S) (r : Int32 × t_S) (hr : m_X13_branches rc x2 x3 s = some r) : t_C yX13_branches cX13_branches 6 (some .int) (312 + (k + 1)) [.ref 950, .int x2, .int x3] s (fun v s' => v = some (.int r.1) ∧ s' = r.2) := by
  refine t_C.imp (P := fun v s' => ∃ x, v = some (.int x) ∧ (fun q => q = r) ((x, s'))) (t_C.of (by decide +kernel) (Nat.le_of_ble_eq_true rfl) ?_) (fun v s' hp => by obtain ⟨x, rfl, rfl⟩ := hp; exact ⟨rfl, rfl⟩)
  intro D cy ad bs X
  have hk : t_hk (m_X13_branches rc x2 x3 s) (fun q => q = r) := ⟨r, hr, rfl⟩
  show mj_G D cy ad bs X cX13_branches 6 yX13_branches.cls (some .int) yX13_branches.name (312 + (k + 1)) 0 0 1065 (t_P (fun v s' => ∃ x, v = some (.int x) ∧ (fun q => q = r) ((x, s')))) 0 [(0, .ref 950), (1, .int x2), (2, .int x3)] [] (t_m s) 1065 0 0
  refine mj_iload_n dX13_branches_0 2 rfl ?_
  refine mj_bipush (v := 16) dX13_branches_1 (by decide) ?_
  refine mj_icmp_le 24 dX13_branches_3 (by decide) (fun z => t_posK hk z (fun hk => ?_)) (fun z => t_negK hk z (fun hk => ?_))
  · exact B_X13_branches_24 rc H _ _ _ _ hk
  · refine mj_aload_n dX13_branches_6 0 rfl ?_
    refine mj_bipush (v := 123) dX13_branches_7 (by decide) ?_
    refine t_callViP dX13_branches_9 M_X13_is (C_X13_is _ _) ML_X13_449 IM_X13_is SE_X13_is qc_950 rfl (As := [.int 123]) rfl rfl (by omega) (Nat.le_of_ble_eq_true rfl) (Nat.le_of_ble_eq_true rfl) (Nat.le_of_ble_eq_true rfl) ?_
    refine mj_if_eq 24 dX13_branches_12 (by decide) (fun z => t_posK hk z (fun hk => ?_)) (fun z => t_negK hk z (fun hk => ?_))
    · exact B_X13_branches_24 rc H _ _ _ _ hk
    · refine mj_aload_n dX13_branches_15 0 rfl ?_
      refine mj_iconst (v := 5) dX13_branches_16 (by decide) ?_
      refine mj_aload_n dX13_branches_17 0 rfl ?_
      refine t_getI dX13_branches_18 F_X13_391 qf_950_6 ?_
      refine t_bndK hk (fun r2 er2 hk => ?_)
      refine t_callVvE dX13_branches_21 M_X13_fail (C_X13_fail _ _ _ _ er2) ML_X13_411 IM_X13_fail SE_X13_fail qc_950 rfl (As := [.int 5, .int (s.1 950 6)]) rfl rfl (by omega) (Nat.le_of_ble_eq_true rfl) (Nat.le_of_ble_eq_true rfl) (Nat.le_of_ble_eq_true rfl) ?_
      exact B_X13_branches_24 rc H _ _ _ _ hk
noncomputable def k_X13_statement_67 (rc : RT_X13_block) (l4 : Int32) (s : t_S) : Option (Int32 × t_S) :=
 if t_ix l4 401 = true then
  t_let (t_setI s 988 (l4.toNatClampNeg) (11 : Int32)) (fun s1 =>
 (f_X13_event l4 s1).bind (fun r2 =>
 (f_X13_mustBe (59 : Int32) r2).bind (fun r3 =>
 some (l4, r3))))
else none
set_option maxRecDepth 4000 in
set_option maxHeartbeats 1000000 in
theorem B_X13_statement_67 {D : va_G} {cy : Nat → ClassId} {ad : Nat → Nat} {bs : Nat} {X : State → Heap → Prop} (rc : RT_X13_block) {k : Nat} (H : RH_X13_block rc k) (l4 : Int32) (s : t_S) (Q : Int32 × t_S → Prop) (hk : t_hk (k_X13_statement_67 rc l4 s) Q) : mj_G D cy ad bs X cX13_statement 5 yX13_statement.cls (some .int) yX13_statement.name (312 + (k + 1)) 0 0 1065 (t_P (fun v s' => ∃ x, v = some (.int x) ∧ Q ((x, s')))) 67 [(0, .ref 950), (4, .int l4)] [] (t_m s) 1065 0 0 := by
  refine mj_aload_n dX13_statement_67 0 rfl ?_
  refine t_getR 988 dX13_statement_68 F_X13_126 qr_950_66 ?_
  refine mj_iload dX13_statement_71 1 rfl ?_
  refine mj_bipush (v := 11) dX13_statement_73 (by decide) ?_
  refine t_chkK hk (fun c0 hk => ?_)
  refine t_iastK dX13_statement_75 qa_988 (t_ixv c0) (fun s1 ws1 => t_letE hk ws1 (fun hk => ?_))
  refine mj_aload_n dX13_statement_76 0 rfl ?_
  refine mj_iload dX13_statement_77 1 rfl ?_
  refine t_bndK hk (fun r2 er2 hk => ?_)
  refine t_callSvE dX13_statement_79 M_X13_event (C_X13_event _ _ _ er2) ML_X13_755 SM_X13_event (As := [.ref 950, .int l4]) rfl rfl (by omega) (Nat.le_of_ble_eq_true rfl) (Nat.le_of_ble_eq_true rfl) (Nat.le_of_ble_eq_true rfl) ?_
  refine mj_aload_n dX13_statement_82 0 rfl ?_
  refine mj_bipush (v := 59) dX13_statement_83 (by decide) ?_
  refine t_bndK hk (fun r3 er3 hk => ?_)
  refine t_callVvE dX13_statement_85 M_X13_mustBe (C_X13_mustBe _ _ _ er3) ML_X13_528 IM_X13_mustBe SE_X13_mustBe qc_950 rfl (As := [.int 59]) rfl rfl (by omega) (Nat.le_of_ble_eq_true rfl) (Nat.le_of_ble_eq_true rfl) (Nat.le_of_ble_eq_true rfl) ?_
  refine mj_iload dX13_statement_88 1 rfl ?_
  exact t_somK hk (fun hf => t_iret dX13_statement_90 rfl rfl ⟨_, rfl, hf⟩ (Nat.le_of_ble_eq_true rfl) (Nat.le_of_ble_eq_true rfl))
noncomputable def m_X13_statement (rc : RT_X13_block) (x2 : Int32) (x3 : Int32) (s : t_S) : Option (Int32 × t_S) :=
 if (f_X13_beginsStatement s) = (0 : Int32) then ((f_X13_fail (2 : Int32) (s.1 950 6) s).bind (fun r18 =>
 some ((0 : Int32), r18)))
 else (t_let (t_setI s 950 32 (0 : Int32)) (fun s1 =>
 (f_X13_line (0 : Int32) x2 s1).bind (fun r2 =>
 if (0 : Int32) ≤ (s1.1 950 10) then (if (s1.1 950 10) = (61 : Int32) then (k_X13_statement_67 rc r2.1 r2.2)
 else (if (s1.1 950 10) = (63 : Int32) then (k_X13_statement_67 rc r2.1 r2.2)
 else (if (s1.1 950 10) = (64 : Int32) then (k_X13_statement_67 rc r2.1 r2.2)
 else ((f_X13_next r2.2).bind (fun r3 =>
 if (s1.1 950 10).toInt = 37 then (if t_ix r2.1 401 = true then
  t_let (t_setI r3 988 (r2.1.toNatClampNeg) (3 : Int32)) (fun s2 =>
 (f_X13_exp s2).bind (fun r5 =>
 t_let (t_setI r5.2 995 (r2.1.toNatClampNeg) r5.1) (fun s3 =>
 (rc.1 r2.1 (x3 + (1 : Int32)) s3).bind (fun r6 =>
 t_let (t_setI r6.2 998 (r2.1.toNatClampNeg) r6.1) (fun s4 =>
 if (f_X13_isWord (38 : Int32) s4) = (0 : Int32) then (some (r2.1, s4))
 else ((f_X13_next s4).bind (fun r8 =>
 (rc.1 r2.1 (x3 + (1 : Int32)) r8).bind (fun r9 =>
 t_let (t_setI r9.2 999 (r2.1.toNatClampNeg) r9.1) (fun s5 =>
 some (r2.1, s5))))))))))
else none)
 else if (s1.1 950 10).toInt = 39 then (if t_ix r2.1 401 = true then
  t_let (t_setI r3 988 (r2.1.toNatClampNeg) (4 : Int32)) (fun s6 =>
 (f_X13_exp s6).bind (fun r11 =>
 t_let (t_setI r11.2 995 (r2.1.toNatClampNeg) r11.1) (fun s7 =>
 (rc.1 r2.1 (x3 + (1 : Int32)) s7).bind (fun r12 =>
 t_let (t_setI r12.2 998 (r2.1.toNatClampNeg) r12.1) (fun s8 =>
 some (r2.1, s8))))))
else none)
 else if (s1.1 950 10).toInt = 49 then (if t_ix r2.1 401 = true then
  t_let (t_setI r3 988 (r2.1.toNatClampNeg) (10 : Int32)) (fun s9 =>
 (rc.2.2.1 r2.1 (x3 + (1 : Int32)) s9).bind (fun r14 =>
 t_let (t_setI r14.2 998 (r2.1.toNatClampNeg) r14.1) (fun s10 =>
 some (r2.1, s10))))
else none)
 else ((f_X13_simple r2.1 (s1.1 950 10) r3).bind (fun r15 =>
 (f_X13_mustBe (59 : Int32) r15).bind (fun r16 =>
 some (r2.1, r16)))))))))
 else ((f_X13_assignment r2.1 r2.2).bind (fun r17 =>
 some (r2.1, r17))))))
set_option maxRecDepth 4000 in
set_option maxHeartbeats 1000000 in
theorem E_X13_statement (rc : RT_X13_block) {k : Nat} (H : RH_X13_block rc k) (x2 : Int32) (x3 : Int32) (s : t_S) (r : Int32 × t_S) (hr : m_X13_statement rc x2 x3 s = some r) : t_C yX13_statement cX13_statement 5 (some .int) (312 + (k + 1)) [.ref 950, .int x2, .int x3] s (fun v s' => v = some (.int r.1) ∧ s' = r.2) := by
  refine t_C.imp (P := fun v s' => ∃ x, v = some (.int x) ∧ (fun q => q = r) ((x, s'))) (t_C.of (by decide +kernel) (Nat.le_of_ble_eq_true rfl) ?_) (fun v s' hp => by obtain ⟨x, rfl, rfl⟩ := hp; exact ⟨rfl, rfl⟩)
  intro D cy ad bs X
  have hk : t_hk (m_X13_statement rc x2 x3 s) (fun q => q = r) := ⟨r, hr, rfl⟩
  show mj_G D cy ad bs X cX13_statement 5 yX13_statement.cls (some .int) yX13_statement.name (312 + (k + 1)) 0 0 1065 (t_P (fun v s' => ∃ x, v = some (.int x) ∧ (fun q => q = r) ((x, s')))) 0 [(0, .ref 950), (1, .int x2), (2, .int x3)] [] (t_m s) 1065 0 0
  refine mj_aload_n dX13_statement_0 0 rfl ?_
  refine t_callViP dX13_statement_1 M_X13_beginsStatement (C_X13_beginsStatement _) ML_X13_746 IM_X13_beginsStatement SE_X13_beginsStatement qc_950 rfl (As := []) rfl rfl (by omega) (Nat.le_of_ble_eq_true rfl) (Nat.le_of_ble_eq_true rfl) (Nat.le_of_ble_eq_true rfl) ?_
  refine mj_if_ne 18 dX13_statement_4 (by decide) (fun z => t_negK hk z (fun hk => ?_)) (fun z => t_posK hk z (fun hk => ?_))
  · refine mj_aload_n dX13_statement_18 0 rfl ?_
    refine mj_iconst (v := 0) dX13_statement_19 (by decide) ?_
    refine t_putIK dX13_statement_20 F_X13_552 qf_950_32 rfl (fun s1 ws1 => t_letE hk ws1 (fun hk => ?_))
    refine mj_aload_n dX13_statement_23 0 rfl ?_
    refine t_getI dX13_statement_24 F_X13_397 qf_950_10 ?_
    refine mj_istore_n 3 (lv2 := [(3, .int (s1.1 950 10)), (0, .ref 950), (1, .int x2), (2, .int x3)]) dX13_statement_27 rfl (by decide) rfl ?_
    refine mj_aload_n dX13_statement_28 1 rfl ?_
    refine mj_iconst (v := 0) dX13_statement_29 (by decide) ?_
    refine mj_iload_n dX13_statement_30 2 rfl ?_
    refine t_bndK hk (fun r2 er2 hk => ?_)
    refine t_callViE dX13_statement_31 M_X13_line (C_X13_line _ _ _ _ er2) ML_X13_749 IM_X13_line SE_X13_line qc_950 rfl (As := [.int 0, .int x2]) rfl rfl (by omega) (Nat.le_of_ble_eq_true rfl) (Nat.le_of_ble_eq_true rfl) (Nat.le_of_ble_eq_true rfl) ?_
    refine mj_istore (lv2 := [(4, .int r2.1), (3, .int (s1.1 950 10)), (0, .ref 950), (1, .int x2), (2, .int x3)]) dX13_statement_34 (by decide) rfl ?_
    refine mj_iload_n dX13_statement_36 1 rfl ?_
    refine mj_if_ge 49 dX13_statement_37 (by decide) (fun z => t_posK hk z (fun hk => ?_)) (fun z => t_negK hk z (fun hk => ?_))
    · refine mj_iload_n dX13_statement_49 1 rfl ?_
      refine mj_bipush (v := 61) dX13_statement_50 (by decide) ?_
      refine mj_icmp_eq 67 dX13_statement_52 (by decide) (fun z => t_posK hk z (fun hk => ?_)) (fun z => t_negK hk z (fun hk => ?_))
      · refine mj_sublv [(0, .ref 950), (4, .int r2.1)] [2, 0] rfl ?_
        exact B_X13_statement_67 rc H _ _ _ hk
      · refine mj_iload_n dX13_statement_55 1 rfl ?_
        refine mj_bipush (v := 63) dX13_statement_56 (by decide) ?_
        refine mj_icmp_eq 67 dX13_statement_58 (by decide) (fun z => t_posK hk z (fun hk => ?_)) (fun z => t_negK hk z (fun hk => ?_))
        · refine mj_sublv [(0, .ref 950), (4, .int r2.1)] [2, 0] rfl ?_
          exact B_X13_statement_67 rc H _ _ _ hk
        · refine mj_iload_n dX13_statement_61 1 rfl ?_
          refine mj_bipush (v := 64) dX13_statement_62 (by decide) ?_
          refine mj_icmp_ne 91 dX13_statement_64 (by decide) (fun z => t_negK hk z (fun hk => ?_)) (fun z => t_posK hk z (fun hk => ?_))
          · refine mj_aload_n dX13_statement_91 2 rfl ?_
            refine t_bndK hk (fun r3 er3 hk => ?_)
            refine t_callVvE dX13_statement_92 M_X13_next (C_X13_next _ _ er3) ML_X13_452 IM_X13_next SE_X13_next qc_950 rfl (As := []) rfl rfl (by omega) (Nat.le_of_ble_eq_true rfl) (Nat.le_of_ble_eq_true rfl) (Nat.le_of_ble_eq_true rfl) ?_
            refine mj_iload_n dX13_statement_95 1 rfl ?_
            by_cases h0 : (s1.1 950 10).toInt = 37
            · replace hk := t_pos hk h0
              refine mj_lookup 132 dX13_statement_96 (by decide) (by rw [h0] <;> rfl) (by decide) ?_
              refine mj_aload_n dX13_statement_132 2 rfl ?_
              refine t_getR 988 dX13_statement_133 F_X13_126 qr_950_66 ?_
              refine mj_iload dX13_statement_136 0 rfl ?_
              refine mj_iconst (v := 3) dX13_statement_138 (by decide) ?_
              refine t_chkK hk (fun c3 hk => ?_)
              refine t_iastK dX13_statement_139 qa_988 (t_ixv c3) (fun s2 ws2 => t_letE hk ws2 (fun hk => ?_))
              refine mj_aload_n dX13_statement_140 2 rfl ?_
              refine t_getR 995 dX13_statement_141 F_X13_147 qr_950_73 ?_
              refine mj_iload dX13_statement_144 0 rfl ?_
              refine mj_aload_n dX13_statement_146 2 rfl ?_
              refine t_bndK hk (fun r5 er5 hk => ?_)
              refine t_callSiE dX13_statement_147 M_X13_exp (C_X13_exp _ _ er5) ML_X13_581 SM_X13_exp (As := [.ref 950]) rfl rfl (by omega) (Nat.le_of_ble_eq_true rfl) (Nat.le_of_ble_eq_true rfl) (Nat.le_of_ble_eq_true rfl) ?_
              refine t_iastK dX13_statement_150 qa_995 (t_ixv c3) (fun s3 ws3 => t_letE hk ws3 (fun hk => ?_))
              refine mj_aload_n dX13_statement_151 2 rfl ?_
              refine t_getR 998 dX13_statement_152 F_X13_156 qr_950_76 ?_
              refine mj_iload dX13_statement_155 0 rfl ?_
              refine mj_aload_n dX13_statement_157 2 rfl ?_
              refine mj_iload dX13_statement_158 0 rfl ?_
              refine mj_iload_n dX13_statement_160 4 rfl ?_
              refine mj_iconst (v := 1) dX13_statement_161 (by decide) ?_
              refine mj_iadd dX13_statement_162 ?_
              refine t_bndK hk (fun r6 er6 hk => ?_)
              refine t_callSiE dX13_statement_163 M_X13_block (H.1 _ _ _ _ er6) ML_X13_724 SM_X13_block (As := [.ref 950, .int r2.1, .int (x3 + (1 : Int32))]) rfl rfl (by omega) (Nat.le_of_ble_eq_true rfl) (Nat.le_of_ble_eq_true rfl) (Nat.le_of_ble_eq_true rfl) ?_
              refine t_iastK dX13_statement_166 qa_998 (t_ixv c3) (fun s4 ws4 => t_letE hk ws4 (fun hk => ?_))
              refine mj_aload_n dX13_statement_167 2 rfl ?_
              refine mj_bipush (v := 38) dX13_statement_168 (by decide) ?_
              refine t_callViP dX13_statement_170 M_X13_isWord (C_X13_isWord _ _) ML_X13_455 IM_X13_isWord SE_X13_isWord qc_950 rfl (As := [.int 38]) rfl rfl (by omega) (Nat.le_of_ble_eq_true rfl) (Nat.le_of_ble_eq_true rfl) (Nat.le_of_ble_eq_true rfl) ?_
              refine mj_if_eq 278 dX13_statement_173 (by decide) (fun z => t_posK hk z (fun hk => ?_)) (fun z => t_negK hk z (fun hk => ?_))
              · refine mj_iload dX13_statement_278 0 rfl ?_
                exact t_somK hk (fun hf => t_iret dX13_statement_280 rfl rfl ⟨_, rfl, hf⟩ (Nat.le_of_ble_eq_true rfl) (Nat.le_of_ble_eq_true rfl))
              · refine mj_aload_n dX13_statement_176 2 rfl ?_
                refine t_bndK hk (fun r8 er8 hk => ?_)
                refine t_callVvE dX13_statement_177 M_X13_next (C_X13_next _ _ er8) ML_X13_452 IM_X13_next SE_X13_next qc_950 rfl (As := []) rfl rfl (by omega) (Nat.le_of_ble_eq_true rfl) (Nat.le_of_ble_eq_true rfl) (Nat.le_of_ble_eq_true rfl) ?_
                refine mj_aload_n dX13_statement_180 2 rfl ?_
                refine t_getR 999 dX13_statement_181 F_X13_159 qr_950_77 ?_
                refine mj_iload dX13_statement_184 0 rfl ?_
                refine mj_aload_n dX13_statement_186 2 rfl ?_
                refine mj_iload dX13_statement_187 0 rfl ?_
                refine mj_iload_n dX13_statement_189 4 rfl ?_
                refine mj_iconst (v := 1) dX13_statement_190 (by decide) ?_
                refine mj_iadd dX13_statement_191 ?_
                refine t_bndK hk (fun r9 er9 hk => ?_)
                refine t_callSiE dX13_statement_192 M_X13_block (H.1 _ _ _ _ er9) ML_X13_724 SM_X13_block (As := [.ref 950, .int r2.1, .int (x3 + (1 : Int32))]) rfl rfl (by omega) (Nat.le_of_ble_eq_true rfl) (Nat.le_of_ble_eq_true rfl) (Nat.le_of_ble_eq_true rfl) ?_
                refine t_iastK dX13_statement_195 qa_999 (t_ixv c3) (fun s5 ws5 => t_letE hk ws5 (fun hk => ?_))
                refine mj_goto 278 dX13_statement_196 (by decide) ?_
                refine mj_iload dX13_statement_278 0 rfl ?_
                exact t_somK hk (fun hf => t_iret dX13_statement_280 rfl rfl ⟨_, rfl, hf⟩ (Nat.le_of_ble_eq_true rfl) (Nat.le_of_ble_eq_true rfl))
            replace hk := t_neg hk h0
            by_cases h1 : (s1.1 950 10).toInt = 39
            · replace hk := t_pos hk h1
              refine mj_lookup 199 dX13_statement_96 (by decide) (by rw [h1] <;> rfl) (by decide) ?_
              refine mj_aload_n dX13_statement_199 2 rfl ?_
              refine t_getR 988 dX13_statement_200 F_X13_126 qr_950_66 ?_
              refine mj_iload dX13_statement_203 0 rfl ?_
              refine mj_iconst (v := 4) dX13_statement_205 (by decide) ?_
              refine t_chkK hk (fun c9 hk => ?_)
              refine t_iastK dX13_statement_206 qa_988 (t_ixv c9) (fun s6 ws6 => t_letE hk ws6 (fun hk => ?_))
              refine mj_aload_n dX13_statement_207 2 rfl ?_
              refine t_getR 995 dX13_statement_208 F_X13_147 qr_950_73 ?_
              refine mj_iload dX13_statement_211 0 rfl ?_
              refine mj_aload_n dX13_statement_213 2 rfl ?_
              refine t_bndK hk (fun r11 er11 hk => ?_)
              refine t_callSiE dX13_statement_214 M_X13_exp (C_X13_exp _ _ er11) ML_X13_581 SM_X13_exp (As := [.ref 950]) rfl rfl (by omega) (Nat.le_of_ble_eq_true rfl) (Nat.le_of_ble_eq_true rfl) (Nat.le_of_ble_eq_true rfl) ?_
              refine t_iastK dX13_statement_217 qa_995 (t_ixv c9) (fun s7 ws7 => t_letE hk ws7 (fun hk => ?_))
              refine mj_aload_n dX13_statement_218 2 rfl ?_
              refine t_getR 998 dX13_statement_219 F_X13_156 qr_950_76 ?_
              refine mj_iload dX13_statement_222 0 rfl ?_
              refine mj_aload_n dX13_statement_224 2 rfl ?_
              refine mj_iload dX13_statement_225 0 rfl ?_
              refine mj_iload_n dX13_statement_227 4 rfl ?_
              refine mj_iconst (v := 1) dX13_statement_228 (by decide) ?_
              refine mj_iadd dX13_statement_229 ?_
              refine t_bndK hk (fun r12 er12 hk => ?_)
              refine t_callSiE dX13_statement_230 M_X13_block (H.1 _ _ _ _ er12) ML_X13_724 SM_X13_block (As := [.ref 950, .int r2.1, .int (x3 + (1 : Int32))]) rfl rfl (by omega) (Nat.le_of_ble_eq_true rfl) (Nat.le_of_ble_eq_true rfl) (Nat.le_of_ble_eq_true rfl) ?_
              refine t_iastK dX13_statement_233 qa_998 (t_ixv c9) (fun s8 ws8 => t_letE hk ws8 (fun hk => ?_))
              refine mj_goto 278 dX13_statement_234 (by decide) ?_
              refine mj_iload dX13_statement_278 0 rfl ?_
              exact t_somK hk (fun hf => t_iret dX13_statement_280 rfl rfl ⟨_, rfl, hf⟩ (Nat.le_of_ble_eq_true rfl) (Nat.le_of_ble_eq_true rfl))
            replace hk := t_neg hk h1
            by_cases h2 : (s1.1 950 10).toInt = 49
            · replace hk := t_pos hk h2
              refine mj_lookup 237 dX13_statement_96 (by decide) (by rw [h2] <;> rfl) (by decide) ?_
              refine mj_aload_n dX13_statement_237 2 rfl ?_
              refine t_getR 988 dX13_statement_238 F_X13_126 qr_950_66 ?_
              refine mj_iload dX13_statement_241 0 rfl ?_
              refine mj_bipush (v := 10) dX13_statement_243 (by decide) ?_
              refine t_chkK hk (fun c12 hk => ?_)
              refine t_iastK dX13_statement_245 qa_988 (t_ixv c12) (fun s9 ws9 => t_letE hk ws9 (fun hk => ?_))
              refine mj_aload_n dX13_statement_246 2 rfl ?_
              refine t_getR 998 dX13_statement_247 F_X13_156 qr_950_76 ?_
              refine mj_iload dX13_statement_250 0 rfl ?_
              refine mj_aload_n dX13_statement_252 2 rfl ?_
              refine mj_iload dX13_statement_253 0 rfl ?_
              refine mj_iload_n dX13_statement_255 4 rfl ?_
              refine mj_iconst (v := 1) dX13_statement_256 (by decide) ?_
              refine mj_iadd dX13_statement_257 ?_
              refine t_bndK hk (fun r14 er14 hk => ?_)
              refine t_callSiE dX13_statement_258 M_X13_branches (H.2.2.1 _ _ _ _ er14) ML_X13_720 SM_X13_branches (As := [.ref 950, .int r2.1, .int (x3 + (1 : Int32))]) rfl rfl (by omega) (Nat.le_of_ble_eq_true rfl) (Nat.le_of_ble_eq_true rfl) (Nat.le_of_ble_eq_true rfl) ?_
              refine t_iastK dX13_statement_261 qa_998 (t_ixv c12) (fun s10 ws10 => t_letE hk ws10 (fun hk => ?_))
              refine mj_goto 278 dX13_statement_262 (by decide) ?_
              refine mj_iload dX13_statement_278 0 rfl ?_
              exact t_somK hk (fun hf => t_iret dX13_statement_280 rfl rfl ⟨_, rfl, hf⟩ (Nat.le_of_ble_eq_true rfl) (Nat.le_of_ble_eq_true rfl))
            replace hk := t_neg hk h2
            refine mj_lookup 265 dX13_statement_96 (by decide) (t_lk0 _ (And.intro h0 (And.intro h1 (And.intro h2 trivial)))) (by decide) ?_
            refine mj_aload_n dX13_statement_265 2 rfl ?_
            refine mj_iload dX13_statement_266 0 rfl ?_
            refine mj_iload_n dX13_statement_268 1 rfl ?_
            refine t_bndK hk (fun r15 er15 hk => ?_)
            refine t_callVvE dX13_statement_269 M_X13_simple (C_X13_simple _ _ _ _ er15) ML_X13_758 IM_X13_simple SE_X13_simple qc_950 rfl (As := [.int r2.1, .int (s1.1 950 10)]) rfl rfl (by omega) (Nat.le_of_ble_eq_true rfl) (Nat.le_of_ble_eq_true rfl) (Nat.le_of_ble_eq_true rfl) ?_
            refine mj_aload_n dX13_statement_272 2 rfl ?_
            refine mj_bipush (v := 59) dX13_statement_273 (by decide) ?_
            refine t_bndK hk (fun r16 er16 hk => ?_)
            refine t_callVvE dX13_statement_275 M_X13_mustBe (C_X13_mustBe _ _ _ er16) ML_X13_528 IM_X13_mustBe SE_X13_mustBe qc_950 rfl (As := [.int 59]) rfl rfl (by omega) (Nat.le_of_ble_eq_true rfl) (Nat.le_of_ble_eq_true rfl) (Nat.le_of_ble_eq_true rfl) ?_
            refine mj_iload dX13_statement_278 0 rfl ?_
            exact t_somK hk (fun hf => t_iret dX13_statement_280 rfl rfl ⟨_, rfl, hf⟩ (Nat.le_of_ble_eq_true rfl) (Nat.le_of_ble_eq_true rfl))
          · refine mj_sublv [(0, .ref 950), (4, .int r2.1)] [2, 0] rfl ?_
            exact B_X13_statement_67 rc H _ _ _ hk
    · refine mj_aload_n dX13_statement_40 2 rfl ?_
      refine mj_iload dX13_statement_41 0 rfl ?_
      refine t_bndK hk (fun r17 er17 hk => ?_)
      refine t_callVvE dX13_statement_43 M_X13_assignment (C_X13_assignment _ _ _ er17) ML_X13_752 IM_X13_assignment SE_X13_assignment qc_950 rfl (As := [.int r2.1]) rfl rfl (by omega) (Nat.le_of_ble_eq_true rfl) (Nat.le_of_ble_eq_true rfl) (Nat.le_of_ble_eq_true rfl) ?_
      refine mj_iload dX13_statement_46 0 rfl ?_
      exact t_somK hk (fun hf => t_iret dX13_statement_48 rfl rfl ⟨_, rfl, hf⟩ (Nat.le_of_ble_eq_true rfl) (Nat.le_of_ble_eq_true rfl))
  · refine mj_aload_n dX13_statement_7 0 rfl ?_
    refine mj_iconst (v := 2) dX13_statement_8 (by decide) ?_
    refine mj_aload_n dX13_statement_9 0 rfl ?_
    refine t_getI dX13_statement_10 F_X13_391 qf_950_6 ?_
    refine t_bndK hk (fun r18 er18 hk => ?_)
    refine t_callVvE dX13_statement_13 M_X13_fail (C_X13_fail _ _ _ _ er18) ML_X13_411 IM_X13_fail SE_X13_fail qc_950 rfl (As := [.int 2, .int (s.1 950 6)]) rfl rfl (by omega) (Nat.le_of_ble_eq_true rfl) (Nat.le_of_ble_eq_true rfl) (Nat.le_of_ble_eq_true rfl) ?_
    refine mj_iconst (v := 0) dX13_statement_16 (by decide) ?_
    exact t_somK hk (fun hf => t_iret dX13_statement_17 rfl rfl ⟨_, rfl, hf⟩ (Nat.le_of_ble_eq_true rfl) (Nat.le_of_ble_eq_true rfl))
/-- so many calls deep -/
noncomputable def R_X13_block : Nat → RT_X13_block
  | 0 => ⟨fun _ _ _ => none, fun _ _ _ => none, fun _ _ _ => none, fun _ _ _ => none⟩
  | k + 1 => ⟨fun x2 x3 s => m_X13_block (R_X13_block k) x2 x3 s, fun x2 x3 s => m_X13_branch (R_X13_block k) x2 x3 s, fun x2 x3 s => m_X13_branches (R_X13_block k) x2 x3 s, fun x2 x3 s => m_X13_statement (R_X13_block k) x2 x3 s⟩
theorem RR_X13_block : ∀ k : Nat, RH_X13_block (R_X13_block k) k := by
  intro k
  induction k with
  | zero => exact ⟨fun _ _ _ _ h => (by cases h), fun _ _ _ _ h => (by cases h), fun _ _ _ _ h => (by cases h), fun _ _ _ _ h => (by cases h)⟩
  | succ k ih => exact ⟨fun x2 x3 s r h => E_X13_block (R_X13_block k) ih x2 x3 s r h, fun x2 x3 s r h => E_X13_branch (R_X13_block k) ih x2 x3 s r h, fun x2 x3 s r h => E_X13_branches (R_X13_block k) ih x2 x3 s r h, fun x2 x3 s r h => E_X13_statement (R_X13_block k) ih x2 x3 s r h⟩
noncomputable def f_X13_block (x2 : Int32) (x3 : Int32) (s : t_S) : Option (Int32 × t_S) := (R_X13_block 100).1 x2 x3 s
theorem C_X13_block (x2 : Int32) (x3 : Int32) (s : t_S) (r : Int32 × t_S) (hr : f_X13_block x2 x3 s = some r) : t_C yX13_block cX13_block 6 (some .int) 412 [.ref 950, .int x2, .int x3] s (fun v s' => v = some (.int r.1) ∧ s' = r.2) := (RR_X13_block 100).1 x2 x3 s r hr
noncomputable def f_X13_branch (x2 : Int32) (x3 : Int32) (s : t_S) : Option (Int32 × t_S) := (R_X13_block 100).2.1 x2 x3 s
theorem C_X13_branch (x2 : Int32) (x3 : Int32) (s : t_S) (r : Int32 × t_S) (hr : f_X13_branch x2 x3 s = some r) : t_C yX13_branch cX13_branch 4 (some .int) 412 [.ref 950, .int x2, .int x3] s (fun v s' => v = some (.int r.1) ∧ s' = r.2) := (RR_X13_block 100).2.1 x2 x3 s r hr
noncomputable def f_X13_branches (x2 : Int32) (x3 : Int32) (s : t_S) : Option (Int32 × t_S) := (R_X13_block 100).2.2.1 x2 x3 s
theorem C_X13_branches (x2 : Int32) (x3 : Int32) (s : t_S) (r : Int32 × t_S) (hr : f_X13_branches x2 x3 s = some r) : t_C yX13_branches cX13_branches 6 (some .int) 412 [.ref 950, .int x2, .int x3] s (fun v s' => v = some (.int r.1) ∧ s' = r.2) := (RR_X13_block 100).2.2.1 x2 x3 s r hr
noncomputable def f_X13_statement (x2 : Int32) (x3 : Int32) (s : t_S) : Option (Int32 × t_S) := (R_X13_block 100).2.2.2 x2 x3 s
theorem C_X13_statement (x2 : Int32) (x3 : Int32) (s : t_S) (r : Int32 × t_S) (hr : f_X13_statement x2 x3 s = some r) : t_C yX13_statement cX13_statement 5 (some .int) 412 [.ref 950, .int x2, .int x3] s (fun v s' => v = some (.int r.1) ∧ s' = r.2) := (RR_X13_block 100).2.2.2 x2 x3 s r hr

theorem dX13_bytesFor_0 : decode cX13_bytesFor 0 = .ok (.iconst 1, 1) := by decide +kernel
theorem dX13_bytesFor_1 : decode cX13_bytesFor 1 = .ok (.istore_n 2, 1) := by decide +kernel
theorem dX13_bytesFor_10 : decode cX13_bytesFor 10 = .ok (.lconst 0, 1) := by decide +kernel
theorem dX13_bytesFor_11 : decode cX13_bytesFor 11 = .ok (.lcmp, 1) := by decide +kernel
theorem dX13_bytesFor_12 : decode cX13_bytesFor 12 = .ok (.ifCond .eq 24, 3) := by decide +kernel
theorem dX13_bytesFor_15 : decode cX13_bytesFor 15 = .ok (.lload_n 0, 1) := by decide +kernel
theorem dX13_bytesFor_16 : decode cX13_bytesFor 16 = .ok (.bipush 8, 2) := by decide +kernel
theorem dX13_bytesFor_18 : decode cX13_bytesFor 18 = .ok (.iload_n 2, 1) := by decide +kernel
theorem dX13_bytesFor_19 : decode cX13_bytesFor 19 = .ok (.imul, 1) := by decide +kernel
theorem dX13_bytesFor_2 : decode cX13_bytesFor 2 = .ok (.lload_n 0, 1) := by decide +kernel
theorem dX13_bytesFor_20 : decode cX13_bytesFor 20 = .ok (.iconst 1, 1) := by decide +kernel
theorem dX13_bytesFor_21 : decode cX13_bytesFor 21 = .ok (.isub, 1) := by decide +kernel
theorem dX13_bytesFor_22 : decode cX13_bytesFor 22 = .ok (.lshr, 1) := by decide +kernel
theorem dX13_bytesFor_23 : decode cX13_bytesFor 23 = .ok (.ldc2_w 1087, 3) := by decide +kernel
theorem dX13_bytesFor_26 : decode cX13_bytesFor 26 = .ok (.lcmp, 1) := by decide +kernel
theorem dX13_bytesFor_27 : decode cX13_bytesFor 27 = .ok (.ifCond .eq 9, 3) := by decide +kernel
theorem dX13_bytesFor_3 : decode cX13_bytesFor 3 = .ok (.bipush 8, 2) := by decide +kernel
theorem dX13_bytesFor_30 : decode cX13_bytesFor 30 = .ok (.iinc 2 1, 3) := by decide +kernel
theorem dX13_bytesFor_33 : decode cX13_bytesFor 33 = .ok (.goto (-31), 3) := by decide +kernel
theorem dX13_bytesFor_36 : decode cX13_bytesFor 36 = .ok (.iload_n 2, 1) := by decide +kernel
theorem dX13_bytesFor_37 : decode cX13_bytesFor 37 = .ok (.ireturn, 1) := by decide +kernel
theorem dX13_bytesFor_5 : decode cX13_bytesFor 5 = .ok (.iload_n 2, 1) := by decide +kernel
theorem dX13_bytesFor_6 : decode cX13_bytesFor 6 = .ok (.imul, 1) := by decide +kernel
theorem dX13_bytesFor_7 : decode cX13_bytesFor 7 = .ok (.iconst 1, 1) := by decide +kernel
theorem dX13_bytesFor_8 : decode cX13_bytesFor 8 = .ok (.isub, 1) := by decide +kernel
theorem dX13_bytesFor_9 : decode cX13_bytesFor 9 = .ok (.lshr, 1) := by decide +kernel
noncomputable def k_X13_bytesFor_2 (l0 : Int64) (l2 : Int32) (s : t_S) : Option ((Int64 × Int32) ⊕ (Int32)) :=
 if (lg_cmp (l0 >>> ((((8 : Int32) * l2) - (1 : Int32)).toInt64 &&& 63)) (0 : Int64)) = (0 : Int32) then ((some (l2)).map Sum.inr)
 else (if (lg_cmp (l0 >>> ((((8 : Int32) * l2) - (1 : Int32)).toInt64 &&& 63)) (-1 : Int64)) = (0 : Int32) then ((some (l2)).map Sum.inr)
 else (some (.inl (l0, (l2 + 1)))))
set_option maxRecDepth 4000 in
set_option maxHeartbeats 1000000 in
theorem B_X13_bytesFor_2 {D : va_G} {cy : Nat → ClassId} {ad : Nat → Nat} {bs : Nat} {X : State → Heap → Prop} (l0 : Int64) (l2 : Int32) (s : t_S) (Q : (Int64 × Int32) ⊕ (Int32) → Prop) (Hb2 : ∀ (y0 : Int64) (y1 : Int32), Q (.inl (y0, y1)) → mj_G D cy ad bs X cX13_bytesFor 3 yX13_bytesFor.cls (some .int) yX13_bytesFor.name 0 0 0 1065 (t_P (fun v s' => s' = s ∧ ∃ x, v = some (.int x) ∧ Q (.inr (x)))) 2 [(0, .long (y0)), (2, .int (y1))] [] (t_m s) 1065 0 0) (hk : t_hk (k_X13_bytesFor_2 l0 l2 s) Q) : mj_G D cy ad bs X cX13_bytesFor 3 yX13_bytesFor.cls (some .int) yX13_bytesFor.name 0 0 0 1065 (t_P (fun v s' => s' = s ∧ ∃ x, v = some (.int x) ∧ Q (.inr (x)))) 2 [(0, .long l0), (2, .int l2)] [] (t_m s) 1065 0 0 := by
  refine mj_lload_n dX13_bytesFor_2 0 rfl ?_
  refine mj_bipush (v := 8) dX13_bytesFor_3 (by decide) ?_
  refine mj_iload_n dX13_bytesFor_5 1 rfl ?_
  refine mj_imul dX13_bytesFor_6 ?_
  refine mj_iconst (v := 1) dX13_bytesFor_7 (by decide) ?_
  refine mj_isub dX13_bytesFor_8 ?_
  refine mj_lshr dX13_bytesFor_9 rfl ?_
  refine mj_lconst (v := 0) dX13_bytesFor_10 (by decide) ?_
  refine mj_lcmp dX13_bytesFor_11 ?_
  refine mj_if_eq 36 dX13_bytesFor_12 (by decide) (fun z => t_posK hk z (fun hk => ?_)) (fun z => t_negK hk z (fun hk => ?_))
  · refine t_mapK hk (fun hk => ?_)
    refine mj_iload_n dX13_bytesFor_36 1 rfl ?_
    exact t_somK hk (fun hf => t_iret dX13_bytesFor_37 rfl rfl ⟨rfl, _, rfl, hf⟩ (Nat.le_of_ble_eq_true rfl) (Nat.le_of_ble_eq_true rfl))
  · refine mj_lload_n dX13_bytesFor_15 0 rfl ?_
    refine mj_bipush (v := 8) dX13_bytesFor_16 (by decide) ?_
    refine mj_iload_n dX13_bytesFor_18 1 rfl ?_
    refine mj_imul dX13_bytesFor_19 ?_
    refine mj_iconst (v := 1) dX13_bytesFor_20 (by decide) ?_
    refine mj_isub dX13_bytesFor_21 ?_
    refine mj_lshr dX13_bytesFor_22 rfl ?_
    refine mj_ldc2 dX13_bytesFor_23 K_X13_1087 ?_
    refine mj_lcmp dX13_bytesFor_26 ?_
    refine mj_if_eq 36 dX13_bytesFor_27 (by decide) (fun z => t_posK hk z (fun hk => ?_)) (fun z => t_negK hk z (fun hk => ?_))
    · refine t_mapK hk (fun hk => ?_)
      refine mj_iload_n dX13_bytesFor_36 1 rfl ?_
      exact t_somK hk (fun hf => t_iret dX13_bytesFor_37 rfl rfl ⟨rfl, _, rfl, hf⟩ (Nat.le_of_ble_eq_true rfl) (Nat.le_of_ble_eq_true rfl))
    · refine mj_iinc (k := 1) (v := (l2 + 1)) (lv2 := [(2, .int (l2 + 1)), (0, .long l0)]) dX13_bytesFor_30 rfl rfl (by decide) rfl ?_
      refine mj_goto 2 dX13_bytesFor_33 (by decide) ?_
      refine mj_sublv [(0, .long l0), (2, .int (l2 + 1))] [1, 0] rfl ?_
      exact t_somK hk (fun hf => Hb2 l0 (l2 + 1) hf)
noncomputable def b_X13_bytesFor_2 (s : t_S) (x : Int64 × Int32) : Option ((Int64 × Int32) ⊕ (Int32)) := k_X13_bytesFor_2 x.1 x.2 s
set_option maxRecDepth 4000 in
set_option maxHeartbeats 1000000 in
theorem LH_X13_bytesFor_2 {D : va_G} {cy : Nat → ClassId} {ad : Nat → Nat} {bs : Nat} {X : State → Heap → Prop} (s : t_S) : ∀ (n : Nat) (y0 : Int64) (y1 : Int32) (Q : Int32 → Prop) (hk : t_hk (t_loop (b_X13_bytesFor_2 s) n (y0, y1)) Q), mj_G D cy ad bs X cX13_bytesFor 3 yX13_bytesFor.cls (some .int) yX13_bytesFor.name 0 0 0 1065 (t_P (fun v s' => s' = s ∧ ∃ x, v = some (.int x) ∧ Q (x))) 2 [(0, .long (y0)), (2, .int (y1))] [] (t_m s) 1065 0 0 := by
  intro n
  induction n with
  | zero => intro y0 y1 Q hk; obtain ⟨r, hr, _⟩ := hk; cases hr
  | succ n ih =>
    intro y0 y1 Q hk
    exact B_X13_bytesFor_2 y0 y1 s (fun y => t_lq (b_X13_bytesFor_2 s) n Q y) (fun y0' y1' hy => ih y0' y1' Q hy) (t_lp (b := b_X13_bytesFor_2 s) (n := n) (x := (y0, y1)) hk)
noncomputable def f_X13_bytesFor (x1 : Int64) (s : t_S) : Option (Int32) :=
 t_loop (b_X13_bytesFor_2 s) t_N (x1, 1)
set_option maxRecDepth 4000 in
set_option maxHeartbeats 1000000 in
theorem C_X13_bytesFor (x1 : Int64) (s : t_S) (r : Int32) (hr : f_X13_bytesFor x1 s = some r) : t_C yX13_bytesFor cX13_bytesFor 3 (some .int) 0 [.long x1] s (fun v s' => v = some (.int r) ∧ s' = s) := by
  refine t_C.imp (P := fun v s' => s' = s ∧ ∃ x, v = some (.int x) ∧ (fun q => q = r) (x)) (t_C.of (by decide +kernel) (Nat.le_of_ble_eq_true rfl) ?_) (fun v s' hp => by obtain ⟨rfl, x, rfl, rfl⟩ := hp; exact ⟨rfl, rfl⟩)
  intro D cy ad bs X
  have hk : t_hk (f_X13_bytesFor x1 s) (fun q => q = r) := ⟨r, hr, rfl⟩
  show mj_G D cy ad bs X cX13_bytesFor 3 yX13_bytesFor.cls (some .int) yX13_bytesFor.name 0 0 0 1065 (t_P (fun v s' => s' = s ∧ ∃ x, v = some (.int x) ∧ (fun q => q = r) (x))) 0 [(0, .long x1)] [] (t_m s) 1065 0 0
  refine mj_iconst (v := 1) dX13_bytesFor_0 (by decide) ?_
  refine mj_istore_n 2 (lv2 := [(2, .int 1), (0, .long x1)]) dX13_bytesFor_1 rfl (by decide) rfl ?_
  refine mj_sublv [(0, .long x1), (2, .int 1)] [1, 0] rfl ?_
  exact LH_X13_bytesFor_2 _ _ x1 1 _ hk

