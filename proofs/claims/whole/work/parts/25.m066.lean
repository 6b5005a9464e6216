/-! Methods as functions, 66: X13_rebuildRecord -/
theorem dX13_rebuildChoice_0 : decode cX13_rebuildChoice 0 = .ok (.iload 5, 2) := by decide +kernel
theorem dX13_rebuildChoice_11 : decode cX13_rebuildChoice 11 = .ok (.laload, 1) := by decide +kernel
theorem dX13_rebuildChoice_12 : decode cX13_rebuildChoice 12 = .ok (.ldc2_w 969, 3) := by decide +kernel
theorem dX13_rebuildChoice_15 : decode cX13_rebuildChoice 15 = .ok (.lcmp, 1) := by decide +kernel
theorem dX13_rebuildChoice_16 : decode cX13_rebuildChoice 16 = .ok (.ifCond .ne 30, 3) := by decide +kernel
theorem dX13_rebuildChoice_19 : decode cX13_rebuildChoice 19 = .ok (.goto 21, 3) := by decide +kernel
theorem dX13_rebuildChoice_2 : decode cX13_rebuildChoice 2 = .ok (.ifCond .eq 20, 3) := by decide +kernel
theorem dX13_rebuildChoice_22 : decode cX13_rebuildChoice 22 = .ok (.aload_n 0, 1) := by decide +kernel
theorem dX13_rebuildChoice_23 : decode cX13_rebuildChoice 23 = .ok (.getfield 182, 3) := by decide +kernel
theorem dX13_rebuildChoice_26 : decode cX13_rebuildChoice 26 = .ok (.iload_n 1, 1) := by decide +kernel
theorem dX13_rebuildChoice_27 : decode cX13_rebuildChoice 27 = .ok (.iconst 1, 1) := by decide +kernel
theorem dX13_rebuildChoice_28 : decode cX13_rebuildChoice 28 = .ok (.iadd, 1) := by decide +kernel
theorem dX13_rebuildChoice_29 : decode cX13_rebuildChoice 29 = .ok (.laload, 1) := by decide +kernel
theorem dX13_rebuildChoice_30 : decode cX13_rebuildChoice 30 = .ok (.aload_n 0, 1) := by decide +kernel
theorem dX13_rebuildChoice_31 : decode cX13_rebuildChoice 31 = .ok (.getfield 32, 3) := by decide +kernel
theorem dX13_rebuildChoice_34 : decode cX13_rebuildChoice 34 = .ok (.iload_n 2, 1) := by decide +kernel
theorem dX13_rebuildChoice_35 : decode cX13_rebuildChoice 35 = .ok (.laload, 1) := by decide +kernel
theorem dX13_rebuildChoice_36 : decode cX13_rebuildChoice 36 = .ok (.lcmp, 1) := by decide +kernel
theorem dX13_rebuildChoice_37 : decode cX13_rebuildChoice 37 = .ok (.ifCond .eq 9, 3) := by decide +kernel
theorem dX13_rebuildChoice_40 : decode cX13_rebuildChoice 40 = .ok (.aload_n 0, 1) := by decide +kernel
theorem dX13_rebuildChoice_41 : decode cX13_rebuildChoice 41 = .ok (.iconst 1, 1) := by decide +kernel
theorem dX13_rebuildChoice_42 : decode cX13_rebuildChoice 42 = .ok (.invokevirtual 866, 3) := by decide +kernel
theorem dX13_rebuildChoice_45 : decode cX13_rebuildChoice 45 = .ok (.return_, 1) := by decide +kernel
theorem dX13_rebuildChoice_46 : decode cX13_rebuildChoice 46 = .ok (.aload_n 0, 1) := by decide +kernel
theorem dX13_rebuildChoice_47 : decode cX13_rebuildChoice 47 = .ok (.ldc2_w 697, 3) := by decide +kernel
theorem dX13_rebuildChoice_5 : decode cX13_rebuildChoice 5 = .ok (.aload_n 0, 1) := by decide +kernel
theorem dX13_rebuildChoice_50 : decode cX13_rebuildChoice 50 = .ok (.invokevirtual 1419, 3) := by decide +kernel
theorem dX13_rebuildChoice_53 : decode cX13_rebuildChoice 53 = .ok (.aload_n 0, 1) := by decide +kernel
theorem dX13_rebuildChoice_54 : decode cX13_rebuildChoice 54 = .ok (.aload_n 0, 1) := by decide +kernel
theorem dX13_rebuildChoice_55 : decode cX13_rebuildChoice 55 = .ok (.getfield 32, 3) := by decide +kernel
theorem dX13_rebuildChoice_58 : decode cX13_rebuildChoice 58 = .ok (.iload_n 2, 1) := by decide +kernel
theorem dX13_rebuildChoice_59 : decode cX13_rebuildChoice 59 = .ok (.laload, 1) := by decide +kernel
theorem dX13_rebuildChoice_6 : decode cX13_rebuildChoice 6 = .ok (.getfield 182, 3) := by decide +kernel
theorem dX13_rebuildChoice_60 : decode cX13_rebuildChoice 60 = .ok (.invokevirtual 1419, 3) := by decide +kernel
theorem dX13_rebuildChoice_63 : decode cX13_rebuildChoice 63 = .ok (.aload_n 0, 1) := by decide +kernel
theorem dX13_rebuildChoice_64 : decode cX13_rebuildChoice 64 = .ok (.iload_n 1, 1) := by decide +kernel
theorem dX13_rebuildChoice_65 : decode cX13_rebuildChoice 65 = .ok (.iconst 2, 1) := by decide +kernel
theorem dX13_rebuildChoice_66 : decode cX13_rebuildChoice 66 = .ok (.iadd, 1) := by decide +kernel
theorem dX13_rebuildChoice_67 : decode cX13_rebuildChoice 67 = .ok (.aload_n 0, 1) := by decide +kernel
theorem dX13_rebuildChoice_68 : decode cX13_rebuildChoice 68 = .ok (.getfield 42, 3) := by decide +kernel
theorem dX13_rebuildChoice_71 : decode cX13_rebuildChoice 71 = .ok (.iload_n 2, 1) := by decide +kernel
theorem dX13_rebuildChoice_72 : decode cX13_rebuildChoice 72 = .ok (.iaload, 1) := by decide +kernel
theorem dX13_rebuildChoice_73 : decode cX13_rebuildChoice 73 = .ok (.iload_n 3, 1) := by decide +kernel
theorem dX13_rebuildChoice_74 : decode cX13_rebuildChoice 74 = .ok (.iload 4, 2) := by decide +kernel
theorem dX13_rebuildChoice_76 : decode cX13_rebuildChoice 76 = .ok (.invokestatic 1415, 3) := by decide +kernel
theorem dX13_rebuildChoice_79 : decode cX13_rebuildChoice 79 = .ok (.return_, 1) := by decide +kernel
theorem dX13_rebuildChoice_9 : decode cX13_rebuildChoice 9 = .ok (.iload 4, 2) := by decide +kernel
theorem dX13_rebuildRecord_0 : decode cX13_rebuildRecord 0 = .ok (.aload_n 0, 1) := by decide +kernel
theorem dX13_rebuildRecord_1 : decode cX13_rebuildRecord 1 = .ok (.iload_n 1, 1) := by decide +kernel
theorem dX13_rebuildRecord_100 : decode cX13_rebuildRecord 100 = .ok (.istore 9, 2) := by decide +kernel
theorem dX13_rebuildRecord_102 : decode cX13_rebuildRecord 102 = .ok (.aload_n 0, 1) := by decide +kernel
theorem dX13_rebuildRecord_103 : decode cX13_rebuildRecord 103 = .ok (.ldc2_w 853, 3) := by decide +kernel
theorem dX13_rebuildRecord_106 : decode cX13_rebuildRecord 106 = .ok (.invokevirtual 1419, 3) := by decide +kernel
theorem dX13_rebuildRecord_109 : decode cX13_rebuildRecord 109 = .ok (.aload_n 0, 1) := by decide +kernel
theorem dX13_rebuildRecord_11 : decode cX13_rebuildRecord 11 = .ok (.istore 6, 2) := by decide +kernel
theorem dX13_rebuildRecord_110 : decode cX13_rebuildRecord 110 = .ok (.iload 9, 2) := by decide +kernel
theorem dX13_rebuildRecord_112 : decode cX13_rebuildRecord 112 = .ok (.i2l, 1) := by decide +kernel
theorem dX13_rebuildRecord_113 : decode cX13_rebuildRecord 113 = .ok (.invokevirtual 1419, 3) := by decide +kernel
theorem dX13_rebuildRecord_116 : decode cX13_rebuildRecord 116 = .ok (.iconst 0, 1) := by decide +kernel
theorem dX13_rebuildRecord_117 : decode cX13_rebuildRecord 117 = .ok (.istore 10, 2) := by decide +kernel
theorem dX13_rebuildRecord_119 : decode cX13_rebuildRecord 119 = .ok (.iconst 0, 1) := by decide +kernel
theorem dX13_rebuildRecord_120 : decode cX13_rebuildRecord 120 = .ok (.istore 11, 2) := by decide +kernel
theorem dX13_rebuildRecord_122 : decode cX13_rebuildRecord 122 = .ok (.iload 11, 2) := by decide +kernel
theorem dX13_rebuildRecord_124 : decode cX13_rebuildRecord 124 = .ok (.iconst 2, 1) := by decide +kernel
theorem dX13_rebuildRecord_125 : decode cX13_rebuildRecord 125 = .ok (.if_icmp .ge 180, 3) := by decide +kernel
theorem dX13_rebuildRecord_128 : decode cX13_rebuildRecord 128 = .ok (.iconst 0, 1) := by decide +kernel
theorem dX13_rebuildRecord_129 : decode cX13_rebuildRecord 129 = .ok (.istore 10, 2) := by decide +kernel
theorem dX13_rebuildRecord_13 : decode cX13_rebuildRecord 13 = .ok (.iload 5, 2) := by decide +kernel
theorem dX13_rebuildRecord_131 : decode cX13_rebuildRecord 131 = .ok (.iconst 0, 1) := by decide +kernel
theorem dX13_rebuildRecord_132 : decode cX13_rebuildRecord 132 = .ok (.istore 12, 2) := by decide +kernel
theorem dX13_rebuildRecord_134 : decode cX13_rebuildRecord 134 = .ok (.iload 12, 2) := by decide +kernel
theorem dX13_rebuildRecord_136 : decode cX13_rebuildRecord 136 = .ok (.iload 8, 2) := by decide +kernel
theorem dX13_rebuildRecord_138 : decode cX13_rebuildRecord 138 = .ok (.if_icmp .gt 161, 3) := by decide +kernel
theorem dX13_rebuildRecord_141 : decode cX13_rebuildRecord 141 = .ok (.iload 12, 2) := by decide +kernel
theorem dX13_rebuildRecord_143 : decode cX13_rebuildRecord 143 = .ok (.iload 8, 2) := by decide +kernel
theorem dX13_rebuildRecord_145 : decode cX13_rebuildRecord 145 = .ok (.if_icmp .ge 17, 3) := by decide +kernel
theorem dX13_rebuildRecord_148 : decode cX13_rebuildRecord 148 = .ok (.aload_n 0, 1) := by decide +kernel
theorem dX13_rebuildRecord_149 : decode cX13_rebuildRecord 149 = .ok (.getfield 182, 3) := by decide +kernel
theorem dX13_rebuildRecord_15 : decode cX13_rebuildRecord 15 = .ok (.ifCond .eq 21, 3) := by decide +kernel
theorem dX13_rebuildRecord_152 : decode cX13_rebuildRecord 152 = .ok (.iload_n 1, 1) := by decide +kernel
theorem dX13_rebuildRecord_153 : decode cX13_rebuildRecord 153 = .ok (.iconst 2, 1) := by decide +kernel
theorem dX13_rebuildRecord_154 : decode cX13_rebuildRecord 154 = .ok (.iadd, 1) := by decide +kernel
theorem dX13_rebuildRecord_155 : decode cX13_rebuildRecord 155 = .ok (.iload 12, 2) := by decide +kernel
theorem dX13_rebuildRecord_157 : decode cX13_rebuildRecord 157 = .ok (.iadd, 1) := by decide +kernel
theorem dX13_rebuildRecord_158 : decode cX13_rebuildRecord 158 = .ok (.laload, 1) := by decide +kernel
theorem dX13_rebuildRecord_159 : decode cX13_rebuildRecord 159 = .ok (.goto 6, 3) := by decide +kernel
theorem dX13_rebuildRecord_162 : decode cX13_rebuildRecord 162 = .ok (.ldc2_w 1434, 3) := by decide +kernel
theorem dX13_rebuildRecord_165 : decode cX13_rebuildRecord 165 = .ok (.lstore 13, 2) := by decide +kernel
theorem dX13_rebuildRecord_167 : decode cX13_rebuildRecord 167 = .ok (.iload 10, 2) := by decide +kernel
theorem dX13_rebuildRecord_169 : decode cX13_rebuildRecord 169 = .ok (.ifCond .ne 80, 3) := by decide +kernel
theorem dX13_rebuildRecord_172 : decode cX13_rebuildRecord 172 = .ok (.lload 13, 2) := by decide +kernel
theorem dX13_rebuildRecord_174 : decode cX13_rebuildRecord 174 = .ok (.aload_n 0, 1) := by decide +kernel
theorem dX13_rebuildRecord_175 : decode cX13_rebuildRecord 175 = .ok (.getfield 32, 3) := by decide +kernel
theorem dX13_rebuildRecord_178 : decode cX13_rebuildRecord 178 = .ok (.iload_n 2, 1) := by decide +kernel
theorem dX13_rebuildRecord_179 : decode cX13_rebuildRecord 179 = .ok (.laload, 1) := by decide +kernel
theorem dX13_rebuildRecord_18 : decode cX13_rebuildRecord 18 = .ok (.aload_n 0, 1) := by decide +kernel
theorem dX13_rebuildRecord_180 : decode cX13_rebuildRecord 180 = .ok (.lcmp, 1) := by decide +kernel
theorem dX13_rebuildRecord_181 : decode cX13_rebuildRecord 181 = .ok (.ifCond .lt 68, 3) := by decide +kernel
theorem dX13_rebuildRecord_184 : decode cX13_rebuildRecord 184 = .ok (.iconst 1, 1) := by decide +kernel
theorem dX13_rebuildRecord_185 : decode cX13_rebuildRecord 185 = .ok (.istore 10, 2) := by decide +kernel
theorem dX13_rebuildRecord_187 : decode cX13_rebuildRecord 187 = .ok (.iload 7, 2) := by decide +kernel
theorem dX13_rebuildRecord_189 : decode cX13_rebuildRecord 189 = .ok (.ifCond .ne 21, 3) := by decide +kernel
theorem dX13_rebuildRecord_19 : decode cX13_rebuildRecord 19 = .ok (.getfield 182, 3) := by decide +kernel
theorem dX13_rebuildRecord_192 : decode cX13_rebuildRecord 192 = .ok (.iload 11, 2) := by decide +kernel
theorem dX13_rebuildRecord_194 : decode cX13_rebuildRecord 194 = .ok (.ifCond .ne 16, 3) := by decide +kernel
theorem dX13_rebuildRecord_197 : decode cX13_rebuildRecord 197 = .ok (.aload_n 0, 1) := by decide +kernel
theorem dX13_rebuildRecord_198 : decode cX13_rebuildRecord 198 = .ok (.aload_n 0, 1) := by decide +kernel
theorem dX13_rebuildRecord_199 : decode cX13_rebuildRecord 199 = .ok (.getfield 32, 3) := by decide +kernel
theorem dX13_rebuildRecord_2 : decode cX13_rebuildRecord 2 = .ok (.aload_n 0, 1) := by decide +kernel
theorem dX13_rebuildRecord_202 : decode cX13_rebuildRecord 202 = .ok (.iload_n 2, 1) := by decide +kernel
theorem dX13_rebuildRecord_203 : decode cX13_rebuildRecord 203 = .ok (.laload, 1) := by decide +kernel
theorem dX13_rebuildRecord_204 : decode cX13_rebuildRecord 204 = .ok (.invokevirtual 1419, 3) := by decide +kernel
theorem dX13_rebuildRecord_207 : decode cX13_rebuildRecord 207 = .ok (.goto 42, 3) := by decide +kernel
theorem dX13_rebuildRecord_210 : decode cX13_rebuildRecord 210 = .ok (.iload 7, 2) := by decide +kernel
theorem dX13_rebuildRecord_212 : decode cX13_rebuildRecord 212 = .ok (.ifCond .ne 17, 3) := by decide +kernel
theorem dX13_rebuildRecord_215 : decode cX13_rebuildRecord 215 = .ok (.iload 5, 2) := by decide +kernel
theorem dX13_rebuildRecord_217 : decode cX13_rebuildRecord 217 = .ok (.ifCond .eq 12, 3) := by decide +kernel
theorem dX13_rebuildRecord_22 : decode cX13_rebuildRecord 22 = .ok (.iload 4, 2) := by decide +kernel
theorem dX13_rebuildRecord_220 : decode cX13_rebuildRecord 220 = .ok (.aload_n 0, 1) := by decide +kernel
theorem dX13_rebuildRecord_221 : decode cX13_rebuildRecord 221 = .ok (.iload 4, 2) := by decide +kernel
theorem dX13_rebuildRecord_223 : decode cX13_rebuildRecord 223 = .ok (.invokevirtual 1422, 3) := by decide +kernel
theorem dX13_rebuildRecord_226 : decode cX13_rebuildRecord 226 = .ok (.goto 23, 3) := by decide +kernel
theorem dX13_rebuildRecord_229 : decode cX13_rebuildRecord 229 = .ok (.iload 7, 2) := by decide +kernel
theorem dX13_rebuildRecord_231 : decode cX13_rebuildRecord 231 = .ok (.ifCond .ne 18, 3) := by decide +kernel
theorem dX13_rebuildRecord_234 : decode cX13_rebuildRecord 234 = .ok (.aload_n 0, 1) := by decide +kernel
theorem dX13_rebuildRecord_235 : decode cX13_rebuildRecord 235 = .ok (.iload 6, 2) := by decide +kernel
theorem dX13_rebuildRecord_237 : decode cX13_rebuildRecord 237 = .ok (.aload_n 0, 1) := by decide +kernel
theorem dX13_rebuildRecord_238 : decode cX13_rebuildRecord 238 = .ok (.getfield 42, 3) := by decide +kernel
theorem dX13_rebuildRecord_24 : decode cX13_rebuildRecord 24 = .ok (.laload, 1) := by decide +kernel
theorem dX13_rebuildRecord_241 : decode cX13_rebuildRecord 241 = .ok (.iload_n 2, 1) := by decide +kernel
theorem dX13_rebuildRecord_242 : decode cX13_rebuildRecord 242 = .ok (.iaload, 1) := by decide +kernel
theorem dX13_rebuildRecord_243 : decode cX13_rebuildRecord 243 = .ok (.iload_n 3, 1) := by decide +kernel
theorem dX13_rebuildRecord_244 : decode cX13_rebuildRecord 244 = .ok (.iload 4, 2) := by decide +kernel
theorem dX13_rebuildRecord_246 : decode cX13_rebuildRecord 246 = .ok (.invokestatic 1415, 3) := by decide +kernel
theorem dX13_rebuildRecord_249 : decode cX13_rebuildRecord 249 = .ok (.iload 12, 2) := by decide +kernel
theorem dX13_rebuildRecord_25 : decode cX13_rebuildRecord 25 = .ok (.ldc2_w 969, 3) := by decide +kernel
theorem dX13_rebuildRecord_251 : decode cX13_rebuildRecord 251 = .ok (.iload 8, 2) := by decide +kernel
theorem dX13_rebuildRecord_253 : decode cX13_rebuildRecord 253 = .ok (.if_icmp .ge 40, 3) := by decide +kernel
theorem dX13_rebuildRecord_256 : decode cX13_rebuildRecord 256 = .ok (.lload 13, 2) := by decide +kernel
theorem dX13_rebuildRecord_258 : decode cX13_rebuildRecord 258 = .ok (.aload_n 0, 1) := by decide +kernel
theorem dX13_rebuildRecord_259 : decode cX13_rebuildRecord 259 = .ok (.getfield 32, 3) := by decide +kernel
theorem dX13_rebuildRecord_262 : decode cX13_rebuildRecord 262 = .ok (.iload_n 2, 1) := by decide +kernel
theorem dX13_rebuildRecord_263 : decode cX13_rebuildRecord 263 = .ok (.laload, 1) := by decide +kernel
theorem dX13_rebuildRecord_264 : decode cX13_rebuildRecord 264 = .ok (.lcmp, 1) := by decide +kernel
theorem dX13_rebuildRecord_265 : decode cX13_rebuildRecord 265 = .ok (.ifCond .eq 28, 3) := by decide +kernel
theorem dX13_rebuildRecord_268 : decode cX13_rebuildRecord 268 = .ok (.iload 11, 2) := by decide +kernel
theorem dX13_rebuildRecord_270 : decode cX13_rebuildRecord 270 = .ok (.ifCond .ne 12, 3) := by decide +kernel
theorem dX13_rebuildRecord_273 : decode cX13_rebuildRecord 273 = .ok (.aload_n 0, 1) := by decide +kernel
theorem dX13_rebuildRecord_274 : decode cX13_rebuildRecord 274 = .ok (.lload 13, 2) := by decide +kernel
theorem dX13_rebuildRecord_276 : decode cX13_rebuildRecord 276 = .ok (.invokevirtual 1419, 3) := by decide +kernel
theorem dX13_rebuildRecord_279 : decode cX13_rebuildRecord 279 = .ok (.goto 14, 3) := by decide +kernel
theorem dX13_rebuildRecord_28 : decode cX13_rebuildRecord 28 = .ok (.lcmp, 1) := by decide +kernel
theorem dX13_rebuildRecord_282 : decode cX13_rebuildRecord 282 = .ok (.aload_n 0, 1) := by decide +kernel
theorem dX13_rebuildRecord_283 : decode cX13_rebuildRecord 283 = .ok (.aload_n 0, 1) := by decide +kernel
theorem dX13_rebuildRecord_284 : decode cX13_rebuildRecord 284 = .ok (.iload_n 1, 1) := by decide +kernel
theorem dX13_rebuildRecord_285 : decode cX13_rebuildRecord 285 = .ok (.iload 12, 2) := by decide +kernel
theorem dX13_rebuildRecord_287 : decode cX13_rebuildRecord 287 = .ok (.invokevirtual 855, 3) := by decide +kernel
theorem dX13_rebuildRecord_29 : decode cX13_rebuildRecord 29 = .ok (.ifCond .ne 7, 3) := by decide +kernel
theorem dX13_rebuildRecord_290 : decode cX13_rebuildRecord 290 = .ok (.invokevirtual 1422, 3) := by decide +kernel
theorem dX13_rebuildRecord_293 : decode cX13_rebuildRecord 293 = .ok (.iinc 12 1, 3) := by decide +kernel
theorem dX13_rebuildRecord_296 : decode cX13_rebuildRecord 296 = .ok (.goto (-162), 3) := by decide +kernel
theorem dX13_rebuildRecord_299 : decode cX13_rebuildRecord 299 = .ok (.iinc 11 1, 3) := by decide +kernel
theorem dX13_rebuildRecord_3 : decode cX13_rebuildRecord 3 = .ok (.getfield 32, 3) := by decide +kernel
theorem dX13_rebuildRecord_302 : decode cX13_rebuildRecord 302 = .ok (.goto (-180), 3) := by decide +kernel
theorem dX13_rebuildRecord_305 : decode cX13_rebuildRecord 305 = .ok (.return_, 1) := by decide +kernel
theorem dX13_rebuildRecord_32 : decode cX13_rebuildRecord 32 = .ok (.iconst 1, 1) := by decide +kernel
theorem dX13_rebuildRecord_33 : decode cX13_rebuildRecord 33 = .ok (.goto 4, 3) := by decide +kernel
theorem dX13_rebuildRecord_36 : decode cX13_rebuildRecord 36 = .ok (.iconst 0, 1) := by decide +kernel
theorem dX13_rebuildRecord_37 : decode cX13_rebuildRecord 37 = .ok (.istore 7, 2) := by decide +kernel
theorem dX13_rebuildRecord_39 : decode cX13_rebuildRecord 39 = .ok (.iload 5, 2) := by decide +kernel
theorem dX13_rebuildRecord_41 : decode cX13_rebuildRecord 41 = .ok (.ifCond .ne 14, 3) := by decide +kernel
theorem dX13_rebuildRecord_44 : decode cX13_rebuildRecord 44 = .ok (.iload 6, 2) := by decide +kernel
theorem dX13_rebuildRecord_46 : decode cX13_rebuildRecord 46 = .ok (.ifCond .ge 9, 3) := by decide +kernel
theorem dX13_rebuildRecord_49 : decode cX13_rebuildRecord 49 = .ok (.aload_n 0, 1) := by decide +kernel
theorem dX13_rebuildRecord_50 : decode cX13_rebuildRecord 50 = .ok (.iconst 1, 1) := by decide +kernel
theorem dX13_rebuildRecord_51 : decode cX13_rebuildRecord 51 = .ok (.invokevirtual 866, 3) := by decide +kernel
theorem dX13_rebuildRecord_54 : decode cX13_rebuildRecord 54 = .ok (.return_, 1) := by decide +kernel
theorem dX13_rebuildRecord_55 : decode cX13_rebuildRecord 55 = .ok (.aload_n 0, 1) := by decide +kernel
theorem dX13_rebuildRecord_56 : decode cX13_rebuildRecord 56 = .ok (.getfield 182, 3) := by decide +kernel
theorem dX13_rebuildRecord_59 : decode cX13_rebuildRecord 59 = .ok (.iload_n 1, 1) := by decide +kernel
theorem dX13_rebuildRecord_6 : decode cX13_rebuildRecord 6 = .ok (.iload_n 2, 1) := by decide +kernel
theorem dX13_rebuildRecord_60 : decode cX13_rebuildRecord 60 = .ok (.iconst 1, 1) := by decide +kernel
theorem dX13_rebuildRecord_61 : decode cX13_rebuildRecord 61 = .ok (.iadd, 1) := by decide +kernel
theorem dX13_rebuildRecord_62 : decode cX13_rebuildRecord 62 = .ok (.laload, 1) := by decide +kernel
theorem dX13_rebuildRecord_63 : decode cX13_rebuildRecord 63 = .ok (.l2i, 1) := by decide +kernel
theorem dX13_rebuildRecord_64 : decode cX13_rebuildRecord 64 = .ok (.istore 8, 2) := by decide +kernel
theorem dX13_rebuildRecord_66 : decode cX13_rebuildRecord 66 = .ok (.iload 8, 2) := by decide +kernel
theorem dX13_rebuildRecord_68 : decode cX13_rebuildRecord 68 = .ok (.iload 6, 2) := by decide +kernel
theorem dX13_rebuildRecord_7 : decode cX13_rebuildRecord 7 = .ok (.laload, 1) := by decide +kernel
theorem dX13_rebuildRecord_70 : decode cX13_rebuildRecord 70 = .ok (.ifCond .ge 12, 3) := by decide +kernel
theorem dX13_rebuildRecord_73 : decode cX13_rebuildRecord 73 = .ok (.iload 7, 2) := by decide +kernel
theorem dX13_rebuildRecord_75 : decode cX13_rebuildRecord 75 = .ok (.ifCond .ne 7, 3) := by decide +kernel
theorem dX13_rebuildRecord_78 : decode cX13_rebuildRecord 78 = .ok (.iconst 1, 1) := by decide +kernel
theorem dX13_rebuildRecord_79 : decode cX13_rebuildRecord 79 = .ok (.goto 4, 3) := by decide +kernel
theorem dX13_rebuildRecord_8 : decode cX13_rebuildRecord 8 = .ok (.invokevirtual 966, 3) := by decide +kernel
theorem dX13_rebuildRecord_82 : decode cX13_rebuildRecord 82 = .ok (.iconst 0, 1) := by decide +kernel
theorem dX13_rebuildRecord_83 : decode cX13_rebuildRecord 83 = .ok (.iadd, 1) := by decide +kernel
theorem dX13_rebuildRecord_84 : decode cX13_rebuildRecord 84 = .ok (.iload 6, 2) := by decide +kernel
theorem dX13_rebuildRecord_86 : decode cX13_rebuildRecord 86 = .ok (.ifCond .lt 12, 3) := by decide +kernel
theorem dX13_rebuildRecord_89 : decode cX13_rebuildRecord 89 = .ok (.iload 7, 2) := by decide +kernel
theorem dX13_rebuildRecord_91 : decode cX13_rebuildRecord 91 = .ok (.ifCond .eq 7, 3) := by decide +kernel
theorem dX13_rebuildRecord_94 : decode cX13_rebuildRecord 94 = .ok (.iconst 1, 1) := by decide +kernel
theorem dX13_rebuildRecord_95 : decode cX13_rebuildRecord 95 = .ok (.goto 4, 3) := by decide +kernel
theorem dX13_rebuildRecord_98 : decode cX13_rebuildRecord 98 = .ok (.iconst 0, 1) := by decide +kernel
theorem dX13_rebuildRecord_99 : decode cX13_rebuildRecord 99 = .ok (.isub, 1) := by decide +kernel
theorem dX13_rebuild_0 : decode cX13_rebuild 0 = .ok (.iload_n 2, 1) := by decide +kernel
theorem dX13_rebuild_1 : decode cX13_rebuild 1 = .ok (.ifCond .ge 10, 3) := by decide +kernel
theorem dX13_rebuild_10 : decode cX13_rebuild 10 = .ok (.return_, 1) := by decide +kernel
theorem dX13_rebuild_102 : decode cX13_rebuild 102 = .ok (.aload_n 0, 1) := by decide +kernel
theorem dX13_rebuild_103 : decode cX13_rebuild 103 = .ok (.iconst 1, 1) := by decide +kernel
theorem dX13_rebuild_104 : decode cX13_rebuild 104 = .ok (.invokevirtual 866, 3) := by decide +kernel
theorem dX13_rebuild_107 : decode cX13_rebuild 107 = .ok (.return_, 1) := by decide +kernel
theorem dX13_rebuild_108 : decode cX13_rebuild 108 = .ok (.aload_n 0, 1) := by decide +kernel
theorem dX13_rebuild_109 : decode cX13_rebuild 109 = .ok (.getfield 182, 3) := by decide +kernel
theorem dX13_rebuild_11 : decode cX13_rebuild 11 = .ok (.aload_n 0, 1) := by decide +kernel
theorem dX13_rebuild_112 : decode cX13_rebuild 112 = .ok (.iload_n 1, 1) := by decide +kernel
theorem dX13_rebuild_113 : decode cX13_rebuild 113 = .ok (.iconst 1, 1) := by decide +kernel
theorem dX13_rebuild_114 : decode cX13_rebuild 114 = .ok (.iadd, 1) := by decide +kernel
theorem dX13_rebuild_115 : decode cX13_rebuild 115 = .ok (.laload, 1) := by decide +kernel
theorem dX13_rebuild_116 : decode cX13_rebuild 116 = .ok (.l2i, 1) := by decide +kernel
theorem dX13_rebuild_117 : decode cX13_rebuild 117 = .ok (.istore 7, 2) := by decide +kernel
theorem dX13_rebuild_119 : decode cX13_rebuild 119 = .ok (.aload_n 0, 1) := by decide +kernel
theorem dX13_rebuild_12 : decode cX13_rebuild 12 = .ok (.getfield 182, 3) := by decide +kernel
theorem dX13_rebuild_120 : decode cX13_rebuild 120 = .ok (.getfield 339, 3) := by decide +kernel
theorem dX13_rebuild_123 : decode cX13_rebuild 123 = .ok (.iload_n 3, 1) := by decide +kernel
theorem dX13_rebuild_124 : decode cX13_rebuild 124 = .ok (.laload, 1) := by decide +kernel
theorem dX13_rebuild_125 : decode cX13_rebuild 125 = .ok (.lstore 8, 2) := by decide +kernel
theorem dX13_rebuild_127 : decode cX13_rebuild 127 = .ok (.iload 6, 2) := by decide +kernel
theorem dX13_rebuild_129 : decode cX13_rebuild 129 = .ok (.ifCond .eq 23, 3) := by decide +kernel
theorem dX13_rebuild_132 : decode cX13_rebuild 132 = .ok (.aload_n 0, 1) := by decide +kernel
theorem dX13_rebuild_133 : decode cX13_rebuild 133 = .ok (.getfield 182, 3) := by decide +kernel
theorem dX13_rebuild_136 : decode cX13_rebuild 136 = .ok (.iload 4, 2) := by decide +kernel
theorem dX13_rebuild_138 : decode cX13_rebuild 138 = .ok (.laload, 1) := by decide +kernel
theorem dX13_rebuild_139 : decode cX13_rebuild 139 = .ok (.ldc2_w 969, 3) := by decide +kernel
theorem dX13_rebuild_142 : decode cX13_rebuild 142 = .ok (.lcmp, 1) := by decide +kernel
theorem dX13_rebuild_143 : decode cX13_rebuild 143 = .ok (.ifCond .ne 9, 3) := by decide +kernel
theorem dX13_rebuild_146 : decode cX13_rebuild 146 = .ok (.aload_n 0, 1) := by decide +kernel
theorem dX13_rebuild_147 : decode cX13_rebuild 147 = .ok (.iconst 1, 1) := by decide +kernel
theorem dX13_rebuild_148 : decode cX13_rebuild 148 = .ok (.invokevirtual 866, 3) := by decide +kernel
theorem dX13_rebuild_15 : decode cX13_rebuild 15 = .ok (.iload_n 1, 1) := by decide +kernel
theorem dX13_rebuild_151 : decode cX13_rebuild 151 = .ok (.return_, 1) := by decide +kernel
theorem dX13_rebuild_152 : decode cX13_rebuild 152 = .ok (.lload 8, 2) := by decide +kernel
theorem dX13_rebuild_154 : decode cX13_rebuild 154 = .ok (.lconst 0, 1) := by decide +kernel
theorem dX13_rebuild_155 : decode cX13_rebuild 155 = .ok (.iload 6, 2) := by decide +kernel
theorem dX13_rebuild_157 : decode cX13_rebuild 157 = .ok (.ifCond .eq 9, 3) := by decide +kernel
theorem dX13_rebuild_16 : decode cX13_rebuild 16 = .ok (.laload, 1) := by decide +kernel
theorem dX13_rebuild_160 : decode cX13_rebuild 160 = .ok (.iload 7, 2) := by decide +kernel
theorem dX13_rebuild_162 : decode cX13_rebuild 162 = .ok (.i2l, 1) := by decide +kernel
theorem dX13_rebuild_163 : decode cX13_rebuild 163 = .ok (.goto 8, 3) := by decide +kernel
theorem dX13_rebuild_166 : decode cX13_rebuild 166 = .ok (.iload 7, 2) := by decide +kernel
theorem dX13_rebuild_168 : decode cX13_rebuild 168 = .ok (.iconst 1, 1) := by decide +kernel
theorem dX13_rebuild_169 : decode cX13_rebuild 169 = .ok (.isub, 1) := by decide +kernel
theorem dX13_rebuild_17 : decode cX13_rebuild 17 = .ok (.l2i, 1) := by decide +kernel
theorem dX13_rebuild_170 : decode cX13_rebuild 170 = .ok (.i2l, 1) := by decide +kernel
theorem dX13_rebuild_171 : decode cX13_rebuild 171 = .ok (.invokestatic 371, 3) := by decide +kernel
theorem dX13_rebuild_174 : decode cX13_rebuild 174 = .ok (.ifCond .ne 9, 3) := by decide +kernel
theorem dX13_rebuild_177 : decode cX13_rebuild 177 = .ok (.aload_n 0, 1) := by decide +kernel
theorem dX13_rebuild_178 : decode cX13_rebuild 178 = .ok (.iconst 2, 1) := by decide +kernel
theorem dX13_rebuild_179 : decode cX13_rebuild 179 = .ok (.invokevirtual 866, 3) := by decide +kernel
theorem dX13_rebuild_18 : decode cX13_rebuild 18 = .ok (.istore 5, 2) := by decide +kernel
theorem dX13_rebuild_182 : decode cX13_rebuild 182 = .ok (.return_, 1) := by decide +kernel
theorem dX13_rebuild_183 : decode cX13_rebuild 183 = .ok (.lload 8, 2) := by decide +kernel
theorem dX13_rebuild_185 : decode cX13_rebuild 185 = .ok (.iload 7, 2) := by decide +kernel
theorem dX13_rebuild_187 : decode cX13_rebuild 187 = .ok (.i2l, 1) := by decide +kernel
theorem dX13_rebuild_188 : decode cX13_rebuild 188 = .ok (.lcmp, 1) := by decide +kernel
theorem dX13_rebuild_189 : decode cX13_rebuild 189 = .ok (.ifCond .ne 16, 3) := by decide +kernel
theorem dX13_rebuild_192 : decode cX13_rebuild 192 = .ok (.iload 7, 2) := by decide +kernel
theorem dX13_rebuild_194 : decode cX13_rebuild 194 = .ok (.bipush 16, 2) := by decide +kernel
theorem dX13_rebuild_196 : decode cX13_rebuild 196 = .ok (.if_icmp .ne 9, 3) := by decide +kernel
theorem dX13_rebuild_199 : decode cX13_rebuild 199 = .ok (.aload_n 0, 1) := by decide +kernel
theorem dX13_rebuild_20 : decode cX13_rebuild 20 = .ok (.aload_n 0, 1) := by decide +kernel
theorem dX13_rebuild_200 : decode cX13_rebuild 200 = .ok (.iconst 3, 1) := by decide +kernel
theorem dX13_rebuild_201 : decode cX13_rebuild 201 = .ok (.invokevirtual 866, 3) := by decide +kernel
theorem dX13_rebuild_204 : decode cX13_rebuild 204 = .ok (.return_, 1) := by decide +kernel
theorem dX13_rebuild_205 : decode cX13_rebuild 205 = .ok (.aload_n 0, 1) := by decide +kernel
theorem dX13_rebuild_206 : decode cX13_rebuild 206 = .ok (.ldc2_w 951, 3) := by decide +kernel
theorem dX13_rebuild_209 : decode cX13_rebuild 209 = .ok (.invokevirtual 1419, 3) := by decide +kernel
theorem dX13_rebuild_21 : decode cX13_rebuild 21 = .ok (.getfield 42, 3) := by decide +kernel
theorem dX13_rebuild_212 : decode cX13_rebuild 212 = .ok (.aload_n 0, 1) := by decide +kernel
theorem dX13_rebuild_213 : decode cX13_rebuild 213 = .ok (.lload 8, 2) := by decide +kernel
theorem dX13_rebuild_215 : decode cX13_rebuild 215 = .ok (.iload 7, 2) := by decide +kernel
theorem dX13_rebuild_217 : decode cX13_rebuild 217 = .ok (.i2l, 1) := by decide +kernel
theorem dX13_rebuild_218 : decode cX13_rebuild 218 = .ok (.lcmp, 1) := by decide +kernel
theorem dX13_rebuild_219 : decode cX13_rebuild 219 = .ok (.ifCond .ne 11, 3) := by decide +kernel
theorem dX13_rebuild_222 : decode cX13_rebuild 222 = .ok (.iload 7, 2) := by decide +kernel
theorem dX13_rebuild_224 : decode cX13_rebuild 224 = .ok (.iconst 1, 1) := by decide +kernel
theorem dX13_rebuild_225 : decode cX13_rebuild 225 = .ok (.iadd, 1) := by decide +kernel
theorem dX13_rebuild_226 : decode cX13_rebuild 226 = .ok (.i2l, 1) := by decide +kernel
theorem dX13_rebuild_227 : decode cX13_rebuild 227 = .ok (.goto 6, 3) := by decide +kernel
theorem dX13_rebuild_230 : decode cX13_rebuild 230 = .ok (.iload 7, 2) := by decide +kernel
theorem dX13_rebuild_232 : decode cX13_rebuild 232 = .ok (.i2l, 1) := by decide +kernel
theorem dX13_rebuild_233 : decode cX13_rebuild 233 = .ok (.invokevirtual 1419, 3) := by decide +kernel
theorem dX13_rebuild_236 : decode cX13_rebuild 236 = .ok (.iconst 0, 1) := by decide +kernel
theorem dX13_rebuild_237 : decode cX13_rebuild 237 = .ok (.istore 10, 2) := by decide +kernel
theorem dX13_rebuild_239 : decode cX13_rebuild 239 = .ok (.iload 10, 2) := by decide +kernel
theorem dX13_rebuild_24 : decode cX13_rebuild 24 = .ok (.iload_n 2, 1) := by decide +kernel
theorem dX13_rebuild_241 : decode cX13_rebuild 241 = .ok (.iload 7, 2) := by decide +kernel
theorem dX13_rebuild_243 : decode cX13_rebuild 243 = .ok (.if_icmp .ge 53, 3) := by decide +kernel
theorem dX13_rebuild_246 : decode cX13_rebuild 246 = .ok (.iload 10, 2) := by decide +kernel
theorem dX13_rebuild_248 : decode cX13_rebuild 248 = .ok (.lload 8, 2) := by decide +kernel
theorem dX13_rebuild_25 : decode cX13_rebuild 25 = .ok (.iaload, 1) := by decide +kernel
theorem dX13_rebuild_250 : decode cX13_rebuild 250 = .ok (.l2i, 1) := by decide +kernel
theorem dX13_rebuild_251 : decode cX13_rebuild 251 = .ok (.if_icmp .ne 28, 3) := by decide +kernel
theorem dX13_rebuild_254 : decode cX13_rebuild 254 = .ok (.aload_n 0, 1) := by decide +kernel
theorem dX13_rebuild_255 : decode cX13_rebuild 255 = .ok (.aload_n 0, 1) := by decide +kernel
theorem dX13_rebuild_256 : decode cX13_rebuild 256 = .ok (.iload_n 1, 1) := by decide +kernel
theorem dX13_rebuild_257 : decode cX13_rebuild 257 = .ok (.iload 10, 2) := by decide +kernel
theorem dX13_rebuild_259 : decode cX13_rebuild 259 = .ok (.invokevirtual 855, 3) := by decide +kernel
theorem dX13_rebuild_26 : decode cX13_rebuild 26 = .ok (.ifCond .ge 7, 3) := by decide +kernel
theorem dX13_rebuild_262 : decode cX13_rebuild 262 = .ok (.aload_n 0, 1) := by decide +kernel
theorem dX13_rebuild_263 : decode cX13_rebuild 263 = .ok (.getfield 42, 3) := by decide +kernel
theorem dX13_rebuild_266 : decode cX13_rebuild 266 = .ok (.iload_n 2, 1) := by decide +kernel
theorem dX13_rebuild_267 : decode cX13_rebuild 267 = .ok (.iaload, 1) := by decide +kernel
theorem dX13_rebuild_268 : decode cX13_rebuild 268 = .ok (.iload_n 3, 1) := by decide +kernel
theorem dX13_rebuild_269 : decode cX13_rebuild 269 = .ok (.iconst 1, 1) := by decide +kernel
theorem dX13_rebuild_270 : decode cX13_rebuild 270 = .ok (.iadd, 1) := by decide +kernel
theorem dX13_rebuild_271 : decode cX13_rebuild 271 = .ok (.iload 4, 2) := by decide +kernel
theorem dX13_rebuild_273 : decode cX13_rebuild 273 = .ok (.invokestatic 1415, 3) := by decide +kernel
theorem dX13_rebuild_276 : decode cX13_rebuild 276 = .ok (.goto 14, 3) := by decide +kernel
theorem dX13_rebuild_279 : decode cX13_rebuild 279 = .ok (.aload_n 0, 1) := by decide +kernel
theorem dX13_rebuild_280 : decode cX13_rebuild 280 = .ok (.aload_n 0, 1) := by decide +kernel
theorem dX13_rebuild_281 : decode cX13_rebuild 281 = .ok (.iload_n 1, 1) := by decide +kernel
theorem dX13_rebuild_282 : decode cX13_rebuild 282 = .ok (.iload 10, 2) := by decide +kernel
theorem dX13_rebuild_284 : decode cX13_rebuild 284 = .ok (.invokevirtual 855, 3) := by decide +kernel
theorem dX13_rebuild_287 : decode cX13_rebuild 287 = .ok (.invokevirtual 1422, 3) := by decide +kernel
theorem dX13_rebuild_29 : decode cX13_rebuild 29 = .ok (.iconst 1, 1) := by decide +kernel
theorem dX13_rebuild_290 : decode cX13_rebuild 290 = .ok (.iinc 10 1, 3) := by decide +kernel
theorem dX13_rebuild_293 : decode cX13_rebuild 293 = .ok (.goto (-54), 3) := by decide +kernel
theorem dX13_rebuild_296 : decode cX13_rebuild 296 = .ok (.lload 8, 2) := by decide +kernel
theorem dX13_rebuild_298 : decode cX13_rebuild 298 = .ok (.iload 7, 2) := by decide +kernel
theorem dX13_rebuild_30 : decode cX13_rebuild 30 = .ok (.goto 4, 3) := by decide +kernel
theorem dX13_rebuild_300 : decode cX13_rebuild 300 = .ok (.i2l, 1) := by decide +kernel
theorem dX13_rebuild_301 : decode cX13_rebuild 301 = .ok (.lcmp, 1) := by decide +kernel
theorem dX13_rebuild_302 : decode cX13_rebuild 302 = .ok (.ifCond .ne 9, 3) := by decide +kernel
theorem dX13_rebuild_305 : decode cX13_rebuild 305 = .ok (.aload_n 0, 1) := by decide +kernel
theorem dX13_rebuild_306 : decode cX13_rebuild 306 = .ok (.iload 4, 2) := by decide +kernel
theorem dX13_rebuild_308 : decode cX13_rebuild 308 = .ok (.invokevirtual 1422, 3) := by decide +kernel
theorem dX13_rebuild_311 : decode cX13_rebuild 311 = .ok (.return_, 1) := by decide +kernel
theorem dX13_rebuild_33 : decode cX13_rebuild 33 = .ok (.iconst 0, 1) := by decide +kernel
theorem dX13_rebuild_34 : decode cX13_rebuild 34 = .ok (.istore 6, 2) := by decide +kernel
theorem dX13_rebuild_36 : decode cX13_rebuild 36 = .ok (.aload_n 0, 1) := by decide +kernel
theorem dX13_rebuild_37 : decode cX13_rebuild 37 = .ok (.getfield 26, 3) := by decide +kernel
theorem dX13_rebuild_4 : decode cX13_rebuild 4 = .ok (.aload_n 0, 1) := by decide +kernel
theorem dX13_rebuild_40 : decode cX13_rebuild 40 = .ok (.iload_n 2, 1) := by decide +kernel
theorem dX13_rebuild_41 : decode cX13_rebuild 41 = .ok (.iaload, 1) := by decide +kernel
theorem dX13_rebuild_42 : decode cX13_rebuild 42 = .ok (.bipush 68, 2) := by decide +kernel
theorem dX13_rebuild_44 : decode cX13_rebuild 44 = .ok (.if_icmp .ne 51, 3) := by decide +kernel
theorem dX13_rebuild_47 : decode cX13_rebuild 47 = .ok (.iload 5, 2) := by decide +kernel
theorem dX13_rebuild_49 : decode cX13_rebuild 49 = .ok (.bipush 7, 2) := by decide +kernel
theorem dX13_rebuild_5 : decode cX13_rebuild 5 = .ok (.iload 4, 2) := by decide +kernel
theorem dX13_rebuild_51 : decode cX13_rebuild 51 = .ok (.if_icmp .ne 17, 3) := by decide +kernel
theorem dX13_rebuild_54 : decode cX13_rebuild 54 = .ok (.aload_n 0, 1) := by decide +kernel
theorem dX13_rebuild_55 : decode cX13_rebuild 55 = .ok (.iload_n 1, 1) := by decide +kernel
theorem dX13_rebuild_56 : decode cX13_rebuild 56 = .ok (.iload_n 2, 1) := by decide +kernel
theorem dX13_rebuild_57 : decode cX13_rebuild 57 = .ok (.iload_n 3, 1) := by decide +kernel
theorem dX13_rebuild_58 : decode cX13_rebuild 58 = .ok (.iload 4, 2) := by decide +kernel
theorem dX13_rebuild_60 : decode cX13_rebuild 60 = .ok (.iload 6, 2) := by decide +kernel
theorem dX13_rebuild_62 : decode cX13_rebuild 62 = .ok (.invokestatic 1425, 3) := by decide +kernel
theorem dX13_rebuild_65 : decode cX13_rebuild 65 = .ok (.goto 29, 3) := by decide +kernel
theorem dX13_rebuild_68 : decode cX13_rebuild 68 = .ok (.iload 5, 2) := by decide +kernel
theorem dX13_rebuild_7 : decode cX13_rebuild 7 = .ok (.invokevirtual 1422, 3) := by decide +kernel
theorem dX13_rebuild_70 : decode cX13_rebuild 70 = .ok (.bipush 6, 2) := by decide +kernel
theorem dX13_rebuild_72 : decode cX13_rebuild 72 = .ok (.if_icmp .ne 17, 3) := by decide +kernel
theorem dX13_rebuild_75 : decode cX13_rebuild 75 = .ok (.aload_n 0, 1) := by decide +kernel
theorem dX13_rebuild_76 : decode cX13_rebuild 76 = .ok (.iload_n 1, 1) := by decide +kernel
theorem dX13_rebuild_77 : decode cX13_rebuild 77 = .ok (.iload_n 2, 1) := by decide +kernel
theorem dX13_rebuild_78 : decode cX13_rebuild 78 = .ok (.iload_n 3, 1) := by decide +kernel
theorem dX13_rebuild_79 : decode cX13_rebuild 79 = .ok (.iload 4, 2) := by decide +kernel
theorem dX13_rebuild_81 : decode cX13_rebuild 81 = .ok (.iload 6, 2) := by decide +kernel
theorem dX13_rebuild_83 : decode cX13_rebuild 83 = .ok (.invokestatic 1429, 3) := by decide +kernel
theorem dX13_rebuild_86 : decode cX13_rebuild 86 = .ok (.goto 8, 3) := by decide +kernel
theorem dX13_rebuild_89 : decode cX13_rebuild 89 = .ok (.aload_n 0, 1) := by decide +kernel
theorem dX13_rebuild_90 : decode cX13_rebuild 90 = .ok (.iconst 1, 1) := by decide +kernel
theorem dX13_rebuild_91 : decode cX13_rebuild 91 = .ok (.invokevirtual 866, 3) := by decide +kernel
theorem dX13_rebuild_94 : decode cX13_rebuild 94 = .ok (.return_, 1) := by decide +kernel
theorem dX13_rebuild_95 : decode cX13_rebuild 95 = .ok (.iload 5, 2) := by decide +kernel
theorem dX13_rebuild_97 : decode cX13_rebuild 97 = .ok (.bipush 8, 2) := by decide +kernel
theorem dX13_rebuild_99 : decode cX13_rebuild 99 = .ok (.if_icmp .eq 9, 3) := by decide +kernel
abbrev RT_X13_rebuild : Type := (Int32 → Int32 → Int32 → Int32 → t_S → Option (t_S)) × (Int32 → Int32 → Int32 → Int32 → Int32 → t_S → Option (t_S)) × (Int32 → Int32 → Int32 → Int32 → Int32 → t_S → Option (t_S))
def RH_X13_rebuild (rc : RT_X13_rebuild) (k : Nat) : Prop := (∀ (x2 : Int32) (x3 : Int32) (x4 : Int32) (x5 : Int32) (s : t_S) (r : t_S), rc.1 x2 x3 x4 x5 s = some r → t_C yX13_rebuild cX13_rebuild 11 none (4 + k) [.ref 950, .int x2, .int x3, .int x4, .int x5] s (fun v s' => v = none ∧ s' = r)) ∧ (∀ (x2 : Int32) (x3 : Int32) (x4 : Int32) (x5 : Int32) (x6 : Int32) (s : t_S) (r : t_S), rc.2.1 x2 x3 x4 x5 x6 s = some r → t_C yX13_rebuildChoice cX13_rebuildChoice 6 none (4 + k) [.ref 950, .int x2, .int x3, .int x4, .int x5, .int x6] s (fun v s' => v = none ∧ s' = r)) ∧ (∀ (x2 : Int32) (x3 : Int32) (x4 : Int32) (x5 : Int32) (x6 : Int32) (s : t_S) (r : t_S), rc.2.2 x2 x3 x4 x5 x6 s = some r → t_C yX13_rebuildRecord cX13_rebuildRecord 15 none (4 + k) [.ref 950, .int x2, .int x3, .int x4, .int x5, .int x6] s (fun v s' => v = none ∧ s' = r))
noncomputable def k_X13_rebuild_290 (rc : RT_X13_rebuild) (l1 : Int32) (l2 : Int32) (l3 : Int32) (l4 : Int32) (l7 : Int32) (l8 : Int64) (l10 : Int32) (s : t_S) : Option ((Int32 × Int32 × Int32 × Int32 × Int32 × Int64 × Int32 × t_S) ⊕ (t_S)) :=
 some (.inl (l1, l2, l3, l4, l7, l8, (l10 + 1), s))
set_option maxRecDepth 4000 in
set_option maxHeartbeats 1000000 in
theorem B_X13_rebuild_290 {D : va_G} {cy : Nat → ClassId} {ad : Nat → Nat} {bs : Nat} {X : State → Heap → Prop} (rc : RT_X13_rebuild) {k : Nat} (H : RH_X13_rebuild rc k) (l1 : Int32) (l2 : Int32) (l3 : Int32) (l4 : Int32) (l7 : Int32) (l8 : Int64) (l10 : Int32) (s : t_S) (Q : (Int32 × Int32 × Int32 × Int32 × Int32 × Int64 × Int32 × t_S) ⊕ (t_S) → Prop) (Hb239 : ∀ (y0 : Int32) (y1 : Int32) (y2 : Int32) (y3 : Int32) (y4 : Int32) (y5 : Int64) (y6 : Int32) (y7 : t_S), Q (.inl (y0, y1, y2, y3, y4, y5, y6, y7)) → mj_G D cy ad bs X cX13_rebuild 11 yX13_rebuild.cls none yX13_rebuild.name (4 + (k + 1)) 0 0 1065 (t_P (fun v s' => v = none ∧ Q (.inr (s')))) 239 [(0, .ref 950), (1, .int (y0)), (2, .int (y1)), (3, .int (y2)), (4, .int (y3)), (7, .int (y4)), (8, .long (y5)), (10, .int (y6))] [] (t_m y7) 1065 0 0) (hk : t_hk (k_X13_rebuild_290 rc l1 l2 l3 l4 l7 l8 l10 s) Q) : mj_G D cy ad bs X cX13_rebuild 11 yX13_rebuild.cls none yX13_rebuild.name (4 + (k + 1)) 0 0 1065 (t_P (fun v s' => v = none ∧ Q (.inr (s')))) 290 [(0, .ref 950), (1, .int l1), (2, .int l2), (3, .int l3), (4, .int l4), (7, .int l7), (8, .long l8), (10, .int l10)] [] (t_m s) 1065 0 0 := by
  refine mj_iinc (k := 7) (v := (l10 + 1)) (lv2 := [(10, .int (l10 + 1)), (0, .ref 950), (1, .int l1), (2, .int l2), (3, .int l3), (4, .int l4), (7, .int l7), (8, .long l8)]) dX13_rebuild_290 rfl rfl (by decide) rfl ?_
  refine mj_goto 239 dX13_rebuild_293 (by decide) ?_
  refine mj_sublv [(0, .ref 950), (1, .int l1), (2, .int l2), (3, .int l3), (4, .int l4), (7, .int l7), (8, .long l8), (10, .int (l10 + 1))] [1, 2, 3, 4, 5, 6, 7, 0] rfl ?_
  exact t_somK hk (fun hf => Hb239 l1 l2 l3 l4 l7 l8 (l10 + 1) s hf)
noncomputable def k_X13_rebuild_239 (rc : RT_X13_rebuild) (l1 : Int32) (l2 : Int32) (l3 : Int32) (l4 : Int32) (l7 : Int32) (l8 : Int64) (l10 : Int32) (s : t_S) : Option ((Int32 × Int32 × Int32 × Int32 × Int32 × Int64 × Int32 × t_S) ⊕ (t_S)) :=
 if l7 ≤ l10 then ((if (lg_cmp l8 l7.toInt64) = (0 : Int32) then ((f_X13_addValue l4 s).bind (fun r1 =>
 some (r1)))
 else (some (s))).map Sum.inr)
 else (if l10 = l8.toInt32 then ((f_X13_partOf l1 l10 s).bind (fun r4 =>
 if t_ix l2 13000 = true then
  (rc.1 r4 (s.1 960 (l2.toNatClampNeg)) (l3 + (1 : Int32)) l4 s).bind (fun r6 =>
 k_X13_rebuild_290 rc l1 l2 l3 l4 l7 l8 l10 r6)
else none))
 else ((f_X13_partOf l1 l10 s).bind (fun r2 =>
 (f_X13_addValue r2 s).bind (fun r3 =>
 k_X13_rebuild_290 rc l1 l2 l3 l4 l7 l8 l10 r3))))
set_option maxRecDepth 4000 in
set_option maxHeartbeats 1000000 in
theorem B_X13_rebuild_239 {D : va_G} {cy : Nat → ClassId} {ad : Nat → Nat} {bs : Nat} {X : State → Heap → Prop} (rc : RT_X13_rebuild) {k : Nat} (H : RH_X13_rebuild rc k) (l1 : Int32) (l2 : Int32) (l3 : Int32) (l4 : Int32) (l7 : Int32) (l8 : Int64) (l10 : Int32) (s : t_S) (Q : (Int32 × Int32 × Int32 × Int32 × Int32 × Int64 × Int32 × t_S) ⊕ (t_S) → Prop) (Hb239 : ∀ (y0 : Int32) (y1 : Int32) (y2 : Int32) (y3 : Int32) (y4 : Int32) (y5 : Int64) (y6 : Int32) (y7 : t_S), Q (.inl (y0, y1, y2, y3, y4, y5, y6, y7)) → mj_G D cy ad bs X cX13_rebuild 11 yX13_rebuild.cls none yX13_rebuild.name (4 + (k + 1)) 0 0 1065 (t_P (fun v s' => v = none ∧ Q (.inr (s')))) 239 [(0, .ref 950), (1, .int (y0)), (2, .int (y1)), (3, .int (y2)), (4, .int (y3)), (7, .int (y4)), (8, .long (y5)), (10, .int (y6))] [] (t_m y7) 1065 0 0) (hk : t_hk (k_X13_rebuild_239 rc l1 l2 l3 l4 l7 l8 l10 s) Q) : mj_G D cy ad bs X cX13_rebuild 11 yX13_rebuild.cls none yX13_rebuild.name (4 + (k + 1)) 0 0 1065 (t_P (fun v s' => v = none ∧ Q (.inr (s')))) 239 [(0, .ref 950), (1, .int l1), (2, .int l2), (3, .int l3), (4, .int l4), (7, .int l7), (8, .long l8), (10, .int l10)] [] (t_m s) 1065 0 0 := by
  refine mj_iload dX13_rebuild_239 7 rfl ?_
  refine mj_iload dX13_rebuild_241 5 rfl ?_
  refine mj_icmp_ge 296 dX13_rebuild_243 (by decide) (fun z => t_posK hk z (fun hk => ?_)) (fun z => t_negK hk z (fun hk => ?_))
  · refine t_mapK hk (fun hk => ?_)
    refine mj_lload dX13_rebuild_296 6 rfl ?_
    refine mj_iload dX13_rebuild_298 5 rfl ?_
    refine mj_i2l (v := l7.toInt64) dX13_rebuild_300 rfl ?_
    refine mj_lcmp dX13_rebuild_301 ?_
    refine mj_if_ne 311 dX13_rebuild_302 (by decide) (fun z => t_negK hk z (fun hk => ?_)) (fun z => t_posK hk z (fun hk => ?_))
    · exact t_somK hk (fun hf => t_vret dX13_rebuild_311 rfl ⟨rfl, hf⟩ (Nat.le_of_ble_eq_true rfl) (Nat.le_of_ble_eq_true rfl))
    · refine mj_aload_n dX13_rebuild_305 0 rfl ?_
      refine mj_iload dX13_rebuild_306 4 rfl ?_
      refine t_bndK hk (fun r1 er1 hk => ?_)
      refine t_callVvE dX13_rebuild_308 M_X13_addValue (C_X13_addValue _ _ _ er1) ML_X13_1422 IM_X13_addValue SE_X13_addValue qc_950 rfl (As := [.int l4]) rfl rfl (by omega) (Nat.le_of_ble_eq_true rfl) (Nat.le_of_ble_eq_true rfl) (Nat.le_of_ble_eq_true rfl) ?_
      exact t_somK hk (fun hf => t_vret dX13_rebuild_311 rfl ⟨rfl, hf⟩ (Nat.le_of_ble_eq_true rfl) (Nat.le_of_ble_eq_true rfl))
  · refine mj_iload dX13_rebuild_246 7 rfl ?_
    refine mj_lload dX13_rebuild_248 6 rfl ?_
    refine mj_l2i (v := l8.toInt32) dX13_rebuild_250 rfl ?_
    refine mj_icmp_ne 279 dX13_rebuild_251 (by decide) (fun z => t_negK hk z (fun hk => ?_)) (fun z => t_posK hk z (fun hk => ?_))
    · refine mj_aload_n dX13_rebuild_279 0 rfl ?_
      refine mj_aload_n dX13_rebuild_280 0 rfl ?_
      refine mj_iload_n dX13_rebuild_281 1 rfl ?_
      refine mj_iload dX13_rebuild_282 7 rfl ?_
      refine t_bndK hk (fun r2 er2 hk => ?_)
      refine t_callViP dX13_rebuild_284 M_X13_partOf (C_X13_partOf _ _ _ _ er2) ML_X13_855 IM_X13_partOf SE_X13_partOf qc_950 rfl (As := [.int l1, .int l10]) rfl rfl (by omega) (Nat.le_of_ble_eq_true rfl) (Nat.le_of_ble_eq_true rfl) (Nat.le_of_ble_eq_true rfl) ?_
      refine t_bndK hk (fun r3 er3 hk => ?_)
      refine t_callVvE dX13_rebuild_287 M_X13_addValue (C_X13_addValue _ _ _ er3) ML_X13_1422 IM_X13_addValue SE_X13_addValue qc_950 rfl (As := [.int r2]) rfl rfl (by omega) (Nat.le_of_ble_eq_true rfl) (Nat.le_of_ble_eq_true rfl) (Nat.le_of_ble_eq_true rfl) ?_
      exact B_X13_rebuild_290 rc H _ _ _ _ _ _ _ _ _ (fun y0 y1 y2 y3 y4 y5 y6 y7 hx => Hb239 y0 y1 y2 y3 y4 y5 y6 y7 hx) hk
    · refine mj_aload_n dX13_rebuild_254 0 rfl ?_
      refine mj_aload_n dX13_rebuild_255 0 rfl ?_
      refine mj_iload_n dX13_rebuild_256 1 rfl ?_
      refine mj_iload dX13_rebuild_257 7 rfl ?_
      refine t_bndK hk (fun r4 er4 hk => ?_)
      refine t_callViP dX13_rebuild_259 M_X13_partOf (C_X13_partOf _ _ _ _ er4) ML_X13_855 IM_X13_partOf SE_X13_partOf qc_950 rfl (As := [.int l1, .int l10]) rfl rfl (by omega) (Nat.le_of_ble_eq_true rfl) (Nat.le_of_ble_eq_true rfl) (Nat.le_of_ble_eq_true rfl) ?_
      refine mj_aload_n dX13_rebuild_262 0 rfl ?_
      refine t_getR 960 dX13_rebuild_263 F_X13_42 qr_950_22 ?_
      refine mj_iload_n dX13_rebuild_266 2 rfl ?_
      refine t_chkK hk (fun c4 hk => ?_)
      refine t_iald dX13_rebuild_267 qa_960 (t_ixv c4) ?_
      refine mj_iload_n dX13_rebuild_268 3 rfl ?_
      refine mj_iconst (v := 1) dX13_rebuild_269 (by decide) ?_
      refine mj_iadd dX13_rebuild_270 ?_
      refine mj_iload dX13_rebuild_271 4 rfl ?_
      refine t_bndK hk (fun r6 er6 hk => ?_)
      refine t_callSvE dX13_rebuild_273 M_X13_rebuild (H.1 _ _ _ _ _ _ er6) ML_X13_1415 SM_X13_rebuild (As := [.ref 950, .int r4, .int (s.1 960 (l2.toNatClampNeg)), .int (l3 + (1 : Int32)), .int l4]) rfl rfl (by omega) (Nat.le_of_ble_eq_true rfl) (Nat.le_of_ble_eq_true rfl) (Nat.le_of_ble_eq_true rfl) ?_
      refine mj_goto 290 dX13_rebuild_276 (by decide) ?_
      exact B_X13_rebuild_290 rc H _ _ _ _ _ _ _ _ _ (fun y0 y1 y2 y3 y4 y5 y6 y7 hx => Hb239 y0 y1 y2 y3 y4 y5 y6 y7 hx) hk
noncomputable def b_X13_rebuild_239 (rc : RT_X13_rebuild) (x : Int32 × Int32 × Int32 × Int32 × Int32 × Int64 × Int32 × t_S) : Option ((Int32 × Int32 × Int32 × Int32 × Int32 × Int64 × Int32 × t_S) ⊕ (t_S)) := k_X13_rebuild_239 rc x.1 x.2.1 x.2.2.1 x.2.2.2.1 x.2.2.2.2.1 x.2.2.2.2.2.1 x.2.2.2.2.2.2.1 x.2.2.2.2.2.2.2
set_option maxRecDepth 4000 in
set_option maxHeartbeats 1000000 in
theorem LH_X13_rebuild_239 {D : va_G} {cy : Nat → ClassId} {ad : Nat → Nat} {bs : Nat} {X : State → Heap → Prop} (rc : RT_X13_rebuild) {k : Nat} (H : RH_X13_rebuild rc k) : ∀ (n : Nat) (y0 : Int32) (y1 : Int32) (y2 : Int32) (y3 : Int32) (y4 : Int32) (y5 : Int64) (y6 : Int32) (y7 : t_S) (Q : t_S → Prop) (hk : t_hk (t_loop (b_X13_rebuild_239 rc) n (y0, y1, y2, y3, y4, y5, y6, y7)) Q), mj_G D cy ad bs X cX13_rebuild 11 yX13_rebuild.cls none yX13_rebuild.name (4 + (k + 1)) 0 0 1065 (t_P (fun v s' => v = none ∧ Q (s'))) 239 [(0, .ref 950), (1, .int (y0)), (2, .int (y1)), (3, .int (y2)), (4, .int (y3)), (7, .int (y4)), (8, .long (y5)), (10, .int (y6))] [] (t_m y7) 1065 0 0 := by
  intro n
  induction n with
  | zero => intro y0 y1 y2 y3 y4 y5 y6 y7 Q hk; obtain ⟨r, hr, _⟩ := hk; cases hr
  | succ n ih =>
    intro y0 y1 y2 y3 y4 y5 y6 y7 Q hk
    exact B_X13_rebuild_239 rc H y0 y1 y2 y3 y4 y5 y6 y7 (fun y => t_lq (b_X13_rebuild_239 rc) n Q y) (fun y0' y1' y2' y3' y4' y5' y6' y7' hy => ih y0' y1' y2' y3' y4' y5' y6' y7' Q hy) (t_lp (b := b_X13_rebuild_239 rc) (n := n) (x := (y0, y1, y2, y3, y4, y5, y6, y7)) hk)
noncomputable def k_X13_rebuild_233 (rc : RT_X13_rebuild) (l1 : Int32) (l2 : Int32) (l3 : Int32) (l4 : Int32) (l7 : Int32) (l8 : Int64) (k0 : Int64) (s : t_S) : Option (t_S) :=
 (f_X13_add k0 s).bind (fun r1 =>
 t_loop (b_X13_rebuild_239 rc) t_N (l1, l2, l3, l4, l7, l8, 0, r1))
set_option maxRecDepth 4000 in
set_option maxHeartbeats 1000000 in
theorem B_X13_rebuild_233 {D : va_G} {cy : Nat → ClassId} {ad : Nat → Nat} {bs : Nat} {X : State → Heap → Prop} (rc : RT_X13_rebuild) {k : Nat} (H : RH_X13_rebuild rc k) (l1 : Int32) (l2 : Int32) (l3 : Int32) (l4 : Int32) (l7 : Int32) (l8 : Int64) (k0 : Int64) (s : t_S) (Q : t_S → Prop) (hk : t_hk (k_X13_rebuild_233 rc l1 l2 l3 l4 l7 l8 k0 s) Q) : mj_G D cy ad bs X cX13_rebuild 11 yX13_rebuild.cls none yX13_rebuild.name (4 + (k + 1)) 0 0 1065 (t_P (fun v s' => v = none ∧ Q (s'))) 233 [(0, .ref 950), (1, .int l1), (2, .int l2), (3, .int l3), (4, .int l4), (7, .int l7), (8, .long l8)] [.long k0, .ref 950] (t_m s) 1065 0 0 := by
  refine t_bndK hk (fun r1 er1 hk => ?_)
  refine t_callVvE dX13_rebuild_233 M_X13_add (C_X13_add _ _ _ er1) ML_X13_1419 IM_X13_add SE_X13_add qc_950 rfl (As := [.long k0]) rfl rfl (by omega) (Nat.le_of_ble_eq_true rfl) (Nat.le_of_ble_eq_true rfl) (Nat.le_of_ble_eq_true rfl) ?_
  refine mj_iconst (v := 0) dX13_rebuild_236 (by decide) ?_
  refine mj_istore (lv2 := [(10, .int 0), (0, .ref 950), (1, .int l1), (2, .int l2), (3, .int l3), (4, .int l4), (7, .int l7), (8, .long l8)]) dX13_rebuild_237 (by decide) rfl ?_
  refine mj_sublv [(0, .ref 950), (1, .int l1), (2, .int l2), (3, .int l3), (4, .int l4), (7, .int l7), (8, .long l8), (10, .int 0)] [1, 2, 3, 4, 5, 6, 7, 0] rfl ?_
  exact LH_X13_rebuild_239 rc H _ l1 l2 l3 l4 l7 l8 0 r1 _ hk
noncomputable def k_X13_rebuild_205 (rc : RT_X13_rebuild) (l1 : Int32) (l2 : Int32) (l3 : Int32) (l4 : Int32) (l7 : Int32) (l8 : Int64) (s : t_S) : Option (t_S) :=
 (f_X13_add (8 : Int64) s).bind (fun r1 =>
 if (lg_cmp l8 l7.toInt64) = (0 : Int32) then (k_X13_rebuild_233 rc l1 l2 l3 l4 l7 l8 ((l7 + (1 : Int32)).toInt64) r1)
 else (k_X13_rebuild_233 rc l1 l2 l3 l4 l7 l8 l7.toInt64 r1))
set_option maxRecDepth 4000 in
set_option maxHeartbeats 1000000 in
theorem B_X13_rebuild_205 {D : va_G} {cy : Nat → ClassId} {ad : Nat → Nat} {bs : Nat} {X : State → Heap → Prop} (rc : RT_X13_rebuild) {k : Nat} (H : RH_X13_rebuild rc k) (l1 : Int32) (l2 : Int32) (l3 : Int32) (l4 : Int32) (l7 : Int32) (l8 : Int64) (s : t_S) (Q : t_S → Prop) (hk : t_hk (k_X13_rebuild_205 rc l1 l2 l3 l4 l7 l8 s) Q) : mj_G D cy ad bs X cX13_rebuild 11 yX13_rebuild.cls none yX13_rebuild.name (4 + (k + 1)) 0 0 1065 (t_P (fun v s' => v = none ∧ Q (s'))) 205 [(0, .ref 950), (1, .int l1), (2, .int l2), (3, .int l3), (4, .int l4), (7, .int l7), (8, .long l8)] [] (t_m s) 1065 0 0 := by
  refine mj_aload_n dX13_rebuild_205 0 rfl ?_
  refine mj_ldc2 dX13_rebuild_206 K_X13_951 ?_
  refine t_bndK hk (fun r1 er1 hk => ?_)
  refine t_callVvE dX13_rebuild_209 M_X13_add (C_X13_add _ _ _ er1) ML_X13_1419 IM_X13_add SE_X13_add qc_950 rfl (As := [.long 8]) rfl rfl (by omega) (Nat.le_of_ble_eq_true rfl) (Nat.le_of_ble_eq_true rfl) (Nat.le_of_ble_eq_true rfl) ?_
  refine mj_aload_n dX13_rebuild_212 0 rfl ?_
  refine mj_lload dX13_rebuild_213 6 rfl ?_
  refine mj_iload dX13_rebuild_215 5 rfl ?_
  refine mj_i2l (v := l7.toInt64) dX13_rebuild_217 rfl ?_
  refine mj_lcmp dX13_rebuild_218 ?_
  refine mj_if_ne 230 dX13_rebuild_219 (by decide) (fun z => t_negK hk z (fun hk => ?_)) (fun z => t_posK hk z (fun hk => ?_))
  · refine mj_iload dX13_rebuild_230 5 rfl ?_
    refine mj_i2l (v := l7.toInt64) dX13_rebuild_232 rfl ?_
    exact B_X13_rebuild_233 rc H _ _ _ _ _ _ _ _ _ hk
  · refine mj_iload dX13_rebuild_222 5 rfl ?_
    refine mj_iconst (v := 1) dX13_rebuild_224 (by decide) ?_
    refine mj_iadd dX13_rebuild_225 ?_
    refine mj_i2l (v := (l7 + (1 : Int32)).toInt64) dX13_rebuild_226 rfl ?_
    refine mj_goto 233 dX13_rebuild_227 (by decide) ?_
    exact B_X13_rebuild_233 rc H _ _ _ _ _ _ _ _ _ hk
noncomputable def k_X13_rebuild_171 (rc : RT_X13_rebuild) (l1 : Int32) (l2 : Int32) (l3 : Int32) (l4 : Int32) (l7 : Int32) (l8 : Int64) (k0 : Int64) (k1 : Int64) (k2 : Int64) (s : t_S) : Option (t_S) :=
 if (f_X13_in k2 k1 k0 s) = (0 : Int32) then ((f_X13_error (2 : Int32) s).bind (fun r3 =>
 some (r3)))
 else (if (lg_cmp l8 l7.toInt64) = (0 : Int32) then (if l7 = (16 : Int32) then ((f_X13_error (3 : Int32) s).bind (fun r2 =>
 some (r2)))
 else (k_X13_rebuild_205 rc l1 l2 l3 l4 l7 l8 s))
 else (k_X13_rebuild_205 rc l1 l2 l3 l4 l7 l8 s))
set_option maxRecDepth 4000 in
set_option maxHeartbeats 1000000 in
theorem B_X13_rebuild_171 {D : va_G} {cy : Nat → ClassId} {ad : Nat → Nat} {bs : Nat} {X : State → Heap → Prop} (rc : RT_X13_rebuild) {k : Nat} (H : RH_X13_rebuild rc k) (l1 : Int32) (l2 : Int32) (l3 : Int32) (l4 : Int32) (l7 : Int32) (l8 : Int64) (k0 : Int64) (k1 : Int64) (k2 : Int64) (s : t_S) (Q : t_S → Prop) (hk : t_hk (k_X13_rebuild_171 rc l1 l2 l3 l4 l7 l8 k0 k1 k2 s) Q) : mj_G D cy ad bs X cX13_rebuild 11 yX13_rebuild.cls none yX13_rebuild.name (4 + (k + 1)) 0 0 1065 (t_P (fun v s' => v = none ∧ Q (s'))) 171 [(0, .ref 950), (1, .int l1), (2, .int l2), (3, .int l3), (4, .int l4), (7, .int l7), (8, .long l8)] [.long k0, .long k1, .long k2] (t_m s) 1065 0 0 := by
  refine t_callSiP dX13_rebuild_171 M_X13_in (C_X13_in _ _ _ _) ML_X13_371 SM_X13_in (As := [.long k2, .long k1, .long k0]) rfl rfl (by omega) (Nat.le_of_ble_eq_true rfl) (Nat.le_of_ble_eq_true rfl) (Nat.le_of_ble_eq_true rfl) ?_
  refine mj_if_ne 183 dX13_rebuild_174 (by decide) (fun z => t_negK hk z (fun hk => ?_)) (fun z => t_posK hk z (fun hk => ?_))
  · refine mj_lload dX13_rebuild_183 6 rfl ?_
    refine mj_iload dX13_rebuild_185 5 rfl ?_
    refine mj_i2l (v := l7.toInt64) dX13_rebuild_187 rfl ?_
    refine mj_lcmp dX13_rebuild_188 ?_
    refine mj_if_ne 205 dX13_rebuild_189 (by decide) (fun z => t_negK hk z (fun hk => ?_)) (fun z => t_posK hk z (fun hk => ?_))
    · exact B_X13_rebuild_205 rc H _ _ _ _ _ _ _ _ hk
    · refine mj_iload dX13_rebuild_192 5 rfl ?_
      refine mj_bipush (v := 16) dX13_rebuild_194 (by decide) ?_
      refine mj_icmp_ne 205 dX13_rebuild_196 (by decide) (fun z => t_negK hk z (fun hk => ?_)) (fun z => t_posK hk z (fun hk => ?_))
      · exact B_X13_rebuild_205 rc H _ _ _ _ _ _ _ _ hk
      · refine mj_aload_n dX13_rebuild_199 0 rfl ?_
        refine mj_iconst (v := 3) dX13_rebuild_200 (by decide) ?_
        refine t_bndK hk (fun r2 er2 hk => ?_)
        refine t_callVvE dX13_rebuild_201 M_X13_error (C_X13_error _ _ _ er2) ML_X13_866 IM_X13_error SE_X13_error qc_950 rfl (As := [.int 3]) rfl rfl (by omega) (Nat.le_of_ble_eq_true rfl) (Nat.le_of_ble_eq_true rfl) (Nat.le_of_ble_eq_true rfl) ?_
        exact t_somK hk (fun hf => t_vret dX13_rebuild_204 rfl ⟨rfl, hf⟩ (Nat.le_of_ble_eq_true rfl) (Nat.le_of_ble_eq_true rfl))
  · refine mj_aload_n dX13_rebuild_177 0 rfl ?_
    refine mj_iconst (v := 2) dX13_rebuild_178 (by decide) ?_
    refine t_bndK hk (fun r3 er3 hk => ?_)
    refine t_callVvE dX13_rebuild_179 M_X13_error (C_X13_error _ _ _ er3) ML_X13_866 IM_X13_error SE_X13_error qc_950 rfl (As := [.int 2]) rfl rfl (by omega) (Nat.le_of_ble_eq_true rfl) (Nat.le_of_ble_eq_true rfl) (Nat.le_of_ble_eq_true rfl) ?_
    exact t_somK hk (fun hf => t_vret dX13_rebuild_182 rfl ⟨rfl, hf⟩ (Nat.le_of_ble_eq_true rfl) (Nat.le_of_ble_eq_true rfl))
noncomputable def k_X13_rebuild_152 (rc : RT_X13_rebuild) (l1 : Int32) (l2 : Int32) (l3 : Int32) (l4 : Int32) (l6 : Int32) (l7 : Int32) (l8 : Int64) (s : t_S) : Option (t_S) :=
 if l6 = (0 : Int32) then (k_X13_rebuild_171 rc l1 l2 l3 l4 l7 l8 ((l7 - (1 : Int32)).toInt64) 0 l8 s)
 else (k_X13_rebuild_171 rc l1 l2 l3 l4 l7 l8 l7.toInt64 0 l8 s)
set_option maxRecDepth 4000 in
set_option maxHeartbeats 1000000 in
theorem B_X13_rebuild_152 {D : va_G} {cy : Nat → ClassId} {ad : Nat → Nat} {bs : Nat} {X : State → Heap → Prop} (rc : RT_X13_rebuild) {k : Nat} (H : RH_X13_rebuild rc k) (l1 : Int32) (l2 : Int32) (l3 : Int32) (l4 : Int32) (l6 : Int32) (l7 : Int32) (l8 : Int64) (s : t_S) (Q : t_S → Prop) (hk : t_hk (k_X13_rebuild_152 rc l1 l2 l3 l4 l6 l7 l8 s) Q) : mj_G D cy ad bs X cX13_rebuild 11 yX13_rebuild.cls none yX13_rebuild.name (4 + (k + 1)) 0 0 1065 (t_P (fun v s' => v = none ∧ Q (s'))) 152 [(0, .ref 950), (1, .int l1), (2, .int l2), (3, .int l3), (4, .int l4), (6, .int l6), (7, .int l7), (8, .long l8)] [] (t_m s) 1065 0 0 := by
  refine mj_lload dX13_rebuild_152 7 rfl ?_
  refine mj_lconst (v := 0) dX13_rebuild_154 (by decide) ?_
  refine mj_iload dX13_rebuild_155 5 rfl ?_
  refine mj_if_eq 166 dX13_rebuild_157 (by decide) (fun z => t_posK hk z (fun hk => ?_)) (fun z => t_negK hk z (fun hk => ?_))
  · refine mj_iload dX13_rebuild_166 6 rfl ?_
    refine mj_iconst (v := 1) dX13_rebuild_168 (by decide) ?_
    refine mj_isub dX13_rebuild_169 ?_
    refine mj_i2l (v := (l7 - (1 : Int32)).toInt64) dX13_rebuild_170 rfl ?_
    refine mj_sublv [(0, .ref 950), (1, .int l1), (2, .int l2), (3, .int l3), (4, .int l4), (7, .int l7), (8, .long l8)] [0, 1, 2, 3, 4, 6, 7] rfl ?_
    exact B_X13_rebuild_171 rc H _ _ _ _ _ _ _ _ _ _ _ hk
  · refine mj_iload dX13_rebuild_160 6 rfl ?_
    refine mj_i2l (v := l7.toInt64) dX13_rebuild_162 rfl ?_
    refine mj_goto 171 dX13_rebuild_163 (by decide) ?_
    refine mj_sublv [(0, .ref 950), (1, .int l1), (2, .int l2), (3, .int l3), (4, .int l4), (7, .int l7), (8, .long l8)] [0, 1, 2, 3, 4, 6, 7] rfl ?_
    exact B_X13_rebuild_171 rc H _ _ _ _ _ _ _ _ _ _ _ hk
noncomputable def k_X13_rebuild_34 (rc : RT_X13_rebuild) (l1 : Int32) (l2 : Int32) (l3 : Int32) (l4 : Int32) (l5 : Int32) (k0 : Int32) (s : t_S) : Option (t_S) :=
 if t_ix l2 13000 = true then
  if (s.1 955 (l2.toNatClampNeg)) = (68 : Int32) then (if l5 = (7 : Int32) then ((rc.2.1 l1 l2 l3 l4 k0 s).bind (fun r9 =>
 some (r9)))
 else (if l5 = (6 : Int32) then ((rc.2.2 l1 l2 l3 l4 k0 s).bind (fun r8 =>
 some (r8)))
 else ((f_X13_error (1 : Int32) s).bind (fun r7 =>
 some (r7)))))
 else (if l5 = (8 : Int32) then (if t_ix (l1 + (1 : Int32)) 626600 = true then
  if t_ix l3 3100 = true then
  if k0 = (0 : Int32) then (k_X13_rebuild_152 rc l1 l2 l3 l4 k0 ((s.2.1 1006 ((l1 + (1 : Int32)).toNatClampNeg)).toInt32) (s.2.1 1057 (l3.toNatClampNeg)) s)
 else (if t_ix l4 626600 = true then
  if (lg_cmp (s.2.1 1006 (l4.toNatClampNeg)) (4 : Int64)) = (0 : Int32) then ((f_X13_error (1 : Int32) s).bind (fun r5 =>
 some (r5)))
 else (k_X13_rebuild_152 rc l1 l2 l3 l4 k0 ((s.2.1 1006 ((l1 + (1 : Int32)).toNatClampNeg)).toInt32) (s.2.1 1057 (l3.toNatClampNeg)) s)
else none)
else none
else none)
 else ((f_X13_error (1 : Int32) s).bind (fun r6 =>
 some (r6))))
else none
set_option maxRecDepth 4000 in
set_option maxHeartbeats 1000000 in
theorem B_X13_rebuild_34 {D : va_G} {cy : Nat → ClassId} {ad : Nat → Nat} {bs : Nat} {X : State → Heap → Prop} (rc : RT_X13_rebuild) {k : Nat} (H : RH_X13_rebuild rc k) (l1 : Int32) (l2 : Int32) (l3 : Int32) (l4 : Int32) (l5 : Int32) (k0 : Int32) (s : t_S) (Q : t_S → Prop) (hk : t_hk (k_X13_rebuild_34 rc l1 l2 l3 l4 l5 k0 s) Q) : mj_G D cy ad bs X cX13_rebuild 11 yX13_rebuild.cls none yX13_rebuild.name (4 + (k + 1)) 0 0 1065 (t_P (fun v s' => v = none ∧ Q (s'))) 34 [(0, .ref 950), (1, .int l1), (2, .int l2), (3, .int l3), (4, .int l4), (5, .int l5)] [.int k0] (t_m s) 1065 0 0 := by
  refine mj_istore (lv2 := [(6, .int k0), (0, .ref 950), (1, .int l1), (2, .int l2), (3, .int l3), (4, .int l4), (5, .int l5)]) dX13_rebuild_34 (by decide) rfl ?_
  refine mj_aload_n dX13_rebuild_36 1 rfl ?_
  refine t_getR 955 dX13_rebuild_37 F_X13_26 qr_950_17 ?_
  refine mj_iload_n dX13_rebuild_40 3 rfl ?_
  refine t_chkK hk (fun c0 hk => ?_)
  refine t_iald dX13_rebuild_41 qa_955 (t_ixv c0) ?_
  refine mj_bipush (v := 68) dX13_rebuild_42 (by decide) ?_
  refine mj_icmp_ne 95 dX13_rebuild_44 (by decide) (fun z => t_negK hk z (fun hk => ?_)) (fun z => t_posK hk z (fun hk => ?_))
  · refine mj_iload dX13_rebuild_95 6 rfl ?_
    refine mj_bipush (v := 8) dX13_rebuild_97 (by decide) ?_
    refine mj_icmp_eq 108 dX13_rebuild_99 (by decide) (fun z => t_posK hk z (fun hk => ?_)) (fun z => t_negK hk z (fun hk => ?_))
    · refine mj_aload_n dX13_rebuild_108 1 rfl ?_
      refine t_getR 1006 dX13_rebuild_109 F_X13_182 qr_950_95 ?_
      refine mj_iload_n dX13_rebuild_112 2 rfl ?_
      refine mj_iconst (v := 1) dX13_rebuild_113 (by decide) ?_
      refine mj_iadd dX13_rebuild_114 ?_
      refine t_chkK hk (fun c1 hk => ?_)
      refine t_lald dX13_rebuild_115 qa_1006 (t_ixv c1) ?_
      refine mj_l2i (v := (s.2.1 1006 ((l1 + (1 : Int32)).toNatClampNeg)).toInt32) dX13_rebuild_116 rfl ?_
      refine mj_istore (lv2 := [(7, .int ((s.2.1 1006 ((l1 + (1 : Int32)).toNatClampNeg)).toInt32)), (6, .int k0), (0, .ref 950), (1, .int l1), (2, .int l2), (3, .int l3), (4, .int l4), (5, .int l5)]) dX13_rebuild_117 (by decide) rfl ?_
      refine mj_aload_n dX13_rebuild_119 2 rfl ?_
      refine t_getR 1057 dX13_rebuild_120 F_X13_339 qr_950_175 ?_
      refine mj_iload_n dX13_rebuild_123 5 rfl ?_
      refine t_chkK hk (fun c2 hk => ?_)
      refine t_lald dX13_rebuild_124 qa_1057 (t_ixv c2) ?_
      refine mj_lstore (lv2 := [(8, .long (s.2.1 1057 (l3.toNatClampNeg))), (7, .int ((s.2.1 1006 ((l1 + (1 : Int32)).toNatClampNeg)).toInt32)), (6, .int k0), (0, .ref 950), (1, .int l1), (2, .int l2), (3, .int l3), (4, .int l4), (5, .int l5)]) dX13_rebuild_125 (by decide) rfl ?_
      refine mj_iload dX13_rebuild_127 2 rfl ?_
      refine mj_if_eq 152 dX13_rebuild_129 (by decide) (fun z => t_posK hk z (fun hk => ?_)) (fun z => t_negK hk z (fun hk => ?_))
      · refine mj_sublv [(0, .ref 950), (1, .int l1), (2, .int l2), (3, .int l3), (4, .int l4), (6, .int k0), (7, .int ((s.2.1 1006 ((l1 + (1 : Int32)).toNatClampNeg)).toInt32)), (8, .long (s.2.1 1057 (l3.toNatClampNeg)))] [3, 4, 5, 6, 7, 2, 1, 0] rfl ?_
        exact B_X13_rebuild_152 rc H _ _ _ _ _ _ _ _ _ hk
      · refine mj_aload_n dX13_rebuild_132 3 rfl ?_
        refine t_getR 1006 dX13_rebuild_133 F_X13_182 qr_950_95 ?_
        refine mj_iload dX13_rebuild_136 7 rfl ?_
        refine t_chkK hk (fun c3 hk => ?_)
        refine t_lald dX13_rebuild_138 qa_1006 (t_ixv c3) ?_
        refine mj_ldc2 dX13_rebuild_139 K_X13_969 ?_
        refine mj_lcmp dX13_rebuild_142 ?_
        refine mj_if_ne 152 dX13_rebuild_143 (by decide) (fun z => t_negK hk z (fun hk => ?_)) (fun z => t_posK hk z (fun hk => ?_))
        · refine mj_sublv [(0, .ref 950), (1, .int l1), (2, .int l2), (3, .int l3), (4, .int l4), (6, .int k0), (7, .int ((s.2.1 1006 ((l1 + (1 : Int32)).toNatClampNeg)).toInt32)), (8, .long (s.2.1 1057 (l3.toNatClampNeg)))] [3, 4, 5, 6, 7, 2, 1, 0] rfl ?_
          exact B_X13_rebuild_152 rc H _ _ _ _ _ _ _ _ _ hk
        · refine mj_aload_n dX13_rebuild_146 3 rfl ?_
          refine mj_iconst (v := 1) dX13_rebuild_147 (by decide) ?_
          refine t_bndK hk (fun r5 er5 hk => ?_)
          refine t_callVvE dX13_rebuild_148 M_X13_error (C_X13_error _ _ _ er5) ML_X13_866 IM_X13_error SE_X13_error qc_950 rfl (As := [.int 1]) rfl rfl (by omega) (Nat.le_of_ble_eq_true rfl) (Nat.le_of_ble_eq_true rfl) (Nat.le_of_ble_eq_true rfl) ?_
          exact t_somK hk (fun hf => t_vret dX13_rebuild_151 rfl ⟨rfl, hf⟩ (Nat.le_of_ble_eq_true rfl) (Nat.le_of_ble_eq_true rfl))
    · refine mj_aload_n dX13_rebuild_102 1 rfl ?_
      refine mj_iconst (v := 1) dX13_rebuild_103 (by decide) ?_
      refine t_bndK hk (fun r6 er6 hk => ?_)
      refine t_callVvE dX13_rebuild_104 M_X13_error (C_X13_error _ _ _ er6) ML_X13_866 IM_X13_error SE_X13_error qc_950 rfl (As := [.int 1]) rfl rfl (by omega) (Nat.le_of_ble_eq_true rfl) (Nat.le_of_ble_eq_true rfl) (Nat.le_of_ble_eq_true rfl) ?_
      exact t_somK hk (fun hf => t_vret dX13_rebuild_107 rfl ⟨rfl, hf⟩ (Nat.le_of_ble_eq_true rfl) (Nat.le_of_ble_eq_true rfl))
  · refine mj_iload dX13_rebuild_47 6 rfl ?_
    refine mj_bipush (v := 7) dX13_rebuild_49 (by decide) ?_
    refine mj_icmp_ne 68 dX13_rebuild_51 (by decide) (fun z => t_negK hk z (fun hk => ?_)) (fun z => t_posK hk z (fun hk => ?_))
    · refine mj_iload dX13_rebuild_68 6 rfl ?_
      refine mj_bipush (v := 6) dX13_rebuild_70 (by decide) ?_
      refine mj_icmp_ne 89 dX13_rebuild_72 (by decide) (fun z => t_negK hk z (fun hk => ?_)) (fun z => t_posK hk z (fun hk => ?_))
      · refine mj_aload_n dX13_rebuild_89 1 rfl ?_
        refine mj_iconst (v := 1) dX13_rebuild_90 (by decide) ?_
        refine t_bndK hk (fun r7 er7 hk => ?_)
        refine t_callVvE dX13_rebuild_91 M_X13_error (C_X13_error _ _ _ er7) ML_X13_866 IM_X13_error SE_X13_error qc_950 rfl (As := [.int 1]) rfl rfl (by omega) (Nat.le_of_ble_eq_true rfl) (Nat.le_of_ble_eq_true rfl) (Nat.le_of_ble_eq_true rfl) ?_
        exact t_somK hk (fun hf => t_vret dX13_rebuild_94 rfl ⟨rfl, hf⟩ (Nat.le_of_ble_eq_true rfl) (Nat.le_of_ble_eq_true rfl))
      · refine mj_aload_n dX13_rebuild_75 1 rfl ?_
        refine mj_iload_n dX13_rebuild_76 2 rfl ?_
        refine mj_iload_n dX13_rebuild_77 3 rfl ?_
        refine mj_iload_n dX13_rebuild_78 4 rfl ?_
        refine mj_iload dX13_rebuild_79 5 rfl ?_
        refine mj_iload dX13_rebuild_81 0 rfl ?_
        refine t_bndK hk (fun r8 er8 hk => ?_)
        refine t_callSvE dX13_rebuild_83 M_X13_rebuildRecord (H.2.2 _ _ _ _ _ _ _ er8) ML_X13_1429 SM_X13_rebuildRecord (As := [.ref 950, .int l1, .int l2, .int l3, .int l4, .int k0]) rfl rfl (by omega) (Nat.le_of_ble_eq_true rfl) (Nat.le_of_ble_eq_true rfl) (Nat.le_of_ble_eq_true rfl) ?_
        refine mj_goto 94 dX13_rebuild_86 (by decide) ?_
        exact t_somK hk (fun hf => t_vret dX13_rebuild_94 rfl ⟨rfl, hf⟩ (Nat.le_of_ble_eq_true rfl) (Nat.le_of_ble_eq_true rfl))
    · refine mj_aload_n dX13_rebuild_54 1 rfl ?_
      refine mj_iload_n dX13_rebuild_55 2 rfl ?_
      refine mj_iload_n dX13_rebuild_56 3 rfl ?_
      refine mj_iload_n dX13_rebuild_57 4 rfl ?_
      refine mj_iload dX13_rebuild_58 5 rfl ?_
      refine mj_iload dX13_rebuild_60 0 rfl ?_
      refine t_bndK hk (fun r9 er9 hk => ?_)
      refine t_callSvE dX13_rebuild_62 M_X13_rebuildChoice (H.2.1 _ _ _ _ _ _ _ er9) ML_X13_1425 SM_X13_rebuildChoice (As := [.ref 950, .int l1, .int l2, .int l3, .int l4, .int k0]) rfl rfl (by omega) (Nat.le_of_ble_eq_true rfl) (Nat.le_of_ble_eq_true rfl) (Nat.le_of_ble_eq_true rfl) ?_
      refine mj_goto 94 dX13_rebuild_65 (by decide) ?_
      exact t_somK hk (fun hf => t_vret dX13_rebuild_94 rfl ⟨rfl, hf⟩ (Nat.le_of_ble_eq_true rfl) (Nat.le_of_ble_eq_true rfl))
noncomputable def m_X13_rebuild (rc : RT_X13_rebuild) (x2 : Int32) (x3 : Int32) (x4 : Int32) (x5 : Int32) (s : t_S) : Option (t_S) :=
 if (0 : Int32) ≤ x3 then (if t_ix x2 626600 = true then
  if t_ix x3 13000 = true then
  if (0 : Int32) ≤ (s.1 960 (x3.toNatClampNeg)) then (k_X13_rebuild_34 rc x2 x3 x4 x5 ((s.2.1 1006 (x2.toNatClampNeg)).toInt32) 0 s)
 else (k_X13_rebuild_34 rc x2 x3 x4 x5 ((s.2.1 1006 (x2.toNatClampNeg)).toInt32) 1 s)
else none
else none)
 else ((f_X13_addValue x5 s).bind (fun r3 =>
 some (r3)))
set_option maxRecDepth 4000 in
set_option maxHeartbeats 1000000 in
theorem E_X13_rebuild (rc : RT_X13_rebuild) {k : Nat} (H : RH_X13_rebuild rc k) (x2 : Int32) (x3 : Int32) (x4 : Int32) (x5 : Int32) (s : t_S) (r : t_S) (hr : m_X13_rebuild rc x2 x3 x4 x5 s = some r) : t_C yX13_rebuild cX13_rebuild 11 none (4 + (k + 1)) [.ref 950, .int x2, .int x3, .int x4, .int x5] s (fun v s' => v = none ∧ s' = r) := by
  refine t_C.imp (P := fun v s' => v = none ∧ (fun q => q = r) (s')) (t_C.of (by decide +kernel) (Nat.le_of_ble_eq_true rfl) ?_) (fun v s' hp => hp)
  intro D cy ad bs X
  have hk : t_hk (m_X13_rebuild rc x2 x3 x4 x5 s) (fun q => q = r) := ⟨r, hr, rfl⟩
  show mj_G D cy ad bs X cX13_rebuild 11 yX13_rebuild.cls none yX13_rebuild.name (4 + (k + 1)) 0 0 1065 (t_P (fun v s' => v = none ∧ (fun q => q = r) (s'))) 0 [(0, .ref 950), (1, .int x2), (2, .int x3), (3, .int x4), (4, .int x5)] [] (t_m s) 1065 0 0
  refine mj_iload_n dX13_rebuild_0 2 rfl ?_
  refine mj_if_ge 11 dX13_rebuild_1 (by decide) (fun z => t_posK hk z (fun hk => ?_)) (fun z => t_negK hk z (fun hk => ?_))
  · refine mj_aload_n dX13_rebuild_11 0 rfl ?_
    refine t_getR 1006 dX13_rebuild_12 F_X13_182 qr_950_95 ?_
    refine mj_iload_n dX13_rebuild_15 1 rfl ?_
    refine t_chkK hk (fun c0 hk => ?_)
    refine t_lald dX13_rebuild_16 qa_1006 (t_ixv c0) ?_
    refine mj_l2i (v := (s.2.1 1006 (x2.toNatClampNeg)).toInt32) dX13_rebuild_17 rfl ?_
    refine mj_istore (lv2 := [(5, .int ((s.2.1 1006 (x2.toNatClampNeg)).toInt32)), (0, .ref 950), (1, .int x2), (2, .int x3), (3, .int x4), (4, .int x5)]) dX13_rebuild_18 (by decide) rfl ?_
    refine mj_aload_n dX13_rebuild_20 1 rfl ?_
    refine t_getR 960 dX13_rebuild_21 F_X13_42 qr_950_22 ?_
    refine mj_iload_n dX13_rebuild_24 3 rfl ?_
    refine t_chkK hk (fun c1 hk => ?_)
    refine t_iald dX13_rebuild_25 qa_960 (t_ixv c1) ?_
    refine mj_if_ge 33 dX13_rebuild_26 (by decide) (fun z => t_posK hk z (fun hk => ?_)) (fun z => t_negK hk z (fun hk => ?_))
    · refine mj_iconst (v := 0) dX13_rebuild_33 (by decide) ?_
      refine mj_sublv [(0, .ref 950), (1, .int x2), (2, .int x3), (3, .int x4), (4, .int x5), (5, .int ((s.2.1 1006 (x2.toNatClampNeg)).toInt32))] [1, 2, 3, 4, 5, 0] rfl ?_
      exact B_X13_rebuild_34 rc H _ _ _ _ _ _ _ _ hk
    · refine mj_iconst (v := 1) dX13_rebuild_29 (by decide) ?_
      refine mj_goto 34 dX13_rebuild_30 (by decide) ?_
      refine mj_sublv [(0, .ref 950), (1, .int x2), (2, .int x3), (3, .int x4), (4, .int x5), (5, .int ((s.2.1 1006 (x2.toNatClampNeg)).toInt32))] [1, 2, 3, 4, 5, 0] rfl ?_
      exact B_X13_rebuild_34 rc H _ _ _ _ _ _ _ _ hk
  · refine mj_aload_n dX13_rebuild_4 0 rfl ?_
    refine mj_iload dX13_rebuild_5 4 rfl ?_
    refine t_bndK hk (fun r3 er3 hk => ?_)
    refine t_callVvE dX13_rebuild_7 M_X13_addValue (C_X13_addValue _ _ _ er3) ML_X13_1422 IM_X13_addValue SE_X13_addValue qc_950 rfl (As := [.int x5]) rfl rfl (by omega) (Nat.le_of_ble_eq_true rfl) (Nat.le_of_ble_eq_true rfl) (Nat.le_of_ble_eq_true rfl) ?_
    exact t_somK hk (fun hf => t_vret dX13_rebuild_10 rfl ⟨rfl, hf⟩ (Nat.le_of_ble_eq_true rfl) (Nat.le_of_ble_eq_true rfl))
noncomputable def k_X13_rebuildChoice_40 (rc : RT_X13_rebuild) (s : t_S) : Option (t_S) :=
 (f_X13_error (1 : Int32) s).bind (fun r1 =>
 some (r1))
set_option maxRecDepth 4000 in
set_option maxHeartbeats 1000000 in
theorem B_X13_rebuildChoice_40 {D : va_G} {cy : Nat → ClassId} {ad : Nat → Nat} {bs : Nat} {X : State → Heap → Prop} (rc : RT_X13_rebuild) {k : Nat} (H : RH_X13_rebuild rc k) (s : t_S) (Q : t_S → Prop) (hk : t_hk (k_X13_rebuildChoice_40 rc s) Q) : mj_G D cy ad bs X cX13_rebuildChoice 6 yX13_rebuildChoice.cls none yX13_rebuildChoice.name (4 + (k + 1)) 0 0 1065 (t_P (fun v s' => v = none ∧ Q (s'))) 40 [(0, .ref 950)] [] (t_m s) 1065 0 0 := by
  refine mj_aload_n dX13_rebuildChoice_40 0 rfl ?_
  refine mj_iconst (v := 1) dX13_rebuildChoice_41 (by decide) ?_
  refine t_bndK hk (fun r1 er1 hk => ?_)
  refine t_callVvE dX13_rebuildChoice_42 M_X13_error (C_X13_error _ _ _ er1) ML_X13_866 IM_X13_error SE_X13_error qc_950 rfl (As := [.int 1]) rfl rfl (by omega) (Nat.le_of_ble_eq_true rfl) (Nat.le_of_ble_eq_true rfl) (Nat.le_of_ble_eq_true rfl) ?_
  exact t_somK hk (fun hf => t_vret dX13_rebuildChoice_45 rfl ⟨rfl, hf⟩ (Nat.le_of_ble_eq_true rfl) (Nat.le_of_ble_eq_true rfl))
noncomputable def k_X13_rebuildChoice_46 (rc : RT_X13_rebuild) (l1 : Int32) (l2 : Int32) (l3 : Int32) (l4 : Int32) (s : t_S) : Option (t_S) :=
 (f_X13_add (7 : Int64) s).bind (fun r1 =>
 if t_ix l2 13000 = true then
  (f_X13_add (r1.2.1 957 (l2.toNatClampNeg)) r1).bind (fun r3 =>
 (rc.1 (l1 + (2 : Int32)) (r3.1 960 (l2.toNatClampNeg)) l3 l4 r3).bind (fun r4 =>
 some (r4)))
else none)
set_option maxRecDepth 4000 in
set_option maxHeartbeats 1000000 in
theorem B_X13_rebuildChoice_46 {D : va_G} {cy : Nat → ClassId} {ad : Nat → Nat} {bs : Nat} {X : State → Heap → Prop} (rc : RT_X13_rebuild) {k : Nat} (H : RH_X13_rebuild rc k) (l1 : Int32) (l2 : Int32) (l3 : Int32) (l4 : Int32) (s : t_S) (Q : t_S → Prop) (hk : t_hk (k_X13_rebuildChoice_46 rc l1 l2 l3 l4 s) Q) : mj_G D cy ad bs X cX13_rebuildChoice 6 yX13_rebuildChoice.cls none yX13_rebuildChoice.name (4 + (k + 1)) 0 0 1065 (t_P (fun v s' => v = none ∧ Q (s'))) 46 [(0, .ref 950), (1, .int l1), (2, .int l2), (3, .int l3), (4, .int l4)] [] (t_m s) 1065 0 0 := by
  refine mj_aload_n dX13_rebuildChoice_46 0 rfl ?_
  refine mj_ldc2 dX13_rebuildChoice_47 K_X13_697 ?_
  refine t_bndK hk (fun r1 er1 hk => ?_)
  refine t_callVvE dX13_rebuildChoice_50 M_X13_add (C_X13_add _ _ _ er1) ML_X13_1419 IM_X13_add SE_X13_add qc_950 rfl (As := [.long 7]) rfl rfl (by omega) (Nat.le_of_ble_eq_true rfl) (Nat.le_of_ble_eq_true rfl) (Nat.le_of_ble_eq_true rfl) ?_
  refine mj_aload_n dX13_rebuildChoice_53 0 rfl ?_
  refine mj_aload_n dX13_rebuildChoice_54 0 rfl ?_
  refine t_getR 957 dX13_rebuildChoice_55 F_X13_32 qr_950_19 ?_
  refine mj_iload_n dX13_rebuildChoice_58 2 rfl ?_
  refine t_chkK hk (fun c1 hk => ?_)
  refine t_lald dX13_rebuildChoice_59 qa_957 (t_ixv c1) ?_
  refine t_bndK hk (fun r3 er3 hk => ?_)
  refine t_callVvE dX13_rebuildChoice_60 M_X13_add (C_X13_add _ _ _ er3) ML_X13_1419 IM_X13_add SE_X13_add qc_950 rfl (As := [.long (r1.2.1 957 (l2.toNatClampNeg))]) rfl rfl (by omega) (Nat.le_of_ble_eq_true rfl) (Nat.le_of_ble_eq_true rfl) (Nat.le_of_ble_eq_true rfl) ?_
  refine mj_aload_n dX13_rebuildChoice_63 0 rfl ?_
  refine mj_iload_n dX13_rebuildChoice_64 1 rfl ?_
  refine mj_iconst (v := 2) dX13_rebuildChoice_65 (by decide) ?_
  refine mj_iadd dX13_rebuildChoice_66 ?_
  refine mj_aload_n dX13_rebuildChoice_67 0 rfl ?_
  refine t_getR 960 dX13_rebuildChoice_68 F_X13_42 qr_950_22 ?_
  refine mj_iload_n dX13_rebuildChoice_71 2 rfl ?_
  refine t_iald dX13_rebuildChoice_72 qa_960 (t_ixv c1) ?_
  refine mj_iload_n dX13_rebuildChoice_73 3 rfl ?_
  refine mj_iload dX13_rebuildChoice_74 4 rfl ?_
  refine t_bndK hk (fun r4 er4 hk => ?_)
  refine t_callSvE dX13_rebuildChoice_76 M_X13_rebuild (H.1 _ _ _ _ _ _ er4) ML_X13_1415 SM_X13_rebuild (As := [.ref 950, .int (l1 + (2 : Int32)), .int (r3.1 960 (l2.toNatClampNeg)), .int l3, .int l4]) rfl rfl (by omega) (Nat.le_of_ble_eq_true rfl) (Nat.le_of_ble_eq_true rfl) (Nat.le_of_ble_eq_true rfl) ?_
  exact t_somK hk (fun hf => t_vret dX13_rebuildChoice_79 rfl ⟨rfl, hf⟩ (Nat.le_of_ble_eq_true rfl) (Nat.le_of_ble_eq_true rfl))
noncomputable def m_X13_rebuildChoice (rc : RT_X13_rebuild) (x2 : Int32) (x3 : Int32) (x4 : Int32) (x5 : Int32) (x6 : Int32) (s : t_S) : Option (t_S) :=
 if x6 = (0 : Int32) then (if t_ix (x2 + (1 : Int32)) 626600 = true then
  if t_ix x3 13000 = true then
  if (lg_cmp (s.2.1 1006 ((x2 + (1 : Int32)).toNatClampNeg)) (s.2.1 957 (x3.toNatClampNeg))) = (0 : Int32) then (k_X13_rebuildChoice_46 rc x2 x3 x4 x5 s)
 else (k_X13_rebuildChoice_40 rc s)
else none
else none)
 else (if t_ix x5 626600 = true then
  if (lg_cmp (s.2.1 1006 (x5.toNatClampNeg)) (4 : Int64)) = (0 : Int32) then (k_X13_rebuildChoice_40 rc s)
 else (k_X13_rebuildChoice_46 rc x2 x3 x4 x5 s)
else none)
set_option maxRecDepth 4000 in
set_option maxHeartbeats 1000000 in
theorem E_X13_rebuildChoice (rc : RT_X13_rebuild) {k : Nat} (H : RH_X13_rebuild rc k) (x2 : Int32) (x3 : Int32) (x4 : Int32) (x5 : Int32) (x6 : Int32) (s : t_S) (r : t_S) (hr : m_X13_rebuildChoice rc x2 x3 x4 x5 x6 s = some r) : t_C yX13_rebuildChoice cX13_rebuildChoice 6 none (4 + (k + 1)) [.ref 950, .int x2, .int x3, .int x4, .int x5, .int x6] s (fun v s' => v = none ∧ s' = r) := by
  refine t_C.imp (P := fun v s' => v = none ∧ (fun q => q = r) (s')) (t_C.of (by decide +kernel) (Nat.le_of_ble_eq_true rfl) ?_) (fun v s' hp => hp)
  intro D cy ad bs X
  have hk : t_hk (m_X13_rebuildChoice rc x2 x3 x4 x5 x6 s) (fun q => q = r) := ⟨r, hr, rfl⟩
  show mj_G D cy ad bs X cX13_rebuildChoice 6 yX13_rebuildChoice.cls none yX13_rebuildChoice.name (4 + (k + 1)) 0 0 1065 (t_P (fun v s' => v = none ∧ (fun q => q = r) (s'))) 0 [(0, .ref 950), (1, .int x2), (2, .int x3), (3, .int x4), (4, .int x5), (5, .int x6)] [] (t_m s) 1065 0 0
  refine mj_iload dX13_rebuildChoice_0 5 rfl ?_
  refine mj_if_eq 22 dX13_rebuildChoice_2 (by decide) (fun z => t_posK hk z (fun hk => ?_)) (fun z => t_negK hk z (fun hk => ?_))
  · refine mj_aload_n dX13_rebuildChoice_22 0 rfl ?_
    refine t_getR 1006 dX13_rebuildChoice_23 F_X13_182 qr_950_95 ?_
    refine mj_iload_n dX13_rebuildChoice_26 1 rfl ?_
    refine mj_iconst (v := 1) dX13_rebuildChoice_27 (by decide) ?_
    refine mj_iadd dX13_rebuildChoice_28 ?_
    refine t_chkK hk (fun c0 hk => ?_)
    refine t_lald dX13_rebuildChoice_29 qa_1006 (t_ixv c0) ?_
    refine mj_aload_n dX13_rebuildChoice_30 0 rfl ?_
    refine t_getR 957 dX13_rebuildChoice_31 F_X13_32 qr_950_19 ?_
    refine mj_iload_n dX13_rebuildChoice_34 2 rfl ?_
    refine t_chkK hk (fun c1 hk => ?_)
    refine t_lald dX13_rebuildChoice_35 qa_957 (t_ixv c1) ?_
    refine mj_lcmp dX13_rebuildChoice_36 ?_
    refine mj_if_eq 46 dX13_rebuildChoice_37 (by decide) (fun z => t_posK hk z (fun hk => ?_)) (fun z => t_negK hk z (fun hk => ?_))
    · refine mj_sublv [(0, .ref 950), (1, .int x2), (2, .int x3), (3, .int x4), (4, .int x5)] [0, 1, 2, 3, 4] rfl ?_
      exact B_X13_rebuildChoice_46 rc H _ _ _ _ _ _ hk
    · refine mj_sublv [(0, .ref 950)] [0] rfl ?_
      exact B_X13_rebuildChoice_40 rc H _ _ hk
  · refine mj_aload_n dX13_rebuildChoice_5 0 rfl ?_
    refine t_getR 1006 dX13_rebuildChoice_6 F_X13_182 qr_950_95 ?_
    refine mj_iload dX13_rebuildChoice_9 4 rfl ?_
    refine t_chkK hk (fun c2 hk => ?_)
    refine t_lald dX13_rebuildChoice_11 qa_1006 (t_ixv c2) ?_
    refine mj_ldc2 dX13_rebuildChoice_12 K_X13_969 ?_
    refine mj_lcmp dX13_rebuildChoice_15 ?_
    refine mj_if_ne 46 dX13_rebuildChoice_16 (by decide) (fun z => t_negK hk z (fun hk => ?_)) (fun z => t_posK hk z (fun hk => ?_))
    · refine mj_sublv [(0, .ref 950), (1, .int x2), (2, .int x3), (3, .int x4), (4, .int x5)] [0, 1, 2, 3, 4] rfl ?_
      exact B_X13_rebuildChoice_46 rc H _ _ _ _ _ _ hk
    · refine mj_goto 40 dX13_rebuildChoice_19 (by decide) ?_
      refine mj_sublv [(0, .ref 950)] [0] rfl ?_
      exact B_X13_rebuildChoice_40 rc H _ _ hk
noncomputable def k_X13_rebuildRecord_293 (rc : RT_X13_rebuild) (l1 : Int32) (l2 : Int32) (l3 : Int32) (l4 : Int32) (l5 : Int32) (l6 : Int32) (l7 : Int32) (l8 : Int32) (l10 : Int32) (l11 : Int32) (l12 : Int32) (s : t_S) : Option ((Int32 × Int32 × Int32 × Int32 × Int32 × Int32 × Int32 × Int32 × Int32 × Int32 × Int32 × t_S) ⊕ ((Int32 × Int32 × Int32 × Int32 × Int32 × Int32 × Int32 × Int32 × Int32 × t_S) ⊕ (t_S))) :=
 some (.inl (l1, l2, l3, l4, l5, l6, l7, l8, l10, l11, (l12 + 1), s))
set_option maxRecDepth 4000 in
set_option maxHeartbeats 1000000 in
theorem B_X13_rebuildRecord_293 {D : va_G} {cy : Nat → ClassId} {ad : Nat → Nat} {bs : Nat} {X : State → Heap → Prop} (rc : RT_X13_rebuild) {k : Nat} (H : RH_X13_rebuild rc k) (l1 : Int32) (l2 : Int32) (l3 : Int32) (l4 : Int32) (l5 : Int32) (l6 : Int32) (l7 : Int32) (l8 : Int32) (l10 : Int32) (l11 : Int32) (l12 : Int32) (s : t_S) (Q : (Int32 × Int32 × Int32 × Int32 × Int32 × Int32 × Int32 × Int32 × Int32 × Int32 × Int32 × t_S) ⊕ ((Int32 × Int32 × Int32 × Int32 × Int32 × Int32 × Int32 × Int32 × Int32 × t_S) ⊕ (t_S)) → Prop) (Hb122 : ∀ (y0 : Int32) (y1 : Int32) (y2 : Int32) (y3 : Int32) (y4 : Int32) (y5 : Int32) (y6 : Int32) (y7 : Int32) (y8 : Int32) (y9 : t_S), Q (.inr (.inl (y0, y1, y2, y3, y4, y5, y6, y7, y8, y9))) → mj_G D cy ad bs X cX13_rebuildRecord 15 yX13_rebuildRecord.cls none yX13_rebuildRecord.name (4 + (k + 1)) 0 0 1065 (t_P (fun v s' => v = none ∧ Q (.inr (.inr (s'))))) 122 [(0, .ref 950), (1, .int (y0)), (2, .int (y1)), (3, .int (y2)), (4, .int (y3)), (5, .int (y4)), (6, .int (y5)), (7, .int (y6)), (8, .int (y7)), (11, .int (y8))] [] (t_m y9) 1065 0 0) (Hb134 : ∀ (y0 : Int32) (y1 : Int32) (y2 : Int32) (y3 : Int32) (y4 : Int32) (y5 : Int32) (y6 : Int32) (y7 : Int32) (y8 : Int32) (y9 : Int32) (y10 : Int32) (y11 : t_S), Q (.inl (y0, y1, y2, y3, y4, y5, y6, y7, y8, y9, y10, y11)) → mj_G D cy ad bs X cX13_rebuildRecord 15 yX13_rebuildRecord.cls none yX13_rebuildRecord.name (4 + (k + 1)) 0 0 1065 (t_P (fun v s' => v = none ∧ Q (.inr (.inr (s'))))) 134 [(0, .ref 950), (1, .int (y0)), (2, .int (y1)), (3, .int (y2)), (4, .int (y3)), (5, .int (y4)), (6, .int (y5)), (7, .int (y6)), (8, .int (y7)), (10, .int (y8)), (11, .int (y9)), (12, .int (y10))] [] (t_m y11) 1065 0 0) (hk : t_hk (k_X13_rebuildRecord_293 rc l1 l2 l3 l4 l5 l6 l7 l8 l10 l11 l12 s) Q) : mj_G D cy ad bs X cX13_rebuildRecord 15 yX13_rebuildRecord.cls none yX13_rebuildRecord.name (4 + (k + 1)) 0 0 1065 (t_P (fun v s' => v = none ∧ Q (.inr (.inr (s'))))) 293 [(0, .ref 950), (1, .int l1), (2, .int l2), (3, .int l3), (4, .int l4), (5, .int l5), (6, .int l6), (7, .int l7), (8, .int l8), (10, .int l10), (11, .int l11), (12, .int l12)] [] (t_m s) 1065 0 0 := by
  refine mj_iinc (k := 11) (v := (l12 + 1)) (lv2 := [(12, .int (l12 + 1)), (0, .ref 950), (1, .int l1), (2, .int l2), (3, .int l3), (4, .int l4), (5, .int l5), (6, .int l6), (7, .int l7), (8, .int l8), (10, .int l10), (11, .int l11)]) dX13_rebuildRecord_293 rfl rfl (by decide) rfl ?_
  refine mj_goto 134 dX13_rebuildRecord_296 (by decide) ?_
  refine mj_sublv [(0, .ref 950), (1, .int l1), (2, .int l2), (3, .int l3), (4, .int l4), (5, .int l5), (6, .int l6), (7, .int l7), (8, .int l8), (10, .int l10), (11, .int l11), (12, .int (l12 + 1))] [1, 2, 3, 4, 5, 6, 7, 8, 9, 10, 11, 0] rfl ?_
  exact t_somK hk (fun hf => Hb134 l1 l2 l3 l4 l5 l6 l7 l8 l10 l11 (l12 + 1) s hf)
noncomputable def k_X13_rebuildRecord_249 (rc : RT_X13_rebuild) (l1 : Int32) (l2 : Int32) (l3 : Int32) (l4 : Int32) (l5 : Int32) (l6 : Int32) (l7 : Int32) (l8 : Int32) (l10 : Int32) (l11 : Int32) (l12 : Int32) (l13 : Int64) (s : t_S) : Option ((Int32 × Int32 × Int32 × Int32 × Int32 × Int32 × Int32 × Int32 × Int32 × Int32 × Int32 × t_S) ⊕ ((Int32 × Int32 × Int32 × Int32 × Int32 × Int32 × Int32 × Int32 × Int32 × t_S) ⊕ (t_S))) :=
 if l8 ≤ l12 then (k_X13_rebuildRecord_293 rc l1 l2 l3 l4 l5 l6 l7 l8 l10 l11 l12 s)
 else (if t_ix l2 13000 = true then
  if (lg_cmp l13 (s.2.1 957 (l2.toNatClampNeg))) = (0 : Int32) then (k_X13_rebuildRecord_293 rc l1 l2 l3 l4 l5 l6 l7 l8 l10 l11 l12 s)
 else (if l11 = (0 : Int32) then ((f_X13_add l13 s).bind (fun r4 =>
 k_X13_rebuildRecord_293 rc l1 l2 l3 l4 l5 l6 l7 l8 l10 l11 l12 r4))
 else ((f_X13_partOf l1 l12 s).bind (fun r2 =>
 (f_X13_addValue r2 s).bind (fun r3 =>
 k_X13_rebuildRecord_293 rc l1 l2 l3 l4 l5 l6 l7 l8 l10 l11 l12 r3))))
else none)
set_option maxRecDepth 4000 in
set_option maxHeartbeats 1000000 in
theorem B_X13_rebuildRecord_249 {D : va_G} {cy : Nat → ClassId} {ad : Nat → Nat} {bs : Nat} {X : State → Heap → Prop} (rc : RT_X13_rebuild) {k : Nat} (H : RH_X13_rebuild rc k) (l1 : Int32) (l2 : Int32) (l3 : Int32) (l4 : Int32) (l5 : Int32) (l6 : Int32) (l7 : Int32) (l8 : Int32) (l10 : Int32) (l11 : Int32) (l12 : Int32) (l13 : Int64) (s : t_S) (Q : (Int32 × Int32 × Int32 × Int32 × Int32 × Int32 × Int32 × Int32 × Int32 × Int32 × Int32 × t_S) ⊕ ((Int32 × Int32 × Int32 × Int32 × Int32 × Int32 × Int32 × Int32 × Int32 × t_S) ⊕ (t_S)) → Prop) (Hb122 : ∀ (y0 : Int32) (y1 : Int32) (y2 : Int32) (y3 : Int32) (y4 : Int32) (y5 : Int32) (y6 : Int32) (y7 : Int32) (y8 : Int32) (y9 : t_S), Q (.inr (.inl (y0, y1, y2, y3, y4, y5, y6, y7, y8, y9))) → mj_G D cy ad bs X cX13_rebuildRecord 15 yX13_rebuildRecord.cls none yX13_rebuildRecord.name (4 + (k + 1)) 0 0 1065 (t_P (fun v s' => v = none ∧ Q (.inr (.inr (s'))))) 122 [(0, .ref 950), (1, .int (y0)), (2, .int (y1)), (3, .int (y2)), (4, .int (y3)), (5, .int (y4)), (6, .int (y5)), (7, .int (y6)), (8, .int (y7)), (11, .int (y8))] [] (t_m y9) 1065 0 0) (Hb134 : ∀ (y0 : Int32) (y1 : Int32) (y2 : Int32) (y3 : Int32) (y4 : Int32) (y5 : Int32) (y6 : Int32) (y7 : Int32) (y8 : Int32) (y9 : Int32) (y10 : Int32) (y11 : t_S), Q (.inl (y0, y1, y2, y3, y4, y5, y6, y7, y8, y9, y10, y11)) → mj_G D cy ad bs X cX13_rebuildRecord 15 yX13_rebuildRecord.cls none yX13_rebuildRecord.name (4 + (k + 1)) 0 0 1065 (t_P (fun v s' => v = none ∧ Q (.inr (.inr (s'))))) 134 [(0, .ref 950), (1, .int (y0)), (2, .int (y1)), (3, .int (y2)), (4, .int (y3)), (5, .int (y4)), (6, .int (y5)), (7, .int (y6)), (8, .int (y7)), (10, .int (y8)), (11, .int (y9)), (12, .int (y10))] [] (t_m y11) 1065 0 0) (hk : t_hk (k_X13_rebuildRecord_249 rc l1 l2 l3 l4 l5 l6 l7 l8 l10 l11 l12 l13 s) Q) : mj_G D cy ad bs X cX13_rebuildRecord 15 yX13_rebuildRecord.cls none yX13_rebuildRecord.name (4 + (k + 1)) 0 0 1065 (t_P (fun v s' => v = none ∧ Q (.inr (.inr (s'))))) 249 [(0, .ref 950), (1, .int l1), (2, .int l2), (3, .int l3), (4, .int l4), (5, .int l5), (6, .int l6), (7, .int l7), (8, .int l8), (10, .int l10), (11, .int l11), (12, .int l12), (13, .long l13)] [] (t_m s) 1065 0 0 := by
  refine mj_iload dX13_rebuildRecord_249 11 rfl ?_
  refine mj_iload dX13_rebuildRecord_251 8 rfl ?_
  refine mj_icmp_ge 293 dX13_rebuildRecord_253 (by decide) (fun z => t_posK hk z (fun hk => ?_)) (fun z => t_negK hk z (fun hk => ?_))
  · refine mj_sublv [(0, .ref 950), (1, .int l1), (2, .int l2), (3, .int l3), (4, .int l4), (5, .int l5), (6, .int l6), (7, .int l7), (8, .int l8), (10, .int l10), (11, .int l11), (12, .int l12)] [0, 1, 2, 3, 4, 5, 6, 7, 8, 9, 10, 11] rfl ?_
    exact B_X13_rebuildRecord_293 rc H _ _ _ _ _ _ _ _ _ _ _ _ _ (fun y0 y1 y2 y3 y4 y5 y6 y7 y8 y9 hx => Hb122 y0 y1 y2 y3 y4 y5 y6 y7 y8 y9 hx) (fun y0 y1 y2 y3 y4 y5 y6 y7 y8 y9 y10 y11 hx => Hb134 y0 y1 y2 y3 y4 y5 y6 y7 y8 y9 y10 y11 hx) hk
  · refine mj_lload dX13_rebuildRecord_256 12 rfl ?_
    refine mj_aload_n dX13_rebuildRecord_258 0 rfl ?_
    refine t_getR 957 dX13_rebuildRecord_259 F_X13_32 qr_950_19 ?_
    refine mj_iload_n dX13_rebuildRecord_262 2 rfl ?_
    refine t_chkK hk (fun c0 hk => ?_)
    refine t_lald dX13_rebuildRecord_263 qa_957 (t_ixv c0) ?_
    refine mj_lcmp dX13_rebuildRecord_264 ?_
    refine mj_if_eq 293 dX13_rebuildRecord_265 (by decide) (fun z => t_posK hk z (fun hk => ?_)) (fun z => t_negK hk z (fun hk => ?_))
    · refine mj_sublv [(0, .ref 950), (1, .int l1), (2, .int l2), (3, .int l3), (4, .int l4), (5, .int l5), (6, .int l6), (7, .int l7), (8, .int l8), (10, .int l10), (11, .int l11), (12, .int l12)] [0, 1, 2, 3, 4, 5, 6, 7, 8, 9, 10, 11] rfl ?_
      exact B_X13_rebuildRecord_293 rc H _ _ _ _ _ _ _ _ _ _ _ _ _ (fun y0 y1 y2 y3 y4 y5 y6 y7 y8 y9 hx => Hb122 y0 y1 y2 y3 y4 y5 y6 y7 y8 y9 hx) (fun y0 y1 y2 y3 y4 y5 y6 y7 y8 y9 y10 y11 hx => Hb134 y0 y1 y2 y3 y4 y5 y6 y7 y8 y9 y10 y11 hx) hk
    · refine mj_iload dX13_rebuildRecord_268 10 rfl ?_
      refine mj_if_ne 282 dX13_rebuildRecord_270 (by decide) (fun z => t_negK hk z (fun hk => ?_)) (fun z => t_posK hk z (fun hk => ?_))
      · refine mj_aload_n dX13_rebuildRecord_282 0 rfl ?_
        refine mj_aload_n dX13_rebuildRecord_283 0 rfl ?_
        refine mj_iload_n dX13_rebuildRecord_284 1 rfl ?_
        refine mj_iload dX13_rebuildRecord_285 11 rfl ?_
        refine t_bndK hk (fun r2 er2 hk => ?_)
        refine t_callViP dX13_rebuildRecord_287 M_X13_partOf (C_X13_partOf _ _ _ _ er2) ML_X13_855 IM_X13_partOf SE_X13_partOf qc_950 rfl (As := [.int l1, .int l12]) rfl rfl (by omega) (Nat.le_of_ble_eq_true rfl) (Nat.le_of_ble_eq_true rfl) (Nat.le_of_ble_eq_true rfl) ?_
        refine t_bndK hk (fun r3 er3 hk => ?_)
        refine t_callVvE dX13_rebuildRecord_290 M_X13_addValue (C_X13_addValue _ _ _ er3) ML_X13_1422 IM_X13_addValue SE_X13_addValue qc_950 rfl (As := [.int r2]) rfl rfl (by omega) (Nat.le_of_ble_eq_true rfl) (Nat.le_of_ble_eq_true rfl) (Nat.le_of_ble_eq_true rfl) ?_
        refine mj_sublv [(0, .ref 950), (1, .int l1), (2, .int l2), (3, .int l3), (4, .int l4), (5, .int l5), (6, .int l6), (7, .int l7), (8, .int l8), (10, .int l10), (11, .int l11), (12, .int l12)] [0, 1, 2, 3, 4, 5, 6, 7, 8, 9, 10, 11] rfl ?_
        exact B_X13_rebuildRecord_293 rc H _ _ _ _ _ _ _ _ _ _ _ _ _ (fun y0 y1 y2 y3 y4 y5 y6 y7 y8 y9 hx => Hb122 y0 y1 y2 y3 y4 y5 y6 y7 y8 y9 hx) (fun y0 y1 y2 y3 y4 y5 y6 y7 y8 y9 y10 y11 hx => Hb134 y0 y1 y2 y3 y4 y5 y6 y7 y8 y9 y10 y11 hx) hk
      · refine mj_aload_n dX13_rebuildRecord_273 0 rfl ?_
        refine mj_lload dX13_rebuildRecord_274 12 rfl ?_
        refine t_bndK hk (fun r4 er4 hk => ?_)
        refine t_callVvE dX13_rebuildRecord_276 M_X13_add (C_X13_add _ _ _ er4) ML_X13_1419 IM_X13_add SE_X13_add qc_950 rfl (As := [.long l13]) rfl rfl (by omega) (Nat.le_of_ble_eq_true rfl) (Nat.le_of_ble_eq_true rfl) (Nat.le_of_ble_eq_true rfl) ?_
        refine mj_goto 293 dX13_rebuildRecord_279 (by decide) ?_
        refine mj_sublv [(0, .ref 950), (1, .int l1), (2, .int l2), (3, .int l3), (4, .int l4), (5, .int l5), (6, .int l6), (7, .int l7), (8, .int l8), (10, .int l10), (11, .int l11), (12, .int l12)] [0, 1, 2, 3, 4, 5, 6, 7, 8, 9, 10, 11] rfl ?_
        exact B_X13_rebuildRecord_293 rc H _ _ _ _ _ _ _ _ _ _ _ _ _ (fun y0 y1 y2 y3 y4 y5 y6 y7 y8 y9 hx => Hb122 y0 y1 y2 y3 y4 y5 y6 y7 y8 y9 hx) (fun y0 y1 y2 y3 y4 y5 y6 y7 y8 y9 y10 y11 hx => Hb134 y0 y1 y2 y3 y4 y5 y6 y7 y8 y9 y10 y11 hx) hk
noncomputable def k_X13_rebuildRecord_229 (rc : RT_X13_rebuild) (l1 : Int32) (l2 : Int32) (l3 : Int32) (l4 : Int32) (l5 : Int32) (l6 : Int32) (l7 : Int32) (l8 : Int32) (l10 : Int32) (l11 : Int32) (l12 : Int32) (l13 : Int64) (s : t_S) : Option ((Int32 × Int32 × Int32 × Int32 × Int32 × Int32 × Int32 × Int32 × Int32 × Int32 × Int32 × t_S) ⊕ ((Int32 × Int32 × Int32 × Int32 × Int32 × Int32 × Int32 × Int32 × Int32 × t_S) ⊕ (t_S))) :=
 if l7 = (0 : Int32) then (if t_ix l2 13000 = true then
  (rc.1 l6 (s.1 960 (l2.toNatClampNeg)) l3 l4 s).bind (fun r2 =>
 k_X13_rebuildRecord_249 rc l1 l2 l3 l4 l5 l6 l7 l8 l10 l11 l12 l13 r2)
else none)
 else (k_X13_rebuildRecord_249 rc l1 l2 l3 l4 l5 l6 l7 l8 l10 l11 l12 l13 s)
set_option maxRecDepth 4000 in
set_option maxHeartbeats 1000000 in
theorem B_X13_rebuildRecord_229 {D : va_G} {cy : Nat → ClassId} {ad : Nat → Nat} {bs : Nat} {X : State → Heap → Prop} (rc : RT_X13_rebuild) {k : Nat} (H : RH_X13_rebuild rc k) (l1 : Int32) (l2 : Int32) (l3 : Int32) (l4 : Int32) (l5 : Int32) (l6 : Int32) (l7 : Int32) (l8 : Int32) (l10 : Int32) (l11 : Int32) (l12 : Int32) (l13 : Int64) (s : t_S) (Q : (Int32 × Int32 × Int32 × Int32 × Int32 × Int32 × Int32 × Int32 × Int32 × Int32 × Int32 × t_S) ⊕ ((Int32 × Int32 × Int32 × Int32 × Int32 × Int32 × Int32 × Int32 × Int32 × t_S) ⊕ (t_S)) → Prop) (Hb122 : ∀ (y0 : Int32) (y1 : Int32) (y2 : Int32) (y3 : Int32) (y4 : Int32) (y5 : Int32) (y6 : Int32) (y7 : Int32) (y8 : Int32) (y9 : t_S), Q (.inr (.inl (y0, y1, y2, y3, y4, y5, y6, y7, y8, y9))) → mj_G D cy ad bs X cX13_rebuildRecord 15 yX13_rebuildRecord.cls none yX13_rebuildRecord.name (4 + (k + 1)) 0 0 1065 (t_P (fun v s' => v = none ∧ Q (.inr (.inr (s'))))) 122 [(0, .ref 950), (1, .int (y0)), (2, .int (y1)), (3, .int (y2)), (4, .int (y3)), (5, .int (y4)), (6, .int (y5)), (7, .int (y6)), (8, .int (y7)), (11, .int (y8))] [] (t_m y9) 1065 0 0) (Hb134 : ∀ (y0 : Int32) (y1 : Int32) (y2 : Int32) (y3 : Int32) (y4 : Int32) (y5 : Int32) (y6 : Int32) (y7 : Int32) (y8 : Int32) (y9 : Int32) (y10 : Int32) (y11 : t_S), Q (.inl (y0, y1, y2, y3, y4, y5, y6, y7, y8, y9, y10, y11)) → mj_G D cy ad bs X cX13_rebuildRecord 15 yX13_rebuildRecord.cls none yX13_rebuildRecord.name (4 + (k + 1)) 0 0 1065 (t_P (fun v s' => v = none ∧ Q (.inr (.inr (s'))))) 134 [(0, .ref 950), (1, .int (y0)), (2, .int (y1)), (3, .int (y2)), (4, .int (y3)), (5, .int (y4)), (6, .int (y5)), (7, .int (y6)), (8, .int (y7)), (10, .int (y8)), (11, .int (y9)), (12, .int (y10))] [] (t_m y11) 1065 0 0) (hk : t_hk (k_X13_rebuildRecord_229 rc l1 l2 l3 l4 l5 l6 l7 l8 l10 l11 l12 l13 s) Q) : mj_G D cy ad bs X cX13_rebuildRecord 15 yX13_rebuildRecord.cls none yX13_rebuildRecord.name (4 + (k + 1)) 0 0 1065 (t_P (fun v s' => v = none ∧ Q (.inr (.inr (s'))))) 229 [(0, .ref 950), (1, .int l1), (2, .int l2), (3, .int l3), (4, .int l4), (5, .int l5), (6, .int l6), (7, .int l7), (8, .int l8), (10, .int l10), (11, .int l11), (12, .int l12), (13, .long l13)] [] (t_m s) 1065 0 0 := by
  refine mj_iload dX13_rebuildRecord_229 7 rfl ?_
  refine mj_if_ne 249 dX13_rebuildRecord_231 (by decide) (fun z => t_negK hk z (fun hk => ?_)) (fun z => t_posK hk z (fun hk => ?_))
  · exact B_X13_rebuildRecord_249 rc H _ _ _ _ _ _ _ _ _ _ _ _ _ _ (fun y0 y1 y2 y3 y4 y5 y6 y7 y8 y9 hx => Hb122 y0 y1 y2 y3 y4 y5 y6 y7 y8 y9 hx) (fun y0 y1 y2 y3 y4 y5 y6 y7 y8 y9 y10 y11 hx => Hb134 y0 y1 y2 y3 y4 y5 y6 y7 y8 y9 y10 y11 hx) hk
  · refine mj_aload_n dX13_rebuildRecord_234 0 rfl ?_
    refine mj_iload dX13_rebuildRecord_235 6 rfl ?_
    refine mj_aload_n dX13_rebuildRecord_237 0 rfl ?_
    refine t_getR 960 dX13_rebuildRecord_238 F_X13_42 qr_950_22 ?_
    refine mj_iload_n dX13_rebuildRecord_241 2 rfl ?_
    refine t_chkK hk (fun c0 hk => ?_)
    refine t_iald dX13_rebuildRecord_242 qa_960 (t_ixv c0) ?_
    refine mj_iload_n dX13_rebuildRecord_243 3 rfl ?_
    refine mj_iload dX13_rebuildRecord_244 4 rfl ?_
    refine t_bndK hk (fun r2 er2 hk => ?_)
    refine t_callSvE dX13_rebuildRecord_246 M_X13_rebuild (H.1 _ _ _ _ _ _ er2) ML_X13_1415 SM_X13_rebuild (As := [.ref 950, .int l6, .int (s.1 960 (l2.toNatClampNeg)), .int l3, .int l4]) rfl rfl (by omega) (Nat.le_of_ble_eq_true rfl) (Nat.le_of_ble_eq_true rfl) (Nat.le_of_ble_eq_true rfl) ?_
    exact B_X13_rebuildRecord_249 rc H _ _ _ _ _ _ _ _ _ _ _ _ _ _ (fun y0 y1 y2 y3 y4 y5 y6 y7 y8 y9 hx => Hb122 y0 y1 y2 y3 y4 y5 y6 y7 y8 y9 hx) (fun y0 y1 y2 y3 y4 y5 y6 y7 y8 y9 y10 y11 hx => Hb134 y0 y1 y2 y3 y4 y5 y6 y7 y8 y9 y10 y11 hx) hk
noncomputable def k_X13_rebuildRecord_210 (rc : RT_X13_rebuild) (l1 : Int32) (l2 : Int32) (l3 : Int32) (l4 : Int32) (l5 : Int32) (l6 : Int32) (l7 : Int32) (l8 : Int32) (l10 : Int32) (l11 : Int32) (l12 : Int32) (l13 : Int64) (s : t_S) : Option ((Int32 × Int32 × Int32 × Int32 × Int32 × Int32 × Int32 × Int32 × Int32 × Int32 × Int32 × t_S) ⊕ ((Int32 × Int32 × Int32 × Int32 × Int32 × Int32 × Int32 × Int32 × Int32 × t_S) ⊕ (t_S))) :=
 if l7 = (0 : Int32) then (if l5 = (0 : Int32) then (k_X13_rebuildRecord_229 rc l1 l2 l3 l4 l5 l6 l7 l8 l10 l11 l12 l13 s)
 else ((f_X13_addValue l4 s).bind (fun r1 =>
 k_X13_rebuildRecord_249 rc l1 l2 l3 l4 l5 l6 l7 l8 l10 l11 l12 l13 r1)))
 else (k_X13_rebuildRecord_229 rc l1 l2 l3 l4 l5 l6 l7 l8 l10 l11 l12 l13 s)
set_option maxRecDepth 4000 in
set_option maxHeartbeats 1000000 in
theorem B_X13_rebuildRecord_210 {D : va_G} {cy : Nat → ClassId} {ad : Nat → Nat} {bs : Nat} {X : State → Heap → Prop} (rc : RT_X13_rebuild) {k : Nat} (H : RH_X13_rebuild rc k) (l1 : Int32) (l2 : Int32) (l3 : Int32) (l4 : Int32) (l5 : Int32) (l6 : Int32) (l7 : Int32) (l8 : Int32) (l10 : Int32) (l11 : Int32) (l12 : Int32) (l13 : Int64) (s : t_S) (Q : (Int32 × Int32 × Int32 × Int32 × Int32 × Int32 × Int32 × Int32 × Int32 × Int32 × Int32 × t_S) ⊕ ((Int32 × Int32 × Int32 × Int32 × Int32 × Int32 × Int32 × Int32 × Int32 × t_S) ⊕ (t_S)) → Prop) (Hb122 : ∀ (y0 : Int32) (y1 : Int32) (y2 : Int32) (y3 : Int32) (y4 : Int32) (y5 : Int32) (y6 : Int32) (y7 : Int32) (y8 : Int32) (y9 : t_S), Q (.inr (.inl (y0, y1, y2, y3, y4, y5, y6, y7, y8, y9))) → mj_G D cy ad bs X cX13_rebuildRecord 15 yX13_rebuildRecord.cls none yX13_rebuildRecord.name (4 + (k + 1)) 0 0 1065 (t_P (fun v s' => v = none ∧ Q (.inr (.inr (s'))))) 122 [(0, .ref 950), (1, .int (y0)), (2, .int (y1)), (3, .int (y2)), (4, .int (y3)), (5, .int (y4)), (6, .int (y5)), (7, .int (y6)), (8, .int (y7)), (11, .int (y8))] [] (t_m y9) 1065 0 0) (Hb134 : ∀ (y0 : Int32) (y1 : Int32) (y2 : Int32) (y3 : Int32) (y4 : Int32) (y5 : Int32) (y6 : Int32) (y7 : Int32) (y8 : Int32) (y9 : Int32) (y10 : Int32) (y11 : t_S), Q (.inl (y0, y1, y2, y3, y4, y5, y6, y7, y8, y9, y10, y11)) → mj_G D cy ad bs X cX13_rebuildRecord 15 yX13_rebuildRecord.cls none yX13_rebuildRecord.name (4 + (k + 1)) 0 0 1065 (t_P (fun v s' => v = none ∧ Q (.inr (.inr (s'))))) 134 [(0, .ref 950), (1, .int (y0)), (2, .int (y1)), (3, .int (y2)), (4, .int (y3)), (5, .int (y4)), (6, .int (y5)), (7, .int (y6)), (8, .int (y7)), (10, .int (y8)), (11, .int (y9)), (12, .int (y10))] [] (t_m y11) 1065 0 0) (hk : t_hk (k_X13_rebuildRecord_210 rc l1 l2 l3 l4 l5 l6 l7 l8 l10 l11 l12 l13 s) Q) : mj_G D cy ad bs X cX13_rebuildRecord 15 yX13_rebuildRecord.cls none yX13_rebuildRecord.name (4 + (k + 1)) 0 0 1065 (t_P (fun v s' => v = none ∧ Q (.inr (.inr (s'))))) 210 [(0, .ref 950), (1, .int l1), (2, .int l2), (3, .int l3), (4, .int l4), (5, .int l5), (6, .int l6), (7, .int l7), (8, .int l8), (10, .int l10), (11, .int l11), (12, .int l12), (13, .long l13)] [] (t_m s) 1065 0 0 := by
  refine mj_iload dX13_rebuildRecord_210 7 rfl ?_
  refine mj_if_ne 229 dX13_rebuildRecord_212 (by decide) (fun z => t_negK hk z (fun hk => ?_)) (fun z => t_posK hk z (fun hk => ?_))
  · exact B_X13_rebuildRecord_229 rc H _ _ _ _ _ _ _ _ _ _ _ _ _ _ (fun y0 y1 y2 y3 y4 y5 y6 y7 y8 y9 hx => Hb122 y0 y1 y2 y3 y4 y5 y6 y7 y8 y9 hx) (fun y0 y1 y2 y3 y4 y5 y6 y7 y8 y9 y10 y11 hx => Hb134 y0 y1 y2 y3 y4 y5 y6 y7 y8 y9 y10 y11 hx) hk
  · refine mj_iload dX13_rebuildRecord_215 5 rfl ?_
    refine mj_if_eq 229 dX13_rebuildRecord_217 (by decide) (fun z => t_posK hk z (fun hk => ?_)) (fun z => t_negK hk z (fun hk => ?_))
    · exact B_X13_rebuildRecord_229 rc H _ _ _ _ _ _ _ _ _ _ _ _ _ _ (fun y0 y1 y2 y3 y4 y5 y6 y7 y8 y9 hx => Hb122 y0 y1 y2 y3 y4 y5 y6 y7 y8 y9 hx) (fun y0 y1 y2 y3 y4 y5 y6 y7 y8 y9 y10 y11 hx => Hb134 y0 y1 y2 y3 y4 y5 y6 y7 y8 y9 y10 y11 hx) hk
    · refine mj_aload_n dX13_rebuildRecord_220 0 rfl ?_
      refine mj_iload dX13_rebuildRecord_221 4 rfl ?_
      refine t_bndK hk (fun r1 er1 hk => ?_)
      refine t_callVvE dX13_rebuildRecord_223 M_X13_addValue (C_X13_addValue _ _ _ er1) ML_X13_1422 IM_X13_addValue SE_X13_addValue qc_950 rfl (As := [.int l4]) rfl rfl (by omega) (Nat.le_of_ble_eq_true rfl) (Nat.le_of_ble_eq_true rfl) (Nat.le_of_ble_eq_true rfl) ?_
      refine mj_goto 249 dX13_rebuildRecord_226 (by decide) ?_
      exact B_X13_rebuildRecord_249 rc H _ _ _ _ _ _ _ _ _ _ _ _ _ _ (fun y0 y1 y2 y3 y4 y5 y6 y7 y8 y9 hx => Hb122 y0 y1 y2 y3 y4 y5 y6 y7 y8 y9 hx) (fun y0 y1 y2 y3 y4 y5 y6 y7 y8 y9 y10 y11 hx => Hb134 y0 y1 y2 y3 y4 y5 y6 y7 y8 y9 y10 y11 hx) hk
noncomputable def k_X13_rebuildRecord_165 (rc : RT_X13_rebuild) (l1 : Int32) (l2 : Int32) (l3 : Int32) (l4 : Int32) (l5 : Int32) (l6 : Int32) (l7 : Int32) (l8 : Int32) (l10 : Int32) (l11 : Int32) (l12 : Int32) (k0 : Int64) (s : t_S) : Option ((Int32 × Int32 × Int32 × Int32 × Int32 × Int32 × Int32 × Int32 × Int32 × Int32 × Int32 × t_S) ⊕ ((Int32 × Int32 × Int32 × Int32 × Int32 × Int32 × Int32 × Int32 × Int32 × t_S) ⊕ (t_S))) :=
 if l10 = (0 : Int32) then (if t_ix l2 13000 = true then
  if (lg_cmp k0 (s.2.1 957 (l2.toNatClampNeg))) < (0 : Int32) then (k_X13_rebuildRecord_249 rc l1 l2 l3 l4 l5 l6 l7 l8 l10 l11 l12 k0 s)
 else (if l7 = (0 : Int32) then (if l11 = (0 : Int32) then ((f_X13_add (s.2.1 957 (l2.toNatClampNeg)) s).bind (fun r2 =>
 k_X13_rebuildRecord_249 rc l1 l2 l3 l4 l5 l6 l7 l8 1 l11 l12 k0 r2))
 else (k_X13_rebuildRecord_210 rc l1 l2 l3 l4 l5 l6 l7 l8 1 l11 l12 k0 s))
 else (k_X13_rebuildRecord_210 rc l1 l2 l3 l4 l5 l6 l7 l8 1 l11 l12 k0 s))
else none)
 else (k_X13_rebuildRecord_249 rc l1 l2 l3 l4 l5 l6 l7 l8 l10 l11 l12 k0 s)
set_option maxRecDepth 4000 in
set_option maxHeartbeats 1000000 in
theorem B_X13_rebuildRecord_165 {D : va_G} {cy : Nat → ClassId} {ad : Nat → Nat} {bs : Nat} {X : State → Heap → Prop} (rc : RT_X13_rebuild) {k : Nat} (H : RH_X13_rebuild rc k) (l1 : Int32) (l2 : Int32) (l3 : Int32) (l4 : Int32) (l5 : Int32) (l6 : Int32) (l7 : Int32) (l8 : Int32) (l10 : Int32) (l11 : Int32) (l12 : Int32) (k0 : Int64) (s : t_S) (Q : (Int32 × Int32 × Int32 × Int32 × Int32 × Int32 × Int32 × Int32 × Int32 × Int32 × Int32 × t_S) ⊕ ((Int32 × Int32 × Int32 × Int32 × Int32 × Int32 × Int32 × Int32 × Int32 × t_S) ⊕ (t_S)) → Prop) (Hb122 : ∀ (y0 : Int32) (y1 : Int32) (y2 : Int32) (y3 : Int32) (y4 : Int32) (y5 : Int32) (y6 : Int32) (y7 : Int32) (y8 : Int32) (y9 : t_S), Q (.inr (.inl (y0, y1, y2, y3, y4, y5, y6, y7, y8, y9))) → mj_G D cy ad bs X cX13_rebuildRecord 15 yX13_rebuildRecord.cls none yX13_rebuildRecord.name (4 + (k + 1)) 0 0 1065 (t_P (fun v s' => v = none ∧ Q (.inr (.inr (s'))))) 122 [(0, .ref 950), (1, .int (y0)), (2, .int (y1)), (3, .int (y2)), (4, .int (y3)), (5, .int (y4)), (6, .int (y5)), (7, .int (y6)), (8, .int (y7)), (11, .int (y8))] [] (t_m y9) 1065 0 0) (Hb134 : ∀ (y0 : Int32) (y1 : Int32) (y2 : Int32) (y3 : Int32) (y4 : Int32) (y5 : Int32) (y6 : Int32) (y7 : Int32) (y8 : Int32) (y9 : Int32) (y10 : Int32) (y11 : t_S), Q (.inl (y0, y1, y2, y3, y4, y5, y6, y7, y8, y9, y10, y11)) → mj_G D cy ad bs X cX13_rebuildRecord 15 yX13_rebuildRecord.cls none yX13_rebuildRecord.name (4 + (k + 1)) 0 0 1065 (t_P (fun v s' => v = none ∧ Q (.inr (.inr (s'))))) 134 [(0, .ref 950), (1, .int (y0)), (2, .int (y1)), (3, .int (y2)), (4, .int (y3)), (5, .int (y4)), (6, .int (y5)), (7, .int (y6)), (8, .int (y7)), (10, .int (y8)), (11, .int (y9)), (12, .int (y10))] [] (t_m y11) 1065 0 0) (hk : t_hk (k_X13_rebuildRecord_165 rc l1 l2 l3 l4 l5 l6 l7 l8 l10 l11 l12 k0 s) Q) : mj_G D cy ad bs X cX13_rebuildRecord 15 yX13_rebuildRecord.cls none yX13_rebuildRecord.name (4 + (k + 1)) 0 0 1065 (t_P (fun v s' => v = none ∧ Q (.inr (.inr (s'))))) 165 [(0, .ref 950), (1, .int l1), (2, .int l2), (3, .int l3), (4, .int l4), (5, .int l5), (6, .int l6), (7, .int l7), (8, .int l8), (10, .int l10), (11, .int l11), (12, .int l12)] [.long k0] (t_m s) 1065 0 0 := by
  refine mj_lstore (lv2 := [(13, .long k0), (0, .ref 950), (1, .int l1), (2, .int l2), (3, .int l3), (4, .int l4), (5, .int l5), (6, .int l6), (7, .int l7), (8, .int l8), (10, .int l10), (11, .int l11), (12, .int l12)]) dX13_rebuildRecord_165 (by decide) rfl ?_
  refine mj_iload dX13_rebuildRecord_167 10 rfl ?_
  refine mj_if_ne 249 dX13_rebuildRecord_169 (by decide) (fun z => t_negK hk z (fun hk => ?_)) (fun z => t_posK hk z (fun hk => ?_))
  · refine mj_sublv [(0, .ref 950), (1, .int l1), (2, .int l2), (3, .int l3), (4, .int l4), (5, .int l5), (6, .int l6), (7, .int l7), (8, .int l8), (10, .int l10), (11, .int l11), (12, .int l12), (13, .long k0)] [1, 2, 3, 4, 5, 6, 7, 8, 9, 10, 11, 12, 0] rfl ?_
    exact B_X13_rebuildRecord_249 rc H _ _ _ _ _ _ _ _ _ _ _ _ _ _ (fun y0 y1 y2 y3 y4 y5 y6 y7 y8 y9 hx => Hb122 y0 y1 y2 y3 y4 y5 y6 y7 y8 y9 hx) (fun y0 y1 y2 y3 y4 y5 y6 y7 y8 y9 y10 y11 hx => Hb134 y0 y1 y2 y3 y4 y5 y6 y7 y8 y9 y10 y11 hx) hk
  · refine mj_lload dX13_rebuildRecord_172 0 rfl ?_
    refine mj_aload_n dX13_rebuildRecord_174 1 rfl ?_
    refine t_getR 957 dX13_rebuildRecord_175 F_X13_32 qr_950_19 ?_
    refine mj_iload_n dX13_rebuildRecord_178 3 rfl ?_
    refine t_chkK hk (fun c0 hk => ?_)
    refine t_lald dX13_rebuildRecord_179 qa_957 (t_ixv c0) ?_
    refine mj_lcmp dX13_rebuildRecord_180 ?_
    refine mj_if_lt 249 dX13_rebuildRecord_181 (by decide) (fun z => t_posK hk z (fun hk => ?_)) (fun z => t_negK hk z (fun hk => ?_))
    · refine mj_sublv [(0, .ref 950), (1, .int l1), (2, .int l2), (3, .int l3), (4, .int l4), (5, .int l5), (6, .int l6), (7, .int l7), (8, .int l8), (10, .int l10), (11, .int l11), (12, .int l12), (13, .long k0)] [1, 2, 3, 4, 5, 6, 7, 8, 9, 10, 11, 12, 0] rfl ?_
      exact B_X13_rebuildRecord_249 rc H _ _ _ _ _ _ _ _ _ _ _ _ _ _ (fun y0 y1 y2 y3 y4 y5 y6 y7 y8 y9 hx => Hb122 y0 y1 y2 y3 y4 y5 y6 y7 y8 y9 hx) (fun y0 y1 y2 y3 y4 y5 y6 y7 y8 y9 y10 y11 hx => Hb134 y0 y1 y2 y3 y4 y5 y6 y7 y8 y9 y10 y11 hx) hk
    · refine mj_iconst (v := 1) dX13_rebuildRecord_184 (by decide) ?_
      refine mj_istore (lv2 := [(10, .int 1), (13, .long k0), (0, .ref 950), (1, .int l1), (2, .int l2), (3, .int l3), (4, .int l4), (5, .int l5), (6, .int l6), (7, .int l7), (8, .int l8), (11, .int l11), (12, .int l12)]) dX13_rebuildRecord_185 (by decide) rfl ?_
      refine mj_iload dX13_rebuildRecord_187 9 rfl ?_
      refine mj_if_ne 210 dX13_rebuildRecord_189 (by decide) (fun z => t_negK hk z (fun hk => ?_)) (fun z => t_posK hk z (fun hk => ?_))
      · refine mj_sublv [(0, .ref 950), (1, .int l1), (2, .int l2), (3, .int l3), (4, .int l4), (5, .int l5), (6, .int l6), (7, .int l7), (8, .int l8), (10, .int 1), (11, .int l11), (12, .int l12), (13, .long k0)] [2, 3, 4, 5, 6, 7, 8, 9, 10, 0, 11, 12, 1] rfl ?_
        exact B_X13_rebuildRecord_210 rc H _ _ _ _ _ _ _ _ _ _ _ _ _ _ (fun y0 y1 y2 y3 y4 y5 y6 y7 y8 y9 hx => Hb122 y0 y1 y2 y3 y4 y5 y6 y7 y8 y9 hx) (fun y0 y1 y2 y3 y4 y5 y6 y7 y8 y9 y10 y11 hx => Hb134 y0 y1 y2 y3 y4 y5 y6 y7 y8 y9 y10 y11 hx) hk
      · refine mj_iload dX13_rebuildRecord_192 11 rfl ?_
        refine mj_if_ne 210 dX13_rebuildRecord_194 (by decide) (fun z => t_negK hk z (fun hk => ?_)) (fun z => t_posK hk z (fun hk => ?_))
        · refine mj_sublv [(0, .ref 950), (1, .int l1), (2, .int l2), (3, .int l3), (4, .int l4), (5, .int l5), (6, .int l6), (7, .int l7), (8, .int l8), (10, .int 1), (11, .int l11), (12, .int l12), (13, .long k0)] [2, 3, 4, 5, 6, 7, 8, 9, 10, 0, 11, 12, 1] rfl ?_
          exact B_X13_rebuildRecord_210 rc H _ _ _ _ _ _ _ _ _ _ _ _ _ _ (fun y0 y1 y2 y3 y4 y5 y6 y7 y8 y9 hx => Hb122 y0 y1 y2 y3 y4 y5 y6 y7 y8 y9 hx) (fun y0 y1 y2 y3 y4 y5 y6 y7 y8 y9 y10 y11 hx => Hb134 y0 y1 y2 y3 y4 y5 y6 y7 y8 y9 y10 y11 hx) hk
        · refine mj_aload_n dX13_rebuildRecord_197 2 rfl ?_
          refine mj_aload_n dX13_rebuildRecord_198 2 rfl ?_
          refine t_getR 957 dX13_rebuildRecord_199 F_X13_32 qr_950_19 ?_
          refine mj_iload_n dX13_rebuildRecord_202 4 rfl ?_
          refine t_lald dX13_rebuildRecord_203 qa_957 (t_ixv c0) ?_
          refine t_bndK hk (fun r2 er2 hk => ?_)
          refine t_callVvE dX13_rebuildRecord_204 M_X13_add (C_X13_add _ _ _ er2) ML_X13_1419 IM_X13_add SE_X13_add qc_950 rfl (As := [.long (s.2.1 957 (l2.toNatClampNeg))]) rfl rfl (by omega) (Nat.le_of_ble_eq_true rfl) (Nat.le_of_ble_eq_true rfl) (Nat.le_of_ble_eq_true rfl) ?_
          refine mj_goto 249 dX13_rebuildRecord_207 (by decide) ?_
          refine mj_sublv [(0, .ref 950), (1, .int l1), (2, .int l2), (3, .int l3), (4, .int l4), (5, .int l5), (6, .int l6), (7, .int l7), (8, .int l8), (10, .int 1), (11, .int l11), (12, .int l12), (13, .long k0)] [2, 3, 4, 5, 6, 7, 8, 9, 10, 0, 11, 12, 1] rfl ?_
          exact B_X13_rebuildRecord_249 rc H _ _ _ _ _ _ _ _ _ _ _ _ _ _ (fun y0 y1 y2 y3 y4 y5 y6 y7 y8 y9 hx => Hb122 y0 y1 y2 y3 y4 y5 y6 y7 y8 y9 hx) (fun y0 y1 y2 y3 y4 y5 y6 y7 y8 y9 y10 y11 hx => Hb134 y0 y1 y2 y3 y4 y5 y6 y7 y8 y9 y10 y11 hx) hk
noncomputable def k_X13_rebuildRecord_134 (rc : RT_X13_rebuild) (l1 : Int32) (l2 : Int32) (l3 : Int32) (l4 : Int32) (l5 : Int32) (l6 : Int32) (l7 : Int32) (l8 : Int32) (l10 : Int32) (l11 : Int32) (l12 : Int32) (s : t_S) : Option ((Int32 × Int32 × Int32 × Int32 × Int32 × Int32 × Int32 × Int32 × Int32 × Int32 × Int32 × t_S) ⊕ ((Int32 × Int32 × Int32 × Int32 × Int32 × Int32 × Int32 × Int32 × Int32 × t_S) ⊕ (t_S))) :=
 if l8 < l12 then ((some (.inl (l1, l2, l3, l4, l5, l6, l7, l8, (l11 + 1), s))).map Sum.inr)
 else (if l8 ≤ l12 then (k_X13_rebuildRecord_165 rc l1 l2 l3 l4 l5 l6 l7 l8 l10 l11 l12 9223372036854775807 s)
 else (if t_ix ((l1 + (2 : Int32)) + l12) 626600 = true then
  k_X13_rebuildRecord_165 rc l1 l2 l3 l4 l5 l6 l7 l8 l10 l11 l12 (s.2.1 1006 (((l1 + (2 : Int32)) + l12).toNatClampNeg)) s
else none))
set_option maxRecDepth 4000 in
set_option maxHeartbeats 1000000 in
theorem B_X13_rebuildRecord_134 {D : va_G} {cy : Nat → ClassId} {ad : Nat → Nat} {bs : Nat} {X : State → Heap → Prop} (rc : RT_X13_rebuild) {k : Nat} (H : RH_X13_rebuild rc k) (l1 : Int32) (l2 : Int32) (l3 : Int32) (l4 : Int32) (l5 : Int32) (l6 : Int32) (l7 : Int32) (l8 : Int32) (l10 : Int32) (l11 : Int32) (l12 : Int32) (s : t_S) (Q : (Int32 × Int32 × Int32 × Int32 × Int32 × Int32 × Int32 × Int32 × Int32 × Int32 × Int32 × t_S) ⊕ ((Int32 × Int32 × Int32 × Int32 × Int32 × Int32 × Int32 × Int32 × Int32 × t_S) ⊕ (t_S)) → Prop) (Hb122 : ∀ (y0 : Int32) (y1 : Int32) (y2 : Int32) (y3 : Int32) (y4 : Int32) (y5 : Int32) (y6 : Int32) (y7 : Int32) (y8 : Int32) (y9 : t_S), Q (.inr (.inl (y0, y1, y2, y3, y4, y5, y6, y7, y8, y9))) → mj_G D cy ad bs X cX13_rebuildRecord 15 yX13_rebuildRecord.cls none yX13_rebuildRecord.name (4 + (k + 1)) 0 0 1065 (t_P (fun v s' => v = none ∧ Q (.inr (.inr (s'))))) 122 [(0, .ref 950), (1, .int (y0)), (2, .int (y1)), (3, .int (y2)), (4, .int (y3)), (5, .int (y4)), (6, .int (y5)), (7, .int (y6)), (8, .int (y7)), (11, .int (y8))] [] (t_m y9) 1065 0 0) (Hb134 : ∀ (y0 : Int32) (y1 : Int32) (y2 : Int32) (y3 : Int32) (y4 : Int32) (y5 : Int32) (y6 : Int32) (y7 : Int32) (y8 : Int32) (y9 : Int32) (y10 : Int32) (y11 : t_S), Q (.inl (y0, y1, y2, y3, y4, y5, y6, y7, y8, y9, y10, y11)) → mj_G D cy ad bs X cX13_rebuildRecord 15 yX13_rebuildRecord.cls none yX13_rebuildRecord.name (4 + (k + 1)) 0 0 1065 (t_P (fun v s' => v = none ∧ Q (.inr (.inr (s'))))) 134 [(0, .ref 950), (1, .int (y0)), (2, .int (y1)), (3, .int (y2)), (4, .int (y3)), (5, .int (y4)), (6, .int (y5)), (7, .int (y6)), (8, .int (y7)), (10, .int (y8)), (11, .int (y9)), (12, .int (y10))] [] (t_m y11) 1065 0 0) (hk : t_hk (k_X13_rebuildRecord_134 rc l1 l2 l3 l4 l5 l6 l7 l8 l10 l11 l12 s) Q) : mj_G D cy ad bs X cX13_rebuildRecord 15 yX13_rebuildRecord.cls none yX13_rebuildRecord.name (4 + (k + 1)) 0 0 1065 (t_P (fun v s' => v = none ∧ Q (.inr (.inr (s'))))) 134 [(0, .ref 950), (1, .int l1), (2, .int l2), (3, .int l3), (4, .int l4), (5, .int l5), (6, .int l6), (7, .int l7), (8, .int l8), (10, .int l10), (11, .int l11), (12, .int l12)] [] (t_m s) 1065 0 0 := by
  refine mj_iload dX13_rebuildRecord_134 11 rfl ?_
  refine mj_iload dX13_rebuildRecord_136 8 rfl ?_
  refine mj_icmp_gt 299 dX13_rebuildRecord_138 (by decide) (fun z => t_posK hk z (fun hk => ?_)) (fun z => t_negK hk z (fun hk => ?_))
  · refine t_mapK hk (fun hk => ?_)
    refine mj_iinc (k := 10) (v := (l11 + 1)) (lv2 := [(11, .int (l11 + 1)), (0, .ref 950), (1, .int l1), (2, .int l2), (3, .int l3), (4, .int l4), (5, .int l5), (6, .int l6), (7, .int l7), (8, .int l8), (10, .int l10), (12, .int l12)]) dX13_rebuildRecord_299 rfl rfl (by decide) rfl ?_
    refine mj_goto 122 dX13_rebuildRecord_302 (by decide) ?_
    refine mj_sublv [(0, .ref 950), (1, .int l1), (2, .int l2), (3, .int l3), (4, .int l4), (5, .int l5), (6, .int l6), (7, .int l7), (8, .int l8), (11, .int (l11 + 1))] [1, 2, 3, 4, 5, 6, 7, 8, 9, 0] rfl ?_
    exact t_somK hk (fun hf => Hb122 l1 l2 l3 l4 l5 l6 l7 l8 (l11 + 1) s hf)
  · refine mj_iload dX13_rebuildRecord_141 11 rfl ?_
    refine mj_iload dX13_rebuildRecord_143 8 rfl ?_
    refine mj_icmp_ge 162 dX13_rebuildRecord_145 (by decide) (fun z => t_posK hk z (fun hk => ?_)) (fun z => t_negK hk z (fun hk => ?_))
    · refine mj_ldc2 dX13_rebuildRecord_162 K_X13_1434 ?_
      exact B_X13_rebuildRecord_165 rc H _ _ _ _ _ _ _ _ _ _ _ _ _ _ (fun y0 y1 y2 y3 y4 y5 y6 y7 y8 y9 hx => Hb122 y0 y1 y2 y3 y4 y5 y6 y7 y8 y9 hx) (fun y0 y1 y2 y3 y4 y5 y6 y7 y8 y9 y10 y11 hx => Hb134 y0 y1 y2 y3 y4 y5 y6 y7 y8 y9 y10 y11 hx) hk
    · refine mj_aload_n dX13_rebuildRecord_148 0 rfl ?_
      refine t_getR 1006 dX13_rebuildRecord_149 F_X13_182 qr_950_95 ?_
      refine mj_iload_n dX13_rebuildRecord_152 1 rfl ?_
      refine mj_iconst (v := 2) dX13_rebuildRecord_153 (by decide) ?_
      refine mj_iadd dX13_rebuildRecord_154 ?_
      refine mj_iload dX13_rebuildRecord_155 11 rfl ?_
      refine mj_iadd dX13_rebuildRecord_157 ?_
      refine t_chkK hk (fun c0 hk => ?_)
      refine t_lald dX13_rebuildRecord_158 qa_1006 (t_ixv c0) ?_
      refine mj_goto 165 dX13_rebuildRecord_159 (by decide) ?_
      exact B_X13_rebuildRecord_165 rc H _ _ _ _ _ _ _ _ _ _ _ _ _ _ (fun y0 y1 y2 y3 y4 y5 y6 y7 y8 y9 hx => Hb122 y0 y1 y2 y3 y4 y5 y6 y7 y8 y9 hx) (fun y0 y1 y2 y3 y4 y5 y6 y7 y8 y9 y10 y11 hx => Hb134 y0 y1 y2 y3 y4 y5 y6 y7 y8 y9 y10 y11 hx) hk
noncomputable def b_X13_rebuildRecord_134 (rc : RT_X13_rebuild) (x : Int32 × Int32 × Int32 × Int32 × Int32 × Int32 × Int32 × Int32 × Int32 × Int32 × Int32 × t_S) : Option ((Int32 × Int32 × Int32 × Int32 × Int32 × Int32 × Int32 × Int32 × Int32 × Int32 × Int32 × t_S) ⊕ ((Int32 × Int32 × Int32 × Int32 × Int32 × Int32 × Int32 × Int32 × Int32 × t_S) ⊕ (t_S))) := k_X13_rebuildRecord_134 rc x.1 x.2.1 x.2.2.1 x.2.2.2.1 x.2.2.2.2.1 x.2.2.2.2.2.1 x.2.2.2.2.2.2.1 x.2.2.2.2.2.2.2.1 x.2.2.2.2.2.2.2.2.1 x.2.2.2.2.2.2.2.2.2.1 x.2.2.2.2.2.2.2.2.2.2.1 x.2.2.2.2.2.2.2.2.2.2.2
set_option maxRecDepth 4000 in
set_option maxHeartbeats 1000000 in
theorem LH_X13_rebuildRecord_134 {D : va_G} {cy : Nat → ClassId} {ad : Nat → Nat} {bs : Nat} {X : State → Heap → Prop} (rc : RT_X13_rebuild) {k : Nat} (H : RH_X13_rebuild rc k) : ∀ (n : Nat) (y0 : Int32) (y1 : Int32) (y2 : Int32) (y3 : Int32) (y4 : Int32) (y5 : Int32) (y6 : Int32) (y7 : Int32) (y8 : Int32) (y9 : Int32) (y10 : Int32) (y11 : t_S) (Q : (Int32 × Int32 × Int32 × Int32 × Int32 × Int32 × Int32 × Int32 × Int32 × t_S) ⊕ (t_S) → Prop) (Hb122 : ∀ (y0 : Int32) (y1 : Int32) (y2 : Int32) (y3 : Int32) (y4 : Int32) (y5 : Int32) (y6 : Int32) (y7 : Int32) (y8 : Int32) (y9 : t_S), Q (.inl (y0, y1, y2, y3, y4, y5, y6, y7, y8, y9)) → mj_G D cy ad bs X cX13_rebuildRecord 15 yX13_rebuildRecord.cls none yX13_rebuildRecord.name (4 + (k + 1)) 0 0 1065 (t_P (fun v s' => v = none ∧ Q (.inr (s')))) 122 [(0, .ref 950), (1, .int (y0)), (2, .int (y1)), (3, .int (y2)), (4, .int (y3)), (5, .int (y4)), (6, .int (y5)), (7, .int (y6)), (8, .int (y7)), (11, .int (y8))] [] (t_m y9) 1065 0 0) (hk : t_hk (t_loop (b_X13_rebuildRecord_134 rc) n (y0, y1, y2, y3, y4, y5, y6, y7, y8, y9, y10, y11)) Q), mj_G D cy ad bs X cX13_rebuildRecord 15 yX13_rebuildRecord.cls none yX13_rebuildRecord.name (4 + (k + 1)) 0 0 1065 (t_P (fun v s' => v = none ∧ Q (.inr (s')))) 134 [(0, .ref 950), (1, .int (y0)), (2, .int (y1)), (3, .int (y2)), (4, .int (y3)), (5, .int (y4)), (6, .int (y5)), (7, .int (y6)), (8, .int (y7)), (10, .int (y8)), (11, .int (y9)), (12, .int (y10))] [] (t_m y11) 1065 0 0 := by
  intro n
  induction n with
  | zero => intro y0 y1 y2 y3 y4 y5 y6 y7 y8 y9 y10 y11 Q Hb122 hk; obtain ⟨r, hr, _⟩ := hk; cases hr
  | succ n ih =>
    intro y0 y1 y2 y3 y4 y5 y6 y7 y8 y9 y10 y11 Q Hb122 hk
    exact B_X13_rebuildRecord_134 rc H y0 y1 y2 y3 y4 y5 y6 y7 y8 y9 y10 y11 (fun y => t_lq (b_X13_rebuildRecord_134 rc) n Q y) (fun y0' y1' y2' y3' y4' y5' y6' y7' y8' y9' hy => Hb122 y0' y1' y2' y3' y4' y5' y6' y7' y8' y9' hy) (fun y0' y1' y2' y3' y4' y5' y6' y7' y8' y9' y10' y11' hy => ih y0' y1' y2' y3' y4' y5' y6' y7' y8' y9' y10' y11' Q Hb122 hy) (t_lp (b := b_X13_rebuildRecord_134 rc) (n := n) (x := (y0, y1, y2, y3, y4, y5, y6, y7, y8, y9, y10, y11)) hk)
noncomputable def k_X13_rebuildRecord_122 (rc : RT_X13_rebuild) (l1 : Int32) (l2 : Int32) (l3 : Int32) (l4 : Int32) (l5 : Int32) (l6 : Int32) (l7 : Int32) (l8 : Int32) (l11 : Int32) (s : t_S) : Option ((Int32 × Int32 × Int32 × Int32 × Int32 × Int32 × Int32 × Int32 × Int32 × t_S) ⊕ (t_S)) :=
 if (2 : Int32) ≤ l11 then ((some (s)).map Sum.inr)
 else (t_loop (b_X13_rebuildRecord_134 rc) t_N (l1, l2, l3, l4, l5, l6, l7, l8, 0, l11, 0, s))
set_option maxRecDepth 4000 in
set_option maxHeartbeats 1000000 in
theorem B_X13_rebuildRecord_122 {D : va_G} {cy : Nat → ClassId} {ad : Nat → Nat} {bs : Nat} {X : State → Heap → Prop} (rc : RT_X13_rebuild) {k : Nat} (H : RH_X13_rebuild rc k) (l1 : Int32) (l2 : Int32) (l3 : Int32) (l4 : Int32) (l5 : Int32) (l6 : Int32) (l7 : Int32) (l8 : Int32) (l11 : Int32) (s : t_S) (Q : (Int32 × Int32 × Int32 × Int32 × Int32 × Int32 × Int32 × Int32 × Int32 × t_S) ⊕ (t_S) → Prop) (Hb122 : ∀ (y0 : Int32) (y1 : Int32) (y2 : Int32) (y3 : Int32) (y4 : Int32) (y5 : Int32) (y6 : Int32) (y7 : Int32) (y8 : Int32) (y9 : t_S), Q (.inl (y0, y1, y2, y3, y4, y5, y6, y7, y8, y9)) → mj_G D cy ad bs X cX13_rebuildRecord 15 yX13_rebuildRecord.cls none yX13_rebuildRecord.name (4 + (k + 1)) 0 0 1065 (t_P (fun v s' => v = none ∧ Q (.inr (s')))) 122 [(0, .ref 950), (1, .int (y0)), (2, .int (y1)), (3, .int (y2)), (4, .int (y3)), (5, .int (y4)), (6, .int (y5)), (7, .int (y6)), (8, .int (y7)), (11, .int (y8))] [] (t_m y9) 1065 0 0) (hk : t_hk (k_X13_rebuildRecord_122 rc l1 l2 l3 l4 l5 l6 l7 l8 l11 s) Q) : mj_G D cy ad bs X cX13_rebuildRecord 15 yX13_rebuildRecord.cls none yX13_rebuildRecord.name (4 + (k + 1)) 0 0 1065 (t_P (fun v s' => v = none ∧ Q (.inr (s')))) 122 [(0, .ref 950), (1, .int l1), (2, .int l2), (3, .int l3), (4, .int l4), (5, .int l5), (6, .int l6), (7, .int l7), (8, .int l8), (11, .int l11)] [] (t_m s) 1065 0 0 := by
  refine mj_iload dX13_rebuildRecord_122 9 rfl ?_
  refine mj_iconst (v := 2) dX13_rebuildRecord_124 (by decide) ?_
  refine mj_icmp_ge 305 dX13_rebuildRecord_125 (by decide) (fun z => t_posK hk z (fun hk => ?_)) (fun z => t_negK hk z (fun hk => ?_))
  · refine t_mapK hk (fun hk => ?_)
    exact t_somK hk (fun hf => t_vret dX13_rebuildRecord_305 rfl ⟨rfl, hf⟩ (Nat.le_of_ble_eq_true rfl) (Nat.le_of_ble_eq_true rfl))
  · refine mj_iconst (v := 0) dX13_rebuildRecord_128 (by decide) ?_
    refine mj_istore (lv2 := [(10, .int 0), (0, .ref 950), (1, .int l1), (2, .int l2), (3, .int l3), (4, .int l4), (5, .int l5), (6, .int l6), (7, .int l7), (8, .int l8), (11, .int l11)]) dX13_rebuildRecord_129 (by decide) rfl ?_
    refine mj_iconst (v := 0) dX13_rebuildRecord_131 (by decide) ?_
    refine mj_istore (lv2 := [(12, .int 0), (10, .int 0), (0, .ref 950), (1, .int l1), (2, .int l2), (3, .int l3), (4, .int l4), (5, .int l5), (6, .int l6), (7, .int l7), (8, .int l8), (11, .int l11)]) dX13_rebuildRecord_132 (by decide) rfl ?_
    refine mj_sublv [(0, .ref 950), (1, .int l1), (2, .int l2), (3, .int l3), (4, .int l4), (5, .int l5), (6, .int l6), (7, .int l7), (8, .int l8), (10, .int 0), (11, .int l11), (12, .int 0)] [2, 3, 4, 5, 6, 7, 8, 9, 10, 1, 11, 0] rfl ?_
    exact LH_X13_rebuildRecord_134 rc H _ l1 l2 l3 l4 l5 l6 l7 l8 0 l11 0 s _ (fun y0 y1 y2 y3 y4 y5 y6 y7 y8 y9 hx => Hb122 y0 y1 y2 y3 y4 y5 y6 y7 y8 y9 hx) hk
noncomputable def b_X13_rebuildRecord_122 (rc : RT_X13_rebuild) (x : Int32 × Int32 × Int32 × Int32 × Int32 × Int32 × Int32 × Int32 × Int32 × t_S) : Option ((Int32 × Int32 × Int32 × Int32 × Int32 × Int32 × Int32 × Int32 × Int32 × t_S) ⊕ (t_S)) := k_X13_rebuildRecord_122 rc x.1 x.2.1 x.2.2.1 x.2.2.2.1 x.2.2.2.2.1 x.2.2.2.2.2.1 x.2.2.2.2.2.2.1 x.2.2.2.2.2.2.2.1 x.2.2.2.2.2.2.2.2.1 x.2.2.2.2.2.2.2.2.2
set_option maxRecDepth 4000 in
set_option maxHeartbeats 1000000 in
theorem LH_X13_rebuildRecord_122 {D : va_G} {cy : Nat → ClassId} {ad : Nat → Nat} {bs : Nat} {X : State → Heap → Prop} (rc : RT_X13_rebuild) {k : Nat} (H : RH_X13_rebuild rc k) : ∀ (n : Nat) (y0 : Int32) (y1 : Int32) (y2 : Int32) (y3 : Int32) (y4 : Int32) (y5 : Int32) (y6 : Int32) (y7 : Int32) (y8 : Int32) (y9 : t_S) (Q : t_S → Prop) (hk : t_hk (t_loop (b_X13_rebuildRecord_122 rc) n (y0, y1, y2, y3, y4, y5, y6, y7, y8, y9)) Q), mj_G D cy ad bs X cX13_rebuildRecord 15 yX13_rebuildRecord.cls none yX13_rebuildRecord.name (4 + (k + 1)) 0 0 1065 (t_P (fun v s' => v = none ∧ Q (s'))) 122 [(0, .ref 950), (1, .int (y0)), (2, .int (y1)), (3, .int (y2)), (4, .int (y3)), (5, .int (y4)), (6, .int (y5)), (7, .int (y6)), (8, .int (y7)), (11, .int (y8))] [] (t_m y9) 1065 0 0 := by
  intro n
  induction n with
  | zero => intro y0 y1 y2 y3 y4 y5 y6 y7 y8 y9 Q hk; obtain ⟨r, hr, _⟩ := hk; cases hr
  | succ n ih =>
    intro y0 y1 y2 y3 y4 y5 y6 y7 y8 y9 Q hk
    exact B_X13_rebuildRecord_122 rc H y0 y1 y2 y3 y4 y5 y6 y7 y8 y9 (fun y => t_lq (b_X13_rebuildRecord_122 rc) n Q y) (fun y0' y1' y2' y3' y4' y5' y6' y7' y8' y9' hy => ih y0' y1' y2' y3' y4' y5' y6' y7' y8' y9' Q hy) (t_lp (b := b_X13_rebuildRecord_122 rc) (n := n) (x := (y0, y1, y2, y3, y4, y5, y6, y7, y8, y9)) hk)
noncomputable def k_X13_rebuildRecord_99 (rc : RT_X13_rebuild) (l1 : Int32) (l2 : Int32) (l3 : Int32) (l4 : Int32) (l5 : Int32) (l6 : Int32) (l7 : Int32) (l8 : Int32) (k0 : Int32) (k1 : Int32) (s : t_S) : Option (t_S) :=
 (f_X13_add (6 : Int64) s).bind (fun r1 =>
 (f_X13_add ((k1 - k0).toInt64) r1).bind (fun r2 =>
 t_loop (b_X13_rebuildRecord_122 rc) t_N (l1, l2, l3, l4, l5, l6, l7, l8, 0, r2)))
set_option maxRecDepth 4000 in
set_option maxHeartbeats 1000000 in
theorem B_X13_rebuildRecord_99 {D : va_G} {cy : Nat → ClassId} {ad : Nat → Nat} {bs : Nat} {X : State → Heap → Prop} (rc : RT_X13_rebuild) {k : Nat} (H : RH_X13_rebuild rc k) (l1 : Int32) (l2 : Int32) (l3 : Int32) (l4 : Int32) (l5 : Int32) (l6 : Int32) (l7 : Int32) (l8 : Int32) (k0 : Int32) (k1 : Int32) (s : t_S) (Q : t_S → Prop) (hk : t_hk (k_X13_rebuildRecord_99 rc l1 l2 l3 l4 l5 l6 l7 l8 k0 k1 s) Q) : mj_G D cy ad bs X cX13_rebuildRecord 15 yX13_rebuildRecord.cls none yX13_rebuildRecord.name (4 + (k + 1)) 0 0 1065 (t_P (fun v s' => v = none ∧ Q (s'))) 99 [(0, .ref 950), (1, .int l1), (2, .int l2), (3, .int l3), (4, .int l4), (5, .int l5), (6, .int l6), (7, .int l7), (8, .int l8)] [.int k0, .int k1] (t_m s) 1065 0 0 := by
  refine mj_isub dX13_rebuildRecord_99 ?_
  refine mj_istore (lv2 := [(9, .int (k1 - k0)), (0, .ref 950), (1, .int l1), (2, .int l2), (3, .int l3), (4, .int l4), (5, .int l5), (6, .int l6), (7, .int l7), (8, .int l8)]) dX13_rebuildRecord_100 (by decide) rfl ?_
  refine mj_aload_n dX13_rebuildRecord_102 1 rfl ?_
  refine mj_ldc2 dX13_rebuildRecord_103 K_X13_853 ?_
  refine t_bndK hk (fun r1 er1 hk => ?_)
  refine t_callVvE dX13_rebuildRecord_106 M_X13_add (C_X13_add _ _ _ er1) ML_X13_1419 IM_X13_add SE_X13_add qc_950 rfl (As := [.long 6]) rfl rfl (by omega) (Nat.le_of_ble_eq_true rfl) (Nat.le_of_ble_eq_true rfl) (Nat.le_of_ble_eq_true rfl) ?_
  refine mj_aload_n dX13_rebuildRecord_109 1 rfl ?_
  refine mj_iload dX13_rebuildRecord_110 0 rfl ?_
  refine mj_i2l (v := (k1 - k0).toInt64) dX13_rebuildRecord_112 rfl ?_
  refine t_bndK hk (fun r2 er2 hk => ?_)
  refine t_callVvE dX13_rebuildRecord_113 M_X13_add (C_X13_add _ _ _ er2) ML_X13_1419 IM_X13_add SE_X13_add qc_950 rfl (As := [.long ((k1 - k0).toInt64)]) rfl rfl (by omega) (Nat.le_of_ble_eq_true rfl) (Nat.le_of_ble_eq_true rfl) (Nat.le_of_ble_eq_true rfl) ?_
  refine mj_iconst (v := 0) dX13_rebuildRecord_116 (by decide) ?_
  refine mj_istore (lv2 := [(10, .int 0), (9, .int (k1 - k0)), (0, .ref 950), (1, .int l1), (2, .int l2), (3, .int l3), (4, .int l4), (5, .int l5), (6, .int l6), (7, .int l7), (8, .int l8)]) dX13_rebuildRecord_117 (by decide) rfl ?_
  refine mj_iconst (v := 0) dX13_rebuildRecord_119 (by decide) ?_
  refine mj_istore (lv2 := [(11, .int 0), (10, .int 0), (9, .int (k1 - k0)), (0, .ref 950), (1, .int l1), (2, .int l2), (3, .int l3), (4, .int l4), (5, .int l5), (6, .int l6), (7, .int l7), (8, .int l8)]) dX13_rebuildRecord_120 (by decide) rfl ?_
  refine mj_sublv [(0, .ref 950), (1, .int l1), (2, .int l2), (3, .int l3), (4, .int l4), (5, .int l5), (6, .int l6), (7, .int l7), (8, .int l8), (11, .int 0)] [3, 4, 5, 6, 7, 8, 9, 10, 11, 0] rfl ?_
  exact LH_X13_rebuildRecord_122 rc H _ l1 l2 l3 l4 l5 l6 l7 l8 0 r2 _ hk
noncomputable def k_X13_rebuildRecord_98 (rc : RT_X13_rebuild) (l1 : Int32) (l2 : Int32) (l3 : Int32) (l4 : Int32) (l5 : Int32) (l6 : Int32) (l7 : Int32) (l8 : Int32) (k0 : Int32) (s : t_S) : Option (t_S) :=
 k_X13_rebuildRecord_99 rc l1 l2 l3 l4 l5 l6 l7 l8 0 k0 s
set_option maxRecDepth 4000 in
set_option maxHeartbeats 1000000 in
theorem B_X13_rebuildRecord_98 {D : va_G} {cy : Nat → ClassId} {ad : Nat → Nat} {bs : Nat} {X : State → Heap → Prop} (rc : RT_X13_rebuild) {k : Nat} (H : RH_X13_rebuild rc k) (l1 : Int32) (l2 : Int32) (l3 : Int32) (l4 : Int32) (l5 : Int32) (l6 : Int32) (l7 : Int32) (l8 : Int32) (k0 : Int32) (s : t_S) (Q : t_S → Prop) (hk : t_hk (k_X13_rebuildRecord_98 rc l1 l2 l3 l4 l5 l6 l7 l8 k0 s) Q) : mj_G D cy ad bs X cX13_rebuildRecord 15 yX13_rebuildRecord.cls none yX13_rebuildRecord.name (4 + (k + 1)) 0 0 1065 (t_P (fun v s' => v = none ∧ Q (s'))) 98 [(0, .ref 950), (1, .int l1), (2, .int l2), (3, .int l3), (4, .int l4), (5, .int l5), (6, .int l6), (7, .int l7), (8, .int l8)] [.int k0] (t_m s) 1065 0 0 := by
  refine mj_iconst (v := 0) dX13_rebuildRecord_98 (by decide) ?_
  exact B_X13_rebuildRecord_99 rc H _ _ _ _ _ _ _ _ _ _ _ _ hk
noncomputable def k_X13_rebuildRecord_83 (rc : RT_X13_rebuild) (l1 : Int32) (l2 : Int32) (l3 : Int32) (l4 : Int32) (l5 : Int32) (l6 : Int32) (l7 : Int32) (l8 : Int32) (k0 : Int32) (k1 : Int32) (s : t_S) : Option (t_S) :=
 if l6 < (0 : Int32) then (k_X13_rebuildRecord_98 rc l1 l2 l3 l4 l5 l6 l7 l8 (k1 + k0) s)
 else (if l7 = (0 : Int32) then (k_X13_rebuildRecord_98 rc l1 l2 l3 l4 l5 l6 l7 l8 (k1 + k0) s)
 else (k_X13_rebuildRecord_99 rc l1 l2 l3 l4 l5 l6 l7 l8 1 (k1 + k0) s))
set_option maxRecDepth 4000 in
set_option maxHeartbeats 1000000 in
theorem B_X13_rebuildRecord_83 {D : va_G} {cy : Nat → ClassId} {ad : Nat → Nat} {bs : Nat} {X : State → Heap → Prop} (rc : RT_X13_rebuild) {k : Nat} (H : RH_X13_rebuild rc k) (l1 : Int32) (l2 : Int32) (l3 : Int32) (l4 : Int32) (l5 : Int32) (l6 : Int32) (l7 : Int32) (l8 : Int32) (k0 : Int32) (k1 : Int32) (s : t_S) (Q : t_S → Prop) (hk : t_hk (k_X13_rebuildRecord_83 rc l1 l2 l3 l4 l5 l6 l7 l8 k0 k1 s) Q) : mj_G D cy ad bs X cX13_rebuildRecord 15 yX13_rebuildRecord.cls none yX13_rebuildRecord.name (4 + (k + 1)) 0 0 1065 (t_P (fun v s' => v = none ∧ Q (s'))) 83 [(0, .ref 950), (1, .int l1), (2, .int l2), (3, .int l3), (4, .int l4), (5, .int l5), (6, .int l6), (7, .int l7), (8, .int l8)] [.int k0, .int k1] (t_m s) 1065 0 0 := by
  refine mj_iadd dX13_rebuildRecord_83 ?_
  refine mj_iload dX13_rebuildRecord_84 6 rfl ?_
  refine mj_if_lt 98 dX13_rebuildRecord_86 (by decide) (fun z => t_posK hk z (fun hk => ?_)) (fun z => t_negK hk z (fun hk => ?_))
  · exact B_X13_rebuildRecord_98 rc H _ _ _ _ _ _ _ _ _ _ _ hk
  · refine mj_iload dX13_rebuildRecord_89 7 rfl ?_
    refine mj_if_eq 98 dX13_rebuildRecord_91 (by decide) (fun z => t_posK hk z (fun hk => ?_)) (fun z => t_negK hk z (fun hk => ?_))
    · exact B_X13_rebuildRecord_98 rc H _ _ _ _ _ _ _ _ _ _ _ hk
    · refine mj_iconst (v := 1) dX13_rebuildRecord_94 (by decide) ?_
      refine mj_goto 99 dX13_rebuildRecord_95 (by decide) ?_
      exact B_X13_rebuildRecord_99 rc H _ _ _ _ _ _ _ _ _ _ _ _ hk
noncomputable def k_X13_rebuildRecord_82 (rc : RT_X13_rebuild) (l1 : Int32) (l2 : Int32) (l3 : Int32) (l4 : Int32) (l5 : Int32) (l6 : Int32) (l7 : Int32) (l8 : Int32) (k0 : Int32) (s : t_S) : Option (t_S) :=
 k_X13_rebuildRecord_83 rc l1 l2 l3 l4 l5 l6 l7 l8 0 k0 s
set_option maxRecDepth 4000 in
set_option maxHeartbeats 1000000 in
theorem B_X13_rebuildRecord_82 {D : va_G} {cy : Nat → ClassId} {ad : Nat → Nat} {bs : Nat} {X : State → Heap → Prop} (rc : RT_X13_rebuild) {k : Nat} (H : RH_X13_rebuild rc k) (l1 : Int32) (l2 : Int32) (l3 : Int32) (l4 : Int32) (l5 : Int32) (l6 : Int32) (l7 : Int32) (l8 : Int32) (k0 : Int32) (s : t_S) (Q : t_S → Prop) (hk : t_hk (k_X13_rebuildRecord_82 rc l1 l2 l3 l4 l5 l6 l7 l8 k0 s) Q) : mj_G D cy ad bs X cX13_rebuildRecord 15 yX13_rebuildRecord.cls none yX13_rebuildRecord.name (4 + (k + 1)) 0 0 1065 (t_P (fun v s' => v = none ∧ Q (s'))) 82 [(0, .ref 950), (1, .int l1), (2, .int l2), (3, .int l3), (4, .int l4), (5, .int l5), (6, .int l6), (7, .int l7), (8, .int l8)] [.int k0] (t_m s) 1065 0 0 := by
  refine mj_iconst (v := 0) dX13_rebuildRecord_82 (by decide) ?_
  exact B_X13_rebuildRecord_83 rc H _ _ _ _ _ _ _ _ _ _ _ _ hk
noncomputable def k_X13_rebuildRecord_55 (rc : RT_X13_rebuild) (l1 : Int32) (l2 : Int32) (l3 : Int32) (l4 : Int32) (l5 : Int32) (l6 : Int32) (l7 : Int32) (s : t_S) : Option (t_S) :=
 if t_ix (l1 + (1 : Int32)) 626600 = true then
  if (0 : Int32) ≤ l6 then (k_X13_rebuildRecord_82 rc l1 l2 l3 l4 l5 l6 l7 ((s.2.1 1006 ((l1 + (1 : Int32)).toNatClampNeg)).toInt32) ((s.2.1 1006 ((l1 + (1 : Int32)).toNatClampNeg)).toInt32) s)
 else (if l7 = (0 : Int32) then (k_X13_rebuildRecord_83 rc l1 l2 l3 l4 l5 l6 l7 ((s.2.1 1006 ((l1 + (1 : Int32)).toNatClampNeg)).toInt32) 1 ((s.2.1 1006 ((l1 + (1 : Int32)).toNatClampNeg)).toInt32) s)
 else (k_X13_rebuildRecord_82 rc l1 l2 l3 l4 l5 l6 l7 ((s.2.1 1006 ((l1 + (1 : Int32)).toNatClampNeg)).toInt32) ((s.2.1 1006 ((l1 + (1 : Int32)).toNatClampNeg)).toInt32) s))
else none
set_option maxRecDepth 4000 in
set_option maxHeartbeats 1000000 in
theorem B_X13_rebuildRecord_55 {D : va_G} {cy : Nat → ClassId} {ad : Nat → Nat} {bs : Nat} {X : State → Heap → Prop} (rc : RT_X13_rebuild) {k : Nat} (H : RH_X13_rebuild rc k) (l1 : Int32) (l2 : Int32) (l3 : Int32) (l4 : Int32) (l5 : Int32) (l6 : Int32) (l7 : Int32) (s : t_S) (Q : t_S → Prop) (hk : t_hk (k_X13_rebuildRecord_55 rc l1 l2 l3 l4 l5 l6 l7 s) Q) : mj_G D cy ad bs X cX13_rebuildRecord 15 yX13_rebuildRecord.cls none yX13_rebuildRecord.name (4 + (k + 1)) 0 0 1065 (t_P (fun v s' => v = none ∧ Q (s'))) 55 [(0, .ref 950), (1, .int l1), (2, .int l2), (3, .int l3), (4, .int l4), (5, .int l5), (6, .int l6), (7, .int l7)] [] (t_m s) 1065 0 0 := by
  refine mj_aload_n dX13_rebuildRecord_55 0 rfl ?_
  refine t_getR 1006 dX13_rebuildRecord_56 F_X13_182 qr_950_95 ?_
  refine mj_iload_n dX13_rebuildRecord_59 1 rfl ?_
  refine mj_iconst (v := 1) dX13_rebuildRecord_60 (by decide) ?_
  refine mj_iadd dX13_rebuildRecord_61 ?_
  refine t_chkK hk (fun c0 hk => ?_)
  refine t_lald dX13_rebuildRecord_62 qa_1006 (t_ixv c0) ?_
  refine mj_l2i (v := (s.2.1 1006 ((l1 + (1 : Int32)).toNatClampNeg)).toInt32) dX13_rebuildRecord_63 rfl ?_
  refine mj_istore (lv2 := [(8, .int ((s.2.1 1006 ((l1 + (1 : Int32)).toNatClampNeg)).toInt32)), (0, .ref 950), (1, .int l1), (2, .int l2), (3, .int l3), (4, .int l4), (5, .int l5), (6, .int l6), (7, .int l7)]) dX13_rebuildRecord_64 (by decide) rfl ?_
  refine mj_iload dX13_rebuildRecord_66 0 rfl ?_
  refine mj_iload dX13_rebuildRecord_68 7 rfl ?_
  refine mj_if_ge 82 dX13_rebuildRecord_70 (by decide) (fun z => t_posK hk z (fun hk => ?_)) (fun z => t_negK hk z (fun hk => ?_))
  · refine mj_sublv [(0, .ref 950), (1, .int l1), (2, .int l2), (3, .int l3), (4, .int l4), (5, .int l5), (6, .int l6), (7, .int l7), (8, .int ((s.2.1 1006 ((l1 + (1 : Int32)).toNatClampNeg)).toInt32))] [1, 2, 3, 4, 5, 6, 7, 8, 0] rfl ?_
    exact B_X13_rebuildRecord_82 rc H _ _ _ _ _ _ _ _ _ _ _ hk
  · refine mj_iload dX13_rebuildRecord_73 8 rfl ?_
    refine mj_if_ne 82 dX13_rebuildRecord_75 (by decide) (fun z => t_negK hk z (fun hk => ?_)) (fun z => t_posK hk z (fun hk => ?_))
    · refine mj_sublv [(0, .ref 950), (1, .int l1), (2, .int l2), (3, .int l3), (4, .int l4), (5, .int l5), (6, .int l6), (7, .int l7), (8, .int ((s.2.1 1006 ((l1 + (1 : Int32)).toNatClampNeg)).toInt32))] [1, 2, 3, 4, 5, 6, 7, 8, 0] rfl ?_
      exact B_X13_rebuildRecord_82 rc H _ _ _ _ _ _ _ _ _ _ _ hk
    · refine mj_iconst (v := 1) dX13_rebuildRecord_78 (by decide) ?_
      refine mj_goto 83 dX13_rebuildRecord_79 (by decide) ?_
      refine mj_sublv [(0, .ref 950), (1, .int l1), (2, .int l2), (3, .int l3), (4, .int l4), (5, .int l5), (6, .int l6), (7, .int l7), (8, .int ((s.2.1 1006 ((l1 + (1 : Int32)).toNatClampNeg)).toInt32))] [1, 2, 3, 4, 5, 6, 7, 8, 0] rfl ?_
      exact B_X13_rebuildRecord_83 rc H _ _ _ _ _ _ _ _ _ _ _ _ hk
noncomputable def k_X13_rebuildRecord_37 (rc : RT_X13_rebuild) (l1 : Int32) (l2 : Int32) (l3 : Int32) (l4 : Int32) (l5 : Int32) (l6 : Int32) (k0 : Int32) (s : t_S) : Option (t_S) :=
 if l5 = (0 : Int32) then (if (0 : Int32) ≤ l6 then (k_X13_rebuildRecord_55 rc l1 l2 l3 l4 l5 l6 k0 s)
 else ((f_X13_error (1 : Int32) s).bind (fun r1 =>
 some (r1))))
 else (k_X13_rebuildRecord_55 rc l1 l2 l3 l4 l5 l6 k0 s)
set_option maxRecDepth 4000 in
set_option maxHeartbeats 1000000 in
theorem B_X13_rebuildRecord_37 {D : va_G} {cy : Nat → ClassId} {ad : Nat → Nat} {bs : Nat} {X : State → Heap → Prop} (rc : RT_X13_rebuild) {k : Nat} (H : RH_X13_rebuild rc k) (l1 : Int32) (l2 : Int32) (l3 : Int32) (l4 : Int32) (l5 : Int32) (l6 : Int32) (k0 : Int32) (s : t_S) (Q : t_S → Prop) (hk : t_hk (k_X13_rebuildRecord_37 rc l1 l2 l3 l4 l5 l6 k0 s) Q) : mj_G D cy ad bs X cX13_rebuildRecord 15 yX13_rebuildRecord.cls none yX13_rebuildRecord.name (4 + (k + 1)) 0 0 1065 (t_P (fun v s' => v = none ∧ Q (s'))) 37 [(0, .ref 950), (1, .int l1), (2, .int l2), (3, .int l3), (4, .int l4), (5, .int l5), (6, .int l6)] [.int k0] (t_m s) 1065 0 0 := by
  refine mj_istore (lv2 := [(7, .int k0), (0, .ref 950), (1, .int l1), (2, .int l2), (3, .int l3), (4, .int l4), (5, .int l5), (6, .int l6)]) dX13_rebuildRecord_37 (by decide) rfl ?_
  refine mj_iload dX13_rebuildRecord_39 6 rfl ?_
  refine mj_if_ne 55 dX13_rebuildRecord_41 (by decide) (fun z => t_negK hk z (fun hk => ?_)) (fun z => t_posK hk z (fun hk => ?_))
  · refine mj_sublv [(0, .ref 950), (1, .int l1), (2, .int l2), (3, .int l3), (4, .int l4), (5, .int l5), (6, .int l6), (7, .int k0)] [1, 2, 3, 4, 5, 6, 7, 0] rfl ?_
    exact B_X13_rebuildRecord_55 rc H _ _ _ _ _ _ _ _ _ hk
  · refine mj_iload dX13_rebuildRecord_44 7 rfl ?_
    refine mj_if_ge 55 dX13_rebuildRecord_46 (by decide) (fun z => t_posK hk z (fun hk => ?_)) (fun z => t_negK hk z (fun hk => ?_))
    · refine mj_sublv [(0, .ref 950), (1, .int l1), (2, .int l2), (3, .int l3), (4, .int l4), (5, .int l5), (6, .int l6), (7, .int k0)] [1, 2, 3, 4, 5, 6, 7, 0] rfl ?_
      exact B_X13_rebuildRecord_55 rc H _ _ _ _ _ _ _ _ _ hk
    · refine mj_aload_n dX13_rebuildRecord_49 1 rfl ?_
      refine mj_iconst (v := 1) dX13_rebuildRecord_50 (by decide) ?_
      refine t_bndK hk (fun r1 er1 hk => ?_)
      refine t_callVvE dX13_rebuildRecord_51 M_X13_error (C_X13_error _ _ _ er1) ML_X13_866 IM_X13_error SE_X13_error qc_950 rfl (As := [.int 1]) rfl rfl (by omega) (Nat.le_of_ble_eq_true rfl) (Nat.le_of_ble_eq_true rfl) (Nat.le_of_ble_eq_true rfl) ?_
      exact t_somK hk (fun hf => t_vret dX13_rebuildRecord_54 rfl ⟨rfl, hf⟩ (Nat.le_of_ble_eq_true rfl) (Nat.le_of_ble_eq_true rfl))
noncomputable def k_X13_rebuildRecord_36 (rc : RT_X13_rebuild) (l1 : Int32) (l2 : Int32) (l3 : Int32) (l4 : Int32) (l5 : Int32) (l6 : Int32) (s : t_S) : Option (t_S) :=
 k_X13_rebuildRecord_37 rc l1 l2 l3 l4 l5 l6 0 s
set_option maxRecDepth 4000 in
set_option maxHeartbeats 1000000 in
theorem B_X13_rebuildRecord_36 {D : va_G} {cy : Nat → ClassId} {ad : Nat → Nat} {bs : Nat} {X : State → Heap → Prop} (rc : RT_X13_rebuild) {k : Nat} (H : RH_X13_rebuild rc k) (l1 : Int32) (l2 : Int32) (l3 : Int32) (l4 : Int32) (l5 : Int32) (l6 : Int32) (s : t_S) (Q : t_S → Prop) (hk : t_hk (k_X13_rebuildRecord_36 rc l1 l2 l3 l4 l5 l6 s) Q) : mj_G D cy ad bs X cX13_rebuildRecord 15 yX13_rebuildRecord.cls none yX13_rebuildRecord.name (4 + (k + 1)) 0 0 1065 (t_P (fun v s' => v = none ∧ Q (s'))) 36 [(0, .ref 950), (1, .int l1), (2, .int l2), (3, .int l3), (4, .int l4), (5, .int l5), (6, .int l6)] [] (t_m s) 1065 0 0 := by
  refine mj_iconst (v := 0) dX13_rebuildRecord_36 (by decide) ?_
  exact B_X13_rebuildRecord_37 rc H _ _ _ _ _ _ _ _ _ hk
noncomputable def m_X13_rebuildRecord (rc : RT_X13_rebuild) (x2 : Int32) (x3 : Int32) (x4 : Int32) (x5 : Int32) (x6 : Int32) (s : t_S) : Option (t_S) :=
 if t_ix x3 13000 = true then
  (f_X13_fieldOf x2 (s.2.1 957 (x3.toNatClampNeg)) s).bind (fun r2 =>
 if x6 = (0 : Int32) then (k_X13_rebuildRecord_36 rc x2 x3 x4 x5 x6 r2 s)
 else (if t_ix x5 626600 = true then
  if (lg_cmp (s.2.1 1006 (x5.toNatClampNeg)) (4 : Int64)) = (0 : Int32) then (k_X13_rebuildRecord_37 rc x2 x3 x4 x5 x6 r2 1 s)
 else (k_X13_rebuildRecord_36 rc x2 x3 x4 x5 x6 r2 s)
else none))
else none
set_option maxRecDepth 4000 in
set_option maxHeartbeats 1000000 in
theorem E_X13_rebuildRecord (rc : RT_X13_rebuild) {k : Nat} (H : RH_X13_rebuild rc k) (x2 : Int32) (x3 : Int32) (x4 : Int32) (x5 : Int32) (x6 : Int32) (s : t_S) (r : t_S) (hr : m_X13_rebuildRecord rc x2 x3 x4 x5 x6 s = some r) : t_C yX13_rebuildRecord cX13_rebuildRecord 15 none (4 + (k + 1)) [.ref 950, .int x2, .int x3, .int x4, .int x5, .int x6] s (fun v s' => v = none ∧ s' = r) := by
  refine t_C.imp (P := fun v s' => v = none ∧ (fun q => q = r) (s')) (t_C.of (by decide +kernel) (Nat.le_of_ble_eq_true rfl) ?_) (fun v s' hp => hp)
  intro D cy ad bs X
  have hk : t_hk (m_X13_rebuildRecord rc x2 x3 x4 x5 x6 s) (fun q => q = r) := ⟨r, hr, rfl⟩
  show mj_G D cy ad bs X cX13_rebuildRecord 15 yX13_rebuildRecord.cls none yX13_rebuildRecord.name (4 + (k + 1)) 0 0 1065 (t_P (fun v s' => v = none ∧ (fun q => q = r) (s'))) 0 [(0, .ref 950), (1, .int x2), (2, .int x3), (3, .int x4), (4, .int x5), (5, .int x6)] [] (t_m s) 1065 0 0
  refine mj_aload_n dX13_rebuildRecord_0 0 rfl ?_
  refine mj_iload_n dX13_rebuildRecord_1 1 rfl ?_
  refine mj_aload_n dX13_rebuildRecord_2 0 rfl ?_
  refine t_getR 957 dX13_rebuildRecord_3 F_X13_32 qr_950_19 ?_
  refine mj_iload_n dX13_rebuildRecord_6 2 rfl ?_
  refine t_chkK hk (fun c0 hk => ?_)
  refine t_lald dX13_rebuildRecord_7 qa_957 (t_ixv c0) ?_
  refine t_bndK hk (fun r2 er2 hk => ?_)
  refine t_callViP dX13_rebuildRecord_8 M_X13_fieldOf (C_X13_fieldOf _ _ _ _ er2) ML_X13_966 IM_X13_fieldOf SE_X13_fieldOf qc_950 rfl (As := [.int x2, .long (s.2.1 957 (x3.toNatClampNeg))]) rfl rfl (by omega) (Nat.le_of_ble_eq_true rfl) (Nat.le_of_ble_eq_true rfl) (Nat.le_of_ble_eq_true rfl) ?_
  refine mj_istore (lv2 := [(6, .int r2), (0, .ref 950), (1, .int x2), (2, .int x3), (3, .int x4), (4, .int x5), (5, .int x6)]) dX13_rebuildRecord_11 (by decide) rfl ?_
  refine mj_iload dX13_rebuildRecord_13 6 rfl ?_
  refine mj_if_eq 36 dX13_rebuildRecord_15 (by decide) (fun z => t_posK hk z (fun hk => ?_)) (fun z => t_negK hk z (fun hk => ?_))
  · refine mj_sublv [(0, .ref 950), (1, .int x2), (2, .int x3), (3, .int x4), (4, .int x5), (5, .int x6), (6, .int r2)] [1, 2, 3, 4, 5, 6, 0] rfl ?_
    exact B_X13_rebuildRecord_36 rc H _ _ _ _ _ _ _ _ hk
  · refine mj_aload_n dX13_rebuildRecord_18 1 rfl ?_
    refine t_getR 1006 dX13_rebuildRecord_19 F_X13_182 qr_950_95 ?_
    refine mj_iload dX13_rebuildRecord_22 5 rfl ?_
    refine t_chkK hk (fun c2 hk => ?_)
    refine t_lald dX13_rebuildRecord_24 qa_1006 (t_ixv c2) ?_
    refine mj_ldc2 dX13_rebuildRecord_25 K_X13_969 ?_
    refine mj_lcmp dX13_rebuildRecord_28 ?_
    refine mj_if_ne 36 dX13_rebuildRecord_29 (by decide) (fun z => t_negK hk z (fun hk => ?_)) (fun z => t_posK hk z (fun hk => ?_))
    · refine mj_sublv [(0, .ref 950), (1, .int x2), (2, .int x3), (3, .int x4), (4, .int x5), (5, .int x6), (6, .int r2)] [1, 2, 3, 4, 5, 6, 0] rfl ?_
      exact B_X13_rebuildRecord_36 rc H _ _ _ _ _ _ _ _ hk
    · refine mj_iconst (v := 1) dX13_rebuildRecord_32 (by decide) ?_
      refine mj_goto 37 dX13_rebuildRecord_33 (by decide) ?_
      refine mj_sublv [(0, .ref 950), (1, .int x2), (2, .int x3), (3, .int x4), (4, .int x5), (5, .int x6), (6, .int r2)] [1, 2, 3, 4, 5, 6, 0] rfl ?_
      exact B_X13_rebuildRecord_37 rc H _ _ _ _ _ _ _ _ _ hk
/-- so many calls deep -/
noncomputable def R_X13_rebuild : Nat → RT_X13_rebuild
  | 0 => ⟨fun _ _ _ _ _ => none, fun _ _ _ _ _ _ => none, fun _ _ _ _ _ _ => none⟩
  | k + 1 => ⟨fun x2 x3 x4 x5 s => m_X13_rebuild (R_X13_rebuild k) x2 x3 x4 x5 s, fun x2 x3 x4 x5 x6 s => m_X13_rebuildChoice (R_X13_rebuild k) x2 x3 x4 x5 x6 s, fun x2 x3 x4 x5 x6 s => m_X13_rebuildRecord (R_X13_rebuild k) x2 x3 x4 x5 x6 s⟩
theorem RR_X13_rebuild : ∀ k : Nat, RH_X13_rebuild (R_X13_rebuild k) k := by
  intro k
  induction k with
  | zero => exact ⟨fun _ _ _ _ _ _ h => (by cases h), fun _ _ _ _ _ _ _ h => (by cases h), fun _ _ _ _ _ _ _ h => (by cases h)⟩
  | succ k ih => exact ⟨fun x2 x3 x4 x5 s r h => E_X13_rebuild (R_X13_rebuild k) ih x2 x3 x4 x5 s r h, fun x2 x3 x4 x5 x6 s r h => E_X13_rebuildChoice (R_X13_rebuild k) ih x2 x3 x4 x5 x6 s r h, fun x2 x3 x4 x5 x6 s r h => E_X13_rebuildRecord (R_X13_rebuild k) ih x2 x3 x4 x5 x6 s r h⟩
noncomputable def f_X13_rebuild (x2 : Int32) (x3 : Int32) (x4 : Int32) (x5 : Int32) (s : t_S) : Option (t_S) := (R_X13_rebuild 300).1 x2 x3 x4 x5 s
theorem C_X13_rebuild (x2 : Int32) (x3 : Int32) (x4 : Int32) (x5 : Int32) (s : t_S) (r : t_S) (hr : f_X13_rebuild x2 x3 x4 x5 s = some r) : t_C yX13_rebuild cX13_rebuild 11 none 304 [.ref 950, .int x2, .int x3, .int x4, .int x5] s (fun v s' => v = none ∧ s' = r) := (RR_X13_rebuild 300).1 x2 x3 x4 x5 s r hr
noncomputable def f_X13_rebuildChoice (x2 : Int32) (x3 : Int32) (x4 : Int32) (x5 : Int32) (x6 : Int32) (s : t_S) : Option (t_S) := (R_X13_rebuild 300).2.1 x2 x3 x4 x5 x6 s
theorem C_X13_rebuildChoice (x2 : Int32) (x3 : Int32) (x4 : Int32) (x5 : Int32) (x6 : Int32) (s : t_S) (r : t_S) (hr : f_X13_rebuildChoice x2 x3 x4 x5 x6 s = some r) : t_C yX13_rebuildChoice cX13_rebuildChoice 6 none 304 [.ref 950, .int x2, .int x3, .int x4, .int x5, .int x6] s (fun v s' => v = none ∧ s' = r) := (RR_X13_rebuild 300).2.1 x2 x3 x4 x5 x6 s r hr
noncomputable def f_X13_rebuildRecord (x2 : Int32) (x3 : Int32) (x4 : Int32) (x5 : Int32) (x6 : Int32) (s : t_S) : Option (t_S) := (R_X13_rebuild 300).2.2 x2 x3 x4 x5 x6 s
theorem C_X13_rebuildRecord (x2 : Int32) (x3 : Int32) (x4 : Int32) (x5 : Int32) (x6 : Int32) (s : t_S) (r : t_S) (hr : f_X13_rebuildRecord x2 x3 x4 x5 x6 s = some r) : t_C yX13_rebuildRecord cX13_rebuildRecord 15 none 304 [.ref 950, .int x2, .int x3, .int x4, .int x5, .int x6] s (fun v s' => v = none ∧ s' = r) := (RR_X13_rebuild 300).2.2 x2 x3 x4 x5 x6 s r hr

