/-! Methods as functions, 61: X13_fitsRecord, X13_checkType, X13_behind, X13_goOn -/
theorem qa_1052 : t_oka 1052 1 300 = true := by decide +kernel
theorem qa_1053 : t_oka 1053 1 300 = true := by decide +kernel
theorem qa_1054 : t_oka 1054 1 300 = true := by decide +kernel
theorem qa_1055 : t_oka 1055 3 300 = true := by decide +kernel
theorem qa_990 : t_oka 990 1 401 = true := by decide +kernel
theorem qr_950_167 : t_okr 950 13 167 1052 = true := by decide +kernel
theorem qr_950_168 : t_okr 950 13 168 1053 = true := by decide +kernel
theorem qr_950_169 : t_okr 950 13 169 1054 = true := by decide +kernel
theorem qr_950_170 : t_okr 950 13 170 1055 = true := by decide +kernel
theorem qr_950_68 : t_okr 950 13 68 990 = true := by decide +kernel
theorem dX13_fitsAt_0 : decode cX13_fitsAt 0 = .ok (.aload_n 0, 1) := by decide +kernel
theorem dX13_fitsAt_1 : decode cX13_fitsAt 1 = .ok (.iload_n 2, 1) := by decide +kernel
theorem dX13_fitsAt_10 : decode cX13_fitsAt 10 = .ok (.astore 4, 2) := by decide +kernel
theorem dX13_fitsAt_100 : decode cX13_fitsAt 100 = .ok (.goto 4, 3) := by decide +kernel
theorem dX13_fitsAt_103 : decode cX13_fitsAt 103 = .ok (.iconst 0, 1) := by decide +kernel
theorem dX13_fitsAt_104 : decode cX13_fitsAt 104 = .ok (.ireturn, 1) := by decide +kernel
theorem dX13_fitsAt_105 : decode cX13_fitsAt 105 = .ok (.iload 5, 2) := by decide +kernel
theorem dX13_fitsAt_107 : decode cX13_fitsAt 107 = .ok (.iconst 2, 1) := by decide +kernel
theorem dX13_fitsAt_108 : decode cX13_fitsAt 108 = .ok (.if_icmp .ne 31, 3) := by decide +kernel
theorem dX13_fitsAt_111 : decode cX13_fitsAt 111 = .ok (.aload 4, 2) := by decide +kernel
theorem dX13_fitsAt_113 : decode cX13_fitsAt 113 = .ok (.iload_n 1, 1) := by decide +kernel
theorem dX13_fitsAt_114 : decode cX13_fitsAt 114 = .ok (.iconst 1, 1) := by decide +kernel
theorem dX13_fitsAt_115 : decode cX13_fitsAt 115 = .ok (.iadd, 1) := by decide +kernel
theorem dX13_fitsAt_116 : decode cX13_fitsAt 116 = .ok (.laload, 1) := by decide +kernel
theorem dX13_fitsAt_117 : decode cX13_fitsAt 117 = .ok (.aload_n 0, 1) := by decide +kernel
theorem dX13_fitsAt_118 : decode cX13_fitsAt 118 = .ok (.getfield 32, 3) := by decide +kernel
theorem dX13_fitsAt_12 : decode cX13_fitsAt 12 = .ok (.aload 4, 2) := by decide +kernel
theorem dX13_fitsAt_121 : decode cX13_fitsAt 121 = .ok (.iload_n 3, 1) := by decide +kernel
theorem dX13_fitsAt_122 : decode cX13_fitsAt 122 = .ok (.laload, 1) := by decide +kernel
theorem dX13_fitsAt_123 : decode cX13_fitsAt 123 = .ok (.aload_n 0, 1) := by decide +kernel
theorem dX13_fitsAt_124 : decode cX13_fitsAt 124 = .ok (.getfield 36, 3) := by decide +kernel
theorem dX13_fitsAt_127 : decode cX13_fitsAt 127 = .ok (.iload_n 3, 1) := by decide +kernel
theorem dX13_fitsAt_128 : decode cX13_fitsAt 128 = .ok (.laload, 1) := by decide +kernel
theorem dX13_fitsAt_129 : decode cX13_fitsAt 129 = .ok (.invokestatic 371, 3) := by decide +kernel
theorem dX13_fitsAt_132 : decode cX13_fitsAt 132 = .ok (.ifCond .eq 7, 3) := by decide +kernel
theorem dX13_fitsAt_135 : decode cX13_fitsAt 135 = .ok (.iconst 1, 1) := by decide +kernel
theorem dX13_fitsAt_136 : decode cX13_fitsAt 136 = .ok (.goto 4, 3) := by decide +kernel
theorem dX13_fitsAt_139 : decode cX13_fitsAt 139 = .ok (.iconst 0, 1) := by decide +kernel
theorem dX13_fitsAt_14 : decode cX13_fitsAt 14 = .ok (.iload_n 1, 1) := by decide +kernel
theorem dX13_fitsAt_140 : decode cX13_fitsAt 140 = .ok (.ireturn, 1) := by decide +kernel
theorem dX13_fitsAt_141 : decode cX13_fitsAt 141 = .ok (.iload 5, 2) := by decide +kernel
theorem dX13_fitsAt_143 : decode cX13_fitsAt 143 = .ok (.iconst 3, 1) := by decide +kernel
theorem dX13_fitsAt_144 : decode cX13_fitsAt 144 = .ok (.if_icmp .ne 21, 3) := by decide +kernel
theorem dX13_fitsAt_147 : decode cX13_fitsAt 147 = .ok (.aload_n 0, 1) := by decide +kernel
theorem dX13_fitsAt_148 : decode cX13_fitsAt 148 = .ok (.iload_n 3, 1) := by decide +kernel
theorem dX13_fitsAt_149 : decode cX13_fitsAt 149 = .ok (.aload 4, 2) := by decide +kernel
theorem dX13_fitsAt_15 : decode cX13_fitsAt 15 = .ok (.laload, 1) := by decide +kernel
theorem dX13_fitsAt_151 : decode cX13_fitsAt 151 = .ok (.iload_n 1, 1) := by decide +kernel
theorem dX13_fitsAt_152 : decode cX13_fitsAt 152 = .ok (.iconst 1, 1) := by decide +kernel
theorem dX13_fitsAt_153 : decode cX13_fitsAt 153 = .ok (.iadd, 1) := by decide +kernel
theorem dX13_fitsAt_154 : decode cX13_fitsAt 154 = .ok (.laload, 1) := by decide +kernel
theorem dX13_fitsAt_155 : decode cX13_fitsAt 155 = .ok (.invokevirtual 538, 3) := by decide +kernel
theorem dX13_fitsAt_158 : decode cX13_fitsAt 158 = .ok (.ifCond .eq 7, 3) := by decide +kernel
theorem dX13_fitsAt_16 : decode cX13_fitsAt 16 = .ok (.l2i, 1) := by decide +kernel
theorem dX13_fitsAt_161 : decode cX13_fitsAt 161 = .ok (.iconst 1, 1) := by decide +kernel
theorem dX13_fitsAt_162 : decode cX13_fitsAt 162 = .ok (.goto 4, 3) := by decide +kernel
theorem dX13_fitsAt_165 : decode cX13_fitsAt 165 = .ok (.iconst 0, 1) := by decide +kernel
theorem dX13_fitsAt_166 : decode cX13_fitsAt 166 = .ok (.ireturn, 1) := by decide +kernel
theorem dX13_fitsAt_167 : decode cX13_fitsAt 167 = .ok (.iload 5, 2) := by decide +kernel
theorem dX13_fitsAt_169 : decode cX13_fitsAt 169 = .ok (.bipush 7, 2) := by decide +kernel
theorem dX13_fitsAt_17 : decode cX13_fitsAt 17 = .ok (.istore 5, 2) := by decide +kernel
theorem dX13_fitsAt_171 : decode cX13_fitsAt 171 = .ok (.if_icmp .ne 17, 3) := by decide +kernel
theorem dX13_fitsAt_174 : decode cX13_fitsAt 174 = .ok (.aload_n 0, 1) := by decide +kernel
theorem dX13_fitsAt_175 : decode cX13_fitsAt 175 = .ok (.iload_n 3, 1) := by decide +kernel
theorem dX13_fitsAt_176 : decode cX13_fitsAt 176 = .ok (.aload 4, 2) := by decide +kernel
theorem dX13_fitsAt_178 : decode cX13_fitsAt 178 = .ok (.iload_n 1, 1) := by decide +kernel
theorem dX13_fitsAt_179 : decode cX13_fitsAt 179 = .ok (.iconst 1, 1) := by decide +kernel
theorem dX13_fitsAt_180 : decode cX13_fitsAt 180 = .ok (.iadd, 1) := by decide +kernel
theorem dX13_fitsAt_181 : decode cX13_fitsAt 181 = .ok (.laload, 1) := by decide +kernel
theorem dX13_fitsAt_182 : decode cX13_fitsAt 182 = .ok (.invokevirtual 1042, 3) := by decide +kernel
theorem dX13_fitsAt_185 : decode cX13_fitsAt 185 = .ok (.goto 4, 3) := by decide +kernel
theorem dX13_fitsAt_188 : decode cX13_fitsAt 188 = .ok (.iconst (-1), 1) := by decide +kernel
theorem dX13_fitsAt_189 : decode cX13_fitsAt 189 = .ok (.istore 6, 2) := by decide +kernel
theorem dX13_fitsAt_19 : decode cX13_fitsAt 19 = .ok (.aload_n 0, 1) := by decide +kernel
theorem dX13_fitsAt_191 : decode cX13_fitsAt 191 = .ok (.iload 6, 2) := by decide +kernel
theorem dX13_fitsAt_193 : decode cX13_fitsAt 193 = .ok (.ifCond .lt 24, 3) := by decide +kernel
theorem dX13_fitsAt_196 : decode cX13_fitsAt 196 = .ok (.aload_n 0, 1) := by decide +kernel
theorem dX13_fitsAt_197 : decode cX13_fitsAt 197 = .ok (.iload_n 1, 1) := by decide +kernel
theorem dX13_fitsAt_198 : decode cX13_fitsAt 198 = .ok (.iconst 2, 1) := by decide +kernel
theorem dX13_fitsAt_199 : decode cX13_fitsAt 199 = .ok (.iadd, 1) := by decide +kernel
theorem dX13_fitsAt_2 : decode cX13_fitsAt 2 = .ok (.invokevirtual 1036, 3) := by decide +kernel
theorem dX13_fitsAt_20 : decode cX13_fitsAt 20 = .ok (.getfield 26, 3) := by decide +kernel
theorem dX13_fitsAt_200 : decode cX13_fitsAt 200 = .ok (.aload_n 0, 1) := by decide +kernel
theorem dX13_fitsAt_201 : decode cX13_fitsAt 201 = .ok (.getfield 39, 3) := by decide +kernel
theorem dX13_fitsAt_204 : decode cX13_fitsAt 204 = .ok (.iload 6, 2) := by decide +kernel
theorem dX13_fitsAt_206 : decode cX13_fitsAt 206 = .ok (.iaload, 1) := by decide +kernel
theorem dX13_fitsAt_207 : decode cX13_fitsAt 207 = .ok (.invokestatic 1045, 3) := by decide +kernel
theorem dX13_fitsAt_210 : decode cX13_fitsAt 210 = .ok (.ifCond .eq 7, 3) := by decide +kernel
theorem dX13_fitsAt_213 : decode cX13_fitsAt 213 = .ok (.iconst 1, 1) := by decide +kernel
theorem dX13_fitsAt_214 : decode cX13_fitsAt 214 = .ok (.goto 4, 3) := by decide +kernel
theorem dX13_fitsAt_217 : decode cX13_fitsAt 217 = .ok (.iconst 0, 1) := by decide +kernel
theorem dX13_fitsAt_218 : decode cX13_fitsAt 218 = .ok (.ireturn, 1) := by decide +kernel
theorem dX13_fitsAt_219 : decode cX13_fitsAt 219 = .ok (.iload 5, 2) := by decide +kernel
theorem dX13_fitsAt_221 : decode cX13_fitsAt 221 = .ok (.bipush 8, 2) := by decide +kernel
theorem dX13_fitsAt_223 : decode cX13_fitsAt 223 = .ok (.if_icmp .ne 31, 3) := by decide +kernel
theorem dX13_fitsAt_226 : decode cX13_fitsAt 226 = .ok (.aload 4, 2) := by decide +kernel
theorem dX13_fitsAt_228 : decode cX13_fitsAt 228 = .ok (.iload_n 1, 1) := by decide +kernel
theorem dX13_fitsAt_229 : decode cX13_fitsAt 229 = .ok (.iconst 1, 1) := by decide +kernel
theorem dX13_fitsAt_23 : decode cX13_fitsAt 23 = .ok (.iload_n 3, 1) := by decide +kernel
theorem dX13_fitsAt_230 : decode cX13_fitsAt 230 = .ok (.iadd, 1) := by decide +kernel
theorem dX13_fitsAt_231 : decode cX13_fitsAt 231 = .ok (.laload, 1) := by decide +kernel
theorem dX13_fitsAt_232 : decode cX13_fitsAt 232 = .ok (.aload_n 0, 1) := by decide +kernel
theorem dX13_fitsAt_233 : decode cX13_fitsAt 233 = .ok (.getfield 32, 3) := by decide +kernel
theorem dX13_fitsAt_236 : decode cX13_fitsAt 236 = .ok (.iload_n 3, 1) := by decide +kernel
theorem dX13_fitsAt_237 : decode cX13_fitsAt 237 = .ok (.laload, 1) := by decide +kernel
theorem dX13_fitsAt_238 : decode cX13_fitsAt 238 = .ok (.aload_n 0, 1) := by decide +kernel
theorem dX13_fitsAt_239 : decode cX13_fitsAt 239 = .ok (.getfield 36, 3) := by decide +kernel
theorem dX13_fitsAt_24 : decode cX13_fitsAt 24 = .ok (.iaload, 1) := by decide +kernel
theorem dX13_fitsAt_242 : decode cX13_fitsAt 242 = .ok (.iload_n 3, 1) := by decide +kernel
theorem dX13_fitsAt_243 : decode cX13_fitsAt 243 = .ok (.laload, 1) := by decide +kernel
theorem dX13_fitsAt_244 : decode cX13_fitsAt 244 = .ok (.invokestatic 371, 3) := by decide +kernel
theorem dX13_fitsAt_247 : decode cX13_fitsAt 247 = .ok (.ifCond .eq 7, 3) := by decide +kernel
theorem dX13_fitsAt_25 : decode cX13_fitsAt 25 = .ok (.tableswitch 280 1 7 #[43, 68, 80, 116, 280, 142, 194], 43) := by decide +kernel
theorem dX13_fitsAt_250 : decode cX13_fitsAt 250 = .ok (.iconst 1, 1) := by decide +kernel
theorem dX13_fitsAt_251 : decode cX13_fitsAt 251 = .ok (.goto 4, 3) := by decide +kernel
theorem dX13_fitsAt_254 : decode cX13_fitsAt 254 = .ok (.iconst 0, 1) := by decide +kernel
theorem dX13_fitsAt_255 : decode cX13_fitsAt 255 = .ok (.istore 7, 2) := by decide +kernel
theorem dX13_fitsAt_257 : decode cX13_fitsAt 257 = .ok (.iconst 0, 1) := by decide +kernel
theorem dX13_fitsAt_258 : decode cX13_fitsAt 258 = .ok (.istore 8, 2) := by decide +kernel
theorem dX13_fitsAt_260 : decode cX13_fitsAt 260 = .ok (.iload 7, 2) := by decide +kernel
theorem dX13_fitsAt_262 : decode cX13_fitsAt 262 = .ok (.ifCond .eq 40, 3) := by decide +kernel
theorem dX13_fitsAt_265 : decode cX13_fitsAt 265 = .ok (.iload 8, 2) := by decide +kernel
theorem dX13_fitsAt_267 : decode cX13_fitsAt 267 = .ok (.aload 4, 2) := by decide +kernel
theorem dX13_fitsAt_269 : decode cX13_fitsAt 269 = .ok (.iload_n 1, 1) := by decide +kernel
theorem dX13_fitsAt_270 : decode cX13_fitsAt 270 = .ok (.iconst 1, 1) := by decide +kernel
theorem dX13_fitsAt_271 : decode cX13_fitsAt 271 = .ok (.iadd, 1) := by decide +kernel
theorem dX13_fitsAt_272 : decode cX13_fitsAt 272 = .ok (.laload, 1) := by decide +kernel
theorem dX13_fitsAt_273 : decode cX13_fitsAt 273 = .ok (.l2i, 1) := by decide +kernel
theorem dX13_fitsAt_274 : decode cX13_fitsAt 274 = .ok (.if_icmp .ge 28, 3) := by decide +kernel
theorem dX13_fitsAt_277 : decode cX13_fitsAt 277 = .ok (.aload_n 0, 1) := by decide +kernel
theorem dX13_fitsAt_278 : decode cX13_fitsAt 278 = .ok (.aload_n 0, 1) := by decide +kernel
theorem dX13_fitsAt_279 : decode cX13_fitsAt 279 = .ok (.iload_n 1, 1) := by decide +kernel
theorem dX13_fitsAt_280 : decode cX13_fitsAt 280 = .ok (.iload 8, 2) := by decide +kernel
theorem dX13_fitsAt_282 : decode cX13_fitsAt 282 = .ok (.invokevirtual 855, 3) := by decide +kernel
theorem dX13_fitsAt_285 : decode cX13_fitsAt 285 = .ok (.aload_n 0, 1) := by decide +kernel
theorem dX13_fitsAt_286 : decode cX13_fitsAt 286 = .ok (.getfield 39, 3) := by decide +kernel
theorem dX13_fitsAt_289 : decode cX13_fitsAt 289 = .ok (.iload_n 3, 1) := by decide +kernel
theorem dX13_fitsAt_290 : decode cX13_fitsAt 290 = .ok (.iaload, 1) := by decide +kernel
theorem dX13_fitsAt_291 : decode cX13_fitsAt 291 = .ok (.invokestatic 1045, 3) := by decide +kernel
theorem dX13_fitsAt_294 : decode cX13_fitsAt 294 = .ok (.istore 7, 2) := by decide +kernel
theorem dX13_fitsAt_296 : decode cX13_fitsAt 296 = .ok (.iinc 8 1, 3) := by decide +kernel
theorem dX13_fitsAt_299 : decode cX13_fitsAt 299 = .ok (.goto (-39), 3) := by decide +kernel
theorem dX13_fitsAt_302 : decode cX13_fitsAt 302 = .ok (.iload 7, 2) := by decide +kernel
theorem dX13_fitsAt_304 : decode cX13_fitsAt 304 = .ok (.ireturn, 1) := by decide +kernel
theorem dX13_fitsAt_305 : decode cX13_fitsAt 305 = .ok (.iload 5, 2) := by decide +kernel
theorem dX13_fitsAt_307 : decode cX13_fitsAt 307 = .ok (.bipush 6, 2) := by decide +kernel
theorem dX13_fitsAt_309 : decode cX13_fitsAt 309 = .ok (.if_icmp .ne 16, 3) := by decide +kernel
theorem dX13_fitsAt_312 : decode cX13_fitsAt 312 = .ok (.aload_n 0, 1) := by decide +kernel
theorem dX13_fitsAt_313 : decode cX13_fitsAt 313 = .ok (.iload_n 1, 1) := by decide +kernel
theorem dX13_fitsAt_314 : decode cX13_fitsAt 314 = .ok (.iload_n 3, 1) := by decide +kernel
theorem dX13_fitsAt_315 : decode cX13_fitsAt 315 = .ok (.invokestatic 1048, 3) := by decide +kernel
theorem dX13_fitsAt_318 : decode cX13_fitsAt 318 = .ok (.ifCond .eq 7, 3) := by decide +kernel
theorem dX13_fitsAt_321 : decode cX13_fitsAt 321 = .ok (.iconst 1, 1) := by decide +kernel
theorem dX13_fitsAt_322 : decode cX13_fitsAt 322 = .ok (.goto 4, 3) := by decide +kernel
theorem dX13_fitsAt_325 : decode cX13_fitsAt 325 = .ok (.iconst 0, 1) := by decide +kernel
theorem dX13_fitsAt_326 : decode cX13_fitsAt 326 = .ok (.ireturn, 1) := by decide +kernel
theorem dX13_fitsAt_5 : decode cX13_fitsAt 5 = .ok (.istore_n 3, 1) := by decide +kernel
theorem dX13_fitsAt_6 : decode cX13_fitsAt 6 = .ok (.aload_n 0, 1) := by decide +kernel
theorem dX13_fitsAt_68 : decode cX13_fitsAt 68 = .ok (.iload 5, 2) := by decide +kernel
theorem dX13_fitsAt_7 : decode cX13_fitsAt 7 = .ok (.getfield 182, 3) := by decide +kernel
theorem dX13_fitsAt_70 : decode cX13_fitsAt 70 = .ok (.ifCond .ne 21, 3) := by decide +kernel
theorem dX13_fitsAt_73 : decode cX13_fitsAt 73 = .ok (.aload_n 0, 1) := by decide +kernel
theorem dX13_fitsAt_74 : decode cX13_fitsAt 74 = .ok (.iload_n 3, 1) := by decide +kernel
theorem dX13_fitsAt_75 : decode cX13_fitsAt 75 = .ok (.aload 4, 2) := by decide +kernel
theorem dX13_fitsAt_77 : decode cX13_fitsAt 77 = .ok (.iload_n 1, 1) := by decide +kernel
theorem dX13_fitsAt_78 : decode cX13_fitsAt 78 = .ok (.iconst 1, 1) := by decide +kernel
theorem dX13_fitsAt_79 : decode cX13_fitsAt 79 = .ok (.iadd, 1) := by decide +kernel
theorem dX13_fitsAt_80 : decode cX13_fitsAt 80 = .ok (.laload, 1) := by decide +kernel
theorem dX13_fitsAt_81 : decode cX13_fitsAt 81 = .ok (.invokevirtual 1039, 3) := by decide +kernel
theorem dX13_fitsAt_84 : decode cX13_fitsAt 84 = .ok (.ifCond .eq 7, 3) := by decide +kernel
theorem dX13_fitsAt_87 : decode cX13_fitsAt 87 = .ok (.iconst 1, 1) := by decide +kernel
theorem dX13_fitsAt_88 : decode cX13_fitsAt 88 = .ok (.goto 4, 3) := by decide +kernel
theorem dX13_fitsAt_91 : decode cX13_fitsAt 91 = .ok (.iconst 0, 1) := by decide +kernel
theorem dX13_fitsAt_92 : decode cX13_fitsAt 92 = .ok (.ireturn, 1) := by decide +kernel
theorem dX13_fitsAt_93 : decode cX13_fitsAt 93 = .ok (.iload 5, 2) := by decide +kernel
theorem dX13_fitsAt_95 : decode cX13_fitsAt 95 = .ok (.iconst 1, 1) := by decide +kernel
theorem dX13_fitsAt_96 : decode cX13_fitsAt 96 = .ok (.if_icmp .ne 7, 3) := by decide +kernel
theorem dX13_fitsAt_99 : decode cX13_fitsAt 99 = .ok (.iconst 1, 1) := by decide +kernel
theorem dX13_fitsRecord_0 : decode cX13_fitsRecord 0 = .ok (.iconst 0, 1) := by decide +kernel
theorem dX13_fitsRecord_1 : decode cX13_fitsRecord 1 = .ok (.istore_n 3, 1) := by decide +kernel
theorem dX13_fitsRecord_10 : decode cX13_fitsRecord 10 = .ok (.laload, 1) := by decide +kernel
theorem dX13_fitsRecord_101 : decode cX13_fitsRecord 101 = .ok (.iconst 0, 1) := by decide +kernel
theorem dX13_fitsRecord_102 : decode cX13_fitsRecord 102 = .ok (.ireturn, 1) := by decide +kernel
theorem dX13_fitsRecord_103 : decode cX13_fitsRecord 103 = .ok (.aload_n 0, 1) := by decide +kernel
theorem dX13_fitsRecord_104 : decode cX13_fitsRecord 104 = .ok (.getfield 42, 3) := by decide +kernel
theorem dX13_fitsRecord_107 : decode cX13_fitsRecord 107 = .ok (.iload_n 3, 1) := by decide +kernel
theorem dX13_fitsRecord_108 : decode cX13_fitsRecord 108 = .ok (.iaload, 1) := by decide +kernel
theorem dX13_fitsRecord_109 : decode cX13_fitsRecord 109 = .ok (.istore_n 3, 1) := by decide +kernel
theorem dX13_fitsRecord_11 : decode cX13_fitsRecord 11 = .ok (.l2i, 1) := by decide +kernel
theorem dX13_fitsRecord_110 : decode cX13_fitsRecord 110 = .ok (.goto (-38), 3) := by decide +kernel
theorem dX13_fitsRecord_113 : decode cX13_fitsRecord 113 = .ok (.iconst 1, 1) := by decide +kernel
theorem dX13_fitsRecord_114 : decode cX13_fitsRecord 114 = .ok (.ireturn, 1) := by decide +kernel
theorem dX13_fitsRecord_12 : decode cX13_fitsRecord 12 = .ok (.if_icmp .ge 53, 3) := by decide +kernel
theorem dX13_fitsRecord_15 : decode cX13_fitsRecord 15 = .ok (.aload_n 0, 1) := by decide +kernel
theorem dX13_fitsRecord_16 : decode cX13_fitsRecord 16 = .ok (.iload_n 2, 1) := by decide +kernel
theorem dX13_fitsRecord_17 : decode cX13_fitsRecord 17 = .ok (.aload_n 0, 1) := by decide +kernel
theorem dX13_fitsRecord_18 : decode cX13_fitsRecord 18 = .ok (.getfield 182, 3) := by decide +kernel
theorem dX13_fitsRecord_2 : decode cX13_fitsRecord 2 = .ok (.iload_n 3, 1) := by decide +kernel
theorem dX13_fitsRecord_21 : decode cX13_fitsRecord 21 = .ok (.iload_n 1, 1) := by decide +kernel
theorem dX13_fitsRecord_22 : decode cX13_fitsRecord 22 = .ok (.iconst 2, 1) := by decide +kernel
theorem dX13_fitsRecord_23 : decode cX13_fitsRecord 23 = .ok (.iadd, 1) := by decide +kernel
theorem dX13_fitsRecord_24 : decode cX13_fitsRecord 24 = .ok (.iload_n 3, 1) := by decide +kernel
theorem dX13_fitsRecord_25 : decode cX13_fitsRecord 25 = .ok (.iadd, 1) := by decide +kernel
theorem dX13_fitsRecord_26 : decode cX13_fitsRecord 26 = .ok (.laload, 1) := by decide +kernel
theorem dX13_fitsRecord_27 : decode cX13_fitsRecord 27 = .ok (.invokevirtual 1042, 3) := by decide +kernel
theorem dX13_fitsRecord_3 : decode cX13_fitsRecord 3 = .ok (.aload_n 0, 1) := by decide +kernel
theorem dX13_fitsRecord_30 : decode cX13_fitsRecord 30 = .ok (.istore 4, 2) := by decide +kernel
theorem dX13_fitsRecord_32 : decode cX13_fitsRecord 32 = .ok (.iload 4, 2) := by decide +kernel
theorem dX13_fitsRecord_34 : decode cX13_fitsRecord 34 = .ok (.ifCond .lt 23, 3) := by decide +kernel
theorem dX13_fitsRecord_37 : decode cX13_fitsRecord 37 = .ok (.aload_n 0, 1) := by decide +kernel
theorem dX13_fitsRecord_38 : decode cX13_fitsRecord 38 = .ok (.aload_n 0, 1) := by decide +kernel
theorem dX13_fitsRecord_39 : decode cX13_fitsRecord 39 = .ok (.iload_n 1, 1) := by decide +kernel
theorem dX13_fitsRecord_4 : decode cX13_fitsRecord 4 = .ok (.getfield 182, 3) := by decide +kernel
theorem dX13_fitsRecord_40 : decode cX13_fitsRecord 40 = .ok (.iload_n 3, 1) := by decide +kernel
theorem dX13_fitsRecord_41 : decode cX13_fitsRecord 41 = .ok (.invokevirtual 855, 3) := by decide +kernel
theorem dX13_fitsRecord_44 : decode cX13_fitsRecord 44 = .ok (.aload_n 0, 1) := by decide +kernel
theorem dX13_fitsRecord_45 : decode cX13_fitsRecord 45 = .ok (.getfield 39, 3) := by decide +kernel
theorem dX13_fitsRecord_48 : decode cX13_fitsRecord 48 = .ok (.iload 4, 2) := by decide +kernel
theorem dX13_fitsRecord_50 : decode cX13_fitsRecord 50 = .ok (.iaload, 1) := by decide +kernel
theorem dX13_fitsRecord_51 : decode cX13_fitsRecord 51 = .ok (.invokestatic 1045, 3) := by decide +kernel
theorem dX13_fitsRecord_54 : decode cX13_fitsRecord 54 = .ok (.ifCond .ne 5, 3) := by decide +kernel
theorem dX13_fitsRecord_57 : decode cX13_fitsRecord 57 = .ok (.iconst 0, 1) := by decide +kernel
theorem dX13_fitsRecord_58 : decode cX13_fitsRecord 58 = .ok (.ireturn, 1) := by decide +kernel
theorem dX13_fitsRecord_59 : decode cX13_fitsRecord 59 = .ok (.iinc 3 1, 3) := by decide +kernel
theorem dX13_fitsRecord_62 : decode cX13_fitsRecord 62 = .ok (.goto (-60), 3) := by decide +kernel
theorem dX13_fitsRecord_65 : decode cX13_fitsRecord 65 = .ok (.aload_n 0, 1) := by decide +kernel
theorem dX13_fitsRecord_66 : decode cX13_fitsRecord 66 = .ok (.getfield 39, 3) := by decide +kernel
theorem dX13_fitsRecord_69 : decode cX13_fitsRecord 69 = .ok (.iload_n 2, 1) := by decide +kernel
theorem dX13_fitsRecord_7 : decode cX13_fitsRecord 7 = .ok (.iload_n 1, 1) := by decide +kernel
theorem dX13_fitsRecord_70 : decode cX13_fitsRecord 70 = .ok (.iaload, 1) := by decide +kernel
theorem dX13_fitsRecord_71 : decode cX13_fitsRecord 71 = .ok (.istore_n 3, 1) := by decide +kernel
theorem dX13_fitsRecord_72 : decode cX13_fitsRecord 72 = .ok (.iload_n 3, 1) := by decide +kernel
theorem dX13_fitsRecord_73 : decode cX13_fitsRecord 73 = .ok (.ifCond .lt 40, 3) := by decide +kernel
theorem dX13_fitsRecord_76 : decode cX13_fitsRecord 76 = .ok (.aload_n 0, 1) := by decide +kernel
theorem dX13_fitsRecord_77 : decode cX13_fitsRecord 77 = .ok (.getfield 36, 3) := by decide +kernel
theorem dX13_fitsRecord_8 : decode cX13_fitsRecord 8 = .ok (.iconst 1, 1) := by decide +kernel
theorem dX13_fitsRecord_80 : decode cX13_fitsRecord 80 = .ok (.iload_n 3, 1) := by decide +kernel
theorem dX13_fitsRecord_81 : decode cX13_fitsRecord 81 = .ok (.laload, 1) := by decide +kernel
theorem dX13_fitsRecord_82 : decode cX13_fitsRecord 82 = .ok (.lconst 0, 1) := by decide +kernel
theorem dX13_fitsRecord_83 : decode cX13_fitsRecord 83 = .ok (.lcmp, 1) := by decide +kernel
theorem dX13_fitsRecord_84 : decode cX13_fitsRecord 84 = .ok (.ifCond .ne 19, 3) := by decide +kernel
theorem dX13_fitsRecord_87 : decode cX13_fitsRecord 87 = .ok (.aload_n 0, 1) := by decide +kernel
theorem dX13_fitsRecord_88 : decode cX13_fitsRecord 88 = .ok (.iload_n 1, 1) := by decide +kernel
theorem dX13_fitsRecord_89 : decode cX13_fitsRecord 89 = .ok (.aload_n 0, 1) := by decide +kernel
theorem dX13_fitsRecord_9 : decode cX13_fitsRecord 9 = .ok (.iadd, 1) := by decide +kernel
theorem dX13_fitsRecord_90 : decode cX13_fitsRecord 90 = .ok (.getfield 32, 3) := by decide +kernel
theorem dX13_fitsRecord_93 : decode cX13_fitsRecord 93 = .ok (.iload_n 3, 1) := by decide +kernel
theorem dX13_fitsRecord_94 : decode cX13_fitsRecord 94 = .ok (.laload, 1) := by decide +kernel
theorem dX13_fitsRecord_95 : decode cX13_fitsRecord 95 = .ok (.invokevirtual 966, 3) := by decide +kernel
theorem dX13_fitsRecord_98 : decode cX13_fitsRecord 98 = .ok (.ifCond .ge 5, 3) := by decide +kernel
abbrev RT_X13_fitsAt : Type := (Int32 → Int32 → t_S → Option (Int32)) × (Int32 → Int32 → t_S → Option (Int32))
def RH_X13_fitsAt (rc : RT_X13_fitsAt) (k : Nat) : Prop := (∀ (x2 : Int32) (x3 : Int32) (s : t_S) (r : Int32), rc.1 x2 x3 s = some r → t_C yX13_fitsAt cX13_fitsAt 9 (some .boolean) (4 + k) [.ref 950, .int x2, .int x3] s (fun v s' => v = some (.int r) ∧ s' = s)) ∧ (∀ (x2 : Int32) (x3 : Int32) (s : t_S) (r : Int32), rc.2 x2 x3 s = some r → t_C yX13_fitsRecord cX13_fitsRecord 5 (some .boolean) (4 + k) [.ref 950, .int x2, .int x3] s (fun v s' => v = some (.int r) ∧ s' = s))
noncomputable def k_X13_fitsAt_189 (rc : RT_X13_fitsAt) (l1 : Int32) (k0 : Int32) (s : t_S) : Option (Int32) :=
 if k0 < (0 : Int32) then (some (0 : Int32))
 else (if t_ix k0 13000 = true then
  (rc.1 (l1 + (2 : Int32)) (s.1 959 (k0.toNatClampNeg)) s).bind (fun r2 =>
 if r2 = (0 : Int32) then (some (0 : Int32))
 else (some (1 : Int32)))
else none)
set_option maxRecDepth 4000 in
set_option maxHeartbeats 1000000 in
theorem B_X13_fitsAt_189 {D : va_G} {cy : Nat → ClassId} {ad : Nat → Nat} {bs : Nat} {X : State → Heap → Prop} (rc : RT_X13_fitsAt) {k : Nat} (H : RH_X13_fitsAt rc k) (l1 : Int32) (k0 : Int32) (s : t_S) (Q : Int32 → Prop) (hk : t_hk (k_X13_fitsAt_189 rc l1 k0 s) Q) : mj_G D cy ad bs X cX13_fitsAt 9 yX13_fitsAt.cls (some .boolean) yX13_fitsAt.name (4 + (k + 1)) 0 0 1065 (t_P (fun v s' => s' = s ∧ ∃ x, v = some (.int x) ∧ Q (x))) 189 [(0, .ref 950), (1, .int l1)] [.int k0] (t_m s) 1065 0 0 := by
  refine mj_istore (lv2 := [(6, .int k0), (0, .ref 950), (1, .int l1)]) dX13_fitsAt_189 (by decide) rfl ?_
  refine mj_iload dX13_fitsAt_191 0 rfl ?_
  refine mj_if_lt 217 dX13_fitsAt_193 (by decide) (fun z => t_posK hk z (fun hk => ?_)) (fun z => t_negK hk z (fun hk => ?_))
  · refine mj_iconst (v := 0) dX13_fitsAt_217 (by decide) ?_
    exact t_somK hk (fun hf => t_iret dX13_fitsAt_218 rfl (by decide) ⟨rfl, _, rfl, hf⟩ (Nat.le_of_ble_eq_true rfl) (Nat.le_of_ble_eq_true rfl))
  · refine mj_aload_n dX13_fitsAt_196 1 rfl ?_
    refine mj_iload_n dX13_fitsAt_197 2 rfl ?_
    refine mj_iconst (v := 2) dX13_fitsAt_198 (by decide) ?_
    refine mj_iadd dX13_fitsAt_199 ?_
    refine mj_aload_n dX13_fitsAt_200 1 rfl ?_
    refine t_getR 959 dX13_fitsAt_201 F_X13_39 qr_950_21 ?_
    refine mj_iload dX13_fitsAt_204 0 rfl ?_
    refine t_chkK hk (fun c0 hk => ?_)
    refine t_iald dX13_fitsAt_206 qa_959 (t_ixv c0) ?_
    refine t_bndK hk (fun r2 er2 hk => ?_)
    refine t_callSiP dX13_fitsAt_207 M_X13_fitsAt (H.1 _ _ _ _ er2) ML_X13_1045 SM_X13_fitsAt (As := [.ref 950, .int (l1 + (2 : Int32)), .int (s.1 959 (k0.toNatClampNeg))]) rfl rfl (by omega) (Nat.le_of_ble_eq_true rfl) (Nat.le_of_ble_eq_true rfl) (Nat.le_of_ble_eq_true rfl) ?_
    refine mj_if_eq 217 dX13_fitsAt_210 (by decide) (fun z => t_posK hk z (fun hk => ?_)) (fun z => t_negK hk z (fun hk => ?_))
    · refine mj_iconst (v := 0) dX13_fitsAt_217 (by decide) ?_
      exact t_somK hk (fun hf => t_iret dX13_fitsAt_218 rfl (by decide) ⟨rfl, _, rfl, hf⟩ (Nat.le_of_ble_eq_true rfl) (Nat.le_of_ble_eq_true rfl))
    · refine mj_iconst (v := 1) dX13_fitsAt_213 (by decide) ?_
      refine mj_goto 218 dX13_fitsAt_214 (by decide) ?_
      exact t_somK hk (fun hf => t_iret dX13_fitsAt_218 rfl (by decide) ⟨rfl, _, rfl, hf⟩ (Nat.le_of_ble_eq_true rfl) (Nat.le_of_ble_eq_true rfl))
noncomputable def k_X13_fitsAt_260 (rc : RT_X13_fitsAt) (l1 : Int32) (l3 : Int32) (l7 : Int32) (l8 : Int32) (s : t_S) : Option ((Int32 × Int32 × Int32 × Int32) ⊕ (Int32)) :=
 if l7 = (0 : Int32) then ((if l7 = 0 ∨ l7 = 1 then
  some (l7)
else none).map Sum.inr)
 else (if t_ix (l1 + (1 : Int32)) 626600 = true then
  if ((s.2.1 1006 ((l1 + (1 : Int32)).toNatClampNeg)).toInt32) ≤ l8 then ((if l7 = 0 ∨ l7 = 1 then
  some (l7)
else none).map Sum.inr)
 else ((f_X13_partOf l1 l8 s).bind (fun r4 =>
 if t_ix l3 13000 = true then
  (rc.1 r4 (s.1 959 (l3.toNatClampNeg)) s).bind (fun r6 =>
 some (.inl (l1, l3, r6, (l8 + 1))))
else none))
else none)
set_option maxRecDepth 4000 in
set_option maxHeartbeats 1000000 in
theorem B_X13_fitsAt_260 {D : va_G} {cy : Nat → ClassId} {ad : Nat → Nat} {bs : Nat} {X : State → Heap → Prop} (rc : RT_X13_fitsAt) {k : Nat} (H : RH_X13_fitsAt rc k) (l1 : Int32) (l3 : Int32) (l7 : Int32) (l8 : Int32) (s : t_S) (Q : (Int32 × Int32 × Int32 × Int32) ⊕ (Int32) → Prop) (Hb260 : ∀ (y0 : Int32) (y1 : Int32) (y2 : Int32) (y3 : Int32), Q (.inl (y0, y1, y2, y3)) → mj_G D cy ad bs X cX13_fitsAt 9 yX13_fitsAt.cls (some .boolean) yX13_fitsAt.name (4 + (k + 1)) 0 0 1065 (t_P (fun v s' => s' = s ∧ ∃ x, v = some (.int x) ∧ Q (.inr (x)))) 260 [(0, .ref 950), (1, .int (y0)), (3, .int (y1)), (4, .ref 1006), (7, .int (y2)), (8, .int (y3))] [] (t_m s) 1065 0 0) (hk : t_hk (k_X13_fitsAt_260 rc l1 l3 l7 l8 s) Q) : mj_G D cy ad bs X cX13_fitsAt 9 yX13_fitsAt.cls (some .boolean) yX13_fitsAt.name (4 + (k + 1)) 0 0 1065 (t_P (fun v s' => s' = s ∧ ∃ x, v = some (.int x) ∧ Q (.inr (x)))) 260 [(0, .ref 950), (1, .int l1), (3, .int l3), (4, .ref 1006), (7, .int l7), (8, .int l8)] [] (t_m s) 1065 0 0 := by
  refine mj_iload dX13_fitsAt_260 4 rfl ?_
  refine mj_if_eq 302 dX13_fitsAt_262 (by decide) (fun z => t_posK hk z (fun hk => ?_)) (fun z => t_negK hk z (fun hk => ?_))
  · refine t_mapK hk (fun hk => ?_)
    refine mj_iload dX13_fitsAt_302 4 rfl ?_
    refine t_chkK hk (fun c0 hk => ?_)
    exact t_somK hk (fun hf => t_iret dX13_fitsAt_304 rfl (t_zfit c0) ⟨rfl, _, rfl, hf⟩ (Nat.le_of_ble_eq_true rfl) (Nat.le_of_ble_eq_true rfl))
  · refine mj_iload dX13_fitsAt_265 5 rfl ?_
    refine mj_aload dX13_fitsAt_267 3 rfl ?_
    refine mj_iload_n dX13_fitsAt_269 1 rfl ?_
    refine mj_iconst (v := 1) dX13_fitsAt_270 (by decide) ?_
    refine mj_iadd dX13_fitsAt_271 ?_
    refine t_chkK hk (fun c1 hk => ?_)
    refine t_lald dX13_fitsAt_272 qa_1006 (t_ixv c1) ?_
    refine mj_l2i (v := (s.2.1 1006 ((l1 + (1 : Int32)).toNatClampNeg)).toInt32) dX13_fitsAt_273 rfl ?_
    refine mj_icmp_ge 302 dX13_fitsAt_274 (by decide) (fun z => t_posK hk z (fun hk => ?_)) (fun z => t_negK hk z (fun hk => ?_))
    · refine t_mapK hk (fun hk => ?_)
      refine mj_iload dX13_fitsAt_302 4 rfl ?_
      refine t_chkK hk (fun c2 hk => ?_)
      exact t_somK hk (fun hf => t_iret dX13_fitsAt_304 rfl (t_zfit c2) ⟨rfl, _, rfl, hf⟩ (Nat.le_of_ble_eq_true rfl) (Nat.le_of_ble_eq_true rfl))
    · refine mj_aload_n dX13_fitsAt_277 0 rfl ?_
      refine mj_aload_n dX13_fitsAt_278 0 rfl ?_
      refine mj_iload_n dX13_fitsAt_279 1 rfl ?_
      refine mj_iload dX13_fitsAt_280 5 rfl ?_
      refine t_bndK hk (fun r4 er4 hk => ?_)
      refine t_callViP dX13_fitsAt_282 M_X13_partOf (C_X13_partOf _ _ _ _ er4) ML_X13_855 IM_X13_partOf SE_X13_partOf qc_950 rfl (As := [.int l1, .int l8]) rfl rfl (by omega) (Nat.le_of_ble_eq_true rfl) (Nat.le_of_ble_eq_true rfl) (Nat.le_of_ble_eq_true rfl) ?_
      refine mj_aload_n dX13_fitsAt_285 0 rfl ?_
      refine t_getR 959 dX13_fitsAt_286 F_X13_39 qr_950_21 ?_
      refine mj_iload_n dX13_fitsAt_289 2 rfl ?_
      refine t_chkK hk (fun c4 hk => ?_)
      refine t_iald dX13_fitsAt_290 qa_959 (t_ixv c4) ?_
      refine t_bndK hk (fun r6 er6 hk => ?_)
      refine t_callSiP dX13_fitsAt_291 M_X13_fitsAt (H.1 _ _ _ _ er6) ML_X13_1045 SM_X13_fitsAt (As := [.ref 950, .int r4, .int (s.1 959 (l3.toNatClampNeg))]) rfl rfl (by omega) (Nat.le_of_ble_eq_true rfl) (Nat.le_of_ble_eq_true rfl) (Nat.le_of_ble_eq_true rfl) ?_
      refine mj_istore (lv2 := [(7, .int r6), (0, .ref 950), (1, .int l1), (3, .int l3), (4, .ref 1006), (8, .int l8)]) dX13_fitsAt_294 (by decide) rfl ?_
      refine mj_iinc (k := 5) (v := (l8 + 1)) (lv2 := [(8, .int (l8 + 1)), (7, .int r6), (0, .ref 950), (1, .int l1), (3, .int l3), (4, .ref 1006)]) dX13_fitsAt_296 rfl rfl (by decide) rfl ?_
      refine mj_goto 260 dX13_fitsAt_299 (by decide) ?_
      refine mj_sublv [(0, .ref 950), (1, .int l1), (3, .int l3), (4, .ref 1006), (7, .int r6), (8, .int (l8 + 1))] [2, 3, 4, 5, 1, 0] rfl ?_
      exact t_somK hk (fun hf => Hb260 l1 l3 r6 (l8 + 1) hf)
noncomputable def b_X13_fitsAt_260 (rc : RT_X13_fitsAt) (s : t_S) (x : Int32 × Int32 × Int32 × Int32) : Option ((Int32 × Int32 × Int32 × Int32) ⊕ (Int32)) := k_X13_fitsAt_260 rc x.1 x.2.1 x.2.2.1 x.2.2.2 s
set_option maxRecDepth 4000 in
set_option maxHeartbeats 1000000 in
theorem LH_X13_fitsAt_260 {D : va_G} {cy : Nat → ClassId} {ad : Nat → Nat} {bs : Nat} {X : State → Heap → Prop} (rc : RT_X13_fitsAt) {k : Nat} (H : RH_X13_fitsAt rc k) (s : t_S) : ∀ (n : Nat) (y0 : Int32) (y1 : Int32) (y2 : Int32) (y3 : Int32) (Q : Int32 → Prop) (hk : t_hk (t_loop (b_X13_fitsAt_260 rc s) n (y0, y1, y2, y3)) Q), mj_G D cy ad bs X cX13_fitsAt 9 yX13_fitsAt.cls (some .boolean) yX13_fitsAt.name (4 + (k + 1)) 0 0 1065 (t_P (fun v s' => s' = s ∧ ∃ x, v = some (.int x) ∧ Q (x))) 260 [(0, .ref 950), (1, .int (y0)), (3, .int (y1)), (4, .ref 1006), (7, .int (y2)), (8, .int (y3))] [] (t_m s) 1065 0 0 := by
  intro n
  induction n with
  | zero => intro y0 y1 y2 y3 Q hk; obtain ⟨r, hr, _⟩ := hk; cases hr
  | succ n ih =>
    intro y0 y1 y2 y3 Q hk
    exact B_X13_fitsAt_260 rc H y0 y1 y2 y3 s (fun y => t_lq (b_X13_fitsAt_260 rc s) n Q y) (fun y0' y1' y2' y3' hy => ih y0' y1' y2' y3' Q hy) (t_lp (b := b_X13_fitsAt_260 rc s) (n := n) (x := (y0, y1, y2, y3)) hk)
noncomputable def k_X13_fitsAt_255 (rc : RT_X13_fitsAt) (l1 : Int32) (l3 : Int32) (k0 : Int32) (s : t_S) : Option (Int32) :=
 t_loop (b_X13_fitsAt_260 rc s) t_N (l1, l3, k0, 0)
set_option maxRecDepth 4000 in
set_option maxHeartbeats 1000000 in
theorem B_X13_fitsAt_255 {D : va_G} {cy : Nat → ClassId} {ad : Nat → Nat} {bs : Nat} {X : State → Heap → Prop} (rc : RT_X13_fitsAt) {k : Nat} (H : RH_X13_fitsAt rc k) (l1 : Int32) (l3 : Int32) (k0 : Int32) (s : t_S) (Q : Int32 → Prop) (hk : t_hk (k_X13_fitsAt_255 rc l1 l3 k0 s) Q) : mj_G D cy ad bs X cX13_fitsAt 9 yX13_fitsAt.cls (some .boolean) yX13_fitsAt.name (4 + (k + 1)) 0 0 1065 (t_P (fun v s' => s' = s ∧ ∃ x, v = some (.int x) ∧ Q (x))) 255 [(0, .ref 950), (1, .int l1), (3, .int l3), (4, .ref 1006)] [.int k0] (t_m s) 1065 0 0 := by
  refine mj_istore (lv2 := [(7, .int k0), (0, .ref 950), (1, .int l1), (3, .int l3), (4, .ref 1006)]) dX13_fitsAt_255 (by decide) rfl ?_
  refine mj_iconst (v := 0) dX13_fitsAt_257 (by decide) ?_
  refine mj_istore (lv2 := [(8, .int 0), (7, .int k0), (0, .ref 950), (1, .int l1), (3, .int l3), (4, .ref 1006)]) dX13_fitsAt_258 (by decide) rfl ?_
  refine mj_sublv [(0, .ref 950), (1, .int l1), (3, .int l3), (4, .ref 1006), (7, .int k0), (8, .int 0)] [2, 3, 4, 5, 1, 0] rfl ?_
  exact LH_X13_fitsAt_260 rc H _ _ l1 l3 k0 0 _ hk
noncomputable def k_X13_fitsAt_254 (rc : RT_X13_fitsAt) (l1 : Int32) (l3 : Int32) (s : t_S) : Option (Int32) :=
 k_X13_fitsAt_255 rc l1 l3 0 s
set_option maxRecDepth 4000 in
set_option maxHeartbeats 1000000 in
theorem B_X13_fitsAt_254 {D : va_G} {cy : Nat → ClassId} {ad : Nat → Nat} {bs : Nat} {X : State → Heap → Prop} (rc : RT_X13_fitsAt) {k : Nat} (H : RH_X13_fitsAt rc k) (l1 : Int32) (l3 : Int32) (s : t_S) (Q : Int32 → Prop) (hk : t_hk (k_X13_fitsAt_254 rc l1 l3 s) Q) : mj_G D cy ad bs X cX13_fitsAt 9 yX13_fitsAt.cls (some .boolean) yX13_fitsAt.name (4 + (k + 1)) 0 0 1065 (t_P (fun v s' => s' = s ∧ ∃ x, v = some (.int x) ∧ Q (x))) 254 [(0, .ref 950), (1, .int l1), (3, .int l3), (4, .ref 1006)] [] (t_m s) 1065 0 0 := by
  refine mj_iconst (v := 0) dX13_fitsAt_254 (by decide) ?_
  exact B_X13_fitsAt_255 rc H _ _ _ _ _ hk
noncomputable def m_X13_fitsAt (rc : RT_X13_fitsAt) (x2 : Int32) (x3 : Int32) (s : t_S) : Option (Int32) :=
 (f_X13_meant x3 s).bind (fun r1 =>
 if t_ix x2 626600 = true then
  if t_ix r1 13000 = true then
  if (s.1 955 (r1.toNatClampNeg)).toInt < 1 ∨ 7 < (s.1 955 (r1.toNatClampNeg)).toInt then (if ((s.2.1 1006 (x2.toNatClampNeg)).toInt32) = (6 : Int32) then ((rc.2 x2 r1 s).bind (fun r4 =>
 if r4 = (0 : Int32) then (some (0 : Int32))
 else (some (1 : Int32))))
 else (some (0 : Int32)))
 else if (s.1 955 (r1.toNatClampNeg)).toInt = 1 then (if ((s.2.1 1006 (x2.toNatClampNeg)).toInt32) = (0 : Int32) then (if t_ix (x2 + (1 : Int32)) 626600 = true then
  (f_X13_inRanges r1 (s.2.1 1006 ((x2 + (1 : Int32)).toNatClampNeg)) s).bind (fun r6 =>
 if r6 = (0 : Int32) then (some (0 : Int32))
 else (some (1 : Int32)))
else none)
 else (some (0 : Int32)))
 else if (s.1 955 (r1.toNatClampNeg)).toInt = 2 then (if ((s.2.1 1006 (x2.toNatClampNeg)).toInt32) = (1 : Int32) then (some (1 : Int32))
 else (some (0 : Int32)))
 else if (s.1 955 (r1.toNatClampNeg)).toInt = 3 then (if ((s.2.1 1006 (x2.toNatClampNeg)).toInt32) = (2 : Int32) then (if t_ix (x2 + (1 : Int32)) 626600 = true then
  if (f_X13_in (s.2.1 1006 ((x2 + (1 : Int32)).toNatClampNeg)) (s.2.1 957 (r1.toNatClampNeg)) (s.2.1 958 (r1.toNatClampNeg)) s) = (0 : Int32) then (some (0 : Int32))
 else (some (1 : Int32))
else none)
 else (some (0 : Int32)))
 else if (s.1 955 (r1.toNatClampNeg)).toInt = 4 then (if ((s.2.1 1006 (x2.toNatClampNeg)).toInt32) = (3 : Int32) then (if t_ix (x2 + (1 : Int32)) 626600 = true then
  (f_X13_hasPart r1 (s.2.1 1006 ((x2 + (1 : Int32)).toNatClampNeg)) s).bind (fun r10 =>
 if r10 = (0 : Int32) then (some (0 : Int32))
 else (some (1 : Int32)))
else none)
 else (some (0 : Int32)))
 else if (s.1 955 (r1.toNatClampNeg)).toInt = 5 then (if ((s.2.1 1006 (x2.toNatClampNeg)).toInt32) = (6 : Int32) then ((rc.2 x2 r1 s).bind (fun r11 =>
 if r11 = (0 : Int32) then (some (0 : Int32))
 else (some (1 : Int32))))
 else (some (0 : Int32)))
 else if (s.1 955 (r1.toNatClampNeg)).toInt = 6 then (if ((s.2.1 1006 (x2.toNatClampNeg)).toInt32) = (7 : Int32) then (if t_ix (x2 + (1 : Int32)) 626600 = true then
  (f_X13_fieldNode r1 (s.2.1 1006 ((x2 + (1 : Int32)).toNatClampNeg)) s).bind (fun r13 =>
 k_X13_fitsAt_189 rc x2 r13 s)
else none)
 else (k_X13_fitsAt_189 rc x2 (-1) s))
 else (if ((s.2.1 1006 (x2.toNatClampNeg)).toInt32) = (8 : Int32) then (if t_ix (x2 + (1 : Int32)) 626600 = true then
  if (f_X13_in (s.2.1 1006 ((x2 + (1 : Int32)).toNatClampNeg)) (s.2.1 957 (r1.toNatClampNeg)) (s.2.1 958 (r1.toNatClampNeg)) s) = (0 : Int32) then (k_X13_fitsAt_254 rc x2 r1 s)
 else (k_X13_fitsAt_255 rc x2 r1 1 s)
else none)
 else (k_X13_fitsAt_254 rc x2 r1 s))
else none
else none)
set_option maxRecDepth 4000 in
set_option maxHeartbeats 1000000 in
theorem E_X13_fitsAt (rc : RT_X13_fitsAt) {k : Nat} (H : RH_X13_fitsAt rc k) (x2 : Int32) (x3 : Int32) (s : t_S) (r : Int32) (hr : m_X13_fitsAt rc x2 x3 s = some r) : t_C yX13_fitsAt cX13_fitsAt 9 (some .boolean) (4 + (k + 1)) [.ref 950, .int x2, .int x3] s (fun v s' => v = some (.int r) ∧ s' = s) := by
  refine t_C.imp (P := fun v s' => s' = s ∧ ∃ x, v = some (.int x) ∧ (fun q => q = r) (x)) (t_C.of (by decide +kernel) (Nat.le_of_ble_eq_true rfl) ?_) (fun v s' hp => by obtain ⟨rfl, x, rfl, rfl⟩ := hp; exact ⟨rfl, rfl⟩)
  intro D cy ad bs X
  have hk : t_hk (m_X13_fitsAt rc x2 x3 s) (fun q => q = r) := ⟨r, hr, rfl⟩
  show mj_G D cy ad bs X cX13_fitsAt 9 yX13_fitsAt.cls (some .boolean) yX13_fitsAt.name (4 + (k + 1)) 0 0 1065 (t_P (fun v s' => s' = s ∧ ∃ x, v = some (.int x) ∧ (fun q => q = r) (x))) 0 [(0, .ref 950), (1, .int x2), (2, .int x3)] [] (t_m s) 1065 0 0
  refine mj_aload_n dX13_fitsAt_0 0 rfl ?_
  refine mj_iload_n dX13_fitsAt_1 2 rfl ?_
  refine t_bndK hk (fun r1 er1 hk => ?_)
  refine t_callViP dX13_fitsAt_2 M_X13_meant (C_X13_meant _ _ _ er1) ML_X13_1036 IM_X13_meant SE_X13_meant qc_950 rfl (As := [.int x3]) rfl rfl (by omega) (Nat.le_of_ble_eq_true rfl) (Nat.le_of_ble_eq_true rfl) (Nat.le_of_ble_eq_true rfl) ?_
  refine mj_istore_n 3 (lv2 := [(3, .int r1), (0, .ref 950), (1, .int x2), (2, .int x3)]) dX13_fitsAt_5 rfl (by decide) rfl ?_
  refine mj_aload_n dX13_fitsAt_6 1 rfl ?_
  refine t_getR 1006 dX13_fitsAt_7 F_X13_182 qr_950_95 ?_
  refine mj_astore (lv2 := [(4, .ref 1006), (3, .int r1), (0, .ref 950), (1, .int x2), (2, .int x3)]) dX13_fitsAt_10 (by decide) rfl ?_
  refine mj_aload dX13_fitsAt_12 0 rfl ?_
  refine mj_iload_n dX13_fitsAt_14 3 rfl ?_
  refine t_chkK hk (fun c1 hk => ?_)
  refine t_lald dX13_fitsAt_15 qa_1006 (t_ixv c1) ?_
  refine mj_l2i (v := (s.2.1 1006 (x2.toNatClampNeg)).toInt32) dX13_fitsAt_16 rfl ?_
  refine mj_istore (lv2 := [(5, .int ((s.2.1 1006 (x2.toNatClampNeg)).toInt32)), (4, .ref 1006), (3, .int r1), (0, .ref 950), (1, .int x2), (2, .int x3)]) dX13_fitsAt_17 (by decide) rfl ?_
  refine mj_aload_n dX13_fitsAt_19 3 rfl ?_
  refine t_getR 955 dX13_fitsAt_20 F_X13_26 qr_950_17 ?_
  refine mj_iload_n dX13_fitsAt_23 2 rfl ?_
  refine t_chkK hk (fun c2 hk => ?_)
  refine t_iald dX13_fitsAt_24 qa_955 (t_ixv c2) ?_
  by_cases hout : (s.1 955 (r1.toNatClampNeg)).toInt < 1 ∨ 7 < (s.1 955 (r1.toNatClampNeg)).toInt
  · replace hk := t_pos hk hout
    refine mj_tableOut 305 dX13_fitsAt_25 hout (by decide) ?_
    refine mj_iload dX13_fitsAt_305 0 rfl ?_
    refine mj_bipush (v := 6) dX13_fitsAt_307 (by decide) ?_
    refine mj_icmp_ne 325 dX13_fitsAt_309 (by decide) (fun z => t_negK hk z (fun hk => ?_)) (fun z => t_posK hk z (fun hk => ?_))
    · refine mj_iconst (v := 0) dX13_fitsAt_325 (by decide) ?_
      exact t_somK hk (fun hf => t_iret dX13_fitsAt_326 rfl (by decide) ⟨rfl, _, rfl, hf⟩ (Nat.le_of_ble_eq_true rfl) (Nat.le_of_ble_eq_true rfl))
    · refine mj_aload_n dX13_fitsAt_312 3 rfl ?_
      refine mj_iload_n dX13_fitsAt_313 4 rfl ?_
      refine mj_iload_n dX13_fitsAt_314 2 rfl ?_
      refine t_bndK hk (fun r4 er4 hk => ?_)
      refine t_callSiP dX13_fitsAt_315 M_X13_fitsRecord (H.2 _ _ _ _ er4) ML_X13_1048 SM_X13_fitsRecord (As := [.ref 950, .int x2, .int r1]) rfl rfl (by omega) (Nat.le_of_ble_eq_true rfl) (Nat.le_of_ble_eq_true rfl) (Nat.le_of_ble_eq_true rfl) ?_
      refine mj_if_eq 325 dX13_fitsAt_318 (by decide) (fun z => t_posK hk z (fun hk => ?_)) (fun z => t_negK hk z (fun hk => ?_))
      · refine mj_iconst (v := 0) dX13_fitsAt_325 (by decide) ?_
        exact t_somK hk (fun hf => t_iret dX13_fitsAt_326 rfl (by decide) ⟨rfl, _, rfl, hf⟩ (Nat.le_of_ble_eq_true rfl) (Nat.le_of_ble_eq_true rfl))
      · refine mj_iconst (v := 1) dX13_fitsAt_321 (by decide) ?_
        refine mj_goto 326 dX13_fitsAt_322 (by decide) ?_
        exact t_somK hk (fun hf => t_iret dX13_fitsAt_326 rfl (by decide) ⟨rfl, _, rfl, hf⟩ (Nat.le_of_ble_eq_true rfl) (Nat.le_of_ble_eq_true rfl))
  · replace hk := t_neg hk hout
    have hh1 : ¬ (s.1 955 (r1.toNatClampNeg)).toInt < 1 := fun z => hout (Or.inl z)
    have hh2 : ¬ (7 : Int) < (s.1 955 (r1.toNatClampNeg)).toInt := fun z => hout (Or.inr z)
    by_cases h0 : (s.1 955 (r1.toNatClampNeg)).toInt = 1
    · replace hk := t_pos hk h0
      refine mj_tableIn 68 dX13_fitsAt_25 hh1 hh2 (by rw [h0]; rfl) (by decide) ?_
      refine mj_iload dX13_fitsAt_68 0 rfl ?_
      refine mj_if_ne 91 dX13_fitsAt_70 (by decide) (fun z => t_negK hk z (fun hk => ?_)) (fun z => t_posK hk z (fun hk => ?_))
      · refine mj_iconst (v := 0) dX13_fitsAt_91 (by decide) ?_
        exact t_somK hk (fun hf => t_iret dX13_fitsAt_92 rfl (by decide) ⟨rfl, _, rfl, hf⟩ (Nat.le_of_ble_eq_true rfl) (Nat.le_of_ble_eq_true rfl))
      · refine mj_aload_n dX13_fitsAt_73 3 rfl ?_
        refine mj_iload_n dX13_fitsAt_74 2 rfl ?_
        refine mj_aload dX13_fitsAt_75 1 rfl ?_
        refine mj_iload_n dX13_fitsAt_77 4 rfl ?_
        refine mj_iconst (v := 1) dX13_fitsAt_78 (by decide) ?_
        refine mj_iadd dX13_fitsAt_79 ?_
        refine t_chkK hk (fun c4 hk => ?_)
        refine t_lald dX13_fitsAt_80 qa_1006 (t_ixv c4) ?_
        refine t_bndK hk (fun r6 er6 hk => ?_)
        refine t_callViP dX13_fitsAt_81 M_X13_inRanges (C_X13_inRanges _ _ _ _ er6) ML_X13_1039 IM_X13_inRanges SE_X13_inRanges qc_950 rfl (As := [.int r1, .long (s.2.1 1006 ((x2 + (1 : Int32)).toNatClampNeg))]) rfl rfl (by omega) (Nat.le_of_ble_eq_true rfl) (Nat.le_of_ble_eq_true rfl) (Nat.le_of_ble_eq_true rfl) ?_
        refine mj_if_eq 91 dX13_fitsAt_84 (by decide) (fun z => t_posK hk z (fun hk => ?_)) (fun z => t_negK hk z (fun hk => ?_))
        · refine mj_iconst (v := 0) dX13_fitsAt_91 (by decide) ?_
          exact t_somK hk (fun hf => t_iret dX13_fitsAt_92 rfl (by decide) ⟨rfl, _, rfl, hf⟩ (Nat.le_of_ble_eq_true rfl) (Nat.le_of_ble_eq_true rfl))
        · refine mj_iconst (v := 1) dX13_fitsAt_87 (by decide) ?_
          refine mj_goto 92 dX13_fitsAt_88 (by decide) ?_
          exact t_somK hk (fun hf => t_iret dX13_fitsAt_92 rfl (by decide) ⟨rfl, _, rfl, hf⟩ (Nat.le_of_ble_eq_true rfl) (Nat.le_of_ble_eq_true rfl))
    replace hk := t_neg hk h0
    by_cases h1 : (s.1 955 (r1.toNatClampNeg)).toInt = 2
    · replace hk := t_pos hk h1
      refine mj_tableIn 93 dX13_fitsAt_25 hh1 hh2 (by rw [h1]; rfl) (by decide) ?_
      refine mj_iload dX13_fitsAt_93 0 rfl ?_
      refine mj_iconst (v := 1) dX13_fitsAt_95 (by decide) ?_
      refine mj_icmp_ne 103 dX13_fitsAt_96 (by decide) (fun z => t_negK hk z (fun hk => ?_)) (fun z => t_posK hk z (fun hk => ?_))
      · refine mj_iconst (v := 0) dX13_fitsAt_103 (by decide) ?_
        exact t_somK hk (fun hf => t_iret dX13_fitsAt_104 rfl (by decide) ⟨rfl, _, rfl, hf⟩ (Nat.le_of_ble_eq_true rfl) (Nat.le_of_ble_eq_true rfl))
      · refine mj_iconst (v := 1) dX13_fitsAt_99 (by decide) ?_
        refine mj_goto 104 dX13_fitsAt_100 (by decide) ?_
        exact t_somK hk (fun hf => t_iret dX13_fitsAt_104 rfl (by decide) ⟨rfl, _, rfl, hf⟩ (Nat.le_of_ble_eq_true rfl) (Nat.le_of_ble_eq_true rfl))
    replace hk := t_neg hk h1
    by_cases h2 : (s.1 955 (r1.toNatClampNeg)).toInt = 3
    · replace hk := t_pos hk h2
      refine mj_tableIn 105 dX13_fitsAt_25 hh1 hh2 (by rw [h2]; rfl) (by decide) ?_
      refine mj_iload dX13_fitsAt_105 0 rfl ?_
      refine mj_iconst (v := 2) dX13_fitsAt_107 (by decide) ?_
      refine mj_icmp_ne 139 dX13_fitsAt_108 (by decide) (fun z => t_negK hk z (fun hk => ?_)) (fun z => t_posK hk z (fun hk => ?_))
      · refine mj_iconst (v := 0) dX13_fitsAt_139 (by decide) ?_
        exact t_somK hk (fun hf => t_iret dX13_fitsAt_140 rfl (by decide) ⟨rfl, _, rfl, hf⟩ (Nat.le_of_ble_eq_true rfl) (Nat.le_of_ble_eq_true rfl))
      · refine mj_aload dX13_fitsAt_111 1 rfl ?_
        refine mj_iload_n dX13_fitsAt_113 4 rfl ?_
        refine mj_iconst (v := 1) dX13_fitsAt_114 (by decide) ?_
        refine mj_iadd dX13_fitsAt_115 ?_
        refine t_chkK hk (fun c6 hk => ?_)
        refine t_lald dX13_fitsAt_116 qa_1006 (t_ixv c6) ?_
        refine mj_aload_n dX13_fitsAt_117 3 rfl ?_
        refine t_getR 957 dX13_fitsAt_118 F_X13_32 qr_950_19 ?_
        refine mj_iload_n dX13_fitsAt_121 2 rfl ?_
        refine t_lald dX13_fitsAt_122 qa_957 (t_ixv c2) ?_
        refine mj_aload_n dX13_fitsAt_123 3 rfl ?_
        refine t_getR 958 dX13_fitsAt_124 F_X13_36 qr_950_20 ?_
        refine mj_iload_n dX13_fitsAt_127 2 rfl ?_
        refine t_lald dX13_fitsAt_128 qa_958 (t_ixv c2) ?_
        refine t_callSiP dX13_fitsAt_129 M_X13_in (C_X13_in _ _ _ _) ML_X13_371 SM_X13_in (As := [.long (s.2.1 1006 ((x2 + (1 : Int32)).toNatClampNeg)), .long (s.2.1 957 (r1.toNatClampNeg)), .long (s.2.1 958 (r1.toNatClampNeg))]) rfl rfl (by omega) (Nat.le_of_ble_eq_true rfl) (Nat.le_of_ble_eq_true rfl) (Nat.le_of_ble_eq_true rfl) ?_
        refine mj_if_eq 139 dX13_fitsAt_132 (by decide) (fun z => t_posK hk z (fun hk => ?_)) (fun z => t_negK hk z (fun hk => ?_))
        · refine mj_iconst (v := 0) dX13_fitsAt_139 (by decide) ?_
          exact t_somK hk (fun hf => t_iret dX13_fitsAt_140 rfl (by decide) ⟨rfl, _, rfl, hf⟩ (Nat.le_of_ble_eq_true rfl) (Nat.le_of_ble_eq_true rfl))
        · refine mj_iconst (v := 1) dX13_fitsAt_135 (by decide) ?_
          refine mj_goto 140 dX13_fitsAt_136 (by decide) ?_
          exact t_somK hk (fun hf => t_iret dX13_fitsAt_140 rfl (by decide) ⟨rfl, _, rfl, hf⟩ (Nat.le_of_ble_eq_true rfl) (Nat.le_of_ble_eq_true rfl))
    replace hk := t_neg hk h2
    by_cases h3 : (s.1 955 (r1.toNatClampNeg)).toInt = 4
    · replace hk := t_pos hk h3
      refine mj_tableIn 141 dX13_fitsAt_25 hh1 hh2 (by rw [h3]; rfl) (by decide) ?_
      refine mj_iload dX13_fitsAt_141 0 rfl ?_
      refine mj_iconst (v := 3) dX13_fitsAt_143 (by decide) ?_
      refine mj_icmp_ne 165 dX13_fitsAt_144 (by decide) (fun z => t_negK hk z (fun hk => ?_)) (fun z => t_posK hk z (fun hk => ?_))
      · refine mj_iconst (v := 0) dX13_fitsAt_165 (by decide) ?_
        exact t_somK hk (fun hf => t_iret dX13_fitsAt_166 rfl (by decide) ⟨rfl, _, rfl, hf⟩ (Nat.le_of_ble_eq_true rfl) (Nat.le_of_ble_eq_true rfl))
      · refine mj_aload_n dX13_fitsAt_147 3 rfl ?_
        refine mj_iload_n dX13_fitsAt_148 2 rfl ?_
        refine mj_aload dX13_fitsAt_149 1 rfl ?_
        refine mj_iload_n dX13_fitsAt_151 4 rfl ?_
        refine mj_iconst (v := 1) dX13_fitsAt_152 (by decide) ?_
        refine mj_iadd dX13_fitsAt_153 ?_
        refine t_chkK hk (fun c8 hk => ?_)
        refine t_lald dX13_fitsAt_154 qa_1006 (t_ixv c8) ?_
        refine t_bndK hk (fun r10 er10 hk => ?_)
        refine t_callViP dX13_fitsAt_155 M_X13_hasPart (C_X13_hasPart _ _ _ _ er10) ML_X13_538 IM_X13_hasPart SE_X13_hasPart qc_950 rfl (As := [.int r1, .long (s.2.1 1006 ((x2 + (1 : Int32)).toNatClampNeg))]) rfl rfl (by omega) (Nat.le_of_ble_eq_true rfl) (Nat.le_of_ble_eq_true rfl) (Nat.le_of_ble_eq_true rfl) ?_
        refine mj_if_eq 165 dX13_fitsAt_158 (by decide) (fun z => t_posK hk z (fun hk => ?_)) (fun z => t_negK hk z (fun hk => ?_))
        · refine mj_iconst (v := 0) dX13_fitsAt_165 (by decide) ?_
          exact t_somK hk (fun hf => t_iret dX13_fitsAt_166 rfl (by decide) ⟨rfl, _, rfl, hf⟩ (Nat.le_of_ble_eq_true rfl) (Nat.le_of_ble_eq_true rfl))
        · refine mj_iconst (v := 1) dX13_fitsAt_161 (by decide) ?_
          refine mj_goto 166 dX13_fitsAt_162 (by decide) ?_
          exact t_somK hk (fun hf => t_iret dX13_fitsAt_166 rfl (by decide) ⟨rfl, _, rfl, hf⟩ (Nat.le_of_ble_eq_true rfl) (Nat.le_of_ble_eq_true rfl))
    replace hk := t_neg hk h3
    by_cases h4 : (s.1 955 (r1.toNatClampNeg)).toInt = 5
    · replace hk := t_pos hk h4
      refine mj_tableIn 305 dX13_fitsAt_25 hh1 hh2 (by rw [h4]; rfl) (by decide) ?_
      refine mj_iload dX13_fitsAt_305 0 rfl ?_
      refine mj_bipush (v := 6) dX13_fitsAt_307 (by decide) ?_
      refine mj_icmp_ne 325 dX13_fitsAt_309 (by decide) (fun z => t_negK hk z (fun hk => ?_)) (fun z => t_posK hk z (fun hk => ?_))
      · refine mj_iconst (v := 0) dX13_fitsAt_325 (by decide) ?_
        exact t_somK hk (fun hf => t_iret dX13_fitsAt_326 rfl (by decide) ⟨rfl, _, rfl, hf⟩ (Nat.le_of_ble_eq_true rfl) (Nat.le_of_ble_eq_true rfl))
      · refine mj_aload_n dX13_fitsAt_312 3 rfl ?_
        refine mj_iload_n dX13_fitsAt_313 4 rfl ?_
        refine mj_iload_n dX13_fitsAt_314 2 rfl ?_
        refine t_bndK hk (fun r11 er11 hk => ?_)
        refine t_callSiP dX13_fitsAt_315 M_X13_fitsRecord (H.2 _ _ _ _ er11) ML_X13_1048 SM_X13_fitsRecord (As := [.ref 950, .int x2, .int r1]) rfl rfl (by omega) (Nat.le_of_ble_eq_true rfl) (Nat.le_of_ble_eq_true rfl) (Nat.le_of_ble_eq_true rfl) ?_
        refine mj_if_eq 325 dX13_fitsAt_318 (by decide) (fun z => t_posK hk z (fun hk => ?_)) (fun z => t_negK hk z (fun hk => ?_))
        · refine mj_iconst (v := 0) dX13_fitsAt_325 (by decide) ?_
          exact t_somK hk (fun hf => t_iret dX13_fitsAt_326 rfl (by decide) ⟨rfl, _, rfl, hf⟩ (Nat.le_of_ble_eq_true rfl) (Nat.le_of_ble_eq_true rfl))
        · refine mj_iconst (v := 1) dX13_fitsAt_321 (by decide) ?_
          refine mj_goto 326 dX13_fitsAt_322 (by decide) ?_
          exact t_somK hk (fun hf => t_iret dX13_fitsAt_326 rfl (by decide) ⟨rfl, _, rfl, hf⟩ (Nat.le_of_ble_eq_true rfl) (Nat.le_of_ble_eq_true rfl))
    replace hk := t_neg hk h4
    by_cases h5 : (s.1 955 (r1.toNatClampNeg)).toInt = 6
    · replace hk := t_pos hk h5
      refine mj_tableIn 167 dX13_fitsAt_25 hh1 hh2 (by rw [h5]; rfl) (by decide) ?_
      refine mj_iload dX13_fitsAt_167 0 rfl ?_
      refine mj_bipush (v := 7) dX13_fitsAt_169 (by decide) ?_
      refine mj_icmp_ne 188 dX13_fitsAt_171 (by decide) (fun z => t_negK hk z (fun hk => ?_)) (fun z => t_posK hk z (fun hk => ?_))
      · refine mj_iconst (v := (-1)) dX13_fitsAt_188 (by decide) ?_
        refine mj_sublv [(0, .ref 950), (1, .int x2)] [3, 4] rfl ?_
        exact B_X13_fitsAt_189 rc H _ _ _ _ hk
      · refine mj_aload_n dX13_fitsAt_174 3 rfl ?_
        refine mj_iload_n dX13_fitsAt_175 2 rfl ?_
        refine mj_aload dX13_fitsAt_176 1 rfl ?_
        refine mj_iload_n dX13_fitsAt_178 4 rfl ?_
        refine mj_iconst (v := 1) dX13_fitsAt_179 (by decide) ?_
        refine mj_iadd dX13_fitsAt_180 ?_
        refine t_chkK hk (fun c11 hk => ?_)
        refine t_lald dX13_fitsAt_181 qa_1006 (t_ixv c11) ?_
        refine t_bndK hk (fun r13 er13 hk => ?_)
        refine t_callViP dX13_fitsAt_182 M_X13_fieldNode (C_X13_fieldNode _ _ _ _ er13) ML_X13_1042 IM_X13_fieldNode SE_X13_fieldNode qc_950 rfl (As := [.int r1, .long (s.2.1 1006 ((x2 + (1 : Int32)).toNatClampNeg))]) rfl rfl (by omega) (Nat.le_of_ble_eq_true rfl) (Nat.le_of_ble_eq_true rfl) (Nat.le_of_ble_eq_true rfl) ?_
        refine mj_goto 189 dX13_fitsAt_185 (by decide) ?_
        refine mj_sublv [(0, .ref 950), (1, .int x2)] [3, 4] rfl ?_
        exact B_X13_fitsAt_189 rc H _ _ _ _ hk
    replace hk := t_neg hk h5
    have h6 : (s.1 955 (r1.toNatClampNeg)).toInt = 7 := by omega
    refine mj_tableIn 219 dX13_fitsAt_25 hh1 hh2 (by rw [h6]; rfl) (by decide) ?_
    refine mj_iload dX13_fitsAt_219 0 rfl ?_
    refine mj_bipush (v := 8) dX13_fitsAt_221 (by decide) ?_
    refine mj_icmp_ne 254 dX13_fitsAt_223 (by decide) (fun z => t_negK hk z (fun hk => ?_)) (fun z => t_posK hk z (fun hk => ?_))
    · refine mj_sublv [(0, .ref 950), (1, .int x2), (3, .int r1), (4, .ref 1006)] [3, 4, 2, 1] rfl ?_
      exact B_X13_fitsAt_254 rc H _ _ _ _ hk
    · refine mj_aload dX13_fitsAt_226 1 rfl ?_
      refine mj_iload_n dX13_fitsAt_228 4 rfl ?_
      refine mj_iconst (v := 1) dX13_fitsAt_229 (by decide) ?_
      refine mj_iadd dX13_fitsAt_230 ?_
      refine t_chkK hk (fun c13 hk => ?_)
      refine t_lald dX13_fitsAt_231 qa_1006 (t_ixv c13) ?_
      refine mj_aload_n dX13_fitsAt_232 3 rfl ?_
      refine t_getR 957 dX13_fitsAt_233 F_X13_32 qr_950_19 ?_
      refine mj_iload_n dX13_fitsAt_236 2 rfl ?_
      refine t_lald dX13_fitsAt_237 qa_957 (t_ixv c2) ?_
      refine mj_aload_n dX13_fitsAt_238 3 rfl ?_
      refine t_getR 958 dX13_fitsAt_239 F_X13_36 qr_950_20 ?_
      refine mj_iload_n dX13_fitsAt_242 2 rfl ?_
      refine t_lald dX13_fitsAt_243 qa_958 (t_ixv c2) ?_
      refine t_callSiP dX13_fitsAt_244 M_X13_in (C_X13_in _ _ _ _) ML_X13_371 SM_X13_in (As := [.long (s.2.1 1006 ((x2 + (1 : Int32)).toNatClampNeg)), .long (s.2.1 957 (r1.toNatClampNeg)), .long (s.2.1 958 (r1.toNatClampNeg))]) rfl rfl (by omega) (Nat.le_of_ble_eq_true rfl) (Nat.le_of_ble_eq_true rfl) (Nat.le_of_ble_eq_true rfl) ?_
      refine mj_if_eq 254 dX13_fitsAt_247 (by decide) (fun z => t_posK hk z (fun hk => ?_)) (fun z => t_negK hk z (fun hk => ?_))
      · refine mj_sublv [(0, .ref 950), (1, .int x2), (3, .int r1), (4, .ref 1006)] [3, 4, 2, 1] rfl ?_
        exact B_X13_fitsAt_254 rc H _ _ _ _ hk
      · refine mj_iconst (v := 1) dX13_fitsAt_250 (by decide) ?_
        refine mj_goto 255 dX13_fitsAt_251 (by decide) ?_
        refine mj_sublv [(0, .ref 950), (1, .int x2), (3, .int r1), (4, .ref 1006)] [3, 4, 2, 1] rfl ?_
        exact B_X13_fitsAt_255 rc H _ _ _ _ _ hk
noncomputable def k_X13_fitsRecord_103 (rc : RT_X13_fitsAt) (l1 : Int32) (l3 : Int32) (s : t_S) : Option ((Int32 × Int32) ⊕ (Int32)) :=
 if t_ix l3 13000 = true then
  some (.inl (l1, (s.1 960 (l3.toNatClampNeg))))
else none
set_option maxRecDepth 4000 in
set_option maxHeartbeats 1000000 in
theorem B_X13_fitsRecord_103 {D : va_G} {cy : Nat → ClassId} {ad : Nat → Nat} {bs : Nat} {X : State → Heap → Prop} (rc : RT_X13_fitsAt) {k : Nat} (H : RH_X13_fitsAt rc k) (l1 : Int32) (l3 : Int32) (s : t_S) (Q : (Int32 × Int32) ⊕ (Int32) → Prop) (Hb72 : ∀ (y0 : Int32) (y1 : Int32), Q (.inl (y0, y1)) → mj_G D cy ad bs X cX13_fitsRecord 5 yX13_fitsRecord.cls (some .boolean) yX13_fitsRecord.name (4 + (k + 1)) 0 0 1065 (t_P (fun v s' => s' = s ∧ ∃ x, v = some (.int x) ∧ Q (.inr (x)))) 72 [(0, .ref 950), (1, .int (y0)), (3, .int (y1))] [] (t_m s) 1065 0 0) (hk : t_hk (k_X13_fitsRecord_103 rc l1 l3 s) Q) : mj_G D cy ad bs X cX13_fitsRecord 5 yX13_fitsRecord.cls (some .boolean) yX13_fitsRecord.name (4 + (k + 1)) 0 0 1065 (t_P (fun v s' => s' = s ∧ ∃ x, v = some (.int x) ∧ Q (.inr (x)))) 103 [(0, .ref 950), (1, .int l1), (3, .int l3)] [] (t_m s) 1065 0 0 := by
  refine mj_aload_n dX13_fitsRecord_103 0 rfl ?_
  refine t_getR 960 dX13_fitsRecord_104 F_X13_42 qr_950_22 ?_
  refine mj_iload_n dX13_fitsRecord_107 2 rfl ?_
  refine t_chkK hk (fun c0 hk => ?_)
  refine t_iald dX13_fitsRecord_108 qa_960 (t_ixv c0) ?_
  refine mj_istore_n 3 (lv2 := [(3, .int (s.1 960 (l3.toNatClampNeg))), (0, .ref 950), (1, .int l1)]) dX13_fitsRecord_109 rfl (by decide) rfl ?_
  refine mj_goto 72 dX13_fitsRecord_110 (by decide) ?_
  refine mj_sublv [(0, .ref 950), (1, .int l1), (3, .int (s.1 960 (l3.toNatClampNeg)))] [1, 2, 0] rfl ?_
  exact t_somK hk (fun hf => Hb72 l1 (s.1 960 (l3.toNatClampNeg)) hf)
noncomputable def k_X13_fitsRecord_72 (rc : RT_X13_fitsAt) (l1 : Int32) (l3 : Int32) (s : t_S) : Option ((Int32 × Int32) ⊕ (Int32)) :=
 if l3 < (0 : Int32) then ((some (1 : Int32)).map Sum.inr)
 else (if t_ix l3 13000 = true then
  if (lg_cmp (s.2.1 958 (l3.toNatClampNeg)) (0 : Int64)) = (0 : Int32) then ((f_X13_fieldOf l1 (s.2.1 957 (l3.toNatClampNeg)) s).bind (fun r2 =>
 if (0 : Int32) ≤ r2 then (k_X13_fitsRecord_103 rc l1 l3 s)
 else ((some (0 : Int32)).map Sum.inr)))
 else (k_X13_fitsRecord_103 rc l1 l3 s)
else none)
set_option maxRecDepth 4000 in
set_option maxHeartbeats 1000000 in
theorem B_X13_fitsRecord_72 {D : va_G} {cy : Nat → ClassId} {ad : Nat → Nat} {bs : Nat} {X : State → Heap → Prop} (rc : RT_X13_fitsAt) {k : Nat} (H : RH_X13_fitsAt rc k) (l1 : Int32) (l3 : Int32) (s : t_S) (Q : (Int32 × Int32) ⊕ (Int32) → Prop) (Hb72 : ∀ (y0 : Int32) (y1 : Int32), Q (.inl (y0, y1)) → mj_G D cy ad bs X cX13_fitsRecord 5 yX13_fitsRecord.cls (some .boolean) yX13_fitsRecord.name (4 + (k + 1)) 0 0 1065 (t_P (fun v s' => s' = s ∧ ∃ x, v = some (.int x) ∧ Q (.inr (x)))) 72 [(0, .ref 950), (1, .int (y0)), (3, .int (y1))] [] (t_m s) 1065 0 0) (hk : t_hk (k_X13_fitsRecord_72 rc l1 l3 s) Q) : mj_G D cy ad bs X cX13_fitsRecord 5 yX13_fitsRecord.cls (some .boolean) yX13_fitsRecord.name (4 + (k + 1)) 0 0 1065 (t_P (fun v s' => s' = s ∧ ∃ x, v = some (.int x) ∧ Q (.inr (x)))) 72 [(0, .ref 950), (1, .int l1), (3, .int l3)] [] (t_m s) 1065 0 0 := by
  refine mj_iload_n dX13_fitsRecord_72 2 rfl ?_
  refine mj_if_lt 113 dX13_fitsRecord_73 (by decide) (fun z => t_posK hk z (fun hk => ?_)) (fun z => t_negK hk z (fun hk => ?_))
  · refine t_mapK hk (fun hk => ?_)
    refine mj_iconst (v := 1) dX13_fitsRecord_113 (by decide) ?_
    exact t_somK hk (fun hf => t_iret dX13_fitsRecord_114 rfl (by decide) ⟨rfl, _, rfl, hf⟩ (Nat.le_of_ble_eq_true rfl) (Nat.le_of_ble_eq_true rfl))
  · refine mj_aload_n dX13_fitsRecord_76 0 rfl ?_
    refine t_getR 958 dX13_fitsRecord_77 F_X13_36 qr_950_20 ?_
    refine mj_iload_n dX13_fitsRecord_80 2 rfl ?_
    refine t_chkK hk (fun c0 hk => ?_)
    refine t_lald dX13_fitsRecord_81 qa_958 (t_ixv c0) ?_
    refine mj_lconst (v := 0) dX13_fitsRecord_82 (by decide) ?_
    refine mj_lcmp dX13_fitsRecord_83 ?_
    refine mj_if_ne 103 dX13_fitsRecord_84 (by decide) (fun z => t_negK hk z (fun hk => ?_)) (fun z => t_posK hk z (fun hk => ?_))
    · exact B_X13_fitsRecord_103 rc H _ _ _ _ (fun y0 y1 hx => Hb72 y0 y1 hx) hk
    · refine mj_aload_n dX13_fitsRecord_87 0 rfl ?_
      refine mj_iload_n dX13_fitsRecord_88 1 rfl ?_
      refine mj_aload_n dX13_fitsRecord_89 0 rfl ?_
      refine t_getR 957 dX13_fitsRecord_90 F_X13_32 qr_950_19 ?_
      refine mj_iload_n dX13_fitsRecord_93 2 rfl ?_
      refine t_lald dX13_fitsRecord_94 qa_957 (t_ixv c0) ?_
      refine t_bndK hk (fun r2 er2 hk => ?_)
      refine t_callViP dX13_fitsRecord_95 M_X13_fieldOf (C_X13_fieldOf _ _ _ _ er2) ML_X13_966 IM_X13_fieldOf SE_X13_fieldOf qc_950 rfl (As := [.int l1, .long (s.2.1 957 (l3.toNatClampNeg))]) rfl rfl (by omega) (Nat.le_of_ble_eq_true rfl) (Nat.le_of_ble_eq_true rfl) (Nat.le_of_ble_eq_true rfl) ?_
      refine mj_if_ge 103 dX13_fitsRecord_98 (by decide) (fun z => t_posK hk z (fun hk => ?_)) (fun z => t_negK hk z (fun hk => ?_))
      · exact B_X13_fitsRecord_103 rc H _ _ _ _ (fun y0 y1 hx => Hb72 y0 y1 hx) hk
      · refine t_mapK hk (fun hk => ?_)
        refine mj_iconst (v := 0) dX13_fitsRecord_101 (by decide) ?_
        exact t_somK hk (fun hf => t_iret dX13_fitsRecord_102 rfl (by decide) ⟨rfl, _, rfl, hf⟩ (Nat.le_of_ble_eq_true rfl) (Nat.le_of_ble_eq_true rfl))
noncomputable def b_X13_fitsRecord_72 (rc : RT_X13_fitsAt) (s : t_S) (x : Int32 × Int32) : Option ((Int32 × Int32) ⊕ (Int32)) := k_X13_fitsRecord_72 rc x.1 x.2 s
set_option maxRecDepth 4000 in
set_option maxHeartbeats 1000000 in
theorem LH_X13_fitsRecord_72 {D : va_G} {cy : Nat → ClassId} {ad : Nat → Nat} {bs : Nat} {X : State → Heap → Prop} (rc : RT_X13_fitsAt) {k : Nat} (H : RH_X13_fitsAt rc k) (s : t_S) : ∀ (n : Nat) (y0 : Int32) (y1 : Int32) (Q : Int32 → Prop) (hk : t_hk (t_loop (b_X13_fitsRecord_72 rc s) n (y0, y1)) Q), mj_G D cy ad bs X cX13_fitsRecord 5 yX13_fitsRecord.cls (some .boolean) yX13_fitsRecord.name (4 + (k + 1)) 0 0 1065 (t_P (fun v s' => s' = s ∧ ∃ x, v = some (.int x) ∧ Q (x))) 72 [(0, .ref 950), (1, .int (y0)), (3, .int (y1))] [] (t_m s) 1065 0 0 := by
  intro n
  induction n with
  | zero => intro y0 y1 Q hk; obtain ⟨r, hr, _⟩ := hk; cases hr
  | succ n ih =>
    intro y0 y1 Q hk
    exact B_X13_fitsRecord_72 rc H y0 y1 s (fun y => t_lq (b_X13_fitsRecord_72 rc s) n Q y) (fun y0' y1' hy => ih y0' y1' Q hy) (t_lp (b := b_X13_fitsRecord_72 rc s) (n := n) (x := (y0, y1)) hk)
noncomputable def k_X13_fitsRecord_2 (rc : RT_X13_fitsAt) (l1 : Int32) (l2 : Int32) (l3 : Int32) (s : t_S) : Option ((Int32 × Int32 × Int32) ⊕ (Int32)) :=
 if t_ix (l1 + (1 : Int32)) 626600 = true then
  if ((s.2.1 1006 ((l1 + (1 : Int32)).toNatClampNeg)).toInt32) ≤ l3 then ((if t_ix l2 13000 = true then
  t_loop (b_X13_fitsRecord_72 rc s) t_N (l1, (s.1 959 (l2.toNatClampNeg)))
else none).map Sum.inr)
 else (if t_ix ((l1 + (2 : Int32)) + l3) 626600 = true then
  (f_X13_fieldNode l2 (s.2.1 1006 (((l1 + (2 : Int32)) + l3).toNatClampNeg)) s).bind (fun r4 =>
 if r4 < (0 : Int32) then ((some (0 : Int32)).map Sum.inr)
 else ((f_X13_partOf l1 l3 s).bind (fun r5 =>
 if t_ix r4 13000 = true then
  (rc.1 r5 (s.1 959 (r4.toNatClampNeg)) s).bind (fun r7 =>
 if r7 = (0 : Int32) then ((some (0 : Int32)).map Sum.inr)
 else (some (.inl (l1, l2, (l3 + 1)))))
else none)))
else none)
else none
set_option maxRecDepth 4000 in
set_option maxHeartbeats 1000000 in
theorem B_X13_fitsRecord_2 {D : va_G} {cy : Nat → ClassId} {ad : Nat → Nat} {bs : Nat} {X : State → Heap → Prop} (rc : RT_X13_fitsAt) {k : Nat} (H : RH_X13_fitsAt rc k) (l1 : Int32) (l2 : Int32) (l3 : Int32) (s : t_S) (Q : (Int32 × Int32 × Int32) ⊕ (Int32) → Prop) (Hb2 : ∀ (y0 : Int32) (y1 : Int32) (y2 : Int32), Q (.inl (y0, y1, y2)) → mj_G D cy ad bs X cX13_fitsRecord 5 yX13_fitsRecord.cls (some .boolean) yX13_fitsRecord.name (4 + (k + 1)) 0 0 1065 (t_P (fun v s' => s' = s ∧ ∃ x, v = some (.int x) ∧ Q (.inr (x)))) 2 [(0, .ref 950), (1, .int (y0)), (2, .int (y1)), (3, .int (y2))] [] (t_m s) 1065 0 0) (hk : t_hk (k_X13_fitsRecord_2 rc l1 l2 l3 s) Q) : mj_G D cy ad bs X cX13_fitsRecord 5 yX13_fitsRecord.cls (some .boolean) yX13_fitsRecord.name (4 + (k + 1)) 0 0 1065 (t_P (fun v s' => s' = s ∧ ∃ x, v = some (.int x) ∧ Q (.inr (x)))) 2 [(0, .ref 950), (1, .int l1), (2, .int l2), (3, .int l3)] [] (t_m s) 1065 0 0 := by
  refine mj_iload_n dX13_fitsRecord_2 3 rfl ?_
  refine mj_aload_n dX13_fitsRecord_3 0 rfl ?_
  refine t_getR 1006 dX13_fitsRecord_4 F_X13_182 qr_950_95 ?_
  refine mj_iload_n dX13_fitsRecord_7 1 rfl ?_
  refine mj_iconst (v := 1) dX13_fitsRecord_8 (by decide) ?_
  refine mj_iadd dX13_fitsRecord_9 ?_
  refine t_chkK hk (fun c0 hk => ?_)
  refine t_lald dX13_fitsRecord_10 qa_1006 (t_ixv c0) ?_
  refine mj_l2i (v := (s.2.1 1006 ((l1 + (1 : Int32)).toNatClampNeg)).toInt32) dX13_fitsRecord_11 rfl ?_
  refine mj_icmp_ge 65 dX13_fitsRecord_12 (by decide) (fun z => t_posK hk z (fun hk => ?_)) (fun z => t_negK hk z (fun hk => ?_))
  · refine t_mapK hk (fun hk => ?_)
    refine mj_aload_n dX13_fitsRecord_65 0 rfl ?_
    refine t_getR 959 dX13_fitsRecord_66 F_X13_39 qr_950_21 ?_
    refine mj_iload_n dX13_fitsRecord_69 2 rfl ?_
    refine t_chkK hk (fun c1 hk => ?_)
    refine t_iald dX13_fitsRecord_70 qa_959 (t_ixv c1) ?_
    refine mj_istore_n 3 (lv2 := [(3, .int (s.1 959 (l2.toNatClampNeg))), (0, .ref 950), (1, .int l1), (2, .int l2)]) dX13_fitsRecord_71 rfl (by decide) rfl ?_
    refine mj_sublv [(0, .ref 950), (1, .int l1), (3, .int (s.1 959 (l2.toNatClampNeg)))] [1, 2, 0] rfl ?_
    exact LH_X13_fitsRecord_72 rc H _ _ l1 (s.1 959 (l2.toNatClampNeg)) _ hk
  · refine mj_aload_n dX13_fitsRecord_15 0 rfl ?_
    refine mj_iload_n dX13_fitsRecord_16 2 rfl ?_
    refine mj_aload_n dX13_fitsRecord_17 0 rfl ?_
    refine t_getR 1006 dX13_fitsRecord_18 F_X13_182 qr_950_95 ?_
    refine mj_iload_n dX13_fitsRecord_21 1 rfl ?_
    refine mj_iconst (v := 2) dX13_fitsRecord_22 (by decide) ?_
    refine mj_iadd dX13_fitsRecord_23 ?_
    refine mj_iload_n dX13_fitsRecord_24 3 rfl ?_
    refine mj_iadd dX13_fitsRecord_25 ?_
    refine t_chkK hk (fun c2 hk => ?_)
    refine t_lald dX13_fitsRecord_26 qa_1006 (t_ixv c2) ?_
    refine t_bndK hk (fun r4 er4 hk => ?_)
    refine t_callViP dX13_fitsRecord_27 M_X13_fieldNode (C_X13_fieldNode _ _ _ _ er4) ML_X13_1042 IM_X13_fieldNode SE_X13_fieldNode qc_950 rfl (As := [.int l2, .long (s.2.1 1006 (((l1 + (2 : Int32)) + l3).toNatClampNeg))]) rfl rfl (by omega) (Nat.le_of_ble_eq_true rfl) (Nat.le_of_ble_eq_true rfl) (Nat.le_of_ble_eq_true rfl) ?_
    refine mj_istore (lv2 := [(4, .int r4), (0, .ref 950), (1, .int l1), (2, .int l2), (3, .int l3)]) dX13_fitsRecord_30 (by decide) rfl ?_
    refine mj_iload dX13_fitsRecord_32 0 rfl ?_
    refine mj_if_lt 57 dX13_fitsRecord_34 (by decide) (fun z => t_posK hk z (fun hk => ?_)) (fun z => t_negK hk z (fun hk => ?_))
    · refine t_mapK hk (fun hk => ?_)
      refine mj_iconst (v := 0) dX13_fitsRecord_57 (by decide) ?_
      exact t_somK hk (fun hf => t_iret dX13_fitsRecord_58 rfl (by decide) ⟨rfl, _, rfl, hf⟩ (Nat.le_of_ble_eq_true rfl) (Nat.le_of_ble_eq_true rfl))
    · refine mj_aload_n dX13_fitsRecord_37 1 rfl ?_
      refine mj_aload_n dX13_fitsRecord_38 1 rfl ?_
      refine mj_iload_n dX13_fitsRecord_39 2 rfl ?_
      refine mj_iload_n dX13_fitsRecord_40 4 rfl ?_
      refine t_bndK hk (fun r5 er5 hk => ?_)
      refine t_callViP dX13_fitsRecord_41 M_X13_partOf (C_X13_partOf _ _ _ _ er5) ML_X13_855 IM_X13_partOf SE_X13_partOf qc_950 rfl (As := [.int l1, .int l3]) rfl rfl (by omega) (Nat.le_of_ble_eq_true rfl) (Nat.le_of_ble_eq_true rfl) (Nat.le_of_ble_eq_true rfl) ?_
      refine mj_aload_n dX13_fitsRecord_44 1 rfl ?_
      refine t_getR 959 dX13_fitsRecord_45 F_X13_39 qr_950_21 ?_
      refine mj_iload dX13_fitsRecord_48 0 rfl ?_
      refine t_chkK hk (fun c5 hk => ?_)
      refine t_iald dX13_fitsRecord_50 qa_959 (t_ixv c5) ?_
      refine t_bndK hk (fun r7 er7 hk => ?_)
      refine t_callSiP dX13_fitsRecord_51 M_X13_fitsAt (H.1 _ _ _ _ er7) ML_X13_1045 SM_X13_fitsAt (As := [.ref 950, .int r5, .int (s.1 959 (r4.toNatClampNeg))]) rfl rfl (by omega) (Nat.le_of_ble_eq_true rfl) (Nat.le_of_ble_eq_true rfl) (Nat.le_of_ble_eq_true rfl) ?_
      refine mj_if_ne 59 dX13_fitsRecord_54 (by decide) (fun z => t_negK hk z (fun hk => ?_)) (fun z => t_posK hk z (fun hk => ?_))
      · refine mj_iinc (k := 4) (v := (l3 + 1)) (lv2 := [(3, .int (l3 + 1)), (4, .int r4), (0, .ref 950), (1, .int l1), (2, .int l2)]) dX13_fitsRecord_59 rfl rfl (by decide) rfl ?_
        refine mj_goto 2 dX13_fitsRecord_62 (by decide) ?_
        refine mj_sublv [(0, .ref 950), (1, .int l1), (2, .int l2), (3, .int (l3 + 1))] [2, 3, 4, 0] rfl ?_
        exact t_somK hk (fun hf => Hb2 l1 l2 (l3 + 1) hf)
      · refine t_mapK hk (fun hk => ?_)
        refine mj_iconst (v := 0) dX13_fitsRecord_57 (by decide) ?_
        exact t_somK hk (fun hf => t_iret dX13_fitsRecord_58 rfl (by decide) ⟨rfl, _, rfl, hf⟩ (Nat.le_of_ble_eq_true rfl) (Nat.le_of_ble_eq_true rfl))
noncomputable def b_X13_fitsRecord_2 (rc : RT_X13_fitsAt) (s : t_S) (x : Int32 × Int32 × Int32) : Option ((Int32 × Int32 × Int32) ⊕ (Int32)) := k_X13_fitsRecord_2 rc x.1 x.2.1 x.2.2 s
set_option maxRecDepth 4000 in
set_option maxHeartbeats 1000000 in
theorem LH_X13_fitsRecord_2 {D : va_G} {cy : Nat → ClassId} {ad : Nat → Nat} {bs : Nat} {X : State → Heap → Prop} (rc : RT_X13_fitsAt) {k : Nat} (H : RH_X13_fitsAt rc k) (s : t_S) : ∀ (n : Nat) (y0 : Int32) (y1 : Int32) (y2 : Int32) (Q : Int32 → Prop) (hk : t_hk (t_loop (b_X13_fitsRecord_2 rc s) n (y0, y1, y2)) Q), mj_G D cy ad bs X cX13_fitsRecord 5 yX13_fitsRecord.cls (some .boolean) yX13_fitsRecord.name (4 + (k + 1)) 0 0 1065 (t_P (fun v s' => s' = s ∧ ∃ x, v = some (.int x) ∧ Q (x))) 2 [(0, .ref 950), (1, .int (y0)), (2, .int (y1)), (3, .int (y2))] [] (t_m s) 1065 0 0 := by
  intro n
  induction n with
  | zero => intro y0 y1 y2 Q hk; obtain ⟨r, hr, _⟩ := hk; cases hr
  | succ n ih =>
    intro y0 y1 y2 Q hk
    exact B_X13_fitsRecord_2 rc H y0 y1 y2 s (fun y => t_lq (b_X13_fitsRecord_2 rc s) n Q y) (fun y0' y1' y2' hy => ih y0' y1' y2' Q hy) (t_lp (b := b_X13_fitsRecord_2 rc s) (n := n) (x := (y0, y1, y2)) hk)
noncomputable def m_X13_fitsRecord (rc : RT_X13_fitsAt) (x2 : Int32) (x3 : Int32) (s : t_S) : Option (Int32) :=
 t_loop (b_X13_fitsRecord_2 rc s) t_N (x2, x3, 0)
set_option maxRecDepth 4000 in
set_option maxHeartbeats 1000000 in
theorem E_X13_fitsRecord (rc : RT_X13_fitsAt) {k : Nat} (H : RH_X13_fitsAt rc k) (x2 : Int32) (x3 : Int32) (s : t_S) (r : Int32) (hr : m_X13_fitsRecord rc x2 x3 s = some r) : t_C yX13_fitsRecord cX13_fitsRecord 5 (some .boolean) (4 + (k + 1)) [.ref 950, .int x2, .int x3] s (fun v s' => v = some (.int r) ∧ s' = s) := by
  refine t_C.imp (P := fun v s' => s' = s ∧ ∃ x, v = some (.int x) ∧ (fun q => q = r) (x)) (t_C.of (by decide +kernel) (Nat.le_of_ble_eq_true rfl) ?_) (fun v s' hp => by obtain ⟨rfl, x, rfl, rfl⟩ := hp; exact ⟨rfl, rfl⟩)
  intro D cy ad bs X
  have hk : t_hk (m_X13_fitsRecord rc x2 x3 s) (fun q => q = r) := ⟨r, hr, rfl⟩
  show mj_G D cy ad bs X cX13_fitsRecord 5 yX13_fitsRecord.cls (some .boolean) yX13_fitsRecord.name (4 + (k + 1)) 0 0 1065 (t_P (fun v s' => s' = s ∧ ∃ x, v = some (.int x) ∧ (fun q => q = r) (x))) 0 [(0, .ref 950), (1, .int x2), (2, .int x3)] [] (t_m s) 1065 0 0
  refine mj_iconst (v := 0) dX13_fitsRecord_0 (by decide) ?_
  refine mj_istore_n 3 (lv2 := [(3, .int 0), (0, .ref 950), (1, .int x2), (2, .int x3)]) dX13_fitsRecord_1 rfl (by decide) rfl ?_
  refine mj_sublv [(0, .ref 950), (1, .int x2), (2, .int x3), (3, .int 0)] [1, 2, 3, 0] rfl ?_
  exact LH_X13_fitsRecord_2 rc H _ _ x2 x3 0 _ hk
/-- so many calls deep -/
noncomputable def R_X13_fitsAt : Nat → RT_X13_fitsAt
  | 0 => ⟨fun _ _ _ => none, fun _ _ _ => none⟩
  | k + 1 => ⟨fun x2 x3 s => m_X13_fitsAt (R_X13_fitsAt k) x2 x3 s, fun x2 x3 s => m_X13_fitsRecord (R_X13_fitsAt k) x2 x3 s⟩
theorem RR_X13_fitsAt : ∀ k : Nat, RH_X13_fitsAt (R_X13_fitsAt k) k := by
  intro k
  induction k with
  | zero => exact ⟨fun _ _ _ _ h => (by cases h), fun _ _ _ _ h => (by cases h)⟩
  | succ k ih => exact ⟨fun x2 x3 s r h => E_X13_fitsAt (R_X13_fitsAt k) ih x2 x3 s r h, fun x2 x3 s r h => E_X13_fitsRecord (R_X13_fitsAt k) ih x2 x3 s r h⟩
noncomputable def f_X13_fitsAt (x2 : Int32) (x3 : Int32) (s : t_S) : Option (Int32) := (R_X13_fitsAt 300).1 x2 x3 s
theorem C_X13_fitsAt (x2 : Int32) (x3 : Int32) (s : t_S) (r : Int32) (hr : f_X13_fitsAt x2 x3 s = some r) : t_C yX13_fitsAt cX13_fitsAt 9 (some .boolean) 304 [.ref 950, .int x2, .int x3] s (fun v s' => v = some (.int r) ∧ s' = s) := (RR_X13_fitsAt 300).1 x2 x3 s r hr
noncomputable def f_X13_fitsRecord (x2 : Int32) (x3 : Int32) (s : t_S) : Option (Int32) := (R_X13_fitsAt 300).2 x2 x3 s
theorem C_X13_fitsRecord (x2 : Int32) (x3 : Int32) (s : t_S) (r : Int32) (hr : f_X13_fitsRecord x2 x3 s = some r) : t_C yX13_fitsRecord cX13_fitsRecord 5 (some .boolean) 304 [.ref 950, .int x2, .int x3] s (fun v s' => v = some (.int r) ∧ s' = s) := (RR_X13_fitsAt 300).2 x2 x3 s r hr

theorem dX13_checkType_0 : decode cX13_checkType 0 = .ok (.iload_n 1, 1) := by decide +kernel
theorem dX13_checkType_1 : decode cX13_checkType 1 = .ok (.ifCond .lt 35, 3) := by decide +kernel
theorem dX13_checkType_10 : decode cX13_checkType 10 = .ok (.aload_n 0, 1) := by decide +kernel
theorem dX13_checkType_11 : decode cX13_checkType 11 = .ok (.aload_n 0, 1) := by decide +kernel
theorem dX13_checkType_12 : decode cX13_checkType 12 = .ok (.getfield 54, 3) := by decide +kernel
theorem dX13_checkType_15 : decode cX13_checkType 15 = .ok (.iconst 0, 1) := by decide +kernel
theorem dX13_checkType_16 : decode cX13_checkType 16 = .ok (.aload_n 0, 1) := by decide +kernel
theorem dX13_checkType_17 : decode cX13_checkType 17 = .ok (.getfield 624, 3) := by decide +kernel
theorem dX13_checkType_20 : decode cX13_checkType 20 = .ok (.iload_n 1, 1) := by decide +kernel
theorem dX13_checkType_21 : decode cX13_checkType 21 = .ok (.invokevirtual 788, 3) := by decide +kernel
theorem dX13_checkType_24 : decode cX13_checkType 24 = .ok (.iaload, 1) := by decide +kernel
theorem dX13_checkType_25 : decode cX13_checkType 25 = .ok (.invokestatic 1045, 3) := by decide +kernel
theorem dX13_checkType_28 : decode cX13_checkType 28 = .ok (.ifCond .ne 8, 3) := by decide +kernel
theorem dX13_checkType_31 : decode cX13_checkType 31 = .ok (.aload_n 0, 1) := by decide +kernel
theorem dX13_checkType_32 : decode cX13_checkType 32 = .ok (.iconst 4, 1) := by decide +kernel
theorem dX13_checkType_33 : decode cX13_checkType 33 = .ok (.invokevirtual 866, 3) := by decide +kernel
theorem dX13_checkType_36 : decode cX13_checkType 36 = .ok (.return_, 1) := by decide +kernel
theorem dX13_checkType_4 : decode cX13_checkType 4 = .ok (.aload_n 0, 1) := by decide +kernel
theorem dX13_checkType_5 : decode cX13_checkType 5 = .ok (.iload_n 2, 1) := by decide +kernel
theorem dX13_checkType_6 : decode cX13_checkType 6 = .ok (.aload_n 0, 1) := by decide +kernel
theorem dX13_checkType_7 : decode cX13_checkType 7 = .ok (.getfield 57, 3) := by decide +kernel
noncomputable def f_X13_checkType (x1 : Int32) (x2 : Int32) (s : t_S) : Option (t_S) :=
 if x1 < (0 : Int32) then (some (s))
 else ((f_X13_find 964 (0 : Int32) (s.1 950 40) x1 s).bind (fun r1 =>
 if t_ix r1 60 = true then
  (f_X13_fitsAt x2 (s.1 965 (r1.toNatClampNeg)) s).bind (fun r3 =>
 if r3 = (0 : Int32) then ((f_X13_error (4 : Int32) s).bind (fun r4 =>
 some (r4)))
 else (some (s)))
else none))
set_option maxRecDepth 4000 in
set_option maxHeartbeats 1000000 in
theorem C_X13_checkType (x1 : Int32) (x2 : Int32) (s : t_S) (r : t_S) (hr : f_X13_checkType x1 x2 s = some r) : t_C yX13_checkType cX13_checkType 3 none 305 [.ref 950, .int x1, .int x2] s (fun v s' => v = none ∧ s' = r) := by
  refine t_C.imp (P := fun v s' => v = none ∧ (fun q => q = r) (s')) (t_C.of (by decide +kernel) (Nat.le_of_ble_eq_true rfl) ?_) (fun v s' hp => hp)
  intro D cy ad bs X
  have hk : t_hk (f_X13_checkType x1 x2 s) (fun q => q = r) := ⟨r, hr, rfl⟩
  show mj_G D cy ad bs X cX13_checkType 3 yX13_checkType.cls none yX13_checkType.name 305 0 0 1065 (t_P (fun v s' => v = none ∧ (fun q => q = r) (s'))) 0 [(0, .ref 950), (1, .int x1), (2, .int x2)] [] (t_m s) 1065 0 0
  refine mj_iload_n dX13_checkType_0 1 rfl ?_
  refine mj_if_lt 36 dX13_checkType_1 (by decide) (fun z => t_posK hk z (fun hk => ?_)) (fun z => t_negK hk z (fun hk => ?_))
  · exact t_somK hk (fun hf => t_vret dX13_checkType_36 rfl ⟨rfl, hf⟩ (Nat.le_of_ble_eq_true rfl) (Nat.le_of_ble_eq_true rfl))
  · refine mj_aload_n dX13_checkType_4 0 rfl ?_
    refine mj_iload_n dX13_checkType_5 2 rfl ?_
    refine mj_aload_n dX13_checkType_6 0 rfl ?_
    refine t_getR 965 dX13_checkType_7 F_X13_57 qr_950_38 ?_
    refine mj_aload_n dX13_checkType_10 0 rfl ?_
    refine mj_aload_n dX13_checkType_11 0 rfl ?_
    refine t_getR 964 dX13_checkType_12 F_X13_54 qr_950_37 ?_
    refine mj_iconst (v := 0) dX13_checkType_15 (by decide) ?_
    refine mj_aload_n dX13_checkType_16 0 rfl ?_
    refine t_getI dX13_checkType_17 F_X13_624 qf_950_40 ?_
    refine mj_iload_n dX13_checkType_20 1 rfl ?_
    refine t_bndK hk (fun r1 er1 hk => ?_)
    refine t_callViP dX13_checkType_21 M_X13_find (C_X13_find _ _ _ _ _ _ er1) ML_X13_788 IM_X13_find SE_X13_find qc_950 rfl (As := [.ref 964, .int 0, .int (s.1 950 40), .int x1]) rfl rfl (Nat.le_of_ble_eq_true rfl) (Nat.le_of_ble_eq_true rfl) (Nat.le_of_ble_eq_true rfl) (Nat.le_of_ble_eq_true rfl) ?_
    refine t_chkK hk (fun c1 hk => ?_)
    refine t_iald dX13_checkType_24 qa_965 (t_ixv c1) ?_
    refine t_bndK hk (fun r3 er3 hk => ?_)
    refine t_callSiP dX13_checkType_25 M_X13_fitsAt (C_X13_fitsAt _ _ _ _ er3) ML_X13_1045 SM_X13_fitsAt (As := [.ref 950, .int x2, .int (s.1 965 (r1.toNatClampNeg))]) rfl rfl (Nat.le_of_ble_eq_true rfl) (Nat.le_of_ble_eq_true rfl) (Nat.le_of_ble_eq_true rfl) (Nat.le_of_ble_eq_true rfl) ?_
    refine mj_if_ne 36 dX13_checkType_28 (by decide) (fun z => t_negK hk z (fun hk => ?_)) (fun z => t_posK hk z (fun hk => ?_))
    · exact t_somK hk (fun hf => t_vret dX13_checkType_36 rfl ⟨rfl, hf⟩ (Nat.le_of_ble_eq_true rfl) (Nat.le_of_ble_eq_true rfl))
    · refine mj_aload_n dX13_checkType_31 0 rfl ?_
      refine mj_iconst (v := 4) dX13_checkType_32 (by decide) ?_
      refine t_bndK hk (fun r4 er4 hk => ?_)
      refine t_callVvE dX13_checkType_33 M_X13_error (C_X13_error _ _ _ er4) ML_X13_866 IM_X13_error SE_X13_error qc_950 rfl (As := [.int 4]) rfl rfl (Nat.le_of_ble_eq_true rfl) (Nat.le_of_ble_eq_true rfl) (Nat.le_of_ble_eq_true rfl) (Nat.le_of_ble_eq_true rfl) ?_
      exact t_somK hk (fun hf => t_vret dX13_checkType_36 rfl ⟨rfl, hf⟩ (Nat.le_of_ble_eq_true rfl) (Nat.le_of_ble_eq_true rfl))

theorem dX13_behind_0 : decode cX13_behind 0 = .ok (.iload_n 1, 1) := by decide +kernel
theorem dX13_behind_1 : decode cX13_behind 1 = .ok (.istore_n 2, 1) := by decide +kernel
theorem dX13_behind_10 : decode cX13_behind 10 = .ok (.iload_n 2, 1) := by decide +kernel
theorem dX13_behind_11 : decode cX13_behind 11 = .ok (.iaload, 1) := by decide +kernel
theorem dX13_behind_12 : decode cX13_behind 12 = .ok (.bipush 20, 2) := by decide +kernel
theorem dX13_behind_14 : decode cX13_behind 14 = .ok (.if_icmp .ne 7, 3) := by decide +kernel
theorem dX13_behind_17 : decode cX13_behind 17 = .ok (.iconst 1, 1) := by decide +kernel
theorem dX13_behind_18 : decode cX13_behind 18 = .ok (.goto 4, 3) := by decide +kernel
theorem dX13_behind_2 : decode cX13_behind 2 = .ok (.iload_n 2, 1) := by decide +kernel
theorem dX13_behind_21 : decode cX13_behind 21 = .ok (.iconst 0, 1) := by decide +kernel
theorem dX13_behind_22 : decode cX13_behind 22 = .ok (.istore_n 3, 1) := by decide +kernel
theorem dX13_behind_23 : decode cX13_behind 23 = .ok (.iload_n 3, 1) := by decide +kernel
theorem dX13_behind_24 : decode cX13_behind 24 = .ok (.ifCond .ne 19, 3) := by decide +kernel
theorem dX13_behind_27 : decode cX13_behind 27 = .ok (.aload_n 0, 1) := by decide +kernel
theorem dX13_behind_28 : decode cX13_behind 28 = .ok (.getfield 129, 3) := by decide +kernel
theorem dX13_behind_3 : decode cX13_behind 3 = .ok (.ifCond .lt 73, 3) := by decide +kernel
theorem dX13_behind_31 : decode cX13_behind 31 = .ok (.iload_n 2, 1) := by decide +kernel
theorem dX13_behind_32 : decode cX13_behind 32 = .ok (.iaload, 1) := by decide +kernel
theorem dX13_behind_33 : decode cX13_behind 33 = .ok (.ifCond .lt 10, 3) := by decide +kernel
theorem dX13_behind_36 : decode cX13_behind 36 = .ok (.aload_n 0, 1) := by decide +kernel
theorem dX13_behind_37 : decode cX13_behind 37 = .ok (.getfield 129, 3) := by decide +kernel
theorem dX13_behind_40 : decode cX13_behind 40 = .ok (.iload_n 2, 1) := by decide +kernel
theorem dX13_behind_41 : decode cX13_behind 41 = .ok (.iaload, 1) := by decide +kernel
theorem dX13_behind_42 : decode cX13_behind 42 = .ok (.ireturn, 1) := by decide +kernel
theorem dX13_behind_43 : decode cX13_behind 43 = .ok (.aload_n 0, 1) := by decide +kernel
theorem dX13_behind_44 : decode cX13_behind 44 = .ok (.getfield 132, 3) := by decide +kernel
theorem dX13_behind_47 : decode cX13_behind 47 = .ok (.iload_n 2, 1) := by decide +kernel
theorem dX13_behind_48 : decode cX13_behind 48 = .ok (.iaload, 1) := by decide +kernel
theorem dX13_behind_49 : decode cX13_behind 49 = .ok (.istore 4, 2) := by decide +kernel
theorem dX13_behind_51 : decode cX13_behind 51 = .ok (.iload 4, 2) := by decide +kernel
theorem dX13_behind_53 : decode cX13_behind 53 = .ok (.ifCond .lt 17, 3) := by decide +kernel
theorem dX13_behind_56 : decode cX13_behind 56 = .ok (.aload_n 0, 1) := by decide +kernel
theorem dX13_behind_57 : decode cX13_behind 57 = .ok (.getfield 126, 3) := by decide +kernel
theorem dX13_behind_6 : decode cX13_behind 6 = .ok (.aload_n 0, 1) := by decide +kernel
theorem dX13_behind_60 : decode cX13_behind 60 = .ok (.iload 4, 2) := by decide +kernel
theorem dX13_behind_62 : decode cX13_behind 62 = .ok (.iaload, 1) := by decide +kernel
theorem dX13_behind_63 : decode cX13_behind 63 = .ok (.iconst 4, 1) := by decide +kernel
theorem dX13_behind_64 : decode cX13_behind 64 = .ok (.if_icmp .ne 6, 3) := by decide +kernel
theorem dX13_behind_67 : decode cX13_behind 67 = .ok (.iload 4, 2) := by decide +kernel
theorem dX13_behind_69 : decode cX13_behind 69 = .ok (.ireturn, 1) := by decide +kernel
theorem dX13_behind_7 : decode cX13_behind 7 = .ok (.getfield 126, 3) := by decide +kernel
theorem dX13_behind_70 : decode cX13_behind 70 = .ok (.iload 4, 2) := by decide +kernel
theorem dX13_behind_72 : decode cX13_behind 72 = .ok (.istore_n 2, 1) := by decide +kernel
theorem dX13_behind_73 : decode cX13_behind 73 = .ok (.goto (-71), 3) := by decide +kernel
theorem dX13_behind_76 : decode cX13_behind 76 = .ok (.iconst (-1), 1) := by decide +kernel
theorem dX13_behind_77 : decode cX13_behind 77 = .ok (.ireturn, 1) := by decide +kernel
noncomputable def k_X13_behind_70 (l4 : Int32) (s : t_S) : Option ((Int32) ⊕ (Int32)) :=
 some (.inl l4)
set_option maxRecDepth 4000 in
set_option maxHeartbeats 1000000 in
theorem B_X13_behind_70 {D : va_G} {cy : Nat → ClassId} {ad : Nat → Nat} {bs : Nat} {X : State → Heap → Prop} (l4 : Int32) (s : t_S) (Q : (Int32) ⊕ (Int32) → Prop) (Hb2 : ∀ (y0 : Int32), Q (.inl y0) → mj_G D cy ad bs X cX13_behind 5 yX13_behind.cls (some .int) yX13_behind.name 0 0 0 1065 (t_P (fun v s' => s' = s ∧ ∃ x, v = some (.int x) ∧ Q (.inr (x)))) 2 [(0, .ref 950), (2, .int (y0))] [] (t_m s) 1065 0 0) (hk : t_hk (k_X13_behind_70 l4 s) Q) : mj_G D cy ad bs X cX13_behind 5 yX13_behind.cls (some .int) yX13_behind.name 0 0 0 1065 (t_P (fun v s' => s' = s ∧ ∃ x, v = some (.int x) ∧ Q (.inr (x)))) 70 [(0, .ref 950), (4, .int l4)] [] (t_m s) 1065 0 0 := by
  refine mj_iload dX13_behind_70 1 rfl ?_
  refine mj_istore_n 2 (lv2 := [(2, .int l4), (0, .ref 950), (4, .int l4)]) dX13_behind_72 rfl (by decide) rfl ?_
  refine mj_goto 2 dX13_behind_73 (by decide) ?_
  refine mj_sublv [(0, .ref 950), (2, .int l4)] [1, 0] rfl ?_
  exact t_somK hk (fun hf => Hb2 l4 hf)
noncomputable def k_X13_behind_43 (l2 : Int32) (s : t_S) : Option ((Int32) ⊕ (Int32)) :=
 if t_ix l2 401 = true then
  if (s.1 990 (l2.toNatClampNeg)) < (0 : Int32) then (k_X13_behind_70 (s.1 990 (l2.toNatClampNeg)) s)
 else (if t_ix (s.1 990 (l2.toNatClampNeg)) 401 = true then
  if (s.1 988 ((s.1 990 (l2.toNatClampNeg)).toNatClampNeg)) = (4 : Int32) then ((some (s.1 990 (l2.toNatClampNeg))).map Sum.inr)
 else (k_X13_behind_70 (s.1 990 (l2.toNatClampNeg)) s)
else none)
else none
set_option maxRecDepth 4000 in
set_option maxHeartbeats 1000000 in
theorem B_X13_behind_43 {D : va_G} {cy : Nat → ClassId} {ad : Nat → Nat} {bs : Nat} {X : State → Heap → Prop} (l2 : Int32) (s : t_S) (Q : (Int32) ⊕ (Int32) → Prop) (Hb2 : ∀ (y0 : Int32), Q (.inl y0) → mj_G D cy ad bs X cX13_behind 5 yX13_behind.cls (some .int) yX13_behind.name 0 0 0 1065 (t_P (fun v s' => s' = s ∧ ∃ x, v = some (.int x) ∧ Q (.inr (x)))) 2 [(0, .ref 950), (2, .int (y0))] [] (t_m s) 1065 0 0) (hk : t_hk (k_X13_behind_43 l2 s) Q) : mj_G D cy ad bs X cX13_behind 5 yX13_behind.cls (some .int) yX13_behind.name 0 0 0 1065 (t_P (fun v s' => s' = s ∧ ∃ x, v = some (.int x) ∧ Q (.inr (x)))) 43 [(0, .ref 950), (2, .int l2)] [] (t_m s) 1065 0 0 := by
  refine mj_aload_n dX13_behind_43 0 rfl ?_
  refine t_getR 990 dX13_behind_44 F_X13_132 qr_950_68 ?_
  refine mj_iload_n dX13_behind_47 1 rfl ?_
  refine t_chkK hk (fun c0 hk => ?_)
  refine t_iald dX13_behind_48 qa_990 (t_ixv c0) ?_
  refine mj_istore (lv2 := [(4, .int (s.1 990 (l2.toNatClampNeg))), (0, .ref 950), (2, .int l2)]) dX13_behind_49 (by decide) rfl ?_
  refine mj_iload dX13_behind_51 0 rfl ?_
  refine mj_if_lt 70 dX13_behind_53 (by decide) (fun z => t_posK hk z (fun hk => ?_)) (fun z => t_negK hk z (fun hk => ?_))
  · refine mj_sublv [(0, .ref 950), (4, .int (s.1 990 (l2.toNatClampNeg)))] [1, 0] rfl ?_
    exact B_X13_behind_70 _ _ _ (fun y0 hx => Hb2 y0 hx) hk
  · refine mj_aload_n dX13_behind_56 1 rfl ?_
    refine t_getR 988 dX13_behind_57 F_X13_126 qr_950_66 ?_
    refine mj_iload dX13_behind_60 0 rfl ?_
    refine t_chkK hk (fun c1 hk => ?_)
    refine t_iald dX13_behind_62 qa_988 (t_ixv c1) ?_
    refine mj_iconst (v := 4) dX13_behind_63 (by decide) ?_
    refine mj_icmp_ne 70 dX13_behind_64 (by decide) (fun z => t_negK hk z (fun hk => ?_)) (fun z => t_posK hk z (fun hk => ?_))
    · refine mj_sublv [(0, .ref 950), (4, .int (s.1 990 (l2.toNatClampNeg)))] [1, 0] rfl ?_
      exact B_X13_behind_70 _ _ _ (fun y0 hx => Hb2 y0 hx) hk
    · refine t_mapK hk (fun hk => ?_)
      refine mj_iload dX13_behind_67 0 rfl ?_
      exact t_somK hk (fun hf => t_iret dX13_behind_69 rfl rfl ⟨rfl, _, rfl, hf⟩ (Nat.le_of_ble_eq_true rfl) (Nat.le_of_ble_eq_true rfl))
noncomputable def k_X13_behind_22 (l2 : Int32) (k0 : Int32) (s : t_S) : Option ((Int32) ⊕ (Int32)) :=
 if k0 = (0 : Int32) then (if t_ix l2 401 = true then
  if (s.1 989 (l2.toNatClampNeg)) < (0 : Int32) then (k_X13_behind_43 l2 s)
 else ((some (s.1 989 (l2.toNatClampNeg))).map Sum.inr)
else none)
 else (k_X13_behind_43 l2 s)
set_option maxRecDepth 4000 in
set_option maxHeartbeats 1000000 in
theorem B_X13_behind_22 {D : va_G} {cy : Nat → ClassId} {ad : Nat → Nat} {bs : Nat} {X : State → Heap → Prop} (l2 : Int32) (k0 : Int32) (s : t_S) (Q : (Int32) ⊕ (Int32) → Prop) (Hb2 : ∀ (y0 : Int32), Q (.inl y0) → mj_G D cy ad bs X cX13_behind 5 yX13_behind.cls (some .int) yX13_behind.name 0 0 0 1065 (t_P (fun v s' => s' = s ∧ ∃ x, v = some (.int x) ∧ Q (.inr (x)))) 2 [(0, .ref 950), (2, .int (y0))] [] (t_m s) 1065 0 0) (hk : t_hk (k_X13_behind_22 l2 k0 s) Q) : mj_G D cy ad bs X cX13_behind 5 yX13_behind.cls (some .int) yX13_behind.name 0 0 0 1065 (t_P (fun v s' => s' = s ∧ ∃ x, v = some (.int x) ∧ Q (.inr (x)))) 22 [(0, .ref 950), (2, .int l2)] [.int k0] (t_m s) 1065 0 0 := by
  refine mj_istore_n 3 (lv2 := [(3, .int k0), (0, .ref 950), (2, .int l2)]) dX13_behind_22 rfl (by decide) rfl ?_
  refine mj_iload_n dX13_behind_23 0 rfl ?_
  refine mj_if_ne 43 dX13_behind_24 (by decide) (fun z => t_negK hk z (fun hk => ?_)) (fun z => t_posK hk z (fun hk => ?_))
  · refine mj_sublv [(0, .ref 950), (2, .int l2)] [1, 2] rfl ?_
    exact B_X13_behind_43 _ _ _ (fun y0 hx => Hb2 y0 hx) hk
  · refine mj_aload_n dX13_behind_27 1 rfl ?_
    refine t_getR 989 dX13_behind_28 F_X13_129 qr_950_67 ?_
    refine mj_iload_n dX13_behind_31 2 rfl ?_
    refine t_chkK hk (fun c0 hk => ?_)
    refine t_iald dX13_behind_32 qa_989 (t_ixv c0) ?_
    refine mj_if_lt 43 dX13_behind_33 (by decide) (fun z => t_posK hk z (fun hk => ?_)) (fun z => t_negK hk z (fun hk => ?_))
    · refine mj_sublv [(0, .ref 950), (2, .int l2)] [1, 2] rfl ?_
      exact B_X13_behind_43 _ _ _ (fun y0 hx => Hb2 y0 hx) hk
    · refine t_mapK hk (fun hk => ?_)
      refine mj_aload_n dX13_behind_36 1 rfl ?_
      refine t_getR 989 dX13_behind_37 F_X13_129 qr_950_67 ?_
      refine mj_iload_n dX13_behind_40 2 rfl ?_
      refine t_iald dX13_behind_41 qa_989 (t_ixv c0) ?_
      exact t_somK hk (fun hf => t_iret dX13_behind_42 rfl rfl ⟨rfl, _, rfl, hf⟩ (Nat.le_of_ble_eq_true rfl) (Nat.le_of_ble_eq_true rfl))
noncomputable def k_X13_behind_2 (l2 : Int32) (s : t_S) : Option ((Int32) ⊕ (Int32)) :=
 if l2 < (0 : Int32) then ((some (-1 : Int32)).map Sum.inr)
 else (if t_ix l2 401 = true then
  if (s.1 988 (l2.toNatClampNeg)) = (20 : Int32) then (k_X13_behind_22 l2 1 s)
 else (k_X13_behind_22 l2 0 s)
else none)
set_option maxRecDepth 4000 in
set_option maxHeartbeats 1000000 in
theorem B_X13_behind_2 {D : va_G} {cy : Nat → ClassId} {ad : Nat → Nat} {bs : Nat} {X : State → Heap → Prop} (l2 : Int32) (s : t_S) (Q : (Int32) ⊕ (Int32) → Prop) (Hb2 : ∀ (y0 : Int32), Q (.inl y0) → mj_G D cy ad bs X cX13_behind 5 yX13_behind.cls (some .int) yX13_behind.name 0 0 0 1065 (t_P (fun v s' => s' = s ∧ ∃ x, v = some (.int x) ∧ Q (.inr (x)))) 2 [(0, .ref 950), (2, .int (y0))] [] (t_m s) 1065 0 0) (hk : t_hk (k_X13_behind_2 l2 s) Q) : mj_G D cy ad bs X cX13_behind 5 yX13_behind.cls (some .int) yX13_behind.name 0 0 0 1065 (t_P (fun v s' => s' = s ∧ ∃ x, v = some (.int x) ∧ Q (.inr (x)))) 2 [(0, .ref 950), (2, .int l2)] [] (t_m s) 1065 0 0 := by
  refine mj_iload_n dX13_behind_2 1 rfl ?_
  refine mj_if_lt 76 dX13_behind_3 (by decide) (fun z => t_posK hk z (fun hk => ?_)) (fun z => t_negK hk z (fun hk => ?_))
  · refine t_mapK hk (fun hk => ?_)
    refine mj_iconst (v := (-1)) dX13_behind_76 (by decide) ?_
    exact t_somK hk (fun hf => t_iret dX13_behind_77 rfl rfl ⟨rfl, _, rfl, hf⟩ (Nat.le_of_ble_eq_true rfl) (Nat.le_of_ble_eq_true rfl))
  · refine mj_aload_n dX13_behind_6 0 rfl ?_
    refine t_getR 988 dX13_behind_7 F_X13_126 qr_950_66 ?_
    refine mj_iload_n dX13_behind_10 1 rfl ?_
    refine t_chkK hk (fun c0 hk => ?_)
    refine t_iald dX13_behind_11 qa_988 (t_ixv c0) ?_
    refine mj_bipush (v := 20) dX13_behind_12 (by decide) ?_
    refine mj_icmp_ne 21 dX13_behind_14 (by decide) (fun z => t_negK hk z (fun hk => ?_)) (fun z => t_posK hk z (fun hk => ?_))
    · refine mj_iconst (v := 0) dX13_behind_21 (by decide) ?_
      exact B_X13_behind_22 _ _ _ _ (fun y0 hx => Hb2 y0 hx) hk
    · refine mj_iconst (v := 1) dX13_behind_17 (by decide) ?_
      refine mj_goto 22 dX13_behind_18 (by decide) ?_
      exact B_X13_behind_22 _ _ _ _ (fun y0 hx => Hb2 y0 hx) hk
noncomputable def b_X13_behind_2 (s : t_S) (x : Int32) : Option ((Int32) ⊕ (Int32)) := k_X13_behind_2 x s
set_option maxRecDepth 4000 in
set_option maxHeartbeats 1000000 in
theorem LH_X13_behind_2 {D : va_G} {cy : Nat → ClassId} {ad : Nat → Nat} {bs : Nat} {X : State → Heap → Prop} (s : t_S) : ∀ (n : Nat) (y0 : Int32) (Q : Int32 → Prop) (hk : t_hk (t_loop (b_X13_behind_2 s) n y0) Q), mj_G D cy ad bs X cX13_behind 5 yX13_behind.cls (some .int) yX13_behind.name 0 0 0 1065 (t_P (fun v s' => s' = s ∧ ∃ x, v = some (.int x) ∧ Q (x))) 2 [(0, .ref 950), (2, .int (y0))] [] (t_m s) 1065 0 0 := by
  intro n
  induction n with
  | zero => intro y0 Q hk; obtain ⟨r, hr, _⟩ := hk; cases hr
  | succ n ih =>
    intro y0 Q hk
    exact B_X13_behind_2 y0 s (fun y => t_lq (b_X13_behind_2 s) n Q y) (fun y0' hy => ih y0' Q hy) (t_lp (b := b_X13_behind_2 s) (n := n) (x := y0) hk)
noncomputable def f_X13_behind (x1 : Int32) (s : t_S) : Option (Int32) :=
 t_loop (b_X13_behind_2 s) t_N x1
set_option maxRecDepth 4000 in
set_option maxHeartbeats 1000000 in
theorem C_X13_behind (x1 : Int32) (s : t_S) (r : Int32) (hr : f_X13_behind x1 s = some r) : t_C yX13_behind cX13_behind 5 (some .int) 0 [.ref 950, .int x1] s (fun v s' => v = some (.int r) ∧ s' = s) := by
  refine t_C.imp (P := fun v s' => s' = s ∧ ∃ x, v = some (.int x) ∧ (fun q => q = r) (x)) (t_C.of (by decide +kernel) (Nat.le_of_ble_eq_true rfl) ?_) (fun v s' hp => by obtain ⟨rfl, x, rfl, rfl⟩ := hp; exact ⟨rfl, rfl⟩)
  intro D cy ad bs X
  have hk : t_hk (f_X13_behind x1 s) (fun q => q = r) := ⟨r, hr, rfl⟩
  show mj_G D cy ad bs X cX13_behind 5 yX13_behind.cls (some .int) yX13_behind.name 0 0 0 1065 (t_P (fun v s' => s' = s ∧ ∃ x, v = some (.int x) ∧ (fun q => q = r) (x))) 0 [(0, .ref 950), (1, .int x1)] [] (t_m s) 1065 0 0
  refine mj_iload_n dX13_behind_0 1 rfl ?_
  refine mj_istore_n 2 (lv2 := [(2, .int x1), (0, .ref 950), (1, .int x1)]) dX13_behind_1 rfl (by decide) rfl ?_
  refine mj_sublv [(0, .ref 950), (2, .int x1)] [1, 0] rfl ?_
  exact LH_X13_behind_2 _ _ x1 _ hk

theorem dX13_goOn_0 : decode cX13_goOn 0 = .ok (.aload_n 0, 1) := by decide +kernel
theorem dX13_goOn_1 : decode cX13_goOn 1 = .ok (.getfield 288, 3) := by decide +kernel
theorem dX13_goOn_10 : decode cX13_goOn 10 = .ok (.aload_n 0, 1) := by decide +kernel
theorem dX13_goOn_11 : decode cX13_goOn 11 = .ok (.iload_n 3, 1) := by decide +kernel
theorem dX13_goOn_12 : decode cX13_goOn 12 = .ok (.invokevirtual 1366, 3) := by decide +kernel
theorem dX13_goOn_15 : decode cX13_goOn 15 = .ok (.iastore, 1) := by decide +kernel
theorem dX13_goOn_16 : decode cX13_goOn 16 = .ok (.return_, 1) := by decide +kernel
theorem dX13_goOn_4 : decode cX13_goOn 4 = .ok (.bipush 8, 2) := by decide +kernel
theorem dX13_goOn_6 : decode cX13_goOn 6 = .ok (.iload_n 1, 1) := by decide +kernel
theorem dX13_goOn_7 : decode cX13_goOn 7 = .ok (.imul, 1) := by decide +kernel
theorem dX13_goOn_8 : decode cX13_goOn 8 = .ok (.iload_n 2, 1) := by decide +kernel
theorem dX13_goOn_9 : decode cX13_goOn 9 = .ok (.iadd, 1) := by decide +kernel
noncomputable def f_X13_goOn (x1 : Int32) (x2 : Int32) (x3 : Int32) (s : t_S) : Option (t_S) :=
 (f_X13_behind x3 s).bind (fun r1 =>
 if t_ix (((8 : Int32) * x1) + x2) 64 = true then
  t_let (t_setI s 1040 ((((8 : Int32) * x1) + x2).toNatClampNeg) r1) (fun s1 =>
 some (s1))
else none)
set_option maxRecDepth 4000 in
set_option maxHeartbeats 1000000 in
theorem C_X13_goOn (x1 : Int32) (x2 : Int32) (x3 : Int32) (s : t_S) (r : t_S) (hr : f_X13_goOn x1 x2 x3 s = some r) : t_C yX13_goOn cX13_goOn 4 none 1 [.ref 950, .int x1, .int x2, .int x3] s (fun v s' => v = none ∧ s' = r) := by
  refine t_C.imp (P := fun v s' => v = none ∧ (fun q => q = r) (s')) (t_C.of (by decide +kernel) (Nat.le_of_ble_eq_true rfl) ?_) (fun v s' hp => hp)
  intro D cy ad bs X
  have hk : t_hk (f_X13_goOn x1 x2 x3 s) (fun q => q = r) := ⟨r, hr, rfl⟩
  show mj_G D cy ad bs X cX13_goOn 4 yX13_goOn.cls none yX13_goOn.name 1 0 0 1065 (t_P (fun v s' => v = none ∧ (fun q => q = r) (s'))) 0 [(0, .ref 950), (1, .int x1), (2, .int x2), (3, .int x3)] [] (t_m s) 1065 0 0
  refine mj_aload_n dX13_goOn_0 0 rfl ?_
  refine t_getR 1040 dX13_goOn_1 F_X13_288 qr_950_155 ?_
  refine mj_bipush (v := 8) dX13_goOn_4 (by decide) ?_
  refine mj_iload_n dX13_goOn_6 1 rfl ?_
  refine mj_imul dX13_goOn_7 ?_
  refine mj_iload_n dX13_goOn_8 2 rfl ?_
  refine mj_iadd dX13_goOn_9 ?_
  refine mj_aload_n dX13_goOn_10 0 rfl ?_
  refine mj_iload_n dX13_goOn_11 3 rfl ?_
  refine t_bndK hk (fun r1 er1 hk => ?_)
  refine t_callViP dX13_goOn_12 M_X13_behind (C_X13_behind _ _ _ er1) ML_X13_1366 IM_X13_behind SE_X13_behind qc_950 rfl (As := [.int x3]) rfl rfl (Nat.le_of_ble_eq_true rfl) (Nat.le_of_ble_eq_true rfl) (Nat.le_of_ble_eq_true rfl) (Nat.le_of_ble_eq_true rfl) ?_
  refine t_chkK hk (fun c1 hk => ?_)
  refine t_iastK dX13_goOn_15 qa_1040 (t_ixv c1) (fun s1 ws1 => t_letE hk ws1 (fun hk => ?_))
  exact t_somK hk (fun hf => t_vret dX13_goOn_16 rfl ⟨rfl, hf⟩ (Nat.le_of_ble_eq_true rfl) (Nat.le_of_ble_eq_true rfl))

