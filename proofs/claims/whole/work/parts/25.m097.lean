/-! Methods as functions, 97: X13_manyRecords -/
theorem qf_950_117 : t_okf 950 13 117 0 = true := by decide +kernel
theorem dX13_manyAt_0 : decode cX13_manyAt 0 = .ok (.iload_n 2, 1) := by decide +kernel
theorem dX13_manyAt_1 : decode cX13_manyAt 1 = .ok (.iconst 1, 1) := by decide +kernel
theorem dX13_manyAt_10 : decode cX13_manyAt 10 = .ok (.imul, 1) := by decide +kernel
theorem dX13_manyAt_100 : decode cX13_manyAt 100 = .ok (.goto 221, 3) := by decide +kernel
theorem dX13_manyAt_103 : decode cX13_manyAt 103 = .ok (.iload_n 2, 1) := by decide +kernel
theorem dX13_manyAt_104 : decode cX13_manyAt 104 = .ok (.iconst 1, 1) := by decide +kernel
theorem dX13_manyAt_105 : decode cX13_manyAt 105 = .ok (.if_icmp .ne 9, 3) := by decide +kernel
theorem dX13_manyAt_108 : decode cX13_manyAt 108 = .ok (.ldc2_w 994, 3) := by decide +kernel
theorem dX13_manyAt_11 : decode cX13_manyAt 11 = .ok (.iload_n 2, 1) := by decide +kernel
theorem dX13_manyAt_111 : decode cX13_manyAt 111 = .ok (.goto 4, 3) := by decide +kernel
theorem dX13_manyAt_114 : decode cX13_manyAt 114 = .ok (.lconst 0, 1) := by decide +kernel
theorem dX13_manyAt_115 : decode cX13_manyAt 115 = .ok (.lstore 4, 2) := by decide +kernel
theorem dX13_manyAt_117 : decode cX13_manyAt 117 = .ok (.goto 204, 3) := by decide +kernel
theorem dX13_manyAt_12 : decode cX13_manyAt 12 = .ok (.iadd, 1) := by decide +kernel
theorem dX13_manyAt_120 : decode cX13_manyAt 120 = .ok (.iload_n 2, 1) := by decide +kernel
theorem dX13_manyAt_121 : decode cX13_manyAt 121 = .ok (.iconst 1, 1) := by decide +kernel
theorem dX13_manyAt_122 : decode cX13_manyAt 122 = .ok (.if_icmp .ne 12, 3) := by decide +kernel
theorem dX13_manyAt_125 : decode cX13_manyAt 125 = .ok (.aload_n 0, 1) := by decide +kernel
theorem dX13_manyAt_126 : decode cX13_manyAt 126 = .ok (.iload_n 1, 1) := by decide +kernel
theorem dX13_manyAt_127 : decode cX13_manyAt 127 = .ok (.invokevirtual 830, 3) := by decide +kernel
theorem dX13_manyAt_13 : decode cX13_manyAt 13 = .ok (.istore_n 3, 1) := by decide +kernel
theorem dX13_manyAt_130 : decode cX13_manyAt 130 = .ok (.i2l, 1) := by decide +kernel
theorem dX13_manyAt_131 : decode cX13_manyAt 131 = .ok (.goto 4, 3) := by decide +kernel
theorem dX13_manyAt_134 : decode cX13_manyAt 134 = .ok (.lconst 0, 1) := by decide +kernel
theorem dX13_manyAt_135 : decode cX13_manyAt 135 = .ok (.lstore 4, 2) := by decide +kernel
theorem dX13_manyAt_137 : decode cX13_manyAt 137 = .ok (.goto 184, 3) := by decide +kernel
theorem dX13_manyAt_14 : decode cX13_manyAt 14 = .ok (.aload_n 0, 1) := by decide +kernel
theorem dX13_manyAt_140 : decode cX13_manyAt 140 = .ok (.aload_n 0, 1) := by decide +kernel
theorem dX13_manyAt_141 : decode cX13_manyAt 141 = .ok (.getfield 32, 3) := by decide +kernel
theorem dX13_manyAt_144 : decode cX13_manyAt 144 = .ok (.iload_n 1, 1) := by decide +kernel
theorem dX13_manyAt_145 : decode cX13_manyAt 145 = .ok (.laload, 1) := by decide +kernel
theorem dX13_manyAt_146 : decode cX13_manyAt 146 = .ok (.lstore 6, 2) := by decide +kernel
theorem dX13_manyAt_148 : decode cX13_manyAt 148 = .ok (.lload 6, 2) := by decide +kernel
theorem dX13_manyAt_15 : decode cX13_manyAt 15 = .ok (.getfield 220, 3) := by decide +kernel
theorem dX13_manyAt_150 : decode cX13_manyAt 150 = .ok (.aload_n 0, 1) := by decide +kernel
theorem dX13_manyAt_151 : decode cX13_manyAt 151 = .ok (.getfield 36, 3) := by decide +kernel
theorem dX13_manyAt_154 : decode cX13_manyAt 154 = .ok (.iload_n 1, 1) := by decide +kernel
theorem dX13_manyAt_155 : decode cX13_manyAt 155 = .ok (.laload, 1) := by decide +kernel
theorem dX13_manyAt_156 : decode cX13_manyAt 156 = .ok (.lcmp, 1) := by decide +kernel
theorem dX13_manyAt_157 : decode cX13_manyAt 157 = .ok (.ifCond .gt 42, 3) := by decide +kernel
theorem dX13_manyAt_160 : decode cX13_manyAt 160 = .ok (.iconst 1, 1) := by decide +kernel
theorem dX13_manyAt_161 : decode cX13_manyAt 161 = .ok (.lload 6, 2) := by decide +kernel
theorem dX13_manyAt_163 : decode cX13_manyAt 163 = .ok (.invokestatic 845, 3) := by decide +kernel
theorem dX13_manyAt_166 : decode cX13_manyAt 166 = .ok (.iadd, 1) := by decide +kernel
theorem dX13_manyAt_167 : decode cX13_manyAt 167 = .ok (.iload_n 2, 1) := by decide +kernel
theorem dX13_manyAt_168 : decode cX13_manyAt 168 = .ok (.if_icmp .ne 18, 3) := by decide +kernel
theorem dX13_manyAt_171 : decode cX13_manyAt 171 = .ok (.aload_n 0, 1) := by decide +kernel
theorem dX13_manyAt_172 : decode cX13_manyAt 172 = .ok (.lload 4, 2) := by decide +kernel
theorem dX13_manyAt_174 : decode cX13_manyAt 174 = .ok (.aload_n 0, 1) := by decide +kernel
theorem dX13_manyAt_175 : decode cX13_manyAt 175 = .ok (.lload 6, 2) := by decide +kernel
theorem dX13_manyAt_177 : decode cX13_manyAt 177 = .ok (.invokevirtual 1105, 3) := by decide +kernel
theorem dX13_manyAt_18 : decode cX13_manyAt 18 = .ok (.iload_n 3, 1) := by decide +kernel
theorem dX13_manyAt_180 : decode cX13_manyAt 180 = .ok (.invokevirtual 1056, 3) := by decide +kernel
theorem dX13_manyAt_183 : decode cX13_manyAt 183 = .ok (.goto 5, 3) := by decide +kernel
theorem dX13_manyAt_186 : decode cX13_manyAt 186 = .ok (.lload 4, 2) := by decide +kernel
theorem dX13_manyAt_188 : decode cX13_manyAt 188 = .ok (.lstore 4, 2) := by decide +kernel
theorem dX13_manyAt_19 : decode cX13_manyAt 19 = .ok (.baload, 1) := by decide +kernel
theorem dX13_manyAt_190 : decode cX13_manyAt 190 = .ok (.lload 6, 2) := by decide +kernel
theorem dX13_manyAt_192 : decode cX13_manyAt 192 = .ok (.lconst 1, 1) := by decide +kernel
theorem dX13_manyAt_193 : decode cX13_manyAt 193 = .ok (.ladd, 1) := by decide +kernel
theorem dX13_manyAt_194 : decode cX13_manyAt 194 = .ok (.lstore 6, 2) := by decide +kernel
theorem dX13_manyAt_196 : decode cX13_manyAt 196 = .ok (.goto (-48), 3) := by decide +kernel
theorem dX13_manyAt_199 : decode cX13_manyAt 199 = .ok (.goto 122, 3) := by decide +kernel
theorem dX13_manyAt_2 : decode cX13_manyAt 2 = .ok (.if_icmp .ge 5, 3) := by decide +kernel
theorem dX13_manyAt_20 : decode cX13_manyAt 20 = .ok (.ifCond .eq 10, 3) := by decide +kernel
theorem dX13_manyAt_202 : decode cX13_manyAt 202 = .ok (.aload_n 0, 1) := by decide +kernel
theorem dX13_manyAt_203 : decode cX13_manyAt 203 = .ok (.aload_n 0, 1) := by decide +kernel
theorem dX13_manyAt_204 : decode cX13_manyAt 204 = .ok (.getfield 57, 3) := by decide +kernel
theorem dX13_manyAt_207 : decode cX13_manyAt 207 = .ok (.aload_n 0, 1) := by decide +kernel
theorem dX13_manyAt_208 : decode cX13_manyAt 208 = .ok (.aload_n 0, 1) := by decide +kernel
theorem dX13_manyAt_209 : decode cX13_manyAt 209 = .ok (.getfield 54, 3) := by decide +kernel
theorem dX13_manyAt_212 : decode cX13_manyAt 212 = .ok (.iconst 0, 1) := by decide +kernel
theorem dX13_manyAt_213 : decode cX13_manyAt 213 = .ok (.aload_n 0, 1) := by decide +kernel
theorem dX13_manyAt_214 : decode cX13_manyAt 214 = .ok (.getfield 624, 3) := by decide +kernel
theorem dX13_manyAt_217 : decode cX13_manyAt 217 = .ok (.aload_n 0, 1) := by decide +kernel
theorem dX13_manyAt_218 : decode cX13_manyAt 218 = .ok (.getfield 32, 3) := by decide +kernel
theorem dX13_manyAt_221 : decode cX13_manyAt 221 = .ok (.iload_n 1, 1) := by decide +kernel
theorem dX13_manyAt_222 : decode cX13_manyAt 222 = .ok (.laload, 1) := by decide +kernel
theorem dX13_manyAt_223 : decode cX13_manyAt 223 = .ok (.l2i, 1) := by decide +kernel
theorem dX13_manyAt_224 : decode cX13_manyAt 224 = .ok (.invokevirtual 788, 3) := by decide +kernel
theorem dX13_manyAt_227 : decode cX13_manyAt 227 = .ok (.iaload, 1) := by decide +kernel
theorem dX13_manyAt_228 : decode cX13_manyAt 228 = .ok (.iload_n 2, 1) := by decide +kernel
theorem dX13_manyAt_229 : decode cX13_manyAt 229 = .ok (.invokestatic 1108, 3) := by decide +kernel
theorem dX13_manyAt_23 : decode cX13_manyAt 23 = .ok (.aload_n 0, 1) := by decide +kernel
theorem dX13_manyAt_232 : decode cX13_manyAt 232 = .ok (.lstore 4, 2) := by decide +kernel
theorem dX13_manyAt_234 : decode cX13_manyAt 234 = .ok (.goto 87, 3) := by decide +kernel
theorem dX13_manyAt_237 : decode cX13_manyAt 237 = .ok (.aload_n 0, 1) := by decide +kernel
theorem dX13_manyAt_238 : decode cX13_manyAt 238 = .ok (.getfield 39, 3) := by decide +kernel
theorem dX13_manyAt_24 : decode cX13_manyAt 24 = .ok (.getfield 217, 3) := by decide +kernel
theorem dX13_manyAt_241 : decode cX13_manyAt 241 = .ok (.iload_n 1, 1) := by decide +kernel
theorem dX13_manyAt_242 : decode cX13_manyAt 242 = .ok (.iaload, 1) := by decide +kernel
theorem dX13_manyAt_243 : decode cX13_manyAt 243 = .ok (.istore 6, 2) := by decide +kernel
theorem dX13_manyAt_245 : decode cX13_manyAt 245 = .ok (.iload 6, 2) := by decide +kernel
theorem dX13_manyAt_247 : decode cX13_manyAt 247 = .ok (.ifCond .lt 37, 3) := by decide +kernel
theorem dX13_manyAt_250 : decode cX13_manyAt 250 = .ok (.aload_n 0, 1) := by decide +kernel
theorem dX13_manyAt_251 : decode cX13_manyAt 251 = .ok (.lload 4, 2) := by decide +kernel
theorem dX13_manyAt_253 : decode cX13_manyAt 253 = .ok (.aload_n 0, 1) := by decide +kernel
theorem dX13_manyAt_254 : decode cX13_manyAt 254 = .ok (.aload_n 0, 1) := by decide +kernel
theorem dX13_manyAt_255 : decode cX13_manyAt 255 = .ok (.getfield 39, 3) := by decide +kernel
theorem dX13_manyAt_258 : decode cX13_manyAt 258 = .ok (.iload 6, 2) := by decide +kernel
theorem dX13_manyAt_260 : decode cX13_manyAt 260 = .ok (.iaload, 1) := by decide +kernel
theorem dX13_manyAt_261 : decode cX13_manyAt 261 = .ok (.iload_n 2, 1) := by decide +kernel
theorem dX13_manyAt_262 : decode cX13_manyAt 262 = .ok (.iconst 1, 1) := by decide +kernel
theorem dX13_manyAt_263 : decode cX13_manyAt 263 = .ok (.isub, 1) := by decide +kernel
theorem dX13_manyAt_264 : decode cX13_manyAt 264 = .ok (.invokestatic 1108, 3) := by decide +kernel
theorem dX13_manyAt_267 : decode cX13_manyAt 267 = .ok (.invokevirtual 1056, 3) := by decide +kernel
theorem dX13_manyAt_27 : decode cX13_manyAt 27 = .ok (.iload_n 3, 1) := by decide +kernel
theorem dX13_manyAt_270 : decode cX13_manyAt 270 = .ok (.lstore 4, 2) := by decide +kernel
theorem dX13_manyAt_272 : decode cX13_manyAt 272 = .ok (.aload_n 0, 1) := by decide +kernel
theorem dX13_manyAt_273 : decode cX13_manyAt 273 = .ok (.getfield 42, 3) := by decide +kernel
theorem dX13_manyAt_276 : decode cX13_manyAt 276 = .ok (.iload 6, 2) := by decide +kernel
theorem dX13_manyAt_278 : decode cX13_manyAt 278 = .ok (.iaload, 1) := by decide +kernel
theorem dX13_manyAt_279 : decode cX13_manyAt 279 = .ok (.istore 6, 2) := by decide +kernel
theorem dX13_manyAt_28 : decode cX13_manyAt 28 = .ok (.laload, 1) := by decide +kernel
theorem dX13_manyAt_281 : decode cX13_manyAt 281 = .ok (.goto (-36), 3) := by decide +kernel
theorem dX13_manyAt_284 : decode cX13_manyAt 284 = .ok (.goto 37, 3) := by decide +kernel
theorem dX13_manyAt_287 : decode cX13_manyAt 287 = .ok (.aload_n 0, 1) := by decide +kernel
theorem dX13_manyAt_288 : decode cX13_manyAt 288 = .ok (.getfield 26, 3) := by decide +kernel
theorem dX13_manyAt_29 : decode cX13_manyAt 29 = .ok (.lreturn, 1) := by decide +kernel
theorem dX13_manyAt_291 : decode cX13_manyAt 291 = .ok (.iload_n 1, 1) := by decide +kernel
theorem dX13_manyAt_292 : decode cX13_manyAt 292 = .ok (.iaload, 1) := by decide +kernel
theorem dX13_manyAt_293 : decode cX13_manyAt 293 = .ok (.iconst 5, 1) := by decide +kernel
theorem dX13_manyAt_294 : decode cX13_manyAt 294 = .ok (.if_icmp .ne 19, 3) := by decide +kernel
theorem dX13_manyAt_297 : decode cX13_manyAt 297 = .ok (.aload_n 0, 1) := by decide +kernel
theorem dX13_manyAt_298 : decode cX13_manyAt 298 = .ok (.aload_n 0, 1) := by decide +kernel
theorem dX13_manyAt_299 : decode cX13_manyAt 299 = .ok (.getfield 39, 3) := by decide +kernel
theorem dX13_manyAt_30 : decode cX13_manyAt 30 = .ok (.lconst 0, 1) := by decide +kernel
theorem dX13_manyAt_302 : decode cX13_manyAt 302 = .ok (.iload_n 1, 1) := by decide +kernel
theorem dX13_manyAt_303 : decode cX13_manyAt 303 = .ok (.iaload, 1) := by decide +kernel
theorem dX13_manyAt_304 : decode cX13_manyAt 304 = .ok (.iload_n 2, 1) := by decide +kernel
theorem dX13_manyAt_305 : decode cX13_manyAt 305 = .ok (.iconst 1, 1) := by decide +kernel
theorem dX13_manyAt_306 : decode cX13_manyAt 306 = .ok (.isub, 1) := by decide +kernel
theorem dX13_manyAt_307 : decode cX13_manyAt 307 = .ok (.invokestatic 1112, 3) := by decide +kernel
theorem dX13_manyAt_31 : decode cX13_manyAt 31 = .ok (.lstore 4, 2) := by decide +kernel
theorem dX13_manyAt_310 : decode cX13_manyAt 310 = .ok (.goto 9, 3) := by decide +kernel
theorem dX13_manyAt_313 : decode cX13_manyAt 313 = .ok (.aload_n 0, 1) := by decide +kernel
theorem dX13_manyAt_314 : decode cX13_manyAt 314 = .ok (.iload_n 1, 1) := by decide +kernel
theorem dX13_manyAt_315 : decode cX13_manyAt 315 = .ok (.iload_n 2, 1) := by decide +kernel
theorem dX13_manyAt_316 : decode cX13_manyAt 316 = .ok (.invokestatic 1115, 3) := by decide +kernel
theorem dX13_manyAt_319 : decode cX13_manyAt 319 = .ok (.lstore 4, 2) := by decide +kernel
theorem dX13_manyAt_321 : decode cX13_manyAt 321 = .ok (.aload_n 0, 1) := by decide +kernel
theorem dX13_manyAt_322 : decode cX13_manyAt 322 = .ok (.getfield 220, 3) := by decide +kernel
theorem dX13_manyAt_325 : decode cX13_manyAt 325 = .ok (.iload_n 3, 1) := by decide +kernel
theorem dX13_manyAt_326 : decode cX13_manyAt 326 = .ok (.iconst 1, 1) := by decide +kernel
theorem dX13_manyAt_327 : decode cX13_manyAt 327 = .ok (.bastore, 1) := by decide +kernel
theorem dX13_manyAt_328 : decode cX13_manyAt 328 = .ok (.aload_n 0, 1) := by decide +kernel
theorem dX13_manyAt_329 : decode cX13_manyAt 329 = .ok (.getfield 217, 3) := by decide +kernel
theorem dX13_manyAt_33 : decode cX13_manyAt 33 = .ok (.aload_n 0, 1) := by decide +kernel
theorem dX13_manyAt_332 : decode cX13_manyAt 332 = .ok (.iload_n 3, 1) := by decide +kernel
theorem dX13_manyAt_333 : decode cX13_manyAt 333 = .ok (.lload 4, 2) := by decide +kernel
theorem dX13_manyAt_335 : decode cX13_manyAt 335 = .ok (.lastore, 1) := by decide +kernel
theorem dX13_manyAt_336 : decode cX13_manyAt 336 = .ok (.lload 4, 2) := by decide +kernel
theorem dX13_manyAt_338 : decode cX13_manyAt 338 = .ok (.lreturn, 1) := by decide +kernel
theorem dX13_manyAt_34 : decode cX13_manyAt 34 = .ok (.getfield 26, 3) := by decide +kernel
theorem dX13_manyAt_37 : decode cX13_manyAt 37 = .ok (.iload_n 1, 1) := by decide +kernel
theorem dX13_manyAt_38 : decode cX13_manyAt 38 = .ok (.iaload, 1) := by decide +kernel
theorem dX13_manyAt_39 : decode cX13_manyAt 39 = .ok (.tableswitch 248 1 8 #[45, 64, 101, 81, 248, 198, 248, 163], 45) := by decide +kernel
theorem dX13_manyAt_5 : decode cX13_manyAt 5 = .ok (.lconst 0, 1) := by decide +kernel
theorem dX13_manyAt_6 : decode cX13_manyAt 6 = .ok (.lreturn, 1) := by decide +kernel
theorem dX13_manyAt_7 : decode cX13_manyAt 7 = .ok (.bipush 21, 2) := by decide +kernel
theorem dX13_manyAt_84 : decode cX13_manyAt 84 = .ok (.iload_n 2, 1) := by decide +kernel
theorem dX13_manyAt_85 : decode cX13_manyAt 85 = .ok (.iconst 1, 1) := by decide +kernel
theorem dX13_manyAt_86 : decode cX13_manyAt 86 = .ok (.if_icmp .ne 11, 3) := by decide +kernel
theorem dX13_manyAt_89 : decode cX13_manyAt 89 = .ok (.aload_n 0, 1) := by decide +kernel
theorem dX13_manyAt_9 : decode cX13_manyAt 9 = .ok (.iload_n 1, 1) := by decide +kernel
theorem dX13_manyAt_90 : decode cX13_manyAt 90 = .ok (.iload_n 1, 1) := by decide +kernel
theorem dX13_manyAt_91 : decode cX13_manyAt 91 = .ok (.invokevirtual 1102, 3) := by decide +kernel
theorem dX13_manyAt_94 : decode cX13_manyAt 94 = .ok (.goto 4, 3) := by decide +kernel
theorem dX13_manyAt_97 : decode cX13_manyAt 97 = .ok (.lconst 0, 1) := by decide +kernel
theorem dX13_manyAt_98 : decode cX13_manyAt 98 = .ok (.lstore 4, 2) := by decide +kernel
theorem dX13_manyLists_0 : decode cX13_manyLists 0 = .ok (.lconst 0, 1) := by decide +kernel
theorem dX13_manyLists_1 : decode cX13_manyLists 1 = .ok (.lstore_n 3, 1) := by decide +kernel
theorem dX13_manyLists_11 : decode cX13_manyLists 11 = .ok (.iload 5, 2) := by decide +kernel
theorem dX13_manyLists_13 : decode cX13_manyLists 13 = .ok (.aload_n 0, 1) := by decide +kernel
theorem dX13_manyLists_14 : decode cX13_manyLists 14 = .ok (.getfield 36, 3) := by decide +kernel
theorem dX13_manyLists_17 : decode cX13_manyLists 17 = .ok (.iload_n 1, 1) := by decide +kernel
theorem dX13_manyLists_18 : decode cX13_manyLists 18 = .ok (.laload, 1) := by decide +kernel
theorem dX13_manyLists_19 : decode cX13_manyLists 19 = .ok (.l2i, 1) := by decide +kernel
theorem dX13_manyLists_2 : decode cX13_manyLists 2 = .ok (.aload_n 0, 1) := by decide +kernel
theorem dX13_manyLists_20 : decode cX13_manyLists 20 = .ok (.if_icmp .gt 25, 3) := by decide +kernel
theorem dX13_manyLists_23 : decode cX13_manyLists 23 = .ok (.aload_n 0, 1) := by decide +kernel
theorem dX13_manyLists_24 : decode cX13_manyLists 24 = .ok (.lload_n 3, 1) := by decide +kernel
theorem dX13_manyLists_25 : decode cX13_manyLists 25 = .ok (.aload_n 0, 1) := by decide +kernel
theorem dX13_manyLists_26 : decode cX13_manyLists 26 = .ok (.iload_n 1, 1) := by decide +kernel
theorem dX13_manyLists_27 : decode cX13_manyLists 27 = .ok (.iload 5, 2) := by decide +kernel
theorem dX13_manyLists_29 : decode cX13_manyLists 29 = .ok (.iload_n 2, 1) := by decide +kernel
theorem dX13_manyLists_3 : decode cX13_manyLists 3 = .ok (.getfield 32, 3) := by decide +kernel
theorem dX13_manyLists_30 : decode cX13_manyLists 30 = .ok (.iconst 1, 1) := by decide +kernel
theorem dX13_manyLists_31 : decode cX13_manyLists 31 = .ok (.isub, 1) := by decide +kernel
theorem dX13_manyLists_32 : decode cX13_manyLists 32 = .ok (.invokestatic 1118, 3) := by decide +kernel
theorem dX13_manyLists_35 : decode cX13_manyLists 35 = .ok (.invokevirtual 1056, 3) := by decide +kernel
theorem dX13_manyLists_38 : decode cX13_manyLists 38 = .ok (.lstore_n 3, 1) := by decide +kernel
theorem dX13_manyLists_39 : decode cX13_manyLists 39 = .ok (.iinc 5 1, 3) := by decide +kernel
theorem dX13_manyLists_42 : decode cX13_manyLists 42 = .ok (.goto (-31), 3) := by decide +kernel
theorem dX13_manyLists_45 : decode cX13_manyLists 45 = .ok (.lload_n 3, 1) := by decide +kernel
theorem dX13_manyLists_46 : decode cX13_manyLists 46 = .ok (.lreturn, 1) := by decide +kernel
theorem dX13_manyLists_6 : decode cX13_manyLists 6 = .ok (.iload_n 1, 1) := by decide +kernel
theorem dX13_manyLists_7 : decode cX13_manyLists 7 = .ok (.laload, 1) := by decide +kernel
theorem dX13_manyLists_8 : decode cX13_manyLists 8 = .ok (.l2i, 1) := by decide +kernel
theorem dX13_manyLists_9 : decode cX13_manyLists 9 = .ok (.istore 5, 2) := by decide +kernel
theorem dX13_manyRecords_0 : decode cX13_manyRecords 0 = .ok (.iload_n 1, 1) := by decide +kernel
theorem dX13_manyRecords_1 : decode cX13_manyRecords 1 = .ok (.ifCond .ge 13, 3) := by decide +kernel
theorem dX13_manyRecords_102 : decode cX13_manyRecords 102 = .ok (.aload_n 0, 1) := by decide +kernel
theorem dX13_manyRecords_103 : decode cX13_manyRecords 103 = .ok (.lload 4, 2) := by decide +kernel
theorem dX13_manyRecords_105 : decode cX13_manyRecords 105 = .ok (.aload_n 0, 1) := by decide +kernel
theorem dX13_manyRecords_106 : decode cX13_manyRecords 106 = .ok (.aload_n 0, 1) := by decide +kernel
theorem dX13_manyRecords_107 : decode cX13_manyRecords 107 = .ok (.aload_n 0, 1) := by decide +kernel
theorem dX13_manyRecords_108 : decode cX13_manyRecords 108 = .ok (.getfield 39, 3) := by decide +kernel
theorem dX13_manyRecords_111 : decode cX13_manyRecords 111 = .ok (.iload_n 1, 1) := by decide +kernel
theorem dX13_manyRecords_112 : decode cX13_manyRecords 112 = .ok (.iaload, 1) := by decide +kernel
theorem dX13_manyRecords_113 : decode cX13_manyRecords 113 = .ok (.iload 6, 2) := by decide +kernel
theorem dX13_manyRecords_115 : decode cX13_manyRecords 115 = .ok (.iconst 1, 1) := by decide +kernel
theorem dX13_manyRecords_116 : decode cX13_manyRecords 116 = .ok (.isub, 1) := by decide +kernel
theorem dX13_manyRecords_117 : decode cX13_manyRecords 117 = .ok (.invokestatic 1108, 3) := by decide +kernel
theorem dX13_manyRecords_12 : decode cX13_manyRecords 12 = .ok (.lconst 0, 1) := by decide +kernel
theorem dX13_manyRecords_120 : decode cX13_manyRecords 120 = .ok (.lload 7, 2) := by decide +kernel
theorem dX13_manyRecords_122 : decode cX13_manyRecords 122 = .ok (.invokevirtual 1060, 3) := by decide +kernel
theorem dX13_manyRecords_125 : decode cX13_manyRecords 125 = .ok (.invokevirtual 1056, 3) := by decide +kernel
theorem dX13_manyRecords_128 : decode cX13_manyRecords 128 = .ok (.lstore 4, 2) := by decide +kernel
theorem dX13_manyRecords_13 : decode cX13_manyRecords 13 = .ok (.lreturn, 1) := by decide +kernel
theorem dX13_manyRecords_130 : decode cX13_manyRecords 130 = .ok (.iinc 6 1, 3) := by decide +kernel
theorem dX13_manyRecords_133 : decode cX13_manyRecords 133 = .ok (.goto (-65), 3) := by decide +kernel
theorem dX13_manyRecords_136 : decode cX13_manyRecords 136 = .ok (.aload_n 0, 1) := by decide +kernel
theorem dX13_manyRecords_137 : decode cX13_manyRecords 137 = .ok (.getfield 220, 3) := by decide +kernel
theorem dX13_manyRecords_14 : decode cX13_manyRecords 14 = .ok (.bipush 21, 2) := by decide +kernel
theorem dX13_manyRecords_140 : decode cX13_manyRecords 140 = .ok (.iload_n 3, 1) := by decide +kernel
theorem dX13_manyRecords_141 : decode cX13_manyRecords 141 = .ok (.iconst 1, 1) := by decide +kernel
theorem dX13_manyRecords_142 : decode cX13_manyRecords 142 = .ok (.bastore, 1) := by decide +kernel
theorem dX13_manyRecords_143 : decode cX13_manyRecords 143 = .ok (.aload_n 0, 1) := by decide +kernel
theorem dX13_manyRecords_144 : decode cX13_manyRecords 144 = .ok (.getfield 217, 3) := by decide +kernel
theorem dX13_manyRecords_147 : decode cX13_manyRecords 147 = .ok (.iload_n 3, 1) := by decide +kernel
theorem dX13_manyRecords_148 : decode cX13_manyRecords 148 = .ok (.lload 4, 2) := by decide +kernel
theorem dX13_manyRecords_150 : decode cX13_manyRecords 150 = .ok (.lastore, 1) := by decide +kernel
theorem dX13_manyRecords_151 : decode cX13_manyRecords 151 = .ok (.lload 4, 2) := by decide +kernel
theorem dX13_manyRecords_153 : decode cX13_manyRecords 153 = .ok (.lreturn, 1) := by decide +kernel
theorem dX13_manyRecords_16 : decode cX13_manyRecords 16 = .ok (.iload_n 1, 1) := by decide +kernel
theorem dX13_manyRecords_17 : decode cX13_manyRecords 17 = .ok (.imul, 1) := by decide +kernel
theorem dX13_manyRecords_18 : decode cX13_manyRecords 18 = .ok (.iload_n 2, 1) := by decide +kernel
theorem dX13_manyRecords_19 : decode cX13_manyRecords 19 = .ok (.iadd, 1) := by decide +kernel
theorem dX13_manyRecords_20 : decode cX13_manyRecords 20 = .ok (.istore_n 3, 1) := by decide +kernel
theorem dX13_manyRecords_21 : decode cX13_manyRecords 21 = .ok (.aload_n 0, 1) := by decide +kernel
theorem dX13_manyRecords_22 : decode cX13_manyRecords 22 = .ok (.getfield 220, 3) := by decide +kernel
theorem dX13_manyRecords_25 : decode cX13_manyRecords 25 = .ok (.iload_n 3, 1) := by decide +kernel
theorem dX13_manyRecords_26 : decode cX13_manyRecords 26 = .ok (.baload, 1) := by decide +kernel
theorem dX13_manyRecords_27 : decode cX13_manyRecords 27 = .ok (.ifCond .eq 10, 3) := by decide +kernel
theorem dX13_manyRecords_30 : decode cX13_manyRecords 30 = .ok (.aload_n 0, 1) := by decide +kernel
theorem dX13_manyRecords_31 : decode cX13_manyRecords 31 = .ok (.getfield 217, 3) := by decide +kernel
theorem dX13_manyRecords_34 : decode cX13_manyRecords 34 = .ok (.iload_n 3, 1) := by decide +kernel
theorem dX13_manyRecords_35 : decode cX13_manyRecords 35 = .ok (.laload, 1) := by decide +kernel
theorem dX13_manyRecords_36 : decode cX13_manyRecords 36 = .ok (.lreturn, 1) := by decide +kernel
theorem dX13_manyRecords_37 : decode cX13_manyRecords 37 = .ok (.aload_n 0, 1) := by decide +kernel
theorem dX13_manyRecords_38 : decode cX13_manyRecords 38 = .ok (.getfield 36, 3) := by decide +kernel
theorem dX13_manyRecords_4 : decode cX13_manyRecords 4 = .ok (.iload_n 2, 1) := by decide +kernel
theorem dX13_manyRecords_41 : decode cX13_manyRecords 41 = .ok (.iload_n 1, 1) := by decide +kernel
theorem dX13_manyRecords_42 : decode cX13_manyRecords 42 = .ok (.laload, 1) := by decide +kernel
theorem dX13_manyRecords_43 : decode cX13_manyRecords 43 = .ok (.lconst 0, 1) := by decide +kernel
theorem dX13_manyRecords_44 : decode cX13_manyRecords 44 = .ok (.lcmp, 1) := by decide +kernel
theorem dX13_manyRecords_45 : decode cX13_manyRecords 45 = .ok (.ifCond .eq 17, 3) := by decide +kernel
theorem dX13_manyRecords_48 : decode cX13_manyRecords 48 = .ok (.aload_n 0, 1) := by decide +kernel
theorem dX13_manyRecords_49 : decode cX13_manyRecords 49 = .ok (.aload_n 0, 1) := by decide +kernel
theorem dX13_manyRecords_5 : decode cX13_manyRecords 5 = .ok (.ifCond .ne 7, 3) := by decide +kernel
theorem dX13_manyRecords_50 : decode cX13_manyRecords 50 = .ok (.getfield 42, 3) := by decide +kernel
theorem dX13_manyRecords_53 : decode cX13_manyRecords 53 = .ok (.iload_n 1, 1) := by decide +kernel
theorem dX13_manyRecords_54 : decode cX13_manyRecords 54 = .ok (.iaload, 1) := by decide +kernel
theorem dX13_manyRecords_55 : decode cX13_manyRecords 55 = .ok (.iload_n 2, 1) := by decide +kernel
theorem dX13_manyRecords_56 : decode cX13_manyRecords 56 = .ok (.invokestatic 1112, 3) := by decide +kernel
theorem dX13_manyRecords_59 : decode cX13_manyRecords 59 = .ok (.goto 4, 3) := by decide +kernel
theorem dX13_manyRecords_62 : decode cX13_manyRecords 62 = .ok (.lconst 0, 1) := by decide +kernel
theorem dX13_manyRecords_63 : decode cX13_manyRecords 63 = .ok (.lstore 4, 2) := by decide +kernel
theorem dX13_manyRecords_65 : decode cX13_manyRecords 65 = .ok (.iconst 2, 1) := by decide +kernel
theorem dX13_manyRecords_66 : decode cX13_manyRecords 66 = .ok (.istore 6, 2) := by decide +kernel
theorem dX13_manyRecords_68 : decode cX13_manyRecords 68 = .ok (.iload 6, 2) := by decide +kernel
theorem dX13_manyRecords_70 : decode cX13_manyRecords 70 = .ok (.iload_n 2, 1) := by decide +kernel
theorem dX13_manyRecords_71 : decode cX13_manyRecords 71 = .ok (.if_icmp .gt 65, 3) := by decide +kernel
theorem dX13_manyRecords_74 : decode cX13_manyRecords 74 = .ok (.aload_n 0, 1) := by decide +kernel
theorem dX13_manyRecords_75 : decode cX13_manyRecords 75 = .ok (.aload_n 0, 1) := by decide +kernel
theorem dX13_manyRecords_76 : decode cX13_manyRecords 76 = .ok (.getfield 42, 3) := by decide +kernel
theorem dX13_manyRecords_79 : decode cX13_manyRecords 79 = .ok (.iload_n 1, 1) := by decide +kernel
theorem dX13_manyRecords_8 : decode cX13_manyRecords 8 = .ok (.lconst 1, 1) := by decide +kernel
theorem dX13_manyRecords_80 : decode cX13_manyRecords 80 = .ok (.iaload, 1) := by decide +kernel
theorem dX13_manyRecords_81 : decode cX13_manyRecords 81 = .ok (.iload_n 2, 1) := by decide +kernel
theorem dX13_manyRecords_82 : decode cX13_manyRecords 82 = .ok (.iload 6, 2) := by decide +kernel
theorem dX13_manyRecords_84 : decode cX13_manyRecords 84 = .ok (.isub, 1) := by decide +kernel
theorem dX13_manyRecords_85 : decode cX13_manyRecords 85 = .ok (.invokestatic 1112, 3) := by decide +kernel
theorem dX13_manyRecords_88 : decode cX13_manyRecords 88 = .ok (.lstore 7, 2) := by decide +kernel
theorem dX13_manyRecords_9 : decode cX13_manyRecords 9 = .ok (.goto 4, 3) := by decide +kernel
theorem dX13_manyRecords_90 : decode cX13_manyRecords 90 = .ok (.lload 7, 2) := by decide +kernel
theorem dX13_manyRecords_92 : decode cX13_manyRecords 92 = .ok (.lconst 0, 1) := by decide +kernel
theorem dX13_manyRecords_93 : decode cX13_manyRecords 93 = .ok (.lcmp, 1) := by decide +kernel
theorem dX13_manyRecords_94 : decode cX13_manyRecords 94 = .ok (.ifCond .ne 8, 3) := by decide +kernel
theorem dX13_manyRecords_97 : decode cX13_manyRecords 97 = .ok (.lload 4, 2) := by decide +kernel
theorem dX13_manyRecords_99 : decode cX13_manyRecords 99 = .ok (.goto 29, 3) := by decide +kernel
theorem dX13_rowsOf_0 : decode cX13_rowsOf 0 = .ok (.iload_n 2, 1) := by decide +kernel
theorem dX13_rowsOf_1 : decode cX13_rowsOf 1 = .ok (.ifCond .ne 13, 3) := by decide +kernel
theorem dX13_rowsOf_101 : decode cX13_rowsOf 101 = .ok (.iload 9, 2) := by decide +kernel
theorem dX13_rowsOf_103 : decode cX13_rowsOf 103 = .ok (.ifCond .lt 94, 3) := by decide +kernel
theorem dX13_rowsOf_106 : decode cX13_rowsOf 106 = .ok (.lconst 0, 1) := by decide +kernel
theorem dX13_rowsOf_107 : decode cX13_rowsOf 107 = .ok (.lstore 10, 2) := by decide +kernel
theorem dX13_rowsOf_109 : decode cX13_rowsOf 109 = .ok (.iconst 1, 1) := by decide +kernel
theorem dX13_rowsOf_110 : decode cX13_rowsOf 110 = .ok (.istore 12, 2) := by decide +kernel
theorem dX13_rowsOf_112 : decode cX13_rowsOf 112 = .ok (.iload 12, 2) := by decide +kernel
theorem dX13_rowsOf_114 : decode cX13_rowsOf 114 = .ok (.iload 9, 2) := by decide +kernel
theorem dX13_rowsOf_116 : decode cX13_rowsOf 116 = .ok (.if_icmp .gt 65, 3) := by decide +kernel
theorem dX13_rowsOf_119 : decode cX13_rowsOf 119 = .ok (.aload 4, 2) := by decide +kernel
theorem dX13_rowsOf_12 : decode cX13_rowsOf 12 = .ok (.lconst 0, 1) := by decide +kernel
theorem dX13_rowsOf_121 : decode cX13_rowsOf 121 = .ok (.iload 5, 2) := by decide +kernel
theorem dX13_rowsOf_123 : decode cX13_rowsOf 123 = .ok (.iload 9, 2) := by decide +kernel
theorem dX13_rowsOf_125 : decode cX13_rowsOf 125 = .ok (.iadd, 1) := by decide +kernel
theorem dX13_rowsOf_126 : decode cX13_rowsOf 126 = .ok (.iload 12, 2) := by decide +kernel
theorem dX13_rowsOf_128 : decode cX13_rowsOf 128 = .ok (.isub, 1) := by decide +kernel
theorem dX13_rowsOf_129 : decode cX13_rowsOf 129 = .ok (.laload, 1) := by decide +kernel
theorem dX13_rowsOf_13 : decode cX13_rowsOf 13 = .ok (.lreturn, 1) := by decide +kernel
theorem dX13_rowsOf_130 : decode cX13_rowsOf 130 = .ok (.lconst 0, 1) := by decide +kernel
theorem dX13_rowsOf_131 : decode cX13_rowsOf 131 = .ok (.lcmp, 1) := by decide +kernel
theorem dX13_rowsOf_132 : decode cX13_rowsOf 132 = .ok (.ifCond .ne 8, 3) := by decide +kernel
theorem dX13_rowsOf_135 : decode cX13_rowsOf 135 = .ok (.lload 10, 2) := by decide +kernel
theorem dX13_rowsOf_137 : decode cX13_rowsOf 137 = .ok (.goto 36, 3) := by decide +kernel
theorem dX13_rowsOf_14 : decode cX13_rowsOf 14 = .ok (.iload_n 3, 1) := by decide +kernel
theorem dX13_rowsOf_140 : decode cX13_rowsOf 140 = .ok (.aload_n 0, 1) := by decide +kernel
theorem dX13_rowsOf_141 : decode cX13_rowsOf 141 = .ok (.lload 10, 2) := by decide +kernel
theorem dX13_rowsOf_143 : decode cX13_rowsOf 143 = .ok (.aload_n 0, 1) := by decide +kernel
theorem dX13_rowsOf_144 : decode cX13_rowsOf 144 = .ok (.aload_n 0, 1) := by decide +kernel
theorem dX13_rowsOf_145 : decode cX13_rowsOf 145 = .ok (.aload_n 0, 1) := by decide +kernel
theorem dX13_rowsOf_146 : decode cX13_rowsOf 146 = .ok (.getfield 39, 3) := by decide +kernel
theorem dX13_rowsOf_149 : decode cX13_rowsOf 149 = .ok (.iload_n 1, 1) := by decide +kernel
theorem dX13_rowsOf_15 : decode cX13_rowsOf 15 = .ok (.iload_n 2, 1) := by decide +kernel
theorem dX13_rowsOf_150 : decode cX13_rowsOf 150 = .ok (.iaload, 1) := by decide +kernel
theorem dX13_rowsOf_151 : decode cX13_rowsOf 151 = .ok (.iload 12, 2) := by decide +kernel
theorem dX13_rowsOf_153 : decode cX13_rowsOf 153 = .ok (.invokestatic 1108, 3) := by decide +kernel
theorem dX13_rowsOf_156 : decode cX13_rowsOf 156 = .ok (.aload 4, 2) := by decide +kernel
theorem dX13_rowsOf_158 : decode cX13_rowsOf 158 = .ok (.iload 5, 2) := by decide +kernel
theorem dX13_rowsOf_16 : decode cX13_rowsOf 16 = .ok (.if_icmp .ge 5, 3) := by decide +kernel
theorem dX13_rowsOf_160 : decode cX13_rowsOf 160 = .ok (.iload 9, 2) := by decide +kernel
theorem dX13_rowsOf_162 : decode cX13_rowsOf 162 = .ok (.iadd, 1) := by decide +kernel
theorem dX13_rowsOf_163 : decode cX13_rowsOf 163 = .ok (.iload 12, 2) := by decide +kernel
theorem dX13_rowsOf_165 : decode cX13_rowsOf 165 = .ok (.isub, 1) := by decide +kernel
theorem dX13_rowsOf_166 : decode cX13_rowsOf 166 = .ok (.laload, 1) := by decide +kernel
theorem dX13_rowsOf_167 : decode cX13_rowsOf 167 = .ok (.invokevirtual 1060, 3) := by decide +kernel
theorem dX13_rowsOf_170 : decode cX13_rowsOf 170 = .ok (.invokevirtual 1056, 3) := by decide +kernel
theorem dX13_rowsOf_173 : decode cX13_rowsOf 173 = .ok (.lstore 10, 2) := by decide +kernel
theorem dX13_rowsOf_175 : decode cX13_rowsOf 175 = .ok (.iinc 12 1, 3) := by decide +kernel
theorem dX13_rowsOf_178 : decode cX13_rowsOf 178 = .ok (.goto (-66), 3) := by decide +kernel
theorem dX13_rowsOf_181 : decode cX13_rowsOf 181 = .ok (.aload 4, 2) := by decide +kernel
theorem dX13_rowsOf_183 : decode cX13_rowsOf 183 = .ok (.iload 5, 2) := by decide +kernel
theorem dX13_rowsOf_185 : decode cX13_rowsOf 185 = .ok (.iload 9, 2) := by decide +kernel
theorem dX13_rowsOf_187 : decode cX13_rowsOf 187 = .ok (.iadd, 1) := by decide +kernel
theorem dX13_rowsOf_188 : decode cX13_rowsOf 188 = .ok (.lload 10, 2) := by decide +kernel
theorem dX13_rowsOf_19 : decode cX13_rowsOf 19 = .ok (.lconst 0, 1) := by decide +kernel
theorem dX13_rowsOf_190 : decode cX13_rowsOf 190 = .ok (.lastore, 1) := by decide +kernel
theorem dX13_rowsOf_191 : decode cX13_rowsOf 191 = .ok (.iinc 9 (-1), 3) := by decide +kernel
theorem dX13_rowsOf_194 : decode cX13_rowsOf 194 = .ok (.goto (-93), 3) := by decide +kernel
theorem dX13_rowsOf_197 : decode cX13_rowsOf 197 = .ok (.iinc 8 1, 3) := by decide +kernel
theorem dX13_rowsOf_20 : decode cX13_rowsOf 20 = .ok (.lreturn, 1) := by decide +kernel
theorem dX13_rowsOf_200 : decode cX13_rowsOf 200 = .ok (.goto (-108), 3) := by decide +kernel
theorem dX13_rowsOf_203 : decode cX13_rowsOf 203 = .ok (.aload 4, 2) := by decide +kernel
theorem dX13_rowsOf_205 : decode cX13_rowsOf 205 = .ok (.iload 5, 2) := by decide +kernel
theorem dX13_rowsOf_207 : decode cX13_rowsOf 207 = .ok (.iload_n 3, 1) := by decide +kernel
theorem dX13_rowsOf_208 : decode cX13_rowsOf 208 = .ok (.iadd, 1) := by decide +kernel
theorem dX13_rowsOf_209 : decode cX13_rowsOf 209 = .ok (.laload, 1) := by decide +kernel
theorem dX13_rowsOf_21 : decode cX13_rowsOf 21 = .ok (.aload_n 0, 1) := by decide +kernel
theorem dX13_rowsOf_210 : decode cX13_rowsOf 210 = .ok (.lstore 6, 2) := by decide +kernel
theorem dX13_rowsOf_212 : decode cX13_rowsOf 212 = .ok (.aload_n 0, 1) := by decide +kernel
theorem dX13_rowsOf_213 : decode cX13_rowsOf 213 = .ok (.iload 5, 2) := by decide +kernel
theorem dX13_rowsOf_215 : decode cX13_rowsOf 215 = .ok (.putfield 1122, 3) := by decide +kernel
theorem dX13_rowsOf_218 : decode cX13_rowsOf 218 = .ok (.lload 6, 2) := by decide +kernel
theorem dX13_rowsOf_22 : decode cX13_rowsOf 22 = .ok (.getfield 223, 3) := by decide +kernel
theorem dX13_rowsOf_220 : decode cX13_rowsOf 220 = .ok (.lreturn, 1) := by decide +kernel
theorem dX13_rowsOf_25 : decode cX13_rowsOf 25 = .ok (.astore 4, 2) := by decide +kernel
theorem dX13_rowsOf_27 : decode cX13_rowsOf 27 = .ok (.aload_n 0, 1) := by decide +kernel
theorem dX13_rowsOf_28 : decode cX13_rowsOf 28 = .ok (.getfield 1122, 3) := by decide +kernel
theorem dX13_rowsOf_31 : decode cX13_rowsOf 31 = .ok (.istore 5, 2) := by decide +kernel
theorem dX13_rowsOf_33 : decode cX13_rowsOf 33 = .ok (.aload_n 0, 1) := by decide +kernel
theorem dX13_rowsOf_34 : decode cX13_rowsOf 34 = .ok (.iload 5, 2) := by decide +kernel
theorem dX13_rowsOf_36 : decode cX13_rowsOf 36 = .ok (.bipush 21, 2) := by decide +kernel
theorem dX13_rowsOf_38 : decode cX13_rowsOf 38 = .ok (.iadd, 1) := by decide +kernel
theorem dX13_rowsOf_39 : decode cX13_rowsOf 39 = .ok (.putfield 1122, 3) := by decide +kernel
theorem dX13_rowsOf_4 : decode cX13_rowsOf 4 = .ok (.iload_n 3, 1) := by decide +kernel
theorem dX13_rowsOf_42 : decode cX13_rowsOf 42 = .ok (.lconst 0, 1) := by decide +kernel
theorem dX13_rowsOf_43 : decode cX13_rowsOf 43 = .ok (.lstore 6, 2) := by decide +kernel
theorem dX13_rowsOf_45 : decode cX13_rowsOf 45 = .ok (.iload 5, 2) := by decide +kernel
theorem dX13_rowsOf_47 : decode cX13_rowsOf 47 = .ok (.bipush 21, 2) := by decide +kernel
theorem dX13_rowsOf_49 : decode cX13_rowsOf 49 = .ok (.iadd, 1) := by decide +kernel
theorem dX13_rowsOf_5 : decode cX13_rowsOf 5 = .ok (.ifCond .ne 7, 3) := by decide +kernel
theorem dX13_rowsOf_50 : decode cX13_rowsOf 50 = .ok (.sipush 8400, 3) := by decide +kernel
theorem dX13_rowsOf_53 : decode cX13_rowsOf 53 = .ok (.if_icmp .gt 159, 3) := by decide +kernel
theorem dX13_rowsOf_56 : decode cX13_rowsOf 56 = .ok (.iconst 0, 1) := by decide +kernel
theorem dX13_rowsOf_57 : decode cX13_rowsOf 57 = .ok (.istore 8, 2) := by decide +kernel
theorem dX13_rowsOf_59 : decode cX13_rowsOf 59 = .ok (.iload 8, 2) := by decide +kernel
theorem dX13_rowsOf_61 : decode cX13_rowsOf 61 = .ok (.iload_n 3, 1) := by decide +kernel
theorem dX13_rowsOf_62 : decode cX13_rowsOf 62 = .ok (.if_icmp .gt 27, 3) := by decide +kernel
theorem dX13_rowsOf_65 : decode cX13_rowsOf 65 = .ok (.aload 4, 2) := by decide +kernel
theorem dX13_rowsOf_67 : decode cX13_rowsOf 67 = .ok (.iload 5, 2) := by decide +kernel
theorem dX13_rowsOf_69 : decode cX13_rowsOf 69 = .ok (.iload 8, 2) := by decide +kernel
theorem dX13_rowsOf_71 : decode cX13_rowsOf 71 = .ok (.iadd, 1) := by decide +kernel
theorem dX13_rowsOf_72 : decode cX13_rowsOf 72 = .ok (.iload 8, 2) := by decide +kernel
theorem dX13_rowsOf_74 : decode cX13_rowsOf 74 = .ok (.ifCond .ne 7, 3) := by decide +kernel
theorem dX13_rowsOf_77 : decode cX13_rowsOf 77 = .ok (.lconst 1, 1) := by decide +kernel
theorem dX13_rowsOf_78 : decode cX13_rowsOf 78 = .ok (.goto 4, 3) := by decide +kernel
theorem dX13_rowsOf_8 : decode cX13_rowsOf 8 = .ok (.lconst 1, 1) := by decide +kernel
theorem dX13_rowsOf_81 : decode cX13_rowsOf 81 = .ok (.lconst 0, 1) := by decide +kernel
theorem dX13_rowsOf_82 : decode cX13_rowsOf 82 = .ok (.lastore, 1) := by decide +kernel
theorem dX13_rowsOf_83 : decode cX13_rowsOf 83 = .ok (.iinc 8 1, 3) := by decide +kernel
theorem dX13_rowsOf_86 : decode cX13_rowsOf 86 = .ok (.goto (-27), 3) := by decide +kernel
theorem dX13_rowsOf_89 : decode cX13_rowsOf 89 = .ok (.iconst 0, 1) := by decide +kernel
theorem dX13_rowsOf_9 : decode cX13_rowsOf 9 = .ok (.goto 4, 3) := by decide +kernel
theorem dX13_rowsOf_90 : decode cX13_rowsOf 90 = .ok (.istore 8, 2) := by decide +kernel
theorem dX13_rowsOf_92 : decode cX13_rowsOf 92 = .ok (.iload 8, 2) := by decide +kernel
theorem dX13_rowsOf_94 : decode cX13_rowsOf 94 = .ok (.iload_n 2, 1) := by decide +kernel
theorem dX13_rowsOf_95 : decode cX13_rowsOf 95 = .ok (.if_icmp .ge 108, 3) := by decide +kernel
theorem dX13_rowsOf_98 : decode cX13_rowsOf 98 = .ok (.iload_n 3, 1) := by decide +kernel
theorem dX13_rowsOf_99 : decode cX13_rowsOf 99 = .ok (.istore 9, 2) := by decide +kernel
abbrev RT_X13_manyAt : Type := (Int32 → Int32 → t_S → Option (Int64 × t_S)) × (Int32 → Int32 → t_S → Option (Int64 × t_S)) × (Int32 → Int32 → t_S → Option (Int64 × t_S)) × (Int32 → Int32 → Int32 → t_S → Option (Int64 × t_S))
def RH_X13_manyAt (rc : RT_X13_manyAt) (k : Nat) : Prop := (∀ (x2 : Int32) (x3 : Int32) (s : t_S) (r : Int64 × t_S), rc.1 x2 x3 s = some r → t_C yX13_manyAt cX13_manyAt 8 (some .long) (2 + k) [.ref 950, .int x2, .int x3] s (fun v s' => v = some (.long r.1) ∧ s' = r.2)) ∧ (∀ (x2 : Int32) (x3 : Int32) (s : t_S) (r : Int64 × t_S), rc.2.1 x2 x3 s = some r → t_C yX13_manyLists cX13_manyLists 6 (some .long) (2 + k) [.ref 950, .int x2, .int x3] s (fun v s' => v = some (.long r.1) ∧ s' = r.2)) ∧ (∀ (x2 : Int32) (x3 : Int32) (s : t_S) (r : Int64 × t_S), rc.2.2.1 x2 x3 s = some r → t_C yX13_manyRecords cX13_manyRecords 9 (some .long) (2 + k) [.ref 950, .int x2, .int x3] s (fun v s' => v = some (.long r.1) ∧ s' = r.2)) ∧ (∀ (x2 : Int32) (x3 : Int32) (x4 : Int32) (s : t_S) (r : Int64 × t_S), rc.2.2.2 x2 x3 x4 s = some r → t_C yX13_rowsOf cX13_rowsOf 13 (some .long) (2 + k) [.ref 950, .int x2, .int x3, .int x4] s (fun v s' => v = some (.long r.1) ∧ s' = r.2))
noncomputable def k_X13_manyAt_321 (rc : RT_X13_manyAt) (l3 : Int32) (l4 : Int64) (s : t_S) : Option (Int64 × t_S) :=
 if t_ix l3 273000 = true then
  t_let (t_setI s 1018 (l3.toNatClampNeg) (1 : Int32)) (fun s1 =>
 t_let (t_setJ s1 1017 (l3.toNatClampNeg) l4) (fun s2 =>
 some (l4, s2)))
else none
set_option maxRecDepth 4000 in
set_option maxHeartbeats 1000000 in
theorem B_X13_manyAt_321 {D : va_G} {cy : Nat → ClassId} {ad : Nat → Nat} {bs : Nat} {X : State → Heap → Prop} (rc : RT_X13_manyAt) {k : Nat} (H : RH_X13_manyAt rc k) (l3 : Int32) (l4 : Int64) (s : t_S) (Q : Int64 × t_S → Prop) (hk : t_hk (k_X13_manyAt_321 rc l3 l4 s) Q) : mj_G D cy ad bs X cX13_manyAt 8 yX13_manyAt.cls (some .long) yX13_manyAt.name (2 + (k + 1)) 0 0 1065 (t_P (fun v s' => ∃ x, v = some (.long x) ∧ Q ((x, s')))) 321 [(0, .ref 950), (3, .int l3), (4, .long l4)] [] (t_m s) 1065 0 0 := by
  refine mj_aload_n dX13_manyAt_321 0 rfl ?_
  refine t_getR 1018 dX13_manyAt_322 F_X13_220 qr_950_116 ?_
  refine mj_iload_n dX13_manyAt_325 1 rfl ?_
  refine mj_iconst (v := 1) dX13_manyAt_326 (by decide) ?_
  refine t_chkK hk (fun c0 hk => ?_)
  refine t_zastK dX13_manyAt_327 qa_1018 (t_ixv c0) (by decide) (fun s1 ws1 => t_letE hk ws1 (fun hk => ?_))
  refine mj_aload_n dX13_manyAt_328 0 rfl ?_
  refine t_getR 1017 dX13_manyAt_329 F_X13_217 qr_950_115 ?_
  refine mj_iload_n dX13_manyAt_332 1 rfl ?_
  refine mj_lload dX13_manyAt_333 2 rfl ?_
  refine t_lastK dX13_manyAt_335 qa_1017 (t_ixv c0) (fun s2 ws2 => t_letE hk ws2 (fun hk => ?_))
  refine mj_lload dX13_manyAt_336 2 rfl ?_
  exact t_somK hk (fun hf => t_lret dX13_manyAt_338 rfl ⟨_, rfl, hf⟩ (Nat.le_of_ble_eq_true rfl) (Nat.le_of_ble_eq_true rfl))
noncomputable def k_X13_manyAt_98 (rc : RT_X13_manyAt) (l3 : Int32) (k0 : Int64) (s : t_S) : Option (Int64 × t_S) :=
 k_X13_manyAt_321 rc l3 k0 s
set_option maxRecDepth 4000 in
set_option maxHeartbeats 1000000 in
theorem B_X13_manyAt_98 {D : va_G} {cy : Nat → ClassId} {ad : Nat → Nat} {bs : Nat} {X : State → Heap → Prop} (rc : RT_X13_manyAt) {k : Nat} (H : RH_X13_manyAt rc k) (l3 : Int32) (k0 : Int64) (s : t_S) (Q : Int64 × t_S → Prop) (hk : t_hk (k_X13_manyAt_98 rc l3 k0 s) Q) : mj_G D cy ad bs X cX13_manyAt 8 yX13_manyAt.cls (some .long) yX13_manyAt.name (2 + (k + 1)) 0 0 1065 (t_P (fun v s' => ∃ x, v = some (.long x) ∧ Q ((x, s')))) 98 [(0, .ref 950), (3, .int l3)] [.long k0] (t_m s) 1065 0 0 := by
  refine mj_lstore (lv2 := [(4, .long k0), (0, .ref 950), (3, .int l3)]) dX13_manyAt_98 (by decide) rfl ?_
  refine mj_goto 321 dX13_manyAt_100 (by decide) ?_
  refine mj_sublv [(0, .ref 950), (3, .int l3), (4, .long k0)] [1, 2, 0] rfl ?_
  exact B_X13_manyAt_321 rc H _ _ _ _ hk
noncomputable def k_X13_manyAt_135 (rc : RT_X13_manyAt) (l3 : Int32) (k0 : Int64) (s : t_S) : Option (Int64 × t_S) :=
 k_X13_manyAt_321 rc l3 k0 s
set_option maxRecDepth 4000 in
set_option maxHeartbeats 1000000 in
theorem B_X13_manyAt_135 {D : va_G} {cy : Nat → ClassId} {ad : Nat → Nat} {bs : Nat} {X : State → Heap → Prop} (rc : RT_X13_manyAt) {k : Nat} (H : RH_X13_manyAt rc k) (l3 : Int32) (k0 : Int64) (s : t_S) (Q : Int64 × t_S → Prop) (hk : t_hk (k_X13_manyAt_135 rc l3 k0 s) Q) : mj_G D cy ad bs X cX13_manyAt 8 yX13_manyAt.cls (some .long) yX13_manyAt.name (2 + (k + 1)) 0 0 1065 (t_P (fun v s' => ∃ x, v = some (.long x) ∧ Q ((x, s')))) 135 [(0, .ref 950), (3, .int l3)] [.long k0] (t_m s) 1065 0 0 := by
  refine mj_lstore (lv2 := [(4, .long k0), (0, .ref 950), (3, .int l3)]) dX13_manyAt_135 (by decide) rfl ?_
  refine mj_goto 321 dX13_manyAt_137 (by decide) ?_
  refine mj_sublv [(0, .ref 950), (3, .int l3), (4, .long k0)] [1, 2, 0] rfl ?_
  exact B_X13_manyAt_321 rc H _ _ _ _ hk
noncomputable def k_X13_manyAt_115 (rc : RT_X13_manyAt) (l3 : Int32) (k0 : Int64) (s : t_S) : Option (Int64 × t_S) :=
 k_X13_manyAt_321 rc l3 k0 s
set_option maxRecDepth 4000 in
set_option maxHeartbeats 1000000 in
theorem B_X13_manyAt_115 {D : va_G} {cy : Nat → ClassId} {ad : Nat → Nat} {bs : Nat} {X : State → Heap → Prop} (rc : RT_X13_manyAt) {k : Nat} (H : RH_X13_manyAt rc k) (l3 : Int32) (k0 : Int64) (s : t_S) (Q : Int64 × t_S → Prop) (hk : t_hk (k_X13_manyAt_115 rc l3 k0 s) Q) : mj_G D cy ad bs X cX13_manyAt 8 yX13_manyAt.cls (some .long) yX13_manyAt.name (2 + (k + 1)) 0 0 1065 (t_P (fun v s' => ∃ x, v = some (.long x) ∧ Q ((x, s')))) 115 [(0, .ref 950), (3, .int l3)] [.long k0] (t_m s) 1065 0 0 := by
  refine mj_lstore (lv2 := [(4, .long k0), (0, .ref 950), (3, .int l3)]) dX13_manyAt_115 (by decide) rfl ?_
  refine mj_goto 321 dX13_manyAt_117 (by decide) ?_
  refine mj_sublv [(0, .ref 950), (3, .int l3), (4, .long k0)] [1, 2, 0] rfl ?_
  exact B_X13_manyAt_321 rc H _ _ _ _ hk
noncomputable def k_X13_manyAt_188 (rc : RT_X13_manyAt) (l1 : Int32) (l2 : Int32) (l3 : Int32) (l6 : Int64) (k0 : Int64) (s : t_S) : Option ((Int32 × Int32 × Int32 × Int64 × Int64 × t_S) ⊕ (Int64 × t_S)) :=
 some (.inl (l1, l2, l3, k0, (l6 + (1 : Int64)), s))
set_option maxRecDepth 4000 in
set_option maxHeartbeats 1000000 in
theorem B_X13_manyAt_188 {D : va_G} {cy : Nat → ClassId} {ad : Nat → Nat} {bs : Nat} {X : State → Heap → Prop} (rc : RT_X13_manyAt) {k : Nat} (H : RH_X13_manyAt rc k) (l1 : Int32) (l2 : Int32) (l3 : Int32) (l6 : Int64) (k0 : Int64) (s : t_S) (Q : (Int32 × Int32 × Int32 × Int64 × Int64 × t_S) ⊕ (Int64 × t_S) → Prop) (Hb148 : ∀ (y0 : Int32) (y1 : Int32) (y2 : Int32) (y3 : Int64) (y4 : Int64) (y5 : t_S), Q (.inl (y0, y1, y2, y3, y4, y5)) → mj_G D cy ad bs X cX13_manyAt 8 yX13_manyAt.cls (some .long) yX13_manyAt.name (2 + (k + 1)) 0 0 1065 (t_P (fun v s' => ∃ x, v = some (.long x) ∧ Q (.inr ((x, s'))))) 148 [(0, .ref 950), (1, .int (y0)), (2, .int (y1)), (3, .int (y2)), (4, .long (y3)), (6, .long (y4))] [] (t_m y5) 1065 0 0) (hk : t_hk (k_X13_manyAt_188 rc l1 l2 l3 l6 k0 s) Q) : mj_G D cy ad bs X cX13_manyAt 8 yX13_manyAt.cls (some .long) yX13_manyAt.name (2 + (k + 1)) 0 0 1065 (t_P (fun v s' => ∃ x, v = some (.long x) ∧ Q (.inr ((x, s'))))) 188 [(0, .ref 950), (1, .int l1), (2, .int l2), (3, .int l3), (6, .long l6)] [.long k0] (t_m s) 1065 0 0 := by
  refine mj_lstore (lv2 := [(4, .long k0), (0, .ref 950), (1, .int l1), (2, .int l2), (3, .int l3), (6, .long l6)]) dX13_manyAt_188 (by decide) rfl ?_
  refine mj_lload dX13_manyAt_190 5 rfl ?_
  refine mj_lconst (v := 1) dX13_manyAt_192 (by decide) ?_
  refine mj_ladd dX13_manyAt_193 ?_
  refine mj_lstore (lv2 := [(6, .long (l6 + (1 : Int64))), (4, .long k0), (0, .ref 950), (1, .int l1), (2, .int l2), (3, .int l3)]) dX13_manyAt_194 (by decide) rfl ?_
  refine mj_goto 148 dX13_manyAt_196 (by decide) ?_
  refine mj_sublv [(0, .ref 950), (1, .int l1), (2, .int l2), (3, .int l3), (4, .long k0), (6, .long (l6 + (1 : Int64)))] [2, 3, 4, 5, 1, 0] rfl ?_
  exact t_somK hk (fun hf => Hb148 l1 l2 l3 k0 (l6 + (1 : Int64)) s hf)
noncomputable def k_X13_manyAt_148 (rc : RT_X13_manyAt) (l1 : Int32) (l2 : Int32) (l3 : Int32) (l4 : Int64) (l6 : Int64) (s : t_S) : Option ((Int32 × Int32 × Int32 × Int64 × Int64 × t_S) ⊕ (Int64 × t_S)) :=
 if t_ix l1 13000 = true then
  if (0 : Int32) < (lg_cmp l6 (s.2.1 958 (l1.toNatClampNeg))) then ((k_X13_manyAt_321 rc l3 l4 s).map Sum.inr)
 else ((f_X13_packs l6 s).bind (fun r2 =>
 if ((1 : Int32) + r2) = l2 then ((f_X13_textsOf l6 s).bind (fun r3 =>
 k_X13_manyAt_188 rc l1 l2 l3 l6 (f_X13_addFar l4 r3 s) s))
 else (k_X13_manyAt_188 rc l1 l2 l3 l6 l4 s)))
else none
set_option maxRecDepth 4000 in
set_option maxHeartbeats 1000000 in
theorem B_X13_manyAt_148 {D : va_G} {cy : Nat → ClassId} {ad : Nat → Nat} {bs : Nat} {X : State → Heap → Prop} (rc : RT_X13_manyAt) {k : Nat} (H : RH_X13_manyAt rc k) (l1 : Int32) (l2 : Int32) (l3 : Int32) (l4 : Int64) (l6 : Int64) (s : t_S) (Q : (Int32 × Int32 × Int32 × Int64 × Int64 × t_S) ⊕ (Int64 × t_S) → Prop) (Hb148 : ∀ (y0 : Int32) (y1 : Int32) (y2 : Int32) (y3 : Int64) (y4 : Int64) (y5 : t_S), Q (.inl (y0, y1, y2, y3, y4, y5)) → mj_G D cy ad bs X cX13_manyAt 8 yX13_manyAt.cls (some .long) yX13_manyAt.name (2 + (k + 1)) 0 0 1065 (t_P (fun v s' => ∃ x, v = some (.long x) ∧ Q (.inr ((x, s'))))) 148 [(0, .ref 950), (1, .int (y0)), (2, .int (y1)), (3, .int (y2)), (4, .long (y3)), (6, .long (y4))] [] (t_m y5) 1065 0 0) (hk : t_hk (k_X13_manyAt_148 rc l1 l2 l3 l4 l6 s) Q) : mj_G D cy ad bs X cX13_manyAt 8 yX13_manyAt.cls (some .long) yX13_manyAt.name (2 + (k + 1)) 0 0 1065 (t_P (fun v s' => ∃ x, v = some (.long x) ∧ Q (.inr ((x, s'))))) 148 [(0, .ref 950), (1, .int l1), (2, .int l2), (3, .int l3), (4, .long l4), (6, .long l6)] [] (t_m s) 1065 0 0 := by
  refine mj_lload dX13_manyAt_148 5 rfl ?_
  refine mj_aload_n dX13_manyAt_150 0 rfl ?_
  refine t_getR 958 dX13_manyAt_151 F_X13_36 qr_950_20 ?_
  refine mj_iload_n dX13_manyAt_154 1 rfl ?_
  refine t_chkK hk (fun c0 hk => ?_)
  refine t_lald dX13_manyAt_155 qa_958 (t_ixv c0) ?_
  refine mj_lcmp dX13_manyAt_156 ?_
  refine mj_if_gt 199 dX13_manyAt_157 (by decide) (fun z => t_posK hk z (fun hk => ?_)) (fun z => t_negK hk z (fun hk => ?_))
  · refine t_mapK hk (fun hk => ?_)
    refine mj_goto 321 dX13_manyAt_199 (by decide) ?_
    refine mj_sublv [(0, .ref 950), (3, .int l3), (4, .long l4)] [0, 3, 4] rfl ?_
    exact B_X13_manyAt_321 rc H _ _ _ _ hk
  · refine mj_iconst (v := 1) dX13_manyAt_160 (by decide) ?_
    refine mj_lload dX13_manyAt_161 5 rfl ?_
    refine t_bndK hk (fun r2 er2 hk => ?_)
    refine t_callSiP dX13_manyAt_163 M_X13_packs (C_X13_packs _ _ _ er2) ML_X13_845 SM_X13_packs (As := [.long l6]) rfl rfl (by omega) (Nat.le_of_ble_eq_true rfl) (Nat.le_of_ble_eq_true rfl) (Nat.le_of_ble_eq_true rfl) ?_
    refine mj_iadd dX13_manyAt_166 ?_
    refine mj_iload_n dX13_manyAt_167 2 rfl ?_
    refine mj_icmp_ne 186 dX13_manyAt_168 (by decide) (fun z => t_negK hk z (fun hk => ?_)) (fun z => t_posK hk z (fun hk => ?_))
    · refine mj_lload dX13_manyAt_186 4 rfl ?_
      refine mj_sublv [(0, .ref 950), (1, .int l1), (2, .int l2), (3, .int l3), (6, .long l6)] [0, 1, 2, 3, 5] rfl ?_
      exact B_X13_manyAt_188 rc H _ _ _ _ _ _ _ (fun y0 y1 y2 y3 y4 y5 hx => Hb148 y0 y1 y2 y3 y4 y5 hx) hk
    · refine mj_aload_n dX13_manyAt_171 0 rfl ?_
      refine mj_lload dX13_manyAt_172 4 rfl ?_
      refine mj_aload_n dX13_manyAt_174 0 rfl ?_
      refine mj_lload dX13_manyAt_175 5 rfl ?_
      refine t_bndK hk (fun r3 er3 hk => ?_)
      refine t_callVlP dX13_manyAt_177 M_X13_textsOf (C_X13_textsOf _ _ _ er3) ML_X13_1105 IM_X13_textsOf SE_X13_textsOf qc_950 rfl (As := [.long l6]) rfl rfl (by omega) (Nat.le_of_ble_eq_true rfl) (Nat.le_of_ble_eq_true rfl) (Nat.le_of_ble_eq_true rfl) ?_
      refine t_callVlP dX13_manyAt_180 M_X13_addFar (C_X13_addFar _ _ _) ML_X13_1056 IM_X13_addFar SE_X13_addFar qc_950 rfl (As := [.long l4, .long r3]) rfl rfl (by omega) (Nat.le_of_ble_eq_true rfl) (Nat.le_of_ble_eq_true rfl) (Nat.le_of_ble_eq_true rfl) ?_
      refine mj_goto 188 dX13_manyAt_183 (by decide) ?_
      refine mj_sublv [(0, .ref 950), (1, .int l1), (2, .int l2), (3, .int l3), (6, .long l6)] [0, 1, 2, 3, 5] rfl ?_
      exact B_X13_manyAt_188 rc H _ _ _ _ _ _ _ (fun y0 y1 y2 y3 y4 y5 hx => Hb148 y0 y1 y2 y3 y4 y5 hx) hk
noncomputable def b_X13_manyAt_148 (rc : RT_X13_manyAt) (x : Int32 × Int32 × Int32 × Int64 × Int64 × t_S) : Option ((Int32 × Int32 × Int32 × Int64 × Int64 × t_S) ⊕ (Int64 × t_S)) := k_X13_manyAt_148 rc x.1 x.2.1 x.2.2.1 x.2.2.2.1 x.2.2.2.2.1 x.2.2.2.2.2
set_option maxRecDepth 4000 in
set_option maxHeartbeats 1000000 in
theorem LH_X13_manyAt_148 {D : va_G} {cy : Nat → ClassId} {ad : Nat → Nat} {bs : Nat} {X : State → Heap → Prop} (rc : RT_X13_manyAt) {k : Nat} (H : RH_X13_manyAt rc k) : ∀ (n : Nat) (y0 : Int32) (y1 : Int32) (y2 : Int32) (y3 : Int64) (y4 : Int64) (y5 : t_S) (Q : Int64 × t_S → Prop) (hk : t_hk (t_loop (b_X13_manyAt_148 rc) n (y0, y1, y2, y3, y4, y5)) Q), mj_G D cy ad bs X cX13_manyAt 8 yX13_manyAt.cls (some .long) yX13_manyAt.name (2 + (k + 1)) 0 0 1065 (t_P (fun v s' => ∃ x, v = some (.long x) ∧ Q ((x, s')))) 148 [(0, .ref 950), (1, .int (y0)), (2, .int (y1)), (3, .int (y2)), (4, .long (y3)), (6, .long (y4))] [] (t_m y5) 1065 0 0 := by
  intro n
  induction n with
  | zero => intro y0 y1 y2 y3 y4 y5 Q hk; obtain ⟨r, hr, _⟩ := hk; cases hr
  | succ n ih =>
    intro y0 y1 y2 y3 y4 y5 Q hk
    exact B_X13_manyAt_148 rc H y0 y1 y2 y3 y4 y5 (fun y => t_lq (b_X13_manyAt_148 rc) n Q y) (fun y0' y1' y2' y3' y4' y5' hy => ih y0' y1' y2' y3' y4' y5' Q hy) (t_lp (b := b_X13_manyAt_148 rc) (n := n) (x := (y0, y1, y2, y3, y4, y5)) hk)
noncomputable def k_X13_manyAt_245 (rc : RT_X13_manyAt) (l2 : Int32) (l3 : Int32) (l4 : Int64) (l6 : Int32) (s : t_S) : Option ((Int32 × Int32 × Int64 × Int32 × t_S) ⊕ (Int64 × t_S)) :=
 if l6 < (0 : Int32) then ((k_X13_manyAt_321 rc l3 l4 s).map Sum.inr)
 else (if t_ix l6 13000 = true then
  (rc.1 (s.1 959 (l6.toNatClampNeg)) (l2 - (1 : Int32)) s).bind (fun r2 =>
 some (.inl (l2, l3, (f_X13_addFar l4 r2.1 r2.2), (r2.2.1 960 (l6.toNatClampNeg)), r2.2)))
else none)
set_option maxRecDepth 4000 in
set_option maxHeartbeats 1000000 in
theorem B_X13_manyAt_245 {D : va_G} {cy : Nat → ClassId} {ad : Nat → Nat} {bs : Nat} {X : State → Heap → Prop} (rc : RT_X13_manyAt) {k : Nat} (H : RH_X13_manyAt rc k) (l2 : Int32) (l3 : Int32) (l4 : Int64) (l6 : Int32) (s : t_S) (Q : (Int32 × Int32 × Int64 × Int32 × t_S) ⊕ (Int64 × t_S) → Prop) (Hb245 : ∀ (y0 : Int32) (y1 : Int32) (y2 : Int64) (y3 : Int32) (y4 : t_S), Q (.inl (y0, y1, y2, y3, y4)) → mj_G D cy ad bs X cX13_manyAt 8 yX13_manyAt.cls (some .long) yX13_manyAt.name (2 + (k + 1)) 0 0 1065 (t_P (fun v s' => ∃ x, v = some (.long x) ∧ Q (.inr ((x, s'))))) 245 [(0, .ref 950), (2, .int (y0)), (3, .int (y1)), (4, .long (y2)), (6, .int (y3))] [] (t_m y4) 1065 0 0) (hk : t_hk (k_X13_manyAt_245 rc l2 l3 l4 l6 s) Q) : mj_G D cy ad bs X cX13_manyAt 8 yX13_manyAt.cls (some .long) yX13_manyAt.name (2 + (k + 1)) 0 0 1065 (t_P (fun v s' => ∃ x, v = some (.long x) ∧ Q (.inr ((x, s'))))) 245 [(0, .ref 950), (2, .int l2), (3, .int l3), (4, .long l4), (6, .int l6)] [] (t_m s) 1065 0 0 := by
  refine mj_iload dX13_manyAt_245 4 rfl ?_
  refine mj_if_lt 284 dX13_manyAt_247 (by decide) (fun z => t_posK hk z (fun hk => ?_)) (fun z => t_negK hk z (fun hk => ?_))
  · refine t_mapK hk (fun hk => ?_)
    refine mj_goto 321 dX13_manyAt_284 (by decide) ?_
    refine mj_sublv [(0, .ref 950), (3, .int l3), (4, .long l4)] [0, 2, 3] rfl ?_
    exact B_X13_manyAt_321 rc H _ _ _ _ hk
  · refine mj_aload_n dX13_manyAt_250 0 rfl ?_
    refine mj_lload dX13_manyAt_251 3 rfl ?_
    refine mj_aload_n dX13_manyAt_253 0 rfl ?_
    refine mj_aload_n dX13_manyAt_254 0 rfl ?_
    refine t_getR 959 dX13_manyAt_255 F_X13_39 qr_950_21 ?_
    refine mj_iload dX13_manyAt_258 4 rfl ?_
    refine t_chkK hk (fun c0 hk => ?_)
    refine t_iald dX13_manyAt_260 qa_959 (t_ixv c0) ?_
    refine mj_iload_n dX13_manyAt_261 1 rfl ?_
    refine mj_iconst (v := 1) dX13_manyAt_262 (by decide) ?_
    refine mj_isub dX13_manyAt_263 ?_
    refine t_bndK hk (fun r2 er2 hk => ?_)
    refine t_callSlE dX13_manyAt_264 M_X13_manyAt (H.1 _ _ _ _ er2) ML_X13_1108 SM_X13_manyAt (As := [.ref 950, .int (s.1 959 (l6.toNatClampNeg)), .int (l2 - (1 : Int32))]) rfl rfl (by omega) (Nat.le_of_ble_eq_true rfl) (Nat.le_of_ble_eq_true rfl) (Nat.le_of_ble_eq_true rfl) ?_
    refine t_callVlP dX13_manyAt_267 M_X13_addFar (C_X13_addFar _ _ _) ML_X13_1056 IM_X13_addFar SE_X13_addFar qc_950 rfl (As := [.long l4, .long r2.1]) rfl rfl (by omega) (Nat.le_of_ble_eq_true rfl) (Nat.le_of_ble_eq_true rfl) (Nat.le_of_ble_eq_true rfl) ?_
    refine mj_lstore (lv2 := [(4, .long (f_X13_addFar l4 r2.1 r2.2)), (0, .ref 950), (2, .int l2), (3, .int l3), (6, .int l6)]) dX13_manyAt_270 (by decide) rfl ?_
    refine mj_aload_n dX13_manyAt_272 1 rfl ?_
    refine t_getR 960 dX13_manyAt_273 F_X13_42 qr_950_22 ?_
    refine mj_iload dX13_manyAt_276 4 rfl ?_
    refine t_iald dX13_manyAt_278 qa_960 (t_ixv c0) ?_
    refine mj_istore (lv2 := [(6, .int (r2.2.1 960 (l6.toNatClampNeg))), (4, .long (f_X13_addFar l4 r2.1 r2.2)), (0, .ref 950), (2, .int l2), (3, .int l3)]) dX13_manyAt_279 (by decide) rfl ?_
    refine mj_goto 245 dX13_manyAt_281 (by decide) ?_
    refine mj_sublv [(0, .ref 950), (2, .int l2), (3, .int l3), (4, .long (f_X13_addFar l4 r2.1 r2.2)), (6, .int (r2.2.1 960 (l6.toNatClampNeg)))] [2, 3, 4, 1, 0] rfl ?_
    exact t_somK hk (fun hf => Hb245 l2 l3 (f_X13_addFar l4 r2.1 r2.2) (r2.2.1 960 (l6.toNatClampNeg)) r2.2 hf)
noncomputable def b_X13_manyAt_245 (rc : RT_X13_manyAt) (x : Int32 × Int32 × Int64 × Int32 × t_S) : Option ((Int32 × Int32 × Int64 × Int32 × t_S) ⊕ (Int64 × t_S)) := k_X13_manyAt_245 rc x.1 x.2.1 x.2.2.1 x.2.2.2.1 x.2.2.2.2
set_option maxRecDepth 4000 in
set_option maxHeartbeats 1000000 in
theorem LH_X13_manyAt_245 {D : va_G} {cy : Nat → ClassId} {ad : Nat → Nat} {bs : Nat} {X : State → Heap → Prop} (rc : RT_X13_manyAt) {k : Nat} (H : RH_X13_manyAt rc k) : ∀ (n : Nat) (y0 : Int32) (y1 : Int32) (y2 : Int64) (y3 : Int32) (y4 : t_S) (Q : Int64 × t_S → Prop) (hk : t_hk (t_loop (b_X13_manyAt_245 rc) n (y0, y1, y2, y3, y4)) Q), mj_G D cy ad bs X cX13_manyAt 8 yX13_manyAt.cls (some .long) yX13_manyAt.name (2 + (k + 1)) 0 0 1065 (t_P (fun v s' => ∃ x, v = some (.long x) ∧ Q ((x, s')))) 245 [(0, .ref 950), (2, .int (y0)), (3, .int (y1)), (4, .long (y2)), (6, .int (y3))] [] (t_m y4) 1065 0 0 := by
  intro n
  induction n with
  | zero => intro y0 y1 y2 y3 y4 Q hk; obtain ⟨r, hr, _⟩ := hk; cases hr
  | succ n ih =>
    intro y0 y1 y2 y3 y4 Q hk
    exact B_X13_manyAt_245 rc H y0 y1 y2 y3 y4 (fun y => t_lq (b_X13_manyAt_245 rc) n Q y) (fun y0' y1' y2' y3' y4' hy => ih y0' y1' y2' y3' y4' Q hy) (t_lp (b := b_X13_manyAt_245 rc) (n := n) (x := (y0, y1, y2, y3, y4)) hk)
noncomputable def k_X13_manyAt_319 (rc : RT_X13_manyAt) (l3 : Int32) (k0 : Int64) (s : t_S) : Option (Int64 × t_S) :=
 k_X13_manyAt_321 rc l3 k0 s
set_option maxRecDepth 4000 in
set_option maxHeartbeats 1000000 in
theorem B_X13_manyAt_319 {D : va_G} {cy : Nat → ClassId} {ad : Nat → Nat} {bs : Nat} {X : State → Heap → Prop} (rc : RT_X13_manyAt) {k : Nat} (H : RH_X13_manyAt rc k) (l3 : Int32) (k0 : Int64) (s : t_S) (Q : Int64 × t_S → Prop) (hk : t_hk (k_X13_manyAt_319 rc l3 k0 s) Q) : mj_G D cy ad bs X cX13_manyAt 8 yX13_manyAt.cls (some .long) yX13_manyAt.name (2 + (k + 1)) 0 0 1065 (t_P (fun v s' => ∃ x, v = some (.long x) ∧ Q ((x, s')))) 319 [(0, .ref 950), (3, .int l3)] [.long k0] (t_m s) 1065 0 0 := by
  refine mj_lstore (lv2 := [(4, .long k0), (0, .ref 950), (3, .int l3)]) dX13_manyAt_319 (by decide) rfl ?_
  refine mj_sublv [(0, .ref 950), (3, .int l3), (4, .long k0)] [1, 2, 0] rfl ?_
  exact B_X13_manyAt_321 rc H _ _ _ _ hk
noncomputable def m_X13_manyAt (rc : RT_X13_manyAt) (x2 : Int32) (x3 : Int32) (s : t_S) : Option (Int64 × t_S) :=
 if (1 : Int32) ≤ x3 then (if t_ix (((21 : Int32) * x2) + x3) 273000 = true then
  if (s.1 1018 ((((21 : Int32) * x2) + x3).toNatClampNeg)) = (0 : Int32) then (if t_ix x2 13000 = true then
  if (s.1 955 (x2.toNatClampNeg)).toInt < 1 ∨ 8 < (s.1 955 (x2.toNatClampNeg)).toInt then (if (s.1 955 (x2.toNatClampNeg)) = (5 : Int32) then ((rc.2.2.1 (s.1 959 (x2.toNatClampNeg)) (x3 - (1 : Int32)) s).bind (fun r4 =>
 k_X13_manyAt_319 rc (((21 : Int32) * x2) + x3) r4.1 r4.2))
 else ((rc.2.1 x2 x3 s).bind (fun r3 =>
 k_X13_manyAt_319 rc (((21 : Int32) * x2) + x3) r3.1 r3.2)))
 else if (s.1 955 (x2.toNatClampNeg)).toInt = 1 then (if x3 = (1 : Int32) then ((f_X13_numbersOf x2 s).bind (fun r5 =>
 k_X13_manyAt_98 rc (((21 : Int32) * x2) + x3) r5 s))
 else (k_X13_manyAt_98 rc (((21 : Int32) * x2) + x3) 0 s))
 else if (s.1 955 (x2.toNatClampNeg)).toInt = 2 then (if x3 = (1 : Int32) then (k_X13_manyAt_115 rc (((21 : Int32) * x2) + x3) 2 s)
 else (k_X13_manyAt_115 rc (((21 : Int32) * x2) + x3) 0 s))
 else if (s.1 955 (x2.toNatClampNeg)).toInt = 3 then (t_loop (b_X13_manyAt_148 rc) t_N (x2, x3, (((21 : Int32) * x2) + x3), 0, (s.2.1 957 (x2.toNatClampNeg)), s))
 else if (s.1 955 (x2.toNatClampNeg)).toInt = 4 then (if x3 = (1 : Int32) then ((f_X13_partCount x2 s).bind (fun r6 =>
 k_X13_manyAt_135 rc (((21 : Int32) * x2) + x3) r6.toInt64 s))
 else (k_X13_manyAt_135 rc (((21 : Int32) * x2) + x3) 0 s))
 else if (s.1 955 (x2.toNatClampNeg)).toInt = 5 then (if (s.1 955 (x2.toNatClampNeg)) = (5 : Int32) then ((rc.2.2.1 (s.1 959 (x2.toNatClampNeg)) (x3 - (1 : Int32)) s).bind (fun r8 =>
 k_X13_manyAt_319 rc (((21 : Int32) * x2) + x3) r8.1 r8.2))
 else ((rc.2.1 x2 x3 s).bind (fun r7 =>
 k_X13_manyAt_319 rc (((21 : Int32) * x2) + x3) r7.1 r7.2)))
 else if (s.1 955 (x2.toNatClampNeg)).toInt = 6 then (t_loop (b_X13_manyAt_245 rc) t_N (x3, (((21 : Int32) * x2) + x3), 0, (s.1 959 (x2.toNatClampNeg)), s))
 else if (s.1 955 (x2.toNatClampNeg)).toInt = 7 then (if (s.1 955 (x2.toNatClampNeg)) = (5 : Int32) then ((rc.2.2.1 (s.1 959 (x2.toNatClampNeg)) (x3 - (1 : Int32)) s).bind (fun r10 =>
 k_X13_manyAt_319 rc (((21 : Int32) * x2) + x3) r10.1 r10.2))
 else ((rc.2.1 x2 x3 s).bind (fun r9 =>
 k_X13_manyAt_319 rc (((21 : Int32) * x2) + x3) r9.1 r9.2)))
 else ((f_X13_find 964 (0 : Int32) (s.1 950 40) ((s.2.1 957 (x2.toNatClampNeg)).toInt32) s).bind (fun r11 =>
 if t_ix r11 60 = true then
  (rc.1 (s.1 965 (r11.toNatClampNeg)) x3 s).bind (fun r13 =>
 k_X13_manyAt_321 rc (((21 : Int32) * x2) + x3) r13.1 r13.2)
else none))
else none)
 else (some ((s.2.1 1017 ((((21 : Int32) * x2) + x3).toNatClampNeg)), s))
else none)
 else (some ((0 : Int64), s))
set_option maxRecDepth 4000 in
set_option maxHeartbeats 1000000 in
theorem E_X13_manyAt (rc : RT_X13_manyAt) {k : Nat} (H : RH_X13_manyAt rc k) (x2 : Int32) (x3 : Int32) (s : t_S) (r : Int64 × t_S) (hr : m_X13_manyAt rc x2 x3 s = some r) : t_C yX13_manyAt cX13_manyAt 8 (some .long) (2 + (k + 1)) [.ref 950, .int x2, .int x3] s (fun v s' => v = some (.long r.1) ∧ s' = r.2) := by
  refine t_C.imp (P := fun v s' => ∃ x, v = some (.long x) ∧ (fun q => q = r) ((x, s'))) (t_C.of (by decide +kernel) (Nat.le_of_ble_eq_true rfl) ?_) (fun v s' hp => by obtain ⟨x, rfl, rfl⟩ := hp; exact ⟨rfl, rfl⟩)
  intro D cy ad bs X
  have hk : t_hk (m_X13_manyAt rc x2 x3 s) (fun q => q = r) := ⟨r, hr, rfl⟩
  show mj_G D cy ad bs X cX13_manyAt 8 yX13_manyAt.cls (some .long) yX13_manyAt.name (2 + (k + 1)) 0 0 1065 (t_P (fun v s' => ∃ x, v = some (.long x) ∧ (fun q => q = r) ((x, s')))) 0 [(0, .ref 950), (1, .int x2), (2, .int x3)] [] (t_m s) 1065 0 0
  refine mj_iload_n dX13_manyAt_0 2 rfl ?_
  refine mj_iconst (v := 1) dX13_manyAt_1 (by decide) ?_
  refine mj_icmp_ge 7 dX13_manyAt_2 (by decide) (fun z => t_posK hk z (fun hk => ?_)) (fun z => t_negK hk z (fun hk => ?_))
  · refine mj_bipush (v := 21) dX13_manyAt_7 (by decide) ?_
    refine mj_iload_n dX13_manyAt_9 1 rfl ?_
    refine mj_imul dX13_manyAt_10 ?_
    refine mj_iload_n dX13_manyAt_11 2 rfl ?_
    refine mj_iadd dX13_manyAt_12 ?_
    refine mj_istore_n 3 (lv2 := [(3, .int (((21 : Int32) * x2) + x3)), (0, .ref 950), (1, .int x2), (2, .int x3)]) dX13_manyAt_13 rfl (by decide) rfl ?_
    refine mj_aload_n dX13_manyAt_14 1 rfl ?_
    refine t_getR 1018 dX13_manyAt_15 F_X13_220 qr_950_116 ?_
    refine mj_iload_n dX13_manyAt_18 0 rfl ?_
    refine t_chkK hk (fun c0 hk => ?_)
    refine t_zald dX13_manyAt_19 qa_1018 (t_ixv c0) ?_
    refine mj_if_eq 30 dX13_manyAt_20 (by decide) (fun z => t_posK hk z (fun hk => ?_)) (fun z => t_negK hk z (fun hk => ?_))
    · refine mj_lconst (v := 0) dX13_manyAt_30 (by decide) ?_
      refine mj_lstore (lv2 := [(4, .long 0), (3, .int (((21 : Int32) * x2) + x3)), (0, .ref 950), (1, .int x2), (2, .int x3)]) dX13_manyAt_31 (by decide) rfl ?_
      refine mj_aload_n dX13_manyAt_33 2 rfl ?_
      refine t_getR 955 dX13_manyAt_34 F_X13_26 qr_950_17 ?_
      refine mj_iload_n dX13_manyAt_37 3 rfl ?_
      refine t_chkK hk (fun c1 hk => ?_)
      refine t_iald dX13_manyAt_38 qa_955 (t_ixv c1) ?_
      by_cases hout : (s.1 955 (x2.toNatClampNeg)).toInt < 1 ∨ 8 < (s.1 955 (x2.toNatClampNeg)).toInt
      · replace hk := t_pos hk hout
        refine mj_tableOut 287 dX13_manyAt_39 hout (by decide) ?_
        refine mj_aload_n dX13_manyAt_287 2 rfl ?_
        refine t_getR 955 dX13_manyAt_288 F_X13_26 qr_950_17 ?_
        refine mj_iload_n dX13_manyAt_291 3 rfl ?_
        refine t_iald dX13_manyAt_292 qa_955 (t_ixv c1) ?_
        refine mj_iconst (v := 5) dX13_manyAt_293 (by decide) ?_
        refine mj_icmp_ne 313 dX13_manyAt_294 (by decide) (fun z => t_negK hk z (fun hk => ?_)) (fun z => t_posK hk z (fun hk => ?_))
        · refine mj_aload_n dX13_manyAt_313 2 rfl ?_
          refine mj_iload_n dX13_manyAt_314 3 rfl ?_
          refine mj_iload_n dX13_manyAt_315 4 rfl ?_
          refine t_bndK hk (fun r3 er3 hk => ?_)
          refine t_callSlE dX13_manyAt_316 M_X13_manyLists (H.2.1 _ _ _ _ er3) ML_X13_1115 SM_X13_manyLists (As := [.ref 950, .int x2, .int x3]) rfl rfl (by omega) (Nat.le_of_ble_eq_true rfl) (Nat.le_of_ble_eq_true rfl) (Nat.le_of_ble_eq_true rfl) ?_
          refine mj_sublv [(0, .ref 950), (3, .int (((21 : Int32) * x2) + x3))] [2, 1] rfl ?_
          exact B_X13_manyAt_319 rc H _ _ _ _ hk
        · refine mj_aload_n dX13_manyAt_297 2 rfl ?_
          refine mj_aload_n dX13_manyAt_298 2 rfl ?_
          refine t_getR 959 dX13_manyAt_299 F_X13_39 qr_950_21 ?_
          refine mj_iload_n dX13_manyAt_302 3 rfl ?_
          refine t_iald dX13_manyAt_303 qa_959 (t_ixv c1) ?_
          refine mj_iload_n dX13_manyAt_304 4 rfl ?_
          refine mj_iconst (v := 1) dX13_manyAt_305 (by decide) ?_
          refine mj_isub dX13_manyAt_306 ?_
          refine t_bndK hk (fun r4 er4 hk => ?_)
          refine t_callSlE dX13_manyAt_307 M_X13_manyRecords (H.2.2.1 _ _ _ _ er4) ML_X13_1112 SM_X13_manyRecords (As := [.ref 950, .int (s.1 959 (x2.toNatClampNeg)), .int (x3 - (1 : Int32))]) rfl rfl (by omega) (Nat.le_of_ble_eq_true rfl) (Nat.le_of_ble_eq_true rfl) (Nat.le_of_ble_eq_true rfl) ?_
          refine mj_goto 319 dX13_manyAt_310 (by decide) ?_
          refine mj_sublv [(0, .ref 950), (3, .int (((21 : Int32) * x2) + x3))] [2, 1] rfl ?_
          exact B_X13_manyAt_319 rc H _ _ _ _ hk
      · replace hk := t_neg hk hout
        have hh1 : ¬ (s.1 955 (x2.toNatClampNeg)).toInt < 1 := fun z => hout (Or.inl z)
        have hh2 : ¬ (8 : Int) < (s.1 955 (x2.toNatClampNeg)).toInt := fun z => hout (Or.inr z)
        by_cases h0 : (s.1 955 (x2.toNatClampNeg)).toInt = 1
        · replace hk := t_pos hk h0
          refine mj_tableIn 84 dX13_manyAt_39 hh1 hh2 (by rw [h0]; rfl) (by decide) ?_
          refine mj_iload_n dX13_manyAt_84 4 rfl ?_
          refine mj_iconst (v := 1) dX13_manyAt_85 (by decide) ?_
          refine mj_icmp_ne 97 dX13_manyAt_86 (by decide) (fun z => t_negK hk z (fun hk => ?_)) (fun z => t_posK hk z (fun hk => ?_))
          · refine mj_lconst (v := 0) dX13_manyAt_97 (by decide) ?_
            refine mj_sublv [(0, .ref 950), (3, .int (((21 : Int32) * x2) + x3))] [2, 1] rfl ?_
            exact B_X13_manyAt_98 rc H _ _ _ _ hk
          · refine mj_aload_n dX13_manyAt_89 2 rfl ?_
            refine mj_iload_n dX13_manyAt_90 3 rfl ?_
            refine t_bndK hk (fun r5 er5 hk => ?_)
            refine t_callVlP dX13_manyAt_91 M_X13_numbersOf (C_X13_numbersOf _ _ _ er5) ML_X13_1102 IM_X13_numbersOf SE_X13_numbersOf qc_950 rfl (As := [.int x2]) rfl rfl (by omega) (Nat.le_of_ble_eq_true rfl) (Nat.le_of_ble_eq_true rfl) (Nat.le_of_ble_eq_true rfl) ?_
            refine mj_goto 98 dX13_manyAt_94 (by decide) ?_
            refine mj_sublv [(0, .ref 950), (3, .int (((21 : Int32) * x2) + x3))] [2, 1] rfl ?_
            exact B_X13_manyAt_98 rc H _ _ _ _ hk
        replace hk := t_neg hk h0
        by_cases h1 : (s.1 955 (x2.toNatClampNeg)).toInt = 2
        · replace hk := t_pos hk h1
          refine mj_tableIn 103 dX13_manyAt_39 hh1 hh2 (by rw [h1]; rfl) (by decide) ?_
          refine mj_iload_n dX13_manyAt_103 4 rfl ?_
          refine mj_iconst (v := 1) dX13_manyAt_104 (by decide) ?_
          refine mj_icmp_ne 114 dX13_manyAt_105 (by decide) (fun z => t_negK hk z (fun hk => ?_)) (fun z => t_posK hk z (fun hk => ?_))
          · refine mj_lconst (v := 0) dX13_manyAt_114 (by decide) ?_
            refine mj_sublv [(0, .ref 950), (3, .int (((21 : Int32) * x2) + x3))] [2, 1] rfl ?_
            exact B_X13_manyAt_115 rc H _ _ _ _ hk
          · refine mj_ldc2 dX13_manyAt_108 K_X13_994 ?_
            refine mj_goto 115 dX13_manyAt_111 (by decide) ?_
            refine mj_sublv [(0, .ref 950), (3, .int (((21 : Int32) * x2) + x3))] [2, 1] rfl ?_
            exact B_X13_manyAt_115 rc H _ _ _ _ hk
        replace hk := t_neg hk h1
        by_cases h2 : (s.1 955 (x2.toNatClampNeg)).toInt = 3
        · replace hk := t_pos hk h2
          refine mj_tableIn 140 dX13_manyAt_39 hh1 hh2 (by rw [h2]; rfl) (by decide) ?_
          refine mj_aload_n dX13_manyAt_140 2 rfl ?_
          refine t_getR 957 dX13_manyAt_141 F_X13_32 qr_950_19 ?_
          refine mj_iload_n dX13_manyAt_144 3 rfl ?_
          refine t_lald dX13_manyAt_145 qa_957 (t_ixv c1) ?_
          refine mj_lstore (lv2 := [(6, .long (s.2.1 957 (x2.toNatClampNeg))), (4, .long 0), (3, .int (((21 : Int32) * x2) + x3)), (0, .ref 950), (1, .int x2), (2, .int x3)]) dX13_manyAt_146 (by decide) rfl ?_
          refine mj_sublv [(0, .ref 950), (1, .int x2), (2, .int x3), (3, .int (((21 : Int32) * x2) + x3)), (4, .long 0), (6, .long (s.2.1 957 (x2.toNatClampNeg)))] [3, 4, 5, 2, 1, 0] rfl ?_
          exact LH_X13_manyAt_148 rc H _ x2 x3 (((21 : Int32) * x2) + x3) 0 (s.2.1 957 (x2.toNatClampNeg)) s _ hk
        replace hk := t_neg hk h2
        by_cases h3 : (s.1 955 (x2.toNatClampNeg)).toInt = 4
        · replace hk := t_pos hk h3
          refine mj_tableIn 120 dX13_manyAt_39 hh1 hh2 (by rw [h3]; rfl) (by decide) ?_
          refine mj_iload_n dX13_manyAt_120 4 rfl ?_
          refine mj_iconst (v := 1) dX13_manyAt_121 (by decide) ?_
          refine mj_icmp_ne 134 dX13_manyAt_122 (by decide) (fun z => t_negK hk z (fun hk => ?_)) (fun z => t_posK hk z (fun hk => ?_))
          · refine mj_lconst (v := 0) dX13_manyAt_134 (by decide) ?_
            refine mj_sublv [(0, .ref 950), (3, .int (((21 : Int32) * x2) + x3))] [2, 1] rfl ?_
            exact B_X13_manyAt_135 rc H _ _ _ _ hk
          · refine mj_aload_n dX13_manyAt_125 2 rfl ?_
            refine mj_iload_n dX13_manyAt_126 3 rfl ?_
            refine t_bndK hk (fun r6 er6 hk => ?_)
            refine t_callViP dX13_manyAt_127 M_X13_partCount (C_X13_partCount _ _ _ er6) ML_X13_830 IM_X13_partCount SE_X13_partCount qc_950 rfl (As := [.int x2]) rfl rfl (by omega) (Nat.le_of_ble_eq_true rfl) (Nat.le_of_ble_eq_true rfl) (Nat.le_of_ble_eq_true rfl) ?_
            refine mj_i2l (v := r6.toInt64) dX13_manyAt_130 rfl ?_
            refine mj_goto 135 dX13_manyAt_131 (by decide) ?_
            refine mj_sublv [(0, .ref 950), (3, .int (((21 : Int32) * x2) + x3))] [2, 1] rfl ?_
            exact B_X13_manyAt_135 rc H _ _ _ _ hk
        replace hk := t_neg hk h3
        by_cases h4 : (s.1 955 (x2.toNatClampNeg)).toInt = 5
        · replace hk := t_pos hk h4
          refine mj_tableIn 287 dX13_manyAt_39 hh1 hh2 (by rw [h4]; rfl) (by decide) ?_
          refine mj_aload_n dX13_manyAt_287 2 rfl ?_
          refine t_getR 955 dX13_manyAt_288 F_X13_26 qr_950_17 ?_
          refine mj_iload_n dX13_manyAt_291 3 rfl ?_
          refine t_iald dX13_manyAt_292 qa_955 (t_ixv c1) ?_
          refine mj_iconst (v := 5) dX13_manyAt_293 (by decide) ?_
          refine mj_icmp_ne 313 dX13_manyAt_294 (by decide) (fun z => t_negK hk z (fun hk => ?_)) (fun z => t_posK hk z (fun hk => ?_))
          · refine mj_aload_n dX13_manyAt_313 2 rfl ?_
            refine mj_iload_n dX13_manyAt_314 3 rfl ?_
            refine mj_iload_n dX13_manyAt_315 4 rfl ?_
            refine t_bndK hk (fun r7 er7 hk => ?_)
            refine t_callSlE dX13_manyAt_316 M_X13_manyLists (H.2.1 _ _ _ _ er7) ML_X13_1115 SM_X13_manyLists (As := [.ref 950, .int x2, .int x3]) rfl rfl (by omega) (Nat.le_of_ble_eq_true rfl) (Nat.le_of_ble_eq_true rfl) (Nat.le_of_ble_eq_true rfl) ?_
            refine mj_sublv [(0, .ref 950), (3, .int (((21 : Int32) * x2) + x3))] [2, 1] rfl ?_
            exact B_X13_manyAt_319 rc H _ _ _ _ hk
          · refine mj_aload_n dX13_manyAt_297 2 rfl ?_
            refine mj_aload_n dX13_manyAt_298 2 rfl ?_
            refine t_getR 959 dX13_manyAt_299 F_X13_39 qr_950_21 ?_
            refine mj_iload_n dX13_manyAt_302 3 rfl ?_
            refine t_iald dX13_manyAt_303 qa_959 (t_ixv c1) ?_
            refine mj_iload_n dX13_manyAt_304 4 rfl ?_
            refine mj_iconst (v := 1) dX13_manyAt_305 (by decide) ?_
            refine mj_isub dX13_manyAt_306 ?_
            refine t_bndK hk (fun r8 er8 hk => ?_)
            refine t_callSlE dX13_manyAt_307 M_X13_manyRecords (H.2.2.1 _ _ _ _ er8) ML_X13_1112 SM_X13_manyRecords (As := [.ref 950, .int (s.1 959 (x2.toNatClampNeg)), .int (x3 - (1 : Int32))]) rfl rfl (by omega) (Nat.le_of_ble_eq_true rfl) (Nat.le_of_ble_eq_true rfl) (Nat.le_of_ble_eq_true rfl) ?_
            refine mj_goto 319 dX13_manyAt_310 (by decide) ?_
            refine mj_sublv [(0, .ref 950), (3, .int (((21 : Int32) * x2) + x3))] [2, 1] rfl ?_
            exact B_X13_manyAt_319 rc H _ _ _ _ hk
        replace hk := t_neg hk h4
        by_cases h5 : (s.1 955 (x2.toNatClampNeg)).toInt = 6
        · replace hk := t_pos hk h5
          refine mj_tableIn 237 dX13_manyAt_39 hh1 hh2 (by rw [h5]; rfl) (by decide) ?_
          refine mj_aload_n dX13_manyAt_237 2 rfl ?_
          refine t_getR 959 dX13_manyAt_238 F_X13_39 qr_950_21 ?_
          refine mj_iload_n dX13_manyAt_241 3 rfl ?_
          refine t_iald dX13_manyAt_242 qa_959 (t_ixv c1) ?_
          refine mj_istore (lv2 := [(6, .int (s.1 959 (x2.toNatClampNeg))), (4, .long 0), (3, .int (((21 : Int32) * x2) + x3)), (0, .ref 950), (1, .int x2), (2, .int x3)]) dX13_manyAt_243 (by decide) rfl ?_
          refine mj_sublv [(0, .ref 950), (2, .int x3), (3, .int (((21 : Int32) * x2) + x3)), (4, .long 0), (6, .int (s.1 959 (x2.toNatClampNeg)))] [3, 5, 2, 1, 0] rfl ?_
          exact LH_X13_manyAt_245 rc H _ x3 (((21 : Int32) * x2) + x3) 0 (s.1 959 (x2.toNatClampNeg)) s _ hk
        replace hk := t_neg hk h5
        by_cases h6 : (s.1 955 (x2.toNatClampNeg)).toInt = 7
        · replace hk := t_pos hk h6
          refine mj_tableIn 287 dX13_manyAt_39 hh1 hh2 (by rw [h6]; rfl) (by decide) ?_
          refine mj_aload_n dX13_manyAt_287 2 rfl ?_
          refine t_getR 955 dX13_manyAt_288 F_X13_26 qr_950_17 ?_
          refine mj_iload_n dX13_manyAt_291 3 rfl ?_
          refine t_iald dX13_manyAt_292 qa_955 (t_ixv c1) ?_
          refine mj_iconst (v := 5) dX13_manyAt_293 (by decide) ?_
          refine mj_icmp_ne 313 dX13_manyAt_294 (by decide) (fun z => t_negK hk z (fun hk => ?_)) (fun z => t_posK hk z (fun hk => ?_))
          · refine mj_aload_n dX13_manyAt_313 2 rfl ?_
            refine mj_iload_n dX13_manyAt_314 3 rfl ?_
            refine mj_iload_n dX13_manyAt_315 4 rfl ?_
            refine t_bndK hk (fun r9 er9 hk => ?_)
            refine t_callSlE dX13_manyAt_316 M_X13_manyLists (H.2.1 _ _ _ _ er9) ML_X13_1115 SM_X13_manyLists (As := [.ref 950, .int x2, .int x3]) rfl rfl (by omega) (Nat.le_of_ble_eq_true rfl) (Nat.le_of_ble_eq_true rfl) (Nat.le_of_ble_eq_true rfl) ?_
            refine mj_sublv [(0, .ref 950), (3, .int (((21 : Int32) * x2) + x3))] [2, 1] rfl ?_
            exact B_X13_manyAt_319 rc H _ _ _ _ hk
          · refine mj_aload_n dX13_manyAt_297 2 rfl ?_
            refine mj_aload_n dX13_manyAt_298 2 rfl ?_
            refine t_getR 959 dX13_manyAt_299 F_X13_39 qr_950_21 ?_
            refine mj_iload_n dX13_manyAt_302 3 rfl ?_
            refine t_iald dX13_manyAt_303 qa_959 (t_ixv c1) ?_
            refine mj_iload_n dX13_manyAt_304 4 rfl ?_
            refine mj_iconst (v := 1) dX13_manyAt_305 (by decide) ?_
            refine mj_isub dX13_manyAt_306 ?_
            refine t_bndK hk (fun r10 er10 hk => ?_)
            refine t_callSlE dX13_manyAt_307 M_X13_manyRecords (H.2.2.1 _ _ _ _ er10) ML_X13_1112 SM_X13_manyRecords (As := [.ref 950, .int (s.1 959 (x2.toNatClampNeg)), .int (x3 - (1 : Int32))]) rfl rfl (by omega) (Nat.le_of_ble_eq_true rfl) (Nat.le_of_ble_eq_true rfl) (Nat.le_of_ble_eq_true rfl) ?_
            refine mj_goto 319 dX13_manyAt_310 (by decide) ?_
            refine mj_sublv [(0, .ref 950), (3, .int (((21 : Int32) * x2) + x3))] [2, 1] rfl ?_
            exact B_X13_manyAt_319 rc H _ _ _ _ hk
        replace hk := t_neg hk h6
        have h7 : (s.1 955 (x2.toNatClampNeg)).toInt = 8 := by omega
        refine mj_tableIn 202 dX13_manyAt_39 hh1 hh2 (by rw [h7]; rfl) (by decide) ?_
        refine mj_aload_n dX13_manyAt_202 2 rfl ?_
        refine mj_aload_n dX13_manyAt_203 2 rfl ?_
        refine t_getR 965 dX13_manyAt_204 F_X13_57 qr_950_38 ?_
        refine mj_aload_n dX13_manyAt_207 2 rfl ?_
        refine mj_aload_n dX13_manyAt_208 2 rfl ?_
        refine t_getR 964 dX13_manyAt_209 F_X13_54 qr_950_37 ?_
        refine mj_iconst (v := 0) dX13_manyAt_212 (by decide) ?_
        refine mj_aload_n dX13_manyAt_213 2 rfl ?_
        refine t_getI dX13_manyAt_214 F_X13_624 qf_950_40 ?_
        refine mj_aload_n dX13_manyAt_217 2 rfl ?_
        refine t_getR 957 dX13_manyAt_218 F_X13_32 qr_950_19 ?_
        refine mj_iload_n dX13_manyAt_221 3 rfl ?_
        refine t_lald dX13_manyAt_222 qa_957 (t_ixv c1) ?_
        refine mj_l2i (v := (s.2.1 957 (x2.toNatClampNeg)).toInt32) dX13_manyAt_223 rfl ?_
        refine t_bndK hk (fun r11 er11 hk => ?_)
        refine t_callViP dX13_manyAt_224 M_X13_find (C_X13_find _ _ _ _ _ _ er11) ML_X13_788 IM_X13_find SE_X13_find qc_950 rfl (As := [.ref 964, .int 0, .int (s.1 950 40), .int ((s.2.1 957 (x2.toNatClampNeg)).toInt32)]) rfl rfl (by omega) (Nat.le_of_ble_eq_true rfl) (Nat.le_of_ble_eq_true rfl) (Nat.le_of_ble_eq_true rfl) ?_
        refine t_chkK hk (fun c11 hk => ?_)
        refine t_iald dX13_manyAt_227 qa_965 (t_ixv c11) ?_
        refine mj_iload_n dX13_manyAt_228 4 rfl ?_
        refine t_bndK hk (fun r13 er13 hk => ?_)
        refine t_callSlE dX13_manyAt_229 M_X13_manyAt (H.1 _ _ _ _ er13) ML_X13_1108 SM_X13_manyAt (As := [.ref 950, .int (s.1 965 (r11.toNatClampNeg)), .int x3]) rfl rfl (by omega) (Nat.le_of_ble_eq_true rfl) (Nat.le_of_ble_eq_true rfl) (Nat.le_of_ble_eq_true rfl) ?_
        refine mj_lstore (lv2 := [(4, .long r13.1), (3, .int (((21 : Int32) * x2) + x3)), (0, .ref 950), (1, .int x2), (2, .int x3)]) dX13_manyAt_232 (by decide) rfl ?_
        refine mj_goto 321 dX13_manyAt_234 (by decide) ?_
        refine mj_sublv [(0, .ref 950), (3, .int (((21 : Int32) * x2) + x3)), (4, .long r13.1)] [2, 1, 0] rfl ?_
        exact B_X13_manyAt_321 rc H _ _ _ _ hk
    · refine mj_aload_n dX13_manyAt_23 1 rfl ?_
      refine t_getR 1017 dX13_manyAt_24 F_X13_217 qr_950_115 ?_
      refine mj_iload_n dX13_manyAt_27 0 rfl ?_
      refine t_lald dX13_manyAt_28 qa_1017 (t_ixv c0) ?_
      exact t_somK hk (fun hf => t_lret dX13_manyAt_29 rfl ⟨_, rfl, hf⟩ (Nat.le_of_ble_eq_true rfl) (Nat.le_of_ble_eq_true rfl))
  · refine mj_lconst (v := 0) dX13_manyAt_5 (by decide) ?_
    exact t_somK hk (fun hf => t_lret dX13_manyAt_6 rfl ⟨_, rfl, hf⟩ (Nat.le_of_ble_eq_true rfl) (Nat.le_of_ble_eq_true rfl))
noncomputable def k_X13_manyLists_11 (rc : RT_X13_manyAt) (l1 : Int32) (l2 : Int32) (l3 : Int64) (l5 : Int32) (s : t_S) : Option ((Int32 × Int32 × Int64 × Int32 × t_S) ⊕ (Int64 × t_S)) :=
 if t_ix l1 13000 = true then
  if ((s.2.1 958 (l1.toNatClampNeg)).toInt32) < l5 then ((some (l3, s)).map Sum.inr)
 else ((rc.2.2.2 l1 l5 (l2 - (1 : Int32)) s).bind (fun r2 =>
 some (.inl (l1, l2, (f_X13_addFar l3 r2.1 r2.2), (l5 + 1), r2.2))))
else none
set_option maxRecDepth 4000 in
set_option maxHeartbeats 1000000 in
theorem B_X13_manyLists_11 {D : va_G} {cy : Nat → ClassId} {ad : Nat → Nat} {bs : Nat} {X : State → Heap → Prop} (rc : RT_X13_manyAt) {k : Nat} (H : RH_X13_manyAt rc k) (l1 : Int32) (l2 : Int32) (l3 : Int64) (l5 : Int32) (s : t_S) (Q : (Int32 × Int32 × Int64 × Int32 × t_S) ⊕ (Int64 × t_S) → Prop) (Hb11 : ∀ (y0 : Int32) (y1 : Int32) (y2 : Int64) (y3 : Int32) (y4 : t_S), Q (.inl (y0, y1, y2, y3, y4)) → mj_G D cy ad bs X cX13_manyLists 6 yX13_manyLists.cls (some .long) yX13_manyLists.name (2 + (k + 1)) 0 0 1065 (t_P (fun v s' => ∃ x, v = some (.long x) ∧ Q (.inr ((x, s'))))) 11 [(0, .ref 950), (1, .int (y0)), (2, .int (y1)), (3, .long (y2)), (5, .int (y3))] [] (t_m y4) 1065 0 0) (hk : t_hk (k_X13_manyLists_11 rc l1 l2 l3 l5 s) Q) : mj_G D cy ad bs X cX13_manyLists 6 yX13_manyLists.cls (some .long) yX13_manyLists.name (2 + (k + 1)) 0 0 1065 (t_P (fun v s' => ∃ x, v = some (.long x) ∧ Q (.inr ((x, s'))))) 11 [(0, .ref 950), (1, .int l1), (2, .int l2), (3, .long l3), (5, .int l5)] [] (t_m s) 1065 0 0 := by
  refine mj_iload dX13_manyLists_11 4 rfl ?_
  refine mj_aload_n dX13_manyLists_13 0 rfl ?_
  refine t_getR 958 dX13_manyLists_14 F_X13_36 qr_950_20 ?_
  refine mj_iload_n dX13_manyLists_17 1 rfl ?_
  refine t_chkK hk (fun c0 hk => ?_)
  refine t_lald dX13_manyLists_18 qa_958 (t_ixv c0) ?_
  refine mj_l2i (v := (s.2.1 958 (l1.toNatClampNeg)).toInt32) dX13_manyLists_19 rfl ?_
  refine mj_icmp_gt 45 dX13_manyLists_20 (by decide) (fun z => t_posK hk z (fun hk => ?_)) (fun z => t_negK hk z (fun hk => ?_))
  · refine t_mapK hk (fun hk => ?_)
    refine mj_lload_n dX13_manyLists_45 3 rfl ?_
    exact t_somK hk (fun hf => t_lret dX13_manyLists_46 rfl ⟨_, rfl, hf⟩ (Nat.le_of_ble_eq_true rfl) (Nat.le_of_ble_eq_true rfl))
  · refine mj_aload_n dX13_manyLists_23 0 rfl ?_
    refine mj_lload_n dX13_manyLists_24 3 rfl ?_
    refine mj_aload_n dX13_manyLists_25 0 rfl ?_
    refine mj_iload_n dX13_manyLists_26 1 rfl ?_
    refine mj_iload dX13_manyLists_27 4 rfl ?_
    refine mj_iload_n dX13_manyLists_29 2 rfl ?_
    refine mj_iconst (v := 1) dX13_manyLists_30 (by decide) ?_
    refine mj_isub dX13_manyLists_31 ?_
    refine t_bndK hk (fun r2 er2 hk => ?_)
    refine t_callSlE dX13_manyLists_32 M_X13_rowsOf (H.2.2.2 _ _ _ _ _ er2) ML_X13_1118 SM_X13_rowsOf (As := [.ref 950, .int l1, .int l5, .int (l2 - (1 : Int32))]) rfl rfl (by omega) (Nat.le_of_ble_eq_true rfl) (Nat.le_of_ble_eq_true rfl) (Nat.le_of_ble_eq_true rfl) ?_
    refine t_callVlP dX13_manyLists_35 M_X13_addFar (C_X13_addFar _ _ _) ML_X13_1056 IM_X13_addFar SE_X13_addFar qc_950 rfl (As := [.long l3, .long r2.1]) rfl rfl (by omega) (Nat.le_of_ble_eq_true rfl) (Nat.le_of_ble_eq_true rfl) (Nat.le_of_ble_eq_true rfl) ?_
    refine mj_lstore_n 3 (lv2 := [(3, .long (f_X13_addFar l3 r2.1 r2.2)), (0, .ref 950), (1, .int l1), (2, .int l2), (5, .int l5)]) dX13_manyLists_38 rfl (by decide) rfl ?_
    refine mj_iinc (k := 4) (v := (l5 + 1)) (lv2 := [(5, .int (l5 + 1)), (3, .long (f_X13_addFar l3 r2.1 r2.2)), (0, .ref 950), (1, .int l1), (2, .int l2)]) dX13_manyLists_39 rfl rfl (by decide) rfl ?_
    refine mj_goto 11 dX13_manyLists_42 (by decide) ?_
    refine mj_sublv [(0, .ref 950), (1, .int l1), (2, .int l2), (3, .long (f_X13_addFar l3 r2.1 r2.2)), (5, .int (l5 + 1))] [2, 3, 4, 1, 0] rfl ?_
    exact t_somK hk (fun hf => Hb11 l1 l2 (f_X13_addFar l3 r2.1 r2.2) (l5 + 1) r2.2 hf)
noncomputable def b_X13_manyLists_11 (rc : RT_X13_manyAt) (x : Int32 × Int32 × Int64 × Int32 × t_S) : Option ((Int32 × Int32 × Int64 × Int32 × t_S) ⊕ (Int64 × t_S)) := k_X13_manyLists_11 rc x.1 x.2.1 x.2.2.1 x.2.2.2.1 x.2.2.2.2
set_option maxRecDepth 4000 in
set_option maxHeartbeats 1000000 in
theorem LH_X13_manyLists_11 {D : va_G} {cy : Nat → ClassId} {ad : Nat → Nat} {bs : Nat} {X : State → Heap → Prop} (rc : RT_X13_manyAt) {k : Nat} (H : RH_X13_manyAt rc k) : ∀ (n : Nat) (y0 : Int32) (y1 : Int32) (y2 : Int64) (y3 : Int32) (y4 : t_S) (Q : Int64 × t_S → Prop) (hk : t_hk (t_loop (b_X13_manyLists_11 rc) n (y0, y1, y2, y3, y4)) Q), mj_G D cy ad bs X cX13_manyLists 6 yX13_manyLists.cls (some .long) yX13_manyLists.name (2 + (k + 1)) 0 0 1065 (t_P (fun v s' => ∃ x, v = some (.long x) ∧ Q ((x, s')))) 11 [(0, .ref 950), (1, .int (y0)), (2, .int (y1)), (3, .long (y2)), (5, .int (y3))] [] (t_m y4) 1065 0 0 := by
  intro n
  induction n with
  | zero => intro y0 y1 y2 y3 y4 Q hk; obtain ⟨r, hr, _⟩ := hk; cases hr
  | succ n ih =>
    intro y0 y1 y2 y3 y4 Q hk
    exact B_X13_manyLists_11 rc H y0 y1 y2 y3 y4 (fun y => t_lq (b_X13_manyLists_11 rc) n Q y) (fun y0' y1' y2' y3' y4' hy => ih y0' y1' y2' y3' y4' Q hy) (t_lp (b := b_X13_manyLists_11 rc) (n := n) (x := (y0, y1, y2, y3, y4)) hk)
noncomputable def m_X13_manyLists (rc : RT_X13_manyAt) (x2 : Int32) (x3 : Int32) (s : t_S) : Option (Int64 × t_S) :=
 if t_ix x2 13000 = true then
  t_loop (b_X13_manyLists_11 rc) t_N (x2, x3, 0, ((s.2.1 957 (x2.toNatClampNeg)).toInt32), s)
else none
set_option maxRecDepth 4000 in
set_option maxHeartbeats 1000000 in
theorem E_X13_manyLists (rc : RT_X13_manyAt) {k : Nat} (H : RH_X13_manyAt rc k) (x2 : Int32) (x3 : Int32) (s : t_S) (r : Int64 × t_S) (hr : m_X13_manyLists rc x2 x3 s = some r) : t_C yX13_manyLists cX13_manyLists 6 (some .long) (2 + (k + 1)) [.ref 950, .int x2, .int x3] s (fun v s' => v = some (.long r.1) ∧ s' = r.2) := by
  refine t_C.imp (P := fun v s' => ∃ x, v = some (.long x) ∧ (fun q => q = r) ((x, s'))) (t_C.of (by decide +kernel) (Nat.le_of_ble_eq_true rfl) ?_) (fun v s' hp => by obtain ⟨x, rfl, rfl⟩ := hp; exact ⟨rfl, rfl⟩)
  intro D cy ad bs X
  have hk : t_hk (m_X13_manyLists rc x2 x3 s) (fun q => q = r) := ⟨r, hr, rfl⟩
  show mj_G D cy ad bs X cX13_manyLists 6 yX13_manyLists.cls (some .long) yX13_manyLists.name (2 + (k + 1)) 0 0 1065 (t_P (fun v s' => ∃ x, v = some (.long x) ∧ (fun q => q = r) ((x, s')))) 0 [(0, .ref 950), (1, .int x2), (2, .int x3)] [] (t_m s) 1065 0 0
  refine mj_lconst (v := 0) dX13_manyLists_0 (by decide) ?_
  refine mj_lstore_n 3 (lv2 := [(3, .long 0), (0, .ref 950), (1, .int x2), (2, .int x3)]) dX13_manyLists_1 rfl (by decide) rfl ?_
  refine mj_aload_n dX13_manyLists_2 1 rfl ?_
  refine t_getR 957 dX13_manyLists_3 F_X13_32 qr_950_19 ?_
  refine mj_iload_n dX13_manyLists_6 2 rfl ?_
  refine t_chkK hk (fun c0 hk => ?_)
  refine t_lald dX13_manyLists_7 qa_957 (t_ixv c0) ?_
  refine mj_l2i (v := (s.2.1 957 (x2.toNatClampNeg)).toInt32) dX13_manyLists_8 rfl ?_
  refine mj_istore (lv2 := [(5, .int ((s.2.1 957 (x2.toNatClampNeg)).toInt32)), (3, .long 0), (0, .ref 950), (1, .int x2), (2, .int x3)]) dX13_manyLists_9 (by decide) rfl ?_
  refine mj_sublv [(0, .ref 950), (1, .int x2), (2, .int x3), (3, .long 0), (5, .int ((s.2.1 957 (x2.toNatClampNeg)).toInt32))] [2, 3, 4, 1, 0] rfl ?_
  exact LH_X13_manyLists_11 rc H _ x2 x3 0 ((s.2.1 957 (x2.toNatClampNeg)).toInt32) s _ hk
noncomputable def k_X13_manyRecords_128 (rc : RT_X13_manyAt) (l1 : Int32) (l2 : Int32) (l3 : Int32) (l6 : Int32) (k0 : Int64) (s : t_S) : Option ((Int32 × Int32 × Int32 × Int64 × Int32 × t_S) ⊕ (Int64 × t_S)) :=
 some (.inl (l1, l2, l3, k0, (l6 + 1), s))
set_option maxRecDepth 4000 in
set_option maxHeartbeats 1000000 in
theorem B_X13_manyRecords_128 {D : va_G} {cy : Nat → ClassId} {ad : Nat → Nat} {bs : Nat} {X : State → Heap → Prop} (rc : RT_X13_manyAt) {k : Nat} (H : RH_X13_manyAt rc k) (l1 : Int32) (l2 : Int32) (l3 : Int32) (l6 : Int32) (k0 : Int64) (s : t_S) (Q : (Int32 × Int32 × Int32 × Int64 × Int32 × t_S) ⊕ (Int64 × t_S) → Prop) (Hb68 : ∀ (y0 : Int32) (y1 : Int32) (y2 : Int32) (y3 : Int64) (y4 : Int32) (y5 : t_S), Q (.inl (y0, y1, y2, y3, y4, y5)) → mj_G D cy ad bs X cX13_manyRecords 9 yX13_manyRecords.cls (some .long) yX13_manyRecords.name (2 + (k + 1)) 0 0 1065 (t_P (fun v s' => ∃ x, v = some (.long x) ∧ Q (.inr ((x, s'))))) 68 [(0, .ref 950), (1, .int (y0)), (2, .int (y1)), (3, .int (y2)), (4, .long (y3)), (6, .int (y4))] [] (t_m y5) 1065 0 0) (hk : t_hk (k_X13_manyRecords_128 rc l1 l2 l3 l6 k0 s) Q) : mj_G D cy ad bs X cX13_manyRecords 9 yX13_manyRecords.cls (some .long) yX13_manyRecords.name (2 + (k + 1)) 0 0 1065 (t_P (fun v s' => ∃ x, v = some (.long x) ∧ Q (.inr ((x, s'))))) 128 [(0, .ref 950), (1, .int l1), (2, .int l2), (3, .int l3), (6, .int l6)] [.long k0] (t_m s) 1065 0 0 := by
  refine mj_lstore (lv2 := [(4, .long k0), (0, .ref 950), (1, .int l1), (2, .int l2), (3, .int l3), (6, .int l6)]) dX13_manyRecords_128 (by decide) rfl ?_
  refine mj_iinc (k := 5) (v := (l6 + 1)) (lv2 := [(6, .int (l6 + 1)), (4, .long k0), (0, .ref 950), (1, .int l1), (2, .int l2), (3, .int l3)]) dX13_manyRecords_130 rfl rfl (by decide) rfl ?_
  refine mj_goto 68 dX13_manyRecords_133 (by decide) ?_
  refine mj_sublv [(0, .ref 950), (1, .int l1), (2, .int l2), (3, .int l3), (4, .long k0), (6, .int (l6 + 1))] [2, 3, 4, 5, 1, 0] rfl ?_
  exact t_somK hk (fun hf => Hb68 l1 l2 l3 k0 (l6 + 1) s hf)
noncomputable def k_X13_manyRecords_68 (rc : RT_X13_manyAt) (l1 : Int32) (l2 : Int32) (l3 : Int32) (l4 : Int64) (l6 : Int32) (s : t_S) : Option ((Int32 × Int32 × Int32 × Int64 × Int32 × t_S) ⊕ (Int64 × t_S)) :=
 if l2 < l6 then ((if t_ix l3 273000 = true then
  t_let (t_setI s 1018 (l3.toNatClampNeg) (1 : Int32)) (fun s1 =>
 t_let (t_setJ s1 1017 (l3.toNatClampNeg) l4) (fun s2 =>
 some (l4, s2)))
else none).map Sum.inr)
 else (if t_ix l1 13000 = true then
  (rc.2.2.1 (s.1 960 (l1.toNatClampNeg)) (l2 - l6) s).bind (fun r3 =>
 if (lg_cmp r3.1 (0 : Int64)) = (0 : Int32) then (k_X13_manyRecords_128 rc l1 l2 l3 l6 l4 r3.2)
 else ((rc.1 (r3.2.1 959 (l1.toNatClampNeg)) (l6 - (1 : Int32)) r3.2).bind (fun r4 =>
 (f_X13_mulFar r4.1 r3.1 r4.2).bind (fun r5 =>
 k_X13_manyRecords_128 rc l1 l2 l3 l6 (f_X13_addFar l4 r5 r4.2) r4.2))))
else none)
set_option maxRecDepth 4000 in
set_option maxHeartbeats 1000000 in
theorem B_X13_manyRecords_68 {D : va_G} {cy : Nat → ClassId} {ad : Nat → Nat} {bs : Nat} {X : State → Heap → Prop} (rc : RT_X13_manyAt) {k : Nat} (H : RH_X13_manyAt rc k) (l1 : Int32) (l2 : Int32) (l3 : Int32) (l4 : Int64) (l6 : Int32) (s : t_S) (Q : (Int32 × Int32 × Int32 × Int64 × Int32 × t_S) ⊕ (Int64 × t_S) → Prop) (Hb68 : ∀ (y0 : Int32) (y1 : Int32) (y2 : Int32) (y3 : Int64) (y4 : Int32) (y5 : t_S), Q (.inl (y0, y1, y2, y3, y4, y5)) → mj_G D cy ad bs X cX13_manyRecords 9 yX13_manyRecords.cls (some .long) yX13_manyRecords.name (2 + (k + 1)) 0 0 1065 (t_P (fun v s' => ∃ x, v = some (.long x) ∧ Q (.inr ((x, s'))))) 68 [(0, .ref 950), (1, .int (y0)), (2, .int (y1)), (3, .int (y2)), (4, .long (y3)), (6, .int (y4))] [] (t_m y5) 1065 0 0) (hk : t_hk (k_X13_manyRecords_68 rc l1 l2 l3 l4 l6 s) Q) : mj_G D cy ad bs X cX13_manyRecords 9 yX13_manyRecords.cls (some .long) yX13_manyRecords.name (2 + (k + 1)) 0 0 1065 (t_P (fun v s' => ∃ x, v = some (.long x) ∧ Q (.inr ((x, s'))))) 68 [(0, .ref 950), (1, .int l1), (2, .int l2), (3, .int l3), (4, .long l4), (6, .int l6)] [] (t_m s) 1065 0 0 := by
  refine mj_iload dX13_manyRecords_68 5 rfl ?_
  refine mj_iload_n dX13_manyRecords_70 2 rfl ?_
  refine mj_icmp_gt 136 dX13_manyRecords_71 (by decide) (fun z => t_posK hk z (fun hk => ?_)) (fun z => t_negK hk z (fun hk => ?_))
  · refine t_mapK hk (fun hk => ?_)
    refine mj_aload_n dX13_manyRecords_136 0 rfl ?_
    refine t_getR 1018 dX13_manyRecords_137 F_X13_220 qr_950_116 ?_
    refine mj_iload_n dX13_manyRecords_140 3 rfl ?_
    refine mj_iconst (v := 1) dX13_manyRecords_141 (by decide) ?_
    refine t_chkK hk (fun c0 hk => ?_)
    refine t_zastK dX13_manyRecords_142 qa_1018 (t_ixv c0) (by decide) (fun s1 ws1 => t_letE hk ws1 (fun hk => ?_))
    refine mj_aload_n dX13_manyRecords_143 0 rfl ?_
    refine t_getR 1017 dX13_manyRecords_144 F_X13_217 qr_950_115 ?_
    refine mj_iload_n dX13_manyRecords_147 3 rfl ?_
    refine mj_lload dX13_manyRecords_148 4 rfl ?_
    refine t_lastK dX13_manyRecords_150 qa_1017 (t_ixv c0) (fun s2 ws2 => t_letE hk ws2 (fun hk => ?_))
    refine mj_lload dX13_manyRecords_151 4 rfl ?_
    exact t_somK hk (fun hf => t_lret dX13_manyRecords_153 rfl ⟨_, rfl, hf⟩ (Nat.le_of_ble_eq_true rfl) (Nat.le_of_ble_eq_true rfl))
  · refine mj_aload_n dX13_manyRecords_74 0 rfl ?_
    refine mj_aload_n dX13_manyRecords_75 0 rfl ?_
    refine t_getR 960 dX13_manyRecords_76 F_X13_42 qr_950_22 ?_
    refine mj_iload_n dX13_manyRecords_79 1 rfl ?_
    refine t_chkK hk (fun c1 hk => ?_)
    refine t_iald dX13_manyRecords_80 qa_960 (t_ixv c1) ?_
    refine mj_iload_n dX13_manyRecords_81 2 rfl ?_
    refine mj_iload dX13_manyRecords_82 5 rfl ?_
    refine mj_isub dX13_manyRecords_84 ?_
    refine t_bndK hk (fun r3 er3 hk => ?_)
    refine t_callSlE dX13_manyRecords_85 M_X13_manyRecords (H.2.2.1 _ _ _ _ er3) ML_X13_1112 SM_X13_manyRecords (As := [.ref 950, .int (s.1 960 (l1.toNatClampNeg)), .int (l2 - l6)]) rfl rfl (by omega) (Nat.le_of_ble_eq_true rfl) (Nat.le_of_ble_eq_true rfl) (Nat.le_of_ble_eq_true rfl) ?_
    refine mj_lstore (lv2 := [(7, .long r3.1), (0, .ref 950), (1, .int l1), (2, .int l2), (3, .int l3), (4, .long l4), (6, .int l6)]) dX13_manyRecords_88 (by decide) rfl ?_
    refine mj_lload dX13_manyRecords_90 0 rfl ?_
    refine mj_lconst (v := 0) dX13_manyRecords_92 (by decide) ?_
    refine mj_lcmp dX13_manyRecords_93 ?_
    refine mj_if_ne 102 dX13_manyRecords_94 (by decide) (fun z => t_negK hk z (fun hk => ?_)) (fun z => t_posK hk z (fun hk => ?_))
    · refine mj_aload_n dX13_manyRecords_102 1 rfl ?_
      refine mj_lload dX13_manyRecords_103 5 rfl ?_
      refine mj_aload_n dX13_manyRecords_105 1 rfl ?_
      refine mj_aload_n dX13_manyRecords_106 1 rfl ?_
      refine mj_aload_n dX13_manyRecords_107 1 rfl ?_
      refine t_getR 959 dX13_manyRecords_108 F_X13_39 qr_950_21 ?_
      refine mj_iload_n dX13_manyRecords_111 2 rfl ?_
      refine t_iald dX13_manyRecords_112 qa_959 (t_ixv c1) ?_
      refine mj_iload dX13_manyRecords_113 6 rfl ?_
      refine mj_iconst (v := 1) dX13_manyRecords_115 (by decide) ?_
      refine mj_isub dX13_manyRecords_116 ?_
      refine t_bndK hk (fun r4 er4 hk => ?_)
      refine t_callSlE dX13_manyRecords_117 M_X13_manyAt (H.1 _ _ _ _ er4) ML_X13_1108 SM_X13_manyAt (As := [.ref 950, .int (r3.2.1 959 (l1.toNatClampNeg)), .int (l6 - (1 : Int32))]) rfl rfl (by omega) (Nat.le_of_ble_eq_true rfl) (Nat.le_of_ble_eq_true rfl) (Nat.le_of_ble_eq_true rfl) ?_
      refine mj_lload dX13_manyRecords_120 0 rfl ?_
      refine t_bndK hk (fun r5 er5 hk => ?_)
      refine t_callVlP dX13_manyRecords_122 M_X13_mulFar (C_X13_mulFar _ _ _ _ er5) ML_X13_1060 IM_X13_mulFar SE_X13_mulFar qc_950 rfl (As := [.long r4.1, .long r3.1]) rfl rfl (by omega) (Nat.le_of_ble_eq_true rfl) (Nat.le_of_ble_eq_true rfl) (Nat.le_of_ble_eq_true rfl) ?_
      refine t_callVlP dX13_manyRecords_125 M_X13_addFar (C_X13_addFar _ _ _) ML_X13_1056 IM_X13_addFar SE_X13_addFar qc_950 rfl (As := [.long l4, .long r5]) rfl rfl (by omega) (Nat.le_of_ble_eq_true rfl) (Nat.le_of_ble_eq_true rfl) (Nat.le_of_ble_eq_true rfl) ?_
      refine mj_sublv [(0, .ref 950), (1, .int l1), (2, .int l2), (3, .int l3), (6, .int l6)] [1, 2, 3, 4, 6] rfl ?_
      exact B_X13_manyRecords_128 rc H _ _ _ _ _ _ _ (fun y0 y1 y2 y3 y4 y5 hx => Hb68 y0 y1 y2 y3 y4 y5 hx) hk
    · refine mj_lload dX13_manyRecords_97 5 rfl ?_
      refine mj_goto 128 dX13_manyRecords_99 (by decide) ?_
      refine mj_sublv [(0, .ref 950), (1, .int l1), (2, .int l2), (3, .int l3), (6, .int l6)] [1, 2, 3, 4, 6] rfl ?_
      exact B_X13_manyRecords_128 rc H _ _ _ _ _ _ _ (fun y0 y1 y2 y3 y4 y5 hx => Hb68 y0 y1 y2 y3 y4 y5 hx) hk
noncomputable def b_X13_manyRecords_68 (rc : RT_X13_manyAt) (x : Int32 × Int32 × Int32 × Int64 × Int32 × t_S) : Option ((Int32 × Int32 × Int32 × Int64 × Int32 × t_S) ⊕ (Int64 × t_S)) := k_X13_manyRecords_68 rc x.1 x.2.1 x.2.2.1 x.2.2.2.1 x.2.2.2.2.1 x.2.2.2.2.2
set_option maxRecDepth 4000 in
set_option maxHeartbeats 1000000 in
theorem LH_X13_manyRecords_68 {D : va_G} {cy : Nat → ClassId} {ad : Nat → Nat} {bs : Nat} {X : State → Heap → Prop} (rc : RT_X13_manyAt) {k : Nat} (H : RH_X13_manyAt rc k) : ∀ (n : Nat) (y0 : Int32) (y1 : Int32) (y2 : Int32) (y3 : Int64) (y4 : Int32) (y5 : t_S) (Q : Int64 × t_S → Prop) (hk : t_hk (t_loop (b_X13_manyRecords_68 rc) n (y0, y1, y2, y3, y4, y5)) Q), mj_G D cy ad bs X cX13_manyRecords 9 yX13_manyRecords.cls (some .long) yX13_manyRecords.name (2 + (k + 1)) 0 0 1065 (t_P (fun v s' => ∃ x, v = some (.long x) ∧ Q ((x, s')))) 68 [(0, .ref 950), (1, .int (y0)), (2, .int (y1)), (3, .int (y2)), (4, .long (y3)), (6, .int (y4))] [] (t_m y5) 1065 0 0 := by
  intro n
  induction n with
  | zero => intro y0 y1 y2 y3 y4 y5 Q hk; obtain ⟨r, hr, _⟩ := hk; cases hr
  | succ n ih =>
    intro y0 y1 y2 y3 y4 y5 Q hk
    exact B_X13_manyRecords_68 rc H y0 y1 y2 y3 y4 y5 (fun y => t_lq (b_X13_manyRecords_68 rc) n Q y) (fun y0' y1' y2' y3' y4' y5' hy => ih y0' y1' y2' y3' y4' y5' Q hy) (t_lp (b := b_X13_manyRecords_68 rc) (n := n) (x := (y0, y1, y2, y3, y4, y5)) hk)
noncomputable def k_X13_manyRecords_63 (rc : RT_X13_manyAt) (l1 : Int32) (l2 : Int32) (l3 : Int32) (k0 : Int64) (s : t_S) : Option (Int64 × t_S) :=
 t_loop (b_X13_manyRecords_68 rc) t_N (l1, l2, l3, k0, 2, s)
set_option maxRecDepth 4000 in
set_option maxHeartbeats 1000000 in
theorem B_X13_manyRecords_63 {D : va_G} {cy : Nat → ClassId} {ad : Nat → Nat} {bs : Nat} {X : State → Heap → Prop} (rc : RT_X13_manyAt) {k : Nat} (H : RH_X13_manyAt rc k) (l1 : Int32) (l2 : Int32) (l3 : Int32) (k0 : Int64) (s : t_S) (Q : Int64 × t_S → Prop) (hk : t_hk (k_X13_manyRecords_63 rc l1 l2 l3 k0 s) Q) : mj_G D cy ad bs X cX13_manyRecords 9 yX13_manyRecords.cls (some .long) yX13_manyRecords.name (2 + (k + 1)) 0 0 1065 (t_P (fun v s' => ∃ x, v = some (.long x) ∧ Q ((x, s')))) 63 [(0, .ref 950), (1, .int l1), (2, .int l2), (3, .int l3)] [.long k0] (t_m s) 1065 0 0 := by
  refine mj_lstore (lv2 := [(4, .long k0), (0, .ref 950), (1, .int l1), (2, .int l2), (3, .int l3)]) dX13_manyRecords_63 (by decide) rfl ?_
  refine mj_iconst (v := 2) dX13_manyRecords_65 (by decide) ?_
  refine mj_istore (lv2 := [(6, .int 2), (4, .long k0), (0, .ref 950), (1, .int l1), (2, .int l2), (3, .int l3)]) dX13_manyRecords_66 (by decide) rfl ?_
  refine mj_sublv [(0, .ref 950), (1, .int l1), (2, .int l2), (3, .int l3), (4, .long k0), (6, .int 2)] [2, 3, 4, 5, 1, 0] rfl ?_
  exact LH_X13_manyRecords_68 rc H _ l1 l2 l3 k0 2 s _ hk
noncomputable def m_X13_manyRecords (rc : RT_X13_manyAt) (x2 : Int32) (x3 : Int32) (s : t_S) : Option (Int64 × t_S) :=
 if (0 : Int32) ≤ x2 then (if t_ix (((21 : Int32) * x2) + x3) 273000 = true then
  if (s.1 1018 ((((21 : Int32) * x2) + x3).toNatClampNeg)) = (0 : Int32) then (if t_ix x2 13000 = true then
  if (lg_cmp (s.2.1 958 (x2.toNatClampNeg)) (0 : Int64)) = (0 : Int32) then (k_X13_manyRecords_63 rc x2 x3 (((21 : Int32) * x2) + x3) 0 s)
 else ((rc.2.2.1 (s.1 960 (x2.toNatClampNeg)) x3 s).bind (fun r3 =>
 k_X13_manyRecords_63 rc x2 x3 (((21 : Int32) * x2) + x3) r3.1 r3.2))
else none)
 else (some ((s.2.1 1017 ((((21 : Int32) * x2) + x3).toNatClampNeg)), s))
else none)
 else (if x3 = (0 : Int32) then (some ((1 : Int64), s))
 else (some ((0 : Int64), s)))
set_option maxRecDepth 4000 in
set_option maxHeartbeats 1000000 in
theorem E_X13_manyRecords (rc : RT_X13_manyAt) {k : Nat} (H : RH_X13_manyAt rc k) (x2 : Int32) (x3 : Int32) (s : t_S) (r : Int64 × t_S) (hr : m_X13_manyRecords rc x2 x3 s = some r) : t_C yX13_manyRecords cX13_manyRecords 9 (some .long) (2 + (k + 1)) [.ref 950, .int x2, .int x3] s (fun v s' => v = some (.long r.1) ∧ s' = r.2) := by
  refine t_C.imp (P := fun v s' => ∃ x, v = some (.long x) ∧ (fun q => q = r) ((x, s'))) (t_C.of (by decide +kernel) (Nat.le_of_ble_eq_true rfl) ?_) (fun v s' hp => by obtain ⟨x, rfl, rfl⟩ := hp; exact ⟨rfl, rfl⟩)
  intro D cy ad bs X
  have hk : t_hk (m_X13_manyRecords rc x2 x3 s) (fun q => q = r) := ⟨r, hr, rfl⟩
  show mj_G D cy ad bs X cX13_manyRecords 9 yX13_manyRecords.cls (some .long) yX13_manyRecords.name (2 + (k + 1)) 0 0 1065 (t_P (fun v s' => ∃ x, v = some (.long x) ∧ (fun q => q = r) ((x, s')))) 0 [(0, .ref 950), (1, .int x2), (2, .int x3)] [] (t_m s) 1065 0 0
  refine mj_iload_n dX13_manyRecords_0 1 rfl ?_
  refine mj_if_ge 14 dX13_manyRecords_1 (by decide) (fun z => t_posK hk z (fun hk => ?_)) (fun z => t_negK hk z (fun hk => ?_))
  · refine mj_bipush (v := 21) dX13_manyRecords_14 (by decide) ?_
    refine mj_iload_n dX13_manyRecords_16 1 rfl ?_
    refine mj_imul dX13_manyRecords_17 ?_
    refine mj_iload_n dX13_manyRecords_18 2 rfl ?_
    refine mj_iadd dX13_manyRecords_19 ?_
    refine mj_istore_n 3 (lv2 := [(3, .int (((21 : Int32) * x2) + x3)), (0, .ref 950), (1, .int x2), (2, .int x3)]) dX13_manyRecords_20 rfl (by decide) rfl ?_
    refine mj_aload_n dX13_manyRecords_21 1 rfl ?_
    refine t_getR 1018 dX13_manyRecords_22 F_X13_220 qr_950_116 ?_
    refine mj_iload_n dX13_manyRecords_25 0 rfl ?_
    refine t_chkK hk (fun c0 hk => ?_)
    refine t_zald dX13_manyRecords_26 qa_1018 (t_ixv c0) ?_
    refine mj_if_eq 37 dX13_manyRecords_27 (by decide) (fun z => t_posK hk z (fun hk => ?_)) (fun z => t_negK hk z (fun hk => ?_))
    · refine mj_aload_n dX13_manyRecords_37 1 rfl ?_
      refine t_getR 958 dX13_manyRecords_38 F_X13_36 qr_950_20 ?_
      refine mj_iload_n dX13_manyRecords_41 2 rfl ?_
      refine t_chkK hk (fun c1 hk => ?_)
      refine t_lald dX13_manyRecords_42 qa_958 (t_ixv c1) ?_
      refine mj_lconst (v := 0) dX13_manyRecords_43 (by decide) ?_
      refine mj_lcmp dX13_manyRecords_44 ?_
      refine mj_if_eq 62 dX13_manyRecords_45 (by decide) (fun z => t_posK hk z (fun hk => ?_)) (fun z => t_negK hk z (fun hk => ?_))
      · refine mj_lconst (v := 0) dX13_manyRecords_62 (by decide) ?_
        refine mj_sublv [(0, .ref 950), (1, .int x2), (2, .int x3), (3, .int (((21 : Int32) * x2) + x3))] [1, 2, 3, 0] rfl ?_
        exact B_X13_manyRecords_63 rc H _ _ _ _ _ _ hk
      · refine mj_aload_n dX13_manyRecords_48 1 rfl ?_
        refine mj_aload_n dX13_manyRecords_49 1 rfl ?_
        refine t_getR 960 dX13_manyRecords_50 F_X13_42 qr_950_22 ?_
        refine mj_iload_n dX13_manyRecords_53 2 rfl ?_
        refine t_iald dX13_manyRecords_54 qa_960 (t_ixv c1) ?_
        refine mj_iload_n dX13_manyRecords_55 3 rfl ?_
        refine t_bndK hk (fun r3 er3 hk => ?_)
        refine t_callSlE dX13_manyRecords_56 M_X13_manyRecords (H.2.2.1 _ _ _ _ er3) ML_X13_1112 SM_X13_manyRecords (As := [.ref 950, .int (s.1 960 (x2.toNatClampNeg)), .int x3]) rfl rfl (by omega) (Nat.le_of_ble_eq_true rfl) (Nat.le_of_ble_eq_true rfl) (Nat.le_of_ble_eq_true rfl) ?_
        refine mj_goto 63 dX13_manyRecords_59 (by decide) ?_
        refine mj_sublv [(0, .ref 950), (1, .int x2), (2, .int x3), (3, .int (((21 : Int32) * x2) + x3))] [1, 2, 3, 0] rfl ?_
        exact B_X13_manyRecords_63 rc H _ _ _ _ _ _ hk
    · refine mj_aload_n dX13_manyRecords_30 1 rfl ?_
      refine t_getR 1017 dX13_manyRecords_31 F_X13_217 qr_950_115 ?_
      refine mj_iload_n dX13_manyRecords_34 0 rfl ?_
      refine t_lald dX13_manyRecords_35 qa_1017 (t_ixv c0) ?_
      exact t_somK hk (fun hf => t_lret dX13_manyRecords_36 rfl ⟨_, rfl, hf⟩ (Nat.le_of_ble_eq_true rfl) (Nat.le_of_ble_eq_true rfl))
  · refine mj_iload_n dX13_manyRecords_4 2 rfl ?_
    refine mj_if_ne 12 dX13_manyRecords_5 (by decide) (fun z => t_negK hk z (fun hk => ?_)) (fun z => t_posK hk z (fun hk => ?_))
    · refine mj_lconst (v := 0) dX13_manyRecords_12 (by decide) ?_
      exact t_somK hk (fun hf => t_lret dX13_manyRecords_13 rfl ⟨_, rfl, hf⟩ (Nat.le_of_ble_eq_true rfl) (Nat.le_of_ble_eq_true rfl))
    · refine mj_lconst (v := 1) dX13_manyRecords_8 (by decide) ?_
      refine mj_goto 13 dX13_manyRecords_9 (by decide) ?_
      exact t_somK hk (fun hf => t_lret dX13_manyRecords_13 rfl ⟨_, rfl, hf⟩ (Nat.le_of_ble_eq_true rfl) (Nat.le_of_ble_eq_true rfl))
noncomputable def k_X13_rowsOf_82 (rc : RT_X13_manyAt) (l1 : Int32) (l2 : Int32) (l3 : Int32) (l5 : Int32) (l8 : Int32) (k0 : Int64) (k1 : Int32) (s : t_S) : Option ((Int32 × Int32 × Int32 × Int32 × Int32 × t_S) ⊕ (Int64 × t_S)) :=
 if t_ix k1 8421 = true then
  t_let (t_setJ s 1019 (k1.toNatClampNeg) k0) (fun s1 =>
 some (.inl (l1, l2, l3, l5, (l8 + 1), s1)))
else none
set_option maxRecDepth 4000 in
set_option maxHeartbeats 1000000 in
theorem B_X13_rowsOf_82 {D : va_G} {cy : Nat → ClassId} {ad : Nat → Nat} {bs : Nat} {X : State → Heap → Prop} (rc : RT_X13_manyAt) {k : Nat} (H : RH_X13_manyAt rc k) (l1 : Int32) (l2 : Int32) (l3 : Int32) (l5 : Int32) (l8 : Int32) (k0 : Int64) (k1 : Int32) (s : t_S) (Q : (Int32 × Int32 × Int32 × Int32 × Int32 × t_S) ⊕ (Int64 × t_S) → Prop) (Hb59 : ∀ (y0 : Int32) (y1 : Int32) (y2 : Int32) (y3 : Int32) (y4 : Int32) (y5 : t_S), Q (.inl (y0, y1, y2, y3, y4, y5)) → mj_G D cy ad bs X cX13_rowsOf 13 yX13_rowsOf.cls (some .long) yX13_rowsOf.name (2 + (k + 1)) 0 0 1065 (t_P (fun v s' => ∃ x, v = some (.long x) ∧ Q (.inr ((x, s'))))) 59 [(0, .ref 950), (1, .int (y0)), (2, .int (y1)), (3, .int (y2)), (4, .ref 1019), (5, .int (y3)), (8, .int (y4))] [] (t_m y5) 1065 0 0) (hk : t_hk (k_X13_rowsOf_82 rc l1 l2 l3 l5 l8 k0 k1 s) Q) : mj_G D cy ad bs X cX13_rowsOf 13 yX13_rowsOf.cls (some .long) yX13_rowsOf.name (2 + (k + 1)) 0 0 1065 (t_P (fun v s' => ∃ x, v = some (.long x) ∧ Q (.inr ((x, s'))))) 82 [(0, .ref 950), (1, .int l1), (2, .int l2), (3, .int l3), (4, .ref 1019), (5, .int l5), (8, .int l8)] [.long k0, .int k1, .ref 1019] (t_m s) 1065 0 0 := by
  refine t_chkK hk (fun c0 hk => ?_)
  refine t_lastK dX13_rowsOf_82 qa_1019 (t_ixv c0) (fun s1 ws1 => t_letE hk ws1 (fun hk => ?_))
  refine mj_iinc (k := 6) (v := (l8 + 1)) (lv2 := [(8, .int (l8 + 1)), (0, .ref 950), (1, .int l1), (2, .int l2), (3, .int l3), (4, .ref 1019), (5, .int l5)]) dX13_rowsOf_83 rfl rfl (by decide) rfl ?_
  refine mj_goto 59 dX13_rowsOf_86 (by decide) ?_
  refine mj_sublv [(0, .ref 950), (1, .int l1), (2, .int l2), (3, .int l3), (4, .ref 1019), (5, .int l5), (8, .int (l8 + 1))] [1, 2, 3, 4, 5, 6, 0] rfl ?_
  exact t_somK hk (fun hf => Hb59 l1 l2 l3 l5 (l8 + 1) s1 hf)
noncomputable def k_X13_rowsOf_212 (rc : RT_X13_manyAt) (l5 : Int32) (l6 : Int64) (s : t_S) : Option (Int64 × t_S) :=
 t_let (t_setI s 950 119 l5) (fun s1 =>
 some (l6, s1))
set_option maxRecDepth 4000 in
set_option maxHeartbeats 1000000 in
theorem B_X13_rowsOf_212 {D : va_G} {cy : Nat → ClassId} {ad : Nat → Nat} {bs : Nat} {X : State → Heap → Prop} (rc : RT_X13_manyAt) {k : Nat} (H : RH_X13_manyAt rc k) (l5 : Int32) (l6 : Int64) (s : t_S) (Q : Int64 × t_S → Prop) (hk : t_hk (k_X13_rowsOf_212 rc l5 l6 s) Q) : mj_G D cy ad bs X cX13_rowsOf 13 yX13_rowsOf.cls (some .long) yX13_rowsOf.name (2 + (k + 1)) 0 0 1065 (t_P (fun v s' => ∃ x, v = some (.long x) ∧ Q ((x, s')))) 212 [(0, .ref 950), (5, .int l5), (6, .long l6)] [] (t_m s) 1065 0 0 := by
  refine mj_aload_n dX13_rowsOf_212 0 rfl ?_
  refine mj_iload dX13_rowsOf_213 1 rfl ?_
  refine t_putIK dX13_rowsOf_215 F_X13_1122 qf_950_119 rfl (fun s1 ws1 => t_letE hk ws1 (fun hk => ?_))
  refine mj_lload dX13_rowsOf_218 2 rfl ?_
  exact t_somK hk (fun hf => t_lret dX13_rowsOf_220 rfl ⟨_, rfl, hf⟩ (Nat.le_of_ble_eq_true rfl) (Nat.le_of_ble_eq_true rfl))
noncomputable def k_X13_rowsOf_173 (rc : RT_X13_manyAt) (l1 : Int32) (l2 : Int32) (l3 : Int32) (l5 : Int32) (l8 : Int32) (l9 : Int32) (l12 : Int32) (k0 : Int64) (s : t_S) : Option ((Int32 × Int32 × Int32 × Int32 × Int32 × Int32 × Int64 × Int32 × t_S) ⊕ ((Int32 × Int32 × Int32 × Int32 × Int32 × Int32 × t_S) ⊕ ((Int32 × Int32 × Int32 × Int32 × Int32 × t_S) ⊕ (Int64 × t_S)))) :=
 some (.inl (l1, l2, l3, l5, l8, l9, k0, (l12 + 1), s))
set_option maxRecDepth 4000 in
set_option maxHeartbeats 1000000 in
theorem B_X13_rowsOf_173 {D : va_G} {cy : Nat → ClassId} {ad : Nat → Nat} {bs : Nat} {X : State → Heap → Prop} (rc : RT_X13_manyAt) {k : Nat} (H : RH_X13_manyAt rc k) (l1 : Int32) (l2 : Int32) (l3 : Int32) (l5 : Int32) (l8 : Int32) (l9 : Int32) (l12 : Int32) (k0 : Int64) (s : t_S) (Q : (Int32 × Int32 × Int32 × Int32 × Int32 × Int32 × Int64 × Int32 × t_S) ⊕ ((Int32 × Int32 × Int32 × Int32 × Int32 × Int32 × t_S) ⊕ ((Int32 × Int32 × Int32 × Int32 × Int32 × t_S) ⊕ (Int64 × t_S))) → Prop) (Hb92 : ∀ (y0 : Int32) (y1 : Int32) (y2 : Int32) (y3 : Int32) (y4 : Int32) (y5 : t_S), Q (.inr (.inr (.inl (y0, y1, y2, y3, y4, y5)))) → mj_G D cy ad bs X cX13_rowsOf 13 yX13_rowsOf.cls (some .long) yX13_rowsOf.name (2 + (k + 1)) 0 0 1065 (t_P (fun v s' => ∃ x, v = some (.long x) ∧ Q (.inr (.inr (.inr ((x, s'))))))) 92 [(0, .ref 950), (1, .int (y0)), (2, .int (y1)), (3, .int (y2)), (4, .ref 1019), (5, .int (y3)), (8, .int (y4))] [] (t_m y5) 1065 0 0) (Hb101 : ∀ (y0 : Int32) (y1 : Int32) (y2 : Int32) (y3 : Int32) (y4 : Int32) (y5 : Int32) (y6 : t_S), Q (.inr (.inl (y0, y1, y2, y3, y4, y5, y6))) → mj_G D cy ad bs X cX13_rowsOf 13 yX13_rowsOf.cls (some .long) yX13_rowsOf.name (2 + (k + 1)) 0 0 1065 (t_P (fun v s' => ∃ x, v = some (.long x) ∧ Q (.inr (.inr (.inr ((x, s'))))))) 101 [(0, .ref 950), (1, .int (y0)), (2, .int (y1)), (3, .int (y2)), (4, .ref 1019), (5, .int (y3)), (8, .int (y4)), (9, .int (y5))] [] (t_m y6) 1065 0 0) (Hb112 : ∀ (y0 : Int32) (y1 : Int32) (y2 : Int32) (y3 : Int32) (y4 : Int32) (y5 : Int32) (y6 : Int64) (y7 : Int32) (y8 : t_S), Q (.inl (y0, y1, y2, y3, y4, y5, y6, y7, y8)) → mj_G D cy ad bs X cX13_rowsOf 13 yX13_rowsOf.cls (some .long) yX13_rowsOf.name (2 + (k + 1)) 0 0 1065 (t_P (fun v s' => ∃ x, v = some (.long x) ∧ Q (.inr (.inr (.inr ((x, s'))))))) 112 [(0, .ref 950), (1, .int (y0)), (2, .int (y1)), (3, .int (y2)), (4, .ref 1019), (5, .int (y3)), (8, .int (y4)), (9, .int (y5)), (10, .long (y6)), (12, .int (y7))] [] (t_m y8) 1065 0 0) (hk : t_hk (k_X13_rowsOf_173 rc l1 l2 l3 l5 l8 l9 l12 k0 s) Q) : mj_G D cy ad bs X cX13_rowsOf 13 yX13_rowsOf.cls (some .long) yX13_rowsOf.name (2 + (k + 1)) 0 0 1065 (t_P (fun v s' => ∃ x, v = some (.long x) ∧ Q (.inr (.inr (.inr ((x, s'))))))) 173 [(0, .ref 950), (1, .int l1), (2, .int l2), (3, .int l3), (4, .ref 1019), (5, .int l5), (8, .int l8), (9, .int l9), (12, .int l12)] [.long k0] (t_m s) 1065 0 0 := by
  refine mj_lstore (lv2 := [(10, .long k0), (0, .ref 950), (1, .int l1), (2, .int l2), (3, .int l3), (4, .ref 1019), (5, .int l5), (8, .int l8), (9, .int l9), (12, .int l12)]) dX13_rowsOf_173 (by decide) rfl ?_
  refine mj_iinc (k := 9) (v := (l12 + 1)) (lv2 := [(12, .int (l12 + 1)), (10, .long k0), (0, .ref 950), (1, .int l1), (2, .int l2), (3, .int l3), (4, .ref 1019), (5, .int l5), (8, .int l8), (9, .int l9)]) dX13_rowsOf_175 rfl rfl (by decide) rfl ?_
  refine mj_goto 112 dX13_rowsOf_178 (by decide) ?_
  refine mj_sublv [(0, .ref 950), (1, .int l1), (2, .int l2), (3, .int l3), (4, .ref 1019), (5, .int l5), (8, .int l8), (9, .int l9), (10, .long k0), (12, .int (l12 + 1))] [2, 3, 4, 5, 6, 7, 8, 9, 1, 0] rfl ?_
  exact t_somK hk (fun hf => Hb112 l1 l2 l3 l5 l8 l9 k0 (l12 + 1) s hf)
noncomputable def k_X13_rowsOf_112 (rc : RT_X13_manyAt) (l1 : Int32) (l2 : Int32) (l3 : Int32) (l5 : Int32) (l8 : Int32) (l9 : Int32) (l10 : Int64) (l12 : Int32) (s : t_S) : Option ((Int32 × Int32 × Int32 × Int32 × Int32 × Int32 × Int64 × Int32 × t_S) ⊕ ((Int32 × Int32 × Int32 × Int32 × Int32 × Int32 × t_S) ⊕ ((Int32 × Int32 × Int32 × Int32 × Int32 × t_S) ⊕ (Int64 × t_S)))) :=
 if l9 < l12 then ((if t_ix (l5 + l9) 8421 = true then
  t_let (t_setJ s 1019 ((l5 + l9).toNatClampNeg) l10) (fun s1 =>
 some (.inl (l1, l2, l3, l5, l8, (l9 + (-1)), s1)))
else none).map Sum.inr)
 else (if t_ix ((l5 + l9) - l12) 8421 = true then
  if (lg_cmp (s.2.1 1019 (((l5 + l9) - l12).toNatClampNeg)) (0 : Int64)) = (0 : Int32) then (k_X13_rowsOf_173 rc l1 l2 l3 l5 l8 l9 l12 l10 s)
 else (if t_ix l1 13000 = true then
  (rc.1 (s.1 959 (l1.toNatClampNeg)) l12 s).bind (fun r4 =>
 (f_X13_mulFar r4.1 (r4.2.2.1 1019 (((l5 + l9) - l12).toNatClampNeg)) r4.2).bind (fun r5 =>
 k_X13_rowsOf_173 rc l1 l2 l3 l5 l8 l9 l12 (f_X13_addFar l10 r5 r4.2) r4.2))
else none)
else none)
set_option maxRecDepth 4000 in
set_option maxHeartbeats 1000000 in
theorem B_X13_rowsOf_112 {D : va_G} {cy : Nat → ClassId} {ad : Nat → Nat} {bs : Nat} {X : State → Heap → Prop} (rc : RT_X13_manyAt) {k : Nat} (H : RH_X13_manyAt rc k) (l1 : Int32) (l2 : Int32) (l3 : Int32) (l5 : Int32) (l8 : Int32) (l9 : Int32) (l10 : Int64) (l12 : Int32) (s : t_S) (Q : (Int32 × Int32 × Int32 × Int32 × Int32 × Int32 × Int64 × Int32 × t_S) ⊕ ((Int32 × Int32 × Int32 × Int32 × Int32 × Int32 × t_S) ⊕ ((Int32 × Int32 × Int32 × Int32 × Int32 × t_S) ⊕ (Int64 × t_S))) → Prop) (Hb92 : ∀ (y0 : Int32) (y1 : Int32) (y2 : Int32) (y3 : Int32) (y4 : Int32) (y5 : t_S), Q (.inr (.inr (.inl (y0, y1, y2, y3, y4, y5)))) → mj_G D cy ad bs X cX13_rowsOf 13 yX13_rowsOf.cls (some .long) yX13_rowsOf.name (2 + (k + 1)) 0 0 1065 (t_P (fun v s' => ∃ x, v = some (.long x) ∧ Q (.inr (.inr (.inr ((x, s'))))))) 92 [(0, .ref 950), (1, .int (y0)), (2, .int (y1)), (3, .int (y2)), (4, .ref 1019), (5, .int (y3)), (8, .int (y4))] [] (t_m y5) 1065 0 0) (Hb101 : ∀ (y0 : Int32) (y1 : Int32) (y2 : Int32) (y3 : Int32) (y4 : Int32) (y5 : Int32) (y6 : t_S), Q (.inr (.inl (y0, y1, y2, y3, y4, y5, y6))) → mj_G D cy ad bs X cX13_rowsOf 13 yX13_rowsOf.cls (some .long) yX13_rowsOf.name (2 + (k + 1)) 0 0 1065 (t_P (fun v s' => ∃ x, v = some (.long x) ∧ Q (.inr (.inr (.inr ((x, s'))))))) 101 [(0, .ref 950), (1, .int (y0)), (2, .int (y1)), (3, .int (y2)), (4, .ref 1019), (5, .int (y3)), (8, .int (y4)), (9, .int (y5))] [] (t_m y6) 1065 0 0) (Hb112 : ∀ (y0 : Int32) (y1 : Int32) (y2 : Int32) (y3 : Int32) (y4 : Int32) (y5 : Int32) (y6 : Int64) (y7 : Int32) (y8 : t_S), Q (.inl (y0, y1, y2, y3, y4, y5, y6, y7, y8)) → mj_G D cy ad bs X cX13_rowsOf 13 yX13_rowsOf.cls (some .long) yX13_rowsOf.name (2 + (k + 1)) 0 0 1065 (t_P (fun v s' => ∃ x, v = some (.long x) ∧ Q (.inr (.inr (.inr ((x, s'))))))) 112 [(0, .ref 950), (1, .int (y0)), (2, .int (y1)), (3, .int (y2)), (4, .ref 1019), (5, .int (y3)), (8, .int (y4)), (9, .int (y5)), (10, .long (y6)), (12, .int (y7))] [] (t_m y8) 1065 0 0) (hk : t_hk (k_X13_rowsOf_112 rc l1 l2 l3 l5 l8 l9 l10 l12 s) Q) : mj_G D cy ad bs X cX13_rowsOf 13 yX13_rowsOf.cls (some .long) yX13_rowsOf.name (2 + (k + 1)) 0 0 1065 (t_P (fun v s' => ∃ x, v = some (.long x) ∧ Q (.inr (.inr (.inr ((x, s'))))))) 112 [(0, .ref 950), (1, .int l1), (2, .int l2), (3, .int l3), (4, .ref 1019), (5, .int l5), (8, .int l8), (9, .int l9), (10, .long l10), (12, .int l12)] [] (t_m s) 1065 0 0 := by
  refine mj_iload dX13_rowsOf_112 9 rfl ?_
  refine mj_iload dX13_rowsOf_114 7 rfl ?_
  refine mj_icmp_gt 181 dX13_rowsOf_116 (by decide) (fun z => t_posK hk z (fun hk => ?_)) (fun z => t_negK hk z (fun hk => ?_))
  · refine t_mapK hk (fun hk => ?_)
    refine mj_aload dX13_rowsOf_181 4 rfl ?_
    refine mj_iload dX13_rowsOf_183 5 rfl ?_
    refine mj_iload dX13_rowsOf_185 7 rfl ?_
    refine mj_iadd dX13_rowsOf_187 ?_
    refine mj_lload dX13_rowsOf_188 8 rfl ?_
    refine t_chkK hk (fun c0 hk => ?_)
    refine t_lastK dX13_rowsOf_190 qa_1019 (t_ixv c0) (fun s1 ws1 => t_letE hk ws1 (fun hk => ?_))
    refine mj_iinc (k := 7) (v := (l9 + (-1))) (lv2 := [(9, .int (l9 + (-1))), (0, .ref 950), (1, .int l1), (2, .int l2), (3, .int l3), (4, .ref 1019), (5, .int l5), (8, .int l8), (10, .long l10), (12, .int l12)]) dX13_rowsOf_191 rfl rfl (by decide) rfl ?_
    refine mj_goto 101 dX13_rowsOf_194 (by decide) ?_
    refine mj_sublv [(0, .ref 950), (1, .int l1), (2, .int l2), (3, .int l3), (4, .ref 1019), (5, .int l5), (8, .int l8), (9, .int (l9 + (-1)))] [1, 2, 3, 4, 5, 6, 7, 0] rfl ?_
    exact t_somK hk (fun hf => Hb101 l1 l2 l3 l5 l8 (l9 + (-1)) s1 hf)
  · refine mj_aload dX13_rowsOf_119 4 rfl ?_
    refine mj_iload dX13_rowsOf_121 5 rfl ?_
    refine mj_iload dX13_rowsOf_123 7 rfl ?_
    refine mj_iadd dX13_rowsOf_125 ?_
    refine mj_iload dX13_rowsOf_126 9 rfl ?_
    refine mj_isub dX13_rowsOf_128 ?_
    refine t_chkK hk (fun c1 hk => ?_)
    refine t_lald dX13_rowsOf_129 qa_1019 (t_ixv c1) ?_
    refine mj_lconst (v := 0) dX13_rowsOf_130 (by decide) ?_
    refine mj_lcmp dX13_rowsOf_131 ?_
    refine mj_if_ne 140 dX13_rowsOf_132 (by decide) (fun z => t_negK hk z (fun hk => ?_)) (fun z => t_posK hk z (fun hk => ?_))
    · refine mj_aload_n dX13_rowsOf_140 0 rfl ?_
      refine mj_lload dX13_rowsOf_141 8 rfl ?_
      refine mj_aload_n dX13_rowsOf_143 0 rfl ?_
      refine mj_aload_n dX13_rowsOf_144 0 rfl ?_
      refine mj_aload_n dX13_rowsOf_145 0 rfl ?_
      refine t_getR 959 dX13_rowsOf_146 F_X13_39 qr_950_21 ?_
      refine mj_iload_n dX13_rowsOf_149 1 rfl ?_
      refine t_chkK hk (fun c2 hk => ?_)
      refine t_iald dX13_rowsOf_150 qa_959 (t_ixv c2) ?_
      refine mj_iload dX13_rowsOf_151 9 rfl ?_
      refine t_bndK hk (fun r4 er4 hk => ?_)
      refine t_callSlE dX13_rowsOf_153 M_X13_manyAt (H.1 _ _ _ _ er4) ML_X13_1108 SM_X13_manyAt (As := [.ref 950, .int (s.1 959 (l1.toNatClampNeg)), .int l12]) rfl rfl (by omega) (Nat.le_of_ble_eq_true rfl) (Nat.le_of_ble_eq_true rfl) (Nat.le_of_ble_eq_true rfl) ?_
      refine mj_aload dX13_rowsOf_156 4 rfl ?_
      refine mj_iload dX13_rowsOf_158 5 rfl ?_
      refine mj_iload dX13_rowsOf_160 7 rfl ?_
      refine mj_iadd dX13_rowsOf_162 ?_
      refine mj_iload dX13_rowsOf_163 9 rfl ?_
      refine mj_isub dX13_rowsOf_165 ?_
      refine t_lald dX13_rowsOf_166 qa_1019 (t_ixv c1) ?_
      refine t_bndK hk (fun r5 er5 hk => ?_)
      refine t_callVlP dX13_rowsOf_167 M_X13_mulFar (C_X13_mulFar _ _ _ _ er5) ML_X13_1060 IM_X13_mulFar SE_X13_mulFar qc_950 rfl (As := [.long r4.1, .long (r4.2.2.1 1019 (((l5 + l9) - l12).toNatClampNeg))]) rfl rfl (by omega) (Nat.le_of_ble_eq_true rfl) (Nat.le_of_ble_eq_true rfl) (Nat.le_of_ble_eq_true rfl) ?_
      refine t_callVlP dX13_rowsOf_170 M_X13_addFar (C_X13_addFar _ _ _) ML_X13_1056 IM_X13_addFar SE_X13_addFar qc_950 rfl (As := [.long l10, .long r5]) rfl rfl (by omega) (Nat.le_of_ble_eq_true rfl) (Nat.le_of_ble_eq_true rfl) (Nat.le_of_ble_eq_true rfl) ?_
      refine mj_sublv [(0, .ref 950), (1, .int l1), (2, .int l2), (3, .int l3), (4, .ref 1019), (5, .int l5), (8, .int l8), (9, .int l9), (12, .int l12)] [0, 1, 2, 3, 4, 5, 6, 7, 9] rfl ?_
      exact B_X13_rowsOf_173 rc H _ _ _ _ _ _ _ _ _ _ (fun y0 y1 y2 y3 y4 y5 hx => Hb92 y0 y1 y2 y3 y4 y5 hx) (fun y0 y1 y2 y3 y4 y5 y6 hx => Hb101 y0 y1 y2 y3 y4 y5 y6 hx) (fun y0 y1 y2 y3 y4 y5 y6 y7 y8 hx => Hb112 y0 y1 y2 y3 y4 y5 y6 y7 y8 hx) hk
    · refine mj_lload dX13_rowsOf_135 8 rfl ?_
      refine mj_goto 173 dX13_rowsOf_137 (by decide) ?_
      refine mj_sublv [(0, .ref 950), (1, .int l1), (2, .int l2), (3, .int l3), (4, .ref 1019), (5, .int l5), (8, .int l8), (9, .int l9), (12, .int l12)] [0, 1, 2, 3, 4, 5, 6, 7, 9] rfl ?_
      exact B_X13_rowsOf_173 rc H _ _ _ _ _ _ _ _ _ _ (fun y0 y1 y2 y3 y4 y5 hx => Hb92 y0 y1 y2 y3 y4 y5 hx) (fun y0 y1 y2 y3 y4 y5 y6 hx => Hb101 y0 y1 y2 y3 y4 y5 y6 hx) (fun y0 y1 y2 y3 y4 y5 y6 y7 y8 hx => Hb112 y0 y1 y2 y3 y4 y5 y6 y7 y8 hx) hk
noncomputable def b_X13_rowsOf_112 (rc : RT_X13_manyAt) (x : Int32 × Int32 × Int32 × Int32 × Int32 × Int32 × Int64 × Int32 × t_S) : Option ((Int32 × Int32 × Int32 × Int32 × Int32 × Int32 × Int64 × Int32 × t_S) ⊕ ((Int32 × Int32 × Int32 × Int32 × Int32 × Int32 × t_S) ⊕ ((Int32 × Int32 × Int32 × Int32 × Int32 × t_S) ⊕ (Int64 × t_S)))) := k_X13_rowsOf_112 rc x.1 x.2.1 x.2.2.1 x.2.2.2.1 x.2.2.2.2.1 x.2.2.2.2.2.1 x.2.2.2.2.2.2.1 x.2.2.2.2.2.2.2.1 x.2.2.2.2.2.2.2.2
set_option maxRecDepth 4000 in
set_option maxHeartbeats 1000000 in
theorem LH_X13_rowsOf_112 {D : va_G} {cy : Nat → ClassId} {ad : Nat → Nat} {bs : Nat} {X : State → Heap → Prop} (rc : RT_X13_manyAt) {k : Nat} (H : RH_X13_manyAt rc k) : ∀ (n : Nat) (y0 : Int32) (y1 : Int32) (y2 : Int32) (y3 : Int32) (y4 : Int32) (y5 : Int32) (y6 : Int64) (y7 : Int32) (y8 : t_S) (Q : (Int32 × Int32 × Int32 × Int32 × Int32 × Int32 × t_S) ⊕ ((Int32 × Int32 × Int32 × Int32 × Int32 × t_S) ⊕ (Int64 × t_S)) → Prop) (Hb92 : ∀ (y0 : Int32) (y1 : Int32) (y2 : Int32) (y3 : Int32) (y4 : Int32) (y5 : t_S), Q (.inr (.inl (y0, y1, y2, y3, y4, y5))) → mj_G D cy ad bs X cX13_rowsOf 13 yX13_rowsOf.cls (some .long) yX13_rowsOf.name (2 + (k + 1)) 0 0 1065 (t_P (fun v s' => ∃ x, v = some (.long x) ∧ Q (.inr (.inr ((x, s')))))) 92 [(0, .ref 950), (1, .int (y0)), (2, .int (y1)), (3, .int (y2)), (4, .ref 1019), (5, .int (y3)), (8, .int (y4))] [] (t_m y5) 1065 0 0) (Hb101 : ∀ (y0 : Int32) (y1 : Int32) (y2 : Int32) (y3 : Int32) (y4 : Int32) (y5 : Int32) (y6 : t_S), Q (.inl (y0, y1, y2, y3, y4, y5, y6)) → mj_G D cy ad bs X cX13_rowsOf 13 yX13_rowsOf.cls (some .long) yX13_rowsOf.name (2 + (k + 1)) 0 0 1065 (t_P (fun v s' => ∃ x, v = some (.long x) ∧ Q (.inr (.inr ((x, s')))))) 101 [(0, .ref 950), (1, .int (y0)), (2, .int (y1)), (3, .int (y2)), (4, .ref 1019), (5, .int (y3)), (8, .int (y4)), (9, .int (y5))] [] (t_m y6) 1065 0 0) (hk : t_hk (t_loop (b_X13_rowsOf_112 rc) n (y0, y1, y2, y3, y4, y5, y6, y7, y8)) Q), mj_G D cy ad bs X cX13_rowsOf 13 yX13_rowsOf.cls (some .long) yX13_rowsOf.name (2 + (k + 1)) 0 0 1065 (t_P (fun v s' => ∃ x, v = some (.long x) ∧ Q (.inr (.inr ((x, s')))))) 112 [(0, .ref 950), (1, .int (y0)), (2, .int (y1)), (3, .int (y2)), (4, .ref 1019), (5, .int (y3)), (8, .int (y4)), (9, .int (y5)), (10, .long (y6)), (12, .int (y7))] [] (t_m y8) 1065 0 0 := by
  intro n
  induction n with
  | zero => intro y0 y1 y2 y3 y4 y5 y6 y7 y8 Q Hb92 Hb101 hk; obtain ⟨r, hr, _⟩ := hk; cases hr
  | succ n ih =>
    intro y0 y1 y2 y3 y4 y5 y6 y7 y8 Q Hb92 Hb101 hk
    exact B_X13_rowsOf_112 rc H y0 y1 y2 y3 y4 y5 y6 y7 y8 (fun y => t_lq (b_X13_rowsOf_112 rc) n Q y) (fun y0' y1' y2' y3' y4' y5' hy => Hb92 y0' y1' y2' y3' y4' y5' hy) (fun y0' y1' y2' y3' y4' y5' y6' hy => Hb101 y0' y1' y2' y3' y4' y5' y6' hy) (fun y0' y1' y2' y3' y4' y5' y6' y7' y8' hy => ih y0' y1' y2' y3' y4' y5' y6' y7' y8' Q Hb92 Hb101 hy) (t_lp (b := b_X13_rowsOf_112 rc) (n := n) (x := (y0, y1, y2, y3, y4, y5, y6, y7, y8)) hk)
noncomputable def k_X13_rowsOf_101 (rc : RT_X13_manyAt) (l1 : Int32) (l2 : Int32) (l3 : Int32) (l5 : Int32) (l8 : Int32) (l9 : Int32) (s : t_S) : Option ((Int32 × Int32 × Int32 × Int32 × Int32 × Int32 × t_S) ⊕ ((Int32 × Int32 × Int32 × Int32 × Int32 × t_S) ⊕ (Int64 × t_S))) :=
 if l9 < (0 : Int32) then ((some (.inl (l1, l2, l3, l5, (l8 + 1), s))).map Sum.inr)
 else (t_loop (b_X13_rowsOf_112 rc) t_N (l1, l2, l3, l5, l8, l9, 0, 1, s))
set_option maxRecDepth 4000 in
set_option maxHeartbeats 1000000 in
theorem B_X13_rowsOf_101 {D : va_G} {cy : Nat → ClassId} {ad : Nat → Nat} {bs : Nat} {X : State → Heap → Prop} (rc : RT_X13_manyAt) {k : Nat} (H : RH_X13_manyAt rc k) (l1 : Int32) (l2 : Int32) (l3 : Int32) (l5 : Int32) (l8 : Int32) (l9 : Int32) (s : t_S) (Q : (Int32 × Int32 × Int32 × Int32 × Int32 × Int32 × t_S) ⊕ ((Int32 × Int32 × Int32 × Int32 × Int32 × t_S) ⊕ (Int64 × t_S)) → Prop) (Hb92 : ∀ (y0 : Int32) (y1 : Int32) (y2 : Int32) (y3 : Int32) (y4 : Int32) (y5 : t_S), Q (.inr (.inl (y0, y1, y2, y3, y4, y5))) → mj_G D cy ad bs X cX13_rowsOf 13 yX13_rowsOf.cls (some .long) yX13_rowsOf.name (2 + (k + 1)) 0 0 1065 (t_P (fun v s' => ∃ x, v = some (.long x) ∧ Q (.inr (.inr ((x, s')))))) 92 [(0, .ref 950), (1, .int (y0)), (2, .int (y1)), (3, .int (y2)), (4, .ref 1019), (5, .int (y3)), (8, .int (y4))] [] (t_m y5) 1065 0 0) (Hb101 : ∀ (y0 : Int32) (y1 : Int32) (y2 : Int32) (y3 : Int32) (y4 : Int32) (y5 : Int32) (y6 : t_S), Q (.inl (y0, y1, y2, y3, y4, y5, y6)) → mj_G D cy ad bs X cX13_rowsOf 13 yX13_rowsOf.cls (some .long) yX13_rowsOf.name (2 + (k + 1)) 0 0 1065 (t_P (fun v s' => ∃ x, v = some (.long x) ∧ Q (.inr (.inr ((x, s')))))) 101 [(0, .ref 950), (1, .int (y0)), (2, .int (y1)), (3, .int (y2)), (4, .ref 1019), (5, .int (y3)), (8, .int (y4)), (9, .int (y5))] [] (t_m y6) 1065 0 0) (hk : t_hk (k_X13_rowsOf_101 rc l1 l2 l3 l5 l8 l9 s) Q) : mj_G D cy ad bs X cX13_rowsOf 13 yX13_rowsOf.cls (some .long) yX13_rowsOf.name (2 + (k + 1)) 0 0 1065 (t_P (fun v s' => ∃ x, v = some (.long x) ∧ Q (.inr (.inr ((x, s')))))) 101 [(0, .ref 950), (1, .int l1), (2, .int l2), (3, .int l3), (4, .ref 1019), (5, .int l5), (8, .int l8), (9, .int l9)] [] (t_m s) 1065 0 0 := by
  refine mj_iload dX13_rowsOf_101 7 rfl ?_
  refine mj_if_lt 197 dX13_rowsOf_103 (by decide) (fun z => t_posK hk z (fun hk => ?_)) (fun z => t_negK hk z (fun hk => ?_))
  · refine t_mapK hk (fun hk => ?_)
    refine mj_iinc (k := 6) (v := (l8 + 1)) (lv2 := [(8, .int (l8 + 1)), (0, .ref 950), (1, .int l1), (2, .int l2), (3, .int l3), (4, .ref 1019), (5, .int l5), (9, .int l9)]) dX13_rowsOf_197 rfl rfl (by decide) rfl ?_
    refine mj_goto 92 dX13_rowsOf_200 (by decide) ?_
    refine mj_sublv [(0, .ref 950), (1, .int l1), (2, .int l2), (3, .int l3), (4, .ref 1019), (5, .int l5), (8, .int (l8 + 1))] [1, 2, 3, 4, 5, 6, 0] rfl ?_
    exact t_somK hk (fun hf => Hb92 l1 l2 l3 l5 (l8 + 1) s hf)
  · refine mj_lconst (v := 0) dX13_rowsOf_106 (by decide) ?_
    refine mj_lstore (lv2 := [(10, .long 0), (0, .ref 950), (1, .int l1), (2, .int l2), (3, .int l3), (4, .ref 1019), (5, .int l5), (8, .int l8), (9, .int l9)]) dX13_rowsOf_107 (by decide) rfl ?_
    refine mj_iconst (v := 1) dX13_rowsOf_109 (by decide) ?_
    refine mj_istore (lv2 := [(12, .int 1), (10, .long 0), (0, .ref 950), (1, .int l1), (2, .int l2), (3, .int l3), (4, .ref 1019), (5, .int l5), (8, .int l8), (9, .int l9)]) dX13_rowsOf_110 (by decide) rfl ?_
    refine mj_sublv [(0, .ref 950), (1, .int l1), (2, .int l2), (3, .int l3), (4, .ref 1019), (5, .int l5), (8, .int l8), (9, .int l9), (10, .long 0), (12, .int 1)] [2, 3, 4, 5, 6, 7, 8, 9, 1, 0] rfl ?_
    exact LH_X13_rowsOf_112 rc H _ l1 l2 l3 l5 l8 l9 0 1 s _ (fun y0 y1 y2 y3 y4 y5 hx => Hb92 y0 y1 y2 y3 y4 y5 hx) (fun y0 y1 y2 y3 y4 y5 y6 hx => Hb101 y0 y1 y2 y3 y4 y5 y6 hx) hk
noncomputable def b_X13_rowsOf_101 (rc : RT_X13_manyAt) (x : Int32 × Int32 × Int32 × Int32 × Int32 × Int32 × t_S) : Option ((Int32 × Int32 × Int32 × Int32 × Int32 × Int32 × t_S) ⊕ ((Int32 × Int32 × Int32 × Int32 × Int32 × t_S) ⊕ (Int64 × t_S))) := k_X13_rowsOf_101 rc x.1 x.2.1 x.2.2.1 x.2.2.2.1 x.2.2.2.2.1 x.2.2.2.2.2.1 x.2.2.2.2.2.2
set_option maxRecDepth 4000 in
set_option maxHeartbeats 1000000 in
theorem LH_X13_rowsOf_101 {D : va_G} {cy : Nat → ClassId} {ad : Nat → Nat} {bs : Nat} {X : State → Heap → Prop} (rc : RT_X13_manyAt) {k : Nat} (H : RH_X13_manyAt rc k) : ∀ (n : Nat) (y0 : Int32) (y1 : Int32) (y2 : Int32) (y3 : Int32) (y4 : Int32) (y5 : Int32) (y6 : t_S) (Q : (Int32 × Int32 × Int32 × Int32 × Int32 × t_S) ⊕ (Int64 × t_S) → Prop) (Hb92 : ∀ (y0 : Int32) (y1 : Int32) (y2 : Int32) (y3 : Int32) (y4 : Int32) (y5 : t_S), Q (.inl (y0, y1, y2, y3, y4, y5)) → mj_G D cy ad bs X cX13_rowsOf 13 yX13_rowsOf.cls (some .long) yX13_rowsOf.name (2 + (k + 1)) 0 0 1065 (t_P (fun v s' => ∃ x, v = some (.long x) ∧ Q (.inr ((x, s'))))) 92 [(0, .ref 950), (1, .int (y0)), (2, .int (y1)), (3, .int (y2)), (4, .ref 1019), (5, .int (y3)), (8, .int (y4))] [] (t_m y5) 1065 0 0) (hk : t_hk (t_loop (b_X13_rowsOf_101 rc) n (y0, y1, y2, y3, y4, y5, y6)) Q), mj_G D cy ad bs X cX13_rowsOf 13 yX13_rowsOf.cls (some .long) yX13_rowsOf.name (2 + (k + 1)) 0 0 1065 (t_P (fun v s' => ∃ x, v = some (.long x) ∧ Q (.inr ((x, s'))))) 101 [(0, .ref 950), (1, .int (y0)), (2, .int (y1)), (3, .int (y2)), (4, .ref 1019), (5, .int (y3)), (8, .int (y4)), (9, .int (y5))] [] (t_m y6) 1065 0 0 := by
  intro n
  induction n with
  | zero => intro y0 y1 y2 y3 y4 y5 y6 Q Hb92 hk; obtain ⟨r, hr, _⟩ := hk; cases hr
  | succ n ih =>
    intro y0 y1 y2 y3 y4 y5 y6 Q Hb92 hk
    exact B_X13_rowsOf_101 rc H y0 y1 y2 y3 y4 y5 y6 (fun y => t_lq (b_X13_rowsOf_101 rc) n Q y) (fun y0' y1' y2' y3' y4' y5' hy => Hb92 y0' y1' y2' y3' y4' y5' hy) (fun y0' y1' y2' y3' y4' y5' y6' hy => ih y0' y1' y2' y3' y4' y5' y6' Q Hb92 hy) (t_lp (b := b_X13_rowsOf_101 rc) (n := n) (x := (y0, y1, y2, y3, y4, y5, y6)) hk)
noncomputable def k_X13_rowsOf_92 (rc : RT_X13_manyAt) (l1 : Int32) (l2 : Int32) (l3 : Int32) (l5 : Int32) (l8 : Int32) (s : t_S) : Option ((Int32 × Int32 × Int32 × Int32 × Int32 × t_S) ⊕ (Int64 × t_S)) :=
 if l2 ≤ l8 then ((if t_ix (l5 + l3) 8421 = true then
  k_X13_rowsOf_212 rc l5 (s.2.1 1019 ((l5 + l3).toNatClampNeg)) s
else none).map Sum.inr)
 else (t_loop (b_X13_rowsOf_101 rc) t_N (l1, l2, l3, l5, l8, l3, s))
set_option maxRecDepth 4000 in
set_option maxHeartbeats 1000000 in
theorem B_X13_rowsOf_92 {D : va_G} {cy : Nat → ClassId} {ad : Nat → Nat} {bs : Nat} {X : State → Heap → Prop} (rc : RT_X13_manyAt) {k : Nat} (H : RH_X13_manyAt rc k) (l1 : Int32) (l2 : Int32) (l3 : Int32) (l5 : Int32) (l8 : Int32) (s : t_S) (Q : (Int32 × Int32 × Int32 × Int32 × Int32 × t_S) ⊕ (Int64 × t_S) → Prop) (Hb92 : ∀ (y0 : Int32) (y1 : Int32) (y2 : Int32) (y3 : Int32) (y4 : Int32) (y5 : t_S), Q (.inl (y0, y1, y2, y3, y4, y5)) → mj_G D cy ad bs X cX13_rowsOf 13 yX13_rowsOf.cls (some .long) yX13_rowsOf.name (2 + (k + 1)) 0 0 1065 (t_P (fun v s' => ∃ x, v = some (.long x) ∧ Q (.inr ((x, s'))))) 92 [(0, .ref 950), (1, .int (y0)), (2, .int (y1)), (3, .int (y2)), (4, .ref 1019), (5, .int (y3)), (8, .int (y4))] [] (t_m y5) 1065 0 0) (hk : t_hk (k_X13_rowsOf_92 rc l1 l2 l3 l5 l8 s) Q) : mj_G D cy ad bs X cX13_rowsOf 13 yX13_rowsOf.cls (some .long) yX13_rowsOf.name (2 + (k + 1)) 0 0 1065 (t_P (fun v s' => ∃ x, v = some (.long x) ∧ Q (.inr ((x, s'))))) 92 [(0, .ref 950), (1, .int l1), (2, .int l2), (3, .int l3), (4, .ref 1019), (5, .int l5), (8, .int l8)] [] (t_m s) 1065 0 0 := by
  refine mj_iload dX13_rowsOf_92 6 rfl ?_
  refine mj_iload_n dX13_rowsOf_94 2 rfl ?_
  refine mj_icmp_ge 203 dX13_rowsOf_95 (by decide) (fun z => t_posK hk z (fun hk => ?_)) (fun z => t_negK hk z (fun hk => ?_))
  · refine t_mapK hk (fun hk => ?_)
    refine mj_aload dX13_rowsOf_203 4 rfl ?_
    refine mj_iload dX13_rowsOf_205 5 rfl ?_
    refine mj_iload_n dX13_rowsOf_207 3 rfl ?_
    refine mj_iadd dX13_rowsOf_208 ?_
    refine t_chkK hk (fun c0 hk => ?_)
    refine t_lald dX13_rowsOf_209 qa_1019 (t_ixv c0) ?_
    refine mj_lstore (lv2 := [(6, .long (s.2.1 1019 ((l5 + l3).toNatClampNeg))), (0, .ref 950), (1, .int l1), (2, .int l2), (3, .int l3), (4, .ref 1019), (5, .int l5), (8, .int l8)]) dX13_rowsOf_210 (by decide) rfl ?_
    refine mj_sublv [(0, .ref 950), (5, .int l5), (6, .long (s.2.1 1019 ((l5 + l3).toNatClampNeg)))] [1, 6, 0] rfl ?_
    exact B_X13_rowsOf_212 rc H _ _ _ _ hk
  · refine mj_iload_n dX13_rowsOf_98 3 rfl ?_
    refine mj_istore (lv2 := [(9, .int l3), (0, .ref 950), (1, .int l1), (2, .int l2), (3, .int l3), (4, .ref 1019), (5, .int l5), (8, .int l8)]) dX13_rowsOf_99 (by decide) rfl ?_
    refine mj_sublv [(0, .ref 950), (1, .int l1), (2, .int l2), (3, .int l3), (4, .ref 1019), (5, .int l5), (8, .int l8), (9, .int l3)] [1, 2, 3, 4, 5, 6, 7, 0] rfl ?_
    exact LH_X13_rowsOf_101 rc H _ l1 l2 l3 l5 l8 l3 s _ (fun y0 y1 y2 y3 y4 y5 hx => Hb92 y0 y1 y2 y3 y4 y5 hx) hk
noncomputable def b_X13_rowsOf_92 (rc : RT_X13_manyAt) (x : Int32 × Int32 × Int32 × Int32 × Int32 × t_S) : Option ((Int32 × Int32 × Int32 × Int32 × Int32 × t_S) ⊕ (Int64 × t_S)) := k_X13_rowsOf_92 rc x.1 x.2.1 x.2.2.1 x.2.2.2.1 x.2.2.2.2.1 x.2.2.2.2.2
set_option maxRecDepth 4000 in
set_option maxHeartbeats 1000000 in
theorem LH_X13_rowsOf_92 {D : va_G} {cy : Nat → ClassId} {ad : Nat → Nat} {bs : Nat} {X : State → Heap → Prop} (rc : RT_X13_manyAt) {k : Nat} (H : RH_X13_manyAt rc k) : ∀ (n : Nat) (y0 : Int32) (y1 : Int32) (y2 : Int32) (y3 : Int32) (y4 : Int32) (y5 : t_S) (Q : Int64 × t_S → Prop) (hk : t_hk (t_loop (b_X13_rowsOf_92 rc) n (y0, y1, y2, y3, y4, y5)) Q), mj_G D cy ad bs X cX13_rowsOf 13 yX13_rowsOf.cls (some .long) yX13_rowsOf.name (2 + (k + 1)) 0 0 1065 (t_P (fun v s' => ∃ x, v = some (.long x) ∧ Q ((x, s')))) 92 [(0, .ref 950), (1, .int (y0)), (2, .int (y1)), (3, .int (y2)), (4, .ref 1019), (5, .int (y3)), (8, .int (y4))] [] (t_m y5) 1065 0 0 := by
  intro n
  induction n with
  | zero => intro y0 y1 y2 y3 y4 y5 Q hk; obtain ⟨r, hr, _⟩ := hk; cases hr
  | succ n ih =>
    intro y0 y1 y2 y3 y4 y5 Q hk
    exact B_X13_rowsOf_92 rc H y0 y1 y2 y3 y4 y5 (fun y => t_lq (b_X13_rowsOf_92 rc) n Q y) (fun y0' y1' y2' y3' y4' y5' hy => ih y0' y1' y2' y3' y4' y5' Q hy) (t_lp (b := b_X13_rowsOf_92 rc) (n := n) (x := (y0, y1, y2, y3, y4, y5)) hk)
noncomputable def k_X13_rowsOf_59 (rc : RT_X13_manyAt) (l1 : Int32) (l2 : Int32) (l3 : Int32) (l5 : Int32) (l8 : Int32) (s : t_S) : Option ((Int32 × Int32 × Int32 × Int32 × Int32 × t_S) ⊕ (Int64 × t_S)) :=
 if l3 < l8 then ((t_loop (b_X13_rowsOf_92 rc) t_N (l1, l2, l3, l5, 0, s)).map Sum.inr)
 else (if l8 = (0 : Int32) then (k_X13_rowsOf_82 rc l1 l2 l3 l5 l8 1 (l5 + l8) s)
 else (k_X13_rowsOf_82 rc l1 l2 l3 l5 l8 0 (l5 + l8) s))
set_option maxRecDepth 4000 in
set_option maxHeartbeats 1000000 in
theorem B_X13_rowsOf_59 {D : va_G} {cy : Nat → ClassId} {ad : Nat → Nat} {bs : Nat} {X : State → Heap → Prop} (rc : RT_X13_manyAt) {k : Nat} (H : RH_X13_manyAt rc k) (l1 : Int32) (l2 : Int32) (l3 : Int32) (l5 : Int32) (l8 : Int32) (s : t_S) (Q : (Int32 × Int32 × Int32 × Int32 × Int32 × t_S) ⊕ (Int64 × t_S) → Prop) (Hb59 : ∀ (y0 : Int32) (y1 : Int32) (y2 : Int32) (y3 : Int32) (y4 : Int32) (y5 : t_S), Q (.inl (y0, y1, y2, y3, y4, y5)) → mj_G D cy ad bs X cX13_rowsOf 13 yX13_rowsOf.cls (some .long) yX13_rowsOf.name (2 + (k + 1)) 0 0 1065 (t_P (fun v s' => ∃ x, v = some (.long x) ∧ Q (.inr ((x, s'))))) 59 [(0, .ref 950), (1, .int (y0)), (2, .int (y1)), (3, .int (y2)), (4, .ref 1019), (5, .int (y3)), (8, .int (y4))] [] (t_m y5) 1065 0 0) (hk : t_hk (k_X13_rowsOf_59 rc l1 l2 l3 l5 l8 s) Q) : mj_G D cy ad bs X cX13_rowsOf 13 yX13_rowsOf.cls (some .long) yX13_rowsOf.name (2 + (k + 1)) 0 0 1065 (t_P (fun v s' => ∃ x, v = some (.long x) ∧ Q (.inr ((x, s'))))) 59 [(0, .ref 950), (1, .int l1), (2, .int l2), (3, .int l3), (4, .ref 1019), (5, .int l5), (8, .int l8)] [] (t_m s) 1065 0 0 := by
  refine mj_iload dX13_rowsOf_59 6 rfl ?_
  refine mj_iload_n dX13_rowsOf_61 3 rfl ?_
  refine mj_icmp_gt 89 dX13_rowsOf_62 (by decide) (fun z => t_posK hk z (fun hk => ?_)) (fun z => t_negK hk z (fun hk => ?_))
  · refine t_mapK hk (fun hk => ?_)
    refine mj_iconst (v := 0) dX13_rowsOf_89 (by decide) ?_
    refine mj_istore (lv2 := [(8, .int 0), (0, .ref 950), (1, .int l1), (2, .int l2), (3, .int l3), (4, .ref 1019), (5, .int l5)]) dX13_rowsOf_90 (by decide) rfl ?_
    refine mj_sublv [(0, .ref 950), (1, .int l1), (2, .int l2), (3, .int l3), (4, .ref 1019), (5, .int l5), (8, .int 0)] [1, 2, 3, 4, 5, 6, 0] rfl ?_
    exact LH_X13_rowsOf_92 rc H _ l1 l2 l3 l5 0 s _ hk
  · refine mj_aload dX13_rowsOf_65 4 rfl ?_
    refine mj_iload dX13_rowsOf_67 5 rfl ?_
    refine mj_iload dX13_rowsOf_69 6 rfl ?_
    refine mj_iadd dX13_rowsOf_71 ?_
    refine mj_iload dX13_rowsOf_72 6 rfl ?_
    refine mj_if_ne 81 dX13_rowsOf_74 (by decide) (fun z => t_negK hk z (fun hk => ?_)) (fun z => t_posK hk z (fun hk => ?_))
    · refine mj_lconst (v := 0) dX13_rowsOf_81 (by decide) ?_
      exact B_X13_rowsOf_82 rc H _ _ _ _ _ _ _ _ _ (fun y0 y1 y2 y3 y4 y5 hx => Hb59 y0 y1 y2 y3 y4 y5 hx) hk
    · refine mj_lconst (v := 1) dX13_rowsOf_77 (by decide) ?_
      refine mj_goto 82 dX13_rowsOf_78 (by decide) ?_
      exact B_X13_rowsOf_82 rc H _ _ _ _ _ _ _ _ _ (fun y0 y1 y2 y3 y4 y5 hx => Hb59 y0 y1 y2 y3 y4 y5 hx) hk
noncomputable def b_X13_rowsOf_59 (rc : RT_X13_manyAt) (x : Int32 × Int32 × Int32 × Int32 × Int32 × t_S) : Option ((Int32 × Int32 × Int32 × Int32 × Int32 × t_S) ⊕ (Int64 × t_S)) := k_X13_rowsOf_59 rc x.1 x.2.1 x.2.2.1 x.2.2.2.1 x.2.2.2.2.1 x.2.2.2.2.2
set_option maxRecDepth 4000 in
set_option maxHeartbeats 1000000 in
theorem LH_X13_rowsOf_59 {D : va_G} {cy : Nat → ClassId} {ad : Nat → Nat} {bs : Nat} {X : State → Heap → Prop} (rc : RT_X13_manyAt) {k : Nat} (H : RH_X13_manyAt rc k) : ∀ (n : Nat) (y0 : Int32) (y1 : Int32) (y2 : Int32) (y3 : Int32) (y4 : Int32) (y5 : t_S) (Q : Int64 × t_S → Prop) (hk : t_hk (t_loop (b_X13_rowsOf_59 rc) n (y0, y1, y2, y3, y4, y5)) Q), mj_G D cy ad bs X cX13_rowsOf 13 yX13_rowsOf.cls (some .long) yX13_rowsOf.name (2 + (k + 1)) 0 0 1065 (t_P (fun v s' => ∃ x, v = some (.long x) ∧ Q ((x, s')))) 59 [(0, .ref 950), (1, .int (y0)), (2, .int (y1)), (3, .int (y2)), (4, .ref 1019), (5, .int (y3)), (8, .int (y4))] [] (t_m y5) 1065 0 0 := by
  intro n
  induction n with
  | zero => intro y0 y1 y2 y3 y4 y5 Q hk; obtain ⟨r, hr, _⟩ := hk; cases hr
  | succ n ih =>
    intro y0 y1 y2 y3 y4 y5 Q hk
    exact B_X13_rowsOf_59 rc H y0 y1 y2 y3 y4 y5 (fun y => t_lq (b_X13_rowsOf_59 rc) n Q y) (fun y0' y1' y2' y3' y4' y5' hy => ih y0' y1' y2' y3' y4' y5' Q hy) (t_lp (b := b_X13_rowsOf_59 rc) (n := n) (x := (y0, y1, y2, y3, y4, y5)) hk)
noncomputable def m_X13_rowsOf (rc : RT_X13_manyAt) (x2 : Int32) (x3 : Int32) (x4 : Int32) (s : t_S) : Option (Int64 × t_S) :=
 if x3 = (0 : Int32) then (if x4 = (0 : Int32) then (some ((1 : Int64), s))
 else (some ((0 : Int64), s)))
 else (if x3 ≤ x4 then (t_let (t_setI s 950 119 ((s.1 950 119) + (21 : Int32))) (fun s1 =>
 if (8400 : Int32) < ((s.1 950 119) + (21 : Int32)) then (k_X13_rowsOf_212 rc (s.1 950 119) 0 s1)
 else (t_loop (b_X13_rowsOf_59 rc) t_N (x2, x3, x4, (s.1 950 119), 0, s1))))
 else (some ((0 : Int64), s)))
set_option maxRecDepth 4000 in
set_option maxHeartbeats 1000000 in
theorem E_X13_rowsOf (rc : RT_X13_manyAt) {k : Nat} (H : RH_X13_manyAt rc k) (x2 : Int32) (x3 : Int32) (x4 : Int32) (s : t_S) (r : Int64 × t_S) (hr : m_X13_rowsOf rc x2 x3 x4 s = some r) : t_C yX13_rowsOf cX13_rowsOf 13 (some .long) (2 + (k + 1)) [.ref 950, .int x2, .int x3, .int x4] s (fun v s' => v = some (.long r.1) ∧ s' = r.2) := by
  refine t_C.imp (P := fun v s' => ∃ x, v = some (.long x) ∧ (fun q => q = r) ((x, s'))) (t_C.of (by decide +kernel) (Nat.le_of_ble_eq_true rfl) ?_) (fun v s' hp => by obtain ⟨x, rfl, rfl⟩ := hp; exact ⟨rfl, rfl⟩)
  intro D cy ad bs X
  have hk : t_hk (m_X13_rowsOf rc x2 x3 x4 s) (fun q => q = r) := ⟨r, hr, rfl⟩
  show mj_G D cy ad bs X cX13_rowsOf 13 yX13_rowsOf.cls (some .long) yX13_rowsOf.name (2 + (k + 1)) 0 0 1065 (t_P (fun v s' => ∃ x, v = some (.long x) ∧ (fun q => q = r) ((x, s')))) 0 [(0, .ref 950), (1, .int x2), (2, .int x3), (3, .int x4)] [] (t_m s) 1065 0 0
  refine mj_iload_n dX13_rowsOf_0 2 rfl ?_
  refine mj_if_ne 14 dX13_rowsOf_1 (by decide) (fun z => t_negK hk z (fun hk => ?_)) (fun z => t_posK hk z (fun hk => ?_))
  · refine mj_iload_n dX13_rowsOf_14 3 rfl ?_
    refine mj_iload_n dX13_rowsOf_15 2 rfl ?_
    refine mj_icmp_ge 21 dX13_rowsOf_16 (by decide) (fun z => t_posK hk z (fun hk => ?_)) (fun z => t_negK hk z (fun hk => ?_))
    · refine mj_aload_n dX13_rowsOf_21 0 rfl ?_
      refine t_getR 1019 dX13_rowsOf_22 F_X13_223 qr_950_118 ?_
      refine mj_astore (lv2 := [(4, .ref 1019), (0, .ref 950), (1, .int x2), (2, .int x3), (3, .int x4)]) dX13_rowsOf_25 (by decide) rfl ?_
      refine mj_aload_n dX13_rowsOf_27 1 rfl ?_
      refine t_getI dX13_rowsOf_28 F_X13_1122 qf_950_119 ?_
      refine mj_istore (lv2 := [(5, .int (s.1 950 119)), (4, .ref 1019), (0, .ref 950), (1, .int x2), (2, .int x3), (3, .int x4)]) dX13_rowsOf_31 (by decide) rfl ?_
      refine mj_aload_n dX13_rowsOf_33 2 rfl ?_
      refine mj_iload dX13_rowsOf_34 0 rfl ?_
      refine mj_bipush (v := 21) dX13_rowsOf_36 (by decide) ?_
      refine mj_iadd dX13_rowsOf_38 ?_
      refine t_putIK dX13_rowsOf_39 F_X13_1122 qf_950_119 rfl (fun s1 ws1 => t_letE hk ws1 (fun hk => ?_))
      refine mj_lconst (v := 0) dX13_rowsOf_42 (by decide) ?_
      refine mj_lstore (lv2 := [(6, .long 0), (5, .int (s.1 950 119)), (4, .ref 1019), (0, .ref 950), (1, .int x2), (2, .int x3), (3, .int x4)]) dX13_rowsOf_43 (by decide) rfl ?_
      refine mj_iload dX13_rowsOf_45 1 rfl ?_
      refine mj_bipush (v := 21) dX13_rowsOf_47 (by decide) ?_
      refine mj_iadd dX13_rowsOf_49 ?_
      refine mj_sipush (v := 8400) dX13_rowsOf_50 (by decide) ?_
      refine mj_icmp_gt 212 dX13_rowsOf_53 (by decide) (fun z => t_posK hk z (fun hk => ?_)) (fun z => t_negK hk z (fun hk => ?_))
      · refine mj_sublv [(0, .ref 950), (5, .int (s.1 950 119)), (6, .long 0)] [3, 1, 0] rfl ?_
        exact B_X13_rowsOf_212 rc H _ _ _ _ hk
      · refine mj_iconst (v := 0) dX13_rowsOf_56 (by decide) ?_
        refine mj_istore (lv2 := [(8, .int 0), (6, .long 0), (5, .int (s.1 950 119)), (4, .ref 1019), (0, .ref 950), (1, .int x2), (2, .int x3), (3, .int x4)]) dX13_rowsOf_57 (by decide) rfl ?_
        refine mj_sublv [(0, .ref 950), (1, .int x2), (2, .int x3), (3, .int x4), (4, .ref 1019), (5, .int (s.1 950 119)), (8, .int 0)] [4, 5, 6, 7, 3, 2, 0] rfl ?_
        exact LH_X13_rowsOf_59 rc H _ x2 x3 x4 (s.1 950 119) 0 s1 _ hk
    · refine mj_lconst (v := 0) dX13_rowsOf_19 (by decide) ?_
      exact t_somK hk (fun hf => t_lret dX13_rowsOf_20 rfl ⟨_, rfl, hf⟩ (Nat.le_of_ble_eq_true rfl) (Nat.le_of_ble_eq_true rfl))
  · refine mj_iload_n dX13_rowsOf_4 3 rfl ?_
    refine mj_if_ne 12 dX13_rowsOf_5 (by decide) (fun z => t_negK hk z (fun hk => ?_)) (fun z => t_posK hk z (fun hk => ?_))
    · refine mj_lconst (v := 0) dX13_rowsOf_12 (by decide) ?_
      exact t_somK hk (fun hf => t_lret dX13_rowsOf_13 rfl ⟨_, rfl, hf⟩ (Nat.le_of_ble_eq_true rfl) (Nat.le_of_ble_eq_true rfl))
    · refine mj_lconst (v := 1) dX13_rowsOf_8 (by decide) ?_
      refine mj_goto 13 dX13_rowsOf_9 (by decide) ?_
      exact t_somK hk (fun hf => t_lret dX13_rowsOf_13 rfl ⟨_, rfl, hf⟩ (Nat.le_of_ble_eq_true rfl) (Nat.le_of_ble_eq_true rfl))
/-- so many calls deep -/
noncomputable def R_X13_manyAt : Nat → RT_X13_manyAt
  | 0 => ⟨fun _ _ _ => none, fun _ _ _ => none, fun _ _ _ => none, fun _ _ _ _ => none⟩
  | k + 1 => ⟨fun x2 x3 s => m_X13_manyAt (R_X13_manyAt k) x2 x3 s, fun x2 x3 s => m_X13_manyLists (R_X13_manyAt k) x2 x3 s, fun x2 x3 s => m_X13_manyRecords (R_X13_manyAt k) x2 x3 s, fun x2 x3 x4 s => m_X13_rowsOf (R_X13_manyAt k) x2 x3 x4 s⟩
theorem RR_X13_manyAt : ∀ k : Nat, RH_X13_manyAt (R_X13_manyAt k) k := by
  intro k
  induction k with
  | zero => exact ⟨fun _ _ _ _ h => (by cases h), fun _ _ _ _ h => (by cases h), fun _ _ _ _ h => (by cases h), fun _ _ _ _ _ h => (by cases h)⟩
  | succ k ih => exact ⟨fun x2 x3 s r h => E_X13_manyAt (R_X13_manyAt k) ih x2 x3 s r h, fun x2 x3 s r h => E_X13_manyLists (R_X13_manyAt k) ih x2 x3 s r h, fun x2 x3 s r h => E_X13_manyRecords (R_X13_manyAt k) ih x2 x3 s r h, fun x2 x3 x4 s r h => E_X13_rowsOf (R_X13_manyAt k) ih x2 x3 x4 s r h⟩
noncomputable def f_X13_manyAt (x2 : Int32) (x3 : Int32) (s : t_S) : Option (Int64 × t_S) := (R_X13_manyAt 1500).1 x2 x3 s
theorem C_X13_manyAt (x2 : Int32) (x3 : Int32) (s : t_S) (r : Int64 × t_S) (hr : f_X13_manyAt x2 x3 s = some r) : t_C yX13_manyAt cX13_manyAt 8 (some .long) 1502 [.ref 950, .int x2, .int x3] s (fun v s' => v = some (.long r.1) ∧ s' = r.2) := (RR_X13_manyAt 1500).1 x2 x3 s r hr
noncomputable def f_X13_manyLists (x2 : Int32) (x3 : Int32) (s : t_S) : Option (Int64 × t_S) := (R_X13_manyAt 1500).2.1 x2 x3 s
theorem C_X13_manyLists (x2 : Int32) (x3 : Int32) (s : t_S) (r : Int64 × t_S) (hr : f_X13_manyLists x2 x3 s = some r) : t_C yX13_manyLists cX13_manyLists 6 (some .long) 1502 [.ref 950, .int x2, .int x3] s (fun v s' => v = some (.long r.1) ∧ s' = r.2) := (RR_X13_manyAt 1500).2.1 x2 x3 s r hr
noncomputable def f_X13_manyRecords (x2 : Int32) (x3 : Int32) (s : t_S) : Option (Int64 × t_S) := (R_X13_manyAt 1500).2.2.1 x2 x3 s
theorem C_X13_manyRecords (x2 : Int32) (x3 : Int32) (s : t_S) (r : Int64 × t_S) (hr : f_X13_manyRecords x2 x3 s = some r) : t_C yX13_manyRecords cX13_manyRecords 9 (some .long) 1502 [.ref 950, .int x2, .int x3] s (fun v s' => v = some (.long r.1) ∧ s' = r.2) := (RR_X13_manyAt 1500).2.2.1 x2 x3 s r hr
noncomputable def f_X13_rowsOf (x2 : Int32) (x3 : Int32) (x4 : Int32) (s : t_S) : Option (Int64 × t_S) := (R_X13_manyAt 1500).2.2.2 x2 x3 x4 s
theorem C_X13_rowsOf (x2 : Int32) (x3 : Int32) (x4 : Int32) (s : t_S) (r : Int64 × t_S) (hr : f_X13_rowsOf x2 x3 x4 s = some r) : t_C yX13_rowsOf cX13_rowsOf 13 (some .long) 1502 [.ref 950, .int x2, .int x3, .int x4] s (fun v s' => v = some (.long r.1) ∧ s' = r.2) := (RR_X13_manyAt 1500).2.2.2 x2 x3 x4 s r hr

