/-! Methods as functions, 101: X13_value, X13_variable, X13_why -/
theorem dX13_value_0 : decode cX13_value 0 = .ok (.aload_n 0, 1) := by decide +kernel
theorem dX13_value_1 : decode cX13_value 1 = .ok (.getfield 642, 3) := by decide +kernel
theorem dX13_value_10 : decode cX13_value 10 = .ok (.getfield 654, 3) := by decide +kernel
theorem dX13_value_100 : decode cX13_value 100 = .ok (.istore_n 2, 1) := by decide +kernel
theorem dX13_value_101 : decode cX13_value 101 = .ok (.aload_n 0, 1) := by decide +kernel
theorem dX13_value_102 : decode cX13_value 102 = .ok (.getfield 385, 3) := by decide +kernel
theorem dX13_value_105 : decode cX13_value 105 = .ok (.ifCond .eq 12, 3) := by decide +kernel
theorem dX13_value_108 : decode cX13_value 108 = .ok (.aload_n 0, 1) := by decide +kernel
theorem dX13_value_109 : decode cX13_value 109 = .ok (.iconst 2, 1) := by decide +kernel
theorem dX13_value_110 : decode cX13_value 110 = .ok (.aload_n 0, 1) := by decide +kernel
theorem dX13_value_111 : decode cX13_value 111 = .ok (.getfield 391, 3) := by decide +kernel
theorem dX13_value_114 : decode cX13_value 114 = .ok (.invokevirtual 411, 3) := by decide +kernel
theorem dX13_value_117 : decode cX13_value 117 = .ok (.aload_n 0, 1) := by decide +kernel
theorem dX13_value_118 : decode cX13_value 118 = .ok (.iconst 0, 1) := by decide +kernel
theorem dX13_value_119 : decode cX13_value 119 = .ok (.putfield 779, 3) := by decide +kernel
theorem dX13_value_122 : decode cX13_value 122 = .ok (.iload_n 1, 1) := by decide +kernel
theorem dX13_value_123 : decode cX13_value 123 = .ok (.istore_n 3, 1) := by decide +kernel
theorem dX13_value_124 : decode cX13_value 124 = .ok (.iload_n 3, 1) := by decide +kernel
theorem dX13_value_125 : decode cX13_value 125 = .ok (.aload_n 0, 1) := by decide +kernel
theorem dX13_value_126 : decode cX13_value 126 = .ok (.getfield 474, 3) := by decide +kernel
theorem dX13_value_129 : decode cX13_value 129 = .ok (.if_icmp .ge 117, 3) := by decide +kernel
theorem dX13_value_13 : decode cX13_value 13 = .ok (.bipush 40, 2) := by decide +kernel
theorem dX13_value_132 : decode cX13_value 132 = .ok (.aload_n 0, 1) := by decide +kernel
theorem dX13_value_133 : decode cX13_value 133 = .ok (.getfield 375, 3) := by decide +kernel
theorem dX13_value_136 : decode cX13_value 136 = .ok (.ifCond .ne 110, 3) := by decide +kernel
theorem dX13_value_139 : decode cX13_value 139 = .ok (.aload_n 0, 1) := by decide +kernel
theorem dX13_value_140 : decode cX13_value 140 = .ok (.getfield 26, 3) := by decide +kernel
theorem dX13_value_143 : decode cX13_value 143 = .ok (.iload_n 3, 1) := by decide +kernel
theorem dX13_value_144 : decode cX13_value 144 = .ok (.iaload, 1) := by decide +kernel
theorem dX13_value_145 : decode cX13_value 145 = .ok (.bipush 71, 2) := by decide +kernel
theorem dX13_value_147 : decode cX13_value 147 = .ok (.if_icmp .eq 47, 3) := by decide +kernel
theorem dX13_value_15 : decode cX13_value 15 = .ok (.if_icmp .ne 6, 3) := by decide +kernel
theorem dX13_value_150 : decode cX13_value 150 = .ok (.aload_n 0, 1) := by decide +kernel
theorem dX13_value_151 : decode cX13_value 151 = .ok (.getfield 26, 3) := by decide +kernel
theorem dX13_value_154 : decode cX13_value 154 = .ok (.iload_n 3, 1) := by decide +kernel
theorem dX13_value_155 : decode cX13_value 155 = .ok (.iaload, 1) := by decide +kernel
theorem dX13_value_156 : decode cX13_value 156 = .ok (.bipush 67, 2) := by decide +kernel
theorem dX13_value_158 : decode cX13_value 158 = .ok (.if_icmp .eq 36, 3) := by decide +kernel
theorem dX13_value_161 : decode cX13_value 161 = .ok (.aload_n 0, 1) := by decide +kernel
theorem dX13_value_162 : decode cX13_value 162 = .ok (.getfield 26, 3) := by decide +kernel
theorem dX13_value_165 : decode cX13_value 165 = .ok (.iload_n 3, 1) := by decide +kernel
theorem dX13_value_166 : decode cX13_value 166 = .ok (.iaload, 1) := by decide +kernel
theorem dX13_value_167 : decode cX13_value 167 = .ok (.bipush 68, 2) := by decide +kernel
theorem dX13_value_169 : decode cX13_value 169 = .ok (.if_icmp .eq 25, 3) := by decide +kernel
theorem dX13_value_172 : decode cX13_value 172 = .ok (.aload_n 0, 1) := by decide +kernel
theorem dX13_value_173 : decode cX13_value 173 = .ok (.getfield 26, 3) := by decide +kernel
theorem dX13_value_176 : decode cX13_value 176 = .ok (.iload_n 3, 1) := by decide +kernel
theorem dX13_value_177 : decode cX13_value 177 = .ok (.iaload, 1) := by decide +kernel
theorem dX13_value_178 : decode cX13_value 178 = .ok (.bipush 40, 2) := by decide +kernel
theorem dX13_value_18 : decode cX13_value 18 = .ok (.bipush (-3), 2) := by decide +kernel
theorem dX13_value_180 : decode cX13_value 180 = .ok (.if_icmp .eq 14, 3) := by decide +kernel
theorem dX13_value_183 : decode cX13_value 183 = .ok (.aload_n 0, 1) := by decide +kernel
theorem dX13_value_184 : decode cX13_value 184 = .ok (.getfield 26, 3) := by decide +kernel
theorem dX13_value_187 : decode cX13_value 187 = .ok (.iload_n 3, 1) := by decide +kernel
theorem dX13_value_188 : decode cX13_value 188 = .ok (.iaload, 1) := by decide +kernel
theorem dX13_value_189 : decode cX13_value 189 = .ok (.bipush 30, 2) := by decide +kernel
theorem dX13_value_191 : decode cX13_value 191 = .ok (.if_icmp .ne 7, 3) := by decide +kernel
theorem dX13_value_194 : decode cX13_value 194 = .ok (.iconst 1, 1) := by decide +kernel
theorem dX13_value_195 : decode cX13_value 195 = .ok (.goto 4, 3) := by decide +kernel
theorem dX13_value_198 : decode cX13_value 198 = .ok (.iconst 0, 1) := by decide +kernel
theorem dX13_value_199 : decode cX13_value 199 = .ok (.istore 4, 2) := by decide +kernel
theorem dX13_value_20 : decode cX13_value 20 = .ok (.ireturn, 1) := by decide +kernel
theorem dX13_value_201 : decode cX13_value 201 = .ok (.iload 4, 2) := by decide +kernel
theorem dX13_value_203 : decode cX13_value 203 = .ok (.ifCond .eq 32, 3) := by decide +kernel
theorem dX13_value_206 : decode cX13_value 206 = .ok (.aload_n 0, 1) := by decide +kernel
theorem dX13_value_207 : decode cX13_value 207 = .ok (.getfield 32, 3) := by decide +kernel
theorem dX13_value_21 : decode cX13_value 21 = .ok (.aload_n 0, 1) := by decide +kernel
theorem dX13_value_210 : decode cX13_value 210 = .ok (.iload_n 3, 1) := by decide +kernel
theorem dX13_value_211 : decode cX13_value 211 = .ok (.laload, 1) := by decide +kernel
theorem dX13_value_212 : decode cX13_value 212 = .ok (.aload_n 0, 1) := by decide +kernel
theorem dX13_value_213 : decode cX13_value 213 = .ok (.getfield 676, 3) := by decide +kernel
theorem dX13_value_216 : decode cX13_value 216 = .ok (.i2l, 1) := by decide +kernel
theorem dX13_value_217 : decode cX13_value 217 = .ok (.lcmp, 1) := by decide +kernel
theorem dX13_value_218 : decode cX13_value 218 = .ok (.ifCond .lt 17, 3) := by decide +kernel
theorem dX13_value_22 : decode cX13_value 22 = .ok (.iconst 1, 1) := by decide +kernel
theorem dX13_value_221 : decode cX13_value 221 = .ok (.aload_n 0, 1) := by decide +kernel
theorem dX13_value_222 : decode cX13_value 222 = .ok (.iconst 4, 1) := by decide +kernel
theorem dX13_value_223 : decode cX13_value 223 = .ok (.aload_n 0, 1) := by decide +kernel
theorem dX13_value_224 : decode cX13_value 224 = .ok (.getfield 171, 3) := by decide +kernel
theorem dX13_value_227 : decode cX13_value 227 = .ok (.iload_n 3, 1) := by decide +kernel
theorem dX13_value_228 : decode cX13_value 228 = .ok (.iaload, 1) := by decide +kernel
theorem dX13_value_229 : decode cX13_value 229 = .ok (.invokevirtual 795, 3) := by decide +kernel
theorem dX13_value_23 : decode cX13_value 23 = .ok (.putfield 461, 3) := by decide +kernel
theorem dX13_value_232 : decode cX13_value 232 = .ok (.goto 8, 3) := by decide +kernel
theorem dX13_value_235 : decode cX13_value 235 = .ok (.aload_n 0, 1) := by decide +kernel
theorem dX13_value_236 : decode cX13_value 236 = .ok (.iload_n 3, 1) := by decide +kernel
theorem dX13_value_237 : decode cX13_value 237 = .ok (.invokevirtual 809, 3) := by decide +kernel
theorem dX13_value_240 : decode cX13_value 240 = .ok (.iinc 3 1, 3) := by decide +kernel
theorem dX13_value_243 : decode cX13_value 243 = .ok (.goto (-119), 3) := by decide +kernel
theorem dX13_value_246 : decode cX13_value 246 = .ok (.aload_n 0, 1) := by decide +kernel
theorem dX13_value_247 : decode cX13_value 247 = .ok (.getfield 779, 3) := by decide +kernel
theorem dX13_value_250 : decode cX13_value 250 = .ok (.ifCond .eq 15, 3) := by decide +kernel
theorem dX13_value_253 : decode cX13_value 253 = .ok (.aload_n 0, 1) := by decide +kernel
theorem dX13_value_254 : decode cX13_value 254 = .ok (.aload_n 0, 1) := by decide +kernel
theorem dX13_value_255 : decode cX13_value 255 = .ok (.getfield 779, 3) := by decide +kernel
theorem dX13_value_258 : decode cX13_value 258 = .ok (.aload_n 0, 1) := by decide +kernel
theorem dX13_value_259 : decode cX13_value 259 = .ok (.getfield 782, 3) := by decide +kernel
theorem dX13_value_26 : decode cX13_value 26 = .ok (.aload_n 0, 1) := by decide +kernel
theorem dX13_value_262 : decode cX13_value 262 = .ok (.invokevirtual 411, 3) := by decide +kernel
theorem dX13_value_265 : decode cX13_value 265 = .ok (.aload_n 0, 1) := by decide +kernel
theorem dX13_value_266 : decode cX13_value 266 = .ok (.iconst 0, 1) := by decide +kernel
theorem dX13_value_267 : decode cX13_value 267 = .ok (.putfield 366, 3) := by decide +kernel
theorem dX13_value_27 : decode cX13_value 27 = .ok (.aload_n 0, 1) := by decide +kernel
theorem dX13_value_270 : decode cX13_value 270 = .ok (.aload_n 0, 1) := by decide +kernel
theorem dX13_value_271 : decode cX13_value 271 = .ok (.getfield 375, 3) := by decide +kernel
theorem dX13_value_274 : decode cX13_value 274 = .ok (.ifCond .eq 13, 3) := by decide +kernel
theorem dX13_value_277 : decode cX13_value 277 = .ok (.bipush (-10), 2) := by decide +kernel
theorem dX13_value_279 : decode cX13_value 279 = .ok (.aload_n 0, 1) := by decide +kernel
theorem dX13_value_28 : decode cX13_value 28 = .ok (.getfield 664, 3) := by decide +kernel
theorem dX13_value_280 : decode cX13_value 280 = .ok (.getfield 375, 3) := by decide +kernel
theorem dX13_value_283 : decode cX13_value 283 = .ok (.isub, 1) := by decide +kernel
theorem dX13_value_284 : decode cX13_value 284 = .ok (.goto 4, 3) := by decide +kernel
theorem dX13_value_287 : decode cX13_value 287 = .ok (.iconst 0, 1) := by decide +kernel
theorem dX13_value_288 : decode cX13_value 288 = .ok (.istore_n 3, 1) := by decide +kernel
theorem dX13_value_289 : decode cX13_value 289 = .ok (.aload_n 0, 1) := by decide +kernel
theorem dX13_value_290 : decode cX13_value 290 = .ok (.getfield 375, 3) := by decide +kernel
theorem dX13_value_293 : decode cX13_value 293 = .ok (.ifCond .ne 59, 3) := by decide +kernel
theorem dX13_value_296 : decode cX13_value 296 = .ok (.aload_n 0, 1) := by decide +kernel
theorem dX13_value_297 : decode cX13_value 297 = .ok (.iconst 0, 1) := by decide +kernel
theorem dX13_value_298 : decode cX13_value 298 = .ok (.putfield 842, 3) := by decide +kernel
theorem dX13_value_301 : decode cX13_value 301 = .ok (.aload_n 0, 1) := by decide +kernel
theorem dX13_value_302 : decode cX13_value 302 = .ok (.iconst 0, 1) := by decide +kernel
theorem dX13_value_303 : decode cX13_value 303 = .ok (.putfield 858, 3) := by decide +kernel
theorem dX13_value_306 : decode cX13_value 306 = .ok (.aload_n 0, 1) := by decide +kernel
theorem dX13_value_307 : decode cX13_value 307 = .ok (.iconst 0, 1) := by decide +kernel
theorem dX13_value_308 : decode cX13_value 308 = .ok (.putfield 882, 3) := by decide +kernel
theorem dX13_value_31 : decode cX13_value 31 = .ok (.putfield 474, 3) := by decide +kernel
theorem dX13_value_311 : decode cX13_value 311 = .ok (.aload_n 0, 1) := by decide +kernel
theorem dX13_value_312 : decode cX13_value 312 = .ok (.iconst (-1), 1) := by decide +kernel
theorem dX13_value_313 : decode cX13_value 313 = .ok (.putfield 917, 3) := by decide +kernel
theorem dX13_value_316 : decode cX13_value 316 = .ok (.aload_n 0, 1) := by decide +kernel
theorem dX13_value_317 : decode cX13_value 317 = .ok (.iconst (-1), 1) := by decide +kernel
theorem dX13_value_318 : decode cX13_value 318 = .ok (.putfield 935, 3) := by decide +kernel
theorem dX13_value_321 : decode cX13_value 321 = .ok (.aload_n 0, 1) := by decide +kernel
theorem dX13_value_322 : decode cX13_value 322 = .ok (.iload_n 2, 1) := by decide +kernel
theorem dX13_value_323 : decode cX13_value 323 = .ok (.invokestatic 897, 3) := by decide +kernel
theorem dX13_value_326 : decode cX13_value 326 = .ok (.aload_n 0, 1) := by decide +kernel
theorem dX13_value_327 : decode cX13_value 327 = .ok (.getfield 842, 3) := by decide +kernel
theorem dX13_value_330 : decode cX13_value 330 = .ok (.ifCond .eq 13, 3) := by decide +kernel
theorem dX13_value_333 : decode cX13_value 333 = .ok (.bipush (-20), 2) := by decide +kernel
theorem dX13_value_335 : decode cX13_value 335 = .ok (.aload_n 0, 1) := by decide +kernel
theorem dX13_value_336 : decode cX13_value 336 = .ok (.getfield 842, 3) := by decide +kernel
theorem dX13_value_339 : decode cX13_value 339 = .ok (.isub, 1) := by decide +kernel
theorem dX13_value_34 : decode cX13_value 34 = .ok (.aload_n 0, 1) := by decide +kernel
theorem dX13_value_340 : decode cX13_value 340 = .ok (.goto 11, 3) := by decide +kernel
theorem dX13_value_343 : decode cX13_value 343 = .ok (.aload_n 0, 1) := by decide +kernel
theorem dX13_value_344 : decode cX13_value 344 = .ok (.aload_n 0, 1) := by decide +kernel
theorem dX13_value_345 : decode cX13_value 345 = .ok (.invokevirtual 941, 3) := by decide +kernel
theorem dX13_value_348 : decode cX13_value 348 = .ok (.invokevirtual 999, 3) := by decide +kernel
theorem dX13_value_35 : decode cX13_value 35 = .ok (.aload_n 0, 1) := by decide +kernel
theorem dX13_value_351 : decode cX13_value 351 = .ok (.istore_n 3, 1) := by decide +kernel
theorem dX13_value_352 : decode cX13_value 352 = .ok (.aload_n 0, 1) := by decide +kernel
theorem dX13_value_353 : decode cX13_value 353 = .ok (.aload_n 0, 1) := by decide +kernel
theorem dX13_value_354 : decode cX13_value 354 = .ok (.getfield 664, 3) := by decide +kernel
theorem dX13_value_357 : decode cX13_value 357 = .ok (.putfield 474, 3) := by decide +kernel
theorem dX13_value_36 : decode cX13_value 36 = .ok (.getfield 667, 3) := by decide +kernel
theorem dX13_value_360 : decode cX13_value 360 = .ok (.aload_n 0, 1) := by decide +kernel
theorem dX13_value_361 : decode cX13_value 361 = .ok (.aload_n 0, 1) := by decide +kernel
theorem dX13_value_362 : decode cX13_value 362 = .ok (.getfield 673, 3) := by decide +kernel
theorem dX13_value_365 : decode cX13_value 365 = .ok (.putfield 591, 3) := by decide +kernel
theorem dX13_value_368 : decode cX13_value 368 = .ok (.aload_n 0, 1) := by decide +kernel
theorem dX13_value_369 : decode cX13_value 369 = .ok (.aload_n 0, 1) := by decide +kernel
theorem dX13_value_370 : decode cX13_value 370 = .ok (.getfield 676, 3) := by decide +kernel
theorem dX13_value_373 : decode cX13_value 373 = .ok (.putfield 458, 3) := by decide +kernel
theorem dX13_value_376 : decode cX13_value 376 = .ok (.aload_n 0, 1) := by decide +kernel
theorem dX13_value_377 : decode cX13_value 377 = .ok (.aload_n 0, 1) := by decide +kernel
theorem dX13_value_378 : decode cX13_value 378 = .ok (.getfield 679, 3) := by decide +kernel
theorem dX13_value_381 : decode cX13_value 381 = .ok (.putfield 465, 3) := by decide +kernel
theorem dX13_value_384 : decode cX13_value 384 = .ok (.iload_n 3, 1) := by decide +kernel
theorem dX13_value_385 : decode cX13_value 385 = .ok (.ireturn, 1) := by decide +kernel
theorem dX13_value_39 : decode cX13_value 39 = .ok (.putfield 479, 3) := by decide +kernel
theorem dX13_value_4 : decode cX13_value 4 = .ok (.ifCond .ne 5, 3) := by decide +kernel
theorem dX13_value_42 : decode cX13_value 42 = .ok (.aload_n 0, 1) := by decide +kernel
theorem dX13_value_43 : decode cX13_value 43 = .ok (.iconst 0, 1) := by decide +kernel
theorem dX13_value_44 : decode cX13_value 44 = .ok (.putfield 471, 3) := by decide +kernel
theorem dX13_value_47 : decode cX13_value 47 = .ok (.aload_n 0, 1) := by decide +kernel
theorem dX13_value_48 : decode cX13_value 48 = .ok (.aload_n 0, 1) := by decide +kernel
theorem dX13_value_49 : decode cX13_value 49 = .ok (.getfield 673, 3) := by decide +kernel
theorem dX13_value_52 : decode cX13_value 52 = .ok (.putfield 591, 3) := by decide +kernel
theorem dX13_value_55 : decode cX13_value 55 = .ok (.aload_n 0, 1) := by decide +kernel
theorem dX13_value_56 : decode cX13_value 56 = .ok (.iconst 0, 1) := by decide +kernel
theorem dX13_value_57 : decode cX13_value 57 = .ok (.putfield 375, 3) := by decide +kernel
theorem dX13_value_60 : decode cX13_value 60 = .ok (.aload_n 0, 1) := by decide +kernel
theorem dX13_value_61 : decode cX13_value 61 = .ok (.iconst (-1), 1) := by decide +kernel
theorem dX13_value_62 : decode cX13_value 62 = .ok (.putfield 13, 3) := by decide +kernel
theorem dX13_value_65 : decode cX13_value 65 = .ok (.aload_n 0, 1) := by decide +kernel
theorem dX13_value_66 : decode cX13_value 66 = .ok (.iconst 0, 1) := by decide +kernel
theorem dX13_value_67 : decode cX13_value 67 = .ok (.putfield 378, 3) := by decide +kernel
theorem dX13_value_7 : decode cX13_value 7 = .ok (.iconst (-1), 1) := by decide +kernel
theorem dX13_value_70 : decode cX13_value 70 = .ok (.aload_n 0, 1) := by decide +kernel
theorem dX13_value_71 : decode cX13_value 71 = .ok (.iconst 0, 1) := by decide +kernel
theorem dX13_value_72 : decode cX13_value 72 = .ok (.putfield 552, 3) := by decide +kernel
theorem dX13_value_75 : decode cX13_value 75 = .ok (.aload_n 0, 1) := by decide +kernel
theorem dX13_value_76 : decode cX13_value 76 = .ok (.sipush 3000, 3) := by decide +kernel
theorem dX13_value_79 : decode cX13_value 79 = .ok (.putfield 584, 3) := by decide +kernel
theorem dX13_value_8 : decode cX13_value 8 = .ok (.ireturn, 1) := by decide +kernel
theorem dX13_value_82 : decode cX13_value 82 = .ok (.aload_n 0, 1) := by decide +kernel
theorem dX13_value_83 : decode cX13_value 83 = .ok (.iconst 0, 1) := by decide +kernel
theorem dX13_value_84 : decode cX13_value 84 = .ok (.putfield 621, 3) := by decide +kernel
theorem dX13_value_87 : decode cX13_value 87 = .ok (.aload_n 0, 1) := by decide +kernel
theorem dX13_value_88 : decode cX13_value 88 = .ok (.getfield 474, 3) := by decide +kernel
theorem dX13_value_9 : decode cX13_value 9 = .ok (.aload_n 0, 1) := by decide +kernel
theorem dX13_value_91 : decode cX13_value 91 = .ok (.istore_n 1, 1) := by decide +kernel
theorem dX13_value_92 : decode cX13_value 92 = .ok (.aload_n 0, 1) := by decide +kernel
theorem dX13_value_93 : decode cX13_value 93 = .ok (.invokevirtual 452, 3) := by decide +kernel
theorem dX13_value_96 : decode cX13_value 96 = .ok (.aload_n 0, 1) := by decide +kernel
theorem dX13_value_97 : decode cX13_value 97 = .ok (.invokestatic 581, 3) := by decide +kernel
noncomputable def k_X13_value_240 (l2 : Int32) (l3 : Int32) (s : t_S) : Option ((Int32 × Int32 × t_S) ⊕ (Int32 × t_S)) :=
 some (.inl (l2, (l3 + 1), s))
set_option maxRecDepth 4000 in
set_option maxHeartbeats 1000000 in
theorem B_X13_value_240 {D : va_G} {cy : Nat → ClassId} {ad : Nat → Nat} {bs : Nat} {X : State → Heap → Prop} (l2 : Int32) (l3 : Int32) (s : t_S) (Q : (Int32 × Int32 × t_S) ⊕ (Int32 × t_S) → Prop) (Hb124 : ∀ (y0 : Int32) (y1 : Int32) (y2 : t_S), Q (.inl (y0, y1, y2)) → mj_G D cy ad bs X cX13_value 5 yX13_value.cls (some .int) yX13_value.name 1784 0 0 1065 (t_P (fun v s' => ∃ x, v = some (.int x) ∧ Q (.inr ((x, s'))))) 124 [(0, .ref 950), (2, .int (y0)), (3, .int (y1))] [] (t_m y2) 1065 0 0) (hk : t_hk (k_X13_value_240 l2 l3 s) Q) : mj_G D cy ad bs X cX13_value 5 yX13_value.cls (some .int) yX13_value.name 1784 0 0 1065 (t_P (fun v s' => ∃ x, v = some (.int x) ∧ Q (.inr ((x, s'))))) 240 [(0, .ref 950), (2, .int l2), (3, .int l3)] [] (t_m s) 1065 0 0 := by
  refine mj_iinc (k := 2) (v := (l3 + 1)) (lv2 := [(3, .int (l3 + 1)), (0, .ref 950), (2, .int l2)]) dX13_value_240 rfl rfl (by decide) rfl ?_
  refine mj_goto 124 dX13_value_243 (by decide) ?_
  refine mj_sublv [(0, .ref 950), (2, .int l2), (3, .int (l3 + 1))] [1, 2, 0] rfl ?_
  exact t_somK hk (fun hf => Hb124 l2 (l3 + 1) s hf)
noncomputable def k_X13_value_235 (l2 : Int32) (l3 : Int32) (s : t_S) : Option ((Int32 × Int32 × t_S) ⊕ (Int32 × t_S)) :=
 (f_X13_checkNode l3 s).bind (fun r1 =>
 k_X13_value_240 l2 l3 r1)
set_option maxRecDepth 4000 in
set_option maxHeartbeats 1000000 in
theorem B_X13_value_235 {D : va_G} {cy : Nat → ClassId} {ad : Nat → Nat} {bs : Nat} {X : State → Heap → Prop} (l2 : Int32) (l3 : Int32) (s : t_S) (Q : (Int32 × Int32 × t_S) ⊕ (Int32 × t_S) → Prop) (Hb124 : ∀ (y0 : Int32) (y1 : Int32) (y2 : t_S), Q (.inl (y0, y1, y2)) → mj_G D cy ad bs X cX13_value 5 yX13_value.cls (some .int) yX13_value.name 1784 0 0 1065 (t_P (fun v s' => ∃ x, v = some (.int x) ∧ Q (.inr ((x, s'))))) 124 [(0, .ref 950), (2, .int (y0)), (3, .int (y1))] [] (t_m y2) 1065 0 0) (hk : t_hk (k_X13_value_235 l2 l3 s) Q) : mj_G D cy ad bs X cX13_value 5 yX13_value.cls (some .int) yX13_value.name 1784 0 0 1065 (t_P (fun v s' => ∃ x, v = some (.int x) ∧ Q (.inr ((x, s'))))) 235 [(0, .ref 950), (2, .int l2), (3, .int l3)] [] (t_m s) 1065 0 0 := by
  refine mj_aload_n dX13_value_235 0 rfl ?_
  refine mj_iload_n dX13_value_236 2 rfl ?_
  refine t_bndK hk (fun r1 er1 hk => ?_)
  refine t_callVvE dX13_value_237 M_X13_checkNode (C_X13_checkNode _ _ _ er1) ML_X13_809 IM_X13_checkNode SE_X13_checkNode qc_950 rfl (As := [.int l3]) rfl rfl (Nat.le_of_ble_eq_true rfl) (Nat.le_of_ble_eq_true rfl) (Nat.le_of_ble_eq_true rfl) (Nat.le_of_ble_eq_true rfl) ?_
  exact B_X13_value_240 _ _ _ _ (fun y0 y1 y2 hx => Hb124 y0 y1 y2 hx) hk
noncomputable def k_X13_value_199 (l2 : Int32) (l3 : Int32) (k0 : Int32) (s : t_S) : Option ((Int32 × Int32 × t_S) ⊕ (Int32 × t_S)) :=
 if k0 = (0 : Int32) then (k_X13_value_235 l2 l3 s)
 else (if t_ix l3 13000 = true then
  if (lg_cmp (s.2.1 957 (l3.toNatClampNeg)) ((s.1 950 83).toInt64)) < (0 : Int32) then (k_X13_value_235 l2 l3 s)
 else ((f_X13_wrong (4 : Int32) (s.1 1003 (l3.toNatClampNeg)) s).bind (fun r2 =>
 k_X13_value_240 l2 l3 r2))
else none)
set_option maxRecDepth 4000 in
set_option maxHeartbeats 1000000 in
theorem B_X13_value_199 {D : va_G} {cy : Nat → ClassId} {ad : Nat → Nat} {bs : Nat} {X : State → Heap → Prop} (l2 : Int32) (l3 : Int32) (k0 : Int32) (s : t_S) (Q : (Int32 × Int32 × t_S) ⊕ (Int32 × t_S) → Prop) (Hb124 : ∀ (y0 : Int32) (y1 : Int32) (y2 : t_S), Q (.inl (y0, y1, y2)) → mj_G D cy ad bs X cX13_value 5 yX13_value.cls (some .int) yX13_value.name 1784 0 0 1065 (t_P (fun v s' => ∃ x, v = some (.int x) ∧ Q (.inr ((x, s'))))) 124 [(0, .ref 950), (2, .int (y0)), (3, .int (y1))] [] (t_m y2) 1065 0 0) (hk : t_hk (k_X13_value_199 l2 l3 k0 s) Q) : mj_G D cy ad bs X cX13_value 5 yX13_value.cls (some .int) yX13_value.name 1784 0 0 1065 (t_P (fun v s' => ∃ x, v = some (.int x) ∧ Q (.inr ((x, s'))))) 199 [(0, .ref 950), (2, .int l2), (3, .int l3)] [.int k0] (t_m s) 1065 0 0 := by
  refine mj_istore (lv2 := [(4, .int k0), (0, .ref 950), (2, .int l2), (3, .int l3)]) dX13_value_199 (by decide) rfl ?_
  refine mj_iload dX13_value_201 0 rfl ?_
  refine mj_if_eq 235 dX13_value_203 (by decide) (fun z => t_posK hk z (fun hk => ?_)) (fun z => t_negK hk z (fun hk => ?_))
  · refine mj_sublv [(0, .ref 950), (2, .int l2), (3, .int l3)] [1, 2, 3] rfl ?_
    exact B_X13_value_235 _ _ _ _ (fun y0 y1 y2 hx => Hb124 y0 y1 y2 hx) hk
  · refine mj_aload_n dX13_value_206 1 rfl ?_
    refine t_getR 957 dX13_value_207 F_X13_32 qr_950_19 ?_
    refine mj_iload_n dX13_value_210 3 rfl ?_
    refine t_chkK hk (fun c0 hk => ?_)
    refine t_lald dX13_value_211 qa_957 (t_ixv c0) ?_
    refine mj_aload_n dX13_value_212 1 rfl ?_
    refine t_getI dX13_value_213 F_X13_676 qf_950_83 ?_
    refine mj_i2l (v := (s.1 950 83).toInt64) dX13_value_216 rfl ?_
    refine mj_lcmp dX13_value_217 ?_
    refine mj_if_lt 235 dX13_value_218 (by decide) (fun z => t_posK hk z (fun hk => ?_)) (fun z => t_negK hk z (fun hk => ?_))
    · refine mj_sublv [(0, .ref 950), (2, .int l2), (3, .int l3)] [1, 2, 3] rfl ?_
      exact B_X13_value_235 _ _ _ _ (fun y0 y1 y2 hx => Hb124 y0 y1 y2 hx) hk
    · refine mj_aload_n dX13_value_221 1 rfl ?_
      refine mj_iconst (v := 4) dX13_value_222 (by decide) ?_
      refine mj_aload_n dX13_value_223 1 rfl ?_
      refine t_getR 1003 dX13_value_224 F_X13_171 qr_950_85 ?_
      refine mj_iload_n dX13_value_227 3 rfl ?_
      refine t_iald dX13_value_228 qa_1003 (t_ixv c0) ?_
      refine t_bndK hk (fun r2 er2 hk => ?_)
      refine t_callVvE dX13_value_229 M_X13_wrong (C_X13_wrong _ _ _ _ er2) ML_X13_795 IM_X13_wrong SE_X13_wrong qc_950 rfl (As := [.int 4, .int (s.1 1003 (l3.toNatClampNeg))]) rfl rfl (Nat.le_of_ble_eq_true rfl) (Nat.le_of_ble_eq_true rfl) (Nat.le_of_ble_eq_true rfl) (Nat.le_of_ble_eq_true rfl) ?_
      refine mj_goto 240 dX13_value_232 (by decide) ?_
      refine mj_sublv [(0, .ref 950), (2, .int l2), (3, .int l3)] [1, 2, 3] rfl ?_
      exact B_X13_value_240 _ _ _ _ (fun y0 y1 y2 hx => Hb124 y0 y1 y2 hx) hk
noncomputable def k_X13_value_194 (l2 : Int32) (l3 : Int32) (s : t_S) : Option ((Int32 × Int32 × t_S) ⊕ (Int32 × t_S)) :=
 k_X13_value_199 l2 l3 1 s
set_option maxRecDepth 4000 in
set_option maxHeartbeats 1000000 in
theorem B_X13_value_194 {D : va_G} {cy : Nat → ClassId} {ad : Nat → Nat} {bs : Nat} {X : State → Heap → Prop} (l2 : Int32) (l3 : Int32) (s : t_S) (Q : (Int32 × Int32 × t_S) ⊕ (Int32 × t_S) → Prop) (Hb124 : ∀ (y0 : Int32) (y1 : Int32) (y2 : t_S), Q (.inl (y0, y1, y2)) → mj_G D cy ad bs X cX13_value 5 yX13_value.cls (some .int) yX13_value.name 1784 0 0 1065 (t_P (fun v s' => ∃ x, v = some (.int x) ∧ Q (.inr ((x, s'))))) 124 [(0, .ref 950), (2, .int (y0)), (3, .int (y1))] [] (t_m y2) 1065 0 0) (hk : t_hk (k_X13_value_194 l2 l3 s) Q) : mj_G D cy ad bs X cX13_value 5 yX13_value.cls (some .int) yX13_value.name 1784 0 0 1065 (t_P (fun v s' => ∃ x, v = some (.int x) ∧ Q (.inr ((x, s'))))) 194 [(0, .ref 950), (2, .int l2), (3, .int l3)] [] (t_m s) 1065 0 0 := by
  refine mj_iconst (v := 1) dX13_value_194 (by decide) ?_
  refine mj_goto 199 dX13_value_195 (by decide) ?_
  exact B_X13_value_199 _ _ _ _ _ (fun y0 y1 y2 hx => Hb124 y0 y1 y2 hx) hk
noncomputable def k_X13_value_352 (l3 : Int32) (s : t_S) : Option (Int32 × t_S) :=
 t_let (t_setI s 950 24 (s.1 950 29)) (fun s1 =>
 t_let (t_setI s1 950 36 (s1.1 950 82)) (fun s2 =>
 t_let (t_setI s2 950 14 (s2.1 950 83)) (fun s3 =>
 t_let (t_setI s3 950 15 (s3.1 950 84)) (fun s4 =>
 some (l3, s4)))))
set_option maxRecDepth 4000 in
set_option maxHeartbeats 1000000 in
theorem B_X13_value_352 {D : va_G} {cy : Nat → ClassId} {ad : Nat → Nat} {bs : Nat} {X : State → Heap → Prop} (l3 : Int32) (s : t_S) (Q : Int32 × t_S → Prop) (hk : t_hk (k_X13_value_352 l3 s) Q) : mj_G D cy ad bs X cX13_value 5 yX13_value.cls (some .int) yX13_value.name 1784 0 0 1065 (t_P (fun v s' => ∃ x, v = some (.int x) ∧ Q ((x, s')))) 352 [(0, .ref 950), (3, .int l3)] [] (t_m s) 1065 0 0 := by
  refine mj_aload_n dX13_value_352 0 rfl ?_
  refine mj_aload_n dX13_value_353 0 rfl ?_
  refine t_getI dX13_value_354 F_X13_664 qf_950_29 ?_
  refine t_putIK dX13_value_357 F_X13_474 qf_950_24 rfl (fun s1 ws1 => t_letE hk ws1 (fun hk => ?_))
  refine mj_aload_n dX13_value_360 0 rfl ?_
  refine mj_aload_n dX13_value_361 0 rfl ?_
  refine t_getI dX13_value_362 F_X13_673 qf_950_82 ?_
  refine t_putIK dX13_value_365 F_X13_591 qf_950_36 rfl (fun s2 ws2 => t_letE hk ws2 (fun hk => ?_))
  refine mj_aload_n dX13_value_368 0 rfl ?_
  refine mj_aload_n dX13_value_369 0 rfl ?_
  refine t_getI dX13_value_370 F_X13_676 qf_950_83 ?_
  refine t_putIK dX13_value_373 F_X13_458 qf_950_14 rfl (fun s3 ws3 => t_letE hk ws3 (fun hk => ?_))
  refine mj_aload_n dX13_value_376 0 rfl ?_
  refine mj_aload_n dX13_value_377 0 rfl ?_
  refine t_getI dX13_value_378 F_X13_679 qf_950_84 ?_
  refine t_putIK dX13_value_381 F_X13_465 qf_950_15 rfl (fun s4 ws4 => t_letE hk ws4 (fun hk => ?_))
  refine mj_iload_n dX13_value_384 1 rfl ?_
  exact t_somK hk (fun hf => t_iret dX13_value_385 rfl rfl ⟨_, rfl, hf⟩ (Nat.le_of_ble_eq_true rfl) (Nat.le_of_ble_eq_true rfl))
noncomputable def k_X13_value_351 (k0 : Int32) (s : t_S) : Option (Int32 × t_S) :=
 k_X13_value_352 k0 s
set_option maxRecDepth 4000 in
set_option maxHeartbeats 1000000 in
theorem B_X13_value_351 {D : va_G} {cy : Nat → ClassId} {ad : Nat → Nat} {bs : Nat} {X : State → Heap → Prop} (k0 : Int32) (s : t_S) (Q : Int32 × t_S → Prop) (hk : t_hk (k_X13_value_351 k0 s) Q) : mj_G D cy ad bs X cX13_value 5 yX13_value.cls (some .int) yX13_value.name 1784 0 0 1065 (t_P (fun v s' => ∃ x, v = some (.int x) ∧ Q ((x, s')))) 351 [(0, .ref 950)] [.int k0] (t_m s) 1065 0 0 := by
  refine mj_istore_n 3 (lv2 := [(3, .int k0), (0, .ref 950)]) dX13_value_351 rfl (by decide) rfl ?_
  refine mj_sublv [(0, .ref 950), (3, .int k0)] [1, 0] rfl ?_
  exact B_X13_value_352 _ _ _ hk
noncomputable def k_X13_value_288 (l2 : Int32) (k0 : Int32) (s : t_S) : Option (Int32 × t_S) :=
 if (s.1 950 2) = (0 : Int32) then (t_let (t_setI s 950 97 (0 : Int32)) (fun s1 =>
 t_let (t_setI s1 950 98 (0 : Int32)) (fun s2 =>
 t_let (t_setI s2 950 103 (0 : Int32)) (fun s3 =>
 t_let (t_setI s3 950 100 (-1 : Int32)) (fun s4 =>
 t_let (t_setI s4 950 101 (-1 : Int32)) (fun s5 =>
 (f_X13_work l2 s5).bind (fun r1 =>
 if (r1.1 950 97) = (0 : Int32) then ((f_X13_keep (f_X13_top r1) r1).bind (fun r3 =>
 k_X13_value_351 r3.1 r3.2))
 else (k_X13_value_351 ((-20 : Int32) - (r1.1 950 97)) r1))))))))
 else (k_X13_value_352 k0 s)
set_option maxRecDepth 4000 in
set_option maxHeartbeats 1000000 in
theorem B_X13_value_288 {D : va_G} {cy : Nat → ClassId} {ad : Nat → Nat} {bs : Nat} {X : State → Heap → Prop} (l2 : Int32) (k0 : Int32) (s : t_S) (Q : Int32 × t_S → Prop) (hk : t_hk (k_X13_value_288 l2 k0 s) Q) : mj_G D cy ad bs X cX13_value 5 yX13_value.cls (some .int) yX13_value.name 1784 0 0 1065 (t_P (fun v s' => ∃ x, v = some (.int x) ∧ Q ((x, s')))) 288 [(0, .ref 950), (2, .int l2)] [.int k0] (t_m s) 1065 0 0 := by
  refine mj_istore_n 3 (lv2 := [(3, .int k0), (0, .ref 950), (2, .int l2)]) dX13_value_288 rfl (by decide) rfl ?_
  refine mj_aload_n dX13_value_289 1 rfl ?_
  refine t_getI dX13_value_290 F_X13_375 qf_950_2 ?_
  refine mj_if_ne 352 dX13_value_293 (by decide) (fun z => t_negK hk z (fun hk => ?_)) (fun z => t_posK hk z (fun hk => ?_))
  · refine mj_sublv [(0, .ref 950), (3, .int k0)] [1, 0] rfl ?_
    exact B_X13_value_352 _ _ _ hk
  · refine mj_aload_n dX13_value_296 1 rfl ?_
    refine mj_iconst (v := 0) dX13_value_297 (by decide) ?_
    refine t_putIK dX13_value_298 F_X13_842 qf_950_97 rfl (fun s1 ws1 => t_letE hk ws1 (fun hk => ?_))
    refine mj_aload_n dX13_value_301 1 rfl ?_
    refine mj_iconst (v := 0) dX13_value_302 (by decide) ?_
    refine t_putIK dX13_value_303 F_X13_858 qf_950_98 rfl (fun s2 ws2 => t_letE hk ws2 (fun hk => ?_))
    refine mj_aload_n dX13_value_306 1 rfl ?_
    refine mj_iconst (v := 0) dX13_value_307 (by decide) ?_
    refine t_putIK dX13_value_308 F_X13_882 qf_950_103 rfl (fun s3 ws3 => t_letE hk ws3 (fun hk => ?_))
    refine mj_aload_n dX13_value_311 1 rfl ?_
    refine mj_iconst (v := (-1)) dX13_value_312 (by decide) ?_
    refine t_putIK dX13_value_313 F_X13_917 qf_950_100 rfl (fun s4 ws4 => t_letE hk ws4 (fun hk => ?_))
    refine mj_aload_n dX13_value_316 1 rfl ?_
    refine mj_iconst (v := (-1)) dX13_value_317 (by decide) ?_
    refine t_putIK dX13_value_318 F_X13_935 qf_950_101 rfl (fun s5 ws5 => t_letE hk ws5 (fun hk => ?_))
    refine mj_aload_n dX13_value_321 1 rfl ?_
    refine mj_iload_n dX13_value_322 2 rfl ?_
    refine t_bndK hk (fun r1 er1 hk => ?_)
    refine t_callSvE dX13_value_323 M_X13_work (C_X13_work _ _ _ er1) ML_X13_897 SM_X13_work (As := [.ref 950, .int l2]) rfl rfl (Nat.le_of_ble_eq_true rfl) (Nat.le_of_ble_eq_true rfl) (Nat.le_of_ble_eq_true rfl) (Nat.le_of_ble_eq_true rfl) ?_
    refine mj_aload_n dX13_value_326 1 rfl ?_
    refine t_getI dX13_value_327 F_X13_842 qf_950_97 ?_
    refine mj_if_eq 343 dX13_value_330 (by decide) (fun z => t_posK hk z (fun hk => ?_)) (fun z => t_negK hk z (fun hk => ?_))
    · refine mj_aload_n dX13_value_343 1 rfl ?_
      refine mj_aload_n dX13_value_344 1 rfl ?_
      refine t_callViP dX13_value_345 M_X13_top (C_X13_top _) ML_X13_941 IM_X13_top SE_X13_top qc_950 rfl (As := []) rfl rfl (Nat.le_of_ble_eq_true rfl) (Nat.le_of_ble_eq_true rfl) (Nat.le_of_ble_eq_true rfl) (Nat.le_of_ble_eq_true rfl) ?_
      refine t_bndK hk (fun r3 er3 hk => ?_)
      refine t_callViE dX13_value_348 M_X13_keep (C_X13_keep _ _ _ er3) ML_X13_999 IM_X13_keep SE_X13_keep qc_950 rfl (As := [.int (f_X13_top r1)]) rfl rfl (Nat.le_of_ble_eq_true rfl) (Nat.le_of_ble_eq_true rfl) (Nat.le_of_ble_eq_true rfl) (Nat.le_of_ble_eq_true rfl) ?_
      refine mj_sublv [(0, .ref 950)] [1] rfl ?_
      exact B_X13_value_351 _ _ _ hk
    · refine mj_bipush (v := (-20)) dX13_value_333 (by decide) ?_
      refine mj_aload_n dX13_value_335 1 rfl ?_
      refine t_getI dX13_value_336 F_X13_842 qf_950_97 ?_
      refine mj_isub dX13_value_339 ?_
      refine mj_goto 351 dX13_value_340 (by decide) ?_
      refine mj_sublv [(0, .ref 950)] [1] rfl ?_
      exact B_X13_value_351 _ _ _ hk
noncomputable def k_X13_value_265 (l2 : Int32) (s : t_S) : Option (Int32 × t_S) :=
 t_let (t_setI s 950 1 (0 : Int32)) (fun s1 =>
 if (s1.1 950 2) = (0 : Int32) then (k_X13_value_288 l2 0 s1)
 else (k_X13_value_288 l2 ((-10 : Int32) - (s1.1 950 2)) s1))
set_option maxRecDepth 4000 in
set_option maxHeartbeats 1000000 in
theorem B_X13_value_265 {D : va_G} {cy : Nat → ClassId} {ad : Nat → Nat} {bs : Nat} {X : State → Heap → Prop} (l2 : Int32) (s : t_S) (Q : Int32 × t_S → Prop) (hk : t_hk (k_X13_value_265 l2 s) Q) : mj_G D cy ad bs X cX13_value 5 yX13_value.cls (some .int) yX13_value.name 1784 0 0 1065 (t_P (fun v s' => ∃ x, v = some (.int x) ∧ Q ((x, s')))) 265 [(0, .ref 950), (2, .int l2)] [] (t_m s) 1065 0 0 := by
  refine mj_aload_n dX13_value_265 0 rfl ?_
  refine mj_iconst (v := 0) dX13_value_266 (by decide) ?_
  refine t_putIK dX13_value_267 F_X13_366 qf_950_1 rfl (fun s1 ws1 => t_letE hk ws1 (fun hk => ?_))
  refine mj_aload_n dX13_value_270 0 rfl ?_
  refine t_getI dX13_value_271 F_X13_375 qf_950_2 ?_
  refine mj_if_eq 287 dX13_value_274 (by decide) (fun z => t_posK hk z (fun hk => ?_)) (fun z => t_negK hk z (fun hk => ?_))
  · refine mj_iconst (v := 0) dX13_value_287 (by decide) ?_
    exact B_X13_value_288 _ _ _ _ hk
  · refine mj_bipush (v := (-10)) dX13_value_277 (by decide) ?_
    refine mj_aload_n dX13_value_279 0 rfl ?_
    refine t_getI dX13_value_280 F_X13_375 qf_950_2 ?_
    refine mj_isub dX13_value_283 ?_
    refine mj_goto 288 dX13_value_284 (by decide) ?_
    exact B_X13_value_288 _ _ _ _ hk
noncomputable def k_X13_value_246 (l2 : Int32) (s : t_S) : Option (Int32 × t_S) :=
 if (s.1 950 88) = (0 : Int32) then (k_X13_value_265 l2 s)
 else ((f_X13_fail (s.1 950 88) (s.1 950 89) s).bind (fun r1 =>
 k_X13_value_265 l2 r1))
set_option maxRecDepth 4000 in
set_option maxHeartbeats 1000000 in
theorem B_X13_value_246 {D : va_G} {cy : Nat → ClassId} {ad : Nat → Nat} {bs : Nat} {X : State → Heap → Prop} (l2 : Int32) (s : t_S) (Q : Int32 × t_S → Prop) (hk : t_hk (k_X13_value_246 l2 s) Q) : mj_G D cy ad bs X cX13_value 5 yX13_value.cls (some .int) yX13_value.name 1784 0 0 1065 (t_P (fun v s' => ∃ x, v = some (.int x) ∧ Q ((x, s')))) 246 [(0, .ref 950), (2, .int l2)] [] (t_m s) 1065 0 0 := by
  refine mj_aload_n dX13_value_246 0 rfl ?_
  refine t_getI dX13_value_247 F_X13_779 qf_950_88 ?_
  refine mj_if_eq 265 dX13_value_250 (by decide) (fun z => t_posK hk z (fun hk => ?_)) (fun z => t_negK hk z (fun hk => ?_))
  · exact B_X13_value_265 _ _ _ hk
  · refine mj_aload_n dX13_value_253 0 rfl ?_
    refine mj_aload_n dX13_value_254 0 rfl ?_
    refine t_getI dX13_value_255 F_X13_779 qf_950_88 ?_
    refine mj_aload_n dX13_value_258 0 rfl ?_
    refine t_getI dX13_value_259 F_X13_782 qf_950_89 ?_
    refine t_bndK hk (fun r1 er1 hk => ?_)
    refine t_callVvE dX13_value_262 M_X13_fail (C_X13_fail _ _ _ _ er1) ML_X13_411 IM_X13_fail SE_X13_fail qc_950 rfl (As := [.int (s.1 950 88), .int (s.1 950 89)]) rfl rfl (Nat.le_of_ble_eq_true rfl) (Nat.le_of_ble_eq_true rfl) (Nat.le_of_ble_eq_true rfl) (Nat.le_of_ble_eq_true rfl) ?_
    exact B_X13_value_265 _ _ _ hk
noncomputable def k_X13_value_124 (l2 : Int32) (l3 : Int32) (s : t_S) : Option ((Int32 × Int32 × t_S) ⊕ (Int32 × t_S)) :=
 if (s.1 950 24) ≤ l3 then ((k_X13_value_246 l2 s).map Sum.inr)
 else (if (s.1 950 2) = (0 : Int32) then (if t_ix l3 13000 = true then
  if (s.1 955 (l3.toNatClampNeg)) = (71 : Int32) then (k_X13_value_194 l2 l3 s)
 else (if (s.1 955 (l3.toNatClampNeg)) = (67 : Int32) then (k_X13_value_194 l2 l3 s)
 else (if (s.1 955 (l3.toNatClampNeg)) = (68 : Int32) then (k_X13_value_194 l2 l3 s)
 else (if (s.1 955 (l3.toNatClampNeg)) = (40 : Int32) then (k_X13_value_194 l2 l3 s)
 else (if (s.1 955 (l3.toNatClampNeg)) = (30 : Int32) then (k_X13_value_194 l2 l3 s)
 else (k_X13_value_199 l2 l3 0 s)))))
else none)
 else ((k_X13_value_246 l2 s).map Sum.inr))
set_option maxRecDepth 4000 in
set_option maxHeartbeats 1000000 in
theorem B_X13_value_124 {D : va_G} {cy : Nat → ClassId} {ad : Nat → Nat} {bs : Nat} {X : State → Heap → Prop} (l2 : Int32) (l3 : Int32) (s : t_S) (Q : (Int32 × Int32 × t_S) ⊕ (Int32 × t_S) → Prop) (Hb124 : ∀ (y0 : Int32) (y1 : Int32) (y2 : t_S), Q (.inl (y0, y1, y2)) → mj_G D cy ad bs X cX13_value 5 yX13_value.cls (some .int) yX13_value.name 1784 0 0 1065 (t_P (fun v s' => ∃ x, v = some (.int x) ∧ Q (.inr ((x, s'))))) 124 [(0, .ref 950), (2, .int (y0)), (3, .int (y1))] [] (t_m y2) 1065 0 0) (hk : t_hk (k_X13_value_124 l2 l3 s) Q) : mj_G D cy ad bs X cX13_value 5 yX13_value.cls (some .int) yX13_value.name 1784 0 0 1065 (t_P (fun v s' => ∃ x, v = some (.int x) ∧ Q (.inr ((x, s'))))) 124 [(0, .ref 950), (2, .int l2), (3, .int l3)] [] (t_m s) 1065 0 0 := by
  refine mj_iload_n dX13_value_124 2 rfl ?_
  refine mj_aload_n dX13_value_125 0 rfl ?_
  refine t_getI dX13_value_126 F_X13_474 qf_950_24 ?_
  refine mj_icmp_ge 246 dX13_value_129 (by decide) (fun z => t_posK hk z (fun hk => ?_)) (fun z => t_negK hk z (fun hk => ?_))
  · refine mj_sublv [(0, .ref 950), (2, .int l2)] [0, 1] rfl ?_
    refine t_mapK hk (fun hk => ?_)
    exact B_X13_value_246 _ _ _ hk
  · refine mj_aload_n dX13_value_132 0 rfl ?_
    refine t_getI dX13_value_133 F_X13_375 qf_950_2 ?_
    refine mj_if_ne 246 dX13_value_136 (by decide) (fun z => t_negK hk z (fun hk => ?_)) (fun z => t_posK hk z (fun hk => ?_))
    · refine mj_sublv [(0, .ref 950), (2, .int l2)] [0, 1] rfl ?_
      refine t_mapK hk (fun hk => ?_)
      exact B_X13_value_246 _ _ _ hk
    · refine mj_aload_n dX13_value_139 0 rfl ?_
      refine t_getR 955 dX13_value_140 F_X13_26 qr_950_17 ?_
      refine mj_iload_n dX13_value_143 2 rfl ?_
      refine t_chkK hk (fun c0 hk => ?_)
      refine t_iald dX13_value_144 qa_955 (t_ixv c0) ?_
      refine mj_bipush (v := 71) dX13_value_145 (by decide) ?_
      refine mj_icmp_eq 194 dX13_value_147 (by decide) (fun z => t_posK hk z (fun hk => ?_)) (fun z => t_negK hk z (fun hk => ?_))
      · exact B_X13_value_194 _ _ _ _ (fun y0 y1 y2 hx => Hb124 y0 y1 y2 hx) hk
      · refine mj_aload_n dX13_value_150 0 rfl ?_
        refine t_getR 955 dX13_value_151 F_X13_26 qr_950_17 ?_
        refine mj_iload_n dX13_value_154 2 rfl ?_
        refine t_iald dX13_value_155 qa_955 (t_ixv c0) ?_
        refine mj_bipush (v := 67) dX13_value_156 (by decide) ?_
        refine mj_icmp_eq 194 dX13_value_158 (by decide) (fun z => t_posK hk z (fun hk => ?_)) (fun z => t_negK hk z (fun hk => ?_))
        · exact B_X13_value_194 _ _ _ _ (fun y0 y1 y2 hx => Hb124 y0 y1 y2 hx) hk
        · refine mj_aload_n dX13_value_161 0 rfl ?_
          refine t_getR 955 dX13_value_162 F_X13_26 qr_950_17 ?_
          refine mj_iload_n dX13_value_165 2 rfl ?_
          refine t_iald dX13_value_166 qa_955 (t_ixv c0) ?_
          refine mj_bipush (v := 68) dX13_value_167 (by decide) ?_
          refine mj_icmp_eq 194 dX13_value_169 (by decide) (fun z => t_posK hk z (fun hk => ?_)) (fun z => t_negK hk z (fun hk => ?_))
          · exact B_X13_value_194 _ _ _ _ (fun y0 y1 y2 hx => Hb124 y0 y1 y2 hx) hk
          · refine mj_aload_n dX13_value_172 0 rfl ?_
            refine t_getR 955 dX13_value_173 F_X13_26 qr_950_17 ?_
            refine mj_iload_n dX13_value_176 2 rfl ?_
            refine t_iald dX13_value_177 qa_955 (t_ixv c0) ?_
            refine mj_bipush (v := 40) dX13_value_178 (by decide) ?_
            refine mj_icmp_eq 194 dX13_value_180 (by decide) (fun z => t_posK hk z (fun hk => ?_)) (fun z => t_negK hk z (fun hk => ?_))
            · exact B_X13_value_194 _ _ _ _ (fun y0 y1 y2 hx => Hb124 y0 y1 y2 hx) hk
            · refine mj_aload_n dX13_value_183 0 rfl ?_
              refine t_getR 955 dX13_value_184 F_X13_26 qr_950_17 ?_
              refine mj_iload_n dX13_value_187 2 rfl ?_
              refine t_iald dX13_value_188 qa_955 (t_ixv c0) ?_
              refine mj_bipush (v := 30) dX13_value_189 (by decide) ?_
              refine mj_icmp_ne 198 dX13_value_191 (by decide) (fun z => t_negK hk z (fun hk => ?_)) (fun z => t_posK hk z (fun hk => ?_))
              · refine mj_iconst (v := 0) dX13_value_198 (by decide) ?_
                exact B_X13_value_199 _ _ _ _ _ (fun y0 y1 y2 hx => Hb124 y0 y1 y2 hx) hk
              · exact B_X13_value_194 _ _ _ _ (fun y0 y1 y2 hx => Hb124 y0 y1 y2 hx) hk
noncomputable def b_X13_value_124 (x : Int32 × Int32 × t_S) : Option ((Int32 × Int32 × t_S) ⊕ (Int32 × t_S)) := k_X13_value_124 x.1 x.2.1 x.2.2
set_option maxRecDepth 4000 in
set_option maxHeartbeats 1000000 in
theorem LH_X13_value_124 {D : va_G} {cy : Nat → ClassId} {ad : Nat → Nat} {bs : Nat} {X : State → Heap → Prop} : ∀ (n : Nat) (y0 : Int32) (y1 : Int32) (y2 : t_S) (Q : Int32 × t_S → Prop) (hk : t_hk (t_loop (b_X13_value_124) n (y0, y1, y2)) Q), mj_G D cy ad bs X cX13_value 5 yX13_value.cls (some .int) yX13_value.name 1784 0 0 1065 (t_P (fun v s' => ∃ x, v = some (.int x) ∧ Q ((x, s')))) 124 [(0, .ref 950), (2, .int (y0)), (3, .int (y1))] [] (t_m y2) 1065 0 0 := by
  intro n
  induction n with
  | zero => intro y0 y1 y2 Q hk; obtain ⟨r, hr, _⟩ := hk; cases hr
  | succ n ih =>
    intro y0 y1 y2 Q hk
    exact B_X13_value_124 y0 y1 y2 (fun y => t_lq (b_X13_value_124) n Q y) (fun y0' y1' y2' hy => ih y0' y1' y2' Q hy) (t_lp (b := b_X13_value_124) (n := n) (x := (y0, y1, y2)) hk)
noncomputable def k_X13_value_117 (l1 : Int32) (l2 : Int32) (s : t_S) : Option (Int32 × t_S) :=
 t_let (t_setI s 950 88 (0 : Int32)) (fun s1 =>
 t_loop (b_X13_value_124) t_N (l2, l1, s1))
set_option maxRecDepth 4000 in
set_option maxHeartbeats 1000000 in
theorem B_X13_value_117 {D : va_G} {cy : Nat → ClassId} {ad : Nat → Nat} {bs : Nat} {X : State → Heap → Prop} (l1 : Int32) (l2 : Int32) (s : t_S) (Q : Int32 × t_S → Prop) (hk : t_hk (k_X13_value_117 l1 l2 s) Q) : mj_G D cy ad bs X cX13_value 5 yX13_value.cls (some .int) yX13_value.name 1784 0 0 1065 (t_P (fun v s' => ∃ x, v = some (.int x) ∧ Q ((x, s')))) 117 [(0, .ref 950), (1, .int l1), (2, .int l2)] [] (t_m s) 1065 0 0 := by
  refine mj_aload_n dX13_value_117 0 rfl ?_
  refine mj_iconst (v := 0) dX13_value_118 (by decide) ?_
  refine t_putIK dX13_value_119 F_X13_779 qf_950_88 rfl (fun s1 ws1 => t_letE hk ws1 (fun hk => ?_))
  refine mj_iload_n dX13_value_122 1 rfl ?_
  refine mj_istore_n 3 (lv2 := [(3, .int l1), (0, .ref 950), (1, .int l1), (2, .int l2)]) dX13_value_123 rfl (by decide) rfl ?_
  refine mj_sublv [(0, .ref 950), (2, .int l2), (3, .int l1)] [1, 3, 0] rfl ?_
  exact LH_X13_value_124 _ l2 l1 s1 _ hk
noncomputable def f_X13_value (s : t_S) : Option (Int32 × t_S) :=
 if (s.1 950 65) = (0 : Int32) then (some ((-1 : Int32), s))
 else (if (s.1 950 96) = (40 : Int32) then (some ((-3 : Int32), s))
 else (t_let (t_setI s 950 16 (1 : Int32)) (fun s1 =>
 t_let (t_setI s1 950 24 (s1.1 950 29)) (fun s2 =>
 t_let (t_setI s2 950 26 (s2.1 950 27)) (fun s3 =>
 t_let (t_setI s3 950 28 (0 : Int32)) (fun s4 =>
 t_let (t_setI s4 950 36 (s4.1 950 82)) (fun s5 =>
 t_let (t_setI s5 950 2 (0 : Int32)) (fun s6 =>
 t_let (t_setI s6 950 3 (-1 : Int32)) (fun s7 =>
 t_let (t_setI s7 950 4 (0 : Int32)) (fun s8 =>
 t_let (t_setI s8 950 32 (0 : Int32)) (fun s9 =>
 t_let (t_setI s9 950 33 (3000 : Int32)) (fun s10 =>
 t_let (t_setI s10 950 34 (0 : Int32)) (fun s11 =>
 (f_X13_next s11).bind (fun r1 =>
 (f_X13_exp r1).bind (fun r2 =>
 if (r2.2.1 950 5) = (0 : Int32) then (k_X13_value_117 (s11.1 950 24) r2.1 r2.2)
 else ((f_X13_fail (2 : Int32) (r2.2.1 950 6) r2.2).bind (fun r3 =>
 k_X13_value_117 (s11.1 950 24) r2.1 r3)))))))))))))))))
set_option maxRecDepth 4000 in
set_option maxHeartbeats 1000000 in
theorem C_X13_value (s : t_S) (r : Int32 × t_S) (hr : f_X13_value s = some r) : t_C yX13_value cX13_value 5 (some .int) 1784 [.ref 950] s (fun v s' => v = some (.int r.1) ∧ s' = r.2) := by
  refine t_C.imp (P := fun v s' => ∃ x, v = some (.int x) ∧ (fun q => q = r) ((x, s'))) (t_C.of (by decide +kernel) (Nat.le_of_ble_eq_true rfl) ?_) (fun v s' hp => by obtain ⟨x, rfl, rfl⟩ := hp; exact ⟨rfl, rfl⟩)
  intro D cy ad bs X
  have hk : t_hk (f_X13_value s) (fun q => q = r) := ⟨r, hr, rfl⟩
  show mj_G D cy ad bs X cX13_value 5 yX13_value.cls (some .int) yX13_value.name 1784 0 0 1065 (t_P (fun v s' => ∃ x, v = some (.int x) ∧ (fun q => q = r) ((x, s')))) 0 [(0, .ref 950)] [] (t_m s) 1065 0 0
  refine mj_aload_n dX13_value_0 0 rfl ?_
  refine t_getI dX13_value_1 F_X13_642 qf_950_65 ?_
  refine mj_if_ne 9 dX13_value_4 (by decide) (fun z => t_negK hk z (fun hk => ?_)) (fun z => t_posK hk z (fun hk => ?_))
  · refine mj_aload_n dX13_value_9 0 rfl ?_
    refine t_getI dX13_value_10 F_X13_654 qf_950_96 ?_
    refine mj_bipush (v := 40) dX13_value_13 (by decide) ?_
    refine mj_icmp_ne 21 dX13_value_15 (by decide) (fun z => t_negK hk z (fun hk => ?_)) (fun z => t_posK hk z (fun hk => ?_))
    · refine mj_aload_n dX13_value_21 0 rfl ?_
      refine mj_iconst (v := 1) dX13_value_22 (by decide) ?_
      refine t_putIK dX13_value_23 F_X13_461 qf_950_16 (by decide) (fun s1 ws1 => t_letE hk ws1 (fun hk => ?_))
      refine mj_aload_n dX13_value_26 0 rfl ?_
      refine mj_aload_n dX13_value_27 0 rfl ?_
      refine t_getI dX13_value_28 F_X13_664 qf_950_29 ?_
      refine t_putIK dX13_value_31 F_X13_474 qf_950_24 rfl (fun s2 ws2 => t_letE hk ws2 (fun hk => ?_))
      refine mj_aload_n dX13_value_34 0 rfl ?_
      refine mj_aload_n dX13_value_35 0 rfl ?_
      refine t_getI dX13_value_36 F_X13_667 qf_950_27 ?_
      refine t_putIK dX13_value_39 F_X13_479 qf_950_26 rfl (fun s3 ws3 => t_letE hk ws3 (fun hk => ?_))
      refine mj_aload_n dX13_value_42 0 rfl ?_
      refine mj_iconst (v := 0) dX13_value_43 (by decide) ?_
      refine t_putIK dX13_value_44 F_X13_471 qf_950_28 rfl (fun s4 ws4 => t_letE hk ws4 (fun hk => ?_))
      refine mj_aload_n dX13_value_47 0 rfl ?_
      refine mj_aload_n dX13_value_48 0 rfl ?_
      refine t_getI dX13_value_49 F_X13_673 qf_950_82 ?_
      refine t_putIK dX13_value_52 F_X13_591 qf_950_36 rfl (fun s5 ws5 => t_letE hk ws5 (fun hk => ?_))
      refine mj_aload_n dX13_value_55 0 rfl ?_
      refine mj_iconst (v := 0) dX13_value_56 (by decide) ?_
      refine t_putIK dX13_value_57 F_X13_375 qf_950_2 rfl (fun s6 ws6 => t_letE hk ws6 (fun hk => ?_))
      refine mj_aload_n dX13_value_60 0 rfl ?_
      refine mj_iconst (v := (-1)) dX13_value_61 (by decide) ?_
      refine t_putIK dX13_value_62 F_X13_13 qf_950_3 rfl (fun s7 ws7 => t_letE hk ws7 (fun hk => ?_))
      refine mj_aload_n dX13_value_65 0 rfl ?_
      refine mj_iconst (v := 0) dX13_value_66 (by decide) ?_
      refine t_putIK dX13_value_67 F_X13_378 qf_950_4 rfl (fun s8 ws8 => t_letE hk ws8 (fun hk => ?_))
      refine mj_aload_n dX13_value_70 0 rfl ?_
      refine mj_iconst (v := 0) dX13_value_71 (by decide) ?_
      refine t_putIK dX13_value_72 F_X13_552 qf_950_32 rfl (fun s9 ws9 => t_letE hk ws9 (fun hk => ?_))
      refine mj_aload_n dX13_value_75 0 rfl ?_
      refine mj_sipush (v := 3000) dX13_value_76 (by decide) ?_
      refine t_putIK dX13_value_79 F_X13_584 qf_950_33 rfl (fun s10 ws10 => t_letE hk ws10 (fun hk => ?_))
      refine mj_aload_n dX13_value_82 0 rfl ?_
      refine mj_iconst (v := 0) dX13_value_83 (by decide) ?_
      refine t_putIK dX13_value_84 F_X13_621 qf_950_34 rfl (fun s11 ws11 => t_letE hk ws11 (fun hk => ?_))
      refine mj_aload_n dX13_value_87 0 rfl ?_
      refine t_getI dX13_value_88 F_X13_474 qf_950_24 ?_
      refine mj_istore_n 1 (lv2 := [(1, .int (s11.1 950 24)), (0, .ref 950)]) dX13_value_91 rfl (by decide) rfl ?_
      refine mj_aload_n dX13_value_92 1 rfl ?_
      refine t_bndK hk (fun r1 er1 hk => ?_)
      refine t_callVvE dX13_value_93 M_X13_next (C_X13_next _ _ er1) ML_X13_452 IM_X13_next SE_X13_next qc_950 rfl (As := []) rfl rfl (Nat.le_of_ble_eq_true rfl) (Nat.le_of_ble_eq_true rfl) (Nat.le_of_ble_eq_true rfl) (Nat.le_of_ble_eq_true rfl) ?_
      refine mj_aload_n dX13_value_96 1 rfl ?_
      refine t_bndK hk (fun r2 er2 hk => ?_)
      refine t_callSiE dX13_value_97 M_X13_exp (C_X13_exp _ _ er2) ML_X13_581 SM_X13_exp (As := [.ref 950]) rfl rfl (Nat.le_of_ble_eq_true rfl) (Nat.le_of_ble_eq_true rfl) (Nat.le_of_ble_eq_true rfl) (Nat.le_of_ble_eq_true rfl) ?_
      refine mj_istore_n 2 (lv2 := [(2, .int r2.1), (1, .int (s11.1 950 24)), (0, .ref 950)]) dX13_value_100 rfl (by decide) rfl ?_
      refine mj_aload_n dX13_value_101 2 rfl ?_
      refine t_getI dX13_value_102 F_X13_385 qf_950_5 ?_
      refine mj_if_eq 117 dX13_value_105 (by decide) (fun z => t_posK hk z (fun hk => ?_)) (fun z => t_negK hk z (fun hk => ?_))
      · refine mj_sublv [(0, .ref 950), (1, .int (s11.1 950 24)), (2, .int r2.1)] [2, 1, 0] rfl ?_
        exact B_X13_value_117 _ _ _ _ hk
      · refine mj_aload_n dX13_value_108 2 rfl ?_
        refine mj_iconst (v := 2) dX13_value_109 (by decide) ?_
        refine mj_aload_n dX13_value_110 2 rfl ?_
        refine t_getI dX13_value_111 F_X13_391 qf_950_6 ?_
        refine t_bndK hk (fun r3 er3 hk => ?_)
        refine t_callVvE dX13_value_114 M_X13_fail (C_X13_fail _ _ _ _ er3) ML_X13_411 IM_X13_fail SE_X13_fail qc_950 rfl (As := [.int 2, .int (r2.2.1 950 6)]) rfl rfl (Nat.le_of_ble_eq_true rfl) (Nat.le_of_ble_eq_true rfl) (Nat.le_of_ble_eq_true rfl) (Nat.le_of_ble_eq_true rfl) ?_
        refine mj_sublv [(0, .ref 950), (1, .int (s11.1 950 24)), (2, .int r2.1)] [2, 1, 0] rfl ?_
        exact B_X13_value_117 _ _ _ _ hk
    · refine mj_bipush (v := (-3)) dX13_value_18 (by decide) ?_
      exact t_somK hk (fun hf => t_iret dX13_value_20 rfl rfl ⟨_, rfl, hf⟩ (Nat.le_of_ble_eq_true rfl) (Nat.le_of_ble_eq_true rfl))
  · refine mj_iconst (v := (-1)) dX13_value_7 (by decide) ?_
    exact t_somK hk (fun hf => t_iret dX13_value_8 rfl rfl ⟨_, rfl, hf⟩ (Nat.le_of_ble_eq_true rfl) (Nat.le_of_ble_eq_true rfl))

theorem dX13_variable_0 : decode cX13_variable 0 = .ok (.aload_n 0, 1) := by decide +kernel
theorem dX13_variable_1 : decode cX13_variable 1 = .ok (.iload_n 1, 1) := by decide +kernel
theorem dX13_variable_10 : decode cX13_variable 10 = .ok (.iload_n 2, 1) := by decide +kernel
theorem dX13_variable_100 : decode cX13_variable 100 = .ok (.ifCond .lt 23, 3) := by decide +kernel
theorem dX13_variable_103 : decode cX13_variable 103 = .ok (.aload_n 0, 1) := by decide +kernel
theorem dX13_variable_104 : decode cX13_variable 104 = .ok (.getfield 342, 3) := by decide +kernel
theorem dX13_variable_107 : decode cX13_variable 107 = .ok (.bipush 64, 2) := by decide +kernel
theorem dX13_variable_109 : decode cX13_variable 109 = .ok (.iload_n 1, 1) := by decide +kernel
theorem dX13_variable_11 : decode cX13_variable 11 = .ok (.i2l, 1) := by decide +kernel
theorem dX13_variable_110 : decode cX13_variable 110 = .ok (.imul, 1) := by decide +kernel
theorem dX13_variable_111 : decode cX13_variable 111 = .ok (.bipush 8, 2) := by decide +kernel
theorem dX13_variable_113 : decode cX13_variable 113 = .ok (.iload 4, 2) := by decide +kernel
theorem dX13_variable_115 : decode cX13_variable 115 = .ok (.imul, 1) := by decide +kernel
theorem dX13_variable_116 : decode cX13_variable 116 = .ok (.iadd, 1) := by decide +kernel
theorem dX13_variable_117 : decode cX13_variable 117 = .ok (.iload_n 3, 1) := by decide +kernel
theorem dX13_variable_118 : decode cX13_variable 118 = .ok (.iadd, 1) := by decide +kernel
theorem dX13_variable_119 : decode cX13_variable 119 = .ok (.baload, 1) := by decide +kernel
theorem dX13_variable_12 : decode cX13_variable 12 = .ok (.lconst 0, 1) := by decide +kernel
theorem dX13_variable_120 : decode cX13_variable 120 = .ok (.ifCond .ne 6, 3) := by decide +kernel
theorem dX13_variable_123 : decode cX13_variable 123 = .ok (.bipush (-2), 2) := by decide +kernel
theorem dX13_variable_125 : decode cX13_variable 125 = .ok (.ireturn, 1) := by decide +kernel
theorem dX13_variable_126 : decode cX13_variable 126 = .ok (.aload_n 0, 1) := by decide +kernel
theorem dX13_variable_127 : decode cX13_variable 127 = .ok (.sipush 260, 3) := by decide +kernel
theorem dX13_variable_13 : decode cX13_variable 13 = .ok (.aload_n 0, 1) := by decide +kernel
theorem dX13_variable_130 : decode cX13_variable 130 = .ok (.aload_n 0, 1) := by decide +kernel
theorem dX13_variable_131 : decode cX13_variable 131 = .ok (.iload_n 1, 1) := by decide +kernel
theorem dX13_variable_132 : decode cX13_variable 132 = .ok (.iload 4, 2) := by decide +kernel
theorem dX13_variable_134 : decode cX13_variable 134 = .ok (.invokevirtual 1340, 3) := by decide +kernel
theorem dX13_variable_137 : decode cX13_variable 137 = .ok (.iload_n 3, 1) := by decide +kernel
theorem dX13_variable_138 : decode cX13_variable 138 = .ok (.iadd, 1) := by decide +kernel
theorem dX13_variable_139 : decode cX13_variable 139 = .ok (.imul, 1) := by decide +kernel
theorem dX13_variable_14 : decode cX13_variable 14 = .ok (.getfield 99, 3) := by decide +kernel
theorem dX13_variable_140 : decode cX13_variable 140 = .ok (.invokevirtual 999, 3) := by decide +kernel
theorem dX13_variable_143 : decode cX13_variable 143 = .ok (.ireturn, 1) := by decide +kernel
theorem dX13_variable_17 : decode cX13_variable 17 = .ok (.aload_n 0, 1) := by decide +kernel
theorem dX13_variable_18 : decode cX13_variable 18 = .ok (.getfield 273, 3) := by decide +kernel
theorem dX13_variable_2 : decode cX13_variable 2 = .ok (.invokevirtual 1352, 3) := by decide +kernel
theorem dX13_variable_21 : decode cX13_variable 21 = .ok (.iload_n 1, 1) := by decide +kernel
theorem dX13_variable_22 : decode cX13_variable 22 = .ok (.iaload, 1) := by decide +kernel
theorem dX13_variable_23 : decode cX13_variable 23 = .ok (.iaload, 1) := by decide +kernel
theorem dX13_variable_24 : decode cX13_variable 24 = .ok (.iconst 1, 1) := by decide +kernel
theorem dX13_variable_25 : decode cX13_variable 25 = .ok (.isub, 1) := by decide +kernel
theorem dX13_variable_26 : decode cX13_variable 26 = .ok (.i2l, 1) := by decide +kernel
theorem dX13_variable_27 : decode cX13_variable 27 = .ok (.invokestatic 371, 3) := by decide +kernel
theorem dX13_variable_30 : decode cX13_variable 30 = .ok (.ifCond .eq 41, 3) := by decide +kernel
theorem dX13_variable_33 : decode cX13_variable 33 = .ok (.aload_n 0, 1) := by decide +kernel
theorem dX13_variable_34 : decode cX13_variable 34 = .ok (.getfield 336, 3) := by decide +kernel
theorem dX13_variable_37 : decode cX13_variable 37 = .ok (.bipush 8, 2) := by decide +kernel
theorem dX13_variable_39 : decode cX13_variable 39 = .ok (.iload_n 1, 1) := by decide +kernel
theorem dX13_variable_40 : decode cX13_variable 40 = .ok (.imul, 1) := by decide +kernel
theorem dX13_variable_41 : decode cX13_variable 41 = .ok (.iload_n 2, 1) := by decide +kernel
theorem dX13_variable_42 : decode cX13_variable 42 = .ok (.iadd, 1) := by decide +kernel
theorem dX13_variable_43 : decode cX13_variable 43 = .ok (.baload, 1) := by decide +kernel
theorem dX13_variable_44 : decode cX13_variable 44 = .ok (.ifCond .ne 8, 3) := by decide +kernel
theorem dX13_variable_47 : decode cX13_variable 47 = .ok (.bipush (-2), 2) := by decide +kernel
theorem dX13_variable_49 : decode cX13_variable 49 = .ok (.goto 21, 3) := by decide +kernel
theorem dX13_variable_5 : decode cX13_variable 5 = .ok (.ifCond .eq 5, 3) := by decide +kernel
theorem dX13_variable_52 : decode cX13_variable 52 = .ok (.aload_n 0, 1) := by decide +kernel
theorem dX13_variable_53 : decode cX13_variable 53 = .ok (.sipush 260, 3) := by decide +kernel
theorem dX13_variable_56 : decode cX13_variable 56 = .ok (.sipush 840, 3) := by decide +kernel
theorem dX13_variable_59 : decode cX13_variable 59 = .ok (.bipush 8, 2) := by decide +kernel
theorem dX13_variable_61 : decode cX13_variable 61 = .ok (.iload_n 1, 1) := by decide +kernel
theorem dX13_variable_62 : decode cX13_variable 62 = .ok (.imul, 1) := by decide +kernel
theorem dX13_variable_63 : decode cX13_variable 63 = .ok (.iadd, 1) := by decide +kernel
theorem dX13_variable_64 : decode cX13_variable 64 = .ok (.iload_n 2, 1) := by decide +kernel
theorem dX13_variable_65 : decode cX13_variable 65 = .ok (.iadd, 1) := by decide +kernel
theorem dX13_variable_66 : decode cX13_variable 66 = .ok (.imul, 1) := by decide +kernel
theorem dX13_variable_67 : decode cX13_variable 67 = .ok (.invokevirtual 999, 3) := by decide +kernel
theorem dX13_variable_70 : decode cX13_variable 70 = .ok (.ireturn, 1) := by decide +kernel
theorem dX13_variable_71 : decode cX13_variable 71 = .ok (.iload_n 2, 1) := by decide +kernel
theorem dX13_variable_72 : decode cX13_variable 72 = .ok (.bipush 100, 2) := by decide +kernel
theorem dX13_variable_74 : decode cX13_variable 74 = .ok (.isub, 1) := by decide +kernel
theorem dX13_variable_75 : decode cX13_variable 75 = .ok (.istore_n 3, 1) := by decide +kernel
theorem dX13_variable_76 : decode cX13_variable 76 = .ok (.aload_n 0, 1) := by decide +kernel
theorem dX13_variable_77 : decode cX13_variable 77 = .ok (.getfield 282, 3) := by decide +kernel
theorem dX13_variable_8 : decode cX13_variable 8 = .ok (.iconst (-1), 1) := by decide +kernel
theorem dX13_variable_80 : decode cX13_variable 80 = .ok (.iload_n 1, 1) := by decide +kernel
theorem dX13_variable_81 : decode cX13_variable 81 = .ok (.iaload, 1) := by decide +kernel
theorem dX13_variable_82 : decode cX13_variable 82 = .ok (.iconst 1, 1) := by decide +kernel
theorem dX13_variable_83 : decode cX13_variable 83 = .ok (.isub, 1) := by decide +kernel
theorem dX13_variable_84 : decode cX13_variable 84 = .ok (.istore 4, 2) := by decide +kernel
theorem dX13_variable_86 : decode cX13_variable 86 = .ok (.iload_n 3, 1) := by decide +kernel
theorem dX13_variable_87 : decode cX13_variable 87 = .ok (.i2l, 1) := by decide +kernel
theorem dX13_variable_88 : decode cX13_variable 88 = .ok (.lconst 0, 1) := by decide +kernel
theorem dX13_variable_89 : decode cX13_variable 89 = .ok (.ldc2_w 697, 3) := by decide +kernel
theorem dX13_variable_9 : decode cX13_variable 9 = .ok (.ireturn, 1) := by decide +kernel
theorem dX13_variable_92 : decode cX13_variable 92 = .ok (.invokestatic 371, 3) := by decide +kernel
theorem dX13_variable_95 : decode cX13_variable 95 = .ok (.ifCond .eq 28, 3) := by decide +kernel
theorem dX13_variable_98 : decode cX13_variable 98 = .ok (.iload 4, 2) := by decide +kernel
noncomputable def f_X13_variable (x1 : Int32) (x2 : Int32) (s : t_S) : Option (Int32 × t_S) :=
 if (f_X13_noComponent x1 s) = (0 : Int32) then (if t_ix x1 8 = true then
  if t_ix (s.1 1035 (x1.toNatClampNeg)) 8 = true then
  if (f_X13_in x2.toInt64 (0 : Int64) (((s.1 979 ((s.1 1035 (x1.toNatClampNeg)).toNatClampNeg)) - (1 : Int32)).toInt64) s) = (0 : Int32) then (if (f_X13_in ((x2 - (100 : Int32)).toInt64) (0 : Int64) (7 : Int64) s) = (0 : Int32) then (some ((-2 : Int32), s))
 else (if ((s.1 1038 (x1.toNatClampNeg)) - (1 : Int32)) < (0 : Int32) then (some ((-2 : Int32), s))
 else (if t_ix ((((64 : Int32) * x1) + ((8 : Int32) * ((s.1 1038 (x1.toNatClampNeg)) - (1 : Int32)))) + (x2 - (100 : Int32))) 512 = true then
  if (s.1 1058 (((((64 : Int32) * x1) + ((8 : Int32) * ((s.1 1038 (x1.toNatClampNeg)) - (1 : Int32)))) + (x2 - (100 : Int32))).toNatClampNeg)) = (0 : Int32) then (some ((-2 : Int32), s))
 else ((f_X13_keep ((260 : Int32) * ((f_X13_frameSlot x1 ((s.1 1038 (x1.toNatClampNeg)) - (1 : Int32)) s) + (x2 - (100 : Int32)))) s).bind (fun r8 =>
 some (r8.1, r8.2)))
else none)))
 else (if t_ix (((8 : Int32) * x1) + x2) 64 = true then
  if (s.1 1056 ((((8 : Int32) * x1) + x2).toNatClampNeg)) = (0 : Int32) then (some ((-2 : Int32), s))
 else ((f_X13_keep ((260 : Int32) * (((840 : Int32) + ((8 : Int32) * x1)) + x2)) s).bind (fun r10 =>
 some (r10.1, r10.2)))
else none)
else none
else none)
 else (some ((-1 : Int32), s))
set_option maxRecDepth 4000 in
set_option maxHeartbeats 1000000 in
theorem C_X13_variable (x1 : Int32) (x2 : Int32) (s : t_S) (r : Int32 × t_S) (hr : f_X13_variable x1 x2 s = some r) : t_C yX13_variable cX13_variable 5 (some .int) 4 [.ref 950, .int x1, .int x2] s (fun v s' => v = some (.int r.1) ∧ s' = r.2) := by
  refine t_C.imp (P := fun v s' => ∃ x, v = some (.int x) ∧ (fun q => q = r) ((x, s'))) (t_C.of (by decide +kernel) (Nat.le_of_ble_eq_true rfl) ?_) (fun v s' hp => by obtain ⟨x, rfl, rfl⟩ := hp; exact ⟨rfl, rfl⟩)
  intro D cy ad bs X
  have hk : t_hk (f_X13_variable x1 x2 s) (fun q => q = r) := ⟨r, hr, rfl⟩
  show mj_G D cy ad bs X cX13_variable 5 yX13_variable.cls (some .int) yX13_variable.name 4 0 0 1065 (t_P (fun v s' => ∃ x, v = some (.int x) ∧ (fun q => q = r) ((x, s')))) 0 [(0, .ref 950), (1, .int x1), (2, .int x2)] [] (t_m s) 1065 0 0
  refine mj_aload_n dX13_variable_0 0 rfl ?_
  refine mj_iload_n dX13_variable_1 1 rfl ?_
  refine t_callViP dX13_variable_2 M_X13_noComponent (C_X13_noComponent _ _) ML_X13_1352 IM_X13_noComponent SE_X13_noComponent qc_950 rfl (As := [.int x1]) rfl rfl (Nat.le_of_ble_eq_true rfl) (Nat.le_of_ble_eq_true rfl) (Nat.le_of_ble_eq_true rfl) (Nat.le_of_ble_eq_true rfl) ?_
  refine mj_if_eq 10 dX13_variable_5 (by decide) (fun z => t_posK hk z (fun hk => ?_)) (fun z => t_negK hk z (fun hk => ?_))
  · refine mj_iload_n dX13_variable_10 2 rfl ?_
    refine mj_i2l (v := x2.toInt64) dX13_variable_11 rfl ?_
    refine mj_lconst (v := 0) dX13_variable_12 (by decide) ?_
    refine mj_aload_n dX13_variable_13 0 rfl ?_
    refine t_getR 979 dX13_variable_14 F_X13_99 qr_950_54 ?_
    refine mj_aload_n dX13_variable_17 0 rfl ?_
    refine t_getR 1035 dX13_variable_18 F_X13_273 qr_950_150 ?_
    refine mj_iload_n dX13_variable_21 1 rfl ?_
    refine t_chkK hk (fun c1 hk => ?_)
    refine t_iald dX13_variable_22 qa_1035 (t_ixv c1) ?_
    refine t_chkK hk (fun c2 hk => ?_)
    refine t_iald dX13_variable_23 qa_979 (t_ixv c2) ?_
    refine mj_iconst (v := 1) dX13_variable_24 (by decide) ?_
    refine mj_isub dX13_variable_25 ?_
    refine mj_i2l (v := ((s.1 979 ((s.1 1035 (x1.toNatClampNeg)).toNatClampNeg)) - (1 : Int32)).toInt64) dX13_variable_26 rfl ?_
    refine t_callSiP dX13_variable_27 M_X13_in (C_X13_in _ _ _ _) ML_X13_371 SM_X13_in (As := [.long x2.toInt64, .long 0, .long (((s.1 979 ((s.1 1035 (x1.toNatClampNeg)).toNatClampNeg)) - (1 : Int32)).toInt64)]) rfl rfl (Nat.le_of_ble_eq_true rfl) (Nat.le_of_ble_eq_true rfl) (Nat.le_of_ble_eq_true rfl) (Nat.le_of_ble_eq_true rfl) ?_
    refine mj_if_eq 71 dX13_variable_30 (by decide) (fun z => t_posK hk z (fun hk => ?_)) (fun z => t_negK hk z (fun hk => ?_))
    · refine mj_iload_n dX13_variable_71 2 rfl ?_
      refine mj_bipush (v := 100) dX13_variable_72 (by decide) ?_
      refine mj_isub dX13_variable_74 ?_
      refine mj_istore_n 3 (lv2 := [(3, .int (x2 - (100 : Int32))), (0, .ref 950), (1, .int x1), (2, .int x2)]) dX13_variable_75 rfl (by decide) rfl ?_
      refine mj_aload_n dX13_variable_76 1 rfl ?_
      refine t_getR 1038 dX13_variable_77 F_X13_282 qr_950_153 ?_
      refine mj_iload_n dX13_variable_80 2 rfl ?_
      refine t_iald dX13_variable_81 qa_1038 (t_ixv c1) ?_
      refine mj_iconst (v := 1) dX13_variable_82 (by decide) ?_
      refine mj_isub dX13_variable_83 ?_
      refine mj_istore (lv2 := [(4, .int ((s.1 1038 (x1.toNatClampNeg)) - (1 : Int32))), (3, .int (x2 - (100 : Int32))), (0, .ref 950), (1, .int x1), (2, .int x2)]) dX13_variable_84 (by decide) rfl ?_
      refine mj_iload_n dX13_variable_86 1 rfl ?_
      refine mj_i2l (v := (x2 - (100 : Int32)).toInt64) dX13_variable_87 rfl ?_
      refine mj_lconst (v := 0) dX13_variable_88 (by decide) ?_
      refine mj_ldc2 dX13_variable_89 K_X13_697 ?_
      refine t_callSiP dX13_variable_92 M_X13_in (C_X13_in _ _ _ _) ML_X13_371 SM_X13_in (As := [.long ((x2 - (100 : Int32)).toInt64), .long 0, .long 7]) rfl rfl (Nat.le_of_ble_eq_true rfl) (Nat.le_of_ble_eq_true rfl) (Nat.le_of_ble_eq_true rfl) (Nat.le_of_ble_eq_true rfl) ?_
      refine mj_if_eq 123 dX13_variable_95 (by decide) (fun z => t_posK hk z (fun hk => ?_)) (fun z => t_negK hk z (fun hk => ?_))
      · refine mj_bipush (v := (-2)) dX13_variable_123 (by decide) ?_
        exact t_somK hk (fun hf => t_iret dX13_variable_125 rfl rfl ⟨_, rfl, hf⟩ (Nat.le_of_ble_eq_true rfl) (Nat.le_of_ble_eq_true rfl))
      · refine mj_iload dX13_variable_98 0 rfl ?_
        refine mj_if_lt 123 dX13_variable_100 (by decide) (fun z => t_posK hk z (fun hk => ?_)) (fun z => t_negK hk z (fun hk => ?_))
        · refine mj_bipush (v := (-2)) dX13_variable_123 (by decide) ?_
          exact t_somK hk (fun hf => t_iret dX13_variable_125 rfl rfl ⟨_, rfl, hf⟩ (Nat.le_of_ble_eq_true rfl) (Nat.le_of_ble_eq_true rfl))
        · refine mj_aload_n dX13_variable_103 2 rfl ?_
          refine t_getR 1058 dX13_variable_104 F_X13_342 qr_950_177 ?_
          refine mj_bipush (v := 64) dX13_variable_107 (by decide) ?_
          refine mj_iload_n dX13_variable_109 3 rfl ?_
          refine mj_imul dX13_variable_110 ?_
          refine mj_bipush (v := 8) dX13_variable_111 (by decide) ?_
          refine mj_iload dX13_variable_113 0 rfl ?_
          refine mj_imul dX13_variable_115 ?_
          refine mj_iadd dX13_variable_116 ?_
          refine mj_iload_n dX13_variable_117 1 rfl ?_
          refine mj_iadd dX13_variable_118 ?_
          refine t_chkK hk (fun c5 hk => ?_)
          refine t_zald dX13_variable_119 qa_1058 (t_ixv c5) ?_
          refine mj_if_ne 126 dX13_variable_120 (by decide) (fun z => t_negK hk z (fun hk => ?_)) (fun z => t_posK hk z (fun hk => ?_))
          · refine mj_aload_n dX13_variable_126 2 rfl ?_
            refine mj_sipush (v := 260) dX13_variable_127 (by decide) ?_
            refine mj_aload_n dX13_variable_130 2 rfl ?_
            refine mj_iload_n dX13_variable_131 3 rfl ?_
            refine mj_iload dX13_variable_132 0 rfl ?_
            refine t_callViP dX13_variable_134 M_X13_frameSlot (C_X13_frameSlot _ _ _) ML_X13_1340 IM_X13_frameSlot SE_X13_frameSlot qc_950 rfl (As := [.int x1, .int ((s.1 1038 (x1.toNatClampNeg)) - (1 : Int32))]) rfl rfl (Nat.le_of_ble_eq_true rfl) (Nat.le_of_ble_eq_true rfl) (Nat.le_of_ble_eq_true rfl) (Nat.le_of_ble_eq_true rfl) ?_
            refine mj_iload_n dX13_variable_137 1 rfl ?_
            refine mj_iadd dX13_variable_138 ?_
            refine mj_imul dX13_variable_139 ?_
            refine t_bndK hk (fun r8 er8 hk => ?_)
            refine t_callViE dX13_variable_140 M_X13_keep (C_X13_keep _ _ _ er8) ML_X13_999 IM_X13_keep SE_X13_keep qc_950 rfl (As := [.int ((260 : Int32) * ((f_X13_frameSlot x1 ((s.1 1038 (x1.toNatClampNeg)) - (1 : Int32)) s) + (x2 - (100 : Int32))))]) rfl rfl (Nat.le_of_ble_eq_true rfl) (Nat.le_of_ble_eq_true rfl) (Nat.le_of_ble_eq_true rfl) (Nat.le_of_ble_eq_true rfl) ?_
            exact t_somK hk (fun hf => t_iret dX13_variable_143 rfl rfl ⟨_, rfl, hf⟩ (Nat.le_of_ble_eq_true rfl) (Nat.le_of_ble_eq_true rfl))
          · refine mj_bipush (v := (-2)) dX13_variable_123 (by decide) ?_
            exact t_somK hk (fun hf => t_iret dX13_variable_125 rfl rfl ⟨_, rfl, hf⟩ (Nat.le_of_ble_eq_true rfl) (Nat.le_of_ble_eq_true rfl))
    · refine mj_aload_n dX13_variable_33 0 rfl ?_
      refine t_getR 1056 dX13_variable_34 F_X13_336 qr_950_173 ?_
      refine mj_bipush (v := 8) dX13_variable_37 (by decide) ?_
      refine mj_iload_n dX13_variable_39 1 rfl ?_
      refine mj_imul dX13_variable_40 ?_
      refine mj_iload_n dX13_variable_41 2 rfl ?_
      refine mj_iadd dX13_variable_42 ?_
      refine t_chkK hk (fun c8 hk => ?_)
      refine t_zald dX13_variable_43 qa_1056 (t_ixv c8) ?_
      refine mj_if_ne 52 dX13_variable_44 (by decide) (fun z => t_negK hk z (fun hk => ?_)) (fun z => t_posK hk z (fun hk => ?_))
      · refine mj_aload_n dX13_variable_52 0 rfl ?_
        refine mj_sipush (v := 260) dX13_variable_53 (by decide) ?_
        refine mj_sipush (v := 840) dX13_variable_56 (by decide) ?_
        refine mj_bipush (v := 8) dX13_variable_59 (by decide) ?_
        refine mj_iload_n dX13_variable_61 1 rfl ?_
        refine mj_imul dX13_variable_62 ?_
        refine mj_iadd dX13_variable_63 ?_
        refine mj_iload_n dX13_variable_64 2 rfl ?_
        refine mj_iadd dX13_variable_65 ?_
        refine mj_imul dX13_variable_66 ?_
        refine t_bndK hk (fun r10 er10 hk => ?_)
        refine t_callViE dX13_variable_67 M_X13_keep (C_X13_keep _ _ _ er10) ML_X13_999 IM_X13_keep SE_X13_keep qc_950 rfl (As := [.int ((260 : Int32) * (((840 : Int32) + ((8 : Int32) * x1)) + x2))]) rfl rfl (Nat.le_of_ble_eq_true rfl) (Nat.le_of_ble_eq_true rfl) (Nat.le_of_ble_eq_true rfl) (Nat.le_of_ble_eq_true rfl) ?_
        exact t_somK hk (fun hf => t_iret dX13_variable_70 rfl rfl ⟨_, rfl, hf⟩ (Nat.le_of_ble_eq_true rfl) (Nat.le_of_ble_eq_true rfl))
      · refine mj_bipush (v := (-2)) dX13_variable_47 (by decide) ?_
        refine mj_goto 70 dX13_variable_49 (by decide) ?_
        exact t_somK hk (fun hf => t_iret dX13_variable_70 rfl rfl ⟨_, rfl, hf⟩ (Nat.le_of_ble_eq_true rfl) (Nat.le_of_ble_eq_true rfl))
  · refine mj_iconst (v := (-1)) dX13_variable_8 (by decide) ?_
    exact t_somK hk (fun hf => t_iret dX13_variable_9 rfl rfl ⟨_, rfl, hf⟩ (Nat.le_of_ble_eq_true rfl) (Nat.le_of_ble_eq_true rfl))

theorem dX13_why_0 : decode cX13_why 0 = .ok (.iload_n 1, 1) := by decide +kernel
theorem dX13_why_1 : decode cX13_why 1 = .ok (.i2l, 1) := by decide +kernel
theorem dX13_why_10 : decode cX13_why 10 = .ok (.invokestatic 371, 3) := by decide +kernel
theorem dX13_why_13 : decode cX13_why 13 = .ok (.ifCond .eq 12, 3) := by decide +kernel
theorem dX13_why_16 : decode cX13_why 16 = .ok (.aload_n 0, 1) := by decide +kernel
theorem dX13_why_17 : decode cX13_why 17 = .ok (.getfield 270, 3) := by decide +kernel
theorem dX13_why_2 : decode cX13_why 2 = .ok (.lconst 0, 1) := by decide +kernel
theorem dX13_why_20 : decode cX13_why 20 = .ok (.iload_n 1, 1) := by decide +kernel
theorem dX13_why_21 : decode cX13_why 21 = .ok (.iaload, 1) := by decide +kernel
theorem dX13_why_22 : decode cX13_why 22 = .ok (.goto 5, 3) := by decide +kernel
theorem dX13_why_25 : decode cX13_why 25 = .ok (.bipush (-2), 2) := by decide +kernel
theorem dX13_why_27 : decode cX13_why 27 = .ok (.ireturn, 1) := by decide +kernel
theorem dX13_why_3 : decode cX13_why 3 = .ok (.aload_n 0, 1) := by decide +kernel
theorem dX13_why_4 : decode cX13_why 4 = .ok (.getfield 1282, 3) := by decide +kernel
theorem dX13_why_7 : decode cX13_why 7 = .ok (.iconst 1, 1) := by decide +kernel
theorem dX13_why_8 : decode cX13_why 8 = .ok (.isub, 1) := by decide +kernel
theorem dX13_why_9 : decode cX13_why 9 = .ok (.i2l, 1) := by decide +kernel
noncomputable def f_X13_why (x1 : Int32) (s : t_S) : Option (Int32) :=
 if (f_X13_in x1.toInt64 (0 : Int64) (((s.1 950 146) - (1 : Int32)).toInt64) s) = (0 : Int32) then (some (-2 : Int32))
 else (if t_ix x1 130 = true then
  some (s.1 1034 (x1.toNatClampNeg))
else none)
set_option maxRecDepth 4000 in
set_option maxHeartbeats 1000000 in
theorem C_X13_why (x1 : Int32) (s : t_S) (r : Int32) (hr : f_X13_why x1 s = some r) : t_C yX13_why cX13_why 2 (some .int) 1 [.ref 950, .int x1] s (fun v s' => v = some (.int r) ∧ s' = s) := by
  refine t_C.imp (P := fun v s' => s' = s ∧ ∃ x, v = some (.int x) ∧ (fun q => q = r) (x)) (t_C.of (by decide +kernel) (Nat.le_of_ble_eq_true rfl) ?_) (fun v s' hp => by obtain ⟨rfl, x, rfl, rfl⟩ := hp; exact ⟨rfl, rfl⟩)
  intro D cy ad bs X
  have hk : t_hk (f_X13_why x1 s) (fun q => q = r) := ⟨r, hr, rfl⟩
  show mj_G D cy ad bs X cX13_why 2 yX13_why.cls (some .int) yX13_why.name 1 0 0 1065 (t_P (fun v s' => s' = s ∧ ∃ x, v = some (.int x) ∧ (fun q => q = r) (x))) 0 [(0, .ref 950), (1, .int x1)] [] (t_m s) 1065 0 0
  refine mj_iload_n dX13_why_0 1 rfl ?_
  refine mj_i2l (v := x1.toInt64) dX13_why_1 rfl ?_
  refine mj_lconst (v := 0) dX13_why_2 (by decide) ?_
  refine mj_aload_n dX13_why_3 0 rfl ?_
  refine t_getI dX13_why_4 F_X13_1282 qf_950_146 ?_
  refine mj_iconst (v := 1) dX13_why_7 (by decide) ?_
  refine mj_isub dX13_why_8 ?_
  refine mj_i2l (v := ((s.1 950 146) - (1 : Int32)).toInt64) dX13_why_9 rfl ?_
  refine t_callSiP dX13_why_10 M_X13_in (C_X13_in _ _ _ _) ML_X13_371 SM_X13_in (As := [.long x1.toInt64, .long 0, .long (((s.1 950 146) - (1 : Int32)).toInt64)]) rfl rfl (Nat.le_of_ble_eq_true rfl) (Nat.le_of_ble_eq_true rfl) (Nat.le_of_ble_eq_true rfl) (Nat.le_of_ble_eq_true rfl) ?_
  refine mj_if_eq 25 dX13_why_13 (by decide) (fun z => t_posK hk z (fun hk => ?_)) (fun z => t_negK hk z (fun hk => ?_))
  · refine mj_bipush (v := (-2)) dX13_why_25 (by decide) ?_
    exact t_somK hk (fun hf => t_iret dX13_why_27 rfl rfl ⟨rfl, _, rfl, hf⟩ (Nat.le_of_ble_eq_true rfl) (Nat.le_of_ble_eq_true rfl))
  · refine mj_aload_n dX13_why_16 0 rfl ?_
    refine t_getR 1034 dX13_why_17 F_X13_270 qr_950_145 ?_
    refine mj_iload_n dX13_why_20 1 rfl ?_
    refine t_chkK hk (fun c1 hk => ?_)
    refine t_iald dX13_why_21 qa_1034 (t_ixv c1) ?_
    refine mj_goto 27 dX13_why_22 (by decide) ?_
    exact t_somK hk (fun hf => t_iret dX13_why_27 rfl rfl ⟨rfl, _, rfl, hf⟩ (Nat.le_of_ble_eq_true rfl) (Nat.le_of_ble_eq_true rfl))

