/-! Methods as functions, 31: X6_readFields, X6_readTypeItem, X5_addUnit -/
theorem dX6_readFields_0 : decode cX6_readFields 0 = .ok (.aload_n 0, 1) := by decide +kernel
theorem dX6_readFields_1 : decode cX6_readFields 1 = .ok (.getfield 28, 3) := by decide +kernel
theorem dX6_readFields_10 : decode cX6_readFields 10 = .ok (.ifCond .eq 16, 3) := by decide +kernel
theorem dX6_readFields_101 : decode cX6_readFields 101 = .ok (.iconst 5, 1) := by decide +kernel
theorem dX6_readFields_102 : decode cX6_readFields 102 = .ok (.invokevirtual 100, 3) := by decide +kernel
theorem dX6_readFields_105 : decode cX6_readFields 105 = .ok (.aload_n 0, 1) := by decide +kernel
theorem dX6_readFields_106 : decode cX6_readFields 106 = .ok (.invokevirtual 298, 3) := by decide +kernel
theorem dX6_readFields_109 : decode cX6_readFields 109 = .ok (.aload_n 0, 1) := by decide +kernel
theorem dX6_readFields_110 : decode cX6_readFields 110 = .ok (.getfield 28, 3) := by decide +kernel
theorem dX6_readFields_113 : decode cX6_readFields 113 = .ok (.getfield 82, 3) := by decide +kernel
theorem dX6_readFields_116 : decode cX6_readFields 116 = .ok (.ifCond .eq 4, 3) := by decide +kernel
theorem dX6_readFields_119 : decode cX6_readFields 119 = .ok (.return_, 1) := by decide +kernel
theorem dX6_readFields_120 : decode cX6_readFields 120 = .ok (.aload_n 0, 1) := by decide +kernel
theorem dX6_readFields_121 : decode cX6_readFields 121 = .ok (.getfield 33, 3) := by decide +kernel
theorem dX6_readFields_124 : decode cX6_readFields 124 = .ok (.bipush 9, 2) := by decide +kernel
theorem dX6_readFields_126 : decode cX6_readFields 126 = .ok (.invokevirtual 301, 3) := by decide +kernel
theorem dX6_readFields_129 : decode cX6_readFields 129 = .ok (.istore 6, 2) := by decide +kernel
theorem dX6_readFields_13 : decode cX6_readFields 13 = .ok (.aload_n 0, 1) := by decide +kernel
theorem dX6_readFields_131 : decode cX6_readFields 131 = .ok (.aload_n 0, 1) := by decide +kernel
theorem dX6_readFields_132 : decode cX6_readFields 132 = .ok (.getfield 33, 3) := by decide +kernel
theorem dX6_readFields_135 : decode cX6_readFields 135 = .ok (.getfield 380, 3) := by decide +kernel
theorem dX6_readFields_138 : decode cX6_readFields 138 = .ok (.iload 6, 2) := by decide +kernel
theorem dX6_readFields_14 : decode cX6_readFields 14 = .ok (.getfield 28, 3) := by decide +kernel
theorem dX6_readFields_140 : decode cX6_readFields 140 = .ok (.aload_n 0, 1) := by decide +kernel
theorem dX6_readFields_141 : decode cX6_readFields 141 = .ok (.getfield 28, 3) := by decide +kernel
theorem dX6_readFields_144 : decode cX6_readFields 144 = .ok (.invokevirtual 166, 3) := by decide +kernel
theorem dX6_readFields_147 : decode cX6_readFields 147 = .ok (.iastore, 1) := by decide +kernel
theorem dX6_readFields_148 : decode cX6_readFields 148 = .ok (.aload_n 0, 1) := by decide +kernel
theorem dX6_readFields_149 : decode cX6_readFields 149 = .ok (.getfield 28, 3) := by decide +kernel
theorem dX6_readFields_152 : decode cX6_readFields 152 = .ok (.invokevirtual 170, 3) := by decide +kernel
theorem dX6_readFields_155 : decode cX6_readFields 155 = .ok (.aload_n 0, 1) := by decide +kernel
theorem dX6_readFields_156 : decode cX6_readFields 156 = .ok (.getfield 28, 3) := by decide +kernel
theorem dX6_readFields_159 : decode cX6_readFields 159 = .ok (.bipush 58, 2) := by decide +kernel
theorem dX6_readFields_161 : decode cX6_readFields 161 = .ok (.invokevirtual 184, 3) := by decide +kernel
theorem dX6_readFields_164 : decode cX6_readFields 164 = .ok (.aload_n 0, 1) := by decide +kernel
theorem dX6_readFields_165 : decode cX6_readFields 165 = .ok (.getfield 33, 3) := by decide +kernel
theorem dX6_readFields_168 : decode cX6_readFields 168 = .ok (.getfield 329, 3) := by decide +kernel
theorem dX6_readFields_17 : decode cX6_readFields 17 = .ok (.bipush 125, 2) := by decide +kernel
theorem dX6_readFields_171 : decode cX6_readFields 171 = .ok (.iload 6, 2) := by decide +kernel
theorem dX6_readFields_173 : decode cX6_readFields 173 = .ok (.aload_n 0, 1) := by decide +kernel
theorem dX6_readFields_174 : decode cX6_readFields 174 = .ok (.iload_n 2, 1) := by decide +kernel
theorem dX6_readFields_175 : decode cX6_readFields 175 = .ok (.iconst 1, 1) := by decide +kernel
theorem dX6_readFields_176 : decode cX6_readFields 176 = .ok (.iadd, 1) := by decide +kernel
theorem dX6_readFields_177 : decode cX6_readFields 177 = .ok (.invokevirtual 190, 3) := by decide +kernel
theorem dX6_readFields_180 : decode cX6_readFields 180 = .ok (.iastore, 1) := by decide +kernel
theorem dX6_readFields_181 : decode cX6_readFields 181 = .ok (.iload_n 3, 1) := by decide +kernel
theorem dX6_readFields_182 : decode cX6_readFields 182 = .ok (.ifCond .eq 27, 3) := by decide +kernel
theorem dX6_readFields_185 : decode cX6_readFields 185 = .ok (.aload_n 0, 1) := by decide +kernel
theorem dX6_readFields_186 : decode cX6_readFields 186 = .ok (.getfield 28, 3) := by decide +kernel
theorem dX6_readFields_189 : decode cX6_readFields 189 = .ok (.sipush 218, 3) := by decide +kernel
theorem dX6_readFields_19 : decode cX6_readFields 19 = .ok (.invokevirtual 246, 3) := by decide +kernel
theorem dX6_readFields_192 : decode cX6_readFields 192 = .ok (.invokevirtual 246, 3) := by decide +kernel
theorem dX6_readFields_195 : decode cX6_readFields 195 = .ok (.ifCond .eq 14, 3) := by decide +kernel
theorem dX6_readFields_198 : decode cX6_readFields 198 = .ok (.aload_n 0, 1) := by decide +kernel
theorem dX6_readFields_199 : decode cX6_readFields 199 = .ok (.getfield 33, 3) := by decide +kernel
theorem dX6_readFields_202 : decode cX6_readFields 202 = .ok (.getfield 362, 3) := by decide +kernel
theorem dX6_readFields_205 : decode cX6_readFields 205 = .ok (.iload 6, 2) := by decide +kernel
theorem dX6_readFields_207 : decode cX6_readFields 207 = .ok (.iconst 1, 1) := by decide +kernel
theorem dX6_readFields_208 : decode cX6_readFields 208 = .ok (.iastore, 1) := by decide +kernel
theorem dX6_readFields_209 : decode cX6_readFields 209 = .ok (.iload 5, 2) := by decide +kernel
theorem dX6_readFields_211 : decode cX6_readFields 211 = .ok (.ifCond .ne 17, 3) := by decide +kernel
theorem dX6_readFields_214 : decode cX6_readFields 214 = .ok (.aload_n 0, 1) := by decide +kernel
theorem dX6_readFields_215 : decode cX6_readFields 215 = .ok (.getfield 33, 3) := by decide +kernel
theorem dX6_readFields_218 : decode cX6_readFields 218 = .ok (.getfield 329, 3) := by decide +kernel
theorem dX6_readFields_22 : decode cX6_readFields 22 = .ok (.ifCond .eq 4, 3) := by decide +kernel
theorem dX6_readFields_221 : decode cX6_readFields 221 = .ok (.iload_n 1, 1) := by decide +kernel
theorem dX6_readFields_222 : decode cX6_readFields 222 = .ok (.iload 6, 2) := by decide +kernel
theorem dX6_readFields_224 : decode cX6_readFields 224 = .ok (.iastore, 1) := by decide +kernel
theorem dX6_readFields_225 : decode cX6_readFields 225 = .ok (.goto 15, 3) := by decide +kernel
theorem dX6_readFields_228 : decode cX6_readFields 228 = .ok (.aload_n 0, 1) := by decide +kernel
theorem dX6_readFields_229 : decode cX6_readFields 229 = .ok (.getfield 33, 3) := by decide +kernel
theorem dX6_readFields_232 : decode cX6_readFields 232 = .ok (.getfield 350, 3) := by decide +kernel
theorem dX6_readFields_235 : decode cX6_readFields 235 = .ok (.iload 4, 2) := by decide +kernel
theorem dX6_readFields_237 : decode cX6_readFields 237 = .ok (.iload 6, 2) := by decide +kernel
theorem dX6_readFields_239 : decode cX6_readFields 239 = .ok (.iastore, 1) := by decide +kernel
theorem dX6_readFields_240 : decode cX6_readFields 240 = .ok (.aload_n 0, 1) := by decide +kernel
theorem dX6_readFields_241 : decode cX6_readFields 241 = .ok (.getfield 33, 3) := by decide +kernel
theorem dX6_readFields_244 : decode cX6_readFields 244 = .ok (.getfield 362, 3) := by decide +kernel
theorem dX6_readFields_247 : decode cX6_readFields 247 = .ok (.iload_n 1, 1) := by decide +kernel
theorem dX6_readFields_248 : decode cX6_readFields 248 = .ok (.dup2, 1) := by decide +kernel
theorem dX6_readFields_249 : decode cX6_readFields 249 = .ok (.iaload, 1) := by decide +kernel
theorem dX6_readFields_25 : decode cX6_readFields 25 = .ok (.return_, 1) := by decide +kernel
theorem dX6_readFields_250 : decode cX6_readFields 250 = .ok (.iconst 1, 1) := by decide +kernel
theorem dX6_readFields_251 : decode cX6_readFields 251 = .ok (.iadd, 1) := by decide +kernel
theorem dX6_readFields_252 : decode cX6_readFields 252 = .ok (.iastore, 1) := by decide +kernel
theorem dX6_readFields_253 : decode cX6_readFields 253 = .ok (.iload 6, 2) := by decide +kernel
theorem dX6_readFields_255 : decode cX6_readFields 255 = .ok (.istore 4, 2) := by decide +kernel
theorem dX6_readFields_257 : decode cX6_readFields 257 = .ok (.aload_n 0, 1) := by decide +kernel
theorem dX6_readFields_258 : decode cX6_readFields 258 = .ok (.getfield 28, 3) := by decide +kernel
theorem dX6_readFields_26 : decode cX6_readFields 26 = .ok (.iconst (-1), 1) := by decide +kernel
theorem dX6_readFields_261 : decode cX6_readFields 261 = .ok (.bipush 44, 2) := by decide +kernel
theorem dX6_readFields_263 : decode cX6_readFields 263 = .ok (.invokevirtual 246, 3) := by decide +kernel
theorem dX6_readFields_266 : decode cX6_readFields 266 = .ok (.ifCond .ne 6, 3) := by decide +kernel
theorem dX6_readFields_269 : decode cX6_readFields 269 = .ok (.goto 9, 3) := by decide +kernel
theorem dX6_readFields_27 : decode cX6_readFields 27 = .ok (.istore 4, 2) := by decide +kernel
theorem dX6_readFields_272 : decode cX6_readFields 272 = .ok (.iinc 5 1, 3) := by decide +kernel
theorem dX6_readFields_275 : decode cX6_readFields 275 = .ok (.goto (-243), 3) := by decide +kernel
theorem dX6_readFields_278 : decode cX6_readFields 278 = .ok (.aload_n 0, 1) := by decide +kernel
theorem dX6_readFields_279 : decode cX6_readFields 279 = .ok (.getfield 28, 3) := by decide +kernel
theorem dX6_readFields_282 : decode cX6_readFields 282 = .ok (.bipush 125, 2) := by decide +kernel
theorem dX6_readFields_284 : decode cX6_readFields 284 = .ok (.invokevirtual 184, 3) := by decide +kernel
theorem dX6_readFields_287 : decode cX6_readFields 287 = .ok (.return_, 1) := by decide +kernel
theorem dX6_readFields_29 : decode cX6_readFields 29 = .ok (.iconst 0, 1) := by decide +kernel
theorem dX6_readFields_30 : decode cX6_readFields 30 = .ok (.istore 5, 2) := by decide +kernel
theorem dX6_readFields_32 : decode cX6_readFields 32 = .ok (.iload 5, 2) := by decide +kernel
theorem dX6_readFields_34 : decode cX6_readFields 34 = .ok (.bipush 16, 2) := by decide +kernel
theorem dX6_readFields_36 : decode cX6_readFields 36 = .ok (.if_icmp .gt 242, 3) := by decide +kernel
theorem dX6_readFields_39 : decode cX6_readFields 39 = .ok (.aload_n 0, 1) := by decide +kernel
theorem dX6_readFields_4 : decode cX6_readFields 4 = .ok (.bipush 123, 2) := by decide +kernel
theorem dX6_readFields_40 : decode cX6_readFields 40 = .ok (.getfield 28, 3) := by decide +kernel
theorem dX6_readFields_43 : decode cX6_readFields 43 = .ok (.getfield 85, 3) := by decide +kernel
theorem dX6_readFields_46 : decode cX6_readFields 46 = .ok (.iconst 1, 1) := by decide +kernel
theorem dX6_readFields_47 : decode cX6_readFields 47 = .ok (.if_icmp .eq 14, 3) := by decide +kernel
theorem dX6_readFields_50 : decode cX6_readFields 50 = .ok (.aload_n 0, 1) := by decide +kernel
theorem dX6_readFields_51 : decode cX6_readFields 51 = .ok (.getfield 28, 3) := by decide +kernel
theorem dX6_readFields_54 : decode cX6_readFields 54 = .ok (.iconst 2, 1) := by decide +kernel
theorem dX6_readFields_55 : decode cX6_readFields 55 = .ok (.invokevirtual 100, 3) := by decide +kernel
theorem dX6_readFields_58 : decode cX6_readFields 58 = .ok (.goto 47, 3) := by decide +kernel
theorem dX6_readFields_6 : decode cX6_readFields 6 = .ok (.invokevirtual 184, 3) := by decide +kernel
theorem dX6_readFields_61 : decode cX6_readFields 61 = .ok (.aload_n 0, 1) := by decide +kernel
theorem dX6_readFields_62 : decode cX6_readFields 62 = .ok (.getfield 33, 3) := by decide +kernel
theorem dX6_readFields_65 : decode cX6_readFields 65 = .ok (.iload_n 1, 1) := by decide +kernel
theorem dX6_readFields_66 : decode cX6_readFields 66 = .ok (.aload_n 0, 1) := by decide +kernel
theorem dX6_readFields_67 : decode cX6_readFields 67 = .ok (.getfield 28, 3) := by decide +kernel
theorem dX6_readFields_70 : decode cX6_readFields 70 = .ok (.invokevirtual 166, 3) := by decide +kernel
theorem dX6_readFields_73 : decode cX6_readFields 73 = .ok (.invokevirtual 377, 3) := by decide +kernel
theorem dX6_readFields_76 : decode cX6_readFields 76 = .ok (.ifCond .lt 14, 3) := by decide +kernel
theorem dX6_readFields_79 : decode cX6_readFields 79 = .ok (.aload_n 0, 1) := by decide +kernel
theorem dX6_readFields_80 : decode cX6_readFields 80 = .ok (.getfield 28, 3) := by decide +kernel
theorem dX6_readFields_83 : decode cX6_readFields 83 = .ok (.iconst 3, 1) := by decide +kernel
theorem dX6_readFields_84 : decode cX6_readFields 84 = .ok (.invokevirtual 100, 3) := by decide +kernel
theorem dX6_readFields_87 : decode cX6_readFields 87 = .ok (.goto 18, 3) := by decide +kernel
theorem dX6_readFields_9 : decode cX6_readFields 9 = .ok (.iload_n 3, 1) := by decide +kernel
theorem dX6_readFields_90 : decode cX6_readFields 90 = .ok (.iload 5, 2) := by decide +kernel
theorem dX6_readFields_92 : decode cX6_readFields 92 = .ok (.bipush 16, 2) := by decide +kernel
theorem dX6_readFields_94 : decode cX6_readFields 94 = .ok (.if_icmp .ne 11, 3) := by decide +kernel
theorem dX6_readFields_97 : decode cX6_readFields 97 = .ok (.aload_n 0, 1) := by decide +kernel
theorem dX6_readFields_98 : decode cX6_readFields 98 = .ok (.getfield 28, 3) := by decide +kernel
theorem dX6_readType_0 : decode cX6_readType 0 = .ok (.aload_n 0, 1) := by decide +kernel
theorem dX6_readType_1 : decode cX6_readType 1 = .ok (.getfield 28, 3) := by decide +kernel
theorem dX6_readType_10 : decode cX6_readType 10 = .ok (.ifCond .ne 11, 3) := by decide +kernel
theorem dX6_readType_102 : decode cX6_readType 102 = .ok (.invokevirtual 170, 3) := by decide +kernel
theorem dX6_readType_105 : decode cX6_readType 105 = .ok (.iload_n 2, 1) := by decide +kernel
theorem dX6_readType_106 : decode cX6_readType 106 = .ok (.tableswitch 180 210 216 #[42, 180, 50, 88, 96, 106, 116], 42) := by decide +kernel
theorem dX6_readType_13 : decode cX6_readType 13 = .ok (.aload_n 0, 1) := by decide +kernel
theorem dX6_readType_14 : decode cX6_readType 14 = .ok (.getfield 28, 3) := by decide +kernel
theorem dX6_readType_148 : decode cX6_readType 148 = .ok (.aload_n 0, 1) := by decide +kernel
theorem dX6_readType_149 : decode cX6_readType 149 = .ok (.iload_n 3, 1) := by decide +kernel
theorem dX6_readType_150 : decode cX6_readType 150 = .ok (.invokevirtual 303, 3) := by decide +kernel
theorem dX6_readType_153 : decode cX6_readType 153 = .ok (.goto 133, 3) := by decide +kernel
theorem dX6_readType_156 : decode cX6_readType 156 = .ok (.aload_n 0, 1) := by decide +kernel
theorem dX6_readType_157 : decode cX6_readType 157 = .ok (.getfield 33, 3) := by decide +kernel
theorem dX6_readType_160 : decode cX6_readType 160 = .ok (.getfield 306, 3) := by decide +kernel
theorem dX6_readType_163 : decode cX6_readType 163 = .ok (.iload_n 3, 1) := by decide +kernel
theorem dX6_readType_164 : decode cX6_readType 164 = .ok (.ldc2_w 310, 3) := by decide +kernel
theorem dX6_readType_167 : decode cX6_readType 167 = .ok (.lastore, 1) := by decide +kernel
theorem dX6_readType_168 : decode cX6_readType 168 = .ok (.aload_n 0, 1) := by decide +kernel
theorem dX6_readType_169 : decode cX6_readType 169 = .ok (.getfield 28, 3) := by decide +kernel
theorem dX6_readType_17 : decode cX6_readType 17 = .ok (.iconst 2, 1) := by decide +kernel
theorem dX6_readType_172 : decode cX6_readType 172 = .ok (.getfield 85, 3) := by decide +kernel
theorem dX6_readType_175 : decode cX6_readType 175 = .ok (.bipush 40, 2) := by decide +kernel
theorem dX6_readType_177 : decode cX6_readType 177 = .ok (.if_icmp .ne 109, 3) := by decide +kernel
theorem dX6_readType_18 : decode cX6_readType 18 = .ok (.invokevirtual 100, 3) := by decide +kernel
theorem dX6_readType_180 : decode cX6_readType 180 = .ok (.aload_n 0, 1) := by decide +kernel
theorem dX6_readType_181 : decode cX6_readType 181 = .ok (.iload_n 3, 1) := by decide +kernel
theorem dX6_readType_182 : decode cX6_readType 182 = .ok (.aload_n 0, 1) := by decide +kernel
theorem dX6_readType_183 : decode cX6_readType 183 = .ok (.bipush 40, 2) := by decide +kernel
theorem dX6_readType_185 : decode cX6_readType 185 = .ok (.invokevirtual 312, 3) := by decide +kernel
theorem dX6_readType_188 : decode cX6_readType 188 = .ok (.invokevirtual 315, 3) := by decide +kernel
theorem dX6_readType_191 : decode cX6_readType 191 = .ok (.goto 95, 3) := by decide +kernel
theorem dX6_readType_194 : decode cX6_readType 194 = .ok (.aload_n 0, 1) := by decide +kernel
theorem dX6_readType_195 : decode cX6_readType 195 = .ok (.iload_n 3, 1) := by decide +kernel
theorem dX6_readType_196 : decode cX6_readType 196 = .ok (.invokevirtual 318, 3) := by decide +kernel
theorem dX6_readType_199 : decode cX6_readType 199 = .ok (.goto 87, 3) := by decide +kernel
theorem dX6_readType_202 : decode cX6_readType 202 = .ok (.aload_n 0, 1) := by decide +kernel
theorem dX6_readType_203 : decode cX6_readType 203 = .ok (.iload_n 3, 1) := by decide +kernel
theorem dX6_readType_204 : decode cX6_readType 204 = .ok (.iload_n 1, 1) := by decide +kernel
theorem dX6_readType_205 : decode cX6_readType 205 = .ok (.iconst 1, 1) := by decide +kernel
theorem dX6_readType_206 : decode cX6_readType 206 = .ok (.invokevirtual 321, 3) := by decide +kernel
theorem dX6_readType_209 : decode cX6_readType 209 = .ok (.goto 77, 3) := by decide +kernel
theorem dX6_readType_21 : decode cX6_readType 21 = .ok (.iload_n 1, 1) := by decide +kernel
theorem dX6_readType_212 : decode cX6_readType 212 = .ok (.aload_n 0, 1) := by decide +kernel
theorem dX6_readType_213 : decode cX6_readType 213 = .ok (.iload_n 3, 1) := by decide +kernel
theorem dX6_readType_214 : decode cX6_readType 214 = .ok (.iload_n 1, 1) := by decide +kernel
theorem dX6_readType_215 : decode cX6_readType 215 = .ok (.iconst 0, 1) := by decide +kernel
theorem dX6_readType_216 : decode cX6_readType 216 = .ok (.invokevirtual 321, 3) := by decide +kernel
theorem dX6_readType_219 : decode cX6_readType 219 = .ok (.goto 67, 3) := by decide +kernel
theorem dX6_readType_22 : decode cX6_readType 22 = .ok (.bipush 16, 2) := by decide +kernel
theorem dX6_readType_222 : decode cX6_readType 222 = .ok (.aload_n 0, 1) := by decide +kernel
theorem dX6_readType_223 : decode cX6_readType 223 = .ok (.getfield 33, 3) := by decide +kernel
theorem dX6_readType_226 : decode cX6_readType 226 = .ok (.getfield 306, 3) := by decide +kernel
theorem dX6_readType_229 : decode cX6_readType 229 = .ok (.iload_n 3, 1) := by decide +kernel
theorem dX6_readType_230 : decode cX6_readType 230 = .ok (.ldc2_w 327, 3) := by decide +kernel
theorem dX6_readType_233 : decode cX6_readType 233 = .ok (.lastore, 1) := by decide +kernel
theorem dX6_readType_234 : decode cX6_readType 234 = .ok (.aload_n 0, 1) := by decide +kernel
theorem dX6_readType_235 : decode cX6_readType 235 = .ok (.getfield 28, 3) := by decide +kernel
theorem dX6_readType_238 : decode cX6_readType 238 = .ok (.getfield 85, 3) := by decide +kernel
theorem dX6_readType_24 : decode cX6_readType 24 = .ok (.if_icmp .le 11, 3) := by decide +kernel
theorem dX6_readType_241 : decode cX6_readType 241 = .ok (.bipush 40, 2) := by decide +kernel
theorem dX6_readType_243 : decode cX6_readType 243 = .ok (.if_icmp .ne 14, 3) := by decide +kernel
theorem dX6_readType_246 : decode cX6_readType 246 = .ok (.aload_n 0, 1) := by decide +kernel
theorem dX6_readType_247 : decode cX6_readType 247 = .ok (.iload_n 3, 1) := by decide +kernel
theorem dX6_readType_248 : decode cX6_readType 248 = .ok (.aload_n 0, 1) := by decide +kernel
theorem dX6_readType_249 : decode cX6_readType 249 = .ok (.bipush 16, 2) := by decide +kernel
theorem dX6_readType_251 : decode cX6_readType 251 = .ok (.invokevirtual 312, 3) := by decide +kernel
theorem dX6_readType_254 : decode cX6_readType 254 = .ok (.invokevirtual 315, 3) := by decide +kernel
theorem dX6_readType_257 : decode cX6_readType 257 = .ok (.aload_n 0, 1) := by decide +kernel
theorem dX6_readType_258 : decode cX6_readType 258 = .ok (.getfield 28, 3) := by decide +kernel
theorem dX6_readType_261 : decode cX6_readType 261 = .ok (.sipush 217, 3) := by decide +kernel
theorem dX6_readType_264 : decode cX6_readType 264 = .ok (.invokevirtual 184, 3) := by decide +kernel
theorem dX6_readType_267 : decode cX6_readType 267 = .ok (.aload_n 0, 1) := by decide +kernel
theorem dX6_readType_268 : decode cX6_readType 268 = .ok (.getfield 33, 3) := by decide +kernel
theorem dX6_readType_27 : decode cX6_readType 27 = .ok (.aload_n 0, 1) := by decide +kernel
theorem dX6_readType_271 : decode cX6_readType 271 = .ok (.getfield 329, 3) := by decide +kernel
theorem dX6_readType_274 : decode cX6_readType 274 = .ok (.iload_n 3, 1) := by decide +kernel
theorem dX6_readType_275 : decode cX6_readType 275 = .ok (.aload_n 0, 1) := by decide +kernel
theorem dX6_readType_276 : decode cX6_readType 276 = .ok (.iload_n 1, 1) := by decide +kernel
theorem dX6_readType_277 : decode cX6_readType 277 = .ok (.iconst 1, 1) := by decide +kernel
theorem dX6_readType_278 : decode cX6_readType 278 = .ok (.iadd, 1) := by decide +kernel
theorem dX6_readType_279 : decode cX6_readType 279 = .ok (.invokevirtual 190, 3) := by decide +kernel
theorem dX6_readType_28 : decode cX6_readType 28 = .ok (.getfield 28, 3) := by decide +kernel
theorem dX6_readType_282 : decode cX6_readType 282 = .ok (.iastore, 1) := by decide +kernel
theorem dX6_readType_283 : decode cX6_readType 283 = .ok (.goto 3, 3) := by decide +kernel
theorem dX6_readType_286 : decode cX6_readType 286 = .ok (.iload_n 3, 1) := by decide +kernel
theorem dX6_readType_287 : decode cX6_readType 287 = .ok (.ireturn, 1) := by decide +kernel
theorem dX6_readType_31 : decode cX6_readType 31 = .ok (.iconst 5, 1) := by decide +kernel
theorem dX6_readType_32 : decode cX6_readType 32 = .ok (.invokevirtual 100, 3) := by decide +kernel
theorem dX6_readType_35 : decode cX6_readType 35 = .ok (.aload_n 0, 1) := by decide +kernel
theorem dX6_readType_36 : decode cX6_readType 36 = .ok (.invokevirtual 298, 3) := by decide +kernel
theorem dX6_readType_39 : decode cX6_readType 39 = .ok (.aload_n 0, 1) := by decide +kernel
theorem dX6_readType_4 : decode cX6_readType 4 = .ok (.getfield 85, 3) := by decide +kernel
theorem dX6_readType_40 : decode cX6_readType 40 = .ok (.getfield 28, 3) := by decide +kernel
theorem dX6_readType_43 : decode cX6_readType 43 = .ok (.getfield 82, 3) := by decide +kernel
theorem dX6_readType_46 : decode cX6_readType 46 = .ok (.ifCond .eq 5, 3) := by decide +kernel
theorem dX6_readType_49 : decode cX6_readType 49 = .ok (.iconst 0, 1) := by decide +kernel
theorem dX6_readType_50 : decode cX6_readType 50 = .ok (.ireturn, 1) := by decide +kernel
theorem dX6_readType_51 : decode cX6_readType 51 = .ok (.aload_n 0, 1) := by decide +kernel
theorem dX6_readType_52 : decode cX6_readType 52 = .ok (.getfield 28, 3) := by decide +kernel
theorem dX6_readType_55 : decode cX6_readType 55 = .ok (.getfield 85, 3) := by decide +kernel
theorem dX6_readType_58 : decode cX6_readType 58 = .ok (.istore_n 2, 1) := by decide +kernel
theorem dX6_readType_59 : decode cX6_readType 59 = .ok (.aload_n 0, 1) := by decide +kernel
theorem dX6_readType_60 : decode cX6_readType 60 = .ok (.getfield 33, 3) := by decide +kernel
theorem dX6_readType_63 : decode cX6_readType 63 = .ok (.iload_n 2, 1) := by decide +kernel
theorem dX6_readType_64 : decode cX6_readType 64 = .ok (.iconst 1, 1) := by decide +kernel
theorem dX6_readType_65 : decode cX6_readType 65 = .ok (.if_icmp .ne 8, 3) := by decide +kernel
theorem dX6_readType_68 : decode cX6_readType 68 = .ok (.bipush 8, 2) := by decide +kernel
theorem dX6_readType_7 : decode cX6_readType 7 = .ok (.invokestatic 295, 3) := by decide +kernel
theorem dX6_readType_70 : decode cX6_readType 70 = .ok (.goto 10, 3) := by decide +kernel
theorem dX6_readType_73 : decode cX6_readType 73 = .ok (.iconst 1, 1) := by decide +kernel
theorem dX6_readType_74 : decode cX6_readType 74 = .ok (.iload_n 2, 1) := by decide +kernel
theorem dX6_readType_75 : decode cX6_readType 75 = .ok (.iadd, 1) := by decide +kernel
theorem dX6_readType_76 : decode cX6_readType 76 = .ok (.sipush 210, 3) := by decide +kernel
theorem dX6_readType_79 : decode cX6_readType 79 = .ok (.isub, 1) := by decide +kernel
theorem dX6_readType_80 : decode cX6_readType 80 = .ok (.invokevirtual 301, 3) := by decide +kernel
theorem dX6_readType_83 : decode cX6_readType 83 = .ok (.istore_n 3, 1) := by decide +kernel
theorem dX6_readType_84 : decode cX6_readType 84 = .ok (.iload_n 2, 1) := by decide +kernel
theorem dX6_readType_85 : decode cX6_readType 85 = .ok (.iconst 1, 1) := by decide +kernel
theorem dX6_readType_86 : decode cX6_readType 86 = .ok (.if_icmp .ne 12, 3) := by decide +kernel
theorem dX6_readType_89 : decode cX6_readType 89 = .ok (.aload_n 0, 1) := by decide +kernel
theorem dX6_readType_90 : decode cX6_readType 90 = .ok (.iconst 0, 1) := by decide +kernel
theorem dX6_readType_91 : decode cX6_readType 91 = .ok (.iload_n 3, 1) := by decide +kernel
theorem dX6_readType_92 : decode cX6_readType 92 = .ok (.iconst 0, 1) := by decide +kernel
theorem dX6_readType_93 : decode cX6_readType 93 = .ok (.invokevirtual 250, 3) := by decide +kernel
theorem dX6_readType_96 : decode cX6_readType 96 = .ok (.iload_n 3, 1) := by decide +kernel
theorem dX6_readType_97 : decode cX6_readType 97 = .ok (.ireturn, 1) := by decide +kernel
theorem dX6_readType_98 : decode cX6_readType 98 = .ok (.aload_n 0, 1) := by decide +kernel
theorem dX6_readType_99 : decode cX6_readType 99 = .ok (.getfield 28, 3) := by decide +kernel
abbrev RT_X6_readFields : Type := (Int32 → Int32 → Int32 → t_S → Option (t_S)) × (Int32 → t_S → Option (Int32 × t_S))
def RH_X6_readFields (rc : RT_X6_readFields) (k : Nat) : Prop := (∀ (x1 : Int32) (x2 : Int32) (x3 : Int32) (s : t_S) (r : t_S), rc.1 x1 x2 x3 s = some r → t_C yX6_readFields cX6_readFields 7 none (3 + k) [.ref 845, .int x1, .int x2, .int x3] s (fun v s' => v = none ∧ s' = r)) ∧ (∀ (x1 : Int32) (s : t_S) (r : Int32 × t_S), rc.2 x1 s = some r → t_C yX6_readType cX6_readType 4 (some .int) (3 + k) [.ref 845, .int x1] s (fun v s' => v = some (.int r.1) ∧ s' = r.2))
noncomputable def k_X6_readFields_278 (rc : RT_X6_readFields) (s : t_S) : Option (t_S) :=
 (f_X2_need (125 : Int32) s).bind (fun r1 =>
 some (r1))
set_option maxRecDepth 4000 in
set_option maxHeartbeats 1000000 in
theorem B_X6_readFields_278 {D : va_G} {cy : Nat → ClassId} {ad : Nat → Nat} {bs : Nat} {X : State → Heap → Prop} (rc : RT_X6_readFields) {k : Nat} (H : RH_X6_readFields rc k) (s : t_S) (Q : t_S → Prop) (hk : t_hk (k_X6_readFields_278 rc s) Q) : mj_G D cy ad bs X cX6_readFields 7 yX6_readFields.cls none yX6_readFields.name (3 + (k + 1)) 0 0 1065 (t_P (fun v s' => v = none ∧ Q (s'))) 278 [(0, .ref 845)] [] (t_m s) 1065 0 0 := by
  refine mj_aload_n dX6_readFields_278 0 rfl ?_
  refine t_getR 1 dX6_readFields_279 F_X6_28 qr_845_0 ?_
  refine mj_bipush (v := 125) dX6_readFields_282 (by decide) ?_
  refine t_bndK hk (fun r1 er1 hk => ?_)
  refine t_callVvE dX6_readFields_284 M_X2_need (C_X2_need _ _ _ er1) ML_X6_184 IM_X2_need SE_X2_need qc_1 rfl (As := [.int 125]) rfl rfl (by omega) (Nat.le_of_ble_eq_true rfl) (Nat.le_of_ble_eq_true rfl) (Nat.le_of_ble_eq_true rfl) ?_
  exact t_somK hk (fun hf => t_vret dX6_readFields_287 rfl ⟨rfl, hf⟩ (Nat.le_of_ble_eq_true rfl) (Nat.le_of_ble_eq_true rfl))
noncomputable def k_X6_readFields_240 (rc : RT_X6_readFields) (l1 : Int32) (l2 : Int32) (l3 : Int32) (l5 : Int32) (l6 : Int32) (s : t_S) : Option ((Int32 × Int32 × Int32 × Int32 × Int32 × t_S) ⊕ (t_S)) :=
 if t_ix l1 3001 = true then
  t_let (t_setI s 321 (l1.toNatClampNeg) ((s.1 321 (l1.toNatClampNeg)) + (1 : Int32))) (fun s1 =>
 (f_X2_take (44 : Int32) s1).bind (fun r2 =>
 if r2.1 = (0 : Int32) then ((k_X6_readFields_278 rc r2.2).map Sum.inr)
 else (some (.inl (l1, l2, l3, l6, (l5 + 1), r2.2)))))
else none
set_option maxRecDepth 4000 in
set_option maxHeartbeats 1000000 in
theorem B_X6_readFields_240 {D : va_G} {cy : Nat → ClassId} {ad : Nat → Nat} {bs : Nat} {X : State → Heap → Prop} (rc : RT_X6_readFields) {k : Nat} (H : RH_X6_readFields rc k) (l1 : Int32) (l2 : Int32) (l3 : Int32) (l5 : Int32) (l6 : Int32) (s : t_S) (Q : (Int32 × Int32 × Int32 × Int32 × Int32 × t_S) ⊕ (t_S) → Prop) (Hb32 : ∀ (y0 : Int32) (y1 : Int32) (y2 : Int32) (y3 : Int32) (y4 : Int32) (y5 : t_S), Q (.inl (y0, y1, y2, y3, y4, y5)) → mj_G D cy ad bs X cX6_readFields 7 yX6_readFields.cls none yX6_readFields.name (3 + (k + 1)) 0 0 1065 (t_P (fun v s' => v = none ∧ Q (.inr (s')))) 32 [(0, .ref 845), (1, .int (y0)), (2, .int (y1)), (3, .int (y2)), (4, .int (y3)), (5, .int (y4))] [] (t_m y5) 1065 0 0) (hk : t_hk (k_X6_readFields_240 rc l1 l2 l3 l5 l6 s) Q) : mj_G D cy ad bs X cX6_readFields 7 yX6_readFields.cls none yX6_readFields.name (3 + (k + 1)) 0 0 1065 (t_P (fun v s' => v = none ∧ Q (.inr (s')))) 240 [(0, .ref 845), (1, .int l1), (2, .int l2), (3, .int l3), (5, .int l5), (6, .int l6)] [] (t_m s) 1065 0 0 := by
  refine mj_aload_n dX6_readFields_240 0 rfl ?_
  refine t_getR 316 dX6_readFields_241 F_X6_33 qr_845_1 ?_
  refine t_getR 321 dX6_readFields_244 F_X6_362 qr_316_4 ?_
  refine mj_iload_n dX6_readFields_247 1 rfl ?_
  refine mj_dup2 dX6_readFields_248 rfl rfl ?_
  refine t_chkK hk (fun c0 hk => ?_)
  refine t_iald dX6_readFields_249 qa_321 (t_ixv c0) ?_
  refine mj_iconst (v := 1) dX6_readFields_250 (by decide) ?_
  refine mj_iadd dX6_readFields_251 ?_
  refine t_iastK dX6_readFields_252 qa_321 (t_ixv c0) (fun s1 ws1 => t_letE hk ws1 (fun hk => ?_))
  refine mj_iload dX6_readFields_253 5 rfl ?_
  refine mj_istore (lv2 := [(4, .int l6), (0, .ref 845), (1, .int l1), (2, .int l2), (3, .int l3), (5, .int l5), (6, .int l6)]) dX6_readFields_255 (by decide) rfl ?_
  refine mj_aload_n dX6_readFields_257 1 rfl ?_
  refine t_getR 1 dX6_readFields_258 F_X6_28 qr_845_0 ?_
  refine mj_bipush (v := 44) dX6_readFields_261 (by decide) ?_
  refine t_bndK hk (fun r2 er2 hk => ?_)
  refine t_callViE dX6_readFields_263 M_X2_take (C_X2_take _ _ _ er2) ML_X6_246 IM_X2_take SE_X2_take qc_1 rfl (As := [.int 44]) rfl rfl (by omega) (Nat.le_of_ble_eq_true rfl) (Nat.le_of_ble_eq_true rfl) (Nat.le_of_ble_eq_true rfl) ?_
  refine mj_if_ne 272 dX6_readFields_266 (by decide) (fun z => t_negK hk z (fun hk => ?_)) (fun z => t_posK hk z (fun hk => ?_))
  · refine mj_iinc (k := 5) (v := (l5 + 1)) (lv2 := [(5, .int (l5 + 1)), (4, .int l6), (0, .ref 845), (1, .int l1), (2, .int l2), (3, .int l3), (6, .int l6)]) dX6_readFields_272 rfl rfl (by decide) rfl ?_
    refine mj_goto 32 dX6_readFields_275 (by decide) ?_
    refine mj_sublv [(0, .ref 845), (1, .int l1), (2, .int l2), (3, .int l3), (4, .int l6), (5, .int (l5 + 1))] [2, 3, 4, 5, 1, 0] rfl ?_
    exact t_somK hk (fun hf => Hb32 l1 l2 l3 l6 (l5 + 1) r2.2 hf)
  · refine t_mapK hk (fun hk => ?_)
    refine mj_goto 278 dX6_readFields_269 (by decide) ?_
    refine mj_sublv [(0, .ref 845)] [1] rfl ?_
    exact B_X6_readFields_278 rc H _ _ hk
noncomputable def k_X6_readFields_209 (rc : RT_X6_readFields) (l1 : Int32) (l2 : Int32) (l3 : Int32) (l4 : Int32) (l5 : Int32) (l6 : Int32) (s : t_S) : Option ((Int32 × Int32 × Int32 × Int32 × Int32 × t_S) ⊕ (t_S)) :=
 if l5 = (0 : Int32) then (if t_ix l1 3001 = true then
  t_let (t_setI s 318 (l1.toNatClampNeg) l6) (fun s2 =>
 k_X6_readFields_240 rc l1 l2 l3 l5 l6 s2)
else none)
 else (if t_ix l4 3001 = true then
  t_let (t_setI s 319 (l4.toNatClampNeg) l6) (fun s1 =>
 k_X6_readFields_240 rc l1 l2 l3 l5 l6 s1)
else none)
set_option maxRecDepth 4000 in
set_option maxHeartbeats 1000000 in
theorem B_X6_readFields_209 {D : va_G} {cy : Nat → ClassId} {ad : Nat → Nat} {bs : Nat} {X : State → Heap → Prop} (rc : RT_X6_readFields) {k : Nat} (H : RH_X6_readFields rc k) (l1 : Int32) (l2 : Int32) (l3 : Int32) (l4 : Int32) (l5 : Int32) (l6 : Int32) (s : t_S) (Q : (Int32 × Int32 × Int32 × Int32 × Int32 × t_S) ⊕ (t_S) → Prop) (Hb32 : ∀ (y0 : Int32) (y1 : Int32) (y2 : Int32) (y3 : Int32) (y4 : Int32) (y5 : t_S), Q (.inl (y0, y1, y2, y3, y4, y5)) → mj_G D cy ad bs X cX6_readFields 7 yX6_readFields.cls none yX6_readFields.name (3 + (k + 1)) 0 0 1065 (t_P (fun v s' => v = none ∧ Q (.inr (s')))) 32 [(0, .ref 845), (1, .int (y0)), (2, .int (y1)), (3, .int (y2)), (4, .int (y3)), (5, .int (y4))] [] (t_m y5) 1065 0 0) (hk : t_hk (k_X6_readFields_209 rc l1 l2 l3 l4 l5 l6 s) Q) : mj_G D cy ad bs X cX6_readFields 7 yX6_readFields.cls none yX6_readFields.name (3 + (k + 1)) 0 0 1065 (t_P (fun v s' => v = none ∧ Q (.inr (s')))) 209 [(0, .ref 845), (1, .int l1), (2, .int l2), (3, .int l3), (4, .int l4), (5, .int l5), (6, .int l6)] [] (t_m s) 1065 0 0 := by
  refine mj_iload dX6_readFields_209 5 rfl ?_
  refine mj_if_ne 228 dX6_readFields_211 (by decide) (fun z => t_negK hk z (fun hk => ?_)) (fun z => t_posK hk z (fun hk => ?_))
  · refine mj_aload_n dX6_readFields_228 0 rfl ?_
    refine t_getR 316 dX6_readFields_229 F_X6_33 qr_845_1 ?_
    refine t_getR 319 dX6_readFields_232 F_X6_350 qr_316_2 ?_
    refine mj_iload dX6_readFields_235 4 rfl ?_
    refine mj_iload dX6_readFields_237 6 rfl ?_
    refine t_chkK hk (fun c0 hk => ?_)
    refine t_iastK dX6_readFields_239 qa_319 (t_ixv c0) (fun s1 ws1 => t_letE hk ws1 (fun hk => ?_))
    refine mj_sublv [(0, .ref 845), (1, .int l1), (2, .int l2), (3, .int l3), (5, .int l5), (6, .int l6)] [0, 1, 2, 3, 5, 6] rfl ?_
    exact B_X6_readFields_240 rc H _ _ _ _ _ _ _ (fun y0 y1 y2 y3 y4 y5 hx => Hb32 y0 y1 y2 y3 y4 y5 hx) hk
  · refine mj_aload_n dX6_readFields_214 0 rfl ?_
    refine t_getR 316 dX6_readFields_215 F_X6_33 qr_845_1 ?_
    refine t_getR 318 dX6_readFields_218 F_X6_329 qr_316_1 ?_
    refine mj_iload_n dX6_readFields_221 1 rfl ?_
    refine mj_iload dX6_readFields_222 6 rfl ?_
    refine t_chkK hk (fun c1 hk => ?_)
    refine t_iastK dX6_readFields_224 qa_318 (t_ixv c1) (fun s2 ws2 => t_letE hk ws2 (fun hk => ?_))
    refine mj_goto 240 dX6_readFields_225 (by decide) ?_
    refine mj_sublv [(0, .ref 845), (1, .int l1), (2, .int l2), (3, .int l3), (5, .int l5), (6, .int l6)] [0, 1, 2, 3, 5, 6] rfl ?_
    exact B_X6_readFields_240 rc H _ _ _ _ _ _ _ (fun y0 y1 y2 y3 y4 y5 hx => Hb32 y0 y1 y2 y3 y4 y5 hx) hk
noncomputable def k_X6_readFields_105 (rc : RT_X6_readFields) (l1 : Int32) (l2 : Int32) (l3 : Int32) (l4 : Int32) (l5 : Int32) (s : t_S) : Option ((Int32 × Int32 × Int32 × Int32 × Int32 × t_S) ⊕ (t_S)) :=
 (f_X6_node s).bind (fun r1 =>
 if (r1.1 1 11) = (0 : Int32) then ((f_X11_add (9 : Int32) r1).bind (fun r2 =>
 if t_ix r2.1 3001 = true then
  t_let (t_setI r2.2 320 (r2.1.toNatClampNeg) (f_X2_word r2.2)) (fun s1 =>
 (f_X2_advance s1).bind (fun r5 =>
 (f_X2_need (58 : Int32) r5).bind (fun r6 =>
 (rc.2 (l2 + (1 : Int32)) r6).bind (fun r7 =>
 t_let (t_setI r7.2 318 (r2.1.toNatClampNeg) r7.1) (fun s2 =>
 if l3 = (0 : Int32) then (k_X6_readFields_209 rc l1 l2 l3 l4 l5 r2.1 s2)
 else ((f_X2_take (218 : Int32) s2).bind (fun r8 =>
 if r8.1 = (0 : Int32) then (k_X6_readFields_209 rc l1 l2 l3 l4 l5 r2.1 r8.2)
 else (t_let (t_setI r8.2 321 (r2.1.toNatClampNeg) (1 : Int32)) (fun s3 =>
 k_X6_readFields_209 rc l1 l2 l3 l4 l5 r2.1 s3)))))))))
else none))
 else ((some (r1)).map Sum.inr))
set_option maxRecDepth 4000 in
set_option maxHeartbeats 1000000 in
theorem B_X6_readFields_105 {D : va_G} {cy : Nat → ClassId} {ad : Nat → Nat} {bs : Nat} {X : State → Heap → Prop} (rc : RT_X6_readFields) {k : Nat} (H : RH_X6_readFields rc k) (l1 : Int32) (l2 : Int32) (l3 : Int32) (l4 : Int32) (l5 : Int32) (s : t_S) (Q : (Int32 × Int32 × Int32 × Int32 × Int32 × t_S) ⊕ (t_S) → Prop) (Hb32 : ∀ (y0 : Int32) (y1 : Int32) (y2 : Int32) (y3 : Int32) (y4 : Int32) (y5 : t_S), Q (.inl (y0, y1, y2, y3, y4, y5)) → mj_G D cy ad bs X cX6_readFields 7 yX6_readFields.cls none yX6_readFields.name (3 + (k + 1)) 0 0 1065 (t_P (fun v s' => v = none ∧ Q (.inr (s')))) 32 [(0, .ref 845), (1, .int (y0)), (2, .int (y1)), (3, .int (y2)), (4, .int (y3)), (5, .int (y4))] [] (t_m y5) 1065 0 0) (hk : t_hk (k_X6_readFields_105 rc l1 l2 l3 l4 l5 s) Q) : mj_G D cy ad bs X cX6_readFields 7 yX6_readFields.cls none yX6_readFields.name (3 + (k + 1)) 0 0 1065 (t_P (fun v s' => v = none ∧ Q (.inr (s')))) 105 [(0, .ref 845), (1, .int l1), (2, .int l2), (3, .int l3), (4, .int l4), (5, .int l5)] [] (t_m s) 1065 0 0 := by
  refine mj_aload_n dX6_readFields_105 0 rfl ?_
  refine t_bndK hk (fun r1 er1 hk => ?_)
  refine t_callVvE dX6_readFields_106 M_X6_node (C_X6_node _ _ er1) ML_X6_298 IM_X6_node SE_X6_node qc_845 rfl (As := []) rfl rfl (by omega) (Nat.le_of_ble_eq_true rfl) (Nat.le_of_ble_eq_true rfl) (Nat.le_of_ble_eq_true rfl) ?_
  refine mj_aload_n dX6_readFields_109 0 rfl ?_
  refine t_getR 1 dX6_readFields_110 F_X6_28 qr_845_0 ?_
  refine t_getI dX6_readFields_113 F_X6_82 qf_1_11 ?_
  refine mj_if_eq 120 dX6_readFields_116 (by decide) (fun z => t_posK hk z (fun hk => ?_)) (fun z => t_negK hk z (fun hk => ?_))
  · refine mj_aload_n dX6_readFields_120 0 rfl ?_
    refine t_getR 316 dX6_readFields_121 F_X6_33 qr_845_1 ?_
    refine mj_bipush (v := 9) dX6_readFields_124 (by decide) ?_
    refine t_bndK hk (fun r2 er2 hk => ?_)
    refine t_callViE dX6_readFields_126 M_X11_add (C_X11_add _ _ _ er2) ML_X6_301 IM_X11_add SE_X11_add qc_316 rfl (As := [.int 9]) rfl rfl (by omega) (Nat.le_of_ble_eq_true rfl) (Nat.le_of_ble_eq_true rfl) (Nat.le_of_ble_eq_true rfl) ?_
    refine mj_istore (lv2 := [(6, .int r2.1), (0, .ref 845), (1, .int l1), (2, .int l2), (3, .int l3), (4, .int l4), (5, .int l5)]) dX6_readFields_129 (by decide) rfl ?_
    refine mj_aload_n dX6_readFields_131 1 rfl ?_
    refine t_getR 316 dX6_readFields_132 F_X6_33 qr_845_1 ?_
    refine t_getR 320 dX6_readFields_135 F_X6_380 qr_316_3 ?_
    refine mj_iload dX6_readFields_138 0 rfl ?_
    refine mj_aload_n dX6_readFields_140 1 rfl ?_
    refine t_getR 1 dX6_readFields_141 F_X6_28 qr_845_0 ?_
    refine t_callViP dX6_readFields_144 M_X2_word (C_X2_word _) ML_X6_166 IM_X2_word SE_X2_word qc_1 rfl (As := []) rfl rfl (by omega) (Nat.le_of_ble_eq_true rfl) (Nat.le_of_ble_eq_true rfl) (Nat.le_of_ble_eq_true rfl) ?_
    refine t_chkK hk (fun c3 hk => ?_)
    refine t_iastK dX6_readFields_147 qa_320 (t_ixv c3) (fun s1 ws1 => t_letE hk ws1 (fun hk => ?_))
    refine mj_aload_n dX6_readFields_148 1 rfl ?_
    refine t_getR 1 dX6_readFields_149 F_X6_28 qr_845_0 ?_
    refine t_bndK hk (fun r5 er5 hk => ?_)
    refine t_callVvE dX6_readFields_152 M_X2_advance (C_X2_advance _ _ er5) ML_X6_170 IM_X2_advance SE_X2_advance qc_1 rfl (As := []) rfl rfl (by omega) (Nat.le_of_ble_eq_true rfl) (Nat.le_of_ble_eq_true rfl) (Nat.le_of_ble_eq_true rfl) ?_
    refine mj_aload_n dX6_readFields_155 1 rfl ?_
    refine t_getR 1 dX6_readFields_156 F_X6_28 qr_845_0 ?_
    refine mj_bipush (v := 58) dX6_readFields_159 (by decide) ?_
    refine t_bndK hk (fun r6 er6 hk => ?_)
    refine t_callVvE dX6_readFields_161 M_X2_need (C_X2_need _ _ _ er6) ML_X6_184 IM_X2_need SE_X2_need qc_1 rfl (As := [.int 58]) rfl rfl (by omega) (Nat.le_of_ble_eq_true rfl) (Nat.le_of_ble_eq_true rfl) (Nat.le_of_ble_eq_true rfl) ?_
    refine mj_aload_n dX6_readFields_164 1 rfl ?_
    refine t_getR 316 dX6_readFields_165 F_X6_33 qr_845_1 ?_
    refine t_getR 318 dX6_readFields_168 F_X6_329 qr_316_1 ?_
    refine mj_iload dX6_readFields_171 0 rfl ?_
    refine mj_aload_n dX6_readFields_173 1 rfl ?_
    refine mj_iload_n dX6_readFields_174 3 rfl ?_
    refine mj_iconst (v := 1) dX6_readFields_175 (by decide) ?_
    refine mj_iadd dX6_readFields_176 ?_
    refine t_bndK hk (fun r7 er7 hk => ?_)
    refine t_callViE dX6_readFields_177 M_X6_readType (H.2 _ _ _ er7) ML_X6_190 IM_X6_readType SE_X6_readType qc_845 rfl (As := [.int (l2 + (1 : Int32))]) rfl rfl (by omega) (Nat.le_of_ble_eq_true rfl) (Nat.le_of_ble_eq_true rfl) (Nat.le_of_ble_eq_true rfl) ?_
    refine t_iastK dX6_readFields_180 qa_318 (t_ixv c3) (fun s2 ws2 => t_letE hk ws2 (fun hk => ?_))
    refine mj_iload_n dX6_readFields_181 4 rfl ?_
    refine mj_if_eq 209 dX6_readFields_182 (by decide) (fun z => t_posK hk z (fun hk => ?_)) (fun z => t_negK hk z (fun hk => ?_))
    · refine mj_sublv [(0, .ref 845), (1, .int l1), (2, .int l2), (3, .int l3), (4, .int l4), (5, .int l5), (6, .int r2.1)] [1, 2, 3, 4, 5, 6, 0] rfl ?_
      exact B_X6_readFields_209 rc H _ _ _ _ _ _ _ _ (fun y0 y1 y2 y3 y4 y5 hx => Hb32 y0 y1 y2 y3 y4 y5 hx) hk
    · refine mj_aload_n dX6_readFields_185 1 rfl ?_
      refine t_getR 1 dX6_readFields_186 F_X6_28 qr_845_0 ?_
      refine mj_sipush (v := 218) dX6_readFields_189 (by decide) ?_
      refine t_bndK hk (fun r8 er8 hk => ?_)
      refine t_callViE dX6_readFields_192 M_X2_take (C_X2_take _ _ _ er8) ML_X6_246 IM_X2_take SE_X2_take qc_1 rfl (As := [.int 218]) rfl rfl (by omega) (Nat.le_of_ble_eq_true rfl) (Nat.le_of_ble_eq_true rfl) (Nat.le_of_ble_eq_true rfl) ?_
      refine mj_if_eq 209 dX6_readFields_195 (by decide) (fun z => t_posK hk z (fun hk => ?_)) (fun z => t_negK hk z (fun hk => ?_))
      · refine mj_sublv [(0, .ref 845), (1, .int l1), (2, .int l2), (3, .int l3), (4, .int l4), (5, .int l5), (6, .int r2.1)] [1, 2, 3, 4, 5, 6, 0] rfl ?_
        exact B_X6_readFields_209 rc H _ _ _ _ _ _ _ _ (fun y0 y1 y2 y3 y4 y5 hx => Hb32 y0 y1 y2 y3 y4 y5 hx) hk
      · refine mj_aload_n dX6_readFields_198 1 rfl ?_
        refine t_getR 316 dX6_readFields_199 F_X6_33 qr_845_1 ?_
        refine t_getR 321 dX6_readFields_202 F_X6_362 qr_316_4 ?_
        refine mj_iload dX6_readFields_205 0 rfl ?_
        refine mj_iconst (v := 1) dX6_readFields_207 (by decide) ?_
        refine t_iastK dX6_readFields_208 qa_321 (t_ixv c3) (fun s3 ws3 => t_letE hk ws3 (fun hk => ?_))
        refine mj_sublv [(0, .ref 845), (1, .int l1), (2, .int l2), (3, .int l3), (4, .int l4), (5, .int l5), (6, .int r2.1)] [1, 2, 3, 4, 5, 6, 0] rfl ?_
        exact B_X6_readFields_209 rc H _ _ _ _ _ _ _ _ (fun y0 y1 y2 y3 y4 y5 hx => Hb32 y0 y1 y2 y3 y4 y5 hx) hk
  · refine t_mapK hk (fun hk => ?_)
    exact t_somK hk (fun hf => t_vret dX6_readFields_119 rfl ⟨rfl, hf⟩ (Nat.le_of_ble_eq_true rfl) (Nat.le_of_ble_eq_true rfl))
noncomputable def k_X6_readFields_32 (rc : RT_X6_readFields) (l1 : Int32) (l2 : Int32) (l3 : Int32) (l4 : Int32) (l5 : Int32) (s : t_S) : Option ((Int32 × Int32 × Int32 × Int32 × Int32 × t_S) ⊕ (t_S)) :=
 if (16 : Int32) < l5 then ((k_X6_readFields_278 rc s).map Sum.inr)
 else (if (s.1 1 8) = (1 : Int32) then ((f_X11_fieldOf l1 (f_X2_word s) s).bind (fun r2 =>
 if r2 < (0 : Int32) then (if l5 = (16 : Int32) then ((f_X2_fail (5 : Int32) s).bind (fun r3 =>
 k_X6_readFields_105 rc l1 l2 l3 l4 l5 r3))
 else (k_X6_readFields_105 rc l1 l2 l3 l4 l5 s))
 else ((f_X2_fail (3 : Int32) s).bind (fun r4 =>
 k_X6_readFields_105 rc l1 l2 l3 l4 l5 r4))))
 else ((f_X2_fail (2 : Int32) s).bind (fun r5 =>
 k_X6_readFields_105 rc l1 l2 l3 l4 l5 r5)))
set_option maxRecDepth 4000 in
set_option maxHeartbeats 1000000 in
theorem B_X6_readFields_32 {D : va_G} {cy : Nat → ClassId} {ad : Nat → Nat} {bs : Nat} {X : State → Heap → Prop} (rc : RT_X6_readFields) {k : Nat} (H : RH_X6_readFields rc k) (l1 : Int32) (l2 : Int32) (l3 : Int32) (l4 : Int32) (l5 : Int32) (s : t_S) (Q : (Int32 × Int32 × Int32 × Int32 × Int32 × t_S) ⊕ (t_S) → Prop) (Hb32 : ∀ (y0 : Int32) (y1 : Int32) (y2 : Int32) (y3 : Int32) (y4 : Int32) (y5 : t_S), Q (.inl (y0, y1, y2, y3, y4, y5)) → mj_G D cy ad bs X cX6_readFields 7 yX6_readFields.cls none yX6_readFields.name (3 + (k + 1)) 0 0 1065 (t_P (fun v s' => v = none ∧ Q (.inr (s')))) 32 [(0, .ref 845), (1, .int (y0)), (2, .int (y1)), (3, .int (y2)), (4, .int (y3)), (5, .int (y4))] [] (t_m y5) 1065 0 0) (hk : t_hk (k_X6_readFields_32 rc l1 l2 l3 l4 l5 s) Q) : mj_G D cy ad bs X cX6_readFields 7 yX6_readFields.cls none yX6_readFields.name (3 + (k + 1)) 0 0 1065 (t_P (fun v s' => v = none ∧ Q (.inr (s')))) 32 [(0, .ref 845), (1, .int l1), (2, .int l2), (3, .int l3), (4, .int l4), (5, .int l5)] [] (t_m s) 1065 0 0 := by
  refine mj_iload dX6_readFields_32 5 rfl ?_
  refine mj_bipush (v := 16) dX6_readFields_34 (by decide) ?_
  refine mj_icmp_gt 278 dX6_readFields_36 (by decide) (fun z => t_posK hk z (fun hk => ?_)) (fun z => t_negK hk z (fun hk => ?_))
  · refine mj_sublv [(0, .ref 845)] [0] rfl ?_
    refine t_mapK hk (fun hk => ?_)
    exact B_X6_readFields_278 rc H _ _ hk
  · refine mj_aload_n dX6_readFields_39 0 rfl ?_
    refine t_getR 1 dX6_readFields_40 F_X6_28 qr_845_0 ?_
    refine t_getI dX6_readFields_43 F_X6_85 qf_1_8 ?_
    refine mj_iconst (v := 1) dX6_readFields_46 (by decide) ?_
    refine mj_icmp_eq 61 dX6_readFields_47 (by decide) (fun z => t_posK hk z (fun hk => ?_)) (fun z => t_negK hk z (fun hk => ?_))
    · refine mj_aload_n dX6_readFields_61 0 rfl ?_
      refine t_getR 316 dX6_readFields_62 F_X6_33 qr_845_1 ?_
      refine mj_iload_n dX6_readFields_65 1 rfl ?_
      refine mj_aload_n dX6_readFields_66 0 rfl ?_
      refine t_getR 1 dX6_readFields_67 F_X6_28 qr_845_0 ?_
      refine t_callViP dX6_readFields_70 M_X2_word (C_X2_word _) ML_X6_166 IM_X2_word SE_X2_word qc_1 rfl (As := []) rfl rfl (by omega) (Nat.le_of_ble_eq_true rfl) (Nat.le_of_ble_eq_true rfl) (Nat.le_of_ble_eq_true rfl) ?_
      refine t_bndK hk (fun r2 er2 hk => ?_)
      refine t_callViP dX6_readFields_73 M_X11_fieldOf (C_X11_fieldOf _ _ _ _ er2) ML_X6_377 IM_X11_fieldOf SE_X11_fieldOf qc_316 rfl (As := [.int l1, .int (f_X2_word s)]) rfl rfl (by omega) (Nat.le_of_ble_eq_true rfl) (Nat.le_of_ble_eq_true rfl) (Nat.le_of_ble_eq_true rfl) ?_
      refine mj_if_lt 90 dX6_readFields_76 (by decide) (fun z => t_posK hk z (fun hk => ?_)) (fun z => t_negK hk z (fun hk => ?_))
      · refine mj_iload dX6_readFields_90 5 rfl ?_
        refine mj_bipush (v := 16) dX6_readFields_92 (by decide) ?_
        refine mj_icmp_ne 105 dX6_readFields_94 (by decide) (fun z => t_negK hk z (fun hk => ?_)) (fun z => t_posK hk z (fun hk => ?_))
        · exact B_X6_readFields_105 rc H _ _ _ _ _ _ _ (fun y0 y1 y2 y3 y4 y5 hx => Hb32 y0 y1 y2 y3 y4 y5 hx) hk
        · refine mj_aload_n dX6_readFields_97 0 rfl ?_
          refine t_getR 1 dX6_readFields_98 F_X6_28 qr_845_0 ?_
          refine mj_iconst (v := 5) dX6_readFields_101 (by decide) ?_
          refine t_bndK hk (fun r3 er3 hk => ?_)
          refine t_callVvE dX6_readFields_102 M_X2_fail (C_X2_fail _ _ _ er3) ML_X6_100 IM_X2_fail SE_X2_fail qc_1 rfl (As := [.int 5]) rfl rfl (by omega) (Nat.le_of_ble_eq_true rfl) (Nat.le_of_ble_eq_true rfl) (Nat.le_of_ble_eq_true rfl) ?_
          exact B_X6_readFields_105 rc H _ _ _ _ _ _ _ (fun y0 y1 y2 y3 y4 y5 hx => Hb32 y0 y1 y2 y3 y4 y5 hx) hk
      · refine mj_aload_n dX6_readFields_79 0 rfl ?_
        refine t_getR 1 dX6_readFields_80 F_X6_28 qr_845_0 ?_
        refine mj_iconst (v := 3) dX6_readFields_83 (by decide) ?_
        refine t_bndK hk (fun r4 er4 hk => ?_)
        refine t_callVvE dX6_readFields_84 M_X2_fail (C_X2_fail _ _ _ er4) ML_X6_100 IM_X2_fail SE_X2_fail qc_1 rfl (As := [.int 3]) rfl rfl (by omega) (Nat.le_of_ble_eq_true rfl) (Nat.le_of_ble_eq_true rfl) (Nat.le_of_ble_eq_true rfl) ?_
        refine mj_goto 105 dX6_readFields_87 (by decide) ?_
        exact B_X6_readFields_105 rc H _ _ _ _ _ _ _ (fun y0 y1 y2 y3 y4 y5 hx => Hb32 y0 y1 y2 y3 y4 y5 hx) hk
    · refine mj_aload_n dX6_readFields_50 0 rfl ?_
      refine t_getR 1 dX6_readFields_51 F_X6_28 qr_845_0 ?_
      refine mj_iconst (v := 2) dX6_readFields_54 (by decide) ?_
      refine t_bndK hk (fun r5 er5 hk => ?_)
      refine t_callVvE dX6_readFields_55 M_X2_fail (C_X2_fail _ _ _ er5) ML_X6_100 IM_X2_fail SE_X2_fail qc_1 rfl (As := [.int 2]) rfl rfl (by omega) (Nat.le_of_ble_eq_true rfl) (Nat.le_of_ble_eq_true rfl) (Nat.le_of_ble_eq_true rfl) ?_
      refine mj_goto 105 dX6_readFields_58 (by decide) ?_
      exact B_X6_readFields_105 rc H _ _ _ _ _ _ _ (fun y0 y1 y2 y3 y4 y5 hx => Hb32 y0 y1 y2 y3 y4 y5 hx) hk
noncomputable def b_X6_readFields_32 (rc : RT_X6_readFields) (x : Int32 × Int32 × Int32 × Int32 × Int32 × t_S) : Option ((Int32 × Int32 × Int32 × Int32 × Int32 × t_S) ⊕ (t_S)) := k_X6_readFields_32 rc x.1 x.2.1 x.2.2.1 x.2.2.2.1 x.2.2.2.2.1 x.2.2.2.2.2
set_option maxRecDepth 4000 in
set_option maxHeartbeats 1000000 in
theorem LH_X6_readFields_32 {D : va_G} {cy : Nat → ClassId} {ad : Nat → Nat} {bs : Nat} {X : State → Heap → Prop} (rc : RT_X6_readFields) {k : Nat} (H : RH_X6_readFields rc k) : ∀ (n : Nat) (y0 : Int32) (y1 : Int32) (y2 : Int32) (y3 : Int32) (y4 : Int32) (y5 : t_S) (Q : t_S → Prop) (hk : t_hk (t_loop (b_X6_readFields_32 rc) n (y0, y1, y2, y3, y4, y5)) Q), mj_G D cy ad bs X cX6_readFields 7 yX6_readFields.cls none yX6_readFields.name (3 + (k + 1)) 0 0 1065 (t_P (fun v s' => v = none ∧ Q (s'))) 32 [(0, .ref 845), (1, .int (y0)), (2, .int (y1)), (3, .int (y2)), (4, .int (y3)), (5, .int (y4))] [] (t_m y5) 1065 0 0 := by
  intro n
  induction n with
  | zero => intro y0 y1 y2 y3 y4 y5 Q hk; obtain ⟨r, hr, _⟩ := hk; cases hr
  | succ n ih =>
    intro y0 y1 y2 y3 y4 y5 Q hk
    exact B_X6_readFields_32 rc H y0 y1 y2 y3 y4 y5 (fun y => t_lq (b_X6_readFields_32 rc) n Q y) (fun y0' y1' y2' y3' y4' y5' hy => ih y0' y1' y2' y3' y4' y5' Q hy) (t_lp hk)
noncomputable def k_X6_readFields_26 (rc : RT_X6_readFields) (l1 : Int32) (l2 : Int32) (l3 : Int32) (s : t_S) : Option (t_S) :=
 t_loop (b_X6_readFields_32 rc) t_N (l1, l2, l3, (-1), 0, s)
set_option maxRecDepth 4000 in
set_option maxHeartbeats 1000000 in
theorem B_X6_readFields_26 {D : va_G} {cy : Nat → ClassId} {ad : Nat → Nat} {bs : Nat} {X : State → Heap → Prop} (rc : RT_X6_readFields) {k : Nat} (H : RH_X6_readFields rc k) (l1 : Int32) (l2 : Int32) (l3 : Int32) (s : t_S) (Q : t_S → Prop) (hk : t_hk (k_X6_readFields_26 rc l1 l2 l3 s) Q) : mj_G D cy ad bs X cX6_readFields 7 yX6_readFields.cls none yX6_readFields.name (3 + (k + 1)) 0 0 1065 (t_P (fun v s' => v = none ∧ Q (s'))) 26 [(0, .ref 845), (1, .int l1), (2, .int l2), (3, .int l3)] [] (t_m s) 1065 0 0 := by
  refine mj_iconst (v := (-1)) dX6_readFields_26 (by decide) ?_
  refine mj_istore (lv2 := [(4, .int (-1)), (0, .ref 845), (1, .int l1), (2, .int l2), (3, .int l3)]) dX6_readFields_27 (by decide) rfl ?_
  refine mj_iconst (v := 0) dX6_readFields_29 (by decide) ?_
  refine mj_istore (lv2 := [(5, .int 0), (4, .int (-1)), (0, .ref 845), (1, .int l1), (2, .int l2), (3, .int l3)]) dX6_readFields_30 (by decide) rfl ?_
  refine mj_sublv [(0, .ref 845), (1, .int l1), (2, .int l2), (3, .int l3), (4, .int (-1)), (5, .int 0)] [2, 3, 4, 5, 1, 0] rfl ?_
  exact LH_X6_readFields_32 rc H _ l1 l2 l3 (-1) 0 s _ hk
noncomputable def m_X6_readFields (rc : RT_X6_readFields) (x1 : Int32) (x2 : Int32) (x3 : Int32) (s : t_S) : Option (t_S) :=
 (f_X2_need (123 : Int32) s).bind (fun r1 =>
 if x3 = (0 : Int32) then (k_X6_readFields_26 rc x1 x2 x3 r1)
 else ((f_X2_take (125 : Int32) r1).bind (fun r2 =>
 if r2.1 = (0 : Int32) then (k_X6_readFields_26 rc x1 x2 x3 r2.2)
 else (some (r2.2)))))
set_option maxRecDepth 4000 in
set_option maxHeartbeats 1000000 in
theorem E_X6_readFields (rc : RT_X6_readFields) {k : Nat} (H : RH_X6_readFields rc k) (x1 : Int32) (x2 : Int32) (x3 : Int32) (s : t_S) (r : t_S) (hr : m_X6_readFields rc x1 x2 x3 s = some r) : t_C yX6_readFields cX6_readFields 7 none (3 + (k + 1)) [.ref 845, .int x1, .int x2, .int x3] s (fun v s' => v = none ∧ s' = r) := by
  refine t_C.imp (P := fun v s' => v = none ∧ (fun q => q = r) (s')) (t_C.of (by decide +kernel) (Nat.le_of_ble_eq_true rfl) ?_) (fun v s' hp => hp)
  intro D cy ad bs X
  have hk : t_hk (m_X6_readFields rc x1 x2 x3 s) (fun q => q = r) := ⟨r, hr, rfl⟩
  show mj_G D cy ad bs X cX6_readFields 7 yX6_readFields.cls none yX6_readFields.name (3 + (k + 1)) 0 0 1065 (t_P (fun v s' => v = none ∧ (fun q => q = r) (s'))) 0 [(0, .ref 845), (1, .int x1), (2, .int x2), (3, .int x3)] [] (t_m s) 1065 0 0
  refine mj_aload_n dX6_readFields_0 0 rfl ?_
  refine t_getR 1 dX6_readFields_1 F_X6_28 qr_845_0 ?_
  refine mj_bipush (v := 123) dX6_readFields_4 (by decide) ?_
  refine t_bndK hk (fun r1 er1 hk => ?_)
  refine t_callVvE dX6_readFields_6 M_X2_need (C_X2_need _ _ _ er1) ML_X6_184 IM_X2_need SE_X2_need qc_1 rfl (As := [.int 123]) rfl rfl (by omega) (Nat.le_of_ble_eq_true rfl) (Nat.le_of_ble_eq_true rfl) (Nat.le_of_ble_eq_true rfl) ?_
  refine mj_iload_n dX6_readFields_9 3 rfl ?_
  refine mj_if_eq 26 dX6_readFields_10 (by decide) (fun z => t_posK hk z (fun hk => ?_)) (fun z => t_negK hk z (fun hk => ?_))
  · exact B_X6_readFields_26 rc H _ _ _ _ _ hk
  · refine mj_aload_n dX6_readFields_13 0 rfl ?_
    refine t_getR 1 dX6_readFields_14 F_X6_28 qr_845_0 ?_
    refine mj_bipush (v := 125) dX6_readFields_17 (by decide) ?_
    refine t_bndK hk (fun r2 er2 hk => ?_)
    refine t_callViE dX6_readFields_19 M_X2_take (C_X2_take _ _ _ er2) ML_X6_246 IM_X2_take SE_X2_take qc_1 rfl (As := [.int 125]) rfl rfl (by omega) (Nat.le_of_ble_eq_true rfl) (Nat.le_of_ble_eq_true rfl) (Nat.le_of_ble_eq_true rfl) ?_
    refine mj_if_eq 26 dX6_readFields_22 (by decide) (fun z => t_posK hk z (fun hk => ?_)) (fun z => t_negK hk z (fun hk => ?_))
    · exact B_X6_readFields_26 rc H _ _ _ _ _ hk
    · exact t_somK hk (fun hf => t_vret dX6_readFields_25 rfl ⟨rfl, hf⟩ (Nat.le_of_ble_eq_true rfl) (Nat.le_of_ble_eq_true rfl))
noncomputable def k_X6_readType_257 (rc : RT_X6_readFields) (l1 : Int32) (l3 : Int32) (s : t_S) : Option (Int32 × t_S) :=
 (f_X2_need (217 : Int32) s).bind (fun r1 =>
 (rc.2 (l1 + (1 : Int32)) r1).bind (fun r2 =>
 if t_ix l3 3001 = true then
  t_let (t_setI r2.2 318 (l3.toNatClampNeg) r2.1) (fun s1 =>
 some (l3, s1))
else none))
set_option maxRecDepth 4000 in
set_option maxHeartbeats 1000000 in
theorem B_X6_readType_257 {D : va_G} {cy : Nat → ClassId} {ad : Nat → Nat} {bs : Nat} {X : State → Heap → Prop} (rc : RT_X6_readFields) {k : Nat} (H : RH_X6_readFields rc k) (l1 : Int32) (l3 : Int32) (s : t_S) (Q : Int32 × t_S → Prop) (hk : t_hk (k_X6_readType_257 rc l1 l3 s) Q) : mj_G D cy ad bs X cX6_readType 4 yX6_readType.cls (some .int) yX6_readType.name (3 + (k + 1)) 0 0 1065 (t_P (fun v s' => ∃ x, v = some (.int x) ∧ Q ((x, s')))) 257 [(0, .ref 845), (1, .int l1), (3, .int l3)] [] (t_m s) 1065 0 0 := by
  refine mj_aload_n dX6_readType_257 0 rfl ?_
  refine t_getR 1 dX6_readType_258 F_X6_28 qr_845_0 ?_
  refine mj_sipush (v := 217) dX6_readType_261 (by decide) ?_
  refine t_bndK hk (fun r1 er1 hk => ?_)
  refine t_callVvE dX6_readType_264 M_X2_need (C_X2_need _ _ _ er1) ML_X6_184 IM_X2_need SE_X2_need qc_1 rfl (As := [.int 217]) rfl rfl (by omega) (Nat.le_of_ble_eq_true rfl) (Nat.le_of_ble_eq_true rfl) (Nat.le_of_ble_eq_true rfl) ?_
  refine mj_aload_n dX6_readType_267 0 rfl ?_
  refine t_getR 316 dX6_readType_268 F_X6_33 qr_845_1 ?_
  refine t_getR 318 dX6_readType_271 F_X6_329 qr_316_1 ?_
  refine mj_iload_n dX6_readType_274 2 rfl ?_
  refine mj_aload_n dX6_readType_275 0 rfl ?_
  refine mj_iload_n dX6_readType_276 1 rfl ?_
  refine mj_iconst (v := 1) dX6_readType_277 (by decide) ?_
  refine mj_iadd dX6_readType_278 ?_
  refine t_bndK hk (fun r2 er2 hk => ?_)
  refine t_callViE dX6_readType_279 M_X6_readType (H.2 _ _ _ er2) ML_X6_190 IM_X6_readType SE_X6_readType qc_845 rfl (As := [.int (l1 + (1 : Int32))]) rfl rfl (by omega) (Nat.le_of_ble_eq_true rfl) (Nat.le_of_ble_eq_true rfl) (Nat.le_of_ble_eq_true rfl) ?_
  refine t_chkK hk (fun c2 hk => ?_)
  refine t_iastK dX6_readType_282 qa_318 (t_ixv c2) (fun s1 ws1 => t_letE hk ws1 (fun hk => ?_))
  refine mj_goto 286 dX6_readType_283 (by decide) ?_
  refine mj_iload_n dX6_readType_286 2 rfl ?_
  exact t_somK hk (fun hf => t_iret dX6_readType_287 rfl rfl ⟨_, rfl, hf⟩ (Nat.le_of_ble_eq_true rfl) (Nat.le_of_ble_eq_true rfl))
noncomputable def k_X6_readType_80 (rc : RT_X6_readFields) (l1 : Int32) (l2 : Int32) (k0 : Int32) (s : t_S) : Option (Int32 × t_S) :=
 (f_X11_add k0 s).bind (fun r1 =>
 if l2 = (1 : Int32) then ((f_X6_link (0 : Int32) r1.1 (0 : Int32) r1.2).bind (fun r13 =>
 some (r1.1, r13)))
 else ((f_X2_advance r1.2).bind (fun r2 =>
 if l2.toInt < 210 ∨ 216 < l2.toInt then (some (r1.1, r2))
 else if l2.toInt = 210 then ((f_X6_readInt r1.1 r2).bind (fun r3 =>
 some (r1.1, r3)))
 else if l2.toInt = 211 then (some (r1.1, r2))
 else if l2.toInt = 212 then (if t_ix r1.1 3001 = true then
  t_let (t_setJ r2 323 (r1.1.toNatClampNeg) (40 : Int64)) (fun s1 =>
 if (s1.1 1 8) = (40 : Int32) then ((f_X6_readSpan (40 : Int32) s1).bind (fun r5 =>
 (f_X6_setSpan r1.1 r5.1 r5.2).bind (fun r6 =>
 some (r1.1, r6))))
 else (some (r1.1, s1)))
else none)
 else if l2.toInt = 213 then ((f_X6_readEnum r1.1 r2).bind (fun r7 =>
 some (r1.1, r7)))
 else if l2.toInt = 214 then ((rc.1 r1.1 l1 (1 : Int32) r2).bind (fun r8 =>
 some (r1.1, r8)))
 else if l2.toInt = 215 then ((rc.1 r1.1 l1 (0 : Int32) r2).bind (fun r9 =>
 some (r1.1, r9)))
 else (if t_ix r1.1 3001 = true then
  t_let (t_setJ r2 323 (r1.1.toNatClampNeg) (16 : Int64)) (fun s2 =>
 if (s2.1 1 8) = (40 : Int32) then ((f_X6_readSpan (16 : Int32) s2).bind (fun r11 =>
 (f_X6_setSpan r1.1 r11.1 r11.2).bind (fun r12 =>
 k_X6_readType_257 rc l1 r1.1 r12)))
 else (k_X6_readType_257 rc l1 r1.1 s2))
else none))))
set_option maxRecDepth 4000 in
set_option maxHeartbeats 1000000 in
theorem B_X6_readType_80 {D : va_G} {cy : Nat → ClassId} {ad : Nat → Nat} {bs : Nat} {X : State → Heap → Prop} (rc : RT_X6_readFields) {k : Nat} (H : RH_X6_readFields rc k) (l1 : Int32) (l2 : Int32) (k0 : Int32) (s : t_S) (Q : Int32 × t_S → Prop) (hk : t_hk (k_X6_readType_80 rc l1 l2 k0 s) Q) : mj_G D cy ad bs X cX6_readType 4 yX6_readType.cls (some .int) yX6_readType.name (3 + (k + 1)) 0 0 1065 (t_P (fun v s' => ∃ x, v = some (.int x) ∧ Q ((x, s')))) 80 [(0, .ref 845), (1, .int l1), (2, .int l2)] [.int k0, .ref 316] (t_m s) 1065 0 0 := by
  refine t_bndK hk (fun r1 er1 hk => ?_)
  refine t_callViE dX6_readType_80 M_X11_add (C_X11_add _ _ _ er1) ML_X6_301 IM_X11_add SE_X11_add qc_316 rfl (As := [.int k0]) rfl rfl (by omega) (Nat.le_of_ble_eq_true rfl) (Nat.le_of_ble_eq_true rfl) (Nat.le_of_ble_eq_true rfl) ?_
  refine mj_istore_n 3 (lv2 := [(3, .int r1.1), (0, .ref 845), (1, .int l1), (2, .int l2)]) dX6_readType_83 rfl (by decide) rfl ?_
  refine mj_iload_n dX6_readType_84 3 rfl ?_
  refine mj_iconst (v := 1) dX6_readType_85 (by decide) ?_
  refine mj_icmp_ne 98 dX6_readType_86 (by decide) (fun z => t_negK hk z (fun hk => ?_)) (fun z => t_posK hk z (fun hk => ?_))
  · refine mj_aload_n dX6_readType_98 1 rfl ?_
    refine t_getR 1 dX6_readType_99 F_X6_28 qr_845_0 ?_
    refine t_bndK hk (fun r2 er2 hk => ?_)
    refine t_callVvE dX6_readType_102 M_X2_advance (C_X2_advance _ _ er2) ML_X6_170 IM_X2_advance SE_X2_advance qc_1 rfl (As := []) rfl rfl (by omega) (Nat.le_of_ble_eq_true rfl) (Nat.le_of_ble_eq_true rfl) (Nat.le_of_ble_eq_true rfl) ?_
    refine mj_iload_n dX6_readType_105 3 rfl ?_
    by_cases hout : l2.toInt < 210 ∨ 216 < l2.toInt
    · replace hk := t_pos hk hout
      refine mj_tableOut 286 dX6_readType_106 hout (by decide) ?_
      refine mj_iload_n dX6_readType_286 0 rfl ?_
      exact t_somK hk (fun hf => t_iret dX6_readType_287 rfl rfl ⟨_, rfl, hf⟩ (Nat.le_of_ble_eq_true rfl) (Nat.le_of_ble_eq_true rfl))
    · replace hk := t_neg hk hout
      have hh1 : ¬ l2.toInt < 210 := fun z => hout (Or.inl z)
      have hh2 : ¬ (216 : Int) < l2.toInt := fun z => hout (Or.inr z)
      by_cases h0 : l2.toInt = 210
      · replace hk := t_pos hk h0
        refine mj_tableIn 148 dX6_readType_106 hh1 hh2 (by rw [h0]; rfl) (by decide) ?_
        refine mj_aload_n dX6_readType_148 1 rfl ?_
        refine mj_iload_n dX6_readType_149 0 rfl ?_
        refine t_bndK hk (fun r3 er3 hk => ?_)
        refine t_callVvE dX6_readType_150 M_X6_readInt (C_X6_readInt _ _ _ er3) ML_X6_303 IM_X6_readInt SE_X6_readInt qc_845 rfl (As := [.int r1.1]) rfl rfl (by omega) (Nat.le_of_ble_eq_true rfl) (Nat.le_of_ble_eq_true rfl) (Nat.le_of_ble_eq_true rfl) ?_
        refine mj_goto 286 dX6_readType_153 (by decide) ?_
        refine mj_iload_n dX6_readType_286 0 rfl ?_
        exact t_somK hk (fun hf => t_iret dX6_readType_287 rfl rfl ⟨_, rfl, hf⟩ (Nat.le_of_ble_eq_true rfl) (Nat.le_of_ble_eq_true rfl))
      replace hk := t_neg hk h0
      by_cases h1 : l2.toInt = 211
      · replace hk := t_pos hk h1
        refine mj_tableIn 286 dX6_readType_106 hh1 hh2 (by rw [h1]; rfl) (by decide) ?_
        refine mj_iload_n dX6_readType_286 0 rfl ?_
        exact t_somK hk (fun hf => t_iret dX6_readType_287 rfl rfl ⟨_, rfl, hf⟩ (Nat.le_of_ble_eq_true rfl) (Nat.le_of_ble_eq_true rfl))
      replace hk := t_neg hk h1
      by_cases h2 : l2.toInt = 212
      · replace hk := t_pos hk h2
        refine mj_tableIn 156 dX6_readType_106 hh1 hh2 (by rw [h2]; rfl) (by decide) ?_
        refine mj_aload_n dX6_readType_156 1 rfl ?_
        refine t_getR 316 dX6_readType_157 F_X6_33 qr_845_1 ?_
        refine t_getR 323 dX6_readType_160 F_X6_306 qr_316_6 ?_
        refine mj_iload_n dX6_readType_163 0 rfl ?_
        refine mj_ldc2 dX6_readType_164 K_X6_310 ?_
        refine t_chkK hk (fun c3 hk => ?_)
        refine t_lastK dX6_readType_167 qa_323 (t_ixv c3) (fun s1 ws1 => t_letE hk ws1 (fun hk => ?_))
        refine mj_aload_n dX6_readType_168 1 rfl ?_
        refine t_getR 1 dX6_readType_169 F_X6_28 qr_845_0 ?_
        refine t_getI dX6_readType_172 F_X6_85 qf_1_8 ?_
        refine mj_bipush (v := 40) dX6_readType_175 (by decide) ?_
        refine mj_icmp_ne 286 dX6_readType_177 (by decide) (fun z => t_negK hk z (fun hk => ?_)) (fun z => t_posK hk z (fun hk => ?_))
        · refine mj_iload_n dX6_readType_286 0 rfl ?_
          exact t_somK hk (fun hf => t_iret dX6_readType_287 rfl rfl ⟨_, rfl, hf⟩ (Nat.le_of_ble_eq_true rfl) (Nat.le_of_ble_eq_true rfl))
        · refine mj_aload_n dX6_readType_180 1 rfl ?_
          refine mj_iload_n dX6_readType_181 0 rfl ?_
          refine mj_aload_n dX6_readType_182 1 rfl ?_
          refine mj_bipush (v := 40) dX6_readType_183 (by decide) ?_
          refine t_bndK hk (fun r5 er5 hk => ?_)
          refine t_callViE dX6_readType_185 M_X6_readSpan (C_X6_readSpan _ _ _ er5) ML_X6_312 IM_X6_readSpan SE_X6_readSpan qc_845 rfl (As := [.int 40]) rfl rfl (by omega) (Nat.le_of_ble_eq_true rfl) (Nat.le_of_ble_eq_true rfl) (Nat.le_of_ble_eq_true rfl) ?_
          refine t_bndK hk (fun r6 er6 hk => ?_)
          refine t_callVvE dX6_readType_188 M_X6_setSpan (C_X6_setSpan _ _ _ _ er6) ML_X6_315 IM_X6_setSpan SE_X6_setSpan qc_845 rfl (As := [.int r1.1, .int r5.1]) rfl rfl (by omega) (Nat.le_of_ble_eq_true rfl) (Nat.le_of_ble_eq_true rfl) (Nat.le_of_ble_eq_true rfl) ?_
          refine mj_goto 286 dX6_readType_191 (by decide) ?_
          refine mj_iload_n dX6_readType_286 0 rfl ?_
          exact t_somK hk (fun hf => t_iret dX6_readType_287 rfl rfl ⟨_, rfl, hf⟩ (Nat.le_of_ble_eq_true rfl) (Nat.le_of_ble_eq_true rfl))
      replace hk := t_neg hk h2
      by_cases h3 : l2.toInt = 213
      · replace hk := t_pos hk h3
        refine mj_tableIn 194 dX6_readType_106 hh1 hh2 (by rw [h3]; rfl) (by decide) ?_
        refine mj_aload_n dX6_readType_194 1 rfl ?_
        refine mj_iload_n dX6_readType_195 0 rfl ?_
        refine t_bndK hk (fun r7 er7 hk => ?_)
        refine t_callVvE dX6_readType_196 M_X6_readEnum (C_X6_readEnum _ _ _ er7) ML_X6_318 IM_X6_readEnum SE_X6_readEnum qc_845 rfl (As := [.int r1.1]) rfl rfl (by omega) (Nat.le_of_ble_eq_true rfl) (Nat.le_of_ble_eq_true rfl) (Nat.le_of_ble_eq_true rfl) ?_
        refine mj_goto 286 dX6_readType_199 (by decide) ?_
        refine mj_iload_n dX6_readType_286 0 rfl ?_
        exact t_somK hk (fun hf => t_iret dX6_readType_287 rfl rfl ⟨_, rfl, hf⟩ (Nat.le_of_ble_eq_true rfl) (Nat.le_of_ble_eq_true rfl))
      replace hk := t_neg hk h3
      by_cases h4 : l2.toInt = 214
      · replace hk := t_pos hk h4
        refine mj_tableIn 202 dX6_readType_106 hh1 hh2 (by rw [h4]; rfl) (by decide) ?_
        refine mj_aload_n dX6_readType_202 1 rfl ?_
        refine mj_iload_n dX6_readType_203 0 rfl ?_
        refine mj_iload_n dX6_readType_204 2 rfl ?_
        refine mj_iconst (v := 1) dX6_readType_205 (by decide) ?_
        refine t_bndK hk (fun r8 er8 hk => ?_)
        refine t_callVvE dX6_readType_206 M_X6_readFields (H.1 _ _ _ _ _ er8) ML_X6_321 IM_X6_readFields SE_X6_readFields qc_845 rfl (As := [.int r1.1, .int l1, .int 1]) rfl rfl (by omega) (Nat.le_of_ble_eq_true rfl) (Nat.le_of_ble_eq_true rfl) (Nat.le_of_ble_eq_true rfl) ?_
        refine mj_goto 286 dX6_readType_209 (by decide) ?_
        refine mj_iload_n dX6_readType_286 0 rfl ?_
        exact t_somK hk (fun hf => t_iret dX6_readType_287 rfl rfl ⟨_, rfl, hf⟩ (Nat.le_of_ble_eq_true rfl) (Nat.le_of_ble_eq_true rfl))
      replace hk := t_neg hk h4
      by_cases h5 : l2.toInt = 215
      · replace hk := t_pos hk h5
        refine mj_tableIn 212 dX6_readType_106 hh1 hh2 (by rw [h5]; rfl) (by decide) ?_
        refine mj_aload_n dX6_readType_212 1 rfl ?_
        refine mj_iload_n dX6_readType_213 0 rfl ?_
        refine mj_iload_n dX6_readType_214 2 rfl ?_
        refine mj_iconst (v := 0) dX6_readType_215 (by decide) ?_
        refine t_bndK hk (fun r9 er9 hk => ?_)
        refine t_callVvE dX6_readType_216 M_X6_readFields (H.1 _ _ _ _ _ er9) ML_X6_321 IM_X6_readFields SE_X6_readFields qc_845 rfl (As := [.int r1.1, .int l1, .int 0]) rfl rfl (by omega) (Nat.le_of_ble_eq_true rfl) (Nat.le_of_ble_eq_true rfl) (Nat.le_of_ble_eq_true rfl) ?_
        refine mj_goto 286 dX6_readType_219 (by decide) ?_
        refine mj_iload_n dX6_readType_286 0 rfl ?_
        exact t_somK hk (fun hf => t_iret dX6_readType_287 rfl rfl ⟨_, rfl, hf⟩ (Nat.le_of_ble_eq_true rfl) (Nat.le_of_ble_eq_true rfl))
      replace hk := t_neg hk h5
      have h6 : l2.toInt = 216 := by omega
      refine mj_tableIn 222 dX6_readType_106 hh1 hh2 (by rw [h6]; rfl) (by decide) ?_
      refine mj_aload_n dX6_readType_222 1 rfl ?_
      refine t_getR 316 dX6_readType_223 F_X6_33 qr_845_1 ?_
      refine t_getR 323 dX6_readType_226 F_X6_306 qr_316_6 ?_
      refine mj_iload_n dX6_readType_229 0 rfl ?_
      refine mj_ldc2 dX6_readType_230 K_X6_327 ?_
      refine t_chkK hk (fun c9 hk => ?_)
      refine t_lastK dX6_readType_233 qa_323 (t_ixv c9) (fun s2 ws2 => t_letE hk ws2 (fun hk => ?_))
      refine mj_aload_n dX6_readType_234 1 rfl ?_
      refine t_getR 1 dX6_readType_235 F_X6_28 qr_845_0 ?_
      refine t_getI dX6_readType_238 F_X6_85 qf_1_8 ?_
      refine mj_bipush (v := 40) dX6_readType_241 (by decide) ?_
      refine mj_icmp_ne 257 dX6_readType_243 (by decide) (fun z => t_negK hk z (fun hk => ?_)) (fun z => t_posK hk z (fun hk => ?_))
      · refine mj_sublv [(0, .ref 845), (1, .int l1), (3, .int r1.1)] [1, 2, 0] rfl ?_
        exact B_X6_readType_257 rc H _ _ _ _ hk
      · refine mj_aload_n dX6_readType_246 1 rfl ?_
        refine mj_iload_n dX6_readType_247 0 rfl ?_
        refine mj_aload_n dX6_readType_248 1 rfl ?_
        refine mj_bipush (v := 16) dX6_readType_249 (by decide) ?_
        refine t_bndK hk (fun r11 er11 hk => ?_)
        refine t_callViE dX6_readType_251 M_X6_readSpan (C_X6_readSpan _ _ _ er11) ML_X6_312 IM_X6_readSpan SE_X6_readSpan qc_845 rfl (As := [.int 16]) rfl rfl (by omega) (Nat.le_of_ble_eq_true rfl) (Nat.le_of_ble_eq_true rfl) (Nat.le_of_ble_eq_true rfl) ?_
        refine t_bndK hk (fun r12 er12 hk => ?_)
        refine t_callVvE dX6_readType_254 M_X6_setSpan (C_X6_setSpan _ _ _ _ er12) ML_X6_315 IM_X6_setSpan SE_X6_setSpan qc_845 rfl (As := [.int r1.1, .int r11.1]) rfl rfl (by omega) (Nat.le_of_ble_eq_true rfl) (Nat.le_of_ble_eq_true rfl) (Nat.le_of_ble_eq_true rfl) ?_
        refine mj_sublv [(0, .ref 845), (1, .int l1), (3, .int r1.1)] [1, 2, 0] rfl ?_
        exact B_X6_readType_257 rc H _ _ _ _ hk
  · refine mj_aload_n dX6_readType_89 1 rfl ?_
    refine mj_iconst (v := 0) dX6_readType_90 (by decide) ?_
    refine mj_iload_n dX6_readType_91 0 rfl ?_
    refine mj_iconst (v := 0) dX6_readType_92 (by decide) ?_
    refine t_bndK hk (fun r13 er13 hk => ?_)
    refine t_callVvE dX6_readType_93 M_X6_link (C_X6_link _ _ _ _ _ er13) ML_X6_250 IM_X6_link SE_X6_link qc_845 rfl (As := [.int 0, .int r1.1, .int 0]) rfl rfl (by omega) (Nat.le_of_ble_eq_true rfl) (Nat.le_of_ble_eq_true rfl) (Nat.le_of_ble_eq_true rfl) ?_
    refine mj_iload_n dX6_readType_96 0 rfl ?_
    exact t_somK hk (fun hf => t_iret dX6_readType_97 rfl rfl ⟨_, rfl, hf⟩ (Nat.le_of_ble_eq_true rfl) (Nat.le_of_ble_eq_true rfl))
noncomputable def k_X6_readType_35 (rc : RT_X6_readFields) (l1 : Int32) (s : t_S) : Option (Int32 × t_S) :=
 (f_X6_node s).bind (fun r1 =>
 if (r1.1 1 11) = (0 : Int32) then (if (r1.1 1 8) = (1 : Int32) then (k_X6_readType_80 rc l1 (r1.1 1 8) 8 r1)
 else (k_X6_readType_80 rc l1 (r1.1 1 8) (((1 : Int32) + (r1.1 1 8)) - (210 : Int32)) r1))
 else (some ((0 : Int32), r1)))
set_option maxRecDepth 4000 in
set_option maxHeartbeats 1000000 in
theorem B_X6_readType_35 {D : va_G} {cy : Nat → ClassId} {ad : Nat → Nat} {bs : Nat} {X : State → Heap → Prop} (rc : RT_X6_readFields) {k : Nat} (H : RH_X6_readFields rc k) (l1 : Int32) (s : t_S) (Q : Int32 × t_S → Prop) (hk : t_hk (k_X6_readType_35 rc l1 s) Q) : mj_G D cy ad bs X cX6_readType 4 yX6_readType.cls (some .int) yX6_readType.name (3 + (k + 1)) 0 0 1065 (t_P (fun v s' => ∃ x, v = some (.int x) ∧ Q ((x, s')))) 35 [(0, .ref 845), (1, .int l1)] [] (t_m s) 1065 0 0 := by
  refine mj_aload_n dX6_readType_35 0 rfl ?_
  refine t_bndK hk (fun r1 er1 hk => ?_)
  refine t_callVvE dX6_readType_36 M_X6_node (C_X6_node _ _ er1) ML_X6_298 IM_X6_node SE_X6_node qc_845 rfl (As := []) rfl rfl (by omega) (Nat.le_of_ble_eq_true rfl) (Nat.le_of_ble_eq_true rfl) (Nat.le_of_ble_eq_true rfl) ?_
  refine mj_aload_n dX6_readType_39 0 rfl ?_
  refine t_getR 1 dX6_readType_40 F_X6_28 qr_845_0 ?_
  refine t_getI dX6_readType_43 F_X6_82 qf_1_11 ?_
  refine mj_if_eq 51 dX6_readType_46 (by decide) (fun z => t_posK hk z (fun hk => ?_)) (fun z => t_negK hk z (fun hk => ?_))
  · refine mj_aload_n dX6_readType_51 0 rfl ?_
    refine t_getR 1 dX6_readType_52 F_X6_28 qr_845_0 ?_
    refine t_getI dX6_readType_55 F_X6_85 qf_1_8 ?_
    refine mj_istore_n 2 (lv2 := [(2, .int (r1.1 1 8)), (0, .ref 845), (1, .int l1)]) dX6_readType_58 rfl (by decide) rfl ?_
    refine mj_aload_n dX6_readType_59 1 rfl ?_
    refine t_getR 316 dX6_readType_60 F_X6_33 qr_845_1 ?_
    refine mj_iload_n dX6_readType_63 0 rfl ?_
    refine mj_iconst (v := 1) dX6_readType_64 (by decide) ?_
    refine mj_icmp_ne 73 dX6_readType_65 (by decide) (fun z => t_negK hk z (fun hk => ?_)) (fun z => t_posK hk z (fun hk => ?_))
    · refine mj_iconst (v := 1) dX6_readType_73 (by decide) ?_
      refine mj_iload_n dX6_readType_74 0 rfl ?_
      refine mj_iadd dX6_readType_75 ?_
      refine mj_sipush (v := 210) dX6_readType_76 (by decide) ?_
      refine mj_isub dX6_readType_79 ?_
      refine mj_sublv [(0, .ref 845), (1, .int l1), (2, .int (r1.1 1 8))] [1, 2, 0] rfl ?_
      exact B_X6_readType_80 rc H _ _ _ _ _ hk
    · refine mj_bipush (v := 8) dX6_readType_68 (by decide) ?_
      refine mj_goto 80 dX6_readType_70 (by decide) ?_
      refine mj_sublv [(0, .ref 845), (1, .int l1), (2, .int (r1.1 1 8))] [1, 2, 0] rfl ?_
      exact B_X6_readType_80 rc H _ _ _ _ _ hk
  · refine mj_iconst (v := 0) dX6_readType_49 (by decide) ?_
    exact t_somK hk (fun hf => t_iret dX6_readType_50 rfl rfl ⟨_, rfl, hf⟩ (Nat.le_of_ble_eq_true rfl) (Nat.le_of_ble_eq_true rfl))
noncomputable def k_X6_readType_21 (rc : RT_X6_readFields) (l1 : Int32) (s : t_S) : Option (Int32 × t_S) :=
 if l1 ≤ (16 : Int32) then (k_X6_readType_35 rc l1 s)
 else ((f_X2_fail (5 : Int32) s).bind (fun r1 =>
 k_X6_readType_35 rc l1 r1))
set_option maxRecDepth 4000 in
set_option maxHeartbeats 1000000 in
theorem B_X6_readType_21 {D : va_G} {cy : Nat → ClassId} {ad : Nat → Nat} {bs : Nat} {X : State → Heap → Prop} (rc : RT_X6_readFields) {k : Nat} (H : RH_X6_readFields rc k) (l1 : Int32) (s : t_S) (Q : Int32 × t_S → Prop) (hk : t_hk (k_X6_readType_21 rc l1 s) Q) : mj_G D cy ad bs X cX6_readType 4 yX6_readType.cls (some .int) yX6_readType.name (3 + (k + 1)) 0 0 1065 (t_P (fun v s' => ∃ x, v = some (.int x) ∧ Q ((x, s')))) 21 [(0, .ref 845), (1, .int l1)] [] (t_m s) 1065 0 0 := by
  refine mj_iload_n dX6_readType_21 1 rfl ?_
  refine mj_bipush (v := 16) dX6_readType_22 (by decide) ?_
  refine mj_icmp_le 35 dX6_readType_24 (by decide) (fun z => t_posK hk z (fun hk => ?_)) (fun z => t_negK hk z (fun hk => ?_))
  · exact B_X6_readType_35 rc H _ _ _ hk
  · refine mj_aload_n dX6_readType_27 0 rfl ?_
    refine t_getR 1 dX6_readType_28 F_X6_28 qr_845_0 ?_
    refine mj_iconst (v := 5) dX6_readType_31 (by decide) ?_
    refine t_bndK hk (fun r1 er1 hk => ?_)
    refine t_callVvE dX6_readType_32 M_X2_fail (C_X2_fail _ _ _ er1) ML_X6_100 IM_X2_fail SE_X2_fail qc_1 rfl (As := [.int 5]) rfl rfl (by omega) (Nat.le_of_ble_eq_true rfl) (Nat.le_of_ble_eq_true rfl) (Nat.le_of_ble_eq_true rfl) ?_
    exact B_X6_readType_35 rc H _ _ _ hk
noncomputable def m_X6_readType (rc : RT_X6_readFields) (x1 : Int32) (s : t_S) : Option (Int32 × t_S) :=
 if (f_X6_beginsType (s.1 1 8) s) = (0 : Int32) then ((f_X2_fail (2 : Int32) s).bind (fun r2 =>
 k_X6_readType_21 rc x1 r2))
 else (k_X6_readType_21 rc x1 s)
set_option maxRecDepth 4000 in
set_option maxHeartbeats 1000000 in
theorem E_X6_readType (rc : RT_X6_readFields) {k : Nat} (H : RH_X6_readFields rc k) (x1 : Int32) (s : t_S) (r : Int32 × t_S) (hr : m_X6_readType rc x1 s = some r) : t_C yX6_readType cX6_readType 4 (some .int) (3 + (k + 1)) [.ref 845, .int x1] s (fun v s' => v = some (.int r.1) ∧ s' = r.2) := by
  refine t_C.imp (P := fun v s' => ∃ x, v = some (.int x) ∧ (fun q => q = r) ((x, s'))) (t_C.of (by decide +kernel) (Nat.le_of_ble_eq_true rfl) ?_) (fun v s' hp => by obtain ⟨x, rfl, rfl⟩ := hp; exact ⟨rfl, rfl⟩)
  intro D cy ad bs X
  have hk : t_hk (m_X6_readType rc x1 s) (fun q => q = r) := ⟨r, hr, rfl⟩
  show mj_G D cy ad bs X cX6_readType 4 yX6_readType.cls (some .int) yX6_readType.name (3 + (k + 1)) 0 0 1065 (t_P (fun v s' => ∃ x, v = some (.int x) ∧ (fun q => q = r) ((x, s')))) 0 [(0, .ref 845), (1, .int x1)] [] (t_m s) 1065 0 0
  refine mj_aload_n dX6_readType_0 0 rfl ?_
  refine t_getR 1 dX6_readType_1 F_X6_28 qr_845_0 ?_
  refine t_getI dX6_readType_4 F_X6_85 qf_1_8 ?_
  refine t_callSiP dX6_readType_7 M_X6_beginsType (C_X6_beginsType _ _) ML_X6_295 SM_X6_beginsType (As := [.int (s.1 1 8)]) rfl rfl (by omega) (Nat.le_of_ble_eq_true rfl) (Nat.le_of_ble_eq_true rfl) (Nat.le_of_ble_eq_true rfl) ?_
  refine mj_if_ne 21 dX6_readType_10 (by decide) (fun z => t_negK hk z (fun hk => ?_)) (fun z => t_posK hk z (fun hk => ?_))
  · exact B_X6_readType_21 rc H _ _ _ hk
  · refine mj_aload_n dX6_readType_13 0 rfl ?_
    refine t_getR 1 dX6_readType_14 F_X6_28 qr_845_0 ?_
    refine mj_iconst (v := 2) dX6_readType_17 (by decide) ?_
    refine t_bndK hk (fun r2 er2 hk => ?_)
    refine t_callVvE dX6_readType_18 M_X2_fail (C_X2_fail _ _ _ er2) ML_X6_100 IM_X2_fail SE_X2_fail qc_1 rfl (As := [.int 2]) rfl rfl (by omega) (Nat.le_of_ble_eq_true rfl) (Nat.le_of_ble_eq_true rfl) (Nat.le_of_ble_eq_true rfl) ?_
    exact B_X6_readType_21 rc H _ _ _ hk
/-- so many calls deep -/
noncomputable def R_X6_readFields : Nat → RT_X6_readFields
  | 0 => ⟨fun _ _ _ _ => none, fun _ _ => none⟩
  | k + 1 => ⟨fun x1 x2 x3 s => m_X6_readFields (R_X6_readFields k) x1 x2 x3 s, fun x1 s => m_X6_readType (R_X6_readFields k) x1 s⟩
theorem RR_X6_readFields : ∀ k : Nat, RH_X6_readFields (R_X6_readFields k) k := by
  intro k
  induction k with
  | zero => exact ⟨fun _ _ _ _ _ h => (by cases h), fun _ _ _ h => (by cases h)⟩
  | succ k ih => exact ⟨fun x1 x2 x3 s r h => E_X6_readFields (R_X6_readFields k) ih x1 x2 x3 s r h, fun x1 s r h => E_X6_readType (R_X6_readFields k) ih x1 s r h⟩
noncomputable def f_X6_readFields (x1 : Int32) (x2 : Int32) (x3 : Int32) (s : t_S) : Option (t_S) := (R_X6_readFields 100).1 x1 x2 x3 s
theorem C_X6_readFields (x1 : Int32) (x2 : Int32) (x3 : Int32) (s : t_S) (r : t_S) (hr : f_X6_readFields x1 x2 x3 s = some r) : t_C yX6_readFields cX6_readFields 7 none 103 [.ref 845, .int x1, .int x2, .int x3] s (fun v s' => v = none ∧ s' = r) := (RR_X6_readFields 100).1 x1 x2 x3 s r hr
noncomputable def f_X6_readType (x1 : Int32) (s : t_S) : Option (Int32 × t_S) := (R_X6_readFields 100).2 x1 s
theorem C_X6_readType (x1 : Int32) (s : t_S) (r : Int32 × t_S) (hr : f_X6_readType x1 s = some r) : t_C yX6_readType cX6_readType 4 (some .int) 103 [.ref 845, .int x1] s (fun v s' => v = some (.int r.1) ∧ s' = r.2) := (RR_X6_readFields 100).2 x1 s r hr

theorem dX6_readTypeItem_0 : decode cX6_readTypeItem 0 = .ok (.aload_n 0, 1) := by decide +kernel
theorem dX6_readTypeItem_1 : decode cX6_readTypeItem 1 = .ok (.getfield 28, 3) := by decide +kernel
theorem dX6_readTypeItem_11 : decode cX6_readTypeItem 11 = .ok (.getfield 173, 3) := by decide +kernel
theorem dX6_readTypeItem_14 : decode cX6_readTypeItem 14 = .ok (.istore_n 1, 1) := by decide +kernel
theorem dX6_readTypeItem_15 : decode cX6_readTypeItem 15 = .ok (.aload_n 0, 1) := by decide +kernel
theorem dX6_readTypeItem_16 : decode cX6_readTypeItem 16 = .ok (.iconst 0, 1) := by decide +kernel
theorem dX6_readTypeItem_17 : decode cX6_readTypeItem 17 = .ok (.iload_n 1, 1) := by decide +kernel
theorem dX6_readTypeItem_18 : decode cX6_readTypeItem 18 = .ok (.bipush 60, 2) := by decide +kernel
theorem dX6_readTypeItem_20 : decode cX6_readTypeItem 20 = .ok (.invokevirtual 176, 3) := by decide +kernel
theorem dX6_readTypeItem_23 : decode cX6_readTypeItem 23 = .ok (.ifCond .ne 4, 3) := by decide +kernel
theorem dX6_readTypeItem_26 : decode cX6_readTypeItem 26 = .ok (.return_, 1) := by decide +kernel
theorem dX6_readTypeItem_27 : decode cX6_readTypeItem 27 = .ok (.aload_n 0, 1) := by decide +kernel
theorem dX6_readTypeItem_28 : decode cX6_readTypeItem 28 = .ok (.getfield 33, 3) := by decide +kernel
theorem dX6_readTypeItem_31 : decode cX6_readTypeItem 31 = .ok (.getfield 180, 3) := by decide +kernel
theorem dX6_readTypeItem_34 : decode cX6_readTypeItem 34 = .ok (.iload_n 1, 1) := by decide +kernel
theorem dX6_readTypeItem_35 : decode cX6_readTypeItem 35 = .ok (.aload_n 0, 1) := by decide +kernel
theorem dX6_readTypeItem_36 : decode cX6_readTypeItem 36 = .ok (.getfield 28, 3) := by decide +kernel
theorem dX6_readTypeItem_39 : decode cX6_readTypeItem 39 = .ok (.getfield 183, 3) := by decide +kernel
theorem dX6_readTypeItem_4 : decode cX6_readTypeItem 4 = .ok (.invokevirtual 170, 3) := by decide +kernel
theorem dX6_readTypeItem_42 : decode cX6_readTypeItem 42 = .ok (.iastore, 1) := by decide +kernel
theorem dX6_readTypeItem_43 : decode cX6_readTypeItem 43 = .ok (.aload_n 0, 1) := by decide +kernel
theorem dX6_readTypeItem_44 : decode cX6_readTypeItem 44 = .ok (.getfield 33, 3) := by decide +kernel
theorem dX6_readTypeItem_47 : decode cX6_readTypeItem 47 = .ok (.dup, 1) := by decide +kernel
theorem dX6_readTypeItem_48 : decode cX6_readTypeItem 48 = .ok (.getfield 173, 3) := by decide +kernel
theorem dX6_readTypeItem_51 : decode cX6_readTypeItem 51 = .ok (.iconst 1, 1) := by decide +kernel
theorem dX6_readTypeItem_52 : decode cX6_readTypeItem 52 = .ok (.iadd, 1) := by decide +kernel
theorem dX6_readTypeItem_53 : decode cX6_readTypeItem 53 = .ok (.putfield 173, 3) := by decide +kernel
theorem dX6_readTypeItem_56 : decode cX6_readTypeItem 56 = .ok (.aload_n 0, 1) := by decide +kernel
theorem dX6_readTypeItem_57 : decode cX6_readTypeItem 57 = .ok (.getfield 28, 3) := by decide +kernel
theorem dX6_readTypeItem_60 : decode cX6_readTypeItem 60 = .ok (.invokevirtual 170, 3) := by decide +kernel
theorem dX6_readTypeItem_63 : decode cX6_readTypeItem 63 = .ok (.aload_n 0, 1) := by decide +kernel
theorem dX6_readTypeItem_64 : decode cX6_readTypeItem 64 = .ok (.getfield 28, 3) := by decide +kernel
theorem dX6_readTypeItem_67 : decode cX6_readTypeItem 67 = .ok (.bipush 61, 2) := by decide +kernel
theorem dX6_readTypeItem_69 : decode cX6_readTypeItem 69 = .ok (.invokevirtual 184, 3) := by decide +kernel
theorem dX6_readTypeItem_7 : decode cX6_readTypeItem 7 = .ok (.aload_n 0, 1) := by decide +kernel
theorem dX6_readTypeItem_72 : decode cX6_readTypeItem 72 = .ok (.aload_n 0, 1) := by decide +kernel
theorem dX6_readTypeItem_73 : decode cX6_readTypeItem 73 = .ok (.getfield 33, 3) := by decide +kernel
theorem dX6_readTypeItem_76 : decode cX6_readTypeItem 76 = .ok (.getfield 187, 3) := by decide +kernel
theorem dX6_readTypeItem_79 : decode cX6_readTypeItem 79 = .ok (.iload_n 1, 1) := by decide +kernel
theorem dX6_readTypeItem_8 : decode cX6_readTypeItem 8 = .ok (.getfield 33, 3) := by decide +kernel
theorem dX6_readTypeItem_80 : decode cX6_readTypeItem 80 = .ok (.aload_n 0, 1) := by decide +kernel
theorem dX6_readTypeItem_81 : decode cX6_readTypeItem 81 = .ok (.iconst 0, 1) := by decide +kernel
theorem dX6_readTypeItem_82 : decode cX6_readTypeItem 82 = .ok (.invokevirtual 190, 3) := by decide +kernel
theorem dX6_readTypeItem_85 : decode cX6_readTypeItem 85 = .ok (.iastore, 1) := by decide +kernel
theorem dX6_readTypeItem_86 : decode cX6_readTypeItem 86 = .ok (.aload_n 0, 1) := by decide +kernel
theorem dX6_readTypeItem_87 : decode cX6_readTypeItem 87 = .ok (.getfield 28, 3) := by decide +kernel
theorem dX6_readTypeItem_90 : decode cX6_readTypeItem 90 = .ok (.bipush 59, 2) := by decide +kernel
theorem dX6_readTypeItem_92 : decode cX6_readTypeItem 92 = .ok (.invokevirtual 184, 3) := by decide +kernel
theorem dX6_readTypeItem_95 : decode cX6_readTypeItem 95 = .ok (.return_, 1) := by decide +kernel
noncomputable def f_X6_readTypeItem (s : t_S) : Option (t_S) :=
 (f_X2_advance s).bind (fun r1 =>
 (f_X6_takeName (0 : Int32) (r1.1 316 13) (60 : Int32) r1).bind (fun r2 =>
 if r2.1 = (0 : Int32) then (some (r2.2))
 else (if t_ix (r1.1 316 13) 60 = true then
  t_let (t_setI r2.2 327 ((r1.1 316 13).toNatClampNeg) (r2.2.1 1 9)) (fun s1 =>
 t_let (t_setI s1 316 13 ((s1.1 316 13) + (1 : Int32))) (fun s2 =>
 (f_X2_advance s2).bind (fun r4 =>
 (f_X2_need (61 : Int32) r4).bind (fun r5 =>
 (f_X6_readType (0 : Int32) r5).bind (fun r6 =>
 t_let (t_setI r6.2 326 ((r1.1 316 13).toNatClampNeg) r6.1) (fun s3 =>
 (f_X2_need (59 : Int32) s3).bind (fun r7 =>
 some (r7))))))))
else none)))
set_option maxRecDepth 4000 in
set_option maxHeartbeats 1000000 in
theorem C_X6_readTypeItem (s : t_S) (r : t_S) (hr : f_X6_readTypeItem s = some r) : t_C yX6_readTypeItem cX6_readTypeItem 2 none 104 [.ref 845] s (fun v s' => v = none ∧ s' = r) := by
  refine t_C.imp (P := fun v s' => v = none ∧ (fun q => q = r) (s')) (t_C.of (by decide +kernel) (Nat.le_of_ble_eq_true rfl) ?_) (fun v s' hp => hp)
  intro D cy ad bs X
  have hk : t_hk (f_X6_readTypeItem s) (fun q => q = r) := ⟨r, hr, rfl⟩
  show mj_G D cy ad bs X cX6_readTypeItem 2 yX6_readTypeItem.cls none yX6_readTypeItem.name 104 0 0 1065 (t_P (fun v s' => v = none ∧ (fun q => q = r) (s'))) 0 [(0, .ref 845)] [] (t_m s) 1065 0 0
  refine mj_aload_n dX6_readTypeItem_0 0 rfl ?_
  refine t_getR 1 dX6_readTypeItem_1 F_X6_28 qr_845_0 ?_
  refine t_bndK hk (fun r1 er1 hk => ?_)
  refine t_callVvE dX6_readTypeItem_4 M_X2_advance (C_X2_advance _ _ er1) ML_X6_170 IM_X2_advance SE_X2_advance qc_1 rfl (As := []) rfl rfl (Nat.le_of_ble_eq_true rfl) (Nat.le_of_ble_eq_true rfl) (Nat.le_of_ble_eq_true rfl) (Nat.le_of_ble_eq_true rfl) ?_
  refine mj_aload_n dX6_readTypeItem_7 0 rfl ?_
  refine t_getR 316 dX6_readTypeItem_8 F_X6_33 qr_845_1 ?_
  refine t_getI dX6_readTypeItem_11 F_X6_173 qf_316_13 ?_
  refine mj_istore_n 1 (lv2 := [(1, .int (r1.1 316 13)), (0, .ref 845)]) dX6_readTypeItem_14 rfl (by decide) rfl ?_
  refine mj_aload_n dX6_readTypeItem_15 1 rfl ?_
  refine mj_iconst (v := 0) dX6_readTypeItem_16 (by decide) ?_
  refine mj_iload_n dX6_readTypeItem_17 0 rfl ?_
  refine mj_bipush (v := 60) dX6_readTypeItem_18 (by decide) ?_
  refine t_bndK hk (fun r2 er2 hk => ?_)
  refine t_callViE dX6_readTypeItem_20 M_X6_takeName (C_X6_takeName _ _ _ _ _ er2) ML_X6_176 IM_X6_takeName SE_X6_takeName qc_845 rfl (As := [.int 0, .int (r1.1 316 13), .int 60]) rfl rfl (Nat.le_of_ble_eq_true rfl) (Nat.le_of_ble_eq_true rfl) (Nat.le_of_ble_eq_true rfl) (Nat.le_of_ble_eq_true rfl) ?_
  refine mj_if_ne 27 dX6_readTypeItem_23 (by decide) (fun z => t_negK hk z (fun hk => ?_)) (fun z => t_posK hk z (fun hk => ?_))
  · refine mj_aload_n dX6_readTypeItem_27 1 rfl ?_
    refine t_getR 316 dX6_readTypeItem_28 F_X6_33 qr_845_1 ?_
    refine t_getR 327 dX6_readTypeItem_31 F_X6_180 qr_316_12 ?_
    refine mj_iload_n dX6_readTypeItem_34 0 rfl ?_
    refine mj_aload_n dX6_readTypeItem_35 1 rfl ?_
    refine t_getR 1 dX6_readTypeItem_36 F_X6_28 qr_845_0 ?_
    refine t_getI dX6_readTypeItem_39 F_X6_183 qf_1_9 ?_
    refine t_chkK hk (fun c2 hk => ?_)
    refine t_iastK dX6_readTypeItem_42 qa_327 (t_ixv c2) (fun s1 ws1 => t_letE hk ws1 (fun hk => ?_))
    refine mj_aload_n dX6_readTypeItem_43 1 rfl ?_
    refine t_getR 316 dX6_readTypeItem_44 F_X6_33 qr_845_1 ?_
    refine mj_dup dX6_readTypeItem_47 rfl ?_
    refine t_getI dX6_readTypeItem_48 F_X6_173 qf_316_13 ?_
    refine mj_iconst (v := 1) dX6_readTypeItem_51 (by decide) ?_
    refine mj_iadd dX6_readTypeItem_52 ?_
    refine t_putIK dX6_readTypeItem_53 F_X6_173 qf_316_13 rfl (fun s2 ws2 => t_letE hk ws2 (fun hk => ?_))
    refine mj_aload_n dX6_readTypeItem_56 1 rfl ?_
    refine t_getR 1 dX6_readTypeItem_57 F_X6_28 qr_845_0 ?_
    refine t_bndK hk (fun r4 er4 hk => ?_)
    refine t_callVvE dX6_readTypeItem_60 M_X2_advance (C_X2_advance _ _ er4) ML_X6_170 IM_X2_advance SE_X2_advance qc_1 rfl (As := []) rfl rfl (Nat.le_of_ble_eq_true rfl) (Nat.le_of_ble_eq_true rfl) (Nat.le_of_ble_eq_true rfl) (Nat.le_of_ble_eq_true rfl) ?_
    refine mj_aload_n dX6_readTypeItem_63 1 rfl ?_
    refine t_getR 1 dX6_readTypeItem_64 F_X6_28 qr_845_0 ?_
    refine mj_bipush (v := 61) dX6_readTypeItem_67 (by decide) ?_
    refine t_bndK hk (fun r5 er5 hk => ?_)
    refine t_callVvE dX6_readTypeItem_69 M_X2_need (C_X2_need _ _ _ er5) ML_X6_184 IM_X2_need SE_X2_need qc_1 rfl (As := [.int 61]) rfl rfl (Nat.le_of_ble_eq_true rfl) (Nat.le_of_ble_eq_true rfl) (Nat.le_of_ble_eq_true rfl) (Nat.le_of_ble_eq_true rfl) ?_
    refine mj_aload_n dX6_readTypeItem_72 1 rfl ?_
    refine t_getR 316 dX6_readTypeItem_73 F_X6_33 qr_845_1 ?_
    refine t_getR 326 dX6_readTypeItem_76 F_X6_187 qr_316_11 ?_
    refine mj_iload_n dX6_readTypeItem_79 0 rfl ?_
    refine mj_aload_n dX6_readTypeItem_80 1 rfl ?_
    refine mj_iconst (v := 0) dX6_readTypeItem_81 (by decide) ?_
    refine t_bndK hk (fun r6 er6 hk => ?_)
    refine t_callViE dX6_readTypeItem_82 M_X6_readType (C_X6_readType _ _ _ er6) ML_X6_190 IM_X6_readType SE_X6_readType qc_845 rfl (As := [.int 0]) rfl rfl (Nat.le_of_ble_eq_true rfl) (Nat.le_of_ble_eq_true rfl) (Nat.le_of_ble_eq_true rfl) (Nat.le_of_ble_eq_true rfl) ?_
    refine t_iastK dX6_readTypeItem_85 qa_326 (t_ixv c2) (fun s3 ws3 => t_letE hk ws3 (fun hk => ?_))
    refine mj_aload_n dX6_readTypeItem_86 1 rfl ?_
    refine t_getR 1 dX6_readTypeItem_87 F_X6_28 qr_845_0 ?_
    refine mj_bipush (v := 59) dX6_readTypeItem_90 (by decide) ?_
    refine t_bndK hk (fun r7 er7 hk => ?_)
    refine t_callVvE dX6_readTypeItem_92 M_X2_need (C_X2_need _ _ _ er7) ML_X6_184 IM_X2_need SE_X2_need qc_1 rfl (As := [.int 59]) rfl rfl (Nat.le_of_ble_eq_true rfl) (Nat.le_of_ble_eq_true rfl) (Nat.le_of_ble_eq_true rfl) (Nat.le_of_ble_eq_true rfl) ?_
    exact t_somK hk (fun hf => t_vret dX6_readTypeItem_95 rfl ⟨rfl, hf⟩ (Nat.le_of_ble_eq_true rfl) (Nat.le_of_ble_eq_true rfl))
  · exact t_somK hk (fun hf => t_vret dX6_readTypeItem_26 rfl ⟨rfl, hf⟩ (Nat.le_of_ble_eq_true rfl) (Nat.le_of_ble_eq_true rfl))

theorem dX5_addUnit_0 : decode cX5_addUnit 0 = .ok (.aload_n 0, 1) := by decide +kernel
theorem dX5_addUnit_1 : decode cX5_addUnit 1 = .ok (.iload_n 1, 1) := by decide +kernel
theorem dX5_addUnit_11 : decode cX5_addUnit 11 = .ok (.iload_n 1, 1) := by decide +kernel
theorem dX5_addUnit_12 : decode cX5_addUnit 12 = .ok (.iload_n 2, 1) := by decide +kernel
theorem dX5_addUnit_13 : decode cX5_addUnit 13 = .ok (.iastore, 1) := by decide +kernel
theorem dX5_addUnit_14 : decode cX5_addUnit 14 = .ok (.aload_n 0, 1) := by decide +kernel
theorem dX5_addUnit_15 : decode cX5_addUnit 15 = .ok (.getfield 37, 3) := by decide +kernel
theorem dX5_addUnit_18 : decode cX5_addUnit 18 = .ok (.iload_n 1, 1) := by decide +kernel
theorem dX5_addUnit_19 : decode cX5_addUnit 19 = .ok (.iconst (-1), 1) := by decide +kernel
theorem dX5_addUnit_2 : decode cX5_addUnit 2 = .ok (.iconst 1, 1) := by decide +kernel
theorem dX5_addUnit_20 : decode cX5_addUnit 20 = .ok (.iastore, 1) := by decide +kernel
theorem dX5_addUnit_21 : decode cX5_addUnit 21 = .ok (.aload_n 0, 1) := by decide +kernel
theorem dX5_addUnit_22 : decode cX5_addUnit 22 = .ok (.getfield 40, 3) := by decide +kernel
theorem dX5_addUnit_25 : decode cX5_addUnit 25 = .ok (.iload_n 1, 1) := by decide +kernel
theorem dX5_addUnit_26 : decode cX5_addUnit 26 = .ok (.iconst 0, 1) := by decide +kernel
theorem dX5_addUnit_27 : decode cX5_addUnit 27 = .ok (.iastore, 1) := by decide +kernel
theorem dX5_addUnit_28 : decode cX5_addUnit 28 = .ok (.aload_n 0, 1) := by decide +kernel
theorem dX5_addUnit_29 : decode cX5_addUnit 29 = .ok (.getfield 43, 3) := by decide +kernel
theorem dX5_addUnit_3 : decode cX5_addUnit 3 = .ok (.iadd, 1) := by decide +kernel
theorem dX5_addUnit_32 : decode cX5_addUnit 32 = .ok (.iload_n 1, 1) := by decide +kernel
theorem dX5_addUnit_33 : decode cX5_addUnit 33 = .ok (.iconst 0, 1) := by decide +kernel
theorem dX5_addUnit_34 : decode cX5_addUnit 34 = .ok (.iastore, 1) := by decide +kernel
theorem dX5_addUnit_35 : decode cX5_addUnit 35 = .ok (.aload_n 0, 1) := by decide +kernel
theorem dX5_addUnit_36 : decode cX5_addUnit 36 = .ok (.getfield 46, 3) := by decide +kernel
theorem dX5_addUnit_39 : decode cX5_addUnit 39 = .ok (.iload_n 1, 1) := by decide +kernel
theorem dX5_addUnit_4 : decode cX5_addUnit 4 = .ok (.putfield 64, 3) := by decide +kernel
theorem dX5_addUnit_40 : decode cX5_addUnit 40 = .ok (.iconst (-1), 1) := by decide +kernel
theorem dX5_addUnit_41 : decode cX5_addUnit 41 = .ok (.iastore, 1) := by decide +kernel
theorem dX5_addUnit_42 : decode cX5_addUnit 42 = .ok (.return_, 1) := by decide +kernel
theorem dX5_addUnit_7 : decode cX5_addUnit 7 = .ok (.aload_n 0, 1) := by decide +kernel
theorem dX5_addUnit_8 : decode cX5_addUnit 8 = .ok (.getfield 34, 3) := by decide +kernel
noncomputable def f_X5_addUnit (x1 : Int32) (x2 : Int32) (s : t_S) : Option (t_S) :=
 t_let (t_setI s 428 9 (x1 + (1 : Int32))) (fun s1 =>
 if t_ix x1 40 = true then
  t_let (t_setI s1 437 (x1.toNatClampNeg) x2) (fun s2 =>
 t_let (t_setI s2 438 (x1.toNatClampNeg) (-1 : Int32)) (fun s3 =>
 t_let (t_setI s3 439 (x1.toNatClampNeg) (0 : Int32)) (fun s4 =>
 t_let (t_setI s4 440 (x1.toNatClampNeg) (0 : Int32)) (fun s5 =>
 t_let (t_setI s5 441 (x1.toNatClampNeg) (-1 : Int32)) (fun s6 =>
 some (s6))))))
else none)
set_option maxRecDepth 4000 in
set_option maxHeartbeats 1000000 in
theorem C_X5_addUnit (x1 : Int32) (x2 : Int32) (s : t_S) (r : t_S) (hr : f_X5_addUnit x1 x2 s = some r) : t_C yX5_addUnit cX5_addUnit 3 none 0 [.ref 428, .int x1, .int x2] s (fun v s' => v = none ∧ s' = r) := by
  refine t_C.imp (P := fun v s' => v = none ∧ (fun q => q = r) (s')) (t_C.of (by decide +kernel) (Nat.le_of_ble_eq_true rfl) ?_) (fun v s' hp => hp)
  intro D cy ad bs X
  have hk : t_hk (f_X5_addUnit x1 x2 s) (fun q => q = r) := ⟨r, hr, rfl⟩
  show mj_G D cy ad bs X cX5_addUnit 3 yX5_addUnit.cls none yX5_addUnit.name 0 0 0 1065 (t_P (fun v s' => v = none ∧ (fun q => q = r) (s'))) 0 [(0, .ref 428), (1, .int x1), (2, .int x2)] [] (t_m s) 1065 0 0
  refine mj_aload_n dX5_addUnit_0 0 rfl ?_
  refine mj_iload_n dX5_addUnit_1 1 rfl ?_
  refine mj_iconst (v := 1) dX5_addUnit_2 (by decide) ?_
  refine mj_iadd dX5_addUnit_3 ?_
  refine t_putIK dX5_addUnit_4 F_X5_64 qf_428_9 rfl (fun s1 ws1 => t_letE hk ws1 (fun hk => ?_))
  refine mj_aload_n dX5_addUnit_7 0 rfl ?_
  refine t_getR 437 dX5_addUnit_8 F_X5_34 qr_428_10 ?_
  refine mj_iload_n dX5_addUnit_11 1 rfl ?_
  refine mj_iload_n dX5_addUnit_12 2 rfl ?_
  refine t_chkK hk (fun c0 hk => ?_)
  refine t_iastK dX5_addUnit_13 qa_437 (t_ixv c0) (fun s2 ws2 => t_letE hk ws2 (fun hk => ?_))
  refine mj_aload_n dX5_addUnit_14 0 rfl ?_
  refine t_getR 438 dX5_addUnit_15 F_X5_37 qr_428_11 ?_
  refine mj_iload_n dX5_addUnit_18 1 rfl ?_
  refine mj_iconst (v := (-1)) dX5_addUnit_19 (by decide) ?_
  refine t_iastK dX5_addUnit_20 qa_438 (t_ixv c0) (fun s3 ws3 => t_letE hk ws3 (fun hk => ?_))
  refine mj_aload_n dX5_addUnit_21 0 rfl ?_
  refine t_getR 439 dX5_addUnit_22 F_X5_40 qr_428_12 ?_
  refine mj_iload_n dX5_addUnit_25 1 rfl ?_
  refine mj_iconst (v := 0) dX5_addUnit_26 (by decide) ?_
  refine t_iastK dX5_addUnit_27 qa_439 (t_ixv c0) (fun s4 ws4 => t_letE hk ws4 (fun hk => ?_))
  refine mj_aload_n dX5_addUnit_28 0 rfl ?_
  refine t_getR 440 dX5_addUnit_29 F_X5_43 qr_428_13 ?_
  refine mj_iload_n dX5_addUnit_32 1 rfl ?_
  refine mj_iconst (v := 0) dX5_addUnit_33 (by decide) ?_
  refine t_iastK dX5_addUnit_34 qa_440 (t_ixv c0) (fun s5 ws5 => t_letE hk ws5 (fun hk => ?_))
  refine mj_aload_n dX5_addUnit_35 0 rfl ?_
  refine t_getR 441 dX5_addUnit_36 F_X5_46 qr_428_14 ?_
  refine mj_iload_n dX5_addUnit_39 1 rfl ?_
  refine mj_iconst (v := (-1)) dX5_addUnit_40 (by decide) ?_
  refine t_iastK dX5_addUnit_41 qa_441 (t_ixv c0) (fun s6 ws6 => t_letE hk ws6 (fun hk => ?_))
  exact t_somK hk (fun hf => t_vret dX5_addUnit_42 rfl ⟨rfl, hf⟩ (Nat.le_of_ble_eq_true rfl) (Nat.le_of_ble_eq_true rfl))

