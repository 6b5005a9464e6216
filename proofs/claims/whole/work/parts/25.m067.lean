/-! Methods as functions, 67: X13_assign_, X13_is, X13_beginsExp, X13_lastOf, X13_hang -/
theorem dX13_assign__0 : decode cX13_assign_ 0 = .ok (.aload_n 0, 1) := by decide +kernel
theorem dX13_assign__1 : decode cX13_assign_ 1 = .ok (.getfield 126, 3) := by decide +kernel
theorem dX13_assign__10 : decode cX13_assign_ 10 = .ok (.aload_n 0, 1) := by decide +kernel
theorem dX13_assign__100 : decode cX13_assign_ 100 = .ok (.invokevirtual 861, 3) := by decide +kernel
theorem dX13_assign__103 : decode cX13_assign_ 103 = .ok (.return_, 1) := by decide +kernel
theorem dX13_assign__104 : decode cX13_assign_ 104 = .ok (.aload_n 0, 1) := by decide +kernel
theorem dX13_assign__105 : decode cX13_assign_ 105 = .ok (.getfield 150, 3) := by decide +kernel
theorem dX13_assign__108 : decode cX13_assign_ 108 = .ok (.iload_n 2, 1) := by decide +kernel
theorem dX13_assign__109 : decode cX13_assign_ 109 = .ok (.iaload, 1) := by decide +kernel
theorem dX13_assign__11 : decode cX13_assign_ 11 = .ok (.aload_n 0, 1) := by decide +kernel
theorem dX13_assign__110 : decode cX13_assign_ 110 = .ok (.istore_n 3, 1) := by decide +kernel
theorem dX13_assign__111 : decode cX13_assign_ 111 = .ok (.iconst 0, 1) := by decide +kernel
theorem dX13_assign__112 : decode cX13_assign_ 112 = .ok (.istore 4, 2) := by decide +kernel
theorem dX13_assign__114 : decode cX13_assign_ 114 = .ok (.aload_n 0, 1) := by decide +kernel
theorem dX13_assign__115 : decode cX13_assign_ 115 = .ok (.getfield 39, 3) := by decide +kernel
theorem dX13_assign__118 : decode cX13_assign_ 118 = .ok (.iload_n 3, 1) := by decide +kernel
theorem dX13_assign__119 : decode cX13_assign_ 119 = .ok (.iaload, 1) := by decide +kernel
theorem dX13_assign__12 : decode cX13_assign_ 12 = .ok (.getfield 147, 3) := by decide +kernel
theorem dX13_assign__120 : decode cX13_assign_ 120 = .ok (.istore 5, 2) := by decide +kernel
theorem dX13_assign__122 : decode cX13_assign_ 122 = .ok (.iload 5, 2) := by decide +kernel
theorem dX13_assign__124 : decode cX13_assign_ 124 = .ok (.ifCond .lt 111, 3) := by decide +kernel
theorem dX13_assign__127 : decode cX13_assign_ 127 = .ok (.aload_n 0, 1) := by decide +kernel
theorem dX13_assign__128 : decode cX13_assign_ 128 = .ok (.getfield 842, 3) := by decide +kernel
theorem dX13_assign__131 : decode cX13_assign_ 131 = .ok (.ifCond .ne 104, 3) := by decide +kernel
theorem dX13_assign__134 : decode cX13_assign_ 134 = .ok (.aload_n 0, 1) := by decide +kernel
theorem dX13_assign__135 : decode cX13_assign_ 135 = .ok (.getfield 26, 3) := by decide +kernel
theorem dX13_assign__138 : decode cX13_assign_ 138 = .ok (.iload 5, 2) := by decide +kernel
theorem dX13_assign__140 : decode cX13_assign_ 140 = .ok (.iaload, 1) := by decide +kernel
theorem dX13_assign__141 : decode cX13_assign_ 141 = .ok (.bipush 69, 2) := by decide +kernel
theorem dX13_assign__143 : decode cX13_assign_ 143 = .ok (.if_icmp .ne 80, 3) := by decide +kernel
theorem dX13_assign__146 : decode cX13_assign_ 146 = .ok (.aload_n 0, 1) := by decide +kernel
theorem dX13_assign__147 : decode cX13_assign_ 147 = .ok (.getfield 858, 3) := by decide +kernel
theorem dX13_assign__15 : decode cX13_assign_ 15 = .ok (.iload_n 2, 1) := by decide +kernel
theorem dX13_assign__150 : decode cX13_assign_ 150 = .ok (.istore 6, 2) := by decide +kernel
theorem dX13_assign__152 : decode cX13_assign_ 152 = .ok (.aload_n 0, 1) := by decide +kernel
theorem dX13_assign__153 : decode cX13_assign_ 153 = .ok (.aload_n 0, 1) := by decide +kernel
theorem dX13_assign__154 : decode cX13_assign_ 154 = .ok (.getfield 39, 3) := by decide +kernel
theorem dX13_assign__157 : decode cX13_assign_ 157 = .ok (.iload 5, 2) := by decide +kernel
theorem dX13_assign__159 : decode cX13_assign_ 159 = .ok (.iaload, 1) := by decide +kernel
theorem dX13_assign__16 : decode cX13_assign_ 16 = .ok (.iaload, 1) := by decide +kernel
theorem dX13_assign__160 : decode cX13_assign_ 160 = .ok (.invokestatic 897, 3) := by decide +kernel
theorem dX13_assign__163 : decode cX13_assign_ 163 = .ok (.aload_n 0, 1) := by decide +kernel
theorem dX13_assign__164 : decode cX13_assign_ 164 = .ok (.getfield 842, 3) := by decide +kernel
theorem dX13_assign__167 : decode cX13_assign_ 167 = .ok (.ifCond .ne 22, 3) := by decide +kernel
theorem dX13_assign__17 : decode cX13_assign_ 17 = .ok (.invokestatic 897, 3) := by decide +kernel
theorem dX13_assign__170 : decode cX13_assign_ 170 = .ok (.aload_n 0, 1) := by decide +kernel
theorem dX13_assign__171 : decode cX13_assign_ 171 = .ok (.getfield 182, 3) := by decide +kernel
theorem dX13_assign__174 : decode cX13_assign_ 174 = .ok (.aload_n 0, 1) := by decide +kernel
theorem dX13_assign__175 : decode cX13_assign_ 175 = .ok (.invokevirtual 941, 3) := by decide +kernel
theorem dX13_assign__178 : decode cX13_assign_ 178 = .ok (.laload, 1) := by decide +kernel
theorem dX13_assign__179 : decode cX13_assign_ 179 = .ok (.lconst 0, 1) := by decide +kernel
theorem dX13_assign__180 : decode cX13_assign_ 180 = .ok (.lcmp, 1) := by decide +kernel
theorem dX13_assign__181 : decode cX13_assign_ 181 = .ok (.ifCond .eq 8, 3) := by decide +kernel
theorem dX13_assign__184 : decode cX13_assign_ 184 = .ok (.aload_n 0, 1) := by decide +kernel
theorem dX13_assign__185 : decode cX13_assign_ 185 = .ok (.iconst 1, 1) := by decide +kernel
theorem dX13_assign__186 : decode cX13_assign_ 186 = .ok (.invokevirtual 866, 3) := by decide +kernel
theorem dX13_assign__189 : decode cX13_assign_ 189 = .ok (.aload_n 0, 1) := by decide +kernel
theorem dX13_assign__190 : decode cX13_assign_ 190 = .ok (.getfield 842, 3) := by decide +kernel
theorem dX13_assign__193 : decode cX13_assign_ 193 = .ok (.ifCond .ne 24, 3) := by decide +kernel
theorem dX13_assign__196 : decode cX13_assign_ 196 = .ok (.aload_n 0, 1) := by decide +kernel
theorem dX13_assign__197 : decode cX13_assign_ 197 = .ok (.getfield 339, 3) := by decide +kernel
theorem dX13_assign__20 : decode cX13_assign_ 20 = .ok (.aload_n 0, 1) := by decide +kernel
theorem dX13_assign__200 : decode cX13_assign_ 200 = .ok (.iload 4, 2) := by decide +kernel
theorem dX13_assign__202 : decode cX13_assign_ 202 = .ok (.aload_n 0, 1) := by decide +kernel
theorem dX13_assign__203 : decode cX13_assign_ 203 = .ok (.getfield 182, 3) := by decide +kernel
theorem dX13_assign__206 : decode cX13_assign_ 206 = .ok (.aload_n 0, 1) := by decide +kernel
theorem dX13_assign__207 : decode cX13_assign_ 207 = .ok (.invokevirtual 941, 3) := by decide +kernel
theorem dX13_assign__21 : decode cX13_assign_ 21 = .ok (.getfield 842, 3) := by decide +kernel
theorem dX13_assign__210 : decode cX13_assign_ 210 = .ok (.iconst 1, 1) := by decide +kernel
theorem dX13_assign__211 : decode cX13_assign_ 211 = .ok (.iadd, 1) := by decide +kernel
theorem dX13_assign__212 : decode cX13_assign_ 212 = .ok (.laload, 1) := by decide +kernel
theorem dX13_assign__213 : decode cX13_assign_ 213 = .ok (.lastore, 1) := by decide +kernel
theorem dX13_assign__214 : decode cX13_assign_ 214 = .ok (.iinc 4 1, 3) := by decide +kernel
theorem dX13_assign__217 : decode cX13_assign_ 217 = .ok (.aload_n 0, 1) := by decide +kernel
theorem dX13_assign__218 : decode cX13_assign_ 218 = .ok (.iload 6, 2) := by decide +kernel
theorem dX13_assign__220 : decode cX13_assign_ 220 = .ok (.putfield 858, 3) := by decide +kernel
theorem dX13_assign__223 : decode cX13_assign_ 223 = .ok (.aload_n 0, 1) := by decide +kernel
theorem dX13_assign__224 : decode cX13_assign_ 224 = .ok (.getfield 42, 3) := by decide +kernel
theorem dX13_assign__227 : decode cX13_assign_ 227 = .ok (.iload 5, 2) := by decide +kernel
theorem dX13_assign__229 : decode cX13_assign_ 229 = .ok (.iaload, 1) := by decide +kernel
theorem dX13_assign__230 : decode cX13_assign_ 230 = .ok (.istore 5, 2) := by decide +kernel
theorem dX13_assign__232 : decode cX13_assign_ 232 = .ok (.goto (-110), 3) := by decide +kernel
theorem dX13_assign__235 : decode cX13_assign_ 235 = .ok (.aload_n 0, 1) := by decide +kernel
theorem dX13_assign__236 : decode cX13_assign_ 236 = .ok (.getfield 842, 3) := by decide +kernel
theorem dX13_assign__239 : decode cX13_assign_ 239 = .ok (.ifCond .ne 13, 3) := by decide +kernel
theorem dX13_assign__24 : decode cX13_assign_ 24 = .ok (.ifCond .ne 17, 3) := by decide +kernel
theorem dX13_assign__242 : decode cX13_assign_ 242 = .ok (.aload_n 0, 1) := by decide +kernel
theorem dX13_assign__243 : decode cX13_assign_ 243 = .ok (.aload_n 0, 1) := by decide +kernel
theorem dX13_assign__244 : decode cX13_assign_ 244 = .ok (.getfield 147, 3) := by decide +kernel
theorem dX13_assign__247 : decode cX13_assign_ 247 = .ok (.iload_n 2, 1) := by decide +kernel
theorem dX13_assign__248 : decode cX13_assign_ 248 = .ok (.iaload, 1) := by decide +kernel
theorem dX13_assign__249 : decode cX13_assign_ 249 = .ok (.invokestatic 897, 3) := by decide +kernel
theorem dX13_assign__252 : decode cX13_assign_ 252 = .ok (.aload_n 0, 1) := by decide +kernel
theorem dX13_assign__253 : decode cX13_assign_ 253 = .ok (.getfield 842, 3) := by decide +kernel
theorem dX13_assign__256 : decode cX13_assign_ 256 = .ok (.ifCond .eq 4, 3) := by decide +kernel
theorem dX13_assign__259 : decode cX13_assign_ 259 = .ok (.return_, 1) := by decide +kernel
theorem dX13_assign__260 : decode cX13_assign_ 260 = .ok (.aload_n 0, 1) := by decide +kernel
theorem dX13_assign__261 : decode cX13_assign_ 261 = .ok (.aload_n 0, 1) := by decide +kernel
theorem dX13_assign__262 : decode cX13_assign_ 262 = .ok (.getfield 135, 3) := by decide +kernel
theorem dX13_assign__265 : decode cX13_assign_ 265 = .ok (.iload_n 2, 1) := by decide +kernel
theorem dX13_assign__266 : decode cX13_assign_ 266 = .ok (.iaload, 1) := by decide +kernel
theorem dX13_assign__267 : decode cX13_assign_ 267 = .ok (.sipush 2000, 3) := by decide +kernel
theorem dX13_assign__27 : decode cX13_assign_ 27 = .ok (.aload_n 0, 1) := by decide +kernel
theorem dX13_assign__270 : decode cX13_assign_ 270 = .ok (.aload_n 0, 1) := by decide +kernel
theorem dX13_assign__271 : decode cX13_assign_ 271 = .ok (.getfield 165, 3) := by decide +kernel
theorem dX13_assign__274 : decode cX13_assign_ 274 = .ok (.iload_n 2, 1) := by decide +kernel
theorem dX13_assign__275 : decode cX13_assign_ 275 = .ok (.iaload, 1) := by decide +kernel
theorem dX13_assign__276 : decode cX13_assign_ 276 = .ok (.iadd, 1) := by decide +kernel
theorem dX13_assign__277 : decode cX13_assign_ 277 = .ok (.aload_n 0, 1) := by decide +kernel
theorem dX13_assign__278 : decode cX13_assign_ 278 = .ok (.getfield 168, 3) := by decide +kernel
theorem dX13_assign__28 : decode cX13_assign_ 28 = .ok (.aload_n 0, 1) := by decide +kernel
theorem dX13_assign__281 : decode cX13_assign_ 281 = .ok (.iload_n 2, 1) := by decide +kernel
theorem dX13_assign__282 : decode cX13_assign_ 282 = .ok (.iaload, 1) := by decide +kernel
theorem dX13_assign__283 : decode cX13_assign_ 283 = .ok (.invokevirtual 804, 3) := by decide +kernel
theorem dX13_assign__286 : decode cX13_assign_ 286 = .ok (.istore 5, 2) := by decide +kernel
theorem dX13_assign__288 : decode cX13_assign_ 288 = .ok (.aload_n 0, 1) := by decide +kernel
theorem dX13_assign__289 : decode cX13_assign_ 289 = .ok (.iload_n 1, 1) := by decide +kernel
theorem dX13_assign__29 : decode cX13_assign_ 29 = .ok (.getfield 135, 3) := by decide +kernel
theorem dX13_assign__290 : decode cX13_assign_ 290 = .ok (.iload 5, 2) := by decide +kernel
theorem dX13_assign__292 : decode cX13_assign_ 292 = .ok (.invokevirtual 1349, 3) := by decide +kernel
theorem dX13_assign__295 : decode cX13_assign_ 295 = .ok (.istore 6, 2) := by decide +kernel
theorem dX13_assign__297 : decode cX13_assign_ 297 = .ok (.aload_n 0, 1) := by decide +kernel
theorem dX13_assign__298 : decode cX13_assign_ 298 = .ok (.invokevirtual 941, 3) := by decide +kernel
theorem dX13_assign__301 : decode cX13_assign_ 301 = .ok (.istore 7, 2) := by decide +kernel
theorem dX13_assign__303 : decode cX13_assign_ 303 = .ok (.aload_n 0, 1) := by decide +kernel
theorem dX13_assign__304 : decode cX13_assign_ 304 = .ok (.getfield 39, 3) := by decide +kernel
theorem dX13_assign__307 : decode cX13_assign_ 307 = .ok (.iload_n 3, 1) := by decide +kernel
theorem dX13_assign__308 : decode cX13_assign_ 308 = .ok (.iaload, 1) := by decide +kernel
theorem dX13_assign__309 : decode cX13_assign_ 309 = .ok (.ifCond .lt 69, 3) := by decide +kernel
theorem dX13_assign__312 : decode cX13_assign_ 312 = .ok (.aload_n 0, 1) := by decide +kernel
theorem dX13_assign__313 : decode cX13_assign_ 313 = .ok (.iconst 0, 1) := by decide +kernel
theorem dX13_assign__314 : decode cX13_assign_ 314 = .ok (.putfield 1412, 3) := by decide +kernel
theorem dX13_assign__317 : decode cX13_assign_ 317 = .ok (.aload_n 0, 1) := by decide +kernel
theorem dX13_assign__318 : decode cX13_assign_ 318 = .ok (.sipush 260, 3) := by decide +kernel
theorem dX13_assign__32 : decode cX13_assign_ 32 = .ok (.iload_n 2, 1) := by decide +kernel
theorem dX13_assign__321 : decode cX13_assign_ 321 = .ok (.iload 6, 2) := by decide +kernel
theorem dX13_assign__323 : decode cX13_assign_ 323 = .ok (.imul, 1) := by decide +kernel
theorem dX13_assign__324 : decode cX13_assign_ 324 = .ok (.aload_n 0, 1) := by decide +kernel
theorem dX13_assign__325 : decode cX13_assign_ 325 = .ok (.getfield 39, 3) := by decide +kernel
theorem dX13_assign__328 : decode cX13_assign_ 328 = .ok (.iload_n 3, 1) := by decide +kernel
theorem dX13_assign__329 : decode cX13_assign_ 329 = .ok (.iaload, 1) := by decide +kernel
theorem dX13_assign__33 : decode cX13_assign_ 33 = .ok (.iaload, 1) := by decide +kernel
theorem dX13_assign__330 : decode cX13_assign_ 330 = .ok (.iconst 0, 1) := by decide +kernel
theorem dX13_assign__331 : decode cX13_assign_ 331 = .ok (.iload 7, 2) := by decide +kernel
theorem dX13_assign__333 : decode cX13_assign_ 333 = .ok (.invokestatic 1415, 3) := by decide +kernel
theorem dX13_assign__336 : decode cX13_assign_ 336 = .ok (.aload_n 0, 1) := by decide +kernel
theorem dX13_assign__337 : decode cX13_assign_ 337 = .ok (.getfield 842, 3) := by decide +kernel
theorem dX13_assign__34 : decode cX13_assign_ 34 = .ok (.aload_n 0, 1) := by decide +kernel
theorem dX13_assign__340 : decode cX13_assign_ 340 = .ok (.ifCond .ne 21, 3) := by decide +kernel
theorem dX13_assign__343 : decode cX13_assign_ 343 = .ok (.aload_n 0, 1) := by decide +kernel
theorem dX13_assign__344 : decode cX13_assign_ 344 = .ok (.getfield 185, 3) := by decide +kernel
theorem dX13_assign__347 : decode cX13_assign_ 347 = .ok (.iconst 0, 1) := by decide +kernel
theorem dX13_assign__348 : decode cX13_assign_ 348 = .ok (.invokestatic 875, 3) := by decide +kernel
theorem dX13_assign__35 : decode cX13_assign_ 35 = .ok (.invokevirtual 941, 3) := by decide +kernel
theorem dX13_assign__351 : decode cX13_assign_ 351 = .ok (.bipush 120, 2) := by decide +kernel
theorem dX13_assign__353 : decode cX13_assign_ 353 = .ok (.if_icmp .le 8, 3) := by decide +kernel
theorem dX13_assign__356 : decode cX13_assign_ 356 = .ok (.aload_n 0, 1) := by decide +kernel
theorem dX13_assign__357 : decode cX13_assign_ 357 = .ok (.iconst 3, 1) := by decide +kernel
theorem dX13_assign__358 : decode cX13_assign_ 358 = .ok (.invokevirtual 866, 3) := by decide +kernel
theorem dX13_assign__361 : decode cX13_assign_ 361 = .ok (.aload_n 0, 1) := by decide +kernel
theorem dX13_assign__362 : decode cX13_assign_ 362 = .ok (.getfield 842, 3) := by decide +kernel
theorem dX13_assign__365 : decode cX13_assign_ 365 = .ok (.ifCond .ne 13, 3) := by decide +kernel
theorem dX13_assign__368 : decode cX13_assign_ 368 = .ok (.aload_n 0, 1) := by decide +kernel
theorem dX13_assign__369 : decode cX13_assign_ 369 = .ok (.invokevirtual 959, 3) := by decide +kernel
theorem dX13_assign__372 : decode cX13_assign_ 372 = .ok (.aload_n 0, 1) := by decide +kernel
theorem dX13_assign__373 : decode cX13_assign_ 373 = .ok (.invokevirtual 941, 3) := by decide +kernel
theorem dX13_assign__376 : decode cX13_assign_ 376 = .ok (.istore 7, 2) := by decide +kernel
theorem dX13_assign__378 : decode cX13_assign_ 378 = .ok (.aload_n 0, 1) := by decide +kernel
theorem dX13_assign__379 : decode cX13_assign_ 379 = .ok (.getfield 842, 3) := by decide +kernel
theorem dX13_assign__38 : decode cX13_assign_ 38 = .ok (.invokevirtual 1321, 3) := by decide +kernel
theorem dX13_assign__382 : decode cX13_assign_ 382 = .ok (.ifCond .ne 22, 3) := by decide +kernel
theorem dX13_assign__385 : decode cX13_assign_ 385 = .ok (.aload_n 0, 1) := by decide +kernel
theorem dX13_assign__386 : decode cX13_assign_ 386 = .ok (.aload_n 0, 1) := by decide +kernel
theorem dX13_assign__387 : decode cX13_assign_ 387 = .ok (.iload_n 1, 1) := by decide +kernel
theorem dX13_assign__388 : decode cX13_assign_ 388 = .ok (.aload_n 0, 1) := by decide +kernel
theorem dX13_assign__389 : decode cX13_assign_ 389 = .ok (.getfield 165, 3) := by decide +kernel
theorem dX13_assign__392 : decode cX13_assign_ 392 = .ok (.iload_n 2, 1) := by decide +kernel
theorem dX13_assign__393 : decode cX13_assign_ 393 = .ok (.iaload, 1) := by decide +kernel
theorem dX13_assign__394 : decode cX13_assign_ 394 = .ok (.iload 5, 2) := by decide +kernel
theorem dX13_assign__396 : decode cX13_assign_ 396 = .ok (.invokevirtual 1343, 3) := by decide +kernel
theorem dX13_assign__399 : decode cX13_assign_ 399 = .ok (.iload 7, 2) := by decide +kernel
theorem dX13_assign__4 : decode cX13_assign_ 4 = .ok (.iload_n 2, 1) := by decide +kernel
theorem dX13_assign__401 : decode cX13_assign_ 401 = .ok (.invokevirtual 1321, 3) := by decide +kernel
theorem dX13_assign__404 : decode cX13_assign_ 404 = .ok (.aload_n 0, 1) := by decide +kernel
theorem dX13_assign__405 : decode cX13_assign_ 405 = .ok (.getfield 842, 3) := by decide +kernel
theorem dX13_assign__408 : decode cX13_assign_ 408 = .ok (.ifCond .ne 18, 3) := by decide +kernel
theorem dX13_assign__41 : decode cX13_assign_ 41 = .ok (.aload_n 0, 1) := by decide +kernel
theorem dX13_assign__411 : decode cX13_assign_ 411 = .ok (.aload_n 0, 1) := by decide +kernel
theorem dX13_assign__412 : decode cX13_assign_ 412 = .ok (.iload_n 1, 1) := by decide +kernel
theorem dX13_assign__413 : decode cX13_assign_ 413 = .ok (.iload 5, 2) := by decide +kernel
theorem dX13_assign__415 : decode cX13_assign_ 415 = .ok (.invokevirtual 1346, 3) := by decide +kernel
theorem dX13_assign__418 : decode cX13_assign_ 418 = .ok (.aload_n 0, 1) := by decide +kernel
theorem dX13_assign__419 : decode cX13_assign_ 419 = .ok (.iload 7, 2) := by decide +kernel
theorem dX13_assign__42 : decode cX13_assign_ 42 = .ok (.getfield 842, 3) := by decide +kernel
theorem dX13_assign__421 : decode cX13_assign_ 421 = .ok (.iload 6, 2) := by decide +kernel
theorem dX13_assign__423 : decode cX13_assign_ 423 = .ok (.invokevirtual 861, 3) := by decide +kernel
theorem dX13_assign__426 : decode cX13_assign_ 426 = .ok (.return_, 1) := by decide +kernel
theorem dX13_assign__45 : decode cX13_assign_ 45 = .ok (.ifCond .ne 58, 3) := by decide +kernel
theorem dX13_assign__48 : decode cX13_assign_ 48 = .ok (.aload_n 0, 1) := by decide +kernel
theorem dX13_assign__49 : decode cX13_assign_ 49 = .ok (.aload_n 0, 1) := by decide +kernel
theorem dX13_assign__5 : decode cX13_assign_ 5 = .ok (.iaload, 1) := by decide +kernel
theorem dX13_assign__50 : decode cX13_assign_ 50 = .ok (.getfield 114, 3) := by decide +kernel
theorem dX13_assign__53 : decode cX13_assign_ 53 = .ok (.bipush 8, 2) := by decide +kernel
theorem dX13_assign__55 : decode cX13_assign_ 55 = .ok (.aload_n 0, 1) := by decide +kernel
theorem dX13_assign__56 : decode cX13_assign_ 56 = .ok (.getfield 165, 3) := by decide +kernel
theorem dX13_assign__59 : decode cX13_assign_ 59 = .ok (.iload_n 2, 1) := by decide +kernel
theorem dX13_assign__6 : decode cX13_assign_ 6 = .ok (.iconst 1, 1) := by decide +kernel
theorem dX13_assign__60 : decode cX13_assign_ 60 = .ok (.iaload, 1) := by decide +kernel
theorem dX13_assign__61 : decode cX13_assign_ 61 = .ok (.imul, 1) := by decide +kernel
theorem dX13_assign__62 : decode cX13_assign_ 62 = .ok (.aload_n 0, 1) := by decide +kernel
theorem dX13_assign__63 : decode cX13_assign_ 63 = .ok (.getfield 120, 3) := by decide +kernel
theorem dX13_assign__66 : decode cX13_assign_ 66 = .ok (.aload_n 0, 1) := by decide +kernel
theorem dX13_assign__67 : decode cX13_assign_ 67 = .ok (.getfield 165, 3) := by decide +kernel
theorem dX13_assign__7 : decode cX13_assign_ 7 = .ok (.if_icmp .ne 97, 3) := by decide +kernel
theorem dX13_assign__70 : decode cX13_assign_ 70 = .ok (.iload_n 2, 1) := by decide +kernel
theorem dX13_assign__71 : decode cX13_assign_ 71 = .ok (.iaload, 1) := by decide +kernel
theorem dX13_assign__72 : decode cX13_assign_ 72 = .ok (.iaload, 1) := by decide +kernel
theorem dX13_assign__73 : decode cX13_assign_ 73 = .ok (.aload_n 0, 1) := by decide +kernel
theorem dX13_assign__74 : decode cX13_assign_ 74 = .ok (.getfield 141, 3) := by decide +kernel
theorem dX13_assign__77 : decode cX13_assign_ 77 = .ok (.iload_n 2, 1) := by decide +kernel
theorem dX13_assign__78 : decode cX13_assign_ 78 = .ok (.iaload, 1) := by decide +kernel
theorem dX13_assign__79 : decode cX13_assign_ 79 = .ok (.invokevirtual 788, 3) := by decide +kernel
theorem dX13_assign__82 : decode cX13_assign_ 82 = .ok (.istore_n 3, 1) := by decide +kernel
theorem dX13_assign__83 : decode cX13_assign_ 83 = .ok (.aload_n 0, 1) := by decide +kernel
theorem dX13_assign__84 : decode cX13_assign_ 84 = .ok (.iload_n 1, 1) := by decide +kernel
theorem dX13_assign__85 : decode cX13_assign_ 85 = .ok (.iload_n 3, 1) := by decide +kernel
theorem dX13_assign__86 : decode cX13_assign_ 86 = .ok (.invokevirtual 1346, 3) := by decide +kernel
theorem dX13_assign__89 : decode cX13_assign_ 89 = .ok (.aload_n 0, 1) := by decide +kernel
theorem dX13_assign__90 : decode cX13_assign_ 90 = .ok (.aload_n 0, 1) := by decide +kernel
theorem dX13_assign__91 : decode cX13_assign_ 91 = .ok (.invokevirtual 941, 3) := by decide +kernel
theorem dX13_assign__94 : decode cX13_assign_ 94 = .ok (.aload_n 0, 1) := by decide +kernel
theorem dX13_assign__95 : decode cX13_assign_ 95 = .ok (.iload_n 1, 1) := by decide +kernel
theorem dX13_assign__96 : decode cX13_assign_ 96 = .ok (.iload_n 3, 1) := by decide +kernel
theorem dX13_assign__97 : decode cX13_assign_ 97 = .ok (.invokevirtual 1349, 3) := by decide +kernel
noncomputable def k_X13_assign__41 (l1 : Int32) (l2 : Int32) (s : t_S) : Option (t_S) :=
 if (s.1 950 97) = (0 : Int32) then (if t_ix l2 401 = true then
  if t_ix (s.1 1001 (l2.toNatClampNeg)) 40 = true then
  (f_X13_find 984 ((8 : Int32) * (s.1 1001 (l2.toNatClampNeg))) (s.1 986 ((s.1 1001 (l2.toNatClampNeg)).toNatClampNeg)) (s.1 993 (l2.toNatClampNeg)) s).bind (fun r3 =>
 (f_X13_tellVar l1 r3 s).bind (fun r4 =>
 (f_X13_placeSlot l1 r3 r4).bind (fun r6 =>
 (f_X13_copy (f_X13_top r4) r6 r4).bind (fun r7 =>
 some (r7)))))
else none
else none)
 else (some (s))
set_option maxRecDepth 4000 in
set_option maxHeartbeats 1000000 in
theorem B_X13_assign__41 {D : va_G} {cy : Nat → ClassId} {ad : Nat → Nat} {bs : Nat} {X : State → Heap → Prop} (l1 : Int32) (l2 : Int32) (s : t_S) (Q : t_S → Prop) (hk : t_hk (k_X13_assign__41 l1 l2 s) Q) : mj_G D cy ad bs X cX13_assign_ 8 yX13_assign_.cls none yX13_assign_.name 1784 0 0 1065 (t_P (fun v s' => v = none ∧ Q (s'))) 41 [(0, .ref 950), (1, .int l1), (2, .int l2)] [] (t_m s) 1065 0 0 := by
  refine mj_aload_n dX13_assign__41 0 rfl ?_
  refine t_getI dX13_assign__42 F_X13_842 qf_950_97 ?_
  refine mj_if_ne 103 dX13_assign__45 (by decide) (fun z => t_negK hk z (fun hk => ?_)) (fun z => t_posK hk z (fun hk => ?_))
  · exact t_somK hk (fun hf => t_vret dX13_assign__103 rfl ⟨rfl, hf⟩ (Nat.le_of_ble_eq_true rfl) (Nat.le_of_ble_eq_true rfl))
  · refine mj_aload_n dX13_assign__48 0 rfl ?_
    refine mj_aload_n dX13_assign__49 0 rfl ?_
    refine t_getR 984 dX13_assign__50 F_X13_114 qr_950_60 ?_
    refine mj_bipush (v := 8) dX13_assign__53 (by decide) ?_
    refine mj_aload_n dX13_assign__55 0 rfl ?_
    refine t_getR 1001 dX13_assign__56 F_X13_165 qr_950_79 ?_
    refine mj_iload_n dX13_assign__59 2 rfl ?_
    refine t_chkK hk (fun c0 hk => ?_)
    refine t_iald dX13_assign__60 qa_1001 (t_ixv c0) ?_
    refine mj_imul dX13_assign__61 ?_
    refine mj_aload_n dX13_assign__62 0 rfl ?_
    refine t_getR 986 dX13_assign__63 F_X13_120 qr_950_62 ?_
    refine mj_aload_n dX13_assign__66 0 rfl ?_
    refine t_getR 1001 dX13_assign__67 F_X13_165 qr_950_79 ?_
    refine mj_iload_n dX13_assign__70 2 rfl ?_
    refine t_iald dX13_assign__71 qa_1001 (t_ixv c0) ?_
    refine t_chkK hk (fun c1 hk => ?_)
    refine t_iald dX13_assign__72 qa_986 (t_ixv c1) ?_
    refine mj_aload_n dX13_assign__73 0 rfl ?_
    refine t_getR 993 dX13_assign__74 F_X13_141 qr_950_71 ?_
    refine mj_iload_n dX13_assign__77 2 rfl ?_
    refine t_iald dX13_assign__78 qa_993 (t_ixv c0) ?_
    refine t_bndK hk (fun r3 er3 hk => ?_)
    refine t_callViP dX13_assign__79 M_X13_find (C_X13_find _ _ _ _ _ _ er3) ML_X13_788 IM_X13_find SE_X13_find qc_950 rfl (As := [.ref 984, .int ((8 : Int32) * (s.1 1001 (l2.toNatClampNeg))), .int (s.1 986 ((s.1 1001 (l2.toNatClampNeg)).toNatClampNeg)), .int (s.1 993 (l2.toNatClampNeg))]) rfl rfl (Nat.le_of_ble_eq_true rfl) (Nat.le_of_ble_eq_true rfl) (Nat.le_of_ble_eq_true rfl) (Nat.le_of_ble_eq_true rfl) ?_
    refine mj_istore_n 3 (lv2 := [(3, .int r3), (0, .ref 950), (1, .int l1), (2, .int l2)]) dX13_assign__82 rfl (by decide) rfl ?_
    refine mj_aload_n dX13_assign__83 1 rfl ?_
    refine mj_iload_n dX13_assign__84 2 rfl ?_
    refine mj_iload_n dX13_assign__85 0 rfl ?_
    refine t_bndK hk (fun r4 er4 hk => ?_)
    refine t_callVvE dX13_assign__86 M_X13_tellVar (C_X13_tellVar _ _ _ _ er4) ML_X13_1346 IM_X13_tellVar SE_X13_tellVar qc_950 rfl (As := [.int l1, .int r3]) rfl rfl (Nat.le_of_ble_eq_true rfl) (Nat.le_of_ble_eq_true rfl) (Nat.le_of_ble_eq_true rfl) (Nat.le_of_ble_eq_true rfl) ?_
    refine mj_aload_n dX13_assign__89 1 rfl ?_
    refine mj_aload_n dX13_assign__90 1 rfl ?_
    refine t_callViP dX13_assign__91 M_X13_top (C_X13_top _) ML_X13_941 IM_X13_top SE_X13_top qc_950 rfl (As := []) rfl rfl (Nat.le_of_ble_eq_true rfl) (Nat.le_of_ble_eq_true rfl) (Nat.le_of_ble_eq_true rfl) (Nat.le_of_ble_eq_true rfl) ?_
    refine mj_aload_n dX13_assign__94 1 rfl ?_
    refine mj_iload_n dX13_assign__95 2 rfl ?_
    refine mj_iload_n dX13_assign__96 0 rfl ?_
    refine t_bndK hk (fun r6 er6 hk => ?_)
    refine t_callViP dX13_assign__97 M_X13_placeSlot (C_X13_placeSlot _ _ _ _ er6) ML_X13_1349 IM_X13_placeSlot SE_X13_placeSlot qc_950 rfl (As := [.int l1, .int r3]) rfl rfl (Nat.le_of_ble_eq_true rfl) (Nat.le_of_ble_eq_true rfl) (Nat.le_of_ble_eq_true rfl) (Nat.le_of_ble_eq_true rfl) ?_
    refine t_bndK hk (fun r7 er7 hk => ?_)
    refine t_callVvE dX13_assign__100 M_X13_copy (C_X13_copy _ _ _ _ er7) ML_X13_861 IM_X13_copy SE_X13_copy qc_950 rfl (As := [.int (f_X13_top r4), .int r6]) rfl rfl (Nat.le_of_ble_eq_true rfl) (Nat.le_of_ble_eq_true rfl) (Nat.le_of_ble_eq_true rfl) (Nat.le_of_ble_eq_true rfl) ?_
    exact t_somK hk (fun hf => t_vret dX13_assign__103 rfl ⟨rfl, hf⟩ (Nat.le_of_ble_eq_true rfl) (Nat.le_of_ble_eq_true rfl))
noncomputable def k_X13_assign__404 (l1 : Int32) (l5 : Int32) (l6 : Int32) (l7 : Int32) (s : t_S) : Option (t_S) :=
 if (s.1 950 97) = (0 : Int32) then ((f_X13_tellVar l1 l5 s).bind (fun r1 =>
 (f_X13_copy l7 l6 r1).bind (fun r2 =>
 some (r2))))
 else (some (s))
set_option maxRecDepth 4000 in
set_option maxHeartbeats 1000000 in
theorem B_X13_assign__404 {D : va_G} {cy : Nat → ClassId} {ad : Nat → Nat} {bs : Nat} {X : State → Heap → Prop} (l1 : Int32) (l5 : Int32) (l6 : Int32) (l7 : Int32) (s : t_S) (Q : t_S → Prop) (hk : t_hk (k_X13_assign__404 l1 l5 l6 l7 s) Q) : mj_G D cy ad bs X cX13_assign_ 8 yX13_assign_.cls none yX13_assign_.name 1784 0 0 1065 (t_P (fun v s' => v = none ∧ Q (s'))) 404 [(0, .ref 950), (1, .int l1), (5, .int l5), (6, .int l6), (7, .int l7)] [] (t_m s) 1065 0 0 := by
  refine mj_aload_n dX13_assign__404 0 rfl ?_
  refine t_getI dX13_assign__405 F_X13_842 qf_950_97 ?_
  refine mj_if_ne 426 dX13_assign__408 (by decide) (fun z => t_negK hk z (fun hk => ?_)) (fun z => t_posK hk z (fun hk => ?_))
  · exact t_somK hk (fun hf => t_vret dX13_assign__426 rfl ⟨rfl, hf⟩ (Nat.le_of_ble_eq_true rfl) (Nat.le_of_ble_eq_true rfl))
  · refine mj_aload_n dX13_assign__411 0 rfl ?_
    refine mj_iload_n dX13_assign__412 1 rfl ?_
    refine mj_iload dX13_assign__413 2 rfl ?_
    refine t_bndK hk (fun r1 er1 hk => ?_)
    refine t_callVvE dX13_assign__415 M_X13_tellVar (C_X13_tellVar _ _ _ _ er1) ML_X13_1346 IM_X13_tellVar SE_X13_tellVar qc_950 rfl (As := [.int l1, .int l5]) rfl rfl (Nat.le_of_ble_eq_true rfl) (Nat.le_of_ble_eq_true rfl) (Nat.le_of_ble_eq_true rfl) (Nat.le_of_ble_eq_true rfl) ?_
    refine mj_aload_n dX13_assign__418 0 rfl ?_
    refine mj_iload dX13_assign__419 4 rfl ?_
    refine mj_iload dX13_assign__421 3 rfl ?_
    refine t_bndK hk (fun r2 er2 hk => ?_)
    refine t_callVvE dX13_assign__423 M_X13_copy (C_X13_copy _ _ _ _ er2) ML_X13_861 IM_X13_copy SE_X13_copy qc_950 rfl (As := [.int l7, .int l6]) rfl rfl (Nat.le_of_ble_eq_true rfl) (Nat.le_of_ble_eq_true rfl) (Nat.le_of_ble_eq_true rfl) (Nat.le_of_ble_eq_true rfl) ?_
    exact t_somK hk (fun hf => t_vret dX13_assign__426 rfl ⟨rfl, hf⟩ (Nat.le_of_ble_eq_true rfl) (Nat.le_of_ble_eq_true rfl))
noncomputable def k_X13_assign__378 (l1 : Int32) (l2 : Int32) (l5 : Int32) (l6 : Int32) (l7 : Int32) (s : t_S) : Option (t_S) :=
 if (s.1 950 97) = (0 : Int32) then (if t_ix l2 401 = true then
  (f_X13_typeAt l1 (s.1 1001 (l2.toNatClampNeg)) l5 s).bind (fun r2 =>
 (f_X13_checkType r2 l7 s).bind (fun r3 =>
 k_X13_assign__404 l1 l5 l6 l7 r3))
else none)
 else (k_X13_assign__404 l1 l5 l6 l7 s)
set_option maxRecDepth 4000 in
set_option maxHeartbeats 1000000 in
theorem B_X13_assign__378 {D : va_G} {cy : Nat → ClassId} {ad : Nat → Nat} {bs : Nat} {X : State → Heap → Prop} (l1 : Int32) (l2 : Int32) (l5 : Int32) (l6 : Int32) (l7 : Int32) (s : t_S) (Q : t_S → Prop) (hk : t_hk (k_X13_assign__378 l1 l2 l5 l6 l7 s) Q) : mj_G D cy ad bs X cX13_assign_ 8 yX13_assign_.cls none yX13_assign_.name 1784 0 0 1065 (t_P (fun v s' => v = none ∧ Q (s'))) 378 [(0, .ref 950), (1, .int l1), (2, .int l2), (5, .int l5), (6, .int l6), (7, .int l7)] [] (t_m s) 1065 0 0 := by
  refine mj_aload_n dX13_assign__378 0 rfl ?_
  refine t_getI dX13_assign__379 F_X13_842 qf_950_97 ?_
  refine mj_if_ne 404 dX13_assign__382 (by decide) (fun z => t_negK hk z (fun hk => ?_)) (fun z => t_posK hk z (fun hk => ?_))
  · refine mj_sublv [(0, .ref 950), (1, .int l1), (5, .int l5), (6, .int l6), (7, .int l7)] [0, 1, 3, 4, 5] rfl ?_
    exact B_X13_assign__404 _ _ _ _ _ _ hk
  · refine mj_aload_n dX13_assign__385 0 rfl ?_
    refine mj_aload_n dX13_assign__386 0 rfl ?_
    refine mj_iload_n dX13_assign__387 1 rfl ?_
    refine mj_aload_n dX13_assign__388 0 rfl ?_
    refine t_getR 1001 dX13_assign__389 F_X13_165 qr_950_79 ?_
    refine mj_iload_n dX13_assign__392 2 rfl ?_
    refine t_chkK hk (fun c0 hk => ?_)
    refine t_iald dX13_assign__393 qa_1001 (t_ixv c0) ?_
    refine mj_iload dX13_assign__394 3 rfl ?_
    refine t_bndK hk (fun r2 er2 hk => ?_)
    refine t_callViP dX13_assign__396 M_X13_typeAt (C_X13_typeAt _ _ _ _ _ er2) ML_X13_1343 IM_X13_typeAt SE_X13_typeAt qc_950 rfl (As := [.int l1, .int (s.1 1001 (l2.toNatClampNeg)), .int l5]) rfl rfl (Nat.le_of_ble_eq_true rfl) (Nat.le_of_ble_eq_true rfl) (Nat.le_of_ble_eq_true rfl) (Nat.le_of_ble_eq_true rfl) ?_
    refine mj_iload dX13_assign__399 5 rfl ?_
    refine t_bndK hk (fun r3 er3 hk => ?_)
    refine t_callVvE dX13_assign__401 M_X13_checkType (C_X13_checkType _ _ _ _ er3) ML_X13_1321 IM_X13_checkType SE_X13_checkType qc_950 rfl (As := [.int r2, .int l7]) rfl rfl (Nat.le_of_ble_eq_true rfl) (Nat.le_of_ble_eq_true rfl) (Nat.le_of_ble_eq_true rfl) (Nat.le_of_ble_eq_true rfl) ?_
    refine mj_sublv [(0, .ref 950), (1, .int l1), (5, .int l5), (6, .int l6), (7, .int l7)] [0, 1, 3, 4, 5] rfl ?_
    exact B_X13_assign__404 _ _ _ _ _ _ hk
noncomputable def k_X13_assign__361 (l1 : Int32) (l2 : Int32) (l5 : Int32) (l6 : Int32) (l7 : Int32) (s : t_S) : Option (t_S) :=
 if (s.1 950 97) = (0 : Int32) then ((f_X13_pushMade s).bind (fun r1 =>
 k_X13_assign__378 l1 l2 l5 l6 (f_X13_top r1) r1))
 else (k_X13_assign__378 l1 l2 l5 l6 l7 s)
set_option maxRecDepth 4000 in
set_option maxHeartbeats 1000000 in
theorem B_X13_assign__361 {D : va_G} {cy : Nat → ClassId} {ad : Nat → Nat} {bs : Nat} {X : State → Heap → Prop} (l1 : Int32) (l2 : Int32) (l5 : Int32) (l6 : Int32) (l7 : Int32) (s : t_S) (Q : t_S → Prop) (hk : t_hk (k_X13_assign__361 l1 l2 l5 l6 l7 s) Q) : mj_G D cy ad bs X cX13_assign_ 8 yX13_assign_.cls none yX13_assign_.name 1784 0 0 1065 (t_P (fun v s' => v = none ∧ Q (s'))) 361 [(0, .ref 950), (1, .int l1), (2, .int l2), (5, .int l5), (6, .int l6), (7, .int l7)] [] (t_m s) 1065 0 0 := by
  refine mj_aload_n dX13_assign__361 0 rfl ?_
  refine t_getI dX13_assign__362 F_X13_842 qf_950_97 ?_
  refine mj_if_ne 378 dX13_assign__365 (by decide) (fun z => t_negK hk z (fun hk => ?_)) (fun z => t_posK hk z (fun hk => ?_))
  · exact B_X13_assign__378 _ _ _ _ _ _ _ hk
  · refine mj_aload_n dX13_assign__368 0 rfl ?_
    refine t_bndK hk (fun r1 er1 hk => ?_)
    refine t_callVvE dX13_assign__369 M_X13_pushMade (C_X13_pushMade _ _ er1) ML_X13_959 IM_X13_pushMade SE_X13_pushMade qc_950 rfl (As := []) rfl rfl (Nat.le_of_ble_eq_true rfl) (Nat.le_of_ble_eq_true rfl) (Nat.le_of_ble_eq_true rfl) (Nat.le_of_ble_eq_true rfl) ?_
    refine mj_aload_n dX13_assign__372 0 rfl ?_
    refine t_callViP dX13_assign__373 M_X13_top (C_X13_top _) ML_X13_941 IM_X13_top SE_X13_top qc_950 rfl (As := []) rfl rfl (Nat.le_of_ble_eq_true rfl) (Nat.le_of_ble_eq_true rfl) (Nat.le_of_ble_eq_true rfl) (Nat.le_of_ble_eq_true rfl) ?_
    refine mj_istore (lv2 := [(7, .int (f_X13_top r1)), (0, .ref 950), (1, .int l1), (2, .int l2), (5, .int l5), (6, .int l6)]) dX13_assign__376 (by decide) rfl ?_
    refine mj_sublv [(0, .ref 950), (1, .int l1), (2, .int l2), (5, .int l5), (6, .int l6), (7, .int (f_X13_top r1))] [1, 2, 3, 4, 5, 0] rfl ?_
    exact B_X13_assign__378 _ _ _ _ _ _ _ hk
noncomputable def k_X13_assign__252 (l1 : Int32) (l2 : Int32) (l3 : Int32) (s : t_S) : Option (t_S) :=
 if (s.1 950 97) = (0 : Int32) then (if t_ix l2 401 = true then
  (f_X13_varOf (s.1 991 (l2.toNatClampNeg)) ((2000 : Int32) + (s.1 1001 (l2.toNatClampNeg))) (s.1 1002 (l2.toNatClampNeg)) s).bind (fun r2 =>
 (f_X13_placeSlot l1 r2 s).bind (fun r3 =>
 if t_ix l3 13000 = true then
  if (s.1 959 (l3.toNatClampNeg)) < (0 : Int32) then (k_X13_assign__378 l1 l2 r2 r3 (f_X13_top s) s)
 else (t_let (t_setI s 950 176 (0 : Int32)) (fun s1 =>
 (f_X13_rebuild ((260 : Int32) * r3) (s1.1 959 (l3.toNatClampNeg)) (0 : Int32) (f_X13_top s) s1).bind (fun r6 =>
 if (r6.1 950 97) = (0 : Int32) then ((f_X13_weightOf 1007 (0 : Int32) r6).bind (fun r7 =>
 if r7 ≤ (120 : Int32) then (k_X13_assign__361 l1 l2 r2 r3 (f_X13_top s) r6)
 else ((f_X13_error (3 : Int32) r6).bind (fun r8 =>
 k_X13_assign__361 l1 l2 r2 r3 (f_X13_top s) r8))))
 else (k_X13_assign__361 l1 l2 r2 r3 (f_X13_top s) r6))))
else none))
else none)
 else (some (s))
set_option maxRecDepth 4000 in
set_option maxHeartbeats 1000000 in
theorem B_X13_assign__252 {D : va_G} {cy : Nat → ClassId} {ad : Nat → Nat} {bs : Nat} {X : State → Heap → Prop} (l1 : Int32) (l2 : Int32) (l3 : Int32) (s : t_S) (Q : t_S → Prop) (hk : t_hk (k_X13_assign__252 l1 l2 l3 s) Q) : mj_G D cy ad bs X cX13_assign_ 8 yX13_assign_.cls none yX13_assign_.name 1784 0 0 1065 (t_P (fun v s' => v = none ∧ Q (s'))) 252 [(0, .ref 950), (1, .int l1), (2, .int l2), (3, .int l3)] [] (t_m s) 1065 0 0 := by
  refine mj_aload_n dX13_assign__252 0 rfl ?_
  refine t_getI dX13_assign__253 F_X13_842 qf_950_97 ?_
  refine mj_if_eq 260 dX13_assign__256 (by decide) (fun z => t_posK hk z (fun hk => ?_)) (fun z => t_negK hk z (fun hk => ?_))
  · refine mj_aload_n dX13_assign__260 0 rfl ?_
    refine mj_aload_n dX13_assign__261 0 rfl ?_
    refine t_getR 991 dX13_assign__262 F_X13_135 qr_950_69 ?_
    refine mj_iload_n dX13_assign__265 2 rfl ?_
    refine t_chkK hk (fun c0 hk => ?_)
    refine t_iald dX13_assign__266 qa_991 (t_ixv c0) ?_
    refine mj_sipush (v := 2000) dX13_assign__267 (by decide) ?_
    refine mj_aload_n dX13_assign__270 0 rfl ?_
    refine t_getR 1001 dX13_assign__271 F_X13_165 qr_950_79 ?_
    refine mj_iload_n dX13_assign__274 2 rfl ?_
    refine t_iald dX13_assign__275 qa_1001 (t_ixv c0) ?_
    refine mj_iadd dX13_assign__276 ?_
    refine mj_aload_n dX13_assign__277 0 rfl ?_
    refine t_getR 1002 dX13_assign__278 F_X13_168 qr_950_80 ?_
    refine mj_iload_n dX13_assign__281 2 rfl ?_
    refine t_iald dX13_assign__282 qa_1002 (t_ixv c0) ?_
    refine t_bndK hk (fun r2 er2 hk => ?_)
    refine t_callViP dX13_assign__283 M_X13_varOf (C_X13_varOf _ _ _ _ _ er2) ML_X13_804 IM_X13_varOf SE_X13_varOf qc_950 rfl (As := [.int (s.1 991 (l2.toNatClampNeg)), .int ((2000 : Int32) + (s.1 1001 (l2.toNatClampNeg))), .int (s.1 1002 (l2.toNatClampNeg))]) rfl rfl (Nat.le_of_ble_eq_true rfl) (Nat.le_of_ble_eq_true rfl) (Nat.le_of_ble_eq_true rfl) (Nat.le_of_ble_eq_true rfl) ?_
    refine mj_istore (lv2 := [(5, .int r2), (0, .ref 950), (1, .int l1), (2, .int l2), (3, .int l3)]) dX13_assign__286 (by decide) rfl ?_
    refine mj_aload_n dX13_assign__288 1 rfl ?_
    refine mj_iload_n dX13_assign__289 2 rfl ?_
    refine mj_iload dX13_assign__290 0 rfl ?_
    refine t_bndK hk (fun r3 er3 hk => ?_)
    refine t_callViP dX13_assign__292 M_X13_placeSlot (C_X13_placeSlot _ _ _ _ er3) ML_X13_1349 IM_X13_placeSlot SE_X13_placeSlot qc_950 rfl (As := [.int l1, .int r2]) rfl rfl (Nat.le_of_ble_eq_true rfl) (Nat.le_of_ble_eq_true rfl) (Nat.le_of_ble_eq_true rfl) (Nat.le_of_ble_eq_true rfl) ?_
    refine mj_istore (lv2 := [(6, .int r3), (5, .int r2), (0, .ref 950), (1, .int l1), (2, .int l2), (3, .int l3)]) dX13_assign__295 (by decide) rfl ?_
    refine mj_aload_n dX13_assign__297 2 rfl ?_
    refine t_callViP dX13_assign__298 M_X13_top (C_X13_top _) ML_X13_941 IM_X13_top SE_X13_top qc_950 rfl (As := []) rfl rfl (Nat.le_of_ble_eq_true rfl) (Nat.le_of_ble_eq_true rfl) (Nat.le_of_ble_eq_true rfl) (Nat.le_of_ble_eq_true rfl) ?_
    refine mj_istore (lv2 := [(7, .int (f_X13_top s)), (6, .int r3), (5, .int r2), (0, .ref 950), (1, .int l1), (2, .int l2), (3, .int l3)]) dX13_assign__301 (by decide) rfl ?_
    refine mj_aload_n dX13_assign__303 3 rfl ?_
    refine t_getR 959 dX13_assign__304 F_X13_39 qr_950_21 ?_
    refine mj_iload_n dX13_assign__307 6 rfl ?_
    refine t_chkK hk (fun c4 hk => ?_)
    refine t_iald dX13_assign__308 qa_959 (t_ixv c4) ?_
    refine mj_if_lt 378 dX13_assign__309 (by decide) (fun z => t_posK hk z (fun hk => ?_)) (fun z => t_negK hk z (fun hk => ?_))
    · refine mj_sublv [(0, .ref 950), (1, .int l1), (2, .int l2), (5, .int r2), (6, .int r3), (7, .int (f_X13_top s))] [3, 4, 5, 2, 1, 0] rfl ?_
      exact B_X13_assign__378 _ _ _ _ _ _ _ hk
    · refine mj_aload_n dX13_assign__312 3 rfl ?_
      refine mj_iconst (v := 0) dX13_assign__313 (by decide) ?_
      refine t_putIK dX13_assign__314 F_X13_1412 qf_950_176 rfl (fun s1 ws1 => t_letE hk ws1 (fun hk => ?_))
      refine mj_aload_n dX13_assign__317 3 rfl ?_
      refine mj_sipush (v := 260) dX13_assign__318 (by decide) ?_
      refine mj_iload dX13_assign__321 1 rfl ?_
      refine mj_imul dX13_assign__323 ?_
      refine mj_aload_n dX13_assign__324 3 rfl ?_
      refine t_getR 959 dX13_assign__325 F_X13_39 qr_950_21 ?_
      refine mj_iload_n dX13_assign__328 6 rfl ?_
      refine t_iald dX13_assign__329 qa_959 (t_ixv c4) ?_
      refine mj_iconst (v := 0) dX13_assign__330 (by decide) ?_
      refine mj_iload dX13_assign__331 0 rfl ?_
      refine t_bndK hk (fun r6 er6 hk => ?_)
      refine t_callSvE dX13_assign__333 M_X13_rebuild (C_X13_rebuild _ _ _ _ _ _ er6) ML_X13_1415 SM_X13_rebuild (As := [.ref 950, .int ((260 : Int32) * r3), .int (s1.1 959 (l3.toNatClampNeg)), .int 0, .int (f_X13_top s)]) rfl rfl (Nat.le_of_ble_eq_true rfl) (Nat.le_of_ble_eq_true rfl) (Nat.le_of_ble_eq_true rfl) (Nat.le_of_ble_eq_true rfl) ?_
      refine mj_aload_n dX13_assign__336 3 rfl ?_
      refine t_getI dX13_assign__337 F_X13_842 qf_950_97 ?_
      refine mj_if_ne 361 dX13_assign__340 (by decide) (fun z => t_negK hk z (fun hk => ?_)) (fun z => t_posK hk z (fun hk => ?_))
      · refine mj_sublv [(0, .ref 950), (1, .int l1), (2, .int l2), (5, .int r2), (6, .int r3), (7, .int (f_X13_top s))] [3, 4, 5, 2, 1, 0] rfl ?_
        exact B_X13_assign__361 _ _ _ _ _ _ _ hk
      · refine mj_aload_n dX13_assign__343 3 rfl ?_
        refine t_getR 1007 dX13_assign__344 F_X13_185 qr_950_99 ?_
        refine mj_iconst (v := 0) dX13_assign__347 (by decide) ?_
        refine t_bndK hk (fun r7 er7 hk => ?_)
        refine t_callSiP dX13_assign__348 M_X13_weightOf (C_X13_weightOf _ _ _ _ er7) ML_X13_875 SM_X13_weightOf (As := [.ref 1007, .int 0]) rfl rfl (Nat.le_of_ble_eq_true rfl) (Nat.le_of_ble_eq_true rfl) (Nat.le_of_ble_eq_true rfl) (Nat.le_of_ble_eq_true rfl) ?_
        refine mj_bipush (v := 120) dX13_assign__351 (by decide) ?_
        refine mj_icmp_le 361 dX13_assign__353 (by decide) (fun z => t_posK hk z (fun hk => ?_)) (fun z => t_negK hk z (fun hk => ?_))
        · refine mj_sublv [(0, .ref 950), (1, .int l1), (2, .int l2), (5, .int r2), (6, .int r3), (7, .int (f_X13_top s))] [3, 4, 5, 2, 1, 0] rfl ?_
          exact B_X13_assign__361 _ _ _ _ _ _ _ hk
        · refine mj_aload_n dX13_assign__356 3 rfl ?_
          refine mj_iconst (v := 3) dX13_assign__357 (by decide) ?_
          refine t_bndK hk (fun r8 er8 hk => ?_)
          refine t_callVvE dX13_assign__358 M_X13_error (C_X13_error _ _ _ er8) ML_X13_866 IM_X13_error SE_X13_error qc_950 rfl (As := [.int 3]) rfl rfl (Nat.le_of_ble_eq_true rfl) (Nat.le_of_ble_eq_true rfl) (Nat.le_of_ble_eq_true rfl) (Nat.le_of_ble_eq_true rfl) ?_
          refine mj_sublv [(0, .ref 950), (1, .int l1), (2, .int l2), (5, .int r2), (6, .int r3), (7, .int (f_X13_top s))] [3, 4, 5, 2, 1, 0] rfl ?_
          exact B_X13_assign__361 _ _ _ _ _ _ _ hk
  · exact t_somK hk (fun hf => t_vret dX13_assign__259 rfl ⟨rfl, hf⟩ (Nat.le_of_ble_eq_true rfl) (Nat.le_of_ble_eq_true rfl))
noncomputable def k_X13_assign__235 (l1 : Int32) (l2 : Int32) (l3 : Int32) (s : t_S) : Option (t_S) :=
 if (s.1 950 97) = (0 : Int32) then (if t_ix l2 401 = true then
  (f_X13_work (s.1 995 (l2.toNatClampNeg)) s).bind (fun r2 =>
 k_X13_assign__252 l1 l2 l3 r2)
else none)
 else (k_X13_assign__252 l1 l2 l3 s)
set_option maxRecDepth 4000 in
set_option maxHeartbeats 1000000 in
theorem B_X13_assign__235 {D : va_G} {cy : Nat → ClassId} {ad : Nat → Nat} {bs : Nat} {X : State → Heap → Prop} (l1 : Int32) (l2 : Int32) (l3 : Int32) (s : t_S) (Q : t_S → Prop) (hk : t_hk (k_X13_assign__235 l1 l2 l3 s) Q) : mj_G D cy ad bs X cX13_assign_ 8 yX13_assign_.cls none yX13_assign_.name 1784 0 0 1065 (t_P (fun v s' => v = none ∧ Q (s'))) 235 [(0, .ref 950), (1, .int l1), (2, .int l2), (3, .int l3)] [] (t_m s) 1065 0 0 := by
  refine mj_aload_n dX13_assign__235 0 rfl ?_
  refine t_getI dX13_assign__236 F_X13_842 qf_950_97 ?_
  refine mj_if_ne 252 dX13_assign__239 (by decide) (fun z => t_negK hk z (fun hk => ?_)) (fun z => t_posK hk z (fun hk => ?_))
  · exact B_X13_assign__252 _ _ _ _ _ hk
  · refine mj_aload_n dX13_assign__242 0 rfl ?_
    refine mj_aload_n dX13_assign__243 0 rfl ?_
    refine t_getR 995 dX13_assign__244 F_X13_147 qr_950_73 ?_
    refine mj_iload_n dX13_assign__247 2 rfl ?_
    refine t_chkK hk (fun c0 hk => ?_)
    refine t_iald dX13_assign__248 qa_995 (t_ixv c0) ?_
    refine t_bndK hk (fun r2 er2 hk => ?_)
    refine t_callSvE dX13_assign__249 M_X13_work (C_X13_work _ _ _ er2) ML_X13_897 SM_X13_work (As := [.ref 950, .int (s.1 995 (l2.toNatClampNeg))]) rfl rfl (Nat.le_of_ble_eq_true rfl) (Nat.le_of_ble_eq_true rfl) (Nat.le_of_ble_eq_true rfl) (Nat.le_of_ble_eq_true rfl) ?_
    exact B_X13_assign__252 _ _ _ _ _ hk
noncomputable def k_X13_assign__223 (l1 : Int32) (l2 : Int32) (l3 : Int32) (l4 : Int32) (l5 : Int32) (s : t_S) : Option ((Int32 × Int32 × Int32 × Int32 × Int32 × t_S) ⊕ (t_S)) :=
 if t_ix l5 13000 = true then
  some (.inl (l1, l2, l3, l4, (s.1 960 (l5.toNatClampNeg)), s))
else none
set_option maxRecDepth 4000 in
set_option maxHeartbeats 1000000 in
theorem B_X13_assign__223 {D : va_G} {cy : Nat → ClassId} {ad : Nat → Nat} {bs : Nat} {X : State → Heap → Prop} (l1 : Int32) (l2 : Int32) (l3 : Int32) (l4 : Int32) (l5 : Int32) (s : t_S) (Q : (Int32 × Int32 × Int32 × Int32 × Int32 × t_S) ⊕ (t_S) → Prop) (Hb122 : ∀ (y0 : Int32) (y1 : Int32) (y2 : Int32) (y3 : Int32) (y4 : Int32) (y5 : t_S), Q (.inl (y0, y1, y2, y3, y4, y5)) → mj_G D cy ad bs X cX13_assign_ 8 yX13_assign_.cls none yX13_assign_.name 1784 0 0 1065 (t_P (fun v s' => v = none ∧ Q (.inr (s')))) 122 [(0, .ref 950), (1, .int (y0)), (2, .int (y1)), (3, .int (y2)), (4, .int (y3)), (5, .int (y4))] [] (t_m y5) 1065 0 0) (hk : t_hk (k_X13_assign__223 l1 l2 l3 l4 l5 s) Q) : mj_G D cy ad bs X cX13_assign_ 8 yX13_assign_.cls none yX13_assign_.name 1784 0 0 1065 (t_P (fun v s' => v = none ∧ Q (.inr (s')))) 223 [(0, .ref 950), (1, .int l1), (2, .int l2), (3, .int l3), (4, .int l4), (5, .int l5)] [] (t_m s) 1065 0 0 := by
  refine mj_aload_n dX13_assign__223 0 rfl ?_
  refine t_getR 960 dX13_assign__224 F_X13_42 qr_950_22 ?_
  refine mj_iload dX13_assign__227 5 rfl ?_
  refine t_chkK hk (fun c0 hk => ?_)
  refine t_iald dX13_assign__229 qa_960 (t_ixv c0) ?_
  refine mj_istore (lv2 := [(5, .int (s.1 960 (l5.toNatClampNeg))), (0, .ref 950), (1, .int l1), (2, .int l2), (3, .int l3), (4, .int l4)]) dX13_assign__230 (by decide) rfl ?_
  refine mj_goto 122 dX13_assign__232 (by decide) ?_
  refine mj_sublv [(0, .ref 950), (1, .int l1), (2, .int l2), (3, .int l3), (4, .int l4), (5, .int (s.1 960 (l5.toNatClampNeg)))] [1, 2, 3, 4, 5, 0] rfl ?_
  exact t_somK hk (fun hf => Hb122 l1 l2 l3 l4 (s.1 960 (l5.toNatClampNeg)) s hf)
noncomputable def k_X13_assign__217 (l1 : Int32) (l2 : Int32) (l3 : Int32) (l4 : Int32) (l5 : Int32) (l6 : Int32) (s : t_S) : Option ((Int32 × Int32 × Int32 × Int32 × Int32 × t_S) ⊕ (t_S)) :=
 t_let (t_setI s 950 98 l6) (fun s1 =>
 k_X13_assign__223 l1 l2 l3 l4 l5 s1)
set_option maxRecDepth 4000 in
set_option maxHeartbeats 1000000 in
theorem B_X13_assign__217 {D : va_G} {cy : Nat → ClassId} {ad : Nat → Nat} {bs : Nat} {X : State → Heap → Prop} (l1 : Int32) (l2 : Int32) (l3 : Int32) (l4 : Int32) (l5 : Int32) (l6 : Int32) (s : t_S) (Q : (Int32 × Int32 × Int32 × Int32 × Int32 × t_S) ⊕ (t_S) → Prop) (Hb122 : ∀ (y0 : Int32) (y1 : Int32) (y2 : Int32) (y3 : Int32) (y4 : Int32) (y5 : t_S), Q (.inl (y0, y1, y2, y3, y4, y5)) → mj_G D cy ad bs X cX13_assign_ 8 yX13_assign_.cls none yX13_assign_.name 1784 0 0 1065 (t_P (fun v s' => v = none ∧ Q (.inr (s')))) 122 [(0, .ref 950), (1, .int (y0)), (2, .int (y1)), (3, .int (y2)), (4, .int (y3)), (5, .int (y4))] [] (t_m y5) 1065 0 0) (hk : t_hk (k_X13_assign__217 l1 l2 l3 l4 l5 l6 s) Q) : mj_G D cy ad bs X cX13_assign_ 8 yX13_assign_.cls none yX13_assign_.name 1784 0 0 1065 (t_P (fun v s' => v = none ∧ Q (.inr (s')))) 217 [(0, .ref 950), (1, .int l1), (2, .int l2), (3, .int l3), (4, .int l4), (5, .int l5), (6, .int l6)] [] (t_m s) 1065 0 0 := by
  refine mj_aload_n dX13_assign__217 0 rfl ?_
  refine mj_iload dX13_assign__218 6 rfl ?_
  refine t_putIK dX13_assign__220 F_X13_858 qf_950_98 rfl (fun s1 ws1 => t_letE hk ws1 (fun hk => ?_))
  refine mj_sublv [(0, .ref 950), (1, .int l1), (2, .int l2), (3, .int l3), (4, .int l4), (5, .int l5)] [0, 1, 2, 3, 4, 5] rfl ?_
  exact B_X13_assign__223 _ _ _ _ _ _ _ (fun y0 y1 y2 y3 y4 y5 hx => Hb122 y0 y1 y2 y3 y4 y5 hx) hk
noncomputable def k_X13_assign__189 (l1 : Int32) (l2 : Int32) (l3 : Int32) (l4 : Int32) (l5 : Int32) (l6 : Int32) (s : t_S) : Option ((Int32 × Int32 × Int32 × Int32 × Int32 × t_S) ⊕ (t_S)) :=
 if (s.1 950 97) = (0 : Int32) then (if t_ix ((f_X13_top s) + (1 : Int32)) 626600 = true then
  if t_ix l4 3100 = true then
  t_let (t_setJ s 1057 (l4.toNatClampNeg) (s.2.1 1006 (((f_X13_top s) + (1 : Int32)).toNatClampNeg))) (fun s1 =>
 k_X13_assign__217 l1 l2 l3 (l4 + 1) l5 l6 s1)
else none
else none)
 else (k_X13_assign__217 l1 l2 l3 l4 l5 l6 s)
set_option maxRecDepth 4000 in
set_option maxHeartbeats 1000000 in
theorem B_X13_assign__189 {D : va_G} {cy : Nat → ClassId} {ad : Nat → Nat} {bs : Nat} {X : State → Heap → Prop} (l1 : Int32) (l2 : Int32) (l3 : Int32) (l4 : Int32) (l5 : Int32) (l6 : Int32) (s : t_S) (Q : (Int32 × Int32 × Int32 × Int32 × Int32 × t_S) ⊕ (t_S) → Prop) (Hb122 : ∀ (y0 : Int32) (y1 : Int32) (y2 : Int32) (y3 : Int32) (y4 : Int32) (y5 : t_S), Q (.inl (y0, y1, y2, y3, y4, y5)) → mj_G D cy ad bs X cX13_assign_ 8 yX13_assign_.cls none yX13_assign_.name 1784 0 0 1065 (t_P (fun v s' => v = none ∧ Q (.inr (s')))) 122 [(0, .ref 950), (1, .int (y0)), (2, .int (y1)), (3, .int (y2)), (4, .int (y3)), (5, .int (y4))] [] (t_m y5) 1065 0 0) (hk : t_hk (k_X13_assign__189 l1 l2 l3 l4 l5 l6 s) Q) : mj_G D cy ad bs X cX13_assign_ 8 yX13_assign_.cls none yX13_assign_.name 1784 0 0 1065 (t_P (fun v s' => v = none ∧ Q (.inr (s')))) 189 [(0, .ref 950), (1, .int l1), (2, .int l2), (3, .int l3), (4, .int l4), (5, .int l5), (6, .int l6)] [] (t_m s) 1065 0 0 := by
  refine mj_aload_n dX13_assign__189 0 rfl ?_
  refine t_getI dX13_assign__190 F_X13_842 qf_950_97 ?_
  refine mj_if_ne 217 dX13_assign__193 (by decide) (fun z => t_negK hk z (fun hk => ?_)) (fun z => t_posK hk z (fun hk => ?_))
  · exact B_X13_assign__217 _ _ _ _ _ _ _ _ (fun y0 y1 y2 y3 y4 y5 hx => Hb122 y0 y1 y2 y3 y4 y5 hx) hk
  · refine mj_aload_n dX13_assign__196 0 rfl ?_
    refine t_getR 1057 dX13_assign__197 F_X13_339 qr_950_175 ?_
    refine mj_iload dX13_assign__200 4 rfl ?_
    refine mj_aload_n dX13_assign__202 0 rfl ?_
    refine t_getR 1006 dX13_assign__203 F_X13_182 qr_950_95 ?_
    refine mj_aload_n dX13_assign__206 0 rfl ?_
    refine t_callViP dX13_assign__207 M_X13_top (C_X13_top _) ML_X13_941 IM_X13_top SE_X13_top qc_950 rfl (As := []) rfl rfl (Nat.le_of_ble_eq_true rfl) (Nat.le_of_ble_eq_true rfl) (Nat.le_of_ble_eq_true rfl) (Nat.le_of_ble_eq_true rfl) ?_
    refine mj_iconst (v := 1) dX13_assign__210 (by decide) ?_
    refine mj_iadd dX13_assign__211 ?_
    refine t_chkK hk (fun c1 hk => ?_)
    refine t_lald dX13_assign__212 qa_1006 (t_ixv c1) ?_
    refine t_chkK hk (fun c2 hk => ?_)
    refine t_lastK dX13_assign__213 qa_1057 (t_ixv c2) (fun s1 ws1 => t_letE hk ws1 (fun hk => ?_))
    refine mj_iinc (k := 4) (v := (l4 + 1)) (lv2 := [(4, .int (l4 + 1)), (0, .ref 950), (1, .int l1), (2, .int l2), (3, .int l3), (5, .int l5), (6, .int l6)]) dX13_assign__214 rfl rfl (by decide) rfl ?_
    refine mj_sublv [(0, .ref 950), (1, .int l1), (2, .int l2), (3, .int l3), (4, .int (l4 + 1)), (5, .int l5), (6, .int l6)] [1, 2, 3, 4, 0, 5, 6] rfl ?_
    exact B_X13_assign__217 _ _ _ _ _ _ _ _ (fun y0 y1 y2 y3 y4 y5 hx => Hb122 y0 y1 y2 y3 y4 y5 hx) hk
noncomputable def k_X13_assign__122 (l1 : Int32) (l2 : Int32) (l3 : Int32) (l4 : Int32) (l5 : Int32) (s : t_S) : Option ((Int32 × Int32 × Int32 × Int32 × Int32 × t_S) ⊕ (t_S)) :=
 if l5 < (0 : Int32) then ((k_X13_assign__235 l1 l2 l3 s).map Sum.inr)
 else (if (s.1 950 97) = (0 : Int32) then (if t_ix l5 13000 = true then
  if (s.1 955 (l5.toNatClampNeg)) = (69 : Int32) then ((f_X13_work (s.1 959 (l5.toNatClampNeg)) s).bind (fun r2 =>
 if (r2.1 950 97) = (0 : Int32) then (if t_ix (f_X13_top r2) 626600 = true then
  if (lg_cmp (r2.2.1 1006 ((f_X13_top r2).toNatClampNeg)) (0 : Int64)) = (0 : Int32) then (k_X13_assign__189 l1 l2 l3 l4 l5 (s.1 950 98) r2)
 else ((f_X13_error (1 : Int32) r2).bind (fun r5 =>
 k_X13_assign__189 l1 l2 l3 l4 l5 (s.1 950 98) r5))
else none)
 else (k_X13_assign__189 l1 l2 l3 l4 l5 (s.1 950 98) r2)))
 else (k_X13_assign__223 l1 l2 l3 l4 l5 s)
else none)
 else ((k_X13_assign__235 l1 l2 l3 s).map Sum.inr))
set_option maxRecDepth 4000 in
set_option maxHeartbeats 1000000 in
theorem B_X13_assign__122 {D : va_G} {cy : Nat → ClassId} {ad : Nat → Nat} {bs : Nat} {X : State → Heap → Prop} (l1 : Int32) (l2 : Int32) (l3 : Int32) (l4 : Int32) (l5 : Int32) (s : t_S) (Q : (Int32 × Int32 × Int32 × Int32 × Int32 × t_S) ⊕ (t_S) → Prop) (Hb122 : ∀ (y0 : Int32) (y1 : Int32) (y2 : Int32) (y3 : Int32) (y4 : Int32) (y5 : t_S), Q (.inl (y0, y1, y2, y3, y4, y5)) → mj_G D cy ad bs X cX13_assign_ 8 yX13_assign_.cls none yX13_assign_.name 1784 0 0 1065 (t_P (fun v s' => v = none ∧ Q (.inr (s')))) 122 [(0, .ref 950), (1, .int (y0)), (2, .int (y1)), (3, .int (y2)), (4, .int (y3)), (5, .int (y4))] [] (t_m y5) 1065 0 0) (hk : t_hk (k_X13_assign__122 l1 l2 l3 l4 l5 s) Q) : mj_G D cy ad bs X cX13_assign_ 8 yX13_assign_.cls none yX13_assign_.name 1784 0 0 1065 (t_P (fun v s' => v = none ∧ Q (.inr (s')))) 122 [(0, .ref 950), (1, .int l1), (2, .int l2), (3, .int l3), (4, .int l4), (5, .int l5)] [] (t_m s) 1065 0 0 := by
  refine mj_iload dX13_assign__122 5 rfl ?_
  refine mj_if_lt 235 dX13_assign__124 (by decide) (fun z => t_posK hk z (fun hk => ?_)) (fun z => t_negK hk z (fun hk => ?_))
  · refine mj_sublv [(0, .ref 950), (1, .int l1), (2, .int l2), (3, .int l3)] [0, 1, 2, 3] rfl ?_
    refine t_mapK hk (fun hk => ?_)
    exact B_X13_assign__235 _ _ _ _ _ hk
  · refine mj_aload_n dX13_assign__127 0 rfl ?_
    refine t_getI dX13_assign__128 F_X13_842 qf_950_97 ?_
    refine mj_if_ne 235 dX13_assign__131 (by decide) (fun z => t_negK hk z (fun hk => ?_)) (fun z => t_posK hk z (fun hk => ?_))
    · refine mj_sublv [(0, .ref 950), (1, .int l1), (2, .int l2), (3, .int l3)] [0, 1, 2, 3] rfl ?_
      refine t_mapK hk (fun hk => ?_)
      exact B_X13_assign__235 _ _ _ _ _ hk
    · refine mj_aload_n dX13_assign__134 0 rfl ?_
      refine t_getR 955 dX13_assign__135 F_X13_26 qr_950_17 ?_
      refine mj_iload dX13_assign__138 5 rfl ?_
      refine t_chkK hk (fun c0 hk => ?_)
      refine t_iald dX13_assign__140 qa_955 (t_ixv c0) ?_
      refine mj_bipush (v := 69) dX13_assign__141 (by decide) ?_
      refine mj_icmp_ne 223 dX13_assign__143 (by decide) (fun z => t_negK hk z (fun hk => ?_)) (fun z => t_posK hk z (fun hk => ?_))
      · exact B_X13_assign__223 _ _ _ _ _ _ _ (fun y0 y1 y2 y3 y4 y5 hx => Hb122 y0 y1 y2 y3 y4 y5 hx) hk
      · refine mj_aload_n dX13_assign__146 0 rfl ?_
        refine t_getI dX13_assign__147 F_X13_858 qf_950_98 ?_
        refine mj_istore (lv2 := [(6, .int (s.1 950 98)), (0, .ref 950), (1, .int l1), (2, .int l2), (3, .int l3), (4, .int l4), (5, .int l5)]) dX13_assign__150 (by decide) rfl ?_
        refine mj_aload_n dX13_assign__152 1 rfl ?_
        refine mj_aload_n dX13_assign__153 1 rfl ?_
        refine t_getR 959 dX13_assign__154 F_X13_39 qr_950_21 ?_
        refine mj_iload dX13_assign__157 6 rfl ?_
        refine t_iald dX13_assign__159 qa_959 (t_ixv c0) ?_
        refine t_bndK hk (fun r2 er2 hk => ?_)
        refine t_callSvE dX13_assign__160 M_X13_work (C_X13_work _ _ _ er2) ML_X13_897 SM_X13_work (As := [.ref 950, .int (s.1 959 (l5.toNatClampNeg))]) rfl rfl (Nat.le_of_ble_eq_true rfl) (Nat.le_of_ble_eq_true rfl) (Nat.le_of_ble_eq_true rfl) (Nat.le_of_ble_eq_true rfl) ?_
        refine mj_aload_n dX13_assign__163 1 rfl ?_
        refine t_getI dX13_assign__164 F_X13_842 qf_950_97 ?_
        refine mj_if_ne 189 dX13_assign__167 (by decide) (fun z => t_negK hk z (fun hk => ?_)) (fun z => t_posK hk z (fun hk => ?_))
        · refine mj_sublv [(0, .ref 950), (1, .int l1), (2, .int l2), (3, .int l3), (4, .int l4), (5, .int l5), (6, .int (s.1 950 98))] [1, 2, 3, 4, 5, 6, 0] rfl ?_
          exact B_X13_assign__189 _ _ _ _ _ _ _ _ (fun y0 y1 y2 y3 y4 y5 hx => Hb122 y0 y1 y2 y3 y4 y5 hx) hk
        · refine mj_aload_n dX13_assign__170 1 rfl ?_
          refine t_getR 1006 dX13_assign__171 F_X13_182 qr_950_95 ?_
          refine mj_aload_n dX13_assign__174 1 rfl ?_
          refine t_callViP dX13_assign__175 M_X13_top (C_X13_top _) ML_X13_941 IM_X13_top SE_X13_top qc_950 rfl (As := []) rfl rfl (Nat.le_of_ble_eq_true rfl) (Nat.le_of_ble_eq_true rfl) (Nat.le_of_ble_eq_true rfl) (Nat.le_of_ble_eq_true rfl) ?_
          refine t_chkK hk (fun c3 hk => ?_)
          refine t_lald dX13_assign__178 qa_1006 (t_ixv c3) ?_
          refine mj_lconst (v := 0) dX13_assign__179 (by decide) ?_
          refine mj_lcmp dX13_assign__180 ?_
          refine mj_if_eq 189 dX13_assign__181 (by decide) (fun z => t_posK hk z (fun hk => ?_)) (fun z => t_negK hk z (fun hk => ?_))
          · refine mj_sublv [(0, .ref 950), (1, .int l1), (2, .int l2), (3, .int l3), (4, .int l4), (5, .int l5), (6, .int (s.1 950 98))] [1, 2, 3, 4, 5, 6, 0] rfl ?_
            exact B_X13_assign__189 _ _ _ _ _ _ _ _ (fun y0 y1 y2 y3 y4 y5 hx => Hb122 y0 y1 y2 y3 y4 y5 hx) hk
          · refine mj_aload_n dX13_assign__184 1 rfl ?_
            refine mj_iconst (v := 1) dX13_assign__185 (by decide) ?_
            refine t_bndK hk (fun r5 er5 hk => ?_)
            refine t_callVvE dX13_assign__186 M_X13_error (C_X13_error _ _ _ er5) ML_X13_866 IM_X13_error SE_X13_error qc_950 rfl (As := [.int 1]) rfl rfl (Nat.le_of_ble_eq_true rfl) (Nat.le_of_ble_eq_true rfl) (Nat.le_of_ble_eq_true rfl) (Nat.le_of_ble_eq_true rfl) ?_
            refine mj_sublv [(0, .ref 950), (1, .int l1), (2, .int l2), (3, .int l3), (4, .int l4), (5, .int l5), (6, .int (s.1 950 98))] [1, 2, 3, 4, 5, 6, 0] rfl ?_
            exact B_X13_assign__189 _ _ _ _ _ _ _ _ (fun y0 y1 y2 y3 y4 y5 hx => Hb122 y0 y1 y2 y3 y4 y5 hx) hk
noncomputable def b_X13_assign__122 (x : Int32 × Int32 × Int32 × Int32 × Int32 × t_S) : Option ((Int32 × Int32 × Int32 × Int32 × Int32 × t_S) ⊕ (t_S)) := k_X13_assign__122 x.1 x.2.1 x.2.2.1 x.2.2.2.1 x.2.2.2.2.1 x.2.2.2.2.2
set_option maxRecDepth 4000 in
set_option maxHeartbeats 1000000 in
theorem LH_X13_assign__122 {D : va_G} {cy : Nat → ClassId} {ad : Nat → Nat} {bs : Nat} {X : State → Heap → Prop} : ∀ (n : Nat) (y0 : Int32) (y1 : Int32) (y2 : Int32) (y3 : Int32) (y4 : Int32) (y5 : t_S) (Q : t_S → Prop) (hk : t_hk (t_loop (b_X13_assign__122) n (y0, y1, y2, y3, y4, y5)) Q), mj_G D cy ad bs X cX13_assign_ 8 yX13_assign_.cls none yX13_assign_.name 1784 0 0 1065 (t_P (fun v s' => v = none ∧ Q (s'))) 122 [(0, .ref 950), (1, .int (y0)), (2, .int (y1)), (3, .int (y2)), (4, .int (y3)), (5, .int (y4))] [] (t_m y5) 1065 0 0 := by
  intro n
  induction n with
  | zero => intro y0 y1 y2 y3 y4 y5 Q hk; obtain ⟨r, hr, _⟩ := hk; cases hr
  | succ n ih =>
    intro y0 y1 y2 y3 y4 y5 Q hk
    exact B_X13_assign__122 y0 y1 y2 y3 y4 y5 (fun y => t_lq (b_X13_assign__122) n Q y) (fun y0' y1' y2' y3' y4' y5' hy => ih y0' y1' y2' y3' y4' y5' Q hy) (t_lp (b := b_X13_assign__122) (n := n) (x := (y0, y1, y2, y3, y4, y5)) hk)
noncomputable def f_X13_assign_ (x1 : Int32) (x2 : Int32) (s : t_S) : Option (t_S) :=
 if t_ix x2 401 = true then
  if (s.1 988 (x2.toNatClampNeg)) = (1 : Int32) then ((f_X13_work (s.1 995 (x2.toNatClampNeg)) s).bind (fun r3 =>
 if (r3.1 950 97) = (0 : Int32) then ((f_X13_checkType (r3.1 991 (x2.toNatClampNeg)) (f_X13_top r3) r3).bind (fun r5 =>
 k_X13_assign__41 x1 x2 r5))
 else (k_X13_assign__41 x1 x2 r3)))
 else (if t_ix (s.1 996 (x2.toNatClampNeg)) 13000 = true then
  t_loop (b_X13_assign__122) t_N (x1, x2, (s.1 996 (x2.toNatClampNeg)), 0, (s.1 959 ((s.1 996 (x2.toNatClampNeg)).toNatClampNeg)), s)
else none)
else none
set_option maxRecDepth 4000 in
set_option maxHeartbeats 1000000 in
theorem C_X13_assign_ (x1 : Int32) (x2 : Int32) (s : t_S) (r : t_S) (hr : f_X13_assign_ x1 x2 s = some r) : t_C yX13_assign_ cX13_assign_ 8 none 1784 [.ref 950, .int x1, .int x2] s (fun v s' => v = none ∧ s' = r) := by
  refine t_C.imp (P := fun v s' => v = none ∧ (fun q => q = r) (s')) (t_C.of (by decide +kernel) (Nat.le_of_ble_eq_true rfl) ?_) (fun v s' hp => hp)
  intro D cy ad bs X
  have hk : t_hk (f_X13_assign_ x1 x2 s) (fun q => q = r) := ⟨r, hr, rfl⟩
  show mj_G D cy ad bs X cX13_assign_ 8 yX13_assign_.cls none yX13_assign_.name 1784 0 0 1065 (t_P (fun v s' => v = none ∧ (fun q => q = r) (s'))) 0 [(0, .ref 950), (1, .int x1), (2, .int x2)] [] (t_m s) 1065 0 0
  refine mj_aload_n dX13_assign__0 0 rfl ?_
  refine t_getR 988 dX13_assign__1 F_X13_126 qr_950_66 ?_
  refine mj_iload_n dX13_assign__4 2 rfl ?_
  refine t_chkK hk (fun c0 hk => ?_)
  refine t_iald dX13_assign__5 qa_988 (t_ixv c0) ?_
  refine mj_iconst (v := 1) dX13_assign__6 (by decide) ?_
  refine mj_icmp_ne 104 dX13_assign__7 (by decide) (fun z => t_negK hk z (fun hk => ?_)) (fun z => t_posK hk z (fun hk => ?_))
  · refine mj_aload_n dX13_assign__104 0 rfl ?_
    refine t_getR 996 dX13_assign__105 F_X13_150 qr_950_74 ?_
    refine mj_iload_n dX13_assign__108 2 rfl ?_
    refine t_iald dX13_assign__109 qa_996 (t_ixv c0) ?_
    refine mj_istore_n 3 (lv2 := [(3, .int (s.1 996 (x2.toNatClampNeg))), (0, .ref 950), (1, .int x1), (2, .int x2)]) dX13_assign__110 rfl (by decide) rfl ?_
    refine mj_iconst (v := 0) dX13_assign__111 (by decide) ?_
    refine mj_istore (lv2 := [(4, .int 0), (3, .int (s.1 996 (x2.toNatClampNeg))), (0, .ref 950), (1, .int x1), (2, .int x2)]) dX13_assign__112 (by decide) rfl ?_
    refine mj_aload_n dX13_assign__114 2 rfl ?_
    refine t_getR 959 dX13_assign__115 F_X13_39 qr_950_21 ?_
    refine mj_iload_n dX13_assign__118 1 rfl ?_
    refine t_chkK hk (fun c1 hk => ?_)
    refine t_iald dX13_assign__119 qa_959 (t_ixv c1) ?_
    refine mj_istore (lv2 := [(5, .int (s.1 959 ((s.1 996 (x2.toNatClampNeg)).toNatClampNeg))), (4, .int 0), (3, .int (s.1 996 (x2.toNatClampNeg))), (0, .ref 950), (1, .int x1), (2, .int x2)]) dX13_assign__120 (by decide) rfl ?_
    refine mj_sublv [(0, .ref 950), (1, .int x1), (2, .int x2), (3, .int (s.1 996 (x2.toNatClampNeg))), (4, .int 0), (5, .int (s.1 959 ((s.1 996 (x2.toNatClampNeg)).toNatClampNeg)))] [3, 4, 5, 2, 1, 0] rfl ?_
    exact LH_X13_assign__122 _ x1 x2 (s.1 996 (x2.toNatClampNeg)) 0 (s.1 959 ((s.1 996 (x2.toNatClampNeg)).toNatClampNeg)) s _ hk
  · refine mj_aload_n dX13_assign__10 0 rfl ?_
    refine mj_aload_n dX13_assign__11 0 rfl ?_
    refine t_getR 995 dX13_assign__12 F_X13_147 qr_950_73 ?_
    refine mj_iload_n dX13_assign__15 2 rfl ?_
    refine t_iald dX13_assign__16 qa_995 (t_ixv c0) ?_
    refine t_bndK hk (fun r3 er3 hk => ?_)
    refine t_callSvE dX13_assign__17 M_X13_work (C_X13_work _ _ _ er3) ML_X13_897 SM_X13_work (As := [.ref 950, .int (s.1 995 (x2.toNatClampNeg))]) rfl rfl (Nat.le_of_ble_eq_true rfl) (Nat.le_of_ble_eq_true rfl) (Nat.le_of_ble_eq_true rfl) (Nat.le_of_ble_eq_true rfl) ?_
    refine mj_aload_n dX13_assign__20 0 rfl ?_
    refine t_getI dX13_assign__21 F_X13_842 qf_950_97 ?_
    refine mj_if_ne 41 dX13_assign__24 (by decide) (fun z => t_negK hk z (fun hk => ?_)) (fun z => t_posK hk z (fun hk => ?_))
    · exact B_X13_assign__41 _ _ _ _ hk
    · refine mj_aload_n dX13_assign__27 0 rfl ?_
      refine mj_aload_n dX13_assign__28 0 rfl ?_
      refine t_getR 991 dX13_assign__29 F_X13_135 qr_950_69 ?_
      refine mj_iload_n dX13_assign__32 2 rfl ?_
      refine t_iald dX13_assign__33 qa_991 (t_ixv c0) ?_
      refine mj_aload_n dX13_assign__34 0 rfl ?_
      refine t_callViP dX13_assign__35 M_X13_top (C_X13_top _) ML_X13_941 IM_X13_top SE_X13_top qc_950 rfl (As := []) rfl rfl (Nat.le_of_ble_eq_true rfl) (Nat.le_of_ble_eq_true rfl) (Nat.le_of_ble_eq_true rfl) (Nat.le_of_ble_eq_true rfl) ?_
      refine t_bndK hk (fun r5 er5 hk => ?_)
      refine t_callVvE dX13_assign__38 M_X13_checkType (C_X13_checkType _ _ _ _ er5) ML_X13_1321 IM_X13_checkType SE_X13_checkType qc_950 rfl (As := [.int (r3.1 991 (x2.toNatClampNeg)), .int (f_X13_top r3)]) rfl rfl (Nat.le_of_ble_eq_true rfl) (Nat.le_of_ble_eq_true rfl) (Nat.le_of_ble_eq_true rfl) (Nat.le_of_ble_eq_true rfl) ?_
      exact B_X13_assign__41 _ _ _ _ hk

theorem dX13_is_0 : decode cX13_is 0 = .ok (.aload_n 0, 1) := by decide +kernel
theorem dX13_is_1 : decode cX13_is 1 = .ok (.getfield 385, 3) := by decide +kernel
theorem dX13_is_12 : decode cX13_is 12 = .ok (.iload_n 1, 1) := by decide +kernel
theorem dX13_is_13 : decode cX13_is 13 = .ok (.if_icmp .ne 7, 3) := by decide +kernel
theorem dX13_is_16 : decode cX13_is 16 = .ok (.iconst 1, 1) := by decide +kernel
theorem dX13_is_17 : decode cX13_is 17 = .ok (.goto 4, 3) := by decide +kernel
theorem dX13_is_20 : decode cX13_is 20 = .ok (.iconst 0, 1) := by decide +kernel
theorem dX13_is_21 : decode cX13_is 21 = .ok (.ireturn, 1) := by decide +kernel
theorem dX13_is_4 : decode cX13_is 4 = .ok (.iconst 4, 1) := by decide +kernel
theorem dX13_is_5 : decode cX13_is 5 = .ok (.if_icmp .ne 15, 3) := by decide +kernel
theorem dX13_is_8 : decode cX13_is 8 = .ok (.aload_n 0, 1) := by decide +kernel
theorem dX13_is_9 : decode cX13_is 9 = .ok (.getfield 438, 3) := by decide +kernel
noncomputable def f_X13_is (x1 : Int32) (s : t_S) : Int32 :=
 if (s.1 950 5) = (4 : Int32) then (if (s.1 950 9) = x1 then ((1 : Int32))
 else ((0 : Int32)))
 else ((0 : Int32))
set_option maxRecDepth 4000 in
set_option maxHeartbeats 1000000 in
theorem C_X13_is (x1 : Int32) (s : t_S) : t_C yX13_is cX13_is 2 (some .boolean) 0 [.ref 950, .int x1] s (fun v s' => v = some (.int (f_X13_is x1 s)) ∧ s' = s) := by
  refine t_C.imp (P := fun v s' => s' = s ∧ ∃ x, v = some (.int x) ∧ (fun r => r = f_X13_is x1 s) (x)) (t_C.of (by decide +kernel) (Nat.le_of_ble_eq_true rfl) ?_) (fun v s' hp => by obtain ⟨rfl, x, rfl, rfl⟩ := hp; exact ⟨rfl, rfl⟩)
  intro D cy ad bs X
  have hk : t_ht (f_X13_is x1 s) (fun r => r = f_X13_is x1 s) := rfl
  show mj_G D cy ad bs X cX13_is 2 yX13_is.cls (some .boolean) yX13_is.name 0 0 0 1065 (t_P (fun v s' => s' = s ∧ ∃ x, v = some (.int x) ∧ (fun r => r = f_X13_is x1 s) (x))) 0 [(0, .ref 950), (1, .int x1)] [] (t_m s) 1065 0 0
  refine mj_aload_n dX13_is_0 0 rfl ?_
  refine t_getI dX13_is_1 F_X13_385 qf_950_5 ?_
  refine mj_iconst (v := 4) dX13_is_4 (by decide) ?_
  refine mj_icmp_ne 20 dX13_is_5 (by decide) (fun z => t_negTK hk z (fun hk => ?_)) (fun z => t_posTK hk z (fun hk => ?_))
  · refine mj_iconst (v := 0) dX13_is_20 (by decide) ?_
    exact t_iret dX13_is_21 rfl (by decide) ⟨rfl, _, rfl, hk⟩ (Nat.le_of_ble_eq_true rfl) (Nat.le_of_ble_eq_true rfl)
  · refine mj_aload_n dX13_is_8 0 rfl ?_
    refine t_getI dX13_is_9 F_X13_438 qf_950_9 ?_
    refine mj_iload_n dX13_is_12 1 rfl ?_
    refine mj_icmp_ne 20 dX13_is_13 (by decide) (fun z => t_negTK hk z (fun hk => ?_)) (fun z => t_posTK hk z (fun hk => ?_))
    · refine mj_iconst (v := 0) dX13_is_20 (by decide) ?_
      exact t_iret dX13_is_21 rfl (by decide) ⟨rfl, _, rfl, hk⟩ (Nat.le_of_ble_eq_true rfl) (Nat.le_of_ble_eq_true rfl)
    · refine mj_iconst (v := 1) dX13_is_16 (by decide) ?_
      refine mj_goto 21 dX13_is_17 (by decide) ?_
      exact t_iret dX13_is_21 rfl (by decide) ⟨rfl, _, rfl, hk⟩ (Nat.le_of_ble_eq_true rfl) (Nat.le_of_ble_eq_true rfl)

theorem dX13_beginsExp_0 : decode cX13_beginsExp 0 = .ok (.aload_n 0, 1) := by decide +kernel
theorem dX13_beginsExp_1 : decode cX13_beginsExp 1 = .ok (.getfield 385, 3) := by decide +kernel
theorem dX13_beginsExp_100 : decode cX13_beginsExp 100 = .ok (.aload_n 0, 1) := by decide +kernel
theorem dX13_beginsExp_101 : decode cX13_beginsExp 101 = .ok (.bipush 123, 2) := by decide +kernel
theorem dX13_beginsExp_103 : decode cX13_beginsExp 103 = .ok (.invokevirtual 449, 3) := by decide +kernel
theorem dX13_beginsExp_106 : decode cX13_beginsExp 106 = .ok (.ifCond .ne 21, 3) := by decide +kernel
theorem dX13_beginsExp_109 : decode cX13_beginsExp 109 = .ok (.aload_n 0, 1) := by decide +kernel
theorem dX13_beginsExp_110 : decode cX13_beginsExp 110 = .ok (.bipush 91, 2) := by decide +kernel
theorem dX13_beginsExp_112 : decode cX13_beginsExp 112 = .ok (.invokevirtual 449, 3) := by decide +kernel
theorem dX13_beginsExp_115 : decode cX13_beginsExp 115 = .ok (.ifCond .ne 12, 3) := by decide +kernel
theorem dX13_beginsExp_118 : decode cX13_beginsExp 118 = .ok (.aload_n 0, 1) := by decide +kernel
theorem dX13_beginsExp_119 : decode cX13_beginsExp 119 = .ok (.bipush 40, 2) := by decide +kernel
theorem dX13_beginsExp_12 : decode cX13_beginsExp 12 = .ok (.iconst 3, 1) := by decide +kernel
theorem dX13_beginsExp_121 : decode cX13_beginsExp 121 = .ok (.invokevirtual 449, 3) := by decide +kernel
theorem dX13_beginsExp_124 : decode cX13_beginsExp 124 = .ok (.ifCond .eq 7, 3) := by decide +kernel
theorem dX13_beginsExp_127 : decode cX13_beginsExp 127 = .ok (.iconst 1, 1) := by decide +kernel
theorem dX13_beginsExp_128 : decode cX13_beginsExp 128 = .ok (.goto 4, 3) := by decide +kernel
theorem dX13_beginsExp_13 : decode cX13_beginsExp 13 = .ok (.if_icmp .ne 5, 3) := by decide +kernel
theorem dX13_beginsExp_131 : decode cX13_beginsExp 131 = .ok (.iconst 0, 1) := by decide +kernel
theorem dX13_beginsExp_132 : decode cX13_beginsExp 132 = .ok (.ireturn, 1) := by decide +kernel
theorem dX13_beginsExp_16 : decode cX13_beginsExp 16 = .ok (.iconst 1, 1) := by decide +kernel
theorem dX13_beginsExp_17 : decode cX13_beginsExp 17 = .ok (.ireturn, 1) := by decide +kernel
theorem dX13_beginsExp_18 : decode cX13_beginsExp 18 = .ok (.aload_n 0, 1) := by decide +kernel
theorem dX13_beginsExp_19 : decode cX13_beginsExp 19 = .ok (.getfield 385, 3) := by decide +kernel
theorem dX13_beginsExp_22 : decode cX13_beginsExp 22 = .ok (.iconst 1, 1) := by decide +kernel
theorem dX13_beginsExp_23 : decode cX13_beginsExp 23 = .ok (.if_icmp .ne 50, 3) := by decide +kernel
theorem dX13_beginsExp_26 : decode cX13_beginsExp 26 = .ok (.aload_n 0, 1) := by decide +kernel
theorem dX13_beginsExp_27 : decode cX13_beginsExp 27 = .ok (.getfield 397, 3) := by decide +kernel
theorem dX13_beginsExp_30 : decode cX13_beginsExp 30 = .ok (.ifCond .lt 37, 3) := by decide +kernel
theorem dX13_beginsExp_33 : decode cX13_beginsExp 33 = .ok (.aload_n 0, 1) := by decide +kernel
theorem dX13_beginsExp_34 : decode cX13_beginsExp 34 = .ok (.getfield 397, 3) := by decide +kernel
theorem dX13_beginsExp_37 : decode cX13_beginsExp 37 = .ok (.i2l, 1) := by decide +kernel
theorem dX13_beginsExp_38 : decode cX13_beginsExp 38 = .ok (.ldc2_w 542, 3) := by decide +kernel
theorem dX13_beginsExp_4 : decode cX13_beginsExp 4 = .ok (.iconst 2, 1) := by decide +kernel
theorem dX13_beginsExp_41 : decode cX13_beginsExp 41 = .ok (.ldc2_w 544, 3) := by decide +kernel
theorem dX13_beginsExp_44 : decode cX13_beginsExp 44 = .ok (.invokestatic 371, 3) := by decide +kernel
theorem dX13_beginsExp_47 : decode cX13_beginsExp 47 = .ok (.ifCond .ne 20, 3) := by decide +kernel
theorem dX13_beginsExp_5 : decode cX13_beginsExp 5 = .ok (.if_icmp .eq 11, 3) := by decide +kernel
theorem dX13_beginsExp_50 : decode cX13_beginsExp 50 = .ok (.aload_n 0, 1) := by decide +kernel
theorem dX13_beginsExp_51 : decode cX13_beginsExp 51 = .ok (.getfield 397, 3) := by decide +kernel
theorem dX13_beginsExp_54 : decode cX13_beginsExp 54 = .ok (.i2l, 1) := by decide +kernel
theorem dX13_beginsExp_55 : decode cX13_beginsExp 55 = .ok (.ldc2_w 546, 3) := by decide +kernel
theorem dX13_beginsExp_58 : decode cX13_beginsExp 58 = .ok (.ldc2_w 548, 3) := by decide +kernel
theorem dX13_beginsExp_61 : decode cX13_beginsExp 61 = .ok (.invokestatic 371, 3) := by decide +kernel
theorem dX13_beginsExp_64 : decode cX13_beginsExp 64 = .ok (.ifCond .eq 7, 3) := by decide +kernel
theorem dX13_beginsExp_67 : decode cX13_beginsExp 67 = .ok (.iconst 1, 1) := by decide +kernel
theorem dX13_beginsExp_68 : decode cX13_beginsExp 68 = .ok (.goto 4, 3) := by decide +kernel
theorem dX13_beginsExp_71 : decode cX13_beginsExp 71 = .ok (.iconst 0, 1) := by decide +kernel
theorem dX13_beginsExp_72 : decode cX13_beginsExp 72 = .ok (.ireturn, 1) := by decide +kernel
theorem dX13_beginsExp_73 : decode cX13_beginsExp 73 = .ok (.aload_n 0, 1) := by decide +kernel
theorem dX13_beginsExp_74 : decode cX13_beginsExp 74 = .ok (.bipush 45, 2) := by decide +kernel
theorem dX13_beginsExp_76 : decode cX13_beginsExp 76 = .ok (.invokevirtual 449, 3) := by decide +kernel
theorem dX13_beginsExp_79 : decode cX13_beginsExp 79 = .ok (.ifCond .ne 48, 3) := by decide +kernel
theorem dX13_beginsExp_8 : decode cX13_beginsExp 8 = .ok (.aload_n 0, 1) := by decide +kernel
theorem dX13_beginsExp_82 : decode cX13_beginsExp 82 = .ok (.aload_n 0, 1) := by decide +kernel
theorem dX13_beginsExp_83 : decode cX13_beginsExp 83 = .ok (.bipush 33, 2) := by decide +kernel
theorem dX13_beginsExp_85 : decode cX13_beginsExp 85 = .ok (.invokevirtual 449, 3) := by decide +kernel
theorem dX13_beginsExp_88 : decode cX13_beginsExp 88 = .ok (.ifCond .ne 39, 3) := by decide +kernel
theorem dX13_beginsExp_9 : decode cX13_beginsExp 9 = .ok (.getfield 385, 3) := by decide +kernel
theorem dX13_beginsExp_91 : decode cX13_beginsExp 91 = .ok (.aload_n 0, 1) := by decide +kernel
theorem dX13_beginsExp_92 : decode cX13_beginsExp 92 = .ok (.bipush 64, 2) := by decide +kernel
theorem dX13_beginsExp_94 : decode cX13_beginsExp 94 = .ok (.invokevirtual 449, 3) := by decide +kernel
theorem dX13_beginsExp_97 : decode cX13_beginsExp 97 = .ok (.ifCond .ne 30, 3) := by decide +kernel
noncomputable def k_X13_beginsExp_67 (s : t_S) : Int32 :=
 (1 : Int32)
set_option maxRecDepth 4000 in
set_option maxHeartbeats 1000000 in
theorem B_X13_beginsExp_67 {D : va_G} {cy : Nat → ClassId} {ad : Nat → Nat} {bs : Nat} {X : State → Heap → Prop} (s : t_S) (Q : Int32 → Prop) (hk : t_ht (k_X13_beginsExp_67 s) Q) : mj_G D cy ad bs X cX13_beginsExp 1 yX13_beginsExp.cls (some .boolean) yX13_beginsExp.name 1 0 0 1065 (t_P (fun v s' => s' = s ∧ ∃ x, v = some (.int x) ∧ Q (x))) 67 [] [] (t_m s) 1065 0 0 := by
  refine mj_iconst (v := 1) dX13_beginsExp_67 (by decide) ?_
  refine mj_goto 72 dX13_beginsExp_68 (by decide) ?_
  exact t_iret dX13_beginsExp_72 rfl (by decide) ⟨rfl, _, rfl, hk⟩ (Nat.le_of_ble_eq_true rfl) (Nat.le_of_ble_eq_true rfl)
noncomputable def k_X13_beginsExp_127 (s : t_S) : Int32 :=
 (1 : Int32)
set_option maxRecDepth 4000 in
set_option maxHeartbeats 1000000 in
theorem B_X13_beginsExp_127 {D : va_G} {cy : Nat → ClassId} {ad : Nat → Nat} {bs : Nat} {X : State → Heap → Prop} (s : t_S) (Q : Int32 → Prop) (hk : t_ht (k_X13_beginsExp_127 s) Q) : mj_G D cy ad bs X cX13_beginsExp 1 yX13_beginsExp.cls (some .boolean) yX13_beginsExp.name 1 0 0 1065 (t_P (fun v s' => s' = s ∧ ∃ x, v = some (.int x) ∧ Q (x))) 127 [] [] (t_m s) 1065 0 0 := by
  refine mj_iconst (v := 1) dX13_beginsExp_127 (by decide) ?_
  refine mj_goto 132 dX13_beginsExp_128 (by decide) ?_
  exact t_iret dX13_beginsExp_132 rfl (by decide) ⟨rfl, _, rfl, hk⟩ (Nat.le_of_ble_eq_true rfl) (Nat.le_of_ble_eq_true rfl)
noncomputable def f_X13_beginsExp (s : t_S) : Int32 :=
 if (s.1 950 5) = (2 : Int32) then ((1 : Int32))
 else (if (s.1 950 5) = (3 : Int32) then ((1 : Int32))
 else (if (s.1 950 5) = (1 : Int32) then (if (s.1 950 10) < (0 : Int32) then (k_X13_beginsExp_67 s)
 else (if (f_X13_in ((s.1 950 10).toInt64) (21 : Int64) (23 : Int64) s) = (0 : Int32) then (if (f_X13_in ((s.1 950 10).toInt64) (30 : Int64) (36 : Int64) s) = (0 : Int32) then ((0 : Int32))
 else (k_X13_beginsExp_67 s))
 else (k_X13_beginsExp_67 s)))
 else (if (f_X13_is (45 : Int32) s) = (0 : Int32) then (if (f_X13_is (33 : Int32) s) = (0 : Int32) then (if (f_X13_is (64 : Int32) s) = (0 : Int32) then (if (f_X13_is (123 : Int32) s) = (0 : Int32) then (if (f_X13_is (91 : Int32) s) = (0 : Int32) then (if (f_X13_is (40 : Int32) s) = (0 : Int32) then ((0 : Int32))
 else (k_X13_beginsExp_127 s))
 else (k_X13_beginsExp_127 s))
 else (k_X13_beginsExp_127 s))
 else (k_X13_beginsExp_127 s))
 else (k_X13_beginsExp_127 s))
 else (k_X13_beginsExp_127 s))))
set_option maxRecDepth 4000 in
set_option maxHeartbeats 1000000 in
theorem C_X13_beginsExp (s : t_S) : t_C yX13_beginsExp cX13_beginsExp 1 (some .boolean) 1 [.ref 950] s (fun v s' => v = some (.int (f_X13_beginsExp s)) ∧ s' = s) := by
  refine t_C.imp (P := fun v s' => s' = s ∧ ∃ x, v = some (.int x) ∧ (fun r => r = f_X13_beginsExp s) (x)) (t_C.of (by decide +kernel) (Nat.le_of_ble_eq_true rfl) ?_) (fun v s' hp => by obtain ⟨rfl, x, rfl, rfl⟩ := hp; exact ⟨rfl, rfl⟩)
  intro D cy ad bs X
  have hk : t_ht (f_X13_beginsExp s) (fun r => r = f_X13_beginsExp s) := rfl
  show mj_G D cy ad bs X cX13_beginsExp 1 yX13_beginsExp.cls (some .boolean) yX13_beginsExp.name 1 0 0 1065 (t_P (fun v s' => s' = s ∧ ∃ x, v = some (.int x) ∧ (fun r => r = f_X13_beginsExp s) (x))) 0 [(0, .ref 950)] [] (t_m s) 1065 0 0
  refine mj_aload_n dX13_beginsExp_0 0 rfl ?_
  refine t_getI dX13_beginsExp_1 F_X13_385 qf_950_5 ?_
  refine mj_iconst (v := 2) dX13_beginsExp_4 (by decide) ?_
  refine mj_icmp_eq 16 dX13_beginsExp_5 (by decide) (fun z => t_posTK hk z (fun hk => ?_)) (fun z => t_negTK hk z (fun hk => ?_))
  · refine mj_iconst (v := 1) dX13_beginsExp_16 (by decide) ?_
    exact t_iret dX13_beginsExp_17 rfl (by decide) ⟨rfl, _, rfl, hk⟩ (Nat.le_of_ble_eq_true rfl) (Nat.le_of_ble_eq_true rfl)
  · refine mj_aload_n dX13_beginsExp_8 0 rfl ?_
    refine t_getI dX13_beginsExp_9 F_X13_385 qf_950_5 ?_
    refine mj_iconst (v := 3) dX13_beginsExp_12 (by decide) ?_
    refine mj_icmp_ne 18 dX13_beginsExp_13 (by decide) (fun z => t_negTK hk z (fun hk => ?_)) (fun z => t_posTK hk z (fun hk => ?_))
    · refine mj_aload_n dX13_beginsExp_18 0 rfl ?_
      refine t_getI dX13_beginsExp_19 F_X13_385 qf_950_5 ?_
      refine mj_iconst (v := 1) dX13_beginsExp_22 (by decide) ?_
      refine mj_icmp_ne 73 dX13_beginsExp_23 (by decide) (fun z => t_negTK hk z (fun hk => ?_)) (fun z => t_posTK hk z (fun hk => ?_))
      · refine mj_aload_n dX13_beginsExp_73 0 rfl ?_
        refine mj_bipush (v := 45) dX13_beginsExp_74 (by decide) ?_
        refine t_callViP dX13_beginsExp_76 M_X13_is (C_X13_is _ _) ML_X13_449 IM_X13_is SE_X13_is qc_950 rfl (As := [.int 45]) rfl rfl (Nat.le_of_ble_eq_true rfl) (Nat.le_of_ble_eq_true rfl) (Nat.le_of_ble_eq_true rfl) (Nat.le_of_ble_eq_true rfl) ?_
        refine mj_if_ne 127 dX13_beginsExp_79 (by decide) (fun z => t_negTK hk z (fun hk => ?_)) (fun z => t_posTK hk z (fun hk => ?_))
        · refine mj_sublv [] [] rfl ?_
          exact B_X13_beginsExp_127 _ _ hk
        · refine mj_aload_n dX13_beginsExp_82 0 rfl ?_
          refine mj_bipush (v := 33) dX13_beginsExp_83 (by decide) ?_
          refine t_callViP dX13_beginsExp_85 M_X13_is (C_X13_is _ _) ML_X13_449 IM_X13_is SE_X13_is qc_950 rfl (As := [.int 33]) rfl rfl (Nat.le_of_ble_eq_true rfl) (Nat.le_of_ble_eq_true rfl) (Nat.le_of_ble_eq_true rfl) (Nat.le_of_ble_eq_true rfl) ?_
          refine mj_if_ne 127 dX13_beginsExp_88 (by decide) (fun z => t_negTK hk z (fun hk => ?_)) (fun z => t_posTK hk z (fun hk => ?_))
          · refine mj_sublv [] [] rfl ?_
            exact B_X13_beginsExp_127 _ _ hk
          · refine mj_aload_n dX13_beginsExp_91 0 rfl ?_
            refine mj_bipush (v := 64) dX13_beginsExp_92 (by decide) ?_
            refine t_callViP dX13_beginsExp_94 M_X13_is (C_X13_is _ _) ML_X13_449 IM_X13_is SE_X13_is qc_950 rfl (As := [.int 64]) rfl rfl (Nat.le_of_ble_eq_true rfl) (Nat.le_of_ble_eq_true rfl) (Nat.le_of_ble_eq_true rfl) (Nat.le_of_ble_eq_true rfl) ?_
            refine mj_if_ne 127 dX13_beginsExp_97 (by decide) (fun z => t_negTK hk z (fun hk => ?_)) (fun z => t_posTK hk z (fun hk => ?_))
            · refine mj_sublv [] [] rfl ?_
              exact B_X13_beginsExp_127 _ _ hk
            · refine mj_aload_n dX13_beginsExp_100 0 rfl ?_
              refine mj_bipush (v := 123) dX13_beginsExp_101 (by decide) ?_
              refine t_callViP dX13_beginsExp_103 M_X13_is (C_X13_is _ _) ML_X13_449 IM_X13_is SE_X13_is qc_950 rfl (As := [.int 123]) rfl rfl (Nat.le_of_ble_eq_true rfl) (Nat.le_of_ble_eq_true rfl) (Nat.le_of_ble_eq_true rfl) (Nat.le_of_ble_eq_true rfl) ?_
              refine mj_if_ne 127 dX13_beginsExp_106 (by decide) (fun z => t_negTK hk z (fun hk => ?_)) (fun z => t_posTK hk z (fun hk => ?_))
              · refine mj_sublv [] [] rfl ?_
                exact B_X13_beginsExp_127 _ _ hk
              · refine mj_aload_n dX13_beginsExp_109 0 rfl ?_
                refine mj_bipush (v := 91) dX13_beginsExp_110 (by decide) ?_
                refine t_callViP dX13_beginsExp_112 M_X13_is (C_X13_is _ _) ML_X13_449 IM_X13_is SE_X13_is qc_950 rfl (As := [.int 91]) rfl rfl (Nat.le_of_ble_eq_true rfl) (Nat.le_of_ble_eq_true rfl) (Nat.le_of_ble_eq_true rfl) (Nat.le_of_ble_eq_true rfl) ?_
                refine mj_if_ne 127 dX13_beginsExp_115 (by decide) (fun z => t_negTK hk z (fun hk => ?_)) (fun z => t_posTK hk z (fun hk => ?_))
                · refine mj_sublv [] [] rfl ?_
                  exact B_X13_beginsExp_127 _ _ hk
                · refine mj_aload_n dX13_beginsExp_118 0 rfl ?_
                  refine mj_bipush (v := 40) dX13_beginsExp_119 (by decide) ?_
                  refine t_callViP dX13_beginsExp_121 M_X13_is (C_X13_is _ _) ML_X13_449 IM_X13_is SE_X13_is qc_950 rfl (As := [.int 40]) rfl rfl (Nat.le_of_ble_eq_true rfl) (Nat.le_of_ble_eq_true rfl) (Nat.le_of_ble_eq_true rfl) (Nat.le_of_ble_eq_true rfl) ?_
                  refine mj_if_eq 131 dX13_beginsExp_124 (by decide) (fun z => t_posTK hk z (fun hk => ?_)) (fun z => t_negTK hk z (fun hk => ?_))
                  · refine mj_iconst (v := 0) dX13_beginsExp_131 (by decide) ?_
                    exact t_iret dX13_beginsExp_132 rfl (by decide) ⟨rfl, _, rfl, hk⟩ (Nat.le_of_ble_eq_true rfl) (Nat.le_of_ble_eq_true rfl)
                  · refine mj_sublv [] [] rfl ?_
                    exact B_X13_beginsExp_127 _ _ hk
      · refine mj_aload_n dX13_beginsExp_26 0 rfl ?_
        refine t_getI dX13_beginsExp_27 F_X13_397 qf_950_10 ?_
        refine mj_if_lt 67 dX13_beginsExp_30 (by decide) (fun z => t_posTK hk z (fun hk => ?_)) (fun z => t_negTK hk z (fun hk => ?_))
        · refine mj_sublv [] [] rfl ?_
          exact B_X13_beginsExp_67 _ _ hk
        · refine mj_aload_n dX13_beginsExp_33 0 rfl ?_
          refine t_getI dX13_beginsExp_34 F_X13_397 qf_950_10 ?_
          refine mj_i2l (v := (s.1 950 10).toInt64) dX13_beginsExp_37 rfl ?_
          refine mj_ldc2 dX13_beginsExp_38 K_X13_542 ?_
          refine mj_ldc2 dX13_beginsExp_41 K_X13_544 ?_
          refine t_callSiP dX13_beginsExp_44 M_X13_in (C_X13_in _ _ _ _) ML_X13_371 SM_X13_in (As := [.long ((s.1 950 10).toInt64), .long 21, .long 23]) rfl rfl (Nat.le_of_ble_eq_true rfl) (Nat.le_of_ble_eq_true rfl) (Nat.le_of_ble_eq_true rfl) (Nat.le_of_ble_eq_true rfl) ?_
          refine mj_if_ne 67 dX13_beginsExp_47 (by decide) (fun z => t_negTK hk z (fun hk => ?_)) (fun z => t_posTK hk z (fun hk => ?_))
          · refine mj_sublv [] [] rfl ?_
            exact B_X13_beginsExp_67 _ _ hk
          · refine mj_aload_n dX13_beginsExp_50 0 rfl ?_
            refine t_getI dX13_beginsExp_51 F_X13_397 qf_950_10 ?_
            refine mj_i2l (v := (s.1 950 10).toInt64) dX13_beginsExp_54 rfl ?_
            refine mj_ldc2 dX13_beginsExp_55 K_X13_546 ?_
            refine mj_ldc2 dX13_beginsExp_58 K_X13_548 ?_
            refine t_callSiP dX13_beginsExp_61 M_X13_in (C_X13_in _ _ _ _) ML_X13_371 SM_X13_in (As := [.long ((s.1 950 10).toInt64), .long 30, .long 36]) rfl rfl (Nat.le_of_ble_eq_true rfl) (Nat.le_of_ble_eq_true rfl) (Nat.le_of_ble_eq_true rfl) (Nat.le_of_ble_eq_true rfl) ?_
            refine mj_if_eq 71 dX13_beginsExp_64 (by decide) (fun z => t_posTK hk z (fun hk => ?_)) (fun z => t_negTK hk z (fun hk => ?_))
            · refine mj_iconst (v := 0) dX13_beginsExp_71 (by decide) ?_
              exact t_iret dX13_beginsExp_72 rfl (by decide) ⟨rfl, _, rfl, hk⟩ (Nat.le_of_ble_eq_true rfl) (Nat.le_of_ble_eq_true rfl)
            · refine mj_sublv [] [] rfl ?_
              exact B_X13_beginsExp_67 _ _ hk
    · refine mj_iconst (v := 1) dX13_beginsExp_16 (by decide) ?_
      exact t_iret dX13_beginsExp_17 rfl (by decide) ⟨rfl, _, rfl, hk⟩ (Nat.le_of_ble_eq_true rfl) (Nat.le_of_ble_eq_true rfl)

theorem dX13_lastOf_0 : decode cX13_lastOf 0 = .ok (.aload_n 0, 1) := by decide +kernel
theorem dX13_lastOf_1 : decode cX13_lastOf 1 = .ok (.getfield 39, 3) := by decide +kernel
theorem dX13_lastOf_11 : decode cX13_lastOf 11 = .ok (.aload_n 0, 1) := by decide +kernel
theorem dX13_lastOf_12 : decode cX13_lastOf 12 = .ok (.getfield 42, 3) := by decide +kernel
theorem dX13_lastOf_15 : decode cX13_lastOf 15 = .ok (.iload_n 2, 1) := by decide +kernel
theorem dX13_lastOf_16 : decode cX13_lastOf 16 = .ok (.iaload, 1) := by decide +kernel
theorem dX13_lastOf_17 : decode cX13_lastOf 17 = .ok (.ifCond .lt 13, 3) := by decide +kernel
theorem dX13_lastOf_20 : decode cX13_lastOf 20 = .ok (.aload_n 0, 1) := by decide +kernel
theorem dX13_lastOf_21 : decode cX13_lastOf 21 = .ok (.getfield 42, 3) := by decide +kernel
theorem dX13_lastOf_24 : decode cX13_lastOf 24 = .ok (.iload_n 2, 1) := by decide +kernel
theorem dX13_lastOf_25 : decode cX13_lastOf 25 = .ok (.iaload, 1) := by decide +kernel
theorem dX13_lastOf_26 : decode cX13_lastOf 26 = .ok (.istore_n 2, 1) := by decide +kernel
theorem dX13_lastOf_27 : decode cX13_lastOf 27 = .ok (.goto (-20), 3) := by decide +kernel
theorem dX13_lastOf_30 : decode cX13_lastOf 30 = .ok (.iload_n 2, 1) := by decide +kernel
theorem dX13_lastOf_31 : decode cX13_lastOf 31 = .ok (.ireturn, 1) := by decide +kernel
theorem dX13_lastOf_4 : decode cX13_lastOf 4 = .ok (.iload_n 1, 1) := by decide +kernel
theorem dX13_lastOf_5 : decode cX13_lastOf 5 = .ok (.iaload, 1) := by decide +kernel
theorem dX13_lastOf_6 : decode cX13_lastOf 6 = .ok (.istore_n 2, 1) := by decide +kernel
theorem dX13_lastOf_7 : decode cX13_lastOf 7 = .ok (.iload_n 2, 1) := by decide +kernel
theorem dX13_lastOf_8 : decode cX13_lastOf 8 = .ok (.ifCond .lt 22, 3) := by decide +kernel
noncomputable def k_X13_lastOf_7 (l2 : Int32) (s : t_S) : Option ((Int32) ⊕ (Int32)) :=
 if l2 < (0 : Int32) then ((some (l2)).map Sum.inr)
 else (if t_ix l2 13000 = true then
  if (s.1 960 (l2.toNatClampNeg)) < (0 : Int32) then ((some (l2)).map Sum.inr)
 else (some (.inl (s.1 960 (l2.toNatClampNeg))))
else none)
set_option maxRecDepth 4000 in
set_option maxHeartbeats 1000000 in
theorem B_X13_lastOf_7 {D : va_G} {cy : Nat → ClassId} {ad : Nat → Nat} {bs : Nat} {X : State → Heap → Prop} (l2 : Int32) (s : t_S) (Q : (Int32) ⊕ (Int32) → Prop) (Hb7 : ∀ (y0 : Int32), Q (.inl y0) → mj_G D cy ad bs X cX13_lastOf 3 yX13_lastOf.cls (some .int) yX13_lastOf.name 0 0 0 1065 (t_P (fun v s' => s' = s ∧ ∃ x, v = some (.int x) ∧ Q (.inr (x)))) 7 [(0, .ref 950), (2, .int (y0))] [] (t_m s) 1065 0 0) (hk : t_hk (k_X13_lastOf_7 l2 s) Q) : mj_G D cy ad bs X cX13_lastOf 3 yX13_lastOf.cls (some .int) yX13_lastOf.name 0 0 0 1065 (t_P (fun v s' => s' = s ∧ ∃ x, v = some (.int x) ∧ Q (.inr (x)))) 7 [(0, .ref 950), (2, .int l2)] [] (t_m s) 1065 0 0 := by
  refine mj_iload_n dX13_lastOf_7 1 rfl ?_
  refine mj_if_lt 30 dX13_lastOf_8 (by decide) (fun z => t_posK hk z (fun hk => ?_)) (fun z => t_negK hk z (fun hk => ?_))
  · refine t_mapK hk (fun hk => ?_)
    refine mj_iload_n dX13_lastOf_30 1 rfl ?_
    exact t_somK hk (fun hf => t_iret dX13_lastOf_31 rfl rfl ⟨rfl, _, rfl, hf⟩ (Nat.le_of_ble_eq_true rfl) (Nat.le_of_ble_eq_true rfl))
  · refine mj_aload_n dX13_lastOf_11 0 rfl ?_
    refine t_getR 960 dX13_lastOf_12 F_X13_42 qr_950_22 ?_
    refine mj_iload_n dX13_lastOf_15 1 rfl ?_
    refine t_chkK hk (fun c0 hk => ?_)
    refine t_iald dX13_lastOf_16 qa_960 (t_ixv c0) ?_
    refine mj_if_lt 30 dX13_lastOf_17 (by decide) (fun z => t_posK hk z (fun hk => ?_)) (fun z => t_negK hk z (fun hk => ?_))
    · refine t_mapK hk (fun hk => ?_)
      refine mj_iload_n dX13_lastOf_30 1 rfl ?_
      exact t_somK hk (fun hf => t_iret dX13_lastOf_31 rfl rfl ⟨rfl, _, rfl, hf⟩ (Nat.le_of_ble_eq_true rfl) (Nat.le_of_ble_eq_true rfl))
    · refine mj_aload_n dX13_lastOf_20 0 rfl ?_
      refine t_getR 960 dX13_lastOf_21 F_X13_42 qr_950_22 ?_
      refine mj_iload_n dX13_lastOf_24 1 rfl ?_
      refine t_iald dX13_lastOf_25 qa_960 (t_ixv c0) ?_
      refine mj_istore_n 2 (lv2 := [(2, .int (s.1 960 (l2.toNatClampNeg))), (0, .ref 950)]) dX13_lastOf_26 rfl (by decide) rfl ?_
      refine mj_goto 7 dX13_lastOf_27 (by decide) ?_
      refine mj_sublv [(0, .ref 950), (2, .int (s.1 960 (l2.toNatClampNeg)))] [1, 0] rfl ?_
      exact t_somK hk (fun hf => Hb7 (s.1 960 (l2.toNatClampNeg)) hf)
noncomputable def b_X13_lastOf_7 (s : t_S) (x : Int32) : Option ((Int32) ⊕ (Int32)) := k_X13_lastOf_7 x s
set_option maxRecDepth 4000 in
set_option maxHeartbeats 1000000 in
theorem LH_X13_lastOf_7 {D : va_G} {cy : Nat → ClassId} {ad : Nat → Nat} {bs : Nat} {X : State → Heap → Prop} (s : t_S) : ∀ (n : Nat) (y0 : Int32) (Q : Int32 → Prop) (hk : t_hk (t_loop (b_X13_lastOf_7 s) n y0) Q), mj_G D cy ad bs X cX13_lastOf 3 yX13_lastOf.cls (some .int) yX13_lastOf.name 0 0 0 1065 (t_P (fun v s' => s' = s ∧ ∃ x, v = some (.int x) ∧ Q (x))) 7 [(0, .ref 950), (2, .int (y0))] [] (t_m s) 1065 0 0 := by
  intro n
  induction n with
  | zero => intro y0 Q hk; obtain ⟨r, hr, _⟩ := hk; cases hr
  | succ n ih =>
    intro y0 Q hk
    exact B_X13_lastOf_7 y0 s (fun y => t_lq (b_X13_lastOf_7 s) n Q y) (fun y0' hy => ih y0' Q hy) (t_lp (b := b_X13_lastOf_7 s) (n := n) (x := y0) hk)
noncomputable def f_X13_lastOf (x1 : Int32) (s : t_S) : Option (Int32) :=
 if t_ix x1 13000 = true then
  t_loop (b_X13_lastOf_7 s) t_N (s.1 959 (x1.toNatClampNeg))
else none
set_option maxRecDepth 4000 in
set_option maxHeartbeats 1000000 in
theorem C_X13_lastOf (x1 : Int32) (s : t_S) (r : Int32) (hr : f_X13_lastOf x1 s = some r) : t_C yX13_lastOf cX13_lastOf 3 (some .int) 0 [.ref 950, .int x1] s (fun v s' => v = some (.int r) ∧ s' = s) := by
  refine t_C.imp (P := fun v s' => s' = s ∧ ∃ x, v = some (.int x) ∧ (fun q => q = r) (x)) (t_C.of (by decide +kernel) (Nat.le_of_ble_eq_true rfl) ?_) (fun v s' hp => by obtain ⟨rfl, x, rfl, rfl⟩ := hp; exact ⟨rfl, rfl⟩)
  intro D cy ad bs X
  have hk : t_hk (f_X13_lastOf x1 s) (fun q => q = r) := ⟨r, hr, rfl⟩
  show mj_G D cy ad bs X cX13_lastOf 3 yX13_lastOf.cls (some .int) yX13_lastOf.name 0 0 0 1065 (t_P (fun v s' => s' = s ∧ ∃ x, v = some (.int x) ∧ (fun q => q = r) (x))) 0 [(0, .ref 950), (1, .int x1)] [] (t_m s) 1065 0 0
  refine mj_aload_n dX13_lastOf_0 0 rfl ?_
  refine t_getR 959 dX13_lastOf_1 F_X13_39 qr_950_21 ?_
  refine mj_iload_n dX13_lastOf_4 1 rfl ?_
  refine t_chkK hk (fun c0 hk => ?_)
  refine t_iald dX13_lastOf_5 qa_959 (t_ixv c0) ?_
  refine mj_istore_n 2 (lv2 := [(2, .int (s.1 959 (x1.toNatClampNeg))), (0, .ref 950), (1, .int x1)]) dX13_lastOf_6 rfl (by decide) rfl ?_
  refine mj_sublv [(0, .ref 950), (2, .int (s.1 959 (x1.toNatClampNeg)))] [1, 0] rfl ?_
  exact LH_X13_lastOf_7 _ _ (s.1 959 (x1.toNatClampNeg)) _ hk

theorem dX13_hang_0 : decode cX13_hang 0 = .ok (.aload_n 0, 1) := by decide +kernel
theorem dX13_hang_1 : decode cX13_hang 1 = .ok (.getfield 375, 3) := by decide +kernel
theorem dX13_hang_10 : decode cX13_hang 10 = .ok (.invokevirtual 482, 3) := by decide +kernel
theorem dX13_hang_13 : decode cX13_hang 13 = .ok (.istore_n 3, 1) := by decide +kernel
theorem dX13_hang_14 : decode cX13_hang 14 = .ok (.iload_n 3, 1) := by decide +kernel
theorem dX13_hang_15 : decode cX13_hang 15 = .ok (.ifCond .ge 13, 3) := by decide +kernel
theorem dX13_hang_18 : decode cX13_hang 18 = .ok (.aload_n 0, 1) := by decide +kernel
theorem dX13_hang_19 : decode cX13_hang 19 = .ok (.getfield 39, 3) := by decide +kernel
theorem dX13_hang_22 : decode cX13_hang 22 = .ok (.iload_n 1, 1) := by decide +kernel
theorem dX13_hang_23 : decode cX13_hang 23 = .ok (.iload_n 2, 1) := by decide +kernel
theorem dX13_hang_24 : decode cX13_hang 24 = .ok (.iastore, 1) := by decide +kernel
theorem dX13_hang_25 : decode cX13_hang 25 = .ok (.goto 10, 3) := by decide +kernel
theorem dX13_hang_28 : decode cX13_hang 28 = .ok (.aload_n 0, 1) := by decide +kernel
theorem dX13_hang_29 : decode cX13_hang 29 = .ok (.getfield 42, 3) := by decide +kernel
theorem dX13_hang_32 : decode cX13_hang 32 = .ok (.iload_n 3, 1) := by decide +kernel
theorem dX13_hang_33 : decode cX13_hang 33 = .ok (.iload_n 2, 1) := by decide +kernel
theorem dX13_hang_34 : decode cX13_hang 34 = .ok (.iastore, 1) := by decide +kernel
theorem dX13_hang_35 : decode cX13_hang 35 = .ok (.return_, 1) := by decide +kernel
theorem dX13_hang_4 : decode cX13_hang 4 = .ok (.ifCond .eq 4, 3) := by decide +kernel
theorem dX13_hang_7 : decode cX13_hang 7 = .ok (.return_, 1) := by decide +kernel
theorem dX13_hang_8 : decode cX13_hang 8 = .ok (.aload_n 0, 1) := by decide +kernel
theorem dX13_hang_9 : decode cX13_hang 9 = .ok (.iload_n 1, 1) := by decide +kernel
noncomputable def f_X13_hang (x1 : Int32) (x2 : Int32) (s : t_S) : Option (t_S) :=
 if (s.1 950 2) = (0 : Int32) then ((f_X13_lastOf x1 s).bind (fun r1 =>
 if (0 : Int32) ≤ r1 then (if t_ix r1 13000 = true then
  t_let (t_setI s 960 (r1.toNatClampNeg) x2) (fun s1 =>
 some (s1))
else none)
 else (if t_ix x1 13000 = true then
  t_let (t_setI s 959 (x1.toNatClampNeg) x2) (fun s2 =>
 some (s2))
else none)))
 else (some (s))
set_option maxRecDepth 4000 in
set_option maxHeartbeats 1000000 in
theorem C_X13_hang (x1 : Int32) (x2 : Int32) (s : t_S) (r : t_S) (hr : f_X13_hang x1 x2 s = some r) : t_C yX13_hang cX13_hang 4 none 1 [.ref 950, .int x1, .int x2] s (fun v s' => v = none ∧ s' = r) := by
  refine t_C.imp (P := fun v s' => v = none ∧ (fun q => q = r) (s')) (t_C.of (by decide +kernel) (Nat.le_of_ble_eq_true rfl) ?_) (fun v s' hp => hp)
  intro D cy ad bs X
  have hk : t_hk (f_X13_hang x1 x2 s) (fun q => q = r) := ⟨r, hr, rfl⟩
  show mj_G D cy ad bs X cX13_hang 4 yX13_hang.cls none yX13_hang.name 1 0 0 1065 (t_P (fun v s' => v = none ∧ (fun q => q = r) (s'))) 0 [(0, .ref 950), (1, .int x1), (2, .int x2)] [] (t_m s) 1065 0 0
  refine mj_aload_n dX13_hang_0 0 rfl ?_
  refine t_getI dX13_hang_1 F_X13_375 qf_950_2 ?_
  refine mj_if_eq 8 dX13_hang_4 (by decide) (fun z => t_posK hk z (fun hk => ?_)) (fun z => t_negK hk z (fun hk => ?_))
  · refine mj_aload_n dX13_hang_8 0 rfl ?_
    refine mj_iload_n dX13_hang_9 1 rfl ?_
    refine t_bndK hk (fun r1 er1 hk => ?_)
    refine t_callViP dX13_hang_10 M_X13_lastOf (C_X13_lastOf _ _ _ er1) ML_X13_482 IM_X13_lastOf SE_X13_lastOf qc_950 rfl (As := [.int x1]) rfl rfl (Nat.le_of_ble_eq_true rfl) (Nat.le_of_ble_eq_true rfl) (Nat.le_of_ble_eq_true rfl) (Nat.le_of_ble_eq_true rfl) ?_
    refine mj_istore_n 3 (lv2 := [(3, .int r1), (0, .ref 950), (1, .int x1), (2, .int x2)]) dX13_hang_13 rfl (by decide) rfl ?_
    refine mj_iload_n dX13_hang_14 0 rfl ?_
    refine mj_if_ge 28 dX13_hang_15 (by decide) (fun z => t_posK hk z (fun hk => ?_)) (fun z => t_negK hk z (fun hk => ?_))
    · refine mj_aload_n dX13_hang_28 1 rfl ?_
      refine t_getR 960 dX13_hang_29 F_X13_42 qr_950_22 ?_
      refine mj_iload_n dX13_hang_32 0 rfl ?_
      refine mj_iload_n dX13_hang_33 3 rfl ?_
      refine t_chkK hk (fun c1 hk => ?_)
      refine t_iastK dX13_hang_34 qa_960 (t_ixv c1) (fun s1 ws1 => t_letE hk ws1 (fun hk => ?_))
      exact t_somK hk (fun hf => t_vret dX13_hang_35 rfl ⟨rfl, hf⟩ (Nat.le_of_ble_eq_true rfl) (Nat.le_of_ble_eq_true rfl))
    · refine mj_aload_n dX13_hang_18 1 rfl ?_
      refine t_getR 959 dX13_hang_19 F_X13_39 qr_950_21 ?_
      refine mj_iload_n dX13_hang_22 2 rfl ?_
      refine mj_iload_n dX13_hang_23 3 rfl ?_
      refine t_chkK hk (fun c2 hk => ?_)
      refine t_iastK dX13_hang_24 qa_959 (t_ixv c2) (fun s2 ws2 => t_letE hk ws2 (fun hk => ?_))
      refine mj_goto 35 dX13_hang_25 (by decide) ?_
      exact t_somK hk (fun hf => t_vret dX13_hang_35 rfl ⟨rfl, hf⟩ (Nat.le_of_ble_eq_true rfl) (Nat.le_of_ble_eq_true rfl))
  · exact t_somK hk (fun hf => t_vret dX13_hang_7 rfl ⟨rfl, hf⟩ (Nat.le_of_ble_eq_true rfl) (Nat.le_of_ble_eq_true rfl))

