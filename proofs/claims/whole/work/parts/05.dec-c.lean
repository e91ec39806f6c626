theorem dX9_init_0 : decode cX9_init 0 = .ok (.aload_n 0, 1) := by decide +kernel
theorem dX9_init_1 : decode cX9_init 1 = .ok (.invokespecial 1, 3) := by decide +kernel
theorem dX9_init_4 : decode cX9_init 4 = .ok (.aload_n 0, 1) := by decide +kernel
theorem dX9_init_5 : decode cX9_init 5 = .ok (.iconst 4, 1) := by decide +kernel
theorem dX9_init_6 : decode cX9_init 6 = .ok (.newarray .int, 2) := by decide +kernel
theorem dX9_init_8 : decode cX9_init 8 = .ok (.putfield 7, 3) := by decide +kernel
theorem dX9_init_11 : decode cX9_init 11 = .ok (.aload_n 0, 1) := by decide +kernel
theorem dX9_init_12 : decode cX9_init 12 = .ok (.iconst 4, 1) := by decide +kernel
theorem dX9_init_13 : decode cX9_init 13 = .ok (.newarray .int, 2) := by decide +kernel
theorem dX9_init_15 : decode cX9_init 15 = .ok (.putfield 13, 3) := by decide +kernel
theorem dX9_init_18 : decode cX9_init 18 = .ok (.aload_n 0, 1) := by decide +kernel
theorem dX9_init_19 : decode cX9_init 19 = .ok (.iconst 4, 1) := by decide +kernel
theorem dX9_init_20 : decode cX9_init 20 = .ok (.newarray .int, 2) := by decide +kernel
theorem dX9_init_22 : decode cX9_init 22 = .ok (.putfield 16, 3) := by decide +kernel
theorem dX9_init_25 : decode cX9_init 25 = .ok (.aload_n 0, 1) := by decide +kernel
theorem dX9_init_26 : decode cX9_init 26 = .ok (.bipush 8, 2) := by decide +kernel
theorem dX9_init_28 : decode cX9_init 28 = .ok (.newarray .int, 2) := by decide +kernel
theorem dX9_init_30 : decode cX9_init 30 = .ok (.putfield 19, 3) := by decide +kernel
theorem dX9_init_33 : decode cX9_init 33 = .ok (.aload_n 0, 1) := by decide +kernel
theorem dX9_init_34 : decode cX9_init 34 = .ok (.bipush 8, 2) := by decide +kernel
theorem dX9_init_36 : decode cX9_init 36 = .ok (.newarray .int, 2) := by decide +kernel
theorem dX9_init_38 : decode cX9_init 38 = .ok (.putfield 22, 3) := by decide +kernel
theorem dX9_init_41 : decode cX9_init 41 = .ok (.aload_n 0, 1) := by decide +kernel
theorem dX9_init_42 : decode cX9_init 42 = .ok (.bipush 8, 2) := by decide +kernel
theorem dX9_init_44 : decode cX9_init 44 = .ok (.newarray .int, 2) := by decide +kernel
theorem dX9_init_46 : decode cX9_init 46 = .ok (.putfield 25, 3) := by decide +kernel
theorem dX9_init_49 : decode cX9_init 49 = .ok (.aload_n 0, 1) := by decide +kernel
theorem dX9_init_50 : decode cX9_init 50 = .ok (.bipush 64, 2) := by decide +kernel
theorem dX9_init_52 : decode cX9_init 52 = .ok (.newarray .int, 2) := by decide +kernel
theorem dX9_init_54 : decode cX9_init 54 = .ok (.putfield 28, 3) := by decide +kernel
theorem dX9_init_57 : decode cX9_init 57 = .ok (.aload_n 0, 1) := by decide +kernel
theorem dX9_init_58 : decode cX9_init 58 = .ok (.sipush 16384, 3) := by decide +kernel
theorem dX9_init_61 : decode cX9_init 61 = .ok (.newarray .int, 2) := by decide +kernel
theorem dX9_init_63 : decode cX9_init 63 = .ok (.putfield 31, 3) := by decide +kernel
theorem dX9_init_66 : decode cX9_init 66 = .ok (.aload_n 0, 1) := by decide +kernel
theorem dX9_init_67 : decode cX9_init 67 = .ok (.sipush 16384, 3) := by decide +kernel
theorem dX9_init_70 : decode cX9_init 70 = .ok (.newarray .int, 2) := by decide +kernel
theorem dX9_init_72 : decode cX9_init 72 = .ok (.putfield 34, 3) := by decide +kernel
theorem dX9_init_75 : decode cX9_init 75 = .ok (.aload_n 0, 1) := by decide +kernel
theorem dX9_init_76 : decode cX9_init 76 = .ok (.sipush 256, 3) := by decide +kernel
theorem dX9_init_79 : decode cX9_init 79 = .ok (.newarray .boolean, 2) := by decide +kernel
theorem dX9_init_81 : decode cX9_init 81 = .ok (.putfield 37, 3) := by decide +kernel
theorem dX9_init_84 : decode cX9_init 84 = .ok (.aload_n 0, 1) := by decide +kernel
theorem dX9_init_85 : decode cX9_init 85 = .ok (.sipush 256, 3) := by decide +kernel
theorem dX9_init_88 : decode cX9_init 88 = .ok (.newarray .boolean, 2) := by decide +kernel
theorem dX9_init_90 : decode cX9_init 90 = .ok (.putfield 41, 3) := by decide +kernel
theorem dX9_init_93 : decode cX9_init 93 = .ok (.aload_n 0, 1) := by decide +kernel
theorem dX9_init_94 : decode cX9_init 94 = .ok (.sipush 256, 3) := by decide +kernel
theorem dX9_init_97 : decode cX9_init 97 = .ok (.newarray .boolean, 2) := by decide +kernel
theorem dX9_init_99 : decode cX9_init 99 = .ok (.putfield 44, 3) := by decide +kernel
theorem dX9_init_102 : decode cX9_init 102 = .ok (.aload_n 0, 1) := by decide +kernel
theorem dX9_init_103 : decode cX9_init 103 = .ok (.iconst 3, 1) := by decide +kernel
theorem dX9_init_104 : decode cX9_init 104 = .ok (.newarray .int, 2) := by decide +kernel
theorem dX9_init_106 : decode cX9_init 106 = .ok (.putfield 47, 3) := by decide +kernel
theorem dX9_init_109 : decode cX9_init 109 = .ok (.aload_n 0, 1) := by decide +kernel
theorem dX9_init_110 : decode cX9_init 110 = .ok (.bipush 60, 2) := by decide +kernel
theorem dX9_init_112 : decode cX9_init 112 = .ok (.newarray .int, 2) := by decide +kernel
theorem dX9_init_114 : decode cX9_init 114 = .ok (.putfield 50, 3) := by decide +kernel
theorem dX9_init_117 : decode cX9_init 117 = .ok (.aload_n 0, 1) := by decide +kernel
theorem dX9_init_118 : decode cX9_init 118 = .ok (.bipush 60, 2) := by decide +kernel
theorem dX9_init_120 : decode cX9_init 120 = .ok (.newarray .int, 2) := by decide +kernel
theorem dX9_init_122 : decode cX9_init 122 = .ok (.putfield 53, 3) := by decide +kernel
theorem dX9_init_125 : decode cX9_init 125 = .ok (.aload_n 0, 1) := by decide +kernel
theorem dX9_init_126 : decode cX9_init 126 = .ok (.bipush 61, 2) := by decide +kernel
theorem dX9_init_128 : decode cX9_init 128 = .ok (.newarray .long, 2) := by decide +kernel
theorem dX9_init_130 : decode cX9_init 130 = .ok (.putfield 56, 3) := by decide +kernel
theorem dX9_init_133 : decode cX9_init 133 = .ok (.aload_n 0, 1) := by decide +kernel
theorem dX9_init_134 : decode cX9_init 134 = .ok (.bipush 20, 2) := by decide +kernel
theorem dX9_init_136 : decode cX9_init 136 = .ok (.putfield 60, 3) := by decide +kernel
theorem dX9_init_139 : decode cX9_init 139 = .ok (.aload_n 0, 1) := by decide +kernel
theorem dX9_init_140 : decode cX9_init 140 = .ok (.iconst 2, 1) := by decide +kernel
theorem dX9_init_141 : decode cX9_init 141 = .ok (.putfield 64, 3) := by decide +kernel
theorem dX9_init_144 : decode cX9_init 144 = .ok (.aload_n 0, 1) := by decide +kernel
theorem dX9_init_145 : decode cX9_init 145 = .ok (.iconst 4, 1) := by decide +kernel
theorem dX9_init_146 : decode cX9_init 146 = .ok (.newarray .int, 2) := by decide +kernel
theorem dX9_init_148 : decode cX9_init 148 = .ok (.putfield 67, 3) := by decide +kernel
theorem dX9_init_151 : decode cX9_init 151 = .ok (.aload_n 0, 1) := by decide +kernel
theorem dX9_init_152 : decode cX9_init 152 = .ok (.bipush 30, 2) := by decide +kernel
theorem dX9_init_154 : decode cX9_init 154 = .ok (.newarray .int, 2) := by decide +kernel
theorem dX9_init_156 : decode cX9_init 156 = .ok (.putfield 70, 3) := by decide +kernel
theorem dX9_init_159 : decode cX9_init 159 = .ok (.aload_n 0, 1) := by decide +kernel
theorem dX9_init_160 : decode cX9_init 160 = .ok (.iconst 2, 1) := by decide +kernel
theorem dX9_init_161 : decode cX9_init 161 = .ok (.putfield 73, 3) := by decide +kernel
theorem dX9_init_164 : decode cX9_init 164 = .ok (.aload_n 0, 1) := by decide +kernel
theorem dX9_init_165 : decode cX9_init 165 = .ok (.bipush 8, 2) := by decide +kernel
theorem dX9_init_167 : decode cX9_init 167 = .ok (.newarray .boolean, 2) := by decide +kernel
theorem dX9_init_169 : decode cX9_init 169 = .ok (.putfield 76, 3) := by decide +kernel
theorem dX9_init_172 : decode cX9_init 172 = .ok (.aload_n 0, 1) := by decide +kernel
theorem dX9_init_173 : decode cX9_init 173 = .ok (.bipush 8, 2) := by decide +kernel
theorem dX9_init_175 : decode cX9_init 175 = .ok (.newarray .int, 2) := by decide +kernel
theorem dX9_init_177 : decode cX9_init 177 = .ok (.putfield 79, 3) := by decide +kernel
theorem dX9_init_180 : decode cX9_init 180 = .ok (.aload_n 0, 1) := by decide +kernel
theorem dX9_init_181 : decode cX9_init 181 = .ok (.bipush 8, 2) := by decide +kernel
theorem dX9_init_183 : decode cX9_init 183 = .ok (.newarray .int, 2) := by decide +kernel
theorem dX9_init_185 : decode cX9_init 185 = .ok (.putfield 82, 3) := by decide +kernel
theorem dX9_init_188 : decode cX9_init 188 = .ok (.aload_n 0, 1) := by decide +kernel
theorem dX9_init_189 : decode cX9_init 189 = .ok (.bipush 64, 2) := by decide +kernel
theorem dX9_init_191 : decode cX9_init 191 = .ok (.newarray .int, 2) := by decide +kernel
theorem dX9_init_193 : decode cX9_init 193 = .ok (.putfield 85, 3) := by decide +kernel
theorem dX9_init_196 : decode cX9_init 196 = .ok (.aload_n 0, 1) := by decide +kernel
theorem dX9_init_197 : decode cX9_init 197 = .ok (.bipush 8, 2) := by decide +kernel
theorem dX9_init_199 : decode cX9_init 199 = .ok (.newarray .int, 2) := by decide +kernel
theorem dX9_init_201 : decode cX9_init 201 = .ok (.putfield 88, 3) := by decide +kernel
theorem dX9_init_204 : decode cX9_init 204 = .ok (.aload_n 0, 1) := by decide +kernel
theorem dX9_init_205 : decode cX9_init 205 = .ok (.bipush 8, 2) := by decide +kernel
theorem dX9_init_207 : decode cX9_init 207 = .ok (.newarray .int, 2) := by decide +kernel
theorem dX9_init_209 : decode cX9_init 209 = .ok (.putfield 91, 3) := by decide +kernel
theorem dX9_init_212 : decode cX9_init 212 = .ok (.aload_n 0, 1) := by decide +kernel
theorem dX9_init_213 : decode cX9_init 213 = .ok (.bipush 8, 2) := by decide +kernel
theorem dX9_init_215 : decode cX9_init 215 = .ok (.newarray .int, 2) := by decide +kernel
theorem dX9_init_217 : decode cX9_init 217 = .ok (.putfield 94, 3) := by decide +kernel
theorem dX9_init_220 : decode cX9_init 220 = .ok (.aload_n 0, 1) := by decide +kernel
theorem dX9_init_221 : decode cX9_init 221 = .ok (.getfield 7, 3) := by decide +kernel
theorem dX9_init_224 : decode cX9_init 224 = .ok (.iconst 0, 1) := by decide +kernel
theorem dX9_init_225 : decode cX9_init 225 = .ok (.bipush 60, 2) := by decide +kernel
theorem dX9_init_227 : decode cX9_init 227 = .ok (.iastore, 1) := by decide +kernel
theorem dX9_init_228 : decode cX9_init 228 = .ok (.aload_n 0, 1) := by decide +kernel
theorem dX9_init_229 : decode cX9_init 229 = .ok (.getfield 7, 3) := by decide +kernel
theorem dX9_init_232 : decode cX9_init 232 = .ok (.iconst 1, 1) := by decide +kernel
theorem dX9_init_233 : decode cX9_init 233 = .ok (.bipush 20, 2) := by decide +kernel
theorem dX9_init_235 : decode cX9_init 235 = .ok (.iastore, 1) := by decide +kernel
theorem dX9_init_236 : decode cX9_init 236 = .ok (.aload_n 0, 1) := by decide +kernel
theorem dX9_init_237 : decode cX9_init 237 = .ok (.getfield 7, 3) := by decide +kernel
theorem dX9_init_240 : decode cX9_init 240 = .ok (.iconst 2, 1) := by decide +kernel
theorem dX9_init_241 : decode cX9_init 241 = .ok (.bipush 30, 2) := by decide +kernel
theorem dX9_init_243 : decode cX9_init 243 = .ok (.iastore, 1) := by decide +kernel
theorem dX9_init_244 : decode cX9_init 244 = .ok (.aload_n 0, 1) := by decide +kernel
theorem dX9_init_245 : decode cX9_init 245 = .ok (.getfield 7, 3) := by decide +kernel
theorem dX9_init_248 : decode cX9_init 248 = .ok (.iconst 3, 1) := by decide +kernel
theorem dX9_init_249 : decode cX9_init 249 = .ok (.bipush 40, 2) := by decide +kernel
theorem dX9_init_251 : decode cX9_init 251 = .ok (.iastore, 1) := by decide +kernel
theorem dX9_init_252 : decode cX9_init 252 = .ok (.aload_n 0, 1) := by decide +kernel
theorem dX9_init_253 : decode cX9_init 253 = .ok (.getfield 13, 3) := by decide +kernel
theorem dX9_init_256 : decode cX9_init 256 = .ok (.iconst 0, 1) := by decide +kernel
theorem dX9_init_257 : decode cX9_init 257 = .ok (.bipush 30, 2) := by decide +kernel
theorem dX9_init_259 : decode cX9_init 259 = .ok (.iastore, 1) := by decide +kernel
theorem dX9_init_260 : decode cX9_init 260 = .ok (.aload_n 0, 1) := by decide +kernel
theorem dX9_init_261 : decode cX9_init 261 = .ok (.getfield 13, 3) := by decide +kernel
theorem dX9_init_264 : decode cX9_init 264 = .ok (.iconst 1, 1) := by decide +kernel
theorem dX9_init_265 : decode cX9_init 265 = .ok (.iconst 5, 1) := by decide +kernel
theorem dX9_init_266 : decode cX9_init 266 = .ok (.iastore, 1) := by decide +kernel
theorem dX9_init_267 : decode cX9_init 267 = .ok (.aload_n 0, 1) := by decide +kernel
theorem dX9_init_268 : decode cX9_init 268 = .ok (.getfield 13, 3) := by decide +kernel
theorem dX9_init_271 : decode cX9_init 271 = .ok (.iconst 2, 1) := by decide +kernel
theorem dX9_init_272 : decode cX9_init 272 = .ok (.bipush 20, 2) := by decide +kernel
theorem dX9_init_274 : decode cX9_init 274 = .ok (.iastore, 1) := by decide +kernel
theorem dX9_init_275 : decode cX9_init 275 = .ok (.aload_n 0, 1) := by decide +kernel
theorem dX9_init_276 : decode cX9_init 276 = .ok (.getfield 13, 3) := by decide +kernel
theorem dX9_init_279 : decode cX9_init 279 = .ok (.iconst 3, 1) := by decide +kernel
theorem dX9_init_280 : decode cX9_init 280 = .ok (.bipush 15, 2) := by decide +kernel
theorem dX9_init_282 : decode cX9_init 282 = .ok (.iastore, 1) := by decide +kernel
theorem dX9_init_283 : decode cX9_init 283 = .ok (.aload_n 0, 1) := by decide +kernel
theorem dX9_init_284 : decode cX9_init 284 = .ok (.getfield 16, 3) := by decide +kernel
theorem dX9_init_287 : decode cX9_init 287 = .ok (.iconst 0, 1) := by decide +kernel
theorem dX9_init_288 : decode cX9_init 288 = .ok (.iconst 2, 1) := by decide +kernel
theorem dX9_init_289 : decode cX9_init 289 = .ok (.iastore, 1) := by decide +kernel
theorem dX9_init_290 : decode cX9_init 290 = .ok (.aload_n 0, 1) := by decide +kernel
theorem dX9_init_291 : decode cX9_init 291 = .ok (.getfield 16, 3) := by decide +kernel
theorem dX9_init_294 : decode cX9_init 294 = .ok (.iconst 1, 1) := by decide +kernel
theorem dX9_init_295 : decode cX9_init 295 = .ok (.iconst 3, 1) := by decide +kernel
theorem dX9_init_296 : decode cX9_init 296 = .ok (.iastore, 1) := by decide +kernel
theorem dX9_init_297 : decode cX9_init 297 = .ok (.aload_n 0, 1) := by decide +kernel
theorem dX9_init_298 : decode cX9_init 298 = .ok (.getfield 16, 3) := by decide +kernel
theorem dX9_init_301 : decode cX9_init 301 = .ok (.iconst 2, 1) := by decide +kernel
theorem dX9_init_302 : decode cX9_init 302 = .ok (.iconst 2, 1) := by decide +kernel
theorem dX9_init_303 : decode cX9_init 303 = .ok (.iastore, 1) := by decide +kernel
theorem dX9_init_304 : decode cX9_init 304 = .ok (.aload_n 0, 1) := by decide +kernel
theorem dX9_init_305 : decode cX9_init 305 = .ok (.getfield 16, 3) := by decide +kernel
theorem dX9_init_308 : decode cX9_init 308 = .ok (.iconst 3, 1) := by decide +kernel
theorem dX9_init_309 : decode cX9_init 309 = .ok (.iconst 3, 1) := by decide +kernel
theorem dX9_init_310 : decode cX9_init 310 = .ok (.iastore, 1) := by decide +kernel
theorem dX9_init_311 : decode cX9_init 311 = .ok (.iconst 0, 1) := by decide +kernel
theorem dX9_init_312 : decode cX9_init 312 = .ok (.istore_n 1, 1) := by decide +kernel
theorem dX9_init_313 : decode cX9_init 313 = .ok (.iload_n 1, 1) := by decide +kernel
theorem dX9_init_314 : decode cX9_init 314 = .ok (.bipush 8, 2) := by decide +kernel
theorem dX9_init_316 : decode cX9_init 316 = .ok (.if_icmp .ge 24, 3) := by decide +kernel
theorem dX9_init_319 : decode cX9_init 319 = .ok (.aload_n 0, 1) := by decide +kernel
theorem dX9_init_320 : decode cX9_init 320 = .ok (.getfield 19, 3) := by decide +kernel
theorem dX9_init_323 : decode cX9_init 323 = .ok (.iload_n 1, 1) := by decide +kernel
theorem dX9_init_324 : decode cX9_init 324 = .ok (.bipush 10, 2) := by decide +kernel
theorem dX9_init_326 : decode cX9_init 326 = .ok (.iastore, 1) := by decide +kernel
theorem dX9_init_327 : decode cX9_init 327 = .ok (.aload_n 0, 1) := by decide +kernel
theorem dX9_init_328 : decode cX9_init 328 = .ok (.getfield 22, 3) := by decide +kernel
theorem dX9_init_331 : decode cX9_init 331 = .ok (.iload_n 1, 1) := by decide +kernel
theorem dX9_init_332 : decode cX9_init 332 = .ok (.iconst 1, 1) := by decide +kernel
theorem dX9_init_333 : decode cX9_init 333 = .ok (.iastore, 1) := by decide +kernel
theorem dX9_init_334 : decode cX9_init 334 = .ok (.iinc 1 1, 3) := by decide +kernel
theorem dX9_init_337 : decode cX9_init 337 = .ok (.goto (-24), 3) := by decide +kernel
theorem dX9_init_340 : decode cX9_init 340 = .ok (.aload_n 0, 1) := by decide +kernel
theorem dX9_init_341 : decode cX9_init 341 = .ok (.getfield 67, 3) := by decide +kernel
theorem dX9_init_344 : decode cX9_init 344 = .ok (.iconst 0, 1) := by decide +kernel
theorem dX9_init_345 : decode cX9_init 345 = .ok (.iconst 3, 1) := by decide +kernel
theorem dX9_init_346 : decode cX9_init 346 = .ok (.iastore, 1) := by decide +kernel
theorem dX9_init_347 : decode cX9_init 347 = .ok (.aload_n 0, 1) := by decide +kernel
theorem dX9_init_348 : decode cX9_init 348 = .ok (.getfield 67, 3) := by decide +kernel
theorem dX9_init_351 : decode cX9_init 351 = .ok (.iconst 1, 1) := by decide +kernel
theorem dX9_init_352 : decode cX9_init 352 = .ok (.iconst 1, 1) := by decide +kernel
theorem dX9_init_353 : decode cX9_init 353 = .ok (.iastore, 1) := by decide +kernel
theorem dX9_init_354 : decode cX9_init 354 = .ok (.aload_n 0, 1) := by decide +kernel
theorem dX9_init_355 : decode cX9_init 355 = .ok (.getfield 67, 3) := by decide +kernel
theorem dX9_init_358 : decode cX9_init 358 = .ok (.iconst 2, 1) := by decide +kernel
theorem dX9_init_359 : decode cX9_init 359 = .ok (.iconst 1, 1) := by decide +kernel
theorem dX9_init_360 : decode cX9_init 360 = .ok (.iastore, 1) := by decide +kernel
theorem dX9_init_361 : decode cX9_init 361 = .ok (.aload_n 0, 1) := by decide +kernel
theorem dX9_init_362 : decode cX9_init 362 = .ok (.getfield 67, 3) := by decide +kernel
theorem dX9_init_365 : decode cX9_init 365 = .ok (.iconst 3, 1) := by decide +kernel
theorem dX9_init_366 : decode cX9_init 366 = .ok (.iconst 2, 1) := by decide +kernel
theorem dX9_init_367 : decode cX9_init 367 = .ok (.iastore, 1) := by decide +kernel
theorem dX9_init_368 : decode cX9_init 368 = .ok (.return_, 1) := by decide +kernel
theorem dX9_in_0 : decode cX9_in 0 = .ok (.iload_n 0, 1) := by decide +kernel
theorem dX9_in_1 : decode cX9_in 1 = .ok (.iload_n 1, 1) := by decide +kernel
theorem dX9_in_2 : decode cX9_in 2 = .ok (.if_icmp .lt 12, 3) := by decide +kernel
theorem dX9_in_5 : decode cX9_in 5 = .ok (.iload_n 0, 1) := by decide +kernel
theorem dX9_in_6 : decode cX9_in 6 = .ok (.iload_n 2, 1) := by decide +kernel
theorem dX9_in_7 : decode cX9_in 7 = .ok (.if_icmp .gt 7, 3) := by decide +kernel
theorem dX9_in_10 : decode cX9_in 10 = .ok (.iconst 1, 1) := by decide +kernel
theorem dX9_in_11 : decode cX9_in 11 = .ok (.goto 4, 3) := by decide +kernel
theorem dX9_in_14 : decode cX9_in 14 = .ok (.iconst 0, 1) := by decide +kernel
theorem dX9_in_15 : decode cX9_in 15 = .ok (.ireturn, 1) := by decide +kernel
set_option maxRecDepth 20000 in
theorem ggX9_isCell_X9_in : GoodIn wsX9_isCell wsX9_in := goodIn_r _ [4] (by decide +kernel) (by decide +kernel)
set_option maxRecDepth 20000 in
theorem gX9_isCell_X9_in : GoodIn wsX9_isCell (va_wsS RX9 97 yX9_in wsX9_in) := goodIn_app (goodIn_of _ (by decide +kernel)) ggX9_isCell_X9_in
theorem dX9_isCell_0 : decode cX9_isCell 0 = .ok (.iload_n 0, 1) := by decide +kernel
theorem dX9_isCell_1 : decode cX9_isCell 1 = .ok (.iconst 0, 1) := by decide +kernel
theorem dX9_isCell_2 : decode cX9_isCell 2 = .ok (.bipush 15, 2) := by decide +kernel
theorem dX9_isCell_4 : decode cX9_isCell 4 = .ok (.invokestatic 97, 3) := by decide +kernel
theorem dX9_isCell_7 : decode cX9_isCell 7 = .ok (.ireturn, 1) := by decide +kernel
set_option maxRecDepth 20000 in
theorem ggX9_isKind_X9_in : GoodIn wsX9_isKind wsX9_in := goodIn_r _ [4] (by decide +kernel) (by decide +kernel)
set_option maxRecDepth 20000 in
theorem gX9_isKind_X9_in : GoodIn wsX9_isKind (va_wsS RX9 97 yX9_in wsX9_in) := goodIn_app (goodIn_of _ (by decide +kernel)) ggX9_isKind_X9_in
theorem dX9_isKind_0 : decode cX9_isKind 0 = .ok (.iload_n 0, 1) := by decide +kernel
theorem dX9_isKind_1 : decode cX9_isKind 1 = .ok (.iconst 0, 1) := by decide +kernel
theorem dX9_isKind_2 : decode cX9_isKind 2 = .ok (.iconst 3, 1) := by decide +kernel
theorem dX9_isKind_3 : decode cX9_isKind 3 = .ok (.invokestatic 97, 3) := by decide +kernel
theorem dX9_isKind_6 : decode cX9_isKind 6 = .ok (.ireturn, 1) := by decide +kernel
set_option maxRecDepth 20000 in
theorem ggX9_isPlayer_X9_in : GoodIn wsX9_isPlayer wsX9_in := goodIn_r _ [4] (by decide +kernel) (by decide +kernel)
set_option maxRecDepth 20000 in
theorem gX9_isPlayer_X9_in : GoodIn wsX9_isPlayer (va_wsS RX9 97 yX9_in wsX9_in) := goodIn_app (goodIn_of _ (by decide +kernel)) ggX9_isPlayer_X9_in
theorem dX9_isPlayer_0 : decode cX9_isPlayer 0 = .ok (.iload_n 0, 1) := by decide +kernel
theorem dX9_isPlayer_1 : decode cX9_isPlayer 1 = .ok (.iconst 0, 1) := by decide +kernel
theorem dX9_isPlayer_2 : decode cX9_isPlayer 2 = .ok (.bipush 7, 2) := by decide +kernel
theorem dX9_isPlayer_4 : decode cX9_isPlayer 4 = .ok (.invokestatic 97, 3) := by decide +kernel
theorem dX9_isPlayer_7 : decode cX9_isPlayer 7 = .ok (.ireturn, 1) := by decide +kernel
theorem dX9_size_0 : decode cX9_size 0 = .ok (.iload_n 0, 1) := by decide +kernel
theorem dX9_size_1 : decode cX9_size 1 = .ok (.ifCond .ge 8, 3) := by decide +kernel
theorem dX9_size_4 : decode cX9_size 4 = .ok (.iload_n 0, 1) := by decide +kernel
theorem dX9_size_5 : decode cX9_size 5 = .ok (.ineg, 1) := by decide +kernel
theorem dX9_size_6 : decode cX9_size 6 = .ok (.goto 4, 3) := by decide +kernel
theorem dX9_size_9 : decode cX9_size 9 = .ok (.iload_n 0, 1) := by decide +kernel
theorem dX9_size_10 : decode cX9_size 10 = .ok (.ireturn, 1) := by decide +kernel
set_option maxRecDepth 20000 in
theorem ggX9_far_X9_size : GoodIn wsX9_far wsX9_size := goodIn_r _ [4] (by decide +kernel) (by decide +kernel)
set_option maxRecDepth 20000 in
theorem gX9_far_X9_size : GoodIn wsX9_far (va_wsS RX9 101 yX9_size wsX9_size) := goodIn_app (goodIn_of _ (by decide +kernel)) ggX9_far_X9_size
theorem dX9_far_0 : decode cX9_far 0 = .ok (.iload_n 0, 1) := by decide +kernel
theorem dX9_far_1 : decode cX9_far 1 = .ok (.iconst 4, 1) := by decide +kernel
theorem dX9_far_2 : decode cX9_far 2 = .ok (.idiv, 1) := by decide +kernel
theorem dX9_far_3 : decode cX9_far 3 = .ok (.iload_n 1, 1) := by decide +kernel
theorem dX9_far_4 : decode cX9_far 4 = .ok (.iconst 4, 1) := by decide +kernel
theorem dX9_far_5 : decode cX9_far 5 = .ok (.idiv, 1) := by decide +kernel
theorem dX9_far_6 : decode cX9_far 6 = .ok (.isub, 1) := by decide +kernel
theorem dX9_far_7 : decode cX9_far 7 = .ok (.invokestatic 101, 3) := by decide +kernel
theorem dX9_far_10 : decode cX9_far 10 = .ok (.istore_n 2, 1) := by decide +kernel
theorem dX9_far_11 : decode cX9_far 11 = .ok (.iload_n 0, 1) := by decide +kernel
theorem dX9_far_12 : decode cX9_far 12 = .ok (.iconst 4, 1) := by decide +kernel
theorem dX9_far_13 : decode cX9_far 13 = .ok (.irem, 1) := by decide +kernel
theorem dX9_far_14 : decode cX9_far 14 = .ok (.iload_n 1, 1) := by decide +kernel
theorem dX9_far_15 : decode cX9_far 15 = .ok (.iconst 4, 1) := by decide +kernel
theorem dX9_far_16 : decode cX9_far 16 = .ok (.irem, 1) := by decide +kernel
theorem dX9_far_17 : decode cX9_far 17 = .ok (.isub, 1) := by decide +kernel
theorem dX9_far_18 : decode cX9_far 18 = .ok (.invokestatic 101, 3) := by decide +kernel
theorem dX9_far_21 : decode cX9_far 21 = .ok (.istore_n 3, 1) := by decide +kernel
theorem dX9_far_22 : decode cX9_far 22 = .ok (.iload_n 2, 1) := by decide +kernel
theorem dX9_far_23 : decode cX9_far 23 = .ok (.iload_n 3, 1) := by decide +kernel
theorem dX9_far_24 : decode cX9_far 24 = .ok (.if_icmp .le 7, 3) := by decide +kernel
theorem dX9_far_27 : decode cX9_far 27 = .ok (.iload_n 2, 1) := by decide +kernel
theorem dX9_far_28 : decode cX9_far 28 = .ok (.goto 4, 3) := by decide +kernel
theorem dX9_far_31 : decode cX9_far 31 = .ok (.iload_n 3, 1) := by decide +kernel
theorem dX9_far_32 : decode cX9_far 32 = .ok (.ireturn, 1) := by decide +kernel
set_option maxRecDepth 20000 in
theorem ggX9_kind_X9_isKind : GoodIn wsX9_kind wsX9_isKind := goodIn_r _ [7, 8, 9, 6, 10] (by decide +kernel) (by decide +kernel)
set_option maxRecDepth 20000 in
theorem gX9_kind_X9_isKind : GoodIn wsX9_kind (va_wsS RX9 105 yX9_isKind wsX9_isKind) := goodIn_app (goodIn_of _ (by decide +kernel)) ggX9_kind_X9_isKind
set_option maxRecDepth 20000 in
theorem ggX9_kind_X9_in : GoodIn wsX9_kind wsX9_in := goodIn_r _ [10] (by decide +kernel) (by decide +kernel)
set_option maxRecDepth 20000 in
theorem gX9_kind_X9_in : GoodIn wsX9_kind (va_wsS RX9 97 yX9_in wsX9_in) := goodIn_app (goodIn_of _ (by decide +kernel)) ggX9_kind_X9_in
theorem dX9_kind_0 : decode cX9_kind 0 = .ok (.iload_n 1, 1) := by decide +kernel
theorem dX9_kind_1 : decode cX9_kind 1 = .ok (.invokestatic 105, 3) := by decide +kernel
theorem dX9_kind_4 : decode cX9_kind 4 = .ok (.ifCond .ne 6, 3) := by decide +kernel
theorem dX9_kind_7 : decode cX9_kind 7 = .ok (.bipush (-2), 2) := by decide +kernel
theorem dX9_kind_9 : decode cX9_kind 9 = .ok (.ireturn, 1) := by decide +kernel
theorem dX9_kind_10 : decode cX9_kind 10 = .ok (.iload_n 2, 1) := by decide +kernel
theorem dX9_kind_11 : decode cX9_kind 11 = .ok (.bipush 10, 2) := by decide +kernel
theorem dX9_kind_13 : decode cX9_kind 13 = .ok (.bipush 60, 2) := by decide +kernel
theorem dX9_kind_15 : decode cX9_kind 15 = .ok (.invokestatic 97, 3) := by decide +kernel
theorem dX9_kind_18 : decode cX9_kind 18 = .ok (.ifCond .eq 24, 3) := by decide +kernel
theorem dX9_kind_21 : decode cX9_kind 21 = .ok (.iload_n 3, 1) := by decide +kernel
theorem dX9_kind_22 : decode cX9_kind 22 = .ok (.iconst 0, 1) := by decide +kernel
theorem dX9_kind_23 : decode cX9_kind 23 = .ok (.bipush 60, 2) := by decide +kernel
theorem dX9_kind_25 : decode cX9_kind 25 = .ok (.invokestatic 97, 3) := by decide +kernel
theorem dX9_kind_28 : decode cX9_kind 28 = .ok (.ifCond .eq 14, 3) := by decide +kernel
theorem dX9_kind_31 : decode cX9_kind 31 = .ok (.iload 4, 2) := by decide +kernel
theorem dX9_kind_33 : decode cX9_kind 33 = .ok (.iconst 1, 1) := by decide +kernel
theorem dX9_kind_34 : decode cX9_kind 34 = .ok (.bipush 6, 2) := by decide +kernel
theorem dX9_kind_36 : decode cX9_kind 36 = .ok (.invokestatic 97, 3) := by decide +kernel
theorem dX9_kind_39 : decode cX9_kind 39 = .ok (.ifCond .ne 6, 3) := by decide +kernel
theorem dX9_kind_42 : decode cX9_kind 42 = .ok (.bipush (-3), 2) := by decide +kernel
theorem dX9_kind_44 : decode cX9_kind 44 = .ok (.ireturn, 1) := by decide +kernel
theorem dX9_kind_45 : decode cX9_kind 45 = .ok (.aload_n 0, 1) := by decide +kernel
theorem dX9_kind_46 : decode cX9_kind 46 = .ok (.getfield 7, 3) := by decide +kernel
theorem dX9_kind_49 : decode cX9_kind 49 = .ok (.iload_n 1, 1) := by decide +kernel
theorem dX9_kind_50 : decode cX9_kind 50 = .ok (.iload_n 2, 1) := by decide +kernel
theorem dX9_kind_51 : decode cX9_kind 51 = .ok (.iastore, 1) := by decide +kernel
theorem dX9_kind_52 : decode cX9_kind 52 = .ok (.aload_n 0, 1) := by decide +kernel
theorem dX9_kind_53 : decode cX9_kind 53 = .ok (.getfield 13, 3) := by decide +kernel
theorem dX9_kind_56 : decode cX9_kind 56 = .ok (.iload_n 1, 1) := by decide +kernel
theorem dX9_kind_57 : decode cX9_kind 57 = .ok (.iload_n 3, 1) := by decide +kernel
theorem dX9_kind_58 : decode cX9_kind 58 = .ok (.iastore, 1) := by decide +kernel
theorem dX9_kind_59 : decode cX9_kind 59 = .ok (.aload_n 0, 1) := by decide +kernel
theorem dX9_kind_60 : decode cX9_kind 60 = .ok (.getfield 16, 3) := by decide +kernel
theorem dX9_kind_63 : decode cX9_kind 63 = .ok (.iload_n 1, 1) := by decide +kernel
theorem dX9_kind_64 : decode cX9_kind 64 = .ok (.iload 4, 2) := by decide +kernel
theorem dX9_kind_66 : decode cX9_kind 66 = .ok (.iastore, 1) := by decide +kernel
theorem dX9_kind_67 : decode cX9_kind 67 = .ok (.iconst 1, 1) := by decide +kernel
theorem dX9_kind_68 : decode cX9_kind 68 = .ok (.ireturn, 1) := by decide +kernel
set_option maxRecDepth 20000 in
theorem ggX9_broken_X9_in : GoodIn wsX9_broken wsX9_in := goodIn_r _ [5] (by decide +kernel) (by decide +kernel)
set_option maxRecDepth 20000 in
theorem gX9_broken_X9_in : GoodIn wsX9_broken (va_wsS RX9 97 yX9_in wsX9_in) := goodIn_app (goodIn_of _ (by decide +kernel)) ggX9_broken_X9_in
theorem dX9_broken_0 : decode cX9_broken 0 = .ok (.iload_n 1, 1) := by decide +kernel
theorem dX9_broken_1 : decode cX9_broken 1 = .ok (.iconst 0, 1) := by decide +kernel
theorem dX9_broken_2 : decode cX9_broken 2 = .ok (.bipush 8, 2) := by decide +kernel
theorem dX9_broken_4 : decode cX9_broken 4 = .ok (.invokestatic 97, 3) := by decide +kernel
theorem dX9_broken_7 : decode cX9_broken 7 = .ok (.ifCond .ne 6, 3) := by decide +kernel
theorem dX9_broken_10 : decode cX9_broken 10 = .ok (.bipush (-3), 2) := by decide +kernel
theorem dX9_broken_12 : decode cX9_broken 12 = .ok (.ireturn, 1) := by decide +kernel
theorem dX9_broken_13 : decode cX9_broken 13 = .ok (.aload_n 0, 1) := by decide +kernel
theorem dX9_broken_14 : decode cX9_broken 14 = .ok (.getfield 109, 3) := by decide +kernel
theorem dX9_broken_17 : decode cX9_broken 17 = .ok (.istore_n 2, 1) := by decide +kernel
theorem dX9_broken_18 : decode cX9_broken 18 = .ok (.aload_n 0, 1) := by decide +kernel
theorem dX9_broken_19 : decode cX9_broken 19 = .ok (.iload_n 1, 1) := by decide +kernel
theorem dX9_broken_20 : decode cX9_broken 20 = .ok (.putfield 109, 3) := by decide +kernel
theorem dX9_broken_23 : decode cX9_broken 23 = .ok (.iload_n 2, 1) := by decide +kernel
theorem dX9_broken_24 : decode cX9_broken 24 = .ok (.ireturn, 1) := by decide +kernel
set_option maxRecDepth 20000 in
theorem ggX9_fly_X9_size : GoodIn wsX9_fly wsX9_size := goodIn_r _ [9] (by decide +kernel) (by decide +kernel)
set_option maxRecDepth 20000 in
theorem gX9_fly_X9_size : GoodIn wsX9_fly (va_wsS RX9 101 yX9_size wsX9_size) := goodIn_app (goodIn_of _ (by decide +kernel)) ggX9_fly_X9_size
theorem dX9_fly_0 : decode cX9_fly 0 = .ok (.iload_n 2, 1) := by decide +kernel
theorem dX9_fly_1 : decode cX9_fly 1 = .ok (.iconst 4, 1) := by decide +kernel
theorem dX9_fly_2 : decode cX9_fly 2 = .ok (.idiv, 1) := by decide +kernel
theorem dX9_fly_3 : decode cX9_fly 3 = .ok (.iload_n 3, 1) := by decide +kernel
theorem dX9_fly_4 : decode cX9_fly 4 = .ok (.iconst 4, 1) := by decide +kernel
theorem dX9_fly_5 : decode cX9_fly 5 = .ok (.idiv, 1) := by decide +kernel
theorem dX9_fly_6 : decode cX9_fly 6 = .ok (.iadd, 1) := by decide +kernel
theorem dX9_fly_7 : decode cX9_fly 7 = .ok (.iconst 1, 1) := by decide +kernel
theorem dX9_fly_8 : decode cX9_fly 8 = .ok (.iadd, 1) := by decide +kernel
theorem dX9_fly_9 : decode cX9_fly 9 = .ok (.istore 4, 2) := by decide +kernel
theorem dX9_fly_11 : decode cX9_fly 11 = .ok (.bipush 10, 2) := by decide +kernel
theorem dX9_fly_13 : decode cX9_fly 13 = .ok (.iload 4, 2) := by decide +kernel
theorem dX9_fly_15 : decode cX9_fly 15 = .ok (.imul, 1) := by decide +kernel
theorem dX9_fly_16 : decode cX9_fly 16 = .ok (.iconst 5, 1) := by decide +kernel
theorem dX9_fly_17 : decode cX9_fly 17 = .ok (.iload_n 3, 1) := by decide +kernel
theorem dX9_fly_18 : decode cX9_fly 18 = .ok (.iconst 4, 1) := by decide +kernel
theorem dX9_fly_19 : decode cX9_fly 19 = .ok (.irem, 1) := by decide +kernel
theorem dX9_fly_20 : decode cX9_fly 20 = .ok (.iload_n 2, 1) := by decide +kernel
theorem dX9_fly_21 : decode cX9_fly 21 = .ok (.iconst 4, 1) := by decide +kernel
theorem dX9_fly_22 : decode cX9_fly 22 = .ok (.irem, 1) := by decide +kernel
theorem dX9_fly_23 : decode cX9_fly 23 = .ok (.isub, 1) := by decide +kernel
theorem dX9_fly_24 : decode cX9_fly 24 = .ok (.invokestatic 101, 3) := by decide +kernel
theorem dX9_fly_27 : decode cX9_fly 27 = .ok (.imul, 1) := by decide +kernel
theorem dX9_fly_28 : decode cX9_fly 28 = .ok (.iadd, 1) := by decide +kernel
theorem dX9_fly_29 : decode cX9_fly 29 = .ok (.istore 5, 2) := by decide +kernel
theorem dX9_fly_31 : decode cX9_fly 31 = .ok (.iload 5, 2) := by decide +kernel
theorem dX9_fly_33 : decode cX9_fly 33 = .ok (.bipush 100, 2) := by decide +kernel
theorem dX9_fly_35 : decode cX9_fly 35 = .ok (.iconst 4, 1) := by decide +kernel
theorem dX9_fly_36 : decode cX9_fly 36 = .ok (.aload_n 0, 1) := by decide +kernel
theorem dX9_fly_37 : decode cX9_fly 37 = .ok (.getfield 109, 3) := by decide +kernel
theorem dX9_fly_40 : decode cX9_fly 40 = .ok (.imul, 1) := by decide +kernel
theorem dX9_fly_41 : decode cX9_fly 41 = .ok (.isub, 1) := by decide +kernel
theorem dX9_fly_42 : decode cX9_fly 42 = .ok (.imul, 1) := by decide +kernel
theorem dX9_fly_43 : decode cX9_fly 43 = .ok (.bipush 100, 2) := by decide +kernel
theorem dX9_fly_45 : decode cX9_fly 45 = .ok (.idiv, 1) := by decide +kernel
theorem dX9_fly_46 : decode cX9_fly 46 = .ok (.istore 6, 2) := by decide +kernel
theorem dX9_fly_48 : decode cX9_fly 48 = .ok (.iconst 0, 1) := by decide +kernel
theorem dX9_fly_49 : decode cX9_fly 49 = .ok (.istore 7, 2) := by decide +kernel
theorem dX9_fly_51 : decode cX9_fly 51 = .ok (.aload_n 0, 1) := by decide +kernel
theorem dX9_fly_52 : decode cX9_fly 52 = .ok (.getfield 7, 3) := by decide +kernel
theorem dX9_fly_55 : decode cX9_fly 55 = .ok (.iload_n 1, 1) := by decide +kernel
theorem dX9_fly_56 : decode cX9_fly 56 = .ok (.iaload, 1) := by decide +kernel
theorem dX9_fly_57 : decode cX9_fly 57 = .ok (.istore 8, 2) := by decide +kernel
theorem dX9_fly_59 : decode cX9_fly 59 = .ok (.aload_n 0, 1) := by decide +kernel
theorem dX9_fly_60 : decode cX9_fly 60 = .ok (.iconst 0, 1) := by decide +kernel
theorem dX9_fly_61 : decode cX9_fly 61 = .ok (.putfield 112, 3) := by decide +kernel
theorem dX9_fly_64 : decode cX9_fly 64 = .ok (.iload 7, 2) := by decide +kernel
theorem dX9_fly_66 : decode cX9_fly 66 = .ok (.iload 6, 2) := by decide +kernel
theorem dX9_fly_68 : decode cX9_fly 68 = .ok (.if_icmp .ge 136, 3) := by decide +kernel
theorem dX9_fly_71 : decode cX9_fly 71 = .ok (.aload_n 0, 1) := by decide +kernel
theorem dX9_fly_72 : decode cX9_fly 72 = .ok (.dup, 1) := by decide +kernel
theorem dX9_fly_73 : decode cX9_fly 73 = .ok (.getfield 112, 3) := by decide +kernel
theorem dX9_fly_76 : decode cX9_fly 76 = .ok (.iconst 1, 1) := by decide +kernel
theorem dX9_fly_77 : decode cX9_fly 77 = .ok (.iadd, 1) := by decide +kernel
theorem dX9_fly_78 : decode cX9_fly 78 = .ok (.putfield 112, 3) := by decide +kernel
theorem dX9_fly_81 : decode cX9_fly 81 = .ok (.iload 8, 2) := by decide +kernel
theorem dX9_fly_83 : decode cX9_fly 83 = .ok (.iconst 2, 1) := by decide +kernel
theorem dX9_fly_84 : decode cX9_fly 84 = .ok (.if_icmp .ge 7, 3) := by decide +kernel
theorem dX9_fly_87 : decode cX9_fly 87 = .ok (.iconst 2, 1) := by decide +kernel
theorem dX9_fly_88 : decode cX9_fly 88 = .ok (.goto 5, 3) := by decide +kernel
theorem dX9_fly_91 : decode cX9_fly 91 = .ok (.iload 8, 2) := by decide +kernel
theorem dX9_fly_93 : decode cX9_fly 93 = .ok (.istore 8, 2) := by decide +kernel
theorem dX9_fly_95 : decode cX9_fly 95 = .ok (.iload 7, 2) := by decide +kernel
theorem dX9_fly_97 : decode cX9_fly 97 = .ok (.iload 8, 2) := by decide +kernel
theorem dX9_fly_99 : decode cX9_fly 99 = .ok (.iadd, 1) := by decide +kernel
theorem dX9_fly_100 : decode cX9_fly 100 = .ok (.iload 6, 2) := by decide +kernel
theorem dX9_fly_102 : decode cX9_fly 102 = .ok (.if_icmp .le 8, 3) := by decide +kernel
theorem dX9_fly_105 : decode cX9_fly 105 = .ok (.iload 6, 2) := by decide +kernel
theorem dX9_fly_107 : decode cX9_fly 107 = .ok (.goto 8, 3) := by decide +kernel
theorem dX9_fly_110 : decode cX9_fly 110 = .ok (.iload 7, 2) := by decide +kernel
theorem dX9_fly_112 : decode cX9_fly 112 = .ok (.iload 8, 2) := by decide +kernel
theorem dX9_fly_114 : decode cX9_fly 114 = .ok (.iadd, 1) := by decide +kernel
theorem dX9_fly_115 : decode cX9_fly 115 = .ok (.istore 7, 2) := by decide +kernel
theorem dX9_fly_117 : decode cX9_fly 117 = .ok (.iload 8, 2) := by decide +kernel
theorem dX9_fly_119 : decode cX9_fly 119 = .ok (.bipush 100, 2) := by decide +kernel
theorem dX9_fly_121 : decode cX9_fly 121 = .ok (.aload_n 0, 1) := by decide +kernel
theorem dX9_fly_122 : decode cX9_fly 122 = .ok (.getfield 13, 3) := by decide +kernel
theorem dX9_fly_125 : decode cX9_fly 125 = .ok (.iload_n 1, 1) := by decide +kernel
theorem dX9_fly_126 : decode cX9_fly 126 = .ok (.iaload, 1) := by decide +kernel
theorem dX9_fly_127 : decode cX9_fly 127 = .ok (.isub, 1) := by decide +kernel
theorem dX9_fly_128 : decode cX9_fly 128 = .ok (.iconst 2, 1) := by decide +kernel
theorem dX9_fly_129 : decode cX9_fly 129 = .ok (.aload_n 0, 1) := by decide +kernel
theorem dX9_fly_130 : decode cX9_fly 130 = .ok (.getfield 109, 3) := by decide +kernel
theorem dX9_fly_133 : decode cX9_fly 133 = .ok (.imul, 1) := by decide +kernel
theorem dX9_fly_134 : decode cX9_fly 134 = .ok (.isub, 1) := by decide +kernel
theorem dX9_fly_135 : decode cX9_fly 135 = .ok (.imul, 1) := by decide +kernel
theorem dX9_fly_136 : decode cX9_fly 136 = .ok (.bipush 100, 2) := by decide +kernel
theorem dX9_fly_138 : decode cX9_fly 138 = .ok (.idiv, 1) := by decide +kernel
theorem dX9_fly_139 : decode cX9_fly 139 = .ok (.istore 8, 2) := by decide +kernel
theorem dX9_fly_141 : decode cX9_fly 141 = .ok (.iload 4, 2) := by decide +kernel
theorem dX9_fly_143 : decode cX9_fly 143 = .ok (.iload 7, 2) := by decide +kernel
theorem dX9_fly_145 : decode cX9_fly 145 = .ok (.imul, 1) := by decide +kernel
theorem dX9_fly_146 : decode cX9_fly 146 = .ok (.iload 5, 2) := by decide +kernel
theorem dX9_fly_148 : decode cX9_fly 148 = .ok (.idiv, 1) := by decide +kernel
theorem dX9_fly_149 : decode cX9_fly 149 = .ok (.iload_n 2, 1) := by decide +kernel
theorem dX9_fly_150 : decode cX9_fly 150 = .ok (.iconst 4, 1) := by decide +kernel
theorem dX9_fly_151 : decode cX9_fly 151 = .ok (.idiv, 1) := by decide +kernel
theorem dX9_fly_152 : decode cX9_fly 152 = .ok (.isub, 1) := by decide +kernel
theorem dX9_fly_153 : decode cX9_fly 153 = .ok (.iconst 1, 1) := by decide +kernel
theorem dX9_fly_154 : decode cX9_fly 154 = .ok (.isub, 1) := by decide +kernel
theorem dX9_fly_155 : decode cX9_fly 155 = .ok (.istore 9, 2) := by decide +kernel
theorem dX9_fly_157 : decode cX9_fly 157 = .ok (.iload_n 2, 1) := by decide +kernel
theorem dX9_fly_158 : decode cX9_fly 158 = .ok (.iconst 4, 1) := by decide +kernel
theorem dX9_fly_159 : decode cX9_fly 159 = .ok (.irem, 1) := by decide +kernel
theorem dX9_fly_160 : decode cX9_fly 160 = .ok (.iload_n 3, 1) := by decide +kernel
theorem dX9_fly_161 : decode cX9_fly 161 = .ok (.iconst 4, 1) := by decide +kernel
theorem dX9_fly_162 : decode cX9_fly 162 = .ok (.irem, 1) := by decide +kernel
theorem dX9_fly_163 : decode cX9_fly 163 = .ok (.iload_n 2, 1) := by decide +kernel
theorem dX9_fly_164 : decode cX9_fly 164 = .ok (.iconst 4, 1) := by decide +kernel
theorem dX9_fly_165 : decode cX9_fly 165 = .ok (.irem, 1) := by decide +kernel
theorem dX9_fly_166 : decode cX9_fly 166 = .ok (.isub, 1) := by decide +kernel
theorem dX9_fly_167 : decode cX9_fly 167 = .ok (.iload 7, 2) := by decide +kernel
theorem dX9_fly_169 : decode cX9_fly 169 = .ok (.imul, 1) := by decide +kernel
theorem dX9_fly_170 : decode cX9_fly 170 = .ok (.iload 5, 2) := by decide +kernel
theorem dX9_fly_172 : decode cX9_fly 172 = .ok (.idiv, 1) := by decide +kernel
theorem dX9_fly_173 : decode cX9_fly 173 = .ok (.iadd, 1) := by decide +kernel
theorem dX9_fly_174 : decode cX9_fly 174 = .ok (.istore 10, 2) := by decide +kernel
theorem dX9_fly_176 : decode cX9_fly 176 = .ok (.aload_n 0, 1) := by decide +kernel
theorem dX9_fly_177 : decode cX9_fly 177 = .ok (.getfield 28, 3) := by decide +kernel
theorem dX9_fly_180 : decode cX9_fly 180 = .ok (.aload_n 0, 1) := by decide +kernel
theorem dX9_fly_181 : decode cX9_fly 181 = .ok (.getfield 112, 3) := by decide +kernel
theorem dX9_fly_184 : decode cX9_fly 184 = .ok (.iload 9, 2) := by decide +kernel
theorem dX9_fly_186 : decode cX9_fly 186 = .ok (.ifCond .lt 13, 3) := by decide +kernel
theorem dX9_fly_189 : decode cX9_fly 189 = .ok (.iconst 4, 1) := by decide +kernel
theorem dX9_fly_190 : decode cX9_fly 190 = .ok (.iload 9, 2) := by decide +kernel
theorem dX9_fly_192 : decode cX9_fly 192 = .ok (.imul, 1) := by decide +kernel
theorem dX9_fly_193 : decode cX9_fly 193 = .ok (.iload 10, 2) := by decide +kernel
theorem dX9_fly_195 : decode cX9_fly 195 = .ok (.iadd, 1) := by decide +kernel
theorem dX9_fly_196 : decode cX9_fly 196 = .ok (.goto 4, 3) := by decide +kernel
theorem dX9_fly_199 : decode cX9_fly 199 = .ok (.iconst (-1), 1) := by decide +kernel
theorem dX9_fly_200 : decode cX9_fly 200 = .ok (.iastore, 1) := by decide +kernel
theorem dX9_fly_201 : decode cX9_fly 201 = .ok (.goto (-137), 3) := by decide +kernel
theorem dX9_fly_204 : decode cX9_fly 204 = .ok (.return_, 1) := by decide +kernel
theorem dX9_firstMet_0 : decode cX9_firstMet 0 = .ok (.aload_n 0, 1) := by decide +kernel
theorem dX9_firstMet_1 : decode cX9_firstMet 1 = .ok (.getfield 112, 3) := by decide +kernel
theorem dX9_firstMet_4 : decode cX9_firstMet 4 = .ok (.aload_n 0, 1) := by decide +kernel
theorem dX9_firstMet_5 : decode cX9_firstMet 5 = .ok (.getfield 16, 3) := by decide +kernel
theorem dX9_firstMet_8 : decode cX9_firstMet 8 = .ok (.iload_n 1, 1) := by decide +kernel
theorem dX9_firstMet_9 : decode cX9_firstMet 9 = .ok (.iaload, 1) := by decide +kernel
theorem dX9_firstMet_10 : decode cX9_firstMet 10 = .ok (.isub, 1) := by decide +kernel
theorem dX9_firstMet_11 : decode cX9_firstMet 11 = .ok (.iconst 1, 1) := by decide +kernel
theorem dX9_firstMet_12 : decode cX9_firstMet 12 = .ok (.iadd, 1) := by decide +kernel
theorem dX9_firstMet_13 : decode cX9_firstMet 13 = .ok (.istore_n 2, 1) := by decide +kernel
theorem dX9_firstMet_14 : decode cX9_firstMet 14 = .ok (.iload_n 2, 1) := by decide +kernel
theorem dX9_firstMet_15 : decode cX9_firstMet 15 = .ok (.iconst 1, 1) := by decide +kernel
theorem dX9_firstMet_16 : decode cX9_firstMet 16 = .ok (.if_icmp .ge 7, 3) := by decide +kernel
theorem dX9_firstMet_19 : decode cX9_firstMet 19 = .ok (.iconst 1, 1) := by decide +kernel
theorem dX9_firstMet_20 : decode cX9_firstMet 20 = .ok (.goto 4, 3) := by decide +kernel
theorem dX9_firstMet_23 : decode cX9_firstMet 23 = .ok (.iload_n 2, 1) := by decide +kernel
theorem dX9_firstMet_24 : decode cX9_firstMet 24 = .ok (.istore_n 2, 1) := by decide +kernel
theorem dX9_firstMet_25 : decode cX9_firstMet 25 = .ok (.iload_n 2, 1) := by decide +kernel
theorem dX9_firstMet_26 : decode cX9_firstMet 26 = .ok (.aload_n 0, 1) := by decide +kernel
theorem dX9_firstMet_27 : decode cX9_firstMet 27 = .ok (.getfield 112, 3) := by decide +kernel
theorem dX9_firstMet_30 : decode cX9_firstMet 30 = .ok (.if_icmp .gt 19, 3) := by decide +kernel
theorem dX9_firstMet_33 : decode cX9_firstMet 33 = .ok (.aload_n 0, 1) := by decide +kernel
theorem dX9_firstMet_34 : decode cX9_firstMet 34 = .ok (.getfield 28, 3) := by decide +kernel
theorem dX9_firstMet_37 : decode cX9_firstMet 37 = .ok (.iload_n 2, 1) := by decide +kernel
theorem dX9_firstMet_38 : decode cX9_firstMet 38 = .ok (.iaload, 1) := by decide +kernel
theorem dX9_firstMet_39 : decode cX9_firstMet 39 = .ok (.iconst (-1), 1) := by decide +kernel
theorem dX9_firstMet_40 : decode cX9_firstMet 40 = .ok (.if_icmp .ne 9, 3) := by decide +kernel
theorem dX9_firstMet_43 : decode cX9_firstMet 43 = .ok (.iinc 2 1, 3) := by decide +kernel
theorem dX9_firstMet_46 : decode cX9_firstMet 46 = .ok (.goto (-21), 3) := by decide +kernel
theorem dX9_firstMet_49 : decode cX9_firstMet 49 = .ok (.iload_n 2, 1) := by decide +kernel
theorem dX9_firstMet_50 : decode cX9_firstMet 50 = .ok (.aload_n 0, 1) := by decide +kernel
theorem dX9_firstMet_51 : decode cX9_firstMet 51 = .ok (.getfield 112, 3) := by decide +kernel
theorem dX9_firstMet_54 : decode cX9_firstMet 54 = .ok (.if_icmp .le 7, 3) := by decide +kernel
theorem dX9_firstMet_57 : decode cX9_firstMet 57 = .ok (.iconst (-1), 1) := by decide +kernel
theorem dX9_firstMet_58 : decode cX9_firstMet 58 = .ok (.goto 4, 3) := by decide +kernel
theorem dX9_firstMet_61 : decode cX9_firstMet 61 = .ok (.iload_n 2, 1) := by decide +kernel
theorem dX9_firstMet_62 : decode cX9_firstMet 62 = .ok (.ireturn, 1) := by decide +kernel
set_option maxRecDepth 20000 in
theorem ggX9_flight_X9_isKind : GoodIn wsX9_flight wsX9_isKind := goodIn_r _ [6, 7, 8, 5, 9] (by decide +kernel) (by decide +kernel)
set_option maxRecDepth 20000 in
theorem gX9_flight_X9_isKind : GoodIn wsX9_flight (va_wsS RX9 105 yX9_isKind wsX9_isKind) := goodIn_app (goodIn_of _ (by decide +kernel)) ggX9_flight_X9_isKind
set_option maxRecDepth 20000 in
theorem ggX9_flight_X9_isCell : GoodIn wsX9_flight wsX9_isCell := goodIn_r _ [12, 7, 8, 5, 9] (by decide +kernel) (by decide +kernel)
set_option maxRecDepth 20000 in
theorem gX9_flight_X9_isCell : GoodIn wsX9_flight (va_wsS RX9 115 yX9_isCell wsX9_isCell) := goodIn_app (goodIn_of _ (by decide +kernel)) ggX9_flight_X9_isCell
set_option maxRecDepth 20000 in
theorem ggX9_flight_X9_fly : GoodIn wsX9_flight wsX9_fly := goodIn_r _ [16, 17, 18, 1, 19, 2, 20, 21, 5, 22, 28, 29, 30, 31, 32, 33, 34, 35, 36, 37, 38, 39, 40, 41, 42, 43, 44, 45, 46, 47, 48, 49, 50, 51, 52, 53, 54, 55, 56, 57, 58, 59, 60, 61, 62, 63, 64, 65] (by decide +kernel) (by decide +kernel)
set_option maxRecDepth 20000 in
theorem gX9_flight_X9_fly : GoodIn wsX9_flight (wsV RX9 118 RX9 yX9_fly wsX9_fly) := goodIn_app (goodIn_of _ (by decide +kernel)) ggX9_flight_X9_fly
set_option maxRecDepth 20000 in
theorem ggX9_flight_X9_firstMet : GoodIn wsX9_flight wsX9_firstMet := goodIn_r _ [26, 1, 27, 2, 28, 29, 30, 31, 32, 33, 34, 35, 36, 37, 38, 39, 40, 41, 42, 43, 44, 45, 46, 47, 48, 49, 50, 51, 52, 53, 54, 55, 56, 57, 58, 59, 60, 61, 62, 63, 64, 65] (by decide +kernel) (by decide +kernel)
set_option maxRecDepth 20000 in
theorem gX9_flight_X9_firstMet : GoodIn wsX9_flight (wsV RX9 122 RX9 yX9_firstMet wsX9_firstMet) := goodIn_app (goodIn_of _ (by decide +kernel)) ggX9_flight_X9_firstMet
theorem dX9_flight_0 : decode cX9_flight 0 = .ok (.iload_n 1, 1) := by decide +kernel
theorem dX9_flight_1 : decode cX9_flight 1 = .ok (.invokestatic 105, 3) := by decide +kernel
theorem dX9_flight_4 : decode cX9_flight 4 = .ok (.ifCond .eq 17, 3) := by decide +kernel
theorem dX9_flight_7 : decode cX9_flight 7 = .ok (.iload_n 2, 1) := by decide +kernel
theorem dX9_flight_8 : decode cX9_flight 8 = .ok (.invokestatic 115, 3) := by decide +kernel
theorem dX9_flight_11 : decode cX9_flight 11 = .ok (.ifCond .eq 10, 3) := by decide +kernel
theorem dX9_flight_14 : decode cX9_flight 14 = .ok (.iload_n 3, 1) := by decide +kernel
theorem dX9_flight_15 : decode cX9_flight 15 = .ok (.invokestatic 115, 3) := by decide +kernel
theorem dX9_flight_18 : decode cX9_flight 18 = .ok (.ifCond .ne 6, 3) := by decide +kernel
theorem dX9_flight_21 : decode cX9_flight 21 = .ok (.bipush (-2), 2) := by decide +kernel
theorem dX9_flight_23 : decode cX9_flight 23 = .ok (.ireturn, 1) := by decide +kernel
theorem dX9_flight_24 : decode cX9_flight 24 = .ok (.aload_n 0, 1) := by decide +kernel
theorem dX9_flight_25 : decode cX9_flight 25 = .ok (.iload_n 1, 1) := by decide +kernel
theorem dX9_flight_26 : decode cX9_flight 26 = .ok (.iload_n 2, 1) := by decide +kernel
theorem dX9_flight_27 : decode cX9_flight 27 = .ok (.iload_n 3, 1) := by decide +kernel
theorem dX9_flight_28 : decode cX9_flight 28 = .ok (.invokevirtual 118, 3) := by decide +kernel
theorem dX9_flight_31 : decode cX9_flight 31 = .ok (.iload 4, 2) := by decide +kernel
theorem dX9_flight_33 : decode cX9_flight 33 = .ok (.ifCond .ne 10, 3) := by decide +kernel
theorem dX9_flight_36 : decode cX9_flight 36 = .ok (.aload_n 0, 1) := by decide +kernel
theorem dX9_flight_37 : decode cX9_flight 37 = .ok (.getfield 112, 3) := by decide +kernel
theorem dX9_flight_40 : decode cX9_flight 40 = .ok (.goto 37, 3) := by decide +kernel
theorem dX9_flight_43 : decode cX9_flight 43 = .ok (.iload 4, 2) := by decide +kernel
theorem dX9_flight_45 : decode cX9_flight 45 = .ok (.iconst 1, 1) := by decide +kernel
theorem dX9_flight_46 : decode cX9_flight 46 = .ok (.if_icmp .ne 15, 3) := by decide +kernel
theorem dX9_flight_49 : decode cX9_flight 49 = .ok (.aload_n 0, 1) := by decide +kernel
theorem dX9_flight_50 : decode cX9_flight 50 = .ok (.getfield 28, 3) := by decide +kernel
theorem dX9_flight_53 : decode cX9_flight 53 = .ok (.aload_n 0, 1) := by decide +kernel
theorem dX9_flight_54 : decode cX9_flight 54 = .ok (.getfield 112, 3) := by decide +kernel
theorem dX9_flight_57 : decode cX9_flight 57 = .ok (.iaload, 1) := by decide +kernel
theorem dX9_flight_58 : decode cX9_flight 58 = .ok (.goto 19, 3) := by decide +kernel
theorem dX9_flight_61 : decode cX9_flight 61 = .ok (.iload 4, 2) := by decide +kernel
theorem dX9_flight_63 : decode cX9_flight 63 = .ok (.iconst 2, 1) := by decide +kernel
theorem dX9_flight_64 : decode cX9_flight 64 = .ok (.if_icmp .ne 11, 3) := by decide +kernel
theorem dX9_flight_67 : decode cX9_flight 67 = .ok (.aload_n 0, 1) := by decide +kernel
theorem dX9_flight_68 : decode cX9_flight 68 = .ok (.iload_n 1, 1) := by decide +kernel
theorem dX9_flight_69 : decode cX9_flight 69 = .ok (.invokevirtual 122, 3) := by decide +kernel
theorem dX9_flight_72 : decode cX9_flight 72 = .ok (.goto 5, 3) := by decide +kernel
theorem dX9_flight_75 : decode cX9_flight 75 = .ok (.bipush (-3), 2) := by decide +kernel
theorem dX9_flight_77 : decode cX9_flight 77 = .ok (.ireturn, 1) := by decide +kernel
set_option maxRecDepth 20000 in
theorem ggX9_over_X9_isKind : GoodIn wsX9_over wsX9_isKind := goodIn_r _ [6, 7, 8, 5, 9] (by decide +kernel) (by decide +kernel)
set_option maxRecDepth 20000 in
theorem gX9_over_X9_isKind : GoodIn wsX9_over (va_wsS RX9 105 yX9_isKind wsX9_isKind) := goodIn_app (goodIn_of _ (by decide +kernel)) ggX9_over_X9_isKind
set_option maxRecDepth 20000 in
theorem ggX9_over_X9_isCell : GoodIn wsX9_over wsX9_isCell := goodIn_r _ [12, 7, 8, 5, 9] (by decide +kernel) (by decide +kernel)
set_option maxRecDepth 20000 in
theorem gX9_over_X9_isCell : GoodIn wsX9_over (va_wsS RX9 115 yX9_isCell wsX9_isCell) := goodIn_app (goodIn_of _ (by decide +kernel)) ggX9_over_X9_isCell
set_option maxRecDepth 20000 in
theorem ggX9_over_X9_in : GoodIn wsX9_over wsX9_in := goodIn_r _ [9] (by decide +kernel) (by decide +kernel)
set_option maxRecDepth 20000 in
theorem gX9_over_X9_in : GoodIn wsX9_over (va_wsS RX9 97 yX9_in wsX9_in) := goodIn_app (goodIn_of _ (by decide +kernel)) ggX9_over_X9_in
set_option maxRecDepth 20000 in
theorem ggX9_over_X9_fly : GoodIn wsX9_over wsX9_fly := goodIn_r _ [16, 17, 18, 2, 19, 1, 20, 21, 5, 22, 23, 24, 25, 26, 27, 28, 29, 30, 31, 32, 33, 34, 35, 36, 37, 38, 39, 40, 41, 42, 43, 44, 45, 46, 47, 48, 49, 50, 51, 52, 53, 54, 55, 56, 57, 58, 59, 60] (by decide +kernel) (by decide +kernel)
set_option maxRecDepth 20000 in
theorem gX9_over_X9_fly : GoodIn wsX9_over (wsV RX9 118 RX9 yX9_fly wsX9_fly) := goodIn_app (goodIn_of _ (by decide +kernel)) ggX9_over_X9_fly
theorem dX9_over_0 : decode cX9_over 0 = .ok (.iload_n 1, 1) := by decide +kernel
theorem dX9_over_1 : decode cX9_over 1 = .ok (.invokestatic 105, 3) := by decide +kernel
theorem dX9_over_4 : decode cX9_over 4 = .ok (.ifCond .eq 17, 3) := by decide +kernel
theorem dX9_over_7 : decode cX9_over 7 = .ok (.iload_n 2, 1) := by decide +kernel
theorem dX9_over_8 : decode cX9_over 8 = .ok (.invokestatic 115, 3) := by decide +kernel
theorem dX9_over_11 : decode cX9_over 11 = .ok (.ifCond .eq 10, 3) := by decide +kernel
theorem dX9_over_14 : decode cX9_over 14 = .ok (.iload_n 3, 1) := by decide +kernel
theorem dX9_over_15 : decode cX9_over 15 = .ok (.invokestatic 115, 3) := by decide +kernel
theorem dX9_over_18 : decode cX9_over 18 = .ok (.ifCond .ne 6, 3) := by decide +kernel
theorem dX9_over_21 : decode cX9_over 21 = .ok (.bipush (-2), 2) := by decide +kernel
theorem dX9_over_23 : decode cX9_over 23 = .ok (.ireturn, 1) := by decide +kernel
theorem dX9_over_24 : decode cX9_over 24 = .ok (.iload 4, 2) := by decide +kernel
theorem dX9_over_26 : decode cX9_over 26 = .ok (.iconst 1, 1) := by decide +kernel
theorem dX9_over_27 : decode cX9_over 27 = .ok (.bipush 60, 2) := by decide +kernel
theorem dX9_over_29 : decode cX9_over 29 = .ok (.invokestatic 97, 3) := by decide +kernel
theorem dX9_over_32 : decode cX9_over 32 = .ok (.ifCond .ne 6, 3) := by decide +kernel
theorem dX9_over_35 : decode cX9_over 35 = .ok (.bipush (-3), 2) := by decide +kernel
theorem dX9_over_37 : decode cX9_over 37 = .ok (.ireturn, 1) := by decide +kernel
theorem dX9_over_38 : decode cX9_over 38 = .ok (.aload_n 0, 1) := by decide +kernel
theorem dX9_over_39 : decode cX9_over 39 = .ok (.iload_n 1, 1) := by decide +kernel
theorem dX9_over_40 : decode cX9_over 40 = .ok (.iload_n 2, 1) := by decide +kernel
theorem dX9_over_41 : decode cX9_over 41 = .ok (.iload_n 3, 1) := by decide +kernel
theorem dX9_over_42 : decode cX9_over 42 = .ok (.invokevirtual 118, 3) := by decide +kernel
theorem dX9_over_45 : decode cX9_over 45 = .ok (.aload_n 0, 1) := by decide +kernel
theorem dX9_over_46 : decode cX9_over 46 = .ok (.getfield 28, 3) := by decide +kernel
theorem dX9_over_49 : decode cX9_over 49 = .ok (.iload 4, 2) := by decide +kernel
theorem dX9_over_51 : decode cX9_over 51 = .ok (.aload_n 0, 1) := by decide +kernel
theorem dX9_over_52 : decode cX9_over 52 = .ok (.getfield 112, 3) := by decide +kernel
theorem dX9_over_55 : decode cX9_over 55 = .ok (.if_icmp .ge 8, 3) := by decide +kernel
theorem dX9_over_58 : decode cX9_over 58 = .ok (.iload 4, 2) := by decide +kernel
theorem dX9_over_60 : decode cX9_over 60 = .ok (.goto 7, 3) := by decide +kernel
theorem dX9_over_63 : decode cX9_over 63 = .ok (.aload_n 0, 1) := by decide +kernel
theorem dX9_over_64 : decode cX9_over 64 = .ok (.getfield 112, 3) := by decide +kernel
theorem dX9_over_67 : decode cX9_over 67 = .ok (.iaload, 1) := by decide +kernel
theorem dX9_over_68 : decode cX9_over 68 = .ok (.ireturn, 1) := by decide +kernel
set_option maxRecDepth 20000 in
theorem ggX9_player_X9_isPlayer : GoodIn wsX9_player wsX9_isPlayer := goodIn_r _ [6, 7, 8, 5, 9] (by decide +kernel) (by decide +kernel)
set_option maxRecDepth 20000 in
theorem gX9_player_X9_isPlayer : GoodIn wsX9_player (va_wsS RX9 125 yX9_isPlayer wsX9_isPlayer) := goodIn_app (goodIn_of _ (by decide +kernel)) ggX9_player_X9_isPlayer
set_option maxRecDepth 20000 in
theorem ggX9_player_X9_in : GoodIn wsX9_player wsX9_in := goodIn_r _ [9] (by decide +kernel) (by decide +kernel)
set_option maxRecDepth 20000 in
theorem gX9_player_X9_in : GoodIn wsX9_player (va_wsS RX9 97 yX9_in wsX9_in) := goodIn_app (goodIn_of _ (by decide +kernel)) ggX9_player_X9_in
theorem dX9_player_0 : decode cX9_player 0 = .ok (.iload_n 1, 1) := by decide +kernel
theorem dX9_player_1 : decode cX9_player 1 = .ok (.invokestatic 125, 3) := by decide +kernel
theorem dX9_player_4 : decode cX9_player 4 = .ok (.ifCond .ne 6, 3) := by decide +kernel
theorem dX9_player_7 : decode cX9_player 7 = .ok (.bipush (-2), 2) := by decide +kernel
theorem dX9_player_9 : decode cX9_player 9 = .ok (.ireturn, 1) := by decide +kernel
theorem dX9_player_10 : decode cX9_player 10 = .ok (.iload_n 2, 1) := by decide +kernel
theorem dX9_player_11 : decode cX9_player 11 = .ok (.iconst 1, 1) := by decide +kernel
theorem dX9_player_12 : decode cX9_player 12 = .ok (.bipush 20, 2) := by decide +kernel
theorem dX9_player_14 : decode cX9_player 14 = .ok (.invokestatic 97, 3) := by decide +kernel
theorem dX9_player_17 : decode cX9_player 17 = .ok (.ifCond .eq 12, 3) := by decide +kernel
theorem dX9_player_20 : decode cX9_player 20 = .ok (.iload_n 3, 1) := by decide +kernel
theorem dX9_player_21 : decode cX9_player 21 = .ok (.iconst 0, 1) := by decide +kernel
theorem dX9_player_22 : decode cX9_player 22 = .ok (.iconst 2, 1) := by decide +kernel
theorem dX9_player_23 : decode cX9_player 23 = .ok (.invokestatic 97, 3) := by decide +kernel
theorem dX9_player_26 : decode cX9_player 26 = .ok (.ifCond .ne 6, 3) := by decide +kernel
theorem dX9_player_29 : decode cX9_player 29 = .ok (.bipush (-3), 2) := by decide +kernel
theorem dX9_player_31 : decode cX9_player 31 = .ok (.ireturn, 1) := by decide +kernel
theorem dX9_player_32 : decode cX9_player 32 = .ok (.aload_n 0, 1) := by decide +kernel
theorem dX9_player_33 : decode cX9_player 33 = .ok (.getfield 19, 3) := by decide +kernel
theorem dX9_player_36 : decode cX9_player 36 = .ok (.iload_n 1, 1) := by decide +kernel
theorem dX9_player_37 : decode cX9_player 37 = .ok (.iload_n 2, 1) := by decide +kernel
theorem dX9_player_38 : decode cX9_player 38 = .ok (.iastore, 1) := by decide +kernel
theorem dX9_player_39 : decode cX9_player 39 = .ok (.aload_n 0, 1) := by decide +kernel
theorem dX9_player_40 : decode cX9_player 40 = .ok (.getfield 22, 3) := by decide +kernel
theorem dX9_player_43 : decode cX9_player 43 = .ok (.iload_n 1, 1) := by decide +kernel
theorem dX9_player_44 : decode cX9_player 44 = .ok (.iload_n 3, 1) := by decide +kernel
theorem dX9_player_45 : decode cX9_player 45 = .ok (.iastore, 1) := by decide +kernel
theorem dX9_player_46 : decode cX9_player 46 = .ok (.iconst 1, 1) := by decide +kernel
theorem dX9_player_47 : decode cX9_player 47 = .ok (.ireturn, 1) := by decide +kernel
set_option maxRecDepth 20000 in
theorem ggX9_run_X9_isPlayer : GoodIn wsX9_run wsX9_isPlayer := goodIn_r _ [5, 6, 7, 4, 8] (by decide +kernel) (by decide +kernel)
set_option maxRecDepth 20000 in
theorem gX9_run_X9_isPlayer : GoodIn wsX9_run (va_wsS RX9 125 yX9_isPlayer wsX9_isPlayer) := goodIn_app (goodIn_of _ (by decide +kernel)) ggX9_run_X9_isPlayer
set_option maxRecDepth 20000 in
theorem ggX9_run_X9_in : GoodIn wsX9_run wsX9_in := goodIn_r _ [8] (by decide +kernel) (by decide +kernel)
set_option maxRecDepth 20000 in
theorem gX9_run_X9_in : GoodIn wsX9_run (va_wsS RX9 97 yX9_in wsX9_in) := goodIn_app (goodIn_of _ (by decide +kernel)) ggX9_run_X9_in
theorem dX9_run_0 : decode cX9_run 0 = .ok (.iload_n 1, 1) := by decide +kernel
theorem dX9_run_1 : decode cX9_run 1 = .ok (.invokestatic 125, 3) := by decide +kernel
theorem dX9_run_4 : decode cX9_run 4 = .ok (.ifCond .ne 6, 3) := by decide +kernel
theorem dX9_run_7 : decode cX9_run 7 = .ok (.bipush (-2), 2) := by decide +kernel
theorem dX9_run_9 : decode cX9_run 9 = .ok (.ireturn, 1) := by decide +kernel
theorem dX9_run_10 : decode cX9_run 10 = .ok (.iload_n 2, 1) := by decide +kernel
theorem dX9_run_11 : decode cX9_run 11 = .ok (.iconst 0, 1) := by decide +kernel
theorem dX9_run_12 : decode cX9_run 12 = .ok (.bipush 100, 2) := by decide +kernel
theorem dX9_run_14 : decode cX9_run 14 = .ok (.invokestatic 97, 3) := by decide +kernel
theorem dX9_run_17 : decode cX9_run 17 = .ok (.ifCond .ne 6, 3) := by decide +kernel
theorem dX9_run_20 : decode cX9_run 20 = .ok (.bipush (-3), 2) := by decide +kernel
theorem dX9_run_22 : decode cX9_run 22 = .ok (.ireturn, 1) := by decide +kernel
theorem dX9_run_23 : decode cX9_run 23 = .ok (.aload_n 0, 1) := by decide +kernel
theorem dX9_run_24 : decode cX9_run 24 = .ok (.getfield 25, 3) := by decide +kernel
theorem dX9_run_27 : decode cX9_run 27 = .ok (.iload_n 1, 1) := by decide +kernel
theorem dX9_run_28 : decode cX9_run 28 = .ok (.aload_n 0, 1) := by decide +kernel
theorem dX9_run_29 : decode cX9_run 29 = .ok (.getfield 25, 3) := by decide +kernel
theorem dX9_run_32 : decode cX9_run 32 = .ok (.iload_n 1, 1) := by decide +kernel
theorem dX9_run_33 : decode cX9_run 33 = .ok (.iaload, 1) := by decide +kernel
theorem dX9_run_34 : decode cX9_run 34 = .ok (.iload_n 2, 1) := by decide +kernel
theorem dX9_run_35 : decode cX9_run 35 = .ok (.iadd, 1) := by decide +kernel
theorem dX9_run_36 : decode cX9_run 36 = .ok (.bipush 100, 2) := by decide +kernel
theorem dX9_run_38 : decode cX9_run 38 = .ok (.if_icmp .le 8, 3) := by decide +kernel
theorem dX9_run_41 : decode cX9_run 41 = .ok (.bipush 100, 2) := by decide +kernel
theorem dX9_run_43 : decode cX9_run 43 = .ok (.goto 11, 3) := by decide +kernel
theorem dX9_run_46 : decode cX9_run 46 = .ok (.aload_n 0, 1) := by decide +kernel
theorem dX9_run_47 : decode cX9_run 47 = .ok (.getfield 25, 3) := by decide +kernel
theorem dX9_run_50 : decode cX9_run 50 = .ok (.iload_n 1, 1) := by decide +kernel
theorem dX9_run_51 : decode cX9_run 51 = .ok (.iaload, 1) := by decide +kernel
theorem dX9_run_52 : decode cX9_run 52 = .ok (.iload_n 2, 1) := by decide +kernel
theorem dX9_run_53 : decode cX9_run 53 = .ok (.iadd, 1) := by decide +kernel
theorem dX9_run_54 : decode cX9_run 54 = .ok (.iastore, 1) := by decide +kernel
theorem dX9_run_55 : decode cX9_run 55 = .ok (.aload_n 0, 1) := by decide +kernel
theorem dX9_run_56 : decode cX9_run 56 = .ok (.getfield 25, 3) := by decide +kernel
theorem dX9_run_59 : decode cX9_run 59 = .ok (.iload_n 1, 1) := by decide +kernel
theorem dX9_run_60 : decode cX9_run 60 = .ok (.iaload, 1) := by decide +kernel
theorem dX9_run_61 : decode cX9_run 61 = .ok (.ireturn, 1) := by decide +kernel
set_option maxRecDepth 20000 in
theorem ggX9_rest_X9_isPlayer : GoodIn wsX9_rest wsX9_isPlayer := goodIn_r _ [5, 6, 7, 4, 8] (by decide +kernel) (by decide +kernel)
set_option maxRecDepth 20000 in
theorem gX9_rest_X9_isPlayer : GoodIn wsX9_rest (va_wsS RX9 125 yX9_isPlayer wsX9_isPlayer) := goodIn_app (goodIn_of _ (by decide +kernel)) ggX9_rest_X9_isPlayer
set_option maxRecDepth 20000 in
theorem ggX9_rest_X9_in : GoodIn wsX9_rest wsX9_in := goodIn_r _ [8] (by decide +kernel) (by decide +kernel)
set_option maxRecDepth 20000 in
theorem gX9_rest_X9_in : GoodIn wsX9_rest (va_wsS RX9 97 yX9_in wsX9_in) := goodIn_app (goodIn_of _ (by decide +kernel)) ggX9_rest_X9_in
theorem dX9_rest_0 : decode cX9_rest 0 = .ok (.iload_n 1, 1) := by decide +kernel
theorem dX9_rest_1 : decode cX9_rest 1 = .ok (.invokestatic 125, 3) := by decide +kernel
theorem dX9_rest_4 : decode cX9_rest 4 = .ok (.ifCond .ne 6, 3) := by decide +kernel
theorem dX9_rest_7 : decode cX9_rest 7 = .ok (.bipush (-2), 2) := by decide +kernel
theorem dX9_rest_9 : decode cX9_rest 9 = .ok (.ireturn, 1) := by decide +kernel
theorem dX9_rest_10 : decode cX9_rest 10 = .ok (.iload_n 2, 1) := by decide +kernel
theorem dX9_rest_11 : decode cX9_rest 11 = .ok (.iconst 0, 1) := by decide +kernel
theorem dX9_rest_12 : decode cX9_rest 12 = .ok (.bipush 100, 2) := by decide +kernel
theorem dX9_rest_14 : decode cX9_rest 14 = .ok (.invokestatic 97, 3) := by decide +kernel
theorem dX9_rest_17 : decode cX9_rest 17 = .ok (.ifCond .ne 6, 3) := by decide +kernel
theorem dX9_rest_20 : decode cX9_rest 20 = .ok (.bipush (-3), 2) := by decide +kernel
theorem dX9_rest_22 : decode cX9_rest 22 = .ok (.ireturn, 1) := by decide +kernel
theorem dX9_rest_23 : decode cX9_rest 23 = .ok (.aload_n 0, 1) := by decide +kernel
theorem dX9_rest_24 : decode cX9_rest 24 = .ok (.getfield 25, 3) := by decide +kernel
theorem dX9_rest_27 : decode cX9_rest 27 = .ok (.iload_n 1, 1) := by decide +kernel
theorem dX9_rest_28 : decode cX9_rest 28 = .ok (.aload_n 0, 1) := by decide +kernel
theorem dX9_rest_29 : decode cX9_rest 29 = .ok (.getfield 25, 3) := by decide +kernel
theorem dX9_rest_32 : decode cX9_rest 32 = .ok (.iload_n 1, 1) := by decide +kernel
theorem dX9_rest_33 : decode cX9_rest 33 = .ok (.iaload, 1) := by decide +kernel
theorem dX9_rest_34 : decode cX9_rest 34 = .ok (.iload_n 2, 1) := by decide +kernel
theorem dX9_rest_35 : decode cX9_rest 35 = .ok (.if_icmp .ge 7, 3) := by decide +kernel
theorem dX9_rest_38 : decode cX9_rest 38 = .ok (.iconst 0, 1) := by decide +kernel
theorem dX9_rest_39 : decode cX9_rest 39 = .ok (.goto 11, 3) := by decide +kernel
theorem dX9_rest_42 : decode cX9_rest 42 = .ok (.aload_n 0, 1) := by decide +kernel
theorem dX9_rest_43 : decode cX9_rest 43 = .ok (.getfield 25, 3) := by decide +kernel
theorem dX9_rest_46 : decode cX9_rest 46 = .ok (.iload_n 1, 1) := by decide +kernel
theorem dX9_rest_47 : decode cX9_rest 47 = .ok (.iaload, 1) := by decide +kernel
theorem dX9_rest_48 : decode cX9_rest 48 = .ok (.iload_n 2, 1) := by decide +kernel
theorem dX9_rest_49 : decode cX9_rest 49 = .ok (.isub, 1) := by decide +kernel
theorem dX9_rest_50 : decode cX9_rest 50 = .ok (.iastore, 1) := by decide +kernel
theorem dX9_rest_51 : decode cX9_rest 51 = .ok (.aload_n 0, 1) := by decide +kernel
theorem dX9_rest_52 : decode cX9_rest 52 = .ok (.getfield 25, 3) := by decide +kernel
theorem dX9_rest_55 : decode cX9_rest 55 = .ok (.iload_n 1, 1) := by decide +kernel
theorem dX9_rest_56 : decode cX9_rest 56 = .ok (.iaload, 1) := by decide +kernel
theorem dX9_rest_57 : decode cX9_rest 57 = .ok (.ireturn, 1) := by decide +kernel
theorem dX9_stride_0 : decode cX9_stride 0 = .ok (.aload_n 0, 1) := by decide +kernel
theorem dX9_stride_1 : decode cX9_stride 1 = .ok (.getfield 19, 3) := by decide +kernel
theorem dX9_stride_4 : decode cX9_stride 4 = .ok (.iload_n 1, 1) := by decide +kernel
theorem dX9_stride_5 : decode cX9_stride 5 = .ok (.iaload, 1) := by decide +kernel
theorem dX9_stride_6 : decode cX9_stride 6 = .ok (.sipush 200, 3) := by decide +kernel
theorem dX9_stride_9 : decode cX9_stride 9 = .ok (.aload_n 0, 1) := by decide +kernel
theorem dX9_stride_10 : decode cX9_stride 10 = .ok (.getfield 25, 3) := by decide +kernel
theorem dX9_stride_13 : decode cX9_stride 13 = .ok (.iload_n 1, 1) := by decide +kernel
theorem dX9_stride_14 : decode cX9_stride 14 = .ok (.iaload, 1) := by decide +kernel
theorem dX9_stride_15 : decode cX9_stride 15 = .ok (.isub, 1) := by decide +kernel
theorem dX9_stride_16 : decode cX9_stride 16 = .ok (.imul, 1) := by decide +kernel
theorem dX9_stride_17 : decode cX9_stride 17 = .ok (.sipush 200, 3) := by decide +kernel
theorem dX9_stride_20 : decode cX9_stride 20 = .ok (.idiv, 1) := by decide +kernel
theorem dX9_stride_21 : decode cX9_stride 21 = .ok (.istore_n 2, 1) := by decide +kernel
theorem dX9_stride_22 : decode cX9_stride 22 = .ok (.iload_n 2, 1) := by decide +kernel
theorem dX9_stride_23 : decode cX9_stride 23 = .ok (.iconst 1, 1) := by decide +kernel
theorem dX9_stride_24 : decode cX9_stride 24 = .ok (.if_icmp .ge 7, 3) := by decide +kernel
theorem dX9_stride_27 : decode cX9_stride 27 = .ok (.iconst 1, 1) := by decide +kernel
theorem dX9_stride_28 : decode cX9_stride 28 = .ok (.goto 4, 3) := by decide +kernel
theorem dX9_stride_31 : decode cX9_stride 31 = .ok (.iload_n 2, 1) := by decide +kernel
theorem dX9_stride_32 : decode cX9_stride 32 = .ok (.ireturn, 1) := by decide +kernel
set_option maxRecDepth 20000 in
theorem ggX9_over0_X9_far : GoodIn wsX9_over0 wsX9_far := goodIn_r _ [6, 7, 8, 5, 9] (by decide +kernel) (by decide +kernel)
set_option maxRecDepth 20000 in
theorem gX9_over0_X9_far : GoodIn wsX9_over0 (va_wsS RX9 128 yX9_far wsX9_far) := goodIn_app (goodIn_of _ (by decide +kernel)) ggX9_over0_X9_far
set_option maxRecDepth 20000 in
theorem ggX9_over0_X9_stride : GoodIn wsX9_over0 wsX9_stride := goodIn_r _ [13, 14, 15, 16, 17, 18, 19, 20, 21, 22, 23, 24, 25, 26, 27, 28, 29, 30, 31, 32, 33, 34, 35, 36, 37, 38, 39, 40, 41, 42, 43, 44, 45, 46, 47, 48, 49, 50, 51, 52, 53] (by decide +kernel) (by decide +kernel)
set_option maxRecDepth 20000 in
theorem gX9_over0_X9_stride : GoodIn wsX9_over0 (wsV RX9 132 RX9 yX9_stride wsX9_stride) := goodIn_app (goodIn_of _ (by decide +kernel)) ggX9_over0_X9_stride
theorem dX9_over0_0 : decode cX9_over0 0 = .ok (.iload_n 2, 1) := by decide +kernel
theorem dX9_over0_1 : decode cX9_over0 1 = .ok (.aload_n 0, 1) := by decide +kernel
theorem dX9_over0_2 : decode cX9_over0 2 = .ok (.getfield 28, 3) := by decide +kernel
theorem dX9_over0_5 : decode cX9_over0 5 = .ok (.iload_n 3, 1) := by decide +kernel
theorem dX9_over0_6 : decode cX9_over0 6 = .ok (.iaload, 1) := by decide +kernel
theorem dX9_over0_7 : decode cX9_over0 7 = .ok (.invokestatic 128, 3) := by decide +kernel
theorem dX9_over0_10 : decode cX9_over0 10 = .ok (.aload_n 0, 1) := by decide +kernel
theorem dX9_over0_11 : decode cX9_over0 11 = .ok (.getfield 22, 3) := by decide +kernel
theorem dX9_over0_14 : decode cX9_over0 14 = .ok (.iload_n 1, 1) := by decide +kernel
theorem dX9_over0_15 : decode cX9_over0 15 = .ok (.iaload, 1) := by decide +kernel
theorem dX9_over0_16 : decode cX9_over0 16 = .ok (.isub, 1) := by decide +kernel
theorem dX9_over0_17 : decode cX9_over0 17 = .ok (.istore 4, 2) := by decide +kernel
theorem dX9_over0_19 : decode cX9_over0 19 = .ok (.iload_n 3, 1) := by decide +kernel
theorem dX9_over0_20 : decode cX9_over0 20 = .ok (.aload_n 0, 1) := by decide +kernel
theorem dX9_over0_21 : decode cX9_over0 21 = .ok (.iload_n 1, 1) := by decide +kernel
theorem dX9_over0_22 : decode cX9_over0 22 = .ok (.invokevirtual 132, 3) := by decide +kernel
theorem dX9_over0_25 : decode cX9_over0 25 = .ok (.imul, 1) := by decide +kernel
theorem dX9_over0_26 : decode cX9_over0 26 = .ok (.bipush 10, 2) := by decide +kernel
theorem dX9_over0_28 : decode cX9_over0 28 = .ok (.idiv, 1) := by decide +kernel
theorem dX9_over0_29 : decode cX9_over0 29 = .ok (.iload 4, 2) := by decide +kernel
theorem dX9_over0_31 : decode cX9_over0 31 = .ok (.ifCond .ge 7, 3) := by decide +kernel
theorem dX9_over0_34 : decode cX9_over0 34 = .ok (.iconst 0, 1) := by decide +kernel
theorem dX9_over0_35 : decode cX9_over0 35 = .ok (.goto 5, 3) := by decide +kernel
theorem dX9_over0_38 : decode cX9_over0 38 = .ok (.iload 4, 2) := by decide +kernel
theorem dX9_over0_40 : decode cX9_over0 40 = .ok (.isub, 1) := by decide +kernel
theorem dX9_over0_41 : decode cX9_over0 41 = .ok (.ireturn, 1) := by decide +kernel
set_option maxRecDepth 20000 in
theorem ggX9_slackOf_X9_firstMet : GoodIn wsX9_slackOf wsX9_firstMet := goodIn_r _ [7, 1, 8, 2, 26, 27, 28, 29, 30, 31, 32, 33, 34, 35, 36, 37, 38, 39, 40, 41, 42, 43, 44, 45, 46, 47, 48, 49, 50, 51, 52, 53, 54, 55, 56, 57, 58, 59, 60, 61, 62, 63] (by decide +kernel) (by decide +kernel)
set_option maxRecDepth 20000 in
theorem gX9_slackOf_X9_firstMet : GoodIn wsX9_slackOf (wsV RX9 122 RX9 yX9_firstMet wsX9_firstMet) := goodIn_app (goodIn_of _ (by decide +kernel)) ggX9_slackOf_X9_firstMet
set_option maxRecDepth 20000 in
theorem ggX9_slackOf_X9_over0 : GoodIn wsX9_slackOf wsX9_over0 := goodIn_r _ [12, 2, 13, 14, 15, 6, 16, 17, 18, 19, 20, 21, 22, 23, 24, 25, 26, 27, 28, 29, 30, 31, 32, 33, 34, 35, 36, 37, 38, 39, 40, 41, 42, 43, 44, 45, 46, 47, 48, 49, 50, 51, 52, 53, 54, 55, 56, 57, 58, 59, 60, 61, 62, 63] (by decide +kernel) (by decide +kernel)
set_option maxRecDepth 20000 in
theorem gX9_slackOf_X9_over0 : GoodIn wsX9_slackOf (wsV RX9 135 RX9 yX9_over0 wsX9_over0) := goodIn_app (goodIn_of _ (by decide +kernel)) ggX9_slackOf_X9_over0
theorem dX9_slackOf_0 : decode cX9_slackOf 0 = .ok (.aload_n 0, 1) := by decide +kernel
theorem dX9_slackOf_1 : decode cX9_slackOf 1 = .ok (.iload_n 3, 1) := by decide +kernel
theorem dX9_slackOf_2 : decode cX9_slackOf 2 = .ok (.invokevirtual 122, 3) := by decide +kernel
theorem dX9_slackOf_5 : decode cX9_slackOf 5 = .ok (.istore 4, 2) := by decide +kernel
theorem dX9_slackOf_7 : decode cX9_slackOf 7 = .ok (.bipush (-100), 2) := by decide +kernel
theorem dX9_slackOf_9 : decode cX9_slackOf 9 = .ok (.istore 5, 2) := by decide +kernel
theorem dX9_slackOf_11 : decode cX9_slackOf 11 = .ok (.iload 4, 2) := by decide +kernel
theorem dX9_slackOf_13 : decode cX9_slackOf 13 = .ok (.istore 6, 2) := by decide +kernel
theorem dX9_slackOf_15 : decode cX9_slackOf 15 = .ok (.iload 6, 2) := by decide +kernel
theorem dX9_slackOf_17 : decode cX9_slackOf 17 = .ok (.aload_n 0, 1) := by decide +kernel
theorem dX9_slackOf_18 : decode cX9_slackOf 18 = .ok (.getfield 112, 3) := by decide +kernel
theorem dX9_slackOf_21 : decode cX9_slackOf 21 = .ok (.if_icmp .gt 57, 3) := by decide +kernel
theorem dX9_slackOf_24 : decode cX9_slackOf 24 = .ok (.iload 4, 2) := by decide +kernel
theorem dX9_slackOf_26 : decode cX9_slackOf 26 = .ok (.iconst (-1), 1) := by decide +kernel
theorem dX9_slackOf_27 : decode cX9_slackOf 27 = .ok (.if_icmp .eq 51, 3) := by decide +kernel
theorem dX9_slackOf_30 : decode cX9_slackOf 30 = .ok (.aload_n 0, 1) := by decide +kernel
theorem dX9_slackOf_31 : decode cX9_slackOf 31 = .ok (.getfield 28, 3) := by decide +kernel
theorem dX9_slackOf_34 : decode cX9_slackOf 34 = .ok (.iload 6, 2) := by decide +kernel
theorem dX9_slackOf_36 : decode cX9_slackOf 36 = .ok (.iaload, 1) := by decide +kernel
theorem dX9_slackOf_37 : decode cX9_slackOf 37 = .ok (.iconst (-1), 1) := by decide +kernel
theorem dX9_slackOf_38 : decode cX9_slackOf 38 = .ok (.if_icmp .ne 8, 3) := by decide +kernel
theorem dX9_slackOf_41 : decode cX9_slackOf 41 = .ok (.bipush (-100), 2) := by decide +kernel
theorem dX9_slackOf_43 : decode cX9_slackOf 43 = .ok (.goto 11, 3) := by decide +kernel
theorem dX9_slackOf_46 : decode cX9_slackOf 46 = .ok (.aload_n 0, 1) := by decide +kernel
theorem dX9_slackOf_47 : decode cX9_slackOf 47 = .ok (.iload_n 1, 1) := by decide +kernel
theorem dX9_slackOf_48 : decode cX9_slackOf 48 = .ok (.iload_n 2, 1) := by decide +kernel
theorem dX9_slackOf_49 : decode cX9_slackOf 49 = .ok (.iload 6, 2) := by decide +kernel
theorem dX9_slackOf_51 : decode cX9_slackOf 51 = .ok (.invokevirtual 135, 3) := by decide +kernel
theorem dX9_slackOf_54 : decode cX9_slackOf 54 = .ok (.istore 7, 2) := by decide +kernel
theorem dX9_slackOf_56 : decode cX9_slackOf 56 = .ok (.iload 7, 2) := by decide +kernel
theorem dX9_slackOf_58 : decode cX9_slackOf 58 = .ok (.iload 5, 2) := by decide +kernel
theorem dX9_slackOf_60 : decode cX9_slackOf 60 = .ok (.if_icmp .le 8, 3) := by decide +kernel
theorem dX9_slackOf_63 : decode cX9_slackOf 63 = .ok (.iload 7, 2) := by decide +kernel
theorem dX9_slackOf_65 : decode cX9_slackOf 65 = .ok (.goto 5, 3) := by decide +kernel
theorem dX9_slackOf_68 : decode cX9_slackOf 68 = .ok (.iload 5, 2) := by decide +kernel
theorem dX9_slackOf_70 : decode cX9_slackOf 70 = .ok (.istore 5, 2) := by decide +kernel
theorem dX9_slackOf_72 : decode cX9_slackOf 72 = .ok (.iinc 6 1, 3) := by decide +kernel
theorem dX9_slackOf_75 : decode cX9_slackOf 75 = .ok (.goto (-60), 3) := by decide +kernel
theorem dX9_slackOf_78 : decode cX9_slackOf 78 = .ok (.iload 5, 2) := by decide +kernel
theorem dX9_slackOf_80 : decode cX9_slackOf 80 = .ok (.ireturn, 1) := by decide +kernel
set_option maxRecDepth 20000 in
theorem ggX9_slack_X9_isPlayer : GoodIn wsX9_slack wsX9_isPlayer := goodIn_r _ [4, 5, 6, 3, 7] (by decide +kernel) (by decide +kernel)
set_option maxRecDepth 20000 in
theorem gX9_slack_X9_isPlayer : GoodIn wsX9_slack (va_wsS RX9 125 yX9_isPlayer wsX9_isPlayer) := goodIn_app (goodIn_of _ (by decide +kernel)) ggX9_slack_X9_isPlayer
set_option maxRecDepth 20000 in
theorem ggX9_slack_X9_isCell : GoodIn wsX9_slack wsX9_isCell := goodIn_r _ [10, 5, 6, 3, 7] (by decide +kernel) (by decide +kernel)
set_option maxRecDepth 20000 in
theorem gX9_slack_X9_isCell : GoodIn wsX9_slack (va_wsS RX9 115 yX9_isCell wsX9_isCell) := goodIn_app (goodIn_of _ (by decide +kernel)) ggX9_slack_X9_isCell
set_option maxRecDepth 20000 in
theorem ggX9_slack_X9_isKind : GoodIn wsX9_slack wsX9_isKind := goodIn_r _ [13, 5, 6, 3, 7] (by decide +kernel) (by decide +kernel)
set_option maxRecDepth 20000 in
theorem gX9_slack_X9_isKind : GoodIn wsX9_slack (va_wsS RX9 105 yX9_isKind wsX9_isKind) := goodIn_app (goodIn_of _ (by decide +kernel)) ggX9_slack_X9_isKind
set_option maxRecDepth 20000 in
theorem ggX9_slack_X9_fly : GoodIn wsX9_slack wsX9_fly := goodIn_r _ [17, 18, 19, 20, 21, 22, 23, 24, 3, 25, 49, 50, 51, 52, 53, 54, 55, 56, 57, 58, 59, 60, 61, 62, 63, 64, 65, 66, 67, 68, 69, 70, 71, 72, 73, 74, 75, 76, 77, 78, 79, 80, 81, 82, 83, 84, 85, 86] (by decide +kernel) (by decide +kernel)
set_option maxRecDepth 20000 in
theorem gX9_slack_X9_fly : GoodIn wsX9_slack (wsV RX9 118 RX9 yX9_fly wsX9_fly) := goodIn_app (goodIn_of _ (by decide +kernel)) ggX9_slack_X9_fly
set_option maxRecDepth 20000 in
theorem ggX9_slack_X9_slackOf : GoodIn wsX9_slack wsX9_slackOf := goodIn_r _ [29, 20, 22, 30, 31, 32, 3, 33, 34, 35, 36, 37, 38, 39, 40, 41, 42, 23, 24, 25, 43, 44, 45, 46, 47, 48, 49, 50, 51, 52, 53, 54, 55, 56, 57, 58, 59, 60, 61, 62, 63, 64, 65, 66, 67, 68, 69, 70, 71, 72, 73, 74, 75, 76, 77, 78, 79, 80, 81, 82, 83, 84, 85, 86] (by decide +kernel) (by decide +kernel)
set_option maxRecDepth 20000 in
theorem gX9_slack_X9_slackOf : GoodIn wsX9_slack (wsV RX9 139 RX9 yX9_slackOf wsX9_slackOf) := goodIn_app (goodIn_of _ (by decide +kernel)) ggX9_slack_X9_slackOf
theorem dX9_slack_0 : decode cX9_slack 0 = .ok (.iload_n 1, 1) := by decide +kernel
theorem dX9_slack_1 : decode cX9_slack 1 = .ok (.invokestatic 125, 3) := by decide +kernel
theorem dX9_slack_4 : decode cX9_slack 4 = .ok (.ifCond .eq 33, 3) := by decide +kernel
theorem dX9_slack_7 : decode cX9_slack 7 = .ok (.iload_n 2, 1) := by decide +kernel
theorem dX9_slack_8 : decode cX9_slack 8 = .ok (.invokestatic 115, 3) := by decide +kernel
theorem dX9_slack_11 : decode cX9_slack 11 = .ok (.ifCond .eq 26, 3) := by decide +kernel
theorem dX9_slack_14 : decode cX9_slack 14 = .ok (.iload_n 3, 1) := by decide +kernel
theorem dX9_slack_15 : decode cX9_slack 15 = .ok (.invokestatic 105, 3) := by decide +kernel
theorem dX9_slack_18 : decode cX9_slack 18 = .ok (.ifCond .eq 19, 3) := by decide +kernel
theorem dX9_slack_21 : decode cX9_slack 21 = .ok (.iload 4, 2) := by decide +kernel
theorem dX9_slack_23 : decode cX9_slack 23 = .ok (.invokestatic 115, 3) := by decide +kernel
theorem dX9_slack_26 : decode cX9_slack 26 = .ok (.ifCond .eq 11, 3) := by decide +kernel
theorem dX9_slack_29 : decode cX9_slack 29 = .ok (.iload 5, 2) := by decide +kernel
theorem dX9_slack_31 : decode cX9_slack 31 = .ok (.invokestatic 115, 3) := by decide +kernel
theorem dX9_slack_34 : decode cX9_slack 34 = .ok (.ifCond .ne 6, 3) := by decide +kernel
theorem dX9_slack_37 : decode cX9_slack 37 = .ok (.bipush (-102), 2) := by decide +kernel
theorem dX9_slack_39 : decode cX9_slack 39 = .ok (.ireturn, 1) := by decide +kernel
theorem dX9_slack_40 : decode cX9_slack 40 = .ok (.aload_n 0, 1) := by decide +kernel
theorem dX9_slack_41 : decode cX9_slack 41 = .ok (.iload_n 3, 1) := by decide +kernel
theorem dX9_slack_42 : decode cX9_slack 42 = .ok (.iload 4, 2) := by decide +kernel
theorem dX9_slack_44 : decode cX9_slack 44 = .ok (.iload 5, 2) := by decide +kernel
theorem dX9_slack_46 : decode cX9_slack 46 = .ok (.invokevirtual 118, 3) := by decide +kernel
theorem dX9_slack_49 : decode cX9_slack 49 = .ok (.aload_n 0, 1) := by decide +kernel
theorem dX9_slack_50 : decode cX9_slack 50 = .ok (.iload_n 1, 1) := by decide +kernel
theorem dX9_slack_51 : decode cX9_slack 51 = .ok (.iload_n 2, 1) := by decide +kernel
theorem dX9_slack_52 : decode cX9_slack 52 = .ok (.iload_n 3, 1) := by decide +kernel
theorem dX9_slack_53 : decode cX9_slack 53 = .ok (.invokevirtual 139, 3) := by decide +kernel
theorem dX9_slack_56 : decode cX9_slack 56 = .ok (.ireturn, 1) := by decide +kernel
set_option maxRecDepth 20000 in
theorem ggX9_strike_X9_isCell : GoodIn wsX9_strike wsX9_isCell := goodIn_r _ [4, 5, 6, 3, 7] (by decide +kernel) (by decide +kernel)
set_option maxRecDepth 20000 in
theorem gX9_strike_X9_isCell : GoodIn wsX9_strike (va_wsS RX9 115 yX9_isCell wsX9_isCell) := goodIn_app (goodIn_of _ (by decide +kernel)) ggX9_strike_X9_isCell
set_option maxRecDepth 20000 in
theorem ggX9_strike_X9_isPlayer : GoodIn wsX9_strike wsX9_isPlayer := goodIn_r _ [10, 5, 6, 3, 7] (by decide +kernel) (by decide +kernel)
set_option maxRecDepth 20000 in
theorem gX9_strike_X9_isPlayer : GoodIn wsX9_strike (va_wsS RX9 125 yX9_isPlayer wsX9_isPlayer) := goodIn_app (goodIn_of _ (by decide +kernel)) ggX9_strike_X9_isPlayer
set_option maxRecDepth 20000 in
theorem ggX9_strike_X9_in : GoodIn wsX9_strike wsX9_in := goodIn_r _ [7] (by decide +kernel) (by decide +kernel)
set_option maxRecDepth 20000 in
theorem gX9_strike_X9_in : GoodIn wsX9_strike (va_wsS RX9 97 yX9_in wsX9_in) := goodIn_app (goodIn_of _ (by decide +kernel)) ggX9_strike_X9_in
set_option maxRecDepth 20000 in
theorem ggX9_strike_X9_fly : GoodIn wsX9_strike wsX9_fly := goodIn_r _ [14, 15, 16, 17, 18, 19, 20, 21, 3, 22, 46, 47, 48, 49, 50, 51, 52, 53, 54, 55, 56, 57, 58, 59, 60, 61, 62, 63, 64, 65, 66, 67, 68, 69, 70, 71, 72, 73, 74, 75, 76, 77, 78, 79, 80, 81, 82, 83] (by decide +kernel) (by decide +kernel)
set_option maxRecDepth 20000 in
theorem gX9_strike_X9_fly : GoodIn wsX9_strike (wsV RX9 118 RX9 yX9_fly wsX9_fly) := goodIn_app (goodIn_of _ (by decide +kernel)) ggX9_strike_X9_fly
set_option maxRecDepth 20000 in
theorem ggX9_strike_X9_slackOf : GoodIn wsX9_strike wsX9_slackOf := goodIn_r _ [26, 17, 19, 27, 28, 29, 3, 30, 31, 32, 33, 34, 35, 36, 37, 38, 39, 20, 21, 22, 40, 41, 42, 43, 44, 45, 46, 47, 48, 49, 50, 51, 52, 53, 54, 55, 56, 57, 58, 59, 60, 61, 62, 63, 64, 65, 66, 67, 68, 69, 70, 71, 72, 73, 74, 75, 76, 77, 78, 79, 80, 81, 82, 83] (by decide +kernel) (by decide +kernel)
set_option maxRecDepth 20000 in
theorem gX9_strike_X9_slackOf : GoodIn wsX9_strike (wsV RX9 139 RX9 yX9_slackOf wsX9_slackOf) := goodIn_app (goodIn_of _ (by decide +kernel)) ggX9_strike_X9_slackOf
theorem dX9_strike_0 : decode cX9_strike 0 = .ok (.iload_n 1, 1) := by decide +kernel
theorem dX9_strike_1 : decode cX9_strike 1 = .ok (.invokestatic 115, 3) := by decide +kernel
theorem dX9_strike_4 : decode cX9_strike 4 = .ok (.ifCond .eq 17, 3) := by decide +kernel
theorem dX9_strike_7 : decode cX9_strike 7 = .ok (.iload_n 2, 1) := by decide +kernel
theorem dX9_strike_8 : decode cX9_strike 8 = .ok (.invokestatic 125, 3) := by decide +kernel
theorem dX9_strike_11 : decode cX9_strike 11 = .ok (.ifCond .eq 10, 3) := by decide +kernel
theorem dX9_strike_14 : decode cX9_strike 14 = .ok (.iload_n 3, 1) := by decide +kernel
theorem dX9_strike_15 : decode cX9_strike 15 = .ok (.invokestatic 115, 3) := by decide +kernel
theorem dX9_strike_18 : decode cX9_strike 18 = .ok (.ifCond .ne 6, 3) := by decide +kernel
theorem dX9_strike_21 : decode cX9_strike 21 = .ok (.bipush (-102), 2) := by decide +kernel
theorem dX9_strike_23 : decode cX9_strike 23 = .ok (.ireturn, 1) := by decide +kernel
theorem dX9_strike_24 : decode cX9_strike 24 = .ok (.iload 4, 2) := by decide +kernel
theorem dX9_strike_26 : decode cX9_strike 26 = .ok (.iconst 0, 1) := by decide +kernel
theorem dX9_strike_27 : decode cX9_strike 27 = .ok (.iconst 1, 1) := by decide +kernel
theorem dX9_strike_28 : decode cX9_strike 28 = .ok (.invokestatic 97, 3) := by decide +kernel
theorem dX9_strike_31 : decode cX9_strike 31 = .ok (.ifCond .ne 6, 3) := by decide +kernel
theorem dX9_strike_34 : decode cX9_strike 34 = .ok (.bipush (-103), 2) := by decide +kernel
theorem dX9_strike_36 : decode cX9_strike 36 = .ok (.ireturn, 1) := by decide +kernel
theorem dX9_strike_37 : decode cX9_strike 37 = .ok (.iconst (-1), 1) := by decide +kernel
theorem dX9_strike_38 : decode cX9_strike 38 = .ok (.istore 5, 2) := by decide +kernel
theorem dX9_strike_40 : decode cX9_strike 40 = .ok (.bipush (-100), 2) := by decide +kernel
theorem dX9_strike_42 : decode cX9_strike 42 = .ok (.istore 6, 2) := by decide +kernel
theorem dX9_strike_44 : decode cX9_strike 44 = .ok (.iconst 0, 1) := by decide +kernel
theorem dX9_strike_45 : decode cX9_strike 45 = .ok (.istore 7, 2) := by decide +kernel
theorem dX9_strike_47 : decode cX9_strike 47 = .ok (.iload 7, 2) := by decide +kernel
theorem dX9_strike_49 : decode cX9_strike 49 = .ok (.bipush 64, 2) := by decide +kernel
theorem dX9_strike_51 : decode cX9_strike 51 = .ok (.if_icmp .ge 65, 3) := by decide +kernel
theorem dX9_strike_54 : decode cX9_strike 54 = .ok (.aload_n 0, 1) := by decide +kernel
theorem dX9_strike_55 : decode cX9_strike 55 = .ok (.iload 7, 2) := by decide +kernel
theorem dX9_strike_57 : decode cX9_strike 57 = .ok (.bipush 16, 2) := by decide +kernel
theorem dX9_strike_59 : decode cX9_strike 59 = .ok (.idiv, 1) := by decide +kernel
theorem dX9_strike_60 : decode cX9_strike 60 = .ok (.iload_n 1, 1) := by decide +kernel
theorem dX9_strike_61 : decode cX9_strike 61 = .ok (.iload 7, 2) := by decide +kernel
theorem dX9_strike_63 : decode cX9_strike 63 = .ok (.bipush 16, 2) := by decide +kernel
theorem dX9_strike_65 : decode cX9_strike 65 = .ok (.irem, 1) := by decide +kernel
theorem dX9_strike_66 : decode cX9_strike 66 = .ok (.invokevirtual 118, 3) := by decide +kernel
theorem dX9_strike_69 : decode cX9_strike 69 = .ok (.aload_n 0, 1) := by decide +kernel
theorem dX9_strike_70 : decode cX9_strike 70 = .ok (.iload_n 2, 1) := by decide +kernel
theorem dX9_strike_71 : decode cX9_strike 71 = .ok (.iload_n 3, 1) := by decide +kernel
theorem dX9_strike_72 : decode cX9_strike 72 = .ok (.iload 7, 2) := by decide +kernel
theorem dX9_strike_74 : decode cX9_strike 74 = .ok (.bipush 16, 2) := by decide +kernel
theorem dX9_strike_76 : decode cX9_strike 76 = .ok (.idiv, 1) := by decide +kernel
theorem dX9_strike_77 : decode cX9_strike 77 = .ok (.invokevirtual 139, 3) := by decide +kernel
theorem dX9_strike_80 : decode cX9_strike 80 = .ok (.istore 8, 2) := by decide +kernel
theorem dX9_strike_82 : decode cX9_strike 82 = .ok (.iload 8, 2) := by decide +kernel
theorem dX9_strike_84 : decode cX9_strike 84 = .ok (.bipush (-100), 2) := by decide +kernel
theorem dX9_strike_86 : decode cX9_strike 86 = .ok (.if_icmp .eq 24, 3) := by decide +kernel
theorem dX9_strike_89 : decode cX9_strike 89 = .ok (.iload 5, 2) := by decide +kernel
theorem dX9_strike_91 : decode cX9_strike 91 = .ok (.iconst (-1), 1) := by decide +kernel
theorem dX9_strike_92 : decode cX9_strike 92 = .ok (.if_icmp .eq 10, 3) := by decide +kernel
theorem dX9_strike_95 : decode cX9_strike 95 = .ok (.iload 8, 2) := by decide +kernel
theorem dX9_strike_97 : decode cX9_strike 97 = .ok (.iload 6, 2) := by decide +kernel
theorem dX9_strike_99 : decode cX9_strike 99 = .ok (.if_icmp .ge 11, 3) := by decide +kernel
theorem dX9_strike_102 : decode cX9_strike 102 = .ok (.iload 7, 2) := by decide +kernel
theorem dX9_strike_104 : decode cX9_strike 104 = .ok (.istore 5, 2) := by decide +kernel
theorem dX9_strike_106 : decode cX9_strike 106 = .ok (.iload 8, 2) := by decide +kernel
theorem dX9_strike_108 : decode cX9_strike 108 = .ok (.istore 6, 2) := by decide +kernel
theorem dX9_strike_110 : decode cX9_strike 110 = .ok (.iinc 7 1, 3) := by decide +kernel
theorem dX9_strike_113 : decode cX9_strike 113 = .ok (.goto (-66), 3) := by decide +kernel
theorem dX9_strike_116 : decode cX9_strike 116 = .ok (.iload 4, 2) := by decide +kernel
theorem dX9_strike_118 : decode cX9_strike 118 = .ok (.ifCond .ne 8, 3) := by decide +kernel
theorem dX9_strike_121 : decode cX9_strike 121 = .ok (.iload 5, 2) := by decide +kernel
theorem dX9_strike_123 : decode cX9_strike 123 = .ok (.goto 5, 3) := by decide +kernel
theorem dX9_strike_126 : decode cX9_strike 126 = .ok (.iload 6, 2) := by decide +kernel
theorem dX9_strike_128 : decode cX9_strike 128 = .ok (.ireturn, 1) := by decide +kernel
set_option maxRecDepth 20000 in
theorem ggX9_leastSlack_X9_fly : GoodIn wsX9_leastSlack wsX9_fly := goodIn_r _ [5, 6, 7, 8, 9, 10, 11, 12, 4, 13, 37, 38, 39, 40, 41, 42, 43, 44, 45, 46, 47, 48, 49, 50, 51, 52, 53, 54, 55, 56, 57, 58, 59, 60, 61, 62, 63, 64, 65, 66, 67, 68, 69, 70, 71, 72, 73, 74] (by decide +kernel) (by decide +kernel)
set_option maxRecDepth 20000 in
theorem gX9_leastSlack_X9_fly : GoodIn wsX9_leastSlack (wsV RX9 118 RX9 yX9_fly wsX9_fly) := goodIn_app (goodIn_of _ (by decide +kernel)) ggX9_leastSlack_X9_fly
set_option maxRecDepth 20000 in
theorem ggX9_leastSlack_X9_slackOf : GoodIn wsX9_leastSlack wsX9_slackOf := goodIn_r _ [17, 8, 10, 18, 19, 20, 4, 21, 22, 23, 24, 25, 26, 27, 28, 29, 30, 11, 12, 13, 31, 32, 33, 34, 35, 36, 37, 38, 39, 40, 41, 42, 43, 44, 45, 46, 47, 48, 49, 50, 51, 52, 53, 54, 55, 56, 57, 58, 59, 60, 61, 62, 63, 64, 65, 66, 67, 68, 69, 70, 71, 72, 73, 74] (by decide +kernel) (by decide +kernel)
set_option maxRecDepth 20000 in
theorem gX9_leastSlack_X9_slackOf : GoodIn wsX9_leastSlack (wsV RX9 139 RX9 yX9_slackOf wsX9_slackOf) := goodIn_app (goodIn_of _ (by decide +kernel)) ggX9_leastSlack_X9_slackOf
theorem dX9_leastSlack_0 : decode cX9_leastSlack 0 = .ok (.bipush (-100), 2) := by decide +kernel
theorem dX9_leastSlack_2 : decode cX9_leastSlack 2 = .ok (.istore 4, 2) := by decide +kernel
theorem dX9_leastSlack_4 : decode cX9_leastSlack 4 = .ok (.iconst 0, 1) := by decide +kernel
theorem dX9_leastSlack_5 : decode cX9_leastSlack 5 = .ok (.istore 5, 2) := by decide +kernel
theorem dX9_leastSlack_7 : decode cX9_leastSlack 7 = .ok (.iload 5, 2) := by decide +kernel
theorem dX9_leastSlack_9 : decode cX9_leastSlack 9 = .ok (.bipush 64, 2) := by decide +kernel
theorem dX9_leastSlack_11 : decode cX9_leastSlack 11 = .ok (.if_icmp .ge 67, 3) := by decide +kernel
theorem dX9_leastSlack_14 : decode cX9_leastSlack 14 = .ok (.aload_n 0, 1) := by decide +kernel
theorem dX9_leastSlack_15 : decode cX9_leastSlack 15 = .ok (.iload 5, 2) := by decide +kernel
theorem dX9_leastSlack_17 : decode cX9_leastSlack 17 = .ok (.bipush 16, 2) := by decide +kernel
theorem dX9_leastSlack_19 : decode cX9_leastSlack 19 = .ok (.idiv, 1) := by decide +kernel
theorem dX9_leastSlack_20 : decode cX9_leastSlack 20 = .ok (.iload_n 3, 1) := by decide +kernel
theorem dX9_leastSlack_21 : decode cX9_leastSlack 21 = .ok (.iload 5, 2) := by decide +kernel
theorem dX9_leastSlack_23 : decode cX9_leastSlack 23 = .ok (.bipush 16, 2) := by decide +kernel
theorem dX9_leastSlack_25 : decode cX9_leastSlack 25 = .ok (.irem, 1) := by decide +kernel
theorem dX9_leastSlack_26 : decode cX9_leastSlack 26 = .ok (.invokevirtual 118, 3) := by decide +kernel
theorem dX9_leastSlack_29 : decode cX9_leastSlack 29 = .ok (.aload_n 0, 1) := by decide +kernel
theorem dX9_leastSlack_30 : decode cX9_leastSlack 30 = .ok (.iload_n 1, 1) := by decide +kernel
theorem dX9_leastSlack_31 : decode cX9_leastSlack 31 = .ok (.iload_n 2, 1) := by decide +kernel
theorem dX9_leastSlack_32 : decode cX9_leastSlack 32 = .ok (.iload 5, 2) := by decide +kernel
theorem dX9_leastSlack_34 : decode cX9_leastSlack 34 = .ok (.bipush 16, 2) := by decide +kernel
theorem dX9_leastSlack_36 : decode cX9_leastSlack 36 = .ok (.idiv, 1) := by decide +kernel
theorem dX9_leastSlack_37 : decode cX9_leastSlack 37 = .ok (.invokevirtual 139, 3) := by decide +kernel
theorem dX9_leastSlack_40 : decode cX9_leastSlack 40 = .ok (.istore 6, 2) := by decide +kernel
theorem dX9_leastSlack_42 : decode cX9_leastSlack 42 = .ok (.iload 6, 2) := by decide +kernel
theorem dX9_leastSlack_44 : decode cX9_leastSlack 44 = .ok (.bipush (-100), 2) := by decide +kernel
theorem dX9_leastSlack_46 : decode cX9_leastSlack 46 = .ok (.if_icmp .eq 22, 3) := by decide +kernel
theorem dX9_leastSlack_49 : decode cX9_leastSlack 49 = .ok (.iload 4, 2) := by decide +kernel
theorem dX9_leastSlack_51 : decode cX9_leastSlack 51 = .ok (.bipush (-100), 2) := by decide +kernel
theorem dX9_leastSlack_53 : decode cX9_leastSlack 53 = .ok (.if_icmp .eq 10, 3) := by decide +kernel
theorem dX9_leastSlack_56 : decode cX9_leastSlack 56 = .ok (.iload 6, 2) := by decide +kernel
theorem dX9_leastSlack_58 : decode cX9_leastSlack 58 = .ok (.iload 4, 2) := by decide +kernel
theorem dX9_leastSlack_60 : decode cX9_leastSlack 60 = .ok (.if_icmp .ge 8, 3) := by decide +kernel
theorem dX9_leastSlack_63 : decode cX9_leastSlack 63 = .ok (.iload 6, 2) := by decide +kernel
theorem dX9_leastSlack_65 : decode cX9_leastSlack 65 = .ok (.goto 5, 3) := by decide +kernel
theorem dX9_leastSlack_68 : decode cX9_leastSlack 68 = .ok (.iload 4, 2) := by decide +kernel
theorem dX9_leastSlack_70 : decode cX9_leastSlack 70 = .ok (.istore 4, 2) := by decide +kernel
theorem dX9_leastSlack_72 : decode cX9_leastSlack 72 = .ok (.iinc 5 1, 3) := by decide +kernel
theorem dX9_leastSlack_75 : decode cX9_leastSlack 75 = .ok (.goto (-68), 3) := by decide +kernel
theorem dX9_leastSlack_78 : decode cX9_leastSlack 78 = .ok (.iload 4, 2) := by decide +kernel
theorem dX9_leastSlack_80 : decode cX9_leastSlack 80 = .ok (.ireturn, 1) := by decide +kernel
set_option maxRecDepth 20000 in
theorem ggX9_stand_X9_isPlayer : GoodIn wsX9_stand wsX9_isPlayer := goodIn_r _ [4, 5, 6, 3, 7] (by decide +kernel) (by decide +kernel)
set_option maxRecDepth 20000 in
theorem gX9_stand_X9_isPlayer : GoodIn wsX9_stand (va_wsS RX9 125 yX9_isPlayer wsX9_isPlayer) := goodIn_app (goodIn_of _ (by decide +kernel)) ggX9_stand_X9_isPlayer
set_option maxRecDepth 20000 in
theorem ggX9_stand_X9_isCell : GoodIn wsX9_stand wsX9_isCell := goodIn_r _ [10, 5, 6, 3, 7] (by decide +kernel) (by decide +kernel)
set_option maxRecDepth 20000 in
theorem gX9_stand_X9_isCell : GoodIn wsX9_stand (va_wsS RX9 115 yX9_isCell wsX9_isCell) := goodIn_app (goodIn_of _ (by decide +kernel)) ggX9_stand_X9_isCell
set_option maxRecDepth 20000 in
theorem ggX9_stand_X9_in : GoodIn wsX9_stand wsX9_in := goodIn_r _ [7] (by decide +kernel) (by decide +kernel)
set_option maxRecDepth 20000 in
theorem gX9_stand_X9_in : GoodIn wsX9_stand (va_wsS RX9 97 yX9_in wsX9_in) := goodIn_app (goodIn_of _ (by decide +kernel)) ggX9_stand_X9_in
set_option maxRecDepth 20000 in
theorem ggX9_stand_X9_leastSlack : GoodIn wsX9_stand wsX9_leastSlack := goodIn_r _ [14, 15, 16, 17, 3, 18, 19, 20, 21, 22, 23, 24, 25, 26, 27, 28, 29, 30, 31, 32, 33, 34, 35, 36, 37, 38, 39, 40, 41, 42, 43, 44, 45, 46, 47, 48, 49, 50, 51, 52, 53, 54, 55, 56, 57, 58, 59, 60, 61, 62, 63, 64, 65, 66, 67, 68, 69, 70, 71, 72, 73, 74, 75, 76, 77, 78, 79, 80, 81, 82, 83, 84, 85, 86, 87] (by decide +kernel) (by decide +kernel)
set_option maxRecDepth 20000 in
theorem gX9_stand_X9_leastSlack : GoodIn wsX9_stand (wsV RX9 142 RX9 yX9_leastSlack wsX9_leastSlack) := goodIn_app (goodIn_of _ (by decide +kernel)) ggX9_stand_X9_leastSlack
theorem dX9_stand_0 : decode cX9_stand 0 = .ok (.iload_n 1, 1) := by decide +kernel
theorem dX9_stand_1 : decode cX9_stand 1 = .ok (.invokestatic 125, 3) := by decide +kernel
theorem dX9_stand_4 : decode cX9_stand 4 = .ok (.ifCond .eq 10, 3) := by decide +kernel
theorem dX9_stand_7 : decode cX9_stand 7 = .ok (.iload_n 2, 1) := by decide +kernel
theorem dX9_stand_8 : decode cX9_stand 8 = .ok (.invokestatic 115, 3) := by decide +kernel
theorem dX9_stand_11 : decode cX9_stand 11 = .ok (.ifCond .ne 6, 3) := by decide +kernel
theorem dX9_stand_14 : decode cX9_stand 14 = .ok (.bipush (-102), 2) := by decide +kernel
theorem dX9_stand_16 : decode cX9_stand 16 = .ok (.ireturn, 1) := by decide +kernel
theorem dX9_stand_17 : decode cX9_stand 17 = .ok (.iload_n 3, 1) := by decide +kernel
theorem dX9_stand_18 : decode cX9_stand 18 = .ok (.iconst 0, 1) := by decide +kernel
theorem dX9_stand_19 : decode cX9_stand 19 = .ok (.iconst 1, 1) := by decide +kernel
theorem dX9_stand_20 : decode cX9_stand 20 = .ok (.invokestatic 97, 3) := by decide +kernel
theorem dX9_stand_23 : decode cX9_stand 23 = .ok (.ifCond .ne 6, 3) := by decide +kernel
theorem dX9_stand_26 : decode cX9_stand 26 = .ok (.bipush (-103), 2) := by decide +kernel
theorem dX9_stand_28 : decode cX9_stand 28 = .ok (.ireturn, 1) := by decide +kernel
theorem dX9_stand_29 : decode cX9_stand 29 = .ok (.iconst (-1), 1) := by decide +kernel
theorem dX9_stand_30 : decode cX9_stand 30 = .ok (.istore 4, 2) := by decide +kernel
theorem dX9_stand_32 : decode cX9_stand 32 = .ok (.bipush (-100), 2) := by decide +kernel
theorem dX9_stand_34 : decode cX9_stand 34 = .ok (.istore 5, 2) := by decide +kernel
theorem dX9_stand_36 : decode cX9_stand 36 = .ok (.iconst 0, 1) := by decide +kernel
theorem dX9_stand_37 : decode cX9_stand 37 = .ok (.istore 6, 2) := by decide +kernel
theorem dX9_stand_39 : decode cX9_stand 39 = .ok (.iload 6, 2) := by decide +kernel
theorem dX9_stand_41 : decode cX9_stand 41 = .ok (.bipush 16, 2) := by decide +kernel
theorem dX9_stand_43 : decode cX9_stand 43 = .ok (.if_icmp .ge 47, 3) := by decide +kernel
theorem dX9_stand_46 : decode cX9_stand 46 = .ok (.aload_n 0, 1) := by decide +kernel
theorem dX9_stand_47 : decode cX9_stand 47 = .ok (.iload_n 1, 1) := by decide +kernel
theorem dX9_stand_48 : decode cX9_stand 48 = .ok (.iload 6, 2) := by decide +kernel
theorem dX9_stand_50 : decode cX9_stand 50 = .ok (.iload_n 2, 1) := by decide +kernel
theorem dX9_stand_51 : decode cX9_stand 51 = .ok (.invokevirtual 142, 3) := by decide +kernel
theorem dX9_stand_54 : decode cX9_stand 54 = .ok (.istore 7, 2) := by decide +kernel
theorem dX9_stand_56 : decode cX9_stand 56 = .ok (.iload 7, 2) := by decide +kernel
theorem dX9_stand_58 : decode cX9_stand 58 = .ok (.bipush (-100), 2) := by decide +kernel
theorem dX9_stand_60 : decode cX9_stand 60 = .ok (.if_icmp .eq 24, 3) := by decide +kernel
theorem dX9_stand_63 : decode cX9_stand 63 = .ok (.iload 4, 2) := by decide +kernel
theorem dX9_stand_65 : decode cX9_stand 65 = .ok (.iconst (-1), 1) := by decide +kernel
theorem dX9_stand_66 : decode cX9_stand 66 = .ok (.if_icmp .eq 10, 3) := by decide +kernel
theorem dX9_stand_69 : decode cX9_stand 69 = .ok (.iload 7, 2) := by decide +kernel
theorem dX9_stand_71 : decode cX9_stand 71 = .ok (.iload 5, 2) := by decide +kernel
theorem dX9_stand_73 : decode cX9_stand 73 = .ok (.if_icmp .le 11, 3) := by decide +kernel
theorem dX9_stand_76 : decode cX9_stand 76 = .ok (.iload 6, 2) := by decide +kernel
theorem dX9_stand_78 : decode cX9_stand 78 = .ok (.istore 4, 2) := by decide +kernel
theorem dX9_stand_80 : decode cX9_stand 80 = .ok (.iload 7, 2) := by decide +kernel
theorem dX9_stand_82 : decode cX9_stand 82 = .ok (.istore 5, 2) := by decide +kernel
theorem dX9_stand_84 : decode cX9_stand 84 = .ok (.iinc 6 1, 3) := by decide +kernel
theorem dX9_stand_87 : decode cX9_stand 87 = .ok (.goto (-48), 3) := by decide +kernel
theorem dX9_stand_90 : decode cX9_stand 90 = .ok (.iload_n 3, 1) := by decide +kernel
theorem dX9_stand_91 : decode cX9_stand 91 = .ok (.ifCond .ne 8, 3) := by decide +kernel
theorem dX9_stand_94 : decode cX9_stand 94 = .ok (.iload 4, 2) := by decide +kernel
theorem dX9_stand_96 : decode cX9_stand 96 = .ok (.goto 5, 3) := by decide +kernel
theorem dX9_stand_99 : decode cX9_stand 99 = .ok (.iload 5, 2) := by decide +kernel
theorem dX9_stand_101 : decode cX9_stand 101 = .ok (.ireturn, 1) := by decide +kernel
set_option maxRecDepth 20000 in
theorem ggX9_meetsOf_X9_firstMet : GoodIn wsX9_meetsOf wsX9_firstMet := goodIn_r _ [7, 1, 8, 2, 26, 27, 28, 29, 30, 31, 32, 33, 34, 35, 36, 37, 38, 39, 40, 41, 42, 43, 44, 45, 46, 47, 48, 49, 50, 51, 52, 53, 54, 55, 56, 57, 58, 59, 60, 61, 62, 63] (by decide +kernel) (by decide +kernel)
set_option maxRecDepth 20000 in
theorem gX9_meetsOf_X9_firstMet : GoodIn wsX9_meetsOf (wsV RX9 122 RX9 yX9_firstMet wsX9_firstMet) := goodIn_app (goodIn_of _ (by decide +kernel)) ggX9_meetsOf_X9_firstMet
set_option maxRecDepth 20000 in
theorem ggX9_meetsOf_X9_over0 : GoodIn wsX9_meetsOf wsX9_over0 := goodIn_r _ [12, 2, 13, 14, 15, 6, 16, 17, 18, 19, 20, 21, 22, 23, 24, 25, 26, 27, 28, 29, 30, 31, 32, 33, 34, 35, 36, 37, 38, 39, 40, 41, 42, 43, 44, 45, 46, 47, 48, 49, 50, 51, 52, 53, 54, 55, 56, 57, 58, 59, 60, 61, 62, 63] (by decide +kernel) (by decide +kernel)
set_option maxRecDepth 20000 in
theorem gX9_meetsOf_X9_over0 : GoodIn wsX9_meetsOf (wsV RX9 135 RX9 yX9_over0 wsX9_over0) := goodIn_app (goodIn_of _ (by decide +kernel)) ggX9_meetsOf_X9_over0
theorem dX9_meetsOf_0 : decode cX9_meetsOf 0 = .ok (.aload_n 0, 1) := by decide +kernel
theorem dX9_meetsOf_1 : decode cX9_meetsOf 1 = .ok (.iload_n 3, 1) := by decide +kernel
theorem dX9_meetsOf_2 : decode cX9_meetsOf 2 = .ok (.invokevirtual 122, 3) := by decide +kernel
theorem dX9_meetsOf_5 : decode cX9_meetsOf 5 = .ok (.istore 4, 2) := by decide +kernel
theorem dX9_meetsOf_7 : decode cX9_meetsOf 7 = .ok (.iload 4, 2) := by decide +kernel
theorem dX9_meetsOf_9 : decode cX9_meetsOf 9 = .ok (.iconst (-1), 1) := by decide +kernel
theorem dX9_meetsOf_10 : decode cX9_meetsOf 10 = .ok (.if_icmp .ne 6, 3) := by decide +kernel
theorem dX9_meetsOf_13 : decode cX9_meetsOf 13 = .ok (.bipush (-100), 2) := by decide +kernel
theorem dX9_meetsOf_15 : decode cX9_meetsOf 15 = .ok (.ireturn, 1) := by decide +kernel
theorem dX9_meetsOf_16 : decode cX9_meetsOf 16 = .ok (.iload 4, 2) := by decide +kernel
theorem dX9_meetsOf_18 : decode cX9_meetsOf 18 = .ok (.istore 5, 2) := by decide +kernel
theorem dX9_meetsOf_20 : decode cX9_meetsOf 20 = .ok (.iload 5, 2) := by decide +kernel
theorem dX9_meetsOf_22 : decode cX9_meetsOf 22 = .ok (.aload_n 0, 1) := by decide +kernel
theorem dX9_meetsOf_23 : decode cX9_meetsOf 23 = .ok (.getfield 112, 3) := by decide +kernel
theorem dX9_meetsOf_26 : decode cX9_meetsOf 26 = .ok (.if_icmp .gt 45, 3) := by decide +kernel
theorem dX9_meetsOf_29 : decode cX9_meetsOf 29 = .ok (.aload_n 0, 1) := by decide +kernel
theorem dX9_meetsOf_30 : decode cX9_meetsOf 30 = .ok (.getfield 28, 3) := by decide +kernel
theorem dX9_meetsOf_33 : decode cX9_meetsOf 33 = .ok (.iload 5, 2) := by decide +kernel
theorem dX9_meetsOf_35 : decode cX9_meetsOf 35 = .ok (.iaload, 1) := by decide +kernel
theorem dX9_meetsOf_36 : decode cX9_meetsOf 36 = .ok (.iconst (-1), 1) := by decide +kernel
theorem dX9_meetsOf_37 : decode cX9_meetsOf 37 = .ok (.if_icmp .eq 28, 3) := by decide +kernel
theorem dX9_meetsOf_40 : decode cX9_meetsOf 40 = .ok (.aload_n 0, 1) := by decide +kernel
theorem dX9_meetsOf_41 : decode cX9_meetsOf 41 = .ok (.iload_n 1, 1) := by decide +kernel
theorem dX9_meetsOf_42 : decode cX9_meetsOf 42 = .ok (.iload_n 2, 1) := by decide +kernel
theorem dX9_meetsOf_43 : decode cX9_meetsOf 43 = .ok (.iload 5, 2) := by decide +kernel
theorem dX9_meetsOf_45 : decode cX9_meetsOf 45 = .ok (.invokevirtual 135, 3) := by decide +kernel
theorem dX9_meetsOf_48 : decode cX9_meetsOf 48 = .ok (.ifCond .lt 17, 3) := by decide +kernel
theorem dX9_meetsOf_51 : decode cX9_meetsOf 51 = .ok (.bipush 16, 2) := by decide +kernel
theorem dX9_meetsOf_53 : decode cX9_meetsOf 53 = .ok (.iload 5, 2) := by decide +kernel
theorem dX9_meetsOf_55 : decode cX9_meetsOf 55 = .ok (.imul, 1) := by decide +kernel
theorem dX9_meetsOf_56 : decode cX9_meetsOf 56 = .ok (.aload_n 0, 1) := by decide +kernel
theorem dX9_meetsOf_57 : decode cX9_meetsOf 57 = .ok (.getfield 28, 3) := by decide +kernel
theorem dX9_meetsOf_60 : decode cX9_meetsOf 60 = .ok (.iload 5, 2) := by decide +kernel
theorem dX9_meetsOf_62 : decode cX9_meetsOf 62 = .ok (.iaload, 1) := by decide +kernel
theorem dX9_meetsOf_63 : decode cX9_meetsOf 63 = .ok (.iadd, 1) := by decide +kernel
theorem dX9_meetsOf_64 : decode cX9_meetsOf 64 = .ok (.ireturn, 1) := by decide +kernel
theorem dX9_meetsOf_65 : decode cX9_meetsOf 65 = .ok (.iinc 5 1, 3) := by decide +kernel
theorem dX9_meetsOf_68 : decode cX9_meetsOf 68 = .ok (.goto (-48), 3) := by decide +kernel
theorem dX9_meetsOf_71 : decode cX9_meetsOf 71 = .ok (.iconst (-1), 1) := by decide +kernel
theorem dX9_meetsOf_72 : decode cX9_meetsOf 72 = .ok (.ireturn, 1) := by decide +kernel
set_option maxRecDepth 20000 in
theorem ggX9_findMeetings_X9_fly : GoodIn wsX9_findMeetings wsX9_fly := goodIn_r _ [7, 8, 9, 10, 11, 12, 13, 14, 6, 15, 39, 40, 41, 42, 43, 44, 45, 46, 47, 48, 49, 50, 51, 52, 53, 54, 55, 56, 57, 58, 59, 60, 61, 62, 63, 64, 65, 66, 67, 68, 69, 70, 71, 72, 73, 74, 75, 76] (by decide +kernel) (by decide +kernel)
set_option maxRecDepth 20000 in
theorem gX9_findMeetings_X9_fly : GoodIn wsX9_findMeetings (wsV RX9 118 RX9 yX9_fly wsX9_fly) := goodIn_app (goodIn_of _ (by decide +kernel)) ggX9_findMeetings_X9_fly
set_option maxRecDepth 20000 in
theorem ggX9_findMeetings_X9_meetsOf : GoodIn wsX9_findMeetings wsX9_meetsOf := goodIn_r _ [19, 10, 12, 20, 21, 22, 6, 23, 24, 25, 26, 27, 28, 29, 30, 31, 32, 13, 14, 15, 33, 34, 35, 36, 37, 38, 39, 40, 41, 42, 43, 44, 45, 46, 47, 48, 49, 50, 51, 52, 53, 54, 55, 56, 57, 58, 59, 60, 61, 62, 63, 64, 65, 66, 67, 68, 69, 70, 71, 72, 73, 74, 75, 76] (by decide +kernel) (by decide +kernel)
set_option maxRecDepth 20000 in
theorem gX9_findMeetings_X9_meetsOf : GoodIn wsX9_findMeetings (wsV RX9 145 RX9 yX9_meetsOf wsX9_meetsOf) := goodIn_app (goodIn_of _ (by decide +kernel)) ggX9_findMeetings_X9_meetsOf
theorem dX9_findMeetings_0 : decode cX9_findMeetings 0 = .ok (.iconst 0, 1) := by decide +kernel
theorem dX9_findMeetings_1 : decode cX9_findMeetings 1 = .ok (.istore_n 3, 1) := by decide +kernel
theorem dX9_findMeetings_2 : decode cX9_findMeetings 2 = .ok (.iload_n 3, 1) := by decide +kernel
theorem dX9_findMeetings_3 : decode cX9_findMeetings 3 = .ok (.bipush 16, 2) := by decide +kernel
theorem dX9_findMeetings_5 : decode cX9_findMeetings 5 = .ok (.if_icmp .ge 118, 3) := by decide +kernel
theorem dX9_findMeetings_8 : decode cX9_findMeetings 8 = .ok (.iconst 0, 1) := by decide +kernel
theorem dX9_findMeetings_9 : decode cX9_findMeetings 9 = .ok (.istore 4, 2) := by decide +kernel
theorem dX9_findMeetings_11 : decode cX9_findMeetings 11 = .ok (.iload 4, 2) := by decide +kernel
theorem dX9_findMeetings_13 : decode cX9_findMeetings 13 = .ok (.bipush 64, 2) := by decide +kernel
theorem dX9_findMeetings_15 : decode cX9_findMeetings 15 = .ok (.if_icmp .ge 102, 3) := by decide +kernel
theorem dX9_findMeetings_18 : decode cX9_findMeetings 18 = .ok (.aload_n 0, 1) := by decide +kernel
theorem dX9_findMeetings_19 : decode cX9_findMeetings 19 = .ok (.iload 4, 2) := by decide +kernel
theorem dX9_findMeetings_21 : decode cX9_findMeetings 21 = .ok (.bipush 16, 2) := by decide +kernel
theorem dX9_findMeetings_23 : decode cX9_findMeetings 23 = .ok (.idiv, 1) := by decide +kernel
theorem dX9_findMeetings_24 : decode cX9_findMeetings 24 = .ok (.iload_n 3, 1) := by decide +kernel
theorem dX9_findMeetings_25 : decode cX9_findMeetings 25 = .ok (.iload 4, 2) := by decide +kernel
theorem dX9_findMeetings_27 : decode cX9_findMeetings 27 = .ok (.bipush 16, 2) := by decide +kernel
theorem dX9_findMeetings_29 : decode cX9_findMeetings 29 = .ok (.irem, 1) := by decide +kernel
theorem dX9_findMeetings_30 : decode cX9_findMeetings 30 = .ok (.invokevirtual 118, 3) := by decide +kernel
theorem dX9_findMeetings_33 : decode cX9_findMeetings 33 = .ok (.iconst 0, 1) := by decide +kernel
theorem dX9_findMeetings_34 : decode cX9_findMeetings 34 = .ok (.istore 5, 2) := by decide +kernel
theorem dX9_findMeetings_36 : decode cX9_findMeetings 36 = .ok (.iload 5, 2) := by decide +kernel
theorem dX9_findMeetings_38 : decode cX9_findMeetings 38 = .ok (.bipush 16, 2) := by decide +kernel
theorem dX9_findMeetings_40 : decode cX9_findMeetings 40 = .ok (.if_icmp .ge 71, 3) := by decide +kernel
theorem dX9_findMeetings_43 : decode cX9_findMeetings 43 = .ok (.aload_n 0, 1) := by decide +kernel
theorem dX9_findMeetings_44 : decode cX9_findMeetings 44 = .ok (.getfield 31, 3) := by decide +kernel
theorem dX9_findMeetings_47 : decode cX9_findMeetings 47 = .ok (.sipush 1024, 3) := by decide +kernel
theorem dX9_findMeetings_50 : decode cX9_findMeetings 50 = .ok (.iload 5, 2) := by decide +kernel
theorem dX9_findMeetings_52 : decode cX9_findMeetings 52 = .ok (.imul, 1) := by decide +kernel
theorem dX9_findMeetings_53 : decode cX9_findMeetings 53 = .ok (.bipush 64, 2) := by decide +kernel
theorem dX9_findMeetings_55 : decode cX9_findMeetings 55 = .ok (.iload_n 3, 1) := by decide +kernel
theorem dX9_findMeetings_56 : decode cX9_findMeetings 56 = .ok (.imul, 1) := by decide +kernel
theorem dX9_findMeetings_57 : decode cX9_findMeetings 57 = .ok (.iadd, 1) := by decide +kernel
theorem dX9_findMeetings_58 : decode cX9_findMeetings 58 = .ok (.iload 4, 2) := by decide +kernel
theorem dX9_findMeetings_60 : decode cX9_findMeetings 60 = .ok (.iadd, 1) := by decide +kernel
theorem dX9_findMeetings_61 : decode cX9_findMeetings 61 = .ok (.aload_n 0, 1) := by decide +kernel
theorem dX9_findMeetings_62 : decode cX9_findMeetings 62 = .ok (.iload_n 1, 1) := by decide +kernel
theorem dX9_findMeetings_63 : decode cX9_findMeetings 63 = .ok (.iload 5, 2) := by decide +kernel
theorem dX9_findMeetings_65 : decode cX9_findMeetings 65 = .ok (.iload 4, 2) := by decide +kernel
theorem dX9_findMeetings_67 : decode cX9_findMeetings 67 = .ok (.bipush 16, 2) := by decide +kernel
theorem dX9_findMeetings_69 : decode cX9_findMeetings 69 = .ok (.idiv, 1) := by decide +kernel
theorem dX9_findMeetings_70 : decode cX9_findMeetings 70 = .ok (.invokevirtual 145, 3) := by decide +kernel
theorem dX9_findMeetings_73 : decode cX9_findMeetings 73 = .ok (.iastore, 1) := by decide +kernel
theorem dX9_findMeetings_74 : decode cX9_findMeetings 74 = .ok (.aload_n 0, 1) := by decide +kernel
theorem dX9_findMeetings_75 : decode cX9_findMeetings 75 = .ok (.getfield 34, 3) := by decide +kernel
theorem dX9_findMeetings_78 : decode cX9_findMeetings 78 = .ok (.sipush 1024, 3) := by decide +kernel
theorem dX9_findMeetings_81 : decode cX9_findMeetings 81 = .ok (.iload 5, 2) := by decide +kernel
theorem dX9_findMeetings_83 : decode cX9_findMeetings 83 = .ok (.imul, 1) := by decide +kernel
theorem dX9_findMeetings_84 : decode cX9_findMeetings 84 = .ok (.bipush 64, 2) := by decide +kernel
theorem dX9_findMeetings_86 : decode cX9_findMeetings 86 = .ok (.iload_n 3, 1) := by decide +kernel
theorem dX9_findMeetings_87 : decode cX9_findMeetings 87 = .ok (.imul, 1) := by decide +kernel
theorem dX9_findMeetings_88 : decode cX9_findMeetings 88 = .ok (.iadd, 1) := by decide +kernel
theorem dX9_findMeetings_89 : decode cX9_findMeetings 89 = .ok (.iload 4, 2) := by decide +kernel
theorem dX9_findMeetings_91 : decode cX9_findMeetings 91 = .ok (.iadd, 1) := by decide +kernel
theorem dX9_findMeetings_92 : decode cX9_findMeetings 92 = .ok (.aload_n 0, 1) := by decide +kernel
theorem dX9_findMeetings_93 : decode cX9_findMeetings 93 = .ok (.iload_n 2, 1) := by decide +kernel
theorem dX9_findMeetings_94 : decode cX9_findMeetings 94 = .ok (.iload 5, 2) := by decide +kernel
theorem dX9_findMeetings_96 : decode cX9_findMeetings 96 = .ok (.iload 4, 2) := by decide +kernel
theorem dX9_findMeetings_98 : decode cX9_findMeetings 98 = .ok (.bipush 16, 2) := by decide +kernel
theorem dX9_findMeetings_100 : decode cX9_findMeetings 100 = .ok (.idiv, 1) := by decide +kernel
theorem dX9_findMeetings_101 : decode cX9_findMeetings 101 = .ok (.invokevirtual 145, 3) := by decide +kernel
theorem dX9_findMeetings_104 : decode cX9_findMeetings 104 = .ok (.iastore, 1) := by decide +kernel
theorem dX9_findMeetings_105 : decode cX9_findMeetings 105 = .ok (.iinc 5 1, 3) := by decide +kernel
theorem dX9_findMeetings_108 : decode cX9_findMeetings 108 = .ok (.goto (-72), 3) := by decide +kernel
theorem dX9_findMeetings_111 : decode cX9_findMeetings 111 = .ok (.iinc 4 1, 3) := by decide +kernel
theorem dX9_findMeetings_114 : decode cX9_findMeetings 114 = .ok (.goto (-103), 3) := by decide +kernel
theorem dX9_findMeetings_117 : decode cX9_findMeetings 117 = .ok (.iinc 3 1, 3) := by decide +kernel
theorem dX9_findMeetings_120 : decode cX9_findMeetings 120 = .ok (.goto (-118), 3) := by decide +kernel
theorem dX9_findMeetings_123 : decode cX9_findMeetings 123 = .ok (.return_, 1) := by decide +kernel
set_option maxRecDepth 20000 in
theorem ggX9_winsAll_X9_far : GoodIn wsX9_winsAll wsX9_far := goodIn_r _ [5, 6, 7, 4, 8] (by decide +kernel) (by decide +kernel)
set_option maxRecDepth 20000 in
theorem gX9_winsAll_X9_far : GoodIn wsX9_winsAll (va_wsS RX9 128 yX9_far wsX9_far) := goodIn_app (goodIn_of _ (by decide +kernel)) ggX9_winsAll_X9_far
theorem dX9_winsAll_0 : decode cX9_winsAll 0 = .ok (.iconst 1, 1) := by decide +kernel
theorem dX9_winsAll_1 : decode cX9_winsAll 1 = .ok (.istore 4, 2) := by decide +kernel
theorem dX9_winsAll_3 : decode cX9_winsAll 3 = .ok (.iconst 0, 1) := by decide +kernel
theorem dX9_winsAll_4 : decode cX9_winsAll 4 = .ok (.istore 5, 2) := by decide +kernel
theorem dX9_winsAll_6 : decode cX9_winsAll 6 = .ok (.iload 5, 2) := by decide +kernel
theorem dX9_winsAll_8 : decode cX9_winsAll 8 = .ok (.bipush 16, 2) := by decide +kernel
theorem dX9_winsAll_10 : decode cX9_winsAll 10 = .ok (.if_icmp .ge 46, 3) := by decide +kernel
theorem dX9_winsAll_13 : decode cX9_winsAll 13 = .ok (.iload 4, 2) := by decide +kernel
theorem dX9_winsAll_15 : decode cX9_winsAll 15 = .ok (.ifCond .eq 32, 3) := by decide +kernel
theorem dX9_winsAll_18 : decode cX9_winsAll 18 = .ok (.iload_n 2, 1) := by decide +kernel
theorem dX9_winsAll_19 : decode cX9_winsAll 19 = .ok (.iload 5, 2) := by decide +kernel
theorem dX9_winsAll_21 : decode cX9_winsAll 21 = .ok (.invokestatic 128, 3) := by decide +kernel
theorem dX9_winsAll_24 : decode cX9_winsAll 24 = .ok (.iload_n 3, 1) := by decide +kernel
theorem dX9_winsAll_25 : decode cX9_winsAll 25 = .ok (.if_icmp .gt 18, 3) := by decide +kernel
theorem dX9_winsAll_28 : decode cX9_winsAll 28 = .ok (.aload_n 0, 1) := by decide +kernel
theorem dX9_winsAll_29 : decode cX9_winsAll 29 = .ok (.getfield 37, 3) := by decide +kernel
theorem dX9_winsAll_32 : decode cX9_winsAll 32 = .ok (.bipush 16, 2) := by decide +kernel
theorem dX9_winsAll_34 : decode cX9_winsAll 34 = .ok (.iload_n 1, 1) := by decide +kernel
theorem dX9_winsAll_35 : decode cX9_winsAll 35 = .ok (.imul, 1) := by decide +kernel
theorem dX9_winsAll_36 : decode cX9_winsAll 36 = .ok (.iload 5, 2) := by decide +kernel
theorem dX9_winsAll_38 : decode cX9_winsAll 38 = .ok (.iadd, 1) := by decide +kernel
theorem dX9_winsAll_39 : decode cX9_winsAll 39 = .ok (.baload, 1) := by decide +kernel
theorem dX9_winsAll_40 : decode cX9_winsAll 40 = .ok (.ifCond .eq 7, 3) := by decide +kernel
theorem dX9_winsAll_43 : decode cX9_winsAll 43 = .ok (.iconst 1, 1) := by decide +kernel
theorem dX9_winsAll_44 : decode cX9_winsAll 44 = .ok (.goto 4, 3) := by decide +kernel
theorem dX9_winsAll_47 : decode cX9_winsAll 47 = .ok (.iconst 0, 1) := by decide +kernel
theorem dX9_winsAll_48 : decode cX9_winsAll 48 = .ok (.istore 4, 2) := by decide +kernel
theorem dX9_winsAll_50 : decode cX9_winsAll 50 = .ok (.iinc 5 1, 3) := by decide +kernel
theorem dX9_winsAll_53 : decode cX9_winsAll 53 = .ok (.goto (-47), 3) := by decide +kernel
theorem dX9_winsAll_56 : decode cX9_winsAll 56 = .ok (.iload 4, 2) := by decide +kernel
theorem dX9_winsAll_58 : decode cX9_winsAll 58 = .ok (.ireturn, 1) := by decide +kernel
set_option maxRecDepth 20000 in
theorem ggX9_holdsAll_X9_stride : GoodIn wsX9_holdsAll wsX9_stride := goodIn_r _ [6, 7, 8, 20, 21, 22, 23, 24, 25, 26, 27, 28, 29, 30, 31, 32, 33, 34, 35, 36, 37, 38, 39, 40, 41, 42, 43, 44, 45, 46, 47, 48, 49, 50, 51, 52, 53, 54, 55, 56, 57] (by decide +kernel) (by decide +kernel)
set_option maxRecDepth 20000 in
theorem gX9_holdsAll_X9_stride : GoodIn wsX9_holdsAll (wsV RX9 132 RX9 yX9_stride wsX9_stride) := goodIn_app (goodIn_of _ (by decide +kernel)) ggX9_holdsAll_X9_stride
set_option maxRecDepth 20000 in
theorem ggX9_holdsAll_X9_winsAll : GoodIn wsX9_holdsAll wsX9_winsAll := goodIn_r _ [12, 13, 14, 15, 5, 16, 17, 18, 19, 20, 21, 22, 23, 24, 25, 26, 27, 28, 29, 30, 31, 32, 33, 34, 35, 36, 37, 38, 39, 40, 41, 42, 43, 44, 45, 46, 47, 48, 49, 50, 51, 52, 53, 54, 55, 56, 57] (by decide +kernel) (by decide +kernel)
set_option maxRecDepth 20000 in
theorem gX9_holdsAll_X9_winsAll : GoodIn wsX9_holdsAll (wsV RX9 148 RX9 yX9_winsAll wsX9_winsAll) := goodIn_app (goodIn_of _ (by decide +kernel)) ggX9_holdsAll_X9_winsAll
theorem dX9_holdsAll_0 : decode cX9_holdsAll 0 = .ok (.iconst 0, 1) := by decide +kernel
theorem dX9_holdsAll_1 : decode cX9_holdsAll 1 = .ok (.istore 4, 2) := by decide +kernel
theorem dX9_holdsAll_3 : decode cX9_holdsAll 3 = .ok (.iload 4, 2) := by decide +kernel
theorem dX9_holdsAll_5 : decode cX9_holdsAll 5 = .ok (.bipush 64, 2) := by decide +kernel
theorem dX9_holdsAll_7 : decode cX9_holdsAll 7 = .ok (.if_icmp .ge 71, 3) := by decide +kernel
theorem dX9_holdsAll_10 : decode cX9_holdsAll 10 = .ok (.aload_n 0, 1) := by decide +kernel
theorem dX9_holdsAll_11 : decode cX9_holdsAll 11 = .ok (.getfield 31, 3) := by decide +kernel
theorem dX9_holdsAll_14 : decode cX9_holdsAll 14 = .ok (.sipush 1024, 3) := by decide +kernel
theorem dX9_holdsAll_17 : decode cX9_holdsAll 17 = .ok (.iload_n 1, 1) := by decide +kernel
theorem dX9_holdsAll_18 : decode cX9_holdsAll 18 = .ok (.imul, 1) := by decide +kernel
theorem dX9_holdsAll_19 : decode cX9_holdsAll 19 = .ok (.bipush 64, 2) := by decide +kernel
theorem dX9_holdsAll_21 : decode cX9_holdsAll 21 = .ok (.iload_n 2, 1) := by decide +kernel
theorem dX9_holdsAll_22 : decode cX9_holdsAll 22 = .ok (.imul, 1) := by decide +kernel
theorem dX9_holdsAll_23 : decode cX9_holdsAll 23 = .ok (.iadd, 1) := by decide +kernel
theorem dX9_holdsAll_24 : decode cX9_holdsAll 24 = .ok (.iload 4, 2) := by decide +kernel
theorem dX9_holdsAll_26 : decode cX9_holdsAll 26 = .ok (.iadd, 1) := by decide +kernel
theorem dX9_holdsAll_27 : decode cX9_holdsAll 27 = .ok (.iaload, 1) := by decide +kernel
theorem dX9_holdsAll_28 : decode cX9_holdsAll 28 = .ok (.istore 5, 2) := by decide +kernel
theorem dX9_holdsAll_30 : decode cX9_holdsAll 30 = .ok (.iload 5, 2) := by decide +kernel
theorem dX9_holdsAll_32 : decode cX9_holdsAll 32 = .ok (.iconst (-1), 1) := by decide +kernel
theorem dX9_holdsAll_33 : decode cX9_holdsAll 33 = .ok (.if_icmp .eq 37, 3) := by decide +kernel
theorem dX9_holdsAll_36 : decode cX9_holdsAll 36 = .ok (.iload 5, 2) := by decide +kernel
theorem dX9_holdsAll_38 : decode cX9_holdsAll 38 = .ok (.bipush (-100), 2) := by decide +kernel
theorem dX9_holdsAll_40 : decode cX9_holdsAll 40 = .ok (.if_icmp .eq 32, 3) := by decide +kernel
theorem dX9_holdsAll_43 : decode cX9_holdsAll 43 = .ok (.aload_n 0, 1) := by decide +kernel
theorem dX9_holdsAll_44 : decode cX9_holdsAll 44 = .ok (.iload 5, 2) := by decide +kernel
theorem dX9_holdsAll_46 : decode cX9_holdsAll 46 = .ok (.bipush 16, 2) := by decide +kernel
theorem dX9_holdsAll_48 : decode cX9_holdsAll 48 = .ok (.irem, 1) := by decide +kernel
theorem dX9_holdsAll_49 : decode cX9_holdsAll 49 = .ok (.iload_n 2, 1) := by decide +kernel
theorem dX9_holdsAll_50 : decode cX9_holdsAll 50 = .ok (.iload 5, 2) := by decide +kernel
theorem dX9_holdsAll_52 : decode cX9_holdsAll 52 = .ok (.bipush 16, 2) := by decide +kernel
theorem dX9_holdsAll_54 : decode cX9_holdsAll 54 = .ok (.idiv, 1) := by decide +kernel
theorem dX9_holdsAll_55 : decode cX9_holdsAll 55 = .ok (.aload_n 0, 1) := by decide +kernel
theorem dX9_holdsAll_56 : decode cX9_holdsAll 56 = .ok (.iload_n 3, 1) := by decide +kernel
theorem dX9_holdsAll_57 : decode cX9_holdsAll 57 = .ok (.invokevirtual 132, 3) := by decide +kernel
theorem dX9_holdsAll_60 : decode cX9_holdsAll 60 = .ok (.imul, 1) := by decide +kernel
theorem dX9_holdsAll_61 : decode cX9_holdsAll 61 = .ok (.bipush 10, 2) := by decide +kernel
theorem dX9_holdsAll_63 : decode cX9_holdsAll 63 = .ok (.idiv, 1) := by decide +kernel
theorem dX9_holdsAll_64 : decode cX9_holdsAll 64 = .ok (.invokevirtual 148, 3) := by decide +kernel
theorem dX9_holdsAll_67 : decode cX9_holdsAll 67 = .ok (.ifCond .ne 5, 3) := by decide +kernel
theorem dX9_holdsAll_70 : decode cX9_holdsAll 70 = .ok (.iconst 0, 1) := by decide +kernel
theorem dX9_holdsAll_71 : decode cX9_holdsAll 71 = .ok (.ireturn, 1) := by decide +kernel
theorem dX9_holdsAll_72 : decode cX9_holdsAll 72 = .ok (.iinc 4 1, 3) := by decide +kernel
theorem dX9_holdsAll_75 : decode cX9_holdsAll 75 = .ok (.goto (-72), 3) := by decide +kernel
theorem dX9_holdsAll_78 : decode cX9_holdsAll 78 = .ok (.iconst 1, 1) := by decide +kernel
theorem dX9_holdsAll_79 : decode cX9_holdsAll 79 = .ok (.ireturn, 1) := by decide +kernel
theorem dX9_winsNow_0 : decode cX9_winsNow 0 = .ok (.iconst 0, 1) := by decide +kernel
theorem dX9_winsNow_1 : decode cX9_winsNow 1 = .ok (.istore_n 3, 1) := by decide +kernel
theorem dX9_winsNow_2 : decode cX9_winsNow 2 = .ok (.iconst 0, 1) := by decide +kernel
theorem dX9_winsNow_3 : decode cX9_winsNow 3 = .ok (.istore 4, 2) := by decide +kernel
theorem dX9_winsNow_5 : decode cX9_winsNow 5 = .ok (.iload 4, 2) := by decide +kernel
theorem dX9_winsNow_7 : decode cX9_winsNow 7 = .ok (.bipush 64, 2) := by decide +kernel
theorem dX9_winsNow_9 : decode cX9_winsNow 9 = .ok (.if_icmp .ge 41, 3) := by decide +kernel
theorem dX9_winsNow_12 : decode cX9_winsNow 12 = .ok (.iload_n 3, 1) := by decide +kernel
theorem dX9_winsNow_13 : decode cX9_winsNow 13 = .ok (.ifCond .ne 25, 3) := by decide +kernel
theorem dX9_winsNow_16 : decode cX9_winsNow 16 = .ok (.aload_n 0, 1) := by decide +kernel
theorem dX9_winsNow_17 : decode cX9_winsNow 17 = .ok (.getfield 34, 3) := by decide +kernel
theorem dX9_winsNow_20 : decode cX9_winsNow 20 = .ok (.sipush 1024, 3) := by decide +kernel
theorem dX9_winsNow_23 : decode cX9_winsNow 23 = .ok (.iload_n 2, 1) := by decide +kernel
theorem dX9_winsNow_24 : decode cX9_winsNow 24 = .ok (.imul, 1) := by decide +kernel
theorem dX9_winsNow_25 : decode cX9_winsNow 25 = .ok (.bipush 64, 2) := by decide +kernel
theorem dX9_winsNow_27 : decode cX9_winsNow 27 = .ok (.iload_n 1, 1) := by decide +kernel
theorem dX9_winsNow_28 : decode cX9_winsNow 28 = .ok (.imul, 1) := by decide +kernel
theorem dX9_winsNow_29 : decode cX9_winsNow 29 = .ok (.iadd, 1) := by decide +kernel
theorem dX9_winsNow_30 : decode cX9_winsNow 30 = .ok (.iload 4, 2) := by decide +kernel
theorem dX9_winsNow_32 : decode cX9_winsNow 32 = .ok (.iadd, 1) := by decide +kernel
theorem dX9_winsNow_33 : decode cX9_winsNow 33 = .ok (.iaload, 1) := by decide +kernel
theorem dX9_winsNow_34 : decode cX9_winsNow 34 = .ok (.iconst (-1), 1) := by decide +kernel
theorem dX9_winsNow_35 : decode cX9_winsNow 35 = .ok (.if_icmp .ne 7, 3) := by decide +kernel
theorem dX9_winsNow_38 : decode cX9_winsNow 38 = .ok (.iconst 1, 1) := by decide +kernel
theorem dX9_winsNow_39 : decode cX9_winsNow 39 = .ok (.goto 4, 3) := by decide +kernel
theorem dX9_winsNow_42 : decode cX9_winsNow 42 = .ok (.iconst 0, 1) := by decide +kernel
theorem dX9_winsNow_43 : decode cX9_winsNow 43 = .ok (.istore_n 3, 1) := by decide +kernel
theorem dX9_winsNow_44 : decode cX9_winsNow 44 = .ok (.iinc 4 1, 3) := by decide +kernel
theorem dX9_winsNow_47 : decode cX9_winsNow 47 = .ok (.goto (-42), 3) := by decide +kernel
theorem dX9_winsNow_50 : decode cX9_winsNow 50 = .ok (.iload_n 3, 1) := by decide +kernel
theorem dX9_winsNow_51 : decode cX9_winsNow 51 = .ok (.ireturn, 1) := by decide +kernel
set_option maxRecDepth 20000 in
theorem ggX9_winsLater_X9_far : GoodIn wsX9_winsLater wsX9_far := goodIn_r _ [6, 7, 8, 5, 9] (by decide +kernel) (by decide +kernel)
set_option maxRecDepth 20000 in
theorem gX9_winsLater_X9_far : GoodIn wsX9_winsLater (va_wsS RX9 128 yX9_far wsX9_far) := goodIn_app (goodIn_of _ (by decide +kernel)) ggX9_winsLater_X9_far
set_option maxRecDepth 20000 in
theorem ggX9_winsLater_X9_stride : GoodIn wsX9_winsLater wsX9_stride := goodIn_r _ [13, 14, 15, 16, 17, 18, 19, 20, 21, 22, 23, 24, 25, 26, 27, 28, 29, 30, 31, 32, 33, 34, 35, 36, 37, 38, 39, 40, 41, 42, 43, 44, 45, 46, 47, 48, 49, 50, 51, 52, 53] (by decide +kernel) (by decide +kernel)
set_option maxRecDepth 20000 in
theorem gX9_winsLater_X9_stride : GoodIn wsX9_winsLater (wsV RX9 132 RX9 yX9_stride wsX9_stride) := goodIn_app (goodIn_of _ (by decide +kernel)) ggX9_winsLater_X9_stride
theorem dX9_winsLater_0 : decode cX9_winsLater 0 = .ok (.iconst 0, 1) := by decide +kernel
theorem dX9_winsLater_1 : decode cX9_winsLater 1 = .ok (.istore 4, 2) := by decide +kernel
theorem dX9_winsLater_3 : decode cX9_winsLater 3 = .ok (.iload 4, 2) := by decide +kernel
theorem dX9_winsLater_5 : decode cX9_winsLater 5 = .ok (.bipush 64, 2) := by decide +kernel
theorem dX9_winsLater_7 : decode cX9_winsLater 7 = .ok (.if_icmp .ge 94, 3) := by decide +kernel
theorem dX9_winsLater_10 : decode cX9_winsLater 10 = .ok (.aload_n 0, 1) := by decide +kernel
theorem dX9_winsLater_11 : decode cX9_winsLater 11 = .ok (.getfield 34, 3) := by decide +kernel
theorem dX9_winsLater_14 : decode cX9_winsLater 14 = .ok (.sipush 1024, 3) := by decide +kernel
theorem dX9_winsLater_17 : decode cX9_winsLater 17 = .ok (.iload_n 2, 1) := by decide +kernel
theorem dX9_winsLater_18 : decode cX9_winsLater 18 = .ok (.imul, 1) := by decide +kernel
theorem dX9_winsLater_19 : decode cX9_winsLater 19 = .ok (.bipush 64, 2) := by decide +kernel
theorem dX9_winsLater_21 : decode cX9_winsLater 21 = .ok (.iload_n 1, 1) := by decide +kernel
theorem dX9_winsLater_22 : decode cX9_winsLater 22 = .ok (.imul, 1) := by decide +kernel
theorem dX9_winsLater_23 : decode cX9_winsLater 23 = .ok (.iadd, 1) := by decide +kernel
theorem dX9_winsLater_24 : decode cX9_winsLater 24 = .ok (.iload 4, 2) := by decide +kernel
theorem dX9_winsLater_26 : decode cX9_winsLater 26 = .ok (.iadd, 1) := by decide +kernel
theorem dX9_winsLater_27 : decode cX9_winsLater 27 = .ok (.iaload, 1) := by decide +kernel
theorem dX9_winsLater_28 : decode cX9_winsLater 28 = .ok (.istore 5, 2) := by decide +kernel
theorem dX9_winsLater_30 : decode cX9_winsLater 30 = .ok (.iconst 0, 1) := by decide +kernel
theorem dX9_winsLater_31 : decode cX9_winsLater 31 = .ok (.istore 6, 2) := by decide +kernel
theorem dX9_winsLater_33 : decode cX9_winsLater 33 = .ok (.iload 6, 2) := by decide +kernel
theorem dX9_winsLater_35 : decode cX9_winsLater 35 = .ok (.bipush 16, 2) := by decide +kernel
theorem dX9_winsLater_37 : decode cX9_winsLater 37 = .ok (.if_icmp .ge 58, 3) := by decide +kernel
theorem dX9_winsLater_40 : decode cX9_winsLater 40 = .ok (.iload 5, 2) := by decide +kernel
theorem dX9_winsLater_42 : decode cX9_winsLater 42 = .ok (.ifCond .lt 53, 3) := by decide +kernel
theorem dX9_winsLater_45 : decode cX9_winsLater 45 = .ok (.iload_n 1, 1) := by decide +kernel
theorem dX9_winsLater_46 : decode cX9_winsLater 46 = .ok (.iload 6, 2) := by decide +kernel
theorem dX9_winsLater_48 : decode cX9_winsLater 48 = .ok (.invokestatic 128, 3) := by decide +kernel
theorem dX9_winsLater_51 : decode cX9_winsLater 51 = .ok (.iload 5, 2) := by decide +kernel
theorem dX9_winsLater_53 : decode cX9_winsLater 53 = .ok (.bipush 16, 2) := by decide +kernel
theorem dX9_winsLater_55 : decode cX9_winsLater 55 = .ok (.idiv, 1) := by decide +kernel
theorem dX9_winsLater_56 : decode cX9_winsLater 56 = .ok (.aload_n 0, 1) := by decide +kernel
theorem dX9_winsLater_57 : decode cX9_winsLater 57 = .ok (.iload_n 3, 1) := by decide +kernel
theorem dX9_winsLater_58 : decode cX9_winsLater 58 = .ok (.invokevirtual 132, 3) := by decide +kernel
theorem dX9_winsLater_61 : decode cX9_winsLater 61 = .ok (.imul, 1) := by decide +kernel
theorem dX9_winsLater_62 : decode cX9_winsLater 62 = .ok (.bipush 10, 2) := by decide +kernel
theorem dX9_winsLater_64 : decode cX9_winsLater 64 = .ok (.idiv, 1) := by decide +kernel
theorem dX9_winsLater_65 : decode cX9_winsLater 65 = .ok (.if_icmp .gt 24, 3) := by decide +kernel
theorem dX9_winsLater_68 : decode cX9_winsLater 68 = .ok (.aload_n 0, 1) := by decide +kernel
theorem dX9_winsLater_69 : decode cX9_winsLater 69 = .ok (.getfield 44, 3) := by decide +kernel
theorem dX9_winsLater_72 : decode cX9_winsLater 72 = .ok (.bipush 16, 2) := by decide +kernel
theorem dX9_winsLater_74 : decode cX9_winsLater 74 = .ok (.iload 6, 2) := by decide +kernel
theorem dX9_winsLater_76 : decode cX9_winsLater 76 = .ok (.imul, 1) := by decide +kernel
theorem dX9_winsLater_77 : decode cX9_winsLater 77 = .ok (.iload 5, 2) := by decide +kernel
theorem dX9_winsLater_79 : decode cX9_winsLater 79 = .ok (.bipush 16, 2) := by decide +kernel
theorem dX9_winsLater_81 : decode cX9_winsLater 81 = .ok (.irem, 1) := by decide +kernel
theorem dX9_winsLater_82 : decode cX9_winsLater 82 = .ok (.iadd, 1) := by decide +kernel
theorem dX9_winsLater_83 : decode cX9_winsLater 83 = .ok (.baload, 1) := by decide +kernel
theorem dX9_winsLater_84 : decode cX9_winsLater 84 = .ok (.ifCond .eq 5, 3) := by decide +kernel
theorem dX9_winsLater_87 : decode cX9_winsLater 87 = .ok (.iconst 1, 1) := by decide +kernel
theorem dX9_winsLater_88 : decode cX9_winsLater 88 = .ok (.ireturn, 1) := by decide +kernel
theorem dX9_winsLater_89 : decode cX9_winsLater 89 = .ok (.iinc 6 1, 3) := by decide +kernel
theorem dX9_winsLater_92 : decode cX9_winsLater 92 = .ok (.goto (-59), 3) := by decide +kernel
theorem dX9_winsLater_95 : decode cX9_winsLater 95 = .ok (.iinc 4 1, 3) := by decide +kernel
theorem dX9_winsLater_98 : decode cX9_winsLater 98 = .ok (.goto (-95), 3) := by decide +kernel
theorem dX9_winsLater_101 : decode cX9_winsLater 101 = .ok (.iconst 0, 1) := by decide +kernel
theorem dX9_winsLater_102 : decode cX9_winsLater 102 = .ok (.ireturn, 1) := by decide +kernel
set_option maxRecDepth 20000 in
theorem ggX9_wins_X9_isPlayer : GoodIn wsX9_wins wsX9_isPlayer := goodIn_r _ [7, 8, 9, 6, 10] (by decide +kernel) (by decide +kernel)
set_option maxRecDepth 20000 in
theorem gX9_wins_X9_isPlayer : GoodIn wsX9_wins (va_wsS RX9 125 yX9_isPlayer wsX9_isPlayer) := goodIn_app (goodIn_of _ (by decide +kernel)) ggX9_wins_X9_isPlayer
set_option maxRecDepth 20000 in
theorem ggX9_wins_X9_isCell : GoodIn wsX9_wins wsX9_isCell := goodIn_r _ [13, 8, 9, 6, 10] (by decide +kernel) (by decide +kernel)
set_option maxRecDepth 20000 in
theorem gX9_wins_X9_isCell : GoodIn wsX9_wins (va_wsS RX9 115 yX9_isCell wsX9_isCell) := goodIn_app (goodIn_of _ (by decide +kernel)) ggX9_wins_X9_isCell
set_option maxRecDepth 20000 in
theorem ggX9_wins_X9_in : GoodIn wsX9_wins wsX9_in := goodIn_r _ [10] (by decide +kernel) (by decide +kernel)
set_option maxRecDepth 20000 in
theorem gX9_wins_X9_in : GoodIn wsX9_wins (va_wsS RX9 97 yX9_in wsX9_in) := goodIn_app (goodIn_of _ (by decide +kernel)) ggX9_wins_X9_in
set_option maxRecDepth 20000 in
theorem ggX9_wins_X9_findMeetings : GoodIn wsX9_wins wsX9_findMeetings := goodIn_r _ [17, 18, 19, 20, 21, 22, 6, 23, 24, 25, 26, 27, 28, 29, 30, 31, 32, 33, 34, 35, 36, 37, 38, 39, 40, 41, 42, 43, 44, 45, 46, 47, 48, 49, 50, 51, 52, 53, 54, 71, 72, 73, 74, 75, 76, 77, 78, 79, 80, 81, 82, 83, 84, 85, 86, 87, 88, 89, 90, 91, 92, 93, 94, 95, 96, 97, 98, 99, 100, 101, 102, 103, 104, 105, 106, 107, 108] (by decide +kernel) (by decide +kernel)
set_option maxRecDepth 20000 in
theorem gX9_wins_X9_findMeetings : GoodIn wsX9_wins (wsV RX9 151 RX9 yX9_findMeetings wsX9_findMeetings) := goodIn_app (goodIn_of _ (by decide +kernel)) ggX9_wins_X9_findMeetings
set_option maxRecDepth 20000 in
theorem ggX9_wins_X9_winsNow : GoodIn wsX9_wins wsX9_winsNow := goodIn_r _ [58, 19, 71, 72, 73, 74, 75, 76, 77, 78, 79, 80, 81, 82, 83, 84, 85, 86, 87, 88, 89, 90, 91, 92, 93, 94, 95, 96, 97, 98, 99, 100, 101, 102, 103, 104, 105, 106, 107, 108] (by decide +kernel) (by decide +kernel)
set_option maxRecDepth 20000 in
theorem gX9_wins_X9_winsNow : GoodIn wsX9_wins (wsV RX9 155 RX9 yX9_winsNow wsX9_winsNow) := goodIn_app (goodIn_of _ (by decide +kernel)) ggX9_wins_X9_winsNow
set_option maxRecDepth 20000 in
theorem ggX9_wins_X9_holdsAll : GoodIn wsX9_wins wsX9_holdsAll := goodIn_r _ [62, 18, 49, 50, 51, 6, 52, 53, 54, 63, 64, 65, 66, 1, 46, 47, 48, 29, 30, 31, 71, 72, 73, 74, 75, 76, 77, 78, 79, 80, 81, 82, 83, 84, 85, 86, 87, 88, 89, 90, 91, 92, 93, 94, 95, 96, 97, 98, 99, 100, 101, 102, 103, 104, 105, 106, 107, 108] (by decide +kernel) (by decide +kernel)
set_option maxRecDepth 20000 in
theorem gX9_wins_X9_holdsAll : GoodIn wsX9_wins (wsV RX9 159 RX9 yX9_holdsAll wsX9_holdsAll) := goodIn_app (goodIn_of _ (by decide +kernel)) ggX9_wins_X9_holdsAll
set_option maxRecDepth 20000 in
theorem ggX9_wins_X9_winsLater : GoodIn wsX9_wins wsX9_winsLater := goodIn_r _ [70, 19, 2, 46, 47, 6, 48, 29, 30, 31, 49, 50, 51, 52, 53, 54, 71, 72, 73, 74, 75, 76, 77, 78, 79, 80, 81, 82, 83, 84, 85, 86, 87, 88, 89, 90, 91, 92, 93, 94, 95, 96, 97, 98, 99, 100, 101, 102, 103, 104, 105, 106, 107, 108] (by decide +kernel) (by decide +kernel)
set_option maxRecDepth 20000 in
theorem gX9_wins_X9_winsLater : GoodIn wsX9_wins (wsV RX9 162 RX9 yX9_winsLater wsX9_winsLater) := goodIn_app (goodIn_of _ (by decide +kernel)) ggX9_wins_X9_winsLater
theorem dX9_wins_0 : decode cX9_wins 0 = .ok (.iload_n 1, 1) := by decide +kernel
theorem dX9_wins_1 : decode cX9_wins 1 = .ok (.invokestatic 125, 3) := by decide +kernel
theorem dX9_wins_4 : decode cX9_wins 4 = .ok (.ifCond .eq 25, 3) := by decide +kernel
theorem dX9_wins_7 : decode cX9_wins 7 = .ok (.iload_n 2, 1) := by decide +kernel
theorem dX9_wins_8 : decode cX9_wins 8 = .ok (.invokestatic 125, 3) := by decide +kernel
theorem dX9_wins_11 : decode cX9_wins 11 = .ok (.ifCond .eq 18, 3) := by decide +kernel
theorem dX9_wins_14 : decode cX9_wins 14 = .ok (.iload_n 3, 1) := by decide +kernel
theorem dX9_wins_15 : decode cX9_wins 15 = .ok (.invokestatic 115, 3) := by decide +kernel
theorem dX9_wins_18 : decode cX9_wins 18 = .ok (.ifCond .eq 11, 3) := by decide +kernel
theorem dX9_wins_21 : decode cX9_wins 21 = .ok (.iload 4, 2) := by decide +kernel
theorem dX9_wins_23 : decode cX9_wins 23 = .ok (.invokestatic 115, 3) := by decide +kernel
theorem dX9_wins_26 : decode cX9_wins 26 = .ok (.ifCond .ne 6, 3) := by decide +kernel
theorem dX9_wins_29 : decode cX9_wins 29 = .ok (.bipush (-2), 2) := by decide +kernel
theorem dX9_wins_31 : decode cX9_wins 31 = .ok (.ireturn, 1) := by decide +kernel
theorem dX9_wins_32 : decode cX9_wins 32 = .ok (.iload 5, 2) := by decide +kernel
theorem dX9_wins_34 : decode cX9_wins 34 = .ok (.iconst 1, 1) := by decide +kernel
theorem dX9_wins_35 : decode cX9_wins 35 = .ok (.iconst 4, 1) := by decide +kernel
theorem dX9_wins_36 : decode cX9_wins 36 = .ok (.invokestatic 97, 3) := by decide +kernel
theorem dX9_wins_39 : decode cX9_wins 39 = .ok (.ifCond .eq 8, 3) := by decide +kernel
theorem dX9_wins_42 : decode cX9_wins 42 = .ok (.iload_n 1, 1) := by decide +kernel
theorem dX9_wins_43 : decode cX9_wins 43 = .ok (.iload_n 2, 1) := by decide +kernel
theorem dX9_wins_44 : decode cX9_wins 44 = .ok (.if_icmp .ne 6, 3) := by decide +kernel
theorem dX9_wins_47 : decode cX9_wins 47 = .ok (.bipush (-3), 2) := by decide +kernel
theorem dX9_wins_49 : decode cX9_wins 49 = .ok (.ireturn, 1) := by decide +kernel
theorem dX9_wins_50 : decode cX9_wins 50 = .ok (.aload_n 0, 1) := by decide +kernel
theorem dX9_wins_51 : decode cX9_wins 51 = .ok (.iload_n 1, 1) := by decide +kernel
theorem dX9_wins_52 : decode cX9_wins 52 = .ok (.iload_n 2, 1) := by decide +kernel
theorem dX9_wins_53 : decode cX9_wins 53 = .ok (.invokevirtual 151, 3) := by decide +kernel
theorem dX9_wins_56 : decode cX9_wins 56 = .ok (.iconst 0, 1) := by decide +kernel
theorem dX9_wins_57 : decode cX9_wins 57 = .ok (.istore 6, 2) := by decide +kernel
theorem dX9_wins_59 : decode cX9_wins 59 = .ok (.iload 6, 2) := by decide +kernel
theorem dX9_wins_61 : decode cX9_wins 61 = .ok (.sipush 256, 3) := by decide +kernel
theorem dX9_wins_64 : decode cX9_wins 64 = .ok (.if_icmp .ge 30, 3) := by decide +kernel
theorem dX9_wins_67 : decode cX9_wins 67 = .ok (.aload_n 0, 1) := by decide +kernel
theorem dX9_wins_68 : decode cX9_wins 68 = .ok (.getfield 37, 3) := by decide +kernel
theorem dX9_wins_71 : decode cX9_wins 71 = .ok (.iload 6, 2) := by decide +kernel
theorem dX9_wins_73 : decode cX9_wins 73 = .ok (.aload_n 0, 1) := by decide +kernel
theorem dX9_wins_74 : decode cX9_wins 74 = .ok (.iload 6, 2) := by decide +kernel
theorem dX9_wins_76 : decode cX9_wins 76 = .ok (.bipush 16, 2) := by decide +kernel
theorem dX9_wins_78 : decode cX9_wins 78 = .ok (.idiv, 1) := by decide +kernel
theorem dX9_wins_79 : decode cX9_wins 79 = .ok (.iload 6, 2) := by decide +kernel
theorem dX9_wins_81 : decode cX9_wins 81 = .ok (.bipush 16, 2) := by decide +kernel
theorem dX9_wins_83 : decode cX9_wins 83 = .ok (.irem, 1) := by decide +kernel
theorem dX9_wins_84 : decode cX9_wins 84 = .ok (.invokevirtual 155, 3) := by decide +kernel
theorem dX9_wins_87 : decode cX9_wins 87 = .ok (.bastore, 1) := by decide +kernel
theorem dX9_wins_88 : decode cX9_wins 88 = .ok (.iinc 6 1, 3) := by decide +kernel
theorem dX9_wins_91 : decode cX9_wins 91 = .ok (.goto (-32), 3) := by decide +kernel
theorem dX9_wins_94 : decode cX9_wins 94 = .ok (.iconst 2, 1) := by decide +kernel
theorem dX9_wins_95 : decode cX9_wins 95 = .ok (.istore 6, 2) := by decide +kernel
theorem dX9_wins_97 : decode cX9_wins 97 = .ok (.iload 6, 2) := by decide +kernel
theorem dX9_wins_99 : decode cX9_wins 99 = .ok (.iload 5, 2) := by decide +kernel
theorem dX9_wins_101 : decode cX9_wins 101 = .ok (.if_icmp .gt 136, 3) := by decide +kernel
theorem dX9_wins_104 : decode cX9_wins 104 = .ok (.iconst 0, 1) := by decide +kernel
theorem dX9_wins_105 : decode cX9_wins 105 = .ok (.istore 7, 2) := by decide +kernel
theorem dX9_wins_107 : decode cX9_wins 107 = .ok (.iload 7, 2) := by decide +kernel
theorem dX9_wins_109 : decode cX9_wins 109 = .ok (.sipush 256, 3) := by decide +kernel
theorem dX9_wins_112 : decode cX9_wins 112 = .ok (.if_icmp .ge 31, 3) := by decide +kernel
theorem dX9_wins_115 : decode cX9_wins 115 = .ok (.aload_n 0, 1) := by decide +kernel
theorem dX9_wins_116 : decode cX9_wins 116 = .ok (.getfield 44, 3) := by decide +kernel
theorem dX9_wins_119 : decode cX9_wins 119 = .ok (.iload 7, 2) := by decide +kernel
theorem dX9_wins_121 : decode cX9_wins 121 = .ok (.aload_n 0, 1) := by decide +kernel
theorem dX9_wins_122 : decode cX9_wins 122 = .ok (.iload 7, 2) := by decide +kernel
theorem dX9_wins_124 : decode cX9_wins 124 = .ok (.bipush 16, 2) := by decide +kernel
theorem dX9_wins_126 : decode cX9_wins 126 = .ok (.idiv, 1) := by decide +kernel
theorem dX9_wins_127 : decode cX9_wins 127 = .ok (.iload 7, 2) := by decide +kernel
theorem dX9_wins_129 : decode cX9_wins 129 = .ok (.bipush 16, 2) := by decide +kernel
theorem dX9_wins_131 : decode cX9_wins 131 = .ok (.irem, 1) := by decide +kernel
theorem dX9_wins_132 : decode cX9_wins 132 = .ok (.iload_n 2, 1) := by decide +kernel
theorem dX9_wins_133 : decode cX9_wins 133 = .ok (.invokevirtual 159, 3) := by decide +kernel
theorem dX9_wins_136 : decode cX9_wins 136 = .ok (.bastore, 1) := by decide +kernel
theorem dX9_wins_137 : decode cX9_wins 137 = .ok (.iinc 7 1, 3) := by decide +kernel
theorem dX9_wins_140 : decode cX9_wins 140 = .ok (.goto (-33), 3) := by decide +kernel
theorem dX9_wins_143 : decode cX9_wins 143 = .ok (.iconst 0, 1) := by decide +kernel
theorem dX9_wins_144 : decode cX9_wins 144 = .ok (.istore 7, 2) := by decide +kernel
theorem dX9_wins_146 : decode cX9_wins 146 = .ok (.iload 7, 2) := by decide +kernel
theorem dX9_wins_148 : decode cX9_wins 148 = .ok (.sipush 256, 3) := by decide +kernel
theorem dX9_wins_151 : decode cX9_wins 151 = .ok (.if_icmp .ge 49, 3) := by decide +kernel
theorem dX9_wins_154 : decode cX9_wins 154 = .ok (.aload_n 0, 1) := by decide +kernel
theorem dX9_wins_155 : decode cX9_wins 155 = .ok (.getfield 41, 3) := by decide +kernel
theorem dX9_wins_158 : decode cX9_wins 158 = .ok (.iload 7, 2) := by decide +kernel
theorem dX9_wins_160 : decode cX9_wins 160 = .ok (.aload_n 0, 1) := by decide +kernel
theorem dX9_wins_161 : decode cX9_wins 161 = .ok (.getfield 37, 3) := by decide +kernel
theorem dX9_wins_164 : decode cX9_wins 164 = .ok (.iload 7, 2) := by decide +kernel
theorem dX9_wins_166 : decode cX9_wins 166 = .ok (.baload, 1) := by decide +kernel
theorem dX9_wins_167 : decode cX9_wins 167 = .ok (.ifCond .ne 21, 3) := by decide +kernel
theorem dX9_wins_170 : decode cX9_wins 170 = .ok (.aload_n 0, 1) := by decide +kernel
theorem dX9_wins_171 : decode cX9_wins 171 = .ok (.iload 7, 2) := by decide +kernel
theorem dX9_wins_173 : decode cX9_wins 173 = .ok (.bipush 16, 2) := by decide +kernel
theorem dX9_wins_175 : decode cX9_wins 175 = .ok (.idiv, 1) := by decide +kernel
theorem dX9_wins_176 : decode cX9_wins 176 = .ok (.iload 7, 2) := by decide +kernel
theorem dX9_wins_178 : decode cX9_wins 178 = .ok (.bipush 16, 2) := by decide +kernel
theorem dX9_wins_180 : decode cX9_wins 180 = .ok (.irem, 1) := by decide +kernel
theorem dX9_wins_181 : decode cX9_wins 181 = .ok (.iload_n 1, 1) := by decide +kernel
theorem dX9_wins_182 : decode cX9_wins 182 = .ok (.invokevirtual 162, 3) := by decide +kernel
theorem dX9_wins_185 : decode cX9_wins 185 = .ok (.ifCond .eq 7, 3) := by decide +kernel
theorem dX9_wins_188 : decode cX9_wins 188 = .ok (.iconst 1, 1) := by decide +kernel
theorem dX9_wins_189 : decode cX9_wins 189 = .ok (.goto 4, 3) := by decide +kernel
theorem dX9_wins_192 : decode cX9_wins 192 = .ok (.iconst 0, 1) := by decide +kernel
theorem dX9_wins_193 : decode cX9_wins 193 = .ok (.bastore, 1) := by decide +kernel
theorem dX9_wins_194 : decode cX9_wins 194 = .ok (.iinc 7 1, 3) := by decide +kernel
theorem dX9_wins_197 : decode cX9_wins 197 = .ok (.goto (-51), 3) := by decide +kernel
theorem dX9_wins_200 : decode cX9_wins 200 = .ok (.iconst 0, 1) := by decide +kernel
theorem dX9_wins_201 : decode cX9_wins 201 = .ok (.istore 7, 2) := by decide +kernel
theorem dX9_wins_203 : decode cX9_wins 203 = .ok (.iload 7, 2) := by decide +kernel
theorem dX9_wins_205 : decode cX9_wins 205 = .ok (.sipush 256, 3) := by decide +kernel
theorem dX9_wins_208 : decode cX9_wins 208 = .ok (.if_icmp .ge 23, 3) := by decide +kernel
theorem dX9_wins_211 : decode cX9_wins 211 = .ok (.aload_n 0, 1) := by decide +kernel
theorem dX9_wins_212 : decode cX9_wins 212 = .ok (.getfield 37, 3) := by decide +kernel
theorem dX9_wins_215 : decode cX9_wins 215 = .ok (.iload 7, 2) := by decide +kernel
theorem dX9_wins_217 : decode cX9_wins 217 = .ok (.aload_n 0, 1) := by decide +kernel
theorem dX9_wins_218 : decode cX9_wins 218 = .ok (.getfield 41, 3) := by decide +kernel
theorem dX9_wins_221 : decode cX9_wins 221 = .ok (.iload 7, 2) := by decide +kernel
theorem dX9_wins_223 : decode cX9_wins 223 = .ok (.baload, 1) := by decide +kernel
theorem dX9_wins_224 : decode cX9_wins 224 = .ok (.bastore, 1) := by decide +kernel
theorem dX9_wins_225 : decode cX9_wins 225 = .ok (.iinc 7 1, 3) := by decide +kernel
theorem dX9_wins_228 : decode cX9_wins 228 = .ok (.goto (-25), 3) := by decide +kernel
theorem dX9_wins_231 : decode cX9_wins 231 = .ok (.iinc 6 1, 3) := by decide +kernel
theorem dX9_wins_234 : decode cX9_wins 234 = .ok (.goto (-137), 3) := by decide +kernel
theorem dX9_wins_237 : decode cX9_wins 237 = .ok (.aload_n 0, 1) := by decide +kernel
theorem dX9_wins_238 : decode cX9_wins 238 = .ok (.getfield 37, 3) := by decide +kernel
theorem dX9_wins_241 : decode cX9_wins 241 = .ok (.bipush 16, 2) := by decide +kernel
theorem dX9_wins_243 : decode cX9_wins 243 = .ok (.iload_n 3, 1) := by decide +kernel
theorem dX9_wins_244 : decode cX9_wins 244 = .ok (.imul, 1) := by decide +kernel
theorem dX9_wins_245 : decode cX9_wins 245 = .ok (.iload 4, 2) := by decide +kernel
theorem dX9_wins_247 : decode cX9_wins 247 = .ok (.iadd, 1) := by decide +kernel
theorem dX9_wins_248 : decode cX9_wins 248 = .ok (.baload, 1) := by decide +kernel
theorem dX9_wins_249 : decode cX9_wins 249 = .ok (.ifCond .eq 7, 3) := by decide +kernel
theorem dX9_wins_252 : decode cX9_wins 252 = .ok (.iconst 1, 1) := by decide +kernel
theorem dX9_wins_253 : decode cX9_wins 253 = .ok (.goto 4, 3) := by decide +kernel
theorem dX9_wins_256 : decode cX9_wins 256 = .ok (.iconst 0, 1) := by decide +kernel
theorem dX9_wins_257 : decode cX9_wins 257 = .ok (.ireturn, 1) := by decide +kernel
theorem dX9_alone_0 : decode cX9_alone 0 = .ok (.iconst 0, 1) := by decide +kernel
theorem dX9_alone_1 : decode cX9_alone 1 = .ok (.istore_n 1, 1) := by decide +kernel
theorem dX9_alone_2 : decode cX9_alone 2 = .ok (.iconst 1, 1) := by decide +kernel
theorem dX9_alone_3 : decode cX9_alone 3 = .ok (.istore_n 2, 1) := by decide +kernel
theorem dX9_alone_4 : decode cX9_alone 4 = .ok (.iload_n 2, 1) := by decide +kernel
theorem dX9_alone_5 : decode cX9_alone 5 = .ok (.iconst 3, 1) := by decide +kernel
theorem dX9_alone_6 : decode cX9_alone 6 = .ok (.if_icmp .ge 30, 3) := by decide +kernel
theorem dX9_alone_9 : decode cX9_alone 9 = .ok (.aload_n 0, 1) := by decide +kernel
theorem dX9_alone_10 : decode cX9_alone 10 = .ok (.getfield 47, 3) := by decide +kernel
theorem dX9_alone_13 : decode cX9_alone 13 = .ok (.iload_n 2, 1) := by decide +kernel
theorem dX9_alone_14 : decode cX9_alone 14 = .ok (.iaload, 1) := by decide +kernel
theorem dX9_alone_15 : decode cX9_alone 15 = .ok (.aload_n 0, 1) := by decide +kernel
theorem dX9_alone_16 : decode cX9_alone 16 = .ok (.getfield 47, 3) := by decide +kernel
theorem dX9_alone_19 : decode cX9_alone 19 = .ok (.iload_n 1, 1) := by decide +kernel
theorem dX9_alone_20 : decode cX9_alone 20 = .ok (.iaload, 1) := by decide +kernel
theorem dX9_alone_21 : decode cX9_alone 21 = .ok (.if_icmp .le 7, 3) := by decide +kernel
theorem dX9_alone_24 : decode cX9_alone 24 = .ok (.iload_n 2, 1) := by decide +kernel
theorem dX9_alone_25 : decode cX9_alone 25 = .ok (.goto 4, 3) := by decide +kernel
theorem dX9_alone_28 : decode cX9_alone 28 = .ok (.iload_n 1, 1) := by decide +kernel
theorem dX9_alone_29 : decode cX9_alone 29 = .ok (.istore_n 1, 1) := by decide +kernel
theorem dX9_alone_30 : decode cX9_alone 30 = .ok (.iinc 2 1, 3) := by decide +kernel
theorem dX9_alone_33 : decode cX9_alone 33 = .ok (.goto (-29), 3) := by decide +kernel
theorem dX9_alone_36 : decode cX9_alone 36 = .ok (.iload_n 1, 1) := by decide +kernel
theorem dX9_alone_37 : decode cX9_alone 37 = .ok (.ireturn, 1) := by decide +kernel
theorem dX9_isOver_0 : decode cX9_isOver 0 = .ok (.aload_n 0, 1) := by decide +kernel
theorem dX9_isOver_1 : decode cX9_isOver 1 = .ok (.getfield 47, 3) := by decide +kernel
theorem dX9_isOver_4 : decode cX9_isOver 4 = .ok (.iconst 0, 1) := by decide +kernel
theorem dX9_isOver_5 : decode cX9_isOver 5 = .ok (.iaload, 1) := by decide +kernel
theorem dX9_isOver_6 : decode cX9_isOver 6 = .ok (.bipush 14, 2) := by decide +kernel
theorem dX9_isOver_8 : decode cX9_isOver 8 = .ok (.if_icmp .gt 25, 3) := by decide +kernel
theorem dX9_isOver_11 : decode cX9_isOver 11 = .ok (.aload_n 0, 1) := by decide +kernel
theorem dX9_isOver_12 : decode cX9_isOver 12 = .ok (.getfield 47, 3) := by decide +kernel
theorem dX9_isOver_15 : decode cX9_isOver 15 = .ok (.iconst 1, 1) := by decide +kernel
theorem dX9_isOver_16 : decode cX9_isOver 16 = .ok (.iaload, 1) := by decide +kernel
theorem dX9_isOver_17 : decode cX9_isOver 17 = .ok (.bipush 14, 2) := by decide +kernel
theorem dX9_isOver_19 : decode cX9_isOver 19 = .ok (.if_icmp .gt 14, 3) := by decide +kernel
theorem dX9_isOver_22 : decode cX9_isOver 22 = .ok (.aload_n 0, 1) := by decide +kernel
theorem dX9_isOver_23 : decode cX9_isOver 23 = .ok (.getfield 47, 3) := by decide +kernel
theorem dX9_isOver_26 : decode cX9_isOver 26 = .ok (.iconst 2, 1) := by decide +kernel
theorem dX9_isOver_27 : decode cX9_isOver 27 = .ok (.iaload, 1) := by decide +kernel
theorem dX9_isOver_28 : decode cX9_isOver 28 = .ok (.bipush 14, 2) := by decide +kernel
theorem dX9_isOver_30 : decode cX9_isOver 30 = .ok (.if_icmp .le 7, 3) := by decide +kernel
theorem dX9_isOver_33 : decode cX9_isOver 33 = .ok (.iconst 1, 1) := by decide +kernel
theorem dX9_isOver_34 : decode cX9_isOver 34 = .ok (.goto 4, 3) := by decide +kernel
theorem dX9_isOver_37 : decode cX9_isOver 37 = .ok (.iconst 0, 1) := by decide +kernel
theorem dX9_isOver_38 : decode cX9_isOver 38 = .ok (.ireturn, 1) := by decide +kernel
set_option maxRecDepth 20000 in
theorem ggX9_rally_X9_in : GoodIn wsX9_rally wsX9_in := goodIn_r _ [6] (by decide +kernel) (by decide +kernel)
set_option maxRecDepth 20000 in
theorem gX9_rally_X9_in : GoodIn wsX9_rally (va_wsS RX9 97 yX9_in wsX9_in) := goodIn_app (goodIn_of _ (by decide +kernel)) ggX9_rally_X9_in
set_option maxRecDepth 20000 in
theorem ggX9_rally_X9_isOver : GoodIn wsX9_rally wsX9_isOver := goodIn_r _ [10, 1, 15, 16, 17, 18, 19, 20, 21, 22, 23, 24, 25, 26, 27, 28, 29, 30, 31, 32, 33, 34, 35, 36, 37, 38, 39, 40, 41, 42, 43, 44, 45, 46, 47, 48, 49, 50, 51, 52] (by decide +kernel) (by decide +kernel)
set_option maxRecDepth 20000 in
theorem gX9_rally_X9_isOver : GoodIn wsX9_rally (wsV RX9 165 RX9 yX9_isOver wsX9_isOver) := goodIn_app (goodIn_of _ (by decide +kernel)) ggX9_rally_X9_isOver
set_option maxRecDepth 20000 in
theorem ggX9_rally_X9_alone : GoodIn wsX9_rally wsX9_alone := goodIn_r _ [14, 1, 15, 16, 17, 18, 19, 20, 21, 22, 23, 24, 25, 26, 27, 28, 29, 30, 31, 32, 33, 34, 35, 36, 37, 38, 39, 40, 41, 42, 43, 44, 45, 46, 47, 48, 49, 50, 51, 52] (by decide +kernel) (by decide +kernel)
set_option maxRecDepth 20000 in
theorem gX9_rally_X9_alone : GoodIn wsX9_rally (wsV RX9 169 RX9 yX9_alone wsX9_alone) := goodIn_app (goodIn_of _ (by decide +kernel)) ggX9_rally_X9_alone
theorem dX9_rally_0 : decode cX9_rally 0 = .ok (.iload_n 1, 1) := by decide +kernel
theorem dX9_rally_1 : decode cX9_rally 1 = .ok (.iconst 0, 1) := by decide +kernel
theorem dX9_rally_2 : decode cX9_rally 2 = .ok (.iconst 2, 1) := by decide +kernel
theorem dX9_rally_3 : decode cX9_rally 3 = .ok (.invokestatic 97, 3) := by decide +kernel
theorem dX9_rally_6 : decode cX9_rally 6 = .ok (.ifCond .ne 6, 3) := by decide +kernel
theorem dX9_rally_9 : decode cX9_rally 9 = .ok (.bipush (-3), 2) := by decide +kernel
theorem dX9_rally_11 : decode cX9_rally 11 = .ok (.ireturn, 1) := by decide +kernel
theorem dX9_rally_12 : decode cX9_rally 12 = .ok (.aload_n 0, 1) := by decide +kernel
theorem dX9_rally_13 : decode cX9_rally 13 = .ok (.invokevirtual 165, 3) := by decide +kernel
theorem dX9_rally_16 : decode cX9_rally 16 = .ok (.ifCond .eq 6, 3) := by decide +kernel
theorem dX9_rally_19 : decode cX9_rally 19 = .ok (.bipush (-4), 2) := by decide +kernel
theorem dX9_rally_21 : decode cX9_rally 21 = .ok (.ireturn, 1) := by decide +kernel
theorem dX9_rally_22 : decode cX9_rally 22 = .ok (.aload_n 0, 1) := by decide +kernel
theorem dX9_rally_23 : decode cX9_rally 23 = .ok (.invokevirtual 169, 3) := by decide +kernel
theorem dX9_rally_26 : decode cX9_rally 26 = .ok (.istore_n 2, 1) := by decide +kernel
theorem dX9_rally_27 : decode cX9_rally 27 = .ok (.iload_n 1, 1) := by decide +kernel
theorem dX9_rally_28 : decode cX9_rally 28 = .ok (.ifCond .ne 18, 3) := by decide +kernel
theorem dX9_rally_31 : decode cX9_rally 31 = .ok (.aload_n 0, 1) := by decide +kernel
theorem dX9_rally_32 : decode cX9_rally 32 = .ok (.getfield 47, 3) := by decide +kernel
theorem dX9_rally_35 : decode cX9_rally 35 = .ok (.iload_n 2, 1) := by decide +kernel
theorem dX9_rally_36 : decode cX9_rally 36 = .ok (.dup2, 1) := by decide +kernel
theorem dX9_rally_37 : decode cX9_rally 37 = .ok (.iaload, 1) := by decide +kernel
theorem dX9_rally_38 : decode cX9_rally 38 = .ok (.iconst 1, 1) := by decide +kernel
theorem dX9_rally_39 : decode cX9_rally 39 = .ok (.iadd, 1) := by decide +kernel
theorem dX9_rally_40 : decode cX9_rally 40 = .ok (.iastore, 1) := by decide +kernel
theorem dX9_rally_41 : decode cX9_rally 41 = .ok (.aload_n 0, 1) := by decide +kernel
theorem dX9_rally_42 : decode cX9_rally 42 = .ok (.iload_n 2, 1) := by decide +kernel
theorem dX9_rally_43 : decode cX9_rally 43 = .ok (.putfield 173, 3) := by decide +kernel
theorem dX9_rally_46 : decode cX9_rally 46 = .ok (.iload_n 1, 1) := by decide +kernel
theorem dX9_rally_47 : decode cX9_rally 47 = .ok (.iconst 1, 1) := by decide +kernel
theorem dX9_rally_48 : decode cX9_rally 48 = .ok (.if_icmp .ne 72, 3) := by decide +kernel
theorem dX9_rally_51 : decode cX9_rally 51 = .ok (.iload_n 2, 1) := by decide +kernel
theorem dX9_rally_52 : decode cX9_rally 52 = .ok (.ifCond .ne 7, 3) := by decide +kernel
theorem dX9_rally_55 : decode cX9_rally 55 = .ok (.iconst 1, 1) := by decide +kernel
theorem dX9_rally_56 : decode cX9_rally 56 = .ok (.goto 4, 3) := by decide +kernel
theorem dX9_rally_59 : decode cX9_rally 59 = .ok (.iconst 0, 1) := by decide +kernel
theorem dX9_rally_60 : decode cX9_rally 60 = .ok (.istore_n 3, 1) := by decide +kernel
theorem dX9_rally_61 : decode cX9_rally 61 = .ok (.iload_n 2, 1) := by decide +kernel
theorem dX9_rally_62 : decode cX9_rally 62 = .ok (.iconst 2, 1) := by decide +kernel
theorem dX9_rally_63 : decode cX9_rally 63 = .ok (.if_icmp .ne 7, 3) := by decide +kernel
theorem dX9_rally_66 : decode cX9_rally 66 = .ok (.iconst 1, 1) := by decide +kernel
theorem dX9_rally_67 : decode cX9_rally 67 = .ok (.goto 4, 3) := by decide +kernel
theorem dX9_rally_70 : decode cX9_rally 70 = .ok (.iconst 2, 1) := by decide +kernel
theorem dX9_rally_71 : decode cX9_rally 71 = .ok (.istore 4, 2) := by decide +kernel
theorem dX9_rally_73 : decode cX9_rally 73 = .ok (.aload_n 0, 1) := by decide +kernel
theorem dX9_rally_74 : decode cX9_rally 74 = .ok (.getfield 47, 3) := by decide +kernel
theorem dX9_rally_77 : decode cX9_rally 77 = .ok (.iload_n 3, 1) := by decide +kernel
theorem dX9_rally_78 : decode cX9_rally 78 = .ok (.dup2, 1) := by decide +kernel
theorem dX9_rally_79 : decode cX9_rally 79 = .ok (.iaload, 1) := by decide +kernel
theorem dX9_rally_80 : decode cX9_rally 80 = .ok (.iconst 1, 1) := by decide +kernel
theorem dX9_rally_81 : decode cX9_rally 81 = .ok (.iadd, 1) := by decide +kernel
theorem dX9_rally_82 : decode cX9_rally 82 = .ok (.iastore, 1) := by decide +kernel
theorem dX9_rally_83 : decode cX9_rally 83 = .ok (.aload_n 0, 1) := by decide +kernel
theorem dX9_rally_84 : decode cX9_rally 84 = .ok (.getfield 47, 3) := by decide +kernel
theorem dX9_rally_87 : decode cX9_rally 87 = .ok (.iload 4, 2) := by decide +kernel
theorem dX9_rally_89 : decode cX9_rally 89 = .ok (.dup2, 1) := by decide +kernel
theorem dX9_rally_90 : decode cX9_rally 90 = .ok (.iaload, 1) := by decide +kernel
theorem dX9_rally_91 : decode cX9_rally 91 = .ok (.iconst 1, 1) := by decide +kernel
theorem dX9_rally_92 : decode cX9_rally 92 = .ok (.iadd, 1) := by decide +kernel
theorem dX9_rally_93 : decode cX9_rally 93 = .ok (.iastore, 1) := by decide +kernel
theorem dX9_rally_94 : decode cX9_rally 94 = .ok (.aload_n 0, 1) := by decide +kernel
theorem dX9_rally_95 : decode cX9_rally 95 = .ok (.aload_n 0, 1) := by decide +kernel
theorem dX9_rally_96 : decode cX9_rally 96 = .ok (.getfield 47, 3) := by decide +kernel
theorem dX9_rally_99 : decode cX9_rally 99 = .ok (.iload 4, 2) := by decide +kernel
theorem dX9_rally_101 : decode cX9_rally 101 = .ok (.iaload, 1) := by decide +kernel
theorem dX9_rally_102 : decode cX9_rally 102 = .ok (.aload_n 0, 1) := by decide +kernel
theorem dX9_rally_103 : decode cX9_rally 103 = .ok (.getfield 47, 3) := by decide +kernel
theorem dX9_rally_106 : decode cX9_rally 106 = .ok (.iload_n 3, 1) := by decide +kernel
theorem dX9_rally_107 : decode cX9_rally 107 = .ok (.iaload, 1) := by decide +kernel
theorem dX9_rally_108 : decode cX9_rally 108 = .ok (.if_icmp .ge 8, 3) := by decide +kernel
theorem dX9_rally_111 : decode cX9_rally 111 = .ok (.iload 4, 2) := by decide +kernel
theorem dX9_rally_113 : decode cX9_rally 113 = .ok (.goto 4, 3) := by decide +kernel
theorem dX9_rally_116 : decode cX9_rally 116 = .ok (.iload_n 3, 1) := by decide +kernel
theorem dX9_rally_117 : decode cX9_rally 117 = .ok (.putfield 173, 3) := by decide +kernel
theorem dX9_rally_120 : decode cX9_rally 120 = .ok (.aload_n 0, 1) := by decide +kernel
theorem dX9_rally_121 : decode cX9_rally 121 = .ok (.getfield 173, 3) := by decide +kernel
theorem dX9_rally_124 : decode cX9_rally 124 = .ok (.ireturn, 1) := by decide +kernel
set_option maxRecDepth 20000 in
theorem ggX9_three_X9_in : GoodIn wsX9_three wsX9_in := goodIn_r _ [6] (by decide +kernel) (by decide +kernel)
set_option maxRecDepth 20000 in
theorem gX9_three_X9_in : GoodIn wsX9_three (va_wsS RX9 97 yX9_in wsX9_in) := goodIn_app (goodIn_of _ (by decide +kernel)) ggX9_three_X9_in
set_option maxRecDepth 20000 in
theorem ggX9_three_X9_alone : GoodIn wsX9_three wsX9_alone := goodIn_r _ [10, 1, 15, 16, 17, 18, 19, 20, 21, 22, 23, 24, 25, 26, 27, 28, 29, 30, 31, 32, 33, 34, 35, 36, 37, 38, 39, 40, 41, 42, 43, 44, 45, 46, 47, 48, 49, 50, 51, 52] (by decide +kernel) (by decide +kernel)
set_option maxRecDepth 20000 in
theorem gX9_three_X9_alone : GoodIn wsX9_three (wsV RX9 169 RX9 yX9_alone wsX9_alone) := goodIn_app (goodIn_of _ (by decide +kernel)) ggX9_three_X9_alone
set_option maxRecDepth 20000 in
theorem ggX9_three_X9_isOver : GoodIn wsX9_three wsX9_isOver := goodIn_r _ [14, 1, 15, 16, 17, 18, 19, 20, 21, 22, 23, 24, 25, 26, 27, 28, 29, 30, 31, 32, 33, 34, 35, 36, 37, 38, 39, 40, 41, 42, 43, 44, 45, 46, 47, 48, 49, 50, 51, 52] (by decide +kernel) (by decide +kernel)
set_option maxRecDepth 20000 in
theorem gX9_three_X9_isOver : GoodIn wsX9_three (wsV RX9 165 RX9 yX9_isOver wsX9_isOver) := goodIn_app (goodIn_of _ (by decide +kernel)) ggX9_three_X9_isOver
theorem dX9_three_0 : decode cX9_three 0 = .ok (.iload_n 1, 1) := by decide +kernel
theorem dX9_three_1 : decode cX9_three 1 = .ok (.iconst 0, 1) := by decide +kernel
theorem dX9_three_2 : decode cX9_three 2 = .ok (.iconst 2, 1) := by decide +kernel
theorem dX9_three_3 : decode cX9_three 3 = .ok (.invokestatic 97, 3) := by decide +kernel
theorem dX9_three_6 : decode cX9_three 6 = .ok (.ifCond .eq 12, 3) := by decide +kernel
theorem dX9_three_9 : decode cX9_three 9 = .ok (.aload_n 0, 1) := by decide +kernel
theorem dX9_three_10 : decode cX9_three 10 = .ok (.getfield 47, 3) := by decide +kernel
theorem dX9_three_13 : decode cX9_three 13 = .ok (.iload_n 1, 1) := by decide +kernel
theorem dX9_three_14 : decode cX9_three 14 = .ok (.iaload, 1) := by decide +kernel
theorem dX9_three_15 : decode cX9_three 15 = .ok (.goto 49, 3) := by decide +kernel
theorem dX9_three_18 : decode cX9_three 18 = .ok (.iload_n 1, 1) := by decide +kernel
theorem dX9_three_19 : decode cX9_three 19 = .ok (.iconst 3, 1) := by decide +kernel
theorem dX9_three_20 : decode cX9_three 20 = .ok (.if_icmp .ne 10, 3) := by decide +kernel
theorem dX9_three_23 : decode cX9_three 23 = .ok (.aload_n 0, 1) := by decide +kernel
theorem dX9_three_24 : decode cX9_three 24 = .ok (.invokevirtual 169, 3) := by decide +kernel
theorem dX9_three_27 : decode cX9_three 27 = .ok (.goto 37, 3) := by decide +kernel
theorem dX9_three_30 : decode cX9_three 30 = .ok (.iload_n 1, 1) := by decide +kernel
theorem dX9_three_31 : decode cX9_three 31 = .ok (.iconst 4, 1) := by decide +kernel
theorem dX9_three_32 : decode cX9_three 32 = .ok (.if_icmp .ne 10, 3) := by decide +kernel
theorem dX9_three_35 : decode cX9_three 35 = .ok (.aload_n 0, 1) := by decide +kernel
theorem dX9_three_36 : decode cX9_three 36 = .ok (.getfield 173, 3) := by decide +kernel
theorem dX9_three_39 : decode cX9_three 39 = .ok (.goto 25, 3) := by decide +kernel
theorem dX9_three_42 : decode cX9_three 42 = .ok (.iload_n 1, 1) := by decide +kernel
theorem dX9_three_43 : decode cX9_three 43 = .ok (.iconst 5, 1) := by decide +kernel
theorem dX9_three_44 : decode cX9_three 44 = .ok (.if_icmp .ne 18, 3) := by decide +kernel
theorem dX9_three_47 : decode cX9_three 47 = .ok (.aload_n 0, 1) := by decide +kernel
theorem dX9_three_48 : decode cX9_three 48 = .ok (.invokevirtual 165, 3) := by decide +kernel
theorem dX9_three_51 : decode cX9_three 51 = .ok (.ifCond .eq 7, 3) := by decide +kernel
theorem dX9_three_54 : decode cX9_three 54 = .ok (.iconst 1, 1) := by decide +kernel
theorem dX9_three_55 : decode cX9_three 55 = .ok (.goto 9, 3) := by decide +kernel
theorem dX9_three_58 : decode cX9_three 58 = .ok (.iconst 0, 1) := by decide +kernel
theorem dX9_three_59 : decode cX9_three 59 = .ok (.goto 5, 3) := by decide +kernel
theorem dX9_three_62 : decode cX9_three 62 = .ok (.bipush (-3), 2) := by decide +kernel
theorem dX9_three_64 : decode cX9_three 64 = .ok (.ireturn, 1) := by decide +kernel
theorem dX9_again_0 : decode cX9_again 0 = .ok (.aload_n 0, 1) := by decide +kernel
theorem dX9_again_1 : decode cX9_again 1 = .ok (.getfield 47, 3) := by decide +kernel
theorem dX9_again_4 : decode cX9_again 4 = .ok (.iconst 0, 1) := by decide +kernel
theorem dX9_again_5 : decode cX9_again 5 = .ok (.iaload, 1) := by decide +kernel
theorem dX9_again_6 : decode cX9_again 6 = .ok (.aload_n 0, 1) := by decide +kernel
theorem dX9_again_7 : decode cX9_again 7 = .ok (.getfield 47, 3) := by decide +kernel
theorem dX9_again_10 : decode cX9_again 10 = .ok (.iconst 1, 1) := by decide +kernel
theorem dX9_again_11 : decode cX9_again 11 = .ok (.iaload, 1) := by decide +kernel
theorem dX9_again_12 : decode cX9_again 12 = .ok (.iadd, 1) := by decide +kernel
theorem dX9_again_13 : decode cX9_again 13 = .ok (.aload_n 0, 1) := by decide +kernel
theorem dX9_again_14 : decode cX9_again 14 = .ok (.getfield 47, 3) := by decide +kernel
theorem dX9_again_17 : decode cX9_again 17 = .ok (.iconst 2, 1) := by decide +kernel
theorem dX9_again_18 : decode cX9_again 18 = .ok (.iaload, 1) := by decide +kernel
theorem dX9_again_19 : decode cX9_again 19 = .ok (.iadd, 1) := by decide +kernel
theorem dX9_again_20 : decode cX9_again 20 = .ok (.istore_n 1, 1) := by decide +kernel
theorem dX9_again_21 : decode cX9_again 21 = .ok (.aload_n 0, 1) := by decide +kernel
theorem dX9_again_22 : decode cX9_again 22 = .ok (.getfield 47, 3) := by decide +kernel
theorem dX9_again_25 : decode cX9_again 25 = .ok (.iconst 0, 1) := by decide +kernel
theorem dX9_again_26 : decode cX9_again 26 = .ok (.iconst 0, 1) := by decide +kernel
theorem dX9_again_27 : decode cX9_again 27 = .ok (.iastore, 1) := by decide +kernel
theorem dX9_again_28 : decode cX9_again 28 = .ok (.aload_n 0, 1) := by decide +kernel
theorem dX9_again_29 : decode cX9_again 29 = .ok (.getfield 47, 3) := by decide +kernel
theorem dX9_again_32 : decode cX9_again 32 = .ok (.iconst 1, 1) := by decide +kernel
theorem dX9_again_33 : decode cX9_again 33 = .ok (.iconst 0, 1) := by decide +kernel
theorem dX9_again_34 : decode cX9_again 34 = .ok (.iastore, 1) := by decide +kernel
theorem dX9_again_35 : decode cX9_again 35 = .ok (.aload_n 0, 1) := by decide +kernel
theorem dX9_again_36 : decode cX9_again 36 = .ok (.getfield 47, 3) := by decide +kernel
theorem dX9_again_39 : decode cX9_again 39 = .ok (.iconst 2, 1) := by decide +kernel
theorem dX9_again_40 : decode cX9_again 40 = .ok (.iconst 0, 1) := by decide +kernel
theorem dX9_again_41 : decode cX9_again 41 = .ok (.iastore, 1) := by decide +kernel
theorem dX9_again_42 : decode cX9_again 42 = .ok (.aload_n 0, 1) := by decide +kernel
theorem dX9_again_43 : decode cX9_again 43 = .ok (.iconst 0, 1) := by decide +kernel
theorem dX9_again_44 : decode cX9_again 44 = .ok (.putfield 173, 3) := by decide +kernel
theorem dX9_again_47 : decode cX9_again 47 = .ok (.iload_n 1, 1) := by decide +kernel
theorem dX9_again_48 : decode cX9_again 48 = .ok (.ireturn, 1) := by decide +kernel
set_option maxRecDepth 20000 in
theorem ggX9_note_X9_in : GoodIn wsX9_note wsX9_in := goodIn_r _ [7] (by decide +kernel) (by decide +kernel)
set_option maxRecDepth 20000 in
theorem gX9_note_X9_in : GoodIn wsX9_note (va_wsS RX9 97 yX9_in wsX9_in) := goodIn_app (goodIn_of _ (by decide +kernel)) ggX9_note_X9_in
theorem dX9_note_0 : decode cX9_note 0 = .ok (.iload_n 1, 1) := by decide +kernel
theorem dX9_note_1 : decode cX9_note 1 = .ok (.iconst (-1), 1) := by decide +kernel
theorem dX9_note_2 : decode cX9_note 2 = .ok (.iconst 3, 1) := by decide +kernel
theorem dX9_note_3 : decode cX9_note 3 = .ok (.invokestatic 97, 3) := by decide +kernel
theorem dX9_note_6 : decode cX9_note 6 = .ok (.ifCond .eq 12, 3) := by decide +kernel
theorem dX9_note_9 : decode cX9_note 9 = .ok (.iload_n 2, 1) := by decide +kernel
theorem dX9_note_10 : decode cX9_note 10 = .ok (.iconst (-1), 1) := by decide +kernel
theorem dX9_note_11 : decode cX9_note 11 = .ok (.iconst 3, 1) := by decide +kernel
theorem dX9_note_12 : decode cX9_note 12 = .ok (.invokestatic 97, 3) := by decide +kernel
theorem dX9_note_15 : decode cX9_note 15 = .ok (.ifCond .ne 6, 3) := by decide +kernel
theorem dX9_note_18 : decode cX9_note 18 = .ok (.bipush (-3), 2) := by decide +kernel
theorem dX9_note_20 : decode cX9_note 20 = .ok (.ireturn, 1) := by decide +kernel
theorem dX9_note_21 : decode cX9_note 21 = .ok (.aload_n 0, 1) := by decide +kernel
theorem dX9_note_22 : decode cX9_note 22 = .ok (.getfield 176, 3) := by decide +kernel
theorem dX9_note_25 : decode cX9_note 25 = .ok (.bipush 60, 2) := by decide +kernel
theorem dX9_note_27 : decode cX9_note 27 = .ok (.if_icmp .ne 6, 3) := by decide +kernel
theorem dX9_note_30 : decode cX9_note 30 = .ok (.bipush (-5), 2) := by decide +kernel
theorem dX9_note_32 : decode cX9_note 32 = .ok (.ireturn, 1) := by decide +kernel
theorem dX9_note_33 : decode cX9_note 33 = .ok (.aload_n 0, 1) := by decide +kernel
theorem dX9_note_34 : decode cX9_note 34 = .ok (.getfield 50, 3) := by decide +kernel
theorem dX9_note_37 : decode cX9_note 37 = .ok (.aload_n 0, 1) := by decide +kernel
theorem dX9_note_38 : decode cX9_note 38 = .ok (.getfield 176, 3) := by decide +kernel
theorem dX9_note_41 : decode cX9_note 41 = .ok (.iload_n 3, 1) := by decide +kernel
theorem dX9_note_42 : decode cX9_note 42 = .ok (.ifCond .eq 21, 3) := by decide +kernel
theorem dX9_note_45 : decode cX9_note 45 = .ok (.iload_n 1, 1) := by decide +kernel
theorem dX9_note_46 : decode cX9_note 46 = .ok (.ifCond .lt 17, 3) := by decide +kernel
theorem dX9_note_49 : decode cX9_note 49 = .ok (.iload_n 1, 1) := by decide +kernel
theorem dX9_note_50 : decode cX9_note 50 = .ok (.iconst 2, 1) := by decide +kernel
theorem dX9_note_51 : decode cX9_note 51 = .ok (.idiv, 1) := by decide +kernel
theorem dX9_note_52 : decode cX9_note 52 = .ok (.iconst 2, 1) := by decide +kernel
theorem dX9_note_53 : decode cX9_note 53 = .ok (.imul, 1) := by decide +kernel
theorem dX9_note_54 : decode cX9_note 54 = .ok (.iconst 1, 1) := by decide +kernel
theorem dX9_note_55 : decode cX9_note 55 = .ok (.iadd, 1) := by decide +kernel
theorem dX9_note_56 : decode cX9_note 56 = .ok (.iload_n 1, 1) := by decide +kernel
theorem dX9_note_57 : decode cX9_note 57 = .ok (.iconst 2, 1) := by decide +kernel
theorem dX9_note_58 : decode cX9_note 58 = .ok (.irem, 1) := by decide +kernel
theorem dX9_note_59 : decode cX9_note 59 = .ok (.isub, 1) := by decide +kernel
theorem dX9_note_60 : decode cX9_note 60 = .ok (.goto 4, 3) := by decide +kernel
theorem dX9_note_63 : decode cX9_note 63 = .ok (.iload_n 1, 1) := by decide +kernel
theorem dX9_note_64 : decode cX9_note 64 = .ok (.iastore, 1) := by decide +kernel
theorem dX9_note_65 : decode cX9_note 65 = .ok (.aload_n 0, 1) := by decide +kernel
theorem dX9_note_66 : decode cX9_note 66 = .ok (.getfield 53, 3) := by decide +kernel
theorem dX9_note_69 : decode cX9_note 69 = .ok (.aload_n 0, 1) := by decide +kernel
theorem dX9_note_70 : decode cX9_note 70 = .ok (.getfield 176, 3) := by decide +kernel
theorem dX9_note_73 : decode cX9_note 73 = .ok (.iload_n 2, 1) := by decide +kernel
theorem dX9_note_74 : decode cX9_note 74 = .ok (.iastore, 1) := by decide +kernel
theorem dX9_note_75 : decode cX9_note 75 = .ok (.aload_n 0, 1) := by decide +kernel
theorem dX9_note_76 : decode cX9_note 76 = .ok (.dup, 1) := by decide +kernel
theorem dX9_note_77 : decode cX9_note 77 = .ok (.getfield 176, 3) := by decide +kernel
theorem dX9_note_80 : decode cX9_note 80 = .ok (.iconst 1, 1) := by decide +kernel
theorem dX9_note_81 : decode cX9_note 81 = .ok (.iadd, 1) := by decide +kernel
theorem dX9_note_82 : decode cX9_note 82 = .ok (.putfield 176, 3) := by decide +kernel
theorem dX9_note_85 : decode cX9_note 85 = .ok (.aload_n 0, 1) := by decide +kernel
theorem dX9_note_86 : decode cX9_note 86 = .ok (.getfield 176, 3) := by decide +kernel
theorem dX9_note_89 : decode cX9_note 89 = .ok (.ireturn, 1) := by decide +kernel
theorem dX9_tallyOf_0 : decode cX9_tallyOf 0 = .ok (.iconst 0, 1) := by decide +kernel
theorem dX9_tallyOf_1 : decode cX9_tallyOf 1 = .ok (.istore 4, 2) := by decide +kernel
theorem dX9_tallyOf_3 : decode cX9_tallyOf 3 = .ok (.iconst 0, 1) := by decide +kernel
theorem dX9_tallyOf_4 : decode cX9_tallyOf 4 = .ok (.istore 5, 2) := by decide +kernel
theorem dX9_tallyOf_6 : decode cX9_tallyOf 6 = .ok (.iload 5, 2) := by decide +kernel
theorem dX9_tallyOf_8 : decode cX9_tallyOf 8 = .ok (.aload_n 0, 1) := by decide +kernel
theorem dX9_tallyOf_9 : decode cX9_tallyOf 9 = .ok (.getfield 176, 3) := by decide +kernel
theorem dX9_tallyOf_12 : decode cX9_tallyOf 12 = .ok (.if_icmp .ge 100, 3) := by decide +kernel
theorem dX9_tallyOf_15 : decode cX9_tallyOf 15 = .ok (.aload_n 0, 1) := by decide +kernel
theorem dX9_tallyOf_16 : decode cX9_tallyOf 16 = .ok (.getfield 50, 3) := by decide +kernel
theorem dX9_tallyOf_19 : decode cX9_tallyOf 19 = .ok (.iload 5, 2) := by decide +kernel
theorem dX9_tallyOf_21 : decode cX9_tallyOf 21 = .ok (.iaload, 1) := by decide +kernel
theorem dX9_tallyOf_22 : decode cX9_tallyOf 22 = .ok (.ifCond .lt 17, 3) := by decide +kernel
theorem dX9_tallyOf_25 : decode cX9_tallyOf 25 = .ok (.aload_n 0, 1) := by decide +kernel
theorem dX9_tallyOf_26 : decode cX9_tallyOf 26 = .ok (.getfield 53, 3) := by decide +kernel
theorem dX9_tallyOf_29 : decode cX9_tallyOf 29 = .ok (.iload 5, 2) := by decide +kernel
theorem dX9_tallyOf_31 : decode cX9_tallyOf 31 = .ok (.iaload, 1) := by decide +kernel
theorem dX9_tallyOf_32 : decode cX9_tallyOf 32 = .ok (.ifCond .lt 7, 3) := by decide +kernel
theorem dX9_tallyOf_35 : decode cX9_tallyOf 35 = .ok (.iconst 1, 1) := by decide +kernel
theorem dX9_tallyOf_36 : decode cX9_tallyOf 36 = .ok (.goto 4, 3) := by decide +kernel
theorem dX9_tallyOf_39 : decode cX9_tallyOf 39 = .ok (.iconst 0, 1) := by decide +kernel
theorem dX9_tallyOf_40 : decode cX9_tallyOf 40 = .ok (.istore 6, 2) := by decide +kernel
theorem dX9_tallyOf_42 : decode cX9_tallyOf 42 = .ok (.iload 6, 2) := by decide +kernel
theorem dX9_tallyOf_44 : decode cX9_tallyOf 44 = .ok (.ifCond .eq 44, 3) := by decide +kernel
theorem dX9_tallyOf_47 : decode cX9_tallyOf 47 = .ok (.iload_n 3, 1) := by decide +kernel
theorem dX9_tallyOf_48 : decode cX9_tallyOf 48 = .ok (.iconst 1, 1) := by decide +kernel
theorem dX9_tallyOf_49 : decode cX9_tallyOf 49 = .ok (.if_icmp .gt 14, 3) := by decide +kernel
theorem dX9_tallyOf_52 : decode cX9_tallyOf 52 = .ok (.aload_n 0, 1) := by decide +kernel
theorem dX9_tallyOf_53 : decode cX9_tallyOf 53 = .ok (.getfield 50, 3) := by decide +kernel
theorem dX9_tallyOf_56 : decode cX9_tallyOf 56 = .ok (.iload 5, 2) := by decide +kernel
theorem dX9_tallyOf_58 : decode cX9_tallyOf 58 = .ok (.iaload, 1) := by decide +kernel
theorem dX9_tallyOf_59 : decode cX9_tallyOf 59 = .ok (.iload_n 1, 1) := by decide +kernel
theorem dX9_tallyOf_60 : decode cX9_tallyOf 60 = .ok (.if_icmp .ne 28, 3) := by decide +kernel
theorem dX9_tallyOf_63 : decode cX9_tallyOf 63 = .ok (.iload_n 3, 1) := by decide +kernel
theorem dX9_tallyOf_64 : decode cX9_tallyOf 64 = .ok (.iconst 1, 1) := by decide +kernel
theorem dX9_tallyOf_65 : decode cX9_tallyOf 65 = .ok (.if_icmp .eq 19, 3) := by decide +kernel
theorem dX9_tallyOf_68 : decode cX9_tallyOf 68 = .ok (.iload_n 3, 1) := by decide +kernel
theorem dX9_tallyOf_69 : decode cX9_tallyOf 69 = .ok (.iconst 3, 1) := by decide +kernel
theorem dX9_tallyOf_70 : decode cX9_tallyOf 70 = .ok (.if_icmp .eq 14, 3) := by decide +kernel
theorem dX9_tallyOf_73 : decode cX9_tallyOf 73 = .ok (.aload_n 0, 1) := by decide +kernel
theorem dX9_tallyOf_74 : decode cX9_tallyOf 74 = .ok (.getfield 53, 3) := by decide +kernel
theorem dX9_tallyOf_77 : decode cX9_tallyOf 77 = .ok (.iload 5, 2) := by decide +kernel
theorem dX9_tallyOf_79 : decode cX9_tallyOf 79 = .ok (.iaload, 1) := by decide +kernel
theorem dX9_tallyOf_80 : decode cX9_tallyOf 80 = .ok (.iload_n 2, 1) := by decide +kernel
theorem dX9_tallyOf_81 : decode cX9_tallyOf 81 = .ok (.if_icmp .ne 7, 3) := by decide +kernel
theorem dX9_tallyOf_84 : decode cX9_tallyOf 84 = .ok (.iconst 1, 1) := by decide +kernel
theorem dX9_tallyOf_85 : decode cX9_tallyOf 85 = .ok (.goto 4, 3) := by decide +kernel
theorem dX9_tallyOf_88 : decode cX9_tallyOf 88 = .ok (.iconst 0, 1) := by decide +kernel
theorem dX9_tallyOf_89 : decode cX9_tallyOf 89 = .ok (.istore 6, 2) := by decide +kernel
theorem dX9_tallyOf_91 : decode cX9_tallyOf 91 = .ok (.iload 4, 2) := by decide +kernel
theorem dX9_tallyOf_93 : decode cX9_tallyOf 93 = .ok (.iload 6, 2) := by decide +kernel
theorem dX9_tallyOf_95 : decode cX9_tallyOf 95 = .ok (.ifCond .eq 7, 3) := by decide +kernel
theorem dX9_tallyOf_98 : decode cX9_tallyOf 98 = .ok (.iconst 1, 1) := by decide +kernel
theorem dX9_tallyOf_99 : decode cX9_tallyOf 99 = .ok (.goto 4, 3) := by decide +kernel
theorem dX9_tallyOf_102 : decode cX9_tallyOf 102 = .ok (.iconst 0, 1) := by decide +kernel
theorem dX9_tallyOf_103 : decode cX9_tallyOf 103 = .ok (.iadd, 1) := by decide +kernel
theorem dX9_tallyOf_104 : decode cX9_tallyOf 104 = .ok (.istore 4, 2) := by decide +kernel
theorem dX9_tallyOf_106 : decode cX9_tallyOf 106 = .ok (.iinc 5 1, 3) := by decide +kernel
theorem dX9_tallyOf_109 : decode cX9_tallyOf 109 = .ok (.goto (-103), 3) := by decide +kernel
theorem dX9_tallyOf_112 : decode cX9_tallyOf 112 = .ok (.iload 4, 2) := by decide +kernel
theorem dX9_tallyOf_114 : decode cX9_tallyOf 114 = .ok (.ireturn, 1) := by decide +kernel
set_option maxRecDepth 20000 in
theorem ggX9_tally_X9_in : GoodIn wsX9_tally wsX9_in := goodIn_r _ [4] (by decide +kernel) (by decide +kernel)
set_option maxRecDepth 20000 in
theorem gX9_tally_X9_in : GoodIn wsX9_tally (va_wsS RX9 97 yX9_in wsX9_in) := goodIn_app (goodIn_of _ (by decide +kernel)) ggX9_tally_X9_in
set_option maxRecDepth 20000 in
theorem ggX9_tally_X9_isKind : GoodIn wsX9_tally wsX9_isKind := goodIn_r _ [7, 1, 2, 3, 4] (by decide +kernel) (by decide +kernel)
set_option maxRecDepth 20000 in
theorem gX9_tally_X9_isKind : GoodIn wsX9_tally (va_wsS RX9 105 yX9_isKind wsX9_isKind) := goodIn_app (goodIn_of _ (by decide +kernel)) ggX9_tally_X9_isKind
set_option maxRecDepth 20000 in
theorem ggX9_tally_X9_tallyOf : GoodIn wsX9_tally wsX9_tallyOf := goodIn_r _ [11, 12, 13, 14, 15, 16, 17, 18, 19, 20, 21, 22, 23, 24, 25, 26, 27, 28, 29, 30, 31, 32, 33, 34, 35, 36, 37, 38, 39, 40, 41, 42, 43, 44, 45, 46, 47, 48, 49, 50, 51, 52] (by decide +kernel) (by decide +kernel)
set_option maxRecDepth 20000 in
theorem gX9_tally_X9_tallyOf : GoodIn wsX9_tally (wsV RX9 179 RX9 yX9_tallyOf wsX9_tallyOf) := goodIn_app (goodIn_of _ (by decide +kernel)) ggX9_tally_X9_tallyOf
theorem dX9_tally_0 : decode cX9_tally 0 = .ok (.iload_n 1, 1) := by decide +kernel
theorem dX9_tally_1 : decode cX9_tally 1 = .ok (.iconst 0, 1) := by decide +kernel
theorem dX9_tally_2 : decode cX9_tally 2 = .ok (.iconst 3, 1) := by decide +kernel
theorem dX9_tally_3 : decode cX9_tally 3 = .ok (.invokestatic 97, 3) := by decide +kernel
theorem dX9_tally_6 : decode cX9_tally 6 = .ok (.ifCond .eq 10, 3) := by decide +kernel
theorem dX9_tally_9 : decode cX9_tally 9 = .ok (.iload_n 2, 1) := by decide +kernel
theorem dX9_tally_10 : decode cX9_tally 10 = .ok (.invokestatic 105, 3) := by decide +kernel
theorem dX9_tally_13 : decode cX9_tally 13 = .ok (.ifCond .ne 6, 3) := by decide +kernel
theorem dX9_tally_16 : decode cX9_tally 16 = .ok (.bipush (-2), 2) := by decide +kernel
theorem dX9_tally_18 : decode cX9_tally 18 = .ok (.ireturn, 1) := by decide +kernel
theorem dX9_tally_19 : decode cX9_tally 19 = .ok (.iload_n 3, 1) := by decide +kernel
theorem dX9_tally_20 : decode cX9_tally 20 = .ok (.iconst 0, 1) := by decide +kernel
theorem dX9_tally_21 : decode cX9_tally 21 = .ok (.iconst 3, 1) := by decide +kernel
theorem dX9_tally_22 : decode cX9_tally 22 = .ok (.invokestatic 97, 3) := by decide +kernel
theorem dX9_tally_25 : decode cX9_tally 25 = .ok (.ifCond .eq 13, 3) := by decide +kernel
theorem dX9_tally_28 : decode cX9_tally 28 = .ok (.aload_n 0, 1) := by decide +kernel
theorem dX9_tally_29 : decode cX9_tally 29 = .ok (.iload_n 1, 1) := by decide +kernel
theorem dX9_tally_30 : decode cX9_tally 30 = .ok (.iload_n 2, 1) := by decide +kernel
theorem dX9_tally_31 : decode cX9_tally 31 = .ok (.iload_n 3, 1) := by decide +kernel
theorem dX9_tally_32 : decode cX9_tally 32 = .ok (.invokevirtual 179, 3) := by decide +kernel
theorem dX9_tally_35 : decode cX9_tally 35 = .ok (.goto 5, 3) := by decide +kernel
theorem dX9_tally_38 : decode cX9_tally 38 = .ok (.bipush (-3), 2) := by decide +kernel
theorem dX9_tally_40 : decode cX9_tally 40 = .ok (.ireturn, 1) := by decide +kernel
set_option maxRecDepth 20000 in
theorem ggX9_isTried_X9_tallyOf : GoodIn wsX9_isTried wsX9_tallyOf := goodIn_r _ [5, 6, 7, 8, 9, 10, 11, 12, 13, 14, 15, 16, 17, 18, 19, 20, 21, 22, 23, 24, 25, 26, 27, 28, 29, 30, 31, 32, 33, 34, 35, 36, 37, 38, 39, 40, 41, 42, 43, 44, 45, 46] (by decide +kernel) (by decide +kernel)
set_option maxRecDepth 20000 in
theorem gX9_isTried_X9_tallyOf : GoodIn wsX9_isTried (wsV RX9 179 RX9 yX9_tallyOf wsX9_tallyOf) := goodIn_app (goodIn_of _ (by decide +kernel)) ggX9_isTried_X9_tallyOf
theorem dX9_isTried_0 : decode cX9_isTried 0 = .ok (.aload_n 0, 1) := by decide +kernel
theorem dX9_isTried_1 : decode cX9_isTried 1 = .ok (.iload_n 1, 1) := by decide +kernel
theorem dX9_isTried_2 : decode cX9_isTried 2 = .ok (.iload_n 2, 1) := by decide +kernel
theorem dX9_isTried_3 : decode cX9_isTried 3 = .ok (.iconst 1, 1) := by decide +kernel
theorem dX9_isTried_4 : decode cX9_isTried 4 = .ok (.invokevirtual 179, 3) := by decide +kernel
theorem dX9_isTried_7 : decode cX9_isTried 7 = .ok (.ifCond .le 17, 3) := by decide +kernel
theorem dX9_isTried_10 : decode cX9_isTried 10 = .ok (.aload_n 0, 1) := by decide +kernel
theorem dX9_isTried_11 : decode cX9_isTried 11 = .ok (.iload_n 1, 1) := by decide +kernel
theorem dX9_isTried_12 : decode cX9_isTried 12 = .ok (.iload_n 2, 1) := by decide +kernel
theorem dX9_isTried_13 : decode cX9_isTried 13 = .ok (.iconst 2, 1) := by decide +kernel
theorem dX9_isTried_14 : decode cX9_isTried 14 = .ok (.invokevirtual 179, 3) := by decide +kernel
theorem dX9_isTried_17 : decode cX9_isTried 17 = .ok (.ifCond .le 7, 3) := by decide +kernel
theorem dX9_isTried_20 : decode cX9_isTried 20 = .ok (.iconst 1, 1) := by decide +kernel
theorem dX9_isTried_21 : decode cX9_isTried 21 = .ok (.goto 4, 3) := by decide +kernel
theorem dX9_isTried_24 : decode cX9_isTried 24 = .ok (.iconst 0, 1) := by decide +kernel
theorem dX9_isTried_25 : decode cX9_isTried 25 = .ok (.ireturn, 1) := by decide +kernel
set_option maxRecDepth 20000 in
theorem ggX9_triedMany_X9_isTried : GoodIn wsX9_triedMany wsX9_isTried := goodIn_r _ [5, 6, 7, 8, 4, 9, 10, 11, 12, 13, 14, 15, 16, 17, 18, 19, 20, 21, 22, 23, 24, 25, 26, 27, 28, 29, 30, 31, 32, 33, 34, 35, 36, 37, 38, 39, 40, 41, 42, 43, 44, 45, 46, 47, 48, 49, 50] (by decide +kernel) (by decide +kernel)
set_option maxRecDepth 20000 in
theorem gX9_triedMany_X9_isTried : GoodIn wsX9_triedMany (wsV RX9 182 RX9 yX9_isTried wsX9_isTried) := goodIn_app (goodIn_of _ (by decide +kernel)) ggX9_triedMany_X9_isTried
theorem dX9_triedMany_0 : decode cX9_triedMany 0 = .ok (.iconst 0, 1) := by decide +kernel
theorem dX9_triedMany_1 : decode cX9_triedMany 1 = .ok (.istore_n 1, 1) := by decide +kernel
theorem dX9_triedMany_2 : decode cX9_triedMany 2 = .ok (.iconst 0, 1) := by decide +kernel
theorem dX9_triedMany_3 : decode cX9_triedMany 3 = .ok (.istore_n 2, 1) := by decide +kernel
theorem dX9_triedMany_4 : decode cX9_triedMany 4 = .ok (.iload_n 2, 1) := by decide +kernel
theorem dX9_triedMany_5 : decode cX9_triedMany 5 = .ok (.bipush 16, 2) := by decide +kernel
theorem dX9_triedMany_7 : decode cX9_triedMany 7 = .ok (.if_icmp .ge 30, 3) := by decide +kernel
theorem dX9_triedMany_10 : decode cX9_triedMany 10 = .ok (.iload_n 1, 1) := by decide +kernel
theorem dX9_triedMany_11 : decode cX9_triedMany 11 = .ok (.aload_n 0, 1) := by decide +kernel
theorem dX9_triedMany_12 : decode cX9_triedMany 12 = .ok (.iload_n 2, 1) := by decide +kernel
theorem dX9_triedMany_13 : decode cX9_triedMany 13 = .ok (.iconst 4, 1) := by decide +kernel
theorem dX9_triedMany_14 : decode cX9_triedMany 14 = .ok (.idiv, 1) := by decide +kernel
theorem dX9_triedMany_15 : decode cX9_triedMany 15 = .ok (.iload_n 2, 1) := by decide +kernel
theorem dX9_triedMany_16 : decode cX9_triedMany 16 = .ok (.iconst 4, 1) := by decide +kernel
theorem dX9_triedMany_17 : decode cX9_triedMany 17 = .ok (.irem, 1) := by decide +kernel
theorem dX9_triedMany_18 : decode cX9_triedMany 18 = .ok (.invokevirtual 182, 3) := by decide +kernel
theorem dX9_triedMany_21 : decode cX9_triedMany 21 = .ok (.ifCond .eq 7, 3) := by decide +kernel
theorem dX9_triedMany_24 : decode cX9_triedMany 24 = .ok (.iconst 1, 1) := by decide +kernel
theorem dX9_triedMany_25 : decode cX9_triedMany 25 = .ok (.goto 4, 3) := by decide +kernel
theorem dX9_triedMany_28 : decode cX9_triedMany 28 = .ok (.iconst 0, 1) := by decide +kernel
theorem dX9_triedMany_29 : decode cX9_triedMany 29 = .ok (.iadd, 1) := by decide +kernel
theorem dX9_triedMany_30 : decode cX9_triedMany 30 = .ok (.istore_n 1, 1) := by decide +kernel
theorem dX9_triedMany_31 : decode cX9_triedMany 31 = .ok (.iinc 2 1, 3) := by decide +kernel
theorem dX9_triedMany_34 : decode cX9_triedMany 34 = .ok (.goto (-30), 3) := by decide +kernel
theorem dX9_triedMany_37 : decode cX9_triedMany 37 = .ok (.iload_n 1, 1) := by decide +kernel
theorem dX9_triedMany_38 : decode cX9_triedMany 38 = .ok (.ireturn, 1) := by decide +kernel
theorem dX9_choose_0 : decode cX9_choose 0 = .ok (.iload_n 2, 1) := by decide +kernel
theorem dX9_choose_1 : decode cX9_choose 1 = .ok (.ifCond .lt 8, 3) := by decide +kernel
theorem dX9_choose_4 : decode cX9_choose 4 = .ok (.iload_n 2, 1) := by decide +kernel
theorem dX9_choose_5 : decode cX9_choose 5 = .ok (.iload_n 1, 1) := by decide +kernel
theorem dX9_choose_6 : decode cX9_choose 6 = .ok (.if_icmp .le 5, 3) := by decide +kernel
theorem dX9_choose_9 : decode cX9_choose 9 = .ok (.lconst 0, 1) := by decide +kernel
theorem dX9_choose_10 : decode cX9_choose 10 = .ok (.lreturn, 1) := by decide +kernel
theorem dX9_choose_11 : decode cX9_choose 11 = .ok (.iconst 0, 1) := by decide +kernel
theorem dX9_choose_12 : decode cX9_choose 12 = .ok (.istore_n 3, 1) := by decide +kernel
theorem dX9_choose_13 : decode cX9_choose 13 = .ok (.iload_n 3, 1) := by decide +kernel
theorem dX9_choose_14 : decode cX9_choose 14 = .ok (.bipush 60, 2) := by decide +kernel
theorem dX9_choose_16 : decode cX9_choose 16 = .ok (.if_icmp .gt 24, 3) := by decide +kernel
theorem dX9_choose_19 : decode cX9_choose 19 = .ok (.aload_n 0, 1) := by decide +kernel
theorem dX9_choose_20 : decode cX9_choose 20 = .ok (.getfield 56, 3) := by decide +kernel
theorem dX9_choose_23 : decode cX9_choose 23 = .ok (.iload_n 3, 1) := by decide +kernel
theorem dX9_choose_24 : decode cX9_choose 24 = .ok (.iload_n 3, 1) := by decide +kernel
theorem dX9_choose_25 : decode cX9_choose 25 = .ok (.ifCond .ne 7, 3) := by decide +kernel
theorem dX9_choose_28 : decode cX9_choose 28 = .ok (.lconst 1, 1) := by decide +kernel
theorem dX9_choose_29 : decode cX9_choose 29 = .ok (.goto 4, 3) := by decide +kernel
theorem dX9_choose_32 : decode cX9_choose 32 = .ok (.lconst 0, 1) := by decide +kernel
theorem dX9_choose_33 : decode cX9_choose 33 = .ok (.lastore, 1) := by decide +kernel
theorem dX9_choose_34 : decode cX9_choose 34 = .ok (.iinc 3 1, 3) := by decide +kernel
theorem dX9_choose_37 : decode cX9_choose 37 = .ok (.goto (-24), 3) := by decide +kernel
theorem dX9_choose_40 : decode cX9_choose 40 = .ok (.iconst 1, 1) := by decide +kernel
theorem dX9_choose_41 : decode cX9_choose 41 = .ok (.istore_n 3, 1) := by decide +kernel
theorem dX9_choose_42 : decode cX9_choose 42 = .ok (.iload_n 3, 1) := by decide +kernel
theorem dX9_choose_43 : decode cX9_choose 43 = .ok (.iload_n 1, 1) := by decide +kernel
theorem dX9_choose_44 : decode cX9_choose 44 = .ok (.if_icmp .gt 42, 3) := by decide +kernel
theorem dX9_choose_47 : decode cX9_choose 47 = .ok (.iload_n 3, 1) := by decide +kernel
theorem dX9_choose_48 : decode cX9_choose 48 = .ok (.istore 4, 2) := by decide +kernel
theorem dX9_choose_50 : decode cX9_choose 50 = .ok (.iload 4, 2) := by decide +kernel
theorem dX9_choose_52 : decode cX9_choose 52 = .ok (.ifCond .le 28, 3) := by decide +kernel
theorem dX9_choose_55 : decode cX9_choose 55 = .ok (.aload_n 0, 1) := by decide +kernel
theorem dX9_choose_56 : decode cX9_choose 56 = .ok (.getfield 56, 3) := by decide +kernel
theorem dX9_choose_59 : decode cX9_choose 59 = .ok (.iload 4, 2) := by decide +kernel
theorem dX9_choose_61 : decode cX9_choose 61 = .ok (.dup2, 1) := by decide +kernel
theorem dX9_choose_62 : decode cX9_choose 62 = .ok (.laload, 1) := by decide +kernel
theorem dX9_choose_63 : decode cX9_choose 63 = .ok (.aload_n 0, 1) := by decide +kernel
theorem dX9_choose_64 : decode cX9_choose 64 = .ok (.getfield 56, 3) := by decide +kernel
theorem dX9_choose_67 : decode cX9_choose 67 = .ok (.iload 4, 2) := by decide +kernel
theorem dX9_choose_69 : decode cX9_choose 69 = .ok (.iconst 1, 1) := by decide +kernel
theorem dX9_choose_70 : decode cX9_choose 70 = .ok (.isub, 1) := by decide +kernel
theorem dX9_choose_71 : decode cX9_choose 71 = .ok (.laload, 1) := by decide +kernel
theorem dX9_choose_72 : decode cX9_choose 72 = .ok (.ladd, 1) := by decide +kernel
theorem dX9_choose_73 : decode cX9_choose 73 = .ok (.lastore, 1) := by decide +kernel
theorem dX9_choose_74 : decode cX9_choose 74 = .ok (.iinc 4 (-1), 3) := by decide +kernel
theorem dX9_choose_77 : decode cX9_choose 77 = .ok (.goto (-27), 3) := by decide +kernel
theorem dX9_choose_80 : decode cX9_choose 80 = .ok (.iinc 3 1, 3) := by decide +kernel
theorem dX9_choose_83 : decode cX9_choose 83 = .ok (.goto (-41), 3) := by decide +kernel
theorem dX9_choose_86 : decode cX9_choose 86 = .ok (.aload_n 0, 1) := by decide +kernel
theorem dX9_choose_87 : decode cX9_choose 87 = .ok (.getfield 56, 3) := by decide +kernel
theorem dX9_choose_90 : decode cX9_choose 90 = .ok (.iload_n 2, 1) := by decide +kernel
theorem dX9_choose_91 : decode cX9_choose 91 = .ok (.laload, 1) := by decide +kernel
theorem dX9_choose_92 : decode cX9_choose 92 = .ok (.lreturn, 1) := by decide +kernel
set_option maxRecDepth 20000 in
theorem ggX9_isPast_X9_isTried : GoodIn wsX9_isPast wsX9_isTried := goodIn_r _ [6, 7, 8, 9, 5, 10, 11, 12, 13, 23, 24, 25, 26, 27, 28, 29, 30, 31, 32, 33, 34, 35, 36, 37, 38, 39, 40, 41, 42, 43, 44, 45, 46, 47, 48, 49, 50, 51, 52, 53, 54, 55, 56, 57, 58, 59, 60] (by decide +kernel) (by decide +kernel)
set_option maxRecDepth 20000 in
theorem gX9_isPast_X9_isTried : GoodIn wsX9_isPast (wsV RX9 182 RX9 yX9_isTried wsX9_isTried) := goodIn_app (goodIn_of _ (by decide +kernel)) ggX9_isPast_X9_isTried
set_option maxRecDepth 20000 in
theorem ggX9_isPast_X9_tallyOf : GoodIn wsX9_isPast wsX9_tallyOf := goodIn_r _ [10, 11, 12, 13, 23, 24, 25, 26, 27, 28, 29, 30, 31, 32, 33, 34, 35, 36, 37, 38, 39, 40, 41, 42, 43, 44, 45, 46, 47, 48, 49, 50, 51, 52, 53, 54, 55, 56, 57, 58, 59, 60] (by decide +kernel) (by decide +kernel)
set_option maxRecDepth 20000 in
theorem gX9_isPast_X9_tallyOf : GoodIn wsX9_isPast (wsV RX9 179 RX9 yX9_tallyOf wsX9_tallyOf) := goodIn_app (goodIn_of _ (by decide +kernel)) ggX9_isPast_X9_tallyOf
set_option maxRecDepth 20000 in
theorem ggX9_isPast_X9_choose : GoodIn wsX9_isPast wsX9_choose := goodIn_r _ [17, 18, 23, 24, 25, 26, 27, 28, 29, 30, 31, 32, 33, 34, 35, 36, 37, 38, 39, 40, 41, 42, 43, 44, 45, 46, 47, 48, 49, 50, 51, 52, 53, 54, 55, 56, 57, 58, 59, 60] (by decide +kernel) (by decide +kernel)
set_option maxRecDepth 20000 in
theorem gX9_isPast_X9_choose : GoodIn wsX9_isPast (wsV RX9 185 RX9 yX9_choose wsX9_choose) := goodIn_app (goodIn_of _ (by decide +kernel)) ggX9_isPast_X9_choose
set_option maxRecDepth 20000 in
theorem ggX9_isPast_X9_triedMany : GoodIn wsX9_isPast wsX9_triedMany := goodIn_r _ [22, 2, 3, 4, 5, 6, 7, 8, 9, 10, 11, 12, 13, 23, 24, 25, 26, 27, 28, 29, 30, 31, 32, 33, 34, 35, 36, 37, 38, 39, 40, 41, 42, 43, 44, 45, 46, 47, 48, 49, 50, 51, 52, 53, 54, 55, 56, 57, 58, 59, 60] (by decide +kernel) (by decide +kernel)
set_option maxRecDepth 20000 in
theorem gX9_isPast_X9_triedMany : GoodIn wsX9_isPast (wsV RX9 191 RX9 yX9_triedMany wsX9_triedMany) := goodIn_app (goodIn_of _ (by decide +kernel)) ggX9_isPast_X9_triedMany
theorem dX9_isPast_0 : decode cX9_isPast 0 = .ok (.aload_n 0, 1) := by decide +kernel
theorem dX9_isPast_1 : decode cX9_isPast 1 = .ok (.iload_n 1, 1) := by decide +kernel
theorem dX9_isPast_2 : decode cX9_isPast 2 = .ok (.iload_n 2, 1) := by decide +kernel
theorem dX9_isPast_3 : decode cX9_isPast 3 = .ok (.invokevirtual 182, 3) := by decide +kernel
theorem dX9_isPast_6 : decode cX9_isPast 6 = .ok (.ifCond .ne 5, 3) := by decide +kernel
theorem dX9_isPast_9 : decode cX9_isPast 9 = .ok (.iconst 0, 1) := by decide +kernel
theorem dX9_isPast_10 : decode cX9_isPast 10 = .ok (.ireturn, 1) := by decide +kernel
theorem dX9_isPast_11 : decode cX9_isPast 11 = .ok (.aload_n 0, 1) := by decide +kernel
theorem dX9_isPast_12 : decode cX9_isPast 12 = .ok (.iload_n 1, 1) := by decide +kernel
theorem dX9_isPast_13 : decode cX9_isPast 13 = .ok (.iload_n 2, 1) := by decide +kernel
theorem dX9_isPast_14 : decode cX9_isPast 14 = .ok (.iconst 0, 1) := by decide +kernel
theorem dX9_isPast_15 : decode cX9_isPast 15 = .ok (.invokevirtual 179, 3) := by decide +kernel
theorem dX9_isPast_18 : decode cX9_isPast 18 = .ok (.istore_n 3, 1) := by decide +kernel
theorem dX9_isPast_19 : decode cX9_isPast 19 = .ok (.aload_n 0, 1) := by decide +kernel
theorem dX9_isPast_20 : decode cX9_isPast 20 = .ok (.iload_n 1, 1) := by decide +kernel
theorem dX9_isPast_21 : decode cX9_isPast 21 = .ok (.iload_n 2, 1) := by decide +kernel
theorem dX9_isPast_22 : decode cX9_isPast 22 = .ok (.iconst 1, 1) := by decide +kernel
theorem dX9_isPast_23 : decode cX9_isPast 23 = .ok (.invokevirtual 179, 3) := by decide +kernel
theorem dX9_isPast_26 : decode cX9_isPast 26 = .ok (.istore 4, 2) := by decide +kernel
theorem dX9_isPast_28 : decode cX9_isPast 28 = .ok (.aload_n 0, 1) := by decide +kernel
theorem dX9_isPast_29 : decode cX9_isPast 29 = .ok (.iload_n 1, 1) := by decide +kernel
theorem dX9_isPast_30 : decode cX9_isPast 30 = .ok (.iload_n 2, 1) := by decide +kernel
theorem dX9_isPast_31 : decode cX9_isPast 31 = .ok (.iconst 2, 1) := by decide +kernel
theorem dX9_isPast_32 : decode cX9_isPast 32 = .ok (.invokevirtual 179, 3) := by decide +kernel
theorem dX9_isPast_35 : decode cX9_isPast 35 = .ok (.istore 5, 2) := by decide +kernel
theorem dX9_isPast_37 : decode cX9_isPast 37 = .ok (.aload_n 0, 1) := by decide +kernel
theorem dX9_isPast_38 : decode cX9_isPast 38 = .ok (.iload_n 1, 1) := by decide +kernel
theorem dX9_isPast_39 : decode cX9_isPast 39 = .ok (.iload_n 2, 1) := by decide +kernel
theorem dX9_isPast_40 : decode cX9_isPast 40 = .ok (.iconst 3, 1) := by decide +kernel
theorem dX9_isPast_41 : decode cX9_isPast 41 = .ok (.invokevirtual 179, 3) := by decide +kernel
theorem dX9_isPast_44 : decode cX9_isPast 44 = .ok (.istore 6, 2) := by decide +kernel
theorem dX9_isPast_46 : decode cX9_isPast 46 = .ok (.lconst 0, 1) := by decide +kernel
theorem dX9_isPast_47 : decode cX9_isPast 47 = .ok (.lstore 7, 2) := by decide +kernel
theorem dX9_isPast_49 : decode cX9_isPast 49 = .ok (.iload_n 3, 1) := by decide +kernel
theorem dX9_isPast_50 : decode cX9_isPast 50 = .ok (.istore 9, 2) := by decide +kernel
theorem dX9_isPast_52 : decode cX9_isPast 52 = .ok (.iload 9, 2) := by decide +kernel
theorem dX9_isPast_54 : decode cX9_isPast 54 = .ok (.iload 4, 2) := by decide +kernel
theorem dX9_isPast_56 : decode cX9_isPast 56 = .ok (.if_icmp .gt 44, 3) := by decide +kernel
theorem dX9_isPast_59 : decode cX9_isPast 59 = .ok (.iload 9, 2) := by decide +kernel
theorem dX9_isPast_61 : decode cX9_isPast 61 = .ok (.iload 5, 2) := by decide +kernel
theorem dX9_isPast_63 : decode cX9_isPast 63 = .ok (.if_icmp .gt 37, 3) := by decide +kernel
theorem dX9_isPast_66 : decode cX9_isPast 66 = .ok (.lload 7, 2) := by decide +kernel
theorem dX9_isPast_68 : decode cX9_isPast 68 = .ok (.aload_n 0, 1) := by decide +kernel
theorem dX9_isPast_69 : decode cX9_isPast 69 = .ok (.iload 5, 2) := by decide +kernel
theorem dX9_isPast_71 : decode cX9_isPast 71 = .ok (.iload 9, 2) := by decide +kernel
theorem dX9_isPast_73 : decode cX9_isPast 73 = .ok (.invokevirtual 185, 3) := by decide +kernel
theorem dX9_isPast_76 : decode cX9_isPast 76 = .ok (.aload_n 0, 1) := by decide +kernel
theorem dX9_isPast_77 : decode cX9_isPast 77 = .ok (.iload 6, 2) := by decide +kernel
theorem dX9_isPast_79 : decode cX9_isPast 79 = .ok (.iload 5, 2) := by decide +kernel
theorem dX9_isPast_81 : decode cX9_isPast 81 = .ok (.isub, 1) := by decide +kernel
theorem dX9_isPast_82 : decode cX9_isPast 82 = .ok (.iload 4, 2) := by decide +kernel
theorem dX9_isPast_84 : decode cX9_isPast 84 = .ok (.iload 9, 2) := by decide +kernel
theorem dX9_isPast_86 : decode cX9_isPast 86 = .ok (.isub, 1) := by decide +kernel
theorem dX9_isPast_87 : decode cX9_isPast 87 = .ok (.invokevirtual 185, 3) := by decide +kernel
theorem dX9_isPast_90 : decode cX9_isPast 90 = .ok (.lmul, 1) := by decide +kernel
theorem dX9_isPast_91 : decode cX9_isPast 91 = .ok (.ladd, 1) := by decide +kernel
theorem dX9_isPast_92 : decode cX9_isPast 92 = .ok (.lstore 7, 2) := by decide +kernel
theorem dX9_isPast_94 : decode cX9_isPast 94 = .ok (.iinc 9 1, 3) := by decide +kernel
theorem dX9_isPast_97 : decode cX9_isPast 97 = .ok (.goto (-45), 3) := by decide +kernel
theorem dX9_isPast_100 : decode cX9_isPast 100 = .ok (.lload 7, 2) := by decide +kernel
theorem dX9_isPast_102 : decode cX9_isPast 102 = .ok (.aload_n 0, 1) := by decide +kernel
theorem dX9_isPast_103 : decode cX9_isPast 103 = .ok (.iload 6, 2) := by decide +kernel
theorem dX9_isPast_105 : decode cX9_isPast 105 = .ok (.iload 4, 2) := by decide +kernel
theorem dX9_isPast_107 : decode cX9_isPast 107 = .ok (.invokevirtual 185, 3) := by decide +kernel
theorem dX9_isPast_110 : decode cX9_isPast 110 = .ok (.ldc2_w 189, 3) := by decide +kernel
theorem dX9_isPast_113 : decode cX9_isPast 113 = .ok (.aload_n 0, 1) := by decide +kernel
theorem dX9_isPast_114 : decode cX9_isPast 114 = .ok (.invokevirtual 191, 3) := by decide +kernel
theorem dX9_isPast_117 : decode cX9_isPast 117 = .ok (.i2l, 1) := by decide +kernel
theorem dX9_isPast_118 : decode cX9_isPast 118 = .ok (.lmul, 1) := by decide +kernel
theorem dX9_isPast_119 : decode cX9_isPast 119 = .ok (.ldiv, 1) := by decide +kernel
theorem dX9_isPast_120 : decode cX9_isPast 120 = .ok (.lcmp, 1) := by decide +kernel
theorem dX9_isPast_121 : decode cX9_isPast 121 = .ok (.ifCond .gt 7, 3) := by decide +kernel
theorem dX9_isPast_124 : decode cX9_isPast 124 = .ok (.iconst 1, 1) := by decide +kernel
theorem dX9_isPast_125 : decode cX9_isPast 125 = .ok (.goto 4, 3) := by decide +kernel
theorem dX9_isPast_128 : decode cX9_isPast 128 = .ok (.iconst 0, 1) := by decide +kernel
theorem dX9_isPast_129 : decode cX9_isPast 129 = .ok (.ireturn, 1) := by decide +kernel
set_option maxRecDepth 20000 in
theorem ggX9_habit_X9_in : GoodIn wsX9_habit wsX9_in := goodIn_r _ [4] (by decide +kernel) (by decide +kernel)
set_option maxRecDepth 20000 in
theorem gX9_habit_X9_in : GoodIn wsX9_habit (va_wsS RX9 97 yX9_in wsX9_in) := goodIn_app (goodIn_of _ (by decide +kernel)) ggX9_habit_X9_in
set_option maxRecDepth 20000 in
theorem ggX9_habit_X9_isKind : GoodIn wsX9_habit wsX9_isKind := goodIn_r _ [7, 1, 2, 3, 4] (by decide +kernel) (by decide +kernel)
set_option maxRecDepth 20000 in
theorem gX9_habit_X9_isKind : GoodIn wsX9_habit (va_wsS RX9 105 yX9_isKind wsX9_isKind) := goodIn_app (goodIn_of _ (by decide +kernel)) ggX9_habit_X9_isKind
set_option maxRecDepth 20000 in
theorem ggX9_habit_X9_isPast : GoodIn wsX9_habit wsX9_isPast := goodIn_r _ [11, 12, 13, 14, 15, 3, 16, 17, 18, 19, 20, 21, 22, 23, 24, 25, 26, 27, 28, 29, 30, 31, 32, 33, 34, 35, 36, 37, 38, 39, 40, 41, 42, 43, 44, 45, 46, 47, 48, 49, 50, 51, 52, 53, 54, 55, 56, 57, 58, 59, 60, 61, 62, 63, 64, 65, 66, 67, 68, 69, 70] (by decide +kernel) (by decide +kernel)
set_option maxRecDepth 20000 in
theorem gX9_habit_X9_isPast : GoodIn wsX9_habit (wsV RX9 194 RX9 yX9_isPast wsX9_isPast) := goodIn_app (goodIn_of _ (by decide +kernel)) ggX9_habit_X9_isPast
theorem dX9_habit_0 : decode cX9_habit 0 = .ok (.iload_n 1, 1) := by decide +kernel
theorem dX9_habit_1 : decode cX9_habit 1 = .ok (.iconst 0, 1) := by decide +kernel
theorem dX9_habit_2 : decode cX9_habit 2 = .ok (.iconst 3, 1) := by decide +kernel
theorem dX9_habit_3 : decode cX9_habit 3 = .ok (.invokestatic 97, 3) := by decide +kernel
theorem dX9_habit_6 : decode cX9_habit 6 = .ok (.ifCond .eq 10, 3) := by decide +kernel
theorem dX9_habit_9 : decode cX9_habit 9 = .ok (.iload_n 2, 1) := by decide +kernel
theorem dX9_habit_10 : decode cX9_habit 10 = .ok (.invokestatic 105, 3) := by decide +kernel
theorem dX9_habit_13 : decode cX9_habit 13 = .ok (.ifCond .ne 6, 3) := by decide +kernel
theorem dX9_habit_16 : decode cX9_habit 16 = .ok (.bipush (-2), 2) := by decide +kernel
theorem dX9_habit_18 : decode cX9_habit 18 = .ok (.ireturn, 1) := by decide +kernel
theorem dX9_habit_19 : decode cX9_habit 19 = .ok (.aload_n 0, 1) := by decide +kernel
theorem dX9_habit_20 : decode cX9_habit 20 = .ok (.iload_n 1, 1) := by decide +kernel
theorem dX9_habit_21 : decode cX9_habit 21 = .ok (.iload_n 2, 1) := by decide +kernel
theorem dX9_habit_22 : decode cX9_habit 22 = .ok (.invokevirtual 194, 3) := by decide +kernel
theorem dX9_habit_25 : decode cX9_habit 25 = .ok (.ifCond .eq 7, 3) := by decide +kernel
theorem dX9_habit_28 : decode cX9_habit 28 = .ok (.iconst 1, 1) := by decide +kernel
theorem dX9_habit_29 : decode cX9_habit 29 = .ok (.goto 4, 3) := by decide +kernel
theorem dX9_habit_32 : decode cX9_habit 32 = .ok (.iconst 0, 1) := by decide +kernel
theorem dX9_habit_33 : decode cX9_habit 33 = .ok (.ireturn, 1) := by decide +kernel
set_option maxRecDepth 20000 in
theorem ggX9_strongest_X9_isPast : GoodIn wsX9_strongest wsX9_isPast := goodIn_r _ [5, 6, 7, 8, 9, 4, 10, 11, 12, 13, 14, 15, 16, 17, 18, 19, 20, 21, 22, 23, 24, 25, 26, 27, 28, 29, 30, 31, 32, 33, 34, 35, 36, 37, 38, 39, 40, 41, 42, 43, 44, 45, 46, 47, 48, 49, 50, 51, 52, 53, 54, 55, 56, 57, 58, 59, 60, 61, 62, 63, 64] (by decide +kernel) (by decide +kernel)
set_option maxRecDepth 20000 in
theorem gX9_strongest_X9_isPast : GoodIn wsX9_strongest (wsV RX9 194 RX9 yX9_isPast wsX9_isPast) := goodIn_app (goodIn_of _ (by decide +kernel)) ggX9_strongest_X9_isPast
set_option maxRecDepth 20000 in
theorem ggX9_strongest_X9_tallyOf : GoodIn wsX9_strongest wsX9_tallyOf := goodIn_r _ [14, 15, 16, 17, 27, 28, 29, 30, 31, 32, 33, 34, 35, 36, 37, 38, 39, 40, 41, 42, 43, 44, 45, 46, 47, 48, 49, 50, 51, 52, 53, 54, 55, 56, 57, 58, 59, 60, 61, 62, 63, 64] (by decide +kernel) (by decide +kernel)
set_option maxRecDepth 20000 in
theorem gX9_strongest_X9_tallyOf : GoodIn wsX9_strongest (wsV RX9 179 RX9 yX9_tallyOf wsX9_tallyOf) := goodIn_app (goodIn_of _ (by decide +kernel)) ggX9_strongest_X9_tallyOf
theorem dX9_strongest_0 : decode cX9_strongest 0 = .ok (.iconst (-1), 1) := by decide +kernel
theorem dX9_strongest_1 : decode cX9_strongest 1 = .ok (.istore_n 1, 1) := by decide +kernel
theorem dX9_strongest_2 : decode cX9_strongest 2 = .ok (.iconst 0, 1) := by decide +kernel
theorem dX9_strongest_3 : decode cX9_strongest 3 = .ok (.istore_n 2, 1) := by decide +kernel
theorem dX9_strongest_4 : decode cX9_strongest 4 = .ok (.iload_n 2, 1) := by decide +kernel
theorem dX9_strongest_5 : decode cX9_strongest 5 = .ok (.bipush 16, 2) := by decide +kernel
theorem dX9_strongest_7 : decode cX9_strongest 7 = .ok (.if_icmp .ge 88, 3) := by decide +kernel
theorem dX9_strongest_10 : decode cX9_strongest 10 = .ok (.aload_n 0, 1) := by decide +kernel
theorem dX9_strongest_11 : decode cX9_strongest 11 = .ok (.iload_n 2, 1) := by decide +kernel
theorem dX9_strongest_12 : decode cX9_strongest 12 = .ok (.iconst 4, 1) := by decide +kernel
theorem dX9_strongest_13 : decode cX9_strongest 13 = .ok (.idiv, 1) := by decide +kernel
theorem dX9_strongest_14 : decode cX9_strongest 14 = .ok (.iload_n 2, 1) := by decide +kernel
theorem dX9_strongest_15 : decode cX9_strongest 15 = .ok (.iconst 4, 1) := by decide +kernel
theorem dX9_strongest_16 : decode cX9_strongest 16 = .ok (.irem, 1) := by decide +kernel
theorem dX9_strongest_17 : decode cX9_strongest 17 = .ok (.invokevirtual 194, 3) := by decide +kernel
theorem dX9_strongest_20 : decode cX9_strongest 20 = .ok (.ifCond .eq 69, 3) := by decide +kernel
theorem dX9_strongest_23 : decode cX9_strongest 23 = .ok (.aload_n 0, 1) := by decide +kernel
theorem dX9_strongest_24 : decode cX9_strongest 24 = .ok (.iload_n 2, 1) := by decide +kernel
theorem dX9_strongest_25 : decode cX9_strongest 25 = .ok (.iconst 4, 1) := by decide +kernel
theorem dX9_strongest_26 : decode cX9_strongest 26 = .ok (.idiv, 1) := by decide +kernel
theorem dX9_strongest_27 : decode cX9_strongest 27 = .ok (.iload_n 2, 1) := by decide +kernel
theorem dX9_strongest_28 : decode cX9_strongest 28 = .ok (.iconst 4, 1) := by decide +kernel
theorem dX9_strongest_29 : decode cX9_strongest 29 = .ok (.irem, 1) := by decide +kernel
theorem dX9_strongest_30 : decode cX9_strongest 30 = .ok (.iconst 0, 1) := by decide +kernel
theorem dX9_strongest_31 : decode cX9_strongest 31 = .ok (.invokevirtual 179, 3) := by decide +kernel
theorem dX9_strongest_34 : decode cX9_strongest 34 = .ok (.istore_n 3, 1) := by decide +kernel
theorem dX9_strongest_35 : decode cX9_strongest 35 = .ok (.aload_n 0, 1) := by decide +kernel
theorem dX9_strongest_36 : decode cX9_strongest 36 = .ok (.iload_n 2, 1) := by decide +kernel
theorem dX9_strongest_37 : decode cX9_strongest 37 = .ok (.iconst 4, 1) := by decide +kernel
theorem dX9_strongest_38 : decode cX9_strongest 38 = .ok (.idiv, 1) := by decide +kernel
theorem dX9_strongest_39 : decode cX9_strongest 39 = .ok (.iload_n 2, 1) := by decide +kernel
theorem dX9_strongest_40 : decode cX9_strongest 40 = .ok (.iconst 4, 1) := by decide +kernel
theorem dX9_strongest_41 : decode cX9_strongest 41 = .ok (.irem, 1) := by decide +kernel
theorem dX9_strongest_42 : decode cX9_strongest 42 = .ok (.iconst 1, 1) := by decide +kernel
theorem dX9_strongest_43 : decode cX9_strongest 43 = .ok (.invokevirtual 179, 3) := by decide +kernel
theorem dX9_strongest_46 : decode cX9_strongest 46 = .ok (.istore 4, 2) := by decide +kernel
theorem dX9_strongest_48 : decode cX9_strongest 48 = .ok (.iload_n 1, 1) := by decide +kernel
theorem dX9_strongest_49 : decode cX9_strongest 49 = .ok (.iconst (-1), 1) := by decide +kernel
theorem dX9_strongest_50 : decode cX9_strongest 50 = .ok (.if_icmp .eq 33, 3) := by decide +kernel
theorem dX9_strongest_53 : decode cX9_strongest 53 = .ok (.iload_n 3, 1) := by decide +kernel
theorem dX9_strongest_54 : decode cX9_strongest 54 = .ok (.aload_n 0, 1) := by decide +kernel
theorem dX9_strongest_55 : decode cX9_strongest 55 = .ok (.iload_n 1, 1) := by decide +kernel
theorem dX9_strongest_56 : decode cX9_strongest 56 = .ok (.iconst 4, 1) := by decide +kernel
theorem dX9_strongest_57 : decode cX9_strongest 57 = .ok (.idiv, 1) := by decide +kernel
theorem dX9_strongest_58 : decode cX9_strongest 58 = .ok (.iload_n 1, 1) := by decide +kernel
theorem dX9_strongest_59 : decode cX9_strongest 59 = .ok (.iconst 4, 1) := by decide +kernel
theorem dX9_strongest_60 : decode cX9_strongest 60 = .ok (.irem, 1) := by decide +kernel
theorem dX9_strongest_61 : decode cX9_strongest 61 = .ok (.iconst 1, 1) := by decide +kernel
theorem dX9_strongest_62 : decode cX9_strongest 62 = .ok (.invokevirtual 179, 3) := by decide +kernel
theorem dX9_strongest_65 : decode cX9_strongest 65 = .ok (.imul, 1) := by decide +kernel
theorem dX9_strongest_66 : decode cX9_strongest 66 = .ok (.aload_n 0, 1) := by decide +kernel
theorem dX9_strongest_67 : decode cX9_strongest 67 = .ok (.iload_n 1, 1) := by decide +kernel
theorem dX9_strongest_68 : decode cX9_strongest 68 = .ok (.iconst 4, 1) := by decide +kernel
theorem dX9_strongest_69 : decode cX9_strongest 69 = .ok (.idiv, 1) := by decide +kernel
theorem dX9_strongest_70 : decode cX9_strongest 70 = .ok (.iload_n 1, 1) := by decide +kernel
theorem dX9_strongest_71 : decode cX9_strongest 71 = .ok (.iconst 4, 1) := by decide +kernel
theorem dX9_strongest_72 : decode cX9_strongest 72 = .ok (.irem, 1) := by decide +kernel
theorem dX9_strongest_73 : decode cX9_strongest 73 = .ok (.iconst 0, 1) := by decide +kernel
theorem dX9_strongest_74 : decode cX9_strongest 74 = .ok (.invokevirtual 179, 3) := by decide +kernel
theorem dX9_strongest_77 : decode cX9_strongest 77 = .ok (.iload 4, 2) := by decide +kernel
theorem dX9_strongest_79 : decode cX9_strongest 79 = .ok (.imul, 1) := by decide +kernel
theorem dX9_strongest_80 : decode cX9_strongest 80 = .ok (.if_icmp .le 7, 3) := by decide +kernel
theorem dX9_strongest_83 : decode cX9_strongest 83 = .ok (.iload_n 2, 1) := by decide +kernel
theorem dX9_strongest_84 : decode cX9_strongest 84 = .ok (.goto 4, 3) := by decide +kernel
theorem dX9_strongest_87 : decode cX9_strongest 87 = .ok (.iload_n 1, 1) := by decide +kernel
theorem dX9_strongest_88 : decode cX9_strongest 88 = .ok (.istore_n 1, 1) := by decide +kernel
theorem dX9_strongest_89 : decode cX9_strongest 89 = .ok (.iinc 2 1, 3) := by decide +kernel
theorem dX9_strongest_92 : decode cX9_strongest 92 = .ok (.goto (-88), 3) := by decide +kernel
theorem dX9_strongest_95 : decode cX9_strongest 95 = .ok (.iload_n 1, 1) := by decide +kernel
theorem dX9_strongest_96 : decode cX9_strongest 96 = .ok (.ireturn, 1) := by decide +kernel
set_option maxRecDepth 20000 in
theorem ggX9_cost_X9_in : GoodIn wsX9_cost wsX9_in := goodIn_r _ [6] (by decide +kernel) (by decide +kernel)
set_option maxRecDepth 20000 in
theorem gX9_cost_X9_in : GoodIn wsX9_cost (va_wsS RX9 97 yX9_in wsX9_in) := goodIn_app (goodIn_of _ (by decide +kernel)) ggX9_cost_X9_in
theorem dX9_cost_0 : decode cX9_cost 0 = .ok (.iload_n 1, 1) := by decide +kernel
theorem dX9_cost_1 : decode cX9_cost 1 = .ok (.ifCond .ne 26, 3) := by decide +kernel
theorem dX9_cost_4 : decode cX9_cost 4 = .ok (.iload_n 2, 1) := by decide +kernel
theorem dX9_cost_5 : decode cX9_cost 5 = .ok (.iconst 1, 1) := by decide +kernel
theorem dX9_cost_6 : decode cX9_cost 6 = .ok (.sipush 999, 3) := by decide +kernel
theorem dX9_cost_9 : decode cX9_cost 9 = .ok (.invokestatic 97, 3) := by decide +kernel
theorem dX9_cost_12 : decode cX9_cost 12 = .ok (.ifCond .eq 15, 3) := by decide +kernel
theorem dX9_cost_15 : decode cX9_cost 15 = .ok (.aload_n 0, 1) := by decide +kernel
theorem dX9_cost_16 : decode cX9_cost 16 = .ok (.getfield 60, 3) := by decide +kernel
theorem dX9_cost_19 : decode cX9_cost 19 = .ok (.istore_n 3, 1) := by decide +kernel
theorem dX9_cost_20 : decode cX9_cost 20 = .ok (.aload_n 0, 1) := by decide +kernel
theorem dX9_cost_21 : decode cX9_cost 21 = .ok (.iload_n 2, 1) := by decide +kernel
theorem dX9_cost_22 : decode cX9_cost 22 = .ok (.putfield 60, 3) := by decide +kernel
theorem dX9_cost_25 : decode cX9_cost 25 = .ok (.iload_n 3, 1) := by decide +kernel
theorem dX9_cost_26 : decode cX9_cost 26 = .ok (.ireturn, 1) := by decide +kernel
theorem dX9_cost_27 : decode cX9_cost 27 = .ok (.iload_n 1, 1) := by decide +kernel
theorem dX9_cost_28 : decode cX9_cost 28 = .ok (.iconst 1, 1) := by decide +kernel
theorem dX9_cost_29 : decode cX9_cost 29 = .ok (.if_icmp .ne 25, 3) := by decide +kernel
theorem dX9_cost_32 : decode cX9_cost 32 = .ok (.iload_n 2, 1) := by decide +kernel
theorem dX9_cost_33 : decode cX9_cost 33 = .ok (.iconst 0, 1) := by decide +kernel
theorem dX9_cost_34 : decode cX9_cost 34 = .ok (.bipush 99, 2) := by decide +kernel
theorem dX9_cost_36 : decode cX9_cost 36 = .ok (.invokestatic 97, 3) := by decide +kernel
theorem dX9_cost_39 : decode cX9_cost 39 = .ok (.ifCond .eq 15, 3) := by decide +kernel
theorem dX9_cost_42 : decode cX9_cost 42 = .ok (.aload_n 0, 1) := by decide +kernel
theorem dX9_cost_43 : decode cX9_cost 43 = .ok (.getfield 64, 3) := by decide +kernel
theorem dX9_cost_46 : decode cX9_cost 46 = .ok (.istore_n 3, 1) := by decide +kernel
theorem dX9_cost_47 : decode cX9_cost 47 = .ok (.aload_n 0, 1) := by decide +kernel
theorem dX9_cost_48 : decode cX9_cost 48 = .ok (.iload_n 2, 1) := by decide +kernel
theorem dX9_cost_49 : decode cX9_cost 49 = .ok (.putfield 64, 3) := by decide +kernel
theorem dX9_cost_52 : decode cX9_cost 52 = .ok (.iload_n 3, 1) := by decide +kernel
theorem dX9_cost_53 : decode cX9_cost 53 = .ok (.ireturn, 1) := by decide +kernel
theorem dX9_cost_54 : decode cX9_cost 54 = .ok (.bipush (-3), 2) := by decide +kernel
theorem dX9_cost_56 : decode cX9_cost 56 = .ok (.ireturn, 1) := by decide +kernel
set_option maxRecDepth 20000 in
theorem ggX9_wear_X9_isKind : GoodIn wsX9_wear wsX9_isKind := goodIn_r _ [5, 6, 7, 4, 8] (by decide +kernel) (by decide +kernel)
set_option maxRecDepth 20000 in
theorem gX9_wear_X9_isKind : GoodIn wsX9_wear (va_wsS RX9 105 yX9_isKind wsX9_isKind) := goodIn_app (goodIn_of _ (by decide +kernel)) ggX9_wear_X9_isKind
set_option maxRecDepth 20000 in
theorem ggX9_wear_X9_in : GoodIn wsX9_wear wsX9_in := goodIn_r _ [8] (by decide +kernel) (by decide +kernel)
set_option maxRecDepth 20000 in
theorem gX9_wear_X9_in : GoodIn wsX9_wear (va_wsS RX9 97 yX9_in wsX9_in) := goodIn_app (goodIn_of _ (by decide +kernel)) ggX9_wear_X9_in
theorem dX9_wear_0 : decode cX9_wear 0 = .ok (.iload_n 1, 1) := by decide +kernel
theorem dX9_wear_1 : decode cX9_wear 1 = .ok (.invokestatic 105, 3) := by decide +kernel
theorem dX9_wear_4 : decode cX9_wear 4 = .ok (.ifCond .ne 6, 3) := by decide +kernel
theorem dX9_wear_7 : decode cX9_wear 7 = .ok (.bipush (-2), 2) := by decide +kernel
theorem dX9_wear_9 : decode cX9_wear 9 = .ok (.ireturn, 1) := by decide +kernel
theorem dX9_wear_10 : decode cX9_wear 10 = .ok (.iload_n 2, 1) := by decide +kernel
theorem dX9_wear_11 : decode cX9_wear 11 = .ok (.iconst 0, 1) := by decide +kernel
theorem dX9_wear_12 : decode cX9_wear 12 = .ok (.bipush 9, 2) := by decide +kernel
theorem dX9_wear_14 : decode cX9_wear 14 = .ok (.invokestatic 97, 3) := by decide +kernel
theorem dX9_wear_17 : decode cX9_wear 17 = .ok (.ifCond .ne 6, 3) := by decide +kernel
theorem dX9_wear_20 : decode cX9_wear 20 = .ok (.bipush (-3), 2) := by decide +kernel
theorem dX9_wear_22 : decode cX9_wear 22 = .ok (.ireturn, 1) := by decide +kernel
theorem dX9_wear_23 : decode cX9_wear 23 = .ok (.aload_n 0, 1) := by decide +kernel
theorem dX9_wear_24 : decode cX9_wear 24 = .ok (.getfield 67, 3) := by decide +kernel
theorem dX9_wear_27 : decode cX9_wear 27 = .ok (.iload_n 1, 1) := by decide +kernel
theorem dX9_wear_28 : decode cX9_wear 28 = .ok (.iaload, 1) := by decide +kernel
theorem dX9_wear_29 : decode cX9_wear 29 = .ok (.istore_n 3, 1) := by decide +kernel
theorem dX9_wear_30 : decode cX9_wear 30 = .ok (.aload_n 0, 1) := by decide +kernel
theorem dX9_wear_31 : decode cX9_wear 31 = .ok (.getfield 67, 3) := by decide +kernel
theorem dX9_wear_34 : decode cX9_wear 34 = .ok (.iload_n 1, 1) := by decide +kernel
theorem dX9_wear_35 : decode cX9_wear 35 = .ok (.iload_n 2, 1) := by decide +kernel
theorem dX9_wear_36 : decode cX9_wear 36 = .ok (.iastore, 1) := by decide +kernel
theorem dX9_wear_37 : decode cX9_wear 37 = .ok (.iload_n 3, 1) := by decide +kernel
theorem dX9_wear_38 : decode cX9_wear 38 = .ok (.ireturn, 1) := by decide +kernel
set_option maxRecDepth 20000 in
theorem ggX9_plan_X9_isKind : GoodIn wsX9_plan wsX9_isKind := goodIn_r _ [6, 7, 8, 5, 9] (by decide +kernel) (by decide +kernel)
set_option maxRecDepth 20000 in
theorem gX9_plan_X9_isKind : GoodIn wsX9_plan (va_wsS RX9 105 yX9_isKind wsX9_isKind) := goodIn_app (goodIn_of _ (by decide +kernel)) ggX9_plan_X9_isKind
theorem dX9_plan_0 : decode cX9_plan 0 = .ok (.iload_n 1, 1) := by decide +kernel
theorem dX9_plan_1 : decode cX9_plan 1 = .ok (.invokestatic 105, 3) := by decide +kernel
theorem dX9_plan_4 : decode cX9_plan 4 = .ok (.ifCond .ne 6, 3) := by decide +kernel
theorem dX9_plan_7 : decode cX9_plan 7 = .ok (.bipush (-2), 2) := by decide +kernel
theorem dX9_plan_9 : decode cX9_plan 9 = .ok (.ireturn, 1) := by decide +kernel
theorem dX9_plan_10 : decode cX9_plan 10 = .ok (.aload_n 0, 1) := by decide +kernel
theorem dX9_plan_11 : decode cX9_plan 11 = .ok (.getfield 197, 3) := by decide +kernel
theorem dX9_plan_14 : decode cX9_plan 14 = .ok (.bipush 30, 2) := by decide +kernel
theorem dX9_plan_16 : decode cX9_plan 16 = .ok (.if_icmp .ne 6, 3) := by decide +kernel
theorem dX9_plan_19 : decode cX9_plan 19 = .ok (.bipush (-5), 2) := by decide +kernel
theorem dX9_plan_21 : decode cX9_plan 21 = .ok (.ireturn, 1) := by decide +kernel
theorem dX9_plan_22 : decode cX9_plan 22 = .ok (.aload_n 0, 1) := by decide +kernel
theorem dX9_plan_23 : decode cX9_plan 23 = .ok (.getfield 70, 3) := by decide +kernel
theorem dX9_plan_26 : decode cX9_plan 26 = .ok (.aload_n 0, 1) := by decide +kernel
theorem dX9_plan_27 : decode cX9_plan 27 = .ok (.getfield 197, 3) := by decide +kernel
theorem dX9_plan_30 : decode cX9_plan 30 = .ok (.iload_n 1, 1) := by decide +kernel
theorem dX9_plan_31 : decode cX9_plan 31 = .ok (.iastore, 1) := by decide +kernel
theorem dX9_plan_32 : decode cX9_plan 32 = .ok (.aload_n 0, 1) := by decide +kernel
theorem dX9_plan_33 : decode cX9_plan 33 = .ok (.dup, 1) := by decide +kernel
theorem dX9_plan_34 : decode cX9_plan 34 = .ok (.getfield 197, 3) := by decide +kernel
theorem dX9_plan_37 : decode cX9_plan 37 = .ok (.iconst 1, 1) := by decide +kernel
theorem dX9_plan_38 : decode cX9_plan 38 = .ok (.iadd, 1) := by decide +kernel
theorem dX9_plan_39 : decode cX9_plan 39 = .ok (.putfield 197, 3) := by decide +kernel
theorem dX9_plan_42 : decode cX9_plan 42 = .ok (.aload_n 0, 1) := by decide +kernel
theorem dX9_plan_43 : decode cX9_plan 43 = .ok (.getfield 197, 3) := by decide +kernel
theorem dX9_plan_46 : decode cX9_plan 46 = .ok (.ireturn, 1) := by decide +kernel
theorem dX9_unplan_0 : decode cX9_unplan 0 = .ok (.aload_n 0, 1) := by decide +kernel
theorem dX9_unplan_1 : decode cX9_unplan 1 = .ok (.getfield 197, 3) := by decide +kernel
theorem dX9_unplan_4 : decode cX9_unplan 4 = .ok (.istore_n 1, 1) := by decide +kernel
theorem dX9_unplan_5 : decode cX9_unplan 5 = .ok (.aload_n 0, 1) := by decide +kernel
theorem dX9_unplan_6 : decode cX9_unplan 6 = .ok (.iconst 0, 1) := by decide +kernel
theorem dX9_unplan_7 : decode cX9_unplan 7 = .ok (.putfield 197, 3) := by decide +kernel
theorem dX9_unplan_10 : decode cX9_unplan 10 = .ok (.iload_n 1, 1) := by decide +kernel
theorem dX9_unplan_11 : decode cX9_unplan 11 = .ok (.ireturn, 1) := by decide +kernel
theorem dX9_costsOf_0 : decode cX9_costsOf 0 = .ok (.aload_n 0, 1) := by decide +kernel
theorem dX9_costsOf_1 : decode cX9_costsOf 1 = .ok (.getfield 60, 3) := by decide +kernel
theorem dX9_costsOf_4 : decode cX9_costsOf 4 = .ok (.istore_n 2, 1) := by decide +kernel
theorem dX9_costsOf_5 : decode cX9_costsOf 5 = .ok (.iconst 0, 1) := by decide +kernel
theorem dX9_costsOf_6 : decode cX9_costsOf 6 = .ok (.istore_n 3, 1) := by decide +kernel
theorem dX9_costsOf_7 : decode cX9_costsOf 7 = .ok (.iconst 0, 1) := by decide +kernel
theorem dX9_costsOf_8 : decode cX9_costsOf 8 = .ok (.istore 4, 2) := by decide +kernel
theorem dX9_costsOf_10 : decode cX9_costsOf 10 = .ok (.iload 4, 2) := by decide +kernel
theorem dX9_costsOf_12 : decode cX9_costsOf 12 = .ok (.iload_n 1, 1) := by decide +kernel
theorem dX9_costsOf_13 : decode cX9_costsOf 13 = .ok (.if_icmp .ge 57, 3) := by decide +kernel
theorem dX9_costsOf_16 : decode cX9_costsOf 16 = .ok (.iload_n 3, 1) := by decide +kernel
theorem dX9_costsOf_17 : decode cX9_costsOf 17 = .ok (.bipush 10, 2) := by decide +kernel
theorem dX9_costsOf_19 : decode cX9_costsOf 19 = .ok (.idiv, 1) := by decide +kernel
theorem dX9_costsOf_20 : decode cX9_costsOf 20 = .ok (.istore 5, 2) := by decide +kernel
theorem dX9_costsOf_22 : decode cX9_costsOf 22 = .ok (.iload_n 2, 1) := by decide +kernel
theorem dX9_costsOf_23 : decode cX9_costsOf 23 = .ok (.aload_n 0, 1) := by decide +kernel
theorem dX9_costsOf_24 : decode cX9_costsOf 24 = .ok (.getfield 64, 3) := by decide +kernel
theorem dX9_costsOf_27 : decode cX9_costsOf 27 = .ok (.iload 5, 2) := by decide +kernel
theorem dX9_costsOf_29 : decode cX9_costsOf 29 = .ok (.bipush 8, 2) := by decide +kernel
theorem dX9_costsOf_31 : decode cX9_costsOf 31 = .ok (.if_icmp .le 8, 3) := by decide +kernel
theorem dX9_costsOf_34 : decode cX9_costsOf 34 = .ok (.bipush 8, 2) := by decide +kernel
theorem dX9_costsOf_36 : decode cX9_costsOf 36 = .ok (.goto 5, 3) := by decide +kernel
theorem dX9_costsOf_39 : decode cX9_costsOf 39 = .ok (.iload 5, 2) := by decide +kernel
theorem dX9_costsOf_41 : decode cX9_costsOf 41 = .ok (.imul, 1) := by decide +kernel
theorem dX9_costsOf_42 : decode cX9_costsOf 42 = .ok (.iadd, 1) := by decide +kernel
theorem dX9_costsOf_43 : decode cX9_costsOf 43 = .ok (.istore_n 2, 1) := by decide +kernel
theorem dX9_costsOf_44 : decode cX9_costsOf 44 = .ok (.iload_n 3, 1) := by decide +kernel
theorem dX9_costsOf_45 : decode cX9_costsOf 45 = .ok (.aload_n 0, 1) := by decide +kernel
theorem dX9_costsOf_46 : decode cX9_costsOf 46 = .ok (.getfield 67, 3) := by decide +kernel
theorem dX9_costsOf_49 : decode cX9_costsOf 49 = .ok (.aload_n 0, 1) := by decide +kernel
theorem dX9_costsOf_50 : decode cX9_costsOf 50 = .ok (.getfield 70, 3) := by decide +kernel
theorem dX9_costsOf_53 : decode cX9_costsOf 53 = .ok (.iload 4, 2) := by decide +kernel
theorem dX9_costsOf_55 : decode cX9_costsOf 55 = .ok (.aload_n 0, 1) := by decide +kernel
theorem dX9_costsOf_56 : decode cX9_costsOf 56 = .ok (.getfield 197, 3) := by decide +kernel
theorem dX9_costsOf_59 : decode cX9_costsOf 59 = .ok (.irem, 1) := by decide +kernel
theorem dX9_costsOf_60 : decode cX9_costsOf 60 = .ok (.iaload, 1) := by decide +kernel
theorem dX9_costsOf_61 : decode cX9_costsOf 61 = .ok (.iaload, 1) := by decide +kernel
theorem dX9_costsOf_62 : decode cX9_costsOf 62 = .ok (.iadd, 1) := by decide +kernel
theorem dX9_costsOf_63 : decode cX9_costsOf 63 = .ok (.istore_n 3, 1) := by decide +kernel
theorem dX9_costsOf_64 : decode cX9_costsOf 64 = .ok (.iinc 4 1, 3) := by decide +kernel
theorem dX9_costsOf_67 : decode cX9_costsOf 67 = .ok (.goto (-57), 3) := by decide +kernel
theorem dX9_costsOf_70 : decode cX9_costsOf 70 = .ok (.iload_n 2, 1) := by decide +kernel
theorem dX9_costsOf_71 : decode cX9_costsOf 71 = .ok (.ireturn, 1) := by decide +kernel
set_option maxRecDepth 20000 in
theorem ggX9_costs_X9_in : GoodIn wsX9_costs wsX9_in := goodIn_r _ [5] (by decide +kernel) (by decide +kernel)
set_option maxRecDepth 20000 in
theorem gX9_costs_X9_in : GoodIn wsX9_costs (va_wsS RX9 97 yX9_in wsX9_in) := goodIn_app (goodIn_of _ (by decide +kernel)) ggX9_costs_X9_in
set_option maxRecDepth 20000 in
theorem ggX9_costs_X9_costsOf : GoodIn wsX9_costs wsX9_costsOf := goodIn_r _ [9, 10, 11, 12, 13, 1, 14, 15, 16, 17, 18, 19, 20, 21, 22, 23, 24, 25, 26, 27, 28, 29, 30, 31, 32, 33, 34, 35, 36, 37, 38, 39, 40, 41, 42, 43, 44, 45, 46, 47, 48, 49, 50, 51] (by decide +kernel) (by decide +kernel)
set_option maxRecDepth 20000 in
theorem gX9_costs_X9_costsOf : GoodIn wsX9_costs (wsV RX9 200 RX9 yX9_costsOf wsX9_costsOf) := goodIn_app (goodIn_of _ (by decide +kernel)) ggX9_costs_X9_costsOf
theorem dX9_costs_0 : decode cX9_costs 0 = .ok (.iload_n 1, 1) := by decide +kernel
theorem dX9_costs_1 : decode cX9_costs 1 = .ok (.iconst 1, 1) := by decide +kernel
theorem dX9_costs_2 : decode cX9_costs 2 = .ok (.bipush 120, 2) := by decide +kernel
theorem dX9_costs_4 : decode cX9_costs 4 = .ok (.invokestatic 97, 3) := by decide +kernel
theorem dX9_costs_7 : decode cX9_costs 7 = .ok (.ifCond .ne 6, 3) := by decide +kernel
theorem dX9_costs_10 : decode cX9_costs 10 = .ok (.bipush (-3), 2) := by decide +kernel
theorem dX9_costs_12 : decode cX9_costs 12 = .ok (.ireturn, 1) := by decide +kernel
theorem dX9_costs_13 : decode cX9_costs 13 = .ok (.aload_n 0, 1) := by decide +kernel
theorem dX9_costs_14 : decode cX9_costs 14 = .ok (.getfield 197, 3) := by decide +kernel
theorem dX9_costs_17 : decode cX9_costs 17 = .ok (.ifCond .ne 8, 3) := by decide +kernel
theorem dX9_costs_20 : decode cX9_costs 20 = .ok (.bipush (-4), 2) := by decide +kernel
theorem dX9_costs_22 : decode cX9_costs 22 = .ok (.goto 8, 3) := by decide +kernel
theorem dX9_costs_25 : decode cX9_costs 25 = .ok (.aload_n 0, 1) := by decide +kernel
theorem dX9_costs_26 : decode cX9_costs 26 = .ok (.iload_n 1, 1) := by decide +kernel
theorem dX9_costs_27 : decode cX9_costs 27 = .ok (.invokevirtual 200, 3) := by decide +kernel
theorem dX9_costs_30 : decode cX9_costs 30 = .ok (.ireturn, 1) := by decide +kernel
set_option maxRecDepth 20000 in
theorem ggX9_change_X9_costsOf : GoodIn wsX9_change wsX9_costsOf := goodIn_r _ [6, 7, 8, 9, 10, 1, 11, 12, 13, 14, 15, 16, 17, 18, 19, 20, 21, 22, 23, 24, 25, 26, 27, 28, 29, 30, 31, 32, 33, 34, 35, 36, 37, 38, 39, 40, 41, 42, 43, 44, 45, 46, 47, 48] (by decide +kernel) (by decide +kernel)
set_option maxRecDepth 20000 in
theorem gX9_change_X9_costsOf : GoodIn wsX9_change (wsV RX9 200 RX9 yX9_costsOf wsX9_costsOf) := goodIn_app (goodIn_of _ (by decide +kernel)) ggX9_change_X9_costsOf
theorem dX9_change_0 : decode cX9_change 0 = .ok (.aload_n 0, 1) := by decide +kernel
theorem dX9_change_1 : decode cX9_change 1 = .ok (.getfield 197, 3) := by decide +kernel
theorem dX9_change_4 : decode cX9_change 4 = .ok (.ifCond .ne 6, 3) := by decide +kernel
theorem dX9_change_7 : decode cX9_change 7 = .ok (.bipush (-4), 2) := by decide +kernel
theorem dX9_change_9 : decode cX9_change 9 = .ok (.ireturn, 1) := by decide +kernel
theorem dX9_change_10 : decode cX9_change 10 = .ok (.iconst 1, 1) := by decide +kernel
theorem dX9_change_11 : decode cX9_change 11 = .ok (.istore_n 1, 1) := by decide +kernel
theorem dX9_change_12 : decode cX9_change 12 = .ok (.aload_n 0, 1) := by decide +kernel
theorem dX9_change_13 : decode cX9_change 13 = .ok (.iconst 1, 1) := by decide +kernel
theorem dX9_change_14 : decode cX9_change 14 = .ok (.invokevirtual 200, 3) := by decide +kernel
theorem dX9_change_17 : decode cX9_change 17 = .ok (.istore_n 2, 1) := by decide +kernel
theorem dX9_change_18 : decode cX9_change 18 = .ok (.iconst 2, 1) := by decide +kernel
theorem dX9_change_19 : decode cX9_change 19 = .ok (.istore_n 3, 1) := by decide +kernel
theorem dX9_change_20 : decode cX9_change 20 = .ok (.iload_n 3, 1) := by decide +kernel
theorem dX9_change_21 : decode cX9_change 21 = .ok (.bipush 120, 2) := by decide +kernel
theorem dX9_change_23 : decode cX9_change 23 = .ok (.if_icmp .gt 31, 3) := by decide +kernel
theorem dX9_change_26 : decode cX9_change 26 = .ok (.aload_n 0, 1) := by decide +kernel
theorem dX9_change_27 : decode cX9_change 27 = .ok (.iload_n 3, 1) := by decide +kernel
theorem dX9_change_28 : decode cX9_change 28 = .ok (.invokevirtual 200, 3) := by decide +kernel
theorem dX9_change_31 : decode cX9_change 31 = .ok (.istore 4, 2) := by decide +kernel
theorem dX9_change_33 : decode cX9_change 33 = .ok (.iload 4, 2) := by decide +kernel
theorem dX9_change_35 : decode cX9_change 35 = .ok (.iload_n 1, 1) := by decide +kernel
theorem dX9_change_36 : decode cX9_change 36 = .ok (.imul, 1) := by decide +kernel
theorem dX9_change_37 : decode cX9_change 37 = .ok (.iload_n 2, 1) := by decide +kernel
theorem dX9_change_38 : decode cX9_change 38 = .ok (.iload_n 3, 1) := by decide +kernel
theorem dX9_change_39 : decode cX9_change 39 = .ok (.imul, 1) := by decide +kernel
theorem dX9_change_40 : decode cX9_change 40 = .ok (.if_icmp .ge 8, 3) := by decide +kernel
theorem dX9_change_43 : decode cX9_change 43 = .ok (.iload_n 3, 1) := by decide +kernel
theorem dX9_change_44 : decode cX9_change 44 = .ok (.istore_n 1, 1) := by decide +kernel
theorem dX9_change_45 : decode cX9_change 45 = .ok (.iload 4, 2) := by decide +kernel
theorem dX9_change_47 : decode cX9_change 47 = .ok (.istore_n 2, 1) := by decide +kernel
theorem dX9_change_48 : decode cX9_change 48 = .ok (.iinc 3 1, 3) := by decide +kernel
theorem dX9_change_51 : decode cX9_change 51 = .ok (.goto (-31), 3) := by decide +kernel
theorem dX9_change_54 : decode cX9_change 54 = .ok (.iload_n 1, 1) := by decide +kernel
theorem dX9_change_55 : decode cX9_change 55 = .ok (.ireturn, 1) := by decide +kernel
set_option maxRecDepth 20000 in
theorem ggX9_courts_X9_in : GoodIn wsX9_courts wsX9_in := goodIn_r _ [5] (by decide +kernel) (by decide +kernel)
set_option maxRecDepth 20000 in
theorem gX9_courts_X9_in : GoodIn wsX9_courts (va_wsS RX9 97 yX9_in wsX9_in) := goodIn_app (goodIn_of _ (by decide +kernel)) ggX9_courts_X9_in
theorem dX9_courts_0 : decode cX9_courts 0 = .ok (.iload_n 1, 1) := by decide +kernel
theorem dX9_courts_1 : decode cX9_courts 1 = .ok (.iconst 1, 1) := by decide +kernel
theorem dX9_courts_2 : decode cX9_courts 2 = .ok (.iconst 4, 1) := by decide +kernel
theorem dX9_courts_3 : decode cX9_courts 3 = .ok (.invokestatic 97, 3) := by decide +kernel
theorem dX9_courts_6 : decode cX9_courts 6 = .ok (.ifCond .ne 6, 3) := by decide +kernel
theorem dX9_courts_9 : decode cX9_courts 9 = .ok (.bipush (-3), 2) := by decide +kernel
theorem dX9_courts_11 : decode cX9_courts 11 = .ok (.ireturn, 1) := by decide +kernel
theorem dX9_courts_12 : decode cX9_courts 12 = .ok (.aload_n 0, 1) := by decide +kernel
theorem dX9_courts_13 : decode cX9_courts 13 = .ok (.getfield 73, 3) := by decide +kernel
theorem dX9_courts_16 : decode cX9_courts 16 = .ok (.istore_n 2, 1) := by decide +kernel
theorem dX9_courts_17 : decode cX9_courts 17 = .ok (.aload_n 0, 1) := by decide +kernel
theorem dX9_courts_18 : decode cX9_courts 18 = .ok (.iload_n 1, 1) := by decide +kernel
theorem dX9_courts_19 : decode cX9_courts 19 = .ok (.putfield 73, 3) := by decide +kernel
theorem dX9_courts_22 : decode cX9_courts 22 = .ok (.iload_n 2, 1) := by decide +kernel
theorem dX9_courts_23 : decode cX9_courts 23 = .ok (.ireturn, 1) := by decide +kernel
theorem dX9_thereMany_0 : decode cX9_thereMany 0 = .ok (.iconst 0, 1) := by decide +kernel
theorem dX9_thereMany_1 : decode cX9_thereMany 1 = .ok (.istore_n 1, 1) := by decide +kernel
theorem dX9_thereMany_2 : decode cX9_thereMany 2 = .ok (.iconst 0, 1) := by decide +kernel
theorem dX9_thereMany_3 : decode cX9_thereMany 3 = .ok (.istore_n 2, 1) := by decide +kernel
theorem dX9_thereMany_4 : decode cX9_thereMany 4 = .ok (.iload_n 2, 1) := by decide +kernel
theorem dX9_thereMany_5 : decode cX9_thereMany 5 = .ok (.bipush 8, 2) := by decide +kernel
theorem dX9_thereMany_7 : decode cX9_thereMany 7 = .ok (.if_icmp .ge 26, 3) := by decide +kernel
theorem dX9_thereMany_10 : decode cX9_thereMany 10 = .ok (.iload_n 1, 1) := by decide +kernel
theorem dX9_thereMany_11 : decode cX9_thereMany 11 = .ok (.aload_n 0, 1) := by decide +kernel
theorem dX9_thereMany_12 : decode cX9_thereMany 12 = .ok (.getfield 76, 3) := by decide +kernel
theorem dX9_thereMany_15 : decode cX9_thereMany 15 = .ok (.iload_n 2, 1) := by decide +kernel
theorem dX9_thereMany_16 : decode cX9_thereMany 16 = .ok (.baload, 1) := by decide +kernel
theorem dX9_thereMany_17 : decode cX9_thereMany 17 = .ok (.ifCond .eq 7, 3) := by decide +kernel
theorem dX9_thereMany_20 : decode cX9_thereMany 20 = .ok (.iconst 1, 1) := by decide +kernel
theorem dX9_thereMany_21 : decode cX9_thereMany 21 = .ok (.goto 4, 3) := by decide +kernel
theorem dX9_thereMany_24 : decode cX9_thereMany 24 = .ok (.iconst 0, 1) := by decide +kernel
theorem dX9_thereMany_25 : decode cX9_thereMany 25 = .ok (.iadd, 1) := by decide +kernel
theorem dX9_thereMany_26 : decode cX9_thereMany 26 = .ok (.istore_n 1, 1) := by decide +kernel
theorem dX9_thereMany_27 : decode cX9_thereMany 27 = .ok (.iinc 2 1, 3) := by decide +kernel
theorem dX9_thereMany_30 : decode cX9_thereMany 30 = .ok (.goto (-26), 3) := by decide +kernel
theorem dX9_thereMany_33 : decode cX9_thereMany 33 = .ok (.iload_n 1, 1) := by decide +kernel
theorem dX9_thereMany_34 : decode cX9_thereMany 34 = .ok (.ireturn, 1) := by decide +kernel
set_option maxRecDepth 20000 in
theorem ggX9_come_X9_isPlayer : GoodIn wsX9_come wsX9_isPlayer := goodIn_r _ [7, 8, 9, 6, 10] (by decide +kernel) (by decide +kernel)
set_option maxRecDepth 20000 in
theorem gX9_come_X9_isPlayer : GoodIn wsX9_come (va_wsS RX9 125 yX9_isPlayer wsX9_isPlayer) := goodIn_app (goodIn_of _ (by decide +kernel)) ggX9_come_X9_isPlayer
set_option maxRecDepth 20000 in
theorem ggX9_come_X9_in : GoodIn wsX9_come wsX9_in := goodIn_r _ [10] (by decide +kernel) (by decide +kernel)
set_option maxRecDepth 20000 in
theorem gX9_come_X9_in : GoodIn wsX9_come (va_wsS RX9 97 yX9_in wsX9_in) := goodIn_app (goodIn_of _ (by decide +kernel)) ggX9_come_X9_in
set_option maxRecDepth 20000 in
theorem ggX9_come_X9_thereMany : GoodIn wsX9_come wsX9_thereMany := goodIn_r _ [14, 1, 15, 16, 17, 18, 19, 20, 21, 22, 23, 24, 25, 26, 27, 28, 29, 30, 31, 32, 33, 34, 35, 36, 37, 38, 39, 40, 41, 42, 43, 44, 45, 46, 47, 48, 49, 50, 51, 52] (by decide +kernel) (by decide +kernel)
set_option maxRecDepth 20000 in
theorem gX9_come_X9_thereMany : GoodIn wsX9_come (wsV RX9 203 RX9 yX9_thereMany wsX9_thereMany) := goodIn_app (goodIn_of _ (by decide +kernel)) ggX9_come_X9_thereMany
theorem dX9_come_0 : decode cX9_come 0 = .ok (.iload_n 1, 1) := by decide +kernel
theorem dX9_come_1 : decode cX9_come 1 = .ok (.invokestatic 125, 3) := by decide +kernel
theorem dX9_come_4 : decode cX9_come 4 = .ok (.ifCond .ne 6, 3) := by decide +kernel
theorem dX9_come_7 : decode cX9_come 7 = .ok (.bipush (-2), 2) := by decide +kernel
theorem dX9_come_9 : decode cX9_come 9 = .ok (.ireturn, 1) := by decide +kernel
theorem dX9_come_10 : decode cX9_come 10 = .ok (.iload_n 2, 1) := by decide +kernel
theorem dX9_come_11 : decode cX9_come 11 = .ok (.iconst 0, 1) := by decide +kernel
theorem dX9_come_12 : decode cX9_come 12 = .ok (.bipush 99, 2) := by decide +kernel
theorem dX9_come_14 : decode cX9_come 14 = .ok (.invokestatic 97, 3) := by decide +kernel
theorem dX9_come_17 : decode cX9_come 17 = .ok (.ifCond .ne 6, 3) := by decide +kernel
theorem dX9_come_20 : decode cX9_come 20 = .ok (.bipush (-3), 2) := by decide +kernel
theorem dX9_come_22 : decode cX9_come 22 = .ok (.ireturn, 1) := by decide +kernel
theorem dX9_come_23 : decode cX9_come 23 = .ok (.aload_n 0, 1) := by decide +kernel
theorem dX9_come_24 : decode cX9_come 24 = .ok (.getfield 76, 3) := by decide +kernel
theorem dX9_come_27 : decode cX9_come 27 = .ok (.iload_n 1, 1) := by decide +kernel
theorem dX9_come_28 : decode cX9_come 28 = .ok (.baload, 1) := by decide +kernel
theorem dX9_come_29 : decode cX9_come 29 = .ok (.ifCond .eq 6, 3) := by decide +kernel
theorem dX9_come_32 : decode cX9_come 32 = .ok (.bipush (-4), 2) := by decide +kernel
theorem dX9_come_34 : decode cX9_come 34 = .ok (.ireturn, 1) := by decide +kernel
theorem dX9_come_35 : decode cX9_come 35 = .ok (.aload_n 0, 1) := by decide +kernel
theorem dX9_come_36 : decode cX9_come 36 = .ok (.getfield 76, 3) := by decide +kernel
theorem dX9_come_39 : decode cX9_come 39 = .ok (.iload_n 1, 1) := by decide +kernel
theorem dX9_come_40 : decode cX9_come 40 = .ok (.iconst 1, 1) := by decide +kernel
theorem dX9_come_41 : decode cX9_come 41 = .ok (.bastore, 1) := by decide +kernel
theorem dX9_come_42 : decode cX9_come 42 = .ok (.aload_n 0, 1) := by decide +kernel
theorem dX9_come_43 : decode cX9_come 43 = .ok (.getfield 79, 3) := by decide +kernel
theorem dX9_come_46 : decode cX9_come 46 = .ok (.iload_n 1, 1) := by decide +kernel
theorem dX9_come_47 : decode cX9_come 47 = .ok (.iload_n 2, 1) := by decide +kernel
theorem dX9_come_48 : decode cX9_come 48 = .ok (.iastore, 1) := by decide +kernel
theorem dX9_come_49 : decode cX9_come 49 = .ok (.aload_n 0, 1) := by decide +kernel
theorem dX9_come_50 : decode cX9_come 50 = .ok (.getfield 82, 3) := by decide +kernel
theorem dX9_come_53 : decode cX9_come 53 = .ok (.iload_n 1, 1) := by decide +kernel
theorem dX9_come_54 : decode cX9_come 54 = .ok (.iconst 0, 1) := by decide +kernel
theorem dX9_come_55 : decode cX9_come 55 = .ok (.iastore, 1) := by decide +kernel
theorem dX9_come_56 : decode cX9_come 56 = .ok (.aload_n 0, 1) := by decide +kernel
theorem dX9_come_57 : decode cX9_come 57 = .ok (.invokevirtual 203, 3) := by decide +kernel
theorem dX9_come_60 : decode cX9_come 60 = .ok (.ireturn, 1) := by decide +kernel
set_option maxRecDepth 20000 in
theorem ggX9_leave_X9_isPlayer : GoodIn wsX9_leave wsX9_isPlayer := goodIn_r _ [5, 6, 7, 4, 8] (by decide +kernel) (by decide +kernel)
set_option maxRecDepth 20000 in
theorem gX9_leave_X9_isPlayer : GoodIn wsX9_leave (va_wsS RX9 125 yX9_isPlayer wsX9_isPlayer) := goodIn_app (goodIn_of _ (by decide +kernel)) ggX9_leave_X9_isPlayer
set_option maxRecDepth 20000 in
theorem ggX9_leave_X9_thereMany : GoodIn wsX9_leave wsX9_thereMany := goodIn_r _ [12, 1, 13, 14, 15, 16, 17, 18, 19, 20, 21, 22, 23, 24, 25, 26, 27, 28, 29, 30, 31, 32, 33, 34, 35, 36, 37, 38, 39, 40, 41, 42, 43, 44, 45, 46, 47, 48, 49, 50] (by decide +kernel) (by decide +kernel)
set_option maxRecDepth 20000 in
theorem gX9_leave_X9_thereMany : GoodIn wsX9_leave (wsV RX9 203 RX9 yX9_thereMany wsX9_thereMany) := goodIn_app (goodIn_of _ (by decide +kernel)) ggX9_leave_X9_thereMany
theorem dX9_leave_0 : decode cX9_leave 0 = .ok (.iload_n 1, 1) := by decide +kernel
theorem dX9_leave_1 : decode cX9_leave 1 = .ok (.invokestatic 125, 3) := by decide +kernel
theorem dX9_leave_4 : decode cX9_leave 4 = .ok (.ifCond .ne 6, 3) := by decide +kernel
theorem dX9_leave_7 : decode cX9_leave 7 = .ok (.bipush (-2), 2) := by decide +kernel
theorem dX9_leave_9 : decode cX9_leave 9 = .ok (.ireturn, 1) := by decide +kernel
theorem dX9_leave_10 : decode cX9_leave 10 = .ok (.aload_n 0, 1) := by decide +kernel
theorem dX9_leave_11 : decode cX9_leave 11 = .ok (.getfield 76, 3) := by decide +kernel
theorem dX9_leave_14 : decode cX9_leave 14 = .ok (.iload_n 1, 1) := by decide +kernel
theorem dX9_leave_15 : decode cX9_leave 15 = .ok (.baload, 1) := by decide +kernel
theorem dX9_leave_16 : decode cX9_leave 16 = .ok (.ifCond .ne 6, 3) := by decide +kernel
theorem dX9_leave_19 : decode cX9_leave 19 = .ok (.bipush (-4), 2) := by decide +kernel
theorem dX9_leave_21 : decode cX9_leave 21 = .ok (.ireturn, 1) := by decide +kernel
theorem dX9_leave_22 : decode cX9_leave 22 = .ok (.aload_n 0, 1) := by decide +kernel
theorem dX9_leave_23 : decode cX9_leave 23 = .ok (.getfield 76, 3) := by decide +kernel
theorem dX9_leave_26 : decode cX9_leave 26 = .ok (.iload_n 1, 1) := by decide +kernel
theorem dX9_leave_27 : decode cX9_leave 27 = .ok (.iconst 0, 1) := by decide +kernel
theorem dX9_leave_28 : decode cX9_leave 28 = .ok (.bastore, 1) := by decide +kernel
theorem dX9_leave_29 : decode cX9_leave 29 = .ok (.aload_n 0, 1) := by decide +kernel
theorem dX9_leave_30 : decode cX9_leave 30 = .ok (.invokevirtual 203, 3) := by decide +kernel
theorem dX9_leave_33 : decode cX9_leave 33 = .ok (.ireturn, 1) := by decide +kernel
set_option maxRecDepth 20000 in
theorem ggX9_lookAtRound_X9_size : GoodIn wsX9_lookAtRound wsX9_size := goodIn_r _ [13] (by decide +kernel) (by decide +kernel)
set_option maxRecDepth 20000 in
theorem gX9_lookAtRound_X9_size : GoodIn wsX9_lookAtRound (va_wsS RX9 101 yX9_size wsX9_size) := goodIn_app (goodIn_of _ (by decide +kernel)) ggX9_lookAtRound_X9_size
theorem dX9_lookAtRound_0 : decode cX9_lookAtRound 0 = .ok (.iconst 0, 1) := by decide +kernel
theorem dX9_lookAtRound_1 : decode cX9_lookAtRound 1 = .ok (.istore_n 2, 1) := by decide +kernel
theorem dX9_lookAtRound_2 : decode cX9_lookAtRound 2 = .ok (.iconst 0, 1) := by decide +kernel
theorem dX9_lookAtRound_3 : decode cX9_lookAtRound 3 = .ok (.istore_n 3, 1) := by decide +kernel
theorem dX9_lookAtRound_4 : decode cX9_lookAtRound 4 = .ok (.iconst 0, 1) := by decide +kernel
theorem dX9_lookAtRound_5 : decode cX9_lookAtRound 5 = .ok (.istore 4, 2) := by decide +kernel
theorem dX9_lookAtRound_7 : decode cX9_lookAtRound 7 = .ok (.iconst 0, 1) := by decide +kernel
theorem dX9_lookAtRound_8 : decode cX9_lookAtRound 8 = .ok (.istore 5, 2) := by decide +kernel
theorem dX9_lookAtRound_10 : decode cX9_lookAtRound 10 = .ok (.iload 5, 2) := by decide +kernel
theorem dX9_lookAtRound_12 : decode cX9_lookAtRound 12 = .ok (.bipush 8, 2) := by decide +kernel
theorem dX9_lookAtRound_14 : decode cX9_lookAtRound 14 = .ok (.if_icmp .ge 111, 3) := by decide +kernel
theorem dX9_lookAtRound_17 : decode cX9_lookAtRound 17 = .ok (.aload_n 0, 1) := by decide +kernel
theorem dX9_lookAtRound_18 : decode cX9_lookAtRound 18 = .ok (.getfield 91, 3) := by decide +kernel
theorem dX9_lookAtRound_21 : decode cX9_lookAtRound 21 = .ok (.iload 5, 2) := by decide +kernel
theorem dX9_lookAtRound_23 : decode cX9_lookAtRound 23 = .ok (.iaload, 1) := by decide +kernel
theorem dX9_lookAtRound_24 : decode cX9_lookAtRound 24 = .ok (.iconst (-1), 1) := by decide +kernel
theorem dX9_lookAtRound_25 : decode cX9_lookAtRound 25 = .ok (.if_icmp .eq 94, 3) := by decide +kernel
theorem dX9_lookAtRound_28 : decode cX9_lookAtRound 28 = .ok (.iload_n 2, 1) := by decide +kernel
theorem dX9_lookAtRound_29 : decode cX9_lookAtRound 29 = .ok (.aload_n 0, 1) := by decide +kernel
theorem dX9_lookAtRound_30 : decode cX9_lookAtRound 30 = .ok (.getfield 82, 3) := by decide +kernel
theorem dX9_lookAtRound_33 : decode cX9_lookAtRound 33 = .ok (.iload 5, 2) := by decide +kernel
theorem dX9_lookAtRound_35 : decode cX9_lookAtRound 35 = .ok (.iaload, 1) := by decide +kernel
theorem dX9_lookAtRound_36 : decode cX9_lookAtRound 36 = .ok (.iadd, 1) := by decide +kernel
theorem dX9_lookAtRound_37 : decode cX9_lookAtRound 37 = .ok (.istore_n 2, 1) := by decide +kernel
theorem dX9_lookAtRound_38 : decode cX9_lookAtRound 38 = .ok (.iload_n 3, 1) := by decide +kernel
theorem dX9_lookAtRound_39 : decode cX9_lookAtRound 39 = .ok (.aload_n 0, 1) := by decide +kernel
theorem dX9_lookAtRound_40 : decode cX9_lookAtRound 40 = .ok (.getfield 91, 3) := by decide +kernel
theorem dX9_lookAtRound_43 : decode cX9_lookAtRound 43 = .ok (.iload 5, 2) := by decide +kernel
theorem dX9_lookAtRound_45 : decode cX9_lookAtRound 45 = .ok (.iaload, 1) := by decide +kernel
theorem dX9_lookAtRound_46 : decode cX9_lookAtRound 46 = .ok (.iload 5, 2) := by decide +kernel
theorem dX9_lookAtRound_48 : decode cX9_lookAtRound 48 = .ok (.if_icmp .le 24, 3) := by decide +kernel
theorem dX9_lookAtRound_51 : decode cX9_lookAtRound 51 = .ok (.aload_n 0, 1) := by decide +kernel
theorem dX9_lookAtRound_52 : decode cX9_lookAtRound 52 = .ok (.getfield 85, 3) := by decide +kernel
theorem dX9_lookAtRound_55 : decode cX9_lookAtRound 55 = .ok (.bipush 8, 2) := by decide +kernel
theorem dX9_lookAtRound_57 : decode cX9_lookAtRound 57 = .ok (.iload 5, 2) := by decide +kernel
theorem dX9_lookAtRound_59 : decode cX9_lookAtRound 59 = .ok (.imul, 1) := by decide +kernel
theorem dX9_lookAtRound_60 : decode cX9_lookAtRound 60 = .ok (.aload_n 0, 1) := by decide +kernel
theorem dX9_lookAtRound_61 : decode cX9_lookAtRound 61 = .ok (.getfield 91, 3) := by decide +kernel
theorem dX9_lookAtRound_64 : decode cX9_lookAtRound 64 = .ok (.iload 5, 2) := by decide +kernel
theorem dX9_lookAtRound_66 : decode cX9_lookAtRound 66 = .ok (.iaload, 1) := by decide +kernel
theorem dX9_lookAtRound_67 : decode cX9_lookAtRound 67 = .ok (.iadd, 1) := by decide +kernel
theorem dX9_lookAtRound_68 : decode cX9_lookAtRound 68 = .ok (.iaload, 1) := by decide +kernel
theorem dX9_lookAtRound_69 : decode cX9_lookAtRound 69 = .ok (.goto 4, 3) := by decide +kernel
theorem dX9_lookAtRound_72 : decode cX9_lookAtRound 72 = .ok (.iconst 0, 1) := by decide +kernel
theorem dX9_lookAtRound_73 : decode cX9_lookAtRound 73 = .ok (.iadd, 1) := by decide +kernel
theorem dX9_lookAtRound_74 : decode cX9_lookAtRound 74 = .ok (.istore_n 3, 1) := by decide +kernel
theorem dX9_lookAtRound_75 : decode cX9_lookAtRound 75 = .ok (.iload 4, 2) := by decide +kernel
theorem dX9_lookAtRound_77 : decode cX9_lookAtRound 77 = .ok (.aload_n 0, 1) := by decide +kernel
theorem dX9_lookAtRound_78 : decode cX9_lookAtRound 78 = .ok (.getfield 91, 3) := by decide +kernel
theorem dX9_lookAtRound_81 : decode cX9_lookAtRound 81 = .ok (.iload 5, 2) := by decide +kernel
theorem dX9_lookAtRound_83 : decode cX9_lookAtRound 83 = .ok (.iaload, 1) := by decide +kernel
theorem dX9_lookAtRound_84 : decode cX9_lookAtRound 84 = .ok (.iload 5, 2) := by decide +kernel
theorem dX9_lookAtRound_86 : decode cX9_lookAtRound 86 = .ok (.if_icmp .le 29, 3) := by decide +kernel
theorem dX9_lookAtRound_89 : decode cX9_lookAtRound 89 = .ok (.aload_n 0, 1) := by decide +kernel
theorem dX9_lookAtRound_90 : decode cX9_lookAtRound 90 = .ok (.getfield 79, 3) := by decide +kernel
theorem dX9_lookAtRound_93 : decode cX9_lookAtRound 93 = .ok (.iload 5, 2) := by decide +kernel
theorem dX9_lookAtRound_95 : decode cX9_lookAtRound 95 = .ok (.iaload, 1) := by decide +kernel
theorem dX9_lookAtRound_96 : decode cX9_lookAtRound 96 = .ok (.aload_n 0, 1) := by decide +kernel
theorem dX9_lookAtRound_97 : decode cX9_lookAtRound 97 = .ok (.getfield 79, 3) := by decide +kernel
theorem dX9_lookAtRound_100 : decode cX9_lookAtRound 100 = .ok (.aload_n 0, 1) := by decide +kernel
theorem dX9_lookAtRound_101 : decode cX9_lookAtRound 101 = .ok (.getfield 91, 3) := by decide +kernel
theorem dX9_lookAtRound_104 : decode cX9_lookAtRound 104 = .ok (.iload 5, 2) := by decide +kernel
theorem dX9_lookAtRound_106 : decode cX9_lookAtRound 106 = .ok (.iaload, 1) := by decide +kernel
theorem dX9_lookAtRound_107 : decode cX9_lookAtRound 107 = .ok (.iaload, 1) := by decide +kernel
theorem dX9_lookAtRound_108 : decode cX9_lookAtRound 108 = .ok (.isub, 1) := by decide +kernel
theorem dX9_lookAtRound_109 : decode cX9_lookAtRound 109 = .ok (.invokestatic 101, 3) := by decide +kernel
theorem dX9_lookAtRound_112 : decode cX9_lookAtRound 112 = .ok (.goto 4, 3) := by decide +kernel
theorem dX9_lookAtRound_115 : decode cX9_lookAtRound 115 = .ok (.iconst 0, 1) := by decide +kernel
theorem dX9_lookAtRound_116 : decode cX9_lookAtRound 116 = .ok (.iadd, 1) := by decide +kernel
theorem dX9_lookAtRound_117 : decode cX9_lookAtRound 117 = .ok (.istore 4, 2) := by decide +kernel
theorem dX9_lookAtRound_119 : decode cX9_lookAtRound 119 = .ok (.iinc 5 1, 3) := by decide +kernel
theorem dX9_lookAtRound_122 : decode cX9_lookAtRound 122 = .ok (.goto (-112), 3) := by decide +kernel
theorem dX9_lookAtRound_125 : decode cX9_lookAtRound 125 = .ok (.aload_n 0, 1) := by decide +kernel
theorem dX9_lookAtRound_126 : decode cX9_lookAtRound 126 = .ok (.getfield 206, 3) := by decide +kernel
theorem dX9_lookAtRound_129 : decode cX9_lookAtRound 129 = .ok (.iconst (-1), 1) := by decide +kernel
theorem dX9_lookAtRound_130 : decode cX9_lookAtRound 130 = .ok (.if_icmp .eq 44, 3) := by decide +kernel
theorem dX9_lookAtRound_133 : decode cX9_lookAtRound 133 = .ok (.iload_n 2, 1) := by decide +kernel
theorem dX9_lookAtRound_134 : decode cX9_lookAtRound 134 = .ok (.aload_n 0, 1) := by decide +kernel
theorem dX9_lookAtRound_135 : decode cX9_lookAtRound 135 = .ok (.getfield 209, 3) := by decide +kernel
theorem dX9_lookAtRound_138 : decode cX9_lookAtRound 138 = .ok (.if_icmp .gt 36, 3) := by decide +kernel
theorem dX9_lookAtRound_141 : decode cX9_lookAtRound 141 = .ok (.iload_n 2, 1) := by decide +kernel
theorem dX9_lookAtRound_142 : decode cX9_lookAtRound 142 = .ok (.aload_n 0, 1) := by decide +kernel
theorem dX9_lookAtRound_143 : decode cX9_lookAtRound 143 = .ok (.getfield 209, 3) := by decide +kernel
theorem dX9_lookAtRound_146 : decode cX9_lookAtRound 146 = .ok (.if_icmp .ne 32, 3) := by decide +kernel
theorem dX9_lookAtRound_149 : decode cX9_lookAtRound 149 = .ok (.iload_n 3, 1) := by decide +kernel
theorem dX9_lookAtRound_150 : decode cX9_lookAtRound 150 = .ok (.aload_n 0, 1) := by decide +kernel
theorem dX9_lookAtRound_151 : decode cX9_lookAtRound 151 = .ok (.getfield 212, 3) := by decide +kernel
theorem dX9_lookAtRound_154 : decode cX9_lookAtRound 154 = .ok (.if_icmp .lt 20, 3) := by decide +kernel
theorem dX9_lookAtRound_157 : decode cX9_lookAtRound 157 = .ok (.iload_n 3, 1) := by decide +kernel
theorem dX9_lookAtRound_158 : decode cX9_lookAtRound 158 = .ok (.aload_n 0, 1) := by decide +kernel
theorem dX9_lookAtRound_159 : decode cX9_lookAtRound 159 = .ok (.getfield 212, 3) := by decide +kernel
theorem dX9_lookAtRound_162 : decode cX9_lookAtRound 162 = .ok (.if_icmp .ne 16, 3) := by decide +kernel
theorem dX9_lookAtRound_165 : decode cX9_lookAtRound 165 = .ok (.iload 4, 2) := by decide +kernel
theorem dX9_lookAtRound_167 : decode cX9_lookAtRound 167 = .ok (.aload_n 0, 1) := by decide +kernel
theorem dX9_lookAtRound_168 : decode cX9_lookAtRound 168 = .ok (.getfield 215, 3) := by decide +kernel
theorem dX9_lookAtRound_171 : decode cX9_lookAtRound 171 = .ok (.if_icmp .ge 7, 3) := by decide +kernel
theorem dX9_lookAtRound_174 : decode cX9_lookAtRound 174 = .ok (.iconst 1, 1) := by decide +kernel
theorem dX9_lookAtRound_175 : decode cX9_lookAtRound 175 = .ok (.goto 4, 3) := by decide +kernel
theorem dX9_lookAtRound_178 : decode cX9_lookAtRound 178 = .ok (.iconst 0, 1) := by decide +kernel
theorem dX9_lookAtRound_179 : decode cX9_lookAtRound 179 = .ok (.istore 5, 2) := by decide +kernel
theorem dX9_lookAtRound_181 : decode cX9_lookAtRound 181 = .ok (.iconst 0, 1) := by decide +kernel
theorem dX9_lookAtRound_182 : decode cX9_lookAtRound 182 = .ok (.istore 6, 2) := by decide +kernel
theorem dX9_lookAtRound_184 : decode cX9_lookAtRound 184 = .ok (.iload 6, 2) := by decide +kernel
theorem dX9_lookAtRound_186 : decode cX9_lookAtRound 186 = .ok (.bipush 8, 2) := by decide +kernel
theorem dX9_lookAtRound_188 : decode cX9_lookAtRound 188 = .ok (.if_icmp .ge 28, 3) := by decide +kernel
theorem dX9_lookAtRound_191 : decode cX9_lookAtRound 191 = .ok (.iload 5, 2) := by decide +kernel
theorem dX9_lookAtRound_193 : decode cX9_lookAtRound 193 = .ok (.ifCond .eq 23, 3) := by decide +kernel
theorem dX9_lookAtRound_196 : decode cX9_lookAtRound 196 = .ok (.aload_n 0, 1) := by decide +kernel
theorem dX9_lookAtRound_197 : decode cX9_lookAtRound 197 = .ok (.getfield 94, 3) := by decide +kernel
theorem dX9_lookAtRound_200 : decode cX9_lookAtRound 200 = .ok (.iload 6, 2) := by decide +kernel
theorem dX9_lookAtRound_202 : decode cX9_lookAtRound 202 = .ok (.aload_n 0, 1) := by decide +kernel
theorem dX9_lookAtRound_203 : decode cX9_lookAtRound 203 = .ok (.getfield 91, 3) := by decide +kernel
theorem dX9_lookAtRound_206 : decode cX9_lookAtRound 206 = .ok (.iload 6, 2) := by decide +kernel
theorem dX9_lookAtRound_208 : decode cX9_lookAtRound 208 = .ok (.iaload, 1) := by decide +kernel
theorem dX9_lookAtRound_209 : decode cX9_lookAtRound 209 = .ok (.iastore, 1) := by decide +kernel
theorem dX9_lookAtRound_210 : decode cX9_lookAtRound 210 = .ok (.iinc 6 1, 3) := by decide +kernel
theorem dX9_lookAtRound_213 : decode cX9_lookAtRound 213 = .ok (.goto (-29), 3) := by decide +kernel
theorem dX9_lookAtRound_216 : decode cX9_lookAtRound 216 = .ok (.aload_n 0, 1) := by decide +kernel
theorem dX9_lookAtRound_217 : decode cX9_lookAtRound 217 = .ok (.iload_n 1, 1) := by decide +kernel
theorem dX9_lookAtRound_218 : decode cX9_lookAtRound 218 = .ok (.putfield 206, 3) := by decide +kernel
theorem dX9_lookAtRound_221 : decode cX9_lookAtRound 221 = .ok (.aload_n 0, 1) := by decide +kernel
theorem dX9_lookAtRound_222 : decode cX9_lookAtRound 222 = .ok (.iload 5, 2) := by decide +kernel
theorem dX9_lookAtRound_224 : decode cX9_lookAtRound 224 = .ok (.ifCond .eq 7, 3) := by decide +kernel
theorem dX9_lookAtRound_227 : decode cX9_lookAtRound 227 = .ok (.iload_n 2, 1) := by decide +kernel
theorem dX9_lookAtRound_228 : decode cX9_lookAtRound 228 = .ok (.goto 7, 3) := by decide +kernel
theorem dX9_lookAtRound_231 : decode cX9_lookAtRound 231 = .ok (.aload_n 0, 1) := by decide +kernel
theorem dX9_lookAtRound_232 : decode cX9_lookAtRound 232 = .ok (.getfield 209, 3) := by decide +kernel
theorem dX9_lookAtRound_235 : decode cX9_lookAtRound 235 = .ok (.putfield 209, 3) := by decide +kernel
theorem dX9_lookAtRound_238 : decode cX9_lookAtRound 238 = .ok (.aload_n 0, 1) := by decide +kernel
theorem dX9_lookAtRound_239 : decode cX9_lookAtRound 239 = .ok (.iload 5, 2) := by decide +kernel
theorem dX9_lookAtRound_241 : decode cX9_lookAtRound 241 = .ok (.ifCond .eq 7, 3) := by decide +kernel
theorem dX9_lookAtRound_244 : decode cX9_lookAtRound 244 = .ok (.iload_n 3, 1) := by decide +kernel
theorem dX9_lookAtRound_245 : decode cX9_lookAtRound 245 = .ok (.goto 7, 3) := by decide +kernel
theorem dX9_lookAtRound_248 : decode cX9_lookAtRound 248 = .ok (.aload_n 0, 1) := by decide +kernel
theorem dX9_lookAtRound_249 : decode cX9_lookAtRound 249 = .ok (.getfield 212, 3) := by decide +kernel
theorem dX9_lookAtRound_252 : decode cX9_lookAtRound 252 = .ok (.putfield 212, 3) := by decide +kernel
theorem dX9_lookAtRound_255 : decode cX9_lookAtRound 255 = .ok (.aload_n 0, 1) := by decide +kernel
theorem dX9_lookAtRound_256 : decode cX9_lookAtRound 256 = .ok (.iload 5, 2) := by decide +kernel
theorem dX9_lookAtRound_258 : decode cX9_lookAtRound 258 = .ok (.ifCond .eq 8, 3) := by decide +kernel
theorem dX9_lookAtRound_261 : decode cX9_lookAtRound 261 = .ok (.iload 4, 2) := by decide +kernel
theorem dX9_lookAtRound_263 : decode cX9_lookAtRound 263 = .ok (.goto 7, 3) := by decide +kernel
theorem dX9_lookAtRound_266 : decode cX9_lookAtRound 266 = .ok (.aload_n 0, 1) := by decide +kernel
theorem dX9_lookAtRound_267 : decode cX9_lookAtRound 267 = .ok (.getfield 215, 3) := by decide +kernel
theorem dX9_lookAtRound_270 : decode cX9_lookAtRound 270 = .ok (.putfield 215, 3) := by decide +kernel
theorem dX9_lookAtRound_273 : decode cX9_lookAtRound 273 = .ok (.return_, 1) := by decide +kernel
set_option maxRecDepth 20000 in
theorem ggX9_findRound_X9_thereMany : GoodIn wsX9_findRound wsX9_thereMany := goodIn_r _ [10, 5, 28, 29, 30, 31, 32, 33, 34, 35, 36, 37, 38, 39, 40, 41, 42, 43, 44, 45, 46, 47, 48, 49, 50, 51, 52, 53, 54, 55, 56, 57, 58, 59, 60, 61, 62, 63, 64, 65] (by decide +kernel) (by decide +kernel)
set_option maxRecDepth 20000 in
theorem gX9_findRound_X9_thereMany : GoodIn wsX9_findRound (wsV RX9 203 RX9 yX9_thereMany wsX9_thereMany) := goodIn_app (goodIn_of _ (by decide +kernel)) ggX9_findRound_X9_thereMany
set_option maxRecDepth 20000 in
theorem ggX9_findRound_X9_lookAtRound : GoodIn wsX9_findRound wsX9_lookAtRound := goodIn_r _ [14, 4, 15, 16, 17, 2, 18, 19, 20, 21, 22, 23, 9, 24, 28, 29, 30, 31, 32, 33, 34, 35, 36, 37, 38, 39, 40, 41, 42, 43, 44, 45, 46, 47, 48, 49, 50, 51, 52, 53, 54, 55, 56, 57, 58, 59, 60, 61, 62, 63, 64, 65] (by decide +kernel) (by decide +kernel)
set_option maxRecDepth 20000 in
theorem gX9_findRound_X9_lookAtRound : GoodIn wsX9_findRound (wsV RX9 218 RX9 yX9_lookAtRound wsX9_lookAtRound) := goodIn_app (goodIn_of _ (by decide +kernel)) ggX9_findRound_X9_lookAtRound
set_option maxRecDepth 20000 in
theorem ggX9_findRound_X9_in : GoodIn wsX9_findRound wsX9_in := goodIn_r _ [27] (by decide +kernel) (by decide +kernel)
set_option maxRecDepth 20000 in
theorem gX9_findRound_X9_in : GoodIn wsX9_findRound (va_wsS RX9 97 yX9_in wsX9_in) := goodIn_app (goodIn_of _ (by decide +kernel)) ggX9_findRound_X9_in
theorem dX9_findRound_0 : decode cX9_findRound 0 = .ok (.aload_n 0, 1) := by decide +kernel
theorem dX9_findRound_1 : decode cX9_findRound 1 = .ok (.invokevirtual 203, 3) := by decide +kernel
theorem dX9_findRound_4 : decode cX9_findRound 4 = .ok (.iconst 2, 1) := by decide +kernel
theorem dX9_findRound_5 : decode cX9_findRound 5 = .ok (.idiv, 1) := by decide +kernel
theorem dX9_findRound_6 : decode cX9_findRound 6 = .ok (.istore_n 1, 1) := by decide +kernel
theorem dX9_findRound_7 : decode cX9_findRound 7 = .ok (.iload_n 1, 1) := by decide +kernel
theorem dX9_findRound_8 : decode cX9_findRound 8 = .ok (.aload_n 0, 1) := by decide +kernel
theorem dX9_findRound_9 : decode cX9_findRound 9 = .ok (.getfield 73, 3) := by decide +kernel
theorem dX9_findRound_12 : decode cX9_findRound 12 = .ok (.if_icmp .ge 7, 3) := by decide +kernel
theorem dX9_findRound_15 : decode cX9_findRound 15 = .ok (.iload_n 1, 1) := by decide +kernel
theorem dX9_findRound_16 : decode cX9_findRound 16 = .ok (.goto 7, 3) := by decide +kernel
theorem dX9_findRound_19 : decode cX9_findRound 19 = .ok (.aload_n 0, 1) := by decide +kernel
theorem dX9_findRound_20 : decode cX9_findRound 20 = .ok (.getfield 73, 3) := by decide +kernel
theorem dX9_findRound_23 : decode cX9_findRound 23 = .ok (.istore_n 1, 1) := by decide +kernel
theorem dX9_findRound_24 : decode cX9_findRound 24 = .ok (.aload_n 0, 1) := by decide +kernel
theorem dX9_findRound_25 : decode cX9_findRound 25 = .ok (.iconst (-1), 1) := by decide +kernel
theorem dX9_findRound_26 : decode cX9_findRound 26 = .ok (.putfield 206, 3) := by decide +kernel
theorem dX9_findRound_29 : decode cX9_findRound 29 = .ok (.iconst 0, 1) := by decide +kernel
theorem dX9_findRound_30 : decode cX9_findRound 30 = .ok (.istore_n 2, 1) := by decide +kernel
theorem dX9_findRound_31 : decode cX9_findRound 31 = .ok (.iconst 0, 1) := by decide +kernel
theorem dX9_findRound_32 : decode cX9_findRound 32 = .ok (.istore_n 3, 1) := by decide +kernel
theorem dX9_findRound_33 : decode cX9_findRound 33 = .ok (.iconst 0, 1) := by decide +kernel
theorem dX9_findRound_34 : decode cX9_findRound 34 = .ok (.istore 4, 2) := by decide +kernel
theorem dX9_findRound_36 : decode cX9_findRound 36 = .ok (.iload 4, 2) := by decide +kernel
theorem dX9_findRound_38 : decode cX9_findRound 38 = .ok (.bipush 8, 2) := by decide +kernel
theorem dX9_findRound_40 : decode cX9_findRound 40 = .ok (.if_icmp .ge 25, 3) := by decide +kernel
theorem dX9_findRound_43 : decode cX9_findRound 43 = .ok (.aload_n 0, 1) := by decide +kernel
theorem dX9_findRound_44 : decode cX9_findRound 44 = .ok (.getfield 88, 3) := by decide +kernel
theorem dX9_findRound_47 : decode cX9_findRound 47 = .ok (.iload 4, 2) := by decide +kernel
theorem dX9_findRound_49 : decode cX9_findRound 49 = .ok (.iconst (-1), 1) := by decide +kernel
theorem dX9_findRound_50 : decode cX9_findRound 50 = .ok (.iastore, 1) := by decide +kernel
theorem dX9_findRound_51 : decode cX9_findRound 51 = .ok (.aload_n 0, 1) := by decide +kernel
theorem dX9_findRound_52 : decode cX9_findRound 52 = .ok (.getfield 91, 3) := by decide +kernel
theorem dX9_findRound_55 : decode cX9_findRound 55 = .ok (.iload 4, 2) := by decide +kernel
theorem dX9_findRound_57 : decode cX9_findRound 57 = .ok (.iconst (-1), 1) := by decide +kernel
theorem dX9_findRound_58 : decode cX9_findRound 58 = .ok (.iastore, 1) := by decide +kernel
theorem dX9_findRound_59 : decode cX9_findRound 59 = .ok (.iinc 4 1, 3) := by decide +kernel
theorem dX9_findRound_62 : decode cX9_findRound 62 = .ok (.goto (-26), 3) := by decide +kernel
theorem dX9_findRound_65 : decode cX9_findRound 65 = .ok (.iload_n 3, 1) := by decide +kernel
theorem dX9_findRound_66 : decode cX9_findRound 66 = .ok (.ifCond .lt 254, 3) := by decide +kernel
theorem dX9_findRound_69 : decode cX9_findRound 69 = .ok (.iload_n 3, 1) := by decide +kernel
theorem dX9_findRound_70 : decode cX9_findRound 70 = .ok (.bipush 8, 2) := by decide +kernel
theorem dX9_findRound_72 : decode cX9_findRound 72 = .ok (.if_icmp .ne 7, 3) := by decide +kernel
theorem dX9_findRound_75 : decode cX9_findRound 75 = .ok (.iconst 1, 1) := by decide +kernel
theorem dX9_findRound_76 : decode cX9_findRound 76 = .ok (.goto 4, 3) := by decide +kernel
theorem dX9_findRound_79 : decode cX9_findRound 79 = .ok (.iconst 0, 1) := by decide +kernel
theorem dX9_findRound_80 : decode cX9_findRound 80 = .ok (.istore 4, 2) := by decide +kernel
theorem dX9_findRound_82 : decode cX9_findRound 82 = .ok (.iload 4, 2) := by decide +kernel
theorem dX9_findRound_84 : decode cX9_findRound 84 = .ok (.ifCond .eq 16, 3) := by decide +kernel
theorem dX9_findRound_87 : decode cX9_findRound 87 = .ok (.iload_n 2, 1) := by decide +kernel
theorem dX9_findRound_88 : decode cX9_findRound 88 = .ok (.iload_n 1, 1) := by decide +kernel
theorem dX9_findRound_89 : decode cX9_findRound 89 = .ok (.if_icmp .ne 215, 3) := by decide +kernel
theorem dX9_findRound_92 : decode cX9_findRound 92 = .ok (.aload_n 0, 1) := by decide +kernel
theorem dX9_findRound_93 : decode cX9_findRound 93 = .ok (.iload_n 2, 1) := by decide +kernel
theorem dX9_findRound_94 : decode cX9_findRound 94 = .ok (.invokevirtual 218, 3) := by decide +kernel
theorem dX9_findRound_97 : decode cX9_findRound 97 = .ok (.goto 207, 3) := by decide +kernel
theorem dX9_findRound_100 : decode cX9_findRound 100 = .ok (.aload_n 0, 1) := by decide +kernel
theorem dX9_findRound_101 : decode cX9_findRound 101 = .ok (.getfield 88, 3) := by decide +kernel
theorem dX9_findRound_104 : decode cX9_findRound 104 = .ok (.iload_n 3, 1) := by decide +kernel
theorem dX9_findRound_105 : decode cX9_findRound 105 = .ok (.iaload, 1) := by decide +kernel
theorem dX9_findRound_106 : decode cX9_findRound 106 = .ok (.istore 5, 2) := by decide +kernel
theorem dX9_findRound_108 : decode cX9_findRound 108 = .ok (.iload 5, 2) := by decide +kernel
theorem dX9_findRound_110 : decode cX9_findRound 110 = .ok (.iconst (-1), 1) := by decide +kernel
theorem dX9_findRound_111 : decode cX9_findRound 111 = .ok (.if_icmp .ne 20, 3) := by decide +kernel
theorem dX9_findRound_114 : decode cX9_findRound 114 = .ok (.aload_n 0, 1) := by decide +kernel
theorem dX9_findRound_115 : decode cX9_findRound 115 = .ok (.getfield 91, 3) := by decide +kernel
theorem dX9_findRound_118 : decode cX9_findRound 118 = .ok (.iload_n 3, 1) := by decide +kernel
theorem dX9_findRound_119 : decode cX9_findRound 119 = .ok (.iaload, 1) := by decide +kernel
theorem dX9_findRound_120 : decode cX9_findRound 120 = .ok (.iconst (-1), 1) := by decide +kernel
theorem dX9_findRound_121 : decode cX9_findRound 121 = .ok (.if_icmp .eq 10, 3) := by decide +kernel
theorem dX9_findRound_124 : decode cX9_findRound 124 = .ok (.bipush 9, 2) := by decide +kernel
theorem dX9_findRound_126 : decode cX9_findRound 126 = .ok (.istore 6, 2) := by decide +kernel
theorem dX9_findRound_128 : decode cX9_findRound 128 = .ok (.goto 98, 3) := by decide +kernel
theorem dX9_findRound_131 : decode cX9_findRound 131 = .ok (.iload 5, 2) := by decide +kernel
theorem dX9_findRound_133 : decode cX9_findRound 133 = .ok (.iconst 0, 1) := by decide +kernel
theorem dX9_findRound_134 : decode cX9_findRound 134 = .ok (.bipush 7, 2) := by decide +kernel
theorem dX9_findRound_136 : decode cX9_findRound 136 = .ok (.invokestatic 97, 3) := by decide +kernel
theorem dX9_findRound_139 : decode cX9_findRound 139 = .ok (.ifCond .eq 21, 3) := by decide +kernel
theorem dX9_findRound_142 : decode cX9_findRound 142 = .ok (.aload_n 0, 1) := by decide +kernel
theorem dX9_findRound_143 : decode cX9_findRound 143 = .ok (.getfield 91, 3) := by decide +kernel
theorem dX9_findRound_146 : decode cX9_findRound 146 = .ok (.iload_n 3, 1) := by decide +kernel
theorem dX9_findRound_147 : decode cX9_findRound 147 = .ok (.iconst (-1), 1) := by decide +kernel
theorem dX9_findRound_148 : decode cX9_findRound 148 = .ok (.iastore, 1) := by decide +kernel
theorem dX9_findRound_149 : decode cX9_findRound 149 = .ok (.aload_n 0, 1) := by decide +kernel
theorem dX9_findRound_150 : decode cX9_findRound 150 = .ok (.getfield 91, 3) := by decide +kernel
theorem dX9_findRound_153 : decode cX9_findRound 153 = .ok (.iload 5, 2) := by decide +kernel
theorem dX9_findRound_155 : decode cX9_findRound 155 = .ok (.iconst (-1), 1) := by decide +kernel
theorem dX9_findRound_156 : decode cX9_findRound 156 = .ok (.iastore, 1) := by decide +kernel
theorem dX9_findRound_157 : decode cX9_findRound 157 = .ok (.iinc 2 (-1), 3) := by decide +kernel
theorem dX9_findRound_160 : decode cX9_findRound 160 = .ok (.iload 5, 2) := by decide +kernel
theorem dX9_findRound_162 : decode cX9_findRound 162 = .ok (.iconst (-1), 1) := by decide +kernel
theorem dX9_findRound_163 : decode cX9_findRound 163 = .ok (.if_icmp .ne 9, 3) := by decide +kernel
theorem dX9_findRound_166 : decode cX9_findRound 166 = .ok (.iload_n 3, 1) := by decide +kernel
theorem dX9_findRound_167 : decode cX9_findRound 167 = .ok (.iconst 1, 1) := by decide +kernel
theorem dX9_findRound_168 : decode cX9_findRound 168 = .ok (.iadd, 1) := by decide +kernel
theorem dX9_findRound_169 : decode cX9_findRound 169 = .ok (.goto 7, 3) := by decide +kernel
theorem dX9_findRound_172 : decode cX9_findRound 172 = .ok (.iload 5, 2) := by decide +kernel
theorem dX9_findRound_174 : decode cX9_findRound 174 = .ok (.iconst 1, 1) := by decide +kernel
theorem dX9_findRound_175 : decode cX9_findRound 175 = .ok (.iadd, 1) := by decide +kernel
theorem dX9_findRound_176 : decode cX9_findRound 176 = .ok (.istore 6, 2) := by decide +kernel
theorem dX9_findRound_178 : decode cX9_findRound 178 = .ok (.iload 6, 2) := by decide +kernel
theorem dX9_findRound_180 : decode cX9_findRound 180 = .ok (.bipush 8, 2) := by decide +kernel
theorem dX9_findRound_182 : decode cX9_findRound 182 = .ok (.if_icmp .ge 44, 3) := by decide +kernel
theorem dX9_findRound_185 : decode cX9_findRound 185 = .ok (.aload_n 0, 1) := by decide +kernel
theorem dX9_findRound_186 : decode cX9_findRound 186 = .ok (.getfield 76, 3) := by decide +kernel
theorem dX9_findRound_189 : decode cX9_findRound 189 = .ok (.iload_n 3, 1) := by decide +kernel
theorem dX9_findRound_190 : decode cX9_findRound 190 = .ok (.baload, 1) := by decide +kernel
theorem dX9_findRound_191 : decode cX9_findRound 191 = .ok (.ifCond .eq 29, 3) := by decide +kernel
theorem dX9_findRound_194 : decode cX9_findRound 194 = .ok (.aload_n 0, 1) := by decide +kernel
theorem dX9_findRound_195 : decode cX9_findRound 195 = .ok (.getfield 76, 3) := by decide +kernel
theorem dX9_findRound_198 : decode cX9_findRound 198 = .ok (.iload 6, 2) := by decide +kernel
theorem dX9_findRound_200 : decode cX9_findRound 200 = .ok (.baload, 1) := by decide +kernel
theorem dX9_findRound_201 : decode cX9_findRound 201 = .ok (.ifCond .eq 19, 3) := by decide +kernel
theorem dX9_findRound_204 : decode cX9_findRound 204 = .ok (.aload_n 0, 1) := by decide +kernel
theorem dX9_findRound_205 : decode cX9_findRound 205 = .ok (.getfield 91, 3) := by decide +kernel
theorem dX9_findRound_208 : decode cX9_findRound 208 = .ok (.iload 6, 2) := by decide +kernel
theorem dX9_findRound_210 : decode cX9_findRound 210 = .ok (.iaload, 1) := by decide +kernel
theorem dX9_findRound_211 : decode cX9_findRound 211 = .ok (.iconst (-1), 1) := by decide +kernel
theorem dX9_findRound_212 : decode cX9_findRound 212 = .ok (.if_icmp .ne 8, 3) := by decide +kernel
theorem dX9_findRound_215 : decode cX9_findRound 215 = .ok (.iload_n 2, 1) := by decide +kernel
theorem dX9_findRound_216 : decode cX9_findRound 216 = .ok (.iload_n 1, 1) := by decide +kernel
theorem dX9_findRound_217 : decode cX9_findRound 217 = .ok (.if_icmp .ne 9, 3) := by decide +kernel
theorem dX9_findRound_220 : decode cX9_findRound 220 = .ok (.iinc 6 1, 3) := by decide +kernel
theorem dX9_findRound_223 : decode cX9_findRound 223 = .ok (.goto (-45), 3) := by decide +kernel
theorem dX9_findRound_226 : decode cX9_findRound 226 = .ok (.iload 5, 2) := by decide +kernel
theorem dX9_findRound_228 : decode cX9_findRound 228 = .ok (.bipush 9, 2) := by decide +kernel
theorem dX9_findRound_230 : decode cX9_findRound 230 = .ok (.if_icmp .eq 16, 3) := by decide +kernel
theorem dX9_findRound_233 : decode cX9_findRound 233 = .ok (.iload 6, 2) := by decide +kernel
theorem dX9_findRound_235 : decode cX9_findRound 235 = .ok (.bipush 8, 2) := by decide +kernel
theorem dX9_findRound_237 : decode cX9_findRound 237 = .ok (.if_icmp .le 13, 3) := by decide +kernel
theorem dX9_findRound_240 : decode cX9_findRound 240 = .ok (.iload 5, 2) := by decide +kernel
theorem dX9_findRound_242 : decode cX9_findRound 242 = .ok (.iconst (-1), 1) := by decide +kernel
theorem dX9_findRound_243 : decode cX9_findRound 243 = .ok (.if_icmp .eq 7, 3) := by decide +kernel
theorem dX9_findRound_246 : decode cX9_findRound 246 = .ok (.iconst 1, 1) := by decide +kernel
theorem dX9_findRound_247 : decode cX9_findRound 247 = .ok (.goto 4, 3) := by decide +kernel
theorem dX9_findRound_250 : decode cX9_findRound 250 = .ok (.iconst 0, 1) := by decide +kernel
theorem dX9_findRound_251 : decode cX9_findRound 251 = .ok (.istore 4, 2) := by decide +kernel
theorem dX9_findRound_253 : decode cX9_findRound 253 = .ok (.aload_n 0, 1) := by decide +kernel
theorem dX9_findRound_254 : decode cX9_findRound 254 = .ok (.getfield 88, 3) := by decide +kernel
theorem dX9_findRound_257 : decode cX9_findRound 257 = .ok (.iload_n 3, 1) := by decide +kernel
theorem dX9_findRound_258 : decode cX9_findRound 258 = .ok (.iload 4, 2) := by decide +kernel
theorem dX9_findRound_260 : decode cX9_findRound 260 = .ok (.ifCond .eq 7, 3) := by decide +kernel
theorem dX9_findRound_263 : decode cX9_findRound 263 = .ok (.iconst (-1), 1) := by decide +kernel
theorem dX9_findRound_264 : decode cX9_findRound 264 = .ok (.goto 5, 3) := by decide +kernel
theorem dX9_findRound_267 : decode cX9_findRound 267 = .ok (.iload 6, 2) := by decide +kernel
theorem dX9_findRound_269 : decode cX9_findRound 269 = .ok (.iastore, 1) := by decide +kernel
theorem dX9_findRound_270 : decode cX9_findRound 270 = .ok (.iload 4, 2) := by decide +kernel
theorem dX9_findRound_272 : decode cX9_findRound 272 = .ok (.ifCond .ne 32, 3) := by decide +kernel
theorem dX9_findRound_275 : decode cX9_findRound 275 = .ok (.iload 6, 2) := by decide +kernel
theorem dX9_findRound_277 : decode cX9_findRound 277 = .ok (.bipush 8, 2) := by decide +kernel
theorem dX9_findRound_279 : decode cX9_findRound 279 = .ok (.if_icmp .ge 22, 3) := by decide +kernel
theorem dX9_findRound_282 : decode cX9_findRound 282 = .ok (.aload_n 0, 1) := by decide +kernel
theorem dX9_findRound_283 : decode cX9_findRound 283 = .ok (.getfield 91, 3) := by decide +kernel
theorem dX9_findRound_286 : decode cX9_findRound 286 = .ok (.iload_n 3, 1) := by decide +kernel
theorem dX9_findRound_287 : decode cX9_findRound 287 = .ok (.iload 6, 2) := by decide +kernel
theorem dX9_findRound_289 : decode cX9_findRound 289 = .ok (.iastore, 1) := by decide +kernel
theorem dX9_findRound_290 : decode cX9_findRound 290 = .ok (.aload_n 0, 1) := by decide +kernel
theorem dX9_findRound_291 : decode cX9_findRound 291 = .ok (.getfield 91, 3) := by decide +kernel
theorem dX9_findRound_294 : decode cX9_findRound 294 = .ok (.iload 6, 2) := by decide +kernel
theorem dX9_findRound_296 : decode cX9_findRound 296 = .ok (.iload_n 3, 1) := by decide +kernel
theorem dX9_findRound_297 : decode cX9_findRound 297 = .ok (.iastore, 1) := by decide +kernel
theorem dX9_findRound_298 : decode cX9_findRound 298 = .ok (.iinc 2 1, 3) := by decide +kernel
theorem dX9_findRound_301 : decode cX9_findRound 301 = .ok (.iinc 3 1, 3) := by decide +kernel
theorem dX9_findRound_304 : decode cX9_findRound 304 = .ok (.iload_n 3, 1) := by decide +kernel
theorem dX9_findRound_305 : decode cX9_findRound 305 = .ok (.iload 4, 2) := by decide +kernel
theorem dX9_findRound_307 : decode cX9_findRound 307 = .ok (.ifCond .eq 7, 3) := by decide +kernel
theorem dX9_findRound_310 : decode cX9_findRound 310 = .ok (.iconst 1, 1) := by decide +kernel
theorem dX9_findRound_311 : decode cX9_findRound 311 = .ok (.goto 4, 3) := by decide +kernel
theorem dX9_findRound_314 : decode cX9_findRound 314 = .ok (.iconst 0, 1) := by decide +kernel
theorem dX9_findRound_315 : decode cX9_findRound 315 = .ok (.isub, 1) := by decide +kernel
theorem dX9_findRound_316 : decode cX9_findRound 316 = .ok (.istore_n 3, 1) := by decide +kernel
theorem dX9_findRound_317 : decode cX9_findRound 317 = .ok (.goto (-252), 3) := by decide +kernel
theorem dX9_findRound_320 : decode cX9_findRound 320 = .ok (.return_, 1) := by decide +kernel
set_option maxRecDepth 20000 in
theorem ggX9_against_X9_isPlayer : GoodIn wsX9_against wsX9_isPlayer := goodIn_r _ [5, 6, 7, 4, 8] (by decide +kernel) (by decide +kernel)
set_option maxRecDepth 20000 in
theorem gX9_against_X9_isPlayer : GoodIn wsX9_against (va_wsS RX9 125 yX9_isPlayer wsX9_isPlayer) := goodIn_app (goodIn_of _ (by decide +kernel)) ggX9_against_X9_isPlayer
set_option maxRecDepth 20000 in
theorem ggX9_against_X9_findRound : GoodIn wsX9_against wsX9_findRound := goodIn_r _ [12, 13, 14, 15, 16, 17, 18, 19, 20, 4, 21, 22, 23, 24, 25, 26, 27, 28, 29, 30, 31, 1, 32, 33, 34, 6, 7, 8, 35, 36, 37, 38, 39, 40, 41, 42, 43, 44, 45, 46, 47, 48, 49, 50, 51, 52, 53, 54, 55, 56, 57, 58, 59, 60, 61, 62, 63, 64, 65, 66, 67, 68, 69, 70, 71, 72] (by decide +kernel) (by decide +kernel)
set_option maxRecDepth 20000 in
theorem gX9_against_X9_findRound : GoodIn wsX9_against (wsV RX9 222 RX9 yX9_findRound wsX9_findRound) := goodIn_app (goodIn_of _ (by decide +kernel)) ggX9_against_X9_findRound
theorem dX9_against_0 : decode cX9_against 0 = .ok (.iload_n 1, 1) := by decide +kernel
theorem dX9_against_1 : decode cX9_against 1 = .ok (.invokestatic 125, 3) := by decide +kernel
theorem dX9_against_4 : decode cX9_against 4 = .ok (.ifCond .ne 6, 3) := by decide +kernel
theorem dX9_against_7 : decode cX9_against 7 = .ok (.bipush (-2), 2) := by decide +kernel
theorem dX9_against_9 : decode cX9_against 9 = .ok (.ireturn, 1) := by decide +kernel
theorem dX9_against_10 : decode cX9_against 10 = .ok (.aload_n 0, 1) := by decide +kernel
theorem dX9_against_11 : decode cX9_against 11 = .ok (.invokevirtual 222, 3) := by decide +kernel
theorem dX9_against_14 : decode cX9_against 14 = .ok (.aload_n 0, 1) := by decide +kernel
theorem dX9_against_15 : decode cX9_against 15 = .ok (.getfield 94, 3) := by decide +kernel
theorem dX9_against_18 : decode cX9_against 18 = .ok (.iload_n 1, 1) := by decide +kernel
theorem dX9_against_19 : decode cX9_against 19 = .ok (.iaload, 1) := by decide +kernel
theorem dX9_against_20 : decode cX9_against 20 = .ok (.ireturn, 1) := by decide +kernel
set_option maxRecDepth 20000 in
theorem ggX9_round_X9_in : GoodIn wsX9_round wsX9_in := goodIn_r _ [8] (by decide +kernel) (by decide +kernel)
set_option maxRecDepth 20000 in
theorem gX9_round_X9_in : GoodIn wsX9_round (va_wsS RX9 97 yX9_in wsX9_in) := goodIn_app (goodIn_of _ (by decide +kernel)) ggX9_round_X9_in
set_option maxRecDepth 20000 in
theorem ggX9_round_X9_findRound : GoodIn wsX9_round wsX9_findRound := goodIn_r _ [12, 13, 1, 14, 15, 16, 17, 18, 19, 7, 20, 21, 22, 23, 24, 25, 26, 27, 2, 3, 4, 28, 29, 30, 31, 5, 6, 8, 32, 33, 34, 35, 36, 37, 38, 39, 40, 41, 42, 43, 44, 45, 46, 47, 48, 49, 50, 51, 52, 53, 54, 55, 56, 57, 58, 59, 60, 61, 62, 63, 64, 65, 66, 67, 68, 69] (by decide +kernel) (by decide +kernel)
set_option maxRecDepth 20000 in
theorem gX9_round_X9_findRound : GoodIn wsX9_round (wsV RX9 222 RX9 yX9_findRound wsX9_findRound) := goodIn_app (goodIn_of _ (by decide +kernel)) ggX9_round_X9_findRound
theorem dX9_round_0 : decode cX9_round 0 = .ok (.iload_n 1, 1) := by decide +kernel
theorem dX9_round_1 : decode cX9_round 1 = .ok (.iconst 0, 1) := by decide +kernel
theorem dX9_round_2 : decode cX9_round 2 = .ok (.iconst 3, 1) := by decide +kernel
theorem dX9_round_3 : decode cX9_round 3 = .ok (.invokestatic 97, 3) := by decide +kernel
theorem dX9_round_6 : decode cX9_round 6 = .ok (.ifCond .ne 6, 3) := by decide +kernel
theorem dX9_round_9 : decode cX9_round 9 = .ok (.bipush (-3), 2) := by decide +kernel
theorem dX9_round_11 : decode cX9_round 11 = .ok (.ireturn, 1) := by decide +kernel
theorem dX9_round_12 : decode cX9_round 12 = .ok (.aload_n 0, 1) := by decide +kernel
theorem dX9_round_13 : decode cX9_round 13 = .ok (.invokevirtual 222, 3) := by decide +kernel
theorem dX9_round_16 : decode cX9_round 16 = .ok (.iload_n 1, 1) := by decide +kernel
theorem dX9_round_17 : decode cX9_round 17 = .ok (.ifCond .ne 10, 3) := by decide +kernel
theorem dX9_round_20 : decode cX9_round 20 = .ok (.aload_n 0, 1) := by decide +kernel
theorem dX9_round_21 : decode cX9_round 21 = .ok (.getfield 206, 3) := by decide +kernel
theorem dX9_round_24 : decode cX9_round 24 = .ok (.goto 31, 3) := by decide +kernel
theorem dX9_round_27 : decode cX9_round 27 = .ok (.iload_n 1, 1) := by decide +kernel
theorem dX9_round_28 : decode cX9_round 28 = .ok (.iconst 1, 1) := by decide +kernel
theorem dX9_round_29 : decode cX9_round 29 = .ok (.if_icmp .ne 10, 3) := by decide +kernel
theorem dX9_round_32 : decode cX9_round 32 = .ok (.aload_n 0, 1) := by decide +kernel
theorem dX9_round_33 : decode cX9_round 33 = .ok (.getfield 209, 3) := by decide +kernel
theorem dX9_round_36 : decode cX9_round 36 = .ok (.goto 19, 3) := by decide +kernel
theorem dX9_round_39 : decode cX9_round 39 = .ok (.iload_n 1, 1) := by decide +kernel
theorem dX9_round_40 : decode cX9_round 40 = .ok (.iconst 2, 1) := by decide +kernel
theorem dX9_round_41 : decode cX9_round 41 = .ok (.if_icmp .ne 10, 3) := by decide +kernel
theorem dX9_round_44 : decode cX9_round 44 = .ok (.aload_n 0, 1) := by decide +kernel
theorem dX9_round_45 : decode cX9_round 45 = .ok (.getfield 212, 3) := by decide +kernel
theorem dX9_round_48 : decode cX9_round 48 = .ok (.goto 7, 3) := by decide +kernel
theorem dX9_round_51 : decode cX9_round 51 = .ok (.aload_n 0, 1) := by decide +kernel
theorem dX9_round_52 : decode cX9_round 52 = .ok (.getfield 215, 3) := by decide +kernel
theorem dX9_round_55 : decode cX9_round 55 = .ok (.ireturn, 1) := by decide +kernel
set_option maxRecDepth 20000 in
theorem ggX9_played_X9_findRound : GoodIn wsX9_played wsX9_findRound := goodIn_r _ [11, 12, 6, 13, 14, 1, 15, 16, 17, 10, 18, 19, 20, 21, 22, 2, 4, 23, 24, 25, 26, 3, 27, 28, 29, 30, 31, 32, 33, 34, 35, 36, 37, 38, 39, 40, 41, 42, 43, 44, 45, 46, 47, 48, 49, 50, 51, 52, 53, 54, 55, 56, 57, 58, 59, 60, 61, 62, 63, 64, 65, 66, 67, 68, 69, 70] (by decide +kernel) (by decide +kernel)
set_option maxRecDepth 20000 in
theorem gX9_played_X9_findRound : GoodIn wsX9_played (wsV RX9 222 RX9 yX9_findRound wsX9_findRound) := goodIn_app (goodIn_of _ (by decide +kernel)) ggX9_played_X9_findRound
theorem dX9_played_0 : decode cX9_played 0 = .ok (.aload_n 0, 1) := by decide +kernel
theorem dX9_played_1 : decode cX9_played 1 = .ok (.invokevirtual 222, 3) := by decide +kernel
theorem dX9_played_4 : decode cX9_played 4 = .ok (.iconst 0, 1) := by decide +kernel
theorem dX9_played_5 : decode cX9_played 5 = .ok (.istore_n 1, 1) := by decide +kernel
theorem dX9_played_6 : decode cX9_played 6 = .ok (.iload_n 1, 1) := by decide +kernel
theorem dX9_played_7 : decode cX9_played 7 = .ok (.bipush 8, 2) := by decide +kernel
theorem dX9_played_9 : decode cX9_played 9 = .ok (.if_icmp .ge 76, 3) := by decide +kernel
theorem dX9_played_12 : decode cX9_played 12 = .ok (.aload_n 0, 1) := by decide +kernel
theorem dX9_played_13 : decode cX9_played 13 = .ok (.getfield 76, 3) := by decide +kernel
theorem dX9_played_16 : decode cX9_played 16 = .ok (.iload_n 1, 1) := by decide +kernel
theorem dX9_played_17 : decode cX9_played 17 = .ok (.baload, 1) := by decide +kernel
theorem dX9_played_18 : decode cX9_played 18 = .ok (.ifCond .eq 61, 3) := by decide +kernel
theorem dX9_played_21 : decode cX9_played 21 = .ok (.aload_n 0, 1) := by decide +kernel
theorem dX9_played_22 : decode cX9_played 22 = .ok (.getfield 82, 3) := by decide +kernel
theorem dX9_played_25 : decode cX9_played 25 = .ok (.iload_n 1, 1) := by decide +kernel
theorem dX9_played_26 : decode cX9_played 26 = .ok (.aload_n 0, 1) := by decide +kernel
theorem dX9_played_27 : decode cX9_played 27 = .ok (.getfield 94, 3) := by decide +kernel
theorem dX9_played_30 : decode cX9_played 30 = .ok (.iload_n 1, 1) := by decide +kernel
theorem dX9_played_31 : decode cX9_played 31 = .ok (.iaload, 1) := by decide +kernel
theorem dX9_played_32 : decode cX9_played 32 = .ok (.iconst (-1), 1) := by decide +kernel
theorem dX9_played_33 : decode cX9_played 33 = .ok (.if_icmp .ne 14, 3) := by decide +kernel
theorem dX9_played_36 : decode cX9_played 36 = .ok (.aload_n 0, 1) := by decide +kernel
theorem dX9_played_37 : decode cX9_played 37 = .ok (.getfield 82, 3) := by decide +kernel
theorem dX9_played_40 : decode cX9_played 40 = .ok (.iload_n 1, 1) := by decide +kernel
theorem dX9_played_41 : decode cX9_played 41 = .ok (.iaload, 1) := by decide +kernel
theorem dX9_played_42 : decode cX9_played 42 = .ok (.iconst 1, 1) := by decide +kernel
theorem dX9_played_43 : decode cX9_played 43 = .ok (.iadd, 1) := by decide +kernel
theorem dX9_played_44 : decode cX9_played 44 = .ok (.goto 4, 3) := by decide +kernel
theorem dX9_played_47 : decode cX9_played 47 = .ok (.iconst 0, 1) := by decide +kernel
theorem dX9_played_48 : decode cX9_played 48 = .ok (.iastore, 1) := by decide +kernel
theorem dX9_played_49 : decode cX9_played 49 = .ok (.aload_n 0, 1) := by decide +kernel
theorem dX9_played_50 : decode cX9_played 50 = .ok (.getfield 94, 3) := by decide +kernel
theorem dX9_played_53 : decode cX9_played 53 = .ok (.iload_n 1, 1) := by decide +kernel
theorem dX9_played_54 : decode cX9_played 54 = .ok (.iaload, 1) := by decide +kernel
theorem dX9_played_55 : decode cX9_played 55 = .ok (.iconst (-1), 1) := by decide +kernel
theorem dX9_played_56 : decode cX9_played 56 = .ok (.if_icmp .eq 23, 3) := by decide +kernel
theorem dX9_played_59 : decode cX9_played 59 = .ok (.aload_n 0, 1) := by decide +kernel
theorem dX9_played_60 : decode cX9_played 60 = .ok (.getfield 85, 3) := by decide +kernel
theorem dX9_played_63 : decode cX9_played 63 = .ok (.bipush 8, 2) := by decide +kernel
theorem dX9_played_65 : decode cX9_played 65 = .ok (.iload_n 1, 1) := by decide +kernel
theorem dX9_played_66 : decode cX9_played 66 = .ok (.imul, 1) := by decide +kernel
theorem dX9_played_67 : decode cX9_played 67 = .ok (.aload_n 0, 1) := by decide +kernel
theorem dX9_played_68 : decode cX9_played 68 = .ok (.getfield 94, 3) := by decide +kernel
theorem dX9_played_71 : decode cX9_played 71 = .ok (.iload_n 1, 1) := by decide +kernel
theorem dX9_played_72 : decode cX9_played 72 = .ok (.iaload, 1) := by decide +kernel
theorem dX9_played_73 : decode cX9_played 73 = .ok (.iadd, 1) := by decide +kernel
theorem dX9_played_74 : decode cX9_played 74 = .ok (.dup2, 1) := by decide +kernel
theorem dX9_played_75 : decode cX9_played 75 = .ok (.iaload, 1) := by decide +kernel
theorem dX9_played_76 : decode cX9_played 76 = .ok (.iconst 1, 1) := by decide +kernel
theorem dX9_played_77 : decode cX9_played 77 = .ok (.iadd, 1) := by decide +kernel
theorem dX9_played_78 : decode cX9_played 78 = .ok (.iastore, 1) := by decide +kernel
theorem dX9_played_79 : decode cX9_played 79 = .ok (.iinc 1 1, 3) := by decide +kernel
theorem dX9_played_82 : decode cX9_played 82 = .ok (.goto (-76), 3) := by decide +kernel
theorem dX9_played_85 : decode cX9_played 85 = .ok (.aload_n 0, 1) := by decide +kernel
theorem dX9_played_86 : decode cX9_played 86 = .ok (.dup, 1) := by decide +kernel
theorem dX9_played_87 : decode cX9_played 87 = .ok (.getfield 225, 3) := by decide +kernel
theorem dX9_played_90 : decode cX9_played 90 = .ok (.iconst 1, 1) := by decide +kernel
theorem dX9_played_91 : decode cX9_played 91 = .ok (.iadd, 1) := by decide +kernel
theorem dX9_played_92 : decode cX9_played 92 = .ok (.putfield 225, 3) := by decide +kernel
theorem dX9_played_95 : decode cX9_played 95 = .ok (.aload_n 0, 1) := by decide +kernel
theorem dX9_played_96 : decode cX9_played 96 = .ok (.getfield 206, 3) := by decide +kernel
theorem dX9_played_99 : decode cX9_played 99 = .ok (.ireturn, 1) := by decide +kernel
set_option maxRecDepth 20000 in
theorem ggX9_had_X9_isPlayer : GoodIn wsX9_had wsX9_isPlayer := goodIn_r _ [5, 6, 7, 4, 8] (by decide +kernel) (by decide +kernel)
set_option maxRecDepth 20000 in
theorem gX9_had_X9_isPlayer : GoodIn wsX9_had (va_wsS RX9 125 yX9_isPlayer wsX9_isPlayer) := goodIn_app (goodIn_of _ (by decide +kernel)) ggX9_had_X9_isPlayer
theorem dX9_had_0 : decode cX9_had 0 = .ok (.iload_n 1, 1) := by decide +kernel
theorem dX9_had_1 : decode cX9_had 1 = .ok (.invokestatic 125, 3) := by decide +kernel
theorem dX9_had_4 : decode cX9_had 4 = .ok (.ifCond .eq 29, 3) := by decide +kernel
theorem dX9_had_7 : decode cX9_had 7 = .ok (.iload_n 2, 1) := by decide +kernel
theorem dX9_had_8 : decode cX9_had 8 = .ok (.invokestatic 125, 3) := by decide +kernel
theorem dX9_had_11 : decode cX9_had 11 = .ok (.ifCond .eq 22, 3) := by decide +kernel
theorem dX9_had_14 : decode cX9_had 14 = .ok (.iload_n 1, 1) := by decide +kernel
theorem dX9_had_15 : decode cX9_had 15 = .ok (.iload_n 2, 1) := by decide +kernel
theorem dX9_had_16 : decode cX9_had 16 = .ok (.if_icmp .eq 17, 3) := by decide +kernel
theorem dX9_had_19 : decode cX9_had 19 = .ok (.aload_n 0, 1) := by decide +kernel
theorem dX9_had_20 : decode cX9_had 20 = .ok (.getfield 85, 3) := by decide +kernel
theorem dX9_had_23 : decode cX9_had 23 = .ok (.bipush 8, 2) := by decide +kernel
theorem dX9_had_25 : decode cX9_had 25 = .ok (.iload_n 1, 1) := by decide +kernel
theorem dX9_had_26 : decode cX9_had 26 = .ok (.imul, 1) := by decide +kernel
theorem dX9_had_27 : decode cX9_had 27 = .ok (.iload_n 2, 1) := by decide +kernel
theorem dX9_had_28 : decode cX9_had 28 = .ok (.iadd, 1) := by decide +kernel
theorem dX9_had_29 : decode cX9_had 29 = .ok (.iaload, 1) := by decide +kernel
theorem dX9_had_30 : decode cX9_had 30 = .ok (.goto 5, 3) := by decide +kernel
theorem dX9_had_33 : decode cX9_had 33 = .ok (.bipush (-2), 2) := by decide +kernel
theorem dX9_had_35 : decode cX9_had 35 = .ok (.ireturn, 1) := by decide +kernel
set_option maxRecDepth 20000 in
theorem ggX9_of_X9_isPlayer : GoodIn wsX9_of wsX9_isPlayer := goodIn_r _ [9, 10, 11, 8, 12] (by decide +kernel) (by decide +kernel)
set_option maxRecDepth 20000 in
theorem gX9_of_X9_isPlayer : GoodIn wsX9_of (va_wsS RX9 125 yX9_isPlayer wsX9_isPlayer) := goodIn_app (goodIn_of _ (by decide +kernel)) ggX9_of_X9_isPlayer
set_option maxRecDepth 20000 in
theorem ggX9_of_X9_stride : GoodIn wsX9_of wsX9_stride := goodIn_r _ [16, 17, 1, 18, 19, 20, 21, 22, 23, 24, 25, 26, 27, 28, 29, 30, 31, 32, 33, 34, 35, 36, 37, 38, 39, 40, 41, 42, 43, 44, 45, 46, 47, 48, 49, 50, 51, 52, 53, 54, 55] (by decide +kernel) (by decide +kernel)
set_option maxRecDepth 20000 in
theorem gX9_of_X9_stride : GoodIn wsX9_of (wsV RX9 132 RX9 yX9_stride wsX9_stride) := goodIn_app (goodIn_of _ (by decide +kernel)) ggX9_of_X9_stride
theorem dX9_of_0 : decode cX9_of 0 = .ok (.iload_n 1, 1) := by decide +kernel
theorem dX9_of_1 : decode cX9_of 1 = .ok (.invokestatic 125, 3) := by decide +kernel
theorem dX9_of_4 : decode cX9_of 4 = .ok (.ifCond .ne 6, 3) := by decide +kernel
theorem dX9_of_7 : decode cX9_of 7 = .ok (.bipush (-2), 2) := by decide +kernel
theorem dX9_of_9 : decode cX9_of 9 = .ok (.ireturn, 1) := by decide +kernel
theorem dX9_of_10 : decode cX9_of 10 = .ok (.iconst 0, 1) := by decide +kernel
theorem dX9_of_11 : decode cX9_of 11 = .ok (.istore_n 3, 1) := by decide +kernel
theorem dX9_of_12 : decode cX9_of 12 = .ok (.iload_n 2, 1) := by decide +kernel
theorem dX9_of_13 : decode cX9_of 13 = .ok (.tableswitch 121 0 4 #[35, 41, 48, 68, 88], 35) := by decide +kernel
theorem dX9_of_48 : decode cX9_of 48 = .ok (.aload_n 0, 1) := by decide +kernel
theorem dX9_of_49 : decode cX9_of 49 = .ok (.iload_n 1, 1) := by decide +kernel
theorem dX9_of_50 : decode cX9_of 50 = .ok (.invokevirtual 132, 3) := by decide +kernel
theorem dX9_of_53 : decode cX9_of 53 = .ok (.ireturn, 1) := by decide +kernel
theorem dX9_of_54 : decode cX9_of 54 = .ok (.aload_n 0, 1) := by decide +kernel
theorem dX9_of_55 : decode cX9_of 55 = .ok (.getfield 25, 3) := by decide +kernel
theorem dX9_of_58 : decode cX9_of 58 = .ok (.iload_n 1, 1) := by decide +kernel
theorem dX9_of_59 : decode cX9_of 59 = .ok (.iaload, 1) := by decide +kernel
theorem dX9_of_60 : decode cX9_of 60 = .ok (.ireturn, 1) := by decide +kernel
theorem dX9_of_61 : decode cX9_of 61 = .ok (.aload_n 0, 1) := by decide +kernel
theorem dX9_of_62 : decode cX9_of 62 = .ok (.getfield 76, 3) := by decide +kernel
theorem dX9_of_65 : decode cX9_of 65 = .ok (.iload_n 1, 1) := by decide +kernel
theorem dX9_of_66 : decode cX9_of 66 = .ok (.baload, 1) := by decide +kernel
theorem dX9_of_67 : decode cX9_of 67 = .ok (.ifCond .eq 12, 3) := by decide +kernel
theorem dX9_of_70 : decode cX9_of 70 = .ok (.aload_n 0, 1) := by decide +kernel
theorem dX9_of_71 : decode cX9_of 71 = .ok (.getfield 82, 3) := by decide +kernel
theorem dX9_of_74 : decode cX9_of 74 = .ok (.iload_n 1, 1) := by decide +kernel
theorem dX9_of_75 : decode cX9_of 75 = .ok (.iaload, 1) := by decide +kernel
theorem dX9_of_76 : decode cX9_of 76 = .ok (.goto 4, 3) := by decide +kernel
theorem dX9_of_79 : decode cX9_of 79 = .ok (.iconst (-1), 1) := by decide +kernel
theorem dX9_of_80 : decode cX9_of 80 = .ok (.ireturn, 1) := by decide +kernel
theorem dX9_of_81 : decode cX9_of 81 = .ok (.aload_n 0, 1) := by decide +kernel
theorem dX9_of_82 : decode cX9_of 82 = .ok (.getfield 76, 3) := by decide +kernel
theorem dX9_of_85 : decode cX9_of 85 = .ok (.iload_n 1, 1) := by decide +kernel
theorem dX9_of_86 : decode cX9_of 86 = .ok (.baload, 1) := by decide +kernel
theorem dX9_of_87 : decode cX9_of 87 = .ok (.ifCond .eq 12, 3) := by decide +kernel
theorem dX9_of_90 : decode cX9_of 90 = .ok (.aload_n 0, 1) := by decide +kernel
theorem dX9_of_91 : decode cX9_of 91 = .ok (.getfield 79, 3) := by decide +kernel
theorem dX9_of_94 : decode cX9_of 94 = .ok (.iload_n 1, 1) := by decide +kernel
theorem dX9_of_95 : decode cX9_of 95 = .ok (.iaload, 1) := by decide +kernel
theorem dX9_of_96 : decode cX9_of 96 = .ok (.goto 4, 3) := by decide +kernel
theorem dX9_of_99 : decode cX9_of 99 = .ok (.iconst (-1), 1) := by decide +kernel
theorem dX9_of_100 : decode cX9_of 100 = .ok (.ireturn, 1) := by decide +kernel
theorem dX9_of_101 : decode cX9_of 101 = .ok (.iconst 0, 1) := by decide +kernel
theorem dX9_of_102 : decode cX9_of 102 = .ok (.istore 4, 2) := by decide +kernel
theorem dX9_of_104 : decode cX9_of 104 = .ok (.iload 4, 2) := by decide +kernel
theorem dX9_of_106 : decode cX9_of 106 = .ok (.bipush 8, 2) := by decide +kernel
theorem dX9_of_108 : decode cX9_of 108 = .ok (.if_icmp .ge 24, 3) := by decide +kernel
theorem dX9_of_111 : decode cX9_of 111 = .ok (.iload_n 3, 1) := by decide +kernel
theorem dX9_of_112 : decode cX9_of 112 = .ok (.aload_n 0, 1) := by decide +kernel
theorem dX9_of_113 : decode cX9_of 113 = .ok (.getfield 85, 3) := by decide +kernel
theorem dX9_of_116 : decode cX9_of 116 = .ok (.bipush 8, 2) := by decide +kernel
theorem dX9_of_118 : decode cX9_of 118 = .ok (.iload_n 1, 1) := by decide +kernel
theorem dX9_of_119 : decode cX9_of 119 = .ok (.imul, 1) := by decide +kernel
theorem dX9_of_120 : decode cX9_of 120 = .ok (.iload 4, 2) := by decide +kernel
theorem dX9_of_122 : decode cX9_of 122 = .ok (.iadd, 1) := by decide +kernel
theorem dX9_of_123 : decode cX9_of 123 = .ok (.iaload, 1) := by decide +kernel
theorem dX9_of_124 : decode cX9_of 124 = .ok (.iadd, 1) := by decide +kernel
theorem dX9_of_125 : decode cX9_of 125 = .ok (.istore_n 3, 1) := by decide +kernel
theorem dX9_of_126 : decode cX9_of 126 = .ok (.iinc 4 1, 3) := by decide +kernel
theorem dX9_of_129 : decode cX9_of 129 = .ok (.goto (-25), 3) := by decide +kernel
theorem dX9_of_132 : decode cX9_of 132 = .ok (.iload_n 3, 1) := by decide +kernel
theorem dX9_of_133 : decode cX9_of 133 = .ok (.ireturn, 1) := by decide +kernel
theorem dX9_of_134 : decode cX9_of 134 = .ok (.bipush (-3), 2) := by decide +kernel
theorem dX9_of_136 : decode cX9_of 136 = .ok (.ireturn, 1) := by decide +kernel
set_option maxRecDepth 20000 in
theorem ggX9_count_X9_triedMany : GoodIn wsX9_count wsX9_triedMany := goodIn_r _ [8, 9, 10, 11, 7, 12, 13, 14, 15, 16, 1, 17, 18, 24, 25, 26, 27, 28, 29, 30, 31, 32, 33, 34, 35, 36, 37, 38, 39, 40, 41, 42, 43, 44, 45, 46, 47, 48, 49, 50, 51, 52, 53, 54, 55, 56, 57, 58, 59, 60, 61] (by decide +kernel) (by decide +kernel)
set_option maxRecDepth 20000 in
theorem gX9_count_X9_triedMany : GoodIn wsX9_count (wsV RX9 191 RX9 yX9_triedMany wsX9_triedMany) := goodIn_app (goodIn_of _ (by decide +kernel)) ggX9_count_X9_triedMany
set_option maxRecDepth 20000 in
theorem ggX9_count_X9_thereMany : GoodIn wsX9_count wsX9_thereMany := goodIn_r _ [22, 23, 24, 25, 26, 27, 28, 29, 30, 31, 32, 33, 34, 35, 36, 37, 38, 39, 40, 41, 42, 43, 44, 45, 46, 47, 48, 49, 50, 51, 52, 53, 54, 55, 56, 57, 58, 59, 60, 61] (by decide +kernel) (by decide +kernel)
set_option maxRecDepth 20000 in
theorem gX9_count_X9_thereMany : GoodIn wsX9_count (wsV RX9 203 RX9 yX9_thereMany wsX9_thereMany) := goodIn_app (goodIn_of _ (by decide +kernel)) ggX9_count_X9_thereMany
theorem dX9_count_0 : decode cX9_count 0 = .ok (.iload_n 1, 1) := by decide +kernel
theorem dX9_count_1 : decode cX9_count 1 = .ok (.ifCond .ne 10, 3) := by decide +kernel
theorem dX9_count_4 : decode cX9_count 4 = .ok (.aload_n 0, 1) := by decide +kernel
theorem dX9_count_5 : decode cX9_count 5 = .ok (.getfield 176, 3) := by decide +kernel
theorem dX9_count_8 : decode cX9_count 8 = .ok (.goto 53, 3) := by decide +kernel
theorem dX9_count_11 : decode cX9_count 11 = .ok (.iload_n 1, 1) := by decide +kernel
theorem dX9_count_12 : decode cX9_count 12 = .ok (.iconst 1, 1) := by decide +kernel
theorem dX9_count_13 : decode cX9_count 13 = .ok (.if_icmp .ne 10, 3) := by decide +kernel
theorem dX9_count_16 : decode cX9_count 16 = .ok (.aload_n 0, 1) := by decide +kernel
theorem dX9_count_17 : decode cX9_count 17 = .ok (.invokevirtual 191, 3) := by decide +kernel
theorem dX9_count_20 : decode cX9_count 20 = .ok (.goto 41, 3) := by decide +kernel
theorem dX9_count_23 : decode cX9_count 23 = .ok (.iload_n 1, 1) := by decide +kernel
theorem dX9_count_24 : decode cX9_count 24 = .ok (.iconst 2, 1) := by decide +kernel
theorem dX9_count_25 : decode cX9_count 25 = .ok (.if_icmp .ne 10, 3) := by decide +kernel
theorem dX9_count_28 : decode cX9_count 28 = .ok (.aload_n 0, 1) := by decide +kernel
theorem dX9_count_29 : decode cX9_count 29 = .ok (.invokevirtual 203, 3) := by decide +kernel
theorem dX9_count_32 : decode cX9_count 32 = .ok (.goto 29, 3) := by decide +kernel
theorem dX9_count_35 : decode cX9_count 35 = .ok (.iload_n 1, 1) := by decide +kernel
theorem dX9_count_36 : decode cX9_count 36 = .ok (.iconst 3, 1) := by decide +kernel
theorem dX9_count_37 : decode cX9_count 37 = .ok (.if_icmp .ne 10, 3) := by decide +kernel
theorem dX9_count_40 : decode cX9_count 40 = .ok (.aload_n 0, 1) := by decide +kernel
theorem dX9_count_41 : decode cX9_count 41 = .ok (.getfield 225, 3) := by decide +kernel
theorem dX9_count_44 : decode cX9_count 44 = .ok (.goto 17, 3) := by decide +kernel
theorem dX9_count_47 : decode cX9_count 47 = .ok (.iload_n 1, 1) := by decide +kernel
theorem dX9_count_48 : decode cX9_count 48 = .ok (.iconst 4, 1) := by decide +kernel
theorem dX9_count_49 : decode cX9_count 49 = .ok (.if_icmp .ne 10, 3) := by decide +kernel
theorem dX9_count_52 : decode cX9_count 52 = .ok (.aload_n 0, 1) := by decide +kernel
theorem dX9_count_53 : decode cX9_count 53 = .ok (.getfield 197, 3) := by decide +kernel
theorem dX9_count_56 : decode cX9_count 56 = .ok (.goto 5, 3) := by decide +kernel
theorem dX9_count_59 : decode cX9_count 59 = .ok (.bipush (-3), 2) := by decide +kernel
theorem dX9_count_61 : decode cX9_count 61 = .ok (.ireturn, 1) := by decide +kernel
