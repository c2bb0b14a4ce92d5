theorem dd_W_0 : decode code 0 = .ok (.new 8, 3) := by decide +kernel
theorem dd_W_3 : decode code 3 = .ok (.dup, 1) := by decide +kernel
theorem dd_W_4 : decode code 4 = .ok (.invokespecial 37, 3) := by decide +kernel
theorem dd_W_7 : decode code 7 = .ok (.astore_n 1, 1) := by decide +kernel
theorem dd_W_8 : decode code 8 = .ok (.new 38, 3) := by decide +kernel
theorem dd_W_11 : decode code 11 = .ok (.dup, 1) := by decide +kernel
theorem dd_W_12 : decode code 12 = .ok (.invokespecial 40, 3) := by decide +kernel
theorem dd_W_15 : decode code 15 = .ok (.astore_n 2, 1) := by decide +kernel
theorem dd_W_16 : decode code 16 = .ok (.iconst 1, 1) := by decide +kernel
theorem dd_W_17 : decode code 17 = .ok (.newarray .long, 2) := by decide +kernel
theorem dd_W_19 : decode code 19 = .ok (.astore_n 3, 1) := by decide +kernel
theorem dd_W_20 : decode code 20 = .ok (.iconst 0, 1) := by decide +kernel
theorem dd_W_21 : decode code 21 = .ok (.istore 4, 2) := by decide +kernel
theorem dd_W_23 : decode code 23 = .ok (.iload 4, 2) := by decide +kernel
theorem dd_W_25 : decode code 25 = .ok (.aload_n 0, 1) := by decide +kernel
theorem dd_W_26 : decode code 26 = .ok (.arraylength, 1) := by decide +kernel
theorem dd_W_27 : decode code 27 = .ok (.iconst 4, 1) := by decide +kernel
theorem dd_W_28 : decode code 28 = .ok (.isub, 1) := by decide +kernel
theorem dd_W_29 : decode code 29 = .ok (.if_icmp .gt 618, 3) := by decide +kernel
theorem dd_W_32 : decode code 32 = .ok (.aload_n 0, 1) := by decide +kernel
theorem dd_W_33 : decode code 33 = .ok (.iload 4, 2) := by decide +kernel
theorem dd_W_35 : decode code 35 = .ok (.iaload, 1) := by decide +kernel
theorem dd_W_36 : decode code 36 = .ok (.bipush 15, 2) := by decide +kernel
theorem dd_W_38 : decode code 38 = .ok (.iand, 1) := by decide +kernel
theorem dd_W_39 : decode code 39 = .ok (.tableswitch 602 0 9 #[53, 122, 166, 179, 228, 277, 333, 358, 438, 506], 53) := by decide +kernel
theorem dd_W_92 : decode code 92 = .ok (.aload_n 1, 1) := by decide +kernel
theorem dd_W_93 : decode code 93 = .ok (.aload_n 0, 1) := by decide +kernel
theorem dd_W_94 : decode code 94 = .ok (.iload 4, 2) := by decide +kernel
theorem dd_W_96 : decode code 96 = .ok (.iconst 1, 1) := by decide +kernel
theorem dd_W_97 : decode code 97 = .ok (.iadd, 1) := by decide +kernel
theorem dd_W_98 : decode code 98 = .ok (.iaload, 1) := by decide +kernel
theorem dd_W_99 : decode code 99 = .ok (.i2l, 1) := by decide +kernel
theorem dd_W_100 : decode code 100 = .ok (.bipush 32, 2) := by decide +kernel
theorem dd_W_102 : decode code 102 = .ok (.lshl, 1) := by decide +kernel
theorem dd_W_103 : decode code 103 = .ok (.aload_n 0, 1) := by decide +kernel
theorem dd_W_104 : decode code 104 = .ok (.iload 4, 2) := by decide +kernel
theorem dd_W_106 : decode code 106 = .ok (.iconst 2, 1) := by decide +kernel
theorem dd_W_107 : decode code 107 = .ok (.iadd, 1) := by decide +kernel
theorem dd_W_108 : decode code 108 = .ok (.iaload, 1) := by decide +kernel
theorem dd_W_109 : decode code 109 = .ok (.i2l, 1) := by decide +kernel
theorem dd_W_110 : decode code 110 = .ok (.ldc2_w 41, 3) := by decide +kernel
theorem dd_W_113 : decode code 113 = .ok (.land, 1) := by decide +kernel
theorem dd_W_114 : decode code 114 = .ok (.lor, 1) := by decide +kernel
theorem dd_W_115 : decode code 115 = .ok (.aload_n 0, 1) := by decide +kernel
theorem dd_W_116 : decode code 116 = .ok (.iload 4, 2) := by decide +kernel
theorem dd_W_118 : decode code 118 = .ok (.iconst 3, 1) := by decide +kernel
theorem dd_W_119 : decode code 119 = .ok (.iadd, 1) := by decide +kernel
theorem dd_W_120 : decode code 120 = .ok (.iaload, 1) := by decide +kernel
theorem dd_W_121 : decode code 121 = .ok (.invokevirtual 43, 3) := by decide +kernel
theorem dd_W_124 : decode code 124 = .ok (.aload_n 2, 1) := by decide +kernel
theorem dd_W_125 : decode code 125 = .ok (.aload_n 0, 1) := by decide +kernel
theorem dd_W_126 : decode code 126 = .ok (.iload 4, 2) := by decide +kernel
theorem dd_W_128 : decode code 128 = .ok (.iconst 1, 1) := by decide +kernel
theorem dd_W_129 : decode code 129 = .ok (.iadd, 1) := by decide +kernel
theorem dd_W_130 : decode code 130 = .ok (.iaload, 1) := by decide +kernel
theorem dd_W_131 : decode code 131 = .ok (.i2l, 1) := by decide +kernel
theorem dd_W_132 : decode code 132 = .ok (.bipush 32, 2) := by decide +kernel
theorem dd_W_134 : decode code 134 = .ok (.lshl, 1) := by decide +kernel
theorem dd_W_135 : decode code 135 = .ok (.aload_n 0, 1) := by decide +kernel
theorem dd_W_136 : decode code 136 = .ok (.iload 4, 2) := by decide +kernel
theorem dd_W_138 : decode code 138 = .ok (.iconst 2, 1) := by decide +kernel
theorem dd_W_139 : decode code 139 = .ok (.iadd, 1) := by decide +kernel
theorem dd_W_140 : decode code 140 = .ok (.iaload, 1) := by decide +kernel
theorem dd_W_141 : decode code 141 = .ok (.i2l, 1) := by decide +kernel
theorem dd_W_142 : decode code 142 = .ok (.ldc2_w 41, 3) := by decide +kernel
theorem dd_W_145 : decode code 145 = .ok (.land, 1) := by decide +kernel
theorem dd_W_146 : decode code 146 = .ok (.lor, 1) := by decide +kernel
theorem dd_W_147 : decode code 147 = .ok (.aload_n 0, 1) := by decide +kernel
theorem dd_W_148 : decode code 148 = .ok (.iload 4, 2) := by decide +kernel
theorem dd_W_150 : decode code 150 = .ok (.iconst 3, 1) := by decide +kernel
theorem dd_W_151 : decode code 151 = .ok (.iadd, 1) := by decide +kernel
theorem dd_W_152 : decode code 152 = .ok (.iaload, 1) := by decide +kernel
theorem dd_W_153 : decode code 153 = .ok (.invokevirtual 47, 3) := by decide +kernel
theorem dd_W_156 : decode code 156 = .ok (.if_icmp .eq 485, 3) := by decide +kernel
theorem dd_W_159 : decode code 159 = .ok (.iconst 0, 1) := by decide +kernel
theorem dd_W_160 : decode code 160 = .ok (.ireturn, 1) := by decide +kernel
theorem dd_W_161 : decode code 161 = .ok (.aload_n 1, 1) := by decide +kernel
theorem dd_W_162 : decode code 162 = .ok (.aload_n 3, 1) := by decide +kernel
theorem dd_W_163 : decode code 163 = .ok (.invokestatic 48, 3) := by decide +kernel
theorem dd_W_166 : decode code 166 = .ok (.istore 5, 2) := by decide +kernel
theorem dd_W_168 : decode code 168 = .ok (.aload_n 2, 1) := by decide +kernel
theorem dd_W_169 : decode code 169 = .ok (.invokevirtual 53, 3) := by decide +kernel
theorem dd_W_172 : decode code 172 = .ok (.istore 6, 2) := by decide +kernel
theorem dd_W_174 : decode code 174 = .ok (.aload_n 2, 1) := by decide +kernel
theorem dd_W_175 : decode code 175 = .ok (.invokevirtual 54, 3) := by decide +kernel
theorem dd_W_178 : decode code 178 = .ok (.iload 5, 2) := by decide +kernel
theorem dd_W_180 : decode code 180 = .ok (.if_icmp .eq 5, 3) := by decide +kernel
theorem dd_W_183 : decode code 183 = .ok (.iconst 0, 1) := by decide +kernel
theorem dd_W_184 : decode code 184 = .ok (.ireturn, 1) := by decide +kernel
theorem dd_W_185 : decode code 185 = .ok (.iload 5, 2) := by decide +kernel
theorem dd_W_187 : decode code 187 = .ok (.ifCond .ne 15, 3) := by decide +kernel
theorem dd_W_190 : decode code 190 = .ok (.aload_n 3, 1) := by decide +kernel
theorem dd_W_191 : decode code 191 = .ok (.iconst 0, 1) := by decide +kernel
theorem dd_W_192 : decode code 192 = .ok (.laload, 1) := by decide +kernel
theorem dd_W_193 : decode code 193 = .ok (.iload 6, 2) := by decide +kernel
theorem dd_W_195 : decode code 195 = .ok (.i2l, 1) := by decide +kernel
theorem dd_W_196 : decode code 196 = .ok (.lcmp, 1) := by decide +kernel
theorem dd_W_197 : decode code 197 = .ok (.ifCond .eq 5, 3) := by decide +kernel
theorem dd_W_200 : decode code 200 = .ok (.iconst 0, 1) := by decide +kernel
theorem dd_W_201 : decode code 201 = .ok (.ireturn, 1) := by decide +kernel
theorem dd_W_202 : decode code 202 = .ok (.goto 439, 3) := by decide +kernel
theorem dd_W_205 : decode code 205 = .ok (.aload_n 1, 1) := by decide +kernel
theorem dd_W_206 : decode code 206 = .ok (.invokevirtual 57, 3) := by decide +kernel
theorem dd_W_209 : decode code 209 = .ok (.aload_n 2, 1) := by decide +kernel
theorem dd_W_210 : decode code 210 = .ok (.invokevirtual 60, 3) := by decide +kernel
theorem dd_W_213 : decode code 213 = .ok (.if_icmp .eq 428, 3) := by decide +kernel
theorem dd_W_216 : decode code 216 = .ok (.iconst 0, 1) := by decide +kernel
theorem dd_W_217 : decode code 217 = .ok (.ireturn, 1) := by decide +kernel
theorem dd_W_218 : decode code 218 = .ok (.aload_n 1, 1) := by decide +kernel
theorem dd_W_219 : decode code 219 = .ok (.aload_n 0, 1) := by decide +kernel
theorem dd_W_220 : decode code 220 = .ok (.iload 4, 2) := by decide +kernel
theorem dd_W_222 : decode code 222 = .ok (.iconst 1, 1) := by decide +kernel
theorem dd_W_223 : decode code 223 = .ok (.iadd, 1) := by decide +kernel
theorem dd_W_224 : decode code 224 = .ok (.iaload, 1) := by decide +kernel
theorem dd_W_225 : decode code 225 = .ok (.aload_n 0, 1) := by decide +kernel
theorem dd_W_226 : decode code 226 = .ok (.iload 4, 2) := by decide +kernel
theorem dd_W_228 : decode code 228 = .ok (.iconst 2, 1) := by decide +kernel
theorem dd_W_229 : decode code 229 = .ok (.iadd, 1) := by decide +kernel
theorem dd_W_230 : decode code 230 = .ok (.iaload, 1) := by decide +kernel
theorem dd_W_231 : decode code 231 = .ok (.aload_n 0, 1) := by decide +kernel
theorem dd_W_232 : decode code 232 = .ok (.iload 4, 2) := by decide +kernel
theorem dd_W_234 : decode code 234 = .ok (.iconst 3, 1) := by decide +kernel
theorem dd_W_235 : decode code 235 = .ok (.iadd, 1) := by decide +kernel
theorem dd_W_236 : decode code 236 = .ok (.iaload, 1) := by decide +kernel
theorem dd_W_237 : decode code 237 = .ok (.invokevirtual 61, 3) := by decide +kernel
theorem dd_W_240 : decode code 240 = .ok (.aload_n 2, 1) := by decide +kernel
theorem dd_W_241 : decode code 241 = .ok (.aload_n 0, 1) := by decide +kernel
theorem dd_W_242 : decode code 242 = .ok (.iload 4, 2) := by decide +kernel
theorem dd_W_244 : decode code 244 = .ok (.iconst 1, 1) := by decide +kernel
theorem dd_W_245 : decode code 245 = .ok (.iadd, 1) := by decide +kernel
theorem dd_W_246 : decode code 246 = .ok (.iaload, 1) := by decide +kernel
theorem dd_W_247 : decode code 247 = .ok (.aload_n 0, 1) := by decide +kernel
theorem dd_W_248 : decode code 248 = .ok (.iload 4, 2) := by decide +kernel
theorem dd_W_250 : decode code 250 = .ok (.iconst 2, 1) := by decide +kernel
theorem dd_W_251 : decode code 251 = .ok (.iadd, 1) := by decide +kernel
theorem dd_W_252 : decode code 252 = .ok (.iaload, 1) := by decide +kernel
theorem dd_W_253 : decode code 253 = .ok (.aload_n 0, 1) := by decide +kernel
theorem dd_W_254 : decode code 254 = .ok (.iload 4, 2) := by decide +kernel
theorem dd_W_256 : decode code 256 = .ok (.iconst 3, 1) := by decide +kernel
theorem dd_W_257 : decode code 257 = .ok (.iadd, 1) := by decide +kernel
theorem dd_W_258 : decode code 258 = .ok (.iaload, 1) := by decide +kernel
theorem dd_W_259 : decode code 259 = .ok (.invokevirtual 65, 3) := by decide +kernel
theorem dd_W_262 : decode code 262 = .ok (.if_icmp .eq 379, 3) := by decide +kernel
theorem dd_W_265 : decode code 265 = .ok (.iconst 0, 1) := by decide +kernel
theorem dd_W_266 : decode code 266 = .ok (.ireturn, 1) := by decide +kernel
theorem dd_W_267 : decode code 267 = .ok (.aload_n 1, 1) := by decide +kernel
theorem dd_W_268 : decode code 268 = .ok (.aload_n 0, 1) := by decide +kernel
theorem dd_W_269 : decode code 269 = .ok (.iload 4, 2) := by decide +kernel
theorem dd_W_271 : decode code 271 = .ok (.iconst 1, 1) := by decide +kernel
theorem dd_W_272 : decode code 272 = .ok (.iadd, 1) := by decide +kernel
theorem dd_W_273 : decode code 273 = .ok (.iaload, 1) := by decide +kernel
theorem dd_W_274 : decode code 274 = .ok (.aload_n 0, 1) := by decide +kernel
theorem dd_W_275 : decode code 275 = .ok (.iload 4, 2) := by decide +kernel
theorem dd_W_277 : decode code 277 = .ok (.iconst 2, 1) := by decide +kernel
theorem dd_W_278 : decode code 278 = .ok (.iadd, 1) := by decide +kernel
theorem dd_W_279 : decode code 279 = .ok (.iaload, 1) := by decide +kernel
theorem dd_W_280 : decode code 280 = .ok (.aload_n 0, 1) := by decide +kernel
theorem dd_W_281 : decode code 281 = .ok (.iload 4, 2) := by decide +kernel
theorem dd_W_283 : decode code 283 = .ok (.iconst 3, 1) := by decide +kernel
theorem dd_W_284 : decode code 284 = .ok (.iadd, 1) := by decide +kernel
theorem dd_W_285 : decode code 285 = .ok (.iaload, 1) := by decide +kernel
theorem dd_W_286 : decode code 286 = .ok (.invokevirtual 66, 3) := by decide +kernel
theorem dd_W_289 : decode code 289 = .ok (.aload_n 2, 1) := by decide +kernel
theorem dd_W_290 : decode code 290 = .ok (.aload_n 0, 1) := by decide +kernel
theorem dd_W_291 : decode code 291 = .ok (.iload 4, 2) := by decide +kernel
theorem dd_W_293 : decode code 293 = .ok (.iconst 1, 1) := by decide +kernel
theorem dd_W_294 : decode code 294 = .ok (.iadd, 1) := by decide +kernel
theorem dd_W_295 : decode code 295 = .ok (.iaload, 1) := by decide +kernel
theorem dd_W_296 : decode code 296 = .ok (.aload_n 0, 1) := by decide +kernel
theorem dd_W_297 : decode code 297 = .ok (.iload 4, 2) := by decide +kernel
theorem dd_W_299 : decode code 299 = .ok (.iconst 2, 1) := by decide +kernel
theorem dd_W_300 : decode code 300 = .ok (.iadd, 1) := by decide +kernel
theorem dd_W_301 : decode code 301 = .ok (.iaload, 1) := by decide +kernel
theorem dd_W_302 : decode code 302 = .ok (.aload_n 0, 1) := by decide +kernel
theorem dd_W_303 : decode code 303 = .ok (.iload 4, 2) := by decide +kernel
theorem dd_W_305 : decode code 305 = .ok (.iconst 3, 1) := by decide +kernel
theorem dd_W_306 : decode code 306 = .ok (.iadd, 1) := by decide +kernel
theorem dd_W_307 : decode code 307 = .ok (.iaload, 1) := by decide +kernel
theorem dd_W_308 : decode code 308 = .ok (.invokevirtual 69, 3) := by decide +kernel
theorem dd_W_311 : decode code 311 = .ok (.if_icmp .eq 330, 3) := by decide +kernel
theorem dd_W_314 : decode code 314 = .ok (.iconst 0, 1) := by decide +kernel
theorem dd_W_315 : decode code 315 = .ok (.ireturn, 1) := by decide +kernel
theorem dd_W_316 : decode code 316 = .ok (.aload_n 1, 1) := by decide +kernel
theorem dd_W_317 : decode code 317 = .ok (.aload_n 0, 1) := by decide +kernel
theorem dd_W_318 : decode code 318 = .ok (.iload 4, 2) := by decide +kernel
theorem dd_W_320 : decode code 320 = .ok (.iconst 1, 1) := by decide +kernel
theorem dd_W_321 : decode code 321 = .ok (.iadd, 1) := by decide +kernel
theorem dd_W_322 : decode code 322 = .ok (.iaload, 1) := by decide +kernel
theorem dd_W_323 : decode code 323 = .ok (.aload_n 3, 1) := by decide +kernel
theorem dd_W_324 : decode code 324 = .ok (.invokestatic 70, 3) := by decide +kernel
theorem dd_W_327 : decode code 327 = .ok (.istore 5, 2) := by decide +kernel
theorem dd_W_329 : decode code 329 = .ok (.aload_n 2, 1) := by decide +kernel
theorem dd_W_330 : decode code 330 = .ok (.aload_n 0, 1) := by decide +kernel
theorem dd_W_331 : decode code 331 = .ok (.iload 4, 2) := by decide +kernel
theorem dd_W_333 : decode code 333 = .ok (.iconst 1, 1) := by decide +kernel
theorem dd_W_334 : decode code 334 = .ok (.iadd, 1) := by decide +kernel
theorem dd_W_335 : decode code 335 = .ok (.iaload, 1) := by decide +kernel
theorem dd_W_336 : decode code 336 = .ok (.invokevirtual 73, 3) := by decide +kernel
theorem dd_W_339 : decode code 339 = .ok (.istore 6, 2) := by decide +kernel
theorem dd_W_341 : decode code 341 = .ok (.aload_n 2, 1) := by decide +kernel
theorem dd_W_342 : decode code 342 = .ok (.invokevirtual 54, 3) := by decide +kernel
theorem dd_W_345 : decode code 345 = .ok (.iload 5, 2) := by decide +kernel
theorem dd_W_347 : decode code 347 = .ok (.if_icmp .eq 5, 3) := by decide +kernel
theorem dd_W_350 : decode code 350 = .ok (.iconst 0, 1) := by decide +kernel
theorem dd_W_351 : decode code 351 = .ok (.ireturn, 1) := by decide +kernel
theorem dd_W_352 : decode code 352 = .ok (.iload 5, 2) := by decide +kernel
theorem dd_W_354 : decode code 354 = .ok (.ifCond .ne 15, 3) := by decide +kernel
theorem dd_W_357 : decode code 357 = .ok (.aload_n 3, 1) := by decide +kernel
theorem dd_W_358 : decode code 358 = .ok (.iconst 0, 1) := by decide +kernel
theorem dd_W_359 : decode code 359 = .ok (.laload, 1) := by decide +kernel
theorem dd_W_360 : decode code 360 = .ok (.iload 6, 2) := by decide +kernel
theorem dd_W_362 : decode code 362 = .ok (.i2l, 1) := by decide +kernel
theorem dd_W_363 : decode code 363 = .ok (.lcmp, 1) := by decide +kernel
theorem dd_W_364 : decode code 364 = .ok (.ifCond .eq 5, 3) := by decide +kernel
theorem dd_W_367 : decode code 367 = .ok (.iconst 0, 1) := by decide +kernel
theorem dd_W_368 : decode code 368 = .ok (.ireturn, 1) := by decide +kernel
theorem dd_W_369 : decode code 369 = .ok (.goto 272, 3) := by decide +kernel
theorem dd_W_372 : decode code 372 = .ok (.aload_n 1, 1) := by decide +kernel
theorem dd_W_373 : decode code 373 = .ok (.aload_n 0, 1) := by decide +kernel
theorem dd_W_374 : decode code 374 = .ok (.iload 4, 2) := by decide +kernel
theorem dd_W_376 : decode code 376 = .ok (.iconst 1, 1) := by decide +kernel
theorem dd_W_377 : decode code 377 = .ok (.iadd, 1) := by decide +kernel
theorem dd_W_378 : decode code 378 = .ok (.iaload, 1) := by decide +kernel
theorem dd_W_379 : decode code 379 = .ok (.invokevirtual 74, 3) := by decide +kernel
theorem dd_W_382 : decode code 382 = .ok (.aload_n 2, 1) := by decide +kernel
theorem dd_W_383 : decode code 383 = .ok (.aload_n 0, 1) := by decide +kernel
theorem dd_W_384 : decode code 384 = .ok (.iload 4, 2) := by decide +kernel
theorem dd_W_386 : decode code 386 = .ok (.iconst 1, 1) := by decide +kernel
theorem dd_W_387 : decode code 387 = .ok (.iadd, 1) := by decide +kernel
theorem dd_W_388 : decode code 388 = .ok (.iaload, 1) := by decide +kernel
theorem dd_W_389 : decode code 389 = .ok (.invokevirtual 77, 3) := by decide +kernel
theorem dd_W_392 : decode code 392 = .ok (.if_icmp .eq 249, 3) := by decide +kernel
theorem dd_W_395 : decode code 395 = .ok (.iconst 0, 1) := by decide +kernel
theorem dd_W_396 : decode code 396 = .ok (.ireturn, 1) := by decide +kernel
theorem dd_W_397 : decode code 397 = .ok (.aload_n 1, 1) := by decide +kernel
theorem dd_W_398 : decode code 398 = .ok (.aload_n 0, 1) := by decide +kernel
theorem dd_W_399 : decode code 399 = .ok (.iload 4, 2) := by decide +kernel
theorem dd_W_401 : decode code 401 = .ok (.iconst 1, 1) := by decide +kernel
theorem dd_W_402 : decode code 402 = .ok (.iadd, 1) := by decide +kernel
theorem dd_W_403 : decode code 403 = .ok (.iaload, 1) := by decide +kernel
theorem dd_W_404 : decode code 404 = .ok (.aload_n 0, 1) := by decide +kernel
theorem dd_W_405 : decode code 405 = .ok (.iload 4, 2) := by decide +kernel
theorem dd_W_407 : decode code 407 = .ok (.iconst 2, 1) := by decide +kernel
theorem dd_W_408 : decode code 408 = .ok (.iadd, 1) := by decide +kernel
theorem dd_W_409 : decode code 409 = .ok (.iaload, 1) := by decide +kernel
theorem dd_W_410 : decode code 410 = .ok (.aload_n 0, 1) := by decide +kernel
theorem dd_W_411 : decode code 411 = .ok (.iload 4, 2) := by decide +kernel
theorem dd_W_413 : decode code 413 = .ok (.iconst 3, 1) := by decide +kernel
theorem dd_W_414 : decode code 414 = .ok (.iadd, 1) := by decide +kernel
theorem dd_W_415 : decode code 415 = .ok (.iaload, 1) := by decide +kernel
theorem dd_W_416 : decode code 416 = .ok (.aload_n 3, 1) := by decide +kernel
theorem dd_W_417 : decode code 417 = .ok (.invokestatic 78, 3) := by decide +kernel
theorem dd_W_420 : decode code 420 = .ok (.istore 5, 2) := by decide +kernel
theorem dd_W_422 : decode code 422 = .ok (.aload_n 2, 1) := by decide +kernel
theorem dd_W_423 : decode code 423 = .ok (.aload_n 0, 1) := by decide +kernel
theorem dd_W_424 : decode code 424 = .ok (.iload 4, 2) := by decide +kernel
theorem dd_W_426 : decode code 426 = .ok (.iconst 1, 1) := by decide +kernel
theorem dd_W_427 : decode code 427 = .ok (.iadd, 1) := by decide +kernel
theorem dd_W_428 : decode code 428 = .ok (.iaload, 1) := by decide +kernel
theorem dd_W_429 : decode code 429 = .ok (.aload_n 0, 1) := by decide +kernel
theorem dd_W_430 : decode code 430 = .ok (.iload 4, 2) := by decide +kernel
theorem dd_W_432 : decode code 432 = .ok (.iconst 2, 1) := by decide +kernel
theorem dd_W_433 : decode code 433 = .ok (.iadd, 1) := by decide +kernel
theorem dd_W_434 : decode code 434 = .ok (.iaload, 1) := by decide +kernel
theorem dd_W_435 : decode code 435 = .ok (.aload_n 0, 1) := by decide +kernel
theorem dd_W_436 : decode code 436 = .ok (.iload 4, 2) := by decide +kernel
theorem dd_W_438 : decode code 438 = .ok (.iconst 3, 1) := by decide +kernel
theorem dd_W_439 : decode code 439 = .ok (.iadd, 1) := by decide +kernel
theorem dd_W_440 : decode code 440 = .ok (.iaload, 1) := by decide +kernel
theorem dd_W_441 : decode code 441 = .ok (.invokevirtual 81, 3) := by decide +kernel
theorem dd_W_444 : decode code 444 = .ok (.istore 6, 2) := by decide +kernel
theorem dd_W_446 : decode code 446 = .ok (.aload_n 2, 1) := by decide +kernel
theorem dd_W_447 : decode code 447 = .ok (.invokevirtual 54, 3) := by decide +kernel
theorem dd_W_450 : decode code 450 = .ok (.iload 5, 2) := by decide +kernel
theorem dd_W_452 : decode code 452 = .ok (.if_icmp .eq 5, 3) := by decide +kernel
theorem dd_W_455 : decode code 455 = .ok (.iconst 0, 1) := by decide +kernel
theorem dd_W_456 : decode code 456 = .ok (.ireturn, 1) := by decide +kernel
theorem dd_W_457 : decode code 457 = .ok (.iload 5, 2) := by decide +kernel
theorem dd_W_459 : decode code 459 = .ok (.ifCond .ne 15, 3) := by decide +kernel
theorem dd_W_462 : decode code 462 = .ok (.aload_n 3, 1) := by decide +kernel
theorem dd_W_463 : decode code 463 = .ok (.iconst 0, 1) := by decide +kernel
theorem dd_W_464 : decode code 464 = .ok (.laload, 1) := by decide +kernel
theorem dd_W_465 : decode code 465 = .ok (.iload 6, 2) := by decide +kernel
theorem dd_W_467 : decode code 467 = .ok (.i2l, 1) := by decide +kernel
theorem dd_W_468 : decode code 468 = .ok (.lcmp, 1) := by decide +kernel
theorem dd_W_469 : decode code 469 = .ok (.ifCond .eq 5, 3) := by decide +kernel
theorem dd_W_472 : decode code 472 = .ok (.iconst 0, 1) := by decide +kernel
theorem dd_W_473 : decode code 473 = .ok (.ireturn, 1) := by decide +kernel
theorem dd_W_474 : decode code 474 = .ok (.goto 167, 3) := by decide +kernel
theorem dd_W_477 : decode code 477 = .ok (.aload_n 1, 1) := by decide +kernel
theorem dd_W_478 : decode code 478 = .ok (.aload_n 0, 1) := by decide +kernel
theorem dd_W_479 : decode code 479 = .ok (.iload 4, 2) := by decide +kernel
theorem dd_W_481 : decode code 481 = .ok (.iconst 1, 1) := by decide +kernel
theorem dd_W_482 : decode code 482 = .ok (.iadd, 1) := by decide +kernel
theorem dd_W_483 : decode code 483 = .ok (.iaload, 1) := by decide +kernel
theorem dd_W_484 : decode code 484 = .ok (.aload_n 0, 1) := by decide +kernel
theorem dd_W_485 : decode code 485 = .ok (.iload 4, 2) := by decide +kernel
theorem dd_W_487 : decode code 487 = .ok (.iconst 2, 1) := by decide +kernel
theorem dd_W_488 : decode code 488 = .ok (.iadd, 1) := by decide +kernel
theorem dd_W_489 : decode code 489 = .ok (.iaload, 1) := by decide +kernel
theorem dd_W_490 : decode code 490 = .ok (.aload_n 3, 1) := by decide +kernel
theorem dd_W_491 : decode code 491 = .ok (.invokestatic 82, 3) := by decide +kernel
theorem dd_W_494 : decode code 494 = .ok (.istore 5, 2) := by decide +kernel
theorem dd_W_496 : decode code 496 = .ok (.aload_n 2, 1) := by decide +kernel
theorem dd_W_497 : decode code 497 = .ok (.aload_n 0, 1) := by decide +kernel
theorem dd_W_498 : decode code 498 = .ok (.iload 4, 2) := by decide +kernel
theorem dd_W_500 : decode code 500 = .ok (.iconst 1, 1) := by decide +kernel
theorem dd_W_501 : decode code 501 = .ok (.iadd, 1) := by decide +kernel
theorem dd_W_502 : decode code 502 = .ok (.iaload, 1) := by decide +kernel
theorem dd_W_503 : decode code 503 = .ok (.aload_n 0, 1) := by decide +kernel
theorem dd_W_504 : decode code 504 = .ok (.iload 4, 2) := by decide +kernel
theorem dd_W_506 : decode code 506 = .ok (.iconst 2, 1) := by decide +kernel
theorem dd_W_507 : decode code 507 = .ok (.iadd, 1) := by decide +kernel
theorem dd_W_508 : decode code 508 = .ok (.iaload, 1) := by decide +kernel
theorem dd_W_509 : decode code 509 = .ok (.invokevirtual 85, 3) := by decide +kernel
theorem dd_W_512 : decode code 512 = .ok (.istore 6, 2) := by decide +kernel
theorem dd_W_514 : decode code 514 = .ok (.aload_n 2, 1) := by decide +kernel
theorem dd_W_515 : decode code 515 = .ok (.invokevirtual 54, 3) := by decide +kernel
theorem dd_W_518 : decode code 518 = .ok (.iload 5, 2) := by decide +kernel
theorem dd_W_520 : decode code 520 = .ok (.if_icmp .eq 5, 3) := by decide +kernel
theorem dd_W_523 : decode code 523 = .ok (.iconst 0, 1) := by decide +kernel
theorem dd_W_524 : decode code 524 = .ok (.ireturn, 1) := by decide +kernel
theorem dd_W_525 : decode code 525 = .ok (.iload 5, 2) := by decide +kernel
theorem dd_W_527 : decode code 527 = .ok (.ifCond .ne 15, 3) := by decide +kernel
theorem dd_W_530 : decode code 530 = .ok (.aload_n 3, 1) := by decide +kernel
theorem dd_W_531 : decode code 531 = .ok (.iconst 0, 1) := by decide +kernel
theorem dd_W_532 : decode code 532 = .ok (.laload, 1) := by decide +kernel
theorem dd_W_533 : decode code 533 = .ok (.iload 6, 2) := by decide +kernel
theorem dd_W_535 : decode code 535 = .ok (.i2l, 1) := by decide +kernel
theorem dd_W_536 : decode code 536 = .ok (.lcmp, 1) := by decide +kernel
theorem dd_W_537 : decode code 537 = .ok (.ifCond .eq 5, 3) := by decide +kernel
theorem dd_W_540 : decode code 540 = .ok (.iconst 0, 1) := by decide +kernel
theorem dd_W_541 : decode code 541 = .ok (.ireturn, 1) := by decide +kernel
theorem dd_W_542 : decode code 542 = .ok (.goto 99, 3) := by decide +kernel
theorem dd_W_545 : decode code 545 = .ok (.aload_n 1, 1) := by decide +kernel
theorem dd_W_546 : decode code 546 = .ok (.aload_n 0, 1) := by decide +kernel
theorem dd_W_547 : decode code 547 = .ok (.iload 4, 2) := by decide +kernel
theorem dd_W_549 : decode code 549 = .ok (.iconst 1, 1) := by decide +kernel
theorem dd_W_550 : decode code 550 = .ok (.iadd, 1) := by decide +kernel
theorem dd_W_551 : decode code 551 = .ok (.iaload, 1) := by decide +kernel
theorem dd_W_552 : decode code 552 = .ok (.aload_n 0, 1) := by decide +kernel
theorem dd_W_553 : decode code 553 = .ok (.iload 4, 2) := by decide +kernel
theorem dd_W_555 : decode code 555 = .ok (.iconst 2, 1) := by decide +kernel
theorem dd_W_556 : decode code 556 = .ok (.iadd, 1) := by decide +kernel
theorem dd_W_557 : decode code 557 = .ok (.iaload, 1) := by decide +kernel
theorem dd_W_558 : decode code 558 = .ok (.aload_n 0, 1) := by decide +kernel
theorem dd_W_559 : decode code 559 = .ok (.iload 4, 2) := by decide +kernel
theorem dd_W_561 : decode code 561 = .ok (.iconst 3, 1) := by decide +kernel
theorem dd_W_562 : decode code 562 = .ok (.iadd, 1) := by decide +kernel
theorem dd_W_563 : decode code 563 = .ok (.iaload, 1) := by decide +kernel
theorem dd_W_564 : decode code 564 = .ok (.ifCond .eq 7, 3) := by decide +kernel
theorem dd_W_567 : decode code 567 = .ok (.iconst 1, 1) := by decide +kernel
theorem dd_W_568 : decode code 568 = .ok (.goto 4, 3) := by decide +kernel
theorem dd_W_571 : decode code 571 = .ok (.iconst 0, 1) := by decide +kernel
theorem dd_W_572 : decode code 572 = .ok (.aload_n 3, 1) := by decide +kernel
theorem dd_W_573 : decode code 573 = .ok (.invokestatic 86, 3) := by decide +kernel
theorem dd_W_576 : decode code 576 = .ok (.istore 5, 2) := by decide +kernel
theorem dd_W_578 : decode code 578 = .ok (.aload_n 2, 1) := by decide +kernel
theorem dd_W_579 : decode code 579 = .ok (.aload_n 0, 1) := by decide +kernel
theorem dd_W_580 : decode code 580 = .ok (.iload 4, 2) := by decide +kernel
theorem dd_W_582 : decode code 582 = .ok (.iconst 1, 1) := by decide +kernel
theorem dd_W_583 : decode code 583 = .ok (.iadd, 1) := by decide +kernel
theorem dd_W_584 : decode code 584 = .ok (.iaload, 1) := by decide +kernel
theorem dd_W_585 : decode code 585 = .ok (.aload_n 0, 1) := by decide +kernel
theorem dd_W_586 : decode code 586 = .ok (.iload 4, 2) := by decide +kernel
theorem dd_W_588 : decode code 588 = .ok (.iconst 2, 1) := by decide +kernel
theorem dd_W_589 : decode code 589 = .ok (.iadd, 1) := by decide +kernel
theorem dd_W_590 : decode code 590 = .ok (.iaload, 1) := by decide +kernel
theorem dd_W_591 : decode code 591 = .ok (.aload_n 0, 1) := by decide +kernel
theorem dd_W_592 : decode code 592 = .ok (.iload 4, 2) := by decide +kernel
theorem dd_W_594 : decode code 594 = .ok (.iconst 3, 1) := by decide +kernel
theorem dd_W_595 : decode code 595 = .ok (.iadd, 1) := by decide +kernel
theorem dd_W_596 : decode code 596 = .ok (.iaload, 1) := by decide +kernel
theorem dd_W_597 : decode code 597 = .ok (.ifCond .eq 7, 3) := by decide +kernel
theorem dd_W_600 : decode code 600 = .ok (.iconst 1, 1) := by decide +kernel
theorem dd_W_601 : decode code 601 = .ok (.goto 4, 3) := by decide +kernel
theorem dd_W_604 : decode code 604 = .ok (.iconst 0, 1) := by decide +kernel
theorem dd_W_605 : decode code 605 = .ok (.invokevirtual 89, 3) := by decide +kernel
theorem dd_W_608 : decode code 608 = .ok (.istore 6, 2) := by decide +kernel
theorem dd_W_610 : decode code 610 = .ok (.aload_n 2, 1) := by decide +kernel
theorem dd_W_611 : decode code 611 = .ok (.invokevirtual 54, 3) := by decide +kernel
theorem dd_W_614 : decode code 614 = .ok (.iload 5, 2) := by decide +kernel
theorem dd_W_616 : decode code 616 = .ok (.if_icmp .eq 5, 3) := by decide +kernel
theorem dd_W_619 : decode code 619 = .ok (.iconst 0, 1) := by decide +kernel
theorem dd_W_620 : decode code 620 = .ok (.ireturn, 1) := by decide +kernel
theorem dd_W_621 : decode code 621 = .ok (.iload 5, 2) := by decide +kernel
theorem dd_W_623 : decode code 623 = .ok (.ifCond .ne 15, 3) := by decide +kernel
theorem dd_W_626 : decode code 626 = .ok (.aload_n 3, 1) := by decide +kernel
theorem dd_W_627 : decode code 627 = .ok (.iconst 0, 1) := by decide +kernel
theorem dd_W_628 : decode code 628 = .ok (.laload, 1) := by decide +kernel
theorem dd_W_629 : decode code 629 = .ok (.iload 6, 2) := by decide +kernel
theorem dd_W_631 : decode code 631 = .ok (.i2l, 1) := by decide +kernel
theorem dd_W_632 : decode code 632 = .ok (.lcmp, 1) := by decide +kernel
theorem dd_W_633 : decode code 633 = .ok (.ifCond .eq 5, 3) := by decide +kernel
theorem dd_W_636 : decode code 636 = .ok (.iconst 0, 1) := by decide +kernel
theorem dd_W_637 : decode code 637 = .ok (.ireturn, 1) := by decide +kernel
theorem dd_W_638 : decode code 638 = .ok (.goto 3, 3) := by decide +kernel
theorem dd_W_641 : decode code 641 = .ok (.iinc 4 4, 3) := by decide +kernel
theorem dd_W_644 : decode code 644 = .ok (.goto (-621), 3) := by decide +kernel
theorem dd_W_647 : decode code 647 = .ok (.iconst 1, 1) := by decide +kernel
theorem dd_W_648 : decode code 648 = .ok (.ireturn, 1) := by decide +kernel

/-! the law: words, the state at the loop's head -/
theorem bo_hw {y0 y : MethodName} {c0 bytes : ByteArray} {n0 maxL : Nat} {r0 : Option FieldType} {hh : bo_hh} {args : Array Value} {s : State} (hts : ∀ w ∈ bo_w y0 c0 n0 r0, w.before args s = true) (h5 : Cond.codeWith y bytes maxL (some .int) hh ∈ bo_tb) : ∀ w ∈ bo_wh y bytes maxL (some .int) hh, ∀ (a' : Array Value) (U : State), s.WarmedH U.vm → w.before a' U = true := by
  intro w hw a' U hW
  rcases List.mem_cons.mp hw with rfl | hw
  · exact word_at hW (bo_goodw h5) (hts _ (List.mem_cons_of_mem _ h5))
  · exact word_at hW (bo_goodw hw) (hts _ (List.mem_cons_of_mem _ hw))
section LWS
variable {p : Program} {l : Launch} {e : Env} {R : Room} {s : State} {m : MethodId} {args : Array Value} {below : List Frame} {meth : Method} {c : Code} {H : Heap} {locs : List Loc} {cells slots : Nat} {Q : State → Prop}
variable {cc : ByteArray} {pc : Nat} {ls : Array Slot} {rest : List Value} {A : Nat → Prop} {H0 : Heap}
theorem bo_sld (hexec : p.tables.exec = Jvm.exec) (hb : c.code = cc) {b L : Nat} {xs : Nat → Int32} (hX : va_X b L xs s H0) (hbl : b < H0.size) (hbA : ¬ A b) (hS : va_S A H0 H locs) {i : Nat} (hi : i < L) (hL : L ≤ 2048) (d : decode cc pc = .ok (.iaload, 1))
    (kk : W p l e R s m args below meth c H locs cells slots Q (F0 m (pc + 1) ls (.int (xs i) :: rest))) : W p l e R s m args below meth c H locs cells slots Q (F0 m pc ls (.int (nI i) :: .ref b :: rest)) :=
  va_sld hexec hb hX hbl hbA hS (nI_in hi (by omega)) d (by rw [nI_clamp (show i < 2 ^ 31 by omega)]; exact kk)
end LWS
theorem bo_hkp {s : State} {H : Heap} {locs : List Loc} (hS : va_S (fun q => s.heap.size ≤ q) s.heap H locs) : ∀ (a : Addr) (cell : Cell), s.heap[a]? = some cell → cell.vm.isStatics = true → H[a]? = some cell := by
  intro a cell h _
  have hl : a < s.heap.size := (Array.getElem?_eq_some_iff.mp h).1
  rw [hS.2.1 a hl (Nat.not_le.mpr hl)]
  exact h
def LC (p : Program) (l : Launch) (s : State) (m : MethodId) (c : Code) (b L : Nat) (xs : Nat → Int32) (D : va_G) (cJ cI cB cY : ClassId) : Prop :=
  p.tables.exec = Jvm.exec ∧ c.code = code ∧ c.maxLocals = 7 ∧ s.vm.findClass "BoxFlowLaw" = some m.cls ∧ (∀ w ∈ bo_w x code 7 ret, w.before #[Value.ref b] s = true) ∧ va_X b L xs s s.heap ∧ b < s.heap.size ∧ bo_hs s ∧ va_K D bo_cl (bo_ty cJ cI cB cY) s ∧ l.stackTraces = false ∧ L ≤ 2048
abbrev lw_l (b fo mo oa k : Nat) : List (Nat × Value) := [(0, .ref b), (1, .ref fo), (2, .ref mo), (3, .ref oa), (4, .int (nI (4 * k)))]
def lw_z (p : Program) (l : Launch) (e : Env) (s : State) (m : MethodId) (below : List Frame) (meth : Method) (c : Code) (Q : State → Prop) (b : Nat) (D : va_G) (cJ cI cB cY : ClassId) (fo mo oa : Nat) (pc j k : Nat) : Prop :=
  ∀ (X Y : va_W) (f : Nat → Int64) (H : Heap) (locs : List Loc) (ls : Array Slot), GJ cJ cI cB cY k fo mo X Y → va_P D bo_cl (bo_out cJ oa f :: (X ++ Y)) H → va_D (fun q => s.heap.size ≤ q) (bo_out cJ oa f :: (X ++ Y)) → va_S (fun q => s.heap.size ≤ q) s.heap H locs → lv_has ls 7 (lw_l b fo mo oa j) → W p l e room_1 s m #[Value.ref b] below meth c H locs (112 + k) (23747 + 6 * k) Q (F0 m pc ls [])
theorem lw_ge {L k : Nat} (hL : L ≤ 2048) (hk : k ≤ 512) (h : ¬ Int32.ofNat L - nI 4 < nI (4 * k)) : 4 * k + 4 ≤ L := by
  rw [Int32.lt_iff_toInt_lt] at h
  rw [nI_toInt (by omega), Int32.toInt_sub] at h
  rw [show (Int32.ofNat L).toInt = (L : Int) from nI_toInt (show L < 2 ^ 31 by omega), nI_toInt (by decide)] at h
  rw [Int.bmod_eq_of_le (by omega) (by omega)] at h
  omega

theorem hd8_L_compile : yy_L_compile.cls ≠ "java/lang/invoke/MethodHandle" ∧ yy_L_compile.cls ≠ "java/lang/invoke/VarHandle" ∧ (parseMethodDescriptor yy_L_compile.desc).map (fun d => d.parameters.length) = some 2 := by decide +kernel
theorem hd8_L_step : yy_L_step.cls ≠ "java/lang/invoke/MethodHandle" ∧ yy_L_step.cls ≠ "java/lang/invoke/VarHandle" ∧ (parseMethodDescriptor yy_L_step.desc).map (fun d => d.parameters.length) = some 3 := by decide +kernel
theorem hd8_L_box : yy_L_box.cls ≠ "java/lang/invoke/MethodHandle" ∧ yy_L_box.cls ≠ "java/lang/invoke/VarHandle" ∧ (parseMethodDescriptor yy_L_box.desc).map (fun d => d.parameters.length) = some 5 := by decide +kernel
theorem hd8_L_crossing : yy_L_crossing.cls ≠ "java/lang/invoke/MethodHandle" ∧ yy_L_crossing.cls ≠ "java/lang/invoke/VarHandle" ∧ (parseMethodDescriptor yy_L_crossing.desc).map (fun d => d.parameters.length) = some 4 := by decide +kernel
theorem hd8_L_coefficient : yy_L_coefficient.cls ≠ "java/lang/invoke/MethodHandle" ∧ yy_L_coefficient.cls ≠ "java/lang/invoke/VarHandle" ∧ (parseMethodDescriptor yy_L_coefficient.desc).map (fun d => d.parameters.length) = some 5 := by decide +kernel

theorem bo_sw10 (x : Int32) : x = nI 0 ∨ x = nI 1 ∨ x = nI 2 ∨ x = nI 3 ∨ x = nI 4 ∨ x = nI 5 ∨ x = nI 6 ∨ x = nI 7 ∨ x = nI 8 ∨ x = nI 9 ∨ (x.toInt < 0 ∨ 9 < x.toInt) := by
  by_cases h : x.toInt < 0 ∨ 9 < x.toInt
  · exact Or.inr (Or.inr (Or.inr (Or.inr (Or.inr (Or.inr (Or.inr (Or.inr (Or.inr (Or.inr (h))))))))))
  · have h1 : ∀ k : Nat, k < 2 ^ 31 → x.toInt = k → x = nI k := fun k hk e => Int32.toInt_inj.mp (by rw [e, nI_toInt hk])
    rcases (show x.toInt = 0 ∨ x.toInt = 1 ∨ x.toInt = 2 ∨ x.toInt = 3 ∨ x.toInt = 4 ∨ x.toInt = 5 ∨ x.toInt = 6 ∨ x.toInt = 7 ∨ x.toInt = 8 ∨ x.toInt = 9 by omega) with e | e | e | e | e | e | e | e | e | e
    · exact Or.inl (h1 0 (by decide) e)
    · exact Or.inr (Or.inl (h1 1 (by decide) e))
    · exact Or.inr (Or.inr (Or.inl (h1 2 (by decide) e)))
    · exact Or.inr (Or.inr (Or.inr (Or.inl (h1 3 (by decide) e))))
    · exact Or.inr (Or.inr (Or.inr (Or.inr (Or.inl (h1 4 (by decide) e)))))
    · exact Or.inr (Or.inr (Or.inr (Or.inr (Or.inr (Or.inl (h1 5 (by decide) e))))))
    · exact Or.inr (Or.inr (Or.inr (Or.inr (Or.inr (Or.inr (Or.inl (h1 6 (by decide) e)))))))
    · exact Or.inr (Or.inr (Or.inr (Or.inr (Or.inr (Or.inr (Or.inr (Or.inl (h1 7 (by decide) e))))))))
    · exact Or.inr (Or.inr (Or.inr (Or.inr (Or.inr (Or.inr (Or.inr (Or.inr (Or.inl (h1 8 (by decide) e)))))))))
    · exact Or.inr (Or.inr (Or.inr (Or.inr (Or.inr (Or.inr (Or.inr (Or.inr (Or.inr (Or.inl (h1 9 (by decide) e))))))))))

set_option maxHeartbeats 4000000 in
theorem lw_type {p : Program} {l : Launch} {e : Env} {s : State} {m : MethodId} {below : List Frame} {meth : Method} {c : Code} {Q : State → Prop} {b L : Nat} {xs : Nat → Int32} {D : va_G} {cJ cI cB cY : ClassId} {fo mo oa k : Nat} {X Y : va_W} {f : Nat → Int64} {H : Heap} {locs : List Loc} {ls : Array Slot} (C0 : LC p l s m c b L xs D cJ cI cB cY) (hk4 : 4 * k + 4 ≤ L) (nx : lw_z p l e s m below meth c Q b D cJ cI cB cY fo mo oa 641 k (k + 1)) (hJ : GJ cJ cI cB cY k fo mo X Y) (hP : va_P D bo_cl (bo_out cJ oa f :: (X ++ Y)) H) (hD : va_D (fun q => s.heap.size ≤ q) (bo_out cJ oa f :: (X ++ Y))) (hS : va_S (fun q => s.heap.size ≤ q) s.heap H locs) (hl : lv_has ls 7 (lw_l b fo mo oa k)) : W p l e room_1 s m #[Value.ref b] below meth c H locs (112 + k) (23747 + 6 * k) Q (F0 m 92 ls []) := by
  obtain ⟨hx, hb, hml, hown, hts, hX0, hbl, hhs, hK, hlst, hL⟩ := C0
  have hbA : ¬ s.heap.size ≤ b := Nat.not_le.mpr hbl
  have hk : k ≤ 512 := by omega
  obtain ⟨rv, PX, PY, hF, hM, hN⟩ := lk_type (l := l) (D := D) ((xs (4 * k + 1)).toInt64 <<< ((nI 32).toInt64 &&& 63) ||| (xs (4 * k + 2)).toInt64 &&& 4294967295) (xs (4 * k + 3)) hk hJ
  have hat := hJ.F
  refine lv_aload_n hx hb dd_W_92 rfl (lv_at hl 1 rfl) ?_
  refine lv_aload_n hx hb dd_W_93 rfl (lv_at hl 0 rfl) ?_
  refine lv_iload hx hb dd_W_94 (lv_at hl 4 rfl) ?_
  refine lv_iconst (v := nI 1) hx hb dd_W_96 (by decide) ?_
  refine bo_iadd hx hb dd_W_97 ?_
  refine bo_sld hx hb hX0 hbl hbA hS (i := 4 * k + 1) (by omega) hL dd_W_98 ?_
  refine lv_i2l (v := (xs (4 * k + 1)).toInt64) hx hb dd_W_99 rfl ?_
  refine lv_bipush (v := nI 32) hx hb dd_W_100 (by decide) ?_
  refine lv_lshl (v := ((xs (4 * k + 1)).toInt64) <<< ((nI 32).toInt64 &&& 63)) hx hb dd_W_102 rfl ?_
  refine lv_aload_n hx hb dd_W_103 rfl (lv_at hl 0 rfl) ?_
  refine lv_iload hx hb dd_W_104 (lv_at hl 4 rfl) ?_
  refine lv_iconst (v := nI 2) hx hb dd_W_106 (by decide) ?_
  refine bo_iadd hx hb dd_W_107 ?_
  refine bo_sld hx hb hX0 hbl hbA hS (i := 4 * k + 2) (by omega) hL dd_W_108 ?_
  refine lv_i2l (v := (xs (4 * k + 2)).toInt64) hx hb dd_W_109 rfl ?_
  refine lv_ldc2 (v := 4294967295) hx hb hown (hts _ (List.mem_cons_of_mem _ wd_1121)) dd_W_110 ?_
  refine lv_land hx hb dd_W_113 ?_
  refine lv_lor hx hb dd_W_114 ?_
  refine lv_aload_n hx hb dd_W_115 rfl (lv_at hl 0 rfl) ?_
  refine lv_iload hx hb dd_W_116 (lv_at hl 4 rfl) ?_
  refine lv_iconst (v := nI 3) hx hb dd_W_118 (by decide) ?_
  refine bo_iadd hx hb dd_W_119 ?_
  refine bo_sld hx hb hX0 hbl hbA hS (i := 4 * k + 3) (by omega) hL dd_W_120 ?_
  have hat9 : bo_at0 fo 0 (bo_out cJ oa f :: (X ++ Y)) := bo_at0.cons (bo_at0.app hat)
  refine bo_cV (bo_frR_i (bo_frL_i hF Y) [bo_out cJ oa f]) ⟨hx, hb, hml, hown, hts⟩ (cwV 2 hts (bo_gV9 wd_326 wd_327 wd_328 wd_1 wd_329) rfl rfl rfl hd9_F_type (by decide)) hK hP hD hS (fun _ h => h) hat9 rfl rfl rfl hl.1 rfl (Nat.le_of_ble_eq_true rfl) dd_W_121 (show 112 + k + 0 ≤ 601024 ∧ 23747 + 6 * k + 0 ≤ 7293034 from ⟨by omega, by omega⟩) (fun r X1 H locs hu hP hD hS => ?_)
  obtain ⟨hr, hX1⟩ := hu
  subst hr
  have hP : va_P D bo_cl (bo_out cJ oa f :: (X1 ++ Y)) H := hP
  have hD : va_D (fun q => s.heap.size ≤ q) (bo_out cJ oa f :: (X1 ++ Y)) := hD
  have hat := hJ.M
  refine lv_aload_n hx hb dd_W_124 rfl (lv_at hl 2 rfl) ?_
  refine lv_aload_n hx hb dd_W_125 rfl (lv_at hl 0 rfl) ?_
  refine lv_iload hx hb dd_W_126 (lv_at hl 4 rfl) ?_
  refine lv_iconst (v := nI 1) hx hb dd_W_128 (by decide) ?_
  refine bo_iadd hx hb dd_W_129 ?_
  refine bo_sld hx hb hX0 hbl hbA hS (i := 4 * k + 1) (by omega) hL dd_W_130 ?_
  refine lv_i2l (v := (xs (4 * k + 1)).toInt64) hx hb dd_W_131 rfl ?_
  refine lv_bipush (v := nI 32) hx hb dd_W_132 (by decide) ?_
  refine lv_lshl (v := ((xs (4 * k + 1)).toInt64) <<< ((nI 32).toInt64 &&& 63)) hx hb dd_W_134 rfl ?_
  refine lv_aload_n hx hb dd_W_135 rfl (lv_at hl 0 rfl) ?_
  refine lv_iload hx hb dd_W_136 (lv_at hl 4 rfl) ?_
  refine lv_iconst (v := nI 2) hx hb dd_W_138 (by decide) ?_
  refine bo_iadd hx hb dd_W_139 ?_
  refine bo_sld hx hb hX0 hbl hbA hS (i := 4 * k + 2) (by omega) hL dd_W_140 ?_
  refine lv_i2l (v := (xs (4 * k + 2)).toInt64) hx hb dd_W_141 rfl ?_
  refine lv_ldc2 (v := 4294967295) hx hb hown (hts _ (List.mem_cons_of_mem _ wd_1121)) dd_W_142 ?_
  refine lv_land hx hb dd_W_145 ?_
  refine lv_lor hx hb dd_W_146 ?_
  refine lv_aload_n hx hb dd_W_147 rfl (lv_at hl 0 rfl) ?_
  refine lv_iload hx hb dd_W_148 (lv_at hl 4 rfl) ?_
  refine lv_iconst (v := nI 3) hx hb dd_W_150 (by decide) ?_
  refine bo_iadd hx hb dd_W_151 ?_
  refine bo_sld hx hb hX0 hbl hbA hS (i := 4 * k + 3) (by omega) hL dd_W_152 ?_
  have hat9 : bo_at0 mo 10 (bo_out cJ oa f :: (X1 ++ Y)) := bo_at0.cons (bo_at0.app2 hat)
  refine bo_cV (bo_frR_i (bo_frR_i hM X1) [bo_out cJ oa f]) ⟨hx, hb, hml, hown, hts⟩ (cwV 2 hts (bo_gV9 wd_954 wd_955 wd_956 wd_11 wd_957) rfl rfl rfl hd9_M_type (by decide)) hK hP hD hS (fun _ h => h) hat9 rfl rfl rfl hl.1 rfl (Nat.le_of_ble_eq_true rfl) dd_W_153 (show 112 + k + 0 + 0 ≤ 601024 ∧ 23747 + 6 * k + 0 + 0 ≤ 7293034 from ⟨by omega, by omega⟩) (fun r2 Y1 H locs hu hP hD hS => ?_)
  obtain ⟨hr, hY1⟩ := hu
  subst hr
  have hP : va_P D bo_cl (bo_out cJ oa f :: (X1 ++ Y1)) H := hP
  have hD : va_D (fun q => s.heap.size ≤ q) (bo_out cJ oa f :: (X1 ++ Y1)) := hD
  refine lv_icmp_eq (tgt := 641) hx hb dd_W_156 rfl (fun _ => ?_) (fun q => absurd rfl q)
  refine W.widen (k := 112 + (k + 1)) (n := 23747 + 6 * (k + 1)) (show 112 + k + 0 + 0 ≤ 112 + (k + 1) by omega) (show 23747 + 6 * k + 0 + 0 ≤ 23747 + 6 * (k + 1) by omega) ?_
  exact nx _ _ _ _ _ _ (hN _ _ hX1 hY1) hP hD hS hl

set_option maxHeartbeats 4000000 in
theorem lw_compile {p : Program} {l : Launch} {e : Env} {s : State} {m : MethodId} {below : List Frame} {meth : Method} {c : Code} {Q : State → Prop} {b L : Nat} {xs : Nat → Int32} {D : va_G} {cJ cI cB cY : ClassId} {fo mo oa k : Nat} {X Y : va_W} {f : Nat → Int64} {H : Heap} {locs : List Loc} {ls : Array Slot} (C0 : LC p l s m c b L xs D cJ cI cB cY) (hk4 : 4 * k + 4 ≤ L) (nx : lw_z p l e s m below meth c Q b D cJ cI cB cY fo mo oa 641 k (k + 1)) (hJ : GJ cJ cI cB cY k fo mo X Y) (hP : va_P D bo_cl (bo_out cJ oa f :: (X ++ Y)) H) (hD : va_D (fun q => s.heap.size ≤ q) (bo_out cJ oa f :: (X ++ Y))) (hS : va_S (fun q => s.heap.size ≤ q) s.heap H locs) (hl : lv_has ls 7 (lw_l b fo mo oa k)) : W p l e room_1 s m #[Value.ref b] below meth c H locs (112 + k) (23747 + 6 * k) Q (F0 m 161 ls []) := by
  obtain ⟨hx, hb, hml, hown, hts, hX0, hbl, hhs, hK, hlst, hL⟩ := C0
  have hbA : ¬ s.heap.size ≤ b := Nat.not_le.mpr hbl
  have hk : k ≤ 512 := by omega
  obtain ⟨kv, rv, PX, PY, hH, hM, hT, hN⟩ := lk_compile (l := l) (D := D) hlst (oa := oa)  hk hJ
  have hat := hJ.M
  refine lv_aload_n hx hb dd_W_161 rfl (lv_at hl 1 rfl) ?_
  refine lv_aload_n hx hb dd_W_162 rfl (lv_at hl 3 rfl) ?_
  refine bo_cH (bo_frL_h (hH f) Y) ⟨hx, hb, hml, hown, hts⟩ (bo_hw hts wd_429) (hts _ (List.mem_cons_of_mem _ wd_427)) (hts _ (List.mem_cons_of_mem _ wd_428)) (hts _ (List.mem_cons_of_mem _ wd_0)) hd8_L_compile (by decide) (by decide) hhs (bo_hkp hS) hK hP hD hS (fun _ h => h) rfl hl.1 rfl (Nat.le_of_ble_eq_true rfl) dd_W_163 (show 112 + k + 1 ≤ 601024 ∧ 23747 + 6 * k + 6 ≤ 7293034 from ⟨by omega, by omega⟩) (fun r w8 H locs hu hP hD hS _ => ?_)
  obtain ⟨hr, X1, g, hX1, hg, hw⟩ := hu
  subst hr
  subst hw
  have hP : va_P D bo_cl (bo_out cJ oa g :: (X1 ++ Y)) H := hP
  have hD : va_D (fun q => s.heap.size ≤ q) (bo_out cJ oa g :: (X1 ++ Y)) := hD
  refine lv_istore (lv' := [(5, .int r), (0, .ref b), (1, .ref fo), (2, .ref mo), (3, .ref oa), (4, .int (nI (4 * k)))]) hx hb dd_W_166 hl (by decide) rfl (fun ls hl => ?_)
  refine lv_aload_n hx hb dd_W_168 rfl (lv_at hl 3 rfl) ?_
  have hat9 : bo_at0 mo 10 (bo_out cJ oa g :: (X1 ++ Y)) := bo_at0.cons (bo_at0.app2 hat)
  refine bo_cV (bo_frR_i (bo_frR_i hM X1) [bo_out cJ oa g]) ⟨hx, hb, hml, hown, hts⟩ (cwV 0 hts (bo_gV9 wd_959 wd_960 wd_961 wd_11 wd_962) rfl rfl rfl hd9_M_compile (by decide)) hK hP hD hS (fun _ h => h) hat9 rfl rfl rfl hl.1 rfl (Nat.le_of_ble_eq_true rfl) dd_W_169 (show 112 + k + 1 + 0 ≤ 601024 ∧ 23747 + 6 * k + 6 + 0 ≤ 7293034 from ⟨by omega, by omega⟩) (fun r2 Y1 H locs hu hP hD hS => ?_)
  obtain ⟨hr, hY1⟩ := hu
  subst hr
  have hP : va_P D bo_cl (bo_out cJ oa g :: (X1 ++ Y1)) H := hP
  have hD : va_D (fun q => s.heap.size ≤ q) (bo_out cJ oa g :: (X1 ++ Y1)) := hD
  refine lv_istore (lv' := [(6, .int r2), (5, .int r), (0, .ref b), (1, .ref fo), (2, .ref mo), (3, .ref oa), (4, .int (nI (4 * k)))]) hx hb dd_W_172 hl (by decide) rfl (fun ls hl => ?_)
  refine lv_aload_n hx hb dd_W_174 rfl (lv_at hl 4 rfl) ?_
  obtain ⟨hat, hT1⟩ := hT _ hY1
  have hat9 : bo_at0 mo 10 (bo_out cJ oa g :: (X1 ++ Y1)) := bo_at0.cons (bo_at0.app2 hat)
  refine bo_cV (bo_frR_i (bo_frR_i hT1 X1) [bo_out cJ oa g]) ⟨hx, hb, hml, hown, hts⟩ (cwV 0 hts (bo_gV9 wd_950 wd_951 wd_952 wd_11 wd_953) rfl rfl rfl hd9_M_thrown (by decide)) hK hP hD hS (fun _ h => h) hat9 rfl rfl rfl hl.1 rfl (Nat.le_of_ble_eq_true rfl) dd_W_175 (show 112 + k + 1 + 0 + 0 ≤ 601024 ∧ 23747 + 6 * k + 6 + 0 + 0 ≤ 7293034 from ⟨by omega, by omega⟩) (fun r3 Y2 H locs hu hP hD hS => ?_)
  obtain ⟨hr, hY2⟩ := hu
  subst hr
  have hP : va_P D bo_cl (bo_out cJ oa g :: (X1 ++ Y2)) H := hP
  have hD : va_D (fun q => s.heap.size ≤ q) (bo_out cJ oa g :: (X1 ++ Y2)) := hD
  refine lv_iload hx hb dd_W_178 (lv_at hl 1 rfl) ?_
  refine lv_icmp_eq (tgt := 185) hx hb dd_W_180 rfl (fun _ => ?_) (fun q => absurd rfl q)
  refine lv_iload hx hb dd_W_185 (lv_at hl 1 rfl) ?_
  have hfin : W p l e room_1 s m #[Value.ref b] below meth c H locs (112 + k + 1 + 0 + 0) (23747 + 6 * k + 6 + 0 + 0) Q (F0 m 202 ls []) := by
    refine lv_goto (tgt := 641) hx hb dd_W_202 rfl ?_
    refine W.widen (k := 112 + (k + 1)) (n := 23747 + 6 * (k + 1)) (show 112 + k + 1 + 0 + 0 ≤ 112 + (k + 1) by omega) (show 23747 + 6 * k + 6 + 0 + 0 ≤ 23747 + 6 * (k + 1) by omega) ?_
    exact nx _ _ _ _ _ _ (hN _ _ hX1 hY2) hP hD hS (lv_sub hl [2, 3, 4, 5, 6] rfl)
  refine lv_if_ne (tgt := 202) hx hb dd_W_187 rfl (fun _ => hfin) (fun q0 => ?_)
  have hg0 := hg (q0.trans nI_0.symm)
  refine lv_aload_n hx hb dd_W_190 rfl (lv_at hl 5 rfl) ?_
  refine lv_iconst (v := nI 0) hx hb dd_W_191 (by decide) ?_
  refine bo_lald hx hb hK hP 0 0 rfl rfl (k := 0) (by decide) (by decide) dd_W_192 ?_
  refine lv_iload hx hb dd_W_193 (lv_at hl 0 rfl) ?_
  refine lv_i2l (v := r2.toInt64) hx hb dd_W_195 rfl ?_
  refine W.lcmp hx hb dd_W_196 ?_
  refine lv_if_eq (tgt := 202) hx hb dd_W_197 rfl (fun _ => hfin) (fun q => absurd ((lc_all _ _).2.2.1.mpr hg0) q)

set_option maxHeartbeats 4000000 in
theorem lw_fault {p : Program} {l : Launch} {e : Env} {s : State} {m : MethodId} {below : List Frame} {meth : Method} {c : Code} {Q : State → Prop} {b L : Nat} {xs : Nat → Int32} {D : va_G} {cJ cI cB cY : ClassId} {fo mo oa k : Nat} {X Y : va_W} {f : Nat → Int64} {H : Heap} {locs : List Loc} {ls : Array Slot} (C0 : LC p l s m c b L xs D cJ cI cB cY) (hk4 : 4 * k + 4 ≤ L) (nx : lw_z p l e s m below meth c Q b D cJ cI cB cY fo mo oa 641 k (k + 1)) (hJ : GJ cJ cI cB cY k fo mo X Y) (hP : va_P D bo_cl (bo_out cJ oa f :: (X ++ Y)) H) (hD : va_D (fun q => s.heap.size ≤ q) (bo_out cJ oa f :: (X ++ Y))) (hS : va_S (fun q => s.heap.size ≤ q) s.heap H locs) (hl : lv_has ls 7 (lw_l b fo mo oa k)) : W p l e room_1 s m #[Value.ref b] below meth c H locs (112 + k) (23747 + 6 * k) Q (F0 m 205 ls []) := by
  obtain ⟨hx, hb, hml, hown, hts, hX0, hbl, hhs, hK, hlst, hL⟩ := C0
  have hbA : ¬ s.heap.size ≤ b := Nat.not_le.mpr hbl
  have hk : k ≤ 512 := by omega
  obtain ⟨rv, PX, PY, hF, hM, hN⟩ := lk_fault (l := l) (D := D)  hk hJ
  have hat := hJ.F
  refine lv_aload_n hx hb dd_W_205 rfl (lv_at hl 1 rfl) ?_
  have hat9 : bo_at0 fo 0 (bo_out cJ oa f :: (X ++ Y)) := bo_at0.cons (bo_at0.app hat)
  refine bo_cV (bo_frR_i (bo_frL_i hF Y) [bo_out cJ oa f]) ⟨hx, hb, hml, hown, hts⟩ (cwV 0 hts (bo_gV9 wd_341 wd_342 wd_343 wd_1 wd_344) rfl rfl rfl hd9_F_fault (by decide)) hK hP hD hS (fun _ h => h) hat9 rfl rfl rfl hl.1 rfl (Nat.le_of_ble_eq_true rfl) dd_W_206 (show 112 + k + 0 ≤ 601024 ∧ 23747 + 6 * k + 0 ≤ 7293034 from ⟨by omega, by omega⟩) (fun r X1 H locs hu hP hD hS => ?_)
  obtain ⟨hr, hX1⟩ := hu
  subst hr
  have hP : va_P D bo_cl (bo_out cJ oa f :: (X1 ++ Y)) H := hP
  have hD : va_D (fun q => s.heap.size ≤ q) (bo_out cJ oa f :: (X1 ++ Y)) := hD
  have hat := hJ.M
  refine lv_aload_n hx hb dd_W_209 rfl (lv_at hl 2 rfl) ?_
  have hat9 : bo_at0 mo 10 (bo_out cJ oa f :: (X1 ++ Y)) := bo_at0.cons (bo_at0.app2 hat)
  refine bo_cV (bo_frR_i (bo_frR_i hM X1) [bo_out cJ oa f]) ⟨hx, hb, hml, hown, hts⟩ (cwV 0 hts (bo_gV9 wd_1039 wd_1040 wd_1041 wd_11 wd_1042) rfl rfl rfl hd9_M_fault (by decide)) hK hP hD hS (fun _ h => h) hat9 rfl rfl rfl hl.1 rfl (Nat.le_of_ble_eq_true rfl) dd_W_210 (show 112 + k + 0 + 0 ≤ 601024 ∧ 23747 + 6 * k + 0 + 0 ≤ 7293034 from ⟨by omega, by omega⟩) (fun r2 Y1 H locs hu hP hD hS => ?_)
  obtain ⟨hr, hY1⟩ := hu
  subst hr
  have hP : va_P D bo_cl (bo_out cJ oa f :: (X1 ++ Y1)) H := hP
  have hD : va_D (fun q => s.heap.size ≤ q) (bo_out cJ oa f :: (X1 ++ Y1)) := hD
  refine lv_icmp_eq (tgt := 641) hx hb dd_W_213 rfl (fun _ => ?_) (fun q => absurd rfl q)
  refine W.widen (k := 112 + (k + 1)) (n := 23747 + 6 * (k + 1)) (show 112 + k + 0 + 0 ≤ 112 + (k + 1) by omega) (show 23747 + 6 * k + 0 + 0 ≤ 23747 + 6 * (k + 1) by omega) ?_
  exact nx _ _ _ _ _ _ (hN _ _ hX1 hY1) hP hD hS hl

set_option maxHeartbeats 4000000 in
theorem lw_begin {p : Program} {l : Launch} {e : Env} {s : State} {m : MethodId} {below : List Frame} {meth : Method} {c : Code} {Q : State → Prop} {b L : Nat} {xs : Nat → Int32} {D : va_G} {cJ cI cB cY : ClassId} {fo mo oa k : Nat} {X Y : va_W} {f : Nat → Int64} {H : Heap} {locs : List Loc} {ls : Array Slot} (C0 : LC p l s m c b L xs D cJ cI cB cY) (hk4 : 4 * k + 4 ≤ L) (nx : lw_z p l e s m below meth c Q b D cJ cI cB cY fo mo oa 641 k (k + 1)) (hJ : GJ cJ cI cB cY k fo mo X Y) (hP : va_P D bo_cl (bo_out cJ oa f :: (X ++ Y)) H) (hD : va_D (fun q => s.heap.size ≤ q) (bo_out cJ oa f :: (X ++ Y))) (hS : va_S (fun q => s.heap.size ≤ q) s.heap H locs) (hl : lv_has ls 7 (lw_l b fo mo oa k)) : W p l e room_1 s m #[Value.ref b] below meth c H locs (112 + k) (23747 + 6 * k) Q (F0 m 218 ls []) := by
  obtain ⟨hx, hb, hml, hown, hts, hX0, hbl, hhs, hK, hlst, hL⟩ := C0
  have hbA : ¬ s.heap.size ≤ b := Nat.not_le.mpr hbl
  have hk : k ≤ 512 := by omega
  obtain ⟨rv, PX, PY, hF, hM, hN⟩ := lk_begin (l := l) (D := D) (xs (4 * k + 1)) (xs (4 * k + 2)) (xs (4 * k + 3)) hk hJ
  have hat := hJ.F
  refine lv_aload_n hx hb dd_W_218 rfl (lv_at hl 1 rfl) ?_
  refine lv_aload_n hx hb dd_W_219 rfl (lv_at hl 0 rfl) ?_
  refine lv_iload hx hb dd_W_220 (lv_at hl 4 rfl) ?_
  refine lv_iconst (v := nI 1) hx hb dd_W_222 (by decide) ?_
  refine bo_iadd hx hb dd_W_223 ?_
  refine bo_sld hx hb hX0 hbl hbA hS (i := 4 * k + 1) (by omega) hL dd_W_224 ?_
  refine lv_aload_n hx hb dd_W_225 rfl (lv_at hl 0 rfl) ?_
  refine lv_iload hx hb dd_W_226 (lv_at hl 4 rfl) ?_
  refine lv_iconst (v := nI 2) hx hb dd_W_228 (by decide) ?_
  refine bo_iadd hx hb dd_W_229 ?_
  refine bo_sld hx hb hX0 hbl hbA hS (i := 4 * k + 2) (by omega) hL dd_W_230 ?_
  refine lv_aload_n hx hb dd_W_231 rfl (lv_at hl 0 rfl) ?_
  refine lv_iload hx hb dd_W_232 (lv_at hl 4 rfl) ?_
  refine lv_iconst (v := nI 3) hx hb dd_W_234 (by decide) ?_
  refine bo_iadd hx hb dd_W_235 ?_
  refine bo_sld hx hb hX0 hbl hbA hS (i := 4 * k + 3) (by omega) hL dd_W_236 ?_
  have hat9 : bo_at0 fo 0 (bo_out cJ oa f :: (X ++ Y)) := bo_at0.cons (bo_at0.app hat)
  refine bo_cV (bo_frR_i (bo_frL_i hF Y) [bo_out cJ oa f]) ⟨hx, hb, hml, hown, hts⟩ (cwV 3 hts (bo_gV9 wd_345 wd_346 wd_347 wd_1 wd_348) rfl rfl rfl hd9_F_begin (by decide)) hK hP hD hS (fun _ h => h) hat9 rfl rfl rfl hl.1 rfl (Nat.le_of_ble_eq_true rfl) dd_W_237 (show 112 + k + 0 ≤ 601024 ∧ 23747 + 6 * k + 0 ≤ 7293034 from ⟨by omega, by omega⟩) (fun r X1 H locs hu hP hD hS => ?_)
  obtain ⟨hr, hX1⟩ := hu
  subst hr
  have hP : va_P D bo_cl (bo_out cJ oa f :: (X1 ++ Y)) H := hP
  have hD : va_D (fun q => s.heap.size ≤ q) (bo_out cJ oa f :: (X1 ++ Y)) := hD
  have hat := hJ.M
  refine lv_aload_n hx hb dd_W_240 rfl (lv_at hl 2 rfl) ?_
  refine lv_aload_n hx hb dd_W_241 rfl (lv_at hl 0 rfl) ?_
  refine lv_iload hx hb dd_W_242 (lv_at hl 4 rfl) ?_
  refine lv_iconst (v := nI 1) hx hb dd_W_244 (by decide) ?_
  refine bo_iadd hx hb dd_W_245 ?_
  refine bo_sld hx hb hX0 hbl hbA hS (i := 4 * k + 1) (by omega) hL dd_W_246 ?_
  refine lv_aload_n hx hb dd_W_247 rfl (lv_at hl 0 rfl) ?_
  refine lv_iload hx hb dd_W_248 (lv_at hl 4 rfl) ?_
  refine lv_iconst (v := nI 2) hx hb dd_W_250 (by decide) ?_
  refine bo_iadd hx hb dd_W_251 ?_
  refine bo_sld hx hb hX0 hbl hbA hS (i := 4 * k + 2) (by omega) hL dd_W_252 ?_
  refine lv_aload_n hx hb dd_W_253 rfl (lv_at hl 0 rfl) ?_
  refine lv_iload hx hb dd_W_254 (lv_at hl 4 rfl) ?_
  refine lv_iconst (v := nI 3) hx hb dd_W_256 (by decide) ?_
  refine bo_iadd hx hb dd_W_257 ?_
  refine bo_sld hx hb hX0 hbl hbA hS (i := 4 * k + 3) (by omega) hL dd_W_258 ?_
  have hat9 : bo_at0 mo 10 (bo_out cJ oa f :: (X1 ++ Y)) := bo_at0.cons (bo_at0.app2 hat)
  refine bo_cV (bo_frR_i (bo_frR_i hM X1) [bo_out cJ oa f]) ⟨hx, hb, hml, hown, hts⟩ (cwV 3 hts (bo_gV9 wd_1043 wd_1044 wd_1045 wd_11 wd_1046) rfl rfl rfl hd9_M_begin (by decide)) hK hP hD hS (fun _ h => h) hat9 rfl rfl rfl hl.1 rfl (Nat.le_of_ble_eq_true rfl) dd_W_259 (show 112 + k + 0 + 0 ≤ 601024 ∧ 23747 + 6 * k + 0 + 0 ≤ 7293034 from ⟨by omega, by omega⟩) (fun r2 Y1 H locs hu hP hD hS => ?_)
  obtain ⟨hr, hY1⟩ := hu
  subst hr
  have hP : va_P D bo_cl (bo_out cJ oa f :: (X1 ++ Y1)) H := hP
  have hD : va_D (fun q => s.heap.size ≤ q) (bo_out cJ oa f :: (X1 ++ Y1)) := hD
  refine lv_icmp_eq (tgt := 641) hx hb dd_W_262 rfl (fun _ => ?_) (fun q => absurd rfl q)
  refine W.widen (k := 112 + (k + 1)) (n := 23747 + 6 * (k + 1)) (show 112 + k + 0 + 0 ≤ 112 + (k + 1) by omega) (show 23747 + 6 * k + 0 + 0 ≤ 23747 + 6 * (k + 1) by omega) ?_
  exact nx _ _ _ _ _ _ (hN _ _ hX1 hY1) hP hD hS hl

set_option maxHeartbeats 4000000 in
theorem lw_settle {p : Program} {l : Launch} {e : Env} {s : State} {m : MethodId} {below : List Frame} {meth : Method} {c : Code} {Q : State → Prop} {b L : Nat} {xs : Nat → Int32} {D : va_G} {cJ cI cB cY : ClassId} {fo mo oa k : Nat} {X Y : va_W} {f : Nat → Int64} {H : Heap} {locs : List Loc} {ls : Array Slot} (C0 : LC p l s m c b L xs D cJ cI cB cY) (hk4 : 4 * k + 4 ≤ L) (nx : lw_z p l e s m below meth c Q b D cJ cI cB cY fo mo oa 641 k (k + 1)) (hJ : GJ cJ cI cB cY k fo mo X Y) (hP : va_P D bo_cl (bo_out cJ oa f :: (X ++ Y)) H) (hD : va_D (fun q => s.heap.size ≤ q) (bo_out cJ oa f :: (X ++ Y))) (hS : va_S (fun q => s.heap.size ≤ q) s.heap H locs) (hl : lv_has ls 7 (lw_l b fo mo oa k)) : W p l e room_1 s m #[Value.ref b] below meth c H locs (112 + k) (23747 + 6 * k) Q (F0 m 267 ls []) := by
  obtain ⟨hx, hb, hml, hown, hts, hX0, hbl, hhs, hK, hlst, hL⟩ := C0
  have hbA : ¬ s.heap.size ≤ b := Nat.not_le.mpr hbl
  have hk : k ≤ 512 := by omega
  obtain ⟨rv, PX, PY, hF, hM, hN⟩ := lk_settle (l := l) (D := D) (xs (4 * k + 1)) (xs (4 * k + 2)) (xs (4 * k + 3)) hk hJ
  have hat := hJ.F
  refine lv_aload_n hx hb dd_W_267 rfl (lv_at hl 1 rfl) ?_
  refine lv_aload_n hx hb dd_W_268 rfl (lv_at hl 0 rfl) ?_
  refine lv_iload hx hb dd_W_269 (lv_at hl 4 rfl) ?_
  refine lv_iconst (v := nI 1) hx hb dd_W_271 (by decide) ?_
  refine bo_iadd hx hb dd_W_272 ?_
  refine bo_sld hx hb hX0 hbl hbA hS (i := 4 * k + 1) (by omega) hL dd_W_273 ?_
  refine lv_aload_n hx hb dd_W_274 rfl (lv_at hl 0 rfl) ?_
  refine lv_iload hx hb dd_W_275 (lv_at hl 4 rfl) ?_
  refine lv_iconst (v := nI 2) hx hb dd_W_277 (by decide) ?_
  refine bo_iadd hx hb dd_W_278 ?_
  refine bo_sld hx hb hX0 hbl hbA hS (i := 4 * k + 2) (by omega) hL dd_W_279 ?_
  refine lv_aload_n hx hb dd_W_280 rfl (lv_at hl 0 rfl) ?_
  refine lv_iload hx hb dd_W_281 (lv_at hl 4 rfl) ?_
  refine lv_iconst (v := nI 3) hx hb dd_W_283 (by decide) ?_
  refine bo_iadd hx hb dd_W_284 ?_
  refine bo_sld hx hb hX0 hbl hbA hS (i := 4 * k + 3) (by omega) hL dd_W_285 ?_
  have hat9 : bo_at0 fo 0 (bo_out cJ oa f :: (X ++ Y)) := bo_at0.cons (bo_at0.app hat)
  refine bo_cV (bo_frR_i (bo_frL_i hF Y) [bo_out cJ oa f]) ⟨hx, hb, hml, hown, hts⟩ (cwV 3 hts (bo_gV9 wd_418 wd_419 wd_420 wd_1 wd_421) rfl rfl rfl hd9_F_settle (by decide)) hK hP hD hS (fun _ h => h) hat9 rfl rfl rfl hl.1 rfl (Nat.le_of_ble_eq_true rfl) dd_W_286 (show 112 + k + 0 ≤ 601024 ∧ 23747 + 6 * k + 0 ≤ 7293034 from ⟨by omega, by omega⟩) (fun r X1 H locs hu hP hD hS => ?_)
  obtain ⟨hr, hX1⟩ := hu
  subst hr
  have hP : va_P D bo_cl (bo_out cJ oa f :: (X1 ++ Y)) H := hP
  have hD : va_D (fun q => s.heap.size ≤ q) (bo_out cJ oa f :: (X1 ++ Y)) := hD
  have hat := hJ.M
  refine lv_aload_n hx hb dd_W_289 rfl (lv_at hl 2 rfl) ?_
  refine lv_aload_n hx hb dd_W_290 rfl (lv_at hl 0 rfl) ?_
  refine lv_iload hx hb dd_W_291 (lv_at hl 4 rfl) ?_
  refine lv_iconst (v := nI 1) hx hb dd_W_293 (by decide) ?_
  refine bo_iadd hx hb dd_W_294 ?_
  refine bo_sld hx hb hX0 hbl hbA hS (i := 4 * k + 1) (by omega) hL dd_W_295 ?_
  refine lv_aload_n hx hb dd_W_296 rfl (lv_at hl 0 rfl) ?_
  refine lv_iload hx hb dd_W_297 (lv_at hl 4 rfl) ?_
  refine lv_iconst (v := nI 2) hx hb dd_W_299 (by decide) ?_
  refine bo_iadd hx hb dd_W_300 ?_
  refine bo_sld hx hb hX0 hbl hbA hS (i := 4 * k + 2) (by omega) hL dd_W_301 ?_
  refine lv_aload_n hx hb dd_W_302 rfl (lv_at hl 0 rfl) ?_
  refine lv_iload hx hb dd_W_303 (lv_at hl 4 rfl) ?_
  refine lv_iconst (v := nI 3) hx hb dd_W_305 (by decide) ?_
  refine bo_iadd hx hb dd_W_306 ?_
  refine bo_sld hx hb hX0 hbl hbA hS (i := 4 * k + 3) (by omega) hL dd_W_307 ?_
  have hat9 : bo_at0 mo 10 (bo_out cJ oa f :: (X1 ++ Y)) := bo_at0.cons (bo_at0.app2 hat)
  refine bo_cV (bo_frR_i (bo_frR_i hM X1) [bo_out cJ oa f]) ⟨hx, hb, hml, hown, hts⟩ (cwV 3 hts (bo_gV9 wd_1047 wd_1048 wd_1049 wd_11 wd_1050) rfl rfl rfl hd9_M_settle (by decide)) hK hP hD hS (fun _ h => h) hat9 rfl rfl rfl hl.1 rfl (Nat.le_of_ble_eq_true rfl) dd_W_308 (show 112 + k + 0 + 0 ≤ 601024 ∧ 23747 + 6 * k + 0 + 0 ≤ 7293034 from ⟨by omega, by omega⟩) (fun r2 Y1 H locs hu hP hD hS => ?_)
  obtain ⟨hr, hY1⟩ := hu
  subst hr
  have hP : va_P D bo_cl (bo_out cJ oa f :: (X1 ++ Y1)) H := hP
  have hD : va_D (fun q => s.heap.size ≤ q) (bo_out cJ oa f :: (X1 ++ Y1)) := hD
  refine lv_icmp_eq (tgt := 641) hx hb dd_W_311 rfl (fun _ => ?_) (fun q => absurd rfl q)
  refine W.widen (k := 112 + (k + 1)) (n := 23747 + 6 * (k + 1)) (show 112 + k + 0 + 0 ≤ 112 + (k + 1) by omega) (show 23747 + 6 * k + 0 + 0 ≤ 23747 + 6 * (k + 1) by omega) ?_
  exact nx _ _ _ _ _ _ (hN _ _ hX1 hY1) hP hD hS hl

set_option maxHeartbeats 4000000 in
theorem lw_step {p : Program} {l : Launch} {e : Env} {s : State} {m : MethodId} {below : List Frame} {meth : Method} {c : Code} {Q : State → Prop} {b L : Nat} {xs : Nat → Int32} {D : va_G} {cJ cI cB cY : ClassId} {fo mo oa k : Nat} {X Y : va_W} {f : Nat → Int64} {H : Heap} {locs : List Loc} {ls : Array Slot} (C0 : LC p l s m c b L xs D cJ cI cB cY) (hk4 : 4 * k + 4 ≤ L) (nx : lw_z p l e s m below meth c Q b D cJ cI cB cY fo mo oa 641 k (k + 1)) (hJ : GJ cJ cI cB cY k fo mo X Y) (hP : va_P D bo_cl (bo_out cJ oa f :: (X ++ Y)) H) (hD : va_D (fun q => s.heap.size ≤ q) (bo_out cJ oa f :: (X ++ Y))) (hS : va_S (fun q => s.heap.size ≤ q) s.heap H locs) (hl : lv_has ls 7 (lw_l b fo mo oa k)) : W p l e room_1 s m #[Value.ref b] below meth c H locs (112 + k) (23747 + 6 * k) Q (F0 m 316 ls []) := by
  obtain ⟨hx, hb, hml, hown, hts, hX0, hbl, hhs, hK, hlst, hL⟩ := C0
  have hbA : ¬ s.heap.size ≤ b := Nat.not_le.mpr hbl
  have hk : k ≤ 512 := by omega
  obtain ⟨kv, rv, PX, PY, hH, hM, hT, hN⟩ := lk_step (l := l) (D := D) hlst (oa := oa) (xs (4 * k + 1)) hk hJ
  have hat := hJ.M
  refine lv_aload_n hx hb dd_W_316 rfl (lv_at hl 1 rfl) ?_
  refine lv_aload_n hx hb dd_W_317 rfl (lv_at hl 0 rfl) ?_
  refine lv_iload hx hb dd_W_318 (lv_at hl 4 rfl) ?_
  refine lv_iconst (v := nI 1) hx hb dd_W_320 (by decide) ?_
  refine bo_iadd hx hb dd_W_321 ?_
  refine bo_sld hx hb hX0 hbl hbA hS (i := 4 * k + 1) (by omega) hL dd_W_322 ?_
  refine lv_aload_n hx hb dd_W_323 rfl (lv_at hl 3 rfl) ?_
  refine bo_cH (bo_frL_h (hH f) Y) ⟨hx, hb, hml, hown, hts⟩ (bo_hw hts wd_592) (hts _ (List.mem_cons_of_mem _ wd_590)) (hts _ (List.mem_cons_of_mem _ wd_591)) (hts _ (List.mem_cons_of_mem _ wd_0)) hd8_L_step (by decide) (by decide) hhs (bo_hkp hS) hK hP hD hS (fun _ h => h) rfl hl.1 rfl (Nat.le_of_ble_eq_true rfl) dd_W_324 (show 112 + k + 1 ≤ 601024 ∧ 23747 + 6 * k + 6 ≤ 7293034 from ⟨by omega, by omega⟩) (fun r w8 H locs hu hP hD hS _ => ?_)
  obtain ⟨hr, X1, g, hX1, hg, hw⟩ := hu
  subst hr
  subst hw
  have hP : va_P D bo_cl (bo_out cJ oa g :: (X1 ++ Y)) H := hP
  have hD : va_D (fun q => s.heap.size ≤ q) (bo_out cJ oa g :: (X1 ++ Y)) := hD
  refine lv_istore (lv' := [(5, .int r), (0, .ref b), (1, .ref fo), (2, .ref mo), (3, .ref oa), (4, .int (nI (4 * k)))]) hx hb dd_W_327 hl (by decide) rfl (fun ls hl => ?_)
  refine lv_aload_n hx hb dd_W_329 rfl (lv_at hl 3 rfl) ?_
  refine lv_aload_n hx hb dd_W_330 rfl (lv_at hl 1 rfl) ?_
  refine lv_iload hx hb dd_W_331 (lv_at hl 5 rfl) ?_
  refine lv_iconst (v := nI 1) hx hb dd_W_333 (by decide) ?_
  refine bo_iadd hx hb dd_W_334 ?_
  refine bo_sld hx hb hX0 hbl hbA hS (i := 4 * k + 1) (by omega) hL dd_W_335 ?_
  have hat9 : bo_at0 mo 10 (bo_out cJ oa g :: (X1 ++ Y)) := bo_at0.cons (bo_at0.app2 hat)
  refine bo_cV (bo_frR_i (bo_frR_i hM X1) [bo_out cJ oa g]) ⟨hx, hb, hml, hown, hts⟩ (cwV 1 hts (bo_gV9 wd_1052 wd_1053 wd_1054 wd_11 wd_1055) rfl rfl rfl hd9_M_step (by decide)) hK hP hD hS (fun _ h => h) hat9 rfl rfl rfl hl.1 rfl (Nat.le_of_ble_eq_true rfl) dd_W_336 (show 112 + k + 1 + 0 ≤ 601024 ∧ 23747 + 6 * k + 6 + 0 ≤ 7293034 from ⟨by omega, by omega⟩) (fun r2 Y1 H locs hu hP hD hS => ?_)
  obtain ⟨hr, hY1⟩ := hu
  subst hr
  have hP : va_P D bo_cl (bo_out cJ oa g :: (X1 ++ Y1)) H := hP
  have hD : va_D (fun q => s.heap.size ≤ q) (bo_out cJ oa g :: (X1 ++ Y1)) := hD
  refine lv_istore (lv' := [(6, .int r2), (5, .int r), (0, .ref b), (1, .ref fo), (2, .ref mo), (3, .ref oa), (4, .int (nI (4 * k)))]) hx hb dd_W_339 hl (by decide) rfl (fun ls hl => ?_)
  refine lv_aload_n hx hb dd_W_341 rfl (lv_at hl 4 rfl) ?_
  obtain ⟨hat, hT1⟩ := hT _ hY1
  have hat9 : bo_at0 mo 10 (bo_out cJ oa g :: (X1 ++ Y1)) := bo_at0.cons (bo_at0.app2 hat)
  refine bo_cV (bo_frR_i (bo_frR_i hT1 X1) [bo_out cJ oa g]) ⟨hx, hb, hml, hown, hts⟩ (cwV 0 hts (bo_gV9 wd_950 wd_951 wd_952 wd_11 wd_953) rfl rfl rfl hd9_M_thrown (by decide)) hK hP hD hS (fun _ h => h) hat9 rfl rfl rfl hl.1 rfl (Nat.le_of_ble_eq_true rfl) dd_W_342 (show 112 + k + 1 + 0 + 0 ≤ 601024 ∧ 23747 + 6 * k + 6 + 0 + 0 ≤ 7293034 from ⟨by omega, by omega⟩) (fun r3 Y2 H locs hu hP hD hS => ?_)
  obtain ⟨hr, hY2⟩ := hu
  subst hr
  have hP : va_P D bo_cl (bo_out cJ oa g :: (X1 ++ Y2)) H := hP
  have hD : va_D (fun q => s.heap.size ≤ q) (bo_out cJ oa g :: (X1 ++ Y2)) := hD
  refine lv_iload hx hb dd_W_345 (lv_at hl 1 rfl) ?_
  refine lv_icmp_eq (tgt := 352) hx hb dd_W_347 rfl (fun _ => ?_) (fun q => absurd rfl q)
  refine lv_iload hx hb dd_W_352 (lv_at hl 1 rfl) ?_
  have hfin : W p l e room_1 s m #[Value.ref b] below meth c H locs (112 + k + 1 + 0 + 0) (23747 + 6 * k + 6 + 0 + 0) Q (F0 m 369 ls []) := by
    refine lv_goto (tgt := 641) hx hb dd_W_369 rfl ?_
    refine W.widen (k := 112 + (k + 1)) (n := 23747 + 6 * (k + 1)) (show 112 + k + 1 + 0 + 0 ≤ 112 + (k + 1) by omega) (show 23747 + 6 * k + 6 + 0 + 0 ≤ 23747 + 6 * (k + 1) by omega) ?_
    exact nx _ _ _ _ _ _ (hN _ _ hX1 hY2) hP hD hS (lv_sub hl [2, 3, 4, 5, 6] rfl)
  refine lv_if_ne (tgt := 369) hx hb dd_W_354 rfl (fun _ => hfin) (fun q0 => ?_)
  have hg0 := hg (q0.trans nI_0.symm)
  refine lv_aload_n hx hb dd_W_357 rfl (lv_at hl 5 rfl) ?_
  refine lv_iconst (v := nI 0) hx hb dd_W_358 (by decide) ?_
  refine bo_lald hx hb hK hP 0 0 rfl rfl (k := 0) (by decide) (by decide) dd_W_359 ?_
  refine lv_iload hx hb dd_W_360 (lv_at hl 0 rfl) ?_
  refine lv_i2l (v := r2.toInt64) hx hb dd_W_362 rfl ?_
  refine W.lcmp hx hb dd_W_363 ?_
  refine lv_if_eq (tgt := 369) hx hb dd_W_364 rfl (fun _ => hfin) (fun q => absurd ((lc_all _ _).2.2.1.mpr hg0) q)

set_option maxHeartbeats 4000000 in
theorem lw_state {p : Program} {l : Launch} {e : Env} {s : State} {m : MethodId} {below : List Frame} {meth : Method} {c : Code} {Q : State → Prop} {b L : Nat} {xs : Nat → Int32} {D : va_G} {cJ cI cB cY : ClassId} {fo mo oa k : Nat} {X Y : va_W} {f : Nat → Int64} {H : Heap} {locs : List Loc} {ls : Array Slot} (C0 : LC p l s m c b L xs D cJ cI cB cY) (hk4 : 4 * k + 4 ≤ L) (nx : lw_z p l e s m below meth c Q b D cJ cI cB cY fo mo oa 641 k (k + 1)) (hJ : GJ cJ cI cB cY k fo mo X Y) (hP : va_P D bo_cl (bo_out cJ oa f :: (X ++ Y)) H) (hD : va_D (fun q => s.heap.size ≤ q) (bo_out cJ oa f :: (X ++ Y))) (hS : va_S (fun q => s.heap.size ≤ q) s.heap H locs) (hl : lv_has ls 7 (lw_l b fo mo oa k)) : W p l e room_1 s m #[Value.ref b] below meth c H locs (112 + k) (23747 + 6 * k) Q (F0 m 372 ls []) := by
  obtain ⟨hx, hb, hml, hown, hts, hX0, hbl, hhs, hK, hlst, hL⟩ := C0
  have hbA : ¬ s.heap.size ≤ b := Nat.not_le.mpr hbl
  have hk : k ≤ 512 := by omega
  obtain ⟨rv, PX, PY, hF, hM, hN⟩ := lk_state (l := l) (D := D) (xs (4 * k + 1)) hk hJ
  have hat := hJ.F
  refine lv_aload_n hx hb dd_W_372 rfl (lv_at hl 1 rfl) ?_
  refine lv_aload_n hx hb dd_W_373 rfl (lv_at hl 0 rfl) ?_
  refine lv_iload hx hb dd_W_374 (lv_at hl 4 rfl) ?_
  refine lv_iconst (v := nI 1) hx hb dd_W_376 (by decide) ?_
  refine bo_iadd hx hb dd_W_377 ?_
  refine bo_sld hx hb hX0 hbl hbA hS (i := 4 * k + 1) (by omega) hL dd_W_378 ?_
  have hat9 : bo_at0 fo 0 (bo_out cJ oa f :: (X ++ Y)) := bo_at0.cons (bo_at0.app hat)
  refine bo_cV (bo_frR_i (bo_frL_i hF Y) [bo_out cJ oa f]) ⟨hx, hb, hml, hown, hts⟩ (cwV 1 hts (bo_gV9 wd_423 wd_424 wd_425 wd_1 wd_426) rfl rfl rfl hd9_F_state (by decide)) hK hP hD hS (fun _ h => h) hat9 rfl rfl rfl hl.1 rfl (Nat.le_of_ble_eq_true rfl) dd_W_379 (show 112 + k + 0 ≤ 601024 ∧ 23747 + 6 * k + 0 ≤ 7293034 from ⟨by omega, by omega⟩) (fun r X1 H locs hu hP hD hS => ?_)
  obtain ⟨hr, hX1⟩ := hu
  subst hr
  have hP : va_P D bo_cl (bo_out cJ oa f :: (X1 ++ Y)) H := hP
  have hD : va_D (fun q => s.heap.size ≤ q) (bo_out cJ oa f :: (X1 ++ Y)) := hD
  have hat := hJ.M
  refine lv_aload_n hx hb dd_W_382 rfl (lv_at hl 2 rfl) ?_
  refine lv_aload_n hx hb dd_W_383 rfl (lv_at hl 0 rfl) ?_
  refine lv_iload hx hb dd_W_384 (lv_at hl 4 rfl) ?_
  refine lv_iconst (v := nI 1) hx hb dd_W_386 (by decide) ?_
  refine bo_iadd hx hb dd_W_387 ?_
  refine bo_sld hx hb hX0 hbl hbA hS (i := 4 * k + 1) (by omega) hL dd_W_388 ?_
  have hat9 : bo_at0 mo 10 (bo_out cJ oa f :: (X1 ++ Y)) := bo_at0.cons (bo_at0.app2 hat)
  refine bo_cV (bo_frR_i (bo_frR_i hM X1) [bo_out cJ oa f]) ⟨hx, hb, hml, hown, hts⟩ (cwV 1 hts (bo_gV9 wd_1105 wd_1106 wd_1107 wd_11 wd_1108) rfl rfl rfl hd9_M_state (by decide)) hK hP hD hS (fun _ h => h) hat9 rfl rfl rfl hl.1 rfl (Nat.le_of_ble_eq_true rfl) dd_W_389 (show 112 + k + 0 + 0 ≤ 601024 ∧ 23747 + 6 * k + 0 + 0 ≤ 7293034 from ⟨by omega, by omega⟩) (fun r2 Y1 H locs hu hP hD hS => ?_)
  obtain ⟨hr, hY1⟩ := hu
  subst hr
  have hP : va_P D bo_cl (bo_out cJ oa f :: (X1 ++ Y1)) H := hP
  have hD : va_D (fun q => s.heap.size ≤ q) (bo_out cJ oa f :: (X1 ++ Y1)) := hD
  refine lv_icmp_eq (tgt := 641) hx hb dd_W_392 rfl (fun _ => ?_) (fun q => absurd rfl q)
  refine W.widen (k := 112 + (k + 1)) (n := 23747 + 6 * (k + 1)) (show 112 + k + 0 + 0 ≤ 112 + (k + 1) by omega) (show 23747 + 6 * k + 0 + 0 ≤ 23747 + 6 * (k + 1) by omega) ?_
  exact nx _ _ _ _ _ _ (hN _ _ hX1 hY1) hP hD hS hl

set_option maxHeartbeats 4000000 in
theorem lw_box {p : Program} {l : Launch} {e : Env} {s : State} {m : MethodId} {below : List Frame} {meth : Method} {c : Code} {Q : State → Prop} {b L : Nat} {xs : Nat → Int32} {D : va_G} {cJ cI cB cY : ClassId} {fo mo oa k : Nat} {X Y : va_W} {f : Nat → Int64} {H : Heap} {locs : List Loc} {ls : Array Slot} (C0 : LC p l s m c b L xs D cJ cI cB cY) (hk4 : 4 * k + 4 ≤ L) (nx : lw_z p l e s m below meth c Q b D cJ cI cB cY fo mo oa 641 k (k + 1)) (hJ : GJ cJ cI cB cY k fo mo X Y) (hP : va_P D bo_cl (bo_out cJ oa f :: (X ++ Y)) H) (hD : va_D (fun q => s.heap.size ≤ q) (bo_out cJ oa f :: (X ++ Y))) (hS : va_S (fun q => s.heap.size ≤ q) s.heap H locs) (hl : lv_has ls 7 (lw_l b fo mo oa k)) : W p l e room_1 s m #[Value.ref b] below meth c H locs (112 + k) (23747 + 6 * k) Q (F0 m 397 ls []) := by
  obtain ⟨hx, hb, hml, hown, hts, hX0, hbl, hhs, hK, hlst, hL⟩ := C0
  have hbA : ¬ s.heap.size ≤ b := Nat.not_le.mpr hbl
  have hk : k ≤ 512 := by omega
  obtain ⟨kv, rv, PX, PY, hH, hM, hT, hN⟩ := lk_box (l := l) (D := D) hlst (oa := oa) (xs (4 * k + 1)) (xs (4 * k + 2)) (xs (4 * k + 3)) hk hJ
  have hat := hJ.M
  refine lv_aload_n hx hb dd_W_397 rfl (lv_at hl 1 rfl) ?_
  refine lv_aload_n hx hb dd_W_398 rfl (lv_at hl 0 rfl) ?_
  refine lv_iload hx hb dd_W_399 (lv_at hl 4 rfl) ?_
  refine lv_iconst (v := nI 1) hx hb dd_W_401 (by decide) ?_
  refine bo_iadd hx hb dd_W_402 ?_
  refine bo_sld hx hb hX0 hbl hbA hS (i := 4 * k + 1) (by omega) hL dd_W_403 ?_
  refine lv_aload_n hx hb dd_W_404 rfl (lv_at hl 0 rfl) ?_
  refine lv_iload hx hb dd_W_405 (lv_at hl 4 rfl) ?_
  refine lv_iconst (v := nI 2) hx hb dd_W_407 (by decide) ?_
  refine bo_iadd hx hb dd_W_408 ?_
  refine bo_sld hx hb hX0 hbl hbA hS (i := 4 * k + 2) (by omega) hL dd_W_409 ?_
  refine lv_aload_n hx hb dd_W_410 rfl (lv_at hl 0 rfl) ?_
  refine lv_iload hx hb dd_W_411 (lv_at hl 4 rfl) ?_
  refine lv_iconst (v := nI 3) hx hb dd_W_413 (by decide) ?_
  refine bo_iadd hx hb dd_W_414 ?_
  refine bo_sld hx hb hX0 hbl hbA hS (i := 4 * k + 3) (by omega) hL dd_W_415 ?_
  refine lv_aload_n hx hb dd_W_416 rfl (lv_at hl 3 rfl) ?_
  refine bo_cH (bo_frL_h (hH f) Y) ⟨hx, hb, hml, hown, hts⟩ (bo_hw hts wd_722) (hts _ (List.mem_cons_of_mem _ wd_720)) (hts _ (List.mem_cons_of_mem _ wd_721)) (hts _ (List.mem_cons_of_mem _ wd_0)) hd8_L_box (by decide) (by decide) hhs (bo_hkp hS) hK hP hD hS (fun _ h => h) rfl hl.1 rfl (Nat.le_of_ble_eq_true rfl) dd_W_417 (show 112 + k + 1 ≤ 601024 ∧ 23747 + 6 * k + 6 ≤ 7293034 from ⟨by omega, by omega⟩) (fun r w8 H locs hu hP hD hS _ => ?_)
  obtain ⟨hr, X1, g, hX1, hg, hw⟩ := hu
  subst hr
  subst hw
  have hP : va_P D bo_cl (bo_out cJ oa g :: (X1 ++ Y)) H := hP
  have hD : va_D (fun q => s.heap.size ≤ q) (bo_out cJ oa g :: (X1 ++ Y)) := hD
  refine lv_istore (lv' := [(5, .int r), (0, .ref b), (1, .ref fo), (2, .ref mo), (3, .ref oa), (4, .int (nI (4 * k)))]) hx hb dd_W_420 hl (by decide) rfl (fun ls hl => ?_)
  refine lv_aload_n hx hb dd_W_422 rfl (lv_at hl 3 rfl) ?_
  refine lv_aload_n hx hb dd_W_423 rfl (lv_at hl 1 rfl) ?_
  refine lv_iload hx hb dd_W_424 (lv_at hl 5 rfl) ?_
  refine lv_iconst (v := nI 1) hx hb dd_W_426 (by decide) ?_
  refine bo_iadd hx hb dd_W_427 ?_
  refine bo_sld hx hb hX0 hbl hbA hS (i := 4 * k + 1) (by omega) hL dd_W_428 ?_
  refine lv_aload_n hx hb dd_W_429 rfl (lv_at hl 1 rfl) ?_
  refine lv_iload hx hb dd_W_430 (lv_at hl 5 rfl) ?_
  refine lv_iconst (v := nI 2) hx hb dd_W_432 (by decide) ?_
  refine bo_iadd hx hb dd_W_433 ?_
  refine bo_sld hx hb hX0 hbl hbA hS (i := 4 * k + 2) (by omega) hL dd_W_434 ?_
  refine lv_aload_n hx hb dd_W_435 rfl (lv_at hl 1 rfl) ?_
  refine lv_iload hx hb dd_W_436 (lv_at hl 5 rfl) ?_
  refine lv_iconst (v := nI 3) hx hb dd_W_438 (by decide) ?_
  refine bo_iadd hx hb dd_W_439 ?_
  refine bo_sld hx hb hX0 hbl hbA hS (i := 4 * k + 3) (by omega) hL dd_W_440 ?_
  have hat9 : bo_at0 mo 10 (bo_out cJ oa g :: (X1 ++ Y)) := bo_at0.cons (bo_at0.app2 hat)
  refine bo_cV (bo_frR_i (bo_frR_i hM X1) [bo_out cJ oa g]) ⟨hx, hb, hml, hown, hts⟩ (cwV 3 hts (bo_gV9 wd_1109 wd_1110 wd_1111 wd_11 wd_1112) rfl rfl rfl hd9_M_box (by decide)) hK hP hD hS (fun _ h => h) hat9 rfl rfl rfl hl.1 rfl (Nat.le_of_ble_eq_true rfl) dd_W_441 (show 112 + k + 1 + 0 ≤ 601024 ∧ 23747 + 6 * k + 6 + 0 ≤ 7293034 from ⟨by omega, by omega⟩) (fun r2 Y1 H locs hu hP hD hS => ?_)
  obtain ⟨hr, hY1⟩ := hu
  subst hr
  have hP : va_P D bo_cl (bo_out cJ oa g :: (X1 ++ Y1)) H := hP
  have hD : va_D (fun q => s.heap.size ≤ q) (bo_out cJ oa g :: (X1 ++ Y1)) := hD
  refine lv_istore (lv' := [(6, .int r2), (5, .int r), (0, .ref b), (1, .ref fo), (2, .ref mo), (3, .ref oa), (4, .int (nI (4 * k)))]) hx hb dd_W_444 hl (by decide) rfl (fun ls hl => ?_)
  refine lv_aload_n hx hb dd_W_446 rfl (lv_at hl 4 rfl) ?_
  obtain ⟨hat, hT1⟩ := hT _ hY1
  have hat9 : bo_at0 mo 10 (bo_out cJ oa g :: (X1 ++ Y1)) := bo_at0.cons (bo_at0.app2 hat)
  refine bo_cV (bo_frR_i (bo_frR_i hT1 X1) [bo_out cJ oa g]) ⟨hx, hb, hml, hown, hts⟩ (cwV 0 hts (bo_gV9 wd_950 wd_951 wd_952 wd_11 wd_953) rfl rfl rfl hd9_M_thrown (by decide)) hK hP hD hS (fun _ h => h) hat9 rfl rfl rfl hl.1 rfl (Nat.le_of_ble_eq_true rfl) dd_W_447 (show 112 + k + 1 + 0 + 0 ≤ 601024 ∧ 23747 + 6 * k + 6 + 0 + 0 ≤ 7293034 from ⟨by omega, by omega⟩) (fun r3 Y2 H locs hu hP hD hS => ?_)
  obtain ⟨hr, hY2⟩ := hu
  subst hr
  have hP : va_P D bo_cl (bo_out cJ oa g :: (X1 ++ Y2)) H := hP
  have hD : va_D (fun q => s.heap.size ≤ q) (bo_out cJ oa g :: (X1 ++ Y2)) := hD
  refine lv_iload hx hb dd_W_450 (lv_at hl 1 rfl) ?_
  refine lv_icmp_eq (tgt := 457) hx hb dd_W_452 rfl (fun _ => ?_) (fun q => absurd rfl q)
  refine lv_iload hx hb dd_W_457 (lv_at hl 1 rfl) ?_
  have hfin : W p l e room_1 s m #[Value.ref b] below meth c H locs (112 + k + 1 + 0 + 0) (23747 + 6 * k + 6 + 0 + 0) Q (F0 m 474 ls []) := by
    refine lv_goto (tgt := 641) hx hb dd_W_474 rfl ?_
    refine W.widen (k := 112 + (k + 1)) (n := 23747 + 6 * (k + 1)) (show 112 + k + 1 + 0 + 0 ≤ 112 + (k + 1) by omega) (show 23747 + 6 * k + 6 + 0 + 0 ≤ 23747 + 6 * (k + 1) by omega) ?_
    exact nx _ _ _ _ _ _ (hN _ _ hX1 hY2) hP hD hS (lv_sub hl [2, 3, 4, 5, 6] rfl)
  refine lv_if_ne (tgt := 474) hx hb dd_W_459 rfl (fun _ => hfin) (fun q0 => ?_)
  have hg0 := hg (q0.trans nI_0.symm)
  refine lv_aload_n hx hb dd_W_462 rfl (lv_at hl 5 rfl) ?_
  refine lv_iconst (v := nI 0) hx hb dd_W_463 (by decide) ?_
  refine bo_lald hx hb hK hP 0 0 rfl rfl (k := 0) (by decide) (by decide) dd_W_464 ?_
  refine lv_iload hx hb dd_W_465 (lv_at hl 0 rfl) ?_
  refine lv_i2l (v := r2.toInt64) hx hb dd_W_467 rfl ?_
  refine W.lcmp hx hb dd_W_468 ?_
  refine lv_if_eq (tgt := 474) hx hb dd_W_469 rfl (fun _ => hfin) (fun q => absurd ((lc_all _ _).2.2.1.mpr hg0) q)

set_option maxHeartbeats 4000000 in
theorem lw_crossing {p : Program} {l : Launch} {e : Env} {s : State} {m : MethodId} {below : List Frame} {meth : Method} {c : Code} {Q : State → Prop} {b L : Nat} {xs : Nat → Int32} {D : va_G} {cJ cI cB cY : ClassId} {fo mo oa k : Nat} {X Y : va_W} {f : Nat → Int64} {H : Heap} {locs : List Loc} {ls : Array Slot} (C0 : LC p l s m c b L xs D cJ cI cB cY) (hk4 : 4 * k + 4 ≤ L) (nx : lw_z p l e s m below meth c Q b D cJ cI cB cY fo mo oa 641 k (k + 1)) (hJ : GJ cJ cI cB cY k fo mo X Y) (hP : va_P D bo_cl (bo_out cJ oa f :: (X ++ Y)) H) (hD : va_D (fun q => s.heap.size ≤ q) (bo_out cJ oa f :: (X ++ Y))) (hS : va_S (fun q => s.heap.size ≤ q) s.heap H locs) (hl : lv_has ls 7 (lw_l b fo mo oa k)) : W p l e room_1 s m #[Value.ref b] below meth c H locs (112 + k) (23747 + 6 * k) Q (F0 m 477 ls []) := by
  obtain ⟨hx, hb, hml, hown, hts, hX0, hbl, hhs, hK, hlst, hL⟩ := C0
  have hbA : ¬ s.heap.size ≤ b := Nat.not_le.mpr hbl
  have hk : k ≤ 512 := by omega
  obtain ⟨kv, rv, PX, PY, hH, hM, hT, hN⟩ := lk_crossing (l := l) (D := D) hlst (oa := oa) (xs (4 * k + 1)) (xs (4 * k + 2)) hk hJ
  have hat := hJ.M
  refine lv_aload_n hx hb dd_W_477 rfl (lv_at hl 1 rfl) ?_
  refine lv_aload_n hx hb dd_W_478 rfl (lv_at hl 0 rfl) ?_
  refine lv_iload hx hb dd_W_479 (lv_at hl 4 rfl) ?_
  refine lv_iconst (v := nI 1) hx hb dd_W_481 (by decide) ?_
  refine bo_iadd hx hb dd_W_482 ?_
  refine bo_sld hx hb hX0 hbl hbA hS (i := 4 * k + 1) (by omega) hL dd_W_483 ?_
  refine lv_aload_n hx hb dd_W_484 rfl (lv_at hl 0 rfl) ?_
  refine lv_iload hx hb dd_W_485 (lv_at hl 4 rfl) ?_
  refine lv_iconst (v := nI 2) hx hb dd_W_487 (by decide) ?_
  refine bo_iadd hx hb dd_W_488 ?_
  refine bo_sld hx hb hX0 hbl hbA hS (i := 4 * k + 2) (by omega) hL dd_W_489 ?_
  refine lv_aload_n hx hb dd_W_490 rfl (lv_at hl 3 rfl) ?_
  refine bo_cH (bo_frL_h (hH f) Y) ⟨hx, hb, hml, hown, hts⟩ (bo_hw hts wd_758) (hts _ (List.mem_cons_of_mem _ wd_756)) (hts _ (List.mem_cons_of_mem _ wd_757)) (hts _ (List.mem_cons_of_mem _ wd_0)) hd8_L_crossing (by decide) (by decide) hhs (bo_hkp hS) hK hP hD hS (fun _ h => h) rfl hl.1 rfl (Nat.le_of_ble_eq_true rfl) dd_W_491 (show 112 + k + 1 ≤ 601024 ∧ 23747 + 6 * k + 6 ≤ 7293034 from ⟨by omega, by omega⟩) (fun r w8 H locs hu hP hD hS _ => ?_)
  obtain ⟨hr, X1, g, hX1, hg, hw⟩ := hu
  subst hr
  subst hw
  have hP : va_P D bo_cl (bo_out cJ oa g :: (X1 ++ Y)) H := hP
  have hD : va_D (fun q => s.heap.size ≤ q) (bo_out cJ oa g :: (X1 ++ Y)) := hD
  refine lv_istore (lv' := [(5, .int r), (0, .ref b), (1, .ref fo), (2, .ref mo), (3, .ref oa), (4, .int (nI (4 * k)))]) hx hb dd_W_494 hl (by decide) rfl (fun ls hl => ?_)
  refine lv_aload_n hx hb dd_W_496 rfl (lv_at hl 3 rfl) ?_
  refine lv_aload_n hx hb dd_W_497 rfl (lv_at hl 1 rfl) ?_
  refine lv_iload hx hb dd_W_498 (lv_at hl 5 rfl) ?_
  refine lv_iconst (v := nI 1) hx hb dd_W_500 (by decide) ?_
  refine bo_iadd hx hb dd_W_501 ?_
  refine bo_sld hx hb hX0 hbl hbA hS (i := 4 * k + 1) (by omega) hL dd_W_502 ?_
  refine lv_aload_n hx hb dd_W_503 rfl (lv_at hl 1 rfl) ?_
  refine lv_iload hx hb dd_W_504 (lv_at hl 5 rfl) ?_
  refine lv_iconst (v := nI 2) hx hb dd_W_506 (by decide) ?_
  refine bo_iadd hx hb dd_W_507 ?_
  refine bo_sld hx hb hX0 hbl hbA hS (i := 4 * k + 2) (by omega) hL dd_W_508 ?_
  have hat9 : bo_at0 mo 10 (bo_out cJ oa g :: (X1 ++ Y)) := bo_at0.cons (bo_at0.app2 hat)
  refine bo_cV (bo_frR_i (bo_frR_i hM X1) [bo_out cJ oa g]) ⟨hx, hb, hml, hown, hts⟩ (cwV 2 hts (bo_gV9 wd_1113 wd_1114 wd_1115 wd_11 wd_1116) rfl rfl rfl hd9_M_crossing (by decide)) hK hP hD hS (fun _ h => h) hat9 rfl rfl rfl hl.1 rfl (Nat.le_of_ble_eq_true rfl) dd_W_509 (show 112 + k + 1 + 0 ≤ 601024 ∧ 23747 + 6 * k + 6 + 0 ≤ 7293034 from ⟨by omega, by omega⟩) (fun r2 Y1 H locs hu hP hD hS => ?_)
  obtain ⟨hr, hY1⟩ := hu
  subst hr
  have hP : va_P D bo_cl (bo_out cJ oa g :: (X1 ++ Y1)) H := hP
  have hD : va_D (fun q => s.heap.size ≤ q) (bo_out cJ oa g :: (X1 ++ Y1)) := hD
  refine lv_istore (lv' := [(6, .int r2), (5, .int r), (0, .ref b), (1, .ref fo), (2, .ref mo), (3, .ref oa), (4, .int (nI (4 * k)))]) hx hb dd_W_512 hl (by decide) rfl (fun ls hl => ?_)
  refine lv_aload_n hx hb dd_W_514 rfl (lv_at hl 4 rfl) ?_
  obtain ⟨hat, hT1⟩ := hT _ hY1
  have hat9 : bo_at0 mo 10 (bo_out cJ oa g :: (X1 ++ Y1)) := bo_at0.cons (bo_at0.app2 hat)
  refine bo_cV (bo_frR_i (bo_frR_i hT1 X1) [bo_out cJ oa g]) ⟨hx, hb, hml, hown, hts⟩ (cwV 0 hts (bo_gV9 wd_950 wd_951 wd_952 wd_11 wd_953) rfl rfl rfl hd9_M_thrown (by decide)) hK hP hD hS (fun _ h => h) hat9 rfl rfl rfl hl.1 rfl (Nat.le_of_ble_eq_true rfl) dd_W_515 (show 112 + k + 1 + 0 + 0 ≤ 601024 ∧ 23747 + 6 * k + 6 + 0 + 0 ≤ 7293034 from ⟨by omega, by omega⟩) (fun r3 Y2 H locs hu hP hD hS => ?_)
  obtain ⟨hr, hY2⟩ := hu
  subst hr
  have hP : va_P D bo_cl (bo_out cJ oa g :: (X1 ++ Y2)) H := hP
  have hD : va_D (fun q => s.heap.size ≤ q) (bo_out cJ oa g :: (X1 ++ Y2)) := hD
  refine lv_iload hx hb dd_W_518 (lv_at hl 1 rfl) ?_
  refine lv_icmp_eq (tgt := 525) hx hb dd_W_520 rfl (fun _ => ?_) (fun q => absurd rfl q)
  refine lv_iload hx hb dd_W_525 (lv_at hl 1 rfl) ?_
  have hfin : W p l e room_1 s m #[Value.ref b] below meth c H locs (112 + k + 1 + 0 + 0) (23747 + 6 * k + 6 + 0 + 0) Q (F0 m 542 ls []) := by
    refine lv_goto (tgt := 641) hx hb dd_W_542 rfl ?_
    refine W.widen (k := 112 + (k + 1)) (n := 23747 + 6 * (k + 1)) (show 112 + k + 1 + 0 + 0 ≤ 112 + (k + 1) by omega) (show 23747 + 6 * k + 6 + 0 + 0 ≤ 23747 + 6 * (k + 1) by omega) ?_
    exact nx _ _ _ _ _ _ (hN _ _ hX1 hY2) hP hD hS (lv_sub hl [2, 3, 4, 5, 6] rfl)
  refine lv_if_ne (tgt := 542) hx hb dd_W_527 rfl (fun _ => hfin) (fun q0 => ?_)
  have hg0 := hg (q0.trans nI_0.symm)
  refine lv_aload_n hx hb dd_W_530 rfl (lv_at hl 5 rfl) ?_
  refine lv_iconst (v := nI 0) hx hb dd_W_531 (by decide) ?_
  refine bo_lald hx hb hK hP 0 0 rfl rfl (k := 0) (by decide) (by decide) dd_W_532 ?_
  refine lv_iload hx hb dd_W_533 (lv_at hl 0 rfl) ?_
  refine lv_i2l (v := r2.toInt64) hx hb dd_W_535 rfl ?_
  refine W.lcmp hx hb dd_W_536 ?_
  refine lv_if_eq (tgt := 542) hx hb dd_W_537 rfl (fun _ => hfin) (fun q => absurd ((lc_all _ _).2.2.1.mpr hg0) q)

set_option maxHeartbeats 4000000 in
theorem lw_coefficient0 {p : Program} {l : Launch} {e : Env} {s : State} {m : MethodId} {below : List Frame} {meth : Method} {c : Code} {Q : State → Prop} {b L : Nat} {xs : Nat → Int32} {D : va_G} {cJ cI cB cY : ClassId} {fo mo oa k : Nat} {X Y : va_W} {f : Nat → Int64} {H : Heap} {locs : List Loc} {ls : Array Slot} (C0 : LC p l s m c b L xs D cJ cI cB cY) (hk4 : 4 * k + 4 ≤ L) (nx : lw_z p l e s m below meth c Q b D cJ cI cB cY fo mo oa 641 k (k + 1)) (hJ : GJ cJ cI cB cY k fo mo X Y) (hP : va_P D bo_cl (bo_out cJ oa f :: (X ++ Y)) H) (hD : va_D (fun q => s.heap.size ≤ q) (bo_out cJ oa f :: (X ++ Y))) (hS : va_S (fun q => s.heap.size ≤ q) s.heap H locs) (hl : lv_has ls 7 (lw_l b fo mo oa k)) (hz : xs (4 * k + 3) = 0) : W p l e room_1 s m #[Value.ref b] below meth c H locs (112 + k) (23747 + 6 * k) Q (F0 m 545 ls []) := by
  obtain ⟨hx, hb, hml, hown, hts, hX0, hbl, hhs, hK, hlst, hL⟩ := C0
  have hbA : ¬ s.heap.size ≤ b := Nat.not_le.mpr hbl
  have hk : k ≤ 512 := by omega
  obtain ⟨kv, rv, PX, PY, hH, hM, hT, hN⟩ := lk_coefficient (l := l) (D := D) hlst (oa := oa) (xs (4 * k + 1)) (xs (4 * k + 2)) (nI 0) hk hJ
  have hat := hJ.M
  refine lv_aload_n hx hb dd_W_545 rfl (lv_at hl 1 rfl) ?_
  refine lv_aload_n hx hb dd_W_546 rfl (lv_at hl 0 rfl) ?_
  refine lv_iload hx hb dd_W_547 (lv_at hl 4 rfl) ?_
  refine lv_iconst (v := nI 1) hx hb dd_W_549 (by decide) ?_
  refine bo_iadd hx hb dd_W_550 ?_
  refine bo_sld hx hb hX0 hbl hbA hS (i := 4 * k + 1) (by omega) hL dd_W_551 ?_
  refine lv_aload_n hx hb dd_W_552 rfl (lv_at hl 0 rfl) ?_
  refine lv_iload hx hb dd_W_553 (lv_at hl 4 rfl) ?_
  refine lv_iconst (v := nI 2) hx hb dd_W_555 (by decide) ?_
  refine bo_iadd hx hb dd_W_556 ?_
  refine bo_sld hx hb hX0 hbl hbA hS (i := 4 * k + 2) (by omega) hL dd_W_557 ?_
  refine lv_aload_n hx hb dd_W_558 rfl (lv_at hl 0 rfl) ?_
  refine lv_iload hx hb dd_W_559 (lv_at hl 4 rfl) ?_
  refine lv_iconst (v := nI 3) hx hb dd_W_561 (by decide) ?_
  refine bo_iadd hx hb dd_W_562 ?_
  refine bo_sld hx hb hX0 hbl hbA hS (i := 4 * k + 3) (by omega) hL dd_W_563 ?_
  refine lv_if_eq (tgt := 571) hx hb dd_W_564 rfl (fun _ => ?_) (fun q => absurd hz q)
  refine lv_iconst (v := nI 0) hx hb dd_W_571 (by decide) ?_
  refine lv_aload_n hx hb dd_W_572 rfl (lv_at hl 3 rfl) ?_
  refine bo_cH (bo_frL_h (hH f) Y) ⟨hx, hb, hml, hown, hts⟩ (bo_hw hts wd_774) (hts _ (List.mem_cons_of_mem _ wd_772)) (hts _ (List.mem_cons_of_mem _ wd_773)) (hts _ (List.mem_cons_of_mem _ wd_0)) hd8_L_coefficient (by decide) (by decide) hhs (bo_hkp hS) hK hP hD hS (fun _ h => h) rfl hl.1 rfl (Nat.le_of_ble_eq_true rfl) dd_W_573 (show 112 + k + 1 ≤ 601024 ∧ 23747 + 6 * k + 6 ≤ 7293034 from ⟨by omega, by omega⟩) (fun r w8 H locs hu hP hD hS _ => ?_)
  obtain ⟨hr, X1, g, hX1, hg, hw⟩ := hu
  subst hr
  subst hw
  have hP : va_P D bo_cl (bo_out cJ oa g :: (X1 ++ Y)) H := hP
  have hD : va_D (fun q => s.heap.size ≤ q) (bo_out cJ oa g :: (X1 ++ Y)) := hD
  refine lv_istore (lv' := [(5, .int r), (0, .ref b), (1, .ref fo), (2, .ref mo), (3, .ref oa), (4, .int (nI (4 * k)))]) hx hb dd_W_576 hl (by decide) rfl (fun ls hl => ?_)
  refine lv_aload_n hx hb dd_W_578 rfl (lv_at hl 3 rfl) ?_
  refine lv_aload_n hx hb dd_W_579 rfl (lv_at hl 1 rfl) ?_
  refine lv_iload hx hb dd_W_580 (lv_at hl 5 rfl) ?_
  refine lv_iconst (v := nI 1) hx hb dd_W_582 (by decide) ?_
  refine bo_iadd hx hb dd_W_583 ?_
  refine bo_sld hx hb hX0 hbl hbA hS (i := 4 * k + 1) (by omega) hL dd_W_584 ?_
  refine lv_aload_n hx hb dd_W_585 rfl (lv_at hl 1 rfl) ?_
  refine lv_iload hx hb dd_W_586 (lv_at hl 5 rfl) ?_
  refine lv_iconst (v := nI 2) hx hb dd_W_588 (by decide) ?_
  refine bo_iadd hx hb dd_W_589 ?_
  refine bo_sld hx hb hX0 hbl hbA hS (i := 4 * k + 2) (by omega) hL dd_W_590 ?_
  refine lv_aload_n hx hb dd_W_591 rfl (lv_at hl 1 rfl) ?_
  refine lv_iload hx hb dd_W_592 (lv_at hl 5 rfl) ?_
  refine lv_iconst (v := nI 3) hx hb dd_W_594 (by decide) ?_
  refine bo_iadd hx hb dd_W_595 ?_
  refine bo_sld hx hb hX0 hbl hbA hS (i := 4 * k + 3) (by omega) hL dd_W_596 ?_
  refine lv_if_eq (tgt := 604) hx hb dd_W_597 rfl (fun _ => ?_) (fun q => absurd hz q)
  refine lv_iconst (v := nI 0) hx hb dd_W_604 (by decide) ?_
  have hat9 : bo_at0 mo 10 (bo_out cJ oa g :: (X1 ++ Y)) := bo_at0.cons (bo_at0.app2 hat)
  refine bo_cV (bo_frR_i (bo_frR_i hM X1) [bo_out cJ oa g]) ⟨hx, hb, hml, hown, hts⟩ (cwV 3 hts (bo_gV9 wd_1117 wd_1118 wd_1119 wd_11 wd_1120) rfl rfl rfl hd9_M_coefficient (by decide)) hK hP hD hS (fun _ h => h) hat9 rfl rfl rfl hl.1 rfl (Nat.le_of_ble_eq_true rfl) dd_W_605 (show 112 + k + 1 + 0 ≤ 601024 ∧ 23747 + 6 * k + 6 + 0 ≤ 7293034 from ⟨by omega, by omega⟩) (fun r2 Y1 H locs hu hP hD hS => ?_)
  obtain ⟨hr, hY1⟩ := hu
  subst hr
  have hP : va_P D bo_cl (bo_out cJ oa g :: (X1 ++ Y1)) H := hP
  have hD : va_D (fun q => s.heap.size ≤ q) (bo_out cJ oa g :: (X1 ++ Y1)) := hD
  refine lv_istore (lv' := [(6, .int r2), (5, .int r), (0, .ref b), (1, .ref fo), (2, .ref mo), (3, .ref oa), (4, .int (nI (4 * k)))]) hx hb dd_W_608 hl (by decide) rfl (fun ls hl => ?_)
  refine lv_aload_n hx hb dd_W_610 rfl (lv_at hl 4 rfl) ?_
  obtain ⟨hat, hT1⟩ := hT _ hY1
  have hat9 : bo_at0 mo 10 (bo_out cJ oa g :: (X1 ++ Y1)) := bo_at0.cons (bo_at0.app2 hat)
  refine bo_cV (bo_frR_i (bo_frR_i hT1 X1) [bo_out cJ oa g]) ⟨hx, hb, hml, hown, hts⟩ (cwV 0 hts (bo_gV9 wd_950 wd_951 wd_952 wd_11 wd_953) rfl rfl rfl hd9_M_thrown (by decide)) hK hP hD hS (fun _ h => h) hat9 rfl rfl rfl hl.1 rfl (Nat.le_of_ble_eq_true rfl) dd_W_611 (show 112 + k + 1 + 0 + 0 ≤ 601024 ∧ 23747 + 6 * k + 6 + 0 + 0 ≤ 7293034 from ⟨by omega, by omega⟩) (fun r3 Y2 H locs hu hP hD hS => ?_)
  obtain ⟨hr, hY2⟩ := hu
  subst hr
  have hP : va_P D bo_cl (bo_out cJ oa g :: (X1 ++ Y2)) H := hP
  have hD : va_D (fun q => s.heap.size ≤ q) (bo_out cJ oa g :: (X1 ++ Y2)) := hD
  refine lv_iload hx hb dd_W_614 (lv_at hl 1 rfl) ?_
  refine lv_icmp_eq (tgt := 621) hx hb dd_W_616 rfl (fun _ => ?_) (fun q => absurd rfl q)
  refine lv_iload hx hb dd_W_621 (lv_at hl 1 rfl) ?_
  have hfin : W p l e room_1 s m #[Value.ref b] below meth c H locs (112 + k + 1 + 0 + 0) (23747 + 6 * k + 6 + 0 + 0) Q (F0 m 638 ls []) := by
    refine lv_goto (tgt := 641) hx hb dd_W_638 rfl ?_
    refine W.widen (k := 112 + (k + 1)) (n := 23747 + 6 * (k + 1)) (show 112 + k + 1 + 0 + 0 ≤ 112 + (k + 1) by omega) (show 23747 + 6 * k + 6 + 0 + 0 ≤ 23747 + 6 * (k + 1) by omega) ?_
    exact nx _ _ _ _ _ _ (hN _ _ hX1 hY2) hP hD hS (lv_sub hl [2, 3, 4, 5, 6] rfl)
  refine lv_if_ne (tgt := 638) hx hb dd_W_623 rfl (fun _ => hfin) (fun q0 => ?_)
  have hg0 := hg (q0.trans nI_0.symm)
  refine lv_aload_n hx hb dd_W_626 rfl (lv_at hl 5 rfl) ?_
  refine lv_iconst (v := nI 0) hx hb dd_W_627 (by decide) ?_
  refine bo_lald hx hb hK hP 0 0 rfl rfl (k := 0) (by decide) (by decide) dd_W_628 ?_
  refine lv_iload hx hb dd_W_629 (lv_at hl 0 rfl) ?_
  refine lv_i2l (v := r2.toInt64) hx hb dd_W_631 rfl ?_
  refine W.lcmp hx hb dd_W_632 ?_
  refine lv_if_eq (tgt := 638) hx hb dd_W_633 rfl (fun _ => hfin) (fun q => absurd ((lc_all _ _).2.2.1.mpr hg0) q)

set_option maxHeartbeats 4000000 in
theorem lw_coefficient1 {p : Program} {l : Launch} {e : Env} {s : State} {m : MethodId} {below : List Frame} {meth : Method} {c : Code} {Q : State → Prop} {b L : Nat} {xs : Nat → Int32} {D : va_G} {cJ cI cB cY : ClassId} {fo mo oa k : Nat} {X Y : va_W} {f : Nat → Int64} {H : Heap} {locs : List Loc} {ls : Array Slot} (C0 : LC p l s m c b L xs D cJ cI cB cY) (hk4 : 4 * k + 4 ≤ L) (nx : lw_z p l e s m below meth c Q b D cJ cI cB cY fo mo oa 641 k (k + 1)) (hJ : GJ cJ cI cB cY k fo mo X Y) (hP : va_P D bo_cl (bo_out cJ oa f :: (X ++ Y)) H) (hD : va_D (fun q => s.heap.size ≤ q) (bo_out cJ oa f :: (X ++ Y))) (hS : va_S (fun q => s.heap.size ≤ q) s.heap H locs) (hl : lv_has ls 7 (lw_l b fo mo oa k)) (hz : ¬ xs (4 * k + 3) = 0) : W p l e room_1 s m #[Value.ref b] below meth c H locs (112 + k) (23747 + 6 * k) Q (F0 m 545 ls []) := by
  obtain ⟨hx, hb, hml, hown, hts, hX0, hbl, hhs, hK, hlst, hL⟩ := C0
  have hbA : ¬ s.heap.size ≤ b := Nat.not_le.mpr hbl
  have hk : k ≤ 512 := by omega
  obtain ⟨kv, rv, PX, PY, hH, hM, hT, hN⟩ := lk_coefficient (l := l) (D := D) hlst (oa := oa) (xs (4 * k + 1)) (xs (4 * k + 2)) (nI 1) hk hJ
  have hat := hJ.M
  refine lv_aload_n hx hb dd_W_545 rfl (lv_at hl 1 rfl) ?_
  refine lv_aload_n hx hb dd_W_546 rfl (lv_at hl 0 rfl) ?_
  refine lv_iload hx hb dd_W_547 (lv_at hl 4 rfl) ?_
  refine lv_iconst (v := nI 1) hx hb dd_W_549 (by decide) ?_
  refine bo_iadd hx hb dd_W_550 ?_
  refine bo_sld hx hb hX0 hbl hbA hS (i := 4 * k + 1) (by omega) hL dd_W_551 ?_
  refine lv_aload_n hx hb dd_W_552 rfl (lv_at hl 0 rfl) ?_
  refine lv_iload hx hb dd_W_553 (lv_at hl 4 rfl) ?_
  refine lv_iconst (v := nI 2) hx hb dd_W_555 (by decide) ?_
  refine bo_iadd hx hb dd_W_556 ?_
  refine bo_sld hx hb hX0 hbl hbA hS (i := 4 * k + 2) (by omega) hL dd_W_557 ?_
  refine lv_aload_n hx hb dd_W_558 rfl (lv_at hl 0 rfl) ?_
  refine lv_iload hx hb dd_W_559 (lv_at hl 4 rfl) ?_
  refine lv_iconst (v := nI 3) hx hb dd_W_561 (by decide) ?_
  refine bo_iadd hx hb dd_W_562 ?_
  refine bo_sld hx hb hX0 hbl hbA hS (i := 4 * k + 3) (by omega) hL dd_W_563 ?_
  refine lv_if_eq (tgt := 571) hx hb dd_W_564 rfl (fun q => absurd q hz) (fun _ => ?_)
  refine lv_iconst (v := nI 1) hx hb dd_W_567 (by decide) ?_
  refine lv_goto (tgt := 572) hx hb dd_W_568 rfl ?_
  refine lv_aload_n hx hb dd_W_572 rfl (lv_at hl 3 rfl) ?_
  refine bo_cH (bo_frL_h (hH f) Y) ⟨hx, hb, hml, hown, hts⟩ (bo_hw hts wd_774) (hts _ (List.mem_cons_of_mem _ wd_772)) (hts _ (List.mem_cons_of_mem _ wd_773)) (hts _ (List.mem_cons_of_mem _ wd_0)) hd8_L_coefficient (by decide) (by decide) hhs (bo_hkp hS) hK hP hD hS (fun _ h => h) rfl hl.1 rfl (Nat.le_of_ble_eq_true rfl) dd_W_573 (show 112 + k + 1 ≤ 601024 ∧ 23747 + 6 * k + 6 ≤ 7293034 from ⟨by omega, by omega⟩) (fun r w8 H locs hu hP hD hS _ => ?_)
  obtain ⟨hr, X1, g, hX1, hg, hw⟩ := hu
  subst hr
  subst hw
  have hP : va_P D bo_cl (bo_out cJ oa g :: (X1 ++ Y)) H := hP
  have hD : va_D (fun q => s.heap.size ≤ q) (bo_out cJ oa g :: (X1 ++ Y)) := hD
  refine lv_istore (lv' := [(5, .int r), (0, .ref b), (1, .ref fo), (2, .ref mo), (3, .ref oa), (4, .int (nI (4 * k)))]) hx hb dd_W_576 hl (by decide) rfl (fun ls hl => ?_)
  refine lv_aload_n hx hb dd_W_578 rfl (lv_at hl 3 rfl) ?_
  refine lv_aload_n hx hb dd_W_579 rfl (lv_at hl 1 rfl) ?_
  refine lv_iload hx hb dd_W_580 (lv_at hl 5 rfl) ?_
  refine lv_iconst (v := nI 1) hx hb dd_W_582 (by decide) ?_
  refine bo_iadd hx hb dd_W_583 ?_
  refine bo_sld hx hb hX0 hbl hbA hS (i := 4 * k + 1) (by omega) hL dd_W_584 ?_
  refine lv_aload_n hx hb dd_W_585 rfl (lv_at hl 1 rfl) ?_
  refine lv_iload hx hb dd_W_586 (lv_at hl 5 rfl) ?_
  refine lv_iconst (v := nI 2) hx hb dd_W_588 (by decide) ?_
  refine bo_iadd hx hb dd_W_589 ?_
  refine bo_sld hx hb hX0 hbl hbA hS (i := 4 * k + 2) (by omega) hL dd_W_590 ?_
  refine lv_aload_n hx hb dd_W_591 rfl (lv_at hl 1 rfl) ?_
  refine lv_iload hx hb dd_W_592 (lv_at hl 5 rfl) ?_
  refine lv_iconst (v := nI 3) hx hb dd_W_594 (by decide) ?_
  refine bo_iadd hx hb dd_W_595 ?_
  refine bo_sld hx hb hX0 hbl hbA hS (i := 4 * k + 3) (by omega) hL dd_W_596 ?_
  refine lv_if_eq (tgt := 604) hx hb dd_W_597 rfl (fun q => absurd q hz) (fun _ => ?_)
  refine lv_iconst (v := nI 1) hx hb dd_W_600 (by decide) ?_
  refine lv_goto (tgt := 605) hx hb dd_W_601 rfl ?_
  have hat9 : bo_at0 mo 10 (bo_out cJ oa g :: (X1 ++ Y)) := bo_at0.cons (bo_at0.app2 hat)
  refine bo_cV (bo_frR_i (bo_frR_i hM X1) [bo_out cJ oa g]) ⟨hx, hb, hml, hown, hts⟩ (cwV 3 hts (bo_gV9 wd_1117 wd_1118 wd_1119 wd_11 wd_1120) rfl rfl rfl hd9_M_coefficient (by decide)) hK hP hD hS (fun _ h => h) hat9 rfl rfl rfl hl.1 rfl (Nat.le_of_ble_eq_true rfl) dd_W_605 (show 112 + k + 1 + 0 ≤ 601024 ∧ 23747 + 6 * k + 6 + 0 ≤ 7293034 from ⟨by omega, by omega⟩) (fun r2 Y1 H locs hu hP hD hS => ?_)
  obtain ⟨hr, hY1⟩ := hu
  subst hr
  have hP : va_P D bo_cl (bo_out cJ oa g :: (X1 ++ Y1)) H := hP
  have hD : va_D (fun q => s.heap.size ≤ q) (bo_out cJ oa g :: (X1 ++ Y1)) := hD
  refine lv_istore (lv' := [(6, .int r2), (5, .int r), (0, .ref b), (1, .ref fo), (2, .ref mo), (3, .ref oa), (4, .int (nI (4 * k)))]) hx hb dd_W_608 hl (by decide) rfl (fun ls hl => ?_)
  refine lv_aload_n hx hb dd_W_610 rfl (lv_at hl 4 rfl) ?_
  obtain ⟨hat, hT1⟩ := hT _ hY1
  have hat9 : bo_at0 mo 10 (bo_out cJ oa g :: (X1 ++ Y1)) := bo_at0.cons (bo_at0.app2 hat)
  refine bo_cV (bo_frR_i (bo_frR_i hT1 X1) [bo_out cJ oa g]) ⟨hx, hb, hml, hown, hts⟩ (cwV 0 hts (bo_gV9 wd_950 wd_951 wd_952 wd_11 wd_953) rfl rfl rfl hd9_M_thrown (by decide)) hK hP hD hS (fun _ h => h) hat9 rfl rfl rfl hl.1 rfl (Nat.le_of_ble_eq_true rfl) dd_W_611 (show 112 + k + 1 + 0 + 0 ≤ 601024 ∧ 23747 + 6 * k + 6 + 0 + 0 ≤ 7293034 from ⟨by omega, by omega⟩) (fun r3 Y2 H locs hu hP hD hS => ?_)
  obtain ⟨hr, hY2⟩ := hu
  subst hr
  have hP : va_P D bo_cl (bo_out cJ oa g :: (X1 ++ Y2)) H := hP
  have hD : va_D (fun q => s.heap.size ≤ q) (bo_out cJ oa g :: (X1 ++ Y2)) := hD
  refine lv_iload hx hb dd_W_614 (lv_at hl 1 rfl) ?_
  refine lv_icmp_eq (tgt := 621) hx hb dd_W_616 rfl (fun _ => ?_) (fun q => absurd rfl q)
  refine lv_iload hx hb dd_W_621 (lv_at hl 1 rfl) ?_
  have hfin : W p l e room_1 s m #[Value.ref b] below meth c H locs (112 + k + 1 + 0 + 0) (23747 + 6 * k + 6 + 0 + 0) Q (F0 m 638 ls []) := by
    refine lv_goto (tgt := 641) hx hb dd_W_638 rfl ?_
    refine W.widen (k := 112 + (k + 1)) (n := 23747 + 6 * (k + 1)) (show 112 + k + 1 + 0 + 0 ≤ 112 + (k + 1) by omega) (show 23747 + 6 * k + 6 + 0 + 0 ≤ 23747 + 6 * (k + 1) by omega) ?_
    exact nx _ _ _ _ _ _ (hN _ _ hX1 hY2) hP hD hS (lv_sub hl [2, 3, 4, 5, 6] rfl)
  refine lv_if_ne (tgt := 638) hx hb dd_W_623 rfl (fun _ => hfin) (fun q0 => ?_)
  have hg0 := hg (q0.trans nI_0.symm)
  refine lv_aload_n hx hb dd_W_626 rfl (lv_at hl 5 rfl) ?_
  refine lv_iconst (v := nI 0) hx hb dd_W_627 (by decide) ?_
  refine bo_lald hx hb hK hP 0 0 rfl rfl (k := 0) (by decide) (by decide) dd_W_628 ?_
  refine lv_iload hx hb dd_W_629 (lv_at hl 0 rfl) ?_
  refine lv_i2l (v := r2.toInt64) hx hb dd_W_631 rfl ?_
  refine W.lcmp hx hb dd_W_632 ?_
  refine lv_if_eq (tgt := 638) hx hb dd_W_633 rfl (fun _ => hfin) (fun q => absurd ((lc_all _ _).2.2.1.mpr hg0) q)

set_option maxHeartbeats 4000000 in
theorem lw_head {p : Program} {l : Launch} {e : Env} {s : State} {m : MethodId} {below : List Frame} {meth : Method} {c : Code} {Q : State → Prop} {b L : Nat} {xs : Nat → Int32} {D : va_G} {cJ cI cB cY : ClassId} {fo mo oa k : Nat} (C0 : LC p l s m c b L xs D cJ cI cB cY) (hk : k ≤ 512) (nx : 4 * k + 4 ≤ L → lw_z p l e s m below meth c Q b D cJ cI cB cY fo mo oa 641 k (k + 1)) (out : lw_z p l e s m below meth c Q b D cJ cI cB cY fo mo oa 647 k k) : lw_z p l e s m below meth c Q b D cJ cI cB cY fo mo oa 23 k k := by
  have C := C0
  obtain ⟨hx, hb, hml, hown, hts, hX0, hbl, hhs, hK, hlst, hL⟩ := C0
  have hbA : ¬ s.heap.size ≤ b := Nat.not_le.mpr hbl
  intro X Y f H locs ls hJ hP hD hS hl
  refine lv_iload hx hb dd_W_23 (lv_at hl 4 rfl) ?_
  refine lv_aload_n hx hb dd_W_25 rfl (lv_at hl 0 rfl) ?_
  refine va_slen hx hb hX0 hbl hbA hS dd_W_26 ?_
  refine lv_iconst (v := nI 4) hx hb dd_W_27 (by decide) ?_
  refine lv_isub hx hb dd_W_28 ?_
  refine lv_icmp_gt (tgt := 647) hx hb dd_W_29 rfl (fun _ => out X Y f H locs ls hJ hP hD hS hl) (fun q => ?_)
  have hk4 := lw_ge hL hk q
  have nx := nx hk4
  refine lv_aload_n hx hb dd_W_32 rfl (lv_at hl 0 rfl) ?_
  refine lv_iload hx hb dd_W_33 (lv_at hl 4 rfl) ?_
  refine bo_sld hx hb hX0 hbl hbA hS (i := 4 * k) (by omega) hL dd_W_35 ?_
  refine lv_bipush (v := nI 15) hx hb dd_W_36 (by decide) ?_
  refine lv_iand hx hb dd_W_38 ?_
  generalize xs (4 * k) &&& nI 15 = z9
  rcases bo_sw10 z9 with rfl | rfl | rfl | rfl | rfl | rfl | rfl | rfl | rfl | rfl | h9
  · refine lv_tableIn (off := 53) (tgt := 92) hx hb dd_W_39 (by decide) (by decide) (by decide) rfl ?_
    exact lw_type C hk4 nx hJ hP hD hS hl
  · refine lv_tableIn (off := 122) (tgt := 161) hx hb dd_W_39 (by decide) (by decide) (by decide) rfl ?_
    exact lw_compile C hk4 nx hJ hP hD hS hl
  · refine lv_tableIn (off := 166) (tgt := 205) hx hb dd_W_39 (by decide) (by decide) (by decide) rfl ?_
    exact lw_fault C hk4 nx hJ hP hD hS hl
  · refine lv_tableIn (off := 179) (tgt := 218) hx hb dd_W_39 (by decide) (by decide) (by decide) rfl ?_
    exact lw_begin C hk4 nx hJ hP hD hS hl
  · refine lv_tableIn (off := 228) (tgt := 267) hx hb dd_W_39 (by decide) (by decide) (by decide) rfl ?_
    exact lw_settle C hk4 nx hJ hP hD hS hl
  · refine lv_tableIn (off := 277) (tgt := 316) hx hb dd_W_39 (by decide) (by decide) (by decide) rfl ?_
    exact lw_step C hk4 nx hJ hP hD hS hl
  · refine lv_tableIn (off := 333) (tgt := 372) hx hb dd_W_39 (by decide) (by decide) (by decide) rfl ?_
    exact lw_state C hk4 nx hJ hP hD hS hl
  · refine lv_tableIn (off := 358) (tgt := 397) hx hb dd_W_39 (by decide) (by decide) (by decide) rfl ?_
    exact lw_box C hk4 nx hJ hP hD hS hl
  · refine lv_tableIn (off := 438) (tgt := 477) hx hb dd_W_39 (by decide) (by decide) (by decide) rfl ?_
    exact lw_crossing C hk4 nx hJ hP hD hS hl
  · refine lv_tableIn (off := 506) (tgt := 545) hx hb dd_W_39 (by decide) (by decide) (by decide) rfl ?_
    by_cases hz : xs (4 * k + 3) = 0
    · exact lw_coefficient0 C hk4 nx hJ hP hD hS hl hz
    · exact lw_coefficient1 C hk4 nx hJ hP hD hS hl hz
  · refine lv_tableOut (tgt := 641) hx hb dd_W_39 h9 rfl ?_
    refine W.widen (k := 112 + (k + 1)) (n := 23747 + 6 * (k + 1)) (by omega) (by omega) ?_
    exact nx X Y f H locs ls hJ.up hP hD hS hl
theorem lw_back {p : Program} {l : Launch} {e : Env} {s : State} {m : MethodId} {below : List Frame} {meth : Method} {c : Code} {Q : State → Prop} {b L : Nat} {xs : Nat → Int32} {D : va_G} {cJ cI cB cY : ClassId} {fo mo oa k : Nat} (C0 : LC p l s m c b L xs D cJ cI cB cY) (h : lw_z p l e s m below meth c Q b D cJ cI cB cY fo mo oa 23 (k + 1) (k + 1)) : lw_z p l e s m below meth c Q b D cJ cI cB cY fo mo oa 641 k (k + 1) := by
  obtain ⟨hx, hb, hml, hown, hts, hX0, hbl, hhs, hK, hlst, hL⟩ := C0
  have hbA : ¬ s.heap.size ≤ b := Nat.not_le.mpr hbl
  intro X Y f H locs ls hJ hP hD hS hl
  refine lv_iinc (k := 4) (v := nI (4 * (k + 1))) (lv' := [(4, .int (nI (4 * (k + 1)))), (0, .ref b), (1, .ref fo), (2, .ref mo), (3, .ref oa)]) hx hb dd_W_641 hl rfl (by rw [show Int32.ofInt 4 = nI 4 from rfl, nI_add]; rfl) (by decide) rfl (fun ls hl => ?_)
  refine lv_goto (tgt := 23) hx hb dd_W_644 rfl ?_
  exact h X Y f H locs ls hJ hP hD hS (lv_sub hl [1, 2, 3, 4, 0] rfl)
theorem lw_loop {p : Program} {l : Launch} {e : Env} {s : State} {m : MethodId} {below : List Frame} {meth : Method} {c : Code} {Q : State → Prop} {b L : Nat} {xs : Nat → Int32} {D : va_G} {cJ cI cB cY : ClassId} {fo mo oa : Nat} (C0 : LC p l s m c b L xs D cJ cI cB cY) (out : ∀ k, k ≤ 512 → lw_z p l e s m below meth c Q b D cJ cI cB cY fo mo oa 647 k k) : ∀ (n k : Nat), k + n = 512 → lw_z p l e s m below meth c Q b D cJ cI cB cY fo mo oa 23 k k
  | 0, k, hn => lw_head C0 (by omega) (fun q => absurd q (by have := C0.2.2.2.2.2.2.2.2.2.2; omega)) (out k (by omega))
  | n + 1, k, hn => lw_head C0 (by omega) (fun _ => lw_back C0 (lw_loop C0 out n (k + 1) (by omega))) (out k (by omega))
