theorem d_lw_law_0 : decode code 0 = .ok (.new 8, 3) := by decide +kernel
theorem d_lw_law_3 : decode code 3 = .ok (.dup, 1) := by decide +kernel
theorem d_lw_law_4 : decode code 4 = .ok (.invokespecial 52, 3) := by decide +kernel
theorem d_lw_law_7 : decode code 7 = .ok (.astore_n 1, 1) := by decide +kernel
theorem d_lw_law_8 : decode code 8 = .ok (.new 53, 3) := by decide +kernel
theorem d_lw_law_11 : decode code 11 = .ok (.dup, 1) := by decide +kernel
theorem d_lw_law_12 : decode code 12 = .ok (.invokespecial 55, 3) := by decide +kernel
theorem d_lw_law_15 : decode code 15 = .ok (.astore_n 2, 1) := by decide +kernel
theorem d_lw_law_16 : decode code 16 = .ok (.iconst 1, 1) := by decide +kernel
theorem d_lw_law_17 : decode code 17 = .ok (.newarray .long, 2) := by decide +kernel
theorem d_lw_law_19 : decode code 19 = .ok (.astore_n 3, 1) := by decide +kernel
theorem d_lw_law_20 : decode code 20 = .ok (.iconst 0, 1) := by decide +kernel
theorem d_lw_law_21 : decode code 21 = .ok (.istore 4, 2) := by decide +kernel
theorem d_lw_law_23 : decode code 23 = .ok (.iload 4, 2) := by decide +kernel
theorem d_lw_law_25 : decode code 25 = .ok (.aload_n 0, 1) := by decide +kernel
theorem d_lw_law_26 : decode code 26 = .ok (.arraylength, 1) := by decide +kernel
theorem d_lw_law_27 : decode code 27 = .ok (.iconst 4, 1) := by decide +kernel
theorem d_lw_law_28 : decode code 28 = .ok (.isub, 1) := by decide +kernel
theorem d_lw_law_29 : decode code 29 = .ok (.if_icmp .gt 876, 3) := by decide +kernel
theorem d_lw_law_32 : decode code 32 = .ok (.aload_n 0, 1) := by decide +kernel
theorem d_lw_law_33 : decode code 33 = .ok (.iload 4, 2) := by decide +kernel
theorem d_lw_law_35 : decode code 35 = .ok (.iaload, 1) := by decide +kernel
theorem d_lw_law_36 : decode code 36 = .ok (.bipush 15, 2) := by decide +kernel
theorem d_lw_law_38 : decode code 38 = .ok (.iand, 1) := by decide +kernel
theorem d_lw_law_39 : decode code 39 = .ok (.tableswitch 860 0 13 #[69, 125, 200, 275, 350, 418, 431, 487, 500, 556, 612, 680, 748, 835], 69) := by decide +kernel
theorem d_lw_law_108 : decode code 108 = .ok (.aload_n 1, 1) := by decide +kernel
theorem d_lw_law_109 : decode code 109 = .ok (.aload_n 0, 1) := by decide +kernel
theorem d_lw_law_110 : decode code 110 = .ok (.iload 4, 2) := by decide +kernel
theorem d_lw_law_112 : decode code 112 = .ok (.iconst 1, 1) := by decide +kernel
theorem d_lw_law_113 : decode code 113 = .ok (.iadd, 1) := by decide +kernel
theorem d_lw_law_114 : decode code 114 = .ok (.iaload, 1) := by decide +kernel
theorem d_lw_law_115 : decode code 115 = .ok (.aload_n 3, 1) := by decide +kernel
theorem d_lw_law_116 : decode code 116 = .ok (.invokestatic 56, 3) := by decide +kernel
theorem d_lw_law_119 : decode code 119 = .ok (.istore 5, 2) := by decide +kernel
theorem d_lw_law_121 : decode code 121 = .ok (.aload_n 2, 1) := by decide +kernel
theorem d_lw_law_122 : decode code 122 = .ok (.aload_n 0, 1) := by decide +kernel
theorem d_lw_law_123 : decode code 123 = .ok (.iload 4, 2) := by decide +kernel
theorem d_lw_law_125 : decode code 125 = .ok (.iconst 1, 1) := by decide +kernel
theorem d_lw_law_126 : decode code 126 = .ok (.iadd, 1) := by decide +kernel
theorem d_lw_law_127 : decode code 127 = .ok (.iaload, 1) := by decide +kernel
theorem d_lw_law_128 : decode code 128 = .ok (.invokevirtual 61, 3) := by decide +kernel
theorem d_lw_law_131 : decode code 131 = .ok (.istore 6, 2) := by decide +kernel
theorem d_lw_law_133 : decode code 133 = .ok (.aload_n 2, 1) := by decide +kernel
theorem d_lw_law_134 : decode code 134 = .ok (.invokevirtual 62, 3) := by decide +kernel
theorem d_lw_law_137 : decode code 137 = .ok (.iload 5, 2) := by decide +kernel
theorem d_lw_law_139 : decode code 139 = .ok (.if_icmp .eq 5, 3) := by decide +kernel
theorem d_lw_law_142 : decode code 142 = .ok (.iconst 0, 1) := by decide +kernel
theorem d_lw_law_143 : decode code 143 = .ok (.ireturn, 1) := by decide +kernel
theorem d_lw_law_144 : decode code 144 = .ok (.iload 5, 2) := by decide +kernel
theorem d_lw_law_146 : decode code 146 = .ok (.ifCond .ne 15, 3) := by decide +kernel
theorem d_lw_law_149 : decode code 149 = .ok (.aload_n 3, 1) := by decide +kernel
theorem d_lw_law_150 : decode code 150 = .ok (.iconst 0, 1) := by decide +kernel
theorem d_lw_law_151 : decode code 151 = .ok (.laload, 1) := by decide +kernel
theorem d_lw_law_152 : decode code 152 = .ok (.iload 6, 2) := by decide +kernel
theorem d_lw_law_154 : decode code 154 = .ok (.i2l, 1) := by decide +kernel
theorem d_lw_law_155 : decode code 155 = .ok (.lcmp, 1) := by decide +kernel
theorem d_lw_law_156 : decode code 156 = .ok (.ifCond .eq 5, 3) := by decide +kernel
theorem d_lw_law_159 : decode code 159 = .ok (.iconst 0, 1) := by decide +kernel
theorem d_lw_law_160 : decode code 160 = .ok (.ireturn, 1) := by decide +kernel
theorem d_lw_law_161 : decode code 161 = .ok (.goto 738, 3) := by decide +kernel
theorem d_lw_law_164 : decode code 164 = .ok (.aload_n 1, 1) := by decide +kernel
theorem d_lw_law_165 : decode code 165 = .ok (.aload_n 0, 1) := by decide +kernel
theorem d_lw_law_166 : decode code 166 = .ok (.iload 4, 2) := by decide +kernel
theorem d_lw_law_168 : decode code 168 = .ok (.iconst 1, 1) := by decide +kernel
theorem d_lw_law_169 : decode code 169 = .ok (.iadd, 1) := by decide +kernel
theorem d_lw_law_170 : decode code 170 = .ok (.iaload, 1) := by decide +kernel
theorem d_lw_law_171 : decode code 171 = .ok (.aload_n 0, 1) := by decide +kernel
theorem d_lw_law_172 : decode code 172 = .ok (.iload 4, 2) := by decide +kernel
theorem d_lw_law_174 : decode code 174 = .ok (.iconst 2, 1) := by decide +kernel
theorem d_lw_law_175 : decode code 175 = .ok (.iadd, 1) := by decide +kernel
theorem d_lw_law_176 : decode code 176 = .ok (.iaload, 1) := by decide +kernel
theorem d_lw_law_177 : decode code 177 = .ok (.aload_n 3, 1) := by decide +kernel
theorem d_lw_law_178 : decode code 178 = .ok (.invokestatic 66, 3) := by decide +kernel
theorem d_lw_law_181 : decode code 181 = .ok (.istore 5, 2) := by decide +kernel
theorem d_lw_law_183 : decode code 183 = .ok (.aload_n 2, 1) := by decide +kernel
theorem d_lw_law_184 : decode code 184 = .ok (.aload_n 0, 1) := by decide +kernel
theorem d_lw_law_185 : decode code 185 = .ok (.iload 4, 2) := by decide +kernel
theorem d_lw_law_187 : decode code 187 = .ok (.iconst 1, 1) := by decide +kernel
theorem d_lw_law_188 : decode code 188 = .ok (.iadd, 1) := by decide +kernel
theorem d_lw_law_189 : decode code 189 = .ok (.iaload, 1) := by decide +kernel
theorem d_lw_law_190 : decode code 190 = .ok (.aload_n 0, 1) := by decide +kernel
theorem d_lw_law_191 : decode code 191 = .ok (.iload 4, 2) := by decide +kernel
theorem d_lw_law_193 : decode code 193 = .ok (.iconst 2, 1) := by decide +kernel
theorem d_lw_law_194 : decode code 194 = .ok (.iadd, 1) := by decide +kernel
theorem d_lw_law_195 : decode code 195 = .ok (.iaload, 1) := by decide +kernel
theorem d_lw_law_196 : decode code 196 = .ok (.invokevirtual 69, 3) := by decide +kernel
theorem d_lw_law_199 : decode code 199 = .ok (.istore 6, 2) := by decide +kernel
theorem d_lw_law_201 : decode code 201 = .ok (.aload_n 2, 1) := by decide +kernel
theorem d_lw_law_202 : decode code 202 = .ok (.invokevirtual 62, 3) := by decide +kernel
theorem d_lw_law_205 : decode code 205 = .ok (.iload 5, 2) := by decide +kernel
theorem d_lw_law_207 : decode code 207 = .ok (.if_icmp .eq 5, 3) := by decide +kernel
theorem d_lw_law_210 : decode code 210 = .ok (.iconst 0, 1) := by decide +kernel
theorem d_lw_law_211 : decode code 211 = .ok (.ireturn, 1) := by decide +kernel
theorem d_lw_law_212 : decode code 212 = .ok (.iload 5, 2) := by decide +kernel
theorem d_lw_law_214 : decode code 214 = .ok (.ifCond .ne 22, 3) := by decide +kernel
theorem d_lw_law_217 : decode code 217 = .ok (.aload_n 3, 1) := by decide +kernel
theorem d_lw_law_218 : decode code 218 = .ok (.iconst 0, 1) := by decide +kernel
theorem d_lw_law_219 : decode code 219 = .ok (.laload, 1) := by decide +kernel
theorem d_lw_law_220 : decode code 220 = .ok (.iload 6, 2) := by decide +kernel
theorem d_lw_law_222 : decode code 222 = .ok (.ifCond .eq 7, 3) := by decide +kernel
theorem d_lw_law_225 : decode code 225 = .ok (.lconst 1, 1) := by decide +kernel
theorem d_lw_law_226 : decode code 226 = .ok (.goto 4, 3) := by decide +kernel
theorem d_lw_law_229 : decode code 229 = .ok (.lconst 0, 1) := by decide +kernel
theorem d_lw_law_230 : decode code 230 = .ok (.lcmp, 1) := by decide +kernel
theorem d_lw_law_231 : decode code 231 = .ok (.ifCond .eq 5, 3) := by decide +kernel
theorem d_lw_law_234 : decode code 234 = .ok (.iconst 0, 1) := by decide +kernel
theorem d_lw_law_235 : decode code 235 = .ok (.ireturn, 1) := by decide +kernel
theorem d_lw_law_236 : decode code 236 = .ok (.goto 663, 3) := by decide +kernel
theorem d_lw_law_239 : decode code 239 = .ok (.aload_n 1, 1) := by decide +kernel
theorem d_lw_law_240 : decode code 240 = .ok (.aload_n 0, 1) := by decide +kernel
theorem d_lw_law_241 : decode code 241 = .ok (.iload 4, 2) := by decide +kernel
theorem d_lw_law_243 : decode code 243 = .ok (.iconst 1, 1) := by decide +kernel
theorem d_lw_law_244 : decode code 244 = .ok (.iadd, 1) := by decide +kernel
theorem d_lw_law_245 : decode code 245 = .ok (.iaload, 1) := by decide +kernel
theorem d_lw_law_246 : decode code 246 = .ok (.aload_n 0, 1) := by decide +kernel
theorem d_lw_law_247 : decode code 247 = .ok (.iload 4, 2) := by decide +kernel
theorem d_lw_law_249 : decode code 249 = .ok (.iconst 2, 1) := by decide +kernel
theorem d_lw_law_250 : decode code 250 = .ok (.iadd, 1) := by decide +kernel
theorem d_lw_law_251 : decode code 251 = .ok (.iaload, 1) := by decide +kernel
theorem d_lw_law_252 : decode code 252 = .ok (.aload_n 3, 1) := by decide +kernel
theorem d_lw_law_253 : decode code 253 = .ok (.invokestatic 70, 3) := by decide +kernel
theorem d_lw_law_256 : decode code 256 = .ok (.istore 5, 2) := by decide +kernel
theorem d_lw_law_258 : decode code 258 = .ok (.aload_n 2, 1) := by decide +kernel
theorem d_lw_law_259 : decode code 259 = .ok (.aload_n 0, 1) := by decide +kernel
theorem d_lw_law_260 : decode code 260 = .ok (.iload 4, 2) := by decide +kernel
theorem d_lw_law_262 : decode code 262 = .ok (.iconst 1, 1) := by decide +kernel
theorem d_lw_law_263 : decode code 263 = .ok (.iadd, 1) := by decide +kernel
theorem d_lw_law_264 : decode code 264 = .ok (.iaload, 1) := by decide +kernel
theorem d_lw_law_265 : decode code 265 = .ok (.aload_n 0, 1) := by decide +kernel
theorem d_lw_law_266 : decode code 266 = .ok (.iload 4, 2) := by decide +kernel
theorem d_lw_law_268 : decode code 268 = .ok (.iconst 2, 1) := by decide +kernel
theorem d_lw_law_269 : decode code 269 = .ok (.iadd, 1) := by decide +kernel
theorem d_lw_law_270 : decode code 270 = .ok (.iaload, 1) := by decide +kernel
theorem d_lw_law_271 : decode code 271 = .ok (.invokevirtual 72, 3) := by decide +kernel
theorem d_lw_law_274 : decode code 274 = .ok (.istore 6, 2) := by decide +kernel
theorem d_lw_law_276 : decode code 276 = .ok (.aload_n 2, 1) := by decide +kernel
theorem d_lw_law_277 : decode code 277 = .ok (.invokevirtual 62, 3) := by decide +kernel
theorem d_lw_law_280 : decode code 280 = .ok (.iload 5, 2) := by decide +kernel
theorem d_lw_law_282 : decode code 282 = .ok (.if_icmp .eq 5, 3) := by decide +kernel
theorem d_lw_law_285 : decode code 285 = .ok (.iconst 0, 1) := by decide +kernel
theorem d_lw_law_286 : decode code 286 = .ok (.ireturn, 1) := by decide +kernel
theorem d_lw_law_287 : decode code 287 = .ok (.iload 5, 2) := by decide +kernel
theorem d_lw_law_289 : decode code 289 = .ok (.ifCond .ne 22, 3) := by decide +kernel
theorem d_lw_law_292 : decode code 292 = .ok (.aload_n 3, 1) := by decide +kernel
theorem d_lw_law_293 : decode code 293 = .ok (.iconst 0, 1) := by decide +kernel
theorem d_lw_law_294 : decode code 294 = .ok (.laload, 1) := by decide +kernel
theorem d_lw_law_295 : decode code 295 = .ok (.iload 6, 2) := by decide +kernel
theorem d_lw_law_297 : decode code 297 = .ok (.ifCond .eq 7, 3) := by decide +kernel
theorem d_lw_law_300 : decode code 300 = .ok (.lconst 1, 1) := by decide +kernel
theorem d_lw_law_301 : decode code 301 = .ok (.goto 4, 3) := by decide +kernel
theorem d_lw_law_304 : decode code 304 = .ok (.lconst 0, 1) := by decide +kernel
theorem d_lw_law_305 : decode code 305 = .ok (.lcmp, 1) := by decide +kernel
theorem d_lw_law_306 : decode code 306 = .ok (.ifCond .eq 5, 3) := by decide +kernel
theorem d_lw_law_309 : decode code 309 = .ok (.iconst 0, 1) := by decide +kernel
theorem d_lw_law_310 : decode code 310 = .ok (.ireturn, 1) := by decide +kernel
theorem d_lw_law_311 : decode code 311 = .ok (.goto 588, 3) := by decide +kernel
theorem d_lw_law_314 : decode code 314 = .ok (.aload_n 1, 1) := by decide +kernel
theorem d_lw_law_315 : decode code 315 = .ok (.aload_n 0, 1) := by decide +kernel
theorem d_lw_law_316 : decode code 316 = .ok (.iload 4, 2) := by decide +kernel
theorem d_lw_law_318 : decode code 318 = .ok (.iconst 1, 1) := by decide +kernel
theorem d_lw_law_319 : decode code 319 = .ok (.iadd, 1) := by decide +kernel
theorem d_lw_law_320 : decode code 320 = .ok (.iaload, 1) := by decide +kernel
theorem d_lw_law_321 : decode code 321 = .ok (.aload_n 0, 1) := by decide +kernel
theorem d_lw_law_322 : decode code 322 = .ok (.iload 4, 2) := by decide +kernel
theorem d_lw_law_324 : decode code 324 = .ok (.iconst 2, 1) := by decide +kernel
theorem d_lw_law_325 : decode code 325 = .ok (.iadd, 1) := by decide +kernel
theorem d_lw_law_326 : decode code 326 = .ok (.iaload, 1) := by decide +kernel
theorem d_lw_law_327 : decode code 327 = .ok (.aload_n 3, 1) := by decide +kernel
theorem d_lw_law_328 : decode code 328 = .ok (.invokestatic 73, 3) := by decide +kernel
theorem d_lw_law_331 : decode code 331 = .ok (.istore 5, 2) := by decide +kernel
theorem d_lw_law_333 : decode code 333 = .ok (.aload_n 2, 1) := by decide +kernel
theorem d_lw_law_334 : decode code 334 = .ok (.aload_n 0, 1) := by decide +kernel
theorem d_lw_law_335 : decode code 335 = .ok (.iload 4, 2) := by decide +kernel
theorem d_lw_law_337 : decode code 337 = .ok (.iconst 1, 1) := by decide +kernel
theorem d_lw_law_338 : decode code 338 = .ok (.iadd, 1) := by decide +kernel
theorem d_lw_law_339 : decode code 339 = .ok (.iaload, 1) := by decide +kernel
theorem d_lw_law_340 : decode code 340 = .ok (.aload_n 0, 1) := by decide +kernel
theorem d_lw_law_341 : decode code 341 = .ok (.iload 4, 2) := by decide +kernel
theorem d_lw_law_343 : decode code 343 = .ok (.iconst 2, 1) := by decide +kernel
theorem d_lw_law_344 : decode code 344 = .ok (.iadd, 1) := by decide +kernel
theorem d_lw_law_345 : decode code 345 = .ok (.iaload, 1) := by decide +kernel
theorem d_lw_law_346 : decode code 346 = .ok (.invokevirtual 75, 3) := by decide +kernel
theorem d_lw_law_349 : decode code 349 = .ok (.istore 6, 2) := by decide +kernel
theorem d_lw_law_351 : decode code 351 = .ok (.aload_n 2, 1) := by decide +kernel
theorem d_lw_law_352 : decode code 352 = .ok (.invokevirtual 62, 3) := by decide +kernel
theorem d_lw_law_355 : decode code 355 = .ok (.iload 5, 2) := by decide +kernel
theorem d_lw_law_357 : decode code 357 = .ok (.if_icmp .eq 5, 3) := by decide +kernel
theorem d_lw_law_360 : decode code 360 = .ok (.iconst 0, 1) := by decide +kernel
theorem d_lw_law_361 : decode code 361 = .ok (.ireturn, 1) := by decide +kernel
theorem d_lw_law_362 : decode code 362 = .ok (.iload 5, 2) := by decide +kernel
theorem d_lw_law_364 : decode code 364 = .ok (.ifCond .ne 22, 3) := by decide +kernel
theorem d_lw_law_367 : decode code 367 = .ok (.aload_n 3, 1) := by decide +kernel
theorem d_lw_law_368 : decode code 368 = .ok (.iconst 0, 1) := by decide +kernel
theorem d_lw_law_369 : decode code 369 = .ok (.laload, 1) := by decide +kernel
theorem d_lw_law_370 : decode code 370 = .ok (.iload 6, 2) := by decide +kernel
theorem d_lw_law_372 : decode code 372 = .ok (.ifCond .eq 7, 3) := by decide +kernel
theorem d_lw_law_375 : decode code 375 = .ok (.lconst 1, 1) := by decide +kernel
theorem d_lw_law_376 : decode code 376 = .ok (.goto 4, 3) := by decide +kernel
theorem d_lw_law_379 : decode code 379 = .ok (.lconst 0, 1) := by decide +kernel
theorem d_lw_law_380 : decode code 380 = .ok (.lcmp, 1) := by decide +kernel
theorem d_lw_law_381 : decode code 381 = .ok (.ifCond .eq 5, 3) := by decide +kernel
theorem d_lw_law_384 : decode code 384 = .ok (.iconst 0, 1) := by decide +kernel
theorem d_lw_law_385 : decode code 385 = .ok (.ireturn, 1) := by decide +kernel
theorem d_lw_law_386 : decode code 386 = .ok (.goto 513, 3) := by decide +kernel
theorem d_lw_law_389 : decode code 389 = .ok (.aload_n 1, 1) := by decide +kernel
theorem d_lw_law_390 : decode code 390 = .ok (.aload_n 0, 1) := by decide +kernel
theorem d_lw_law_391 : decode code 391 = .ok (.iload 4, 2) := by decide +kernel
theorem d_lw_law_393 : decode code 393 = .ok (.iconst 1, 1) := by decide +kernel
theorem d_lw_law_394 : decode code 394 = .ok (.iadd, 1) := by decide +kernel
theorem d_lw_law_395 : decode code 395 = .ok (.iaload, 1) := by decide +kernel
theorem d_lw_law_396 : decode code 396 = .ok (.aload_n 0, 1) := by decide +kernel
theorem d_lw_law_397 : decode code 397 = .ok (.iload 4, 2) := by decide +kernel
theorem d_lw_law_399 : decode code 399 = .ok (.iconst 2, 1) := by decide +kernel
theorem d_lw_law_400 : decode code 400 = .ok (.iadd, 1) := by decide +kernel
theorem d_lw_law_401 : decode code 401 = .ok (.iaload, 1) := by decide +kernel
theorem d_lw_law_402 : decode code 402 = .ok (.aload_n 3, 1) := by decide +kernel
theorem d_lw_law_403 : decode code 403 = .ok (.invokestatic 76, 3) := by decide +kernel
theorem d_lw_law_406 : decode code 406 = .ok (.istore 5, 2) := by decide +kernel
theorem d_lw_law_408 : decode code 408 = .ok (.aload_n 2, 1) := by decide +kernel
theorem d_lw_law_409 : decode code 409 = .ok (.aload_n 0, 1) := by decide +kernel
theorem d_lw_law_410 : decode code 410 = .ok (.iload 4, 2) := by decide +kernel
theorem d_lw_law_412 : decode code 412 = .ok (.iconst 1, 1) := by decide +kernel
theorem d_lw_law_413 : decode code 413 = .ok (.iadd, 1) := by decide +kernel
theorem d_lw_law_414 : decode code 414 = .ok (.iaload, 1) := by decide +kernel
theorem d_lw_law_415 : decode code 415 = .ok (.aload_n 0, 1) := by decide +kernel
theorem d_lw_law_416 : decode code 416 = .ok (.iload 4, 2) := by decide +kernel
theorem d_lw_law_418 : decode code 418 = .ok (.iconst 2, 1) := by decide +kernel
theorem d_lw_law_419 : decode code 419 = .ok (.iadd, 1) := by decide +kernel
theorem d_lw_law_420 : decode code 420 = .ok (.iaload, 1) := by decide +kernel
theorem d_lw_law_421 : decode code 421 = .ok (.invokevirtual 78, 3) := by decide +kernel
theorem d_lw_law_424 : decode code 424 = .ok (.istore 6, 2) := by decide +kernel
theorem d_lw_law_426 : decode code 426 = .ok (.aload_n 2, 1) := by decide +kernel
theorem d_lw_law_427 : decode code 427 = .ok (.invokevirtual 62, 3) := by decide +kernel
theorem d_lw_law_430 : decode code 430 = .ok (.iload 5, 2) := by decide +kernel
theorem d_lw_law_432 : decode code 432 = .ok (.if_icmp .eq 5, 3) := by decide +kernel
theorem d_lw_law_435 : decode code 435 = .ok (.iconst 0, 1) := by decide +kernel
theorem d_lw_law_436 : decode code 436 = .ok (.ireturn, 1) := by decide +kernel
theorem d_lw_law_437 : decode code 437 = .ok (.iload 5, 2) := by decide +kernel
theorem d_lw_law_439 : decode code 439 = .ok (.ifCond .ne 15, 3) := by decide +kernel
theorem d_lw_law_442 : decode code 442 = .ok (.aload_n 3, 1) := by decide +kernel
theorem d_lw_law_443 : decode code 443 = .ok (.iconst 0, 1) := by decide +kernel
theorem d_lw_law_444 : decode code 444 = .ok (.laload, 1) := by decide +kernel
theorem d_lw_law_445 : decode code 445 = .ok (.iload 6, 2) := by decide +kernel
theorem d_lw_law_447 : decode code 447 = .ok (.i2l, 1) := by decide +kernel
theorem d_lw_law_448 : decode code 448 = .ok (.lcmp, 1) := by decide +kernel
theorem d_lw_law_449 : decode code 449 = .ok (.ifCond .eq 5, 3) := by decide +kernel
theorem d_lw_law_452 : decode code 452 = .ok (.iconst 0, 1) := by decide +kernel
theorem d_lw_law_453 : decode code 453 = .ok (.ireturn, 1) := by decide +kernel
theorem d_lw_law_454 : decode code 454 = .ok (.goto 445, 3) := by decide +kernel
theorem d_lw_law_457 : decode code 457 = .ok (.aload_n 1, 1) := by decide +kernel
theorem d_lw_law_458 : decode code 458 = .ok (.invokevirtual 79, 3) := by decide +kernel
theorem d_lw_law_461 : decode code 461 = .ok (.aload_n 2, 1) := by decide +kernel
theorem d_lw_law_462 : decode code 462 = .ok (.invokevirtual 82, 3) := by decide +kernel
theorem d_lw_law_465 : decode code 465 = .ok (.if_icmp .eq 434, 3) := by decide +kernel
theorem d_lw_law_468 : decode code 468 = .ok (.iconst 0, 1) := by decide +kernel
theorem d_lw_law_469 : decode code 469 = .ok (.ireturn, 1) := by decide +kernel
theorem d_lw_law_470 : decode code 470 = .ok (.aload_n 1, 1) := by decide +kernel
theorem d_lw_law_471 : decode code 471 = .ok (.aload_n 0, 1) := by decide +kernel
theorem d_lw_law_472 : decode code 472 = .ok (.iload 4, 2) := by decide +kernel
theorem d_lw_law_474 : decode code 474 = .ok (.iconst 1, 1) := by decide +kernel
theorem d_lw_law_475 : decode code 475 = .ok (.iadd, 1) := by decide +kernel
theorem d_lw_law_476 : decode code 476 = .ok (.iaload, 1) := by decide +kernel
theorem d_lw_law_477 : decode code 477 = .ok (.aload_n 3, 1) := by decide +kernel
theorem d_lw_law_478 : decode code 478 = .ok (.invokestatic 83, 3) := by decide +kernel
theorem d_lw_law_481 : decode code 481 = .ok (.istore 5, 2) := by decide +kernel
theorem d_lw_law_483 : decode code 483 = .ok (.aload_n 2, 1) := by decide +kernel
theorem d_lw_law_484 : decode code 484 = .ok (.aload_n 0, 1) := by decide +kernel
theorem d_lw_law_485 : decode code 485 = .ok (.iload 4, 2) := by decide +kernel
theorem d_lw_law_487 : decode code 487 = .ok (.iconst 1, 1) := by decide +kernel
theorem d_lw_law_488 : decode code 488 = .ok (.iadd, 1) := by decide +kernel
theorem d_lw_law_489 : decode code 489 = .ok (.iaload, 1) := by decide +kernel
theorem d_lw_law_490 : decode code 490 = .ok (.invokevirtual 85, 3) := by decide +kernel
theorem d_lw_law_493 : decode code 493 = .ok (.istore 6, 2) := by decide +kernel
theorem d_lw_law_495 : decode code 495 = .ok (.aload_n 2, 1) := by decide +kernel
theorem d_lw_law_496 : decode code 496 = .ok (.invokevirtual 62, 3) := by decide +kernel
theorem d_lw_law_499 : decode code 499 = .ok (.iload 5, 2) := by decide +kernel
theorem d_lw_law_501 : decode code 501 = .ok (.if_icmp .eq 5, 3) := by decide +kernel
theorem d_lw_law_504 : decode code 504 = .ok (.iconst 0, 1) := by decide +kernel
theorem d_lw_law_505 : decode code 505 = .ok (.ireturn, 1) := by decide +kernel
theorem d_lw_law_506 : decode code 506 = .ok (.iload 5, 2) := by decide +kernel
theorem d_lw_law_508 : decode code 508 = .ok (.ifCond .ne 15, 3) := by decide +kernel
theorem d_lw_law_511 : decode code 511 = .ok (.aload_n 3, 1) := by decide +kernel
theorem d_lw_law_512 : decode code 512 = .ok (.iconst 0, 1) := by decide +kernel
theorem d_lw_law_513 : decode code 513 = .ok (.laload, 1) := by decide +kernel
theorem d_lw_law_514 : decode code 514 = .ok (.iload 6, 2) := by decide +kernel
theorem d_lw_law_516 : decode code 516 = .ok (.i2l, 1) := by decide +kernel
theorem d_lw_law_517 : decode code 517 = .ok (.lcmp, 1) := by decide +kernel
theorem d_lw_law_518 : decode code 518 = .ok (.ifCond .eq 5, 3) := by decide +kernel
theorem d_lw_law_521 : decode code 521 = .ok (.iconst 0, 1) := by decide +kernel
theorem d_lw_law_522 : decode code 522 = .ok (.ireturn, 1) := by decide +kernel
theorem d_lw_law_523 : decode code 523 = .ok (.goto 376, 3) := by decide +kernel
theorem d_lw_law_526 : decode code 526 = .ok (.aload_n 1, 1) := by decide +kernel
theorem d_lw_law_527 : decode code 527 = .ok (.invokevirtual 86, 3) := by decide +kernel
theorem d_lw_law_530 : decode code 530 = .ok (.aload_n 2, 1) := by decide +kernel
theorem d_lw_law_531 : decode code 531 = .ok (.invokevirtual 89, 3) := by decide +kernel
theorem d_lw_law_534 : decode code 534 = .ok (.if_icmp .eq 365, 3) := by decide +kernel
theorem d_lw_law_537 : decode code 537 = .ok (.iconst 0, 1) := by decide +kernel
theorem d_lw_law_538 : decode code 538 = .ok (.ireturn, 1) := by decide +kernel
theorem d_lw_law_539 : decode code 539 = .ok (.aload_n 1, 1) := by decide +kernel
theorem d_lw_law_540 : decode code 540 = .ok (.aload_n 0, 1) := by decide +kernel
theorem d_lw_law_541 : decode code 541 = .ok (.iload 4, 2) := by decide +kernel
theorem d_lw_law_543 : decode code 543 = .ok (.iconst 1, 1) := by decide +kernel
theorem d_lw_law_544 : decode code 544 = .ok (.iadd, 1) := by decide +kernel
theorem d_lw_law_545 : decode code 545 = .ok (.iaload, 1) := by decide +kernel
theorem d_lw_law_546 : decode code 546 = .ok (.aload_n 3, 1) := by decide +kernel
theorem d_lw_law_547 : decode code 547 = .ok (.invokestatic 90, 3) := by decide +kernel
theorem d_lw_law_550 : decode code 550 = .ok (.istore 5, 2) := by decide +kernel
theorem d_lw_law_552 : decode code 552 = .ok (.aload_n 2, 1) := by decide +kernel
theorem d_lw_law_553 : decode code 553 = .ok (.aload_n 0, 1) := by decide +kernel
theorem d_lw_law_554 : decode code 554 = .ok (.iload 4, 2) := by decide +kernel
theorem d_lw_law_556 : decode code 556 = .ok (.iconst 1, 1) := by decide +kernel
theorem d_lw_law_557 : decode code 557 = .ok (.iadd, 1) := by decide +kernel
theorem d_lw_law_558 : decode code 558 = .ok (.iaload, 1) := by decide +kernel
theorem d_lw_law_559 : decode code 559 = .ok (.invokevirtual 92, 3) := by decide +kernel
theorem d_lw_law_562 : decode code 562 = .ok (.istore 6, 2) := by decide +kernel
theorem d_lw_law_564 : decode code 564 = .ok (.aload_n 2, 1) := by decide +kernel
theorem d_lw_law_565 : decode code 565 = .ok (.invokevirtual 62, 3) := by decide +kernel
theorem d_lw_law_568 : decode code 568 = .ok (.iload 5, 2) := by decide +kernel
theorem d_lw_law_570 : decode code 570 = .ok (.if_icmp .eq 5, 3) := by decide +kernel
theorem d_lw_law_573 : decode code 573 = .ok (.iconst 0, 1) := by decide +kernel
theorem d_lw_law_574 : decode code 574 = .ok (.ireturn, 1) := by decide +kernel
theorem d_lw_law_575 : decode code 575 = .ok (.iload 5, 2) := by decide +kernel
theorem d_lw_law_577 : decode code 577 = .ok (.ifCond .ne 15, 3) := by decide +kernel
theorem d_lw_law_580 : decode code 580 = .ok (.aload_n 3, 1) := by decide +kernel
theorem d_lw_law_581 : decode code 581 = .ok (.iconst 0, 1) := by decide +kernel
theorem d_lw_law_582 : decode code 582 = .ok (.laload, 1) := by decide +kernel
theorem d_lw_law_583 : decode code 583 = .ok (.iload 6, 2) := by decide +kernel
theorem d_lw_law_585 : decode code 585 = .ok (.i2l, 1) := by decide +kernel
theorem d_lw_law_586 : decode code 586 = .ok (.lcmp, 1) := by decide +kernel
theorem d_lw_law_587 : decode code 587 = .ok (.ifCond .eq 5, 3) := by decide +kernel
theorem d_lw_law_590 : decode code 590 = .ok (.iconst 0, 1) := by decide +kernel
theorem d_lw_law_591 : decode code 591 = .ok (.ireturn, 1) := by decide +kernel
theorem d_lw_law_592 : decode code 592 = .ok (.goto 307, 3) := by decide +kernel
theorem d_lw_law_595 : decode code 595 = .ok (.aload_n 1, 1) := by decide +kernel
theorem d_lw_law_596 : decode code 596 = .ok (.aload_n 0, 1) := by decide +kernel
theorem d_lw_law_597 : decode code 597 = .ok (.iload 4, 2) := by decide +kernel
theorem d_lw_law_599 : decode code 599 = .ok (.iconst 1, 1) := by decide +kernel
theorem d_lw_law_600 : decode code 600 = .ok (.iadd, 1) := by decide +kernel
theorem d_lw_law_601 : decode code 601 = .ok (.iaload, 1) := by decide +kernel
theorem d_lw_law_602 : decode code 602 = .ok (.aload_n 3, 1) := by decide +kernel
theorem d_lw_law_603 : decode code 603 = .ok (.invokestatic 93, 3) := by decide +kernel
theorem d_lw_law_606 : decode code 606 = .ok (.istore 5, 2) := by decide +kernel
theorem d_lw_law_608 : decode code 608 = .ok (.aload_n 2, 1) := by decide +kernel
theorem d_lw_law_609 : decode code 609 = .ok (.aload_n 0, 1) := by decide +kernel
theorem d_lw_law_610 : decode code 610 = .ok (.iload 4, 2) := by decide +kernel
theorem d_lw_law_612 : decode code 612 = .ok (.iconst 1, 1) := by decide +kernel
theorem d_lw_law_613 : decode code 613 = .ok (.iadd, 1) := by decide +kernel
theorem d_lw_law_614 : decode code 614 = .ok (.iaload, 1) := by decide +kernel
theorem d_lw_law_615 : decode code 615 = .ok (.invokevirtual 95, 3) := by decide +kernel
theorem d_lw_law_618 : decode code 618 = .ok (.istore 6, 2) := by decide +kernel
theorem d_lw_law_620 : decode code 620 = .ok (.aload_n 2, 1) := by decide +kernel
theorem d_lw_law_621 : decode code 621 = .ok (.invokevirtual 62, 3) := by decide +kernel
theorem d_lw_law_624 : decode code 624 = .ok (.iload 5, 2) := by decide +kernel
theorem d_lw_law_626 : decode code 626 = .ok (.if_icmp .eq 5, 3) := by decide +kernel
theorem d_lw_law_629 : decode code 629 = .ok (.iconst 0, 1) := by decide +kernel
theorem d_lw_law_630 : decode code 630 = .ok (.ireturn, 1) := by decide +kernel
theorem d_lw_law_631 : decode code 631 = .ok (.iload 5, 2) := by decide +kernel
theorem d_lw_law_633 : decode code 633 = .ok (.ifCond .ne 15, 3) := by decide +kernel
theorem d_lw_law_636 : decode code 636 = .ok (.aload_n 3, 1) := by decide +kernel
theorem d_lw_law_637 : decode code 637 = .ok (.iconst 0, 1) := by decide +kernel
theorem d_lw_law_638 : decode code 638 = .ok (.laload, 1) := by decide +kernel
theorem d_lw_law_639 : decode code 639 = .ok (.iload 6, 2) := by decide +kernel
theorem d_lw_law_641 : decode code 641 = .ok (.i2l, 1) := by decide +kernel
theorem d_lw_law_642 : decode code 642 = .ok (.lcmp, 1) := by decide +kernel
theorem d_lw_law_643 : decode code 643 = .ok (.ifCond .eq 5, 3) := by decide +kernel
theorem d_lw_law_646 : decode code 646 = .ok (.iconst 0, 1) := by decide +kernel
theorem d_lw_law_647 : decode code 647 = .ok (.ireturn, 1) := by decide +kernel
theorem d_lw_law_648 : decode code 648 = .ok (.goto 251, 3) := by decide +kernel
theorem d_lw_law_651 : decode code 651 = .ok (.aload_n 1, 1) := by decide +kernel
theorem d_lw_law_652 : decode code 652 = .ok (.aload_n 0, 1) := by decide +kernel
theorem d_lw_law_653 : decode code 653 = .ok (.iload 4, 2) := by decide +kernel
theorem d_lw_law_655 : decode code 655 = .ok (.iconst 1, 1) := by decide +kernel
theorem d_lw_law_656 : decode code 656 = .ok (.iadd, 1) := by decide +kernel
theorem d_lw_law_657 : decode code 657 = .ok (.iaload, 1) := by decide +kernel
theorem d_lw_law_658 : decode code 658 = .ok (.aload_n 0, 1) := by decide +kernel
theorem d_lw_law_659 : decode code 659 = .ok (.iload 4, 2) := by decide +kernel
theorem d_lw_law_661 : decode code 661 = .ok (.iconst 2, 1) := by decide +kernel
theorem d_lw_law_662 : decode code 662 = .ok (.iadd, 1) := by decide +kernel
theorem d_lw_law_663 : decode code 663 = .ok (.iaload, 1) := by decide +kernel
theorem d_lw_law_664 : decode code 664 = .ok (.aload_n 3, 1) := by decide +kernel
theorem d_lw_law_665 : decode code 665 = .ok (.invokestatic 96, 3) := by decide +kernel
theorem d_lw_law_668 : decode code 668 = .ok (.istore 5, 2) := by decide +kernel
theorem d_lw_law_670 : decode code 670 = .ok (.aload_n 2, 1) := by decide +kernel
theorem d_lw_law_671 : decode code 671 = .ok (.aload_n 0, 1) := by decide +kernel
theorem d_lw_law_672 : decode code 672 = .ok (.iload 4, 2) := by decide +kernel
theorem d_lw_law_674 : decode code 674 = .ok (.iconst 1, 1) := by decide +kernel
theorem d_lw_law_675 : decode code 675 = .ok (.iadd, 1) := by decide +kernel
theorem d_lw_law_676 : decode code 676 = .ok (.iaload, 1) := by decide +kernel
theorem d_lw_law_677 : decode code 677 = .ok (.aload_n 0, 1) := by decide +kernel
theorem d_lw_law_678 : decode code 678 = .ok (.iload 4, 2) := by decide +kernel
theorem d_lw_law_680 : decode code 680 = .ok (.iconst 2, 1) := by decide +kernel
theorem d_lw_law_681 : decode code 681 = .ok (.iadd, 1) := by decide +kernel
theorem d_lw_law_682 : decode code 682 = .ok (.iaload, 1) := by decide +kernel
theorem d_lw_law_683 : decode code 683 = .ok (.invokevirtual 98, 3) := by decide +kernel
theorem d_lw_law_686 : decode code 686 = .ok (.istore 6, 2) := by decide +kernel
theorem d_lw_law_688 : decode code 688 = .ok (.aload_n 2, 1) := by decide +kernel
theorem d_lw_law_689 : decode code 689 = .ok (.invokevirtual 62, 3) := by decide +kernel
theorem d_lw_law_692 : decode code 692 = .ok (.iload 5, 2) := by decide +kernel
theorem d_lw_law_694 : decode code 694 = .ok (.if_icmp .eq 5, 3) := by decide +kernel
theorem d_lw_law_697 : decode code 697 = .ok (.iconst 0, 1) := by decide +kernel
theorem d_lw_law_698 : decode code 698 = .ok (.ireturn, 1) := by decide +kernel
theorem d_lw_law_699 : decode code 699 = .ok (.iload 5, 2) := by decide +kernel
theorem d_lw_law_701 : decode code 701 = .ok (.ifCond .ne 15, 3) := by decide +kernel
theorem d_lw_law_704 : decode code 704 = .ok (.aload_n 3, 1) := by decide +kernel
theorem d_lw_law_705 : decode code 705 = .ok (.iconst 0, 1) := by decide +kernel
theorem d_lw_law_706 : decode code 706 = .ok (.laload, 1) := by decide +kernel
theorem d_lw_law_707 : decode code 707 = .ok (.iload 6, 2) := by decide +kernel
theorem d_lw_law_709 : decode code 709 = .ok (.i2l, 1) := by decide +kernel
theorem d_lw_law_710 : decode code 710 = .ok (.lcmp, 1) := by decide +kernel
theorem d_lw_law_711 : decode code 711 = .ok (.ifCond .eq 5, 3) := by decide +kernel
theorem d_lw_law_714 : decode code 714 = .ok (.iconst 0, 1) := by decide +kernel
theorem d_lw_law_715 : decode code 715 = .ok (.ireturn, 1) := by decide +kernel
theorem d_lw_law_716 : decode code 716 = .ok (.goto 183, 3) := by decide +kernel
theorem d_lw_law_719 : decode code 719 = .ok (.aload_n 1, 1) := by decide +kernel
theorem d_lw_law_720 : decode code 720 = .ok (.aload_n 0, 1) := by decide +kernel
theorem d_lw_law_721 : decode code 721 = .ok (.iload 4, 2) := by decide +kernel
theorem d_lw_law_723 : decode code 723 = .ok (.iconst 1, 1) := by decide +kernel
theorem d_lw_law_724 : decode code 724 = .ok (.iadd, 1) := by decide +kernel
theorem d_lw_law_725 : decode code 725 = .ok (.iaload, 1) := by decide +kernel
theorem d_lw_law_726 : decode code 726 = .ok (.aload_n 0, 1) := by decide +kernel
theorem d_lw_law_727 : decode code 727 = .ok (.iload 4, 2) := by decide +kernel
theorem d_lw_law_729 : decode code 729 = .ok (.iconst 2, 1) := by decide +kernel
theorem d_lw_law_730 : decode code 730 = .ok (.iadd, 1) := by decide +kernel
theorem d_lw_law_731 : decode code 731 = .ok (.iaload, 1) := by decide +kernel
theorem d_lw_law_732 : decode code 732 = .ok (.aload_n 3, 1) := by decide +kernel
theorem d_lw_law_733 : decode code 733 = .ok (.invokestatic 99, 3) := by decide +kernel
theorem d_lw_law_736 : decode code 736 = .ok (.istore 5, 2) := by decide +kernel
theorem d_lw_law_738 : decode code 738 = .ok (.aload_n 2, 1) := by decide +kernel
theorem d_lw_law_739 : decode code 739 = .ok (.aload_n 0, 1) := by decide +kernel
theorem d_lw_law_740 : decode code 740 = .ok (.iload 4, 2) := by decide +kernel
theorem d_lw_law_742 : decode code 742 = .ok (.iconst 1, 1) := by decide +kernel
theorem d_lw_law_743 : decode code 743 = .ok (.iadd, 1) := by decide +kernel
theorem d_lw_law_744 : decode code 744 = .ok (.iaload, 1) := by decide +kernel
theorem d_lw_law_745 : decode code 745 = .ok (.aload_n 0, 1) := by decide +kernel
theorem d_lw_law_746 : decode code 746 = .ok (.iload 4, 2) := by decide +kernel
theorem d_lw_law_748 : decode code 748 = .ok (.iconst 2, 1) := by decide +kernel
theorem d_lw_law_749 : decode code 749 = .ok (.iadd, 1) := by decide +kernel
theorem d_lw_law_750 : decode code 750 = .ok (.iaload, 1) := by decide +kernel
theorem d_lw_law_751 : decode code 751 = .ok (.invokevirtual 101, 3) := by decide +kernel
theorem d_lw_law_754 : decode code 754 = .ok (.istore 6, 2) := by decide +kernel
theorem d_lw_law_756 : decode code 756 = .ok (.aload_n 2, 1) := by decide +kernel
theorem d_lw_law_757 : decode code 757 = .ok (.invokevirtual 62, 3) := by decide +kernel
theorem d_lw_law_760 : decode code 760 = .ok (.iload 5, 2) := by decide +kernel
theorem d_lw_law_762 : decode code 762 = .ok (.if_icmp .eq 5, 3) := by decide +kernel
theorem d_lw_law_765 : decode code 765 = .ok (.iconst 0, 1) := by decide +kernel
theorem d_lw_law_766 : decode code 766 = .ok (.ireturn, 1) := by decide +kernel
theorem d_lw_law_767 : decode code 767 = .ok (.iload 5, 2) := by decide +kernel
theorem d_lw_law_769 : decode code 769 = .ok (.ifCond .ne 15, 3) := by decide +kernel
theorem d_lw_law_772 : decode code 772 = .ok (.aload_n 3, 1) := by decide +kernel
theorem d_lw_law_773 : decode code 773 = .ok (.iconst 0, 1) := by decide +kernel
theorem d_lw_law_774 : decode code 774 = .ok (.laload, 1) := by decide +kernel
theorem d_lw_law_775 : decode code 775 = .ok (.iload 6, 2) := by decide +kernel
theorem d_lw_law_777 : decode code 777 = .ok (.i2l, 1) := by decide +kernel
theorem d_lw_law_778 : decode code 778 = .ok (.lcmp, 1) := by decide +kernel
theorem d_lw_law_779 : decode code 779 = .ok (.ifCond .eq 5, 3) := by decide +kernel
theorem d_lw_law_782 : decode code 782 = .ok (.iconst 0, 1) := by decide +kernel
theorem d_lw_law_783 : decode code 783 = .ok (.ireturn, 1) := by decide +kernel
theorem d_lw_law_784 : decode code 784 = .ok (.goto 115, 3) := by decide +kernel
theorem d_lw_law_787 : decode code 787 = .ok (.aload_n 1, 1) := by decide +kernel
theorem d_lw_law_788 : decode code 788 = .ok (.aload_n 0, 1) := by decide +kernel
theorem d_lw_law_789 : decode code 789 = .ok (.iload 4, 2) := by decide +kernel
theorem d_lw_law_791 : decode code 791 = .ok (.iconst 1, 1) := by decide +kernel
theorem d_lw_law_792 : decode code 792 = .ok (.iadd, 1) := by decide +kernel
theorem d_lw_law_793 : decode code 793 = .ok (.iaload, 1) := by decide +kernel
theorem d_lw_law_794 : decode code 794 = .ok (.aload_n 0, 1) := by decide +kernel
theorem d_lw_law_795 : decode code 795 = .ok (.iload 4, 2) := by decide +kernel
theorem d_lw_law_797 : decode code 797 = .ok (.iconst 2, 1) := by decide +kernel
theorem d_lw_law_798 : decode code 798 = .ok (.iadd, 1) := by decide +kernel
theorem d_lw_law_799 : decode code 799 = .ok (.iaload, 1) := by decide +kernel
theorem d_lw_law_800 : decode code 800 = .ok (.aload_n 0, 1) := by decide +kernel
theorem d_lw_law_801 : decode code 801 = .ok (.iload 4, 2) := by decide +kernel
theorem d_lw_law_803 : decode code 803 = .ok (.iconst 3, 1) := by decide +kernel
theorem d_lw_law_804 : decode code 804 = .ok (.iadd, 1) := by decide +kernel
theorem d_lw_law_805 : decode code 805 = .ok (.iaload, 1) := by decide +kernel
theorem d_lw_law_806 : decode code 806 = .ok (.aload_n 3, 1) := by decide +kernel
theorem d_lw_law_807 : decode code 807 = .ok (.invokestatic 102, 3) := by decide +kernel
theorem d_lw_law_810 : decode code 810 = .ok (.istore 5, 2) := by decide +kernel
theorem d_lw_law_812 : decode code 812 = .ok (.aload_n 2, 1) := by decide +kernel
theorem d_lw_law_813 : decode code 813 = .ok (.aload_n 0, 1) := by decide +kernel
theorem d_lw_law_814 : decode code 814 = .ok (.iload 4, 2) := by decide +kernel
theorem d_lw_law_816 : decode code 816 = .ok (.iconst 1, 1) := by decide +kernel
theorem d_lw_law_817 : decode code 817 = .ok (.iadd, 1) := by decide +kernel
theorem d_lw_law_818 : decode code 818 = .ok (.iaload, 1) := by decide +kernel
theorem d_lw_law_819 : decode code 819 = .ok (.aload_n 0, 1) := by decide +kernel
theorem d_lw_law_820 : decode code 820 = .ok (.iload 4, 2) := by decide +kernel
theorem d_lw_law_822 : decode code 822 = .ok (.iconst 2, 1) := by decide +kernel
theorem d_lw_law_823 : decode code 823 = .ok (.iadd, 1) := by decide +kernel
theorem d_lw_law_824 : decode code 824 = .ok (.iaload, 1) := by decide +kernel
theorem d_lw_law_825 : decode code 825 = .ok (.aload_n 0, 1) := by decide +kernel
theorem d_lw_law_826 : decode code 826 = .ok (.iload 4, 2) := by decide +kernel
theorem d_lw_law_828 : decode code 828 = .ok (.iconst 3, 1) := by decide +kernel
theorem d_lw_law_829 : decode code 829 = .ok (.iadd, 1) := by decide +kernel
theorem d_lw_law_830 : decode code 830 = .ok (.iaload, 1) := by decide +kernel
theorem d_lw_law_831 : decode code 831 = .ok (.invokevirtual 105, 3) := by decide +kernel
theorem d_lw_law_834 : decode code 834 = .ok (.istore 6, 2) := by decide +kernel
theorem d_lw_law_836 : decode code 836 = .ok (.aload_n 2, 1) := by decide +kernel
theorem d_lw_law_837 : decode code 837 = .ok (.invokevirtual 62, 3) := by decide +kernel
theorem d_lw_law_840 : decode code 840 = .ok (.iload 5, 2) := by decide +kernel
theorem d_lw_law_842 : decode code 842 = .ok (.if_icmp .eq 5, 3) := by decide +kernel
theorem d_lw_law_845 : decode code 845 = .ok (.iconst 0, 1) := by decide +kernel
theorem d_lw_law_846 : decode code 846 = .ok (.ireturn, 1) := by decide +kernel
theorem d_lw_law_847 : decode code 847 = .ok (.iload 5, 2) := by decide +kernel
theorem d_lw_law_849 : decode code 849 = .ok (.ifCond .ne 22, 3) := by decide +kernel
theorem d_lw_law_852 : decode code 852 = .ok (.aload_n 3, 1) := by decide +kernel
theorem d_lw_law_853 : decode code 853 = .ok (.iconst 0, 1) := by decide +kernel
theorem d_lw_law_854 : decode code 854 = .ok (.laload, 1) := by decide +kernel
theorem d_lw_law_855 : decode code 855 = .ok (.iload 6, 2) := by decide +kernel
theorem d_lw_law_857 : decode code 857 = .ok (.ifCond .eq 7, 3) := by decide +kernel
theorem d_lw_law_860 : decode code 860 = .ok (.lconst 1, 1) := by decide +kernel
theorem d_lw_law_861 : decode code 861 = .ok (.goto 4, 3) := by decide +kernel
theorem d_lw_law_864 : decode code 864 = .ok (.lconst 0, 1) := by decide +kernel
theorem d_lw_law_865 : decode code 865 = .ok (.lcmp, 1) := by decide +kernel
theorem d_lw_law_866 : decode code 866 = .ok (.ifCond .eq 5, 3) := by decide +kernel
theorem d_lw_law_869 : decode code 869 = .ok (.iconst 0, 1) := by decide +kernel
theorem d_lw_law_870 : decode code 870 = .ok (.ireturn, 1) := by decide +kernel
theorem d_lw_law_871 : decode code 871 = .ok (.goto 28, 3) := by decide +kernel
theorem d_lw_law_874 : decode code 874 = .ok (.aload_n 1, 1) := by decide +kernel
theorem d_lw_law_875 : decode code 875 = .ok (.aload_n 0, 1) := by decide +kernel
theorem d_lw_law_876 : decode code 876 = .ok (.iload 4, 2) := by decide +kernel
theorem d_lw_law_878 : decode code 878 = .ok (.iconst 1, 1) := by decide +kernel
theorem d_lw_law_879 : decode code 879 = .ok (.iadd, 1) := by decide +kernel
theorem d_lw_law_880 : decode code 880 = .ok (.iaload, 1) := by decide +kernel
theorem d_lw_law_881 : decode code 881 = .ok (.invokevirtual 106, 3) := by decide +kernel
theorem d_lw_law_884 : decode code 884 = .ok (.aload_n 2, 1) := by decide +kernel
theorem d_lw_law_885 : decode code 885 = .ok (.aload_n 0, 1) := by decide +kernel
theorem d_lw_law_886 : decode code 886 = .ok (.iload 4, 2) := by decide +kernel
theorem d_lw_law_888 : decode code 888 = .ok (.iconst 1, 1) := by decide +kernel
theorem d_lw_law_889 : decode code 889 = .ok (.iadd, 1) := by decide +kernel
theorem d_lw_law_890 : decode code 890 = .ok (.iaload, 1) := by decide +kernel
theorem d_lw_law_891 : decode code 891 = .ok (.invokevirtual 109, 3) := by decide +kernel
theorem d_lw_law_894 : decode code 894 = .ok (.if_icmp .eq 5, 3) := by decide +kernel
theorem d_lw_law_897 : decode code 897 = .ok (.iconst 0, 1) := by decide +kernel
theorem d_lw_law_898 : decode code 898 = .ok (.ireturn, 1) := by decide +kernel
theorem d_lw_law_899 : decode code 899 = .ok (.iinc 4 4, 3) := by decide +kernel
theorem d_lw_law_902 : decode code 902 = .ok (.goto (-879), 3) := by decide +kernel
theorem d_lw_law_905 : decode code 905 = .ok (.iconst 1, 1) := by decide +kernel
theorem d_lw_law_906 : decode code 906 = .ok (.ireturn, 1) := by decide +kernel
