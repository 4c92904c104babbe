abbrev cd_Law_law : ByteArray := code
theorem d_Law_law_0 : decode cd_Law_law 0 = .ok (.new 8, 3) := by decide +kernel
theorem d_Law_law_3 : decode cd_Law_law 3 = .ok (.dup, 1) := by decide +kernel
theorem d_Law_law_4 : decode cd_Law_law 4 = .ok (.invokespecial 66, 3) := by decide +kernel
theorem d_Law_law_7 : decode cd_Law_law 7 = .ok (.astore_n 1, 1) := by decide +kernel
theorem d_Law_law_8 : decode cd_Law_law 8 = .ok (.new 67, 3) := by decide +kernel
theorem d_Law_law_11 : decode cd_Law_law 11 = .ok (.dup, 1) := by decide +kernel
theorem d_Law_law_12 : decode cd_Law_law 12 = .ok (.invokespecial 69, 3) := by decide +kernel
theorem d_Law_law_15 : decode cd_Law_law 15 = .ok (.astore_n 2, 1) := by decide +kernel
theorem d_Law_law_16 : decode cd_Law_law 16 = .ok (.iconst 1, 1) := by decide +kernel
theorem d_Law_law_17 : decode cd_Law_law 17 = .ok (.newarray .long, 2) := by decide +kernel
theorem d_Law_law_19 : decode cd_Law_law 19 = .ok (.astore_n 3, 1) := by decide +kernel
theorem d_Law_law_20 : decode cd_Law_law 20 = .ok (.iconst 0, 1) := by decide +kernel
theorem d_Law_law_21 : decode cd_Law_law 21 = .ok (.istore 4, 2) := by decide +kernel
theorem d_Law_law_23 : decode cd_Law_law 23 = .ok (.iload 4, 2) := by decide +kernel
theorem d_Law_law_25 : decode cd_Law_law 25 = .ok (.aload_n 0, 1) := by decide +kernel
theorem d_Law_law_26 : decode cd_Law_law 26 = .ok (.arraylength, 1) := by decide +kernel
theorem d_Law_law_27 : decode cd_Law_law 27 = .ok (.bipush 6, 2) := by decide +kernel
theorem d_Law_law_29 : decode cd_Law_law 29 = .ok (.isub, 1) := by decide +kernel
theorem d_Law_law_30 : decode cd_Law_law 30 = .ok (.if_icmp .gt 1211, 3) := by decide +kernel
theorem d_Law_law_33 : decode cd_Law_law 33 = .ok (.aload_n 0, 1) := by decide +kernel
theorem d_Law_law_34 : decode cd_Law_law 34 = .ok (.iload 4, 2) := by decide +kernel
theorem d_Law_law_36 : decode cd_Law_law 36 = .ok (.iaload, 1) := by decide +kernel
theorem d_Law_law_37 : decode cd_Law_law 37 = .ok (.bipush 31, 2) := by decide +kernel
theorem d_Law_law_39 : decode cd_Law_law 39 = .ok (.iand, 1) := by decide +kernel
theorem d_Law_law_40 : decode cd_Law_law 40 = .ok (.tableswitch 1195 0 19 #[96, 109, 122, 178, 214, 262, 310, 414, 501, 581, 649, 729, 792, 848, 923, 991, 1071, 1108, 1145, 1170], 96) := by decide +kernel
theorem d_Law_law_136 : decode cd_Law_law 136 = .ok (.aload_n 1, 1) := by decide +kernel
theorem d_Law_law_137 : decode cd_Law_law 137 = .ok (.invokevirtual 70, 3) := by decide +kernel
theorem d_Law_law_140 : decode cd_Law_law 140 = .ok (.aload_n 2, 1) := by decide +kernel
theorem d_Law_law_141 : decode cd_Law_law 141 = .ok (.invokevirtual 74, 3) := by decide +kernel
theorem d_Law_law_144 : decode cd_Law_law 144 = .ok (.if_icmp .eq 1091, 3) := by decide +kernel
theorem d_Law_law_147 : decode cd_Law_law 147 = .ok (.iconst 0, 1) := by decide +kernel
theorem d_Law_law_148 : decode cd_Law_law 148 = .ok (.ireturn, 1) := by decide +kernel
theorem d_Law_law_149 : decode cd_Law_law 149 = .ok (.aload_n 1, 1) := by decide +kernel
theorem d_Law_law_150 : decode cd_Law_law 150 = .ok (.invokevirtual 75, 3) := by decide +kernel
theorem d_Law_law_153 : decode cd_Law_law 153 = .ok (.aload_n 2, 1) := by decide +kernel
theorem d_Law_law_154 : decode cd_Law_law 154 = .ok (.invokevirtual 78, 3) := by decide +kernel
theorem d_Law_law_157 : decode cd_Law_law 157 = .ok (.if_icmp .eq 1078, 3) := by decide +kernel
theorem d_Law_law_160 : decode cd_Law_law 160 = .ok (.iconst 0, 1) := by decide +kernel
theorem d_Law_law_161 : decode cd_Law_law 161 = .ok (.ireturn, 1) := by decide +kernel
theorem d_Law_law_162 : decode cd_Law_law 162 = .ok (.aload_n 1, 1) := by decide +kernel
theorem d_Law_law_163 : decode cd_Law_law 163 = .ok (.aload_n 0, 1) := by decide +kernel
theorem d_Law_law_164 : decode cd_Law_law 164 = .ok (.iload 4, 2) := by decide +kernel
theorem d_Law_law_166 : decode cd_Law_law 166 = .ok (.iconst 1, 1) := by decide +kernel
theorem d_Law_law_167 : decode cd_Law_law 167 = .ok (.iadd, 1) := by decide +kernel
theorem d_Law_law_168 : decode cd_Law_law 168 = .ok (.iaload, 1) := by decide +kernel
theorem d_Law_law_169 : decode cd_Law_law 169 = .ok (.aload_n 3, 1) := by decide +kernel
theorem d_Law_law_170 : decode cd_Law_law 170 = .ok (.invokestatic 79, 3) := by decide +kernel
theorem d_Law_law_173 : decode cd_Law_law 173 = .ok (.istore 5, 2) := by decide +kernel
theorem d_Law_law_175 : decode cd_Law_law 175 = .ok (.aload_n 2, 1) := by decide +kernel
theorem d_Law_law_176 : decode cd_Law_law 176 = .ok (.aload_n 0, 1) := by decide +kernel
theorem d_Law_law_177 : decode cd_Law_law 177 = .ok (.iload 4, 2) := by decide +kernel
theorem d_Law_law_179 : decode cd_Law_law 179 = .ok (.iconst 1, 1) := by decide +kernel
theorem d_Law_law_180 : decode cd_Law_law 180 = .ok (.iadd, 1) := by decide +kernel
theorem d_Law_law_181 : decode cd_Law_law 181 = .ok (.iaload, 1) := by decide +kernel
theorem d_Law_law_182 : decode cd_Law_law 182 = .ok (.invokevirtual 84, 3) := by decide +kernel
theorem d_Law_law_185 : decode cd_Law_law 185 = .ok (.istore 6, 2) := by decide +kernel
theorem d_Law_law_187 : decode cd_Law_law 187 = .ok (.aload_n 2, 1) := by decide +kernel
theorem d_Law_law_188 : decode cd_Law_law 188 = .ok (.invokevirtual 85, 3) := by decide +kernel
theorem d_Law_law_191 : decode cd_Law_law 191 = .ok (.iload 5, 2) := by decide +kernel
theorem d_Law_law_193 : decode cd_Law_law 193 = .ok (.if_icmp .eq 5, 3) := by decide +kernel
theorem d_Law_law_196 : decode cd_Law_law 196 = .ok (.iconst 0, 1) := by decide +kernel
theorem d_Law_law_197 : decode cd_Law_law 197 = .ok (.ireturn, 1) := by decide +kernel
theorem d_Law_law_198 : decode cd_Law_law 198 = .ok (.iload 5, 2) := by decide +kernel
theorem d_Law_law_200 : decode cd_Law_law 200 = .ok (.ifCond .ne 15, 3) := by decide +kernel
theorem d_Law_law_203 : decode cd_Law_law 203 = .ok (.aload_n 3, 1) := by decide +kernel
theorem d_Law_law_204 : decode cd_Law_law 204 = .ok (.iconst 0, 1) := by decide +kernel
theorem d_Law_law_205 : decode cd_Law_law 205 = .ok (.laload, 1) := by decide +kernel
theorem d_Law_law_206 : decode cd_Law_law 206 = .ok (.iload 6, 2) := by decide +kernel
theorem d_Law_law_208 : decode cd_Law_law 208 = .ok (.i2l, 1) := by decide +kernel
theorem d_Law_law_209 : decode cd_Law_law 209 = .ok (.lcmp, 1) := by decide +kernel
theorem d_Law_law_210 : decode cd_Law_law 210 = .ok (.ifCond .eq 5, 3) := by decide +kernel
theorem d_Law_law_213 : decode cd_Law_law 213 = .ok (.iconst 0, 1) := by decide +kernel
theorem d_Law_law_214 : decode cd_Law_law 214 = .ok (.ireturn, 1) := by decide +kernel
theorem d_Law_law_215 : decode cd_Law_law 215 = .ok (.goto 1020, 3) := by decide +kernel
theorem d_Law_law_218 : decode cd_Law_law 218 = .ok (.aload_n 1, 1) := by decide +kernel
theorem d_Law_law_219 : decode cd_Law_law 219 = .ok (.aload_n 0, 1) := by decide +kernel
theorem d_Law_law_220 : decode cd_Law_law 220 = .ok (.iload 4, 2) := by decide +kernel
theorem d_Law_law_222 : decode cd_Law_law 222 = .ok (.iconst 1, 1) := by decide +kernel
theorem d_Law_law_223 : decode cd_Law_law 223 = .ok (.iadd, 1) := by decide +kernel
theorem d_Law_law_224 : decode cd_Law_law 224 = .ok (.iaload, 1) := by decide +kernel
theorem d_Law_law_225 : decode cd_Law_law 225 = .ok (.invokestatic 88, 3) := by decide +kernel
theorem d_Law_law_228 : decode cd_Law_law 228 = .ok (.istore 5, 2) := by decide +kernel
theorem d_Law_law_230 : decode cd_Law_law 230 = .ok (.aload_n 2, 1) := by decide +kernel
theorem d_Law_law_231 : decode cd_Law_law 231 = .ok (.aload_n 0, 1) := by decide +kernel
theorem d_Law_law_232 : decode cd_Law_law 232 = .ok (.iload 4, 2) := by decide +kernel
theorem d_Law_law_234 : decode cd_Law_law 234 = .ok (.iconst 1, 1) := by decide +kernel
theorem d_Law_law_235 : decode cd_Law_law 235 = .ok (.iadd, 1) := by decide +kernel
theorem d_Law_law_236 : decode cd_Law_law 236 = .ok (.iaload, 1) := by decide +kernel
theorem d_Law_law_237 : decode cd_Law_law 237 = .ok (.invokevirtual 91, 3) := by decide +kernel
theorem d_Law_law_240 : decode cd_Law_law 240 = .ok (.aload_n 2, 1) := by decide +kernel
theorem d_Law_law_241 : decode cd_Law_law 241 = .ok (.invokevirtual 85, 3) := by decide +kernel
theorem d_Law_law_244 : decode cd_Law_law 244 = .ok (.iload 5, 2) := by decide +kernel
theorem d_Law_law_246 : decode cd_Law_law 246 = .ok (.if_icmp .eq 5, 3) := by decide +kernel
theorem d_Law_law_249 : decode cd_Law_law 249 = .ok (.iconst 0, 1) := by decide +kernel
theorem d_Law_law_250 : decode cd_Law_law 250 = .ok (.ireturn, 1) := by decide +kernel
theorem d_Law_law_251 : decode cd_Law_law 251 = .ok (.goto 984, 3) := by decide +kernel
theorem d_Law_law_254 : decode cd_Law_law 254 = .ok (.aload_n 1, 1) := by decide +kernel
theorem d_Law_law_255 : decode cd_Law_law 255 = .ok (.aload_n 0, 1) := by decide +kernel
theorem d_Law_law_256 : decode cd_Law_law 256 = .ok (.iload 4, 2) := by decide +kernel
theorem d_Law_law_258 : decode cd_Law_law 258 = .ok (.iconst 1, 1) := by decide +kernel
theorem d_Law_law_259 : decode cd_Law_law 259 = .ok (.iadd, 1) := by decide +kernel
theorem d_Law_law_260 : decode cd_Law_law 260 = .ok (.iaload, 1) := by decide +kernel
theorem d_Law_law_261 : decode cd_Law_law 261 = .ok (.aload_n 0, 1) := by decide +kernel
theorem d_Law_law_262 : decode cd_Law_law 262 = .ok (.iload 4, 2) := by decide +kernel
theorem d_Law_law_264 : decode cd_Law_law 264 = .ok (.iconst 2, 1) := by decide +kernel
theorem d_Law_law_265 : decode cd_Law_law 265 = .ok (.iadd, 1) := by decide +kernel
theorem d_Law_law_266 : decode cd_Law_law 266 = .ok (.iaload, 1) := by decide +kernel
theorem d_Law_law_267 : decode cd_Law_law 267 = .ok (.invokestatic 92, 3) := by decide +kernel
theorem d_Law_law_270 : decode cd_Law_law 270 = .ok (.istore 5, 2) := by decide +kernel
theorem d_Law_law_272 : decode cd_Law_law 272 = .ok (.aload_n 2, 1) := by decide +kernel
theorem d_Law_law_273 : decode cd_Law_law 273 = .ok (.aload_n 0, 1) := by decide +kernel
theorem d_Law_law_274 : decode cd_Law_law 274 = .ok (.iload 4, 2) := by decide +kernel
theorem d_Law_law_276 : decode cd_Law_law 276 = .ok (.iconst 1, 1) := by decide +kernel
theorem d_Law_law_277 : decode cd_Law_law 277 = .ok (.iadd, 1) := by decide +kernel
theorem d_Law_law_278 : decode cd_Law_law 278 = .ok (.iaload, 1) := by decide +kernel
theorem d_Law_law_279 : decode cd_Law_law 279 = .ok (.aload_n 0, 1) := by decide +kernel
theorem d_Law_law_280 : decode cd_Law_law 280 = .ok (.iload 4, 2) := by decide +kernel
theorem d_Law_law_282 : decode cd_Law_law 282 = .ok (.iconst 2, 1) := by decide +kernel
theorem d_Law_law_283 : decode cd_Law_law 283 = .ok (.iadd, 1) := by decide +kernel
theorem d_Law_law_284 : decode cd_Law_law 284 = .ok (.iaload, 1) := by decide +kernel
theorem d_Law_law_285 : decode cd_Law_law 285 = .ok (.invokevirtual 95, 3) := by decide +kernel
theorem d_Law_law_288 : decode cd_Law_law 288 = .ok (.aload_n 2, 1) := by decide +kernel
theorem d_Law_law_289 : decode cd_Law_law 289 = .ok (.invokevirtual 85, 3) := by decide +kernel
theorem d_Law_law_292 : decode cd_Law_law 292 = .ok (.iload 5, 2) := by decide +kernel
theorem d_Law_law_294 : decode cd_Law_law 294 = .ok (.if_icmp .eq 5, 3) := by decide +kernel
theorem d_Law_law_297 : decode cd_Law_law 297 = .ok (.iconst 0, 1) := by decide +kernel
theorem d_Law_law_298 : decode cd_Law_law 298 = .ok (.ireturn, 1) := by decide +kernel
theorem d_Law_law_299 : decode cd_Law_law 299 = .ok (.goto 936, 3) := by decide +kernel
theorem d_Law_law_302 : decode cd_Law_law 302 = .ok (.aload_n 1, 1) := by decide +kernel
theorem d_Law_law_303 : decode cd_Law_law 303 = .ok (.aload_n 0, 1) := by decide +kernel
theorem d_Law_law_304 : decode cd_Law_law 304 = .ok (.iload 4, 2) := by decide +kernel
theorem d_Law_law_306 : decode cd_Law_law 306 = .ok (.iconst 1, 1) := by decide +kernel
theorem d_Law_law_307 : decode cd_Law_law 307 = .ok (.iadd, 1) := by decide +kernel
theorem d_Law_law_308 : decode cd_Law_law 308 = .ok (.iaload, 1) := by decide +kernel
theorem d_Law_law_309 : decode cd_Law_law 309 = .ok (.aload_n 0, 1) := by decide +kernel
theorem d_Law_law_310 : decode cd_Law_law 310 = .ok (.iload 4, 2) := by decide +kernel
theorem d_Law_law_312 : decode cd_Law_law 312 = .ok (.iconst 2, 1) := by decide +kernel
theorem d_Law_law_313 : decode cd_Law_law 313 = .ok (.iadd, 1) := by decide +kernel
theorem d_Law_law_314 : decode cd_Law_law 314 = .ok (.iaload, 1) := by decide +kernel
theorem d_Law_law_315 : decode cd_Law_law 315 = .ok (.invokestatic 96, 3) := by decide +kernel
theorem d_Law_law_318 : decode cd_Law_law 318 = .ok (.istore 5, 2) := by decide +kernel
theorem d_Law_law_320 : decode cd_Law_law 320 = .ok (.aload_n 2, 1) := by decide +kernel
theorem d_Law_law_321 : decode cd_Law_law 321 = .ok (.aload_n 0, 1) := by decide +kernel
theorem d_Law_law_322 : decode cd_Law_law 322 = .ok (.iload 4, 2) := by decide +kernel
theorem d_Law_law_324 : decode cd_Law_law 324 = .ok (.iconst 1, 1) := by decide +kernel
theorem d_Law_law_325 : decode cd_Law_law 325 = .ok (.iadd, 1) := by decide +kernel
theorem d_Law_law_326 : decode cd_Law_law 326 = .ok (.iaload, 1) := by decide +kernel
theorem d_Law_law_327 : decode cd_Law_law 327 = .ok (.aload_n 0, 1) := by decide +kernel
theorem d_Law_law_328 : decode cd_Law_law 328 = .ok (.iload 4, 2) := by decide +kernel
theorem d_Law_law_330 : decode cd_Law_law 330 = .ok (.iconst 2, 1) := by decide +kernel
theorem d_Law_law_331 : decode cd_Law_law 331 = .ok (.iadd, 1) := by decide +kernel
theorem d_Law_law_332 : decode cd_Law_law 332 = .ok (.iaload, 1) := by decide +kernel
theorem d_Law_law_333 : decode cd_Law_law 333 = .ok (.invokevirtual 98, 3) := by decide +kernel
theorem d_Law_law_336 : decode cd_Law_law 336 = .ok (.aload_n 2, 1) := by decide +kernel
theorem d_Law_law_337 : decode cd_Law_law 337 = .ok (.invokevirtual 85, 3) := by decide +kernel
theorem d_Law_law_340 : decode cd_Law_law 340 = .ok (.iload 5, 2) := by decide +kernel
theorem d_Law_law_342 : decode cd_Law_law 342 = .ok (.if_icmp .eq 5, 3) := by decide +kernel
theorem d_Law_law_345 : decode cd_Law_law 345 = .ok (.iconst 0, 1) := by decide +kernel
theorem d_Law_law_346 : decode cd_Law_law 346 = .ok (.ireturn, 1) := by decide +kernel
theorem d_Law_law_347 : decode cd_Law_law 347 = .ok (.goto 888, 3) := by decide +kernel
theorem d_Law_law_350 : decode cd_Law_law 350 = .ok (.aload_n 1, 1) := by decide +kernel
theorem d_Law_law_351 : decode cd_Law_law 351 = .ok (.aload_n 0, 1) := by decide +kernel
theorem d_Law_law_352 : decode cd_Law_law 352 = .ok (.iload 4, 2) := by decide +kernel
theorem d_Law_law_354 : decode cd_Law_law 354 = .ok (.iconst 1, 1) := by decide +kernel
theorem d_Law_law_355 : decode cd_Law_law 355 = .ok (.iadd, 1) := by decide +kernel
theorem d_Law_law_356 : decode cd_Law_law 356 = .ok (.iaload, 1) := by decide +kernel
theorem d_Law_law_357 : decode cd_Law_law 357 = .ok (.aload_n 0, 1) := by decide +kernel
theorem d_Law_law_358 : decode cd_Law_law 358 = .ok (.iload 4, 2) := by decide +kernel
theorem d_Law_law_360 : decode cd_Law_law 360 = .ok (.iconst 2, 1) := by decide +kernel
theorem d_Law_law_361 : decode cd_Law_law 361 = .ok (.iadd, 1) := by decide +kernel
theorem d_Law_law_362 : decode cd_Law_law 362 = .ok (.iaload, 1) := by decide +kernel
theorem d_Law_law_363 : decode cd_Law_law 363 = .ok (.aload_n 0, 1) := by decide +kernel
theorem d_Law_law_364 : decode cd_Law_law 364 = .ok (.iload 4, 2) := by decide +kernel
theorem d_Law_law_366 : decode cd_Law_law 366 = .ok (.iconst 3, 1) := by decide +kernel
theorem d_Law_law_367 : decode cd_Law_law 367 = .ok (.iadd, 1) := by decide +kernel
theorem d_Law_law_368 : decode cd_Law_law 368 = .ok (.iaload, 1) := by decide +kernel
theorem d_Law_law_369 : decode cd_Law_law 369 = .ok (.aload_n 0, 1) := by decide +kernel
theorem d_Law_law_370 : decode cd_Law_law 370 = .ok (.iload 4, 2) := by decide +kernel
theorem d_Law_law_372 : decode cd_Law_law 372 = .ok (.iconst 4, 1) := by decide +kernel
theorem d_Law_law_373 : decode cd_Law_law 373 = .ok (.iadd, 1) := by decide +kernel
theorem d_Law_law_374 : decode cd_Law_law 374 = .ok (.iaload, 1) := by decide +kernel
theorem d_Law_law_375 : decode cd_Law_law 375 = .ok (.aload_n 0, 1) := by decide +kernel
theorem d_Law_law_376 : decode cd_Law_law 376 = .ok (.iload 4, 2) := by decide +kernel
theorem d_Law_law_378 : decode cd_Law_law 378 = .ok (.iconst 5, 1) := by decide +kernel
theorem d_Law_law_379 : decode cd_Law_law 379 = .ok (.iadd, 1) := by decide +kernel
theorem d_Law_law_380 : decode cd_Law_law 380 = .ok (.iaload, 1) := by decide +kernel
theorem d_Law_law_381 : decode cd_Law_law 381 = .ok (.aload_n 3, 1) := by decide +kernel
theorem d_Law_law_382 : decode cd_Law_law 382 = .ok (.invokestatic 99, 3) := by decide +kernel
theorem d_Law_law_385 : decode cd_Law_law 385 = .ok (.istore 5, 2) := by decide +kernel
theorem d_Law_law_387 : decode cd_Law_law 387 = .ok (.aload_n 2, 1) := by decide +kernel
theorem d_Law_law_388 : decode cd_Law_law 388 = .ok (.aload_n 0, 1) := by decide +kernel
theorem d_Law_law_389 : decode cd_Law_law 389 = .ok (.iload 4, 2) := by decide +kernel
theorem d_Law_law_391 : decode cd_Law_law 391 = .ok (.iconst 1, 1) := by decide +kernel
theorem d_Law_law_392 : decode cd_Law_law 392 = .ok (.iadd, 1) := by decide +kernel
theorem d_Law_law_393 : decode cd_Law_law 393 = .ok (.iaload, 1) := by decide +kernel
theorem d_Law_law_394 : decode cd_Law_law 394 = .ok (.aload_n 0, 1) := by decide +kernel
theorem d_Law_law_395 : decode cd_Law_law 395 = .ok (.iload 4, 2) := by decide +kernel
theorem d_Law_law_397 : decode cd_Law_law 397 = .ok (.iconst 2, 1) := by decide +kernel
theorem d_Law_law_398 : decode cd_Law_law 398 = .ok (.iadd, 1) := by decide +kernel
theorem d_Law_law_399 : decode cd_Law_law 399 = .ok (.iaload, 1) := by decide +kernel
theorem d_Law_law_400 : decode cd_Law_law 400 = .ok (.aload_n 0, 1) := by decide +kernel
theorem d_Law_law_401 : decode cd_Law_law 401 = .ok (.iload 4, 2) := by decide +kernel
theorem d_Law_law_403 : decode cd_Law_law 403 = .ok (.iconst 3, 1) := by decide +kernel
theorem d_Law_law_404 : decode cd_Law_law 404 = .ok (.iadd, 1) := by decide +kernel
theorem d_Law_law_405 : decode cd_Law_law 405 = .ok (.iaload, 1) := by decide +kernel
theorem d_Law_law_406 : decode cd_Law_law 406 = .ok (.aload_n 0, 1) := by decide +kernel
theorem d_Law_law_407 : decode cd_Law_law 407 = .ok (.iload 4, 2) := by decide +kernel
theorem d_Law_law_409 : decode cd_Law_law 409 = .ok (.iconst 4, 1) := by decide +kernel
theorem d_Law_law_410 : decode cd_Law_law 410 = .ok (.iadd, 1) := by decide +kernel
theorem d_Law_law_411 : decode cd_Law_law 411 = .ok (.iaload, 1) := by decide +kernel
theorem d_Law_law_412 : decode cd_Law_law 412 = .ok (.aload_n 0, 1) := by decide +kernel
theorem d_Law_law_413 : decode cd_Law_law 413 = .ok (.iload 4, 2) := by decide +kernel
theorem d_Law_law_415 : decode cd_Law_law 415 = .ok (.iconst 5, 1) := by decide +kernel
theorem d_Law_law_416 : decode cd_Law_law 416 = .ok (.iadd, 1) := by decide +kernel
theorem d_Law_law_417 : decode cd_Law_law 417 = .ok (.iaload, 1) := by decide +kernel
theorem d_Law_law_418 : decode cd_Law_law 418 = .ok (.invokevirtual 102, 3) := by decide +kernel
theorem d_Law_law_421 : decode cd_Law_law 421 = .ok (.istore 6, 2) := by decide +kernel
theorem d_Law_law_423 : decode cd_Law_law 423 = .ok (.aload_n 2, 1) := by decide +kernel
theorem d_Law_law_424 : decode cd_Law_law 424 = .ok (.invokevirtual 85, 3) := by decide +kernel
theorem d_Law_law_427 : decode cd_Law_law 427 = .ok (.iload 5, 2) := by decide +kernel
theorem d_Law_law_429 : decode cd_Law_law 429 = .ok (.if_icmp .eq 5, 3) := by decide +kernel
theorem d_Law_law_432 : decode cd_Law_law 432 = .ok (.iconst 0, 1) := by decide +kernel
theorem d_Law_law_433 : decode cd_Law_law 433 = .ok (.ireturn, 1) := by decide +kernel
theorem d_Law_law_434 : decode cd_Law_law 434 = .ok (.iload 5, 2) := by decide +kernel
theorem d_Law_law_436 : decode cd_Law_law 436 = .ok (.ifCond .ne 15, 3) := by decide +kernel
theorem d_Law_law_439 : decode cd_Law_law 439 = .ok (.aload_n 3, 1) := by decide +kernel
theorem d_Law_law_440 : decode cd_Law_law 440 = .ok (.iconst 0, 1) := by decide +kernel
theorem d_Law_law_441 : decode cd_Law_law 441 = .ok (.laload, 1) := by decide +kernel
theorem d_Law_law_442 : decode cd_Law_law 442 = .ok (.iload 6, 2) := by decide +kernel
theorem d_Law_law_444 : decode cd_Law_law 444 = .ok (.i2l, 1) := by decide +kernel
theorem d_Law_law_445 : decode cd_Law_law 445 = .ok (.lcmp, 1) := by decide +kernel
theorem d_Law_law_446 : decode cd_Law_law 446 = .ok (.ifCond .eq 5, 3) := by decide +kernel
theorem d_Law_law_449 : decode cd_Law_law 449 = .ok (.iconst 0, 1) := by decide +kernel
theorem d_Law_law_450 : decode cd_Law_law 450 = .ok (.ireturn, 1) := by decide +kernel
theorem d_Law_law_451 : decode cd_Law_law 451 = .ok (.goto 784, 3) := by decide +kernel
theorem d_Law_law_454 : decode cd_Law_law 454 = .ok (.aload_n 1, 1) := by decide +kernel
theorem d_Law_law_455 : decode cd_Law_law 455 = .ok (.aload_n 0, 1) := by decide +kernel
theorem d_Law_law_456 : decode cd_Law_law 456 = .ok (.iload 4, 2) := by decide +kernel
theorem d_Law_law_458 : decode cd_Law_law 458 = .ok (.iconst 1, 1) := by decide +kernel
theorem d_Law_law_459 : decode cd_Law_law 459 = .ok (.iadd, 1) := by decide +kernel
theorem d_Law_law_460 : decode cd_Law_law 460 = .ok (.iaload, 1) := by decide +kernel
theorem d_Law_law_461 : decode cd_Law_law 461 = .ok (.aload_n 0, 1) := by decide +kernel
theorem d_Law_law_462 : decode cd_Law_law 462 = .ok (.iload 4, 2) := by decide +kernel
theorem d_Law_law_464 : decode cd_Law_law 464 = .ok (.iconst 2, 1) := by decide +kernel
theorem d_Law_law_465 : decode cd_Law_law 465 = .ok (.iadd, 1) := by decide +kernel
theorem d_Law_law_466 : decode cd_Law_law 466 = .ok (.iaload, 1) := by decide +kernel
theorem d_Law_law_467 : decode cd_Law_law 467 = .ok (.aload_n 0, 1) := by decide +kernel
theorem d_Law_law_468 : decode cd_Law_law 468 = .ok (.iload 4, 2) := by decide +kernel
theorem d_Law_law_470 : decode cd_Law_law 470 = .ok (.iconst 3, 1) := by decide +kernel
theorem d_Law_law_471 : decode cd_Law_law 471 = .ok (.iadd, 1) := by decide +kernel
theorem d_Law_law_472 : decode cd_Law_law 472 = .ok (.iaload, 1) := by decide +kernel
theorem d_Law_law_473 : decode cd_Law_law 473 = .ok (.aload_n 3, 1) := by decide +kernel
theorem d_Law_law_474 : decode cd_Law_law 474 = .ok (.invokestatic 103, 3) := by decide +kernel
theorem d_Law_law_477 : decode cd_Law_law 477 = .ok (.istore 5, 2) := by decide +kernel
theorem d_Law_law_479 : decode cd_Law_law 479 = .ok (.aload_n 2, 1) := by decide +kernel
theorem d_Law_law_480 : decode cd_Law_law 480 = .ok (.aload_n 0, 1) := by decide +kernel
theorem d_Law_law_481 : decode cd_Law_law 481 = .ok (.iload 4, 2) := by decide +kernel
theorem d_Law_law_483 : decode cd_Law_law 483 = .ok (.iconst 1, 1) := by decide +kernel
theorem d_Law_law_484 : decode cd_Law_law 484 = .ok (.iadd, 1) := by decide +kernel
theorem d_Law_law_485 : decode cd_Law_law 485 = .ok (.iaload, 1) := by decide +kernel
theorem d_Law_law_486 : decode cd_Law_law 486 = .ok (.aload_n 0, 1) := by decide +kernel
theorem d_Law_law_487 : decode cd_Law_law 487 = .ok (.iload 4, 2) := by decide +kernel
theorem d_Law_law_489 : decode cd_Law_law 489 = .ok (.iconst 2, 1) := by decide +kernel
theorem d_Law_law_490 : decode cd_Law_law 490 = .ok (.iadd, 1) := by decide +kernel
theorem d_Law_law_491 : decode cd_Law_law 491 = .ok (.iaload, 1) := by decide +kernel
theorem d_Law_law_492 : decode cd_Law_law 492 = .ok (.aload_n 0, 1) := by decide +kernel
theorem d_Law_law_493 : decode cd_Law_law 493 = .ok (.iload 4, 2) := by decide +kernel
theorem d_Law_law_495 : decode cd_Law_law 495 = .ok (.iconst 3, 1) := by decide +kernel
theorem d_Law_law_496 : decode cd_Law_law 496 = .ok (.iadd, 1) := by decide +kernel
theorem d_Law_law_497 : decode cd_Law_law 497 = .ok (.iaload, 1) := by decide +kernel
theorem d_Law_law_498 : decode cd_Law_law 498 = .ok (.invokevirtual 106, 3) := by decide +kernel
theorem d_Law_law_501 : decode cd_Law_law 501 = .ok (.istore 6, 2) := by decide +kernel
theorem d_Law_law_503 : decode cd_Law_law 503 = .ok (.aload_n 2, 1) := by decide +kernel
theorem d_Law_law_504 : decode cd_Law_law 504 = .ok (.invokevirtual 85, 3) := by decide +kernel
theorem d_Law_law_507 : decode cd_Law_law 507 = .ok (.iload 5, 2) := by decide +kernel
theorem d_Law_law_509 : decode cd_Law_law 509 = .ok (.if_icmp .eq 5, 3) := by decide +kernel
theorem d_Law_law_512 : decode cd_Law_law 512 = .ok (.iconst 0, 1) := by decide +kernel
theorem d_Law_law_513 : decode cd_Law_law 513 = .ok (.ireturn, 1) := by decide +kernel
theorem d_Law_law_514 : decode cd_Law_law 514 = .ok (.iload 5, 2) := by decide +kernel
theorem d_Law_law_516 : decode cd_Law_law 516 = .ok (.ifCond .ne 22, 3) := by decide +kernel
theorem d_Law_law_519 : decode cd_Law_law 519 = .ok (.aload_n 3, 1) := by decide +kernel
theorem d_Law_law_520 : decode cd_Law_law 520 = .ok (.iconst 0, 1) := by decide +kernel
theorem d_Law_law_521 : decode cd_Law_law 521 = .ok (.laload, 1) := by decide +kernel
theorem d_Law_law_522 : decode cd_Law_law 522 = .ok (.iload 6, 2) := by decide +kernel
theorem d_Law_law_524 : decode cd_Law_law 524 = .ok (.ifCond .eq 7, 3) := by decide +kernel
theorem d_Law_law_527 : decode cd_Law_law 527 = .ok (.lconst 1, 1) := by decide +kernel
theorem d_Law_law_528 : decode cd_Law_law 528 = .ok (.goto 4, 3) := by decide +kernel
theorem d_Law_law_531 : decode cd_Law_law 531 = .ok (.lconst 0, 1) := by decide +kernel
theorem d_Law_law_532 : decode cd_Law_law 532 = .ok (.lcmp, 1) := by decide +kernel
theorem d_Law_law_533 : decode cd_Law_law 533 = .ok (.ifCond .eq 5, 3) := by decide +kernel
theorem d_Law_law_536 : decode cd_Law_law 536 = .ok (.iconst 0, 1) := by decide +kernel
theorem d_Law_law_537 : decode cd_Law_law 537 = .ok (.ireturn, 1) := by decide +kernel
theorem d_Law_law_538 : decode cd_Law_law 538 = .ok (.goto 697, 3) := by decide +kernel
theorem d_Law_law_541 : decode cd_Law_law 541 = .ok (.aload_n 1, 1) := by decide +kernel
theorem d_Law_law_542 : decode cd_Law_law 542 = .ok (.aload_n 0, 1) := by decide +kernel
theorem d_Law_law_543 : decode cd_Law_law 543 = .ok (.iload 4, 2) := by decide +kernel
theorem d_Law_law_545 : decode cd_Law_law 545 = .ok (.iconst 1, 1) := by decide +kernel
theorem d_Law_law_546 : decode cd_Law_law 546 = .ok (.iadd, 1) := by decide +kernel
theorem d_Law_law_547 : decode cd_Law_law 547 = .ok (.iaload, 1) := by decide +kernel
theorem d_Law_law_548 : decode cd_Law_law 548 = .ok (.aload_n 0, 1) := by decide +kernel
theorem d_Law_law_549 : decode cd_Law_law 549 = .ok (.iload 4, 2) := by decide +kernel
theorem d_Law_law_551 : decode cd_Law_law 551 = .ok (.iconst 2, 1) := by decide +kernel
theorem d_Law_law_552 : decode cd_Law_law 552 = .ok (.iadd, 1) := by decide +kernel
theorem d_Law_law_553 : decode cd_Law_law 553 = .ok (.iaload, 1) := by decide +kernel
theorem d_Law_law_554 : decode cd_Law_law 554 = .ok (.aload_n 0, 1) := by decide +kernel
theorem d_Law_law_555 : decode cd_Law_law 555 = .ok (.iload 4, 2) := by decide +kernel
theorem d_Law_law_557 : decode cd_Law_law 557 = .ok (.iconst 3, 1) := by decide +kernel
theorem d_Law_law_558 : decode cd_Law_law 558 = .ok (.iadd, 1) := by decide +kernel
theorem d_Law_law_559 : decode cd_Law_law 559 = .ok (.iaload, 1) := by decide +kernel
theorem d_Law_law_560 : decode cd_Law_law 560 = .ok (.aload_n 3, 1) := by decide +kernel
theorem d_Law_law_561 : decode cd_Law_law 561 = .ok (.invokestatic 107, 3) := by decide +kernel
theorem d_Law_law_564 : decode cd_Law_law 564 = .ok (.istore 5, 2) := by decide +kernel
theorem d_Law_law_566 : decode cd_Law_law 566 = .ok (.aload_n 2, 1) := by decide +kernel
theorem d_Law_law_567 : decode cd_Law_law 567 = .ok (.aload_n 0, 1) := by decide +kernel
theorem d_Law_law_568 : decode cd_Law_law 568 = .ok (.iload 4, 2) := by decide +kernel
theorem d_Law_law_570 : decode cd_Law_law 570 = .ok (.iconst 1, 1) := by decide +kernel
theorem d_Law_law_571 : decode cd_Law_law 571 = .ok (.iadd, 1) := by decide +kernel
theorem d_Law_law_572 : decode cd_Law_law 572 = .ok (.iaload, 1) := by decide +kernel
theorem d_Law_law_573 : decode cd_Law_law 573 = .ok (.aload_n 0, 1) := by decide +kernel
theorem d_Law_law_574 : decode cd_Law_law 574 = .ok (.iload 4, 2) := by decide +kernel
theorem d_Law_law_576 : decode cd_Law_law 576 = .ok (.iconst 2, 1) := by decide +kernel
theorem d_Law_law_577 : decode cd_Law_law 577 = .ok (.iadd, 1) := by decide +kernel
theorem d_Law_law_578 : decode cd_Law_law 578 = .ok (.iaload, 1) := by decide +kernel
theorem d_Law_law_579 : decode cd_Law_law 579 = .ok (.aload_n 0, 1) := by decide +kernel
theorem d_Law_law_580 : decode cd_Law_law 580 = .ok (.iload 4, 2) := by decide +kernel
theorem d_Law_law_582 : decode cd_Law_law 582 = .ok (.iconst 3, 1) := by decide +kernel
theorem d_Law_law_583 : decode cd_Law_law 583 = .ok (.iadd, 1) := by decide +kernel
theorem d_Law_law_584 : decode cd_Law_law 584 = .ok (.iaload, 1) := by decide +kernel
theorem d_Law_law_585 : decode cd_Law_law 585 = .ok (.invokevirtual 109, 3) := by decide +kernel
theorem d_Law_law_588 : decode cd_Law_law 588 = .ok (.istore 6, 2) := by decide +kernel
theorem d_Law_law_590 : decode cd_Law_law 590 = .ok (.aload_n 2, 1) := by decide +kernel
theorem d_Law_law_591 : decode cd_Law_law 591 = .ok (.invokevirtual 85, 3) := by decide +kernel
theorem d_Law_law_594 : decode cd_Law_law 594 = .ok (.iload 5, 2) := by decide +kernel
theorem d_Law_law_596 : decode cd_Law_law 596 = .ok (.if_icmp .eq 5, 3) := by decide +kernel
theorem d_Law_law_599 : decode cd_Law_law 599 = .ok (.iconst 0, 1) := by decide +kernel
theorem d_Law_law_600 : decode cd_Law_law 600 = .ok (.ireturn, 1) := by decide +kernel
theorem d_Law_law_601 : decode cd_Law_law 601 = .ok (.iload 5, 2) := by decide +kernel
theorem d_Law_law_603 : decode cd_Law_law 603 = .ok (.ifCond .ne 15, 3) := by decide +kernel
theorem d_Law_law_606 : decode cd_Law_law 606 = .ok (.aload_n 3, 1) := by decide +kernel
theorem d_Law_law_607 : decode cd_Law_law 607 = .ok (.iconst 0, 1) := by decide +kernel
theorem d_Law_law_608 : decode cd_Law_law 608 = .ok (.laload, 1) := by decide +kernel
theorem d_Law_law_609 : decode cd_Law_law 609 = .ok (.iload 6, 2) := by decide +kernel
theorem d_Law_law_611 : decode cd_Law_law 611 = .ok (.i2l, 1) := by decide +kernel
theorem d_Law_law_612 : decode cd_Law_law 612 = .ok (.lcmp, 1) := by decide +kernel
theorem d_Law_law_613 : decode cd_Law_law 613 = .ok (.ifCond .eq 5, 3) := by decide +kernel
theorem d_Law_law_616 : decode cd_Law_law 616 = .ok (.iconst 0, 1) := by decide +kernel
theorem d_Law_law_617 : decode cd_Law_law 617 = .ok (.ireturn, 1) := by decide +kernel
theorem d_Law_law_618 : decode cd_Law_law 618 = .ok (.goto 617, 3) := by decide +kernel
theorem d_Law_law_621 : decode cd_Law_law 621 = .ok (.aload_n 1, 1) := by decide +kernel
theorem d_Law_law_622 : decode cd_Law_law 622 = .ok (.aload_n 0, 1) := by decide +kernel
theorem d_Law_law_623 : decode cd_Law_law 623 = .ok (.iload 4, 2) := by decide +kernel
theorem d_Law_law_625 : decode cd_Law_law 625 = .ok (.iconst 1, 1) := by decide +kernel
theorem d_Law_law_626 : decode cd_Law_law 626 = .ok (.iadd, 1) := by decide +kernel
theorem d_Law_law_627 : decode cd_Law_law 627 = .ok (.iaload, 1) := by decide +kernel
theorem d_Law_law_628 : decode cd_Law_law 628 = .ok (.aload_n 0, 1) := by decide +kernel
theorem d_Law_law_629 : decode cd_Law_law 629 = .ok (.iload 4, 2) := by decide +kernel
theorem d_Law_law_631 : decode cd_Law_law 631 = .ok (.iconst 2, 1) := by decide +kernel
theorem d_Law_law_632 : decode cd_Law_law 632 = .ok (.iadd, 1) := by decide +kernel
theorem d_Law_law_633 : decode cd_Law_law 633 = .ok (.iaload, 1) := by decide +kernel
theorem d_Law_law_634 : decode cd_Law_law 634 = .ok (.aload_n 3, 1) := by decide +kernel
theorem d_Law_law_635 : decode cd_Law_law 635 = .ok (.invokestatic 110, 3) := by decide +kernel
theorem d_Law_law_638 : decode cd_Law_law 638 = .ok (.istore 5, 2) := by decide +kernel
theorem d_Law_law_640 : decode cd_Law_law 640 = .ok (.aload_n 2, 1) := by decide +kernel
theorem d_Law_law_641 : decode cd_Law_law 641 = .ok (.aload_n 0, 1) := by decide +kernel
theorem d_Law_law_642 : decode cd_Law_law 642 = .ok (.iload 4, 2) := by decide +kernel
theorem d_Law_law_644 : decode cd_Law_law 644 = .ok (.iconst 1, 1) := by decide +kernel
theorem d_Law_law_645 : decode cd_Law_law 645 = .ok (.iadd, 1) := by decide +kernel
theorem d_Law_law_646 : decode cd_Law_law 646 = .ok (.iaload, 1) := by decide +kernel
theorem d_Law_law_647 : decode cd_Law_law 647 = .ok (.aload_n 0, 1) := by decide +kernel
theorem d_Law_law_648 : decode cd_Law_law 648 = .ok (.iload 4, 2) := by decide +kernel
theorem d_Law_law_650 : decode cd_Law_law 650 = .ok (.iconst 2, 1) := by decide +kernel
theorem d_Law_law_651 : decode cd_Law_law 651 = .ok (.iadd, 1) := by decide +kernel
theorem d_Law_law_652 : decode cd_Law_law 652 = .ok (.iaload, 1) := by decide +kernel
theorem d_Law_law_653 : decode cd_Law_law 653 = .ok (.invokevirtual 113, 3) := by decide +kernel
theorem d_Law_law_656 : decode cd_Law_law 656 = .ok (.istore 6, 2) := by decide +kernel
theorem d_Law_law_658 : decode cd_Law_law 658 = .ok (.aload_n 2, 1) := by decide +kernel
theorem d_Law_law_659 : decode cd_Law_law 659 = .ok (.invokevirtual 85, 3) := by decide +kernel
theorem d_Law_law_662 : decode cd_Law_law 662 = .ok (.iload 5, 2) := by decide +kernel
theorem d_Law_law_664 : decode cd_Law_law 664 = .ok (.if_icmp .eq 5, 3) := by decide +kernel
theorem d_Law_law_667 : decode cd_Law_law 667 = .ok (.iconst 0, 1) := by decide +kernel
theorem d_Law_law_668 : decode cd_Law_law 668 = .ok (.ireturn, 1) := by decide +kernel
theorem d_Law_law_669 : decode cd_Law_law 669 = .ok (.iload 5, 2) := by decide +kernel
theorem d_Law_law_671 : decode cd_Law_law 671 = .ok (.ifCond .ne 15, 3) := by decide +kernel
theorem d_Law_law_674 : decode cd_Law_law 674 = .ok (.aload_n 3, 1) := by decide +kernel
theorem d_Law_law_675 : decode cd_Law_law 675 = .ok (.iconst 0, 1) := by decide +kernel
theorem d_Law_law_676 : decode cd_Law_law 676 = .ok (.laload, 1) := by decide +kernel
theorem d_Law_law_677 : decode cd_Law_law 677 = .ok (.iload 6, 2) := by decide +kernel
theorem d_Law_law_679 : decode cd_Law_law 679 = .ok (.i2l, 1) := by decide +kernel
theorem d_Law_law_680 : decode cd_Law_law 680 = .ok (.lcmp, 1) := by decide +kernel
theorem d_Law_law_681 : decode cd_Law_law 681 = .ok (.ifCond .eq 5, 3) := by decide +kernel
theorem d_Law_law_684 : decode cd_Law_law 684 = .ok (.iconst 0, 1) := by decide +kernel
theorem d_Law_law_685 : decode cd_Law_law 685 = .ok (.ireturn, 1) := by decide +kernel
theorem d_Law_law_686 : decode cd_Law_law 686 = .ok (.goto 549, 3) := by decide +kernel
theorem d_Law_law_689 : decode cd_Law_law 689 = .ok (.aload_n 1, 1) := by decide +kernel
theorem d_Law_law_690 : decode cd_Law_law 690 = .ok (.aload_n 0, 1) := by decide +kernel
theorem d_Law_law_691 : decode cd_Law_law 691 = .ok (.iload 4, 2) := by decide +kernel
theorem d_Law_law_693 : decode cd_Law_law 693 = .ok (.iconst 1, 1) := by decide +kernel
theorem d_Law_law_694 : decode cd_Law_law 694 = .ok (.iadd, 1) := by decide +kernel
theorem d_Law_law_695 : decode cd_Law_law 695 = .ok (.iaload, 1) := by decide +kernel
theorem d_Law_law_696 : decode cd_Law_law 696 = .ok (.aload_n 0, 1) := by decide +kernel
theorem d_Law_law_697 : decode cd_Law_law 697 = .ok (.iload 4, 2) := by decide +kernel
theorem d_Law_law_699 : decode cd_Law_law 699 = .ok (.iconst 2, 1) := by decide +kernel
theorem d_Law_law_700 : decode cd_Law_law 700 = .ok (.iadd, 1) := by decide +kernel
theorem d_Law_law_701 : decode cd_Law_law 701 = .ok (.iaload, 1) := by decide +kernel
theorem d_Law_law_702 : decode cd_Law_law 702 = .ok (.aload_n 0, 1) := by decide +kernel
theorem d_Law_law_703 : decode cd_Law_law 703 = .ok (.iload 4, 2) := by decide +kernel
theorem d_Law_law_705 : decode cd_Law_law 705 = .ok (.iconst 3, 1) := by decide +kernel
theorem d_Law_law_706 : decode cd_Law_law 706 = .ok (.iadd, 1) := by decide +kernel
theorem d_Law_law_707 : decode cd_Law_law 707 = .ok (.iaload, 1) := by decide +kernel
theorem d_Law_law_708 : decode cd_Law_law 708 = .ok (.aload_n 3, 1) := by decide +kernel
theorem d_Law_law_709 : decode cd_Law_law 709 = .ok (.invokestatic 114, 3) := by decide +kernel
theorem d_Law_law_712 : decode cd_Law_law 712 = .ok (.istore 5, 2) := by decide +kernel
theorem d_Law_law_714 : decode cd_Law_law 714 = .ok (.aload_n 2, 1) := by decide +kernel
theorem d_Law_law_715 : decode cd_Law_law 715 = .ok (.aload_n 0, 1) := by decide +kernel
theorem d_Law_law_716 : decode cd_Law_law 716 = .ok (.iload 4, 2) := by decide +kernel
theorem d_Law_law_718 : decode cd_Law_law 718 = .ok (.iconst 1, 1) := by decide +kernel
theorem d_Law_law_719 : decode cd_Law_law 719 = .ok (.iadd, 1) := by decide +kernel
theorem d_Law_law_720 : decode cd_Law_law 720 = .ok (.iaload, 1) := by decide +kernel
theorem d_Law_law_721 : decode cd_Law_law 721 = .ok (.aload_n 0, 1) := by decide +kernel
theorem d_Law_law_722 : decode cd_Law_law 722 = .ok (.iload 4, 2) := by decide +kernel
theorem d_Law_law_724 : decode cd_Law_law 724 = .ok (.iconst 2, 1) := by decide +kernel
theorem d_Law_law_725 : decode cd_Law_law 725 = .ok (.iadd, 1) := by decide +kernel
theorem d_Law_law_726 : decode cd_Law_law 726 = .ok (.iaload, 1) := by decide +kernel
theorem d_Law_law_727 : decode cd_Law_law 727 = .ok (.aload_n 0, 1) := by decide +kernel
theorem d_Law_law_728 : decode cd_Law_law 728 = .ok (.iload 4, 2) := by decide +kernel
theorem d_Law_law_730 : decode cd_Law_law 730 = .ok (.iconst 3, 1) := by decide +kernel
theorem d_Law_law_731 : decode cd_Law_law 731 = .ok (.iadd, 1) := by decide +kernel
theorem d_Law_law_732 : decode cd_Law_law 732 = .ok (.iaload, 1) := by decide +kernel
theorem d_Law_law_733 : decode cd_Law_law 733 = .ok (.invokevirtual 116, 3) := by decide +kernel
theorem d_Law_law_736 : decode cd_Law_law 736 = .ok (.istore 6, 2) := by decide +kernel
theorem d_Law_law_738 : decode cd_Law_law 738 = .ok (.aload_n 2, 1) := by decide +kernel
theorem d_Law_law_739 : decode cd_Law_law 739 = .ok (.invokevirtual 85, 3) := by decide +kernel
theorem d_Law_law_742 : decode cd_Law_law 742 = .ok (.iload 5, 2) := by decide +kernel
theorem d_Law_law_744 : decode cd_Law_law 744 = .ok (.if_icmp .eq 5, 3) := by decide +kernel
theorem d_Law_law_747 : decode cd_Law_law 747 = .ok (.iconst 0, 1) := by decide +kernel
theorem d_Law_law_748 : decode cd_Law_law 748 = .ok (.ireturn, 1) := by decide +kernel
theorem d_Law_law_749 : decode cd_Law_law 749 = .ok (.iload 5, 2) := by decide +kernel
theorem d_Law_law_751 : decode cd_Law_law 751 = .ok (.ifCond .ne 15, 3) := by decide +kernel
theorem d_Law_law_754 : decode cd_Law_law 754 = .ok (.aload_n 3, 1) := by decide +kernel
theorem d_Law_law_755 : decode cd_Law_law 755 = .ok (.iconst 0, 1) := by decide +kernel
theorem d_Law_law_756 : decode cd_Law_law 756 = .ok (.laload, 1) := by decide +kernel
theorem d_Law_law_757 : decode cd_Law_law 757 = .ok (.iload 6, 2) := by decide +kernel
theorem d_Law_law_759 : decode cd_Law_law 759 = .ok (.i2l, 1) := by decide +kernel
theorem d_Law_law_760 : decode cd_Law_law 760 = .ok (.lcmp, 1) := by decide +kernel
theorem d_Law_law_761 : decode cd_Law_law 761 = .ok (.ifCond .eq 5, 3) := by decide +kernel
theorem d_Law_law_764 : decode cd_Law_law 764 = .ok (.iconst 0, 1) := by decide +kernel
theorem d_Law_law_765 : decode cd_Law_law 765 = .ok (.ireturn, 1) := by decide +kernel
theorem d_Law_law_766 : decode cd_Law_law 766 = .ok (.goto 469, 3) := by decide +kernel
theorem d_Law_law_769 : decode cd_Law_law 769 = .ok (.aload_n 1, 1) := by decide +kernel
theorem d_Law_law_770 : decode cd_Law_law 770 = .ok (.aload_n 0, 1) := by decide +kernel
theorem d_Law_law_771 : decode cd_Law_law 771 = .ok (.iload 4, 2) := by decide +kernel
theorem d_Law_law_773 : decode cd_Law_law 773 = .ok (.iconst 1, 1) := by decide +kernel
theorem d_Law_law_774 : decode cd_Law_law 774 = .ok (.iadd, 1) := by decide +kernel
theorem d_Law_law_775 : decode cd_Law_law 775 = .ok (.iaload, 1) := by decide +kernel
theorem d_Law_law_776 : decode cd_Law_law 776 = .ok (.aload_n 3, 1) := by decide +kernel
theorem d_Law_law_777 : decode cd_Law_law 777 = .ok (.invokestatic 117, 3) := by decide +kernel
theorem d_Law_law_780 : decode cd_Law_law 780 = .ok (.istore 5, 2) := by decide +kernel
theorem d_Law_law_782 : decode cd_Law_law 782 = .ok (.aload_n 2, 1) := by decide +kernel
theorem d_Law_law_783 : decode cd_Law_law 783 = .ok (.aload_n 0, 1) := by decide +kernel
theorem d_Law_law_784 : decode cd_Law_law 784 = .ok (.iload 4, 2) := by decide +kernel
theorem d_Law_law_786 : decode cd_Law_law 786 = .ok (.iconst 1, 1) := by decide +kernel
theorem d_Law_law_787 : decode cd_Law_law 787 = .ok (.iadd, 1) := by decide +kernel
theorem d_Law_law_788 : decode cd_Law_law 788 = .ok (.iaload, 1) := by decide +kernel
theorem d_Law_law_789 : decode cd_Law_law 789 = .ok (.invokevirtual 119, 3) := by decide +kernel
theorem d_Law_law_792 : decode cd_Law_law 792 = .ok (.istore 6, 2) := by decide +kernel
theorem d_Law_law_794 : decode cd_Law_law 794 = .ok (.aload_n 2, 1) := by decide +kernel
theorem d_Law_law_795 : decode cd_Law_law 795 = .ok (.invokevirtual 85, 3) := by decide +kernel
theorem d_Law_law_798 : decode cd_Law_law 798 = .ok (.iload 5, 2) := by decide +kernel
theorem d_Law_law_800 : decode cd_Law_law 800 = .ok (.if_icmp .eq 5, 3) := by decide +kernel
theorem d_Law_law_803 : decode cd_Law_law 803 = .ok (.iconst 0, 1) := by decide +kernel
theorem d_Law_law_804 : decode cd_Law_law 804 = .ok (.ireturn, 1) := by decide +kernel
theorem d_Law_law_805 : decode cd_Law_law 805 = .ok (.iload 5, 2) := by decide +kernel
theorem d_Law_law_807 : decode cd_Law_law 807 = .ok (.ifCond .ne 22, 3) := by decide +kernel
theorem d_Law_law_810 : decode cd_Law_law 810 = .ok (.aload_n 3, 1) := by decide +kernel
theorem d_Law_law_811 : decode cd_Law_law 811 = .ok (.iconst 0, 1) := by decide +kernel
theorem d_Law_law_812 : decode cd_Law_law 812 = .ok (.laload, 1) := by decide +kernel
theorem d_Law_law_813 : decode cd_Law_law 813 = .ok (.iload 6, 2) := by decide +kernel
theorem d_Law_law_815 : decode cd_Law_law 815 = .ok (.ifCond .eq 7, 3) := by decide +kernel
theorem d_Law_law_818 : decode cd_Law_law 818 = .ok (.lconst 1, 1) := by decide +kernel
theorem d_Law_law_819 : decode cd_Law_law 819 = .ok (.goto 4, 3) := by decide +kernel
theorem d_Law_law_822 : decode cd_Law_law 822 = .ok (.lconst 0, 1) := by decide +kernel
theorem d_Law_law_823 : decode cd_Law_law 823 = .ok (.lcmp, 1) := by decide +kernel
theorem d_Law_law_824 : decode cd_Law_law 824 = .ok (.ifCond .eq 5, 3) := by decide +kernel
theorem d_Law_law_827 : decode cd_Law_law 827 = .ok (.iconst 0, 1) := by decide +kernel
theorem d_Law_law_828 : decode cd_Law_law 828 = .ok (.ireturn, 1) := by decide +kernel
theorem d_Law_law_829 : decode cd_Law_law 829 = .ok (.goto 406, 3) := by decide +kernel
theorem d_Law_law_832 : decode cd_Law_law 832 = .ok (.aload_n 1, 1) := by decide +kernel
theorem d_Law_law_833 : decode cd_Law_law 833 = .ok (.aload_n 0, 1) := by decide +kernel
theorem d_Law_law_834 : decode cd_Law_law 834 = .ok (.iload 4, 2) := by decide +kernel
theorem d_Law_law_836 : decode cd_Law_law 836 = .ok (.iconst 1, 1) := by decide +kernel
theorem d_Law_law_837 : decode cd_Law_law 837 = .ok (.iadd, 1) := by decide +kernel
theorem d_Law_law_838 : decode cd_Law_law 838 = .ok (.iaload, 1) := by decide +kernel
theorem d_Law_law_839 : decode cd_Law_law 839 = .ok (.aload_n 3, 1) := by decide +kernel
theorem d_Law_law_840 : decode cd_Law_law 840 = .ok (.invokestatic 120, 3) := by decide +kernel
theorem d_Law_law_843 : decode cd_Law_law 843 = .ok (.istore 5, 2) := by decide +kernel
theorem d_Law_law_845 : decode cd_Law_law 845 = .ok (.aload_n 2, 1) := by decide +kernel
theorem d_Law_law_846 : decode cd_Law_law 846 = .ok (.aload_n 0, 1) := by decide +kernel
theorem d_Law_law_847 : decode cd_Law_law 847 = .ok (.iload 4, 2) := by decide +kernel
theorem d_Law_law_849 : decode cd_Law_law 849 = .ok (.iconst 1, 1) := by decide +kernel
theorem d_Law_law_850 : decode cd_Law_law 850 = .ok (.iadd, 1) := by decide +kernel
theorem d_Law_law_851 : decode cd_Law_law 851 = .ok (.iaload, 1) := by decide +kernel
theorem d_Law_law_852 : decode cd_Law_law 852 = .ok (.invokevirtual 122, 3) := by decide +kernel
theorem d_Law_law_855 : decode cd_Law_law 855 = .ok (.istore 6, 2) := by decide +kernel
theorem d_Law_law_857 : decode cd_Law_law 857 = .ok (.aload_n 2, 1) := by decide +kernel
theorem d_Law_law_858 : decode cd_Law_law 858 = .ok (.invokevirtual 85, 3) := by decide +kernel
theorem d_Law_law_861 : decode cd_Law_law 861 = .ok (.iload 5, 2) := by decide +kernel
theorem d_Law_law_863 : decode cd_Law_law 863 = .ok (.if_icmp .eq 5, 3) := by decide +kernel
theorem d_Law_law_866 : decode cd_Law_law 866 = .ok (.iconst 0, 1) := by decide +kernel
theorem d_Law_law_867 : decode cd_Law_law 867 = .ok (.ireturn, 1) := by decide +kernel
theorem d_Law_law_868 : decode cd_Law_law 868 = .ok (.iload 5, 2) := by decide +kernel
theorem d_Law_law_870 : decode cd_Law_law 870 = .ok (.ifCond .ne 15, 3) := by decide +kernel
theorem d_Law_law_873 : decode cd_Law_law 873 = .ok (.aload_n 3, 1) := by decide +kernel
theorem d_Law_law_874 : decode cd_Law_law 874 = .ok (.iconst 0, 1) := by decide +kernel
theorem d_Law_law_875 : decode cd_Law_law 875 = .ok (.laload, 1) := by decide +kernel
theorem d_Law_law_876 : decode cd_Law_law 876 = .ok (.iload 6, 2) := by decide +kernel
theorem d_Law_law_878 : decode cd_Law_law 878 = .ok (.i2l, 1) := by decide +kernel
theorem d_Law_law_879 : decode cd_Law_law 879 = .ok (.lcmp, 1) := by decide +kernel
theorem d_Law_law_880 : decode cd_Law_law 880 = .ok (.ifCond .eq 5, 3) := by decide +kernel
theorem d_Law_law_883 : decode cd_Law_law 883 = .ok (.iconst 0, 1) := by decide +kernel
theorem d_Law_law_884 : decode cd_Law_law 884 = .ok (.ireturn, 1) := by decide +kernel
theorem d_Law_law_885 : decode cd_Law_law 885 = .ok (.goto 350, 3) := by decide +kernel
theorem d_Law_law_888 : decode cd_Law_law 888 = .ok (.aload_n 1, 1) := by decide +kernel
theorem d_Law_law_889 : decode cd_Law_law 889 = .ok (.aload_n 0, 1) := by decide +kernel
theorem d_Law_law_890 : decode cd_Law_law 890 = .ok (.iload 4, 2) := by decide +kernel
theorem d_Law_law_892 : decode cd_Law_law 892 = .ok (.iconst 1, 1) := by decide +kernel
theorem d_Law_law_893 : decode cd_Law_law 893 = .ok (.iadd, 1) := by decide +kernel
theorem d_Law_law_894 : decode cd_Law_law 894 = .ok (.iaload, 1) := by decide +kernel
theorem d_Law_law_895 : decode cd_Law_law 895 = .ok (.aload_n 0, 1) := by decide +kernel
theorem d_Law_law_896 : decode cd_Law_law 896 = .ok (.iload 4, 2) := by decide +kernel
theorem d_Law_law_898 : decode cd_Law_law 898 = .ok (.iconst 2, 1) := by decide +kernel
theorem d_Law_law_899 : decode cd_Law_law 899 = .ok (.iadd, 1) := by decide +kernel
theorem d_Law_law_900 : decode cd_Law_law 900 = .ok (.iaload, 1) := by decide +kernel
theorem d_Law_law_901 : decode cd_Law_law 901 = .ok (.aload_n 3, 1) := by decide +kernel
theorem d_Law_law_902 : decode cd_Law_law 902 = .ok (.invokestatic 123, 3) := by decide +kernel
theorem d_Law_law_905 : decode cd_Law_law 905 = .ok (.istore 5, 2) := by decide +kernel
theorem d_Law_law_907 : decode cd_Law_law 907 = .ok (.aload_n 2, 1) := by decide +kernel
theorem d_Law_law_908 : decode cd_Law_law 908 = .ok (.aload_n 0, 1) := by decide +kernel
theorem d_Law_law_909 : decode cd_Law_law 909 = .ok (.iload 4, 2) := by decide +kernel
theorem d_Law_law_911 : decode cd_Law_law 911 = .ok (.iconst 1, 1) := by decide +kernel
theorem d_Law_law_912 : decode cd_Law_law 912 = .ok (.iadd, 1) := by decide +kernel
theorem d_Law_law_913 : decode cd_Law_law 913 = .ok (.iaload, 1) := by decide +kernel
theorem d_Law_law_914 : decode cd_Law_law 914 = .ok (.aload_n 0, 1) := by decide +kernel
theorem d_Law_law_915 : decode cd_Law_law 915 = .ok (.iload 4, 2) := by decide +kernel
theorem d_Law_law_917 : decode cd_Law_law 917 = .ok (.iconst 2, 1) := by decide +kernel
theorem d_Law_law_918 : decode cd_Law_law 918 = .ok (.iadd, 1) := by decide +kernel
theorem d_Law_law_919 : decode cd_Law_law 919 = .ok (.iaload, 1) := by decide +kernel
theorem d_Law_law_920 : decode cd_Law_law 920 = .ok (.invokevirtual 125, 3) := by decide +kernel
theorem d_Law_law_923 : decode cd_Law_law 923 = .ok (.istore 6, 2) := by decide +kernel
theorem d_Law_law_925 : decode cd_Law_law 925 = .ok (.aload_n 2, 1) := by decide +kernel
theorem d_Law_law_926 : decode cd_Law_law 926 = .ok (.invokevirtual 85, 3) := by decide +kernel
theorem d_Law_law_929 : decode cd_Law_law 929 = .ok (.iload 5, 2) := by decide +kernel
theorem d_Law_law_931 : decode cd_Law_law 931 = .ok (.if_icmp .eq 5, 3) := by decide +kernel
theorem d_Law_law_934 : decode cd_Law_law 934 = .ok (.iconst 0, 1) := by decide +kernel
theorem d_Law_law_935 : decode cd_Law_law 935 = .ok (.ireturn, 1) := by decide +kernel
theorem d_Law_law_936 : decode cd_Law_law 936 = .ok (.iload 5, 2) := by decide +kernel
theorem d_Law_law_938 : decode cd_Law_law 938 = .ok (.ifCond .ne 22, 3) := by decide +kernel
theorem d_Law_law_941 : decode cd_Law_law 941 = .ok (.aload_n 3, 1) := by decide +kernel
theorem d_Law_law_942 : decode cd_Law_law 942 = .ok (.iconst 0, 1) := by decide +kernel
theorem d_Law_law_943 : decode cd_Law_law 943 = .ok (.laload, 1) := by decide +kernel
theorem d_Law_law_944 : decode cd_Law_law 944 = .ok (.iload 6, 2) := by decide +kernel
theorem d_Law_law_946 : decode cd_Law_law 946 = .ok (.ifCond .eq 7, 3) := by decide +kernel
theorem d_Law_law_949 : decode cd_Law_law 949 = .ok (.lconst 1, 1) := by decide +kernel
theorem d_Law_law_950 : decode cd_Law_law 950 = .ok (.goto 4, 3) := by decide +kernel
theorem d_Law_law_953 : decode cd_Law_law 953 = .ok (.lconst 0, 1) := by decide +kernel
theorem d_Law_law_954 : decode cd_Law_law 954 = .ok (.lcmp, 1) := by decide +kernel
theorem d_Law_law_955 : decode cd_Law_law 955 = .ok (.ifCond .eq 5, 3) := by decide +kernel
theorem d_Law_law_958 : decode cd_Law_law 958 = .ok (.iconst 0, 1) := by decide +kernel
theorem d_Law_law_959 : decode cd_Law_law 959 = .ok (.ireturn, 1) := by decide +kernel
theorem d_Law_law_960 : decode cd_Law_law 960 = .ok (.goto 275, 3) := by decide +kernel
theorem d_Law_law_963 : decode cd_Law_law 963 = .ok (.aload_n 1, 1) := by decide +kernel
theorem d_Law_law_964 : decode cd_Law_law 964 = .ok (.aload_n 0, 1) := by decide +kernel
theorem d_Law_law_965 : decode cd_Law_law 965 = .ok (.iload 4, 2) := by decide +kernel
theorem d_Law_law_967 : decode cd_Law_law 967 = .ok (.iconst 1, 1) := by decide +kernel
theorem d_Law_law_968 : decode cd_Law_law 968 = .ok (.iadd, 1) := by decide +kernel
theorem d_Law_law_969 : decode cd_Law_law 969 = .ok (.iaload, 1) := by decide +kernel
theorem d_Law_law_970 : decode cd_Law_law 970 = .ok (.aload_n 0, 1) := by decide +kernel
theorem d_Law_law_971 : decode cd_Law_law 971 = .ok (.iload 4, 2) := by decide +kernel
theorem d_Law_law_973 : decode cd_Law_law 973 = .ok (.iconst 2, 1) := by decide +kernel
theorem d_Law_law_974 : decode cd_Law_law 974 = .ok (.iadd, 1) := by decide +kernel
theorem d_Law_law_975 : decode cd_Law_law 975 = .ok (.iaload, 1) := by decide +kernel
theorem d_Law_law_976 : decode cd_Law_law 976 = .ok (.aload_n 3, 1) := by decide +kernel
theorem d_Law_law_977 : decode cd_Law_law 977 = .ok (.invokestatic 126, 3) := by decide +kernel
theorem d_Law_law_980 : decode cd_Law_law 980 = .ok (.istore 5, 2) := by decide +kernel
theorem d_Law_law_982 : decode cd_Law_law 982 = .ok (.aload_n 2, 1) := by decide +kernel
theorem d_Law_law_983 : decode cd_Law_law 983 = .ok (.aload_n 0, 1) := by decide +kernel
theorem d_Law_law_984 : decode cd_Law_law 984 = .ok (.iload 4, 2) := by decide +kernel
theorem d_Law_law_986 : decode cd_Law_law 986 = .ok (.iconst 1, 1) := by decide +kernel
theorem d_Law_law_987 : decode cd_Law_law 987 = .ok (.iadd, 1) := by decide +kernel
theorem d_Law_law_988 : decode cd_Law_law 988 = .ok (.iaload, 1) := by decide +kernel
theorem d_Law_law_989 : decode cd_Law_law 989 = .ok (.aload_n 0, 1) := by decide +kernel
theorem d_Law_law_990 : decode cd_Law_law 990 = .ok (.iload 4, 2) := by decide +kernel
theorem d_Law_law_992 : decode cd_Law_law 992 = .ok (.iconst 2, 1) := by decide +kernel
theorem d_Law_law_993 : decode cd_Law_law 993 = .ok (.iadd, 1) := by decide +kernel
theorem d_Law_law_994 : decode cd_Law_law 994 = .ok (.iaload, 1) := by decide +kernel
theorem d_Law_law_995 : decode cd_Law_law 995 = .ok (.invokevirtual 128, 3) := by decide +kernel
theorem d_Law_law_998 : decode cd_Law_law 998 = .ok (.istore 6, 2) := by decide +kernel
theorem d_Law_law_1000 : decode cd_Law_law 1000 = .ok (.aload_n 2, 1) := by decide +kernel
theorem d_Law_law_1001 : decode cd_Law_law 1001 = .ok (.invokevirtual 85, 3) := by decide +kernel
theorem d_Law_law_1004 : decode cd_Law_law 1004 = .ok (.iload 5, 2) := by decide +kernel
theorem d_Law_law_1006 : decode cd_Law_law 1006 = .ok (.if_icmp .eq 5, 3) := by decide +kernel
theorem d_Law_law_1009 : decode cd_Law_law 1009 = .ok (.iconst 0, 1) := by decide +kernel
theorem d_Law_law_1010 : decode cd_Law_law 1010 = .ok (.ireturn, 1) := by decide +kernel
theorem d_Law_law_1011 : decode cd_Law_law 1011 = .ok (.iload 5, 2) := by decide +kernel
theorem d_Law_law_1013 : decode cd_Law_law 1013 = .ok (.ifCond .ne 15, 3) := by decide +kernel
theorem d_Law_law_1016 : decode cd_Law_law 1016 = .ok (.aload_n 3, 1) := by decide +kernel
theorem d_Law_law_1017 : decode cd_Law_law 1017 = .ok (.iconst 0, 1) := by decide +kernel
theorem d_Law_law_1018 : decode cd_Law_law 1018 = .ok (.laload, 1) := by decide +kernel
theorem d_Law_law_1019 : decode cd_Law_law 1019 = .ok (.iload 6, 2) := by decide +kernel
theorem d_Law_law_1021 : decode cd_Law_law 1021 = .ok (.i2l, 1) := by decide +kernel
theorem d_Law_law_1022 : decode cd_Law_law 1022 = .ok (.lcmp, 1) := by decide +kernel
theorem d_Law_law_1023 : decode cd_Law_law 1023 = .ok (.ifCond .eq 5, 3) := by decide +kernel
theorem d_Law_law_1026 : decode cd_Law_law 1026 = .ok (.iconst 0, 1) := by decide +kernel
theorem d_Law_law_1027 : decode cd_Law_law 1027 = .ok (.ireturn, 1) := by decide +kernel
theorem d_Law_law_1028 : decode cd_Law_law 1028 = .ok (.goto 207, 3) := by decide +kernel
theorem d_Law_law_1031 : decode cd_Law_law 1031 = .ok (.aload_n 1, 1) := by decide +kernel
theorem d_Law_law_1032 : decode cd_Law_law 1032 = .ok (.aload_n 0, 1) := by decide +kernel
theorem d_Law_law_1033 : decode cd_Law_law 1033 = .ok (.iload 4, 2) := by decide +kernel
theorem d_Law_law_1035 : decode cd_Law_law 1035 = .ok (.iconst 1, 1) := by decide +kernel
theorem d_Law_law_1036 : decode cd_Law_law 1036 = .ok (.iadd, 1) := by decide +kernel
theorem d_Law_law_1037 : decode cd_Law_law 1037 = .ok (.iaload, 1) := by decide +kernel
theorem d_Law_law_1038 : decode cd_Law_law 1038 = .ok (.aload_n 0, 1) := by decide +kernel
theorem d_Law_law_1039 : decode cd_Law_law 1039 = .ok (.iload 4, 2) := by decide +kernel
theorem d_Law_law_1041 : decode cd_Law_law 1041 = .ok (.iconst 2, 1) := by decide +kernel
theorem d_Law_law_1042 : decode cd_Law_law 1042 = .ok (.iadd, 1) := by decide +kernel
theorem d_Law_law_1043 : decode cd_Law_law 1043 = .ok (.iaload, 1) := by decide +kernel
theorem d_Law_law_1044 : decode cd_Law_law 1044 = .ok (.aload_n 0, 1) := by decide +kernel
theorem d_Law_law_1045 : decode cd_Law_law 1045 = .ok (.iload 4, 2) := by decide +kernel
theorem d_Law_law_1047 : decode cd_Law_law 1047 = .ok (.iconst 3, 1) := by decide +kernel
theorem d_Law_law_1048 : decode cd_Law_law 1048 = .ok (.iadd, 1) := by decide +kernel
theorem d_Law_law_1049 : decode cd_Law_law 1049 = .ok (.iaload, 1) := by decide +kernel
theorem d_Law_law_1050 : decode cd_Law_law 1050 = .ok (.aload_n 3, 1) := by decide +kernel
theorem d_Law_law_1051 : decode cd_Law_law 1051 = .ok (.invokestatic 129, 3) := by decide +kernel
theorem d_Law_law_1054 : decode cd_Law_law 1054 = .ok (.istore 5, 2) := by decide +kernel
theorem d_Law_law_1056 : decode cd_Law_law 1056 = .ok (.aload_n 2, 1) := by decide +kernel
theorem d_Law_law_1057 : decode cd_Law_law 1057 = .ok (.aload_n 0, 1) := by decide +kernel
theorem d_Law_law_1058 : decode cd_Law_law 1058 = .ok (.iload 4, 2) := by decide +kernel
theorem d_Law_law_1060 : decode cd_Law_law 1060 = .ok (.iconst 1, 1) := by decide +kernel
theorem d_Law_law_1061 : decode cd_Law_law 1061 = .ok (.iadd, 1) := by decide +kernel
theorem d_Law_law_1062 : decode cd_Law_law 1062 = .ok (.iaload, 1) := by decide +kernel
theorem d_Law_law_1063 : decode cd_Law_law 1063 = .ok (.aload_n 0, 1) := by decide +kernel
theorem d_Law_law_1064 : decode cd_Law_law 1064 = .ok (.iload 4, 2) := by decide +kernel
theorem d_Law_law_1066 : decode cd_Law_law 1066 = .ok (.iconst 2, 1) := by decide +kernel
theorem d_Law_law_1067 : decode cd_Law_law 1067 = .ok (.iadd, 1) := by decide +kernel
theorem d_Law_law_1068 : decode cd_Law_law 1068 = .ok (.iaload, 1) := by decide +kernel
theorem d_Law_law_1069 : decode cd_Law_law 1069 = .ok (.aload_n 0, 1) := by decide +kernel
theorem d_Law_law_1070 : decode cd_Law_law 1070 = .ok (.iload 4, 2) := by decide +kernel
theorem d_Law_law_1072 : decode cd_Law_law 1072 = .ok (.iconst 3, 1) := by decide +kernel
theorem d_Law_law_1073 : decode cd_Law_law 1073 = .ok (.iadd, 1) := by decide +kernel
theorem d_Law_law_1074 : decode cd_Law_law 1074 = .ok (.iaload, 1) := by decide +kernel
theorem d_Law_law_1075 : decode cd_Law_law 1075 = .ok (.invokevirtual 131, 3) := by decide +kernel
theorem d_Law_law_1078 : decode cd_Law_law 1078 = .ok (.istore 6, 2) := by decide +kernel
theorem d_Law_law_1080 : decode cd_Law_law 1080 = .ok (.aload_n 2, 1) := by decide +kernel
theorem d_Law_law_1081 : decode cd_Law_law 1081 = .ok (.invokevirtual 85, 3) := by decide +kernel
theorem d_Law_law_1084 : decode cd_Law_law 1084 = .ok (.iload 5, 2) := by decide +kernel
theorem d_Law_law_1086 : decode cd_Law_law 1086 = .ok (.if_icmp .eq 5, 3) := by decide +kernel
theorem d_Law_law_1089 : decode cd_Law_law 1089 = .ok (.iconst 0, 1) := by decide +kernel
theorem d_Law_law_1090 : decode cd_Law_law 1090 = .ok (.ireturn, 1) := by decide +kernel
theorem d_Law_law_1091 : decode cd_Law_law 1091 = .ok (.iload 5, 2) := by decide +kernel
theorem d_Law_law_1093 : decode cd_Law_law 1093 = .ok (.ifCond .ne 15, 3) := by decide +kernel
theorem d_Law_law_1096 : decode cd_Law_law 1096 = .ok (.aload_n 3, 1) := by decide +kernel
theorem d_Law_law_1097 : decode cd_Law_law 1097 = .ok (.iconst 0, 1) := by decide +kernel
theorem d_Law_law_1098 : decode cd_Law_law 1098 = .ok (.laload, 1) := by decide +kernel
theorem d_Law_law_1099 : decode cd_Law_law 1099 = .ok (.iload 6, 2) := by decide +kernel
theorem d_Law_law_1101 : decode cd_Law_law 1101 = .ok (.i2l, 1) := by decide +kernel
theorem d_Law_law_1102 : decode cd_Law_law 1102 = .ok (.lcmp, 1) := by decide +kernel
theorem d_Law_law_1103 : decode cd_Law_law 1103 = .ok (.ifCond .eq 5, 3) := by decide +kernel
theorem d_Law_law_1106 : decode cd_Law_law 1106 = .ok (.iconst 0, 1) := by decide +kernel
theorem d_Law_law_1107 : decode cd_Law_law 1107 = .ok (.ireturn, 1) := by decide +kernel
theorem d_Law_law_1108 : decode cd_Law_law 1108 = .ok (.goto 127, 3) := by decide +kernel
theorem d_Law_law_1111 : decode cd_Law_law 1111 = .ok (.aload_n 1, 1) := by decide +kernel
theorem d_Law_law_1112 : decode cd_Law_law 1112 = .ok (.aload_n 0, 1) := by decide +kernel
theorem d_Law_law_1113 : decode cd_Law_law 1113 = .ok (.iload 4, 2) := by decide +kernel
theorem d_Law_law_1115 : decode cd_Law_law 1115 = .ok (.iconst 1, 1) := by decide +kernel
theorem d_Law_law_1116 : decode cd_Law_law 1116 = .ok (.iadd, 1) := by decide +kernel
theorem d_Law_law_1117 : decode cd_Law_law 1117 = .ok (.iaload, 1) := by decide +kernel
theorem d_Law_law_1118 : decode cd_Law_law 1118 = .ok (.aload_n 0, 1) := by decide +kernel
theorem d_Law_law_1119 : decode cd_Law_law 1119 = .ok (.iload 4, 2) := by decide +kernel
theorem d_Law_law_1121 : decode cd_Law_law 1121 = .ok (.iconst 2, 1) := by decide +kernel
theorem d_Law_law_1122 : decode cd_Law_law 1122 = .ok (.iadd, 1) := by decide +kernel
theorem d_Law_law_1123 : decode cd_Law_law 1123 = .ok (.iaload, 1) := by decide +kernel
theorem d_Law_law_1124 : decode cd_Law_law 1124 = .ok (.invokevirtual 132, 3) := by decide +kernel
theorem d_Law_law_1127 : decode cd_Law_law 1127 = .ok (.aload_n 2, 1) := by decide +kernel
theorem d_Law_law_1128 : decode cd_Law_law 1128 = .ok (.aload_n 0, 1) := by decide +kernel
theorem d_Law_law_1129 : decode cd_Law_law 1129 = .ok (.iload 4, 2) := by decide +kernel
theorem d_Law_law_1131 : decode cd_Law_law 1131 = .ok (.iconst 1, 1) := by decide +kernel
theorem d_Law_law_1132 : decode cd_Law_law 1132 = .ok (.iadd, 1) := by decide +kernel
theorem d_Law_law_1133 : decode cd_Law_law 1133 = .ok (.iaload, 1) := by decide +kernel
theorem d_Law_law_1134 : decode cd_Law_law 1134 = .ok (.aload_n 0, 1) := by decide +kernel
theorem d_Law_law_1135 : decode cd_Law_law 1135 = .ok (.iload 4, 2) := by decide +kernel
theorem d_Law_law_1137 : decode cd_Law_law 1137 = .ok (.iconst 2, 1) := by decide +kernel
theorem d_Law_law_1138 : decode cd_Law_law 1138 = .ok (.iadd, 1) := by decide +kernel
theorem d_Law_law_1139 : decode cd_Law_law 1139 = .ok (.iaload, 1) := by decide +kernel
theorem d_Law_law_1140 : decode cd_Law_law 1140 = .ok (.invokevirtual 135, 3) := by decide +kernel
theorem d_Law_law_1143 : decode cd_Law_law 1143 = .ok (.if_icmp .eq 92, 3) := by decide +kernel
theorem d_Law_law_1146 : decode cd_Law_law 1146 = .ok (.iconst 0, 1) := by decide +kernel
theorem d_Law_law_1147 : decode cd_Law_law 1147 = .ok (.ireturn, 1) := by decide +kernel
theorem d_Law_law_1148 : decode cd_Law_law 1148 = .ok (.aload_n 1, 1) := by decide +kernel
theorem d_Law_law_1149 : decode cd_Law_law 1149 = .ok (.aload_n 0, 1) := by decide +kernel
theorem d_Law_law_1150 : decode cd_Law_law 1150 = .ok (.iload 4, 2) := by decide +kernel
theorem d_Law_law_1152 : decode cd_Law_law 1152 = .ok (.iconst 1, 1) := by decide +kernel
theorem d_Law_law_1153 : decode cd_Law_law 1153 = .ok (.iadd, 1) := by decide +kernel
theorem d_Law_law_1154 : decode cd_Law_law 1154 = .ok (.iaload, 1) := by decide +kernel
theorem d_Law_law_1155 : decode cd_Law_law 1155 = .ok (.aload_n 0, 1) := by decide +kernel
theorem d_Law_law_1156 : decode cd_Law_law 1156 = .ok (.iload 4, 2) := by decide +kernel
theorem d_Law_law_1158 : decode cd_Law_law 1158 = .ok (.iconst 2, 1) := by decide +kernel
theorem d_Law_law_1159 : decode cd_Law_law 1159 = .ok (.iadd, 1) := by decide +kernel
theorem d_Law_law_1160 : decode cd_Law_law 1160 = .ok (.iaload, 1) := by decide +kernel
theorem d_Law_law_1161 : decode cd_Law_law 1161 = .ok (.invokevirtual 136, 3) := by decide +kernel
theorem d_Law_law_1164 : decode cd_Law_law 1164 = .ok (.aload_n 2, 1) := by decide +kernel
theorem d_Law_law_1165 : decode cd_Law_law 1165 = .ok (.aload_n 0, 1) := by decide +kernel
theorem d_Law_law_1166 : decode cd_Law_law 1166 = .ok (.iload 4, 2) := by decide +kernel
theorem d_Law_law_1168 : decode cd_Law_law 1168 = .ok (.iconst 1, 1) := by decide +kernel
theorem d_Law_law_1169 : decode cd_Law_law 1169 = .ok (.iadd, 1) := by decide +kernel
theorem d_Law_law_1170 : decode cd_Law_law 1170 = .ok (.iaload, 1) := by decide +kernel
theorem d_Law_law_1171 : decode cd_Law_law 1171 = .ok (.aload_n 0, 1) := by decide +kernel
theorem d_Law_law_1172 : decode cd_Law_law 1172 = .ok (.iload 4, 2) := by decide +kernel
theorem d_Law_law_1174 : decode cd_Law_law 1174 = .ok (.iconst 2, 1) := by decide +kernel
theorem d_Law_law_1175 : decode cd_Law_law 1175 = .ok (.iadd, 1) := by decide +kernel
theorem d_Law_law_1176 : decode cd_Law_law 1176 = .ok (.iaload, 1) := by decide +kernel
theorem d_Law_law_1177 : decode cd_Law_law 1177 = .ok (.invokevirtual 139, 3) := by decide +kernel
theorem d_Law_law_1180 : decode cd_Law_law 1180 = .ok (.if_icmp .eq 55, 3) := by decide +kernel
theorem d_Law_law_1183 : decode cd_Law_law 1183 = .ok (.iconst 0, 1) := by decide +kernel
theorem d_Law_law_1184 : decode cd_Law_law 1184 = .ok (.ireturn, 1) := by decide +kernel
theorem d_Law_law_1185 : decode cd_Law_law 1185 = .ok (.aload_n 1, 1) := by decide +kernel
theorem d_Law_law_1186 : decode cd_Law_law 1186 = .ok (.aload_n 0, 1) := by decide +kernel
theorem d_Law_law_1187 : decode cd_Law_law 1187 = .ok (.iload 4, 2) := by decide +kernel
theorem d_Law_law_1189 : decode cd_Law_law 1189 = .ok (.iconst 1, 1) := by decide +kernel
theorem d_Law_law_1190 : decode cd_Law_law 1190 = .ok (.iadd, 1) := by decide +kernel
theorem d_Law_law_1191 : decode cd_Law_law 1191 = .ok (.iaload, 1) := by decide +kernel
theorem d_Law_law_1192 : decode cd_Law_law 1192 = .ok (.invokevirtual 140, 3) := by decide +kernel
theorem d_Law_law_1195 : decode cd_Law_law 1195 = .ok (.aload_n 2, 1) := by decide +kernel
theorem d_Law_law_1196 : decode cd_Law_law 1196 = .ok (.aload_n 0, 1) := by decide +kernel
theorem d_Law_law_1197 : decode cd_Law_law 1197 = .ok (.iload 4, 2) := by decide +kernel
theorem d_Law_law_1199 : decode cd_Law_law 1199 = .ok (.iconst 1, 1) := by decide +kernel
theorem d_Law_law_1200 : decode cd_Law_law 1200 = .ok (.iadd, 1) := by decide +kernel
theorem d_Law_law_1201 : decode cd_Law_law 1201 = .ok (.iaload, 1) := by decide +kernel
theorem d_Law_law_1202 : decode cd_Law_law 1202 = .ok (.invokevirtual 143, 3) := by decide +kernel
theorem d_Law_law_1205 : decode cd_Law_law 1205 = .ok (.if_icmp .eq 30, 3) := by decide +kernel
theorem d_Law_law_1208 : decode cd_Law_law 1208 = .ok (.iconst 0, 1) := by decide +kernel
theorem d_Law_law_1209 : decode cd_Law_law 1209 = .ok (.ireturn, 1) := by decide +kernel
theorem d_Law_law_1210 : decode cd_Law_law 1210 = .ok (.aload_n 1, 1) := by decide +kernel
theorem d_Law_law_1211 : decode cd_Law_law 1211 = .ok (.aload_n 0, 1) := by decide +kernel
theorem d_Law_law_1212 : decode cd_Law_law 1212 = .ok (.iload 4, 2) := by decide +kernel
theorem d_Law_law_1214 : decode cd_Law_law 1214 = .ok (.iconst 1, 1) := by decide +kernel
theorem d_Law_law_1215 : decode cd_Law_law 1215 = .ok (.iadd, 1) := by decide +kernel
theorem d_Law_law_1216 : decode cd_Law_law 1216 = .ok (.iaload, 1) := by decide +kernel
theorem d_Law_law_1217 : decode cd_Law_law 1217 = .ok (.invokevirtual 144, 3) := by decide +kernel
theorem d_Law_law_1220 : decode cd_Law_law 1220 = .ok (.aload_n 2, 1) := by decide +kernel
theorem d_Law_law_1221 : decode cd_Law_law 1221 = .ok (.aload_n 0, 1) := by decide +kernel
theorem d_Law_law_1222 : decode cd_Law_law 1222 = .ok (.iload 4, 2) := by decide +kernel
theorem d_Law_law_1224 : decode cd_Law_law 1224 = .ok (.iconst 1, 1) := by decide +kernel
theorem d_Law_law_1225 : decode cd_Law_law 1225 = .ok (.iadd, 1) := by decide +kernel
theorem d_Law_law_1226 : decode cd_Law_law 1226 = .ok (.iaload, 1) := by decide +kernel
theorem d_Law_law_1227 : decode cd_Law_law 1227 = .ok (.invokevirtual 147, 3) := by decide +kernel
theorem d_Law_law_1230 : decode cd_Law_law 1230 = .ok (.if_icmp .eq 5, 3) := by decide +kernel
theorem d_Law_law_1233 : decode cd_Law_law 1233 = .ok (.iconst 0, 1) := by decide +kernel
theorem d_Law_law_1234 : decode cd_Law_law 1234 = .ok (.ireturn, 1) := by decide +kernel
theorem d_Law_law_1235 : decode cd_Law_law 1235 = .ok (.iinc 4 6, 3) := by decide +kernel
theorem d_Law_law_1238 : decode cd_Law_law 1238 = .ok (.goto (-1215), 3) := by decide +kernel
theorem d_Law_law_1241 : decode cd_Law_law 1241 = .ok (.iconst 1, 1) := by decide +kernel
theorem d_Law_law_1242 : decode cd_Law_law 1242 = .ok (.ireturn, 1) := by decide +kernel
theorem yw_Rp_open : xY y_Rp_open cd_Rp_open 1 (some .int) 0 := ⟨xG_mem 298 (by decide +kernel) (by decide +kernel), xG_mem 299 (by decide +kernel) (by decide +kernel), xG_mem 54 (by decide +kernel) (by decide +kernel), xG_mem 300 (by decide +kernel) (by decide +kernel), by decide, by decide, by decide +kernel⟩
theorem ml_Law_70 : Cond.methodLink R_Law 70 y_Rp_open ∈ xG := xG_mem 297 (by decide +kernel) (by decide +kernel)
theorem yw_Mod_open : xY y_Mod_open cd_Mod_open 1 (some .int) 0 := ⟨xG_mem 1087 (by decide +kernel) (by decide +kernel), xG_mem 1088 (by decide +kernel) (by decide +kernel), xG_mem 65 (by decide +kernel) (by decide +kernel), xG_mem 1089 (by decide +kernel) (by decide +kernel), by decide, by decide, by decide +kernel⟩
theorem ml_Law_74 : Cond.methodLink R_Law 74 y_Mod_open ∈ xG := xG_mem 1086 (by decide +kernel) (by decide +kernel)
def o_0 (xs : Nat → Int32) (L : Nat) (x4 : Int32) (σ : xS) (K : xS → Prop) : Prop :=
  p_Rp_open σ (fun r2 σ1 => p_Mod_open σ1 (fun r4 σ3 => ((r2 = r4 → K σ3) ∧ (¬ r2 = r4 → False))))
set_option maxRecDepth 100000 in
set_option maxHeartbeats 4000000 in
theorem lc_0 {p : Program} {l : Launch} {e : Env} {s : State} {m : MethodId} {args : Array Value} {below : List Frame} {meth : Method} {c : Code} {V : xV} (C : xC p s m args c cd_Law_law 7 R_Law V) (hfl : l.flags = flags0) (hX : xX s) (hV : ∀ c, c < 61 → s.heap.size ≤ V.2.2 c) {b L : Nat} {xs : Nat → Int32} (hXs : va_X b L xs s s.heap) (hbl : b < s.heap.size) (hbA : ¬ xA V s.heap.size b) {cells slots : Nat} (hc : cells + 1 ≤ 601024) (hs : slots + 6 ≤ 7293034) {Z : State → Prop} {x4 : Int32} {K : xS → Prop} (hK : ∀ (σ : xS) (H : Heap) (locs : List Loc) (ls : Array Slot), K σ → xI V s.heap σ H locs → lv_has ls 7 [(0, .ref b), (1, .ref (V.2.2 0)), (2, .ref (V.2.2 31)), (3, .ref (V.2.2 30)), (4, .int x4)] → W p l e room_1 s m args below meth c H locs (cells + 1) (slots + 6) Z (F0 m 1235 ls [])) {σ : xS} {H : Heap} {locs : List Loc} {ls : Array Slot} (h : o_0 xs L x4 σ K) (hI : xI V s.heap σ H locs) (hl : lv_has ls 7 [(0, .ref b), (1, .ref (V.2.2 0)), (2, .ref (V.2.2 31)), (3, .ref (V.2.2 30)), (4, .int x4)]) : W p l e room_1 s m args below meth c H locs cells slots Z (F0 m 136 ls []) := by
  have hx := C.1
  have hb := C.2.1
  unfold o_0 at h
  refine lv_aload_n hx hb d_Law_law_136 rfl (lv_at hl 1 rfl) ?_
  refine x_calli C hI hl.1 (d := 0) (As := []) (rest := []) (by decide) (c_Rp_open h) (xE0 V _) rfl yw_Rp_open ml_Law_70 rfl rfl ⟨Nat.le_of_ble_eq_true rfl, Nat.le_of_ble_eq_true rfl⟩ rfl rfl (Nat.le_of_ble_eq_true rfl) d_Law_law_137 ⟨Nat.le_of_succ_le hc, Nat.le_trans (Nat.le_add_right _ 6) hs⟩ (fun r2 σ1 H locs h hI => ?_)
  refine lv_aload_n hx hb d_Law_law_140 rfl (lv_at hl 2 rfl) ?_
  refine x_calli C hI hl.1 (d := 31) (As := []) (rest := [.int r2]) (by decide) (c_Mod_open h) (xE31 V _) rfl yw_Mod_open ml_Law_74 rfl rfl ⟨Nat.le_of_ble_eq_true rfl, Nat.le_of_ble_eq_true rfl⟩ rfl rfl (Nat.le_of_ble_eq_true rfl) d_Law_law_141 ⟨Nat.le_of_succ_le hc, Nat.le_trans (Nat.le_add_right _ 6) hs⟩ (fun r4 σ3 H locs h hI => ?_)
  refine lv_icmp_eq (tgt := 1235) hx hb d_Law_law_144 (by decide) (fun c5 => ?_) (fun c5 => ?_)
  · have h := h.1 c5
    refine W.widen (k := cells + 1) (n := slots + 6) (Nat.le_add_right _ _) (Nat.le_add_right _ _) ?_
    exact hK _ _ _ _ h hI (lv_sub hl [0, 1, 2, 3, 4] rfl)
  · have h := h.2 c5
    exact False.elim h
theorem yw_Rp_close : xY y_Rp_close cd_Rp_close 2 (some .int) 0 := ⟨xG_mem 310 (by decide +kernel) (by decide +kernel), xG_mem 311 (by decide +kernel) (by decide +kernel), xG_mem 54 (by decide +kernel) (by decide +kernel), xG_mem 312 (by decide +kernel) (by decide +kernel), by decide, by decide, by decide +kernel⟩
theorem ml_Law_75 : Cond.methodLink R_Law 75 y_Rp_close ∈ xG := xG_mem 309 (by decide +kernel) (by decide +kernel)
theorem yw_Mod_close : xY y_Mod_close cd_Mod_close 4 (some .int) 0 := ⟨xG_mem 1091 (by decide +kernel) (by decide +kernel), xG_mem 1092 (by decide +kernel) (by decide +kernel), xG_mem 65 (by decide +kernel) (by decide +kernel), xG_mem 1093 (by decide +kernel) (by decide +kernel), by decide, by decide, by decide +kernel⟩
theorem ml_Law_78 : Cond.methodLink R_Law 78 y_Mod_close ∈ xG := xG_mem 1090 (by decide +kernel) (by decide +kernel)
def o_1 (xs : Nat → Int32) (L : Nat) (x4 : Int32) (σ : xS) (K : xS → Prop) : Prop :=
  p_Rp_close σ (fun r2 σ1 => p_Mod_close σ1 (fun r4 σ3 => ((r2 = r4 → K σ3) ∧ (¬ r2 = r4 → False))))
set_option maxRecDepth 100000 in
set_option maxHeartbeats 4000000 in
theorem lc_1 {p : Program} {l : Launch} {e : Env} {s : State} {m : MethodId} {args : Array Value} {below : List Frame} {meth : Method} {c : Code} {V : xV} (C : xC p s m args c cd_Law_law 7 R_Law V) (hfl : l.flags = flags0) (hX : xX s) (hV : ∀ c, c < 61 → s.heap.size ≤ V.2.2 c) {b L : Nat} {xs : Nat → Int32} (hXs : va_X b L xs s s.heap) (hbl : b < s.heap.size) (hbA : ¬ xA V s.heap.size b) {cells slots : Nat} (hc : cells + 1 ≤ 601024) (hs : slots + 6 ≤ 7293034) {Z : State → Prop} {x4 : Int32} {K : xS → Prop} (hK : ∀ (σ : xS) (H : Heap) (locs : List Loc) (ls : Array Slot), K σ → xI V s.heap σ H locs → lv_has ls 7 [(0, .ref b), (1, .ref (V.2.2 0)), (2, .ref (V.2.2 31)), (3, .ref (V.2.2 30)), (4, .int x4)] → W p l e room_1 s m args below meth c H locs (cells + 1) (slots + 6) Z (F0 m 1235 ls [])) {σ : xS} {H : Heap} {locs : List Loc} {ls : Array Slot} (h : o_1 xs L x4 σ K) (hI : xI V s.heap σ H locs) (hl : lv_has ls 7 [(0, .ref b), (1, .ref (V.2.2 0)), (2, .ref (V.2.2 31)), (3, .ref (V.2.2 30)), (4, .int x4)]) : W p l e room_1 s m args below meth c H locs cells slots Z (F0 m 149 ls []) := by
  have hx := C.1
  have hb := C.2.1
  unfold o_1 at h
  refine lv_aload_n hx hb d_Law_law_149 rfl (lv_at hl 1 rfl) ?_
  refine x_calli C hI hl.1 (d := 0) (As := []) (rest := []) (by decide) (c_Rp_close h) (xE0 V _) rfl yw_Rp_close ml_Law_75 rfl rfl ⟨Nat.le_of_ble_eq_true rfl, Nat.le_of_ble_eq_true rfl⟩ rfl rfl (Nat.le_of_ble_eq_true rfl) d_Law_law_150 ⟨Nat.le_of_succ_le hc, Nat.le_trans (Nat.le_add_right _ 6) hs⟩ (fun r2 σ1 H locs h hI => ?_)
  refine lv_aload_n hx hb d_Law_law_153 rfl (lv_at hl 2 rfl) ?_
  refine x_calli C hI hl.1 (d := 31) (As := []) (rest := [.int r2]) (by decide) (c_Mod_close h) (xE31 V _) rfl yw_Mod_close ml_Law_78 rfl rfl ⟨Nat.le_of_ble_eq_true rfl, Nat.le_of_ble_eq_true rfl⟩ rfl rfl (Nat.le_of_ble_eq_true rfl) d_Law_law_154 ⟨Nat.le_of_succ_le hc, Nat.le_trans (Nat.le_add_right _ 6) hs⟩ (fun r4 σ3 H locs h hI => ?_)
  refine lv_icmp_eq (tgt := 1235) hx hb d_Law_law_157 (by decide) (fun c5 => ?_) (fun c5 => ?_)
  · have h := h.1 c5
    refine W.widen (k := cells + 1) (n := slots + 6) (Nat.le_add_right _ _) (Nat.le_add_right _ _) ?_
    exact hK _ _ _ _ h hI (lv_sub hl [0, 1, 2, 3, 4] rfl)
  · have h := h.2 c5
    exact False.elim h
theorem yh_Law_collect : xYh y_Law_collect cd_Law_collect 4 (some .int) [(0, 9, 12, 13)] 3 := ⟨xG_mem 456 (by decide +kernel) (by decide +kernel), xG_mem 53 (by decide +kernel) (by decide +kernel), xG_mem 457 (by decide +kernel) (by decide +kernel), by decide, by decide, by decide +kernel⟩
theorem ml_Law_79 : Cond.methodLink R_Law 79 y_Law_collect ∈ xG := xG_mem 455 (by decide +kernel) (by decide +kernel)
theorem yw_Mod_collect : xY y_Mod_collect cd_Mod_collect 2 (some .int) 1 := ⟨xG_mem 1099 (by decide +kernel) (by decide +kernel), xG_mem 1100 (by decide +kernel) (by decide +kernel), xG_mem 65 (by decide +kernel) (by decide +kernel), xG_mem 1101 (by decide +kernel) (by decide +kernel), by decide, by decide, by decide +kernel⟩
theorem ml_Law_84 : Cond.methodLink R_Law 84 y_Mod_collect ∈ xG := xG_mem 1098 (by decide +kernel) (by decide +kernel)
theorem yw_Mod_thrown : xY y_Mod_thrown cd_Mod_thrown 1 (some .int) 0 := ⟨xG_mem 1083 (by decide +kernel) (by decide +kernel), xG_mem 1084 (by decide +kernel) (by decide +kernel), xG_mem 65 (by decide +kernel) (by decide +kernel), xG_mem 1085 (by decide +kernel) (by decide +kernel), by decide, by decide, by decide +kernel⟩
theorem ml_Law_85 : Cond.methodLink R_Law 85 y_Mod_thrown ∈ xG := xG_mem 1082 (by decide +kernel) (by decide +kernel)
def o_2 (xs : Nat → Int32) (L : Nat) (x4 : Int32) (σ : xS) (K : xS → Prop) : Prop :=
  (vp_in (x4 + 1) L ∧ p_Law_collect (xs (x4 + 1).toNatClampNeg) σ (fun r2 σ3 => (vp_in (x4 + 1) L ∧ p_Mod_collect (xs (x4 + 1).toNatClampNeg) σ3 (fun r6 σ5 => p_Mod_thrown σ5 (fun r8 σ7 => ((r8 = r2 → ((¬ r2 = 0 → K σ7) ∧ (r2 = 0 → (vp_in 0 1 ∧ (((lg_cmp (xL (σ7 30) (0 : Int32).toNatClampNeg) r6.toInt64) = 0 → K σ7) ∧ (¬ (lg_cmp (xL (σ7 30) (0 : Int32).toNatClampNeg) r6.toInt64) = 0 → False)))))) ∧ (¬ r8 = r2 → False)))))))
set_option maxRecDepth 100000 in
set_option maxHeartbeats 4000000 in
theorem lc_2 {p : Program} {l : Launch} {e : Env} {s : State} {m : MethodId} {args : Array Value} {below : List Frame} {meth : Method} {c : Code} {V : xV} (C : xC p s m args c cd_Law_law 7 R_Law V) (hfl : l.flags = flags0) (hX : xX s) (hV : ∀ c, c < 61 → s.heap.size ≤ V.2.2 c) {b L : Nat} {xs : Nat → Int32} (hXs : va_X b L xs s s.heap) (hbl : b < s.heap.size) (hbA : ¬ xA V s.heap.size b) {cells slots : Nat} (hc : cells + 1 ≤ 601024) (hs : slots + 6 ≤ 7293034) {Z : State → Prop} {x4 : Int32} {K : xS → Prop} (hK : ∀ (σ : xS) (H : Heap) (locs : List Loc) (ls : Array Slot), K σ → xI V s.heap σ H locs → lv_has ls 7 [(0, .ref b), (1, .ref (V.2.2 0)), (2, .ref (V.2.2 31)), (3, .ref (V.2.2 30)), (4, .int x4)] → W p l e room_1 s m args below meth c H locs (cells + 1) (slots + 6) Z (F0 m 1235 ls [])) {σ : xS} {H : Heap} {locs : List Loc} {ls : Array Slot} (h : o_2 xs L x4 σ K) (hI : xI V s.heap σ H locs) (hl : lv_has ls 7 [(0, .ref b), (1, .ref (V.2.2 0)), (2, .ref (V.2.2 31)), (3, .ref (V.2.2 30)), (4, .int x4)]) : W p l e room_1 s m args below meth c H locs cells slots Z (F0 m 162 ls []) := by
  have hx := C.1
  have hb := C.2.1
  unfold o_2 at h
  refine lv_aload_n hx hb d_Law_law_162 rfl (lv_at hl 1 rfl) ?_
  refine lv_aload_n hx hb d_Law_law_163 rfl (lv_at hl 0 rfl) ?_
  refine lv_iload hx hb d_Law_law_164 (lv_at hl 4 rfl) ?_
  refine lv_iconst (v := 1) hx hb d_Law_law_166 (by decide) ?_
  refine lv_iadd hx hb d_Law_law_167 ?_
  obtain ⟨i1, h⟩ := h
  refine va_sld hx hb hXs hbl hbA hI.2.2 i1 d_Law_law_168 ?_
  refine lv_aload_n hx hb d_Law_law_169 rfl (lv_at hl 3 rfl) ?_
  refine x_callh C hI hX hV hl.1 (As := [.ref (V.2.2 0), .int (xs (x4 + 1).toNatClampNeg), .ref (V.2.2 30)]) (rest := []) (c_Law_collect hfl h) yh_Law_collect ml_Law_79 rfl rfl ⟨Nat.le_of_ble_eq_true rfl, Nat.le_of_ble_eq_true rfl⟩ rfl rfl (Nat.le_of_ble_eq_true rfl) d_Law_law_170 ⟨hc, hs⟩ (fun r2 σ3 H locs h hI => ?_)
  refine lv_istore (lv' := [(5, .int r2), (0, .ref b), (1, .ref (V.2.2 0)), (2, .ref (V.2.2 31)), (3, .ref (V.2.2 30)), (4, .int x4)]) hx hb d_Law_law_173 hl (by decide) rfl (fun ls hl => ?_)
  refine lv_aload_n hx hb d_Law_law_175 rfl (lv_at hl 3 rfl) ?_
  refine lv_aload_n hx hb d_Law_law_176 rfl (lv_at hl 1 rfl) ?_
  refine lv_iload hx hb d_Law_law_177 (lv_at hl 5 rfl) ?_
  refine lv_iconst (v := 1) hx hb d_Law_law_179 (by decide) ?_
  refine lv_iadd hx hb d_Law_law_180 ?_
  obtain ⟨i4, h⟩ := h
  refine va_sld hx hb hXs hbl hbA hI.2.2 i4 d_Law_law_181 ?_
  refine x_calli C hI hl.1 (d := 31) (As := [.int (xs (x4 + 1).toNatClampNeg)]) (rest := []) (by decide) (c_Mod_collect h) (xE31 V _) rfl yw_Mod_collect ml_Law_84 rfl rfl ⟨Nat.le_of_ble_eq_true rfl, Nat.le_of_ble_eq_true rfl⟩ rfl rfl (Nat.le_of_ble_eq_true rfl) d_Law_law_182 ⟨hc, hs⟩ (fun r6 σ5 H locs h hI => ?_)
  refine lv_istore (lv' := [(6, .int r6), (5, .int r2), (0, .ref b), (1, .ref (V.2.2 0)), (2, .ref (V.2.2 31)), (3, .ref (V.2.2 30)), (4, .int x4)]) hx hb d_Law_law_185 hl (by decide) rfl (fun ls hl => ?_)
  refine lv_aload_n hx hb d_Law_law_187 rfl (lv_at hl 4 rfl) ?_
  refine x_calli C hI hl.1 (d := 31) (As := []) (rest := []) (by decide) (c_Mod_thrown h) (xE31 V _) rfl yw_Mod_thrown ml_Law_85 rfl rfl ⟨Nat.le_of_ble_eq_true rfl, Nat.le_of_ble_eq_true rfl⟩ rfl rfl (Nat.le_of_ble_eq_true rfl) d_Law_law_188 ⟨hc, hs⟩ (fun r8 σ7 H locs h hI => ?_)
  refine lv_iload hx hb d_Law_law_191 (lv_at hl 1 rfl) ?_
  refine lv_icmp_eq (tgt := 198) hx hb d_Law_law_193 (by decide) (fun c9 => ?_) (fun c9 => ?_)
  · have h := h.1 c9
    refine lv_iload hx hb d_Law_law_198 (lv_at hl 1 rfl) ?_
    refine lv_if_ne (tgt := 215) hx hb d_Law_law_200 (by decide) (fun c10 => ?_) (fun c10 => ?_)
    · have h := h.1 c10
      refine lv_goto (tgt := 1235) hx hb d_Law_law_215 (by decide) ?_
      exact hK _ _ _ _ h hI (lv_sub hl [2, 3, 4, 5, 6] rfl)
    · have h := h.2 c10
      refine lv_aload_n hx hb d_Law_law_203 rfl (lv_at hl 5 rfl) ?_
      refine lv_iconst (v := 0) hx hb d_Law_law_204 (by decide) ?_
      obtain ⟨i11, h⟩ := h
      refine x_lald C hI (d := 30) (by decide) (xE30 V) i11 d_Law_law_205 ?_
      refine lv_iload hx hb d_Law_law_206 (lv_at hl 0 rfl) ?_
      refine lv_i2l (v := r6.toInt64) hx hb d_Law_law_208 rfl ?_
      refine W.lcmp hx hb d_Law_law_209 ?_
      refine lv_if_eq (tgt := 215) hx hb d_Law_law_210 (by decide) (fun c12 => ?_) (fun c12 => ?_)
      · have h := h.1 c12
        refine lv_goto (tgt := 1235) hx hb d_Law_law_215 (by decide) ?_
        exact hK _ _ _ _ h hI (lv_sub hl [2, 3, 4, 5, 6] rfl)
      · have h := h.2 c12
        exact False.elim h
  · have h := h.2 c9
    exact False.elim h
theorem yh_Law_clear : xYh y_Law_clear cd_Law_clear 3 (some .int) [(0, 5, 8, 19)] 2 := ⟨xG_mem 682 (by decide +kernel) (by decide +kernel), xG_mem 53 (by decide +kernel) (by decide +kernel), xG_mem 683 (by decide +kernel) (by decide +kernel), by decide, by decide, by decide +kernel⟩
theorem ml_Law_88 : Cond.methodLink R_Law 88 y_Law_clear ∈ xG := xG_mem 681 (by decide +kernel) (by decide +kernel)
theorem yw_Mod_clear : xY y_Mod_clear cd_Mod_clear 2 none 1 := ⟨xG_mem 1147 (by decide +kernel) (by decide +kernel), xG_mem 1148 (by decide +kernel) (by decide +kernel), xG_mem 65 (by decide +kernel) (by decide +kernel), xG_mem 1149 (by decide +kernel) (by decide +kernel), by decide, by decide, by decide +kernel⟩
theorem ml_Law_91 : Cond.methodLink R_Law 91 y_Mod_clear ∈ xG := xG_mem 1146 (by decide +kernel) (by decide +kernel)
def o_3 (xs : Nat → Int32) (L : Nat) (x4 : Int32) (σ : xS) (K : xS → Prop) : Prop :=
  (vp_in (x4 + 1) L ∧ p_Law_clear (xs (x4 + 1).toNatClampNeg) σ (fun r2 σ3 => (vp_in (x4 + 1) L ∧ p_Mod_clear (xs (x4 + 1).toNatClampNeg) σ3 (fun σ5 => p_Mod_thrown σ5 (fun r7 σ6 => ((r7 = r2 → K σ6) ∧ (¬ r7 = r2 → False)))))))
set_option maxRecDepth 100000 in
set_option maxHeartbeats 4000000 in
theorem lc_3 {p : Program} {l : Launch} {e : Env} {s : State} {m : MethodId} {args : Array Value} {below : List Frame} {meth : Method} {c : Code} {V : xV} (C : xC p s m args c cd_Law_law 7 R_Law V) (hfl : l.flags = flags0) (hX : xX s) (hV : ∀ c, c < 61 → s.heap.size ≤ V.2.2 c) {b L : Nat} {xs : Nat → Int32} (hXs : va_X b L xs s s.heap) (hbl : b < s.heap.size) (hbA : ¬ xA V s.heap.size b) {cells slots : Nat} (hc : cells + 1 ≤ 601024) (hs : slots + 6 ≤ 7293034) {Z : State → Prop} {x4 : Int32} {K : xS → Prop} (hK : ∀ (σ : xS) (H : Heap) (locs : List Loc) (ls : Array Slot), K σ → xI V s.heap σ H locs → lv_has ls 7 [(0, .ref b), (1, .ref (V.2.2 0)), (2, .ref (V.2.2 31)), (3, .ref (V.2.2 30)), (4, .int x4)] → W p l e room_1 s m args below meth c H locs (cells + 1) (slots + 6) Z (F0 m 1235 ls [])) {σ : xS} {H : Heap} {locs : List Loc} {ls : Array Slot} (h : o_3 xs L x4 σ K) (hI : xI V s.heap σ H locs) (hl : lv_has ls 7 [(0, .ref b), (1, .ref (V.2.2 0)), (2, .ref (V.2.2 31)), (3, .ref (V.2.2 30)), (4, .int x4)]) : W p l e room_1 s m args below meth c H locs cells slots Z (F0 m 218 ls []) := by
  have hx := C.1
  have hb := C.2.1
  unfold o_3 at h
  refine lv_aload_n hx hb d_Law_law_218 rfl (lv_at hl 1 rfl) ?_
  refine lv_aload_n hx hb d_Law_law_219 rfl (lv_at hl 0 rfl) ?_
  refine lv_iload hx hb d_Law_law_220 (lv_at hl 4 rfl) ?_
  refine lv_iconst (v := 1) hx hb d_Law_law_222 (by decide) ?_
  refine lv_iadd hx hb d_Law_law_223 ?_
  obtain ⟨i1, h⟩ := h
  refine va_sld hx hb hXs hbl hbA hI.2.2 i1 d_Law_law_224 ?_
  refine x_callh C hI hX hV hl.1 (As := [.ref (V.2.2 0), .int (xs (x4 + 1).toNatClampNeg)]) (rest := []) (c_Law_clear hfl h) yh_Law_clear ml_Law_88 rfl rfl ⟨Nat.le_of_ble_eq_true rfl, Nat.le_of_ble_eq_true rfl⟩ rfl rfl (Nat.le_of_ble_eq_true rfl) d_Law_law_225 ⟨hc, hs⟩ (fun r2 σ3 H locs h hI => ?_)
  refine lv_istore (lv' := [(5, .int r2), (0, .ref b), (1, .ref (V.2.2 0)), (2, .ref (V.2.2 31)), (3, .ref (V.2.2 30)), (4, .int x4)]) hx hb d_Law_law_228 hl (by decide) rfl (fun ls hl => ?_)
  refine lv_aload_n hx hb d_Law_law_230 rfl (lv_at hl 3 rfl) ?_
  refine lv_aload_n hx hb d_Law_law_231 rfl (lv_at hl 1 rfl) ?_
  refine lv_iload hx hb d_Law_law_232 (lv_at hl 5 rfl) ?_
  refine lv_iconst (v := 1) hx hb d_Law_law_234 (by decide) ?_
  refine lv_iadd hx hb d_Law_law_235 ?_
  obtain ⟨i4, h⟩ := h
  refine va_sld hx hb hXs hbl hbA hI.2.2 i4 d_Law_law_236 ?_
  refine x_callv C hI hl.1 (d := 31) (As := [.int (xs (x4 + 1).toNatClampNeg)]) (rest := []) (by decide) (c_Mod_clear h) (xE31 V _) rfl yw_Mod_clear ml_Law_91 rfl rfl ⟨Nat.le_of_ble_eq_true rfl, Nat.le_of_ble_eq_true rfl⟩ rfl rfl (Nat.le_of_ble_eq_true rfl) d_Law_law_237 ⟨hc, hs⟩ (fun σ5 H locs h hI => ?_)
  refine lv_aload_n hx hb d_Law_law_240 rfl (lv_at hl 3 rfl) ?_
  refine x_calli C hI hl.1 (d := 31) (As := []) (rest := []) (by decide) (c_Mod_thrown h) (xE31 V _) rfl yw_Mod_thrown ml_Law_85 rfl rfl ⟨Nat.le_of_ble_eq_true rfl, Nat.le_of_ble_eq_true rfl⟩ rfl rfl (Nat.le_of_ble_eq_true rfl) d_Law_law_241 ⟨hc, hs⟩ (fun r7 σ6 H locs h hI => ?_)
  refine lv_iload hx hb d_Law_law_244 (lv_at hl 0 rfl) ?_
  refine lv_icmp_eq (tgt := 251) hx hb d_Law_law_246 (by decide) (fun c8 => ?_) (fun c8 => ?_)
  · have h := h.1 c8
    refine lv_goto (tgt := 1235) hx hb d_Law_law_251 (by decide) ?_
    exact hK _ _ _ _ h hI (lv_sub hl [1, 2, 3, 4, 5] rfl)
  · have h := h.2 c8
    exact False.elim h
theorem yh_Law_number : xYh y_Law_number cd_Law_number 4 (some .int) [(0, 6, 9, 19)] 3 := ⟨xG_mem 711 (by decide +kernel) (by decide +kernel), xG_mem 53 (by decide +kernel) (by decide +kernel), xG_mem 712 (by decide +kernel) (by decide +kernel), by decide, by decide, by decide +kernel⟩
theorem ml_Law_92 : Cond.methodLink R_Law 92 y_Law_number ∈ xG := xG_mem 710 (by decide +kernel) (by decide +kernel)
theorem yw_Mod_number : xY y_Mod_number cd_Mod_number 3 none 2 := ⟨xG_mem 1154 (by decide +kernel) (by decide +kernel), xG_mem 1155 (by decide +kernel) (by decide +kernel), xG_mem 65 (by decide +kernel) (by decide +kernel), xG_mem 1156 (by decide +kernel) (by decide +kernel), by decide, by decide, by decide +kernel⟩
theorem ml_Law_95 : Cond.methodLink R_Law 95 y_Mod_number ∈ xG := xG_mem 1153 (by decide +kernel) (by decide +kernel)
def o_4 (xs : Nat → Int32) (L : Nat) (x4 : Int32) (σ : xS) (K : xS → Prop) : Prop :=
  (vp_in (x4 + 1) L ∧ (vp_in (x4 + 2) L ∧ p_Law_number (xs (x4 + 1).toNatClampNeg) (xs (x4 + 2).toNatClampNeg) σ (fun r3 σ4 => (vp_in (x4 + 1) L ∧ (vp_in (x4 + 2) L ∧ p_Mod_number (xs (x4 + 1).toNatClampNeg) (xs (x4 + 2).toNatClampNeg) σ4 (fun σ7 => p_Mod_thrown σ7 (fun r9 σ8 => ((r9 = r3 → K σ8) ∧ (¬ r9 = r3 → False)))))))))
set_option maxRecDepth 100000 in
set_option maxHeartbeats 4000000 in
theorem lc_4 {p : Program} {l : Launch} {e : Env} {s : State} {m : MethodId} {args : Array Value} {below : List Frame} {meth : Method} {c : Code} {V : xV} (C : xC p s m args c cd_Law_law 7 R_Law V) (hfl : l.flags = flags0) (hX : xX s) (hV : ∀ c, c < 61 → s.heap.size ≤ V.2.2 c) {b L : Nat} {xs : Nat → Int32} (hXs : va_X b L xs s s.heap) (hbl : b < s.heap.size) (hbA : ¬ xA V s.heap.size b) {cells slots : Nat} (hc : cells + 1 ≤ 601024) (hs : slots + 6 ≤ 7293034) {Z : State → Prop} {x4 : Int32} {K : xS → Prop} (hK : ∀ (σ : xS) (H : Heap) (locs : List Loc) (ls : Array Slot), K σ → xI V s.heap σ H locs → lv_has ls 7 [(0, .ref b), (1, .ref (V.2.2 0)), (2, .ref (V.2.2 31)), (3, .ref (V.2.2 30)), (4, .int x4)] → W p l e room_1 s m args below meth c H locs (cells + 1) (slots + 6) Z (F0 m 1235 ls [])) {σ : xS} {H : Heap} {locs : List Loc} {ls : Array Slot} (h : o_4 xs L x4 σ K) (hI : xI V s.heap σ H locs) (hl : lv_has ls 7 [(0, .ref b), (1, .ref (V.2.2 0)), (2, .ref (V.2.2 31)), (3, .ref (V.2.2 30)), (4, .int x4)]) : W p l e room_1 s m args below meth c H locs cells slots Z (F0 m 254 ls []) := by
  have hx := C.1
  have hb := C.2.1
  unfold o_4 at h
  refine lv_aload_n hx hb d_Law_law_254 rfl (lv_at hl 1 rfl) ?_
  refine lv_aload_n hx hb d_Law_law_255 rfl (lv_at hl 0 rfl) ?_
  refine lv_iload hx hb d_Law_law_256 (lv_at hl 4 rfl) ?_
  refine lv_iconst (v := 1) hx hb d_Law_law_258 (by decide) ?_
  refine lv_iadd hx hb d_Law_law_259 ?_
  obtain ⟨i1, h⟩ := h
  refine va_sld hx hb hXs hbl hbA hI.2.2 i1 d_Law_law_260 ?_
  refine lv_aload_n hx hb d_Law_law_261 rfl (lv_at hl 0 rfl) ?_
  refine lv_iload hx hb d_Law_law_262 (lv_at hl 4 rfl) ?_
  refine lv_iconst (v := 2) hx hb d_Law_law_264 (by decide) ?_
  refine lv_iadd hx hb d_Law_law_265 ?_
  obtain ⟨i2, h⟩ := h
  refine va_sld hx hb hXs hbl hbA hI.2.2 i2 d_Law_law_266 ?_
  refine x_callh C hI hX hV hl.1 (As := [.ref (V.2.2 0), .int (xs (x4 + 1).toNatClampNeg), .int (xs (x4 + 2).toNatClampNeg)]) (rest := []) (c_Law_number hfl h) yh_Law_number ml_Law_92 rfl rfl ⟨Nat.le_of_ble_eq_true rfl, Nat.le_of_ble_eq_true rfl⟩ rfl rfl (Nat.le_of_ble_eq_true rfl) d_Law_law_267 ⟨hc, hs⟩ (fun r3 σ4 H locs h hI => ?_)
  refine lv_istore (lv' := [(5, .int r3), (0, .ref b), (1, .ref (V.2.2 0)), (2, .ref (V.2.2 31)), (3, .ref (V.2.2 30)), (4, .int x4)]) hx hb d_Law_law_270 hl (by decide) rfl (fun ls hl => ?_)
  refine lv_aload_n hx hb d_Law_law_272 rfl (lv_at hl 3 rfl) ?_
  refine lv_aload_n hx hb d_Law_law_273 rfl (lv_at hl 1 rfl) ?_
  refine lv_iload hx hb d_Law_law_274 (lv_at hl 5 rfl) ?_
  refine lv_iconst (v := 1) hx hb d_Law_law_276 (by decide) ?_
  refine lv_iadd hx hb d_Law_law_277 ?_
  obtain ⟨i5, h⟩ := h
  refine va_sld hx hb hXs hbl hbA hI.2.2 i5 d_Law_law_278 ?_
  refine lv_aload_n hx hb d_Law_law_279 rfl (lv_at hl 1 rfl) ?_
  refine lv_iload hx hb d_Law_law_280 (lv_at hl 5 rfl) ?_
  refine lv_iconst (v := 2) hx hb d_Law_law_282 (by decide) ?_
  refine lv_iadd hx hb d_Law_law_283 ?_
  obtain ⟨i6, h⟩ := h
  refine va_sld hx hb hXs hbl hbA hI.2.2 i6 d_Law_law_284 ?_
  refine x_callv C hI hl.1 (d := 31) (As := [.int (xs (x4 + 1).toNatClampNeg), .int (xs (x4 + 2).toNatClampNeg)]) (rest := []) (by decide) (c_Mod_number h) (xE31 V _) rfl yw_Mod_number ml_Law_95 rfl rfl ⟨Nat.le_of_ble_eq_true rfl, Nat.le_of_ble_eq_true rfl⟩ rfl rfl (Nat.le_of_ble_eq_true rfl) d_Law_law_285 ⟨hc, hs⟩ (fun σ7 H locs h hI => ?_)
  refine lv_aload_n hx hb d_Law_law_288 rfl (lv_at hl 3 rfl) ?_
  refine x_calli C hI hl.1 (d := 31) (As := []) (rest := []) (by decide) (c_Mod_thrown h) (xE31 V _) rfl yw_Mod_thrown ml_Law_85 rfl rfl ⟨Nat.le_of_ble_eq_true rfl, Nat.le_of_ble_eq_true rfl⟩ rfl rfl (Nat.le_of_ble_eq_true rfl) d_Law_law_289 ⟨hc, hs⟩ (fun r9 σ8 H locs h hI => ?_)
  refine lv_iload hx hb d_Law_law_292 (lv_at hl 0 rfl) ?_
  refine lv_icmp_eq (tgt := 299) hx hb d_Law_law_294 (by decide) (fun c10 => ?_) (fun c10 => ?_)
  · have h := h.1 c10
    refine lv_goto (tgt := 1235) hx hb d_Law_law_299 (by decide) ?_
    exact hK _ _ _ _ h hI (lv_sub hl [1, 2, 3, 4, 5] rfl)
  · have h := h.2 c10
    exact False.elim h
theorem yh_Law_move : xYh y_Law_move cd_Law_move 4 (some .int) [(0, 6, 9, 19)] 3 := ⟨xG_mem 722 (by decide +kernel) (by decide +kernel), xG_mem 53 (by decide +kernel) (by decide +kernel), xG_mem 723 (by decide +kernel) (by decide +kernel), by decide, by decide, by decide +kernel⟩
theorem ml_Law_96 : Cond.methodLink R_Law 96 y_Law_move ∈ xG := xG_mem 721 (by decide +kernel) (by decide +kernel)
theorem yw_Mod_move : xY y_Mod_move cd_Mod_move 3 none 2 := ⟨xG_mem 1158 (by decide +kernel) (by decide +kernel), xG_mem 1159 (by decide +kernel) (by decide +kernel), xG_mem 65 (by decide +kernel) (by decide +kernel), xG_mem 1160 (by decide +kernel) (by decide +kernel), by decide, by decide, by decide +kernel⟩
theorem ml_Law_98 : Cond.methodLink R_Law 98 y_Mod_move ∈ xG := xG_mem 1157 (by decide +kernel) (by decide +kernel)
def o_5 (xs : Nat → Int32) (L : Nat) (x4 : Int32) (σ : xS) (K : xS → Prop) : Prop :=
  (vp_in (x4 + 1) L ∧ (vp_in (x4 + 2) L ∧ p_Law_move (xs (x4 + 1).toNatClampNeg) (xs (x4 + 2).toNatClampNeg) σ (fun r3 σ4 => (vp_in (x4 + 1) L ∧ (vp_in (x4 + 2) L ∧ p_Mod_move (xs (x4 + 1).toNatClampNeg) (xs (x4 + 2).toNatClampNeg) σ4 (fun σ7 => p_Mod_thrown σ7 (fun r9 σ8 => ((r9 = r3 → K σ8) ∧ (¬ r9 = r3 → False)))))))))
set_option maxRecDepth 100000 in
set_option maxHeartbeats 4000000 in
theorem lc_5 {p : Program} {l : Launch} {e : Env} {s : State} {m : MethodId} {args : Array Value} {below : List Frame} {meth : Method} {c : Code} {V : xV} (C : xC p s m args c cd_Law_law 7 R_Law V) (hfl : l.flags = flags0) (hX : xX s) (hV : ∀ c, c < 61 → s.heap.size ≤ V.2.2 c) {b L : Nat} {xs : Nat → Int32} (hXs : va_X b L xs s s.heap) (hbl : b < s.heap.size) (hbA : ¬ xA V s.heap.size b) {cells slots : Nat} (hc : cells + 1 ≤ 601024) (hs : slots + 6 ≤ 7293034) {Z : State → Prop} {x4 : Int32} {K : xS → Prop} (hK : ∀ (σ : xS) (H : Heap) (locs : List Loc) (ls : Array Slot), K σ → xI V s.heap σ H locs → lv_has ls 7 [(0, .ref b), (1, .ref (V.2.2 0)), (2, .ref (V.2.2 31)), (3, .ref (V.2.2 30)), (4, .int x4)] → W p l e room_1 s m args below meth c H locs (cells + 1) (slots + 6) Z (F0 m 1235 ls [])) {σ : xS} {H : Heap} {locs : List Loc} {ls : Array Slot} (h : o_5 xs L x4 σ K) (hI : xI V s.heap σ H locs) (hl : lv_has ls 7 [(0, .ref b), (1, .ref (V.2.2 0)), (2, .ref (V.2.2 31)), (3, .ref (V.2.2 30)), (4, .int x4)]) : W p l e room_1 s m args below meth c H locs cells slots Z (F0 m 302 ls []) := by
  have hx := C.1
  have hb := C.2.1
  unfold o_5 at h
  refine lv_aload_n hx hb d_Law_law_302 rfl (lv_at hl 1 rfl) ?_
  refine lv_aload_n hx hb d_Law_law_303 rfl (lv_at hl 0 rfl) ?_
  refine lv_iload hx hb d_Law_law_304 (lv_at hl 4 rfl) ?_
  refine lv_iconst (v := 1) hx hb d_Law_law_306 (by decide) ?_
  refine lv_iadd hx hb d_Law_law_307 ?_
  obtain ⟨i1, h⟩ := h
  refine va_sld hx hb hXs hbl hbA hI.2.2 i1 d_Law_law_308 ?_
  refine lv_aload_n hx hb d_Law_law_309 rfl (lv_at hl 0 rfl) ?_
  refine lv_iload hx hb d_Law_law_310 (lv_at hl 4 rfl) ?_
  refine lv_iconst (v := 2) hx hb d_Law_law_312 (by decide) ?_
  refine lv_iadd hx hb d_Law_law_313 ?_
  obtain ⟨i2, h⟩ := h
  refine va_sld hx hb hXs hbl hbA hI.2.2 i2 d_Law_law_314 ?_
  refine x_callh C hI hX hV hl.1 (As := [.ref (V.2.2 0), .int (xs (x4 + 1).toNatClampNeg), .int (xs (x4 + 2).toNatClampNeg)]) (rest := []) (c_Law_move hfl h) yh_Law_move ml_Law_96 rfl rfl ⟨Nat.le_of_ble_eq_true rfl, Nat.le_of_ble_eq_true rfl⟩ rfl rfl (Nat.le_of_ble_eq_true rfl) d_Law_law_315 ⟨hc, hs⟩ (fun r3 σ4 H locs h hI => ?_)
  refine lv_istore (lv' := [(5, .int r3), (0, .ref b), (1, .ref (V.2.2 0)), (2, .ref (V.2.2 31)), (3, .ref (V.2.2 30)), (4, .int x4)]) hx hb d_Law_law_318 hl (by decide) rfl (fun ls hl => ?_)
  refine lv_aload_n hx hb d_Law_law_320 rfl (lv_at hl 3 rfl) ?_
  refine lv_aload_n hx hb d_Law_law_321 rfl (lv_at hl 1 rfl) ?_
  refine lv_iload hx hb d_Law_law_322 (lv_at hl 5 rfl) ?_
  refine lv_iconst (v := 1) hx hb d_Law_law_324 (by decide) ?_
  refine lv_iadd hx hb d_Law_law_325 ?_
  obtain ⟨i5, h⟩ := h
  refine va_sld hx hb hXs hbl hbA hI.2.2 i5 d_Law_law_326 ?_
  refine lv_aload_n hx hb d_Law_law_327 rfl (lv_at hl 1 rfl) ?_
  refine lv_iload hx hb d_Law_law_328 (lv_at hl 5 rfl) ?_
  refine lv_iconst (v := 2) hx hb d_Law_law_330 (by decide) ?_
  refine lv_iadd hx hb d_Law_law_331 ?_
  obtain ⟨i6, h⟩ := h
  refine va_sld hx hb hXs hbl hbA hI.2.2 i6 d_Law_law_332 ?_
  refine x_callv C hI hl.1 (d := 31) (As := [.int (xs (x4 + 1).toNatClampNeg), .int (xs (x4 + 2).toNatClampNeg)]) (rest := []) (by decide) (c_Mod_move h) (xE31 V _) rfl yw_Mod_move ml_Law_98 rfl rfl ⟨Nat.le_of_ble_eq_true rfl, Nat.le_of_ble_eq_true rfl⟩ rfl rfl (Nat.le_of_ble_eq_true rfl) d_Law_law_333 ⟨hc, hs⟩ (fun σ7 H locs h hI => ?_)
  refine lv_aload_n hx hb d_Law_law_336 rfl (lv_at hl 3 rfl) ?_
  refine x_calli C hI hl.1 (d := 31) (As := []) (rest := []) (by decide) (c_Mod_thrown h) (xE31 V _) rfl yw_Mod_thrown ml_Law_85 rfl rfl ⟨Nat.le_of_ble_eq_true rfl, Nat.le_of_ble_eq_true rfl⟩ rfl rfl (Nat.le_of_ble_eq_true rfl) d_Law_law_337 ⟨hc, hs⟩ (fun r9 σ8 H locs h hI => ?_)
  refine lv_iload hx hb d_Law_law_340 (lv_at hl 0 rfl) ?_
  refine lv_icmp_eq (tgt := 347) hx hb d_Law_law_342 (by decide) (fun c10 => ?_) (fun c10 => ?_)
  · have h := h.1 c10
    refine lv_goto (tgt := 1235) hx hb d_Law_law_347 (by decide) ?_
    exact hK _ _ _ _ h hI (lv_sub hl [1, 2, 3, 4, 5] rfl)
  · have h := h.2 c10
    exact False.elim h
theorem yh_Law_make : xYh y_Law_make cd_Law_make 8 (some .int) [(0, 16, 19, 19), (0, 16, 23, 13)] 7 := ⟨xG_mem 733 (by decide +kernel) (by decide +kernel), xG_mem 53 (by decide +kernel) (by decide +kernel), xG_mem 734 (by decide +kernel) (by decide +kernel), by decide, by decide, by decide +kernel⟩
theorem ml_Law_99 : Cond.methodLink R_Law 99 y_Law_make ∈ xG := xG_mem 732 (by decide +kernel) (by decide +kernel)
theorem yw_Mod_make : xY y_Mod_make cd_Mod_make 9 (some .int) 5 := ⟨xG_mem 1162 (by decide +kernel) (by decide +kernel), xG_mem 1163 (by decide +kernel) (by decide +kernel), xG_mem 65 (by decide +kernel) (by decide +kernel), xG_mem 1164 (by decide +kernel) (by decide +kernel), by decide, by decide, by decide +kernel⟩
theorem ml_Law_102 : Cond.methodLink R_Law 102 y_Mod_make ∈ xG := xG_mem 1161 (by decide +kernel) (by decide +kernel)
def o_6 (xs : Nat → Int32) (L : Nat) (x4 : Int32) (σ : xS) (K : xS → Prop) : Prop :=
  (vp_in (x4 + 1) L ∧ (vp_in (x4 + 2) L ∧ (vp_in (x4 + 3) L ∧ (vp_in (x4 + 4) L ∧ (vp_in (x4 + 5) L ∧ p_Law_make (xs (x4 + 1).toNatClampNeg) (xs (x4 + 2).toNatClampNeg) (xs (x4 + 3).toNatClampNeg) (xs (x4 + 4).toNatClampNeg) (xs (x4 + 5).toNatClampNeg) σ (fun r6 σ7 => (vp_in (x4 + 1) L ∧ (vp_in (x4 + 2) L ∧ (vp_in (x4 + 3) L ∧ (vp_in (x4 + 4) L ∧ (vp_in (x4 + 5) L ∧ p_Mod_make (xs (x4 + 1).toNatClampNeg) (xs (x4 + 2).toNatClampNeg) (xs (x4 + 3).toNatClampNeg) (xs (x4 + 4).toNatClampNeg) (xs (x4 + 5).toNatClampNeg) σ7 (fun r14 σ13 => p_Mod_thrown σ13 (fun r16 σ15 => ((r16 = r6 → ((¬ r6 = 0 → K σ15) ∧ (r6 = 0 → (vp_in 0 1 ∧ (((lg_cmp (xL (σ15 30) (0 : Int32).toNatClampNeg) r14.toInt64) = 0 → K σ15) ∧ (¬ (lg_cmp (xL (σ15 30) (0 : Int32).toNatClampNeg) r14.toInt64) = 0 → False)))))) ∧ (¬ r16 = r6 → False)))))))))))))))
set_option maxRecDepth 100000 in
set_option maxHeartbeats 4000000 in
theorem lc_6 {p : Program} {l : Launch} {e : Env} {s : State} {m : MethodId} {args : Array Value} {below : List Frame} {meth : Method} {c : Code} {V : xV} (C : xC p s m args c cd_Law_law 7 R_Law V) (hfl : l.flags = flags0) (hX : xX s) (hV : ∀ c, c < 61 → s.heap.size ≤ V.2.2 c) {b L : Nat} {xs : Nat → Int32} (hXs : va_X b L xs s s.heap) (hbl : b < s.heap.size) (hbA : ¬ xA V s.heap.size b) {cells slots : Nat} (hc : cells + 1 ≤ 601024) (hs : slots + 6 ≤ 7293034) {Z : State → Prop} {x4 : Int32} {K : xS → Prop} (hK : ∀ (σ : xS) (H : Heap) (locs : List Loc) (ls : Array Slot), K σ → xI V s.heap σ H locs → lv_has ls 7 [(0, .ref b), (1, .ref (V.2.2 0)), (2, .ref (V.2.2 31)), (3, .ref (V.2.2 30)), (4, .int x4)] → W p l e room_1 s m args below meth c H locs (cells + 1) (slots + 6) Z (F0 m 1235 ls [])) {σ : xS} {H : Heap} {locs : List Loc} {ls : Array Slot} (h : o_6 xs L x4 σ K) (hI : xI V s.heap σ H locs) (hl : lv_has ls 7 [(0, .ref b), (1, .ref (V.2.2 0)), (2, .ref (V.2.2 31)), (3, .ref (V.2.2 30)), (4, .int x4)]) : W p l e room_1 s m args below meth c H locs cells slots Z (F0 m 350 ls []) := by
  have hx := C.1
  have hb := C.2.1
  unfold o_6 at h
  refine lv_aload_n hx hb d_Law_law_350 rfl (lv_at hl 1 rfl) ?_
  refine lv_aload_n hx hb d_Law_law_351 rfl (lv_at hl 0 rfl) ?_
  refine lv_iload hx hb d_Law_law_352 (lv_at hl 4 rfl) ?_
  refine lv_iconst (v := 1) hx hb d_Law_law_354 (by decide) ?_
  refine lv_iadd hx hb d_Law_law_355 ?_
  obtain ⟨i1, h⟩ := h
  refine va_sld hx hb hXs hbl hbA hI.2.2 i1 d_Law_law_356 ?_
  refine lv_aload_n hx hb d_Law_law_357 rfl (lv_at hl 0 rfl) ?_
  refine lv_iload hx hb d_Law_law_358 (lv_at hl 4 rfl) ?_
  refine lv_iconst (v := 2) hx hb d_Law_law_360 (by decide) ?_
  refine lv_iadd hx hb d_Law_law_361 ?_
  obtain ⟨i2, h⟩ := h
  refine va_sld hx hb hXs hbl hbA hI.2.2 i2 d_Law_law_362 ?_
  refine lv_aload_n hx hb d_Law_law_363 rfl (lv_at hl 0 rfl) ?_
  refine lv_iload hx hb d_Law_law_364 (lv_at hl 4 rfl) ?_
  refine lv_iconst (v := 3) hx hb d_Law_law_366 (by decide) ?_
  refine lv_iadd hx hb d_Law_law_367 ?_
  obtain ⟨i3, h⟩ := h
  refine va_sld hx hb hXs hbl hbA hI.2.2 i3 d_Law_law_368 ?_
  refine lv_aload_n hx hb d_Law_law_369 rfl (lv_at hl 0 rfl) ?_
  refine lv_iload hx hb d_Law_law_370 (lv_at hl 4 rfl) ?_
  refine lv_iconst (v := 4) hx hb d_Law_law_372 (by decide) ?_
  refine lv_iadd hx hb d_Law_law_373 ?_
  obtain ⟨i4, h⟩ := h
  refine va_sld hx hb hXs hbl hbA hI.2.2 i4 d_Law_law_374 ?_
  refine lv_aload_n hx hb d_Law_law_375 rfl (lv_at hl 0 rfl) ?_
  refine lv_iload hx hb d_Law_law_376 (lv_at hl 4 rfl) ?_
  refine lv_iconst (v := 5) hx hb d_Law_law_378 (by decide) ?_
  refine lv_iadd hx hb d_Law_law_379 ?_
  obtain ⟨i5, h⟩ := h
  refine va_sld hx hb hXs hbl hbA hI.2.2 i5 d_Law_law_380 ?_
  refine lv_aload_n hx hb d_Law_law_381 rfl (lv_at hl 3 rfl) ?_
  refine x_callh C hI hX hV hl.1 (As := [.ref (V.2.2 0), .int (xs (x4 + 1).toNatClampNeg), .int (xs (x4 + 2).toNatClampNeg), .int (xs (x4 + 3).toNatClampNeg), .int (xs (x4 + 4).toNatClampNeg), .int (xs (x4 + 5).toNatClampNeg), .ref (V.2.2 30)]) (rest := []) (c_Law_make hfl h) yh_Law_make ml_Law_99 rfl rfl ⟨Nat.le_of_ble_eq_true rfl, Nat.le_of_ble_eq_true rfl⟩ rfl rfl (Nat.le_of_ble_eq_true rfl) d_Law_law_382 ⟨hc, hs⟩ (fun r6 σ7 H locs h hI => ?_)
  refine lv_istore (lv' := [(5, .int r6), (0, .ref b), (1, .ref (V.2.2 0)), (2, .ref (V.2.2 31)), (3, .ref (V.2.2 30)), (4, .int x4)]) hx hb d_Law_law_385 hl (by decide) rfl (fun ls hl => ?_)
  refine lv_aload_n hx hb d_Law_law_387 rfl (lv_at hl 3 rfl) ?_
  refine lv_aload_n hx hb d_Law_law_388 rfl (lv_at hl 1 rfl) ?_
  refine lv_iload hx hb d_Law_law_389 (lv_at hl 5 rfl) ?_
  refine lv_iconst (v := 1) hx hb d_Law_law_391 (by decide) ?_
  refine lv_iadd hx hb d_Law_law_392 ?_
  obtain ⟨i8, h⟩ := h
  refine va_sld hx hb hXs hbl hbA hI.2.2 i8 d_Law_law_393 ?_
  refine lv_aload_n hx hb d_Law_law_394 rfl (lv_at hl 1 rfl) ?_
  refine lv_iload hx hb d_Law_law_395 (lv_at hl 5 rfl) ?_
  refine lv_iconst (v := 2) hx hb d_Law_law_397 (by decide) ?_
  refine lv_iadd hx hb d_Law_law_398 ?_
  obtain ⟨i9, h⟩ := h
  refine va_sld hx hb hXs hbl hbA hI.2.2 i9 d_Law_law_399 ?_
  refine lv_aload_n hx hb d_Law_law_400 rfl (lv_at hl 1 rfl) ?_
  refine lv_iload hx hb d_Law_law_401 (lv_at hl 5 rfl) ?_
  refine lv_iconst (v := 3) hx hb d_Law_law_403 (by decide) ?_
  refine lv_iadd hx hb d_Law_law_404 ?_
  obtain ⟨i10, h⟩ := h
  refine va_sld hx hb hXs hbl hbA hI.2.2 i10 d_Law_law_405 ?_
  refine lv_aload_n hx hb d_Law_law_406 rfl (lv_at hl 1 rfl) ?_
  refine lv_iload hx hb d_Law_law_407 (lv_at hl 5 rfl) ?_
  refine lv_iconst (v := 4) hx hb d_Law_law_409 (by decide) ?_
  refine lv_iadd hx hb d_Law_law_410 ?_
  obtain ⟨i11, h⟩ := h
  refine va_sld hx hb hXs hbl hbA hI.2.2 i11 d_Law_law_411 ?_
  refine lv_aload_n hx hb d_Law_law_412 rfl (lv_at hl 1 rfl) ?_
  refine lv_iload hx hb d_Law_law_413 (lv_at hl 5 rfl) ?_
  refine lv_iconst (v := 5) hx hb d_Law_law_415 (by decide) ?_
  refine lv_iadd hx hb d_Law_law_416 ?_
  obtain ⟨i12, h⟩ := h
  refine va_sld hx hb hXs hbl hbA hI.2.2 i12 d_Law_law_417 ?_
  refine x_calli C hI hl.1 (d := 31) (As := [.int (xs (x4 + 1).toNatClampNeg), .int (xs (x4 + 2).toNatClampNeg), .int (xs (x4 + 3).toNatClampNeg), .int (xs (x4 + 4).toNatClampNeg), .int (xs (x4 + 5).toNatClampNeg)]) (rest := []) (by decide) (c_Mod_make h) (xE31 V _) rfl yw_Mod_make ml_Law_102 rfl rfl ⟨Nat.le_of_ble_eq_true rfl, Nat.le_of_ble_eq_true rfl⟩ rfl rfl (Nat.le_of_ble_eq_true rfl) d_Law_law_418 ⟨hc, hs⟩ (fun r14 σ13 H locs h hI => ?_)
  refine lv_istore (lv' := [(6, .int r14), (5, .int r6), (0, .ref b), (1, .ref (V.2.2 0)), (2, .ref (V.2.2 31)), (3, .ref (V.2.2 30)), (4, .int x4)]) hx hb d_Law_law_421 hl (by decide) rfl (fun ls hl => ?_)
  refine lv_aload_n hx hb d_Law_law_423 rfl (lv_at hl 4 rfl) ?_
  refine x_calli C hI hl.1 (d := 31) (As := []) (rest := []) (by decide) (c_Mod_thrown h) (xE31 V _) rfl yw_Mod_thrown ml_Law_85 rfl rfl ⟨Nat.le_of_ble_eq_true rfl, Nat.le_of_ble_eq_true rfl⟩ rfl rfl (Nat.le_of_ble_eq_true rfl) d_Law_law_424 ⟨hc, hs⟩ (fun r16 σ15 H locs h hI => ?_)
  refine lv_iload hx hb d_Law_law_427 (lv_at hl 1 rfl) ?_
  refine lv_icmp_eq (tgt := 434) hx hb d_Law_law_429 (by decide) (fun c17 => ?_) (fun c17 => ?_)
  · have h := h.1 c17
    refine lv_iload hx hb d_Law_law_434 (lv_at hl 1 rfl) ?_
    refine lv_if_ne (tgt := 451) hx hb d_Law_law_436 (by decide) (fun c18 => ?_) (fun c18 => ?_)
    · have h := h.1 c18
      refine lv_goto (tgt := 1235) hx hb d_Law_law_451 (by decide) ?_
      exact hK _ _ _ _ h hI (lv_sub hl [2, 3, 4, 5, 6] rfl)
    · have h := h.2 c18
      refine lv_aload_n hx hb d_Law_law_439 rfl (lv_at hl 5 rfl) ?_
      refine lv_iconst (v := 0) hx hb d_Law_law_440 (by decide) ?_
      obtain ⟨i19, h⟩ := h
      refine x_lald C hI (d := 30) (by decide) (xE30 V) i19 d_Law_law_441 ?_
      refine lv_iload hx hb d_Law_law_442 (lv_at hl 0 rfl) ?_
      refine lv_i2l (v := r14.toInt64) hx hb d_Law_law_444 rfl ?_
      refine W.lcmp hx hb d_Law_law_445 ?_
      refine lv_if_eq (tgt := 451) hx hb d_Law_law_446 (by decide) (fun c20 => ?_) (fun c20 => ?_)
      · have h := h.1 c20
        refine lv_goto (tgt := 1235) hx hb d_Law_law_451 (by decide) ?_
        exact hK _ _ _ _ h hI (lv_sub hl [2, 3, 4, 5, 6] rfl)
      · have h := h.2 c20
        exact False.elim h
  · have h := h.2 c17
    exact False.elim h
theorem yh_Law_get : xYh y_Law_get cd_Law_get 6 (some .int) [(0, 19, 22, 19), (0, 19, 26, 36)] 5 := ⟨xG_mem 772 (by decide +kernel) (by decide +kernel), xG_mem 53 (by decide +kernel) (by decide +kernel), xG_mem 773 (by decide +kernel) (by decide +kernel), by decide, by decide, by decide +kernel⟩
theorem ml_Law_103 : Cond.methodLink R_Law 103 y_Law_get ∈ xG := xG_mem 771 (by decide +kernel) (by decide +kernel)
theorem yw_Mod_get : xY y_Mod_get cd_Mod_get 6 (some .boolean) 3 := ⟨xG_mem 1186 (by decide +kernel) (by decide +kernel), xG_mem 1187 (by decide +kernel) (by decide +kernel), xG_mem 65 (by decide +kernel) (by decide +kernel), xG_mem 1188 (by decide +kernel) (by decide +kernel), by decide, by decide, by decide +kernel⟩
theorem ml_Law_106 : Cond.methodLink R_Law 106 y_Mod_get ∈ xG := xG_mem 1185 (by decide +kernel) (by decide +kernel)
def o_7 (xs : Nat → Int32) (L : Nat) (x4 : Int32) (σ : xS) (K : xS → Prop) : Prop :=
  (vp_in (x4 + 1) L ∧ (vp_in (x4 + 2) L ∧ (vp_in (x4 + 3) L ∧ p_Law_get (xs (x4 + 1).toNatClampNeg) (xs (x4 + 2).toNatClampNeg) (xs (x4 + 3).toNatClampNeg) σ (fun r4 σ5 => (vp_in (x4 + 1) L ∧ (vp_in (x4 + 2) L ∧ (vp_in (x4 + 3) L ∧ p_Mod_get (xs (x4 + 1).toNatClampNeg) (xs (x4 + 2).toNatClampNeg) (xs (x4 + 3).toNatClampNeg) σ5 (fun r10 σ9 => p_Mod_thrown σ9 (fun r12 σ11 => ((r12 = r4 → ((¬ r4 = 0 → K σ11) ∧ (r4 = 0 → (vp_in 0 1 ∧ ((r10 = 0 → (((lg_cmp (xL (σ11 30) (0 : Int32).toNatClampNeg) 0) = 0 → K σ11) ∧ (¬ (lg_cmp (xL (σ11 30) (0 : Int32).toNatClampNeg) 0) = 0 → False))) ∧ (¬ r10 = 0 → (((lg_cmp (xL (σ11 30) (0 : Int32).toNatClampNeg) 1) = 0 → K σ11) ∧ (¬ (lg_cmp (xL (σ11 30) (0 : Int32).toNatClampNeg) 1) = 0 → False)))))))) ∧ (¬ r12 = r4 → False)))))))))))
set_option maxRecDepth 100000 in
set_option maxHeartbeats 4000000 in
theorem lc_7 {p : Program} {l : Launch} {e : Env} {s : State} {m : MethodId} {args : Array Value} {below : List Frame} {meth : Method} {c : Code} {V : xV} (C : xC p s m args c cd_Law_law 7 R_Law V) (hfl : l.flags = flags0) (hX : xX s) (hV : ∀ c, c < 61 → s.heap.size ≤ V.2.2 c) {b L : Nat} {xs : Nat → Int32} (hXs : va_X b L xs s s.heap) (hbl : b < s.heap.size) (hbA : ¬ xA V s.heap.size b) {cells slots : Nat} (hc : cells + 1 ≤ 601024) (hs : slots + 6 ≤ 7293034) {Z : State → Prop} {x4 : Int32} {K : xS → Prop} (hK : ∀ (σ : xS) (H : Heap) (locs : List Loc) (ls : Array Slot), K σ → xI V s.heap σ H locs → lv_has ls 7 [(0, .ref b), (1, .ref (V.2.2 0)), (2, .ref (V.2.2 31)), (3, .ref (V.2.2 30)), (4, .int x4)] → W p l e room_1 s m args below meth c H locs (cells + 1) (slots + 6) Z (F0 m 1235 ls [])) {σ : xS} {H : Heap} {locs : List Loc} {ls : Array Slot} (h : o_7 xs L x4 σ K) (hI : xI V s.heap σ H locs) (hl : lv_has ls 7 [(0, .ref b), (1, .ref (V.2.2 0)), (2, .ref (V.2.2 31)), (3, .ref (V.2.2 30)), (4, .int x4)]) : W p l e room_1 s m args below meth c H locs cells slots Z (F0 m 454 ls []) := by
  have hx := C.1
  have hb := C.2.1
  unfold o_7 at h
  refine lv_aload_n hx hb d_Law_law_454 rfl (lv_at hl 1 rfl) ?_
  refine lv_aload_n hx hb d_Law_law_455 rfl (lv_at hl 0 rfl) ?_
  refine lv_iload hx hb d_Law_law_456 (lv_at hl 4 rfl) ?_
  refine lv_iconst (v := 1) hx hb d_Law_law_458 (by decide) ?_
  refine lv_iadd hx hb d_Law_law_459 ?_
  obtain ⟨i1, h⟩ := h
  refine va_sld hx hb hXs hbl hbA hI.2.2 i1 d_Law_law_460 ?_
  refine lv_aload_n hx hb d_Law_law_461 rfl (lv_at hl 0 rfl) ?_
  refine lv_iload hx hb d_Law_law_462 (lv_at hl 4 rfl) ?_
  refine lv_iconst (v := 2) hx hb d_Law_law_464 (by decide) ?_
  refine lv_iadd hx hb d_Law_law_465 ?_
  obtain ⟨i2, h⟩ := h
  refine va_sld hx hb hXs hbl hbA hI.2.2 i2 d_Law_law_466 ?_
  refine lv_aload_n hx hb d_Law_law_467 rfl (lv_at hl 0 rfl) ?_
  refine lv_iload hx hb d_Law_law_468 (lv_at hl 4 rfl) ?_
  refine lv_iconst (v := 3) hx hb d_Law_law_470 (by decide) ?_
  refine lv_iadd hx hb d_Law_law_471 ?_
  obtain ⟨i3, h⟩ := h
  refine va_sld hx hb hXs hbl hbA hI.2.2 i3 d_Law_law_472 ?_
  refine lv_aload_n hx hb d_Law_law_473 rfl (lv_at hl 3 rfl) ?_
  refine x_callh C hI hX hV hl.1 (As := [.ref (V.2.2 0), .int (xs (x4 + 1).toNatClampNeg), .int (xs (x4 + 2).toNatClampNeg), .int (xs (x4 + 3).toNatClampNeg), .ref (V.2.2 30)]) (rest := []) (c_Law_get hfl h) yh_Law_get ml_Law_103 rfl rfl ⟨Nat.le_of_ble_eq_true rfl, Nat.le_of_ble_eq_true rfl⟩ rfl rfl (Nat.le_of_ble_eq_true rfl) d_Law_law_474 ⟨hc, hs⟩ (fun r4 σ5 H locs h hI => ?_)
  refine lv_istore (lv' := [(5, .int r4), (0, .ref b), (1, .ref (V.2.2 0)), (2, .ref (V.2.2 31)), (3, .ref (V.2.2 30)), (4, .int x4)]) hx hb d_Law_law_477 hl (by decide) rfl (fun ls hl => ?_)
  refine lv_aload_n hx hb d_Law_law_479 rfl (lv_at hl 3 rfl) ?_
  refine lv_aload_n hx hb d_Law_law_480 rfl (lv_at hl 1 rfl) ?_
  refine lv_iload hx hb d_Law_law_481 (lv_at hl 5 rfl) ?_
  refine lv_iconst (v := 1) hx hb d_Law_law_483 (by decide) ?_
  refine lv_iadd hx hb d_Law_law_484 ?_
  obtain ⟨i6, h⟩ := h
  refine va_sld hx hb hXs hbl hbA hI.2.2 i6 d_Law_law_485 ?_
  refine lv_aload_n hx hb d_Law_law_486 rfl (lv_at hl 1 rfl) ?_
  refine lv_iload hx hb d_Law_law_487 (lv_at hl 5 rfl) ?_
  refine lv_iconst (v := 2) hx hb d_Law_law_489 (by decide) ?_
  refine lv_iadd hx hb d_Law_law_490 ?_
  obtain ⟨i7, h⟩ := h
  refine va_sld hx hb hXs hbl hbA hI.2.2 i7 d_Law_law_491 ?_
  refine lv_aload_n hx hb d_Law_law_492 rfl (lv_at hl 1 rfl) ?_
  refine lv_iload hx hb d_Law_law_493 (lv_at hl 5 rfl) ?_
  refine lv_iconst (v := 3) hx hb d_Law_law_495 (by decide) ?_
  refine lv_iadd hx hb d_Law_law_496 ?_
  obtain ⟨i8, h⟩ := h
  refine va_sld hx hb hXs hbl hbA hI.2.2 i8 d_Law_law_497 ?_
  refine x_calli C hI hl.1 (d := 31) (As := [.int (xs (x4 + 1).toNatClampNeg), .int (xs (x4 + 2).toNatClampNeg), .int (xs (x4 + 3).toNatClampNeg)]) (rest := []) (by decide) (c_Mod_get h) (xE31 V _) rfl yw_Mod_get ml_Law_106 rfl rfl ⟨Nat.le_of_ble_eq_true rfl, Nat.le_of_ble_eq_true rfl⟩ rfl rfl (Nat.le_of_ble_eq_true rfl) d_Law_law_498 ⟨hc, hs⟩ (fun r10 σ9 H locs h hI => ?_)
  refine lv_istore (lv' := [(6, .int r10), (5, .int r4), (0, .ref b), (1, .ref (V.2.2 0)), (2, .ref (V.2.2 31)), (3, .ref (V.2.2 30)), (4, .int x4)]) hx hb d_Law_law_501 hl (by decide) rfl (fun ls hl => ?_)
  refine lv_aload_n hx hb d_Law_law_503 rfl (lv_at hl 4 rfl) ?_
  refine x_calli C hI hl.1 (d := 31) (As := []) (rest := []) (by decide) (c_Mod_thrown h) (xE31 V _) rfl yw_Mod_thrown ml_Law_85 rfl rfl ⟨Nat.le_of_ble_eq_true rfl, Nat.le_of_ble_eq_true rfl⟩ rfl rfl (Nat.le_of_ble_eq_true rfl) d_Law_law_504 ⟨hc, hs⟩ (fun r12 σ11 H locs h hI => ?_)
  refine lv_iload hx hb d_Law_law_507 (lv_at hl 1 rfl) ?_
  refine lv_icmp_eq (tgt := 514) hx hb d_Law_law_509 (by decide) (fun c13 => ?_) (fun c13 => ?_)
  · have h := h.1 c13
    refine lv_iload hx hb d_Law_law_514 (lv_at hl 1 rfl) ?_
    refine lv_if_ne (tgt := 538) hx hb d_Law_law_516 (by decide) (fun c14 => ?_) (fun c14 => ?_)
    · have h := h.1 c14
      refine lv_goto (tgt := 1235) hx hb d_Law_law_538 (by decide) ?_
      exact hK _ _ _ _ h hI (lv_sub hl [2, 3, 4, 5, 6] rfl)
    · have h := h.2 c14
      refine lv_aload_n hx hb d_Law_law_519 rfl (lv_at hl 5 rfl) ?_
      refine lv_iconst (v := 0) hx hb d_Law_law_520 (by decide) ?_
      obtain ⟨i15, h⟩ := h
      refine x_lald C hI (d := 30) (by decide) (xE30 V) i15 d_Law_law_521 ?_
      refine lv_iload hx hb d_Law_law_522 (lv_at hl 0 rfl) ?_
      refine lv_if_eq (tgt := 531) hx hb d_Law_law_524 (by decide) (fun c16 => ?_) (fun c16 => ?_)
      · have h := h.1 c16
        refine lv_lconst (v := 0) hx hb d_Law_law_531 (by decide) ?_
        refine W.lcmp hx hb d_Law_law_532 ?_
        refine lv_if_eq (tgt := 538) hx hb d_Law_law_533 (by decide) (fun c17 => ?_) (fun c17 => ?_)
        · have h := h.1 c17
          refine lv_goto (tgt := 1235) hx hb d_Law_law_538 (by decide) ?_
          exact hK _ _ _ _ h hI (lv_sub hl [2, 3, 4, 5, 6] rfl)
        · have h := h.2 c17
          exact False.elim h
      · have h := h.2 c16
        refine lv_lconst (v := 1) hx hb d_Law_law_527 (by decide) ?_
        refine lv_goto (tgt := 532) hx hb d_Law_law_528 (by decide) ?_
        refine W.lcmp hx hb d_Law_law_532 ?_
        refine lv_if_eq (tgt := 538) hx hb d_Law_law_533 (by decide) (fun c18 => ?_) (fun c18 => ?_)
        · have h := h.1 c18
          refine lv_goto (tgt := 1235) hx hb d_Law_law_538 (by decide) ?_
          exact hK _ _ _ _ h hI (lv_sub hl [2, 3, 4, 5, 6] rfl)
        · have h := h.2 c18
          exact False.elim h
  · have h := h.2 c13
    exact False.elim h
theorem yh_Law_put : xYh y_Law_put cd_Law_put 6 (some .int) [(0, 12, 15, 19), (0, 12, 19, 36)] 5 := ⟨xG_mem 806 (by decide +kernel) (by decide +kernel), xG_mem 53 (by decide +kernel) (by decide +kernel), xG_mem 807 (by decide +kernel) (by decide +kernel), by decide, by decide, by decide +kernel⟩
theorem ml_Law_107 : Cond.methodLink R_Law 107 y_Law_put ∈ xG := xG_mem 805 (by decide +kernel) (by decide +kernel)
theorem yw_Mod_put : xY y_Mod_put cd_Mod_put 6 (some .int) 3 := ⟨xG_mem 1194 (by decide +kernel) (by decide +kernel), xG_mem 1195 (by decide +kernel) (by decide +kernel), xG_mem 65 (by decide +kernel) (by decide +kernel), xG_mem 1196 (by decide +kernel) (by decide +kernel), by decide, by decide, by decide +kernel⟩
theorem ml_Law_109 : Cond.methodLink R_Law 109 y_Mod_put ∈ xG := xG_mem 1193 (by decide +kernel) (by decide +kernel)
def o_8 (xs : Nat → Int32) (L : Nat) (x4 : Int32) (σ : xS) (K : xS → Prop) : Prop :=
  (vp_in (x4 + 1) L ∧ (vp_in (x4 + 2) L ∧ (vp_in (x4 + 3) L ∧ p_Law_put (xs (x4 + 1).toNatClampNeg) (xs (x4 + 2).toNatClampNeg) (xs (x4 + 3).toNatClampNeg) σ (fun r4 σ5 => (vp_in (x4 + 1) L ∧ (vp_in (x4 + 2) L ∧ (vp_in (x4 + 3) L ∧ p_Mod_put (xs (x4 + 1).toNatClampNeg) (xs (x4 + 2).toNatClampNeg) (xs (x4 + 3).toNatClampNeg) σ5 (fun r10 σ9 => p_Mod_thrown σ9 (fun r12 σ11 => ((r12 = r4 → ((¬ r4 = 0 → K σ11) ∧ (r4 = 0 → (vp_in 0 1 ∧ (((lg_cmp (xL (σ11 30) (0 : Int32).toNatClampNeg) r10.toInt64) = 0 → K σ11) ∧ (¬ (lg_cmp (xL (σ11 30) (0 : Int32).toNatClampNeg) r10.toInt64) = 0 → False)))))) ∧ (¬ r12 = r4 → False)))))))))))
set_option maxRecDepth 100000 in
set_option maxHeartbeats 4000000 in
theorem lc_8 {p : Program} {l : Launch} {e : Env} {s : State} {m : MethodId} {args : Array Value} {below : List Frame} {meth : Method} {c : Code} {V : xV} (C : xC p s m args c cd_Law_law 7 R_Law V) (hfl : l.flags = flags0) (hX : xX s) (hV : ∀ c, c < 61 → s.heap.size ≤ V.2.2 c) {b L : Nat} {xs : Nat → Int32} (hXs : va_X b L xs s s.heap) (hbl : b < s.heap.size) (hbA : ¬ xA V s.heap.size b) {cells slots : Nat} (hc : cells + 1 ≤ 601024) (hs : slots + 6 ≤ 7293034) {Z : State → Prop} {x4 : Int32} {K : xS → Prop} (hK : ∀ (σ : xS) (H : Heap) (locs : List Loc) (ls : Array Slot), K σ → xI V s.heap σ H locs → lv_has ls 7 [(0, .ref b), (1, .ref (V.2.2 0)), (2, .ref (V.2.2 31)), (3, .ref (V.2.2 30)), (4, .int x4)] → W p l e room_1 s m args below meth c H locs (cells + 1) (slots + 6) Z (F0 m 1235 ls [])) {σ : xS} {H : Heap} {locs : List Loc} {ls : Array Slot} (h : o_8 xs L x4 σ K) (hI : xI V s.heap σ H locs) (hl : lv_has ls 7 [(0, .ref b), (1, .ref (V.2.2 0)), (2, .ref (V.2.2 31)), (3, .ref (V.2.2 30)), (4, .int x4)]) : W p l e room_1 s m args below meth c H locs cells slots Z (F0 m 541 ls []) := by
  have hx := C.1
  have hb := C.2.1
  unfold o_8 at h
  refine lv_aload_n hx hb d_Law_law_541 rfl (lv_at hl 1 rfl) ?_
  refine lv_aload_n hx hb d_Law_law_542 rfl (lv_at hl 0 rfl) ?_
  refine lv_iload hx hb d_Law_law_543 (lv_at hl 4 rfl) ?_
  refine lv_iconst (v := 1) hx hb d_Law_law_545 (by decide) ?_
  refine lv_iadd hx hb d_Law_law_546 ?_
  obtain ⟨i1, h⟩ := h
  refine va_sld hx hb hXs hbl hbA hI.2.2 i1 d_Law_law_547 ?_
  refine lv_aload_n hx hb d_Law_law_548 rfl (lv_at hl 0 rfl) ?_
  refine lv_iload hx hb d_Law_law_549 (lv_at hl 4 rfl) ?_
  refine lv_iconst (v := 2) hx hb d_Law_law_551 (by decide) ?_
  refine lv_iadd hx hb d_Law_law_552 ?_
  obtain ⟨i2, h⟩ := h
  refine va_sld hx hb hXs hbl hbA hI.2.2 i2 d_Law_law_553 ?_
  refine lv_aload_n hx hb d_Law_law_554 rfl (lv_at hl 0 rfl) ?_
  refine lv_iload hx hb d_Law_law_555 (lv_at hl 4 rfl) ?_
  refine lv_iconst (v := 3) hx hb d_Law_law_557 (by decide) ?_
  refine lv_iadd hx hb d_Law_law_558 ?_
  obtain ⟨i3, h⟩ := h
  refine va_sld hx hb hXs hbl hbA hI.2.2 i3 d_Law_law_559 ?_
  refine lv_aload_n hx hb d_Law_law_560 rfl (lv_at hl 3 rfl) ?_
  refine x_callh C hI hX hV hl.1 (As := [.ref (V.2.2 0), .int (xs (x4 + 1).toNatClampNeg), .int (xs (x4 + 2).toNatClampNeg), .int (xs (x4 + 3).toNatClampNeg), .ref (V.2.2 30)]) (rest := []) (c_Law_put hfl h) yh_Law_put ml_Law_107 rfl rfl ⟨Nat.le_of_ble_eq_true rfl, Nat.le_of_ble_eq_true rfl⟩ rfl rfl (Nat.le_of_ble_eq_true rfl) d_Law_law_561 ⟨hc, hs⟩ (fun r4 σ5 H locs h hI => ?_)
  refine lv_istore (lv' := [(5, .int r4), (0, .ref b), (1, .ref (V.2.2 0)), (2, .ref (V.2.2 31)), (3, .ref (V.2.2 30)), (4, .int x4)]) hx hb d_Law_law_564 hl (by decide) rfl (fun ls hl => ?_)
  refine lv_aload_n hx hb d_Law_law_566 rfl (lv_at hl 3 rfl) ?_
  refine lv_aload_n hx hb d_Law_law_567 rfl (lv_at hl 1 rfl) ?_
  refine lv_iload hx hb d_Law_law_568 (lv_at hl 5 rfl) ?_
  refine lv_iconst (v := 1) hx hb d_Law_law_570 (by decide) ?_
  refine lv_iadd hx hb d_Law_law_571 ?_
  obtain ⟨i6, h⟩ := h
  refine va_sld hx hb hXs hbl hbA hI.2.2 i6 d_Law_law_572 ?_
  refine lv_aload_n hx hb d_Law_law_573 rfl (lv_at hl 1 rfl) ?_
  refine lv_iload hx hb d_Law_law_574 (lv_at hl 5 rfl) ?_
  refine lv_iconst (v := 2) hx hb d_Law_law_576 (by decide) ?_
  refine lv_iadd hx hb d_Law_law_577 ?_
  obtain ⟨i7, h⟩ := h
  refine va_sld hx hb hXs hbl hbA hI.2.2 i7 d_Law_law_578 ?_
  refine lv_aload_n hx hb d_Law_law_579 rfl (lv_at hl 1 rfl) ?_
  refine lv_iload hx hb d_Law_law_580 (lv_at hl 5 rfl) ?_
  refine lv_iconst (v := 3) hx hb d_Law_law_582 (by decide) ?_
  refine lv_iadd hx hb d_Law_law_583 ?_
  obtain ⟨i8, h⟩ := h
  refine va_sld hx hb hXs hbl hbA hI.2.2 i8 d_Law_law_584 ?_
  refine x_calli C hI hl.1 (d := 31) (As := [.int (xs (x4 + 1).toNatClampNeg), .int (xs (x4 + 2).toNatClampNeg), .int (xs (x4 + 3).toNatClampNeg)]) (rest := []) (by decide) (c_Mod_put h) (xE31 V _) rfl yw_Mod_put ml_Law_109 rfl rfl ⟨Nat.le_of_ble_eq_true rfl, Nat.le_of_ble_eq_true rfl⟩ rfl rfl (Nat.le_of_ble_eq_true rfl) d_Law_law_585 ⟨hc, hs⟩ (fun r10 σ9 H locs h hI => ?_)
  refine lv_istore (lv' := [(6, .int r10), (5, .int r4), (0, .ref b), (1, .ref (V.2.2 0)), (2, .ref (V.2.2 31)), (3, .ref (V.2.2 30)), (4, .int x4)]) hx hb d_Law_law_588 hl (by decide) rfl (fun ls hl => ?_)
  refine lv_aload_n hx hb d_Law_law_590 rfl (lv_at hl 4 rfl) ?_
  refine x_calli C hI hl.1 (d := 31) (As := []) (rest := []) (by decide) (c_Mod_thrown h) (xE31 V _) rfl yw_Mod_thrown ml_Law_85 rfl rfl ⟨Nat.le_of_ble_eq_true rfl, Nat.le_of_ble_eq_true rfl⟩ rfl rfl (Nat.le_of_ble_eq_true rfl) d_Law_law_591 ⟨hc, hs⟩ (fun r12 σ11 H locs h hI => ?_)
  refine lv_iload hx hb d_Law_law_594 (lv_at hl 1 rfl) ?_
  refine lv_icmp_eq (tgt := 601) hx hb d_Law_law_596 (by decide) (fun c13 => ?_) (fun c13 => ?_)
  · have h := h.1 c13
    refine lv_iload hx hb d_Law_law_601 (lv_at hl 1 rfl) ?_
    refine lv_if_ne (tgt := 618) hx hb d_Law_law_603 (by decide) (fun c14 => ?_) (fun c14 => ?_)
    · have h := h.1 c14
      refine lv_goto (tgt := 1235) hx hb d_Law_law_618 (by decide) ?_
      exact hK _ _ _ _ h hI (lv_sub hl [2, 3, 4, 5, 6] rfl)
    · have h := h.2 c14
      refine lv_aload_n hx hb d_Law_law_606 rfl (lv_at hl 5 rfl) ?_
      refine lv_iconst (v := 0) hx hb d_Law_law_607 (by decide) ?_
      obtain ⟨i15, h⟩ := h
      refine x_lald C hI (d := 30) (by decide) (xE30 V) i15 d_Law_law_608 ?_
      refine lv_iload hx hb d_Law_law_609 (lv_at hl 0 rfl) ?_
      refine lv_i2l (v := r10.toInt64) hx hb d_Law_law_611 rfl ?_
      refine W.lcmp hx hb d_Law_law_612 ?_
      refine lv_if_eq (tgt := 618) hx hb d_Law_law_613 (by decide) (fun c16 => ?_) (fun c16 => ?_)
      · have h := h.1 c16
        refine lv_goto (tgt := 1235) hx hb d_Law_law_618 (by decide) ?_
        exact hK _ _ _ _ h hI (lv_sub hl [2, 3, 4, 5, 6] rfl)
      · have h := h.2 c16
        exact False.elim h
  · have h := h.2 c13
    exact False.elim h
theorem yh_Law_lift : xYh y_Law_lift cd_Law_lift 5 (some .int) [(0, 10, 13, 19), (0, 10, 17, 13)] 4 := ⟨xG_mem 815 (by decide +kernel) (by decide +kernel), xG_mem 53 (by decide +kernel) (by decide +kernel), xG_mem 816 (by decide +kernel) (by decide +kernel), by decide, by decide, by decide +kernel⟩
theorem ml_Law_110 : Cond.methodLink R_Law 110 y_Law_lift ∈ xG := xG_mem 814 (by decide +kernel) (by decide +kernel)
theorem yw_Mod_lift : xY y_Mod_lift cd_Mod_lift 5 (some .int) 2 := ⟨xG_mem 1198 (by decide +kernel) (by decide +kernel), xG_mem 1199 (by decide +kernel) (by decide +kernel), xG_mem 65 (by decide +kernel) (by decide +kernel), xG_mem 1200 (by decide +kernel) (by decide +kernel), by decide, by decide, by decide +kernel⟩
theorem ml_Law_113 : Cond.methodLink R_Law 113 y_Mod_lift ∈ xG := xG_mem 1197 (by decide +kernel) (by decide +kernel)
def o_9 (xs : Nat → Int32) (L : Nat) (x4 : Int32) (σ : xS) (K : xS → Prop) : Prop :=
  (vp_in (x4 + 1) L ∧ (vp_in (x4 + 2) L ∧ p_Law_lift (xs (x4 + 1).toNatClampNeg) (xs (x4 + 2).toNatClampNeg) σ (fun r3 σ4 => (vp_in (x4 + 1) L ∧ (vp_in (x4 + 2) L ∧ p_Mod_lift (xs (x4 + 1).toNatClampNeg) (xs (x4 + 2).toNatClampNeg) σ4 (fun r8 σ7 => p_Mod_thrown σ7 (fun r10 σ9 => ((r10 = r3 → ((¬ r3 = 0 → K σ9) ∧ (r3 = 0 → (vp_in 0 1 ∧ (((lg_cmp (xL (σ9 30) (0 : Int32).toNatClampNeg) r8.toInt64) = 0 → K σ9) ∧ (¬ (lg_cmp (xL (σ9 30) (0 : Int32).toNatClampNeg) r8.toInt64) = 0 → False)))))) ∧ (¬ r10 = r3 → False)))))))))
set_option maxRecDepth 100000 in
set_option maxHeartbeats 4000000 in
theorem lc_9 {p : Program} {l : Launch} {e : Env} {s : State} {m : MethodId} {args : Array Value} {below : List Frame} {meth : Method} {c : Code} {V : xV} (C : xC p s m args c cd_Law_law 7 R_Law V) (hfl : l.flags = flags0) (hX : xX s) (hV : ∀ c, c < 61 → s.heap.size ≤ V.2.2 c) {b L : Nat} {xs : Nat → Int32} (hXs : va_X b L xs s s.heap) (hbl : b < s.heap.size) (hbA : ¬ xA V s.heap.size b) {cells slots : Nat} (hc : cells + 1 ≤ 601024) (hs : slots + 6 ≤ 7293034) {Z : State → Prop} {x4 : Int32} {K : xS → Prop} (hK : ∀ (σ : xS) (H : Heap) (locs : List Loc) (ls : Array Slot), K σ → xI V s.heap σ H locs → lv_has ls 7 [(0, .ref b), (1, .ref (V.2.2 0)), (2, .ref (V.2.2 31)), (3, .ref (V.2.2 30)), (4, .int x4)] → W p l e room_1 s m args below meth c H locs (cells + 1) (slots + 6) Z (F0 m 1235 ls [])) {σ : xS} {H : Heap} {locs : List Loc} {ls : Array Slot} (h : o_9 xs L x4 σ K) (hI : xI V s.heap σ H locs) (hl : lv_has ls 7 [(0, .ref b), (1, .ref (V.2.2 0)), (2, .ref (V.2.2 31)), (3, .ref (V.2.2 30)), (4, .int x4)]) : W p l e room_1 s m args below meth c H locs cells slots Z (F0 m 621 ls []) := by
  have hx := C.1
  have hb := C.2.1
  unfold o_9 at h
  refine lv_aload_n hx hb d_Law_law_621 rfl (lv_at hl 1 rfl) ?_
  refine lv_aload_n hx hb d_Law_law_622 rfl (lv_at hl 0 rfl) ?_
  refine lv_iload hx hb d_Law_law_623 (lv_at hl 4 rfl) ?_
  refine lv_iconst (v := 1) hx hb d_Law_law_625 (by decide) ?_
  refine lv_iadd hx hb d_Law_law_626 ?_
  obtain ⟨i1, h⟩ := h
  refine va_sld hx hb hXs hbl hbA hI.2.2 i1 d_Law_law_627 ?_
  refine lv_aload_n hx hb d_Law_law_628 rfl (lv_at hl 0 rfl) ?_
  refine lv_iload hx hb d_Law_law_629 (lv_at hl 4 rfl) ?_
  refine lv_iconst (v := 2) hx hb d_Law_law_631 (by decide) ?_
  refine lv_iadd hx hb d_Law_law_632 ?_
  obtain ⟨i2, h⟩ := h
  refine va_sld hx hb hXs hbl hbA hI.2.2 i2 d_Law_law_633 ?_
  refine lv_aload_n hx hb d_Law_law_634 rfl (lv_at hl 3 rfl) ?_
  refine x_callh C hI hX hV hl.1 (As := [.ref (V.2.2 0), .int (xs (x4 + 1).toNatClampNeg), .int (xs (x4 + 2).toNatClampNeg), .ref (V.2.2 30)]) (rest := []) (c_Law_lift hfl h) yh_Law_lift ml_Law_110 rfl rfl ⟨Nat.le_of_ble_eq_true rfl, Nat.le_of_ble_eq_true rfl⟩ rfl rfl (Nat.le_of_ble_eq_true rfl) d_Law_law_635 ⟨hc, hs⟩ (fun r3 σ4 H locs h hI => ?_)
  refine lv_istore (lv' := [(5, .int r3), (0, .ref b), (1, .ref (V.2.2 0)), (2, .ref (V.2.2 31)), (3, .ref (V.2.2 30)), (4, .int x4)]) hx hb d_Law_law_638 hl (by decide) rfl (fun ls hl => ?_)
  refine lv_aload_n hx hb d_Law_law_640 rfl (lv_at hl 3 rfl) ?_
  refine lv_aload_n hx hb d_Law_law_641 rfl (lv_at hl 1 rfl) ?_
  refine lv_iload hx hb d_Law_law_642 (lv_at hl 5 rfl) ?_
  refine lv_iconst (v := 1) hx hb d_Law_law_644 (by decide) ?_
  refine lv_iadd hx hb d_Law_law_645 ?_
  obtain ⟨i5, h⟩ := h
  refine va_sld hx hb hXs hbl hbA hI.2.2 i5 d_Law_law_646 ?_
  refine lv_aload_n hx hb d_Law_law_647 rfl (lv_at hl 1 rfl) ?_
  refine lv_iload hx hb d_Law_law_648 (lv_at hl 5 rfl) ?_
  refine lv_iconst (v := 2) hx hb d_Law_law_650 (by decide) ?_
  refine lv_iadd hx hb d_Law_law_651 ?_
  obtain ⟨i6, h⟩ := h
  refine va_sld hx hb hXs hbl hbA hI.2.2 i6 d_Law_law_652 ?_
  refine x_calli C hI hl.1 (d := 31) (As := [.int (xs (x4 + 1).toNatClampNeg), .int (xs (x4 + 2).toNatClampNeg)]) (rest := []) (by decide) (c_Mod_lift h) (xE31 V _) rfl yw_Mod_lift ml_Law_113 rfl rfl ⟨Nat.le_of_ble_eq_true rfl, Nat.le_of_ble_eq_true rfl⟩ rfl rfl (Nat.le_of_ble_eq_true rfl) d_Law_law_653 ⟨hc, hs⟩ (fun r8 σ7 H locs h hI => ?_)
  refine lv_istore (lv' := [(6, .int r8), (5, .int r3), (0, .ref b), (1, .ref (V.2.2 0)), (2, .ref (V.2.2 31)), (3, .ref (V.2.2 30)), (4, .int x4)]) hx hb d_Law_law_656 hl (by decide) rfl (fun ls hl => ?_)
  refine lv_aload_n hx hb d_Law_law_658 rfl (lv_at hl 4 rfl) ?_
  refine x_calli C hI hl.1 (d := 31) (As := []) (rest := []) (by decide) (c_Mod_thrown h) (xE31 V _) rfl yw_Mod_thrown ml_Law_85 rfl rfl ⟨Nat.le_of_ble_eq_true rfl, Nat.le_of_ble_eq_true rfl⟩ rfl rfl (Nat.le_of_ble_eq_true rfl) d_Law_law_659 ⟨hc, hs⟩ (fun r10 σ9 H locs h hI => ?_)
  refine lv_iload hx hb d_Law_law_662 (lv_at hl 1 rfl) ?_
  refine lv_icmp_eq (tgt := 669) hx hb d_Law_law_664 (by decide) (fun c11 => ?_) (fun c11 => ?_)
  · have h := h.1 c11
    refine lv_iload hx hb d_Law_law_669 (lv_at hl 1 rfl) ?_
    refine lv_if_ne (tgt := 686) hx hb d_Law_law_671 (by decide) (fun c12 => ?_) (fun c12 => ?_)
    · have h := h.1 c12
      refine lv_goto (tgt := 1235) hx hb d_Law_law_686 (by decide) ?_
      exact hK _ _ _ _ h hI (lv_sub hl [2, 3, 4, 5, 6] rfl)
    · have h := h.2 c12
      refine lv_aload_n hx hb d_Law_law_674 rfl (lv_at hl 5 rfl) ?_
      refine lv_iconst (v := 0) hx hb d_Law_law_675 (by decide) ?_
      obtain ⟨i13, h⟩ := h
      refine x_lald C hI (d := 30) (by decide) (xE30 V) i13 d_Law_law_676 ?_
      refine lv_iload hx hb d_Law_law_677 (lv_at hl 0 rfl) ?_
      refine lv_i2l (v := r8.toInt64) hx hb d_Law_law_679 rfl ?_
      refine W.lcmp hx hb d_Law_law_680 ?_
      refine lv_if_eq (tgt := 686) hx hb d_Law_law_681 (by decide) (fun c14 => ?_) (fun c14 => ?_)
      · have h := h.1 c14
        refine lv_goto (tgt := 1235) hx hb d_Law_law_686 (by decide) ?_
        exact hK _ _ _ _ h hI (lv_sub hl [2, 3, 4, 5, 6] rfl)
      · have h := h.2 c14
        exact False.elim h
  · have h := h.2 c11
    exact False.elim h
theorem yh_Law_copy : xYh y_Law_copy cd_Law_copy 6 (some .int) [(0, 12, 15, 19), (0, 12, 19, 13)] 5 := ⟨xG_mem 868 (by decide +kernel) (by decide +kernel), xG_mem 53 (by decide +kernel) (by decide +kernel), xG_mem 869 (by decide +kernel) (by decide +kernel), by decide, by decide, by decide +kernel⟩
theorem ml_Law_114 : Cond.methodLink R_Law 114 y_Law_copy ∈ xG := xG_mem 867 (by decide +kernel) (by decide +kernel)
theorem yw_Mod_copy : xY y_Mod_copy cd_Mod_copy 10 (some .int) 3 := ⟨xG_mem 1214 (by decide +kernel) (by decide +kernel), xG_mem 1215 (by decide +kernel) (by decide +kernel), xG_mem 65 (by decide +kernel) (by decide +kernel), xG_mem 1216 (by decide +kernel) (by decide +kernel), by decide, by decide, by decide +kernel⟩
theorem ml_Law_116 : Cond.methodLink R_Law 116 y_Mod_copy ∈ xG := xG_mem 1213 (by decide +kernel) (by decide +kernel)
def o_10 (xs : Nat → Int32) (L : Nat) (x4 : Int32) (σ : xS) (K : xS → Prop) : Prop :=
  (vp_in (x4 + 1) L ∧ (vp_in (x4 + 2) L ∧ (vp_in (x4 + 3) L ∧ p_Law_copy (xs (x4 + 1).toNatClampNeg) (xs (x4 + 2).toNatClampNeg) (xs (x4 + 3).toNatClampNeg) σ (fun r4 σ5 => (vp_in (x4 + 1) L ∧ (vp_in (x4 + 2) L ∧ (vp_in (x4 + 3) L ∧ p_Mod_copy (xs (x4 + 1).toNatClampNeg) (xs (x4 + 2).toNatClampNeg) (xs (x4 + 3).toNatClampNeg) σ5 (fun r10 σ9 => p_Mod_thrown σ9 (fun r12 σ11 => ((r12 = r4 → ((¬ r4 = 0 → K σ11) ∧ (r4 = 0 → (vp_in 0 1 ∧ (((lg_cmp (xL (σ11 30) (0 : Int32).toNatClampNeg) r10.toInt64) = 0 → K σ11) ∧ (¬ (lg_cmp (xL (σ11 30) (0 : Int32).toNatClampNeg) r10.toInt64) = 0 → False)))))) ∧ (¬ r12 = r4 → False)))))))))))
set_option maxRecDepth 100000 in
set_option maxHeartbeats 4000000 in
theorem lc_10 {p : Program} {l : Launch} {e : Env} {s : State} {m : MethodId} {args : Array Value} {below : List Frame} {meth : Method} {c : Code} {V : xV} (C : xC p s m args c cd_Law_law 7 R_Law V) (hfl : l.flags = flags0) (hX : xX s) (hV : ∀ c, c < 61 → s.heap.size ≤ V.2.2 c) {b L : Nat} {xs : Nat → Int32} (hXs : va_X b L xs s s.heap) (hbl : b < s.heap.size) (hbA : ¬ xA V s.heap.size b) {cells slots : Nat} (hc : cells + 1 ≤ 601024) (hs : slots + 6 ≤ 7293034) {Z : State → Prop} {x4 : Int32} {K : xS → Prop} (hK : ∀ (σ : xS) (H : Heap) (locs : List Loc) (ls : Array Slot), K σ → xI V s.heap σ H locs → lv_has ls 7 [(0, .ref b), (1, .ref (V.2.2 0)), (2, .ref (V.2.2 31)), (3, .ref (V.2.2 30)), (4, .int x4)] → W p l e room_1 s m args below meth c H locs (cells + 1) (slots + 6) Z (F0 m 1235 ls [])) {σ : xS} {H : Heap} {locs : List Loc} {ls : Array Slot} (h : o_10 xs L x4 σ K) (hI : xI V s.heap σ H locs) (hl : lv_has ls 7 [(0, .ref b), (1, .ref (V.2.2 0)), (2, .ref (V.2.2 31)), (3, .ref (V.2.2 30)), (4, .int x4)]) : W p l e room_1 s m args below meth c H locs cells slots Z (F0 m 689 ls []) := by
  have hx := C.1
  have hb := C.2.1
  unfold o_10 at h
  refine lv_aload_n hx hb d_Law_law_689 rfl (lv_at hl 1 rfl) ?_
  refine lv_aload_n hx hb d_Law_law_690 rfl (lv_at hl 0 rfl) ?_
  refine lv_iload hx hb d_Law_law_691 (lv_at hl 4 rfl) ?_
  refine lv_iconst (v := 1) hx hb d_Law_law_693 (by decide) ?_
  refine lv_iadd hx hb d_Law_law_694 ?_
  obtain ⟨i1, h⟩ := h
  refine va_sld hx hb hXs hbl hbA hI.2.2 i1 d_Law_law_695 ?_
  refine lv_aload_n hx hb d_Law_law_696 rfl (lv_at hl 0 rfl) ?_
  refine lv_iload hx hb d_Law_law_697 (lv_at hl 4 rfl) ?_
  refine lv_iconst (v := 2) hx hb d_Law_law_699 (by decide) ?_
  refine lv_iadd hx hb d_Law_law_700 ?_
  obtain ⟨i2, h⟩ := h
  refine va_sld hx hb hXs hbl hbA hI.2.2 i2 d_Law_law_701 ?_
  refine lv_aload_n hx hb d_Law_law_702 rfl (lv_at hl 0 rfl) ?_
  refine lv_iload hx hb d_Law_law_703 (lv_at hl 4 rfl) ?_
  refine lv_iconst (v := 3) hx hb d_Law_law_705 (by decide) ?_
  refine lv_iadd hx hb d_Law_law_706 ?_
  obtain ⟨i3, h⟩ := h
  refine va_sld hx hb hXs hbl hbA hI.2.2 i3 d_Law_law_707 ?_
  refine lv_aload_n hx hb d_Law_law_708 rfl (lv_at hl 3 rfl) ?_
  refine x_callh C hI hX hV hl.1 (As := [.ref (V.2.2 0), .int (xs (x4 + 1).toNatClampNeg), .int (xs (x4 + 2).toNatClampNeg), .int (xs (x4 + 3).toNatClampNeg), .ref (V.2.2 30)]) (rest := []) (c_Law_copy hfl h) yh_Law_copy ml_Law_114 rfl rfl ⟨Nat.le_of_ble_eq_true rfl, Nat.le_of_ble_eq_true rfl⟩ rfl rfl (Nat.le_of_ble_eq_true rfl) d_Law_law_709 ⟨hc, hs⟩ (fun r4 σ5 H locs h hI => ?_)
  refine lv_istore (lv' := [(5, .int r4), (0, .ref b), (1, .ref (V.2.2 0)), (2, .ref (V.2.2 31)), (3, .ref (V.2.2 30)), (4, .int x4)]) hx hb d_Law_law_712 hl (by decide) rfl (fun ls hl => ?_)
  refine lv_aload_n hx hb d_Law_law_714 rfl (lv_at hl 3 rfl) ?_
  refine lv_aload_n hx hb d_Law_law_715 rfl (lv_at hl 1 rfl) ?_
  refine lv_iload hx hb d_Law_law_716 (lv_at hl 5 rfl) ?_
  refine lv_iconst (v := 1) hx hb d_Law_law_718 (by decide) ?_
  refine lv_iadd hx hb d_Law_law_719 ?_
  obtain ⟨i6, h⟩ := h
  refine va_sld hx hb hXs hbl hbA hI.2.2 i6 d_Law_law_720 ?_
  refine lv_aload_n hx hb d_Law_law_721 rfl (lv_at hl 1 rfl) ?_
  refine lv_iload hx hb d_Law_law_722 (lv_at hl 5 rfl) ?_
  refine lv_iconst (v := 2) hx hb d_Law_law_724 (by decide) ?_
  refine lv_iadd hx hb d_Law_law_725 ?_
  obtain ⟨i7, h⟩ := h
  refine va_sld hx hb hXs hbl hbA hI.2.2 i7 d_Law_law_726 ?_
  refine lv_aload_n hx hb d_Law_law_727 rfl (lv_at hl 1 rfl) ?_
  refine lv_iload hx hb d_Law_law_728 (lv_at hl 5 rfl) ?_
  refine lv_iconst (v := 3) hx hb d_Law_law_730 (by decide) ?_
  refine lv_iadd hx hb d_Law_law_731 ?_
  obtain ⟨i8, h⟩ := h
  refine va_sld hx hb hXs hbl hbA hI.2.2 i8 d_Law_law_732 ?_
  refine x_calli C hI hl.1 (d := 31) (As := [.int (xs (x4 + 1).toNatClampNeg), .int (xs (x4 + 2).toNatClampNeg), .int (xs (x4 + 3).toNatClampNeg)]) (rest := []) (by decide) (c_Mod_copy h) (xE31 V _) rfl yw_Mod_copy ml_Law_116 rfl rfl ⟨Nat.le_of_ble_eq_true rfl, Nat.le_of_ble_eq_true rfl⟩ rfl rfl (Nat.le_of_ble_eq_true rfl) d_Law_law_733 ⟨hc, hs⟩ (fun r10 σ9 H locs h hI => ?_)
  refine lv_istore (lv' := [(6, .int r10), (5, .int r4), (0, .ref b), (1, .ref (V.2.2 0)), (2, .ref (V.2.2 31)), (3, .ref (V.2.2 30)), (4, .int x4)]) hx hb d_Law_law_736 hl (by decide) rfl (fun ls hl => ?_)
  refine lv_aload_n hx hb d_Law_law_738 rfl (lv_at hl 4 rfl) ?_
  refine x_calli C hI hl.1 (d := 31) (As := []) (rest := []) (by decide) (c_Mod_thrown h) (xE31 V _) rfl yw_Mod_thrown ml_Law_85 rfl rfl ⟨Nat.le_of_ble_eq_true rfl, Nat.le_of_ble_eq_true rfl⟩ rfl rfl (Nat.le_of_ble_eq_true rfl) d_Law_law_739 ⟨hc, hs⟩ (fun r12 σ11 H locs h hI => ?_)
  refine lv_iload hx hb d_Law_law_742 (lv_at hl 1 rfl) ?_
  refine lv_icmp_eq (tgt := 749) hx hb d_Law_law_744 (by decide) (fun c13 => ?_) (fun c13 => ?_)
  · have h := h.1 c13
    refine lv_iload hx hb d_Law_law_749 (lv_at hl 1 rfl) ?_
    refine lv_if_ne (tgt := 766) hx hb d_Law_law_751 (by decide) (fun c14 => ?_) (fun c14 => ?_)
    · have h := h.1 c14
      refine lv_goto (tgt := 1235) hx hb d_Law_law_766 (by decide) ?_
      exact hK _ _ _ _ h hI (lv_sub hl [2, 3, 4, 5, 6] rfl)
    · have h := h.2 c14
      refine lv_aload_n hx hb d_Law_law_754 rfl (lv_at hl 5 rfl) ?_
      refine lv_iconst (v := 0) hx hb d_Law_law_755 (by decide) ?_
      obtain ⟨i15, h⟩ := h
      refine x_lald C hI (d := 30) (by decide) (xE30 V) i15 d_Law_law_756 ?_
      refine lv_iload hx hb d_Law_law_757 (lv_at hl 0 rfl) ?_
      refine lv_i2l (v := r10.toInt64) hx hb d_Law_law_759 rfl ?_
      refine W.lcmp hx hb d_Law_law_760 ?_
      refine lv_if_eq (tgt := 766) hx hb d_Law_law_761 (by decide) (fun c16 => ?_) (fun c16 => ?_)
      · have h := h.1 c16
        refine lv_goto (tgt := 1235) hx hb d_Law_law_766 (by decide) ?_
        exact hK _ _ _ _ h hI (lv_sub hl [2, 3, 4, 5, 6] rfl)
      · have h := h.2 c16
        exact False.elim h
  · have h := h.2 c13
    exact False.elim h
theorem yh_Law_watch : xYh y_Law_watch cd_Law_watch 4 (some .int) [(0, 16, 19, 19), (0, 16, 22, 36)] 3 := ⟨xG_mem 894 (by decide +kernel) (by decide +kernel), xG_mem 53 (by decide +kernel) (by decide +kernel), xG_mem 895 (by decide +kernel) (by decide +kernel), by decide, by decide, by decide +kernel⟩
theorem ml_Law_117 : Cond.methodLink R_Law 117 y_Law_watch ∈ xG := xG_mem 893 (by decide +kernel) (by decide +kernel)
theorem yw_Mod_watch : xY y_Mod_watch cd_Mod_watch 4 (some .boolean) 1 := ⟨xG_mem 1218 (by decide +kernel) (by decide +kernel), xG_mem 1219 (by decide +kernel) (by decide +kernel), xG_mem 65 (by decide +kernel) (by decide +kernel), xG_mem 1220 (by decide +kernel) (by decide +kernel), by decide, by decide, by decide +kernel⟩
theorem ml_Law_119 : Cond.methodLink R_Law 119 y_Mod_watch ∈ xG := xG_mem 1217 (by decide +kernel) (by decide +kernel)
def o_11 (xs : Nat → Int32) (L : Nat) (x4 : Int32) (σ : xS) (K : xS → Prop) : Prop :=
  (vp_in (x4 + 1) L ∧ p_Law_watch (xs (x4 + 1).toNatClampNeg) σ (fun r2 σ3 => (vp_in (x4 + 1) L ∧ p_Mod_watch (xs (x4 + 1).toNatClampNeg) σ3 (fun r6 σ5 => p_Mod_thrown σ5 (fun r8 σ7 => ((r8 = r2 → ((¬ r2 = 0 → K σ7) ∧ (r2 = 0 → (vp_in 0 1 ∧ ((r6 = 0 → (((lg_cmp (xL (σ7 30) (0 : Int32).toNatClampNeg) 0) = 0 → K σ7) ∧ (¬ (lg_cmp (xL (σ7 30) (0 : Int32).toNatClampNeg) 0) = 0 → False))) ∧ (¬ r6 = 0 → (((lg_cmp (xL (σ7 30) (0 : Int32).toNatClampNeg) 1) = 0 → K σ7) ∧ (¬ (lg_cmp (xL (σ7 30) (0 : Int32).toNatClampNeg) 1) = 0 → False)))))))) ∧ (¬ r8 = r2 → False)))))))
set_option maxRecDepth 100000 in
set_option maxHeartbeats 4000000 in
theorem lc_11 {p : Program} {l : Launch} {e : Env} {s : State} {m : MethodId} {args : Array Value} {below : List Frame} {meth : Method} {c : Code} {V : xV} (C : xC p s m args c cd_Law_law 7 R_Law V) (hfl : l.flags = flags0) (hX : xX s) (hV : ∀ c, c < 61 → s.heap.size ≤ V.2.2 c) {b L : Nat} {xs : Nat → Int32} (hXs : va_X b L xs s s.heap) (hbl : b < s.heap.size) (hbA : ¬ xA V s.heap.size b) {cells slots : Nat} (hc : cells + 1 ≤ 601024) (hs : slots + 6 ≤ 7293034) {Z : State → Prop} {x4 : Int32} {K : xS → Prop} (hK : ∀ (σ : xS) (H : Heap) (locs : List Loc) (ls : Array Slot), K σ → xI V s.heap σ H locs → lv_has ls 7 [(0, .ref b), (1, .ref (V.2.2 0)), (2, .ref (V.2.2 31)), (3, .ref (V.2.2 30)), (4, .int x4)] → W p l e room_1 s m args below meth c H locs (cells + 1) (slots + 6) Z (F0 m 1235 ls [])) {σ : xS} {H : Heap} {locs : List Loc} {ls : Array Slot} (h : o_11 xs L x4 σ K) (hI : xI V s.heap σ H locs) (hl : lv_has ls 7 [(0, .ref b), (1, .ref (V.2.2 0)), (2, .ref (V.2.2 31)), (3, .ref (V.2.2 30)), (4, .int x4)]) : W p l e room_1 s m args below meth c H locs cells slots Z (F0 m 769 ls []) := by
  have hx := C.1
  have hb := C.2.1
  unfold o_11 at h
  refine lv_aload_n hx hb d_Law_law_769 rfl (lv_at hl 1 rfl) ?_
  refine lv_aload_n hx hb d_Law_law_770 rfl (lv_at hl 0 rfl) ?_
  refine lv_iload hx hb d_Law_law_771 (lv_at hl 4 rfl) ?_
  refine lv_iconst (v := 1) hx hb d_Law_law_773 (by decide) ?_
  refine lv_iadd hx hb d_Law_law_774 ?_
  obtain ⟨i1, h⟩ := h
  refine va_sld hx hb hXs hbl hbA hI.2.2 i1 d_Law_law_775 ?_
  refine lv_aload_n hx hb d_Law_law_776 rfl (lv_at hl 3 rfl) ?_
  refine x_callh C hI hX hV hl.1 (As := [.ref (V.2.2 0), .int (xs (x4 + 1).toNatClampNeg), .ref (V.2.2 30)]) (rest := []) (c_Law_watch hfl h) yh_Law_watch ml_Law_117 rfl rfl ⟨Nat.le_of_ble_eq_true rfl, Nat.le_of_ble_eq_true rfl⟩ rfl rfl (Nat.le_of_ble_eq_true rfl) d_Law_law_777 ⟨hc, hs⟩ (fun r2 σ3 H locs h hI => ?_)
  refine lv_istore (lv' := [(5, .int r2), (0, .ref b), (1, .ref (V.2.2 0)), (2, .ref (V.2.2 31)), (3, .ref (V.2.2 30)), (4, .int x4)]) hx hb d_Law_law_780 hl (by decide) rfl (fun ls hl => ?_)
  refine lv_aload_n hx hb d_Law_law_782 rfl (lv_at hl 3 rfl) ?_
  refine lv_aload_n hx hb d_Law_law_783 rfl (lv_at hl 1 rfl) ?_
  refine lv_iload hx hb d_Law_law_784 (lv_at hl 5 rfl) ?_
  refine lv_iconst (v := 1) hx hb d_Law_law_786 (by decide) ?_
  refine lv_iadd hx hb d_Law_law_787 ?_
  obtain ⟨i4, h⟩ := h
  refine va_sld hx hb hXs hbl hbA hI.2.2 i4 d_Law_law_788 ?_
  refine x_calli C hI hl.1 (d := 31) (As := [.int (xs (x4 + 1).toNatClampNeg)]) (rest := []) (by decide) (c_Mod_watch h) (xE31 V _) rfl yw_Mod_watch ml_Law_119 rfl rfl ⟨Nat.le_of_ble_eq_true rfl, Nat.le_of_ble_eq_true rfl⟩ rfl rfl (Nat.le_of_ble_eq_true rfl) d_Law_law_789 ⟨hc, hs⟩ (fun r6 σ5 H locs h hI => ?_)
  refine lv_istore (lv' := [(6, .int r6), (5, .int r2), (0, .ref b), (1, .ref (V.2.2 0)), (2, .ref (V.2.2 31)), (3, .ref (V.2.2 30)), (4, .int x4)]) hx hb d_Law_law_792 hl (by decide) rfl (fun ls hl => ?_)
  refine lv_aload_n hx hb d_Law_law_794 rfl (lv_at hl 4 rfl) ?_
  refine x_calli C hI hl.1 (d := 31) (As := []) (rest := []) (by decide) (c_Mod_thrown h) (xE31 V _) rfl yw_Mod_thrown ml_Law_85 rfl rfl ⟨Nat.le_of_ble_eq_true rfl, Nat.le_of_ble_eq_true rfl⟩ rfl rfl (Nat.le_of_ble_eq_true rfl) d_Law_law_795 ⟨hc, hs⟩ (fun r8 σ7 H locs h hI => ?_)
  refine lv_iload hx hb d_Law_law_798 (lv_at hl 1 rfl) ?_
  refine lv_icmp_eq (tgt := 805) hx hb d_Law_law_800 (by decide) (fun c9 => ?_) (fun c9 => ?_)
  · have h := h.1 c9
    refine lv_iload hx hb d_Law_law_805 (lv_at hl 1 rfl) ?_
    refine lv_if_ne (tgt := 829) hx hb d_Law_law_807 (by decide) (fun c10 => ?_) (fun c10 => ?_)
    · have h := h.1 c10
      refine lv_goto (tgt := 1235) hx hb d_Law_law_829 (by decide) ?_
      exact hK _ _ _ _ h hI (lv_sub hl [2, 3, 4, 5, 6] rfl)
    · have h := h.2 c10
      refine lv_aload_n hx hb d_Law_law_810 rfl (lv_at hl 5 rfl) ?_
      refine lv_iconst (v := 0) hx hb d_Law_law_811 (by decide) ?_
      obtain ⟨i11, h⟩ := h
      refine x_lald C hI (d := 30) (by decide) (xE30 V) i11 d_Law_law_812 ?_
      refine lv_iload hx hb d_Law_law_813 (lv_at hl 0 rfl) ?_
      refine lv_if_eq (tgt := 822) hx hb d_Law_law_815 (by decide) (fun c12 => ?_) (fun c12 => ?_)
      · have h := h.1 c12
        refine lv_lconst (v := 0) hx hb d_Law_law_822 (by decide) ?_
        refine W.lcmp hx hb d_Law_law_823 ?_
        refine lv_if_eq (tgt := 829) hx hb d_Law_law_824 (by decide) (fun c13 => ?_) (fun c13 => ?_)
        · have h := h.1 c13
          refine lv_goto (tgt := 1235) hx hb d_Law_law_829 (by decide) ?_
          exact hK _ _ _ _ h hI (lv_sub hl [2, 3, 4, 5, 6] rfl)
        · have h := h.2 c13
          exact False.elim h
      · have h := h.2 c12
        refine lv_lconst (v := 1) hx hb d_Law_law_818 (by decide) ?_
        refine lv_goto (tgt := 823) hx hb d_Law_law_819 (by decide) ?_
        refine W.lcmp hx hb d_Law_law_823 ?_
        refine lv_if_eq (tgt := 829) hx hb d_Law_law_824 (by decide) (fun c14 => ?_) (fun c14 => ?_)
        · have h := h.1 c14
          refine lv_goto (tgt := 1235) hx hb d_Law_law_829 (by decide) ?_
          exact hK _ _ _ _ h hI (lv_sub hl [2, 3, 4, 5, 6] rfl)
        · have h := h.2 c14
          exact False.elim h
  · have h := h.2 c9
    exact False.elim h
theorem yh_Law_due : xYh y_Law_due cd_Law_due 4 (some .int) [(0, 9, 12, 19)] 3 := ⟨xG_mem 906 (by decide +kernel) (by decide +kernel), xG_mem 53 (by decide +kernel) (by decide +kernel), xG_mem 907 (by decide +kernel) (by decide +kernel), by decide, by decide, by decide +kernel⟩
theorem ml_Law_120 : Cond.methodLink R_Law 120 y_Law_due ∈ xG := xG_mem 905 (by decide +kernel) (by decide +kernel)
theorem yw_Mod_due : xY y_Mod_due cd_Mod_due 4 (some .int) 1 := ⟨xG_mem 1222 (by decide +kernel) (by decide +kernel), xG_mem 1223 (by decide +kernel) (by decide +kernel), xG_mem 65 (by decide +kernel) (by decide +kernel), xG_mem 1224 (by decide +kernel) (by decide +kernel), by decide, by decide, by decide +kernel⟩
theorem ml_Law_122 : Cond.methodLink R_Law 122 y_Mod_due ∈ xG := xG_mem 1221 (by decide +kernel) (by decide +kernel)
def o_12 (xs : Nat → Int32) (L : Nat) (x4 : Int32) (σ : xS) (K : xS → Prop) : Prop :=
  (vp_in (x4 + 1) L ∧ p_Law_due (xs (x4 + 1).toNatClampNeg) σ (fun r2 σ3 => (vp_in (x4 + 1) L ∧ p_Mod_due (xs (x4 + 1).toNatClampNeg) σ3 (fun r6 σ5 => p_Mod_thrown σ5 (fun r8 σ7 => ((r8 = r2 → ((¬ r2 = 0 → K σ7) ∧ (r2 = 0 → (vp_in 0 1 ∧ (((lg_cmp (xL (σ7 30) (0 : Int32).toNatClampNeg) r6.toInt64) = 0 → K σ7) ∧ (¬ (lg_cmp (xL (σ7 30) (0 : Int32).toNatClampNeg) r6.toInt64) = 0 → False)))))) ∧ (¬ r8 = r2 → False)))))))
set_option maxRecDepth 100000 in
set_option maxHeartbeats 4000000 in
theorem lc_12 {p : Program} {l : Launch} {e : Env} {s : State} {m : MethodId} {args : Array Value} {below : List Frame} {meth : Method} {c : Code} {V : xV} (C : xC p s m args c cd_Law_law 7 R_Law V) (hfl : l.flags = flags0) (hX : xX s) (hV : ∀ c, c < 61 → s.heap.size ≤ V.2.2 c) {b L : Nat} {xs : Nat → Int32} (hXs : va_X b L xs s s.heap) (hbl : b < s.heap.size) (hbA : ¬ xA V s.heap.size b) {cells slots : Nat} (hc : cells + 1 ≤ 601024) (hs : slots + 6 ≤ 7293034) {Z : State → Prop} {x4 : Int32} {K : xS → Prop} (hK : ∀ (σ : xS) (H : Heap) (locs : List Loc) (ls : Array Slot), K σ → xI V s.heap σ H locs → lv_has ls 7 [(0, .ref b), (1, .ref (V.2.2 0)), (2, .ref (V.2.2 31)), (3, .ref (V.2.2 30)), (4, .int x4)] → W p l e room_1 s m args below meth c H locs (cells + 1) (slots + 6) Z (F0 m 1235 ls [])) {σ : xS} {H : Heap} {locs : List Loc} {ls : Array Slot} (h : o_12 xs L x4 σ K) (hI : xI V s.heap σ H locs) (hl : lv_has ls 7 [(0, .ref b), (1, .ref (V.2.2 0)), (2, .ref (V.2.2 31)), (3, .ref (V.2.2 30)), (4, .int x4)]) : W p l e room_1 s m args below meth c H locs cells slots Z (F0 m 832 ls []) := by
  have hx := C.1
  have hb := C.2.1
  unfold o_12 at h
  refine lv_aload_n hx hb d_Law_law_832 rfl (lv_at hl 1 rfl) ?_
  refine lv_aload_n hx hb d_Law_law_833 rfl (lv_at hl 0 rfl) ?_
  refine lv_iload hx hb d_Law_law_834 (lv_at hl 4 rfl) ?_
  refine lv_iconst (v := 1) hx hb d_Law_law_836 (by decide) ?_
  refine lv_iadd hx hb d_Law_law_837 ?_
  obtain ⟨i1, h⟩ := h
  refine va_sld hx hb hXs hbl hbA hI.2.2 i1 d_Law_law_838 ?_
  refine lv_aload_n hx hb d_Law_law_839 rfl (lv_at hl 3 rfl) ?_
  refine x_callh C hI hX hV hl.1 (As := [.ref (V.2.2 0), .int (xs (x4 + 1).toNatClampNeg), .ref (V.2.2 30)]) (rest := []) (c_Law_due hfl h) yh_Law_due ml_Law_120 rfl rfl ⟨Nat.le_of_ble_eq_true rfl, Nat.le_of_ble_eq_true rfl⟩ rfl rfl (Nat.le_of_ble_eq_true rfl) d_Law_law_840 ⟨hc, hs⟩ (fun r2 σ3 H locs h hI => ?_)
  refine lv_istore (lv' := [(5, .int r2), (0, .ref b), (1, .ref (V.2.2 0)), (2, .ref (V.2.2 31)), (3, .ref (V.2.2 30)), (4, .int x4)]) hx hb d_Law_law_843 hl (by decide) rfl (fun ls hl => ?_)
  refine lv_aload_n hx hb d_Law_law_845 rfl (lv_at hl 3 rfl) ?_
  refine lv_aload_n hx hb d_Law_law_846 rfl (lv_at hl 1 rfl) ?_
  refine lv_iload hx hb d_Law_law_847 (lv_at hl 5 rfl) ?_
  refine lv_iconst (v := 1) hx hb d_Law_law_849 (by decide) ?_
  refine lv_iadd hx hb d_Law_law_850 ?_
  obtain ⟨i4, h⟩ := h
  refine va_sld hx hb hXs hbl hbA hI.2.2 i4 d_Law_law_851 ?_
  refine x_calli C hI hl.1 (d := 31) (As := [.int (xs (x4 + 1).toNatClampNeg)]) (rest := []) (by decide) (c_Mod_due h) (xE31 V _) rfl yw_Mod_due ml_Law_122 rfl rfl ⟨Nat.le_of_ble_eq_true rfl, Nat.le_of_ble_eq_true rfl⟩ rfl rfl (Nat.le_of_ble_eq_true rfl) d_Law_law_852 ⟨hc, hs⟩ (fun r6 σ5 H locs h hI => ?_)
  refine lv_istore (lv' := [(6, .int r6), (5, .int r2), (0, .ref b), (1, .ref (V.2.2 0)), (2, .ref (V.2.2 31)), (3, .ref (V.2.2 30)), (4, .int x4)]) hx hb d_Law_law_855 hl (by decide) rfl (fun ls hl => ?_)
  refine lv_aload_n hx hb d_Law_law_857 rfl (lv_at hl 4 rfl) ?_
  refine x_calli C hI hl.1 (d := 31) (As := []) (rest := []) (by decide) (c_Mod_thrown h) (xE31 V _) rfl yw_Mod_thrown ml_Law_85 rfl rfl ⟨Nat.le_of_ble_eq_true rfl, Nat.le_of_ble_eq_true rfl⟩ rfl rfl (Nat.le_of_ble_eq_true rfl) d_Law_law_858 ⟨hc, hs⟩ (fun r8 σ7 H locs h hI => ?_)
  refine lv_iload hx hb d_Law_law_861 (lv_at hl 1 rfl) ?_
  refine lv_icmp_eq (tgt := 868) hx hb d_Law_law_863 (by decide) (fun c9 => ?_) (fun c9 => ?_)
  · have h := h.1 c9
    refine lv_iload hx hb d_Law_law_868 (lv_at hl 1 rfl) ?_
    refine lv_if_ne (tgt := 885) hx hb d_Law_law_870 (by decide) (fun c10 => ?_) (fun c10 => ?_)
    · have h := h.1 c10
      refine lv_goto (tgt := 1235) hx hb d_Law_law_885 (by decide) ?_
      exact hK _ _ _ _ h hI (lv_sub hl [2, 3, 4, 5, 6] rfl)
    · have h := h.2 c10
      refine lv_aload_n hx hb d_Law_law_873 rfl (lv_at hl 5 rfl) ?_
      refine lv_iconst (v := 0) hx hb d_Law_law_874 (by decide) ?_
      obtain ⟨i11, h⟩ := h
      refine x_lald C hI (d := 30) (by decide) (xE30 V) i11 d_Law_law_875 ?_
      refine lv_iload hx hb d_Law_law_876 (lv_at hl 0 rfl) ?_
      refine lv_i2l (v := r6.toInt64) hx hb d_Law_law_878 rfl ?_
      refine W.lcmp hx hb d_Law_law_879 ?_
      refine lv_if_eq (tgt := 885) hx hb d_Law_law_880 (by decide) (fun c12 => ?_) (fun c12 => ?_)
      · have h := h.1 c12
        refine lv_goto (tgt := 1235) hx hb d_Law_law_885 (by decide) ?_
        exact hK _ _ _ _ h hI (lv_sub hl [2, 3, 4, 5, 6] rfl)
      · have h := h.2 c12
        exact False.elim h
  · have h := h.2 c9
    exact False.elim h
theorem yh_Law_alike : xYh y_Law_alike cd_Law_alike 5 (some .int) [(0, 17, 20, 19)] 4 := ⟨xG_mem 918 (by decide +kernel) (by decide +kernel), xG_mem 53 (by decide +kernel) (by decide +kernel), xG_mem 919 (by decide +kernel) (by decide +kernel), by decide, by decide, by decide +kernel⟩
theorem ml_Law_123 : Cond.methodLink R_Law 123 y_Law_alike ∈ xG := xG_mem 917 (by decide +kernel) (by decide +kernel)
theorem yw_Mod_alike : xY y_Mod_alike cd_Mod_alike 7 (some .boolean) 2 := ⟨xG_mem 1226 (by decide +kernel) (by decide +kernel), xG_mem 1227 (by decide +kernel) (by decide +kernel), xG_mem 65 (by decide +kernel) (by decide +kernel), xG_mem 1228 (by decide +kernel) (by decide +kernel), by decide, by decide, by decide +kernel⟩
theorem ml_Law_125 : Cond.methodLink R_Law 125 y_Mod_alike ∈ xG := xG_mem 1225 (by decide +kernel) (by decide +kernel)
def o_13 (xs : Nat → Int32) (L : Nat) (x4 : Int32) (σ : xS) (K : xS → Prop) : Prop :=
  (vp_in (x4 + 1) L ∧ (vp_in (x4 + 2) L ∧ p_Law_alike (xs (x4 + 1).toNatClampNeg) (xs (x4 + 2).toNatClampNeg) σ (fun r3 σ4 => (vp_in (x4 + 1) L ∧ (vp_in (x4 + 2) L ∧ p_Mod_alike (xs (x4 + 1).toNatClampNeg) (xs (x4 + 2).toNatClampNeg) σ4 (fun r8 σ7 => p_Mod_thrown σ7 (fun r10 σ9 => ((r10 = r3 → ((¬ r3 = 0 → K σ9) ∧ (r3 = 0 → (vp_in 0 1 ∧ ((r8 = 0 → (((lg_cmp (xL (σ9 30) (0 : Int32).toNatClampNeg) 0) = 0 → K σ9) ∧ (¬ (lg_cmp (xL (σ9 30) (0 : Int32).toNatClampNeg) 0) = 0 → False))) ∧ (¬ r8 = 0 → (((lg_cmp (xL (σ9 30) (0 : Int32).toNatClampNeg) 1) = 0 → K σ9) ∧ (¬ (lg_cmp (xL (σ9 30) (0 : Int32).toNatClampNeg) 1) = 0 → False)))))))) ∧ (¬ r10 = r3 → False)))))))))
set_option maxRecDepth 100000 in
set_option maxHeartbeats 4000000 in
theorem lc_13 {p : Program} {l : Launch} {e : Env} {s : State} {m : MethodId} {args : Array Value} {below : List Frame} {meth : Method} {c : Code} {V : xV} (C : xC p s m args c cd_Law_law 7 R_Law V) (hfl : l.flags = flags0) (hX : xX s) (hV : ∀ c, c < 61 → s.heap.size ≤ V.2.2 c) {b L : Nat} {xs : Nat → Int32} (hXs : va_X b L xs s s.heap) (hbl : b < s.heap.size) (hbA : ¬ xA V s.heap.size b) {cells slots : Nat} (hc : cells + 1 ≤ 601024) (hs : slots + 6 ≤ 7293034) {Z : State → Prop} {x4 : Int32} {K : xS → Prop} (hK : ∀ (σ : xS) (H : Heap) (locs : List Loc) (ls : Array Slot), K σ → xI V s.heap σ H locs → lv_has ls 7 [(0, .ref b), (1, .ref (V.2.2 0)), (2, .ref (V.2.2 31)), (3, .ref (V.2.2 30)), (4, .int x4)] → W p l e room_1 s m args below meth c H locs (cells + 1) (slots + 6) Z (F0 m 1235 ls [])) {σ : xS} {H : Heap} {locs : List Loc} {ls : Array Slot} (h : o_13 xs L x4 σ K) (hI : xI V s.heap σ H locs) (hl : lv_has ls 7 [(0, .ref b), (1, .ref (V.2.2 0)), (2, .ref (V.2.2 31)), (3, .ref (V.2.2 30)), (4, .int x4)]) : W p l e room_1 s m args below meth c H locs cells slots Z (F0 m 888 ls []) := by
  have hx := C.1
  have hb := C.2.1
  unfold o_13 at h
  refine lv_aload_n hx hb d_Law_law_888 rfl (lv_at hl 1 rfl) ?_
  refine lv_aload_n hx hb d_Law_law_889 rfl (lv_at hl 0 rfl) ?_
  refine lv_iload hx hb d_Law_law_890 (lv_at hl 4 rfl) ?_
  refine lv_iconst (v := 1) hx hb d_Law_law_892 (by decide) ?_
  refine lv_iadd hx hb d_Law_law_893 ?_
  obtain ⟨i1, h⟩ := h
  refine va_sld hx hb hXs hbl hbA hI.2.2 i1 d_Law_law_894 ?_
  refine lv_aload_n hx hb d_Law_law_895 rfl (lv_at hl 0 rfl) ?_
  refine lv_iload hx hb d_Law_law_896 (lv_at hl 4 rfl) ?_
  refine lv_iconst (v := 2) hx hb d_Law_law_898 (by decide) ?_
  refine lv_iadd hx hb d_Law_law_899 ?_
  obtain ⟨i2, h⟩ := h
  refine va_sld hx hb hXs hbl hbA hI.2.2 i2 d_Law_law_900 ?_
  refine lv_aload_n hx hb d_Law_law_901 rfl (lv_at hl 3 rfl) ?_
  refine x_callh C hI hX hV hl.1 (As := [.ref (V.2.2 0), .int (xs (x4 + 1).toNatClampNeg), .int (xs (x4 + 2).toNatClampNeg), .ref (V.2.2 30)]) (rest := []) (c_Law_alike hfl h) yh_Law_alike ml_Law_123 rfl rfl ⟨Nat.le_of_ble_eq_true rfl, Nat.le_of_ble_eq_true rfl⟩ rfl rfl (Nat.le_of_ble_eq_true rfl) d_Law_law_902 ⟨hc, hs⟩ (fun r3 σ4 H locs h hI => ?_)
  refine lv_istore (lv' := [(5, .int r3), (0, .ref b), (1, .ref (V.2.2 0)), (2, .ref (V.2.2 31)), (3, .ref (V.2.2 30)), (4, .int x4)]) hx hb d_Law_law_905 hl (by decide) rfl (fun ls hl => ?_)
  refine lv_aload_n hx hb d_Law_law_907 rfl (lv_at hl 3 rfl) ?_
  refine lv_aload_n hx hb d_Law_law_908 rfl (lv_at hl 1 rfl) ?_
  refine lv_iload hx hb d_Law_law_909 (lv_at hl 5 rfl) ?_
  refine lv_iconst (v := 1) hx hb d_Law_law_911 (by decide) ?_
  refine lv_iadd hx hb d_Law_law_912 ?_
  obtain ⟨i5, h⟩ := h
  refine va_sld hx hb hXs hbl hbA hI.2.2 i5 d_Law_law_913 ?_
  refine lv_aload_n hx hb d_Law_law_914 rfl (lv_at hl 1 rfl) ?_
  refine lv_iload hx hb d_Law_law_915 (lv_at hl 5 rfl) ?_
  refine lv_iconst (v := 2) hx hb d_Law_law_917 (by decide) ?_
  refine lv_iadd hx hb d_Law_law_918 ?_
  obtain ⟨i6, h⟩ := h
  refine va_sld hx hb hXs hbl hbA hI.2.2 i6 d_Law_law_919 ?_
  refine x_calli C hI hl.1 (d := 31) (As := [.int (xs (x4 + 1).toNatClampNeg), .int (xs (x4 + 2).toNatClampNeg)]) (rest := []) (by decide) (c_Mod_alike h) (xE31 V _) rfl yw_Mod_alike ml_Law_125 rfl rfl ⟨Nat.le_of_ble_eq_true rfl, Nat.le_of_ble_eq_true rfl⟩ rfl rfl (Nat.le_of_ble_eq_true rfl) d_Law_law_920 ⟨hc, hs⟩ (fun r8 σ7 H locs h hI => ?_)
  refine lv_istore (lv' := [(6, .int r8), (5, .int r3), (0, .ref b), (1, .ref (V.2.2 0)), (2, .ref (V.2.2 31)), (3, .ref (V.2.2 30)), (4, .int x4)]) hx hb d_Law_law_923 hl (by decide) rfl (fun ls hl => ?_)
  refine lv_aload_n hx hb d_Law_law_925 rfl (lv_at hl 4 rfl) ?_
  refine x_calli C hI hl.1 (d := 31) (As := []) (rest := []) (by decide) (c_Mod_thrown h) (xE31 V _) rfl yw_Mod_thrown ml_Law_85 rfl rfl ⟨Nat.le_of_ble_eq_true rfl, Nat.le_of_ble_eq_true rfl⟩ rfl rfl (Nat.le_of_ble_eq_true rfl) d_Law_law_926 ⟨hc, hs⟩ (fun r10 σ9 H locs h hI => ?_)
  refine lv_iload hx hb d_Law_law_929 (lv_at hl 1 rfl) ?_
  refine lv_icmp_eq (tgt := 936) hx hb d_Law_law_931 (by decide) (fun c11 => ?_) (fun c11 => ?_)
  · have h := h.1 c11
    refine lv_iload hx hb d_Law_law_936 (lv_at hl 1 rfl) ?_
    refine lv_if_ne (tgt := 960) hx hb d_Law_law_938 (by decide) (fun c12 => ?_) (fun c12 => ?_)
    · have h := h.1 c12
      refine lv_goto (tgt := 1235) hx hb d_Law_law_960 (by decide) ?_
      exact hK _ _ _ _ h hI (lv_sub hl [2, 3, 4, 5, 6] rfl)
    · have h := h.2 c12
      refine lv_aload_n hx hb d_Law_law_941 rfl (lv_at hl 5 rfl) ?_
      refine lv_iconst (v := 0) hx hb d_Law_law_942 (by decide) ?_
      obtain ⟨i13, h⟩ := h
      refine x_lald C hI (d := 30) (by decide) (xE30 V) i13 d_Law_law_943 ?_
      refine lv_iload hx hb d_Law_law_944 (lv_at hl 0 rfl) ?_
      refine lv_if_eq (tgt := 953) hx hb d_Law_law_946 (by decide) (fun c14 => ?_) (fun c14 => ?_)
      · have h := h.1 c14
        refine lv_lconst (v := 0) hx hb d_Law_law_953 (by decide) ?_
        refine W.lcmp hx hb d_Law_law_954 ?_
        refine lv_if_eq (tgt := 960) hx hb d_Law_law_955 (by decide) (fun c15 => ?_) (fun c15 => ?_)
        · have h := h.1 c15
          refine lv_goto (tgt := 1235) hx hb d_Law_law_960 (by decide) ?_
          exact hK _ _ _ _ h hI (lv_sub hl [2, 3, 4, 5, 6] rfl)
        · have h := h.2 c15
          exact False.elim h
      · have h := h.2 c14
        refine lv_lconst (v := 1) hx hb d_Law_law_949 (by decide) ?_
        refine lv_goto (tgt := 954) hx hb d_Law_law_950 (by decide) ?_
        refine W.lcmp hx hb d_Law_law_954 ?_
        refine lv_if_eq (tgt := 960) hx hb d_Law_law_955 (by decide) (fun c16 => ?_) (fun c16 => ?_)
        · have h := h.1 c16
          refine lv_goto (tgt := 1235) hx hb d_Law_law_960 (by decide) ?_
          exact hK _ _ _ _ h hI (lv_sub hl [2, 3, 4, 5, 6] rfl)
        · have h := h.2 c16
          exact False.elim h
  · have h := h.2 c11
    exact False.elim h
theorem yh_Law_root : xYh y_Law_root cd_Law_root 5 (some .int) [(0, 10, 13, 19)] 4 := ⟨xG_mem 953 (by decide +kernel) (by decide +kernel), xG_mem 53 (by decide +kernel) (by decide +kernel), xG_mem 954 (by decide +kernel) (by decide +kernel), by decide, by decide, by decide +kernel⟩
theorem ml_Law_126 : Cond.methodLink R_Law 126 y_Law_root ∈ xG := xG_mem 952 (by decide +kernel) (by decide +kernel)
theorem yw_Mod_root : xY y_Mod_root cd_Mod_root 5 (some .int) 2 := ⟨xG_mem 1234 (by decide +kernel) (by decide +kernel), xG_mem 1235 (by decide +kernel) (by decide +kernel), xG_mem 65 (by decide +kernel) (by decide +kernel), xG_mem 1236 (by decide +kernel) (by decide +kernel), by decide, by decide, by decide +kernel⟩
theorem ml_Law_128 : Cond.methodLink R_Law 128 y_Mod_root ∈ xG := xG_mem 1233 (by decide +kernel) (by decide +kernel)
def o_14 (xs : Nat → Int32) (L : Nat) (x4 : Int32) (σ : xS) (K : xS → Prop) : Prop :=
  (vp_in (x4 + 1) L ∧ (vp_in (x4 + 2) L ∧ p_Law_root (xs (x4 + 1).toNatClampNeg) (xs (x4 + 2).toNatClampNeg) σ (fun r3 σ4 => (vp_in (x4 + 1) L ∧ (vp_in (x4 + 2) L ∧ p_Mod_root (xs (x4 + 1).toNatClampNeg) (xs (x4 + 2).toNatClampNeg) σ4 (fun r8 σ7 => p_Mod_thrown σ7 (fun r10 σ9 => ((r10 = r3 → ((¬ r3 = 0 → K σ9) ∧ (r3 = 0 → (vp_in 0 1 ∧ (((lg_cmp (xL (σ9 30) (0 : Int32).toNatClampNeg) r8.toInt64) = 0 → K σ9) ∧ (¬ (lg_cmp (xL (σ9 30) (0 : Int32).toNatClampNeg) r8.toInt64) = 0 → False)))))) ∧ (¬ r10 = r3 → False)))))))))
set_option maxRecDepth 100000 in
set_option maxHeartbeats 4000000 in
theorem lc_14 {p : Program} {l : Launch} {e : Env} {s : State} {m : MethodId} {args : Array Value} {below : List Frame} {meth : Method} {c : Code} {V : xV} (C : xC p s m args c cd_Law_law 7 R_Law V) (hfl : l.flags = flags0) (hX : xX s) (hV : ∀ c, c < 61 → s.heap.size ≤ V.2.2 c) {b L : Nat} {xs : Nat → Int32} (hXs : va_X b L xs s s.heap) (hbl : b < s.heap.size) (hbA : ¬ xA V s.heap.size b) {cells slots : Nat} (hc : cells + 1 ≤ 601024) (hs : slots + 6 ≤ 7293034) {Z : State → Prop} {x4 : Int32} {K : xS → Prop} (hK : ∀ (σ : xS) (H : Heap) (locs : List Loc) (ls : Array Slot), K σ → xI V s.heap σ H locs → lv_has ls 7 [(0, .ref b), (1, .ref (V.2.2 0)), (2, .ref (V.2.2 31)), (3, .ref (V.2.2 30)), (4, .int x4)] → W p l e room_1 s m args below meth c H locs (cells + 1) (slots + 6) Z (F0 m 1235 ls [])) {σ : xS} {H : Heap} {locs : List Loc} {ls : Array Slot} (h : o_14 xs L x4 σ K) (hI : xI V s.heap σ H locs) (hl : lv_has ls 7 [(0, .ref b), (1, .ref (V.2.2 0)), (2, .ref (V.2.2 31)), (3, .ref (V.2.2 30)), (4, .int x4)]) : W p l e room_1 s m args below meth c H locs cells slots Z (F0 m 963 ls []) := by
  have hx := C.1
  have hb := C.2.1
  unfold o_14 at h
  refine lv_aload_n hx hb d_Law_law_963 rfl (lv_at hl 1 rfl) ?_
  refine lv_aload_n hx hb d_Law_law_964 rfl (lv_at hl 0 rfl) ?_
  refine lv_iload hx hb d_Law_law_965 (lv_at hl 4 rfl) ?_
  refine lv_iconst (v := 1) hx hb d_Law_law_967 (by decide) ?_
  refine lv_iadd hx hb d_Law_law_968 ?_
  obtain ⟨i1, h⟩ := h
  refine va_sld hx hb hXs hbl hbA hI.2.2 i1 d_Law_law_969 ?_
  refine lv_aload_n hx hb d_Law_law_970 rfl (lv_at hl 0 rfl) ?_
  refine lv_iload hx hb d_Law_law_971 (lv_at hl 4 rfl) ?_
  refine lv_iconst (v := 2) hx hb d_Law_law_973 (by decide) ?_
  refine lv_iadd hx hb d_Law_law_974 ?_
  obtain ⟨i2, h⟩ := h
  refine va_sld hx hb hXs hbl hbA hI.2.2 i2 d_Law_law_975 ?_
  refine lv_aload_n hx hb d_Law_law_976 rfl (lv_at hl 3 rfl) ?_
  refine x_callh C hI hX hV hl.1 (As := [.ref (V.2.2 0), .int (xs (x4 + 1).toNatClampNeg), .int (xs (x4 + 2).toNatClampNeg), .ref (V.2.2 30)]) (rest := []) (c_Law_root hfl h) yh_Law_root ml_Law_126 rfl rfl ⟨Nat.le_of_ble_eq_true rfl, Nat.le_of_ble_eq_true rfl⟩ rfl rfl (Nat.le_of_ble_eq_true rfl) d_Law_law_977 ⟨hc, hs⟩ (fun r3 σ4 H locs h hI => ?_)
  refine lv_istore (lv' := [(5, .int r3), (0, .ref b), (1, .ref (V.2.2 0)), (2, .ref (V.2.2 31)), (3, .ref (V.2.2 30)), (4, .int x4)]) hx hb d_Law_law_980 hl (by decide) rfl (fun ls hl => ?_)
  refine lv_aload_n hx hb d_Law_law_982 rfl (lv_at hl 3 rfl) ?_
  refine lv_aload_n hx hb d_Law_law_983 rfl (lv_at hl 1 rfl) ?_
  refine lv_iload hx hb d_Law_law_984 (lv_at hl 5 rfl) ?_
  refine lv_iconst (v := 1) hx hb d_Law_law_986 (by decide) ?_
  refine lv_iadd hx hb d_Law_law_987 ?_
  obtain ⟨i5, h⟩ := h
  refine va_sld hx hb hXs hbl hbA hI.2.2 i5 d_Law_law_988 ?_
  refine lv_aload_n hx hb d_Law_law_989 rfl (lv_at hl 1 rfl) ?_
  refine lv_iload hx hb d_Law_law_990 (lv_at hl 5 rfl) ?_
  refine lv_iconst (v := 2) hx hb d_Law_law_992 (by decide) ?_
  refine lv_iadd hx hb d_Law_law_993 ?_
  obtain ⟨i6, h⟩ := h
  refine va_sld hx hb hXs hbl hbA hI.2.2 i6 d_Law_law_994 ?_
  refine x_calli C hI hl.1 (d := 31) (As := [.int (xs (x4 + 1).toNatClampNeg), .int (xs (x4 + 2).toNatClampNeg)]) (rest := []) (by decide) (c_Mod_root h) (xE31 V _) rfl yw_Mod_root ml_Law_128 rfl rfl ⟨Nat.le_of_ble_eq_true rfl, Nat.le_of_ble_eq_true rfl⟩ rfl rfl (Nat.le_of_ble_eq_true rfl) d_Law_law_995 ⟨hc, hs⟩ (fun r8 σ7 H locs h hI => ?_)
  refine lv_istore (lv' := [(6, .int r8), (5, .int r3), (0, .ref b), (1, .ref (V.2.2 0)), (2, .ref (V.2.2 31)), (3, .ref (V.2.2 30)), (4, .int x4)]) hx hb d_Law_law_998 hl (by decide) rfl (fun ls hl => ?_)
  refine lv_aload_n hx hb d_Law_law_1000 rfl (lv_at hl 4 rfl) ?_
  refine x_calli C hI hl.1 (d := 31) (As := []) (rest := []) (by decide) (c_Mod_thrown h) (xE31 V _) rfl yw_Mod_thrown ml_Law_85 rfl rfl ⟨Nat.le_of_ble_eq_true rfl, Nat.le_of_ble_eq_true rfl⟩ rfl rfl (Nat.le_of_ble_eq_true rfl) d_Law_law_1001 ⟨hc, hs⟩ (fun r10 σ9 H locs h hI => ?_)
  refine lv_iload hx hb d_Law_law_1004 (lv_at hl 1 rfl) ?_
  refine lv_icmp_eq (tgt := 1011) hx hb d_Law_law_1006 (by decide) (fun c11 => ?_) (fun c11 => ?_)
  · have h := h.1 c11
    refine lv_iload hx hb d_Law_law_1011 (lv_at hl 1 rfl) ?_
    refine lv_if_ne (tgt := 1028) hx hb d_Law_law_1013 (by decide) (fun c12 => ?_) (fun c12 => ?_)
    · have h := h.1 c12
      refine lv_goto (tgt := 1235) hx hb d_Law_law_1028 (by decide) ?_
      exact hK _ _ _ _ h hI (lv_sub hl [2, 3, 4, 5, 6] rfl)
    · have h := h.2 c12
      refine lv_aload_n hx hb d_Law_law_1016 rfl (lv_at hl 5 rfl) ?_
      refine lv_iconst (v := 0) hx hb d_Law_law_1017 (by decide) ?_
      obtain ⟨i13, h⟩ := h
      refine x_lald C hI (d := 30) (by decide) (xE30 V) i13 d_Law_law_1018 ?_
      refine lv_iload hx hb d_Law_law_1019 (lv_at hl 0 rfl) ?_
      refine lv_i2l (v := r8.toInt64) hx hb d_Law_law_1021 rfl ?_
      refine W.lcmp hx hb d_Law_law_1022 ?_
      refine lv_if_eq (tgt := 1028) hx hb d_Law_law_1023 (by decide) (fun c14 => ?_) (fun c14 => ?_)
      · have h := h.1 c14
        refine lv_goto (tgt := 1235) hx hb d_Law_law_1028 (by decide) ?_
        exact hK _ _ _ _ h hI (lv_sub hl [2, 3, 4, 5, 6] rfl)
      · have h := h.2 c14
        exact False.elim h
  · have h := h.2 c11
    exact False.elim h
theorem yh_Law_field : xYh y_Law_field cd_Law_field 6 (some .int) [(0, 12, 15, 19)] 5 := ⟨xG_mem 967 (by decide +kernel) (by decide +kernel), xG_mem 53 (by decide +kernel) (by decide +kernel), xG_mem 968 (by decide +kernel) (by decide +kernel), by decide, by decide, by decide +kernel⟩
theorem ml_Law_129 : Cond.methodLink R_Law 129 y_Law_field ∈ xG := xG_mem 966 (by decide +kernel) (by decide +kernel)
theorem yw_Mod_field : xY y_Mod_field cd_Mod_field 7 (some .int) 3 := ⟨xG_mem 1238 (by decide +kernel) (by decide +kernel), xG_mem 1239 (by decide +kernel) (by decide +kernel), xG_mem 65 (by decide +kernel) (by decide +kernel), xG_mem 1240 (by decide +kernel) (by decide +kernel), by decide, by decide, by decide +kernel⟩
theorem ml_Law_131 : Cond.methodLink R_Law 131 y_Mod_field ∈ xG := xG_mem 1237 (by decide +kernel) (by decide +kernel)
def o_15 (xs : Nat → Int32) (L : Nat) (x4 : Int32) (σ : xS) (K : xS → Prop) : Prop :=
  (vp_in (x4 + 1) L ∧ (vp_in (x4 + 2) L ∧ (vp_in (x4 + 3) L ∧ p_Law_field (xs (x4 + 1).toNatClampNeg) (xs (x4 + 2).toNatClampNeg) (xs (x4 + 3).toNatClampNeg) σ (fun r4 σ5 => (vp_in (x4 + 1) L ∧ (vp_in (x4 + 2) L ∧ (vp_in (x4 + 3) L ∧ p_Mod_field (xs (x4 + 1).toNatClampNeg) (xs (x4 + 2).toNatClampNeg) (xs (x4 + 3).toNatClampNeg) σ5 (fun r10 σ9 => p_Mod_thrown σ9 (fun r12 σ11 => ((r12 = r4 → ((¬ r4 = 0 → K σ11) ∧ (r4 = 0 → (vp_in 0 1 ∧ (((lg_cmp (xL (σ11 30) (0 : Int32).toNatClampNeg) r10.toInt64) = 0 → K σ11) ∧ (¬ (lg_cmp (xL (σ11 30) (0 : Int32).toNatClampNeg) r10.toInt64) = 0 → False)))))) ∧ (¬ r12 = r4 → False)))))))))))
set_option maxRecDepth 100000 in
set_option maxHeartbeats 4000000 in
theorem lc_15 {p : Program} {l : Launch} {e : Env} {s : State} {m : MethodId} {args : Array Value} {below : List Frame} {meth : Method} {c : Code} {V : xV} (C : xC p s m args c cd_Law_law 7 R_Law V) (hfl : l.flags = flags0) (hX : xX s) (hV : ∀ c, c < 61 → s.heap.size ≤ V.2.2 c) {b L : Nat} {xs : Nat → Int32} (hXs : va_X b L xs s s.heap) (hbl : b < s.heap.size) (hbA : ¬ xA V s.heap.size b) {cells slots : Nat} (hc : cells + 1 ≤ 601024) (hs : slots + 6 ≤ 7293034) {Z : State → Prop} {x4 : Int32} {K : xS → Prop} (hK : ∀ (σ : xS) (H : Heap) (locs : List Loc) (ls : Array Slot), K σ → xI V s.heap σ H locs → lv_has ls 7 [(0, .ref b), (1, .ref (V.2.2 0)), (2, .ref (V.2.2 31)), (3, .ref (V.2.2 30)), (4, .int x4)] → W p l e room_1 s m args below meth c H locs (cells + 1) (slots + 6) Z (F0 m 1235 ls [])) {σ : xS} {H : Heap} {locs : List Loc} {ls : Array Slot} (h : o_15 xs L x4 σ K) (hI : xI V s.heap σ H locs) (hl : lv_has ls 7 [(0, .ref b), (1, .ref (V.2.2 0)), (2, .ref (V.2.2 31)), (3, .ref (V.2.2 30)), (4, .int x4)]) : W p l e room_1 s m args below meth c H locs cells slots Z (F0 m 1031 ls []) := by
  have hx := C.1
  have hb := C.2.1
  unfold o_15 at h
  refine lv_aload_n hx hb d_Law_law_1031 rfl (lv_at hl 1 rfl) ?_
  refine lv_aload_n hx hb d_Law_law_1032 rfl (lv_at hl 0 rfl) ?_
  refine lv_iload hx hb d_Law_law_1033 (lv_at hl 4 rfl) ?_
  refine lv_iconst (v := 1) hx hb d_Law_law_1035 (by decide) ?_
  refine lv_iadd hx hb d_Law_law_1036 ?_
  obtain ⟨i1, h⟩ := h
  refine va_sld hx hb hXs hbl hbA hI.2.2 i1 d_Law_law_1037 ?_
  refine lv_aload_n hx hb d_Law_law_1038 rfl (lv_at hl 0 rfl) ?_
  refine lv_iload hx hb d_Law_law_1039 (lv_at hl 4 rfl) ?_
  refine lv_iconst (v := 2) hx hb d_Law_law_1041 (by decide) ?_
  refine lv_iadd hx hb d_Law_law_1042 ?_
  obtain ⟨i2, h⟩ := h
  refine va_sld hx hb hXs hbl hbA hI.2.2 i2 d_Law_law_1043 ?_
  refine lv_aload_n hx hb d_Law_law_1044 rfl (lv_at hl 0 rfl) ?_
  refine lv_iload hx hb d_Law_law_1045 (lv_at hl 4 rfl) ?_
  refine lv_iconst (v := 3) hx hb d_Law_law_1047 (by decide) ?_
  refine lv_iadd hx hb d_Law_law_1048 ?_
  obtain ⟨i3, h⟩ := h
  refine va_sld hx hb hXs hbl hbA hI.2.2 i3 d_Law_law_1049 ?_
  refine lv_aload_n hx hb d_Law_law_1050 rfl (lv_at hl 3 rfl) ?_
  refine x_callh C hI hX hV hl.1 (As := [.ref (V.2.2 0), .int (xs (x4 + 1).toNatClampNeg), .int (xs (x4 + 2).toNatClampNeg), .int (xs (x4 + 3).toNatClampNeg), .ref (V.2.2 30)]) (rest := []) (c_Law_field hfl h) yh_Law_field ml_Law_129 rfl rfl ⟨Nat.le_of_ble_eq_true rfl, Nat.le_of_ble_eq_true rfl⟩ rfl rfl (Nat.le_of_ble_eq_true rfl) d_Law_law_1051 ⟨hc, hs⟩ (fun r4 σ5 H locs h hI => ?_)
  refine lv_istore (lv' := [(5, .int r4), (0, .ref b), (1, .ref (V.2.2 0)), (2, .ref (V.2.2 31)), (3, .ref (V.2.2 30)), (4, .int x4)]) hx hb d_Law_law_1054 hl (by decide) rfl (fun ls hl => ?_)
  refine lv_aload_n hx hb d_Law_law_1056 rfl (lv_at hl 3 rfl) ?_
  refine lv_aload_n hx hb d_Law_law_1057 rfl (lv_at hl 1 rfl) ?_
  refine lv_iload hx hb d_Law_law_1058 (lv_at hl 5 rfl) ?_
  refine lv_iconst (v := 1) hx hb d_Law_law_1060 (by decide) ?_
  refine lv_iadd hx hb d_Law_law_1061 ?_
  obtain ⟨i6, h⟩ := h
  refine va_sld hx hb hXs hbl hbA hI.2.2 i6 d_Law_law_1062 ?_
  refine lv_aload_n hx hb d_Law_law_1063 rfl (lv_at hl 1 rfl) ?_
  refine lv_iload hx hb d_Law_law_1064 (lv_at hl 5 rfl) ?_
  refine lv_iconst (v := 2) hx hb d_Law_law_1066 (by decide) ?_
  refine lv_iadd hx hb d_Law_law_1067 ?_
  obtain ⟨i7, h⟩ := h
  refine va_sld hx hb hXs hbl hbA hI.2.2 i7 d_Law_law_1068 ?_
  refine lv_aload_n hx hb d_Law_law_1069 rfl (lv_at hl 1 rfl) ?_
  refine lv_iload hx hb d_Law_law_1070 (lv_at hl 5 rfl) ?_
  refine lv_iconst (v := 3) hx hb d_Law_law_1072 (by decide) ?_
  refine lv_iadd hx hb d_Law_law_1073 ?_
  obtain ⟨i8, h⟩ := h
  refine va_sld hx hb hXs hbl hbA hI.2.2 i8 d_Law_law_1074 ?_
  refine x_calli C hI hl.1 (d := 31) (As := [.int (xs (x4 + 1).toNatClampNeg), .int (xs (x4 + 2).toNatClampNeg), .int (xs (x4 + 3).toNatClampNeg)]) (rest := []) (by decide) (c_Mod_field h) (xE31 V _) rfl yw_Mod_field ml_Law_131 rfl rfl ⟨Nat.le_of_ble_eq_true rfl, Nat.le_of_ble_eq_true rfl⟩ rfl rfl (Nat.le_of_ble_eq_true rfl) d_Law_law_1075 ⟨hc, hs⟩ (fun r10 σ9 H locs h hI => ?_)
  refine lv_istore (lv' := [(6, .int r10), (5, .int r4), (0, .ref b), (1, .ref (V.2.2 0)), (2, .ref (V.2.2 31)), (3, .ref (V.2.2 30)), (4, .int x4)]) hx hb d_Law_law_1078 hl (by decide) rfl (fun ls hl => ?_)
  refine lv_aload_n hx hb d_Law_law_1080 rfl (lv_at hl 4 rfl) ?_
  refine x_calli C hI hl.1 (d := 31) (As := []) (rest := []) (by decide) (c_Mod_thrown h) (xE31 V _) rfl yw_Mod_thrown ml_Law_85 rfl rfl ⟨Nat.le_of_ble_eq_true rfl, Nat.le_of_ble_eq_true rfl⟩ rfl rfl (Nat.le_of_ble_eq_true rfl) d_Law_law_1081 ⟨hc, hs⟩ (fun r12 σ11 H locs h hI => ?_)
  refine lv_iload hx hb d_Law_law_1084 (lv_at hl 1 rfl) ?_
  refine lv_icmp_eq (tgt := 1091) hx hb d_Law_law_1086 (by decide) (fun c13 => ?_) (fun c13 => ?_)
  · have h := h.1 c13
    refine lv_iload hx hb d_Law_law_1091 (lv_at hl 1 rfl) ?_
    refine lv_if_ne (tgt := 1108) hx hb d_Law_law_1093 (by decide) (fun c14 => ?_) (fun c14 => ?_)
    · have h := h.1 c14
      refine lv_goto (tgt := 1235) hx hb d_Law_law_1108 (by decide) ?_
      exact hK _ _ _ _ h hI (lv_sub hl [2, 3, 4, 5, 6] rfl)
    · have h := h.2 c14
      refine lv_aload_n hx hb d_Law_law_1096 rfl (lv_at hl 5 rfl) ?_
      refine lv_iconst (v := 0) hx hb d_Law_law_1097 (by decide) ?_
      obtain ⟨i15, h⟩ := h
      refine x_lald C hI (d := 30) (by decide) (xE30 V) i15 d_Law_law_1098 ?_
      refine lv_iload hx hb d_Law_law_1099 (lv_at hl 0 rfl) ?_
      refine lv_i2l (v := r10.toInt64) hx hb d_Law_law_1101 rfl ?_
      refine W.lcmp hx hb d_Law_law_1102 ?_
      refine lv_if_eq (tgt := 1108) hx hb d_Law_law_1103 (by decide) (fun c16 => ?_) (fun c16 => ?_)
      · have h := h.1 c16
        refine lv_goto (tgt := 1235) hx hb d_Law_law_1108 (by decide) ?_
        exact hK _ _ _ _ h hI (lv_sub hl [2, 3, 4, 5, 6] rfl)
      · have h := h.2 c16
        exact False.elim h
  · have h := h.2 c13
    exact False.elim h
theorem yw_Rp_region : xY y_Rp_region cd_Rp_region 4 (some .int) 2 := ⟨xG_mem 380 (by decide +kernel) (by decide +kernel), xG_mem 381 (by decide +kernel) (by decide +kernel), xG_mem 54 (by decide +kernel) (by decide +kernel), xG_mem 382 (by decide +kernel) (by decide +kernel), by decide, by decide, by decide +kernel⟩
theorem ml_Law_132 : Cond.methodLink R_Law 132 y_Rp_region ∈ xG := xG_mem 379 (by decide +kernel) (by decide +kernel)
theorem yw_Mod_region : xY y_Mod_region cd_Mod_region 6 (some .int) 2 := ⟨xG_mem 1242 (by decide +kernel) (by decide +kernel), xG_mem 1243 (by decide +kernel) (by decide +kernel), xG_mem 65 (by decide +kernel) (by decide +kernel), xG_mem 1244 (by decide +kernel) (by decide +kernel), by decide, by decide, by decide +kernel⟩
theorem ml_Law_135 : Cond.methodLink R_Law 135 y_Mod_region ∈ xG := xG_mem 1241 (by decide +kernel) (by decide +kernel)
def o_16 (xs : Nat → Int32) (L : Nat) (x4 : Int32) (σ : xS) (K : xS → Prop) : Prop :=
  (vp_in (x4 + 1) L ∧ (vp_in (x4 + 2) L ∧ p_Rp_region (xs (x4 + 1).toNatClampNeg) (xs (x4 + 2).toNatClampNeg) σ (fun r4 σ3 => (vp_in (x4 + 1) L ∧ (vp_in (x4 + 2) L ∧ p_Mod_region (xs (x4 + 1).toNatClampNeg) (xs (x4 + 2).toNatClampNeg) σ3 (fun r8 σ7 => ((r4 = r8 → K σ7) ∧ (¬ r4 = r8 → False))))))))
set_option maxRecDepth 100000 in
set_option maxHeartbeats 4000000 in
theorem lc_16 {p : Program} {l : Launch} {e : Env} {s : State} {m : MethodId} {args : Array Value} {below : List Frame} {meth : Method} {c : Code} {V : xV} (C : xC p s m args c cd_Law_law 7 R_Law V) (hfl : l.flags = flags0) (hX : xX s) (hV : ∀ c, c < 61 → s.heap.size ≤ V.2.2 c) {b L : Nat} {xs : Nat → Int32} (hXs : va_X b L xs s s.heap) (hbl : b < s.heap.size) (hbA : ¬ xA V s.heap.size b) {cells slots : Nat} (hc : cells + 1 ≤ 601024) (hs : slots + 6 ≤ 7293034) {Z : State → Prop} {x4 : Int32} {K : xS → Prop} (hK : ∀ (σ : xS) (H : Heap) (locs : List Loc) (ls : Array Slot), K σ → xI V s.heap σ H locs → lv_has ls 7 [(0, .ref b), (1, .ref (V.2.2 0)), (2, .ref (V.2.2 31)), (3, .ref (V.2.2 30)), (4, .int x4)] → W p l e room_1 s m args below meth c H locs (cells + 1) (slots + 6) Z (F0 m 1235 ls [])) {σ : xS} {H : Heap} {locs : List Loc} {ls : Array Slot} (h : o_16 xs L x4 σ K) (hI : xI V s.heap σ H locs) (hl : lv_has ls 7 [(0, .ref b), (1, .ref (V.2.2 0)), (2, .ref (V.2.2 31)), (3, .ref (V.2.2 30)), (4, .int x4)]) : W p l e room_1 s m args below meth c H locs cells slots Z (F0 m 1111 ls []) := by
  have hx := C.1
  have hb := C.2.1
  unfold o_16 at h
  refine lv_aload_n hx hb d_Law_law_1111 rfl (lv_at hl 1 rfl) ?_
  refine lv_aload_n hx hb d_Law_law_1112 rfl (lv_at hl 0 rfl) ?_
  refine lv_iload hx hb d_Law_law_1113 (lv_at hl 4 rfl) ?_
  refine lv_iconst (v := 1) hx hb d_Law_law_1115 (by decide) ?_
  refine lv_iadd hx hb d_Law_law_1116 ?_
  obtain ⟨i1, h⟩ := h
  refine va_sld hx hb hXs hbl hbA hI.2.2 i1 d_Law_law_1117 ?_
  refine lv_aload_n hx hb d_Law_law_1118 rfl (lv_at hl 0 rfl) ?_
  refine lv_iload hx hb d_Law_law_1119 (lv_at hl 4 rfl) ?_
  refine lv_iconst (v := 2) hx hb d_Law_law_1121 (by decide) ?_
  refine lv_iadd hx hb d_Law_law_1122 ?_
  obtain ⟨i2, h⟩ := h
  refine va_sld hx hb hXs hbl hbA hI.2.2 i2 d_Law_law_1123 ?_
  refine x_calli C hI hl.1 (d := 0) (As := [.int (xs (x4 + 1).toNatClampNeg), .int (xs (x4 + 2).toNatClampNeg)]) (rest := []) (by decide) (c_Rp_region h) (xE0 V _) rfl yw_Rp_region ml_Law_132 rfl rfl ⟨Nat.le_of_ble_eq_true rfl, Nat.le_of_ble_eq_true rfl⟩ rfl rfl (Nat.le_of_ble_eq_true rfl) d_Law_law_1124 ⟨Nat.le_of_succ_le hc, Nat.le_trans (Nat.le_add_right _ 6) hs⟩ (fun r4 σ3 H locs h hI => ?_)
  refine lv_aload_n hx hb d_Law_law_1127 rfl (lv_at hl 2 rfl) ?_
  refine lv_aload_n hx hb d_Law_law_1128 rfl (lv_at hl 0 rfl) ?_
  refine lv_iload hx hb d_Law_law_1129 (lv_at hl 4 rfl) ?_
  refine lv_iconst (v := 1) hx hb d_Law_law_1131 (by decide) ?_
  refine lv_iadd hx hb d_Law_law_1132 ?_
  obtain ⟨i5, h⟩ := h
  refine va_sld hx hb hXs hbl hbA hI.2.2 i5 d_Law_law_1133 ?_
  refine lv_aload_n hx hb d_Law_law_1134 rfl (lv_at hl 0 rfl) ?_
  refine lv_iload hx hb d_Law_law_1135 (lv_at hl 4 rfl) ?_
  refine lv_iconst (v := 2) hx hb d_Law_law_1137 (by decide) ?_
  refine lv_iadd hx hb d_Law_law_1138 ?_
  obtain ⟨i6, h⟩ := h
  refine va_sld hx hb hXs hbl hbA hI.2.2 i6 d_Law_law_1139 ?_
  refine x_calli C hI hl.1 (d := 31) (As := [.int (xs (x4 + 1).toNatClampNeg), .int (xs (x4 + 2).toNatClampNeg)]) (rest := [.int r4]) (by decide) (c_Mod_region h) (xE31 V _) rfl yw_Mod_region ml_Law_135 rfl rfl ⟨Nat.le_of_ble_eq_true rfl, Nat.le_of_ble_eq_true rfl⟩ rfl rfl (Nat.le_of_ble_eq_true rfl) d_Law_law_1140 ⟨Nat.le_of_succ_le hc, Nat.le_trans (Nat.le_add_right _ 6) hs⟩ (fun r8 σ7 H locs h hI => ?_)
  refine lv_icmp_eq (tgt := 1235) hx hb d_Law_law_1143 (by decide) (fun c9 => ?_) (fun c9 => ?_)
  · have h := h.1 c9
    refine W.widen (k := cells + 1) (n := slots + 6) (Nat.le_add_right _ _) (Nat.le_add_right _ _) ?_
    exact hK _ _ _ _ h hI (lv_sub hl [0, 1, 2, 3, 4] rfl)
  · have h := h.2 c9
    exact False.elim h
theorem yw_Rp_page : xY y_Rp_page cd_Rp_page 3 (some .int) 2 := ⟨xG_mem 414 (by decide +kernel) (by decide +kernel), xG_mem 415 (by decide +kernel) (by decide +kernel), xG_mem 54 (by decide +kernel) (by decide +kernel), xG_mem 416 (by decide +kernel) (by decide +kernel), by decide, by decide, by decide +kernel⟩
theorem ml_Law_136 : Cond.methodLink R_Law 136 y_Rp_page ∈ xG := xG_mem 413 (by decide +kernel) (by decide +kernel)
theorem yw_Mod_page : xY y_Mod_page cd_Mod_page 3 (some .int) 2 := ⟨xG_mem 1246 (by decide +kernel) (by decide +kernel), xG_mem 1247 (by decide +kernel) (by decide +kernel), xG_mem 65 (by decide +kernel) (by decide +kernel), xG_mem 1248 (by decide +kernel) (by decide +kernel), by decide, by decide, by decide +kernel⟩
theorem ml_Law_139 : Cond.methodLink R_Law 139 y_Mod_page ∈ xG := xG_mem 1245 (by decide +kernel) (by decide +kernel)
def o_17 (xs : Nat → Int32) (L : Nat) (x4 : Int32) (σ : xS) (K : xS → Prop) : Prop :=
  (vp_in (x4 + 1) L ∧ (vp_in (x4 + 2) L ∧ p_Rp_page (xs (x4 + 1).toNatClampNeg) (xs (x4 + 2).toNatClampNeg) σ (fun r4 σ3 => (vp_in (x4 + 1) L ∧ (vp_in (x4 + 2) L ∧ p_Mod_page (xs (x4 + 1).toNatClampNeg) (xs (x4 + 2).toNatClampNeg) σ3 (fun r8 σ7 => ((r4 = r8 → K σ7) ∧ (¬ r4 = r8 → False))))))))
set_option maxRecDepth 100000 in
set_option maxHeartbeats 4000000 in
theorem lc_17 {p : Program} {l : Launch} {e : Env} {s : State} {m : MethodId} {args : Array Value} {below : List Frame} {meth : Method} {c : Code} {V : xV} (C : xC p s m args c cd_Law_law 7 R_Law V) (hfl : l.flags = flags0) (hX : xX s) (hV : ∀ c, c < 61 → s.heap.size ≤ V.2.2 c) {b L : Nat} {xs : Nat → Int32} (hXs : va_X b L xs s s.heap) (hbl : b < s.heap.size) (hbA : ¬ xA V s.heap.size b) {cells slots : Nat} (hc : cells + 1 ≤ 601024) (hs : slots + 6 ≤ 7293034) {Z : State → Prop} {x4 : Int32} {K : xS → Prop} (hK : ∀ (σ : xS) (H : Heap) (locs : List Loc) (ls : Array Slot), K σ → xI V s.heap σ H locs → lv_has ls 7 [(0, .ref b), (1, .ref (V.2.2 0)), (2, .ref (V.2.2 31)), (3, .ref (V.2.2 30)), (4, .int x4)] → W p l e room_1 s m args below meth c H locs (cells + 1) (slots + 6) Z (F0 m 1235 ls [])) {σ : xS} {H : Heap} {locs : List Loc} {ls : Array Slot} (h : o_17 xs L x4 σ K) (hI : xI V s.heap σ H locs) (hl : lv_has ls 7 [(0, .ref b), (1, .ref (V.2.2 0)), (2, .ref (V.2.2 31)), (3, .ref (V.2.2 30)), (4, .int x4)]) : W p l e room_1 s m args below meth c H locs cells slots Z (F0 m 1148 ls []) := by
  have hx := C.1
  have hb := C.2.1
  unfold o_17 at h
  refine lv_aload_n hx hb d_Law_law_1148 rfl (lv_at hl 1 rfl) ?_
  refine lv_aload_n hx hb d_Law_law_1149 rfl (lv_at hl 0 rfl) ?_
  refine lv_iload hx hb d_Law_law_1150 (lv_at hl 4 rfl) ?_
  refine lv_iconst (v := 1) hx hb d_Law_law_1152 (by decide) ?_
  refine lv_iadd hx hb d_Law_law_1153 ?_
  obtain ⟨i1, h⟩ := h
  refine va_sld hx hb hXs hbl hbA hI.2.2 i1 d_Law_law_1154 ?_
  refine lv_aload_n hx hb d_Law_law_1155 rfl (lv_at hl 0 rfl) ?_
  refine lv_iload hx hb d_Law_law_1156 (lv_at hl 4 rfl) ?_
  refine lv_iconst (v := 2) hx hb d_Law_law_1158 (by decide) ?_
  refine lv_iadd hx hb d_Law_law_1159 ?_
  obtain ⟨i2, h⟩ := h
  refine va_sld hx hb hXs hbl hbA hI.2.2 i2 d_Law_law_1160 ?_
  refine x_calli C hI hl.1 (d := 0) (As := [.int (xs (x4 + 1).toNatClampNeg), .int (xs (x4 + 2).toNatClampNeg)]) (rest := []) (by decide) (c_Rp_page h) (xE0 V _) rfl yw_Rp_page ml_Law_136 rfl rfl ⟨Nat.le_of_ble_eq_true rfl, Nat.le_of_ble_eq_true rfl⟩ rfl rfl (Nat.le_of_ble_eq_true rfl) d_Law_law_1161 ⟨Nat.le_of_succ_le hc, Nat.le_trans (Nat.le_add_right _ 6) hs⟩ (fun r4 σ3 H locs h hI => ?_)
  refine lv_aload_n hx hb d_Law_law_1164 rfl (lv_at hl 2 rfl) ?_
  refine lv_aload_n hx hb d_Law_law_1165 rfl (lv_at hl 0 rfl) ?_
  refine lv_iload hx hb d_Law_law_1166 (lv_at hl 4 rfl) ?_
  refine lv_iconst (v := 1) hx hb d_Law_law_1168 (by decide) ?_
  refine lv_iadd hx hb d_Law_law_1169 ?_
  obtain ⟨i5, h⟩ := h
  refine va_sld hx hb hXs hbl hbA hI.2.2 i5 d_Law_law_1170 ?_
  refine lv_aload_n hx hb d_Law_law_1171 rfl (lv_at hl 0 rfl) ?_
  refine lv_iload hx hb d_Law_law_1172 (lv_at hl 4 rfl) ?_
  refine lv_iconst (v := 2) hx hb d_Law_law_1174 (by decide) ?_
  refine lv_iadd hx hb d_Law_law_1175 ?_
  obtain ⟨i6, h⟩ := h
  refine va_sld hx hb hXs hbl hbA hI.2.2 i6 d_Law_law_1176 ?_
  refine x_calli C hI hl.1 (d := 31) (As := [.int (xs (x4 + 1).toNatClampNeg), .int (xs (x4 + 2).toNatClampNeg)]) (rest := [.int r4]) (by decide) (c_Mod_page h) (xE31 V _) rfl yw_Mod_page ml_Law_139 rfl rfl ⟨Nat.le_of_ble_eq_true rfl, Nat.le_of_ble_eq_true rfl⟩ rfl rfl (Nat.le_of_ble_eq_true rfl) d_Law_law_1177 ⟨Nat.le_of_succ_le hc, Nat.le_trans (Nat.le_add_right _ 6) hs⟩ (fun r8 σ7 H locs h hI => ?_)
  refine lv_icmp_eq (tgt := 1235) hx hb d_Law_law_1180 (by decide) (fun c9 => ?_) (fun c9 => ?_)
  · have h := h.1 c9
    refine W.widen (k := cells + 1) (n := slots + 6) (Nat.le_add_right _ _) (Nat.le_add_right _ _) ?_
    exact hK _ _ _ _ h hI (lv_sub hl [0, 1, 2, 3, 4] rfl)
  · have h := h.2 c9
    exact False.elim h
theorem yw_Rp_at : xY y_Rp_at cd_Rp_at 2 (some .int) 1 := ⟨xG_mem 419 (by decide +kernel) (by decide +kernel), xG_mem 420 (by decide +kernel) (by decide +kernel), xG_mem 54 (by decide +kernel) (by decide +kernel), xG_mem 421 (by decide +kernel) (by decide +kernel), by decide, by decide, by decide +kernel⟩
theorem ml_Law_140 : Cond.methodLink R_Law 140 y_Rp_at ∈ xG := xG_mem 418 (by decide +kernel) (by decide +kernel)
theorem yw_Mod_at : xY y_Mod_at cd_Mod_at 3 (some .int) 1 := ⟨xG_mem 1250 (by decide +kernel) (by decide +kernel), xG_mem 1251 (by decide +kernel) (by decide +kernel), xG_mem 65 (by decide +kernel) (by decide +kernel), xG_mem 1252 (by decide +kernel) (by decide +kernel), by decide, by decide, by decide +kernel⟩
theorem ml_Law_143 : Cond.methodLink R_Law 143 y_Mod_at ∈ xG := xG_mem 1249 (by decide +kernel) (by decide +kernel)
def o_18 (xs : Nat → Int32) (L : Nat) (x4 : Int32) (σ : xS) (K : xS → Prop) : Prop :=
  (vp_in (x4 + 1) L ∧ p_Rp_at (xs (x4 + 1).toNatClampNeg) σ (fun r3 σ2 => (vp_in (x4 + 1) L ∧ p_Mod_at (xs (x4 + 1).toNatClampNeg) σ2 (fun r6 σ5 => ((r3 = r6 → K σ5) ∧ (¬ r3 = r6 → False))))))
set_option maxRecDepth 100000 in
set_option maxHeartbeats 4000000 in
theorem lc_18 {p : Program} {l : Launch} {e : Env} {s : State} {m : MethodId} {args : Array Value} {below : List Frame} {meth : Method} {c : Code} {V : xV} (C : xC p s m args c cd_Law_law 7 R_Law V) (hfl : l.flags = flags0) (hX : xX s) (hV : ∀ c, c < 61 → s.heap.size ≤ V.2.2 c) {b L : Nat} {xs : Nat → Int32} (hXs : va_X b L xs s s.heap) (hbl : b < s.heap.size) (hbA : ¬ xA V s.heap.size b) {cells slots : Nat} (hc : cells + 1 ≤ 601024) (hs : slots + 6 ≤ 7293034) {Z : State → Prop} {x4 : Int32} {K : xS → Prop} (hK : ∀ (σ : xS) (H : Heap) (locs : List Loc) (ls : Array Slot), K σ → xI V s.heap σ H locs → lv_has ls 7 [(0, .ref b), (1, .ref (V.2.2 0)), (2, .ref (V.2.2 31)), (3, .ref (V.2.2 30)), (4, .int x4)] → W p l e room_1 s m args below meth c H locs (cells + 1) (slots + 6) Z (F0 m 1235 ls [])) {σ : xS} {H : Heap} {locs : List Loc} {ls : Array Slot} (h : o_18 xs L x4 σ K) (hI : xI V s.heap σ H locs) (hl : lv_has ls 7 [(0, .ref b), (1, .ref (V.2.2 0)), (2, .ref (V.2.2 31)), (3, .ref (V.2.2 30)), (4, .int x4)]) : W p l e room_1 s m args below meth c H locs cells slots Z (F0 m 1185 ls []) := by
  have hx := C.1
  have hb := C.2.1
  unfold o_18 at h
  refine lv_aload_n hx hb d_Law_law_1185 rfl (lv_at hl 1 rfl) ?_
  refine lv_aload_n hx hb d_Law_law_1186 rfl (lv_at hl 0 rfl) ?_
  refine lv_iload hx hb d_Law_law_1187 (lv_at hl 4 rfl) ?_
  refine lv_iconst (v := 1) hx hb d_Law_law_1189 (by decide) ?_
  refine lv_iadd hx hb d_Law_law_1190 ?_
  obtain ⟨i1, h⟩ := h
  refine va_sld hx hb hXs hbl hbA hI.2.2 i1 d_Law_law_1191 ?_
  refine x_calli C hI hl.1 (d := 0) (As := [.int (xs (x4 + 1).toNatClampNeg)]) (rest := []) (by decide) (c_Rp_at h) (xE0 V _) rfl yw_Rp_at ml_Law_140 rfl rfl ⟨Nat.le_of_ble_eq_true rfl, Nat.le_of_ble_eq_true rfl⟩ rfl rfl (Nat.le_of_ble_eq_true rfl) d_Law_law_1192 ⟨Nat.le_of_succ_le hc, Nat.le_trans (Nat.le_add_right _ 6) hs⟩ (fun r3 σ2 H locs h hI => ?_)
  refine lv_aload_n hx hb d_Law_law_1195 rfl (lv_at hl 2 rfl) ?_
  refine lv_aload_n hx hb d_Law_law_1196 rfl (lv_at hl 0 rfl) ?_
  refine lv_iload hx hb d_Law_law_1197 (lv_at hl 4 rfl) ?_
  refine lv_iconst (v := 1) hx hb d_Law_law_1199 (by decide) ?_
  refine lv_iadd hx hb d_Law_law_1200 ?_
  obtain ⟨i4, h⟩ := h
  refine va_sld hx hb hXs hbl hbA hI.2.2 i4 d_Law_law_1201 ?_
  refine x_calli C hI hl.1 (d := 31) (As := [.int (xs (x4 + 1).toNatClampNeg)]) (rest := [.int r3]) (by decide) (c_Mod_at h) (xE31 V _) rfl yw_Mod_at ml_Law_143 rfl rfl ⟨Nat.le_of_ble_eq_true rfl, Nat.le_of_ble_eq_true rfl⟩ rfl rfl (Nat.le_of_ble_eq_true rfl) d_Law_law_1202 ⟨Nat.le_of_succ_le hc, Nat.le_trans (Nat.le_add_right _ 6) hs⟩ (fun r6 σ5 H locs h hI => ?_)
  refine lv_icmp_eq (tgt := 1235) hx hb d_Law_law_1205 (by decide) (fun c7 => ?_) (fun c7 => ?_)
  · have h := h.1 c7
    refine W.widen (k := cells + 1) (n := slots + 6) (Nat.le_add_right _ _) (Nat.le_add_right _ _) ?_
    exact hK _ _ _ _ h hI (lv_sub hl [0, 1, 2, 3, 4] rfl)
  · have h := h.2 c7
    exact False.elim h
theorem yw_Rp_count : xY y_Rp_count cd_Rp_count 2 (some .int) 1 := ⟨xG_mem 428 (by decide +kernel) (by decide +kernel), xG_mem 429 (by decide +kernel) (by decide +kernel), xG_mem 54 (by decide +kernel) (by decide +kernel), xG_mem 430 (by decide +kernel) (by decide +kernel), by decide, by decide, by decide +kernel⟩
theorem ml_Law_144 : Cond.methodLink R_Law 144 y_Rp_count ∈ xG := xG_mem 427 (by decide +kernel) (by decide +kernel)
theorem yw_Mod_count : xY y_Mod_count cd_Mod_count 6 (some .int) 1 := ⟨xG_mem 1254 (by decide +kernel) (by decide +kernel), xG_mem 1255 (by decide +kernel) (by decide +kernel), xG_mem 65 (by decide +kernel) (by decide +kernel), xG_mem 1256 (by decide +kernel) (by decide +kernel), by decide, by decide, by decide +kernel⟩
theorem ml_Law_147 : Cond.methodLink R_Law 147 y_Mod_count ∈ xG := xG_mem 1253 (by decide +kernel) (by decide +kernel)
def o_19 (xs : Nat → Int32) (L : Nat) (x4 : Int32) (σ : xS) (K : xS → Prop) : Prop :=
  (vp_in (x4 + 1) L ∧ p_Rp_count (xs (x4 + 1).toNatClampNeg) σ (fun r3 σ2 => (vp_in (x4 + 1) L ∧ p_Mod_count (xs (x4 + 1).toNatClampNeg) σ2 (fun r6 σ5 => ((r3 = r6 → K σ5) ∧ (¬ r3 = r6 → False))))))
set_option maxRecDepth 100000 in
set_option maxHeartbeats 4000000 in
theorem lc_19 {p : Program} {l : Launch} {e : Env} {s : State} {m : MethodId} {args : Array Value} {below : List Frame} {meth : Method} {c : Code} {V : xV} (C : xC p s m args c cd_Law_law 7 R_Law V) (hfl : l.flags = flags0) (hX : xX s) (hV : ∀ c, c < 61 → s.heap.size ≤ V.2.2 c) {b L : Nat} {xs : Nat → Int32} (hXs : va_X b L xs s s.heap) (hbl : b < s.heap.size) (hbA : ¬ xA V s.heap.size b) {cells slots : Nat} (hc : cells + 1 ≤ 601024) (hs : slots + 6 ≤ 7293034) {Z : State → Prop} {x4 : Int32} {K : xS → Prop} (hK : ∀ (σ : xS) (H : Heap) (locs : List Loc) (ls : Array Slot), K σ → xI V s.heap σ H locs → lv_has ls 7 [(0, .ref b), (1, .ref (V.2.2 0)), (2, .ref (V.2.2 31)), (3, .ref (V.2.2 30)), (4, .int x4)] → W p l e room_1 s m args below meth c H locs (cells + 1) (slots + 6) Z (F0 m 1235 ls [])) {σ : xS} {H : Heap} {locs : List Loc} {ls : Array Slot} (h : o_19 xs L x4 σ K) (hI : xI V s.heap σ H locs) (hl : lv_has ls 7 [(0, .ref b), (1, .ref (V.2.2 0)), (2, .ref (V.2.2 31)), (3, .ref (V.2.2 30)), (4, .int x4)]) : W p l e room_1 s m args below meth c H locs cells slots Z (F0 m 1210 ls []) := by
  have hx := C.1
  have hb := C.2.1
  unfold o_19 at h
  refine lv_aload_n hx hb d_Law_law_1210 rfl (lv_at hl 1 rfl) ?_
  refine lv_aload_n hx hb d_Law_law_1211 rfl (lv_at hl 0 rfl) ?_
  refine lv_iload hx hb d_Law_law_1212 (lv_at hl 4 rfl) ?_
  refine lv_iconst (v := 1) hx hb d_Law_law_1214 (by decide) ?_
  refine lv_iadd hx hb d_Law_law_1215 ?_
  obtain ⟨i1, h⟩ := h
  refine va_sld hx hb hXs hbl hbA hI.2.2 i1 d_Law_law_1216 ?_
  refine x_calli C hI hl.1 (d := 0) (As := [.int (xs (x4 + 1).toNatClampNeg)]) (rest := []) (by decide) (c_Rp_count h) (xE0 V _) rfl yw_Rp_count ml_Law_144 rfl rfl ⟨Nat.le_of_ble_eq_true rfl, Nat.le_of_ble_eq_true rfl⟩ rfl rfl (Nat.le_of_ble_eq_true rfl) d_Law_law_1217 ⟨Nat.le_of_succ_le hc, Nat.le_trans (Nat.le_add_right _ 6) hs⟩ (fun r3 σ2 H locs h hI => ?_)
  refine lv_aload_n hx hb d_Law_law_1220 rfl (lv_at hl 2 rfl) ?_
  refine lv_aload_n hx hb d_Law_law_1221 rfl (lv_at hl 0 rfl) ?_
  refine lv_iload hx hb d_Law_law_1222 (lv_at hl 4 rfl) ?_
  refine lv_iconst (v := 1) hx hb d_Law_law_1224 (by decide) ?_
  refine lv_iadd hx hb d_Law_law_1225 ?_
  obtain ⟨i4, h⟩ := h
  refine va_sld hx hb hXs hbl hbA hI.2.2 i4 d_Law_law_1226 ?_
  refine x_calli C hI hl.1 (d := 31) (As := [.int (xs (x4 + 1).toNatClampNeg)]) (rest := [.int r3]) (by decide) (c_Mod_count h) (xE31 V _) rfl yw_Mod_count ml_Law_147 rfl rfl ⟨Nat.le_of_ble_eq_true rfl, Nat.le_of_ble_eq_true rfl⟩ rfl rfl (Nat.le_of_ble_eq_true rfl) d_Law_law_1227 ⟨Nat.le_of_succ_le hc, Nat.le_trans (Nat.le_add_right _ 6) hs⟩ (fun r6 σ5 H locs h hI => ?_)
  refine lv_icmp_eq (tgt := 1235) hx hb d_Law_law_1230 (by decide) (fun c7 => ?_) (fun c7 => ?_)
  · have h := h.1 c7
    refine W.widen (k := cells + 1) (n := slots + 6) (Nat.le_add_right _ _) (Nat.le_add_right _ _) ?_
    exact hK _ _ _ _ h hI (lv_sub hl [0, 1, 2, 3, 4] rfl)
  · have h := h.2 c7
    exact False.elim h
