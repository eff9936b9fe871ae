/-! THE LAW'S LOOP -/
abbrev nL_law : am_M := (yL_law, cL_law, 7, some .boolean, 601024, 7293034)
theorem lw_cmp (a : Int64) : lg_cmp a a = 0 := by
  unfold lg_cmp
  rw [if_neg (by simp), if_pos rfl]
theorem lw_ix {k n j : Nat} (h : 6 * k + j < n) (hn : n ≤ 3072) : vp_in (nI (6 * k) + nI j) n := by
  rw [nI_add]
  exact vp_in_nI h (by omega)
theorem lw_go {k n : Nat} (hn : n ≤ 3072) (hk : k ≤ 600) (h : ¬ nI n - 6 < nI (6 * k)) : 6 * k + 6 ≤ n := by
  by_cases h6 : 6 ≤ n
  · have e : nI n - (6 : Int32) = nI (n - 6) := nI_subI (a := 6) h6
    rw [e, nI_ltI (by omega) (by omega)] at h
    omega
  · exfalso
    apply h
    have e1 : (nI (6 * k)).toInt = ((6 * k : Nat) : Int) := nI_toInt (by omega)
    rw [Int32.lt_iff_toInt_lt, e1]
    have h2 : ∀ n : Fin 6, (nI n.val - 6).toInt < 0 := by decide
    have h3 := h2 ⟨n, by omega⟩
    have h4 : (nI n - 6).toInt < 0 := h3
    omega
section LWL
variable {G : am_G}
theorem dL_law_0 : decode cL_law 0 = .ok (.new 8, 3) := by decide +kernel
theorem dL_law_3 : decode cL_law 3 = .ok (.dup, 1) := by decide +kernel
theorem dL_law_4 : decode cL_law 4 = .ok (.invokespecial 74, 3) := by decide +kernel
theorem dL_law_7 : decode cL_law 7 = .ok (.astore_n 1, 1) := by decide +kernel
theorem dL_law_8 : decode cL_law 8 = .ok (.new 75, 3) := by decide +kernel
theorem dL_law_11 : decode cL_law 11 = .ok (.dup, 1) := by decide +kernel
theorem dL_law_12 : decode cL_law 12 = .ok (.invokespecial 77, 3) := by decide +kernel
theorem dL_law_15 : decode cL_law 15 = .ok (.astore_n 2, 1) := by decide +kernel
theorem dL_law_16 : decode cL_law 16 = .ok (.iconst 1, 1) := by decide +kernel
theorem dL_law_17 : decode cL_law 17 = .ok (.newarray .long, 2) := by decide +kernel
theorem dL_law_19 : decode cL_law 19 = .ok (.astore_n 3, 1) := by decide +kernel
theorem dL_law_20 : decode cL_law 20 = .ok (.iconst 0, 1) := by decide +kernel
theorem dL_law_21 : decode cL_law 21 = .ok (.istore 4, 2) := by decide +kernel
theorem dL_law_23 : decode cL_law 23 = .ok (.iload 4, 2) := by decide +kernel
theorem dL_law_25 : decode cL_law 25 = .ok (.aload_n 0, 1) := by decide +kernel
theorem dL_law_26 : decode cL_law 26 = .ok (.arraylength, 1) := by decide +kernel
theorem dL_law_27 : decode cL_law 27 = .ok (.bipush 6, 2) := by decide +kernel
theorem dL_law_29 : decode cL_law 29 = .ok (.isub, 1) := by decide +kernel
theorem dL_law_30 : decode cL_law 30 = .ok (.if_icmp .gt 1720, 3) := by decide +kernel
theorem dL_law_33 : decode cL_law 33 = .ok (.aload_n 0, 1) := by decide +kernel
theorem dL_law_34 : decode cL_law 34 = .ok (.iload 4, 2) := by decide +kernel
theorem dL_law_36 : decode cL_law 36 = .ok (.iaload, 1) := by decide +kernel
theorem dL_law_37 : decode cL_law 37 = .ok (.bipush 63, 2) := by decide +kernel
theorem dL_law_39 : decode cL_law 39 = .ok (.iand, 1) := by decide +kernel
theorem dL_law_40 : decode cL_law 40 = .ok (.tableswitch 1704 0 32 #[148, 221, 277, 290, 346, 414, 482, 550, 625, 693, 773, 848, 916, 941, 966, 979, 992, 1048, 1061, 1074, 1087, 1100, 1113, 1193, 1249, 1317, 1373, 1441, 1509, 1520, 1600, 1680, 1691], 148) := by decide +kernel
theorem dL_law_188 : decode cL_law 188 = .ok (.aload_n 1, 1) := by decide +kernel
theorem dL_law_189 : decode cL_law 189 = .ok (.aload_n 0, 1) := by decide +kernel
theorem dL_law_190 : decode cL_law 190 = .ok (.iload 4, 2) := by decide +kernel
theorem dL_law_192 : decode cL_law 192 = .ok (.iconst 1, 1) := by decide +kernel
theorem dL_law_193 : decode cL_law 193 = .ok (.iadd, 1) := by decide +kernel
theorem dL_law_194 : decode cL_law 194 = .ok (.iaload, 1) := by decide +kernel
theorem dL_law_195 : decode cL_law 195 = .ok (.aload_n 0, 1) := by decide +kernel
theorem dL_law_196 : decode cL_law 196 = .ok (.iload 4, 2) := by decide +kernel
theorem dL_law_198 : decode cL_law 198 = .ok (.iconst 2, 1) := by decide +kernel
theorem dL_law_199 : decode cL_law 199 = .ok (.iadd, 1) := by decide +kernel
theorem dL_law_200 : decode cL_law 200 = .ok (.iaload, 1) := by decide +kernel
theorem dL_law_201 : decode cL_law 201 = .ok (.aload_n 0, 1) := by decide +kernel
theorem dL_law_202 : decode cL_law 202 = .ok (.iload 4, 2) := by decide +kernel
theorem dL_law_204 : decode cL_law 204 = .ok (.iconst 3, 1) := by decide +kernel
theorem dL_law_205 : decode cL_law 205 = .ok (.iadd, 1) := by decide +kernel
theorem dL_law_206 : decode cL_law 206 = .ok (.iaload, 1) := by decide +kernel
theorem dL_law_207 : decode cL_law 207 = .ok (.aload_n 0, 1) := by decide +kernel
theorem dL_law_208 : decode cL_law 208 = .ok (.iload 4, 2) := by decide +kernel
theorem dL_law_210 : decode cL_law 210 = .ok (.iconst 4, 1) := by decide +kernel
theorem dL_law_211 : decode cL_law 211 = .ok (.iadd, 1) := by decide +kernel
theorem dL_law_212 : decode cL_law 212 = .ok (.iaload, 1) := by decide +kernel
theorem dL_law_213 : decode cL_law 213 = .ok (.aload_n 0, 1) := by decide +kernel
theorem dL_law_214 : decode cL_law 214 = .ok (.iload 4, 2) := by decide +kernel
theorem dL_law_216 : decode cL_law 216 = .ok (.iconst 5, 1) := by decide +kernel
theorem dL_law_217 : decode cL_law 217 = .ok (.iadd, 1) := by decide +kernel
theorem dL_law_218 : decode cL_law 218 = .ok (.iaload, 1) := by decide +kernel
theorem dL_law_219 : decode cL_law 219 = .ok (.invokevirtual 78, 3) := by decide +kernel
theorem dL_law_222 : decode cL_law 222 = .ok (.aload_n 2, 1) := by decide +kernel
theorem dL_law_223 : decode cL_law 223 = .ok (.aload_n 0, 1) := by decide +kernel
theorem dL_law_224 : decode cL_law 224 = .ok (.iload 4, 2) := by decide +kernel
theorem dL_law_226 : decode cL_law 226 = .ok (.iconst 1, 1) := by decide +kernel
theorem dL_law_227 : decode cL_law 227 = .ok (.iadd, 1) := by decide +kernel
theorem dL_law_228 : decode cL_law 228 = .ok (.iaload, 1) := by decide +kernel
theorem dL_law_229 : decode cL_law 229 = .ok (.aload_n 0, 1) := by decide +kernel
theorem dL_law_230 : decode cL_law 230 = .ok (.iload 4, 2) := by decide +kernel
theorem dL_law_232 : decode cL_law 232 = .ok (.iconst 2, 1) := by decide +kernel
theorem dL_law_233 : decode cL_law 233 = .ok (.iadd, 1) := by decide +kernel
theorem dL_law_234 : decode cL_law 234 = .ok (.iaload, 1) := by decide +kernel
theorem dL_law_235 : decode cL_law 235 = .ok (.aload_n 0, 1) := by decide +kernel
theorem dL_law_236 : decode cL_law 236 = .ok (.iload 4, 2) := by decide +kernel
theorem dL_law_238 : decode cL_law 238 = .ok (.iconst 3, 1) := by decide +kernel
theorem dL_law_239 : decode cL_law 239 = .ok (.iadd, 1) := by decide +kernel
theorem dL_law_240 : decode cL_law 240 = .ok (.iaload, 1) := by decide +kernel
theorem dL_law_241 : decode cL_law 241 = .ok (.aload_n 0, 1) := by decide +kernel
theorem dL_law_242 : decode cL_law 242 = .ok (.iload 4, 2) := by decide +kernel
theorem dL_law_244 : decode cL_law 244 = .ok (.iconst 4, 1) := by decide +kernel
theorem dL_law_245 : decode cL_law 245 = .ok (.iadd, 1) := by decide +kernel
theorem dL_law_246 : decode cL_law 246 = .ok (.iaload, 1) := by decide +kernel
theorem dL_law_247 : decode cL_law 247 = .ok (.aload_n 0, 1) := by decide +kernel
theorem dL_law_248 : decode cL_law 248 = .ok (.iload 4, 2) := by decide +kernel
theorem dL_law_250 : decode cL_law 250 = .ok (.iconst 5, 1) := by decide +kernel
theorem dL_law_251 : decode cL_law 251 = .ok (.iadd, 1) := by decide +kernel
theorem dL_law_252 : decode cL_law 252 = .ok (.iaload, 1) := by decide +kernel
theorem dL_law_253 : decode cL_law 253 = .ok (.invokevirtual 82, 3) := by decide +kernel
theorem dL_law_256 : decode cL_law 256 = .ok (.if_icmp .eq 1488, 3) := by decide +kernel
theorem dL_law_259 : decode cL_law 259 = .ok (.iconst 0, 1) := by decide +kernel
theorem dL_law_260 : decode cL_law 260 = .ok (.ireturn, 1) := by decide +kernel
theorem dL_law_261 : decode cL_law 261 = .ok (.aload_n 1, 1) := by decide +kernel
theorem dL_law_262 : decode cL_law 262 = .ok (.aload_n 0, 1) := by decide +kernel
theorem dL_law_263 : decode cL_law 263 = .ok (.iload 4, 2) := by decide +kernel
theorem dL_law_265 : decode cL_law 265 = .ok (.iconst 1, 1) := by decide +kernel
theorem dL_law_266 : decode cL_law 266 = .ok (.iadd, 1) := by decide +kernel
theorem dL_law_267 : decode cL_law 267 = .ok (.iaload, 1) := by decide +kernel
theorem dL_law_268 : decode cL_law 268 = .ok (.aload_n 3, 1) := by decide +kernel
theorem dL_law_269 : decode cL_law 269 = .ok (.invokestatic 83, 3) := by decide +kernel
theorem dL_law_272 : decode cL_law 272 = .ok (.istore 5, 2) := by decide +kernel
theorem dL_law_274 : decode cL_law 274 = .ok (.aload_n 2, 1) := by decide +kernel
theorem dL_law_275 : decode cL_law 275 = .ok (.aload_n 0, 1) := by decide +kernel
theorem dL_law_276 : decode cL_law 276 = .ok (.iload 4, 2) := by decide +kernel
theorem dL_law_278 : decode cL_law 278 = .ok (.iconst 1, 1) := by decide +kernel
theorem dL_law_279 : decode cL_law 279 = .ok (.iadd, 1) := by decide +kernel
theorem dL_law_280 : decode cL_law 280 = .ok (.iaload, 1) := by decide +kernel
theorem dL_law_281 : decode cL_law 281 = .ok (.invokevirtual 88, 3) := by decide +kernel
theorem dL_law_284 : decode cL_law 284 = .ok (.istore 6, 2) := by decide +kernel
theorem dL_law_286 : decode cL_law 286 = .ok (.aload_n 2, 1) := by decide +kernel
theorem dL_law_287 : decode cL_law 287 = .ok (.invokevirtual 89, 3) := by decide +kernel
theorem dL_law_290 : decode cL_law 290 = .ok (.iload 5, 2) := by decide +kernel
theorem dL_law_292 : decode cL_law 292 = .ok (.if_icmp .eq 5, 3) := by decide +kernel
theorem dL_law_295 : decode cL_law 295 = .ok (.iconst 0, 1) := by decide +kernel
theorem dL_law_296 : decode cL_law 296 = .ok (.ireturn, 1) := by decide +kernel
theorem dL_law_297 : decode cL_law 297 = .ok (.iload 5, 2) := by decide +kernel
theorem dL_law_299 : decode cL_law 299 = .ok (.ifCond .ne 15, 3) := by decide +kernel
theorem dL_law_302 : decode cL_law 302 = .ok (.aload_n 3, 1) := by decide +kernel
theorem dL_law_303 : decode cL_law 303 = .ok (.iconst 0, 1) := by decide +kernel
theorem dL_law_304 : decode cL_law 304 = .ok (.laload, 1) := by decide +kernel
theorem dL_law_305 : decode cL_law 305 = .ok (.iload 6, 2) := by decide +kernel
theorem dL_law_307 : decode cL_law 307 = .ok (.i2l, 1) := by decide +kernel
theorem dL_law_308 : decode cL_law 308 = .ok (.lcmp, 1) := by decide +kernel
theorem dL_law_309 : decode cL_law 309 = .ok (.ifCond .eq 5, 3) := by decide +kernel
theorem dL_law_312 : decode cL_law 312 = .ok (.iconst 0, 1) := by decide +kernel
theorem dL_law_313 : decode cL_law 313 = .ok (.ireturn, 1) := by decide +kernel
theorem dL_law_314 : decode cL_law 314 = .ok (.goto 1430, 3) := by decide +kernel
theorem dL_law_317 : decode cL_law 317 = .ok (.aload_n 1, 1) := by decide +kernel
theorem dL_law_318 : decode cL_law 318 = .ok (.invokevirtual 93, 3) := by decide +kernel
theorem dL_law_321 : decode cL_law 321 = .ok (.aload_n 2, 1) := by decide +kernel
theorem dL_law_322 : decode cL_law 322 = .ok (.invokevirtual 96, 3) := by decide +kernel
theorem dL_law_325 : decode cL_law 325 = .ok (.if_icmp .eq 1419, 3) := by decide +kernel
theorem dL_law_328 : decode cL_law 328 = .ok (.iconst 0, 1) := by decide +kernel
theorem dL_law_329 : decode cL_law 329 = .ok (.ireturn, 1) := by decide +kernel
theorem dL_law_330 : decode cL_law 330 = .ok (.aload_n 1, 1) := by decide +kernel
theorem dL_law_331 : decode cL_law 331 = .ok (.aload_n 0, 1) := by decide +kernel
theorem dL_law_332 : decode cL_law 332 = .ok (.iload 4, 2) := by decide +kernel
theorem dL_law_334 : decode cL_law 334 = .ok (.iconst 1, 1) := by decide +kernel
theorem dL_law_335 : decode cL_law 335 = .ok (.iadd, 1) := by decide +kernel
theorem dL_law_336 : decode cL_law 336 = .ok (.iaload, 1) := by decide +kernel
theorem dL_law_337 : decode cL_law 337 = .ok (.aload_n 3, 1) := by decide +kernel
theorem dL_law_338 : decode cL_law 338 = .ok (.invokestatic 97, 3) := by decide +kernel
theorem dL_law_341 : decode cL_law 341 = .ok (.istore 5, 2) := by decide +kernel
theorem dL_law_343 : decode cL_law 343 = .ok (.aload_n 2, 1) := by decide +kernel
theorem dL_law_344 : decode cL_law 344 = .ok (.aload_n 0, 1) := by decide +kernel
theorem dL_law_345 : decode cL_law 345 = .ok (.iload 4, 2) := by decide +kernel
theorem dL_law_347 : decode cL_law 347 = .ok (.iconst 1, 1) := by decide +kernel
theorem dL_law_348 : decode cL_law 348 = .ok (.iadd, 1) := by decide +kernel
theorem dL_law_349 : decode cL_law 349 = .ok (.iaload, 1) := by decide +kernel
theorem dL_law_350 : decode cL_law 350 = .ok (.invokevirtual 99, 3) := by decide +kernel
theorem dL_law_353 : decode cL_law 353 = .ok (.istore 6, 2) := by decide +kernel
theorem dL_law_355 : decode cL_law 355 = .ok (.aload_n 2, 1) := by decide +kernel
theorem dL_law_356 : decode cL_law 356 = .ok (.invokevirtual 89, 3) := by decide +kernel
theorem dL_law_359 : decode cL_law 359 = .ok (.iload 5, 2) := by decide +kernel
theorem dL_law_361 : decode cL_law 361 = .ok (.if_icmp .eq 5, 3) := by decide +kernel
theorem dL_law_364 : decode cL_law 364 = .ok (.iconst 0, 1) := by decide +kernel
theorem dL_law_365 : decode cL_law 365 = .ok (.ireturn, 1) := by decide +kernel
theorem dL_law_366 : decode cL_law 366 = .ok (.iload 5, 2) := by decide +kernel
theorem dL_law_368 : decode cL_law 368 = .ok (.ifCond .ne 15, 3) := by decide +kernel
theorem dL_law_371 : decode cL_law 371 = .ok (.aload_n 3, 1) := by decide +kernel
theorem dL_law_372 : decode cL_law 372 = .ok (.iconst 0, 1) := by decide +kernel
theorem dL_law_373 : decode cL_law 373 = .ok (.laload, 1) := by decide +kernel
theorem dL_law_374 : decode cL_law 374 = .ok (.iload 6, 2) := by decide +kernel
theorem dL_law_376 : decode cL_law 376 = .ok (.i2l, 1) := by decide +kernel
theorem dL_law_377 : decode cL_law 377 = .ok (.lcmp, 1) := by decide +kernel
theorem dL_law_378 : decode cL_law 378 = .ok (.ifCond .eq 5, 3) := by decide +kernel
theorem dL_law_381 : decode cL_law 381 = .ok (.iconst 0, 1) := by decide +kernel
theorem dL_law_382 : decode cL_law 382 = .ok (.ireturn, 1) := by decide +kernel
theorem dL_law_383 : decode cL_law 383 = .ok (.goto 1361, 3) := by decide +kernel
theorem dL_law_386 : decode cL_law 386 = .ok (.aload_n 1, 1) := by decide +kernel
theorem dL_law_387 : decode cL_law 387 = .ok (.aload_n 0, 1) := by decide +kernel
theorem dL_law_388 : decode cL_law 388 = .ok (.iload 4, 2) := by decide +kernel
theorem dL_law_390 : decode cL_law 390 = .ok (.iconst 1, 1) := by decide +kernel
theorem dL_law_391 : decode cL_law 391 = .ok (.iadd, 1) := by decide +kernel
theorem dL_law_392 : decode cL_law 392 = .ok (.iaload, 1) := by decide +kernel
theorem dL_law_393 : decode cL_law 393 = .ok (.aload_n 0, 1) := by decide +kernel
theorem dL_law_394 : decode cL_law 394 = .ok (.iload 4, 2) := by decide +kernel
theorem dL_law_396 : decode cL_law 396 = .ok (.iconst 2, 1) := by decide +kernel
theorem dL_law_397 : decode cL_law 397 = .ok (.iadd, 1) := by decide +kernel
theorem dL_law_398 : decode cL_law 398 = .ok (.iaload, 1) := by decide +kernel
theorem dL_law_399 : decode cL_law 399 = .ok (.aload_n 3, 1) := by decide +kernel
theorem dL_law_400 : decode cL_law 400 = .ok (.invokestatic 100, 3) := by decide +kernel
theorem dL_law_403 : decode cL_law 403 = .ok (.istore 5, 2) := by decide +kernel
theorem dL_law_405 : decode cL_law 405 = .ok (.aload_n 2, 1) := by decide +kernel
theorem dL_law_406 : decode cL_law 406 = .ok (.aload_n 0, 1) := by decide +kernel
theorem dL_law_407 : decode cL_law 407 = .ok (.iload 4, 2) := by decide +kernel
theorem dL_law_409 : decode cL_law 409 = .ok (.iconst 1, 1) := by decide +kernel
theorem dL_law_410 : decode cL_law 410 = .ok (.iadd, 1) := by decide +kernel
theorem dL_law_411 : decode cL_law 411 = .ok (.iaload, 1) := by decide +kernel
theorem dL_law_412 : decode cL_law 412 = .ok (.aload_n 0, 1) := by decide +kernel
theorem dL_law_413 : decode cL_law 413 = .ok (.iload 4, 2) := by decide +kernel
theorem dL_law_415 : decode cL_law 415 = .ok (.iconst 2, 1) := by decide +kernel
theorem dL_law_416 : decode cL_law 416 = .ok (.iadd, 1) := by decide +kernel
theorem dL_law_417 : decode cL_law 417 = .ok (.iaload, 1) := by decide +kernel
theorem dL_law_418 : decode cL_law 418 = .ok (.invokevirtual 103, 3) := by decide +kernel
theorem dL_law_421 : decode cL_law 421 = .ok (.istore 6, 2) := by decide +kernel
theorem dL_law_423 : decode cL_law 423 = .ok (.aload_n 2, 1) := by decide +kernel
theorem dL_law_424 : decode cL_law 424 = .ok (.invokevirtual 89, 3) := by decide +kernel
theorem dL_law_427 : decode cL_law 427 = .ok (.iload 5, 2) := by decide +kernel
theorem dL_law_429 : decode cL_law 429 = .ok (.if_icmp .eq 5, 3) := by decide +kernel
theorem dL_law_432 : decode cL_law 432 = .ok (.iconst 0, 1) := by decide +kernel
theorem dL_law_433 : decode cL_law 433 = .ok (.ireturn, 1) := by decide +kernel
theorem dL_law_434 : decode cL_law 434 = .ok (.iload 5, 2) := by decide +kernel
theorem dL_law_436 : decode cL_law 436 = .ok (.ifCond .ne 15, 3) := by decide +kernel
theorem dL_law_439 : decode cL_law 439 = .ok (.aload_n 3, 1) := by decide +kernel
theorem dL_law_440 : decode cL_law 440 = .ok (.iconst 0, 1) := by decide +kernel
theorem dL_law_441 : decode cL_law 441 = .ok (.laload, 1) := by decide +kernel
theorem dL_law_442 : decode cL_law 442 = .ok (.iload 6, 2) := by decide +kernel
theorem dL_law_444 : decode cL_law 444 = .ok (.i2l, 1) := by decide +kernel
theorem dL_law_445 : decode cL_law 445 = .ok (.lcmp, 1) := by decide +kernel
theorem dL_law_446 : decode cL_law 446 = .ok (.ifCond .eq 5, 3) := by decide +kernel
theorem dL_law_449 : decode cL_law 449 = .ok (.iconst 0, 1) := by decide +kernel
theorem dL_law_450 : decode cL_law 450 = .ok (.ireturn, 1) := by decide +kernel
theorem dL_law_451 : decode cL_law 451 = .ok (.goto 1293, 3) := by decide +kernel
theorem dL_law_454 : decode cL_law 454 = .ok (.aload_n 1, 1) := by decide +kernel
theorem dL_law_455 : decode cL_law 455 = .ok (.aload_n 0, 1) := by decide +kernel
theorem dL_law_456 : decode cL_law 456 = .ok (.iload 4, 2) := by decide +kernel
theorem dL_law_458 : decode cL_law 458 = .ok (.iconst 1, 1) := by decide +kernel
theorem dL_law_459 : decode cL_law 459 = .ok (.iadd, 1) := by decide +kernel
theorem dL_law_460 : decode cL_law 460 = .ok (.iaload, 1) := by decide +kernel
theorem dL_law_461 : decode cL_law 461 = .ok (.aload_n 0, 1) := by decide +kernel
theorem dL_law_462 : decode cL_law 462 = .ok (.iload 4, 2) := by decide +kernel
theorem dL_law_464 : decode cL_law 464 = .ok (.iconst 2, 1) := by decide +kernel
theorem dL_law_465 : decode cL_law 465 = .ok (.iadd, 1) := by decide +kernel
theorem dL_law_466 : decode cL_law 466 = .ok (.iaload, 1) := by decide +kernel
theorem dL_law_467 : decode cL_law 467 = .ok (.aload_n 3, 1) := by decide +kernel
theorem dL_law_468 : decode cL_law 468 = .ok (.invokestatic 104, 3) := by decide +kernel
theorem dL_law_471 : decode cL_law 471 = .ok (.istore 5, 2) := by decide +kernel
theorem dL_law_473 : decode cL_law 473 = .ok (.aload_n 2, 1) := by decide +kernel
theorem dL_law_474 : decode cL_law 474 = .ok (.aload_n 0, 1) := by decide +kernel
theorem dL_law_475 : decode cL_law 475 = .ok (.iload 4, 2) := by decide +kernel
theorem dL_law_477 : decode cL_law 477 = .ok (.iconst 1, 1) := by decide +kernel
theorem dL_law_478 : decode cL_law 478 = .ok (.iadd, 1) := by decide +kernel
theorem dL_law_479 : decode cL_law 479 = .ok (.iaload, 1) := by decide +kernel
theorem dL_law_480 : decode cL_law 480 = .ok (.aload_n 0, 1) := by decide +kernel
theorem dL_law_481 : decode cL_law 481 = .ok (.iload 4, 2) := by decide +kernel
theorem dL_law_483 : decode cL_law 483 = .ok (.iconst 2, 1) := by decide +kernel
theorem dL_law_484 : decode cL_law 484 = .ok (.iadd, 1) := by decide +kernel
theorem dL_law_485 : decode cL_law 485 = .ok (.iaload, 1) := by decide +kernel
theorem dL_law_486 : decode cL_law 486 = .ok (.invokevirtual 106, 3) := by decide +kernel
theorem dL_law_489 : decode cL_law 489 = .ok (.istore 6, 2) := by decide +kernel
theorem dL_law_491 : decode cL_law 491 = .ok (.aload_n 2, 1) := by decide +kernel
theorem dL_law_492 : decode cL_law 492 = .ok (.invokevirtual 89, 3) := by decide +kernel
theorem dL_law_495 : decode cL_law 495 = .ok (.iload 5, 2) := by decide +kernel
theorem dL_law_497 : decode cL_law 497 = .ok (.if_icmp .eq 5, 3) := by decide +kernel
theorem dL_law_500 : decode cL_law 500 = .ok (.iconst 0, 1) := by decide +kernel
theorem dL_law_501 : decode cL_law 501 = .ok (.ireturn, 1) := by decide +kernel
theorem dL_law_502 : decode cL_law 502 = .ok (.iload 5, 2) := by decide +kernel
theorem dL_law_504 : decode cL_law 504 = .ok (.ifCond .ne 15, 3) := by decide +kernel
theorem dL_law_507 : decode cL_law 507 = .ok (.aload_n 3, 1) := by decide +kernel
theorem dL_law_508 : decode cL_law 508 = .ok (.iconst 0, 1) := by decide +kernel
theorem dL_law_509 : decode cL_law 509 = .ok (.laload, 1) := by decide +kernel
theorem dL_law_510 : decode cL_law 510 = .ok (.iload 6, 2) := by decide +kernel
theorem dL_law_512 : decode cL_law 512 = .ok (.i2l, 1) := by decide +kernel
theorem dL_law_513 : decode cL_law 513 = .ok (.lcmp, 1) := by decide +kernel
theorem dL_law_514 : decode cL_law 514 = .ok (.ifCond .eq 5, 3) := by decide +kernel
theorem dL_law_517 : decode cL_law 517 = .ok (.iconst 0, 1) := by decide +kernel
theorem dL_law_518 : decode cL_law 518 = .ok (.ireturn, 1) := by decide +kernel
theorem dL_law_519 : decode cL_law 519 = .ok (.goto 1225, 3) := by decide +kernel
theorem dL_law_522 : decode cL_law 522 = .ok (.aload_n 1, 1) := by decide +kernel
theorem dL_law_523 : decode cL_law 523 = .ok (.aload_n 0, 1) := by decide +kernel
theorem dL_law_524 : decode cL_law 524 = .ok (.iload 4, 2) := by decide +kernel
theorem dL_law_526 : decode cL_law 526 = .ok (.iconst 1, 1) := by decide +kernel
theorem dL_law_527 : decode cL_law 527 = .ok (.iadd, 1) := by decide +kernel
theorem dL_law_528 : decode cL_law 528 = .ok (.iaload, 1) := by decide +kernel
theorem dL_law_529 : decode cL_law 529 = .ok (.aload_n 0, 1) := by decide +kernel
theorem dL_law_530 : decode cL_law 530 = .ok (.iload 4, 2) := by decide +kernel
theorem dL_law_532 : decode cL_law 532 = .ok (.iconst 2, 1) := by decide +kernel
theorem dL_law_533 : decode cL_law 533 = .ok (.iadd, 1) := by decide +kernel
theorem dL_law_534 : decode cL_law 534 = .ok (.iaload, 1) := by decide +kernel
theorem dL_law_535 : decode cL_law 535 = .ok (.aload_n 3, 1) := by decide +kernel
theorem dL_law_536 : decode cL_law 536 = .ok (.invokestatic 107, 3) := by decide +kernel
theorem dL_law_539 : decode cL_law 539 = .ok (.istore 5, 2) := by decide +kernel
theorem dL_law_541 : decode cL_law 541 = .ok (.aload_n 2, 1) := by decide +kernel
theorem dL_law_542 : decode cL_law 542 = .ok (.aload_n 0, 1) := by decide +kernel
theorem dL_law_543 : decode cL_law 543 = .ok (.iload 4, 2) := by decide +kernel
theorem dL_law_545 : decode cL_law 545 = .ok (.iconst 1, 1) := by decide +kernel
theorem dL_law_546 : decode cL_law 546 = .ok (.iadd, 1) := by decide +kernel
theorem dL_law_547 : decode cL_law 547 = .ok (.iaload, 1) := by decide +kernel
theorem dL_law_548 : decode cL_law 548 = .ok (.aload_n 0, 1) := by decide +kernel
theorem dL_law_549 : decode cL_law 549 = .ok (.iload 4, 2) := by decide +kernel
theorem dL_law_551 : decode cL_law 551 = .ok (.iconst 2, 1) := by decide +kernel
theorem dL_law_552 : decode cL_law 552 = .ok (.iadd, 1) := by decide +kernel
theorem dL_law_553 : decode cL_law 553 = .ok (.iaload, 1) := by decide +kernel
theorem dL_law_554 : decode cL_law 554 = .ok (.invokevirtual 109, 3) := by decide +kernel
theorem dL_law_557 : decode cL_law 557 = .ok (.istore 6, 2) := by decide +kernel
theorem dL_law_559 : decode cL_law 559 = .ok (.aload_n 2, 1) := by decide +kernel
theorem dL_law_560 : decode cL_law 560 = .ok (.invokevirtual 89, 3) := by decide +kernel
theorem dL_law_563 : decode cL_law 563 = .ok (.iload 5, 2) := by decide +kernel
theorem dL_law_565 : decode cL_law 565 = .ok (.if_icmp .eq 5, 3) := by decide +kernel
theorem dL_law_568 : decode cL_law 568 = .ok (.iconst 0, 1) := by decide +kernel
theorem dL_law_569 : decode cL_law 569 = .ok (.ireturn, 1) := by decide +kernel
theorem dL_law_570 : decode cL_law 570 = .ok (.iload 5, 2) := by decide +kernel
theorem dL_law_572 : decode cL_law 572 = .ok (.ifCond .ne 15, 3) := by decide +kernel
theorem dL_law_575 : decode cL_law 575 = .ok (.aload_n 3, 1) := by decide +kernel
theorem dL_law_576 : decode cL_law 576 = .ok (.iconst 0, 1) := by decide +kernel
theorem dL_law_577 : decode cL_law 577 = .ok (.laload, 1) := by decide +kernel
theorem dL_law_578 : decode cL_law 578 = .ok (.iload 6, 2) := by decide +kernel
theorem dL_law_580 : decode cL_law 580 = .ok (.i2l, 1) := by decide +kernel
theorem dL_law_581 : decode cL_law 581 = .ok (.lcmp, 1) := by decide +kernel
theorem dL_law_582 : decode cL_law 582 = .ok (.ifCond .eq 5, 3) := by decide +kernel
theorem dL_law_585 : decode cL_law 585 = .ok (.iconst 0, 1) := by decide +kernel
theorem dL_law_586 : decode cL_law 586 = .ok (.ireturn, 1) := by decide +kernel
theorem dL_law_587 : decode cL_law 587 = .ok (.goto 1157, 3) := by decide +kernel
theorem dL_law_590 : decode cL_law 590 = .ok (.aload_n 1, 1) := by decide +kernel
theorem dL_law_591 : decode cL_law 591 = .ok (.aload_n 0, 1) := by decide +kernel
theorem dL_law_592 : decode cL_law 592 = .ok (.iload 4, 2) := by decide +kernel
theorem dL_law_594 : decode cL_law 594 = .ok (.iconst 1, 1) := by decide +kernel
theorem dL_law_595 : decode cL_law 595 = .ok (.iadd, 1) := by decide +kernel
theorem dL_law_596 : decode cL_law 596 = .ok (.iaload, 1) := by decide +kernel
theorem dL_law_597 : decode cL_law 597 = .ok (.aload_n 0, 1) := by decide +kernel
theorem dL_law_598 : decode cL_law 598 = .ok (.iload 4, 2) := by decide +kernel
theorem dL_law_600 : decode cL_law 600 = .ok (.iconst 2, 1) := by decide +kernel
theorem dL_law_601 : decode cL_law 601 = .ok (.iadd, 1) := by decide +kernel
theorem dL_law_602 : decode cL_law 602 = .ok (.iaload, 1) := by decide +kernel
theorem dL_law_603 : decode cL_law 603 = .ok (.aload_n 3, 1) := by decide +kernel
theorem dL_law_604 : decode cL_law 604 = .ok (.invokestatic 110, 3) := by decide +kernel
theorem dL_law_607 : decode cL_law 607 = .ok (.istore 5, 2) := by decide +kernel
theorem dL_law_609 : decode cL_law 609 = .ok (.aload_n 2, 1) := by decide +kernel
theorem dL_law_610 : decode cL_law 610 = .ok (.aload_n 0, 1) := by decide +kernel
theorem dL_law_611 : decode cL_law 611 = .ok (.iload 4, 2) := by decide +kernel
theorem dL_law_613 : decode cL_law 613 = .ok (.iconst 1, 1) := by decide +kernel
theorem dL_law_614 : decode cL_law 614 = .ok (.iadd, 1) := by decide +kernel
theorem dL_law_615 : decode cL_law 615 = .ok (.iaload, 1) := by decide +kernel
theorem dL_law_616 : decode cL_law 616 = .ok (.aload_n 0, 1) := by decide +kernel
theorem dL_law_617 : decode cL_law 617 = .ok (.iload 4, 2) := by decide +kernel
theorem dL_law_619 : decode cL_law 619 = .ok (.iconst 2, 1) := by decide +kernel
theorem dL_law_620 : decode cL_law 620 = .ok (.iadd, 1) := by decide +kernel
theorem dL_law_621 : decode cL_law 621 = .ok (.iaload, 1) := by decide +kernel
theorem dL_law_622 : decode cL_law 622 = .ok (.invokevirtual 112, 3) := by decide +kernel
theorem dL_law_625 : decode cL_law 625 = .ok (.istore 6, 2) := by decide +kernel
theorem dL_law_627 : decode cL_law 627 = .ok (.aload_n 2, 1) := by decide +kernel
theorem dL_law_628 : decode cL_law 628 = .ok (.invokevirtual 89, 3) := by decide +kernel
theorem dL_law_631 : decode cL_law 631 = .ok (.iload 5, 2) := by decide +kernel
theorem dL_law_633 : decode cL_law 633 = .ok (.if_icmp .eq 5, 3) := by decide +kernel
theorem dL_law_636 : decode cL_law 636 = .ok (.iconst 0, 1) := by decide +kernel
theorem dL_law_637 : decode cL_law 637 = .ok (.ireturn, 1) := by decide +kernel
theorem dL_law_638 : decode cL_law 638 = .ok (.iload 5, 2) := by decide +kernel
theorem dL_law_640 : decode cL_law 640 = .ok (.ifCond .ne 22, 3) := by decide +kernel
theorem dL_law_643 : decode cL_law 643 = .ok (.aload_n 3, 1) := by decide +kernel
theorem dL_law_644 : decode cL_law 644 = .ok (.iconst 0, 1) := by decide +kernel
theorem dL_law_645 : decode cL_law 645 = .ok (.laload, 1) := by decide +kernel
theorem dL_law_646 : decode cL_law 646 = .ok (.iload 6, 2) := by decide +kernel
theorem dL_law_648 : decode cL_law 648 = .ok (.ifCond .eq 7, 3) := by decide +kernel
theorem dL_law_651 : decode cL_law 651 = .ok (.lconst 1, 1) := by decide +kernel
theorem dL_law_652 : decode cL_law 652 = .ok (.goto 4, 3) := by decide +kernel
theorem dL_law_655 : decode cL_law 655 = .ok (.lconst 0, 1) := by decide +kernel
theorem dL_law_656 : decode cL_law 656 = .ok (.lcmp, 1) := by decide +kernel
theorem dL_law_657 : decode cL_law 657 = .ok (.ifCond .eq 5, 3) := by decide +kernel
theorem dL_law_660 : decode cL_law 660 = .ok (.iconst 0, 1) := by decide +kernel
theorem dL_law_661 : decode cL_law 661 = .ok (.ireturn, 1) := by decide +kernel
theorem dL_law_662 : decode cL_law 662 = .ok (.goto 1082, 3) := by decide +kernel
theorem dL_law_665 : decode cL_law 665 = .ok (.aload_n 1, 1) := by decide +kernel
theorem dL_law_666 : decode cL_law 666 = .ok (.aload_n 0, 1) := by decide +kernel
theorem dL_law_667 : decode cL_law 667 = .ok (.iload 4, 2) := by decide +kernel
theorem dL_law_669 : decode cL_law 669 = .ok (.iconst 1, 1) := by decide +kernel
theorem dL_law_670 : decode cL_law 670 = .ok (.iadd, 1) := by decide +kernel
theorem dL_law_671 : decode cL_law 671 = .ok (.iaload, 1) := by decide +kernel
theorem dL_law_672 : decode cL_law 672 = .ok (.aload_n 0, 1) := by decide +kernel
theorem dL_law_673 : decode cL_law 673 = .ok (.iload 4, 2) := by decide +kernel
theorem dL_law_675 : decode cL_law 675 = .ok (.iconst 2, 1) := by decide +kernel
theorem dL_law_676 : decode cL_law 676 = .ok (.iadd, 1) := by decide +kernel
theorem dL_law_677 : decode cL_law 677 = .ok (.iaload, 1) := by decide +kernel
theorem dL_law_678 : decode cL_law 678 = .ok (.aload_n 3, 1) := by decide +kernel
theorem dL_law_679 : decode cL_law 679 = .ok (.invokestatic 113, 3) := by decide +kernel
theorem dL_law_682 : decode cL_law 682 = .ok (.istore 5, 2) := by decide +kernel
theorem dL_law_684 : decode cL_law 684 = .ok (.aload_n 2, 1) := by decide +kernel
theorem dL_law_685 : decode cL_law 685 = .ok (.aload_n 0, 1) := by decide +kernel
theorem dL_law_686 : decode cL_law 686 = .ok (.iload 4, 2) := by decide +kernel
theorem dL_law_688 : decode cL_law 688 = .ok (.iconst 1, 1) := by decide +kernel
theorem dL_law_689 : decode cL_law 689 = .ok (.iadd, 1) := by decide +kernel
theorem dL_law_690 : decode cL_law 690 = .ok (.iaload, 1) := by decide +kernel
theorem dL_law_691 : decode cL_law 691 = .ok (.aload_n 0, 1) := by decide +kernel
theorem dL_law_692 : decode cL_law 692 = .ok (.iload 4, 2) := by decide +kernel
theorem dL_law_694 : decode cL_law 694 = .ok (.iconst 2, 1) := by decide +kernel
theorem dL_law_695 : decode cL_law 695 = .ok (.iadd, 1) := by decide +kernel
theorem dL_law_696 : decode cL_law 696 = .ok (.iaload, 1) := by decide +kernel
theorem dL_law_697 : decode cL_law 697 = .ok (.invokevirtual 115, 3) := by decide +kernel
theorem dL_law_700 : decode cL_law 700 = .ok (.istore 6, 2) := by decide +kernel
theorem dL_law_702 : decode cL_law 702 = .ok (.aload_n 2, 1) := by decide +kernel
theorem dL_law_703 : decode cL_law 703 = .ok (.invokevirtual 89, 3) := by decide +kernel
theorem dL_law_706 : decode cL_law 706 = .ok (.iload 5, 2) := by decide +kernel
theorem dL_law_708 : decode cL_law 708 = .ok (.if_icmp .eq 5, 3) := by decide +kernel
theorem dL_law_711 : decode cL_law 711 = .ok (.iconst 0, 1) := by decide +kernel
theorem dL_law_712 : decode cL_law 712 = .ok (.ireturn, 1) := by decide +kernel
theorem dL_law_713 : decode cL_law 713 = .ok (.iload 5, 2) := by decide +kernel
theorem dL_law_715 : decode cL_law 715 = .ok (.ifCond .ne 15, 3) := by decide +kernel
theorem dL_law_718 : decode cL_law 718 = .ok (.aload_n 3, 1) := by decide +kernel
theorem dL_law_719 : decode cL_law 719 = .ok (.iconst 0, 1) := by decide +kernel
theorem dL_law_720 : decode cL_law 720 = .ok (.laload, 1) := by decide +kernel
theorem dL_law_721 : decode cL_law 721 = .ok (.iload 6, 2) := by decide +kernel
theorem dL_law_723 : decode cL_law 723 = .ok (.i2l, 1) := by decide +kernel
theorem dL_law_724 : decode cL_law 724 = .ok (.lcmp, 1) := by decide +kernel
theorem dL_law_725 : decode cL_law 725 = .ok (.ifCond .eq 5, 3) := by decide +kernel
theorem dL_law_728 : decode cL_law 728 = .ok (.iconst 0, 1) := by decide +kernel
theorem dL_law_729 : decode cL_law 729 = .ok (.ireturn, 1) := by decide +kernel
theorem dL_law_730 : decode cL_law 730 = .ok (.goto 1014, 3) := by decide +kernel
theorem dL_law_733 : decode cL_law 733 = .ok (.aload_n 1, 1) := by decide +kernel
theorem dL_law_734 : decode cL_law 734 = .ok (.aload_n 0, 1) := by decide +kernel
theorem dL_law_735 : decode cL_law 735 = .ok (.iload 4, 2) := by decide +kernel
theorem dL_law_737 : decode cL_law 737 = .ok (.iconst 1, 1) := by decide +kernel
theorem dL_law_738 : decode cL_law 738 = .ok (.iadd, 1) := by decide +kernel
theorem dL_law_739 : decode cL_law 739 = .ok (.iaload, 1) := by decide +kernel
theorem dL_law_740 : decode cL_law 740 = .ok (.aload_n 0, 1) := by decide +kernel
theorem dL_law_741 : decode cL_law 741 = .ok (.iload 4, 2) := by decide +kernel
theorem dL_law_743 : decode cL_law 743 = .ok (.iconst 2, 1) := by decide +kernel
theorem dL_law_744 : decode cL_law 744 = .ok (.iadd, 1) := by decide +kernel
theorem dL_law_745 : decode cL_law 745 = .ok (.iaload, 1) := by decide +kernel
theorem dL_law_746 : decode cL_law 746 = .ok (.aload_n 0, 1) := by decide +kernel
theorem dL_law_747 : decode cL_law 747 = .ok (.iload 4, 2) := by decide +kernel
theorem dL_law_749 : decode cL_law 749 = .ok (.iconst 3, 1) := by decide +kernel
theorem dL_law_750 : decode cL_law 750 = .ok (.iadd, 1) := by decide +kernel
theorem dL_law_751 : decode cL_law 751 = .ok (.iaload, 1) := by decide +kernel
theorem dL_law_752 : decode cL_law 752 = .ok (.aload_n 3, 1) := by decide +kernel
theorem dL_law_753 : decode cL_law 753 = .ok (.invokestatic 116, 3) := by decide +kernel
theorem dL_law_756 : decode cL_law 756 = .ok (.istore 5, 2) := by decide +kernel
theorem dL_law_758 : decode cL_law 758 = .ok (.aload_n 2, 1) := by decide +kernel
theorem dL_law_759 : decode cL_law 759 = .ok (.aload_n 0, 1) := by decide +kernel
theorem dL_law_760 : decode cL_law 760 = .ok (.iload 4, 2) := by decide +kernel
theorem dL_law_762 : decode cL_law 762 = .ok (.iconst 1, 1) := by decide +kernel
theorem dL_law_763 : decode cL_law 763 = .ok (.iadd, 1) := by decide +kernel
theorem dL_law_764 : decode cL_law 764 = .ok (.iaload, 1) := by decide +kernel
theorem dL_law_765 : decode cL_law 765 = .ok (.aload_n 0, 1) := by decide +kernel
theorem dL_law_766 : decode cL_law 766 = .ok (.iload 4, 2) := by decide +kernel
theorem dL_law_768 : decode cL_law 768 = .ok (.iconst 2, 1) := by decide +kernel
theorem dL_law_769 : decode cL_law 769 = .ok (.iadd, 1) := by decide +kernel
theorem dL_law_770 : decode cL_law 770 = .ok (.iaload, 1) := by decide +kernel
theorem dL_law_771 : decode cL_law 771 = .ok (.aload_n 0, 1) := by decide +kernel
theorem dL_law_772 : decode cL_law 772 = .ok (.iload 4, 2) := by decide +kernel
theorem dL_law_774 : decode cL_law 774 = .ok (.iconst 3, 1) := by decide +kernel
theorem dL_law_775 : decode cL_law 775 = .ok (.iadd, 1) := by decide +kernel
theorem dL_law_776 : decode cL_law 776 = .ok (.iaload, 1) := by decide +kernel
theorem dL_law_777 : decode cL_law 777 = .ok (.invokevirtual 119, 3) := by decide +kernel
theorem dL_law_780 : decode cL_law 780 = .ok (.istore 6, 2) := by decide +kernel
theorem dL_law_782 : decode cL_law 782 = .ok (.aload_n 2, 1) := by decide +kernel
theorem dL_law_783 : decode cL_law 783 = .ok (.invokevirtual 89, 3) := by decide +kernel
theorem dL_law_786 : decode cL_law 786 = .ok (.iload 5, 2) := by decide +kernel
theorem dL_law_788 : decode cL_law 788 = .ok (.if_icmp .eq 5, 3) := by decide +kernel
theorem dL_law_791 : decode cL_law 791 = .ok (.iconst 0, 1) := by decide +kernel
theorem dL_law_792 : decode cL_law 792 = .ok (.ireturn, 1) := by decide +kernel
theorem dL_law_793 : decode cL_law 793 = .ok (.iload 5, 2) := by decide +kernel
theorem dL_law_795 : decode cL_law 795 = .ok (.ifCond .ne 15, 3) := by decide +kernel
theorem dL_law_798 : decode cL_law 798 = .ok (.aload_n 3, 1) := by decide +kernel
theorem dL_law_799 : decode cL_law 799 = .ok (.iconst 0, 1) := by decide +kernel
theorem dL_law_800 : decode cL_law 800 = .ok (.laload, 1) := by decide +kernel
theorem dL_law_801 : decode cL_law 801 = .ok (.iload 6, 2) := by decide +kernel
theorem dL_law_803 : decode cL_law 803 = .ok (.i2l, 1) := by decide +kernel
theorem dL_law_804 : decode cL_law 804 = .ok (.lcmp, 1) := by decide +kernel
theorem dL_law_805 : decode cL_law 805 = .ok (.ifCond .eq 5, 3) := by decide +kernel
theorem dL_law_808 : decode cL_law 808 = .ok (.iconst 0, 1) := by decide +kernel
theorem dL_law_809 : decode cL_law 809 = .ok (.ireturn, 1) := by decide +kernel
theorem dL_law_810 : decode cL_law 810 = .ok (.goto 934, 3) := by decide +kernel
theorem dL_law_813 : decode cL_law 813 = .ok (.aload_n 1, 1) := by decide +kernel
theorem dL_law_814 : decode cL_law 814 = .ok (.aload_n 0, 1) := by decide +kernel
theorem dL_law_815 : decode cL_law 815 = .ok (.iload 4, 2) := by decide +kernel
theorem dL_law_817 : decode cL_law 817 = .ok (.iconst 1, 1) := by decide +kernel
theorem dL_law_818 : decode cL_law 818 = .ok (.iadd, 1) := by decide +kernel
theorem dL_law_819 : decode cL_law 819 = .ok (.iaload, 1) := by decide +kernel
theorem dL_law_820 : decode cL_law 820 = .ok (.aload_n 0, 1) := by decide +kernel
theorem dL_law_821 : decode cL_law 821 = .ok (.iload 4, 2) := by decide +kernel
theorem dL_law_823 : decode cL_law 823 = .ok (.iconst 2, 1) := by decide +kernel
theorem dL_law_824 : decode cL_law 824 = .ok (.iadd, 1) := by decide +kernel
theorem dL_law_825 : decode cL_law 825 = .ok (.iaload, 1) := by decide +kernel
theorem dL_law_826 : decode cL_law 826 = .ok (.aload_n 3, 1) := by decide +kernel
theorem dL_law_827 : decode cL_law 827 = .ok (.invokestatic 120, 3) := by decide +kernel
theorem dL_law_830 : decode cL_law 830 = .ok (.istore 5, 2) := by decide +kernel
theorem dL_law_832 : decode cL_law 832 = .ok (.aload_n 2, 1) := by decide +kernel
theorem dL_law_833 : decode cL_law 833 = .ok (.aload_n 0, 1) := by decide +kernel
theorem dL_law_834 : decode cL_law 834 = .ok (.iload 4, 2) := by decide +kernel
theorem dL_law_836 : decode cL_law 836 = .ok (.iconst 1, 1) := by decide +kernel
theorem dL_law_837 : decode cL_law 837 = .ok (.iadd, 1) := by decide +kernel
theorem dL_law_838 : decode cL_law 838 = .ok (.iaload, 1) := by decide +kernel
theorem dL_law_839 : decode cL_law 839 = .ok (.aload_n 0, 1) := by decide +kernel
theorem dL_law_840 : decode cL_law 840 = .ok (.iload 4, 2) := by decide +kernel
theorem dL_law_842 : decode cL_law 842 = .ok (.iconst 2, 1) := by decide +kernel
theorem dL_law_843 : decode cL_law 843 = .ok (.iadd, 1) := by decide +kernel
theorem dL_law_844 : decode cL_law 844 = .ok (.iaload, 1) := by decide +kernel
theorem dL_law_845 : decode cL_law 845 = .ok (.invokevirtual 122, 3) := by decide +kernel
theorem dL_law_848 : decode cL_law 848 = .ok (.istore 6, 2) := by decide +kernel
theorem dL_law_850 : decode cL_law 850 = .ok (.aload_n 2, 1) := by decide +kernel
theorem dL_law_851 : decode cL_law 851 = .ok (.invokevirtual 89, 3) := by decide +kernel
theorem dL_law_854 : decode cL_law 854 = .ok (.iload 5, 2) := by decide +kernel
theorem dL_law_856 : decode cL_law 856 = .ok (.if_icmp .eq 5, 3) := by decide +kernel
theorem dL_law_859 : decode cL_law 859 = .ok (.iconst 0, 1) := by decide +kernel
theorem dL_law_860 : decode cL_law 860 = .ok (.ireturn, 1) := by decide +kernel
theorem dL_law_861 : decode cL_law 861 = .ok (.iload 5, 2) := by decide +kernel
theorem dL_law_863 : decode cL_law 863 = .ok (.ifCond .ne 22, 3) := by decide +kernel
theorem dL_law_866 : decode cL_law 866 = .ok (.aload_n 3, 1) := by decide +kernel
theorem dL_law_867 : decode cL_law 867 = .ok (.iconst 0, 1) := by decide +kernel
theorem dL_law_868 : decode cL_law 868 = .ok (.laload, 1) := by decide +kernel
theorem dL_law_869 : decode cL_law 869 = .ok (.iload 6, 2) := by decide +kernel
theorem dL_law_871 : decode cL_law 871 = .ok (.ifCond .eq 7, 3) := by decide +kernel
theorem dL_law_874 : decode cL_law 874 = .ok (.lconst 1, 1) := by decide +kernel
theorem dL_law_875 : decode cL_law 875 = .ok (.goto 4, 3) := by decide +kernel
theorem dL_law_878 : decode cL_law 878 = .ok (.lconst 0, 1) := by decide +kernel
theorem dL_law_879 : decode cL_law 879 = .ok (.lcmp, 1) := by decide +kernel
theorem dL_law_880 : decode cL_law 880 = .ok (.ifCond .eq 5, 3) := by decide +kernel
theorem dL_law_883 : decode cL_law 883 = .ok (.iconst 0, 1) := by decide +kernel
theorem dL_law_884 : decode cL_law 884 = .ok (.ireturn, 1) := by decide +kernel
theorem dL_law_885 : decode cL_law 885 = .ok (.goto 859, 3) := by decide +kernel
theorem dL_law_888 : decode cL_law 888 = .ok (.aload_n 1, 1) := by decide +kernel
theorem dL_law_889 : decode cL_law 889 = .ok (.aload_n 0, 1) := by decide +kernel
theorem dL_law_890 : decode cL_law 890 = .ok (.iload 4, 2) := by decide +kernel
theorem dL_law_892 : decode cL_law 892 = .ok (.iconst 1, 1) := by decide +kernel
theorem dL_law_893 : decode cL_law 893 = .ok (.iadd, 1) := by decide +kernel
theorem dL_law_894 : decode cL_law 894 = .ok (.iaload, 1) := by decide +kernel
theorem dL_law_895 : decode cL_law 895 = .ok (.aload_n 0, 1) := by decide +kernel
theorem dL_law_896 : decode cL_law 896 = .ok (.iload 4, 2) := by decide +kernel
theorem dL_law_898 : decode cL_law 898 = .ok (.iconst 2, 1) := by decide +kernel
theorem dL_law_899 : decode cL_law 899 = .ok (.iadd, 1) := by decide +kernel
theorem dL_law_900 : decode cL_law 900 = .ok (.iaload, 1) := by decide +kernel
theorem dL_law_901 : decode cL_law 901 = .ok (.aload_n 3, 1) := by decide +kernel
theorem dL_law_902 : decode cL_law 902 = .ok (.invokestatic 123, 3) := by decide +kernel
theorem dL_law_905 : decode cL_law 905 = .ok (.istore 5, 2) := by decide +kernel
theorem dL_law_907 : decode cL_law 907 = .ok (.aload_n 2, 1) := by decide +kernel
theorem dL_law_908 : decode cL_law 908 = .ok (.aload_n 0, 1) := by decide +kernel
theorem dL_law_909 : decode cL_law 909 = .ok (.iload 4, 2) := by decide +kernel
theorem dL_law_911 : decode cL_law 911 = .ok (.iconst 1, 1) := by decide +kernel
theorem dL_law_912 : decode cL_law 912 = .ok (.iadd, 1) := by decide +kernel
theorem dL_law_913 : decode cL_law 913 = .ok (.iaload, 1) := by decide +kernel
theorem dL_law_914 : decode cL_law 914 = .ok (.aload_n 0, 1) := by decide +kernel
theorem dL_law_915 : decode cL_law 915 = .ok (.iload 4, 2) := by decide +kernel
theorem dL_law_917 : decode cL_law 917 = .ok (.iconst 2, 1) := by decide +kernel
theorem dL_law_918 : decode cL_law 918 = .ok (.iadd, 1) := by decide +kernel
theorem dL_law_919 : decode cL_law 919 = .ok (.iaload, 1) := by decide +kernel
theorem dL_law_920 : decode cL_law 920 = .ok (.invokevirtual 125, 3) := by decide +kernel
theorem dL_law_923 : decode cL_law 923 = .ok (.istore 6, 2) := by decide +kernel
theorem dL_law_925 : decode cL_law 925 = .ok (.aload_n 2, 1) := by decide +kernel
theorem dL_law_926 : decode cL_law 926 = .ok (.invokevirtual 89, 3) := by decide +kernel
theorem dL_law_929 : decode cL_law 929 = .ok (.iload 5, 2) := by decide +kernel
theorem dL_law_931 : decode cL_law 931 = .ok (.if_icmp .eq 5, 3) := by decide +kernel
theorem dL_law_934 : decode cL_law 934 = .ok (.iconst 0, 1) := by decide +kernel
theorem dL_law_935 : decode cL_law 935 = .ok (.ireturn, 1) := by decide +kernel
theorem dL_law_936 : decode cL_law 936 = .ok (.iload 5, 2) := by decide +kernel
theorem dL_law_938 : decode cL_law 938 = .ok (.ifCond .ne 15, 3) := by decide +kernel
theorem dL_law_941 : decode cL_law 941 = .ok (.aload_n 3, 1) := by decide +kernel
theorem dL_law_942 : decode cL_law 942 = .ok (.iconst 0, 1) := by decide +kernel
theorem dL_law_943 : decode cL_law 943 = .ok (.laload, 1) := by decide +kernel
theorem dL_law_944 : decode cL_law 944 = .ok (.iload 6, 2) := by decide +kernel
theorem dL_law_946 : decode cL_law 946 = .ok (.i2l, 1) := by decide +kernel
theorem dL_law_947 : decode cL_law 947 = .ok (.lcmp, 1) := by decide +kernel
theorem dL_law_948 : decode cL_law 948 = .ok (.ifCond .eq 5, 3) := by decide +kernel
theorem dL_law_951 : decode cL_law 951 = .ok (.iconst 0, 1) := by decide +kernel
theorem dL_law_952 : decode cL_law 952 = .ok (.ireturn, 1) := by decide +kernel
theorem dL_law_953 : decode cL_law 953 = .ok (.goto 791, 3) := by decide +kernel
theorem dL_law_956 : decode cL_law 956 = .ok (.aload_n 1, 1) := by decide +kernel
theorem dL_law_957 : decode cL_law 957 = .ok (.aload_n 0, 1) := by decide +kernel
theorem dL_law_958 : decode cL_law 958 = .ok (.iload 4, 2) := by decide +kernel
theorem dL_law_960 : decode cL_law 960 = .ok (.iconst 1, 1) := by decide +kernel
theorem dL_law_961 : decode cL_law 961 = .ok (.iadd, 1) := by decide +kernel
theorem dL_law_962 : decode cL_law 962 = .ok (.iaload, 1) := by decide +kernel
theorem dL_law_963 : decode cL_law 963 = .ok (.invokevirtual 126, 3) := by decide +kernel
theorem dL_law_966 : decode cL_law 966 = .ok (.aload_n 2, 1) := by decide +kernel
theorem dL_law_967 : decode cL_law 967 = .ok (.aload_n 0, 1) := by decide +kernel
theorem dL_law_968 : decode cL_law 968 = .ok (.iload 4, 2) := by decide +kernel
theorem dL_law_970 : decode cL_law 970 = .ok (.iconst 1, 1) := by decide +kernel
theorem dL_law_971 : decode cL_law 971 = .ok (.iadd, 1) := by decide +kernel
theorem dL_law_972 : decode cL_law 972 = .ok (.iaload, 1) := by decide +kernel
theorem dL_law_973 : decode cL_law 973 = .ok (.invokevirtual 129, 3) := by decide +kernel
theorem dL_law_976 : decode cL_law 976 = .ok (.if_icmp .eq 768, 3) := by decide +kernel
theorem dL_law_979 : decode cL_law 979 = .ok (.iconst 0, 1) := by decide +kernel
theorem dL_law_980 : decode cL_law 980 = .ok (.ireturn, 1) := by decide +kernel
theorem dL_law_981 : decode cL_law 981 = .ok (.aload_n 1, 1) := by decide +kernel
theorem dL_law_982 : decode cL_law 982 = .ok (.aload_n 0, 1) := by decide +kernel
theorem dL_law_983 : decode cL_law 983 = .ok (.iload 4, 2) := by decide +kernel
theorem dL_law_985 : decode cL_law 985 = .ok (.iconst 1, 1) := by decide +kernel
theorem dL_law_986 : decode cL_law 986 = .ok (.iadd, 1) := by decide +kernel
theorem dL_law_987 : decode cL_law 987 = .ok (.iaload, 1) := by decide +kernel
theorem dL_law_988 : decode cL_law 988 = .ok (.invokevirtual 130, 3) := by decide +kernel
theorem dL_law_991 : decode cL_law 991 = .ok (.aload_n 2, 1) := by decide +kernel
theorem dL_law_992 : decode cL_law 992 = .ok (.aload_n 0, 1) := by decide +kernel
theorem dL_law_993 : decode cL_law 993 = .ok (.iload 4, 2) := by decide +kernel
theorem dL_law_995 : decode cL_law 995 = .ok (.iconst 1, 1) := by decide +kernel
theorem dL_law_996 : decode cL_law 996 = .ok (.iadd, 1) := by decide +kernel
theorem dL_law_997 : decode cL_law 997 = .ok (.iaload, 1) := by decide +kernel
theorem dL_law_998 : decode cL_law 998 = .ok (.invokevirtual 133, 3) := by decide +kernel
theorem dL_law_1001 : decode cL_law 1001 = .ok (.if_icmp .eq 743, 3) := by decide +kernel
theorem dL_law_1004 : decode cL_law 1004 = .ok (.iconst 0, 1) := by decide +kernel
theorem dL_law_1005 : decode cL_law 1005 = .ok (.ireturn, 1) := by decide +kernel
theorem dL_law_1006 : decode cL_law 1006 = .ok (.aload_n 1, 1) := by decide +kernel
theorem dL_law_1007 : decode cL_law 1007 = .ok (.invokevirtual 134, 3) := by decide +kernel
theorem dL_law_1010 : decode cL_law 1010 = .ok (.aload_n 2, 1) := by decide +kernel
theorem dL_law_1011 : decode cL_law 1011 = .ok (.invokevirtual 137, 3) := by decide +kernel
theorem dL_law_1014 : decode cL_law 1014 = .ok (.if_icmp .eq 730, 3) := by decide +kernel
theorem dL_law_1017 : decode cL_law 1017 = .ok (.iconst 0, 1) := by decide +kernel
theorem dL_law_1018 : decode cL_law 1018 = .ok (.ireturn, 1) := by decide +kernel
theorem dL_law_1019 : decode cL_law 1019 = .ok (.aload_n 1, 1) := by decide +kernel
theorem dL_law_1020 : decode cL_law 1020 = .ok (.invokevirtual 138, 3) := by decide +kernel
theorem dL_law_1023 : decode cL_law 1023 = .ok (.aload_n 2, 1) := by decide +kernel
theorem dL_law_1024 : decode cL_law 1024 = .ok (.invokevirtual 141, 3) := by decide +kernel
theorem dL_law_1027 : decode cL_law 1027 = .ok (.if_icmp .eq 717, 3) := by decide +kernel
theorem dL_law_1030 : decode cL_law 1030 = .ok (.iconst 0, 1) := by decide +kernel
theorem dL_law_1031 : decode cL_law 1031 = .ok (.ireturn, 1) := by decide +kernel
theorem dL_law_1032 : decode cL_law 1032 = .ok (.aload_n 1, 1) := by decide +kernel
theorem dL_law_1033 : decode cL_law 1033 = .ok (.aload_n 0, 1) := by decide +kernel
theorem dL_law_1034 : decode cL_law 1034 = .ok (.iload 4, 2) := by decide +kernel
theorem dL_law_1036 : decode cL_law 1036 = .ok (.iconst 1, 1) := by decide +kernel
theorem dL_law_1037 : decode cL_law 1037 = .ok (.iadd, 1) := by decide +kernel
theorem dL_law_1038 : decode cL_law 1038 = .ok (.iaload, 1) := by decide +kernel
theorem dL_law_1039 : decode cL_law 1039 = .ok (.aload_n 3, 1) := by decide +kernel
theorem dL_law_1040 : decode cL_law 1040 = .ok (.invokestatic 142, 3) := by decide +kernel
theorem dL_law_1043 : decode cL_law 1043 = .ok (.istore 5, 2) := by decide +kernel
theorem dL_law_1045 : decode cL_law 1045 = .ok (.aload_n 2, 1) := by decide +kernel
theorem dL_law_1046 : decode cL_law 1046 = .ok (.aload_n 0, 1) := by decide +kernel
theorem dL_law_1047 : decode cL_law 1047 = .ok (.iload 4, 2) := by decide +kernel
theorem dL_law_1049 : decode cL_law 1049 = .ok (.iconst 1, 1) := by decide +kernel
theorem dL_law_1050 : decode cL_law 1050 = .ok (.iadd, 1) := by decide +kernel
theorem dL_law_1051 : decode cL_law 1051 = .ok (.iaload, 1) := by decide +kernel
theorem dL_law_1052 : decode cL_law 1052 = .ok (.invokevirtual 144, 3) := by decide +kernel
theorem dL_law_1055 : decode cL_law 1055 = .ok (.istore 6, 2) := by decide +kernel
theorem dL_law_1057 : decode cL_law 1057 = .ok (.aload_n 2, 1) := by decide +kernel
theorem dL_law_1058 : decode cL_law 1058 = .ok (.invokevirtual 89, 3) := by decide +kernel
theorem dL_law_1061 : decode cL_law 1061 = .ok (.iload 5, 2) := by decide +kernel
theorem dL_law_1063 : decode cL_law 1063 = .ok (.if_icmp .eq 5, 3) := by decide +kernel
theorem dL_law_1066 : decode cL_law 1066 = .ok (.iconst 0, 1) := by decide +kernel
theorem dL_law_1067 : decode cL_law 1067 = .ok (.ireturn, 1) := by decide +kernel
theorem dL_law_1068 : decode cL_law 1068 = .ok (.iload 5, 2) := by decide +kernel
theorem dL_law_1070 : decode cL_law 1070 = .ok (.ifCond .ne 15, 3) := by decide +kernel
theorem dL_law_1073 : decode cL_law 1073 = .ok (.aload_n 3, 1) := by decide +kernel
theorem dL_law_1074 : decode cL_law 1074 = .ok (.iconst 0, 1) := by decide +kernel
theorem dL_law_1075 : decode cL_law 1075 = .ok (.laload, 1) := by decide +kernel
theorem dL_law_1076 : decode cL_law 1076 = .ok (.iload 6, 2) := by decide +kernel
theorem dL_law_1078 : decode cL_law 1078 = .ok (.i2l, 1) := by decide +kernel
theorem dL_law_1079 : decode cL_law 1079 = .ok (.lcmp, 1) := by decide +kernel
theorem dL_law_1080 : decode cL_law 1080 = .ok (.ifCond .eq 5, 3) := by decide +kernel
theorem dL_law_1083 : decode cL_law 1083 = .ok (.iconst 0, 1) := by decide +kernel
theorem dL_law_1084 : decode cL_law 1084 = .ok (.ireturn, 1) := by decide +kernel
theorem dL_law_1085 : decode cL_law 1085 = .ok (.goto 659, 3) := by decide +kernel
theorem dL_law_1088 : decode cL_law 1088 = .ok (.aload_n 1, 1) := by decide +kernel
theorem dL_law_1089 : decode cL_law 1089 = .ok (.invokevirtual 145, 3) := by decide +kernel
theorem dL_law_1092 : decode cL_law 1092 = .ok (.aload_n 2, 1) := by decide +kernel
theorem dL_law_1093 : decode cL_law 1093 = .ok (.invokevirtual 148, 3) := by decide +kernel
theorem dL_law_1096 : decode cL_law 1096 = .ok (.if_icmp .eq 648, 3) := by decide +kernel
theorem dL_law_1099 : decode cL_law 1099 = .ok (.iconst 0, 1) := by decide +kernel
theorem dL_law_1100 : decode cL_law 1100 = .ok (.ireturn, 1) := by decide +kernel
theorem dL_law_1101 : decode cL_law 1101 = .ok (.aload_n 1, 1) := by decide +kernel
theorem dL_law_1102 : decode cL_law 1102 = .ok (.invokevirtual 149, 3) := by decide +kernel
theorem dL_law_1105 : decode cL_law 1105 = .ok (.aload_n 2, 1) := by decide +kernel
theorem dL_law_1106 : decode cL_law 1106 = .ok (.invokevirtual 152, 3) := by decide +kernel
theorem dL_law_1109 : decode cL_law 1109 = .ok (.if_icmp .eq 635, 3) := by decide +kernel
theorem dL_law_1112 : decode cL_law 1112 = .ok (.iconst 0, 1) := by decide +kernel
theorem dL_law_1113 : decode cL_law 1113 = .ok (.ireturn, 1) := by decide +kernel
theorem dL_law_1114 : decode cL_law 1114 = .ok (.aload_n 1, 1) := by decide +kernel
theorem dL_law_1115 : decode cL_law 1115 = .ok (.invokevirtual 153, 3) := by decide +kernel
theorem dL_law_1118 : decode cL_law 1118 = .ok (.aload_n 2, 1) := by decide +kernel
theorem dL_law_1119 : decode cL_law 1119 = .ok (.invokevirtual 156, 3) := by decide +kernel
theorem dL_law_1122 : decode cL_law 1122 = .ok (.if_icmp .eq 622, 3) := by decide +kernel
theorem dL_law_1125 : decode cL_law 1125 = .ok (.iconst 0, 1) := by decide +kernel
theorem dL_law_1126 : decode cL_law 1126 = .ok (.ireturn, 1) := by decide +kernel
theorem dL_law_1127 : decode cL_law 1127 = .ok (.aload_n 1, 1) := by decide +kernel
theorem dL_law_1128 : decode cL_law 1128 = .ok (.invokevirtual 157, 3) := by decide +kernel
theorem dL_law_1131 : decode cL_law 1131 = .ok (.aload_n 2, 1) := by decide +kernel
theorem dL_law_1132 : decode cL_law 1132 = .ok (.invokevirtual 160, 3) := by decide +kernel
theorem dL_law_1135 : decode cL_law 1135 = .ok (.if_icmp .eq 609, 3) := by decide +kernel
theorem dL_law_1138 : decode cL_law 1138 = .ok (.iconst 0, 1) := by decide +kernel
theorem dL_law_1139 : decode cL_law 1139 = .ok (.ireturn, 1) := by decide +kernel
theorem dL_law_1140 : decode cL_law 1140 = .ok (.aload_n 1, 1) := by decide +kernel
theorem dL_law_1141 : decode cL_law 1141 = .ok (.invokevirtual 161, 3) := by decide +kernel
theorem dL_law_1144 : decode cL_law 1144 = .ok (.aload_n 2, 1) := by decide +kernel
theorem dL_law_1145 : decode cL_law 1145 = .ok (.invokevirtual 164, 3) := by decide +kernel
theorem dL_law_1148 : decode cL_law 1148 = .ok (.if_icmp .eq 596, 3) := by decide +kernel
theorem dL_law_1151 : decode cL_law 1151 = .ok (.iconst 0, 1) := by decide +kernel
theorem dL_law_1152 : decode cL_law 1152 = .ok (.ireturn, 1) := by decide +kernel
theorem dL_law_1153 : decode cL_law 1153 = .ok (.aload_n 1, 1) := by decide +kernel
theorem dL_law_1154 : decode cL_law 1154 = .ok (.aload_n 0, 1) := by decide +kernel
theorem dL_law_1155 : decode cL_law 1155 = .ok (.iload 4, 2) := by decide +kernel
theorem dL_law_1157 : decode cL_law 1157 = .ok (.iconst 1, 1) := by decide +kernel
theorem dL_law_1158 : decode cL_law 1158 = .ok (.iadd, 1) := by decide +kernel
theorem dL_law_1159 : decode cL_law 1159 = .ok (.iaload, 1) := by decide +kernel
theorem dL_law_1160 : decode cL_law 1160 = .ok (.aload_n 0, 1) := by decide +kernel
theorem dL_law_1161 : decode cL_law 1161 = .ok (.iload 4, 2) := by decide +kernel
theorem dL_law_1163 : decode cL_law 1163 = .ok (.iconst 2, 1) := by decide +kernel
theorem dL_law_1164 : decode cL_law 1164 = .ok (.iadd, 1) := by decide +kernel
theorem dL_law_1165 : decode cL_law 1165 = .ok (.iaload, 1) := by decide +kernel
theorem dL_law_1166 : decode cL_law 1166 = .ok (.aload_n 0, 1) := by decide +kernel
theorem dL_law_1167 : decode cL_law 1167 = .ok (.iload 4, 2) := by decide +kernel
theorem dL_law_1169 : decode cL_law 1169 = .ok (.iconst 3, 1) := by decide +kernel
theorem dL_law_1170 : decode cL_law 1170 = .ok (.iadd, 1) := by decide +kernel
theorem dL_law_1171 : decode cL_law 1171 = .ok (.iaload, 1) := by decide +kernel
theorem dL_law_1172 : decode cL_law 1172 = .ok (.aload_n 3, 1) := by decide +kernel
theorem dL_law_1173 : decode cL_law 1173 = .ok (.invokestatic 165, 3) := by decide +kernel
theorem dL_law_1176 : decode cL_law 1176 = .ok (.istore 5, 2) := by decide +kernel
theorem dL_law_1178 : decode cL_law 1178 = .ok (.aload_n 2, 1) := by decide +kernel
theorem dL_law_1179 : decode cL_law 1179 = .ok (.aload_n 0, 1) := by decide +kernel
theorem dL_law_1180 : decode cL_law 1180 = .ok (.iload 4, 2) := by decide +kernel
theorem dL_law_1182 : decode cL_law 1182 = .ok (.iconst 1, 1) := by decide +kernel
theorem dL_law_1183 : decode cL_law 1183 = .ok (.iadd, 1) := by decide +kernel
theorem dL_law_1184 : decode cL_law 1184 = .ok (.iaload, 1) := by decide +kernel
theorem dL_law_1185 : decode cL_law 1185 = .ok (.aload_n 0, 1) := by decide +kernel
theorem dL_law_1186 : decode cL_law 1186 = .ok (.iload 4, 2) := by decide +kernel
theorem dL_law_1188 : decode cL_law 1188 = .ok (.iconst 2, 1) := by decide +kernel
theorem dL_law_1189 : decode cL_law 1189 = .ok (.iadd, 1) := by decide +kernel
theorem dL_law_1190 : decode cL_law 1190 = .ok (.iaload, 1) := by decide +kernel
theorem dL_law_1191 : decode cL_law 1191 = .ok (.aload_n 0, 1) := by decide +kernel
theorem dL_law_1192 : decode cL_law 1192 = .ok (.iload 4, 2) := by decide +kernel
theorem dL_law_1194 : decode cL_law 1194 = .ok (.iconst 3, 1) := by decide +kernel
theorem dL_law_1195 : decode cL_law 1195 = .ok (.iadd, 1) := by decide +kernel
theorem dL_law_1196 : decode cL_law 1196 = .ok (.iaload, 1) := by decide +kernel
theorem dL_law_1197 : decode cL_law 1197 = .ok (.invokevirtual 167, 3) := by decide +kernel
theorem dL_law_1200 : decode cL_law 1200 = .ok (.istore 6, 2) := by decide +kernel
theorem dL_law_1202 : decode cL_law 1202 = .ok (.aload_n 2, 1) := by decide +kernel
theorem dL_law_1203 : decode cL_law 1203 = .ok (.invokevirtual 89, 3) := by decide +kernel
theorem dL_law_1206 : decode cL_law 1206 = .ok (.iload 5, 2) := by decide +kernel
theorem dL_law_1208 : decode cL_law 1208 = .ok (.if_icmp .eq 5, 3) := by decide +kernel
theorem dL_law_1211 : decode cL_law 1211 = .ok (.iconst 0, 1) := by decide +kernel
theorem dL_law_1212 : decode cL_law 1212 = .ok (.ireturn, 1) := by decide +kernel
theorem dL_law_1213 : decode cL_law 1213 = .ok (.iload 5, 2) := by decide +kernel
theorem dL_law_1215 : decode cL_law 1215 = .ok (.ifCond .ne 15, 3) := by decide +kernel
theorem dL_law_1218 : decode cL_law 1218 = .ok (.aload_n 3, 1) := by decide +kernel
theorem dL_law_1219 : decode cL_law 1219 = .ok (.iconst 0, 1) := by decide +kernel
theorem dL_law_1220 : decode cL_law 1220 = .ok (.laload, 1) := by decide +kernel
theorem dL_law_1221 : decode cL_law 1221 = .ok (.iload 6, 2) := by decide +kernel
theorem dL_law_1223 : decode cL_law 1223 = .ok (.i2l, 1) := by decide +kernel
theorem dL_law_1224 : decode cL_law 1224 = .ok (.lcmp, 1) := by decide +kernel
theorem dL_law_1225 : decode cL_law 1225 = .ok (.ifCond .eq 5, 3) := by decide +kernel
theorem dL_law_1228 : decode cL_law 1228 = .ok (.iconst 0, 1) := by decide +kernel
theorem dL_law_1229 : decode cL_law 1229 = .ok (.ireturn, 1) := by decide +kernel
theorem dL_law_1230 : decode cL_law 1230 = .ok (.goto 514, 3) := by decide +kernel
theorem dL_law_1233 : decode cL_law 1233 = .ok (.aload_n 1, 1) := by decide +kernel
theorem dL_law_1234 : decode cL_law 1234 = .ok (.aload_n 0, 1) := by decide +kernel
theorem dL_law_1235 : decode cL_law 1235 = .ok (.iload 4, 2) := by decide +kernel
theorem dL_law_1237 : decode cL_law 1237 = .ok (.iconst 1, 1) := by decide +kernel
theorem dL_law_1238 : decode cL_law 1238 = .ok (.iadd, 1) := by decide +kernel
theorem dL_law_1239 : decode cL_law 1239 = .ok (.iaload, 1) := by decide +kernel
theorem dL_law_1240 : decode cL_law 1240 = .ok (.aload_n 3, 1) := by decide +kernel
theorem dL_law_1241 : decode cL_law 1241 = .ok (.invokestatic 168, 3) := by decide +kernel
theorem dL_law_1244 : decode cL_law 1244 = .ok (.istore 5, 2) := by decide +kernel
theorem dL_law_1246 : decode cL_law 1246 = .ok (.aload_n 2, 1) := by decide +kernel
theorem dL_law_1247 : decode cL_law 1247 = .ok (.aload_n 0, 1) := by decide +kernel
theorem dL_law_1248 : decode cL_law 1248 = .ok (.iload 4, 2) := by decide +kernel
theorem dL_law_1250 : decode cL_law 1250 = .ok (.iconst 1, 1) := by decide +kernel
theorem dL_law_1251 : decode cL_law 1251 = .ok (.iadd, 1) := by decide +kernel
theorem dL_law_1252 : decode cL_law 1252 = .ok (.iaload, 1) := by decide +kernel
theorem dL_law_1253 : decode cL_law 1253 = .ok (.invokevirtual 170, 3) := by decide +kernel
theorem dL_law_1256 : decode cL_law 1256 = .ok (.istore 6, 2) := by decide +kernel
theorem dL_law_1258 : decode cL_law 1258 = .ok (.aload_n 2, 1) := by decide +kernel
theorem dL_law_1259 : decode cL_law 1259 = .ok (.invokevirtual 89, 3) := by decide +kernel
theorem dL_law_1262 : decode cL_law 1262 = .ok (.iload 5, 2) := by decide +kernel
theorem dL_law_1264 : decode cL_law 1264 = .ok (.if_icmp .eq 5, 3) := by decide +kernel
theorem dL_law_1267 : decode cL_law 1267 = .ok (.iconst 0, 1) := by decide +kernel
theorem dL_law_1268 : decode cL_law 1268 = .ok (.ireturn, 1) := by decide +kernel
theorem dL_law_1269 : decode cL_law 1269 = .ok (.iload 5, 2) := by decide +kernel
theorem dL_law_1271 : decode cL_law 1271 = .ok (.ifCond .ne 15, 3) := by decide +kernel
theorem dL_law_1274 : decode cL_law 1274 = .ok (.aload_n 3, 1) := by decide +kernel
theorem dL_law_1275 : decode cL_law 1275 = .ok (.iconst 0, 1) := by decide +kernel
theorem dL_law_1276 : decode cL_law 1276 = .ok (.laload, 1) := by decide +kernel
theorem dL_law_1277 : decode cL_law 1277 = .ok (.iload 6, 2) := by decide +kernel
theorem dL_law_1279 : decode cL_law 1279 = .ok (.i2l, 1) := by decide +kernel
theorem dL_law_1280 : decode cL_law 1280 = .ok (.lcmp, 1) := by decide +kernel
theorem dL_law_1281 : decode cL_law 1281 = .ok (.ifCond .eq 5, 3) := by decide +kernel
theorem dL_law_1284 : decode cL_law 1284 = .ok (.iconst 0, 1) := by decide +kernel
theorem dL_law_1285 : decode cL_law 1285 = .ok (.ireturn, 1) := by decide +kernel
theorem dL_law_1286 : decode cL_law 1286 = .ok (.goto 458, 3) := by decide +kernel
theorem dL_law_1289 : decode cL_law 1289 = .ok (.aload_n 1, 1) := by decide +kernel
theorem dL_law_1290 : decode cL_law 1290 = .ok (.aload_n 0, 1) := by decide +kernel
theorem dL_law_1291 : decode cL_law 1291 = .ok (.iload 4, 2) := by decide +kernel
theorem dL_law_1293 : decode cL_law 1293 = .ok (.iconst 1, 1) := by decide +kernel
theorem dL_law_1294 : decode cL_law 1294 = .ok (.iadd, 1) := by decide +kernel
theorem dL_law_1295 : decode cL_law 1295 = .ok (.iaload, 1) := by decide +kernel
theorem dL_law_1296 : decode cL_law 1296 = .ok (.aload_n 0, 1) := by decide +kernel
theorem dL_law_1297 : decode cL_law 1297 = .ok (.iload 4, 2) := by decide +kernel
theorem dL_law_1299 : decode cL_law 1299 = .ok (.iconst 2, 1) := by decide +kernel
theorem dL_law_1300 : decode cL_law 1300 = .ok (.iadd, 1) := by decide +kernel
theorem dL_law_1301 : decode cL_law 1301 = .ok (.iaload, 1) := by decide +kernel
theorem dL_law_1302 : decode cL_law 1302 = .ok (.aload_n 3, 1) := by decide +kernel
theorem dL_law_1303 : decode cL_law 1303 = .ok (.invokestatic 171, 3) := by decide +kernel
theorem dL_law_1306 : decode cL_law 1306 = .ok (.istore 5, 2) := by decide +kernel
theorem dL_law_1308 : decode cL_law 1308 = .ok (.aload_n 2, 1) := by decide +kernel
theorem dL_law_1309 : decode cL_law 1309 = .ok (.aload_n 0, 1) := by decide +kernel
theorem dL_law_1310 : decode cL_law 1310 = .ok (.iload 4, 2) := by decide +kernel
theorem dL_law_1312 : decode cL_law 1312 = .ok (.iconst 1, 1) := by decide +kernel
theorem dL_law_1313 : decode cL_law 1313 = .ok (.iadd, 1) := by decide +kernel
theorem dL_law_1314 : decode cL_law 1314 = .ok (.iaload, 1) := by decide +kernel
theorem dL_law_1315 : decode cL_law 1315 = .ok (.aload_n 0, 1) := by decide +kernel
theorem dL_law_1316 : decode cL_law 1316 = .ok (.iload 4, 2) := by decide +kernel
theorem dL_law_1318 : decode cL_law 1318 = .ok (.iconst 2, 1) := by decide +kernel
theorem dL_law_1319 : decode cL_law 1319 = .ok (.iadd, 1) := by decide +kernel
theorem dL_law_1320 : decode cL_law 1320 = .ok (.iaload, 1) := by decide +kernel
theorem dL_law_1321 : decode cL_law 1321 = .ok (.invokevirtual 173, 3) := by decide +kernel
theorem dL_law_1324 : decode cL_law 1324 = .ok (.istore 6, 2) := by decide +kernel
theorem dL_law_1326 : decode cL_law 1326 = .ok (.aload_n 2, 1) := by decide +kernel
theorem dL_law_1327 : decode cL_law 1327 = .ok (.invokevirtual 89, 3) := by decide +kernel
theorem dL_law_1330 : decode cL_law 1330 = .ok (.iload 5, 2) := by decide +kernel
theorem dL_law_1332 : decode cL_law 1332 = .ok (.if_icmp .eq 5, 3) := by decide +kernel
theorem dL_law_1335 : decode cL_law 1335 = .ok (.iconst 0, 1) := by decide +kernel
theorem dL_law_1336 : decode cL_law 1336 = .ok (.ireturn, 1) := by decide +kernel
theorem dL_law_1337 : decode cL_law 1337 = .ok (.iload 5, 2) := by decide +kernel
theorem dL_law_1339 : decode cL_law 1339 = .ok (.ifCond .ne 15, 3) := by decide +kernel
theorem dL_law_1342 : decode cL_law 1342 = .ok (.aload_n 3, 1) := by decide +kernel
theorem dL_law_1343 : decode cL_law 1343 = .ok (.iconst 0, 1) := by decide +kernel
theorem dL_law_1344 : decode cL_law 1344 = .ok (.laload, 1) := by decide +kernel
theorem dL_law_1345 : decode cL_law 1345 = .ok (.iload 6, 2) := by decide +kernel
theorem dL_law_1347 : decode cL_law 1347 = .ok (.i2l, 1) := by decide +kernel
theorem dL_law_1348 : decode cL_law 1348 = .ok (.lcmp, 1) := by decide +kernel
theorem dL_law_1349 : decode cL_law 1349 = .ok (.ifCond .eq 5, 3) := by decide +kernel
theorem dL_law_1352 : decode cL_law 1352 = .ok (.iconst 0, 1) := by decide +kernel
theorem dL_law_1353 : decode cL_law 1353 = .ok (.ireturn, 1) := by decide +kernel
theorem dL_law_1354 : decode cL_law 1354 = .ok (.goto 390, 3) := by decide +kernel
theorem dL_law_1357 : decode cL_law 1357 = .ok (.aload_n 1, 1) := by decide +kernel
theorem dL_law_1358 : decode cL_law 1358 = .ok (.aload_n 0, 1) := by decide +kernel
theorem dL_law_1359 : decode cL_law 1359 = .ok (.iload 4, 2) := by decide +kernel
theorem dL_law_1361 : decode cL_law 1361 = .ok (.iconst 1, 1) := by decide +kernel
theorem dL_law_1362 : decode cL_law 1362 = .ok (.iadd, 1) := by decide +kernel
theorem dL_law_1363 : decode cL_law 1363 = .ok (.iaload, 1) := by decide +kernel
theorem dL_law_1364 : decode cL_law 1364 = .ok (.aload_n 3, 1) := by decide +kernel
theorem dL_law_1365 : decode cL_law 1365 = .ok (.invokestatic 174, 3) := by decide +kernel
theorem dL_law_1368 : decode cL_law 1368 = .ok (.istore 5, 2) := by decide +kernel
theorem dL_law_1370 : decode cL_law 1370 = .ok (.aload_n 2, 1) := by decide +kernel
theorem dL_law_1371 : decode cL_law 1371 = .ok (.aload_n 0, 1) := by decide +kernel
theorem dL_law_1372 : decode cL_law 1372 = .ok (.iload 4, 2) := by decide +kernel
theorem dL_law_1374 : decode cL_law 1374 = .ok (.iconst 1, 1) := by decide +kernel
theorem dL_law_1375 : decode cL_law 1375 = .ok (.iadd, 1) := by decide +kernel
theorem dL_law_1376 : decode cL_law 1376 = .ok (.iaload, 1) := by decide +kernel
theorem dL_law_1377 : decode cL_law 1377 = .ok (.invokevirtual 176, 3) := by decide +kernel
theorem dL_law_1380 : decode cL_law 1380 = .ok (.istore 6, 2) := by decide +kernel
theorem dL_law_1382 : decode cL_law 1382 = .ok (.aload_n 2, 1) := by decide +kernel
theorem dL_law_1383 : decode cL_law 1383 = .ok (.invokevirtual 89, 3) := by decide +kernel
theorem dL_law_1386 : decode cL_law 1386 = .ok (.iload 5, 2) := by decide +kernel
theorem dL_law_1388 : decode cL_law 1388 = .ok (.if_icmp .eq 5, 3) := by decide +kernel
theorem dL_law_1391 : decode cL_law 1391 = .ok (.iconst 0, 1) := by decide +kernel
theorem dL_law_1392 : decode cL_law 1392 = .ok (.ireturn, 1) := by decide +kernel
theorem dL_law_1393 : decode cL_law 1393 = .ok (.iload 5, 2) := by decide +kernel
theorem dL_law_1395 : decode cL_law 1395 = .ok (.ifCond .ne 15, 3) := by decide +kernel
theorem dL_law_1398 : decode cL_law 1398 = .ok (.aload_n 3, 1) := by decide +kernel
theorem dL_law_1399 : decode cL_law 1399 = .ok (.iconst 0, 1) := by decide +kernel
theorem dL_law_1400 : decode cL_law 1400 = .ok (.laload, 1) := by decide +kernel
theorem dL_law_1401 : decode cL_law 1401 = .ok (.iload 6, 2) := by decide +kernel
theorem dL_law_1403 : decode cL_law 1403 = .ok (.i2l, 1) := by decide +kernel
theorem dL_law_1404 : decode cL_law 1404 = .ok (.lcmp, 1) := by decide +kernel
theorem dL_law_1405 : decode cL_law 1405 = .ok (.ifCond .eq 5, 3) := by decide +kernel
theorem dL_law_1408 : decode cL_law 1408 = .ok (.iconst 0, 1) := by decide +kernel
theorem dL_law_1409 : decode cL_law 1409 = .ok (.ireturn, 1) := by decide +kernel
theorem dL_law_1410 : decode cL_law 1410 = .ok (.goto 334, 3) := by decide +kernel
theorem dL_law_1413 : decode cL_law 1413 = .ok (.aload_n 1, 1) := by decide +kernel
theorem dL_law_1414 : decode cL_law 1414 = .ok (.aload_n 0, 1) := by decide +kernel
theorem dL_law_1415 : decode cL_law 1415 = .ok (.iload 4, 2) := by decide +kernel
theorem dL_law_1417 : decode cL_law 1417 = .ok (.iconst 1, 1) := by decide +kernel
theorem dL_law_1418 : decode cL_law 1418 = .ok (.iadd, 1) := by decide +kernel
theorem dL_law_1419 : decode cL_law 1419 = .ok (.iaload, 1) := by decide +kernel
theorem dL_law_1420 : decode cL_law 1420 = .ok (.aload_n 0, 1) := by decide +kernel
theorem dL_law_1421 : decode cL_law 1421 = .ok (.iload 4, 2) := by decide +kernel
theorem dL_law_1423 : decode cL_law 1423 = .ok (.iconst 2, 1) := by decide +kernel
theorem dL_law_1424 : decode cL_law 1424 = .ok (.iadd, 1) := by decide +kernel
theorem dL_law_1425 : decode cL_law 1425 = .ok (.iaload, 1) := by decide +kernel
theorem dL_law_1426 : decode cL_law 1426 = .ok (.aload_n 3, 1) := by decide +kernel
theorem dL_law_1427 : decode cL_law 1427 = .ok (.invokestatic 177, 3) := by decide +kernel
theorem dL_law_1430 : decode cL_law 1430 = .ok (.istore 5, 2) := by decide +kernel
theorem dL_law_1432 : decode cL_law 1432 = .ok (.aload_n 2, 1) := by decide +kernel
theorem dL_law_1433 : decode cL_law 1433 = .ok (.aload_n 0, 1) := by decide +kernel
theorem dL_law_1434 : decode cL_law 1434 = .ok (.iload 4, 2) := by decide +kernel
theorem dL_law_1436 : decode cL_law 1436 = .ok (.iconst 1, 1) := by decide +kernel
theorem dL_law_1437 : decode cL_law 1437 = .ok (.iadd, 1) := by decide +kernel
theorem dL_law_1438 : decode cL_law 1438 = .ok (.iaload, 1) := by decide +kernel
theorem dL_law_1439 : decode cL_law 1439 = .ok (.aload_n 0, 1) := by decide +kernel
theorem dL_law_1440 : decode cL_law 1440 = .ok (.iload 4, 2) := by decide +kernel
theorem dL_law_1442 : decode cL_law 1442 = .ok (.iconst 2, 1) := by decide +kernel
theorem dL_law_1443 : decode cL_law 1443 = .ok (.iadd, 1) := by decide +kernel
theorem dL_law_1444 : decode cL_law 1444 = .ok (.iaload, 1) := by decide +kernel
theorem dL_law_1445 : decode cL_law 1445 = .ok (.invokevirtual 179, 3) := by decide +kernel
theorem dL_law_1448 : decode cL_law 1448 = .ok (.istore 6, 2) := by decide +kernel
theorem dL_law_1450 : decode cL_law 1450 = .ok (.aload_n 2, 1) := by decide +kernel
theorem dL_law_1451 : decode cL_law 1451 = .ok (.invokevirtual 89, 3) := by decide +kernel
theorem dL_law_1454 : decode cL_law 1454 = .ok (.iload 5, 2) := by decide +kernel
theorem dL_law_1456 : decode cL_law 1456 = .ok (.if_icmp .eq 5, 3) := by decide +kernel
theorem dL_law_1459 : decode cL_law 1459 = .ok (.iconst 0, 1) := by decide +kernel
theorem dL_law_1460 : decode cL_law 1460 = .ok (.ireturn, 1) := by decide +kernel
theorem dL_law_1461 : decode cL_law 1461 = .ok (.iload 5, 2) := by decide +kernel
theorem dL_law_1463 : decode cL_law 1463 = .ok (.ifCond .ne 15, 3) := by decide +kernel
theorem dL_law_1466 : decode cL_law 1466 = .ok (.aload_n 3, 1) := by decide +kernel
theorem dL_law_1467 : decode cL_law 1467 = .ok (.iconst 0, 1) := by decide +kernel
theorem dL_law_1468 : decode cL_law 1468 = .ok (.laload, 1) := by decide +kernel
theorem dL_law_1469 : decode cL_law 1469 = .ok (.iload 6, 2) := by decide +kernel
theorem dL_law_1471 : decode cL_law 1471 = .ok (.i2l, 1) := by decide +kernel
theorem dL_law_1472 : decode cL_law 1472 = .ok (.lcmp, 1) := by decide +kernel
theorem dL_law_1473 : decode cL_law 1473 = .ok (.ifCond .eq 5, 3) := by decide +kernel
theorem dL_law_1476 : decode cL_law 1476 = .ok (.iconst 0, 1) := by decide +kernel
theorem dL_law_1477 : decode cL_law 1477 = .ok (.ireturn, 1) := by decide +kernel
theorem dL_law_1478 : decode cL_law 1478 = .ok (.goto 266, 3) := by decide +kernel
theorem dL_law_1481 : decode cL_law 1481 = .ok (.aload_n 1, 1) := by decide +kernel
theorem dL_law_1482 : decode cL_law 1482 = .ok (.aload_n 0, 1) := by decide +kernel
theorem dL_law_1483 : decode cL_law 1483 = .ok (.iload 4, 2) := by decide +kernel
theorem dL_law_1485 : decode cL_law 1485 = .ok (.iconst 1, 1) := by decide +kernel
theorem dL_law_1486 : decode cL_law 1486 = .ok (.iadd, 1) := by decide +kernel
theorem dL_law_1487 : decode cL_law 1487 = .ok (.iaload, 1) := by decide +kernel
theorem dL_law_1488 : decode cL_law 1488 = .ok (.aload_n 0, 1) := by decide +kernel
theorem dL_law_1489 : decode cL_law 1489 = .ok (.iload 4, 2) := by decide +kernel
theorem dL_law_1491 : decode cL_law 1491 = .ok (.iconst 2, 1) := by decide +kernel
theorem dL_law_1492 : decode cL_law 1492 = .ok (.iadd, 1) := by decide +kernel
theorem dL_law_1493 : decode cL_law 1493 = .ok (.iaload, 1) := by decide +kernel
theorem dL_law_1494 : decode cL_law 1494 = .ok (.aload_n 3, 1) := by decide +kernel
theorem dL_law_1495 : decode cL_law 1495 = .ok (.invokestatic 180, 3) := by decide +kernel
theorem dL_law_1498 : decode cL_law 1498 = .ok (.istore 5, 2) := by decide +kernel
theorem dL_law_1500 : decode cL_law 1500 = .ok (.aload_n 2, 1) := by decide +kernel
theorem dL_law_1501 : decode cL_law 1501 = .ok (.aload_n 0, 1) := by decide +kernel
theorem dL_law_1502 : decode cL_law 1502 = .ok (.iload 4, 2) := by decide +kernel
theorem dL_law_1504 : decode cL_law 1504 = .ok (.iconst 1, 1) := by decide +kernel
theorem dL_law_1505 : decode cL_law 1505 = .ok (.iadd, 1) := by decide +kernel
theorem dL_law_1506 : decode cL_law 1506 = .ok (.iaload, 1) := by decide +kernel
theorem dL_law_1507 : decode cL_law 1507 = .ok (.aload_n 0, 1) := by decide +kernel
theorem dL_law_1508 : decode cL_law 1508 = .ok (.iload 4, 2) := by decide +kernel
theorem dL_law_1510 : decode cL_law 1510 = .ok (.iconst 2, 1) := by decide +kernel
theorem dL_law_1511 : decode cL_law 1511 = .ok (.iadd, 1) := by decide +kernel
theorem dL_law_1512 : decode cL_law 1512 = .ok (.iaload, 1) := by decide +kernel
theorem dL_law_1513 : decode cL_law 1513 = .ok (.invokevirtual 182, 3) := by decide +kernel
theorem dL_law_1516 : decode cL_law 1516 = .ok (.istore 6, 2) := by decide +kernel
theorem dL_law_1518 : decode cL_law 1518 = .ok (.aload_n 2, 1) := by decide +kernel
theorem dL_law_1519 : decode cL_law 1519 = .ok (.invokevirtual 89, 3) := by decide +kernel
theorem dL_law_1522 : decode cL_law 1522 = .ok (.iload 5, 2) := by decide +kernel
theorem dL_law_1524 : decode cL_law 1524 = .ok (.if_icmp .eq 5, 3) := by decide +kernel
theorem dL_law_1527 : decode cL_law 1527 = .ok (.iconst 0, 1) := by decide +kernel
theorem dL_law_1528 : decode cL_law 1528 = .ok (.ireturn, 1) := by decide +kernel
theorem dL_law_1529 : decode cL_law 1529 = .ok (.iload 5, 2) := by decide +kernel
theorem dL_law_1531 : decode cL_law 1531 = .ok (.ifCond .ne 15, 3) := by decide +kernel
theorem dL_law_1534 : decode cL_law 1534 = .ok (.aload_n 3, 1) := by decide +kernel
theorem dL_law_1535 : decode cL_law 1535 = .ok (.iconst 0, 1) := by decide +kernel
theorem dL_law_1536 : decode cL_law 1536 = .ok (.laload, 1) := by decide +kernel
theorem dL_law_1537 : decode cL_law 1537 = .ok (.iload 6, 2) := by decide +kernel
theorem dL_law_1539 : decode cL_law 1539 = .ok (.i2l, 1) := by decide +kernel
theorem dL_law_1540 : decode cL_law 1540 = .ok (.lcmp, 1) := by decide +kernel
theorem dL_law_1541 : decode cL_law 1541 = .ok (.ifCond .eq 5, 3) := by decide +kernel
theorem dL_law_1544 : decode cL_law 1544 = .ok (.iconst 0, 1) := by decide +kernel
theorem dL_law_1545 : decode cL_law 1545 = .ok (.ireturn, 1) := by decide +kernel
theorem dL_law_1546 : decode cL_law 1546 = .ok (.goto 198, 3) := by decide +kernel
theorem dL_law_1549 : decode cL_law 1549 = .ok (.aload_n 1, 1) := by decide +kernel
theorem dL_law_1550 : decode cL_law 1550 = .ok (.invokevirtual 183, 3) := by decide +kernel
theorem dL_law_1553 : decode cL_law 1553 = .ok (.aload_n 2, 1) := by decide +kernel
theorem dL_law_1554 : decode cL_law 1554 = .ok (.invokevirtual 186, 3) := by decide +kernel
theorem dL_law_1557 : decode cL_law 1557 = .ok (.goto 187, 3) := by decide +kernel
theorem dL_law_1560 : decode cL_law 1560 = .ok (.aload_n 1, 1) := by decide +kernel
theorem dL_law_1561 : decode cL_law 1561 = .ok (.aload_n 0, 1) := by decide +kernel
theorem dL_law_1562 : decode cL_law 1562 = .ok (.iload 4, 2) := by decide +kernel
theorem dL_law_1564 : decode cL_law 1564 = .ok (.iconst 1, 1) := by decide +kernel
theorem dL_law_1565 : decode cL_law 1565 = .ok (.iadd, 1) := by decide +kernel
theorem dL_law_1566 : decode cL_law 1566 = .ok (.iaload, 1) := by decide +kernel
theorem dL_law_1567 : decode cL_law 1567 = .ok (.aload_n 0, 1) := by decide +kernel
theorem dL_law_1568 : decode cL_law 1568 = .ok (.iload 4, 2) := by decide +kernel
theorem dL_law_1570 : decode cL_law 1570 = .ok (.iconst 2, 1) := by decide +kernel
theorem dL_law_1571 : decode cL_law 1571 = .ok (.iadd, 1) := by decide +kernel
theorem dL_law_1572 : decode cL_law 1572 = .ok (.iaload, 1) := by decide +kernel
theorem dL_law_1573 : decode cL_law 1573 = .ok (.aload_n 0, 1) := by decide +kernel
theorem dL_law_1574 : decode cL_law 1574 = .ok (.iload 4, 2) := by decide +kernel
theorem dL_law_1576 : decode cL_law 1576 = .ok (.iconst 3, 1) := by decide +kernel
theorem dL_law_1577 : decode cL_law 1577 = .ok (.iadd, 1) := by decide +kernel
theorem dL_law_1578 : decode cL_law 1578 = .ok (.iaload, 1) := by decide +kernel
theorem dL_law_1579 : decode cL_law 1579 = .ok (.aload_n 3, 1) := by decide +kernel
theorem dL_law_1580 : decode cL_law 1580 = .ok (.invokestatic 187, 3) := by decide +kernel
theorem dL_law_1583 : decode cL_law 1583 = .ok (.istore 5, 2) := by decide +kernel
theorem dL_law_1585 : decode cL_law 1585 = .ok (.aload_n 2, 1) := by decide +kernel
theorem dL_law_1586 : decode cL_law 1586 = .ok (.aload_n 0, 1) := by decide +kernel
theorem dL_law_1587 : decode cL_law 1587 = .ok (.iload 4, 2) := by decide +kernel
theorem dL_law_1589 : decode cL_law 1589 = .ok (.iconst 1, 1) := by decide +kernel
theorem dL_law_1590 : decode cL_law 1590 = .ok (.iadd, 1) := by decide +kernel
theorem dL_law_1591 : decode cL_law 1591 = .ok (.iaload, 1) := by decide +kernel
theorem dL_law_1592 : decode cL_law 1592 = .ok (.aload_n 0, 1) := by decide +kernel
theorem dL_law_1593 : decode cL_law 1593 = .ok (.iload 4, 2) := by decide +kernel
theorem dL_law_1595 : decode cL_law 1595 = .ok (.iconst 2, 1) := by decide +kernel
theorem dL_law_1596 : decode cL_law 1596 = .ok (.iadd, 1) := by decide +kernel
theorem dL_law_1597 : decode cL_law 1597 = .ok (.iaload, 1) := by decide +kernel
theorem dL_law_1598 : decode cL_law 1598 = .ok (.aload_n 0, 1) := by decide +kernel
theorem dL_law_1599 : decode cL_law 1599 = .ok (.iload 4, 2) := by decide +kernel
theorem dL_law_1601 : decode cL_law 1601 = .ok (.iconst 3, 1) := by decide +kernel
theorem dL_law_1602 : decode cL_law 1602 = .ok (.iadd, 1) := by decide +kernel
theorem dL_law_1603 : decode cL_law 1603 = .ok (.iaload, 1) := by decide +kernel
theorem dL_law_1604 : decode cL_law 1604 = .ok (.invokevirtual 189, 3) := by decide +kernel
theorem dL_law_1607 : decode cL_law 1607 = .ok (.istore 6, 2) := by decide +kernel
theorem dL_law_1609 : decode cL_law 1609 = .ok (.aload_n 2, 1) := by decide +kernel
theorem dL_law_1610 : decode cL_law 1610 = .ok (.invokevirtual 89, 3) := by decide +kernel
theorem dL_law_1613 : decode cL_law 1613 = .ok (.iload 5, 2) := by decide +kernel
theorem dL_law_1615 : decode cL_law 1615 = .ok (.if_icmp .eq 5, 3) := by decide +kernel
theorem dL_law_1618 : decode cL_law 1618 = .ok (.iconst 0, 1) := by decide +kernel
theorem dL_law_1619 : decode cL_law 1619 = .ok (.ireturn, 1) := by decide +kernel
theorem dL_law_1620 : decode cL_law 1620 = .ok (.iload 5, 2) := by decide +kernel
theorem dL_law_1622 : decode cL_law 1622 = .ok (.ifCond .ne 15, 3) := by decide +kernel
theorem dL_law_1625 : decode cL_law 1625 = .ok (.aload_n 3, 1) := by decide +kernel
theorem dL_law_1626 : decode cL_law 1626 = .ok (.iconst 0, 1) := by decide +kernel
theorem dL_law_1627 : decode cL_law 1627 = .ok (.laload, 1) := by decide +kernel
theorem dL_law_1628 : decode cL_law 1628 = .ok (.iload 6, 2) := by decide +kernel
theorem dL_law_1630 : decode cL_law 1630 = .ok (.i2l, 1) := by decide +kernel
theorem dL_law_1631 : decode cL_law 1631 = .ok (.lcmp, 1) := by decide +kernel
theorem dL_law_1632 : decode cL_law 1632 = .ok (.ifCond .eq 5, 3) := by decide +kernel
theorem dL_law_1635 : decode cL_law 1635 = .ok (.iconst 0, 1) := by decide +kernel
theorem dL_law_1636 : decode cL_law 1636 = .ok (.ireturn, 1) := by decide +kernel
theorem dL_law_1637 : decode cL_law 1637 = .ok (.goto 107, 3) := by decide +kernel
theorem dL_law_1640 : decode cL_law 1640 = .ok (.aload_n 1, 1) := by decide +kernel
theorem dL_law_1641 : decode cL_law 1641 = .ok (.aload_n 0, 1) := by decide +kernel
theorem dL_law_1642 : decode cL_law 1642 = .ok (.iload 4, 2) := by decide +kernel
theorem dL_law_1644 : decode cL_law 1644 = .ok (.iconst 1, 1) := by decide +kernel
theorem dL_law_1645 : decode cL_law 1645 = .ok (.iadd, 1) := by decide +kernel
theorem dL_law_1646 : decode cL_law 1646 = .ok (.iaload, 1) := by decide +kernel
theorem dL_law_1647 : decode cL_law 1647 = .ok (.aload_n 0, 1) := by decide +kernel
theorem dL_law_1648 : decode cL_law 1648 = .ok (.iload 4, 2) := by decide +kernel
theorem dL_law_1650 : decode cL_law 1650 = .ok (.iconst 2, 1) := by decide +kernel
theorem dL_law_1651 : decode cL_law 1651 = .ok (.iadd, 1) := by decide +kernel
theorem dL_law_1652 : decode cL_law 1652 = .ok (.iaload, 1) := by decide +kernel
theorem dL_law_1653 : decode cL_law 1653 = .ok (.aload_n 0, 1) := by decide +kernel
theorem dL_law_1654 : decode cL_law 1654 = .ok (.iload 4, 2) := by decide +kernel
theorem dL_law_1656 : decode cL_law 1656 = .ok (.iconst 3, 1) := by decide +kernel
theorem dL_law_1657 : decode cL_law 1657 = .ok (.iadd, 1) := by decide +kernel
theorem dL_law_1658 : decode cL_law 1658 = .ok (.iaload, 1) := by decide +kernel
theorem dL_law_1659 : decode cL_law 1659 = .ok (.aload_n 3, 1) := by decide +kernel
theorem dL_law_1660 : decode cL_law 1660 = .ok (.invokestatic 190, 3) := by decide +kernel
theorem dL_law_1663 : decode cL_law 1663 = .ok (.istore 5, 2) := by decide +kernel
theorem dL_law_1665 : decode cL_law 1665 = .ok (.aload_n 2, 1) := by decide +kernel
theorem dL_law_1666 : decode cL_law 1666 = .ok (.aload_n 0, 1) := by decide +kernel
theorem dL_law_1667 : decode cL_law 1667 = .ok (.iload 4, 2) := by decide +kernel
theorem dL_law_1669 : decode cL_law 1669 = .ok (.iconst 1, 1) := by decide +kernel
theorem dL_law_1670 : decode cL_law 1670 = .ok (.iadd, 1) := by decide +kernel
theorem dL_law_1671 : decode cL_law 1671 = .ok (.iaload, 1) := by decide +kernel
theorem dL_law_1672 : decode cL_law 1672 = .ok (.aload_n 0, 1) := by decide +kernel
theorem dL_law_1673 : decode cL_law 1673 = .ok (.iload 4, 2) := by decide +kernel
theorem dL_law_1675 : decode cL_law 1675 = .ok (.iconst 2, 1) := by decide +kernel
theorem dL_law_1676 : decode cL_law 1676 = .ok (.iadd, 1) := by decide +kernel
theorem dL_law_1677 : decode cL_law 1677 = .ok (.iaload, 1) := by decide +kernel
theorem dL_law_1678 : decode cL_law 1678 = .ok (.aload_n 0, 1) := by decide +kernel
theorem dL_law_1679 : decode cL_law 1679 = .ok (.iload 4, 2) := by decide +kernel
theorem dL_law_1681 : decode cL_law 1681 = .ok (.iconst 3, 1) := by decide +kernel
theorem dL_law_1682 : decode cL_law 1682 = .ok (.iadd, 1) := by decide +kernel
theorem dL_law_1683 : decode cL_law 1683 = .ok (.iaload, 1) := by decide +kernel
theorem dL_law_1684 : decode cL_law 1684 = .ok (.invokevirtual 192, 3) := by decide +kernel
theorem dL_law_1687 : decode cL_law 1687 = .ok (.istore 6, 2) := by decide +kernel
theorem dL_law_1689 : decode cL_law 1689 = .ok (.aload_n 2, 1) := by decide +kernel
theorem dL_law_1690 : decode cL_law 1690 = .ok (.invokevirtual 89, 3) := by decide +kernel
theorem dL_law_1693 : decode cL_law 1693 = .ok (.iload 5, 2) := by decide +kernel
theorem dL_law_1695 : decode cL_law 1695 = .ok (.if_icmp .eq 5, 3) := by decide +kernel
theorem dL_law_1698 : decode cL_law 1698 = .ok (.iconst 0, 1) := by decide +kernel
theorem dL_law_1699 : decode cL_law 1699 = .ok (.ireturn, 1) := by decide +kernel
theorem dL_law_1700 : decode cL_law 1700 = .ok (.iload 5, 2) := by decide +kernel
theorem dL_law_1702 : decode cL_law 1702 = .ok (.ifCond .ne 15, 3) := by decide +kernel
theorem dL_law_1705 : decode cL_law 1705 = .ok (.aload_n 3, 1) := by decide +kernel
theorem dL_law_1706 : decode cL_law 1706 = .ok (.iconst 0, 1) := by decide +kernel
theorem dL_law_1707 : decode cL_law 1707 = .ok (.laload, 1) := by decide +kernel
theorem dL_law_1708 : decode cL_law 1708 = .ok (.iload 6, 2) := by decide +kernel
theorem dL_law_1710 : decode cL_law 1710 = .ok (.i2l, 1) := by decide +kernel
theorem dL_law_1711 : decode cL_law 1711 = .ok (.lcmp, 1) := by decide +kernel
theorem dL_law_1712 : decode cL_law 1712 = .ok (.ifCond .eq 5, 3) := by decide +kernel
theorem dL_law_1715 : decode cL_law 1715 = .ok (.iconst 0, 1) := by decide +kernel
theorem dL_law_1716 : decode cL_law 1716 = .ok (.ireturn, 1) := by decide +kernel
theorem dL_law_1717 : decode cL_law 1717 = .ok (.goto 27, 3) := by decide +kernel
theorem dL_law_1720 : decode cL_law 1720 = .ok (.aload_n 1, 1) := by decide +kernel
theorem dL_law_1721 : decode cL_law 1721 = .ok (.invokevirtual 193, 3) := by decide +kernel
theorem dL_law_1724 : decode cL_law 1724 = .ok (.aload_n 2, 1) := by decide +kernel
theorem dL_law_1725 : decode cL_law 1725 = .ok (.invokevirtual 196, 3) := by decide +kernel
theorem dL_law_1728 : decode cL_law 1728 = .ok (.goto 16, 3) := by decide +kernel
theorem dL_law_1731 : decode cL_law 1731 = .ok (.aload_n 1, 1) := by decide +kernel
theorem dL_law_1732 : decode cL_law 1732 = .ok (.invokevirtual 197, 3) := by decide +kernel
theorem dL_law_1735 : decode cL_law 1735 = .ok (.aload_n 2, 1) := by decide +kernel
theorem dL_law_1736 : decode cL_law 1736 = .ok (.invokevirtual 201, 3) := by decide +kernel
theorem dL_law_1739 : decode cL_law 1739 = .ok (.if_icmp .eq 5, 3) := by decide +kernel
theorem dL_law_1742 : decode cL_law 1742 = .ok (.iconst 0, 1) := by decide +kernel
theorem dL_law_1743 : decode cL_law 1743 = .ok (.ireturn, 1) := by decide +kernel
theorem dL_law_1744 : decode cL_law 1744 = .ok (.iinc 4 6, 3) := by decide +kernel
theorem dL_law_1747 : decode cL_law 1747 = .ok (.goto (-1724), 3) := by decide +kernel
theorem dL_law_1750 : decode cL_law 1750 = .ok (.iconst 1, 1) := by decide +kernel
theorem dL_law_1751 : decode cL_law 1751 = .ok (.ireturn, 1) := by decide +kernel
set_option maxRecDepth 100000 in
set_option maxHeartbeats 4000000 in
theorem lb_0 (hK : k_OK G) (hXS : k_XS G) {n k : Nat} {xs : Nat → Int32} (hX : k_scr G n xs) (hn : n ≤ 3072) (hk : k ≤ 600) (hi : 6 * k + 6 ≤ n) (J1744 : ∀ (v5 v6 : Option Value) (w : am_w), lw_J w → AW G nL_law 200 (fun v _ => v = some (.int 1)) (fun _ _ => False) 1744 [some (.ref (1000000 + 3000000)), some (.ref 0), some (.ref 101), some (.ref 144), some (.int (nI (6 * k))), v5, v6] [] w (1024 + 4 * k + 4) (20000 + 24 * k + 24)) {w : am_w} (hJ : lw_J w) : AW G nL_law 200 (fun v _ => v = some (.int 1)) (fun _ _ => False) 188 [some (.ref (1000000 + 3000000)), some (.ref 0), some (.ref 101), some (.ref 144), some (.int (nI (6 * k))), none, none] [] w (1024 + 4 * k) (20000 + 24 * k) := by
  have hG := hK.1
  refine AW.aload_n dL_law_188 rfl ?_
  refine AW.aload_n dL_law_189 rfl (AW.iload dL_law_190 rfl (AW.iconst 1 dL_law_192 (by decide) (AW.iadd dL_law_193 (AW.sld hX (lw_ix (j := 1) (by omega) hn) dL_law_194 ?_))))
  refine AW.aload_n dL_law_195 rfl (AW.iload dL_law_196 rfl (AW.iconst 2 dL_law_198 (by decide) (AW.iadd dL_law_199 (AW.sld hX (lw_ix (j := 2) (by omega) hn) dL_law_200 ?_))))
  refine AW.aload_n dL_law_201 rfl (AW.iload dL_law_202 rfl (AW.iconst 3 dL_law_204 (by decide) (AW.iadd dL_law_205 (AW.sld hX (lw_ix (j := 3) (by omega) hn) dL_law_206 ?_))))
  refine AW.aload_n dL_law_207 rfl (AW.iload dL_law_208 rfl (AW.iconst 4 dL_law_210 (by decide) (AW.iadd dL_law_211 (AW.sld hX (lw_ix (j := 4) (by omega) hn) dL_law_212 ?_))))
  refine AW.aload_n dL_law_213 rfl (AW.iload dL_law_214 rfl (AW.iconst 5 dL_law_216 (by decide) (AW.iadd dL_law_217 (AW.sld hX (lw_ix (j := 5) (by omega) hn) dL_law_218 ?_))))
  refine AW.callV (b := 0) (As := [.int (xs (nI (6 * k) + 1).toNatClampNeg), .int (xs (nI (6 * k) + 2).toNatClampNeg), .int (xs (nI (6 * k) + 3).toNatClampNeg), .int (xs (nI (6 * k) + 4).toNatClampNeg), .int (xs (nI (6 * k) + 5).toNatClampNeg)]) hG.2.2 (vL_78 hG) (by obtain ⟨I, R, L, t, t2, T, rfl, -⟩ := hJ; exact lw_0) (o_feed hK hXS hJ (xs (nI (6 * k) + 1).toNatClampNeg) (xs (nI (6 * k) + 2).toNatClampNeg) (xs (nI (6 * k) + 3).toNatClampNeg) (xs (nI (6 * k) + 4).toNatClampNeg) (xs (nI (6 * k) + 5).toNatClampNeg)) (by omega) dL_law_219 rfl rfl (Nat.le_of_ble_eq_true rfl) (fun v w9 hq h0 => by obtain ⟨I2, R2, L2, r, J, rfl, rfl, -⟩ := hq; exact absurd h0 Nat.one_ne_zero) (by show 1024 + 4 * k + 0 ≤ 601024; omega) (by show 20000 + 24 * k + 0 ≤ 7293034; omega) (fun _ _ h => h) (fun v1 w1 hq1 => ?_)
  obtain ⟨I2, R2, L2, r, J, rfl, rfl, hMo, hb, hJ2⟩ := hq1
  refine AW.widen (uc' := (1024 + 4 * k + 4)) (us' := (20000 + 24 * k + 24)) (by show 1024 + 4 * k + 0 ≤ 1024 + 4 * k + 4; omega) (by show 20000 + 24 * k + 0 ≤ 20000 + 24 * k + 24; omega) Nat.one_ne_zero ?_
  refine AW.aload_n dL_law_222 rfl ?_
  refine AW.aload_n dL_law_223 rfl (AW.iload dL_law_224 rfl (AW.iconst 1 dL_law_226 (by decide) (AW.iadd dL_law_227 (AW.sld hX (lw_ix (j := 1) (by omega) hn) dL_law_228 ?_))))
  refine AW.aload_n dL_law_229 rfl (AW.iload dL_law_230 rfl (AW.iconst 2 dL_law_232 (by decide) (AW.iadd dL_law_233 (AW.sld hX (lw_ix (j := 2) (by omega) hn) dL_law_234 ?_))))
  refine AW.aload_n dL_law_235 rfl (AW.iload dL_law_236 rfl (AW.iconst 3 dL_law_238 (by decide) (AW.iadd dL_law_239 (AW.sld hX (lw_ix (j := 3) (by omega) hn) dL_law_240 ?_))))
  refine AW.aload_n dL_law_241 rfl (AW.iload dL_law_242 rfl (AW.iconst 4 dL_law_244 (by decide) (AW.iadd dL_law_245 (AW.sld hX (lw_ix (j := 4) (by omega) hn) dL_law_246 ?_))))
  refine AW.aload_n dL_law_247 rfl (AW.iload dL_law_248 rfl (AW.iconst 5 dL_law_250 (by decide) (AW.iadd dL_law_251 (AW.sld hX (lw_ix (j := 5) (by omega) hn) dL_law_252 ?_))))
  refine AW.callV (b := 101) (As := [.int (xs (nI (6 * k) + 1).toNatClampNeg), .int (xs (nI (6 * k) + 2).toNatClampNeg), .int (xs (nI (6 * k) + 3).toNatClampNeg), .int (xs (nI (6 * k) + 4).toNatClampNeg), .int (xs (nI (6 * k) + 5).toNatClampNeg)]) hG.2.2 (vL_82 hG) lw_101 (g_X11_feed hK (d := 190) (by omega) hMo hb) (by omega) dL_law_253 rfl rfl (Nat.le_of_ble_eq_true rfl) (fun v w9 hq h0 => by obtain ⟨rfl, rfl⟩ := hq; exact absurd h0 Nat.one_ne_zero) (by show 1024 + 4 * k + 4 + 0 ≤ 601024; omega) (by show 20000 + 24 * k + 24 + 0 ≤ 7293034; omega) (fun _ _ h => h) (fun v2 w2 hq2 => ?_)
  obtain ⟨rfl, rfl⟩ := hq2
  refine AW.widen (uc' := (1024 + 4 * k + 4)) (us' := (20000 + 24 * k + 24)) (by show 1024 + 4 * k + 4 + 0 ≤ 1024 + 4 * k + 4; omega) (by show 20000 + 24 * k + 24 + 0 ≤ 20000 + 24 * k + 24; omega) Nat.one_ne_zero ?_
  exact AW.icmp_eq 1744 dL_law_256 (by decide) (fun _ => J1744 _ _ _ hJ2) (fun h => absurd rfl h)
set_option maxRecDepth 100000 in
set_option maxHeartbeats 4000000 in
theorem lb_1 (hK : k_OK G) (hXS : k_XS G) {n k : Nat} {xs : Nat → Int32} (hX : k_scr G n xs) (hn : n ≤ 3072) (hk : k ≤ 600) (hi : 6 * k + 6 ≤ n) (J1744 : ∀ (v5 v6 : Option Value) (w : am_w), lw_J w → AW G nL_law 200 (fun v _ => v = some (.int 1)) (fun _ _ => False) 1744 [some (.ref (1000000 + 3000000)), some (.ref 0), some (.ref 101), some (.ref 144), some (.int (nI (6 * k))), v5, v6] [] w (1024 + 4 * k + 4) (20000 + 24 * k + 24)) {w : am_w} (hJ : lw_J w) : AW G nL_law 200 (fun v _ => v = some (.int 1)) (fun _ _ => False) 261 [some (.ref (1000000 + 3000000)), some (.ref 0), some (.ref 101), some (.ref 144), some (.int (nI (6 * k))), none, none] [] w (1024 + 4 * k) (20000 + 24 * k) := by
  have hG := hK.1
  refine AW.aload_n dL_law_261 rfl ?_
  refine AW.aload_n dL_law_262 rfl (AW.iload dL_law_263 rfl (AW.iconst 1 dL_law_265 (by decide) (AW.iadd dL_law_266 (AW.sld hX (lw_ix (j := 1) (by omega) hn) dL_law_267 ?_))))
  refine AW.aload_n dL_law_268 rfl ?_
  refine AW.callSH (M' := nL_town) (As := [.ref 0, .int (xs (nI (6 * k) + 1).toNatClampNeg), .ref 144]) hG.2.2 (kH_town hG) (o_town hK hXS hJ (xs (nI (6 * k) + 1).toNatClampNeg)) (by omega) dL_law_269 rfl rfl (Nat.le_of_ble_eq_true rfl) (fun v w9 hq h0 => by obtain ⟨x, I2, R2, L2, r, J, rfl, rfl, -⟩ := hq; exact absurd h0 Nat.one_ne_zero) (by show 1024 + 4 * k + 1 ≤ 601024; omega) (by show 20000 + 24 * k + 6 ≤ 7293034; omega) (fun _ _ h => h) (fun v1 w1 hq1 => ?_)
  obtain ⟨x, I2, R2, L2, r, J, rfl, rfl, hMo, hb, hJ2, hx, hL⟩ := hq1
  refine AW.widen (uc' := (1024 + 4 * k + 4)) (us' := (20000 + 24 * k + 24)) (by show 1024 + 4 * k + 1 ≤ 1024 + 4 * k + 4; omega) (by show 20000 + 24 * k + 6 ≤ 20000 + 24 * k + 24; omega) Nat.one_ne_zero ?_
  refine AW.is [some (.ref (1000000 + 3000000)), some (.ref 0), some (.ref 101), some (.ref 144), some (.int (nI (6 * k))), some (.int x), none] dL_law_272 (by decide) rfl rfl ?_
  refine AW.aload_n dL_law_274 rfl ?_
  refine AW.aload_n dL_law_275 rfl (AW.iload dL_law_276 rfl (AW.iconst 1 dL_law_278 (by decide) (AW.iadd dL_law_279 (AW.sld hX (lw_ix (j := 1) (by omega) hn) dL_law_280 ?_))))
  refine AW.callV (b := 101) (As := [.int (xs (nI (6 * k) + 1).toNatClampNeg)]) hG.2.2 (vL_88 hG) lw_101 (g_X11_town hK (d := 190) (by omega) hMo hb) (by omega) dL_law_281 rfl rfl (Nat.le_of_ble_eq_true rfl) (fun v w9 hq h0 => by obtain ⟨rfl, rfl⟩ := hq; exact absurd h0 Nat.one_ne_zero) (by show 1024 + 4 * k + 4 + 0 ≤ 601024; omega) (by show 20000 + 24 * k + 24 + 0 ≤ 7293034; omega) (fun _ _ h => h) (fun v2 w2 hq2 => ?_)
  obtain ⟨rfl, rfl⟩ := hq2
  refine AW.is [some (.ref (1000000 + 3000000)), some (.ref 0), some (.ref 101), some (.ref 144), some (.int (nI (6 * k))), some (.int x), some (.int r)] dL_law_284 (by decide) rfl rfl ?_
  refine AW.aload_n dL_law_286 rfl ?_
  refine AW.callV (b := 101) (As := []) hG.2.2 (vL_89 hG) lw_101 (g_X11_thrown hK (d := 190) (by omega) hMo) (by omega) dL_law_287 rfl rfl (Nat.le_of_ble_eq_true rfl) (fun v w9 hq h0 => by obtain ⟨rfl, rfl⟩ := hq; exact absurd h0 Nat.one_ne_zero) (by show 1024 + 4 * k + 4 + 0 + 0 ≤ 601024; omega) (by show 20000 + 24 * k + 24 + 0 + 0 ≤ 7293034; omega) (fun _ _ h => h) (fun v3 w3 hq3 => ?_)
  obtain ⟨rfl, rfl⟩ := hq3
  refine AW.widen (uc' := (1024 + 4 * k + 4)) (us' := (20000 + 24 * k + 24)) (by show 1024 + 4 * k + 4 + 0 + 0 ≤ 1024 + 4 * k + 4; omega) (by show 20000 + 24 * k + 24 + 0 + 0 ≤ 20000 + 24 * k + 24; omega) Nat.one_ne_zero ?_
  refine AW.iload dL_law_290 rfl ?_
  refine AW.icmp_eq 297 dL_law_292 (by decide) (fun h => ?_) (fun h => absurd hx h)
  refine AW.iload dL_law_297 rfl ?_
  refine AW.if_ne 314 dL_law_299 (by decide) (fun _ => (AW.goto 1744 dL_law_314 (by decide) (J1744 _ _ _ hJ2))) (fun hx0 => ?_)
  refine AW.aload_n dL_law_302 rfl (AW.iconst 0 dL_law_303 (by decide) (AW.lald lw_144 (by unfold vp_in; decide) dL_law_304 ?_))
  refine AW.iload dL_law_305 rfl ?_
  refine AW.i2l dL_law_307 (AW.lcmp dL_law_308 (AW.if_eq 314 dL_law_309 (by decide) (fun _ => (AW.goto 1744 dL_law_314 (by decide) (J1744 _ _ _ hJ2))) (fun h9 => absurd ?_ h9)))
  have e9 : L2 144 (Int32.toNatClampNeg 0) = r.toInt64 := hL hx0
  rw [e9]
  exact lw_cmp _
set_option maxRecDepth 100000 in
set_option maxHeartbeats 4000000 in
theorem lb_2 (hK : k_OK G) (hXS : k_XS G) {n k : Nat} {xs : Nat → Int32} (hX : k_scr G n xs) (hn : n ≤ 3072) (hk : k ≤ 600) (hi : 6 * k + 6 ≤ n) (J1744 : ∀ (v5 v6 : Option Value) (w : am_w), lw_J w → AW G nL_law 200 (fun v _ => v = some (.int 1)) (fun _ _ => False) 1744 [some (.ref (1000000 + 3000000)), some (.ref 0), some (.ref 101), some (.ref 144), some (.int (nI (6 * k))), v5, v6] [] w (1024 + 4 * k + 4) (20000 + 24 * k + 24)) {w : am_w} (hJ : lw_J w) : AW G nL_law 200 (fun v _ => v = some (.int 1)) (fun _ _ => False) 317 [some (.ref (1000000 + 3000000)), some (.ref 0), some (.ref 101), some (.ref 144), some (.int (nI (6 * k))), none, none] [] w (1024 + 4 * k) (20000 + 24 * k) := by
  have hG := hK.1
  refine AW.aload_n dL_law_317 rfl ?_
  refine AW.callV (b := 0) (As := []) hG.2.2 (vL_93 hG) (by obtain ⟨I, R, L, t, t2, T, rfl, -⟩ := hJ; exact lw_0) (o_fault hK hXS hJ ) (by omega) dL_law_318 rfl rfl (Nat.le_of_ble_eq_true rfl) (fun v w9 hq h0 => by obtain ⟨I2, R2, L2, r, J, rfl, rfl, -⟩ := hq; exact absurd h0 Nat.one_ne_zero) (by show 1024 + 4 * k + 0 ≤ 601024; omega) (by show 20000 + 24 * k + 0 ≤ 7293034; omega) (fun _ _ h => h) (fun v1 w1 hq1 => ?_)
  obtain ⟨I2, R2, L2, r, J, rfl, rfl, hMo, hb, hJ2⟩ := hq1
  refine AW.widen (uc' := (1024 + 4 * k + 4)) (us' := (20000 + 24 * k + 24)) (by show 1024 + 4 * k + 0 ≤ 1024 + 4 * k + 4; omega) (by show 20000 + 24 * k + 0 ≤ 20000 + 24 * k + 24; omega) Nat.one_ne_zero ?_
  refine AW.aload_n dL_law_321 rfl ?_
  refine AW.callV (b := 101) (As := []) hG.2.2 (vL_96 hG) lw_101 (g_X11_fault hK (d := 190) (by omega) hMo hb) (by omega) dL_law_322 rfl rfl (Nat.le_of_ble_eq_true rfl) (fun v w9 hq h0 => by obtain ⟨rfl, rfl⟩ := hq; exact absurd h0 Nat.one_ne_zero) (by show 1024 + 4 * k + 4 + 0 ≤ 601024; omega) (by show 20000 + 24 * k + 24 + 0 ≤ 7293034; omega) (fun _ _ h => h) (fun v2 w2 hq2 => ?_)
  obtain ⟨rfl, rfl⟩ := hq2
  refine AW.widen (uc' := (1024 + 4 * k + 4)) (us' := (20000 + 24 * k + 24)) (by show 1024 + 4 * k + 4 + 0 ≤ 1024 + 4 * k + 4; omega) (by show 20000 + 24 * k + 24 + 0 ≤ 20000 + 24 * k + 24; omega) Nat.one_ne_zero ?_
  exact AW.icmp_eq 1744 dL_law_325 (by decide) (fun _ => J1744 _ _ _ hJ2) (fun h => absurd rfl h)
set_option maxRecDepth 100000 in
set_option maxHeartbeats 4000000 in
theorem lb_3 (hK : k_OK G) (hXS : k_XS G) {n k : Nat} {xs : Nat → Int32} (hX : k_scr G n xs) (hn : n ≤ 3072) (hk : k ≤ 600) (hi : 6 * k + 6 ≤ n) (J1744 : ∀ (v5 v6 : Option Value) (w : am_w), lw_J w → AW G nL_law 200 (fun v _ => v = some (.int 1)) (fun _ _ => False) 1744 [some (.ref (1000000 + 3000000)), some (.ref 0), some (.ref 101), some (.ref 144), some (.int (nI (6 * k))), v5, v6] [] w (1024 + 4 * k + 4) (20000 + 24 * k + 24)) {w : am_w} (hJ : lw_J w) : AW G nL_law 200 (fun v _ => v = some (.int 1)) (fun _ _ => False) 330 [some (.ref (1000000 + 3000000)), some (.ref 0), some (.ref 101), some (.ref 144), some (.int (nI (6 * k))), none, none] [] w (1024 + 4 * k) (20000 + 24 * k) := by
  have hG := hK.1
  refine AW.aload_n dL_law_330 rfl ?_
  refine AW.aload_n dL_law_331 rfl (AW.iload dL_law_332 rfl (AW.iconst 1 dL_law_334 (by decide) (AW.iadd dL_law_335 (AW.sld hX (lw_ix (j := 1) (by omega) hn) dL_law_336 ?_))))
  refine AW.aload_n dL_law_337 rfl ?_
  refine AW.callSH (M' := nL_count) (As := [.ref 0, .int (xs (nI (6 * k) + 1).toNatClampNeg), .ref 144]) hG.2.2 (kH_count hG) (o_count hK hXS hJ (xs (nI (6 * k) + 1).toNatClampNeg)) (by omega) dL_law_338 rfl rfl (Nat.le_of_ble_eq_true rfl) (fun v w9 hq h0 => by obtain ⟨x, I2, R2, L2, r, J, rfl, rfl, -⟩ := hq; exact absurd h0 Nat.one_ne_zero) (by show 1024 + 4 * k + 1 ≤ 601024; omega) (by show 20000 + 24 * k + 6 ≤ 7293034; omega) (fun _ _ h => h) (fun v1 w1 hq1 => ?_)
  obtain ⟨x, I2, R2, L2, r, J, rfl, rfl, hMo, hb, hJ2, hx, hL⟩ := hq1
  refine AW.widen (uc' := (1024 + 4 * k + 4)) (us' := (20000 + 24 * k + 24)) (by show 1024 + 4 * k + 1 ≤ 1024 + 4 * k + 4; omega) (by show 20000 + 24 * k + 6 ≤ 20000 + 24 * k + 24; omega) Nat.one_ne_zero ?_
  refine AW.is [some (.ref (1000000 + 3000000)), some (.ref 0), some (.ref 101), some (.ref 144), some (.int (nI (6 * k))), some (.int x), none] dL_law_341 (by decide) rfl rfl ?_
  refine AW.aload_n dL_law_343 rfl ?_
  refine AW.aload_n dL_law_344 rfl (AW.iload dL_law_345 rfl (AW.iconst 1 dL_law_347 (by decide) (AW.iadd dL_law_348 (AW.sld hX (lw_ix (j := 1) (by omega) hn) dL_law_349 ?_))))
  refine AW.callV (b := 101) (As := [.int (xs (nI (6 * k) + 1).toNatClampNeg)]) hG.2.2 (vL_99 hG) lw_101 (g_X11_count hK (d := 190) (by omega) hMo hb) (by omega) dL_law_350 rfl rfl (Nat.le_of_ble_eq_true rfl) (fun v w9 hq h0 => by obtain ⟨rfl, rfl⟩ := hq; exact absurd h0 Nat.one_ne_zero) (by show 1024 + 4 * k + 4 + 0 ≤ 601024; omega) (by show 20000 + 24 * k + 24 + 0 ≤ 7293034; omega) (fun _ _ h => h) (fun v2 w2 hq2 => ?_)
  obtain ⟨rfl, rfl⟩ := hq2
  refine AW.is [some (.ref (1000000 + 3000000)), some (.ref 0), some (.ref 101), some (.ref 144), some (.int (nI (6 * k))), some (.int x), some (.int r)] dL_law_353 (by decide) rfl rfl ?_
  refine AW.aload_n dL_law_355 rfl ?_
  refine AW.callV (b := 101) (As := []) hG.2.2 (vL_89 hG) lw_101 (g_X11_thrown hK (d := 190) (by omega) hMo) (by omega) dL_law_356 rfl rfl (Nat.le_of_ble_eq_true rfl) (fun v w9 hq h0 => by obtain ⟨rfl, rfl⟩ := hq; exact absurd h0 Nat.one_ne_zero) (by show 1024 + 4 * k + 4 + 0 + 0 ≤ 601024; omega) (by show 20000 + 24 * k + 24 + 0 + 0 ≤ 7293034; omega) (fun _ _ h => h) (fun v3 w3 hq3 => ?_)
  obtain ⟨rfl, rfl⟩ := hq3
  refine AW.widen (uc' := (1024 + 4 * k + 4)) (us' := (20000 + 24 * k + 24)) (by show 1024 + 4 * k + 4 + 0 + 0 ≤ 1024 + 4 * k + 4; omega) (by show 20000 + 24 * k + 24 + 0 + 0 ≤ 20000 + 24 * k + 24; omega) Nat.one_ne_zero ?_
  refine AW.iload dL_law_359 rfl ?_
  refine AW.icmp_eq 366 dL_law_361 (by decide) (fun h => ?_) (fun h => absurd hx h)
  refine AW.iload dL_law_366 rfl ?_
  refine AW.if_ne 383 dL_law_368 (by decide) (fun _ => (AW.goto 1744 dL_law_383 (by decide) (J1744 _ _ _ hJ2))) (fun hx0 => ?_)
  refine AW.aload_n dL_law_371 rfl (AW.iconst 0 dL_law_372 (by decide) (AW.lald lw_144 (by unfold vp_in; decide) dL_law_373 ?_))
  refine AW.iload dL_law_374 rfl ?_
  refine AW.i2l dL_law_376 (AW.lcmp dL_law_377 (AW.if_eq 383 dL_law_378 (by decide) (fun _ => (AW.goto 1744 dL_law_383 (by decide) (J1744 _ _ _ hJ2))) (fun h9 => absurd ?_ h9)))
  have e9 : L2 144 (Int32.toNatClampNeg 0) = r.toInt64 := hL hx0
  rw [e9]
  exact lw_cmp _
set_option maxRecDepth 100000 in
set_option maxHeartbeats 4000000 in
theorem lb_4 (hK : k_OK G) (hXS : k_XS G) {n k : Nat} {xs : Nat → Int32} (hX : k_scr G n xs) (hn : n ≤ 3072) (hk : k ≤ 600) (hi : 6 * k + 6 ≤ n) (J1744 : ∀ (v5 v6 : Option Value) (w : am_w), lw_J w → AW G nL_law 200 (fun v _ => v = some (.int 1)) (fun _ _ => False) 1744 [some (.ref (1000000 + 3000000)), some (.ref 0), some (.ref 101), some (.ref 144), some (.int (nI (6 * k))), v5, v6] [] w (1024 + 4 * k + 4) (20000 + 24 * k + 24)) {w : am_w} (hJ : lw_J w) : AW G nL_law 200 (fun v _ => v = some (.int 1)) (fun _ _ => False) 386 [some (.ref (1000000 + 3000000)), some (.ref 0), some (.ref 101), some (.ref 144), some (.int (nI (6 * k))), none, none] [] w (1024 + 4 * k) (20000 + 24 * k) := by
  have hG := hK.1
  refine AW.aload_n dL_law_386 rfl ?_
  refine AW.aload_n dL_law_387 rfl (AW.iload dL_law_388 rfl (AW.iconst 1 dL_law_390 (by decide) (AW.iadd dL_law_391 (AW.sld hX (lw_ix (j := 1) (by omega) hn) dL_law_392 ?_))))
  refine AW.aload_n dL_law_393 rfl (AW.iload dL_law_394 rfl (AW.iconst 2 dL_law_396 (by decide) (AW.iadd dL_law_397 (AW.sld hX (lw_ix (j := 2) (by omega) hn) dL_law_398 ?_))))
  refine AW.aload_n dL_law_399 rfl ?_
  refine AW.callSH (M' := nL_person) (As := [.ref 0, .int (xs (nI (6 * k) + 1).toNatClampNeg), .int (xs (nI (6 * k) + 2).toNatClampNeg), .ref 144]) hG.2.2 (kH_person hG) (o_person hK hXS hJ (xs (nI (6 * k) + 1).toNatClampNeg) (xs (nI (6 * k) + 2).toNatClampNeg)) (by omega) dL_law_400 rfl rfl (Nat.le_of_ble_eq_true rfl) (fun v w9 hq h0 => by obtain ⟨x, I2, R2, L2, r, J, rfl, rfl, -⟩ := hq; exact absurd h0 Nat.one_ne_zero) (by show 1024 + 4 * k + 2 ≤ 601024; omega) (by show 20000 + 24 * k + 12 ≤ 7293034; omega) (fun _ _ h => h) (fun v1 w1 hq1 => ?_)
  obtain ⟨x, I2, R2, L2, r, J, rfl, rfl, hMo, hb, hJ2, hx, hL⟩ := hq1
  refine AW.widen (uc' := (1024 + 4 * k + 4)) (us' := (20000 + 24 * k + 24)) (by show 1024 + 4 * k + 2 ≤ 1024 + 4 * k + 4; omega) (by show 20000 + 24 * k + 12 ≤ 20000 + 24 * k + 24; omega) Nat.one_ne_zero ?_
  refine AW.is [some (.ref (1000000 + 3000000)), some (.ref 0), some (.ref 101), some (.ref 144), some (.int (nI (6 * k))), some (.int x), none] dL_law_403 (by decide) rfl rfl ?_
  refine AW.aload_n dL_law_405 rfl ?_
  refine AW.aload_n dL_law_406 rfl (AW.iload dL_law_407 rfl (AW.iconst 1 dL_law_409 (by decide) (AW.iadd dL_law_410 (AW.sld hX (lw_ix (j := 1) (by omega) hn) dL_law_411 ?_))))
  refine AW.aload_n dL_law_412 rfl (AW.iload dL_law_413 rfl (AW.iconst 2 dL_law_415 (by decide) (AW.iadd dL_law_416 (AW.sld hX (lw_ix (j := 2) (by omega) hn) dL_law_417 ?_))))
  refine AW.callV (b := 101) (As := [.int (xs (nI (6 * k) + 1).toNatClampNeg), .int (xs (nI (6 * k) + 2).toNatClampNeg)]) hG.2.2 (vL_103 hG) lw_101 (g_X11_person hK (d := 190) (by omega) hMo hb) (by omega) dL_law_418 rfl rfl (Nat.le_of_ble_eq_true rfl) (fun v w9 hq h0 => by obtain ⟨rfl, rfl⟩ := hq; exact absurd h0 Nat.one_ne_zero) (by show 1024 + 4 * k + 4 + 0 ≤ 601024; omega) (by show 20000 + 24 * k + 24 + 0 ≤ 7293034; omega) (fun _ _ h => h) (fun v2 w2 hq2 => ?_)
  obtain ⟨rfl, rfl⟩ := hq2
  refine AW.is [some (.ref (1000000 + 3000000)), some (.ref 0), some (.ref 101), some (.ref 144), some (.int (nI (6 * k))), some (.int x), some (.int r)] dL_law_421 (by decide) rfl rfl ?_
  refine AW.aload_n dL_law_423 rfl ?_
  refine AW.callV (b := 101) (As := []) hG.2.2 (vL_89 hG) lw_101 (g_X11_thrown hK (d := 190) (by omega) hMo) (by omega) dL_law_424 rfl rfl (Nat.le_of_ble_eq_true rfl) (fun v w9 hq h0 => by obtain ⟨rfl, rfl⟩ := hq; exact absurd h0 Nat.one_ne_zero) (by show 1024 + 4 * k + 4 + 0 + 0 ≤ 601024; omega) (by show 20000 + 24 * k + 24 + 0 + 0 ≤ 7293034; omega) (fun _ _ h => h) (fun v3 w3 hq3 => ?_)
  obtain ⟨rfl, rfl⟩ := hq3
  refine AW.widen (uc' := (1024 + 4 * k + 4)) (us' := (20000 + 24 * k + 24)) (by show 1024 + 4 * k + 4 + 0 + 0 ≤ 1024 + 4 * k + 4; omega) (by show 20000 + 24 * k + 24 + 0 + 0 ≤ 20000 + 24 * k + 24; omega) Nat.one_ne_zero ?_
  refine AW.iload dL_law_427 rfl ?_
  refine AW.icmp_eq 434 dL_law_429 (by decide) (fun h => ?_) (fun h => absurd hx h)
  refine AW.iload dL_law_434 rfl ?_
  refine AW.if_ne 451 dL_law_436 (by decide) (fun _ => (AW.goto 1744 dL_law_451 (by decide) (J1744 _ _ _ hJ2))) (fun hx0 => ?_)
  refine AW.aload_n dL_law_439 rfl (AW.iconst 0 dL_law_440 (by decide) (AW.lald lw_144 (by unfold vp_in; decide) dL_law_441 ?_))
  refine AW.iload dL_law_442 rfl ?_
  refine AW.i2l dL_law_444 (AW.lcmp dL_law_445 (AW.if_eq 451 dL_law_446 (by decide) (fun _ => (AW.goto 1744 dL_law_451 (by decide) (J1744 _ _ _ hJ2))) (fun h9 => absurd ?_ h9)))
  have e9 : L2 144 (Int32.toNatClampNeg 0) = r.toInt64 := hL hx0
  rw [e9]
  exact lw_cmp _
set_option maxRecDepth 100000 in
set_option maxHeartbeats 4000000 in
theorem lb_5 (hK : k_OK G) (hXS : k_XS G) {n k : Nat} {xs : Nat → Int32} (hX : k_scr G n xs) (hn : n ≤ 3072) (hk : k ≤ 600) (hi : 6 * k + 6 ≤ n) (J1744 : ∀ (v5 v6 : Option Value) (w : am_w), lw_J w → AW G nL_law 200 (fun v _ => v = some (.int 1)) (fun _ _ => False) 1744 [some (.ref (1000000 + 3000000)), some (.ref 0), some (.ref 101), some (.ref 144), some (.int (nI (6 * k))), v5, v6] [] w (1024 + 4 * k + 4) (20000 + 24 * k + 24)) {w : am_w} (hJ : lw_J w) : AW G nL_law 200 (fun v _ => v = some (.int 1)) (fun _ _ => False) 454 [some (.ref (1000000 + 3000000)), some (.ref 0), some (.ref 101), some (.ref 144), some (.int (nI (6 * k))), none, none] [] w (1024 + 4 * k) (20000 + 24 * k) := by
  have hG := hK.1
  refine AW.aload_n dL_law_454 rfl ?_
  refine AW.aload_n dL_law_455 rfl (AW.iload dL_law_456 rfl (AW.iconst 1 dL_law_458 (by decide) (AW.iadd dL_law_459 (AW.sld hX (lw_ix (j := 1) (by omega) hn) dL_law_460 ?_))))
  refine AW.aload_n dL_law_461 rfl (AW.iload dL_law_462 rfl (AW.iconst 2 dL_law_464 (by decide) (AW.iadd dL_law_465 (AW.sld hX (lw_ix (j := 2) (by omega) hn) dL_law_466 ?_))))
  refine AW.aload_n dL_law_467 rfl ?_
  refine AW.callSH (M' := nL_loaf) (As := [.ref 0, .int (xs (nI (6 * k) + 1).toNatClampNeg), .int (xs (nI (6 * k) + 2).toNatClampNeg), .ref 144]) hG.2.2 (kH_loaf hG) (o_loaf hK hXS hJ (xs (nI (6 * k) + 1).toNatClampNeg) (xs (nI (6 * k) + 2).toNatClampNeg)) (by omega) dL_law_468 rfl rfl (Nat.le_of_ble_eq_true rfl) (fun v w9 hq h0 => by obtain ⟨x, I2, R2, L2, r, J, rfl, rfl, -⟩ := hq; exact absurd h0 Nat.one_ne_zero) (by show 1024 + 4 * k + 2 ≤ 601024; omega) (by show 20000 + 24 * k + 12 ≤ 7293034; omega) (fun _ _ h => h) (fun v1 w1 hq1 => ?_)
  obtain ⟨x, I2, R2, L2, r, J, rfl, rfl, hMo, hb, hJ2, hx, hL⟩ := hq1
  refine AW.widen (uc' := (1024 + 4 * k + 4)) (us' := (20000 + 24 * k + 24)) (by show 1024 + 4 * k + 2 ≤ 1024 + 4 * k + 4; omega) (by show 20000 + 24 * k + 12 ≤ 20000 + 24 * k + 24; omega) Nat.one_ne_zero ?_
  refine AW.is [some (.ref (1000000 + 3000000)), some (.ref 0), some (.ref 101), some (.ref 144), some (.int (nI (6 * k))), some (.int x), none] dL_law_471 (by decide) rfl rfl ?_
  refine AW.aload_n dL_law_473 rfl ?_
  refine AW.aload_n dL_law_474 rfl (AW.iload dL_law_475 rfl (AW.iconst 1 dL_law_477 (by decide) (AW.iadd dL_law_478 (AW.sld hX (lw_ix (j := 1) (by omega) hn) dL_law_479 ?_))))
  refine AW.aload_n dL_law_480 rfl (AW.iload dL_law_481 rfl (AW.iconst 2 dL_law_483 (by decide) (AW.iadd dL_law_484 (AW.sld hX (lw_ix (j := 2) (by omega) hn) dL_law_485 ?_))))
  refine AW.callV (b := 101) (As := [.int (xs (nI (6 * k) + 1).toNatClampNeg), .int (xs (nI (6 * k) + 2).toNatClampNeg)]) hG.2.2 (vL_106 hG) lw_101 (g_X11_loaf hK (d := 190) (by omega) hMo hb) (by omega) dL_law_486 rfl rfl (Nat.le_of_ble_eq_true rfl) (fun v w9 hq h0 => by obtain ⟨rfl, rfl⟩ := hq; exact absurd h0 Nat.one_ne_zero) (by show 1024 + 4 * k + 4 + 0 ≤ 601024; omega) (by show 20000 + 24 * k + 24 + 0 ≤ 7293034; omega) (fun _ _ h => h) (fun v2 w2 hq2 => ?_)
  obtain ⟨rfl, rfl⟩ := hq2
  refine AW.is [some (.ref (1000000 + 3000000)), some (.ref 0), some (.ref 101), some (.ref 144), some (.int (nI (6 * k))), some (.int x), some (.int r)] dL_law_489 (by decide) rfl rfl ?_
  refine AW.aload_n dL_law_491 rfl ?_
  refine AW.callV (b := 101) (As := []) hG.2.2 (vL_89 hG) lw_101 (g_X11_thrown hK (d := 190) (by omega) hMo) (by omega) dL_law_492 rfl rfl (Nat.le_of_ble_eq_true rfl) (fun v w9 hq h0 => by obtain ⟨rfl, rfl⟩ := hq; exact absurd h0 Nat.one_ne_zero) (by show 1024 + 4 * k + 4 + 0 + 0 ≤ 601024; omega) (by show 20000 + 24 * k + 24 + 0 + 0 ≤ 7293034; omega) (fun _ _ h => h) (fun v3 w3 hq3 => ?_)
  obtain ⟨rfl, rfl⟩ := hq3
  refine AW.widen (uc' := (1024 + 4 * k + 4)) (us' := (20000 + 24 * k + 24)) (by show 1024 + 4 * k + 4 + 0 + 0 ≤ 1024 + 4 * k + 4; omega) (by show 20000 + 24 * k + 24 + 0 + 0 ≤ 20000 + 24 * k + 24; omega) Nat.one_ne_zero ?_
  refine AW.iload dL_law_495 rfl ?_
  refine AW.icmp_eq 502 dL_law_497 (by decide) (fun h => ?_) (fun h => absurd hx h)
  refine AW.iload dL_law_502 rfl ?_
  refine AW.if_ne 519 dL_law_504 (by decide) (fun _ => (AW.goto 1744 dL_law_519 (by decide) (J1744 _ _ _ hJ2))) (fun hx0 => ?_)
  refine AW.aload_n dL_law_507 rfl (AW.iconst 0 dL_law_508 (by decide) (AW.lald lw_144 (by unfold vp_in; decide) dL_law_509 ?_))
  refine AW.iload dL_law_510 rfl ?_
  refine AW.i2l dL_law_512 (AW.lcmp dL_law_513 (AW.if_eq 519 dL_law_514 (by decide) (fun _ => (AW.goto 1744 dL_law_519 (by decide) (J1744 _ _ _ hJ2))) (fun h9 => absurd ?_ h9)))
  have e9 : L2 144 (Int32.toNatClampNeg 0) = r.toInt64 := hL hx0
  rw [e9]
  exact lw_cmp _
set_option maxRecDepth 100000 in
set_option maxHeartbeats 4000000 in
theorem lb_6 (hK : k_OK G) (hXS : k_XS G) (hN : ∀ s H, am_O G s H → va_Nc nmI nmS s) {n k : Nat} {xs : Nat → Int32} (hX : k_scr G n xs) (hn : n ≤ 3072) (hk : k ≤ 600) (hi : 6 * k + 6 ≤ n) (J1744 : ∀ (v5 v6 : Option Value) (w : am_w), lw_J w → AW G nL_law 200 (fun v _ => v = some (.int 1)) (fun _ _ => False) 1744 [some (.ref (1000000 + 3000000)), some (.ref 0), some (.ref 101), some (.ref 144), some (.int (nI (6 * k))), v5, v6] [] w (1024 + 4 * k + 4) (20000 + 24 * k + 24)) {w : am_w} (hJ : lw_J w) : AW G nL_law 200 (fun v _ => v = some (.int 1)) (fun _ _ => False) 522 [some (.ref (1000000 + 3000000)), some (.ref 0), some (.ref 101), some (.ref 144), some (.int (nI (6 * k))), none, none] [] w (1024 + 4 * k) (20000 + 24 * k) := by
  have hG := hK.1
  refine AW.aload_n dL_law_522 rfl ?_
  refine AW.aload_n dL_law_523 rfl (AW.iload dL_law_524 rfl (AW.iconst 1 dL_law_526 (by decide) (AW.iadd dL_law_527 (AW.sld hX (lw_ix (j := 1) (by omega) hn) dL_law_528 ?_))))
  refine AW.aload_n dL_law_529 rfl (AW.iload dL_law_530 rfl (AW.iconst 2 dL_law_532 (by decide) (AW.iadd dL_law_533 (AW.sld hX (lw_ix (j := 2) (by omega) hn) dL_law_534 ?_))))
  refine AW.aload_n dL_law_535 rfl ?_
  refine AW.callSH (M' := nL_met) (As := [.ref 0, .int (xs (nI (6 * k) + 1).toNatClampNeg), .int (xs (nI (6 * k) + 2).toNatClampNeg), .ref 144]) hG.2.2 (kH_met hG) (o_met hK hXS hN hJ (xs (nI (6 * k) + 1).toNatClampNeg) (xs (nI (6 * k) + 2).toNatClampNeg)) (by omega) dL_law_536 rfl rfl (Nat.le_of_ble_eq_true rfl) (fun v w9 hq h0 => by obtain ⟨x, I2, R2, L2, r, J, rfl, rfl, -⟩ := hq; exact absurd h0 Nat.one_ne_zero) (by show 1024 + 4 * k + 3 ≤ 601024; omega) (by show 20000 + 24 * k + 18 ≤ 7293034; omega) (fun _ _ h => h) (fun v1 w1 hq1 => ?_)
  obtain ⟨x, I2, R2, L2, r, J, rfl, rfl, hMo, hb, hJ2, hx, hL⟩ := hq1
  refine AW.widen (uc' := (1024 + 4 * k + 4)) (us' := (20000 + 24 * k + 24)) (by show 1024 + 4 * k + 3 ≤ 1024 + 4 * k + 4; omega) (by show 20000 + 24 * k + 18 ≤ 20000 + 24 * k + 24; omega) Nat.one_ne_zero ?_
  refine AW.is [some (.ref (1000000 + 3000000)), some (.ref 0), some (.ref 101), some (.ref 144), some (.int (nI (6 * k))), some (.int x), none] dL_law_539 (by decide) rfl rfl ?_
  refine AW.aload_n dL_law_541 rfl ?_
  refine AW.aload_n dL_law_542 rfl (AW.iload dL_law_543 rfl (AW.iconst 1 dL_law_545 (by decide) (AW.iadd dL_law_546 (AW.sld hX (lw_ix (j := 1) (by omega) hn) dL_law_547 ?_))))
  refine AW.aload_n dL_law_548 rfl (AW.iload dL_law_549 rfl (AW.iconst 2 dL_law_551 (by decide) (AW.iadd dL_law_552 (AW.sld hX (lw_ix (j := 2) (by omega) hn) dL_law_553 ?_))))
  refine AW.callV (b := 101) (As := [.int (xs (nI (6 * k) + 1).toNatClampNeg), .int (xs (nI (6 * k) + 2).toNatClampNeg)]) hG.2.2 (vL_109 hG) lw_101 (g_X11_met hK (d := 190) (by omega) hMo hb) (by omega) dL_law_554 rfl rfl (Nat.le_of_ble_eq_true rfl) (fun v w9 hq h0 => by obtain ⟨rfl, rfl⟩ := hq; exact absurd h0 Nat.one_ne_zero) (by show 1024 + 4 * k + 4 + 0 ≤ 601024; omega) (by show 20000 + 24 * k + 24 + 0 ≤ 7293034; omega) (fun _ _ h => h) (fun v2 w2 hq2 => ?_)
  obtain ⟨rfl, rfl⟩ := hq2
  refine AW.is [some (.ref (1000000 + 3000000)), some (.ref 0), some (.ref 101), some (.ref 144), some (.int (nI (6 * k))), some (.int x), some (.int r)] dL_law_557 (by decide) rfl rfl ?_
  refine AW.aload_n dL_law_559 rfl ?_
  refine AW.callV (b := 101) (As := []) hG.2.2 (vL_89 hG) lw_101 (g_X11_thrown hK (d := 190) (by omega) hMo) (by omega) dL_law_560 rfl rfl (Nat.le_of_ble_eq_true rfl) (fun v w9 hq h0 => by obtain ⟨rfl, rfl⟩ := hq; exact absurd h0 Nat.one_ne_zero) (by show 1024 + 4 * k + 4 + 0 + 0 ≤ 601024; omega) (by show 20000 + 24 * k + 24 + 0 + 0 ≤ 7293034; omega) (fun _ _ h => h) (fun v3 w3 hq3 => ?_)
  obtain ⟨rfl, rfl⟩ := hq3
  refine AW.widen (uc' := (1024 + 4 * k + 4)) (us' := (20000 + 24 * k + 24)) (by show 1024 + 4 * k + 4 + 0 + 0 ≤ 1024 + 4 * k + 4; omega) (by show 20000 + 24 * k + 24 + 0 + 0 ≤ 20000 + 24 * k + 24; omega) Nat.one_ne_zero ?_
  refine AW.iload dL_law_563 rfl ?_
  refine AW.icmp_eq 570 dL_law_565 (by decide) (fun h => ?_) (fun h => absurd hx h)
  refine AW.iload dL_law_570 rfl ?_
  refine AW.if_ne 587 dL_law_572 (by decide) (fun _ => (AW.goto 1744 dL_law_587 (by decide) (J1744 _ _ _ hJ2))) (fun hx0 => ?_)
  refine AW.aload_n dL_law_575 rfl (AW.iconst 0 dL_law_576 (by decide) (AW.lald lw_144 (by unfold vp_in; decide) dL_law_577 ?_))
  refine AW.iload dL_law_578 rfl ?_
  refine AW.i2l dL_law_580 (AW.lcmp dL_law_581 (AW.if_eq 587 dL_law_582 (by decide) (fun _ => (AW.goto 1744 dL_law_587 (by decide) (J1744 _ _ _ hJ2))) (fun h9 => absurd ?_ h9)))
  have e9 : L2 144 (Int32.toNatClampNeg 0) = r.toInt64 := hL hx0
  rw [e9]
  exact lw_cmp _
set_option maxRecDepth 100000 in
set_option maxHeartbeats 4000000 in
theorem lb_7 (hK : k_OK G) (hXS : k_XS G) {n k : Nat} {xs : Nat → Int32} (hX : k_scr G n xs) (hn : n ≤ 3072) (hk : k ≤ 600) (hi : 6 * k + 6 ≤ n) (J1744 : ∀ (v5 v6 : Option Value) (w : am_w), lw_J w → AW G nL_law 200 (fun v _ => v = some (.int 1)) (fun _ _ => False) 1744 [some (.ref (1000000 + 3000000)), some (.ref 0), some (.ref 101), some (.ref 144), some (.int (nI (6 * k))), v5, v6] [] w (1024 + 4 * k + 4) (20000 + 24 * k + 24)) {w : am_w} (hJ : lw_J w) : AW G nL_law 200 (fun v _ => v = some (.int 1)) (fun _ _ => False) 590 [some (.ref (1000000 + 3000000)), some (.ref 0), some (.ref 101), some (.ref 144), some (.int (nI (6 * k))), none, none] [] w (1024 + 4 * k) (20000 + 24 * k) := by
  have hG := hK.1
  refine AW.aload_n dL_law_590 rfl ?_
  refine AW.aload_n dL_law_591 rfl (AW.iload dL_law_592 rfl (AW.iconst 1 dL_law_594 (by decide) (AW.iadd dL_law_595 (AW.sld hX (lw_ix (j := 1) (by omega) hn) dL_law_596 ?_))))
  refine AW.aload_n dL_law_597 rfl (AW.iload dL_law_598 rfl (AW.iconst 2 dL_law_600 (by decide) (AW.iadd dL_law_601 (AW.sld hX (lw_ix (j := 2) (by omega) hn) dL_law_602 ?_))))
  refine AW.aload_n dL_law_603 rfl ?_
  refine AW.callSH (M' := nL_knows) (As := [.ref 0, .int (xs (nI (6 * k) + 1).toNatClampNeg), .int (xs (nI (6 * k) + 2).toNatClampNeg), .ref 144]) hG.2.2 (kH_knows hG) (o_knows hK hXS hJ (xs (nI (6 * k) + 1).toNatClampNeg) (xs (nI (6 * k) + 2).toNatClampNeg)) (by omega) dL_law_604 rfl rfl (Nat.le_of_ble_eq_true rfl) (fun v w9 hq h0 => by obtain ⟨x, I2, R2, L2, r, J, rfl, rfl, -⟩ := hq; exact absurd h0 Nat.one_ne_zero) (by show 1024 + 4 * k + 2 ≤ 601024; omega) (by show 20000 + 24 * k + 12 ≤ 7293034; omega) (fun _ _ h => h) (fun v1 w1 hq1 => ?_)
  obtain ⟨x, I2, R2, L2, r, J, rfl, rfl, hMo, hb, hJ2, hx, hL⟩ := hq1
  refine AW.widen (uc' := (1024 + 4 * k + 4)) (us' := (20000 + 24 * k + 24)) (by show 1024 + 4 * k + 2 ≤ 1024 + 4 * k + 4; omega) (by show 20000 + 24 * k + 12 ≤ 20000 + 24 * k + 24; omega) Nat.one_ne_zero ?_
  refine AW.is [some (.ref (1000000 + 3000000)), some (.ref 0), some (.ref 101), some (.ref 144), some (.int (nI (6 * k))), some (.int x), none] dL_law_607 (by decide) rfl rfl ?_
  refine AW.aload_n dL_law_609 rfl ?_
  refine AW.aload_n dL_law_610 rfl (AW.iload dL_law_611 rfl (AW.iconst 1 dL_law_613 (by decide) (AW.iadd dL_law_614 (AW.sld hX (lw_ix (j := 1) (by omega) hn) dL_law_615 ?_))))
  refine AW.aload_n dL_law_616 rfl (AW.iload dL_law_617 rfl (AW.iconst 2 dL_law_619 (by decide) (AW.iadd dL_law_620 (AW.sld hX (lw_ix (j := 2) (by omega) hn) dL_law_621 ?_))))
  refine AW.callV (b := 101) (As := [.int (xs (nI (6 * k) + 1).toNatClampNeg), .int (xs (nI (6 * k) + 2).toNatClampNeg)]) hG.2.2 (vL_112 hG) lw_101 (g_X11_knows hK (d := 190) (by omega) hMo hb) (by omega) dL_law_622 rfl rfl (Nat.le_of_ble_eq_true rfl) (fun v w9 hq h0 => by obtain ⟨rfl, rfl⟩ := hq; exact absurd h0 Nat.one_ne_zero) (by show 1024 + 4 * k + 4 + 0 ≤ 601024; omega) (by show 20000 + 24 * k + 24 + 0 ≤ 7293034; omega) (fun _ _ h => h) (fun v2 w2 hq2 => ?_)
  obtain ⟨rfl, rfl⟩ := hq2
  refine AW.is [some (.ref (1000000 + 3000000)), some (.ref 0), some (.ref 101), some (.ref 144), some (.int (nI (6 * k))), some (.int x), some (.int (kb r))] dL_law_625 (by decide) rfl rfl ?_
  refine AW.aload_n dL_law_627 rfl ?_
  refine AW.callV (b := 101) (As := []) hG.2.2 (vL_89 hG) lw_101 (g_X11_thrown hK (d := 190) (by omega) hMo) (by omega) dL_law_628 rfl rfl (Nat.le_of_ble_eq_true rfl) (fun v w9 hq h0 => by obtain ⟨rfl, rfl⟩ := hq; exact absurd h0 Nat.one_ne_zero) (by show 1024 + 4 * k + 4 + 0 + 0 ≤ 601024; omega) (by show 20000 + 24 * k + 24 + 0 + 0 ≤ 7293034; omega) (fun _ _ h => h) (fun v3 w3 hq3 => ?_)
  obtain ⟨rfl, rfl⟩ := hq3
  refine AW.widen (uc' := (1024 + 4 * k + 4)) (us' := (20000 + 24 * k + 24)) (by show 1024 + 4 * k + 4 + 0 + 0 ≤ 1024 + 4 * k + 4; omega) (by show 20000 + 24 * k + 24 + 0 + 0 ≤ 20000 + 24 * k + 24; omega) Nat.one_ne_zero ?_
  refine AW.iload dL_law_631 rfl ?_
  refine AW.icmp_eq 638 dL_law_633 (by decide) (fun h => ?_) (fun h => absurd hx h)
  refine AW.iload dL_law_638 rfl ?_
  refine AW.if_ne 662 dL_law_640 (by decide) (fun _ => (AW.goto 1744 dL_law_662 (by decide) (J1744 _ _ _ hJ2))) (fun hx0 => ?_)
  refine AW.aload_n dL_law_643 rfl (AW.iconst 0 dL_law_644 (by decide) (AW.lald lw_144 (by unfold vp_in; decide) dL_law_645 ?_))
  refine AW.iload dL_law_646 rfl ?_
  refine AW.if_eq 655 dL_law_648 (by decide) (fun hz => ?_) (fun hz => ?_)
  · refine AW.lconst 0 dL_law_655 rfl (AW.lcmp dL_law_656 (AW.if_eq 662 dL_law_657 (by decide) (fun _ => (AW.goto 1744 dL_law_662 (by decide) (J1744 _ _ _ hJ2))) (fun h9 => absurd ?_ h9)))
    have e9 : L2 144 (Int32.toNatClampNeg 0) = if kb r = 0 then 0 else 1 := hL hx0
    rw [e9, if_pos hz]
    exact lw_cmp _
  · refine AW.lconst 1 dL_law_651 rfl (AW.goto 656 dL_law_652 (by decide) (AW.lcmp dL_law_656 (AW.if_eq 662 dL_law_657 (by decide) (fun _ => (AW.goto 1744 dL_law_662 (by decide) (J1744 _ _ _ hJ2))) (fun h9 => absurd ?_ h9))))
    have e9 : L2 144 (Int32.toNatClampNeg 0) = if kb r = 0 then 0 else 1 := hL hx0
    rw [e9, if_neg hz]
    exact lw_cmp _
set_option maxRecDepth 100000 in
set_option maxHeartbeats 4000000 in
theorem lb_8 (hK : k_OK G) (hXS : k_XS G) {n k : Nat} {xs : Nat → Int32} (hX : k_scr G n xs) (hn : n ≤ 3072) (hk : k ≤ 600) (hi : 6 * k + 6 ≤ n) (J1744 : ∀ (v5 v6 : Option Value) (w : am_w), lw_J w → AW G nL_law 200 (fun v _ => v = some (.int 1)) (fun _ _ => False) 1744 [some (.ref (1000000 + 3000000)), some (.ref 0), some (.ref 101), some (.ref 144), some (.int (nI (6 * k))), v5, v6] [] w (1024 + 4 * k + 4) (20000 + 24 * k + 24)) {w : am_w} (hJ : lw_J w) : AW G nL_law 200 (fun v _ => v = some (.int 1)) (fun _ _ => False) 665 [some (.ref (1000000 + 3000000)), some (.ref 0), some (.ref 101), some (.ref 144), some (.int (nI (6 * k))), none, none] [] w (1024 + 4 * k) (20000 + 24 * k) := by
  have hG := hK.1
  refine AW.aload_n dL_law_665 rfl ?_
  refine AW.aload_n dL_law_666 rfl (AW.iload dL_law_667 rfl (AW.iconst 1 dL_law_669 (by decide) (AW.iadd dL_law_670 (AW.sld hX (lw_ix (j := 1) (by omega) hn) dL_law_671 ?_))))
  refine AW.aload_n dL_law_672 rfl (AW.iload dL_law_673 rfl (AW.iconst 2 dL_law_675 (by decide) (AW.iadd dL_law_676 (AW.sld hX (lw_ix (j := 2) (by omega) hn) dL_law_677 ?_))))
  refine AW.aload_n dL_law_678 rfl ?_
  refine AW.callSH (M' := nL_may) (As := [.ref 0, .int (xs (nI (6 * k) + 1).toNatClampNeg), .int (xs (nI (6 * k) + 2).toNatClampNeg), .ref 144]) hG.2.2 (kH_may hG) (o_may hK hXS hJ (xs (nI (6 * k) + 1).toNatClampNeg) (xs (nI (6 * k) + 2).toNatClampNeg)) (by omega) dL_law_679 rfl rfl (Nat.le_of_ble_eq_true rfl) (fun v w9 hq h0 => by obtain ⟨x, I2, R2, L2, r, J, rfl, rfl, -⟩ := hq; exact absurd h0 Nat.one_ne_zero) (by show 1024 + 4 * k + 2 ≤ 601024; omega) (by show 20000 + 24 * k + 12 ≤ 7293034; omega) (fun _ _ h => h) (fun v1 w1 hq1 => ?_)
  obtain ⟨x, I2, R2, L2, r, J, rfl, rfl, hMo, hb, hJ2, hx, hL⟩ := hq1
  refine AW.widen (uc' := (1024 + 4 * k + 4)) (us' := (20000 + 24 * k + 24)) (by show 1024 + 4 * k + 2 ≤ 1024 + 4 * k + 4; omega) (by show 20000 + 24 * k + 12 ≤ 20000 + 24 * k + 24; omega) Nat.one_ne_zero ?_
  refine AW.is [some (.ref (1000000 + 3000000)), some (.ref 0), some (.ref 101), some (.ref 144), some (.int (nI (6 * k))), some (.int x), none] dL_law_682 (by decide) rfl rfl ?_
  refine AW.aload_n dL_law_684 rfl ?_
  refine AW.aload_n dL_law_685 rfl (AW.iload dL_law_686 rfl (AW.iconst 1 dL_law_688 (by decide) (AW.iadd dL_law_689 (AW.sld hX (lw_ix (j := 1) (by omega) hn) dL_law_690 ?_))))
  refine AW.aload_n dL_law_691 rfl (AW.iload dL_law_692 rfl (AW.iconst 2 dL_law_694 (by decide) (AW.iadd dL_law_695 (AW.sld hX (lw_ix (j := 2) (by omega) hn) dL_law_696 ?_))))
  refine AW.callV (b := 101) (As := [.int (xs (nI (6 * k) + 1).toNatClampNeg), .int (xs (nI (6 * k) + 2).toNatClampNeg)]) hG.2.2 (vL_115 hG) lw_101 (g_X11_may hK (d := 190) (by omega) hMo hb) (by omega) dL_law_697 rfl rfl (Nat.le_of_ble_eq_true rfl) (fun v w9 hq h0 => by obtain ⟨rfl, rfl⟩ := hq; exact absurd h0 Nat.one_ne_zero) (by show 1024 + 4 * k + 4 + 0 ≤ 601024; omega) (by show 20000 + 24 * k + 24 + 0 ≤ 7293034; omega) (fun _ _ h => h) (fun v2 w2 hq2 => ?_)
  obtain ⟨rfl, rfl⟩ := hq2
  refine AW.is [some (.ref (1000000 + 3000000)), some (.ref 0), some (.ref 101), some (.ref 144), some (.int (nI (6 * k))), some (.int x), some (.int r)] dL_law_700 (by decide) rfl rfl ?_
  refine AW.aload_n dL_law_702 rfl ?_
  refine AW.callV (b := 101) (As := []) hG.2.2 (vL_89 hG) lw_101 (g_X11_thrown hK (d := 190) (by omega) hMo) (by omega) dL_law_703 rfl rfl (Nat.le_of_ble_eq_true rfl) (fun v w9 hq h0 => by obtain ⟨rfl, rfl⟩ := hq; exact absurd h0 Nat.one_ne_zero) (by show 1024 + 4 * k + 4 + 0 + 0 ≤ 601024; omega) (by show 20000 + 24 * k + 24 + 0 + 0 ≤ 7293034; omega) (fun _ _ h => h) (fun v3 w3 hq3 => ?_)
  obtain ⟨rfl, rfl⟩ := hq3
  refine AW.widen (uc' := (1024 + 4 * k + 4)) (us' := (20000 + 24 * k + 24)) (by show 1024 + 4 * k + 4 + 0 + 0 ≤ 1024 + 4 * k + 4; omega) (by show 20000 + 24 * k + 24 + 0 + 0 ≤ 20000 + 24 * k + 24; omega) Nat.one_ne_zero ?_
  refine AW.iload dL_law_706 rfl ?_
  refine AW.icmp_eq 713 dL_law_708 (by decide) (fun h => ?_) (fun h => absurd hx h)
  refine AW.iload dL_law_713 rfl ?_
  refine AW.if_ne 730 dL_law_715 (by decide) (fun _ => (AW.goto 1744 dL_law_730 (by decide) (J1744 _ _ _ hJ2))) (fun hx0 => ?_)
  refine AW.aload_n dL_law_718 rfl (AW.iconst 0 dL_law_719 (by decide) (AW.lald lw_144 (by unfold vp_in; decide) dL_law_720 ?_))
  refine AW.iload dL_law_721 rfl ?_
  refine AW.i2l dL_law_723 (AW.lcmp dL_law_724 (AW.if_eq 730 dL_law_725 (by decide) (fun _ => (AW.goto 1744 dL_law_730 (by decide) (J1744 _ _ _ hJ2))) (fun h9 => absurd ?_ h9)))
  have e9 : L2 144 (Int32.toNatClampNeg 0) = r.toInt64 := hL hx0
  rw [e9]
  exact lw_cmp _
set_option maxRecDepth 100000 in
set_option maxHeartbeats 4000000 in
theorem lb_9 (hK : k_OK G) (hXS : k_XS G) {n k : Nat} {xs : Nat → Int32} (hX : k_scr G n xs) (hn : n ≤ 3072) (hk : k ≤ 600) (hi : 6 * k + 6 ≤ n) (J1744 : ∀ (v5 v6 : Option Value) (w : am_w), lw_J w → AW G nL_law 200 (fun v _ => v = some (.int 1)) (fun _ _ => False) 1744 [some (.ref (1000000 + 3000000)), some (.ref 0), some (.ref 101), some (.ref 144), some (.int (nI (6 * k))), v5, v6] [] w (1024 + 4 * k + 4) (20000 + 24 * k + 24)) {w : am_w} (hJ : lw_J w) : AW G nL_law 200 (fun v _ => v = some (.int 1)) (fun _ _ => False) 733 [some (.ref (1000000 + 3000000)), some (.ref 0), some (.ref 101), some (.ref 144), some (.int (nI (6 * k))), none, none] [] w (1024 + 4 * k) (20000 + 24 * k) := by
  have hG := hK.1
  refine AW.aload_n dL_law_733 rfl ?_
  refine AW.aload_n dL_law_734 rfl (AW.iload dL_law_735 rfl (AW.iconst 1 dL_law_737 (by decide) (AW.iadd dL_law_738 (AW.sld hX (lw_ix (j := 1) (by omega) hn) dL_law_739 ?_))))
  refine AW.aload_n dL_law_740 rfl (AW.iload dL_law_741 rfl (AW.iconst 2 dL_law_743 (by decide) (AW.iadd dL_law_744 (AW.sld hX (lw_ix (j := 2) (by omega) hn) dL_law_745 ?_))))
  refine AW.aload_n dL_law_746 rfl (AW.iload dL_law_747 rfl (AW.iconst 3 dL_law_749 (by decide) (AW.iadd dL_law_750 (AW.sld hX (lw_ix (j := 3) (by omega) hn) dL_law_751 ?_))))
  refine AW.aload_n dL_law_752 rfl ?_
  refine AW.callSH (M' := nL_slice) (As := [.ref 0, .int (xs (nI (6 * k) + 1).toNatClampNeg), .int (xs (nI (6 * k) + 2).toNatClampNeg), .int (xs (nI (6 * k) + 3).toNatClampNeg), .ref 144]) hG.2.2 (kH_slice hG) (o_slice hK hXS hJ (xs (nI (6 * k) + 1).toNatClampNeg) (xs (nI (6 * k) + 2).toNatClampNeg) (xs (nI (6 * k) + 3).toNatClampNeg)) (by omega) dL_law_753 rfl rfl (Nat.le_of_ble_eq_true rfl) (fun v w9 hq h0 => by obtain ⟨x, I2, R2, L2, r, J, rfl, rfl, -⟩ := hq; exact absurd h0 Nat.one_ne_zero) (by show 1024 + 4 * k + 3 ≤ 601024; omega) (by show 20000 + 24 * k + 18 ≤ 7293034; omega) (fun _ _ h => h) (fun v1 w1 hq1 => ?_)
  obtain ⟨x, I2, R2, L2, r, J, rfl, rfl, hMo, hb, hJ2, hx, hL⟩ := hq1
  refine AW.widen (uc' := (1024 + 4 * k + 4)) (us' := (20000 + 24 * k + 24)) (by show 1024 + 4 * k + 3 ≤ 1024 + 4 * k + 4; omega) (by show 20000 + 24 * k + 18 ≤ 20000 + 24 * k + 24; omega) Nat.one_ne_zero ?_
  refine AW.is [some (.ref (1000000 + 3000000)), some (.ref 0), some (.ref 101), some (.ref 144), some (.int (nI (6 * k))), some (.int x), none] dL_law_756 (by decide) rfl rfl ?_
  refine AW.aload_n dL_law_758 rfl ?_
  refine AW.aload_n dL_law_759 rfl (AW.iload dL_law_760 rfl (AW.iconst 1 dL_law_762 (by decide) (AW.iadd dL_law_763 (AW.sld hX (lw_ix (j := 1) (by omega) hn) dL_law_764 ?_))))
  refine AW.aload_n dL_law_765 rfl (AW.iload dL_law_766 rfl (AW.iconst 2 dL_law_768 (by decide) (AW.iadd dL_law_769 (AW.sld hX (lw_ix (j := 2) (by omega) hn) dL_law_770 ?_))))
  refine AW.aload_n dL_law_771 rfl (AW.iload dL_law_772 rfl (AW.iconst 3 dL_law_774 (by decide) (AW.iadd dL_law_775 (AW.sld hX (lw_ix (j := 3) (by omega) hn) dL_law_776 ?_))))
  refine AW.callV (b := 101) (As := [.int (xs (nI (6 * k) + 1).toNatClampNeg), .int (xs (nI (6 * k) + 2).toNatClampNeg), .int (xs (nI (6 * k) + 3).toNatClampNeg)]) hG.2.2 (vL_119 hG) lw_101 (g_X11_slice hK (d := 190) (by omega) hMo hb) (by omega) dL_law_777 rfl rfl (Nat.le_of_ble_eq_true rfl) (fun v w9 hq h0 => by obtain ⟨rfl, rfl⟩ := hq; exact absurd h0 Nat.one_ne_zero) (by show 1024 + 4 * k + 4 + 0 ≤ 601024; omega) (by show 20000 + 24 * k + 24 + 0 ≤ 7293034; omega) (fun _ _ h => h) (fun v2 w2 hq2 => ?_)
  obtain ⟨rfl, rfl⟩ := hq2
  refine AW.is [some (.ref (1000000 + 3000000)), some (.ref 0), some (.ref 101), some (.ref 144), some (.int (nI (6 * k))), some (.int x), some (.int r)] dL_law_780 (by decide) rfl rfl ?_
  refine AW.aload_n dL_law_782 rfl ?_
  refine AW.callV (b := 101) (As := []) hG.2.2 (vL_89 hG) lw_101 (g_X11_thrown hK (d := 190) (by omega) hMo) (by omega) dL_law_783 rfl rfl (Nat.le_of_ble_eq_true rfl) (fun v w9 hq h0 => by obtain ⟨rfl, rfl⟩ := hq; exact absurd h0 Nat.one_ne_zero) (by show 1024 + 4 * k + 4 + 0 + 0 ≤ 601024; omega) (by show 20000 + 24 * k + 24 + 0 + 0 ≤ 7293034; omega) (fun _ _ h => h) (fun v3 w3 hq3 => ?_)
  obtain ⟨rfl, rfl⟩ := hq3
  refine AW.widen (uc' := (1024 + 4 * k + 4)) (us' := (20000 + 24 * k + 24)) (by show 1024 + 4 * k + 4 + 0 + 0 ≤ 1024 + 4 * k + 4; omega) (by show 20000 + 24 * k + 24 + 0 + 0 ≤ 20000 + 24 * k + 24; omega) Nat.one_ne_zero ?_
  refine AW.iload dL_law_786 rfl ?_
  refine AW.icmp_eq 793 dL_law_788 (by decide) (fun h => ?_) (fun h => absurd hx h)
  refine AW.iload dL_law_793 rfl ?_
  refine AW.if_ne 810 dL_law_795 (by decide) (fun _ => (AW.goto 1744 dL_law_810 (by decide) (J1744 _ _ _ hJ2))) (fun hx0 => ?_)
  refine AW.aload_n dL_law_798 rfl (AW.iconst 0 dL_law_799 (by decide) (AW.lald lw_144 (by unfold vp_in; decide) dL_law_800 ?_))
  refine AW.iload dL_law_801 rfl ?_
  refine AW.i2l dL_law_803 (AW.lcmp dL_law_804 (AW.if_eq 810 dL_law_805 (by decide) (fun _ => (AW.goto 1744 dL_law_810 (by decide) (J1744 _ _ _ hJ2))) (fun h9 => absurd ?_ h9)))
  have e9 : L2 144 (Int32.toNatClampNeg 0) = r.toInt64 := hL hx0
  rw [e9]
  exact lw_cmp _
set_option maxRecDepth 100000 in
set_option maxHeartbeats 4000000 in
theorem lb_10 (hK : k_OK G) (hXS : k_XS G) {n k : Nat} {xs : Nat → Int32} (hX : k_scr G n xs) (hn : n ≤ 3072) (hk : k ≤ 600) (hi : 6 * k + 6 ≤ n) (J1744 : ∀ (v5 v6 : Option Value) (w : am_w), lw_J w → AW G nL_law 200 (fun v _ => v = some (.int 1)) (fun _ _ => False) 1744 [some (.ref (1000000 + 3000000)), some (.ref 0), some (.ref 101), some (.ref 144), some (.int (nI (6 * k))), v5, v6] [] w (1024 + 4 * k + 4) (20000 + 24 * k + 24)) {w : am_w} (hJ : lw_J w) : AW G nL_law 200 (fun v _ => v = some (.int 1)) (fun _ _ => False) 813 [some (.ref (1000000 + 3000000)), some (.ref 0), some (.ref 101), some (.ref 144), some (.int (nI (6 * k))), none, none] [] w (1024 + 4 * k) (20000 + 24 * k) := by
  have hG := hK.1
  refine AW.aload_n dL_law_813 rfl ?_
  refine AW.aload_n dL_law_814 rfl (AW.iload dL_law_815 rfl (AW.iconst 1 dL_law_817 (by decide) (AW.iadd dL_law_818 (AW.sld hX (lw_ix (j := 1) (by omega) hn) dL_law_819 ?_))))
  refine AW.aload_n dL_law_820 rfl (AW.iload dL_law_821 rfl (AW.iconst 2 dL_law_823 (by decide) (AW.iadd dL_law_824 (AW.sld hX (lw_ix (j := 2) (by omega) hn) dL_law_825 ?_))))
  refine AW.aload_n dL_law_826 rfl ?_
  refine AW.callSH (M' := nL_cut) (As := [.ref 0, .int (xs (nI (6 * k) + 1).toNatClampNeg), .int (xs (nI (6 * k) + 2).toNatClampNeg), .ref 144]) hG.2.2 (kH_cut hG) (o_cut hK hXS hJ (xs (nI (6 * k) + 1).toNatClampNeg) (xs (nI (6 * k) + 2).toNatClampNeg)) (by omega) dL_law_827 rfl rfl (Nat.le_of_ble_eq_true rfl) (fun v w9 hq h0 => by obtain ⟨x, I2, R2, L2, r, J, rfl, rfl, -⟩ := hq; exact absurd h0 Nat.one_ne_zero) (by show 1024 + 4 * k + 2 ≤ 601024; omega) (by show 20000 + 24 * k + 12 ≤ 7293034; omega) (fun _ _ h => h) (fun v1 w1 hq1 => ?_)
  obtain ⟨x, I2, R2, L2, r, J, rfl, rfl, hMo, hb, hJ2, hx, hL⟩ := hq1
  refine AW.widen (uc' := (1024 + 4 * k + 4)) (us' := (20000 + 24 * k + 24)) (by show 1024 + 4 * k + 2 ≤ 1024 + 4 * k + 4; omega) (by show 20000 + 24 * k + 12 ≤ 20000 + 24 * k + 24; omega) Nat.one_ne_zero ?_
  refine AW.is [some (.ref (1000000 + 3000000)), some (.ref 0), some (.ref 101), some (.ref 144), some (.int (nI (6 * k))), some (.int x), none] dL_law_830 (by decide) rfl rfl ?_
  refine AW.aload_n dL_law_832 rfl ?_
  refine AW.aload_n dL_law_833 rfl (AW.iload dL_law_834 rfl (AW.iconst 1 dL_law_836 (by decide) (AW.iadd dL_law_837 (AW.sld hX (lw_ix (j := 1) (by omega) hn) dL_law_838 ?_))))
  refine AW.aload_n dL_law_839 rfl (AW.iload dL_law_840 rfl (AW.iconst 2 dL_law_842 (by decide) (AW.iadd dL_law_843 (AW.sld hX (lw_ix (j := 2) (by omega) hn) dL_law_844 ?_))))
  refine AW.callV (b := 101) (As := [.int (xs (nI (6 * k) + 1).toNatClampNeg), .int (xs (nI (6 * k) + 2).toNatClampNeg)]) hG.2.2 (vL_122 hG) lw_101 (g_X11_cut hK (d := 190) (by omega) hMo hb) (by omega) dL_law_845 rfl rfl (Nat.le_of_ble_eq_true rfl) (fun v w9 hq h0 => by obtain ⟨rfl, rfl⟩ := hq; exact absurd h0 Nat.one_ne_zero) (by show 1024 + 4 * k + 4 + 0 ≤ 601024; omega) (by show 20000 + 24 * k + 24 + 0 ≤ 7293034; omega) (fun _ _ h => h) (fun v2 w2 hq2 => ?_)
  obtain ⟨rfl, rfl⟩ := hq2
  refine AW.is [some (.ref (1000000 + 3000000)), some (.ref 0), some (.ref 101), some (.ref 144), some (.int (nI (6 * k))), some (.int x), some (.int (kb r))] dL_law_848 (by decide) rfl rfl ?_
  refine AW.aload_n dL_law_850 rfl ?_
  refine AW.callV (b := 101) (As := []) hG.2.2 (vL_89 hG) lw_101 (g_X11_thrown hK (d := 190) (by omega) hMo) (by omega) dL_law_851 rfl rfl (Nat.le_of_ble_eq_true rfl) (fun v w9 hq h0 => by obtain ⟨rfl, rfl⟩ := hq; exact absurd h0 Nat.one_ne_zero) (by show 1024 + 4 * k + 4 + 0 + 0 ≤ 601024; omega) (by show 20000 + 24 * k + 24 + 0 + 0 ≤ 7293034; omega) (fun _ _ h => h) (fun v3 w3 hq3 => ?_)
  obtain ⟨rfl, rfl⟩ := hq3
  refine AW.widen (uc' := (1024 + 4 * k + 4)) (us' := (20000 + 24 * k + 24)) (by show 1024 + 4 * k + 4 + 0 + 0 ≤ 1024 + 4 * k + 4; omega) (by show 20000 + 24 * k + 24 + 0 + 0 ≤ 20000 + 24 * k + 24; omega) Nat.one_ne_zero ?_
  refine AW.iload dL_law_854 rfl ?_
  refine AW.icmp_eq 861 dL_law_856 (by decide) (fun h => ?_) (fun h => absurd hx h)
  refine AW.iload dL_law_861 rfl ?_
  refine AW.if_ne 885 dL_law_863 (by decide) (fun _ => (AW.goto 1744 dL_law_885 (by decide) (J1744 _ _ _ hJ2))) (fun hx0 => ?_)
  refine AW.aload_n dL_law_866 rfl (AW.iconst 0 dL_law_867 (by decide) (AW.lald lw_144 (by unfold vp_in; decide) dL_law_868 ?_))
  refine AW.iload dL_law_869 rfl ?_
  refine AW.if_eq 878 dL_law_871 (by decide) (fun hz => ?_) (fun hz => ?_)
  · refine AW.lconst 0 dL_law_878 rfl (AW.lcmp dL_law_879 (AW.if_eq 885 dL_law_880 (by decide) (fun _ => (AW.goto 1744 dL_law_885 (by decide) (J1744 _ _ _ hJ2))) (fun h9 => absurd ?_ h9)))
    have e9 : L2 144 (Int32.toNatClampNeg 0) = if kb r = 0 then 0 else 1 := hL hx0
    rw [e9, if_pos hz]
    exact lw_cmp _
  · refine AW.lconst 1 dL_law_874 rfl (AW.goto 879 dL_law_875 (by decide) (AW.lcmp dL_law_879 (AW.if_eq 885 dL_law_880 (by decide) (fun _ => (AW.goto 1744 dL_law_885 (by decide) (J1744 _ _ _ hJ2))) (fun h9 => absurd ?_ h9))))
    have e9 : L2 144 (Int32.toNatClampNeg 0) = if kb r = 0 then 0 else 1 := hL hx0
    rw [e9, if_neg hz]
    exact lw_cmp _
set_option maxRecDepth 100000 in
set_option maxHeartbeats 4000000 in
theorem lb_11 (hK : k_OK G) (hXS : k_XS G) {n k : Nat} {xs : Nat → Int32} (hX : k_scr G n xs) (hn : n ≤ 3072) (hk : k ≤ 600) (hi : 6 * k + 6 ≤ n) (J1744 : ∀ (v5 v6 : Option Value) (w : am_w), lw_J w → AW G nL_law 200 (fun v _ => v = some (.int 1)) (fun _ _ => False) 1744 [some (.ref (1000000 + 3000000)), some (.ref 0), some (.ref 101), some (.ref 144), some (.int (nI (6 * k))), v5, v6] [] w (1024 + 4 * k + 4) (20000 + 24 * k + 24)) {w : am_w} (hJ : lw_J w) : AW G nL_law 200 (fun v _ => v = some (.int 1)) (fun _ _ => False) 888 [some (.ref (1000000 + 3000000)), some (.ref 0), some (.ref 101), some (.ref 144), some (.int (nI (6 * k))), none, none] [] w (1024 + 4 * k) (20000 + 24 * k) := by
  have hG := hK.1
  refine AW.aload_n dL_law_888 rfl ?_
  refine AW.aload_n dL_law_889 rfl (AW.iload dL_law_890 rfl (AW.iconst 1 dL_law_892 (by decide) (AW.iadd dL_law_893 (AW.sld hX (lw_ix (j := 1) (by omega) hn) dL_law_894 ?_))))
  refine AW.aload_n dL_law_895 rfl (AW.iload dL_law_896 rfl (AW.iconst 2 dL_law_898 (by decide) (AW.iadd dL_law_899 (AW.sld hX (lw_ix (j := 2) (by omega) hn) dL_law_900 ?_))))
  refine AW.aload_n dL_law_901 rfl ?_
  refine AW.callSH (M' := nL_thank) (As := [.ref 0, .int (xs (nI (6 * k) + 1).toNatClampNeg), .int (xs (nI (6 * k) + 2).toNatClampNeg), .ref 144]) hG.2.2 (kH_thank hG) (o_thank hK hXS hJ (xs (nI (6 * k) + 1).toNatClampNeg) (xs (nI (6 * k) + 2).toNatClampNeg)) (by omega) dL_law_902 rfl rfl (Nat.le_of_ble_eq_true rfl) (fun v w9 hq h0 => by obtain ⟨x, I2, R2, L2, r, J, rfl, rfl, -⟩ := hq; exact absurd h0 Nat.one_ne_zero) (by show 1024 + 4 * k + 2 ≤ 601024; omega) (by show 20000 + 24 * k + 12 ≤ 7293034; omega) (fun _ _ h => h) (fun v1 w1 hq1 => ?_)
  obtain ⟨x, I2, R2, L2, r, J, rfl, rfl, hMo, hb, hJ2, hx, hL⟩ := hq1
  refine AW.widen (uc' := (1024 + 4 * k + 4)) (us' := (20000 + 24 * k + 24)) (by show 1024 + 4 * k + 2 ≤ 1024 + 4 * k + 4; omega) (by show 20000 + 24 * k + 12 ≤ 20000 + 24 * k + 24; omega) Nat.one_ne_zero ?_
  refine AW.is [some (.ref (1000000 + 3000000)), some (.ref 0), some (.ref 101), some (.ref 144), some (.int (nI (6 * k))), some (.int x), none] dL_law_905 (by decide) rfl rfl ?_
  refine AW.aload_n dL_law_907 rfl ?_
  refine AW.aload_n dL_law_908 rfl (AW.iload dL_law_909 rfl (AW.iconst 1 dL_law_911 (by decide) (AW.iadd dL_law_912 (AW.sld hX (lw_ix (j := 1) (by omega) hn) dL_law_913 ?_))))
  refine AW.aload_n dL_law_914 rfl (AW.iload dL_law_915 rfl (AW.iconst 2 dL_law_917 (by decide) (AW.iadd dL_law_918 (AW.sld hX (lw_ix (j := 2) (by omega) hn) dL_law_919 ?_))))
  refine AW.callV (b := 101) (As := [.int (xs (nI (6 * k) + 1).toNatClampNeg), .int (xs (nI (6 * k) + 2).toNatClampNeg)]) hG.2.2 (vL_125 hG) lw_101 (g_X11_thank hK (d := 190) (by omega) hMo hb) (by omega) dL_law_920 rfl rfl (Nat.le_of_ble_eq_true rfl) (fun v w9 hq h0 => by obtain ⟨rfl, rfl⟩ := hq; exact absurd h0 Nat.one_ne_zero) (by show 1024 + 4 * k + 4 + 0 ≤ 601024; omega) (by show 20000 + 24 * k + 24 + 0 ≤ 7293034; omega) (fun _ _ h => h) (fun v2 w2 hq2 => ?_)
  obtain ⟨rfl, rfl⟩ := hq2
  refine AW.is [some (.ref (1000000 + 3000000)), some (.ref 0), some (.ref 101), some (.ref 144), some (.int (nI (6 * k))), some (.int x), some (.int r)] dL_law_923 (by decide) rfl rfl ?_
  refine AW.aload_n dL_law_925 rfl ?_
  refine AW.callV (b := 101) (As := []) hG.2.2 (vL_89 hG) lw_101 (g_X11_thrown hK (d := 190) (by omega) hMo) (by omega) dL_law_926 rfl rfl (Nat.le_of_ble_eq_true rfl) (fun v w9 hq h0 => by obtain ⟨rfl, rfl⟩ := hq; exact absurd h0 Nat.one_ne_zero) (by show 1024 + 4 * k + 4 + 0 + 0 ≤ 601024; omega) (by show 20000 + 24 * k + 24 + 0 + 0 ≤ 7293034; omega) (fun _ _ h => h) (fun v3 w3 hq3 => ?_)
  obtain ⟨rfl, rfl⟩ := hq3
  refine AW.widen (uc' := (1024 + 4 * k + 4)) (us' := (20000 + 24 * k + 24)) (by show 1024 + 4 * k + 4 + 0 + 0 ≤ 1024 + 4 * k + 4; omega) (by show 20000 + 24 * k + 24 + 0 + 0 ≤ 20000 + 24 * k + 24; omega) Nat.one_ne_zero ?_
  refine AW.iload dL_law_929 rfl ?_
  refine AW.icmp_eq 936 dL_law_931 (by decide) (fun h => ?_) (fun h => absurd hx h)
  refine AW.iload dL_law_936 rfl ?_
  refine AW.if_ne 953 dL_law_938 (by decide) (fun _ => (AW.goto 1744 dL_law_953 (by decide) (J1744 _ _ _ hJ2))) (fun hx0 => ?_)
  refine AW.aload_n dL_law_941 rfl (AW.iconst 0 dL_law_942 (by decide) (AW.lald lw_144 (by unfold vp_in; decide) dL_law_943 ?_))
  refine AW.iload dL_law_944 rfl ?_
  refine AW.i2l dL_law_946 (AW.lcmp dL_law_947 (AW.if_eq 953 dL_law_948 (by decide) (fun _ => (AW.goto 1744 dL_law_953 (by decide) (J1744 _ _ _ hJ2))) (fun h9 => absurd ?_ h9)))
  have e9 : L2 144 (Int32.toNatClampNeg 0) = r.toInt64 := hL hx0
  rw [e9]
  exact lw_cmp _
set_option maxRecDepth 100000 in
set_option maxHeartbeats 4000000 in
theorem lb_12 (hK : k_OK G) (hXS : k_XS G) {n k : Nat} {xs : Nat → Int32} (hX : k_scr G n xs) (hn : n ≤ 3072) (hk : k ≤ 600) (hi : 6 * k + 6 ≤ n) (J1744 : ∀ (v5 v6 : Option Value) (w : am_w), lw_J w → AW G nL_law 200 (fun v _ => v = some (.int 1)) (fun _ _ => False) 1744 [some (.ref (1000000 + 3000000)), some (.ref 0), some (.ref 101), some (.ref 144), some (.int (nI (6 * k))), v5, v6] [] w (1024 + 4 * k + 4) (20000 + 24 * k + 24)) {w : am_w} (hJ : lw_J w) : AW G nL_law 200 (fun v _ => v = some (.int 1)) (fun _ _ => False) 956 [some (.ref (1000000 + 3000000)), some (.ref 0), some (.ref 101), some (.ref 144), some (.int (nI (6 * k))), none, none] [] w (1024 + 4 * k) (20000 + 24 * k) := by
  have hG := hK.1
  refine AW.aload_n dL_law_956 rfl ?_
  refine AW.aload_n dL_law_957 rfl (AW.iload dL_law_958 rfl (AW.iconst 1 dL_law_960 (by decide) (AW.iadd dL_law_961 (AW.sld hX (lw_ix (j := 1) (by omega) hn) dL_law_962 ?_))))
  refine AW.callV (b := 0) (As := [.int (xs (nI (6 * k) + 1).toNatClampNeg)]) hG.2.2 (vL_126 hG) (by obtain ⟨I, R, L, t, t2, T, rfl, -⟩ := hJ; exact lw_0) (o_fair hK hXS hJ (xs (nI (6 * k) + 1).toNatClampNeg)) (by omega) dL_law_963 rfl rfl (Nat.le_of_ble_eq_true rfl) (fun v w9 hq h0 => by obtain ⟨I2, R2, L2, r, J, rfl, rfl, -⟩ := hq; exact absurd h0 Nat.one_ne_zero) (by show 1024 + 4 * k + 0 ≤ 601024; omega) (by show 20000 + 24 * k + 0 ≤ 7293034; omega) (fun _ _ h => h) (fun v1 w1 hq1 => ?_)
  obtain ⟨I2, R2, L2, r, J, rfl, rfl, hMo, hb, hJ2⟩ := hq1
  refine AW.widen (uc' := (1024 + 4 * k + 4)) (us' := (20000 + 24 * k + 24)) (by show 1024 + 4 * k + 0 ≤ 1024 + 4 * k + 4; omega) (by show 20000 + 24 * k + 0 ≤ 20000 + 24 * k + 24; omega) Nat.one_ne_zero ?_
  refine AW.aload_n dL_law_966 rfl ?_
  refine AW.aload_n dL_law_967 rfl (AW.iload dL_law_968 rfl (AW.iconst 1 dL_law_970 (by decide) (AW.iadd dL_law_971 (AW.sld hX (lw_ix (j := 1) (by omega) hn) dL_law_972 ?_))))
  refine AW.callV (b := 101) (As := [.int (xs (nI (6 * k) + 1).toNatClampNeg)]) hG.2.2 (vL_129 hG) lw_101 (g_X11_fair hK (d := 190) (by omega) hMo hb) (by omega) dL_law_973 rfl rfl (Nat.le_of_ble_eq_true rfl) (fun v w9 hq h0 => by obtain ⟨rfl, rfl⟩ := hq; exact absurd h0 Nat.one_ne_zero) (by show 1024 + 4 * k + 4 + 0 ≤ 601024; omega) (by show 20000 + 24 * k + 24 + 0 ≤ 7293034; omega) (fun _ _ h => h) (fun v2 w2 hq2 => ?_)
  obtain ⟨rfl, rfl⟩ := hq2
  refine AW.widen (uc' := (1024 + 4 * k + 4)) (us' := (20000 + 24 * k + 24)) (by show 1024 + 4 * k + 4 + 0 ≤ 1024 + 4 * k + 4; omega) (by show 20000 + 24 * k + 24 + 0 ≤ 20000 + 24 * k + 24; omega) Nat.one_ne_zero ?_
  exact AW.icmp_eq 1744 dL_law_976 (by decide) (fun _ => J1744 _ _ _ hJ2) (fun h => absurd rfl h)
set_option maxRecDepth 100000 in
set_option maxHeartbeats 4000000 in
theorem lb_13 (hK : k_OK G) (hXS : k_XS G) {n k : Nat} {xs : Nat → Int32} (hX : k_scr G n xs) (hn : n ≤ 3072) (hk : k ≤ 600) (hi : 6 * k + 6 ≤ n) (J1744 : ∀ (v5 v6 : Option Value) (w : am_w), lw_J w → AW G nL_law 200 (fun v _ => v = some (.int 1)) (fun _ _ => False) 1744 [some (.ref (1000000 + 3000000)), some (.ref 0), some (.ref 101), some (.ref 144), some (.int (nI (6 * k))), v5, v6] [] w (1024 + 4 * k + 4) (20000 + 24 * k + 24)) {w : am_w} (hJ : lw_J w) : AW G nL_law 200 (fun v _ => v = some (.int 1)) (fun _ _ => False) 981 [some (.ref (1000000 + 3000000)), some (.ref 0), some (.ref 101), some (.ref 144), some (.int (nI (6 * k))), none, none] [] w (1024 + 4 * k) (20000 + 24 * k) := by
  have hG := hK.1
  refine AW.aload_n dL_law_981 rfl ?_
  refine AW.aload_n dL_law_982 rfl (AW.iload dL_law_983 rfl (AW.iconst 1 dL_law_985 (by decide) (AW.iadd dL_law_986 (AW.sld hX (lw_ix (j := 1) (by omega) hn) dL_law_987 ?_))))
  refine AW.callV (b := 0) (As := [.int (xs (nI (6 * k) + 1).toNatClampNeg)]) hG.2.2 (vL_130 hG) (by obtain ⟨I, R, L, t, t2, T, rfl, -⟩ := hJ; exact lw_0) (o_hours hK hXS hJ (xs (nI (6 * k) + 1).toNatClampNeg)) (by omega) dL_law_988 rfl rfl (Nat.le_of_ble_eq_true rfl) (fun v w9 hq h0 => by obtain ⟨I2, R2, L2, r, J, rfl, rfl, -⟩ := hq; exact absurd h0 Nat.one_ne_zero) (by show 1024 + 4 * k + 0 ≤ 601024; omega) (by show 20000 + 24 * k + 0 ≤ 7293034; omega) (fun _ _ h => h) (fun v1 w1 hq1 => ?_)
  obtain ⟨I2, R2, L2, r, J, rfl, rfl, hMo, hb, hJ2⟩ := hq1
  refine AW.widen (uc' := (1024 + 4 * k + 4)) (us' := (20000 + 24 * k + 24)) (by show 1024 + 4 * k + 0 ≤ 1024 + 4 * k + 4; omega) (by show 20000 + 24 * k + 0 ≤ 20000 + 24 * k + 24; omega) Nat.one_ne_zero ?_
  refine AW.aload_n dL_law_991 rfl ?_
  refine AW.aload_n dL_law_992 rfl (AW.iload dL_law_993 rfl (AW.iconst 1 dL_law_995 (by decide) (AW.iadd dL_law_996 (AW.sld hX (lw_ix (j := 1) (by omega) hn) dL_law_997 ?_))))
  refine AW.callV (b := 101) (As := [.int (xs (nI (6 * k) + 1).toNatClampNeg)]) hG.2.2 (vL_133 hG) lw_101 (g_X11_hours hK (d := 190) (by omega) hMo hb) (by omega) dL_law_998 rfl rfl (Nat.le_of_ble_eq_true rfl) (fun v w9 hq h0 => by obtain ⟨rfl, rfl⟩ := hq; exact absurd h0 Nat.one_ne_zero) (by show 1024 + 4 * k + 4 + 0 ≤ 601024; omega) (by show 20000 + 24 * k + 24 + 0 ≤ 7293034; omega) (fun _ _ h => h) (fun v2 w2 hq2 => ?_)
  obtain ⟨rfl, rfl⟩ := hq2
  refine AW.widen (uc' := (1024 + 4 * k + 4)) (us' := (20000 + 24 * k + 24)) (by show 1024 + 4 * k + 4 + 0 ≤ 1024 + 4 * k + 4; omega) (by show 20000 + 24 * k + 24 + 0 ≤ 20000 + 24 * k + 24; omega) Nat.one_ne_zero ?_
  exact AW.icmp_eq 1744 dL_law_1001 (by decide) (fun _ => J1744 _ _ _ hJ2) (fun h => absurd rfl h)
set_option maxRecDepth 100000 in
set_option maxHeartbeats 4000000 in
theorem lb_14 (hK : k_OK G) (hXS : k_XS G) {n k : Nat} {xs : Nat → Int32} (hX : k_scr G n xs) (hn : n ≤ 3072) (hk : k ≤ 600) (hi : 6 * k + 6 ≤ n) (J1744 : ∀ (v5 v6 : Option Value) (w : am_w), lw_J w → AW G nL_law 200 (fun v _ => v = some (.int 1)) (fun _ _ => False) 1744 [some (.ref (1000000 + 3000000)), some (.ref 0), some (.ref 101), some (.ref 144), some (.int (nI (6 * k))), v5, v6] [] w (1024 + 4 * k + 4) (20000 + 24 * k + 24)) {w : am_w} (hJ : lw_J w) : AW G nL_law 200 (fun v _ => v = some (.int 1)) (fun _ _ => False) 1006 [some (.ref (1000000 + 3000000)), some (.ref 0), some (.ref 101), some (.ref 144), some (.int (nI (6 * k))), none, none] [] w (1024 + 4 * k) (20000 + 24 * k) := by
  have hG := hK.1
  refine AW.aload_n dL_law_1006 rfl ?_
  refine AW.callV (b := 0) (As := []) hG.2.2 (vL_134 hG) (by obtain ⟨I, R, L, t, t2, T, rfl, -⟩ := hJ; exact lw_0) (o_undo hK hXS hJ ) (by omega) dL_law_1007 rfl rfl (Nat.le_of_ble_eq_true rfl) (fun v w9 hq h0 => by obtain ⟨I2, R2, L2, r, J, rfl, rfl, -⟩ := hq; exact absurd h0 Nat.one_ne_zero) (by show 1024 + 4 * k + 0 ≤ 601024; omega) (by show 20000 + 24 * k + 0 ≤ 7293034; omega) (fun _ _ h => h) (fun v1 w1 hq1 => ?_)
  obtain ⟨I2, R2, L2, r, J, rfl, rfl, hMo, hb, hJ2⟩ := hq1
  refine AW.widen (uc' := (1024 + 4 * k + 4)) (us' := (20000 + 24 * k + 24)) (by show 1024 + 4 * k + 0 ≤ 1024 + 4 * k + 4; omega) (by show 20000 + 24 * k + 0 ≤ 20000 + 24 * k + 24; omega) Nat.one_ne_zero ?_
  refine AW.aload_n dL_law_1010 rfl ?_
  refine AW.callV (b := 101) (As := []) hG.2.2 (vL_137 hG) lw_101 (g_X11_undo hK (d := 190) (by omega) hMo hb) (by omega) dL_law_1011 rfl rfl (Nat.le_of_ble_eq_true rfl) (fun v w9 hq h0 => by obtain ⟨rfl, rfl⟩ := hq; exact absurd h0 Nat.one_ne_zero) (by show 1024 + 4 * k + 4 + 0 ≤ 601024; omega) (by show 20000 + 24 * k + 24 + 0 ≤ 7293034; omega) (fun _ _ h => h) (fun v2 w2 hq2 => ?_)
  obtain ⟨rfl, rfl⟩ := hq2
  refine AW.widen (uc' := (1024 + 4 * k + 4)) (us' := (20000 + 24 * k + 24)) (by show 1024 + 4 * k + 4 + 0 ≤ 1024 + 4 * k + 4; omega) (by show 20000 + 24 * k + 24 + 0 ≤ 20000 + 24 * k + 24; omega) Nat.one_ne_zero ?_
  exact AW.icmp_eq 1744 dL_law_1014 (by decide) (fun _ => J1744 _ _ _ hJ2) (fun h => absurd rfl h)
set_option maxRecDepth 100000 in
set_option maxHeartbeats 4000000 in
theorem lb_15 (hK : k_OK G) (hXS : k_XS G) {n k : Nat} {xs : Nat → Int32} (hX : k_scr G n xs) (hn : n ≤ 3072) (hk : k ≤ 600) (hi : 6 * k + 6 ≤ n) (J1744 : ∀ (v5 v6 : Option Value) (w : am_w), lw_J w → AW G nL_law 200 (fun v _ => v = some (.int 1)) (fun _ _ => False) 1744 [some (.ref (1000000 + 3000000)), some (.ref 0), some (.ref 101), some (.ref 144), some (.int (nI (6 * k))), v5, v6] [] w (1024 + 4 * k + 4) (20000 + 24 * k + 24)) {w : am_w} (hJ : lw_J w) : AW G nL_law 200 (fun v _ => v = some (.int 1)) (fun _ _ => False) 1019 [some (.ref (1000000 + 3000000)), some (.ref 0), some (.ref 101), some (.ref 144), some (.int (nI (6 * k))), none, none] [] w (1024 + 4 * k) (20000 + 24 * k) := by
  have hG := hK.1
  refine AW.aload_n dL_law_1019 rfl ?_
  refine AW.callV (b := 0) (As := []) hG.2.2 (vL_138 hG) (by obtain ⟨I, R, L, t, t2, T, rfl, -⟩ := hJ; exact lw_0) (o_noon hK hXS hJ ) (by omega) dL_law_1020 rfl rfl (Nat.le_of_ble_eq_true rfl) (fun v w9 hq h0 => by obtain ⟨I2, R2, L2, r, J, rfl, rfl, -⟩ := hq; exact absurd h0 Nat.one_ne_zero) (by show 1024 + 4 * k + 0 ≤ 601024; omega) (by show 20000 + 24 * k + 0 ≤ 7293034; omega) (fun _ _ h => h) (fun v1 w1 hq1 => ?_)
  obtain ⟨I2, R2, L2, r, J, rfl, rfl, hMo, hb, hJ2⟩ := hq1
  refine AW.widen (uc' := (1024 + 4 * k + 4)) (us' := (20000 + 24 * k + 24)) (by show 1024 + 4 * k + 0 ≤ 1024 + 4 * k + 4; omega) (by show 20000 + 24 * k + 0 ≤ 20000 + 24 * k + 24; omega) Nat.one_ne_zero ?_
  refine AW.aload_n dL_law_1023 rfl ?_
  refine AW.callV (b := 101) (As := []) hG.2.2 (vL_141 hG) lw_101 (g_X11_noon hK (d := 190) (by omega) hMo hb) (by omega) dL_law_1024 rfl rfl (Nat.le_of_ble_eq_true rfl) (fun v w9 hq h0 => by obtain ⟨rfl, rfl⟩ := hq; exact absurd h0 Nat.one_ne_zero) (by show 1024 + 4 * k + 4 + 0 ≤ 601024; omega) (by show 20000 + 24 * k + 24 + 0 ≤ 7293034; omega) (fun _ _ h => h) (fun v2 w2 hq2 => ?_)
  obtain ⟨rfl, rfl⟩ := hq2
  refine AW.widen (uc' := (1024 + 4 * k + 4)) (us' := (20000 + 24 * k + 24)) (by show 1024 + 4 * k + 4 + 0 ≤ 1024 + 4 * k + 4; omega) (by show 20000 + 24 * k + 24 + 0 ≤ 20000 + 24 * k + 24; omega) Nat.one_ne_zero ?_
  exact AW.icmp_eq 1744 dL_law_1027 (by decide) (fun _ => J1744 _ _ _ hJ2) (fun h => absurd rfl h)
set_option maxRecDepth 100000 in
set_option maxHeartbeats 4000000 in
theorem lb_16 (hK : k_OK G) (hXS : k_XS G) {n k : Nat} {xs : Nat → Int32} (hX : k_scr G n xs) (hn : n ≤ 3072) (hk : k ≤ 600) (hi : 6 * k + 6 ≤ n) (J1744 : ∀ (v5 v6 : Option Value) (w : am_w), lw_J w → AW G nL_law 200 (fun v _ => v = some (.int 1)) (fun _ _ => False) 1744 [some (.ref (1000000 + 3000000)), some (.ref 0), some (.ref 101), some (.ref 144), some (.int (nI (6 * k))), v5, v6] [] w (1024 + 4 * k + 4) (20000 + 24 * k + 24)) {w : am_w} (hJ : lw_J w) : AW G nL_law 200 (fun v _ => v = some (.int 1)) (fun _ _ => False) 1032 [some (.ref (1000000 + 3000000)), some (.ref 0), some (.ref 101), some (.ref 144), some (.int (nI (6 * k))), none, none] [] w (1024 + 4 * k) (20000 + 24 * k) := by
  have hG := hK.1
  refine AW.aload_n dL_law_1032 rfl ?_
  refine AW.aload_n dL_law_1033 rfl (AW.iload dL_law_1034 rfl (AW.iconst 1 dL_law_1036 (by decide) (AW.iadd dL_law_1037 (AW.sld hX (lw_ix (j := 1) (by omega) hn) dL_law_1038 ?_))))
  refine AW.aload_n dL_law_1039 rfl ?_
  refine AW.callSH (M' := nL_carried) (As := [.ref 0, .int (xs (nI (6 * k) + 1).toNatClampNeg), .ref 144]) hG.2.2 (kH_carried hG) (o_carried hK hXS hJ (xs (nI (6 * k) + 1).toNatClampNeg)) (by omega) dL_law_1040 rfl rfl (Nat.le_of_ble_eq_true rfl) (fun v w9 hq h0 => by obtain ⟨x, I2, R2, L2, r, J, rfl, rfl, -⟩ := hq; exact absurd h0 Nat.one_ne_zero) (by show 1024 + 4 * k + 2 ≤ 601024; omega) (by show 20000 + 24 * k + 12 ≤ 7293034; omega) (fun _ _ h => h) (fun v1 w1 hq1 => ?_)
  obtain ⟨x, I2, R2, L2, r, J, rfl, rfl, hMo, hb, hJ2, hx, hL⟩ := hq1
  refine AW.widen (uc' := (1024 + 4 * k + 4)) (us' := (20000 + 24 * k + 24)) (by show 1024 + 4 * k + 2 ≤ 1024 + 4 * k + 4; omega) (by show 20000 + 24 * k + 12 ≤ 20000 + 24 * k + 24; omega) Nat.one_ne_zero ?_
  refine AW.is [some (.ref (1000000 + 3000000)), some (.ref 0), some (.ref 101), some (.ref 144), some (.int (nI (6 * k))), some (.int x), none] dL_law_1043 (by decide) rfl rfl ?_
  refine AW.aload_n dL_law_1045 rfl ?_
  refine AW.aload_n dL_law_1046 rfl (AW.iload dL_law_1047 rfl (AW.iconst 1 dL_law_1049 (by decide) (AW.iadd dL_law_1050 (AW.sld hX (lw_ix (j := 1) (by omega) hn) dL_law_1051 ?_))))
  refine AW.callV (b := 101) (As := [.int (xs (nI (6 * k) + 1).toNatClampNeg)]) hG.2.2 (vL_144 hG) lw_101 (g_X11_carried hK (d := 190) (by omega) hMo hb) (by omega) dL_law_1052 rfl rfl (Nat.le_of_ble_eq_true rfl) (fun v w9 hq h0 => by obtain ⟨rfl, rfl⟩ := hq; exact absurd h0 Nat.one_ne_zero) (by show 1024 + 4 * k + 4 + 0 ≤ 601024; omega) (by show 20000 + 24 * k + 24 + 0 ≤ 7293034; omega) (fun _ _ h => h) (fun v2 w2 hq2 => ?_)
  obtain ⟨rfl, rfl⟩ := hq2
  refine AW.is [some (.ref (1000000 + 3000000)), some (.ref 0), some (.ref 101), some (.ref 144), some (.int (nI (6 * k))), some (.int x), some (.int r)] dL_law_1055 (by decide) rfl rfl ?_
  refine AW.aload_n dL_law_1057 rfl ?_
  refine AW.callV (b := 101) (As := []) hG.2.2 (vL_89 hG) lw_101 (g_X11_thrown hK (d := 190) (by omega) hMo) (by omega) dL_law_1058 rfl rfl (Nat.le_of_ble_eq_true rfl) (fun v w9 hq h0 => by obtain ⟨rfl, rfl⟩ := hq; exact absurd h0 Nat.one_ne_zero) (by show 1024 + 4 * k + 4 + 0 + 0 ≤ 601024; omega) (by show 20000 + 24 * k + 24 + 0 + 0 ≤ 7293034; omega) (fun _ _ h => h) (fun v3 w3 hq3 => ?_)
  obtain ⟨rfl, rfl⟩ := hq3
  refine AW.widen (uc' := (1024 + 4 * k + 4)) (us' := (20000 + 24 * k + 24)) (by show 1024 + 4 * k + 4 + 0 + 0 ≤ 1024 + 4 * k + 4; omega) (by show 20000 + 24 * k + 24 + 0 + 0 ≤ 20000 + 24 * k + 24; omega) Nat.one_ne_zero ?_
  refine AW.iload dL_law_1061 rfl ?_
  refine AW.icmp_eq 1068 dL_law_1063 (by decide) (fun h => ?_) (fun h => absurd hx h)
  refine AW.iload dL_law_1068 rfl ?_
  refine AW.if_ne 1085 dL_law_1070 (by decide) (fun _ => (AW.goto 1744 dL_law_1085 (by decide) (J1744 _ _ _ hJ2))) (fun hx0 => ?_)
  refine AW.aload_n dL_law_1073 rfl (AW.iconst 0 dL_law_1074 (by decide) (AW.lald lw_144 (by unfold vp_in; decide) dL_law_1075 ?_))
  refine AW.iload dL_law_1076 rfl ?_
  refine AW.i2l dL_law_1078 (AW.lcmp dL_law_1079 (AW.if_eq 1085 dL_law_1080 (by decide) (fun _ => (AW.goto 1744 dL_law_1085 (by decide) (J1744 _ _ _ hJ2))) (fun h9 => absurd ?_ h9)))
  have e9 : L2 144 (Int32.toNatClampNeg 0) = r.toInt64 := hL hx0
  rw [e9]
  exact lw_cmp _
set_option maxRecDepth 100000 in
set_option maxHeartbeats 4000000 in
theorem lb_17 (hK : k_OK G) (hXS : k_XS G) {n k : Nat} {xs : Nat → Int32} (hX : k_scr G n xs) (hn : n ≤ 3072) (hk : k ≤ 600) (hi : 6 * k + 6 ≤ n) (J1744 : ∀ (v5 v6 : Option Value) (w : am_w), lw_J w → AW G nL_law 200 (fun v _ => v = some (.int 1)) (fun _ _ => False) 1744 [some (.ref (1000000 + 3000000)), some (.ref 0), some (.ref 101), some (.ref 144), some (.int (nI (6 * k))), v5, v6] [] w (1024 + 4 * k + 4) (20000 + 24 * k + 24)) {w : am_w} (hJ : lw_J w) : AW G nL_law 200 (fun v _ => v = some (.int 1)) (fun _ _ => False) 1088 [some (.ref (1000000 + 3000000)), some (.ref 0), some (.ref 101), some (.ref 144), some (.int (nI (6 * k))), none, none] [] w (1024 + 4 * k) (20000 + 24 * k) := by
  have hG := hK.1
  refine AW.aload_n dL_law_1088 rfl ?_
  refine AW.callV (b := 0) (As := []) hG.2.2 (vL_145 hG) (by obtain ⟨I, R, L, t, t2, T, rfl, -⟩ := hJ; exact lw_0) (o_familiar hK hXS hJ ) (by omega) dL_law_1089 rfl rfl (Nat.le_of_ble_eq_true rfl) (fun v w9 hq h0 => by obtain ⟨I2, R2, L2, r, J, rfl, rfl, -⟩ := hq; exact absurd h0 Nat.one_ne_zero) (by show 1024 + 4 * k + 0 ≤ 601024; omega) (by show 20000 + 24 * k + 0 ≤ 7293034; omega) (fun _ _ h => h) (fun v1 w1 hq1 => ?_)
  obtain ⟨I2, R2, L2, r, J, rfl, rfl, hMo, hb, hJ2⟩ := hq1
  refine AW.widen (uc' := (1024 + 4 * k + 4)) (us' := (20000 + 24 * k + 24)) (by show 1024 + 4 * k + 0 ≤ 1024 + 4 * k + 4; omega) (by show 20000 + 24 * k + 0 ≤ 20000 + 24 * k + 24; omega) Nat.one_ne_zero ?_
  refine AW.aload_n dL_law_1092 rfl ?_
  refine AW.callV (b := 101) (As := []) hG.2.2 (vL_148 hG) lw_101 (g_X11_familiar hK (d := 190) (by omega) hMo hb) (by omega) dL_law_1093 rfl rfl (Nat.le_of_ble_eq_true rfl) (fun v w9 hq h0 => by obtain ⟨rfl, rfl⟩ := hq; exact absurd h0 Nat.one_ne_zero) (by show 1024 + 4 * k + 4 + 0 ≤ 601024; omega) (by show 20000 + 24 * k + 24 + 0 ≤ 7293034; omega) (fun _ _ h => h) (fun v2 w2 hq2 => ?_)
  obtain ⟨rfl, rfl⟩ := hq2
  refine AW.widen (uc' := (1024 + 4 * k + 4)) (us' := (20000 + 24 * k + 24)) (by show 1024 + 4 * k + 4 + 0 ≤ 1024 + 4 * k + 4; omega) (by show 20000 + 24 * k + 24 + 0 ≤ 20000 + 24 * k + 24; omega) Nat.one_ne_zero ?_
  exact AW.icmp_eq 1744 dL_law_1096 (by decide) (fun _ => J1744 _ _ _ hJ2) (fun h => absurd rfl h)
set_option maxRecDepth 100000 in
set_option maxHeartbeats 4000000 in
theorem lb_18 (hK : k_OK G) (hXS : k_XS G) {n k : Nat} {xs : Nat → Int32} (hX : k_scr G n xs) (hn : n ≤ 3072) (hk : k ≤ 600) (hi : 6 * k + 6 ≤ n) (J1744 : ∀ (v5 v6 : Option Value) (w : am_w), lw_J w → AW G nL_law 200 (fun v _ => v = some (.int 1)) (fun _ _ => False) 1744 [some (.ref (1000000 + 3000000)), some (.ref 0), some (.ref 101), some (.ref 144), some (.int (nI (6 * k))), v5, v6] [] w (1024 + 4 * k + 4) (20000 + 24 * k + 24)) {w : am_w} (hJ : lw_J w) : AW G nL_law 200 (fun v _ => v = some (.int 1)) (fun _ _ => False) 1101 [some (.ref (1000000 + 3000000)), some (.ref 0), some (.ref 101), some (.ref 144), some (.int (nI (6 * k))), none, none] [] w (1024 + 4 * k) (20000 + 24 * k) := by
  have hG := hK.1
  refine AW.aload_n dL_law_1101 rfl ?_
  refine AW.callV (b := 0) (As := []) hG.2.2 (vL_149 hG) (by obtain ⟨I, R, L, t, t2, T, rfl, -⟩ := hJ; exact lw_0) (o_ring hK hXS hJ ) (by omega) dL_law_1102 rfl rfl (Nat.le_of_ble_eq_true rfl) (fun v w9 hq h0 => by obtain ⟨I2, R2, L2, r, J, rfl, rfl, -⟩ := hq; exact absurd h0 Nat.one_ne_zero) (by show 1024 + 4 * k + 0 ≤ 601024; omega) (by show 20000 + 24 * k + 0 ≤ 7293034; omega) (fun _ _ h => h) (fun v1 w1 hq1 => ?_)
  obtain ⟨I2, R2, L2, r, J, rfl, rfl, hMo, hb, hJ2⟩ := hq1
  refine AW.widen (uc' := (1024 + 4 * k + 4)) (us' := (20000 + 24 * k + 24)) (by show 1024 + 4 * k + 0 ≤ 1024 + 4 * k + 4; omega) (by show 20000 + 24 * k + 0 ≤ 20000 + 24 * k + 24; omega) Nat.one_ne_zero ?_
  refine AW.aload_n dL_law_1105 rfl ?_
  refine AW.callV (b := 101) (As := []) hG.2.2 (vL_152 hG) lw_101 (g_X11_ring hK (d := 190) (by omega) hMo hb) (by omega) dL_law_1106 rfl rfl (Nat.le_of_ble_eq_true rfl) (fun v w9 hq h0 => by obtain ⟨rfl, rfl⟩ := hq; exact absurd h0 Nat.one_ne_zero) (by show 1024 + 4 * k + 4 + 0 ≤ 601024; omega) (by show 20000 + 24 * k + 24 + 0 ≤ 7293034; omega) (fun _ _ h => h) (fun v2 w2 hq2 => ?_)
  obtain ⟨rfl, rfl⟩ := hq2
  refine AW.widen (uc' := (1024 + 4 * k + 4)) (us' := (20000 + 24 * k + 24)) (by show 1024 + 4 * k + 4 + 0 ≤ 1024 + 4 * k + 4; omega) (by show 20000 + 24 * k + 24 + 0 ≤ 20000 + 24 * k + 24; omega) Nat.one_ne_zero ?_
  exact AW.icmp_eq 1744 dL_law_1109 (by decide) (fun _ => J1744 _ _ _ hJ2) (fun h => absurd rfl h)
set_option maxRecDepth 100000 in
set_option maxHeartbeats 4000000 in
theorem lb_19 (hK : k_OK G) (hXS : k_XS G) {n k : Nat} {xs : Nat → Int32} (hX : k_scr G n xs) (hn : n ≤ 3072) (hk : k ≤ 600) (hi : 6 * k + 6 ≤ n) (J1744 : ∀ (v5 v6 : Option Value) (w : am_w), lw_J w → AW G nL_law 200 (fun v _ => v = some (.int 1)) (fun _ _ => False) 1744 [some (.ref (1000000 + 3000000)), some (.ref 0), some (.ref 101), some (.ref 144), some (.int (nI (6 * k))), v5, v6] [] w (1024 + 4 * k + 4) (20000 + 24 * k + 24)) {w : am_w} (hJ : lw_J w) : AW G nL_law 200 (fun v _ => v = some (.int 1)) (fun _ _ => False) 1114 [some (.ref (1000000 + 3000000)), some (.ref 0), some (.ref 101), some (.ref 144), some (.int (nI (6 * k))), none, none] [] w (1024 + 4 * k) (20000 + 24 * k) := by
  have hG := hK.1
  refine AW.aload_n dL_law_1114 rfl ?_
  refine AW.callV (b := 0) (As := []) hG.2.2 (vL_153 hG) (by obtain ⟨I, R, L, t, t2, T, rfl, -⟩ := hJ; exact lw_0) (o_safe hK hXS hJ ) (by omega) dL_law_1115 rfl rfl (Nat.le_of_ble_eq_true rfl) (fun v w9 hq h0 => by obtain ⟨I2, R2, L2, r, J, rfl, rfl, -⟩ := hq; exact absurd h0 Nat.one_ne_zero) (by show 1024 + 4 * k + 0 ≤ 601024; omega) (by show 20000 + 24 * k + 0 ≤ 7293034; omega) (fun _ _ h => h) (fun v1 w1 hq1 => ?_)
  obtain ⟨I2, R2, L2, r, J, rfl, rfl, hMo, hb, hJ2⟩ := hq1
  refine AW.widen (uc' := (1024 + 4 * k + 4)) (us' := (20000 + 24 * k + 24)) (by show 1024 + 4 * k + 0 ≤ 1024 + 4 * k + 4; omega) (by show 20000 + 24 * k + 0 ≤ 20000 + 24 * k + 24; omega) Nat.one_ne_zero ?_
  refine AW.aload_n dL_law_1118 rfl ?_
  refine AW.callV (b := 101) (As := []) hG.2.2 (vL_156 hG) lw_101 (g_X11_safe hK (d := 190) (by omega) hMo hb) (by omega) dL_law_1119 rfl rfl (Nat.le_of_ble_eq_true rfl) (fun v w9 hq h0 => by obtain ⟨rfl, rfl⟩ := hq; exact absurd h0 Nat.one_ne_zero) (by show 1024 + 4 * k + 4 + 0 ≤ 601024; omega) (by show 20000 + 24 * k + 24 + 0 ≤ 7293034; omega) (fun _ _ h => h) (fun v2 w2 hq2 => ?_)
  obtain ⟨rfl, rfl⟩ := hq2
  refine AW.widen (uc' := (1024 + 4 * k + 4)) (us' := (20000 + 24 * k + 24)) (by show 1024 + 4 * k + 4 + 0 ≤ 1024 + 4 * k + 4; omega) (by show 20000 + 24 * k + 24 + 0 ≤ 20000 + 24 * k + 24; omega) Nat.one_ne_zero ?_
  exact AW.icmp_eq 1744 dL_law_1122 (by decide) (fun _ => J1744 _ _ _ hJ2) (fun h => absurd rfl h)
set_option maxRecDepth 100000 in
set_option maxHeartbeats 4000000 in
theorem lb_20 (hK : k_OK G) (hXS : k_XS G) {n k : Nat} {xs : Nat → Int32} (hX : k_scr G n xs) (hn : n ≤ 3072) (hk : k ≤ 600) (hi : 6 * k + 6 ≤ n) (J1744 : ∀ (v5 v6 : Option Value) (w : am_w), lw_J w → AW G nL_law 200 (fun v _ => v = some (.int 1)) (fun _ _ => False) 1744 [some (.ref (1000000 + 3000000)), some (.ref 0), some (.ref 101), some (.ref 144), some (.int (nI (6 * k))), v5, v6] [] w (1024 + 4 * k + 4) (20000 + 24 * k + 24)) {w : am_w} (hJ : lw_J w) : AW G nL_law 200 (fun v _ => v = some (.int 1)) (fun _ _ => False) 1127 [some (.ref (1000000 + 3000000)), some (.ref 0), some (.ref 101), some (.ref 144), some (.int (nI (6 * k))), none, none] [] w (1024 + 4 * k) (20000 + 24 * k) := by
  have hG := hK.1
  refine AW.aload_n dL_law_1127 rfl ?_
  refine AW.callV (b := 0) (As := []) hG.2.2 (vL_157 hG) (by obtain ⟨I, R, L, t, t2, T, rfl, -⟩ := hJ; exact lw_0) (o_help hK hXS hJ ) (by omega) dL_law_1128 rfl rfl (Nat.le_of_ble_eq_true rfl) (fun v w9 hq h0 => by obtain ⟨I2, R2, L2, r, J, rfl, rfl, -⟩ := hq; exact absurd h0 Nat.one_ne_zero) (by show 1024 + 4 * k + 0 ≤ 601024; omega) (by show 20000 + 24 * k + 0 ≤ 7293034; omega) (fun _ _ h => h) (fun v1 w1 hq1 => ?_)
  obtain ⟨I2, R2, L2, r, J, rfl, rfl, hMo, hb, hJ2⟩ := hq1
  refine AW.widen (uc' := (1024 + 4 * k + 4)) (us' := (20000 + 24 * k + 24)) (by show 1024 + 4 * k + 0 ≤ 1024 + 4 * k + 4; omega) (by show 20000 + 24 * k + 0 ≤ 20000 + 24 * k + 24; omega) Nat.one_ne_zero ?_
  refine AW.aload_n dL_law_1131 rfl ?_
  refine AW.callV (b := 101) (As := []) hG.2.2 (vL_160 hG) lw_101 (g_X11_help hK (d := 190) (by omega) hMo hb) (by omega) dL_law_1132 rfl rfl (Nat.le_of_ble_eq_true rfl) (fun v w9 hq h0 => by obtain ⟨rfl, rfl⟩ := hq; exact absurd h0 Nat.one_ne_zero) (by show 1024 + 4 * k + 4 + 0 ≤ 601024; omega) (by show 20000 + 24 * k + 24 + 0 ≤ 7293034; omega) (fun _ _ h => h) (fun v2 w2 hq2 => ?_)
  obtain ⟨rfl, rfl⟩ := hq2
  refine AW.widen (uc' := (1024 + 4 * k + 4)) (us' := (20000 + 24 * k + 24)) (by show 1024 + 4 * k + 4 + 0 ≤ 1024 + 4 * k + 4; omega) (by show 20000 + 24 * k + 24 + 0 ≤ 20000 + 24 * k + 24; omega) Nat.one_ne_zero ?_
  exact AW.icmp_eq 1744 dL_law_1135 (by decide) (fun _ => J1744 _ _ _ hJ2) (fun h => absurd rfl h)
set_option maxRecDepth 100000 in
set_option maxHeartbeats 4000000 in
theorem lb_21 (hK : k_OK G) (hXS : k_XS G) {n k : Nat} {xs : Nat → Int32} (hX : k_scr G n xs) (hn : n ≤ 3072) (hk : k ≤ 600) (hi : 6 * k + 6 ≤ n) (J1744 : ∀ (v5 v6 : Option Value) (w : am_w), lw_J w → AW G nL_law 200 (fun v _ => v = some (.int 1)) (fun _ _ => False) 1744 [some (.ref (1000000 + 3000000)), some (.ref 0), some (.ref 101), some (.ref 144), some (.int (nI (6 * k))), v5, v6] [] w (1024 + 4 * k + 4) (20000 + 24 * k + 24)) {w : am_w} (hJ : lw_J w) : AW G nL_law 200 (fun v _ => v = some (.int 1)) (fun _ _ => False) 1140 [some (.ref (1000000 + 3000000)), some (.ref 0), some (.ref 101), some (.ref 144), some (.int (nI (6 * k))), none, none] [] w (1024 + 4 * k) (20000 + 24 * k) := by
  have hG := hK.1
  refine AW.aload_n dL_law_1140 rfl ?_
  refine AW.callV (b := 0) (As := []) hG.2.2 (vL_161 hG) (by obtain ⟨I, R, L, t, t2, T, rfl, -⟩ := hJ; exact lw_0) (o_doors hK hXS hJ ) (by omega) dL_law_1141 rfl rfl (Nat.le_of_ble_eq_true rfl) (fun v w9 hq h0 => by obtain ⟨I2, R2, L2, r, J, rfl, rfl, -⟩ := hq; exact absurd h0 Nat.one_ne_zero) (by show 1024 + 4 * k + 0 ≤ 601024; omega) (by show 20000 + 24 * k + 0 ≤ 7293034; omega) (fun _ _ h => h) (fun v1 w1 hq1 => ?_)
  obtain ⟨I2, R2, L2, r, J, rfl, rfl, hMo, hb, hJ2⟩ := hq1
  refine AW.widen (uc' := (1024 + 4 * k + 4)) (us' := (20000 + 24 * k + 24)) (by show 1024 + 4 * k + 0 ≤ 1024 + 4 * k + 4; omega) (by show 20000 + 24 * k + 0 ≤ 20000 + 24 * k + 24; omega) Nat.one_ne_zero ?_
  refine AW.aload_n dL_law_1144 rfl ?_
  refine AW.callV (b := 101) (As := []) hG.2.2 (vL_164 hG) lw_101 (g_X11_doors hK (d := 190) (by omega) hMo hb) (by omega) dL_law_1145 rfl rfl (Nat.le_of_ble_eq_true rfl) (fun v w9 hq h0 => by obtain ⟨rfl, rfl⟩ := hq; exact absurd h0 Nat.one_ne_zero) (by show 1024 + 4 * k + 4 + 0 ≤ 601024; omega) (by show 20000 + 24 * k + 24 + 0 ≤ 7293034; omega) (fun _ _ h => h) (fun v2 w2 hq2 => ?_)
  obtain ⟨rfl, rfl⟩ := hq2
  refine AW.widen (uc' := (1024 + 4 * k + 4)) (us' := (20000 + 24 * k + 24)) (by show 1024 + 4 * k + 4 + 0 ≤ 1024 + 4 * k + 4; omega) (by show 20000 + 24 * k + 24 + 0 ≤ 20000 + 24 * k + 24; omega) Nat.one_ne_zero ?_
  exact AW.icmp_eq 1744 dL_law_1148 (by decide) (fun _ => J1744 _ _ _ hJ2) (fun h => absurd rfl h)
set_option maxRecDepth 100000 in
set_option maxHeartbeats 4000000 in
theorem lb_22 (hK : k_OK G) (hXS : k_XS G) {n k : Nat} {xs : Nat → Int32} (hX : k_scr G n xs) (hn : n ≤ 3072) (hk : k ≤ 600) (hi : 6 * k + 6 ≤ n) (J1744 : ∀ (v5 v6 : Option Value) (w : am_w), lw_J w → AW G nL_law 200 (fun v _ => v = some (.int 1)) (fun _ _ => False) 1744 [some (.ref (1000000 + 3000000)), some (.ref 0), some (.ref 101), some (.ref 144), some (.int (nI (6 * k))), v5, v6] [] w (1024 + 4 * k + 4) (20000 + 24 * k + 24)) {w : am_w} (hJ : lw_J w) : AW G nL_law 200 (fun v _ => v = some (.int 1)) (fun _ _ => False) 1153 [some (.ref (1000000 + 3000000)), some (.ref 0), some (.ref 101), some (.ref 144), some (.int (nI (6 * k))), none, none] [] w (1024 + 4 * k) (20000 + 24 * k) := by
  have hG := hK.1
  refine AW.aload_n dL_law_1153 rfl ?_
  refine AW.aload_n dL_law_1154 rfl (AW.iload dL_law_1155 rfl (AW.iconst 1 dL_law_1157 (by decide) (AW.iadd dL_law_1158 (AW.sld hX (lw_ix (j := 1) (by omega) hn) dL_law_1159 ?_))))
  refine AW.aload_n dL_law_1160 rfl (AW.iload dL_law_1161 rfl (AW.iconst 2 dL_law_1163 (by decide) (AW.iadd dL_law_1164 (AW.sld hX (lw_ix (j := 2) (by omega) hn) dL_law_1165 ?_))))
  refine AW.aload_n dL_law_1166 rfl (AW.iload dL_law_1167 rfl (AW.iconst 3 dL_law_1169 (by decide) (AW.iadd dL_law_1170 (AW.sld hX (lw_ix (j := 3) (by omega) hn) dL_law_1171 ?_))))
  refine AW.aload_n dL_law_1172 rfl ?_
  refine AW.callSH (M' := nL_see) (As := [.ref 0, .int (xs (nI (6 * k) + 1).toNatClampNeg), .int (xs (nI (6 * k) + 2).toNatClampNeg), .int (xs (nI (6 * k) + 3).toNatClampNeg), .ref 144]) hG.2.2 (kH_see hG) (o_see hK hXS hJ (xs (nI (6 * k) + 1).toNatClampNeg) (xs (nI (6 * k) + 2).toNatClampNeg) (xs (nI (6 * k) + 3).toNatClampNeg)) (by omega) dL_law_1173 rfl rfl (Nat.le_of_ble_eq_true rfl) (fun v w9 hq h0 => by obtain ⟨x, I2, R2, L2, r, J, rfl, rfl, -⟩ := hq; exact absurd h0 Nat.one_ne_zero) (by show 1024 + 4 * k + 1 ≤ 601024; omega) (by show 20000 + 24 * k + 6 ≤ 7293034; omega) (fun _ _ h => h) (fun v1 w1 hq1 => ?_)
  obtain ⟨x, I2, R2, L2, r, J, rfl, rfl, hMo, hb, hJ2, hx, hL⟩ := hq1
  refine AW.widen (uc' := (1024 + 4 * k + 4)) (us' := (20000 + 24 * k + 24)) (by show 1024 + 4 * k + 1 ≤ 1024 + 4 * k + 4; omega) (by show 20000 + 24 * k + 6 ≤ 20000 + 24 * k + 24; omega) Nat.one_ne_zero ?_
  refine AW.is [some (.ref (1000000 + 3000000)), some (.ref 0), some (.ref 101), some (.ref 144), some (.int (nI (6 * k))), some (.int x), none] dL_law_1176 (by decide) rfl rfl ?_
  refine AW.aload_n dL_law_1178 rfl ?_
  refine AW.aload_n dL_law_1179 rfl (AW.iload dL_law_1180 rfl (AW.iconst 1 dL_law_1182 (by decide) (AW.iadd dL_law_1183 (AW.sld hX (lw_ix (j := 1) (by omega) hn) dL_law_1184 ?_))))
  refine AW.aload_n dL_law_1185 rfl (AW.iload dL_law_1186 rfl (AW.iconst 2 dL_law_1188 (by decide) (AW.iadd dL_law_1189 (AW.sld hX (lw_ix (j := 2) (by omega) hn) dL_law_1190 ?_))))
  refine AW.aload_n dL_law_1191 rfl (AW.iload dL_law_1192 rfl (AW.iconst 3 dL_law_1194 (by decide) (AW.iadd dL_law_1195 (AW.sld hX (lw_ix (j := 3) (by omega) hn) dL_law_1196 ?_))))
  refine AW.callV (b := 101) (As := [.int (xs (nI (6 * k) + 1).toNatClampNeg), .int (xs (nI (6 * k) + 2).toNatClampNeg), .int (xs (nI (6 * k) + 3).toNatClampNeg)]) hG.2.2 (vL_167 hG) lw_101 (g_X11_see hK (d := 190) (by omega) hMo hb) (by omega) dL_law_1197 rfl rfl (Nat.le_of_ble_eq_true rfl) (fun v w9 hq h0 => by obtain ⟨rfl, rfl⟩ := hq; exact absurd h0 Nat.one_ne_zero) (by show 1024 + 4 * k + 4 + 0 ≤ 601024; omega) (by show 20000 + 24 * k + 24 + 0 ≤ 7293034; omega) (fun _ _ h => h) (fun v2 w2 hq2 => ?_)
  obtain ⟨rfl, rfl⟩ := hq2
  refine AW.is [some (.ref (1000000 + 3000000)), some (.ref 0), some (.ref 101), some (.ref 144), some (.int (nI (6 * k))), some (.int x), some (.int r)] dL_law_1200 (by decide) rfl rfl ?_
  refine AW.aload_n dL_law_1202 rfl ?_
  refine AW.callV (b := 101) (As := []) hG.2.2 (vL_89 hG) lw_101 (g_X11_thrown hK (d := 190) (by omega) hMo) (by omega) dL_law_1203 rfl rfl (Nat.le_of_ble_eq_true rfl) (fun v w9 hq h0 => by obtain ⟨rfl, rfl⟩ := hq; exact absurd h0 Nat.one_ne_zero) (by show 1024 + 4 * k + 4 + 0 + 0 ≤ 601024; omega) (by show 20000 + 24 * k + 24 + 0 + 0 ≤ 7293034; omega) (fun _ _ h => h) (fun v3 w3 hq3 => ?_)
  obtain ⟨rfl, rfl⟩ := hq3
  refine AW.widen (uc' := (1024 + 4 * k + 4)) (us' := (20000 + 24 * k + 24)) (by show 1024 + 4 * k + 4 + 0 + 0 ≤ 1024 + 4 * k + 4; omega) (by show 20000 + 24 * k + 24 + 0 + 0 ≤ 20000 + 24 * k + 24; omega) Nat.one_ne_zero ?_
  refine AW.iload dL_law_1206 rfl ?_
  refine AW.icmp_eq 1213 dL_law_1208 (by decide) (fun h => ?_) (fun h => absurd hx h)
  refine AW.iload dL_law_1213 rfl ?_
  refine AW.if_ne 1230 dL_law_1215 (by decide) (fun _ => (AW.goto 1744 dL_law_1230 (by decide) (J1744 _ _ _ hJ2))) (fun hx0 => ?_)
  refine AW.aload_n dL_law_1218 rfl (AW.iconst 0 dL_law_1219 (by decide) (AW.lald lw_144 (by unfold vp_in; decide) dL_law_1220 ?_))
  refine AW.iload dL_law_1221 rfl ?_
  refine AW.i2l dL_law_1223 (AW.lcmp dL_law_1224 (AW.if_eq 1230 dL_law_1225 (by decide) (fun _ => (AW.goto 1744 dL_law_1230 (by decide) (J1744 _ _ _ hJ2))) (fun h9 => absurd ?_ h9)))
  have e9 : L2 144 (Int32.toNatClampNeg 0) = r.toInt64 := hL hx0
  rw [e9]
  exact lw_cmp _
set_option maxRecDepth 100000 in
set_option maxHeartbeats 4000000 in
theorem lb_23 (hK : k_OK G) (hXS : k_XS G) {n k : Nat} {xs : Nat → Int32} (hX : k_scr G n xs) (hn : n ≤ 3072) (hk : k ≤ 600) (hi : 6 * k + 6 ≤ n) (J1744 : ∀ (v5 v6 : Option Value) (w : am_w), lw_J w → AW G nL_law 200 (fun v _ => v = some (.int 1)) (fun _ _ => False) 1744 [some (.ref (1000000 + 3000000)), some (.ref 0), some (.ref 101), some (.ref 144), some (.int (nI (6 * k))), v5, v6] [] w (1024 + 4 * k + 4) (20000 + 24 * k + 24)) {w : am_w} (hJ : lw_J w) : AW G nL_law 200 (fun v _ => v = some (.int 1)) (fun _ _ => False) 1233 [some (.ref (1000000 + 3000000)), some (.ref 0), some (.ref 101), some (.ref 144), some (.int (nI (6 * k))), none, none] [] w (1024 + 4 * k) (20000 + 24 * k) := by
  have hG := hK.1
  refine AW.aload_n dL_law_1233 rfl ?_
  refine AW.aload_n dL_law_1234 rfl (AW.iload dL_law_1235 rfl (AW.iconst 1 dL_law_1237 (by decide) (AW.iadd dL_law_1238 (AW.sld hX (lw_ix (j := 1) (by omega) hn) dL_law_1239 ?_))))
  refine AW.aload_n dL_law_1240 rfl ?_
  refine AW.callSH (M' := nL_who) (As := [.ref 0, .int (xs (nI (6 * k) + 1).toNatClampNeg), .ref 144]) hG.2.2 (kH_who hG) (o_who hK hXS hJ (xs (nI (6 * k) + 1).toNatClampNeg)) (by omega) dL_law_1241 rfl rfl (Nat.le_of_ble_eq_true rfl) (fun v w9 hq h0 => by obtain ⟨x, I2, R2, L2, r, J, rfl, rfl, -⟩ := hq; exact absurd h0 Nat.one_ne_zero) (by show 1024 + 4 * k + 1 ≤ 601024; omega) (by show 20000 + 24 * k + 6 ≤ 7293034; omega) (fun _ _ h => h) (fun v1 w1 hq1 => ?_)
  obtain ⟨x, I2, R2, L2, r, J, rfl, rfl, hMo, hb, hJ2, hx, hL⟩ := hq1
  refine AW.widen (uc' := (1024 + 4 * k + 4)) (us' := (20000 + 24 * k + 24)) (by show 1024 + 4 * k + 1 ≤ 1024 + 4 * k + 4; omega) (by show 20000 + 24 * k + 6 ≤ 20000 + 24 * k + 24; omega) Nat.one_ne_zero ?_
  refine AW.is [some (.ref (1000000 + 3000000)), some (.ref 0), some (.ref 101), some (.ref 144), some (.int (nI (6 * k))), some (.int x), none] dL_law_1244 (by decide) rfl rfl ?_
  refine AW.aload_n dL_law_1246 rfl ?_
  refine AW.aload_n dL_law_1247 rfl (AW.iload dL_law_1248 rfl (AW.iconst 1 dL_law_1250 (by decide) (AW.iadd dL_law_1251 (AW.sld hX (lw_ix (j := 1) (by omega) hn) dL_law_1252 ?_))))
  refine AW.callV (b := 101) (As := [.int (xs (nI (6 * k) + 1).toNatClampNeg)]) hG.2.2 (vL_170 hG) lw_101 (g_X11_who hK (d := 190) (by omega) hMo hb) (by omega) dL_law_1253 rfl rfl (Nat.le_of_ble_eq_true rfl) (fun v w9 hq h0 => by obtain ⟨rfl, rfl⟩ := hq; exact absurd h0 Nat.one_ne_zero) (by show 1024 + 4 * k + 4 + 0 ≤ 601024; omega) (by show 20000 + 24 * k + 24 + 0 ≤ 7293034; omega) (fun _ _ h => h) (fun v2 w2 hq2 => ?_)
  obtain ⟨rfl, rfl⟩ := hq2
  refine AW.is [some (.ref (1000000 + 3000000)), some (.ref 0), some (.ref 101), some (.ref 144), some (.int (nI (6 * k))), some (.int x), some (.int r)] dL_law_1256 (by decide) rfl rfl ?_
  refine AW.aload_n dL_law_1258 rfl ?_
  refine AW.callV (b := 101) (As := []) hG.2.2 (vL_89 hG) lw_101 (g_X11_thrown hK (d := 190) (by omega) hMo) (by omega) dL_law_1259 rfl rfl (Nat.le_of_ble_eq_true rfl) (fun v w9 hq h0 => by obtain ⟨rfl, rfl⟩ := hq; exact absurd h0 Nat.one_ne_zero) (by show 1024 + 4 * k + 4 + 0 + 0 ≤ 601024; omega) (by show 20000 + 24 * k + 24 + 0 + 0 ≤ 7293034; omega) (fun _ _ h => h) (fun v3 w3 hq3 => ?_)
  obtain ⟨rfl, rfl⟩ := hq3
  refine AW.widen (uc' := (1024 + 4 * k + 4)) (us' := (20000 + 24 * k + 24)) (by show 1024 + 4 * k + 4 + 0 + 0 ≤ 1024 + 4 * k + 4; omega) (by show 20000 + 24 * k + 24 + 0 + 0 ≤ 20000 + 24 * k + 24; omega) Nat.one_ne_zero ?_
  refine AW.iload dL_law_1262 rfl ?_
  refine AW.icmp_eq 1269 dL_law_1264 (by decide) (fun h => ?_) (fun h => absurd hx h)
  refine AW.iload dL_law_1269 rfl ?_
  refine AW.if_ne 1286 dL_law_1271 (by decide) (fun _ => (AW.goto 1744 dL_law_1286 (by decide) (J1744 _ _ _ hJ2))) (fun hx0 => ?_)
  refine AW.aload_n dL_law_1274 rfl (AW.iconst 0 dL_law_1275 (by decide) (AW.lald lw_144 (by unfold vp_in; decide) dL_law_1276 ?_))
  refine AW.iload dL_law_1277 rfl ?_
  refine AW.i2l dL_law_1279 (AW.lcmp dL_law_1280 (AW.if_eq 1286 dL_law_1281 (by decide) (fun _ => (AW.goto 1744 dL_law_1286 (by decide) (J1744 _ _ _ hJ2))) (fun h9 => absurd ?_ h9)))
  have e9 : L2 144 (Int32.toNatClampNeg 0) = r.toInt64 := hL hx0
  rw [e9]
  exact lw_cmp _
set_option maxRecDepth 100000 in
set_option maxHeartbeats 4000000 in
theorem lb_24 (hK : k_OK G) (hXS : k_XS G) {n k : Nat} {xs : Nat → Int32} (hX : k_scr G n xs) (hn : n ≤ 3072) (hk : k ≤ 600) (hi : 6 * k + 6 ≤ n) (J1744 : ∀ (v5 v6 : Option Value) (w : am_w), lw_J w → AW G nL_law 200 (fun v _ => v = some (.int 1)) (fun _ _ => False) 1744 [some (.ref (1000000 + 3000000)), some (.ref 0), some (.ref 101), some (.ref 144), some (.int (nI (6 * k))), v5, v6] [] w (1024 + 4 * k + 4) (20000 + 24 * k + 24)) {w : am_w} (hJ : lw_J w) : AW G nL_law 200 (fun v _ => v = some (.int 1)) (fun _ _ => False) 1289 [some (.ref (1000000 + 3000000)), some (.ref 0), some (.ref 101), some (.ref 144), some (.int (nI (6 * k))), none, none] [] w (1024 + 4 * k) (20000 + 24 * k) := by
  have hG := hK.1
  refine AW.aload_n dL_law_1289 rfl ?_
  refine AW.aload_n dL_law_1290 rfl (AW.iload dL_law_1291 rfl (AW.iconst 1 dL_law_1293 (by decide) (AW.iadd dL_law_1294 (AW.sld hX (lw_ix (j := 1) (by omega) hn) dL_law_1295 ?_))))
  refine AW.aload_n dL_law_1296 rfl (AW.iload dL_law_1297 rfl (AW.iconst 2 dL_law_1299 (by decide) (AW.iadd dL_law_1300 (AW.sld hX (lw_ix (j := 2) (by omega) hn) dL_law_1301 ?_))))
  refine AW.aload_n dL_law_1302 rfl ?_
  refine AW.callSH (M' := nL_balk) (As := [.ref 0, .int (xs (nI (6 * k) + 1).toNatClampNeg), .int (xs (nI (6 * k) + 2).toNatClampNeg), .ref 144]) hG.2.2 (kH_balk hG) (o_balk hK hXS hJ (xs (nI (6 * k) + 1).toNatClampNeg) (xs (nI (6 * k) + 2).toNatClampNeg)) (by omega) dL_law_1303 rfl rfl (Nat.le_of_ble_eq_true rfl) (fun v w9 hq h0 => by obtain ⟨x, I2, R2, L2, r, J, rfl, rfl, -⟩ := hq; exact absurd h0 Nat.one_ne_zero) (by show 1024 + 4 * k + 2 ≤ 601024; omega) (by show 20000 + 24 * k + 12 ≤ 7293034; omega) (fun _ _ h => h) (fun v1 w1 hq1 => ?_)
  obtain ⟨x, I2, R2, L2, r, J, rfl, rfl, hMo, hb, hJ2, hx, hL⟩ := hq1
  refine AW.widen (uc' := (1024 + 4 * k + 4)) (us' := (20000 + 24 * k + 24)) (by show 1024 + 4 * k + 2 ≤ 1024 + 4 * k + 4; omega) (by show 20000 + 24 * k + 12 ≤ 20000 + 24 * k + 24; omega) Nat.one_ne_zero ?_
  refine AW.is [some (.ref (1000000 + 3000000)), some (.ref 0), some (.ref 101), some (.ref 144), some (.int (nI (6 * k))), some (.int x), none] dL_law_1306 (by decide) rfl rfl ?_
  refine AW.aload_n dL_law_1308 rfl ?_
  refine AW.aload_n dL_law_1309 rfl (AW.iload dL_law_1310 rfl (AW.iconst 1 dL_law_1312 (by decide) (AW.iadd dL_law_1313 (AW.sld hX (lw_ix (j := 1) (by omega) hn) dL_law_1314 ?_))))
  refine AW.aload_n dL_law_1315 rfl (AW.iload dL_law_1316 rfl (AW.iconst 2 dL_law_1318 (by decide) (AW.iadd dL_law_1319 (AW.sld hX (lw_ix (j := 2) (by omega) hn) dL_law_1320 ?_))))
  refine AW.callV (b := 101) (As := [.int (xs (nI (6 * k) + 1).toNatClampNeg), .int (xs (nI (6 * k) + 2).toNatClampNeg)]) hG.2.2 (vL_173 hG) lw_101 (g_X11_balk hK (d := 190) (by omega) hMo hb) (by omega) dL_law_1321 rfl rfl (Nat.le_of_ble_eq_true rfl) (fun v w9 hq h0 => by obtain ⟨rfl, rfl⟩ := hq; exact absurd h0 Nat.one_ne_zero) (by show 1024 + 4 * k + 4 + 0 ≤ 601024; omega) (by show 20000 + 24 * k + 24 + 0 ≤ 7293034; omega) (fun _ _ h => h) (fun v2 w2 hq2 => ?_)
  obtain ⟨rfl, rfl⟩ := hq2
  refine AW.is [some (.ref (1000000 + 3000000)), some (.ref 0), some (.ref 101), some (.ref 144), some (.int (nI (6 * k))), some (.int x), some (.int r)] dL_law_1324 (by decide) rfl rfl ?_
  refine AW.aload_n dL_law_1326 rfl ?_
  refine AW.callV (b := 101) (As := []) hG.2.2 (vL_89 hG) lw_101 (g_X11_thrown hK (d := 190) (by omega) hMo) (by omega) dL_law_1327 rfl rfl (Nat.le_of_ble_eq_true rfl) (fun v w9 hq h0 => by obtain ⟨rfl, rfl⟩ := hq; exact absurd h0 Nat.one_ne_zero) (by show 1024 + 4 * k + 4 + 0 + 0 ≤ 601024; omega) (by show 20000 + 24 * k + 24 + 0 + 0 ≤ 7293034; omega) (fun _ _ h => h) (fun v3 w3 hq3 => ?_)
  obtain ⟨rfl, rfl⟩ := hq3
  refine AW.widen (uc' := (1024 + 4 * k + 4)) (us' := (20000 + 24 * k + 24)) (by show 1024 + 4 * k + 4 + 0 + 0 ≤ 1024 + 4 * k + 4; omega) (by show 20000 + 24 * k + 24 + 0 + 0 ≤ 20000 + 24 * k + 24; omega) Nat.one_ne_zero ?_
  refine AW.iload dL_law_1330 rfl ?_
  refine AW.icmp_eq 1337 dL_law_1332 (by decide) (fun h => ?_) (fun h => absurd hx h)
  refine AW.iload dL_law_1337 rfl ?_
  refine AW.if_ne 1354 dL_law_1339 (by decide) (fun _ => (AW.goto 1744 dL_law_1354 (by decide) (J1744 _ _ _ hJ2))) (fun hx0 => ?_)
  refine AW.aload_n dL_law_1342 rfl (AW.iconst 0 dL_law_1343 (by decide) (AW.lald lw_144 (by unfold vp_in; decide) dL_law_1344 ?_))
  refine AW.iload dL_law_1345 rfl ?_
  refine AW.i2l dL_law_1347 (AW.lcmp dL_law_1348 (AW.if_eq 1354 dL_law_1349 (by decide) (fun _ => (AW.goto 1744 dL_law_1354 (by decide) (J1744 _ _ _ hJ2))) (fun h9 => absurd ?_ h9)))
  have e9 : L2 144 (Int32.toNatClampNeg 0) = r.toInt64 := hL hx0
  rw [e9]
  exact lw_cmp _
set_option maxRecDepth 100000 in
set_option maxHeartbeats 4000000 in
theorem lb_25 (hK : k_OK G) (hXS : k_XS G) {n k : Nat} {xs : Nat → Int32} (hX : k_scr G n xs) (hn : n ≤ 3072) (hk : k ≤ 600) (hi : 6 * k + 6 ≤ n) (J1744 : ∀ (v5 v6 : Option Value) (w : am_w), lw_J w → AW G nL_law 200 (fun v _ => v = some (.int 1)) (fun _ _ => False) 1744 [some (.ref (1000000 + 3000000)), some (.ref 0), some (.ref 101), some (.ref 144), some (.int (nI (6 * k))), v5, v6] [] w (1024 + 4 * k + 4) (20000 + 24 * k + 24)) {w : am_w} (hJ : lw_J w) : AW G nL_law 200 (fun v _ => v = some (.int 1)) (fun _ _ => False) 1357 [some (.ref (1000000 + 3000000)), some (.ref 0), some (.ref 101), some (.ref 144), some (.int (nI (6 * k))), none, none] [] w (1024 + 4 * k) (20000 + 24 * k) := by
  have hG := hK.1
  refine AW.aload_n dL_law_1357 rfl ?_
  refine AW.aload_n dL_law_1358 rfl (AW.iload dL_law_1359 rfl (AW.iconst 1 dL_law_1361 (by decide) (AW.iadd dL_law_1362 (AW.sld hX (lw_ix (j := 1) (by omega) hn) dL_law_1363 ?_))))
  refine AW.aload_n dL_law_1364 rfl ?_
  refine AW.callSH (M' := nL_whom) (As := [.ref 0, .int (xs (nI (6 * k) + 1).toNatClampNeg), .ref 144]) hG.2.2 (kH_whom hG) (o_whom hK hXS hJ (xs (nI (6 * k) + 1).toNatClampNeg)) (by omega) dL_law_1365 rfl rfl (Nat.le_of_ble_eq_true rfl) (fun v w9 hq h0 => by obtain ⟨x, I2, R2, L2, r, J, rfl, rfl, -⟩ := hq; exact absurd h0 Nat.one_ne_zero) (by show 1024 + 4 * k + 1 ≤ 601024; omega) (by show 20000 + 24 * k + 6 ≤ 7293034; omega) (fun _ _ h => h) (fun v1 w1 hq1 => ?_)
  obtain ⟨x, I2, R2, L2, r, J, rfl, rfl, hMo, hb, hJ2, hx, hL⟩ := hq1
  refine AW.widen (uc' := (1024 + 4 * k + 4)) (us' := (20000 + 24 * k + 24)) (by show 1024 + 4 * k + 1 ≤ 1024 + 4 * k + 4; omega) (by show 20000 + 24 * k + 6 ≤ 20000 + 24 * k + 24; omega) Nat.one_ne_zero ?_
  refine AW.is [some (.ref (1000000 + 3000000)), some (.ref 0), some (.ref 101), some (.ref 144), some (.int (nI (6 * k))), some (.int x), none] dL_law_1368 (by decide) rfl rfl ?_
  refine AW.aload_n dL_law_1370 rfl ?_
  refine AW.aload_n dL_law_1371 rfl (AW.iload dL_law_1372 rfl (AW.iconst 1 dL_law_1374 (by decide) (AW.iadd dL_law_1375 (AW.sld hX (lw_ix (j := 1) (by omega) hn) dL_law_1376 ?_))))
  refine AW.callV (b := 101) (As := [.int (xs (nI (6 * k) + 1).toNatClampNeg)]) hG.2.2 (vL_176 hG) lw_101 (g_X11_whom hK (d := 190) (by omega) hMo hb) (by omega) dL_law_1377 rfl rfl (Nat.le_of_ble_eq_true rfl) (fun v w9 hq h0 => by obtain ⟨rfl, rfl⟩ := hq; exact absurd h0 Nat.one_ne_zero) (by show 1024 + 4 * k + 4 + 0 ≤ 601024; omega) (by show 20000 + 24 * k + 24 + 0 ≤ 7293034; omega) (fun _ _ h => h) (fun v2 w2 hq2 => ?_)
  obtain ⟨rfl, rfl⟩ := hq2
  refine AW.is [some (.ref (1000000 + 3000000)), some (.ref 0), some (.ref 101), some (.ref 144), some (.int (nI (6 * k))), some (.int x), some (.int r)] dL_law_1380 (by decide) rfl rfl ?_
  refine AW.aload_n dL_law_1382 rfl ?_
  refine AW.callV (b := 101) (As := []) hG.2.2 (vL_89 hG) lw_101 (g_X11_thrown hK (d := 190) (by omega) hMo) (by omega) dL_law_1383 rfl rfl (Nat.le_of_ble_eq_true rfl) (fun v w9 hq h0 => by obtain ⟨rfl, rfl⟩ := hq; exact absurd h0 Nat.one_ne_zero) (by show 1024 + 4 * k + 4 + 0 + 0 ≤ 601024; omega) (by show 20000 + 24 * k + 24 + 0 + 0 ≤ 7293034; omega) (fun _ _ h => h) (fun v3 w3 hq3 => ?_)
  obtain ⟨rfl, rfl⟩ := hq3
  refine AW.widen (uc' := (1024 + 4 * k + 4)) (us' := (20000 + 24 * k + 24)) (by show 1024 + 4 * k + 4 + 0 + 0 ≤ 1024 + 4 * k + 4; omega) (by show 20000 + 24 * k + 24 + 0 + 0 ≤ 20000 + 24 * k + 24; omega) Nat.one_ne_zero ?_
  refine AW.iload dL_law_1386 rfl ?_
  refine AW.icmp_eq 1393 dL_law_1388 (by decide) (fun h => ?_) (fun h => absurd hx h)
  refine AW.iload dL_law_1393 rfl ?_
  refine AW.if_ne 1410 dL_law_1395 (by decide) (fun _ => (AW.goto 1744 dL_law_1410 (by decide) (J1744 _ _ _ hJ2))) (fun hx0 => ?_)
  refine AW.aload_n dL_law_1398 rfl (AW.iconst 0 dL_law_1399 (by decide) (AW.lald lw_144 (by unfold vp_in; decide) dL_law_1400 ?_))
  refine AW.iload dL_law_1401 rfl ?_
  refine AW.i2l dL_law_1403 (AW.lcmp dL_law_1404 (AW.if_eq 1410 dL_law_1405 (by decide) (fun _ => (AW.goto 1744 dL_law_1410 (by decide) (J1744 _ _ _ hJ2))) (fun h9 => absurd ?_ h9)))
  have e9 : L2 144 (Int32.toNatClampNeg 0) = r.toInt64 := hL hx0
  rw [e9]
  exact lw_cmp _
set_option maxRecDepth 100000 in
set_option maxHeartbeats 4000000 in
theorem lb_26 (hK : k_OK G) (hXS : k_XS G) {n k : Nat} {xs : Nat → Int32} (hX : k_scr G n xs) (hn : n ≤ 3072) (hk : k ≤ 600) (hi : 6 * k + 6 ≤ n) (J1744 : ∀ (v5 v6 : Option Value) (w : am_w), lw_J w → AW G nL_law 200 (fun v _ => v = some (.int 1)) (fun _ _ => False) 1744 [some (.ref (1000000 + 3000000)), some (.ref 0), some (.ref 101), some (.ref 144), some (.int (nI (6 * k))), v5, v6] [] w (1024 + 4 * k + 4) (20000 + 24 * k + 24)) {w : am_w} (hJ : lw_J w) : AW G nL_law 200 (fun v _ => v = some (.int 1)) (fun _ _ => False) 1413 [some (.ref (1000000 + 3000000)), some (.ref 0), some (.ref 101), some (.ref 144), some (.int (nI (6 * k))), none, none] [] w (1024 + 4 * k) (20000 + 24 * k) := by
  have hG := hK.1
  refine AW.aload_n dL_law_1413 rfl ?_
  refine AW.aload_n dL_law_1414 rfl (AW.iload dL_law_1415 rfl (AW.iconst 1 dL_law_1417 (by decide) (AW.iadd dL_law_1418 (AW.sld hX (lw_ix (j := 1) (by omega) hn) dL_law_1419 ?_))))
  refine AW.aload_n dL_law_1420 rfl (AW.iload dL_law_1421 rfl (AW.iconst 2 dL_law_1423 (by decide) (AW.iadd dL_law_1424 (AW.sld hX (lw_ix (j := 2) (by omega) hn) dL_law_1425 ?_))))
  refine AW.aload_n dL_law_1426 rfl ?_
  refine AW.callSH (M' := nL_why) (As := [.ref 0, .int (xs (nI (6 * k) + 1).toNatClampNeg), .int (xs (nI (6 * k) + 2).toNatClampNeg), .ref 144]) hG.2.2 (kH_why hG) (o_why hK hXS hJ (xs (nI (6 * k) + 1).toNatClampNeg) (xs (nI (6 * k) + 2).toNatClampNeg)) (by omega) dL_law_1427 rfl rfl (Nat.le_of_ble_eq_true rfl) (fun v w9 hq h0 => by obtain ⟨x, I2, R2, L2, r, J, rfl, rfl, -⟩ := hq; exact absurd h0 Nat.one_ne_zero) (by show 1024 + 4 * k + 2 ≤ 601024; omega) (by show 20000 + 24 * k + 12 ≤ 7293034; omega) (fun _ _ h => h) (fun v1 w1 hq1 => ?_)
  obtain ⟨x, I2, R2, L2, r, J, rfl, rfl, hMo, hb, hJ2, hx, hL⟩ := hq1
  refine AW.widen (uc' := (1024 + 4 * k + 4)) (us' := (20000 + 24 * k + 24)) (by show 1024 + 4 * k + 2 ≤ 1024 + 4 * k + 4; omega) (by show 20000 + 24 * k + 12 ≤ 20000 + 24 * k + 24; omega) Nat.one_ne_zero ?_
  refine AW.is [some (.ref (1000000 + 3000000)), some (.ref 0), some (.ref 101), some (.ref 144), some (.int (nI (6 * k))), some (.int x), none] dL_law_1430 (by decide) rfl rfl ?_
  refine AW.aload_n dL_law_1432 rfl ?_
  refine AW.aload_n dL_law_1433 rfl (AW.iload dL_law_1434 rfl (AW.iconst 1 dL_law_1436 (by decide) (AW.iadd dL_law_1437 (AW.sld hX (lw_ix (j := 1) (by omega) hn) dL_law_1438 ?_))))
  refine AW.aload_n dL_law_1439 rfl (AW.iload dL_law_1440 rfl (AW.iconst 2 dL_law_1442 (by decide) (AW.iadd dL_law_1443 (AW.sld hX (lw_ix (j := 2) (by omega) hn) dL_law_1444 ?_))))
  refine AW.callV (b := 101) (As := [.int (xs (nI (6 * k) + 1).toNatClampNeg), .int (xs (nI (6 * k) + 2).toNatClampNeg)]) hG.2.2 (vL_179 hG) lw_101 (g_X11_why hK (d := 190) (by omega) hMo hb) (by omega) dL_law_1445 rfl rfl (Nat.le_of_ble_eq_true rfl) (fun v w9 hq h0 => by obtain ⟨rfl, rfl⟩ := hq; exact absurd h0 Nat.one_ne_zero) (by show 1024 + 4 * k + 4 + 0 ≤ 601024; omega) (by show 20000 + 24 * k + 24 + 0 ≤ 7293034; omega) (fun _ _ h => h) (fun v2 w2 hq2 => ?_)
  obtain ⟨rfl, rfl⟩ := hq2
  refine AW.is [some (.ref (1000000 + 3000000)), some (.ref 0), some (.ref 101), some (.ref 144), some (.int (nI (6 * k))), some (.int x), some (.int r)] dL_law_1448 (by decide) rfl rfl ?_
  refine AW.aload_n dL_law_1450 rfl ?_
  refine AW.callV (b := 101) (As := []) hG.2.2 (vL_89 hG) lw_101 (g_X11_thrown hK (d := 190) (by omega) hMo) (by omega) dL_law_1451 rfl rfl (Nat.le_of_ble_eq_true rfl) (fun v w9 hq h0 => by obtain ⟨rfl, rfl⟩ := hq; exact absurd h0 Nat.one_ne_zero) (by show 1024 + 4 * k + 4 + 0 + 0 ≤ 601024; omega) (by show 20000 + 24 * k + 24 + 0 + 0 ≤ 7293034; omega) (fun _ _ h => h) (fun v3 w3 hq3 => ?_)
  obtain ⟨rfl, rfl⟩ := hq3
  refine AW.widen (uc' := (1024 + 4 * k + 4)) (us' := (20000 + 24 * k + 24)) (by show 1024 + 4 * k + 4 + 0 + 0 ≤ 1024 + 4 * k + 4; omega) (by show 20000 + 24 * k + 24 + 0 + 0 ≤ 20000 + 24 * k + 24; omega) Nat.one_ne_zero ?_
  refine AW.iload dL_law_1454 rfl ?_
  refine AW.icmp_eq 1461 dL_law_1456 (by decide) (fun h => ?_) (fun h => absurd hx h)
  refine AW.iload dL_law_1461 rfl ?_
  refine AW.if_ne 1478 dL_law_1463 (by decide) (fun _ => (AW.goto 1744 dL_law_1478 (by decide) (J1744 _ _ _ hJ2))) (fun hx0 => ?_)
  refine AW.aload_n dL_law_1466 rfl (AW.iconst 0 dL_law_1467 (by decide) (AW.lald lw_144 (by unfold vp_in; decide) dL_law_1468 ?_))
  refine AW.iload dL_law_1469 rfl ?_
  refine AW.i2l dL_law_1471 (AW.lcmp dL_law_1472 (AW.if_eq 1478 dL_law_1473 (by decide) (fun _ => (AW.goto 1744 dL_law_1478 (by decide) (J1744 _ _ _ hJ2))) (fun h9 => absurd ?_ h9)))
  have e9 : L2 144 (Int32.toNatClampNeg 0) = r.toInt64 := hL hx0
  rw [e9]
  exact lw_cmp _
set_option maxRecDepth 100000 in
set_option maxHeartbeats 4000000 in
theorem lb_27 (hK : k_OK G) (hXS : k_XS G) {n k : Nat} {xs : Nat → Int32} (hX : k_scr G n xs) (hn : n ≤ 3072) (hk : k ≤ 600) (hi : 6 * k + 6 ≤ n) (J1744 : ∀ (v5 v6 : Option Value) (w : am_w), lw_J w → AW G nL_law 200 (fun v _ => v = some (.int 1)) (fun _ _ => False) 1744 [some (.ref (1000000 + 3000000)), some (.ref 0), some (.ref 101), some (.ref 144), some (.int (nI (6 * k))), v5, v6] [] w (1024 + 4 * k + 4) (20000 + 24 * k + 24)) {w : am_w} (hJ : lw_J w) : AW G nL_law 200 (fun v _ => v = some (.int 1)) (fun _ _ => False) 1481 [some (.ref (1000000 + 3000000)), some (.ref 0), some (.ref 101), some (.ref 144), some (.int (nI (6 * k))), none, none] [] w (1024 + 4 * k) (20000 + 24 * k) := by
  have hG := hK.1
  refine AW.aload_n dL_law_1481 rfl ?_
  refine AW.aload_n dL_law_1482 rfl (AW.iload dL_law_1483 rfl (AW.iconst 1 dL_law_1485 (by decide) (AW.iadd dL_law_1486 (AW.sld hX (lw_ix (j := 1) (by omega) hn) dL_law_1487 ?_))))
  refine AW.aload_n dL_law_1488 rfl (AW.iload dL_law_1489 rfl (AW.iconst 2 dL_law_1491 (by decide) (AW.iadd dL_law_1492 (AW.sld hX (lw_ix (j := 2) (by omega) hn) dL_law_1493 ?_))))
  refine AW.aload_n dL_law_1494 rfl ?_
  refine AW.callSH (M' := nL_fairest) (As := [.ref 0, .int (xs (nI (6 * k) + 1).toNatClampNeg), .int (xs (nI (6 * k) + 2).toNatClampNeg), .ref 144]) hG.2.2 (kH_fairest hG) (o_fairest hK hXS hJ (xs (nI (6 * k) + 1).toNatClampNeg) (xs (nI (6 * k) + 2).toNatClampNeg)) (by omega) dL_law_1495 rfl rfl (Nat.le_of_ble_eq_true rfl) (fun v w9 hq h0 => by obtain ⟨x, I2, R2, L2, r, J, rfl, rfl, -⟩ := hq; exact absurd h0 Nat.one_ne_zero) (by show 1024 + 4 * k + 2 ≤ 601024; omega) (by show 20000 + 24 * k + 12 ≤ 7293034; omega) (fun _ _ h => h) (fun v1 w1 hq1 => ?_)
  obtain ⟨x, I2, R2, L2, r, J, rfl, rfl, hMo, hb, hJ2, hx, hL⟩ := hq1
  refine AW.widen (uc' := (1024 + 4 * k + 4)) (us' := (20000 + 24 * k + 24)) (by show 1024 + 4 * k + 2 ≤ 1024 + 4 * k + 4; omega) (by show 20000 + 24 * k + 12 ≤ 20000 + 24 * k + 24; omega) Nat.one_ne_zero ?_
  refine AW.is [some (.ref (1000000 + 3000000)), some (.ref 0), some (.ref 101), some (.ref 144), some (.int (nI (6 * k))), some (.int x), none] dL_law_1498 (by decide) rfl rfl ?_
  refine AW.aload_n dL_law_1500 rfl ?_
  refine AW.aload_n dL_law_1501 rfl (AW.iload dL_law_1502 rfl (AW.iconst 1 dL_law_1504 (by decide) (AW.iadd dL_law_1505 (AW.sld hX (lw_ix (j := 1) (by omega) hn) dL_law_1506 ?_))))
  refine AW.aload_n dL_law_1507 rfl (AW.iload dL_law_1508 rfl (AW.iconst 2 dL_law_1510 (by decide) (AW.iadd dL_law_1511 (AW.sld hX (lw_ix (j := 2) (by omega) hn) dL_law_1512 ?_))))
  refine AW.callV (b := 101) (As := [.int (xs (nI (6 * k) + 1).toNatClampNeg), .int (xs (nI (6 * k) + 2).toNatClampNeg)]) hG.2.2 (vL_182 hG) lw_101 (g_X11_fairest hK (d := 190) (by omega) hMo hb) (by omega) dL_law_1513 rfl rfl (Nat.le_of_ble_eq_true rfl) (fun v w9 hq h0 => by obtain ⟨rfl, rfl⟩ := hq; exact absurd h0 Nat.one_ne_zero) (by show 1024 + 4 * k + 4 + 0 ≤ 601024; omega) (by show 20000 + 24 * k + 24 + 0 ≤ 7293034; omega) (fun _ _ h => h) (fun v2 w2 hq2 => ?_)
  obtain ⟨rfl, rfl⟩ := hq2
  refine AW.is [some (.ref (1000000 + 3000000)), some (.ref 0), some (.ref 101), some (.ref 144), some (.int (nI (6 * k))), some (.int x), some (.int r)] dL_law_1516 (by decide) rfl rfl ?_
  refine AW.aload_n dL_law_1518 rfl ?_
  refine AW.callV (b := 101) (As := []) hG.2.2 (vL_89 hG) lw_101 (g_X11_thrown hK (d := 190) (by omega) hMo) (by omega) dL_law_1519 rfl rfl (Nat.le_of_ble_eq_true rfl) (fun v w9 hq h0 => by obtain ⟨rfl, rfl⟩ := hq; exact absurd h0 Nat.one_ne_zero) (by show 1024 + 4 * k + 4 + 0 + 0 ≤ 601024; omega) (by show 20000 + 24 * k + 24 + 0 + 0 ≤ 7293034; omega) (fun _ _ h => h) (fun v3 w3 hq3 => ?_)
  obtain ⟨rfl, rfl⟩ := hq3
  refine AW.widen (uc' := (1024 + 4 * k + 4)) (us' := (20000 + 24 * k + 24)) (by show 1024 + 4 * k + 4 + 0 + 0 ≤ 1024 + 4 * k + 4; omega) (by show 20000 + 24 * k + 24 + 0 + 0 ≤ 20000 + 24 * k + 24; omega) Nat.one_ne_zero ?_
  refine AW.iload dL_law_1522 rfl ?_
  refine AW.icmp_eq 1529 dL_law_1524 (by decide) (fun h => ?_) (fun h => absurd hx h)
  refine AW.iload dL_law_1529 rfl ?_
  refine AW.if_ne 1546 dL_law_1531 (by decide) (fun _ => (AW.goto 1744 dL_law_1546 (by decide) (J1744 _ _ _ hJ2))) (fun hx0 => ?_)
  refine AW.aload_n dL_law_1534 rfl (AW.iconst 0 dL_law_1535 (by decide) (AW.lald lw_144 (by unfold vp_in; decide) dL_law_1536 ?_))
  refine AW.iload dL_law_1537 rfl ?_
  refine AW.i2l dL_law_1539 (AW.lcmp dL_law_1540 (AW.if_eq 1546 dL_law_1541 (by decide) (fun _ => (AW.goto 1744 dL_law_1546 (by decide) (J1744 _ _ _ hJ2))) (fun h9 => absurd ?_ h9)))
  have e9 : L2 144 (Int32.toNatClampNeg 0) = r.toInt64 := hL hx0
  rw [e9]
  exact lw_cmp _
set_option maxRecDepth 100000 in
set_option maxHeartbeats 4000000 in
theorem lb_28 (hK : k_OK G) (hXS : k_XS G) {n k : Nat} {xs : Nat → Int32} (hX : k_scr G n xs) (hn : n ≤ 3072) (hk : k ≤ 600) (hi : 6 * k + 6 ≤ n) (J1744 : ∀ (v5 v6 : Option Value) (w : am_w), lw_J w → AW G nL_law 200 (fun v _ => v = some (.int 1)) (fun _ _ => False) 1744 [some (.ref (1000000 + 3000000)), some (.ref 0), some (.ref 101), some (.ref 144), some (.int (nI (6 * k))), v5, v6] [] w (1024 + 4 * k + 4) (20000 + 24 * k + 24)) {w : am_w} (hJ : lw_J w) : AW G nL_law 200 (fun v _ => v = some (.int 1)) (fun _ _ => False) 1549 [some (.ref (1000000 + 3000000)), some (.ref 0), some (.ref 101), some (.ref 144), some (.int (nI (6 * k))), none, none] [] w (1024 + 4 * k) (20000 + 24 * k) := by
  have hG := hK.1
  refine AW.aload_n dL_law_1549 rfl ?_
  refine AW.callV (b := 0) (As := []) hG.2.2 (vL_183 hG) (by obtain ⟨I, R, L, t, t2, T, rfl, -⟩ := hJ; exact lw_0) (o_forget hK hXS hJ ) (by omega) dL_law_1550 rfl rfl (Nat.le_of_ble_eq_true rfl) (fun v w9 hq h0 => by obtain ⟨I2, R2, L2, J, rfl, rfl, -⟩ := hq; exact absurd h0 Nat.one_ne_zero) (by show 1024 + 4 * k + 0 ≤ 601024; omega) (by show 20000 + 24 * k + 0 ≤ 7293034; omega) (fun _ _ h => h) (fun v1 w1 hq1 => ?_)
  obtain ⟨I2, R2, L2, J, rfl, rfl, hMo, hb, hJ2⟩ := hq1
  refine AW.widen (uc' := (1024 + 4 * k + 4)) (us' := (20000 + 24 * k + 24)) (by show 1024 + 4 * k + 0 ≤ 1024 + 4 * k + 4; omega) (by show 20000 + 24 * k + 0 ≤ 20000 + 24 * k + 24; omega) Nat.one_ne_zero ?_
  refine AW.aload_n dL_law_1553 rfl ?_
  refine AW.callV (b := 101) (As := []) hG.2.2 (vL_186 hG) lw_101 (g_X11_forget hK (d := 190) (by omega) hMo hb) (by omega) dL_law_1554 rfl rfl (Nat.le_of_ble_eq_true rfl) (fun v w9 hq h0 => by obtain ⟨rfl, rfl⟩ := hq; exact absurd h0 Nat.one_ne_zero) (by show 1024 + 4 * k + 4 + 0 ≤ 601024; omega) (by show 20000 + 24 * k + 24 + 0 ≤ 7293034; omega) (fun _ _ h => h) (fun v2 w2 hq2 => ?_)
  obtain ⟨rfl, rfl⟩ := hq2
  refine AW.widen (uc' := (1024 + 4 * k + 4)) (us' := (20000 + 24 * k + 24)) (by show 1024 + 4 * k + 4 + 0 ≤ 1024 + 4 * k + 4; omega) (by show 20000 + 24 * k + 24 + 0 ≤ 20000 + 24 * k + 24; omega) Nat.one_ne_zero ?_
  exact AW.goto 1744 dL_law_1557 (by decide) (J1744 _ _ _ hJ2)
set_option maxRecDepth 100000 in
set_option maxHeartbeats 4000000 in
theorem lb_29 (hK : k_OK G) (hXS : k_XS G) (hN : ∀ s H, am_O G s H → va_Nc nmI nmS s) {n k : Nat} {xs : Nat → Int32} (hX : k_scr G n xs) (hn : n ≤ 3072) (hk : k ≤ 600) (hi : 6 * k + 6 ≤ n) (J1744 : ∀ (v5 v6 : Option Value) (w : am_w), lw_J w → AW G nL_law 200 (fun v _ => v = some (.int 1)) (fun _ _ => False) 1744 [some (.ref (1000000 + 3000000)), some (.ref 0), some (.ref 101), some (.ref 144), some (.int (nI (6 * k))), v5, v6] [] w (1024 + 4 * k + 4) (20000 + 24 * k + 24)) {w : am_w} (hJ : lw_J w) : AW G nL_law 200 (fun v _ => v = some (.int 1)) (fun _ _ => False) 1560 [some (.ref (1000000 + 3000000)), some (.ref 0), some (.ref 101), some (.ref 144), some (.int (nI (6 * k))), none, none] [] w (1024 + 4 * k) (20000 + 24 * k) := by
  have hG := hK.1
  refine AW.aload_n dL_law_1560 rfl ?_
  refine AW.aload_n dL_law_1561 rfl (AW.iload dL_law_1562 rfl (AW.iconst 1 dL_law_1564 (by decide) (AW.iadd dL_law_1565 (AW.sld hX (lw_ix (j := 1) (by omega) hn) dL_law_1566 ?_))))
  refine AW.aload_n dL_law_1567 rfl (AW.iload dL_law_1568 rfl (AW.iconst 2 dL_law_1570 (by decide) (AW.iadd dL_law_1571 (AW.sld hX (lw_ix (j := 2) (by omega) hn) dL_law_1572 ?_))))
  refine AW.aload_n dL_law_1573 rfl (AW.iload dL_law_1574 rfl (AW.iconst 3 dL_law_1576 (by decide) (AW.iadd dL_law_1577 (AW.sld hX (lw_ix (j := 3) (by omega) hn) dL_law_1578 ?_))))
  refine AW.aload_n dL_law_1579 rfl ?_
  refine AW.callSH (M' := nL_game) (As := [.ref 0, .int (xs (nI (6 * k) + 1).toNatClampNeg), .int (xs (nI (6 * k) + 2).toNatClampNeg), .int (xs (nI (6 * k) + 3).toNatClampNeg), .ref 144]) hG.2.2 (kH_game hG) (o_game hK hXS hN hJ (xs (nI (6 * k) + 1).toNatClampNeg) (xs (nI (6 * k) + 2).toNatClampNeg) (xs (nI (6 * k) + 3).toNatClampNeg)) (by omega) dL_law_1580 rfl rfl (Nat.le_of_ble_eq_true rfl) (fun v w9 hq h0 => by obtain ⟨x, I2, R2, L2, r, J, rfl, rfl, -⟩ := hq; exact absurd h0 Nat.one_ne_zero) (by show 1024 + 4 * k + 4 ≤ 601024; omega) (by show 20000 + 24 * k + 24 ≤ 7293034; omega) (fun _ _ h => h) (fun v1 w1 hq1 => ?_)
  obtain ⟨x, I2, R2, L2, r, J, rfl, rfl, hMo, hb, hJ2, hx, hL⟩ := hq1
  refine AW.widen (uc' := (1024 + 4 * k + 4)) (us' := (20000 + 24 * k + 24)) (by show 1024 + 4 * k + 4 ≤ 1024 + 4 * k + 4; omega) (by show 20000 + 24 * k + 24 ≤ 20000 + 24 * k + 24; omega) Nat.one_ne_zero ?_
  refine AW.is [some (.ref (1000000 + 3000000)), some (.ref 0), some (.ref 101), some (.ref 144), some (.int (nI (6 * k))), some (.int x), none] dL_law_1583 (by decide) rfl rfl ?_
  refine AW.aload_n dL_law_1585 rfl ?_
  refine AW.aload_n dL_law_1586 rfl (AW.iload dL_law_1587 rfl (AW.iconst 1 dL_law_1589 (by decide) (AW.iadd dL_law_1590 (AW.sld hX (lw_ix (j := 1) (by omega) hn) dL_law_1591 ?_))))
  refine AW.aload_n dL_law_1592 rfl (AW.iload dL_law_1593 rfl (AW.iconst 2 dL_law_1595 (by decide) (AW.iadd dL_law_1596 (AW.sld hX (lw_ix (j := 2) (by omega) hn) dL_law_1597 ?_))))
  refine AW.aload_n dL_law_1598 rfl (AW.iload dL_law_1599 rfl (AW.iconst 3 dL_law_1601 (by decide) (AW.iadd dL_law_1602 (AW.sld hX (lw_ix (j := 3) (by omega) hn) dL_law_1603 ?_))))
  refine AW.callV (b := 101) (As := [.int (xs (nI (6 * k) + 1).toNatClampNeg), .int (xs (nI (6 * k) + 2).toNatClampNeg), .int (xs (nI (6 * k) + 3).toNatClampNeg)]) hG.2.2 (vL_189 hG) lw_101 (g_X11_game hK (d := 190) (by omega) hMo hb) (by omega) dL_law_1604 rfl rfl (Nat.le_of_ble_eq_true rfl) (fun v w9 hq h0 => by obtain ⟨rfl, rfl⟩ := hq; exact absurd h0 Nat.one_ne_zero) (by show 1024 + 4 * k + 4 + 0 ≤ 601024; omega) (by show 20000 + 24 * k + 24 + 0 ≤ 7293034; omega) (fun _ _ h => h) (fun v2 w2 hq2 => ?_)
  obtain ⟨rfl, rfl⟩ := hq2
  refine AW.is [some (.ref (1000000 + 3000000)), some (.ref 0), some (.ref 101), some (.ref 144), some (.int (nI (6 * k))), some (.int x), some (.int r)] dL_law_1607 (by decide) rfl rfl ?_
  refine AW.aload_n dL_law_1609 rfl ?_
  refine AW.callV (b := 101) (As := []) hG.2.2 (vL_89 hG) lw_101 (g_X11_thrown hK (d := 190) (by omega) hMo) (by omega) dL_law_1610 rfl rfl (Nat.le_of_ble_eq_true rfl) (fun v w9 hq h0 => by obtain ⟨rfl, rfl⟩ := hq; exact absurd h0 Nat.one_ne_zero) (by show 1024 + 4 * k + 4 + 0 + 0 ≤ 601024; omega) (by show 20000 + 24 * k + 24 + 0 + 0 ≤ 7293034; omega) (fun _ _ h => h) (fun v3 w3 hq3 => ?_)
  obtain ⟨rfl, rfl⟩ := hq3
  refine AW.widen (uc' := (1024 + 4 * k + 4)) (us' := (20000 + 24 * k + 24)) (by show 1024 + 4 * k + 4 + 0 + 0 ≤ 1024 + 4 * k + 4; omega) (by show 20000 + 24 * k + 24 + 0 + 0 ≤ 20000 + 24 * k + 24; omega) Nat.one_ne_zero ?_
  refine AW.iload dL_law_1613 rfl ?_
  refine AW.icmp_eq 1620 dL_law_1615 (by decide) (fun h => ?_) (fun h => absurd hx h)
  refine AW.iload dL_law_1620 rfl ?_
  refine AW.if_ne 1637 dL_law_1622 (by decide) (fun _ => (AW.goto 1744 dL_law_1637 (by decide) (J1744 _ _ _ hJ2))) (fun hx0 => ?_)
  refine AW.aload_n dL_law_1625 rfl (AW.iconst 0 dL_law_1626 (by decide) (AW.lald lw_144 (by unfold vp_in; decide) dL_law_1627 ?_))
  refine AW.iload dL_law_1628 rfl ?_
  refine AW.i2l dL_law_1630 (AW.lcmp dL_law_1631 (AW.if_eq 1637 dL_law_1632 (by decide) (fun _ => (AW.goto 1744 dL_law_1637 (by decide) (J1744 _ _ _ hJ2))) (fun h9 => absurd ?_ h9)))
  have e9 : L2 144 (Int32.toNatClampNeg 0) = r.toInt64 := hL hx0
  rw [e9]
  exact lw_cmp _
set_option maxRecDepth 100000 in
set_option maxHeartbeats 4000000 in
theorem lb_30 (hK : k_OK G) (hXS : k_XS G) (hN : ∀ s H, am_O G s H → va_Nc nmI nmS s) {n k : Nat} {xs : Nat → Int32} (hX : k_scr G n xs) (hn : n ≤ 3072) (hk : k ≤ 600) (hi : 6 * k + 6 ≤ n) (J1744 : ∀ (v5 v6 : Option Value) (w : am_w), lw_J w → AW G nL_law 200 (fun v _ => v = some (.int 1)) (fun _ _ => False) 1744 [some (.ref (1000000 + 3000000)), some (.ref 0), some (.ref 101), some (.ref 144), some (.int (nI (6 * k))), v5, v6] [] w (1024 + 4 * k + 4) (20000 + 24 * k + 24)) {w : am_w} (hJ : lw_J w) : AW G nL_law 200 (fun v _ => v = some (.int 1)) (fun _ _ => False) 1640 [some (.ref (1000000 + 3000000)), some (.ref 0), some (.ref 101), some (.ref 144), some (.int (nI (6 * k))), none, none] [] w (1024 + 4 * k) (20000 + 24 * k) := by
  have hG := hK.1
  refine AW.aload_n dL_law_1640 rfl ?_
  refine AW.aload_n dL_law_1641 rfl (AW.iload dL_law_1642 rfl (AW.iconst 1 dL_law_1644 (by decide) (AW.iadd dL_law_1645 (AW.sld hX (lw_ix (j := 1) (by omega) hn) dL_law_1646 ?_))))
  refine AW.aload_n dL_law_1647 rfl (AW.iload dL_law_1648 rfl (AW.iconst 2 dL_law_1650 (by decide) (AW.iadd dL_law_1651 (AW.sld hX (lw_ix (j := 2) (by omega) hn) dL_law_1652 ?_))))
  refine AW.aload_n dL_law_1653 rfl (AW.iload dL_law_1654 rfl (AW.iconst 3 dL_law_1656 (by decide) (AW.iadd dL_law_1657 (AW.sld hX (lw_ix (j := 3) (by omega) hn) dL_law_1658 ?_))))
  refine AW.aload_n dL_law_1659 rfl ?_
  refine AW.callSH (M' := nL_season) (As := [.ref 0, .int (xs (nI (6 * k) + 1).toNatClampNeg), .int (xs (nI (6 * k) + 2).toNatClampNeg), .int (xs (nI (6 * k) + 3).toNatClampNeg), .ref 144]) hG.2.2 (kH_season hG) (o_season hK hXS hN hJ (xs (nI (6 * k) + 1).toNatClampNeg) (xs (nI (6 * k) + 2).toNatClampNeg) (xs (nI (6 * k) + 3).toNatClampNeg)) (by omega) dL_law_1660 rfl rfl (Nat.le_of_ble_eq_true rfl) (fun v w9 hq h0 => by obtain ⟨x, I2, R2, L2, r, J, rfl, rfl, -⟩ := hq; exact absurd h0 Nat.one_ne_zero) (by show 1024 + 4 * k + 2 ≤ 601024; omega) (by show 20000 + 24 * k + 12 ≤ 7293034; omega) (fun _ _ h => h) (fun v1 w1 hq1 => ?_)
  obtain ⟨x, I2, R2, L2, r, J, rfl, rfl, hMo, hb, hJ2, hx, hL⟩ := hq1
  refine AW.widen (uc' := (1024 + 4 * k + 4)) (us' := (20000 + 24 * k + 24)) (by show 1024 + 4 * k + 2 ≤ 1024 + 4 * k + 4; omega) (by show 20000 + 24 * k + 12 ≤ 20000 + 24 * k + 24; omega) Nat.one_ne_zero ?_
  refine AW.is [some (.ref (1000000 + 3000000)), some (.ref 0), some (.ref 101), some (.ref 144), some (.int (nI (6 * k))), some (.int x), none] dL_law_1663 (by decide) rfl rfl ?_
  refine AW.aload_n dL_law_1665 rfl ?_
  refine AW.aload_n dL_law_1666 rfl (AW.iload dL_law_1667 rfl (AW.iconst 1 dL_law_1669 (by decide) (AW.iadd dL_law_1670 (AW.sld hX (lw_ix (j := 1) (by omega) hn) dL_law_1671 ?_))))
  refine AW.aload_n dL_law_1672 rfl (AW.iload dL_law_1673 rfl (AW.iconst 2 dL_law_1675 (by decide) (AW.iadd dL_law_1676 (AW.sld hX (lw_ix (j := 2) (by omega) hn) dL_law_1677 ?_))))
  refine AW.aload_n dL_law_1678 rfl (AW.iload dL_law_1679 rfl (AW.iconst 3 dL_law_1681 (by decide) (AW.iadd dL_law_1682 (AW.sld hX (lw_ix (j := 3) (by omega) hn) dL_law_1683 ?_))))
  refine AW.callV (b := 101) (As := [.int (xs (nI (6 * k) + 1).toNatClampNeg), .int (xs (nI (6 * k) + 2).toNatClampNeg), .int (xs (nI (6 * k) + 3).toNatClampNeg)]) hG.2.2 (vL_192 hG) lw_101 (g_X11_season hK (d := 190) (by omega) hMo hb) (by omega) dL_law_1684 rfl rfl (Nat.le_of_ble_eq_true rfl) (fun v w9 hq h0 => by obtain ⟨rfl, rfl⟩ := hq; exact absurd h0 Nat.one_ne_zero) (by show 1024 + 4 * k + 4 + 0 ≤ 601024; omega) (by show 20000 + 24 * k + 24 + 0 ≤ 7293034; omega) (fun _ _ h => h) (fun v2 w2 hq2 => ?_)
  obtain ⟨rfl, rfl⟩ := hq2
  refine AW.is [some (.ref (1000000 + 3000000)), some (.ref 0), some (.ref 101), some (.ref 144), some (.int (nI (6 * k))), some (.int x), some (.int r)] dL_law_1687 (by decide) rfl rfl ?_
  refine AW.aload_n dL_law_1689 rfl ?_
  refine AW.callV (b := 101) (As := []) hG.2.2 (vL_89 hG) lw_101 (g_X11_thrown hK (d := 190) (by omega) hMo) (by omega) dL_law_1690 rfl rfl (Nat.le_of_ble_eq_true rfl) (fun v w9 hq h0 => by obtain ⟨rfl, rfl⟩ := hq; exact absurd h0 Nat.one_ne_zero) (by show 1024 + 4 * k + 4 + 0 + 0 ≤ 601024; omega) (by show 20000 + 24 * k + 24 + 0 + 0 ≤ 7293034; omega) (fun _ _ h => h) (fun v3 w3 hq3 => ?_)
  obtain ⟨rfl, rfl⟩ := hq3
  refine AW.widen (uc' := (1024 + 4 * k + 4)) (us' := (20000 + 24 * k + 24)) (by show 1024 + 4 * k + 4 + 0 + 0 ≤ 1024 + 4 * k + 4; omega) (by show 20000 + 24 * k + 24 + 0 + 0 ≤ 20000 + 24 * k + 24; omega) Nat.one_ne_zero ?_
  refine AW.iload dL_law_1693 rfl ?_
  refine AW.icmp_eq 1700 dL_law_1695 (by decide) (fun h => ?_) (fun h => absurd hx h)
  refine AW.iload dL_law_1700 rfl ?_
  refine AW.if_ne 1717 dL_law_1702 (by decide) (fun _ => (AW.goto 1744 dL_law_1717 (by decide) (J1744 _ _ _ hJ2))) (fun hx0 => ?_)
  refine AW.aload_n dL_law_1705 rfl (AW.iconst 0 dL_law_1706 (by decide) (AW.lald lw_144 (by unfold vp_in; decide) dL_law_1707 ?_))
  refine AW.iload dL_law_1708 rfl ?_
  refine AW.i2l dL_law_1710 (AW.lcmp dL_law_1711 (AW.if_eq 1717 dL_law_1712 (by decide) (fun _ => (AW.goto 1744 dL_law_1717 (by decide) (J1744 _ _ _ hJ2))) (fun h9 => absurd ?_ h9)))
  have e9 : L2 144 (Int32.toNatClampNeg 0) = r.toInt64 := hL hx0
  rw [e9]
  exact lw_cmp _
set_option maxRecDepth 100000 in
set_option maxHeartbeats 4000000 in
theorem lb_31 (hK : k_OK G) (hXS : k_XS G) {n k : Nat} {xs : Nat → Int32} (hX : k_scr G n xs) (hn : n ≤ 3072) (hk : k ≤ 600) (hi : 6 * k + 6 ≤ n) (J1744 : ∀ (v5 v6 : Option Value) (w : am_w), lw_J w → AW G nL_law 200 (fun v _ => v = some (.int 1)) (fun _ _ => False) 1744 [some (.ref (1000000 + 3000000)), some (.ref 0), some (.ref 101), some (.ref 144), some (.int (nI (6 * k))), v5, v6] [] w (1024 + 4 * k + 4) (20000 + 24 * k + 24)) {w : am_w} (hJ : lw_J w) : AW G nL_law 200 (fun v _ => v = some (.int 1)) (fun _ _ => False) 1720 [some (.ref (1000000 + 3000000)), some (.ref 0), some (.ref 101), some (.ref 144), some (.int (nI (6 * k))), none, none] [] w (1024 + 4 * k) (20000 + 24 * k) := by
  have hG := hK.1
  refine AW.aload_n dL_law_1720 rfl ?_
  refine AW.callV (b := 0) (As := []) hG.2.2 (vL_193 hG) (by obtain ⟨I, R, L, t, t2, T, rfl, -⟩ := hJ; exact lw_0) (o_image hK hXS hJ ) (by omega) dL_law_1721 rfl rfl (Nat.le_of_ble_eq_true rfl) (fun v w9 hq h0 => by obtain ⟨I2, R2, L2, J, rfl, rfl, -⟩ := hq; exact absurd h0 Nat.one_ne_zero) (by show 1024 + 4 * k + 0 ≤ 601024; omega) (by show 20000 + 24 * k + 0 ≤ 7293034; omega) (fun _ _ h => h) (fun v1 w1 hq1 => ?_)
  obtain ⟨I2, R2, L2, J, rfl, rfl, hMo, hb, hJ2⟩ := hq1
  refine AW.widen (uc' := (1024 + 4 * k + 4)) (us' := (20000 + 24 * k + 24)) (by show 1024 + 4 * k + 0 ≤ 1024 + 4 * k + 4; omega) (by show 20000 + 24 * k + 0 ≤ 20000 + 24 * k + 24; omega) Nat.one_ne_zero ?_
  refine AW.aload_n dL_law_1724 rfl ?_
  refine AW.callV (b := 101) (As := []) hG.2.2 (vL_196 hG) lw_101 (g_X11_image hK (d := 190) (by omega) hMo hb) (by omega) dL_law_1725 rfl rfl (Nat.le_of_ble_eq_true rfl) (fun v w9 hq h0 => by obtain ⟨rfl, rfl⟩ := hq; exact absurd h0 Nat.one_ne_zero) (by show 1024 + 4 * k + 4 + 0 ≤ 601024; omega) (by show 20000 + 24 * k + 24 + 0 ≤ 7293034; omega) (fun _ _ h => h) (fun v2 w2 hq2 => ?_)
  obtain ⟨rfl, rfl⟩ := hq2
  refine AW.widen (uc' := (1024 + 4 * k + 4)) (us' := (20000 + 24 * k + 24)) (by show 1024 + 4 * k + 4 + 0 ≤ 1024 + 4 * k + 4; omega) (by show 20000 + 24 * k + 24 + 0 ≤ 20000 + 24 * k + 24; omega) Nat.one_ne_zero ?_
  exact AW.goto 1744 dL_law_1728 (by decide) (J1744 _ _ _ hJ2)
set_option maxRecDepth 100000 in
set_option maxHeartbeats 4000000 in
theorem lb_32 (hK : k_OK G) (hXS : k_XS G) {n k : Nat} {xs : Nat → Int32} (hX : k_scr G n xs) (hn : n ≤ 3072) (hk : k ≤ 600) (hi : 6 * k + 6 ≤ n) (J1744 : ∀ (v5 v6 : Option Value) (w : am_w), lw_J w → AW G nL_law 200 (fun v _ => v = some (.int 1)) (fun _ _ => False) 1744 [some (.ref (1000000 + 3000000)), some (.ref 0), some (.ref 101), some (.ref 144), some (.int (nI (6 * k))), v5, v6] [] w (1024 + 4 * k + 4) (20000 + 24 * k + 24)) {w : am_w} (hJ : lw_J w) : AW G nL_law 200 (fun v _ => v = some (.int 1)) (fun _ _ => False) 1731 [some (.ref (1000000 + 3000000)), some (.ref 0), some (.ref 101), some (.ref 144), some (.int (nI (6 * k))), none, none] [] w (1024 + 4 * k) (20000 + 24 * k) := by
  have hG := hK.1
  refine AW.aload_n dL_law_1731 rfl ?_
  refine AW.callV (b := 0) (As := []) hG.2.2 (vL_197 hG) (by obtain ⟨I, R, L, t, t2, T, rfl, -⟩ := hJ; exact lw_0) (o_restore hK hXS hJ ) (by omega) dL_law_1732 rfl rfl (Nat.le_of_ble_eq_true rfl) (fun v w9 hq h0 => by obtain ⟨I2, R2, L2, r, J, rfl, rfl, -⟩ := hq; exact absurd h0 Nat.one_ne_zero) (by show 1024 + 4 * k + 0 ≤ 601024; omega) (by show 20000 + 24 * k + 0 ≤ 7293034; omega) (fun _ _ h => h) (fun v1 w1 hq1 => ?_)
  obtain ⟨I2, R2, L2, r, J, rfl, rfl, hMo, hb, hJ2⟩ := hq1
  refine AW.widen (uc' := (1024 + 4 * k + 4)) (us' := (20000 + 24 * k + 24)) (by show 1024 + 4 * k + 0 ≤ 1024 + 4 * k + 4; omega) (by show 20000 + 24 * k + 0 ≤ 20000 + 24 * k + 24; omega) Nat.one_ne_zero ?_
  refine AW.aload_n dL_law_1735 rfl ?_
  refine AW.callV (b := 101) (As := []) hG.2.2 (vL_201 hG) lw_101 (g_X11_restore hK (d := 190) (by omega) hMo hb) (by omega) dL_law_1736 rfl rfl (Nat.le_of_ble_eq_true rfl) (fun v w9 hq h0 => by obtain ⟨rfl, rfl⟩ := hq; exact absurd h0 Nat.one_ne_zero) (by show 1024 + 4 * k + 4 + 0 ≤ 601024; omega) (by show 20000 + 24 * k + 24 + 0 ≤ 7293034; omega) (fun _ _ h => h) (fun v2 w2 hq2 => ?_)
  obtain ⟨rfl, rfl⟩ := hq2
  refine AW.widen (uc' := (1024 + 4 * k + 4)) (us' := (20000 + 24 * k + 24)) (by show 1024 + 4 * k + 4 + 0 ≤ 1024 + 4 * k + 4; omega) (by show 20000 + 24 * k + 24 + 0 ≤ 20000 + 24 * k + 24; omega) Nat.one_ne_zero ?_
  exact AW.icmp_eq 1744 dL_law_1739 (by decide) (fun _ => J1744 _ _ _ hJ2) (fun h => absurd rfl h)
set_option maxRecDepth 100000 in
set_option maxHeartbeats 8000000 in
theorem lw_loop (hK : k_OK G) (hXS : k_XS G) (hN : ∀ s H, am_O G s H → va_Nc nmI nmS s) {n : Nat} {xs : Nat → Int32} (hX : k_scr G n xs) (hn : n ≤ 3072) : ∀ k, k ≤ 600 → ∀ w, lw_J w → AW G nL_law 200 (fun v _ => v = some (.int 1)) (fun _ _ => False) 23 [some (.ref (1000000 + 3000000)), some (.ref 0), some (.ref 101), some (.ref 144), some (.int (nI (6 * k))), none, none] [] w (1024 + 4 * k) (20000 + 24 * k) := by
  refine am_rec 600 (fun k hk ih => ?_)
  intro w hJ
  have hG := hK.1
  have hJ9 := hJ
  obtain ⟨I, R, L, t, t2, T, rfl, hlk, hS⟩ := hJ9
  refine AW.iload dL_law_23 rfl (AW.aload_n dL_law_25 rfl (AW.slen hX dL_law_26 (AW.bipush 6 dL_law_27 (by decide) (AW.isub dL_law_29 ?_))))
  refine AW.icmp_gt 1750 dL_law_30 (by decide) (fun h => ?_) (fun h => ?_)
  · exact AW.iconst 1 dL_law_1750 (by decide) (AW.zret dL_law_1751 rfl (by decide) (by show 1024 + 4 * k ≤ 601024; omega) (by show 20000 + 24 * k ≤ 7293034; omega) rfl)
  have hi := lw_go hn hk h
  have J1744 : ∀ (v5 v6 : Option Value) (w : am_w), lw_J w → AW G nL_law 200 (fun v _ => v = some (.int 1)) (fun _ _ => False) 1744 [some (.ref (1000000 + 3000000)), some (.ref 0), some (.ref 101), some (.ref 144), some (.int (nI (6 * k))), v5, v6] [] w (1024 + 4 * k + 4) (20000 + 24 * k + 24) := by
    intro v5 v6 w hJ
    refine AW.mask [5, 6] [some (.ref (1000000 + 3000000)), some (.ref 0), some (.ref 101), some (.ref 144), some (.int (nI (6 * k))), none, none] rfl ?_
    refine AW.inc (fun v => [some (.ref (1000000 + 3000000)), some (.ref 0), some (.ref 101), some (.ref 144), some (.int v), none, none]) dL_law_1744 rfl (by decide) rfl (fun _ => rfl) (fun v hv => ?_)
    refine AW.goto 23 dL_law_1747 (by decide) ?_
    have e : v = nI (6 * (k + 1)) := by
      rw [hv, show 6 * (k + 1) = 6 * k + 6 by omega, ← nI_add]
      rfl
    rw [e]
    exact ih (k + 1) (by omega) (by omega) w hJ
  refine AW.aload_n dL_law_33 rfl (AW.iload dL_law_34 rfl (AW.sld hX (vp_in_nI (by omega) (by omega)) dL_law_36 (AW.bipush 63 dL_law_37 (by decide) (AW.iand dL_law_39 ?_))))
  refine AW.nam (fun o ho => ?_)
  by_cases hs0 : o = 0
  · subst hs0
    exact AW.tabIn 188 dL_law_40 (by decide) (by decide) rfl (by decide) (lb_0 hK hXS hX hn hk hi J1744 hJ)
  by_cases hs1 : o = 1
  · subst hs1
    exact AW.tabIn 261 dL_law_40 (by decide) (by decide) rfl (by decide) (lb_1 hK hXS hX hn hk hi J1744 hJ)
  by_cases hs2 : o = 2
  · subst hs2
    exact AW.tabIn 317 dL_law_40 (by decide) (by decide) rfl (by decide) (lb_2 hK hXS hX hn hk hi J1744 hJ)
  by_cases hs3 : o = 3
  · subst hs3
    exact AW.tabIn 330 dL_law_40 (by decide) (by decide) rfl (by decide) (lb_3 hK hXS hX hn hk hi J1744 hJ)
  by_cases hs4 : o = 4
  · subst hs4
    exact AW.tabIn 386 dL_law_40 (by decide) (by decide) rfl (by decide) (lb_4 hK hXS hX hn hk hi J1744 hJ)
  by_cases hs5 : o = 5
  · subst hs5
    exact AW.tabIn 454 dL_law_40 (by decide) (by decide) rfl (by decide) (lb_5 hK hXS hX hn hk hi J1744 hJ)
  by_cases hs6 : o = 6
  · subst hs6
    exact AW.tabIn 522 dL_law_40 (by decide) (by decide) rfl (by decide) (lb_6 hK hXS hN hX hn hk hi J1744 hJ)
  by_cases hs7 : o = 7
  · subst hs7
    exact AW.tabIn 590 dL_law_40 (by decide) (by decide) rfl (by decide) (lb_7 hK hXS hX hn hk hi J1744 hJ)
  by_cases hs8 : o = 8
  · subst hs8
    exact AW.tabIn 665 dL_law_40 (by decide) (by decide) rfl (by decide) (lb_8 hK hXS hX hn hk hi J1744 hJ)
  by_cases hs9 : o = 9
  · subst hs9
    exact AW.tabIn 733 dL_law_40 (by decide) (by decide) rfl (by decide) (lb_9 hK hXS hX hn hk hi J1744 hJ)
  by_cases hs10 : o = 10
  · subst hs10
    exact AW.tabIn 813 dL_law_40 (by decide) (by decide) rfl (by decide) (lb_10 hK hXS hX hn hk hi J1744 hJ)
  by_cases hs11 : o = 11
  · subst hs11
    exact AW.tabIn 888 dL_law_40 (by decide) (by decide) rfl (by decide) (lb_11 hK hXS hX hn hk hi J1744 hJ)
  by_cases hs12 : o = 12
  · subst hs12
    exact AW.tabIn 956 dL_law_40 (by decide) (by decide) rfl (by decide) (lb_12 hK hXS hX hn hk hi J1744 hJ)
  by_cases hs13 : o = 13
  · subst hs13
    exact AW.tabIn 981 dL_law_40 (by decide) (by decide) rfl (by decide) (lb_13 hK hXS hX hn hk hi J1744 hJ)
  by_cases hs14 : o = 14
  · subst hs14
    exact AW.tabIn 1006 dL_law_40 (by decide) (by decide) rfl (by decide) (lb_14 hK hXS hX hn hk hi J1744 hJ)
  by_cases hs15 : o = 15
  · subst hs15
    exact AW.tabIn 1019 dL_law_40 (by decide) (by decide) rfl (by decide) (lb_15 hK hXS hX hn hk hi J1744 hJ)
  by_cases hs16 : o = 16
  · subst hs16
    exact AW.tabIn 1032 dL_law_40 (by decide) (by decide) rfl (by decide) (lb_16 hK hXS hX hn hk hi J1744 hJ)
  by_cases hs17 : o = 17
  · subst hs17
    exact AW.tabIn 1088 dL_law_40 (by decide) (by decide) rfl (by decide) (lb_17 hK hXS hX hn hk hi J1744 hJ)
  by_cases hs18 : o = 18
  · subst hs18
    exact AW.tabIn 1101 dL_law_40 (by decide) (by decide) rfl (by decide) (lb_18 hK hXS hX hn hk hi J1744 hJ)
  by_cases hs19 : o = 19
  · subst hs19
    exact AW.tabIn 1114 dL_law_40 (by decide) (by decide) rfl (by decide) (lb_19 hK hXS hX hn hk hi J1744 hJ)
  by_cases hs20 : o = 20
  · subst hs20
    exact AW.tabIn 1127 dL_law_40 (by decide) (by decide) rfl (by decide) (lb_20 hK hXS hX hn hk hi J1744 hJ)
  by_cases hs21 : o = 21
  · subst hs21
    exact AW.tabIn 1140 dL_law_40 (by decide) (by decide) rfl (by decide) (lb_21 hK hXS hX hn hk hi J1744 hJ)
  by_cases hs22 : o = 22
  · subst hs22
    exact AW.tabIn 1153 dL_law_40 (by decide) (by decide) rfl (by decide) (lb_22 hK hXS hX hn hk hi J1744 hJ)
  by_cases hs23 : o = 23
  · subst hs23
    exact AW.tabIn 1233 dL_law_40 (by decide) (by decide) rfl (by decide) (lb_23 hK hXS hX hn hk hi J1744 hJ)
  by_cases hs24 : o = 24
  · subst hs24
    exact AW.tabIn 1289 dL_law_40 (by decide) (by decide) rfl (by decide) (lb_24 hK hXS hX hn hk hi J1744 hJ)
  by_cases hs25 : o = 25
  · subst hs25
    exact AW.tabIn 1357 dL_law_40 (by decide) (by decide) rfl (by decide) (lb_25 hK hXS hX hn hk hi J1744 hJ)
  by_cases hs26 : o = 26
  · subst hs26
    exact AW.tabIn 1413 dL_law_40 (by decide) (by decide) rfl (by decide) (lb_26 hK hXS hX hn hk hi J1744 hJ)
  by_cases hs27 : o = 27
  · subst hs27
    exact AW.tabIn 1481 dL_law_40 (by decide) (by decide) rfl (by decide) (lb_27 hK hXS hX hn hk hi J1744 hJ)
  by_cases hs28 : o = 28
  · subst hs28
    exact AW.tabIn 1549 dL_law_40 (by decide) (by decide) rfl (by decide) (lb_28 hK hXS hX hn hk hi J1744 hJ)
  by_cases hs29 : o = 29
  · subst hs29
    exact AW.tabIn 1560 dL_law_40 (by decide) (by decide) rfl (by decide) (lb_29 hK hXS hN hX hn hk hi J1744 hJ)
  by_cases hs30 : o = 30
  · subst hs30
    exact AW.tabIn 1640 dL_law_40 (by decide) (by decide) rfl (by decide) (lb_30 hK hXS hN hX hn hk hi J1744 hJ)
  by_cases hs31 : o = 31
  · subst hs31
    exact AW.tabIn 1720 dL_law_40 (by decide) (by decide) rfl (by decide) (lb_31 hK hXS hX hn hk hi J1744 hJ)
  by_cases hs32 : o = 32
  · subst hs32
    exact AW.tabIn 1731 dL_law_40 (by decide) (by decide) rfl (by decide) (lb_32 hK hXS hX hn hk hi J1744 hJ)
  have ht : o.toInt < 0 ∨ 32 < o.toInt := by
    have h90 : ¬ o.toInt = 0 := fun h => hs0 (Int32.toInt_inj.mp (h.trans (by decide)))
    have h91 : ¬ o.toInt = 1 := fun h => hs1 (Int32.toInt_inj.mp (h.trans (by decide)))
    have h92 : ¬ o.toInt = 2 := fun h => hs2 (Int32.toInt_inj.mp (h.trans (by decide)))
    have h93 : ¬ o.toInt = 3 := fun h => hs3 (Int32.toInt_inj.mp (h.trans (by decide)))
    have h94 : ¬ o.toInt = 4 := fun h => hs4 (Int32.toInt_inj.mp (h.trans (by decide)))
    have h95 : ¬ o.toInt = 5 := fun h => hs5 (Int32.toInt_inj.mp (h.trans (by decide)))
    have h96 : ¬ o.toInt = 6 := fun h => hs6 (Int32.toInt_inj.mp (h.trans (by decide)))
    have h97 : ¬ o.toInt = 7 := fun h => hs7 (Int32.toInt_inj.mp (h.trans (by decide)))
    have h98 : ¬ o.toInt = 8 := fun h => hs8 (Int32.toInt_inj.mp (h.trans (by decide)))
    have h99 : ¬ o.toInt = 9 := fun h => hs9 (Int32.toInt_inj.mp (h.trans (by decide)))
    have h910 : ¬ o.toInt = 10 := fun h => hs10 (Int32.toInt_inj.mp (h.trans (by decide)))
    have h911 : ¬ o.toInt = 11 := fun h => hs11 (Int32.toInt_inj.mp (h.trans (by decide)))
    have h912 : ¬ o.toInt = 12 := fun h => hs12 (Int32.toInt_inj.mp (h.trans (by decide)))
    have h913 : ¬ o.toInt = 13 := fun h => hs13 (Int32.toInt_inj.mp (h.trans (by decide)))
    have h914 : ¬ o.toInt = 14 := fun h => hs14 (Int32.toInt_inj.mp (h.trans (by decide)))
    have h915 : ¬ o.toInt = 15 := fun h => hs15 (Int32.toInt_inj.mp (h.trans (by decide)))
    have h916 : ¬ o.toInt = 16 := fun h => hs16 (Int32.toInt_inj.mp (h.trans (by decide)))
    have h917 : ¬ o.toInt = 17 := fun h => hs17 (Int32.toInt_inj.mp (h.trans (by decide)))
    have h918 : ¬ o.toInt = 18 := fun h => hs18 (Int32.toInt_inj.mp (h.trans (by decide)))
    have h919 : ¬ o.toInt = 19 := fun h => hs19 (Int32.toInt_inj.mp (h.trans (by decide)))
    have h920 : ¬ o.toInt = 20 := fun h => hs20 (Int32.toInt_inj.mp (h.trans (by decide)))
    have h921 : ¬ o.toInt = 21 := fun h => hs21 (Int32.toInt_inj.mp (h.trans (by decide)))
    have h922 : ¬ o.toInt = 22 := fun h => hs22 (Int32.toInt_inj.mp (h.trans (by decide)))
    have h923 : ¬ o.toInt = 23 := fun h => hs23 (Int32.toInt_inj.mp (h.trans (by decide)))
    have h924 : ¬ o.toInt = 24 := fun h => hs24 (Int32.toInt_inj.mp (h.trans (by decide)))
    have h925 : ¬ o.toInt = 25 := fun h => hs25 (Int32.toInt_inj.mp (h.trans (by decide)))
    have h926 : ¬ o.toInt = 26 := fun h => hs26 (Int32.toInt_inj.mp (h.trans (by decide)))
    have h927 : ¬ o.toInt = 27 := fun h => hs27 (Int32.toInt_inj.mp (h.trans (by decide)))
    have h928 : ¬ o.toInt = 28 := fun h => hs28 (Int32.toInt_inj.mp (h.trans (by decide)))
    have h929 : ¬ o.toInt = 29 := fun h => hs29 (Int32.toInt_inj.mp (h.trans (by decide)))
    have h930 : ¬ o.toInt = 30 := fun h => hs30 (Int32.toInt_inj.mp (h.trans (by decide)))
    have h931 : ¬ o.toInt = 31 := fun h => hs31 (Int32.toInt_inj.mp (h.trans (by decide)))
    have h932 : ¬ o.toInt = 32 := fun h => hs32 (Int32.toInt_inj.mp (h.trans (by decide)))
    omega
  exact AW.tabOut 1744 dL_law_40 ht (by decide) (AW.widen (by omega) (by omega) Nat.one_ne_zero (J1744 none none _ hJ))
end LWL
