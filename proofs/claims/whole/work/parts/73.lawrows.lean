/-! ===== the law: its rows ===== -/
theorem zo_217 : zo 217 = 12 := by decide +kernel
theorem zret_217 : zret 217 = some .boolean := by decide +kernel
theorem d217_18 : decode (zb 217) 18 = .ok (.iload_n 3, 1) := by decide +kernel
theorem d217_19 : decode (zb 217) 19 = .ok (.aload_n 0, 1) := by decide +kernel
theorem d217_20 : decode (zb 217) 20 = .ok (.arraylength, 1) := by decide +kernel
theorem d217_21 : decode (zb 217) 21 = .ok (.iconst 5, 1) := by decide +kernel
theorem d217_22 : decode (zb 217) 22 = .ok (.isub, 1) := by decide +kernel
theorem d217_23 : decode (zb 217) 23 = .ok (.if_icmp .gt 840, 3) := by decide +kernel
theorem d217_26 : decode (zb 217) 26 = .ok (.aload_n 0, 1) := by decide +kernel
theorem d217_27 : decode (zb 217) 27 = .ok (.iload_n 3, 1) := by decide +kernel
theorem d217_28 : decode (zb 217) 28 = .ok (.iaload, 1) := by decide +kernel
theorem d217_29 : decode (zb 217) 29 = .ok (.bipush 31, 2) := by decide +kernel
theorem d217_31 : decode (zb 217) 31 = .ok (.iand, 1) := by decide +kernel
theorem d217_32 : decode (zb 217) 32 = .ok (.tableswitch 825 0 26 #[124, 147, 170, 183, 196, 219, 242, 275, 308, 331, 344, 367, 390, 413, 436, 469, 502, 525, 558, 571, 604, 627, 650, 693, 736, 789, 802], 124) := by decide +kernel
theorem d217_156 : decode (zb 217) 156 = .ok (.aload_n 1, 1) := by decide +kernel
theorem d217_157 : decode (zb 217) 157 = .ok (.aload_n 0, 1) := by decide +kernel
theorem d217_158 : decode (zb 217) 158 = .ok (.iload_n 3, 1) := by decide +kernel
theorem d217_159 : decode (zb 217) 159 = .ok (.iconst 1, 1) := by decide +kernel
theorem d217_160 : decode (zb 217) 160 = .ok (.iadd, 1) := by decide +kernel
theorem d217_161 : decode (zb 217) 161 = .ok (.iaload, 1) := by decide +kernel
theorem d217_162 : decode (zb 217) 162 = .ok (.invokevirtual 13, 3) := by decide +kernel
theorem d217_165 : decode (zb 217) 165 = .ok (.aload_n 2, 1) := by decide +kernel
theorem d217_166 : decode (zb 217) 166 = .ok (.aload_n 0, 1) := by decide +kernel
theorem d217_167 : decode (zb 217) 167 = .ok (.iload_n 3, 1) := by decide +kernel
theorem d217_168 : decode (zb 217) 168 = .ok (.iconst 1, 1) := by decide +kernel
theorem d217_169 : decode (zb 217) 169 = .ok (.iadd, 1) := by decide +kernel
theorem d217_170 : decode (zb 217) 170 = .ok (.iaload, 1) := by decide +kernel
theorem d217_171 : decode (zb 217) 171 = .ok (.invokevirtual 17, 3) := by decide +kernel
theorem d217_174 : decode (zb 217) 174 = .ok (.if_icmp .eq 683, 3) := by decide +kernel
theorem d217_179 : decode (zb 217) 179 = .ok (.aload_n 1, 1) := by decide +kernel
theorem d217_180 : decode (zb 217) 180 = .ok (.aload_n 0, 1) := by decide +kernel
theorem d217_181 : decode (zb 217) 181 = .ok (.iload_n 3, 1) := by decide +kernel
theorem d217_182 : decode (zb 217) 182 = .ok (.iconst 1, 1) := by decide +kernel
theorem d217_183 : decode (zb 217) 183 = .ok (.iadd, 1) := by decide +kernel
theorem d217_184 : decode (zb 217) 184 = .ok (.iaload, 1) := by decide +kernel
theorem d217_185 : decode (zb 217) 185 = .ok (.invokevirtual 18, 3) := by decide +kernel
theorem d217_188 : decode (zb 217) 188 = .ok (.aload_n 2, 1) := by decide +kernel
theorem d217_189 : decode (zb 217) 189 = .ok (.aload_n 0, 1) := by decide +kernel
theorem d217_190 : decode (zb 217) 190 = .ok (.iload_n 3, 1) := by decide +kernel
theorem d217_191 : decode (zb 217) 191 = .ok (.iconst 1, 1) := by decide +kernel
theorem d217_192 : decode (zb 217) 192 = .ok (.iadd, 1) := by decide +kernel
theorem d217_193 : decode (zb 217) 193 = .ok (.iaload, 1) := by decide +kernel
theorem d217_194 : decode (zb 217) 194 = .ok (.invokevirtual 21, 3) := by decide +kernel
theorem d217_197 : decode (zb 217) 197 = .ok (.if_icmp .eq 660, 3) := by decide +kernel
theorem d217_202 : decode (zb 217) 202 = .ok (.aload_n 1, 1) := by decide +kernel
theorem d217_203 : decode (zb 217) 203 = .ok (.invokevirtual 22, 3) := by decide +kernel
theorem d217_206 : decode (zb 217) 206 = .ok (.aload_n 2, 1) := by decide +kernel
theorem d217_207 : decode (zb 217) 207 = .ok (.invokevirtual 26, 3) := by decide +kernel
theorem d217_210 : decode (zb 217) 210 = .ok (.if_icmp .eq 647, 3) := by decide +kernel
theorem d217_215 : decode (zb 217) 215 = .ok (.aload_n 1, 1) := by decide +kernel
theorem d217_216 : decode (zb 217) 216 = .ok (.invokevirtual 27, 3) := by decide +kernel
theorem d217_219 : decode (zb 217) 219 = .ok (.aload_n 2, 1) := by decide +kernel
theorem d217_220 : decode (zb 217) 220 = .ok (.invokevirtual 30, 3) := by decide +kernel
theorem d217_223 : decode (zb 217) 223 = .ok (.if_icmp .eq 634, 3) := by decide +kernel
theorem d217_228 : decode (zb 217) 228 = .ok (.aload_n 1, 1) := by decide +kernel
theorem d217_229 : decode (zb 217) 229 = .ok (.aload_n 0, 1) := by decide +kernel
theorem d217_230 : decode (zb 217) 230 = .ok (.iload_n 3, 1) := by decide +kernel
theorem d217_231 : decode (zb 217) 231 = .ok (.iconst 1, 1) := by decide +kernel
theorem d217_232 : decode (zb 217) 232 = .ok (.iadd, 1) := by decide +kernel
theorem d217_233 : decode (zb 217) 233 = .ok (.iaload, 1) := by decide +kernel
theorem d217_234 : decode (zb 217) 234 = .ok (.invokevirtual 31, 3) := by decide +kernel
theorem d217_237 : decode (zb 217) 237 = .ok (.aload_n 2, 1) := by decide +kernel
theorem d217_238 : decode (zb 217) 238 = .ok (.aload_n 0, 1) := by decide +kernel
theorem d217_239 : decode (zb 217) 239 = .ok (.iload_n 3, 1) := by decide +kernel
theorem d217_240 : decode (zb 217) 240 = .ok (.iconst 1, 1) := by decide +kernel
theorem d217_241 : decode (zb 217) 241 = .ok (.iadd, 1) := by decide +kernel
theorem d217_242 : decode (zb 217) 242 = .ok (.iaload, 1) := by decide +kernel
theorem d217_243 : decode (zb 217) 243 = .ok (.invokevirtual 34, 3) := by decide +kernel
theorem d217_246 : decode (zb 217) 246 = .ok (.if_icmp .eq 611, 3) := by decide +kernel
theorem d217_251 : decode (zb 217) 251 = .ok (.aload_n 1, 1) := by decide +kernel
theorem d217_252 : decode (zb 217) 252 = .ok (.aload_n 0, 1) := by decide +kernel
theorem d217_253 : decode (zb 217) 253 = .ok (.iload_n 3, 1) := by decide +kernel
theorem d217_254 : decode (zb 217) 254 = .ok (.iconst 1, 1) := by decide +kernel
theorem d217_255 : decode (zb 217) 255 = .ok (.iadd, 1) := by decide +kernel
theorem d217_256 : decode (zb 217) 256 = .ok (.iaload, 1) := by decide +kernel
theorem d217_257 : decode (zb 217) 257 = .ok (.invokevirtual 35, 3) := by decide +kernel
theorem d217_260 : decode (zb 217) 260 = .ok (.aload_n 2, 1) := by decide +kernel
theorem d217_261 : decode (zb 217) 261 = .ok (.aload_n 0, 1) := by decide +kernel
theorem d217_262 : decode (zb 217) 262 = .ok (.iload_n 3, 1) := by decide +kernel
theorem d217_263 : decode (zb 217) 263 = .ok (.iconst 1, 1) := by decide +kernel
theorem d217_264 : decode (zb 217) 264 = .ok (.iadd, 1) := by decide +kernel
theorem d217_265 : decode (zb 217) 265 = .ok (.iaload, 1) := by decide +kernel
theorem d217_266 : decode (zb 217) 266 = .ok (.invokevirtual 38, 3) := by decide +kernel
theorem d217_269 : decode (zb 217) 269 = .ok (.if_icmp .eq 588, 3) := by decide +kernel
theorem d217_274 : decode (zb 217) 274 = .ok (.aload_n 1, 1) := by decide +kernel
theorem d217_275 : decode (zb 217) 275 = .ok (.aload_n 0, 1) := by decide +kernel
theorem d217_276 : decode (zb 217) 276 = .ok (.iload_n 3, 1) := by decide +kernel
theorem d217_277 : decode (zb 217) 277 = .ok (.iconst 1, 1) := by decide +kernel
theorem d217_278 : decode (zb 217) 278 = .ok (.iadd, 1) := by decide +kernel
theorem d217_279 : decode (zb 217) 279 = .ok (.iaload, 1) := by decide +kernel
theorem d217_280 : decode (zb 217) 280 = .ok (.aload_n 0, 1) := by decide +kernel
theorem d217_281 : decode (zb 217) 281 = .ok (.iload_n 3, 1) := by decide +kernel
theorem d217_282 : decode (zb 217) 282 = .ok (.iconst 2, 1) := by decide +kernel
theorem d217_283 : decode (zb 217) 283 = .ok (.iadd, 1) := by decide +kernel
theorem d217_284 : decode (zb 217) 284 = .ok (.iaload, 1) := by decide +kernel
theorem d217_285 : decode (zb 217) 285 = .ok (.invokevirtual 39, 3) := by decide +kernel
theorem d217_288 : decode (zb 217) 288 = .ok (.aload_n 2, 1) := by decide +kernel
theorem d217_289 : decode (zb 217) 289 = .ok (.aload_n 0, 1) := by decide +kernel
theorem d217_290 : decode (zb 217) 290 = .ok (.iload_n 3, 1) := by decide +kernel
theorem d217_291 : decode (zb 217) 291 = .ok (.iconst 1, 1) := by decide +kernel
theorem d217_292 : decode (zb 217) 292 = .ok (.iadd, 1) := by decide +kernel
theorem d217_293 : decode (zb 217) 293 = .ok (.iaload, 1) := by decide +kernel
theorem d217_294 : decode (zb 217) 294 = .ok (.aload_n 0, 1) := by decide +kernel
theorem d217_295 : decode (zb 217) 295 = .ok (.iload_n 3, 1) := by decide +kernel
theorem d217_296 : decode (zb 217) 296 = .ok (.iconst 2, 1) := by decide +kernel
theorem d217_297 : decode (zb 217) 297 = .ok (.iadd, 1) := by decide +kernel
theorem d217_298 : decode (zb 217) 298 = .ok (.iaload, 1) := by decide +kernel
theorem d217_299 : decode (zb 217) 299 = .ok (.invokevirtual 43, 3) := by decide +kernel
theorem d217_302 : decode (zb 217) 302 = .ok (.if_icmp .eq 555, 3) := by decide +kernel
theorem d217_307 : decode (zb 217) 307 = .ok (.aload_n 1, 1) := by decide +kernel
theorem d217_308 : decode (zb 217) 308 = .ok (.aload_n 0, 1) := by decide +kernel
theorem d217_309 : decode (zb 217) 309 = .ok (.iload_n 3, 1) := by decide +kernel
theorem d217_310 : decode (zb 217) 310 = .ok (.iconst 1, 1) := by decide +kernel
theorem d217_311 : decode (zb 217) 311 = .ok (.iadd, 1) := by decide +kernel
theorem d217_312 : decode (zb 217) 312 = .ok (.iaload, 1) := by decide +kernel
theorem d217_313 : decode (zb 217) 313 = .ok (.aload_n 0, 1) := by decide +kernel
theorem d217_314 : decode (zb 217) 314 = .ok (.iload_n 3, 1) := by decide +kernel
theorem d217_315 : decode (zb 217) 315 = .ok (.iconst 2, 1) := by decide +kernel
theorem d217_316 : decode (zb 217) 316 = .ok (.iadd, 1) := by decide +kernel
theorem d217_317 : decode (zb 217) 317 = .ok (.iaload, 1) := by decide +kernel
theorem d217_318 : decode (zb 217) 318 = .ok (.invokevirtual 44, 3) := by decide +kernel
theorem d217_321 : decode (zb 217) 321 = .ok (.aload_n 2, 1) := by decide +kernel
theorem d217_322 : decode (zb 217) 322 = .ok (.aload_n 0, 1) := by decide +kernel
theorem d217_323 : decode (zb 217) 323 = .ok (.iload_n 3, 1) := by decide +kernel
theorem d217_324 : decode (zb 217) 324 = .ok (.iconst 1, 1) := by decide +kernel
theorem d217_325 : decode (zb 217) 325 = .ok (.iadd, 1) := by decide +kernel
theorem d217_326 : decode (zb 217) 326 = .ok (.iaload, 1) := by decide +kernel
theorem d217_327 : decode (zb 217) 327 = .ok (.aload_n 0, 1) := by decide +kernel
theorem d217_328 : decode (zb 217) 328 = .ok (.iload_n 3, 1) := by decide +kernel
theorem d217_329 : decode (zb 217) 329 = .ok (.iconst 2, 1) := by decide +kernel
theorem d217_330 : decode (zb 217) 330 = .ok (.iadd, 1) := by decide +kernel
theorem d217_331 : decode (zb 217) 331 = .ok (.iaload, 1) := by decide +kernel
theorem d217_332 : decode (zb 217) 332 = .ok (.invokevirtual 47, 3) := by decide +kernel
theorem d217_335 : decode (zb 217) 335 = .ok (.if_icmp .eq 522, 3) := by decide +kernel
theorem d217_340 : decode (zb 217) 340 = .ok (.aload_n 1, 1) := by decide +kernel
theorem d217_341 : decode (zb 217) 341 = .ok (.aload_n 0, 1) := by decide +kernel
theorem d217_342 : decode (zb 217) 342 = .ok (.iload_n 3, 1) := by decide +kernel
theorem d217_343 : decode (zb 217) 343 = .ok (.iconst 1, 1) := by decide +kernel
theorem d217_344 : decode (zb 217) 344 = .ok (.iadd, 1) := by decide +kernel
theorem d217_345 : decode (zb 217) 345 = .ok (.iaload, 1) := by decide +kernel
theorem d217_346 : decode (zb 217) 346 = .ok (.invokevirtual 48, 3) := by decide +kernel
theorem d217_349 : decode (zb 217) 349 = .ok (.aload_n 2, 1) := by decide +kernel
theorem d217_350 : decode (zb 217) 350 = .ok (.aload_n 0, 1) := by decide +kernel
theorem d217_351 : decode (zb 217) 351 = .ok (.iload_n 3, 1) := by decide +kernel
theorem d217_352 : decode (zb 217) 352 = .ok (.iconst 1, 1) := by decide +kernel
theorem d217_353 : decode (zb 217) 353 = .ok (.iadd, 1) := by decide +kernel
theorem d217_354 : decode (zb 217) 354 = .ok (.iaload, 1) := by decide +kernel
theorem d217_355 : decode (zb 217) 355 = .ok (.invokevirtual 51, 3) := by decide +kernel
theorem d217_358 : decode (zb 217) 358 = .ok (.if_icmp .eq 499, 3) := by decide +kernel
theorem d217_363 : decode (zb 217) 363 = .ok (.aload_n 1, 1) := by decide +kernel
theorem d217_364 : decode (zb 217) 364 = .ok (.invokevirtual 52, 3) := by decide +kernel
theorem d217_367 : decode (zb 217) 367 = .ok (.aload_n 2, 1) := by decide +kernel
theorem d217_368 : decode (zb 217) 368 = .ok (.invokevirtual 55, 3) := by decide +kernel
theorem d217_371 : decode (zb 217) 371 = .ok (.if_icmp .eq 486, 3) := by decide +kernel
theorem d217_376 : decode (zb 217) 376 = .ok (.aload_n 1, 1) := by decide +kernel
theorem d217_377 : decode (zb 217) 377 = .ok (.aload_n 0, 1) := by decide +kernel
theorem d217_378 : decode (zb 217) 378 = .ok (.iload_n 3, 1) := by decide +kernel
theorem d217_379 : decode (zb 217) 379 = .ok (.iconst 1, 1) := by decide +kernel
theorem d217_380 : decode (zb 217) 380 = .ok (.iadd, 1) := by decide +kernel
theorem d217_381 : decode (zb 217) 381 = .ok (.iaload, 1) := by decide +kernel
theorem d217_382 : decode (zb 217) 382 = .ok (.invokevirtual 56, 3) := by decide +kernel
theorem d217_385 : decode (zb 217) 385 = .ok (.aload_n 2, 1) := by decide +kernel
theorem d217_386 : decode (zb 217) 386 = .ok (.aload_n 0, 1) := by decide +kernel
theorem d217_387 : decode (zb 217) 387 = .ok (.iload_n 3, 1) := by decide +kernel
theorem d217_388 : decode (zb 217) 388 = .ok (.iconst 1, 1) := by decide +kernel
theorem d217_389 : decode (zb 217) 389 = .ok (.iadd, 1) := by decide +kernel
theorem d217_390 : decode (zb 217) 390 = .ok (.iaload, 1) := by decide +kernel
theorem d217_391 : decode (zb 217) 391 = .ok (.invokevirtual 59, 3) := by decide +kernel
theorem d217_394 : decode (zb 217) 394 = .ok (.if_icmp .eq 463, 3) := by decide +kernel
theorem d217_399 : decode (zb 217) 399 = .ok (.aload_n 1, 1) := by decide +kernel
theorem d217_400 : decode (zb 217) 400 = .ok (.aload_n 0, 1) := by decide +kernel
theorem d217_401 : decode (zb 217) 401 = .ok (.iload_n 3, 1) := by decide +kernel
theorem d217_402 : decode (zb 217) 402 = .ok (.iconst 1, 1) := by decide +kernel
theorem d217_403 : decode (zb 217) 403 = .ok (.iadd, 1) := by decide +kernel
theorem d217_404 : decode (zb 217) 404 = .ok (.iaload, 1) := by decide +kernel
theorem d217_405 : decode (zb 217) 405 = .ok (.invokevirtual 60, 3) := by decide +kernel
theorem d217_408 : decode (zb 217) 408 = .ok (.aload_n 2, 1) := by decide +kernel
theorem d217_409 : decode (zb 217) 409 = .ok (.aload_n 0, 1) := by decide +kernel
theorem d217_410 : decode (zb 217) 410 = .ok (.iload_n 3, 1) := by decide +kernel
theorem d217_411 : decode (zb 217) 411 = .ok (.iconst 1, 1) := by decide +kernel
theorem d217_412 : decode (zb 217) 412 = .ok (.iadd, 1) := by decide +kernel
theorem d217_413 : decode (zb 217) 413 = .ok (.iaload, 1) := by decide +kernel
theorem d217_414 : decode (zb 217) 414 = .ok (.invokevirtual 63, 3) := by decide +kernel
theorem d217_417 : decode (zb 217) 417 = .ok (.if_icmp .eq 440, 3) := by decide +kernel
theorem d217_422 : decode (zb 217) 422 = .ok (.aload_n 1, 1) := by decide +kernel
theorem d217_423 : decode (zb 217) 423 = .ok (.aload_n 0, 1) := by decide +kernel
theorem d217_424 : decode (zb 217) 424 = .ok (.iload_n 3, 1) := by decide +kernel
theorem d217_425 : decode (zb 217) 425 = .ok (.iconst 1, 1) := by decide +kernel
theorem d217_426 : decode (zb 217) 426 = .ok (.iadd, 1) := by decide +kernel
theorem d217_427 : decode (zb 217) 427 = .ok (.iaload, 1) := by decide +kernel
theorem d217_428 : decode (zb 217) 428 = .ok (.invokevirtual 64, 3) := by decide +kernel
theorem d217_431 : decode (zb 217) 431 = .ok (.aload_n 2, 1) := by decide +kernel
theorem d217_432 : decode (zb 217) 432 = .ok (.aload_n 0, 1) := by decide +kernel
theorem d217_433 : decode (zb 217) 433 = .ok (.iload_n 3, 1) := by decide +kernel
theorem d217_434 : decode (zb 217) 434 = .ok (.iconst 1, 1) := by decide +kernel
theorem d217_435 : decode (zb 217) 435 = .ok (.iadd, 1) := by decide +kernel
theorem d217_436 : decode (zb 217) 436 = .ok (.iaload, 1) := by decide +kernel
theorem d217_437 : decode (zb 217) 437 = .ok (.invokevirtual 67, 3) := by decide +kernel
theorem d217_440 : decode (zb 217) 440 = .ok (.if_icmp .eq 417, 3) := by decide +kernel
theorem d217_445 : decode (zb 217) 445 = .ok (.aload_n 1, 1) := by decide +kernel
theorem d217_446 : decode (zb 217) 446 = .ok (.aload_n 0, 1) := by decide +kernel
theorem d217_447 : decode (zb 217) 447 = .ok (.iload_n 3, 1) := by decide +kernel
theorem d217_448 : decode (zb 217) 448 = .ok (.iconst 1, 1) := by decide +kernel
theorem d217_449 : decode (zb 217) 449 = .ok (.iadd, 1) := by decide +kernel
theorem d217_450 : decode (zb 217) 450 = .ok (.iaload, 1) := by decide +kernel
theorem d217_451 : decode (zb 217) 451 = .ok (.invokevirtual 68, 3) := by decide +kernel
theorem d217_454 : decode (zb 217) 454 = .ok (.aload_n 2, 1) := by decide +kernel
theorem d217_455 : decode (zb 217) 455 = .ok (.aload_n 0, 1) := by decide +kernel
theorem d217_456 : decode (zb 217) 456 = .ok (.iload_n 3, 1) := by decide +kernel
theorem d217_457 : decode (zb 217) 457 = .ok (.iconst 1, 1) := by decide +kernel
theorem d217_458 : decode (zb 217) 458 = .ok (.iadd, 1) := by decide +kernel
theorem d217_459 : decode (zb 217) 459 = .ok (.iaload, 1) := by decide +kernel
theorem d217_460 : decode (zb 217) 460 = .ok (.invokevirtual 71, 3) := by decide +kernel
theorem d217_463 : decode (zb 217) 463 = .ok (.if_icmp .eq 394, 3) := by decide +kernel
theorem d217_468 : decode (zb 217) 468 = .ok (.aload_n 1, 1) := by decide +kernel
theorem d217_469 : decode (zb 217) 469 = .ok (.aload_n 0, 1) := by decide +kernel
theorem d217_470 : decode (zb 217) 470 = .ok (.iload_n 3, 1) := by decide +kernel
theorem d217_471 : decode (zb 217) 471 = .ok (.iconst 1, 1) := by decide +kernel
theorem d217_472 : decode (zb 217) 472 = .ok (.iadd, 1) := by decide +kernel
theorem d217_473 : decode (zb 217) 473 = .ok (.iaload, 1) := by decide +kernel
theorem d217_474 : decode (zb 217) 474 = .ok (.aload_n 0, 1) := by decide +kernel
theorem d217_475 : decode (zb 217) 475 = .ok (.iload_n 3, 1) := by decide +kernel
theorem d217_476 : decode (zb 217) 476 = .ok (.iconst 2, 1) := by decide +kernel
theorem d217_477 : decode (zb 217) 477 = .ok (.iadd, 1) := by decide +kernel
theorem d217_478 : decode (zb 217) 478 = .ok (.iaload, 1) := by decide +kernel
theorem d217_479 : decode (zb 217) 479 = .ok (.invokevirtual 72, 3) := by decide +kernel
theorem d217_482 : decode (zb 217) 482 = .ok (.aload_n 2, 1) := by decide +kernel
theorem d217_483 : decode (zb 217) 483 = .ok (.aload_n 0, 1) := by decide +kernel
theorem d217_484 : decode (zb 217) 484 = .ok (.iload_n 3, 1) := by decide +kernel
theorem d217_485 : decode (zb 217) 485 = .ok (.iconst 1, 1) := by decide +kernel
theorem d217_486 : decode (zb 217) 486 = .ok (.iadd, 1) := by decide +kernel
theorem d217_487 : decode (zb 217) 487 = .ok (.iaload, 1) := by decide +kernel
theorem d217_488 : decode (zb 217) 488 = .ok (.aload_n 0, 1) := by decide +kernel
theorem d217_489 : decode (zb 217) 489 = .ok (.iload_n 3, 1) := by decide +kernel
theorem d217_490 : decode (zb 217) 490 = .ok (.iconst 2, 1) := by decide +kernel
theorem d217_491 : decode (zb 217) 491 = .ok (.iadd, 1) := by decide +kernel
theorem d217_492 : decode (zb 217) 492 = .ok (.iaload, 1) := by decide +kernel
theorem d217_493 : decode (zb 217) 493 = .ok (.invokevirtual 75, 3) := by decide +kernel
theorem d217_496 : decode (zb 217) 496 = .ok (.if_icmp .eq 361, 3) := by decide +kernel
theorem d217_501 : decode (zb 217) 501 = .ok (.aload_n 1, 1) := by decide +kernel
theorem d217_502 : decode (zb 217) 502 = .ok (.aload_n 0, 1) := by decide +kernel
theorem d217_503 : decode (zb 217) 503 = .ok (.iload_n 3, 1) := by decide +kernel
theorem d217_504 : decode (zb 217) 504 = .ok (.iconst 1, 1) := by decide +kernel
theorem d217_505 : decode (zb 217) 505 = .ok (.iadd, 1) := by decide +kernel
theorem d217_506 : decode (zb 217) 506 = .ok (.iaload, 1) := by decide +kernel
theorem d217_507 : decode (zb 217) 507 = .ok (.aload_n 0, 1) := by decide +kernel
theorem d217_508 : decode (zb 217) 508 = .ok (.iload_n 3, 1) := by decide +kernel
theorem d217_509 : decode (zb 217) 509 = .ok (.iconst 2, 1) := by decide +kernel
theorem d217_510 : decode (zb 217) 510 = .ok (.iadd, 1) := by decide +kernel
theorem d217_511 : decode (zb 217) 511 = .ok (.iaload, 1) := by decide +kernel
theorem d217_512 : decode (zb 217) 512 = .ok (.invokevirtual 76, 3) := by decide +kernel
theorem d217_515 : decode (zb 217) 515 = .ok (.aload_n 2, 1) := by decide +kernel
theorem d217_516 : decode (zb 217) 516 = .ok (.aload_n 0, 1) := by decide +kernel
theorem d217_517 : decode (zb 217) 517 = .ok (.iload_n 3, 1) := by decide +kernel
theorem d217_518 : decode (zb 217) 518 = .ok (.iconst 1, 1) := by decide +kernel
theorem d217_519 : decode (zb 217) 519 = .ok (.iadd, 1) := by decide +kernel
theorem d217_520 : decode (zb 217) 520 = .ok (.iaload, 1) := by decide +kernel
theorem d217_521 : decode (zb 217) 521 = .ok (.aload_n 0, 1) := by decide +kernel
theorem d217_522 : decode (zb 217) 522 = .ok (.iload_n 3, 1) := by decide +kernel
theorem d217_523 : decode (zb 217) 523 = .ok (.iconst 2, 1) := by decide +kernel
theorem d217_524 : decode (zb 217) 524 = .ok (.iadd, 1) := by decide +kernel
theorem d217_525 : decode (zb 217) 525 = .ok (.iaload, 1) := by decide +kernel
theorem d217_526 : decode (zb 217) 526 = .ok (.invokevirtual 79, 3) := by decide +kernel
theorem d217_529 : decode (zb 217) 529 = .ok (.if_icmp .eq 328, 3) := by decide +kernel
theorem d217_534 : decode (zb 217) 534 = .ok (.aload_n 1, 1) := by decide +kernel
theorem d217_535 : decode (zb 217) 535 = .ok (.aload_n 0, 1) := by decide +kernel
theorem d217_536 : decode (zb 217) 536 = .ok (.iload_n 3, 1) := by decide +kernel
theorem d217_537 : decode (zb 217) 537 = .ok (.iconst 1, 1) := by decide +kernel
theorem d217_538 : decode (zb 217) 538 = .ok (.iadd, 1) := by decide +kernel
theorem d217_539 : decode (zb 217) 539 = .ok (.iaload, 1) := by decide +kernel
theorem d217_540 : decode (zb 217) 540 = .ok (.invokevirtual 80, 3) := by decide +kernel
theorem d217_543 : decode (zb 217) 543 = .ok (.aload_n 2, 1) := by decide +kernel
theorem d217_544 : decode (zb 217) 544 = .ok (.aload_n 0, 1) := by decide +kernel
theorem d217_545 : decode (zb 217) 545 = .ok (.iload_n 3, 1) := by decide +kernel
theorem d217_546 : decode (zb 217) 546 = .ok (.iconst 1, 1) := by decide +kernel
theorem d217_547 : decode (zb 217) 547 = .ok (.iadd, 1) := by decide +kernel
theorem d217_548 : decode (zb 217) 548 = .ok (.iaload, 1) := by decide +kernel
theorem d217_549 : decode (zb 217) 549 = .ok (.invokevirtual 83, 3) := by decide +kernel
theorem d217_552 : decode (zb 217) 552 = .ok (.if_icmp .eq 305, 3) := by decide +kernel
theorem d217_557 : decode (zb 217) 557 = .ok (.aload_n 1, 1) := by decide +kernel
theorem d217_558 : decode (zb 217) 558 = .ok (.aload_n 0, 1) := by decide +kernel
theorem d217_559 : decode (zb 217) 559 = .ok (.iload_n 3, 1) := by decide +kernel
theorem d217_560 : decode (zb 217) 560 = .ok (.iconst 1, 1) := by decide +kernel
theorem d217_561 : decode (zb 217) 561 = .ok (.iadd, 1) := by decide +kernel
theorem d217_562 : decode (zb 217) 562 = .ok (.iaload, 1) := by decide +kernel
theorem d217_563 : decode (zb 217) 563 = .ok (.aload_n 0, 1) := by decide +kernel
theorem d217_564 : decode (zb 217) 564 = .ok (.iload_n 3, 1) := by decide +kernel
theorem d217_565 : decode (zb 217) 565 = .ok (.iconst 2, 1) := by decide +kernel
theorem d217_566 : decode (zb 217) 566 = .ok (.iadd, 1) := by decide +kernel
theorem d217_567 : decode (zb 217) 567 = .ok (.iaload, 1) := by decide +kernel
theorem d217_568 : decode (zb 217) 568 = .ok (.invokevirtual 84, 3) := by decide +kernel
theorem d217_571 : decode (zb 217) 571 = .ok (.aload_n 2, 1) := by decide +kernel
theorem d217_572 : decode (zb 217) 572 = .ok (.aload_n 0, 1) := by decide +kernel
theorem d217_573 : decode (zb 217) 573 = .ok (.iload_n 3, 1) := by decide +kernel
theorem d217_574 : decode (zb 217) 574 = .ok (.iconst 1, 1) := by decide +kernel
theorem d217_575 : decode (zb 217) 575 = .ok (.iadd, 1) := by decide +kernel
theorem d217_576 : decode (zb 217) 576 = .ok (.iaload, 1) := by decide +kernel
theorem d217_577 : decode (zb 217) 577 = .ok (.aload_n 0, 1) := by decide +kernel
theorem d217_578 : decode (zb 217) 578 = .ok (.iload_n 3, 1) := by decide +kernel
theorem d217_579 : decode (zb 217) 579 = .ok (.iconst 2, 1) := by decide +kernel
theorem d217_580 : decode (zb 217) 580 = .ok (.iadd, 1) := by decide +kernel
theorem d217_581 : decode (zb 217) 581 = .ok (.iaload, 1) := by decide +kernel
theorem d217_582 : decode (zb 217) 582 = .ok (.invokevirtual 87, 3) := by decide +kernel
theorem d217_585 : decode (zb 217) 585 = .ok (.if_icmp .eq 272, 3) := by decide +kernel
theorem d217_590 : decode (zb 217) 590 = .ok (.aload_n 1, 1) := by decide +kernel
theorem d217_591 : decode (zb 217) 591 = .ok (.invokevirtual 88, 3) := by decide +kernel
theorem d217_594 : decode (zb 217) 594 = .ok (.aload_n 2, 1) := by decide +kernel
theorem d217_595 : decode (zb 217) 595 = .ok (.invokevirtual 91, 3) := by decide +kernel
theorem d217_598 : decode (zb 217) 598 = .ok (.if_icmp .eq 259, 3) := by decide +kernel
theorem d217_603 : decode (zb 217) 603 = .ok (.aload_n 1, 1) := by decide +kernel
theorem d217_604 : decode (zb 217) 604 = .ok (.aload_n 0, 1) := by decide +kernel
theorem d217_605 : decode (zb 217) 605 = .ok (.iload_n 3, 1) := by decide +kernel
theorem d217_606 : decode (zb 217) 606 = .ok (.iconst 1, 1) := by decide +kernel
theorem d217_607 : decode (zb 217) 607 = .ok (.iadd, 1) := by decide +kernel
theorem d217_608 : decode (zb 217) 608 = .ok (.iaload, 1) := by decide +kernel
theorem d217_609 : decode (zb 217) 609 = .ok (.aload_n 0, 1) := by decide +kernel
theorem d217_610 : decode (zb 217) 610 = .ok (.iload_n 3, 1) := by decide +kernel
theorem d217_611 : decode (zb 217) 611 = .ok (.iconst 2, 1) := by decide +kernel
theorem d217_612 : decode (zb 217) 612 = .ok (.iadd, 1) := by decide +kernel
theorem d217_613 : decode (zb 217) 613 = .ok (.iaload, 1) := by decide +kernel
theorem d217_614 : decode (zb 217) 614 = .ok (.invokevirtual 92, 3) := by decide +kernel
theorem d217_617 : decode (zb 217) 617 = .ok (.aload_n 2, 1) := by decide +kernel
theorem d217_618 : decode (zb 217) 618 = .ok (.aload_n 0, 1) := by decide +kernel
theorem d217_619 : decode (zb 217) 619 = .ok (.iload_n 3, 1) := by decide +kernel
theorem d217_620 : decode (zb 217) 620 = .ok (.iconst 1, 1) := by decide +kernel
theorem d217_621 : decode (zb 217) 621 = .ok (.iadd, 1) := by decide +kernel
theorem d217_622 : decode (zb 217) 622 = .ok (.iaload, 1) := by decide +kernel
theorem d217_623 : decode (zb 217) 623 = .ok (.aload_n 0, 1) := by decide +kernel
theorem d217_624 : decode (zb 217) 624 = .ok (.iload_n 3, 1) := by decide +kernel
theorem d217_625 : decode (zb 217) 625 = .ok (.iconst 2, 1) := by decide +kernel
theorem d217_626 : decode (zb 217) 626 = .ok (.iadd, 1) := by decide +kernel
theorem d217_627 : decode (zb 217) 627 = .ok (.iaload, 1) := by decide +kernel
theorem d217_628 : decode (zb 217) 628 = .ok (.invokevirtual 95, 3) := by decide +kernel
theorem d217_631 : decode (zb 217) 631 = .ok (.if_icmp .eq 226, 3) := by decide +kernel
theorem d217_636 : decode (zb 217) 636 = .ok (.aload_n 1, 1) := by decide +kernel
theorem d217_637 : decode (zb 217) 637 = .ok (.aload_n 0, 1) := by decide +kernel
theorem d217_638 : decode (zb 217) 638 = .ok (.iload_n 3, 1) := by decide +kernel
theorem d217_639 : decode (zb 217) 639 = .ok (.iconst 1, 1) := by decide +kernel
theorem d217_640 : decode (zb 217) 640 = .ok (.iadd, 1) := by decide +kernel
theorem d217_641 : decode (zb 217) 641 = .ok (.iaload, 1) := by decide +kernel
theorem d217_642 : decode (zb 217) 642 = .ok (.invokevirtual 96, 3) := by decide +kernel
theorem d217_645 : decode (zb 217) 645 = .ok (.aload_n 2, 1) := by decide +kernel
theorem d217_646 : decode (zb 217) 646 = .ok (.aload_n 0, 1) := by decide +kernel
theorem d217_647 : decode (zb 217) 647 = .ok (.iload_n 3, 1) := by decide +kernel
theorem d217_648 : decode (zb 217) 648 = .ok (.iconst 1, 1) := by decide +kernel
theorem d217_649 : decode (zb 217) 649 = .ok (.iadd, 1) := by decide +kernel
theorem d217_650 : decode (zb 217) 650 = .ok (.iaload, 1) := by decide +kernel
theorem d217_651 : decode (zb 217) 651 = .ok (.invokevirtual 99, 3) := by decide +kernel
theorem d217_654 : decode (zb 217) 654 = .ok (.if_icmp .eq 203, 3) := by decide +kernel
theorem d217_659 : decode (zb 217) 659 = .ok (.aload_n 1, 1) := by decide +kernel
theorem d217_660 : decode (zb 217) 660 = .ok (.aload_n 0, 1) := by decide +kernel
theorem d217_661 : decode (zb 217) 661 = .ok (.iload_n 3, 1) := by decide +kernel
theorem d217_662 : decode (zb 217) 662 = .ok (.iconst 1, 1) := by decide +kernel
theorem d217_663 : decode (zb 217) 663 = .ok (.iadd, 1) := by decide +kernel
theorem d217_664 : decode (zb 217) 664 = .ok (.iaload, 1) := by decide +kernel
theorem d217_665 : decode (zb 217) 665 = .ok (.invokevirtual 100, 3) := by decide +kernel
theorem d217_668 : decode (zb 217) 668 = .ok (.aload_n 2, 1) := by decide +kernel
theorem d217_669 : decode (zb 217) 669 = .ok (.aload_n 0, 1) := by decide +kernel
theorem d217_670 : decode (zb 217) 670 = .ok (.iload_n 3, 1) := by decide +kernel
theorem d217_671 : decode (zb 217) 671 = .ok (.iconst 1, 1) := by decide +kernel
theorem d217_672 : decode (zb 217) 672 = .ok (.iadd, 1) := by decide +kernel
theorem d217_673 : decode (zb 217) 673 = .ok (.iaload, 1) := by decide +kernel
theorem d217_674 : decode (zb 217) 674 = .ok (.invokevirtual 103, 3) := by decide +kernel
theorem d217_677 : decode (zb 217) 677 = .ok (.if_icmp .eq 180, 3) := by decide +kernel
theorem d217_682 : decode (zb 217) 682 = .ok (.aload_n 1, 1) := by decide +kernel
theorem d217_683 : decode (zb 217) 683 = .ok (.aload_n 0, 1) := by decide +kernel
theorem d217_684 : decode (zb 217) 684 = .ok (.iload_n 3, 1) := by decide +kernel
theorem d217_685 : decode (zb 217) 685 = .ok (.iconst 1, 1) := by decide +kernel
theorem d217_686 : decode (zb 217) 686 = .ok (.iadd, 1) := by decide +kernel
theorem d217_687 : decode (zb 217) 687 = .ok (.iaload, 1) := by decide +kernel
theorem d217_688 : decode (zb 217) 688 = .ok (.aload_n 0, 1) := by decide +kernel
theorem d217_689 : decode (zb 217) 689 = .ok (.iload_n 3, 1) := by decide +kernel
theorem d217_690 : decode (zb 217) 690 = .ok (.iconst 2, 1) := by decide +kernel
theorem d217_691 : decode (zb 217) 691 = .ok (.iadd, 1) := by decide +kernel
theorem d217_692 : decode (zb 217) 692 = .ok (.iaload, 1) := by decide +kernel
theorem d217_693 : decode (zb 217) 693 = .ok (.aload_n 0, 1) := by decide +kernel
theorem d217_694 : decode (zb 217) 694 = .ok (.iload_n 3, 1) := by decide +kernel
theorem d217_695 : decode (zb 217) 695 = .ok (.iconst 3, 1) := by decide +kernel
theorem d217_696 : decode (zb 217) 696 = .ok (.iadd, 1) := by decide +kernel
theorem d217_697 : decode (zb 217) 697 = .ok (.iaload, 1) := by decide +kernel
theorem d217_698 : decode (zb 217) 698 = .ok (.invokevirtual 104, 3) := by decide +kernel
theorem d217_701 : decode (zb 217) 701 = .ok (.aload_n 2, 1) := by decide +kernel
theorem d217_702 : decode (zb 217) 702 = .ok (.aload_n 0, 1) := by decide +kernel
theorem d217_703 : decode (zb 217) 703 = .ok (.iload_n 3, 1) := by decide +kernel
theorem d217_704 : decode (zb 217) 704 = .ok (.iconst 1, 1) := by decide +kernel
theorem d217_705 : decode (zb 217) 705 = .ok (.iadd, 1) := by decide +kernel
theorem d217_706 : decode (zb 217) 706 = .ok (.iaload, 1) := by decide +kernel
theorem d217_707 : decode (zb 217) 707 = .ok (.aload_n 0, 1) := by decide +kernel
theorem d217_708 : decode (zb 217) 708 = .ok (.iload_n 3, 1) := by decide +kernel
theorem d217_709 : decode (zb 217) 709 = .ok (.iconst 2, 1) := by decide +kernel
theorem d217_710 : decode (zb 217) 710 = .ok (.iadd, 1) := by decide +kernel
theorem d217_711 : decode (zb 217) 711 = .ok (.iaload, 1) := by decide +kernel
theorem d217_712 : decode (zb 217) 712 = .ok (.aload_n 0, 1) := by decide +kernel
theorem d217_713 : decode (zb 217) 713 = .ok (.iload_n 3, 1) := by decide +kernel
theorem d217_714 : decode (zb 217) 714 = .ok (.iconst 3, 1) := by decide +kernel
theorem d217_715 : decode (zb 217) 715 = .ok (.iadd, 1) := by decide +kernel
theorem d217_716 : decode (zb 217) 716 = .ok (.iaload, 1) := by decide +kernel
theorem d217_717 : decode (zb 217) 717 = .ok (.invokevirtual 108, 3) := by decide +kernel
theorem d217_720 : decode (zb 217) 720 = .ok (.if_icmp .eq 137, 3) := by decide +kernel
theorem d217_725 : decode (zb 217) 725 = .ok (.aload_n 1, 1) := by decide +kernel
theorem d217_726 : decode (zb 217) 726 = .ok (.aload_n 0, 1) := by decide +kernel
theorem d217_727 : decode (zb 217) 727 = .ok (.iload_n 3, 1) := by decide +kernel
theorem d217_728 : decode (zb 217) 728 = .ok (.iconst 1, 1) := by decide +kernel
theorem d217_729 : decode (zb 217) 729 = .ok (.iadd, 1) := by decide +kernel
theorem d217_730 : decode (zb 217) 730 = .ok (.iaload, 1) := by decide +kernel
theorem d217_731 : decode (zb 217) 731 = .ok (.aload_n 0, 1) := by decide +kernel
theorem d217_732 : decode (zb 217) 732 = .ok (.iload_n 3, 1) := by decide +kernel
theorem d217_733 : decode (zb 217) 733 = .ok (.iconst 2, 1) := by decide +kernel
theorem d217_734 : decode (zb 217) 734 = .ok (.iadd, 1) := by decide +kernel
theorem d217_735 : decode (zb 217) 735 = .ok (.iaload, 1) := by decide +kernel
theorem d217_736 : decode (zb 217) 736 = .ok (.aload_n 0, 1) := by decide +kernel
theorem d217_737 : decode (zb 217) 737 = .ok (.iload_n 3, 1) := by decide +kernel
theorem d217_738 : decode (zb 217) 738 = .ok (.iconst 3, 1) := by decide +kernel
theorem d217_739 : decode (zb 217) 739 = .ok (.iadd, 1) := by decide +kernel
theorem d217_740 : decode (zb 217) 740 = .ok (.iaload, 1) := by decide +kernel
theorem d217_741 : decode (zb 217) 741 = .ok (.invokevirtual 109, 3) := by decide +kernel
theorem d217_744 : decode (zb 217) 744 = .ok (.aload_n 2, 1) := by decide +kernel
theorem d217_745 : decode (zb 217) 745 = .ok (.aload_n 0, 1) := by decide +kernel
theorem d217_746 : decode (zb 217) 746 = .ok (.iload_n 3, 1) := by decide +kernel
theorem d217_747 : decode (zb 217) 747 = .ok (.iconst 1, 1) := by decide +kernel
theorem d217_748 : decode (zb 217) 748 = .ok (.iadd, 1) := by decide +kernel
theorem d217_749 : decode (zb 217) 749 = .ok (.iaload, 1) := by decide +kernel
theorem d217_750 : decode (zb 217) 750 = .ok (.aload_n 0, 1) := by decide +kernel
theorem d217_751 : decode (zb 217) 751 = .ok (.iload_n 3, 1) := by decide +kernel
theorem d217_752 : decode (zb 217) 752 = .ok (.iconst 2, 1) := by decide +kernel
theorem d217_753 : decode (zb 217) 753 = .ok (.iadd, 1) := by decide +kernel
theorem d217_754 : decode (zb 217) 754 = .ok (.iaload, 1) := by decide +kernel
theorem d217_755 : decode (zb 217) 755 = .ok (.aload_n 0, 1) := by decide +kernel
theorem d217_756 : decode (zb 217) 756 = .ok (.iload_n 3, 1) := by decide +kernel
theorem d217_757 : decode (zb 217) 757 = .ok (.iconst 3, 1) := by decide +kernel
theorem d217_758 : decode (zb 217) 758 = .ok (.iadd, 1) := by decide +kernel
theorem d217_759 : decode (zb 217) 759 = .ok (.iaload, 1) := by decide +kernel
theorem d217_760 : decode (zb 217) 760 = .ok (.invokevirtual 112, 3) := by decide +kernel
theorem d217_763 : decode (zb 217) 763 = .ok (.if_icmp .eq 94, 3) := by decide +kernel
theorem d217_768 : decode (zb 217) 768 = .ok (.aload_n 1, 1) := by decide +kernel
theorem d217_769 : decode (zb 217) 769 = .ok (.aload_n 0, 1) := by decide +kernel
theorem d217_770 : decode (zb 217) 770 = .ok (.iload_n 3, 1) := by decide +kernel
theorem d217_771 : decode (zb 217) 771 = .ok (.iconst 1, 1) := by decide +kernel
theorem d217_772 : decode (zb 217) 772 = .ok (.iadd, 1) := by decide +kernel
theorem d217_773 : decode (zb 217) 773 = .ok (.iaload, 1) := by decide +kernel
theorem d217_774 : decode (zb 217) 774 = .ok (.aload_n 0, 1) := by decide +kernel
theorem d217_775 : decode (zb 217) 775 = .ok (.iload_n 3, 1) := by decide +kernel
theorem d217_776 : decode (zb 217) 776 = .ok (.iconst 2, 1) := by decide +kernel
theorem d217_777 : decode (zb 217) 777 = .ok (.iadd, 1) := by decide +kernel
theorem d217_778 : decode (zb 217) 778 = .ok (.iaload, 1) := by decide +kernel
theorem d217_779 : decode (zb 217) 779 = .ok (.aload_n 0, 1) := by decide +kernel
theorem d217_780 : decode (zb 217) 780 = .ok (.iload_n 3, 1) := by decide +kernel
theorem d217_781 : decode (zb 217) 781 = .ok (.iconst 3, 1) := by decide +kernel
theorem d217_782 : decode (zb 217) 782 = .ok (.iadd, 1) := by decide +kernel
theorem d217_783 : decode (zb 217) 783 = .ok (.iaload, 1) := by decide +kernel
theorem d217_784 : decode (zb 217) 784 = .ok (.aload_n 0, 1) := by decide +kernel
theorem d217_785 : decode (zb 217) 785 = .ok (.iload_n 3, 1) := by decide +kernel
theorem d217_786 : decode (zb 217) 786 = .ok (.iconst 4, 1) := by decide +kernel
theorem d217_787 : decode (zb 217) 787 = .ok (.iadd, 1) := by decide +kernel
theorem d217_788 : decode (zb 217) 788 = .ok (.iaload, 1) := by decide +kernel
theorem d217_789 : decode (zb 217) 789 = .ok (.invokevirtual 113, 3) := by decide +kernel
theorem d217_792 : decode (zb 217) 792 = .ok (.aload_n 2, 1) := by decide +kernel
theorem d217_793 : decode (zb 217) 793 = .ok (.aload_n 0, 1) := by decide +kernel
theorem d217_794 : decode (zb 217) 794 = .ok (.iload_n 3, 1) := by decide +kernel
theorem d217_795 : decode (zb 217) 795 = .ok (.iconst 1, 1) := by decide +kernel
theorem d217_796 : decode (zb 217) 796 = .ok (.iadd, 1) := by decide +kernel
theorem d217_797 : decode (zb 217) 797 = .ok (.iaload, 1) := by decide +kernel
theorem d217_798 : decode (zb 217) 798 = .ok (.aload_n 0, 1) := by decide +kernel
theorem d217_799 : decode (zb 217) 799 = .ok (.iload_n 3, 1) := by decide +kernel
theorem d217_800 : decode (zb 217) 800 = .ok (.iconst 2, 1) := by decide +kernel
theorem d217_801 : decode (zb 217) 801 = .ok (.iadd, 1) := by decide +kernel
theorem d217_802 : decode (zb 217) 802 = .ok (.iaload, 1) := by decide +kernel
theorem d217_803 : decode (zb 217) 803 = .ok (.aload_n 0, 1) := by decide +kernel
theorem d217_804 : decode (zb 217) 804 = .ok (.iload_n 3, 1) := by decide +kernel
theorem d217_805 : decode (zb 217) 805 = .ok (.iconst 3, 1) := by decide +kernel
theorem d217_806 : decode (zb 217) 806 = .ok (.iadd, 1) := by decide +kernel
theorem d217_807 : decode (zb 217) 807 = .ok (.iaload, 1) := by decide +kernel
theorem d217_808 : decode (zb 217) 808 = .ok (.aload_n 0, 1) := by decide +kernel
theorem d217_809 : decode (zb 217) 809 = .ok (.iload_n 3, 1) := by decide +kernel
theorem d217_810 : decode (zb 217) 810 = .ok (.iconst 4, 1) := by decide +kernel
theorem d217_811 : decode (zb 217) 811 = .ok (.iadd, 1) := by decide +kernel
theorem d217_812 : decode (zb 217) 812 = .ok (.iaload, 1) := by decide +kernel
theorem d217_813 : decode (zb 217) 813 = .ok (.invokevirtual 117, 3) := by decide +kernel
theorem d217_816 : decode (zb 217) 816 = .ok (.if_icmp .eq 41, 3) := by decide +kernel
theorem d217_821 : decode (zb 217) 821 = .ok (.aload_n 1, 1) := by decide +kernel
theorem d217_822 : decode (zb 217) 822 = .ok (.invokevirtual 118, 3) := by decide +kernel
theorem d217_825 : decode (zb 217) 825 = .ok (.aload_n 2, 1) := by decide +kernel
theorem d217_826 : decode (zb 217) 826 = .ok (.invokevirtual 121, 3) := by decide +kernel
theorem d217_829 : decode (zb 217) 829 = .ok (.if_icmp .eq 28, 3) := by decide +kernel
theorem d217_834 : decode (zb 217) 834 = .ok (.aload_n 1, 1) := by decide +kernel
theorem d217_835 : decode (zb 217) 835 = .ok (.aload_n 0, 1) := by decide +kernel
theorem d217_836 : decode (zb 217) 836 = .ok (.iload_n 3, 1) := by decide +kernel
theorem d217_837 : decode (zb 217) 837 = .ok (.iconst 1, 1) := by decide +kernel
theorem d217_838 : decode (zb 217) 838 = .ok (.iadd, 1) := by decide +kernel
theorem d217_839 : decode (zb 217) 839 = .ok (.iaload, 1) := by decide +kernel
theorem d217_840 : decode (zb 217) 840 = .ok (.invokevirtual 122, 3) := by decide +kernel
theorem d217_843 : decode (zb 217) 843 = .ok (.aload_n 2, 1) := by decide +kernel
theorem d217_844 : decode (zb 217) 844 = .ok (.aload_n 0, 1) := by decide +kernel
theorem d217_845 : decode (zb 217) 845 = .ok (.iload_n 3, 1) := by decide +kernel
theorem d217_846 : decode (zb 217) 846 = .ok (.iconst 1, 1) := by decide +kernel
theorem d217_847 : decode (zb 217) 847 = .ok (.iadd, 1) := by decide +kernel
theorem d217_848 : decode (zb 217) 848 = .ok (.iaload, 1) := by decide +kernel
theorem d217_849 : decode (zb 217) 849 = .ok (.invokevirtual 125, 3) := by decide +kernel
theorem d217_852 : decode (zb 217) 852 = .ok (.if_icmp .eq 5, 3) := by decide +kernel
theorem d217_857 : decode (zb 217) 857 = .ok (.iinc 3 5, 3) := by decide +kernel
theorem d217_860 : decode (zb 217) 860 = .ok (.goto (-842), 3) := by decide +kernel
theorem d217_863 : decode (zb 217) 863 = .ok (.iconst 1, 1) := by decide +kernel
theorem d217_864 : decode (zb 217) 864 = .ok (.ireturn, 1) := by decide +kernel
