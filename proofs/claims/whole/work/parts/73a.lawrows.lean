/-! the law's rows -/
theorem dl_0 : decode code 0 = .ok (.new 7, 3) := by decide +kernel
theorem dl_3 : decode code 3 = .ok (.dup, 1) := by decide +kernel
theorem dl_4 : decode code 4 = .ok (.invokespecial 9, 3) := by decide +kernel
theorem dl_7 : decode code 7 = .ok (.astore_n 1, 1) := by decide +kernel
theorem dl_8 : decode code 8 = .ok (.new 10, 3) := by decide +kernel
theorem dl_11 : decode code 11 = .ok (.dup, 1) := by decide +kernel
theorem dl_12 : decode code 12 = .ok (.invokespecial 12, 3) := by decide +kernel
theorem dl_15 : decode code 15 = .ok (.astore_n 2, 1) := by decide +kernel
theorem dl_16 : decode code 16 = .ok (.iconst 0, 1) := by decide +kernel
theorem dl_17 : decode code 17 = .ok (.istore_n 3, 1) := by decide +kernel
theorem dl_18 : decode code 18 = .ok (.iload_n 3, 1) := by decide +kernel
theorem dl_19 : decode code 19 = .ok (.aload_n 0, 1) := by decide +kernel
theorem dl_20 : decode code 20 = .ok (.arraylength, 1) := by decide +kernel
theorem dl_21 : decode code 21 = .ok (.iconst 5, 1) := by decide +kernel
theorem dl_22 : decode code 22 = .ok (.isub, 1) := by decide +kernel
theorem dl_23 : decode code 23 = .ok (.if_icmp .gt 867, 3) := by decide +kernel
theorem dl_26 : decode code 26 = .ok (.aload_n 0, 1) := by decide +kernel
theorem dl_27 : decode code 27 = .ok (.iload_n 3, 1) := by decide +kernel
theorem dl_28 : decode code 28 = .ok (.iaload, 1) := by decide +kernel
theorem dl_29 : decode code 29 = .ok (.bipush 31, 2) := by decide +kernel
theorem dl_31 : decode code 31 = .ok (.iand, 1) := by decide +kernel
theorem dl_32 : decode code 32 = .ok (.tableswitch 852 0 27 #[128, 151, 164, 177, 190, 213, 246, 289, 322, 345, 378, 411, 424, 467, 490, 533, 556, 579, 602, 615, 658, 671, 684, 707, 760, 803, 816, 829], 128) := by decide +kernel
theorem dl_160 : decode code 160 = .ok (.aload_n 1, 1) := by decide +kernel
theorem dl_161 : decode code 161 = .ok (.aload_n 0, 1) := by decide +kernel
theorem dl_162 : decode code 162 = .ok (.iload_n 3, 1) := by decide +kernel
theorem dl_163 : decode code 163 = .ok (.iconst 1, 1) := by decide +kernel
theorem dl_164 : decode code 164 = .ok (.iadd, 1) := by decide +kernel
theorem dl_165 : decode code 165 = .ok (.iaload, 1) := by decide +kernel
theorem dl_166 : decode code 166 = .ok (.invokevirtual 13, 3) := by decide +kernel
theorem dl_169 : decode code 169 = .ok (.aload_n 2, 1) := by decide +kernel
theorem dl_170 : decode code 170 = .ok (.aload_n 0, 1) := by decide +kernel
theorem dl_171 : decode code 171 = .ok (.iload_n 3, 1) := by decide +kernel
theorem dl_172 : decode code 172 = .ok (.iconst 1, 1) := by decide +kernel
theorem dl_173 : decode code 173 = .ok (.iadd, 1) := by decide +kernel
theorem dl_174 : decode code 174 = .ok (.iaload, 1) := by decide +kernel
theorem dl_175 : decode code 175 = .ok (.invokevirtual 17, 3) := by decide +kernel
theorem dl_178 : decode code 178 = .ok (.if_icmp .eq 706, 3) := by decide +kernel
theorem dl_181 : decode code 181 = .ok (.iconst 0, 1) := by decide +kernel
theorem dl_182 : decode code 182 = .ok (.ireturn, 1) := by decide +kernel
theorem dl_183 : decode code 183 = .ok (.aload_n 1, 1) := by decide +kernel
theorem dl_184 : decode code 184 = .ok (.invokevirtual 18, 3) := by decide +kernel
theorem dl_187 : decode code 187 = .ok (.aload_n 2, 1) := by decide +kernel
theorem dl_188 : decode code 188 = .ok (.invokevirtual 22, 3) := by decide +kernel
theorem dl_191 : decode code 191 = .ok (.if_icmp .eq 693, 3) := by decide +kernel
theorem dl_194 : decode code 194 = .ok (.iconst 0, 1) := by decide +kernel
theorem dl_195 : decode code 195 = .ok (.ireturn, 1) := by decide +kernel
theorem dl_196 : decode code 196 = .ok (.aload_n 1, 1) := by decide +kernel
theorem dl_197 : decode code 197 = .ok (.invokevirtual 23, 3) := by decide +kernel
theorem dl_200 : decode code 200 = .ok (.aload_n 2, 1) := by decide +kernel
theorem dl_201 : decode code 201 = .ok (.invokevirtual 26, 3) := by decide +kernel
theorem dl_204 : decode code 204 = .ok (.if_icmp .eq 680, 3) := by decide +kernel
theorem dl_207 : decode code 207 = .ok (.iconst 0, 1) := by decide +kernel
theorem dl_208 : decode code 208 = .ok (.ireturn, 1) := by decide +kernel
theorem dl_209 : decode code 209 = .ok (.aload_n 1, 1) := by decide +kernel
theorem dl_210 : decode code 210 = .ok (.invokevirtual 27, 3) := by decide +kernel
theorem dl_213 : decode code 213 = .ok (.aload_n 2, 1) := by decide +kernel
theorem dl_214 : decode code 214 = .ok (.invokevirtual 30, 3) := by decide +kernel
theorem dl_217 : decode code 217 = .ok (.if_icmp .eq 667, 3) := by decide +kernel
theorem dl_220 : decode code 220 = .ok (.iconst 0, 1) := by decide +kernel
theorem dl_221 : decode code 221 = .ok (.ireturn, 1) := by decide +kernel
theorem dl_222 : decode code 222 = .ok (.aload_n 1, 1) := by decide +kernel
theorem dl_223 : decode code 223 = .ok (.aload_n 0, 1) := by decide +kernel
theorem dl_224 : decode code 224 = .ok (.iload_n 3, 1) := by decide +kernel
theorem dl_225 : decode code 225 = .ok (.iconst 1, 1) := by decide +kernel
theorem dl_226 : decode code 226 = .ok (.iadd, 1) := by decide +kernel
theorem dl_227 : decode code 227 = .ok (.iaload, 1) := by decide +kernel
theorem dl_228 : decode code 228 = .ok (.invokevirtual 31, 3) := by decide +kernel
theorem dl_231 : decode code 231 = .ok (.aload_n 2, 1) := by decide +kernel
theorem dl_232 : decode code 232 = .ok (.aload_n 0, 1) := by decide +kernel
theorem dl_233 : decode code 233 = .ok (.iload_n 3, 1) := by decide +kernel
theorem dl_234 : decode code 234 = .ok (.iconst 1, 1) := by decide +kernel
theorem dl_235 : decode code 235 = .ok (.iadd, 1) := by decide +kernel
theorem dl_236 : decode code 236 = .ok (.iaload, 1) := by decide +kernel
theorem dl_237 : decode code 237 = .ok (.invokevirtual 34, 3) := by decide +kernel
theorem dl_240 : decode code 240 = .ok (.if_icmp .eq 644, 3) := by decide +kernel
theorem dl_243 : decode code 243 = .ok (.iconst 0, 1) := by decide +kernel
theorem dl_244 : decode code 244 = .ok (.ireturn, 1) := by decide +kernel
theorem dl_245 : decode code 245 = .ok (.aload_n 1, 1) := by decide +kernel
theorem dl_246 : decode code 246 = .ok (.aload_n 0, 1) := by decide +kernel
theorem dl_247 : decode code 247 = .ok (.iload_n 3, 1) := by decide +kernel
theorem dl_248 : decode code 248 = .ok (.iconst 1, 1) := by decide +kernel
theorem dl_249 : decode code 249 = .ok (.iadd, 1) := by decide +kernel
theorem dl_250 : decode code 250 = .ok (.iaload, 1) := by decide +kernel
theorem dl_251 : decode code 251 = .ok (.aload_n 0, 1) := by decide +kernel
theorem dl_252 : decode code 252 = .ok (.iload_n 3, 1) := by decide +kernel
theorem dl_253 : decode code 253 = .ok (.iconst 2, 1) := by decide +kernel
theorem dl_254 : decode code 254 = .ok (.iadd, 1) := by decide +kernel
theorem dl_255 : decode code 255 = .ok (.iaload, 1) := by decide +kernel
theorem dl_256 : decode code 256 = .ok (.invokevirtual 35, 3) := by decide +kernel
theorem dl_259 : decode code 259 = .ok (.aload_n 2, 1) := by decide +kernel
theorem dl_260 : decode code 260 = .ok (.aload_n 0, 1) := by decide +kernel
theorem dl_261 : decode code 261 = .ok (.iload_n 3, 1) := by decide +kernel
theorem dl_262 : decode code 262 = .ok (.iconst 1, 1) := by decide +kernel
theorem dl_263 : decode code 263 = .ok (.iadd, 1) := by decide +kernel
theorem dl_264 : decode code 264 = .ok (.iaload, 1) := by decide +kernel
theorem dl_265 : decode code 265 = .ok (.aload_n 0, 1) := by decide +kernel
theorem dl_266 : decode code 266 = .ok (.iload_n 3, 1) := by decide +kernel
theorem dl_267 : decode code 267 = .ok (.iconst 2, 1) := by decide +kernel
theorem dl_268 : decode code 268 = .ok (.iadd, 1) := by decide +kernel
theorem dl_269 : decode code 269 = .ok (.iaload, 1) := by decide +kernel
theorem dl_270 : decode code 270 = .ok (.invokevirtual 39, 3) := by decide +kernel
theorem dl_273 : decode code 273 = .ok (.if_icmp .eq 611, 3) := by decide +kernel
theorem dl_276 : decode code 276 = .ok (.iconst 0, 1) := by decide +kernel
theorem dl_277 : decode code 277 = .ok (.ireturn, 1) := by decide +kernel
theorem dl_278 : decode code 278 = .ok (.aload_n 1, 1) := by decide +kernel
theorem dl_279 : decode code 279 = .ok (.aload_n 0, 1) := by decide +kernel
theorem dl_280 : decode code 280 = .ok (.iload_n 3, 1) := by decide +kernel
theorem dl_281 : decode code 281 = .ok (.iconst 1, 1) := by decide +kernel
theorem dl_282 : decode code 282 = .ok (.iadd, 1) := by decide +kernel
theorem dl_283 : decode code 283 = .ok (.iaload, 1) := by decide +kernel
theorem dl_284 : decode code 284 = .ok (.aload_n 0, 1) := by decide +kernel
theorem dl_285 : decode code 285 = .ok (.iload_n 3, 1) := by decide +kernel
theorem dl_286 : decode code 286 = .ok (.iconst 2, 1) := by decide +kernel
theorem dl_287 : decode code 287 = .ok (.iadd, 1) := by decide +kernel
theorem dl_288 : decode code 288 = .ok (.iaload, 1) := by decide +kernel
theorem dl_289 : decode code 289 = .ok (.aload_n 0, 1) := by decide +kernel
theorem dl_290 : decode code 290 = .ok (.iload_n 3, 1) := by decide +kernel
theorem dl_291 : decode code 291 = .ok (.iconst 3, 1) := by decide +kernel
theorem dl_292 : decode code 292 = .ok (.iadd, 1) := by decide +kernel
theorem dl_293 : decode code 293 = .ok (.iaload, 1) := by decide +kernel
theorem dl_294 : decode code 294 = .ok (.invokevirtual 40, 3) := by decide +kernel
theorem dl_297 : decode code 297 = .ok (.aload_n 2, 1) := by decide +kernel
theorem dl_298 : decode code 298 = .ok (.aload_n 0, 1) := by decide +kernel
theorem dl_299 : decode code 299 = .ok (.iload_n 3, 1) := by decide +kernel
theorem dl_300 : decode code 300 = .ok (.iconst 1, 1) := by decide +kernel
theorem dl_301 : decode code 301 = .ok (.iadd, 1) := by decide +kernel
theorem dl_302 : decode code 302 = .ok (.iaload, 1) := by decide +kernel
theorem dl_303 : decode code 303 = .ok (.aload_n 0, 1) := by decide +kernel
theorem dl_304 : decode code 304 = .ok (.iload_n 3, 1) := by decide +kernel
theorem dl_305 : decode code 305 = .ok (.iconst 2, 1) := by decide +kernel
theorem dl_306 : decode code 306 = .ok (.iadd, 1) := by decide +kernel
theorem dl_307 : decode code 307 = .ok (.iaload, 1) := by decide +kernel
theorem dl_308 : decode code 308 = .ok (.aload_n 0, 1) := by decide +kernel
theorem dl_309 : decode code 309 = .ok (.iload_n 3, 1) := by decide +kernel
theorem dl_310 : decode code 310 = .ok (.iconst 3, 1) := by decide +kernel
theorem dl_311 : decode code 311 = .ok (.iadd, 1) := by decide +kernel
theorem dl_312 : decode code 312 = .ok (.iaload, 1) := by decide +kernel
theorem dl_313 : decode code 313 = .ok (.invokevirtual 44, 3) := by decide +kernel
theorem dl_316 : decode code 316 = .ok (.if_icmp .eq 568, 3) := by decide +kernel
theorem dl_319 : decode code 319 = .ok (.iconst 0, 1) := by decide +kernel
theorem dl_320 : decode code 320 = .ok (.ireturn, 1) := by decide +kernel
theorem dl_321 : decode code 321 = .ok (.aload_n 1, 1) := by decide +kernel
theorem dl_322 : decode code 322 = .ok (.aload_n 0, 1) := by decide +kernel
theorem dl_323 : decode code 323 = .ok (.iload_n 3, 1) := by decide +kernel
theorem dl_324 : decode code 324 = .ok (.iconst 1, 1) := by decide +kernel
theorem dl_325 : decode code 325 = .ok (.iadd, 1) := by decide +kernel
theorem dl_326 : decode code 326 = .ok (.iaload, 1) := by decide +kernel
theorem dl_327 : decode code 327 = .ok (.aload_n 0, 1) := by decide +kernel
theorem dl_328 : decode code 328 = .ok (.iload_n 3, 1) := by decide +kernel
theorem dl_329 : decode code 329 = .ok (.iconst 2, 1) := by decide +kernel
theorem dl_330 : decode code 330 = .ok (.iadd, 1) := by decide +kernel
theorem dl_331 : decode code 331 = .ok (.iaload, 1) := by decide +kernel
theorem dl_332 : decode code 332 = .ok (.invokevirtual 45, 3) := by decide +kernel
theorem dl_335 : decode code 335 = .ok (.aload_n 2, 1) := by decide +kernel
theorem dl_336 : decode code 336 = .ok (.aload_n 0, 1) := by decide +kernel
theorem dl_337 : decode code 337 = .ok (.iload_n 3, 1) := by decide +kernel
theorem dl_338 : decode code 338 = .ok (.iconst 1, 1) := by decide +kernel
theorem dl_339 : decode code 339 = .ok (.iadd, 1) := by decide +kernel
theorem dl_340 : decode code 340 = .ok (.iaload, 1) := by decide +kernel
theorem dl_341 : decode code 341 = .ok (.aload_n 0, 1) := by decide +kernel
theorem dl_342 : decode code 342 = .ok (.iload_n 3, 1) := by decide +kernel
theorem dl_343 : decode code 343 = .ok (.iconst 2, 1) := by decide +kernel
theorem dl_344 : decode code 344 = .ok (.iadd, 1) := by decide +kernel
theorem dl_345 : decode code 345 = .ok (.iaload, 1) := by decide +kernel
theorem dl_346 : decode code 346 = .ok (.invokevirtual 48, 3) := by decide +kernel
theorem dl_349 : decode code 349 = .ok (.if_icmp .eq 535, 3) := by decide +kernel
theorem dl_352 : decode code 352 = .ok (.iconst 0, 1) := by decide +kernel
theorem dl_353 : decode code 353 = .ok (.ireturn, 1) := by decide +kernel
theorem dl_354 : decode code 354 = .ok (.aload_n 1, 1) := by decide +kernel
theorem dl_355 : decode code 355 = .ok (.aload_n 0, 1) := by decide +kernel
theorem dl_356 : decode code 356 = .ok (.iload_n 3, 1) := by decide +kernel
theorem dl_357 : decode code 357 = .ok (.iconst 1, 1) := by decide +kernel
theorem dl_358 : decode code 358 = .ok (.iadd, 1) := by decide +kernel
theorem dl_359 : decode code 359 = .ok (.iaload, 1) := by decide +kernel
theorem dl_360 : decode code 360 = .ok (.invokevirtual 49, 3) := by decide +kernel
theorem dl_363 : decode code 363 = .ok (.aload_n 2, 1) := by decide +kernel
theorem dl_364 : decode code 364 = .ok (.aload_n 0, 1) := by decide +kernel
theorem dl_365 : decode code 365 = .ok (.iload_n 3, 1) := by decide +kernel
theorem dl_366 : decode code 366 = .ok (.iconst 1, 1) := by decide +kernel
theorem dl_367 : decode code 367 = .ok (.iadd, 1) := by decide +kernel
theorem dl_368 : decode code 368 = .ok (.iaload, 1) := by decide +kernel
theorem dl_369 : decode code 369 = .ok (.invokevirtual 52, 3) := by decide +kernel
theorem dl_372 : decode code 372 = .ok (.if_icmp .eq 512, 3) := by decide +kernel
theorem dl_375 : decode code 375 = .ok (.iconst 0, 1) := by decide +kernel
theorem dl_376 : decode code 376 = .ok (.ireturn, 1) := by decide +kernel
theorem dl_377 : decode code 377 = .ok (.aload_n 1, 1) := by decide +kernel
theorem dl_378 : decode code 378 = .ok (.aload_n 0, 1) := by decide +kernel
theorem dl_379 : decode code 379 = .ok (.iload_n 3, 1) := by decide +kernel
theorem dl_380 : decode code 380 = .ok (.iconst 1, 1) := by decide +kernel
theorem dl_381 : decode code 381 = .ok (.iadd, 1) := by decide +kernel
theorem dl_382 : decode code 382 = .ok (.iaload, 1) := by decide +kernel
theorem dl_383 : decode code 383 = .ok (.aload_n 0, 1) := by decide +kernel
theorem dl_384 : decode code 384 = .ok (.iload_n 3, 1) := by decide +kernel
theorem dl_385 : decode code 385 = .ok (.iconst 2, 1) := by decide +kernel
theorem dl_386 : decode code 386 = .ok (.iadd, 1) := by decide +kernel
theorem dl_387 : decode code 387 = .ok (.iaload, 1) := by decide +kernel
theorem dl_388 : decode code 388 = .ok (.invokevirtual 53, 3) := by decide +kernel
theorem dl_391 : decode code 391 = .ok (.aload_n 2, 1) := by decide +kernel
theorem dl_392 : decode code 392 = .ok (.aload_n 0, 1) := by decide +kernel
theorem dl_393 : decode code 393 = .ok (.iload_n 3, 1) := by decide +kernel
theorem dl_394 : decode code 394 = .ok (.iconst 1, 1) := by decide +kernel
theorem dl_395 : decode code 395 = .ok (.iadd, 1) := by decide +kernel
theorem dl_396 : decode code 396 = .ok (.iaload, 1) := by decide +kernel
theorem dl_397 : decode code 397 = .ok (.aload_n 0, 1) := by decide +kernel
theorem dl_398 : decode code 398 = .ok (.iload_n 3, 1) := by decide +kernel
theorem dl_399 : decode code 399 = .ok (.iconst 2, 1) := by decide +kernel
theorem dl_400 : decode code 400 = .ok (.iadd, 1) := by decide +kernel
theorem dl_401 : decode code 401 = .ok (.iaload, 1) := by decide +kernel
theorem dl_402 : decode code 402 = .ok (.invokevirtual 56, 3) := by decide +kernel
theorem dl_405 : decode code 405 = .ok (.if_icmp .eq 479, 3) := by decide +kernel
theorem dl_408 : decode code 408 = .ok (.iconst 0, 1) := by decide +kernel
theorem dl_409 : decode code 409 = .ok (.ireturn, 1) := by decide +kernel
theorem dl_410 : decode code 410 = .ok (.aload_n 1, 1) := by decide +kernel
theorem dl_411 : decode code 411 = .ok (.aload_n 0, 1) := by decide +kernel
theorem dl_412 : decode code 412 = .ok (.iload_n 3, 1) := by decide +kernel
theorem dl_413 : decode code 413 = .ok (.iconst 1, 1) := by decide +kernel
theorem dl_414 : decode code 414 = .ok (.iadd, 1) := by decide +kernel
theorem dl_415 : decode code 415 = .ok (.iaload, 1) := by decide +kernel
theorem dl_416 : decode code 416 = .ok (.aload_n 0, 1) := by decide +kernel
theorem dl_417 : decode code 417 = .ok (.iload_n 3, 1) := by decide +kernel
theorem dl_418 : decode code 418 = .ok (.iconst 2, 1) := by decide +kernel
theorem dl_419 : decode code 419 = .ok (.iadd, 1) := by decide +kernel
theorem dl_420 : decode code 420 = .ok (.iaload, 1) := by decide +kernel
theorem dl_421 : decode code 421 = .ok (.invokevirtual 57, 3) := by decide +kernel
theorem dl_424 : decode code 424 = .ok (.aload_n 2, 1) := by decide +kernel
theorem dl_425 : decode code 425 = .ok (.aload_n 0, 1) := by decide +kernel
theorem dl_426 : decode code 426 = .ok (.iload_n 3, 1) := by decide +kernel
theorem dl_427 : decode code 427 = .ok (.iconst 1, 1) := by decide +kernel
theorem dl_428 : decode code 428 = .ok (.iadd, 1) := by decide +kernel
theorem dl_429 : decode code 429 = .ok (.iaload, 1) := by decide +kernel
theorem dl_430 : decode code 430 = .ok (.aload_n 0, 1) := by decide +kernel
theorem dl_431 : decode code 431 = .ok (.iload_n 3, 1) := by decide +kernel
theorem dl_432 : decode code 432 = .ok (.iconst 2, 1) := by decide +kernel
theorem dl_433 : decode code 433 = .ok (.iadd, 1) := by decide +kernel
theorem dl_434 : decode code 434 = .ok (.iaload, 1) := by decide +kernel
theorem dl_435 : decode code 435 = .ok (.invokevirtual 60, 3) := by decide +kernel
theorem dl_438 : decode code 438 = .ok (.if_icmp .eq 446, 3) := by decide +kernel
theorem dl_441 : decode code 441 = .ok (.iconst 0, 1) := by decide +kernel
theorem dl_442 : decode code 442 = .ok (.ireturn, 1) := by decide +kernel
theorem dl_443 : decode code 443 = .ok (.aload_n 1, 1) := by decide +kernel
theorem dl_444 : decode code 444 = .ok (.invokevirtual 61, 3) := by decide +kernel
theorem dl_447 : decode code 447 = .ok (.aload_n 2, 1) := by decide +kernel
theorem dl_448 : decode code 448 = .ok (.invokevirtual 64, 3) := by decide +kernel
theorem dl_451 : decode code 451 = .ok (.if_icmp .eq 433, 3) := by decide +kernel
theorem dl_454 : decode code 454 = .ok (.iconst 0, 1) := by decide +kernel
theorem dl_455 : decode code 455 = .ok (.ireturn, 1) := by decide +kernel
theorem dl_456 : decode code 456 = .ok (.aload_n 1, 1) := by decide +kernel
theorem dl_457 : decode code 457 = .ok (.aload_n 0, 1) := by decide +kernel
theorem dl_458 : decode code 458 = .ok (.iload_n 3, 1) := by decide +kernel
theorem dl_459 : decode code 459 = .ok (.iconst 1, 1) := by decide +kernel
theorem dl_460 : decode code 460 = .ok (.iadd, 1) := by decide +kernel
theorem dl_461 : decode code 461 = .ok (.iaload, 1) := by decide +kernel
theorem dl_462 : decode code 462 = .ok (.aload_n 0, 1) := by decide +kernel
theorem dl_463 : decode code 463 = .ok (.iload_n 3, 1) := by decide +kernel
theorem dl_464 : decode code 464 = .ok (.iconst 2, 1) := by decide +kernel
theorem dl_465 : decode code 465 = .ok (.iadd, 1) := by decide +kernel
theorem dl_466 : decode code 466 = .ok (.iaload, 1) := by decide +kernel
theorem dl_467 : decode code 467 = .ok (.aload_n 0, 1) := by decide +kernel
theorem dl_468 : decode code 468 = .ok (.iload_n 3, 1) := by decide +kernel
theorem dl_469 : decode code 469 = .ok (.iconst 3, 1) := by decide +kernel
theorem dl_470 : decode code 470 = .ok (.iadd, 1) := by decide +kernel
theorem dl_471 : decode code 471 = .ok (.iaload, 1) := by decide +kernel
theorem dl_472 : decode code 472 = .ok (.invokevirtual 65, 3) := by decide +kernel
theorem dl_475 : decode code 475 = .ok (.aload_n 2, 1) := by decide +kernel
theorem dl_476 : decode code 476 = .ok (.aload_n 0, 1) := by decide +kernel
theorem dl_477 : decode code 477 = .ok (.iload_n 3, 1) := by decide +kernel
theorem dl_478 : decode code 478 = .ok (.iconst 1, 1) := by decide +kernel
theorem dl_479 : decode code 479 = .ok (.iadd, 1) := by decide +kernel
theorem dl_480 : decode code 480 = .ok (.iaload, 1) := by decide +kernel
theorem dl_481 : decode code 481 = .ok (.aload_n 0, 1) := by decide +kernel
theorem dl_482 : decode code 482 = .ok (.iload_n 3, 1) := by decide +kernel
theorem dl_483 : decode code 483 = .ok (.iconst 2, 1) := by decide +kernel
theorem dl_484 : decode code 484 = .ok (.iadd, 1) := by decide +kernel
theorem dl_485 : decode code 485 = .ok (.iaload, 1) := by decide +kernel
theorem dl_486 : decode code 486 = .ok (.aload_n 0, 1) := by decide +kernel
theorem dl_487 : decode code 487 = .ok (.iload_n 3, 1) := by decide +kernel
theorem dl_488 : decode code 488 = .ok (.iconst 3, 1) := by decide +kernel
theorem dl_489 : decode code 489 = .ok (.iadd, 1) := by decide +kernel
theorem dl_490 : decode code 490 = .ok (.iaload, 1) := by decide +kernel
theorem dl_491 : decode code 491 = .ok (.invokevirtual 68, 3) := by decide +kernel
theorem dl_494 : decode code 494 = .ok (.if_icmp .eq 390, 3) := by decide +kernel
theorem dl_497 : decode code 497 = .ok (.iconst 0, 1) := by decide +kernel
theorem dl_498 : decode code 498 = .ok (.ireturn, 1) := by decide +kernel
theorem dl_499 : decode code 499 = .ok (.aload_n 1, 1) := by decide +kernel
theorem dl_500 : decode code 500 = .ok (.aload_n 0, 1) := by decide +kernel
theorem dl_501 : decode code 501 = .ok (.iload_n 3, 1) := by decide +kernel
theorem dl_502 : decode code 502 = .ok (.iconst 1, 1) := by decide +kernel
theorem dl_503 : decode code 503 = .ok (.iadd, 1) := by decide +kernel
theorem dl_504 : decode code 504 = .ok (.iaload, 1) := by decide +kernel
theorem dl_505 : decode code 505 = .ok (.invokevirtual 69, 3) := by decide +kernel
theorem dl_508 : decode code 508 = .ok (.aload_n 2, 1) := by decide +kernel
