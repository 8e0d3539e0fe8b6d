theorem dL_law_212 : decode cL_law 212 = .ok (.aload_n 1, 1) := by decide +kernel
theorem dL_law_213 : decode cL_law 213 = .ok (.aload_n 0, 1) := by decide +kernel
theorem dL_law_214 : decode cL_law 214 = .ok (.iload 4, 2) := by decide +kernel
theorem dL_law_216 : decode cL_law 216 = .ok (.iconst 1, 1) := by decide +kernel
theorem dL_law_217 : decode cL_law 217 = .ok (.iadd, 1) := by decide +kernel
theorem dL_law_218 : decode cL_law 218 = .ok (.iaload, 1) := by decide +kernel
theorem dL_law_219 : decode cL_law 219 = .ok (.aload_n 0, 1) := by decide +kernel
theorem dL_law_220 : decode cL_law 220 = .ok (.iload 4, 2) := by decide +kernel
theorem dL_law_222 : decode cL_law 222 = .ok (.iconst 2, 1) := by decide +kernel
theorem dL_law_223 : decode cL_law 223 = .ok (.iadd, 1) := by decide +kernel
theorem dL_law_224 : decode cL_law 224 = .ok (.iaload, 1) := by decide +kernel
theorem dL_law_225 : decode cL_law 225 = .ok (.aload_n 0, 1) := by decide +kernel
theorem dL_law_226 : decode cL_law 226 = .ok (.iload 4, 2) := by decide +kernel
theorem dL_law_228 : decode cL_law 228 = .ok (.iconst 3, 1) := by decide +kernel
theorem dL_law_229 : decode cL_law 229 = .ok (.iadd, 1) := by decide +kernel
theorem dL_law_230 : decode cL_law 230 = .ok (.iaload, 1) := by decide +kernel
theorem dL_law_231 : decode cL_law 231 = .ok (.aload_n 0, 1) := by decide +kernel
theorem dL_law_232 : decode cL_law 232 = .ok (.iload 4, 2) := by decide +kernel
theorem dL_law_234 : decode cL_law 234 = .ok (.iconst 4, 1) := by decide +kernel
theorem dL_law_235 : decode cL_law 235 = .ok (.iadd, 1) := by decide +kernel
theorem dL_law_236 : decode cL_law 236 = .ok (.iaload, 1) := by decide +kernel
theorem dL_law_237 : decode cL_law 237 = .ok (.aload_n 0, 1) := by decide +kernel
theorem dL_law_238 : decode cL_law 238 = .ok (.iload 4, 2) := by decide +kernel
theorem dL_law_240 : decode cL_law 240 = .ok (.iconst 5, 1) := by decide +kernel
theorem dL_law_241 : decode cL_law 241 = .ok (.iadd, 1) := by decide +kernel
theorem dL_law_242 : decode cL_law 242 = .ok (.iaload, 1) := by decide +kernel
theorem dL_law_243 : decode cL_law 243 = .ok (.invokevirtual 92, 3) := by decide +kernel
theorem dL_law_246 : decode cL_law 246 = .ok (.aload_n 2, 1) := by decide +kernel
theorem dL_law_247 : decode cL_law 247 = .ok (.aload_n 0, 1) := by decide +kernel
theorem dL_law_248 : decode cL_law 248 = .ok (.iload 4, 2) := by decide +kernel
theorem dL_law_250 : decode cL_law 250 = .ok (.iconst 1, 1) := by decide +kernel
theorem dL_law_251 : decode cL_law 251 = .ok (.iadd, 1) := by decide +kernel
theorem dL_law_252 : decode cL_law 252 = .ok (.iaload, 1) := by decide +kernel
theorem dL_law_253 : decode cL_law 253 = .ok (.aload_n 0, 1) := by decide +kernel
theorem dL_law_254 : decode cL_law 254 = .ok (.iload 4, 2) := by decide +kernel
theorem dL_law_256 : decode cL_law 256 = .ok (.iconst 2, 1) := by decide +kernel
theorem dL_law_257 : decode cL_law 257 = .ok (.iadd, 1) := by decide +kernel
theorem dL_law_258 : decode cL_law 258 = .ok (.iaload, 1) := by decide +kernel
theorem dL_law_259 : decode cL_law 259 = .ok (.aload_n 0, 1) := by decide +kernel
theorem dL_law_260 : decode cL_law 260 = .ok (.iload 4, 2) := by decide +kernel
theorem dL_law_262 : decode cL_law 262 = .ok (.iconst 3, 1) := by decide +kernel
theorem dL_law_263 : decode cL_law 263 = .ok (.iadd, 1) := by decide +kernel
theorem dL_law_264 : decode cL_law 264 = .ok (.iaload, 1) := by decide +kernel
theorem dL_law_265 : decode cL_law 265 = .ok (.aload_n 0, 1) := by decide +kernel
theorem dL_law_266 : decode cL_law 266 = .ok (.iload 4, 2) := by decide +kernel
theorem dL_law_268 : decode cL_law 268 = .ok (.iconst 4, 1) := by decide +kernel
theorem dL_law_269 : decode cL_law 269 = .ok (.iadd, 1) := by decide +kernel
theorem dL_law_270 : decode cL_law 270 = .ok (.iaload, 1) := by decide +kernel
theorem dL_law_271 : decode cL_law 271 = .ok (.aload_n 0, 1) := by decide +kernel
theorem dL_law_272 : decode cL_law 272 = .ok (.iload 4, 2) := by decide +kernel
theorem dL_law_274 : decode cL_law 274 = .ok (.iconst 5, 1) := by decide +kernel
theorem dL_law_275 : decode cL_law 275 = .ok (.iadd, 1) := by decide +kernel
theorem dL_law_276 : decode cL_law 276 = .ok (.iaload, 1) := by decide +kernel
theorem dL_law_277 : decode cL_law 277 = .ok (.invokevirtual 96, 3) := by decide +kernel
theorem dL_law_280 : decode cL_law 280 = .ok (.goto 1227, 3) := by decide +kernel
theorem dL_law_283 : decode cL_law 283 = .ok (.aload_n 1, 1) := by decide +kernel
theorem dL_law_284 : decode cL_law 284 = .ok (.aload_n 0, 1) := by decide +kernel
theorem dL_law_285 : decode cL_law 285 = .ok (.iload 4, 2) := by decide +kernel
theorem dL_law_287 : decode cL_law 287 = .ok (.iconst 1, 1) := by decide +kernel
theorem dL_law_288 : decode cL_law 288 = .ok (.iadd, 1) := by decide +kernel
theorem dL_law_289 : decode cL_law 289 = .ok (.iaload, 1) := by decide +kernel
theorem dL_law_290 : decode cL_law 290 = .ok (.invokevirtual 97, 3) := by decide +kernel
theorem dL_law_293 : decode cL_law 293 = .ok (.aload_n 2, 1) := by decide +kernel
theorem dL_law_294 : decode cL_law 294 = .ok (.aload_n 0, 1) := by decide +kernel
theorem dL_law_295 : decode cL_law 295 = .ok (.iload 4, 2) := by decide +kernel
theorem dL_law_297 : decode cL_law 297 = .ok (.iconst 1, 1) := by decide +kernel
theorem dL_law_298 : decode cL_law 298 = .ok (.iadd, 1) := by decide +kernel
theorem dL_law_299 : decode cL_law 299 = .ok (.iaload, 1) := by decide +kernel
theorem dL_law_300 : decode cL_law 300 = .ok (.invokevirtual 100, 3) := by decide +kernel
theorem dL_law_303 : decode cL_law 303 = .ok (.if_icmp .eq 1204, 3) := by decide +kernel
theorem dL_law_308 : decode cL_law 308 = .ok (.aload_n 1, 1) := by decide +kernel
theorem dL_law_309 : decode cL_law 309 = .ok (.invokevirtual 101, 3) := by decide +kernel
theorem dL_law_312 : decode cL_law 312 = .ok (.aload_n 2, 1) := by decide +kernel
theorem dL_law_313 : decode cL_law 313 = .ok (.invokevirtual 104, 3) := by decide +kernel
theorem dL_law_316 : decode cL_law 316 = .ok (.goto 1191, 3) := by decide +kernel
theorem dL_law_319 : decode cL_law 319 = .ok (.aload_n 1, 1) := by decide +kernel
theorem dL_law_320 : decode cL_law 320 = .ok (.aload_n 3, 1) := by decide +kernel
theorem dL_law_321 : decode cL_law 321 = .ok (.invokestatic 105, 3) := by decide +kernel
theorem dL_law_324 : decode cL_law 324 = .ok (.istore 5, 2) := by decide +kernel
theorem dL_law_326 : decode cL_law 326 = .ok (.aload_n 2, 1) := by decide +kernel
theorem dL_law_327 : decode cL_law 327 = .ok (.invokevirtual 110, 3) := by decide +kernel
theorem dL_law_330 : decode cL_law 330 = .ok (.istore 6, 2) := by decide +kernel
theorem dL_law_332 : decode cL_law 332 = .ok (.goto 1175, 3) := by decide +kernel
theorem dL_law_335 : decode cL_law 335 = .ok (.aload_n 1, 1) := by decide +kernel
theorem dL_law_336 : decode cL_law 336 = .ok (.aload_n 0, 1) := by decide +kernel
theorem dL_law_337 : decode cL_law 337 = .ok (.iload 4, 2) := by decide +kernel
theorem dL_law_339 : decode cL_law 339 = .ok (.iconst 1, 1) := by decide +kernel
theorem dL_law_340 : decode cL_law 340 = .ok (.iadd, 1) := by decide +kernel
theorem dL_law_341 : decode cL_law 341 = .ok (.iaload, 1) := by decide +kernel
theorem dL_law_342 : decode cL_law 342 = .ok (.invokevirtual 111, 3) := by decide +kernel
theorem dL_law_345 : decode cL_law 345 = .ok (.pop, 1) := by decide +kernel
theorem dL_law_346 : decode cL_law 346 = .ok (.aload_n 2, 1) := by decide +kernel
theorem dL_law_347 : decode cL_law 347 = .ok (.aload_n 0, 1) := by decide +kernel
theorem dL_law_348 : decode cL_law 348 = .ok (.iload 4, 2) := by decide +kernel
theorem dL_law_350 : decode cL_law 350 = .ok (.iconst 1, 1) := by decide +kernel
theorem dL_law_351 : decode cL_law 351 = .ok (.iadd, 1) := by decide +kernel
theorem dL_law_352 : decode cL_law 352 = .ok (.iaload, 1) := by decide +kernel
theorem dL_law_353 : decode cL_law 353 = .ok (.invokevirtual 114, 3) := by decide +kernel
theorem dL_law_356 : decode cL_law 356 = .ok (.pop, 1) := by decide +kernel
theorem dL_law_357 : decode cL_law 357 = .ok (.goto 1150, 3) := by decide +kernel
theorem dL_law_360 : decode cL_law 360 = .ok (.aload_n 1, 1) := by decide +kernel
theorem dL_law_361 : decode cL_law 361 = .ok (.aload_n 0, 1) := by decide +kernel
theorem dL_law_362 : decode cL_law 362 = .ok (.iload 4, 2) := by decide +kernel
theorem dL_law_364 : decode cL_law 364 = .ok (.iconst 1, 1) := by decide +kernel
theorem dL_law_365 : decode cL_law 365 = .ok (.iadd, 1) := by decide +kernel
theorem dL_law_366 : decode cL_law 366 = .ok (.iaload, 1) := by decide +kernel
theorem dL_law_367 : decode cL_law 367 = .ok (.aload_n 0, 1) := by decide +kernel
theorem dL_law_368 : decode cL_law 368 = .ok (.iload 4, 2) := by decide +kernel
theorem dL_law_370 : decode cL_law 370 = .ok (.iconst 2, 1) := by decide +kernel
theorem dL_law_371 : decode cL_law 371 = .ok (.iadd, 1) := by decide +kernel
theorem dL_law_372 : decode cL_law 372 = .ok (.iaload, 1) := by decide +kernel
theorem dL_law_373 : decode cL_law 373 = .ok (.aload_n 3, 1) := by decide +kernel
theorem dL_law_374 : decode cL_law 374 = .ok (.invokestatic 115, 3) := by decide +kernel
theorem dL_law_377 : decode cL_law 377 = .ok (.istore 5, 2) := by decide +kernel
theorem dL_law_379 : decode cL_law 379 = .ok (.aload_n 2, 1) := by decide +kernel
theorem dL_law_380 : decode cL_law 380 = .ok (.aload_n 0, 1) := by decide +kernel
theorem dL_law_381 : decode cL_law 381 = .ok (.iload 4, 2) := by decide +kernel
theorem dL_law_383 : decode cL_law 383 = .ok (.iconst 1, 1) := by decide +kernel
theorem dL_law_384 : decode cL_law 384 = .ok (.iadd, 1) := by decide +kernel
theorem dL_law_385 : decode cL_law 385 = .ok (.iaload, 1) := by decide +kernel
theorem dL_law_386 : decode cL_law 386 = .ok (.aload_n 0, 1) := by decide +kernel
theorem dL_law_387 : decode cL_law 387 = .ok (.iload 4, 2) := by decide +kernel
theorem dL_law_389 : decode cL_law 389 = .ok (.iconst 2, 1) := by decide +kernel
theorem dL_law_390 : decode cL_law 390 = .ok (.iadd, 1) := by decide +kernel
theorem dL_law_391 : decode cL_law 391 = .ok (.iaload, 1) := by decide +kernel
theorem dL_law_392 : decode cL_law 392 = .ok (.invokevirtual 118, 3) := by decide +kernel
theorem dL_law_395 : decode cL_law 395 = .ok (.istore 6, 2) := by decide +kernel
theorem dL_law_397 : decode cL_law 397 = .ok (.goto 1110, 3) := by decide +kernel
theorem dL_law_400 : decode cL_law 400 = .ok (.aload_n 1, 1) := by decide +kernel
theorem dL_law_401 : decode cL_law 401 = .ok (.aload_n 0, 1) := by decide +kernel
theorem dL_law_402 : decode cL_law 402 = .ok (.iload 4, 2) := by decide +kernel
theorem dL_law_404 : decode cL_law 404 = .ok (.iconst 1, 1) := by decide +kernel
theorem dL_law_405 : decode cL_law 405 = .ok (.iadd, 1) := by decide +kernel
theorem dL_law_406 : decode cL_law 406 = .ok (.iaload, 1) := by decide +kernel
theorem dL_law_407 : decode cL_law 407 = .ok (.aload_n 0, 1) := by decide +kernel
theorem dL_law_408 : decode cL_law 408 = .ok (.iload 4, 2) := by decide +kernel
theorem dL_law_410 : decode cL_law 410 = .ok (.iconst 2, 1) := by decide +kernel
theorem dL_law_411 : decode cL_law 411 = .ok (.iadd, 1) := by decide +kernel
theorem dL_law_412 : decode cL_law 412 = .ok (.iaload, 1) := by decide +kernel
theorem dL_law_413 : decode cL_law 413 = .ok (.aload_n 0, 1) := by decide +kernel
theorem dL_law_414 : decode cL_law 414 = .ok (.iload 4, 2) := by decide +kernel
theorem dL_law_416 : decode cL_law 416 = .ok (.iconst 3, 1) := by decide +kernel
theorem dL_law_417 : decode cL_law 417 = .ok (.iadd, 1) := by decide +kernel
theorem dL_law_418 : decode cL_law 418 = .ok (.iaload, 1) := by decide +kernel
theorem dL_law_419 : decode cL_law 419 = .ok (.aload_n 3, 1) := by decide +kernel
theorem dL_law_420 : decode cL_law 420 = .ok (.invokestatic 119, 3) := by decide +kernel
theorem dL_law_423 : decode cL_law 423 = .ok (.istore 5, 2) := by decide +kernel
theorem dL_law_425 : decode cL_law 425 = .ok (.aload_n 2, 1) := by decide +kernel
theorem dL_law_426 : decode cL_law 426 = .ok (.aload_n 0, 1) := by decide +kernel
theorem dL_law_427 : decode cL_law 427 = .ok (.iload 4, 2) := by decide +kernel
theorem dL_law_429 : decode cL_law 429 = .ok (.iconst 1, 1) := by decide +kernel
theorem dL_law_430 : decode cL_law 430 = .ok (.iadd, 1) := by decide +kernel
theorem dL_law_431 : decode cL_law 431 = .ok (.iaload, 1) := by decide +kernel
theorem dL_law_432 : decode cL_law 432 = .ok (.aload_n 0, 1) := by decide +kernel
theorem dL_law_433 : decode cL_law 433 = .ok (.iload 4, 2) := by decide +kernel
theorem dL_law_435 : decode cL_law 435 = .ok (.iconst 2, 1) := by decide +kernel
theorem dL_law_436 : decode cL_law 436 = .ok (.iadd, 1) := by decide +kernel
theorem dL_law_437 : decode cL_law 437 = .ok (.iaload, 1) := by decide +kernel
theorem dL_law_438 : decode cL_law 438 = .ok (.aload_n 0, 1) := by decide +kernel
theorem dL_law_439 : decode cL_law 439 = .ok (.iload 4, 2) := by decide +kernel
theorem dL_law_441 : decode cL_law 441 = .ok (.iconst 3, 1) := by decide +kernel
theorem dL_law_442 : decode cL_law 442 = .ok (.iadd, 1) := by decide +kernel
theorem dL_law_443 : decode cL_law 443 = .ok (.iaload, 1) := by decide +kernel
theorem dL_law_444 : decode cL_law 444 = .ok (.invokevirtual 122, 3) := by decide +kernel
theorem dL_law_447 : decode cL_law 447 = .ok (.istore 6, 2) := by decide +kernel
theorem dL_law_449 : decode cL_law 449 = .ok (.goto 1058, 3) := by decide +kernel
theorem dL_law_452 : decode cL_law 452 = .ok (.aload_n 1, 1) := by decide +kernel
theorem dL_law_453 : decode cL_law 453 = .ok (.aload_n 0, 1) := by decide +kernel
theorem dL_law_454 : decode cL_law 454 = .ok (.iload 4, 2) := by decide +kernel
theorem dL_law_456 : decode cL_law 456 = .ok (.iconst 1, 1) := by decide +kernel
theorem dL_law_457 : decode cL_law 457 = .ok (.iadd, 1) := by decide +kernel
theorem dL_law_458 : decode cL_law 458 = .ok (.iaload, 1) := by decide +kernel
theorem dL_law_459 : decode cL_law 459 = .ok (.aload_n 0, 1) := by decide +kernel
theorem dL_law_460 : decode cL_law 460 = .ok (.iload 4, 2) := by decide +kernel
theorem dL_law_462 : decode cL_law 462 = .ok (.iconst 2, 1) := by decide +kernel
theorem dL_law_463 : decode cL_law 463 = .ok (.iadd, 1) := by decide +kernel
theorem dL_law_464 : decode cL_law 464 = .ok (.iaload, 1) := by decide +kernel
theorem dL_law_465 : decode cL_law 465 = .ok (.aload_n 0, 1) := by decide +kernel
theorem dL_law_466 : decode cL_law 466 = .ok (.iload 4, 2) := by decide +kernel
theorem dL_law_468 : decode cL_law 468 = .ok (.iconst 3, 1) := by decide +kernel
theorem dL_law_469 : decode cL_law 469 = .ok (.iadd, 1) := by decide +kernel
theorem dL_law_470 : decode cL_law 470 = .ok (.iaload, 1) := by decide +kernel
theorem dL_law_471 : decode cL_law 471 = .ok (.ifCond .eq 7, 3) := by decide +kernel
theorem dL_law_474 : decode cL_law 474 = .ok (.iconst 1, 1) := by decide +kernel
theorem dL_law_475 : decode cL_law 475 = .ok (.goto 4, 3) := by decide +kernel
theorem dL_law_478 : decode cL_law 478 = .ok (.iconst 0, 1) := by decide +kernel
theorem dL_law_479 : decode cL_law 479 = .ok (.aload_n 3, 1) := by decide +kernel
theorem dL_law_480 : decode cL_law 480 = .ok (.invokestatic 123, 3) := by decide +kernel
theorem dL_law_483 : decode cL_law 483 = .ok (.istore 5, 2) := by decide +kernel
theorem dL_law_485 : decode cL_law 485 = .ok (.aload_n 2, 1) := by decide +kernel
theorem dL_law_486 : decode cL_law 486 = .ok (.aload_n 0, 1) := by decide +kernel
theorem dL_law_487 : decode cL_law 487 = .ok (.iload 4, 2) := by decide +kernel
theorem dL_law_489 : decode cL_law 489 = .ok (.iconst 1, 1) := by decide +kernel
theorem dL_law_490 : decode cL_law 490 = .ok (.iadd, 1) := by decide +kernel
theorem dL_law_491 : decode cL_law 491 = .ok (.iaload, 1) := by decide +kernel
theorem dL_law_492 : decode cL_law 492 = .ok (.aload_n 0, 1) := by decide +kernel
theorem dL_law_493 : decode cL_law 493 = .ok (.iload 4, 2) := by decide +kernel
theorem dL_law_495 : decode cL_law 495 = .ok (.iconst 2, 1) := by decide +kernel
theorem dL_law_496 : decode cL_law 496 = .ok (.iadd, 1) := by decide +kernel
theorem dL_law_497 : decode cL_law 497 = .ok (.iaload, 1) := by decide +kernel
theorem dL_law_498 : decode cL_law 498 = .ok (.aload_n 0, 1) := by decide +kernel
theorem dL_law_499 : decode cL_law 499 = .ok (.iload 4, 2) := by decide +kernel
theorem dL_law_501 : decode cL_law 501 = .ok (.iconst 3, 1) := by decide +kernel
theorem dL_law_502 : decode cL_law 502 = .ok (.iadd, 1) := by decide +kernel
theorem dL_law_503 : decode cL_law 503 = .ok (.iaload, 1) := by decide +kernel
theorem dL_law_504 : decode cL_law 504 = .ok (.ifCond .eq 7, 3) := by decide +kernel
theorem dL_law_507 : decode cL_law 507 = .ok (.iconst 1, 1) := by decide +kernel
theorem dL_law_508 : decode cL_law 508 = .ok (.goto 4, 3) := by decide +kernel
theorem dL_law_511 : decode cL_law 511 = .ok (.iconst 0, 1) := by decide +kernel
theorem dL_law_512 : decode cL_law 512 = .ok (.invokevirtual 126, 3) := by decide +kernel
theorem dL_law_515 : decode cL_law 515 = .ok (.istore 6, 2) := by decide +kernel
theorem dL_law_517 : decode cL_law 517 = .ok (.goto 990, 3) := by decide +kernel
theorem dL_law_520 : decode cL_law 520 = .ok (.aload_n 1, 1) := by decide +kernel
theorem dL_law_521 : decode cL_law 521 = .ok (.aload_n 3, 1) := by decide +kernel
theorem dL_law_522 : decode cL_law 522 = .ok (.invokestatic 127, 3) := by decide +kernel
theorem dL_law_525 : decode cL_law 525 = .ok (.istore 5, 2) := by decide +kernel
theorem dL_law_527 : decode cL_law 527 = .ok (.aload_n 2, 1) := by decide +kernel
theorem dL_law_528 : decode cL_law 528 = .ok (.invokevirtual 129, 3) := by decide +kernel
theorem dL_law_531 : decode cL_law 531 = .ok (.istore 6, 2) := by decide +kernel
theorem dL_law_533 : decode cL_law 533 = .ok (.goto 974, 3) := by decide +kernel
theorem dL_law_536 : decode cL_law 536 = .ok (.aload_n 1, 1) := by decide +kernel
theorem dL_law_537 : decode cL_law 537 = .ok (.aload_n 0, 1) := by decide +kernel
theorem dL_law_538 : decode cL_law 538 = .ok (.iload 4, 2) := by decide +kernel
theorem dL_law_540 : decode cL_law 540 = .ok (.iconst 1, 1) := by decide +kernel
theorem dL_law_541 : decode cL_law 541 = .ok (.iadd, 1) := by decide +kernel
theorem dL_law_542 : decode cL_law 542 = .ok (.iaload, 1) := by decide +kernel
theorem dL_law_543 : decode cL_law 543 = .ok (.ifCond .eq 7, 3) := by decide +kernel
theorem dL_law_546 : decode cL_law 546 = .ok (.iconst 1, 1) := by decide +kernel
theorem dL_law_547 : decode cL_law 547 = .ok (.goto 4, 3) := by decide +kernel
theorem dL_law_550 : decode cL_law 550 = .ok (.iconst 0, 1) := by decide +kernel
theorem dL_law_551 : decode cL_law 551 = .ok (.aload_n 3, 1) := by decide +kernel
theorem dL_law_552 : decode cL_law 552 = .ok (.invokestatic 130, 3) := by decide +kernel
theorem dL_law_555 : decode cL_law 555 = .ok (.istore 5, 2) := by decide +kernel
theorem dL_law_557 : decode cL_law 557 = .ok (.aload_n 2, 1) := by decide +kernel
theorem dL_law_558 : decode cL_law 558 = .ok (.aload_n 0, 1) := by decide +kernel
theorem dL_law_559 : decode cL_law 559 = .ok (.iload 4, 2) := by decide +kernel
theorem dL_law_561 : decode cL_law 561 = .ok (.iconst 1, 1) := by decide +kernel
theorem dL_law_562 : decode cL_law 562 = .ok (.iadd, 1) := by decide +kernel
theorem dL_law_563 : decode cL_law 563 = .ok (.iaload, 1) := by decide +kernel
theorem dL_law_564 : decode cL_law 564 = .ok (.ifCond .eq 7, 3) := by decide +kernel
theorem dL_law_567 : decode cL_law 567 = .ok (.iconst 1, 1) := by decide +kernel
theorem dL_law_568 : decode cL_law 568 = .ok (.goto 4, 3) := by decide +kernel
theorem dL_law_571 : decode cL_law 571 = .ok (.iconst 0, 1) := by decide +kernel
theorem dL_law_572 : decode cL_law 572 = .ok (.invokevirtual 133, 3) := by decide +kernel
theorem dL_law_575 : decode cL_law 575 = .ok (.istore 6, 2) := by decide +kernel
theorem dL_law_577 : decode cL_law 577 = .ok (.goto 930, 3) := by decide +kernel
theorem dL_law_580 : decode cL_law 580 = .ok (.aload_n 1, 1) := by decide +kernel
theorem dL_law_581 : decode cL_law 581 = .ok (.aload_n 0, 1) := by decide +kernel
theorem dL_law_582 : decode cL_law 582 = .ok (.iload 4, 2) := by decide +kernel
theorem dL_law_584 : decode cL_law 584 = .ok (.iconst 1, 1) := by decide +kernel
theorem dL_law_585 : decode cL_law 585 = .ok (.iadd, 1) := by decide +kernel
theorem dL_law_586 : decode cL_law 586 = .ok (.iaload, 1) := by decide +kernel
theorem dL_law_587 : decode cL_law 587 = .ok (.aload_n 3, 1) := by decide +kernel
theorem dL_law_588 : decode cL_law 588 = .ok (.invokestatic 134, 3) := by decide +kernel
theorem dL_law_591 : decode cL_law 591 = .ok (.istore 5, 2) := by decide +kernel
theorem dL_law_593 : decode cL_law 593 = .ok (.aload_n 2, 1) := by decide +kernel
theorem dL_law_594 : decode cL_law 594 = .ok (.aload_n 0, 1) := by decide +kernel
theorem dL_law_595 : decode cL_law 595 = .ok (.iload 4, 2) := by decide +kernel
theorem dL_law_597 : decode cL_law 597 = .ok (.iconst 1, 1) := by decide +kernel
theorem dL_law_598 : decode cL_law 598 = .ok (.iadd, 1) := by decide +kernel
theorem dL_law_599 : decode cL_law 599 = .ok (.iaload, 1) := by decide +kernel
theorem dL_law_600 : decode cL_law 600 = .ok (.invokevirtual 137, 3) := by decide +kernel
theorem dL_law_603 : decode cL_law 603 = .ok (.istore 6, 2) := by decide +kernel
theorem dL_law_605 : decode cL_law 605 = .ok (.goto 902, 3) := by decide +kernel
theorem dL_law_608 : decode cL_law 608 = .ok (.aload_n 1, 1) := by decide +kernel
theorem dL_law_609 : decode cL_law 609 = .ok (.aload_n 0, 1) := by decide +kernel
theorem dL_law_610 : decode cL_law 610 = .ok (.iload 4, 2) := by decide +kernel
theorem dL_law_612 : decode cL_law 612 = .ok (.iconst 1, 1) := by decide +kernel
theorem dL_law_613 : decode cL_law 613 = .ok (.iadd, 1) := by decide +kernel
theorem dL_law_614 : decode cL_law 614 = .ok (.iaload, 1) := by decide +kernel
theorem dL_law_615 : decode cL_law 615 = .ok (.aload_n 3, 1) := by decide +kernel
theorem dL_law_616 : decode cL_law 616 = .ok (.invokestatic 138, 3) := by decide +kernel
theorem dL_law_619 : decode cL_law 619 = .ok (.istore 5, 2) := by decide +kernel
theorem dL_law_621 : decode cL_law 621 = .ok (.aload_n 2, 1) := by decide +kernel
theorem dL_law_622 : decode cL_law 622 = .ok (.aload_n 0, 1) := by decide +kernel
theorem dL_law_623 : decode cL_law 623 = .ok (.iload 4, 2) := by decide +kernel
theorem dL_law_625 : decode cL_law 625 = .ok (.iconst 1, 1) := by decide +kernel
theorem dL_law_626 : decode cL_law 626 = .ok (.iadd, 1) := by decide +kernel
theorem dL_law_627 : decode cL_law 627 = .ok (.iaload, 1) := by decide +kernel
theorem dL_law_628 : decode cL_law 628 = .ok (.invokevirtual 140, 3) := by decide +kernel
theorem dL_law_631 : decode cL_law 631 = .ok (.istore 6, 2) := by decide +kernel
theorem dL_law_633 : decode cL_law 633 = .ok (.goto 874, 3) := by decide +kernel
theorem dL_law_636 : decode cL_law 636 = .ok (.aload_n 1, 1) := by decide +kernel
theorem dL_law_637 : decode cL_law 637 = .ok (.aload_n 0, 1) := by decide +kernel
theorem dL_law_638 : decode cL_law 638 = .ok (.iload 4, 2) := by decide +kernel
theorem dL_law_640 : decode cL_law 640 = .ok (.iconst 1, 1) := by decide +kernel
theorem dL_law_641 : decode cL_law 641 = .ok (.iadd, 1) := by decide +kernel
theorem dL_law_642 : decode cL_law 642 = .ok (.iaload, 1) := by decide +kernel
theorem dL_law_643 : decode cL_law 643 = .ok (.aload_n 3, 1) := by decide +kernel
theorem dL_law_644 : decode cL_law 644 = .ok (.invokestatic 141, 3) := by decide +kernel
theorem dL_law_647 : decode cL_law 647 = .ok (.istore 5, 2) := by decide +kernel
theorem dL_law_649 : decode cL_law 649 = .ok (.aload_n 2, 1) := by decide +kernel
theorem dL_law_650 : decode cL_law 650 = .ok (.aload_n 0, 1) := by decide +kernel
theorem dL_law_651 : decode cL_law 651 = .ok (.iload 4, 2) := by decide +kernel
theorem dL_law_653 : decode cL_law 653 = .ok (.iconst 1, 1) := by decide +kernel
theorem dL_law_654 : decode cL_law 654 = .ok (.iadd, 1) := by decide +kernel
theorem dL_law_655 : decode cL_law 655 = .ok (.iaload, 1) := by decide +kernel
theorem dL_law_656 : decode cL_law 656 = .ok (.invokevirtual 143, 3) := by decide +kernel
theorem dL_law_659 : decode cL_law 659 = .ok (.istore 6, 2) := by decide +kernel
theorem dL_law_661 : decode cL_law 661 = .ok (.goto 846, 3) := by decide +kernel
theorem dL_law_664 : decode cL_law 664 = .ok (.aload_n 1, 1) := by decide +kernel
theorem dL_law_665 : decode cL_law 665 = .ok (.aload_n 3, 1) := by decide +kernel
theorem dL_law_666 : decode cL_law 666 = .ok (.invokestatic 144, 3) := by decide +kernel
theorem dL_law_669 : decode cL_law 669 = .ok (.istore 5, 2) := by decide +kernel
theorem dL_law_671 : decode cL_law 671 = .ok (.aload_n 2, 1) := by decide +kernel
theorem dL_law_672 : decode cL_law 672 = .ok (.invokevirtual 146, 3) := by decide +kernel
theorem dL_law_675 : decode cL_law 675 = .ok (.istore 6, 2) := by decide +kernel
theorem dL_law_677 : decode cL_law 677 = .ok (.goto 830, 3) := by decide +kernel
theorem dL_law_680 : decode cL_law 680 = .ok (.aload_n 1, 1) := by decide +kernel
theorem dL_law_681 : decode cL_law 681 = .ok (.aload_n 0, 1) := by decide +kernel
theorem dL_law_682 : decode cL_law 682 = .ok (.iload 4, 2) := by decide +kernel
theorem dL_law_684 : decode cL_law 684 = .ok (.iconst 1, 1) := by decide +kernel
theorem dL_law_685 : decode cL_law 685 = .ok (.iadd, 1) := by decide +kernel
theorem dL_law_686 : decode cL_law 686 = .ok (.iaload, 1) := by decide +kernel
theorem dL_law_687 : decode cL_law 687 = .ok (.aload_n 0, 1) := by decide +kernel
theorem dL_law_688 : decode cL_law 688 = .ok (.iload 4, 2) := by decide +kernel
theorem dL_law_690 : decode cL_law 690 = .ok (.iconst 2, 1) := by decide +kernel
theorem dL_law_691 : decode cL_law 691 = .ok (.iadd, 1) := by decide +kernel
theorem dL_law_692 : decode cL_law 692 = .ok (.iaload, 1) := by decide +kernel
theorem dL_law_693 : decode cL_law 693 = .ok (.aload_n 3, 1) := by decide +kernel
theorem dL_law_694 : decode cL_law 694 = .ok (.invokestatic 147, 3) := by decide +kernel
theorem dL_law_697 : decode cL_law 697 = .ok (.istore 5, 2) := by decide +kernel
theorem dL_law_699 : decode cL_law 699 = .ok (.aload_n 2, 1) := by decide +kernel
theorem dL_law_700 : decode cL_law 700 = .ok (.aload_n 0, 1) := by decide +kernel
theorem dL_law_701 : decode cL_law 701 = .ok (.iload 4, 2) := by decide +kernel
theorem dL_law_703 : decode cL_law 703 = .ok (.iconst 1, 1) := by decide +kernel
theorem dL_law_704 : decode cL_law 704 = .ok (.iadd, 1) := by decide +kernel
theorem dL_law_705 : decode cL_law 705 = .ok (.iaload, 1) := by decide +kernel
theorem dL_law_706 : decode cL_law 706 = .ok (.aload_n 0, 1) := by decide +kernel
theorem dL_law_707 : decode cL_law 707 = .ok (.iload 4, 2) := by decide +kernel
theorem dL_law_709 : decode cL_law 709 = .ok (.iconst 2, 1) := by decide +kernel
theorem dL_law_710 : decode cL_law 710 = .ok (.iadd, 1) := by decide +kernel
theorem dL_law_711 : decode cL_law 711 = .ok (.iaload, 1) := by decide +kernel
theorem dL_law_712 : decode cL_law 712 = .ok (.invokevirtual 149, 3) := by decide +kernel
theorem dL_law_715 : decode cL_law 715 = .ok (.istore 6, 2) := by decide +kernel
theorem dL_law_717 : decode cL_law 717 = .ok (.goto 790, 3) := by decide +kernel
theorem dL_law_720 : decode cL_law 720 = .ok (.aload_n 1, 1) := by decide +kernel
theorem dL_law_721 : decode cL_law 721 = .ok (.aload_n 3, 1) := by decide +kernel
theorem dL_law_722 : decode cL_law 722 = .ok (.invokestatic 150, 3) := by decide +kernel
theorem dL_law_725 : decode cL_law 725 = .ok (.istore 5, 2) := by decide +kernel
theorem dL_law_727 : decode cL_law 727 = .ok (.aload_n 2, 1) := by decide +kernel
theorem dL_law_728 : decode cL_law 728 = .ok (.invokevirtual 152, 3) := by decide +kernel
theorem dL_law_731 : decode cL_law 731 = .ok (.istore 6, 2) := by decide +kernel
theorem dL_law_733 : decode cL_law 733 = .ok (.goto 774, 3) := by decide +kernel
theorem dL_law_736 : decode cL_law 736 = .ok (.aload_n 1, 1) := by decide +kernel
theorem dL_law_737 : decode cL_law 737 = .ok (.aload_n 0, 1) := by decide +kernel
theorem dL_law_738 : decode cL_law 738 = .ok (.iload 4, 2) := by decide +kernel
theorem dL_law_740 : decode cL_law 740 = .ok (.iconst 1, 1) := by decide +kernel
theorem dL_law_741 : decode cL_law 741 = .ok (.iadd, 1) := by decide +kernel
theorem dL_law_742 : decode cL_law 742 = .ok (.iaload, 1) := by decide +kernel
theorem dL_law_743 : decode cL_law 743 = .ok (.aload_n 0, 1) := by decide +kernel
theorem dL_law_744 : decode cL_law 744 = .ok (.iload 4, 2) := by decide +kernel
theorem dL_law_746 : decode cL_law 746 = .ok (.iconst 2, 1) := by decide +kernel
theorem dL_law_747 : decode cL_law 747 = .ok (.iadd, 1) := by decide +kernel
theorem dL_law_748 : decode cL_law 748 = .ok (.iaload, 1) := by decide +kernel
theorem dL_law_749 : decode cL_law 749 = .ok (.invokevirtual 153, 3) := by decide +kernel
theorem dL_law_752 : decode cL_law 752 = .ok (.pop, 1) := by decide +kernel
theorem dL_law_753 : decode cL_law 753 = .ok (.aload_n 2, 1) := by decide +kernel
theorem dL_law_754 : decode cL_law 754 = .ok (.aload_n 0, 1) := by decide +kernel
theorem dL_law_755 : decode cL_law 755 = .ok (.iload 4, 2) := by decide +kernel
theorem dL_law_757 : decode cL_law 757 = .ok (.iconst 1, 1) := by decide +kernel
theorem dL_law_758 : decode cL_law 758 = .ok (.iadd, 1) := by decide +kernel
theorem dL_law_759 : decode cL_law 759 = .ok (.iaload, 1) := by decide +kernel
theorem dL_law_760 : decode cL_law 760 = .ok (.aload_n 0, 1) := by decide +kernel
theorem dL_law_761 : decode cL_law 761 = .ok (.iload 4, 2) := by decide +kernel
theorem dL_law_763 : decode cL_law 763 = .ok (.iconst 2, 1) := by decide +kernel
theorem dL_law_764 : decode cL_law 764 = .ok (.iadd, 1) := by decide +kernel
theorem dL_law_765 : decode cL_law 765 = .ok (.iaload, 1) := by decide +kernel
theorem dL_law_766 : decode cL_law 766 = .ok (.invokevirtual 156, 3) := by decide +kernel
theorem dL_law_769 : decode cL_law 769 = .ok (.pop, 1) := by decide +kernel
theorem dL_law_770 : decode cL_law 770 = .ok (.goto 737, 3) := by decide +kernel
theorem dL_law_773 : decode cL_law 773 = .ok (.aload_n 1, 1) := by decide +kernel
theorem dL_law_774 : decode cL_law 774 = .ok (.aload_n 0, 1) := by decide +kernel
theorem dL_law_775 : decode cL_law 775 = .ok (.iload 4, 2) := by decide +kernel
theorem dL_law_777 : decode cL_law 777 = .ok (.iconst 1, 1) := by decide +kernel
theorem dL_law_778 : decode cL_law 778 = .ok (.iadd, 1) := by decide +kernel
theorem dL_law_779 : decode cL_law 779 = .ok (.iaload, 1) := by decide +kernel
theorem dL_law_780 : decode cL_law 780 = .ok (.aload_n 3, 1) := by decide +kernel
theorem dL_law_781 : decode cL_law 781 = .ok (.invokestatic 157, 3) := by decide +kernel
theorem dL_law_784 : decode cL_law 784 = .ok (.istore 5, 2) := by decide +kernel
theorem dL_law_786 : decode cL_law 786 = .ok (.aload_n 2, 1) := by decide +kernel
theorem dL_law_787 : decode cL_law 787 = .ok (.aload_n 0, 1) := by decide +kernel
theorem dL_law_788 : decode cL_law 788 = .ok (.iload 4, 2) := by decide +kernel
theorem dL_law_790 : decode cL_law 790 = .ok (.iconst 1, 1) := by decide +kernel
theorem dL_law_791 : decode cL_law 791 = .ok (.iadd, 1) := by decide +kernel
theorem dL_law_792 : decode cL_law 792 = .ok (.iaload, 1) := by decide +kernel
theorem dL_law_793 : decode cL_law 793 = .ok (.invokevirtual 159, 3) := by decide +kernel
theorem dL_law_796 : decode cL_law 796 = .ok (.istore 6, 2) := by decide +kernel
theorem dL_law_798 : decode cL_law 798 = .ok (.goto 709, 3) := by decide +kernel
theorem dL_law_801 : decode cL_law 801 = .ok (.aload_n 1, 1) := by decide +kernel
theorem dL_law_802 : decode cL_law 802 = .ok (.aload_n 0, 1) := by decide +kernel
theorem dL_law_803 : decode cL_law 803 = .ok (.iload 4, 2) := by decide +kernel
theorem dL_law_805 : decode cL_law 805 = .ok (.iconst 1, 1) := by decide +kernel
theorem dL_law_806 : decode cL_law 806 = .ok (.iadd, 1) := by decide +kernel
theorem dL_law_807 : decode cL_law 807 = .ok (.iaload, 1) := by decide +kernel
theorem dL_law_808 : decode cL_law 808 = .ok (.invokevirtual 160, 3) := by decide +kernel
theorem dL_law_811 : decode cL_law 811 = .ok (.pop, 1) := by decide +kernel
theorem dL_law_812 : decode cL_law 812 = .ok (.aload_n 2, 1) := by decide +kernel
theorem dL_law_813 : decode cL_law 813 = .ok (.aload_n 0, 1) := by decide +kernel
theorem dL_law_814 : decode cL_law 814 = .ok (.iload 4, 2) := by decide +kernel
theorem dL_law_816 : decode cL_law 816 = .ok (.iconst 1, 1) := by decide +kernel
theorem dL_law_817 : decode cL_law 817 = .ok (.iadd, 1) := by decide +kernel
theorem dL_law_818 : decode cL_law 818 = .ok (.iaload, 1) := by decide +kernel
theorem dL_law_819 : decode cL_law 819 = .ok (.invokevirtual 163, 3) := by decide +kernel
theorem dL_law_822 : decode cL_law 822 = .ok (.pop, 1) := by decide +kernel
theorem dL_law_823 : decode cL_law 823 = .ok (.goto 684, 3) := by decide +kernel
theorem dL_law_826 : decode cL_law 826 = .ok (.aload_n 1, 1) := by decide +kernel
theorem dL_law_827 : decode cL_law 827 = .ok (.aload_n 0, 1) := by decide +kernel
theorem dL_law_828 : decode cL_law 828 = .ok (.iload 4, 2) := by decide +kernel
theorem dL_law_830 : decode cL_law 830 = .ok (.iconst 1, 1) := by decide +kernel
theorem dL_law_831 : decode cL_law 831 = .ok (.iadd, 1) := by decide +kernel
theorem dL_law_832 : decode cL_law 832 = .ok (.iaload, 1) := by decide +kernel
theorem dL_law_833 : decode cL_law 833 = .ok (.invokevirtual 164, 3) := by decide +kernel
theorem dL_law_836 : decode cL_law 836 = .ok (.pop, 1) := by decide +kernel
theorem dL_law_837 : decode cL_law 837 = .ok (.aload_n 2, 1) := by decide +kernel
theorem dL_law_838 : decode cL_law 838 = .ok (.aload_n 0, 1) := by decide +kernel
theorem dL_law_839 : decode cL_law 839 = .ok (.iload 4, 2) := by decide +kernel
theorem dL_law_841 : decode cL_law 841 = .ok (.iconst 1, 1) := by decide +kernel
theorem dL_law_842 : decode cL_law 842 = .ok (.iadd, 1) := by decide +kernel
theorem dL_law_843 : decode cL_law 843 = .ok (.iaload, 1) := by decide +kernel
theorem dL_law_844 : decode cL_law 844 = .ok (.invokevirtual 167, 3) := by decide +kernel
theorem dL_law_847 : decode cL_law 847 = .ok (.pop, 1) := by decide +kernel
theorem dL_law_848 : decode cL_law 848 = .ok (.goto 659, 3) := by decide +kernel
theorem dL_law_851 : decode cL_law 851 = .ok (.aload_n 1, 1) := by decide +kernel
theorem dL_law_852 : decode cL_law 852 = .ok (.aload_n 0, 1) := by decide +kernel
theorem dL_law_853 : decode cL_law 853 = .ok (.iload 4, 2) := by decide +kernel
theorem dL_law_855 : decode cL_law 855 = .ok (.iconst 1, 1) := by decide +kernel
theorem dL_law_856 : decode cL_law 856 = .ok (.iadd, 1) := by decide +kernel
theorem dL_law_857 : decode cL_law 857 = .ok (.iaload, 1) := by decide +kernel
theorem dL_law_858 : decode cL_law 858 = .ok (.aload_n 3, 1) := by decide +kernel
theorem dL_law_859 : decode cL_law 859 = .ok (.invokestatic 168, 3) := by decide +kernel
theorem dL_law_862 : decode cL_law 862 = .ok (.istore 5, 2) := by decide +kernel
theorem dL_law_864 : decode cL_law 864 = .ok (.aload_n 2, 1) := by decide +kernel
theorem dL_law_865 : decode cL_law 865 = .ok (.aload_n 0, 1) := by decide +kernel
theorem dL_law_866 : decode cL_law 866 = .ok (.iload 4, 2) := by decide +kernel
theorem dL_law_868 : decode cL_law 868 = .ok (.iconst 1, 1) := by decide +kernel
theorem dL_law_869 : decode cL_law 869 = .ok (.iadd, 1) := by decide +kernel
theorem dL_law_870 : decode cL_law 870 = .ok (.iaload, 1) := by decide +kernel
theorem dL_law_871 : decode cL_law 871 = .ok (.invokevirtual 170, 3) := by decide +kernel
theorem dL_law_874 : decode cL_law 874 = .ok (.istore 6, 2) := by decide +kernel
theorem dL_law_876 : decode cL_law 876 = .ok (.goto 631, 3) := by decide +kernel
theorem dL_law_879 : decode cL_law 879 = .ok (.aload_n 1, 1) := by decide +kernel
theorem dL_law_880 : decode cL_law 880 = .ok (.aload_n 0, 1) := by decide +kernel
theorem dL_law_881 : decode cL_law 881 = .ok (.iload 4, 2) := by decide +kernel
theorem dL_law_883 : decode cL_law 883 = .ok (.iconst 1, 1) := by decide +kernel
theorem dL_law_884 : decode cL_law 884 = .ok (.iadd, 1) := by decide +kernel
theorem dL_law_885 : decode cL_law 885 = .ok (.iaload, 1) := by decide +kernel
theorem dL_law_886 : decode cL_law 886 = .ok (.aload_n 0, 1) := by decide +kernel
theorem dL_law_887 : decode cL_law 887 = .ok (.iload 4, 2) := by decide +kernel
theorem dL_law_889 : decode cL_law 889 = .ok (.iconst 2, 1) := by decide +kernel
theorem dL_law_890 : decode cL_law 890 = .ok (.iadd, 1) := by decide +kernel
theorem dL_law_891 : decode cL_law 891 = .ok (.iaload, 1) := by decide +kernel
theorem dL_law_892 : decode cL_law 892 = .ok (.aload_n 0, 1) := by decide +kernel
theorem dL_law_893 : decode cL_law 893 = .ok (.iload 4, 2) := by decide +kernel
theorem dL_law_895 : decode cL_law 895 = .ok (.iconst 3, 1) := by decide +kernel
theorem dL_law_896 : decode cL_law 896 = .ok (.iadd, 1) := by decide +kernel
theorem dL_law_897 : decode cL_law 897 = .ok (.iaload, 1) := by decide +kernel
theorem dL_law_898 : decode cL_law 898 = .ok (.aload_n 0, 1) := by decide +kernel
theorem dL_law_899 : decode cL_law 899 = .ok (.iload 4, 2) := by decide +kernel
theorem dL_law_901 : decode cL_law 901 = .ok (.iconst 4, 1) := by decide +kernel
theorem dL_law_902 : decode cL_law 902 = .ok (.iadd, 1) := by decide +kernel
theorem dL_law_903 : decode cL_law 903 = .ok (.iaload, 1) := by decide +kernel
theorem dL_law_904 : decode cL_law 904 = .ok (.aload_n 3, 1) := by decide +kernel
theorem dL_law_905 : decode cL_law 905 = .ok (.invokestatic 171, 3) := by decide +kernel
theorem dL_law_908 : decode cL_law 908 = .ok (.istore 5, 2) := by decide +kernel
theorem dL_law_910 : decode cL_law 910 = .ok (.aload_n 2, 1) := by decide +kernel
theorem dL_law_911 : decode cL_law 911 = .ok (.aload_n 0, 1) := by decide +kernel
theorem dL_law_912 : decode cL_law 912 = .ok (.iload 4, 2) := by decide +kernel
theorem dL_law_914 : decode cL_law 914 = .ok (.iconst 1, 1) := by decide +kernel
theorem dL_law_915 : decode cL_law 915 = .ok (.iadd, 1) := by decide +kernel
theorem dL_law_916 : decode cL_law 916 = .ok (.iaload, 1) := by decide +kernel
theorem dL_law_917 : decode cL_law 917 = .ok (.aload_n 0, 1) := by decide +kernel
theorem dL_law_918 : decode cL_law 918 = .ok (.iload 4, 2) := by decide +kernel
theorem dL_law_920 : decode cL_law 920 = .ok (.iconst 2, 1) := by decide +kernel
theorem dL_law_921 : decode cL_law 921 = .ok (.iadd, 1) := by decide +kernel
theorem dL_law_922 : decode cL_law 922 = .ok (.iaload, 1) := by decide +kernel
theorem dL_law_923 : decode cL_law 923 = .ok (.aload_n 0, 1) := by decide +kernel
theorem dL_law_924 : decode cL_law 924 = .ok (.iload 4, 2) := by decide +kernel
theorem dL_law_926 : decode cL_law 926 = .ok (.iconst 3, 1) := by decide +kernel
theorem dL_law_927 : decode cL_law 927 = .ok (.iadd, 1) := by decide +kernel
theorem dL_law_928 : decode cL_law 928 = .ok (.iaload, 1) := by decide +kernel
theorem dL_law_929 : decode cL_law 929 = .ok (.aload_n 0, 1) := by decide +kernel
theorem dL_law_930 : decode cL_law 930 = .ok (.iload 4, 2) := by decide +kernel
theorem dL_law_932 : decode cL_law 932 = .ok (.iconst 4, 1) := by decide +kernel
theorem dL_law_933 : decode cL_law 933 = .ok (.iadd, 1) := by decide +kernel
theorem dL_law_934 : decode cL_law 934 = .ok (.iaload, 1) := by decide +kernel
theorem dL_law_935 : decode cL_law 935 = .ok (.invokevirtual 174, 3) := by decide +kernel
theorem dL_law_938 : decode cL_law 938 = .ok (.istore 6, 2) := by decide +kernel
theorem dL_law_940 : decode cL_law 940 = .ok (.goto 567, 3) := by decide +kernel
theorem dL_law_943 : decode cL_law 943 = .ok (.aload_n 1, 1) := by decide +kernel
theorem dL_law_944 : decode cL_law 944 = .ok (.aload_n 0, 1) := by decide +kernel
theorem dL_law_945 : decode cL_law 945 = .ok (.iload 4, 2) := by decide +kernel
theorem dL_law_947 : decode cL_law 947 = .ok (.iconst 1, 1) := by decide +kernel
theorem dL_law_948 : decode cL_law 948 = .ok (.iadd, 1) := by decide +kernel
theorem dL_law_949 : decode cL_law 949 = .ok (.iaload, 1) := by decide +kernel
theorem dL_law_950 : decode cL_law 950 = .ok (.aload_n 0, 1) := by decide +kernel
theorem dL_law_951 : decode cL_law 951 = .ok (.iload 4, 2) := by decide +kernel
theorem dL_law_953 : decode cL_law 953 = .ok (.iconst 2, 1) := by decide +kernel
theorem dL_law_954 : decode cL_law 954 = .ok (.iadd, 1) := by decide +kernel
theorem dL_law_955 : decode cL_law 955 = .ok (.iaload, 1) := by decide +kernel
theorem dL_law_956 : decode cL_law 956 = .ok (.invokevirtual 175, 3) := by decide +kernel
theorem dL_law_959 : decode cL_law 959 = .ok (.pop, 1) := by decide +kernel
theorem dL_law_960 : decode cL_law 960 = .ok (.aload_n 2, 1) := by decide +kernel
theorem dL_law_961 : decode cL_law 961 = .ok (.aload_n 0, 1) := by decide +kernel
theorem dL_law_962 : decode cL_law 962 = .ok (.iload 4, 2) := by decide +kernel
theorem dL_law_964 : decode cL_law 964 = .ok (.iconst 1, 1) := by decide +kernel
theorem dL_law_965 : decode cL_law 965 = .ok (.iadd, 1) := by decide +kernel
theorem dL_law_966 : decode cL_law 966 = .ok (.iaload, 1) := by decide +kernel
theorem dL_law_967 : decode cL_law 967 = .ok (.aload_n 0, 1) := by decide +kernel
theorem dL_law_968 : decode cL_law 968 = .ok (.iload 4, 2) := by decide +kernel
theorem dL_law_970 : decode cL_law 970 = .ok (.iconst 2, 1) := by decide +kernel
theorem dL_law_971 : decode cL_law 971 = .ok (.iadd, 1) := by decide +kernel
theorem dL_law_972 : decode cL_law 972 = .ok (.iaload, 1) := by decide +kernel
theorem dL_law_973 : decode cL_law 973 = .ok (.invokevirtual 179, 3) := by decide +kernel
theorem dL_law_976 : decode cL_law 976 = .ok (.pop, 1) := by decide +kernel
theorem dL_law_977 : decode cL_law 977 = .ok (.goto 530, 3) := by decide +kernel
theorem dL_law_980 : decode cL_law 980 = .ok (.aload_n 1, 1) := by decide +kernel
theorem dL_law_981 : decode cL_law 981 = .ok (.aload_n 0, 1) := by decide +kernel
theorem dL_law_982 : decode cL_law 982 = .ok (.iload 4, 2) := by decide +kernel
theorem dL_law_984 : decode cL_law 984 = .ok (.iconst 1, 1) := by decide +kernel
theorem dL_law_985 : decode cL_law 985 = .ok (.iadd, 1) := by decide +kernel
theorem dL_law_986 : decode cL_law 986 = .ok (.iaload, 1) := by decide +kernel
theorem dL_law_987 : decode cL_law 987 = .ok (.invokevirtual 180, 3) := by decide +kernel
theorem dL_law_990 : decode cL_law 990 = .ok (.pop, 1) := by decide +kernel
theorem dL_law_991 : decode cL_law 991 = .ok (.aload_n 2, 1) := by decide +kernel
theorem dL_law_992 : decode cL_law 992 = .ok (.aload_n 0, 1) := by decide +kernel
theorem dL_law_993 : decode cL_law 993 = .ok (.iload 4, 2) := by decide +kernel
theorem dL_law_995 : decode cL_law 995 = .ok (.iconst 1, 1) := by decide +kernel
theorem dL_law_996 : decode cL_law 996 = .ok (.iadd, 1) := by decide +kernel
theorem dL_law_997 : decode cL_law 997 = .ok (.iaload, 1) := by decide +kernel
theorem dL_law_998 : decode cL_law 998 = .ok (.invokevirtual 183, 3) := by decide +kernel
theorem dL_law_1001 : decode cL_law 1001 = .ok (.pop, 1) := by decide +kernel
theorem dL_law_1002 : decode cL_law 1002 = .ok (.goto 505, 3) := by decide +kernel
theorem dL_law_1005 : decode cL_law 1005 = .ok (.aload_n 1, 1) := by decide +kernel
theorem dL_law_1006 : decode cL_law 1006 = .ok (.invokevirtual 184, 3) := by decide +kernel
theorem dL_law_1009 : decode cL_law 1009 = .ok (.pop, 1) := by decide +kernel
theorem dL_law_1010 : decode cL_law 1010 = .ok (.aload_n 2, 1) := by decide +kernel
theorem dL_law_1011 : decode cL_law 1011 = .ok (.invokevirtual 187, 3) := by decide +kernel
theorem dL_law_1014 : decode cL_law 1014 = .ok (.pop, 1) := by decide +kernel
theorem dL_law_1015 : decode cL_law 1015 = .ok (.goto 492, 3) := by decide +kernel
theorem dL_law_1018 : decode cL_law 1018 = .ok (.aload_n 1, 1) := by decide +kernel
theorem dL_law_1019 : decode cL_law 1019 = .ok (.aload_n 0, 1) := by decide +kernel
theorem dL_law_1020 : decode cL_law 1020 = .ok (.iload 4, 2) := by decide +kernel
theorem dL_law_1022 : decode cL_law 1022 = .ok (.iconst 1, 1) := by decide +kernel
theorem dL_law_1023 : decode cL_law 1023 = .ok (.iadd, 1) := by decide +kernel
theorem dL_law_1024 : decode cL_law 1024 = .ok (.iaload, 1) := by decide +kernel
theorem dL_law_1025 : decode cL_law 1025 = .ok (.aload_n 0, 1) := by decide +kernel
theorem dL_law_1026 : decode cL_law 1026 = .ok (.iload 4, 2) := by decide +kernel
theorem dL_law_1028 : decode cL_law 1028 = .ok (.iconst 2, 1) := by decide +kernel
theorem dL_law_1029 : decode cL_law 1029 = .ok (.iadd, 1) := by decide +kernel
theorem dL_law_1030 : decode cL_law 1030 = .ok (.iaload, 1) := by decide +kernel
theorem dL_law_1031 : decode cL_law 1031 = .ok (.invokevirtual 188, 3) := by decide +kernel
theorem dL_law_1034 : decode cL_law 1034 = .ok (.pop, 1) := by decide +kernel
theorem dL_law_1035 : decode cL_law 1035 = .ok (.aload_n 2, 1) := by decide +kernel
theorem dL_law_1036 : decode cL_law 1036 = .ok (.aload_n 0, 1) := by decide +kernel
theorem dL_law_1037 : decode cL_law 1037 = .ok (.iload 4, 2) := by decide +kernel
theorem dL_law_1039 : decode cL_law 1039 = .ok (.iconst 1, 1) := by decide +kernel
theorem dL_law_1040 : decode cL_law 1040 = .ok (.iadd, 1) := by decide +kernel
theorem dL_law_1041 : decode cL_law 1041 = .ok (.iaload, 1) := by decide +kernel
theorem dL_law_1042 : decode cL_law 1042 = .ok (.aload_n 0, 1) := by decide +kernel
theorem dL_law_1043 : decode cL_law 1043 = .ok (.iload 4, 2) := by decide +kernel
theorem dL_law_1045 : decode cL_law 1045 = .ok (.iconst 2, 1) := by decide +kernel
theorem dL_law_1046 : decode cL_law 1046 = .ok (.iadd, 1) := by decide +kernel
theorem dL_law_1047 : decode cL_law 1047 = .ok (.iaload, 1) := by decide +kernel
theorem dL_law_1048 : decode cL_law 1048 = .ok (.invokevirtual 191, 3) := by decide +kernel
theorem dL_law_1051 : decode cL_law 1051 = .ok (.pop, 1) := by decide +kernel
theorem dL_law_1052 : decode cL_law 1052 = .ok (.goto 455, 3) := by decide +kernel
theorem dL_law_1055 : decode cL_law 1055 = .ok (.aload_n 1, 1) := by decide +kernel
theorem dL_law_1056 : decode cL_law 1056 = .ok (.aload_n 0, 1) := by decide +kernel
theorem dL_law_1057 : decode cL_law 1057 = .ok (.iload 4, 2) := by decide +kernel
theorem dL_law_1059 : decode cL_law 1059 = .ok (.iconst 1, 1) := by decide +kernel
theorem dL_law_1060 : decode cL_law 1060 = .ok (.iadd, 1) := by decide +kernel
theorem dL_law_1061 : decode cL_law 1061 = .ok (.iaload, 1) := by decide +kernel
theorem dL_law_1062 : decode cL_law 1062 = .ok (.aload_n 0, 1) := by decide +kernel
theorem dL_law_1063 : decode cL_law 1063 = .ok (.iload 4, 2) := by decide +kernel
theorem dL_law_1065 : decode cL_law 1065 = .ok (.iconst 2, 1) := by decide +kernel
theorem dL_law_1066 : decode cL_law 1066 = .ok (.iadd, 1) := by decide +kernel
theorem dL_law_1067 : decode cL_law 1067 = .ok (.iaload, 1) := by decide +kernel
theorem dL_law_1068 : decode cL_law 1068 = .ok (.invokevirtual 192, 3) := by decide +kernel
theorem dL_law_1071 : decode cL_law 1071 = .ok (.pop, 1) := by decide +kernel
theorem dL_law_1072 : decode cL_law 1072 = .ok (.aload_n 2, 1) := by decide +kernel
theorem dL_law_1073 : decode cL_law 1073 = .ok (.aload_n 0, 1) := by decide +kernel
theorem dL_law_1074 : decode cL_law 1074 = .ok (.iload 4, 2) := by decide +kernel
theorem dL_law_1076 : decode cL_law 1076 = .ok (.iconst 1, 1) := by decide +kernel
theorem dL_law_1077 : decode cL_law 1077 = .ok (.iadd, 1) := by decide +kernel
theorem dL_law_1078 : decode cL_law 1078 = .ok (.iaload, 1) := by decide +kernel
theorem dL_law_1079 : decode cL_law 1079 = .ok (.aload_n 0, 1) := by decide +kernel
theorem dL_law_1080 : decode cL_law 1080 = .ok (.iload 4, 2) := by decide +kernel
theorem dL_law_1082 : decode cL_law 1082 = .ok (.iconst 2, 1) := by decide +kernel
theorem dL_law_1083 : decode cL_law 1083 = .ok (.iadd, 1) := by decide +kernel
theorem dL_law_1084 : decode cL_law 1084 = .ok (.iaload, 1) := by decide +kernel
theorem dL_law_1085 : decode cL_law 1085 = .ok (.invokevirtual 195, 3) := by decide +kernel
theorem dL_law_1088 : decode cL_law 1088 = .ok (.pop, 1) := by decide +kernel
theorem dL_law_1089 : decode cL_law 1089 = .ok (.goto 418, 3) := by decide +kernel
theorem dL_law_1092 : decode cL_law 1092 = .ok (.aload_n 1, 1) := by decide +kernel
theorem dL_law_1093 : decode cL_law 1093 = .ok (.invokevirtual 196, 3) := by decide +kernel
theorem dL_law_1096 : decode cL_law 1096 = .ok (.aload_n 2, 1) := by decide +kernel
theorem dL_law_1097 : decode cL_law 1097 = .ok (.invokevirtual 199, 3) := by decide +kernel
theorem dL_law_1100 : decode cL_law 1100 = .ok (.goto 407, 3) := by decide +kernel
theorem dL_law_1103 : decode cL_law 1103 = .ok (.aload_n 1, 1) := by decide +kernel
theorem dL_law_1104 : decode cL_law 1104 = .ok (.aload_n 0, 1) := by decide +kernel
theorem dL_law_1105 : decode cL_law 1105 = .ok (.iload 4, 2) := by decide +kernel
theorem dL_law_1107 : decode cL_law 1107 = .ok (.iconst 1, 1) := by decide +kernel
theorem dL_law_1108 : decode cL_law 1108 = .ok (.iadd, 1) := by decide +kernel
theorem dL_law_1109 : decode cL_law 1109 = .ok (.iaload, 1) := by decide +kernel
theorem dL_law_1110 : decode cL_law 1110 = .ok (.aload_n 0, 1) := by decide +kernel
theorem dL_law_1111 : decode cL_law 1111 = .ok (.iload 4, 2) := by decide +kernel
theorem dL_law_1113 : decode cL_law 1113 = .ok (.iconst 2, 1) := by decide +kernel
theorem dL_law_1114 : decode cL_law 1114 = .ok (.iadd, 1) := by decide +kernel
theorem dL_law_1115 : decode cL_law 1115 = .ok (.iaload, 1) := by decide +kernel
theorem dL_law_1116 : decode cL_law 1116 = .ok (.aload_n 0, 1) := by decide +kernel
theorem dL_law_1117 : decode cL_law 1117 = .ok (.iload 4, 2) := by decide +kernel
theorem dL_law_1119 : decode cL_law 1119 = .ok (.iconst 3, 1) := by decide +kernel
theorem dL_law_1120 : decode cL_law 1120 = .ok (.iadd, 1) := by decide +kernel
theorem dL_law_1121 : decode cL_law 1121 = .ok (.iaload, 1) := by decide +kernel
theorem dL_law_1122 : decode cL_law 1122 = .ok (.aload_n 3, 1) := by decide +kernel
theorem dL_law_1123 : decode cL_law 1123 = .ok (.invokestatic 200, 3) := by decide +kernel
theorem dL_law_1126 : decode cL_law 1126 = .ok (.istore 5, 2) := by decide +kernel
theorem dL_law_1128 : decode cL_law 1128 = .ok (.aload_n 2, 1) := by decide +kernel
theorem dL_law_1129 : decode cL_law 1129 = .ok (.aload_n 0, 1) := by decide +kernel
theorem dL_law_1130 : decode cL_law 1130 = .ok (.iload 4, 2) := by decide +kernel
theorem dL_law_1132 : decode cL_law 1132 = .ok (.iconst 1, 1) := by decide +kernel
theorem dL_law_1133 : decode cL_law 1133 = .ok (.iadd, 1) := by decide +kernel
theorem dL_law_1134 : decode cL_law 1134 = .ok (.iaload, 1) := by decide +kernel
theorem dL_law_1135 : decode cL_law 1135 = .ok (.aload_n 0, 1) := by decide +kernel
theorem dL_law_1136 : decode cL_law 1136 = .ok (.iload 4, 2) := by decide +kernel
theorem dL_law_1138 : decode cL_law 1138 = .ok (.iconst 2, 1) := by decide +kernel
theorem dL_law_1139 : decode cL_law 1139 = .ok (.iadd, 1) := by decide +kernel
theorem dL_law_1140 : decode cL_law 1140 = .ok (.iaload, 1) := by decide +kernel
theorem dL_law_1141 : decode cL_law 1141 = .ok (.aload_n 0, 1) := by decide +kernel
theorem dL_law_1142 : decode cL_law 1142 = .ok (.iload 4, 2) := by decide +kernel
theorem dL_law_1144 : decode cL_law 1144 = .ok (.iconst 3, 1) := by decide +kernel
theorem dL_law_1145 : decode cL_law 1145 = .ok (.iadd, 1) := by decide +kernel
theorem dL_law_1146 : decode cL_law 1146 = .ok (.iaload, 1) := by decide +kernel
theorem dL_law_1147 : decode cL_law 1147 = .ok (.invokevirtual 202, 3) := by decide +kernel
theorem dL_law_1150 : decode cL_law 1150 = .ok (.istore 6, 2) := by decide +kernel
theorem dL_law_1152 : decode cL_law 1152 = .ok (.goto 355, 3) := by decide +kernel
theorem dL_law_1155 : decode cL_law 1155 = .ok (.aload_n 1, 1) := by decide +kernel
theorem dL_law_1156 : decode cL_law 1156 = .ok (.invokevirtual 203, 3) := by decide +kernel
theorem dL_law_1159 : decode cL_law 1159 = .ok (.pop, 1) := by decide +kernel
theorem dL_law_1160 : decode cL_law 1160 = .ok (.aload_n 2, 1) := by decide +kernel
theorem dL_law_1161 : decode cL_law 1161 = .ok (.invokevirtual 207, 3) := by decide +kernel
theorem dL_law_1164 : decode cL_law 1164 = .ok (.pop, 1) := by decide +kernel
theorem dL_law_1165 : decode cL_law 1165 = .ok (.goto 342, 3) := by decide +kernel
theorem dL_law_1168 : decode cL_law 1168 = .ok (.aload_n 1, 1) := by decide +kernel
theorem dL_law_1169 : decode cL_law 1169 = .ok (.aload_n 0, 1) := by decide +kernel
theorem dL_law_1170 : decode cL_law 1170 = .ok (.iload 4, 2) := by decide +kernel
theorem dL_law_1172 : decode cL_law 1172 = .ok (.iconst 1, 1) := by decide +kernel
theorem dL_law_1173 : decode cL_law 1173 = .ok (.iadd, 1) := by decide +kernel
theorem dL_law_1174 : decode cL_law 1174 = .ok (.iaload, 1) := by decide +kernel
theorem dL_law_1175 : decode cL_law 1175 = .ok (.invokevirtual 208, 3) := by decide +kernel
theorem dL_law_1178 : decode cL_law 1178 = .ok (.pop, 1) := by decide +kernel
theorem dL_law_1179 : decode cL_law 1179 = .ok (.aload_n 2, 1) := by decide +kernel
theorem dL_law_1180 : decode cL_law 1180 = .ok (.aload_n 0, 1) := by decide +kernel
theorem dL_law_1181 : decode cL_law 1181 = .ok (.iload 4, 2) := by decide +kernel
theorem dL_law_1183 : decode cL_law 1183 = .ok (.iconst 1, 1) := by decide +kernel
theorem dL_law_1184 : decode cL_law 1184 = .ok (.iadd, 1) := by decide +kernel
theorem dL_law_1185 : decode cL_law 1185 = .ok (.iaload, 1) := by decide +kernel
theorem dL_law_1186 : decode cL_law 1186 = .ok (.invokevirtual 211, 3) := by decide +kernel
theorem dL_law_1189 : decode cL_law 1189 = .ok (.pop, 1) := by decide +kernel
theorem dL_law_1190 : decode cL_law 1190 = .ok (.goto 317, 3) := by decide +kernel
theorem dL_law_1193 : decode cL_law 1193 = .ok (.aload_n 1, 1) := by decide +kernel
theorem dL_law_1194 : decode cL_law 1194 = .ok (.aload_n 0, 1) := by decide +kernel
theorem dL_law_1195 : decode cL_law 1195 = .ok (.iload 4, 2) := by decide +kernel
theorem dL_law_1197 : decode cL_law 1197 = .ok (.iconst 1, 1) := by decide +kernel
theorem dL_law_1198 : decode cL_law 1198 = .ok (.iadd, 1) := by decide +kernel
theorem dL_law_1199 : decode cL_law 1199 = .ok (.iaload, 1) := by decide +kernel
theorem dL_law_1200 : decode cL_law 1200 = .ok (.aload_n 0, 1) := by decide +kernel
theorem dL_law_1201 : decode cL_law 1201 = .ok (.iload 4, 2) := by decide +kernel
theorem dL_law_1203 : decode cL_law 1203 = .ok (.iconst 2, 1) := by decide +kernel
theorem dL_law_1204 : decode cL_law 1204 = .ok (.iadd, 1) := by decide +kernel
theorem dL_law_1205 : decode cL_law 1205 = .ok (.iaload, 1) := by decide +kernel
theorem dL_law_1206 : decode cL_law 1206 = .ok (.aload_n 0, 1) := by decide +kernel
theorem dL_law_1207 : decode cL_law 1207 = .ok (.iload 4, 2) := by decide +kernel
theorem dL_law_1209 : decode cL_law 1209 = .ok (.iconst 3, 1) := by decide +kernel
theorem dL_law_1210 : decode cL_law 1210 = .ok (.iadd, 1) := by decide +kernel
theorem dL_law_1211 : decode cL_law 1211 = .ok (.iaload, 1) := by decide +kernel
theorem dL_law_1212 : decode cL_law 1212 = .ok (.aload_n 0, 1) := by decide +kernel
theorem dL_law_1213 : decode cL_law 1213 = .ok (.iload 4, 2) := by decide +kernel
theorem dL_law_1215 : decode cL_law 1215 = .ok (.iconst 4, 1) := by decide +kernel
theorem dL_law_1216 : decode cL_law 1216 = .ok (.iadd, 1) := by decide +kernel
theorem dL_law_1217 : decode cL_law 1217 = .ok (.iaload, 1) := by decide +kernel
theorem dL_law_1218 : decode cL_law 1218 = .ok (.aload_n 3, 1) := by decide +kernel
theorem dL_law_1219 : decode cL_law 1219 = .ok (.invokestatic 212, 3) := by decide +kernel
theorem dL_law_1222 : decode cL_law 1222 = .ok (.istore 5, 2) := by decide +kernel
theorem dL_law_1224 : decode cL_law 1224 = .ok (.aload_n 2, 1) := by decide +kernel
theorem dL_law_1225 : decode cL_law 1225 = .ok (.aload_n 0, 1) := by decide +kernel
theorem dL_law_1226 : decode cL_law 1226 = .ok (.iload 4, 2) := by decide +kernel
theorem dL_law_1228 : decode cL_law 1228 = .ok (.iconst 1, 1) := by decide +kernel
theorem dL_law_1229 : decode cL_law 1229 = .ok (.iadd, 1) := by decide +kernel
theorem dL_law_1230 : decode cL_law 1230 = .ok (.iaload, 1) := by decide +kernel
theorem dL_law_1231 : decode cL_law 1231 = .ok (.aload_n 0, 1) := by decide +kernel
theorem dL_law_1232 : decode cL_law 1232 = .ok (.iload 4, 2) := by decide +kernel
theorem dL_law_1234 : decode cL_law 1234 = .ok (.iconst 2, 1) := by decide +kernel
theorem dL_law_1235 : decode cL_law 1235 = .ok (.iadd, 1) := by decide +kernel
theorem dL_law_1236 : decode cL_law 1236 = .ok (.iaload, 1) := by decide +kernel
theorem dL_law_1237 : decode cL_law 1237 = .ok (.aload_n 0, 1) := by decide +kernel
theorem dL_law_1238 : decode cL_law 1238 = .ok (.iload 4, 2) := by decide +kernel
theorem dL_law_1240 : decode cL_law 1240 = .ok (.iconst 3, 1) := by decide +kernel
theorem dL_law_1241 : decode cL_law 1241 = .ok (.iadd, 1) := by decide +kernel
theorem dL_law_1242 : decode cL_law 1242 = .ok (.iaload, 1) := by decide +kernel
theorem dL_law_1243 : decode cL_law 1243 = .ok (.aload_n 0, 1) := by decide +kernel
theorem dL_law_1244 : decode cL_law 1244 = .ok (.iload 4, 2) := by decide +kernel
theorem dL_law_1246 : decode cL_law 1246 = .ok (.iconst 4, 1) := by decide +kernel
theorem dL_law_1247 : decode cL_law 1247 = .ok (.iadd, 1) := by decide +kernel
theorem dL_law_1248 : decode cL_law 1248 = .ok (.iaload, 1) := by decide +kernel
theorem dL_law_1249 : decode cL_law 1249 = .ok (.invokevirtual 214, 3) := by decide +kernel
theorem dL_law_1252 : decode cL_law 1252 = .ok (.istore 6, 2) := by decide +kernel
theorem dL_law_1254 : decode cL_law 1254 = .ok (.goto 253, 3) := by decide +kernel
theorem dL_law_1257 : decode cL_law 1257 = .ok (.aload_n 1, 1) := by decide +kernel
theorem dL_law_1258 : decode cL_law 1258 = .ok (.invokevirtual 215, 3) := by decide +kernel
theorem dL_law_1261 : decode cL_law 1261 = .ok (.pop, 1) := by decide +kernel
theorem dL_law_1262 : decode cL_law 1262 = .ok (.aload_n 2, 1) := by decide +kernel
theorem dL_law_1263 : decode cL_law 1263 = .ok (.invokevirtual 218, 3) := by decide +kernel
theorem dL_law_1266 : decode cL_law 1266 = .ok (.pop, 1) := by decide +kernel
theorem dL_law_1267 : decode cL_law 1267 = .ok (.goto 240, 3) := by decide +kernel
theorem dL_law_1270 : decode cL_law 1270 = .ok (.aload_n 1, 1) := by decide +kernel
theorem dL_law_1271 : decode cL_law 1271 = .ok (.aload_n 0, 1) := by decide +kernel
theorem dL_law_1272 : decode cL_law 1272 = .ok (.iload 4, 2) := by decide +kernel
theorem dL_law_1274 : decode cL_law 1274 = .ok (.iconst 1, 1) := by decide +kernel
theorem dL_law_1275 : decode cL_law 1275 = .ok (.iadd, 1) := by decide +kernel
theorem dL_law_1276 : decode cL_law 1276 = .ok (.iaload, 1) := by decide +kernel
theorem dL_law_1277 : decode cL_law 1277 = .ok (.aload_n 0, 1) := by decide +kernel
theorem dL_law_1278 : decode cL_law 1278 = .ok (.iload 4, 2) := by decide +kernel
theorem dL_law_1280 : decode cL_law 1280 = .ok (.iconst 2, 1) := by decide +kernel
theorem dL_law_1281 : decode cL_law 1281 = .ok (.iadd, 1) := by decide +kernel
theorem dL_law_1282 : decode cL_law 1282 = .ok (.iaload, 1) := by decide +kernel
theorem dL_law_1283 : decode cL_law 1283 = .ok (.aload_n 3, 1) := by decide +kernel
theorem dL_law_1284 : decode cL_law 1284 = .ok (.invokestatic 219, 3) := by decide +kernel
theorem dL_law_1287 : decode cL_law 1287 = .ok (.istore 5, 2) := by decide +kernel
theorem dL_law_1289 : decode cL_law 1289 = .ok (.aload_n 2, 1) := by decide +kernel
theorem dL_law_1290 : decode cL_law 1290 = .ok (.aload_n 0, 1) := by decide +kernel
theorem dL_law_1291 : decode cL_law 1291 = .ok (.iload 4, 2) := by decide +kernel
theorem dL_law_1293 : decode cL_law 1293 = .ok (.iconst 1, 1) := by decide +kernel
theorem dL_law_1294 : decode cL_law 1294 = .ok (.iadd, 1) := by decide +kernel
theorem dL_law_1295 : decode cL_law 1295 = .ok (.iaload, 1) := by decide +kernel
theorem dL_law_1296 : decode cL_law 1296 = .ok (.aload_n 0, 1) := by decide +kernel
theorem dL_law_1297 : decode cL_law 1297 = .ok (.iload 4, 2) := by decide +kernel
theorem dL_law_1299 : decode cL_law 1299 = .ok (.iconst 2, 1) := by decide +kernel
theorem dL_law_1300 : decode cL_law 1300 = .ok (.iadd, 1) := by decide +kernel
theorem dL_law_1301 : decode cL_law 1301 = .ok (.iaload, 1) := by decide +kernel
theorem dL_law_1302 : decode cL_law 1302 = .ok (.invokevirtual 221, 3) := by decide +kernel
theorem dL_law_1305 : decode cL_law 1305 = .ok (.istore 6, 2) := by decide +kernel
theorem dL_law_1307 : decode cL_law 1307 = .ok (.goto 200, 3) := by decide +kernel
theorem dL_law_1310 : decode cL_law 1310 = .ok (.aload_n 1, 1) := by decide +kernel
theorem dL_law_1311 : decode cL_law 1311 = .ok (.aload_n 0, 1) := by decide +kernel
theorem dL_law_1312 : decode cL_law 1312 = .ok (.iload 4, 2) := by decide +kernel
theorem dL_law_1314 : decode cL_law 1314 = .ok (.iconst 1, 1) := by decide +kernel
theorem dL_law_1315 : decode cL_law 1315 = .ok (.iadd, 1) := by decide +kernel
theorem dL_law_1316 : decode cL_law 1316 = .ok (.iaload, 1) := by decide +kernel
theorem dL_law_1317 : decode cL_law 1317 = .ok (.aload_n 0, 1) := by decide +kernel
theorem dL_law_1318 : decode cL_law 1318 = .ok (.iload 4, 2) := by decide +kernel
theorem dL_law_1320 : decode cL_law 1320 = .ok (.iconst 2, 1) := by decide +kernel
theorem dL_law_1321 : decode cL_law 1321 = .ok (.iadd, 1) := by decide +kernel
theorem dL_law_1322 : decode cL_law 1322 = .ok (.iaload, 1) := by decide +kernel
theorem dL_law_1323 : decode cL_law 1323 = .ok (.aload_n 3, 1) := by decide +kernel
theorem dL_law_1324 : decode cL_law 1324 = .ok (.invokestatic 222, 3) := by decide +kernel
theorem dL_law_1327 : decode cL_law 1327 = .ok (.istore 5, 2) := by decide +kernel
theorem dL_law_1329 : decode cL_law 1329 = .ok (.aload_n 2, 1) := by decide +kernel
theorem dL_law_1330 : decode cL_law 1330 = .ok (.aload_n 0, 1) := by decide +kernel
theorem dL_law_1331 : decode cL_law 1331 = .ok (.iload 4, 2) := by decide +kernel
theorem dL_law_1333 : decode cL_law 1333 = .ok (.iconst 1, 1) := by decide +kernel
theorem dL_law_1334 : decode cL_law 1334 = .ok (.iadd, 1) := by decide +kernel
theorem dL_law_1335 : decode cL_law 1335 = .ok (.iaload, 1) := by decide +kernel
theorem dL_law_1336 : decode cL_law 1336 = .ok (.aload_n 0, 1) := by decide +kernel
theorem dL_law_1337 : decode cL_law 1337 = .ok (.iload 4, 2) := by decide +kernel
theorem dL_law_1339 : decode cL_law 1339 = .ok (.iconst 2, 1) := by decide +kernel
theorem dL_law_1340 : decode cL_law 1340 = .ok (.iadd, 1) := by decide +kernel
theorem dL_law_1341 : decode cL_law 1341 = .ok (.iaload, 1) := by decide +kernel
theorem dL_law_1342 : decode cL_law 1342 = .ok (.invokevirtual 224, 3) := by decide +kernel
theorem dL_law_1345 : decode cL_law 1345 = .ok (.istore 6, 2) := by decide +kernel
theorem dL_law_1347 : decode cL_law 1347 = .ok (.goto 160, 3) := by decide +kernel
theorem dL_law_1350 : decode cL_law 1350 = .ok (.aload_n 1, 1) := by decide +kernel
theorem dL_law_1351 : decode cL_law 1351 = .ok (.aload_n 0, 1) := by decide +kernel
theorem dL_law_1352 : decode cL_law 1352 = .ok (.iload 4, 2) := by decide +kernel
theorem dL_law_1354 : decode cL_law 1354 = .ok (.iconst 1, 1) := by decide +kernel
theorem dL_law_1355 : decode cL_law 1355 = .ok (.iadd, 1) := by decide +kernel
theorem dL_law_1356 : decode cL_law 1356 = .ok (.iaload, 1) := by decide +kernel
theorem dL_law_1357 : decode cL_law 1357 = .ok (.aload_n 0, 1) := by decide +kernel
theorem dL_law_1358 : decode cL_law 1358 = .ok (.iload 4, 2) := by decide +kernel
theorem dL_law_1360 : decode cL_law 1360 = .ok (.iconst 2, 1) := by decide +kernel
theorem dL_law_1361 : decode cL_law 1361 = .ok (.iadd, 1) := by decide +kernel
theorem dL_law_1362 : decode cL_law 1362 = .ok (.iaload, 1) := by decide +kernel
theorem dL_law_1363 : decode cL_law 1363 = .ok (.aload_n 0, 1) := by decide +kernel
theorem dL_law_1364 : decode cL_law 1364 = .ok (.iload 4, 2) := by decide +kernel
theorem dL_law_1366 : decode cL_law 1366 = .ok (.iconst 3, 1) := by decide +kernel
theorem dL_law_1367 : decode cL_law 1367 = .ok (.iadd, 1) := by decide +kernel
theorem dL_law_1368 : decode cL_law 1368 = .ok (.iaload, 1) := by decide +kernel
theorem dL_law_1369 : decode cL_law 1369 = .ok (.aload_n 3, 1) := by decide +kernel
theorem dL_law_1370 : decode cL_law 1370 = .ok (.invokestatic 225, 3) := by decide +kernel
theorem dL_law_1373 : decode cL_law 1373 = .ok (.istore 5, 2) := by decide +kernel
theorem dL_law_1375 : decode cL_law 1375 = .ok (.aload_n 2, 1) := by decide +kernel
theorem dL_law_1376 : decode cL_law 1376 = .ok (.aload_n 0, 1) := by decide +kernel
theorem dL_law_1377 : decode cL_law 1377 = .ok (.iload 4, 2) := by decide +kernel
theorem dL_law_1379 : decode cL_law 1379 = .ok (.iconst 1, 1) := by decide +kernel
theorem dL_law_1380 : decode cL_law 1380 = .ok (.iadd, 1) := by decide +kernel
theorem dL_law_1381 : decode cL_law 1381 = .ok (.iaload, 1) := by decide +kernel
theorem dL_law_1382 : decode cL_law 1382 = .ok (.aload_n 0, 1) := by decide +kernel
theorem dL_law_1383 : decode cL_law 1383 = .ok (.iload 4, 2) := by decide +kernel
theorem dL_law_1385 : decode cL_law 1385 = .ok (.iconst 2, 1) := by decide +kernel
theorem dL_law_1386 : decode cL_law 1386 = .ok (.iadd, 1) := by decide +kernel
theorem dL_law_1387 : decode cL_law 1387 = .ok (.iaload, 1) := by decide +kernel
theorem dL_law_1388 : decode cL_law 1388 = .ok (.aload_n 0, 1) := by decide +kernel
theorem dL_law_1389 : decode cL_law 1389 = .ok (.iload 4, 2) := by decide +kernel
theorem dL_law_1391 : decode cL_law 1391 = .ok (.iconst 3, 1) := by decide +kernel
theorem dL_law_1392 : decode cL_law 1392 = .ok (.iadd, 1) := by decide +kernel
theorem dL_law_1393 : decode cL_law 1393 = .ok (.iaload, 1) := by decide +kernel
theorem dL_law_1394 : decode cL_law 1394 = .ok (.invokevirtual 227, 3) := by decide +kernel
theorem dL_law_1397 : decode cL_law 1397 = .ok (.istore 6, 2) := by decide +kernel
theorem dL_law_1399 : decode cL_law 1399 = .ok (.goto 108, 3) := by decide +kernel
theorem dL_law_1402 : decode cL_law 1402 = .ok (.aload_n 1, 1) := by decide +kernel
theorem dL_law_1403 : decode cL_law 1403 = .ok (.aload_n 0, 1) := by decide +kernel
theorem dL_law_1404 : decode cL_law 1404 = .ok (.iload 4, 2) := by decide +kernel
theorem dL_law_1406 : decode cL_law 1406 = .ok (.iconst 1, 1) := by decide +kernel
theorem dL_law_1407 : decode cL_law 1407 = .ok (.iadd, 1) := by decide +kernel
theorem dL_law_1408 : decode cL_law 1408 = .ok (.iaload, 1) := by decide +kernel
theorem dL_law_1409 : decode cL_law 1409 = .ok (.aload_n 0, 1) := by decide +kernel
theorem dL_law_1410 : decode cL_law 1410 = .ok (.iload 4, 2) := by decide +kernel
theorem dL_law_1412 : decode cL_law 1412 = .ok (.iconst 2, 1) := by decide +kernel
theorem dL_law_1413 : decode cL_law 1413 = .ok (.iadd, 1) := by decide +kernel
theorem dL_law_1414 : decode cL_law 1414 = .ok (.iaload, 1) := by decide +kernel
theorem dL_law_1415 : decode cL_law 1415 = .ok (.aload_n 0, 1) := by decide +kernel
theorem dL_law_1416 : decode cL_law 1416 = .ok (.iload 4, 2) := by decide +kernel
theorem dL_law_1418 : decode cL_law 1418 = .ok (.iconst 3, 1) := by decide +kernel
theorem dL_law_1419 : decode cL_law 1419 = .ok (.iadd, 1) := by decide +kernel
theorem dL_law_1420 : decode cL_law 1420 = .ok (.iaload, 1) := by decide +kernel
theorem dL_law_1421 : decode cL_law 1421 = .ok (.aload_n 3, 1) := by decide +kernel
theorem dL_law_1422 : decode cL_law 1422 = .ok (.invokestatic 228, 3) := by decide +kernel
theorem dL_law_1425 : decode cL_law 1425 = .ok (.istore 5, 2) := by decide +kernel
theorem dL_law_1427 : decode cL_law 1427 = .ok (.aload_n 2, 1) := by decide +kernel
theorem dL_law_1428 : decode cL_law 1428 = .ok (.aload_n 0, 1) := by decide +kernel
theorem dL_law_1429 : decode cL_law 1429 = .ok (.iload 4, 2) := by decide +kernel
theorem dL_law_1431 : decode cL_law 1431 = .ok (.iconst 1, 1) := by decide +kernel
theorem dL_law_1432 : decode cL_law 1432 = .ok (.iadd, 1) := by decide +kernel
theorem dL_law_1433 : decode cL_law 1433 = .ok (.iaload, 1) := by decide +kernel
theorem dL_law_1434 : decode cL_law 1434 = .ok (.aload_n 0, 1) := by decide +kernel
theorem dL_law_1435 : decode cL_law 1435 = .ok (.iload 4, 2) := by decide +kernel
theorem dL_law_1437 : decode cL_law 1437 = .ok (.iconst 2, 1) := by decide +kernel
theorem dL_law_1438 : decode cL_law 1438 = .ok (.iadd, 1) := by decide +kernel
theorem dL_law_1439 : decode cL_law 1439 = .ok (.iaload, 1) := by decide +kernel
theorem dL_law_1440 : decode cL_law 1440 = .ok (.aload_n 0, 1) := by decide +kernel
theorem dL_law_1441 : decode cL_law 1441 = .ok (.iload 4, 2) := by decide +kernel
theorem dL_law_1443 : decode cL_law 1443 = .ok (.iconst 3, 1) := by decide +kernel
theorem dL_law_1444 : decode cL_law 1444 = .ok (.iadd, 1) := by decide +kernel
theorem dL_law_1445 : decode cL_law 1445 = .ok (.iaload, 1) := by decide +kernel
theorem dL_law_1446 : decode cL_law 1446 = .ok (.invokevirtual 230, 3) := by decide +kernel
theorem dL_law_1449 : decode cL_law 1449 = .ok (.istore 6, 2) := by decide +kernel
theorem dL_law_1451 : decode cL_law 1451 = .ok (.goto 56, 3) := by decide +kernel
theorem dL_law_1454 : decode cL_law 1454 = .ok (.aload_n 1, 1) := by decide +kernel
theorem dL_law_1455 : decode cL_law 1455 = .ok (.invokevirtual 231, 3) := by decide +kernel
theorem dL_law_1458 : decode cL_law 1458 = .ok (.pop2, 1) := by decide +kernel
theorem dL_law_1459 : decode cL_law 1459 = .ok (.aload_n 2, 1) := by decide +kernel
theorem dL_law_1460 : decode cL_law 1460 = .ok (.invokevirtual 235, 3) := by decide +kernel
theorem dL_law_1463 : decode cL_law 1463 = .ok (.pop2, 1) := by decide +kernel
theorem dL_law_1464 : decode cL_law 1464 = .ok (.goto 43, 3) := by decide +kernel
theorem dL_law_1467 : decode cL_law 1467 = .ok (.aload_n 1, 1) := by decide +kernel
theorem dL_law_1468 : decode cL_law 1468 = .ok (.aload_n 0, 1) := by decide +kernel
theorem dL_law_1469 : decode cL_law 1469 = .ok (.iload 4, 2) := by decide +kernel
theorem dL_law_1471 : decode cL_law 1471 = .ok (.iconst 1, 1) := by decide +kernel
theorem dL_law_1472 : decode cL_law 1472 = .ok (.iadd, 1) := by decide +kernel
theorem dL_law_1473 : decode cL_law 1473 = .ok (.iaload, 1) := by decide +kernel
theorem dL_law_1474 : decode cL_law 1474 = .ok (.aload_n 0, 1) := by decide +kernel
theorem dL_law_1475 : decode cL_law 1475 = .ok (.iload 4, 2) := by decide +kernel
theorem dL_law_1477 : decode cL_law 1477 = .ok (.iconst 2, 1) := by decide +kernel
theorem dL_law_1478 : decode cL_law 1478 = .ok (.iadd, 1) := by decide +kernel
theorem dL_law_1479 : decode cL_law 1479 = .ok (.iaload, 1) := by decide +kernel
theorem dL_law_1480 : decode cL_law 1480 = .ok (.aload_n 3, 1) := by decide +kernel
theorem dL_law_1481 : decode cL_law 1481 = .ok (.invokestatic 236, 3) := by decide +kernel
theorem dL_law_1484 : decode cL_law 1484 = .ok (.istore 5, 2) := by decide +kernel
theorem dL_law_1486 : decode cL_law 1486 = .ok (.aload_n 2, 1) := by decide +kernel
theorem dL_law_1487 : decode cL_law 1487 = .ok (.aload_n 0, 1) := by decide +kernel
theorem dL_law_1488 : decode cL_law 1488 = .ok (.iload 4, 2) := by decide +kernel
theorem dL_law_1490 : decode cL_law 1490 = .ok (.iconst 1, 1) := by decide +kernel
theorem dL_law_1491 : decode cL_law 1491 = .ok (.iadd, 1) := by decide +kernel
theorem dL_law_1492 : decode cL_law 1492 = .ok (.iaload, 1) := by decide +kernel
theorem dL_law_1493 : decode cL_law 1493 = .ok (.aload_n 0, 1) := by decide +kernel
theorem dL_law_1494 : decode cL_law 1494 = .ok (.iload 4, 2) := by decide +kernel
theorem dL_law_1496 : decode cL_law 1496 = .ok (.iconst 2, 1) := by decide +kernel
theorem dL_law_1497 : decode cL_law 1497 = .ok (.iadd, 1) := by decide +kernel
theorem dL_law_1498 : decode cL_law 1498 = .ok (.iaload, 1) := by decide +kernel
theorem dL_law_1499 : decode cL_law 1499 = .ok (.invokevirtual 238, 3) := by decide +kernel
theorem dL_law_1502 : decode cL_law 1502 = .ok (.istore 6, 2) := by decide +kernel
theorem dL_law_1504 : decode cL_law 1504 = .ok (.goto 3, 3) := by decide +kernel
set_option maxRecDepth 100000 in
theorem gl_C_feed : GoodIn lw_tbl (wsV RL 92 RX11 yX11_feed wsU_feed) := goodIn_sub (mV (gm_0 _ (List.mem_of_getElem? (i := 0) rfl)) (gm_0 _ (List.mem_of_getElem? (i := 1) rfl)) (gm_0 _ (List.mem_of_getElem? (i := 2) rfl)) (gm_0 _ (List.mem_of_getElem? (i := 3) rfl)) ml_wsU_feed) (gdV (by decide +kernel) gdwsU_feed)
set_option maxRecDepth 100000 in
theorem gl_R_feed : GoodIn lw_tbl (wsV RL 96 RX12 yX12_feed wsRX12_feed) := goodIn_sub (mV (gm_0 _ (List.mem_of_getElem? (i := 5) rfl)) (gm_0 _ (List.mem_of_getElem? (i := 6) rfl)) (gm_0 _ (List.mem_of_getElem? (i := 7) rfl)) (gm_0 _ (List.mem_of_getElem? (i := 8) rfl)) ml_wsRX12_feed) (gdV (by decide +kernel) gdwsRX12_feed)
set_option maxRecDepth 100000 in
theorem gl_C_end : GoodIn lw_tbl (wsV RL 97 RX11 yX11_end wsU_end) := goodIn_sub (mV (gm_0 _ (List.mem_of_getElem? (i := 11) rfl)) (gm_0 _ (List.mem_of_getElem? (i := 12) rfl)) (gm_0 _ (List.mem_of_getElem? (i := 13) rfl)) (gm_0 _ (List.mem_of_getElem? (i := 3) rfl)) ml_wsU_end) (gdV (by decide +kernel) gdwsU_end)
set_option maxRecDepth 100000 in
theorem gl_R_end : GoodIn lw_tbl (wsV RL 100 RX12 yX12_end wsRX12_end) := goodIn_sub (mV (gm_0 _ (List.mem_of_getElem? (i := 35) rfl)) (gm_0 _ (List.mem_of_getElem? (i := 36) rfl)) (gm_0 _ (List.mem_of_getElem? (i := 37) rfl)) (gm_0 _ (List.mem_of_getElem? (i := 8) rfl)) ml_wsRX12_end) (gdV (by decide +kernel) gdwsRX12_end)
set_option maxRecDepth 100000 in
theorem gl_C_wipe : GoodIn lw_tbl (wsV RL 101 RX11 yX11_wipe wsU_wipe) := goodIn_sub (mV (gm_1 _ (List.mem_of_getElem? (i := 0) rfl)) (gm_1 _ (List.mem_of_getElem? (i := 1) rfl)) (gm_1 _ (List.mem_of_getElem? (i := 2) rfl)) (gm_0 _ (List.mem_of_getElem? (i := 3) rfl)) ml_wsU_wipe) (gdV (by decide +kernel) gdwsU_wipe)
set_option maxRecDepth 100000 in
theorem gl_R_wipe : GoodIn lw_tbl (wsV RL 104 RX12 yX12_wipe wsRX12_wipe) := goodIn_sub (mV (gm_1 _ (List.mem_of_getElem? (i := 3) rfl)) (gm_1 _ (List.mem_of_getElem? (i := 4) rfl)) (gm_1 _ (List.mem_of_getElem? (i := 5) rfl)) (gm_0 _ (List.mem_of_getElem? (i := 8) rfl)) ml_wsRX12_wipe) (gdV (by decide +kernel) gdwsRX12_wipe)
set_option maxRecDepth 100000 in
theorem gl_H_read : GoodIn lw_tbl (va_wsS RL 105 yL_read wsH_read) := goodIn_sub (mS (gm_1 _ (List.mem_of_getElem? (i := 6) rfl)) (gm_1 _ (List.mem_of_getElem? (i := 7) rfl)) (show Cond.initialized "OptimaWorksLaw" ∈ lw_tbl from (gm_1 _ (List.mem_of_getElem? (i := 8) rfl))) ml_wsH_read) (gdA (by decide +kernel) gdwsH_read)
set_option maxRecDepth 100000 in
theorem gl_R_read : GoodIn lw_tbl (wsV RL 110 RX12 yX12_read wsRX12_read) := goodIn_sub (mV (gm_11 _ (List.mem_of_getElem? (i := 39) rfl)) (gm_12 _ (List.mem_of_getElem? (i := 0) rfl)) (gm_12 _ (List.mem_of_getElem? (i := 1) rfl)) (gm_0 _ (List.mem_of_getElem? (i := 8) rfl)) ml_wsRX12_read) (gdV (by decide +kernel) gdwsRX12_read)
set_option maxRecDepth 100000 in
theorem gl_C_fault : GoodIn lw_tbl (wsV RL 111 RX11 yX11_fault wsU_fault) := goodIn_sub (mV (gm_21 _ (List.mem_of_getElem? (i := 0) rfl)) (gm_21 _ (List.mem_of_getElem? (i := 1) rfl)) (gm_21 _ (List.mem_of_getElem? (i := 2) rfl)) (gm_0 _ (List.mem_of_getElem? (i := 3) rfl)) ml_wsU_fault) (gdV (by decide +kernel) gdwsU_fault)
set_option maxRecDepth 100000 in
theorem gl_R_fault : GoodIn lw_tbl (wsV RL 114 RX12 yX12_fault wsRX12_fault) := goodIn_sub (mV (gm_21 _ (List.mem_of_getElem? (i := 5) rfl)) (gm_21 _ (List.mem_of_getElem? (i := 6) rfl)) (gm_21 _ (List.mem_of_getElem? (i := 7) rfl)) (gm_0 _ (List.mem_of_getElem? (i := 8) rfl)) ml_wsRX12_fault) (gdV (by decide +kernel) gdwsRX12_fault)
set_option maxRecDepth 100000 in
theorem gl_H_variable : GoodIn lw_tbl (va_wsS RL 115 yL_variable wsH_variable) := goodIn_sub (mS (gm_21 _ (List.mem_of_getElem? (i := 8) rfl)) (gm_21 _ (List.mem_of_getElem? (i := 9) rfl)) (show Cond.initialized "OptimaWorksLaw" ∈ lw_tbl from (gm_1 _ (List.mem_of_getElem? (i := 8) rfl))) ml_wsH_variable) (gdA (by decide +kernel) gdwsH_variable)
set_option maxRecDepth 100000 in
theorem gl_R_variable : GoodIn lw_tbl (wsV RL 118 RX12 yX12_variable wsRX12_variable) := goodIn_sub (mV (gm_21 _ (List.mem_of_getElem? (i := 19) rfl)) (gm_21 _ (List.mem_of_getElem? (i := 20) rfl)) (gm_21 _ (List.mem_of_getElem? (i := 21) rfl)) (gm_0 _ (List.mem_of_getElem? (i := 8) rfl)) ml_wsRX12_variable) (gdV (by decide +kernel) gdwsRX12_variable)
set_option maxRecDepth 100000 in
theorem gl_H_row : GoodIn lw_tbl (va_wsS RL 119 yL_row wsH_row) := goodIn_sub (mS (gm_21 _ (List.mem_of_getElem? (i := 22) rfl)) (gm_21 _ (List.mem_of_getElem? (i := 23) rfl)) (show Cond.initialized "OptimaWorksLaw" ∈ lw_tbl from (gm_1 _ (List.mem_of_getElem? (i := 8) rfl))) ml_wsH_row) (gdA (by decide +kernel) gdwsH_row)
set_option maxRecDepth 100000 in
theorem gl_R_row : GoodIn lw_tbl (wsV RL 122 RX12 yX12_row wsRX12_row) := goodIn_sub (mV (gm_21 _ (List.mem_of_getElem? (i := 36) rfl)) (gm_21 _ (List.mem_of_getElem? (i := 37) rfl)) (gm_21 _ (List.mem_of_getElem? (i := 38) rfl)) (gm_0 _ (List.mem_of_getElem? (i := 8) rfl)) ml_wsRX12_row) (gdV (by decide +kernel) gdwsRX12_row)
set_option maxRecDepth 100000 in
theorem gl_H_goal : GoodIn lw_tbl (va_wsS RL 123 yL_goal wsH_goal) := goodIn_sub (mS (gm_21 _ (List.mem_of_getElem? (i := 39) rfl)) (gm_22 _ (List.mem_of_getElem? (i := 0) rfl)) (show Cond.initialized "OptimaWorksLaw" ∈ lw_tbl from (gm_1 _ (List.mem_of_getElem? (i := 8) rfl))) ml_wsH_goal) (gdA (by decide +kernel) gdwsH_goal)
set_option maxRecDepth 100000 in
theorem gl_R_goal : GoodIn lw_tbl (wsV RL 126 RX12 yX12_goal wsRX12_goal) := goodIn_sub (mV (gm_22 _ (List.mem_of_getElem? (i := 8) rfl)) (gm_22 _ (List.mem_of_getElem? (i := 9) rfl)) (gm_22 _ (List.mem_of_getElem? (i := 10) rfl)) (gm_0 _ (List.mem_of_getElem? (i := 8) rfl)) ml_wsRX12_goal) (gdV (by decide +kernel) gdwsRX12_goal)
set_option maxRecDepth 100000 in
theorem gl_H_write : GoodIn lw_tbl (va_wsS RL 127 yL_write wsH_write) := goodIn_sub (mS (gm_22 _ (List.mem_of_getElem? (i := 11) rfl)) (gm_22 _ (List.mem_of_getElem? (i := 12) rfl)) (show Cond.initialized "OptimaWorksLaw" ∈ lw_tbl from (gm_1 _ (List.mem_of_getElem? (i := 8) rfl))) ml_wsH_write) (gdA (by decide +kernel) gdwsH_write)
set_option maxRecDepth 100000 in
theorem gl_R_write : GoodIn lw_tbl (wsV RL 129 RX12 yX12_write wsRX12_write) := goodIn_sub (mV (gm_23 _ (List.mem_of_getElem? (i := 22) rfl)) (gm_23 _ (List.mem_of_getElem? (i := 23) rfl)) (gm_23 _ (List.mem_of_getElem? (i := 24) rfl)) (gm_0 _ (List.mem_of_getElem? (i := 8) rfl)) ml_wsRX12_write) (gdV (by decide +kernel) gdwsRX12_write)
set_option maxRecDepth 100000 in
theorem gl_H_solve : GoodIn lw_tbl (va_wsS RL 130 yL_solve wsH_solve) := goodIn_sub (mS (gm_24 _ (List.mem_of_getElem? (i := 13) rfl)) (gm_24 _ (List.mem_of_getElem? (i := 14) rfl)) (show Cond.initialized "OptimaWorksLaw" ∈ lw_tbl from (gm_1 _ (List.mem_of_getElem? (i := 8) rfl))) ml_wsH_solve) (gdA (by decide +kernel) gdwsH_solve)
set_option maxRecDepth 100000 in
theorem gl_R_solve : GoodIn lw_tbl (wsV RL 133 RX12 yX12_solve wsRX12_solve) := goodIn_sub (mV (gm_30 _ (List.mem_of_getElem? (i := 37) rfl)) (gm_30 _ (List.mem_of_getElem? (i := 38) rfl)) (gm_30 _ (List.mem_of_getElem? (i := 39) rfl)) (gm_0 _ (List.mem_of_getElem? (i := 8) rfl)) ml_wsRX12_solve) (gdV (by decide +kernel) gdwsRX12_solve)
set_option maxRecDepth 100000 in
theorem gl_H_value : GoodIn lw_tbl (va_wsS RL 134 yL_value wsH_value) := goodIn_sub (mS (gm_34 _ (List.mem_of_getElem? (i := 7) rfl)) (gm_34 _ (List.mem_of_getElem? (i := 8) rfl)) (show Cond.initialized "OptimaWorksLaw" ∈ lw_tbl from (gm_1 _ (List.mem_of_getElem? (i := 8) rfl))) ml_wsH_value) (gdA (by decide +kernel) gdwsH_value)
set_option maxRecDepth 100000 in
theorem gl_R_value : GoodIn lw_tbl (wsV RL 137 RX12 yX12_value wsRX12_value) := goodIn_sub (mV (gm_35 _ (List.mem_of_getElem? (i := 1) rfl)) (gm_35 _ (List.mem_of_getElem? (i := 2) rfl)) (gm_35 _ (List.mem_of_getElem? (i := 3) rfl)) (gm_0 _ (List.mem_of_getElem? (i := 8) rfl)) ml_wsRX12_value) (gdV (by decide +kernel) gdwsRX12_value)
set_option maxRecDepth 100000 in
theorem gl_H_best : GoodIn lw_tbl (va_wsS RL 138 yL_best wsH_best) := goodIn_sub (mS (gm_35 _ (List.mem_of_getElem? (i := 18) rfl)) (gm_35 _ (List.mem_of_getElem? (i := 19) rfl)) (show Cond.initialized "OptimaWorksLaw" ∈ lw_tbl from (gm_1 _ (List.mem_of_getElem? (i := 8) rfl))) ml_wsH_best) (gdA (by decide +kernel) gdwsH_best)
set_option maxRecDepth 100000 in
theorem gl_R_best : GoodIn lw_tbl (wsV RL 140 RX12 yX12_best wsRX12_best) := goodIn_sub (mV (gm_35 _ (List.mem_of_getElem? (i := 29) rfl)) (gm_35 _ (List.mem_of_getElem? (i := 30) rfl)) (gm_35 _ (List.mem_of_getElem? (i := 31) rfl)) (gm_0 _ (List.mem_of_getElem? (i := 8) rfl)) ml_wsRX12_best) (gdV (by decide +kernel) gdwsRX12_best)
set_option maxRecDepth 100000 in
theorem gl_H_way : GoodIn lw_tbl (va_wsS RL 141 yL_way wsH_way) := goodIn_sub (mS (gm_35 _ (List.mem_of_getElem? (i := 32) rfl)) (gm_35 _ (List.mem_of_getElem? (i := 33) rfl)) (show Cond.initialized "OptimaWorksLaw" ∈ lw_tbl from (gm_1 _ (List.mem_of_getElem? (i := 8) rfl))) ml_wsH_way) (gdA (by decide +kernel) gdwsH_way)
set_option maxRecDepth 100000 in
theorem gl_R_way : GoodIn lw_tbl (wsV RL 143 RX12 yX12_way wsRX12_way) := goodIn_sub (mV (gm_36 _ (List.mem_of_getElem? (i := 0) rfl)) (gm_36 _ (List.mem_of_getElem? (i := 1) rfl)) (gm_36 _ (List.mem_of_getElem? (i := 2) rfl)) (gm_0 _ (List.mem_of_getElem? (i := 8) rfl)) ml_wsRX12_way) (gdV (by decide +kernel) gdwsRX12_way)
set_option maxRecDepth 100000 in
theorem gl_H_count : GoodIn lw_tbl (va_wsS RL 144 yL_count wsH_count) := goodIn_sub (mS (gm_36 _ (List.mem_of_getElem? (i := 3) rfl)) (gm_36 _ (List.mem_of_getElem? (i := 4) rfl)) (show Cond.initialized "OptimaWorksLaw" ∈ lw_tbl from (gm_1 _ (List.mem_of_getElem? (i := 8) rfl))) ml_wsH_count) (gdA (by decide +kernel) gdwsH_count)
set_option maxRecDepth 100000 in
theorem gl_R_count : GoodIn lw_tbl (wsV RL 146 RX12 yX12_count wsRX12_count) := goodIn_sub (mV (gm_36 _ (List.mem_of_getElem? (i := 11) rfl)) (gm_36 _ (List.mem_of_getElem? (i := 12) rfl)) (gm_36 _ (List.mem_of_getElem? (i := 13) rfl)) (gm_0 _ (List.mem_of_getElem? (i := 8) rfl)) ml_wsRX12_count) (gdV (by decide +kernel) gdwsRX12_count)
set_option maxRecDepth 100000 in
theorem gl_H_counted : GoodIn lw_tbl (va_wsS RL 147 yL_counted wsH_counted) := goodIn_sub (mS (gm_36 _ (List.mem_of_getElem? (i := 17) rfl)) (gm_36 _ (List.mem_of_getElem? (i := 18) rfl)) (show Cond.initialized "OptimaWorksLaw" ∈ lw_tbl from (gm_1 _ (List.mem_of_getElem? (i := 8) rfl))) ml_wsH_counted) (gdA (by decide +kernel) gdwsH_counted)
set_option maxRecDepth 100000 in
theorem gl_R_counted : GoodIn lw_tbl (wsV RL 149 RX12 yX12_counted wsRX12_counted) := goodIn_sub (mV (gm_36 _ (List.mem_of_getElem? (i := 25) rfl)) (gm_36 _ (List.mem_of_getElem? (i := 26) rfl)) (gm_36 _ (List.mem_of_getElem? (i := 27) rfl)) (gm_0 _ (List.mem_of_getElem? (i := 8) rfl)) ml_wsRX12_counted) (gdV (by decide +kernel) gdwsRX12_counted)
set_option maxRecDepth 100000 in
theorem gl_H_prove : GoodIn lw_tbl (va_wsS RL 150 yL_prove wsH_prove) := goodIn_sub (mS (gm_36 _ (List.mem_of_getElem? (i := 28) rfl)) (gm_36 _ (List.mem_of_getElem? (i := 29) rfl)) (show Cond.initialized "OptimaWorksLaw" ∈ lw_tbl from (gm_1 _ (List.mem_of_getElem? (i := 8) rfl))) ml_wsH_prove) (gdA (by decide +kernel) gdwsH_prove)
set_option maxRecDepth 100000 in
theorem gl_R_prove : GoodIn lw_tbl (wsV RL 152 RX12 yX12_prove wsRX12_prove) := goodIn_sub (mV (gm_39 _ (List.mem_of_getElem? (i := 35) rfl)) (gm_39 _ (List.mem_of_getElem? (i := 36) rfl)) (gm_39 _ (List.mem_of_getElem? (i := 37) rfl)) (gm_0 _ (List.mem_of_getElem? (i := 8) rfl)) ml_wsRX12_prove) (gdV (by decide +kernel) gdwsRX12_prove)
set_option maxRecDepth 100000 in
theorem gl_C_need : GoodIn lw_tbl (wsV RL 153 RX11 yX11_need wsU_need) := goodIn_sub (mV (gm_40 _ (List.mem_of_getElem? (i := 34) rfl)) (gm_40 _ (List.mem_of_getElem? (i := 35) rfl)) (gm_40 _ (List.mem_of_getElem? (i := 36) rfl)) (gm_0 _ (List.mem_of_getElem? (i := 3) rfl)) ml_wsU_need) (gdV (by decide +kernel) gdwsU_need)
set_option maxRecDepth 100000 in
theorem gl_R_need : GoodIn lw_tbl (wsV RL 156 RX12 yX12_need wsRX12_need) := goodIn_sub (mV (gm_41 _ (List.mem_of_getElem? (i := 2) rfl)) (gm_41 _ (List.mem_of_getElem? (i := 3) rfl)) (gm_41 _ (List.mem_of_getElem? (i := 4) rfl)) (gm_0 _ (List.mem_of_getElem? (i := 8) rfl)) ml_wsRX12_need) (gdV (by decide +kernel) gdwsRX12_need)
set_option maxRecDepth 100000 in
theorem gl_H_multiplier : GoodIn lw_tbl (va_wsS RL 157 yL_multiplier wsH_multiplier) := goodIn_sub (mS (gm_41 _ (List.mem_of_getElem? (i := 5) rfl)) (gm_41 _ (List.mem_of_getElem? (i := 6) rfl)) (show Cond.initialized "OptimaWorksLaw" ∈ lw_tbl from (gm_1 _ (List.mem_of_getElem? (i := 8) rfl))) ml_wsH_multiplier) (gdA (by decide +kernel) gdwsH_multiplier)
set_option maxRecDepth 100000 in
theorem gl_R_multiplier : GoodIn lw_tbl (wsV RL 159 RX12 yX12_multiplier wsRX12_multiplier) := goodIn_sub (mV (gm_41 _ (List.mem_of_getElem? (i := 16) rfl)) (gm_41 _ (List.mem_of_getElem? (i := 17) rfl)) (gm_41 _ (List.mem_of_getElem? (i := 18) rfl)) (gm_0 _ (List.mem_of_getElem? (i := 8) rfl)) ml_wsRX12_multiplier) (gdV (by decide +kernel) gdwsRX12_multiplier)
set_option maxRecDepth 100000 in
theorem gl_C_letter : GoodIn lw_tbl (wsV RL 160 RX11 yX11_letter wsU_letter) := goodIn_sub (mV (gm_41 _ (List.mem_of_getElem? (i := 19) rfl)) (gm_41 _ (List.mem_of_getElem? (i := 20) rfl)) (gm_41 _ (List.mem_of_getElem? (i := 21) rfl)) (gm_0 _ (List.mem_of_getElem? (i := 3) rfl)) ml_wsU_letter) (gdV (by decide +kernel) gdwsU_letter)
set_option maxRecDepth 100000 in
theorem gl_R_letter : GoodIn lw_tbl (wsV RL 163 RX12 yX12_letter wsRX12_letter) := goodIn_sub (mV (gm_41 _ (List.mem_of_getElem? (i := 22) rfl)) (gm_41 _ (List.mem_of_getElem? (i := 23) rfl)) (gm_41 _ (List.mem_of_getElem? (i := 24) rfl)) (gm_0 _ (List.mem_of_getElem? (i := 8) rfl)) ml_wsRX12_letter) (gdV (by decide +kernel) gdwsRX12_letter)
set_option maxRecDepth 100000 in
theorem gl_C_about : GoodIn lw_tbl (wsV RL 164 RX11 yX11_about wsU_about) := goodIn_sub (mV (gm_41 _ (List.mem_of_getElem? (i := 25) rfl)) (gm_41 _ (List.mem_of_getElem? (i := 26) rfl)) (gm_41 _ (List.mem_of_getElem? (i := 27) rfl)) (gm_0 _ (List.mem_of_getElem? (i := 3) rfl)) ml_wsU_about) (gdV (by decide +kernel) gdwsU_about)
set_option maxRecDepth 100000 in
theorem gl_R_about : GoodIn lw_tbl (wsV RL 167 RX12 yX12_about wsRX12_about) := goodIn_sub (mV (gm_41 _ (List.mem_of_getElem? (i := 29) rfl)) (gm_41 _ (List.mem_of_getElem? (i := 30) rfl)) (gm_41 _ (List.mem_of_getElem? (i := 31) rfl)) (gm_0 _ (List.mem_of_getElem? (i := 8) rfl)) ml_wsRX12_about) (gdV (by decide +kernel) gdwsRX12_about)
set_option maxRecDepth 100000 in
theorem gl_H_holder : GoodIn lw_tbl (va_wsS RL 168 yL_holder wsH_holder) := goodIn_sub (mS (gm_41 _ (List.mem_of_getElem? (i := 32) rfl)) (gm_41 _ (List.mem_of_getElem? (i := 33) rfl)) (show Cond.initialized "OptimaWorksLaw" ∈ lw_tbl from (gm_1 _ (List.mem_of_getElem? (i := 8) rfl))) ml_wsH_holder) (gdA (by decide +kernel) gdwsH_holder)
set_option maxRecDepth 100000 in
theorem gl_R_holder : GoodIn lw_tbl (wsV RL 170 RX12 yX12_holder wsRX12_holder) := goodIn_sub (mV (gm_42 _ (List.mem_of_getElem? (i := 31) rfl)) (gm_42 _ (List.mem_of_getElem? (i := 32) rfl)) (gm_42 _ (List.mem_of_getElem? (i := 33) rfl)) (gm_0 _ (List.mem_of_getElem? (i := 8) rfl)) ml_wsRX12_holder) (gdV (by decide +kernel) gdwsRX12_holder)
set_option maxRecDepth 100000 in
theorem gl_H_rule : GoodIn lw_tbl (va_wsS RL 171 yL_rule wsH_rule) := goodIn_sub (mS (gm_42 _ (List.mem_of_getElem? (i := 38) rfl)) (gm_42 _ (List.mem_of_getElem? (i := 39) rfl)) (show Cond.initialized "OptimaWorksLaw" ∈ lw_tbl from (gm_1 _ (List.mem_of_getElem? (i := 8) rfl))) ml_wsH_rule) (gdA (by decide +kernel) gdwsH_rule)
set_option maxRecDepth 100000 in
theorem gl_R_rule : GoodIn lw_tbl (wsV RL 174 RX12 yX12_rule wsRX12_rule) := goodIn_sub (mV (gm_43 _ (List.mem_of_getElem? (i := 24) rfl)) (gm_43 _ (List.mem_of_getElem? (i := 25) rfl)) (gm_43 _ (List.mem_of_getElem? (i := 26) rfl)) (gm_0 _ (List.mem_of_getElem? (i := 8) rfl)) ml_wsRX12_rule) (gdV (by decide +kernel) gdwsRX12_rule)
set_option maxRecDepth 100000 in
theorem gl_C_pair : GoodIn lw_tbl (wsV RL 175 RX11 yX11_pair wsU_pair) := goodIn_sub (mV (gm_44 _ (List.mem_of_getElem? (i := 3) rfl)) (gm_44 _ (List.mem_of_getElem? (i := 4) rfl)) (gm_44 _ (List.mem_of_getElem? (i := 5) rfl)) (gm_0 _ (List.mem_of_getElem? (i := 3) rfl)) ml_wsU_pair) (gdV (by decide +kernel) gdwsU_pair)
set_option maxRecDepth 100000 in
theorem gl_R_pair : GoodIn lw_tbl (wsV RL 179 RX12 yX12_pair wsRX12_pair) := goodIn_sub (mV (gm_44 _ (List.mem_of_getElem? (i := 7) rfl)) (gm_44 _ (List.mem_of_getElem? (i := 8) rfl)) (gm_44 _ (List.mem_of_getElem? (i := 9) rfl)) (gm_0 _ (List.mem_of_getElem? (i := 8) rfl)) ml_wsRX12_pair) (gdV (by decide +kernel) gdwsRX12_pair)
set_option maxRecDepth 100000 in
theorem gl_C_left : GoodIn lw_tbl (wsV RL 180 RX11 yX11_left wsU_left) := goodIn_sub (mV (gm_44 _ (List.mem_of_getElem? (i := 11) rfl)) (gm_44 _ (List.mem_of_getElem? (i := 12) rfl)) (gm_44 _ (List.mem_of_getElem? (i := 13) rfl)) (gm_0 _ (List.mem_of_getElem? (i := 3) rfl)) ml_wsU_left) (gdV (by decide +kernel) gdwsU_left)
set_option maxRecDepth 100000 in
theorem gl_R_left : GoodIn lw_tbl (wsV RL 183 RX12 yX12_left wsRX12_left) := goodIn_sub (mV (gm_45 _ (List.mem_of_getElem? (i := 27) rfl)) (gm_45 _ (List.mem_of_getElem? (i := 28) rfl)) (gm_45 _ (List.mem_of_getElem? (i := 29) rfl)) (gm_0 _ (List.mem_of_getElem? (i := 8) rfl)) ml_wsRX12_left) (gdV (by decide +kernel) gdwsRX12_left)
set_option maxRecDepth 100000 in
theorem gl_C_listing : GoodIn lw_tbl (wsV RL 184 RX11 yX11_listing wsU_listing) := goodIn_sub (mV (gm_46 _ (List.mem_of_getElem? (i := 32) rfl)) (gm_46 _ (List.mem_of_getElem? (i := 33) rfl)) (gm_46 _ (List.mem_of_getElem? (i := 34) rfl)) (gm_0 _ (List.mem_of_getElem? (i := 3) rfl)) ml_wsU_listing) (gdV (by decide +kernel) gdwsU_listing)
set_option maxRecDepth 100000 in
theorem gl_R_listing : GoodIn lw_tbl (wsV RL 187 RX12 yX12_listing wsRX12_listing) := goodIn_sub (mV (gm_47 _ (List.mem_of_getElem? (i := 20) rfl)) (gm_47 _ (List.mem_of_getElem? (i := 21) rfl)) (gm_47 _ (List.mem_of_getElem? (i := 22) rfl)) (gm_0 _ (List.mem_of_getElem? (i := 8) rfl)) ml_wsRX12_listing) (gdV (by decide +kernel) gdwsRX12_listing)
set_option maxRecDepth 100000 in
theorem gl_C_listed : GoodIn lw_tbl (wsV RL 188 RX11 yX11_listed wsU_listed) := goodIn_sub (mV (gm_47 _ (List.mem_of_getElem? (i := 37) rfl)) (gm_47 _ (List.mem_of_getElem? (i := 38) rfl)) (gm_47 _ (List.mem_of_getElem? (i := 39) rfl)) (gm_0 _ (List.mem_of_getElem? (i := 3) rfl)) ml_wsU_listed) (gdV (by decide +kernel) gdwsU_listed)
set_option maxRecDepth 100000 in
theorem gl_R_listed : GoodIn lw_tbl (wsV RL 191 RX12 yX12_listed wsRX12_listed) := goodIn_sub (mV (gm_48 _ (List.mem_of_getElem? (i := 5) rfl)) (gm_48 _ (List.mem_of_getElem? (i := 6) rfl)) (gm_48 _ (List.mem_of_getElem? (i := 7) rfl)) (gm_0 _ (List.mem_of_getElem? (i := 8) rfl)) ml_wsRX12_listed) (gdV (by decide +kernel) gdwsRX12_listed)
set_option maxRecDepth 100000 in
theorem gl_C_reason : GoodIn lw_tbl (wsV RL 192 RX11 yX11_reason wsU_reason) := goodIn_sub (mV (gm_48 _ (List.mem_of_getElem? (i := 9) rfl)) (gm_48 _ (List.mem_of_getElem? (i := 10) rfl)) (gm_48 _ (List.mem_of_getElem? (i := 11) rfl)) (gm_0 _ (List.mem_of_getElem? (i := 3) rfl)) ml_wsU_reason) (gdV (by decide +kernel) gdwsU_reason)
set_option maxRecDepth 100000 in
theorem gl_R_reason : GoodIn lw_tbl (wsV RL 195 RX12 yX12_reason wsRX12_reason) := goodIn_sub (mV (gm_48 _ (List.mem_of_getElem? (i := 16) rfl)) (gm_48 _ (List.mem_of_getElem? (i := 17) rfl)) (gm_48 _ (List.mem_of_getElem? (i := 18) rfl)) (gm_0 _ (List.mem_of_getElem? (i := 8) rfl)) ml_wsRX12_reason) (gdV (by decide +kernel) gdwsRX12_reason)
set_option maxRecDepth 100000 in
theorem gl_C_clear : GoodIn lw_tbl (wsV RL 196 RX11 yX11_clear wsU_clear) := goodIn_sub (mV (gm_48 _ (List.mem_of_getElem? (i := 19) rfl)) (gm_48 _ (List.mem_of_getElem? (i := 20) rfl)) (gm_48 _ (List.mem_of_getElem? (i := 21) rfl)) (gm_0 _ (List.mem_of_getElem? (i := 3) rfl)) ml_wsU_clear) (gdV (by decide +kernel) gdwsU_clear)
set_option maxRecDepth 100000 in
theorem gl_R_clear : GoodIn lw_tbl (wsV RL 199 RX12 yX12_clear wsRX12_clear) := goodIn_sub (mV (gm_48 _ (List.mem_of_getElem? (i := 25) rfl)) (gm_48 _ (List.mem_of_getElem? (i := 26) rfl)) (gm_48 _ (List.mem_of_getElem? (i := 27) rfl)) (gm_0 _ (List.mem_of_getElem? (i := 8) rfl)) ml_wsRX12_clear) (gdV (by decide +kernel) gdwsRX12_clear)
set_option maxRecDepth 100000 in
theorem gl_H_clause : GoodIn lw_tbl (va_wsS RL 200 yL_clause wsH_clause) := goodIn_sub (mS (gm_48 _ (List.mem_of_getElem? (i := 28) rfl)) (gm_48 _ (List.mem_of_getElem? (i := 29) rfl)) (show Cond.initialized "OptimaWorksLaw" ∈ lw_tbl from (gm_1 _ (List.mem_of_getElem? (i := 8) rfl))) ml_wsH_clause) (gdA (by decide +kernel) gdwsH_clause)
set_option maxRecDepth 100000 in
theorem gl_R_clause : GoodIn lw_tbl (wsV RL 202 RX12 yX12_clause wsRX12_clause) := goodIn_sub (mV (gm_49 _ (List.mem_of_getElem? (i := 16) rfl)) (gm_49 _ (List.mem_of_getElem? (i := 17) rfl)) (gm_49 _ (List.mem_of_getElem? (i := 18) rfl)) (gm_0 _ (List.mem_of_getElem? (i := 8) rfl)) ml_wsRX12_clause) (gdV (by decide +kernel) gdwsRX12_clause)
set_option maxRecDepth 100000 in
theorem gl_C_unsay : GoodIn lw_tbl (wsV RL 203 RX11 yX11_unsay wsU_unsay) := goodIn_sub (mV (gm_49 _ (List.mem_of_getElem? (i := 23) rfl)) (gm_49 _ (List.mem_of_getElem? (i := 24) rfl)) (gm_49 _ (List.mem_of_getElem? (i := 25) rfl)) (gm_0 _ (List.mem_of_getElem? (i := 3) rfl)) ml_wsU_unsay) (gdV (by decide +kernel) gdwsU_unsay)
set_option maxRecDepth 100000 in
theorem gl_R_unsay : GoodIn lw_tbl (wsV RL 207 RX12 yX12_unsay wsRX12_unsay) := goodIn_sub (mV (gm_49 _ (List.mem_of_getElem? (i := 29) rfl)) (gm_49 _ (List.mem_of_getElem? (i := 30) rfl)) (gm_49 _ (List.mem_of_getElem? (i := 31) rfl)) (gm_0 _ (List.mem_of_getElem? (i := 8) rfl)) ml_wsRX12_unsay) (gdV (by decide +kernel) gdwsRX12_unsay)
set_option maxRecDepth 100000 in
theorem gl_C_truth : GoodIn lw_tbl (wsV RL 208 RX11 yX11_truth wsU_truth) := goodIn_sub (mV (gm_49 _ (List.mem_of_getElem? (i := 32) rfl)) (gm_49 _ (List.mem_of_getElem? (i := 33) rfl)) (gm_49 _ (List.mem_of_getElem? (i := 34) rfl)) (gm_0 _ (List.mem_of_getElem? (i := 3) rfl)) ml_wsU_truth) (gdV (by decide +kernel) gdwsU_truth)
set_option maxRecDepth 100000 in
theorem gl_R_truth : GoodIn lw_tbl (wsV RL 211 RX12 yX12_truth wsRX12_truth) := goodIn_sub (mV (gm_50 _ (List.mem_of_getElem? (i := 7) rfl)) (gm_50 _ (List.mem_of_getElem? (i := 8) rfl)) (gm_50 _ (List.mem_of_getElem? (i := 9) rfl)) (gm_0 _ (List.mem_of_getElem? (i := 8) rfl)) ml_wsRX12_truth) (gdV (by decide +kernel) gdwsRX12_truth)
set_option maxRecDepth 100000 in
theorem gl_H_arc : GoodIn lw_tbl (va_wsS RL 212 yL_arc wsH_arc) := goodIn_sub (mS (gm_50 _ (List.mem_of_getElem? (i := 22) rfl)) (gm_50 _ (List.mem_of_getElem? (i := 23) rfl)) (show Cond.initialized "OptimaWorksLaw" ∈ lw_tbl from (gm_1 _ (List.mem_of_getElem? (i := 8) rfl))) ml_wsH_arc) (gdA (by decide +kernel) gdwsH_arc)
set_option maxRecDepth 100000 in
theorem gl_R_arc : GoodIn lw_tbl (wsV RL 214 RX12 yX12_arc wsRX12_arc) := goodIn_sub (mV (gm_51 _ (List.mem_of_getElem? (i := 15) rfl)) (gm_51 _ (List.mem_of_getElem? (i := 16) rfl)) (gm_51 _ (List.mem_of_getElem? (i := 17) rfl)) (gm_0 _ (List.mem_of_getElem? (i := 8) rfl)) ml_wsRX12_arc) (gdV (by decide +kernel) gdwsRX12_arc)
set_option maxRecDepth 100000 in
theorem gl_C_unarc : GoodIn lw_tbl (wsV RL 215 RX11 yX11_unarc wsU_unarc) := goodIn_sub (mV (gm_51 _ (List.mem_of_getElem? (i := 25) rfl)) (gm_51 _ (List.mem_of_getElem? (i := 26) rfl)) (gm_51 _ (List.mem_of_getElem? (i := 27) rfl)) (gm_0 _ (List.mem_of_getElem? (i := 3) rfl)) ml_wsU_unarc) (gdV (by decide +kernel) gdwsU_unarc)
set_option maxRecDepth 100000 in
theorem gl_R_unarc : GoodIn lw_tbl (wsV RL 218 RX12 yX12_unarc wsRX12_unarc) := goodIn_sub (mV (gm_51 _ (List.mem_of_getElem? (i := 31) rfl)) (gm_51 _ (List.mem_of_getElem? (i := 32) rfl)) (gm_51 _ (List.mem_of_getElem? (i := 33) rfl)) (gm_0 _ (List.mem_of_getElem? (i := 8) rfl)) ml_wsRX12_unarc) (gdV (by decide +kernel) gdwsRX12_unarc)
set_option maxRecDepth 100000 in
theorem gl_H_greatest : GoodIn lw_tbl (va_wsS RL 219 yL_greatest wsH_greatest) := goodIn_sub (mS (gm_51 _ (List.mem_of_getElem? (i := 34) rfl)) (gm_51 _ (List.mem_of_getElem? (i := 35) rfl)) (show Cond.initialized "OptimaWorksLaw" ∈ lw_tbl from (gm_1 _ (List.mem_of_getElem? (i := 8) rfl))) ml_wsH_greatest) (gdA (by decide +kernel) gdwsH_greatest)
set_option maxRecDepth 100000 in
theorem gl_R_greatest : GoodIn lw_tbl (wsV RL 221 RX12 yX12_greatest wsRX12_greatest) := goodIn_sub (mV (gm_52 _ (List.mem_of_getElem? (i := 12) rfl)) (gm_52 _ (List.mem_of_getElem? (i := 13) rfl)) (gm_52 _ (List.mem_of_getElem? (i := 14) rfl)) (gm_0 _ (List.mem_of_getElem? (i := 8) rfl)) ml_wsRX12_greatest) (gdV (by decide +kernel) gdwsRX12_greatest)
set_option maxRecDepth 100000 in
theorem gl_H_cut : GoodIn lw_tbl (va_wsS RL 222 yL_cut wsH_cut) := goodIn_sub (mS (gm_52 _ (List.mem_of_getElem? (i := 32) rfl)) (gm_52 _ (List.mem_of_getElem? (i := 33) rfl)) (show Cond.initialized "OptimaWorksLaw" ∈ lw_tbl from (gm_1 _ (List.mem_of_getElem? (i := 8) rfl))) ml_wsH_cut) (gdA (by decide +kernel) gdwsH_cut)
set_option maxRecDepth 100000 in
theorem gl_R_cut : GoodIn lw_tbl (wsV RL 224 RX12 yX12_cut wsRX12_cut) := goodIn_sub (mV (gm_52 _ (List.mem_of_getElem? (i := 38) rfl)) (gm_52 _ (List.mem_of_getElem? (i := 39) rfl)) (gm_53 _ (List.mem_of_getElem? (i := 0) rfl)) (gm_0 _ (List.mem_of_getElem? (i := 8) rfl)) ml_wsRX12_cut) (gdV (by decide +kernel) gdwsRX12_cut)
set_option maxRecDepth 100000 in
theorem gl_H_cheapest : GoodIn lw_tbl (va_wsS RL 225 yL_cheapest wsH_cheapest) := goodIn_sub (mS (gm_53 _ (List.mem_of_getElem? (i := 1) rfl)) (gm_53 _ (List.mem_of_getElem? (i := 2) rfl)) (show Cond.initialized "OptimaWorksLaw" ∈ lw_tbl from (gm_1 _ (List.mem_of_getElem? (i := 8) rfl))) ml_wsH_cheapest) (gdA (by decide +kernel) gdwsH_cheapest)
set_option maxRecDepth 100000 in
theorem gl_R_cheapest : GoodIn lw_tbl (wsV RL 227 RX12 yX12_cheapest wsRX12_cheapest) := goodIn_sub (mV (gm_53 _ (List.mem_of_getElem? (i := 15) rfl)) (gm_53 _ (List.mem_of_getElem? (i := 16) rfl)) (gm_53 _ (List.mem_of_getElem? (i := 17) rfl)) (gm_0 _ (List.mem_of_getElem? (i := 8) rfl)) ml_wsRX12_cheapest) (gdV (by decide +kernel) gdwsRX12_cheapest)
set_option maxRecDepth 100000 in
theorem gl_H_path : GoodIn lw_tbl (va_wsS RL 228 yL_path wsH_path) := goodIn_sub (mS (gm_53 _ (List.mem_of_getElem? (i := 18) rfl)) (gm_53 _ (List.mem_of_getElem? (i := 19) rfl)) (show Cond.initialized "OptimaWorksLaw" ∈ lw_tbl from (gm_1 _ (List.mem_of_getElem? (i := 8) rfl))) ml_wsH_path) (gdA (by decide +kernel) gdwsH_path)
set_option maxRecDepth 100000 in
theorem gl_R_path : GoodIn lw_tbl (wsV RL 230 RX12 yX12_path wsRX12_path) := goodIn_sub (mV (gm_53 _ (List.mem_of_getElem? (i := 32) rfl)) (gm_53 _ (List.mem_of_getElem? (i := 33) rfl)) (gm_53 _ (List.mem_of_getElem? (i := 34) rfl)) (gm_0 _ (List.mem_of_getElem? (i := 8) rfl)) ml_wsRX12_path) (gdV (by decide +kernel) gdwsRX12_path)
set_option maxRecDepth 100000 in
theorem gl_C_tree : GoodIn lw_tbl (wsV RL 231 RX11 yX11_tree wsU_tree) := goodIn_sub (mV (gm_53 _ (List.mem_of_getElem? (i := 39) rfl)) (gm_54 _ (List.mem_of_getElem? (i := 0) rfl)) (gm_54 _ (List.mem_of_getElem? (i := 1) rfl)) (gm_0 _ (List.mem_of_getElem? (i := 3) rfl)) ml_wsU_tree) (gdV (by decide +kernel) gdwsU_tree)
set_option maxRecDepth 100000 in
theorem gl_R_tree : GoodIn lw_tbl (wsV RL 235 RX12 yX12_tree wsRX12_tree) := goodIn_sub (mV (gm_54 _ (List.mem_of_getElem? (i := 9) rfl)) (gm_54 _ (List.mem_of_getElem? (i := 10) rfl)) (gm_54 _ (List.mem_of_getElem? (i := 11) rfl)) (gm_0 _ (List.mem_of_getElem? (i := 8) rfl)) ml_wsRX12_tree) (gdV (by decide +kernel) gdwsRX12_tree)
set_option maxRecDepth 100000 in
theorem gl_H_tour : GoodIn lw_tbl (va_wsS RL 236 yL_tour wsH_tour) := goodIn_sub (mS (gm_54 _ (List.mem_of_getElem? (i := 13) rfl)) (gm_54 _ (List.mem_of_getElem? (i := 14) rfl)) (show Cond.initialized "OptimaWorksLaw" ∈ lw_tbl from (gm_1 _ (List.mem_of_getElem? (i := 8) rfl))) ml_wsH_tour) (gdA (by decide +kernel) gdwsH_tour)
set_option maxRecDepth 100000 in
theorem gl_R_tour : GoodIn lw_tbl (wsV RL 238 RX12 yX12_tour wsRX12_tour) := goodIn_sub (mV (gm_54 _ (List.mem_of_getElem? (i := 38) rfl)) (gm_54 _ (List.mem_of_getElem? (i := 39) rfl)) (gm_55 _ (List.mem_of_getElem? (i := 0) rfl)) (gm_0 _ (List.mem_of_getElem? (i := 8) rfl)) ml_wsRX12_tour) (gdV (by decide +kernel) gdwsRX12_tour)
