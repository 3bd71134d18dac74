theorem dl_0 : decode code 0 = .ok (.new 7, 3) := by decide +kernel
theorem dl_3 : decode code 3 = .ok (.dup, 1) := by decide +kernel
theorem dl_4 : decode code 4 = .ok (.invokespecial 9, 3) := by decide +kernel
theorem dl_7 : decode code 7 = .ok (.astore_n 1, 1) := by decide +kernel
theorem dl_8 : decode code 8 = .ok (.new 10, 3) := by decide +kernel
theorem dl_11 : decode code 11 = .ok (.dup, 1) := by decide +kernel
theorem dl_12 : decode code 12 = .ok (.invokespecial 12, 3) := by decide +kernel
theorem dl_15 : decode code 15 = .ok (.astore_n 2, 1) := by decide +kernel
theorem dl_16 : decode code 16 = .ok (.iconst 0, 1) := by decide +kernel
theorem dl_17 : decode code 17 = .ok (.istore_n 3, 1) := by decide +kernel
theorem dl_18 : decode code 18 = .ok (.iload_n 3, 1) := by decide +kernel
theorem dl_19 : decode code 19 = .ok (.aload_n 0, 1) := by decide +kernel
theorem dl_20 : decode code 20 = .ok (.arraylength, 1) := by decide +kernel
theorem dl_21 : decode code 21 = .ok (.bipush 6, 2) := by decide +kernel
theorem dl_23 : decode code 23 = .ok (.isub, 1) := by decide +kernel
theorem dl_24 : decode code 24 = .ok (.if_icmp .gt 1495, 3) := by decide +kernel
theorem dl_27 : decode code 27 = .ok (.aload_n 0, 1) := by decide +kernel
theorem dl_28 : decode code 28 = .ok (.iload_n 3, 1) := by decide +kernel
theorem dl_29 : decode code 29 = .ok (.iaload, 1) := by decide +kernel
theorem dl_30 : decode code 30 = .ok (.bipush 63, 2) := by decide +kernel
theorem dl_32 : decode code 32 = .ok (.iand, 1) := by decide +kernel
theorem dl_33 : decode code 33 = .ok (.tableswitch 1480 0 44 #[195, 258, 281, 304, 327, 350, 383, 406, 429, 462, 495, 518, 541, 574, 597, 630, 683, 706, 729, 752, 775, 808, 841, 864, 877, 900, 933, 946, 969, 982, 1005, 1038, 1071, 1094, 1117, 1140, 1163, 1186, 1229, 1262, 1305, 1378, 1411, 1434, 1457], 195) := by decide +kernel
theorem dl_228 : decode code 228 = .ok (.aload_n 1, 1) := by decide +kernel
theorem dl_229 : decode code 229 = .ok (.aload_n 0, 1) := by decide +kernel
theorem dl_230 : decode code 230 = .ok (.iload_n 3, 1) := by decide +kernel
theorem dl_231 : decode code 231 = .ok (.iconst 1, 1) := by decide +kernel
theorem dl_232 : decode code 232 = .ok (.iadd, 1) := by decide +kernel
theorem dl_233 : decode code 233 = .ok (.iaload, 1) := by decide +kernel
theorem dl_234 : decode code 234 = .ok (.aload_n 0, 1) := by decide +kernel
theorem dl_235 : decode code 235 = .ok (.iload_n 3, 1) := by decide +kernel
theorem dl_236 : decode code 236 = .ok (.iconst 2, 1) := by decide +kernel
theorem dl_237 : decode code 237 = .ok (.iadd, 1) := by decide +kernel
theorem dl_238 : decode code 238 = .ok (.iaload, 1) := by decide +kernel
theorem dl_239 : decode code 239 = .ok (.aload_n 0, 1) := by decide +kernel
theorem dl_240 : decode code 240 = .ok (.iload_n 3, 1) := by decide +kernel
theorem dl_241 : decode code 241 = .ok (.iconst 3, 1) := by decide +kernel
theorem dl_242 : decode code 242 = .ok (.iadd, 1) := by decide +kernel
theorem dl_243 : decode code 243 = .ok (.iaload, 1) := by decide +kernel
theorem dl_244 : decode code 244 = .ok (.aload_n 0, 1) := by decide +kernel
theorem dl_245 : decode code 245 = .ok (.iload_n 3, 1) := by decide +kernel
theorem dl_246 : decode code 246 = .ok (.iconst 4, 1) := by decide +kernel
theorem dl_247 : decode code 247 = .ok (.iadd, 1) := by decide +kernel
theorem dl_248 : decode code 248 = .ok (.iaload, 1) := by decide +kernel
theorem dl_249 : decode code 249 = .ok (.aload_n 0, 1) := by decide +kernel
theorem dl_250 : decode code 250 = .ok (.iload_n 3, 1) := by decide +kernel
theorem dl_251 : decode code 251 = .ok (.iconst 5, 1) := by decide +kernel
theorem dl_252 : decode code 252 = .ok (.iadd, 1) := by decide +kernel
theorem dl_253 : decode code 253 = .ok (.iaload, 1) := by decide +kernel
theorem dl_254 : decode code 254 = .ok (.invokevirtual 13, 3) := by decide +kernel
theorem dl_257 : decode code 257 = .ok (.pop, 1) := by decide +kernel
theorem dl_258 : decode code 258 = .ok (.aload_n 2, 1) := by decide +kernel
theorem dl_259 : decode code 259 = .ok (.aload_n 0, 1) := by decide +kernel
theorem dl_260 : decode code 260 = .ok (.iload_n 3, 1) := by decide +kernel
theorem dl_261 : decode code 261 = .ok (.iconst 1, 1) := by decide +kernel
theorem dl_262 : decode code 262 = .ok (.iadd, 1) := by decide +kernel
theorem dl_263 : decode code 263 = .ok (.iaload, 1) := by decide +kernel
theorem dl_264 : decode code 264 = .ok (.aload_n 0, 1) := by decide +kernel
theorem dl_265 : decode code 265 = .ok (.iload_n 3, 1) := by decide +kernel
theorem dl_266 : decode code 266 = .ok (.iconst 2, 1) := by decide +kernel
theorem dl_267 : decode code 267 = .ok (.iadd, 1) := by decide +kernel
theorem dl_268 : decode code 268 = .ok (.iaload, 1) := by decide +kernel
theorem dl_269 : decode code 269 = .ok (.aload_n 0, 1) := by decide +kernel
theorem dl_270 : decode code 270 = .ok (.iload_n 3, 1) := by decide +kernel
theorem dl_271 : decode code 271 = .ok (.iconst 3, 1) := by decide +kernel
theorem dl_272 : decode code 272 = .ok (.iadd, 1) := by decide +kernel
theorem dl_273 : decode code 273 = .ok (.iaload, 1) := by decide +kernel
theorem dl_274 : decode code 274 = .ok (.aload_n 0, 1) := by decide +kernel
theorem dl_275 : decode code 275 = .ok (.iload_n 3, 1) := by decide +kernel
theorem dl_276 : decode code 276 = .ok (.iconst 4, 1) := by decide +kernel
theorem dl_277 : decode code 277 = .ok (.iadd, 1) := by decide +kernel
theorem dl_278 : decode code 278 = .ok (.iaload, 1) := by decide +kernel
theorem dl_279 : decode code 279 = .ok (.aload_n 0, 1) := by decide +kernel
theorem dl_280 : decode code 280 = .ok (.iload_n 3, 1) := by decide +kernel
theorem dl_281 : decode code 281 = .ok (.iconst 5, 1) := by decide +kernel
theorem dl_282 : decode code 282 = .ok (.iadd, 1) := by decide +kernel
theorem dl_283 : decode code 283 = .ok (.iaload, 1) := by decide +kernel
theorem dl_284 : decode code 284 = .ok (.invokevirtual 17, 3) := by decide +kernel
theorem dl_287 : decode code 287 = .ok (.pop, 1) := by decide +kernel
theorem dl_288 : decode code 288 = .ok (.goto 1225, 3) := by decide +kernel
theorem dl_291 : decode code 291 = .ok (.aload_n 1, 1) := by decide +kernel
theorem dl_292 : decode code 292 = .ok (.aload_n 0, 1) := by decide +kernel
theorem dl_293 : decode code 293 = .ok (.iload_n 3, 1) := by decide +kernel
theorem dl_294 : decode code 294 = .ok (.iconst 1, 1) := by decide +kernel
theorem dl_295 : decode code 295 = .ok (.iadd, 1) := by decide +kernel
theorem dl_296 : decode code 296 = .ok (.iaload, 1) := by decide +kernel
theorem dl_297 : decode code 297 = .ok (.invokevirtual 18, 3) := by decide +kernel
theorem dl_300 : decode code 300 = .ok (.pop, 1) := by decide +kernel
theorem dl_301 : decode code 301 = .ok (.aload_n 2, 1) := by decide +kernel
theorem dl_302 : decode code 302 = .ok (.aload_n 0, 1) := by decide +kernel
theorem dl_303 : decode code 303 = .ok (.iload_n 3, 1) := by decide +kernel
theorem dl_304 : decode code 304 = .ok (.iconst 1, 1) := by decide +kernel
theorem dl_305 : decode code 305 = .ok (.iadd, 1) := by decide +kernel
theorem dl_306 : decode code 306 = .ok (.iaload, 1) := by decide +kernel
theorem dl_307 : decode code 307 = .ok (.invokevirtual 22, 3) := by decide +kernel
theorem dl_310 : decode code 310 = .ok (.pop, 1) := by decide +kernel
theorem dl_311 : decode code 311 = .ok (.goto 1202, 3) := by decide +kernel
theorem dl_314 : decode code 314 = .ok (.aload_n 1, 1) := by decide +kernel
theorem dl_315 : decode code 315 = .ok (.aload_n 0, 1) := by decide +kernel
theorem dl_316 : decode code 316 = .ok (.iload_n 3, 1) := by decide +kernel
theorem dl_317 : decode code 317 = .ok (.iconst 1, 1) := by decide +kernel
theorem dl_318 : decode code 318 = .ok (.iadd, 1) := by decide +kernel
theorem dl_319 : decode code 319 = .ok (.iaload, 1) := by decide +kernel
theorem dl_320 : decode code 320 = .ok (.invokevirtual 23, 3) := by decide +kernel
theorem dl_323 : decode code 323 = .ok (.pop, 1) := by decide +kernel
theorem dl_324 : decode code 324 = .ok (.aload_n 2, 1) := by decide +kernel
theorem dl_325 : decode code 325 = .ok (.aload_n 0, 1) := by decide +kernel
theorem dl_326 : decode code 326 = .ok (.iload_n 3, 1) := by decide +kernel
theorem dl_327 : decode code 327 = .ok (.iconst 1, 1) := by decide +kernel
theorem dl_328 : decode code 328 = .ok (.iadd, 1) := by decide +kernel
theorem dl_329 : decode code 329 = .ok (.iaload, 1) := by decide +kernel
theorem dl_330 : decode code 330 = .ok (.invokevirtual 26, 3) := by decide +kernel
theorem dl_333 : decode code 333 = .ok (.pop, 1) := by decide +kernel
theorem dl_334 : decode code 334 = .ok (.goto 1179, 3) := by decide +kernel
theorem dl_337 : decode code 337 = .ok (.aload_n 1, 1) := by decide +kernel
theorem dl_338 : decode code 338 = .ok (.aload_n 0, 1) := by decide +kernel
theorem dl_339 : decode code 339 = .ok (.iload_n 3, 1) := by decide +kernel
theorem dl_340 : decode code 340 = .ok (.iconst 1, 1) := by decide +kernel
theorem dl_341 : decode code 341 = .ok (.iadd, 1) := by decide +kernel
theorem dl_342 : decode code 342 = .ok (.iaload, 1) := by decide +kernel
theorem dl_343 : decode code 343 = .ok (.invokevirtual 27, 3) := by decide +kernel
theorem dl_346 : decode code 346 = .ok (.pop, 1) := by decide +kernel
theorem dl_347 : decode code 347 = .ok (.aload_n 2, 1) := by decide +kernel
theorem dl_348 : decode code 348 = .ok (.aload_n 0, 1) := by decide +kernel
theorem dl_349 : decode code 349 = .ok (.iload_n 3, 1) := by decide +kernel
theorem dl_350 : decode code 350 = .ok (.iconst 1, 1) := by decide +kernel
theorem dl_351 : decode code 351 = .ok (.iadd, 1) := by decide +kernel
theorem dl_352 : decode code 352 = .ok (.iaload, 1) := by decide +kernel
theorem dl_353 : decode code 353 = .ok (.invokevirtual 30, 3) := by decide +kernel
theorem dl_356 : decode code 356 = .ok (.pop, 1) := by decide +kernel
theorem dl_357 : decode code 357 = .ok (.goto 1156, 3) := by decide +kernel
theorem dl_360 : decode code 360 = .ok (.aload_n 1, 1) := by decide +kernel
theorem dl_361 : decode code 361 = .ok (.aload_n 0, 1) := by decide +kernel
theorem dl_362 : decode code 362 = .ok (.iload_n 3, 1) := by decide +kernel
theorem dl_363 : decode code 363 = .ok (.iconst 1, 1) := by decide +kernel
theorem dl_364 : decode code 364 = .ok (.iadd, 1) := by decide +kernel
theorem dl_365 : decode code 365 = .ok (.iaload, 1) := by decide +kernel
theorem dl_366 : decode code 366 = .ok (.invokevirtual 31, 3) := by decide +kernel
theorem dl_369 : decode code 369 = .ok (.pop, 1) := by decide +kernel
theorem dl_370 : decode code 370 = .ok (.aload_n 2, 1) := by decide +kernel
theorem dl_371 : decode code 371 = .ok (.aload_n 0, 1) := by decide +kernel
theorem dl_372 : decode code 372 = .ok (.iload_n 3, 1) := by decide +kernel
theorem dl_373 : decode code 373 = .ok (.iconst 1, 1) := by decide +kernel
theorem dl_374 : decode code 374 = .ok (.iadd, 1) := by decide +kernel
theorem dl_375 : decode code 375 = .ok (.iaload, 1) := by decide +kernel
theorem dl_376 : decode code 376 = .ok (.invokevirtual 34, 3) := by decide +kernel
theorem dl_379 : decode code 379 = .ok (.pop, 1) := by decide +kernel
theorem dl_380 : decode code 380 = .ok (.goto 1133, 3) := by decide +kernel
theorem dl_383 : decode code 383 = .ok (.aload_n 1, 1) := by decide +kernel
theorem dl_384 : decode code 384 = .ok (.aload_n 0, 1) := by decide +kernel
theorem dl_385 : decode code 385 = .ok (.iload_n 3, 1) := by decide +kernel
theorem dl_386 : decode code 386 = .ok (.iconst 1, 1) := by decide +kernel
theorem dl_387 : decode code 387 = .ok (.iadd, 1) := by decide +kernel
theorem dl_388 : decode code 388 = .ok (.iaload, 1) := by decide +kernel
theorem dl_389 : decode code 389 = .ok (.aload_n 0, 1) := by decide +kernel
theorem dl_390 : decode code 390 = .ok (.iload_n 3, 1) := by decide +kernel
theorem dl_391 : decode code 391 = .ok (.iconst 2, 1) := by decide +kernel
theorem dl_392 : decode code 392 = .ok (.iadd, 1) := by decide +kernel
theorem dl_393 : decode code 393 = .ok (.iaload, 1) := by decide +kernel
theorem dl_394 : decode code 394 = .ok (.invokevirtual 35, 3) := by decide +kernel
theorem dl_397 : decode code 397 = .ok (.pop, 1) := by decide +kernel
theorem dl_398 : decode code 398 = .ok (.aload_n 2, 1) := by decide +kernel
theorem dl_399 : decode code 399 = .ok (.aload_n 0, 1) := by decide +kernel
theorem dl_400 : decode code 400 = .ok (.iload_n 3, 1) := by decide +kernel
theorem dl_401 : decode code 401 = .ok (.iconst 1, 1) := by decide +kernel
theorem dl_402 : decode code 402 = .ok (.iadd, 1) := by decide +kernel
theorem dl_403 : decode code 403 = .ok (.iaload, 1) := by decide +kernel
theorem dl_404 : decode code 404 = .ok (.aload_n 0, 1) := by decide +kernel
theorem dl_405 : decode code 405 = .ok (.iload_n 3, 1) := by decide +kernel
theorem dl_406 : decode code 406 = .ok (.iconst 2, 1) := by decide +kernel
theorem dl_407 : decode code 407 = .ok (.iadd, 1) := by decide +kernel
theorem dl_408 : decode code 408 = .ok (.iaload, 1) := by decide +kernel
theorem dl_409 : decode code 409 = .ok (.invokevirtual 39, 3) := by decide +kernel
theorem dl_412 : decode code 412 = .ok (.pop, 1) := by decide +kernel
theorem dl_413 : decode code 413 = .ok (.goto 1100, 3) := by decide +kernel
theorem dl_416 : decode code 416 = .ok (.aload_n 1, 1) := by decide +kernel
theorem dl_417 : decode code 417 = .ok (.aload_n 0, 1) := by decide +kernel
theorem dl_418 : decode code 418 = .ok (.iload_n 3, 1) := by decide +kernel
theorem dl_419 : decode code 419 = .ok (.iconst 1, 1) := by decide +kernel
theorem dl_420 : decode code 420 = .ok (.iadd, 1) := by decide +kernel
theorem dl_421 : decode code 421 = .ok (.iaload, 1) := by decide +kernel
theorem dl_422 : decode code 422 = .ok (.invokevirtual 40, 3) := by decide +kernel
theorem dl_425 : decode code 425 = .ok (.pop, 1) := by decide +kernel
theorem dl_426 : decode code 426 = .ok (.aload_n 2, 1) := by decide +kernel
theorem dl_427 : decode code 427 = .ok (.aload_n 0, 1) := by decide +kernel
theorem dl_428 : decode code 428 = .ok (.iload_n 3, 1) := by decide +kernel
theorem dl_429 : decode code 429 = .ok (.iconst 1, 1) := by decide +kernel
theorem dl_430 : decode code 430 = .ok (.iadd, 1) := by decide +kernel
theorem dl_431 : decode code 431 = .ok (.iaload, 1) := by decide +kernel
theorem dl_432 : decode code 432 = .ok (.invokevirtual 43, 3) := by decide +kernel
theorem dl_435 : decode code 435 = .ok (.pop, 1) := by decide +kernel
theorem dl_436 : decode code 436 = .ok (.goto 1077, 3) := by decide +kernel
theorem dl_439 : decode code 439 = .ok (.aload_n 1, 1) := by decide +kernel
theorem dl_440 : decode code 440 = .ok (.aload_n 0, 1) := by decide +kernel
theorem dl_441 : decode code 441 = .ok (.iload_n 3, 1) := by decide +kernel
theorem dl_442 : decode code 442 = .ok (.iconst 1, 1) := by decide +kernel
theorem dl_443 : decode code 443 = .ok (.iadd, 1) := by decide +kernel
theorem dl_444 : decode code 444 = .ok (.iaload, 1) := by decide +kernel
theorem dl_445 : decode code 445 = .ok (.invokevirtual 44, 3) := by decide +kernel
theorem dl_448 : decode code 448 = .ok (.pop, 1) := by decide +kernel
theorem dl_449 : decode code 449 = .ok (.aload_n 2, 1) := by decide +kernel
theorem dl_450 : decode code 450 = .ok (.aload_n 0, 1) := by decide +kernel
theorem dl_451 : decode code 451 = .ok (.iload_n 3, 1) := by decide +kernel
theorem dl_452 : decode code 452 = .ok (.iconst 1, 1) := by decide +kernel
theorem dl_453 : decode code 453 = .ok (.iadd, 1) := by decide +kernel
theorem dl_454 : decode code 454 = .ok (.iaload, 1) := by decide +kernel
theorem dl_455 : decode code 455 = .ok (.invokevirtual 47, 3) := by decide +kernel
theorem dl_458 : decode code 458 = .ok (.pop, 1) := by decide +kernel
theorem dl_459 : decode code 459 = .ok (.goto 1054, 3) := by decide +kernel
theorem dl_462 : decode code 462 = .ok (.aload_n 1, 1) := by decide +kernel
theorem dl_463 : decode code 463 = .ok (.aload_n 0, 1) := by decide +kernel
theorem dl_464 : decode code 464 = .ok (.iload_n 3, 1) := by decide +kernel
theorem dl_465 : decode code 465 = .ok (.iconst 1, 1) := by decide +kernel
theorem dl_466 : decode code 466 = .ok (.iadd, 1) := by decide +kernel
theorem dl_467 : decode code 467 = .ok (.iaload, 1) := by decide +kernel
theorem dl_468 : decode code 468 = .ok (.aload_n 0, 1) := by decide +kernel
theorem dl_469 : decode code 469 = .ok (.iload_n 3, 1) := by decide +kernel
theorem dl_470 : decode code 470 = .ok (.iconst 2, 1) := by decide +kernel
theorem dl_471 : decode code 471 = .ok (.iadd, 1) := by decide +kernel
theorem dl_472 : decode code 472 = .ok (.iaload, 1) := by decide +kernel
theorem dl_473 : decode code 473 = .ok (.invokevirtual 48, 3) := by decide +kernel
theorem dl_476 : decode code 476 = .ok (.pop, 1) := by decide +kernel
theorem dl_477 : decode code 477 = .ok (.aload_n 2, 1) := by decide +kernel
theorem dl_478 : decode code 478 = .ok (.aload_n 0, 1) := by decide +kernel
theorem dl_479 : decode code 479 = .ok (.iload_n 3, 1) := by decide +kernel
theorem dl_480 : decode code 480 = .ok (.iconst 1, 1) := by decide +kernel
theorem dl_481 : decode code 481 = .ok (.iadd, 1) := by decide +kernel
theorem dl_482 : decode code 482 = .ok (.iaload, 1) := by decide +kernel
theorem dl_483 : decode code 483 = .ok (.aload_n 0, 1) := by decide +kernel
theorem dl_484 : decode code 484 = .ok (.iload_n 3, 1) := by decide +kernel
theorem dl_485 : decode code 485 = .ok (.iconst 2, 1) := by decide +kernel
theorem dl_486 : decode code 486 = .ok (.iadd, 1) := by decide +kernel
theorem dl_487 : decode code 487 = .ok (.iaload, 1) := by decide +kernel
theorem dl_488 : decode code 488 = .ok (.invokevirtual 51, 3) := by decide +kernel
theorem dl_491 : decode code 491 = .ok (.pop, 1) := by decide +kernel
theorem dl_492 : decode code 492 = .ok (.goto 1021, 3) := by decide +kernel
theorem dl_495 : decode code 495 = .ok (.aload_n 1, 1) := by decide +kernel
theorem dl_496 : decode code 496 = .ok (.aload_n 0, 1) := by decide +kernel
theorem dl_497 : decode code 497 = .ok (.iload_n 3, 1) := by decide +kernel
theorem dl_498 : decode code 498 = .ok (.iconst 1, 1) := by decide +kernel
theorem dl_499 : decode code 499 = .ok (.iadd, 1) := by decide +kernel
theorem dl_500 : decode code 500 = .ok (.iaload, 1) := by decide +kernel
theorem dl_501 : decode code 501 = .ok (.aload_n 0, 1) := by decide +kernel
theorem dl_502 : decode code 502 = .ok (.iload_n 3, 1) := by decide +kernel
theorem dl_503 : decode code 503 = .ok (.iconst 2, 1) := by decide +kernel
theorem dl_504 : decode code 504 = .ok (.iadd, 1) := by decide +kernel
theorem dl_505 : decode code 505 = .ok (.iaload, 1) := by decide +kernel
theorem dl_506 : decode code 506 = .ok (.invokevirtual 52, 3) := by decide +kernel
theorem dl_509 : decode code 509 = .ok (.pop, 1) := by decide +kernel
theorem dl_510 : decode code 510 = .ok (.aload_n 2, 1) := by decide +kernel
theorem dl_511 : decode code 511 = .ok (.aload_n 0, 1) := by decide +kernel
theorem dl_512 : decode code 512 = .ok (.iload_n 3, 1) := by decide +kernel
theorem dl_513 : decode code 513 = .ok (.iconst 1, 1) := by decide +kernel
theorem dl_514 : decode code 514 = .ok (.iadd, 1) := by decide +kernel
theorem dl_515 : decode code 515 = .ok (.iaload, 1) := by decide +kernel
theorem dl_516 : decode code 516 = .ok (.aload_n 0, 1) := by decide +kernel
theorem dl_517 : decode code 517 = .ok (.iload_n 3, 1) := by decide +kernel
theorem dl_518 : decode code 518 = .ok (.iconst 2, 1) := by decide +kernel
theorem dl_519 : decode code 519 = .ok (.iadd, 1) := by decide +kernel
theorem dl_520 : decode code 520 = .ok (.iaload, 1) := by decide +kernel
theorem dl_521 : decode code 521 = .ok (.invokevirtual 55, 3) := by decide +kernel
theorem dl_524 : decode code 524 = .ok (.pop, 1) := by decide +kernel
theorem dl_525 : decode code 525 = .ok (.goto 988, 3) := by decide +kernel
theorem dl_528 : decode code 528 = .ok (.aload_n 1, 1) := by decide +kernel
theorem dl_529 : decode code 529 = .ok (.aload_n 0, 1) := by decide +kernel
theorem dl_530 : decode code 530 = .ok (.iload_n 3, 1) := by decide +kernel
theorem dl_531 : decode code 531 = .ok (.iconst 1, 1) := by decide +kernel
theorem dl_532 : decode code 532 = .ok (.iadd, 1) := by decide +kernel
theorem dl_533 : decode code 533 = .ok (.iaload, 1) := by decide +kernel
theorem dl_534 : decode code 534 = .ok (.invokevirtual 56, 3) := by decide +kernel
theorem dl_537 : decode code 537 = .ok (.pop, 1) := by decide +kernel
theorem dl_538 : decode code 538 = .ok (.aload_n 2, 1) := by decide +kernel
theorem dl_539 : decode code 539 = .ok (.aload_n 0, 1) := by decide +kernel
theorem dl_540 : decode code 540 = .ok (.iload_n 3, 1) := by decide +kernel
theorem dl_541 : decode code 541 = .ok (.iconst 1, 1) := by decide +kernel
theorem dl_542 : decode code 542 = .ok (.iadd, 1) := by decide +kernel
theorem dl_543 : decode code 543 = .ok (.iaload, 1) := by decide +kernel
theorem dl_544 : decode code 544 = .ok (.invokevirtual 59, 3) := by decide +kernel
theorem dl_547 : decode code 547 = .ok (.pop, 1) := by decide +kernel
theorem dl_548 : decode code 548 = .ok (.goto 965, 3) := by decide +kernel
theorem dl_551 : decode code 551 = .ok (.aload_n 1, 1) := by decide +kernel
theorem dl_552 : decode code 552 = .ok (.aload_n 0, 1) := by decide +kernel
theorem dl_553 : decode code 553 = .ok (.iload_n 3, 1) := by decide +kernel
theorem dl_554 : decode code 554 = .ok (.iconst 1, 1) := by decide +kernel
theorem dl_555 : decode code 555 = .ok (.iadd, 1) := by decide +kernel
theorem dl_556 : decode code 556 = .ok (.iaload, 1) := by decide +kernel
theorem dl_557 : decode code 557 = .ok (.invokevirtual 60, 3) := by decide +kernel
theorem dl_560 : decode code 560 = .ok (.pop, 1) := by decide +kernel
theorem dl_561 : decode code 561 = .ok (.aload_n 2, 1) := by decide +kernel
theorem dl_562 : decode code 562 = .ok (.aload_n 0, 1) := by decide +kernel
theorem dl_563 : decode code 563 = .ok (.iload_n 3, 1) := by decide +kernel
theorem dl_564 : decode code 564 = .ok (.iconst 1, 1) := by decide +kernel
theorem dl_565 : decode code 565 = .ok (.iadd, 1) := by decide +kernel
theorem dl_566 : decode code 566 = .ok (.iaload, 1) := by decide +kernel
theorem dl_567 : decode code 567 = .ok (.invokevirtual 63, 3) := by decide +kernel
theorem dl_570 : decode code 570 = .ok (.pop, 1) := by decide +kernel
theorem dl_571 : decode code 571 = .ok (.goto 942, 3) := by decide +kernel
theorem dl_574 : decode code 574 = .ok (.aload_n 1, 1) := by decide +kernel
theorem dl_575 : decode code 575 = .ok (.aload_n 0, 1) := by decide +kernel
theorem dl_576 : decode code 576 = .ok (.iload_n 3, 1) := by decide +kernel
theorem dl_577 : decode code 577 = .ok (.iconst 1, 1) := by decide +kernel
theorem dl_578 : decode code 578 = .ok (.iadd, 1) := by decide +kernel
theorem dl_579 : decode code 579 = .ok (.iaload, 1) := by decide +kernel
theorem dl_580 : decode code 580 = .ok (.aload_n 0, 1) := by decide +kernel
theorem dl_581 : decode code 581 = .ok (.iload_n 3, 1) := by decide +kernel
theorem dl_582 : decode code 582 = .ok (.iconst 2, 1) := by decide +kernel
theorem dl_583 : decode code 583 = .ok (.iadd, 1) := by decide +kernel
theorem dl_584 : decode code 584 = .ok (.iaload, 1) := by decide +kernel
theorem dl_585 : decode code 585 = .ok (.invokevirtual 64, 3) := by decide +kernel
theorem dl_588 : decode code 588 = .ok (.pop, 1) := by decide +kernel
theorem dl_589 : decode code 589 = .ok (.aload_n 2, 1) := by decide +kernel
theorem dl_590 : decode code 590 = .ok (.aload_n 0, 1) := by decide +kernel
theorem dl_591 : decode code 591 = .ok (.iload_n 3, 1) := by decide +kernel
theorem dl_592 : decode code 592 = .ok (.iconst 1, 1) := by decide +kernel
theorem dl_593 : decode code 593 = .ok (.iadd, 1) := by decide +kernel
theorem dl_594 : decode code 594 = .ok (.iaload, 1) := by decide +kernel
theorem dl_595 : decode code 595 = .ok (.aload_n 0, 1) := by decide +kernel
theorem dl_596 : decode code 596 = .ok (.iload_n 3, 1) := by decide +kernel
theorem dl_597 : decode code 597 = .ok (.iconst 2, 1) := by decide +kernel
theorem dl_598 : decode code 598 = .ok (.iadd, 1) := by decide +kernel
theorem dl_599 : decode code 599 = .ok (.iaload, 1) := by decide +kernel
theorem dl_600 : decode code 600 = .ok (.invokevirtual 67, 3) := by decide +kernel
theorem dl_603 : decode code 603 = .ok (.pop, 1) := by decide +kernel
theorem dl_604 : decode code 604 = .ok (.goto 909, 3) := by decide +kernel
theorem dl_607 : decode code 607 = .ok (.aload_n 1, 1) := by decide +kernel
theorem dl_608 : decode code 608 = .ok (.aload_n 0, 1) := by decide +kernel
theorem dl_609 : decode code 609 = .ok (.iload_n 3, 1) := by decide +kernel
theorem dl_610 : decode code 610 = .ok (.iconst 1, 1) := by decide +kernel
theorem dl_611 : decode code 611 = .ok (.iadd, 1) := by decide +kernel
theorem dl_612 : decode code 612 = .ok (.iaload, 1) := by decide +kernel
theorem dl_613 : decode code 613 = .ok (.invokevirtual 68, 3) := by decide +kernel
theorem dl_616 : decode code 616 = .ok (.pop, 1) := by decide +kernel
theorem dl_617 : decode code 617 = .ok (.aload_n 2, 1) := by decide +kernel
theorem dl_618 : decode code 618 = .ok (.aload_n 0, 1) := by decide +kernel
theorem dl_619 : decode code 619 = .ok (.iload_n 3, 1) := by decide +kernel
theorem dl_620 : decode code 620 = .ok (.iconst 1, 1) := by decide +kernel
theorem dl_621 : decode code 621 = .ok (.iadd, 1) := by decide +kernel
theorem dl_622 : decode code 622 = .ok (.iaload, 1) := by decide +kernel
theorem dl_623 : decode code 623 = .ok (.invokevirtual 71, 3) := by decide +kernel
theorem dl_626 : decode code 626 = .ok (.pop, 1) := by decide +kernel
theorem dl_627 : decode code 627 = .ok (.goto 886, 3) := by decide +kernel
theorem dl_630 : decode code 630 = .ok (.aload_n 1, 1) := by decide +kernel
theorem dl_631 : decode code 631 = .ok (.aload_n 0, 1) := by decide +kernel
theorem dl_632 : decode code 632 = .ok (.iload_n 3, 1) := by decide +kernel
theorem dl_633 : decode code 633 = .ok (.iconst 1, 1) := by decide +kernel
theorem dl_634 : decode code 634 = .ok (.iadd, 1) := by decide +kernel
theorem dl_635 : decode code 635 = .ok (.iaload, 1) := by decide +kernel
theorem dl_636 : decode code 636 = .ok (.aload_n 0, 1) := by decide +kernel
theorem dl_637 : decode code 637 = .ok (.iload_n 3, 1) := by decide +kernel
theorem dl_638 : decode code 638 = .ok (.iconst 2, 1) := by decide +kernel
theorem dl_639 : decode code 639 = .ok (.iadd, 1) := by decide +kernel
theorem dl_640 : decode code 640 = .ok (.iaload, 1) := by decide +kernel
theorem dl_641 : decode code 641 = .ok (.invokevirtual 72, 3) := by decide +kernel
theorem dl_644 : decode code 644 = .ok (.pop, 1) := by decide +kernel
theorem dl_645 : decode code 645 = .ok (.aload_n 2, 1) := by decide +kernel
theorem dl_646 : decode code 646 = .ok (.aload_n 0, 1) := by decide +kernel
theorem dl_647 : decode code 647 = .ok (.iload_n 3, 1) := by decide +kernel
theorem dl_648 : decode code 648 = .ok (.iconst 1, 1) := by decide +kernel
theorem dl_649 : decode code 649 = .ok (.iadd, 1) := by decide +kernel
theorem dl_650 : decode code 650 = .ok (.iaload, 1) := by decide +kernel
theorem dl_651 : decode code 651 = .ok (.aload_n 0, 1) := by decide +kernel
theorem dl_652 : decode code 652 = .ok (.iload_n 3, 1) := by decide +kernel
theorem dl_653 : decode code 653 = .ok (.iconst 2, 1) := by decide +kernel
theorem dl_654 : decode code 654 = .ok (.iadd, 1) := by decide +kernel
theorem dl_655 : decode code 655 = .ok (.iaload, 1) := by decide +kernel
theorem dl_656 : decode code 656 = .ok (.invokevirtual 75, 3) := by decide +kernel
theorem dl_659 : decode code 659 = .ok (.pop, 1) := by decide +kernel
theorem dl_660 : decode code 660 = .ok (.goto 853, 3) := by decide +kernel
theorem dl_663 : decode code 663 = .ok (.aload_n 1, 1) := by decide +kernel
theorem dl_664 : decode code 664 = .ok (.aload_n 0, 1) := by decide +kernel
theorem dl_665 : decode code 665 = .ok (.iload_n 3, 1) := by decide +kernel
theorem dl_666 : decode code 666 = .ok (.iconst 1, 1) := by decide +kernel
theorem dl_667 : decode code 667 = .ok (.iadd, 1) := by decide +kernel
theorem dl_668 : decode code 668 = .ok (.iaload, 1) := by decide +kernel
theorem dl_669 : decode code 669 = .ok (.i2l, 1) := by decide +kernel
theorem dl_670 : decode code 670 = .ok (.bipush 32, 2) := by decide +kernel
theorem dl_672 : decode code 672 = .ok (.lshl, 1) := by decide +kernel
theorem dl_673 : decode code 673 = .ok (.aload_n 0, 1) := by decide +kernel
theorem dl_674 : decode code 674 = .ok (.iload_n 3, 1) := by decide +kernel
theorem dl_675 : decode code 675 = .ok (.iconst 2, 1) := by decide +kernel
theorem dl_676 : decode code 676 = .ok (.iadd, 1) := by decide +kernel
theorem dl_677 : decode code 677 = .ok (.iaload, 1) := by decide +kernel
theorem dl_678 : decode code 678 = .ok (.i2l, 1) := by decide +kernel
theorem dl_679 : decode code 679 = .ok (.ldc2_w 76, 3) := by decide +kernel
theorem dl_682 : decode code 682 = .ok (.land, 1) := by decide +kernel
theorem dl_683 : decode code 683 = .ok (.lor, 1) := by decide +kernel
theorem dl_684 : decode code 684 = .ok (.invokevirtual 78, 3) := by decide +kernel
theorem dl_687 : decode code 687 = .ok (.pop, 1) := by decide +kernel
theorem dl_688 : decode code 688 = .ok (.aload_n 2, 1) := by decide +kernel
theorem dl_689 : decode code 689 = .ok (.aload_n 0, 1) := by decide +kernel
theorem dl_690 : decode code 690 = .ok (.iload_n 3, 1) := by decide +kernel
theorem dl_691 : decode code 691 = .ok (.iconst 1, 1) := by decide +kernel
theorem dl_692 : decode code 692 = .ok (.iadd, 1) := by decide +kernel
theorem dl_693 : decode code 693 = .ok (.iaload, 1) := by decide +kernel
theorem dl_694 : decode code 694 = .ok (.i2l, 1) := by decide +kernel
theorem dl_695 : decode code 695 = .ok (.bipush 32, 2) := by decide +kernel
theorem dl_697 : decode code 697 = .ok (.lshl, 1) := by decide +kernel
theorem dl_698 : decode code 698 = .ok (.aload_n 0, 1) := by decide +kernel
theorem dl_699 : decode code 699 = .ok (.iload_n 3, 1) := by decide +kernel
theorem dl_700 : decode code 700 = .ok (.iconst 2, 1) := by decide +kernel
theorem dl_701 : decode code 701 = .ok (.iadd, 1) := by decide +kernel
theorem dl_702 : decode code 702 = .ok (.iaload, 1) := by decide +kernel
theorem dl_703 : decode code 703 = .ok (.i2l, 1) := by decide +kernel
theorem dl_704 : decode code 704 = .ok (.ldc2_w 76, 3) := by decide +kernel
theorem dl_707 : decode code 707 = .ok (.land, 1) := by decide +kernel
theorem dl_708 : decode code 708 = .ok (.lor, 1) := by decide +kernel
theorem dl_709 : decode code 709 = .ok (.invokevirtual 82, 3) := by decide +kernel
theorem dl_712 : decode code 712 = .ok (.pop, 1) := by decide +kernel
theorem dl_713 : decode code 713 = .ok (.goto 800, 3) := by decide +kernel
theorem dl_716 : decode code 716 = .ok (.aload_n 1, 1) := by decide +kernel
theorem dl_717 : decode code 717 = .ok (.aload_n 0, 1) := by decide +kernel
theorem dl_718 : decode code 718 = .ok (.iload_n 3, 1) := by decide +kernel
theorem dl_719 : decode code 719 = .ok (.iconst 1, 1) := by decide +kernel
theorem dl_720 : decode code 720 = .ok (.iadd, 1) := by decide +kernel
theorem dl_721 : decode code 721 = .ok (.iaload, 1) := by decide +kernel
theorem dl_722 : decode code 722 = .ok (.invokevirtual 83, 3) := by decide +kernel
theorem dl_725 : decode code 725 = .ok (.pop, 1) := by decide +kernel
theorem dl_726 : decode code 726 = .ok (.aload_n 2, 1) := by decide +kernel
theorem dl_727 : decode code 727 = .ok (.aload_n 0, 1) := by decide +kernel
theorem dl_728 : decode code 728 = .ok (.iload_n 3, 1) := by decide +kernel
theorem dl_729 : decode code 729 = .ok (.iconst 1, 1) := by decide +kernel
theorem dl_730 : decode code 730 = .ok (.iadd, 1) := by decide +kernel
theorem dl_731 : decode code 731 = .ok (.iaload, 1) := by decide +kernel
theorem dl_732 : decode code 732 = .ok (.invokevirtual 86, 3) := by decide +kernel
theorem dl_735 : decode code 735 = .ok (.pop, 1) := by decide +kernel
theorem dl_736 : decode code 736 = .ok (.goto 777, 3) := by decide +kernel
theorem dl_739 : decode code 739 = .ok (.aload_n 1, 1) := by decide +kernel
theorem dl_740 : decode code 740 = .ok (.aload_n 0, 1) := by decide +kernel
theorem dl_741 : decode code 741 = .ok (.iload_n 3, 1) := by decide +kernel
theorem dl_742 : decode code 742 = .ok (.iconst 1, 1) := by decide +kernel
theorem dl_743 : decode code 743 = .ok (.iadd, 1) := by decide +kernel
theorem dl_744 : decode code 744 = .ok (.iaload, 1) := by decide +kernel
theorem dl_745 : decode code 745 = .ok (.invokevirtual 87, 3) := by decide +kernel
theorem dl_748 : decode code 748 = .ok (.pop, 1) := by decide +kernel
theorem dl_749 : decode code 749 = .ok (.aload_n 2, 1) := by decide +kernel
theorem dl_750 : decode code 750 = .ok (.aload_n 0, 1) := by decide +kernel
theorem dl_751 : decode code 751 = .ok (.iload_n 3, 1) := by decide +kernel
theorem dl_752 : decode code 752 = .ok (.iconst 1, 1) := by decide +kernel
theorem dl_753 : decode code 753 = .ok (.iadd, 1) := by decide +kernel
theorem dl_754 : decode code 754 = .ok (.iaload, 1) := by decide +kernel
theorem dl_755 : decode code 755 = .ok (.invokevirtual 90, 3) := by decide +kernel
theorem dl_758 : decode code 758 = .ok (.pop, 1) := by decide +kernel
theorem dl_759 : decode code 759 = .ok (.goto 754, 3) := by decide +kernel
theorem dl_762 : decode code 762 = .ok (.aload_n 1, 1) := by decide +kernel
theorem dl_763 : decode code 763 = .ok (.aload_n 0, 1) := by decide +kernel
theorem dl_764 : decode code 764 = .ok (.iload_n 3, 1) := by decide +kernel
theorem dl_765 : decode code 765 = .ok (.iconst 1, 1) := by decide +kernel
theorem dl_766 : decode code 766 = .ok (.iadd, 1) := by decide +kernel
theorem dl_767 : decode code 767 = .ok (.iaload, 1) := by decide +kernel
theorem dl_768 : decode code 768 = .ok (.invokevirtual 91, 3) := by decide +kernel
theorem dl_771 : decode code 771 = .ok (.pop, 1) := by decide +kernel
theorem dl_772 : decode code 772 = .ok (.aload_n 2, 1) := by decide +kernel
theorem dl_773 : decode code 773 = .ok (.aload_n 0, 1) := by decide +kernel
theorem dl_774 : decode code 774 = .ok (.iload_n 3, 1) := by decide +kernel
theorem dl_775 : decode code 775 = .ok (.iconst 1, 1) := by decide +kernel
theorem dl_776 : decode code 776 = .ok (.iadd, 1) := by decide +kernel
theorem dl_777 : decode code 777 = .ok (.iaload, 1) := by decide +kernel
theorem dl_778 : decode code 778 = .ok (.invokevirtual 94, 3) := by decide +kernel
theorem dl_781 : decode code 781 = .ok (.pop, 1) := by decide +kernel
theorem dl_782 : decode code 782 = .ok (.goto 731, 3) := by decide +kernel
theorem dl_785 : decode code 785 = .ok (.aload_n 1, 1) := by decide +kernel
theorem dl_786 : decode code 786 = .ok (.aload_n 0, 1) := by decide +kernel
theorem dl_787 : decode code 787 = .ok (.iload_n 3, 1) := by decide +kernel
theorem dl_788 : decode code 788 = .ok (.iconst 1, 1) := by decide +kernel
theorem dl_789 : decode code 789 = .ok (.iadd, 1) := by decide +kernel
theorem dl_790 : decode code 790 = .ok (.iaload, 1) := by decide +kernel
theorem dl_791 : decode code 791 = .ok (.invokevirtual 95, 3) := by decide +kernel
theorem dl_794 : decode code 794 = .ok (.pop, 1) := by decide +kernel
theorem dl_795 : decode code 795 = .ok (.aload_n 2, 1) := by decide +kernel
theorem dl_796 : decode code 796 = .ok (.aload_n 0, 1) := by decide +kernel
theorem dl_797 : decode code 797 = .ok (.iload_n 3, 1) := by decide +kernel
theorem dl_798 : decode code 798 = .ok (.iconst 1, 1) := by decide +kernel
theorem dl_799 : decode code 799 = .ok (.iadd, 1) := by decide +kernel
theorem dl_800 : decode code 800 = .ok (.iaload, 1) := by decide +kernel
theorem dl_801 : decode code 801 = .ok (.invokevirtual 98, 3) := by decide +kernel
theorem dl_804 : decode code 804 = .ok (.pop, 1) := by decide +kernel
theorem dl_805 : decode code 805 = .ok (.goto 708, 3) := by decide +kernel
theorem dl_808 : decode code 808 = .ok (.aload_n 1, 1) := by decide +kernel
theorem dl_809 : decode code 809 = .ok (.aload_n 0, 1) := by decide +kernel
theorem dl_810 : decode code 810 = .ok (.iload_n 3, 1) := by decide +kernel
theorem dl_811 : decode code 811 = .ok (.iconst 1, 1) := by decide +kernel
theorem dl_812 : decode code 812 = .ok (.iadd, 1) := by decide +kernel
theorem dl_813 : decode code 813 = .ok (.iaload, 1) := by decide +kernel
theorem dl_814 : decode code 814 = .ok (.aload_n 0, 1) := by decide +kernel
theorem dl_815 : decode code 815 = .ok (.iload_n 3, 1) := by decide +kernel
theorem dl_816 : decode code 816 = .ok (.iconst 2, 1) := by decide +kernel
theorem dl_817 : decode code 817 = .ok (.iadd, 1) := by decide +kernel
theorem dl_818 : decode code 818 = .ok (.iaload, 1) := by decide +kernel
theorem dl_819 : decode code 819 = .ok (.invokevirtual 99, 3) := by decide +kernel
theorem dl_822 : decode code 822 = .ok (.pop, 1) := by decide +kernel
theorem dl_823 : decode code 823 = .ok (.aload_n 2, 1) := by decide +kernel
theorem dl_824 : decode code 824 = .ok (.aload_n 0, 1) := by decide +kernel
theorem dl_825 : decode code 825 = .ok (.iload_n 3, 1) := by decide +kernel
theorem dl_826 : decode code 826 = .ok (.iconst 1, 1) := by decide +kernel
theorem dl_827 : decode code 827 = .ok (.iadd, 1) := by decide +kernel
theorem dl_828 : decode code 828 = .ok (.iaload, 1) := by decide +kernel
theorem dl_829 : decode code 829 = .ok (.aload_n 0, 1) := by decide +kernel
theorem dl_830 : decode code 830 = .ok (.iload_n 3, 1) := by decide +kernel
theorem dl_831 : decode code 831 = .ok (.iconst 2, 1) := by decide +kernel
theorem dl_832 : decode code 832 = .ok (.iadd, 1) := by decide +kernel
theorem dl_833 : decode code 833 = .ok (.iaload, 1) := by decide +kernel
theorem dl_834 : decode code 834 = .ok (.invokevirtual 102, 3) := by decide +kernel
theorem dl_837 : decode code 837 = .ok (.pop, 1) := by decide +kernel
theorem dl_838 : decode code 838 = .ok (.goto 675, 3) := by decide +kernel
theorem dl_841 : decode code 841 = .ok (.aload_n 1, 1) := by decide +kernel
theorem dl_842 : decode code 842 = .ok (.aload_n 0, 1) := by decide +kernel
theorem dl_843 : decode code 843 = .ok (.iload_n 3, 1) := by decide +kernel
theorem dl_844 : decode code 844 = .ok (.iconst 1, 1) := by decide +kernel
theorem dl_845 : decode code 845 = .ok (.iadd, 1) := by decide +kernel
theorem dl_846 : decode code 846 = .ok (.iaload, 1) := by decide +kernel
theorem dl_847 : decode code 847 = .ok (.aload_n 0, 1) := by decide +kernel
theorem dl_848 : decode code 848 = .ok (.iload_n 3, 1) := by decide +kernel
theorem dl_849 : decode code 849 = .ok (.iconst 2, 1) := by decide +kernel
theorem dl_850 : decode code 850 = .ok (.iadd, 1) := by decide +kernel
theorem dl_851 : decode code 851 = .ok (.iaload, 1) := by decide +kernel
theorem dl_852 : decode code 852 = .ok (.invokevirtual 103, 3) := by decide +kernel
theorem dl_855 : decode code 855 = .ok (.pop2, 1) := by decide +kernel
theorem dl_856 : decode code 856 = .ok (.aload_n 2, 1) := by decide +kernel
theorem dl_857 : decode code 857 = .ok (.aload_n 0, 1) := by decide +kernel
theorem dl_858 : decode code 858 = .ok (.iload_n 3, 1) := by decide +kernel
theorem dl_859 : decode code 859 = .ok (.iconst 1, 1) := by decide +kernel
theorem dl_860 : decode code 860 = .ok (.iadd, 1) := by decide +kernel
theorem dl_861 : decode code 861 = .ok (.iaload, 1) := by decide +kernel
theorem dl_862 : decode code 862 = .ok (.aload_n 0, 1) := by decide +kernel
theorem dl_863 : decode code 863 = .ok (.iload_n 3, 1) := by decide +kernel
theorem dl_864 : decode code 864 = .ok (.iconst 2, 1) := by decide +kernel
theorem dl_865 : decode code 865 = .ok (.iadd, 1) := by decide +kernel
theorem dl_866 : decode code 866 = .ok (.iaload, 1) := by decide +kernel
theorem dl_867 : decode code 867 = .ok (.invokevirtual 107, 3) := by decide +kernel
theorem dl_870 : decode code 870 = .ok (.pop2, 1) := by decide +kernel
theorem dl_871 : decode code 871 = .ok (.goto 642, 3) := by decide +kernel
theorem dl_874 : decode code 874 = .ok (.aload_n 1, 1) := by decide +kernel
theorem dl_875 : decode code 875 = .ok (.aload_n 0, 1) := by decide +kernel
theorem dl_876 : decode code 876 = .ok (.iload_n 3, 1) := by decide +kernel
theorem dl_877 : decode code 877 = .ok (.iconst 1, 1) := by decide +kernel
theorem dl_878 : decode code 878 = .ok (.iadd, 1) := by decide +kernel
theorem dl_879 : decode code 879 = .ok (.iaload, 1) := by decide +kernel
theorem dl_880 : decode code 880 = .ok (.invokevirtual 108, 3) := by decide +kernel
theorem dl_883 : decode code 883 = .ok (.pop, 1) := by decide +kernel
theorem dl_884 : decode code 884 = .ok (.aload_n 2, 1) := by decide +kernel
theorem dl_885 : decode code 885 = .ok (.aload_n 0, 1) := by decide +kernel
theorem dl_886 : decode code 886 = .ok (.iload_n 3, 1) := by decide +kernel
theorem dl_887 : decode code 887 = .ok (.iconst 1, 1) := by decide +kernel
theorem dl_888 : decode code 888 = .ok (.iadd, 1) := by decide +kernel
theorem dl_889 : decode code 889 = .ok (.iaload, 1) := by decide +kernel
theorem dl_890 : decode code 890 = .ok (.invokevirtual 111, 3) := by decide +kernel
theorem dl_893 : decode code 893 = .ok (.pop, 1) := by decide +kernel
theorem dl_894 : decode code 894 = .ok (.goto 619, 3) := by decide +kernel
theorem dl_897 : decode code 897 = .ok (.aload_n 1, 1) := by decide +kernel
theorem dl_898 : decode code 898 = .ok (.invokevirtual 112, 3) := by decide +kernel
theorem dl_901 : decode code 901 = .ok (.pop, 1) := by decide +kernel
theorem dl_902 : decode code 902 = .ok (.aload_n 2, 1) := by decide +kernel
theorem dl_903 : decode code 903 = .ok (.invokevirtual 116, 3) := by decide +kernel
theorem dl_906 : decode code 906 = .ok (.pop, 1) := by decide +kernel
theorem dl_907 : decode code 907 = .ok (.goto 606, 3) := by decide +kernel
theorem dl_910 : decode code 910 = .ok (.aload_n 1, 1) := by decide +kernel
theorem dl_911 : decode code 911 = .ok (.aload_n 0, 1) := by decide +kernel
theorem dl_912 : decode code 912 = .ok (.iload_n 3, 1) := by decide +kernel
theorem dl_913 : decode code 913 = .ok (.iconst 1, 1) := by decide +kernel
theorem dl_914 : decode code 914 = .ok (.iadd, 1) := by decide +kernel
theorem dl_915 : decode code 915 = .ok (.iaload, 1) := by decide +kernel
theorem dl_916 : decode code 916 = .ok (.invokevirtual 117, 3) := by decide +kernel
theorem dl_919 : decode code 919 = .ok (.pop, 1) := by decide +kernel
theorem dl_920 : decode code 920 = .ok (.aload_n 2, 1) := by decide +kernel
theorem dl_921 : decode code 921 = .ok (.aload_n 0, 1) := by decide +kernel
theorem dl_922 : decode code 922 = .ok (.iload_n 3, 1) := by decide +kernel
theorem dl_923 : decode code 923 = .ok (.iconst 1, 1) := by decide +kernel
theorem dl_924 : decode code 924 = .ok (.iadd, 1) := by decide +kernel
theorem dl_925 : decode code 925 = .ok (.iaload, 1) := by decide +kernel
theorem dl_926 : decode code 926 = .ok (.invokevirtual 120, 3) := by decide +kernel
theorem dl_929 : decode code 929 = .ok (.pop, 1) := by decide +kernel
theorem dl_930 : decode code 930 = .ok (.goto 583, 3) := by decide +kernel
theorem dl_933 : decode code 933 = .ok (.aload_n 1, 1) := by decide +kernel
theorem dl_934 : decode code 934 = .ok (.aload_n 0, 1) := by decide +kernel
theorem dl_935 : decode code 935 = .ok (.iload_n 3, 1) := by decide +kernel
theorem dl_936 : decode code 936 = .ok (.iconst 1, 1) := by decide +kernel
theorem dl_937 : decode code 937 = .ok (.iadd, 1) := by decide +kernel
theorem dl_938 : decode code 938 = .ok (.iaload, 1) := by decide +kernel
theorem dl_939 : decode code 939 = .ok (.aload_n 0, 1) := by decide +kernel
theorem dl_940 : decode code 940 = .ok (.iload_n 3, 1) := by decide +kernel
theorem dl_941 : decode code 941 = .ok (.iconst 2, 1) := by decide +kernel
theorem dl_942 : decode code 942 = .ok (.iadd, 1) := by decide +kernel
theorem dl_943 : decode code 943 = .ok (.iaload, 1) := by decide +kernel
theorem dl_944 : decode code 944 = .ok (.invokevirtual 121, 3) := by decide +kernel
theorem dl_947 : decode code 947 = .ok (.pop, 1) := by decide +kernel
theorem dl_948 : decode code 948 = .ok (.aload_n 2, 1) := by decide +kernel
theorem dl_949 : decode code 949 = .ok (.aload_n 0, 1) := by decide +kernel
theorem dl_950 : decode code 950 = .ok (.iload_n 3, 1) := by decide +kernel
theorem dl_951 : decode code 951 = .ok (.iconst 1, 1) := by decide +kernel
theorem dl_952 : decode code 952 = .ok (.iadd, 1) := by decide +kernel
theorem dl_953 : decode code 953 = .ok (.iaload, 1) := by decide +kernel
theorem dl_954 : decode code 954 = .ok (.aload_n 0, 1) := by decide +kernel
theorem dl_955 : decode code 955 = .ok (.iload_n 3, 1) := by decide +kernel
theorem dl_956 : decode code 956 = .ok (.iconst 2, 1) := by decide +kernel
theorem dl_957 : decode code 957 = .ok (.iadd, 1) := by decide +kernel
theorem dl_958 : decode code 958 = .ok (.iaload, 1) := by decide +kernel
theorem dl_959 : decode code 959 = .ok (.invokevirtual 124, 3) := by decide +kernel
theorem dl_962 : decode code 962 = .ok (.pop, 1) := by decide +kernel
theorem dl_963 : decode code 963 = .ok (.goto 550, 3) := by decide +kernel
theorem dl_966 : decode code 966 = .ok (.aload_n 1, 1) := by decide +kernel
theorem dl_967 : decode code 967 = .ok (.invokevirtual 125, 3) := by decide +kernel
theorem dl_970 : decode code 970 = .ok (.pop, 1) := by decide +kernel
theorem dl_971 : decode code 971 = .ok (.aload_n 2, 1) := by decide +kernel
theorem dl_972 : decode code 972 = .ok (.invokevirtual 128, 3) := by decide +kernel
theorem dl_975 : decode code 975 = .ok (.pop, 1) := by decide +kernel
theorem dl_976 : decode code 976 = .ok (.goto 537, 3) := by decide +kernel
theorem dl_979 : decode code 979 = .ok (.aload_n 1, 1) := by decide +kernel
theorem dl_980 : decode code 980 = .ok (.aload_n 0, 1) := by decide +kernel
theorem dl_981 : decode code 981 = .ok (.iload_n 3, 1) := by decide +kernel
theorem dl_982 : decode code 982 = .ok (.iconst 1, 1) := by decide +kernel
theorem dl_983 : decode code 983 = .ok (.iadd, 1) := by decide +kernel
theorem dl_984 : decode code 984 = .ok (.iaload, 1) := by decide +kernel
theorem dl_985 : decode code 985 = .ok (.invokevirtual 129, 3) := by decide +kernel
theorem dl_988 : decode code 988 = .ok (.pop, 1) := by decide +kernel
theorem dl_989 : decode code 989 = .ok (.aload_n 2, 1) := by decide +kernel
theorem dl_990 : decode code 990 = .ok (.aload_n 0, 1) := by decide +kernel
theorem dl_991 : decode code 991 = .ok (.iload_n 3, 1) := by decide +kernel
theorem dl_992 : decode code 992 = .ok (.iconst 1, 1) := by decide +kernel
theorem dl_993 : decode code 993 = .ok (.iadd, 1) := by decide +kernel
theorem dl_994 : decode code 994 = .ok (.iaload, 1) := by decide +kernel
theorem dl_995 : decode code 995 = .ok (.invokevirtual 132, 3) := by decide +kernel
theorem dl_998 : decode code 998 = .ok (.pop, 1) := by decide +kernel
theorem dl_999 : decode code 999 = .ok (.goto 514, 3) := by decide +kernel
theorem dl_1002 : decode code 1002 = .ok (.aload_n 1, 1) := by decide +kernel
theorem dl_1003 : decode code 1003 = .ok (.invokevirtual 133, 3) := by decide +kernel
theorem dl_1006 : decode code 1006 = .ok (.pop, 1) := by decide +kernel
theorem dl_1007 : decode code 1007 = .ok (.aload_n 2, 1) := by decide +kernel
theorem dl_1008 : decode code 1008 = .ok (.invokevirtual 136, 3) := by decide +kernel
theorem dl_1011 : decode code 1011 = .ok (.pop, 1) := by decide +kernel
theorem dl_1012 : decode code 1012 = .ok (.goto 501, 3) := by decide +kernel
theorem dl_1015 : decode code 1015 = .ok (.aload_n 1, 1) := by decide +kernel
theorem dl_1016 : decode code 1016 = .ok (.aload_n 0, 1) := by decide +kernel
theorem dl_1017 : decode code 1017 = .ok (.iload_n 3, 1) := by decide +kernel
theorem dl_1018 : decode code 1018 = .ok (.iconst 1, 1) := by decide +kernel
theorem dl_1019 : decode code 1019 = .ok (.iadd, 1) := by decide +kernel
theorem dl_1020 : decode code 1020 = .ok (.iaload, 1) := by decide +kernel
theorem dl_1021 : decode code 1021 = .ok (.invokevirtual 137, 3) := by decide +kernel
theorem dl_1024 : decode code 1024 = .ok (.pop2, 1) := by decide +kernel
theorem dl_1025 : decode code 1025 = .ok (.aload_n 2, 1) := by decide +kernel
theorem dl_1026 : decode code 1026 = .ok (.aload_n 0, 1) := by decide +kernel
theorem dl_1027 : decode code 1027 = .ok (.iload_n 3, 1) := by decide +kernel
theorem dl_1028 : decode code 1028 = .ok (.iconst 1, 1) := by decide +kernel
theorem dl_1029 : decode code 1029 = .ok (.iadd, 1) := by decide +kernel
theorem dl_1030 : decode code 1030 = .ok (.iaload, 1) := by decide +kernel
theorem dl_1031 : decode code 1031 = .ok (.invokevirtual 141, 3) := by decide +kernel
theorem dl_1034 : decode code 1034 = .ok (.pop2, 1) := by decide +kernel
theorem dl_1035 : decode code 1035 = .ok (.goto 478, 3) := by decide +kernel
theorem dl_1038 : decode code 1038 = .ok (.aload_n 1, 1) := by decide +kernel
theorem dl_1039 : decode code 1039 = .ok (.aload_n 0, 1) := by decide +kernel
theorem dl_1040 : decode code 1040 = .ok (.iload_n 3, 1) := by decide +kernel
theorem dl_1041 : decode code 1041 = .ok (.iconst 1, 1) := by decide +kernel
theorem dl_1042 : decode code 1042 = .ok (.iadd, 1) := by decide +kernel
theorem dl_1043 : decode code 1043 = .ok (.iaload, 1) := by decide +kernel
theorem dl_1044 : decode code 1044 = .ok (.aload_n 0, 1) := by decide +kernel
theorem dl_1045 : decode code 1045 = .ok (.iload_n 3, 1) := by decide +kernel
theorem dl_1046 : decode code 1046 = .ok (.iconst 2, 1) := by decide +kernel
theorem dl_1047 : decode code 1047 = .ok (.iadd, 1) := by decide +kernel
theorem dl_1048 : decode code 1048 = .ok (.iaload, 1) := by decide +kernel
theorem dl_1049 : decode code 1049 = .ok (.invokevirtual 142, 3) := by decide +kernel
theorem dl_1052 : decode code 1052 = .ok (.pop, 1) := by decide +kernel
theorem dl_1053 : decode code 1053 = .ok (.aload_n 2, 1) := by decide +kernel
theorem dl_1054 : decode code 1054 = .ok (.aload_n 0, 1) := by decide +kernel
theorem dl_1055 : decode code 1055 = .ok (.iload_n 3, 1) := by decide +kernel
theorem dl_1056 : decode code 1056 = .ok (.iconst 1, 1) := by decide +kernel
theorem dl_1057 : decode code 1057 = .ok (.iadd, 1) := by decide +kernel
theorem dl_1058 : decode code 1058 = .ok (.iaload, 1) := by decide +kernel
theorem dl_1059 : decode code 1059 = .ok (.aload_n 0, 1) := by decide +kernel
theorem dl_1060 : decode code 1060 = .ok (.iload_n 3, 1) := by decide +kernel
theorem dl_1061 : decode code 1061 = .ok (.iconst 2, 1) := by decide +kernel
theorem dl_1062 : decode code 1062 = .ok (.iadd, 1) := by decide +kernel
theorem dl_1063 : decode code 1063 = .ok (.iaload, 1) := by decide +kernel
theorem dl_1064 : decode code 1064 = .ok (.invokevirtual 145, 3) := by decide +kernel
theorem dl_1067 : decode code 1067 = .ok (.pop, 1) := by decide +kernel
theorem dl_1068 : decode code 1068 = .ok (.goto 445, 3) := by decide +kernel
theorem dl_1071 : decode code 1071 = .ok (.aload_n 1, 1) := by decide +kernel
theorem dl_1072 : decode code 1072 = .ok (.aload_n 0, 1) := by decide +kernel
theorem dl_1073 : decode code 1073 = .ok (.iload_n 3, 1) := by decide +kernel
theorem dl_1074 : decode code 1074 = .ok (.iconst 1, 1) := by decide +kernel
theorem dl_1075 : decode code 1075 = .ok (.iadd, 1) := by decide +kernel
theorem dl_1076 : decode code 1076 = .ok (.iaload, 1) := by decide +kernel
theorem dl_1077 : decode code 1077 = .ok (.aload_n 0, 1) := by decide +kernel
theorem dl_1078 : decode code 1078 = .ok (.iload_n 3, 1) := by decide +kernel
theorem dl_1079 : decode code 1079 = .ok (.iconst 2, 1) := by decide +kernel
theorem dl_1080 : decode code 1080 = .ok (.iadd, 1) := by decide +kernel
theorem dl_1081 : decode code 1081 = .ok (.iaload, 1) := by decide +kernel
theorem dl_1082 : decode code 1082 = .ok (.invokevirtual 146, 3) := by decide +kernel
theorem dl_1085 : decode code 1085 = .ok (.pop, 1) := by decide +kernel
theorem dl_1086 : decode code 1086 = .ok (.aload_n 2, 1) := by decide +kernel
theorem dl_1087 : decode code 1087 = .ok (.aload_n 0, 1) := by decide +kernel
theorem dl_1088 : decode code 1088 = .ok (.iload_n 3, 1) := by decide +kernel
theorem dl_1089 : decode code 1089 = .ok (.iconst 1, 1) := by decide +kernel
theorem dl_1090 : decode code 1090 = .ok (.iadd, 1) := by decide +kernel
theorem dl_1091 : decode code 1091 = .ok (.iaload, 1) := by decide +kernel
theorem dl_1092 : decode code 1092 = .ok (.aload_n 0, 1) := by decide +kernel
theorem dl_1093 : decode code 1093 = .ok (.iload_n 3, 1) := by decide +kernel
theorem dl_1094 : decode code 1094 = .ok (.iconst 2, 1) := by decide +kernel
theorem dl_1095 : decode code 1095 = .ok (.iadd, 1) := by decide +kernel
theorem dl_1096 : decode code 1096 = .ok (.iaload, 1) := by decide +kernel
theorem dl_1097 : decode code 1097 = .ok (.invokevirtual 149, 3) := by decide +kernel
theorem dl_1100 : decode code 1100 = .ok (.pop, 1) := by decide +kernel
theorem dl_1101 : decode code 1101 = .ok (.goto 412, 3) := by decide +kernel
theorem dl_1104 : decode code 1104 = .ok (.aload_n 1, 1) := by decide +kernel
theorem dl_1105 : decode code 1105 = .ok (.aload_n 0, 1) := by decide +kernel
theorem dl_1106 : decode code 1106 = .ok (.iload_n 3, 1) := by decide +kernel
theorem dl_1107 : decode code 1107 = .ok (.iconst 1, 1) := by decide +kernel
theorem dl_1108 : decode code 1108 = .ok (.iadd, 1) := by decide +kernel
theorem dl_1109 : decode code 1109 = .ok (.iaload, 1) := by decide +kernel
theorem dl_1110 : decode code 1110 = .ok (.invokevirtual 150, 3) := by decide +kernel
theorem dl_1113 : decode code 1113 = .ok (.pop, 1) := by decide +kernel
theorem dl_1114 : decode code 1114 = .ok (.aload_n 2, 1) := by decide +kernel
theorem dl_1115 : decode code 1115 = .ok (.aload_n 0, 1) := by decide +kernel
theorem dl_1116 : decode code 1116 = .ok (.iload_n 3, 1) := by decide +kernel
theorem dl_1117 : decode code 1117 = .ok (.iconst 1, 1) := by decide +kernel
theorem dl_1118 : decode code 1118 = .ok (.iadd, 1) := by decide +kernel
theorem dl_1119 : decode code 1119 = .ok (.iaload, 1) := by decide +kernel
theorem dl_1120 : decode code 1120 = .ok (.invokevirtual 153, 3) := by decide +kernel
theorem dl_1123 : decode code 1123 = .ok (.pop, 1) := by decide +kernel
theorem dl_1124 : decode code 1124 = .ok (.goto 389, 3) := by decide +kernel
theorem dl_1127 : decode code 1127 = .ok (.aload_n 1, 1) := by decide +kernel
theorem dl_1128 : decode code 1128 = .ok (.aload_n 0, 1) := by decide +kernel
theorem dl_1129 : decode code 1129 = .ok (.iload_n 3, 1) := by decide +kernel
theorem dl_1130 : decode code 1130 = .ok (.iconst 1, 1) := by decide +kernel
theorem dl_1131 : decode code 1131 = .ok (.iadd, 1) := by decide +kernel
theorem dl_1132 : decode code 1132 = .ok (.iaload, 1) := by decide +kernel
theorem dl_1133 : decode code 1133 = .ok (.invokevirtual 154, 3) := by decide +kernel
theorem dl_1136 : decode code 1136 = .ok (.pop, 1) := by decide +kernel
theorem dl_1137 : decode code 1137 = .ok (.aload_n 2, 1) := by decide +kernel
theorem dl_1138 : decode code 1138 = .ok (.aload_n 0, 1) := by decide +kernel
theorem dl_1139 : decode code 1139 = .ok (.iload_n 3, 1) := by decide +kernel
theorem dl_1140 : decode code 1140 = .ok (.iconst 1, 1) := by decide +kernel
theorem dl_1141 : decode code 1141 = .ok (.iadd, 1) := by decide +kernel
theorem dl_1142 : decode code 1142 = .ok (.iaload, 1) := by decide +kernel
theorem dl_1143 : decode code 1143 = .ok (.invokevirtual 157, 3) := by decide +kernel
theorem dl_1146 : decode code 1146 = .ok (.pop, 1) := by decide +kernel
theorem dl_1147 : decode code 1147 = .ok (.goto 366, 3) := by decide +kernel
theorem dl_1150 : decode code 1150 = .ok (.aload_n 1, 1) := by decide +kernel
theorem dl_1151 : decode code 1151 = .ok (.aload_n 0, 1) := by decide +kernel
theorem dl_1152 : decode code 1152 = .ok (.iload_n 3, 1) := by decide +kernel
theorem dl_1153 : decode code 1153 = .ok (.iconst 1, 1) := by decide +kernel
theorem dl_1154 : decode code 1154 = .ok (.iadd, 1) := by decide +kernel
theorem dl_1155 : decode code 1155 = .ok (.iaload, 1) := by decide +kernel
theorem dl_1156 : decode code 1156 = .ok (.invokevirtual 158, 3) := by decide +kernel
theorem dl_1159 : decode code 1159 = .ok (.pop, 1) := by decide +kernel
theorem dl_1160 : decode code 1160 = .ok (.aload_n 2, 1) := by decide +kernel
theorem dl_1161 : decode code 1161 = .ok (.aload_n 0, 1) := by decide +kernel
theorem dl_1162 : decode code 1162 = .ok (.iload_n 3, 1) := by decide +kernel
theorem dl_1163 : decode code 1163 = .ok (.iconst 1, 1) := by decide +kernel
theorem dl_1164 : decode code 1164 = .ok (.iadd, 1) := by decide +kernel
theorem dl_1165 : decode code 1165 = .ok (.iaload, 1) := by decide +kernel
theorem dl_1166 : decode code 1166 = .ok (.invokevirtual 161, 3) := by decide +kernel
theorem dl_1169 : decode code 1169 = .ok (.pop, 1) := by decide +kernel
theorem dl_1170 : decode code 1170 = .ok (.goto 343, 3) := by decide +kernel
theorem dl_1173 : decode code 1173 = .ok (.aload_n 1, 1) := by decide +kernel
theorem dl_1174 : decode code 1174 = .ok (.aload_n 0, 1) := by decide +kernel
theorem dl_1175 : decode code 1175 = .ok (.iload_n 3, 1) := by decide +kernel
theorem dl_1176 : decode code 1176 = .ok (.iconst 1, 1) := by decide +kernel
theorem dl_1177 : decode code 1177 = .ok (.iadd, 1) := by decide +kernel
theorem dl_1178 : decode code 1178 = .ok (.iaload, 1) := by decide +kernel
theorem dl_1179 : decode code 1179 = .ok (.invokevirtual 162, 3) := by decide +kernel
theorem dl_1182 : decode code 1182 = .ok (.pop, 1) := by decide +kernel
theorem dl_1183 : decode code 1183 = .ok (.aload_n 2, 1) := by decide +kernel
theorem dl_1184 : decode code 1184 = .ok (.aload_n 0, 1) := by decide +kernel
theorem dl_1185 : decode code 1185 = .ok (.iload_n 3, 1) := by decide +kernel
theorem dl_1186 : decode code 1186 = .ok (.iconst 1, 1) := by decide +kernel
theorem dl_1187 : decode code 1187 = .ok (.iadd, 1) := by decide +kernel
theorem dl_1188 : decode code 1188 = .ok (.iaload, 1) := by decide +kernel
theorem dl_1189 : decode code 1189 = .ok (.invokevirtual 165, 3) := by decide +kernel
theorem dl_1192 : decode code 1192 = .ok (.pop, 1) := by decide +kernel
theorem dl_1193 : decode code 1193 = .ok (.goto 320, 3) := by decide +kernel
theorem dl_1196 : decode code 1196 = .ok (.aload_n 1, 1) := by decide +kernel
theorem dl_1197 : decode code 1197 = .ok (.aload_n 0, 1) := by decide +kernel
theorem dl_1198 : decode code 1198 = .ok (.iload_n 3, 1) := by decide +kernel
theorem dl_1199 : decode code 1199 = .ok (.iconst 1, 1) := by decide +kernel
theorem dl_1200 : decode code 1200 = .ok (.iadd, 1) := by decide +kernel
theorem dl_1201 : decode code 1201 = .ok (.iaload, 1) := by decide +kernel
theorem dl_1202 : decode code 1202 = .ok (.invokevirtual 166, 3) := by decide +kernel
theorem dl_1205 : decode code 1205 = .ok (.pop, 1) := by decide +kernel
theorem dl_1206 : decode code 1206 = .ok (.aload_n 2, 1) := by decide +kernel
theorem dl_1207 : decode code 1207 = .ok (.aload_n 0, 1) := by decide +kernel
theorem dl_1208 : decode code 1208 = .ok (.iload_n 3, 1) := by decide +kernel
theorem dl_1209 : decode code 1209 = .ok (.iconst 1, 1) := by decide +kernel
theorem dl_1210 : decode code 1210 = .ok (.iadd, 1) := by decide +kernel
theorem dl_1211 : decode code 1211 = .ok (.iaload, 1) := by decide +kernel
theorem dl_1212 : decode code 1212 = .ok (.invokevirtual 169, 3) := by decide +kernel
theorem dl_1215 : decode code 1215 = .ok (.pop, 1) := by decide +kernel
theorem dl_1216 : decode code 1216 = .ok (.goto 297, 3) := by decide +kernel
theorem dl_1219 : decode code 1219 = .ok (.aload_n 1, 1) := by decide +kernel
theorem dl_1220 : decode code 1220 = .ok (.aload_n 0, 1) := by decide +kernel
theorem dl_1221 : decode code 1221 = .ok (.iload_n 3, 1) := by decide +kernel
theorem dl_1222 : decode code 1222 = .ok (.iconst 1, 1) := by decide +kernel
theorem dl_1223 : decode code 1223 = .ok (.iadd, 1) := by decide +kernel
theorem dl_1224 : decode code 1224 = .ok (.iaload, 1) := by decide +kernel
theorem dl_1225 : decode code 1225 = .ok (.aload_n 0, 1) := by decide +kernel
theorem dl_1226 : decode code 1226 = .ok (.iload_n 3, 1) := by decide +kernel
theorem dl_1227 : decode code 1227 = .ok (.iconst 2, 1) := by decide +kernel
theorem dl_1228 : decode code 1228 = .ok (.iadd, 1) := by decide +kernel
theorem dl_1229 : decode code 1229 = .ok (.iaload, 1) := by decide +kernel
theorem dl_1230 : decode code 1230 = .ok (.aload_n 0, 1) := by decide +kernel
theorem dl_1231 : decode code 1231 = .ok (.iload_n 3, 1) := by decide +kernel
theorem dl_1232 : decode code 1232 = .ok (.iconst 3, 1) := by decide +kernel
theorem dl_1233 : decode code 1233 = .ok (.iadd, 1) := by decide +kernel
theorem dl_1234 : decode code 1234 = .ok (.iaload, 1) := by decide +kernel
theorem dl_1235 : decode code 1235 = .ok (.invokevirtual 170, 3) := by decide +kernel
theorem dl_1238 : decode code 1238 = .ok (.pop, 1) := by decide +kernel
theorem dl_1239 : decode code 1239 = .ok (.aload_n 2, 1) := by decide +kernel
theorem dl_1240 : decode code 1240 = .ok (.aload_n 0, 1) := by decide +kernel
theorem dl_1241 : decode code 1241 = .ok (.iload_n 3, 1) := by decide +kernel
theorem dl_1242 : decode code 1242 = .ok (.iconst 1, 1) := by decide +kernel
theorem dl_1243 : decode code 1243 = .ok (.iadd, 1) := by decide +kernel
theorem dl_1244 : decode code 1244 = .ok (.iaload, 1) := by decide +kernel
theorem dl_1245 : decode code 1245 = .ok (.aload_n 0, 1) := by decide +kernel
theorem dl_1246 : decode code 1246 = .ok (.iload_n 3, 1) := by decide +kernel
theorem dl_1247 : decode code 1247 = .ok (.iconst 2, 1) := by decide +kernel
theorem dl_1248 : decode code 1248 = .ok (.iadd, 1) := by decide +kernel
theorem dl_1249 : decode code 1249 = .ok (.iaload, 1) := by decide +kernel
theorem dl_1250 : decode code 1250 = .ok (.aload_n 0, 1) := by decide +kernel
theorem dl_1251 : decode code 1251 = .ok (.iload_n 3, 1) := by decide +kernel
theorem dl_1252 : decode code 1252 = .ok (.iconst 3, 1) := by decide +kernel
theorem dl_1253 : decode code 1253 = .ok (.iadd, 1) := by decide +kernel
theorem dl_1254 : decode code 1254 = .ok (.iaload, 1) := by decide +kernel
theorem dl_1255 : decode code 1255 = .ok (.invokevirtual 174, 3) := by decide +kernel
theorem dl_1258 : decode code 1258 = .ok (.pop, 1) := by decide +kernel
theorem dl_1259 : decode code 1259 = .ok (.goto 254, 3) := by decide +kernel
theorem dl_1262 : decode code 1262 = .ok (.aload_n 1, 1) := by decide +kernel
theorem dl_1263 : decode code 1263 = .ok (.aload_n 0, 1) := by decide +kernel
theorem dl_1264 : decode code 1264 = .ok (.iload_n 3, 1) := by decide +kernel
theorem dl_1265 : decode code 1265 = .ok (.iconst 1, 1) := by decide +kernel
theorem dl_1266 : decode code 1266 = .ok (.iadd, 1) := by decide +kernel
theorem dl_1267 : decode code 1267 = .ok (.iaload, 1) := by decide +kernel
theorem dl_1268 : decode code 1268 = .ok (.aload_n 0, 1) := by decide +kernel
theorem dl_1269 : decode code 1269 = .ok (.iload_n 3, 1) := by decide +kernel
theorem dl_1270 : decode code 1270 = .ok (.iconst 2, 1) := by decide +kernel
theorem dl_1271 : decode code 1271 = .ok (.iadd, 1) := by decide +kernel
theorem dl_1272 : decode code 1272 = .ok (.iaload, 1) := by decide +kernel
theorem dl_1273 : decode code 1273 = .ok (.invokevirtual 175, 3) := by decide +kernel
theorem dl_1276 : decode code 1276 = .ok (.pop, 1) := by decide +kernel
theorem dl_1277 : decode code 1277 = .ok (.aload_n 2, 1) := by decide +kernel
theorem dl_1278 : decode code 1278 = .ok (.aload_n 0, 1) := by decide +kernel
theorem dl_1279 : decode code 1279 = .ok (.iload_n 3, 1) := by decide +kernel
theorem dl_1280 : decode code 1280 = .ok (.iconst 1, 1) := by decide +kernel
theorem dl_1281 : decode code 1281 = .ok (.iadd, 1) := by decide +kernel
theorem dl_1282 : decode code 1282 = .ok (.iaload, 1) := by decide +kernel
theorem dl_1283 : decode code 1283 = .ok (.aload_n 0, 1) := by decide +kernel
theorem dl_1284 : decode code 1284 = .ok (.iload_n 3, 1) := by decide +kernel
theorem dl_1285 : decode code 1285 = .ok (.iconst 2, 1) := by decide +kernel
theorem dl_1286 : decode code 1286 = .ok (.iadd, 1) := by decide +kernel
theorem dl_1287 : decode code 1287 = .ok (.iaload, 1) := by decide +kernel
theorem dl_1288 : decode code 1288 = .ok (.invokevirtual 178, 3) := by decide +kernel
theorem dl_1291 : decode code 1291 = .ok (.pop, 1) := by decide +kernel
theorem dl_1292 : decode code 1292 = .ok (.goto 221, 3) := by decide +kernel
theorem dl_1295 : decode code 1295 = .ok (.aload_n 1, 1) := by decide +kernel
theorem dl_1296 : decode code 1296 = .ok (.aload_n 0, 1) := by decide +kernel
theorem dl_1297 : decode code 1297 = .ok (.iload_n 3, 1) := by decide +kernel
theorem dl_1298 : decode code 1298 = .ok (.iconst 1, 1) := by decide +kernel
theorem dl_1299 : decode code 1299 = .ok (.iadd, 1) := by decide +kernel
theorem dl_1300 : decode code 1300 = .ok (.iaload, 1) := by decide +kernel
theorem dl_1301 : decode code 1301 = .ok (.aload_n 0, 1) := by decide +kernel
theorem dl_1302 : decode code 1302 = .ok (.iload_n 3, 1) := by decide +kernel
theorem dl_1303 : decode code 1303 = .ok (.iconst 2, 1) := by decide +kernel
theorem dl_1304 : decode code 1304 = .ok (.iadd, 1) := by decide +kernel
theorem dl_1305 : decode code 1305 = .ok (.iaload, 1) := by decide +kernel
theorem dl_1306 : decode code 1306 = .ok (.aload_n 0, 1) := by decide +kernel
theorem dl_1307 : decode code 1307 = .ok (.iload_n 3, 1) := by decide +kernel
theorem dl_1308 : decode code 1308 = .ok (.iconst 3, 1) := by decide +kernel
theorem dl_1309 : decode code 1309 = .ok (.iadd, 1) := by decide +kernel
theorem dl_1310 : decode code 1310 = .ok (.iaload, 1) := by decide +kernel
theorem dl_1311 : decode code 1311 = .ok (.invokevirtual 179, 3) := by decide +kernel
theorem dl_1314 : decode code 1314 = .ok (.pop, 1) := by decide +kernel
theorem dl_1315 : decode code 1315 = .ok (.aload_n 2, 1) := by decide +kernel
theorem dl_1316 : decode code 1316 = .ok (.aload_n 0, 1) := by decide +kernel
theorem dl_1317 : decode code 1317 = .ok (.iload_n 3, 1) := by decide +kernel
theorem dl_1318 : decode code 1318 = .ok (.iconst 1, 1) := by decide +kernel
theorem dl_1319 : decode code 1319 = .ok (.iadd, 1) := by decide +kernel
theorem dl_1320 : decode code 1320 = .ok (.iaload, 1) := by decide +kernel
theorem dl_1321 : decode code 1321 = .ok (.aload_n 0, 1) := by decide +kernel
theorem dl_1322 : decode code 1322 = .ok (.iload_n 3, 1) := by decide +kernel
theorem dl_1323 : decode code 1323 = .ok (.iconst 2, 1) := by decide +kernel
theorem dl_1324 : decode code 1324 = .ok (.iadd, 1) := by decide +kernel
theorem dl_1325 : decode code 1325 = .ok (.iaload, 1) := by decide +kernel
theorem dl_1326 : decode code 1326 = .ok (.aload_n 0, 1) := by decide +kernel
theorem dl_1327 : decode code 1327 = .ok (.iload_n 3, 1) := by decide +kernel
theorem dl_1328 : decode code 1328 = .ok (.iconst 3, 1) := by decide +kernel
theorem dl_1329 : decode code 1329 = .ok (.iadd, 1) := by decide +kernel
theorem dl_1330 : decode code 1330 = .ok (.iaload, 1) := by decide +kernel
theorem dl_1331 : decode code 1331 = .ok (.invokevirtual 182, 3) := by decide +kernel
theorem dl_1334 : decode code 1334 = .ok (.pop, 1) := by decide +kernel
theorem dl_1335 : decode code 1335 = .ok (.goto 178, 3) := by decide +kernel
theorem dl_1338 : decode code 1338 = .ok (.aload_n 1, 1) := by decide +kernel
theorem dl_1339 : decode code 1339 = .ok (.aload_n 0, 1) := by decide +kernel
theorem dl_1340 : decode code 1340 = .ok (.iload_n 3, 1) := by decide +kernel
theorem dl_1341 : decode code 1341 = .ok (.iconst 1, 1) := by decide +kernel
theorem dl_1342 : decode code 1342 = .ok (.iadd, 1) := by decide +kernel
theorem dl_1343 : decode code 1343 = .ok (.iaload, 1) := by decide +kernel
theorem dl_1344 : decode code 1344 = .ok (.aload_n 0, 1) := by decide +kernel
theorem dl_1345 : decode code 1345 = .ok (.iload_n 3, 1) := by decide +kernel
theorem dl_1346 : decode code 1346 = .ok (.iconst 2, 1) := by decide +kernel
theorem dl_1347 : decode code 1347 = .ok (.iadd, 1) := by decide +kernel
theorem dl_1348 : decode code 1348 = .ok (.iaload, 1) := by decide +kernel
theorem dl_1349 : decode code 1349 = .ok (.aload_n 0, 1) := by decide +kernel
theorem dl_1350 : decode code 1350 = .ok (.iload_n 3, 1) := by decide +kernel
theorem dl_1351 : decode code 1351 = .ok (.iconst 3, 1) := by decide +kernel
theorem dl_1352 : decode code 1352 = .ok (.iadd, 1) := by decide +kernel
theorem dl_1353 : decode code 1353 = .ok (.iaload, 1) := by decide +kernel
theorem dl_1354 : decode code 1354 = .ok (.i2l, 1) := by decide +kernel
theorem dl_1355 : decode code 1355 = .ok (.bipush 32, 2) := by decide +kernel
theorem dl_1357 : decode code 1357 = .ok (.lshl, 1) := by decide +kernel
theorem dl_1358 : decode code 1358 = .ok (.aload_n 0, 1) := by decide +kernel
theorem dl_1359 : decode code 1359 = .ok (.iload_n 3, 1) := by decide +kernel
theorem dl_1360 : decode code 1360 = .ok (.iconst 4, 1) := by decide +kernel
theorem dl_1361 : decode code 1361 = .ok (.iadd, 1) := by decide +kernel
theorem dl_1362 : decode code 1362 = .ok (.iaload, 1) := by decide +kernel
theorem dl_1363 : decode code 1363 = .ok (.i2l, 1) := by decide +kernel
theorem dl_1364 : decode code 1364 = .ok (.ldc2_w 76, 3) := by decide +kernel
theorem dl_1367 : decode code 1367 = .ok (.land, 1) := by decide +kernel
theorem dl_1368 : decode code 1368 = .ok (.lor, 1) := by decide +kernel
theorem dl_1369 : decode code 1369 = .ok (.invokevirtual 183, 3) := by decide +kernel
theorem dl_1372 : decode code 1372 = .ok (.pop2, 1) := by decide +kernel
theorem dl_1373 : decode code 1373 = .ok (.aload_n 2, 1) := by decide +kernel
theorem dl_1374 : decode code 1374 = .ok (.aload_n 0, 1) := by decide +kernel
theorem dl_1375 : decode code 1375 = .ok (.iload_n 3, 1) := by decide +kernel
theorem dl_1376 : decode code 1376 = .ok (.iconst 1, 1) := by decide +kernel
theorem dl_1377 : decode code 1377 = .ok (.iadd, 1) := by decide +kernel
theorem dl_1378 : decode code 1378 = .ok (.iaload, 1) := by decide +kernel
theorem dl_1379 : decode code 1379 = .ok (.aload_n 0, 1) := by decide +kernel
theorem dl_1380 : decode code 1380 = .ok (.iload_n 3, 1) := by decide +kernel
theorem dl_1381 : decode code 1381 = .ok (.iconst 2, 1) := by decide +kernel
theorem dl_1382 : decode code 1382 = .ok (.iadd, 1) := by decide +kernel
theorem dl_1383 : decode code 1383 = .ok (.iaload, 1) := by decide +kernel
theorem dl_1384 : decode code 1384 = .ok (.aload_n 0, 1) := by decide +kernel
theorem dl_1385 : decode code 1385 = .ok (.iload_n 3, 1) := by decide +kernel
theorem dl_1386 : decode code 1386 = .ok (.iconst 3, 1) := by decide +kernel
theorem dl_1387 : decode code 1387 = .ok (.iadd, 1) := by decide +kernel
theorem dl_1388 : decode code 1388 = .ok (.iaload, 1) := by decide +kernel
theorem dl_1389 : decode code 1389 = .ok (.i2l, 1) := by decide +kernel
theorem dl_1390 : decode code 1390 = .ok (.bipush 32, 2) := by decide +kernel
theorem dl_1392 : decode code 1392 = .ok (.lshl, 1) := by decide +kernel
theorem dl_1393 : decode code 1393 = .ok (.aload_n 0, 1) := by decide +kernel
theorem dl_1394 : decode code 1394 = .ok (.iload_n 3, 1) := by decide +kernel
theorem dl_1395 : decode code 1395 = .ok (.iconst 4, 1) := by decide +kernel
theorem dl_1396 : decode code 1396 = .ok (.iadd, 1) := by decide +kernel
theorem dl_1397 : decode code 1397 = .ok (.iaload, 1) := by decide +kernel
theorem dl_1398 : decode code 1398 = .ok (.i2l, 1) := by decide +kernel
theorem dl_1399 : decode code 1399 = .ok (.ldc2_w 76, 3) := by decide +kernel
theorem dl_1402 : decode code 1402 = .ok (.land, 1) := by decide +kernel
theorem dl_1403 : decode code 1403 = .ok (.lor, 1) := by decide +kernel
theorem dl_1404 : decode code 1404 = .ok (.invokevirtual 187, 3) := by decide +kernel
theorem dl_1407 : decode code 1407 = .ok (.pop2, 1) := by decide +kernel
theorem dl_1408 : decode code 1408 = .ok (.goto 105, 3) := by decide +kernel
theorem dl_1411 : decode code 1411 = .ok (.aload_n 1, 1) := by decide +kernel
theorem dl_1412 : decode code 1412 = .ok (.aload_n 0, 1) := by decide +kernel
theorem dl_1413 : decode code 1413 = .ok (.iload_n 3, 1) := by decide +kernel
theorem dl_1414 : decode code 1414 = .ok (.iconst 1, 1) := by decide +kernel
theorem dl_1415 : decode code 1415 = .ok (.iadd, 1) := by decide +kernel
theorem dl_1416 : decode code 1416 = .ok (.iaload, 1) := by decide +kernel
theorem dl_1417 : decode code 1417 = .ok (.aload_n 0, 1) := by decide +kernel
theorem dl_1418 : decode code 1418 = .ok (.iload_n 3, 1) := by decide +kernel
theorem dl_1419 : decode code 1419 = .ok (.iconst 2, 1) := by decide +kernel
theorem dl_1420 : decode code 1420 = .ok (.iadd, 1) := by decide +kernel
theorem dl_1421 : decode code 1421 = .ok (.iaload, 1) := by decide +kernel
theorem dl_1422 : decode code 1422 = .ok (.invokevirtual 188, 3) := by decide +kernel
theorem dl_1425 : decode code 1425 = .ok (.aload_n 2, 1) := by decide +kernel
theorem dl_1426 : decode code 1426 = .ok (.aload_n 0, 1) := by decide +kernel
theorem dl_1427 : decode code 1427 = .ok (.iload_n 3, 1) := by decide +kernel
theorem dl_1428 : decode code 1428 = .ok (.iconst 1, 1) := by decide +kernel
theorem dl_1429 : decode code 1429 = .ok (.iadd, 1) := by decide +kernel
theorem dl_1430 : decode code 1430 = .ok (.iaload, 1) := by decide +kernel
theorem dl_1431 : decode code 1431 = .ok (.aload_n 0, 1) := by decide +kernel
theorem dl_1432 : decode code 1432 = .ok (.iload_n 3, 1) := by decide +kernel
theorem dl_1433 : decode code 1433 = .ok (.iconst 2, 1) := by decide +kernel
theorem dl_1434 : decode code 1434 = .ok (.iadd, 1) := by decide +kernel
theorem dl_1435 : decode code 1435 = .ok (.iaload, 1) := by decide +kernel
theorem dl_1436 : decode code 1436 = .ok (.invokevirtual 191, 3) := by decide +kernel
theorem dl_1439 : decode code 1439 = .ok (.if_icmp .eq 74, 3) := by decide +kernel
theorem dl_1444 : decode code 1444 = .ok (.aload_n 1, 1) := by decide +kernel
theorem dl_1445 : decode code 1445 = .ok (.aload_n 0, 1) := by decide +kernel
theorem dl_1446 : decode code 1446 = .ok (.iload_n 3, 1) := by decide +kernel
theorem dl_1447 : decode code 1447 = .ok (.iconst 1, 1) := by decide +kernel
theorem dl_1448 : decode code 1448 = .ok (.iadd, 1) := by decide +kernel
theorem dl_1449 : decode code 1449 = .ok (.iaload, 1) := by decide +kernel
theorem dl_1450 : decode code 1450 = .ok (.invokevirtual 192, 3) := by decide +kernel
theorem dl_1453 : decode code 1453 = .ok (.pop, 1) := by decide +kernel
theorem dl_1454 : decode code 1454 = .ok (.aload_n 2, 1) := by decide +kernel
theorem dl_1455 : decode code 1455 = .ok (.aload_n 0, 1) := by decide +kernel
theorem dl_1456 : decode code 1456 = .ok (.iload_n 3, 1) := by decide +kernel
theorem dl_1457 : decode code 1457 = .ok (.iconst 1, 1) := by decide +kernel
theorem dl_1458 : decode code 1458 = .ok (.iadd, 1) := by decide +kernel
theorem dl_1459 : decode code 1459 = .ok (.iaload, 1) := by decide +kernel
theorem dl_1460 : decode code 1460 = .ok (.invokevirtual 195, 3) := by decide +kernel
theorem dl_1463 : decode code 1463 = .ok (.pop, 1) := by decide +kernel
theorem dl_1464 : decode code 1464 = .ok (.goto 49, 3) := by decide +kernel
theorem dl_1467 : decode code 1467 = .ok (.aload_n 1, 1) := by decide +kernel
theorem dl_1468 : decode code 1468 = .ok (.aload_n 0, 1) := by decide +kernel
theorem dl_1469 : decode code 1469 = .ok (.iload_n 3, 1) := by decide +kernel
theorem dl_1470 : decode code 1470 = .ok (.iconst 1, 1) := by decide +kernel
theorem dl_1471 : decode code 1471 = .ok (.iadd, 1) := by decide +kernel
theorem dl_1472 : decode code 1472 = .ok (.iaload, 1) := by decide +kernel
theorem dl_1473 : decode code 1473 = .ok (.invokevirtual 196, 3) := by decide +kernel
theorem dl_1476 : decode code 1476 = .ok (.pop, 1) := by decide +kernel
theorem dl_1477 : decode code 1477 = .ok (.aload_n 2, 1) := by decide +kernel
theorem dl_1478 : decode code 1478 = .ok (.aload_n 0, 1) := by decide +kernel
theorem dl_1479 : decode code 1479 = .ok (.iload_n 3, 1) := by decide +kernel
theorem dl_1480 : decode code 1480 = .ok (.iconst 1, 1) := by decide +kernel
theorem dl_1481 : decode code 1481 = .ok (.iadd, 1) := by decide +kernel
theorem dl_1482 : decode code 1482 = .ok (.iaload, 1) := by decide +kernel
theorem dl_1483 : decode code 1483 = .ok (.invokevirtual 199, 3) := by decide +kernel
theorem dl_1486 : decode code 1486 = .ok (.pop, 1) := by decide +kernel
theorem dl_1487 : decode code 1487 = .ok (.goto 26, 3) := by decide +kernel
theorem dl_1490 : decode code 1490 = .ok (.aload_n 1, 1) := by decide +kernel
theorem dl_1491 : decode code 1491 = .ok (.aload_n 0, 1) := by decide +kernel
theorem dl_1492 : decode code 1492 = .ok (.iload_n 3, 1) := by decide +kernel
theorem dl_1493 : decode code 1493 = .ok (.iconst 1, 1) := by decide +kernel
theorem dl_1494 : decode code 1494 = .ok (.iadd, 1) := by decide +kernel
theorem dl_1495 : decode code 1495 = .ok (.iaload, 1) := by decide +kernel
theorem dl_1496 : decode code 1496 = .ok (.invokevirtual 200, 3) := by decide +kernel
theorem dl_1499 : decode code 1499 = .ok (.pop, 1) := by decide +kernel
theorem dl_1500 : decode code 1500 = .ok (.aload_n 2, 1) := by decide +kernel
theorem dl_1501 : decode code 1501 = .ok (.aload_n 0, 1) := by decide +kernel
theorem dl_1502 : decode code 1502 = .ok (.iload_n 3, 1) := by decide +kernel
theorem dl_1503 : decode code 1503 = .ok (.iconst 1, 1) := by decide +kernel
theorem dl_1504 : decode code 1504 = .ok (.iadd, 1) := by decide +kernel
theorem dl_1505 : decode code 1505 = .ok (.iaload, 1) := by decide +kernel
theorem dl_1506 : decode code 1506 = .ok (.invokevirtual 203, 3) := by decide +kernel
theorem dl_1509 : decode code 1509 = .ok (.pop, 1) := by decide +kernel
theorem dl_1510 : decode code 1510 = .ok (.goto 3, 3) := by decide +kernel
theorem dl_1513 : decode code 1513 = .ok (.iinc 3 6, 3) := by decide +kernel
theorem dl_1516 : decode code 1516 = .ok (.goto (-1498), 3) := by decide +kernel
theorem dl_1519 : decode code 1519 = .ok (.iconst 1, 1) := by decide +kernel
theorem dl_1520 : decode code 1520 = .ok (.ireturn, 1) := by decide +kernel
theorem tlw_1 {w : Cond} (h : w ∈ tables_1_1) : w ∈ lw_tbl := List.mem_append_right _ (show w ∈ tables_1 from List.mem_append_left _ h)
theorem tlw_2 {w : Cond} (h : w ∈ tables_1_2) : w ∈ lw_tbl := List.mem_append_right _ (show w ∈ tables_1 from List.mem_append_right _ (List.mem_append_left _ h))
theorem tlw_3 {w : Cond} (h : w ∈ tables_1_3) : w ∈ lw_tbl := List.mem_append_right _ (show w ∈ tables_1 from List.mem_append_right _ (List.mem_append_right _ (List.mem_append_left _ h)))
theorem tlw_4 {w : Cond} (h : w ∈ tables_1_4) : w ∈ lw_tbl := List.mem_append_right _ (show w ∈ tables_1 from List.mem_append_right _ (List.mem_append_right _ (List.mem_append_right _ (List.mem_append_left _ h))))
theorem tlw_5 {w : Cond} (h : w ∈ tables_1_5) : w ∈ lw_tbl := List.mem_append_right _ (show w ∈ tables_1 from List.mem_append_right _ (List.mem_append_right _ (List.mem_append_right _ (List.mem_append_right _ (List.mem_append_left _ h)))))
theorem tlw_6 {w : Cond} (h : w ∈ tables_1_6) : w ∈ lw_tbl := List.mem_append_right _ (show w ∈ tables_1 from List.mem_append_right _ (List.mem_append_right _ (List.mem_append_right _ (List.mem_append_right _ (List.mem_append_right _ (List.mem_append_left _ h))))))
theorem tlw_7 {w : Cond} (h : w ∈ tables_1_7) : w ∈ lw_tbl := List.mem_append_right _ (show w ∈ tables_1 from List.mem_append_right _ (List.mem_append_right _ (List.mem_append_right _ (List.mem_append_right _ (List.mem_append_right _ (List.mem_append_right _ (List.mem_append_left _ h)))))))
theorem tlw_8 {w : Cond} (h : w ∈ tables_1_8) : w ∈ lw_tbl := List.mem_append_right _ (show w ∈ tables_1 from List.mem_append_right _ (List.mem_append_right _ (List.mem_append_right _ (List.mem_append_right _ (List.mem_append_right _ (List.mem_append_right _ (List.mem_append_right _ (h))))))))
theorem tw {w : Cond} (h : w ∈ lw_tbl) (hg : goodWord w = true) : w ∈ tbig := List.mem_filter.mpr ⟨h, hg⟩
theorem lx_1_1 : (Jvm.Cond.initialized "TitheHeap") ∈ lw_tbl := tlw_1 (List.mem_of_getElem? (i := 1) (by decide +kernel))
theorem lx_1_13 : (Jvm.Cond.initialized "TitheHeapModel") ∈ lw_tbl := tlw_1 (List.mem_of_getElem? (i := 13) (by decide +kernel))
theorem lx_1_22 : (Jvm.Cond.classLink "TitheHeapLaw" (7 : Nat) "TitheHeap") ∈ lw_tbl := tlw_1 (List.mem_of_getElem? (i := 22) (by decide +kernel))
theorem lx_1_23 : (Jvm.Cond.instantiable "TitheHeap" (17 : Nat)) ∈ lw_tbl := tlw_1 (List.mem_of_getElem? (i := 23) (by decide +kernel))
theorem lx_1_24 : (Jvm.Cond.methodLink "TitheHeapLaw" (9 : Nat) ({ cls := "TitheHeap", name := "<init>", desc := "()V" } : Jvm.MethodName)) ∈ lw_tbl := tlw_1 (List.mem_of_getElem? (i := 24) (by decide +kernel))
theorem lx_1_25 : (Jvm.Cond.instanceMethod ({ cls := "TitheHeap", name := "<init>", desc := "()V" } : Jvm.MethodName)) ∈ lw_tbl := tlw_1 (List.mem_of_getElem? (i := 25) (by decide +kernel))
theorem lx_2_188 : (Jvm.Cond.methodLink "TitheHeapLaw" (13 : Nat) ({ cls := "TitheHeap", name := "feed", desc := "(IIIII)I" } : Jvm.MethodName)) ∈ lw_tbl := tlw_2 (List.mem_of_getElem? (i := 188) (by decide +kernel))
theorem lx_2_189 : (Jvm.Cond.instanceMethod ({ cls := "TitheHeap", name := "feed", desc := "(IIIII)I" } : Jvm.MethodName)) ∈ lw_tbl := tlw_2 (List.mem_of_getElem? (i := 189) (by decide +kernel))
theorem lx_2_190 : (Jvm.Cond.selects "TitheHeap" ({ cls := "TitheHeap", name := "feed", desc := "(IIIII)I" } : Jvm.MethodName) ({ cls := "TitheHeap", name := "feed", desc := "(IIIII)I" } : Jvm.MethodName)) ∈ lw_tbl := tlw_2 (List.mem_of_getElem? (i := 190) (by decide +kernel))
theorem lx_2_196 : (Jvm.Cond.methodLink "TitheHeapLaw" (18 : Nat) ({ cls := "TitheHeap", name := "barn", desc := "(I)I" } : Jvm.MethodName)) ∈ lw_tbl := tlw_2 (List.mem_of_getElem? (i := 196) (by decide +kernel))
theorem lx_2_197 : (Jvm.Cond.instanceMethod ({ cls := "TitheHeap", name := "barn", desc := "(I)I" } : Jvm.MethodName)) ∈ lw_tbl := tlw_2 (List.mem_of_getElem? (i := 197) (by decide +kernel))
theorem lx_2_198 : (Jvm.Cond.selects "TitheHeap" ({ cls := "TitheHeap", name := "barn", desc := "(I)I" } : Jvm.MethodName) ({ cls := "TitheHeap", name := "barn", desc := "(I)I" } : Jvm.MethodName)) ∈ lw_tbl := tlw_2 (List.mem_of_getElem? (i := 198) (by decide +kernel))
theorem lx_3_180 : (Jvm.Cond.methodLink "TitheHeapLaw" (23 : Nat) ({ cls := "TitheHeap", name := "fault", desc := "(I)I" } : Jvm.MethodName)) ∈ lw_tbl := tlw_3 (List.mem_of_getElem? (i := 180) (by decide +kernel))
theorem lx_3_181 : (Jvm.Cond.instanceMethod ({ cls := "TitheHeap", name := "fault", desc := "(I)I" } : Jvm.MethodName)) ∈ lw_tbl := tlw_3 (List.mem_of_getElem? (i := 181) (by decide +kernel))
theorem lx_3_182 : (Jvm.Cond.selects "TitheHeap" ({ cls := "TitheHeap", name := "fault", desc := "(I)I" } : Jvm.MethodName) ({ cls := "TitheHeap", name := "fault", desc := "(I)I" } : Jvm.MethodName)) ∈ lw_tbl := tlw_3 (List.mem_of_getElem? (i := 182) (by decide +kernel))
theorem lx_3_184 : (Jvm.Cond.methodLink "TitheHeapLaw" (27 : Nat) ({ cls := "TitheHeap", name := "heap", desc := "(I)I" } : Jvm.MethodName)) ∈ lw_tbl := tlw_3 (List.mem_of_getElem? (i := 184) (by decide +kernel))
theorem lx_3_185 : (Jvm.Cond.instanceMethod ({ cls := "TitheHeap", name := "heap", desc := "(I)I" } : Jvm.MethodName)) ∈ lw_tbl := tlw_3 (List.mem_of_getElem? (i := 185) (by decide +kernel))
theorem lx_3_186 : (Jvm.Cond.selects "TitheHeap" ({ cls := "TitheHeap", name := "heap", desc := "(I)I" } : Jvm.MethodName) ({ cls := "TitheHeap", name := "heap", desc := "(I)I" } : Jvm.MethodName)) ∈ lw_tbl := tlw_3 (List.mem_of_getElem? (i := 186) (by decide +kernel))
theorem lx_3_197 : (Jvm.Cond.methodLink "TitheHeapLaw" (31 : Nat) ({ cls := "TitheHeap", name := "gives", desc := "(I)I" } : Jvm.MethodName)) ∈ lw_tbl := tlw_3 (List.mem_of_getElem? (i := 197) (by decide +kernel))
theorem lx_3_198 : (Jvm.Cond.instanceMethod ({ cls := "TitheHeap", name := "gives", desc := "(I)I" } : Jvm.MethodName)) ∈ lw_tbl := tlw_3 (List.mem_of_getElem? (i := 198) (by decide +kernel))
theorem lx_3_199 : (Jvm.Cond.selects "TitheHeap" ({ cls := "TitheHeap", name := "gives", desc := "(I)I" } : Jvm.MethodName) ({ cls := "TitheHeap", name := "gives", desc := "(I)I" } : Jvm.MethodName)) ∈ lw_tbl := tlw_3 (List.mem_of_getElem? (i := 199) (by decide +kernel))
theorem lx_3_213 : (Jvm.Cond.methodLink "TitheHeapLaw" (35 : Nat) ({ cls := "TitheHeap", name := "by", desc := "(II)I" } : Jvm.MethodName)) ∈ lw_tbl := tlw_3 (List.mem_of_getElem? (i := 213) (by decide +kernel))
theorem lx_3_214 : (Jvm.Cond.instanceMethod ({ cls := "TitheHeap", name := "by", desc := "(II)I" } : Jvm.MethodName)) ∈ lw_tbl := tlw_3 (List.mem_of_getElem? (i := 214) (by decide +kernel))
theorem lx_3_215 : (Jvm.Cond.selects "TitheHeap" ({ cls := "TitheHeap", name := "by", desc := "(II)I" } : Jvm.MethodName) ({ cls := "TitheHeap", name := "by", desc := "(II)I" } : Jvm.MethodName)) ∈ lw_tbl := tlw_3 (List.mem_of_getElem? (i := 215) (by decide +kernel))
theorem lx_3_234 : (Jvm.Cond.methodLink "TitheHeapLaw" (40 : Nat) ({ cls := "TitheHeap", name := "moon", desc := "(I)I" } : Jvm.MethodName)) ∈ lw_tbl := tlw_3 (List.mem_of_getElem? (i := 234) (by decide +kernel))
theorem lx_3_235 : (Jvm.Cond.instanceMethod ({ cls := "TitheHeap", name := "moon", desc := "(I)I" } : Jvm.MethodName)) ∈ lw_tbl := tlw_3 (List.mem_of_getElem? (i := 235) (by decide +kernel))
theorem lx_3_236 : (Jvm.Cond.selects "TitheHeap" ({ cls := "TitheHeap", name := "moon", desc := "(I)I" } : Jvm.MethodName) ({ cls := "TitheHeap", name := "moon", desc := "(I)I" } : Jvm.MethodName)) ∈ lw_tbl := tlw_3 (List.mem_of_getElem? (i := 236) (by decide +kernel))
theorem lx_4_112 : (Jvm.Cond.methodLink "TitheHeapLaw" (78 : Nat) ({ cls := "TitheHeap", name := "at", desc := "(J)I" } : Jvm.MethodName)) ∈ lw_tbl := tlw_4 (List.mem_of_getElem? (i := 112) (by decide +kernel))
theorem lx_4_113 : (Jvm.Cond.instanceMethod ({ cls := "TitheHeap", name := "at", desc := "(J)I" } : Jvm.MethodName)) ∈ lw_tbl := tlw_4 (List.mem_of_getElem? (i := 113) (by decide +kernel))
theorem lx_4_114 : (Jvm.Cond.selects "TitheHeap" ({ cls := "TitheHeap", name := "at", desc := "(J)I" } : Jvm.MethodName) ({ cls := "TitheHeap", name := "at", desc := "(J)I" } : Jvm.MethodName)) ∈ lw_tbl := tlw_4 (List.mem_of_getElem? (i := 114) (by decide +kernel))
theorem lx_4_133 : (Jvm.Cond.methodLink "TitheHeapLaw" (83 : Nat) ({ cls := "TitheHeap", name := "round", desc := "(I)I" } : Jvm.MethodName)) ∈ lw_tbl := tlw_4 (List.mem_of_getElem? (i := 133) (by decide +kernel))
theorem lx_4_134 : (Jvm.Cond.instanceMethod ({ cls := "TitheHeap", name := "round", desc := "(I)I" } : Jvm.MethodName)) ∈ lw_tbl := tlw_4 (List.mem_of_getElem? (i := 134) (by decide +kernel))
theorem lx_4_135 : (Jvm.Cond.selects "TitheHeap" ({ cls := "TitheHeap", name := "round", desc := "(I)I" } : Jvm.MethodName) ({ cls := "TitheHeap", name := "round", desc := "(I)I" } : Jvm.MethodName)) ∈ lw_tbl := tlw_4 (List.mem_of_getElem? (i := 135) (by decide +kernel))
theorem lx_4_137 : (Jvm.Cond.methodLink "TitheHeapLaw" (87 : Nat) ({ cls := "TitheHeap", name := "all", desc := "(I)I" } : Jvm.MethodName)) ∈ lw_tbl := tlw_4 (List.mem_of_getElem? (i := 137) (by decide +kernel))
theorem lx_4_138 : (Jvm.Cond.instanceMethod ({ cls := "TitheHeap", name := "all", desc := "(I)I" } : Jvm.MethodName)) ∈ lw_tbl := tlw_4 (List.mem_of_getElem? (i := 138) (by decide +kernel))
theorem lx_4_139 : (Jvm.Cond.selects "TitheHeap" ({ cls := "TitheHeap", name := "all", desc := "(I)I" } : Jvm.MethodName) ({ cls := "TitheHeap", name := "all", desc := "(I)I" } : Jvm.MethodName)) ∈ lw_tbl := tlw_4 (List.mem_of_getElem? (i := 139) (by decide +kernel))
theorem lx_4_157 : (Jvm.Cond.methodLink "TitheHeapLaw" (91 : Nat) ({ cls := "TitheHeap", name := "ahead", desc := "(I)I" } : Jvm.MethodName)) ∈ lw_tbl := tlw_4 (List.mem_of_getElem? (i := 157) (by decide +kernel))
theorem lx_4_158 : (Jvm.Cond.instanceMethod ({ cls := "TitheHeap", name := "ahead", desc := "(I)I" } : Jvm.MethodName)) ∈ lw_tbl := tlw_4 (List.mem_of_getElem? (i := 158) (by decide +kernel))
theorem lx_4_159 : (Jvm.Cond.selects "TitheHeap" ({ cls := "TitheHeap", name := "ahead", desc := "(I)I" } : Jvm.MethodName) ({ cls := "TitheHeap", name := "ahead", desc := "(I)I" } : Jvm.MethodName)) ∈ lw_tbl := tlw_4 (List.mem_of_getElem? (i := 159) (by decide +kernel))
theorem lx_4_165 : (Jvm.Cond.methodLink "TitheHeapLaw" (95 : Nat) ({ cls := "TitheHeap", name := "soonest", desc := "(I)I" } : Jvm.MethodName)) ∈ lw_tbl := tlw_4 (List.mem_of_getElem? (i := 165) (by decide +kernel))
theorem lx_4_166 : (Jvm.Cond.instanceMethod ({ cls := "TitheHeap", name := "soonest", desc := "(I)I" } : Jvm.MethodName)) ∈ lw_tbl := tlw_4 (List.mem_of_getElem? (i := 166) (by decide +kernel))
theorem lx_4_167 : (Jvm.Cond.selects "TitheHeap" ({ cls := "TitheHeap", name := "soonest", desc := "(I)I" } : Jvm.MethodName) ({ cls := "TitheHeap", name := "soonest", desc := "(I)I" } : Jvm.MethodName)) ∈ lw_tbl := tlw_4 (List.mem_of_getElem? (i := 167) (by decide +kernel))
theorem lx_4_190 : (Jvm.Cond.methodLink "TitheHeapLaw" (99 : Nat) ({ cls := "TitheHeap", name := "way", desc := "(II)I" } : Jvm.MethodName)) ∈ lw_tbl := tlw_4 (List.mem_of_getElem? (i := 190) (by decide +kernel))
theorem lx_4_191 : (Jvm.Cond.instanceMethod ({ cls := "TitheHeap", name := "way", desc := "(II)I" } : Jvm.MethodName)) ∈ lw_tbl := tlw_4 (List.mem_of_getElem? (i := 191) (by decide +kernel))
theorem lx_4_192 : (Jvm.Cond.selects "TitheHeap" ({ cls := "TitheHeap", name := "way", desc := "(II)I" } : Jvm.MethodName) ({ cls := "TitheHeap", name := "way", desc := "(II)I" } : Jvm.MethodName)) ∈ lw_tbl := tlw_4 (List.mem_of_getElem? (i := 192) (by decide +kernel))
theorem lx_4_198 : (Jvm.Cond.methodLink "TitheHeapLaw" (103 : Nat) ({ cls := "TitheHeap", name := "rows", desc := "(II)J" } : Jvm.MethodName)) ∈ lw_tbl := tlw_4 (List.mem_of_getElem? (i := 198) (by decide +kernel))
theorem lx_4_199 : (Jvm.Cond.instanceMethod ({ cls := "TitheHeap", name := "rows", desc := "(II)J" } : Jvm.MethodName)) ∈ lw_tbl := tlw_4 (List.mem_of_getElem? (i := 199) (by decide +kernel))
theorem lx_4_200 : (Jvm.Cond.selects "TitheHeap" ({ cls := "TitheHeap", name := "rows", desc := "(II)J" } : Jvm.MethodName) ({ cls := "TitheHeap", name := "rows", desc := "(II)J" } : Jvm.MethodName)) ∈ lw_tbl := tlw_4 (List.mem_of_getElem? (i := 200) (by decide +kernel))
theorem lx_4_222 : (Jvm.Cond.methodLink "TitheHeapLaw" (108 : Nat) ({ cls := "TitheHeap", name := "keeps", desc := "(I)I" } : Jvm.MethodName)) ∈ lw_tbl := tlw_4 (List.mem_of_getElem? (i := 222) (by decide +kernel))
theorem lx_4_223 : (Jvm.Cond.instanceMethod ({ cls := "TitheHeap", name := "keeps", desc := "(I)I" } : Jvm.MethodName)) ∈ lw_tbl := tlw_4 (List.mem_of_getElem? (i := 223) (by decide +kernel))
theorem lx_4_224 : (Jvm.Cond.selects "TitheHeap" ({ cls := "TitheHeap", name := "keeps", desc := "(I)I" } : Jvm.MethodName) ({ cls := "TitheHeap", name := "keeps", desc := "(I)I" } : Jvm.MethodName)) ∈ lw_tbl := tlw_4 (List.mem_of_getElem? (i := 224) (by decide +kernel))
theorem lx_4_23 : (Jvm.Cond.methodLink "TitheHeapLaw" (44 : Nat) ({ cls := "TitheHeap", name := "moons", desc := "(I)I" } : Jvm.MethodName)) ∈ lw_tbl := tlw_4 (List.mem_of_getElem? (i := 23) (by decide +kernel))
theorem lx_4_237 : (Jvm.Cond.methodLink "TitheHeapLaw" (112 : Nat) ({ cls := "TitheHeap", name := "stands", desc := "()I" } : Jvm.MethodName)) ∈ lw_tbl := tlw_4 (List.mem_of_getElem? (i := 237) (by decide +kernel))
theorem lx_4_238 : (Jvm.Cond.instanceMethod ({ cls := "TitheHeap", name := "stands", desc := "()I" } : Jvm.MethodName)) ∈ lw_tbl := tlw_4 (List.mem_of_getElem? (i := 238) (by decide +kernel))
theorem lx_4_239 : (Jvm.Cond.selects "TitheHeap" ({ cls := "TitheHeap", name := "stands", desc := "()I" } : Jvm.MethodName) ({ cls := "TitheHeap", name := "stands", desc := "()I" } : Jvm.MethodName)) ∈ lw_tbl := tlw_4 (List.mem_of_getElem? (i := 239) (by decide +kernel))
theorem lx_4_24 : (Jvm.Cond.instanceMethod ({ cls := "TitheHeap", name := "moons", desc := "(I)I" } : Jvm.MethodName)) ∈ lw_tbl := tlw_4 (List.mem_of_getElem? (i := 24) (by decide +kernel))
theorem lx_4_25 : (Jvm.Cond.selects "TitheHeap" ({ cls := "TitheHeap", name := "moons", desc := "(I)I" } : Jvm.MethodName) ({ cls := "TitheHeap", name := "moons", desc := "(I)I" } : Jvm.MethodName)) ∈ lw_tbl := tlw_4 (List.mem_of_getElem? (i := 25) (by decide +kernel))
theorem lx_4_27 : (Jvm.Cond.methodLink "TitheHeapLaw" (48 : Nat) ({ cls := "TitheHeap", name := "split", desc := "(II)I" } : Jvm.MethodName)) ∈ lw_tbl := tlw_4 (List.mem_of_getElem? (i := 27) (by decide +kernel))
theorem lx_4_28 : (Jvm.Cond.instanceMethod ({ cls := "TitheHeap", name := "split", desc := "(II)I" } : Jvm.MethodName)) ∈ lw_tbl := tlw_4 (List.mem_of_getElem? (i := 28) (by decide +kernel))
theorem lx_4_29 : (Jvm.Cond.selects "TitheHeap" ({ cls := "TitheHeap", name := "split", desc := "(II)I" } : Jvm.MethodName) ({ cls := "TitheHeap", name := "split", desc := "(II)I" } : Jvm.MethodName)) ∈ lw_tbl := tlw_4 (List.mem_of_getElem? (i := 29) (by decide +kernel))
theorem lx_4_40 : (Jvm.Cond.methodLink "TitheHeapLaw" (52 : Nat) ({ cls := "TitheHeap", name := "join", desc := "(II)I" } : Jvm.MethodName)) ∈ lw_tbl := tlw_4 (List.mem_of_getElem? (i := 40) (by decide +kernel))
theorem lx_4_41 : (Jvm.Cond.instanceMethod ({ cls := "TitheHeap", name := "join", desc := "(II)I" } : Jvm.MethodName)) ∈ lw_tbl := tlw_4 (List.mem_of_getElem? (i := 41) (by decide +kernel))
theorem lx_4_42 : (Jvm.Cond.selects "TitheHeap" ({ cls := "TitheHeap", name := "join", desc := "(II)I" } : Jvm.MethodName) ({ cls := "TitheHeap", name := "join", desc := "(II)I" } : Jvm.MethodName)) ∈ lw_tbl := tlw_4 (List.mem_of_getElem? (i := 42) (by decide +kernel))
theorem lx_4_48 : (Jvm.Cond.methodLink "TitheHeapLaw" (56 : Nat) ({ cls := "TitheHeap", name := "season", desc := "(I)I" } : Jvm.MethodName)) ∈ lw_tbl := tlw_4 (List.mem_of_getElem? (i := 48) (by decide +kernel))
theorem lx_4_49 : (Jvm.Cond.instanceMethod ({ cls := "TitheHeap", name := "season", desc := "(I)I" } : Jvm.MethodName)) ∈ lw_tbl := tlw_4 (List.mem_of_getElem? (i := 49) (by decide +kernel))
theorem lx_4_50 : (Jvm.Cond.selects "TitheHeap" ({ cls := "TitheHeap", name := "season", desc := "(I)I" } : Jvm.MethodName) ({ cls := "TitheHeap", name := "season", desc := "(I)I" } : Jvm.MethodName)) ∈ lw_tbl := tlw_4 (List.mem_of_getElem? (i := 50) (by decide +kernel))
theorem lx_4_56 : (Jvm.Cond.methodLink "TitheHeapLaw" (60 : Nat) ({ cls := "TitheHeap", name := "undo", desc := "(I)I" } : Jvm.MethodName)) ∈ lw_tbl := tlw_4 (List.mem_of_getElem? (i := 56) (by decide +kernel))
theorem lx_4_57 : (Jvm.Cond.instanceMethod ({ cls := "TitheHeap", name := "undo", desc := "(I)I" } : Jvm.MethodName)) ∈ lw_tbl := tlw_4 (List.mem_of_getElem? (i := 57) (by decide +kernel))
theorem lx_4_58 : (Jvm.Cond.selects "TitheHeap" ({ cls := "TitheHeap", name := "undo", desc := "(I)I" } : Jvm.MethodName) ({ cls := "TitheHeap", name := "undo", desc := "(I)I" } : Jvm.MethodName)) ∈ lw_tbl := tlw_4 (List.mem_of_getElem? (i := 58) (by decide +kernel))
theorem lx_4_64 : (Jvm.Cond.methodLink "TitheHeapLaw" (64 : Nat) ({ cls := "TitheHeap", name := "judge", desc := "(II)I" } : Jvm.MethodName)) ∈ lw_tbl := tlw_4 (List.mem_of_getElem? (i := 64) (by decide +kernel))
theorem lx_4_65 : (Jvm.Cond.instanceMethod ({ cls := "TitheHeap", name := "judge", desc := "(II)I" } : Jvm.MethodName)) ∈ lw_tbl := tlw_4 (List.mem_of_getElem? (i := 65) (by decide +kernel))
theorem lx_4_66 : (Jvm.Cond.selects "TitheHeap" ({ cls := "TitheHeap", name := "judge", desc := "(II)I" } : Jvm.MethodName) ({ cls := "TitheHeap", name := "judge", desc := "(II)I" } : Jvm.MethodName)) ∈ lw_tbl := tlw_4 (List.mem_of_getElem? (i := 66) (by decide +kernel))
theorem lx_4_85 : (Jvm.Cond.methodLink "TitheHeapLaw" (68 : Nat) ({ cls := "TitheHeap", name := "perform", desc := "(I)I" } : Jvm.MethodName)) ∈ lw_tbl := tlw_4 (List.mem_of_getElem? (i := 85) (by decide +kernel))
theorem lx_4_86 : (Jvm.Cond.instanceMethod ({ cls := "TitheHeap", name := "perform", desc := "(I)I" } : Jvm.MethodName)) ∈ lw_tbl := tlw_4 (List.mem_of_getElem? (i := 86) (by decide +kernel))
theorem lx_4_87 : (Jvm.Cond.selects "TitheHeap" ({ cls := "TitheHeap", name := "perform", desc := "(I)I" } : Jvm.MethodName) ({ cls := "TitheHeap", name := "perform", desc := "(I)I" } : Jvm.MethodName)) ∈ lw_tbl := tlw_4 (List.mem_of_getElem? (i := 87) (by decide +kernel))
theorem lx_4_89 : (Jvm.Cond.methodLink "TitheHeapLaw" (72 : Nat) ({ cls := "TitheHeap", name := "year", desc := "(II)I" } : Jvm.MethodName)) ∈ lw_tbl := tlw_4 (List.mem_of_getElem? (i := 89) (by decide +kernel))
theorem lx_4_90 : (Jvm.Cond.instanceMethod ({ cls := "TitheHeap", name := "year", desc := "(II)I" } : Jvm.MethodName)) ∈ lw_tbl := tlw_4 (List.mem_of_getElem? (i := 90) (by decide +kernel))
theorem lx_4_91 : (Jvm.Cond.selects "TitheHeap" ({ cls := "TitheHeap", name := "year", desc := "(II)I" } : Jvm.MethodName) ({ cls := "TitheHeap", name := "year", desc := "(II)I" } : Jvm.MethodName)) ∈ lw_tbl := tlw_4 (List.mem_of_getElem? (i := 91) (by decide +kernel))
theorem lx_5_1 : (Jvm.Cond.methodLink "TitheHeapLaw" (117 : Nat) ({ cls := "TitheHeap", name := "number", desc := "(I)I" } : Jvm.MethodName)) ∈ lw_tbl := tlw_5 (List.mem_of_getElem? (i := 1) (by decide +kernel))
theorem lx_5_10 : (Jvm.Cond.instanceMethod ({ cls := "TitheHeap", name := "side", desc := "()I" } : Jvm.MethodName)) ∈ lw_tbl := tlw_5 (List.mem_of_getElem? (i := 10) (by decide +kernel))
theorem lx_5_11 : (Jvm.Cond.selects "TitheHeap" ({ cls := "TitheHeap", name := "side", desc := "()I" } : Jvm.MethodName) ({ cls := "TitheHeap", name := "side", desc := "()I" } : Jvm.MethodName)) ∈ lw_tbl := tlw_5 (List.mem_of_getElem? (i := 11) (by decide +kernel))
theorem lx_5_113 : (Jvm.Cond.methodLink "TitheHeapLaw" (162 : Nat) ({ cls := "TitheHeap", name := "best", desc := "(I)I" } : Jvm.MethodName)) ∈ lw_tbl := tlw_5 (List.mem_of_getElem? (i := 113) (by decide +kernel))
theorem lx_5_114 : (Jvm.Cond.instanceMethod ({ cls := "TitheHeap", name := "best", desc := "(I)I" } : Jvm.MethodName)) ∈ lw_tbl := tlw_5 (List.mem_of_getElem? (i := 114) (by decide +kernel))
theorem lx_5_115 : (Jvm.Cond.selects "TitheHeap" ({ cls := "TitheHeap", name := "best", desc := "(I)I" } : Jvm.MethodName) ({ cls := "TitheHeap", name := "best", desc := "(I)I" } : Jvm.MethodName)) ∈ lw_tbl := tlw_5 (List.mem_of_getElem? (i := 115) (by decide +kernel))
theorem lx_5_118 : (Jvm.Cond.methodLink "TitheHeapLaw" (166 : Nat) ({ cls := "TitheHeap", name := "takes", desc := "(I)I" } : Jvm.MethodName)) ∈ lw_tbl := tlw_5 (List.mem_of_getElem? (i := 118) (by decide +kernel))
theorem lx_5_119 : (Jvm.Cond.instanceMethod ({ cls := "TitheHeap", name := "takes", desc := "(I)I" } : Jvm.MethodName)) ∈ lw_tbl := tlw_5 (List.mem_of_getElem? (i := 119) (by decide +kernel))
theorem lx_5_120 : (Jvm.Cond.selects "TitheHeap" ({ cls := "TitheHeap", name := "takes", desc := "(I)I" } : Jvm.MethodName) ({ cls := "TitheHeap", name := "takes", desc := "(I)I" } : Jvm.MethodName)) ∈ lw_tbl := tlw_5 (List.mem_of_getElem? (i := 120) (by decide +kernel))
theorem lx_5_122 : (Jvm.Cond.methodLink "TitheHeapLaw" (170 : Nat) ({ cls := "TitheHeap", name := "chance", desc := "(III)I" } : Jvm.MethodName)) ∈ lw_tbl := tlw_5 (List.mem_of_getElem? (i := 122) (by decide +kernel))
theorem lx_5_123 : (Jvm.Cond.instanceMethod ({ cls := "TitheHeap", name := "chance", desc := "(III)I" } : Jvm.MethodName)) ∈ lw_tbl := tlw_5 (List.mem_of_getElem? (i := 123) (by decide +kernel))
theorem lx_5_124 : (Jvm.Cond.selects "TitheHeap" ({ cls := "TitheHeap", name := "chance", desc := "(III)I" } : Jvm.MethodName) ({ cls := "TitheHeap", name := "chance", desc := "(III)I" } : Jvm.MethodName)) ∈ lw_tbl := tlw_5 (List.mem_of_getElem? (i := 124) (by decide +kernel))
theorem lx_5_13 : (Jvm.Cond.methodLink "TitheHeapLaw" (129 : Nat) ({ cls := "TitheHeap", name := "under", desc := "(I)I" } : Jvm.MethodName)) ∈ lw_tbl := tlw_5 (List.mem_of_getElem? (i := 13) (by decide +kernel))
theorem lx_5_14 : (Jvm.Cond.instanceMethod ({ cls := "TitheHeap", name := "under", desc := "(I)I" } : Jvm.MethodName)) ∈ lw_tbl := tlw_5 (List.mem_of_getElem? (i := 14) (by decide +kernel))
theorem lx_5_142 : (Jvm.Cond.methodLink "TitheHeapLaw" (175 : Nat) ({ cls := "TitheHeap", name := "mean", desc := "(II)I" } : Jvm.MethodName)) ∈ lw_tbl := tlw_5 (List.mem_of_getElem? (i := 142) (by decide +kernel))
theorem lx_5_143 : (Jvm.Cond.instanceMethod ({ cls := "TitheHeap", name := "mean", desc := "(II)I" } : Jvm.MethodName)) ∈ lw_tbl := tlw_5 (List.mem_of_getElem? (i := 143) (by decide +kernel))
theorem lx_5_144 : (Jvm.Cond.selects "TitheHeap" ({ cls := "TitheHeap", name := "mean", desc := "(II)I" } : Jvm.MethodName) ({ cls := "TitheHeap", name := "mean", desc := "(II)I" } : Jvm.MethodName)) ∈ lw_tbl := tlw_5 (List.mem_of_getElem? (i := 144) (by decide +kernel))
theorem lx_5_15 : (Jvm.Cond.selects "TitheHeap" ({ cls := "TitheHeap", name := "under", desc := "(I)I" } : Jvm.MethodName) ({ cls := "TitheHeap", name := "under", desc := "(I)I" } : Jvm.MethodName)) ∈ lw_tbl := tlw_5 (List.mem_of_getElem? (i := 15) (by decide +kernel))
theorem lx_5_150 : (Jvm.Cond.methodLink "TitheHeapLaw" (179 : Nat) ({ cls := "TitheHeap", name := "numbers", desc := "(III)I" } : Jvm.MethodName)) ∈ lw_tbl := tlw_5 (List.mem_of_getElem? (i := 150) (by decide +kernel))
theorem lx_5_151 : (Jvm.Cond.instanceMethod ({ cls := "TitheHeap", name := "numbers", desc := "(III)I" } : Jvm.MethodName)) ∈ lw_tbl := tlw_5 (List.mem_of_getElem? (i := 151) (by decide +kernel))
theorem lx_5_152 : (Jvm.Cond.selects "TitheHeap" ({ cls := "TitheHeap", name := "numbers", desc := "(III)I" } : Jvm.MethodName) ({ cls := "TitheHeap", name := "numbers", desc := "(III)I" } : Jvm.MethodName)) ∈ lw_tbl := tlw_5 (List.mem_of_getElem? (i := 152) (by decide +kernel))
theorem lx_5_161 : (Jvm.Cond.methodLink "TitheHeapLaw" (183 : Nat) ({ cls := "TitheHeap", name := "write", desc := "(IIJ)J" } : Jvm.MethodName)) ∈ lw_tbl := tlw_5 (List.mem_of_getElem? (i := 161) (by decide +kernel))
theorem lx_5_162 : (Jvm.Cond.instanceMethod ({ cls := "TitheHeap", name := "write", desc := "(IIJ)J" } : Jvm.MethodName)) ∈ lw_tbl := tlw_5 (List.mem_of_getElem? (i := 162) (by decide +kernel))
theorem lx_5_163 : (Jvm.Cond.selects "TitheHeap" ({ cls := "TitheHeap", name := "write", desc := "(IIJ)J" } : Jvm.MethodName) ({ cls := "TitheHeap", name := "write", desc := "(IIJ)J" } : Jvm.MethodName)) ∈ lw_tbl := tlw_5 (List.mem_of_getElem? (i := 163) (by decide +kernel))
theorem lx_5_172 : (Jvm.Cond.methodLink "TitheHeapLaw" (188 : Nat) ({ cls := "TitheHeap", name := "lists", desc := "(II)I" } : Jvm.MethodName)) ∈ lw_tbl := tlw_5 (List.mem_of_getElem? (i := 172) (by decide +kernel))
theorem lx_5_173 : (Jvm.Cond.instanceMethod ({ cls := "TitheHeap", name := "lists", desc := "(II)I" } : Jvm.MethodName)) ∈ lw_tbl := tlw_5 (List.mem_of_getElem? (i := 173) (by decide +kernel))
theorem lx_5_174 : (Jvm.Cond.selects "TitheHeap" ({ cls := "TitheHeap", name := "lists", desc := "(II)I" } : Jvm.MethodName) ({ cls := "TitheHeap", name := "lists", desc := "(II)I" } : Jvm.MethodName)) ∈ lw_tbl := tlw_5 (List.mem_of_getElem? (i := 174) (by decide +kernel))
theorem lx_5_177 : (Jvm.Cond.methodLink "TitheHeapLaw" (192 : Nat) ({ cls := "TitheHeap", name := "image", desc := "(I)I" } : Jvm.MethodName)) ∈ lw_tbl := tlw_5 (List.mem_of_getElem? (i := 177) (by decide +kernel))
theorem lx_5_178 : (Jvm.Cond.instanceMethod ({ cls := "TitheHeap", name := "image", desc := "(I)I" } : Jvm.MethodName)) ∈ lw_tbl := tlw_5 (List.mem_of_getElem? (i := 178) (by decide +kernel))
theorem lx_5_179 : (Jvm.Cond.selects "TitheHeap" ({ cls := "TitheHeap", name := "image", desc := "(I)I" } : Jvm.MethodName) ({ cls := "TitheHeap", name := "image", desc := "(I)I" } : Jvm.MethodName)) ∈ lw_tbl := tlw_5 (List.mem_of_getElem? (i := 179) (by decide +kernel))
theorem lx_5_181 : (Jvm.Cond.methodLink "TitheHeapLaw" (196 : Nat) ({ cls := "TitheHeap", name := "restore", desc := "(I)I" } : Jvm.MethodName)) ∈ lw_tbl := tlw_5 (List.mem_of_getElem? (i := 181) (by decide +kernel))
theorem lx_5_182 : (Jvm.Cond.instanceMethod ({ cls := "TitheHeap", name := "restore", desc := "(I)I" } : Jvm.MethodName)) ∈ lw_tbl := tlw_5 (List.mem_of_getElem? (i := 182) (by decide +kernel))
theorem lx_5_183 : (Jvm.Cond.selects "TitheHeap" ({ cls := "TitheHeap", name := "restore", desc := "(I)I" } : Jvm.MethodName) ({ cls := "TitheHeap", name := "restore", desc := "(I)I" } : Jvm.MethodName)) ∈ lw_tbl := tlw_5 (List.mem_of_getElem? (i := 183) (by decide +kernel))
theorem lx_5_185 : (Jvm.Cond.methodLink "TitheHeapLaw" (200 : Nat) ({ cls := "TitheHeap", name := "count", desc := "(I)I" } : Jvm.MethodName)) ∈ lw_tbl := tlw_5 (List.mem_of_getElem? (i := 185) (by decide +kernel))
theorem lx_5_186 : (Jvm.Cond.instanceMethod ({ cls := "TitheHeap", name := "count", desc := "(I)I" } : Jvm.MethodName)) ∈ lw_tbl := tlw_5 (List.mem_of_getElem? (i := 186) (by decide +kernel))
theorem lx_5_187 : (Jvm.Cond.selects "TitheHeap" ({ cls := "TitheHeap", name := "count", desc := "(I)I" } : Jvm.MethodName) ({ cls := "TitheHeap", name := "count", desc := "(I)I" } : Jvm.MethodName)) ∈ lw_tbl := tlw_5 (List.mem_of_getElem? (i := 187) (by decide +kernel))
theorem lx_5_189 : (Jvm.Cond.classLink "TitheHeapLaw" (10 : Nat) "TitheHeapModel") ∈ lw_tbl := tlw_5 (List.mem_of_getElem? (i := 189) (by decide +kernel))
theorem lx_5_190 : (Jvm.Cond.instantiable "TitheHeapModel" (42 : Nat)) ∈ lw_tbl := tlw_5 (List.mem_of_getElem? (i := 190) (by decide +kernel))
theorem lx_5_191 : (Jvm.Cond.methodLink "TitheHeapLaw" (12 : Nat) ({ cls := "TitheHeapModel", name := "<init>", desc := "()V" } : Jvm.MethodName)) ∈ lw_tbl := tlw_5 (List.mem_of_getElem? (i := 191) (by decide +kernel))
theorem lx_5_192 : (Jvm.Cond.instanceMethod ({ cls := "TitheHeapModel", name := "<init>", desc := "()V" } : Jvm.MethodName)) ∈ lw_tbl := tlw_5 (List.mem_of_getElem? (i := 192) (by decide +kernel))
theorem lx_5_2 : (Jvm.Cond.instanceMethod ({ cls := "TitheHeap", name := "number", desc := "(I)I" } : Jvm.MethodName)) ∈ lw_tbl := tlw_5 (List.mem_of_getElem? (i := 2) (by decide +kernel))
theorem lx_5_22 : (Jvm.Cond.methodLink "TitheHeapLaw" (133 : Nat) ({ cls := "TitheHeap", name := "below", desc := "()I" } : Jvm.MethodName)) ∈ lw_tbl := tlw_5 (List.mem_of_getElem? (i := 22) (by decide +kernel))
theorem lx_5_23 : (Jvm.Cond.instanceMethod ({ cls := "TitheHeap", name := "below", desc := "()I" } : Jvm.MethodName)) ∈ lw_tbl := tlw_5 (List.mem_of_getElem? (i := 23) (by decide +kernel))
theorem lx_5_24 : (Jvm.Cond.selects "TitheHeap" ({ cls := "TitheHeap", name := "below", desc := "()I" } : Jvm.MethodName) ({ cls := "TitheHeap", name := "below", desc := "()I" } : Jvm.MethodName)) ∈ lw_tbl := tlw_5 (List.mem_of_getElem? (i := 24) (by decide +kernel))
theorem lx_5_26 : (Jvm.Cond.methodLink "TitheHeapLaw" (137 : Nat) ({ cls := "TitheHeap", name := "counted", desc := "(I)J" } : Jvm.MethodName)) ∈ lw_tbl := tlw_5 (List.mem_of_getElem? (i := 26) (by decide +kernel))
theorem lx_5_27 : (Jvm.Cond.instanceMethod ({ cls := "TitheHeap", name := "counted", desc := "(I)J" } : Jvm.MethodName)) ∈ lw_tbl := tlw_5 (List.mem_of_getElem? (i := 27) (by decide +kernel))
theorem lx_5_28 : (Jvm.Cond.selects "TitheHeap" ({ cls := "TitheHeap", name := "counted", desc := "(I)J" } : Jvm.MethodName) ({ cls := "TitheHeap", name := "counted", desc := "(I)J" } : Jvm.MethodName)) ∈ lw_tbl := tlw_5 (List.mem_of_getElem? (i := 28) (by decide +kernel))
theorem lx_5_3 : (Jvm.Cond.selects "TitheHeap" ({ cls := "TitheHeap", name := "number", desc := "(I)I" } : Jvm.MethodName) ({ cls := "TitheHeap", name := "number", desc := "(I)I" } : Jvm.MethodName)) ∈ lw_tbl := tlw_5 (List.mem_of_getElem? (i := 3) (by decide +kernel))
theorem lx_5_42 : (Jvm.Cond.methodLink "TitheHeapLaw" (142 : Nat) ({ cls := "TitheHeap", name := "countedBy", desc := "(II)I" } : Jvm.MethodName)) ∈ lw_tbl := tlw_5 (List.mem_of_getElem? (i := 42) (by decide +kernel))
theorem lx_5_43 : (Jvm.Cond.instanceMethod ({ cls := "TitheHeap", name := "countedBy", desc := "(II)I" } : Jvm.MethodName)) ∈ lw_tbl := tlw_5 (List.mem_of_getElem? (i := 43) (by decide +kernel))
theorem lx_5_44 : (Jvm.Cond.selects "TitheHeap" ({ cls := "TitheHeap", name := "countedBy", desc := "(II)I" } : Jvm.MethodName) ({ cls := "TitheHeap", name := "countedBy", desc := "(II)I" } : Jvm.MethodName)) ∈ lw_tbl := tlw_5 (List.mem_of_getElem? (i := 44) (by decide +kernel))
theorem lx_5_5 : (Jvm.Cond.methodLink "TitheHeapLaw" (121 : Nat) ({ cls := "TitheHeap", name := "bounded", desc := "(II)I" } : Jvm.MethodName)) ∈ lw_tbl := tlw_5 (List.mem_of_getElem? (i := 5) (by decide +kernel))
theorem lx_5_6 : (Jvm.Cond.instanceMethod ({ cls := "TitheHeap", name := "bounded", desc := "(II)I" } : Jvm.MethodName)) ∈ lw_tbl := tlw_5 (List.mem_of_getElem? (i := 6) (by decide +kernel))
theorem lx_5_63 : (Jvm.Cond.methodLink "TitheHeapLaw" (146 : Nat) ({ cls := "TitheHeap", name := "spared", desc := "(II)I" } : Jvm.MethodName)) ∈ lw_tbl := tlw_5 (List.mem_of_getElem? (i := 63) (by decide +kernel))
theorem lx_5_64 : (Jvm.Cond.instanceMethod ({ cls := "TitheHeap", name := "spared", desc := "(II)I" } : Jvm.MethodName)) ∈ lw_tbl := tlw_5 (List.mem_of_getElem? (i := 64) (by decide +kernel))
theorem lx_5_65 : (Jvm.Cond.selects "TitheHeap" ({ cls := "TitheHeap", name := "spared", desc := "(II)I" } : Jvm.MethodName) ({ cls := "TitheHeap", name := "spared", desc := "(II)I" } : Jvm.MethodName)) ∈ lw_tbl := tlw_5 (List.mem_of_getElem? (i := 65) (by decide +kernel))
theorem lx_5_7 : (Jvm.Cond.selects "TitheHeap" ({ cls := "TitheHeap", name := "bounded", desc := "(II)I" } : Jvm.MethodName) ({ cls := "TitheHeap", name := "bounded", desc := "(II)I" } : Jvm.MethodName)) ∈ lw_tbl := tlw_5 (List.mem_of_getElem? (i := 7) (by decide +kernel))
theorem lx_5_71 : (Jvm.Cond.methodLink "TitheHeapLaw" (150 : Nat) ({ cls := "TitheHeap", name := "seasons", desc := "(I)I" } : Jvm.MethodName)) ∈ lw_tbl := tlw_5 (List.mem_of_getElem? (i := 71) (by decide +kernel))
theorem lx_5_72 : (Jvm.Cond.instanceMethod ({ cls := "TitheHeap", name := "seasons", desc := "(I)I" } : Jvm.MethodName)) ∈ lw_tbl := tlw_5 (List.mem_of_getElem? (i := 72) (by decide +kernel))
theorem lx_5_73 : (Jvm.Cond.selects "TitheHeap" ({ cls := "TitheHeap", name := "seasons", desc := "(I)I" } : Jvm.MethodName) ({ cls := "TitheHeap", name := "seasons", desc := "(I)I" } : Jvm.MethodName)) ∈ lw_tbl := tlw_5 (List.mem_of_getElem? (i := 73) (by decide +kernel))
theorem lx_5_87 : (Jvm.Cond.methodLink "TitheHeapLaw" (154 : Nat) ({ cls := "TitheHeap", name := "attempt", desc := "(I)I" } : Jvm.MethodName)) ∈ lw_tbl := tlw_5 (List.mem_of_getElem? (i := 87) (by decide +kernel))
theorem lx_5_88 : (Jvm.Cond.instanceMethod ({ cls := "TitheHeap", name := "attempt", desc := "(I)I" } : Jvm.MethodName)) ∈ lw_tbl := tlw_5 (List.mem_of_getElem? (i := 88) (by decide +kernel))
theorem lx_5_89 : (Jvm.Cond.selects "TitheHeap" ({ cls := "TitheHeap", name := "attempt", desc := "(I)I" } : Jvm.MethodName) ({ cls := "TitheHeap", name := "attempt", desc := "(I)I" } : Jvm.MethodName)) ∈ lw_tbl := tlw_5 (List.mem_of_getElem? (i := 89) (by decide +kernel))
theorem lx_5_9 : (Jvm.Cond.methodLink "TitheHeapLaw" (125 : Nat) ({ cls := "TitheHeap", name := "side", desc := "()I" } : Jvm.MethodName)) ∈ lw_tbl := tlw_5 (List.mem_of_getElem? (i := 9) (by decide +kernel))
theorem lx_5_96 : (Jvm.Cond.methodLink "TitheHeapLaw" (158 : Nat) ({ cls := "TitheHeap", name := "forces", desc := "(I)I" } : Jvm.MethodName)) ∈ lw_tbl := tlw_5 (List.mem_of_getElem? (i := 96) (by decide +kernel))
theorem lx_5_97 : (Jvm.Cond.instanceMethod ({ cls := "TitheHeap", name := "forces", desc := "(I)I" } : Jvm.MethodName)) ∈ lw_tbl := tlw_5 (List.mem_of_getElem? (i := 97) (by decide +kernel))
theorem lx_5_98 : (Jvm.Cond.selects "TitheHeap" ({ cls := "TitheHeap", name := "forces", desc := "(I)I" } : Jvm.MethodName) ({ cls := "TitheHeap", name := "forces", desc := "(I)I" } : Jvm.MethodName)) ∈ lw_tbl := tlw_5 (List.mem_of_getElem? (i := 98) (by decide +kernel))
theorem lx_6_100 : (Jvm.Cond.selects "TitheHeapModel" ({ cls := "TitheHeapModel", name := "barn", desc := "(I)I" } : Jvm.MethodName) ({ cls := "TitheHeapModel", name := "barn", desc := "(I)I" } : Jvm.MethodName)) ∈ lw_tbl := tlw_6 (List.mem_of_getElem? (i := 100) (by decide +kernel))
theorem lx_6_211 : (Jvm.Cond.methodLink "TitheHeapLaw" (26 : Nat) ({ cls := "TitheHeapModel", name := "fault", desc := "(I)I" } : Jvm.MethodName)) ∈ lw_tbl := tlw_6 (List.mem_of_getElem? (i := 211) (by decide +kernel))
theorem lx_6_212 : (Jvm.Cond.instanceMethod ({ cls := "TitheHeapModel", name := "fault", desc := "(I)I" } : Jvm.MethodName)) ∈ lw_tbl := tlw_6 (List.mem_of_getElem? (i := 212) (by decide +kernel))
theorem lx_6_213 : (Jvm.Cond.selects "TitheHeapModel" ({ cls := "TitheHeapModel", name := "fault", desc := "(I)I" } : Jvm.MethodName) ({ cls := "TitheHeapModel", name := "fault", desc := "(I)I" } : Jvm.MethodName)) ∈ lw_tbl := tlw_6 (List.mem_of_getElem? (i := 213) (by decide +kernel))
theorem lx_6_215 : (Jvm.Cond.methodLink "TitheHeapLaw" (30 : Nat) ({ cls := "TitheHeapModel", name := "heap", desc := "(I)I" } : Jvm.MethodName)) ∈ lw_tbl := tlw_6 (List.mem_of_getElem? (i := 215) (by decide +kernel))
theorem lx_6_216 : (Jvm.Cond.instanceMethod ({ cls := "TitheHeapModel", name := "heap", desc := "(I)I" } : Jvm.MethodName)) ∈ lw_tbl := tlw_6 (List.mem_of_getElem? (i := 216) (by decide +kernel))
theorem lx_6_217 : (Jvm.Cond.selects "TitheHeapModel" ({ cls := "TitheHeapModel", name := "heap", desc := "(I)I" } : Jvm.MethodName) ({ cls := "TitheHeapModel", name := "heap", desc := "(I)I" } : Jvm.MethodName)) ∈ lw_tbl := tlw_6 (List.mem_of_getElem? (i := 217) (by decide +kernel))
theorem lx_6_227 : (Jvm.Cond.methodLink "TitheHeapLaw" (34 : Nat) ({ cls := "TitheHeapModel", name := "gives", desc := "(I)I" } : Jvm.MethodName)) ∈ lw_tbl := tlw_6 (List.mem_of_getElem? (i := 227) (by decide +kernel))
theorem lx_6_228 : (Jvm.Cond.instanceMethod ({ cls := "TitheHeapModel", name := "gives", desc := "(I)I" } : Jvm.MethodName)) ∈ lw_tbl := tlw_6 (List.mem_of_getElem? (i := 228) (by decide +kernel))
theorem lx_6_229 : (Jvm.Cond.selects "TitheHeapModel" ({ cls := "TitheHeapModel", name := "gives", desc := "(I)I" } : Jvm.MethodName) ({ cls := "TitheHeapModel", name := "gives", desc := "(I)I" } : Jvm.MethodName)) ∈ lw_tbl := tlw_6 (List.mem_of_getElem? (i := 229) (by decide +kernel))
theorem lx_6_94 : (Jvm.Cond.methodLink "TitheHeapLaw" (17 : Nat) ({ cls := "TitheHeapModel", name := "feed", desc := "(IIIII)I" } : Jvm.MethodName)) ∈ lw_tbl := tlw_6 (List.mem_of_getElem? (i := 94) (by decide +kernel))
theorem lx_6_95 : (Jvm.Cond.instanceMethod ({ cls := "TitheHeapModel", name := "feed", desc := "(IIIII)I" } : Jvm.MethodName)) ∈ lw_tbl := tlw_6 (List.mem_of_getElem? (i := 95) (by decide +kernel))
theorem lx_6_96 : (Jvm.Cond.selects "TitheHeapModel" ({ cls := "TitheHeapModel", name := "feed", desc := "(IIIII)I" } : Jvm.MethodName) ({ cls := "TitheHeapModel", name := "feed", desc := "(IIIII)I" } : Jvm.MethodName)) ∈ lw_tbl := tlw_6 (List.mem_of_getElem? (i := 96) (by decide +kernel))
theorem lx_6_98 : (Jvm.Cond.methodLink "TitheHeapLaw" (22 : Nat) ({ cls := "TitheHeapModel", name := "barn", desc := "(I)I" } : Jvm.MethodName)) ∈ lw_tbl := tlw_6 (List.mem_of_getElem? (i := 98) (by decide +kernel))
theorem lx_6_99 : (Jvm.Cond.instanceMethod ({ cls := "TitheHeapModel", name := "barn", desc := "(I)I" } : Jvm.MethodName)) ∈ lw_tbl := tlw_6 (List.mem_of_getElem? (i := 99) (by decide +kernel))
theorem lx_7_119 : (Jvm.Cond.methodLink "TitheHeapLaw" (71 : Nat) ({ cls := "TitheHeapModel", name := "perform", desc := "(I)I" } : Jvm.MethodName)) ∈ lw_tbl := tlw_7 (List.mem_of_getElem? (i := 119) (by decide +kernel))
theorem lx_7_120 : (Jvm.Cond.instanceMethod ({ cls := "TitheHeapModel", name := "perform", desc := "(I)I" } : Jvm.MethodName)) ∈ lw_tbl := tlw_7 (List.mem_of_getElem? (i := 120) (by decide +kernel))
theorem lx_7_121 : (Jvm.Cond.selects "TitheHeapModel" ({ cls := "TitheHeapModel", name := "perform", desc := "(I)I" } : Jvm.MethodName) ({ cls := "TitheHeapModel", name := "perform", desc := "(I)I" } : Jvm.MethodName)) ∈ lw_tbl := tlw_7 (List.mem_of_getElem? (i := 121) (by decide +kernel))
theorem lx_7_123 : (Jvm.Cond.methodLink "TitheHeapLaw" (75 : Nat) ({ cls := "TitheHeapModel", name := "year", desc := "(II)I" } : Jvm.MethodName)) ∈ lw_tbl := tlw_7 (List.mem_of_getElem? (i := 123) (by decide +kernel))
theorem lx_7_124 : (Jvm.Cond.instanceMethod ({ cls := "TitheHeapModel", name := "year", desc := "(II)I" } : Jvm.MethodName)) ∈ lw_tbl := tlw_7 (List.mem_of_getElem? (i := 124) (by decide +kernel))
theorem lx_7_125 : (Jvm.Cond.selects "TitheHeapModel" ({ cls := "TitheHeapModel", name := "year", desc := "(II)I" } : Jvm.MethodName) ({ cls := "TitheHeapModel", name := "year", desc := "(II)I" } : Jvm.MethodName)) ∈ lw_tbl := tlw_7 (List.mem_of_getElem? (i := 125) (by decide +kernel))
theorem lx_7_137 : (Jvm.Cond.methodLink "TitheHeapLaw" (82 : Nat) ({ cls := "TitheHeapModel", name := "at", desc := "(J)I" } : Jvm.MethodName)) ∈ lw_tbl := tlw_7 (List.mem_of_getElem? (i := 137) (by decide +kernel))
theorem lx_7_138 : (Jvm.Cond.instanceMethod ({ cls := "TitheHeapModel", name := "at", desc := "(J)I" } : Jvm.MethodName)) ∈ lw_tbl := tlw_7 (List.mem_of_getElem? (i := 138) (by decide +kernel))
theorem lx_7_139 : (Jvm.Cond.selects "TitheHeapModel" ({ cls := "TitheHeapModel", name := "at", desc := "(J)I" } : Jvm.MethodName) ({ cls := "TitheHeapModel", name := "at", desc := "(J)I" } : Jvm.MethodName)) ∈ lw_tbl := tlw_7 (List.mem_of_getElem? (i := 139) (by decide +kernel))
theorem lx_7_150 : (Jvm.Cond.methodLink "TitheHeapLaw" (86 : Nat) ({ cls := "TitheHeapModel", name := "round", desc := "(I)I" } : Jvm.MethodName)) ∈ lw_tbl := tlw_7 (List.mem_of_getElem? (i := 150) (by decide +kernel))
theorem lx_7_151 : (Jvm.Cond.instanceMethod ({ cls := "TitheHeapModel", name := "round", desc := "(I)I" } : Jvm.MethodName)) ∈ lw_tbl := tlw_7 (List.mem_of_getElem? (i := 151) (by decide +kernel))
theorem lx_7_152 : (Jvm.Cond.selects "TitheHeapModel" ({ cls := "TitheHeapModel", name := "round", desc := "(I)I" } : Jvm.MethodName) ({ cls := "TitheHeapModel", name := "round", desc := "(I)I" } : Jvm.MethodName)) ∈ lw_tbl := tlw_7 (List.mem_of_getElem? (i := 152) (by decide +kernel))
theorem lx_7_154 : (Jvm.Cond.methodLink "TitheHeapLaw" (90 : Nat) ({ cls := "TitheHeapModel", name := "all", desc := "(I)I" } : Jvm.MethodName)) ∈ lw_tbl := tlw_7 (List.mem_of_getElem? (i := 154) (by decide +kernel))
theorem lx_7_155 : (Jvm.Cond.instanceMethod ({ cls := "TitheHeapModel", name := "all", desc := "(I)I" } : Jvm.MethodName)) ∈ lw_tbl := tlw_7 (List.mem_of_getElem? (i := 155) (by decide +kernel))
theorem lx_7_156 : (Jvm.Cond.selects "TitheHeapModel" ({ cls := "TitheHeapModel", name := "all", desc := "(I)I" } : Jvm.MethodName) ({ cls := "TitheHeapModel", name := "all", desc := "(I)I" } : Jvm.MethodName)) ∈ lw_tbl := tlw_7 (List.mem_of_getElem? (i := 156) (by decide +kernel))
theorem lx_7_171 : (Jvm.Cond.methodLink "TitheHeapLaw" (94 : Nat) ({ cls := "TitheHeapModel", name := "ahead", desc := "(I)I" } : Jvm.MethodName)) ∈ lw_tbl := tlw_7 (List.mem_of_getElem? (i := 171) (by decide +kernel))
theorem lx_7_172 : (Jvm.Cond.instanceMethod ({ cls := "TitheHeapModel", name := "ahead", desc := "(I)I" } : Jvm.MethodName)) ∈ lw_tbl := tlw_7 (List.mem_of_getElem? (i := 172) (by decide +kernel))
theorem lx_7_173 : (Jvm.Cond.selects "TitheHeapModel" ({ cls := "TitheHeapModel", name := "ahead", desc := "(I)I" } : Jvm.MethodName) ({ cls := "TitheHeapModel", name := "ahead", desc := "(I)I" } : Jvm.MethodName)) ∈ lw_tbl := tlw_7 (List.mem_of_getElem? (i := 173) (by decide +kernel))
theorem lx_7_175 : (Jvm.Cond.methodLink "TitheHeapLaw" (98 : Nat) ({ cls := "TitheHeapModel", name := "soonest", desc := "(I)I" } : Jvm.MethodName)) ∈ lw_tbl := tlw_7 (List.mem_of_getElem? (i := 175) (by decide +kernel))
theorem lx_7_176 : (Jvm.Cond.instanceMethod ({ cls := "TitheHeapModel", name := "soonest", desc := "(I)I" } : Jvm.MethodName)) ∈ lw_tbl := tlw_7 (List.mem_of_getElem? (i := 176) (by decide +kernel))
theorem lx_7_177 : (Jvm.Cond.selects "TitheHeapModel" ({ cls := "TitheHeapModel", name := "soonest", desc := "(I)I" } : Jvm.MethodName) ({ cls := "TitheHeapModel", name := "soonest", desc := "(I)I" } : Jvm.MethodName)) ∈ lw_tbl := tlw_7 (List.mem_of_getElem? (i := 177) (by decide +kernel))
theorem lx_7_203 : (Jvm.Cond.methodLink "TitheHeapLaw" (102 : Nat) ({ cls := "TitheHeapModel", name := "way", desc := "(II)I" } : Jvm.MethodName)) ∈ lw_tbl := tlw_7 (List.mem_of_getElem? (i := 203) (by decide +kernel))
theorem lx_7_204 : (Jvm.Cond.instanceMethod ({ cls := "TitheHeapModel", name := "way", desc := "(II)I" } : Jvm.MethodName)) ∈ lw_tbl := tlw_7 (List.mem_of_getElem? (i := 204) (by decide +kernel))
theorem lx_7_205 : (Jvm.Cond.selects "TitheHeapModel" ({ cls := "TitheHeapModel", name := "way", desc := "(II)I" } : Jvm.MethodName) ({ cls := "TitheHeapModel", name := "way", desc := "(II)I" } : Jvm.MethodName)) ∈ lw_tbl := tlw_7 (List.mem_of_getElem? (i := 205) (by decide +kernel))
theorem lx_7_207 : (Jvm.Cond.methodLink "TitheHeapLaw" (107 : Nat) ({ cls := "TitheHeapModel", name := "rows", desc := "(II)J" } : Jvm.MethodName)) ∈ lw_tbl := tlw_7 (List.mem_of_getElem? (i := 207) (by decide +kernel))
theorem lx_7_208 : (Jvm.Cond.instanceMethod ({ cls := "TitheHeapModel", name := "rows", desc := "(II)J" } : Jvm.MethodName)) ∈ lw_tbl := tlw_7 (List.mem_of_getElem? (i := 208) (by decide +kernel))
theorem lx_7_209 : (Jvm.Cond.selects "TitheHeapModel" ({ cls := "TitheHeapModel", name := "rows", desc := "(II)J" } : Jvm.MethodName) ({ cls := "TitheHeapModel", name := "rows", desc := "(II)J" } : Jvm.MethodName)) ∈ lw_tbl := tlw_7 (List.mem_of_getElem? (i := 209) (by decide +kernel))
theorem lx_7_220 : (Jvm.Cond.methodLink "TitheHeapLaw" (111 : Nat) ({ cls := "TitheHeapModel", name := "keeps", desc := "(I)I" } : Jvm.MethodName)) ∈ lw_tbl := tlw_7 (List.mem_of_getElem? (i := 220) (by decide +kernel))
theorem lx_7_221 : (Jvm.Cond.instanceMethod ({ cls := "TitheHeapModel", name := "keeps", desc := "(I)I" } : Jvm.MethodName)) ∈ lw_tbl := tlw_7 (List.mem_of_getElem? (i := 221) (by decide +kernel))
theorem lx_7_222 : (Jvm.Cond.selects "TitheHeapModel" ({ cls := "TitheHeapModel", name := "keeps", desc := "(I)I" } : Jvm.MethodName) ({ cls := "TitheHeapModel", name := "keeps", desc := "(I)I" } : Jvm.MethodName)) ∈ lw_tbl := tlw_7 (List.mem_of_getElem? (i := 222) (by decide +kernel))
theorem lx_7_228 : (Jvm.Cond.methodLink "TitheHeapLaw" (116 : Nat) ({ cls := "TitheHeapModel", name := "stands", desc := "()I" } : Jvm.MethodName)) ∈ lw_tbl := tlw_7 (List.mem_of_getElem? (i := 228) (by decide +kernel))
theorem lx_7_229 : (Jvm.Cond.instanceMethod ({ cls := "TitheHeapModel", name := "stands", desc := "()I" } : Jvm.MethodName)) ∈ lw_tbl := tlw_7 (List.mem_of_getElem? (i := 229) (by decide +kernel))
theorem lx_7_230 : (Jvm.Cond.selects "TitheHeapModel" ({ cls := "TitheHeapModel", name := "stands", desc := "()I" } : Jvm.MethodName) ({ cls := "TitheHeapModel", name := "stands", desc := "()I" } : Jvm.MethodName)) ∈ lw_tbl := tlw_7 (List.mem_of_getElem? (i := 230) (by decide +kernel))
theorem lx_7_232 : (Jvm.Cond.methodLink "TitheHeapLaw" (120 : Nat) ({ cls := "TitheHeapModel", name := "number", desc := "(I)I" } : Jvm.MethodName)) ∈ lw_tbl := tlw_7 (List.mem_of_getElem? (i := 232) (by decide +kernel))
theorem lx_7_233 : (Jvm.Cond.instanceMethod ({ cls := "TitheHeapModel", name := "number", desc := "(I)I" } : Jvm.MethodName)) ∈ lw_tbl := tlw_7 (List.mem_of_getElem? (i := 233) (by decide +kernel))
theorem lx_7_234 : (Jvm.Cond.selects "TitheHeapModel" ({ cls := "TitheHeapModel", name := "number", desc := "(I)I" } : Jvm.MethodName) ({ cls := "TitheHeapModel", name := "number", desc := "(I)I" } : Jvm.MethodName)) ∈ lw_tbl := tlw_7 (List.mem_of_getElem? (i := 234) (by decide +kernel))
theorem lx_7_236 : (Jvm.Cond.methodLink "TitheHeapLaw" (124 : Nat) ({ cls := "TitheHeapModel", name := "bounded", desc := "(II)I" } : Jvm.MethodName)) ∈ lw_tbl := tlw_7 (List.mem_of_getElem? (i := 236) (by decide +kernel))
theorem lx_7_237 : (Jvm.Cond.instanceMethod ({ cls := "TitheHeapModel", name := "bounded", desc := "(II)I" } : Jvm.MethodName)) ∈ lw_tbl := tlw_7 (List.mem_of_getElem? (i := 237) (by decide +kernel))
theorem lx_7_238 : (Jvm.Cond.selects "TitheHeapModel" ({ cls := "TitheHeapModel", name := "bounded", desc := "(II)I" } : Jvm.MethodName) ({ cls := "TitheHeapModel", name := "bounded", desc := "(II)I" } : Jvm.MethodName)) ∈ lw_tbl := tlw_7 (List.mem_of_getElem? (i := 238) (by decide +kernel))
theorem lx_7_26 : (Jvm.Cond.methodLink "TitheHeapLaw" (43 : Nat) ({ cls := "TitheHeapModel", name := "moon", desc := "(I)I" } : Jvm.MethodName)) ∈ lw_tbl := tlw_7 (List.mem_of_getElem? (i := 26) (by decide +kernel))
theorem lx_7_27 : (Jvm.Cond.instanceMethod ({ cls := "TitheHeapModel", name := "moon", desc := "(I)I" } : Jvm.MethodName)) ∈ lw_tbl := tlw_7 (List.mem_of_getElem? (i := 27) (by decide +kernel))
theorem lx_7_28 : (Jvm.Cond.selects "TitheHeapModel" ({ cls := "TitheHeapModel", name := "moon", desc := "(I)I" } : Jvm.MethodName) ({ cls := "TitheHeapModel", name := "moon", desc := "(I)I" } : Jvm.MethodName)) ∈ lw_tbl := tlw_7 (List.mem_of_getElem? (i := 28) (by decide +kernel))
theorem lx_7_4 : (Jvm.Cond.methodLink "TitheHeapLaw" (39 : Nat) ({ cls := "TitheHeapModel", name := "by", desc := "(II)I" } : Jvm.MethodName)) ∈ lw_tbl := tlw_7 (List.mem_of_getElem? (i := 4) (by decide +kernel))
theorem lx_7_42 : (Jvm.Cond.methodLink "TitheHeapLaw" (47 : Nat) ({ cls := "TitheHeapModel", name := "moons", desc := "(I)I" } : Jvm.MethodName)) ∈ lw_tbl := tlw_7 (List.mem_of_getElem? (i := 42) (by decide +kernel))
theorem lx_7_43 : (Jvm.Cond.instanceMethod ({ cls := "TitheHeapModel", name := "moons", desc := "(I)I" } : Jvm.MethodName)) ∈ lw_tbl := tlw_7 (List.mem_of_getElem? (i := 43) (by decide +kernel))
theorem lx_7_44 : (Jvm.Cond.selects "TitheHeapModel" ({ cls := "TitheHeapModel", name := "moons", desc := "(I)I" } : Jvm.MethodName) ({ cls := "TitheHeapModel", name := "moons", desc := "(I)I" } : Jvm.MethodName)) ∈ lw_tbl := tlw_7 (List.mem_of_getElem? (i := 44) (by decide +kernel))
theorem lx_7_47 : (Jvm.Cond.methodLink "TitheHeapLaw" (51 : Nat) ({ cls := "TitheHeapModel", name := "split", desc := "(II)I" } : Jvm.MethodName)) ∈ lw_tbl := tlw_7 (List.mem_of_getElem? (i := 47) (by decide +kernel))
theorem lx_7_48 : (Jvm.Cond.instanceMethod ({ cls := "TitheHeapModel", name := "split", desc := "(II)I" } : Jvm.MethodName)) ∈ lw_tbl := tlw_7 (List.mem_of_getElem? (i := 48) (by decide +kernel))
theorem lx_7_49 : (Jvm.Cond.selects "TitheHeapModel" ({ cls := "TitheHeapModel", name := "split", desc := "(II)I" } : Jvm.MethodName) ({ cls := "TitheHeapModel", name := "split", desc := "(II)I" } : Jvm.MethodName)) ∈ lw_tbl := tlw_7 (List.mem_of_getElem? (i := 49) (by decide +kernel))
theorem lx_7_5 : (Jvm.Cond.instanceMethod ({ cls := "TitheHeapModel", name := "by", desc := "(II)I" } : Jvm.MethodName)) ∈ lw_tbl := tlw_7 (List.mem_of_getElem? (i := 5) (by decide +kernel))
theorem lx_7_6 : (Jvm.Cond.selects "TitheHeapModel" ({ cls := "TitheHeapModel", name := "by", desc := "(II)I" } : Jvm.MethodName) ({ cls := "TitheHeapModel", name := "by", desc := "(II)I" } : Jvm.MethodName)) ∈ lw_tbl := tlw_7 (List.mem_of_getElem? (i := 6) (by decide +kernel))
theorem lx_7_66 : (Jvm.Cond.methodLink "TitheHeapLaw" (55 : Nat) ({ cls := "TitheHeapModel", name := "join", desc := "(II)I" } : Jvm.MethodName)) ∈ lw_tbl := tlw_7 (List.mem_of_getElem? (i := 66) (by decide +kernel))
theorem lx_7_67 : (Jvm.Cond.instanceMethod ({ cls := "TitheHeapModel", name := "join", desc := "(II)I" } : Jvm.MethodName)) ∈ lw_tbl := tlw_7 (List.mem_of_getElem? (i := 67) (by decide +kernel))
theorem lx_7_68 : (Jvm.Cond.selects "TitheHeapModel" ({ cls := "TitheHeapModel", name := "join", desc := "(II)I" } : Jvm.MethodName) ({ cls := "TitheHeapModel", name := "join", desc := "(II)I" } : Jvm.MethodName)) ∈ lw_tbl := tlw_7 (List.mem_of_getElem? (i := 68) (by decide +kernel))
theorem lx_7_78 : (Jvm.Cond.methodLink "TitheHeapLaw" (59 : Nat) ({ cls := "TitheHeapModel", name := "season", desc := "(I)I" } : Jvm.MethodName)) ∈ lw_tbl := tlw_7 (List.mem_of_getElem? (i := 78) (by decide +kernel))
theorem lx_7_79 : (Jvm.Cond.instanceMethod ({ cls := "TitheHeapModel", name := "season", desc := "(I)I" } : Jvm.MethodName)) ∈ lw_tbl := tlw_7 (List.mem_of_getElem? (i := 79) (by decide +kernel))
theorem lx_7_80 : (Jvm.Cond.selects "TitheHeapModel" ({ cls := "TitheHeapModel", name := "season", desc := "(I)I" } : Jvm.MethodName) ({ cls := "TitheHeapModel", name := "season", desc := "(I)I" } : Jvm.MethodName)) ∈ lw_tbl := tlw_7 (List.mem_of_getElem? (i := 80) (by decide +kernel))
theorem lx_7_83 : (Jvm.Cond.methodLink "TitheHeapLaw" (63 : Nat) ({ cls := "TitheHeapModel", name := "undo", desc := "(I)I" } : Jvm.MethodName)) ∈ lw_tbl := tlw_7 (List.mem_of_getElem? (i := 83) (by decide +kernel))
theorem lx_7_84 : (Jvm.Cond.instanceMethod ({ cls := "TitheHeapModel", name := "undo", desc := "(I)I" } : Jvm.MethodName)) ∈ lw_tbl := tlw_7 (List.mem_of_getElem? (i := 84) (by decide +kernel))
theorem lx_7_85 : (Jvm.Cond.selects "TitheHeapModel" ({ cls := "TitheHeapModel", name := "undo", desc := "(I)I" } : Jvm.MethodName) ({ cls := "TitheHeapModel", name := "undo", desc := "(I)I" } : Jvm.MethodName)) ∈ lw_tbl := tlw_7 (List.mem_of_getElem? (i := 85) (by decide +kernel))
theorem lx_7_88 : (Jvm.Cond.methodLink "TitheHeapLaw" (67 : Nat) ({ cls := "TitheHeapModel", name := "judge", desc := "(II)I" } : Jvm.MethodName)) ∈ lw_tbl := tlw_7 (List.mem_of_getElem? (i := 88) (by decide +kernel))
theorem lx_7_89 : (Jvm.Cond.instanceMethod ({ cls := "TitheHeapModel", name := "judge", desc := "(II)I" } : Jvm.MethodName)) ∈ lw_tbl := tlw_7 (List.mem_of_getElem? (i := 89) (by decide +kernel))
theorem lx_7_90 : (Jvm.Cond.selects "TitheHeapModel" ({ cls := "TitheHeapModel", name := "judge", desc := "(II)I" } : Jvm.MethodName) ({ cls := "TitheHeapModel", name := "judge", desc := "(II)I" } : Jvm.MethodName)) ∈ lw_tbl := tlw_7 (List.mem_of_getElem? (i := 90) (by decide +kernel))
theorem lx_8_0 : (Jvm.Cond.methodLink "TitheHeapLaw" (128 : Nat) ({ cls := "TitheHeapModel", name := "side", desc := "()I" } : Jvm.MethodName)) ∈ lw_tbl := tlw_8 (List.mem_of_getElem? (i := 0) (by decide +kernel))
theorem lx_8_1 : (Jvm.Cond.instanceMethod ({ cls := "TitheHeapModel", name := "side", desc := "()I" } : Jvm.MethodName)) ∈ lw_tbl := tlw_8 (List.mem_of_getElem? (i := 1) (by decide +kernel))
theorem lx_8_103 : (Jvm.Cond.methodLink "TitheHeapLaw" (178 : Nat) ({ cls := "TitheHeapModel", name := "mean", desc := "(II)I" } : Jvm.MethodName)) ∈ lw_tbl := tlw_8 (List.mem_of_getElem? (i := 103) (by decide +kernel))
theorem lx_8_104 : (Jvm.Cond.instanceMethod ({ cls := "TitheHeapModel", name := "mean", desc := "(II)I" } : Jvm.MethodName)) ∈ lw_tbl := tlw_8 (List.mem_of_getElem? (i := 104) (by decide +kernel))
theorem lx_8_105 : (Jvm.Cond.selects "TitheHeapModel" ({ cls := "TitheHeapModel", name := "mean", desc := "(II)I" } : Jvm.MethodName) ({ cls := "TitheHeapModel", name := "mean", desc := "(II)I" } : Jvm.MethodName)) ∈ lw_tbl := tlw_8 (List.mem_of_getElem? (i := 105) (by decide +kernel))
theorem lx_8_107 : (Jvm.Cond.methodLink "TitheHeapLaw" (182 : Nat) ({ cls := "TitheHeapModel", name := "numbers", desc := "(III)I" } : Jvm.MethodName)) ∈ lw_tbl := tlw_8 (List.mem_of_getElem? (i := 107) (by decide +kernel))
theorem lx_8_108 : (Jvm.Cond.instanceMethod ({ cls := "TitheHeapModel", name := "numbers", desc := "(III)I" } : Jvm.MethodName)) ∈ lw_tbl := tlw_8 (List.mem_of_getElem? (i := 108) (by decide +kernel))
theorem lx_8_109 : (Jvm.Cond.selects "TitheHeapModel" ({ cls := "TitheHeapModel", name := "numbers", desc := "(III)I" } : Jvm.MethodName) ({ cls := "TitheHeapModel", name := "numbers", desc := "(III)I" } : Jvm.MethodName)) ∈ lw_tbl := tlw_8 (List.mem_of_getElem? (i := 109) (by decide +kernel))
theorem lx_8_111 : (Jvm.Cond.methodLink "TitheHeapLaw" (187 : Nat) ({ cls := "TitheHeapModel", name := "write", desc := "(IIJ)J" } : Jvm.MethodName)) ∈ lw_tbl := tlw_8 (List.mem_of_getElem? (i := 111) (by decide +kernel))
theorem lx_8_112 : (Jvm.Cond.instanceMethod ({ cls := "TitheHeapModel", name := "write", desc := "(IIJ)J" } : Jvm.MethodName)) ∈ lw_tbl := tlw_8 (List.mem_of_getElem? (i := 112) (by decide +kernel))
theorem lx_8_113 : (Jvm.Cond.selects "TitheHeapModel" ({ cls := "TitheHeapModel", name := "write", desc := "(IIJ)J" } : Jvm.MethodName) ({ cls := "TitheHeapModel", name := "write", desc := "(IIJ)J" } : Jvm.MethodName)) ∈ lw_tbl := tlw_8 (List.mem_of_getElem? (i := 113) (by decide +kernel))
theorem lx_8_119 : (Jvm.Cond.methodLink "TitheHeapLaw" (191 : Nat) ({ cls := "TitheHeapModel", name := "lists", desc := "(II)I" } : Jvm.MethodName)) ∈ lw_tbl := tlw_8 (List.mem_of_getElem? (i := 119) (by decide +kernel))
theorem lx_8_12 : (Jvm.Cond.methodLink "TitheHeapLaw" (136 : Nat) ({ cls := "TitheHeapModel", name := "below", desc := "()I" } : Jvm.MethodName)) ∈ lw_tbl := tlw_8 (List.mem_of_getElem? (i := 12) (by decide +kernel))
theorem lx_8_120 : (Jvm.Cond.instanceMethod ({ cls := "TitheHeapModel", name := "lists", desc := "(II)I" } : Jvm.MethodName)) ∈ lw_tbl := tlw_8 (List.mem_of_getElem? (i := 120) (by decide +kernel))
theorem lx_8_121 : (Jvm.Cond.selects "TitheHeapModel" ({ cls := "TitheHeapModel", name := "lists", desc := "(II)I" } : Jvm.MethodName) ({ cls := "TitheHeapModel", name := "lists", desc := "(II)I" } : Jvm.MethodName)) ∈ lw_tbl := tlw_8 (List.mem_of_getElem? (i := 121) (by decide +kernel))
theorem lx_8_123 : (Jvm.Cond.methodLink "TitheHeapLaw" (195 : Nat) ({ cls := "TitheHeapModel", name := "image", desc := "(I)I" } : Jvm.MethodName)) ∈ lw_tbl := tlw_8 (List.mem_of_getElem? (i := 123) (by decide +kernel))
theorem lx_8_124 : (Jvm.Cond.instanceMethod ({ cls := "TitheHeapModel", name := "image", desc := "(I)I" } : Jvm.MethodName)) ∈ lw_tbl := tlw_8 (List.mem_of_getElem? (i := 124) (by decide +kernel))
theorem lx_8_125 : (Jvm.Cond.selects "TitheHeapModel" ({ cls := "TitheHeapModel", name := "image", desc := "(I)I" } : Jvm.MethodName) ({ cls := "TitheHeapModel", name := "image", desc := "(I)I" } : Jvm.MethodName)) ∈ lw_tbl := tlw_8 (List.mem_of_getElem? (i := 125) (by decide +kernel))
theorem lx_8_127 : (Jvm.Cond.methodLink "TitheHeapLaw" (199 : Nat) ({ cls := "TitheHeapModel", name := "restore", desc := "(I)I" } : Jvm.MethodName)) ∈ lw_tbl := tlw_8 (List.mem_of_getElem? (i := 127) (by decide +kernel))
theorem lx_8_128 : (Jvm.Cond.instanceMethod ({ cls := "TitheHeapModel", name := "restore", desc := "(I)I" } : Jvm.MethodName)) ∈ lw_tbl := tlw_8 (List.mem_of_getElem? (i := 128) (by decide +kernel))
theorem lx_8_129 : (Jvm.Cond.selects "TitheHeapModel" ({ cls := "TitheHeapModel", name := "restore", desc := "(I)I" } : Jvm.MethodName) ({ cls := "TitheHeapModel", name := "restore", desc := "(I)I" } : Jvm.MethodName)) ∈ lw_tbl := tlw_8 (List.mem_of_getElem? (i := 129) (by decide +kernel))
theorem lx_8_13 : (Jvm.Cond.instanceMethod ({ cls := "TitheHeapModel", name := "below", desc := "()I" } : Jvm.MethodName)) ∈ lw_tbl := tlw_8 (List.mem_of_getElem? (i := 13) (by decide +kernel))
theorem lx_8_131 : (Jvm.Cond.methodLink "TitheHeapLaw" (203 : Nat) ({ cls := "TitheHeapModel", name := "count", desc := "(I)I" } : Jvm.MethodName)) ∈ lw_tbl := tlw_8 (List.mem_of_getElem? (i := 131) (by decide +kernel))
theorem lx_8_132 : (Jvm.Cond.instanceMethod ({ cls := "TitheHeapModel", name := "count", desc := "(I)I" } : Jvm.MethodName)) ∈ lw_tbl := tlw_8 (List.mem_of_getElem? (i := 132) (by decide +kernel))
theorem lx_8_133 : (Jvm.Cond.selects "TitheHeapModel" ({ cls := "TitheHeapModel", name := "count", desc := "(I)I" } : Jvm.MethodName) ({ cls := "TitheHeapModel", name := "count", desc := "(I)I" } : Jvm.MethodName)) ∈ lw_tbl := tlw_8 (List.mem_of_getElem? (i := 133) (by decide +kernel))
theorem lx_8_135 : (Jvm.Cond.constantLong "TitheHeapLaw" (76 : Nat) (4294967295 : Int64)) ∈ lw_tbl := tlw_8 (List.mem_of_getElem? (i := 135) (by decide +kernel))
theorem lx_8_14 : (Jvm.Cond.selects "TitheHeapModel" ({ cls := "TitheHeapModel", name := "below", desc := "()I" } : Jvm.MethodName) ({ cls := "TitheHeapModel", name := "below", desc := "()I" } : Jvm.MethodName)) ∈ lw_tbl := tlw_8 (List.mem_of_getElem? (i := 14) (by decide +kernel))
theorem lx_8_16 : (Jvm.Cond.methodLink "TitheHeapLaw" (141 : Nat) ({ cls := "TitheHeapModel", name := "counted", desc := "(I)J" } : Jvm.MethodName)) ∈ lw_tbl := tlw_8 (List.mem_of_getElem? (i := 16) (by decide +kernel))
theorem lx_8_17 : (Jvm.Cond.instanceMethod ({ cls := "TitheHeapModel", name := "counted", desc := "(I)J" } : Jvm.MethodName)) ∈ lw_tbl := tlw_8 (List.mem_of_getElem? (i := 17) (by decide +kernel))
theorem lx_8_18 : (Jvm.Cond.selects "TitheHeapModel" ({ cls := "TitheHeapModel", name := "counted", desc := "(I)J" } : Jvm.MethodName) ({ cls := "TitheHeapModel", name := "counted", desc := "(I)J" } : Jvm.MethodName)) ∈ lw_tbl := tlw_8 (List.mem_of_getElem? (i := 18) (by decide +kernel))
theorem lx_8_2 : (Jvm.Cond.selects "TitheHeapModel" ({ cls := "TitheHeapModel", name := "side", desc := "()I" } : Jvm.MethodName) ({ cls := "TitheHeapModel", name := "side", desc := "()I" } : Jvm.MethodName)) ∈ lw_tbl := tlw_8 (List.mem_of_getElem? (i := 2) (by decide +kernel))
theorem lx_8_34 : (Jvm.Cond.methodLink "TitheHeapLaw" (145 : Nat) ({ cls := "TitheHeapModel", name := "countedBy", desc := "(II)I" } : Jvm.MethodName)) ∈ lw_tbl := tlw_8 (List.mem_of_getElem? (i := 34) (by decide +kernel))
theorem lx_8_35 : (Jvm.Cond.instanceMethod ({ cls := "TitheHeapModel", name := "countedBy", desc := "(II)I" } : Jvm.MethodName)) ∈ lw_tbl := tlw_8 (List.mem_of_getElem? (i := 35) (by decide +kernel))
theorem lx_8_36 : (Jvm.Cond.selects "TitheHeapModel" ({ cls := "TitheHeapModel", name := "countedBy", desc := "(II)I" } : Jvm.MethodName) ({ cls := "TitheHeapModel", name := "countedBy", desc := "(II)I" } : Jvm.MethodName)) ∈ lw_tbl := tlw_8 (List.mem_of_getElem? (i := 36) (by decide +kernel))
theorem lx_8_38 : (Jvm.Cond.methodLink "TitheHeapLaw" (149 : Nat) ({ cls := "TitheHeapModel", name := "spared", desc := "(II)I" } : Jvm.MethodName)) ∈ lw_tbl := tlw_8 (List.mem_of_getElem? (i := 38) (by decide +kernel))
theorem lx_8_39 : (Jvm.Cond.instanceMethod ({ cls := "TitheHeapModel", name := "spared", desc := "(II)I" } : Jvm.MethodName)) ∈ lw_tbl := tlw_8 (List.mem_of_getElem? (i := 39) (by decide +kernel))
theorem lx_8_4 : (Jvm.Cond.methodLink "TitheHeapLaw" (132 : Nat) ({ cls := "TitheHeapModel", name := "under", desc := "(I)I" } : Jvm.MethodName)) ∈ lw_tbl := tlw_8 (List.mem_of_getElem? (i := 4) (by decide +kernel))
theorem lx_8_40 : (Jvm.Cond.selects "TitheHeapModel" ({ cls := "TitheHeapModel", name := "spared", desc := "(II)I" } : Jvm.MethodName) ({ cls := "TitheHeapModel", name := "spared", desc := "(II)I" } : Jvm.MethodName)) ∈ lw_tbl := tlw_8 (List.mem_of_getElem? (i := 40) (by decide +kernel))
theorem lx_8_42 : (Jvm.Cond.methodLink "TitheHeapLaw" (153 : Nat) ({ cls := "TitheHeapModel", name := "seasons", desc := "(I)I" } : Jvm.MethodName)) ∈ lw_tbl := tlw_8 (List.mem_of_getElem? (i := 42) (by decide +kernel))
theorem lx_8_43 : (Jvm.Cond.instanceMethod ({ cls := "TitheHeapModel", name := "seasons", desc := "(I)I" } : Jvm.MethodName)) ∈ lw_tbl := tlw_8 (List.mem_of_getElem? (i := 43) (by decide +kernel))
theorem lx_8_44 : (Jvm.Cond.selects "TitheHeapModel" ({ cls := "TitheHeapModel", name := "seasons", desc := "(I)I" } : Jvm.MethodName) ({ cls := "TitheHeapModel", name := "seasons", desc := "(I)I" } : Jvm.MethodName)) ∈ lw_tbl := tlw_8 (List.mem_of_getElem? (i := 44) (by decide +kernel))
theorem lx_8_5 : (Jvm.Cond.instanceMethod ({ cls := "TitheHeapModel", name := "under", desc := "(I)I" } : Jvm.MethodName)) ∈ lw_tbl := tlw_8 (List.mem_of_getElem? (i := 5) (by decide +kernel))
theorem lx_8_50 : (Jvm.Cond.methodLink "TitheHeapLaw" (157 : Nat) ({ cls := "TitheHeapModel", name := "attempt", desc := "(I)I" } : Jvm.MethodName)) ∈ lw_tbl := tlw_8 (List.mem_of_getElem? (i := 50) (by decide +kernel))
theorem lx_8_51 : (Jvm.Cond.instanceMethod ({ cls := "TitheHeapModel", name := "attempt", desc := "(I)I" } : Jvm.MethodName)) ∈ lw_tbl := tlw_8 (List.mem_of_getElem? (i := 51) (by decide +kernel))
theorem lx_8_52 : (Jvm.Cond.selects "TitheHeapModel" ({ cls := "TitheHeapModel", name := "attempt", desc := "(I)I" } : Jvm.MethodName) ({ cls := "TitheHeapModel", name := "attempt", desc := "(I)I" } : Jvm.MethodName)) ∈ lw_tbl := tlw_8 (List.mem_of_getElem? (i := 52) (by decide +kernel))
theorem lx_8_6 : (Jvm.Cond.selects "TitheHeapModel" ({ cls := "TitheHeapModel", name := "under", desc := "(I)I" } : Jvm.MethodName) ({ cls := "TitheHeapModel", name := "under", desc := "(I)I" } : Jvm.MethodName)) ∈ lw_tbl := tlw_8 (List.mem_of_getElem? (i := 6) (by decide +kernel))
theorem lx_8_61 : (Jvm.Cond.methodLink "TitheHeapLaw" (161 : Nat) ({ cls := "TitheHeapModel", name := "forces", desc := "(I)I" } : Jvm.MethodName)) ∈ lw_tbl := tlw_8 (List.mem_of_getElem? (i := 61) (by decide +kernel))
theorem lx_8_62 : (Jvm.Cond.instanceMethod ({ cls := "TitheHeapModel", name := "forces", desc := "(I)I" } : Jvm.MethodName)) ∈ lw_tbl := tlw_8 (List.mem_of_getElem? (i := 62) (by decide +kernel))
theorem lx_8_63 : (Jvm.Cond.selects "TitheHeapModel" ({ cls := "TitheHeapModel", name := "forces", desc := "(I)I" } : Jvm.MethodName) ({ cls := "TitheHeapModel", name := "forces", desc := "(I)I" } : Jvm.MethodName)) ∈ lw_tbl := tlw_8 (List.mem_of_getElem? (i := 63) (by decide +kernel))
theorem lx_8_77 : (Jvm.Cond.methodLink "TitheHeapLaw" (165 : Nat) ({ cls := "TitheHeapModel", name := "best", desc := "(I)I" } : Jvm.MethodName)) ∈ lw_tbl := tlw_8 (List.mem_of_getElem? (i := 77) (by decide +kernel))
theorem lx_8_78 : (Jvm.Cond.instanceMethod ({ cls := "TitheHeapModel", name := "best", desc := "(I)I" } : Jvm.MethodName)) ∈ lw_tbl := tlw_8 (List.mem_of_getElem? (i := 78) (by decide +kernel))
theorem lx_8_79 : (Jvm.Cond.selects "TitheHeapModel" ({ cls := "TitheHeapModel", name := "best", desc := "(I)I" } : Jvm.MethodName) ({ cls := "TitheHeapModel", name := "best", desc := "(I)I" } : Jvm.MethodName)) ∈ lw_tbl := tlw_8 (List.mem_of_getElem? (i := 79) (by decide +kernel))
theorem lx_8_81 : (Jvm.Cond.methodLink "TitheHeapLaw" (169 : Nat) ({ cls := "TitheHeapModel", name := "takes", desc := "(I)I" } : Jvm.MethodName)) ∈ lw_tbl := tlw_8 (List.mem_of_getElem? (i := 81) (by decide +kernel))
theorem lx_8_82 : (Jvm.Cond.instanceMethod ({ cls := "TitheHeapModel", name := "takes", desc := "(I)I" } : Jvm.MethodName)) ∈ lw_tbl := tlw_8 (List.mem_of_getElem? (i := 82) (by decide +kernel))
theorem lx_8_83 : (Jvm.Cond.selects "TitheHeapModel" ({ cls := "TitheHeapModel", name := "takes", desc := "(I)I" } : Jvm.MethodName) ({ cls := "TitheHeapModel", name := "takes", desc := "(I)I" } : Jvm.MethodName)) ∈ lw_tbl := tlw_8 (List.mem_of_getElem? (i := 83) (by decide +kernel))
theorem lx_8_85 : (Jvm.Cond.methodLink "TitheHeapLaw" (174 : Nat) ({ cls := "TitheHeapModel", name := "chance", desc := "(III)I" } : Jvm.MethodName)) ∈ lw_tbl := tlw_8 (List.mem_of_getElem? (i := 85) (by decide +kernel))
theorem lx_8_86 : (Jvm.Cond.instanceMethod ({ cls := "TitheHeapModel", name := "chance", desc := "(III)I" } : Jvm.MethodName)) ∈ lw_tbl := tlw_8 (List.mem_of_getElem? (i := 86) (by decide +kernel))
theorem lx_8_87 : (Jvm.Cond.selects "TitheHeapModel" ({ cls := "TitheHeapModel", name := "chance", desc := "(III)I" } : Jvm.MethodName) ({ cls := "TitheHeapModel", name := "chance", desc := "(III)I" } : Jvm.MethodName)) ∈ lw_tbl := tlw_8 (List.mem_of_getElem? (i := 87) (by decide +kernel))
