theorem d_Law_260 : decode code 260 = .ok (.iadd, 1) := by decide +kernel
theorem d_Law_261 : decode code 261 = .ok (.iaload, 1) := by decide +kernel
theorem d_Law_262 : decode code 262 = .ok (.aload_n 0, 1) := by decide +kernel
theorem d_Law_263 : decode code 263 = .ok (.iload_n 3, 1) := by decide +kernel
theorem d_Law_264 : decode code 264 = .ok (.iconst 2, 1) := by decide +kernel
theorem d_Law_265 : decode code 265 = .ok (.iadd, 1) := by decide +kernel
theorem d_Law_266 : decode code 266 = .ok (.iaload, 1) := by decide +kernel
theorem d_Law_267 : decode code 267 = .ok (.invokevirtual 35, 3) := by decide +kernel
theorem d_Law_270 : decode code 270 = .ok (.if_icmp .eq 470, 3) := by decide +kernel
theorem d_Law_273 : decode code 273 = .ok (.iconst 0, 1) := by decide +kernel
theorem d_Law_274 : decode code 274 = .ok (.ireturn, 1) := by decide +kernel
theorem d_Law_275 : decode code 275 = .ok (.aload_n 1, 1) := by decide +kernel
theorem d_Law_276 : decode code 276 = .ok (.aload_n 0, 1) := by decide +kernel
theorem d_Law_277 : decode code 277 = .ok (.iload_n 3, 1) := by decide +kernel
theorem d_Law_278 : decode code 278 = .ok (.iconst 1, 1) := by decide +kernel
theorem d_Law_279 : decode code 279 = .ok (.iadd, 1) := by decide +kernel
theorem d_Law_280 : decode code 280 = .ok (.iaload, 1) := by decide +kernel
theorem d_Law_281 : decode code 281 = .ok (.aload_n 0, 1) := by decide +kernel
theorem d_Law_282 : decode code 282 = .ok (.iload_n 3, 1) := by decide +kernel
theorem d_Law_283 : decode code 283 = .ok (.iconst 2, 1) := by decide +kernel
theorem d_Law_284 : decode code 284 = .ok (.iadd, 1) := by decide +kernel
theorem d_Law_285 : decode code 285 = .ok (.iaload, 1) := by decide +kernel
theorem d_Law_286 : decode code 286 = .ok (.aload_n 0, 1) := by decide +kernel
theorem d_Law_287 : decode code 287 = .ok (.iload_n 3, 1) := by decide +kernel
theorem d_Law_288 : decode code 288 = .ok (.iconst 3, 1) := by decide +kernel
theorem d_Law_289 : decode code 289 = .ok (.iadd, 1) := by decide +kernel
theorem d_Law_290 : decode code 290 = .ok (.iaload, 1) := by decide +kernel
theorem d_Law_291 : decode code 291 = .ok (.invokevirtual 36, 3) := by decide +kernel
theorem d_Law_294 : decode code 294 = .ok (.aload_n 2, 1) := by decide +kernel
theorem d_Law_295 : decode code 295 = .ok (.aload_n 0, 1) := by decide +kernel
theorem d_Law_296 : decode code 296 = .ok (.iload_n 3, 1) := by decide +kernel
theorem d_Law_297 : decode code 297 = .ok (.iconst 1, 1) := by decide +kernel
theorem d_Law_298 : decode code 298 = .ok (.iadd, 1) := by decide +kernel
theorem d_Law_299 : decode code 299 = .ok (.iaload, 1) := by decide +kernel
theorem d_Law_300 : decode code 300 = .ok (.aload_n 0, 1) := by decide +kernel
theorem d_Law_301 : decode code 301 = .ok (.iload_n 3, 1) := by decide +kernel
theorem d_Law_302 : decode code 302 = .ok (.iconst 2, 1) := by decide +kernel
theorem d_Law_303 : decode code 303 = .ok (.iadd, 1) := by decide +kernel
theorem d_Law_304 : decode code 304 = .ok (.iaload, 1) := by decide +kernel
theorem d_Law_305 : decode code 305 = .ok (.aload_n 0, 1) := by decide +kernel
theorem d_Law_306 : decode code 306 = .ok (.iload_n 3, 1) := by decide +kernel
theorem d_Law_307 : decode code 307 = .ok (.iconst 3, 1) := by decide +kernel
theorem d_Law_308 : decode code 308 = .ok (.iadd, 1) := by decide +kernel
theorem d_Law_309 : decode code 309 = .ok (.iaload, 1) := by decide +kernel
theorem d_Law_310 : decode code 310 = .ok (.invokevirtual 40, 3) := by decide +kernel
theorem d_Law_313 : decode code 313 = .ok (.if_icmp .eq 427, 3) := by decide +kernel
theorem d_Law_316 : decode code 316 = .ok (.iconst 0, 1) := by decide +kernel
theorem d_Law_317 : decode code 317 = .ok (.ireturn, 1) := by decide +kernel
theorem d_Law_318 : decode code 318 = .ok (.aload_n 1, 1) := by decide +kernel
theorem d_Law_319 : decode code 319 = .ok (.aload_n 0, 1) := by decide +kernel
theorem d_Law_320 : decode code 320 = .ok (.iload_n 3, 1) := by decide +kernel
theorem d_Law_321 : decode code 321 = .ok (.iconst 1, 1) := by decide +kernel
theorem d_Law_322 : decode code 322 = .ok (.iadd, 1) := by decide +kernel
theorem d_Law_323 : decode code 323 = .ok (.iaload, 1) := by decide +kernel
theorem d_Law_324 : decode code 324 = .ok (.aload_n 0, 1) := by decide +kernel
theorem d_Law_325 : decode code 325 = .ok (.iload_n 3, 1) := by decide +kernel
theorem d_Law_326 : decode code 326 = .ok (.iconst 2, 1) := by decide +kernel
theorem d_Law_327 : decode code 327 = .ok (.iadd, 1) := by decide +kernel
theorem d_Law_328 : decode code 328 = .ok (.iaload, 1) := by decide +kernel
theorem d_Law_329 : decode code 329 = .ok (.invokevirtual 41, 3) := by decide +kernel
theorem d_Law_332 : decode code 332 = .ok (.aload_n 2, 1) := by decide +kernel
theorem d_Law_333 : decode code 333 = .ok (.aload_n 0, 1) := by decide +kernel
theorem d_Law_334 : decode code 334 = .ok (.iload_n 3, 1) := by decide +kernel
theorem d_Law_335 : decode code 335 = .ok (.iconst 1, 1) := by decide +kernel
theorem d_Law_336 : decode code 336 = .ok (.iadd, 1) := by decide +kernel
theorem d_Law_337 : decode code 337 = .ok (.iaload, 1) := by decide +kernel
theorem d_Law_338 : decode code 338 = .ok (.aload_n 0, 1) := by decide +kernel
theorem d_Law_339 : decode code 339 = .ok (.iload_n 3, 1) := by decide +kernel
theorem d_Law_340 : decode code 340 = .ok (.iconst 2, 1) := by decide +kernel
theorem d_Law_341 : decode code 341 = .ok (.iadd, 1) := by decide +kernel
theorem d_Law_342 : decode code 342 = .ok (.iaload, 1) := by decide +kernel
theorem d_Law_343 : decode code 343 = .ok (.invokevirtual 45, 3) := by decide +kernel
theorem d_Law_346 : decode code 346 = .ok (.lcmp, 1) := by decide +kernel
theorem d_Law_347 : decode code 347 = .ok (.ifCond .eq 393, 3) := by decide +kernel
theorem d_Law_350 : decode code 350 = .ok (.iconst 0, 1) := by decide +kernel
theorem d_Law_351 : decode code 351 = .ok (.ireturn, 1) := by decide +kernel
theorem d_Law_352 : decode code 352 = .ok (.aload_n 1, 1) := by decide +kernel
theorem d_Law_353 : decode code 353 = .ok (.aload_n 0, 1) := by decide +kernel
theorem d_Law_354 : decode code 354 = .ok (.iload_n 3, 1) := by decide +kernel
theorem d_Law_355 : decode code 355 = .ok (.iconst 1, 1) := by decide +kernel
theorem d_Law_356 : decode code 356 = .ok (.iadd, 1) := by decide +kernel
theorem d_Law_357 : decode code 357 = .ok (.iaload, 1) := by decide +kernel
theorem d_Law_358 : decode code 358 = .ok (.aload_n 0, 1) := by decide +kernel
theorem d_Law_359 : decode code 359 = .ok (.iload_n 3, 1) := by decide +kernel
theorem d_Law_360 : decode code 360 = .ok (.iconst 2, 1) := by decide +kernel
theorem d_Law_361 : decode code 361 = .ok (.iadd, 1) := by decide +kernel
theorem d_Law_362 : decode code 362 = .ok (.iaload, 1) := by decide +kernel
theorem d_Law_363 : decode code 363 = .ok (.aload_n 0, 1) := by decide +kernel
theorem d_Law_364 : decode code 364 = .ok (.iload_n 3, 1) := by decide +kernel
theorem d_Law_365 : decode code 365 = .ok (.iconst 3, 1) := by decide +kernel
theorem d_Law_366 : decode code 366 = .ok (.iadd, 1) := by decide +kernel
theorem d_Law_367 : decode code 367 = .ok (.iaload, 1) := by decide +kernel
theorem d_Law_368 : decode code 368 = .ok (.ifCond .eq 7, 3) := by decide +kernel
theorem d_Law_371 : decode code 371 = .ok (.iconst 1, 1) := by decide +kernel
theorem d_Law_372 : decode code 372 = .ok (.goto 4, 3) := by decide +kernel
theorem d_Law_375 : decode code 375 = .ok (.iconst 0, 1) := by decide +kernel
theorem d_Law_376 : decode code 376 = .ok (.aload_n 0, 1) := by decide +kernel
theorem d_Law_377 : decode code 377 = .ok (.iload_n 3, 1) := by decide +kernel
theorem d_Law_378 : decode code 378 = .ok (.iconst 4, 1) := by decide +kernel
theorem d_Law_379 : decode code 379 = .ok (.iadd, 1) := by decide +kernel
theorem d_Law_380 : decode code 380 = .ok (.iaload, 1) := by decide +kernel
theorem d_Law_381 : decode code 381 = .ok (.invokevirtual 46, 3) := by decide +kernel
theorem d_Law_384 : decode code 384 = .ok (.aload_n 2, 1) := by decide +kernel
theorem d_Law_385 : decode code 385 = .ok (.aload_n 0, 1) := by decide +kernel
theorem d_Law_386 : decode code 386 = .ok (.iload_n 3, 1) := by decide +kernel
theorem d_Law_387 : decode code 387 = .ok (.iconst 1, 1) := by decide +kernel
theorem d_Law_388 : decode code 388 = .ok (.iadd, 1) := by decide +kernel
theorem d_Law_389 : decode code 389 = .ok (.iaload, 1) := by decide +kernel
theorem d_Law_390 : decode code 390 = .ok (.aload_n 0, 1) := by decide +kernel
theorem d_Law_391 : decode code 391 = .ok (.iload_n 3, 1) := by decide +kernel
theorem d_Law_392 : decode code 392 = .ok (.iconst 2, 1) := by decide +kernel
theorem d_Law_393 : decode code 393 = .ok (.iadd, 1) := by decide +kernel
theorem d_Law_394 : decode code 394 = .ok (.iaload, 1) := by decide +kernel
theorem d_Law_395 : decode code 395 = .ok (.aload_n 0, 1) := by decide +kernel
theorem d_Law_396 : decode code 396 = .ok (.iload_n 3, 1) := by decide +kernel
theorem d_Law_397 : decode code 397 = .ok (.iconst 3, 1) := by decide +kernel
theorem d_Law_398 : decode code 398 = .ok (.iadd, 1) := by decide +kernel
theorem d_Law_399 : decode code 399 = .ok (.iaload, 1) := by decide +kernel
theorem d_Law_400 : decode code 400 = .ok (.ifCond .eq 7, 3) := by decide +kernel
theorem d_Law_403 : decode code 403 = .ok (.iconst 1, 1) := by decide +kernel
theorem d_Law_404 : decode code 404 = .ok (.goto 4, 3) := by decide +kernel
theorem d_Law_407 : decode code 407 = .ok (.iconst 0, 1) := by decide +kernel
theorem d_Law_408 : decode code 408 = .ok (.aload_n 0, 1) := by decide +kernel
theorem d_Law_409 : decode code 409 = .ok (.iload_n 3, 1) := by decide +kernel
theorem d_Law_410 : decode code 410 = .ok (.iconst 4, 1) := by decide +kernel
theorem d_Law_411 : decode code 411 = .ok (.iadd, 1) := by decide +kernel
theorem d_Law_412 : decode code 412 = .ok (.iaload, 1) := by decide +kernel
theorem d_Law_413 : decode code 413 = .ok (.invokevirtual 50, 3) := by decide +kernel
theorem d_Law_416 : decode code 416 = .ok (.if_icmp .eq 324, 3) := by decide +kernel
theorem d_Law_419 : decode code 419 = .ok (.iconst 0, 1) := by decide +kernel
theorem d_Law_420 : decode code 420 = .ok (.ireturn, 1) := by decide +kernel
theorem d_Law_421 : decode code 421 = .ok (.aload_n 1, 1) := by decide +kernel
theorem d_Law_422 : decode code 422 = .ok (.aload_n 0, 1) := by decide +kernel
theorem d_Law_423 : decode code 423 = .ok (.iload_n 3, 1) := by decide +kernel
theorem d_Law_424 : decode code 424 = .ok (.iconst 1, 1) := by decide +kernel
theorem d_Law_425 : decode code 425 = .ok (.iadd, 1) := by decide +kernel
theorem d_Law_426 : decode code 426 = .ok (.iaload, 1) := by decide +kernel
theorem d_Law_427 : decode code 427 = .ok (.aload_n 0, 1) := by decide +kernel
theorem d_Law_428 : decode code 428 = .ok (.iload_n 3, 1) := by decide +kernel
theorem d_Law_429 : decode code 429 = .ok (.iconst 2, 1) := by decide +kernel
theorem d_Law_430 : decode code 430 = .ok (.iadd, 1) := by decide +kernel
theorem d_Law_431 : decode code 431 = .ok (.iaload, 1) := by decide +kernel
theorem d_Law_432 : decode code 432 = .ok (.aload_n 0, 1) := by decide +kernel
theorem d_Law_433 : decode code 433 = .ok (.iload_n 3, 1) := by decide +kernel
theorem d_Law_434 : decode code 434 = .ok (.iconst 3, 1) := by decide +kernel
theorem d_Law_435 : decode code 435 = .ok (.iadd, 1) := by decide +kernel
theorem d_Law_436 : decode code 436 = .ok (.iaload, 1) := by decide +kernel
theorem d_Law_437 : decode code 437 = .ok (.invokevirtual 51, 3) := by decide +kernel
theorem d_Law_440 : decode code 440 = .ok (.aload_n 2, 1) := by decide +kernel
theorem d_Law_441 : decode code 441 = .ok (.aload_n 0, 1) := by decide +kernel
theorem d_Law_442 : decode code 442 = .ok (.iload_n 3, 1) := by decide +kernel
theorem d_Law_443 : decode code 443 = .ok (.iconst 1, 1) := by decide +kernel
theorem d_Law_444 : decode code 444 = .ok (.iadd, 1) := by decide +kernel
theorem d_Law_445 : decode code 445 = .ok (.iaload, 1) := by decide +kernel
theorem d_Law_446 : decode code 446 = .ok (.aload_n 0, 1) := by decide +kernel
theorem d_Law_447 : decode code 447 = .ok (.iload_n 3, 1) := by decide +kernel
theorem d_Law_448 : decode code 448 = .ok (.iconst 2, 1) := by decide +kernel
theorem d_Law_449 : decode code 449 = .ok (.iadd, 1) := by decide +kernel
theorem d_Law_450 : decode code 450 = .ok (.iaload, 1) := by decide +kernel
theorem d_Law_451 : decode code 451 = .ok (.aload_n 0, 1) := by decide +kernel
theorem d_Law_452 : decode code 452 = .ok (.iload_n 3, 1) := by decide +kernel
theorem d_Law_453 : decode code 453 = .ok (.iconst 3, 1) := by decide +kernel
theorem d_Law_454 : decode code 454 = .ok (.iadd, 1) := by decide +kernel
theorem d_Law_455 : decode code 455 = .ok (.iaload, 1) := by decide +kernel
theorem d_Law_456 : decode code 456 = .ok (.invokevirtual 54, 3) := by decide +kernel
theorem d_Law_459 : decode code 459 = .ok (.if_icmp .eq 281, 3) := by decide +kernel
theorem d_Law_462 : decode code 462 = .ok (.iconst 0, 1) := by decide +kernel
theorem d_Law_463 : decode code 463 = .ok (.ireturn, 1) := by decide +kernel
theorem d_Law_464 : decode code 464 = .ok (.aload_n 1, 1) := by decide +kernel
theorem d_Law_465 : decode code 465 = .ok (.aload_n 0, 1) := by decide +kernel
theorem d_Law_466 : decode code 466 = .ok (.iload_n 3, 1) := by decide +kernel
theorem d_Law_467 : decode code 467 = .ok (.iconst 1, 1) := by decide +kernel
theorem d_Law_468 : decode code 468 = .ok (.iadd, 1) := by decide +kernel
theorem d_Law_469 : decode code 469 = .ok (.iaload, 1) := by decide +kernel
theorem d_Law_470 : decode code 470 = .ok (.aload_n 0, 1) := by decide +kernel
theorem d_Law_471 : decode code 471 = .ok (.iload_n 3, 1) := by decide +kernel
theorem d_Law_472 : decode code 472 = .ok (.iconst 2, 1) := by decide +kernel
theorem d_Law_473 : decode code 473 = .ok (.iadd, 1) := by decide +kernel
theorem d_Law_474 : decode code 474 = .ok (.iaload, 1) := by decide +kernel
theorem d_Law_475 : decode code 475 = .ok (.aload_n 0, 1) := by decide +kernel
theorem d_Law_476 : decode code 476 = .ok (.iload_n 3, 1) := by decide +kernel
theorem d_Law_477 : decode code 477 = .ok (.iconst 3, 1) := by decide +kernel
theorem d_Law_478 : decode code 478 = .ok (.iadd, 1) := by decide +kernel
theorem d_Law_479 : decode code 479 = .ok (.iaload, 1) := by decide +kernel
theorem d_Law_480 : decode code 480 = .ok (.aload_n 0, 1) := by decide +kernel
theorem d_Law_481 : decode code 481 = .ok (.iload_n 3, 1) := by decide +kernel
theorem d_Law_482 : decode code 482 = .ok (.iconst 4, 1) := by decide +kernel
theorem d_Law_483 : decode code 483 = .ok (.iadd, 1) := by decide +kernel
theorem d_Law_484 : decode code 484 = .ok (.iaload, 1) := by decide +kernel
theorem d_Law_485 : decode code 485 = .ok (.i2l, 1) := by decide +kernel
theorem d_Law_486 : decode code 486 = .ok (.bipush 32, 2) := by decide +kernel
theorem d_Law_488 : decode code 488 = .ok (.lshl, 1) := by decide +kernel
theorem d_Law_489 : decode code 489 = .ok (.aload_n 0, 1) := by decide +kernel
theorem d_Law_490 : decode code 490 = .ok (.iload_n 3, 1) := by decide +kernel
theorem d_Law_491 : decode code 491 = .ok (.iconst 5, 1) := by decide +kernel
theorem d_Law_492 : decode code 492 = .ok (.iadd, 1) := by decide +kernel
theorem d_Law_493 : decode code 493 = .ok (.iaload, 1) := by decide +kernel
theorem d_Law_494 : decode code 494 = .ok (.i2l, 1) := by decide +kernel
theorem d_Law_495 : decode code 495 = .ok (.ldc2_w 55, 3) := by decide +kernel
theorem d_Law_498 : decode code 498 = .ok (.land, 1) := by decide +kernel
theorem d_Law_499 : decode code 499 = .ok (.lor, 1) := by decide +kernel
