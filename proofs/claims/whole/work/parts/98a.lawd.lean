theorem dL_law_0 : decode cL_law 0 = .ok ((.new 7), 3) := by decide +kernel
theorem dL_law_3 : decode cL_law 3 = .ok (.dup, 1) := by decide +kernel
theorem dL_law_4 : decode cL_law 4 = .ok ((.invokespecial 9), 3) := by decide +kernel
theorem dL_law_7 : decode cL_law 7 = .ok ((.astore_n 1), 1) := by decide +kernel
theorem dL_law_8 : decode cL_law 8 = .ok ((.new 10), 3) := by decide +kernel
theorem dL_law_11 : decode cL_law 11 = .ok (.dup, 1) := by decide +kernel
theorem dL_law_12 : decode cL_law 12 = .ok ((.invokespecial 12), 3) := by decide +kernel
theorem dL_law_15 : decode cL_law 15 = .ok ((.astore_n 2), 1) := by decide +kernel
theorem dL_law_16 : decode cL_law 16 = .ok ((.iconst 0), 1) := by decide +kernel
theorem dL_law_17 : decode cL_law 17 = .ok ((.istore_n 3), 1) := by decide +kernel
theorem dL_law_18 : decode cL_law 18 = .ok ((.iload_n 3), 1) := by decide +kernel
theorem dL_law_19 : decode cL_law 19 = .ok ((.aload_n 0), 1) := by decide +kernel
theorem dL_law_20 : decode cL_law 20 = .ok (.arraylength, 1) := by decide +kernel
theorem dL_law_21 : decode cL_law 21 = .ok ((.bipush 6), 2) := by decide +kernel
theorem dL_law_23 : decode cL_law 23 = .ok (.isub, 1) := by decide +kernel
theorem dL_law_24 : decode cL_law 24 = .ok ((.if_icmp .gt 1921), 3) := by decide +kernel
theorem dL_law_27 : decode cL_law 27 = .ok ((.aload_n 0), 1) := by decide +kernel
theorem dL_law_28 : decode cL_law 28 = .ok ((.iload_n 3), 1) := by decide +kernel
theorem dL_law_29 : decode cL_law 29 = .ok (.iaload, 1) := by decide +kernel
theorem dL_law_30 : decode cL_law 30 = .ok ((.bipush 63), 2) := by decide +kernel
theorem dL_law_32 : decode cL_law 32 = .ok (.iand, 1) := by decide +kernel
theorem dL_law_33 : decode cL_law 33 = .ok ((.tableswitch 1906 0 53 #[231, 244, 258, 272, 315, 388, 422, 485, 548, 571, 594, 617, 640, 673, 706, 729, 772, 815, 858, 901, 924, 957, 990, 1023, 1056, 1089, 1132, 1165, 1198, 1231, 1264, 1287, 1320, 1343, 1366, 1389, 1412, 1425, 1468, 1491, 1514, 1537, 1570, 1613, 1656, 1679, 1702, 1735, 1768, 1801, 1824, 1847, 1880, 1893]), 231) := by decide +kernel
theorem dL_law_264 : decode cL_law 264 = .ok ((.aload_n 1), 1) := by decide +kernel
theorem dL_law_265 : decode cL_law 265 = .ok ((.invokevirtual 13), 3) := by decide +kernel
theorem dL_law_268 : decode cL_law 268 = .ok ((.aload_n 2), 1) := by decide +kernel
theorem dL_law_269 : decode cL_law 269 = .ok ((.invokevirtual 17), 3) := by decide +kernel
theorem dL_law_272 : decode cL_law 272 = .ok ((.if_icmp .eq 1667), 3) := by decide +kernel
theorem dL_law_275 : decode cL_law 275 = .ok ((.iconst 0), 1) := by decide +kernel
theorem dL_law_276 : decode cL_law 276 = .ok (.ireturn, 1) := by decide +kernel
theorem dL_law_277 : decode cL_law 277 = .ok ((.aload_n 1), 1) := by decide +kernel
theorem dL_law_278 : decode cL_law 278 = .ok ((.invokevirtual 18), 3) := by decide +kernel
theorem dL_law_281 : decode cL_law 281 = .ok ((.aload_n 2), 1) := by decide +kernel
theorem dL_law_282 : decode cL_law 282 = .ok ((.invokevirtual 22), 3) := by decide +kernel
theorem dL_law_285 : decode cL_law 285 = .ok (.lcmp, 1) := by decide +kernel
theorem dL_law_286 : decode cL_law 286 = .ok ((.ifCond .eq 1653), 3) := by decide +kernel
theorem dL_law_289 : decode cL_law 289 = .ok ((.iconst 0), 1) := by decide +kernel
theorem dL_law_290 : decode cL_law 290 = .ok (.ireturn, 1) := by decide +kernel
theorem dL_law_291 : decode cL_law 291 = .ok ((.aload_n 1), 1) := by decide +kernel
theorem dL_law_292 : decode cL_law 292 = .ok ((.invokevirtual 23), 3) := by decide +kernel
theorem dL_law_295 : decode cL_law 295 = .ok ((.aload_n 2), 1) := by decide +kernel
theorem dL_law_296 : decode cL_law 296 = .ok ((.invokevirtual 26), 3) := by decide +kernel
theorem dL_law_299 : decode cL_law 299 = .ok (.lcmp, 1) := by decide +kernel
theorem dL_law_300 : decode cL_law 300 = .ok ((.ifCond .eq 1639), 3) := by decide +kernel
theorem dL_law_303 : decode cL_law 303 = .ok ((.iconst 0), 1) := by decide +kernel
theorem dL_law_304 : decode cL_law 304 = .ok (.ireturn, 1) := by decide +kernel
theorem dL_law_305 : decode cL_law 305 = .ok ((.aload_n 1), 1) := by decide +kernel
theorem dL_law_306 : decode cL_law 306 = .ok ((.aload_n 0), 1) := by decide +kernel
theorem dL_law_307 : decode cL_law 307 = .ok ((.iload_n 3), 1) := by decide +kernel
theorem dL_law_308 : decode cL_law 308 = .ok ((.iconst 1), 1) := by decide +kernel
theorem dL_law_309 : decode cL_law 309 = .ok (.iadd, 1) := by decide +kernel
theorem dL_law_310 : decode cL_law 310 = .ok (.iaload, 1) := by decide +kernel
theorem dL_law_311 : decode cL_law 311 = .ok ((.aload_n 0), 1) := by decide +kernel
theorem dL_law_312 : decode cL_law 312 = .ok ((.iload_n 3), 1) := by decide +kernel
theorem dL_law_313 : decode cL_law 313 = .ok ((.iconst 2), 1) := by decide +kernel
theorem dL_law_314 : decode cL_law 314 = .ok (.iadd, 1) := by decide +kernel
theorem dL_law_315 : decode cL_law 315 = .ok (.iaload, 1) := by decide +kernel
theorem dL_law_316 : decode cL_law 316 = .ok ((.aload_n 0), 1) := by decide +kernel
theorem dL_law_317 : decode cL_law 317 = .ok ((.iload_n 3), 1) := by decide +kernel
theorem dL_law_318 : decode cL_law 318 = .ok ((.iconst 3), 1) := by decide +kernel
theorem dL_law_319 : decode cL_law 319 = .ok (.iadd, 1) := by decide +kernel
theorem dL_law_320 : decode cL_law 320 = .ok (.iaload, 1) := by decide +kernel
theorem dL_law_321 : decode cL_law 321 = .ok ((.invokevirtual 27), 3) := by decide +kernel
theorem dL_law_324 : decode cL_law 324 = .ok ((.aload_n 2), 1) := by decide +kernel
theorem dL_law_325 : decode cL_law 325 = .ok ((.aload_n 0), 1) := by decide +kernel
theorem dL_law_326 : decode cL_law 326 = .ok ((.iload_n 3), 1) := by decide +kernel
theorem dL_law_327 : decode cL_law 327 = .ok ((.iconst 1), 1) := by decide +kernel
theorem dL_law_328 : decode cL_law 328 = .ok (.iadd, 1) := by decide +kernel
theorem dL_law_329 : decode cL_law 329 = .ok (.iaload, 1) := by decide +kernel
theorem dL_law_330 : decode cL_law 330 = .ok ((.aload_n 0), 1) := by decide +kernel
theorem dL_law_331 : decode cL_law 331 = .ok ((.iload_n 3), 1) := by decide +kernel
theorem dL_law_332 : decode cL_law 332 = .ok ((.iconst 2), 1) := by decide +kernel
theorem dL_law_333 : decode cL_law 333 = .ok (.iadd, 1) := by decide +kernel
theorem dL_law_334 : decode cL_law 334 = .ok (.iaload, 1) := by decide +kernel
theorem dL_law_335 : decode cL_law 335 = .ok ((.aload_n 0), 1) := by decide +kernel
theorem dL_law_336 : decode cL_law 336 = .ok ((.iload_n 3), 1) := by decide +kernel
theorem dL_law_337 : decode cL_law 337 = .ok ((.iconst 3), 1) := by decide +kernel
theorem dL_law_338 : decode cL_law 338 = .ok (.iadd, 1) := by decide +kernel
theorem dL_law_339 : decode cL_law 339 = .ok (.iaload, 1) := by decide +kernel
theorem dL_law_340 : decode cL_law 340 = .ok ((.invokevirtual 31), 3) := by decide +kernel
theorem dL_law_343 : decode cL_law 343 = .ok ((.if_icmp .eq 1596), 3) := by decide +kernel
theorem dL_law_346 : decode cL_law 346 = .ok ((.iconst 0), 1) := by decide +kernel
theorem dL_law_347 : decode cL_law 347 = .ok (.ireturn, 1) := by decide +kernel
theorem dL_law_348 : decode cL_law 348 = .ok ((.aload_n 1), 1) := by decide +kernel
theorem dL_law_349 : decode cL_law 349 = .ok ((.aload_n 0), 1) := by decide +kernel
theorem dL_law_350 : decode cL_law 350 = .ok ((.iload_n 3), 1) := by decide +kernel
theorem dL_law_351 : decode cL_law 351 = .ok ((.iconst 1), 1) := by decide +kernel
theorem dL_law_352 : decode cL_law 352 = .ok (.iadd, 1) := by decide +kernel
theorem dL_law_353 : decode cL_law 353 = .ok (.iaload, 1) := by decide +kernel
theorem dL_law_354 : decode cL_law 354 = .ok ((.aload_n 0), 1) := by decide +kernel
theorem dL_law_355 : decode cL_law 355 = .ok ((.iload_n 3), 1) := by decide +kernel
theorem dL_law_356 : decode cL_law 356 = .ok ((.iconst 2), 1) := by decide +kernel
theorem dL_law_357 : decode cL_law 357 = .ok (.iadd, 1) := by decide +kernel
theorem dL_law_358 : decode cL_law 358 = .ok (.iaload, 1) := by decide +kernel
theorem dL_law_359 : decode cL_law 359 = .ok ((.aload_n 0), 1) := by decide +kernel
theorem dL_law_360 : decode cL_law 360 = .ok ((.iload_n 3), 1) := by decide +kernel
theorem dL_law_361 : decode cL_law 361 = .ok ((.iconst 3), 1) := by decide +kernel
theorem dL_law_362 : decode cL_law 362 = .ok (.iadd, 1) := by decide +kernel
theorem dL_law_363 : decode cL_law 363 = .ok (.iaload, 1) := by decide +kernel
theorem dL_law_364 : decode cL_law 364 = .ok (.i2l, 1) := by decide +kernel
theorem dL_law_365 : decode cL_law 365 = .ok ((.bipush 32), 2) := by decide +kernel
theorem dL_law_367 : decode cL_law 367 = .ok (.lshl, 1) := by decide +kernel
theorem dL_law_368 : decode cL_law 368 = .ok ((.aload_n 0), 1) := by decide +kernel
theorem dL_law_369 : decode cL_law 369 = .ok ((.iload_n 3), 1) := by decide +kernel
theorem dL_law_370 : decode cL_law 370 = .ok ((.iconst 4), 1) := by decide +kernel
theorem dL_law_371 : decode cL_law 371 = .ok (.iadd, 1) := by decide +kernel
theorem dL_law_372 : decode cL_law 372 = .ok (.iaload, 1) := by decide +kernel
theorem dL_law_373 : decode cL_law 373 = .ok (.i2l, 1) := by decide +kernel
theorem dL_law_374 : decode cL_law 374 = .ok ((.ldc2_w 32), 3) := by decide +kernel
theorem dL_law_377 : decode cL_law 377 = .ok (.land, 1) := by decide +kernel
theorem dL_law_378 : decode cL_law 378 = .ok (.lor, 1) := by decide +kernel
theorem dL_law_379 : decode cL_law 379 = .ok ((.invokevirtual 34), 3) := by decide +kernel
theorem dL_law_382 : decode cL_law 382 = .ok ((.aload_n 2), 1) := by decide +kernel
theorem dL_law_383 : decode cL_law 383 = .ok ((.aload_n 0), 1) := by decide +kernel
theorem dL_law_384 : decode cL_law 384 = .ok ((.iload_n 3), 1) := by decide +kernel
theorem dL_law_385 : decode cL_law 385 = .ok ((.iconst 1), 1) := by decide +kernel
theorem dL_law_386 : decode cL_law 386 = .ok (.iadd, 1) := by decide +kernel
theorem dL_law_387 : decode cL_law 387 = .ok (.iaload, 1) := by decide +kernel
theorem dL_law_388 : decode cL_law 388 = .ok ((.aload_n 0), 1) := by decide +kernel
theorem dL_law_389 : decode cL_law 389 = .ok ((.iload_n 3), 1) := by decide +kernel
theorem dL_law_390 : decode cL_law 390 = .ok ((.iconst 2), 1) := by decide +kernel
theorem dL_law_391 : decode cL_law 391 = .ok (.iadd, 1) := by decide +kernel
theorem dL_law_392 : decode cL_law 392 = .ok (.iaload, 1) := by decide +kernel
theorem dL_law_393 : decode cL_law 393 = .ok ((.aload_n 0), 1) := by decide +kernel
theorem dL_law_394 : decode cL_law 394 = .ok ((.iload_n 3), 1) := by decide +kernel
theorem dL_law_395 : decode cL_law 395 = .ok ((.iconst 3), 1) := by decide +kernel
theorem dL_law_396 : decode cL_law 396 = .ok (.iadd, 1) := by decide +kernel
theorem dL_law_397 : decode cL_law 397 = .ok (.iaload, 1) := by decide +kernel
theorem dL_law_398 : decode cL_law 398 = .ok (.i2l, 1) := by decide +kernel
theorem dL_law_399 : decode cL_law 399 = .ok ((.bipush 32), 2) := by decide +kernel
theorem dL_law_401 : decode cL_law 401 = .ok (.lshl, 1) := by decide +kernel
theorem dL_law_402 : decode cL_law 402 = .ok ((.aload_n 0), 1) := by decide +kernel
theorem dL_law_403 : decode cL_law 403 = .ok ((.iload_n 3), 1) := by decide +kernel
theorem dL_law_404 : decode cL_law 404 = .ok ((.iconst 4), 1) := by decide +kernel
theorem dL_law_405 : decode cL_law 405 = .ok (.iadd, 1) := by decide +kernel
theorem dL_law_406 : decode cL_law 406 = .ok (.iaload, 1) := by decide +kernel
theorem dL_law_407 : decode cL_law 407 = .ok (.i2l, 1) := by decide +kernel
theorem dL_law_408 : decode cL_law 408 = .ok ((.ldc2_w 32), 3) := by decide +kernel
theorem dL_law_411 : decode cL_law 411 = .ok (.land, 1) := by decide +kernel
theorem dL_law_412 : decode cL_law 412 = .ok (.lor, 1) := by decide +kernel
theorem dL_law_413 : decode cL_law 413 = .ok ((.invokevirtual 38), 3) := by decide +kernel
theorem dL_law_416 : decode cL_law 416 = .ok ((.if_icmp .eq 1523), 3) := by decide +kernel
theorem dL_law_419 : decode cL_law 419 = .ok ((.iconst 0), 1) := by decide +kernel
theorem dL_law_420 : decode cL_law 420 = .ok (.ireturn, 1) := by decide +kernel
theorem dL_law_421 : decode cL_law 421 = .ok ((.aload_n 1), 1) := by decide +kernel
theorem dL_law_422 : decode cL_law 422 = .ok ((.aload_n 0), 1) := by decide +kernel
theorem dL_law_423 : decode cL_law 423 = .ok ((.iload_n 3), 1) := by decide +kernel
theorem dL_law_424 : decode cL_law 424 = .ok ((.iconst 1), 1) := by decide +kernel
theorem dL_law_425 : decode cL_law 425 = .ok (.iadd, 1) := by decide +kernel
theorem dL_law_426 : decode cL_law 426 = .ok (.iaload, 1) := by decide +kernel
theorem dL_law_427 : decode cL_law 427 = .ok ((.aload_n 0), 1) := by decide +kernel
theorem dL_law_428 : decode cL_law 428 = .ok ((.iload_n 3), 1) := by decide +kernel
theorem dL_law_429 : decode cL_law 429 = .ok ((.iconst 2), 1) := by decide +kernel
theorem dL_law_430 : decode cL_law 430 = .ok (.iadd, 1) := by decide +kernel
theorem dL_law_431 : decode cL_law 431 = .ok (.iaload, 1) := by decide +kernel
theorem dL_law_432 : decode cL_law 432 = .ok ((.invokevirtual 39), 3) := by decide +kernel
theorem dL_law_435 : decode cL_law 435 = .ok ((.aload_n 2), 1) := by decide +kernel
theorem dL_law_436 : decode cL_law 436 = .ok ((.aload_n 0), 1) := by decide +kernel
theorem dL_law_437 : decode cL_law 437 = .ok ((.iload_n 3), 1) := by decide +kernel
theorem dL_law_438 : decode cL_law 438 = .ok ((.iconst 1), 1) := by decide +kernel
theorem dL_law_439 : decode cL_law 439 = .ok (.iadd, 1) := by decide +kernel
theorem dL_law_440 : decode cL_law 440 = .ok (.iaload, 1) := by decide +kernel
theorem dL_law_441 : decode cL_law 441 = .ok ((.aload_n 0), 1) := by decide +kernel
theorem dL_law_442 : decode cL_law 442 = .ok ((.iload_n 3), 1) := by decide +kernel
theorem dL_law_443 : decode cL_law 443 = .ok ((.iconst 2), 1) := by decide +kernel
theorem dL_law_444 : decode cL_law 444 = .ok (.iadd, 1) := by decide +kernel
theorem dL_law_445 : decode cL_law 445 = .ok (.iaload, 1) := by decide +kernel
theorem dL_law_446 : decode cL_law 446 = .ok ((.invokevirtual 43), 3) := by decide +kernel
theorem dL_law_449 : decode cL_law 449 = .ok (.lcmp, 1) := by decide +kernel
theorem dL_law_450 : decode cL_law 450 = .ok ((.ifCond .eq 1489), 3) := by decide +kernel
theorem dL_law_453 : decode cL_law 453 = .ok ((.iconst 0), 1) := by decide +kernel
theorem dL_law_454 : decode cL_law 454 = .ok (.ireturn, 1) := by decide +kernel
theorem dL_law_455 : decode cL_law 455 = .ok ((.aload_n 1), 1) := by decide +kernel
theorem dL_law_456 : decode cL_law 456 = .ok ((.aload_n 0), 1) := by decide +kernel
theorem dL_law_457 : decode cL_law 457 = .ok ((.iload_n 3), 1) := by decide +kernel
theorem dL_law_458 : decode cL_law 458 = .ok ((.iconst 1), 1) := by decide +kernel
theorem dL_law_459 : decode cL_law 459 = .ok (.iadd, 1) := by decide +kernel
theorem dL_law_460 : decode cL_law 460 = .ok (.iaload, 1) := by decide +kernel
theorem dL_law_461 : decode cL_law 461 = .ok ((.aload_n 0), 1) := by decide +kernel
theorem dL_law_462 : decode cL_law 462 = .ok ((.iload_n 3), 1) := by decide +kernel
theorem dL_law_463 : decode cL_law 463 = .ok ((.iconst 2), 1) := by decide +kernel
theorem dL_law_464 : decode cL_law 464 = .ok (.iadd, 1) := by decide +kernel
theorem dL_law_465 : decode cL_law 465 = .ok (.iaload, 1) := by decide +kernel
theorem dL_law_466 : decode cL_law 466 = .ok ((.aload_n 0), 1) := by decide +kernel
theorem dL_law_467 : decode cL_law 467 = .ok ((.iload_n 3), 1) := by decide +kernel
theorem dL_law_468 : decode cL_law 468 = .ok ((.iconst 3), 1) := by decide +kernel
theorem dL_law_469 : decode cL_law 469 = .ok (.iadd, 1) := by decide +kernel
theorem dL_law_470 : decode cL_law 470 = .ok (.iaload, 1) := by decide +kernel
theorem dL_law_471 : decode cL_law 471 = .ok ((.aload_n 0), 1) := by decide +kernel
theorem dL_law_472 : decode cL_law 472 = .ok ((.iload_n 3), 1) := by decide +kernel
theorem dL_law_473 : decode cL_law 473 = .ok ((.iconst 4), 1) := by decide +kernel
theorem dL_law_474 : decode cL_law 474 = .ok (.iadd, 1) := by decide +kernel
theorem dL_law_475 : decode cL_law 475 = .ok (.iaload, 1) := by decide +kernel
theorem dL_law_476 : decode cL_law 476 = .ok ((.aload_n 0), 1) := by decide +kernel
theorem dL_law_477 : decode cL_law 477 = .ok ((.iload_n 3), 1) := by decide +kernel
theorem dL_law_478 : decode cL_law 478 = .ok ((.iconst 5), 1) := by decide +kernel
theorem dL_law_479 : decode cL_law 479 = .ok (.iadd, 1) := by decide +kernel
theorem dL_law_480 : decode cL_law 480 = .ok (.iaload, 1) := by decide +kernel
theorem dL_law_481 : decode cL_law 481 = .ok ((.invokevirtual 44), 3) := by decide +kernel
theorem dL_law_484 : decode cL_law 484 = .ok ((.aload_n 2), 1) := by decide +kernel
theorem dL_law_485 : decode cL_law 485 = .ok ((.aload_n 0), 1) := by decide +kernel
theorem dL_law_486 : decode cL_law 486 = .ok ((.iload_n 3), 1) := by decide +kernel
theorem dL_law_487 : decode cL_law 487 = .ok ((.iconst 1), 1) := by decide +kernel
theorem dL_law_488 : decode cL_law 488 = .ok (.iadd, 1) := by decide +kernel
theorem dL_law_489 : decode cL_law 489 = .ok (.iaload, 1) := by decide +kernel
theorem dL_law_490 : decode cL_law 490 = .ok ((.aload_n 0), 1) := by decide +kernel
theorem dL_law_491 : decode cL_law 491 = .ok ((.iload_n 3), 1) := by decide +kernel
theorem dL_law_492 : decode cL_law 492 = .ok ((.iconst 2), 1) := by decide +kernel
theorem dL_law_493 : decode cL_law 493 = .ok (.iadd, 1) := by decide +kernel
theorem dL_law_494 : decode cL_law 494 = .ok (.iaload, 1) := by decide +kernel
theorem dL_law_495 : decode cL_law 495 = .ok ((.aload_n 0), 1) := by decide +kernel
theorem dL_law_496 : decode cL_law 496 = .ok ((.iload_n 3), 1) := by decide +kernel
theorem dL_law_497 : decode cL_law 497 = .ok ((.iconst 3), 1) := by decide +kernel
theorem dL_law_498 : decode cL_law 498 = .ok (.iadd, 1) := by decide +kernel
theorem dL_law_499 : decode cL_law 499 = .ok (.iaload, 1) := by decide +kernel
theorem dL_law_500 : decode cL_law 500 = .ok ((.aload_n 0), 1) := by decide +kernel
theorem dL_law_501 : decode cL_law 501 = .ok ((.iload_n 3), 1) := by decide +kernel
theorem dL_law_502 : decode cL_law 502 = .ok ((.iconst 4), 1) := by decide +kernel
theorem dL_law_503 : decode cL_law 503 = .ok (.iadd, 1) := by decide +kernel
theorem dL_law_504 : decode cL_law 504 = .ok (.iaload, 1) := by decide +kernel
theorem dL_law_505 : decode cL_law 505 = .ok ((.aload_n 0), 1) := by decide +kernel
theorem dL_law_506 : decode cL_law 506 = .ok ((.iload_n 3), 1) := by decide +kernel
theorem dL_law_507 : decode cL_law 507 = .ok ((.iconst 5), 1) := by decide +kernel
theorem dL_law_508 : decode cL_law 508 = .ok (.iadd, 1) := by decide +kernel
theorem dL_law_509 : decode cL_law 509 = .ok (.iaload, 1) := by decide +kernel
theorem dL_law_510 : decode cL_law 510 = .ok ((.invokevirtual 48), 3) := by decide +kernel
theorem dL_law_513 : decode cL_law 513 = .ok ((.if_icmp .eq 1426), 3) := by decide +kernel
theorem dL_law_516 : decode cL_law 516 = .ok ((.iconst 0), 1) := by decide +kernel
theorem dL_law_517 : decode cL_law 517 = .ok (.ireturn, 1) := by decide +kernel
theorem dL_law_518 : decode cL_law 518 = .ok ((.aload_n 1), 1) := by decide +kernel
theorem dL_law_519 : decode cL_law 519 = .ok ((.aload_n 0), 1) := by decide +kernel
theorem dL_law_520 : decode cL_law 520 = .ok ((.iload_n 3), 1) := by decide +kernel
theorem dL_law_521 : decode cL_law 521 = .ok ((.iconst 1), 1) := by decide +kernel
theorem dL_law_522 : decode cL_law 522 = .ok (.iadd, 1) := by decide +kernel
theorem dL_law_523 : decode cL_law 523 = .ok (.iaload, 1) := by decide +kernel
theorem dL_law_524 : decode cL_law 524 = .ok ((.aload_n 0), 1) := by decide +kernel
theorem dL_law_525 : decode cL_law 525 = .ok ((.iload_n 3), 1) := by decide +kernel
theorem dL_law_526 : decode cL_law 526 = .ok ((.iconst 2), 1) := by decide +kernel
theorem dL_law_527 : decode cL_law 527 = .ok (.iadd, 1) := by decide +kernel
theorem dL_law_528 : decode cL_law 528 = .ok (.iaload, 1) := by decide +kernel
theorem dL_law_529 : decode cL_law 529 = .ok ((.aload_n 0), 1) := by decide +kernel
theorem dL_law_530 : decode cL_law 530 = .ok ((.iload_n 3), 1) := by decide +kernel
theorem dL_law_531 : decode cL_law 531 = .ok ((.iconst 3), 1) := by decide +kernel
theorem dL_law_532 : decode cL_law 532 = .ok (.iadd, 1) := by decide +kernel
theorem dL_law_533 : decode cL_law 533 = .ok (.iaload, 1) := by decide +kernel
theorem dL_law_534 : decode cL_law 534 = .ok ((.aload_n 0), 1) := by decide +kernel
theorem dL_law_535 : decode cL_law 535 = .ok ((.iload_n 3), 1) := by decide +kernel
theorem dL_law_536 : decode cL_law 536 = .ok ((.iconst 4), 1) := by decide +kernel
theorem dL_law_537 : decode cL_law 537 = .ok (.iadd, 1) := by decide +kernel
theorem dL_law_538 : decode cL_law 538 = .ok (.iaload, 1) := by decide +kernel
theorem dL_law_539 : decode cL_law 539 = .ok ((.aload_n 0), 1) := by decide +kernel
theorem dL_law_540 : decode cL_law 540 = .ok ((.iload_n 3), 1) := by decide +kernel
theorem dL_law_541 : decode cL_law 541 = .ok ((.iconst 5), 1) := by decide +kernel
theorem dL_law_542 : decode cL_law 542 = .ok (.iadd, 1) := by decide +kernel
theorem dL_law_543 : decode cL_law 543 = .ok (.iaload, 1) := by decide +kernel
theorem dL_law_544 : decode cL_law 544 = .ok ((.invokevirtual 49), 3) := by decide +kernel
theorem dL_law_547 : decode cL_law 547 = .ok ((.aload_n 2), 1) := by decide +kernel
theorem dL_law_548 : decode cL_law 548 = .ok ((.aload_n 0), 1) := by decide +kernel
theorem dL_law_549 : decode cL_law 549 = .ok ((.iload_n 3), 1) := by decide +kernel
theorem dL_law_550 : decode cL_law 550 = .ok ((.iconst 1), 1) := by decide +kernel
theorem dL_law_551 : decode cL_law 551 = .ok (.iadd, 1) := by decide +kernel
theorem dL_law_552 : decode cL_law 552 = .ok (.iaload, 1) := by decide +kernel
theorem dL_law_553 : decode cL_law 553 = .ok ((.aload_n 0), 1) := by decide +kernel
theorem dL_law_554 : decode cL_law 554 = .ok ((.iload_n 3), 1) := by decide +kernel
theorem dL_law_555 : decode cL_law 555 = .ok ((.iconst 2), 1) := by decide +kernel
theorem dL_law_556 : decode cL_law 556 = .ok (.iadd, 1) := by decide +kernel
theorem dL_law_557 : decode cL_law 557 = .ok (.iaload, 1) := by decide +kernel
theorem dL_law_558 : decode cL_law 558 = .ok ((.aload_n 0), 1) := by decide +kernel
theorem dL_law_559 : decode cL_law 559 = .ok ((.iload_n 3), 1) := by decide +kernel
theorem dL_law_560 : decode cL_law 560 = .ok ((.iconst 3), 1) := by decide +kernel
theorem dL_law_561 : decode cL_law 561 = .ok (.iadd, 1) := by decide +kernel
theorem dL_law_562 : decode cL_law 562 = .ok (.iaload, 1) := by decide +kernel
theorem dL_law_563 : decode cL_law 563 = .ok ((.aload_n 0), 1) := by decide +kernel
theorem dL_law_564 : decode cL_law 564 = .ok ((.iload_n 3), 1) := by decide +kernel
theorem dL_law_565 : decode cL_law 565 = .ok ((.iconst 4), 1) := by decide +kernel
theorem dL_law_566 : decode cL_law 566 = .ok (.iadd, 1) := by decide +kernel
theorem dL_law_567 : decode cL_law 567 = .ok (.iaload, 1) := by decide +kernel
theorem dL_law_568 : decode cL_law 568 = .ok ((.aload_n 0), 1) := by decide +kernel
theorem dL_law_569 : decode cL_law 569 = .ok ((.iload_n 3), 1) := by decide +kernel
theorem dL_law_570 : decode cL_law 570 = .ok ((.iconst 5), 1) := by decide +kernel
theorem dL_law_571 : decode cL_law 571 = .ok (.iadd, 1) := by decide +kernel
theorem dL_law_572 : decode cL_law 572 = .ok (.iaload, 1) := by decide +kernel
theorem dL_law_573 : decode cL_law 573 = .ok ((.invokevirtual 53), 3) := by decide +kernel
theorem dL_law_576 : decode cL_law 576 = .ok ((.if_icmp .eq 1363), 3) := by decide +kernel
theorem dL_law_579 : decode cL_law 579 = .ok ((.iconst 0), 1) := by decide +kernel
theorem dL_law_580 : decode cL_law 580 = .ok (.ireturn, 1) := by decide +kernel
theorem dL_law_581 : decode cL_law 581 = .ok ((.aload_n 1), 1) := by decide +kernel
theorem dL_law_582 : decode cL_law 582 = .ok ((.aload_n 0), 1) := by decide +kernel
theorem dL_law_583 : decode cL_law 583 = .ok ((.iload_n 3), 1) := by decide +kernel
theorem dL_law_584 : decode cL_law 584 = .ok ((.iconst 1), 1) := by decide +kernel
theorem dL_law_585 : decode cL_law 585 = .ok (.iadd, 1) := by decide +kernel
theorem dL_law_586 : decode cL_law 586 = .ok (.iaload, 1) := by decide +kernel
theorem dL_law_587 : decode cL_law 587 = .ok ((.invokevirtual 54), 3) := by decide +kernel
theorem dL_law_590 : decode cL_law 590 = .ok ((.aload_n 2), 1) := by decide +kernel
theorem dL_law_591 : decode cL_law 591 = .ok ((.aload_n 0), 1) := by decide +kernel
theorem dL_law_592 : decode cL_law 592 = .ok ((.iload_n 3), 1) := by decide +kernel
theorem dL_law_593 : decode cL_law 593 = .ok ((.iconst 1), 1) := by decide +kernel
theorem dL_law_594 : decode cL_law 594 = .ok (.iadd, 1) := by decide +kernel
theorem dL_law_595 : decode cL_law 595 = .ok (.iaload, 1) := by decide +kernel
theorem dL_law_596 : decode cL_law 596 = .ok ((.invokevirtual 58), 3) := by decide +kernel
theorem dL_law_599 : decode cL_law 599 = .ok ((.if_icmp .eq 1340), 3) := by decide +kernel
theorem dL_law_602 : decode cL_law 602 = .ok ((.iconst 0), 1) := by decide +kernel
theorem dL_law_603 : decode cL_law 603 = .ok (.ireturn, 1) := by decide +kernel
theorem dL_law_604 : decode cL_law 604 = .ok ((.aload_n 1), 1) := by decide +kernel
theorem dL_law_605 : decode cL_law 605 = .ok ((.aload_n 0), 1) := by decide +kernel
theorem dL_law_606 : decode cL_law 606 = .ok ((.iload_n 3), 1) := by decide +kernel
theorem dL_law_607 : decode cL_law 607 = .ok ((.iconst 1), 1) := by decide +kernel
theorem dL_law_608 : decode cL_law 608 = .ok (.iadd, 1) := by decide +kernel
theorem dL_law_609 : decode cL_law 609 = .ok (.iaload, 1) := by decide +kernel
theorem dL_law_610 : decode cL_law 610 = .ok ((.invokevirtual 59), 3) := by decide +kernel
theorem dL_law_613 : decode cL_law 613 = .ok ((.aload_n 2), 1) := by decide +kernel
theorem dL_law_614 : decode cL_law 614 = .ok ((.aload_n 0), 1) := by decide +kernel
theorem dL_law_615 : decode cL_law 615 = .ok ((.iload_n 3), 1) := by decide +kernel
theorem dL_law_616 : decode cL_law 616 = .ok ((.iconst 1), 1) := by decide +kernel
theorem dL_law_617 : decode cL_law 617 = .ok (.iadd, 1) := by decide +kernel
theorem dL_law_618 : decode cL_law 618 = .ok (.iaload, 1) := by decide +kernel
theorem dL_law_619 : decode cL_law 619 = .ok ((.invokevirtual 62), 3) := by decide +kernel
theorem dL_law_622 : decode cL_law 622 = .ok ((.if_icmp .eq 1317), 3) := by decide +kernel
theorem dL_law_625 : decode cL_law 625 = .ok ((.iconst 0), 1) := by decide +kernel
theorem dL_law_626 : decode cL_law 626 = .ok (.ireturn, 1) := by decide +kernel
theorem dL_law_627 : decode cL_law 627 = .ok ((.aload_n 1), 1) := by decide +kernel
theorem dL_law_628 : decode cL_law 628 = .ok ((.aload_n 0), 1) := by decide +kernel
theorem dL_law_629 : decode cL_law 629 = .ok ((.iload_n 3), 1) := by decide +kernel
theorem dL_law_630 : decode cL_law 630 = .ok ((.iconst 1), 1) := by decide +kernel
theorem dL_law_631 : decode cL_law 631 = .ok (.iadd, 1) := by decide +kernel
theorem dL_law_632 : decode cL_law 632 = .ok (.iaload, 1) := by decide +kernel
theorem dL_law_633 : decode cL_law 633 = .ok ((.invokevirtual 63), 3) := by decide +kernel
theorem dL_law_636 : decode cL_law 636 = .ok ((.aload_n 2), 1) := by decide +kernel
theorem dL_law_637 : decode cL_law 637 = .ok ((.aload_n 0), 1) := by decide +kernel
theorem dL_law_638 : decode cL_law 638 = .ok ((.iload_n 3), 1) := by decide +kernel
theorem dL_law_639 : decode cL_law 639 = .ok ((.iconst 1), 1) := by decide +kernel
theorem dL_law_640 : decode cL_law 640 = .ok (.iadd, 1) := by decide +kernel
theorem dL_law_641 : decode cL_law 641 = .ok (.iaload, 1) := by decide +kernel
theorem dL_law_642 : decode cL_law 642 = .ok ((.invokevirtual 66), 3) := by decide +kernel
theorem dL_law_645 : decode cL_law 645 = .ok ((.if_icmp .eq 1294), 3) := by decide +kernel
theorem dL_law_648 : decode cL_law 648 = .ok ((.iconst 0), 1) := by decide +kernel
theorem dL_law_649 : decode cL_law 649 = .ok (.ireturn, 1) := by decide +kernel
theorem dL_law_650 : decode cL_law 650 = .ok ((.aload_n 1), 1) := by decide +kernel
theorem dL_law_651 : decode cL_law 651 = .ok ((.aload_n 0), 1) := by decide +kernel
theorem dL_law_652 : decode cL_law 652 = .ok ((.iload_n 3), 1) := by decide +kernel
theorem dL_law_653 : decode cL_law 653 = .ok ((.iconst 1), 1) := by decide +kernel
theorem dL_law_654 : decode cL_law 654 = .ok (.iadd, 1) := by decide +kernel
theorem dL_law_655 : decode cL_law 655 = .ok (.iaload, 1) := by decide +kernel
theorem dL_law_656 : decode cL_law 656 = .ok ((.invokevirtual 67), 3) := by decide +kernel
theorem dL_law_659 : decode cL_law 659 = .ok ((.aload_n 2), 1) := by decide +kernel
theorem dL_law_660 : decode cL_law 660 = .ok ((.aload_n 0), 1) := by decide +kernel
theorem dL_law_661 : decode cL_law 661 = .ok ((.iload_n 3), 1) := by decide +kernel
theorem dL_law_662 : decode cL_law 662 = .ok ((.iconst 1), 1) := by decide +kernel
theorem dL_law_663 : decode cL_law 663 = .ok (.iadd, 1) := by decide +kernel
theorem dL_law_664 : decode cL_law 664 = .ok (.iaload, 1) := by decide +kernel
theorem dL_law_665 : decode cL_law 665 = .ok ((.invokevirtual 70), 3) := by decide +kernel
theorem dL_law_668 : decode cL_law 668 = .ok ((.if_icmp .eq 1271), 3) := by decide +kernel
theorem dL_law_671 : decode cL_law 671 = .ok ((.iconst 0), 1) := by decide +kernel
theorem dL_law_672 : decode cL_law 672 = .ok (.ireturn, 1) := by decide +kernel
theorem dL_law_673 : decode cL_law 673 = .ok ((.aload_n 1), 1) := by decide +kernel
theorem dL_law_674 : decode cL_law 674 = .ok ((.aload_n 0), 1) := by decide +kernel
theorem dL_law_675 : decode cL_law 675 = .ok ((.iload_n 3), 1) := by decide +kernel
theorem dL_law_676 : decode cL_law 676 = .ok ((.iconst 1), 1) := by decide +kernel
theorem dL_law_677 : decode cL_law 677 = .ok (.iadd, 1) := by decide +kernel
theorem dL_law_678 : decode cL_law 678 = .ok (.iaload, 1) := by decide +kernel
theorem dL_law_679 : decode cL_law 679 = .ok ((.aload_n 0), 1) := by decide +kernel
theorem dL_law_680 : decode cL_law 680 = .ok ((.iload_n 3), 1) := by decide +kernel
theorem dL_law_681 : decode cL_law 681 = .ok ((.iconst 2), 1) := by decide +kernel
theorem dL_law_682 : decode cL_law 682 = .ok (.iadd, 1) := by decide +kernel
theorem dL_law_683 : decode cL_law 683 = .ok (.iaload, 1) := by decide +kernel
theorem dL_law_684 : decode cL_law 684 = .ok ((.invokevirtual 71), 3) := by decide +kernel
theorem dL_law_687 : decode cL_law 687 = .ok ((.aload_n 2), 1) := by decide +kernel
theorem dL_law_688 : decode cL_law 688 = .ok ((.aload_n 0), 1) := by decide +kernel
theorem dL_law_689 : decode cL_law 689 = .ok ((.iload_n 3), 1) := by decide +kernel
theorem dL_law_690 : decode cL_law 690 = .ok ((.iconst 1), 1) := by decide +kernel
theorem dL_law_691 : decode cL_law 691 = .ok (.iadd, 1) := by decide +kernel
theorem dL_law_692 : decode cL_law 692 = .ok (.iaload, 1) := by decide +kernel
theorem dL_law_693 : decode cL_law 693 = .ok ((.aload_n 0), 1) := by decide +kernel
theorem dL_law_694 : decode cL_law 694 = .ok ((.iload_n 3), 1) := by decide +kernel
theorem dL_law_695 : decode cL_law 695 = .ok ((.iconst 2), 1) := by decide +kernel
theorem dL_law_696 : decode cL_law 696 = .ok (.iadd, 1) := by decide +kernel
theorem dL_law_697 : decode cL_law 697 = .ok (.iaload, 1) := by decide +kernel
theorem dL_law_698 : decode cL_law 698 = .ok ((.invokevirtual 75), 3) := by decide +kernel
theorem dL_law_701 : decode cL_law 701 = .ok ((.if_icmp .eq 1238), 3) := by decide +kernel
theorem dL_law_704 : decode cL_law 704 = .ok ((.iconst 0), 1) := by decide +kernel
theorem dL_law_705 : decode cL_law 705 = .ok (.ireturn, 1) := by decide +kernel
theorem dL_law_706 : decode cL_law 706 = .ok ((.aload_n 1), 1) := by decide +kernel
theorem dL_law_707 : decode cL_law 707 = .ok ((.aload_n 0), 1) := by decide +kernel
theorem dL_law_708 : decode cL_law 708 = .ok ((.iload_n 3), 1) := by decide +kernel
theorem dL_law_709 : decode cL_law 709 = .ok ((.iconst 1), 1) := by decide +kernel
theorem dL_law_710 : decode cL_law 710 = .ok (.iadd, 1) := by decide +kernel
theorem dL_law_711 : decode cL_law 711 = .ok (.iaload, 1) := by decide +kernel
theorem dL_law_712 : decode cL_law 712 = .ok ((.aload_n 0), 1) := by decide +kernel
theorem dL_law_713 : decode cL_law 713 = .ok ((.iload_n 3), 1) := by decide +kernel
theorem dL_law_714 : decode cL_law 714 = .ok ((.iconst 2), 1) := by decide +kernel
theorem dL_law_715 : decode cL_law 715 = .ok (.iadd, 1) := by decide +kernel
theorem dL_law_716 : decode cL_law 716 = .ok (.iaload, 1) := by decide +kernel
theorem dL_law_717 : decode cL_law 717 = .ok ((.invokevirtual 76), 3) := by decide +kernel
theorem dL_law_720 : decode cL_law 720 = .ok ((.aload_n 2), 1) := by decide +kernel
theorem dL_law_721 : decode cL_law 721 = .ok ((.aload_n 0), 1) := by decide +kernel
theorem dL_law_722 : decode cL_law 722 = .ok ((.iload_n 3), 1) := by decide +kernel
theorem dL_law_723 : decode cL_law 723 = .ok ((.iconst 1), 1) := by decide +kernel
theorem dL_law_724 : decode cL_law 724 = .ok (.iadd, 1) := by decide +kernel
theorem dL_law_725 : decode cL_law 725 = .ok (.iaload, 1) := by decide +kernel
theorem dL_law_726 : decode cL_law 726 = .ok ((.aload_n 0), 1) := by decide +kernel
theorem dL_law_727 : decode cL_law 727 = .ok ((.iload_n 3), 1) := by decide +kernel
theorem dL_law_728 : decode cL_law 728 = .ok ((.iconst 2), 1) := by decide +kernel
theorem dL_law_729 : decode cL_law 729 = .ok (.iadd, 1) := by decide +kernel
theorem dL_law_730 : decode cL_law 730 = .ok (.iaload, 1) := by decide +kernel
theorem dL_law_731 : decode cL_law 731 = .ok ((.invokevirtual 79), 3) := by decide +kernel
theorem dL_law_734 : decode cL_law 734 = .ok ((.if_icmp .eq 1205), 3) := by decide +kernel
theorem dL_law_737 : decode cL_law 737 = .ok ((.iconst 0), 1) := by decide +kernel
theorem dL_law_738 : decode cL_law 738 = .ok (.ireturn, 1) := by decide +kernel
theorem dL_law_739 : decode cL_law 739 = .ok ((.aload_n 1), 1) := by decide +kernel
theorem dL_law_740 : decode cL_law 740 = .ok ((.aload_n 0), 1) := by decide +kernel
theorem dL_law_741 : decode cL_law 741 = .ok ((.iload_n 3), 1) := by decide +kernel
theorem dL_law_742 : decode cL_law 742 = .ok ((.iconst 1), 1) := by decide +kernel
theorem dL_law_743 : decode cL_law 743 = .ok (.iadd, 1) := by decide +kernel
theorem dL_law_744 : decode cL_law 744 = .ok (.iaload, 1) := by decide +kernel
theorem dL_law_745 : decode cL_law 745 = .ok ((.invokevirtual 80), 3) := by decide +kernel
theorem dL_law_748 : decode cL_law 748 = .ok ((.aload_n 2), 1) := by decide +kernel
theorem dL_law_749 : decode cL_law 749 = .ok ((.aload_n 0), 1) := by decide +kernel
theorem dL_law_750 : decode cL_law 750 = .ok ((.iload_n 3), 1) := by decide +kernel
theorem dL_law_751 : decode cL_law 751 = .ok ((.iconst 1), 1) := by decide +kernel
theorem dL_law_752 : decode cL_law 752 = .ok (.iadd, 1) := by decide +kernel
theorem dL_law_753 : decode cL_law 753 = .ok (.iaload, 1) := by decide +kernel
theorem dL_law_754 : decode cL_law 754 = .ok ((.invokevirtual 83), 3) := by decide +kernel
theorem dL_law_757 : decode cL_law 757 = .ok ((.if_icmp .eq 1182), 3) := by decide +kernel
theorem dL_law_760 : decode cL_law 760 = .ok ((.iconst 0), 1) := by decide +kernel
theorem dL_law_761 : decode cL_law 761 = .ok (.ireturn, 1) := by decide +kernel
theorem dL_law_762 : decode cL_law 762 = .ok ((.aload_n 1), 1) := by decide +kernel
theorem dL_law_763 : decode cL_law 763 = .ok ((.aload_n 0), 1) := by decide +kernel
theorem dL_law_764 : decode cL_law 764 = .ok ((.iload_n 3), 1) := by decide +kernel
theorem dL_law_765 : decode cL_law 765 = .ok ((.iconst 1), 1) := by decide +kernel
theorem dL_law_766 : decode cL_law 766 = .ok (.iadd, 1) := by decide +kernel
theorem dL_law_767 : decode cL_law 767 = .ok (.iaload, 1) := by decide +kernel
theorem dL_law_768 : decode cL_law 768 = .ok ((.aload_n 0), 1) := by decide +kernel
theorem dL_law_769 : decode cL_law 769 = .ok ((.iload_n 3), 1) := by decide +kernel
theorem dL_law_770 : decode cL_law 770 = .ok ((.iconst 2), 1) := by decide +kernel
theorem dL_law_771 : decode cL_law 771 = .ok (.iadd, 1) := by decide +kernel
theorem dL_law_772 : decode cL_law 772 = .ok (.iaload, 1) := by decide +kernel
theorem dL_law_773 : decode cL_law 773 = .ok ((.aload_n 0), 1) := by decide +kernel
theorem dL_law_774 : decode cL_law 774 = .ok ((.iload_n 3), 1) := by decide +kernel
theorem dL_law_775 : decode cL_law 775 = .ok ((.iconst 3), 1) := by decide +kernel
theorem dL_law_776 : decode cL_law 776 = .ok (.iadd, 1) := by decide +kernel
theorem dL_law_777 : decode cL_law 777 = .ok (.iaload, 1) := by decide +kernel
theorem dL_law_778 : decode cL_law 778 = .ok ((.invokevirtual 84), 3) := by decide +kernel
theorem dL_law_781 : decode cL_law 781 = .ok ((.aload_n 2), 1) := by decide +kernel
theorem dL_law_782 : decode cL_law 782 = .ok ((.aload_n 0), 1) := by decide +kernel
theorem dL_law_783 : decode cL_law 783 = .ok ((.iload_n 3), 1) := by decide +kernel
theorem dL_law_784 : decode cL_law 784 = .ok ((.iconst 1), 1) := by decide +kernel
theorem dL_law_785 : decode cL_law 785 = .ok (.iadd, 1) := by decide +kernel
theorem dL_law_786 : decode cL_law 786 = .ok (.iaload, 1) := by decide +kernel
theorem dL_law_787 : decode cL_law 787 = .ok ((.aload_n 0), 1) := by decide +kernel
theorem dL_law_788 : decode cL_law 788 = .ok ((.iload_n 3), 1) := by decide +kernel
theorem dL_law_789 : decode cL_law 789 = .ok ((.iconst 2), 1) := by decide +kernel
theorem dL_law_790 : decode cL_law 790 = .ok (.iadd, 1) := by decide +kernel
theorem dL_law_791 : decode cL_law 791 = .ok (.iaload, 1) := by decide +kernel
theorem dL_law_792 : decode cL_law 792 = .ok ((.aload_n 0), 1) := by decide +kernel
theorem dL_law_793 : decode cL_law 793 = .ok ((.iload_n 3), 1) := by decide +kernel
theorem dL_law_794 : decode cL_law 794 = .ok ((.iconst 3), 1) := by decide +kernel
theorem dL_law_795 : decode cL_law 795 = .ok (.iadd, 1) := by decide +kernel
theorem dL_law_796 : decode cL_law 796 = .ok (.iaload, 1) := by decide +kernel
theorem dL_law_797 : decode cL_law 797 = .ok ((.invokevirtual 88), 3) := by decide +kernel
theorem dL_law_800 : decode cL_law 800 = .ok ((.if_icmp .eq 1139), 3) := by decide +kernel
theorem dL_law_803 : decode cL_law 803 = .ok ((.iconst 0), 1) := by decide +kernel
theorem dL_law_804 : decode cL_law 804 = .ok (.ireturn, 1) := by decide +kernel
theorem dL_law_805 : decode cL_law 805 = .ok ((.aload_n 1), 1) := by decide +kernel
theorem dL_law_806 : decode cL_law 806 = .ok ((.aload_n 0), 1) := by decide +kernel
theorem dL_law_807 : decode cL_law 807 = .ok ((.iload_n 3), 1) := by decide +kernel
theorem dL_law_808 : decode cL_law 808 = .ok ((.iconst 1), 1) := by decide +kernel
theorem dL_law_809 : decode cL_law 809 = .ok (.iadd, 1) := by decide +kernel
theorem dL_law_810 : decode cL_law 810 = .ok (.iaload, 1) := by decide +kernel
theorem dL_law_811 : decode cL_law 811 = .ok ((.aload_n 0), 1) := by decide +kernel
theorem dL_law_812 : decode cL_law 812 = .ok ((.iload_n 3), 1) := by decide +kernel
theorem dL_law_813 : decode cL_law 813 = .ok ((.iconst 2), 1) := by decide +kernel
theorem dL_law_814 : decode cL_law 814 = .ok (.iadd, 1) := by decide +kernel
theorem dL_law_815 : decode cL_law 815 = .ok (.iaload, 1) := by decide +kernel
theorem dL_law_816 : decode cL_law 816 = .ok ((.aload_n 0), 1) := by decide +kernel
theorem dL_law_817 : decode cL_law 817 = .ok ((.iload_n 3), 1) := by decide +kernel
theorem dL_law_818 : decode cL_law 818 = .ok ((.iconst 3), 1) := by decide +kernel
theorem dL_law_819 : decode cL_law 819 = .ok (.iadd, 1) := by decide +kernel
theorem dL_law_820 : decode cL_law 820 = .ok (.iaload, 1) := by decide +kernel
theorem dL_law_821 : decode cL_law 821 = .ok ((.invokevirtual 89), 3) := by decide +kernel
theorem dL_law_824 : decode cL_law 824 = .ok ((.aload_n 2), 1) := by decide +kernel
theorem dL_law_825 : decode cL_law 825 = .ok ((.aload_n 0), 1) := by decide +kernel
theorem dL_law_826 : decode cL_law 826 = .ok ((.iload_n 3), 1) := by decide +kernel
theorem dL_law_827 : decode cL_law 827 = .ok ((.iconst 1), 1) := by decide +kernel
theorem dL_law_828 : decode cL_law 828 = .ok (.iadd, 1) := by decide +kernel
theorem dL_law_829 : decode cL_law 829 = .ok (.iaload, 1) := by decide +kernel
theorem dL_law_830 : decode cL_law 830 = .ok ((.aload_n 0), 1) := by decide +kernel
theorem dL_law_831 : decode cL_law 831 = .ok ((.iload_n 3), 1) := by decide +kernel
theorem dL_law_832 : decode cL_law 832 = .ok ((.iconst 2), 1) := by decide +kernel
theorem dL_law_833 : decode cL_law 833 = .ok (.iadd, 1) := by decide +kernel
theorem dL_law_834 : decode cL_law 834 = .ok (.iaload, 1) := by decide +kernel
theorem dL_law_835 : decode cL_law 835 = .ok ((.aload_n 0), 1) := by decide +kernel
theorem dL_law_836 : decode cL_law 836 = .ok ((.iload_n 3), 1) := by decide +kernel
theorem dL_law_837 : decode cL_law 837 = .ok ((.iconst 3), 1) := by decide +kernel
theorem dL_law_838 : decode cL_law 838 = .ok (.iadd, 1) := by decide +kernel
theorem dL_law_839 : decode cL_law 839 = .ok (.iaload, 1) := by decide +kernel
theorem dL_law_840 : decode cL_law 840 = .ok ((.invokevirtual 92), 3) := by decide +kernel
theorem dL_law_843 : decode cL_law 843 = .ok ((.if_icmp .eq 1096), 3) := by decide +kernel
theorem dL_law_846 : decode cL_law 846 = .ok ((.iconst 0), 1) := by decide +kernel
theorem dL_law_847 : decode cL_law 847 = .ok (.ireturn, 1) := by decide +kernel
theorem dL_law_848 : decode cL_law 848 = .ok ((.aload_n 1), 1) := by decide +kernel
theorem dL_law_849 : decode cL_law 849 = .ok ((.aload_n 0), 1) := by decide +kernel
theorem dL_law_850 : decode cL_law 850 = .ok ((.iload_n 3), 1) := by decide +kernel
theorem dL_law_851 : decode cL_law 851 = .ok ((.iconst 1), 1) := by decide +kernel
theorem dL_law_852 : decode cL_law 852 = .ok (.iadd, 1) := by decide +kernel
theorem dL_law_853 : decode cL_law 853 = .ok (.iaload, 1) := by decide +kernel
theorem dL_law_854 : decode cL_law 854 = .ok ((.aload_n 0), 1) := by decide +kernel
theorem dL_law_855 : decode cL_law 855 = .ok ((.iload_n 3), 1) := by decide +kernel
theorem dL_law_856 : decode cL_law 856 = .ok ((.iconst 2), 1) := by decide +kernel
theorem dL_law_857 : decode cL_law 857 = .ok (.iadd, 1) := by decide +kernel
theorem dL_law_858 : decode cL_law 858 = .ok (.iaload, 1) := by decide +kernel
theorem dL_law_859 : decode cL_law 859 = .ok ((.aload_n 0), 1) := by decide +kernel
theorem dL_law_860 : decode cL_law 860 = .ok ((.iload_n 3), 1) := by decide +kernel
theorem dL_law_861 : decode cL_law 861 = .ok ((.iconst 3), 1) := by decide +kernel
theorem dL_law_862 : decode cL_law 862 = .ok (.iadd, 1) := by decide +kernel
theorem dL_law_863 : decode cL_law 863 = .ok (.iaload, 1) := by decide +kernel
theorem dL_law_864 : decode cL_law 864 = .ok ((.invokevirtual 93), 3) := by decide +kernel
theorem dL_law_867 : decode cL_law 867 = .ok ((.aload_n 2), 1) := by decide +kernel
theorem dL_law_868 : decode cL_law 868 = .ok ((.aload_n 0), 1) := by decide +kernel
theorem dL_law_869 : decode cL_law 869 = .ok ((.iload_n 3), 1) := by decide +kernel
theorem dL_law_870 : decode cL_law 870 = .ok ((.iconst 1), 1) := by decide +kernel
theorem dL_law_871 : decode cL_law 871 = .ok (.iadd, 1) := by decide +kernel
theorem dL_law_872 : decode cL_law 872 = .ok (.iaload, 1) := by decide +kernel
theorem dL_law_873 : decode cL_law 873 = .ok ((.aload_n 0), 1) := by decide +kernel
theorem dL_law_874 : decode cL_law 874 = .ok ((.iload_n 3), 1) := by decide +kernel
theorem dL_law_875 : decode cL_law 875 = .ok ((.iconst 2), 1) := by decide +kernel
theorem dL_law_876 : decode cL_law 876 = .ok (.iadd, 1) := by decide +kernel
theorem dL_law_877 : decode cL_law 877 = .ok (.iaload, 1) := by decide +kernel
theorem dL_law_878 : decode cL_law 878 = .ok ((.aload_n 0), 1) := by decide +kernel
theorem dL_law_879 : decode cL_law 879 = .ok ((.iload_n 3), 1) := by decide +kernel
theorem dL_law_880 : decode cL_law 880 = .ok ((.iconst 3), 1) := by decide +kernel
theorem dL_law_881 : decode cL_law 881 = .ok (.iadd, 1) := by decide +kernel
theorem dL_law_882 : decode cL_law 882 = .ok (.iaload, 1) := by decide +kernel
theorem dL_law_883 : decode cL_law 883 = .ok ((.invokevirtual 96), 3) := by decide +kernel
theorem dL_law_886 : decode cL_law 886 = .ok ((.if_icmp .eq 1053), 3) := by decide +kernel
theorem dL_law_889 : decode cL_law 889 = .ok ((.iconst 0), 1) := by decide +kernel
theorem dL_law_890 : decode cL_law 890 = .ok (.ireturn, 1) := by decide +kernel
theorem dL_law_891 : decode cL_law 891 = .ok ((.aload_n 1), 1) := by decide +kernel
theorem dL_law_892 : decode cL_law 892 = .ok ((.aload_n 0), 1) := by decide +kernel
theorem dL_law_893 : decode cL_law 893 = .ok ((.iload_n 3), 1) := by decide +kernel
theorem dL_law_894 : decode cL_law 894 = .ok ((.iconst 1), 1) := by decide +kernel
theorem dL_law_895 : decode cL_law 895 = .ok (.iadd, 1) := by decide +kernel
theorem dL_law_896 : decode cL_law 896 = .ok (.iaload, 1) := by decide +kernel
theorem dL_law_897 : decode cL_law 897 = .ok ((.aload_n 0), 1) := by decide +kernel
theorem dL_law_898 : decode cL_law 898 = .ok ((.iload_n 3), 1) := by decide +kernel
theorem dL_law_899 : decode cL_law 899 = .ok ((.iconst 2), 1) := by decide +kernel
theorem dL_law_900 : decode cL_law 900 = .ok (.iadd, 1) := by decide +kernel
theorem dL_law_901 : decode cL_law 901 = .ok (.iaload, 1) := by decide +kernel
theorem dL_law_902 : decode cL_law 902 = .ok ((.aload_n 0), 1) := by decide +kernel
theorem dL_law_903 : decode cL_law 903 = .ok ((.iload_n 3), 1) := by decide +kernel
theorem dL_law_904 : decode cL_law 904 = .ok ((.iconst 3), 1) := by decide +kernel
theorem dL_law_905 : decode cL_law 905 = .ok (.iadd, 1) := by decide +kernel
theorem dL_law_906 : decode cL_law 906 = .ok (.iaload, 1) := by decide +kernel
theorem dL_law_907 : decode cL_law 907 = .ok ((.invokevirtual 97), 3) := by decide +kernel
theorem dL_law_910 : decode cL_law 910 = .ok ((.aload_n 2), 1) := by decide +kernel
theorem dL_law_911 : decode cL_law 911 = .ok ((.aload_n 0), 1) := by decide +kernel
theorem dL_law_912 : decode cL_law 912 = .ok ((.iload_n 3), 1) := by decide +kernel
theorem dL_law_913 : decode cL_law 913 = .ok ((.iconst 1), 1) := by decide +kernel
theorem dL_law_914 : decode cL_law 914 = .ok (.iadd, 1) := by decide +kernel
theorem dL_law_915 : decode cL_law 915 = .ok (.iaload, 1) := by decide +kernel
theorem dL_law_916 : decode cL_law 916 = .ok ((.aload_n 0), 1) := by decide +kernel
theorem dL_law_917 : decode cL_law 917 = .ok ((.iload_n 3), 1) := by decide +kernel
theorem dL_law_918 : decode cL_law 918 = .ok ((.iconst 2), 1) := by decide +kernel
theorem dL_law_919 : decode cL_law 919 = .ok (.iadd, 1) := by decide +kernel
theorem dL_law_920 : decode cL_law 920 = .ok (.iaload, 1) := by decide +kernel
theorem dL_law_921 : decode cL_law 921 = .ok ((.aload_n 0), 1) := by decide +kernel
theorem dL_law_922 : decode cL_law 922 = .ok ((.iload_n 3), 1) := by decide +kernel
theorem dL_law_923 : decode cL_law 923 = .ok ((.iconst 3), 1) := by decide +kernel
theorem dL_law_924 : decode cL_law 924 = .ok (.iadd, 1) := by decide +kernel
theorem dL_law_925 : decode cL_law 925 = .ok (.iaload, 1) := by decide +kernel
theorem dL_law_926 : decode cL_law 926 = .ok ((.invokevirtual 100), 3) := by decide +kernel
theorem dL_law_929 : decode cL_law 929 = .ok ((.if_icmp .eq 1010), 3) := by decide +kernel
theorem dL_law_932 : decode cL_law 932 = .ok ((.iconst 0), 1) := by decide +kernel
theorem dL_law_933 : decode cL_law 933 = .ok (.ireturn, 1) := by decide +kernel
theorem dL_law_934 : decode cL_law 934 = .ok ((.aload_n 1), 1) := by decide +kernel
theorem dL_law_935 : decode cL_law 935 = .ok ((.aload_n 0), 1) := by decide +kernel
theorem dL_law_936 : decode cL_law 936 = .ok ((.iload_n 3), 1) := by decide +kernel
theorem dL_law_937 : decode cL_law 937 = .ok ((.iconst 1), 1) := by decide +kernel
theorem dL_law_938 : decode cL_law 938 = .ok (.iadd, 1) := by decide +kernel
theorem dL_law_939 : decode cL_law 939 = .ok (.iaload, 1) := by decide +kernel
theorem dL_law_940 : decode cL_law 940 = .ok ((.invokevirtual 101), 3) := by decide +kernel
theorem dL_law_943 : decode cL_law 943 = .ok ((.aload_n 2), 1) := by decide +kernel
theorem dL_law_944 : decode cL_law 944 = .ok ((.aload_n 0), 1) := by decide +kernel
theorem dL_law_945 : decode cL_law 945 = .ok ((.iload_n 3), 1) := by decide +kernel
theorem dL_law_946 : decode cL_law 946 = .ok ((.iconst 1), 1) := by decide +kernel
theorem dL_law_947 : decode cL_law 947 = .ok (.iadd, 1) := by decide +kernel
theorem dL_law_948 : decode cL_law 948 = .ok (.iaload, 1) := by decide +kernel
theorem dL_law_949 : decode cL_law 949 = .ok ((.invokevirtual 105), 3) := by decide +kernel
theorem dL_law_952 : decode cL_law 952 = .ok ((.if_icmp .eq 987), 3) := by decide +kernel
theorem dL_law_955 : decode cL_law 955 = .ok ((.iconst 0), 1) := by decide +kernel
theorem dL_law_956 : decode cL_law 956 = .ok (.ireturn, 1) := by decide +kernel
theorem dL_law_957 : decode cL_law 957 = .ok ((.aload_n 1), 1) := by decide +kernel
theorem dL_law_958 : decode cL_law 958 = .ok ((.aload_n 0), 1) := by decide +kernel
theorem dL_law_959 : decode cL_law 959 = .ok ((.iload_n 3), 1) := by decide +kernel
theorem dL_law_960 : decode cL_law 960 = .ok ((.iconst 1), 1) := by decide +kernel
theorem dL_law_961 : decode cL_law 961 = .ok (.iadd, 1) := by decide +kernel
theorem dL_law_962 : decode cL_law 962 = .ok (.iaload, 1) := by decide +kernel
theorem dL_law_963 : decode cL_law 963 = .ok ((.aload_n 0), 1) := by decide +kernel
theorem dL_law_964 : decode cL_law 964 = .ok ((.iload_n 3), 1) := by decide +kernel
theorem dL_law_965 : decode cL_law 965 = .ok ((.iconst 2), 1) := by decide +kernel
theorem dL_law_966 : decode cL_law 966 = .ok (.iadd, 1) := by decide +kernel
theorem dL_law_967 : decode cL_law 967 = .ok (.iaload, 1) := by decide +kernel
theorem dL_law_968 : decode cL_law 968 = .ok ((.invokevirtual 106), 3) := by decide +kernel
theorem dL_law_971 : decode cL_law 971 = .ok ((.aload_n 2), 1) := by decide +kernel
theorem dL_law_972 : decode cL_law 972 = .ok ((.aload_n 0), 1) := by decide +kernel
theorem dL_law_973 : decode cL_law 973 = .ok ((.iload_n 3), 1) := by decide +kernel
theorem dL_law_974 : decode cL_law 974 = .ok ((.iconst 1), 1) := by decide +kernel
theorem dL_law_975 : decode cL_law 975 = .ok (.iadd, 1) := by decide +kernel
theorem dL_law_976 : decode cL_law 976 = .ok (.iaload, 1) := by decide +kernel
theorem dL_law_977 : decode cL_law 977 = .ok ((.aload_n 0), 1) := by decide +kernel
theorem dL_law_978 : decode cL_law 978 = .ok ((.iload_n 3), 1) := by decide +kernel
theorem dL_law_979 : decode cL_law 979 = .ok ((.iconst 2), 1) := by decide +kernel
theorem dL_law_980 : decode cL_law 980 = .ok (.iadd, 1) := by decide +kernel
theorem dL_law_981 : decode cL_law 981 = .ok (.iaload, 1) := by decide +kernel
theorem dL_law_982 : decode cL_law 982 = .ok ((.invokevirtual 110), 3) := by decide +kernel
theorem dL_law_985 : decode cL_law 985 = .ok ((.if_icmp .eq 954), 3) := by decide +kernel
theorem dL_law_988 : decode cL_law 988 = .ok ((.iconst 0), 1) := by decide +kernel
theorem dL_law_989 : decode cL_law 989 = .ok (.ireturn, 1) := by decide +kernel
theorem dL_law_990 : decode cL_law 990 = .ok ((.aload_n 1), 1) := by decide +kernel
theorem dL_law_991 : decode cL_law 991 = .ok ((.aload_n 0), 1) := by decide +kernel
theorem dL_law_992 : decode cL_law 992 = .ok ((.iload_n 3), 1) := by decide +kernel
theorem dL_law_993 : decode cL_law 993 = .ok ((.iconst 1), 1) := by decide +kernel
theorem dL_law_994 : decode cL_law 994 = .ok (.iadd, 1) := by decide +kernel
theorem dL_law_995 : decode cL_law 995 = .ok (.iaload, 1) := by decide +kernel
theorem dL_law_996 : decode cL_law 996 = .ok ((.aload_n 0), 1) := by decide +kernel
theorem dL_law_997 : decode cL_law 997 = .ok ((.iload_n 3), 1) := by decide +kernel
theorem dL_law_998 : decode cL_law 998 = .ok ((.iconst 2), 1) := by decide +kernel
theorem dL_law_999 : decode cL_law 999 = .ok (.iadd, 1) := by decide +kernel
theorem dL_law_1000 : decode cL_law 1000 = .ok (.iaload, 1) := by decide +kernel
theorem dL_law_1001 : decode cL_law 1001 = .ok ((.invokevirtual 111), 3) := by decide +kernel
theorem dL_law_1004 : decode cL_law 1004 = .ok ((.aload_n 2), 1) := by decide +kernel
theorem dL_law_1005 : decode cL_law 1005 = .ok ((.aload_n 0), 1) := by decide +kernel
theorem dL_law_1006 : decode cL_law 1006 = .ok ((.iload_n 3), 1) := by decide +kernel
theorem dL_law_1007 : decode cL_law 1007 = .ok ((.iconst 1), 1) := by decide +kernel
theorem dL_law_1008 : decode cL_law 1008 = .ok (.iadd, 1) := by decide +kernel
theorem dL_law_1009 : decode cL_law 1009 = .ok (.iaload, 1) := by decide +kernel
theorem dL_law_1010 : decode cL_law 1010 = .ok ((.aload_n 0), 1) := by decide +kernel
theorem dL_law_1011 : decode cL_law 1011 = .ok ((.iload_n 3), 1) := by decide +kernel
theorem dL_law_1012 : decode cL_law 1012 = .ok ((.iconst 2), 1) := by decide +kernel
theorem dL_law_1013 : decode cL_law 1013 = .ok (.iadd, 1) := by decide +kernel
theorem dL_law_1014 : decode cL_law 1014 = .ok (.iaload, 1) := by decide +kernel
theorem dL_law_1015 : decode cL_law 1015 = .ok ((.invokevirtual 114), 3) := by decide +kernel
theorem dL_law_1018 : decode cL_law 1018 = .ok ((.if_icmp .eq 921), 3) := by decide +kernel
theorem dL_law_1021 : decode cL_law 1021 = .ok ((.iconst 0), 1) := by decide +kernel
theorem dL_law_1022 : decode cL_law 1022 = .ok (.ireturn, 1) := by decide +kernel
theorem dL_law_1023 : decode cL_law 1023 = .ok ((.aload_n 1), 1) := by decide +kernel
theorem dL_law_1024 : decode cL_law 1024 = .ok ((.aload_n 0), 1) := by decide +kernel
theorem dL_law_1025 : decode cL_law 1025 = .ok ((.iload_n 3), 1) := by decide +kernel
theorem dL_law_1026 : decode cL_law 1026 = .ok ((.iconst 1), 1) := by decide +kernel
theorem dL_law_1027 : decode cL_law 1027 = .ok (.iadd, 1) := by decide +kernel
theorem dL_law_1028 : decode cL_law 1028 = .ok (.iaload, 1) := by decide +kernel
theorem dL_law_1029 : decode cL_law 1029 = .ok ((.aload_n 0), 1) := by decide +kernel
theorem dL_law_1030 : decode cL_law 1030 = .ok ((.iload_n 3), 1) := by decide +kernel
theorem dL_law_1031 : decode cL_law 1031 = .ok ((.iconst 2), 1) := by decide +kernel
theorem dL_law_1032 : decode cL_law 1032 = .ok (.iadd, 1) := by decide +kernel
theorem dL_law_1033 : decode cL_law 1033 = .ok (.iaload, 1) := by decide +kernel
theorem dL_law_1034 : decode cL_law 1034 = .ok ((.invokevirtual 115), 3) := by decide +kernel
theorem dL_law_1037 : decode cL_law 1037 = .ok ((.aload_n 2), 1) := by decide +kernel
theorem dL_law_1038 : decode cL_law 1038 = .ok ((.aload_n 0), 1) := by decide +kernel
theorem dL_law_1039 : decode cL_law 1039 = .ok ((.iload_n 3), 1) := by decide +kernel
theorem dL_law_1040 : decode cL_law 1040 = .ok ((.iconst 1), 1) := by decide +kernel
theorem dL_law_1041 : decode cL_law 1041 = .ok (.iadd, 1) := by decide +kernel
theorem dL_law_1042 : decode cL_law 1042 = .ok (.iaload, 1) := by decide +kernel
theorem dL_law_1043 : decode cL_law 1043 = .ok ((.aload_n 0), 1) := by decide +kernel
theorem dL_law_1044 : decode cL_law 1044 = .ok ((.iload_n 3), 1) := by decide +kernel
theorem dL_law_1045 : decode cL_law 1045 = .ok ((.iconst 2), 1) := by decide +kernel
theorem dL_law_1046 : decode cL_law 1046 = .ok (.iadd, 1) := by decide +kernel
theorem dL_law_1047 : decode cL_law 1047 = .ok (.iaload, 1) := by decide +kernel
theorem dL_law_1048 : decode cL_law 1048 = .ok ((.invokevirtual 118), 3) := by decide +kernel
theorem dL_law_1051 : decode cL_law 1051 = .ok ((.if_icmp .eq 888), 3) := by decide +kernel
theorem dL_law_1054 : decode cL_law 1054 = .ok ((.iconst 0), 1) := by decide +kernel
theorem dL_law_1055 : decode cL_law 1055 = .ok (.ireturn, 1) := by decide +kernel
theorem dL_law_1056 : decode cL_law 1056 = .ok ((.aload_n 1), 1) := by decide +kernel
theorem dL_law_1057 : decode cL_law 1057 = .ok ((.aload_n 0), 1) := by decide +kernel
theorem dL_law_1058 : decode cL_law 1058 = .ok ((.iload_n 3), 1) := by decide +kernel
theorem dL_law_1059 : decode cL_law 1059 = .ok ((.iconst 1), 1) := by decide +kernel
theorem dL_law_1060 : decode cL_law 1060 = .ok (.iadd, 1) := by decide +kernel
theorem dL_law_1061 : decode cL_law 1061 = .ok (.iaload, 1) := by decide +kernel
theorem dL_law_1062 : decode cL_law 1062 = .ok ((.aload_n 0), 1) := by decide +kernel
theorem dL_law_1063 : decode cL_law 1063 = .ok ((.iload_n 3), 1) := by decide +kernel
theorem dL_law_1064 : decode cL_law 1064 = .ok ((.iconst 2), 1) := by decide +kernel
theorem dL_law_1065 : decode cL_law 1065 = .ok (.iadd, 1) := by decide +kernel
theorem dL_law_1066 : decode cL_law 1066 = .ok (.iaload, 1) := by decide +kernel
theorem dL_law_1067 : decode cL_law 1067 = .ok ((.invokevirtual 119), 3) := by decide +kernel
theorem dL_law_1070 : decode cL_law 1070 = .ok ((.aload_n 2), 1) := by decide +kernel
theorem dL_law_1071 : decode cL_law 1071 = .ok ((.aload_n 0), 1) := by decide +kernel
theorem dL_law_1072 : decode cL_law 1072 = .ok ((.iload_n 3), 1) := by decide +kernel
theorem dL_law_1073 : decode cL_law 1073 = .ok ((.iconst 1), 1) := by decide +kernel
theorem dL_law_1074 : decode cL_law 1074 = .ok (.iadd, 1) := by decide +kernel
theorem dL_law_1075 : decode cL_law 1075 = .ok (.iaload, 1) := by decide +kernel
theorem dL_law_1076 : decode cL_law 1076 = .ok ((.aload_n 0), 1) := by decide +kernel
theorem dL_law_1077 : decode cL_law 1077 = .ok ((.iload_n 3), 1) := by decide +kernel
theorem dL_law_1078 : decode cL_law 1078 = .ok ((.iconst 2), 1) := by decide +kernel
theorem dL_law_1079 : decode cL_law 1079 = .ok (.iadd, 1) := by decide +kernel
theorem dL_law_1080 : decode cL_law 1080 = .ok (.iaload, 1) := by decide +kernel
theorem dL_law_1081 : decode cL_law 1081 = .ok ((.invokevirtual 122), 3) := by decide +kernel
theorem dL_law_1084 : decode cL_law 1084 = .ok ((.if_icmp .eq 855), 3) := by decide +kernel
theorem dL_law_1087 : decode cL_law 1087 = .ok ((.iconst 0), 1) := by decide +kernel
theorem dL_law_1088 : decode cL_law 1088 = .ok (.ireturn, 1) := by decide +kernel
theorem dL_law_1089 : decode cL_law 1089 = .ok ((.aload_n 1), 1) := by decide +kernel
theorem dL_law_1090 : decode cL_law 1090 = .ok ((.aload_n 0), 1) := by decide +kernel
theorem dL_law_1091 : decode cL_law 1091 = .ok ((.iload_n 3), 1) := by decide +kernel
theorem dL_law_1092 : decode cL_law 1092 = .ok ((.iconst 1), 1) := by decide +kernel
theorem dL_law_1093 : decode cL_law 1093 = .ok (.iadd, 1) := by decide +kernel
theorem dL_law_1094 : decode cL_law 1094 = .ok (.iaload, 1) := by decide +kernel
theorem dL_law_1095 : decode cL_law 1095 = .ok ((.aload_n 0), 1) := by decide +kernel
theorem dL_law_1096 : decode cL_law 1096 = .ok ((.iload_n 3), 1) := by decide +kernel
theorem dL_law_1097 : decode cL_law 1097 = .ok ((.iconst 2), 1) := by decide +kernel
theorem dL_law_1098 : decode cL_law 1098 = .ok (.iadd, 1) := by decide +kernel
theorem dL_law_1099 : decode cL_law 1099 = .ok (.iaload, 1) := by decide +kernel
theorem dL_law_1100 : decode cL_law 1100 = .ok ((.invokevirtual 123), 3) := by decide +kernel
theorem dL_law_1103 : decode cL_law 1103 = .ok ((.aload_n 2), 1) := by decide +kernel
theorem dL_law_1104 : decode cL_law 1104 = .ok ((.aload_n 0), 1) := by decide +kernel
theorem dL_law_1105 : decode cL_law 1105 = .ok ((.iload_n 3), 1) := by decide +kernel
theorem dL_law_1106 : decode cL_law 1106 = .ok ((.iconst 1), 1) := by decide +kernel
theorem dL_law_1107 : decode cL_law 1107 = .ok (.iadd, 1) := by decide +kernel
theorem dL_law_1108 : decode cL_law 1108 = .ok (.iaload, 1) := by decide +kernel
theorem dL_law_1109 : decode cL_law 1109 = .ok ((.aload_n 0), 1) := by decide +kernel
theorem dL_law_1110 : decode cL_law 1110 = .ok ((.iload_n 3), 1) := by decide +kernel
theorem dL_law_1111 : decode cL_law 1111 = .ok ((.iconst 2), 1) := by decide +kernel
theorem dL_law_1112 : decode cL_law 1112 = .ok (.iadd, 1) := by decide +kernel
theorem dL_law_1113 : decode cL_law 1113 = .ok (.iaload, 1) := by decide +kernel
theorem dL_law_1114 : decode cL_law 1114 = .ok ((.invokevirtual 126), 3) := by decide +kernel
theorem dL_law_1117 : decode cL_law 1117 = .ok ((.if_icmp .eq 822), 3) := by decide +kernel
theorem dL_law_1120 : decode cL_law 1120 = .ok ((.iconst 0), 1) := by decide +kernel
theorem dL_law_1121 : decode cL_law 1121 = .ok (.ireturn, 1) := by decide +kernel
theorem dL_law_1122 : decode cL_law 1122 = .ok ((.aload_n 1), 1) := by decide +kernel
theorem dL_law_1123 : decode cL_law 1123 = .ok ((.aload_n 0), 1) := by decide +kernel
theorem dL_law_1124 : decode cL_law 1124 = .ok ((.iload_n 3), 1) := by decide +kernel
theorem dL_law_1125 : decode cL_law 1125 = .ok ((.iconst 1), 1) := by decide +kernel
theorem dL_law_1126 : decode cL_law 1126 = .ok (.iadd, 1) := by decide +kernel
theorem dL_law_1127 : decode cL_law 1127 = .ok (.iaload, 1) := by decide +kernel
theorem dL_law_1128 : decode cL_law 1128 = .ok ((.aload_n 0), 1) := by decide +kernel
theorem dL_law_1129 : decode cL_law 1129 = .ok ((.iload_n 3), 1) := by decide +kernel
theorem dL_law_1130 : decode cL_law 1130 = .ok ((.iconst 2), 1) := by decide +kernel
theorem dL_law_1131 : decode cL_law 1131 = .ok (.iadd, 1) := by decide +kernel
theorem dL_law_1132 : decode cL_law 1132 = .ok (.iaload, 1) := by decide +kernel
theorem dL_law_1133 : decode cL_law 1133 = .ok ((.aload_n 0), 1) := by decide +kernel
theorem dL_law_1134 : decode cL_law 1134 = .ok ((.iload_n 3), 1) := by decide +kernel
theorem dL_law_1135 : decode cL_law 1135 = .ok ((.iconst 3), 1) := by decide +kernel
theorem dL_law_1136 : decode cL_law 1136 = .ok (.iadd, 1) := by decide +kernel
theorem dL_law_1137 : decode cL_law 1137 = .ok (.iaload, 1) := by decide +kernel
theorem dL_law_1138 : decode cL_law 1138 = .ok ((.invokevirtual 127), 3) := by decide +kernel
theorem dL_law_1141 : decode cL_law 1141 = .ok ((.aload_n 2), 1) := by decide +kernel
theorem dL_law_1142 : decode cL_law 1142 = .ok ((.aload_n 0), 1) := by decide +kernel
theorem dL_law_1143 : decode cL_law 1143 = .ok ((.iload_n 3), 1) := by decide +kernel
theorem dL_law_1144 : decode cL_law 1144 = .ok ((.iconst 1), 1) := by decide +kernel
theorem dL_law_1145 : decode cL_law 1145 = .ok (.iadd, 1) := by decide +kernel
theorem dL_law_1146 : decode cL_law 1146 = .ok (.iaload, 1) := by decide +kernel
theorem dL_law_1147 : decode cL_law 1147 = .ok ((.aload_n 0), 1) := by decide +kernel
theorem dL_law_1148 : decode cL_law 1148 = .ok ((.iload_n 3), 1) := by decide +kernel
theorem dL_law_1149 : decode cL_law 1149 = .ok ((.iconst 2), 1) := by decide +kernel
theorem dL_law_1150 : decode cL_law 1150 = .ok (.iadd, 1) := by decide +kernel
theorem dL_law_1151 : decode cL_law 1151 = .ok (.iaload, 1) := by decide +kernel
theorem dL_law_1152 : decode cL_law 1152 = .ok ((.aload_n 0), 1) := by decide +kernel
theorem dL_law_1153 : decode cL_law 1153 = .ok ((.iload_n 3), 1) := by decide +kernel
theorem dL_law_1154 : decode cL_law 1154 = .ok ((.iconst 3), 1) := by decide +kernel
theorem dL_law_1155 : decode cL_law 1155 = .ok (.iadd, 1) := by decide +kernel
theorem dL_law_1156 : decode cL_law 1156 = .ok (.iaload, 1) := by decide +kernel
theorem dL_law_1157 : decode cL_law 1157 = .ok ((.invokevirtual 130), 3) := by decide +kernel
theorem dL_law_1160 : decode cL_law 1160 = .ok ((.if_icmp .eq 779), 3) := by decide +kernel
theorem dL_law_1163 : decode cL_law 1163 = .ok ((.iconst 0), 1) := by decide +kernel
theorem dL_law_1164 : decode cL_law 1164 = .ok (.ireturn, 1) := by decide +kernel
theorem dL_law_1165 : decode cL_law 1165 = .ok ((.aload_n 1), 1) := by decide +kernel
theorem dL_law_1166 : decode cL_law 1166 = .ok ((.aload_n 0), 1) := by decide +kernel
theorem dL_law_1167 : decode cL_law 1167 = .ok ((.iload_n 3), 1) := by decide +kernel
theorem dL_law_1168 : decode cL_law 1168 = .ok ((.iconst 1), 1) := by decide +kernel
theorem dL_law_1169 : decode cL_law 1169 = .ok (.iadd, 1) := by decide +kernel
theorem dL_law_1170 : decode cL_law 1170 = .ok (.iaload, 1) := by decide +kernel
theorem dL_law_1171 : decode cL_law 1171 = .ok ((.aload_n 0), 1) := by decide +kernel
theorem dL_law_1172 : decode cL_law 1172 = .ok ((.iload_n 3), 1) := by decide +kernel
theorem dL_law_1173 : decode cL_law 1173 = .ok ((.iconst 2), 1) := by decide +kernel
theorem dL_law_1174 : decode cL_law 1174 = .ok (.iadd, 1) := by decide +kernel
theorem dL_law_1175 : decode cL_law 1175 = .ok (.iaload, 1) := by decide +kernel
theorem dL_law_1176 : decode cL_law 1176 = .ok ((.invokevirtual 131), 3) := by decide +kernel
theorem dL_law_1179 : decode cL_law 1179 = .ok ((.aload_n 2), 1) := by decide +kernel
theorem dL_law_1180 : decode cL_law 1180 = .ok ((.aload_n 0), 1) := by decide +kernel
theorem dL_law_1181 : decode cL_law 1181 = .ok ((.iload_n 3), 1) := by decide +kernel
theorem dL_law_1182 : decode cL_law 1182 = .ok ((.iconst 1), 1) := by decide +kernel
theorem dL_law_1183 : decode cL_law 1183 = .ok (.iadd, 1) := by decide +kernel
theorem dL_law_1184 : decode cL_law 1184 = .ok (.iaload, 1) := by decide +kernel
theorem dL_law_1185 : decode cL_law 1185 = .ok ((.aload_n 0), 1) := by decide +kernel
theorem dL_law_1186 : decode cL_law 1186 = .ok ((.iload_n 3), 1) := by decide +kernel
theorem dL_law_1187 : decode cL_law 1187 = .ok ((.iconst 2), 1) := by decide +kernel
theorem dL_law_1188 : decode cL_law 1188 = .ok (.iadd, 1) := by decide +kernel
theorem dL_law_1189 : decode cL_law 1189 = .ok (.iaload, 1) := by decide +kernel
theorem dL_law_1190 : decode cL_law 1190 = .ok ((.invokevirtual 134), 3) := by decide +kernel
theorem dL_law_1193 : decode cL_law 1193 = .ok ((.if_icmp .eq 746), 3) := by decide +kernel
theorem dL_law_1196 : decode cL_law 1196 = .ok ((.iconst 0), 1) := by decide +kernel
theorem dL_law_1197 : decode cL_law 1197 = .ok (.ireturn, 1) := by decide +kernel
theorem dL_law_1198 : decode cL_law 1198 = .ok ((.aload_n 1), 1) := by decide +kernel
theorem dL_law_1199 : decode cL_law 1199 = .ok ((.aload_n 0), 1) := by decide +kernel
theorem dL_law_1200 : decode cL_law 1200 = .ok ((.iload_n 3), 1) := by decide +kernel
theorem dL_law_1201 : decode cL_law 1201 = .ok ((.iconst 1), 1) := by decide +kernel
theorem dL_law_1202 : decode cL_law 1202 = .ok (.iadd, 1) := by decide +kernel
theorem dL_law_1203 : decode cL_law 1203 = .ok (.iaload, 1) := by decide +kernel
theorem dL_law_1204 : decode cL_law 1204 = .ok ((.aload_n 0), 1) := by decide +kernel
theorem dL_law_1205 : decode cL_law 1205 = .ok ((.iload_n 3), 1) := by decide +kernel
theorem dL_law_1206 : decode cL_law 1206 = .ok ((.iconst 2), 1) := by decide +kernel
theorem dL_law_1207 : decode cL_law 1207 = .ok (.iadd, 1) := by decide +kernel
theorem dL_law_1208 : decode cL_law 1208 = .ok (.iaload, 1) := by decide +kernel
theorem dL_law_1209 : decode cL_law 1209 = .ok ((.invokevirtual 135), 3) := by decide +kernel
theorem dL_law_1212 : decode cL_law 1212 = .ok ((.aload_n 2), 1) := by decide +kernel
theorem dL_law_1213 : decode cL_law 1213 = .ok ((.aload_n 0), 1) := by decide +kernel
theorem dL_law_1214 : decode cL_law 1214 = .ok ((.iload_n 3), 1) := by decide +kernel
theorem dL_law_1215 : decode cL_law 1215 = .ok ((.iconst 1), 1) := by decide +kernel
theorem dL_law_1216 : decode cL_law 1216 = .ok (.iadd, 1) := by decide +kernel
theorem dL_law_1217 : decode cL_law 1217 = .ok (.iaload, 1) := by decide +kernel
theorem dL_law_1218 : decode cL_law 1218 = .ok ((.aload_n 0), 1) := by decide +kernel
theorem dL_law_1219 : decode cL_law 1219 = .ok ((.iload_n 3), 1) := by decide +kernel
theorem dL_law_1220 : decode cL_law 1220 = .ok ((.iconst 2), 1) := by decide +kernel
theorem dL_law_1221 : decode cL_law 1221 = .ok (.iadd, 1) := by decide +kernel
theorem dL_law_1222 : decode cL_law 1222 = .ok (.iaload, 1) := by decide +kernel
theorem dL_law_1223 : decode cL_law 1223 = .ok ((.invokevirtual 138), 3) := by decide +kernel
theorem dL_law_1226 : decode cL_law 1226 = .ok ((.if_icmp .eq 713), 3) := by decide +kernel
theorem dL_law_1229 : decode cL_law 1229 = .ok ((.iconst 0), 1) := by decide +kernel
theorem dL_law_1230 : decode cL_law 1230 = .ok (.ireturn, 1) := by decide +kernel
theorem dL_law_1231 : decode cL_law 1231 = .ok ((.aload_n 1), 1) := by decide +kernel
theorem dL_law_1232 : decode cL_law 1232 = .ok ((.aload_n 0), 1) := by decide +kernel
theorem dL_law_1233 : decode cL_law 1233 = .ok ((.iload_n 3), 1) := by decide +kernel
theorem dL_law_1234 : decode cL_law 1234 = .ok ((.iconst 1), 1) := by decide +kernel
theorem dL_law_1235 : decode cL_law 1235 = .ok (.iadd, 1) := by decide +kernel
theorem dL_law_1236 : decode cL_law 1236 = .ok (.iaload, 1) := by decide +kernel
theorem dL_law_1237 : decode cL_law 1237 = .ok ((.aload_n 0), 1) := by decide +kernel
theorem dL_law_1238 : decode cL_law 1238 = .ok ((.iload_n 3), 1) := by decide +kernel
theorem dL_law_1239 : decode cL_law 1239 = .ok ((.iconst 2), 1) := by decide +kernel
theorem dL_law_1240 : decode cL_law 1240 = .ok (.iadd, 1) := by decide +kernel
theorem dL_law_1241 : decode cL_law 1241 = .ok (.iaload, 1) := by decide +kernel
theorem dL_law_1242 : decode cL_law 1242 = .ok ((.invokevirtual 139), 3) := by decide +kernel
theorem dL_law_1245 : decode cL_law 1245 = .ok ((.aload_n 2), 1) := by decide +kernel
theorem dL_law_1246 : decode cL_law 1246 = .ok ((.aload_n 0), 1) := by decide +kernel
theorem dL_law_1247 : decode cL_law 1247 = .ok ((.iload_n 3), 1) := by decide +kernel
theorem dL_law_1248 : decode cL_law 1248 = .ok ((.iconst 1), 1) := by decide +kernel
theorem dL_law_1249 : decode cL_law 1249 = .ok (.iadd, 1) := by decide +kernel
theorem dL_law_1250 : decode cL_law 1250 = .ok (.iaload, 1) := by decide +kernel
theorem dL_law_1251 : decode cL_law 1251 = .ok ((.aload_n 0), 1) := by decide +kernel
theorem dL_law_1252 : decode cL_law 1252 = .ok ((.iload_n 3), 1) := by decide +kernel
theorem dL_law_1253 : decode cL_law 1253 = .ok ((.iconst 2), 1) := by decide +kernel
theorem dL_law_1254 : decode cL_law 1254 = .ok (.iadd, 1) := by decide +kernel
theorem dL_law_1255 : decode cL_law 1255 = .ok (.iaload, 1) := by decide +kernel
theorem dL_law_1256 : decode cL_law 1256 = .ok ((.invokevirtual 142), 3) := by decide +kernel
theorem dL_law_1259 : decode cL_law 1259 = .ok ((.if_icmp .eq 680), 3) := by decide +kernel
theorem dL_law_1262 : decode cL_law 1262 = .ok ((.iconst 0), 1) := by decide +kernel
theorem dL_law_1263 : decode cL_law 1263 = .ok (.ireturn, 1) := by decide +kernel
theorem dL_law_1264 : decode cL_law 1264 = .ok ((.aload_n 1), 1) := by decide +kernel
theorem dL_law_1265 : decode cL_law 1265 = .ok ((.aload_n 0), 1) := by decide +kernel
theorem dL_law_1266 : decode cL_law 1266 = .ok ((.iload_n 3), 1) := by decide +kernel
theorem dL_law_1267 : decode cL_law 1267 = .ok ((.iconst 1), 1) := by decide +kernel
theorem dL_law_1268 : decode cL_law 1268 = .ok (.iadd, 1) := by decide +kernel
theorem dL_law_1269 : decode cL_law 1269 = .ok (.iaload, 1) := by decide +kernel
theorem dL_law_1270 : decode cL_law 1270 = .ok ((.aload_n 0), 1) := by decide +kernel
theorem dL_law_1271 : decode cL_law 1271 = .ok ((.iload_n 3), 1) := by decide +kernel
theorem dL_law_1272 : decode cL_law 1272 = .ok ((.iconst 2), 1) := by decide +kernel
theorem dL_law_1273 : decode cL_law 1273 = .ok (.iadd, 1) := by decide +kernel
theorem dL_law_1274 : decode cL_law 1274 = .ok (.iaload, 1) := by decide +kernel
theorem dL_law_1275 : decode cL_law 1275 = .ok ((.invokevirtual 143), 3) := by decide +kernel
theorem dL_law_1278 : decode cL_law 1278 = .ok ((.aload_n 2), 1) := by decide +kernel
theorem dL_law_1279 : decode cL_law 1279 = .ok ((.aload_n 0), 1) := by decide +kernel
theorem dL_law_1280 : decode cL_law 1280 = .ok ((.iload_n 3), 1) := by decide +kernel
theorem dL_law_1281 : decode cL_law 1281 = .ok ((.iconst 1), 1) := by decide +kernel
theorem dL_law_1282 : decode cL_law 1282 = .ok (.iadd, 1) := by decide +kernel
theorem dL_law_1283 : decode cL_law 1283 = .ok (.iaload, 1) := by decide +kernel
theorem dL_law_1284 : decode cL_law 1284 = .ok ((.aload_n 0), 1) := by decide +kernel
theorem dL_law_1285 : decode cL_law 1285 = .ok ((.iload_n 3), 1) := by decide +kernel
theorem dL_law_1286 : decode cL_law 1286 = .ok ((.iconst 2), 1) := by decide +kernel
theorem dL_law_1287 : decode cL_law 1287 = .ok (.iadd, 1) := by decide +kernel
theorem dL_law_1288 : decode cL_law 1288 = .ok (.iaload, 1) := by decide +kernel
theorem dL_law_1289 : decode cL_law 1289 = .ok ((.invokevirtual 146), 3) := by decide +kernel
theorem dL_law_1292 : decode cL_law 1292 = .ok ((.if_icmp .eq 647), 3) := by decide +kernel
theorem dL_law_1295 : decode cL_law 1295 = .ok ((.iconst 0), 1) := by decide +kernel
theorem dL_law_1296 : decode cL_law 1296 = .ok (.ireturn, 1) := by decide +kernel
theorem dL_law_1297 : decode cL_law 1297 = .ok ((.aload_n 1), 1) := by decide +kernel
theorem dL_law_1298 : decode cL_law 1298 = .ok ((.aload_n 0), 1) := by decide +kernel
theorem dL_law_1299 : decode cL_law 1299 = .ok ((.iload_n 3), 1) := by decide +kernel
theorem dL_law_1300 : decode cL_law 1300 = .ok ((.iconst 1), 1) := by decide +kernel
theorem dL_law_1301 : decode cL_law 1301 = .ok (.iadd, 1) := by decide +kernel
theorem dL_law_1302 : decode cL_law 1302 = .ok (.iaload, 1) := by decide +kernel
theorem dL_law_1303 : decode cL_law 1303 = .ok ((.invokevirtual 147), 3) := by decide +kernel
theorem dL_law_1306 : decode cL_law 1306 = .ok ((.aload_n 2), 1) := by decide +kernel
theorem dL_law_1307 : decode cL_law 1307 = .ok ((.aload_n 0), 1) := by decide +kernel
theorem dL_law_1308 : decode cL_law 1308 = .ok ((.iload_n 3), 1) := by decide +kernel
theorem dL_law_1309 : decode cL_law 1309 = .ok ((.iconst 1), 1) := by decide +kernel
theorem dL_law_1310 : decode cL_law 1310 = .ok (.iadd, 1) := by decide +kernel
theorem dL_law_1311 : decode cL_law 1311 = .ok (.iaload, 1) := by decide +kernel
theorem dL_law_1312 : decode cL_law 1312 = .ok ((.invokevirtual 150), 3) := by decide +kernel
theorem dL_law_1315 : decode cL_law 1315 = .ok ((.if_icmp .eq 624), 3) := by decide +kernel
theorem dL_law_1318 : decode cL_law 1318 = .ok ((.iconst 0), 1) := by decide +kernel
theorem dL_law_1319 : decode cL_law 1319 = .ok (.ireturn, 1) := by decide +kernel
theorem dL_law_1320 : decode cL_law 1320 = .ok ((.aload_n 1), 1) := by decide +kernel
theorem dL_law_1321 : decode cL_law 1321 = .ok ((.aload_n 0), 1) := by decide +kernel
theorem dL_law_1322 : decode cL_law 1322 = .ok ((.iload_n 3), 1) := by decide +kernel
theorem dL_law_1323 : decode cL_law 1323 = .ok ((.iconst 1), 1) := by decide +kernel
theorem dL_law_1324 : decode cL_law 1324 = .ok (.iadd, 1) := by decide +kernel
theorem dL_law_1325 : decode cL_law 1325 = .ok (.iaload, 1) := by decide +kernel
theorem dL_law_1326 : decode cL_law 1326 = .ok ((.aload_n 0), 1) := by decide +kernel
theorem dL_law_1327 : decode cL_law 1327 = .ok ((.iload_n 3), 1) := by decide +kernel
theorem dL_law_1328 : decode cL_law 1328 = .ok ((.iconst 2), 1) := by decide +kernel
theorem dL_law_1329 : decode cL_law 1329 = .ok (.iadd, 1) := by decide +kernel
theorem dL_law_1330 : decode cL_law 1330 = .ok (.iaload, 1) := by decide +kernel
theorem dL_law_1331 : decode cL_law 1331 = .ok ((.invokevirtual 151), 3) := by decide +kernel
theorem dL_law_1334 : decode cL_law 1334 = .ok ((.aload_n 2), 1) := by decide +kernel
theorem dL_law_1335 : decode cL_law 1335 = .ok ((.aload_n 0), 1) := by decide +kernel
theorem dL_law_1336 : decode cL_law 1336 = .ok ((.iload_n 3), 1) := by decide +kernel
theorem dL_law_1337 : decode cL_law 1337 = .ok ((.iconst 1), 1) := by decide +kernel
theorem dL_law_1338 : decode cL_law 1338 = .ok (.iadd, 1) := by decide +kernel
theorem dL_law_1339 : decode cL_law 1339 = .ok (.iaload, 1) := by decide +kernel
theorem dL_law_1340 : decode cL_law 1340 = .ok ((.aload_n 0), 1) := by decide +kernel
theorem dL_law_1341 : decode cL_law 1341 = .ok ((.iload_n 3), 1) := by decide +kernel
theorem dL_law_1342 : decode cL_law 1342 = .ok ((.iconst 2), 1) := by decide +kernel
theorem dL_law_1343 : decode cL_law 1343 = .ok (.iadd, 1) := by decide +kernel
theorem dL_law_1344 : decode cL_law 1344 = .ok (.iaload, 1) := by decide +kernel
theorem dL_law_1345 : decode cL_law 1345 = .ok ((.invokevirtual 154), 3) := by decide +kernel
theorem dL_law_1348 : decode cL_law 1348 = .ok ((.if_icmp .eq 591), 3) := by decide +kernel
theorem dL_law_1351 : decode cL_law 1351 = .ok ((.iconst 0), 1) := by decide +kernel
theorem dL_law_1352 : decode cL_law 1352 = .ok (.ireturn, 1) := by decide +kernel
theorem dL_law_1353 : decode cL_law 1353 = .ok ((.aload_n 1), 1) := by decide +kernel
theorem dL_law_1354 : decode cL_law 1354 = .ok ((.aload_n 0), 1) := by decide +kernel
theorem dL_law_1355 : decode cL_law 1355 = .ok ((.iload_n 3), 1) := by decide +kernel
theorem dL_law_1356 : decode cL_law 1356 = .ok ((.iconst 1), 1) := by decide +kernel
theorem dL_law_1357 : decode cL_law 1357 = .ok (.iadd, 1) := by decide +kernel
theorem dL_law_1358 : decode cL_law 1358 = .ok (.iaload, 1) := by decide +kernel
theorem dL_law_1359 : decode cL_law 1359 = .ok ((.invokevirtual 155), 3) := by decide +kernel
theorem dL_law_1362 : decode cL_law 1362 = .ok ((.aload_n 2), 1) := by decide +kernel
theorem dL_law_1363 : decode cL_law 1363 = .ok ((.aload_n 0), 1) := by decide +kernel
theorem dL_law_1364 : decode cL_law 1364 = .ok ((.iload_n 3), 1) := by decide +kernel
theorem dL_law_1365 : decode cL_law 1365 = .ok ((.iconst 1), 1) := by decide +kernel
theorem dL_law_1366 : decode cL_law 1366 = .ok (.iadd, 1) := by decide +kernel
theorem dL_law_1367 : decode cL_law 1367 = .ok (.iaload, 1) := by decide +kernel
theorem dL_law_1368 : decode cL_law 1368 = .ok ((.invokevirtual 158), 3) := by decide +kernel
theorem dL_law_1371 : decode cL_law 1371 = .ok ((.if_icmp .eq 568), 3) := by decide +kernel
theorem dL_law_1374 : decode cL_law 1374 = .ok ((.iconst 0), 1) := by decide +kernel
theorem dL_law_1375 : decode cL_law 1375 = .ok (.ireturn, 1) := by decide +kernel
theorem dL_law_1376 : decode cL_law 1376 = .ok ((.aload_n 1), 1) := by decide +kernel
theorem dL_law_1377 : decode cL_law 1377 = .ok ((.aload_n 0), 1) := by decide +kernel
theorem dL_law_1378 : decode cL_law 1378 = .ok ((.iload_n 3), 1) := by decide +kernel
theorem dL_law_1379 : decode cL_law 1379 = .ok ((.iconst 1), 1) := by decide +kernel
theorem dL_law_1380 : decode cL_law 1380 = .ok (.iadd, 1) := by decide +kernel
theorem dL_law_1381 : decode cL_law 1381 = .ok (.iaload, 1) := by decide +kernel
theorem dL_law_1382 : decode cL_law 1382 = .ok ((.invokevirtual 159), 3) := by decide +kernel
theorem dL_law_1385 : decode cL_law 1385 = .ok ((.aload_n 2), 1) := by decide +kernel
theorem dL_law_1386 : decode cL_law 1386 = .ok ((.aload_n 0), 1) := by decide +kernel
theorem dL_law_1387 : decode cL_law 1387 = .ok ((.iload_n 3), 1) := by decide +kernel
theorem dL_law_1388 : decode cL_law 1388 = .ok ((.iconst 1), 1) := by decide +kernel
theorem dL_law_1389 : decode cL_law 1389 = .ok (.iadd, 1) := by decide +kernel
theorem dL_law_1390 : decode cL_law 1390 = .ok (.iaload, 1) := by decide +kernel
theorem dL_law_1391 : decode cL_law 1391 = .ok ((.invokevirtual 162), 3) := by decide +kernel
theorem dL_law_1394 : decode cL_law 1394 = .ok ((.if_icmp .eq 545), 3) := by decide +kernel
theorem dL_law_1397 : decode cL_law 1397 = .ok ((.iconst 0), 1) := by decide +kernel
theorem dL_law_1398 : decode cL_law 1398 = .ok (.ireturn, 1) := by decide +kernel
theorem dL_law_1399 : decode cL_law 1399 = .ok ((.aload_n 1), 1) := by decide +kernel
theorem dL_law_1400 : decode cL_law 1400 = .ok ((.aload_n 0), 1) := by decide +kernel
theorem dL_law_1401 : decode cL_law 1401 = .ok ((.iload_n 3), 1) := by decide +kernel
theorem dL_law_1402 : decode cL_law 1402 = .ok ((.iconst 1), 1) := by decide +kernel
theorem dL_law_1403 : decode cL_law 1403 = .ok (.iadd, 1) := by decide +kernel
theorem dL_law_1404 : decode cL_law 1404 = .ok (.iaload, 1) := by decide +kernel
theorem dL_law_1405 : decode cL_law 1405 = .ok ((.invokevirtual 163), 3) := by decide +kernel
theorem dL_law_1408 : decode cL_law 1408 = .ok ((.aload_n 2), 1) := by decide +kernel
theorem dL_law_1409 : decode cL_law 1409 = .ok ((.aload_n 0), 1) := by decide +kernel
theorem dL_law_1410 : decode cL_law 1410 = .ok ((.iload_n 3), 1) := by decide +kernel
theorem dL_law_1411 : decode cL_law 1411 = .ok ((.iconst 1), 1) := by decide +kernel
theorem dL_law_1412 : decode cL_law 1412 = .ok (.iadd, 1) := by decide +kernel
theorem dL_law_1413 : decode cL_law 1413 = .ok (.iaload, 1) := by decide +kernel
theorem dL_law_1414 : decode cL_law 1414 = .ok ((.invokevirtual 166), 3) := by decide +kernel
theorem dL_law_1417 : decode cL_law 1417 = .ok ((.if_icmp .eq 522), 3) := by decide +kernel
theorem dL_law_1420 : decode cL_law 1420 = .ok ((.iconst 0), 1) := by decide +kernel
theorem dL_law_1421 : decode cL_law 1421 = .ok (.ireturn, 1) := by decide +kernel
theorem dL_law_1422 : decode cL_law 1422 = .ok ((.aload_n 1), 1) := by decide +kernel
theorem dL_law_1423 : decode cL_law 1423 = .ok ((.aload_n 0), 1) := by decide +kernel
theorem dL_law_1424 : decode cL_law 1424 = .ok ((.iload_n 3), 1) := by decide +kernel
theorem dL_law_1425 : decode cL_law 1425 = .ok ((.iconst 1), 1) := by decide +kernel
theorem dL_law_1426 : decode cL_law 1426 = .ok (.iadd, 1) := by decide +kernel
theorem dL_law_1427 : decode cL_law 1427 = .ok (.iaload, 1) := by decide +kernel
theorem dL_law_1428 : decode cL_law 1428 = .ok ((.invokevirtual 167), 3) := by decide +kernel
theorem dL_law_1431 : decode cL_law 1431 = .ok ((.aload_n 2), 1) := by decide +kernel
theorem dL_law_1432 : decode cL_law 1432 = .ok ((.aload_n 0), 1) := by decide +kernel
theorem dL_law_1433 : decode cL_law 1433 = .ok ((.iload_n 3), 1) := by decide +kernel
theorem dL_law_1434 : decode cL_law 1434 = .ok ((.iconst 1), 1) := by decide +kernel
theorem dL_law_1435 : decode cL_law 1435 = .ok (.iadd, 1) := by decide +kernel
theorem dL_law_1436 : decode cL_law 1436 = .ok (.iaload, 1) := by decide +kernel
theorem dL_law_1437 : decode cL_law 1437 = .ok ((.invokevirtual 170), 3) := by decide +kernel
theorem dL_law_1440 : decode cL_law 1440 = .ok ((.if_icmp .eq 499), 3) := by decide +kernel
theorem dL_law_1443 : decode cL_law 1443 = .ok ((.iconst 0), 1) := by decide +kernel
theorem dL_law_1444 : decode cL_law 1444 = .ok (.ireturn, 1) := by decide +kernel
theorem dL_law_1445 : decode cL_law 1445 = .ok ((.aload_n 1), 1) := by decide +kernel
theorem dL_law_1446 : decode cL_law 1446 = .ok ((.invokevirtual 171), 3) := by decide +kernel
theorem dL_law_1449 : decode cL_law 1449 = .ok ((.aload_n 2), 1) := by decide +kernel
theorem dL_law_1450 : decode cL_law 1450 = .ok ((.invokevirtual 174), 3) := by decide +kernel
theorem dL_law_1453 : decode cL_law 1453 = .ok ((.if_icmp .eq 486), 3) := by decide +kernel
theorem dL_law_1456 : decode cL_law 1456 = .ok ((.iconst 0), 1) := by decide +kernel
theorem dL_law_1457 : decode cL_law 1457 = .ok (.ireturn, 1) := by decide +kernel
theorem dL_law_1458 : decode cL_law 1458 = .ok ((.aload_n 1), 1) := by decide +kernel
theorem dL_law_1459 : decode cL_law 1459 = .ok ((.aload_n 0), 1) := by decide +kernel
theorem dL_law_1460 : decode cL_law 1460 = .ok ((.iload_n 3), 1) := by decide +kernel
theorem dL_law_1461 : decode cL_law 1461 = .ok ((.iconst 1), 1) := by decide +kernel
theorem dL_law_1462 : decode cL_law 1462 = .ok (.iadd, 1) := by decide +kernel
theorem dL_law_1463 : decode cL_law 1463 = .ok (.iaload, 1) := by decide +kernel
theorem dL_law_1464 : decode cL_law 1464 = .ok ((.aload_n 0), 1) := by decide +kernel
theorem dL_law_1465 : decode cL_law 1465 = .ok ((.iload_n 3), 1) := by decide +kernel
theorem dL_law_1466 : decode cL_law 1466 = .ok ((.iconst 2), 1) := by decide +kernel
theorem dL_law_1467 : decode cL_law 1467 = .ok (.iadd, 1) := by decide +kernel
theorem dL_law_1468 : decode cL_law 1468 = .ok (.iaload, 1) := by decide +kernel
theorem dL_law_1469 : decode cL_law 1469 = .ok ((.aload_n 0), 1) := by decide +kernel
theorem dL_law_1470 : decode cL_law 1470 = .ok ((.iload_n 3), 1) := by decide +kernel
theorem dL_law_1471 : decode cL_law 1471 = .ok ((.iconst 3), 1) := by decide +kernel
theorem dL_law_1472 : decode cL_law 1472 = .ok (.iadd, 1) := by decide +kernel
theorem dL_law_1473 : decode cL_law 1473 = .ok (.iaload, 1) := by decide +kernel
theorem dL_law_1474 : decode cL_law 1474 = .ok ((.invokevirtual 175), 3) := by decide +kernel
theorem dL_law_1477 : decode cL_law 1477 = .ok ((.aload_n 2), 1) := by decide +kernel
theorem dL_law_1478 : decode cL_law 1478 = .ok ((.aload_n 0), 1) := by decide +kernel
theorem dL_law_1479 : decode cL_law 1479 = .ok ((.iload_n 3), 1) := by decide +kernel
theorem dL_law_1480 : decode cL_law 1480 = .ok ((.iconst 1), 1) := by decide +kernel
theorem dL_law_1481 : decode cL_law 1481 = .ok (.iadd, 1) := by decide +kernel
theorem dL_law_1482 : decode cL_law 1482 = .ok (.iaload, 1) := by decide +kernel
theorem dL_law_1483 : decode cL_law 1483 = .ok ((.aload_n 0), 1) := by decide +kernel
theorem dL_law_1484 : decode cL_law 1484 = .ok ((.iload_n 3), 1) := by decide +kernel
theorem dL_law_1485 : decode cL_law 1485 = .ok ((.iconst 2), 1) := by decide +kernel
theorem dL_law_1486 : decode cL_law 1486 = .ok (.iadd, 1) := by decide +kernel
theorem dL_law_1487 : decode cL_law 1487 = .ok (.iaload, 1) := by decide +kernel
theorem dL_law_1488 : decode cL_law 1488 = .ok ((.aload_n 0), 1) := by decide +kernel
theorem dL_law_1489 : decode cL_law 1489 = .ok ((.iload_n 3), 1) := by decide +kernel
theorem dL_law_1490 : decode cL_law 1490 = .ok ((.iconst 3), 1) := by decide +kernel
theorem dL_law_1491 : decode cL_law 1491 = .ok (.iadd, 1) := by decide +kernel
theorem dL_law_1492 : decode cL_law 1492 = .ok (.iaload, 1) := by decide +kernel
theorem dL_law_1493 : decode cL_law 1493 = .ok ((.invokevirtual 178), 3) := by decide +kernel
theorem dL_law_1496 : decode cL_law 1496 = .ok ((.if_icmp .eq 443), 3) := by decide +kernel
theorem dL_law_1499 : decode cL_law 1499 = .ok ((.iconst 0), 1) := by decide +kernel
theorem dL_law_1500 : decode cL_law 1500 = .ok (.ireturn, 1) := by decide +kernel
theorem dL_law_1501 : decode cL_law 1501 = .ok ((.aload_n 1), 1) := by decide +kernel
theorem dL_law_1502 : decode cL_law 1502 = .ok ((.aload_n 0), 1) := by decide +kernel
theorem dL_law_1503 : decode cL_law 1503 = .ok ((.iload_n 3), 1) := by decide +kernel
theorem dL_law_1504 : decode cL_law 1504 = .ok ((.iconst 1), 1) := by decide +kernel
theorem dL_law_1505 : decode cL_law 1505 = .ok (.iadd, 1) := by decide +kernel
theorem dL_law_1506 : decode cL_law 1506 = .ok (.iaload, 1) := by decide +kernel
theorem dL_law_1507 : decode cL_law 1507 = .ok ((.invokevirtual 179), 3) := by decide +kernel
theorem dL_law_1510 : decode cL_law 1510 = .ok ((.aload_n 2), 1) := by decide +kernel
theorem dL_law_1511 : decode cL_law 1511 = .ok ((.aload_n 0), 1) := by decide +kernel
theorem dL_law_1512 : decode cL_law 1512 = .ok ((.iload_n 3), 1) := by decide +kernel
theorem dL_law_1513 : decode cL_law 1513 = .ok ((.iconst 1), 1) := by decide +kernel
theorem dL_law_1514 : decode cL_law 1514 = .ok (.iadd, 1) := by decide +kernel
theorem dL_law_1515 : decode cL_law 1515 = .ok (.iaload, 1) := by decide +kernel
theorem dL_law_1516 : decode cL_law 1516 = .ok ((.invokevirtual 182), 3) := by decide +kernel
theorem dL_law_1519 : decode cL_law 1519 = .ok ((.if_icmp .eq 420), 3) := by decide +kernel
theorem dL_law_1522 : decode cL_law 1522 = .ok ((.iconst 0), 1) := by decide +kernel
theorem dL_law_1523 : decode cL_law 1523 = .ok (.ireturn, 1) := by decide +kernel
theorem dL_law_1524 : decode cL_law 1524 = .ok ((.aload_n 1), 1) := by decide +kernel
theorem dL_law_1525 : decode cL_law 1525 = .ok ((.aload_n 0), 1) := by decide +kernel
theorem dL_law_1526 : decode cL_law 1526 = .ok ((.iload_n 3), 1) := by decide +kernel
theorem dL_law_1527 : decode cL_law 1527 = .ok ((.iconst 1), 1) := by decide +kernel
theorem dL_law_1528 : decode cL_law 1528 = .ok (.iadd, 1) := by decide +kernel
theorem dL_law_1529 : decode cL_law 1529 = .ok (.iaload, 1) := by decide +kernel
theorem dL_law_1530 : decode cL_law 1530 = .ok ((.invokevirtual 183), 3) := by decide +kernel
theorem dL_law_1533 : decode cL_law 1533 = .ok ((.aload_n 2), 1) := by decide +kernel
theorem dL_law_1534 : decode cL_law 1534 = .ok ((.aload_n 0), 1) := by decide +kernel
theorem dL_law_1535 : decode cL_law 1535 = .ok ((.iload_n 3), 1) := by decide +kernel
theorem dL_law_1536 : decode cL_law 1536 = .ok ((.iconst 1), 1) := by decide +kernel
theorem dL_law_1537 : decode cL_law 1537 = .ok (.iadd, 1) := by decide +kernel
theorem dL_law_1538 : decode cL_law 1538 = .ok (.iaload, 1) := by decide +kernel
theorem dL_law_1539 : decode cL_law 1539 = .ok ((.invokevirtual 186), 3) := by decide +kernel
theorem dL_law_1542 : decode cL_law 1542 = .ok ((.if_icmp .eq 397), 3) := by decide +kernel
theorem dL_law_1545 : decode cL_law 1545 = .ok ((.iconst 0), 1) := by decide +kernel
theorem dL_law_1546 : decode cL_law 1546 = .ok (.ireturn, 1) := by decide +kernel
theorem dL_law_1547 : decode cL_law 1547 = .ok ((.aload_n 1), 1) := by decide +kernel
theorem dL_law_1548 : decode cL_law 1548 = .ok ((.aload_n 0), 1) := by decide +kernel
theorem dL_law_1549 : decode cL_law 1549 = .ok ((.iload_n 3), 1) := by decide +kernel
theorem dL_law_1550 : decode cL_law 1550 = .ok ((.iconst 1), 1) := by decide +kernel
theorem dL_law_1551 : decode cL_law 1551 = .ok (.iadd, 1) := by decide +kernel
theorem dL_law_1552 : decode cL_law 1552 = .ok (.iaload, 1) := by decide +kernel
theorem dL_law_1553 : decode cL_law 1553 = .ok ((.invokevirtual 187), 3) := by decide +kernel
theorem dL_law_1556 : decode cL_law 1556 = .ok ((.aload_n 2), 1) := by decide +kernel
theorem dL_law_1557 : decode cL_law 1557 = .ok ((.aload_n 0), 1) := by decide +kernel
theorem dL_law_1558 : decode cL_law 1558 = .ok ((.iload_n 3), 1) := by decide +kernel
theorem dL_law_1559 : decode cL_law 1559 = .ok ((.iconst 1), 1) := by decide +kernel
theorem dL_law_1560 : decode cL_law 1560 = .ok (.iadd, 1) := by decide +kernel
theorem dL_law_1561 : decode cL_law 1561 = .ok (.iaload, 1) := by decide +kernel
theorem dL_law_1562 : decode cL_law 1562 = .ok ((.invokevirtual 190), 3) := by decide +kernel
theorem dL_law_1565 : decode cL_law 1565 = .ok ((.if_icmp .eq 374), 3) := by decide +kernel
theorem dL_law_1568 : decode cL_law 1568 = .ok ((.iconst 0), 1) := by decide +kernel
theorem dL_law_1569 : decode cL_law 1569 = .ok (.ireturn, 1) := by decide +kernel
theorem dL_law_1570 : decode cL_law 1570 = .ok ((.aload_n 1), 1) := by decide +kernel
theorem dL_law_1571 : decode cL_law 1571 = .ok ((.aload_n 0), 1) := by decide +kernel
theorem dL_law_1572 : decode cL_law 1572 = .ok ((.iload_n 3), 1) := by decide +kernel
theorem dL_law_1573 : decode cL_law 1573 = .ok ((.iconst 1), 1) := by decide +kernel
theorem dL_law_1574 : decode cL_law 1574 = .ok (.iadd, 1) := by decide +kernel
theorem dL_law_1575 : decode cL_law 1575 = .ok (.iaload, 1) := by decide +kernel
theorem dL_law_1576 : decode cL_law 1576 = .ok ((.aload_n 0), 1) := by decide +kernel
theorem dL_law_1577 : decode cL_law 1577 = .ok ((.iload_n 3), 1) := by decide +kernel
theorem dL_law_1578 : decode cL_law 1578 = .ok ((.iconst 2), 1) := by decide +kernel
theorem dL_law_1579 : decode cL_law 1579 = .ok (.iadd, 1) := by decide +kernel
theorem dL_law_1580 : decode cL_law 1580 = .ok (.iaload, 1) := by decide +kernel
theorem dL_law_1581 : decode cL_law 1581 = .ok ((.invokevirtual 191), 3) := by decide +kernel
theorem dL_law_1584 : decode cL_law 1584 = .ok ((.aload_n 2), 1) := by decide +kernel
theorem dL_law_1585 : decode cL_law 1585 = .ok ((.aload_n 0), 1) := by decide +kernel
theorem dL_law_1586 : decode cL_law 1586 = .ok ((.iload_n 3), 1) := by decide +kernel
theorem dL_law_1587 : decode cL_law 1587 = .ok ((.iconst 1), 1) := by decide +kernel
theorem dL_law_1588 : decode cL_law 1588 = .ok (.iadd, 1) := by decide +kernel
theorem dL_law_1589 : decode cL_law 1589 = .ok (.iaload, 1) := by decide +kernel
theorem dL_law_1590 : decode cL_law 1590 = .ok ((.aload_n 0), 1) := by decide +kernel
theorem dL_law_1591 : decode cL_law 1591 = .ok ((.iload_n 3), 1) := by decide +kernel
theorem dL_law_1592 : decode cL_law 1592 = .ok ((.iconst 2), 1) := by decide +kernel
theorem dL_law_1593 : decode cL_law 1593 = .ok (.iadd, 1) := by decide +kernel
theorem dL_law_1594 : decode cL_law 1594 = .ok (.iaload, 1) := by decide +kernel
theorem dL_law_1595 : decode cL_law 1595 = .ok ((.invokevirtual 194), 3) := by decide +kernel
theorem dL_law_1598 : decode cL_law 1598 = .ok ((.if_icmp .eq 341), 3) := by decide +kernel
theorem dL_law_1601 : decode cL_law 1601 = .ok ((.iconst 0), 1) := by decide +kernel
theorem dL_law_1602 : decode cL_law 1602 = .ok (.ireturn, 1) := by decide +kernel
theorem dL_law_1603 : decode cL_law 1603 = .ok ((.aload_n 1), 1) := by decide +kernel
theorem dL_law_1604 : decode cL_law 1604 = .ok ((.aload_n 0), 1) := by decide +kernel
theorem dL_law_1605 : decode cL_law 1605 = .ok ((.iload_n 3), 1) := by decide +kernel
theorem dL_law_1606 : decode cL_law 1606 = .ok ((.iconst 1), 1) := by decide +kernel
theorem dL_law_1607 : decode cL_law 1607 = .ok (.iadd, 1) := by decide +kernel
theorem dL_law_1608 : decode cL_law 1608 = .ok (.iaload, 1) := by decide +kernel
theorem dL_law_1609 : decode cL_law 1609 = .ok ((.aload_n 0), 1) := by decide +kernel
theorem dL_law_1610 : decode cL_law 1610 = .ok ((.iload_n 3), 1) := by decide +kernel
theorem dL_law_1611 : decode cL_law 1611 = .ok ((.iconst 2), 1) := by decide +kernel
theorem dL_law_1612 : decode cL_law 1612 = .ok (.iadd, 1) := by decide +kernel
theorem dL_law_1613 : decode cL_law 1613 = .ok (.iaload, 1) := by decide +kernel
theorem dL_law_1614 : decode cL_law 1614 = .ok ((.aload_n 0), 1) := by decide +kernel
theorem dL_law_1615 : decode cL_law 1615 = .ok ((.iload_n 3), 1) := by decide +kernel
theorem dL_law_1616 : decode cL_law 1616 = .ok ((.iconst 3), 1) := by decide +kernel
theorem dL_law_1617 : decode cL_law 1617 = .ok (.iadd, 1) := by decide +kernel
theorem dL_law_1618 : decode cL_law 1618 = .ok (.iaload, 1) := by decide +kernel
theorem dL_law_1619 : decode cL_law 1619 = .ok ((.invokevirtual 195), 3) := by decide +kernel
theorem dL_law_1622 : decode cL_law 1622 = .ok ((.aload_n 2), 1) := by decide +kernel
theorem dL_law_1623 : decode cL_law 1623 = .ok ((.aload_n 0), 1) := by decide +kernel
theorem dL_law_1624 : decode cL_law 1624 = .ok ((.iload_n 3), 1) := by decide +kernel
theorem dL_law_1625 : decode cL_law 1625 = .ok ((.iconst 1), 1) := by decide +kernel
theorem dL_law_1626 : decode cL_law 1626 = .ok (.iadd, 1) := by decide +kernel
theorem dL_law_1627 : decode cL_law 1627 = .ok (.iaload, 1) := by decide +kernel
theorem dL_law_1628 : decode cL_law 1628 = .ok ((.aload_n 0), 1) := by decide +kernel
theorem dL_law_1629 : decode cL_law 1629 = .ok ((.iload_n 3), 1) := by decide +kernel
theorem dL_law_1630 : decode cL_law 1630 = .ok ((.iconst 2), 1) := by decide +kernel
theorem dL_law_1631 : decode cL_law 1631 = .ok (.iadd, 1) := by decide +kernel
theorem dL_law_1632 : decode cL_law 1632 = .ok (.iaload, 1) := by decide +kernel
theorem dL_law_1633 : decode cL_law 1633 = .ok ((.aload_n 0), 1) := by decide +kernel
theorem dL_law_1634 : decode cL_law 1634 = .ok ((.iload_n 3), 1) := by decide +kernel
theorem dL_law_1635 : decode cL_law 1635 = .ok ((.iconst 3), 1) := by decide +kernel
theorem dL_law_1636 : decode cL_law 1636 = .ok (.iadd, 1) := by decide +kernel
theorem dL_law_1637 : decode cL_law 1637 = .ok (.iaload, 1) := by decide +kernel
theorem dL_law_1638 : decode cL_law 1638 = .ok ((.invokevirtual 198), 3) := by decide +kernel
theorem dL_law_1641 : decode cL_law 1641 = .ok ((.if_icmp .eq 298), 3) := by decide +kernel
theorem dL_law_1644 : decode cL_law 1644 = .ok ((.iconst 0), 1) := by decide +kernel
theorem dL_law_1645 : decode cL_law 1645 = .ok (.ireturn, 1) := by decide +kernel
theorem dL_law_1646 : decode cL_law 1646 = .ok ((.aload_n 1), 1) := by decide +kernel
theorem dL_law_1647 : decode cL_law 1647 = .ok ((.aload_n 0), 1) := by decide +kernel
theorem dL_law_1648 : decode cL_law 1648 = .ok ((.iload_n 3), 1) := by decide +kernel
theorem dL_law_1649 : decode cL_law 1649 = .ok ((.iconst 1), 1) := by decide +kernel
theorem dL_law_1650 : decode cL_law 1650 = .ok (.iadd, 1) := by decide +kernel
theorem dL_law_1651 : decode cL_law 1651 = .ok (.iaload, 1) := by decide +kernel
theorem dL_law_1652 : decode cL_law 1652 = .ok ((.aload_n 0), 1) := by decide +kernel
theorem dL_law_1653 : decode cL_law 1653 = .ok ((.iload_n 3), 1) := by decide +kernel
theorem dL_law_1654 : decode cL_law 1654 = .ok ((.iconst 2), 1) := by decide +kernel
theorem dL_law_1655 : decode cL_law 1655 = .ok (.iadd, 1) := by decide +kernel
theorem dL_law_1656 : decode cL_law 1656 = .ok (.iaload, 1) := by decide +kernel
theorem dL_law_1657 : decode cL_law 1657 = .ok ((.aload_n 0), 1) := by decide +kernel
theorem dL_law_1658 : decode cL_law 1658 = .ok ((.iload_n 3), 1) := by decide +kernel
theorem dL_law_1659 : decode cL_law 1659 = .ok ((.iconst 3), 1) := by decide +kernel
theorem dL_law_1660 : decode cL_law 1660 = .ok (.iadd, 1) := by decide +kernel
theorem dL_law_1661 : decode cL_law 1661 = .ok (.iaload, 1) := by decide +kernel
theorem dL_law_1662 : decode cL_law 1662 = .ok ((.invokevirtual 199), 3) := by decide +kernel
theorem dL_law_1665 : decode cL_law 1665 = .ok ((.aload_n 2), 1) := by decide +kernel
theorem dL_law_1666 : decode cL_law 1666 = .ok ((.aload_n 0), 1) := by decide +kernel
theorem dL_law_1667 : decode cL_law 1667 = .ok ((.iload_n 3), 1) := by decide +kernel
theorem dL_law_1668 : decode cL_law 1668 = .ok ((.iconst 1), 1) := by decide +kernel
theorem dL_law_1669 : decode cL_law 1669 = .ok (.iadd, 1) := by decide +kernel
theorem dL_law_1670 : decode cL_law 1670 = .ok (.iaload, 1) := by decide +kernel
theorem dL_law_1671 : decode cL_law 1671 = .ok ((.aload_n 0), 1) := by decide +kernel
theorem dL_law_1672 : decode cL_law 1672 = .ok ((.iload_n 3), 1) := by decide +kernel
theorem dL_law_1673 : decode cL_law 1673 = .ok ((.iconst 2), 1) := by decide +kernel
theorem dL_law_1674 : decode cL_law 1674 = .ok (.iadd, 1) := by decide +kernel
theorem dL_law_1675 : decode cL_law 1675 = .ok (.iaload, 1) := by decide +kernel
theorem dL_law_1676 : decode cL_law 1676 = .ok ((.aload_n 0), 1) := by decide +kernel
theorem dL_law_1677 : decode cL_law 1677 = .ok ((.iload_n 3), 1) := by decide +kernel
theorem dL_law_1678 : decode cL_law 1678 = .ok ((.iconst 3), 1) := by decide +kernel
theorem dL_law_1679 : decode cL_law 1679 = .ok (.iadd, 1) := by decide +kernel
theorem dL_law_1680 : decode cL_law 1680 = .ok (.iaload, 1) := by decide +kernel
theorem dL_law_1681 : decode cL_law 1681 = .ok ((.invokevirtual 202), 3) := by decide +kernel
theorem dL_law_1684 : decode cL_law 1684 = .ok ((.if_icmp .eq 255), 3) := by decide +kernel
theorem dL_law_1687 : decode cL_law 1687 = .ok ((.iconst 0), 1) := by decide +kernel
theorem dL_law_1688 : decode cL_law 1688 = .ok (.ireturn, 1) := by decide +kernel
theorem dL_law_1689 : decode cL_law 1689 = .ok ((.aload_n 1), 1) := by decide +kernel
theorem dL_law_1690 : decode cL_law 1690 = .ok ((.aload_n 0), 1) := by decide +kernel
theorem dL_law_1691 : decode cL_law 1691 = .ok ((.iload_n 3), 1) := by decide +kernel
theorem dL_law_1692 : decode cL_law 1692 = .ok ((.iconst 1), 1) := by decide +kernel
theorem dL_law_1693 : decode cL_law 1693 = .ok (.iadd, 1) := by decide +kernel
theorem dL_law_1694 : decode cL_law 1694 = .ok (.iaload, 1) := by decide +kernel
theorem dL_law_1695 : decode cL_law 1695 = .ok ((.invokevirtual 203), 3) := by decide +kernel
theorem dL_law_1698 : decode cL_law 1698 = .ok ((.aload_n 2), 1) := by decide +kernel
theorem dL_law_1699 : decode cL_law 1699 = .ok ((.aload_n 0), 1) := by decide +kernel
theorem dL_law_1700 : decode cL_law 1700 = .ok ((.iload_n 3), 1) := by decide +kernel
theorem dL_law_1701 : decode cL_law 1701 = .ok ((.iconst 1), 1) := by decide +kernel
theorem dL_law_1702 : decode cL_law 1702 = .ok (.iadd, 1) := by decide +kernel
theorem dL_law_1703 : decode cL_law 1703 = .ok (.iaload, 1) := by decide +kernel
theorem dL_law_1704 : decode cL_law 1704 = .ok ((.invokevirtual 206), 3) := by decide +kernel
theorem dL_law_1707 : decode cL_law 1707 = .ok ((.if_icmp .eq 232), 3) := by decide +kernel
theorem dL_law_1710 : decode cL_law 1710 = .ok ((.iconst 0), 1) := by decide +kernel
theorem dL_law_1711 : decode cL_law 1711 = .ok (.ireturn, 1) := by decide +kernel
theorem dL_law_1712 : decode cL_law 1712 = .ok ((.aload_n 1), 1) := by decide +kernel
theorem dL_law_1713 : decode cL_law 1713 = .ok ((.aload_n 0), 1) := by decide +kernel
theorem dL_law_1714 : decode cL_law 1714 = .ok ((.iload_n 3), 1) := by decide +kernel
theorem dL_law_1715 : decode cL_law 1715 = .ok ((.iconst 1), 1) := by decide +kernel
theorem dL_law_1716 : decode cL_law 1716 = .ok (.iadd, 1) := by decide +kernel
theorem dL_law_1717 : decode cL_law 1717 = .ok (.iaload, 1) := by decide +kernel
theorem dL_law_1718 : decode cL_law 1718 = .ok ((.invokevirtual 207), 3) := by decide +kernel
theorem dL_law_1721 : decode cL_law 1721 = .ok ((.aload_n 2), 1) := by decide +kernel
theorem dL_law_1722 : decode cL_law 1722 = .ok ((.aload_n 0), 1) := by decide +kernel
theorem dL_law_1723 : decode cL_law 1723 = .ok ((.iload_n 3), 1) := by decide +kernel
theorem dL_law_1724 : decode cL_law 1724 = .ok ((.iconst 1), 1) := by decide +kernel
theorem dL_law_1725 : decode cL_law 1725 = .ok (.iadd, 1) := by decide +kernel
theorem dL_law_1726 : decode cL_law 1726 = .ok (.iaload, 1) := by decide +kernel
theorem dL_law_1727 : decode cL_law 1727 = .ok ((.invokevirtual 210), 3) := by decide +kernel
theorem dL_law_1730 : decode cL_law 1730 = .ok ((.if_icmp .eq 209), 3) := by decide +kernel
theorem dL_law_1733 : decode cL_law 1733 = .ok ((.iconst 0), 1) := by decide +kernel
theorem dL_law_1734 : decode cL_law 1734 = .ok (.ireturn, 1) := by decide +kernel
theorem dL_law_1735 : decode cL_law 1735 = .ok ((.aload_n 1), 1) := by decide +kernel
theorem dL_law_1736 : decode cL_law 1736 = .ok ((.aload_n 0), 1) := by decide +kernel
theorem dL_law_1737 : decode cL_law 1737 = .ok ((.iload_n 3), 1) := by decide +kernel
theorem dL_law_1738 : decode cL_law 1738 = .ok ((.iconst 1), 1) := by decide +kernel
theorem dL_law_1739 : decode cL_law 1739 = .ok (.iadd, 1) := by decide +kernel
theorem dL_law_1740 : decode cL_law 1740 = .ok (.iaload, 1) := by decide +kernel
theorem dL_law_1741 : decode cL_law 1741 = .ok ((.aload_n 0), 1) := by decide +kernel
theorem dL_law_1742 : decode cL_law 1742 = .ok ((.iload_n 3), 1) := by decide +kernel
theorem dL_law_1743 : decode cL_law 1743 = .ok ((.iconst 2), 1) := by decide +kernel
theorem dL_law_1744 : decode cL_law 1744 = .ok (.iadd, 1) := by decide +kernel
theorem dL_law_1745 : decode cL_law 1745 = .ok (.iaload, 1) := by decide +kernel
theorem dL_law_1746 : decode cL_law 1746 = .ok ((.invokevirtual 211), 3) := by decide +kernel
theorem dL_law_1749 : decode cL_law 1749 = .ok ((.aload_n 2), 1) := by decide +kernel
theorem dL_law_1750 : decode cL_law 1750 = .ok ((.aload_n 0), 1) := by decide +kernel
theorem dL_law_1751 : decode cL_law 1751 = .ok ((.iload_n 3), 1) := by decide +kernel
theorem dL_law_1752 : decode cL_law 1752 = .ok ((.iconst 1), 1) := by decide +kernel
theorem dL_law_1753 : decode cL_law 1753 = .ok (.iadd, 1) := by decide +kernel
theorem dL_law_1754 : decode cL_law 1754 = .ok (.iaload, 1) := by decide +kernel
theorem dL_law_1755 : decode cL_law 1755 = .ok ((.aload_n 0), 1) := by decide +kernel
theorem dL_law_1756 : decode cL_law 1756 = .ok ((.iload_n 3), 1) := by decide +kernel
theorem dL_law_1757 : decode cL_law 1757 = .ok ((.iconst 2), 1) := by decide +kernel
theorem dL_law_1758 : decode cL_law 1758 = .ok (.iadd, 1) := by decide +kernel
theorem dL_law_1759 : decode cL_law 1759 = .ok (.iaload, 1) := by decide +kernel
theorem dL_law_1760 : decode cL_law 1760 = .ok ((.invokevirtual 214), 3) := by decide +kernel
theorem dL_law_1763 : decode cL_law 1763 = .ok ((.if_icmp .eq 176), 3) := by decide +kernel
theorem dL_law_1766 : decode cL_law 1766 = .ok ((.iconst 0), 1) := by decide +kernel
theorem dL_law_1767 : decode cL_law 1767 = .ok (.ireturn, 1) := by decide +kernel
theorem dL_law_1768 : decode cL_law 1768 = .ok ((.aload_n 1), 1) := by decide +kernel
theorem dL_law_1769 : decode cL_law 1769 = .ok ((.aload_n 0), 1) := by decide +kernel
theorem dL_law_1770 : decode cL_law 1770 = .ok ((.iload_n 3), 1) := by decide +kernel
theorem dL_law_1771 : decode cL_law 1771 = .ok ((.iconst 1), 1) := by decide +kernel
theorem dL_law_1772 : decode cL_law 1772 = .ok (.iadd, 1) := by decide +kernel
theorem dL_law_1773 : decode cL_law 1773 = .ok (.iaload, 1) := by decide +kernel
theorem dL_law_1774 : decode cL_law 1774 = .ok ((.aload_n 0), 1) := by decide +kernel
theorem dL_law_1775 : decode cL_law 1775 = .ok ((.iload_n 3), 1) := by decide +kernel
theorem dL_law_1776 : decode cL_law 1776 = .ok ((.iconst 2), 1) := by decide +kernel
theorem dL_law_1777 : decode cL_law 1777 = .ok (.iadd, 1) := by decide +kernel
theorem dL_law_1778 : decode cL_law 1778 = .ok (.iaload, 1) := by decide +kernel
theorem dL_law_1779 : decode cL_law 1779 = .ok ((.invokevirtual 215), 3) := by decide +kernel
theorem dL_law_1782 : decode cL_law 1782 = .ok ((.aload_n 2), 1) := by decide +kernel
theorem dL_law_1783 : decode cL_law 1783 = .ok ((.aload_n 0), 1) := by decide +kernel
theorem dL_law_1784 : decode cL_law 1784 = .ok ((.iload_n 3), 1) := by decide +kernel
theorem dL_law_1785 : decode cL_law 1785 = .ok ((.iconst 1), 1) := by decide +kernel
theorem dL_law_1786 : decode cL_law 1786 = .ok (.iadd, 1) := by decide +kernel
theorem dL_law_1787 : decode cL_law 1787 = .ok (.iaload, 1) := by decide +kernel
theorem dL_law_1788 : decode cL_law 1788 = .ok ((.aload_n 0), 1) := by decide +kernel
theorem dL_law_1789 : decode cL_law 1789 = .ok ((.iload_n 3), 1) := by decide +kernel
theorem dL_law_1790 : decode cL_law 1790 = .ok ((.iconst 2), 1) := by decide +kernel
theorem dL_law_1791 : decode cL_law 1791 = .ok (.iadd, 1) := by decide +kernel
theorem dL_law_1792 : decode cL_law 1792 = .ok (.iaload, 1) := by decide +kernel
theorem dL_law_1793 : decode cL_law 1793 = .ok ((.invokevirtual 218), 3) := by decide +kernel
theorem dL_law_1796 : decode cL_law 1796 = .ok ((.if_icmp .eq 143), 3) := by decide +kernel
theorem dL_law_1799 : decode cL_law 1799 = .ok ((.iconst 0), 1) := by decide +kernel
theorem dL_law_1800 : decode cL_law 1800 = .ok (.ireturn, 1) := by decide +kernel
theorem dL_law_1801 : decode cL_law 1801 = .ok ((.aload_n 1), 1) := by decide +kernel
theorem dL_law_1802 : decode cL_law 1802 = .ok ((.aload_n 0), 1) := by decide +kernel
theorem dL_law_1803 : decode cL_law 1803 = .ok ((.iload_n 3), 1) := by decide +kernel
theorem dL_law_1804 : decode cL_law 1804 = .ok ((.iconst 1), 1) := by decide +kernel
theorem dL_law_1805 : decode cL_law 1805 = .ok (.iadd, 1) := by decide +kernel
theorem dL_law_1806 : decode cL_law 1806 = .ok (.iaload, 1) := by decide +kernel
theorem dL_law_1807 : decode cL_law 1807 = .ok ((.aload_n 0), 1) := by decide +kernel
theorem dL_law_1808 : decode cL_law 1808 = .ok ((.iload_n 3), 1) := by decide +kernel
theorem dL_law_1809 : decode cL_law 1809 = .ok ((.iconst 2), 1) := by decide +kernel
theorem dL_law_1810 : decode cL_law 1810 = .ok (.iadd, 1) := by decide +kernel
theorem dL_law_1811 : decode cL_law 1811 = .ok (.iaload, 1) := by decide +kernel
theorem dL_law_1812 : decode cL_law 1812 = .ok ((.invokevirtual 219), 3) := by decide +kernel
theorem dL_law_1815 : decode cL_law 1815 = .ok ((.aload_n 2), 1) := by decide +kernel
theorem dL_law_1816 : decode cL_law 1816 = .ok ((.aload_n 0), 1) := by decide +kernel
theorem dL_law_1817 : decode cL_law 1817 = .ok ((.iload_n 3), 1) := by decide +kernel
theorem dL_law_1818 : decode cL_law 1818 = .ok ((.iconst 1), 1) := by decide +kernel
theorem dL_law_1819 : decode cL_law 1819 = .ok (.iadd, 1) := by decide +kernel
theorem dL_law_1820 : decode cL_law 1820 = .ok (.iaload, 1) := by decide +kernel
theorem dL_law_1821 : decode cL_law 1821 = .ok ((.aload_n 0), 1) := by decide +kernel
theorem dL_law_1822 : decode cL_law 1822 = .ok ((.iload_n 3), 1) := by decide +kernel
theorem dL_law_1823 : decode cL_law 1823 = .ok ((.iconst 2), 1) := by decide +kernel
theorem dL_law_1824 : decode cL_law 1824 = .ok (.iadd, 1) := by decide +kernel
theorem dL_law_1825 : decode cL_law 1825 = .ok (.iaload, 1) := by decide +kernel
theorem dL_law_1826 : decode cL_law 1826 = .ok ((.invokevirtual 222), 3) := by decide +kernel
theorem dL_law_1829 : decode cL_law 1829 = .ok ((.if_icmp .eq 110), 3) := by decide +kernel
theorem dL_law_1832 : decode cL_law 1832 = .ok ((.iconst 0), 1) := by decide +kernel
theorem dL_law_1833 : decode cL_law 1833 = .ok (.ireturn, 1) := by decide +kernel
theorem dL_law_1834 : decode cL_law 1834 = .ok ((.aload_n 1), 1) := by decide +kernel
theorem dL_law_1835 : decode cL_law 1835 = .ok ((.aload_n 0), 1) := by decide +kernel
theorem dL_law_1836 : decode cL_law 1836 = .ok ((.iload_n 3), 1) := by decide +kernel
theorem dL_law_1837 : decode cL_law 1837 = .ok ((.iconst 1), 1) := by decide +kernel
theorem dL_law_1838 : decode cL_law 1838 = .ok (.iadd, 1) := by decide +kernel
theorem dL_law_1839 : decode cL_law 1839 = .ok (.iaload, 1) := by decide +kernel
theorem dL_law_1840 : decode cL_law 1840 = .ok ((.invokevirtual 223), 3) := by decide +kernel
theorem dL_law_1843 : decode cL_law 1843 = .ok ((.aload_n 2), 1) := by decide +kernel
theorem dL_law_1844 : decode cL_law 1844 = .ok ((.aload_n 0), 1) := by decide +kernel
theorem dL_law_1845 : decode cL_law 1845 = .ok ((.iload_n 3), 1) := by decide +kernel
theorem dL_law_1846 : decode cL_law 1846 = .ok ((.iconst 1), 1) := by decide +kernel
theorem dL_law_1847 : decode cL_law 1847 = .ok (.iadd, 1) := by decide +kernel
theorem dL_law_1848 : decode cL_law 1848 = .ok (.iaload, 1) := by decide +kernel
theorem dL_law_1849 : decode cL_law 1849 = .ok ((.invokevirtual 226), 3) := by decide +kernel
theorem dL_law_1852 : decode cL_law 1852 = .ok ((.if_icmp .eq 87), 3) := by decide +kernel
theorem dL_law_1855 : decode cL_law 1855 = .ok ((.iconst 0), 1) := by decide +kernel
theorem dL_law_1856 : decode cL_law 1856 = .ok (.ireturn, 1) := by decide +kernel
theorem dL_law_1857 : decode cL_law 1857 = .ok ((.aload_n 1), 1) := by decide +kernel
theorem dL_law_1858 : decode cL_law 1858 = .ok ((.aload_n 0), 1) := by decide +kernel
theorem dL_law_1859 : decode cL_law 1859 = .ok ((.iload_n 3), 1) := by decide +kernel
theorem dL_law_1860 : decode cL_law 1860 = .ok ((.iconst 1), 1) := by decide +kernel
theorem dL_law_1861 : decode cL_law 1861 = .ok (.iadd, 1) := by decide +kernel
theorem dL_law_1862 : decode cL_law 1862 = .ok (.iaload, 1) := by decide +kernel
theorem dL_law_1863 : decode cL_law 1863 = .ok ((.invokevirtual 227), 3) := by decide +kernel
theorem dL_law_1866 : decode cL_law 1866 = .ok ((.aload_n 2), 1) := by decide +kernel
theorem dL_law_1867 : decode cL_law 1867 = .ok ((.aload_n 0), 1) := by decide +kernel
theorem dL_law_1868 : decode cL_law 1868 = .ok ((.iload_n 3), 1) := by decide +kernel
theorem dL_law_1869 : decode cL_law 1869 = .ok ((.iconst 1), 1) := by decide +kernel
theorem dL_law_1870 : decode cL_law 1870 = .ok (.iadd, 1) := by decide +kernel
theorem dL_law_1871 : decode cL_law 1871 = .ok (.iaload, 1) := by decide +kernel
theorem dL_law_1872 : decode cL_law 1872 = .ok ((.invokevirtual 230), 3) := by decide +kernel
theorem dL_law_1875 : decode cL_law 1875 = .ok ((.if_icmp .eq 64), 3) := by decide +kernel
theorem dL_law_1878 : decode cL_law 1878 = .ok ((.iconst 0), 1) := by decide +kernel
theorem dL_law_1879 : decode cL_law 1879 = .ok (.ireturn, 1) := by decide +kernel
theorem dL_law_1880 : decode cL_law 1880 = .ok ((.aload_n 1), 1) := by decide +kernel
theorem dL_law_1881 : decode cL_law 1881 = .ok ((.aload_n 0), 1) := by decide +kernel
theorem dL_law_1882 : decode cL_law 1882 = .ok ((.iload_n 3), 1) := by decide +kernel
theorem dL_law_1883 : decode cL_law 1883 = .ok ((.iconst 1), 1) := by decide +kernel
theorem dL_law_1884 : decode cL_law 1884 = .ok (.iadd, 1) := by decide +kernel
theorem dL_law_1885 : decode cL_law 1885 = .ok (.iaload, 1) := by decide +kernel
theorem dL_law_1886 : decode cL_law 1886 = .ok ((.aload_n 0), 1) := by decide +kernel
theorem dL_law_1887 : decode cL_law 1887 = .ok ((.iload_n 3), 1) := by decide +kernel
theorem dL_law_1888 : decode cL_law 1888 = .ok ((.iconst 2), 1) := by decide +kernel
theorem dL_law_1889 : decode cL_law 1889 = .ok (.iadd, 1) := by decide +kernel
theorem dL_law_1890 : decode cL_law 1890 = .ok (.iaload, 1) := by decide +kernel
theorem dL_law_1891 : decode cL_law 1891 = .ok ((.invokevirtual 231), 3) := by decide +kernel
theorem dL_law_1894 : decode cL_law 1894 = .ok ((.aload_n 2), 1) := by decide +kernel
theorem dL_law_1895 : decode cL_law 1895 = .ok ((.aload_n 0), 1) := by decide +kernel
theorem dL_law_1896 : decode cL_law 1896 = .ok ((.iload_n 3), 1) := by decide +kernel
theorem dL_law_1897 : decode cL_law 1897 = .ok ((.iconst 1), 1) := by decide +kernel
theorem dL_law_1898 : decode cL_law 1898 = .ok (.iadd, 1) := by decide +kernel
theorem dL_law_1899 : decode cL_law 1899 = .ok (.iaload, 1) := by decide +kernel
theorem dL_law_1900 : decode cL_law 1900 = .ok ((.aload_n 0), 1) := by decide +kernel
theorem dL_law_1901 : decode cL_law 1901 = .ok ((.iload_n 3), 1) := by decide +kernel
theorem dL_law_1902 : decode cL_law 1902 = .ok ((.iconst 2), 1) := by decide +kernel
theorem dL_law_1903 : decode cL_law 1903 = .ok (.iadd, 1) := by decide +kernel
theorem dL_law_1904 : decode cL_law 1904 = .ok (.iaload, 1) := by decide +kernel
theorem dL_law_1905 : decode cL_law 1905 = .ok ((.invokevirtual 234), 3) := by decide +kernel
theorem dL_law_1908 : decode cL_law 1908 = .ok ((.if_icmp .eq 31), 3) := by decide +kernel
theorem dL_law_1911 : decode cL_law 1911 = .ok ((.iconst 0), 1) := by decide +kernel
theorem dL_law_1912 : decode cL_law 1912 = .ok (.ireturn, 1) := by decide +kernel
theorem dL_law_1913 : decode cL_law 1913 = .ok ((.aload_n 1), 1) := by decide +kernel
theorem dL_law_1914 : decode cL_law 1914 = .ok ((.invokevirtual 235), 3) := by decide +kernel
theorem dL_law_1917 : decode cL_law 1917 = .ok ((.aload_n 2), 1) := by decide +kernel
theorem dL_law_1918 : decode cL_law 1918 = .ok ((.invokevirtual 238), 3) := by decide +kernel
theorem dL_law_1921 : decode cL_law 1921 = .ok ((.if_icmp .eq 18), 3) := by decide +kernel
theorem dL_law_1924 : decode cL_law 1924 = .ok ((.iconst 0), 1) := by decide +kernel
theorem dL_law_1925 : decode cL_law 1925 = .ok (.ireturn, 1) := by decide +kernel
theorem dL_law_1926 : decode cL_law 1926 = .ok ((.aload_n 1), 1) := by decide +kernel
theorem dL_law_1927 : decode cL_law 1927 = .ok ((.invokevirtual 239), 3) := by decide +kernel
theorem dL_law_1930 : decode cL_law 1930 = .ok ((.aload_n 2), 1) := by decide +kernel
theorem dL_law_1931 : decode cL_law 1931 = .ok ((.invokevirtual 242), 3) := by decide +kernel
theorem dL_law_1934 : decode cL_law 1934 = .ok ((.if_icmp .eq 5), 3) := by decide +kernel
theorem dL_law_1937 : decode cL_law 1937 = .ok ((.iconst 0), 1) := by decide +kernel
theorem dL_law_1938 : decode cL_law 1938 = .ok (.ireturn, 1) := by decide +kernel
theorem dL_law_1939 : decode cL_law 1939 = .ok ((.iinc 3 6), 3) := by decide +kernel
theorem dL_law_1942 : decode cL_law 1942 = .ok ((.goto (-1924)), 3) := by decide +kernel
theorem dL_law_1945 : decode cL_law 1945 = .ok ((.iconst 1), 1) := by decide +kernel
theorem dL_law_1946 : decode cL_law 1946 = .ok (.ireturn, 1) := by decide +kernel
