/-! the law: its instructions -/
theorem tL_0 : decode code 0 = .ok (.new 8, 3) := by decide +kernel
theorem tL_3 : decode code 3 = .ok (.dup, 1) := by decide +kernel
theorem tL_4 : decode code 4 = .ok (.invokespecial 22, 3) := by decide +kernel
theorem tL_7 : decode code 7 = .ok (.astore_n 1, 1) := by decide +kernel
theorem tL_8 : decode code 8 = .ok (.new 23, 3) := by decide +kernel
theorem tL_11 : decode code 11 = .ok (.dup, 1) := by decide +kernel
theorem tL_12 : decode code 12 = .ok (.invokespecial 25, 3) := by decide +kernel
theorem tL_15 : decode code 15 = .ok (.astore_n 2, 1) := by decide +kernel
theorem tL_16 : decode code 16 = .ok (.iconst 1, 1) := by decide +kernel
theorem tL_17 : decode code 17 = .ok (.newarray .long, 2) := by decide +kernel
theorem tL_19 : decode code 19 = .ok (.astore_n 3, 1) := by decide +kernel
theorem tL_20 : decode code 20 = .ok (.iconst 0, 1) := by decide +kernel
theorem tL_21 : decode code 21 = .ok (.istore 4, 2) := by decide +kernel
theorem tL_23 : decode code 23 = .ok (.iload 4, 2) := by decide +kernel
theorem tL_25 : decode code 25 = .ok (.aload_n 0, 1) := by decide +kernel
theorem tL_26 : decode code 26 = .ok (.arraylength, 1) := by decide +kernel
theorem tL_27 : decode code 27 = .ok (.iconst 5, 1) := by decide +kernel
theorem tL_28 : decode code 28 = .ok (.isub, 1) := by decide +kernel
theorem tL_29 : decode code 29 = .ok (.if_icmp .gt 1357, 3) := by decide +kernel
theorem tL_32 : decode code 32 = .ok (.aload_n 0, 1) := by decide +kernel
theorem tL_33 : decode code 33 = .ok (.iload 4, 2) := by decide +kernel
theorem tL_35 : decode code 35 = .ok (.iaload, 1) := by decide +kernel
theorem tL_36 : decode code 36 = .ok (.bipush 63, 2) := by decide +kernel
theorem tL_38 : decode code 38 = .ok (.iand, 1) := by decide +kernel
theorem tL_39 : decode code 39 = .ok (.tableswitch 1341 0 47 #[205, 230, 255, 268, 281, 294, 350, 406, 467, 492, 517, 530, 567, 580, 593, 618, 643, 656, 669, 682, 695, 708, 733, 746, 771, 808, 833, 870, 895, 908, 921, 946, 971, 984, 1021, 1034, 1047, 1060, 1097, 1110, 1123, 1136, 1161, 1174, 1211, 1236, 1261, 1286], 205) := by decide +kernel
theorem tL_244 : decode code 244 = .ok (.aload_n 1, 1) := by decide +kernel
theorem tL_245 : decode code 245 = .ok (.aload_n 0, 1) := by decide +kernel
theorem tL_246 : decode code 246 = .ok (.iload 4, 2) := by decide +kernel
theorem tL_248 : decode code 248 = .ok (.iconst 1, 1) := by decide +kernel
theorem tL_249 : decode code 249 = .ok (.iadd, 1) := by decide +kernel
theorem tL_250 : decode code 250 = .ok (.iaload, 1) := by decide +kernel
theorem tL_251 : decode code 251 = .ok (.invokevirtual 26, 3) := by decide +kernel
theorem tL_254 : decode code 254 = .ok (.aload_n 2, 1) := by decide +kernel
theorem tL_255 : decode code 255 = .ok (.aload_n 0, 1) := by decide +kernel
theorem tL_256 : decode code 256 = .ok (.iload 4, 2) := by decide +kernel
theorem tL_258 : decode code 258 = .ok (.iconst 1, 1) := by decide +kernel
theorem tL_259 : decode code 259 = .ok (.iadd, 1) := by decide +kernel
theorem tL_260 : decode code 260 = .ok (.iaload, 1) := by decide +kernel
theorem tL_261 : decode code 261 = .ok (.invokevirtual 29, 3) := by decide +kernel
theorem tL_264 : decode code 264 = .ok (.if_icmp .eq 1116, 3) := by decide +kernel
theorem tL_267 : decode code 267 = .ok (.iconst 0, 1) := by decide +kernel
theorem tL_268 : decode code 268 = .ok (.ireturn, 1) := by decide +kernel
theorem tL_269 : decode code 269 = .ok (.aload_n 1, 1) := by decide +kernel
theorem tL_270 : decode code 270 = .ok (.aload_n 0, 1) := by decide +kernel
theorem tL_271 : decode code 271 = .ok (.iload 4, 2) := by decide +kernel
theorem tL_273 : decode code 273 = .ok (.iconst 1, 1) := by decide +kernel
theorem tL_274 : decode code 274 = .ok (.iadd, 1) := by decide +kernel
theorem tL_275 : decode code 275 = .ok (.iaload, 1) := by decide +kernel
theorem tL_276 : decode code 276 = .ok (.invokevirtual 30, 3) := by decide +kernel
theorem tL_279 : decode code 279 = .ok (.aload_n 2, 1) := by decide +kernel
theorem tL_280 : decode code 280 = .ok (.aload_n 0, 1) := by decide +kernel
theorem tL_281 : decode code 281 = .ok (.iload 4, 2) := by decide +kernel
theorem tL_283 : decode code 283 = .ok (.iconst 1, 1) := by decide +kernel
theorem tL_284 : decode code 284 = .ok (.iadd, 1) := by decide +kernel
theorem tL_285 : decode code 285 = .ok (.iaload, 1) := by decide +kernel
theorem tL_286 : decode code 286 = .ok (.invokevirtual 34, 3) := by decide +kernel
theorem tL_289 : decode code 289 = .ok (.if_icmp .eq 1091, 3) := by decide +kernel
theorem tL_292 : decode code 292 = .ok (.iconst 0, 1) := by decide +kernel
theorem tL_293 : decode code 293 = .ok (.ireturn, 1) := by decide +kernel
theorem tL_294 : decode code 294 = .ok (.aload_n 1, 1) := by decide +kernel
theorem tL_295 : decode code 295 = .ok (.invokevirtual 35, 3) := by decide +kernel
theorem tL_298 : decode code 298 = .ok (.aload_n 2, 1) := by decide +kernel
theorem tL_299 : decode code 299 = .ok (.invokevirtual 39, 3) := by decide +kernel
theorem tL_302 : decode code 302 = .ok (.if_icmp .eq 1078, 3) := by decide +kernel
theorem tL_305 : decode code 305 = .ok (.iconst 0, 1) := by decide +kernel
theorem tL_306 : decode code 306 = .ok (.ireturn, 1) := by decide +kernel
theorem tL_307 : decode code 307 = .ok (.aload_n 1, 1) := by decide +kernel
theorem tL_308 : decode code 308 = .ok (.invokevirtual 40, 3) := by decide +kernel
theorem tL_311 : decode code 311 = .ok (.aload_n 2, 1) := by decide +kernel
theorem tL_312 : decode code 312 = .ok (.invokevirtual 43, 3) := by decide +kernel
theorem tL_315 : decode code 315 = .ok (.if_icmp .eq 1065, 3) := by decide +kernel
theorem tL_318 : decode code 318 = .ok (.iconst 0, 1) := by decide +kernel
theorem tL_319 : decode code 319 = .ok (.ireturn, 1) := by decide +kernel
theorem tL_320 : decode code 320 = .ok (.aload_n 1, 1) := by decide +kernel
theorem tL_321 : decode code 321 = .ok (.invokevirtual 44, 3) := by decide +kernel
theorem tL_324 : decode code 324 = .ok (.aload_n 2, 1) := by decide +kernel
theorem tL_325 : decode code 325 = .ok (.invokevirtual 47, 3) := by decide +kernel
theorem tL_328 : decode code 328 = .ok (.if_icmp .eq 1052, 3) := by decide +kernel
theorem tL_331 : decode code 331 = .ok (.iconst 0, 1) := by decide +kernel
theorem tL_332 : decode code 332 = .ok (.ireturn, 1) := by decide +kernel
theorem tL_333 : decode code 333 = .ok (.aload_n 1, 1) := by decide +kernel
theorem tL_334 : decode code 334 = .ok (.aload_n 0, 1) := by decide +kernel
theorem tL_335 : decode code 335 = .ok (.iload 4, 2) := by decide +kernel
theorem tL_337 : decode code 337 = .ok (.iconst 1, 1) := by decide +kernel
theorem tL_338 : decode code 338 = .ok (.iadd, 1) := by decide +kernel
theorem tL_339 : decode code 339 = .ok (.iaload, 1) := by decide +kernel
theorem tL_340 : decode code 340 = .ok (.aload_n 3, 1) := by decide +kernel
theorem tL_341 : decode code 341 = .ok (.invokestatic 48, 3) := by decide +kernel
theorem tL_344 : decode code 344 = .ok (.istore 5, 2) := by decide +kernel
theorem tL_346 : decode code 346 = .ok (.aload_n 2, 1) := by decide +kernel
theorem tL_347 : decode code 347 = .ok (.aload_n 0, 1) := by decide +kernel
theorem tL_348 : decode code 348 = .ok (.iload 4, 2) := by decide +kernel
theorem tL_350 : decode code 350 = .ok (.iconst 1, 1) := by decide +kernel
theorem tL_351 : decode code 351 = .ok (.iadd, 1) := by decide +kernel
theorem tL_352 : decode code 352 = .ok (.iaload, 1) := by decide +kernel
theorem tL_353 : decode code 353 = .ok (.invokevirtual 53, 3) := by decide +kernel
theorem tL_356 : decode code 356 = .ok (.istore 6, 2) := by decide +kernel
theorem tL_358 : decode code 358 = .ok (.aload_n 2, 1) := by decide +kernel
theorem tL_359 : decode code 359 = .ok (.invokevirtual 54, 3) := by decide +kernel
theorem tL_362 : decode code 362 = .ok (.iload 5, 2) := by decide +kernel
theorem tL_364 : decode code 364 = .ok (.if_icmp .eq 5, 3) := by decide +kernel
theorem tL_367 : decode code 367 = .ok (.iconst 0, 1) := by decide +kernel
theorem tL_368 : decode code 368 = .ok (.ireturn, 1) := by decide +kernel
theorem tL_369 : decode code 369 = .ok (.iload 5, 2) := by decide +kernel
theorem tL_371 : decode code 371 = .ok (.ifCond .ne 15, 3) := by decide +kernel
theorem tL_374 : decode code 374 = .ok (.aload_n 3, 1) := by decide +kernel
theorem tL_375 : decode code 375 = .ok (.iconst 0, 1) := by decide +kernel
theorem tL_376 : decode code 376 = .ok (.laload, 1) := by decide +kernel
theorem tL_377 : decode code 377 = .ok (.iload 6, 2) := by decide +kernel
theorem tL_379 : decode code 379 = .ok (.i2l, 1) := by decide +kernel
theorem tL_380 : decode code 380 = .ok (.lcmp, 1) := by decide +kernel
theorem tL_381 : decode code 381 = .ok (.ifCond .eq 5, 3) := by decide +kernel
theorem tL_384 : decode code 384 = .ok (.iconst 0, 1) := by decide +kernel
theorem tL_385 : decode code 385 = .ok (.ireturn, 1) := by decide +kernel
theorem tL_386 : decode code 386 = .ok (.goto 994, 3) := by decide +kernel
theorem tL_389 : decode code 389 = .ok (.aload_n 1, 1) := by decide +kernel
theorem tL_390 : decode code 390 = .ok (.aload_n 0, 1) := by decide +kernel
theorem tL_391 : decode code 391 = .ok (.iload 4, 2) := by decide +kernel
theorem tL_393 : decode code 393 = .ok (.iconst 1, 1) := by decide +kernel
theorem tL_394 : decode code 394 = .ok (.iadd, 1) := by decide +kernel
theorem tL_395 : decode code 395 = .ok (.iaload, 1) := by decide +kernel
theorem tL_396 : decode code 396 = .ok (.aload_n 3, 1) := by decide +kernel
theorem tL_397 : decode code 397 = .ok (.invokestatic 57, 3) := by decide +kernel
theorem tL_400 : decode code 400 = .ok (.istore 5, 2) := by decide +kernel
theorem tL_402 : decode code 402 = .ok (.aload_n 2, 1) := by decide +kernel
theorem tL_403 : decode code 403 = .ok (.aload_n 0, 1) := by decide +kernel
theorem tL_404 : decode code 404 = .ok (.iload 4, 2) := by decide +kernel
theorem tL_406 : decode code 406 = .ok (.iconst 1, 1) := by decide +kernel
theorem tL_407 : decode code 407 = .ok (.iadd, 1) := by decide +kernel
theorem tL_408 : decode code 408 = .ok (.iaload, 1) := by decide +kernel
theorem tL_409 : decode code 409 = .ok (.invokevirtual 59, 3) := by decide +kernel
theorem tL_412 : decode code 412 = .ok (.istore 6, 2) := by decide +kernel
theorem tL_414 : decode code 414 = .ok (.aload_n 2, 1) := by decide +kernel
theorem tL_415 : decode code 415 = .ok (.invokevirtual 54, 3) := by decide +kernel
theorem tL_418 : decode code 418 = .ok (.iload 5, 2) := by decide +kernel
theorem tL_420 : decode code 420 = .ok (.if_icmp .eq 5, 3) := by decide +kernel
theorem tL_423 : decode code 423 = .ok (.iconst 0, 1) := by decide +kernel
theorem tL_424 : decode code 424 = .ok (.ireturn, 1) := by decide +kernel
theorem tL_425 : decode code 425 = .ok (.iload 5, 2) := by decide +kernel
theorem tL_427 : decode code 427 = .ok (.ifCond .ne 15, 3) := by decide +kernel
theorem tL_430 : decode code 430 = .ok (.aload_n 3, 1) := by decide +kernel
theorem tL_431 : decode code 431 = .ok (.iconst 0, 1) := by decide +kernel
theorem tL_432 : decode code 432 = .ok (.laload, 1) := by decide +kernel
theorem tL_433 : decode code 433 = .ok (.iload 6, 2) := by decide +kernel
theorem tL_435 : decode code 435 = .ok (.i2l, 1) := by decide +kernel
theorem tL_436 : decode code 436 = .ok (.lcmp, 1) := by decide +kernel
theorem tL_437 : decode code 437 = .ok (.ifCond .eq 5, 3) := by decide +kernel
theorem tL_440 : decode code 440 = .ok (.iconst 0, 1) := by decide +kernel
theorem tL_441 : decode code 441 = .ok (.ireturn, 1) := by decide +kernel
theorem tL_442 : decode code 442 = .ok (.goto 938, 3) := by decide +kernel
theorem tL_445 : decode code 445 = .ok (.aload_n 1, 1) := by decide +kernel
theorem tL_446 : decode code 446 = .ok (.aload_n 0, 1) := by decide +kernel
theorem tL_447 : decode code 447 = .ok (.iload 4, 2) := by decide +kernel
theorem tL_449 : decode code 449 = .ok (.iconst 1, 1) := by decide +kernel
theorem tL_450 : decode code 450 = .ok (.iadd, 1) := by decide +kernel
theorem tL_451 : decode code 451 = .ok (.iaload, 1) := by decide +kernel
theorem tL_452 : decode code 452 = .ok (.aload_n 0, 1) := by decide +kernel
theorem tL_453 : decode code 453 = .ok (.iload 4, 2) := by decide +kernel
theorem tL_455 : decode code 455 = .ok (.iconst 2, 1) := by decide +kernel
theorem tL_456 : decode code 456 = .ok (.iadd, 1) := by decide +kernel
theorem tL_457 : decode code 457 = .ok (.iaload, 1) := by decide +kernel
theorem tL_458 : decode code 458 = .ok (.aload_n 0, 1) := by decide +kernel
theorem tL_459 : decode code 459 = .ok (.iload 4, 2) := by decide +kernel
theorem tL_461 : decode code 461 = .ok (.iconst 3, 1) := by decide +kernel
theorem tL_462 : decode code 462 = .ok (.iadd, 1) := by decide +kernel
theorem tL_463 : decode code 463 = .ok (.iaload, 1) := by decide +kernel
theorem tL_464 : decode code 464 = .ok (.aload_n 0, 1) := by decide +kernel
theorem tL_465 : decode code 465 = .ok (.iload 4, 2) := by decide +kernel
theorem tL_467 : decode code 467 = .ok (.iconst 4, 1) := by decide +kernel
theorem tL_468 : decode code 468 = .ok (.iadd, 1) := by decide +kernel
theorem tL_469 : decode code 469 = .ok (.iaload, 1) := by decide +kernel
theorem tL_470 : decode code 470 = .ok (.invokevirtual 60, 3) := by decide +kernel
theorem tL_473 : decode code 473 = .ok (.aload_n 2, 1) := by decide +kernel
theorem tL_474 : decode code 474 = .ok (.aload_n 0, 1) := by decide +kernel
theorem tL_475 : decode code 475 = .ok (.iload 4, 2) := by decide +kernel
theorem tL_477 : decode code 477 = .ok (.iconst 1, 1) := by decide +kernel
theorem tL_478 : decode code 478 = .ok (.iadd, 1) := by decide +kernel
theorem tL_479 : decode code 479 = .ok (.iaload, 1) := by decide +kernel
theorem tL_480 : decode code 480 = .ok (.aload_n 0, 1) := by decide +kernel
theorem tL_481 : decode code 481 = .ok (.iload 4, 2) := by decide +kernel
theorem tL_483 : decode code 483 = .ok (.iconst 2, 1) := by decide +kernel
theorem tL_484 : decode code 484 = .ok (.iadd, 1) := by decide +kernel
theorem tL_485 : decode code 485 = .ok (.iaload, 1) := by decide +kernel
theorem tL_486 : decode code 486 = .ok (.aload_n 0, 1) := by decide +kernel
theorem tL_487 : decode code 487 = .ok (.iload 4, 2) := by decide +kernel
theorem tL_489 : decode code 489 = .ok (.iconst 3, 1) := by decide +kernel
theorem tL_490 : decode code 490 = .ok (.iadd, 1) := by decide +kernel
theorem tL_491 : decode code 491 = .ok (.iaload, 1) := by decide +kernel
theorem tL_492 : decode code 492 = .ok (.aload_n 0, 1) := by decide +kernel
theorem tL_493 : decode code 493 = .ok (.iload 4, 2) := by decide +kernel
theorem tL_495 : decode code 495 = .ok (.iconst 4, 1) := by decide +kernel
theorem tL_496 : decode code 496 = .ok (.iadd, 1) := by decide +kernel
theorem tL_497 : decode code 497 = .ok (.iaload, 1) := by decide +kernel
theorem tL_498 : decode code 498 = .ok (.invokevirtual 64, 3) := by decide +kernel
theorem tL_501 : decode code 501 = .ok (.if_icmp .eq 879, 3) := by decide +kernel
theorem tL_504 : decode code 504 = .ok (.iconst 0, 1) := by decide +kernel
theorem tL_505 : decode code 505 = .ok (.ireturn, 1) := by decide +kernel
theorem tL_506 : decode code 506 = .ok (.aload_n 1, 1) := by decide +kernel
theorem tL_507 : decode code 507 = .ok (.aload_n 0, 1) := by decide +kernel
theorem tL_508 : decode code 508 = .ok (.iload 4, 2) := by decide +kernel
theorem tL_510 : decode code 510 = .ok (.iconst 1, 1) := by decide +kernel
theorem tL_511 : decode code 511 = .ok (.iadd, 1) := by decide +kernel
theorem tL_512 : decode code 512 = .ok (.iaload, 1) := by decide +kernel
theorem tL_513 : decode code 513 = .ok (.invokevirtual 65, 3) := by decide +kernel
theorem tL_516 : decode code 516 = .ok (.aload_n 2, 1) := by decide +kernel
theorem tL_517 : decode code 517 = .ok (.aload_n 0, 1) := by decide +kernel
theorem tL_518 : decode code 518 = .ok (.iload 4, 2) := by decide +kernel
theorem tL_520 : decode code 520 = .ok (.iconst 1, 1) := by decide +kernel
theorem tL_521 : decode code 521 = .ok (.iadd, 1) := by decide +kernel
theorem tL_522 : decode code 522 = .ok (.iaload, 1) := by decide +kernel
theorem tL_523 : decode code 523 = .ok (.invokevirtual 68, 3) := by decide +kernel
theorem tL_526 : decode code 526 = .ok (.if_icmp .eq 854, 3) := by decide +kernel
theorem tL_529 : decode code 529 = .ok (.iconst 0, 1) := by decide +kernel
theorem tL_530 : decode code 530 = .ok (.ireturn, 1) := by decide +kernel
theorem tL_531 : decode code 531 = .ok (.aload_n 1, 1) := by decide +kernel
theorem tL_532 : decode code 532 = .ok (.aload_n 0, 1) := by decide +kernel
theorem tL_533 : decode code 533 = .ok (.iload 4, 2) := by decide +kernel
theorem tL_535 : decode code 535 = .ok (.iconst 1, 1) := by decide +kernel
theorem tL_536 : decode code 536 = .ok (.iadd, 1) := by decide +kernel
theorem tL_537 : decode code 537 = .ok (.iaload, 1) := by decide +kernel
theorem tL_538 : decode code 538 = .ok (.invokevirtual 69, 3) := by decide +kernel
theorem tL_541 : decode code 541 = .ok (.aload_n 2, 1) := by decide +kernel
theorem tL_542 : decode code 542 = .ok (.aload_n 0, 1) := by decide +kernel
theorem tL_543 : decode code 543 = .ok (.iload 4, 2) := by decide +kernel
theorem tL_545 : decode code 545 = .ok (.iconst 1, 1) := by decide +kernel
theorem tL_546 : decode code 546 = .ok (.iadd, 1) := by decide +kernel
theorem tL_547 : decode code 547 = .ok (.iaload, 1) := by decide +kernel
theorem tL_548 : decode code 548 = .ok (.invokevirtual 72, 3) := by decide +kernel
theorem tL_551 : decode code 551 = .ok (.if_icmp .eq 829, 3) := by decide +kernel
theorem tL_554 : decode code 554 = .ok (.iconst 0, 1) := by decide +kernel
theorem tL_555 : decode code 555 = .ok (.ireturn, 1) := by decide +kernel
theorem tL_556 : decode code 556 = .ok (.aload_n 1, 1) := by decide +kernel
theorem tL_557 : decode code 557 = .ok (.invokevirtual 73, 3) := by decide +kernel
theorem tL_560 : decode code 560 = .ok (.aload_n 2, 1) := by decide +kernel
theorem tL_561 : decode code 561 = .ok (.invokevirtual 76, 3) := by decide +kernel
theorem tL_564 : decode code 564 = .ok (.if_icmp .eq 816, 3) := by decide +kernel
theorem tL_567 : decode code 567 = .ok (.iconst 0, 1) := by decide +kernel
theorem tL_568 : decode code 568 = .ok (.ireturn, 1) := by decide +kernel
theorem tL_569 : decode code 569 = .ok (.aload_n 1, 1) := by decide +kernel
theorem tL_570 : decode code 570 = .ok (.aload_n 0, 1) := by decide +kernel
theorem tL_571 : decode code 571 = .ok (.iload 4, 2) := by decide +kernel
theorem tL_573 : decode code 573 = .ok (.iconst 1, 1) := by decide +kernel
theorem tL_574 : decode code 574 = .ok (.iadd, 1) := by decide +kernel
theorem tL_575 : decode code 575 = .ok (.iaload, 1) := by decide +kernel
theorem tL_576 : decode code 576 = .ok (.aload_n 0, 1) := by decide +kernel
theorem tL_577 : decode code 577 = .ok (.iload 4, 2) := by decide +kernel
theorem tL_579 : decode code 579 = .ok (.iconst 2, 1) := by decide +kernel
theorem tL_580 : decode code 580 = .ok (.iadd, 1) := by decide +kernel
theorem tL_581 : decode code 581 = .ok (.iaload, 1) := by decide +kernel
theorem tL_582 : decode code 582 = .ok (.invokevirtual 77, 3) := by decide +kernel
theorem tL_585 : decode code 585 = .ok (.aload_n 2, 1) := by decide +kernel
theorem tL_586 : decode code 586 = .ok (.aload_n 0, 1) := by decide +kernel
theorem tL_587 : decode code 587 = .ok (.iload 4, 2) := by decide +kernel
theorem tL_589 : decode code 589 = .ok (.iconst 1, 1) := by decide +kernel
theorem tL_590 : decode code 590 = .ok (.iadd, 1) := by decide +kernel
theorem tL_591 : decode code 591 = .ok (.iaload, 1) := by decide +kernel
theorem tL_592 : decode code 592 = .ok (.aload_n 0, 1) := by decide +kernel
theorem tL_593 : decode code 593 = .ok (.iload 4, 2) := by decide +kernel
theorem tL_595 : decode code 595 = .ok (.iconst 2, 1) := by decide +kernel
theorem tL_596 : decode code 596 = .ok (.iadd, 1) := by decide +kernel
theorem tL_597 : decode code 597 = .ok (.iaload, 1) := by decide +kernel
theorem tL_598 : decode code 598 = .ok (.invokevirtual 81, 3) := by decide +kernel
theorem tL_601 : decode code 601 = .ok (.if_icmp .eq 779, 3) := by decide +kernel
theorem tL_604 : decode code 604 = .ok (.iconst 0, 1) := by decide +kernel
theorem tL_605 : decode code 605 = .ok (.ireturn, 1) := by decide +kernel
theorem tL_606 : decode code 606 = .ok (.aload_n 1, 1) := by decide +kernel
theorem tL_607 : decode code 607 = .ok (.invokevirtual 82, 3) := by decide +kernel
theorem tL_610 : decode code 610 = .ok (.aload_n 2, 1) := by decide +kernel
theorem tL_611 : decode code 611 = .ok (.invokevirtual 85, 3) := by decide +kernel
theorem tL_614 : decode code 614 = .ok (.if_icmp .eq 766, 3) := by decide +kernel
theorem tL_617 : decode code 617 = .ok (.iconst 0, 1) := by decide +kernel
theorem tL_618 : decode code 618 = .ok (.ireturn, 1) := by decide +kernel
theorem tL_619 : decode code 619 = .ok (.aload_n 1, 1) := by decide +kernel
theorem tL_620 : decode code 620 = .ok (.invokevirtual 86, 3) := by decide +kernel
theorem tL_623 : decode code 623 = .ok (.aload_n 2, 1) := by decide +kernel
theorem tL_624 : decode code 624 = .ok (.invokevirtual 89, 3) := by decide +kernel
theorem tL_627 : decode code 627 = .ok (.if_icmp .eq 753, 3) := by decide +kernel
theorem tL_630 : decode code 630 = .ok (.iconst 0, 1) := by decide +kernel
theorem tL_631 : decode code 631 = .ok (.ireturn, 1) := by decide +kernel
theorem tL_632 : decode code 632 = .ok (.aload_n 1, 1) := by decide +kernel
theorem tL_633 : decode code 633 = .ok (.aload_n 0, 1) := by decide +kernel
theorem tL_634 : decode code 634 = .ok (.iload 4, 2) := by decide +kernel
theorem tL_636 : decode code 636 = .ok (.iconst 1, 1) := by decide +kernel
theorem tL_637 : decode code 637 = .ok (.iadd, 1) := by decide +kernel
theorem tL_638 : decode code 638 = .ok (.iaload, 1) := by decide +kernel
theorem tL_639 : decode code 639 = .ok (.invokevirtual 90, 3) := by decide +kernel
theorem tL_642 : decode code 642 = .ok (.aload_n 2, 1) := by decide +kernel
theorem tL_643 : decode code 643 = .ok (.aload_n 0, 1) := by decide +kernel
theorem tL_644 : decode code 644 = .ok (.iload 4, 2) := by decide +kernel
theorem tL_646 : decode code 646 = .ok (.iconst 1, 1) := by decide +kernel
theorem tL_647 : decode code 647 = .ok (.iadd, 1) := by decide +kernel
theorem tL_648 : decode code 648 = .ok (.iaload, 1) := by decide +kernel
theorem tL_649 : decode code 649 = .ok (.invokevirtual 93, 3) := by decide +kernel
theorem tL_652 : decode code 652 = .ok (.if_icmp .eq 728, 3) := by decide +kernel
theorem tL_655 : decode code 655 = .ok (.iconst 0, 1) := by decide +kernel
theorem tL_656 : decode code 656 = .ok (.ireturn, 1) := by decide +kernel
theorem tL_657 : decode code 657 = .ok (.aload_n 1, 1) := by decide +kernel
theorem tL_658 : decode code 658 = .ok (.aload_n 0, 1) := by decide +kernel
theorem tL_659 : decode code 659 = .ok (.iload 4, 2) := by decide +kernel
theorem tL_661 : decode code 661 = .ok (.iconst 1, 1) := by decide +kernel
theorem tL_662 : decode code 662 = .ok (.iadd, 1) := by decide +kernel
theorem tL_663 : decode code 663 = .ok (.iaload, 1) := by decide +kernel
theorem tL_664 : decode code 664 = .ok (.invokevirtual 94, 3) := by decide +kernel
theorem tL_667 : decode code 667 = .ok (.aload_n 2, 1) := by decide +kernel
theorem tL_668 : decode code 668 = .ok (.aload_n 0, 1) := by decide +kernel
theorem tL_669 : decode code 669 = .ok (.iload 4, 2) := by decide +kernel
theorem tL_671 : decode code 671 = .ok (.iconst 1, 1) := by decide +kernel
theorem tL_672 : decode code 672 = .ok (.iadd, 1) := by decide +kernel
theorem tL_673 : decode code 673 = .ok (.iaload, 1) := by decide +kernel
theorem tL_674 : decode code 674 = .ok (.invokevirtual 97, 3) := by decide +kernel
theorem tL_677 : decode code 677 = .ok (.if_icmp .eq 703, 3) := by decide +kernel
theorem tL_680 : decode code 680 = .ok (.iconst 0, 1) := by decide +kernel
theorem tL_681 : decode code 681 = .ok (.ireturn, 1) := by decide +kernel
theorem tL_682 : decode code 682 = .ok (.aload_n 1, 1) := by decide +kernel
theorem tL_683 : decode code 683 = .ok (.invokevirtual 98, 3) := by decide +kernel
theorem tL_686 : decode code 686 = .ok (.aload_n 2, 1) := by decide +kernel
theorem tL_687 : decode code 687 = .ok (.invokevirtual 101, 3) := by decide +kernel
theorem tL_690 : decode code 690 = .ok (.if_icmp .eq 690, 3) := by decide +kernel
theorem tL_693 : decode code 693 = .ok (.iconst 0, 1) := by decide +kernel
theorem tL_694 : decode code 694 = .ok (.ireturn, 1) := by decide +kernel
theorem tL_695 : decode code 695 = .ok (.aload_n 1, 1) := by decide +kernel
theorem tL_696 : decode code 696 = .ok (.invokevirtual 102, 3) := by decide +kernel
theorem tL_699 : decode code 699 = .ok (.aload_n 2, 1) := by decide +kernel
theorem tL_700 : decode code 700 = .ok (.invokevirtual 105, 3) := by decide +kernel
theorem tL_703 : decode code 703 = .ok (.if_icmp .eq 677, 3) := by decide +kernel
theorem tL_706 : decode code 706 = .ok (.iconst 0, 1) := by decide +kernel
theorem tL_707 : decode code 707 = .ok (.ireturn, 1) := by decide +kernel
theorem tL_708 : decode code 708 = .ok (.aload_n 1, 1) := by decide +kernel
theorem tL_709 : decode code 709 = .ok (.invokevirtual 106, 3) := by decide +kernel
theorem tL_712 : decode code 712 = .ok (.aload_n 2, 1) := by decide +kernel
theorem tL_713 : decode code 713 = .ok (.invokevirtual 109, 3) := by decide +kernel
theorem tL_716 : decode code 716 = .ok (.if_icmp .eq 664, 3) := by decide +kernel
theorem tL_719 : decode code 719 = .ok (.iconst 0, 1) := by decide +kernel
theorem tL_720 : decode code 720 = .ok (.ireturn, 1) := by decide +kernel
theorem tL_721 : decode code 721 = .ok (.aload_n 1, 1) := by decide +kernel
theorem tL_722 : decode code 722 = .ok (.invokevirtual 110, 3) := by decide +kernel
theorem tL_725 : decode code 725 = .ok (.aload_n 2, 1) := by decide +kernel
theorem tL_726 : decode code 726 = .ok (.invokevirtual 113, 3) := by decide +kernel
theorem tL_729 : decode code 729 = .ok (.if_icmp .eq 651, 3) := by decide +kernel
theorem tL_732 : decode code 732 = .ok (.iconst 0, 1) := by decide +kernel
theorem tL_733 : decode code 733 = .ok (.ireturn, 1) := by decide +kernel
theorem tL_734 : decode code 734 = .ok (.aload_n 1, 1) := by decide +kernel
theorem tL_735 : decode code 735 = .ok (.invokevirtual 114, 3) := by decide +kernel
theorem tL_738 : decode code 738 = .ok (.aload_n 2, 1) := by decide +kernel
theorem tL_739 : decode code 739 = .ok (.invokevirtual 117, 3) := by decide +kernel
theorem tL_742 : decode code 742 = .ok (.if_icmp .eq 638, 3) := by decide +kernel
theorem tL_745 : decode code 745 = .ok (.iconst 0, 1) := by decide +kernel
theorem tL_746 : decode code 746 = .ok (.ireturn, 1) := by decide +kernel
theorem tL_747 : decode code 747 = .ok (.aload_n 1, 1) := by decide +kernel
theorem tL_748 : decode code 748 = .ok (.aload_n 0, 1) := by decide +kernel
theorem tL_749 : decode code 749 = .ok (.iload 4, 2) := by decide +kernel
theorem tL_751 : decode code 751 = .ok (.iconst 1, 1) := by decide +kernel
theorem tL_752 : decode code 752 = .ok (.iadd, 1) := by decide +kernel
theorem tL_753 : decode code 753 = .ok (.iaload, 1) := by decide +kernel
theorem tL_754 : decode code 754 = .ok (.invokevirtual 118, 3) := by decide +kernel
theorem tL_757 : decode code 757 = .ok (.aload_n 2, 1) := by decide +kernel
theorem tL_758 : decode code 758 = .ok (.aload_n 0, 1) := by decide +kernel
theorem tL_759 : decode code 759 = .ok (.iload 4, 2) := by decide +kernel
theorem tL_761 : decode code 761 = .ok (.iconst 1, 1) := by decide +kernel
theorem tL_762 : decode code 762 = .ok (.iadd, 1) := by decide +kernel
theorem tL_763 : decode code 763 = .ok (.iaload, 1) := by decide +kernel
theorem tL_764 : decode code 764 = .ok (.invokevirtual 121, 3) := by decide +kernel
theorem tL_767 : decode code 767 = .ok (.if_icmp .eq 613, 3) := by decide +kernel
theorem tL_770 : decode code 770 = .ok (.iconst 0, 1) := by decide +kernel
theorem tL_771 : decode code 771 = .ok (.ireturn, 1) := by decide +kernel
theorem tL_772 : decode code 772 = .ok (.aload_n 1, 1) := by decide +kernel
theorem tL_773 : decode code 773 = .ok (.invokevirtual 122, 3) := by decide +kernel
theorem tL_776 : decode code 776 = .ok (.aload_n 2, 1) := by decide +kernel
theorem tL_777 : decode code 777 = .ok (.invokevirtual 125, 3) := by decide +kernel
theorem tL_780 : decode code 780 = .ok (.if_icmp .eq 600, 3) := by decide +kernel
theorem tL_783 : decode code 783 = .ok (.iconst 0, 1) := by decide +kernel
theorem tL_784 : decode code 784 = .ok (.ireturn, 1) := by decide +kernel
theorem tL_785 : decode code 785 = .ok (.aload_n 1, 1) := by decide +kernel
theorem tL_786 : decode code 786 = .ok (.aload_n 0, 1) := by decide +kernel
theorem tL_787 : decode code 787 = .ok (.iload 4, 2) := by decide +kernel
theorem tL_789 : decode code 789 = .ok (.iconst 1, 1) := by decide +kernel
theorem tL_790 : decode code 790 = .ok (.iadd, 1) := by decide +kernel
theorem tL_791 : decode code 791 = .ok (.iaload, 1) := by decide +kernel
theorem tL_792 : decode code 792 = .ok (.invokevirtual 126, 3) := by decide +kernel
theorem tL_795 : decode code 795 = .ok (.aload_n 2, 1) := by decide +kernel
theorem tL_796 : decode code 796 = .ok (.aload_n 0, 1) := by decide +kernel
theorem tL_797 : decode code 797 = .ok (.iload 4, 2) := by decide +kernel
theorem tL_799 : decode code 799 = .ok (.iconst 1, 1) := by decide +kernel
