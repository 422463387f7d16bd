theorem dL_law__0 : decode cL_law_ 0 = .ok (.new 8, 3) := by decide +kernel
theorem dL_law__3 : decode cL_law_ 3 = .ok (.dup, 1) := by decide +kernel
theorem dL_law__4 : decode cL_law_ 4 = .ok (.invokespecial 136, 3) := by decide +kernel
theorem dL_law__7 : decode cL_law_ 7 = .ok (.astore_n 1, 1) := by decide +kernel
theorem dL_law__8 : decode cL_law_ 8 = .ok (.new 137, 3) := by decide +kernel
theorem dL_law__11 : decode cL_law_ 11 = .ok (.dup, 1) := by decide +kernel
theorem dL_law__12 : decode cL_law_ 12 = .ok (.invokespecial 139, 3) := by decide +kernel
theorem dL_law__15 : decode cL_law_ 15 = .ok (.astore_n 2, 1) := by decide +kernel
theorem dL_law__16 : decode cL_law_ 16 = .ok (.iconst 1, 1) := by decide +kernel
theorem dL_law__17 : decode cL_law_ 17 = .ok (.newarray .long, 2) := by decide +kernel
theorem dL_law__19 : decode cL_law_ 19 = .ok (.astore_n 3, 1) := by decide +kernel
theorem dL_law__20 : decode cL_law_ 20 = .ok (.iconst 0, 1) := by decide +kernel
theorem dL_law__21 : decode cL_law_ 21 = .ok (.istore 4, 2) := by decide +kernel
theorem dL_law__23 : decode cL_law_ 23 = .ok (.iload 4, 2) := by decide +kernel
theorem dL_law__25 : decode cL_law_ 25 = .ok (.aload_n 0, 1) := by decide +kernel
theorem dL_law__26 : decode cL_law_ 26 = .ok (.arraylength, 1) := by decide +kernel
theorem dL_law__27 : decode cL_law_ 27 = .ok (.bipush 6, 2) := by decide +kernel
theorem dL_law__29 : decode cL_law_ 29 = .ok (.isub, 1) := by decide +kernel
theorem dL_law__30 : decode cL_law_ 30 = .ok (.if_icmp .gt 3017, 3) := by decide +kernel
theorem dL_law__33 : decode cL_law_ 33 = .ok (.aload_n 0, 1) := by decide +kernel
theorem dL_law__34 : decode cL_law_ 34 = .ok (.iload 4, 2) := by decide +kernel
theorem dL_law__36 : decode cL_law_ 36 = .ok (.iaload, 1) := by decide +kernel
theorem dL_law__37 : decode cL_law_ 37 = .ok (.bipush 63, 2) := by decide +kernel
theorem dL_law__39 : decode cL_law_ 39 = .ok (.iand, 1) := by decide +kernel
theorem dL_law__40 : decode cL_law_ 40 = .ok (.tableswitch 3001 0 59 #[256, 329, 354, 398, 442, 455, 523, 579, 635, 691, 747, 803, 859, 927, 995, 1063, 1119, 1132, 1200, 1268, 1324, 1337, 1350, 1363, 1376, 1444, 1528, 1584, 1597, 1653, 1737, 1750, 1822, 1866, 1938, 1982, 2050, 2106, 2162, 2175, 2200, 2256, 2269, 2325, 2393, 2406, 2419, 2432, 2488, 2501, 2514, 2594, 2678, 2762, 2846, 2914, 2939, 2952, 2963, 2976], 256) := by decide +kernel
theorem dL_law__296 : decode cL_law_ 296 = .ok (.aload_n 1, 1) := by decide +kernel
theorem dL_law__297 : decode cL_law_ 297 = .ok (.aload_n 0, 1) := by decide +kernel
theorem dL_law__298 : decode cL_law_ 298 = .ok (.iload 4, 2) := by decide +kernel
theorem dL_law__300 : decode cL_law_ 300 = .ok (.iconst 1, 1) := by decide +kernel
theorem dL_law__301 : decode cL_law_ 301 = .ok (.iadd, 1) := by decide +kernel
theorem dL_law__302 : decode cL_law_ 302 = .ok (.iaload, 1) := by decide +kernel
theorem dL_law__303 : decode cL_law_ 303 = .ok (.aload_n 0, 1) := by decide +kernel
theorem dL_law__304 : decode cL_law_ 304 = .ok (.iload 4, 2) := by decide +kernel
theorem dL_law__306 : decode cL_law_ 306 = .ok (.iconst 2, 1) := by decide +kernel
theorem dL_law__307 : decode cL_law_ 307 = .ok (.iadd, 1) := by decide +kernel
theorem dL_law__308 : decode cL_law_ 308 = .ok (.iaload, 1) := by decide +kernel
theorem dL_law__309 : decode cL_law_ 309 = .ok (.aload_n 0, 1) := by decide +kernel
theorem dL_law__310 : decode cL_law_ 310 = .ok (.iload 4, 2) := by decide +kernel
theorem dL_law__312 : decode cL_law_ 312 = .ok (.iconst 3, 1) := by decide +kernel
theorem dL_law__313 : decode cL_law_ 313 = .ok (.iadd, 1) := by decide +kernel
theorem dL_law__314 : decode cL_law_ 314 = .ok (.iaload, 1) := by decide +kernel
theorem dL_law__315 : decode cL_law_ 315 = .ok (.aload_n 0, 1) := by decide +kernel
theorem dL_law__316 : decode cL_law_ 316 = .ok (.iload 4, 2) := by decide +kernel
theorem dL_law__318 : decode cL_law_ 318 = .ok (.iconst 4, 1) := by decide +kernel
theorem dL_law__319 : decode cL_law_ 319 = .ok (.iadd, 1) := by decide +kernel
theorem dL_law__320 : decode cL_law_ 320 = .ok (.iaload, 1) := by decide +kernel
theorem dL_law__321 : decode cL_law_ 321 = .ok (.aload_n 0, 1) := by decide +kernel
theorem dL_law__322 : decode cL_law_ 322 = .ok (.iload 4, 2) := by decide +kernel
theorem dL_law__324 : decode cL_law_ 324 = .ok (.iconst 5, 1) := by decide +kernel
theorem dL_law__325 : decode cL_law_ 325 = .ok (.iadd, 1) := by decide +kernel
theorem dL_law__326 : decode cL_law_ 326 = .ok (.iaload, 1) := by decide +kernel
theorem dL_law__327 : decode cL_law_ 327 = .ok (.invokevirtual 140, 3) := by decide +kernel
theorem dL_law__330 : decode cL_law_ 330 = .ok (.aload_n 2, 1) := by decide +kernel
theorem dL_law__331 : decode cL_law_ 331 = .ok (.aload_n 0, 1) := by decide +kernel
theorem dL_law__332 : decode cL_law_ 332 = .ok (.iload 4, 2) := by decide +kernel
theorem dL_law__334 : decode cL_law_ 334 = .ok (.iconst 1, 1) := by decide +kernel
theorem dL_law__335 : decode cL_law_ 335 = .ok (.iadd, 1) := by decide +kernel
theorem dL_law__336 : decode cL_law_ 336 = .ok (.iaload, 1) := by decide +kernel
theorem dL_law__337 : decode cL_law_ 337 = .ok (.aload_n 0, 1) := by decide +kernel
theorem dL_law__338 : decode cL_law_ 338 = .ok (.iload 4, 2) := by decide +kernel
theorem dL_law__340 : decode cL_law_ 340 = .ok (.iconst 2, 1) := by decide +kernel
theorem dL_law__341 : decode cL_law_ 341 = .ok (.iadd, 1) := by decide +kernel
theorem dL_law__342 : decode cL_law_ 342 = .ok (.iaload, 1) := by decide +kernel
theorem dL_law__343 : decode cL_law_ 343 = .ok (.aload_n 0, 1) := by decide +kernel
theorem dL_law__344 : decode cL_law_ 344 = .ok (.iload 4, 2) := by decide +kernel
theorem dL_law__346 : decode cL_law_ 346 = .ok (.iconst 3, 1) := by decide +kernel
theorem dL_law__347 : decode cL_law_ 347 = .ok (.iadd, 1) := by decide +kernel
theorem dL_law__348 : decode cL_law_ 348 = .ok (.iaload, 1) := by decide +kernel
theorem dL_law__349 : decode cL_law_ 349 = .ok (.aload_n 0, 1) := by decide +kernel
theorem dL_law__350 : decode cL_law_ 350 = .ok (.iload 4, 2) := by decide +kernel
theorem dL_law__352 : decode cL_law_ 352 = .ok (.iconst 4, 1) := by decide +kernel
theorem dL_law__353 : decode cL_law_ 353 = .ok (.iadd, 1) := by decide +kernel
theorem dL_law__354 : decode cL_law_ 354 = .ok (.iaload, 1) := by decide +kernel
theorem dL_law__355 : decode cL_law_ 355 = .ok (.aload_n 0, 1) := by decide +kernel
theorem dL_law__356 : decode cL_law_ 356 = .ok (.iload 4, 2) := by decide +kernel
theorem dL_law__358 : decode cL_law_ 358 = .ok (.iconst 5, 1) := by decide +kernel
theorem dL_law__359 : decode cL_law_ 359 = .ok (.iadd, 1) := by decide +kernel
theorem dL_law__360 : decode cL_law_ 360 = .ok (.iaload, 1) := by decide +kernel
theorem dL_law__361 : decode cL_law_ 361 = .ok (.invokevirtual 144, 3) := by decide +kernel
theorem dL_law__364 : decode cL_law_ 364 = .ok (.if_icmp .eq 2677, 3) := by decide +kernel
theorem dL_law__367 : decode cL_law_ 367 = .ok (.iconst 0, 1) := by decide +kernel
theorem dL_law__368 : decode cL_law_ 368 = .ok (.ireturn, 1) := by decide +kernel
theorem dL_law__369 : decode cL_law_ 369 = .ok (.aload_n 1, 1) := by decide +kernel
theorem dL_law__370 : decode cL_law_ 370 = .ok (.aload_n 0, 1) := by decide +kernel
theorem dL_law__371 : decode cL_law_ 371 = .ok (.iload 4, 2) := by decide +kernel
theorem dL_law__373 : decode cL_law_ 373 = .ok (.iconst 1, 1) := by decide +kernel
theorem dL_law__374 : decode cL_law_ 374 = .ok (.iadd, 1) := by decide +kernel
theorem dL_law__375 : decode cL_law_ 375 = .ok (.iaload, 1) := by decide +kernel
theorem dL_law__376 : decode cL_law_ 376 = .ok (.invokevirtual 145, 3) := by decide +kernel
theorem dL_law__379 : decode cL_law_ 379 = .ok (.aload_n 2, 1) := by decide +kernel
theorem dL_law__380 : decode cL_law_ 380 = .ok (.aload_n 0, 1) := by decide +kernel
theorem dL_law__381 : decode cL_law_ 381 = .ok (.iload 4, 2) := by decide +kernel
theorem dL_law__383 : decode cL_law_ 383 = .ok (.iconst 1, 1) := by decide +kernel
theorem dL_law__384 : decode cL_law_ 384 = .ok (.iadd, 1) := by decide +kernel
theorem dL_law__385 : decode cL_law_ 385 = .ok (.iaload, 1) := by decide +kernel
theorem dL_law__386 : decode cL_law_ 386 = .ok (.invokevirtual 149, 3) := by decide +kernel
theorem dL_law__389 : decode cL_law_ 389 = .ok (.if_icmp .eq 2652, 3) := by decide +kernel
theorem dL_law__392 : decode cL_law_ 392 = .ok (.iconst 0, 1) := by decide +kernel
theorem dL_law__393 : decode cL_law_ 393 = .ok (.ireturn, 1) := by decide +kernel
theorem dL_law__394 : decode cL_law_ 394 = .ok (.aload_n 1, 1) := by decide +kernel
theorem dL_law__395 : decode cL_law_ 395 = .ok (.aload_n 3, 1) := by decide +kernel
theorem dL_law__396 : decode cL_law_ 396 = .ok (.invokestatic 150, 3) := by decide +kernel
theorem dL_law__399 : decode cL_law_ 399 = .ok (.istore 5, 2) := by decide +kernel
theorem dL_law__401 : decode cL_law_ 401 = .ok (.aload_n 2, 1) := by decide +kernel
theorem dL_law__402 : decode cL_law_ 402 = .ok (.invokevirtual 155, 3) := by decide +kernel
theorem dL_law__405 : decode cL_law_ 405 = .ok (.istore 6, 2) := by decide +kernel
theorem dL_law__407 : decode cL_law_ 407 = .ok (.aload_n 2, 1) := by decide +kernel
theorem dL_law__408 : decode cL_law_ 408 = .ok (.invokevirtual 156, 3) := by decide +kernel
theorem dL_law__411 : decode cL_law_ 411 = .ok (.iload 5, 2) := by decide +kernel
theorem dL_law__413 : decode cL_law_ 413 = .ok (.if_icmp .eq 5, 3) := by decide +kernel
theorem dL_law__416 : decode cL_law_ 416 = .ok (.iconst 0, 1) := by decide +kernel
theorem dL_law__417 : decode cL_law_ 417 = .ok (.ireturn, 1) := by decide +kernel
theorem dL_law__418 : decode cL_law_ 418 = .ok (.iload 5, 2) := by decide +kernel
theorem dL_law__420 : decode cL_law_ 420 = .ok (.ifCond .ne 15, 3) := by decide +kernel
theorem dL_law__423 : decode cL_law_ 423 = .ok (.aload_n 3, 1) := by decide +kernel
theorem dL_law__424 : decode cL_law_ 424 = .ok (.iconst 0, 1) := by decide +kernel
theorem dL_law__425 : decode cL_law_ 425 = .ok (.laload, 1) := by decide +kernel
theorem dL_law__426 : decode cL_law_ 426 = .ok (.iload 6, 2) := by decide +kernel
theorem dL_law__428 : decode cL_law_ 428 = .ok (.i2l, 1) := by decide +kernel
theorem dL_law__429 : decode cL_law_ 429 = .ok (.lcmp, 1) := by decide +kernel
theorem dL_law__430 : decode cL_law_ 430 = .ok (.ifCond .eq 5, 3) := by decide +kernel
theorem dL_law__433 : decode cL_law_ 433 = .ok (.iconst 0, 1) := by decide +kernel
theorem dL_law__434 : decode cL_law_ 434 = .ok (.ireturn, 1) := by decide +kernel
theorem dL_law__435 : decode cL_law_ 435 = .ok (.goto 2606, 3) := by decide +kernel
theorem dL_law__438 : decode cL_law_ 438 = .ok (.aload_n 1, 1) := by decide +kernel
theorem dL_law__439 : decode cL_law_ 439 = .ok (.aload_n 3, 1) := by decide +kernel
theorem dL_law__440 : decode cL_law_ 440 = .ok (.invokestatic 159, 3) := by decide +kernel
theorem dL_law__443 : decode cL_law_ 443 = .ok (.istore 5, 2) := by decide +kernel
theorem dL_law__445 : decode cL_law_ 445 = .ok (.aload_n 2, 1) := by decide +kernel
theorem dL_law__446 : decode cL_law_ 446 = .ok (.invokevirtual 161, 3) := by decide +kernel
theorem dL_law__449 : decode cL_law_ 449 = .ok (.istore 6, 2) := by decide +kernel
theorem dL_law__451 : decode cL_law_ 451 = .ok (.aload_n 2, 1) := by decide +kernel
theorem dL_law__452 : decode cL_law_ 452 = .ok (.invokevirtual 156, 3) := by decide +kernel
theorem dL_law__455 : decode cL_law_ 455 = .ok (.iload 5, 2) := by decide +kernel
theorem dL_law__457 : decode cL_law_ 457 = .ok (.if_icmp .eq 5, 3) := by decide +kernel
theorem dL_law__460 : decode cL_law_ 460 = .ok (.iconst 0, 1) := by decide +kernel
theorem dL_law__461 : decode cL_law_ 461 = .ok (.ireturn, 1) := by decide +kernel
theorem dL_law__462 : decode cL_law_ 462 = .ok (.iload 5, 2) := by decide +kernel
theorem dL_law__464 : decode cL_law_ 464 = .ok (.ifCond .ne 15, 3) := by decide +kernel
theorem dL_law__467 : decode cL_law_ 467 = .ok (.aload_n 3, 1) := by decide +kernel
theorem dL_law__468 : decode cL_law_ 468 = .ok (.iconst 0, 1) := by decide +kernel
theorem dL_law__469 : decode cL_law_ 469 = .ok (.laload, 1) := by decide +kernel
theorem dL_law__470 : decode cL_law_ 470 = .ok (.iload 6, 2) := by decide +kernel
theorem dL_law__472 : decode cL_law_ 472 = .ok (.i2l, 1) := by decide +kernel
theorem dL_law__473 : decode cL_law_ 473 = .ok (.lcmp, 1) := by decide +kernel
theorem dL_law__474 : decode cL_law_ 474 = .ok (.ifCond .eq 5, 3) := by decide +kernel
theorem dL_law__477 : decode cL_law_ 477 = .ok (.iconst 0, 1) := by decide +kernel
theorem dL_law__478 : decode cL_law_ 478 = .ok (.ireturn, 1) := by decide +kernel
theorem dL_law__479 : decode cL_law_ 479 = .ok (.goto 2562, 3) := by decide +kernel
theorem dL_law__482 : decode cL_law_ 482 = .ok (.aload_n 1, 1) := by decide +kernel
theorem dL_law__483 : decode cL_law_ 483 = .ok (.invokevirtual 162, 3) := by decide +kernel
theorem dL_law__486 : decode cL_law_ 486 = .ok (.aload_n 2, 1) := by decide +kernel
theorem dL_law__487 : decode cL_law_ 487 = .ok (.invokevirtual 165, 3) := by decide +kernel
theorem dL_law__490 : decode cL_law_ 490 = .ok (.if_icmp .eq 2551, 3) := by decide +kernel
theorem dL_law__493 : decode cL_law_ 493 = .ok (.iconst 0, 1) := by decide +kernel
theorem dL_law__494 : decode cL_law_ 494 = .ok (.ireturn, 1) := by decide +kernel
theorem dL_law__495 : decode cL_law_ 495 = .ok (.aload_n 1, 1) := by decide +kernel
theorem dL_law__496 : decode cL_law_ 496 = .ok (.aload_n 0, 1) := by decide +kernel
theorem dL_law__497 : decode cL_law_ 497 = .ok (.iload 4, 2) := by decide +kernel
theorem dL_law__499 : decode cL_law_ 499 = .ok (.iconst 1, 1) := by decide +kernel
theorem dL_law__500 : decode cL_law_ 500 = .ok (.iadd, 1) := by decide +kernel
theorem dL_law__501 : decode cL_law_ 501 = .ok (.iaload, 1) := by decide +kernel
theorem dL_law__502 : decode cL_law_ 502 = .ok (.aload_n 0, 1) := by decide +kernel
theorem dL_law__503 : decode cL_law_ 503 = .ok (.iload 4, 2) := by decide +kernel
theorem dL_law__505 : decode cL_law_ 505 = .ok (.iconst 2, 1) := by decide +kernel
theorem dL_law__506 : decode cL_law_ 506 = .ok (.iadd, 1) := by decide +kernel
theorem dL_law__507 : decode cL_law_ 507 = .ok (.iaload, 1) := by decide +kernel
theorem dL_law__508 : decode cL_law_ 508 = .ok (.aload_n 3, 1) := by decide +kernel
theorem dL_law__509 : decode cL_law_ 509 = .ok (.invokestatic 166, 3) := by decide +kernel
theorem dL_law__512 : decode cL_law_ 512 = .ok (.istore 5, 2) := by decide +kernel
theorem dL_law__514 : decode cL_law_ 514 = .ok (.aload_n 2, 1) := by decide +kernel
theorem dL_law__515 : decode cL_law_ 515 = .ok (.aload_n 0, 1) := by decide +kernel
theorem dL_law__516 : decode cL_law_ 516 = .ok (.iload 4, 2) := by decide +kernel
theorem dL_law__518 : decode cL_law_ 518 = .ok (.iconst 1, 1) := by decide +kernel
theorem dL_law__519 : decode cL_law_ 519 = .ok (.iadd, 1) := by decide +kernel
theorem dL_law__520 : decode cL_law_ 520 = .ok (.iaload, 1) := by decide +kernel
theorem dL_law__521 : decode cL_law_ 521 = .ok (.aload_n 0, 1) := by decide +kernel
theorem dL_law__522 : decode cL_law_ 522 = .ok (.iload 4, 2) := by decide +kernel
theorem dL_law__524 : decode cL_law_ 524 = .ok (.iconst 2, 1) := by decide +kernel
theorem dL_law__525 : decode cL_law_ 525 = .ok (.iadd, 1) := by decide +kernel
theorem dL_law__526 : decode cL_law_ 526 = .ok (.iaload, 1) := by decide +kernel
theorem dL_law__527 : decode cL_law_ 527 = .ok (.invokevirtual 169, 3) := by decide +kernel
theorem dL_law__530 : decode cL_law_ 530 = .ok (.istore 6, 2) := by decide +kernel
theorem dL_law__532 : decode cL_law_ 532 = .ok (.aload_n 2, 1) := by decide +kernel
theorem dL_law__533 : decode cL_law_ 533 = .ok (.invokevirtual 156, 3) := by decide +kernel
theorem dL_law__536 : decode cL_law_ 536 = .ok (.iload 5, 2) := by decide +kernel
theorem dL_law__538 : decode cL_law_ 538 = .ok (.if_icmp .eq 5, 3) := by decide +kernel
theorem dL_law__541 : decode cL_law_ 541 = .ok (.iconst 0, 1) := by decide +kernel
theorem dL_law__542 : decode cL_law_ 542 = .ok (.ireturn, 1) := by decide +kernel
theorem dL_law__543 : decode cL_law_ 543 = .ok (.iload 5, 2) := by decide +kernel
theorem dL_law__545 : decode cL_law_ 545 = .ok (.ifCond .ne 15, 3) := by decide +kernel
theorem dL_law__548 : decode cL_law_ 548 = .ok (.aload_n 3, 1) := by decide +kernel
theorem dL_law__549 : decode cL_law_ 549 = .ok (.iconst 0, 1) := by decide +kernel
theorem dL_law__550 : decode cL_law_ 550 = .ok (.laload, 1) := by decide +kernel
theorem dL_law__551 : decode cL_law_ 551 = .ok (.iload 6, 2) := by decide +kernel
theorem dL_law__553 : decode cL_law_ 553 = .ok (.i2l, 1) := by decide +kernel
theorem dL_law__554 : decode cL_law_ 554 = .ok (.lcmp, 1) := by decide +kernel
theorem dL_law__555 : decode cL_law_ 555 = .ok (.ifCond .eq 5, 3) := by decide +kernel
theorem dL_law__558 : decode cL_law_ 558 = .ok (.iconst 0, 1) := by decide +kernel
theorem dL_law__559 : decode cL_law_ 559 = .ok (.ireturn, 1) := by decide +kernel
theorem dL_law__560 : decode cL_law_ 560 = .ok (.goto 2481, 3) := by decide +kernel
theorem dL_law__563 : decode cL_law_ 563 = .ok (.aload_n 1, 1) := by decide +kernel
theorem dL_law__564 : decode cL_law_ 564 = .ok (.aload_n 0, 1) := by decide +kernel
theorem dL_law__565 : decode cL_law_ 565 = .ok (.iload 4, 2) := by decide +kernel
theorem dL_law__567 : decode cL_law_ 567 = .ok (.iconst 1, 1) := by decide +kernel
theorem dL_law__568 : decode cL_law_ 568 = .ok (.iadd, 1) := by decide +kernel
theorem dL_law__569 : decode cL_law_ 569 = .ok (.iaload, 1) := by decide +kernel
theorem dL_law__570 : decode cL_law_ 570 = .ok (.aload_n 3, 1) := by decide +kernel
theorem dL_law__571 : decode cL_law_ 571 = .ok (.invokestatic 170, 3) := by decide +kernel
theorem dL_law__574 : decode cL_law_ 574 = .ok (.istore 5, 2) := by decide +kernel
theorem dL_law__576 : decode cL_law_ 576 = .ok (.aload_n 2, 1) := by decide +kernel
theorem dL_law__577 : decode cL_law_ 577 = .ok (.aload_n 0, 1) := by decide +kernel
theorem dL_law__578 : decode cL_law_ 578 = .ok (.iload 4, 2) := by decide +kernel
theorem dL_law__580 : decode cL_law_ 580 = .ok (.iconst 1, 1) := by decide +kernel
theorem dL_law__581 : decode cL_law_ 581 = .ok (.iadd, 1) := by decide +kernel
theorem dL_law__582 : decode cL_law_ 582 = .ok (.iaload, 1) := by decide +kernel
theorem dL_law__583 : decode cL_law_ 583 = .ok (.invokevirtual 173, 3) := by decide +kernel
theorem dL_law__586 : decode cL_law_ 586 = .ok (.istore 6, 2) := by decide +kernel
theorem dL_law__588 : decode cL_law_ 588 = .ok (.aload_n 2, 1) := by decide +kernel
theorem dL_law__589 : decode cL_law_ 589 = .ok (.invokevirtual 156, 3) := by decide +kernel
theorem dL_law__592 : decode cL_law_ 592 = .ok (.iload 5, 2) := by decide +kernel
theorem dL_law__594 : decode cL_law_ 594 = .ok (.if_icmp .eq 5, 3) := by decide +kernel
theorem dL_law__597 : decode cL_law_ 597 = .ok (.iconst 0, 1) := by decide +kernel
theorem dL_law__598 : decode cL_law_ 598 = .ok (.ireturn, 1) := by decide +kernel
theorem dL_law__599 : decode cL_law_ 599 = .ok (.iload 5, 2) := by decide +kernel
theorem dL_law__601 : decode cL_law_ 601 = .ok (.ifCond .ne 15, 3) := by decide +kernel
theorem dL_law__604 : decode cL_law_ 604 = .ok (.aload_n 3, 1) := by decide +kernel
theorem dL_law__605 : decode cL_law_ 605 = .ok (.iconst 0, 1) := by decide +kernel
theorem dL_law__606 : decode cL_law_ 606 = .ok (.laload, 1) := by decide +kernel
theorem dL_law__607 : decode cL_law_ 607 = .ok (.iload 6, 2) := by decide +kernel
theorem dL_law__609 : decode cL_law_ 609 = .ok (.i2l, 1) := by decide +kernel
theorem dL_law__610 : decode cL_law_ 610 = .ok (.lcmp, 1) := by decide +kernel
theorem dL_law__611 : decode cL_law_ 611 = .ok (.ifCond .eq 5, 3) := by decide +kernel
theorem dL_law__614 : decode cL_law_ 614 = .ok (.iconst 0, 1) := by decide +kernel
theorem dL_law__615 : decode cL_law_ 615 = .ok (.ireturn, 1) := by decide +kernel
theorem dL_law__616 : decode cL_law_ 616 = .ok (.goto 2425, 3) := by decide +kernel
theorem dL_law__619 : decode cL_law_ 619 = .ok (.aload_n 1, 1) := by decide +kernel
theorem dL_law__620 : decode cL_law_ 620 = .ok (.aload_n 0, 1) := by decide +kernel
theorem dL_law__621 : decode cL_law_ 621 = .ok (.iload 4, 2) := by decide +kernel
theorem dL_law__623 : decode cL_law_ 623 = .ok (.iconst 1, 1) := by decide +kernel
theorem dL_law__624 : decode cL_law_ 624 = .ok (.iadd, 1) := by decide +kernel
theorem dL_law__625 : decode cL_law_ 625 = .ok (.iaload, 1) := by decide +kernel
theorem dL_law__626 : decode cL_law_ 626 = .ok (.aload_n 3, 1) := by decide +kernel
theorem dL_law__627 : decode cL_law_ 627 = .ok (.invokestatic 174, 3) := by decide +kernel
theorem dL_law__630 : decode cL_law_ 630 = .ok (.istore 5, 2) := by decide +kernel
theorem dL_law__632 : decode cL_law_ 632 = .ok (.aload_n 2, 1) := by decide +kernel
theorem dL_law__633 : decode cL_law_ 633 = .ok (.aload_n 0, 1) := by decide +kernel
theorem dL_law__634 : decode cL_law_ 634 = .ok (.iload 4, 2) := by decide +kernel
theorem dL_law__636 : decode cL_law_ 636 = .ok (.iconst 1, 1) := by decide +kernel
theorem dL_law__637 : decode cL_law_ 637 = .ok (.iadd, 1) := by decide +kernel
theorem dL_law__638 : decode cL_law_ 638 = .ok (.iaload, 1) := by decide +kernel
theorem dL_law__639 : decode cL_law_ 639 = .ok (.invokevirtual 176, 3) := by decide +kernel
theorem dL_law__642 : decode cL_law_ 642 = .ok (.istore 6, 2) := by decide +kernel
theorem dL_law__644 : decode cL_law_ 644 = .ok (.aload_n 2, 1) := by decide +kernel
theorem dL_law__645 : decode cL_law_ 645 = .ok (.invokevirtual 156, 3) := by decide +kernel
theorem dL_law__648 : decode cL_law_ 648 = .ok (.iload 5, 2) := by decide +kernel
theorem dL_law__650 : decode cL_law_ 650 = .ok (.if_icmp .eq 5, 3) := by decide +kernel
theorem dL_law__653 : decode cL_law_ 653 = .ok (.iconst 0, 1) := by decide +kernel
theorem dL_law__654 : decode cL_law_ 654 = .ok (.ireturn, 1) := by decide +kernel
theorem dL_law__655 : decode cL_law_ 655 = .ok (.iload 5, 2) := by decide +kernel
theorem dL_law__657 : decode cL_law_ 657 = .ok (.ifCond .ne 15, 3) := by decide +kernel
theorem dL_law__660 : decode cL_law_ 660 = .ok (.aload_n 3, 1) := by decide +kernel
theorem dL_law__661 : decode cL_law_ 661 = .ok (.iconst 0, 1) := by decide +kernel
theorem dL_law__662 : decode cL_law_ 662 = .ok (.laload, 1) := by decide +kernel
theorem dL_law__663 : decode cL_law_ 663 = .ok (.iload 6, 2) := by decide +kernel
theorem dL_law__665 : decode cL_law_ 665 = .ok (.i2l, 1) := by decide +kernel
theorem dL_law__666 : decode cL_law_ 666 = .ok (.lcmp, 1) := by decide +kernel
theorem dL_law__667 : decode cL_law_ 667 = .ok (.ifCond .eq 5, 3) := by decide +kernel
theorem dL_law__670 : decode cL_law_ 670 = .ok (.iconst 0, 1) := by decide +kernel
theorem dL_law__671 : decode cL_law_ 671 = .ok (.ireturn, 1) := by decide +kernel
theorem dL_law__672 : decode cL_law_ 672 = .ok (.goto 2369, 3) := by decide +kernel
theorem dL_law__675 : decode cL_law_ 675 = .ok (.aload_n 1, 1) := by decide +kernel
theorem dL_law__676 : decode cL_law_ 676 = .ok (.aload_n 0, 1) := by decide +kernel
theorem dL_law__677 : decode cL_law_ 677 = .ok (.iload 4, 2) := by decide +kernel
theorem dL_law__679 : decode cL_law_ 679 = .ok (.iconst 1, 1) := by decide +kernel
theorem dL_law__680 : decode cL_law_ 680 = .ok (.iadd, 1) := by decide +kernel
theorem dL_law__681 : decode cL_law_ 681 = .ok (.iaload, 1) := by decide +kernel
theorem dL_law__682 : decode cL_law_ 682 = .ok (.aload_n 3, 1) := by decide +kernel
theorem dL_law__683 : decode cL_law_ 683 = .ok (.invokestatic 177, 3) := by decide +kernel
theorem dL_law__686 : decode cL_law_ 686 = .ok (.istore 5, 2) := by decide +kernel
theorem dL_law__688 : decode cL_law_ 688 = .ok (.aload_n 2, 1) := by decide +kernel
theorem dL_law__689 : decode cL_law_ 689 = .ok (.aload_n 0, 1) := by decide +kernel
theorem dL_law__690 : decode cL_law_ 690 = .ok (.iload 4, 2) := by decide +kernel
theorem dL_law__692 : decode cL_law_ 692 = .ok (.iconst 1, 1) := by decide +kernel
theorem dL_law__693 : decode cL_law_ 693 = .ok (.iadd, 1) := by decide +kernel
theorem dL_law__694 : decode cL_law_ 694 = .ok (.iaload, 1) := by decide +kernel
theorem dL_law__695 : decode cL_law_ 695 = .ok (.invokevirtual 179, 3) := by decide +kernel
theorem dL_law__698 : decode cL_law_ 698 = .ok (.istore 6, 2) := by decide +kernel
theorem dL_law__700 : decode cL_law_ 700 = .ok (.aload_n 2, 1) := by decide +kernel
theorem dL_law__701 : decode cL_law_ 701 = .ok (.invokevirtual 156, 3) := by decide +kernel
theorem dL_law__704 : decode cL_law_ 704 = .ok (.iload 5, 2) := by decide +kernel
theorem dL_law__706 : decode cL_law_ 706 = .ok (.if_icmp .eq 5, 3) := by decide +kernel
theorem dL_law__709 : decode cL_law_ 709 = .ok (.iconst 0, 1) := by decide +kernel
theorem dL_law__710 : decode cL_law_ 710 = .ok (.ireturn, 1) := by decide +kernel
theorem dL_law__711 : decode cL_law_ 711 = .ok (.iload 5, 2) := by decide +kernel
theorem dL_law__713 : decode cL_law_ 713 = .ok (.ifCond .ne 15, 3) := by decide +kernel
theorem dL_law__716 : decode cL_law_ 716 = .ok (.aload_n 3, 1) := by decide +kernel
theorem dL_law__717 : decode cL_law_ 717 = .ok (.iconst 0, 1) := by decide +kernel
theorem dL_law__718 : decode cL_law_ 718 = .ok (.laload, 1) := by decide +kernel
theorem dL_law__719 : decode cL_law_ 719 = .ok (.iload 6, 2) := by decide +kernel
theorem dL_law__721 : decode cL_law_ 721 = .ok (.i2l, 1) := by decide +kernel
theorem dL_law__722 : decode cL_law_ 722 = .ok (.lcmp, 1) := by decide +kernel
theorem dL_law__723 : decode cL_law_ 723 = .ok (.ifCond .eq 5, 3) := by decide +kernel
theorem dL_law__726 : decode cL_law_ 726 = .ok (.iconst 0, 1) := by decide +kernel
theorem dL_law__727 : decode cL_law_ 727 = .ok (.ireturn, 1) := by decide +kernel
theorem dL_law__728 : decode cL_law_ 728 = .ok (.goto 2313, 3) := by decide +kernel
theorem dL_law__731 : decode cL_law_ 731 = .ok (.aload_n 1, 1) := by decide +kernel
theorem dL_law__732 : decode cL_law_ 732 = .ok (.aload_n 0, 1) := by decide +kernel
theorem dL_law__733 : decode cL_law_ 733 = .ok (.iload 4, 2) := by decide +kernel
theorem dL_law__735 : decode cL_law_ 735 = .ok (.iconst 1, 1) := by decide +kernel
theorem dL_law__736 : decode cL_law_ 736 = .ok (.iadd, 1) := by decide +kernel
theorem dL_law__737 : decode cL_law_ 737 = .ok (.iaload, 1) := by decide +kernel
theorem dL_law__738 : decode cL_law_ 738 = .ok (.aload_n 3, 1) := by decide +kernel
theorem dL_law__739 : decode cL_law_ 739 = .ok (.invokestatic 180, 3) := by decide +kernel
theorem dL_law__742 : decode cL_law_ 742 = .ok (.istore 5, 2) := by decide +kernel
theorem dL_law__744 : decode cL_law_ 744 = .ok (.aload_n 2, 1) := by decide +kernel
theorem dL_law__745 : decode cL_law_ 745 = .ok (.aload_n 0, 1) := by decide +kernel
theorem dL_law__746 : decode cL_law_ 746 = .ok (.iload 4, 2) := by decide +kernel
theorem dL_law__748 : decode cL_law_ 748 = .ok (.iconst 1, 1) := by decide +kernel
theorem dL_law__749 : decode cL_law_ 749 = .ok (.iadd, 1) := by decide +kernel
theorem dL_law__750 : decode cL_law_ 750 = .ok (.iaload, 1) := by decide +kernel
theorem dL_law__751 : decode cL_law_ 751 = .ok (.invokevirtual 182, 3) := by decide +kernel
theorem dL_law__754 : decode cL_law_ 754 = .ok (.istore 6, 2) := by decide +kernel
theorem dL_law__756 : decode cL_law_ 756 = .ok (.aload_n 2, 1) := by decide +kernel
theorem dL_law__757 : decode cL_law_ 757 = .ok (.invokevirtual 156, 3) := by decide +kernel
theorem dL_law__760 : decode cL_law_ 760 = .ok (.iload 5, 2) := by decide +kernel
theorem dL_law__762 : decode cL_law_ 762 = .ok (.if_icmp .eq 5, 3) := by decide +kernel
theorem dL_law__765 : decode cL_law_ 765 = .ok (.iconst 0, 1) := by decide +kernel
theorem dL_law__766 : decode cL_law_ 766 = .ok (.ireturn, 1) := by decide +kernel
theorem dL_law__767 : decode cL_law_ 767 = .ok (.iload 5, 2) := by decide +kernel
theorem dL_law__769 : decode cL_law_ 769 = .ok (.ifCond .ne 15, 3) := by decide +kernel
theorem dL_law__772 : decode cL_law_ 772 = .ok (.aload_n 3, 1) := by decide +kernel
theorem dL_law__773 : decode cL_law_ 773 = .ok (.iconst 0, 1) := by decide +kernel
theorem dL_law__774 : decode cL_law_ 774 = .ok (.laload, 1) := by decide +kernel
theorem dL_law__775 : decode cL_law_ 775 = .ok (.iload 6, 2) := by decide +kernel
theorem dL_law__777 : decode cL_law_ 777 = .ok (.i2l, 1) := by decide +kernel
theorem dL_law__778 : decode cL_law_ 778 = .ok (.lcmp, 1) := by decide +kernel
theorem dL_law__779 : decode cL_law_ 779 = .ok (.ifCond .eq 5, 3) := by decide +kernel
theorem dL_law__782 : decode cL_law_ 782 = .ok (.iconst 0, 1) := by decide +kernel
theorem dL_law__783 : decode cL_law_ 783 = .ok (.ireturn, 1) := by decide +kernel
theorem dL_law__784 : decode cL_law_ 784 = .ok (.goto 2257, 3) := by decide +kernel
theorem dL_law__787 : decode cL_law_ 787 = .ok (.aload_n 1, 1) := by decide +kernel
theorem dL_law__788 : decode cL_law_ 788 = .ok (.aload_n 0, 1) := by decide +kernel
theorem dL_law__789 : decode cL_law_ 789 = .ok (.iload 4, 2) := by decide +kernel
theorem dL_law__791 : decode cL_law_ 791 = .ok (.iconst 1, 1) := by decide +kernel
theorem dL_law__792 : decode cL_law_ 792 = .ok (.iadd, 1) := by decide +kernel
theorem dL_law__793 : decode cL_law_ 793 = .ok (.iaload, 1) := by decide +kernel
theorem dL_law__794 : decode cL_law_ 794 = .ok (.aload_n 3, 1) := by decide +kernel
theorem dL_law__795 : decode cL_law_ 795 = .ok (.invokestatic 183, 3) := by decide +kernel
theorem dL_law__798 : decode cL_law_ 798 = .ok (.istore 5, 2) := by decide +kernel
theorem dL_law__800 : decode cL_law_ 800 = .ok (.aload_n 2, 1) := by decide +kernel
theorem dL_law__801 : decode cL_law_ 801 = .ok (.aload_n 0, 1) := by decide +kernel
theorem dL_law__802 : decode cL_law_ 802 = .ok (.iload 4, 2) := by decide +kernel
theorem dL_law__804 : decode cL_law_ 804 = .ok (.iconst 1, 1) := by decide +kernel
theorem dL_law__805 : decode cL_law_ 805 = .ok (.iadd, 1) := by decide +kernel
theorem dL_law__806 : decode cL_law_ 806 = .ok (.iaload, 1) := by decide +kernel
theorem dL_law__807 : decode cL_law_ 807 = .ok (.invokevirtual 185, 3) := by decide +kernel
theorem dL_law__810 : decode cL_law_ 810 = .ok (.istore 6, 2) := by decide +kernel
theorem dL_law__812 : decode cL_law_ 812 = .ok (.aload_n 2, 1) := by decide +kernel
theorem dL_law__813 : decode cL_law_ 813 = .ok (.invokevirtual 156, 3) := by decide +kernel
theorem dL_law__816 : decode cL_law_ 816 = .ok (.iload 5, 2) := by decide +kernel
theorem dL_law__818 : decode cL_law_ 818 = .ok (.if_icmp .eq 5, 3) := by decide +kernel
theorem dL_law__821 : decode cL_law_ 821 = .ok (.iconst 0, 1) := by decide +kernel
theorem dL_law__822 : decode cL_law_ 822 = .ok (.ireturn, 1) := by decide +kernel
theorem dL_law__823 : decode cL_law_ 823 = .ok (.iload 5, 2) := by decide +kernel
theorem dL_law__825 : decode cL_law_ 825 = .ok (.ifCond .ne 15, 3) := by decide +kernel
theorem dL_law__828 : decode cL_law_ 828 = .ok (.aload_n 3, 1) := by decide +kernel
theorem dL_law__829 : decode cL_law_ 829 = .ok (.iconst 0, 1) := by decide +kernel
theorem dL_law__830 : decode cL_law_ 830 = .ok (.laload, 1) := by decide +kernel
theorem dL_law__831 : decode cL_law_ 831 = .ok (.iload 6, 2) := by decide +kernel
theorem dL_law__833 : decode cL_law_ 833 = .ok (.i2l, 1) := by decide +kernel
theorem dL_law__834 : decode cL_law_ 834 = .ok (.lcmp, 1) := by decide +kernel
theorem dL_law__835 : decode cL_law_ 835 = .ok (.ifCond .eq 5, 3) := by decide +kernel
theorem dL_law__838 : decode cL_law_ 838 = .ok (.iconst 0, 1) := by decide +kernel
theorem dL_law__839 : decode cL_law_ 839 = .ok (.ireturn, 1) := by decide +kernel
theorem dL_law__840 : decode cL_law_ 840 = .ok (.goto 2201, 3) := by decide +kernel
theorem dL_law__843 : decode cL_law_ 843 = .ok (.aload_n 1, 1) := by decide +kernel
theorem dL_law__844 : decode cL_law_ 844 = .ok (.aload_n 0, 1) := by decide +kernel
theorem dL_law__845 : decode cL_law_ 845 = .ok (.iload 4, 2) := by decide +kernel
theorem dL_law__847 : decode cL_law_ 847 = .ok (.iconst 1, 1) := by decide +kernel
theorem dL_law__848 : decode cL_law_ 848 = .ok (.iadd, 1) := by decide +kernel
theorem dL_law__849 : decode cL_law_ 849 = .ok (.iaload, 1) := by decide +kernel
theorem dL_law__850 : decode cL_law_ 850 = .ok (.aload_n 3, 1) := by decide +kernel
theorem dL_law__851 : decode cL_law_ 851 = .ok (.invokestatic 186, 3) := by decide +kernel
theorem dL_law__854 : decode cL_law_ 854 = .ok (.istore 5, 2) := by decide +kernel
theorem dL_law__856 : decode cL_law_ 856 = .ok (.aload_n 2, 1) := by decide +kernel
theorem dL_law__857 : decode cL_law_ 857 = .ok (.aload_n 0, 1) := by decide +kernel
theorem dL_law__858 : decode cL_law_ 858 = .ok (.iload 4, 2) := by decide +kernel
theorem dL_law__860 : decode cL_law_ 860 = .ok (.iconst 1, 1) := by decide +kernel
theorem dL_law__861 : decode cL_law_ 861 = .ok (.iadd, 1) := by decide +kernel
theorem dL_law__862 : decode cL_law_ 862 = .ok (.iaload, 1) := by decide +kernel
theorem dL_law__863 : decode cL_law_ 863 = .ok (.invokevirtual 188, 3) := by decide +kernel
theorem dL_law__866 : decode cL_law_ 866 = .ok (.istore 6, 2) := by decide +kernel
theorem dL_law__868 : decode cL_law_ 868 = .ok (.aload_n 2, 1) := by decide +kernel
theorem dL_law__869 : decode cL_law_ 869 = .ok (.invokevirtual 156, 3) := by decide +kernel
theorem dL_law__872 : decode cL_law_ 872 = .ok (.iload 5, 2) := by decide +kernel
theorem dL_law__874 : decode cL_law_ 874 = .ok (.if_icmp .eq 5, 3) := by decide +kernel
theorem dL_law__877 : decode cL_law_ 877 = .ok (.iconst 0, 1) := by decide +kernel
theorem dL_law__878 : decode cL_law_ 878 = .ok (.ireturn, 1) := by decide +kernel
theorem dL_law__879 : decode cL_law_ 879 = .ok (.iload 5, 2) := by decide +kernel
theorem dL_law__881 : decode cL_law_ 881 = .ok (.ifCond .ne 15, 3) := by decide +kernel
theorem dL_law__884 : decode cL_law_ 884 = .ok (.aload_n 3, 1) := by decide +kernel
theorem dL_law__885 : decode cL_law_ 885 = .ok (.iconst 0, 1) := by decide +kernel
theorem dL_law__886 : decode cL_law_ 886 = .ok (.laload, 1) := by decide +kernel
theorem dL_law__887 : decode cL_law_ 887 = .ok (.iload 6, 2) := by decide +kernel
theorem dL_law__889 : decode cL_law_ 889 = .ok (.i2l, 1) := by decide +kernel
theorem dL_law__890 : decode cL_law_ 890 = .ok (.lcmp, 1) := by decide +kernel
theorem dL_law__891 : decode cL_law_ 891 = .ok (.ifCond .eq 5, 3) := by decide +kernel
theorem dL_law__894 : decode cL_law_ 894 = .ok (.iconst 0, 1) := by decide +kernel
theorem dL_law__895 : decode cL_law_ 895 = .ok (.ireturn, 1) := by decide +kernel
theorem dL_law__896 : decode cL_law_ 896 = .ok (.goto 2145, 3) := by decide +kernel
theorem dL_law__899 : decode cL_law_ 899 = .ok (.aload_n 1, 1) := by decide +kernel
theorem dL_law__900 : decode cL_law_ 900 = .ok (.aload_n 0, 1) := by decide +kernel
theorem dL_law__901 : decode cL_law_ 901 = .ok (.iload 4, 2) := by decide +kernel
theorem dL_law__903 : decode cL_law_ 903 = .ok (.iconst 1, 1) := by decide +kernel
theorem dL_law__904 : decode cL_law_ 904 = .ok (.iadd, 1) := by decide +kernel
theorem dL_law__905 : decode cL_law_ 905 = .ok (.iaload, 1) := by decide +kernel
theorem dL_law__906 : decode cL_law_ 906 = .ok (.aload_n 0, 1) := by decide +kernel
theorem dL_law__907 : decode cL_law_ 907 = .ok (.iload 4, 2) := by decide +kernel
theorem dL_law__909 : decode cL_law_ 909 = .ok (.iconst 2, 1) := by decide +kernel
theorem dL_law__910 : decode cL_law_ 910 = .ok (.iadd, 1) := by decide +kernel
theorem dL_law__911 : decode cL_law_ 911 = .ok (.iaload, 1) := by decide +kernel
theorem dL_law__912 : decode cL_law_ 912 = .ok (.aload_n 3, 1) := by decide +kernel
theorem dL_law__913 : decode cL_law_ 913 = .ok (.invokestatic 189, 3) := by decide +kernel
theorem dL_law__916 : decode cL_law_ 916 = .ok (.istore 5, 2) := by decide +kernel
theorem dL_law__918 : decode cL_law_ 918 = .ok (.aload_n 2, 1) := by decide +kernel
theorem dL_law__919 : decode cL_law_ 919 = .ok (.aload_n 0, 1) := by decide +kernel
theorem dL_law__920 : decode cL_law_ 920 = .ok (.iload 4, 2) := by decide +kernel
theorem dL_law__922 : decode cL_law_ 922 = .ok (.iconst 1, 1) := by decide +kernel
theorem dL_law__923 : decode cL_law_ 923 = .ok (.iadd, 1) := by decide +kernel
theorem dL_law__924 : decode cL_law_ 924 = .ok (.iaload, 1) := by decide +kernel
theorem dL_law__925 : decode cL_law_ 925 = .ok (.aload_n 0, 1) := by decide +kernel
theorem dL_law__926 : decode cL_law_ 926 = .ok (.iload 4, 2) := by decide +kernel
theorem dL_law__928 : decode cL_law_ 928 = .ok (.iconst 2, 1) := by decide +kernel
theorem dL_law__929 : decode cL_law_ 929 = .ok (.iadd, 1) := by decide +kernel
theorem dL_law__930 : decode cL_law_ 930 = .ok (.iaload, 1) := by decide +kernel
theorem dL_law__931 : decode cL_law_ 931 = .ok (.invokevirtual 191, 3) := by decide +kernel
theorem dL_law__934 : decode cL_law_ 934 = .ok (.istore 6, 2) := by decide +kernel
theorem dL_law__936 : decode cL_law_ 936 = .ok (.aload_n 2, 1) := by decide +kernel
theorem dL_law__937 : decode cL_law_ 937 = .ok (.invokevirtual 156, 3) := by decide +kernel
theorem dL_law__940 : decode cL_law_ 940 = .ok (.iload 5, 2) := by decide +kernel
theorem dL_law__942 : decode cL_law_ 942 = .ok (.if_icmp .eq 5, 3) := by decide +kernel
theorem dL_law__945 : decode cL_law_ 945 = .ok (.iconst 0, 1) := by decide +kernel
theorem dL_law__946 : decode cL_law_ 946 = .ok (.ireturn, 1) := by decide +kernel
theorem dL_law__947 : decode cL_law_ 947 = .ok (.iload 5, 2) := by decide +kernel
theorem dL_law__949 : decode cL_law_ 949 = .ok (.ifCond .ne 15, 3) := by decide +kernel
theorem dL_law__952 : decode cL_law_ 952 = .ok (.aload_n 3, 1) := by decide +kernel
theorem dL_law__953 : decode cL_law_ 953 = .ok (.iconst 0, 1) := by decide +kernel
theorem dL_law__954 : decode cL_law_ 954 = .ok (.laload, 1) := by decide +kernel
theorem dL_law__955 : decode cL_law_ 955 = .ok (.iload 6, 2) := by decide +kernel
theorem dL_law__957 : decode cL_law_ 957 = .ok (.i2l, 1) := by decide +kernel
theorem dL_law__958 : decode cL_law_ 958 = .ok (.lcmp, 1) := by decide +kernel
theorem dL_law__959 : decode cL_law_ 959 = .ok (.ifCond .eq 5, 3) := by decide +kernel
theorem dL_law__962 : decode cL_law_ 962 = .ok (.iconst 0, 1) := by decide +kernel
theorem dL_law__963 : decode cL_law_ 963 = .ok (.ireturn, 1) := by decide +kernel
theorem dL_law__964 : decode cL_law_ 964 = .ok (.goto 2077, 3) := by decide +kernel
theorem dL_law__967 : decode cL_law_ 967 = .ok (.aload_n 1, 1) := by decide +kernel
theorem dL_law__968 : decode cL_law_ 968 = .ok (.aload_n 0, 1) := by decide +kernel
theorem dL_law__969 : decode cL_law_ 969 = .ok (.iload 4, 2) := by decide +kernel
theorem dL_law__971 : decode cL_law_ 971 = .ok (.iconst 1, 1) := by decide +kernel
theorem dL_law__972 : decode cL_law_ 972 = .ok (.iadd, 1) := by decide +kernel
theorem dL_law__973 : decode cL_law_ 973 = .ok (.iaload, 1) := by decide +kernel
theorem dL_law__974 : decode cL_law_ 974 = .ok (.aload_n 0, 1) := by decide +kernel
theorem dL_law__975 : decode cL_law_ 975 = .ok (.iload 4, 2) := by decide +kernel
theorem dL_law__977 : decode cL_law_ 977 = .ok (.iconst 2, 1) := by decide +kernel
theorem dL_law__978 : decode cL_law_ 978 = .ok (.iadd, 1) := by decide +kernel
theorem dL_law__979 : decode cL_law_ 979 = .ok (.iaload, 1) := by decide +kernel
theorem dL_law__980 : decode cL_law_ 980 = .ok (.aload_n 3, 1) := by decide +kernel
theorem dL_law__981 : decode cL_law_ 981 = .ok (.invokestatic 192, 3) := by decide +kernel
theorem dL_law__984 : decode cL_law_ 984 = .ok (.istore 5, 2) := by decide +kernel
theorem dL_law__986 : decode cL_law_ 986 = .ok (.aload_n 2, 1) := by decide +kernel
theorem dL_law__987 : decode cL_law_ 987 = .ok (.aload_n 0, 1) := by decide +kernel
theorem dL_law__988 : decode cL_law_ 988 = .ok (.iload 4, 2) := by decide +kernel
theorem dL_law__990 : decode cL_law_ 990 = .ok (.iconst 1, 1) := by decide +kernel
theorem dL_law__991 : decode cL_law_ 991 = .ok (.iadd, 1) := by decide +kernel
theorem dL_law__992 : decode cL_law_ 992 = .ok (.iaload, 1) := by decide +kernel
theorem dL_law__993 : decode cL_law_ 993 = .ok (.aload_n 0, 1) := by decide +kernel
theorem dL_law__994 : decode cL_law_ 994 = .ok (.iload 4, 2) := by decide +kernel
theorem dL_law__996 : decode cL_law_ 996 = .ok (.iconst 2, 1) := by decide +kernel
theorem dL_law__997 : decode cL_law_ 997 = .ok (.iadd, 1) := by decide +kernel
theorem dL_law__998 : decode cL_law_ 998 = .ok (.iaload, 1) := by decide +kernel
theorem dL_law__999 : decode cL_law_ 999 = .ok (.invokevirtual 194, 3) := by decide +kernel
theorem dL_law__1002 : decode cL_law_ 1002 = .ok (.istore 6, 2) := by decide +kernel
theorem dL_law__1004 : decode cL_law_ 1004 = .ok (.aload_n 2, 1) := by decide +kernel
theorem dL_law__1005 : decode cL_law_ 1005 = .ok (.invokevirtual 156, 3) := by decide +kernel
theorem dL_law__1008 : decode cL_law_ 1008 = .ok (.iload 5, 2) := by decide +kernel
theorem dL_law__1010 : decode cL_law_ 1010 = .ok (.if_icmp .eq 5, 3) := by decide +kernel
theorem dL_law__1013 : decode cL_law_ 1013 = .ok (.iconst 0, 1) := by decide +kernel
theorem dL_law__1014 : decode cL_law_ 1014 = .ok (.ireturn, 1) := by decide +kernel
theorem dL_law__1015 : decode cL_law_ 1015 = .ok (.iload 5, 2) := by decide +kernel
theorem dL_law__1017 : decode cL_law_ 1017 = .ok (.ifCond .ne 15, 3) := by decide +kernel
theorem dL_law__1020 : decode cL_law_ 1020 = .ok (.aload_n 3, 1) := by decide +kernel
theorem dL_law__1021 : decode cL_law_ 1021 = .ok (.iconst 0, 1) := by decide +kernel
theorem dL_law__1022 : decode cL_law_ 1022 = .ok (.laload, 1) := by decide +kernel
theorem dL_law__1023 : decode cL_law_ 1023 = .ok (.iload 6, 2) := by decide +kernel
theorem dL_law__1025 : decode cL_law_ 1025 = .ok (.i2l, 1) := by decide +kernel
theorem dL_law__1026 : decode cL_law_ 1026 = .ok (.lcmp, 1) := by decide +kernel
theorem dL_law__1027 : decode cL_law_ 1027 = .ok (.ifCond .eq 5, 3) := by decide +kernel
theorem dL_law__1030 : decode cL_law_ 1030 = .ok (.iconst 0, 1) := by decide +kernel
theorem dL_law__1031 : decode cL_law_ 1031 = .ok (.ireturn, 1) := by decide +kernel
theorem dL_law__1032 : decode cL_law_ 1032 = .ok (.goto 2009, 3) := by decide +kernel
theorem dL_law__1035 : decode cL_law_ 1035 = .ok (.aload_n 1, 1) := by decide +kernel
theorem dL_law__1036 : decode cL_law_ 1036 = .ok (.aload_n 0, 1) := by decide +kernel
theorem dL_law__1037 : decode cL_law_ 1037 = .ok (.iload 4, 2) := by decide +kernel
theorem dL_law__1039 : decode cL_law_ 1039 = .ok (.iconst 1, 1) := by decide +kernel
theorem dL_law__1040 : decode cL_law_ 1040 = .ok (.iadd, 1) := by decide +kernel
theorem dL_law__1041 : decode cL_law_ 1041 = .ok (.iaload, 1) := by decide +kernel
theorem dL_law__1042 : decode cL_law_ 1042 = .ok (.aload_n 0, 1) := by decide +kernel
theorem dL_law__1043 : decode cL_law_ 1043 = .ok (.iload 4, 2) := by decide +kernel
theorem dL_law__1045 : decode cL_law_ 1045 = .ok (.iconst 2, 1) := by decide +kernel
theorem dL_law__1046 : decode cL_law_ 1046 = .ok (.iadd, 1) := by decide +kernel
theorem dL_law__1047 : decode cL_law_ 1047 = .ok (.iaload, 1) := by decide +kernel
theorem dL_law__1048 : decode cL_law_ 1048 = .ok (.aload_n 3, 1) := by decide +kernel
theorem dL_law__1049 : decode cL_law_ 1049 = .ok (.invokestatic 195, 3) := by decide +kernel
theorem dL_law__1052 : decode cL_law_ 1052 = .ok (.istore 5, 2) := by decide +kernel
theorem dL_law__1054 : decode cL_law_ 1054 = .ok (.aload_n 2, 1) := by decide +kernel
theorem dL_law__1055 : decode cL_law_ 1055 = .ok (.aload_n 0, 1) := by decide +kernel
theorem dL_law__1056 : decode cL_law_ 1056 = .ok (.iload 4, 2) := by decide +kernel
theorem dL_law__1058 : decode cL_law_ 1058 = .ok (.iconst 1, 1) := by decide +kernel
theorem dL_law__1059 : decode cL_law_ 1059 = .ok (.iadd, 1) := by decide +kernel
theorem dL_law__1060 : decode cL_law_ 1060 = .ok (.iaload, 1) := by decide +kernel
theorem dL_law__1061 : decode cL_law_ 1061 = .ok (.aload_n 0, 1) := by decide +kernel
theorem dL_law__1062 : decode cL_law_ 1062 = .ok (.iload 4, 2) := by decide +kernel
theorem dL_law__1064 : decode cL_law_ 1064 = .ok (.iconst 2, 1) := by decide +kernel
theorem dL_law__1065 : decode cL_law_ 1065 = .ok (.iadd, 1) := by decide +kernel
theorem dL_law__1066 : decode cL_law_ 1066 = .ok (.iaload, 1) := by decide +kernel
theorem dL_law__1067 : decode cL_law_ 1067 = .ok (.invokevirtual 197, 3) := by decide +kernel
theorem dL_law__1070 : decode cL_law_ 1070 = .ok (.istore 6, 2) := by decide +kernel
theorem dL_law__1072 : decode cL_law_ 1072 = .ok (.aload_n 2, 1) := by decide +kernel
theorem dL_law__1073 : decode cL_law_ 1073 = .ok (.invokevirtual 156, 3) := by decide +kernel
theorem dL_law__1076 : decode cL_law_ 1076 = .ok (.iload 5, 2) := by decide +kernel
theorem dL_law__1078 : decode cL_law_ 1078 = .ok (.if_icmp .eq 5, 3) := by decide +kernel
theorem dL_law__1081 : decode cL_law_ 1081 = .ok (.iconst 0, 1) := by decide +kernel
theorem dL_law__1082 : decode cL_law_ 1082 = .ok (.ireturn, 1) := by decide +kernel
theorem dL_law__1083 : decode cL_law_ 1083 = .ok (.iload 5, 2) := by decide +kernel
theorem dL_law__1085 : decode cL_law_ 1085 = .ok (.ifCond .ne 15, 3) := by decide +kernel
theorem dL_law__1088 : decode cL_law_ 1088 = .ok (.aload_n 3, 1) := by decide +kernel
theorem dL_law__1089 : decode cL_law_ 1089 = .ok (.iconst 0, 1) := by decide +kernel
theorem dL_law__1090 : decode cL_law_ 1090 = .ok (.laload, 1) := by decide +kernel
theorem dL_law__1091 : decode cL_law_ 1091 = .ok (.iload 6, 2) := by decide +kernel
theorem dL_law__1093 : decode cL_law_ 1093 = .ok (.i2l, 1) := by decide +kernel
theorem dL_law__1094 : decode cL_law_ 1094 = .ok (.lcmp, 1) := by decide +kernel
theorem dL_law__1095 : decode cL_law_ 1095 = .ok (.ifCond .eq 5, 3) := by decide +kernel
theorem dL_law__1098 : decode cL_law_ 1098 = .ok (.iconst 0, 1) := by decide +kernel
theorem dL_law__1099 : decode cL_law_ 1099 = .ok (.ireturn, 1) := by decide +kernel
theorem dL_law__1100 : decode cL_law_ 1100 = .ok (.goto 1941, 3) := by decide +kernel
theorem dL_law__1103 : decode cL_law_ 1103 = .ok (.aload_n 1, 1) := by decide +kernel
theorem dL_law__1104 : decode cL_law_ 1104 = .ok (.aload_n 0, 1) := by decide +kernel
theorem dL_law__1105 : decode cL_law_ 1105 = .ok (.iload 4, 2) := by decide +kernel
theorem dL_law__1107 : decode cL_law_ 1107 = .ok (.iconst 1, 1) := by decide +kernel
theorem dL_law__1108 : decode cL_law_ 1108 = .ok (.iadd, 1) := by decide +kernel
theorem dL_law__1109 : decode cL_law_ 1109 = .ok (.iaload, 1) := by decide +kernel
theorem dL_law__1110 : decode cL_law_ 1110 = .ok (.aload_n 3, 1) := by decide +kernel
theorem dL_law__1111 : decode cL_law_ 1111 = .ok (.invokestatic 198, 3) := by decide +kernel
theorem dL_law__1114 : decode cL_law_ 1114 = .ok (.istore 5, 2) := by decide +kernel
theorem dL_law__1116 : decode cL_law_ 1116 = .ok (.aload_n 2, 1) := by decide +kernel
theorem dL_law__1117 : decode cL_law_ 1117 = .ok (.aload_n 0, 1) := by decide +kernel
theorem dL_law__1118 : decode cL_law_ 1118 = .ok (.iload 4, 2) := by decide +kernel
theorem dL_law__1120 : decode cL_law_ 1120 = .ok (.iconst 1, 1) := by decide +kernel
theorem dL_law__1121 : decode cL_law_ 1121 = .ok (.iadd, 1) := by decide +kernel
theorem dL_law__1122 : decode cL_law_ 1122 = .ok (.iaload, 1) := by decide +kernel
theorem dL_law__1123 : decode cL_law_ 1123 = .ok (.invokevirtual 200, 3) := by decide +kernel
theorem dL_law__1126 : decode cL_law_ 1126 = .ok (.istore 6, 2) := by decide +kernel
theorem dL_law__1128 : decode cL_law_ 1128 = .ok (.aload_n 2, 1) := by decide +kernel
theorem dL_law__1129 : decode cL_law_ 1129 = .ok (.invokevirtual 156, 3) := by decide +kernel
theorem dL_law__1132 : decode cL_law_ 1132 = .ok (.iload 5, 2) := by decide +kernel
theorem dL_law__1134 : decode cL_law_ 1134 = .ok (.if_icmp .eq 5, 3) := by decide +kernel
theorem dL_law__1137 : decode cL_law_ 1137 = .ok (.iconst 0, 1) := by decide +kernel
theorem dL_law__1138 : decode cL_law_ 1138 = .ok (.ireturn, 1) := by decide +kernel
theorem dL_law__1139 : decode cL_law_ 1139 = .ok (.iload 5, 2) := by decide +kernel
theorem dL_law__1141 : decode cL_law_ 1141 = .ok (.ifCond .ne 15, 3) := by decide +kernel
theorem dL_law__1144 : decode cL_law_ 1144 = .ok (.aload_n 3, 1) := by decide +kernel
theorem dL_law__1145 : decode cL_law_ 1145 = .ok (.iconst 0, 1) := by decide +kernel
theorem dL_law__1146 : decode cL_law_ 1146 = .ok (.laload, 1) := by decide +kernel
theorem dL_law__1147 : decode cL_law_ 1147 = .ok (.iload 6, 2) := by decide +kernel
theorem dL_law__1149 : decode cL_law_ 1149 = .ok (.i2l, 1) := by decide +kernel
theorem dL_law__1150 : decode cL_law_ 1150 = .ok (.lcmp, 1) := by decide +kernel
theorem dL_law__1151 : decode cL_law_ 1151 = .ok (.ifCond .eq 5, 3) := by decide +kernel
theorem dL_law__1154 : decode cL_law_ 1154 = .ok (.iconst 0, 1) := by decide +kernel
theorem dL_law__1155 : decode cL_law_ 1155 = .ok (.ireturn, 1) := by decide +kernel
theorem dL_law__1156 : decode cL_law_ 1156 = .ok (.goto 1885, 3) := by decide +kernel
theorem dL_law__1159 : decode cL_law_ 1159 = .ok (.aload_n 1, 1) := by decide +kernel
theorem dL_law__1160 : decode cL_law_ 1160 = .ok (.invokevirtual 201, 3) := by decide +kernel
theorem dL_law__1163 : decode cL_law_ 1163 = .ok (.aload_n 2, 1) := by decide +kernel
theorem dL_law__1164 : decode cL_law_ 1164 = .ok (.invokevirtual 204, 3) := by decide +kernel
theorem dL_law__1167 : decode cL_law_ 1167 = .ok (.if_icmp .eq 1874, 3) := by decide +kernel
theorem dL_law__1170 : decode cL_law_ 1170 = .ok (.iconst 0, 1) := by decide +kernel
theorem dL_law__1171 : decode cL_law_ 1171 = .ok (.ireturn, 1) := by decide +kernel
theorem dL_law__1172 : decode cL_law_ 1172 = .ok (.aload_n 1, 1) := by decide +kernel
theorem dL_law__1173 : decode cL_law_ 1173 = .ok (.aload_n 0, 1) := by decide +kernel
theorem dL_law__1174 : decode cL_law_ 1174 = .ok (.iload 4, 2) := by decide +kernel
theorem dL_law__1176 : decode cL_law_ 1176 = .ok (.iconst 1, 1) := by decide +kernel
theorem dL_law__1177 : decode cL_law_ 1177 = .ok (.iadd, 1) := by decide +kernel
theorem dL_law__1178 : decode cL_law_ 1178 = .ok (.iaload, 1) := by decide +kernel
theorem dL_law__1179 : decode cL_law_ 1179 = .ok (.aload_n 0, 1) := by decide +kernel
theorem dL_law__1180 : decode cL_law_ 1180 = .ok (.iload 4, 2) := by decide +kernel
theorem dL_law__1182 : decode cL_law_ 1182 = .ok (.iconst 2, 1) := by decide +kernel
theorem dL_law__1183 : decode cL_law_ 1183 = .ok (.iadd, 1) := by decide +kernel
theorem dL_law__1184 : decode cL_law_ 1184 = .ok (.iaload, 1) := by decide +kernel
theorem dL_law__1185 : decode cL_law_ 1185 = .ok (.aload_n 3, 1) := by decide +kernel
theorem dL_law__1186 : decode cL_law_ 1186 = .ok (.invokestatic 205, 3) := by decide +kernel
theorem dL_law__1189 : decode cL_law_ 1189 = .ok (.istore 5, 2) := by decide +kernel
theorem dL_law__1191 : decode cL_law_ 1191 = .ok (.aload_n 2, 1) := by decide +kernel
theorem dL_law__1192 : decode cL_law_ 1192 = .ok (.aload_n 0, 1) := by decide +kernel
theorem dL_law__1193 : decode cL_law_ 1193 = .ok (.iload 4, 2) := by decide +kernel
theorem dL_law__1195 : decode cL_law_ 1195 = .ok (.iconst 1, 1) := by decide +kernel
theorem dL_law__1196 : decode cL_law_ 1196 = .ok (.iadd, 1) := by decide +kernel
theorem dL_law__1197 : decode cL_law_ 1197 = .ok (.iaload, 1) := by decide +kernel
theorem dL_law__1198 : decode cL_law_ 1198 = .ok (.aload_n 0, 1) := by decide +kernel
theorem dL_law__1199 : decode cL_law_ 1199 = .ok (.iload 4, 2) := by decide +kernel
theorem dL_law__1201 : decode cL_law_ 1201 = .ok (.iconst 2, 1) := by decide +kernel
theorem dL_law__1202 : decode cL_law_ 1202 = .ok (.iadd, 1) := by decide +kernel
theorem dL_law__1203 : decode cL_law_ 1203 = .ok (.iaload, 1) := by decide +kernel
theorem dL_law__1204 : decode cL_law_ 1204 = .ok (.invokevirtual 207, 3) := by decide +kernel
theorem dL_law__1207 : decode cL_law_ 1207 = .ok (.istore 6, 2) := by decide +kernel
theorem dL_law__1209 : decode cL_law_ 1209 = .ok (.aload_n 2, 1) := by decide +kernel
theorem dL_law__1210 : decode cL_law_ 1210 = .ok (.invokevirtual 156, 3) := by decide +kernel
theorem dL_law__1213 : decode cL_law_ 1213 = .ok (.iload 5, 2) := by decide +kernel
theorem dL_law__1215 : decode cL_law_ 1215 = .ok (.if_icmp .eq 5, 3) := by decide +kernel
theorem dL_law__1218 : decode cL_law_ 1218 = .ok (.iconst 0, 1) := by decide +kernel
theorem dL_law__1219 : decode cL_law_ 1219 = .ok (.ireturn, 1) := by decide +kernel
theorem dL_law__1220 : decode cL_law_ 1220 = .ok (.iload 5, 2) := by decide +kernel
theorem dL_law__1222 : decode cL_law_ 1222 = .ok (.ifCond .ne 15, 3) := by decide +kernel
theorem dL_law__1225 : decode cL_law_ 1225 = .ok (.aload_n 3, 1) := by decide +kernel
theorem dL_law__1226 : decode cL_law_ 1226 = .ok (.iconst 0, 1) := by decide +kernel
theorem dL_law__1227 : decode cL_law_ 1227 = .ok (.laload, 1) := by decide +kernel
theorem dL_law__1228 : decode cL_law_ 1228 = .ok (.iload 6, 2) := by decide +kernel
theorem dL_law__1230 : decode cL_law_ 1230 = .ok (.i2l, 1) := by decide +kernel
theorem dL_law__1231 : decode cL_law_ 1231 = .ok (.lcmp, 1) := by decide +kernel
theorem dL_law__1232 : decode cL_law_ 1232 = .ok (.ifCond .eq 5, 3) := by decide +kernel
theorem dL_law__1235 : decode cL_law_ 1235 = .ok (.iconst 0, 1) := by decide +kernel
theorem dL_law__1236 : decode cL_law_ 1236 = .ok (.ireturn, 1) := by decide +kernel
theorem dL_law__1237 : decode cL_law_ 1237 = .ok (.goto 1804, 3) := by decide +kernel
theorem dL_law__1240 : decode cL_law_ 1240 = .ok (.aload_n 1, 1) := by decide +kernel
theorem dL_law__1241 : decode cL_law_ 1241 = .ok (.aload_n 0, 1) := by decide +kernel
theorem dL_law__1242 : decode cL_law_ 1242 = .ok (.iload 4, 2) := by decide +kernel
theorem dL_law__1244 : decode cL_law_ 1244 = .ok (.iconst 1, 1) := by decide +kernel
theorem dL_law__1245 : decode cL_law_ 1245 = .ok (.iadd, 1) := by decide +kernel
theorem dL_law__1246 : decode cL_law_ 1246 = .ok (.iaload, 1) := by decide +kernel
theorem dL_law__1247 : decode cL_law_ 1247 = .ok (.aload_n 0, 1) := by decide +kernel
theorem dL_law__1248 : decode cL_law_ 1248 = .ok (.iload 4, 2) := by decide +kernel
theorem dL_law__1250 : decode cL_law_ 1250 = .ok (.iconst 2, 1) := by decide +kernel
theorem dL_law__1251 : decode cL_law_ 1251 = .ok (.iadd, 1) := by decide +kernel
theorem dL_law__1252 : decode cL_law_ 1252 = .ok (.iaload, 1) := by decide +kernel
theorem dL_law__1253 : decode cL_law_ 1253 = .ok (.aload_n 3, 1) := by decide +kernel
theorem dL_law__1254 : decode cL_law_ 1254 = .ok (.invokestatic 208, 3) := by decide +kernel
theorem dL_law__1257 : decode cL_law_ 1257 = .ok (.istore 5, 2) := by decide +kernel
theorem dL_law__1259 : decode cL_law_ 1259 = .ok (.aload_n 2, 1) := by decide +kernel
theorem dL_law__1260 : decode cL_law_ 1260 = .ok (.aload_n 0, 1) := by decide +kernel
theorem dL_law__1261 : decode cL_law_ 1261 = .ok (.iload 4, 2) := by decide +kernel
theorem dL_law__1263 : decode cL_law_ 1263 = .ok (.iconst 1, 1) := by decide +kernel
theorem dL_law__1264 : decode cL_law_ 1264 = .ok (.iadd, 1) := by decide +kernel
theorem dL_law__1265 : decode cL_law_ 1265 = .ok (.iaload, 1) := by decide +kernel
theorem dL_law__1266 : decode cL_law_ 1266 = .ok (.aload_n 0, 1) := by decide +kernel
theorem dL_law__1267 : decode cL_law_ 1267 = .ok (.iload 4, 2) := by decide +kernel
theorem dL_law__1269 : decode cL_law_ 1269 = .ok (.iconst 2, 1) := by decide +kernel
theorem dL_law__1270 : decode cL_law_ 1270 = .ok (.iadd, 1) := by decide +kernel
theorem dL_law__1271 : decode cL_law_ 1271 = .ok (.iaload, 1) := by decide +kernel
theorem dL_law__1272 : decode cL_law_ 1272 = .ok (.invokevirtual 210, 3) := by decide +kernel
theorem dL_law__1275 : decode cL_law_ 1275 = .ok (.istore 6, 2) := by decide +kernel
theorem dL_law__1277 : decode cL_law_ 1277 = .ok (.aload_n 2, 1) := by decide +kernel
theorem dL_law__1278 : decode cL_law_ 1278 = .ok (.invokevirtual 156, 3) := by decide +kernel
theorem dL_law__1281 : decode cL_law_ 1281 = .ok (.iload 5, 2) := by decide +kernel
theorem dL_law__1283 : decode cL_law_ 1283 = .ok (.if_icmp .eq 5, 3) := by decide +kernel
theorem dL_law__1286 : decode cL_law_ 1286 = .ok (.iconst 0, 1) := by decide +kernel
theorem dL_law__1287 : decode cL_law_ 1287 = .ok (.ireturn, 1) := by decide +kernel
theorem dL_law__1288 : decode cL_law_ 1288 = .ok (.iload 5, 2) := by decide +kernel
theorem dL_law__1290 : decode cL_law_ 1290 = .ok (.ifCond .ne 15, 3) := by decide +kernel
theorem dL_law__1293 : decode cL_law_ 1293 = .ok (.aload_n 3, 1) := by decide +kernel
theorem dL_law__1294 : decode cL_law_ 1294 = .ok (.iconst 0, 1) := by decide +kernel
theorem dL_law__1295 : decode cL_law_ 1295 = .ok (.laload, 1) := by decide +kernel
theorem dL_law__1296 : decode cL_law_ 1296 = .ok (.iload 6, 2) := by decide +kernel
theorem dL_law__1298 : decode cL_law_ 1298 = .ok (.i2l, 1) := by decide +kernel
theorem dL_law__1299 : decode cL_law_ 1299 = .ok (.lcmp, 1) := by decide +kernel
theorem dL_law__1300 : decode cL_law_ 1300 = .ok (.ifCond .eq 5, 3) := by decide +kernel
theorem dL_law__1303 : decode cL_law_ 1303 = .ok (.iconst 0, 1) := by decide +kernel
theorem dL_law__1304 : decode cL_law_ 1304 = .ok (.ireturn, 1) := by decide +kernel
theorem dL_law__1305 : decode cL_law_ 1305 = .ok (.goto 1736, 3) := by decide +kernel
theorem dL_law__1308 : decode cL_law_ 1308 = .ok (.aload_n 1, 1) := by decide +kernel
theorem dL_law__1309 : decode cL_law_ 1309 = .ok (.aload_n 0, 1) := by decide +kernel
theorem dL_law__1310 : decode cL_law_ 1310 = .ok (.iload 4, 2) := by decide +kernel
theorem dL_law__1312 : decode cL_law_ 1312 = .ok (.iconst 1, 1) := by decide +kernel
theorem dL_law__1313 : decode cL_law_ 1313 = .ok (.iadd, 1) := by decide +kernel
theorem dL_law__1314 : decode cL_law_ 1314 = .ok (.iaload, 1) := by decide +kernel
theorem dL_law__1315 : decode cL_law_ 1315 = .ok (.aload_n 3, 1) := by decide +kernel
theorem dL_law__1316 : decode cL_law_ 1316 = .ok (.invokestatic 211, 3) := by decide +kernel
theorem dL_law__1319 : decode cL_law_ 1319 = .ok (.istore 5, 2) := by decide +kernel
theorem dL_law__1321 : decode cL_law_ 1321 = .ok (.aload_n 2, 1) := by decide +kernel
theorem dL_law__1322 : decode cL_law_ 1322 = .ok (.aload_n 0, 1) := by decide +kernel
theorem dL_law__1323 : decode cL_law_ 1323 = .ok (.iload 4, 2) := by decide +kernel
theorem dL_law__1325 : decode cL_law_ 1325 = .ok (.iconst 1, 1) := by decide +kernel
theorem dL_law__1326 : decode cL_law_ 1326 = .ok (.iadd, 1) := by decide +kernel
theorem dL_law__1327 : decode cL_law_ 1327 = .ok (.iaload, 1) := by decide +kernel
theorem dL_law__1328 : decode cL_law_ 1328 = .ok (.invokevirtual 213, 3) := by decide +kernel
theorem dL_law__1331 : decode cL_law_ 1331 = .ok (.istore 6, 2) := by decide +kernel
theorem dL_law__1333 : decode cL_law_ 1333 = .ok (.aload_n 2, 1) := by decide +kernel
theorem dL_law__1334 : decode cL_law_ 1334 = .ok (.invokevirtual 156, 3) := by decide +kernel
theorem dL_law__1337 : decode cL_law_ 1337 = .ok (.iload 5, 2) := by decide +kernel
theorem dL_law__1339 : decode cL_law_ 1339 = .ok (.if_icmp .eq 5, 3) := by decide +kernel
theorem dL_law__1342 : decode cL_law_ 1342 = .ok (.iconst 0, 1) := by decide +kernel
theorem dL_law__1343 : decode cL_law_ 1343 = .ok (.ireturn, 1) := by decide +kernel
theorem dL_law__1344 : decode cL_law_ 1344 = .ok (.iload 5, 2) := by decide +kernel
theorem dL_law__1346 : decode cL_law_ 1346 = .ok (.ifCond .ne 15, 3) := by decide +kernel
theorem dL_law__1349 : decode cL_law_ 1349 = .ok (.aload_n 3, 1) := by decide +kernel
theorem dL_law__1350 : decode cL_law_ 1350 = .ok (.iconst 0, 1) := by decide +kernel
theorem dL_law__1351 : decode cL_law_ 1351 = .ok (.laload, 1) := by decide +kernel
theorem dL_law__1352 : decode cL_law_ 1352 = .ok (.iload 6, 2) := by decide +kernel
theorem dL_law__1354 : decode cL_law_ 1354 = .ok (.i2l, 1) := by decide +kernel
theorem dL_law__1355 : decode cL_law_ 1355 = .ok (.lcmp, 1) := by decide +kernel
theorem dL_law__1356 : decode cL_law_ 1356 = .ok (.ifCond .eq 5, 3) := by decide +kernel
theorem dL_law__1359 : decode cL_law_ 1359 = .ok (.iconst 0, 1) := by decide +kernel
theorem dL_law__1360 : decode cL_law_ 1360 = .ok (.ireturn, 1) := by decide +kernel
theorem dL_law__1361 : decode cL_law_ 1361 = .ok (.goto 1680, 3) := by decide +kernel
theorem dL_law__1364 : decode cL_law_ 1364 = .ok (.aload_n 1, 1) := by decide +kernel
theorem dL_law__1365 : decode cL_law_ 1365 = .ok (.invokevirtual 214, 3) := by decide +kernel
theorem dL_law__1368 : decode cL_law_ 1368 = .ok (.aload_n 2, 1) := by decide +kernel
theorem dL_law__1369 : decode cL_law_ 1369 = .ok (.invokevirtual 217, 3) := by decide +kernel
theorem dL_law__1372 : decode cL_law_ 1372 = .ok (.if_icmp .eq 1669, 3) := by decide +kernel
theorem dL_law__1375 : decode cL_law_ 1375 = .ok (.iconst 0, 1) := by decide +kernel
theorem dL_law__1376 : decode cL_law_ 1376 = .ok (.ireturn, 1) := by decide +kernel
theorem dL_law__1377 : decode cL_law_ 1377 = .ok (.aload_n 1, 1) := by decide +kernel
theorem dL_law__1378 : decode cL_law_ 1378 = .ok (.invokevirtual 218, 3) := by decide +kernel
theorem dL_law__1381 : decode cL_law_ 1381 = .ok (.aload_n 2, 1) := by decide +kernel
theorem dL_law__1382 : decode cL_law_ 1382 = .ok (.invokevirtual 221, 3) := by decide +kernel
theorem dL_law__1385 : decode cL_law_ 1385 = .ok (.if_icmp .eq 1656, 3) := by decide +kernel
theorem dL_law__1388 : decode cL_law_ 1388 = .ok (.iconst 0, 1) := by decide +kernel
theorem dL_law__1389 : decode cL_law_ 1389 = .ok (.ireturn, 1) := by decide +kernel
theorem dL_law__1390 : decode cL_law_ 1390 = .ok (.aload_n 1, 1) := by decide +kernel
theorem dL_law__1391 : decode cL_law_ 1391 = .ok (.invokevirtual 222, 3) := by decide +kernel
theorem dL_law__1394 : decode cL_law_ 1394 = .ok (.aload_n 2, 1) := by decide +kernel
theorem dL_law__1395 : decode cL_law_ 1395 = .ok (.invokevirtual 225, 3) := by decide +kernel
theorem dL_law__1398 : decode cL_law_ 1398 = .ok (.if_icmp .eq 1643, 3) := by decide +kernel
theorem dL_law__1401 : decode cL_law_ 1401 = .ok (.iconst 0, 1) := by decide +kernel
theorem dL_law__1402 : decode cL_law_ 1402 = .ok (.ireturn, 1) := by decide +kernel
theorem dL_law__1403 : decode cL_law_ 1403 = .ok (.aload_n 1, 1) := by decide +kernel
theorem dL_law__1404 : decode cL_law_ 1404 = .ok (.invokevirtual 226, 3) := by decide +kernel
theorem dL_law__1407 : decode cL_law_ 1407 = .ok (.aload_n 2, 1) := by decide +kernel
theorem dL_law__1408 : decode cL_law_ 1408 = .ok (.invokevirtual 229, 3) := by decide +kernel
theorem dL_law__1411 : decode cL_law_ 1411 = .ok (.if_icmp .eq 1630, 3) := by decide +kernel
theorem dL_law__1414 : decode cL_law_ 1414 = .ok (.iconst 0, 1) := by decide +kernel
theorem dL_law__1415 : decode cL_law_ 1415 = .ok (.ireturn, 1) := by decide +kernel
theorem dL_law__1416 : decode cL_law_ 1416 = .ok (.aload_n 1, 1) := by decide +kernel
theorem dL_law__1417 : decode cL_law_ 1417 = .ok (.aload_n 0, 1) := by decide +kernel
theorem dL_law__1418 : decode cL_law_ 1418 = .ok (.iload 4, 2) := by decide +kernel
theorem dL_law__1420 : decode cL_law_ 1420 = .ok (.iconst 1, 1) := by decide +kernel
theorem dL_law__1421 : decode cL_law_ 1421 = .ok (.iadd, 1) := by decide +kernel
theorem dL_law__1422 : decode cL_law_ 1422 = .ok (.iaload, 1) := by decide +kernel
theorem dL_law__1423 : decode cL_law_ 1423 = .ok (.aload_n 0, 1) := by decide +kernel
theorem dL_law__1424 : decode cL_law_ 1424 = .ok (.iload 4, 2) := by decide +kernel
theorem dL_law__1426 : decode cL_law_ 1426 = .ok (.iconst 2, 1) := by decide +kernel
theorem dL_law__1427 : decode cL_law_ 1427 = .ok (.iadd, 1) := by decide +kernel
theorem dL_law__1428 : decode cL_law_ 1428 = .ok (.iaload, 1) := by decide +kernel
theorem dL_law__1429 : decode cL_law_ 1429 = .ok (.aload_n 3, 1) := by decide +kernel
theorem dL_law__1430 : decode cL_law_ 1430 = .ok (.invokestatic 230, 3) := by decide +kernel
theorem dL_law__1433 : decode cL_law_ 1433 = .ok (.istore 5, 2) := by decide +kernel
theorem dL_law__1435 : decode cL_law_ 1435 = .ok (.aload_n 2, 1) := by decide +kernel
theorem dL_law__1436 : decode cL_law_ 1436 = .ok (.aload_n 0, 1) := by decide +kernel
theorem dL_law__1437 : decode cL_law_ 1437 = .ok (.iload 4, 2) := by decide +kernel
theorem dL_law__1439 : decode cL_law_ 1439 = .ok (.iconst 1, 1) := by decide +kernel
theorem dL_law__1440 : decode cL_law_ 1440 = .ok (.iadd, 1) := by decide +kernel
theorem dL_law__1441 : decode cL_law_ 1441 = .ok (.iaload, 1) := by decide +kernel
theorem dL_law__1442 : decode cL_law_ 1442 = .ok (.aload_n 0, 1) := by decide +kernel
theorem dL_law__1443 : decode cL_law_ 1443 = .ok (.iload 4, 2) := by decide +kernel
theorem dL_law__1445 : decode cL_law_ 1445 = .ok (.iconst 2, 1) := by decide +kernel
theorem dL_law__1446 : decode cL_law_ 1446 = .ok (.iadd, 1) := by decide +kernel
theorem dL_law__1447 : decode cL_law_ 1447 = .ok (.iaload, 1) := by decide +kernel
theorem dL_law__1448 : decode cL_law_ 1448 = .ok (.invokevirtual 232, 3) := by decide +kernel
theorem dL_law__1451 : decode cL_law_ 1451 = .ok (.istore 6, 2) := by decide +kernel
theorem dL_law__1453 : decode cL_law_ 1453 = .ok (.aload_n 2, 1) := by decide +kernel
theorem dL_law__1454 : decode cL_law_ 1454 = .ok (.invokevirtual 156, 3) := by decide +kernel
theorem dL_law__1457 : decode cL_law_ 1457 = .ok (.iload 5, 2) := by decide +kernel
theorem dL_law__1459 : decode cL_law_ 1459 = .ok (.if_icmp .eq 5, 3) := by decide +kernel
theorem dL_law__1462 : decode cL_law_ 1462 = .ok (.iconst 0, 1) := by decide +kernel
theorem dL_law__1463 : decode cL_law_ 1463 = .ok (.ireturn, 1) := by decide +kernel
theorem dL_law__1464 : decode cL_law_ 1464 = .ok (.iload 5, 2) := by decide +kernel
theorem dL_law__1466 : decode cL_law_ 1466 = .ok (.ifCond .ne 15, 3) := by decide +kernel
theorem dL_law__1469 : decode cL_law_ 1469 = .ok (.aload_n 3, 1) := by decide +kernel
theorem dL_law__1470 : decode cL_law_ 1470 = .ok (.iconst 0, 1) := by decide +kernel
theorem dL_law__1471 : decode cL_law_ 1471 = .ok (.laload, 1) := by decide +kernel
theorem dL_law__1472 : decode cL_law_ 1472 = .ok (.iload 6, 2) := by decide +kernel
theorem dL_law__1474 : decode cL_law_ 1474 = .ok (.i2l, 1) := by decide +kernel
theorem dL_law__1475 : decode cL_law_ 1475 = .ok (.lcmp, 1) := by decide +kernel
theorem dL_law__1476 : decode cL_law_ 1476 = .ok (.ifCond .eq 5, 3) := by decide +kernel
theorem dL_law__1479 : decode cL_law_ 1479 = .ok (.iconst 0, 1) := by decide +kernel
theorem dL_law__1480 : decode cL_law_ 1480 = .ok (.ireturn, 1) := by decide +kernel
theorem dL_law__1481 : decode cL_law_ 1481 = .ok (.goto 1560, 3) := by decide +kernel
theorem dL_law__1484 : decode cL_law_ 1484 = .ok (.aload_n 1, 1) := by decide +kernel
theorem dL_law__1485 : decode cL_law_ 1485 = .ok (.aload_n 0, 1) := by decide +kernel
theorem dL_law__1486 : decode cL_law_ 1486 = .ok (.iload 4, 2) := by decide +kernel
theorem dL_law__1488 : decode cL_law_ 1488 = .ok (.iconst 1, 1) := by decide +kernel
theorem dL_law__1489 : decode cL_law_ 1489 = .ok (.iadd, 1) := by decide +kernel
theorem dL_law__1490 : decode cL_law_ 1490 = .ok (.iaload, 1) := by decide +kernel
theorem dL_law__1491 : decode cL_law_ 1491 = .ok (.aload_n 0, 1) := by decide +kernel
theorem dL_law__1492 : decode cL_law_ 1492 = .ok (.iload 4, 2) := by decide +kernel
theorem dL_law__1494 : decode cL_law_ 1494 = .ok (.iconst 2, 1) := by decide +kernel
theorem dL_law__1495 : decode cL_law_ 1495 = .ok (.iadd, 1) := by decide +kernel
theorem dL_law__1496 : decode cL_law_ 1496 = .ok (.iaload, 1) := by decide +kernel
theorem dL_law__1497 : decode cL_law_ 1497 = .ok (.ifCond .eq 7, 3) := by decide +kernel
theorem dL_law__1500 : decode cL_law_ 1500 = .ok (.iconst 1, 1) := by decide +kernel
theorem dL_law__1501 : decode cL_law_ 1501 = .ok (.goto 4, 3) := by decide +kernel
theorem dL_law__1504 : decode cL_law_ 1504 = .ok (.iconst 0, 1) := by decide +kernel
theorem dL_law__1505 : decode cL_law_ 1505 = .ok (.aload_n 3, 1) := by decide +kernel
theorem dL_law__1506 : decode cL_law_ 1506 = .ok (.invokestatic 233, 3) := by decide +kernel
theorem dL_law__1509 : decode cL_law_ 1509 = .ok (.istore 5, 2) := by decide +kernel
theorem dL_law__1511 : decode cL_law_ 1511 = .ok (.aload_n 2, 1) := by decide +kernel
theorem dL_law__1512 : decode cL_law_ 1512 = .ok (.aload_n 0, 1) := by decide +kernel
theorem dL_law__1513 : decode cL_law_ 1513 = .ok (.iload 4, 2) := by decide +kernel
theorem dL_law__1515 : decode cL_law_ 1515 = .ok (.iconst 1, 1) := by decide +kernel
theorem dL_law__1516 : decode cL_law_ 1516 = .ok (.iadd, 1) := by decide +kernel
theorem dL_law__1517 : decode cL_law_ 1517 = .ok (.iaload, 1) := by decide +kernel
theorem dL_law__1518 : decode cL_law_ 1518 = .ok (.aload_n 0, 1) := by decide +kernel
theorem dL_law__1519 : decode cL_law_ 1519 = .ok (.iload 4, 2) := by decide +kernel
theorem dL_law__1521 : decode cL_law_ 1521 = .ok (.iconst 2, 1) := by decide +kernel
theorem dL_law__1522 : decode cL_law_ 1522 = .ok (.iadd, 1) := by decide +kernel
theorem dL_law__1523 : decode cL_law_ 1523 = .ok (.iaload, 1) := by decide +kernel
theorem dL_law__1524 : decode cL_law_ 1524 = .ok (.ifCond .eq 7, 3) := by decide +kernel
theorem dL_law__1527 : decode cL_law_ 1527 = .ok (.iconst 1, 1) := by decide +kernel
theorem dL_law__1528 : decode cL_law_ 1528 = .ok (.goto 4, 3) := by decide +kernel
theorem dL_law__1531 : decode cL_law_ 1531 = .ok (.iconst 0, 1) := by decide +kernel
theorem dL_law__1532 : decode cL_law_ 1532 = .ok (.invokevirtual 236, 3) := by decide +kernel
theorem dL_law__1535 : decode cL_law_ 1535 = .ok (.istore 6, 2) := by decide +kernel
theorem dL_law__1537 : decode cL_law_ 1537 = .ok (.aload_n 2, 1) := by decide +kernel
theorem dL_law__1538 : decode cL_law_ 1538 = .ok (.invokevirtual 156, 3) := by decide +kernel
theorem dL_law__1541 : decode cL_law_ 1541 = .ok (.iload 5, 2) := by decide +kernel
theorem dL_law__1543 : decode cL_law_ 1543 = .ok (.if_icmp .eq 5, 3) := by decide +kernel
theorem dL_law__1546 : decode cL_law_ 1546 = .ok (.iconst 0, 1) := by decide +kernel
theorem dL_law__1547 : decode cL_law_ 1547 = .ok (.ireturn, 1) := by decide +kernel
theorem dL_law__1548 : decode cL_law_ 1548 = .ok (.iload 5, 2) := by decide +kernel
theorem dL_law__1550 : decode cL_law_ 1550 = .ok (.ifCond .ne 15, 3) := by decide +kernel
theorem dL_law__1553 : decode cL_law_ 1553 = .ok (.aload_n 3, 1) := by decide +kernel
theorem dL_law__1554 : decode cL_law_ 1554 = .ok (.iconst 0, 1) := by decide +kernel
theorem dL_law__1555 : decode cL_law_ 1555 = .ok (.laload, 1) := by decide +kernel
theorem dL_law__1556 : decode cL_law_ 1556 = .ok (.iload 6, 2) := by decide +kernel
theorem dL_law__1558 : decode cL_law_ 1558 = .ok (.i2l, 1) := by decide +kernel
theorem dL_law__1559 : decode cL_law_ 1559 = .ok (.lcmp, 1) := by decide +kernel
theorem dL_law__1560 : decode cL_law_ 1560 = .ok (.ifCond .eq 5, 3) := by decide +kernel
theorem dL_law__1563 : decode cL_law_ 1563 = .ok (.iconst 0, 1) := by decide +kernel
theorem dL_law__1564 : decode cL_law_ 1564 = .ok (.ireturn, 1) := by decide +kernel
theorem dL_law__1565 : decode cL_law_ 1565 = .ok (.goto 1476, 3) := by decide +kernel
theorem dL_law__1568 : decode cL_law_ 1568 = .ok (.aload_n 1, 1) := by decide +kernel
theorem dL_law__1569 : decode cL_law_ 1569 = .ok (.aload_n 0, 1) := by decide +kernel
theorem dL_law__1570 : decode cL_law_ 1570 = .ok (.iload 4, 2) := by decide +kernel
theorem dL_law__1572 : decode cL_law_ 1572 = .ok (.iconst 1, 1) := by decide +kernel
theorem dL_law__1573 : decode cL_law_ 1573 = .ok (.iadd, 1) := by decide +kernel
theorem dL_law__1574 : decode cL_law_ 1574 = .ok (.iaload, 1) := by decide +kernel
theorem dL_law__1575 : decode cL_law_ 1575 = .ok (.aload_n 3, 1) := by decide +kernel
theorem dL_law__1576 : decode cL_law_ 1576 = .ok (.invokestatic 237, 3) := by decide +kernel
theorem dL_law__1579 : decode cL_law_ 1579 = .ok (.istore 5, 2) := by decide +kernel
theorem dL_law__1581 : decode cL_law_ 1581 = .ok (.aload_n 2, 1) := by decide +kernel
theorem dL_law__1582 : decode cL_law_ 1582 = .ok (.aload_n 0, 1) := by decide +kernel
theorem dL_law__1583 : decode cL_law_ 1583 = .ok (.iload 4, 2) := by decide +kernel
theorem dL_law__1585 : decode cL_law_ 1585 = .ok (.iconst 1, 1) := by decide +kernel
theorem dL_law__1586 : decode cL_law_ 1586 = .ok (.iadd, 1) := by decide +kernel
theorem dL_law__1587 : decode cL_law_ 1587 = .ok (.iaload, 1) := by decide +kernel
theorem dL_law__1588 : decode cL_law_ 1588 = .ok (.invokevirtual 239, 3) := by decide +kernel
theorem dL_law__1591 : decode cL_law_ 1591 = .ok (.istore 6, 2) := by decide +kernel
theorem dL_law__1593 : decode cL_law_ 1593 = .ok (.aload_n 2, 1) := by decide +kernel
theorem dL_law__1594 : decode cL_law_ 1594 = .ok (.invokevirtual 156, 3) := by decide +kernel
theorem dL_law__1597 : decode cL_law_ 1597 = .ok (.iload 5, 2) := by decide +kernel
theorem dL_law__1599 : decode cL_law_ 1599 = .ok (.if_icmp .eq 5, 3) := by decide +kernel
theorem dL_law__1602 : decode cL_law_ 1602 = .ok (.iconst 0, 1) := by decide +kernel
theorem dL_law__1603 : decode cL_law_ 1603 = .ok (.ireturn, 1) := by decide +kernel
theorem dL_law__1604 : decode cL_law_ 1604 = .ok (.iload 5, 2) := by decide +kernel
theorem dL_law__1606 : decode cL_law_ 1606 = .ok (.ifCond .ne 15, 3) := by decide +kernel
theorem dL_law__1609 : decode cL_law_ 1609 = .ok (.aload_n 3, 1) := by decide +kernel
theorem dL_law__1610 : decode cL_law_ 1610 = .ok (.iconst 0, 1) := by decide +kernel
theorem dL_law__1611 : decode cL_law_ 1611 = .ok (.laload, 1) := by decide +kernel
theorem dL_law__1612 : decode cL_law_ 1612 = .ok (.iload 6, 2) := by decide +kernel
theorem dL_law__1614 : decode cL_law_ 1614 = .ok (.i2l, 1) := by decide +kernel
theorem dL_law__1615 : decode cL_law_ 1615 = .ok (.lcmp, 1) := by decide +kernel
theorem dL_law__1616 : decode cL_law_ 1616 = .ok (.ifCond .eq 5, 3) := by decide +kernel
theorem dL_law__1619 : decode cL_law_ 1619 = .ok (.iconst 0, 1) := by decide +kernel
theorem dL_law__1620 : decode cL_law_ 1620 = .ok (.ireturn, 1) := by decide +kernel
theorem dL_law__1621 : decode cL_law_ 1621 = .ok (.goto 1420, 3) := by decide +kernel
theorem dL_law__1624 : decode cL_law_ 1624 = .ok (.aload_n 1, 1) := by decide +kernel
theorem dL_law__1625 : decode cL_law_ 1625 = .ok (.invokevirtual 240, 3) := by decide +kernel
theorem dL_law__1628 : decode cL_law_ 1628 = .ok (.aload_n 2, 1) := by decide +kernel
theorem dL_law__1629 : decode cL_law_ 1629 = .ok (.invokevirtual 243, 3) := by decide +kernel
theorem dL_law__1632 : decode cL_law_ 1632 = .ok (.if_icmp .eq 1409, 3) := by decide +kernel
theorem dL_law__1635 : decode cL_law_ 1635 = .ok (.iconst 0, 1) := by decide +kernel
theorem dL_law__1636 : decode cL_law_ 1636 = .ok (.ireturn, 1) := by decide +kernel
theorem dL_law__1637 : decode cL_law_ 1637 = .ok (.aload_n 1, 1) := by decide +kernel
theorem dL_law__1638 : decode cL_law_ 1638 = .ok (.aload_n 0, 1) := by decide +kernel
theorem dL_law__1639 : decode cL_law_ 1639 = .ok (.iload 4, 2) := by decide +kernel
theorem dL_law__1641 : decode cL_law_ 1641 = .ok (.iconst 1, 1) := by decide +kernel
theorem dL_law__1642 : decode cL_law_ 1642 = .ok (.iadd, 1) := by decide +kernel
theorem dL_law__1643 : decode cL_law_ 1643 = .ok (.iaload, 1) := by decide +kernel
theorem dL_law__1644 : decode cL_law_ 1644 = .ok (.aload_n 3, 1) := by decide +kernel
theorem dL_law__1645 : decode cL_law_ 1645 = .ok (.invokestatic 244, 3) := by decide +kernel
theorem dL_law__1648 : decode cL_law_ 1648 = .ok (.istore 5, 2) := by decide +kernel
theorem dL_law__1650 : decode cL_law_ 1650 = .ok (.aload_n 2, 1) := by decide +kernel
theorem dL_law__1651 : decode cL_law_ 1651 = .ok (.aload_n 0, 1) := by decide +kernel
theorem dL_law__1652 : decode cL_law_ 1652 = .ok (.iload 4, 2) := by decide +kernel
theorem dL_law__1654 : decode cL_law_ 1654 = .ok (.iconst 1, 1) := by decide +kernel
theorem dL_law__1655 : decode cL_law_ 1655 = .ok (.iadd, 1) := by decide +kernel
theorem dL_law__1656 : decode cL_law_ 1656 = .ok (.iaload, 1) := by decide +kernel
theorem dL_law__1657 : decode cL_law_ 1657 = .ok (.invokevirtual 246, 3) := by decide +kernel
theorem dL_law__1660 : decode cL_law_ 1660 = .ok (.istore 6, 2) := by decide +kernel
theorem dL_law__1662 : decode cL_law_ 1662 = .ok (.aload_n 2, 1) := by decide +kernel
theorem dL_law__1663 : decode cL_law_ 1663 = .ok (.invokevirtual 156, 3) := by decide +kernel
theorem dL_law__1666 : decode cL_law_ 1666 = .ok (.iload 5, 2) := by decide +kernel
theorem dL_law__1668 : decode cL_law_ 1668 = .ok (.if_icmp .eq 5, 3) := by decide +kernel
theorem dL_law__1671 : decode cL_law_ 1671 = .ok (.iconst 0, 1) := by decide +kernel
theorem dL_law__1672 : decode cL_law_ 1672 = .ok (.ireturn, 1) := by decide +kernel
theorem dL_law__1673 : decode cL_law_ 1673 = .ok (.iload 5, 2) := by decide +kernel
theorem dL_law__1675 : decode cL_law_ 1675 = .ok (.ifCond .ne 15, 3) := by decide +kernel
theorem dL_law__1678 : decode cL_law_ 1678 = .ok (.aload_n 3, 1) := by decide +kernel
theorem dL_law__1679 : decode cL_law_ 1679 = .ok (.iconst 0, 1) := by decide +kernel
theorem dL_law__1680 : decode cL_law_ 1680 = .ok (.laload, 1) := by decide +kernel
theorem dL_law__1681 : decode cL_law_ 1681 = .ok (.iload 6, 2) := by decide +kernel
theorem dL_law__1683 : decode cL_law_ 1683 = .ok (.i2l, 1) := by decide +kernel
theorem dL_law__1684 : decode cL_law_ 1684 = .ok (.lcmp, 1) := by decide +kernel
theorem dL_law__1685 : decode cL_law_ 1685 = .ok (.ifCond .eq 5, 3) := by decide +kernel
theorem dL_law__1688 : decode cL_law_ 1688 = .ok (.iconst 0, 1) := by decide +kernel
theorem dL_law__1689 : decode cL_law_ 1689 = .ok (.ireturn, 1) := by decide +kernel
theorem dL_law__1690 : decode cL_law_ 1690 = .ok (.goto 1351, 3) := by decide +kernel
theorem dL_law__1693 : decode cL_law_ 1693 = .ok (.aload_n 1, 1) := by decide +kernel
theorem dL_law__1694 : decode cL_law_ 1694 = .ok (.aload_n 0, 1) := by decide +kernel
theorem dL_law__1695 : decode cL_law_ 1695 = .ok (.iload 4, 2) := by decide +kernel
theorem dL_law__1697 : decode cL_law_ 1697 = .ok (.iconst 1, 1) := by decide +kernel
theorem dL_law__1698 : decode cL_law_ 1698 = .ok (.iadd, 1) := by decide +kernel
theorem dL_law__1699 : decode cL_law_ 1699 = .ok (.iaload, 1) := by decide +kernel
theorem dL_law__1700 : decode cL_law_ 1700 = .ok (.aload_n 0, 1) := by decide +kernel
theorem dL_law__1701 : decode cL_law_ 1701 = .ok (.iload 4, 2) := by decide +kernel
theorem dL_law__1703 : decode cL_law_ 1703 = .ok (.iconst 2, 1) := by decide +kernel
theorem dL_law__1704 : decode cL_law_ 1704 = .ok (.iadd, 1) := by decide +kernel
theorem dL_law__1705 : decode cL_law_ 1705 = .ok (.iaload, 1) := by decide +kernel
theorem dL_law__1706 : decode cL_law_ 1706 = .ok (.ifCond .eq 7, 3) := by decide +kernel
theorem dL_law__1709 : decode cL_law_ 1709 = .ok (.iconst 1, 1) := by decide +kernel
theorem dL_law__1710 : decode cL_law_ 1710 = .ok (.goto 4, 3) := by decide +kernel
theorem dL_law__1713 : decode cL_law_ 1713 = .ok (.iconst 0, 1) := by decide +kernel
theorem dL_law__1714 : decode cL_law_ 1714 = .ok (.aload_n 3, 1) := by decide +kernel
theorem dL_law__1715 : decode cL_law_ 1715 = .ok (.invokestatic 247, 3) := by decide +kernel
theorem dL_law__1718 : decode cL_law_ 1718 = .ok (.istore 5, 2) := by decide +kernel
theorem dL_law__1720 : decode cL_law_ 1720 = .ok (.aload_n 2, 1) := by decide +kernel
theorem dL_law__1721 : decode cL_law_ 1721 = .ok (.aload_n 0, 1) := by decide +kernel
theorem dL_law__1722 : decode cL_law_ 1722 = .ok (.iload 4, 2) := by decide +kernel
theorem dL_law__1724 : decode cL_law_ 1724 = .ok (.iconst 1, 1) := by decide +kernel
theorem dL_law__1725 : decode cL_law_ 1725 = .ok (.iadd, 1) := by decide +kernel
theorem dL_law__1726 : decode cL_law_ 1726 = .ok (.iaload, 1) := by decide +kernel
theorem dL_law__1727 : decode cL_law_ 1727 = .ok (.aload_n 0, 1) := by decide +kernel
theorem dL_law__1728 : decode cL_law_ 1728 = .ok (.iload 4, 2) := by decide +kernel
theorem dL_law__1730 : decode cL_law_ 1730 = .ok (.iconst 2, 1) := by decide +kernel
theorem dL_law__1731 : decode cL_law_ 1731 = .ok (.iadd, 1) := by decide +kernel
theorem dL_law__1732 : decode cL_law_ 1732 = .ok (.iaload, 1) := by decide +kernel
theorem dL_law__1733 : decode cL_law_ 1733 = .ok (.ifCond .eq 7, 3) := by decide +kernel
theorem dL_law__1736 : decode cL_law_ 1736 = .ok (.iconst 1, 1) := by decide +kernel
theorem dL_law__1737 : decode cL_law_ 1737 = .ok (.goto 4, 3) := by decide +kernel
theorem dL_law__1740 : decode cL_law_ 1740 = .ok (.iconst 0, 1) := by decide +kernel
theorem dL_law__1741 : decode cL_law_ 1741 = .ok (.invokevirtual 249, 3) := by decide +kernel
theorem dL_law__1744 : decode cL_law_ 1744 = .ok (.istore 6, 2) := by decide +kernel
theorem dL_law__1746 : decode cL_law_ 1746 = .ok (.aload_n 2, 1) := by decide +kernel
theorem dL_law__1747 : decode cL_law_ 1747 = .ok (.invokevirtual 156, 3) := by decide +kernel
theorem dL_law__1750 : decode cL_law_ 1750 = .ok (.iload 5, 2) := by decide +kernel
theorem dL_law__1752 : decode cL_law_ 1752 = .ok (.if_icmp .eq 5, 3) := by decide +kernel
theorem dL_law__1755 : decode cL_law_ 1755 = .ok (.iconst 0, 1) := by decide +kernel
theorem dL_law__1756 : decode cL_law_ 1756 = .ok (.ireturn, 1) := by decide +kernel
theorem dL_law__1757 : decode cL_law_ 1757 = .ok (.iload 5, 2) := by decide +kernel
theorem dL_law__1759 : decode cL_law_ 1759 = .ok (.ifCond .ne 15, 3) := by decide +kernel
theorem dL_law__1762 : decode cL_law_ 1762 = .ok (.aload_n 3, 1) := by decide +kernel
theorem dL_law__1763 : decode cL_law_ 1763 = .ok (.iconst 0, 1) := by decide +kernel
theorem dL_law__1764 : decode cL_law_ 1764 = .ok (.laload, 1) := by decide +kernel
theorem dL_law__1765 : decode cL_law_ 1765 = .ok (.iload 6, 2) := by decide +kernel
theorem dL_law__1767 : decode cL_law_ 1767 = .ok (.i2l, 1) := by decide +kernel
theorem dL_law__1768 : decode cL_law_ 1768 = .ok (.lcmp, 1) := by decide +kernel
theorem dL_law__1769 : decode cL_law_ 1769 = .ok (.ifCond .eq 5, 3) := by decide +kernel
theorem dL_law__1772 : decode cL_law_ 1772 = .ok (.iconst 0, 1) := by decide +kernel
theorem dL_law__1773 : decode cL_law_ 1773 = .ok (.ireturn, 1) := by decide +kernel
theorem dL_law__1774 : decode cL_law_ 1774 = .ok (.goto 1267, 3) := by decide +kernel
theorem dL_law__1777 : decode cL_law_ 1777 = .ok (.aload_n 1, 1) := by decide +kernel
theorem dL_law__1778 : decode cL_law_ 1778 = .ok (.invokevirtual 250, 3) := by decide +kernel
theorem dL_law__1781 : decode cL_law_ 1781 = .ok (.aload_n 2, 1) := by decide +kernel
theorem dL_law__1782 : decode cL_law_ 1782 = .ok (.invokevirtual 253, 3) := by decide +kernel
theorem dL_law__1785 : decode cL_law_ 1785 = .ok (.if_icmp .eq 1256, 3) := by decide +kernel
theorem dL_law__1788 : decode cL_law_ 1788 = .ok (.iconst 0, 1) := by decide +kernel
theorem dL_law__1789 : decode cL_law_ 1789 = .ok (.ireturn, 1) := by decide +kernel
theorem dL_law__1790 : decode cL_law_ 1790 = .ok (.aload_n 1, 1) := by decide +kernel
theorem dL_law__1791 : decode cL_law_ 1791 = .ok (.aload_n 0, 1) := by decide +kernel
theorem dL_law__1792 : decode cL_law_ 1792 = .ok (.iload 4, 2) := by decide +kernel
theorem dL_law__1794 : decode cL_law_ 1794 = .ok (.iconst 1, 1) := by decide +kernel
theorem dL_law__1795 : decode cL_law_ 1795 = .ok (.iadd, 1) := by decide +kernel
theorem dL_law__1796 : decode cL_law_ 1796 = .ok (.iaload, 1) := by decide +kernel
theorem dL_law__1797 : decode cL_law_ 1797 = .ok (.ifCond .eq 7, 3) := by decide +kernel
theorem dL_law__1800 : decode cL_law_ 1800 = .ok (.iconst 1, 1) := by decide +kernel
theorem dL_law__1801 : decode cL_law_ 1801 = .ok (.goto 4, 3) := by decide +kernel
theorem dL_law__1804 : decode cL_law_ 1804 = .ok (.iconst 0, 1) := by decide +kernel
theorem dL_law__1805 : decode cL_law_ 1805 = .ok (.aload_n 3, 1) := by decide +kernel
theorem dL_law__1806 : decode cL_law_ 1806 = .ok (.invokestatic 254, 3) := by decide +kernel
theorem dL_law__1809 : decode cL_law_ 1809 = .ok (.istore 5, 2) := by decide +kernel
theorem dL_law__1811 : decode cL_law_ 1811 = .ok (.aload_n 2, 1) := by decide +kernel
theorem dL_law__1812 : decode cL_law_ 1812 = .ok (.aload_n 0, 1) := by decide +kernel
theorem dL_law__1813 : decode cL_law_ 1813 = .ok (.iload 4, 2) := by decide +kernel
theorem dL_law__1815 : decode cL_law_ 1815 = .ok (.iconst 1, 1) := by decide +kernel
theorem dL_law__1816 : decode cL_law_ 1816 = .ok (.iadd, 1) := by decide +kernel
theorem dL_law__1817 : decode cL_law_ 1817 = .ok (.iaload, 1) := by decide +kernel
theorem dL_law__1818 : decode cL_law_ 1818 = .ok (.ifCond .eq 7, 3) := by decide +kernel
theorem dL_law__1821 : decode cL_law_ 1821 = .ok (.iconst 1, 1) := by decide +kernel
theorem dL_law__1822 : decode cL_law_ 1822 = .ok (.goto 4, 3) := by decide +kernel
theorem dL_law__1825 : decode cL_law_ 1825 = .ok (.iconst 0, 1) := by decide +kernel
theorem dL_law__1826 : decode cL_law_ 1826 = .ok (.invokevirtual 257, 3) := by decide +kernel
theorem dL_law__1829 : decode cL_law_ 1829 = .ok (.istore 6, 2) := by decide +kernel
theorem dL_law__1831 : decode cL_law_ 1831 = .ok (.aload_n 2, 1) := by decide +kernel
theorem dL_law__1832 : decode cL_law_ 1832 = .ok (.invokevirtual 156, 3) := by decide +kernel
theorem dL_law__1835 : decode cL_law_ 1835 = .ok (.iload 5, 2) := by decide +kernel
theorem dL_law__1837 : decode cL_law_ 1837 = .ok (.if_icmp .eq 5, 3) := by decide +kernel
theorem dL_law__1840 : decode cL_law_ 1840 = .ok (.iconst 0, 1) := by decide +kernel
theorem dL_law__1841 : decode cL_law_ 1841 = .ok (.ireturn, 1) := by decide +kernel
theorem dL_law__1842 : decode cL_law_ 1842 = .ok (.iload 5, 2) := by decide +kernel
theorem dL_law__1844 : decode cL_law_ 1844 = .ok (.ifCond .ne 15, 3) := by decide +kernel
theorem dL_law__1847 : decode cL_law_ 1847 = .ok (.aload_n 3, 1) := by decide +kernel
theorem dL_law__1848 : decode cL_law_ 1848 = .ok (.iconst 0, 1) := by decide +kernel
theorem dL_law__1849 : decode cL_law_ 1849 = .ok (.laload, 1) := by decide +kernel
theorem dL_law__1850 : decode cL_law_ 1850 = .ok (.iload 6, 2) := by decide +kernel
theorem dL_law__1852 : decode cL_law_ 1852 = .ok (.i2l, 1) := by decide +kernel
theorem dL_law__1853 : decode cL_law_ 1853 = .ok (.lcmp, 1) := by decide +kernel
theorem dL_law__1854 : decode cL_law_ 1854 = .ok (.ifCond .eq 5, 3) := by decide +kernel
theorem dL_law__1857 : decode cL_law_ 1857 = .ok (.iconst 0, 1) := by decide +kernel
theorem dL_law__1858 : decode cL_law_ 1858 = .ok (.ireturn, 1) := by decide +kernel
theorem dL_law__1859 : decode cL_law_ 1859 = .ok (.goto 1182, 3) := by decide +kernel
theorem dL_law__1862 : decode cL_law_ 1862 = .ok (.aload_n 1, 1) := by decide +kernel
theorem dL_law__1863 : decode cL_law_ 1863 = .ok (.aload_n 3, 1) := by decide +kernel
theorem dL_law__1864 : decode cL_law_ 1864 = .ok (.invokestatic 258, 3) := by decide +kernel
theorem dL_law__1867 : decode cL_law_ 1867 = .ok (.istore 5, 2) := by decide +kernel
theorem dL_law__1869 : decode cL_law_ 1869 = .ok (.aload_n 2, 1) := by decide +kernel
theorem dL_law__1870 : decode cL_law_ 1870 = .ok (.invokevirtual 260, 3) := by decide +kernel
theorem dL_law__1873 : decode cL_law_ 1873 = .ok (.istore 6, 2) := by decide +kernel
theorem dL_law__1875 : decode cL_law_ 1875 = .ok (.aload_n 2, 1) := by decide +kernel
theorem dL_law__1876 : decode cL_law_ 1876 = .ok (.invokevirtual 156, 3) := by decide +kernel
theorem dL_law__1879 : decode cL_law_ 1879 = .ok (.iload 5, 2) := by decide +kernel
theorem dL_law__1881 : decode cL_law_ 1881 = .ok (.if_icmp .eq 5, 3) := by decide +kernel
theorem dL_law__1884 : decode cL_law_ 1884 = .ok (.iconst 0, 1) := by decide +kernel
theorem dL_law__1885 : decode cL_law_ 1885 = .ok (.ireturn, 1) := by decide +kernel
theorem dL_law__1886 : decode cL_law_ 1886 = .ok (.iload 5, 2) := by decide +kernel
theorem dL_law__1888 : decode cL_law_ 1888 = .ok (.ifCond .ne 15, 3) := by decide +kernel
theorem dL_law__1891 : decode cL_law_ 1891 = .ok (.aload_n 3, 1) := by decide +kernel
theorem dL_law__1892 : decode cL_law_ 1892 = .ok (.iconst 0, 1) := by decide +kernel
theorem dL_law__1893 : decode cL_law_ 1893 = .ok (.laload, 1) := by decide +kernel
theorem dL_law__1894 : decode cL_law_ 1894 = .ok (.iload 6, 2) := by decide +kernel
theorem dL_law__1896 : decode cL_law_ 1896 = .ok (.i2l, 1) := by decide +kernel
theorem dL_law__1897 : decode cL_law_ 1897 = .ok (.lcmp, 1) := by decide +kernel
theorem dL_law__1898 : decode cL_law_ 1898 = .ok (.ifCond .eq 5, 3) := by decide +kernel
theorem dL_law__1901 : decode cL_law_ 1901 = .ok (.iconst 0, 1) := by decide +kernel
theorem dL_law__1902 : decode cL_law_ 1902 = .ok (.ireturn, 1) := by decide +kernel
theorem dL_law__1903 : decode cL_law_ 1903 = .ok (.goto 1138, 3) := by decide +kernel
theorem dL_law__1906 : decode cL_law_ 1906 = .ok (.aload_n 1, 1) := by decide +kernel
theorem dL_law__1907 : decode cL_law_ 1907 = .ok (.aload_n 0, 1) := by decide +kernel
theorem dL_law__1908 : decode cL_law_ 1908 = .ok (.iload 4, 2) := by decide +kernel
theorem dL_law__1910 : decode cL_law_ 1910 = .ok (.iconst 1, 1) := by decide +kernel
theorem dL_law__1911 : decode cL_law_ 1911 = .ok (.iadd, 1) := by decide +kernel
theorem dL_law__1912 : decode cL_law_ 1912 = .ok (.iaload, 1) := by decide +kernel
theorem dL_law__1913 : decode cL_law_ 1913 = .ok (.ifCond .eq 7, 3) := by decide +kernel
theorem dL_law__1916 : decode cL_law_ 1916 = .ok (.iconst 1, 1) := by decide +kernel
theorem dL_law__1917 : decode cL_law_ 1917 = .ok (.goto 4, 3) := by decide +kernel
theorem dL_law__1920 : decode cL_law_ 1920 = .ok (.iconst 0, 1) := by decide +kernel
theorem dL_law__1921 : decode cL_law_ 1921 = .ok (.aload_n 3, 1) := by decide +kernel
theorem dL_law__1922 : decode cL_law_ 1922 = .ok (.invokestatic 261, 3) := by decide +kernel
theorem dL_law__1925 : decode cL_law_ 1925 = .ok (.istore 5, 2) := by decide +kernel
theorem dL_law__1927 : decode cL_law_ 1927 = .ok (.aload_n 2, 1) := by decide +kernel
theorem dL_law__1928 : decode cL_law_ 1928 = .ok (.aload_n 0, 1) := by decide +kernel
theorem dL_law__1929 : decode cL_law_ 1929 = .ok (.iload 4, 2) := by decide +kernel
theorem dL_law__1931 : decode cL_law_ 1931 = .ok (.iconst 1, 1) := by decide +kernel
theorem dL_law__1932 : decode cL_law_ 1932 = .ok (.iadd, 1) := by decide +kernel
theorem dL_law__1933 : decode cL_law_ 1933 = .ok (.iaload, 1) := by decide +kernel
theorem dL_law__1934 : decode cL_law_ 1934 = .ok (.ifCond .eq 7, 3) := by decide +kernel
theorem dL_law__1937 : decode cL_law_ 1937 = .ok (.iconst 1, 1) := by decide +kernel
theorem dL_law__1938 : decode cL_law_ 1938 = .ok (.goto 4, 3) := by decide +kernel
theorem dL_law__1941 : decode cL_law_ 1941 = .ok (.iconst 0, 1) := by decide +kernel
theorem dL_law__1942 : decode cL_law_ 1942 = .ok (.invokevirtual 263, 3) := by decide +kernel
theorem dL_law__1945 : decode cL_law_ 1945 = .ok (.istore 6, 2) := by decide +kernel
theorem dL_law__1947 : decode cL_law_ 1947 = .ok (.aload_n 2, 1) := by decide +kernel
theorem dL_law__1948 : decode cL_law_ 1948 = .ok (.invokevirtual 156, 3) := by decide +kernel
theorem dL_law__1951 : decode cL_law_ 1951 = .ok (.iload 5, 2) := by decide +kernel
theorem dL_law__1953 : decode cL_law_ 1953 = .ok (.if_icmp .eq 5, 3) := by decide +kernel
theorem dL_law__1956 : decode cL_law_ 1956 = .ok (.iconst 0, 1) := by decide +kernel
theorem dL_law__1957 : decode cL_law_ 1957 = .ok (.ireturn, 1) := by decide +kernel
theorem dL_law__1958 : decode cL_law_ 1958 = .ok (.iload 5, 2) := by decide +kernel
theorem dL_law__1960 : decode cL_law_ 1960 = .ok (.ifCond .ne 15, 3) := by decide +kernel
theorem dL_law__1963 : decode cL_law_ 1963 = .ok (.aload_n 3, 1) := by decide +kernel
theorem dL_law__1964 : decode cL_law_ 1964 = .ok (.iconst 0, 1) := by decide +kernel
theorem dL_law__1965 : decode cL_law_ 1965 = .ok (.laload, 1) := by decide +kernel
theorem dL_law__1966 : decode cL_law_ 1966 = .ok (.iload 6, 2) := by decide +kernel
theorem dL_law__1968 : decode cL_law_ 1968 = .ok (.i2l, 1) := by decide +kernel
theorem dL_law__1969 : decode cL_law_ 1969 = .ok (.lcmp, 1) := by decide +kernel
theorem dL_law__1970 : decode cL_law_ 1970 = .ok (.ifCond .eq 5, 3) := by decide +kernel
theorem dL_law__1973 : decode cL_law_ 1973 = .ok (.iconst 0, 1) := by decide +kernel
theorem dL_law__1974 : decode cL_law_ 1974 = .ok (.ireturn, 1) := by decide +kernel
theorem dL_law__1975 : decode cL_law_ 1975 = .ok (.goto 1066, 3) := by decide +kernel
theorem dL_law__1978 : decode cL_law_ 1978 = .ok (.aload_n 1, 1) := by decide +kernel
theorem dL_law__1979 : decode cL_law_ 1979 = .ok (.aload_n 3, 1) := by decide +kernel
theorem dL_law__1980 : decode cL_law_ 1980 = .ok (.invokestatic 264, 3) := by decide +kernel
theorem dL_law__1983 : decode cL_law_ 1983 = .ok (.istore 5, 2) := by decide +kernel
theorem dL_law__1985 : decode cL_law_ 1985 = .ok (.aload_n 2, 1) := by decide +kernel
theorem dL_law__1986 : decode cL_law_ 1986 = .ok (.invokevirtual 266, 3) := by decide +kernel
theorem dL_law__1989 : decode cL_law_ 1989 = .ok (.istore 6, 2) := by decide +kernel
theorem dL_law__1991 : decode cL_law_ 1991 = .ok (.aload_n 2, 1) := by decide +kernel
theorem dL_law__1992 : decode cL_law_ 1992 = .ok (.invokevirtual 156, 3) := by decide +kernel
theorem dL_law__1995 : decode cL_law_ 1995 = .ok (.iload 5, 2) := by decide +kernel
theorem dL_law__1997 : decode cL_law_ 1997 = .ok (.if_icmp .eq 5, 3) := by decide +kernel
theorem dL_law__2000 : decode cL_law_ 2000 = .ok (.iconst 0, 1) := by decide +kernel
theorem dL_law__2001 : decode cL_law_ 2001 = .ok (.ireturn, 1) := by decide +kernel
theorem dL_law__2002 : decode cL_law_ 2002 = .ok (.iload 5, 2) := by decide +kernel
theorem dL_law__2004 : decode cL_law_ 2004 = .ok (.ifCond .ne 15, 3) := by decide +kernel
theorem dL_law__2007 : decode cL_law_ 2007 = .ok (.aload_n 3, 1) := by decide +kernel
theorem dL_law__2008 : decode cL_law_ 2008 = .ok (.iconst 0, 1) := by decide +kernel
theorem dL_law__2009 : decode cL_law_ 2009 = .ok (.laload, 1) := by decide +kernel
theorem dL_law__2010 : decode cL_law_ 2010 = .ok (.iload 6, 2) := by decide +kernel
theorem dL_law__2012 : decode cL_law_ 2012 = .ok (.i2l, 1) := by decide +kernel
theorem dL_law__2013 : decode cL_law_ 2013 = .ok (.lcmp, 1) := by decide +kernel
theorem dL_law__2014 : decode cL_law_ 2014 = .ok (.ifCond .eq 5, 3) := by decide +kernel
theorem dL_law__2017 : decode cL_law_ 2017 = .ok (.iconst 0, 1) := by decide +kernel
theorem dL_law__2018 : decode cL_law_ 2018 = .ok (.ireturn, 1) := by decide +kernel
theorem dL_law__2019 : decode cL_law_ 2019 = .ok (.goto 1022, 3) := by decide +kernel
theorem dL_law__2022 : decode cL_law_ 2022 = .ok (.aload_n 1, 1) := by decide +kernel
theorem dL_law__2023 : decode cL_law_ 2023 = .ok (.aload_n 0, 1) := by decide +kernel
theorem dL_law__2024 : decode cL_law_ 2024 = .ok (.iload 4, 2) := by decide +kernel
theorem dL_law__2026 : decode cL_law_ 2026 = .ok (.iconst 1, 1) := by decide +kernel
theorem dL_law__2027 : decode cL_law_ 2027 = .ok (.iadd, 1) := by decide +kernel
theorem dL_law__2028 : decode cL_law_ 2028 = .ok (.iaload, 1) := by decide +kernel
theorem dL_law__2029 : decode cL_law_ 2029 = .ok (.aload_n 0, 1) := by decide +kernel
theorem dL_law__2030 : decode cL_law_ 2030 = .ok (.iload 4, 2) := by decide +kernel
theorem dL_law__2032 : decode cL_law_ 2032 = .ok (.iconst 2, 1) := by decide +kernel
theorem dL_law__2033 : decode cL_law_ 2033 = .ok (.iadd, 1) := by decide +kernel
theorem dL_law__2034 : decode cL_law_ 2034 = .ok (.iaload, 1) := by decide +kernel
theorem dL_law__2035 : decode cL_law_ 2035 = .ok (.aload_n 3, 1) := by decide +kernel
theorem dL_law__2036 : decode cL_law_ 2036 = .ok (.invokestatic 267, 3) := by decide +kernel
theorem dL_law__2039 : decode cL_law_ 2039 = .ok (.istore 5, 2) := by decide +kernel
theorem dL_law__2041 : decode cL_law_ 2041 = .ok (.aload_n 2, 1) := by decide +kernel
theorem dL_law__2042 : decode cL_law_ 2042 = .ok (.aload_n 0, 1) := by decide +kernel
theorem dL_law__2043 : decode cL_law_ 2043 = .ok (.iload 4, 2) := by decide +kernel
theorem dL_law__2045 : decode cL_law_ 2045 = .ok (.iconst 1, 1) := by decide +kernel
theorem dL_law__2046 : decode cL_law_ 2046 = .ok (.iadd, 1) := by decide +kernel
theorem dL_law__2047 : decode cL_law_ 2047 = .ok (.iaload, 1) := by decide +kernel
theorem dL_law__2048 : decode cL_law_ 2048 = .ok (.aload_n 0, 1) := by decide +kernel
theorem dL_law__2049 : decode cL_law_ 2049 = .ok (.iload 4, 2) := by decide +kernel
theorem dL_law__2051 : decode cL_law_ 2051 = .ok (.iconst 2, 1) := by decide +kernel
theorem dL_law__2052 : decode cL_law_ 2052 = .ok (.iadd, 1) := by decide +kernel
theorem dL_law__2053 : decode cL_law_ 2053 = .ok (.iaload, 1) := by decide +kernel
theorem dL_law__2054 : decode cL_law_ 2054 = .ok (.invokevirtual 269, 3) := by decide +kernel
theorem dL_law__2057 : decode cL_law_ 2057 = .ok (.istore 6, 2) := by decide +kernel
theorem dL_law__2059 : decode cL_law_ 2059 = .ok (.aload_n 2, 1) := by decide +kernel
theorem dL_law__2060 : decode cL_law_ 2060 = .ok (.invokevirtual 156, 3) := by decide +kernel
theorem dL_law__2063 : decode cL_law_ 2063 = .ok (.iload 5, 2) := by decide +kernel
theorem dL_law__2065 : decode cL_law_ 2065 = .ok (.if_icmp .eq 5, 3) := by decide +kernel
theorem dL_law__2068 : decode cL_law_ 2068 = .ok (.iconst 0, 1) := by decide +kernel
theorem dL_law__2069 : decode cL_law_ 2069 = .ok (.ireturn, 1) := by decide +kernel
theorem dL_law__2070 : decode cL_law_ 2070 = .ok (.iload 5, 2) := by decide +kernel
theorem dL_law__2072 : decode cL_law_ 2072 = .ok (.ifCond .ne 15, 3) := by decide +kernel
theorem dL_law__2075 : decode cL_law_ 2075 = .ok (.aload_n 3, 1) := by decide +kernel
theorem dL_law__2076 : decode cL_law_ 2076 = .ok (.iconst 0, 1) := by decide +kernel
theorem dL_law__2077 : decode cL_law_ 2077 = .ok (.laload, 1) := by decide +kernel
theorem dL_law__2078 : decode cL_law_ 2078 = .ok (.iload 6, 2) := by decide +kernel
theorem dL_law__2080 : decode cL_law_ 2080 = .ok (.i2l, 1) := by decide +kernel
theorem dL_law__2081 : decode cL_law_ 2081 = .ok (.lcmp, 1) := by decide +kernel
theorem dL_law__2082 : decode cL_law_ 2082 = .ok (.ifCond .eq 5, 3) := by decide +kernel
theorem dL_law__2085 : decode cL_law_ 2085 = .ok (.iconst 0, 1) := by decide +kernel
theorem dL_law__2086 : decode cL_law_ 2086 = .ok (.ireturn, 1) := by decide +kernel
theorem dL_law__2087 : decode cL_law_ 2087 = .ok (.goto 954, 3) := by decide +kernel
theorem dL_law__2090 : decode cL_law_ 2090 = .ok (.aload_n 1, 1) := by decide +kernel
theorem dL_law__2091 : decode cL_law_ 2091 = .ok (.aload_n 0, 1) := by decide +kernel
theorem dL_law__2092 : decode cL_law_ 2092 = .ok (.iload 4, 2) := by decide +kernel
theorem dL_law__2094 : decode cL_law_ 2094 = .ok (.iconst 1, 1) := by decide +kernel
theorem dL_law__2095 : decode cL_law_ 2095 = .ok (.iadd, 1) := by decide +kernel
theorem dL_law__2096 : decode cL_law_ 2096 = .ok (.iaload, 1) := by decide +kernel
theorem dL_law__2097 : decode cL_law_ 2097 = .ok (.aload_n 3, 1) := by decide +kernel
theorem dL_law__2098 : decode cL_law_ 2098 = .ok (.invokestatic 270, 3) := by decide +kernel
theorem dL_law__2101 : decode cL_law_ 2101 = .ok (.istore 5, 2) := by decide +kernel
theorem dL_law__2103 : decode cL_law_ 2103 = .ok (.aload_n 2, 1) := by decide +kernel
theorem dL_law__2104 : decode cL_law_ 2104 = .ok (.aload_n 0, 1) := by decide +kernel
theorem dL_law__2105 : decode cL_law_ 2105 = .ok (.iload 4, 2) := by decide +kernel
theorem dL_law__2107 : decode cL_law_ 2107 = .ok (.iconst 1, 1) := by decide +kernel
theorem dL_law__2108 : decode cL_law_ 2108 = .ok (.iadd, 1) := by decide +kernel
theorem dL_law__2109 : decode cL_law_ 2109 = .ok (.iaload, 1) := by decide +kernel
theorem dL_law__2110 : decode cL_law_ 2110 = .ok (.invokevirtual 272, 3) := by decide +kernel
theorem dL_law__2113 : decode cL_law_ 2113 = .ok (.istore 6, 2) := by decide +kernel
theorem dL_law__2115 : decode cL_law_ 2115 = .ok (.aload_n 2, 1) := by decide +kernel
theorem dL_law__2116 : decode cL_law_ 2116 = .ok (.invokevirtual 156, 3) := by decide +kernel
theorem dL_law__2119 : decode cL_law_ 2119 = .ok (.iload 5, 2) := by decide +kernel
theorem dL_law__2121 : decode cL_law_ 2121 = .ok (.if_icmp .eq 5, 3) := by decide +kernel
theorem dL_law__2124 : decode cL_law_ 2124 = .ok (.iconst 0, 1) := by decide +kernel
theorem dL_law__2125 : decode cL_law_ 2125 = .ok (.ireturn, 1) := by decide +kernel
theorem dL_law__2126 : decode cL_law_ 2126 = .ok (.iload 5, 2) := by decide +kernel
theorem dL_law__2128 : decode cL_law_ 2128 = .ok (.ifCond .ne 15, 3) := by decide +kernel
theorem dL_law__2131 : decode cL_law_ 2131 = .ok (.aload_n 3, 1) := by decide +kernel
theorem dL_law__2132 : decode cL_law_ 2132 = .ok (.iconst 0, 1) := by decide +kernel
theorem dL_law__2133 : decode cL_law_ 2133 = .ok (.laload, 1) := by decide +kernel
theorem dL_law__2134 : decode cL_law_ 2134 = .ok (.iload 6, 2) := by decide +kernel
theorem dL_law__2136 : decode cL_law_ 2136 = .ok (.i2l, 1) := by decide +kernel
theorem dL_law__2137 : decode cL_law_ 2137 = .ok (.lcmp, 1) := by decide +kernel
theorem dL_law__2138 : decode cL_law_ 2138 = .ok (.ifCond .eq 5, 3) := by decide +kernel
theorem dL_law__2141 : decode cL_law_ 2141 = .ok (.iconst 0, 1) := by decide +kernel
theorem dL_law__2142 : decode cL_law_ 2142 = .ok (.ireturn, 1) := by decide +kernel
theorem dL_law__2143 : decode cL_law_ 2143 = .ok (.goto 898, 3) := by decide +kernel
theorem dL_law__2146 : decode cL_law_ 2146 = .ok (.aload_n 1, 1) := by decide +kernel
theorem dL_law__2147 : decode cL_law_ 2147 = .ok (.aload_n 0, 1) := by decide +kernel
theorem dL_law__2148 : decode cL_law_ 2148 = .ok (.iload 4, 2) := by decide +kernel
theorem dL_law__2150 : decode cL_law_ 2150 = .ok (.iconst 1, 1) := by decide +kernel
theorem dL_law__2151 : decode cL_law_ 2151 = .ok (.iadd, 1) := by decide +kernel
theorem dL_law__2152 : decode cL_law_ 2152 = .ok (.iaload, 1) := by decide +kernel
theorem dL_law__2153 : decode cL_law_ 2153 = .ok (.aload_n 3, 1) := by decide +kernel
theorem dL_law__2154 : decode cL_law_ 2154 = .ok (.invokestatic 273, 3) := by decide +kernel
theorem dL_law__2157 : decode cL_law_ 2157 = .ok (.istore 5, 2) := by decide +kernel
theorem dL_law__2159 : decode cL_law_ 2159 = .ok (.aload_n 2, 1) := by decide +kernel
theorem dL_law__2160 : decode cL_law_ 2160 = .ok (.aload_n 0, 1) := by decide +kernel
theorem dL_law__2161 : decode cL_law_ 2161 = .ok (.iload 4, 2) := by decide +kernel
theorem dL_law__2163 : decode cL_law_ 2163 = .ok (.iconst 1, 1) := by decide +kernel
theorem dL_law__2164 : decode cL_law_ 2164 = .ok (.iadd, 1) := by decide +kernel
theorem dL_law__2165 : decode cL_law_ 2165 = .ok (.iaload, 1) := by decide +kernel
theorem dL_law__2166 : decode cL_law_ 2166 = .ok (.invokevirtual 275, 3) := by decide +kernel
theorem dL_law__2169 : decode cL_law_ 2169 = .ok (.istore 6, 2) := by decide +kernel
theorem dL_law__2171 : decode cL_law_ 2171 = .ok (.aload_n 2, 1) := by decide +kernel
theorem dL_law__2172 : decode cL_law_ 2172 = .ok (.invokevirtual 156, 3) := by decide +kernel
theorem dL_law__2175 : decode cL_law_ 2175 = .ok (.iload 5, 2) := by decide +kernel
theorem dL_law__2177 : decode cL_law_ 2177 = .ok (.if_icmp .eq 5, 3) := by decide +kernel
theorem dL_law__2180 : decode cL_law_ 2180 = .ok (.iconst 0, 1) := by decide +kernel
theorem dL_law__2181 : decode cL_law_ 2181 = .ok (.ireturn, 1) := by decide +kernel
theorem dL_law__2182 : decode cL_law_ 2182 = .ok (.iload 5, 2) := by decide +kernel
theorem dL_law__2184 : decode cL_law_ 2184 = .ok (.ifCond .ne 15, 3) := by decide +kernel
theorem dL_law__2187 : decode cL_law_ 2187 = .ok (.aload_n 3, 1) := by decide +kernel
theorem dL_law__2188 : decode cL_law_ 2188 = .ok (.iconst 0, 1) := by decide +kernel
theorem dL_law__2189 : decode cL_law_ 2189 = .ok (.laload, 1) := by decide +kernel
theorem dL_law__2190 : decode cL_law_ 2190 = .ok (.iload 6, 2) := by decide +kernel
theorem dL_law__2192 : decode cL_law_ 2192 = .ok (.i2l, 1) := by decide +kernel
theorem dL_law__2193 : decode cL_law_ 2193 = .ok (.lcmp, 1) := by decide +kernel
theorem dL_law__2194 : decode cL_law_ 2194 = .ok (.ifCond .eq 5, 3) := by decide +kernel
theorem dL_law__2197 : decode cL_law_ 2197 = .ok (.iconst 0, 1) := by decide +kernel
theorem dL_law__2198 : decode cL_law_ 2198 = .ok (.ireturn, 1) := by decide +kernel
theorem dL_law__2199 : decode cL_law_ 2199 = .ok (.goto 842, 3) := by decide +kernel
theorem dL_law__2202 : decode cL_law_ 2202 = .ok (.aload_n 1, 1) := by decide +kernel
theorem dL_law__2203 : decode cL_law_ 2203 = .ok (.invokevirtual 276, 3) := by decide +kernel
theorem dL_law__2206 : decode cL_law_ 2206 = .ok (.aload_n 2, 1) := by decide +kernel
theorem dL_law__2207 : decode cL_law_ 2207 = .ok (.invokevirtual 279, 3) := by decide +kernel
theorem dL_law__2210 : decode cL_law_ 2210 = .ok (.if_icmp .eq 831, 3) := by decide +kernel
theorem dL_law__2213 : decode cL_law_ 2213 = .ok (.iconst 0, 1) := by decide +kernel
theorem dL_law__2214 : decode cL_law_ 2214 = .ok (.ireturn, 1) := by decide +kernel
theorem dL_law__2215 : decode cL_law_ 2215 = .ok (.aload_n 1, 1) := by decide +kernel
theorem dL_law__2216 : decode cL_law_ 2216 = .ok (.aload_n 0, 1) := by decide +kernel
theorem dL_law__2217 : decode cL_law_ 2217 = .ok (.iload 4, 2) := by decide +kernel
theorem dL_law__2219 : decode cL_law_ 2219 = .ok (.iconst 1, 1) := by decide +kernel
theorem dL_law__2220 : decode cL_law_ 2220 = .ok (.iadd, 1) := by decide +kernel
theorem dL_law__2221 : decode cL_law_ 2221 = .ok (.iaload, 1) := by decide +kernel
theorem dL_law__2222 : decode cL_law_ 2222 = .ok (.invokevirtual 280, 3) := by decide +kernel
theorem dL_law__2225 : decode cL_law_ 2225 = .ok (.aload_n 2, 1) := by decide +kernel
theorem dL_law__2226 : decode cL_law_ 2226 = .ok (.aload_n 0, 1) := by decide +kernel
theorem dL_law__2227 : decode cL_law_ 2227 = .ok (.iload 4, 2) := by decide +kernel
theorem dL_law__2229 : decode cL_law_ 2229 = .ok (.iconst 1, 1) := by decide +kernel
theorem dL_law__2230 : decode cL_law_ 2230 = .ok (.iadd, 1) := by decide +kernel
theorem dL_law__2231 : decode cL_law_ 2231 = .ok (.iaload, 1) := by decide +kernel
theorem dL_law__2232 : decode cL_law_ 2232 = .ok (.invokevirtual 283, 3) := by decide +kernel
theorem dL_law__2235 : decode cL_law_ 2235 = .ok (.if_icmp .eq 806, 3) := by decide +kernel
theorem dL_law__2238 : decode cL_law_ 2238 = .ok (.iconst 0, 1) := by decide +kernel
theorem dL_law__2239 : decode cL_law_ 2239 = .ok (.ireturn, 1) := by decide +kernel
theorem dL_law__2240 : decode cL_law_ 2240 = .ok (.aload_n 1, 1) := by decide +kernel
theorem dL_law__2241 : decode cL_law_ 2241 = .ok (.aload_n 0, 1) := by decide +kernel
theorem dL_law__2242 : decode cL_law_ 2242 = .ok (.iload 4, 2) := by decide +kernel
theorem dL_law__2244 : decode cL_law_ 2244 = .ok (.iconst 1, 1) := by decide +kernel
theorem dL_law__2245 : decode cL_law_ 2245 = .ok (.iadd, 1) := by decide +kernel
theorem dL_law__2246 : decode cL_law_ 2246 = .ok (.iaload, 1) := by decide +kernel
theorem dL_law__2247 : decode cL_law_ 2247 = .ok (.aload_n 3, 1) := by decide +kernel
theorem dL_law__2248 : decode cL_law_ 2248 = .ok (.invokestatic 284, 3) := by decide +kernel
theorem dL_law__2251 : decode cL_law_ 2251 = .ok (.istore 5, 2) := by decide +kernel
theorem dL_law__2253 : decode cL_law_ 2253 = .ok (.aload_n 2, 1) := by decide +kernel
theorem dL_law__2254 : decode cL_law_ 2254 = .ok (.aload_n 0, 1) := by decide +kernel
theorem dL_law__2255 : decode cL_law_ 2255 = .ok (.iload 4, 2) := by decide +kernel
theorem dL_law__2257 : decode cL_law_ 2257 = .ok (.iconst 1, 1) := by decide +kernel
theorem dL_law__2258 : decode cL_law_ 2258 = .ok (.iadd, 1) := by decide +kernel
theorem dL_law__2259 : decode cL_law_ 2259 = .ok (.iaload, 1) := by decide +kernel
theorem dL_law__2260 : decode cL_law_ 2260 = .ok (.invokevirtual 286, 3) := by decide +kernel
theorem dL_law__2263 : decode cL_law_ 2263 = .ok (.istore 6, 2) := by decide +kernel
theorem dL_law__2265 : decode cL_law_ 2265 = .ok (.aload_n 2, 1) := by decide +kernel
theorem dL_law__2266 : decode cL_law_ 2266 = .ok (.invokevirtual 156, 3) := by decide +kernel
theorem dL_law__2269 : decode cL_law_ 2269 = .ok (.iload 5, 2) := by decide +kernel
theorem dL_law__2271 : decode cL_law_ 2271 = .ok (.if_icmp .eq 5, 3) := by decide +kernel
theorem dL_law__2274 : decode cL_law_ 2274 = .ok (.iconst 0, 1) := by decide +kernel
theorem dL_law__2275 : decode cL_law_ 2275 = .ok (.ireturn, 1) := by decide +kernel
theorem dL_law__2276 : decode cL_law_ 2276 = .ok (.iload 5, 2) := by decide +kernel
theorem dL_law__2278 : decode cL_law_ 2278 = .ok (.ifCond .ne 15, 3) := by decide +kernel
theorem dL_law__2281 : decode cL_law_ 2281 = .ok (.aload_n 3, 1) := by decide +kernel
theorem dL_law__2282 : decode cL_law_ 2282 = .ok (.iconst 0, 1) := by decide +kernel
theorem dL_law__2283 : decode cL_law_ 2283 = .ok (.laload, 1) := by decide +kernel
theorem dL_law__2284 : decode cL_law_ 2284 = .ok (.iload 6, 2) := by decide +kernel
theorem dL_law__2286 : decode cL_law_ 2286 = .ok (.i2l, 1) := by decide +kernel
theorem dL_law__2287 : decode cL_law_ 2287 = .ok (.lcmp, 1) := by decide +kernel
theorem dL_law__2288 : decode cL_law_ 2288 = .ok (.ifCond .eq 5, 3) := by decide +kernel
theorem dL_law__2291 : decode cL_law_ 2291 = .ok (.iconst 0, 1) := by decide +kernel
theorem dL_law__2292 : decode cL_law_ 2292 = .ok (.ireturn, 1) := by decide +kernel
theorem dL_law__2293 : decode cL_law_ 2293 = .ok (.goto 748, 3) := by decide +kernel
theorem dL_law__2296 : decode cL_law_ 2296 = .ok (.aload_n 1, 1) := by decide +kernel
theorem dL_law__2297 : decode cL_law_ 2297 = .ok (.invokevirtual 287, 3) := by decide +kernel
theorem dL_law__2300 : decode cL_law_ 2300 = .ok (.aload_n 2, 1) := by decide +kernel
theorem dL_law__2301 : decode cL_law_ 2301 = .ok (.invokevirtual 290, 3) := by decide +kernel
theorem dL_law__2304 : decode cL_law_ 2304 = .ok (.if_icmp .eq 737, 3) := by decide +kernel
theorem dL_law__2307 : decode cL_law_ 2307 = .ok (.iconst 0, 1) := by decide +kernel
theorem dL_law__2308 : decode cL_law_ 2308 = .ok (.ireturn, 1) := by decide +kernel
theorem dL_law__2309 : decode cL_law_ 2309 = .ok (.aload_n 1, 1) := by decide +kernel
theorem dL_law__2310 : decode cL_law_ 2310 = .ok (.aload_n 0, 1) := by decide +kernel
theorem dL_law__2311 : decode cL_law_ 2311 = .ok (.iload 4, 2) := by decide +kernel
theorem dL_law__2313 : decode cL_law_ 2313 = .ok (.iconst 1, 1) := by decide +kernel
theorem dL_law__2314 : decode cL_law_ 2314 = .ok (.iadd, 1) := by decide +kernel
theorem dL_law__2315 : decode cL_law_ 2315 = .ok (.iaload, 1) := by decide +kernel
theorem dL_law__2316 : decode cL_law_ 2316 = .ok (.aload_n 3, 1) := by decide +kernel
theorem dL_law__2317 : decode cL_law_ 2317 = .ok (.invokestatic 291, 3) := by decide +kernel
theorem dL_law__2320 : decode cL_law_ 2320 = .ok (.istore 5, 2) := by decide +kernel
theorem dL_law__2322 : decode cL_law_ 2322 = .ok (.aload_n 2, 1) := by decide +kernel
theorem dL_law__2323 : decode cL_law_ 2323 = .ok (.aload_n 0, 1) := by decide +kernel
theorem dL_law__2324 : decode cL_law_ 2324 = .ok (.iload 4, 2) := by decide +kernel
theorem dL_law__2326 : decode cL_law_ 2326 = .ok (.iconst 1, 1) := by decide +kernel
theorem dL_law__2327 : decode cL_law_ 2327 = .ok (.iadd, 1) := by decide +kernel
theorem dL_law__2328 : decode cL_law_ 2328 = .ok (.iaload, 1) := by decide +kernel
theorem dL_law__2329 : decode cL_law_ 2329 = .ok (.invokevirtual 293, 3) := by decide +kernel
theorem dL_law__2332 : decode cL_law_ 2332 = .ok (.istore 6, 2) := by decide +kernel
theorem dL_law__2334 : decode cL_law_ 2334 = .ok (.aload_n 2, 1) := by decide +kernel
theorem dL_law__2335 : decode cL_law_ 2335 = .ok (.invokevirtual 156, 3) := by decide +kernel
theorem dL_law__2338 : decode cL_law_ 2338 = .ok (.iload 5, 2) := by decide +kernel
theorem dL_law__2340 : decode cL_law_ 2340 = .ok (.if_icmp .eq 5, 3) := by decide +kernel
theorem dL_law__2343 : decode cL_law_ 2343 = .ok (.iconst 0, 1) := by decide +kernel
theorem dL_law__2344 : decode cL_law_ 2344 = .ok (.ireturn, 1) := by decide +kernel
theorem dL_law__2345 : decode cL_law_ 2345 = .ok (.iload 5, 2) := by decide +kernel
theorem dL_law__2347 : decode cL_law_ 2347 = .ok (.ifCond .ne 15, 3) := by decide +kernel
theorem dL_law__2350 : decode cL_law_ 2350 = .ok (.aload_n 3, 1) := by decide +kernel
theorem dL_law__2351 : decode cL_law_ 2351 = .ok (.iconst 0, 1) := by decide +kernel
theorem dL_law__2352 : decode cL_law_ 2352 = .ok (.laload, 1) := by decide +kernel
theorem dL_law__2353 : decode cL_law_ 2353 = .ok (.iload 6, 2) := by decide +kernel
theorem dL_law__2355 : decode cL_law_ 2355 = .ok (.i2l, 1) := by decide +kernel
theorem dL_law__2356 : decode cL_law_ 2356 = .ok (.lcmp, 1) := by decide +kernel
theorem dL_law__2357 : decode cL_law_ 2357 = .ok (.ifCond .eq 5, 3) := by decide +kernel
theorem dL_law__2360 : decode cL_law_ 2360 = .ok (.iconst 0, 1) := by decide +kernel
theorem dL_law__2361 : decode cL_law_ 2361 = .ok (.ireturn, 1) := by decide +kernel
theorem dL_law__2362 : decode cL_law_ 2362 = .ok (.goto 679, 3) := by decide +kernel
theorem dL_law__2365 : decode cL_law_ 2365 = .ok (.aload_n 1, 1) := by decide +kernel
theorem dL_law__2366 : decode cL_law_ 2366 = .ok (.aload_n 0, 1) := by decide +kernel
theorem dL_law__2367 : decode cL_law_ 2367 = .ok (.iload 4, 2) := by decide +kernel
theorem dL_law__2369 : decode cL_law_ 2369 = .ok (.iconst 1, 1) := by decide +kernel
theorem dL_law__2370 : decode cL_law_ 2370 = .ok (.iadd, 1) := by decide +kernel
theorem dL_law__2371 : decode cL_law_ 2371 = .ok (.iaload, 1) := by decide +kernel
theorem dL_law__2372 : decode cL_law_ 2372 = .ok (.aload_n 0, 1) := by decide +kernel
theorem dL_law__2373 : decode cL_law_ 2373 = .ok (.iload 4, 2) := by decide +kernel
theorem dL_law__2375 : decode cL_law_ 2375 = .ok (.iconst 2, 1) := by decide +kernel
theorem dL_law__2376 : decode cL_law_ 2376 = .ok (.iadd, 1) := by decide +kernel
theorem dL_law__2377 : decode cL_law_ 2377 = .ok (.iaload, 1) := by decide +kernel
theorem dL_law__2378 : decode cL_law_ 2378 = .ok (.aload_n 3, 1) := by decide +kernel
theorem dL_law__2379 : decode cL_law_ 2379 = .ok (.invokestatic 294, 3) := by decide +kernel
theorem dL_law__2382 : decode cL_law_ 2382 = .ok (.istore 5, 2) := by decide +kernel
theorem dL_law__2384 : decode cL_law_ 2384 = .ok (.aload_n 2, 1) := by decide +kernel
theorem dL_law__2385 : decode cL_law_ 2385 = .ok (.aload_n 0, 1) := by decide +kernel
theorem dL_law__2386 : decode cL_law_ 2386 = .ok (.iload 4, 2) := by decide +kernel
theorem dL_law__2388 : decode cL_law_ 2388 = .ok (.iconst 1, 1) := by decide +kernel
theorem dL_law__2389 : decode cL_law_ 2389 = .ok (.iadd, 1) := by decide +kernel
theorem dL_law__2390 : decode cL_law_ 2390 = .ok (.iaload, 1) := by decide +kernel
theorem dL_law__2391 : decode cL_law_ 2391 = .ok (.aload_n 0, 1) := by decide +kernel
theorem dL_law__2392 : decode cL_law_ 2392 = .ok (.iload 4, 2) := by decide +kernel
theorem dL_law__2394 : decode cL_law_ 2394 = .ok (.iconst 2, 1) := by decide +kernel
theorem dL_law__2395 : decode cL_law_ 2395 = .ok (.iadd, 1) := by decide +kernel
theorem dL_law__2396 : decode cL_law_ 2396 = .ok (.iaload, 1) := by decide +kernel
theorem dL_law__2397 : decode cL_law_ 2397 = .ok (.invokevirtual 296, 3) := by decide +kernel
theorem dL_law__2400 : decode cL_law_ 2400 = .ok (.istore 6, 2) := by decide +kernel
theorem dL_law__2402 : decode cL_law_ 2402 = .ok (.aload_n 2, 1) := by decide +kernel
theorem dL_law__2403 : decode cL_law_ 2403 = .ok (.invokevirtual 156, 3) := by decide +kernel
theorem dL_law__2406 : decode cL_law_ 2406 = .ok (.iload 5, 2) := by decide +kernel
theorem dL_law__2408 : decode cL_law_ 2408 = .ok (.if_icmp .eq 5, 3) := by decide +kernel
theorem dL_law__2411 : decode cL_law_ 2411 = .ok (.iconst 0, 1) := by decide +kernel
theorem dL_law__2412 : decode cL_law_ 2412 = .ok (.ireturn, 1) := by decide +kernel
theorem dL_law__2413 : decode cL_law_ 2413 = .ok (.iload 5, 2) := by decide +kernel
theorem dL_law__2415 : decode cL_law_ 2415 = .ok (.ifCond .ne 15, 3) := by decide +kernel
theorem dL_law__2418 : decode cL_law_ 2418 = .ok (.aload_n 3, 1) := by decide +kernel
theorem dL_law__2419 : decode cL_law_ 2419 = .ok (.iconst 0, 1) := by decide +kernel
theorem dL_law__2420 : decode cL_law_ 2420 = .ok (.laload, 1) := by decide +kernel
theorem dL_law__2421 : decode cL_law_ 2421 = .ok (.iload 6, 2) := by decide +kernel
theorem dL_law__2423 : decode cL_law_ 2423 = .ok (.i2l, 1) := by decide +kernel
theorem dL_law__2424 : decode cL_law_ 2424 = .ok (.lcmp, 1) := by decide +kernel
theorem dL_law__2425 : decode cL_law_ 2425 = .ok (.ifCond .eq 5, 3) := by decide +kernel
theorem dL_law__2428 : decode cL_law_ 2428 = .ok (.iconst 0, 1) := by decide +kernel
theorem dL_law__2429 : decode cL_law_ 2429 = .ok (.ireturn, 1) := by decide +kernel
theorem dL_law__2430 : decode cL_law_ 2430 = .ok (.goto 611, 3) := by decide +kernel
theorem dL_law__2433 : decode cL_law_ 2433 = .ok (.aload_n 1, 1) := by decide +kernel
theorem dL_law__2434 : decode cL_law_ 2434 = .ok (.invokevirtual 297, 3) := by decide +kernel
theorem dL_law__2437 : decode cL_law_ 2437 = .ok (.aload_n 2, 1) := by decide +kernel
theorem dL_law__2438 : decode cL_law_ 2438 = .ok (.invokevirtual 300, 3) := by decide +kernel
theorem dL_law__2441 : decode cL_law_ 2441 = .ok (.if_icmp .eq 600, 3) := by decide +kernel
theorem dL_law__2444 : decode cL_law_ 2444 = .ok (.iconst 0, 1) := by decide +kernel
theorem dL_law__2445 : decode cL_law_ 2445 = .ok (.ireturn, 1) := by decide +kernel
theorem dL_law__2446 : decode cL_law_ 2446 = .ok (.aload_n 1, 1) := by decide +kernel
theorem dL_law__2447 : decode cL_law_ 2447 = .ok (.invokevirtual 301, 3) := by decide +kernel
theorem dL_law__2450 : decode cL_law_ 2450 = .ok (.aload_n 2, 1) := by decide +kernel
theorem dL_law__2451 : decode cL_law_ 2451 = .ok (.invokevirtual 304, 3) := by decide +kernel
theorem dL_law__2454 : decode cL_law_ 2454 = .ok (.if_icmp .eq 587, 3) := by decide +kernel
theorem dL_law__2457 : decode cL_law_ 2457 = .ok (.iconst 0, 1) := by decide +kernel
theorem dL_law__2458 : decode cL_law_ 2458 = .ok (.ireturn, 1) := by decide +kernel
theorem dL_law__2459 : decode cL_law_ 2459 = .ok (.aload_n 1, 1) := by decide +kernel
theorem dL_law__2460 : decode cL_law_ 2460 = .ok (.invokevirtual 305, 3) := by decide +kernel
theorem dL_law__2463 : decode cL_law_ 2463 = .ok (.aload_n 2, 1) := by decide +kernel
theorem dL_law__2464 : decode cL_law_ 2464 = .ok (.invokevirtual 308, 3) := by decide +kernel
theorem dL_law__2467 : decode cL_law_ 2467 = .ok (.if_icmp .eq 574, 3) := by decide +kernel
theorem dL_law__2470 : decode cL_law_ 2470 = .ok (.iconst 0, 1) := by decide +kernel
theorem dL_law__2471 : decode cL_law_ 2471 = .ok (.ireturn, 1) := by decide +kernel
theorem dL_law__2472 : decode cL_law_ 2472 = .ok (.aload_n 1, 1) := by decide +kernel
theorem dL_law__2473 : decode cL_law_ 2473 = .ok (.aload_n 0, 1) := by decide +kernel
theorem dL_law__2474 : decode cL_law_ 2474 = .ok (.iload 4, 2) := by decide +kernel
theorem dL_law__2476 : decode cL_law_ 2476 = .ok (.iconst 1, 1) := by decide +kernel
theorem dL_law__2477 : decode cL_law_ 2477 = .ok (.iadd, 1) := by decide +kernel
theorem dL_law__2478 : decode cL_law_ 2478 = .ok (.iaload, 1) := by decide +kernel
theorem dL_law__2479 : decode cL_law_ 2479 = .ok (.aload_n 3, 1) := by decide +kernel
theorem dL_law__2480 : decode cL_law_ 2480 = .ok (.invokestatic 309, 3) := by decide +kernel
theorem dL_law__2483 : decode cL_law_ 2483 = .ok (.istore 5, 2) := by decide +kernel
theorem dL_law__2485 : decode cL_law_ 2485 = .ok (.aload_n 2, 1) := by decide +kernel
theorem dL_law__2486 : decode cL_law_ 2486 = .ok (.aload_n 0, 1) := by decide +kernel
theorem dL_law__2487 : decode cL_law_ 2487 = .ok (.iload 4, 2) := by decide +kernel
theorem dL_law__2489 : decode cL_law_ 2489 = .ok (.iconst 1, 1) := by decide +kernel
theorem dL_law__2490 : decode cL_law_ 2490 = .ok (.iadd, 1) := by decide +kernel
theorem dL_law__2491 : decode cL_law_ 2491 = .ok (.iaload, 1) := by decide +kernel
theorem dL_law__2492 : decode cL_law_ 2492 = .ok (.invokevirtual 311, 3) := by decide +kernel
theorem dL_law__2495 : decode cL_law_ 2495 = .ok (.istore 6, 2) := by decide +kernel
theorem dL_law__2497 : decode cL_law_ 2497 = .ok (.aload_n 2, 1) := by decide +kernel
theorem dL_law__2498 : decode cL_law_ 2498 = .ok (.invokevirtual 156, 3) := by decide +kernel
theorem dL_law__2501 : decode cL_law_ 2501 = .ok (.iload 5, 2) := by decide +kernel
theorem dL_law__2503 : decode cL_law_ 2503 = .ok (.if_icmp .eq 5, 3) := by decide +kernel
theorem dL_law__2506 : decode cL_law_ 2506 = .ok (.iconst 0, 1) := by decide +kernel
theorem dL_law__2507 : decode cL_law_ 2507 = .ok (.ireturn, 1) := by decide +kernel
theorem dL_law__2508 : decode cL_law_ 2508 = .ok (.iload 5, 2) := by decide +kernel
theorem dL_law__2510 : decode cL_law_ 2510 = .ok (.ifCond .ne 15, 3) := by decide +kernel
theorem dL_law__2513 : decode cL_law_ 2513 = .ok (.aload_n 3, 1) := by decide +kernel
theorem dL_law__2514 : decode cL_law_ 2514 = .ok (.iconst 0, 1) := by decide +kernel
theorem dL_law__2515 : decode cL_law_ 2515 = .ok (.laload, 1) := by decide +kernel
theorem dL_law__2516 : decode cL_law_ 2516 = .ok (.iload 6, 2) := by decide +kernel
theorem dL_law__2518 : decode cL_law_ 2518 = .ok (.i2l, 1) := by decide +kernel
theorem dL_law__2519 : decode cL_law_ 2519 = .ok (.lcmp, 1) := by decide +kernel
theorem dL_law__2520 : decode cL_law_ 2520 = .ok (.ifCond .eq 5, 3) := by decide +kernel
theorem dL_law__2523 : decode cL_law_ 2523 = .ok (.iconst 0, 1) := by decide +kernel
theorem dL_law__2524 : decode cL_law_ 2524 = .ok (.ireturn, 1) := by decide +kernel
theorem dL_law__2525 : decode cL_law_ 2525 = .ok (.goto 516, 3) := by decide +kernel
theorem dL_law__2528 : decode cL_law_ 2528 = .ok (.aload_n 1, 1) := by decide +kernel
theorem dL_law__2529 : decode cL_law_ 2529 = .ok (.invokevirtual 312, 3) := by decide +kernel
theorem dL_law__2532 : decode cL_law_ 2532 = .ok (.aload_n 2, 1) := by decide +kernel
theorem dL_law__2533 : decode cL_law_ 2533 = .ok (.invokevirtual 315, 3) := by decide +kernel
theorem dL_law__2536 : decode cL_law_ 2536 = .ok (.if_icmp .eq 505, 3) := by decide +kernel
theorem dL_law__2539 : decode cL_law_ 2539 = .ok (.iconst 0, 1) := by decide +kernel
theorem dL_law__2540 : decode cL_law_ 2540 = .ok (.ireturn, 1) := by decide +kernel
theorem dL_law__2541 : decode cL_law_ 2541 = .ok (.aload_n 1, 1) := by decide +kernel
theorem dL_law__2542 : decode cL_law_ 2542 = .ok (.invokevirtual 316, 3) := by decide +kernel
theorem dL_law__2545 : decode cL_law_ 2545 = .ok (.aload_n 2, 1) := by decide +kernel
theorem dL_law__2546 : decode cL_law_ 2546 = .ok (.invokevirtual 319, 3) := by decide +kernel
theorem dL_law__2549 : decode cL_law_ 2549 = .ok (.if_icmp .eq 492, 3) := by decide +kernel
theorem dL_law__2552 : decode cL_law_ 2552 = .ok (.iconst 0, 1) := by decide +kernel
theorem dL_law__2553 : decode cL_law_ 2553 = .ok (.ireturn, 1) := by decide +kernel
theorem dL_law__2554 : decode cL_law_ 2554 = .ok (.aload_n 1, 1) := by decide +kernel
theorem dL_law__2555 : decode cL_law_ 2555 = .ok (.aload_n 0, 1) := by decide +kernel
theorem dL_law__2556 : decode cL_law_ 2556 = .ok (.iload 4, 2) := by decide +kernel
theorem dL_law__2558 : decode cL_law_ 2558 = .ok (.iconst 1, 1) := by decide +kernel
theorem dL_law__2559 : decode cL_law_ 2559 = .ok (.iadd, 1) := by decide +kernel
theorem dL_law__2560 : decode cL_law_ 2560 = .ok (.iaload, 1) := by decide +kernel
theorem dL_law__2561 : decode cL_law_ 2561 = .ok (.aload_n 0, 1) := by decide +kernel
theorem dL_law__2562 : decode cL_law_ 2562 = .ok (.iload 4, 2) := by decide +kernel
theorem dL_law__2564 : decode cL_law_ 2564 = .ok (.iconst 2, 1) := by decide +kernel
theorem dL_law__2565 : decode cL_law_ 2565 = .ok (.iadd, 1) := by decide +kernel
theorem dL_law__2566 : decode cL_law_ 2566 = .ok (.iaload, 1) := by decide +kernel
theorem dL_law__2567 : decode cL_law_ 2567 = .ok (.aload_n 0, 1) := by decide +kernel
theorem dL_law__2568 : decode cL_law_ 2568 = .ok (.iload 4, 2) := by decide +kernel
theorem dL_law__2570 : decode cL_law_ 2570 = .ok (.iconst 3, 1) := by decide +kernel
theorem dL_law__2571 : decode cL_law_ 2571 = .ok (.iadd, 1) := by decide +kernel
theorem dL_law__2572 : decode cL_law_ 2572 = .ok (.iaload, 1) := by decide +kernel
theorem dL_law__2573 : decode cL_law_ 2573 = .ok (.aload_n 3, 1) := by decide +kernel
theorem dL_law__2574 : decode cL_law_ 2574 = .ok (.invokestatic 320, 3) := by decide +kernel
theorem dL_law__2577 : decode cL_law_ 2577 = .ok (.istore 5, 2) := by decide +kernel
theorem dL_law__2579 : decode cL_law_ 2579 = .ok (.aload_n 2, 1) := by decide +kernel
theorem dL_law__2580 : decode cL_law_ 2580 = .ok (.aload_n 0, 1) := by decide +kernel
theorem dL_law__2581 : decode cL_law_ 2581 = .ok (.iload 4, 2) := by decide +kernel
theorem dL_law__2583 : decode cL_law_ 2583 = .ok (.iconst 1, 1) := by decide +kernel
theorem dL_law__2584 : decode cL_law_ 2584 = .ok (.iadd, 1) := by decide +kernel
theorem dL_law__2585 : decode cL_law_ 2585 = .ok (.iaload, 1) := by decide +kernel
theorem dL_law__2586 : decode cL_law_ 2586 = .ok (.aload_n 0, 1) := by decide +kernel
theorem dL_law__2587 : decode cL_law_ 2587 = .ok (.iload 4, 2) := by decide +kernel
theorem dL_law__2589 : decode cL_law_ 2589 = .ok (.iconst 2, 1) := by decide +kernel
theorem dL_law__2590 : decode cL_law_ 2590 = .ok (.iadd, 1) := by decide +kernel
theorem dL_law__2591 : decode cL_law_ 2591 = .ok (.iaload, 1) := by decide +kernel
theorem dL_law__2592 : decode cL_law_ 2592 = .ok (.aload_n 0, 1) := by decide +kernel
theorem dL_law__2593 : decode cL_law_ 2593 = .ok (.iload 4, 2) := by decide +kernel
theorem dL_law__2595 : decode cL_law_ 2595 = .ok (.iconst 3, 1) := by decide +kernel
theorem dL_law__2596 : decode cL_law_ 2596 = .ok (.iadd, 1) := by decide +kernel
theorem dL_law__2597 : decode cL_law_ 2597 = .ok (.iaload, 1) := by decide +kernel
theorem dL_law__2598 : decode cL_law_ 2598 = .ok (.invokevirtual 323, 3) := by decide +kernel
theorem dL_law__2601 : decode cL_law_ 2601 = .ok (.istore 6, 2) := by decide +kernel
theorem dL_law__2603 : decode cL_law_ 2603 = .ok (.aload_n 2, 1) := by decide +kernel
theorem dL_law__2604 : decode cL_law_ 2604 = .ok (.invokevirtual 156, 3) := by decide +kernel
theorem dL_law__2607 : decode cL_law_ 2607 = .ok (.iload 5, 2) := by decide +kernel
theorem dL_law__2609 : decode cL_law_ 2609 = .ok (.if_icmp .eq 5, 3) := by decide +kernel
theorem dL_law__2612 : decode cL_law_ 2612 = .ok (.iconst 0, 1) := by decide +kernel
theorem dL_law__2613 : decode cL_law_ 2613 = .ok (.ireturn, 1) := by decide +kernel
theorem dL_law__2614 : decode cL_law_ 2614 = .ok (.iload 5, 2) := by decide +kernel
theorem dL_law__2616 : decode cL_law_ 2616 = .ok (.ifCond .ne 15, 3) := by decide +kernel
theorem dL_law__2619 : decode cL_law_ 2619 = .ok (.aload_n 3, 1) := by decide +kernel
theorem dL_law__2620 : decode cL_law_ 2620 = .ok (.iconst 0, 1) := by decide +kernel
theorem dL_law__2621 : decode cL_law_ 2621 = .ok (.laload, 1) := by decide +kernel
theorem dL_law__2622 : decode cL_law_ 2622 = .ok (.iload 6, 2) := by decide +kernel
theorem dL_law__2624 : decode cL_law_ 2624 = .ok (.i2l, 1) := by decide +kernel
theorem dL_law__2625 : decode cL_law_ 2625 = .ok (.lcmp, 1) := by decide +kernel
theorem dL_law__2626 : decode cL_law_ 2626 = .ok (.ifCond .eq 5, 3) := by decide +kernel
theorem dL_law__2629 : decode cL_law_ 2629 = .ok (.iconst 0, 1) := by decide +kernel
theorem dL_law__2630 : decode cL_law_ 2630 = .ok (.ireturn, 1) := by decide +kernel
theorem dL_law__2631 : decode cL_law_ 2631 = .ok (.goto 410, 3) := by decide +kernel
theorem dL_law__2634 : decode cL_law_ 2634 = .ok (.aload_n 1, 1) := by decide +kernel
theorem dL_law__2635 : decode cL_law_ 2635 = .ok (.aload_n 0, 1) := by decide +kernel
theorem dL_law__2636 : decode cL_law_ 2636 = .ok (.iload 4, 2) := by decide +kernel
theorem dL_law__2638 : decode cL_law_ 2638 = .ok (.iconst 1, 1) := by decide +kernel
theorem dL_law__2639 : decode cL_law_ 2639 = .ok (.iadd, 1) := by decide +kernel
theorem dL_law__2640 : decode cL_law_ 2640 = .ok (.iaload, 1) := by decide +kernel
theorem dL_law__2641 : decode cL_law_ 2641 = .ok (.aload_n 0, 1) := by decide +kernel
theorem dL_law__2642 : decode cL_law_ 2642 = .ok (.iload 4, 2) := by decide +kernel
theorem dL_law__2644 : decode cL_law_ 2644 = .ok (.iconst 2, 1) := by decide +kernel
theorem dL_law__2645 : decode cL_law_ 2645 = .ok (.iadd, 1) := by decide +kernel
theorem dL_law__2646 : decode cL_law_ 2646 = .ok (.iaload, 1) := by decide +kernel
theorem dL_law__2647 : decode cL_law_ 2647 = .ok (.ifCond .eq 7, 3) := by decide +kernel
theorem dL_law__2650 : decode cL_law_ 2650 = .ok (.iconst 1, 1) := by decide +kernel
theorem dL_law__2651 : decode cL_law_ 2651 = .ok (.goto 4, 3) := by decide +kernel
theorem dL_law__2654 : decode cL_law_ 2654 = .ok (.iconst 0, 1) := by decide +kernel
theorem dL_law__2655 : decode cL_law_ 2655 = .ok (.aload_n 3, 1) := by decide +kernel
theorem dL_law__2656 : decode cL_law_ 2656 = .ok (.invokestatic 324, 3) := by decide +kernel
theorem dL_law__2659 : decode cL_law_ 2659 = .ok (.istore 5, 2) := by decide +kernel
theorem dL_law__2661 : decode cL_law_ 2661 = .ok (.aload_n 2, 1) := by decide +kernel
theorem dL_law__2662 : decode cL_law_ 2662 = .ok (.aload_n 0, 1) := by decide +kernel
theorem dL_law__2663 : decode cL_law_ 2663 = .ok (.iload 4, 2) := by decide +kernel
theorem dL_law__2665 : decode cL_law_ 2665 = .ok (.iconst 1, 1) := by decide +kernel
theorem dL_law__2666 : decode cL_law_ 2666 = .ok (.iadd, 1) := by decide +kernel
theorem dL_law__2667 : decode cL_law_ 2667 = .ok (.iaload, 1) := by decide +kernel
theorem dL_law__2668 : decode cL_law_ 2668 = .ok (.aload_n 0, 1) := by decide +kernel
theorem dL_law__2669 : decode cL_law_ 2669 = .ok (.iload 4, 2) := by decide +kernel
theorem dL_law__2671 : decode cL_law_ 2671 = .ok (.iconst 2, 1) := by decide +kernel
theorem dL_law__2672 : decode cL_law_ 2672 = .ok (.iadd, 1) := by decide +kernel
theorem dL_law__2673 : decode cL_law_ 2673 = .ok (.iaload, 1) := by decide +kernel
theorem dL_law__2674 : decode cL_law_ 2674 = .ok (.ifCond .eq 7, 3) := by decide +kernel
theorem dL_law__2677 : decode cL_law_ 2677 = .ok (.iconst 1, 1) := by decide +kernel
theorem dL_law__2678 : decode cL_law_ 2678 = .ok (.goto 4, 3) := by decide +kernel
theorem dL_law__2681 : decode cL_law_ 2681 = .ok (.iconst 0, 1) := by decide +kernel
theorem dL_law__2682 : decode cL_law_ 2682 = .ok (.invokevirtual 326, 3) := by decide +kernel
theorem dL_law__2685 : decode cL_law_ 2685 = .ok (.istore 6, 2) := by decide +kernel
theorem dL_law__2687 : decode cL_law_ 2687 = .ok (.aload_n 2, 1) := by decide +kernel
theorem dL_law__2688 : decode cL_law_ 2688 = .ok (.invokevirtual 156, 3) := by decide +kernel
theorem dL_law__2691 : decode cL_law_ 2691 = .ok (.iload 5, 2) := by decide +kernel
theorem dL_law__2693 : decode cL_law_ 2693 = .ok (.if_icmp .eq 5, 3) := by decide +kernel
theorem dL_law__2696 : decode cL_law_ 2696 = .ok (.iconst 0, 1) := by decide +kernel
theorem dL_law__2697 : decode cL_law_ 2697 = .ok (.ireturn, 1) := by decide +kernel
theorem dL_law__2698 : decode cL_law_ 2698 = .ok (.iload 5, 2) := by decide +kernel
theorem dL_law__2700 : decode cL_law_ 2700 = .ok (.ifCond .ne 15, 3) := by decide +kernel
theorem dL_law__2703 : decode cL_law_ 2703 = .ok (.aload_n 3, 1) := by decide +kernel
theorem dL_law__2704 : decode cL_law_ 2704 = .ok (.iconst 0, 1) := by decide +kernel
theorem dL_law__2705 : decode cL_law_ 2705 = .ok (.laload, 1) := by decide +kernel
theorem dL_law__2706 : decode cL_law_ 2706 = .ok (.iload 6, 2) := by decide +kernel
theorem dL_law__2708 : decode cL_law_ 2708 = .ok (.i2l, 1) := by decide +kernel
theorem dL_law__2709 : decode cL_law_ 2709 = .ok (.lcmp, 1) := by decide +kernel
theorem dL_law__2710 : decode cL_law_ 2710 = .ok (.ifCond .eq 5, 3) := by decide +kernel
theorem dL_law__2713 : decode cL_law_ 2713 = .ok (.iconst 0, 1) := by decide +kernel
theorem dL_law__2714 : decode cL_law_ 2714 = .ok (.ireturn, 1) := by decide +kernel
theorem dL_law__2715 : decode cL_law_ 2715 = .ok (.goto 326, 3) := by decide +kernel
theorem dL_law__2718 : decode cL_law_ 2718 = .ok (.aload_n 1, 1) := by decide +kernel
theorem dL_law__2719 : decode cL_law_ 2719 = .ok (.aload_n 0, 1) := by decide +kernel
theorem dL_law__2720 : decode cL_law_ 2720 = .ok (.iload 4, 2) := by decide +kernel
theorem dL_law__2722 : decode cL_law_ 2722 = .ok (.iconst 1, 1) := by decide +kernel
theorem dL_law__2723 : decode cL_law_ 2723 = .ok (.iadd, 1) := by decide +kernel
theorem dL_law__2724 : decode cL_law_ 2724 = .ok (.iaload, 1) := by decide +kernel
theorem dL_law__2725 : decode cL_law_ 2725 = .ok (.aload_n 0, 1) := by decide +kernel
theorem dL_law__2726 : decode cL_law_ 2726 = .ok (.iload 4, 2) := by decide +kernel
theorem dL_law__2728 : decode cL_law_ 2728 = .ok (.iconst 2, 1) := by decide +kernel
theorem dL_law__2729 : decode cL_law_ 2729 = .ok (.iadd, 1) := by decide +kernel
theorem dL_law__2730 : decode cL_law_ 2730 = .ok (.iaload, 1) := by decide +kernel
theorem dL_law__2731 : decode cL_law_ 2731 = .ok (.ifCond .eq 7, 3) := by decide +kernel
theorem dL_law__2734 : decode cL_law_ 2734 = .ok (.iconst 1, 1) := by decide +kernel
theorem dL_law__2735 : decode cL_law_ 2735 = .ok (.goto 4, 3) := by decide +kernel
theorem dL_law__2738 : decode cL_law_ 2738 = .ok (.iconst 0, 1) := by decide +kernel
theorem dL_law__2739 : decode cL_law_ 2739 = .ok (.aload_n 3, 1) := by decide +kernel
theorem dL_law__2740 : decode cL_law_ 2740 = .ok (.invokestatic 327, 3) := by decide +kernel
theorem dL_law__2743 : decode cL_law_ 2743 = .ok (.istore 5, 2) := by decide +kernel
theorem dL_law__2745 : decode cL_law_ 2745 = .ok (.aload_n 2, 1) := by decide +kernel
theorem dL_law__2746 : decode cL_law_ 2746 = .ok (.aload_n 0, 1) := by decide +kernel
theorem dL_law__2747 : decode cL_law_ 2747 = .ok (.iload 4, 2) := by decide +kernel
theorem dL_law__2749 : decode cL_law_ 2749 = .ok (.iconst 1, 1) := by decide +kernel
theorem dL_law__2750 : decode cL_law_ 2750 = .ok (.iadd, 1) := by decide +kernel
theorem dL_law__2751 : decode cL_law_ 2751 = .ok (.iaload, 1) := by decide +kernel
theorem dL_law__2752 : decode cL_law_ 2752 = .ok (.aload_n 0, 1) := by decide +kernel
theorem dL_law__2753 : decode cL_law_ 2753 = .ok (.iload 4, 2) := by decide +kernel
theorem dL_law__2755 : decode cL_law_ 2755 = .ok (.iconst 2, 1) := by decide +kernel
theorem dL_law__2756 : decode cL_law_ 2756 = .ok (.iadd, 1) := by decide +kernel
theorem dL_law__2757 : decode cL_law_ 2757 = .ok (.iaload, 1) := by decide +kernel
theorem dL_law__2758 : decode cL_law_ 2758 = .ok (.ifCond .eq 7, 3) := by decide +kernel
theorem dL_law__2761 : decode cL_law_ 2761 = .ok (.iconst 1, 1) := by decide +kernel
theorem dL_law__2762 : decode cL_law_ 2762 = .ok (.goto 4, 3) := by decide +kernel
theorem dL_law__2765 : decode cL_law_ 2765 = .ok (.iconst 0, 1) := by decide +kernel
theorem dL_law__2766 : decode cL_law_ 2766 = .ok (.invokevirtual 329, 3) := by decide +kernel
theorem dL_law__2769 : decode cL_law_ 2769 = .ok (.istore 6, 2) := by decide +kernel
theorem dL_law__2771 : decode cL_law_ 2771 = .ok (.aload_n 2, 1) := by decide +kernel
theorem dL_law__2772 : decode cL_law_ 2772 = .ok (.invokevirtual 156, 3) := by decide +kernel
theorem dL_law__2775 : decode cL_law_ 2775 = .ok (.iload 5, 2) := by decide +kernel
theorem dL_law__2777 : decode cL_law_ 2777 = .ok (.if_icmp .eq 5, 3) := by decide +kernel
theorem dL_law__2780 : decode cL_law_ 2780 = .ok (.iconst 0, 1) := by decide +kernel
theorem dL_law__2781 : decode cL_law_ 2781 = .ok (.ireturn, 1) := by decide +kernel
theorem dL_law__2782 : decode cL_law_ 2782 = .ok (.iload 5, 2) := by decide +kernel
theorem dL_law__2784 : decode cL_law_ 2784 = .ok (.ifCond .ne 15, 3) := by decide +kernel
theorem dL_law__2787 : decode cL_law_ 2787 = .ok (.aload_n 3, 1) := by decide +kernel
theorem dL_law__2788 : decode cL_law_ 2788 = .ok (.iconst 0, 1) := by decide +kernel
theorem dL_law__2789 : decode cL_law_ 2789 = .ok (.laload, 1) := by decide +kernel
theorem dL_law__2790 : decode cL_law_ 2790 = .ok (.iload 6, 2) := by decide +kernel
theorem dL_law__2792 : decode cL_law_ 2792 = .ok (.i2l, 1) := by decide +kernel
theorem dL_law__2793 : decode cL_law_ 2793 = .ok (.lcmp, 1) := by decide +kernel
theorem dL_law__2794 : decode cL_law_ 2794 = .ok (.ifCond .eq 5, 3) := by decide +kernel
theorem dL_law__2797 : decode cL_law_ 2797 = .ok (.iconst 0, 1) := by decide +kernel
theorem dL_law__2798 : decode cL_law_ 2798 = .ok (.ireturn, 1) := by decide +kernel
theorem dL_law__2799 : decode cL_law_ 2799 = .ok (.goto 242, 3) := by decide +kernel
theorem dL_law__2802 : decode cL_law_ 2802 = .ok (.aload_n 1, 1) := by decide +kernel
theorem dL_law__2803 : decode cL_law_ 2803 = .ok (.aload_n 0, 1) := by decide +kernel
theorem dL_law__2804 : decode cL_law_ 2804 = .ok (.iload 4, 2) := by decide +kernel
theorem dL_law__2806 : decode cL_law_ 2806 = .ok (.iconst 1, 1) := by decide +kernel
theorem dL_law__2807 : decode cL_law_ 2807 = .ok (.iadd, 1) := by decide +kernel
theorem dL_law__2808 : decode cL_law_ 2808 = .ok (.iaload, 1) := by decide +kernel
theorem dL_law__2809 : decode cL_law_ 2809 = .ok (.aload_n 0, 1) := by decide +kernel
theorem dL_law__2810 : decode cL_law_ 2810 = .ok (.iload 4, 2) := by decide +kernel
theorem dL_law__2812 : decode cL_law_ 2812 = .ok (.iconst 2, 1) := by decide +kernel
theorem dL_law__2813 : decode cL_law_ 2813 = .ok (.iadd, 1) := by decide +kernel
theorem dL_law__2814 : decode cL_law_ 2814 = .ok (.iaload, 1) := by decide +kernel
theorem dL_law__2815 : decode cL_law_ 2815 = .ok (.ifCond .eq 7, 3) := by decide +kernel
theorem dL_law__2818 : decode cL_law_ 2818 = .ok (.iconst 1, 1) := by decide +kernel
theorem dL_law__2819 : decode cL_law_ 2819 = .ok (.goto 4, 3) := by decide +kernel
theorem dL_law__2822 : decode cL_law_ 2822 = .ok (.iconst 0, 1) := by decide +kernel
theorem dL_law__2823 : decode cL_law_ 2823 = .ok (.aload_n 3, 1) := by decide +kernel
theorem dL_law__2824 : decode cL_law_ 2824 = .ok (.invokestatic 330, 3) := by decide +kernel
theorem dL_law__2827 : decode cL_law_ 2827 = .ok (.istore 5, 2) := by decide +kernel
theorem dL_law__2829 : decode cL_law_ 2829 = .ok (.aload_n 2, 1) := by decide +kernel
theorem dL_law__2830 : decode cL_law_ 2830 = .ok (.aload_n 0, 1) := by decide +kernel
theorem dL_law__2831 : decode cL_law_ 2831 = .ok (.iload 4, 2) := by decide +kernel
theorem dL_law__2833 : decode cL_law_ 2833 = .ok (.iconst 1, 1) := by decide +kernel
theorem dL_law__2834 : decode cL_law_ 2834 = .ok (.iadd, 1) := by decide +kernel
theorem dL_law__2835 : decode cL_law_ 2835 = .ok (.iaload, 1) := by decide +kernel
theorem dL_law__2836 : decode cL_law_ 2836 = .ok (.aload_n 0, 1) := by decide +kernel
theorem dL_law__2837 : decode cL_law_ 2837 = .ok (.iload 4, 2) := by decide +kernel
theorem dL_law__2839 : decode cL_law_ 2839 = .ok (.iconst 2, 1) := by decide +kernel
theorem dL_law__2840 : decode cL_law_ 2840 = .ok (.iadd, 1) := by decide +kernel
theorem dL_law__2841 : decode cL_law_ 2841 = .ok (.iaload, 1) := by decide +kernel
theorem dL_law__2842 : decode cL_law_ 2842 = .ok (.ifCond .eq 7, 3) := by decide +kernel
theorem dL_law__2845 : decode cL_law_ 2845 = .ok (.iconst 1, 1) := by decide +kernel
theorem dL_law__2846 : decode cL_law_ 2846 = .ok (.goto 4, 3) := by decide +kernel
theorem dL_law__2849 : decode cL_law_ 2849 = .ok (.iconst 0, 1) := by decide +kernel
theorem dL_law__2850 : decode cL_law_ 2850 = .ok (.invokevirtual 332, 3) := by decide +kernel
theorem dL_law__2853 : decode cL_law_ 2853 = .ok (.istore 6, 2) := by decide +kernel
theorem dL_law__2855 : decode cL_law_ 2855 = .ok (.aload_n 2, 1) := by decide +kernel
theorem dL_law__2856 : decode cL_law_ 2856 = .ok (.invokevirtual 156, 3) := by decide +kernel
theorem dL_law__2859 : decode cL_law_ 2859 = .ok (.iload 5, 2) := by decide +kernel
theorem dL_law__2861 : decode cL_law_ 2861 = .ok (.if_icmp .eq 5, 3) := by decide +kernel
theorem dL_law__2864 : decode cL_law_ 2864 = .ok (.iconst 0, 1) := by decide +kernel
theorem dL_law__2865 : decode cL_law_ 2865 = .ok (.ireturn, 1) := by decide +kernel
theorem dL_law__2866 : decode cL_law_ 2866 = .ok (.iload 5, 2) := by decide +kernel
theorem dL_law__2868 : decode cL_law_ 2868 = .ok (.ifCond .ne 15, 3) := by decide +kernel
theorem dL_law__2871 : decode cL_law_ 2871 = .ok (.aload_n 3, 1) := by decide +kernel
theorem dL_law__2872 : decode cL_law_ 2872 = .ok (.iconst 0, 1) := by decide +kernel
theorem dL_law__2873 : decode cL_law_ 2873 = .ok (.laload, 1) := by decide +kernel
theorem dL_law__2874 : decode cL_law_ 2874 = .ok (.iload 6, 2) := by decide +kernel
theorem dL_law__2876 : decode cL_law_ 2876 = .ok (.i2l, 1) := by decide +kernel
theorem dL_law__2877 : decode cL_law_ 2877 = .ok (.lcmp, 1) := by decide +kernel
theorem dL_law__2878 : decode cL_law_ 2878 = .ok (.ifCond .eq 5, 3) := by decide +kernel
theorem dL_law__2881 : decode cL_law_ 2881 = .ok (.iconst 0, 1) := by decide +kernel
theorem dL_law__2882 : decode cL_law_ 2882 = .ok (.ireturn, 1) := by decide +kernel
theorem dL_law__2883 : decode cL_law_ 2883 = .ok (.goto 158, 3) := by decide +kernel
theorem dL_law__2886 : decode cL_law_ 2886 = .ok (.aload_n 1, 1) := by decide +kernel
theorem dL_law__2887 : decode cL_law_ 2887 = .ok (.aload_n 0, 1) := by decide +kernel
theorem dL_law__2888 : decode cL_law_ 2888 = .ok (.iload 4, 2) := by decide +kernel
theorem dL_law__2890 : decode cL_law_ 2890 = .ok (.iconst 1, 1) := by decide +kernel
theorem dL_law__2891 : decode cL_law_ 2891 = .ok (.iadd, 1) := by decide +kernel
theorem dL_law__2892 : decode cL_law_ 2892 = .ok (.iaload, 1) := by decide +kernel
theorem dL_law__2893 : decode cL_law_ 2893 = .ok (.aload_n 0, 1) := by decide +kernel
theorem dL_law__2894 : decode cL_law_ 2894 = .ok (.iload 4, 2) := by decide +kernel
theorem dL_law__2896 : decode cL_law_ 2896 = .ok (.iconst 2, 1) := by decide +kernel
theorem dL_law__2897 : decode cL_law_ 2897 = .ok (.iadd, 1) := by decide +kernel
theorem dL_law__2898 : decode cL_law_ 2898 = .ok (.iaload, 1) := by decide +kernel
theorem dL_law__2899 : decode cL_law_ 2899 = .ok (.aload_n 3, 1) := by decide +kernel
theorem dL_law__2900 : decode cL_law_ 2900 = .ok (.invokestatic 333, 3) := by decide +kernel
theorem dL_law__2903 : decode cL_law_ 2903 = .ok (.istore 5, 2) := by decide +kernel
theorem dL_law__2905 : decode cL_law_ 2905 = .ok (.aload_n 2, 1) := by decide +kernel
theorem dL_law__2906 : decode cL_law_ 2906 = .ok (.aload_n 0, 1) := by decide +kernel
theorem dL_law__2907 : decode cL_law_ 2907 = .ok (.iload 4, 2) := by decide +kernel
theorem dL_law__2909 : decode cL_law_ 2909 = .ok (.iconst 1, 1) := by decide +kernel
theorem dL_law__2910 : decode cL_law_ 2910 = .ok (.iadd, 1) := by decide +kernel
theorem dL_law__2911 : decode cL_law_ 2911 = .ok (.iaload, 1) := by decide +kernel
theorem dL_law__2912 : decode cL_law_ 2912 = .ok (.aload_n 0, 1) := by decide +kernel
theorem dL_law__2913 : decode cL_law_ 2913 = .ok (.iload 4, 2) := by decide +kernel
theorem dL_law__2915 : decode cL_law_ 2915 = .ok (.iconst 2, 1) := by decide +kernel
theorem dL_law__2916 : decode cL_law_ 2916 = .ok (.iadd, 1) := by decide +kernel
theorem dL_law__2917 : decode cL_law_ 2917 = .ok (.iaload, 1) := by decide +kernel
theorem dL_law__2918 : decode cL_law_ 2918 = .ok (.invokevirtual 335, 3) := by decide +kernel
theorem dL_law__2921 : decode cL_law_ 2921 = .ok (.istore 6, 2) := by decide +kernel
theorem dL_law__2923 : decode cL_law_ 2923 = .ok (.aload_n 2, 1) := by decide +kernel
theorem dL_law__2924 : decode cL_law_ 2924 = .ok (.invokevirtual 156, 3) := by decide +kernel
theorem dL_law__2927 : decode cL_law_ 2927 = .ok (.iload 5, 2) := by decide +kernel
theorem dL_law__2929 : decode cL_law_ 2929 = .ok (.if_icmp .eq 5, 3) := by decide +kernel
theorem dL_law__2932 : decode cL_law_ 2932 = .ok (.iconst 0, 1) := by decide +kernel
theorem dL_law__2933 : decode cL_law_ 2933 = .ok (.ireturn, 1) := by decide +kernel
theorem dL_law__2934 : decode cL_law_ 2934 = .ok (.iload 5, 2) := by decide +kernel
theorem dL_law__2936 : decode cL_law_ 2936 = .ok (.ifCond .ne 15, 3) := by decide +kernel
theorem dL_law__2939 : decode cL_law_ 2939 = .ok (.aload_n 3, 1) := by decide +kernel
theorem dL_law__2940 : decode cL_law_ 2940 = .ok (.iconst 0, 1) := by decide +kernel
theorem dL_law__2941 : decode cL_law_ 2941 = .ok (.laload, 1) := by decide +kernel
theorem dL_law__2942 : decode cL_law_ 2942 = .ok (.iload 6, 2) := by decide +kernel
theorem dL_law__2944 : decode cL_law_ 2944 = .ok (.i2l, 1) := by decide +kernel
theorem dL_law__2945 : decode cL_law_ 2945 = .ok (.lcmp, 1) := by decide +kernel
theorem dL_law__2946 : decode cL_law_ 2946 = .ok (.ifCond .eq 5, 3) := by decide +kernel
theorem dL_law__2949 : decode cL_law_ 2949 = .ok (.iconst 0, 1) := by decide +kernel
theorem dL_law__2950 : decode cL_law_ 2950 = .ok (.ireturn, 1) := by decide +kernel
theorem dL_law__2951 : decode cL_law_ 2951 = .ok (.goto 90, 3) := by decide +kernel
theorem dL_law__2954 : decode cL_law_ 2954 = .ok (.aload_n 1, 1) := by decide +kernel
theorem dL_law__2955 : decode cL_law_ 2955 = .ok (.aload_n 0, 1) := by decide +kernel
theorem dL_law__2956 : decode cL_law_ 2956 = .ok (.iload 4, 2) := by decide +kernel
theorem dL_law__2958 : decode cL_law_ 2958 = .ok (.iconst 1, 1) := by decide +kernel
theorem dL_law__2959 : decode cL_law_ 2959 = .ok (.iadd, 1) := by decide +kernel
theorem dL_law__2960 : decode cL_law_ 2960 = .ok (.iaload, 1) := by decide +kernel
theorem dL_law__2961 : decode cL_law_ 2961 = .ok (.invokevirtual 336, 3) := by decide +kernel
theorem dL_law__2964 : decode cL_law_ 2964 = .ok (.aload_n 2, 1) := by decide +kernel
theorem dL_law__2965 : decode cL_law_ 2965 = .ok (.aload_n 0, 1) := by decide +kernel
theorem dL_law__2966 : decode cL_law_ 2966 = .ok (.iload 4, 2) := by decide +kernel
theorem dL_law__2968 : decode cL_law_ 2968 = .ok (.iconst 1, 1) := by decide +kernel
theorem dL_law__2969 : decode cL_law_ 2969 = .ok (.iadd, 1) := by decide +kernel
theorem dL_law__2970 : decode cL_law_ 2970 = .ok (.iaload, 1) := by decide +kernel
theorem dL_law__2971 : decode cL_law_ 2971 = .ok (.invokevirtual 339, 3) := by decide +kernel
theorem dL_law__2974 : decode cL_law_ 2974 = .ok (.if_icmp .eq 67, 3) := by decide +kernel
theorem dL_law__2977 : decode cL_law_ 2977 = .ok (.iconst 0, 1) := by decide +kernel
theorem dL_law__2978 : decode cL_law_ 2978 = .ok (.ireturn, 1) := by decide +kernel
theorem dL_law__2979 : decode cL_law_ 2979 = .ok (.aload_n 1, 1) := by decide +kernel
theorem dL_law__2980 : decode cL_law_ 2980 = .ok (.invokevirtual 340, 3) := by decide +kernel
theorem dL_law__2983 : decode cL_law_ 2983 = .ok (.aload_n 2, 1) := by decide +kernel
theorem dL_law__2984 : decode cL_law_ 2984 = .ok (.invokevirtual 344, 3) := by decide +kernel
theorem dL_law__2987 : decode cL_law_ 2987 = .ok (.if_icmp .eq 54, 3) := by decide +kernel
theorem dL_law__2990 : decode cL_law_ 2990 = .ok (.iconst 0, 1) := by decide +kernel
theorem dL_law__2991 : decode cL_law_ 2991 = .ok (.ireturn, 1) := by decide +kernel
theorem dL_law__2992 : decode cL_law_ 2992 = .ok (.aload_n 1, 1) := by decide +kernel
theorem dL_law__2993 : decode cL_law_ 2993 = .ok (.invokevirtual 345, 3) := by decide +kernel
theorem dL_law__2996 : decode cL_law_ 2996 = .ok (.aload_n 2, 1) := by decide +kernel
theorem dL_law__2997 : decode cL_law_ 2997 = .ok (.invokevirtual 348, 3) := by decide +kernel
theorem dL_law__3000 : decode cL_law_ 3000 = .ok (.goto 41, 3) := by decide +kernel
theorem dL_law__3003 : decode cL_law_ 3003 = .ok (.aload_n 1, 1) := by decide +kernel
theorem dL_law__3004 : decode cL_law_ 3004 = .ok (.invokevirtual 349, 3) := by decide +kernel
theorem dL_law__3007 : decode cL_law_ 3007 = .ok (.aload_n 2, 1) := by decide +kernel
theorem dL_law__3008 : decode cL_law_ 3008 = .ok (.invokevirtual 352, 3) := by decide +kernel
theorem dL_law__3011 : decode cL_law_ 3011 = .ok (.if_icmp .eq 30, 3) := by decide +kernel
theorem dL_law__3014 : decode cL_law_ 3014 = .ok (.iconst 0, 1) := by decide +kernel
theorem dL_law__3015 : decode cL_law_ 3015 = .ok (.ireturn, 1) := by decide +kernel
theorem dL_law__3016 : decode cL_law_ 3016 = .ok (.aload_n 1, 1) := by decide +kernel
theorem dL_law__3017 : decode cL_law_ 3017 = .ok (.aload_n 0, 1) := by decide +kernel
theorem dL_law__3018 : decode cL_law_ 3018 = .ok (.iload 4, 2) := by decide +kernel
theorem dL_law__3020 : decode cL_law_ 3020 = .ok (.iconst 1, 1) := by decide +kernel
theorem dL_law__3021 : decode cL_law_ 3021 = .ok (.iadd, 1) := by decide +kernel
theorem dL_law__3022 : decode cL_law_ 3022 = .ok (.iaload, 1) := by decide +kernel
theorem dL_law__3023 : decode cL_law_ 3023 = .ok (.invokevirtual 353, 3) := by decide +kernel
theorem dL_law__3026 : decode cL_law_ 3026 = .ok (.aload_n 2, 1) := by decide +kernel
theorem dL_law__3027 : decode cL_law_ 3027 = .ok (.aload_n 0, 1) := by decide +kernel
theorem dL_law__3028 : decode cL_law_ 3028 = .ok (.iload 4, 2) := by decide +kernel
theorem dL_law__3030 : decode cL_law_ 3030 = .ok (.iconst 1, 1) := by decide +kernel
theorem dL_law__3031 : decode cL_law_ 3031 = .ok (.iadd, 1) := by decide +kernel
theorem dL_law__3032 : decode cL_law_ 3032 = .ok (.iaload, 1) := by decide +kernel
theorem dL_law__3033 : decode cL_law_ 3033 = .ok (.invokevirtual 356, 3) := by decide +kernel
theorem dL_law__3036 : decode cL_law_ 3036 = .ok (.if_icmp .eq 5, 3) := by decide +kernel
theorem dL_law__3039 : decode cL_law_ 3039 = .ok (.iconst 0, 1) := by decide +kernel
theorem dL_law__3040 : decode cL_law_ 3040 = .ok (.ireturn, 1) := by decide +kernel
theorem dL_law__3041 : decode cL_law_ 3041 = .ok (.iinc 4 6, 3) := by decide +kernel
theorem dL_law__3044 : decode cL_law_ 3044 = .ok (.goto (-3021), 3) := by decide +kernel
theorem dL_law__3047 : decode cL_law_ 3047 = .ok (.iconst 1, 1) := by decide +kernel
theorem dL_law__3048 : decode cL_law_ 3048 = .ok (.ireturn, 1) := by decide +kernel
