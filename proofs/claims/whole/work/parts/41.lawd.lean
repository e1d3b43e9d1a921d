theorem dL_law__0 : decode cL_law_ 0 = .ok (.new 8, 3) := by decide +kernel
theorem dL_law__3 : decode cL_law_ 3 = .ok (.dup, 1) := by decide +kernel
theorem dL_law__4 : decode cL_law_ 4 = .ok (.invokespecial 131, 3) := by decide +kernel
theorem dL_law__7 : decode cL_law_ 7 = .ok (.astore_n 1, 1) := by decide +kernel
theorem dL_law__8 : decode cL_law_ 8 = .ok (.new 132, 3) := by decide +kernel
theorem dL_law__11 : decode cL_law_ 11 = .ok (.dup, 1) := by decide +kernel
theorem dL_law__12 : decode cL_law_ 12 = .ok (.invokespecial 134, 3) := by decide +kernel
theorem dL_law__15 : decode cL_law_ 15 = .ok (.astore_n 2, 1) := by decide +kernel
theorem dL_law__16 : decode cL_law_ 16 = .ok (.iconst 1, 1) := by decide +kernel
theorem dL_law__17 : decode cL_law_ 17 = .ok (.newarray .long, 2) := by decide +kernel
theorem dL_law__19 : decode cL_law_ 19 = .ok (.astore_n 3, 1) := by decide +kernel
theorem dL_law__20 : decode cL_law_ 20 = .ok (.iconst 0, 1) := by decide +kernel
theorem dL_law__21 : decode cL_law_ 21 = .ok (.istore 4, 2) := by decide +kernel
theorem dL_law__23 : decode cL_law_ 23 = .ok (.iload 4, 2) := by decide +kernel
theorem dL_law__25 : decode cL_law_ 25 = .ok (.aload_n 0, 1) := by decide +kernel
theorem dL_law__26 : decode cL_law_ 26 = .ok (.arraylength, 1) := by decide +kernel
theorem dL_law__27 : decode cL_law_ 27 = .ok (.bipush 6, 2) := by decide +kernel
theorem dL_law__29 : decode cL_law_ 29 = .ok (.isub, 1) := by decide +kernel
theorem dL_law__30 : decode cL_law_ 30 = .ok (.if_icmp .gt 2775, 3) := by decide +kernel
theorem dL_law__33 : decode cL_law_ 33 = .ok (.aload_n 0, 1) := by decide +kernel
theorem dL_law__34 : decode cL_law_ 34 = .ok (.iload 4, 2) := by decide +kernel
theorem dL_law__36 : decode cL_law_ 36 = .ok (.iaload, 1) := by decide +kernel
theorem dL_law__37 : decode cL_law_ 37 = .ok (.bipush 63, 2) := by decide +kernel
theorem dL_law__39 : decode cL_law_ 39 = .ok (.iand, 1) := by decide +kernel
theorem dL_law__40 : decode cL_law_ 40 = .ok (.tableswitch 2759 0 53 #[232, 305, 330, 374, 418, 431, 499, 567, 635, 691, 783, 863, 931, 987, 1055, 1158, 1214, 1270, 1326, 1382, 1395, 1408, 1421, 1477, 1533, 1577, 1649, 1693, 1706, 1719, 1782, 1838, 1851, 1907, 1920, 1976, 2051, 2119, 2175, 2188, 2201, 2257, 2270, 2283, 2296, 2352, 2436, 2520, 2604, 2672, 2697, 2710, 2721, 2734], 232) := by decide +kernel
theorem dL_law__272 : decode cL_law_ 272 = .ok (.aload_n 1, 1) := by decide +kernel
theorem dL_law__273 : decode cL_law_ 273 = .ok (.aload_n 0, 1) := by decide +kernel
theorem dL_law__274 : decode cL_law_ 274 = .ok (.iload 4, 2) := by decide +kernel
theorem dL_law__276 : decode cL_law_ 276 = .ok (.iconst 1, 1) := by decide +kernel
theorem dL_law__277 : decode cL_law_ 277 = .ok (.iadd, 1) := by decide +kernel
theorem dL_law__278 : decode cL_law_ 278 = .ok (.iaload, 1) := by decide +kernel
theorem dL_law__279 : decode cL_law_ 279 = .ok (.aload_n 0, 1) := by decide +kernel
theorem dL_law__280 : decode cL_law_ 280 = .ok (.iload 4, 2) := by decide +kernel
theorem dL_law__282 : decode cL_law_ 282 = .ok (.iconst 2, 1) := by decide +kernel
theorem dL_law__283 : decode cL_law_ 283 = .ok (.iadd, 1) := by decide +kernel
theorem dL_law__284 : decode cL_law_ 284 = .ok (.iaload, 1) := by decide +kernel
theorem dL_law__285 : decode cL_law_ 285 = .ok (.aload_n 0, 1) := by decide +kernel
theorem dL_law__286 : decode cL_law_ 286 = .ok (.iload 4, 2) := by decide +kernel
theorem dL_law__288 : decode cL_law_ 288 = .ok (.iconst 3, 1) := by decide +kernel
theorem dL_law__289 : decode cL_law_ 289 = .ok (.iadd, 1) := by decide +kernel
theorem dL_law__290 : decode cL_law_ 290 = .ok (.iaload, 1) := by decide +kernel
theorem dL_law__291 : decode cL_law_ 291 = .ok (.aload_n 0, 1) := by decide +kernel
theorem dL_law__292 : decode cL_law_ 292 = .ok (.iload 4, 2) := by decide +kernel
theorem dL_law__294 : decode cL_law_ 294 = .ok (.iconst 4, 1) := by decide +kernel
theorem dL_law__295 : decode cL_law_ 295 = .ok (.iadd, 1) := by decide +kernel
theorem dL_law__296 : decode cL_law_ 296 = .ok (.iaload, 1) := by decide +kernel
theorem dL_law__297 : decode cL_law_ 297 = .ok (.aload_n 0, 1) := by decide +kernel
theorem dL_law__298 : decode cL_law_ 298 = .ok (.iload 4, 2) := by decide +kernel
theorem dL_law__300 : decode cL_law_ 300 = .ok (.iconst 5, 1) := by decide +kernel
theorem dL_law__301 : decode cL_law_ 301 = .ok (.iadd, 1) := by decide +kernel
theorem dL_law__302 : decode cL_law_ 302 = .ok (.iaload, 1) := by decide +kernel
theorem dL_law__303 : decode cL_law_ 303 = .ok (.invokevirtual 135, 3) := by decide +kernel
theorem dL_law__306 : decode cL_law_ 306 = .ok (.aload_n 2, 1) := by decide +kernel
theorem dL_law__307 : decode cL_law_ 307 = .ok (.aload_n 0, 1) := by decide +kernel
theorem dL_law__308 : decode cL_law_ 308 = .ok (.iload 4, 2) := by decide +kernel
theorem dL_law__310 : decode cL_law_ 310 = .ok (.iconst 1, 1) := by decide +kernel
theorem dL_law__311 : decode cL_law_ 311 = .ok (.iadd, 1) := by decide +kernel
theorem dL_law__312 : decode cL_law_ 312 = .ok (.iaload, 1) := by decide +kernel
theorem dL_law__313 : decode cL_law_ 313 = .ok (.aload_n 0, 1) := by decide +kernel
theorem dL_law__314 : decode cL_law_ 314 = .ok (.iload 4, 2) := by decide +kernel
theorem dL_law__316 : decode cL_law_ 316 = .ok (.iconst 2, 1) := by decide +kernel
theorem dL_law__317 : decode cL_law_ 317 = .ok (.iadd, 1) := by decide +kernel
theorem dL_law__318 : decode cL_law_ 318 = .ok (.iaload, 1) := by decide +kernel
theorem dL_law__319 : decode cL_law_ 319 = .ok (.aload_n 0, 1) := by decide +kernel
theorem dL_law__320 : decode cL_law_ 320 = .ok (.iload 4, 2) := by decide +kernel
theorem dL_law__322 : decode cL_law_ 322 = .ok (.iconst 3, 1) := by decide +kernel
theorem dL_law__323 : decode cL_law_ 323 = .ok (.iadd, 1) := by decide +kernel
theorem dL_law__324 : decode cL_law_ 324 = .ok (.iaload, 1) := by decide +kernel
theorem dL_law__325 : decode cL_law_ 325 = .ok (.aload_n 0, 1) := by decide +kernel
theorem dL_law__326 : decode cL_law_ 326 = .ok (.iload 4, 2) := by decide +kernel
theorem dL_law__328 : decode cL_law_ 328 = .ok (.iconst 4, 1) := by decide +kernel
theorem dL_law__329 : decode cL_law_ 329 = .ok (.iadd, 1) := by decide +kernel
theorem dL_law__330 : decode cL_law_ 330 = .ok (.iaload, 1) := by decide +kernel
theorem dL_law__331 : decode cL_law_ 331 = .ok (.aload_n 0, 1) := by decide +kernel
theorem dL_law__332 : decode cL_law_ 332 = .ok (.iload 4, 2) := by decide +kernel
theorem dL_law__334 : decode cL_law_ 334 = .ok (.iconst 5, 1) := by decide +kernel
theorem dL_law__335 : decode cL_law_ 335 = .ok (.iadd, 1) := by decide +kernel
theorem dL_law__336 : decode cL_law_ 336 = .ok (.iaload, 1) := by decide +kernel
theorem dL_law__337 : decode cL_law_ 337 = .ok (.invokevirtual 139, 3) := by decide +kernel
theorem dL_law__340 : decode cL_law_ 340 = .ok (.if_icmp .eq 2459, 3) := by decide +kernel
theorem dL_law__343 : decode cL_law_ 343 = .ok (.iconst 0, 1) := by decide +kernel
theorem dL_law__344 : decode cL_law_ 344 = .ok (.ireturn, 1) := by decide +kernel
theorem dL_law__345 : decode cL_law_ 345 = .ok (.aload_n 1, 1) := by decide +kernel
theorem dL_law__346 : decode cL_law_ 346 = .ok (.aload_n 0, 1) := by decide +kernel
theorem dL_law__347 : decode cL_law_ 347 = .ok (.iload 4, 2) := by decide +kernel
theorem dL_law__349 : decode cL_law_ 349 = .ok (.iconst 1, 1) := by decide +kernel
theorem dL_law__350 : decode cL_law_ 350 = .ok (.iadd, 1) := by decide +kernel
theorem dL_law__351 : decode cL_law_ 351 = .ok (.iaload, 1) := by decide +kernel
theorem dL_law__352 : decode cL_law_ 352 = .ok (.invokevirtual 140, 3) := by decide +kernel
theorem dL_law__355 : decode cL_law_ 355 = .ok (.aload_n 2, 1) := by decide +kernel
theorem dL_law__356 : decode cL_law_ 356 = .ok (.aload_n 0, 1) := by decide +kernel
theorem dL_law__357 : decode cL_law_ 357 = .ok (.iload 4, 2) := by decide +kernel
theorem dL_law__359 : decode cL_law_ 359 = .ok (.iconst 1, 1) := by decide +kernel
theorem dL_law__360 : decode cL_law_ 360 = .ok (.iadd, 1) := by decide +kernel
theorem dL_law__361 : decode cL_law_ 361 = .ok (.iaload, 1) := by decide +kernel
theorem dL_law__362 : decode cL_law_ 362 = .ok (.invokevirtual 143, 3) := by decide +kernel
theorem dL_law__365 : decode cL_law_ 365 = .ok (.if_icmp .eq 2434, 3) := by decide +kernel
theorem dL_law__368 : decode cL_law_ 368 = .ok (.iconst 0, 1) := by decide +kernel
theorem dL_law__369 : decode cL_law_ 369 = .ok (.ireturn, 1) := by decide +kernel
theorem dL_law__370 : decode cL_law_ 370 = .ok (.aload_n 1, 1) := by decide +kernel
theorem dL_law__371 : decode cL_law_ 371 = .ok (.aload_n 3, 1) := by decide +kernel
theorem dL_law__372 : decode cL_law_ 372 = .ok (.invokestatic 144, 3) := by decide +kernel
theorem dL_law__375 : decode cL_law_ 375 = .ok (.istore 5, 2) := by decide +kernel
theorem dL_law__377 : decode cL_law_ 377 = .ok (.aload_n 2, 1) := by decide +kernel
theorem dL_law__378 : decode cL_law_ 378 = .ok (.invokevirtual 149, 3) := by decide +kernel
theorem dL_law__381 : decode cL_law_ 381 = .ok (.istore 6, 2) := by decide +kernel
theorem dL_law__383 : decode cL_law_ 383 = .ok (.aload_n 2, 1) := by decide +kernel
theorem dL_law__384 : decode cL_law_ 384 = .ok (.invokevirtual 150, 3) := by decide +kernel
theorem dL_law__387 : decode cL_law_ 387 = .ok (.iload 5, 2) := by decide +kernel
theorem dL_law__389 : decode cL_law_ 389 = .ok (.if_icmp .eq 5, 3) := by decide +kernel
theorem dL_law__392 : decode cL_law_ 392 = .ok (.iconst 0, 1) := by decide +kernel
theorem dL_law__393 : decode cL_law_ 393 = .ok (.ireturn, 1) := by decide +kernel
theorem dL_law__394 : decode cL_law_ 394 = .ok (.iload 5, 2) := by decide +kernel
theorem dL_law__396 : decode cL_law_ 396 = .ok (.ifCond .ne 15, 3) := by decide +kernel
theorem dL_law__399 : decode cL_law_ 399 = .ok (.aload_n 3, 1) := by decide +kernel
theorem dL_law__400 : decode cL_law_ 400 = .ok (.iconst 0, 1) := by decide +kernel
theorem dL_law__401 : decode cL_law_ 401 = .ok (.laload, 1) := by decide +kernel
theorem dL_law__402 : decode cL_law_ 402 = .ok (.iload 6, 2) := by decide +kernel
theorem dL_law__404 : decode cL_law_ 404 = .ok (.i2l, 1) := by decide +kernel
theorem dL_law__405 : decode cL_law_ 405 = .ok (.lcmp, 1) := by decide +kernel
theorem dL_law__406 : decode cL_law_ 406 = .ok (.ifCond .eq 5, 3) := by decide +kernel
theorem dL_law__409 : decode cL_law_ 409 = .ok (.iconst 0, 1) := by decide +kernel
theorem dL_law__410 : decode cL_law_ 410 = .ok (.ireturn, 1) := by decide +kernel
theorem dL_law__411 : decode cL_law_ 411 = .ok (.goto 2388, 3) := by decide +kernel
theorem dL_law__414 : decode cL_law_ 414 = .ok (.aload_n 1, 1) := by decide +kernel
theorem dL_law__415 : decode cL_law_ 415 = .ok (.aload_n 3, 1) := by decide +kernel
theorem dL_law__416 : decode cL_law_ 416 = .ok (.invokestatic 153, 3) := by decide +kernel
theorem dL_law__419 : decode cL_law_ 419 = .ok (.istore 5, 2) := by decide +kernel
theorem dL_law__421 : decode cL_law_ 421 = .ok (.aload_n 2, 1) := by decide +kernel
theorem dL_law__422 : decode cL_law_ 422 = .ok (.invokevirtual 155, 3) := by decide +kernel
theorem dL_law__425 : decode cL_law_ 425 = .ok (.istore 6, 2) := by decide +kernel
theorem dL_law__427 : decode cL_law_ 427 = .ok (.aload_n 2, 1) := by decide +kernel
theorem dL_law__428 : decode cL_law_ 428 = .ok (.invokevirtual 150, 3) := by decide +kernel
theorem dL_law__431 : decode cL_law_ 431 = .ok (.iload 5, 2) := by decide +kernel
theorem dL_law__433 : decode cL_law_ 433 = .ok (.if_icmp .eq 5, 3) := by decide +kernel
theorem dL_law__436 : decode cL_law_ 436 = .ok (.iconst 0, 1) := by decide +kernel
theorem dL_law__437 : decode cL_law_ 437 = .ok (.ireturn, 1) := by decide +kernel
theorem dL_law__438 : decode cL_law_ 438 = .ok (.iload 5, 2) := by decide +kernel
theorem dL_law__440 : decode cL_law_ 440 = .ok (.ifCond .ne 15, 3) := by decide +kernel
theorem dL_law__443 : decode cL_law_ 443 = .ok (.aload_n 3, 1) := by decide +kernel
theorem dL_law__444 : decode cL_law_ 444 = .ok (.iconst 0, 1) := by decide +kernel
theorem dL_law__445 : decode cL_law_ 445 = .ok (.laload, 1) := by decide +kernel
theorem dL_law__446 : decode cL_law_ 446 = .ok (.iload 6, 2) := by decide +kernel
theorem dL_law__448 : decode cL_law_ 448 = .ok (.i2l, 1) := by decide +kernel
theorem dL_law__449 : decode cL_law_ 449 = .ok (.lcmp, 1) := by decide +kernel
theorem dL_law__450 : decode cL_law_ 450 = .ok (.ifCond .eq 5, 3) := by decide +kernel
theorem dL_law__453 : decode cL_law_ 453 = .ok (.iconst 0, 1) := by decide +kernel
theorem dL_law__454 : decode cL_law_ 454 = .ok (.ireturn, 1) := by decide +kernel
theorem dL_law__455 : decode cL_law_ 455 = .ok (.goto 2344, 3) := by decide +kernel
theorem dL_law__458 : decode cL_law_ 458 = .ok (.aload_n 1, 1) := by decide +kernel
theorem dL_law__459 : decode cL_law_ 459 = .ok (.invokevirtual 156, 3) := by decide +kernel
theorem dL_law__462 : decode cL_law_ 462 = .ok (.aload_n 2, 1) := by decide +kernel
theorem dL_law__463 : decode cL_law_ 463 = .ok (.invokevirtual 159, 3) := by decide +kernel
theorem dL_law__466 : decode cL_law_ 466 = .ok (.if_icmp .eq 2333, 3) := by decide +kernel
theorem dL_law__469 : decode cL_law_ 469 = .ok (.iconst 0, 1) := by decide +kernel
theorem dL_law__470 : decode cL_law_ 470 = .ok (.ireturn, 1) := by decide +kernel
theorem dL_law__471 : decode cL_law_ 471 = .ok (.aload_n 1, 1) := by decide +kernel
theorem dL_law__472 : decode cL_law_ 472 = .ok (.aload_n 0, 1) := by decide +kernel
theorem dL_law__473 : decode cL_law_ 473 = .ok (.iload 4, 2) := by decide +kernel
theorem dL_law__475 : decode cL_law_ 475 = .ok (.iconst 1, 1) := by decide +kernel
theorem dL_law__476 : decode cL_law_ 476 = .ok (.iadd, 1) := by decide +kernel
theorem dL_law__477 : decode cL_law_ 477 = .ok (.iaload, 1) := by decide +kernel
theorem dL_law__478 : decode cL_law_ 478 = .ok (.aload_n 0, 1) := by decide +kernel
theorem dL_law__479 : decode cL_law_ 479 = .ok (.iload 4, 2) := by decide +kernel
theorem dL_law__481 : decode cL_law_ 481 = .ok (.iconst 2, 1) := by decide +kernel
theorem dL_law__482 : decode cL_law_ 482 = .ok (.iadd, 1) := by decide +kernel
theorem dL_law__483 : decode cL_law_ 483 = .ok (.iaload, 1) := by decide +kernel
theorem dL_law__484 : decode cL_law_ 484 = .ok (.aload_n 3, 1) := by decide +kernel
theorem dL_law__485 : decode cL_law_ 485 = .ok (.invokestatic 160, 3) := by decide +kernel
theorem dL_law__488 : decode cL_law_ 488 = .ok (.istore 5, 2) := by decide +kernel
theorem dL_law__490 : decode cL_law_ 490 = .ok (.aload_n 2, 1) := by decide +kernel
theorem dL_law__491 : decode cL_law_ 491 = .ok (.aload_n 0, 1) := by decide +kernel
theorem dL_law__492 : decode cL_law_ 492 = .ok (.iload 4, 2) := by decide +kernel
theorem dL_law__494 : decode cL_law_ 494 = .ok (.iconst 1, 1) := by decide +kernel
theorem dL_law__495 : decode cL_law_ 495 = .ok (.iadd, 1) := by decide +kernel
theorem dL_law__496 : decode cL_law_ 496 = .ok (.iaload, 1) := by decide +kernel
theorem dL_law__497 : decode cL_law_ 497 = .ok (.aload_n 0, 1) := by decide +kernel
theorem dL_law__498 : decode cL_law_ 498 = .ok (.iload 4, 2) := by decide +kernel
theorem dL_law__500 : decode cL_law_ 500 = .ok (.iconst 2, 1) := by decide +kernel
theorem dL_law__501 : decode cL_law_ 501 = .ok (.iadd, 1) := by decide +kernel
theorem dL_law__502 : decode cL_law_ 502 = .ok (.iaload, 1) := by decide +kernel
theorem dL_law__503 : decode cL_law_ 503 = .ok (.invokevirtual 163, 3) := by decide +kernel
theorem dL_law__506 : decode cL_law_ 506 = .ok (.istore 6, 2) := by decide +kernel
theorem dL_law__508 : decode cL_law_ 508 = .ok (.aload_n 2, 1) := by decide +kernel
theorem dL_law__509 : decode cL_law_ 509 = .ok (.invokevirtual 150, 3) := by decide +kernel
theorem dL_law__512 : decode cL_law_ 512 = .ok (.iload 5, 2) := by decide +kernel
theorem dL_law__514 : decode cL_law_ 514 = .ok (.if_icmp .eq 5, 3) := by decide +kernel
theorem dL_law__517 : decode cL_law_ 517 = .ok (.iconst 0, 1) := by decide +kernel
theorem dL_law__518 : decode cL_law_ 518 = .ok (.ireturn, 1) := by decide +kernel
theorem dL_law__519 : decode cL_law_ 519 = .ok (.iload 5, 2) := by decide +kernel
theorem dL_law__521 : decode cL_law_ 521 = .ok (.ifCond .ne 15, 3) := by decide +kernel
theorem dL_law__524 : decode cL_law_ 524 = .ok (.aload_n 3, 1) := by decide +kernel
theorem dL_law__525 : decode cL_law_ 525 = .ok (.iconst 0, 1) := by decide +kernel
theorem dL_law__526 : decode cL_law_ 526 = .ok (.laload, 1) := by decide +kernel
theorem dL_law__527 : decode cL_law_ 527 = .ok (.iload 6, 2) := by decide +kernel
theorem dL_law__529 : decode cL_law_ 529 = .ok (.i2l, 1) := by decide +kernel
theorem dL_law__530 : decode cL_law_ 530 = .ok (.lcmp, 1) := by decide +kernel
theorem dL_law__531 : decode cL_law_ 531 = .ok (.ifCond .eq 5, 3) := by decide +kernel
theorem dL_law__534 : decode cL_law_ 534 = .ok (.iconst 0, 1) := by decide +kernel
theorem dL_law__535 : decode cL_law_ 535 = .ok (.ireturn, 1) := by decide +kernel
theorem dL_law__536 : decode cL_law_ 536 = .ok (.goto 2263, 3) := by decide +kernel
theorem dL_law__539 : decode cL_law_ 539 = .ok (.aload_n 1, 1) := by decide +kernel
theorem dL_law__540 : decode cL_law_ 540 = .ok (.aload_n 0, 1) := by decide +kernel
theorem dL_law__541 : decode cL_law_ 541 = .ok (.iload 4, 2) := by decide +kernel
theorem dL_law__543 : decode cL_law_ 543 = .ok (.iconst 1, 1) := by decide +kernel
theorem dL_law__544 : decode cL_law_ 544 = .ok (.iadd, 1) := by decide +kernel
theorem dL_law__545 : decode cL_law_ 545 = .ok (.iaload, 1) := by decide +kernel
theorem dL_law__546 : decode cL_law_ 546 = .ok (.aload_n 0, 1) := by decide +kernel
theorem dL_law__547 : decode cL_law_ 547 = .ok (.iload 4, 2) := by decide +kernel
theorem dL_law__549 : decode cL_law_ 549 = .ok (.iconst 2, 1) := by decide +kernel
theorem dL_law__550 : decode cL_law_ 550 = .ok (.iadd, 1) := by decide +kernel
theorem dL_law__551 : decode cL_law_ 551 = .ok (.iaload, 1) := by decide +kernel
theorem dL_law__552 : decode cL_law_ 552 = .ok (.aload_n 3, 1) := by decide +kernel
theorem dL_law__553 : decode cL_law_ 553 = .ok (.invokestatic 164, 3) := by decide +kernel
theorem dL_law__556 : decode cL_law_ 556 = .ok (.istore 5, 2) := by decide +kernel
theorem dL_law__558 : decode cL_law_ 558 = .ok (.aload_n 2, 1) := by decide +kernel
theorem dL_law__559 : decode cL_law_ 559 = .ok (.aload_n 0, 1) := by decide +kernel
theorem dL_law__560 : decode cL_law_ 560 = .ok (.iload 4, 2) := by decide +kernel
theorem dL_law__562 : decode cL_law_ 562 = .ok (.iconst 1, 1) := by decide +kernel
theorem dL_law__563 : decode cL_law_ 563 = .ok (.iadd, 1) := by decide +kernel
theorem dL_law__564 : decode cL_law_ 564 = .ok (.iaload, 1) := by decide +kernel
theorem dL_law__565 : decode cL_law_ 565 = .ok (.aload_n 0, 1) := by decide +kernel
theorem dL_law__566 : decode cL_law_ 566 = .ok (.iload 4, 2) := by decide +kernel
theorem dL_law__568 : decode cL_law_ 568 = .ok (.iconst 2, 1) := by decide +kernel
theorem dL_law__569 : decode cL_law_ 569 = .ok (.iadd, 1) := by decide +kernel
theorem dL_law__570 : decode cL_law_ 570 = .ok (.iaload, 1) := by decide +kernel
theorem dL_law__571 : decode cL_law_ 571 = .ok (.invokevirtual 166, 3) := by decide +kernel
theorem dL_law__574 : decode cL_law_ 574 = .ok (.istore 6, 2) := by decide +kernel
theorem dL_law__576 : decode cL_law_ 576 = .ok (.aload_n 2, 1) := by decide +kernel
theorem dL_law__577 : decode cL_law_ 577 = .ok (.invokevirtual 150, 3) := by decide +kernel
theorem dL_law__580 : decode cL_law_ 580 = .ok (.iload 5, 2) := by decide +kernel
theorem dL_law__582 : decode cL_law_ 582 = .ok (.if_icmp .eq 5, 3) := by decide +kernel
theorem dL_law__585 : decode cL_law_ 585 = .ok (.iconst 0, 1) := by decide +kernel
theorem dL_law__586 : decode cL_law_ 586 = .ok (.ireturn, 1) := by decide +kernel
theorem dL_law__587 : decode cL_law_ 587 = .ok (.iload 5, 2) := by decide +kernel
theorem dL_law__589 : decode cL_law_ 589 = .ok (.ifCond .ne 15, 3) := by decide +kernel
theorem dL_law__592 : decode cL_law_ 592 = .ok (.aload_n 3, 1) := by decide +kernel
theorem dL_law__593 : decode cL_law_ 593 = .ok (.iconst 0, 1) := by decide +kernel
theorem dL_law__594 : decode cL_law_ 594 = .ok (.laload, 1) := by decide +kernel
theorem dL_law__595 : decode cL_law_ 595 = .ok (.iload 6, 2) := by decide +kernel
theorem dL_law__597 : decode cL_law_ 597 = .ok (.i2l, 1) := by decide +kernel
theorem dL_law__598 : decode cL_law_ 598 = .ok (.lcmp, 1) := by decide +kernel
theorem dL_law__599 : decode cL_law_ 599 = .ok (.ifCond .eq 5, 3) := by decide +kernel
theorem dL_law__602 : decode cL_law_ 602 = .ok (.iconst 0, 1) := by decide +kernel
theorem dL_law__603 : decode cL_law_ 603 = .ok (.ireturn, 1) := by decide +kernel
theorem dL_law__604 : decode cL_law_ 604 = .ok (.goto 2195, 3) := by decide +kernel
theorem dL_law__607 : decode cL_law_ 607 = .ok (.aload_n 1, 1) := by decide +kernel
theorem dL_law__608 : decode cL_law_ 608 = .ok (.aload_n 0, 1) := by decide +kernel
theorem dL_law__609 : decode cL_law_ 609 = .ok (.iload 4, 2) := by decide +kernel
theorem dL_law__611 : decode cL_law_ 611 = .ok (.iconst 1, 1) := by decide +kernel
theorem dL_law__612 : decode cL_law_ 612 = .ok (.iadd, 1) := by decide +kernel
theorem dL_law__613 : decode cL_law_ 613 = .ok (.iaload, 1) := by decide +kernel
theorem dL_law__614 : decode cL_law_ 614 = .ok (.aload_n 0, 1) := by decide +kernel
theorem dL_law__615 : decode cL_law_ 615 = .ok (.iload 4, 2) := by decide +kernel
theorem dL_law__617 : decode cL_law_ 617 = .ok (.iconst 2, 1) := by decide +kernel
theorem dL_law__618 : decode cL_law_ 618 = .ok (.iadd, 1) := by decide +kernel
theorem dL_law__619 : decode cL_law_ 619 = .ok (.iaload, 1) := by decide +kernel
theorem dL_law__620 : decode cL_law_ 620 = .ok (.aload_n 3, 1) := by decide +kernel
theorem dL_law__621 : decode cL_law_ 621 = .ok (.invokestatic 167, 3) := by decide +kernel
theorem dL_law__624 : decode cL_law_ 624 = .ok (.istore 5, 2) := by decide +kernel
theorem dL_law__626 : decode cL_law_ 626 = .ok (.aload_n 2, 1) := by decide +kernel
theorem dL_law__627 : decode cL_law_ 627 = .ok (.aload_n 0, 1) := by decide +kernel
theorem dL_law__628 : decode cL_law_ 628 = .ok (.iload 4, 2) := by decide +kernel
theorem dL_law__630 : decode cL_law_ 630 = .ok (.iconst 1, 1) := by decide +kernel
theorem dL_law__631 : decode cL_law_ 631 = .ok (.iadd, 1) := by decide +kernel
theorem dL_law__632 : decode cL_law_ 632 = .ok (.iaload, 1) := by decide +kernel
theorem dL_law__633 : decode cL_law_ 633 = .ok (.aload_n 0, 1) := by decide +kernel
theorem dL_law__634 : decode cL_law_ 634 = .ok (.iload 4, 2) := by decide +kernel
theorem dL_law__636 : decode cL_law_ 636 = .ok (.iconst 2, 1) := by decide +kernel
theorem dL_law__637 : decode cL_law_ 637 = .ok (.iadd, 1) := by decide +kernel
theorem dL_law__638 : decode cL_law_ 638 = .ok (.iaload, 1) := by decide +kernel
theorem dL_law__639 : decode cL_law_ 639 = .ok (.invokevirtual 169, 3) := by decide +kernel
theorem dL_law__642 : decode cL_law_ 642 = .ok (.istore 6, 2) := by decide +kernel
theorem dL_law__644 : decode cL_law_ 644 = .ok (.aload_n 2, 1) := by decide +kernel
theorem dL_law__645 : decode cL_law_ 645 = .ok (.invokevirtual 150, 3) := by decide +kernel
theorem dL_law__648 : decode cL_law_ 648 = .ok (.iload 5, 2) := by decide +kernel
theorem dL_law__650 : decode cL_law_ 650 = .ok (.if_icmp .eq 5, 3) := by decide +kernel
theorem dL_law__653 : decode cL_law_ 653 = .ok (.iconst 0, 1) := by decide +kernel
theorem dL_law__654 : decode cL_law_ 654 = .ok (.ireturn, 1) := by decide +kernel
theorem dL_law__655 : decode cL_law_ 655 = .ok (.iload 5, 2) := by decide +kernel
theorem dL_law__657 : decode cL_law_ 657 = .ok (.ifCond .ne 15, 3) := by decide +kernel
theorem dL_law__660 : decode cL_law_ 660 = .ok (.aload_n 3, 1) := by decide +kernel
theorem dL_law__661 : decode cL_law_ 661 = .ok (.iconst 0, 1) := by decide +kernel
theorem dL_law__662 : decode cL_law_ 662 = .ok (.laload, 1) := by decide +kernel
theorem dL_law__663 : decode cL_law_ 663 = .ok (.iload 6, 2) := by decide +kernel
theorem dL_law__665 : decode cL_law_ 665 = .ok (.i2l, 1) := by decide +kernel
theorem dL_law__666 : decode cL_law_ 666 = .ok (.lcmp, 1) := by decide +kernel
theorem dL_law__667 : decode cL_law_ 667 = .ok (.ifCond .eq 5, 3) := by decide +kernel
theorem dL_law__670 : decode cL_law_ 670 = .ok (.iconst 0, 1) := by decide +kernel
theorem dL_law__671 : decode cL_law_ 671 = .ok (.ireturn, 1) := by decide +kernel
theorem dL_law__672 : decode cL_law_ 672 = .ok (.goto 2127, 3) := by decide +kernel
theorem dL_law__675 : decode cL_law_ 675 = .ok (.aload_n 1, 1) := by decide +kernel
theorem dL_law__676 : decode cL_law_ 676 = .ok (.aload_n 0, 1) := by decide +kernel
theorem dL_law__677 : decode cL_law_ 677 = .ok (.iload 4, 2) := by decide +kernel
theorem dL_law__679 : decode cL_law_ 679 = .ok (.iconst 1, 1) := by decide +kernel
theorem dL_law__680 : decode cL_law_ 680 = .ok (.iadd, 1) := by decide +kernel
theorem dL_law__681 : decode cL_law_ 681 = .ok (.iaload, 1) := by decide +kernel
theorem dL_law__682 : decode cL_law_ 682 = .ok (.aload_n 3, 1) := by decide +kernel
theorem dL_law__683 : decode cL_law_ 683 = .ok (.invokestatic 170, 3) := by decide +kernel
theorem dL_law__686 : decode cL_law_ 686 = .ok (.istore 5, 2) := by decide +kernel
theorem dL_law__688 : decode cL_law_ 688 = .ok (.aload_n 2, 1) := by decide +kernel
theorem dL_law__689 : decode cL_law_ 689 = .ok (.aload_n 0, 1) := by decide +kernel
theorem dL_law__690 : decode cL_law_ 690 = .ok (.iload 4, 2) := by decide +kernel
theorem dL_law__692 : decode cL_law_ 692 = .ok (.iconst 1, 1) := by decide +kernel
theorem dL_law__693 : decode cL_law_ 693 = .ok (.iadd, 1) := by decide +kernel
theorem dL_law__694 : decode cL_law_ 694 = .ok (.iaload, 1) := by decide +kernel
theorem dL_law__695 : decode cL_law_ 695 = .ok (.invokevirtual 173, 3) := by decide +kernel
theorem dL_law__698 : decode cL_law_ 698 = .ok (.istore 6, 2) := by decide +kernel
theorem dL_law__700 : decode cL_law_ 700 = .ok (.aload_n 2, 1) := by decide +kernel
theorem dL_law__701 : decode cL_law_ 701 = .ok (.invokevirtual 150, 3) := by decide +kernel
theorem dL_law__704 : decode cL_law_ 704 = .ok (.iload 5, 2) := by decide +kernel
theorem dL_law__706 : decode cL_law_ 706 = .ok (.if_icmp .eq 5, 3) := by decide +kernel
theorem dL_law__709 : decode cL_law_ 709 = .ok (.iconst 0, 1) := by decide +kernel
theorem dL_law__710 : decode cL_law_ 710 = .ok (.ireturn, 1) := by decide +kernel
theorem dL_law__711 : decode cL_law_ 711 = .ok (.iload 5, 2) := by decide +kernel
theorem dL_law__713 : decode cL_law_ 713 = .ok (.ifCond .ne 15, 3) := by decide +kernel
theorem dL_law__716 : decode cL_law_ 716 = .ok (.aload_n 3, 1) := by decide +kernel
theorem dL_law__717 : decode cL_law_ 717 = .ok (.iconst 0, 1) := by decide +kernel
theorem dL_law__718 : decode cL_law_ 718 = .ok (.laload, 1) := by decide +kernel
theorem dL_law__719 : decode cL_law_ 719 = .ok (.iload 6, 2) := by decide +kernel
theorem dL_law__721 : decode cL_law_ 721 = .ok (.i2l, 1) := by decide +kernel
theorem dL_law__722 : decode cL_law_ 722 = .ok (.lcmp, 1) := by decide +kernel
theorem dL_law__723 : decode cL_law_ 723 = .ok (.ifCond .eq 5, 3) := by decide +kernel
theorem dL_law__726 : decode cL_law_ 726 = .ok (.iconst 0, 1) := by decide +kernel
theorem dL_law__727 : decode cL_law_ 727 = .ok (.ireturn, 1) := by decide +kernel
theorem dL_law__728 : decode cL_law_ 728 = .ok (.goto 2071, 3) := by decide +kernel
theorem dL_law__731 : decode cL_law_ 731 = .ok (.aload_n 1, 1) := by decide +kernel
theorem dL_law__732 : decode cL_law_ 732 = .ok (.aload_n 0, 1) := by decide +kernel
theorem dL_law__733 : decode cL_law_ 733 = .ok (.iload 4, 2) := by decide +kernel
theorem dL_law__735 : decode cL_law_ 735 = .ok (.iconst 1, 1) := by decide +kernel
theorem dL_law__736 : decode cL_law_ 736 = .ok (.iadd, 1) := by decide +kernel
theorem dL_law__737 : decode cL_law_ 737 = .ok (.iaload, 1) := by decide +kernel
theorem dL_law__738 : decode cL_law_ 738 = .ok (.aload_n 0, 1) := by decide +kernel
theorem dL_law__739 : decode cL_law_ 739 = .ok (.iload 4, 2) := by decide +kernel
theorem dL_law__741 : decode cL_law_ 741 = .ok (.iconst 2, 1) := by decide +kernel
theorem dL_law__742 : decode cL_law_ 742 = .ok (.iadd, 1) := by decide +kernel
theorem dL_law__743 : decode cL_law_ 743 = .ok (.iaload, 1) := by decide +kernel
theorem dL_law__744 : decode cL_law_ 744 = .ok (.aload_n 0, 1) := by decide +kernel
theorem dL_law__745 : decode cL_law_ 745 = .ok (.iload 4, 2) := by decide +kernel
theorem dL_law__747 : decode cL_law_ 747 = .ok (.iconst 3, 1) := by decide +kernel
theorem dL_law__748 : decode cL_law_ 748 = .ok (.iadd, 1) := by decide +kernel
theorem dL_law__749 : decode cL_law_ 749 = .ok (.iaload, 1) := by decide +kernel
theorem dL_law__750 : decode cL_law_ 750 = .ok (.aload_n 0, 1) := by decide +kernel
theorem dL_law__751 : decode cL_law_ 751 = .ok (.iload 4, 2) := by decide +kernel
theorem dL_law__753 : decode cL_law_ 753 = .ok (.iconst 4, 1) := by decide +kernel
theorem dL_law__754 : decode cL_law_ 754 = .ok (.iadd, 1) := by decide +kernel
theorem dL_law__755 : decode cL_law_ 755 = .ok (.iaload, 1) := by decide +kernel
theorem dL_law__756 : decode cL_law_ 756 = .ok (.aload_n 3, 1) := by decide +kernel
theorem dL_law__757 : decode cL_law_ 757 = .ok (.invokestatic 174, 3) := by decide +kernel
theorem dL_law__760 : decode cL_law_ 760 = .ok (.istore 5, 2) := by decide +kernel
theorem dL_law__762 : decode cL_law_ 762 = .ok (.aload_n 2, 1) := by decide +kernel
theorem dL_law__763 : decode cL_law_ 763 = .ok (.aload_n 0, 1) := by decide +kernel
theorem dL_law__764 : decode cL_law_ 764 = .ok (.iload 4, 2) := by decide +kernel
theorem dL_law__766 : decode cL_law_ 766 = .ok (.iconst 1, 1) := by decide +kernel
theorem dL_law__767 : decode cL_law_ 767 = .ok (.iadd, 1) := by decide +kernel
theorem dL_law__768 : decode cL_law_ 768 = .ok (.iaload, 1) := by decide +kernel
theorem dL_law__769 : decode cL_law_ 769 = .ok (.aload_n 0, 1) := by decide +kernel
theorem dL_law__770 : decode cL_law_ 770 = .ok (.iload 4, 2) := by decide +kernel
theorem dL_law__772 : decode cL_law_ 772 = .ok (.iconst 2, 1) := by decide +kernel
theorem dL_law__773 : decode cL_law_ 773 = .ok (.iadd, 1) := by decide +kernel
theorem dL_law__774 : decode cL_law_ 774 = .ok (.iaload, 1) := by decide +kernel
theorem dL_law__775 : decode cL_law_ 775 = .ok (.aload_n 0, 1) := by decide +kernel
theorem dL_law__776 : decode cL_law_ 776 = .ok (.iload 4, 2) := by decide +kernel
theorem dL_law__778 : decode cL_law_ 778 = .ok (.iconst 3, 1) := by decide +kernel
theorem dL_law__779 : decode cL_law_ 779 = .ok (.iadd, 1) := by decide +kernel
theorem dL_law__780 : decode cL_law_ 780 = .ok (.iaload, 1) := by decide +kernel
theorem dL_law__781 : decode cL_law_ 781 = .ok (.aload_n 0, 1) := by decide +kernel
theorem dL_law__782 : decode cL_law_ 782 = .ok (.iload 4, 2) := by decide +kernel
theorem dL_law__784 : decode cL_law_ 784 = .ok (.iconst 4, 1) := by decide +kernel
theorem dL_law__785 : decode cL_law_ 785 = .ok (.iadd, 1) := by decide +kernel
theorem dL_law__786 : decode cL_law_ 786 = .ok (.iaload, 1) := by decide +kernel
theorem dL_law__787 : decode cL_law_ 787 = .ok (.invokevirtual 177, 3) := by decide +kernel
theorem dL_law__790 : decode cL_law_ 790 = .ok (.istore 6, 2) := by decide +kernel
theorem dL_law__792 : decode cL_law_ 792 = .ok (.aload_n 2, 1) := by decide +kernel
theorem dL_law__793 : decode cL_law_ 793 = .ok (.invokevirtual 150, 3) := by decide +kernel
theorem dL_law__796 : decode cL_law_ 796 = .ok (.iload 5, 2) := by decide +kernel
theorem dL_law__798 : decode cL_law_ 798 = .ok (.if_icmp .eq 5, 3) := by decide +kernel
theorem dL_law__801 : decode cL_law_ 801 = .ok (.iconst 0, 1) := by decide +kernel
theorem dL_law__802 : decode cL_law_ 802 = .ok (.ireturn, 1) := by decide +kernel
theorem dL_law__803 : decode cL_law_ 803 = .ok (.iload 5, 2) := by decide +kernel
theorem dL_law__805 : decode cL_law_ 805 = .ok (.ifCond .ne 15, 3) := by decide +kernel
theorem dL_law__808 : decode cL_law_ 808 = .ok (.aload_n 3, 1) := by decide +kernel
theorem dL_law__809 : decode cL_law_ 809 = .ok (.iconst 0, 1) := by decide +kernel
theorem dL_law__810 : decode cL_law_ 810 = .ok (.laload, 1) := by decide +kernel
theorem dL_law__811 : decode cL_law_ 811 = .ok (.iload 6, 2) := by decide +kernel
theorem dL_law__813 : decode cL_law_ 813 = .ok (.i2l, 1) := by decide +kernel
theorem dL_law__814 : decode cL_law_ 814 = .ok (.lcmp, 1) := by decide +kernel
theorem dL_law__815 : decode cL_law_ 815 = .ok (.ifCond .eq 5, 3) := by decide +kernel
theorem dL_law__818 : decode cL_law_ 818 = .ok (.iconst 0, 1) := by decide +kernel
theorem dL_law__819 : decode cL_law_ 819 = .ok (.ireturn, 1) := by decide +kernel
theorem dL_law__820 : decode cL_law_ 820 = .ok (.goto 1979, 3) := by decide +kernel
theorem dL_law__823 : decode cL_law_ 823 = .ok (.aload_n 1, 1) := by decide +kernel
theorem dL_law__824 : decode cL_law_ 824 = .ok (.aload_n 0, 1) := by decide +kernel
theorem dL_law__825 : decode cL_law_ 825 = .ok (.iload 4, 2) := by decide +kernel
theorem dL_law__827 : decode cL_law_ 827 = .ok (.iconst 1, 1) := by decide +kernel
theorem dL_law__828 : decode cL_law_ 828 = .ok (.iadd, 1) := by decide +kernel
theorem dL_law__829 : decode cL_law_ 829 = .ok (.iaload, 1) := by decide +kernel
theorem dL_law__830 : decode cL_law_ 830 = .ok (.aload_n 0, 1) := by decide +kernel
theorem dL_law__831 : decode cL_law_ 831 = .ok (.iload 4, 2) := by decide +kernel
theorem dL_law__833 : decode cL_law_ 833 = .ok (.iconst 2, 1) := by decide +kernel
theorem dL_law__834 : decode cL_law_ 834 = .ok (.iadd, 1) := by decide +kernel
theorem dL_law__835 : decode cL_law_ 835 = .ok (.iaload, 1) := by decide +kernel
theorem dL_law__836 : decode cL_law_ 836 = .ok (.aload_n 0, 1) := by decide +kernel
theorem dL_law__837 : decode cL_law_ 837 = .ok (.iload 4, 2) := by decide +kernel
theorem dL_law__839 : decode cL_law_ 839 = .ok (.iconst 3, 1) := by decide +kernel
theorem dL_law__840 : decode cL_law_ 840 = .ok (.iadd, 1) := by decide +kernel
theorem dL_law__841 : decode cL_law_ 841 = .ok (.iaload, 1) := by decide +kernel
theorem dL_law__842 : decode cL_law_ 842 = .ok (.aload_n 3, 1) := by decide +kernel
theorem dL_law__843 : decode cL_law_ 843 = .ok (.invokestatic 178, 3) := by decide +kernel
theorem dL_law__846 : decode cL_law_ 846 = .ok (.istore 5, 2) := by decide +kernel
theorem dL_law__848 : decode cL_law_ 848 = .ok (.aload_n 2, 1) := by decide +kernel
theorem dL_law__849 : decode cL_law_ 849 = .ok (.aload_n 0, 1) := by decide +kernel
theorem dL_law__850 : decode cL_law_ 850 = .ok (.iload 4, 2) := by decide +kernel
theorem dL_law__852 : decode cL_law_ 852 = .ok (.iconst 1, 1) := by decide +kernel
theorem dL_law__853 : decode cL_law_ 853 = .ok (.iadd, 1) := by decide +kernel
theorem dL_law__854 : decode cL_law_ 854 = .ok (.iaload, 1) := by decide +kernel
theorem dL_law__855 : decode cL_law_ 855 = .ok (.aload_n 0, 1) := by decide +kernel
theorem dL_law__856 : decode cL_law_ 856 = .ok (.iload 4, 2) := by decide +kernel
theorem dL_law__858 : decode cL_law_ 858 = .ok (.iconst 2, 1) := by decide +kernel
theorem dL_law__859 : decode cL_law_ 859 = .ok (.iadd, 1) := by decide +kernel
