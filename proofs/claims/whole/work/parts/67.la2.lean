/-! ===== the law: its code, by program ===== -/
theorem d_law_0 : decode code 0 = .ok (.new 7, 3) := by decide +kernel
theorem d_law_3 : decode code 3 = .ok (.dup, 1) := by decide +kernel
theorem d_law_4 : decode code 4 = .ok (.invokespecial 9, 3) := by decide +kernel
theorem d_law_7 : decode code 7 = .ok (.astore_n 1, 1) := by decide +kernel
theorem d_law_8 : decode code 8 = .ok (.new 10, 3) := by decide +kernel
theorem d_law_11 : decode code 11 = .ok (.dup, 1) := by decide +kernel
theorem d_law_12 : decode code 12 = .ok (.invokespecial 12, 3) := by decide +kernel
theorem d_law_15 : decode code 15 = .ok (.astore_n 2, 1) := by decide +kernel
theorem d_law_16 : decode code 16 = .ok (.iconst 0, 1) := by decide +kernel
theorem d_law_17 : decode code 17 = .ok (.istore_n 3, 1) := by decide +kernel
theorem d_law_18 : decode code 18 = .ok (.iload_n 3, 1) := by decide +kernel
theorem d_law_19 : decode code 19 = .ok (.aload_n 0, 1) := by decide +kernel
theorem d_law_20 : decode code 20 = .ok (.arraylength, 1) := by decide +kernel
theorem d_law_21 : decode code 21 = .ok (.bipush 6, 2) := by decide +kernel
theorem d_law_23 : decode code 23 = .ok (.isub, 1) := by decide +kernel
theorem d_law_24 : decode code 24 = .ok (.if_icmp .gt 1199, 3) := by decide +kernel
theorem d_law_27 : decode code 27 = .ok (.aload_n 0, 1) := by decide +kernel
theorem d_law_28 : decode code 28 = .ok (.iload_n 3, 1) := by decide +kernel
theorem d_law_29 : decode code 29 = .ok (.iaload, 1) := by decide +kernel
theorem d_law_30 : decode code 30 = .ok (.bipush 63, 2) := by decide +kernel
theorem d_law_32 : decode code 32 = .ok (.iand, 1) := by decide +kernel
theorem d_law_33 : decode code 33 = .ok (.tableswitch 1184 0 37 #[167, 200, 243, 276, 299, 362, 385, 418, 461, 484, 507, 540, 573, 596, 609, 642, 665, 688, 711, 744, 757, 780, 803, 836, 859, 882, 915, 948, 971, 1004, 1037, 1070, 1083, 1097, 1111, 1134, 1147, 1170], 167) := by decide +kernel
theorem d_law_200 : decode code 200 = .ok (.aload_n 1, 1) := by decide +kernel
theorem da_201 : lw_aok 201 1 := by unfold lw_aok; decide +kernel
theorem da_206 : lw_aok 206 2 := by unfold lw_aok; decide +kernel
theorem d_law_211 : decode code 211 = .ok (.invokevirtual 13, 3) := by decide +kernel
theorem d_law_214 : decode code 214 = .ok (.aload_n 2, 1) := by decide +kernel
theorem da_215 : lw_aok 215 1 := by unfold lw_aok; decide +kernel
theorem da_220 : lw_aok 220 2 := by unfold lw_aok; decide +kernel
theorem d_law_225 : decode code 225 = .ok (.invokevirtual 17, 3) := by decide +kernel
theorem d_law_228 : decode code 228 = .ok (.if_icmp .eq 989, 3) := by decide +kernel
theorem d_law_231 : decode code 231 = .ok (.iconst 0, 1) := by decide +kernel
theorem d_law_232 : decode code 232 = .ok (.ireturn, 1) := by decide +kernel
theorem d_law_233 : decode code 233 = .ok (.aload_n 1, 1) := by decide +kernel
theorem da_234 : lw_aok 234 1 := by unfold lw_aok; decide +kernel
theorem da_239 : lw_aok 239 2 := by unfold lw_aok; decide +kernel
theorem da_244 : lw_aok 244 3 := by unfold lw_aok; decide +kernel
theorem d_law_249 : decode code 249 = .ok (.invokevirtual 18, 3) := by decide +kernel
theorem d_law_252 : decode code 252 = .ok (.aload_n 2, 1) := by decide +kernel
theorem da_253 : lw_aok 253 1 := by unfold lw_aok; decide +kernel
theorem da_258 : lw_aok 258 2 := by unfold lw_aok; decide +kernel
theorem da_263 : lw_aok 263 3 := by unfold lw_aok; decide +kernel
theorem d_law_268 : decode code 268 = .ok (.invokevirtual 22, 3) := by decide +kernel
theorem d_law_271 : decode code 271 = .ok (.if_icmp .eq 946, 3) := by decide +kernel
theorem d_law_274 : decode code 274 = .ok (.iconst 0, 1) := by decide +kernel
theorem d_law_275 : decode code 275 = .ok (.ireturn, 1) := by decide +kernel
theorem d_law_276 : decode code 276 = .ok (.aload_n 1, 1) := by decide +kernel
theorem da_277 : lw_aok 277 1 := by unfold lw_aok; decide +kernel
theorem da_282 : lw_aok 282 2 := by unfold lw_aok; decide +kernel
theorem d_law_287 : decode code 287 = .ok (.invokevirtual 23, 3) := by decide +kernel
theorem d_law_290 : decode code 290 = .ok (.aload_n 2, 1) := by decide +kernel
theorem da_291 : lw_aok 291 1 := by unfold lw_aok; decide +kernel
theorem da_296 : lw_aok 296 2 := by unfold lw_aok; decide +kernel
theorem d_law_301 : decode code 301 = .ok (.invokevirtual 26, 3) := by decide +kernel
theorem d_law_304 : decode code 304 = .ok (.if_icmp .eq 913, 3) := by decide +kernel
theorem d_law_307 : decode code 307 = .ok (.iconst 0, 1) := by decide +kernel
theorem d_law_308 : decode code 308 = .ok (.ireturn, 1) := by decide +kernel
theorem d_law_309 : decode code 309 = .ok (.aload_n 1, 1) := by decide +kernel
theorem da_310 : lw_aok 310 1 := by unfold lw_aok; decide +kernel
theorem d_law_315 : decode code 315 = .ok (.invokevirtual 27, 3) := by decide +kernel
theorem d_law_318 : decode code 318 = .ok (.aload_n 2, 1) := by decide +kernel
theorem da_319 : lw_aok 319 1 := by unfold lw_aok; decide +kernel
theorem d_law_324 : decode code 324 = .ok (.invokevirtual 31, 3) := by decide +kernel
theorem d_law_327 : decode code 327 = .ok (.if_icmp .eq 890, 3) := by decide +kernel
theorem d_law_330 : decode code 330 = .ok (.iconst 0, 1) := by decide +kernel
theorem d_law_331 : decode code 331 = .ok (.ireturn, 1) := by decide +kernel
theorem d_law_332 : decode code 332 = .ok (.aload_n 1, 1) := by decide +kernel
theorem da_333 : lw_aok 333 1 := by unfold lw_aok; decide +kernel
theorem da_338 : lw_aok 338 2 := by unfold lw_aok; decide +kernel
theorem da_343 : lw_aok 343 3 := by unfold lw_aok; decide +kernel
theorem da_348 : lw_aok 348 4 := by unfold lw_aok; decide +kernel
theorem da_353 : lw_aok 353 5 := by unfold lw_aok; decide +kernel
theorem d_law_358 : decode code 358 = .ok (.invokevirtual 32, 3) := by decide +kernel
theorem d_law_361 : decode code 361 = .ok (.aload_n 2, 1) := by decide +kernel
theorem da_362 : lw_aok 362 1 := by unfold lw_aok; decide +kernel
theorem da_367 : lw_aok 367 2 := by unfold lw_aok; decide +kernel
theorem da_372 : lw_aok 372 3 := by unfold lw_aok; decide +kernel
theorem da_377 : lw_aok 377 4 := by unfold lw_aok; decide +kernel
theorem da_382 : lw_aok 382 5 := by unfold lw_aok; decide +kernel
theorem d_law_387 : decode code 387 = .ok (.invokevirtual 36, 3) := by decide +kernel
theorem d_law_390 : decode code 390 = .ok (.if_icmp .eq 827, 3) := by decide +kernel
theorem d_law_393 : decode code 393 = .ok (.iconst 0, 1) := by decide +kernel
theorem d_law_394 : decode code 394 = .ok (.ireturn, 1) := by decide +kernel
theorem d_law_395 : decode code 395 = .ok (.aload_n 1, 1) := by decide +kernel
theorem da_396 : lw_aok 396 1 := by unfold lw_aok; decide +kernel
theorem d_law_401 : decode code 401 = .ok (.invokevirtual 37, 3) := by decide +kernel
theorem d_law_404 : decode code 404 = .ok (.aload_n 2, 1) := by decide +kernel
theorem da_405 : lw_aok 405 1 := by unfold lw_aok; decide +kernel
theorem d_law_410 : decode code 410 = .ok (.invokevirtual 40, 3) := by decide +kernel
theorem d_law_413 : decode code 413 = .ok (.if_icmp .eq 804, 3) := by decide +kernel
theorem d_law_416 : decode code 416 = .ok (.iconst 0, 1) := by decide +kernel
theorem d_law_417 : decode code 417 = .ok (.ireturn, 1) := by decide +kernel
theorem d_law_418 : decode code 418 = .ok (.aload_n 1, 1) := by decide +kernel
theorem da_419 : lw_aok 419 1 := by unfold lw_aok; decide +kernel
theorem da_424 : lw_aok 424 2 := by unfold lw_aok; decide +kernel
theorem d_law_429 : decode code 429 = .ok (.invokevirtual 41, 3) := by decide +kernel
theorem d_law_432 : decode code 432 = .ok (.aload_n 2, 1) := by decide +kernel
theorem da_433 : lw_aok 433 1 := by unfold lw_aok; decide +kernel
theorem da_438 : lw_aok 438 2 := by unfold lw_aok; decide +kernel
theorem d_law_443 : decode code 443 = .ok (.invokevirtual 44, 3) := by decide +kernel
theorem d_law_446 : decode code 446 = .ok (.if_icmp .eq 771, 3) := by decide +kernel
theorem d_law_449 : decode code 449 = .ok (.iconst 0, 1) := by decide +kernel
theorem d_law_450 : decode code 450 = .ok (.ireturn, 1) := by decide +kernel
theorem d_law_451 : decode code 451 = .ok (.aload_n 1, 1) := by decide +kernel
theorem da_452 : lw_aok 452 1 := by unfold lw_aok; decide +kernel
theorem da_457 : lw_aok 457 2 := by unfold lw_aok; decide +kernel
theorem da_462 : lw_aok 462 3 := by unfold lw_aok; decide +kernel
theorem d_law_467 : decode code 467 = .ok (.invokevirtual 45, 3) := by decide +kernel
theorem d_law_470 : decode code 470 = .ok (.aload_n 2, 1) := by decide +kernel
theorem da_471 : lw_aok 471 1 := by unfold lw_aok; decide +kernel
theorem da_476 : lw_aok 476 2 := by unfold lw_aok; decide +kernel
theorem da_481 : lw_aok 481 3 := by unfold lw_aok; decide +kernel
theorem d_law_486 : decode code 486 = .ok (.invokevirtual 48, 3) := by decide +kernel
theorem d_law_489 : decode code 489 = .ok (.if_icmp .eq 728, 3) := by decide +kernel
theorem d_law_492 : decode code 492 = .ok (.iconst 0, 1) := by decide +kernel
theorem d_law_493 : decode code 493 = .ok (.ireturn, 1) := by decide +kernel
theorem d_law_494 : decode code 494 = .ok (.aload_n 1, 1) := by decide +kernel
theorem da_495 : lw_aok 495 1 := by unfold lw_aok; decide +kernel
theorem d_law_500 : decode code 500 = .ok (.invokevirtual 49, 3) := by decide +kernel
theorem d_law_503 : decode code 503 = .ok (.aload_n 2, 1) := by decide +kernel
theorem da_504 : lw_aok 504 1 := by unfold lw_aok; decide +kernel
theorem d_law_509 : decode code 509 = .ok (.invokevirtual 52, 3) := by decide +kernel
theorem d_law_512 : decode code 512 = .ok (.if_icmp .eq 705, 3) := by decide +kernel
theorem d_law_515 : decode code 515 = .ok (.iconst 0, 1) := by decide +kernel
theorem d_law_516 : decode code 516 = .ok (.ireturn, 1) := by decide +kernel
theorem d_law_517 : decode code 517 = .ok (.aload_n 1, 1) := by decide +kernel
theorem da_518 : lw_aok 518 1 := by unfold lw_aok; decide +kernel
theorem d_law_523 : decode code 523 = .ok (.invokevirtual 53, 3) := by decide +kernel
theorem d_law_526 : decode code 526 = .ok (.aload_n 2, 1) := by decide +kernel
theorem da_527 : lw_aok 527 1 := by unfold lw_aok; decide +kernel
theorem d_law_532 : decode code 532 = .ok (.invokevirtual 56, 3) := by decide +kernel
theorem d_law_535 : decode code 535 = .ok (.if_icmp .eq 682, 3) := by decide +kernel
theorem d_law_538 : decode code 538 = .ok (.iconst 0, 1) := by decide +kernel
theorem d_law_539 : decode code 539 = .ok (.ireturn, 1) := by decide +kernel
theorem d_law_540 : decode code 540 = .ok (.aload_n 1, 1) := by decide +kernel
theorem da_541 : lw_aok 541 1 := by unfold lw_aok; decide +kernel
theorem da_546 : lw_aok 546 2 := by unfold lw_aok; decide +kernel
theorem d_law_551 : decode code 551 = .ok (.invokevirtual 57, 3) := by decide +kernel
theorem d_law_554 : decode code 554 = .ok (.aload_n 2, 1) := by decide +kernel
theorem da_555 : lw_aok 555 1 := by unfold lw_aok; decide +kernel
theorem da_560 : lw_aok 560 2 := by unfold lw_aok; decide +kernel
theorem d_law_565 : decode code 565 = .ok (.invokevirtual 60, 3) := by decide +kernel
theorem d_law_568 : decode code 568 = .ok (.if_icmp .eq 649, 3) := by decide +kernel
theorem d_law_571 : decode code 571 = .ok (.iconst 0, 1) := by decide +kernel
theorem d_law_572 : decode code 572 = .ok (.ireturn, 1) := by decide +kernel
theorem d_law_573 : decode code 573 = .ok (.aload_n 1, 1) := by decide +kernel
theorem da_574 : lw_aok 574 1 := by unfold lw_aok; decide +kernel
theorem da_579 : lw_aok 579 2 := by unfold lw_aok; decide +kernel
theorem d_law_584 : decode code 584 = .ok (.invokevirtual 61, 3) := by decide +kernel
theorem d_law_587 : decode code 587 = .ok (.aload_n 2, 1) := by decide +kernel
theorem da_588 : lw_aok 588 1 := by unfold lw_aok; decide +kernel
theorem da_593 : lw_aok 593 2 := by unfold lw_aok; decide +kernel
theorem d_law_598 : decode code 598 = .ok (.invokevirtual 64, 3) := by decide +kernel
theorem d_law_601 : decode code 601 = .ok (.if_icmp .eq 616, 3) := by decide +kernel
theorem d_law_604 : decode code 604 = .ok (.iconst 0, 1) := by decide +kernel
theorem d_law_605 : decode code 605 = .ok (.ireturn, 1) := by decide +kernel
theorem d_law_606 : decode code 606 = .ok (.aload_n 1, 1) := by decide +kernel
theorem da_607 : lw_aok 607 1 := by unfold lw_aok; decide +kernel
theorem d_law_612 : decode code 612 = .ok (.invokevirtual 65, 3) := by decide +kernel
theorem d_law_615 : decode code 615 = .ok (.aload_n 2, 1) := by decide +kernel
theorem da_616 : lw_aok 616 1 := by unfold lw_aok; decide +kernel
theorem d_law_621 : decode code 621 = .ok (.invokevirtual 68, 3) := by decide +kernel
theorem d_law_624 : decode code 624 = .ok (.if_icmp .eq 593, 3) := by decide +kernel
theorem d_law_627 : decode code 627 = .ok (.iconst 0, 1) := by decide +kernel
theorem d_law_628 : decode code 628 = .ok (.ireturn, 1) := by decide +kernel
theorem d_law_629 : decode code 629 = .ok (.aload_n 1, 1) := by decide +kernel
theorem d_law_630 : decode code 630 = .ok (.invokevirtual 69, 3) := by decide +kernel
theorem d_law_633 : decode code 633 = .ok (.aload_n 2, 1) := by decide +kernel
theorem d_law_634 : decode code 634 = .ok (.invokevirtual 73, 3) := by decide +kernel
theorem d_law_637 : decode code 637 = .ok (.if_icmp .eq 580, 3) := by decide +kernel
theorem d_law_640 : decode code 640 = .ok (.iconst 0, 1) := by decide +kernel
theorem d_law_641 : decode code 641 = .ok (.ireturn, 1) := by decide +kernel
theorem d_law_642 : decode code 642 = .ok (.aload_n 1, 1) := by decide +kernel
theorem da_643 : lw_aok 643 1 := by unfold lw_aok; decide +kernel
theorem da_648 : lw_aok 648 2 := by unfold lw_aok; decide +kernel
theorem d_law_653 : decode code 653 = .ok (.invokevirtual 74, 3) := by decide +kernel
theorem d_law_656 : decode code 656 = .ok (.aload_n 2, 1) := by decide +kernel
theorem da_657 : lw_aok 657 1 := by unfold lw_aok; decide +kernel
theorem da_662 : lw_aok 662 2 := by unfold lw_aok; decide +kernel
theorem d_law_667 : decode code 667 = .ok (.invokevirtual 77, 3) := by decide +kernel
theorem d_law_670 : decode code 670 = .ok (.if_icmp .eq 547, 3) := by decide +kernel
theorem d_law_673 : decode code 673 = .ok (.iconst 0, 1) := by decide +kernel
theorem d_law_674 : decode code 674 = .ok (.ireturn, 1) := by decide +kernel
theorem d_law_675 : decode code 675 = .ok (.aload_n 1, 1) := by decide +kernel
theorem da_676 : lw_aok 676 1 := by unfold lw_aok; decide +kernel
theorem d_law_681 : decode code 681 = .ok (.invokevirtual 78, 3) := by decide +kernel
theorem d_law_684 : decode code 684 = .ok (.aload_n 2, 1) := by decide +kernel
theorem da_685 : lw_aok 685 1 := by unfold lw_aok; decide +kernel
theorem d_law_690 : decode code 690 = .ok (.invokevirtual 81, 3) := by decide +kernel
theorem d_law_693 : decode code 693 = .ok (.if_icmp .eq 524, 3) := by decide +kernel
theorem d_law_696 : decode code 696 = .ok (.iconst 0, 1) := by decide +kernel
theorem d_law_697 : decode code 697 = .ok (.ireturn, 1) := by decide +kernel
theorem d_law_698 : decode code 698 = .ok (.aload_n 1, 1) := by decide +kernel
theorem da_699 : lw_aok 699 1 := by unfold lw_aok; decide +kernel
theorem d_law_704 : decode code 704 = .ok (.invokevirtual 82, 3) := by decide +kernel
theorem d_law_707 : decode code 707 = .ok (.aload_n 2, 1) := by decide +kernel
theorem da_708 : lw_aok 708 1 := by unfold lw_aok; decide +kernel
theorem d_law_713 : decode code 713 = .ok (.invokevirtual 85, 3) := by decide +kernel
theorem d_law_716 : decode code 716 = .ok (.if_icmp .eq 501, 3) := by decide +kernel
theorem d_law_719 : decode code 719 = .ok (.iconst 0, 1) := by decide +kernel
theorem d_law_720 : decode code 720 = .ok (.ireturn, 1) := by decide +kernel
theorem d_law_721 : decode code 721 = .ok (.aload_n 1, 1) := by decide +kernel
theorem da_722 : lw_aok 722 1 := by unfold lw_aok; decide +kernel
theorem d_law_727 : decode code 727 = .ok (.invokevirtual 86, 3) := by decide +kernel
theorem d_law_730 : decode code 730 = .ok (.aload_n 2, 1) := by decide +kernel
theorem da_731 : lw_aok 731 1 := by unfold lw_aok; decide +kernel
theorem d_law_736 : decode code 736 = .ok (.invokevirtual 89, 3) := by decide +kernel
theorem d_law_739 : decode code 739 = .ok (.if_icmp .eq 478, 3) := by decide +kernel
theorem d_law_742 : decode code 742 = .ok (.iconst 0, 1) := by decide +kernel
theorem d_law_743 : decode code 743 = .ok (.ireturn, 1) := by decide +kernel
theorem d_law_744 : decode code 744 = .ok (.aload_n 1, 1) := by decide +kernel
theorem da_745 : lw_aok 745 1 := by unfold lw_aok; decide +kernel
theorem da_750 : lw_aok 750 2 := by unfold lw_aok; decide +kernel
theorem d_law_755 : decode code 755 = .ok (.invokevirtual 90, 3) := by decide +kernel
theorem d_law_758 : decode code 758 = .ok (.aload_n 2, 1) := by decide +kernel
theorem da_759 : lw_aok 759 1 := by unfold lw_aok; decide +kernel
theorem da_764 : lw_aok 764 2 := by unfold lw_aok; decide +kernel
theorem d_law_769 : decode code 769 = .ok (.invokevirtual 93, 3) := by decide +kernel
theorem d_law_772 : decode code 772 = .ok (.if_icmp .eq 445, 3) := by decide +kernel
theorem d_law_775 : decode code 775 = .ok (.iconst 0, 1) := by decide +kernel
theorem d_law_776 : decode code 776 = .ok (.ireturn, 1) := by decide +kernel
theorem d_law_777 : decode code 777 = .ok (.aload_n 1, 1) := by decide +kernel
theorem d_law_778 : decode code 778 = .ok (.invokevirtual 94, 3) := by decide +kernel
theorem d_law_781 : decode code 781 = .ok (.aload_n 2, 1) := by decide +kernel
theorem d_law_782 : decode code 782 = .ok (.invokevirtual 97, 3) := by decide +kernel
theorem d_law_785 : decode code 785 = .ok (.if_icmp .eq 432, 3) := by decide +kernel
theorem d_law_788 : decode code 788 = .ok (.iconst 0, 1) := by decide +kernel
theorem d_law_789 : decode code 789 = .ok (.ireturn, 1) := by decide +kernel
theorem d_law_790 : decode code 790 = .ok (.aload_n 1, 1) := by decide +kernel
theorem da_791 : lw_aok 791 1 := by unfold lw_aok; decide +kernel
theorem d_law_796 : decode code 796 = .ok (.invokevirtual 98, 3) := by decide +kernel
theorem d_law_799 : decode code 799 = .ok (.aload_n 2, 1) := by decide +kernel
theorem da_800 : lw_aok 800 1 := by unfold lw_aok; decide +kernel
theorem d_law_805 : decode code 805 = .ok (.invokevirtual 101, 3) := by decide +kernel
theorem d_law_808 : decode code 808 = .ok (.if_icmp .eq 409, 3) := by decide +kernel
theorem d_law_811 : decode code 811 = .ok (.iconst 0, 1) := by decide +kernel
theorem d_law_812 : decode code 812 = .ok (.ireturn, 1) := by decide +kernel
theorem d_law_813 : decode code 813 = .ok (.aload_n 1, 1) := by decide +kernel
theorem da_814 : lw_aok 814 1 := by unfold lw_aok; decide +kernel
theorem d_law_819 : decode code 819 = .ok (.invokevirtual 102, 3) := by decide +kernel
theorem d_law_822 : decode code 822 = .ok (.aload_n 2, 1) := by decide +kernel
theorem da_823 : lw_aok 823 1 := by unfold lw_aok; decide +kernel
theorem d_law_828 : decode code 828 = .ok (.invokevirtual 105, 3) := by decide +kernel
theorem d_law_831 : decode code 831 = .ok (.if_icmp .eq 386, 3) := by decide +kernel
theorem d_law_834 : decode code 834 = .ok (.iconst 0, 1) := by decide +kernel
theorem d_law_835 : decode code 835 = .ok (.ireturn, 1) := by decide +kernel
theorem d_law_836 : decode code 836 = .ok (.aload_n 1, 1) := by decide +kernel
theorem da_837 : lw_aok 837 1 := by unfold lw_aok; decide +kernel
theorem da_842 : lw_aok 842 2 := by unfold lw_aok; decide +kernel
theorem d_law_847 : decode code 847 = .ok (.invokevirtual 106, 3) := by decide +kernel
theorem d_law_850 : decode code 850 = .ok (.aload_n 2, 1) := by decide +kernel
theorem da_851 : lw_aok 851 1 := by unfold lw_aok; decide +kernel
theorem da_856 : lw_aok 856 2 := by unfold lw_aok; decide +kernel
theorem d_law_861 : decode code 861 = .ok (.invokevirtual 109, 3) := by decide +kernel
theorem d_law_864 : decode code 864 = .ok (.if_icmp .eq 353, 3) := by decide +kernel
theorem d_law_867 : decode code 867 = .ok (.iconst 0, 1) := by decide +kernel
theorem d_law_868 : decode code 868 = .ok (.ireturn, 1) := by decide +kernel
theorem d_law_869 : decode code 869 = .ok (.aload_n 1, 1) := by decide +kernel
theorem da_870 : lw_aok 870 1 := by unfold lw_aok; decide +kernel
theorem d_law_875 : decode code 875 = .ok (.invokevirtual 110, 3) := by decide +kernel
theorem d_law_878 : decode code 878 = .ok (.aload_n 2, 1) := by decide +kernel
theorem da_879 : lw_aok 879 1 := by unfold lw_aok; decide +kernel
theorem d_law_884 : decode code 884 = .ok (.invokevirtual 113, 3) := by decide +kernel
theorem d_law_887 : decode code 887 = .ok (.if_icmp .eq 330, 3) := by decide +kernel
theorem d_law_890 : decode code 890 = .ok (.iconst 0, 1) := by decide +kernel
theorem d_law_891 : decode code 891 = .ok (.ireturn, 1) := by decide +kernel
theorem d_law_892 : decode code 892 = .ok (.aload_n 1, 1) := by decide +kernel
theorem da_893 : lw_aok 893 1 := by unfold lw_aok; decide +kernel
theorem d_law_898 : decode code 898 = .ok (.invokevirtual 114, 3) := by decide +kernel
theorem d_law_901 : decode code 901 = .ok (.aload_n 2, 1) := by decide +kernel
theorem da_902 : lw_aok 902 1 := by unfold lw_aok; decide +kernel
theorem d_law_907 : decode code 907 = .ok (.invokevirtual 117, 3) := by decide +kernel
theorem d_law_910 : decode code 910 = .ok (.if_icmp .eq 307, 3) := by decide +kernel
theorem d_law_913 : decode code 913 = .ok (.iconst 0, 1) := by decide +kernel
theorem d_law_914 : decode code 914 = .ok (.ireturn, 1) := by decide +kernel
theorem d_law_915 : decode code 915 = .ok (.aload_n 1, 1) := by decide +kernel
theorem da_916 : lw_aok 916 1 := by unfold lw_aok; decide +kernel
theorem da_921 : lw_aok 921 2 := by unfold lw_aok; decide +kernel
theorem d_law_926 : decode code 926 = .ok (.invokevirtual 118, 3) := by decide +kernel
theorem d_law_929 : decode code 929 = .ok (.aload_n 2, 1) := by decide +kernel
theorem da_930 : lw_aok 930 1 := by unfold lw_aok; decide +kernel
theorem da_935 : lw_aok 935 2 := by unfold lw_aok; decide +kernel
theorem d_law_940 : decode code 940 = .ok (.invokevirtual 121, 3) := by decide +kernel
theorem d_law_943 : decode code 943 = .ok (.if_icmp .eq 274, 3) := by decide +kernel
theorem d_law_946 : decode code 946 = .ok (.iconst 0, 1) := by decide +kernel
theorem d_law_947 : decode code 947 = .ok (.ireturn, 1) := by decide +kernel
theorem d_law_948 : decode code 948 = .ok (.aload_n 1, 1) := by decide +kernel
theorem da_949 : lw_aok 949 1 := by unfold lw_aok; decide +kernel
theorem da_954 : lw_aok 954 2 := by unfold lw_aok; decide +kernel
theorem d_law_959 : decode code 959 = .ok (.invokevirtual 122, 3) := by decide +kernel
theorem d_law_962 : decode code 962 = .ok (.aload_n 2, 1) := by decide +kernel
theorem da_963 : lw_aok 963 1 := by unfold lw_aok; decide +kernel
theorem da_968 : lw_aok 968 2 := by unfold lw_aok; decide +kernel
theorem d_law_973 : decode code 973 = .ok (.invokevirtual 125, 3) := by decide +kernel
theorem d_law_976 : decode code 976 = .ok (.if_icmp .eq 241, 3) := by decide +kernel
theorem d_law_979 : decode code 979 = .ok (.iconst 0, 1) := by decide +kernel
theorem d_law_980 : decode code 980 = .ok (.ireturn, 1) := by decide +kernel
theorem d_law_981 : decode code 981 = .ok (.aload_n 1, 1) := by decide +kernel
theorem da_982 : lw_aok 982 1 := by unfold lw_aok; decide +kernel
theorem d_law_987 : decode code 987 = .ok (.invokevirtual 126, 3) := by decide +kernel
theorem d_law_990 : decode code 990 = .ok (.aload_n 2, 1) := by decide +kernel
theorem da_991 : lw_aok 991 1 := by unfold lw_aok; decide +kernel
theorem d_law_996 : decode code 996 = .ok (.invokevirtual 129, 3) := by decide +kernel
theorem d_law_999 : decode code 999 = .ok (.if_icmp .eq 218, 3) := by decide +kernel
theorem d_law_1002 : decode code 1002 = .ok (.iconst 0, 1) := by decide +kernel
theorem d_law_1003 : decode code 1003 = .ok (.ireturn, 1) := by decide +kernel
theorem d_law_1004 : decode code 1004 = .ok (.aload_n 1, 1) := by decide +kernel
theorem da_1005 : lw_aok 1005 1 := by unfold lw_aok; decide +kernel
theorem da_1010 : lw_aok 1010 2 := by unfold lw_aok; decide +kernel
theorem d_law_1015 : decode code 1015 = .ok (.invokevirtual 130, 3) := by decide +kernel
theorem d_law_1018 : decode code 1018 = .ok (.aload_n 2, 1) := by decide +kernel
theorem da_1019 : lw_aok 1019 1 := by unfold lw_aok; decide +kernel
theorem da_1024 : lw_aok 1024 2 := by unfold lw_aok; decide +kernel
theorem d_law_1029 : decode code 1029 = .ok (.invokevirtual 133, 3) := by decide +kernel
theorem d_law_1032 : decode code 1032 = .ok (.if_icmp .eq 185, 3) := by decide +kernel
theorem d_law_1035 : decode code 1035 = .ok (.iconst 0, 1) := by decide +kernel
theorem d_law_1036 : decode code 1036 = .ok (.ireturn, 1) := by decide +kernel
theorem d_law_1037 : decode code 1037 = .ok (.aload_n 1, 1) := by decide +kernel
theorem da_1038 : lw_aok 1038 1 := by unfold lw_aok; decide +kernel
theorem da_1043 : lw_aok 1043 2 := by unfold lw_aok; decide +kernel
theorem d_law_1048 : decode code 1048 = .ok (.invokevirtual 134, 3) := by decide +kernel
theorem d_law_1051 : decode code 1051 = .ok (.aload_n 2, 1) := by decide +kernel
theorem da_1052 : lw_aok 1052 1 := by unfold lw_aok; decide +kernel
theorem da_1057 : lw_aok 1057 2 := by unfold lw_aok; decide +kernel
theorem d_law_1062 : decode code 1062 = .ok (.invokevirtual 137, 3) := by decide +kernel
theorem d_law_1065 : decode code 1065 = .ok (.if_icmp .eq 152, 3) := by decide +kernel
theorem d_law_1068 : decode code 1068 = .ok (.iconst 0, 1) := by decide +kernel
theorem d_law_1069 : decode code 1069 = .ok (.ireturn, 1) := by decide +kernel
theorem d_law_1070 : decode code 1070 = .ok (.aload_n 1, 1) := by decide +kernel
theorem da_1071 : lw_aok 1071 1 := by unfold lw_aok; decide +kernel
theorem da_1076 : lw_aok 1076 2 := by unfold lw_aok; decide +kernel
theorem d_law_1081 : decode code 1081 = .ok (.invokevirtual 138, 3) := by decide +kernel
theorem d_law_1084 : decode code 1084 = .ok (.aload_n 2, 1) := by decide +kernel
theorem da_1085 : lw_aok 1085 1 := by unfold lw_aok; decide +kernel
theorem da_1090 : lw_aok 1090 2 := by unfold lw_aok; decide +kernel
theorem d_law_1095 : decode code 1095 = .ok (.invokevirtual 141, 3) := by decide +kernel
theorem d_law_1098 : decode code 1098 = .ok (.if_icmp .eq 119, 3) := by decide +kernel
theorem d_law_1101 : decode code 1101 = .ok (.iconst 0, 1) := by decide +kernel
theorem d_law_1102 : decode code 1102 = .ok (.ireturn, 1) := by decide +kernel
theorem d_law_1103 : decode code 1103 = .ok (.aload_n 1, 1) := by decide +kernel
theorem d_law_1104 : decode code 1104 = .ok (.invokevirtual 142, 3) := by decide +kernel
theorem d_law_1107 : decode code 1107 = .ok (.aload_n 2, 1) := by decide +kernel
theorem d_law_1108 : decode code 1108 = .ok (.invokevirtual 145, 3) := by decide +kernel
theorem d_law_1111 : decode code 1111 = .ok (.if_icmp .eq 106, 3) := by decide +kernel
theorem d_law_1114 : decode code 1114 = .ok (.iconst 0, 1) := by decide +kernel
theorem d_law_1115 : decode code 1115 = .ok (.ireturn, 1) := by decide +kernel
theorem d_law_1116 : decode code 1116 = .ok (.aload_n 1, 1) := by decide +kernel
theorem d_law_1117 : decode code 1117 = .ok (.invokevirtual 146, 3) := by decide +kernel
theorem d_law_1120 : decode code 1120 = .ok (.aload_n 2, 1) := by decide +kernel
theorem d_law_1121 : decode code 1121 = .ok (.invokevirtual 150, 3) := by decide +kernel
theorem d_law_1124 : decode code 1124 = .ok (.lcmp, 1) := by decide +kernel
theorem d_law_1125 : decode code 1125 = .ok (.ifCond .eq 92, 3) := by decide +kernel
theorem d_law_1128 : decode code 1128 = .ok (.iconst 0, 1) := by decide +kernel
theorem d_law_1129 : decode code 1129 = .ok (.ireturn, 1) := by decide +kernel
theorem d_law_1130 : decode code 1130 = .ok (.aload_n 1, 1) := by decide +kernel
theorem d_law_1131 : decode code 1131 = .ok (.invokevirtual 151, 3) := by decide +kernel
theorem d_law_1134 : decode code 1134 = .ok (.aload_n 2, 1) := by decide +kernel
theorem d_law_1135 : decode code 1135 = .ok (.invokevirtual 154, 3) := by decide +kernel
theorem d_law_1138 : decode code 1138 = .ok (.lcmp, 1) := by decide +kernel
theorem d_law_1139 : decode code 1139 = .ok (.ifCond .eq 78, 3) := by decide +kernel
theorem d_law_1142 : decode code 1142 = .ok (.iconst 0, 1) := by decide +kernel
theorem d_law_1143 : decode code 1143 = .ok (.ireturn, 1) := by decide +kernel
theorem d_law_1144 : decode code 1144 = .ok (.aload_n 1, 1) := by decide +kernel
theorem da_1145 : lw_aok 1145 1 := by unfold lw_aok; decide +kernel
theorem d_law_1150 : decode code 1150 = .ok (.invokevirtual 155, 3) := by decide +kernel
theorem d_law_1153 : decode code 1153 = .ok (.aload_n 2, 1) := by decide +kernel
theorem da_1154 : lw_aok 1154 1 := by unfold lw_aok; decide +kernel
theorem d_law_1159 : decode code 1159 = .ok (.invokevirtual 158, 3) := by decide +kernel
theorem d_law_1162 : decode code 1162 = .ok (.if_icmp .eq 55, 3) := by decide +kernel
theorem d_law_1165 : decode code 1165 = .ok (.iconst 0, 1) := by decide +kernel
theorem d_law_1166 : decode code 1166 = .ok (.ireturn, 1) := by decide +kernel
theorem d_law_1167 : decode code 1167 = .ok (.aload_n 1, 1) := by decide +kernel
theorem d_law_1168 : decode code 1168 = .ok (.invokevirtual 159, 3) := by decide +kernel
theorem d_law_1171 : decode code 1171 = .ok (.aload_n 2, 1) := by decide +kernel
theorem d_law_1172 : decode code 1172 = .ok (.invokevirtual 162, 3) := by decide +kernel
theorem d_law_1175 : decode code 1175 = .ok (.if_icmp .eq 42, 3) := by decide +kernel
theorem d_law_1178 : decode code 1178 = .ok (.iconst 0, 1) := by decide +kernel
theorem d_law_1179 : decode code 1179 = .ok (.ireturn, 1) := by decide +kernel
theorem d_law_1180 : decode code 1180 = .ok (.aload_n 1, 1) := by decide +kernel
theorem da_1181 : lw_aok 1181 1 := by unfold lw_aok; decide +kernel
theorem d_law_1186 : decode code 1186 = .ok (.invokevirtual 163, 3) := by decide +kernel
theorem d_law_1189 : decode code 1189 = .ok (.aload_n 2, 1) := by decide +kernel
theorem da_1190 : lw_aok 1190 1 := by unfold lw_aok; decide +kernel
theorem d_law_1195 : decode code 1195 = .ok (.invokevirtual 166, 3) := by decide +kernel
theorem d_law_1198 : decode code 1198 = .ok (.if_icmp .eq 19, 3) := by decide +kernel
theorem d_law_1201 : decode code 1201 = .ok (.iconst 0, 1) := by decide +kernel
theorem d_law_1202 : decode code 1202 = .ok (.ireturn, 1) := by decide +kernel
theorem d_law_1203 : decode code 1203 = .ok (.aload_n 1, 1) := by decide +kernel
theorem d_law_1204 : decode code 1204 = .ok (.invokevirtual 167, 3) := by decide +kernel
theorem d_law_1207 : decode code 1207 = .ok (.aload_n 2, 1) := by decide +kernel
theorem d_law_1208 : decode code 1208 = .ok (.invokevirtual 170, 3) := by decide +kernel
theorem d_law_1211 : decode code 1211 = .ok (.lcmp, 1) := by decide +kernel
theorem d_law_1212 : decode code 1212 = .ok (.ifCond .eq 5, 3) := by decide +kernel
theorem d_law_1215 : decode code 1215 = .ok (.iconst 0, 1) := by decide +kernel
theorem d_law_1216 : decode code 1216 = .ok (.ireturn, 1) := by decide +kernel
theorem d_law_1217 : decode code 1217 = .ok (.iinc 3 6, 3) := by decide +kernel
theorem d_law_1220 : decode code 1220 = .ok (.goto (-1202), 3) := by decide +kernel
theorem d_law_1223 : decode code 1223 = .ok (.iconst 1, 1) := by decide +kernel
theorem d_law_1224 : decode code 1224 = .ok (.ireturn, 1) := by decide +kernel
