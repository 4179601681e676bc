theorem dL_law_332 : decode cL_law 332 = .ok (.iload 12, 2) := by decide +kernel
theorem dL_law_334 : decode cL_law 334 = .ok (.bipush 10, 2) := by decide +kernel
theorem dL_law_336 : decode cL_law 336 = .ok (.irem, 1) := by decide +kernel
theorem dL_law_337 : decode cL_law 337 = .ok (.if_icmp .gt 7, 3) := by decide +kernel
theorem dL_law_340 : decode cL_law 340 = .ok (.iconst 1, 1) := by decide +kernel
theorem dL_law_341 : decode cL_law 341 = .ok (.goto 4, 3) := by decide +kernel
theorem dL_law_344 : decode cL_law 344 = .ok (.iconst 0, 1) := by decide +kernel
theorem dL_law_345 : decode cL_law 345 = .ok (.istore 14, 2) := by decide +kernel
theorem dL_law_347 : decode cL_law 347 = .ok (.iload 13, 2) := by decide +kernel
theorem dL_law_349 : decode cL_law 349 = .ok (.aload 6, 2) := by decide +kernel
theorem dL_law_351 : decode cL_law 351 = .ok (.getfield 138, 3) := by decide +kernel
theorem dL_law_354 : decode cL_law 354 = .ok (.arraylength, 1) := by decide +kernel
theorem dL_law_355 : decode cL_law 355 = .ok (.if_icmp .ge 24, 3) := by decide +kernel
theorem dL_law_358 : decode cL_law 358 = .ok (.iload 14, 2) := by decide +kernel
theorem dL_law_360 : decode cL_law 360 = .ok (.ifCond .eq 19, 3) := by decide +kernel
theorem dL_law_363 : decode cL_law 363 = .ok (.aload 6, 2) := by decide +kernel
theorem dL_law_365 : decode cL_law 365 = .ok (.iload 12, 2) := by decide +kernel
theorem dL_law_367 : decode cL_law 367 = .ok (.iload 13, 2) := by decide +kernel
theorem dL_law_369 : decode cL_law 369 = .ok (.invokevirtual 250, 3) := by decide +kernel
theorem dL_law_372 : decode cL_law 372 = .ok (.ifCond .ne 7, 3) := by decide +kernel
theorem dL_law_375 : decode cL_law 375 = .ok (.iconst 1, 1) := by decide +kernel
theorem dL_law_376 : decode cL_law 376 = .ok (.goto 4, 3) := by decide +kernel
theorem dL_law_379 : decode cL_law 379 = .ok (.iconst 0, 1) := by decide +kernel
theorem dL_law_380 : decode cL_law 380 = .ok (.istore 11, 2) := by decide +kernel
theorem dL_law_382 : decode cL_law 382 = .ok (.iload 13, 2) := by decide +kernel
theorem dL_law_384 : decode cL_law 384 = .ok (.aload 6, 2) := by decide +kernel
theorem dL_law_386 : decode cL_law 386 = .ok (.getfield 138, 3) := by decide +kernel
theorem dL_law_389 : decode cL_law 389 = .ok (.arraylength, 1) := by decide +kernel
theorem dL_law_390 : decode cL_law 390 = .ok (.if_icmp .ne 8, 3) := by decide +kernel
theorem dL_law_393 : decode cL_law 393 = .ok (.ldc 52, 2) := by decide +kernel
theorem dL_law_395 : decode cL_law 395 = .ok (.goto 15, 3) := by decide +kernel
theorem dL_law_398 : decode cL_law 398 = .ok (.iload 14, 2) := by decide +kernel
theorem dL_law_400 : decode cL_law 400 = .ok (.ifCond .eq 8, 3) := by decide +kernel
theorem dL_law_403 : decode cL_law 403 = .ok (.ldc 85, 2) := by decide +kernel
theorem dL_law_405 : decode cL_law 405 = .ok (.goto 5, 3) := by decide +kernel
theorem dL_law_408 : decode cL_law 408 = .ok (.ldc 42, 2) := by decide +kernel
theorem dL_law_410 : decode cL_law 410 = .ok (.istore 15, 2) := by decide +kernel
theorem dL_law_412 : decode cL_law 412 = .ok (.aload_n 3, 1) := by decide +kernel
theorem dL_law_413 : decode cL_law 413 = .ok (.iload 12, 2) := by decide +kernel
theorem dL_law_415 : decode cL_law 415 = .ok (.iload 13, 2) := by decide +kernel
theorem dL_law_417 : decode cL_law 417 = .ok (.invokestatic 240, 3) := by decide +kernel
theorem dL_law_420 : decode cL_law 420 = .ok (.iload 11, 2) := by decide +kernel
theorem dL_law_422 : decode cL_law 422 = .ok (.ifCond .eq 15, 3) := by decide +kernel
theorem dL_law_425 : decode cL_law 425 = .ok (.aload 6, 2) := by decide +kernel
theorem dL_law_427 : decode cL_law 427 = .ok (.iload 12, 2) := by decide +kernel
theorem dL_law_429 : decode cL_law 429 = .ok (.iload 13, 2) := by decide +kernel
theorem dL_law_431 : decode cL_law 431 = .ok (.invokevirtual 251, 3) := by decide +kernel
theorem dL_law_434 : decode cL_law 434 = .ok (.goto 5, 3) := by decide +kernel
theorem dL_law_437 : decode cL_law 437 = .ok (.iload 15, 2) := by decide +kernel
theorem dL_law_439 : decode cL_law 439 = .ok (.if_icmp .ne 7, 3) := by decide +kernel
theorem dL_law_442 : decode cL_law 442 = .ok (.iconst 1, 1) := by decide +kernel
theorem dL_law_443 : decode cL_law 443 = .ok (.goto 4, 3) := by decide +kernel
theorem dL_law_446 : decode cL_law 446 = .ok (.iconst 0, 1) := by decide +kernel
theorem dL_law_447 : decode cL_law 447 = .ok (.istore_n 1, 1) := by decide +kernel
theorem dL_law_448 : decode cL_law 448 = .ok (.goto 349, 3) := by decide +kernel
theorem dL_law_451 : decode cL_law 451 = .ok (.aload 6, 2) := by decide +kernel
theorem dL_law_453 : decode cL_law 453 = .ok (.invokevirtual 254, 3) := by decide +kernel
theorem dL_law_456 : decode cL_law 456 = .ok (.istore 11, 2) := by decide +kernel
theorem dL_law_458 : decode cL_law 458 = .ok (.aload_n 3, 1) := by decide +kernel
theorem dL_law_459 : decode cL_law 459 = .ok (.invokestatic 258, 3) := by decide +kernel
theorem dL_law_462 : decode cL_law 462 = .ok (.iload 11, 2) := by decide +kernel
theorem dL_law_464 : decode cL_law 464 = .ok (.ifCond .eq 11, 3) := by decide +kernel
theorem dL_law_467 : decode cL_law 467 = .ok (.aload 6, 2) := by decide +kernel
theorem dL_law_469 : decode cL_law 469 = .ok (.invokevirtual 261, 3) := by decide +kernel
theorem dL_law_472 : decode cL_law 472 = .ok (.goto 5, 3) := by decide +kernel
theorem dL_law_475 : decode cL_law 475 = .ok (.ldc 85, 2) := by decide +kernel
theorem dL_law_477 : decode cL_law 477 = .ok (.if_icmp .ne 7, 3) := by decide +kernel
theorem dL_law_480 : decode cL_law 480 = .ok (.iconst 1, 1) := by decide +kernel
theorem dL_law_481 : decode cL_law 481 = .ok (.goto 4, 3) := by decide +kernel
theorem dL_law_484 : decode cL_law 484 = .ok (.iconst 0, 1) := by decide +kernel
theorem dL_law_485 : decode cL_law 485 = .ok (.istore_n 1, 1) := by decide +kernel
theorem dL_law_486 : decode cL_law 486 = .ok (.goto 311, 3) := by decide +kernel
theorem dL_law_489 : decode cL_law 489 = .ok (.aload 6, 2) := by decide +kernel
theorem dL_law_491 : decode cL_law 491 = .ok (.invokevirtual 264, 3) := by decide +kernel
theorem dL_law_494 : decode cL_law 494 = .ok (.istore 11, 2) := by decide +kernel
theorem dL_law_496 : decode cL_law 496 = .ok (.aload_n 3, 1) := by decide +kernel
theorem dL_law_497 : decode cL_law 497 = .ok (.invokestatic 267, 3) := by decide +kernel
theorem dL_law_500 : decode cL_law 500 = .ok (.iload 11, 2) := by decide +kernel
theorem dL_law_502 : decode cL_law 502 = .ok (.ifCond .eq 11, 3) := by decide +kernel
theorem dL_law_505 : decode cL_law 505 = .ok (.aload 6, 2) := by decide +kernel
theorem dL_law_507 : decode cL_law 507 = .ok (.invokevirtual 269, 3) := by decide +kernel
theorem dL_law_510 : decode cL_law 510 = .ok (.goto 5, 3) := by decide +kernel
theorem dL_law_513 : decode cL_law 513 = .ok (.ldc 85, 2) := by decide +kernel
theorem dL_law_515 : decode cL_law 515 = .ok (.if_icmp .ne 7, 3) := by decide +kernel
theorem dL_law_518 : decode cL_law 518 = .ok (.iconst 1, 1) := by decide +kernel
theorem dL_law_519 : decode cL_law 519 = .ok (.goto 4, 3) := by decide +kernel
theorem dL_law_522 : decode cL_law 522 = .ok (.iconst 0, 1) := by decide +kernel
theorem dL_law_523 : decode cL_law 523 = .ok (.istore_n 1, 1) := by decide +kernel
theorem dL_law_524 : decode cL_law 524 = .ok (.goto 273, 3) := by decide +kernel
theorem dL_law_527 : decode cL_law 527 = .ok (.aload 5, 2) := by decide +kernel
theorem dL_law_529 : decode cL_law 529 = .ok (.aload 6, 2) := by decide +kernel
theorem dL_law_531 : decode cL_law 531 = .ok (.getfield 119, 3) := by decide +kernel
theorem dL_law_534 : decode cL_law 534 = .ok (.iconst 2, 1) := by decide +kernel
theorem dL_law_535 : decode cL_law 535 = .ok (.iadd, 1) := by decide +kernel
theorem dL_law_536 : decode cL_law 536 = .ok (.invokevirtual 114, 3) := by decide +kernel
theorem dL_law_539 : decode cL_law 539 = .ok (.istore 16, 2) := by decide +kernel
theorem dL_law_541 : decode cL_law 541 = .ok (.aload 5, 2) := by decide +kernel
theorem dL_law_543 : decode cL_law 543 = .ok (.sipush 10000, 3) := by decide +kernel
theorem dL_law_546 : decode cL_law 546 = .ok (.invokevirtual 114, 3) := by decide +kernel
theorem dL_law_549 : decode cL_law 549 = .ok (.istore 17, 2) := by decide +kernel
theorem dL_law_551 : decode cL_law 551 = .ok (.iload 16, 2) := by decide +kernel
theorem dL_law_553 : decode cL_law 553 = .ok (.aload 6, 2) := by decide +kernel
theorem dL_law_555 : decode cL_law 555 = .ok (.getfield 119, 3) := by decide +kernel
theorem dL_law_558 : decode cL_law 558 = .ok (.if_icmp .gt 15, 3) := by decide +kernel
theorem dL_law_561 : decode cL_law 561 = .ok (.aload 6, 2) := by decide +kernel
theorem dL_law_563 : decode cL_law 563 = .ok (.getfield 272, 3) := by decide +kernel
theorem dL_law_566 : decode cL_law 566 = .ok (.ifCond .eq 7, 3) := by decide +kernel
theorem dL_law_569 : decode cL_law 569 = .ok (.iconst 1, 1) := by decide +kernel
theorem dL_law_570 : decode cL_law 570 = .ok (.goto 4, 3) := by decide +kernel
theorem dL_law_573 : decode cL_law 573 = .ok (.iconst 0, 1) := by decide +kernel
theorem dL_law_574 : decode cL_law 574 = .ok (.istore 11, 2) := by decide +kernel
theorem dL_law_576 : decode cL_law 576 = .ok (.iload 11, 2) := by decide +kernel
theorem dL_law_578 : decode cL_law 578 = .ok (.ifCond .eq 53, 3) := by decide +kernel
theorem dL_law_581 : decode cL_law 581 = .ok (.aload 6, 2) := by decide +kernel
theorem dL_law_583 : decode cL_law 583 = .ok (.iload 16, 2) := by decide +kernel
theorem dL_law_585 : decode cL_law 585 = .ok (.putfield 126, 3) := by decide +kernel
theorem dL_law_588 : decode cL_law 588 = .ok (.aload 6, 2) := by decide +kernel
theorem dL_law_590 : decode cL_law 590 = .ok (.iload 17, 2) := by decide +kernel
theorem dL_law_592 : decode cL_law 592 = .ok (.putfield 153, 3) := by decide +kernel
theorem dL_law_595 : decode cL_law 595 = .ok (.iconst 0, 1) := by decide +kernel
theorem dL_law_596 : decode cL_law 596 = .ok (.istore 18, 2) := by decide +kernel
theorem dL_law_598 : decode cL_law 598 = .ok (.iload 18, 2) := by decide +kernel
theorem dL_law_600 : decode cL_law 600 = .ok (.aload 6, 2) := by decide +kernel
theorem dL_law_602 : decode cL_law 602 = .ok (.getfield 131, 3) := by decide +kernel
theorem dL_law_605 : decode cL_law 605 = .ok (.arraylength, 1) := by decide +kernel
theorem dL_law_606 : decode cL_law 606 = .ok (.if_icmp .ge 20, 3) := by decide +kernel
theorem dL_law_609 : decode cL_law 609 = .ok (.aload 6, 2) := by decide +kernel
theorem dL_law_611 : decode cL_law 611 = .ok (.getfield 131, 3) := by decide +kernel
theorem dL_law_614 : decode cL_law 614 = .ok (.iload 18, 2) := by decide +kernel
theorem dL_law_616 : decode cL_law 616 = .ok (.iconst 0, 1) := by decide +kernel
theorem dL_law_617 : decode cL_law 617 = .ok (.newarray .int, 2) := by decide +kernel
theorem dL_law_619 : decode cL_law 619 = .ok (.aastore, 1) := by decide +kernel
theorem dL_law_620 : decode cL_law 620 = .ok (.iinc 18 1, 3) := by decide +kernel
theorem dL_law_623 : decode cL_law 623 = .ok (.goto (-25), 3) := by decide +kernel
theorem dL_law_626 : decode cL_law 626 = .ok (.aload 6, 2) := by decide +kernel
theorem dL_law_628 : decode cL_law 628 = .ok (.invokevirtual 191, 3) := by decide +kernel
theorem dL_law_631 : decode cL_law 631 = .ok (.aload_n 3, 1) := by decide +kernel
theorem dL_law_632 : decode cL_law 632 = .ok (.iload 16, 2) := by decide +kernel
theorem dL_law_634 : decode cL_law 634 = .ok (.iload 17, 2) := by decide +kernel
theorem dL_law_636 : decode cL_law 636 = .ok (.invokestatic 236, 3) := by decide +kernel
theorem dL_law_639 : decode cL_law 639 = .ok (.iload 11, 2) := by decide +kernel
theorem dL_law_641 : decode cL_law 641 = .ok (.ifCond .eq 12, 3) := by decide +kernel
theorem dL_law_644 : decode cL_law 644 = .ok (.aload 6, 2) := by decide +kernel
theorem dL_law_646 : decode cL_law 646 = .ok (.getfield 198, 3) := by decide +kernel
theorem dL_law_649 : decode cL_law 649 = .ok (.arraylength, 1) := by decide +kernel
theorem dL_law_650 : decode cL_law 650 = .ok (.goto 20, 3) := by decide +kernel
theorem dL_law_653 : decode cL_law 653 = .ok (.iload 16, 2) := by decide +kernel
theorem dL_law_655 : decode cL_law 655 = .ok (.aload 6, 2) := by decide +kernel
theorem dL_law_657 : decode cL_law 657 = .ok (.getfield 119, 3) := by decide +kernel
theorem dL_law_660 : decode cL_law 660 = .ok (.if_icmp .le 8, 3) := by decide +kernel
theorem dL_law_663 : decode cL_law 663 = .ok (.ldc 42, 2) := by decide +kernel
theorem dL_law_665 : decode cL_law 665 = .ok (.goto 5, 3) := by decide +kernel
theorem dL_law_668 : decode cL_law 668 = .ok (.ldc 85, 2) := by decide +kernel
theorem dL_law_670 : decode cL_law 670 = .ok (.if_icmp .ne 7, 3) := by decide +kernel
theorem dL_law_673 : decode cL_law 673 = .ok (.iconst 1, 1) := by decide +kernel
theorem dL_law_674 : decode cL_law 674 = .ok (.goto 4, 3) := by decide +kernel
theorem dL_law_677 : decode cL_law 677 = .ok (.iconst 0, 1) := by decide +kernel
theorem dL_law_678 : decode cL_law 678 = .ok (.istore_n 1, 1) := by decide +kernel
theorem dL_law_679 : decode cL_law 679 = .ok (.goto 118, 3) := by decide +kernel
theorem dL_law_682 : decode cL_law 682 = .ok (.iconst 1, 1) := by decide +kernel
theorem dL_law_683 : decode cL_law 683 = .ok (.aload 5, 2) := by decide +kernel
theorem dL_law_685 : decode cL_law 685 = .ok (.bipush 20, 2) := by decide +kernel
theorem dL_law_687 : decode cL_law 687 = .ok (.invokevirtual 114, 3) := by decide +kernel
theorem dL_law_690 : decode cL_law 690 = .ok (.iadd, 1) := by decide +kernel
theorem dL_law_691 : decode cL_law 691 = .ok (.istore 18, 2) := by decide +kernel
theorem dL_law_693 : decode cL_law 693 = .ok (.aload_n 3, 1) := by decide +kernel
theorem dL_law_694 : decode cL_law 694 = .ok (.iload 18, 2) := by decide +kernel
theorem dL_law_696 : decode cL_law 696 = .ok (.invokestatic 238, 3) := by decide +kernel
theorem dL_law_699 : decode cL_law 699 = .ok (.aload 6, 2) := by decide +kernel
theorem dL_law_701 : decode cL_law 701 = .ok (.iload 18, 2) := by decide +kernel
theorem dL_law_703 : decode cL_law 703 = .ok (.invokevirtual 276, 3) := by decide +kernel
theorem dL_law_706 : decode cL_law 706 = .ok (.if_icmp .ne 7, 3) := by decide +kernel
theorem dL_law_709 : decode cL_law 709 = .ok (.iconst 1, 1) := by decide +kernel
theorem dL_law_710 : decode cL_law 710 = .ok (.goto 4, 3) := by decide +kernel
theorem dL_law_713 : decode cL_law 713 = .ok (.iconst 0, 1) := by decide +kernel
theorem dL_law_714 : decode cL_law 714 = .ok (.istore_n 1, 1) := by decide +kernel
theorem dL_law_715 : decode cL_law 715 = .ok (.goto 82, 3) := by decide +kernel
theorem dL_law_718 : decode cL_law 718 = .ok (.aload 6, 2) := by decide +kernel
theorem dL_law_720 : decode cL_law 720 = .ok (.invokevirtual 209, 3) := by decide +kernel
theorem dL_law_723 : decode cL_law 723 = .ok (.istore 19, 2) := by decide +kernel
theorem dL_law_725 : decode cL_law 725 = .ok (.iload 19, 2) := by decide +kernel
theorem dL_law_727 : decode cL_law 727 = .ok (.ifCond .lt 7, 3) := by decide +kernel
theorem dL_law_730 : decode cL_law 730 = .ok (.iconst 1, 1) := by decide +kernel
theorem dL_law_731 : decode cL_law 731 = .ok (.goto 4, 3) := by decide +kernel
theorem dL_law_734 : decode cL_law 734 = .ok (.iconst 0, 1) := by decide +kernel
theorem dL_law_735 : decode cL_law 735 = .ok (.istore 11, 2) := by decide +kernel
theorem dL_law_737 : decode cL_law 737 = .ok (.iload 11, 2) := by decide +kernel
theorem dL_law_739 : decode cL_law 739 = .ok (.ifCond .eq 44, 3) := by decide +kernel
theorem dL_law_742 : decode cL_law 742 = .ok (.aload_n 3, 1) := by decide +kernel
theorem dL_law_743 : decode cL_law 743 = .ok (.iload 19, 2) := by decide +kernel
theorem dL_law_745 : decode cL_law 745 = .ok (.bipush 10, 2) := by decide +kernel
theorem dL_law_747 : decode cL_law 747 = .ok (.idiv, 1) := by decide +kernel
theorem dL_law_748 : decode cL_law 748 = .ok (.iload 19, 2) := by decide +kernel
theorem dL_law_750 : decode cL_law 750 = .ok (.bipush 10, 2) := by decide +kernel
theorem dL_law_752 : decode cL_law 752 = .ok (.irem, 1) := by decide +kernel
theorem dL_law_753 : decode cL_law 753 = .ok (.invokestatic 240, 3) := by decide +kernel
theorem dL_law_756 : decode cL_law 756 = .ok (.aload 6, 2) := by decide +kernel
theorem dL_law_758 : decode cL_law 758 = .ok (.iload 19, 2) := by decide +kernel
theorem dL_law_760 : decode cL_law 760 = .ok (.bipush 10, 2) := by decide +kernel
theorem dL_law_762 : decode cL_law 762 = .ok (.idiv, 1) := by decide +kernel
theorem dL_law_763 : decode cL_law 763 = .ok (.iload 19, 2) := by decide +kernel
theorem dL_law_765 : decode cL_law 765 = .ok (.bipush 10, 2) := by decide +kernel
theorem dL_law_767 : decode cL_law 767 = .ok (.irem, 1) := by decide +kernel
theorem dL_law_768 : decode cL_law 768 = .ok (.invokevirtual 251, 3) := by decide +kernel
theorem dL_law_771 : decode cL_law 771 = .ok (.if_icmp .ne 7, 3) := by decide +kernel
theorem dL_law_774 : decode cL_law 774 = .ok (.iconst 1, 1) := by decide +kernel
theorem dL_law_775 : decode cL_law 775 = .ok (.goto 4, 3) := by decide +kernel
theorem dL_law_778 : decode cL_law 778 = .ok (.iconst 0, 1) := by decide +kernel
theorem dL_law_779 : decode cL_law 779 = .ok (.istore_n 1, 1) := by decide +kernel
theorem dL_law_780 : decode cL_law 780 = .ok (.goto 17, 3) := by decide +kernel
theorem dL_law_783 : decode cL_law 783 = .ok (.aload_n 3, 1) := by decide +kernel
theorem dL_law_784 : decode cL_law 784 = .ok (.invokevirtual 206, 3) := by decide +kernel
theorem dL_law_787 : decode cL_law 787 = .ok (.iconst (-1), 1) := by decide +kernel
theorem dL_law_788 : decode cL_law 788 = .ok (.if_icmp .ne 7, 3) := by decide +kernel
theorem dL_law_791 : decode cL_law 791 = .ok (.iconst 1, 1) := by decide +kernel
theorem dL_law_792 : decode cL_law 792 = .ok (.goto 4, 3) := by decide +kernel
theorem dL_law_795 : decode cL_law 795 = .ok (.iconst 0, 1) := by decide +kernel
theorem dL_law_796 : decode cL_law 796 = .ok (.istore_n 1, 1) := by decide +kernel
theorem dL_law_797 : decode cL_law 797 = .ok (.iload 11, 2) := by decide +kernel
theorem dL_law_799 : decode cL_law 799 = .ok (.ifCond .eq 39, 3) := by decide +kernel
theorem dL_law_802 : decode cL_law 802 = .ok (.bipush 8, 2) := by decide +kernel
theorem dL_law_804 : decode cL_law 804 = .ok (.istore 12, 2) := by decide +kernel
theorem dL_law_806 : decode cL_law 806 = .ok (.iload 12, 2) := by decide +kernel
theorem dL_law_808 : decode cL_law 808 = .ok (.ifCond .le 21, 3) := by decide +kernel
theorem dL_law_811 : decode cL_law 811 = .ok (.aload 7, 2) := by decide +kernel
theorem dL_law_813 : decode cL_law 813 = .ok (.iload 12, 2) := by decide +kernel
theorem dL_law_815 : decode cL_law 815 = .ok (.aload 7, 2) := by decide +kernel
theorem dL_law_817 : decode cL_law 817 = .ok (.iload 12, 2) := by decide +kernel
theorem dL_law_819 : decode cL_law 819 = .ok (.iconst 1, 1) := by decide +kernel
theorem dL_law_820 : decode cL_law 820 = .ok (.isub, 1) := by decide +kernel
theorem dL_law_821 : decode cL_law 821 = .ok (.aaload, 1) := by decide +kernel
theorem dL_law_822 : decode cL_law 822 = .ok (.aastore, 1) := by decide +kernel
theorem dL_law_823 : decode cL_law 823 = .ok (.iinc 12 (-1), 3) := by decide +kernel
theorem dL_law_826 : decode cL_law 826 = .ok (.goto (-20), 3) := by decide +kernel
theorem dL_law_829 : decode cL_law 829 = .ok (.aload 7, 2) := by decide +kernel
theorem dL_law_831 : decode cL_law 831 = .ok (.iconst 0, 1) := by decide +kernel
theorem dL_law_832 : decode cL_law 832 = .ok (.aload 10, 2) := by decide +kernel
theorem dL_law_834 : decode cL_law 834 = .ok (.aastore, 1) := by decide +kernel
theorem dL_law_835 : decode cL_law 835 = .ok (.iinc 8 1, 3) := by decide +kernel
theorem dL_law_838 : decode cL_law 838 = .ok (.iload_n 1, 1) := by decide +kernel
theorem dL_law_839 : decode cL_law 839 = .ok (.ifCond .eq 16, 3) := by decide +kernel
theorem dL_law_842 : decode cL_law 842 = .ok (.aload_n 3, 1) := by decide +kernel
theorem dL_law_843 : decode cL_law 843 = .ok (.aload 6, 2) := by decide +kernel
theorem dL_law_845 : decode cL_law 845 = .ok (.invokestatic 226, 3) := by decide +kernel
theorem dL_law_848 : decode cL_law 848 = .ok (.ifCond .eq 7, 3) := by decide +kernel
theorem dL_law_851 : decode cL_law 851 = .ok (.iconst 1, 1) := by decide +kernel
theorem dL_law_852 : decode cL_law 852 = .ok (.goto 4, 3) := by decide +kernel
theorem dL_law_855 : decode cL_law 855 = .ok (.iconst 0, 1) := by decide +kernel
theorem dL_law_856 : decode cL_law 856 = .ok (.istore_n 1, 1) := by decide +kernel
theorem dL_law_857 : decode cL_law 857 = .ok (.iinc 9 1, 3) := by decide +kernel
theorem dL_law_860 : decode cL_law 860 = .ok (.goto (-653), 3) := by decide +kernel
theorem dL_law_863 : decode cL_law 863 = .ok (.iconst 0, 1) := by decide +kernel
theorem dL_law_864 : decode cL_law 864 = .ok (.istore 9, 2) := by decide +kernel
theorem dL_law_866 : decode cL_law 866 = .ok (.iload 9, 2) := by decide +kernel
theorem dL_law_868 : decode cL_law 868 = .ok (.bipush 8, 2) := by decide +kernel
theorem dL_law_870 : decode cL_law 870 = .ok (.if_icmp .ge 45, 3) := by decide +kernel
theorem dL_law_873 : decode cL_law 873 = .ok (.iload 9, 2) := by decide +kernel
theorem dL_law_875 : decode cL_law 875 = .ok (.iload 8, 2) := by decide +kernel
theorem dL_law_877 : decode cL_law 877 = .ok (.if_icmp .ge 38, 3) := by decide +kernel
theorem dL_law_880 : decode cL_law 880 = .ok (.iload_n 1, 1) := by decide +kernel
theorem dL_law_881 : decode cL_law 881 = .ok (.ifCond .eq 34, 3) := by decide +kernel
theorem dL_law_884 : decode cL_law 884 = .ok (.aload_n 3, 1) := by decide +kernel
theorem dL_law_885 : decode cL_law 885 = .ok (.invokevirtual 233, 3) := by decide +kernel
theorem dL_law_888 : decode cL_law 888 = .ok (.ifCond .lt 19, 3) := by decide +kernel
theorem dL_law_891 : decode cL_law 891 = .ok (.aload_n 3, 1) := by decide +kernel
theorem dL_law_892 : decode cL_law 892 = .ok (.aload 7, 2) := by decide +kernel
theorem dL_law_894 : decode cL_law 894 = .ok (.iload 9, 2) := by decide +kernel
theorem dL_law_896 : decode cL_law 896 = .ok (.aaload, 1) := by decide +kernel
theorem dL_law_897 : decode cL_law 897 = .ok (.invokestatic 226, 3) := by decide +kernel
theorem dL_law_900 : decode cL_law 900 = .ok (.ifCond .eq 7, 3) := by decide +kernel
theorem dL_law_903 : decode cL_law 903 = .ok (.iconst 1, 1) := by decide +kernel
theorem dL_law_904 : decode cL_law 904 = .ok (.goto 4, 3) := by decide +kernel
theorem dL_law_907 : decode cL_law 907 = .ok (.iconst 0, 1) := by decide +kernel
theorem dL_law_908 : decode cL_law 908 = .ok (.istore_n 1, 1) := by decide +kernel
theorem dL_law_909 : decode cL_law 909 = .ok (.iinc 9 1, 3) := by decide +kernel
theorem dL_law_912 : decode cL_law 912 = .ok (.goto (-46), 3) := by decide +kernel
theorem dL_law_915 : decode cL_law 915 = .ok (.iload_n 1, 1) := by decide +kernel
theorem dL_law_916 : decode cL_law 916 = .ok (.ifCond .eq 94, 3) := by decide +kernel
theorem dL_law_919 : decode cL_law 919 = .ok (.aload_n 3, 1) := by decide +kernel
theorem dL_law_920 : decode cL_law 920 = .ok (.iconst 1, 1) := by decide +kernel
theorem dL_law_921 : decode cL_law 921 = .ok (.invokestatic 19, 3) := by decide +kernel
theorem dL_law_924 : decode cL_law 924 = .ok (.ldc 42, 2) := by decide +kernel
theorem dL_law_926 : decode cL_law 926 = .ok (.if_icmp .ne 84, 3) := by decide +kernel
theorem dL_law_929 : decode cL_law 929 = .ok (.aload_n 3, 1) := by decide +kernel
theorem dL_law_930 : decode cL_law 930 = .ok (.iconst 0, 1) := by decide +kernel
theorem dL_law_931 : decode cL_law 931 = .ok (.iconst (-1), 1) := by decide +kernel
theorem dL_law_932 : decode cL_law 932 = .ok (.invokestatic 279, 3) := by decide +kernel
theorem dL_law_935 : decode cL_law 935 = .ok (.ldc 52, 2) := by decide +kernel
theorem dL_law_937 : decode cL_law 937 = .ok (.if_icmp .ne 73, 3) := by decide +kernel
theorem dL_law_940 : decode cL_law 940 = .ok (.aload_n 3, 1) := by decide +kernel
theorem dL_law_941 : decode cL_law 941 = .ok (.bipush 100, 2) := by decide +kernel
theorem dL_law_943 : decode cL_law 943 = .ok (.iconst 0, 1) := by decide +kernel
theorem dL_law_944 : decode cL_law 944 = .ok (.invokestatic 279, 3) := by decide +kernel
theorem dL_law_947 : decode cL_law 947 = .ok (.ldc 42, 2) := by decide +kernel
theorem dL_law_949 : decode cL_law 949 = .ok (.if_icmp .ne 61, 3) := by decide +kernel
theorem dL_law_952 : decode cL_law 952 = .ok (.aload_n 3, 1) := by decide +kernel
theorem dL_law_953 : decode cL_law 953 = .ok (.bipush 10, 2) := by decide +kernel
theorem dL_law_955 : decode cL_law 955 = .ok (.iconst 0, 1) := by decide +kernel
theorem dL_law_956 : decode cL_law 956 = .ok (.invokestatic 281, 3) := by decide +kernel
theorem dL_law_959 : decode cL_law 959 = .ok (.ldc 42, 2) := by decide +kernel
theorem dL_law_961 : decode cL_law 961 = .ok (.if_icmp .ne 49, 3) := by decide +kernel
theorem dL_law_964 : decode cL_law 964 = .ok (.aload_n 3, 1) := by decide +kernel
theorem dL_law_965 : decode cL_law 965 = .ok (.iconst 4, 1) := by decide +kernel
theorem dL_law_966 : decode cL_law 966 = .ok (.invokestatic 283, 3) := by decide +kernel
theorem dL_law_969 : decode cL_law 969 = .ok (.ldc 52, 2) := by decide +kernel
theorem dL_law_971 : decode cL_law 971 = .ok (.if_icmp .ne 39, 3) := by decide +kernel
theorem dL_law_974 : decode cL_law 974 = .ok (.aload_n 3, 1) := by decide +kernel
theorem dL_law_975 : decode cL_law 975 = .ok (.iconst (-1), 1) := by decide +kernel
theorem dL_law_976 : decode cL_law 976 = .ok (.invokestatic 285, 3) := by decide +kernel
theorem dL_law_979 : decode cL_law 979 = .ok (.ldc 52, 2) := by decide +kernel
theorem dL_law_981 : decode cL_law 981 = .ok (.if_icmp .ne 29, 3) := by decide +kernel
theorem dL_law_984 : decode cL_law 984 = .ok (.aload_n 3, 1) := by decide +kernel
theorem dL_law_985 : decode cL_law 985 = .ok (.iconst 5, 1) := by decide +kernel
theorem dL_law_986 : decode cL_law 986 = .ok (.iconst 0, 1) := by decide +kernel
theorem dL_law_987 : decode cL_law 987 = .ok (.invokestatic 287, 3) := by decide +kernel
theorem dL_law_990 : decode cL_law 990 = .ok (.ldc 52, 2) := by decide +kernel
theorem dL_law_992 : decode cL_law 992 = .ok (.if_icmp .ne 18, 3) := by decide +kernel
theorem dL_law_995 : decode cL_law 995 = .ok (.aload_n 3, 1) := by decide +kernel
theorem dL_law_996 : decode cL_law 996 = .ok (.iconst (-1), 1) := by decide +kernel
theorem dL_law_997 : decode cL_law 997 = .ok (.iconst 0, 1) := by decide +kernel
theorem dL_law_998 : decode cL_law 998 = .ok (.invokestatic 289, 3) := by decide +kernel
theorem dL_law_1001 : decode cL_law 1001 = .ok (.ldc 52, 2) := by decide +kernel
theorem dL_law_1003 : decode cL_law 1003 = .ok (.if_icmp .ne 7, 3) := by decide +kernel
theorem dL_law_1006 : decode cL_law 1006 = .ok (.iconst 1, 1) := by decide +kernel
theorem dL_law_1007 : decode cL_law 1007 = .ok (.goto 4, 3) := by decide +kernel
theorem dL_law_1010 : decode cL_law 1010 = .ok (.iconst 0, 1) := by decide +kernel
theorem dL_law_1011 : decode cL_law 1011 = .ok (.istore_n 1, 1) := by decide +kernel
theorem dL_law_1012 : decode cL_law 1012 = .ok (.iinc 2 1, 3) := by decide +kernel
theorem dL_law_1015 : decode cL_law 1015 = .ok (.goto (-1011), 3) := by decide +kernel
theorem dL_law_1018 : decode cL_law 1018 = .ok (.iload_n 1, 1) := by decide +kernel
theorem dL_law_1019 : decode cL_law 1019 = .ok (.ireturn, 1) := by decide +kernel
