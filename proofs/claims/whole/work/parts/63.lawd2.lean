/-! THE LAW: instructions -/
theorem eL_453 : decode ML.2.1 453 = .ok (.iadd, 1) := by decide +kernel
theorem eL_454 : decode ML.2.1 454 = .ok (.iaload, 1) := by decide +kernel
theorem eL_455 : decode ML.2.1 455 = .ok (.aload_n 0, 1) := by decide +kernel
theorem eL_456 : decode ML.2.1 456 = .ok (.iload_n 3, 1) := by decide +kernel
theorem eL_457 : decode ML.2.1 457 = .ok (.iconst 2, 1) := by decide +kernel
theorem eL_458 : decode ML.2.1 458 = .ok (.iadd, 1) := by decide +kernel
theorem eL_459 : decode ML.2.1 459 = .ok (.iaload, 1) := by decide +kernel
theorem eL_460 : decode ML.2.1 460 = .ok (.invokevirtual 59, 3) := by decide +kernel
theorem eL_463 : decode ML.2.1 463 = .ok (.if_icmp .eq 846, 3) := by decide +kernel
theorem eL_468 : decode ML.2.1 468 = .ok (.aload_n 1, 1) := by decide +kernel
theorem eL_469 : decode ML.2.1 469 = .ok (.aload_n 0, 1) := by decide +kernel
theorem eL_470 : decode ML.2.1 470 = .ok (.iload_n 3, 1) := by decide +kernel
theorem eL_471 : decode ML.2.1 471 = .ok (.iconst 1, 1) := by decide +kernel
theorem eL_472 : decode ML.2.1 472 = .ok (.iadd, 1) := by decide +kernel
theorem eL_473 : decode ML.2.1 473 = .ok (.iaload, 1) := by decide +kernel
theorem eL_474 : decode ML.2.1 474 = .ok (.aload_n 0, 1) := by decide +kernel
theorem eL_475 : decode ML.2.1 475 = .ok (.iload_n 3, 1) := by decide +kernel
theorem eL_476 : decode ML.2.1 476 = .ok (.iconst 2, 1) := by decide +kernel
theorem eL_477 : decode ML.2.1 477 = .ok (.iadd, 1) := by decide +kernel
theorem eL_478 : decode ML.2.1 478 = .ok (.iaload, 1) := by decide +kernel
theorem eL_479 : decode ML.2.1 479 = .ok (.invokevirtual 60, 3) := by decide +kernel
theorem eL_482 : decode ML.2.1 482 = .ok (.aload_n 2, 1) := by decide +kernel
theorem eL_483 : decode ML.2.1 483 = .ok (.aload_n 0, 1) := by decide +kernel
theorem eL_484 : decode ML.2.1 484 = .ok (.iload_n 3, 1) := by decide +kernel
theorem eL_485 : decode ML.2.1 485 = .ok (.iconst 1, 1) := by decide +kernel
theorem eL_486 : decode ML.2.1 486 = .ok (.iadd, 1) := by decide +kernel
theorem eL_487 : decode ML.2.1 487 = .ok (.iaload, 1) := by decide +kernel
theorem eL_488 : decode ML.2.1 488 = .ok (.aload_n 0, 1) := by decide +kernel
theorem eL_489 : decode ML.2.1 489 = .ok (.iload_n 3, 1) := by decide +kernel
theorem eL_490 : decode ML.2.1 490 = .ok (.iconst 2, 1) := by decide +kernel
theorem eL_491 : decode ML.2.1 491 = .ok (.iadd, 1) := by decide +kernel
theorem eL_492 : decode ML.2.1 492 = .ok (.iaload, 1) := by decide +kernel
theorem eL_493 : decode ML.2.1 493 = .ok (.invokevirtual 63, 3) := by decide +kernel
theorem eL_496 : decode ML.2.1 496 = .ok (.if_icmp .eq 813, 3) := by decide +kernel
theorem eL_501 : decode ML.2.1 501 = .ok (.aload_n 1, 1) := by decide +kernel
theorem eL_502 : decode ML.2.1 502 = .ok (.aload_n 0, 1) := by decide +kernel
theorem eL_503 : decode ML.2.1 503 = .ok (.iload_n 3, 1) := by decide +kernel
theorem eL_504 : decode ML.2.1 504 = .ok (.iconst 1, 1) := by decide +kernel
theorem eL_505 : decode ML.2.1 505 = .ok (.iadd, 1) := by decide +kernel
theorem eL_506 : decode ML.2.1 506 = .ok (.iaload, 1) := by decide +kernel
theorem eL_507 : decode ML.2.1 507 = .ok (.aload_n 0, 1) := by decide +kernel
theorem eL_508 : decode ML.2.1 508 = .ok (.iload_n 3, 1) := by decide +kernel
theorem eL_509 : decode ML.2.1 509 = .ok (.iconst 2, 1) := by decide +kernel
theorem eL_510 : decode ML.2.1 510 = .ok (.iadd, 1) := by decide +kernel
theorem eL_511 : decode ML.2.1 511 = .ok (.iaload, 1) := by decide +kernel
theorem eL_512 : decode ML.2.1 512 = .ok (.aload_n 0, 1) := by decide +kernel
theorem eL_513 : decode ML.2.1 513 = .ok (.iload_n 3, 1) := by decide +kernel
theorem eL_514 : decode ML.2.1 514 = .ok (.iconst 3, 1) := by decide +kernel
theorem eL_515 : decode ML.2.1 515 = .ok (.iadd, 1) := by decide +kernel
theorem eL_516 : decode ML.2.1 516 = .ok (.iaload, 1) := by decide +kernel
theorem eL_517 : decode ML.2.1 517 = .ok (.aload_n 0, 1) := by decide +kernel
theorem eL_518 : decode ML.2.1 518 = .ok (.iload_n 3, 1) := by decide +kernel
theorem eL_519 : decode ML.2.1 519 = .ok (.iconst 4, 1) := by decide +kernel
theorem eL_520 : decode ML.2.1 520 = .ok (.iadd, 1) := by decide +kernel
theorem eL_521 : decode ML.2.1 521 = .ok (.iaload, 1) := by decide +kernel
theorem eL_522 : decode ML.2.1 522 = .ok (.ifCond .eq 7, 3) := by decide +kernel
theorem eL_525 : decode ML.2.1 525 = .ok (.iconst 1, 1) := by decide +kernel
theorem eL_526 : decode ML.2.1 526 = .ok (.goto 4, 3) := by decide +kernel
theorem eL_529 : decode ML.2.1 529 = .ok (.iconst 0, 1) := by decide +kernel
theorem eL_530 : decode ML.2.1 530 = .ok (.aload_n 0, 1) := by decide +kernel
theorem eL_531 : decode ML.2.1 531 = .ok (.iload_n 3, 1) := by decide +kernel
theorem eL_532 : decode ML.2.1 532 = .ok (.iconst 5, 1) := by decide +kernel
theorem eL_533 : decode ML.2.1 533 = .ok (.iadd, 1) := by decide +kernel
theorem eL_534 : decode ML.2.1 534 = .ok (.iaload, 1) := by decide +kernel
theorem eL_535 : decode ML.2.1 535 = .ok (.invokevirtual 64, 3) := by decide +kernel
theorem eL_538 : decode ML.2.1 538 = .ok (.aload_n 2, 1) := by decide +kernel
theorem eL_539 : decode ML.2.1 539 = .ok (.aload_n 0, 1) := by decide +kernel
theorem eL_540 : decode ML.2.1 540 = .ok (.iload_n 3, 1) := by decide +kernel
theorem eL_541 : decode ML.2.1 541 = .ok (.iconst 1, 1) := by decide +kernel
theorem eL_542 : decode ML.2.1 542 = .ok (.iadd, 1) := by decide +kernel
theorem eL_543 : decode ML.2.1 543 = .ok (.iaload, 1) := by decide +kernel
theorem eL_544 : decode ML.2.1 544 = .ok (.aload_n 0, 1) := by decide +kernel
theorem eL_545 : decode ML.2.1 545 = .ok (.iload_n 3, 1) := by decide +kernel
theorem eL_546 : decode ML.2.1 546 = .ok (.iconst 2, 1) := by decide +kernel
theorem eL_547 : decode ML.2.1 547 = .ok (.iadd, 1) := by decide +kernel
theorem eL_548 : decode ML.2.1 548 = .ok (.iaload, 1) := by decide +kernel
theorem eL_549 : decode ML.2.1 549 = .ok (.aload_n 0, 1) := by decide +kernel
theorem eL_550 : decode ML.2.1 550 = .ok (.iload_n 3, 1) := by decide +kernel
theorem eL_551 : decode ML.2.1 551 = .ok (.iconst 3, 1) := by decide +kernel
theorem eL_552 : decode ML.2.1 552 = .ok (.iadd, 1) := by decide +kernel
theorem eL_553 : decode ML.2.1 553 = .ok (.iaload, 1) := by decide +kernel
theorem eL_554 : decode ML.2.1 554 = .ok (.aload_n 0, 1) := by decide +kernel
theorem eL_555 : decode ML.2.1 555 = .ok (.iload_n 3, 1) := by decide +kernel
theorem eL_556 : decode ML.2.1 556 = .ok (.iconst 4, 1) := by decide +kernel
theorem eL_557 : decode ML.2.1 557 = .ok (.iadd, 1) := by decide +kernel
theorem eL_558 : decode ML.2.1 558 = .ok (.iaload, 1) := by decide +kernel
theorem eL_559 : decode ML.2.1 559 = .ok (.ifCond .eq 7, 3) := by decide +kernel
theorem eL_562 : decode ML.2.1 562 = .ok (.iconst 1, 1) := by decide +kernel
theorem eL_563 : decode ML.2.1 563 = .ok (.goto 4, 3) := by decide +kernel
theorem eL_566 : decode ML.2.1 566 = .ok (.iconst 0, 1) := by decide +kernel
theorem eL_567 : decode ML.2.1 567 = .ok (.aload_n 0, 1) := by decide +kernel
theorem eL_568 : decode ML.2.1 568 = .ok (.iload_n 3, 1) := by decide +kernel
theorem eL_569 : decode ML.2.1 569 = .ok (.iconst 5, 1) := by decide +kernel
theorem eL_570 : decode ML.2.1 570 = .ok (.iadd, 1) := by decide +kernel
theorem eL_571 : decode ML.2.1 571 = .ok (.iaload, 1) := by decide +kernel
theorem eL_572 : decode ML.2.1 572 = .ok (.invokevirtual 68, 3) := by decide +kernel
theorem eL_575 : decode ML.2.1 575 = .ok (.lcmp, 1) := by decide +kernel
theorem eL_576 : decode ML.2.1 576 = .ok (.ifCond .eq 733, 3) := by decide +kernel
theorem eL_581 : decode ML.2.1 581 = .ok (.aload_n 1, 1) := by decide +kernel
theorem eL_582 : decode ML.2.1 582 = .ok (.aload_n 0, 1) := by decide +kernel
theorem eL_583 : decode ML.2.1 583 = .ok (.iload_n 3, 1) := by decide +kernel
theorem eL_584 : decode ML.2.1 584 = .ok (.iconst 1, 1) := by decide +kernel
theorem eL_585 : decode ML.2.1 585 = .ok (.iadd, 1) := by decide +kernel
theorem eL_586 : decode ML.2.1 586 = .ok (.iaload, 1) := by decide +kernel
theorem eL_587 : decode ML.2.1 587 = .ok (.aload_n 0, 1) := by decide +kernel
theorem eL_588 : decode ML.2.1 588 = .ok (.iload_n 3, 1) := by decide +kernel
theorem eL_589 : decode ML.2.1 589 = .ok (.iconst 2, 1) := by decide +kernel
theorem eL_590 : decode ML.2.1 590 = .ok (.iadd, 1) := by decide +kernel
theorem eL_591 : decode ML.2.1 591 = .ok (.iaload, 1) := by decide +kernel
theorem eL_592 : decode ML.2.1 592 = .ok (.aload_n 0, 1) := by decide +kernel
theorem eL_593 : decode ML.2.1 593 = .ok (.iload_n 3, 1) := by decide +kernel
theorem eL_594 : decode ML.2.1 594 = .ok (.iconst 3, 1) := by decide +kernel
theorem eL_595 : decode ML.2.1 595 = .ok (.iadd, 1) := by decide +kernel
theorem eL_596 : decode ML.2.1 596 = .ok (.iaload, 1) := by decide +kernel
theorem eL_597 : decode ML.2.1 597 = .ok (.aload_n 0, 1) := by decide +kernel
theorem eL_598 : decode ML.2.1 598 = .ok (.iload_n 3, 1) := by decide +kernel
theorem eL_599 : decode ML.2.1 599 = .ok (.iconst 4, 1) := by decide +kernel
theorem eL_600 : decode ML.2.1 600 = .ok (.iadd, 1) := by decide +kernel
theorem eL_601 : decode ML.2.1 601 = .ok (.iaload, 1) := by decide +kernel
theorem eL_602 : decode ML.2.1 602 = .ok (.invokevirtual 69, 3) := by decide +kernel
theorem eL_605 : decode ML.2.1 605 = .ok (.aload_n 2, 1) := by decide +kernel
theorem eL_606 : decode ML.2.1 606 = .ok (.aload_n 0, 1) := by decide +kernel
theorem eL_607 : decode ML.2.1 607 = .ok (.iload_n 3, 1) := by decide +kernel
theorem eL_608 : decode ML.2.1 608 = .ok (.iconst 1, 1) := by decide +kernel
theorem eL_609 : decode ML.2.1 609 = .ok (.iadd, 1) := by decide +kernel
theorem eL_610 : decode ML.2.1 610 = .ok (.iaload, 1) := by decide +kernel
theorem eL_611 : decode ML.2.1 611 = .ok (.aload_n 0, 1) := by decide +kernel
theorem eL_612 : decode ML.2.1 612 = .ok (.iload_n 3, 1) := by decide +kernel
theorem eL_613 : decode ML.2.1 613 = .ok (.iconst 2, 1) := by decide +kernel
theorem eL_614 : decode ML.2.1 614 = .ok (.iadd, 1) := by decide +kernel
theorem eL_615 : decode ML.2.1 615 = .ok (.iaload, 1) := by decide +kernel
theorem eL_616 : decode ML.2.1 616 = .ok (.aload_n 0, 1) := by decide +kernel
theorem eL_617 : decode ML.2.1 617 = .ok (.iload_n 3, 1) := by decide +kernel
theorem eL_618 : decode ML.2.1 618 = .ok (.iconst 3, 1) := by decide +kernel
theorem eL_619 : decode ML.2.1 619 = .ok (.iadd, 1) := by decide +kernel
theorem eL_620 : decode ML.2.1 620 = .ok (.iaload, 1) := by decide +kernel
theorem eL_621 : decode ML.2.1 621 = .ok (.aload_n 0, 1) := by decide +kernel
theorem eL_622 : decode ML.2.1 622 = .ok (.iload_n 3, 1) := by decide +kernel
theorem eL_623 : decode ML.2.1 623 = .ok (.iconst 4, 1) := by decide +kernel
theorem eL_624 : decode ML.2.1 624 = .ok (.iadd, 1) := by decide +kernel
theorem eL_625 : decode ML.2.1 625 = .ok (.iaload, 1) := by decide +kernel
theorem eL_626 : decode ML.2.1 626 = .ok (.invokevirtual 72, 3) := by decide +kernel
theorem eL_629 : decode ML.2.1 629 = .ok (.if_icmp .eq 680, 3) := by decide +kernel
theorem eL_634 : decode ML.2.1 634 = .ok (.aload_n 1, 1) := by decide +kernel
theorem eL_635 : decode ML.2.1 635 = .ok (.aload_n 0, 1) := by decide +kernel
theorem eL_636 : decode ML.2.1 636 = .ok (.iload_n 3, 1) := by decide +kernel
theorem eL_637 : decode ML.2.1 637 = .ok (.iconst 1, 1) := by decide +kernel
theorem eL_638 : decode ML.2.1 638 = .ok (.iadd, 1) := by decide +kernel
theorem eL_639 : decode ML.2.1 639 = .ok (.iaload, 1) := by decide +kernel
theorem eL_640 : decode ML.2.1 640 = .ok (.aload_n 0, 1) := by decide +kernel
theorem eL_641 : decode ML.2.1 641 = .ok (.iload_n 3, 1) := by decide +kernel
theorem eL_642 : decode ML.2.1 642 = .ok (.iconst 2, 1) := by decide +kernel
theorem eL_643 : decode ML.2.1 643 = .ok (.iadd, 1) := by decide +kernel
theorem eL_644 : decode ML.2.1 644 = .ok (.iaload, 1) := by decide +kernel
theorem eL_645 : decode ML.2.1 645 = .ok (.aload_n 0, 1) := by decide +kernel
theorem eL_646 : decode ML.2.1 646 = .ok (.iload_n 3, 1) := by decide +kernel
theorem eL_647 : decode ML.2.1 647 = .ok (.iconst 3, 1) := by decide +kernel
theorem eL_648 : decode ML.2.1 648 = .ok (.iadd, 1) := by decide +kernel
theorem eL_649 : decode ML.2.1 649 = .ok (.iaload, 1) := by decide +kernel
theorem eL_650 : decode ML.2.1 650 = .ok (.invokevirtual 73, 3) := by decide +kernel
theorem eL_653 : decode ML.2.1 653 = .ok (.aload_n 2, 1) := by decide +kernel
theorem eL_654 : decode ML.2.1 654 = .ok (.aload_n 0, 1) := by decide +kernel
theorem eL_655 : decode ML.2.1 655 = .ok (.iload_n 3, 1) := by decide +kernel
theorem eL_656 : decode ML.2.1 656 = .ok (.iconst 1, 1) := by decide +kernel
theorem eL_657 : decode ML.2.1 657 = .ok (.iadd, 1) := by decide +kernel
theorem eL_658 : decode ML.2.1 658 = .ok (.iaload, 1) := by decide +kernel
theorem eL_659 : decode ML.2.1 659 = .ok (.aload_n 0, 1) := by decide +kernel
theorem eL_660 : decode ML.2.1 660 = .ok (.iload_n 3, 1) := by decide +kernel
theorem eL_661 : decode ML.2.1 661 = .ok (.iconst 2, 1) := by decide +kernel
theorem eL_662 : decode ML.2.1 662 = .ok (.iadd, 1) := by decide +kernel
theorem eL_663 : decode ML.2.1 663 = .ok (.iaload, 1) := by decide +kernel
theorem eL_664 : decode ML.2.1 664 = .ok (.aload_n 0, 1) := by decide +kernel
theorem eL_665 : decode ML.2.1 665 = .ok (.iload_n 3, 1) := by decide +kernel
theorem eL_666 : decode ML.2.1 666 = .ok (.iconst 3, 1) := by decide +kernel
theorem eL_667 : decode ML.2.1 667 = .ok (.iadd, 1) := by decide +kernel
theorem eL_668 : decode ML.2.1 668 = .ok (.iaload, 1) := by decide +kernel
theorem eL_669 : decode ML.2.1 669 = .ok (.invokevirtual 77, 3) := by decide +kernel
theorem eL_672 : decode ML.2.1 672 = .ok (.if_icmp .eq 637, 3) := by decide +kernel
theorem eL_677 : decode ML.2.1 677 = .ok (.aload_n 1, 1) := by decide +kernel
theorem eL_678 : decode ML.2.1 678 = .ok (.aload_n 0, 1) := by decide +kernel
theorem eL_679 : decode ML.2.1 679 = .ok (.iload_n 3, 1) := by decide +kernel
theorem eL_680 : decode ML.2.1 680 = .ok (.iconst 1, 1) := by decide +kernel
theorem eL_681 : decode ML.2.1 681 = .ok (.iadd, 1) := by decide +kernel
theorem eL_682 : decode ML.2.1 682 = .ok (.iaload, 1) := by decide +kernel
theorem eL_683 : decode ML.2.1 683 = .ok (.i2l, 1) := by decide +kernel
theorem eL_684 : decode ML.2.1 684 = .ok (.bipush 32, 2) := by decide +kernel
theorem eL_686 : decode ML.2.1 686 = .ok (.lshl, 1) := by decide +kernel
theorem eL_687 : decode ML.2.1 687 = .ok (.aload_n 0, 1) := by decide +kernel
theorem eL_688 : decode ML.2.1 688 = .ok (.iload_n 3, 1) := by decide +kernel
theorem eL_689 : decode ML.2.1 689 = .ok (.iconst 2, 1) := by decide +kernel
theorem eL_690 : decode ML.2.1 690 = .ok (.iadd, 1) := by decide +kernel
theorem eL_691 : decode ML.2.1 691 = .ok (.iaload, 1) := by decide +kernel
theorem eL_692 : decode ML.2.1 692 = .ok (.i2l, 1) := by decide +kernel
theorem eL_693 : decode ML.2.1 693 = .ok (.ldc2_w 13, 3) := by decide +kernel
theorem eL_696 : decode ML.2.1 696 = .ok (.land, 1) := by decide +kernel
theorem eL_697 : decode ML.2.1 697 = .ok (.lor, 1) := by decide +kernel
theorem eL_698 : decode ML.2.1 698 = .ok (.aload_n 0, 1) := by decide +kernel
theorem eL_699 : decode ML.2.1 699 = .ok (.iload_n 3, 1) := by decide +kernel
theorem eL_700 : decode ML.2.1 700 = .ok (.iconst 3, 1) := by decide +kernel
theorem eL_701 : decode ML.2.1 701 = .ok (.iadd, 1) := by decide +kernel
theorem eL_702 : decode ML.2.1 702 = .ok (.iaload, 1) := by decide +kernel
theorem eL_703 : decode ML.2.1 703 = .ok (.aload_n 0, 1) := by decide +kernel
theorem eL_704 : decode ML.2.1 704 = .ok (.iload_n 3, 1) := by decide +kernel
theorem eL_705 : decode ML.2.1 705 = .ok (.iconst 4, 1) := by decide +kernel
theorem eL_706 : decode ML.2.1 706 = .ok (.iadd, 1) := by decide +kernel
theorem eL_707 : decode ML.2.1 707 = .ok (.iaload, 1) := by decide +kernel
theorem eL_708 : decode ML.2.1 708 = .ok (.invokevirtual 78, 3) := by decide +kernel
theorem eL_711 : decode ML.2.1 711 = .ok (.aload_n 2, 1) := by decide +kernel
theorem eL_712 : decode ML.2.1 712 = .ok (.aload_n 0, 1) := by decide +kernel
theorem eL_713 : decode ML.2.1 713 = .ok (.iload_n 3, 1) := by decide +kernel
theorem eL_714 : decode ML.2.1 714 = .ok (.iconst 1, 1) := by decide +kernel
theorem eL_715 : decode ML.2.1 715 = .ok (.iadd, 1) := by decide +kernel
theorem eL_716 : decode ML.2.1 716 = .ok (.iaload, 1) := by decide +kernel
theorem eL_717 : decode ML.2.1 717 = .ok (.i2l, 1) := by decide +kernel
theorem eL_718 : decode ML.2.1 718 = .ok (.bipush 32, 2) := by decide +kernel
theorem eL_720 : decode ML.2.1 720 = .ok (.lshl, 1) := by decide +kernel
theorem eL_721 : decode ML.2.1 721 = .ok (.aload_n 0, 1) := by decide +kernel
theorem eL_722 : decode ML.2.1 722 = .ok (.iload_n 3, 1) := by decide +kernel
theorem eL_723 : decode ML.2.1 723 = .ok (.iconst 2, 1) := by decide +kernel
theorem eL_724 : decode ML.2.1 724 = .ok (.iadd, 1) := by decide +kernel
theorem eL_725 : decode ML.2.1 725 = .ok (.iaload, 1) := by decide +kernel
theorem eL_726 : decode ML.2.1 726 = .ok (.i2l, 1) := by decide +kernel
theorem eL_727 : decode ML.2.1 727 = .ok (.ldc2_w 13, 3) := by decide +kernel
theorem eL_730 : decode ML.2.1 730 = .ok (.land, 1) := by decide +kernel
theorem eL_731 : decode ML.2.1 731 = .ok (.lor, 1) := by decide +kernel
theorem eL_732 : decode ML.2.1 732 = .ok (.aload_n 0, 1) := by decide +kernel
theorem eL_733 : decode ML.2.1 733 = .ok (.iload_n 3, 1) := by decide +kernel
