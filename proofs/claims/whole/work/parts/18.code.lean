theorem i_L_law_505 : decode m_L_law.2.1 505 = .ok (.aload_n 2, 1) := by decide +kernel
theorem i_L_law_506 : decode m_L_law.2.1 506 = .ok (.aload_n 0, 1) := by decide +kernel
theorem i_L_law_507 : decode m_L_law.2.1 507 = .ok (.iload 4, 2) := by decide +kernel
theorem i_L_law_509 : decode m_L_law.2.1 509 = .ok (.iconst 1, 1) := by decide +kernel
theorem i_L_law_510 : decode m_L_law.2.1 510 = .ok (.iadd, 1) := by decide +kernel
theorem i_L_law_511 : decode m_L_law.2.1 511 = .ok (.iaload, 1) := by decide +kernel
theorem i_L_law_512 : decode m_L_law.2.1 512 = .ok (.aload_n 0, 1) := by decide +kernel
theorem i_L_law_513 : decode m_L_law.2.1 513 = .ok (.iload 4, 2) := by decide +kernel
theorem i_L_law_515 : decode m_L_law.2.1 515 = .ok (.iconst 2, 1) := by decide +kernel
theorem i_L_law_516 : decode m_L_law.2.1 516 = .ok (.iadd, 1) := by decide +kernel
theorem i_L_law_517 : decode m_L_law.2.1 517 = .ok (.iaload, 1) := by decide +kernel
theorem i_L_law_518 : qInv m_L_law 518 m_M_next 5 2 := ⟨130, _, by decide +kernel, rfl, rfl, wd_1006, wd_1007, wd_1008, by decide +kernel⟩
theorem i_L_law_521 : decode m_L_law.2.1 521 = .ok (.istore 6, 2) := by decide +kernel
theorem i_L_law_523 : decode m_L_law.2.1 523 = .ok (.aload_n 2, 1) := by decide +kernel
theorem i_L_law_524 : qInv m_L_law 524 m_M_thrown 5 0 := ⟨110, _, by decide +kernel, rfl, rfl, wd_914, wd_915, wd_916, by decide +kernel⟩
theorem i_L_law_527 : decode m_L_law.2.1 527 = .ok (.iload 5, 2) := by decide +kernel
theorem i_L_law_529 : decode m_L_law.2.1 529 = .ok (.if_icmp .eq 5, 3) := by decide +kernel
theorem i_L_law_532 : decode m_L_law.2.1 532 = .ok (.iconst 0, 1) := by decide +kernel
theorem i_L_law_533 : decode m_L_law.2.1 533 = .ok (.ireturn, 1) := by decide +kernel
theorem i_L_law_534 : decode m_L_law.2.1 534 = .ok (.iload 5, 2) := by decide +kernel
theorem i_L_law_536 : decode m_L_law.2.1 536 = .ok (.ifCond .ne 15, 3) := by decide +kernel
theorem i_L_law_539 : decode m_L_law.2.1 539 = .ok (.aload_n 3, 1) := by decide +kernel
theorem i_L_law_540 : decode m_L_law.2.1 540 = .ok (.iconst 0, 1) := by decide +kernel
theorem i_L_law_541 : decode m_L_law.2.1 541 = .ok (.laload, 1) := by decide +kernel
theorem i_L_law_542 : decode m_L_law.2.1 542 = .ok (.iload 6, 2) := by decide +kernel
theorem i_L_law_544 : decode m_L_law.2.1 544 = .ok (.i2l, 1) := by decide +kernel
theorem i_L_law_545 : decode m_L_law.2.1 545 = .ok (.lcmp, 1) := by decide +kernel
theorem i_L_law_546 : decode m_L_law.2.1 546 = .ok (.ifCond .eq 5, 3) := by decide +kernel
theorem i_L_law_549 : decode m_L_law.2.1 549 = .ok (.iconst 0, 1) := by decide +kernel
theorem i_L_law_550 : decode m_L_law.2.1 550 = .ok (.ireturn, 1) := by decide +kernel
theorem i_L_law_551 : decode m_L_law.2.1 551 = .ok (.goto 936, 3) := by decide +kernel
theorem i_L_law_554 : decode m_L_law.2.1 554 = .ok (.aload_n 1, 1) := by decide +kernel
theorem i_L_law_555 : decode m_L_law.2.1 555 = .ok (.aload_n 0, 1) := by decide +kernel
theorem i_L_law_556 : decode m_L_law.2.1 556 = .ok (.iload 4, 2) := by decide +kernel
theorem i_L_law_558 : decode m_L_law.2.1 558 = .ok (.iconst 1, 1) := by decide +kernel
theorem i_L_law_559 : decode m_L_law.2.1 559 = .ok (.iadd, 1) := by decide +kernel
theorem i_L_law_560 : decode m_L_law.2.1 560 = .ok (.iaload, 1) := by decide +kernel
theorem i_L_law_561 : decode m_L_law.2.1 561 = .ok (.aload_n 0, 1) := by decide +kernel
theorem i_L_law_562 : decode m_L_law.2.1 562 = .ok (.iload 4, 2) := by decide +kernel
theorem i_L_law_564 : decode m_L_law.2.1 564 = .ok (.iconst 2, 1) := by decide +kernel
theorem i_L_law_565 : decode m_L_law.2.1 565 = .ok (.iadd, 1) := by decide +kernel
theorem i_L_law_566 : decode m_L_law.2.1 566 = .ok (.iaload, 1) := by decide +kernel
theorem i_L_law_567 : decode m_L_law.2.1 567 = .ok (.aload_n 0, 1) := by decide +kernel
theorem i_L_law_568 : decode m_L_law.2.1 568 = .ok (.iload 4, 2) := by decide +kernel
theorem i_L_law_570 : decode m_L_law.2.1 570 = .ok (.iconst 3, 1) := by decide +kernel
theorem i_L_law_571 : decode m_L_law.2.1 571 = .ok (.iadd, 1) := by decide +kernel
theorem i_L_law_572 : decode m_L_law.2.1 572 = .ok (.iaload, 1) := by decide +kernel
theorem i_L_law_573 : decode m_L_law.2.1 573 = .ok (.aload_n 3, 1) := by decide +kernel
theorem i_L_law_574 : qInvS m_L_law 574 m_L_count 5 := ⟨131, by decide +kernel, wd_523, wd_524, by decide +kernel⟩
theorem i_L_law_577 : decode m_L_law.2.1 577 = .ok (.istore 5, 2) := by decide +kernel
theorem i_L_law_579 : decode m_L_law.2.1 579 = .ok (.aload_n 2, 1) := by decide +kernel
theorem i_L_law_580 : decode m_L_law.2.1 580 = .ok (.aload_n 0, 1) := by decide +kernel
theorem i_L_law_581 : decode m_L_law.2.1 581 = .ok (.iload 4, 2) := by decide +kernel
theorem i_L_law_583 : decode m_L_law.2.1 583 = .ok (.iconst 1, 1) := by decide +kernel
theorem i_L_law_584 : decode m_L_law.2.1 584 = .ok (.iadd, 1) := by decide +kernel
theorem i_L_law_585 : decode m_L_law.2.1 585 = .ok (.iaload, 1) := by decide +kernel
theorem i_L_law_586 : decode m_L_law.2.1 586 = .ok (.aload_n 0, 1) := by decide +kernel
theorem i_L_law_587 : decode m_L_law.2.1 587 = .ok (.iload 4, 2) := by decide +kernel
theorem i_L_law_589 : decode m_L_law.2.1 589 = .ok (.iconst 2, 1) := by decide +kernel
theorem i_L_law_590 : decode m_L_law.2.1 590 = .ok (.iadd, 1) := by decide +kernel
theorem i_L_law_591 : decode m_L_law.2.1 591 = .ok (.iaload, 1) := by decide +kernel
theorem i_L_law_592 : decode m_L_law.2.1 592 = .ok (.aload_n 0, 1) := by decide +kernel
theorem i_L_law_593 : decode m_L_law.2.1 593 = .ok (.iload 4, 2) := by decide +kernel
theorem i_L_law_595 : decode m_L_law.2.1 595 = .ok (.iconst 3, 1) := by decide +kernel
theorem i_L_law_596 : decode m_L_law.2.1 596 = .ok (.iadd, 1) := by decide +kernel
theorem i_L_law_597 : decode m_L_law.2.1 597 = .ok (.iaload, 1) := by decide +kernel
theorem i_L_law_598 : qInv m_L_law 598 m_M_count 5 3 := ⟨134, _, by decide +kernel, rfl, rfl, wd_1018, wd_1019, wd_1020, by decide +kernel⟩
theorem i_L_law_601 : decode m_L_law.2.1 601 = .ok (.istore 6, 2) := by decide +kernel
theorem i_L_law_603 : decode m_L_law.2.1 603 = .ok (.aload_n 2, 1) := by decide +kernel
theorem i_L_law_604 : qInv m_L_law 604 m_M_thrown 5 0 := ⟨110, _, by decide +kernel, rfl, rfl, wd_914, wd_915, wd_916, by decide +kernel⟩
theorem i_L_law_607 : decode m_L_law.2.1 607 = .ok (.iload 5, 2) := by decide +kernel
theorem i_L_law_609 : decode m_L_law.2.1 609 = .ok (.if_icmp .eq 5, 3) := by decide +kernel
theorem i_L_law_612 : decode m_L_law.2.1 612 = .ok (.iconst 0, 1) := by decide +kernel
theorem i_L_law_613 : decode m_L_law.2.1 613 = .ok (.ireturn, 1) := by decide +kernel
theorem i_L_law_614 : decode m_L_law.2.1 614 = .ok (.iload 5, 2) := by decide +kernel
theorem i_L_law_616 : decode m_L_law.2.1 616 = .ok (.ifCond .ne 15, 3) := by decide +kernel
theorem i_L_law_619 : decode m_L_law.2.1 619 = .ok (.aload_n 3, 1) := by decide +kernel
theorem i_L_law_620 : decode m_L_law.2.1 620 = .ok (.iconst 0, 1) := by decide +kernel
theorem i_L_law_621 : decode m_L_law.2.1 621 = .ok (.laload, 1) := by decide +kernel
theorem i_L_law_622 : decode m_L_law.2.1 622 = .ok (.iload 6, 2) := by decide +kernel
theorem i_L_law_624 : decode m_L_law.2.1 624 = .ok (.i2l, 1) := by decide +kernel
theorem i_L_law_625 : decode m_L_law.2.1 625 = .ok (.lcmp, 1) := by decide +kernel
theorem i_L_law_626 : decode m_L_law.2.1 626 = .ok (.ifCond .eq 5, 3) := by decide +kernel
theorem i_L_law_629 : decode m_L_law.2.1 629 = .ok (.iconst 0, 1) := by decide +kernel
theorem i_L_law_630 : decode m_L_law.2.1 630 = .ok (.ireturn, 1) := by decide +kernel
theorem i_L_law_631 : decode m_L_law.2.1 631 = .ok (.goto 856, 3) := by decide +kernel
theorem i_L_law_634 : decode m_L_law.2.1 634 = .ok (.aload_n 1, 1) := by decide +kernel
theorem i_L_law_635 : decode m_L_law.2.1 635 = .ok (.aload_n 0, 1) := by decide +kernel
theorem i_L_law_636 : decode m_L_law.2.1 636 = .ok (.iload 4, 2) := by decide +kernel
theorem i_L_law_638 : decode m_L_law.2.1 638 = .ok (.iconst 1, 1) := by decide +kernel
theorem i_L_law_639 : decode m_L_law.2.1 639 = .ok (.iadd, 1) := by decide +kernel
theorem i_L_law_640 : decode m_L_law.2.1 640 = .ok (.iaload, 1) := by decide +kernel
theorem i_L_law_641 : decode m_L_law.2.1 641 = .ok (.aload_n 0, 1) := by decide +kernel
theorem i_L_law_642 : decode m_L_law.2.1 642 = .ok (.iload 4, 2) := by decide +kernel
theorem i_L_law_644 : decode m_L_law.2.1 644 = .ok (.iconst 2, 1) := by decide +kernel
theorem i_L_law_645 : decode m_L_law.2.1 645 = .ok (.iadd, 1) := by decide +kernel
theorem i_L_law_646 : decode m_L_law.2.1 646 = .ok (.iaload, 1) := by decide +kernel
theorem i_L_law_647 : decode m_L_law.2.1 647 = .ok (.aload_n 0, 1) := by decide +kernel
theorem i_L_law_648 : decode m_L_law.2.1 648 = .ok (.iload 4, 2) := by decide +kernel
theorem i_L_law_650 : decode m_L_law.2.1 650 = .ok (.iconst 3, 1) := by decide +kernel
theorem i_L_law_651 : decode m_L_law.2.1 651 = .ok (.iadd, 1) := by decide +kernel
theorem i_L_law_652 : decode m_L_law.2.1 652 = .ok (.iaload, 1) := by decide +kernel
theorem i_L_law_653 : decode m_L_law.2.1 653 = .ok (.aload_n 3, 1) := by decide +kernel
theorem i_L_law_654 : qInvS m_L_law 654 m_L_sum 5 := ⟨135, by decide +kernel, wd_530, wd_531, by decide +kernel⟩
theorem i_L_law_657 : decode m_L_law.2.1 657 = .ok (.istore 5, 2) := by decide +kernel
theorem i_L_law_659 : decode m_L_law.2.1 659 = .ok (.aload_n 2, 1) := by decide +kernel
theorem i_L_law_660 : decode m_L_law.2.1 660 = .ok (.aload_n 0, 1) := by decide +kernel
theorem i_L_law_661 : decode m_L_law.2.1 661 = .ok (.iload 4, 2) := by decide +kernel
theorem i_L_law_663 : decode m_L_law.2.1 663 = .ok (.iconst 1, 1) := by decide +kernel
theorem i_L_law_664 : decode m_L_law.2.1 664 = .ok (.iadd, 1) := by decide +kernel
theorem i_L_law_665 : decode m_L_law.2.1 665 = .ok (.iaload, 1) := by decide +kernel
theorem i_L_law_666 : decode m_L_law.2.1 666 = .ok (.aload_n 0, 1) := by decide +kernel
theorem i_L_law_667 : decode m_L_law.2.1 667 = .ok (.iload 4, 2) := by decide +kernel
theorem i_L_law_669 : decode m_L_law.2.1 669 = .ok (.iconst 2, 1) := by decide +kernel
theorem i_L_law_670 : decode m_L_law.2.1 670 = .ok (.iadd, 1) := by decide +kernel
theorem i_L_law_671 : decode m_L_law.2.1 671 = .ok (.iaload, 1) := by decide +kernel
theorem i_L_law_672 : decode m_L_law.2.1 672 = .ok (.aload_n 0, 1) := by decide +kernel
theorem i_L_law_673 : decode m_L_law.2.1 673 = .ok (.iload 4, 2) := by decide +kernel
theorem i_L_law_675 : decode m_L_law.2.1 675 = .ok (.iconst 3, 1) := by decide +kernel
theorem i_L_law_676 : decode m_L_law.2.1 676 = .ok (.iadd, 1) := by decide +kernel
theorem i_L_law_677 : decode m_L_law.2.1 677 = .ok (.iaload, 1) := by decide +kernel
theorem i_L_law_678 : qInv m_L_law 678 m_M_sum 5 3 := ⟨137, _, by decide +kernel, rfl, rfl, wd_1022, wd_1023, wd_1024, by decide +kernel⟩
theorem i_L_law_681 : decode m_L_law.2.1 681 = .ok (.lstore 6, 2) := by decide +kernel
theorem i_L_law_683 : decode m_L_law.2.1 683 = .ok (.aload_n 2, 1) := by decide +kernel
theorem i_L_law_684 : qInv m_L_law 684 m_M_thrown 5 0 := ⟨110, _, by decide +kernel, rfl, rfl, wd_914, wd_915, wd_916, by decide +kernel⟩
theorem i_L_law_687 : decode m_L_law.2.1 687 = .ok (.iload 5, 2) := by decide +kernel
theorem i_L_law_689 : decode m_L_law.2.1 689 = .ok (.if_icmp .eq 5, 3) := by decide +kernel
theorem i_L_law_692 : decode m_L_law.2.1 692 = .ok (.iconst 0, 1) := by decide +kernel
theorem i_L_law_693 : decode m_L_law.2.1 693 = .ok (.ireturn, 1) := by decide +kernel
theorem i_L_law_694 : decode m_L_law.2.1 694 = .ok (.iload 5, 2) := by decide +kernel
theorem i_L_law_696 : decode m_L_law.2.1 696 = .ok (.ifCond .ne 14, 3) := by decide +kernel
theorem i_L_law_699 : decode m_L_law.2.1 699 = .ok (.aload_n 3, 1) := by decide +kernel
theorem i_L_law_700 : decode m_L_law.2.1 700 = .ok (.iconst 0, 1) := by decide +kernel
theorem i_L_law_701 : decode m_L_law.2.1 701 = .ok (.laload, 1) := by decide +kernel
theorem i_L_law_702 : decode m_L_law.2.1 702 = .ok (.lload 6, 2) := by decide +kernel
theorem i_L_law_704 : decode m_L_law.2.1 704 = .ok (.lcmp, 1) := by decide +kernel
theorem i_L_law_705 : decode m_L_law.2.1 705 = .ok (.ifCond .eq 5, 3) := by decide +kernel
theorem i_L_law_708 : decode m_L_law.2.1 708 = .ok (.iconst 0, 1) := by decide +kernel
theorem i_L_law_709 : decode m_L_law.2.1 709 = .ok (.ireturn, 1) := by decide +kernel
theorem i_L_law_710 : decode m_L_law.2.1 710 = .ok (.goto 777, 3) := by decide +kernel
theorem i_L_law_713 : decode m_L_law.2.1 713 = .ok (.aload_n 1, 1) := by decide +kernel
theorem i_L_law_714 : decode m_L_law.2.1 714 = .ok (.aload_n 0, 1) := by decide +kernel
theorem i_L_law_715 : decode m_L_law.2.1 715 = .ok (.iload 4, 2) := by decide +kernel
theorem i_L_law_717 : decode m_L_law.2.1 717 = .ok (.iconst 1, 1) := by decide +kernel
theorem i_L_law_718 : decode m_L_law.2.1 718 = .ok (.iadd, 1) := by decide +kernel
theorem i_L_law_719 : decode m_L_law.2.1 719 = .ok (.iaload, 1) := by decide +kernel
theorem i_L_law_720 : decode m_L_law.2.1 720 = .ok (.aload_n 0, 1) := by decide +kernel
theorem i_L_law_721 : decode m_L_law.2.1 721 = .ok (.iload 4, 2) := by decide +kernel
theorem i_L_law_723 : decode m_L_law.2.1 723 = .ok (.iconst 2, 1) := by decide +kernel
theorem i_L_law_724 : decode m_L_law.2.1 724 = .ok (.iadd, 1) := by decide +kernel
theorem i_L_law_725 : decode m_L_law.2.1 725 = .ok (.iaload, 1) := by decide +kernel
theorem i_L_law_726 : decode m_L_law.2.1 726 = .ok (.aload_n 0, 1) := by decide +kernel
theorem i_L_law_727 : decode m_L_law.2.1 727 = .ok (.iload 4, 2) := by decide +kernel
theorem i_L_law_729 : decode m_L_law.2.1 729 = .ok (.iconst 3, 1) := by decide +kernel
theorem i_L_law_730 : decode m_L_law.2.1 730 = .ok (.iadd, 1) := by decide +kernel
theorem i_L_law_731 : decode m_L_law.2.1 731 = .ok (.iaload, 1) := by decide +kernel
theorem i_L_law_732 : decode m_L_law.2.1 732 = .ok (.aload_n 3, 1) := by decide +kernel
theorem i_L_law_733 : qInvS m_L_law 733 m_L_differs 5 := ⟨138, by decide +kernel, wd_541, wd_542, by decide +kernel⟩
theorem i_L_law_736 : decode m_L_law.2.1 736 = .ok (.istore 5, 2) := by decide +kernel
theorem i_L_law_738 : decode m_L_law.2.1 738 = .ok (.aload_n 2, 1) := by decide +kernel
theorem i_L_law_739 : decode m_L_law.2.1 739 = .ok (.aload_n 0, 1) := by decide +kernel
theorem i_L_law_740 : decode m_L_law.2.1 740 = .ok (.iload 4, 2) := by decide +kernel
theorem i_L_law_742 : decode m_L_law.2.1 742 = .ok (.iconst 1, 1) := by decide +kernel
theorem i_L_law_743 : decode m_L_law.2.1 743 = .ok (.iadd, 1) := by decide +kernel
theorem i_L_law_744 : decode m_L_law.2.1 744 = .ok (.iaload, 1) := by decide +kernel
theorem i_L_law_745 : decode m_L_law.2.1 745 = .ok (.aload_n 0, 1) := by decide +kernel
theorem i_L_law_746 : decode m_L_law.2.1 746 = .ok (.iload 4, 2) := by decide +kernel
theorem i_L_law_748 : decode m_L_law.2.1 748 = .ok (.iconst 2, 1) := by decide +kernel
theorem i_L_law_749 : decode m_L_law.2.1 749 = .ok (.iadd, 1) := by decide +kernel
theorem i_L_law_750 : decode m_L_law.2.1 750 = .ok (.iaload, 1) := by decide +kernel
theorem i_L_law_751 : decode m_L_law.2.1 751 = .ok (.aload_n 0, 1) := by decide +kernel
theorem i_L_law_752 : decode m_L_law.2.1 752 = .ok (.iload 4, 2) := by decide +kernel
theorem i_L_law_754 : decode m_L_law.2.1 754 = .ok (.iconst 3, 1) := by decide +kernel
theorem i_L_law_755 : decode m_L_law.2.1 755 = .ok (.iadd, 1) := by decide +kernel
theorem i_L_law_756 : decode m_L_law.2.1 756 = .ok (.iaload, 1) := by decide +kernel
theorem i_L_law_757 : qInv m_L_law 757 m_M_differs 5 3 := ⟨140, _, by decide +kernel, rfl, rfl, wd_1026, wd_1027, wd_1028, by decide +kernel⟩
theorem i_L_law_760 : decode m_L_law.2.1 760 = .ok (.istore 6, 2) := by decide +kernel
theorem i_L_law_762 : decode m_L_law.2.1 762 = .ok (.aload_n 2, 1) := by decide +kernel
theorem i_L_law_763 : qInv m_L_law 763 m_M_thrown 5 0 := ⟨110, _, by decide +kernel, rfl, rfl, wd_914, wd_915, wd_916, by decide +kernel⟩
theorem i_L_law_766 : decode m_L_law.2.1 766 = .ok (.iload 5, 2) := by decide +kernel
theorem i_L_law_768 : decode m_L_law.2.1 768 = .ok (.if_icmp .eq 5, 3) := by decide +kernel
theorem i_L_law_771 : decode m_L_law.2.1 771 = .ok (.iconst 0, 1) := by decide +kernel
theorem i_L_law_772 : decode m_L_law.2.1 772 = .ok (.ireturn, 1) := by decide +kernel
theorem i_L_law_773 : decode m_L_law.2.1 773 = .ok (.iload 5, 2) := by decide +kernel
theorem i_L_law_775 : decode m_L_law.2.1 775 = .ok (.ifCond .ne 15, 3) := by decide +kernel
theorem i_L_law_778 : decode m_L_law.2.1 778 = .ok (.aload_n 3, 1) := by decide +kernel
theorem i_L_law_779 : decode m_L_law.2.1 779 = .ok (.iconst 0, 1) := by decide +kernel
theorem i_L_law_780 : decode m_L_law.2.1 780 = .ok (.laload, 1) := by decide +kernel
theorem i_L_law_781 : decode m_L_law.2.1 781 = .ok (.iload 6, 2) := by decide +kernel
theorem i_L_law_783 : decode m_L_law.2.1 783 = .ok (.i2l, 1) := by decide +kernel
theorem i_L_law_784 : decode m_L_law.2.1 784 = .ok (.lcmp, 1) := by decide +kernel
theorem i_L_law_785 : decode m_L_law.2.1 785 = .ok (.ifCond .eq 5, 3) := by decide +kernel
theorem i_L_law_788 : decode m_L_law.2.1 788 = .ok (.iconst 0, 1) := by decide +kernel
theorem i_L_law_789 : decode m_L_law.2.1 789 = .ok (.ireturn, 1) := by decide +kernel
theorem i_L_law_790 : decode m_L_law.2.1 790 = .ok (.goto 697, 3) := by decide +kernel
theorem i_L_law_793 : decode m_L_law.2.1 793 = .ok (.aload_n 1, 1) := by decide +kernel
theorem i_L_law_794 : decode m_L_law.2.1 794 = .ok (.aload_n 3, 1) := by decide +kernel
theorem i_L_law_795 : qInvS m_L_law 795 m_L_pages 2 := ⟨141, by decide +kernel, wd_577, wd_578, by decide +kernel⟩
theorem i_L_law_798 : decode m_L_law.2.1 798 = .ok (.istore 5, 2) := by decide +kernel
theorem i_L_law_800 : decode m_L_law.2.1 800 = .ok (.aload_n 2, 1) := by decide +kernel
theorem i_L_law_801 : qInv m_L_law 801 m_M_pages 5 0 := ⟨143, _, by decide +kernel, rfl, rfl, wd_1030, wd_1031, wd_1032, by decide +kernel⟩
theorem i_L_law_804 : decode m_L_law.2.1 804 = .ok (.istore 6, 2) := by decide +kernel
theorem i_L_law_806 : decode m_L_law.2.1 806 = .ok (.aload_n 2, 1) := by decide +kernel
theorem i_L_law_807 : qInv m_L_law 807 m_M_thrown 5 0 := ⟨110, _, by decide +kernel, rfl, rfl, wd_914, wd_915, wd_916, by decide +kernel⟩
theorem i_L_law_810 : decode m_L_law.2.1 810 = .ok (.iload 5, 2) := by decide +kernel
theorem i_L_law_812 : decode m_L_law.2.1 812 = .ok (.if_icmp .eq 5, 3) := by decide +kernel
theorem i_L_law_815 : decode m_L_law.2.1 815 = .ok (.iconst 0, 1) := by decide +kernel
theorem i_L_law_816 : decode m_L_law.2.1 816 = .ok (.ireturn, 1) := by decide +kernel
theorem i_L_law_817 : decode m_L_law.2.1 817 = .ok (.iload 5, 2) := by decide +kernel
theorem i_L_law_819 : decode m_L_law.2.1 819 = .ok (.ifCond .ne 15, 3) := by decide +kernel
theorem i_L_law_822 : decode m_L_law.2.1 822 = .ok (.aload_n 3, 1) := by decide +kernel
theorem i_L_law_823 : decode m_L_law.2.1 823 = .ok (.iconst 0, 1) := by decide +kernel
theorem i_L_law_824 : decode m_L_law.2.1 824 = .ok (.laload, 1) := by decide +kernel
theorem i_L_law_825 : decode m_L_law.2.1 825 = .ok (.iload 6, 2) := by decide +kernel
theorem i_L_law_827 : decode m_L_law.2.1 827 = .ok (.i2l, 1) := by decide +kernel
theorem i_L_law_828 : decode m_L_law.2.1 828 = .ok (.lcmp, 1) := by decide +kernel
theorem i_L_law_829 : decode m_L_law.2.1 829 = .ok (.ifCond .eq 5, 3) := by decide +kernel
theorem i_L_law_832 : decode m_L_law.2.1 832 = .ok (.iconst 0, 1) := by decide +kernel
theorem i_L_law_833 : decode m_L_law.2.1 833 = .ok (.ireturn, 1) := by decide +kernel
theorem i_L_law_834 : decode m_L_law.2.1 834 = .ok (.goto 653, 3) := by decide +kernel
theorem i_L_law_837 : decode m_L_law.2.1 837 = .ok (.aload_n 1, 1) := by decide +kernel
theorem i_L_law_838 : decode m_L_law.2.1 838 = .ok (.aload_n 0, 1) := by decide +kernel
theorem i_L_law_839 : decode m_L_law.2.1 839 = .ok (.iload 4, 2) := by decide +kernel
theorem i_L_law_841 : decode m_L_law.2.1 841 = .ok (.iconst 1, 1) := by decide +kernel
theorem i_L_law_842 : decode m_L_law.2.1 842 = .ok (.iadd, 1) := by decide +kernel
theorem i_L_law_843 : decode m_L_law.2.1 843 = .ok (.iaload, 1) := by decide +kernel
theorem i_L_law_844 : decode m_L_law.2.1 844 = .ok (.aload_n 0, 1) := by decide +kernel
theorem i_L_law_845 : decode m_L_law.2.1 845 = .ok (.iload 4, 2) := by decide +kernel
theorem i_L_law_847 : decode m_L_law.2.1 847 = .ok (.iconst 2, 1) := by decide +kernel
theorem i_L_law_848 : decode m_L_law.2.1 848 = .ok (.iadd, 1) := by decide +kernel
theorem i_L_law_849 : decode m_L_law.2.1 849 = .ok (.iaload, 1) := by decide +kernel
theorem i_L_law_850 : decode m_L_law.2.1 850 = .ok (.aload_n 3, 1) := by decide +kernel
theorem i_L_law_851 : qInvS m_L_law 851 m_L_page 4 := ⟨144, by decide +kernel, wd_584, wd_585, by decide +kernel⟩
theorem i_L_law_854 : decode m_L_law.2.1 854 = .ok (.istore 5, 2) := by decide +kernel
theorem i_L_law_856 : decode m_L_law.2.1 856 = .ok (.aload_n 2, 1) := by decide +kernel
theorem i_L_law_857 : decode m_L_law.2.1 857 = .ok (.aload_n 0, 1) := by decide +kernel
theorem i_L_law_858 : decode m_L_law.2.1 858 = .ok (.iload 4, 2) := by decide +kernel
theorem i_L_law_860 : decode m_L_law.2.1 860 = .ok (.iconst 1, 1) := by decide +kernel
theorem i_L_law_861 : decode m_L_law.2.1 861 = .ok (.iadd, 1) := by decide +kernel
theorem i_L_law_862 : decode m_L_law.2.1 862 = .ok (.iaload, 1) := by decide +kernel
theorem i_L_law_863 : decode m_L_law.2.1 863 = .ok (.aload_n 0, 1) := by decide +kernel
theorem i_L_law_864 : decode m_L_law.2.1 864 = .ok (.iload 4, 2) := by decide +kernel
theorem i_L_law_866 : decode m_L_law.2.1 866 = .ok (.iconst 2, 1) := by decide +kernel
theorem i_L_law_867 : decode m_L_law.2.1 867 = .ok (.iadd, 1) := by decide +kernel
theorem i_L_law_868 : decode m_L_law.2.1 868 = .ok (.iaload, 1) := by decide +kernel
theorem i_L_law_869 : qInv m_L_law 869 m_M_page 5 2 := ⟨146, _, by decide +kernel, rfl, rfl, wd_1034, wd_1035, wd_1036, by decide +kernel⟩
theorem i_L_law_872 : decode m_L_law.2.1 872 = .ok (.istore 6, 2) := by decide +kernel
theorem i_L_law_874 : decode m_L_law.2.1 874 = .ok (.aload_n 2, 1) := by decide +kernel
theorem i_L_law_875 : qInv m_L_law 875 m_M_thrown 5 0 := ⟨110, _, by decide +kernel, rfl, rfl, wd_914, wd_915, wd_916, by decide +kernel⟩
theorem i_L_law_878 : decode m_L_law.2.1 878 = .ok (.iload 5, 2) := by decide +kernel
theorem i_L_law_880 : decode m_L_law.2.1 880 = .ok (.if_icmp .eq 5, 3) := by decide +kernel
theorem i_L_law_883 : decode m_L_law.2.1 883 = .ok (.iconst 0, 1) := by decide +kernel
theorem i_L_law_884 : decode m_L_law.2.1 884 = .ok (.ireturn, 1) := by decide +kernel
theorem i_L_law_885 : decode m_L_law.2.1 885 = .ok (.iload 5, 2) := by decide +kernel
theorem i_L_law_887 : decode m_L_law.2.1 887 = .ok (.ifCond .ne 15, 3) := by decide +kernel
theorem i_L_law_890 : decode m_L_law.2.1 890 = .ok (.aload_n 3, 1) := by decide +kernel
theorem i_L_law_891 : decode m_L_law.2.1 891 = .ok (.iconst 0, 1) := by decide +kernel
theorem i_L_law_892 : decode m_L_law.2.1 892 = .ok (.laload, 1) := by decide +kernel
theorem i_L_law_893 : decode m_L_law.2.1 893 = .ok (.iload 6, 2) := by decide +kernel
theorem i_L_law_895 : decode m_L_law.2.1 895 = .ok (.i2l, 1) := by decide +kernel
theorem i_L_law_896 : decode m_L_law.2.1 896 = .ok (.lcmp, 1) := by decide +kernel
theorem i_L_law_897 : decode m_L_law.2.1 897 = .ok (.ifCond .eq 5, 3) := by decide +kernel
theorem i_L_law_900 : decode m_L_law.2.1 900 = .ok (.iconst 0, 1) := by decide +kernel
theorem i_L_law_901 : decode m_L_law.2.1 901 = .ok (.ireturn, 1) := by decide +kernel
theorem i_L_law_902 : decode m_L_law.2.1 902 = .ok (.goto 585, 3) := by decide +kernel
theorem i_L_law_905 : decode m_L_law.2.1 905 = .ok (.aload_n 1, 1) := by decide +kernel
theorem i_L_law_906 : decode m_L_law.2.1 906 = .ok (.aload_n 0, 1) := by decide +kernel
theorem i_L_law_907 : decode m_L_law.2.1 907 = .ok (.iload 4, 2) := by decide +kernel
theorem i_L_law_909 : decode m_L_law.2.1 909 = .ok (.iconst 1, 1) := by decide +kernel
theorem i_L_law_910 : decode m_L_law.2.1 910 = .ok (.iadd, 1) := by decide +kernel
theorem i_L_law_911 : decode m_L_law.2.1 911 = .ok (.iaload, 1) := by decide +kernel
theorem i_L_law_912 : decode m_L_law.2.1 912 = .ok (.aload_n 0, 1) := by decide +kernel
theorem i_L_law_913 : decode m_L_law.2.1 913 = .ok (.iload 4, 2) := by decide +kernel
theorem i_L_law_915 : decode m_L_law.2.1 915 = .ok (.iconst 2, 1) := by decide +kernel
theorem i_L_law_916 : decode m_L_law.2.1 916 = .ok (.iadd, 1) := by decide +kernel
theorem i_L_law_917 : decode m_L_law.2.1 917 = .ok (.iaload, 1) := by decide +kernel
theorem i_L_law_918 : decode m_L_law.2.1 918 = .ok (.aload_n 3, 1) := by decide +kernel
theorem i_L_law_919 : qInvS m_L_law 919 m_L_alive 4 := ⟨147, by decide +kernel, wd_602, wd_603, by decide +kernel⟩
theorem i_L_law_922 : decode m_L_law.2.1 922 = .ok (.istore 5, 2) := by decide +kernel
theorem i_L_law_924 : decode m_L_law.2.1 924 = .ok (.aload_n 2, 1) := by decide +kernel
theorem i_L_law_925 : decode m_L_law.2.1 925 = .ok (.aload_n 0, 1) := by decide +kernel
theorem i_L_law_926 : decode m_L_law.2.1 926 = .ok (.iload 4, 2) := by decide +kernel
theorem i_L_law_928 : decode m_L_law.2.1 928 = .ok (.iconst 1, 1) := by decide +kernel
theorem i_L_law_929 : decode m_L_law.2.1 929 = .ok (.iadd, 1) := by decide +kernel
theorem i_L_law_930 : decode m_L_law.2.1 930 = .ok (.iaload, 1) := by decide +kernel
theorem i_L_law_931 : decode m_L_law.2.1 931 = .ok (.aload_n 0, 1) := by decide +kernel
theorem i_L_law_932 : decode m_L_law.2.1 932 = .ok (.iload 4, 2) := by decide +kernel
theorem i_L_law_934 : decode m_L_law.2.1 934 = .ok (.iconst 2, 1) := by decide +kernel
theorem i_L_law_935 : decode m_L_law.2.1 935 = .ok (.iadd, 1) := by decide +kernel
theorem i_L_law_936 : decode m_L_law.2.1 936 = .ok (.iaload, 1) := by decide +kernel
theorem i_L_law_937 : qInv m_L_law 937 m_M_alive 5 2 := ⟨149, _, by decide +kernel, rfl, rfl, wd_1042, wd_1043, wd_1044, by decide +kernel⟩
theorem i_L_law_940 : decode m_L_law.2.1 940 = .ok (.istore 6, 2) := by decide +kernel
theorem i_L_law_942 : decode m_L_law.2.1 942 = .ok (.aload_n 2, 1) := by decide +kernel
theorem i_L_law_943 : qInv m_L_law 943 m_M_thrown 5 0 := ⟨110, _, by decide +kernel, rfl, rfl, wd_914, wd_915, wd_916, by decide +kernel⟩
theorem i_L_law_946 : decode m_L_law.2.1 946 = .ok (.iload 5, 2) := by decide +kernel
theorem i_L_law_948 : decode m_L_law.2.1 948 = .ok (.if_icmp .eq 5, 3) := by decide +kernel
theorem i_L_law_951 : decode m_L_law.2.1 951 = .ok (.iconst 0, 1) := by decide +kernel
theorem i_L_law_952 : decode m_L_law.2.1 952 = .ok (.ireturn, 1) := by decide +kernel
theorem i_L_law_953 : decode m_L_law.2.1 953 = .ok (.iload 5, 2) := by decide +kernel
theorem i_L_law_955 : decode m_L_law.2.1 955 = .ok (.ifCond .ne 15, 3) := by decide +kernel
theorem i_L_law_958 : decode m_L_law.2.1 958 = .ok (.aload_n 3, 1) := by decide +kernel
theorem i_L_law_959 : decode m_L_law.2.1 959 = .ok (.iconst 0, 1) := by decide +kernel
theorem i_L_law_960 : decode m_L_law.2.1 960 = .ok (.laload, 1) := by decide +kernel
theorem i_L_law_961 : decode m_L_law.2.1 961 = .ok (.iload 6, 2) := by decide +kernel
theorem i_L_law_963 : decode m_L_law.2.1 963 = .ok (.i2l, 1) := by decide +kernel
theorem i_L_law_964 : decode m_L_law.2.1 964 = .ok (.lcmp, 1) := by decide +kernel
theorem i_L_law_965 : decode m_L_law.2.1 965 = .ok (.ifCond .eq 5, 3) := by decide +kernel
theorem i_L_law_968 : decode m_L_law.2.1 968 = .ok (.iconst 0, 1) := by decide +kernel
theorem i_L_law_969 : decode m_L_law.2.1 969 = .ok (.ireturn, 1) := by decide +kernel
theorem i_L_law_970 : decode m_L_law.2.1 970 = .ok (.goto 517, 3) := by decide +kernel
theorem i_L_law_973 : decode m_L_law.2.1 973 = .ok (.aload_n 1, 1) := by decide +kernel
theorem i_L_law_974 : decode m_L_law.2.1 974 = .ok (.aload_n 0, 1) := by decide +kernel
theorem i_L_law_975 : decode m_L_law.2.1 975 = .ok (.iload 4, 2) := by decide +kernel
theorem i_L_law_977 : decode m_L_law.2.1 977 = .ok (.iconst 1, 1) := by decide +kernel
theorem i_L_law_978 : decode m_L_law.2.1 978 = .ok (.iadd, 1) := by decide +kernel
theorem i_L_law_979 : decode m_L_law.2.1 979 = .ok (.iaload, 1) := by decide +kernel
theorem i_L_law_980 : decode m_L_law.2.1 980 = .ok (.aload_n 0, 1) := by decide +kernel
theorem i_L_law_981 : decode m_L_law.2.1 981 = .ok (.iload 4, 2) := by decide +kernel
theorem i_L_law_983 : decode m_L_law.2.1 983 = .ok (.iconst 2, 1) := by decide +kernel
theorem i_L_law_984 : decode m_L_law.2.1 984 = .ok (.iadd, 1) := by decide +kernel
theorem i_L_law_985 : decode m_L_law.2.1 985 = .ok (.iaload, 1) := by decide +kernel
theorem i_L_law_986 : decode m_L_law.2.1 986 = .ok (.aload_n 0, 1) := by decide +kernel
theorem i_L_law_987 : decode m_L_law.2.1 987 = .ok (.iload 4, 2) := by decide +kernel
theorem i_L_law_989 : decode m_L_law.2.1 989 = .ok (.iconst 3, 1) := by decide +kernel
theorem i_L_law_990 : decode m_L_law.2.1 990 = .ok (.iadd, 1) := by decide +kernel
theorem i_L_law_991 : decode m_L_law.2.1 991 = .ok (.iaload, 1) := by decide +kernel
theorem i_L_law_992 : decode m_L_law.2.1 992 = .ok (.aload_n 3, 1) := by decide +kernel
theorem i_L_law_993 : qInvS m_L_law 993 m_L_entry 5 := ⟨150, by decide +kernel, wd_617, wd_618, by decide +kernel⟩
theorem i_L_law_996 : decode m_L_law.2.1 996 = .ok (.istore 5, 2) := by decide +kernel
theorem i_L_law_998 : decode m_L_law.2.1 998 = .ok (.aload_n 2, 1) := by decide +kernel
theorem i_L_law_999 : decode m_L_law.2.1 999 = .ok (.aload_n 0, 1) := by decide +kernel
theorem i_L_law_1000 : decode m_L_law.2.1 1000 = .ok (.iload 4, 2) := by decide +kernel
theorem i_L_law_1002 : decode m_L_law.2.1 1002 = .ok (.iconst 1, 1) := by decide +kernel
theorem i_L_law_1003 : decode m_L_law.2.1 1003 = .ok (.iadd, 1) := by decide +kernel
theorem i_L_law_1004 : decode m_L_law.2.1 1004 = .ok (.iaload, 1) := by decide +kernel
theorem i_L_law_1005 : decode m_L_law.2.1 1005 = .ok (.aload_n 0, 1) := by decide +kernel
theorem i_L_law_1006 : decode m_L_law.2.1 1006 = .ok (.iload 4, 2) := by decide +kernel
theorem i_L_law_1008 : decode m_L_law.2.1 1008 = .ok (.iconst 2, 1) := by decide +kernel
theorem i_L_law_1009 : decode m_L_law.2.1 1009 = .ok (.iadd, 1) := by decide +kernel
theorem i_L_law_1010 : decode m_L_law.2.1 1010 = .ok (.iaload, 1) := by decide +kernel
theorem i_L_law_1011 : decode m_L_law.2.1 1011 = .ok (.aload_n 0, 1) := by decide +kernel
theorem i_L_law_1012 : decode m_L_law.2.1 1012 = .ok (.iload 4, 2) := by decide +kernel
theorem i_L_law_1014 : decode m_L_law.2.1 1014 = .ok (.iconst 3, 1) := by decide +kernel
theorem i_L_law_1015 : decode m_L_law.2.1 1015 = .ok (.iadd, 1) := by decide +kernel
theorem i_L_law_1016 : decode m_L_law.2.1 1016 = .ok (.iaload, 1) := by decide +kernel
theorem i_L_law_1017 : qInv m_L_law 1017 m_M_entry 5 3 := ⟨152, _, by decide +kernel, rfl, rfl, wd_1054, wd_1055, wd_1056, by decide +kernel⟩
theorem i_L_law_1020 : decode m_L_law.2.1 1020 = .ok (.lstore 6, 2) := by decide +kernel
theorem i_L_law_1022 : decode m_L_law.2.1 1022 = .ok (.aload_n 2, 1) := by decide +kernel
theorem i_L_law_1023 : qInv m_L_law 1023 m_M_thrown 5 0 := ⟨110, _, by decide +kernel, rfl, rfl, wd_914, wd_915, wd_916, by decide +kernel⟩
theorem i_L_law_1026 : decode m_L_law.2.1 1026 = .ok (.iload 5, 2) := by decide +kernel
theorem i_L_law_1028 : decode m_L_law.2.1 1028 = .ok (.if_icmp .eq 5, 3) := by decide +kernel
theorem i_L_law_1031 : decode m_L_law.2.1 1031 = .ok (.iconst 0, 1) := by decide +kernel
theorem i_L_law_1032 : decode m_L_law.2.1 1032 = .ok (.ireturn, 1) := by decide +kernel
theorem i_L_law_1033 : decode m_L_law.2.1 1033 = .ok (.iload 5, 2) := by decide +kernel
theorem i_L_law_1035 : decode m_L_law.2.1 1035 = .ok (.ifCond .ne 14, 3) := by decide +kernel
theorem i_L_law_1038 : decode m_L_law.2.1 1038 = .ok (.aload_n 3, 1) := by decide +kernel
theorem i_L_law_1039 : decode m_L_law.2.1 1039 = .ok (.iconst 0, 1) := by decide +kernel
theorem i_L_law_1040 : decode m_L_law.2.1 1040 = .ok (.laload, 1) := by decide +kernel
theorem i_L_law_1041 : decode m_L_law.2.1 1041 = .ok (.lload 6, 2) := by decide +kernel
theorem i_L_law_1043 : decode m_L_law.2.1 1043 = .ok (.lcmp, 1) := by decide +kernel
theorem i_L_law_1044 : decode m_L_law.2.1 1044 = .ok (.ifCond .eq 5, 3) := by decide +kernel
theorem i_L_law_1047 : decode m_L_law.2.1 1047 = .ok (.iconst 0, 1) := by decide +kernel
theorem i_L_law_1048 : decode m_L_law.2.1 1048 = .ok (.ireturn, 1) := by decide +kernel
theorem i_L_law_1049 : decode m_L_law.2.1 1049 = .ok (.goto 438, 3) := by decide +kernel
theorem i_L_law_1052 : decode m_L_law.2.1 1052 = .ok (.aload_n 1, 1) := by decide +kernel
theorem i_L_law_1053 : decode m_L_law.2.1 1053 = .ok (.aload_n 0, 1) := by decide +kernel
theorem i_L_law_1054 : decode m_L_law.2.1 1054 = .ok (.iload 4, 2) := by decide +kernel
theorem i_L_law_1056 : decode m_L_law.2.1 1056 = .ok (.iconst 1, 1) := by decide +kernel
theorem i_L_law_1057 : decode m_L_law.2.1 1057 = .ok (.iadd, 1) := by decide +kernel
theorem i_L_law_1058 : decode m_L_law.2.1 1058 = .ok (.iaload, 1) := by decide +kernel
theorem i_L_law_1059 : decode m_L_law.2.1 1059 = .ok (.aload_n 3, 1) := by decide +kernel
theorem i_L_law_1060 : qInvS m_L_law 1060 m_L_root 3 := ⟨153, by decide +kernel, wd_636, wd_637, by decide +kernel⟩
theorem i_L_law_1063 : decode m_L_law.2.1 1063 = .ok (.istore 5, 2) := by decide +kernel
theorem i_L_law_1065 : decode m_L_law.2.1 1065 = .ok (.aload_n 2, 1) := by decide +kernel
theorem i_L_law_1066 : decode m_L_law.2.1 1066 = .ok (.aload_n 0, 1) := by decide +kernel
theorem i_L_law_1067 : decode m_L_law.2.1 1067 = .ok (.iload 4, 2) := by decide +kernel
theorem i_L_law_1069 : decode m_L_law.2.1 1069 = .ok (.iconst 1, 1) := by decide +kernel
theorem i_L_law_1070 : decode m_L_law.2.1 1070 = .ok (.iadd, 1) := by decide +kernel
theorem i_L_law_1071 : decode m_L_law.2.1 1071 = .ok (.iaload, 1) := by decide +kernel
theorem i_L_law_1072 : qInv m_L_law 1072 m_M_root 5 1 := ⟨155, _, by decide +kernel, rfl, rfl, wd_1058, wd_1059, wd_1060, by decide +kernel⟩
theorem i_L_law_1075 : decode m_L_law.2.1 1075 = .ok (.istore 6, 2) := by decide +kernel
theorem i_L_law_1077 : decode m_L_law.2.1 1077 = .ok (.aload_n 2, 1) := by decide +kernel
theorem i_L_law_1078 : qInv m_L_law 1078 m_M_thrown 5 0 := ⟨110, _, by decide +kernel, rfl, rfl, wd_914, wd_915, wd_916, by decide +kernel⟩
theorem i_L_law_1081 : decode m_L_law.2.1 1081 = .ok (.iload 5, 2) := by decide +kernel
theorem i_L_law_1083 : decode m_L_law.2.1 1083 = .ok (.if_icmp .eq 5, 3) := by decide +kernel
theorem i_L_law_1086 : decode m_L_law.2.1 1086 = .ok (.iconst 0, 1) := by decide +kernel
theorem i_L_law_1087 : decode m_L_law.2.1 1087 = .ok (.ireturn, 1) := by decide +kernel
theorem i_L_law_1088 : decode m_L_law.2.1 1088 = .ok (.iload 5, 2) := by decide +kernel
theorem i_L_law_1090 : decode m_L_law.2.1 1090 = .ok (.ifCond .ne 15, 3) := by decide +kernel
theorem i_L_law_1093 : decode m_L_law.2.1 1093 = .ok (.aload_n 3, 1) := by decide +kernel
theorem i_L_law_1094 : decode m_L_law.2.1 1094 = .ok (.iconst 0, 1) := by decide +kernel
theorem i_L_law_1095 : decode m_L_law.2.1 1095 = .ok (.laload, 1) := by decide +kernel
theorem i_L_law_1096 : decode m_L_law.2.1 1096 = .ok (.iload 6, 2) := by decide +kernel
theorem i_L_law_1098 : decode m_L_law.2.1 1098 = .ok (.i2l, 1) := by decide +kernel
theorem i_L_law_1099 : decode m_L_law.2.1 1099 = .ok (.lcmp, 1) := by decide +kernel
theorem i_L_law_1100 : decode m_L_law.2.1 1100 = .ok (.ifCond .eq 5, 3) := by decide +kernel
theorem i_L_law_1103 : decode m_L_law.2.1 1103 = .ok (.iconst 0, 1) := by decide +kernel
theorem i_L_law_1104 : decode m_L_law.2.1 1104 = .ok (.ireturn, 1) := by decide +kernel
theorem i_L_law_1105 : decode m_L_law.2.1 1105 = .ok (.goto 382, 3) := by decide +kernel
theorem i_L_law_1108 : decode m_L_law.2.1 1108 = .ok (.aload_n 1, 1) := by decide +kernel
theorem i_L_law_1109 : decode m_L_law.2.1 1109 = .ok (.aload_n 3, 1) := by decide +kernel
theorem i_L_law_1110 : qInvS m_L_law 1110 m_L_bound 2 := ⟨156, by decide +kernel, wd_644, wd_645, by decide +kernel⟩
theorem i_L_law_1113 : decode m_L_law.2.1 1113 = .ok (.istore 5, 2) := by decide +kernel
theorem i_L_law_1115 : decode m_L_law.2.1 1115 = .ok (.aload_n 2, 1) := by decide +kernel
theorem i_L_law_1116 : qInv m_L_law 1116 m_M_bound 5 0 := ⟨158, _, by decide +kernel, rfl, rfl, wd_1062, wd_1063, wd_1064, by decide +kernel⟩
theorem i_L_law_1119 : decode m_L_law.2.1 1119 = .ok (.istore 6, 2) := by decide +kernel
theorem i_L_law_1121 : decode m_L_law.2.1 1121 = .ok (.aload_n 2, 1) := by decide +kernel
theorem i_L_law_1122 : qInv m_L_law 1122 m_M_thrown 5 0 := ⟨110, _, by decide +kernel, rfl, rfl, wd_914, wd_915, wd_916, by decide +kernel⟩
theorem i_L_law_1125 : decode m_L_law.2.1 1125 = .ok (.iload 5, 2) := by decide +kernel
theorem i_L_law_1127 : decode m_L_law.2.1 1127 = .ok (.if_icmp .eq 5, 3) := by decide +kernel
theorem i_L_law_1130 : decode m_L_law.2.1 1130 = .ok (.iconst 0, 1) := by decide +kernel
theorem i_L_law_1131 : decode m_L_law.2.1 1131 = .ok (.ireturn, 1) := by decide +kernel
theorem i_L_law_1132 : decode m_L_law.2.1 1132 = .ok (.iload 5, 2) := by decide +kernel
theorem i_L_law_1134 : decode m_L_law.2.1 1134 = .ok (.ifCond .ne 15, 3) := by decide +kernel
theorem i_L_law_1137 : decode m_L_law.2.1 1137 = .ok (.aload_n 3, 1) := by decide +kernel
theorem i_L_law_1138 : decode m_L_law.2.1 1138 = .ok (.iconst 0, 1) := by decide +kernel
theorem i_L_law_1139 : decode m_L_law.2.1 1139 = .ok (.laload, 1) := by decide +kernel
theorem i_L_law_1140 : decode m_L_law.2.1 1140 = .ok (.iload 6, 2) := by decide +kernel
theorem i_L_law_1142 : decode m_L_law.2.1 1142 = .ok (.i2l, 1) := by decide +kernel
theorem i_L_law_1143 : decode m_L_law.2.1 1143 = .ok (.lcmp, 1) := by decide +kernel
theorem i_L_law_1144 : decode m_L_law.2.1 1144 = .ok (.ifCond .eq 5, 3) := by decide +kernel
theorem i_L_law_1147 : decode m_L_law.2.1 1147 = .ok (.iconst 0, 1) := by decide +kernel
theorem i_L_law_1148 : decode m_L_law.2.1 1148 = .ok (.ireturn, 1) := by decide +kernel
theorem i_L_law_1149 : decode m_L_law.2.1 1149 = .ok (.goto 338, 3) := by decide +kernel
theorem i_L_law_1152 : decode m_L_law.2.1 1152 = .ok (.aload_n 1, 1) := by decide +kernel
theorem i_L_law_1153 : decode m_L_law.2.1 1153 = .ok (.aload_n 3, 1) := by decide +kernel
theorem i_L_law_1154 : qInvS m_L_law 1154 m_L_dense 2 := ⟨159, by decide +kernel, wd_651, wd_652, by decide +kernel⟩
theorem i_L_law_1157 : decode m_L_law.2.1 1157 = .ok (.istore 5, 2) := by decide +kernel
theorem i_L_law_1159 : decode m_L_law.2.1 1159 = .ok (.aload_n 2, 1) := by decide +kernel
theorem i_L_law_1160 : qInv m_L_law 1160 m_M_dense 5 0 := ⟨161, _, by decide +kernel, rfl, rfl, wd_1066, wd_1067, wd_1068, by decide +kernel⟩
theorem i_L_law_1163 : decode m_L_law.2.1 1163 = .ok (.istore 6, 2) := by decide +kernel
theorem i_L_law_1165 : decode m_L_law.2.1 1165 = .ok (.aload_n 2, 1) := by decide +kernel
theorem i_L_law_1166 : qInv m_L_law 1166 m_M_thrown 5 0 := ⟨110, _, by decide +kernel, rfl, rfl, wd_914, wd_915, wd_916, by decide +kernel⟩
theorem i_L_law_1169 : decode m_L_law.2.1 1169 = .ok (.iload 5, 2) := by decide +kernel
theorem i_L_law_1171 : decode m_L_law.2.1 1171 = .ok (.if_icmp .eq 5, 3) := by decide +kernel
theorem i_L_law_1174 : decode m_L_law.2.1 1174 = .ok (.iconst 0, 1) := by decide +kernel
theorem i_L_law_1175 : decode m_L_law.2.1 1175 = .ok (.ireturn, 1) := by decide +kernel
theorem i_L_law_1176 : decode m_L_law.2.1 1176 = .ok (.iload 5, 2) := by decide +kernel
theorem i_L_law_1178 : decode m_L_law.2.1 1178 = .ok (.ifCond .ne 22, 3) := by decide +kernel
theorem i_L_law_1181 : decode m_L_law.2.1 1181 = .ok (.aload_n 3, 1) := by decide +kernel
theorem i_L_law_1182 : decode m_L_law.2.1 1182 = .ok (.iconst 0, 1) := by decide +kernel
theorem i_L_law_1183 : decode m_L_law.2.1 1183 = .ok (.laload, 1) := by decide +kernel
theorem i_L_law_1184 : decode m_L_law.2.1 1184 = .ok (.iload 6, 2) := by decide +kernel
theorem i_L_law_1186 : decode m_L_law.2.1 1186 = .ok (.ifCond .eq 7, 3) := by decide +kernel
theorem i_L_law_1189 : decode m_L_law.2.1 1189 = .ok (.lconst 1, 1) := by decide +kernel
theorem i_L_law_1190 : decode m_L_law.2.1 1190 = .ok (.goto 4, 3) := by decide +kernel
theorem i_L_law_1193 : decode m_L_law.2.1 1193 = .ok (.lconst 0, 1) := by decide +kernel
theorem i_L_law_1194 : decode m_L_law.2.1 1194 = .ok (.lcmp, 1) := by decide +kernel
theorem i_L_law_1195 : decode m_L_law.2.1 1195 = .ok (.ifCond .eq 5, 3) := by decide +kernel
theorem i_L_law_1198 : decode m_L_law.2.1 1198 = .ok (.iconst 0, 1) := by decide +kernel
theorem i_L_law_1199 : decode m_L_law.2.1 1199 = .ok (.ireturn, 1) := by decide +kernel
theorem i_L_law_1200 : decode m_L_law.2.1 1200 = .ok (.goto 287, 3) := by decide +kernel
theorem i_L_law_1203 : decode m_L_law.2.1 1203 = .ok (.aload_n 1, 1) := by decide +kernel
theorem i_L_law_1204 : decode m_L_law.2.1 1204 = .ok (.aload_n 3, 1) := by decide +kernel
theorem i_L_law_1205 : qInvS m_L_law 1205 m_L_sync 2 := ⟨162, by decide +kernel, wd_668, wd_669, by decide +kernel⟩
theorem i_L_law_1208 : decode m_L_law.2.1 1208 = .ok (.istore 5, 2) := by decide +kernel
theorem i_L_law_1210 : decode m_L_law.2.1 1210 = .ok (.aload_n 2, 1) := by decide +kernel
theorem i_L_law_1211 : qInv m_L_law 1211 m_M_sync 5 0 := ⟨164, _, by decide +kernel, rfl, rfl, wd_1070, wd_1071, wd_1072, by decide +kernel⟩
theorem i_L_law_1214 : decode m_L_law.2.1 1214 = .ok (.istore 6, 2) := by decide +kernel
theorem i_L_law_1216 : decode m_L_law.2.1 1216 = .ok (.aload_n 2, 1) := by decide +kernel
theorem i_L_law_1217 : qInv m_L_law 1217 m_M_thrown 5 0 := ⟨110, _, by decide +kernel, rfl, rfl, wd_914, wd_915, wd_916, by decide +kernel⟩
theorem i_L_law_1220 : decode m_L_law.2.1 1220 = .ok (.iload 5, 2) := by decide +kernel
theorem i_L_law_1222 : decode m_L_law.2.1 1222 = .ok (.if_icmp .eq 5, 3) := by decide +kernel
theorem i_L_law_1225 : decode m_L_law.2.1 1225 = .ok (.iconst 0, 1) := by decide +kernel
theorem i_L_law_1226 : decode m_L_law.2.1 1226 = .ok (.ireturn, 1) := by decide +kernel
theorem i_L_law_1227 : decode m_L_law.2.1 1227 = .ok (.iload 5, 2) := by decide +kernel
theorem i_L_law_1229 : decode m_L_law.2.1 1229 = .ok (.ifCond .ne 15, 3) := by decide +kernel
theorem i_L_law_1232 : decode m_L_law.2.1 1232 = .ok (.aload_n 3, 1) := by decide +kernel
theorem i_L_law_1233 : decode m_L_law.2.1 1233 = .ok (.iconst 0, 1) := by decide +kernel
theorem i_L_law_1234 : decode m_L_law.2.1 1234 = .ok (.laload, 1) := by decide +kernel
theorem i_L_law_1235 : decode m_L_law.2.1 1235 = .ok (.iload 6, 2) := by decide +kernel
theorem i_L_law_1237 : decode m_L_law.2.1 1237 = .ok (.i2l, 1) := by decide +kernel
theorem i_L_law_1238 : decode m_L_law.2.1 1238 = .ok (.lcmp, 1) := by decide +kernel
theorem i_L_law_1239 : decode m_L_law.2.1 1239 = .ok (.ifCond .eq 5, 3) := by decide +kernel
theorem i_L_law_1242 : decode m_L_law.2.1 1242 = .ok (.iconst 0, 1) := by decide +kernel
theorem i_L_law_1243 : decode m_L_law.2.1 1243 = .ok (.ireturn, 1) := by decide +kernel
theorem i_L_law_1244 : decode m_L_law.2.1 1244 = .ok (.goto 243, 3) := by decide +kernel
theorem i_L_law_1247 : decode m_L_law.2.1 1247 = .ok (.aload_n 1, 1) := by decide +kernel
theorem i_L_law_1248 : decode m_L_law.2.1 1248 = .ok (.aload_n 3, 1) := by decide +kernel
theorem i_L_law_1249 : qInvS m_L_law 1249 m_L_checkpoint 2 := ⟨165, by decide +kernel, wd_700, wd_701, by decide +kernel⟩
theorem i_L_law_1252 : decode m_L_law.2.1 1252 = .ok (.istore 5, 2) := by decide +kernel
theorem i_L_law_1254 : decode m_L_law.2.1 1254 = .ok (.aload_n 2, 1) := by decide +kernel
theorem i_L_law_1255 : qInv m_L_law 1255 m_M_checkpoint 5 0 := ⟨167, _, by decide +kernel, rfl, rfl, wd_1082, wd_1083, wd_1084, by decide +kernel⟩
theorem i_L_law_1258 : decode m_L_law.2.1 1258 = .ok (.istore 6, 2) := by decide +kernel
theorem i_L_law_1260 : decode m_L_law.2.1 1260 = .ok (.aload_n 2, 1) := by decide +kernel
theorem i_L_law_1261 : qInv m_L_law 1261 m_M_thrown 5 0 := ⟨110, _, by decide +kernel, rfl, rfl, wd_914, wd_915, wd_916, by decide +kernel⟩
theorem i_L_law_1264 : decode m_L_law.2.1 1264 = .ok (.iload 5, 2) := by decide +kernel
theorem i_L_law_1266 : decode m_L_law.2.1 1266 = .ok (.if_icmp .eq 5, 3) := by decide +kernel
theorem i_L_law_1269 : decode m_L_law.2.1 1269 = .ok (.iconst 0, 1) := by decide +kernel
theorem i_L_law_1270 : decode m_L_law.2.1 1270 = .ok (.ireturn, 1) := by decide +kernel
theorem i_L_law_1271 : decode m_L_law.2.1 1271 = .ok (.iload 5, 2) := by decide +kernel
theorem i_L_law_1273 : decode m_L_law.2.1 1273 = .ok (.ifCond .ne 15, 3) := by decide +kernel
theorem i_L_law_1276 : decode m_L_law.2.1 1276 = .ok (.aload_n 3, 1) := by decide +kernel
theorem i_L_law_1277 : decode m_L_law.2.1 1277 = .ok (.iconst 0, 1) := by decide +kernel
theorem i_L_law_1278 : decode m_L_law.2.1 1278 = .ok (.laload, 1) := by decide +kernel
theorem i_L_law_1279 : decode m_L_law.2.1 1279 = .ok (.iload 6, 2) := by decide +kernel
theorem i_L_law_1281 : decode m_L_law.2.1 1281 = .ok (.i2l, 1) := by decide +kernel
theorem i_L_law_1282 : decode m_L_law.2.1 1282 = .ok (.lcmp, 1) := by decide +kernel
theorem i_L_law_1283 : decode m_L_law.2.1 1283 = .ok (.ifCond .eq 5, 3) := by decide +kernel
theorem i_L_law_1286 : decode m_L_law.2.1 1286 = .ok (.iconst 0, 1) := by decide +kernel
theorem i_L_law_1287 : decode m_L_law.2.1 1287 = .ok (.ireturn, 1) := by decide +kernel
theorem i_L_law_1288 : decode m_L_law.2.1 1288 = .ok (.goto 199, 3) := by decide +kernel
theorem i_L_law_1291 : decode m_L_law.2.1 1291 = .ok (.aload_n 1, 1) := by decide +kernel
theorem i_L_law_1292 : decode m_L_law.2.1 1292 = .ok (.aload_n 0, 1) := by decide +kernel
theorem i_L_law_1293 : decode m_L_law.2.1 1293 = .ok (.iload 4, 2) := by decide +kernel
theorem i_L_law_1295 : decode m_L_law.2.1 1295 = .ok (.iconst 1, 1) := by decide +kernel
theorem i_L_law_1296 : decode m_L_law.2.1 1296 = .ok (.iadd, 1) := by decide +kernel
theorem i_L_law_1297 : decode m_L_law.2.1 1297 = .ok (.iaload, 1) := by decide +kernel
theorem i_L_law_1298 : qInvS m_L_law 1298 m_L_cut 2 := ⟨168, by decide +kernel, wd_716, wd_717, by decide +kernel⟩
theorem i_L_law_1301 : decode m_L_law.2.1 1301 = .ok (.istore 5, 2) := by decide +kernel
theorem i_L_law_1303 : decode m_L_law.2.1 1303 = .ok (.aload_n 2, 1) := by decide +kernel
theorem i_L_law_1304 : decode m_L_law.2.1 1304 = .ok (.aload_n 0, 1) := by decide +kernel
theorem i_L_law_1305 : decode m_L_law.2.1 1305 = .ok (.iload 4, 2) := by decide +kernel
theorem i_L_law_1307 : decode m_L_law.2.1 1307 = .ok (.iconst 1, 1) := by decide +kernel
theorem i_L_law_1308 : decode m_L_law.2.1 1308 = .ok (.iadd, 1) := by decide +kernel
theorem i_L_law_1309 : decode m_L_law.2.1 1309 = .ok (.iaload, 1) := by decide +kernel
theorem i_L_law_1310 : qInv m_L_law 1310 m_M_cut 5 1 := ⟨171, _, by decide +kernel, rfl, rfl, wd_1090, wd_1091, wd_1092, by decide +kernel⟩
theorem i_L_law_1313 : decode m_L_law.2.1 1313 = .ok (.aload_n 2, 1) := by decide +kernel
theorem i_L_law_1314 : qInv m_L_law 1314 m_M_thrown 5 0 := ⟨110, _, by decide +kernel, rfl, rfl, wd_914, wd_915, wd_916, by decide +kernel⟩
theorem i_L_law_1317 : decode m_L_law.2.1 1317 = .ok (.iload 5, 2) := by decide +kernel
theorem i_L_law_1319 : decode m_L_law.2.1 1319 = .ok (.if_icmp .eq 5, 3) := by decide +kernel
theorem i_L_law_1322 : decode m_L_law.2.1 1322 = .ok (.iconst 0, 1) := by decide +kernel
theorem i_L_law_1323 : decode m_L_law.2.1 1323 = .ok (.ireturn, 1) := by decide +kernel
theorem i_L_law_1324 : decode m_L_law.2.1 1324 = .ok (.goto 163, 3) := by decide +kernel
theorem i_L_law_1327 : decode m_L_law.2.1 1327 = .ok (.aload_n 1, 1) := by decide +kernel
theorem i_L_law_1328 : qInvS m_L_law 1328 m_L_down 1 := ⟨172, by decide +kernel, wd_724, wd_725, by decide +kernel⟩
theorem i_L_law_1331 : decode m_L_law.2.1 1331 = .ok (.istore 5, 2) := by decide +kernel
theorem i_L_law_1333 : decode m_L_law.2.1 1333 = .ok (.aload_n 2, 1) := by decide +kernel
theorem i_L_law_1334 : qInv m_L_law 1334 m_M_down 5 0 := ⟨175, _, by decide +kernel, rfl, rfl, wd_1094, wd_1095, wd_1096, by decide +kernel⟩
theorem i_L_law_1337 : decode m_L_law.2.1 1337 = .ok (.aload_n 2, 1) := by decide +kernel
theorem i_L_law_1338 : qInv m_L_law 1338 m_M_thrown 5 0 := ⟨110, _, by decide +kernel, rfl, rfl, wd_914, wd_915, wd_916, by decide +kernel⟩
theorem i_L_law_1341 : decode m_L_law.2.1 1341 = .ok (.iload 5, 2) := by decide +kernel
theorem i_L_law_1343 : decode m_L_law.2.1 1343 = .ok (.if_icmp .eq 5, 3) := by decide +kernel
theorem i_L_law_1346 : decode m_L_law.2.1 1346 = .ok (.iconst 0, 1) := by decide +kernel
theorem i_L_law_1347 : decode m_L_law.2.1 1347 = .ok (.ireturn, 1) := by decide +kernel
theorem i_L_law_1348 : decode m_L_law.2.1 1348 = .ok (.goto 139, 3) := by decide +kernel
theorem i_L_law_1351 : decode m_L_law.2.1 1351 = .ok (.aload_n 1, 1) := by decide +kernel
theorem i_L_law_1352 : decode m_L_law.2.1 1352 = .ok (.aload_n 0, 1) := by decide +kernel
theorem i_L_law_1353 : decode m_L_law.2.1 1353 = .ok (.iload 4, 2) := by decide +kernel
theorem i_L_law_1355 : decode m_L_law.2.1 1355 = .ok (.iconst 1, 1) := by decide +kernel
theorem i_L_law_1356 : decode m_L_law.2.1 1356 = .ok (.iadd, 1) := by decide +kernel
theorem i_L_law_1357 : decode m_L_law.2.1 1357 = .ok (.iaload, 1) := by decide +kernel
theorem i_L_law_1358 : qInvS m_L_law 1358 m_L_spoil 2 := ⟨176, by decide +kernel, wd_731, wd_732, by decide +kernel⟩
theorem i_L_law_1361 : decode m_L_law.2.1 1361 = .ok (.istore 5, 2) := by decide +kernel
theorem i_L_law_1363 : decode m_L_law.2.1 1363 = .ok (.aload_n 2, 1) := by decide +kernel
theorem i_L_law_1364 : decode m_L_law.2.1 1364 = .ok (.aload_n 0, 1) := by decide +kernel
theorem i_L_law_1365 : decode m_L_law.2.1 1365 = .ok (.iload 4, 2) := by decide +kernel
theorem i_L_law_1367 : decode m_L_law.2.1 1367 = .ok (.iconst 1, 1) := by decide +kernel
theorem i_L_law_1368 : decode m_L_law.2.1 1368 = .ok (.iadd, 1) := by decide +kernel
theorem i_L_law_1369 : decode m_L_law.2.1 1369 = .ok (.iaload, 1) := by decide +kernel
theorem i_L_law_1370 : qInv m_L_law 1370 m_M_spoil 5 1 := ⟨178, _, by decide +kernel, rfl, rfl, wd_1098, wd_1099, wd_1100, by decide +kernel⟩
theorem i_L_law_1373 : decode m_L_law.2.1 1373 = .ok (.aload_n 2, 1) := by decide +kernel
theorem i_L_law_1374 : qInv m_L_law 1374 m_M_thrown 5 0 := ⟨110, _, by decide +kernel, rfl, rfl, wd_914, wd_915, wd_916, by decide +kernel⟩
theorem i_L_law_1377 : decode m_L_law.2.1 1377 = .ok (.iload 5, 2) := by decide +kernel
theorem i_L_law_1379 : decode m_L_law.2.1 1379 = .ok (.if_icmp .eq 5, 3) := by decide +kernel
theorem i_L_law_1382 : decode m_L_law.2.1 1382 = .ok (.iconst 0, 1) := by decide +kernel
theorem i_L_law_1383 : decode m_L_law.2.1 1383 = .ok (.ireturn, 1) := by decide +kernel
theorem i_L_law_1384 : decode m_L_law.2.1 1384 = .ok (.goto 103, 3) := by decide +kernel
theorem i_L_law_1387 : decode m_L_law.2.1 1387 = .ok (.aload_n 1, 1) := by decide +kernel
theorem i_L_law_1388 : decode m_L_law.2.1 1388 = .ok (.aload_n 3, 1) := by decide +kernel
theorem i_L_law_1389 : qInvS m_L_law 1389 m_L_start 2 := ⟨179, by decide +kernel, wd_743, wd_744, by decide +kernel⟩
theorem i_L_law_1392 : decode m_L_law.2.1 1392 = .ok (.istore 5, 2) := by decide +kernel
theorem i_L_law_1394 : decode m_L_law.2.1 1394 = .ok (.aload_n 2, 1) := by decide +kernel
theorem i_L_law_1395 : qInv m_L_law 1395 m_M_start 5 0 := ⟨181, _, by decide +kernel, rfl, rfl, wd_1102, wd_1103, wd_1104, by decide +kernel⟩
theorem i_L_law_1398 : decode m_L_law.2.1 1398 = .ok (.istore 6, 2) := by decide +kernel
theorem i_L_law_1400 : decode m_L_law.2.1 1400 = .ok (.aload_n 2, 1) := by decide +kernel
theorem i_L_law_1401 : qInv m_L_law 1401 m_M_thrown 5 0 := ⟨110, _, by decide +kernel, rfl, rfl, wd_914, wd_915, wd_916, by decide +kernel⟩
theorem i_L_law_1404 : decode m_L_law.2.1 1404 = .ok (.iload 5, 2) := by decide +kernel
theorem i_L_law_1406 : decode m_L_law.2.1 1406 = .ok (.if_icmp .eq 5, 3) := by decide +kernel
theorem i_L_law_1409 : decode m_L_law.2.1 1409 = .ok (.iconst 0, 1) := by decide +kernel
theorem i_L_law_1410 : decode m_L_law.2.1 1410 = .ok (.ireturn, 1) := by decide +kernel
theorem i_L_law_1411 : decode m_L_law.2.1 1411 = .ok (.iload 5, 2) := by decide +kernel
theorem i_L_law_1413 : decode m_L_law.2.1 1413 = .ok (.ifCond .ne 15, 3) := by decide +kernel
theorem i_L_law_1416 : decode m_L_law.2.1 1416 = .ok (.aload_n 3, 1) := by decide +kernel
theorem i_L_law_1417 : decode m_L_law.2.1 1417 = .ok (.iconst 0, 1) := by decide +kernel
theorem i_L_law_1418 : decode m_L_law.2.1 1418 = .ok (.laload, 1) := by decide +kernel
theorem i_L_law_1419 : decode m_L_law.2.1 1419 = .ok (.iload 6, 2) := by decide +kernel
theorem i_L_law_1421 : decode m_L_law.2.1 1421 = .ok (.i2l, 1) := by decide +kernel
theorem i_L_law_1422 : decode m_L_law.2.1 1422 = .ok (.lcmp, 1) := by decide +kernel
theorem i_L_law_1423 : decode m_L_law.2.1 1423 = .ok (.ifCond .eq 5, 3) := by decide +kernel
theorem i_L_law_1426 : decode m_L_law.2.1 1426 = .ok (.iconst 0, 1) := by decide +kernel
theorem i_L_law_1427 : decode m_L_law.2.1 1427 = .ok (.ireturn, 1) := by decide +kernel
theorem i_L_law_1428 : decode m_L_law.2.1 1428 = .ok (.goto 59, 3) := by decide +kernel
theorem i_L_law_1431 : decode m_L_law.2.1 1431 = .ok (.aload_n 1, 1) := by decide +kernel
theorem i_L_law_1432 : decode m_L_law.2.1 1432 = .ok (.aload_n 0, 1) := by decide +kernel
theorem i_L_law_1433 : decode m_L_law.2.1 1433 = .ok (.iload 4, 2) := by decide +kernel
theorem i_L_law_1435 : decode m_L_law.2.1 1435 = .ok (.iconst 1, 1) := by decide +kernel
theorem i_L_law_1436 : decode m_L_law.2.1 1436 = .ok (.iadd, 1) := by decide +kernel
theorem i_L_law_1437 : decode m_L_law.2.1 1437 = .ok (.iaload, 1) := by decide +kernel
theorem i_L_law_1438 : decode m_L_law.2.1 1438 = .ok (.aload_n 3, 1) := by decide +kernel
theorem i_L_law_1439 : qInvS m_L_law 1439 m_L_disk 3 := ⟨182, by decide +kernel, wd_763, wd_764, by decide +kernel⟩
theorem i_L_law_1442 : decode m_L_law.2.1 1442 = .ok (.istore 5, 2) := by decide +kernel
theorem i_L_law_1444 : decode m_L_law.2.1 1444 = .ok (.aload_n 2, 1) := by decide +kernel
theorem i_L_law_1445 : decode m_L_law.2.1 1445 = .ok (.aload_n 0, 1) := by decide +kernel
theorem i_L_law_1446 : decode m_L_law.2.1 1446 = .ok (.iload 4, 2) := by decide +kernel
theorem i_L_law_1448 : decode m_L_law.2.1 1448 = .ok (.iconst 1, 1) := by decide +kernel
theorem i_L_law_1449 : decode m_L_law.2.1 1449 = .ok (.iadd, 1) := by decide +kernel
theorem i_L_law_1450 : decode m_L_law.2.1 1450 = .ok (.iaload, 1) := by decide +kernel
theorem i_L_law_1451 : qInv m_L_law 1451 m_M_disk 5 1 := ⟨184, _, by decide +kernel, rfl, rfl, wd_1106, wd_1107, wd_1108, by decide +kernel⟩
theorem i_L_law_1454 : decode m_L_law.2.1 1454 = .ok (.istore 6, 2) := by decide +kernel
theorem i_L_law_1456 : decode m_L_law.2.1 1456 = .ok (.aload_n 2, 1) := by decide +kernel
theorem i_L_law_1457 : qInv m_L_law 1457 m_M_thrown 5 0 := ⟨110, _, by decide +kernel, rfl, rfl, wd_914, wd_915, wd_916, by decide +kernel⟩
theorem i_L_law_1460 : decode m_L_law.2.1 1460 = .ok (.iload 5, 2) := by decide +kernel
theorem i_L_law_1462 : decode m_L_law.2.1 1462 = .ok (.if_icmp .eq 5, 3) := by decide +kernel
theorem i_L_law_1465 : decode m_L_law.2.1 1465 = .ok (.iconst 0, 1) := by decide +kernel
theorem i_L_law_1466 : decode m_L_law.2.1 1466 = .ok (.ireturn, 1) := by decide +kernel
theorem i_L_law_1467 : decode m_L_law.2.1 1467 = .ok (.iload 5, 2) := by decide +kernel
theorem i_L_law_1469 : decode m_L_law.2.1 1469 = .ok (.ifCond .ne 15, 3) := by decide +kernel
theorem i_L_law_1472 : decode m_L_law.2.1 1472 = .ok (.aload_n 3, 1) := by decide +kernel
theorem i_L_law_1473 : decode m_L_law.2.1 1473 = .ok (.iconst 0, 1) := by decide +kernel
theorem i_L_law_1474 : decode m_L_law.2.1 1474 = .ok (.laload, 1) := by decide +kernel
theorem i_L_law_1475 : decode m_L_law.2.1 1475 = .ok (.iload 6, 2) := by decide +kernel
theorem i_L_law_1477 : decode m_L_law.2.1 1477 = .ok (.i2l, 1) := by decide +kernel
theorem i_L_law_1478 : decode m_L_law.2.1 1478 = .ok (.lcmp, 1) := by decide +kernel
theorem i_L_law_1479 : decode m_L_law.2.1 1479 = .ok (.ifCond .eq 5, 3) := by decide +kernel
theorem i_L_law_1482 : decode m_L_law.2.1 1482 = .ok (.iconst 0, 1) := by decide +kernel
theorem i_L_law_1483 : decode m_L_law.2.1 1483 = .ok (.ireturn, 1) := by decide +kernel
theorem i_L_law_1484 : decode m_L_law.2.1 1484 = .ok (.goto 3, 3) := by decide +kernel
theorem i_L_law_1487 : decode m_L_law.2.1 1487 = .ok (.iinc 4 4, 3) := by decide +kernel
theorem i_L_law_1490 : decode m_L_law.2.1 1490 = .ok (.goto (-1467), 3) := by decide +kernel
theorem i_L_law_1493 : decode m_L_law.2.1 1493 = .ok (.iconst 1, 1) := by decide +kernel
theorem i_L_law_1494 : decode m_L_law.2.1 1494 = .ok (.ireturn, 1) := by decide +kernel
