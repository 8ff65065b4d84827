theorem d_law_law_511 : decode code 511 = .ok (.iadd, 1) := by decide +kernel
theorem d_law_law_512 : decode code 512 = .ok (.iaload, 1) := by decide +kernel
theorem d_law_law_513 : decode code 513 = .ok (.aload_n 0, 1) := by decide +kernel
theorem d_law_law_514 : decode code 514 = .ok (.iload 4, 2) := by decide +kernel
theorem d_law_law_516 : decode code 516 = .ok (.iconst 2, 1) := by decide +kernel
theorem d_law_law_517 : decode code 517 = .ok (.iadd, 1) := by decide +kernel
theorem d_law_law_518 : decode code 518 = .ok (.iaload, 1) := by decide +kernel
theorem d_law_law_519 : decode code 519 = .ok (.aload_n 0, 1) := by decide +kernel
theorem d_law_law_520 : decode code 520 = .ok (.iload 4, 2) := by decide +kernel
theorem d_law_law_522 : decode code 522 = .ok (.iconst 3, 1) := by decide +kernel
theorem d_law_law_523 : decode code 523 = .ok (.iadd, 1) := by decide +kernel
theorem d_law_law_524 : decode code 524 = .ok (.iaload, 1) := by decide +kernel
theorem d_law_law_525 : decode code 525 = .ok (.aload_n 0, 1) := by decide +kernel
theorem d_law_law_526 : decode code 526 = .ok (.iload 4, 2) := by decide +kernel
theorem d_law_law_528 : decode code 528 = .ok (.iconst 4, 1) := by decide +kernel
theorem d_law_law_529 : decode code 529 = .ok (.iadd, 1) := by decide +kernel
theorem d_law_law_530 : decode code 530 = .ok (.iaload, 1) := by decide +kernel
theorem d_law_law_531 : decode code 531 = .ok (.invokevirtual 90, 3) := by decide +kernel
theorem d_law_law_534 : decode code 534 = .ok (.istore 6, 2) := by decide +kernel
theorem d_law_law_536 : decode code 536 = .ok (.aload_n 2, 1) := by decide +kernel
theorem d_law_law_537 : decode code 537 = .ok (.invokevirtual 65, 3) := by decide +kernel
theorem d_law_law_540 : decode code 540 = .ok (.iload 5, 2) := by decide +kernel
theorem d_law_law_542 : decode code 542 = .ok (.if_icmp .eq 5, 3) := by decide +kernel
theorem d_law_law_545 : decode code 545 = .ok (.iconst 0, 1) := by decide +kernel
theorem d_law_law_546 : decode code 546 = .ok (.ireturn, 1) := by decide +kernel
theorem d_law_law_547 : decode code 547 = .ok (.iload 5, 2) := by decide +kernel
theorem d_law_law_549 : decode code 549 = .ok (.ifCond .ne 15, 3) := by decide +kernel
theorem d_law_law_552 : decode code 552 = .ok (.aload_n 3, 1) := by decide +kernel
theorem d_law_law_553 : decode code 553 = .ok (.iconst 0, 1) := by decide +kernel
theorem d_law_law_554 : decode code 554 = .ok (.laload, 1) := by decide +kernel
theorem d_law_law_555 : decode code 555 = .ok (.iload 6, 2) := by decide +kernel
theorem d_law_law_557 : decode code 557 = .ok (.i2l, 1) := by decide +kernel
theorem d_law_law_558 : decode code 558 = .ok (.lcmp, 1) := by decide +kernel
theorem d_law_law_559 : decode code 559 = .ok (.ifCond .eq 5, 3) := by decide +kernel
theorem d_law_law_562 : decode code 562 = .ok (.iconst 0, 1) := by decide +kernel
theorem d_law_law_563 : decode code 563 = .ok (.ireturn, 1) := by decide +kernel
theorem d_law_law_564 : decode code 564 = .ok (.goto 409, 3) := by decide +kernel
theorem d_law_law_567 : decode code 567 = .ok (.aload_n 1, 1) := by decide +kernel
theorem d_law_law_568 : decode code 568 = .ok (.aload_n 0, 1) := by decide +kernel
theorem d_law_law_569 : decode code 569 = .ok (.iload 4, 2) := by decide +kernel
theorem d_law_law_571 : decode code 571 = .ok (.iconst 1, 1) := by decide +kernel
theorem d_law_law_572 : decode code 572 = .ok (.iadd, 1) := by decide +kernel
theorem d_law_law_573 : decode code 573 = .ok (.iaload, 1) := by decide +kernel
theorem d_law_law_574 : decode code 574 = .ok (.aload_n 3, 1) := by decide +kernel
theorem d_law_law_575 : decode code 575 = .ok (.invokestatic 91, 3) := by decide +kernel
theorem d_law_law_578 : decode code 578 = .ok (.istore 5, 2) := by decide +kernel
theorem d_law_law_580 : decode code 580 = .ok (.aload_n 2, 1) := by decide +kernel
theorem d_law_law_581 : decode code 581 = .ok (.aload_n 0, 1) := by decide +kernel
theorem d_law_law_582 : decode code 582 = .ok (.iload 4, 2) := by decide +kernel
theorem d_law_law_584 : decode code 584 = .ok (.iconst 1, 1) := by decide +kernel
theorem d_law_law_585 : decode code 585 = .ok (.iadd, 1) := by decide +kernel
theorem d_law_law_586 : decode code 586 = .ok (.iaload, 1) := by decide +kernel
theorem d_law_law_587 : decode code 587 = .ok (.invokevirtual 93, 3) := by decide +kernel
theorem d_law_law_590 : decode code 590 = .ok (.istore 6, 2) := by decide +kernel
theorem d_law_law_592 : decode code 592 = .ok (.aload_n 2, 1) := by decide +kernel
theorem d_law_law_593 : decode code 593 = .ok (.invokevirtual 65, 3) := by decide +kernel
theorem d_law_law_596 : decode code 596 = .ok (.iload 5, 2) := by decide +kernel
theorem d_law_law_598 : decode code 598 = .ok (.if_icmp .eq 5, 3) := by decide +kernel
theorem d_law_law_601 : decode code 601 = .ok (.iconst 0, 1) := by decide +kernel
theorem d_law_law_602 : decode code 602 = .ok (.ireturn, 1) := by decide +kernel
theorem d_law_law_603 : decode code 603 = .ok (.iload 5, 2) := by decide +kernel
theorem d_law_law_605 : decode code 605 = .ok (.ifCond .ne 22, 3) := by decide +kernel
theorem d_law_law_608 : decode code 608 = .ok (.aload_n 3, 1) := by decide +kernel
theorem d_law_law_609 : decode code 609 = .ok (.iconst 0, 1) := by decide +kernel
theorem d_law_law_610 : decode code 610 = .ok (.laload, 1) := by decide +kernel
theorem d_law_law_611 : decode code 611 = .ok (.iload 6, 2) := by decide +kernel
theorem d_law_law_613 : decode code 613 = .ok (.ifCond .eq 7, 3) := by decide +kernel
theorem d_law_law_616 : decode code 616 = .ok (.lconst 1, 1) := by decide +kernel
theorem d_law_law_617 : decode code 617 = .ok (.goto 4, 3) := by decide +kernel
theorem d_law_law_620 : decode code 620 = .ok (.lconst 0, 1) := by decide +kernel
theorem d_law_law_621 : decode code 621 = .ok (.lcmp, 1) := by decide +kernel
theorem d_law_law_622 : decode code 622 = .ok (.ifCond .eq 5, 3) := by decide +kernel
theorem d_law_law_625 : decode code 625 = .ok (.iconst 0, 1) := by decide +kernel
theorem d_law_law_626 : decode code 626 = .ok (.ireturn, 1) := by decide +kernel
theorem d_law_law_627 : decode code 627 = .ok (.goto 346, 3) := by decide +kernel
theorem d_law_law_630 : decode code 630 = .ok (.aload_n 1, 1) := by decide +kernel
theorem d_law_law_631 : decode code 631 = .ok (.aload_n 0, 1) := by decide +kernel
theorem d_law_law_632 : decode code 632 = .ok (.iload 4, 2) := by decide +kernel
theorem d_law_law_634 : decode code 634 = .ok (.iconst 1, 1) := by decide +kernel
theorem d_law_law_635 : decode code 635 = .ok (.iadd, 1) := by decide +kernel
theorem d_law_law_636 : decode code 636 = .ok (.iaload, 1) := by decide +kernel
theorem d_law_law_637 : decode code 637 = .ok (.aload_n 3, 1) := by decide +kernel
theorem d_law_law_638 : decode code 638 = .ok (.invokestatic 94, 3) := by decide +kernel
theorem d_law_law_641 : decode code 641 = .ok (.istore 5, 2) := by decide +kernel
theorem d_law_law_643 : decode code 643 = .ok (.aload_n 2, 1) := by decide +kernel
theorem d_law_law_644 : decode code 644 = .ok (.aload_n 0, 1) := by decide +kernel
theorem d_law_law_645 : decode code 645 = .ok (.iload 4, 2) := by decide +kernel
theorem d_law_law_647 : decode code 647 = .ok (.iconst 1, 1) := by decide +kernel
theorem d_law_law_648 : decode code 648 = .ok (.iadd, 1) := by decide +kernel
theorem d_law_law_649 : decode code 649 = .ok (.iaload, 1) := by decide +kernel
theorem d_law_law_650 : decode code 650 = .ok (.invokevirtual 96, 3) := by decide +kernel
theorem d_law_law_653 : decode code 653 = .ok (.istore 6, 2) := by decide +kernel
theorem d_law_law_655 : decode code 655 = .ok (.aload_n 2, 1) := by decide +kernel
theorem d_law_law_656 : decode code 656 = .ok (.invokevirtual 65, 3) := by decide +kernel
theorem d_law_law_659 : decode code 659 = .ok (.iload 5, 2) := by decide +kernel
theorem d_law_law_661 : decode code 661 = .ok (.if_icmp .eq 5, 3) := by decide +kernel
theorem d_law_law_664 : decode code 664 = .ok (.iconst 0, 1) := by decide +kernel
theorem d_law_law_665 : decode code 665 = .ok (.ireturn, 1) := by decide +kernel
theorem d_law_law_666 : decode code 666 = .ok (.iload 5, 2) := by decide +kernel
theorem d_law_law_668 : decode code 668 = .ok (.ifCond .ne 15, 3) := by decide +kernel
theorem d_law_law_671 : decode code 671 = .ok (.aload_n 3, 1) := by decide +kernel
theorem d_law_law_672 : decode code 672 = .ok (.iconst 0, 1) := by decide +kernel
theorem d_law_law_673 : decode code 673 = .ok (.laload, 1) := by decide +kernel
theorem d_law_law_674 : decode code 674 = .ok (.iload 6, 2) := by decide +kernel
theorem d_law_law_676 : decode code 676 = .ok (.i2l, 1) := by decide +kernel
theorem d_law_law_677 : decode code 677 = .ok (.lcmp, 1) := by decide +kernel
theorem d_law_law_678 : decode code 678 = .ok (.ifCond .eq 5, 3) := by decide +kernel
theorem d_law_law_681 : decode code 681 = .ok (.iconst 0, 1) := by decide +kernel
theorem d_law_law_682 : decode code 682 = .ok (.ireturn, 1) := by decide +kernel
theorem d_law_law_683 : decode code 683 = .ok (.goto 290, 3) := by decide +kernel
theorem d_law_law_686 : decode code 686 = .ok (.aload_n 1, 1) := by decide +kernel
theorem d_law_law_687 : decode code 687 = .ok (.aload_n 0, 1) := by decide +kernel
theorem d_law_law_688 : decode code 688 = .ok (.iload 4, 2) := by decide +kernel
theorem d_law_law_690 : decode code 690 = .ok (.iconst 1, 1) := by decide +kernel
theorem d_law_law_691 : decode code 691 = .ok (.iadd, 1) := by decide +kernel
theorem d_law_law_692 : decode code 692 = .ok (.iaload, 1) := by decide +kernel
theorem d_law_law_693 : decode code 693 = .ok (.aload_n 0, 1) := by decide +kernel
theorem d_law_law_694 : decode code 694 = .ok (.iload 4, 2) := by decide +kernel
theorem d_law_law_696 : decode code 696 = .ok (.iconst 2, 1) := by decide +kernel
theorem d_law_law_697 : decode code 697 = .ok (.iadd, 1) := by decide +kernel
theorem d_law_law_698 : decode code 698 = .ok (.iaload, 1) := by decide +kernel
theorem d_law_law_699 : decode code 699 = .ok (.aload_n 3, 1) := by decide +kernel
theorem d_law_law_700 : decode code 700 = .ok (.invokestatic 97, 3) := by decide +kernel
theorem d_law_law_703 : decode code 703 = .ok (.istore 5, 2) := by decide +kernel
theorem d_law_law_705 : decode code 705 = .ok (.aload_n 2, 1) := by decide +kernel
theorem d_law_law_706 : decode code 706 = .ok (.aload_n 0, 1) := by decide +kernel
theorem d_law_law_707 : decode code 707 = .ok (.iload 4, 2) := by decide +kernel
theorem d_law_law_709 : decode code 709 = .ok (.iconst 1, 1) := by decide +kernel
theorem d_law_law_710 : decode code 710 = .ok (.iadd, 1) := by decide +kernel
theorem d_law_law_711 : decode code 711 = .ok (.iaload, 1) := by decide +kernel
theorem d_law_law_712 : decode code 712 = .ok (.aload_n 0, 1) := by decide +kernel
theorem d_law_law_713 : decode code 713 = .ok (.iload 4, 2) := by decide +kernel
theorem d_law_law_715 : decode code 715 = .ok (.iconst 2, 1) := by decide +kernel
theorem d_law_law_716 : decode code 716 = .ok (.iadd, 1) := by decide +kernel
theorem d_law_law_717 : decode code 717 = .ok (.iaload, 1) := by decide +kernel
theorem d_law_law_718 : decode code 718 = .ok (.invokevirtual 100, 3) := by decide +kernel
theorem d_law_law_721 : decode code 721 = .ok (.istore 6, 2) := by decide +kernel
theorem d_law_law_723 : decode code 723 = .ok (.aload_n 2, 1) := by decide +kernel
theorem d_law_law_724 : decode code 724 = .ok (.invokevirtual 65, 3) := by decide +kernel
theorem d_law_law_727 : decode code 727 = .ok (.iload 5, 2) := by decide +kernel
theorem d_law_law_729 : decode code 729 = .ok (.if_icmp .eq 5, 3) := by decide +kernel
theorem d_law_law_732 : decode code 732 = .ok (.iconst 0, 1) := by decide +kernel
theorem d_law_law_733 : decode code 733 = .ok (.ireturn, 1) := by decide +kernel
theorem d_law_law_734 : decode code 734 = .ok (.iload 5, 2) := by decide +kernel
theorem d_law_law_736 : decode code 736 = .ok (.ifCond .ne 15, 3) := by decide +kernel
theorem d_law_law_739 : decode code 739 = .ok (.aload_n 3, 1) := by decide +kernel
theorem d_law_law_740 : decode code 740 = .ok (.iconst 0, 1) := by decide +kernel
theorem d_law_law_741 : decode code 741 = .ok (.laload, 1) := by decide +kernel
theorem d_law_law_742 : decode code 742 = .ok (.iload 6, 2) := by decide +kernel
theorem d_law_law_744 : decode code 744 = .ok (.i2l, 1) := by decide +kernel
theorem d_law_law_745 : decode code 745 = .ok (.lcmp, 1) := by decide +kernel
theorem d_law_law_746 : decode code 746 = .ok (.ifCond .eq 5, 3) := by decide +kernel
theorem d_law_law_749 : decode code 749 = .ok (.iconst 0, 1) := by decide +kernel
theorem d_law_law_750 : decode code 750 = .ok (.ireturn, 1) := by decide +kernel
theorem d_law_law_751 : decode code 751 = .ok (.goto 222, 3) := by decide +kernel
theorem d_law_law_754 : decode code 754 = .ok (.aload_n 1, 1) := by decide +kernel
theorem d_law_law_755 : decode code 755 = .ok (.aload_n 0, 1) := by decide +kernel
theorem d_law_law_756 : decode code 756 = .ok (.iload 4, 2) := by decide +kernel
theorem d_law_law_758 : decode code 758 = .ok (.iconst 1, 1) := by decide +kernel
theorem d_law_law_759 : decode code 759 = .ok (.iadd, 1) := by decide +kernel
theorem d_law_law_760 : decode code 760 = .ok (.iaload, 1) := by decide +kernel
theorem d_law_law_761 : decode code 761 = .ok (.aload_n 0, 1) := by decide +kernel
theorem d_law_law_762 : decode code 762 = .ok (.iload 4, 2) := by decide +kernel
theorem d_law_law_764 : decode code 764 = .ok (.iconst 2, 1) := by decide +kernel
theorem d_law_law_765 : decode code 765 = .ok (.iadd, 1) := by decide +kernel
theorem d_law_law_766 : decode code 766 = .ok (.iaload, 1) := by decide +kernel
theorem d_law_law_767 : decode code 767 = .ok (.aload_n 3, 1) := by decide +kernel
theorem d_law_law_768 : decode code 768 = .ok (.invokestatic 101, 3) := by decide +kernel
theorem d_law_law_771 : decode code 771 = .ok (.istore 5, 2) := by decide +kernel
theorem d_law_law_773 : decode code 773 = .ok (.aload_n 2, 1) := by decide +kernel
theorem d_law_law_774 : decode code 774 = .ok (.aload_n 0, 1) := by decide +kernel
theorem d_law_law_775 : decode code 775 = .ok (.iload 4, 2) := by decide +kernel
theorem d_law_law_777 : decode code 777 = .ok (.iconst 1, 1) := by decide +kernel
theorem d_law_law_778 : decode code 778 = .ok (.iadd, 1) := by decide +kernel
theorem d_law_law_779 : decode code 779 = .ok (.iaload, 1) := by decide +kernel
theorem d_law_law_780 : decode code 780 = .ok (.aload_n 0, 1) := by decide +kernel
theorem d_law_law_781 : decode code 781 = .ok (.iload 4, 2) := by decide +kernel
theorem d_law_law_783 : decode code 783 = .ok (.iconst 2, 1) := by decide +kernel
theorem d_law_law_784 : decode code 784 = .ok (.iadd, 1) := by decide +kernel
theorem d_law_law_785 : decode code 785 = .ok (.iaload, 1) := by decide +kernel
theorem d_law_law_786 : decode code 786 = .ok (.invokevirtual 103, 3) := by decide +kernel
theorem d_law_law_789 : decode code 789 = .ok (.istore 6, 2) := by decide +kernel
theorem d_law_law_791 : decode code 791 = .ok (.aload_n 2, 1) := by decide +kernel
theorem d_law_law_792 : decode code 792 = .ok (.invokevirtual 65, 3) := by decide +kernel
theorem d_law_law_795 : decode code 795 = .ok (.iload 5, 2) := by decide +kernel
theorem d_law_law_797 : decode code 797 = .ok (.if_icmp .eq 5, 3) := by decide +kernel
theorem d_law_law_800 : decode code 800 = .ok (.iconst 0, 1) := by decide +kernel
theorem d_law_law_801 : decode code 801 = .ok (.ireturn, 1) := by decide +kernel
theorem d_law_law_802 : decode code 802 = .ok (.iload 5, 2) := by decide +kernel
theorem d_law_law_804 : decode code 804 = .ok (.ifCond .ne 15, 3) := by decide +kernel
theorem d_law_law_807 : decode code 807 = .ok (.aload_n 3, 1) := by decide +kernel
theorem d_law_law_808 : decode code 808 = .ok (.iconst 0, 1) := by decide +kernel
theorem d_law_law_809 : decode code 809 = .ok (.laload, 1) := by decide +kernel
theorem d_law_law_810 : decode code 810 = .ok (.iload 6, 2) := by decide +kernel
theorem d_law_law_812 : decode code 812 = .ok (.i2l, 1) := by decide +kernel
theorem d_law_law_813 : decode code 813 = .ok (.lcmp, 1) := by decide +kernel
theorem d_law_law_814 : decode code 814 = .ok (.ifCond .eq 5, 3) := by decide +kernel
theorem d_law_law_817 : decode code 817 = .ok (.iconst 0, 1) := by decide +kernel
theorem d_law_law_818 : decode code 818 = .ok (.ireturn, 1) := by decide +kernel
theorem d_law_law_819 : decode code 819 = .ok (.goto 154, 3) := by decide +kernel
theorem d_law_law_822 : decode code 822 = .ok (.aload_n 1, 1) := by decide +kernel
theorem d_law_law_823 : decode code 823 = .ok (.aload_n 0, 1) := by decide +kernel
theorem d_law_law_824 : decode code 824 = .ok (.iload 4, 2) := by decide +kernel
theorem d_law_law_826 : decode code 826 = .ok (.iconst 1, 1) := by decide +kernel
theorem d_law_law_827 : decode code 827 = .ok (.iadd, 1) := by decide +kernel
theorem d_law_law_828 : decode code 828 = .ok (.iaload, 1) := by decide +kernel
theorem d_law_law_829 : decode code 829 = .ok (.aload_n 0, 1) := by decide +kernel
theorem d_law_law_830 : decode code 830 = .ok (.iload 4, 2) := by decide +kernel
theorem d_law_law_832 : decode code 832 = .ok (.iconst 2, 1) := by decide +kernel
theorem d_law_law_833 : decode code 833 = .ok (.iadd, 1) := by decide +kernel
theorem d_law_law_834 : decode code 834 = .ok (.iaload, 1) := by decide +kernel
theorem d_law_law_835 : decode code 835 = .ok (.aload_n 3, 1) := by decide +kernel
theorem d_law_law_836 : decode code 836 = .ok (.invokestatic 104, 3) := by decide +kernel
theorem d_law_law_839 : decode code 839 = .ok (.istore 5, 2) := by decide +kernel
theorem d_law_law_841 : decode code 841 = .ok (.aload_n 2, 1) := by decide +kernel
theorem d_law_law_842 : decode code 842 = .ok (.aload_n 0, 1) := by decide +kernel
theorem d_law_law_843 : decode code 843 = .ok (.iload 4, 2) := by decide +kernel
theorem d_law_law_845 : decode code 845 = .ok (.iconst 1, 1) := by decide +kernel
theorem d_law_law_846 : decode code 846 = .ok (.iadd, 1) := by decide +kernel
theorem d_law_law_847 : decode code 847 = .ok (.iaload, 1) := by decide +kernel
theorem d_law_law_848 : decode code 848 = .ok (.aload_n 0, 1) := by decide +kernel
theorem d_law_law_849 : decode code 849 = .ok (.iload 4, 2) := by decide +kernel
theorem d_law_law_851 : decode code 851 = .ok (.iconst 2, 1) := by decide +kernel
theorem d_law_law_852 : decode code 852 = .ok (.iadd, 1) := by decide +kernel
theorem d_law_law_853 : decode code 853 = .ok (.iaload, 1) := by decide +kernel
theorem d_law_law_854 : decode code 854 = .ok (.invokevirtual 106, 3) := by decide +kernel
theorem d_law_law_857 : decode code 857 = .ok (.istore 6, 2) := by decide +kernel
theorem d_law_law_859 : decode code 859 = .ok (.aload_n 2, 1) := by decide +kernel
theorem d_law_law_860 : decode code 860 = .ok (.invokevirtual 65, 3) := by decide +kernel
theorem d_law_law_863 : decode code 863 = .ok (.iload 5, 2) := by decide +kernel
theorem d_law_law_865 : decode code 865 = .ok (.if_icmp .eq 5, 3) := by decide +kernel
theorem d_law_law_868 : decode code 868 = .ok (.iconst 0, 1) := by decide +kernel
theorem d_law_law_869 : decode code 869 = .ok (.ireturn, 1) := by decide +kernel
theorem d_law_law_870 : decode code 870 = .ok (.iload 5, 2) := by decide +kernel
theorem d_law_law_872 : decode code 872 = .ok (.ifCond .ne 15, 3) := by decide +kernel
theorem d_law_law_875 : decode code 875 = .ok (.aload_n 3, 1) := by decide +kernel
theorem d_law_law_876 : decode code 876 = .ok (.iconst 0, 1) := by decide +kernel
theorem d_law_law_877 : decode code 877 = .ok (.laload, 1) := by decide +kernel
theorem d_law_law_878 : decode code 878 = .ok (.iload 6, 2) := by decide +kernel
theorem d_law_law_880 : decode code 880 = .ok (.i2l, 1) := by decide +kernel
theorem d_law_law_881 : decode code 881 = .ok (.lcmp, 1) := by decide +kernel
theorem d_law_law_882 : decode code 882 = .ok (.ifCond .eq 5, 3) := by decide +kernel
theorem d_law_law_885 : decode code 885 = .ok (.iconst 0, 1) := by decide +kernel
theorem d_law_law_886 : decode code 886 = .ok (.ireturn, 1) := by decide +kernel
theorem d_law_law_887 : decode code 887 = .ok (.goto 86, 3) := by decide +kernel
theorem d_law_law_890 : decode code 890 = .ok (.aload_n 1, 1) := by decide +kernel
theorem d_law_law_891 : decode code 891 = .ok (.invokevirtual 107, 3) := by decide +kernel
theorem d_law_law_894 : decode code 894 = .ok (.aload_n 2, 1) := by decide +kernel
theorem d_law_law_895 : decode code 895 = .ok (.invokevirtual 111, 3) := by decide +kernel
theorem d_law_law_898 : decode code 898 = .ok (.lcmp, 1) := by decide +kernel
theorem d_law_law_899 : decode code 899 = .ok (.ifCond .eq 74, 3) := by decide +kernel
theorem d_law_law_902 : decode code 902 = .ok (.iconst 0, 1) := by decide +kernel
theorem d_law_law_903 : decode code 903 = .ok (.ireturn, 1) := by decide +kernel
theorem d_law_law_904 : decode code 904 = .ok (.aload_n 1, 1) := by decide +kernel
theorem d_law_law_905 : decode code 905 = .ok (.invokevirtual 112, 3) := by decide +kernel
theorem d_law_law_908 : decode code 908 = .ok (.aload_n 2, 1) := by decide +kernel
theorem d_law_law_909 : decode code 909 = .ok (.invokevirtual 116, 3) := by decide +kernel
theorem d_law_law_912 : decode code 912 = .ok (.if_icmp .eq 61, 3) := by decide +kernel
theorem d_law_law_915 : decode code 915 = .ok (.iconst 0, 1) := by decide +kernel
theorem d_law_law_916 : decode code 916 = .ok (.ireturn, 1) := by decide +kernel
theorem d_law_law_917 : decode code 917 = .ok (.aload_n 1, 1) := by decide +kernel
theorem d_law_law_918 : decode code 918 = .ok (.aload_n 0, 1) := by decide +kernel
theorem d_law_law_919 : decode code 919 = .ok (.iload 4, 2) := by decide +kernel
theorem d_law_law_921 : decode code 921 = .ok (.iconst 1, 1) := by decide +kernel
theorem d_law_law_922 : decode code 922 = .ok (.iadd, 1) := by decide +kernel
theorem d_law_law_923 : decode code 923 = .ok (.iaload, 1) := by decide +kernel
theorem d_law_law_924 : decode code 924 = .ok (.aload_n 3, 1) := by decide +kernel
theorem d_law_law_925 : decode code 925 = .ok (.invokestatic 117, 3) := by decide +kernel
theorem d_law_law_928 : decode code 928 = .ok (.istore 5, 2) := by decide +kernel
theorem d_law_law_930 : decode code 930 = .ok (.aload_n 2, 1) := by decide +kernel
theorem d_law_law_931 : decode code 931 = .ok (.aload_n 0, 1) := by decide +kernel
theorem d_law_law_932 : decode code 932 = .ok (.iload 4, 2) := by decide +kernel
theorem d_law_law_934 : decode code 934 = .ok (.iconst 1, 1) := by decide +kernel
theorem d_law_law_935 : decode code 935 = .ok (.iadd, 1) := by decide +kernel
theorem d_law_law_936 : decode code 936 = .ok (.iaload, 1) := by decide +kernel
theorem d_law_law_937 : decode code 937 = .ok (.invokevirtual 119, 3) := by decide +kernel
theorem d_law_law_940 : decode code 940 = .ok (.istore 6, 2) := by decide +kernel
theorem d_law_law_942 : decode code 942 = .ok (.aload_n 2, 1) := by decide +kernel
theorem d_law_law_943 : decode code 943 = .ok (.invokevirtual 65, 3) := by decide +kernel
theorem d_law_law_946 : decode code 946 = .ok (.iload 5, 2) := by decide +kernel
theorem d_law_law_948 : decode code 948 = .ok (.if_icmp .eq 5, 3) := by decide +kernel
theorem d_law_law_951 : decode code 951 = .ok (.iconst 0, 1) := by decide +kernel
theorem d_law_law_952 : decode code 952 = .ok (.ireturn, 1) := by decide +kernel
theorem d_law_law_953 : decode code 953 = .ok (.iload 5, 2) := by decide +kernel
theorem d_law_law_955 : decode code 955 = .ok (.ifCond .ne 15, 3) := by decide +kernel
theorem d_law_law_958 : decode code 958 = .ok (.aload_n 3, 1) := by decide +kernel
theorem d_law_law_959 : decode code 959 = .ok (.iconst 0, 1) := by decide +kernel
theorem d_law_law_960 : decode code 960 = .ok (.laload, 1) := by decide +kernel
theorem d_law_law_961 : decode code 961 = .ok (.iload 6, 2) := by decide +kernel
theorem d_law_law_963 : decode code 963 = .ok (.i2l, 1) := by decide +kernel
theorem d_law_law_964 : decode code 964 = .ok (.lcmp, 1) := by decide +kernel
theorem d_law_law_965 : decode code 965 = .ok (.ifCond .eq 5, 3) := by decide +kernel
theorem d_law_law_968 : decode code 968 = .ok (.iconst 0, 1) := by decide +kernel
theorem d_law_law_969 : decode code 969 = .ok (.ireturn, 1) := by decide +kernel
theorem d_law_law_970 : decode code 970 = .ok (.goto 3, 3) := by decide +kernel
theorem d_law_law_973 : decode code 973 = .ok (.iinc 4 7, 3) := by decide +kernel
theorem d_law_law_976 : decode code 976 = .ok (.goto (-953), 3) := by decide +kernel
theorem d_law_law_979 : decode code 979 = .ok (.iconst 1, 1) := by decide +kernel
theorem d_law_law_980 : decode code 980 = .ok (.ireturn, 1) := by decide +kernel
