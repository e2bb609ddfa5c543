/-! the law's rows -/
theorem dl_509 : decode code 509 = .ok (.aload_n 0, 1) := by decide +kernel
theorem dl_510 : decode code 510 = .ok (.iload_n 3, 1) := by decide +kernel
theorem dl_511 : decode code 511 = .ok (.iconst 1, 1) := by decide +kernel
theorem dl_512 : decode code 512 = .ok (.iadd, 1) := by decide +kernel
theorem dl_513 : decode code 513 = .ok (.iaload, 1) := by decide +kernel
theorem dl_514 : decode code 514 = .ok (.invokevirtual 72, 3) := by decide +kernel
theorem dl_517 : decode code 517 = .ok (.if_icmp .eq 367, 3) := by decide +kernel
theorem dl_520 : decode code 520 = .ok (.iconst 0, 1) := by decide +kernel
theorem dl_521 : decode code 521 = .ok (.ireturn, 1) := by decide +kernel
theorem dl_522 : decode code 522 = .ok (.aload_n 1, 1) := by decide +kernel
theorem dl_523 : decode code 523 = .ok (.aload_n 0, 1) := by decide +kernel
theorem dl_524 : decode code 524 = .ok (.iload_n 3, 1) := by decide +kernel
theorem dl_525 : decode code 525 = .ok (.iconst 1, 1) := by decide +kernel
theorem dl_526 : decode code 526 = .ok (.iadd, 1) := by decide +kernel
theorem dl_527 : decode code 527 = .ok (.iaload, 1) := by decide +kernel
theorem dl_528 : decode code 528 = .ok (.aload_n 0, 1) := by decide +kernel
theorem dl_529 : decode code 529 = .ok (.iload_n 3, 1) := by decide +kernel
theorem dl_530 : decode code 530 = .ok (.iconst 2, 1) := by decide +kernel
theorem dl_531 : decode code 531 = .ok (.iadd, 1) := by decide +kernel
theorem dl_532 : decode code 532 = .ok (.iaload, 1) := by decide +kernel
theorem dl_533 : decode code 533 = .ok (.aload_n 0, 1) := by decide +kernel
theorem dl_534 : decode code 534 = .ok (.iload_n 3, 1) := by decide +kernel
theorem dl_535 : decode code 535 = .ok (.iconst 3, 1) := by decide +kernel
theorem dl_536 : decode code 536 = .ok (.iadd, 1) := by decide +kernel
theorem dl_537 : decode code 537 = .ok (.iaload, 1) := by decide +kernel
theorem dl_538 : decode code 538 = .ok (.invokevirtual 73, 3) := by decide +kernel
theorem dl_541 : decode code 541 = .ok (.aload_n 2, 1) := by decide +kernel
theorem dl_542 : decode code 542 = .ok (.aload_n 0, 1) := by decide +kernel
theorem dl_543 : decode code 543 = .ok (.iload_n 3, 1) := by decide +kernel
theorem dl_544 : decode code 544 = .ok (.iconst 1, 1) := by decide +kernel
theorem dl_545 : decode code 545 = .ok (.iadd, 1) := by decide +kernel
theorem dl_546 : decode code 546 = .ok (.iaload, 1) := by decide +kernel
theorem dl_547 : decode code 547 = .ok (.aload_n 0, 1) := by decide +kernel
theorem dl_548 : decode code 548 = .ok (.iload_n 3, 1) := by decide +kernel
theorem dl_549 : decode code 549 = .ok (.iconst 2, 1) := by decide +kernel
theorem dl_550 : decode code 550 = .ok (.iadd, 1) := by decide +kernel
theorem dl_551 : decode code 551 = .ok (.iaload, 1) := by decide +kernel
theorem dl_552 : decode code 552 = .ok (.aload_n 0, 1) := by decide +kernel
theorem dl_553 : decode code 553 = .ok (.iload_n 3, 1) := by decide +kernel
theorem dl_554 : decode code 554 = .ok (.iconst 3, 1) := by decide +kernel
theorem dl_555 : decode code 555 = .ok (.iadd, 1) := by decide +kernel
theorem dl_556 : decode code 556 = .ok (.iaload, 1) := by decide +kernel
theorem dl_557 : decode code 557 = .ok (.invokevirtual 76, 3) := by decide +kernel
theorem dl_560 : decode code 560 = .ok (.if_icmp .eq 324, 3) := by decide +kernel
theorem dl_563 : decode code 563 = .ok (.iconst 0, 1) := by decide +kernel
theorem dl_564 : decode code 564 = .ok (.ireturn, 1) := by decide +kernel
theorem dl_565 : decode code 565 = .ok (.aload_n 1, 1) := by decide +kernel
theorem dl_566 : decode code 566 = .ok (.aload_n 0, 1) := by decide +kernel
theorem dl_567 : decode code 567 = .ok (.iload_n 3, 1) := by decide +kernel
theorem dl_568 : decode code 568 = .ok (.iconst 1, 1) := by decide +kernel
theorem dl_569 : decode code 569 = .ok (.iadd, 1) := by decide +kernel
theorem dl_570 : decode code 570 = .ok (.iaload, 1) := by decide +kernel
theorem dl_571 : decode code 571 = .ok (.invokevirtual 77, 3) := by decide +kernel
theorem dl_574 : decode code 574 = .ok (.aload_n 2, 1) := by decide +kernel
theorem dl_575 : decode code 575 = .ok (.aload_n 0, 1) := by decide +kernel
theorem dl_576 : decode code 576 = .ok (.iload_n 3, 1) := by decide +kernel
theorem dl_577 : decode code 577 = .ok (.iconst 1, 1) := by decide +kernel
theorem dl_578 : decode code 578 = .ok (.iadd, 1) := by decide +kernel
theorem dl_579 : decode code 579 = .ok (.iaload, 1) := by decide +kernel
theorem dl_580 : decode code 580 = .ok (.invokevirtual 80, 3) := by decide +kernel
theorem dl_583 : decode code 583 = .ok (.if_icmp .eq 301, 3) := by decide +kernel
theorem dl_586 : decode code 586 = .ok (.iconst 0, 1) := by decide +kernel
theorem dl_587 : decode code 587 = .ok (.ireturn, 1) := by decide +kernel
theorem dl_588 : decode code 588 = .ok (.aload_n 1, 1) := by decide +kernel
theorem dl_589 : decode code 589 = .ok (.aload_n 0, 1) := by decide +kernel
theorem dl_590 : decode code 590 = .ok (.iload_n 3, 1) := by decide +kernel
theorem dl_591 : decode code 591 = .ok (.iconst 1, 1) := by decide +kernel
theorem dl_592 : decode code 592 = .ok (.iadd, 1) := by decide +kernel
theorem dl_593 : decode code 593 = .ok (.iaload, 1) := by decide +kernel
theorem dl_594 : decode code 594 = .ok (.invokevirtual 81, 3) := by decide +kernel
theorem dl_597 : decode code 597 = .ok (.aload_n 2, 1) := by decide +kernel
theorem dl_598 : decode code 598 = .ok (.aload_n 0, 1) := by decide +kernel
theorem dl_599 : decode code 599 = .ok (.iload_n 3, 1) := by decide +kernel
theorem dl_600 : decode code 600 = .ok (.iconst 1, 1) := by decide +kernel
theorem dl_601 : decode code 601 = .ok (.iadd, 1) := by decide +kernel
theorem dl_602 : decode code 602 = .ok (.iaload, 1) := by decide +kernel
theorem dl_603 : decode code 603 = .ok (.invokevirtual 84, 3) := by decide +kernel
theorem dl_606 : decode code 606 = .ok (.if_icmp .eq 278, 3) := by decide +kernel
theorem dl_609 : decode code 609 = .ok (.iconst 0, 1) := by decide +kernel
theorem dl_610 : decode code 610 = .ok (.ireturn, 1) := by decide +kernel
theorem dl_611 : decode code 611 = .ok (.aload_n 1, 1) := by decide +kernel
theorem dl_612 : decode code 612 = .ok (.aload_n 0, 1) := by decide +kernel
theorem dl_613 : decode code 613 = .ok (.iload_n 3, 1) := by decide +kernel
theorem dl_614 : decode code 614 = .ok (.iconst 1, 1) := by decide +kernel
theorem dl_615 : decode code 615 = .ok (.iadd, 1) := by decide +kernel
theorem dl_616 : decode code 616 = .ok (.iaload, 1) := by decide +kernel
theorem dl_617 : decode code 617 = .ok (.invokevirtual 85, 3) := by decide +kernel
theorem dl_620 : decode code 620 = .ok (.aload_n 2, 1) := by decide +kernel
theorem dl_621 : decode code 621 = .ok (.aload_n 0, 1) := by decide +kernel
theorem dl_622 : decode code 622 = .ok (.iload_n 3, 1) := by decide +kernel
theorem dl_623 : decode code 623 = .ok (.iconst 1, 1) := by decide +kernel
theorem dl_624 : decode code 624 = .ok (.iadd, 1) := by decide +kernel
theorem dl_625 : decode code 625 = .ok (.iaload, 1) := by decide +kernel
theorem dl_626 : decode code 626 = .ok (.invokevirtual 88, 3) := by decide +kernel
theorem dl_629 : decode code 629 = .ok (.if_icmp .eq 255, 3) := by decide +kernel
theorem dl_632 : decode code 632 = .ok (.iconst 0, 1) := by decide +kernel
theorem dl_633 : decode code 633 = .ok (.ireturn, 1) := by decide +kernel
theorem dl_634 : decode code 634 = .ok (.aload_n 1, 1) := by decide +kernel
theorem dl_635 : decode code 635 = .ok (.invokevirtual 89, 3) := by decide +kernel
theorem dl_638 : decode code 638 = .ok (.aload_n 2, 1) := by decide +kernel
theorem dl_639 : decode code 639 = .ok (.invokevirtual 92, 3) := by decide +kernel
theorem dl_642 : decode code 642 = .ok (.if_icmp .eq 242, 3) := by decide +kernel
theorem dl_645 : decode code 645 = .ok (.iconst 0, 1) := by decide +kernel
theorem dl_646 : decode code 646 = .ok (.ireturn, 1) := by decide +kernel
theorem dl_647 : decode code 647 = .ok (.aload_n 1, 1) := by decide +kernel
theorem dl_648 : decode code 648 = .ok (.aload_n 0, 1) := by decide +kernel
theorem dl_649 : decode code 649 = .ok (.iload_n 3, 1) := by decide +kernel
theorem dl_650 : decode code 650 = .ok (.iconst 1, 1) := by decide +kernel
theorem dl_651 : decode code 651 = .ok (.iadd, 1) := by decide +kernel
theorem dl_652 : decode code 652 = .ok (.iaload, 1) := by decide +kernel
theorem dl_653 : decode code 653 = .ok (.aload_n 0, 1) := by decide +kernel
theorem dl_654 : decode code 654 = .ok (.iload_n 3, 1) := by decide +kernel
theorem dl_655 : decode code 655 = .ok (.iconst 2, 1) := by decide +kernel
theorem dl_656 : decode code 656 = .ok (.iadd, 1) := by decide +kernel
theorem dl_657 : decode code 657 = .ok (.iaload, 1) := by decide +kernel
theorem dl_658 : decode code 658 = .ok (.aload_n 0, 1) := by decide +kernel
theorem dl_659 : decode code 659 = .ok (.iload_n 3, 1) := by decide +kernel
theorem dl_660 : decode code 660 = .ok (.iconst 3, 1) := by decide +kernel
theorem dl_661 : decode code 661 = .ok (.iadd, 1) := by decide +kernel
theorem dl_662 : decode code 662 = .ok (.iaload, 1) := by decide +kernel
theorem dl_663 : decode code 663 = .ok (.invokevirtual 93, 3) := by decide +kernel
theorem dl_666 : decode code 666 = .ok (.aload_n 2, 1) := by decide +kernel
theorem dl_667 : decode code 667 = .ok (.aload_n 0, 1) := by decide +kernel
theorem dl_668 : decode code 668 = .ok (.iload_n 3, 1) := by decide +kernel
theorem dl_669 : decode code 669 = .ok (.iconst 1, 1) := by decide +kernel
theorem dl_670 : decode code 670 = .ok (.iadd, 1) := by decide +kernel
theorem dl_671 : decode code 671 = .ok (.iaload, 1) := by decide +kernel
theorem dl_672 : decode code 672 = .ok (.aload_n 0, 1) := by decide +kernel
theorem dl_673 : decode code 673 = .ok (.iload_n 3, 1) := by decide +kernel
theorem dl_674 : decode code 674 = .ok (.iconst 2, 1) := by decide +kernel
theorem dl_675 : decode code 675 = .ok (.iadd, 1) := by decide +kernel
theorem dl_676 : decode code 676 = .ok (.iaload, 1) := by decide +kernel
theorem dl_677 : decode code 677 = .ok (.aload_n 0, 1) := by decide +kernel
theorem dl_678 : decode code 678 = .ok (.iload_n 3, 1) := by decide +kernel
theorem dl_679 : decode code 679 = .ok (.iconst 3, 1) := by decide +kernel
theorem dl_680 : decode code 680 = .ok (.iadd, 1) := by decide +kernel
theorem dl_681 : decode code 681 = .ok (.iaload, 1) := by decide +kernel
theorem dl_682 : decode code 682 = .ok (.invokevirtual 96, 3) := by decide +kernel
theorem dl_685 : decode code 685 = .ok (.if_icmp .eq 199, 3) := by decide +kernel
theorem dl_688 : decode code 688 = .ok (.iconst 0, 1) := by decide +kernel
theorem dl_689 : decode code 689 = .ok (.ireturn, 1) := by decide +kernel
theorem dl_690 : decode code 690 = .ok (.aload_n 1, 1) := by decide +kernel
theorem dl_691 : decode code 691 = .ok (.invokevirtual 97, 3) := by decide +kernel
theorem dl_694 : decode code 694 = .ok (.aload_n 2, 1) := by decide +kernel
theorem dl_695 : decode code 695 = .ok (.invokevirtual 100, 3) := by decide +kernel
theorem dl_698 : decode code 698 = .ok (.if_icmp .eq 186, 3) := by decide +kernel
theorem dl_701 : decode code 701 = .ok (.iconst 0, 1) := by decide +kernel
theorem dl_702 : decode code 702 = .ok (.ireturn, 1) := by decide +kernel
theorem dl_703 : decode code 703 = .ok (.aload_n 1, 1) := by decide +kernel
theorem dl_704 : decode code 704 = .ok (.invokevirtual 101, 3) := by decide +kernel
theorem dl_707 : decode code 707 = .ok (.aload_n 2, 1) := by decide +kernel
theorem dl_708 : decode code 708 = .ok (.invokevirtual 104, 3) := by decide +kernel
theorem dl_711 : decode code 711 = .ok (.if_icmp .eq 173, 3) := by decide +kernel
theorem dl_714 : decode code 714 = .ok (.iconst 0, 1) := by decide +kernel
theorem dl_715 : decode code 715 = .ok (.ireturn, 1) := by decide +kernel
theorem dl_716 : decode code 716 = .ok (.aload_n 1, 1) := by decide +kernel
theorem dl_717 : decode code 717 = .ok (.aload_n 0, 1) := by decide +kernel
theorem dl_718 : decode code 718 = .ok (.iload_n 3, 1) := by decide +kernel
theorem dl_719 : decode code 719 = .ok (.iconst 1, 1) := by decide +kernel
theorem dl_720 : decode code 720 = .ok (.iadd, 1) := by decide +kernel
theorem dl_721 : decode code 721 = .ok (.iaload, 1) := by decide +kernel
theorem dl_722 : decode code 722 = .ok (.invokevirtual 105, 3) := by decide +kernel
theorem dl_725 : decode code 725 = .ok (.aload_n 2, 1) := by decide +kernel
theorem dl_726 : decode code 726 = .ok (.aload_n 0, 1) := by decide +kernel
theorem dl_727 : decode code 727 = .ok (.iload_n 3, 1) := by decide +kernel
theorem dl_728 : decode code 728 = .ok (.iconst 1, 1) := by decide +kernel
theorem dl_729 : decode code 729 = .ok (.iadd, 1) := by decide +kernel
theorem dl_730 : decode code 730 = .ok (.iaload, 1) := by decide +kernel
theorem dl_731 : decode code 731 = .ok (.invokevirtual 108, 3) := by decide +kernel
theorem dl_734 : decode code 734 = .ok (.if_icmp .eq 150, 3) := by decide +kernel
theorem dl_737 : decode code 737 = .ok (.iconst 0, 1) := by decide +kernel
theorem dl_738 : decode code 738 = .ok (.ireturn, 1) := by decide +kernel
theorem dl_739 : decode code 739 = .ok (.aload_n 1, 1) := by decide +kernel
theorem dl_740 : decode code 740 = .ok (.aload_n 0, 1) := by decide +kernel
theorem dl_741 : decode code 741 = .ok (.iload_n 3, 1) := by decide +kernel
theorem dl_742 : decode code 742 = .ok (.iconst 1, 1) := by decide +kernel
theorem dl_743 : decode code 743 = .ok (.iadd, 1) := by decide +kernel
theorem dl_744 : decode code 744 = .ok (.iaload, 1) := by decide +kernel
theorem dl_745 : decode code 745 = .ok (.aload_n 0, 1) := by decide +kernel
theorem dl_746 : decode code 746 = .ok (.iload_n 3, 1) := by decide +kernel
theorem dl_747 : decode code 747 = .ok (.iconst 2, 1) := by decide +kernel
theorem dl_748 : decode code 748 = .ok (.iadd, 1) := by decide +kernel
theorem dl_749 : decode code 749 = .ok (.iaload, 1) := by decide +kernel
theorem dl_750 : decode code 750 = .ok (.aload_n 0, 1) := by decide +kernel
theorem dl_751 : decode code 751 = .ok (.iload_n 3, 1) := by decide +kernel
theorem dl_752 : decode code 752 = .ok (.iconst 3, 1) := by decide +kernel
theorem dl_753 : decode code 753 = .ok (.iadd, 1) := by decide +kernel
theorem dl_754 : decode code 754 = .ok (.iaload, 1) := by decide +kernel
theorem dl_755 : decode code 755 = .ok (.aload_n 0, 1) := by decide +kernel
theorem dl_756 : decode code 756 = .ok (.iload_n 3, 1) := by decide +kernel
theorem dl_757 : decode code 757 = .ok (.iconst 4, 1) := by decide +kernel
theorem dl_758 : decode code 758 = .ok (.iadd, 1) := by decide +kernel
theorem dl_759 : decode code 759 = .ok (.iaload, 1) := by decide +kernel
theorem dl_760 : decode code 760 = .ok (.invokevirtual 109, 3) := by decide +kernel
theorem dl_763 : decode code 763 = .ok (.aload_n 2, 1) := by decide +kernel
theorem dl_764 : decode code 764 = .ok (.aload_n 0, 1) := by decide +kernel
theorem dl_765 : decode code 765 = .ok (.iload_n 3, 1) := by decide +kernel
theorem dl_766 : decode code 766 = .ok (.iconst 1, 1) := by decide +kernel
theorem dl_767 : decode code 767 = .ok (.iadd, 1) := by decide +kernel
theorem dl_768 : decode code 768 = .ok (.iaload, 1) := by decide +kernel
theorem dl_769 : decode code 769 = .ok (.aload_n 0, 1) := by decide +kernel
theorem dl_770 : decode code 770 = .ok (.iload_n 3, 1) := by decide +kernel
theorem dl_771 : decode code 771 = .ok (.iconst 2, 1) := by decide +kernel
theorem dl_772 : decode code 772 = .ok (.iadd, 1) := by decide +kernel
theorem dl_773 : decode code 773 = .ok (.iaload, 1) := by decide +kernel
theorem dl_774 : decode code 774 = .ok (.aload_n 0, 1) := by decide +kernel
theorem dl_775 : decode code 775 = .ok (.iload_n 3, 1) := by decide +kernel
theorem dl_776 : decode code 776 = .ok (.iconst 3, 1) := by decide +kernel
theorem dl_777 : decode code 777 = .ok (.iadd, 1) := by decide +kernel
theorem dl_778 : decode code 778 = .ok (.iaload, 1) := by decide +kernel
theorem dl_779 : decode code 779 = .ok (.aload_n 0, 1) := by decide +kernel
theorem dl_780 : decode code 780 = .ok (.iload_n 3, 1) := by decide +kernel
theorem dl_781 : decode code 781 = .ok (.iconst 4, 1) := by decide +kernel
theorem dl_782 : decode code 782 = .ok (.iadd, 1) := by decide +kernel
theorem dl_783 : decode code 783 = .ok (.iaload, 1) := by decide +kernel
theorem dl_784 : decode code 784 = .ok (.invokevirtual 113, 3) := by decide +kernel
theorem dl_787 : decode code 787 = .ok (.if_icmp .eq 97, 3) := by decide +kernel
theorem dl_790 : decode code 790 = .ok (.iconst 0, 1) := by decide +kernel
theorem dl_791 : decode code 791 = .ok (.ireturn, 1) := by decide +kernel
theorem dl_792 : decode code 792 = .ok (.aload_n 1, 1) := by decide +kernel
theorem dl_793 : decode code 793 = .ok (.aload_n 0, 1) := by decide +kernel
theorem dl_794 : decode code 794 = .ok (.iload_n 3, 1) := by decide +kernel
theorem dl_795 : decode code 795 = .ok (.iconst 1, 1) := by decide +kernel
theorem dl_796 : decode code 796 = .ok (.iadd, 1) := by decide +kernel
theorem dl_797 : decode code 797 = .ok (.iaload, 1) := by decide +kernel
theorem dl_798 : decode code 798 = .ok (.aload_n 0, 1) := by decide +kernel
theorem dl_799 : decode code 799 = .ok (.iload_n 3, 1) := by decide +kernel
theorem dl_800 : decode code 800 = .ok (.iconst 2, 1) := by decide +kernel
theorem dl_801 : decode code 801 = .ok (.iadd, 1) := by decide +kernel
theorem dl_802 : decode code 802 = .ok (.iaload, 1) := by decide +kernel
theorem dl_803 : decode code 803 = .ok (.aload_n 0, 1) := by decide +kernel
theorem dl_804 : decode code 804 = .ok (.iload_n 3, 1) := by decide +kernel
theorem dl_805 : decode code 805 = .ok (.iconst 3, 1) := by decide +kernel
theorem dl_806 : decode code 806 = .ok (.iadd, 1) := by decide +kernel
theorem dl_807 : decode code 807 = .ok (.iaload, 1) := by decide +kernel
theorem dl_808 : decode code 808 = .ok (.invokevirtual 114, 3) := by decide +kernel
theorem dl_811 : decode code 811 = .ok (.aload_n 2, 1) := by decide +kernel
theorem dl_812 : decode code 812 = .ok (.aload_n 0, 1) := by decide +kernel
theorem dl_813 : decode code 813 = .ok (.iload_n 3, 1) := by decide +kernel
theorem dl_814 : decode code 814 = .ok (.iconst 1, 1) := by decide +kernel
theorem dl_815 : decode code 815 = .ok (.iadd, 1) := by decide +kernel
theorem dl_816 : decode code 816 = .ok (.iaload, 1) := by decide +kernel
theorem dl_817 : decode code 817 = .ok (.aload_n 0, 1) := by decide +kernel
theorem dl_818 : decode code 818 = .ok (.iload_n 3, 1) := by decide +kernel
theorem dl_819 : decode code 819 = .ok (.iconst 2, 1) := by decide +kernel
theorem dl_820 : decode code 820 = .ok (.iadd, 1) := by decide +kernel
theorem dl_821 : decode code 821 = .ok (.iaload, 1) := by decide +kernel
theorem dl_822 : decode code 822 = .ok (.aload_n 0, 1) := by decide +kernel
theorem dl_823 : decode code 823 = .ok (.iload_n 3, 1) := by decide +kernel
theorem dl_824 : decode code 824 = .ok (.iconst 3, 1) := by decide +kernel
theorem dl_825 : decode code 825 = .ok (.iadd, 1) := by decide +kernel
theorem dl_826 : decode code 826 = .ok (.iaload, 1) := by decide +kernel
theorem dl_827 : decode code 827 = .ok (.invokevirtual 117, 3) := by decide +kernel
theorem dl_830 : decode code 830 = .ok (.if_icmp .eq 54, 3) := by decide +kernel
theorem dl_833 : decode code 833 = .ok (.iconst 0, 1) := by decide +kernel
theorem dl_834 : decode code 834 = .ok (.ireturn, 1) := by decide +kernel
theorem dl_835 : decode code 835 = .ok (.aload_n 1, 1) := by decide +kernel
theorem dl_836 : decode code 836 = .ok (.invokevirtual 118, 3) := by decide +kernel
theorem dl_839 : decode code 839 = .ok (.aload_n 2, 1) := by decide +kernel
theorem dl_840 : decode code 840 = .ok (.invokevirtual 121, 3) := by decide +kernel
theorem dl_843 : decode code 843 = .ok (.if_icmp .eq 41, 3) := by decide +kernel
theorem dl_846 : decode code 846 = .ok (.iconst 0, 1) := by decide +kernel
theorem dl_847 : decode code 847 = .ok (.ireturn, 1) := by decide +kernel
theorem dl_848 : decode code 848 = .ok (.aload_n 1, 1) := by decide +kernel
theorem dl_849 : decode code 849 = .ok (.invokevirtual 122, 3) := by decide +kernel
theorem dl_852 : decode code 852 = .ok (.aload_n 2, 1) := by decide +kernel
theorem dl_853 : decode code 853 = .ok (.invokevirtual 125, 3) := by decide +kernel
theorem dl_856 : decode code 856 = .ok (.if_icmp .eq 28, 3) := by decide +kernel
theorem dl_859 : decode code 859 = .ok (.iconst 0, 1) := by decide +kernel
theorem dl_860 : decode code 860 = .ok (.ireturn, 1) := by decide +kernel
theorem dl_861 : decode code 861 = .ok (.aload_n 1, 1) := by decide +kernel
theorem dl_862 : decode code 862 = .ok (.aload_n 0, 1) := by decide +kernel
theorem dl_863 : decode code 863 = .ok (.iload_n 3, 1) := by decide +kernel
theorem dl_864 : decode code 864 = .ok (.iconst 1, 1) := by decide +kernel
theorem dl_865 : decode code 865 = .ok (.iadd, 1) := by decide +kernel
theorem dl_866 : decode code 866 = .ok (.iaload, 1) := by decide +kernel
theorem dl_867 : decode code 867 = .ok (.invokevirtual 126, 3) := by decide +kernel
theorem dl_870 : decode code 870 = .ok (.aload_n 2, 1) := by decide +kernel
theorem dl_871 : decode code 871 = .ok (.aload_n 0, 1) := by decide +kernel
theorem dl_872 : decode code 872 = .ok (.iload_n 3, 1) := by decide +kernel
theorem dl_873 : decode code 873 = .ok (.iconst 1, 1) := by decide +kernel
theorem dl_874 : decode code 874 = .ok (.iadd, 1) := by decide +kernel
theorem dl_875 : decode code 875 = .ok (.iaload, 1) := by decide +kernel
theorem dl_876 : decode code 876 = .ok (.invokevirtual 129, 3) := by decide +kernel
theorem dl_879 : decode code 879 = .ok (.if_icmp .eq 5, 3) := by decide +kernel
theorem dl_882 : decode code 882 = .ok (.iconst 0, 1) := by decide +kernel
theorem dl_883 : decode code 883 = .ok (.ireturn, 1) := by decide +kernel
theorem dl_884 : decode code 884 = .ok (.iinc 3 5, 3) := by decide +kernel
theorem dl_887 : decode code 887 = .ok (.goto (-869), 3) := by decide +kernel
theorem dl_890 : decode code 890 = .ok (.iconst 1, 1) := by decide +kernel
theorem dl_891 : decode code 891 = .ok (.ireturn, 1) := by decide +kernel
