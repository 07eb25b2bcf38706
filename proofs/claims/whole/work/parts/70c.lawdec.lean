theorem dW_618 : decode code 618 = .ok (.laload, 1) := by decide +kernel
theorem dW_619 : decode code 619 = .ok (.iload 6, 2) := by decide +kernel
theorem dW_621 : decode code 621 = .ok (.i2l, 1) := by decide +kernel
theorem dW_622 : decode code 622 = .ok (.lcmp, 1) := by decide +kernel
theorem dW_623 : decode code 623 = .ok (.ifCond .eq 5, 3) := by decide +kernel
theorem dW_626 : decode code 626 = .ok (.iconst 0, 1) := by decide +kernel
theorem dW_627 : decode code 627 = .ok (.ireturn, 1) := by decide +kernel
theorem dW_628 : decode code 628 = .ok (.goto 1353, 3) := by decide +kernel
theorem dW_631 : decode code 631 = .ok (.aload_n 1, 1) := by decide +kernel
theorem dW_632 : decode code 632 = .ok (.aload_n 0, 1) := by decide +kernel
theorem dW_633 : decode code 633 = .ok (.iload 4, 2) := by decide +kernel
theorem dW_635 : decode code 635 = .ok (.iconst 1, 1) := by decide +kernel
theorem dW_636 : decode code 636 = .ok (.iadd, 1) := by decide +kernel
theorem dW_637 : decode code 637 = .ok (.iaload, 1) := by decide +kernel
theorem dW_638 : decode code 638 = .ok (.aload_n 0, 1) := by decide +kernel
theorem dW_639 : decode code 639 = .ok (.iload 4, 2) := by decide +kernel
theorem dW_641 : decode code 641 = .ok (.iconst 2, 1) := by decide +kernel
theorem dW_642 : decode code 642 = .ok (.iadd, 1) := by decide +kernel
theorem dW_643 : decode code 643 = .ok (.iaload, 1) := by decide +kernel
theorem dW_644 : decode code 644 = .ok (.aload_n 0, 1) := by decide +kernel
theorem dW_645 : decode code 645 = .ok (.iload 4, 2) := by decide +kernel
theorem dW_647 : decode code 647 = .ok (.iconst 3, 1) := by decide +kernel
theorem dW_648 : decode code 648 = .ok (.iadd, 1) := by decide +kernel
theorem dW_649 : decode code 649 = .ok (.iaload, 1) := by decide +kernel
theorem dW_650 : decode code 650 = .ok (.aload_n 3, 1) := by decide +kernel
theorem dW_651 : decode code 651 = .ok (.invokestatic 141, 3) := by decide +kernel
theorem dW_654 : decode code 654 = .ok (.istore 5, 2) := by decide +kernel
theorem dW_656 : decode code 656 = .ok (.aload_n 2, 1) := by decide +kernel
theorem dW_657 : decode code 657 = .ok (.aload_n 0, 1) := by decide +kernel
theorem dW_658 : decode code 658 = .ok (.iload 4, 2) := by decide +kernel
theorem dW_660 : decode code 660 = .ok (.iconst 1, 1) := by decide +kernel
theorem dW_661 : decode code 661 = .ok (.iadd, 1) := by decide +kernel
theorem dW_662 : decode code 662 = .ok (.iaload, 1) := by decide +kernel
theorem dW_663 : decode code 663 = .ok (.aload_n 0, 1) := by decide +kernel
theorem dW_664 : decode code 664 = .ok (.iload 4, 2) := by decide +kernel
theorem dW_666 : decode code 666 = .ok (.iconst 2, 1) := by decide +kernel
theorem dW_667 : decode code 667 = .ok (.iadd, 1) := by decide +kernel
theorem dW_668 : decode code 668 = .ok (.iaload, 1) := by decide +kernel
theorem dW_669 : decode code 669 = .ok (.aload_n 0, 1) := by decide +kernel
theorem dW_670 : decode code 670 = .ok (.iload 4, 2) := by decide +kernel
theorem dW_672 : decode code 672 = .ok (.iconst 3, 1) := by decide +kernel
theorem dW_673 : decode code 673 = .ok (.iadd, 1) := by decide +kernel
theorem dW_674 : decode code 674 = .ok (.iaload, 1) := by decide +kernel
theorem dW_675 : decode code 675 = .ok (.invokevirtual 143, 3) := by decide +kernel
theorem dW_678 : decode code 678 = .ok (.istore 6, 2) := by decide +kernel
theorem dW_680 : decode code 680 = .ok (.aload_n 2, 1) := by decide +kernel
theorem dW_681 : decode code 681 = .ok (.invokevirtual 115, 3) := by decide +kernel
theorem dW_684 : decode code 684 = .ok (.iload 5, 2) := by decide +kernel
theorem dW_686 : decode code 686 = .ok (.if_icmp .eq 5, 3) := by decide +kernel
theorem dW_689 : decode code 689 = .ok (.iconst 0, 1) := by decide +kernel
theorem dW_690 : decode code 690 = .ok (.ireturn, 1) := by decide +kernel
theorem dW_691 : decode code 691 = .ok (.iload 5, 2) := by decide +kernel
theorem dW_693 : decode code 693 = .ok (.ifCond .ne 15, 3) := by decide +kernel
theorem dW_696 : decode code 696 = .ok (.aload_n 3, 1) := by decide +kernel
theorem dW_697 : decode code 697 = .ok (.iconst 0, 1) := by decide +kernel
theorem dW_698 : decode code 698 = .ok (.laload, 1) := by decide +kernel
theorem dW_699 : decode code 699 = .ok (.iload 6, 2) := by decide +kernel
theorem dW_701 : decode code 701 = .ok (.i2l, 1) := by decide +kernel
theorem dW_702 : decode code 702 = .ok (.lcmp, 1) := by decide +kernel
theorem dW_703 : decode code 703 = .ok (.ifCond .eq 5, 3) := by decide +kernel
theorem dW_706 : decode code 706 = .ok (.iconst 0, 1) := by decide +kernel
theorem dW_707 : decode code 707 = .ok (.ireturn, 1) := by decide +kernel
theorem dW_708 : decode code 708 = .ok (.goto 1273, 3) := by decide +kernel
theorem dW_711 : decode code 711 = .ok (.aload_n 1, 1) := by decide +kernel
theorem dW_712 : decode code 712 = .ok (.aload_n 0, 1) := by decide +kernel
theorem dW_713 : decode code 713 = .ok (.iload 4, 2) := by decide +kernel
theorem dW_715 : decode code 715 = .ok (.iconst 1, 1) := by decide +kernel
theorem dW_716 : decode code 716 = .ok (.iadd, 1) := by decide +kernel
theorem dW_717 : decode code 717 = .ok (.iaload, 1) := by decide +kernel
theorem dW_718 : decode code 718 = .ok (.aload_n 0, 1) := by decide +kernel
theorem dW_719 : decode code 719 = .ok (.iload 4, 2) := by decide +kernel
theorem dW_721 : decode code 721 = .ok (.iconst 2, 1) := by decide +kernel
theorem dW_722 : decode code 722 = .ok (.iadd, 1) := by decide +kernel
theorem dW_723 : decode code 723 = .ok (.iaload, 1) := by decide +kernel
theorem dW_724 : decode code 724 = .ok (.aload_n 0, 1) := by decide +kernel
theorem dW_725 : decode code 725 = .ok (.iload 4, 2) := by decide +kernel
theorem dW_727 : decode code 727 = .ok (.iconst 3, 1) := by decide +kernel
theorem dW_728 : decode code 728 = .ok (.iadd, 1) := by decide +kernel
theorem dW_729 : decode code 729 = .ok (.iaload, 1) := by decide +kernel
theorem dW_730 : decode code 730 = .ok (.aload_n 3, 1) := by decide +kernel
theorem dW_731 : decode code 731 = .ok (.invokestatic 144, 3) := by decide +kernel
theorem dW_734 : decode code 734 = .ok (.istore 5, 2) := by decide +kernel
theorem dW_736 : decode code 736 = .ok (.aload_n 2, 1) := by decide +kernel
theorem dW_737 : decode code 737 = .ok (.aload_n 0, 1) := by decide +kernel
theorem dW_738 : decode code 738 = .ok (.iload 4, 2) := by decide +kernel
theorem dW_740 : decode code 740 = .ok (.iconst 1, 1) := by decide +kernel
theorem dW_741 : decode code 741 = .ok (.iadd, 1) := by decide +kernel
theorem dW_742 : decode code 742 = .ok (.iaload, 1) := by decide +kernel
theorem dW_743 : decode code 743 = .ok (.aload_n 0, 1) := by decide +kernel
theorem dW_744 : decode code 744 = .ok (.iload 4, 2) := by decide +kernel
theorem dW_746 : decode code 746 = .ok (.iconst 2, 1) := by decide +kernel
theorem dW_747 : decode code 747 = .ok (.iadd, 1) := by decide +kernel
theorem dW_748 : decode code 748 = .ok (.iaload, 1) := by decide +kernel
theorem dW_749 : decode code 749 = .ok (.aload_n 0, 1) := by decide +kernel
theorem dW_750 : decode code 750 = .ok (.iload 4, 2) := by decide +kernel
theorem dW_752 : decode code 752 = .ok (.iconst 3, 1) := by decide +kernel
theorem dW_753 : decode code 753 = .ok (.iadd, 1) := by decide +kernel
theorem dW_754 : decode code 754 = .ok (.iaload, 1) := by decide +kernel
theorem dW_755 : decode code 755 = .ok (.invokevirtual 146, 3) := by decide +kernel
theorem dW_758 : decode code 758 = .ok (.istore 6, 2) := by decide +kernel
theorem dW_760 : decode code 760 = .ok (.aload_n 2, 1) := by decide +kernel
theorem dW_761 : decode code 761 = .ok (.invokevirtual 115, 3) := by decide +kernel
theorem dW_764 : decode code 764 = .ok (.iload 5, 2) := by decide +kernel
theorem dW_766 : decode code 766 = .ok (.if_icmp .eq 5, 3) := by decide +kernel
theorem dW_769 : decode code 769 = .ok (.iconst 0, 1) := by decide +kernel
theorem dW_770 : decode code 770 = .ok (.ireturn, 1) := by decide +kernel
theorem dW_771 : decode code 771 = .ok (.iload 5, 2) := by decide +kernel
theorem dW_773 : decode code 773 = .ok (.ifCond .ne 15, 3) := by decide +kernel
theorem dW_776 : decode code 776 = .ok (.aload_n 3, 1) := by decide +kernel
theorem dW_777 : decode code 777 = .ok (.iconst 0, 1) := by decide +kernel
theorem dW_778 : decode code 778 = .ok (.laload, 1) := by decide +kernel
theorem dW_779 : decode code 779 = .ok (.iload 6, 2) := by decide +kernel
theorem dW_781 : decode code 781 = .ok (.i2l, 1) := by decide +kernel
theorem dW_782 : decode code 782 = .ok (.lcmp, 1) := by decide +kernel
theorem dW_783 : decode code 783 = .ok (.ifCond .eq 5, 3) := by decide +kernel
theorem dW_786 : decode code 786 = .ok (.iconst 0, 1) := by decide +kernel
theorem dW_787 : decode code 787 = .ok (.ireturn, 1) := by decide +kernel
theorem dW_788 : decode code 788 = .ok (.goto 1193, 3) := by decide +kernel
theorem dW_791 : decode code 791 = .ok (.aload_n 1, 1) := by decide +kernel
theorem dW_792 : decode code 792 = .ok (.aload_n 0, 1) := by decide +kernel
theorem dW_793 : decode code 793 = .ok (.iload 4, 2) := by decide +kernel
theorem dW_795 : decode code 795 = .ok (.iconst 1, 1) := by decide +kernel
theorem dW_796 : decode code 796 = .ok (.iadd, 1) := by decide +kernel
theorem dW_797 : decode code 797 = .ok (.iaload, 1) := by decide +kernel
theorem dW_798 : decode code 798 = .ok (.aload_n 0, 1) := by decide +kernel
theorem dW_799 : decode code 799 = .ok (.iload 4, 2) := by decide +kernel
theorem dW_801 : decode code 801 = .ok (.iconst 2, 1) := by decide +kernel
theorem dW_802 : decode code 802 = .ok (.iadd, 1) := by decide +kernel
theorem dW_803 : decode code 803 = .ok (.iaload, 1) := by decide +kernel
theorem dW_804 : decode code 804 = .ok (.aload_n 3, 1) := by decide +kernel
theorem dW_805 : decode code 805 = .ok (.invokestatic 147, 3) := by decide +kernel
theorem dW_808 : decode code 808 = .ok (.istore 5, 2) := by decide +kernel
theorem dW_810 : decode code 810 = .ok (.aload_n 2, 1) := by decide +kernel
theorem dW_811 : decode code 811 = .ok (.aload_n 0, 1) := by decide +kernel
theorem dW_812 : decode code 812 = .ok (.iload 4, 2) := by decide +kernel
theorem dW_814 : decode code 814 = .ok (.iconst 1, 1) := by decide +kernel
theorem dW_815 : decode code 815 = .ok (.iadd, 1) := by decide +kernel
theorem dW_816 : decode code 816 = .ok (.iaload, 1) := by decide +kernel
theorem dW_817 : decode code 817 = .ok (.aload_n 0, 1) := by decide +kernel
theorem dW_818 : decode code 818 = .ok (.iload 4, 2) := by decide +kernel
theorem dW_820 : decode code 820 = .ok (.iconst 2, 1) := by decide +kernel
theorem dW_821 : decode code 821 = .ok (.iadd, 1) := by decide +kernel
theorem dW_822 : decode code 822 = .ok (.iaload, 1) := by decide +kernel
theorem dW_823 : decode code 823 = .ok (.invokevirtual 149, 3) := by decide +kernel
theorem dW_826 : decode code 826 = .ok (.istore 6, 2) := by decide +kernel
theorem dW_828 : decode code 828 = .ok (.aload_n 2, 1) := by decide +kernel
theorem dW_829 : decode code 829 = .ok (.invokevirtual 115, 3) := by decide +kernel
theorem dW_832 : decode code 832 = .ok (.iload 5, 2) := by decide +kernel
theorem dW_834 : decode code 834 = .ok (.if_icmp .eq 5, 3) := by decide +kernel
theorem dW_837 : decode code 837 = .ok (.iconst 0, 1) := by decide +kernel
