theorem dL_state_608 : decode cL_state 608 = .ok (.goto (-97), 3) := by decide +kernel
theorem dL_state_611 : decode cL_state 611 = .ok (.aload_n 3, 1) := by decide +kernel
theorem dL_state_612 : decode cL_state 612 = .ok (.aload_n 1, 1) := by decide +kernel
theorem dL_state_613 : decode cL_state 613 = .ok (.getfield 192, 3) := by decide +kernel
theorem dL_state_616 : decode cL_state 616 = .ok (.iload 5, 2) := by decide +kernel
theorem dL_state_618 : decode cL_state 618 = .ok (.iaload, 1) := by decide +kernel
theorem dL_state_619 : decode cL_state 619 = .ok (.aaload, 1) := by decide +kernel
theorem dL_state_620 : decode cL_state 620 = .ok (.iconst 1, 1) := by decide +kernel
theorem dL_state_621 : decode cL_state 621 = .ok (.dup2, 1) := by decide +kernel
theorem dL_state_622 : decode cL_state 622 = .ok (.iaload, 1) := by decide +kernel
theorem dL_state_623 : decode cL_state 623 = .ok (.iconst 1, 1) := by decide +kernel
theorem dL_state_624 : decode cL_state 624 = .ok (.iadd, 1) := by decide +kernel
theorem dL_state_625 : decode cL_state 625 = .ok (.iastore, 1) := by decide +kernel
theorem dL_state_626 : decode cL_state 626 = .ok (.aload_n 3, 1) := by decide +kernel
theorem dL_state_627 : decode cL_state 627 = .ok (.aload_n 1, 1) := by decide +kernel
theorem dL_state_628 : decode cL_state 628 = .ok (.getfield 192, 3) := by decide +kernel
theorem dL_state_631 : decode cL_state 631 = .ok (.iload 5, 2) := by decide +kernel
theorem dL_state_633 : decode cL_state 633 = .ok (.iaload, 1) := by decide +kernel
theorem dL_state_634 : decode cL_state 634 = .ok (.aaload, 1) := by decide +kernel
theorem dL_state_635 : decode cL_state 635 = .ok (.iconst 2, 1) := by decide +kernel
theorem dL_state_636 : decode cL_state 636 = .ok (.dup2, 1) := by decide +kernel
theorem dL_state_637 : decode cL_state 637 = .ok (.iaload, 1) := by decide +kernel
theorem dL_state_638 : decode cL_state 638 = .ok (.aload_n 1, 1) := by decide +kernel
theorem dL_state_639 : decode cL_state 639 = .ok (.getfield 68, 3) := by decide +kernel
theorem dL_state_642 : decode cL_state 642 = .ok (.iload 7, 2) := by decide +kernel
theorem dL_state_644 : decode cL_state 644 = .ok (.imul, 1) := by decide +kernel
theorem dL_state_645 : decode cL_state 645 = .ok (.iadd, 1) := by decide +kernel
theorem dL_state_646 : decode cL_state 646 = .ok (.iastore, 1) := by decide +kernel
theorem dL_state_647 : decode cL_state 647 = .ok (.iinc 5 1, 3) := by decide +kernel
theorem dL_state_650 : decode cL_state 650 = .ok (.goto (-237), 3) := by decide +kernel
theorem dL_state_653 : decode cL_state 653 = .ok (.iconst (-1), 1) := by decide +kernel
theorem dL_state_654 : decode cL_state 654 = .ok (.istore 5, 2) := by decide +kernel
theorem dL_state_656 : decode cL_state 656 = .ok (.iconst 0, 1) := by decide +kernel
theorem dL_state_657 : decode cL_state 657 = .ok (.istore 6, 2) := by decide +kernel
theorem dL_state_659 : decode cL_state 659 = .ok (.iload 6, 2) := by decide +kernel
theorem dL_state_661 : decode cL_state 661 = .ok (.aload_n 1, 1) := by decide +kernel
theorem dL_state_662 : decode cL_state 662 = .ok (.getfield 85, 3) := by decide +kernel
theorem dL_state_665 : decode cL_state 665 = .ok (.if_icmp .ge 82, 3) := by decide +kernel
theorem dL_state_668 : decode cL_state 668 = .ok (.iconst 0, 1) := by decide +kernel
theorem dL_state_669 : decode cL_state 669 = .ok (.istore 7, 2) := by decide +kernel
theorem dL_state_671 : decode cL_state 671 = .ok (.iload 7, 2) := by decide +kernel
theorem dL_state_673 : decode cL_state 673 = .ok (.iconst 5, 1) := by decide +kernel
theorem dL_state_674 : decode cL_state 674 = .ok (.if_icmp .ge 29, 3) := by decide +kernel
theorem dL_state_677 : decode cL_state 677 = .ok (.aload_n 0, 1) := by decide +kernel
theorem dL_state_678 : decode cL_state 678 = .ok (.iload 6, 2) := by decide +kernel
theorem dL_state_680 : decode cL_state 680 = .ok (.iload 7, 2) := by decide +kernel
theorem dL_state_682 : decode cL_state 682 = .ok (.invokevirtual 203, 3) := by decide +kernel
theorem dL_state_685 : decode cL_state 685 = .ok (.aload_n 3, 1) := by decide +kernel
theorem dL_state_686 : decode cL_state 686 = .ok (.iload 6, 2) := by decide +kernel
theorem dL_state_688 : decode cL_state 688 = .ok (.aaload, 1) := by decide +kernel
theorem dL_state_689 : decode cL_state 689 = .ok (.iload 7, 2) := by decide +kernel
theorem dL_state_691 : decode cL_state 691 = .ok (.iaload, 1) := by decide +kernel
theorem dL_state_692 : decode cL_state 692 = .ok (.if_icmp .eq 5, 3) := by decide +kernel
theorem dL_state_695 : decode cL_state 695 = .ok (.iconst 0, 1) := by decide +kernel
theorem dL_state_696 : decode cL_state 696 = .ok (.ireturn, 1) := by decide +kernel
theorem dL_state_697 : decode cL_state 697 = .ok (.iinc 7 1, 3) := by decide +kernel
theorem dL_state_700 : decode cL_state 700 = .ok (.goto (-29), 3) := by decide +kernel
theorem dL_state_703 : decode cL_state 703 = .ok (.iload 5, 2) := by decide +kernel
theorem dL_state_705 : decode cL_state 705 = .ok (.ifCond .lt 32, 3) := by decide +kernel
theorem dL_state_708 : decode cL_state 708 = .ok (.aload_n 3, 1) := by decide +kernel
theorem dL_state_709 : decode cL_state 709 = .ok (.iload 6, 2) := by decide +kernel
theorem dL_state_711 : decode cL_state 711 = .ok (.aaload, 1) := by decide +kernel
theorem dL_state_712 : decode cL_state 712 = .ok (.iconst 0, 1) := by decide +kernel
theorem dL_state_713 : decode cL_state 713 = .ok (.iaload, 1) := by decide +kernel
theorem dL_state_714 : decode cL_state 714 = .ok (.aload_n 3, 1) := by decide +kernel
theorem dL_state_715 : decode cL_state 715 = .ok (.iload 6, 2) := by decide +kernel
theorem dL_state_717 : decode cL_state 717 = .ok (.aaload, 1) := by decide +kernel
theorem dL_state_718 : decode cL_state 718 = .ok (.iconst 2, 1) := by decide +kernel
theorem dL_state_719 : decode cL_state 719 = .ok (.iaload, 1) := by decide +kernel
theorem dL_state_720 : decode cL_state 720 = .ok (.iadd, 1) := by decide +kernel
theorem dL_state_721 : decode cL_state 721 = .ok (.aload_n 3, 1) := by decide +kernel
theorem dL_state_722 : decode cL_state 722 = .ok (.iload 5, 2) := by decide +kernel
theorem dL_state_724 : decode cL_state 724 = .ok (.aaload, 1) := by decide +kernel
theorem dL_state_725 : decode cL_state 725 = .ok (.iconst 0, 1) := by decide +kernel
theorem dL_state_726 : decode cL_state 726 = .ok (.iaload, 1) := by decide +kernel
theorem dL_state_727 : decode cL_state 727 = .ok (.aload_n 3, 1) := by decide +kernel
theorem dL_state_728 : decode cL_state 728 = .ok (.iload 5, 2) := by decide +kernel
theorem dL_state_730 : decode cL_state 730 = .ok (.aaload, 1) := by decide +kernel
theorem dL_state_731 : decode cL_state 731 = .ok (.iconst 2, 1) := by decide +kernel
theorem dL_state_732 : decode cL_state 732 = .ok (.iaload, 1) := by decide +kernel
theorem dL_state_733 : decode cL_state 733 = .ok (.iadd, 1) := by decide +kernel
theorem dL_state_734 : decode cL_state 734 = .ok (.if_icmp .le 7, 3) := by decide +kernel
theorem dL_state_737 : decode cL_state 737 = .ok (.iload 6, 2) := by decide +kernel
theorem dL_state_739 : decode cL_state 739 = .ok (.istore 5, 2) := by decide +kernel
theorem dL_state_741 : decode cL_state 741 = .ok (.iinc 6 1, 3) := by decide +kernel
theorem dL_state_744 : decode cL_state 744 = .ok (.goto (-85), 3) := by decide +kernel
theorem dL_state_747 : decode cL_state 747 = .ok (.iconst 0, 1) := by decide +kernel
theorem dL_state_748 : decode cL_state 748 = .ok (.istore 6, 2) := by decide +kernel
theorem dL_state_750 : decode cL_state 750 = .ok (.iload 6, 2) := by decide +kernel
theorem dL_state_752 : decode cL_state 752 = .ok (.bipush 6, 2) := by decide +kernel
theorem dL_state_754 : decode cL_state 754 = .ok (.if_icmp .ge 27, 3) := by decide +kernel
theorem dL_state_757 : decode cL_state 757 = .ok (.aload_n 0, 1) := by decide +kernel
theorem dL_state_758 : decode cL_state 758 = .ok (.iload 6, 2) := by decide +kernel
theorem dL_state_760 : decode cL_state 760 = .ok (.invokevirtual 205, 3) := by decide +kernel
theorem dL_state_763 : decode cL_state 763 = .ok (.aload_n 1, 1) := by decide +kernel
theorem dL_state_764 : decode cL_state 764 = .ok (.getfield 208, 3) := by decide +kernel
theorem dL_state_767 : decode cL_state 767 = .ok (.iload 6, 2) := by decide +kernel
theorem dL_state_769 : decode cL_state 769 = .ok (.iaload, 1) := by decide +kernel
theorem dL_state_770 : decode cL_state 770 = .ok (.if_icmp .eq 5, 3) := by decide +kernel
theorem dL_state_773 : decode cL_state 773 = .ok (.iconst 0, 1) := by decide +kernel
theorem dL_state_774 : decode cL_state 774 = .ok (.ireturn, 1) := by decide +kernel
theorem dL_state_775 : decode cL_state 775 = .ok (.iinc 6 1, 3) := by decide +kernel
theorem dL_state_778 : decode cL_state 778 = .ok (.goto (-28), 3) := by decide +kernel
theorem dL_state_781 : decode cL_state 781 = .ok (.aload_n 0, 1) := by decide +kernel
theorem dL_state_782 : decode cL_state 782 = .ok (.invokevirtual 211, 3) := by decide +kernel
theorem dL_state_785 : decode cL_state 785 = .ok (.iload 4, 2) := by decide +kernel
theorem dL_state_787 : decode cL_state 787 = .ok (.if_icmp .ne 23, 3) := by decide +kernel
theorem dL_state_790 : decode cL_state 790 = .ok (.aload_n 0, 1) := by decide +kernel
theorem dL_state_791 : decode cL_state 791 = .ok (.invokevirtual 214, 3) := by decide +kernel
theorem dL_state_794 : decode cL_state 794 = .ok (.iload 5, 2) := by decide +kernel
theorem dL_state_796 : decode cL_state 796 = .ok (.if_icmp .ne 14, 3) := by decide +kernel
theorem dL_state_799 : decode cL_state 799 = .ok (.aload_n 0, 1) := by decide +kernel
theorem dL_state_800 : decode cL_state 800 = .ok (.invokevirtual 217, 3) := by decide +kernel
theorem dL_state_803 : decode cL_state 803 = .ok (.ifCond .eq 7, 3) := by decide +kernel
theorem dL_state_806 : decode cL_state 806 = .ok (.iconst 1, 1) := by decide +kernel
theorem dL_state_807 : decode cL_state 807 = .ok (.goto 4, 3) := by decide +kernel
theorem dL_state_810 : decode cL_state 810 = .ok (.iconst 0, 1) := by decide +kernel
theorem dL_state_811 : decode cL_state 811 = .ok (.ireturn, 1) := by decide +kernel
theorem dL_asks_0 : decode cL_asks 0 = .ok (.aload_n 2, 1) := by decide +kernel
theorem dL_asks_1 : decode cL_asks 1 = .ok (.bipush 9, 2) := by decide +kernel
theorem dL_asks_3 : decode cL_asks 3 = .ok (.invokestatic 94, 3) := by decide +kernel
theorem dL_asks_6 : decode cL_asks 6 = .ok (.istore_n 3, 1) := by decide +kernel
theorem dL_asks_7 : decode cL_asks 7 = .ok (.aload_n 2, 1) := by decide +kernel
theorem dL_asks_8 : decode cL_asks 8 = .ok (.aload_n 1, 1) := by decide +kernel
theorem dL_asks_9 : decode cL_asks 9 = .ok (.getfield 85, 3) := by decide +kernel
theorem dL_asks_12 : decode cL_asks 12 = .ok (.invokestatic 32, 3) := by decide +kernel
theorem dL_asks_15 : decode cL_asks 15 = .ok (.istore 4, 2) := by decide +kernel
theorem dL_asks_17 : decode cL_asks 17 = .ok (.aload_n 1, 1) := by decide +kernel
theorem dL_asks_18 : decode cL_asks 18 = .ok (.iload_n 3, 1) := by decide +kernel
theorem dL_asks_19 : decode cL_asks 19 = .ok (.iconst 1, 1) := by decide +kernel
theorem dL_asks_20 : decode cL_asks 20 = .ok (.iconst 0, 1) := by decide +kernel
theorem dL_asks_21 : decode cL_asks 21 = .ok (.invokevirtual 106, 3) := by decide +kernel
theorem dL_asks_24 : decode cL_asks 24 = .ok (.istore 5, 2) := by decide +kernel
theorem dL_asks_26 : decode cL_asks 26 = .ok (.iload 5, 2) := by decide +kernel
theorem dL_asks_28 : decode cL_asks 28 = .ok (.invokestatic 185, 3) := by decide +kernel
theorem dL_asks_31 : decode cL_asks 31 = .ok (.iconst 1, 1) := by decide +kernel
theorem dL_asks_32 : decode cL_asks 32 = .ok (.iadd, 1) := by decide +kernel
theorem dL_asks_33 : decode cL_asks 33 = .ok (.istore 6, 2) := by decide +kernel
theorem dL_asks_35 : decode cL_asks 35 = .ok (.aload_n 1, 1) := by decide +kernel
theorem dL_asks_36 : decode cL_asks 36 = .ok (.iload_n 3, 1) := by decide +kernel
theorem dL_asks_37 : decode cL_asks 37 = .ok (.iload 5, 2) := by decide +kernel
theorem dL_asks_39 : decode cL_asks 39 = .ok (.iconst 1, 1) := by decide +kernel
theorem dL_asks_40 : decode cL_asks 40 = .ok (.invokevirtual 221, 3) := by decide +kernel
theorem dL_asks_43 : decode cL_asks 43 = .ok (.istore 7, 2) := by decide +kernel
theorem dL_asks_45 : decode cL_asks 45 = .ok (.iconst 5, 1) := by decide +kernel
theorem dL_asks_46 : decode cL_asks 46 = .ok (.newarray .int, 2) := by decide +kernel
theorem dL_asks_48 : decode cL_asks 48 = .ok (.dup, 1) := by decide +kernel
theorem dL_asks_49 : decode cL_asks 49 = .ok (.iconst 0, 1) := by decide +kernel
theorem dL_asks_50 : decode cL_asks 50 = .ok (.iload 7, 2) := by decide +kernel
theorem dL_asks_52 : decode cL_asks 52 = .ok (.aload_n 1, 1) := by decide +kernel
theorem dL_asks_53 : decode cL_asks 53 = .ok (.getfield 68, 3) := by decide +kernel
theorem dL_asks_56 : decode cL_asks 56 = .ok (.iload 6, 2) := by decide +kernel
theorem dL_asks_58 : decode cL_asks 58 = .ok (.imul, 1) := by decide +kernel
theorem dL_asks_59 : decode cL_asks 59 = .ok (.iadd, 1) := by decide +kernel
theorem dL_asks_60 : decode cL_asks 60 = .ok (.iastore, 1) := by decide +kernel
theorem dL_asks_61 : decode cL_asks 61 = .ok (.dup, 1) := by decide +kernel
theorem dL_asks_62 : decode cL_asks 62 = .ok (.iconst 1, 1) := by decide +kernel
theorem dL_asks_63 : decode cL_asks 63 = .ok (.aload_n 1, 1) := by decide +kernel
theorem dL_asks_64 : decode cL_asks 64 = .ok (.getfield 68, 3) := by decide +kernel
theorem dL_asks_67 : decode cL_asks 67 = .ok (.iload 6, 2) := by decide +kernel
theorem dL_asks_69 : decode cL_asks 69 = .ok (.imul, 1) := by decide +kernel
theorem dL_asks_70 : decode cL_asks 70 = .ok (.iastore, 1) := by decide +kernel
theorem dL_asks_71 : decode cL_asks 71 = .ok (.dup, 1) := by decide +kernel
theorem dL_asks_72 : decode cL_asks 72 = .ok (.iconst 2, 1) := by decide +kernel
theorem dL_asks_73 : decode cL_asks 73 = .ok (.iload 7, 2) := by decide +kernel
theorem dL_asks_75 : decode cL_asks 75 = .ok (.iastore, 1) := by decide +kernel
theorem dL_asks_76 : decode cL_asks 76 = .ok (.dup, 1) := by decide +kernel
theorem dL_asks_77 : decode cL_asks 77 = .ok (.iconst 3, 1) := by decide +kernel
theorem dL_asks_78 : decode cL_asks 78 = .ok (.iload 6, 2) := by decide +kernel
theorem dL_asks_80 : decode cL_asks 80 = .ok (.iastore, 1) := by decide +kernel
theorem dL_asks_81 : decode cL_asks 81 = .ok (.dup, 1) := by decide +kernel
theorem dL_asks_82 : decode cL_asks 82 = .ok (.iconst 4, 1) := by decide +kernel
theorem dL_asks_83 : decode cL_asks 83 = .ok (.aload_n 1, 1) := by decide +kernel
theorem dL_asks_84 : decode cL_asks 84 = .ok (.iload_n 3, 1) := by decide +kernel
theorem dL_asks_85 : decode cL_asks 85 = .ok (.iload 5, 2) := by decide +kernel
theorem dL_asks_87 : decode cL_asks 87 = .ok (.iconst 0, 1) := by decide +kernel
theorem dL_asks_88 : decode cL_asks 88 = .ok (.invokevirtual 221, 3) := by decide +kernel
theorem dL_asks_91 : decode cL_asks 91 = .ok (.iastore, 1) := by decide +kernel
theorem dL_asks_92 : decode cL_asks 92 = .ok (.astore 8, 2) := by decide +kernel
theorem dL_asks_94 : decode cL_asks 94 = .ok (.aload_n 2, 1) := by decide +kernel
theorem dL_asks_95 : decode cL_asks 95 = .ok (.iconst 5, 1) := by decide +kernel
theorem dL_asks_96 : decode cL_asks 96 = .ok (.invokestatic 32, 3) := by decide +kernel
theorem dL_asks_99 : decode cL_asks 99 = .ok (.istore 9, 2) := by decide +kernel
theorem dL_asks_101 : decode cL_asks 101 = .ok (.aload_n 0, 1) := by decide +kernel
theorem dL_asks_102 : decode cL_asks 102 = .ok (.iload_n 3, 1) := by decide +kernel
theorem dL_asks_103 : decode cL_asks 103 = .ok (.invokestatic 225, 3) := by decide +kernel
theorem dL_asks_106 : decode cL_asks 106 = .ok (.ifCond .eq 43, 3) := by decide +kernel
theorem dL_asks_109 : decode cL_asks 109 = .ok (.aload_n 0, 1) := by decide +kernel
theorem dL_asks_110 : decode cL_asks 110 = .ok (.iload 9, 2) := by decide +kernel
theorem dL_asks_112 : decode cL_asks 112 = .ok (.invokevirtual 229, 3) := by decide +kernel
theorem dL_asks_115 : decode cL_asks 115 = .ok (.aload 8, 2) := by decide +kernel
theorem dL_asks_117 : decode cL_asks 117 = .ok (.iload 9, 2) := by decide +kernel
theorem dL_asks_119 : decode cL_asks 119 = .ok (.iaload, 1) := by decide +kernel
theorem dL_asks_120 : decode cL_asks 120 = .ok (.if_icmp .ne 29, 3) := by decide +kernel
theorem dL_asks_123 : decode cL_asks 123 = .ok (.aload_n 0, 1) := by decide +kernel
theorem dL_asks_124 : decode cL_asks 124 = .ok (.iload_n 3, 1) := by decide +kernel
theorem dL_asks_125 : decode cL_asks 125 = .ok (.invokestatic 225, 3) := by decide +kernel
theorem dL_asks_128 : decode cL_asks 128 = .ok (.ifCond .eq 21, 3) := by decide +kernel
theorem dL_asks_131 : decode cL_asks 131 = .ok (.aload_n 0, 1) := by decide +kernel
theorem dL_asks_132 : decode cL_asks 132 = .ok (.iload 4, 2) := by decide +kernel
theorem dL_asks_134 : decode cL_asks 134 = .ok (.invokevirtual 232, 3) := by decide +kernel
theorem dL_asks_137 : decode cL_asks 137 = .ok (.aload_n 1, 1) := by decide +kernel
theorem dL_asks_138 : decode cL_asks 138 = .ok (.iload 4, 2) := by decide +kernel
theorem dL_asks_140 : decode cL_asks 140 = .ok (.iload_n 3, 1) := by decide +kernel
theorem dL_asks_141 : decode cL_asks 141 = .ok (.iload 5, 2) := by decide +kernel
theorem dL_asks_143 : decode cL_asks 143 = .ok (.invokevirtual 110, 3) := by decide +kernel
theorem dL_asks_146 : decode cL_asks 146 = .ok (.if_icmp .eq 5, 3) := by decide +kernel
theorem dL_asks_149 : decode cL_asks 149 = .ok (.iconst 0, 1) := by decide +kernel
theorem dL_asks_150 : decode cL_asks 150 = .ok (.ireturn, 1) := by decide +kernel
theorem dL_asks_151 : decode cL_asks 151 = .ok (.iconst (-1), 1) := by decide +kernel
theorem dL_asks_152 : decode cL_asks 152 = .ok (.istore 10, 2) := by decide +kernel
theorem dL_asks_154 : decode cL_asks 154 = .ok (.aload_n 1, 1) := by decide +kernel
theorem dL_asks_155 : decode cL_asks 155 = .ok (.getfield 142, 3) := by decide +kernel
theorem dL_asks_158 : decode cL_asks 158 = .ok (.iconst 1, 1) := by decide +kernel
theorem dL_asks_159 : decode cL_asks 159 = .ok (.isub, 1) := by decide +kernel
theorem dL_asks_160 : decode cL_asks 160 = .ok (.istore 11, 2) := by decide +kernel
theorem dL_asks_162 : decode cL_asks 162 = .ok (.iload 11, 2) := by decide +kernel
theorem dL_asks_164 : decode cL_asks 164 = .ok (.ifCond .lt 24, 3) := by decide +kernel
theorem dL_asks_167 : decode cL_asks 167 = .ok (.aload_n 1, 1) := by decide +kernel
theorem dL_asks_168 : decode cL_asks 168 = .ok (.getfield 179, 3) := by decide +kernel
theorem dL_asks_171 : decode cL_asks 171 = .ok (.iload 11, 2) := by decide +kernel
theorem dL_asks_173 : decode cL_asks 173 = .ok (.iaload, 1) := by decide +kernel
theorem dL_asks_174 : decode cL_asks 174 = .ok (.iload_n 3, 1) := by decide +kernel
theorem dL_asks_175 : decode cL_asks 175 = .ok (.if_icmp .ne 7, 3) := by decide +kernel
theorem dL_asks_178 : decode cL_asks 178 = .ok (.iload 11, 2) := by decide +kernel
theorem dL_asks_180 : decode cL_asks 180 = .ok (.istore 10, 2) := by decide +kernel
theorem dL_asks_182 : decode cL_asks 182 = .ok (.iinc 11 (-1), 3) := by decide +kernel
theorem dL_asks_185 : decode cL_asks 185 = .ok (.goto (-23), 3) := by decide +kernel
theorem dL_asks_188 : decode cL_asks 188 = .ok (.aload_n 0, 1) := by decide +kernel
theorem dL_asks_189 : decode cL_asks 189 = .ok (.iload_n 3, 1) := by decide +kernel
theorem dL_asks_190 : decode cL_asks 190 = .ok (.invokestatic 225, 3) := by decide +kernel
theorem dL_asks_193 : decode cL_asks 193 = .ok (.ifCond .eq 34, 3) := by decide +kernel
theorem dL_asks_196 : decode cL_asks 196 = .ok (.aload_n 0, 1) := by decide +kernel
theorem dL_asks_197 : decode cL_asks 197 = .ok (.iconst 1, 1) := by decide +kernel
theorem dL_asks_198 : decode cL_asks 198 = .ok (.invokevirtual 235, 3) := by decide +kernel
theorem dL_asks_201 : decode cL_asks 201 = .ok (.aload_n 1, 1) := by decide +kernel
theorem dL_asks_202 : decode cL_asks 202 = .ok (.iload_n 3, 1) := by decide +kernel
theorem dL_asks_203 : decode cL_asks 203 = .ok (.invokevirtual 97, 3) := by decide +kernel
theorem dL_asks_206 : decode cL_asks 206 = .ok (.if_icmp .ne 21, 3) := by decide +kernel
theorem dL_asks_209 : decode cL_asks 209 = .ok (.aload_n 0, 1) := by decide +kernel
theorem dL_asks_210 : decode cL_asks 210 = .ok (.iload_n 3, 1) := by decide +kernel
theorem dL_asks_211 : decode cL_asks 211 = .ok (.invokestatic 225, 3) := by decide +kernel
theorem dL_asks_214 : decode cL_asks 214 = .ok (.ifCond .eq 13, 3) := by decide +kernel
theorem dL_asks_217 : decode cL_asks 217 = .ok (.aload_n 0, 1) := by decide +kernel
theorem dL_asks_218 : decode cL_asks 218 = .ok (.iconst 2, 1) := by decide +kernel
theorem dL_asks_219 : decode cL_asks 219 = .ok (.invokevirtual 235, 3) := by decide +kernel
theorem dL_asks_222 : decode cL_asks 222 = .ok (.iload 10, 2) := by decide +kernel
theorem dL_asks_224 : decode cL_asks 224 = .ok (.if_icmp .eq 5, 3) := by decide +kernel
theorem dL_asks_227 : decode cL_asks 227 = .ok (.iconst 0, 1) := by decide +kernel
theorem dL_asks_228 : decode cL_asks 228 = .ok (.ireturn, 1) := by decide +kernel
theorem dL_asks_229 : decode cL_asks 229 = .ok (.aload_n 1, 1) := by decide +kernel
theorem dL_asks_230 : decode cL_asks 230 = .ok (.getfield 142, 3) := by decide +kernel
theorem dL_asks_233 : decode cL_asks 233 = .ok (.ifCond .ne 5, 3) := by decide +kernel
theorem dL_asks_236 : decode cL_asks 236 = .ok (.iconst 1, 1) := by decide +kernel
theorem dL_asks_237 : decode cL_asks 237 = .ok (.ireturn, 1) := by decide +kernel
theorem dL_asks_238 : decode cL_asks 238 = .ok (.aload_n 2, 1) := by decide +kernel
theorem dL_asks_239 : decode cL_asks 239 = .ok (.aload_n 1, 1) := by decide +kernel
theorem dL_asks_240 : decode cL_asks 240 = .ok (.getfield 142, 3) := by decide +kernel
theorem dL_asks_243 : decode cL_asks 243 = .ok (.invokestatic 32, 3) := by decide +kernel
theorem dL_asks_246 : decode cL_asks 246 = .ok (.istore 11, 2) := by decide +kernel
theorem dL_asks_248 : decode cL_asks 248 = .ok (.aload_n 2, 1) := by decide +kernel
theorem dL_asks_249 : decode cL_asks 249 = .ok (.aload_n 1, 1) := by decide +kernel
theorem dL_asks_250 : decode cL_asks 250 = .ok (.getfield 142, 3) := by decide +kernel
theorem dL_asks_253 : decode cL_asks 253 = .ok (.invokestatic 32, 3) := by decide +kernel
theorem dL_asks_256 : decode cL_asks 256 = .ok (.istore 12, 2) := by decide +kernel
theorem dL_asks_258 : decode cL_asks 258 = .ok (.aload_n 1, 1) := by decide +kernel
theorem dL_asks_259 : decode cL_asks 259 = .ok (.iload 11, 2) := by decide +kernel
theorem dL_asks_261 : decode cL_asks 261 = .ok (.iconst 0, 1) := by decide +kernel
theorem dL_asks_262 : decode cL_asks 262 = .ok (.invokevirtual 236, 3) := by decide +kernel
theorem dL_asks_265 : decode cL_asks 265 = .ok (.istore 13, 2) := by decide +kernel
theorem dL_asks_267 : decode cL_asks 267 = .ok (.aload_n 0, 1) := by decide +kernel
theorem dL_asks_268 : decode cL_asks 268 = .ok (.iload 11, 2) := by decide +kernel
theorem dL_asks_270 : decode cL_asks 270 = .ok (.invokevirtual 239, 3) := by decide +kernel
theorem dL_asks_273 : decode cL_asks 273 = .ok (.aload_n 1, 1) := by decide +kernel
theorem dL_asks_274 : decode cL_asks 274 = .ok (.aload_n 1, 1) := by decide +kernel
theorem dL_asks_275 : decode cL_asks 275 = .ok (.getfield 179, 3) := by decide +kernel
theorem dL_asks_278 : decode cL_asks 278 = .ok (.iload 11, 2) := by decide +kernel
theorem dL_asks_280 : decode cL_asks 280 = .ok (.iaload, 1) := by decide +kernel
theorem dL_asks_281 : decode cL_asks 281 = .ok (.invokevirtual 242, 3) := by decide +kernel
theorem dL_asks_284 : decode cL_asks 284 = .ok (.if_icmp .ne 43, 3) := by decide +kernel
theorem dL_asks_287 : decode cL_asks 287 = .ok (.aload_n 0, 1) := by decide +kernel
theorem dL_asks_288 : decode cL_asks 288 = .ok (.iload 11, 2) := by decide +kernel
theorem dL_asks_290 : decode cL_asks 290 = .ok (.invokevirtual 243, 3) := by decide +kernel
theorem dL_asks_293 : decode cL_asks 293 = .ok (.iload 13, 2) := by decide +kernel
theorem dL_asks_295 : decode cL_asks 295 = .ok (.if_icmp .ne 32, 3) := by decide +kernel
theorem dL_asks_298 : decode cL_asks 298 = .ok (.aload_n 0, 1) := by decide +kernel
theorem dL_asks_299 : decode cL_asks 299 = .ok (.iload 11, 2) := by decide +kernel
theorem dL_asks_301 : decode cL_asks 301 = .ok (.invokevirtual 245, 3) := by decide +kernel
theorem dL_asks_304 : decode cL_asks 304 = .ok (.aload_n 1, 1) := by decide +kernel
theorem dL_asks_305 : decode cL_asks 305 = .ok (.getfield 68, 3) := by decide +kernel
theorem dL_asks_308 : decode cL_asks 308 = .ok (.aload_n 1, 1) := by decide +kernel
theorem dL_asks_309 : decode cL_asks 309 = .ok (.getfield 182, 3) := by decide +kernel
theorem dL_asks_312 : decode cL_asks 312 = .ok (.iload 11, 2) := by decide +kernel
theorem dL_asks_314 : decode cL_asks 314 = .ok (.iaload, 1) := by decide +kernel
theorem dL_asks_315 : decode cL_asks 315 = .ok (.invokestatic 185, 3) := by decide +kernel
theorem dL_asks_318 : decode cL_asks 318 = .ok (.iconst 1, 1) := by decide +kernel
theorem dL_asks_319 : decode cL_asks 319 = .ok (.iadd, 1) := by decide +kernel
theorem dL_asks_320 : decode cL_asks 320 = .ok (.iload 13, 2) := by decide +kernel
theorem dL_asks_322 : decode cL_asks 322 = .ok (.isub, 1) := by decide +kernel
theorem dL_asks_323 : decode cL_asks 323 = .ok (.imul, 1) := by decide +kernel
theorem dL_asks_324 : decode cL_asks 324 = .ok (.if_icmp .eq 5, 3) := by decide +kernel
theorem dL_asks_327 : decode cL_asks 327 = .ok (.iconst 0, 1) := by decide +kernel
theorem dL_asks_328 : decode cL_asks 328 = .ok (.ireturn, 1) := by decide +kernel
theorem dL_asks_329 : decode cL_asks 329 = .ok (.iconst 0, 1) := by decide +kernel
theorem dL_asks_330 : decode cL_asks 330 = .ok (.istore 14, 2) := by decide +kernel
theorem dL_asks_332 : decode cL_asks 332 = .ok (.iconst 0, 1) := by decide +kernel
theorem dL_asks_333 : decode cL_asks 333 = .ok (.istore 15, 2) := by decide +kernel
theorem dL_asks_335 : decode cL_asks 335 = .ok (.iload 15, 2) := by decide +kernel
theorem dL_asks_337 : decode cL_asks 337 = .ok (.aload_n 1, 1) := by decide +kernel
theorem dL_asks_338 : decode cL_asks 338 = .ok (.getfield 139, 3) := by decide +kernel
theorem dL_asks_341 : decode cL_asks 341 = .ok (.if_icmp .ge 44, 3) := by decide +kernel
theorem dL_asks_344 : decode cL_asks 344 = .ok (.aload_n 1, 1) := by decide +kernel
theorem dL_asks_345 : decode cL_asks 345 = .ok (.iload 11, 2) := by decide +kernel
theorem dL_asks_347 : decode cL_asks 347 = .ok (.aload_n 1, 1) := by decide +kernel
theorem dL_asks_348 : decode cL_asks 348 = .ok (.getfield 157, 3) := by decide +kernel
theorem dL_asks_351 : decode cL_asks 351 = .ok (.iload 15, 2) := by decide +kernel
theorem dL_asks_353 : decode cL_asks 353 = .ok (.iaload, 1) := by decide +kernel
theorem dL_asks_354 : decode cL_asks 354 = .ok (.invokestatic 248, 3) := by decide +kernel
theorem dL_asks_357 : decode cL_asks 357 = .ok (.ifCond .eq 22, 3) := by decide +kernel
theorem dL_asks_360 : decode cL_asks 360 = .ok (.aload_n 1, 1) := by decide +kernel
theorem dL_asks_361 : decode cL_asks 361 = .ok (.iload 12, 2) := by decide +kernel
theorem dL_asks_363 : decode cL_asks 363 = .ok (.aload_n 1, 1) := by decide +kernel
theorem dL_asks_364 : decode cL_asks 364 = .ok (.getfield 157, 3) := by decide +kernel
theorem dL_asks_367 : decode cL_asks 367 = .ok (.iload 15, 2) := by decide +kernel
theorem dL_asks_369 : decode cL_asks 369 = .ok (.iaload, 1) := by decide +kernel
theorem dL_asks_370 : decode cL_asks 370 = .ok (.invokestatic 248, 3) := by decide +kernel
theorem dL_asks_373 : decode cL_asks 373 = .ok (.ifCond .eq 6, 3) := by decide +kernel
theorem dL_asks_376 : decode cL_asks 376 = .ok (.iinc 14 1, 3) := by decide +kernel
theorem dL_asks_379 : decode cL_asks 379 = .ok (.iinc 15 1, 3) := by decide +kernel
theorem dL_asks_382 : decode cL_asks 382 = .ok (.goto (-47), 3) := by decide +kernel
theorem dL_asks_385 : decode cL_asks 385 = .ok (.aload_n 0, 1) := by decide +kernel
theorem dL_asks_386 : decode cL_asks 386 = .ok (.iload 11, 2) := by decide +kernel
theorem dL_asks_388 : decode cL_asks 388 = .ok (.iload 12, 2) := by decide +kernel
theorem dL_asks_390 : decode cL_asks 390 = .ok (.invokevirtual 252, 3) := by decide +kernel
theorem dL_asks_393 : decode cL_asks 393 = .ok (.iload 14, 2) := by decide +kernel
theorem dL_asks_395 : decode cL_asks 395 = .ok (.if_icmp .ne 25, 3) := by decide +kernel
theorem dL_asks_398 : decode cL_asks 398 = .ok (.aload_n 2, 1) := by decide +kernel
theorem dL_asks_399 : decode cL_asks 399 = .ok (.iconst 3, 1) := by decide +kernel
theorem dL_asks_400 : decode cL_asks 400 = .ok (.invokestatic 32, 3) := by decide +kernel
theorem dL_asks_403 : decode cL_asks 403 = .ok (.ifCond .gt 13, 3) := by decide +kernel
theorem dL_asks_406 : decode cL_asks 406 = .ok (.aload_n 0, 1) := by decide +kernel
theorem dL_asks_407 : decode cL_asks 407 = .ok (.aload_n 1, 1) := by decide +kernel
theorem dL_asks_408 : decode cL_asks 408 = .ok (.iload 11, 2) := by decide +kernel
theorem dL_asks_410 : decode cL_asks 410 = .ok (.invokestatic 255, 3) := by decide +kernel
theorem dL_asks_413 : decode cL_asks 413 = .ok (.ifCond .eq 7, 3) := by decide +kernel
theorem dL_asks_416 : decode cL_asks 416 = .ok (.iconst 1, 1) := by decide +kernel
theorem dL_asks_417 : decode cL_asks 417 = .ok (.goto 4, 3) := by decide +kernel
theorem dL_asks_420 : decode cL_asks 420 = .ok (.iconst 0, 1) := by decide +kernel
theorem dL_asks_421 : decode cL_asks 421 = .ok (.ireturn, 1) := by decide +kernel
theorem dL_has_0 : decode cL_has 0 = .ok (.iconst 0, 1) := by decide +kernel
theorem dL_has_1 : decode cL_has 1 = .ok (.istore_n 3, 1) := by decide +kernel
theorem dL_has_2 : decode cL_has 2 = .ok (.iload_n 3, 1) := by decide +kernel
theorem dL_has_3 : decode cL_has 3 = .ok (.aload_n 0, 1) := by decide +kernel
theorem dL_has_4 : decode cL_has 4 = .ok (.getfield 182, 3) := by decide +kernel
theorem dL_has_7 : decode cL_has 7 = .ok (.iload_n 1, 1) := by decide +kernel
theorem dL_has_8 : decode cL_has 8 = .ok (.iaload, 1) := by decide +kernel
theorem dL_has_9 : decode cL_has 9 = .ok (.invokestatic 185, 3) := by decide +kernel
theorem dL_has_12 : decode cL_has 12 = .ok (.if_icmp .gt 32, 3) := by decide +kernel
theorem dL_has_15 : decode cL_has 15 = .ok (.aload_n 0, 1) := by decide +kernel
theorem dL_has_16 : decode cL_has 16 = .ok (.aload_n 0, 1) := by decide +kernel
theorem dL_has_17 : decode cL_has 17 = .ok (.getfield 179, 3) := by decide +kernel
theorem dL_has_20 : decode cL_has 20 = .ok (.iload_n 1, 1) := by decide +kernel
theorem dL_has_21 : decode cL_has 21 = .ok (.iaload, 1) := by decide +kernel
theorem dL_has_22 : decode cL_has 22 = .ok (.aload_n 0, 1) := by decide +kernel
theorem dL_has_23 : decode cL_has 23 = .ok (.getfield 182, 3) := by decide +kernel
theorem dL_has_26 : decode cL_has 26 = .ok (.iload_n 1, 1) := by decide +kernel
theorem dL_has_27 : decode cL_has 27 = .ok (.iaload, 1) := by decide +kernel
theorem dL_has_28 : decode cL_has 28 = .ok (.iload_n 3, 1) := by decide +kernel
theorem dL_has_29 : decode cL_has 29 = .ok (.invokevirtual 201, 3) := by decide +kernel
theorem dL_has_32 : decode cL_has 32 = .ok (.iload_n 2, 1) := by decide +kernel
theorem dL_has_33 : decode cL_has 33 = .ok (.if_icmp .ne 5, 3) := by decide +kernel
theorem dL_has_36 : decode cL_has 36 = .ok (.iconst 1, 1) := by decide +kernel
theorem dL_has_37 : decode cL_has 37 = .ok (.ireturn, 1) := by decide +kernel
theorem dL_has_38 : decode cL_has 38 = .ok (.iinc 3 1, 3) := by decide +kernel
theorem dL_has_41 : decode cL_has 41 = .ok (.goto (-39), 3) := by decide +kernel
theorem dL_has_44 : decode cL_has 44 = .ok (.iconst 0, 1) := by decide +kernel
theorem dL_has_45 : decode cL_has 45 = .ok (.ireturn, 1) := by decide +kernel
theorem dL_sum_0 : decode cL_sum 0 = .ok (.iconst 0, 1) := by decide +kernel
theorem dL_sum_1 : decode cL_sum 1 = .ok (.istore_n 2, 1) := by decide +kernel
theorem dL_sum_2 : decode cL_sum 2 = .ok (.iconst 0, 1) := by decide +kernel
theorem dL_sum_3 : decode cL_sum 3 = .ok (.istore_n 3, 1) := by decide +kernel
theorem dL_sum_4 : decode cL_sum 4 = .ok (.iload_n 3, 1) := by decide +kernel
theorem dL_sum_5 : decode cL_sum 5 = .ok (.aload_n 0, 1) := by decide +kernel
theorem dL_sum_6 : decode cL_sum 6 = .ok (.getfield 142, 3) := by decide +kernel
theorem dL_sum_9 : decode cL_sum 9 = .ok (.if_icmp .ge 18, 3) := by decide +kernel
theorem dL_sum_12 : decode cL_sum 12 = .ok (.iload_n 2, 1) := by decide +kernel
theorem dL_sum_13 : decode cL_sum 13 = .ok (.aload_n 0, 1) := by decide +kernel
theorem dL_sum_14 : decode cL_sum 14 = .ok (.iload_n 3, 1) := by decide +kernel
theorem dL_sum_15 : decode cL_sum 15 = .ok (.iload_n 1, 1) := by decide +kernel
theorem dL_sum_16 : decode cL_sum 16 = .ok (.invokevirtual 236, 3) := by decide +kernel
theorem dL_sum_19 : decode cL_sum 19 = .ok (.iadd, 1) := by decide +kernel
theorem dL_sum_20 : decode cL_sum 20 = .ok (.istore_n 2, 1) := by decide +kernel
theorem dL_sum_21 : decode cL_sum 21 = .ok (.iinc 3 1, 3) := by decide +kernel
theorem dL_sum_24 : decode cL_sum 24 = .ok (.goto (-20), 3) := by decide +kernel
theorem dL_sum_27 : decode cL_sum 27 = .ok (.iload_n 2, 1) := by decide +kernel
theorem dL_sum_28 : decode cL_sum 28 = .ok (.ireturn, 1) := by decide +kernel
theorem dL_best_0 : decode cL_best 0 = .ok (.aload_n 1, 1) := by decide +kernel
theorem dL_best_1 : decode cL_best 1 = .ok (.getfield 179, 3) := by decide +kernel
theorem dL_best_4 : decode cL_best 4 = .ok (.iload_n 2, 1) := by decide +kernel
theorem dL_best_5 : decode cL_best 5 = .ok (.iaload, 1) := by decide +kernel
theorem dL_best_6 : decode cL_best 6 = .ok (.invokestatic 36, 3) := by decide +kernel
theorem dL_best_9 : decode cL_best 9 = .ok (.istore_n 3, 1) := by decide +kernel
theorem dL_best_10 : decode cL_best 10 = .ok (.aload_n 1, 1) := by decide +kernel
theorem dL_best_11 : decode cL_best 11 = .ok (.iconst 0, 1) := by decide +kernel
theorem dL_best_12 : decode cL_best 12 = .ok (.invokestatic 258, 3) := by decide +kernel
theorem dL_best_15 : decode cL_best 15 = .ok (.istore 4, 2) := by decide +kernel
theorem dL_best_17 : decode cL_best 17 = .ok (.iconst 3, 1) := by decide +kernel
theorem dL_best_18 : decode cL_best 18 = .ok (.newarray .int, 2) := by decide +kernel
theorem dL_best_20 : decode cL_best 20 = .ok (.dup, 1) := by decide +kernel
theorem dL_best_21 : decode cL_best 21 = .ok (.iconst 0, 1) := by decide +kernel
theorem dL_best_22 : decode cL_best 22 = .ok (.iconst (-1), 1) := by decide +kernel
theorem dL_best_23 : decode cL_best 23 = .ok (.iastore, 1) := by decide +kernel
theorem dL_best_24 : decode cL_best 24 = .ok (.dup, 1) := by decide +kernel
theorem dL_best_25 : decode cL_best 25 = .ok (.iconst 1, 1) := by decide +kernel
theorem dL_best_26 : decode cL_best 26 = .ok (.iconst 0, 1) := by decide +kernel
theorem dL_best_27 : decode cL_best 27 = .ok (.iastore, 1) := by decide +kernel
theorem dL_best_28 : decode cL_best 28 = .ok (.dup, 1) := by decide +kernel
theorem dL_best_29 : decode cL_best 29 = .ok (.iconst 2, 1) := by decide +kernel
theorem dL_best_30 : decode cL_best 30 = .ok (.iconst 0, 1) := by decide +kernel
theorem dL_best_31 : decode cL_best 31 = .ok (.iastore, 1) := by decide +kernel
theorem dL_best_32 : decode cL_best 32 = .ok (.astore 5, 2) := by decide +kernel
theorem dL_best_34 : decode cL_best 34 = .ok (.iconst 0, 1) := by decide +kernel
theorem dL_best_35 : decode cL_best 35 = .ok (.istore 6, 2) := by decide +kernel
theorem dL_best_37 : decode cL_best 37 = .ok (.iload 6, 2) := by decide +kernel
theorem dL_best_39 : decode cL_best 39 = .ok (.iload_n 3, 1) := by decide +kernel
theorem dL_best_40 : decode cL_best 40 = .ok (.if_icmp .ge 129, 3) := by decide +kernel
theorem dL_best_43 : decode cL_best 43 = .ok (.iconst 1, 1) := by decide +kernel
theorem dL_best_44 : decode cL_best 44 = .ok (.istore 7, 2) := by decide +kernel
theorem dL_best_46 : decode cL_best 46 = .ok (.iload 7, 2) := by decide +kernel
theorem dL_best_48 : decode cL_best 48 = .ok (.bipush 6, 2) := by decide +kernel
theorem dL_best_50 : decode cL_best 50 = .ok (.if_icmp .gt 113, 3) := by decide +kernel
theorem dL_best_53 : decode cL_best 53 = .ok (.iload 6, 2) := by decide +kernel
theorem dL_best_55 : decode cL_best 55 = .ok (.iload 7, 2) := by decide +kernel
theorem dL_best_57 : decode cL_best 57 = .ok (.iadd, 1) := by decide +kernel
theorem dL_best_58 : decode cL_best 58 = .ok (.iload_n 3, 1) := by decide +kernel
theorem dL_best_59 : decode cL_best 59 = .ok (.if_icmp .gt 104, 3) := by decide +kernel
theorem dL_best_62 : decode cL_best 62 = .ok (.aload_n 1, 1) := by decide +kernel
theorem dL_best_63 : decode cL_best 63 = .ok (.getfield 179, 3) := by decide +kernel
theorem dL_best_66 : decode cL_best 66 = .ok (.iload_n 2, 1) := by decide +kernel
theorem dL_best_67 : decode cL_best 67 = .ok (.iaload, 1) := by decide +kernel
theorem dL_best_68 : decode cL_best 68 = .ok (.iload 6, 2) := by decide +kernel
theorem dL_best_70 : decode cL_best 70 = .ok (.iload 6, 2) := by decide +kernel
theorem dL_best_72 : decode cL_best 72 = .ok (.iload 7, 2) := by decide +kernel
theorem dL_best_74 : decode cL_best 74 = .ok (.iadd, 1) := by decide +kernel
theorem dL_best_75 : decode cL_best 75 = .ok (.invokestatic 262, 3) := by decide +kernel
theorem dL_best_78 : decode cL_best 78 = .ok (.istore 8, 2) := by decide +kernel
theorem dL_best_80 : decode cL_best 80 = .ok (.aload_n 1, 1) := by decide +kernel
theorem dL_best_81 : decode cL_best 81 = .ok (.iload 8, 2) := by decide +kernel
theorem dL_best_83 : decode cL_best 83 = .ok (.invokevirtual 97, 3) := by decide +kernel
theorem dL_best_86 : decode cL_best 86 = .ok (.ifCond .lt 7, 3) := by decide +kernel
theorem dL_best_89 : decode cL_best 89 = .ok (.iconst 0, 1) := by decide +kernel
theorem dL_best_90 : decode cL_best 90 = .ok (.goto 12, 3) := by decide +kernel
theorem dL_best_93 : decode cL_best 93 = .ok (.iload 4, 2) := by decide +kernel
theorem dL_best_95 : decode cL_best 95 = .ok (.aload_n 1, 1) := by decide +kernel
theorem dL_best_96 : decode cL_best 96 = .ok (.iload 8, 2) := by decide +kernel
theorem dL_best_98 : decode cL_best 98 = .ok (.invokestatic 258, 3) := by decide +kernel
theorem dL_best_101 : decode cL_best 101 = .ok (.isub, 1) := by decide +kernel
theorem dL_best_102 : decode cL_best 102 = .ok (.istore 9, 2) := by decide +kernel
theorem dL_best_104 : decode cL_best 104 = .ok (.iload 9, 2) := by decide +kernel
theorem dL_best_106 : decode cL_best 106 = .ok (.ifCond .eq 51, 3) := by decide +kernel
theorem dL_best_109 : decode cL_best 109 = .ok (.iload 9, 2) := by decide +kernel
theorem dL_best_111 : decode cL_best 111 = .ok (.aload 5, 2) := by decide +kernel
theorem dL_best_113 : decode cL_best 113 = .ok (.iconst 2, 1) := by decide +kernel
theorem dL_best_114 : decode cL_best 114 = .ok (.iaload, 1) := by decide +kernel
theorem dL_best_115 : decode cL_best 115 = .ok (.if_icmp .lt 42, 3) := by decide +kernel
theorem dL_best_118 : decode cL_best 118 = .ok (.iload 9, 2) := by decide +kernel
theorem dL_best_120 : decode cL_best 120 = .ok (.aload 5, 2) := by decide +kernel
theorem dL_best_122 : decode cL_best 122 = .ok (.iconst 2, 1) := by decide +kernel
theorem dL_best_123 : decode cL_best 123 = .ok (.iaload, 1) := by decide +kernel
theorem dL_best_124 : decode cL_best 124 = .ok (.if_icmp .ne 15, 3) := by decide +kernel
theorem dL_best_127 : decode cL_best 127 = .ok (.iload 7, 2) := by decide +kernel
theorem dL_best_129 : decode cL_best 129 = .ok (.aload 5, 2) := by decide +kernel
theorem dL_best_131 : decode cL_best 131 = .ok (.iconst 1, 1) := by decide +kernel
theorem dL_best_132 : decode cL_best 132 = .ok (.iaload, 1) := by decide +kernel
theorem dL_best_133 : decode cL_best 133 = .ok (.if_icmp .lt 6, 3) := by decide +kernel
theorem dL_best_136 : decode cL_best 136 = .ok (.goto 21, 3) := by decide +kernel
theorem dL_best_139 : decode cL_best 139 = .ok (.aload 5, 2) := by decide +kernel
theorem dL_best_141 : decode cL_best 141 = .ok (.iconst 0, 1) := by decide +kernel
theorem dL_best_142 : decode cL_best 142 = .ok (.iload 6, 2) := by decide +kernel
theorem dL_best_144 : decode cL_best 144 = .ok (.iastore, 1) := by decide +kernel
theorem dL_best_145 : decode cL_best 145 = .ok (.aload 5, 2) := by decide +kernel
theorem dL_best_147 : decode cL_best 147 = .ok (.iconst 1, 1) := by decide +kernel
theorem dL_best_148 : decode cL_best 148 = .ok (.iload 7, 2) := by decide +kernel
theorem dL_best_150 : decode cL_best 150 = .ok (.iastore, 1) := by decide +kernel
theorem dL_best_151 : decode cL_best 151 = .ok (.aload 5, 2) := by decide +kernel
theorem dL_best_153 : decode cL_best 153 = .ok (.iconst 2, 1) := by decide +kernel
theorem dL_best_154 : decode cL_best 154 = .ok (.iload 9, 2) := by decide +kernel
theorem dL_best_156 : decode cL_best 156 = .ok (.iastore, 1) := by decide +kernel
theorem dL_best_157 : decode cL_best 157 = .ok (.iinc 7 1, 3) := by decide +kernel
theorem dL_best_160 : decode cL_best 160 = .ok (.goto (-114), 3) := by decide +kernel
theorem dL_best_163 : decode cL_best 163 = .ok (.iinc 6 1, 3) := by decide +kernel
theorem dL_best_166 : decode cL_best 166 = .ok (.goto (-129), 3) := by decide +kernel
theorem dL_best_169 : decode cL_best 169 = .ok (.iconst 0, 1) := by decide +kernel
theorem dL_best_170 : decode cL_best 170 = .ok (.istore 6, 2) := by decide +kernel
theorem dL_best_172 : decode cL_best 172 = .ok (.iload 6, 2) := by decide +kernel
theorem dL_best_174 : decode cL_best 174 = .ok (.iconst 3, 1) := by decide +kernel
theorem dL_best_175 : decode cL_best 175 = .ok (.if_icmp .ge 37, 3) := by decide +kernel
theorem dL_best_178 : decode cL_best 178 = .ok (.aload_n 0, 1) := by decide +kernel
theorem dL_best_179 : decode cL_best 179 = .ok (.iload_n 2, 1) := by decide +kernel
theorem dL_best_180 : decode cL_best 180 = .ok (.iload 6, 2) := by decide +kernel
theorem dL_best_182 : decode cL_best 182 = .ok (.invokevirtual 264, 3) := by decide +kernel
theorem dL_best_185 : decode cL_best 185 = .ok (.aload 5, 2) := by decide +kernel
theorem dL_best_187 : decode cL_best 187 = .ok (.iconst 0, 1) := by decide +kernel
theorem dL_best_188 : decode cL_best 188 = .ok (.iaload, 1) := by decide +kernel
theorem dL_best_189 : decode cL_best 189 = .ok (.ifCond .ge 7, 3) := by decide +kernel
theorem dL_best_192 : decode cL_best 192 = .ok (.iconst (-1), 1) := by decide +kernel
theorem dL_best_193 : decode cL_best 193 = .ok (.goto 8, 3) := by decide +kernel
theorem dL_best_196 : decode cL_best 196 = .ok (.aload 5, 2) := by decide +kernel
theorem dL_best_198 : decode cL_best 198 = .ok (.iload 6, 2) := by decide +kernel
theorem dL_best_200 : decode cL_best 200 = .ok (.iaload, 1) := by decide +kernel
theorem dL_best_201 : decode cL_best 201 = .ok (.if_icmp .eq 5, 3) := by decide +kernel
theorem dL_best_204 : decode cL_best 204 = .ok (.iconst 0, 1) := by decide +kernel
theorem dL_best_205 : decode cL_best 205 = .ok (.ireturn, 1) := by decide +kernel
theorem dL_best_206 : decode cL_best 206 = .ok (.iinc 6 1, 3) := by decide +kernel
theorem dL_best_209 : decode cL_best 209 = .ok (.goto (-37), 3) := by decide +kernel
theorem dL_best_212 : decode cL_best 212 = .ok (.iconst 1, 1) := by decide +kernel
theorem dL_best_213 : decode cL_best 213 = .ok (.ireturn, 1) := by decide +kernel
theorem dL_changes_0 : decode cL_changes 0 = .ok (.aload_n 2, 1) := by decide +kernel
theorem dL_changes_1 : decode cL_changes 1 = .ok (.aload_n 1, 1) := by decide +kernel
theorem dL_changes_2 : decode cL_changes 2 = .ok (.getfield 85, 3) := by decide +kernel
theorem dL_changes_5 : decode cL_changes 5 = .ok (.invokestatic 32, 3) := by decide +kernel
theorem dL_changes_8 : decode cL_changes 8 = .ok (.istore_n 3, 1) := by decide +kernel
theorem dL_changes_9 : decode cL_changes 9 = .ok (.aload_n 2, 1) := by decide +kernel
theorem dL_changes_10 : decode cL_changes 10 = .ok (.bipush 10, 2) := by decide +kernel
theorem dL_changes_12 : decode cL_changes 12 = .ok (.invokestatic 32, 3) := by decide +kernel
theorem dL_changes_15 : decode cL_changes 15 = .ok (.tableswitch 379 0 6 #[41, 81, 121, 168, 168, 247, 301], 41) := by decide +kernel
theorem dL_changes_56 : decode cL_changes 56 = .ok (.aload_n 1, 1) := by decide +kernel
theorem dL_changes_57 : decode cL_changes 57 = .ok (.getfield 142, 3) := by decide +kernel
theorem dL_changes_60 : decode cL_changes 60 = .ok (.ifCond .ne 5, 3) := by decide +kernel
theorem dL_changes_63 : decode cL_changes 63 = .ok (.iconst 1, 1) := by decide +kernel
theorem dL_changes_64 : decode cL_changes 64 = .ok (.ireturn, 1) := by decide +kernel
theorem dL_changes_65 : decode cL_changes 65 = .ok (.aload_n 2, 1) := by decide +kernel
theorem dL_changes_66 : decode cL_changes 66 = .ok (.aload_n 1, 1) := by decide +kernel
theorem dL_changes_67 : decode cL_changes 67 = .ok (.getfield 142, 3) := by decide +kernel
theorem dL_changes_70 : decode cL_changes 70 = .ok (.invokestatic 32, 3) := by decide +kernel
theorem dL_changes_73 : decode cL_changes 73 = .ok (.istore 4, 2) := by decide +kernel
theorem dL_changes_75 : decode cL_changes 75 = .ok (.aload_n 0, 1) := by decide +kernel
theorem dL_changes_76 : decode cL_changes 76 = .ok (.iload 4, 2) := by decide +kernel
theorem dL_changes_78 : decode cL_changes 78 = .ok (.invokevirtual 267, 3) := by decide +kernel
theorem dL_changes_81 : decode cL_changes 81 = .ok (.aload_n 1, 1) := by decide +kernel
theorem dL_changes_82 : decode cL_changes 82 = .ok (.iload 4, 2) := by decide +kernel
theorem dL_changes_84 : decode cL_changes 84 = .ok (.invokevirtual 270, 3) := by decide +kernel
theorem dL_changes_87 : decode cL_changes 87 = .ok (.if_icmp .ne 7, 3) := by decide +kernel
theorem dL_changes_90 : decode cL_changes 90 = .ok (.iconst 1, 1) := by decide +kernel
theorem dL_changes_91 : decode cL_changes 91 = .ok (.goto 4, 3) := by decide +kernel
theorem dL_changes_94 : decode cL_changes 94 = .ok (.iconst 0, 1) := by decide +kernel
theorem dL_changes_95 : decode cL_changes 95 = .ok (.ireturn, 1) := by decide +kernel
theorem dL_changes_96 : decode cL_changes 96 = .ok (.aload_n 1, 1) := by decide +kernel
theorem dL_changes_97 : decode cL_changes 97 = .ok (.getfield 142, 3) := by decide +kernel
theorem dL_changes_100 : decode cL_changes 100 = .ok (.ifCond .ne 5, 3) := by decide +kernel
theorem dL_changes_103 : decode cL_changes 103 = .ok (.iconst 1, 1) := by decide +kernel
theorem dL_changes_104 : decode cL_changes 104 = .ok (.ireturn, 1) := by decide +kernel
theorem dL_changes_105 : decode cL_changes 105 = .ok (.aload_n 2, 1) := by decide +kernel
theorem dL_changes_106 : decode cL_changes 106 = .ok (.aload_n 1, 1) := by decide +kernel
theorem dL_changes_107 : decode cL_changes 107 = .ok (.getfield 142, 3) := by decide +kernel
theorem dL_changes_110 : decode cL_changes 110 = .ok (.invokestatic 32, 3) := by decide +kernel
theorem dL_changes_113 : decode cL_changes 113 = .ok (.istore 4, 2) := by decide +kernel
theorem dL_changes_115 : decode cL_changes 115 = .ok (.aload_n 0, 1) := by decide +kernel
theorem dL_changes_116 : decode cL_changes 116 = .ok (.iload 4, 2) := by decide +kernel
theorem dL_changes_118 : decode cL_changes 118 = .ok (.invokevirtual 271, 3) := by decide +kernel
theorem dL_changes_121 : decode cL_changes 121 = .ok (.aload_n 1, 1) := by decide +kernel
theorem dL_changes_122 : decode cL_changes 122 = .ok (.iload 4, 2) := by decide +kernel
theorem dL_changes_124 : decode cL_changes 124 = .ok (.invokevirtual 274, 3) := by decide +kernel
theorem dL_changes_127 : decode cL_changes 127 = .ok (.if_icmp .ne 7, 3) := by decide +kernel
theorem dL_changes_130 : decode cL_changes 130 = .ok (.iconst 1, 1) := by decide +kernel
theorem dL_changes_131 : decode cL_changes 131 = .ok (.goto 4, 3) := by decide +kernel
theorem dL_changes_134 : decode cL_changes 134 = .ok (.iconst 0, 1) := by decide +kernel
theorem dL_changes_135 : decode cL_changes 135 = .ok (.ireturn, 1) := by decide +kernel
theorem dL_changes_136 : decode cL_changes 136 = .ok (.iconst 0, 1) := by decide +kernel
theorem dL_changes_137 : decode cL_changes 137 = .ok (.istore 4, 2) := by decide +kernel
theorem dL_changes_139 : decode cL_changes 139 = .ok (.iconst 0, 1) := by decide +kernel
theorem dL_changes_140 : decode cL_changes 140 = .ok (.istore 5, 2) := by decide +kernel
theorem dL_changes_142 : decode cL_changes 142 = .ok (.iload 5, 2) := by decide +kernel
theorem dL_changes_144 : decode cL_changes 144 = .ok (.aload_n 1, 1) := by decide +kernel
theorem dL_changes_145 : decode cL_changes 145 = .ok (.getfield 142, 3) := by decide +kernel
theorem dL_changes_148 : decode cL_changes 148 = .ok (.if_icmp .ge 20, 3) := by decide +kernel
theorem dL_changes_151 : decode cL_changes 151 = .ok (.iload 4, 2) := by decide +kernel
theorem dL_changes_153 : decode cL_changes 153 = .ok (.aload_n 1, 1) := by decide +kernel
theorem dL_changes_154 : decode cL_changes 154 = .ok (.iload 5, 2) := by decide +kernel
theorem dL_changes_156 : decode cL_changes 156 = .ok (.invokevirtual 274, 3) := by decide +kernel
theorem dL_changes_159 : decode cL_changes 159 = .ok (.iadd, 1) := by decide +kernel
theorem dL_changes_160 : decode cL_changes 160 = .ok (.istore 4, 2) := by decide +kernel
theorem dL_changes_162 : decode cL_changes 162 = .ok (.iinc 5 1, 3) := by decide +kernel
theorem dL_changes_165 : decode cL_changes 165 = .ok (.goto (-23), 3) := by decide +kernel
theorem dL_changes_168 : decode cL_changes 168 = .ok (.aload_n 0, 1) := by decide +kernel
theorem dL_changes_169 : decode cL_changes 169 = .ok (.invokevirtual 275, 3) := by decide +kernel
theorem dL_changes_172 : decode cL_changes 172 = .ok (.iload 4, 2) := by decide +kernel
theorem dL_changes_174 : decode cL_changes 174 = .ok (.if_icmp .ne 7, 3) := by decide +kernel
theorem dL_changes_177 : decode cL_changes 177 = .ok (.iconst 1, 1) := by decide +kernel
theorem dL_changes_178 : decode cL_changes 178 = .ok (.goto 4, 3) := by decide +kernel
theorem dL_changes_181 : decode cL_changes 181 = .ok (.iconst 0, 1) := by decide +kernel
theorem dL_changes_182 : decode cL_changes 182 = .ok (.ireturn, 1) := by decide +kernel
theorem dL_changes_183 : decode cL_changes 183 = .ok (.aload_n 2, 1) := by decide +kernel
theorem dL_changes_184 : decode cL_changes 184 = .ok (.bipush 6, 2) := by decide +kernel
theorem dL_changes_186 : decode cL_changes 186 = .ok (.invokestatic 94, 3) := by decide +kernel
theorem dL_changes_189 : decode cL_changes 189 = .ok (.istore 4, 2) := by decide +kernel
theorem dL_changes_191 : decode cL_changes 191 = .ok (.aload_n 1, 1) := by decide +kernel
theorem dL_changes_192 : decode cL_changes 192 = .ok (.iload 4, 2) := by decide +kernel
theorem dL_changes_194 : decode cL_changes 194 = .ok (.invokevirtual 97, 3) := by decide +kernel
theorem dL_changes_197 : decode cL_changes 197 = .ok (.ifCond .ge 27, 3) := by decide +kernel
theorem dL_changes_200 : decode cL_changes 200 = .ok (.aload_n 1, 1) := by decide +kernel
theorem dL_changes_201 : decode cL_changes 201 = .ok (.getfield 139, 3) := by decide +kernel
theorem dL_changes_204 : decode cL_changes 204 = .ok (.bipush 24, 2) := by decide +kernel
theorem dL_changes_206 : decode cL_changes 206 = .ok (.if_icmp .eq 18, 3) := by decide +kernel
theorem dL_changes_209 : decode cL_changes 209 = .ok (.aload_n 1, 1) := by decide +kernel
theorem dL_changes_210 : decode cL_changes 210 = .ok (.getfield 88, 3) := by decide +kernel
theorem dL_changes_213 : decode cL_changes 213 = .ok (.iload_n 3, 1) := by decide +kernel
theorem dL_changes_214 : decode cL_changes 214 = .ok (.iaload, 1) := by decide +kernel
theorem dL_changes_215 : decode cL_changes 215 = .ok (.aload_n 1, 1) := by decide +kernel
theorem dL_changes_216 : decode cL_changes 216 = .ok (.iload 4, 2) := by decide +kernel
theorem dL_changes_218 : decode cL_changes 218 = .ok (.invokevirtual 278, 3) := by decide +kernel
theorem dL_changes_221 : decode cL_changes 221 = .ok (.if_icmp .ge 5, 3) := by decide +kernel
theorem dL_changes_224 : decode cL_changes 224 = .ok (.iconst 1, 1) := by decide +kernel
theorem dL_changes_225 : decode cL_changes 225 = .ok (.ireturn, 1) := by decide +kernel
theorem dL_changes_226 : decode cL_changes 226 = .ok (.aload_n 1, 1) := by decide +kernel
theorem dL_changes_227 : decode cL_changes 227 = .ok (.iload 4, 2) := by decide +kernel
theorem dL_changes_229 : decode cL_changes 229 = .ok (.iload_n 3, 1) := by decide +kernel
theorem dL_changes_230 : decode cL_changes 230 = .ok (.invokevirtual 281, 3) := by decide +kernel
theorem dL_changes_233 : decode cL_changes 233 = .ok (.aload_n 0, 1) := by decide +kernel
theorem dL_changes_234 : decode cL_changes 234 = .ok (.iload 4, 2) := by decide +kernel
theorem dL_changes_236 : decode cL_changes 236 = .ok (.invokestatic 225, 3) := by decide +kernel
theorem dL_changes_239 : decode cL_changes 239 = .ok (.ifCond .eq 21, 3) := by decide +kernel
theorem dL_changes_242 : decode cL_changes 242 = .ok (.aload_n 0, 1) := by decide +kernel
theorem dL_changes_243 : decode cL_changes 243 = .ok (.iload_n 3, 1) := by decide +kernel
theorem dL_changes_244 : decode cL_changes 244 = .ok (.invokevirtual 284, 3) := by decide +kernel
theorem dL_changes_247 : decode cL_changes 247 = .ok (.aload_n 1, 1) := by decide +kernel
theorem dL_changes_248 : decode cL_changes 248 = .ok (.getfield 139, 3) := by decide +kernel
theorem dL_changes_251 : decode cL_changes 251 = .ok (.iconst 1, 1) := by decide +kernel
theorem dL_changes_252 : decode cL_changes 252 = .ok (.isub, 1) := by decide +kernel
theorem dL_changes_253 : decode cL_changes 253 = .ok (.if_icmp .ne 7, 3) := by decide +kernel
theorem dL_changes_256 : decode cL_changes 256 = .ok (.iconst 1, 1) := by decide +kernel
theorem dL_changes_257 : decode cL_changes 257 = .ok (.goto 4, 3) := by decide +kernel
theorem dL_changes_260 : decode cL_changes 260 = .ok (.iconst 0, 1) := by decide +kernel
theorem dL_changes_261 : decode cL_changes 261 = .ok (.ireturn, 1) := by decide +kernel
theorem dL_changes_262 : decode cL_changes 262 = .ok (.iconst 1, 1) := by decide +kernel
theorem dL_changes_263 : decode cL_changes 263 = .ok (.aload_n 2, 1) := by decide +kernel
theorem dL_changes_264 : decode cL_changes 264 = .ok (.iconst 4, 1) := by decide +kernel
theorem dL_changes_265 : decode cL_changes 265 = .ok (.invokestatic 32, 3) := by decide +kernel
theorem dL_changes_268 : decode cL_changes 268 = .ok (.iadd, 1) := by decide +kernel
theorem dL_changes_269 : decode cL_changes 269 = .ok (.istore 4, 2) := by decide +kernel
theorem dL_changes_271 : decode cL_changes 271 = .ok (.iconst 0, 1) := by decide +kernel
theorem dL_changes_272 : decode cL_changes 272 = .ok (.istore 5, 2) := by decide +kernel
theorem dL_changes_274 : decode cL_changes 274 = .ok (.iconst 0, 1) := by decide +kernel
theorem dL_changes_275 : decode cL_changes 275 = .ok (.istore 6, 2) := by decide +kernel
theorem dL_changes_277 : decode cL_changes 277 = .ok (.iload 6, 2) := by decide +kernel
theorem dL_changes_279 : decode cL_changes 279 = .ok (.iload 4, 2) := by decide +kernel
theorem dL_changes_281 : decode cL_changes 281 = .ok (.if_icmp .ge 18, 3) := by decide +kernel
theorem dL_changes_284 : decode cL_changes 284 = .ok (.iload 5, 2) := by decide +kernel
theorem dL_changes_286 : decode cL_changes 286 = .ok (.aload_n 1, 1) := by decide +kernel
theorem dL_changes_287 : decode cL_changes 287 = .ok (.invokevirtual 287, 3) := by decide +kernel
theorem dL_changes_290 : decode cL_changes 290 = .ok (.iadd, 1) := by decide +kernel
theorem dL_changes_291 : decode cL_changes 291 = .ok (.istore 5, 2) := by decide +kernel
theorem dL_changes_293 : decode cL_changes 293 = .ok (.iinc 6 1, 3) := by decide +kernel
theorem dL_changes_296 : decode cL_changes 296 = .ok (.goto (-19), 3) := by decide +kernel
theorem dL_changes_299 : decode cL_changes 299 = .ok (.aload_n 0, 1) := by decide +kernel
theorem dL_changes_300 : decode cL_changes 300 = .ok (.iload 4, 2) := by decide +kernel
theorem dL_changes_302 : decode cL_changes 302 = .ok (.invokevirtual 290, 3) := by decide +kernel
theorem dL_changes_305 : decode cL_changes 305 = .ok (.iload 5, 2) := by decide +kernel
theorem dL_changes_307 : decode cL_changes 307 = .ok (.if_icmp .ne 7, 3) := by decide +kernel
theorem dL_changes_310 : decode cL_changes 310 = .ok (.iconst 1, 1) := by decide +kernel
theorem dL_changes_311 : decode cL_changes 311 = .ok (.goto 4, 3) := by decide +kernel
theorem dL_changes_314 : decode cL_changes 314 = .ok (.iconst 0, 1) := by decide +kernel
theorem dL_changes_315 : decode cL_changes 315 = .ok (.ireturn, 1) := by decide +kernel
theorem dL_changes_316 : decode cL_changes 316 = .ok (.aload_n 2, 1) := by decide +kernel
theorem dL_changes_317 : decode cL_changes 317 = .ok (.aload_n 1, 1) := by decide +kernel
theorem dL_changes_318 : decode cL_changes 318 = .ok (.getfield 85, 3) := by decide +kernel
theorem dL_changes_321 : decode cL_changes 321 = .ok (.invokestatic 32, 3) := by decide +kernel
theorem dL_changes_324 : decode cL_changes 324 = .ok (.istore 4, 2) := by decide +kernel
theorem dL_changes_326 : decode cL_changes 326 = .ok (.aload_n 2, 1) := by decide +kernel
theorem dL_changes_327 : decode cL_changes 327 = .ok (.sipush 9999, 3) := by decide +kernel
theorem dL_changes_330 : decode cL_changes 330 = .ok (.aload_n 1, 1) := by decide +kernel
theorem dL_changes_331 : decode cL_changes 331 = .ok (.getfield 88, 3) := by decide +kernel
theorem dL_changes_334 : decode cL_changes 334 = .ok (.iload_n 3, 1) := by decide +kernel
theorem dL_changes_335 : decode cL_changes 335 = .ok (.iaload, 1) := by decide +kernel
theorem dL_changes_336 : decode cL_changes 336 = .ok (.invokestatic 292, 3) := by decide +kernel
theorem dL_changes_339 : decode cL_changes 339 = .ok (.iconst 1, 1) := by decide +kernel
theorem dL_changes_340 : decode cL_changes 340 = .ok (.iadd, 1) := by decide +kernel
theorem dL_changes_341 : decode cL_changes 341 = .ok (.invokestatic 32, 3) := by decide +kernel
theorem dL_changes_344 : decode cL_changes 344 = .ok (.istore 5, 2) := by decide +kernel
theorem dL_changes_346 : decode cL_changes 346 = .ok (.aload_n 1, 1) := by decide +kernel
theorem dL_changes_347 : decode cL_changes 347 = .ok (.getfield 88, 3) := by decide +kernel
theorem dL_changes_350 : decode cL_changes 350 = .ok (.iload_n 3, 1) := by decide +kernel
theorem dL_changes_351 : decode cL_changes 351 = .ok (.dup2, 1) := by decide +kernel
theorem dL_changes_352 : decode cL_changes 352 = .ok (.iaload, 1) := by decide +kernel
theorem dL_changes_353 : decode cL_changes 353 = .ok (.iload 5, 2) := by decide +kernel
theorem dL_changes_355 : decode cL_changes 355 = .ok (.isub, 1) := by decide +kernel
theorem dL_changes_356 : decode cL_changes 356 = .ok (.iastore, 1) := by decide +kernel
theorem dL_changes_357 : decode cL_changes 357 = .ok (.aload_n 1, 1) := by decide +kernel
theorem dL_changes_358 : decode cL_changes 358 = .ok (.getfield 88, 3) := by decide +kernel
theorem dL_changes_361 : decode cL_changes 361 = .ok (.iload 4, 2) := by decide +kernel
theorem dL_changes_363 : decode cL_changes 363 = .ok (.dup2, 1) := by decide +kernel
theorem dL_changes_364 : decode cL_changes 364 = .ok (.iaload, 1) := by decide +kernel
theorem dL_changes_365 : decode cL_changes 365 = .ok (.iload 5, 2) := by decide +kernel
theorem dL_changes_367 : decode cL_changes 367 = .ok (.iadd, 1) := by decide +kernel
theorem dL_changes_368 : decode cL_changes 368 = .ok (.iastore, 1) := by decide +kernel
theorem dL_changes_369 : decode cL_changes 369 = .ok (.aload_n 0, 1) := by decide +kernel
theorem dL_changes_370 : decode cL_changes 370 = .ok (.iload_n 3, 1) := by decide +kernel
theorem dL_changes_371 : decode cL_changes 371 = .ok (.iload 4, 2) := by decide +kernel
theorem dL_changes_373 : decode cL_changes 373 = .ok (.iload 5, 2) := by decide +kernel
theorem dL_changes_375 : decode cL_changes 375 = .ok (.invokevirtual 297, 3) := by decide +kernel
theorem dL_changes_378 : decode cL_changes 378 = .ok (.aload_n 1, 1) := by decide +kernel
theorem dL_changes_379 : decode cL_changes 379 = .ok (.getfield 88, 3) := by decide +kernel
theorem dL_changes_382 : decode cL_changes 382 = .ok (.iload 4, 2) := by decide +kernel
theorem dL_changes_384 : decode cL_changes 384 = .ok (.iaload, 1) := by decide +kernel
theorem dL_changes_385 : decode cL_changes 385 = .ok (.if_icmp .ne 7, 3) := by decide +kernel
theorem dL_changes_388 : decode cL_changes 388 = .ok (.iconst 1, 1) := by decide +kernel
theorem dL_changes_389 : decode cL_changes 389 = .ok (.goto 4, 3) := by decide +kernel
theorem dL_changes_392 : decode cL_changes 392 = .ok (.iconst 0, 1) := by decide +kernel
theorem dL_changes_393 : decode cL_changes 393 = .ok (.ireturn, 1) := by decide +kernel
theorem dL_changes_394 : decode cL_changes 394 = .ok (.aload_n 2, 1) := by decide +kernel
theorem dL_changes_395 : decode cL_changes 395 = .ok (.bipush 9, 2) := by decide +kernel
theorem dL_changes_397 : decode cL_changes 397 = .ok (.invokestatic 94, 3) := by decide +kernel
theorem dL_changes_400 : decode cL_changes 400 = .ok (.istore 4, 2) := by decide +kernel
theorem dL_changes_402 : decode cL_changes 402 = .ok (.aload_n 1, 1) := by decide +kernel
theorem dL_changes_403 : decode cL_changes 403 = .ok (.iload_n 3, 1) := by decide +kernel
theorem dL_changes_404 : decode cL_changes 404 = .ok (.iload 4, 2) := by decide +kernel
theorem dL_changes_406 : decode cL_changes 406 = .ok (.aload_n 1, 1) := by decide +kernel
theorem dL_changes_407 : decode cL_changes 407 = .ok (.iload 4, 2) := by decide +kernel
theorem dL_changes_409 : decode cL_changes 409 = .ok (.iconst 1, 1) := by decide +kernel
theorem dL_changes_410 : decode cL_changes 410 = .ok (.iconst 0, 1) := by decide +kernel
theorem dL_changes_411 : decode cL_changes 411 = .ok (.invokevirtual 106, 3) := by decide +kernel
theorem dL_changes_414 : decode cL_changes 414 = .ok (.invokevirtual 110, 3) := by decide +kernel
theorem dL_changes_417 : decode cL_changes 417 = .ok (.ifCond .eq 5, 3) := by decide +kernel
theorem dL_changes_420 : decode cL_changes 420 = .ok (.iconst 1, 1) := by decide +kernel
theorem dL_changes_421 : decode cL_changes 421 = .ok (.ireturn, 1) := by decide +kernel
theorem dL_changes_422 : decode cL_changes 422 = .ok (.aload_n 1, 1) := by decide +kernel
theorem dL_changes_423 : decode cL_changes 423 = .ok (.iload_n 3, 1) := by decide +kernel
theorem dL_changes_424 : decode cL_changes 424 = .ok (.iload 4, 2) := by decide +kernel
theorem dL_changes_426 : decode cL_changes 426 = .ok (.invokevirtual 114, 3) := by decide +kernel
theorem dL_changes_429 : decode cL_changes 429 = .ok (.aload_n 0, 1) := by decide +kernel
theorem dL_changes_430 : decode cL_changes 430 = .ok (.iload 4, 2) := by decide +kernel
theorem dL_changes_432 : decode cL_changes 432 = .ok (.invokestatic 225, 3) := by decide +kernel
theorem dL_changes_435 : decode cL_changes 435 = .ok (.ifCond .eq 21, 3) := by decide +kernel
theorem dL_changes_438 : decode cL_changes 438 = .ok (.aload_n 0, 1) := by decide +kernel
theorem dL_changes_439 : decode cL_changes 439 = .ok (.iload_n 3, 1) := by decide +kernel
theorem dL_changes_440 : decode cL_changes 440 = .ok (.invokevirtual 300, 3) := by decide +kernel
theorem dL_changes_443 : decode cL_changes 443 = .ok (.aload_n 1, 1) := by decide +kernel
theorem dL_changes_444 : decode cL_changes 444 = .ok (.getfield 142, 3) := by decide +kernel
theorem dL_changes_447 : decode cL_changes 447 = .ok (.iconst 1, 1) := by decide +kernel
theorem dL_changes_448 : decode cL_changes 448 = .ok (.isub, 1) := by decide +kernel
theorem dL_changes_449 : decode cL_changes 449 = .ok (.if_icmp .ne 7, 3) := by decide +kernel
theorem dL_changes_452 : decode cL_changes 452 = .ok (.iconst 1, 1) := by decide +kernel
theorem dL_changes_453 : decode cL_changes 453 = .ok (.goto 4, 3) := by decide +kernel
theorem dL_changes_456 : decode cL_changes 456 = .ok (.iconst 0, 1) := by decide +kernel
theorem dL_changes_457 : decode cL_changes 457 = .ok (.ireturn, 1) := by decide +kernel

