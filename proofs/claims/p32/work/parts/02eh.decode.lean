theorem dL_law_728 : decode cL_law 728 = .ok (.invokevirtual 53, 3) := by decide +kernel
theorem dL_law_731 : decode cL_law 731 = .ok (.iload 15, 2) := by decide +kernel
theorem dL_law_733 : decode cL_law 733 = .ok (.if_icmp .ne 13, 3) := by decide +kernel
theorem dL_law_736 : decode cL_law 736 = .ok (.aload_n 1, 1) := by decide +kernel
theorem dL_law_737 : decode cL_law 737 = .ok (.iconst 4, 1) := by decide +kernel
theorem dL_law_738 : decode cL_law 738 = .ok (.invokevirtual 8, 3) := by decide +kernel
theorem dL_law_741 : decode cL_law 741 = .ok (.iload 13, 2) := by decide +kernel
theorem dL_law_743 : decode cL_law 743 = .ok (.if_icmp .lt 13, 3) := by decide +kernel
theorem dL_law_746 : decode cL_law 746 = .ok (.aload_n 1, 1) := by decide +kernel
theorem dL_law_747 : decode cL_law 747 = .ok (.iload 14, 2) := by decide +kernel
theorem dL_law_749 : decode cL_law 749 = .ok (.invokevirtual 94, 3) := by decide +kernel
theorem dL_law_752 : decode cL_law 752 = .ok (.iconst 1, 1) := by decide +kernel
theorem dL_law_753 : decode cL_law 753 = .ok (.if_icmp .ge 5, 3) := by decide +kernel
theorem dL_law_756 : decode cL_law 756 = .ok (.iconst 0, 1) := by decide +kernel
theorem dL_law_757 : decode cL_law 757 = .ok (.ireturn, 1) := by decide +kernel
theorem dL_law_758 : decode cL_law 758 = .ok (.aload_n 1, 1) := by decide +kernel
theorem dL_law_759 : decode cL_law 759 = .ok (.invokevirtual 49, 3) := by decide +kernel
theorem dL_law_762 : decode cL_law 762 = .ok (.lstore 16, 2) := by decide +kernel
theorem dL_law_764 : decode cL_law 764 = .ok (.aload_n 1, 1) := by decide +kernel
theorem dL_law_765 : decode cL_law 765 = .ok (.iconst 0, 1) := by decide +kernel
theorem dL_law_766 : decode cL_law 766 = .ok (.invokevirtual 69, 3) := by decide +kernel
theorem dL_law_769 : decode cL_law 769 = .ok (.sipush (-1002), 3) := by decide +kernel
theorem dL_law_772 : decode cL_law 772 = .ok (.if_icmp .ne 172, 3) := by decide +kernel
theorem dL_law_775 : decode cL_law 775 = .ok (.aload_n 1, 1) := by decide +kernel
theorem dL_law_776 : decode cL_law 776 = .ok (.bipush 10, 2) := by decide +kernel
theorem dL_law_778 : decode cL_law 778 = .ok (.iconst 0, 1) := by decide +kernel
theorem dL_law_779 : decode cL_law 779 = .ok (.invokevirtual 72, 3) := by decide +kernel
theorem dL_law_782 : decode cL_law 782 = .ok (.sipush (-1001), 3) := by decide +kernel
theorem dL_law_785 : decode cL_law 785 = .ok (.if_icmp .ne 159, 3) := by decide +kernel
theorem dL_law_788 : decode cL_law 788 = .ok (.aload_n 1, 1) := by decide +kernel
theorem dL_law_789 : decode cL_law 789 = .ok (.iconst 0, 1) := by decide +kernel
theorem dL_law_790 : decode cL_law 790 = .ok (.iconst 0, 1) := by decide +kernel
theorem dL_law_791 : decode cL_law 791 = .ok (.iconst 1, 1) := by decide +kernel
theorem dL_law_792 : decode cL_law 792 = .ok (.invokevirtual 75, 3) := by decide +kernel
theorem dL_law_795 : decode cL_law 795 = .ok (.sipush (-1003), 3) := by decide +kernel
theorem dL_law_798 : decode cL_law 798 = .ok (.if_icmp .ne 146, 3) := by decide +kernel
theorem dL_law_801 : decode cL_law 801 = .ok (.aload_n 1, 1) := by decide +kernel
theorem dL_law_802 : decode cL_law 802 = .ok (.iconst 0, 1) := by decide +kernel
theorem dL_law_803 : decode cL_law 803 = .ok (.iconst 1, 1) := by decide +kernel
theorem dL_law_804 : decode cL_law 804 = .ok (.bipush 21, 2) := by decide +kernel
theorem dL_law_806 : decode cL_law 806 = .ok (.invokevirtual 75, 3) := by decide +kernel
theorem dL_law_809 : decode cL_law 809 = .ok (.sipush (-1002), 3) := by decide +kernel
theorem dL_law_812 : decode cL_law 812 = .ok (.if_icmp .ne 132, 3) := by decide +kernel
theorem dL_law_815 : decode cL_law 815 = .ok (.aload_n 1, 1) := by decide +kernel
theorem dL_law_816 : decode cL_law 816 = .ok (.bipush 20, 2) := by decide +kernel
theorem dL_law_818 : decode cL_law 818 = .ok (.invokevirtual 78, 3) := by decide +kernel
theorem dL_law_821 : decode cL_law 821 = .ok (.sipush (-1001), 3) := by decide +kernel
theorem dL_law_824 : decode cL_law 824 = .ok (.if_icmp .ne 120, 3) := by decide +kernel
theorem dL_law_827 : decode cL_law 827 = .ok (.aload_n 1, 1) := by decide +kernel
theorem dL_law_828 : decode cL_law 828 = .ok (.iconst 0, 1) := by decide +kernel
theorem dL_law_829 : decode cL_law 829 = .ok (.bipush 8, 2) := by decide +kernel
theorem dL_law_831 : decode cL_law 831 = .ok (.iconst 0, 1) := by decide +kernel
theorem dL_law_832 : decode cL_law 832 = .ok (.invokevirtual 81, 3) := by decide +kernel
theorem dL_law_835 : decode cL_law 835 = .ok (.sipush (-1002), 3) := by decide +kernel
theorem dL_law_838 : decode cL_law 838 = .ok (.if_icmp .ne 106, 3) := by decide +kernel
theorem dL_law_841 : decode cL_law 841 = .ok (.aload_n 1, 1) := by decide +kernel
theorem dL_law_842 : decode cL_law 842 = .ok (.bipush 6, 2) := by decide +kernel
theorem dL_law_844 : decode cL_law 844 = .ok (.iconst 0, 1) := by decide +kernel
theorem dL_law_845 : decode cL_law 845 = .ok (.invokevirtual 84, 3) := by decide +kernel
theorem dL_law_848 : decode cL_law 848 = .ok (.sipush (-1001), 3) := by decide +kernel
theorem dL_law_851 : decode cL_law 851 = .ok (.if_icmp .ne 93, 3) := by decide +kernel
theorem dL_law_854 : decode cL_law 854 = .ok (.aload_n 1, 1) := by decide +kernel
theorem dL_law_855 : decode cL_law 855 = .ok (.iconst 0, 1) := by decide +kernel
theorem dL_law_856 : decode cL_law 856 = .ok (.iconst 0, 1) := by decide +kernel
theorem dL_law_857 : decode cL_law 857 = .ok (.iconst 5, 1) := by decide +kernel
