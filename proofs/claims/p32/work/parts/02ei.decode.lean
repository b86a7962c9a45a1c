theorem dL_law_858 : decode cL_law 858 = .ok (.iconst 4, 1) := by decide +kernel
theorem dL_law_859 : decode cL_law 859 = .ok (.ldc 123, 2) := by decide +kernel
theorem dL_law_861 : decode cL_law 861 = .ok (.invokevirtual 87, 3) := by decide +kernel
theorem dL_law_864 : decode cL_law 864 = .ok (.sipush (-1002), 3) := by decide +kernel
theorem dL_law_867 : decode cL_law 867 = .ok (.if_icmp .ne 77, 3) := by decide +kernel
theorem dL_law_870 : decode cL_law 870 = .ok (.aload_n 1, 1) := by decide +kernel
theorem dL_law_871 : decode cL_law 871 = .ok (.iconst 5, 1) := by decide +kernel
theorem dL_law_872 : decode cL_law 872 = .ok (.invokevirtual 91, 3) := by decide +kernel
theorem dL_law_875 : decode cL_law 875 = .ok (.sipush (-1001), 3) := by decide +kernel
theorem dL_law_878 : decode cL_law 878 = .ok (.if_icmp .ne 66, 3) := by decide +kernel
theorem dL_law_881 : decode cL_law 881 = .ok (.aload_n 1, 1) := by decide +kernel
theorem dL_law_882 : decode cL_law 882 = .ok (.bipush 101, 2) := by decide +kernel
theorem dL_law_884 : decode cL_law 884 = .ok (.invokevirtual 60, 3) := by decide +kernel
theorem dL_law_887 : decode cL_law 887 = .ok (.sipush (-1002), 3) := by decide +kernel
theorem dL_law_890 : decode cL_law 890 = .ok (.if_icmp .ne 54, 3) := by decide +kernel
theorem dL_law_893 : decode cL_law 893 = .ok (.aload_n 1, 1) := by decide +kernel
theorem dL_law_894 : decode cL_law 894 = .ok (.bipush 12, 2) := by decide +kernel
theorem dL_law_896 : decode cL_law 896 = .ok (.invokevirtual 8, 3) := by decide +kernel
theorem dL_law_899 : decode cL_law 899 = .ok (.sipush (-1002), 3) := by decide +kernel
theorem dL_law_902 : decode cL_law 902 = .ok (.if_icmp .ne 42, 3) := by decide +kernel
theorem dL_law_905 : decode cL_law 905 = .ok (.aload_n 1, 1) := by decide +kernel
theorem dL_law_906 : decode cL_law 906 = .ok (.bipush 20, 2) := by decide +kernel
theorem dL_law_908 : decode cL_law 908 = .ok (.invokevirtual 21, 3) := by decide +kernel
theorem dL_law_911 : decode cL_law 911 = .ok (.sipush (-1001), 3) := by decide +kernel
theorem dL_law_914 : decode cL_law 914 = .ok (.if_icmp .ne 30, 3) := by decide +kernel
theorem dL_law_917 : decode cL_law 917 = .ok (.aload_n 1, 1) := by decide +kernel
theorem dL_law_918 : decode cL_law 918 = .ok (.sipush 201, 3) := by decide +kernel
theorem dL_law_921 : decode cL_law 921 = .ok (.invokevirtual 105, 3) := by decide +kernel
theorem dL_law_924 : decode cL_law 924 = .ok (.sipush (-1002), 3) := by decide +kernel
theorem dL_law_927 : decode cL_law 927 = .ok (.if_icmp .ne 17, 3) := by decide +kernel
theorem dL_law_930 : decode cL_law 930 = .ok (.aload_n 1, 1) := by decide +kernel
theorem dL_law_931 : decode cL_law 931 = .ok (.invokevirtual 49, 3) := by decide +kernel
theorem dL_law_934 : decode cL_law 934 = .ok (.lload 16, 2) := by decide +kernel
theorem dL_law_936 : decode cL_law 936 = .ok (.lcmp, 1) := by decide +kernel
theorem dL_law_937 : decode cL_law 937 = .ok (.ifCond .ne 7, 3) := by decide +kernel
theorem dL_law_940 : decode cL_law 940 = .ok (.iconst 1, 1) := by decide +kernel
theorem dL_law_941 : decode cL_law 941 = .ok (.goto 4, 3) := by decide +kernel
theorem dL_law_944 : decode cL_law 944 = .ok (.iconst 0, 1) := by decide +kernel
theorem dL_law_945 : decode cL_law 945 = .ok (.ireturn, 1) := by decide +kernel
