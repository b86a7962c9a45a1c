set_option maxRecDepth 20000 in
theorem gX2_explore_X5_at_n47 : GoodIn wsX2_explore (wsX5_at) := ggX2_explore_X5_at
set_option maxRecDepth 20000 in
theorem ggX2_explore_X5_put : GoodIn wsX2_explore wsX5_put := goodIn_r _ [9] (by decide +kernel) (by decide +kernel)
set_option maxRecDepth 20000 in
theorem gX2_explore_X5_put_n43 : GoodIn wsX2_explore (wsX5_put) := ggX2_explore_X5_put
set_option maxRecDepth 20000 in
theorem ggX2_explore_X2_findTimes : GoodIn wsX2_explore wsX2_findTimes := goodIn_r _ [14, 15, 3, 16, 8, 6, 9, 5, 7, 17, 18, 27, 28, 29, 30, 31] (by decide +kernel) (by decide +kernel)
set_option maxRecDepth 20000 in
theorem gX2_explore_X2_findTimes : GoodIn wsX2_explore (wsV RX2 64 RX2 yX2_findTimes wsX2_findTimes) := goodIn_app (goodIn_of _ (by decide +kernel)) ggX2_explore_X2_findTimes
set_option maxRecDepth 20000 in
theorem ggX2_explore_X2_findNodeBefore : GoodIn wsX2_explore wsX2_findNodeBefore := goodIn_r _ [22, 16, 15, 5, 6, 7, 27, 28, 29, 30, 31] (by decide +kernel) (by decide +kernel)
set_option maxRecDepth 20000 in
theorem gX2_explore_X2_findNodeBefore : GoodIn wsX2_explore (wsV RX2 68 RX2 yX2_findNodeBefore wsX2_findNodeBefore) := goodIn_app (goodIn_of _ (by decide +kernel)) ggX2_explore_X2_findNodeBefore
set_option maxRecDepth 20000 in
theorem ggX2_explore_X2_timeOf : GoodIn wsX2_explore wsX2_timeOf := goodIn_r _ [26, 15, 5, 6, 7, 27, 28, 29, 30, 31] (by decide +kernel) (by decide +kernel)
set_option maxRecDepth 20000 in
theorem gX2_explore_X2_timeOf : GoodIn wsX2_explore (wsV RX2 71 RX2 yX2_timeOf wsX2_timeOf) := goodIn_app (goodIn_of _ (by decide +kernel)) ggX2_explore_X2_timeOf
theorem dX2_explore_0 : decode cX2_explore 0 = .ok (.aload_n 0, 1) := by decide +kernel
theorem dX2_explore_1 : decode cX2_explore 1 = .ok (.getfield 15, 3) := by decide +kernel
theorem dX2_explore_4 : decode cX2_explore 4 = .ok (.iload_n 1, 1) := by decide +kernel
theorem dX2_explore_5 : decode cX2_explore 5 = .ok (.invokestatic 47, 3) := by decide +kernel
theorem dX2_explore_8 : decode cX2_explore 8 = .ok (.iload_n 2, 1) := by decide +kernel
theorem dX2_explore_9 : decode cX2_explore 9 = .ok (.if_icmp .ne 4, 3) := by decide +kernel
theorem dX2_explore_12 : decode cX2_explore 12 = .ok (.return_, 1) := by decide +kernel
theorem dX2_explore_13 : decode cX2_explore 13 = .ok (.aload_n 0, 1) := by decide +kernel
theorem dX2_explore_14 : decode cX2_explore 14 = .ok (.getfield 15, 3) := by decide +kernel
theorem dX2_explore_17 : decode cX2_explore 17 = .ok (.iload_n 1, 1) := by decide +kernel
theorem dX2_explore_18 : decode cX2_explore 18 = .ok (.iload_n 2, 1) := by decide +kernel
theorem dX2_explore_19 : decode cX2_explore 19 = .ok (.invokestatic 43, 3) := by decide +kernel
theorem dX2_explore_22 : decode cX2_explore 22 = .ok (.aload_n 0, 1) := by decide +kernel
theorem dX2_explore_23 : decode cX2_explore 23 = .ok (.iload_n 1, 1) := by decide +kernel
theorem dX2_explore_24 : decode cX2_explore 24 = .ok (.iload_n 2, 1) := by decide +kernel
theorem dX2_explore_25 : decode cX2_explore 25 = .ok (.invokevirtual 64, 3) := by decide +kernel
theorem dX2_explore_28 : decode cX2_explore 28 = .ok (.iconst 0, 1) := by decide +kernel
theorem dX2_explore_29 : decode cX2_explore 29 = .ok (.istore_n 3, 1) := by decide +kernel
theorem dX2_explore_30 : decode cX2_explore 30 = .ok (.iconst 0, 1) := by decide +kernel
theorem dX2_explore_31 : decode cX2_explore 31 = .ok (.istore 4, 2) := by decide +kernel
theorem dX2_explore_33 : decode cX2_explore 33 = .ok (.iload 4, 2) := by decide +kernel
theorem dX2_explore_35 : decode cX2_explore 35 = .ok (.bipush 10, 2) := by decide +kernel
theorem dX2_explore_37 : decode cX2_explore 37 = .ok (.if_icmp .ge 49, 3) := by decide +kernel
theorem dX2_explore_40 : decode cX2_explore 40 = .ok (.aload_n 0, 1) := by decide +kernel
theorem dX2_explore_41 : decode cX2_explore 41 = .ok (.getfield 24, 3) := by decide +kernel
theorem dX2_explore_44 : decode cX2_explore 44 = .ok (.iload_n 1, 1) := by decide +kernel
theorem dX2_explore_45 : decode cX2_explore 45 = .ok (.bipush 10, 2) := by decide +kernel
theorem dX2_explore_47 : decode cX2_explore 47 = .ok (.imul, 1) := by decide +kernel
theorem dX2_explore_48 : decode cX2_explore 48 = .ok (.iload 4, 2) := by decide +kernel
theorem dX2_explore_50 : decode cX2_explore 50 = .ok (.iadd, 1) := by decide +kernel
theorem dX2_explore_51 : decode cX2_explore 51 = .ok (.aload_n 0, 1) := by decide +kernel
theorem dX2_explore_52 : decode cX2_explore 52 = .ok (.iload_n 1, 1) := by decide +kernel
theorem dX2_explore_53 : decode cX2_explore 53 = .ok (.iload 4, 2) := by decide +kernel
theorem dX2_explore_55 : decode cX2_explore 55 = .ok (.invokevirtual 68, 3) := by decide +kernel
theorem dX2_explore_58 : decode cX2_explore 58 = .ok (.invokestatic 43, 3) := by decide +kernel
theorem dX2_explore_61 : decode cX2_explore 61 = .ok (.aload_n 0, 1) := by decide +kernel
theorem dX2_explore_62 : decode cX2_explore 62 = .ok (.iload_n 1, 1) := by decide +kernel
theorem dX2_explore_63 : decode cX2_explore 63 = .ok (.iload 4, 2) := by decide +kernel
theorem dX2_explore_65 : decode cX2_explore 65 = .ok (.invokevirtual 71, 3) := by decide +kernel
theorem dX2_explore_68 : decode cX2_explore 68 = .ok (.ldc 74, 2) := by decide +kernel
theorem dX2_explore_70 : decode cX2_explore 70 = .ok (.if_icmp .ge 10, 3) := by decide +kernel
theorem dX2_explore_73 : decode cX2_explore 73 = .ok (.iload_n 3, 1) := by decide +kernel
theorem dX2_explore_74 : decode cX2_explore 74 = .ok (.iconst 1, 1) := by decide +kernel
theorem dX2_explore_75 : decode cX2_explore 75 = .ok (.iload 4, 2) := by decide +kernel
theorem dX2_explore_77 : decode cX2_explore 77 = .ok (.ishl, 1) := by decide +kernel
theorem dX2_explore_78 : decode cX2_explore 78 = .ok (.ior, 1) := by decide +kernel
theorem dX2_explore_79 : decode cX2_explore 79 = .ok (.istore_n 3, 1) := by decide +kernel
theorem dX2_explore_80 : decode cX2_explore 80 = .ok (.iinc 4 1, 3) := by decide +kernel
theorem dX2_explore_83 : decode cX2_explore 83 = .ok (.goto (-50), 3) := by decide +kernel
theorem dX2_explore_86 : decode cX2_explore 86 = .ok (.aload_n 0, 1) := by decide +kernel
theorem dX2_explore_87 : decode cX2_explore 87 = .ok (.getfield 18, 3) := by decide +kernel
theorem dX2_explore_90 : decode cX2_explore 90 = .ok (.iload_n 1, 1) := by decide +kernel
theorem dX2_explore_91 : decode cX2_explore 91 = .ok (.iload_n 3, 1) := by decide +kernel
theorem dX2_explore_92 : decode cX2_explore 92 = .ok (.invokestatic 43, 3) := by decide +kernel
theorem dX2_explore_95 : decode cX2_explore 95 = .ok (.return_, 1) := by decide +kernel
set_option maxRecDepth 20000 in
theorem ggX2_findTimes_X5_put : GoodIn wsX2_findTimes wsX5_put := goodIn_r _ [6] (by decide +kernel) (by decide +kernel)
set_option maxRecDepth 20000 in
theorem gX2_findTimes_X5_put_n43 : GoodIn wsX2_findTimes (wsX5_put) := ggX2_findTimes_X5_put
set_option maxRecDepth 20000 in
theorem ggX2_findTimes_X5_at : GoodIn wsX2_findTimes wsX5_at := goodIn_r _ [8] (by decide +kernel) (by decide +kernel)
set_option maxRecDepth 20000 in
theorem gX2_findTimes_X5_at_n47 : GoodIn wsX2_findTimes (wsX5_at) := ggX2_findTimes_X5_at
set_option maxRecDepth 20000 in
theorem ggX2_findTimes_X5_holds : GoodIn wsX2_findTimes wsX5_holds := goodIn_r _ [10] (by decide +kernel) (by decide +kernel)
set_option maxRecDepth 20000 in
theorem gX2_findTimes_X5_holds_n57 : GoodIn wsX2_findTimes (wsX5_holds) := ggX2_findTimes_X5_holds
theorem dX2_findTimes_0 : decode cX2_findTimes 0 = .ok (.iload_n 1, 1) := by decide +kernel
theorem dX2_findTimes_1 : decode cX2_findTimes 1 = .ok (.bipush 10, 2) := by decide +kernel
theorem dX2_findTimes_3 : decode cX2_findTimes 3 = .ok (.imul, 1) := by decide +kernel
theorem dX2_findTimes_4 : decode cX2_findTimes 4 = .ok (.istore_n 3, 1) := by decide +kernel
theorem dX2_findTimes_5 : decode cX2_findTimes 5 = .ok (.iconst 0, 1) := by decide +kernel
theorem dX2_findTimes_6 : decode cX2_findTimes 6 = .ok (.istore 4, 2) := by decide +kernel
theorem dX2_findTimes_8 : decode cX2_findTimes 8 = .ok (.iload 4, 2) := by decide +kernel
theorem dX2_findTimes_10 : decode cX2_findTimes 10 = .ok (.bipush 10, 2) := by decide +kernel
theorem dX2_findTimes_12 : decode cX2_findTimes 12 = .ok (.if_icmp .ge 32, 3) := by decide +kernel
theorem dX2_findTimes_15 : decode cX2_findTimes 15 = .ok (.aload_n 0, 1) := by decide +kernel
theorem dX2_findTimes_16 : decode cX2_findTimes 16 = .ok (.getfield 21, 3) := by decide +kernel
theorem dX2_findTimes_19 : decode cX2_findTimes 19 = .ok (.iload_n 3, 1) := by decide +kernel
theorem dX2_findTimes_20 : decode cX2_findTimes 20 = .ok (.iload 4, 2) := by decide +kernel
theorem dX2_findTimes_22 : decode cX2_findTimes 22 = .ok (.iadd, 1) := by decide +kernel
theorem dX2_findTimes_23 : decode cX2_findTimes 23 = .ok (.iload 4, 2) := by decide +kernel
theorem dX2_findTimes_25 : decode cX2_findTimes 25 = .ok (.iload_n 1, 1) := by decide +kernel
theorem dX2_findTimes_26 : decode cX2_findTimes 26 = .ok (.if_icmp .ne 7, 3) := by decide +kernel
theorem dX2_findTimes_29 : decode cX2_findTimes 29 = .ok (.iconst 0, 1) := by decide +kernel
theorem dX2_findTimes_30 : decode cX2_findTimes 30 = .ok (.goto 5, 3) := by decide +kernel
theorem dX2_findTimes_33 : decode cX2_findTimes 33 = .ok (.ldc 74, 2) := by decide +kernel
theorem dX2_findTimes_35 : decode cX2_findTimes 35 = .ok (.invokestatic 43, 3) := by decide +kernel
theorem dX2_findTimes_38 : decode cX2_findTimes 38 = .ok (.iinc 4 1, 3) := by decide +kernel
theorem dX2_findTimes_41 : decode cX2_findTimes 41 = .ok (.goto (-33), 3) := by decide +kernel
theorem dX2_findTimes_44 : decode cX2_findTimes 44 = .ok (.iconst 1, 1) := by decide +kernel
theorem dX2_findTimes_45 : decode cX2_findTimes 45 = .ok (.istore 4, 2) := by decide +kernel
theorem dX2_findTimes_47 : decode cX2_findTimes 47 = .ok (.iload 4, 2) := by decide +kernel
theorem dX2_findTimes_49 : decode cX2_findTimes 49 = .ok (.bipush 10, 2) := by decide +kernel
theorem dX2_findTimes_51 : decode cX2_findTimes 51 = .ok (.if_icmp .ge 117, 3) := by decide +kernel
theorem dX2_findTimes_54 : decode cX2_findTimes 54 = .ok (.iconst 0, 1) := by decide +kernel
theorem dX2_findTimes_55 : decode cX2_findTimes 55 = .ok (.istore 5, 2) := by decide +kernel
theorem dX2_findTimes_57 : decode cX2_findTimes 57 = .ok (.iload 5, 2) := by decide +kernel
theorem dX2_findTimes_59 : decode cX2_findTimes 59 = .ok (.bipush 10, 2) := by decide +kernel
theorem dX2_findTimes_61 : decode cX2_findTimes 61 = .ok (.if_icmp .ge 101, 3) := by decide +kernel
theorem dX2_findTimes_64 : decode cX2_findTimes 64 = .ok (.iconst 0, 1) := by decide +kernel
theorem dX2_findTimes_65 : decode cX2_findTimes 65 = .ok (.istore 6, 2) := by decide +kernel
theorem dX2_findTimes_67 : decode cX2_findTimes 67 = .ok (.iload 6, 2) := by decide +kernel
theorem dX2_findTimes_69 : decode cX2_findTimes 69 = .ok (.bipush 10, 2) := by decide +kernel
theorem dX2_findTimes_71 : decode cX2_findTimes 71 = .ok (.if_icmp .ge 85, 3) := by decide +kernel
theorem dX2_findTimes_74 : decode cX2_findTimes 74 = .ok (.aload_n 0, 1) := by decide +kernel
theorem dX2_findTimes_75 : decode cX2_findTimes 75 = .ok (.getfield 9, 3) := by decide +kernel
theorem dX2_findTimes_78 : decode cX2_findTimes 78 = .ok (.iload 5, 2) := by decide +kernel
theorem dX2_findTimes_80 : decode cX2_findTimes 80 = .ok (.bipush 10, 2) := by decide +kernel
theorem dX2_findTimes_82 : decode cX2_findTimes 82 = .ok (.imul, 1) := by decide +kernel
theorem dX2_findTimes_83 : decode cX2_findTimes 83 = .ok (.iload 6, 2) := by decide +kernel
theorem dX2_findTimes_85 : decode cX2_findTimes 85 = .ok (.iadd, 1) := by decide +kernel
theorem dX2_findTimes_86 : decode cX2_findTimes 86 = .ok (.invokestatic 47, 3) := by decide +kernel
theorem dX2_findTimes_89 : decode cX2_findTimes 89 = .ok (.istore 7, 2) := by decide +kernel
theorem dX2_findTimes_91 : decode cX2_findTimes 91 = .ok (.aload_n 0, 1) := by decide +kernel
theorem dX2_findTimes_92 : decode cX2_findTimes 92 = .ok (.getfield 21, 3) := by decide +kernel
theorem dX2_findTimes_95 : decode cX2_findTimes 95 = .ok (.iload_n 3, 1) := by decide +kernel
theorem dX2_findTimes_96 : decode cX2_findTimes 96 = .ok (.iload 5, 2) := by decide +kernel
theorem dX2_findTimes_98 : decode cX2_findTimes 98 = .ok (.iadd, 1) := by decide +kernel
theorem dX2_findTimes_99 : decode cX2_findTimes 99 = .ok (.invokestatic 47, 3) := by decide +kernel
theorem dX2_findTimes_102 : decode cX2_findTimes 102 = .ok (.iload 7, 2) := by decide +kernel
theorem dX2_findTimes_104 : decode cX2_findTimes 104 = .ok (.iadd, 1) := by decide +kernel
theorem dX2_findTimes_105 : decode cX2_findTimes 105 = .ok (.istore 8, 2) := by decide +kernel
theorem dX2_findTimes_107 : decode cX2_findTimes 107 = .ok (.iload 7, 2) := by decide +kernel
theorem dX2_findTimes_109 : decode cX2_findTimes 109 = .ok (.ifCond .le 41, 3) := by decide +kernel
theorem dX2_findTimes_112 : decode cX2_findTimes 112 = .ok (.iload_n 2, 1) := by decide +kernel
theorem dX2_findTimes_113 : decode cX2_findTimes 113 = .ok (.iload 6, 2) := by decide +kernel
theorem dX2_findTimes_115 : decode cX2_findTimes 115 = .ok (.invokestatic 57, 3) := by decide +kernel
theorem dX2_findTimes_118 : decode cX2_findTimes 118 = .ok (.ifCond .eq 32, 3) := by decide +kernel
theorem dX2_findTimes_121 : decode cX2_findTimes 121 = .ok (.iload 8, 2) := by decide +kernel
theorem dX2_findTimes_123 : decode cX2_findTimes 123 = .ok (.aload_n 0, 1) := by decide +kernel
theorem dX2_findTimes_124 : decode cX2_findTimes 124 = .ok (.getfield 21, 3) := by decide +kernel
theorem dX2_findTimes_127 : decode cX2_findTimes 127 = .ok (.iload_n 3, 1) := by decide +kernel
theorem dX2_findTimes_128 : decode cX2_findTimes 128 = .ok (.iload 6, 2) := by decide +kernel
theorem dX2_findTimes_130 : decode cX2_findTimes 130 = .ok (.iadd, 1) := by decide +kernel
theorem dX2_findTimes_131 : decode cX2_findTimes 131 = .ok (.invokestatic 47, 3) := by decide +kernel
theorem dX2_findTimes_134 : decode cX2_findTimes 134 = .ok (.if_icmp .ge 16, 3) := by decide +kernel
theorem dX2_findTimes_137 : decode cX2_findTimes 137 = .ok (.aload_n 0, 1) := by decide +kernel
theorem dX2_findTimes_138 : decode cX2_findTimes 138 = .ok (.getfield 21, 3) := by decide +kernel
theorem dX2_findTimes_141 : decode cX2_findTimes 141 = .ok (.iload_n 3, 1) := by decide +kernel
theorem dX2_findTimes_142 : decode cX2_findTimes 142 = .ok (.iload 6, 2) := by decide +kernel
theorem dX2_findTimes_144 : decode cX2_findTimes 144 = .ok (.iadd, 1) := by decide +kernel
theorem dX2_findTimes_145 : decode cX2_findTimes 145 = .ok (.iload 8, 2) := by decide +kernel
theorem dX2_findTimes_147 : decode cX2_findTimes 147 = .ok (.invokestatic 43, 3) := by decide +kernel
theorem dX2_findTimes_150 : decode cX2_findTimes 150 = .ok (.iinc 6 1, 3) := by decide +kernel
theorem dX2_findTimes_153 : decode cX2_findTimes 153 = .ok (.goto (-86), 3) := by decide +kernel
theorem dX2_findTimes_156 : decode cX2_findTimes 156 = .ok (.iinc 5 1, 3) := by decide +kernel
theorem dX2_findTimes_159 : decode cX2_findTimes 159 = .ok (.goto (-102), 3) := by decide +kernel
theorem dX2_findTimes_162 : decode cX2_findTimes 162 = .ok (.iinc 4 1, 3) := by decide +kernel
theorem dX2_findTimes_165 : decode cX2_findTimes 165 = .ok (.goto (-118), 3) := by decide +kernel
theorem dX2_findTimes_168 : decode cX2_findTimes 168 = .ok (.return_, 1) := by decide +kernel
set_option maxRecDepth 20000 in
theorem ggX2_findNodeBefore_X5_at : GoodIn wsX2_findNodeBefore wsX5_at := goodIn_r _ [5] (by decide +kernel) (by decide +kernel)
set_option maxRecDepth 20000 in
theorem gX2_findNodeBefore_X5_at_n47 : GoodIn wsX2_findNodeBefore (wsX5_at) := ggX2_findNodeBefore_X5_at
theorem dX2_findNodeBefore_0 : decode cX2_findNodeBefore 0 = .ok (.iload_n 1, 1) := by decide +kernel
theorem dX2_findNodeBefore_1 : decode cX2_findNodeBefore 1 = .ok (.bipush 10, 2) := by decide +kernel
theorem dX2_findNodeBefore_3 : decode cX2_findNodeBefore 3 = .ok (.imul, 1) := by decide +kernel
theorem dX2_findNodeBefore_4 : decode cX2_findNodeBefore 4 = .ok (.istore_n 3, 1) := by decide +kernel
theorem dX2_findNodeBefore_5 : decode cX2_findNodeBefore 5 = .ok (.iconst 0, 1) := by decide +kernel
theorem dX2_findNodeBefore_6 : decode cX2_findNodeBefore 6 = .ok (.istore 4, 2) := by decide +kernel
theorem dX2_findNodeBefore_8 : decode cX2_findNodeBefore 8 = .ok (.iload 4, 2) := by decide +kernel
theorem dX2_findNodeBefore_10 : decode cX2_findNodeBefore 10 = .ok (.bipush 10, 2) := by decide +kernel
theorem dX2_findNodeBefore_12 : decode cX2_findNodeBefore 12 = .ok (.if_icmp .ge 60, 3) := by decide +kernel
theorem dX2_findNodeBefore_15 : decode cX2_findNodeBefore 15 = .ok (.aload_n 0, 1) := by decide +kernel
theorem dX2_findNodeBefore_16 : decode cX2_findNodeBefore 16 = .ok (.getfield 9, 3) := by decide +kernel
theorem dX2_findNodeBefore_19 : decode cX2_findNodeBefore 19 = .ok (.iload 4, 2) := by decide +kernel
theorem dX2_findNodeBefore_21 : decode cX2_findNodeBefore 21 = .ok (.bipush 10, 2) := by decide +kernel
theorem dX2_findNodeBefore_23 : decode cX2_findNodeBefore 23 = .ok (.imul, 1) := by decide +kernel
theorem dX2_findNodeBefore_24 : decode cX2_findNodeBefore 24 = .ok (.iload_n 2, 1) := by decide +kernel
theorem dX2_findNodeBefore_25 : decode cX2_findNodeBefore 25 = .ok (.iadd, 1) := by decide +kernel
theorem dX2_findNodeBefore_26 : decode cX2_findNodeBefore 26 = .ok (.invokestatic 47, 3) := by decide +kernel
theorem dX2_findNodeBefore_29 : decode cX2_findNodeBefore 29 = .ok (.istore 5, 2) := by decide +kernel
theorem dX2_findNodeBefore_31 : decode cX2_findNodeBefore 31 = .ok (.iload 5, 2) := by decide +kernel
theorem dX2_findNodeBefore_33 : decode cX2_findNodeBefore 33 = .ok (.ifCond .le 33, 3) := by decide +kernel
theorem dX2_findNodeBefore_36 : decode cX2_findNodeBefore 36 = .ok (.aload_n 0, 1) := by decide +kernel
theorem dX2_findNodeBefore_37 : decode cX2_findNodeBefore 37 = .ok (.getfield 21, 3) := by decide +kernel
theorem dX2_findNodeBefore_40 : decode cX2_findNodeBefore 40 = .ok (.iload_n 3, 1) := by decide +kernel
theorem dX2_findNodeBefore_41 : decode cX2_findNodeBefore 41 = .ok (.iload 4, 2) := by decide +kernel
theorem dX2_findNodeBefore_43 : decode cX2_findNodeBefore 43 = .ok (.iadd, 1) := by decide +kernel
theorem dX2_findNodeBefore_44 : decode cX2_findNodeBefore 44 = .ok (.invokestatic 47, 3) := by decide +kernel
theorem dX2_findNodeBefore_47 : decode cX2_findNodeBefore 47 = .ok (.iload 5, 2) := by decide +kernel
theorem dX2_findNodeBefore_49 : decode cX2_findNodeBefore 49 = .ok (.iadd, 1) := by decide +kernel
theorem dX2_findNodeBefore_50 : decode cX2_findNodeBefore 50 = .ok (.aload_n 0, 1) := by decide +kernel
theorem dX2_findNodeBefore_51 : decode cX2_findNodeBefore 51 = .ok (.getfield 21, 3) := by decide +kernel
theorem dX2_findNodeBefore_54 : decode cX2_findNodeBefore 54 = .ok (.iload_n 3, 1) := by decide +kernel
theorem dX2_findNodeBefore_55 : decode cX2_findNodeBefore 55 = .ok (.iload_n 2, 1) := by decide +kernel
theorem dX2_findNodeBefore_56 : decode cX2_findNodeBefore 56 = .ok (.iadd, 1) := by decide +kernel
theorem dX2_findNodeBefore_57 : decode cX2_findNodeBefore 57 = .ok (.invokestatic 47, 3) := by decide +kernel
theorem dX2_findNodeBefore_60 : decode cX2_findNodeBefore 60 = .ok (.if_icmp .ne 6, 3) := by decide +kernel
theorem dX2_findNodeBefore_63 : decode cX2_findNodeBefore 63 = .ok (.iload 4, 2) := by decide +kernel
theorem dX2_findNodeBefore_65 : decode cX2_findNodeBefore 65 = .ok (.ireturn, 1) := by decide +kernel
theorem dX2_findNodeBefore_66 : decode cX2_findNodeBefore 66 = .ok (.iinc 4 1, 3) := by decide +kernel
theorem dX2_findNodeBefore_69 : decode cX2_findNodeBefore 69 = .ok (.goto (-61), 3) := by decide +kernel
theorem dX2_findNodeBefore_72 : decode cX2_findNodeBefore 72 = .ok (.iconst (-1), 1) := by decide +kernel
theorem dX2_findNodeBefore_73 : decode cX2_findNodeBefore 73 = .ok (.ireturn, 1) := by decide +kernel
set_option maxRecDepth 20000 in
theorem ggX2_timeOf_X5_at : GoodIn wsX2_timeOf wsX5_at := goodIn_r _ [4] (by decide +kernel) (by decide +kernel)
set_option maxRecDepth 20000 in
theorem gX2_timeOf_X5_at_n47 : GoodIn wsX2_timeOf (wsX5_at) := ggX2_timeOf_X5_at
theorem dX2_timeOf_0 : decode cX2_timeOf 0 = .ok (.aload_n 0, 1) := by decide +kernel
theorem dX2_timeOf_1 : decode cX2_timeOf 1 = .ok (.getfield 21, 3) := by decide +kernel
theorem dX2_timeOf_4 : decode cX2_timeOf 4 = .ok (.iload_n 1, 1) := by decide +kernel
theorem dX2_timeOf_5 : decode cX2_timeOf 5 = .ok (.bipush 10, 2) := by decide +kernel
theorem dX2_timeOf_7 : decode cX2_timeOf 7 = .ok (.imul, 1) := by decide +kernel
theorem dX2_timeOf_8 : decode cX2_timeOf 8 = .ok (.iload_n 2, 1) := by decide +kernel
theorem dX2_timeOf_9 : decode cX2_timeOf 9 = .ok (.iadd, 1) := by decide +kernel
theorem dX2_timeOf_10 : decode cX2_timeOf 10 = .ok (.invokestatic 47, 3) := by decide +kernel
theorem dX2_timeOf_13 : decode cX2_timeOf 13 = .ok (.ireturn, 1) := by decide +kernel
set_option maxRecDepth 20000 in
theorem ggX2_reachedFrom_X5_at : GoodIn wsX2_reachedFrom wsX5_at := goodIn_r _ [4] (by decide +kernel) (by decide +kernel)
set_option maxRecDepth 20000 in
theorem gX2_reachedFrom_X5_at_n47 : GoodIn wsX2_reachedFrom (wsX5_at) := ggX2_reachedFrom_X5_at
theorem dX2_reachedFrom_0 : decode cX2_reachedFrom 0 = .ok (.aload_n 0, 1) := by decide +kernel
theorem dX2_reachedFrom_1 : decode cX2_reachedFrom 1 = .ok (.getfield 18, 3) := by decide +kernel
theorem dX2_reachedFrom_4 : decode cX2_reachedFrom 4 = .ok (.iload_n 1, 1) := by decide +kernel
theorem dX2_reachedFrom_5 : decode cX2_reachedFrom 5 = .ok (.invokestatic 47, 3) := by decide +kernel
theorem dX2_reachedFrom_8 : decode cX2_reachedFrom 8 = .ok (.ireturn, 1) := by decide +kernel
set_option maxRecDepth 20000 in
theorem ggX2_nodeBefore_X5_at : GoodIn wsX2_nodeBefore wsX5_at := goodIn_r _ [4] (by decide +kernel) (by decide +kernel)
set_option maxRecDepth 20000 in
theorem gX2_nodeBefore_X5_at_n47 : GoodIn wsX2_nodeBefore (wsX5_at) := ggX2_nodeBefore_X5_at
theorem dX2_nodeBefore_0 : decode cX2_nodeBefore 0 = .ok (.aload_n 0, 1) := by decide +kernel
theorem dX2_nodeBefore_1 : decode cX2_nodeBefore 1 = .ok (.getfield 24, 3) := by decide +kernel
theorem dX2_nodeBefore_4 : decode cX2_nodeBefore 4 = .ok (.iload_n 1, 1) := by decide +kernel
theorem dX2_nodeBefore_5 : decode cX2_nodeBefore 5 = .ok (.bipush 10, 2) := by decide +kernel
theorem dX2_nodeBefore_7 : decode cX2_nodeBefore 7 = .ok (.imul, 1) := by decide +kernel
theorem dX2_nodeBefore_8 : decode cX2_nodeBefore 8 = .ok (.iload_n 2, 1) := by decide +kernel
theorem dX2_nodeBefore_9 : decode cX2_nodeBefore 9 = .ok (.iadd, 1) := by decide +kernel
theorem dX2_nodeBefore_10 : decode cX2_nodeBefore 10 = .ok (.invokestatic 47, 3) := by decide +kernel
theorem dX2_nodeBefore_13 : decode cX2_nodeBefore 13 = .ok (.ireturn, 1) := by decide +kernel
set_option maxRecDepth 20000 in
theorem ggX3_init_X1_init : GoodIn wsX3_init wsX1_init := goodIn_r _ [17, 18, 2, 3, 12, 19, 20, 21, 22, 23, 24, 25, 26, 27, 28, 37, 38, 39, 40, 41, 42, 43] (by decide +kernel) (by decide +kernel)
set_option maxRecDepth 20000 in
theorem gX3_init_X1_init : GoodIn wsX3_init (wsX1_init) := ggX3_init_X1_init
set_option maxRecDepth 20000 in
theorem ggX3_init_X2_init : GoodIn wsX3_init wsX2_init := goodIn_r _ [30, 31, 2, 3, 12, 32, 33, 34, 35, 36, 48, 49, 50, 51, 52] (by decide +kernel) (by decide +kernel)
set_option maxRecDepth 20000 in
theorem gX3_init_X2_init_n20 : GoodIn wsX3_init (wsX2_init) := ggX3_init_X2_init
theorem dX3_init_0 : decode cX3_init 0 = .ok (.aload_n 0, 1) := by decide +kernel
theorem dX3_init_1 : decode cX3_init 1 = .ok (.invokespecial 3, 3) := by decide +kernel
theorem dX3_init_4 : decode cX3_init 4 = .ok (.aload_n 0, 1) := by decide +kernel
theorem dX3_init_5 : decode cX3_init 5 = .ok (.new 9, 3) := by decide +kernel
theorem dX3_init_8 : decode cX3_init 8 = .ok (.dup, 1) := by decide +kernel
theorem dX3_init_9 : decode cX3_init 9 = .ok (.invokespecial 11, 3) := by decide +kernel
theorem dX3_init_12 : decode cX3_init 12 = .ok (.putfield 12, 3) := by decide +kernel
theorem dX3_init_15 : decode cX3_init 15 = .ok (.aload_n 0, 1) := by decide +kernel
theorem dX3_init_16 : decode cX3_init 16 = .ok (.new 18, 3) := by decide +kernel
theorem dX3_init_19 : decode cX3_init 19 = .ok (.dup, 1) := by decide +kernel
theorem dX3_init_20 : decode cX3_init 20 = .ok (.invokespecial 20, 3) := by decide +kernel
theorem dX3_init_23 : decode cX3_init 23 = .ok (.putfield 21, 3) := by decide +kernel
theorem dX3_init_26 : decode cX3_init 26 = .ok (.aload_n 0, 1) := by decide +kernel
theorem dX3_init_27 : decode cX3_init 27 = .ok (.bipush 10, 2) := by decide +kernel
theorem dX3_init_29 : decode cX3_init 29 = .ok (.newarray .int, 2) := by decide +kernel
theorem dX3_init_31 : decode cX3_init 31 = .ok (.putfield 25, 3) := by decide +kernel
theorem dX3_init_34 : decode cX3_init 34 = .ok (.aload_n 0, 1) := by decide +kernel
theorem dX3_init_35 : decode cX3_init 35 = .ok (.bipush 60, 2) := by decide +kernel
theorem dX3_init_37 : decode cX3_init 37 = .ok (.newarray .int, 2) := by decide +kernel
theorem dX3_init_39 : decode cX3_init 39 = .ok (.putfield 29, 3) := by decide +kernel
theorem dX3_init_42 : decode cX3_init 42 = .ok (.return_, 1) := by decide +kernel
set_option maxRecDepth 20000 in
theorem ggX3_start_X1_copyFrom : GoodIn wsX3_start wsX1_copyFrom := goodIn_r _ [7, 8, 9, 10, 11, 12, 13, 14, 15, 16, 17, 18, 19, 20, 21, 22, 23, 24, 25, 64, 65, 66, 67, 68, 69, 70] (by decide +kernel) (by decide +kernel)
set_option maxRecDepth 20000 in
theorem gX3_start_X1_copyFrom : GoodIn wsX3_start (wsV RX3 32 RX1 yX1_copyFrom wsX1_copyFrom) := goodIn_app (goodIn_of _ (by decide +kernel)) ggX3_start_X1_copyFrom
set_option maxRecDepth 20000 in
theorem ggX3_start_X2_learn : GoodIn wsX3_start wsX2_learn := goodIn_r _ [30, 31, 32, 33, 34, 35, 36, 37, 38, 39, 6, 40, 8, 41, 42, 43, 44, 9, 45, 16, 46, 47, 48, 49, 50, 51, 52, 53, 54, 55, 56, 57, 10, 58, 59, 71, 72, 73, 74, 75, 64, 65, 66, 67, 68, 69, 70] (by decide +kernel) (by decide +kernel)
set_option maxRecDepth 20000 in
theorem gX3_start_X2_learn : GoodIn wsX3_start (wsV RX3 36 RX2 yX2_learn wsX2_learn) := goodIn_app (goodIn_of _ (by decide +kernel)) ggX3_start_X2_learn
theorem dX3_start_0 : decode cX3_start 0 = .ok (.aload_n 0, 1) := by decide +kernel
theorem dX3_start_1 : decode cX3_start 1 = .ok (.getfield 12, 3) := by decide +kernel
theorem dX3_start_4 : decode cX3_start 4 = .ok (.aload_n 1, 1) := by decide +kernel
theorem dX3_start_5 : decode cX3_start 5 = .ok (.invokevirtual 32, 3) := by decide +kernel
theorem dX3_start_8 : decode cX3_start 8 = .ok (.aload_n 0, 1) := by decide +kernel
theorem dX3_start_9 : decode cX3_start 9 = .ok (.getfield 21, 3) := by decide +kernel
theorem dX3_start_12 : decode cX3_start 12 = .ok (.aload_n 1, 1) := by decide +kernel
theorem dX3_start_13 : decode cX3_start 13 = .ok (.invokevirtual 36, 3) := by decide +kernel
theorem dX3_start_16 : decode cX3_start 16 = .ok (.return_, 1) := by decide +kernel
set_option maxRecDepth 20000 in
theorem ggX3_run_X1_endInterests : GoodIn wsX3_run wsX1_endInterests := goodIn_r _ [7, 8, 9, 10, 11, 12, 13, 14, 6, 15, 16, 17, 18, 19, 20, 21, 22, 23, 24, 25, 26, 27, 28, 29, 30, 31, 32, 33, 34, 35, 36, 191, 192, 193, 194, 195, 196, 197] (by decide +kernel) (by decide +kernel)
set_option maxRecDepth 20000 in
theorem gX3_run_X1_endInterests : GoodIn wsX3_run (wsV RX3 39 RX1 yX1_endInterests wsX1_endInterests) := goodIn_app (goodIn_of _ (by decide +kernel)) ggX3_run_X1_endInterests
set_option maxRecDepth 20000 in
theorem ggX3_run_J7_fill_53178 : GoodIn wsX3_run wsJ7_fill_53178 := goodIn_r _ [40] (by decide +kernel) (by decide +kernel)
set_option maxRecDepth 20000 in
theorem gX3_run_J7_fill_53178 : GoodIn wsX3_run (va_wsS RX3 42 yJ7_fill_53178 wsJ7_fill_53178) := goodIn_app (goodIn_of _ (by decide +kernel)) ggX3_run_J7_fill_53178
set_option maxRecDepth 20000 in
theorem ggX3_run_X1_number : GoodIn wsX3_run wsX1_number := goodIn_r _ [44, 8, 45, 46, 47, 6, 48, 49, 9, 10, 11, 50, 51, 52, 53, 54, 55, 56, 191, 192, 193, 194, 195, 196, 197] (by decide +kernel) (by decide +kernel)
set_option maxRecDepth 20000 in
theorem gX3_run_X1_number : GoodIn wsX3_run (wsV RX3 48 RX1 yX1_number wsX1_number) := goodIn_app (goodIn_of _ (by decide +kernel)) ggX3_run_X1_number
set_option maxRecDepth 20000 in
theorem ggX3_run_X3_takeTurn : GoodIn wsX3_run wsX3_takeTurn := goodIn_r _ [61, 1, 62, 22, 10, 23, 63, 64, 65, 6, 66, 67, 9, 11, 68, 13, 14, 15, 16, 17, 18, 19, 20, 8, 21, 69, 46, 47, 48, 49, 70, 71, 72, 73, 74, 12, 75, 76, 77, 78, 79, 80, 81, 82, 33, 34, 83, 84, 85, 60, 86, 41, 42, 43, 44, 45, 50, 51, 52, 53, 54, 55, 56, 87, 88, 89, 90, 91, 92, 93, 94, 95, 96, 97, 98, 99, 28, 100, 101, 102, 103, 104, 105, 106, 107, 108, 109, 110, 111, 112, 113, 114, 115, 116, 117, 118, 119, 120, 121, 122, 123, 124, 125, 126, 127, 128, 129, 130, 131, 132, 133, 134, 135, 136, 137, 138, 139, 140, 141, 142, 143, 144, 145, 35, 36, 31, 32, 146, 147, 148, 149, 150, 151, 152, 153, 154, 155, 156, 157, 158, 159, 160, 161, 162, 163, 164, 165, 166, 167, 168, 169, 170, 171, 172, 173, 174, 175, 176, 177, 2, 178, 179, 180, 181, 182, 183, 184, 185, 186, 187, 188, 189, 190, 191, 192, 193, 194, 195, 196, 197, 198, 199, 200, 201, 202] (by decide +kernel) (by decide +kernel)
set_option maxRecDepth 20000 in
theorem gX3_run_X3_takeTurn : GoodIn wsX3_run (wsV RX3 52 RX3 yX3_takeTurn wsX3_takeTurn) := goodIn_app (goodIn_of _ (by decide +kernel)) ggX3_run_X3_takeTurn
set_option maxRecDepth 20000 in
theorem ggX3_run_X1_raise : GoodIn wsX3_run wsX1_raise := goodIn_r _ [168, 8, 35, 10, 36, 31, 9, 11, 32, 33, 34, 191, 192, 193, 194, 195, 196, 197] (by decide +kernel) (by decide +kernel)
set_option maxRecDepth 20000 in
theorem gX3_run_X1_raise : GoodIn wsX3_run (wsV RX3 56 RX1 yX1_raise wsX1_raise) := goodIn_app (goodIn_of _ (by decide +kernel)) ggX3_run_X1_raise
theorem dX3_run_0 : decode cX3_run 0 = .ok (.iconst 0, 1) := by decide +kernel
theorem dX3_run_1 : decode cX3_run 1 = .ok (.istore_n 2, 1) := by decide +kernel
theorem dX3_run_2 : decode cX3_run 2 = .ok (.iconst 0, 1) := by decide +kernel
theorem dX3_run_3 : decode cX3_run 3 = .ok (.istore_n 3, 1) := by decide +kernel
theorem dX3_run_4 : decode cX3_run 4 = .ok (.iload_n 3, 1) := by decide +kernel
theorem dX3_run_5 : decode cX3_run 5 = .ok (.iload_n 1, 1) := by decide +kernel
theorem dX3_run_6 : decode cX3_run 6 = .ok (.if_icmp .ge 91, 3) := by decide +kernel
theorem dX3_run_9 : decode cX3_run 9 = .ok (.aload_n 0, 1) := by decide +kernel
theorem dX3_run_10 : decode cX3_run 10 = .ok (.getfield 12, 3) := by decide +kernel
theorem dX3_run_13 : decode cX3_run 13 = .ok (.invokevirtual 39, 3) := by decide +kernel
theorem dX3_run_16 : decode cX3_run 16 = .ok (.aload_n 0, 1) := by decide +kernel
theorem dX3_run_17 : decode cX3_run 17 = .ok (.getfield 29, 3) := by decide +kernel
theorem dX3_run_20 : decode cX3_run 20 = .ok (.iconst 0, 1) := by decide +kernel
theorem dX3_run_21 : decode cX3_run 21 = .ok (.invokestatic 42, 3) := by decide +kernel
theorem dX3_run_24 : decode cX3_run 24 = .ok (.iconst 0, 1) := by decide +kernel
theorem dX3_run_25 : decode cX3_run 25 = .ok (.istore 4, 2) := by decide +kernel
theorem dX3_run_27 : decode cX3_run 27 = .ok (.iload 4, 2) := by decide +kernel
theorem dX3_run_29 : decode cX3_run 29 = .ok (.aload_n 0, 1) := by decide +kernel
theorem dX3_run_30 : decode cX3_run 30 = .ok (.getfield 12, 3) := by decide +kernel
theorem dX3_run_33 : decode cX3_run 33 = .ok (.iconst 3, 1) := by decide +kernel
theorem dX3_run_34 : decode cX3_run 34 = .ok (.invokevirtual 48, 3) := by decide +kernel
theorem dX3_run_37 : decode cX3_run 37 = .ok (.if_icmp .ge 45, 3) := by decide +kernel
theorem dX3_run_40 : decode cX3_run 40 = .ok (.iconst 0, 1) := by decide +kernel
theorem dX3_run_41 : decode cX3_run 41 = .ok (.istore 5, 2) := by decide +kernel
theorem dX3_run_43 : decode cX3_run 43 = .ok (.iload 5, 2) := by decide +kernel
theorem dX3_run_45 : decode cX3_run 45 = .ok (.aload_n 0, 1) := by decide +kernel
theorem dX3_run_46 : decode cX3_run 46 = .ok (.getfield 12, 3) := by decide +kernel
theorem dX3_run_49 : decode cX3_run 49 = .ok (.iconst 2, 1) := by decide +kernel
theorem dX3_run_50 : decode cX3_run 50 = .ok (.invokevirtual 48, 3) := by decide +kernel
theorem dX3_run_53 : decode cX3_run 53 = .ok (.if_icmp .ge 23, 3) := by decide +kernel
theorem dX3_run_56 : decode cX3_run 56 = .ok (.aload_n 0, 1) := by decide +kernel
theorem dX3_run_57 : decode cX3_run 57 = .ok (.iload 4, 2) := by decide +kernel
theorem dX3_run_59 : decode cX3_run 59 = .ok (.iload 5, 2) := by decide +kernel
theorem dX3_run_61 : decode cX3_run 61 = .ok (.invokevirtual 52, 3) := by decide +kernel
theorem dX3_run_64 : decode cX3_run 64 = .ok (.ifCond .eq 6, 3) := by decide +kernel
theorem dX3_run_67 : decode cX3_run 67 = .ok (.iinc 2 1, 3) := by decide +kernel
theorem dX3_run_70 : decode cX3_run 70 = .ok (.iinc 5 1, 3) := by decide +kernel
theorem dX3_run_73 : decode cX3_run 73 = .ok (.goto (-30), 3) := by decide +kernel
theorem dX3_run_76 : decode cX3_run 76 = .ok (.iinc 4 1, 3) := by decide +kernel
theorem dX3_run_79 : decode cX3_run 79 = .ok (.goto (-52), 3) := by decide +kernel
theorem dX3_run_82 : decode cX3_run 82 = .ok (.aload_n 0, 1) := by decide +kernel
theorem dX3_run_83 : decode cX3_run 83 = .ok (.getfield 12, 3) := by decide +kernel
theorem dX3_run_86 : decode cX3_run 86 = .ok (.iconst 5, 1) := by decide +kernel
theorem dX3_run_87 : decode cX3_run 87 = .ok (.iconst 1, 1) := by decide +kernel
theorem dX3_run_88 : decode cX3_run 88 = .ok (.invokevirtual 56, 3) := by decide +kernel
theorem dX3_run_91 : decode cX3_run 91 = .ok (.iinc 3 1, 3) := by decide +kernel
theorem dX3_run_94 : decode cX3_run 94 = .ok (.goto (-90), 3) := by decide +kernel
theorem dX3_run_97 : decode cX3_run 97 = .ok (.iload_n 2, 1) := by decide +kernel
theorem dX3_run_98 : decode cX3_run 98 = .ok (.ireturn, 1) := by decide +kernel
set_option maxRecDepth 20000 in
theorem ggX3_takeTurn_X5_wayOf : GoodIn wsX3_takeTurn wsX5_wayOf := goodIn_r _ [5] (by decide +kernel) (by decide +kernel)
set_option maxRecDepth 20000 in
theorem gX3_takeTurn_X5_wayOf_n60 : GoodIn wsX3_takeTurn (wsX5_wayOf) := ggX3_takeTurn_X5_wayOf
set_option maxRecDepth 20000 in
theorem ggX3_takeTurn_X1_sensorPart : GoodIn wsX3_takeTurn wsX1_sensorPart := goodIn_r _ [10, 11, 12, 4, 13, 173, 174, 175, 176, 177, 178, 179] (by decide +kernel) (by decide +kernel)
set_option maxRecDepth 20000 in
theorem gX3_takeTurn_X1_sensorPart : GoodIn wsX3_takeTurn (wsV RX3 64 RX1 yX1_sensorPart wsX1_sensorPart) := goodIn_app (goodIn_of _ (by decide +kernel)) ggX3_takeTurn_X1_sensorPart
set_option maxRecDepth 20000 in
theorem ggX3_takeTurn_X1_interestPart : GoodIn wsX3_takeTurn wsX1_interestPart := goodIn_r _ [17, 18, 19, 20, 21, 9, 22, 23, 24, 12, 4, 13, 3, 5, 173, 174, 175, 176, 177, 178, 179] (by decide +kernel) (by decide +kernel)
set_option maxRecDepth 20000 in
theorem gX3_takeTurn_X1_interestPart : GoodIn wsX3_takeTurn (wsV RX3 67 RX1 yX1_interestPart wsX1_interestPart) := goodIn_app (goodIn_of _ (by decide +kernel)) ggX3_takeTurn_X1_interestPart
set_option maxRecDepth 20000 in
theorem ggX3_takeTurn_X1_aliveNodes : GoodIn wsX3_takeTurn wsX1_aliveNodes := goodIn_r _ [28, 23, 29, 12, 4, 13, 173, 174, 175, 176, 177, 178, 179] (by decide +kernel) (by decide +kernel)
set_option maxRecDepth 20000 in
theorem gX3_takeTurn_X1_aliveNodes : GoodIn wsX3_takeTurn (wsV RX3 70 RX1 yX1_aliveNodes wsX1_aliveNodes) := goodIn_app (goodIn_of _ (by decide +kernel)) ggX3_takeTurn_X1_aliveNodes
set_option maxRecDepth 20000 in
theorem ggX3_takeTurn_X1_matches : GoodIn wsX3_takeTurn wsX1_matches := goodIn_r _ [33, 34, 7, 8, 9, 10, 11, 12, 4, 13, 35, 15, 16, 17, 18, 19, 20, 21, 22, 23, 24, 3, 5, 36, 37, 173, 174, 175, 176, 177, 178, 179] (by decide +kernel) (by decide +kernel)
set_option maxRecDepth 20000 in
theorem gX3_takeTurn_X1_matches : GoodIn wsX3_takeTurn (wsV RX3 74 RX1 yX1_matches wsX1_matches) := goodIn_app (goodIn_of _ (by decide +kernel)) ggX3_takeTurn_X1_matches
set_option maxRecDepth 20000 in
theorem ggX3_takeTurn_X5_holds : GoodIn wsX3_takeTurn wsX5_holds := goodIn_r _ [39] (by decide +kernel) (by decide +kernel)
set_option maxRecDepth 20000 in
theorem gX3_takeTurn_X5_holds_n77 : GoodIn wsX3_takeTurn (wsX5_holds) := ggX3_takeTurn_X5_holds
set_option maxRecDepth 20000 in
theorem ggX3_takeTurn_X1_dropWay : GoodIn wsX3_takeTurn wsX1_dropWay := goodIn_r _ [43, 24, 44, 4, 45, 173, 174, 175, 176, 177, 178, 179] (by decide +kernel) (by decide +kernel)
set_option maxRecDepth 20000 in
theorem gX3_takeTurn_X1_dropWay : GoodIn wsX3_takeTurn (wsV RX3 80 RX1 yX1_dropWay wsX1_dropWay) := goodIn_app (goodIn_of _ (by decide +kernel)) ggX3_takeTurn_X1_dropWay
set_option maxRecDepth 20000 in
theorem ggX3_takeTurn_X3_isExploringRound : GoodIn wsX3_takeTurn wsX3_isExploringRound := goodIn_r _ [50, 1, 51, 52, 53, 9, 54, 23, 55, 26, 27, 28, 29, 12, 4, 13, 56, 57, 58, 59, 60, 61, 62, 169, 170, 171, 172, 173, 174, 175, 176, 177, 178, 179] (by decide +kernel) (by decide +kernel)
set_option maxRecDepth 20000 in
theorem gX3_takeTurn_X3_isExploringRound : GoodIn wsX3_takeTurn (wsV RX3 84 RX3 yX3_isExploringRound wsX3_isExploringRound) := goodIn_app (goodIn_of _ (by decide +kernel)) ggX3_takeTurn_X3_isExploringRound
set_option maxRecDepth 20000 in
theorem ggX3_takeTurn_X2_carry : GoodIn wsX3_takeTurn wsX2_carry := goodIn_r _ [67, 68, 69, 70, 9, 71, 24, 12, 4, 13, 72, 73, 74, 75, 76, 38, 39, 77, 78, 79, 66, 80, 81, 173, 174, 175, 176, 177, 178, 179, 180, 181, 182, 183, 184] (by decide +kernel) (by decide +kernel)
set_option maxRecDepth 20000 in
theorem gX3_takeTurn_X2_carry : GoodIn wsX3_takeTurn (wsV RX3 88 RX2 yX2_carry wsX2_carry) := goodIn_app (goodIn_of _ (by decide +kernel)) ggX3_takeTurn_X2_carry
set_option maxRecDepth 20000 in
theorem ggX3_takeTurn_X3_exploreWay : GoodIn wsX3_takeTurn wsX3_exploreWay := goodIn_r _ [85, 2, 1, 86, 87, 88, 89, 90, 91, 92, 93, 66, 94, 95, 96, 97, 98, 12, 4, 13, 44, 45, 99, 100, 101, 102, 103, 81, 38, 39, 104, 105, 106, 107, 108, 109, 110, 111, 112, 113, 114, 115, 116, 117, 118, 9, 119, 29, 120, 121, 122, 23, 123, 124, 125, 126, 127, 128, 129, 49, 130, 131, 132, 133, 134, 135, 136, 137, 138, 139, 140, 141, 142, 24, 76, 143, 144, 145, 146, 147, 148, 149, 150, 69, 70, 71, 151, 152, 153, 154, 169, 170, 171, 172, 180, 181, 182, 183, 184, 173, 174, 175, 176, 177, 178, 179] (by decide +kernel) (by decide +kernel)
set_option maxRecDepth 20000 in
theorem gX3_takeTurn_X3_exploreWay : GoodIn wsX3_takeTurn (wsV RX3 92 RX3 yX3_exploreWay wsX3_exploreWay) := goodIn_app (goodIn_of _ (by decide +kernel)) ggX3_takeTurn_X3_exploreWay
set_option maxRecDepth 20000 in
theorem ggX3_takeTurn_X1_lengthOf : GoodIn wsX3_takeTurn wsX1_lengthOf := goodIn_r _ [71, 24, 12, 4, 13, 173, 174, 175, 176, 177, 178, 179] (by decide +kernel) (by decide +kernel)
set_option maxRecDepth 20000 in
theorem gX3_takeTurn_X1_lengthOf : GoodIn wsX3_takeTurn (wsV RX3 96 RX1 yX1_lengthOf wsX1_lengthOf) := goodIn_app (goodIn_of _ (by decide +kernel)) ggX3_takeTurn_X1_lengthOf
set_option maxRecDepth 20000 in
theorem ggX3_takeTurn_X3_send : GoodIn wsX3_takeTurn wsX3_send := goodIn_r _ [158, 1, 159, 150, 69, 70, 9, 71, 24, 12, 4, 13, 160, 73, 74, 75, 76, 38, 39, 44, 45, 116, 117, 118, 119, 29, 120, 121, 88, 122, 23, 123, 124, 125, 126, 169, 170, 171, 172, 173, 174, 175, 176, 177, 178, 179] (by decide +kernel) (by decide +kernel)
set_option maxRecDepth 20000 in
theorem gX3_takeTurn_X3_send : GoodIn wsX3_takeTurn (wsV RX3 99 RX3 yX3_send wsX3_send) := goodIn_app (goodIn_of _ (by decide +kernel)) ggX3_takeTurn_X3_send
set_option maxRecDepth 20000 in
theorem ggX3_takeTurn_X2_delayOf : GoodIn wsX3_takeTurn wsX2_delayOf := goodIn_r _ [164, 68, 69, 70, 9, 71, 24, 12, 4, 13, 72, 73, 74, 75, 76, 77, 78, 79, 66, 80, 81, 173, 174, 175, 176, 177, 178, 179, 180, 181, 182, 183, 184] (by decide +kernel) (by decide +kernel)
set_option maxRecDepth 20000 in
theorem gX3_takeTurn_X2_delayOf : GoodIn wsX3_takeTurn (wsV RX3 102 RX2 yX2_delayOf wsX2_delayOf) := goodIn_app (goodIn_of _ (by decide +kernel)) ggX3_takeTurn_X2_delayOf
set_option maxRecDepth 20000 in
theorem ggX3_takeTurn_X1_deliver : GoodIn wsX3_takeTurn wsX1_deliver := goodIn_r _ [168, 18, 123, 4, 124, 125, 12, 13, 126, 44, 45, 173, 174, 175, 176, 177, 178, 179] (by decide +kernel) (by decide +kernel)
set_option maxRecDepth 20000 in
theorem gX3_takeTurn_X1_deliver : GoodIn wsX3_takeTurn (wsV RX3 106 RX1 yX1_deliver wsX1_deliver) := goodIn_app (goodIn_of _ (by decide +kernel)) ggX3_takeTurn_X1_deliver
theorem dX3_takeTurn_0 : decode cX3_takeTurn 0 = .ok (.iload_n 1, 1) := by decide +kernel
theorem dX3_takeTurn_1 : decode cX3_takeTurn 1 = .ok (.iload_n 2, 1) := by decide +kernel
theorem dX3_takeTurn_2 : decode cX3_takeTurn 2 = .ok (.invokestatic 60, 3) := by decide +kernel
theorem dX3_takeTurn_5 : decode cX3_takeTurn 5 = .ok (.istore_n 3, 1) := by decide +kernel
theorem dX3_takeTurn_6 : decode cX3_takeTurn 6 = .ok (.aload_n 0, 1) := by decide +kernel
theorem dX3_takeTurn_7 : decode cX3_takeTurn 7 = .ok (.getfield 12, 3) := by decide +kernel
theorem dX3_takeTurn_10 : decode cX3_takeTurn 10 = .ok (.iload_n 2, 1) := by decide +kernel
theorem dX3_takeTurn_11 : decode cX3_takeTurn 11 = .ok (.iconst 0, 1) := by decide +kernel
theorem dX3_takeTurn_12 : decode cX3_takeTurn 12 = .ok (.invokevirtual 64, 3) := by decide +kernel
theorem dX3_takeTurn_15 : decode cX3_takeTurn 15 = .ok (.istore 4, 2) := by decide +kernel
theorem dX3_takeTurn_17 : decode cX3_takeTurn 17 = .ok (.aload_n 0, 1) := by decide +kernel
theorem dX3_takeTurn_18 : decode cX3_takeTurn 18 = .ok (.getfield 12, 3) := by decide +kernel
theorem dX3_takeTurn_21 : decode cX3_takeTurn 21 = .ok (.iload_n 1, 1) := by decide +kernel
theorem dX3_takeTurn_22 : decode cX3_takeTurn 22 = .ok (.iconst 0, 1) := by decide +kernel
theorem dX3_takeTurn_23 : decode cX3_takeTurn 23 = .ok (.invokevirtual 67, 3) := by decide +kernel
theorem dX3_takeTurn_26 : decode cX3_takeTurn 26 = .ok (.istore 5, 2) := by decide +kernel
theorem dX3_takeTurn_28 : decode cX3_takeTurn 28 = .ok (.aload_n 0, 1) := by decide +kernel
theorem dX3_takeTurn_29 : decode cX3_takeTurn 29 = .ok (.getfield 12, 3) := by decide +kernel
theorem dX3_takeTurn_32 : decode cX3_takeTurn 32 = .ok (.invokevirtual 70, 3) := by decide +kernel
theorem dX3_takeTurn_35 : decode cX3_takeTurn 35 = .ok (.istore 6, 2) := by decide +kernel
theorem dX3_takeTurn_37 : decode cX3_takeTurn 37 = .ok (.aload_n 0, 1) := by decide +kernel
theorem dX3_takeTurn_38 : decode cX3_takeTurn 38 = .ok (.getfield 12, 3) := by decide +kernel
theorem dX3_takeTurn_41 : decode cX3_takeTurn 41 = .ok (.iload_n 2, 1) := by decide +kernel
theorem dX3_takeTurn_42 : decode cX3_takeTurn 42 = .ok (.iload_n 1, 1) := by decide +kernel
theorem dX3_takeTurn_43 : decode cX3_takeTurn 43 = .ok (.invokevirtual 74, 3) := by decide +kernel
theorem dX3_takeTurn_46 : decode cX3_takeTurn 46 = .ok (.ifCond .eq 23, 3) := by decide +kernel
theorem dX3_takeTurn_49 : decode cX3_takeTurn 49 = .ok (.iload 6, 2) := by decide +kernel
theorem dX3_takeTurn_51 : decode cX3_takeTurn 51 = .ok (.iload 4, 2) := by decide +kernel
theorem dX3_takeTurn_53 : decode cX3_takeTurn 53 = .ok (.invokestatic 77, 3) := by decide +kernel
theorem dX3_takeTurn_56 : decode cX3_takeTurn 56 = .ok (.ifCond .eq 13, 3) := by decide +kernel
theorem dX3_takeTurn_59 : decode cX3_takeTurn 59 = .ok (.iload 6, 2) := by decide +kernel
theorem dX3_takeTurn_61 : decode cX3_takeTurn 61 = .ok (.iload 5, 2) := by decide +kernel
theorem dX3_takeTurn_63 : decode cX3_takeTurn 63 = .ok (.invokestatic 77, 3) := by decide +kernel
theorem dX3_takeTurn_66 : decode cX3_takeTurn 66 = .ok (.ifCond .ne 13, 3) := by decide +kernel
theorem dX3_takeTurn_69 : decode cX3_takeTurn 69 = .ok (.aload_n 0, 1) := by decide +kernel
theorem dX3_takeTurn_70 : decode cX3_takeTurn 70 = .ok (.getfield 12, 3) := by decide +kernel
theorem dX3_takeTurn_73 : decode cX3_takeTurn 73 = .ok (.iload_n 3, 1) := by decide +kernel
theorem dX3_takeTurn_74 : decode cX3_takeTurn 74 = .ok (.invokevirtual 80, 3) := by decide +kernel
theorem dX3_takeTurn_77 : decode cX3_takeTurn 77 = .ok (.iconst 0, 1) := by decide +kernel
theorem dX3_takeTurn_78 : decode cX3_takeTurn 78 = .ok (.ireturn, 1) := by decide +kernel
theorem dX3_takeTurn_79 : decode cX3_takeTurn 79 = .ok (.aload_n 0, 1) := by decide +kernel
theorem dX3_takeTurn_80 : decode cX3_takeTurn 80 = .ok (.invokevirtual 84, 3) := by decide +kernel
theorem dX3_takeTurn_83 : decode cX3_takeTurn 83 = .ok (.ifCond .ne 20, 3) := by decide +kernel
theorem dX3_takeTurn_86 : decode cX3_takeTurn 86 = .ok (.aload_n 0, 1) := by decide +kernel
theorem dX3_takeTurn_87 : decode cX3_takeTurn 87 = .ok (.getfield 21, 3) := by decide +kernel
theorem dX3_takeTurn_90 : decode cX3_takeTurn 90 = .ok (.aload_n 0, 1) := by decide +kernel
theorem dX3_takeTurn_91 : decode cX3_takeTurn 91 = .ok (.getfield 12, 3) := by decide +kernel
theorem dX3_takeTurn_94 : decode cX3_takeTurn 94 = .ok (.iload_n 3, 1) := by decide +kernel
theorem dX3_takeTurn_95 : decode cX3_takeTurn 95 = .ok (.iload 6, 2) := by decide +kernel
theorem dX3_takeTurn_97 : decode cX3_takeTurn 97 = .ok (.invokevirtual 88, 3) := by decide +kernel
theorem dX3_takeTurn_100 : decode cX3_takeTurn 100 = .ok (.ifCond .ne 14, 3) := by decide +kernel
theorem dX3_takeTurn_103 : decode cX3_takeTurn 103 = .ok (.aload_n 0, 1) := by decide +kernel
theorem dX3_takeTurn_104 : decode cX3_takeTurn 104 = .ok (.iload_n 3, 1) := by decide +kernel
theorem dX3_takeTurn_105 : decode cX3_takeTurn 105 = .ok (.iload 4, 2) := by decide +kernel
theorem dX3_takeTurn_107 : decode cX3_takeTurn 107 = .ok (.iload 5, 2) := by decide +kernel
theorem dX3_takeTurn_109 : decode cX3_takeTurn 109 = .ok (.iload 6, 2) := by decide +kernel
theorem dX3_takeTurn_111 : decode cX3_takeTurn 111 = .ok (.invokevirtual 92, 3) := by decide +kernel
theorem dX3_takeTurn_114 : decode cX3_takeTurn 114 = .ok (.aload_n 0, 1) := by decide +kernel
theorem dX3_takeTurn_115 : decode cX3_takeTurn 115 = .ok (.getfield 12, 3) := by decide +kernel
theorem dX3_takeTurn_118 : decode cX3_takeTurn 118 = .ok (.iload_n 3, 1) := by decide +kernel
theorem dX3_takeTurn_119 : decode cX3_takeTurn 119 = .ok (.invokevirtual 96, 3) := by decide +kernel
theorem dX3_takeTurn_122 : decode cX3_takeTurn 122 = .ok (.ifCond .ne 5, 3) := by decide +kernel
theorem dX3_takeTurn_125 : decode cX3_takeTurn 125 = .ok (.iconst 0, 1) := by decide +kernel
theorem dX3_takeTurn_126 : decode cX3_takeTurn 126 = .ok (.ireturn, 1) := by decide +kernel
theorem dX3_takeTurn_127 : decode cX3_takeTurn 127 = .ok (.aload_n 0, 1) := by decide +kernel
theorem dX3_takeTurn_128 : decode cX3_takeTurn 128 = .ok (.iload_n 3, 1) := by decide +kernel
theorem dX3_takeTurn_129 : decode cX3_takeTurn 129 = .ok (.iload_n 2, 1) := by decide +kernel
theorem dX3_takeTurn_130 : decode cX3_takeTurn 130 = .ok (.invokevirtual 99, 3) := by decide +kernel
theorem dX3_takeTurn_133 : decode cX3_takeTurn 133 = .ok (.aload_n 0, 1) := by decide +kernel
theorem dX3_takeTurn_134 : decode cX3_takeTurn 134 = .ok (.getfield 12, 3) := by decide +kernel
theorem dX3_takeTurn_137 : decode cX3_takeTurn 137 = .ok (.iload_n 1, 1) := by decide +kernel
theorem dX3_takeTurn_138 : decode cX3_takeTurn 138 = .ok (.aload_n 0, 1) := by decide +kernel
theorem dX3_takeTurn_139 : decode cX3_takeTurn 139 = .ok (.getfield 21, 3) := by decide +kernel
theorem dX3_takeTurn_142 : decode cX3_takeTurn 142 = .ok (.aload_n 0, 1) := by decide +kernel
theorem dX3_takeTurn_143 : decode cX3_takeTurn 143 = .ok (.getfield 12, 3) := by decide +kernel
theorem dX3_takeTurn_146 : decode cX3_takeTurn 146 = .ok (.iload_n 3, 1) := by decide +kernel
theorem dX3_takeTurn_147 : decode cX3_takeTurn 147 = .ok (.invokevirtual 102, 3) := by decide +kernel
theorem dX3_takeTurn_150 : decode cX3_takeTurn 150 = .ok (.invokevirtual 106, 3) := by decide +kernel
theorem dX3_takeTurn_153 : decode cX3_takeTurn 153 = .ok (.iconst 1, 1) := by decide +kernel
theorem dX3_takeTurn_154 : decode cX3_takeTurn 154 = .ok (.ireturn, 1) := by decide +kernel
set_option maxRecDepth 20000 in
theorem ggX3_isExploringRound_X1_number : GoodIn wsX3_isExploringRound wsX1_number := goodIn_r _ [6, 7, 8, 9, 10, 5, 11, 12, 13, 14, 15, 16, 17, 18, 19, 20, 21, 22, 27, 28, 29, 30, 31, 32, 33] (by decide +kernel) (by decide +kernel)
set_option maxRecDepth 20000 in
theorem gX3_isExploringRound_X1_number : GoodIn wsX3_isExploringRound (wsV RX3 48 RX1 yX1_number wsX1_number) := goodIn_app (goodIn_of _ (by decide +kernel)) ggX3_isExploringRound_X1_number
theorem dX3_isExploringRound_0 : decode cX3_isExploringRound 0 = .ok (.aload_n 0, 1) := by decide +kernel
theorem dX3_isExploringRound_1 : decode cX3_isExploringRound 1 = .ok (.getfield 12, 3) := by decide +kernel
theorem dX3_isExploringRound_4 : decode cX3_isExploringRound 4 = .ok (.iconst 4, 1) := by decide +kernel
theorem dX3_isExploringRound_5 : decode cX3_isExploringRound 5 = .ok (.invokevirtual 48, 3) := by decide +kernel
theorem dX3_isExploringRound_8 : decode cX3_isExploringRound 8 = .ok (.istore_n 1, 1) := by decide +kernel
theorem dX3_isExploringRound_9 : decode cX3_isExploringRound 9 = .ok (.iload_n 1, 1) := by decide +kernel
theorem dX3_isExploringRound_10 : decode cX3_isExploringRound 10 = .ok (.ifCond .le 20, 3) := by decide +kernel
theorem dX3_isExploringRound_13 : decode cX3_isExploringRound 13 = .ok (.aload_n 0, 1) := by decide +kernel
theorem dX3_isExploringRound_14 : decode cX3_isExploringRound 14 = .ok (.getfield 12, 3) := by decide +kernel
theorem dX3_isExploringRound_17 : decode cX3_isExploringRound 17 = .ok (.iconst 5, 1) := by decide +kernel
theorem dX3_isExploringRound_18 : decode cX3_isExploringRound 18 = .ok (.invokevirtual 48, 3) := by decide +kernel
theorem dX3_isExploringRound_21 : decode cX3_isExploringRound 21 = .ok (.iload_n 1, 1) := by decide +kernel
theorem dX3_isExploringRound_22 : decode cX3_isExploringRound 22 = .ok (.irem, 1) := by decide +kernel
theorem dX3_isExploringRound_23 : decode cX3_isExploringRound 23 = .ok (.ifCond .ne 7, 3) := by decide +kernel
theorem dX3_isExploringRound_26 : decode cX3_isExploringRound 26 = .ok (.iconst 1, 1) := by decide +kernel
theorem dX3_isExploringRound_27 : decode cX3_isExploringRound 27 = .ok (.goto 4, 3) := by decide +kernel
theorem dX3_isExploringRound_30 : decode cX3_isExploringRound 30 = .ok (.iconst 0, 1) := by decide +kernel
theorem dX3_isExploringRound_31 : decode cX3_isExploringRound 31 = .ok (.ireturn, 1) := by decide +kernel
set_option maxRecDepth 20000 in
theorem ggX3_exploreWay_X2_explore : GoodIn wsX3_exploreWay wsX2_explore := goodIn_r _ [12, 13, 14, 15, 16, 17, 18, 19, 20, 21, 22, 23, 24, 11, 25, 26, 27, 28, 29, 30, 31, 32, 33, 34, 35, 36, 37, 94, 95, 96, 97, 98] (by decide +kernel) (by decide +kernel)
set_option maxRecDepth 20000 in
theorem gX3_exploreWay_X2_explore : GoodIn wsX3_exploreWay (wsV RX3 109 RX2 yX2_explore wsX2_explore) := goodIn_app (goodIn_of _ (by decide +kernel)) ggX3_exploreWay_X2_explore
set_option maxRecDepth 20000 in
theorem ggX3_exploreWay_X2_reachedFrom : GoodIn wsX3_exploreWay wsX2_reachedFrom := goodIn_r _ [41, 16, 17, 18, 19, 94, 95, 96, 97, 98] (by decide +kernel) (by decide +kernel)
set_option maxRecDepth 20000 in
theorem gX3_exploreWay_X2_reachedFrom : GoodIn wsX3_exploreWay (wsV RX3 112 RX2 yX2_reachedFrom wsX2_reachedFrom) := goodIn_app (goodIn_of _ (by decide +kernel)) ggX3_exploreWay_X2_reachedFrom
set_option maxRecDepth 20000 in
theorem ggX3_exploreWay_X5_holds : GoodIn wsX3_exploreWay wsX5_holds := goodIn_r _ [29] (by decide +kernel) (by decide +kernel)
set_option maxRecDepth 20000 in
theorem gX3_exploreWay_X5_holds_n77 : GoodIn wsX3_exploreWay (wsX5_holds) := ggX3_exploreWay_X5_holds
set_option maxRecDepth 20000 in
theorem ggX3_exploreWay_X1_spend : GoodIn wsX3_exploreWay wsX1_spend := goodIn_r _ [46, 47, 48, 49, 5, 50, 51, 17, 18, 19, 52, 53, 54, 55, 20, 21, 99, 100, 101, 102, 103, 104, 105] (by decide +kernel) (by decide +kernel)
set_option maxRecDepth 20000 in
theorem gX3_exploreWay_X1_spend : GoodIn wsX3_exploreWay (wsV RX3 115 RX1 yX1_spend wsX1_spend) := goodIn_app (goodIn_of _ (by decide +kernel)) ggX3_exploreWay_X1_spend
set_option maxRecDepth 20000 in
theorem ggX3_exploreWay_X3_traceBack : GoodIn wsX3_exploreWay wsX3_traceBack := goodIn_r _ [60, 7, 1, 20, 18, 21, 61, 62, 63, 11, 64, 14, 17, 19, 90, 91, 92, 93, 94, 95, 96, 97, 98] (by decide +kernel) (by decide +kernel)
set_option maxRecDepth 20000 in
theorem gX3_exploreWay_X3_traceBack : GoodIn wsX3_exploreWay (wsV RX3 118 RX3 yX3_traceBack wsX3_traceBack) := goodIn_app (goodIn_of _ (by decide +kernel)) ggX3_exploreWay_X3_traceBack
set_option maxRecDepth 20000 in
theorem ggX3_exploreWay_X3_keptLinks : GoodIn wsX3_exploreWay wsX3_keptLinks := goodIn_r _ [68, 2, 7, 17, 18, 19, 69, 70, 71, 45, 72, 73, 74, 75, 76, 77, 90, 91, 92, 93, 99, 100, 101, 102, 103, 104, 105] (by decide +kernel) (by decide +kernel)
set_option maxRecDepth 20000 in
theorem gX3_exploreWay_X3_keptLinks : GoodIn wsX3_exploreWay (wsV RX3 121 RX3 yX3_keptLinks wsX3_keptLinks) := goodIn_app (goodIn_of _ (by decide +kernel)) ggX3_exploreWay_X3_keptLinks
set_option maxRecDepth 20000 in
theorem ggX3_exploreWay_X1_raise : GoodIn wsX3_exploreWay wsX1_raise := goodIn_r _ [81, 51, 52, 18, 53, 54, 17, 19, 55, 20, 21, 99, 100, 101, 102, 103, 104, 105] (by decide +kernel) (by decide +kernel)
set_option maxRecDepth 20000 in
theorem gX3_exploreWay_X1_raise : GoodIn wsX3_exploreWay (wsV RX3 56 RX1 yX1_raise wsX1_raise) := goodIn_app (goodIn_of _ (by decide +kernel)) ggX3_exploreWay_X1_raise
set_option maxRecDepth 20000 in
theorem ggX3_exploreWay_X1_lengthOf : GoodIn wsX3_exploreWay wsX1_lengthOf := goodIn_r _ [85, 73, 17, 18, 19, 99, 100, 101, 102, 103, 104, 105] (by decide +kernel) (by decide +kernel)
set_option maxRecDepth 20000 in
theorem gX3_exploreWay_X1_lengthOf : GoodIn wsX3_exploreWay (wsV RX3 96 RX1 yX1_lengthOf wsX1_lengthOf) := goodIn_app (goodIn_of _ (by decide +kernel)) ggX3_exploreWay_X1_lengthOf
set_option maxRecDepth 20000 in
theorem ggX3_exploreWay_X1_setWay : GoodIn wsX3_exploreWay wsX1_setWay := goodIn_r _ [89, 73, 74, 20, 18, 21, 17, 19, 99, 100, 101, 102, 103, 104, 105] (by decide +kernel) (by decide +kernel)
set_option maxRecDepth 20000 in
theorem gX3_exploreWay_X1_setWay : GoodIn wsX3_exploreWay (wsV RX3 129 RX1 yX1_setWay wsX1_setWay) := goodIn_app (goodIn_of _ (by decide +kernel)) ggX3_exploreWay_X1_setWay
theorem dX3_exploreWay_0 : decode cX3_exploreWay 0 = .ok (.aload_n 0, 1) := by decide +kernel
theorem dX3_exploreWay_1 : decode cX3_exploreWay 1 = .ok (.getfield 21, 3) := by decide +kernel
theorem dX3_exploreWay_4 : decode cX3_exploreWay 4 = .ok (.iload_n 2, 1) := by decide +kernel
theorem dX3_exploreWay_5 : decode cX3_exploreWay 5 = .ok (.iload 4, 2) := by decide +kernel
theorem dX3_exploreWay_7 : decode cX3_exploreWay 7 = .ok (.invokevirtual 109, 3) := by decide +kernel
theorem dX3_exploreWay_10 : decode cX3_exploreWay 10 = .ok (.aload_n 0, 1) := by decide +kernel
theorem dX3_exploreWay_11 : decode cX3_exploreWay 11 = .ok (.getfield 21, 3) := by decide +kernel
theorem dX3_exploreWay_14 : decode cX3_exploreWay 14 = .ok (.iload_n 2, 1) := by decide +kernel
theorem dX3_exploreWay_15 : decode cX3_exploreWay 15 = .ok (.invokevirtual 112, 3) := by decide +kernel
theorem dX3_exploreWay_18 : decode cX3_exploreWay 18 = .ok (.istore 5, 2) := by decide +kernel
theorem dX3_exploreWay_20 : decode cX3_exploreWay 20 = .ok (.iconst 0, 1) := by decide +kernel
theorem dX3_exploreWay_21 : decode cX3_exploreWay 21 = .ok (.istore 6, 2) := by decide +kernel
theorem dX3_exploreWay_23 : decode cX3_exploreWay 23 = .ok (.iload 6, 2) := by decide +kernel
theorem dX3_exploreWay_25 : decode cX3_exploreWay 25 = .ok (.bipush 10, 2) := by decide +kernel
theorem dX3_exploreWay_27 : decode cX3_exploreWay 27 = .ok (.if_icmp .ge 29, 3) := by decide +kernel
theorem dX3_exploreWay_30 : decode cX3_exploreWay 30 = .ok (.iload 5, 2) := by decide +kernel
theorem dX3_exploreWay_32 : decode cX3_exploreWay 32 = .ok (.iload 6, 2) := by decide +kernel
theorem dX3_exploreWay_34 : decode cX3_exploreWay 34 = .ok (.invokestatic 77, 3) := by decide +kernel
theorem dX3_exploreWay_37 : decode cX3_exploreWay 37 = .ok (.ifCond .eq 13, 3) := by decide +kernel
theorem dX3_exploreWay_40 : decode cX3_exploreWay 40 = .ok (.aload_n 0, 1) := by decide +kernel
theorem dX3_exploreWay_41 : decode cX3_exploreWay 41 = .ok (.getfield 12, 3) := by decide +kernel
theorem dX3_exploreWay_44 : decode cX3_exploreWay 44 = .ok (.iload 6, 2) := by decide +kernel
theorem dX3_exploreWay_46 : decode cX3_exploreWay 46 = .ok (.iconst 1, 1) := by decide +kernel
theorem dX3_exploreWay_47 : decode cX3_exploreWay 47 = .ok (.invokevirtual 115, 3) := by decide +kernel
theorem dX3_exploreWay_50 : decode cX3_exploreWay 50 = .ok (.iinc 6 1, 3) := by decide +kernel
theorem dX3_exploreWay_53 : decode cX3_exploreWay 53 = .ok (.goto (-30), 3) := by decide +kernel
theorem dX3_exploreWay_56 : decode cX3_exploreWay 56 = .ok (.iload 5, 2) := by decide +kernel
theorem dX3_exploreWay_58 : decode cX3_exploreWay 58 = .ok (.iload_n 3, 1) := by decide +kernel
theorem dX3_exploreWay_59 : decode cX3_exploreWay 59 = .ok (.invokestatic 77, 3) := by decide +kernel
theorem dX3_exploreWay_62 : decode cX3_exploreWay 62 = .ok (.ifCond .eq 12, 3) := by decide +kernel
theorem dX3_exploreWay_65 : decode cX3_exploreWay 65 = .ok (.aload_n 0, 1) := by decide +kernel
theorem dX3_exploreWay_66 : decode cX3_exploreWay 66 = .ok (.iload_n 2, 1) := by decide +kernel
theorem dX3_exploreWay_67 : decode cX3_exploreWay 67 = .ok (.iload_n 3, 1) := by decide +kernel
theorem dX3_exploreWay_68 : decode cX3_exploreWay 68 = .ok (.invokevirtual 118, 3) := by decide +kernel
theorem dX3_exploreWay_71 : decode cX3_exploreWay 71 = .ok (.goto 4, 3) := by decide +kernel
theorem dX3_exploreWay_74 : decode cX3_exploreWay 74 = .ok (.iconst 0, 1) := by decide +kernel
theorem dX3_exploreWay_75 : decode cX3_exploreWay 75 = .ok (.istore 6, 2) := by decide +kernel
theorem dX3_exploreWay_77 : decode cX3_exploreWay 77 = .ok (.aload_n 0, 1) := by decide +kernel
theorem dX3_exploreWay_78 : decode cX3_exploreWay 78 = .ok (.iload_n 1, 1) := by decide +kernel
theorem dX3_exploreWay_79 : decode cX3_exploreWay 79 = .ok (.iload 6, 2) := by decide +kernel
theorem dX3_exploreWay_81 : decode cX3_exploreWay 81 = .ok (.invokevirtual 121, 3) := by decide +kernel
theorem dX3_exploreWay_84 : decode cX3_exploreWay 84 = .ok (.istore 7, 2) := by decide +kernel
theorem dX3_exploreWay_86 : decode cX3_exploreWay 86 = .ok (.aload_n 0, 1) := by decide +kernel
theorem dX3_exploreWay_87 : decode cX3_exploreWay 87 = .ok (.getfield 12, 3) := by decide +kernel
theorem dX3_exploreWay_90 : decode cX3_exploreWay 90 = .ok (.bipush 7, 2) := by decide +kernel
theorem dX3_exploreWay_92 : decode cX3_exploreWay 92 = .ok (.iconst 1, 1) := by decide +kernel
theorem dX3_exploreWay_93 : decode cX3_exploreWay 93 = .ok (.invokevirtual 56, 3) := by decide +kernel
theorem dX3_exploreWay_96 : decode cX3_exploreWay 96 = .ok (.aload_n 0, 1) := by decide +kernel
theorem dX3_exploreWay_97 : decode cX3_exploreWay 97 = .ok (.getfield 12, 3) := by decide +kernel
theorem dX3_exploreWay_100 : decode cX3_exploreWay 100 = .ok (.bipush 8, 2) := by decide +kernel
theorem dX3_exploreWay_102 : decode cX3_exploreWay 102 = .ok (.iload 6, 2) := by decide +kernel
theorem dX3_exploreWay_104 : decode cX3_exploreWay 104 = .ok (.iconst 1, 1) := by decide +kernel
theorem dX3_exploreWay_105 : decode cX3_exploreWay 105 = .ok (.isub, 1) := by decide +kernel
theorem dX3_exploreWay_106 : decode cX3_exploreWay 106 = .ok (.iconst 0, 1) := by decide +kernel
theorem dX3_exploreWay_107 : decode cX3_exploreWay 107 = .ok (.invokestatic 124, 3) := by decide +kernel
theorem dX3_exploreWay_110 : decode cX3_exploreWay 110 = .ok (.iload 7, 2) := by decide +kernel
theorem dX3_exploreWay_112 : decode cX3_exploreWay 112 = .ok (.isub, 1) := by decide +kernel
theorem dX3_exploreWay_113 : decode cX3_exploreWay 113 = .ok (.invokevirtual 56, 3) := by decide +kernel
theorem dX3_exploreWay_116 : decode cX3_exploreWay 116 = .ok (.aload_n 0, 1) := by decide +kernel
theorem dX3_exploreWay_117 : decode cX3_exploreWay 117 = .ok (.getfield 12, 3) := by decide +kernel
theorem dX3_exploreWay_120 : decode cX3_exploreWay 120 = .ok (.bipush 9, 2) := by decide +kernel
theorem dX3_exploreWay_122 : decode cX3_exploreWay 122 = .ok (.aload_n 0, 1) := by decide +kernel
theorem dX3_exploreWay_123 : decode cX3_exploreWay 123 = .ok (.getfield 12, 3) := by decide +kernel
theorem dX3_exploreWay_126 : decode cX3_exploreWay 126 = .ok (.iload_n 1, 1) := by decide +kernel
theorem dX3_exploreWay_127 : decode cX3_exploreWay 127 = .ok (.invokevirtual 96, 3) := by decide +kernel
theorem dX3_exploreWay_130 : decode cX3_exploreWay 130 = .ok (.iconst 1, 1) := by decide +kernel
theorem dX3_exploreWay_131 : decode cX3_exploreWay 131 = .ok (.isub, 1) := by decide +kernel
theorem dX3_exploreWay_132 : decode cX3_exploreWay 132 = .ok (.iconst 0, 1) := by decide +kernel
theorem dX3_exploreWay_133 : decode cX3_exploreWay 133 = .ok (.invokestatic 124, 3) := by decide +kernel
theorem dX3_exploreWay_136 : decode cX3_exploreWay 136 = .ok (.iload 7, 2) := by decide +kernel
theorem dX3_exploreWay_138 : decode cX3_exploreWay 138 = .ok (.isub, 1) := by decide +kernel
theorem dX3_exploreWay_139 : decode cX3_exploreWay 139 = .ok (.invokevirtual 56, 3) := by decide +kernel
theorem dX3_exploreWay_142 : decode cX3_exploreWay 142 = .ok (.aload_n 0, 1) := by decide +kernel
theorem dX3_exploreWay_143 : decode cX3_exploreWay 143 = .ok (.getfield 12, 3) := by decide +kernel
theorem dX3_exploreWay_146 : decode cX3_exploreWay 146 = .ok (.iload_n 1, 1) := by decide +kernel
theorem dX3_exploreWay_147 : decode cX3_exploreWay 147 = .ok (.aload_n 0, 1) := by decide +kernel
theorem dX3_exploreWay_148 : decode cX3_exploreWay 148 = .ok (.getfield 25, 3) := by decide +kernel
theorem dX3_exploreWay_151 : decode cX3_exploreWay 151 = .ok (.iload 6, 2) := by decide +kernel
theorem dX3_exploreWay_153 : decode cX3_exploreWay 153 = .ok (.invokevirtual 129, 3) := by decide +kernel
theorem dX3_exploreWay_156 : decode cX3_exploreWay 156 = .ok (.return_, 1) := by decide +kernel
set_option maxRecDepth 20000 in
theorem ggX3_traceBack_X5_put : GoodIn wsX3_traceBack wsX5_put := goodIn_r _ [5] (by decide +kernel) (by decide +kernel)
set_option maxRecDepth 20000 in
theorem gX3_traceBack_X5_put_n133 : GoodIn wsX3_traceBack (wsX5_put) := ggX3_traceBack_X5_put
set_option maxRecDepth 20000 in
theorem ggX3_traceBack_X2_nodeBefore : GoodIn wsX3_traceBack wsX2_nodeBefore := goodIn_r _ [10, 11, 12, 4, 13, 18, 19, 20, 21, 22] (by decide +kernel) (by decide +kernel)
set_option maxRecDepth 20000 in
theorem gX3_traceBack_X2_nodeBefore : GoodIn wsX3_traceBack (wsV RX3 137 RX2 yX2_nodeBefore wsX2_nodeBefore) := goodIn_app (goodIn_of _ (by decide +kernel)) ggX3_traceBack_X2_nodeBefore
theorem dX3_traceBack_0 : decode cX3_traceBack 0 = .ok (.iload_n 2, 1) := by decide +kernel
theorem dX3_traceBack_1 : decode cX3_traceBack 1 = .ok (.istore_n 3, 1) := by decide +kernel
theorem dX3_traceBack_2 : decode cX3_traceBack 2 = .ok (.iconst 1, 1) := by decide +kernel
theorem dX3_traceBack_3 : decode cX3_traceBack 3 = .ok (.istore 4, 2) := by decide +kernel
theorem dX3_traceBack_5 : decode cX3_traceBack 5 = .ok (.aload_n 0, 1) := by decide +kernel
theorem dX3_traceBack_6 : decode cX3_traceBack 6 = .ok (.getfield 25, 3) := by decide +kernel
theorem dX3_traceBack_9 : decode cX3_traceBack 9 = .ok (.iconst 0, 1) := by decide +kernel
theorem dX3_traceBack_10 : decode cX3_traceBack 10 = .ok (.iload_n 3, 1) := by decide +kernel
theorem dX3_traceBack_11 : decode cX3_traceBack 11 = .ok (.invokestatic 133, 3) := by decide +kernel
theorem dX3_traceBack_14 : decode cX3_traceBack 14 = .ok (.iload_n 3, 1) := by decide +kernel
theorem dX3_traceBack_15 : decode cX3_traceBack 15 = .ok (.iload_n 1, 1) := by decide +kernel
theorem dX3_traceBack_16 : decode cX3_traceBack 16 = .ok (.if_icmp .eq 36, 3) := by decide +kernel
theorem dX3_traceBack_19 : decode cX3_traceBack 19 = .ok (.iload 4, 2) := by decide +kernel
theorem dX3_traceBack_21 : decode cX3_traceBack 21 = .ok (.bipush 10, 2) := by decide +kernel
theorem dX3_traceBack_23 : decode cX3_traceBack 23 = .ok (.if_icmp .ge 29, 3) := by decide +kernel
theorem dX3_traceBack_26 : decode cX3_traceBack 26 = .ok (.aload_n 0, 1) := by decide +kernel
theorem dX3_traceBack_27 : decode cX3_traceBack 27 = .ok (.getfield 21, 3) := by decide +kernel
theorem dX3_traceBack_30 : decode cX3_traceBack 30 = .ok (.iload_n 1, 1) := by decide +kernel
theorem dX3_traceBack_31 : decode cX3_traceBack 31 = .ok (.iload_n 3, 1) := by decide +kernel
theorem dX3_traceBack_32 : decode cX3_traceBack 32 = .ok (.invokevirtual 137, 3) := by decide +kernel
theorem dX3_traceBack_35 : decode cX3_traceBack 35 = .ok (.istore_n 3, 1) := by decide +kernel
theorem dX3_traceBack_36 : decode cX3_traceBack 36 = .ok (.aload_n 0, 1) := by decide +kernel
theorem dX3_traceBack_37 : decode cX3_traceBack 37 = .ok (.getfield 25, 3) := by decide +kernel
theorem dX3_traceBack_40 : decode cX3_traceBack 40 = .ok (.iload 4, 2) := by decide +kernel
theorem dX3_traceBack_42 : decode cX3_traceBack 42 = .ok (.iload_n 3, 1) := by decide +kernel
theorem dX3_traceBack_43 : decode cX3_traceBack 43 = .ok (.invokestatic 133, 3) := by decide +kernel
theorem dX3_traceBack_46 : decode cX3_traceBack 46 = .ok (.iinc 4 1, 3) := by decide +kernel
theorem dX3_traceBack_49 : decode cX3_traceBack 49 = .ok (.goto (-35), 3) := by decide +kernel
theorem dX3_traceBack_52 : decode cX3_traceBack 52 = .ok (.iload 4, 2) := by decide +kernel
theorem dX3_traceBack_54 : decode cX3_traceBack 54 = .ok (.ireturn, 1) := by decide +kernel
set_option maxRecDepth 20000 in
theorem ggX3_keptLinks_X5_at : GoodIn wsX3_keptLinks wsX5_at := goodIn_r _ [5] (by decide +kernel) (by decide +kernel)
set_option maxRecDepth 20000 in
theorem gX3_keptLinks_X5_at_n140 : GoodIn wsX3_keptLinks (wsX5_at) := ggX3_keptLinks_X5_at
set_option maxRecDepth 20000 in
theorem ggX3_keptLinks_X1_goesOver : GoodIn wsX3_keptLinks wsX1_goesOver := goodIn_r _ [10, 11, 12, 3, 4, 5, 13, 14, 9, 15, 20, 21, 22, 23, 24, 25, 26] (by decide +kernel) (by decide +kernel)
set_option maxRecDepth 20000 in
theorem gX3_keptLinks_X1_goesOver : GoodIn wsX3_keptLinks (wsV RX3 144 RX1 yX1_goesOver wsX1_goesOver) := goodIn_app (goodIn_of _ (by decide +kernel)) ggX3_keptLinks_X1_goesOver
theorem dX3_keptLinks_0 : decode cX3_keptLinks 0 = .ok (.iconst 0, 1) := by decide +kernel
theorem dX3_keptLinks_1 : decode cX3_keptLinks 1 = .ok (.istore_n 3, 1) := by decide +kernel
theorem dX3_keptLinks_2 : decode cX3_keptLinks 2 = .ok (.iconst 1, 1) := by decide +kernel
theorem dX3_keptLinks_3 : decode cX3_keptLinks 3 = .ok (.istore 4, 2) := by decide +kernel
theorem dX3_keptLinks_5 : decode cX3_keptLinks 5 = .ok (.iload 4, 2) := by decide +kernel
theorem dX3_keptLinks_7 : decode cX3_keptLinks 7 = .ok (.iload_n 2, 1) := by decide +kernel
theorem dX3_keptLinks_8 : decode cX3_keptLinks 8 = .ok (.if_icmp .ge 43, 3) := by decide +kernel
theorem dX3_keptLinks_11 : decode cX3_keptLinks 11 = .ok (.aload_n 0, 1) := by decide +kernel
theorem dX3_keptLinks_12 : decode cX3_keptLinks 12 = .ok (.getfield 12, 3) := by decide +kernel
theorem dX3_keptLinks_15 : decode cX3_keptLinks 15 = .ok (.iload_n 1, 1) := by decide +kernel
theorem dX3_keptLinks_16 : decode cX3_keptLinks 16 = .ok (.aload_n 0, 1) := by decide +kernel
theorem dX3_keptLinks_17 : decode cX3_keptLinks 17 = .ok (.getfield 25, 3) := by decide +kernel
theorem dX3_keptLinks_20 : decode cX3_keptLinks 20 = .ok (.iload 4, 2) := by decide +kernel
theorem dX3_keptLinks_22 : decode cX3_keptLinks 22 = .ok (.iconst 1, 1) := by decide +kernel
theorem dX3_keptLinks_23 : decode cX3_keptLinks 23 = .ok (.isub, 1) := by decide +kernel
theorem dX3_keptLinks_24 : decode cX3_keptLinks 24 = .ok (.invokestatic 140, 3) := by decide +kernel
theorem dX3_keptLinks_27 : decode cX3_keptLinks 27 = .ok (.aload_n 0, 1) := by decide +kernel
theorem dX3_keptLinks_28 : decode cX3_keptLinks 28 = .ok (.getfield 25, 3) := by decide +kernel
theorem dX3_keptLinks_31 : decode cX3_keptLinks 31 = .ok (.iload 4, 2) := by decide +kernel
theorem dX3_keptLinks_33 : decode cX3_keptLinks 33 = .ok (.invokestatic 140, 3) := by decide +kernel
theorem dX3_keptLinks_36 : decode cX3_keptLinks 36 = .ok (.invokevirtual 144, 3) := by decide +kernel
theorem dX3_keptLinks_39 : decode cX3_keptLinks 39 = .ok (.ifCond .eq 6, 3) := by decide +kernel
theorem dX3_keptLinks_42 : decode cX3_keptLinks 42 = .ok (.iinc 3 1, 3) := by decide +kernel
theorem dX3_keptLinks_45 : decode cX3_keptLinks 45 = .ok (.iinc 4 1, 3) := by decide +kernel
theorem dX3_keptLinks_48 : decode cX3_keptLinks 48 = .ok (.goto (-43), 3) := by decide +kernel
theorem dX3_keptLinks_51 : decode cX3_keptLinks 51 = .ok (.iload_n 3, 1) := by decide +kernel
theorem dX3_keptLinks_52 : decode cX3_keptLinks 52 = .ok (.ireturn, 1) := by decide +kernel
set_option maxRecDepth 20000 in
theorem ggX3_send_X1_lengthOf : GoodIn wsX3_send wsX1_lengthOf := goodIn_r _ [7, 8, 9, 10, 11, 39, 40, 41, 42, 43, 44, 45] (by decide +kernel) (by decide +kernel)
set_option maxRecDepth 20000 in
theorem gX3_send_X1_lengthOf : GoodIn wsX3_send (wsV RX3 96 RX1 yX1_lengthOf wsX1_lengthOf) := goodIn_app (goodIn_of _ (by decide +kernel)) ggX3_send_X1_lengthOf
set_option maxRecDepth 20000 in
theorem ggX3_send_X1_nodeOf : GoodIn wsX3_send wsX1_nodeOf := goodIn_r _ [15, 16, 9, 10, 11, 39, 40, 41, 42, 43, 44, 45] (by decide +kernel) (by decide +kernel)
set_option maxRecDepth 20000 in
theorem gX3_send_X1_nodeOf : GoodIn wsX3_send (wsV RX3 148 RX1 yX1_nodeOf wsX1_nodeOf) := goodIn_app (goodIn_of _ (by decide +kernel)) ggX3_send_X1_nodeOf
set_option maxRecDepth 20000 in
theorem ggX3_send_X5_at : GoodIn wsX3_send wsX5_at := goodIn_r _ [11] (by decide +kernel) (by decide +kernel)
set_option maxRecDepth 20000 in
theorem gX3_send_X5_at_n140 : GoodIn wsX3_send (wsX5_at) := ggX3_send_X5_at
set_option maxRecDepth 20000 in
theorem ggX3_send_X5_holds : GoodIn wsX3_send wsX5_holds := goodIn_r _ [18] (by decide +kernel) (by decide +kernel)
set_option maxRecDepth 20000 in
theorem gX3_send_X5_holds_n77 : GoodIn wsX3_send (wsX5_holds) := ggX3_send_X5_holds
set_option maxRecDepth 20000 in
theorem ggX3_send_X5_put : GoodIn wsX3_send wsX5_put := goodIn_r _ [20] (by decide +kernel) (by decide +kernel)
set_option maxRecDepth 20000 in
theorem gX3_send_X5_put_n133 : GoodIn wsX3_send (wsX5_put) := ggX3_send_X5_put
set_option maxRecDepth 20000 in
theorem ggX3_send_X1_spend : GoodIn wsX3_send wsX1_spend := goodIn_r _ [24, 25, 26, 27, 28, 29, 30, 9, 10, 11, 31, 32, 33, 34, 19, 20, 39, 40, 41, 42, 43, 44, 45] (by decide +kernel) (by decide +kernel)
set_option maxRecDepth 20000 in
theorem gX3_send_X1_spend : GoodIn wsX3_send (wsV RX3 115 RX1 yX1_spend wsX1_spend) := goodIn_app (goodIn_of _ (by decide +kernel)) ggX3_send_X1_spend
theorem dX3_send_0 : decode cX3_send 0 = .ok (.iconst 1, 1) := by decide +kernel
theorem dX3_send_1 : decode cX3_send 1 = .ok (.istore_n 3, 1) := by decide +kernel
theorem dX3_send_2 : decode cX3_send 2 = .ok (.iload_n 3, 1) := by decide +kernel
theorem dX3_send_3 : decode cX3_send 3 = .ok (.aload_n 0, 1) := by decide +kernel
theorem dX3_send_4 : decode cX3_send 4 = .ok (.getfield 12, 3) := by decide +kernel
theorem dX3_send_7 : decode cX3_send 7 = .ok (.iload_n 1, 1) := by decide +kernel
theorem dX3_send_8 : decode cX3_send 8 = .ok (.invokevirtual 96, 3) := by decide +kernel
theorem dX3_send_11 : decode cX3_send 11 = .ok (.if_icmp .ge 100, 3) := by decide +kernel
theorem dX3_send_14 : decode cX3_send 14 = .ok (.aload_n 0, 1) := by decide +kernel
theorem dX3_send_15 : decode cX3_send 15 = .ok (.getfield 12, 3) := by decide +kernel
theorem dX3_send_18 : decode cX3_send 18 = .ok (.iload_n 1, 1) := by decide +kernel
theorem dX3_send_19 : decode cX3_send 19 = .ok (.iload_n 3, 1) := by decide +kernel
theorem dX3_send_20 : decode cX3_send 20 = .ok (.iconst 1, 1) := by decide +kernel
theorem dX3_send_21 : decode cX3_send 21 = .ok (.isub, 1) := by decide +kernel
theorem dX3_send_22 : decode cX3_send 22 = .ok (.invokevirtual 148, 3) := by decide +kernel
theorem dX3_send_25 : decode cX3_send 25 = .ok (.istore 4, 2) := by decide +kernel
theorem dX3_send_27 : decode cX3_send 27 = .ok (.aload_n 0, 1) := by decide +kernel
theorem dX3_send_28 : decode cX3_send 28 = .ok (.getfield 12, 3) := by decide +kernel
theorem dX3_send_31 : decode cX3_send 31 = .ok (.iload_n 1, 1) := by decide +kernel
theorem dX3_send_32 : decode cX3_send 32 = .ok (.iload_n 3, 1) := by decide +kernel
theorem dX3_send_33 : decode cX3_send 33 = .ok (.invokevirtual 148, 3) := by decide +kernel
theorem dX3_send_36 : decode cX3_send 36 = .ok (.istore 5, 2) := by decide +kernel
theorem dX3_send_38 : decode cX3_send 38 = .ok (.aload_n 0, 1) := by decide +kernel
theorem dX3_send_39 : decode cX3_send 39 = .ok (.getfield 29, 3) := by decide +kernel
theorem dX3_send_42 : decode cX3_send 42 = .ok (.iload_n 2, 1) := by decide +kernel
theorem dX3_send_43 : decode cX3_send 43 = .ok (.bipush 10, 2) := by decide +kernel
theorem dX3_send_45 : decode cX3_send 45 = .ok (.imul, 1) := by decide +kernel
theorem dX3_send_46 : decode cX3_send 46 = .ok (.iload 4, 2) := by decide +kernel
theorem dX3_send_48 : decode cX3_send 48 = .ok (.iadd, 1) := by decide +kernel
theorem dX3_send_49 : decode cX3_send 49 = .ok (.invokestatic 140, 3) := by decide +kernel
theorem dX3_send_52 : decode cX3_send 52 = .ok (.istore 6, 2) := by decide +kernel
theorem dX3_send_54 : decode cX3_send 54 = .ok (.iload 6, 2) := by decide +kernel
theorem dX3_send_56 : decode cX3_send 56 = .ok (.iload 5, 2) := by decide +kernel
theorem dX3_send_58 : decode cX3_send 58 = .ok (.invokestatic 77, 3) := by decide +kernel
theorem dX3_send_61 : decode cX3_send 61 = .ok (.ifCond .ne 44, 3) := by decide +kernel
theorem dX3_send_64 : decode cX3_send 64 = .ok (.aload_n 0, 1) := by decide +kernel
theorem dX3_send_65 : decode cX3_send 65 = .ok (.getfield 29, 3) := by decide +kernel
theorem dX3_send_68 : decode cX3_send 68 = .ok (.iload_n 2, 1) := by decide +kernel
theorem dX3_send_69 : decode cX3_send 69 = .ok (.bipush 10, 2) := by decide +kernel
theorem dX3_send_71 : decode cX3_send 71 = .ok (.imul, 1) := by decide +kernel
theorem dX3_send_72 : decode cX3_send 72 = .ok (.iload 4, 2) := by decide +kernel
theorem dX3_send_74 : decode cX3_send 74 = .ok (.iadd, 1) := by decide +kernel
theorem dX3_send_75 : decode cX3_send 75 = .ok (.iload 6, 2) := by decide +kernel
theorem dX3_send_77 : decode cX3_send 77 = .ok (.iconst 1, 1) := by decide +kernel
theorem dX3_send_78 : decode cX3_send 78 = .ok (.iload 5, 2) := by decide +kernel
theorem dX3_send_80 : decode cX3_send 80 = .ok (.ishl, 1) := by decide +kernel
theorem dX3_send_81 : decode cX3_send 81 = .ok (.ior, 1) := by decide +kernel
theorem dX3_send_82 : decode cX3_send 82 = .ok (.invokestatic 133, 3) := by decide +kernel
theorem dX3_send_85 : decode cX3_send 85 = .ok (.aload_n 0, 1) := by decide +kernel
theorem dX3_send_86 : decode cX3_send 86 = .ok (.getfield 12, 3) := by decide +kernel
theorem dX3_send_89 : decode cX3_send 89 = .ok (.iload 4, 2) := by decide +kernel
theorem dX3_send_91 : decode cX3_send 91 = .ok (.iconst 2, 1) := by decide +kernel
theorem dX3_send_92 : decode cX3_send 92 = .ok (.invokevirtual 115, 3) := by decide +kernel
theorem dX3_send_95 : decode cX3_send 95 = .ok (.aload_n 0, 1) := by decide +kernel
theorem dX3_send_96 : decode cX3_send 96 = .ok (.getfield 12, 3) := by decide +kernel
theorem dX3_send_99 : decode cX3_send 99 = .ok (.iload 5, 2) := by decide +kernel
theorem dX3_send_101 : decode cX3_send 101 = .ok (.iconst 1, 1) := by decide +kernel
theorem dX3_send_102 : decode cX3_send 102 = .ok (.invokevirtual 115, 3) := by decide +kernel
theorem dX3_send_105 : decode cX3_send 105 = .ok (.iinc 3 1, 3) := by decide +kernel
theorem dX3_send_108 : decode cX3_send 108 = .ok (.goto (-106), 3) := by decide +kernel
theorem dX3_send_111 : decode cX3_send 111 = .ok (.return_, 1) := by decide +kernel
set_option maxRecDepth 20000 in
theorem ggX4_init_X1_init : GoodIn wsX4_init wsX1_init := goodIn_r _ [12, 13, 2, 3, 8, 14, 15, 16, 17, 18, 19, 20, 21, 22, 23, 24, 25, 26, 27, 28, 29, 30] (by decide +kernel) (by decide +kernel)
set_option maxRecDepth 20000 in
theorem gX4_init_X1_init : GoodIn wsX4_init (wsX1_init) := ggX4_init_X1_init
theorem dX4_init_0 : decode cX4_init 0 = .ok (.aload_n 0, 1) := by decide +kernel
theorem dX4_init_1 : decode cX4_init 1 = .ok (.invokespecial 3, 3) := by decide +kernel
theorem dX4_init_4 : decode cX4_init 4 = .ok (.aload_n 0, 1) := by decide +kernel
theorem dX4_init_5 : decode cX4_init 5 = .ok (.new 9, 3) := by decide +kernel
theorem dX4_init_8 : decode cX4_init 8 = .ok (.dup, 1) := by decide +kernel
theorem dX4_init_9 : decode cX4_init 9 = .ok (.invokespecial 11, 3) := by decide +kernel
theorem dX4_init_12 : decode cX4_init 12 = .ok (.putfield 12, 3) := by decide +kernel
theorem dX4_init_15 : decode cX4_init 15 = .ok (.aload_n 0, 1) := by decide +kernel
theorem dX4_init_16 : decode cX4_init 16 = .ok (.bipush 120, 2) := by decide +kernel
theorem dX4_init_18 : decode cX4_init 18 = .ok (.newarray .int, 2) := by decide +kernel
theorem dX4_init_20 : decode cX4_init 20 = .ok (.putfield 18, 3) := by decide +kernel
theorem dX4_init_23 : decode cX4_init 23 = .ok (.return_, 1) := by decide +kernel
set_option maxRecDepth 20000 in
theorem ggX4_read_X1_copyFrom : GoodIn wsX4_read wsX1_copyFrom := goodIn_r _ [8, 9, 10, 11, 12, 13, 14, 15, 16, 17, 18, 19, 20, 21, 22, 23, 24, 25, 26, 118, 119, 120, 121, 122, 123, 124] (by decide +kernel) (by decide +kernel)
set_option maxRecDepth 20000 in
theorem gX4_read_X1_copyFrom : GoodIn wsX4_read (wsV RX4 30 RX1 yX1_copyFrom wsX1_copyFrom) := goodIn_app (goodIn_of _ (by decide +kernel)) ggX4_read_X1_copyFrom
set_option maxRecDepth 20000 in
theorem ggX4_read_X4_readItem : GoodIn wsX4_read wsX4_readItem := goodIn_r _ [31, 2, 32, 33, 34, 30, 35, 36, 37, 38, 17, 39, 40, 41, 42, 43, 1, 44, 45, 46, 7, 47, 9, 48, 49, 50, 51, 10, 52, 53, 54, 55, 56, 57, 58, 59, 60, 61, 62, 63, 64, 65, 66, 67, 68, 69, 70, 71, 72, 73, 74, 75, 76, 77, 78, 79, 80, 81, 82, 83, 84, 85, 86, 87, 88, 89, 90, 91, 12, 92, 93, 94, 95, 96, 97, 98, 99, 100, 101, 102, 103, 11, 104, 105, 106, 107, 108, 109, 110, 111, 112, 113, 114, 115, 116, 117, 118, 119, 120, 121, 122, 123, 124] (by decide +kernel) (by decide +kernel)
set_option maxRecDepth 20000 in
theorem gX4_read_X4_readItem : GoodIn wsX4_read (wsV RX4 40 RX4 yX4_readItem wsX4_readItem) := goodIn_app (goodIn_of _ (by decide +kernel)) ggX4_read_X4_readItem
set_option maxRecDepth 20000 in
theorem ggX4_read_X4_nextCode : GoodIn wsX4_read wsX4_nextCode := goodIn_r _ [35, 2, 36, 37, 38, 17, 39, 111, 112, 113, 114, 115, 116, 117] (by decide +kernel) (by decide +kernel)
set_option maxRecDepth 20000 in
theorem gX4_read_X4_nextCode : GoodIn wsX4_read (wsV RX4 44 RX4 yX4_nextCode wsX4_nextCode) := goodIn_app (goodIn_of _ (by decide +kernel)) ggX4_read_X4_nextCode
set_option maxRecDepth 20000 in
theorem ggX4_read_X4_readSign : GoodIn wsX4_read wsX4_readSign := goodIn_r _ [67, 2, 32, 33, 34, 30, 35, 36, 37, 38, 17, 39, 59, 60, 61, 62, 63, 111, 112, 113, 114, 115, 116, 117] (by decide +kernel) (by decide +kernel)
set_option maxRecDepth 20000 in
theorem gX4_read_X4_readSign : GoodIn wsX4_read (wsV RX4 48 RX4 yX4_readSign wsX4_readSign) := goodIn_app (goodIn_of _ (by decide +kernel)) ggX4_read_X4_readSign
set_option maxRecDepth 20000 in
theorem ggX4_read_X4_refuse : GoodIn wsX4_read wsX4_refuse := goodIn_r _ [62, 63, 111, 112, 113, 114, 115, 116, 117] (by decide +kernel) (by decide +kernel)
set_option maxRecDepth 20000 in
theorem gX4_read_X4_refuse : GoodIn wsX4_read (wsV RX4 52 RX4 yX4_refuse wsX4_refuse) := goodIn_app (goodIn_of _ (by decide +kernel)) ggX4_read_X4_refuse
theorem dX4_read_0 : decode cX4_read 0 = .ok (.aload_n 0, 1) := by decide +kernel
theorem dX4_read_1 : decode cX4_read 1 = .ok (.getfield 12, 3) := by decide +kernel
theorem dX4_read_4 : decode cX4_read 4 = .ok (.aload_n 1, 1) := by decide +kernel
theorem dX4_read_5 : decode cX4_read 5 = .ok (.invokevirtual 30, 3) := by decide +kernel
theorem dX4_read_8 : decode cX4_read 8 = .ok (.aload_n 0, 1) := by decide +kernel
theorem dX4_read_9 : decode cX4_read 9 = .ok (.iconst 0, 1) := by decide +kernel
theorem dX4_read_10 : decode cX4_read 10 = .ok (.putfield 34, 3) := by decide +kernel
theorem dX4_read_13 : decode cX4_read 13 = .ok (.aload_n 0, 1) := by decide +kernel
theorem dX4_read_14 : decode cX4_read 14 = .ok (.iconst 0, 1) := by decide +kernel
theorem dX4_read_15 : decode cX4_read 15 = .ok (.putfield 37, 3) := by decide +kernel
theorem dX4_read_18 : decode cX4_read 18 = .ok (.iconst 0, 1) := by decide +kernel
theorem dX4_read_19 : decode cX4_read 19 = .ok (.istore_n 2, 1) := by decide +kernel
theorem dX4_read_20 : decode cX4_read 20 = .ok (.iload_n 2, 1) := by decide +kernel
theorem dX4_read_21 : decode cX4_read 21 = .ok (.bipush 120, 2) := by decide +kernel
theorem dX4_read_23 : decode cX4_read 23 = .ok (.if_icmp .ge 49, 3) := by decide +kernel
theorem dX4_read_26 : decode cX4_read 26 = .ok (.aload_n 0, 1) := by decide +kernel
theorem dX4_read_27 : decode cX4_read 27 = .ok (.invokevirtual 40, 3) := by decide +kernel
theorem dX4_read_30 : decode cX4_read 30 = .ok (.ifCond .ne 5, 3) := by decide +kernel
theorem dX4_read_33 : decode cX4_read 33 = .ok (.iconst 0, 1) := by decide +kernel
theorem dX4_read_34 : decode cX4_read 34 = .ok (.ireturn, 1) := by decide +kernel
theorem dX4_read_35 : decode cX4_read 35 = .ok (.aload_n 0, 1) := by decide +kernel
theorem dX4_read_36 : decode cX4_read 36 = .ok (.dup, 1) := by decide +kernel
theorem dX4_read_37 : decode cX4_read 37 = .ok (.getfield 37, 3) := by decide +kernel
theorem dX4_read_40 : decode cX4_read 40 = .ok (.iconst 1, 1) := by decide +kernel
theorem dX4_read_41 : decode cX4_read 41 = .ok (.iadd, 1) := by decide +kernel
theorem dX4_read_42 : decode cX4_read 42 = .ok (.putfield 37, 3) := by decide +kernel
theorem dX4_read_45 : decode cX4_read 45 = .ok (.aload_n 0, 1) := by decide +kernel
theorem dX4_read_46 : decode cX4_read 46 = .ok (.invokevirtual 44, 3) := by decide +kernel
theorem dX4_read_49 : decode cX4_read 49 = .ok (.iconst (-1), 1) := by decide +kernel
theorem dX4_read_50 : decode cX4_read 50 = .ok (.if_icmp .ne 5, 3) := by decide +kernel
theorem dX4_read_53 : decode cX4_read 53 = .ok (.iconst 1, 1) := by decide +kernel
theorem dX4_read_54 : decode cX4_read 54 = .ok (.ireturn, 1) := by decide +kernel
theorem dX4_read_55 : decode cX4_read 55 = .ok (.aload_n 0, 1) := by decide +kernel
theorem dX4_read_56 : decode cX4_read 56 = .ok (.bipush 59, 2) := by decide +kernel
theorem dX4_read_58 : decode cX4_read 58 = .ok (.invokevirtual 48, 3) := by decide +kernel
theorem dX4_read_61 : decode cX4_read 61 = .ok (.ifCond .ne 5, 3) := by decide +kernel
theorem dX4_read_64 : decode cX4_read 64 = .ok (.iconst 0, 1) := by decide +kernel
theorem dX4_read_65 : decode cX4_read 65 = .ok (.ireturn, 1) := by decide +kernel
theorem dX4_read_66 : decode cX4_read 66 = .ok (.iinc 2 1, 3) := by decide +kernel
theorem dX4_read_69 : decode cX4_read 69 = .ok (.goto (-49), 3) := by decide +kernel
theorem dX4_read_72 : decode cX4_read 72 = .ok (.aload_n 0, 1) := by decide +kernel
theorem dX4_read_73 : decode cX4_read 73 = .ok (.aload_n 0, 1) := by decide +kernel
theorem dX4_read_74 : decode cX4_read 74 = .ok (.getfield 34, 3) := by decide +kernel
theorem dX4_read_77 : decode cX4_read 77 = .ok (.invokevirtual 52, 3) := by decide +kernel
theorem dX4_read_80 : decode cX4_read 80 = .ok (.ireturn, 1) := by decide +kernel
set_option maxRecDepth 20000 in
theorem ggX4_readItem_X4_nextCode : GoodIn wsX4_readItem wsX4_nextCode := goodIn_r _ [6, 1, 7, 8, 9, 10, 11, 89, 90, 91, 92, 93, 94, 95] (by decide +kernel) (by decide +kernel)
set_option maxRecDepth 20000 in
theorem gX4_readItem_X4_nextCode : GoodIn wsX4_readItem (wsV RX4 44 RX4 yX4_nextCode wsX4_nextCode) := goodIn_app (goodIn_of _ (by decide +kernel)) ggX4_readItem_X4_nextCode
set_option maxRecDepth 20000 in
theorem ggX4_readItem_X4_readNode : GoodIn wsX4_readItem wsX4_readNode := goodIn_r _ [15, 16, 1, 17, 18, 19, 20, 21, 22, 23, 24, 25, 26, 27, 9, 10, 11, 28, 29, 30, 31, 32, 33, 34, 35, 36, 37, 5, 38, 39, 40, 41, 42, 43, 2, 3, 4, 6, 7, 8, 44, 45, 46, 47, 48, 49, 50, 51, 52, 53, 54, 55, 56, 57, 58, 59, 89, 90, 91, 92, 93, 94, 95, 96, 97, 98, 99, 100, 101, 102] (by decide +kernel) (by decide +kernel)
set_option maxRecDepth 20000 in
theorem gX4_readItem_X4_readNode : GoodIn wsX4_readItem (wsV RX4 55 RX4 yX4_readNode wsX4_readNode) := goodIn_app (goodIn_of _ (by decide +kernel)) ggX4_readItem_X4_readNode
set_option maxRecDepth 20000 in
theorem ggX4_readItem_X4_readSensor : GoodIn wsX4_readItem wsX4_readSensor := goodIn_r _ [63, 16, 1, 17, 18, 19, 20, 21, 22, 23, 24, 25, 26, 27, 9, 10, 11, 28, 29, 30, 31, 32, 33, 34, 35, 36, 37, 5, 38, 39, 40, 41, 42, 43, 2, 3, 4, 6, 7, 8, 44, 45, 46, 47, 48, 49, 50, 51, 52, 53, 64, 65, 66, 67, 68, 58, 59, 89, 90, 91, 92, 93, 94, 95, 96, 97, 98, 99, 100, 101, 102] (by decide +kernel) (by decide +kernel)
set_option maxRecDepth 20000 in
theorem gX4_readItem_X4_readSensor : GoodIn wsX4_readItem (wsV RX4 58 RX4 yX4_readSensor wsX4_readSensor) := goodIn_app (goodIn_of _ (by decide +kernel)) ggX4_readItem_X4_readSensor
set_option maxRecDepth 20000 in
theorem ggX4_readItem_X4_isDigit : GoodIn wsX4_readItem wsX4_isDigit := goodIn_r _ [51] (by decide +kernel) (by decide +kernel)
set_option maxRecDepth 20000 in
theorem gX4_readItem_X4_isDigit : GoodIn wsX4_readItem (va_wsS RX4 61 yX4_isDigit wsX4_isDigit) := goodIn_app (goodIn_of _ (by decide +kernel)) ggX4_readItem_X4_isDigit
set_option maxRecDepth 20000 in
theorem ggX4_readItem_X4_readLink : GoodIn wsX4_readItem wsX4_readLink := goodIn_r _ [72, 16, 1, 48, 17, 18, 19, 20, 21, 22, 23, 24, 25, 26, 27, 9, 10, 11, 28, 29, 30, 31, 32, 33, 34, 35, 36, 37, 5, 38, 39, 44, 45, 46, 47, 7, 8, 2, 3, 4, 6, 49, 50, 51, 52, 53, 40, 41, 42, 43, 73, 74, 75, 76, 77, 78, 79, 80, 81, 82, 83, 84, 85, 86, 87, 88, 58, 59, 89, 90, 91, 92, 93, 94, 95, 96, 97, 98, 99, 100, 101, 102] (by decide +kernel) (by decide +kernel)
set_option maxRecDepth 20000 in
theorem gX4_readItem_X4_readLink : GoodIn wsX4_readItem (wsV RX4 64 RX4 yX4_readLink wsX4_readLink) := goodIn_app (goodIn_of _ (by decide +kernel)) ggX4_readItem_X4_readLink
set_option maxRecDepth 20000 in
theorem ggX4_readItem_X4_refuse : GoodIn wsX4_readItem wsX4_refuse := goodIn_r _ [38, 39, 89, 90, 91, 92, 93, 94, 95] (by decide +kernel) (by decide +kernel)
set_option maxRecDepth 20000 in
theorem gX4_readItem_X4_refuse : GoodIn wsX4_readItem (wsV RX4 52 RX4 yX4_refuse wsX4_refuse) := goodIn_app (goodIn_of _ (by decide +kernel)) ggX4_readItem_X4_refuse
theorem dX4_readItem_0 : decode cX4_readItem 0 = .ok (.aload_n 0, 1) := by decide +kernel
theorem dX4_readItem_1 : decode cX4_readItem 1 = .ok (.invokevirtual 44, 3) := by decide +kernel
theorem dX4_readItem_4 : decode cX4_readItem 4 = .ok (.istore_n 1, 1) := by decide +kernel
theorem dX4_readItem_5 : decode cX4_readItem 5 = .ok (.iload_n 1, 1) := by decide +kernel
theorem dX4_readItem_6 : decode cX4_readItem 6 = .ok (.bipush 110, 2) := by decide +kernel
theorem dX4_readItem_8 : decode cX4_readItem 8 = .ok (.if_icmp .ne 8, 3) := by decide +kernel
theorem dX4_readItem_11 : decode cX4_readItem 11 = .ok (.aload_n 0, 1) := by decide +kernel
theorem dX4_readItem_12 : decode cX4_readItem 12 = .ok (.invokevirtual 55, 3) := by decide +kernel
theorem dX4_readItem_15 : decode cX4_readItem 15 = .ok (.ireturn, 1) := by decide +kernel
theorem dX4_readItem_16 : decode cX4_readItem 16 = .ok (.iload_n 1, 1) := by decide +kernel
theorem dX4_readItem_17 : decode cX4_readItem 17 = .ok (.bipush 115, 2) := by decide +kernel
theorem dX4_readItem_19 : decode cX4_readItem 19 = .ok (.if_icmp .ne 8, 3) := by decide +kernel
theorem dX4_readItem_22 : decode cX4_readItem 22 = .ok (.aload_n 0, 1) := by decide +kernel
theorem dX4_readItem_23 : decode cX4_readItem 23 = .ok (.invokevirtual 58, 3) := by decide +kernel
theorem dX4_readItem_26 : decode cX4_readItem 26 = .ok (.ireturn, 1) := by decide +kernel
theorem dX4_readItem_27 : decode cX4_readItem 27 = .ok (.iload_n 1, 1) := by decide +kernel
theorem dX4_readItem_28 : decode cX4_readItem 28 = .ok (.invokestatic 61, 3) := by decide +kernel
theorem dX4_readItem_31 : decode cX4_readItem 31 = .ok (.ifCond .eq 10, 3) := by decide +kernel
theorem dX4_readItem_34 : decode cX4_readItem 34 = .ok (.aload_n 0, 1) := by decide +kernel
theorem dX4_readItem_35 : decode cX4_readItem 35 = .ok (.invokevirtual 64, 3) := by decide +kernel
theorem dX4_readItem_38 : decode cX4_readItem 38 = .ok (.goto 11, 3) := by decide +kernel
theorem dX4_readItem_41 : decode cX4_readItem 41 = .ok (.aload_n 0, 1) := by decide +kernel
theorem dX4_readItem_42 : decode cX4_readItem 42 = .ok (.aload_n 0, 1) := by decide +kernel
theorem dX4_readItem_43 : decode cX4_readItem 43 = .ok (.getfield 34, 3) := by decide +kernel
theorem dX4_readItem_46 : decode cX4_readItem 46 = .ok (.invokevirtual 52, 3) := by decide +kernel
theorem dX4_readItem_49 : decode cX4_readItem 49 = .ok (.ireturn, 1) := by decide +kernel
set_option maxRecDepth 20000 in
theorem ggX4_readNode_X1_number : GoodIn wsX4_readNode wsX1_number := goodIn_r _ [7, 8, 9, 10, 11, 6, 12, 13, 14, 15, 16, 17, 18, 19, 20, 21, 22, 23, 63, 64, 65, 66, 67, 68, 69] (by decide +kernel) (by decide +kernel)
set_option maxRecDepth 20000 in
theorem gX4_readNode_X1_number : GoodIn wsX4_readNode (wsV RX4 67 RX1 yX1_number wsX1_number) := goodIn_app (goodIn_of _ (by decide +kernel)) ggX4_readNode_X1_number
set_option maxRecDepth 20000 in
theorem ggX4_readNode_X4_refuse : GoodIn wsX4_readNode wsX4_refuse := goodIn_r _ [28, 29, 56, 57, 58, 59, 60, 61, 62] (by decide +kernel) (by decide +kernel)
set_option maxRecDepth 20000 in
theorem gX4_readNode_X4_refuse : GoodIn wsX4_readNode (wsV RX4 52 RX4 yX4_refuse wsX4_refuse) := goodIn_app (goodIn_of _ (by decide +kernel)) ggX4_readNode_X4_refuse
set_option maxRecDepth 20000 in
theorem ggX4_readNode_X4_readSign : GoodIn wsX4_readNode wsX4_readSign := goodIn_r _ [33, 2, 34, 35, 36, 27, 37, 38, 39, 14, 15, 16, 24, 25, 26, 28, 29, 56, 57, 58, 59, 60, 61, 62] (by decide +kernel) (by decide +kernel)
set_option maxRecDepth 20000 in
theorem gX4_readNode_X4_readSign : GoodIn wsX4_readNode (wsV RX4 48 RX4 yX4_readSign wsX4_readSign) := goodIn_app (goodIn_of _ (by decide +kernel)) ggX4_readNode_X4_readSign
set_option maxRecDepth 20000 in
theorem ggX4_readNode_X4_readNumber : GoodIn wsX4_readNode wsX4_readNumber := goodIn_r _ [43, 2, 44, 38, 39, 34, 35, 36, 27, 37, 14, 15, 16, 45, 46, 47, 48, 49, 24, 25, 26, 28, 29, 56, 57, 58, 59, 60, 61, 62] (by decide +kernel) (by decide +kernel)
set_option maxRecDepth 20000 in
theorem gX4_readNode_X4_readNumber : GoodIn wsX4_readNode (wsV RX4 71 RX4 yX4_readNumber wsX4_readNumber) := goodIn_app (goodIn_of _ (by decide +kernel)) ggX4_readNode_X4_readNumber
set_option maxRecDepth 20000 in
theorem ggX4_readNode_X1_appendNode : GoodIn wsX4_readNode wsX1_appendNode := goodIn_r _ [53, 8, 13, 14, 15, 16, 54, 55, 63, 64, 65, 66, 67, 68, 69] (by decide +kernel) (by decide +kernel)
set_option maxRecDepth 20000 in
theorem gX4_readNode_X1_appendNode : GoodIn wsX4_readNode (wsV RX4 75 RX1 yX1_appendNode wsX1_appendNode) := goodIn_app (goodIn_of _ (by decide +kernel)) ggX4_readNode_X1_appendNode
theorem dX4_readNode_0 : decode cX4_readNode 0 = .ok (.aload_n 0, 1) := by decide +kernel
theorem dX4_readNode_1 : decode cX4_readNode 1 = .ok (.getfield 12, 3) := by decide +kernel
theorem dX4_readNode_4 : decode cX4_readNode 4 = .ok (.iconst 0, 1) := by decide +kernel
theorem dX4_readNode_5 : decode cX4_readNode 5 = .ok (.invokevirtual 67, 3) := by decide +kernel
theorem dX4_readNode_8 : decode cX4_readNode 8 = .ok (.bipush 10, 2) := by decide +kernel
theorem dX4_readNode_10 : decode cX4_readNode 10 = .ok (.if_icmp .lt 12, 3) := by decide +kernel
theorem dX4_readNode_13 : decode cX4_readNode 13 = .ok (.aload_n 0, 1) := by decide +kernel
theorem dX4_readNode_14 : decode cX4_readNode 14 = .ok (.aload_n 0, 1) := by decide +kernel
theorem dX4_readNode_15 : decode cX4_readNode 15 = .ok (.getfield 34, 3) := by decide +kernel
theorem dX4_readNode_18 : decode cX4_readNode 18 = .ok (.invokevirtual 52, 3) := by decide +kernel
theorem dX4_readNode_21 : decode cX4_readNode 21 = .ok (.ireturn, 1) := by decide +kernel
theorem dX4_readNode_22 : decode cX4_readNode 22 = .ok (.aload_n 0, 1) := by decide +kernel
theorem dX4_readNode_23 : decode cX4_readNode 23 = .ok (.bipush 110, 2) := by decide +kernel
theorem dX4_readNode_25 : decode cX4_readNode 25 = .ok (.invokevirtual 48, 3) := by decide +kernel
theorem dX4_readNode_28 : decode cX4_readNode 28 = .ok (.ifCond .eq 14, 3) := by decide +kernel
theorem dX4_readNode_31 : decode cX4_readNode 31 = .ok (.aload_n 0, 1) := by decide +kernel
theorem dX4_readNode_32 : decode cX4_readNode 32 = .ok (.iconst 1, 1) := by decide +kernel
theorem dX4_readNode_33 : decode cX4_readNode 33 = .ok (.sipush 10000, 3) := by decide +kernel
theorem dX4_readNode_36 : decode cX4_readNode 36 = .ok (.invokevirtual 71, 3) := by decide +kernel
theorem dX4_readNode_39 : decode cX4_readNode 39 = .ok (.goto 4, 3) := by decide +kernel
theorem dX4_readNode_42 : decode cX4_readNode 42 = .ok (.iconst (-1), 1) := by decide +kernel
theorem dX4_readNode_43 : decode cX4_readNode 43 = .ok (.istore_n 1, 1) := by decide +kernel
theorem dX4_readNode_44 : decode cX4_readNode 44 = .ok (.iload_n 1, 1) := by decide +kernel
theorem dX4_readNode_45 : decode cX4_readNode 45 = .ok (.iconst (-1), 1) := by decide +kernel
theorem dX4_readNode_46 : decode cX4_readNode 46 = .ok (.if_icmp .ne 5, 3) := by decide +kernel
theorem dX4_readNode_49 : decode cX4_readNode 49 = .ok (.iconst 0, 1) := by decide +kernel
theorem dX4_readNode_50 : decode cX4_readNode 50 = .ok (.ireturn, 1) := by decide +kernel
theorem dX4_readNode_51 : decode cX4_readNode 51 = .ok (.aload_n 0, 1) := by decide +kernel
theorem dX4_readNode_52 : decode cX4_readNode 52 = .ok (.getfield 12, 3) := by decide +kernel
theorem dX4_readNode_55 : decode cX4_readNode 55 = .ok (.iload_n 1, 1) := by decide +kernel
theorem dX4_readNode_56 : decode cX4_readNode 56 = .ok (.invokevirtual 75, 3) := by decide +kernel
theorem dX4_readNode_59 : decode cX4_readNode 59 = .ok (.pop, 1) := by decide +kernel
theorem dX4_readNode_60 : decode cX4_readNode 60 = .ok (.iconst 1, 1) := by decide +kernel
theorem dX4_readNode_61 : decode cX4_readNode 61 = .ok (.ireturn, 1) := by decide +kernel
set_option maxRecDepth 20000 in
theorem ggX4_readLink_X1_number : GoodIn wsX4_readLink wsX1_number := goodIn_r _ [8, 9, 10, 11, 12, 7, 13, 14, 15, 16, 17, 18, 19, 20, 21, 22, 23, 24, 75, 76, 77, 78, 79, 80, 81] (by decide +kernel) (by decide +kernel)
set_option maxRecDepth 20000 in
theorem gX4_readLink_X1_number : GoodIn wsX4_readLink (wsV RX4 67 RX1 yX1_number wsX1_number) := goodIn_app (goodIn_of _ (by decide +kernel)) ggX4_readLink_X1_number
set_option maxRecDepth 20000 in
theorem ggX4_readLink_X4_refuse : GoodIn wsX4_readLink wsX4_refuse := goodIn_r _ [29, 30, 68, 69, 70, 71, 72, 73, 74] (by decide +kernel) (by decide +kernel)
set_option maxRecDepth 20000 in
theorem gX4_readLink_X4_refuse : GoodIn wsX4_readLink (wsV RX4 52 RX4 yX4_refuse wsX4_refuse) := goodIn_app (goodIn_of _ (by decide +kernel)) ggX4_readLink_X4_refuse
set_option maxRecDepth 20000 in
theorem ggX4_readLink_X4_readNumber : GoodIn wsX4_readLink wsX4_readNumber := goodIn_r _ [34, 2, 3, 35, 36, 37, 38, 39, 28, 40, 15, 16, 17, 41, 42, 43, 44, 45, 25, 26, 27, 29, 30, 68, 69, 70, 71, 72, 73, 74] (by decide +kernel) (by decide +kernel)
set_option maxRecDepth 20000 in
theorem gX4_readLink_X4_readNumber : GoodIn wsX4_readLink (wsV RX4 71 RX4 yX4_readNumber wsX4_readNumber) := goodIn_app (goodIn_of _ (by decide +kernel)) ggX4_readLink_X4_readNumber
set_option maxRecDepth 20000 in
theorem ggX4_readLink_X4_readSign : GoodIn wsX4_readLink wsX4_readSign := goodIn_r _ [49, 2, 37, 38, 39, 28, 40, 35, 36, 15, 16, 17, 25, 26, 27, 29, 30, 68, 69, 70, 71, 72, 73, 74] (by decide +kernel) (by decide +kernel)
set_option maxRecDepth 20000 in
theorem gX4_readLink_X4_readSign : GoodIn wsX4_readLink (wsV RX4 48 RX4 yX4_readSign wsX4_readSign) := goodIn_app (goodIn_of _ (by decide +kernel)) ggX4_readLink_X4_readSign
set_option maxRecDepth 20000 in
theorem ggX4_readLink_X1_areLinked : GoodIn wsX4_readLink wsX1_areLinked := goodIn_r _ [53, 9, 15, 16, 17, 54, 55, 56, 7, 57, 58, 59, 60, 61, 75, 76, 77, 78, 79, 80, 81] (by decide +kernel) (by decide +kernel)
set_option maxRecDepth 20000 in
theorem gX4_readLink_X1_areLinked : GoodIn wsX4_readLink (wsV RX4 78 RX1 yX1_areLinked wsX1_areLinked) := goodIn_app (goodIn_of _ (by decide +kernel)) ggX4_readLink_X1_areLinked
set_option maxRecDepth 20000 in
theorem ggX4_readLink_X1_appendLink : GoodIn wsX4_readLink wsX1_appendLink := goodIn_r _ [65, 9, 58, 15, 16, 17, 66, 67, 75, 76, 77, 78, 79, 80, 81] (by decide +kernel) (by decide +kernel)
set_option maxRecDepth 20000 in
theorem gX4_readLink_X1_appendLink : GoodIn wsX4_readLink (wsV RX4 85 RX1 yX1_appendLink wsX1_appendLink) := goodIn_app (goodIn_of _ (by decide +kernel)) ggX4_readLink_X1_appendLink
theorem dX4_readLink_0 : decode cX4_readLink 0 = .ok (.aload_n 0, 1) := by decide +kernel
theorem dX4_readLink_1 : decode cX4_readLink 1 = .ok (.getfield 12, 3) := by decide +kernel
theorem dX4_readLink_4 : decode cX4_readLink 4 = .ok (.iconst 1, 1) := by decide +kernel
theorem dX4_readLink_5 : decode cX4_readLink 5 = .ok (.invokevirtual 67, 3) := by decide +kernel
theorem dX4_readLink_8 : decode cX4_readLink 8 = .ok (.bipush 20, 2) := by decide +kernel
theorem dX4_readLink_10 : decode cX4_readLink 10 = .ok (.if_icmp .lt 12, 3) := by decide +kernel
theorem dX4_readLink_13 : decode cX4_readLink 13 = .ok (.aload_n 0, 1) := by decide +kernel
theorem dX4_readLink_14 : decode cX4_readLink 14 = .ok (.aload_n 0, 1) := by decide +kernel
theorem dX4_readLink_15 : decode cX4_readLink 15 = .ok (.getfield 34, 3) := by decide +kernel
theorem dX4_readLink_18 : decode cX4_readLink 18 = .ok (.invokevirtual 52, 3) := by decide +kernel
theorem dX4_readLink_21 : decode cX4_readLink 21 = .ok (.ireturn, 1) := by decide +kernel
theorem dX4_readLink_22 : decode cX4_readLink 22 = .ok (.aload_n 0, 1) := by decide +kernel
theorem dX4_readLink_23 : decode cX4_readLink 23 = .ok (.getfield 12, 3) := by decide +kernel
theorem dX4_readLink_26 : decode cX4_readLink 26 = .ok (.iconst 0, 1) := by decide +kernel
theorem dX4_readLink_27 : decode cX4_readLink 27 = .ok (.invokevirtual 67, 3) := by decide +kernel
theorem dX4_readLink_30 : decode cX4_readLink 30 = .ok (.iconst 1, 1) := by decide +kernel
theorem dX4_readLink_31 : decode cX4_readLink 31 = .ok (.isub, 1) := by decide +kernel
theorem dX4_readLink_32 : decode cX4_readLink 32 = .ok (.istore_n 1, 1) := by decide +kernel
theorem dX4_readLink_33 : decode cX4_readLink 33 = .ok (.aload_n 0, 1) := by decide +kernel
theorem dX4_readLink_34 : decode cX4_readLink 34 = .ok (.iconst 0, 1) := by decide +kernel
theorem dX4_readLink_35 : decode cX4_readLink 35 = .ok (.iload_n 1, 1) := by decide +kernel
theorem dX4_readLink_36 : decode cX4_readLink 36 = .ok (.invokevirtual 71, 3) := by decide +kernel
theorem dX4_readLink_39 : decode cX4_readLink 39 = .ok (.istore_n 2, 1) := by decide +kernel
theorem dX4_readLink_40 : decode cX4_readLink 40 = .ok (.iload_n 2, 1) := by decide +kernel
theorem dX4_readLink_41 : decode cX4_readLink 41 = .ok (.iconst (-1), 1) := by decide +kernel
theorem dX4_readLink_42 : decode cX4_readLink 42 = .ok (.if_icmp .eq 12, 3) := by decide +kernel
theorem dX4_readLink_45 : decode cX4_readLink 45 = .ok (.aload_n 0, 1) := by decide +kernel
theorem dX4_readLink_46 : decode cX4_readLink 46 = .ok (.bipush 45, 2) := by decide +kernel
theorem dX4_readLink_48 : decode cX4_readLink 48 = .ok (.invokevirtual 48, 3) := by decide +kernel
theorem dX4_readLink_51 : decode cX4_readLink 51 = .ok (.ifCond .ne 5, 3) := by decide +kernel
theorem dX4_readLink_54 : decode cX4_readLink 54 = .ok (.iconst 0, 1) := by decide +kernel
theorem dX4_readLink_55 : decode cX4_readLink 55 = .ok (.ireturn, 1) := by decide +kernel
theorem dX4_readLink_56 : decode cX4_readLink 56 = .ok (.aload_n 0, 1) := by decide +kernel
theorem dX4_readLink_57 : decode cX4_readLink 57 = .ok (.iconst 0, 1) := by decide +kernel
theorem dX4_readLink_58 : decode cX4_readLink 58 = .ok (.iload_n 1, 1) := by decide +kernel
theorem dX4_readLink_59 : decode cX4_readLink 59 = .ok (.invokevirtual 71, 3) := by decide +kernel
theorem dX4_readLink_62 : decode cX4_readLink 62 = .ok (.istore_n 3, 1) := by decide +kernel
theorem dX4_readLink_63 : decode cX4_readLink 63 = .ok (.iload_n 3, 1) := by decide +kernel
theorem dX4_readLink_64 : decode cX4_readLink 64 = .ok (.iconst (-1), 1) := by decide +kernel
theorem dX4_readLink_65 : decode cX4_readLink 65 = .ok (.if_icmp .ne 5, 3) := by decide +kernel
theorem dX4_readLink_68 : decode cX4_readLink 68 = .ok (.iconst 0, 1) := by decide +kernel
theorem dX4_readLink_69 : decode cX4_readLink 69 = .ok (.ireturn, 1) := by decide +kernel
theorem dX4_readLink_70 : decode cX4_readLink 70 = .ok (.iload_n 2, 1) := by decide +kernel
theorem dX4_readLink_71 : decode cX4_readLink 71 = .ok (.iload_n 3, 1) := by decide +kernel
theorem dX4_readLink_72 : decode cX4_readLink 72 = .ok (.if_icmp .eq 15, 3) := by decide +kernel
theorem dX4_readLink_75 : decode cX4_readLink 75 = .ok (.aload_n 0, 1) := by decide +kernel
theorem dX4_readLink_76 : decode cX4_readLink 76 = .ok (.getfield 12, 3) := by decide +kernel
theorem dX4_readLink_79 : decode cX4_readLink 79 = .ok (.iload_n 2, 1) := by decide +kernel
theorem dX4_readLink_80 : decode cX4_readLink 80 = .ok (.iload_n 3, 1) := by decide +kernel
theorem dX4_readLink_81 : decode cX4_readLink 81 = .ok (.invokevirtual 78, 3) := by decide +kernel
theorem dX4_readLink_84 : decode cX4_readLink 84 = .ok (.ifCond .eq 12, 3) := by decide +kernel
theorem dX4_readLink_87 : decode cX4_readLink 87 = .ok (.aload_n 0, 1) := by decide +kernel
theorem dX4_readLink_88 : decode cX4_readLink 88 = .ok (.aload_n 0, 1) := by decide +kernel
theorem dX4_readLink_89 : decode cX4_readLink 89 = .ok (.getfield 82, 3) := by decide +kernel
theorem dX4_readLink_92 : decode cX4_readLink 92 = .ok (.invokevirtual 52, 3) := by decide +kernel
theorem dX4_readLink_95 : decode cX4_readLink 95 = .ok (.ireturn, 1) := by decide +kernel
theorem dX4_readLink_96 : decode cX4_readLink 96 = .ok (.aload_n 0, 1) := by decide +kernel
theorem dX4_readLink_97 : decode cX4_readLink 97 = .ok (.bipush 58, 2) := by decide +kernel
theorem dX4_readLink_99 : decode cX4_readLink 99 = .ok (.invokevirtual 48, 3) := by decide +kernel
theorem dX4_readLink_102 : decode cX4_readLink 102 = .ok (.ifCond .eq 13, 3) := by decide +kernel
theorem dX4_readLink_105 : decode cX4_readLink 105 = .ok (.aload_n 0, 1) := by decide +kernel
theorem dX4_readLink_106 : decode cX4_readLink 106 = .ok (.iconst 1, 1) := by decide +kernel
theorem dX4_readLink_107 : decode cX4_readLink 107 = .ok (.bipush 20, 2) := by decide +kernel
theorem dX4_readLink_109 : decode cX4_readLink 109 = .ok (.invokevirtual 71, 3) := by decide +kernel
theorem dX4_readLink_112 : decode cX4_readLink 112 = .ok (.goto 4, 3) := by decide +kernel
theorem dX4_readLink_115 : decode cX4_readLink 115 = .ok (.iconst (-1), 1) := by decide +kernel
theorem dX4_readLink_116 : decode cX4_readLink 116 = .ok (.istore 4, 2) := by decide +kernel
theorem dX4_readLink_118 : decode cX4_readLink 118 = .ok (.iload 4, 2) := by decide +kernel
theorem dX4_readLink_120 : decode cX4_readLink 120 = .ok (.iconst (-1), 1) := by decide +kernel
theorem dX4_readLink_121 : decode cX4_readLink 121 = .ok (.if_icmp .ne 5, 3) := by decide +kernel
theorem dX4_readLink_124 : decode cX4_readLink 124 = .ok (.iconst 0, 1) := by decide +kernel
theorem dX4_readLink_125 : decode cX4_readLink 125 = .ok (.ireturn, 1) := by decide +kernel
theorem dX4_readLink_126 : decode cX4_readLink 126 = .ok (.aload_n 0, 1) := by decide +kernel
theorem dX4_readLink_127 : decode cX4_readLink 127 = .ok (.getfield 12, 3) := by decide +kernel
theorem dX4_readLink_130 : decode cX4_readLink 130 = .ok (.iload_n 2, 1) := by decide +kernel
theorem dX4_readLink_131 : decode cX4_readLink 131 = .ok (.iload_n 3, 1) := by decide +kernel
theorem dX4_readLink_132 : decode cX4_readLink 132 = .ok (.iload 4, 2) := by decide +kernel
theorem dX4_readLink_134 : decode cX4_readLink 134 = .ok (.invokevirtual 85, 3) := by decide +kernel
theorem dX4_readLink_137 : decode cX4_readLink 137 = .ok (.pop, 1) := by decide +kernel
theorem dX4_readLink_138 : decode cX4_readLink 138 = .ok (.iconst 1, 1) := by decide +kernel
theorem dX4_readLink_139 : decode cX4_readLink 139 = .ok (.ireturn, 1) := by decide +kernel
set_option maxRecDepth 20000 in
theorem ggX4_readSensor_X1_number : GoodIn wsX4_readSensor wsX1_number := goodIn_r _ [7, 8, 9, 10, 11, 6, 12, 13, 14, 15, 16, 17, 18, 19, 20, 21, 22, 23, 64, 65, 66, 67, 68, 69, 70] (by decide +kernel) (by decide +kernel)
set_option maxRecDepth 20000 in
theorem gX4_readSensor_X1_number : GoodIn wsX4_readSensor (wsV RX4 67 RX1 yX1_number wsX1_number) := goodIn_app (goodIn_of _ (by decide +kernel)) ggX4_readSensor_X1_number
set_option maxRecDepth 20000 in
theorem ggX4_readSensor_X4_refuse : GoodIn wsX4_readSensor wsX4_refuse := goodIn_r _ [28, 29, 57, 58, 59, 60, 61, 62, 63] (by decide +kernel) (by decide +kernel)
set_option maxRecDepth 20000 in
theorem gX4_readSensor_X4_refuse : GoodIn wsX4_readSensor (wsV RX4 52 RX4 yX4_refuse wsX4_refuse) := goodIn_app (goodIn_of _ (by decide +kernel)) ggX4_readSensor_X4_refuse
set_option maxRecDepth 20000 in
theorem ggX4_readSensor_X4_readSign : GoodIn wsX4_readSensor wsX4_readSign := goodIn_r _ [33, 2, 34, 35, 36, 27, 37, 38, 39, 14, 15, 16, 24, 25, 26, 28, 29, 57, 58, 59, 60, 61, 62, 63] (by decide +kernel) (by decide +kernel)
set_option maxRecDepth 20000 in
theorem gX4_readSensor_X4_readSign : GoodIn wsX4_readSensor (wsV RX4 48 RX4 yX4_readSign wsX4_readSign) := goodIn_app (goodIn_of _ (by decide +kernel)) ggX4_readSensor_X4_readSign
set_option maxRecDepth 20000 in
theorem ggX4_readSensor_X4_readNumber : GoodIn wsX4_readSensor wsX4_readNumber := goodIn_r _ [43, 2, 44, 38, 39, 34, 35, 36, 27, 37, 14, 15, 16, 45, 46, 47, 48, 49, 24, 25, 26, 28, 29, 57, 58, 59, 60, 61, 62, 63] (by decide +kernel) (by decide +kernel)
set_option maxRecDepth 20000 in
theorem gX4_readSensor_X4_readNumber : GoodIn wsX4_readSensor (wsV RX4 71 RX4 yX4_readNumber wsX4_readNumber) := goodIn_app (goodIn_of _ (by decide +kernel)) ggX4_readSensor_X4_readNumber
set_option maxRecDepth 20000 in
theorem ggX4_readSensor_X4_nextCode : GoodIn wsX4_readSensor wsX4_nextCode := goodIn_r _ [37, 2, 38, 39, 14, 15, 16, 57, 58, 59, 60, 61, 62, 63] (by decide +kernel) (by decide +kernel)
set_option maxRecDepth 20000 in
theorem gX4_readSensor_X4_nextCode : GoodIn wsX4_readSensor (wsV RX4 44 RX4 yX4_nextCode wsX4_nextCode) := goodIn_app (goodIn_of _ (by decide +kernel)) ggX4_readSensor_X4_nextCode
set_option maxRecDepth 20000 in
theorem ggX4_readSensor_X1_appendSensor : GoodIn wsX4_readSensor wsX1_appendSensor := goodIn_r _ [53, 8, 54, 14, 15, 16, 55, 56, 64, 65, 66, 67, 68, 69, 70] (by decide +kernel) (by decide +kernel)
set_option maxRecDepth 20000 in
theorem gX4_readSensor_X1_appendSensor : GoodIn wsX4_readSensor (wsV RX4 89 RX1 yX1_appendSensor wsX1_appendSensor) := goodIn_app (goodIn_of _ (by decide +kernel)) ggX4_readSensor_X1_appendSensor
theorem dX4_readSensor_0 : decode cX4_readSensor 0 = .ok (.aload_n 0, 1) := by decide +kernel
theorem dX4_readSensor_1 : decode cX4_readSensor 1 = .ok (.getfield 12, 3) := by decide +kernel
theorem dX4_readSensor_4 : decode cX4_readSensor 4 = .ok (.iconst 2, 1) := by decide +kernel
theorem dX4_readSensor_5 : decode cX4_readSensor 5 = .ok (.invokevirtual 67, 3) := by decide +kernel
theorem dX4_readSensor_8 : decode cX4_readSensor 8 = .ok (.bipush 6, 2) := by decide +kernel
theorem dX4_readSensor_10 : decode cX4_readSensor 10 = .ok (.if_icmp .lt 12, 3) := by decide +kernel
theorem dX4_readSensor_13 : decode cX4_readSensor 13 = .ok (.aload_n 0, 1) := by decide +kernel
theorem dX4_readSensor_14 : decode cX4_readSensor 14 = .ok (.aload_n 0, 1) := by decide +kernel
theorem dX4_readSensor_15 : decode cX4_readSensor 15 = .ok (.getfield 34, 3) := by decide +kernel
theorem dX4_readSensor_18 : decode cX4_readSensor 18 = .ok (.invokevirtual 52, 3) := by decide +kernel
theorem dX4_readSensor_21 : decode cX4_readSensor 21 = .ok (.ireturn, 1) := by decide +kernel
theorem dX4_readSensor_22 : decode cX4_readSensor 22 = .ok (.aload_n 0, 1) := by decide +kernel
theorem dX4_readSensor_23 : decode cX4_readSensor 23 = .ok (.bipush 115, 2) := by decide +kernel
theorem dX4_readSensor_25 : decode cX4_readSensor 25 = .ok (.invokevirtual 48, 3) := by decide +kernel
theorem dX4_readSensor_28 : decode cX4_readSensor 28 = .ok (.ifCond .eq 21, 3) := by decide +kernel
theorem dX4_readSensor_31 : decode cX4_readSensor 31 = .ok (.aload_n 0, 1) := by decide +kernel
theorem dX4_readSensor_32 : decode cX4_readSensor 32 = .ok (.iconst 0, 1) := by decide +kernel
theorem dX4_readSensor_33 : decode cX4_readSensor 33 = .ok (.aload_n 0, 1) := by decide +kernel
theorem dX4_readSensor_34 : decode cX4_readSensor 34 = .ok (.getfield 12, 3) := by decide +kernel
theorem dX4_readSensor_37 : decode cX4_readSensor 37 = .ok (.iconst 0, 1) := by decide +kernel
theorem dX4_readSensor_38 : decode cX4_readSensor 38 = .ok (.invokevirtual 67, 3) := by decide +kernel
theorem dX4_readSensor_41 : decode cX4_readSensor 41 = .ok (.iconst 1, 1) := by decide +kernel
theorem dX4_readSensor_42 : decode cX4_readSensor 42 = .ok (.isub, 1) := by decide +kernel
theorem dX4_readSensor_43 : decode cX4_readSensor 43 = .ok (.invokevirtual 71, 3) := by decide +kernel
theorem dX4_readSensor_46 : decode cX4_readSensor 46 = .ok (.goto 4, 3) := by decide +kernel
theorem dX4_readSensor_49 : decode cX4_readSensor 49 = .ok (.iconst (-1), 1) := by decide +kernel
theorem dX4_readSensor_50 : decode cX4_readSensor 50 = .ok (.istore_n 1, 1) := by decide +kernel
theorem dX4_readSensor_51 : decode cX4_readSensor 51 = .ok (.iload_n 1, 1) := by decide +kernel
theorem dX4_readSensor_52 : decode cX4_readSensor 52 = .ok (.iconst (-1), 1) := by decide +kernel
theorem dX4_readSensor_53 : decode cX4_readSensor 53 = .ok (.if_icmp .eq 12, 3) := by decide +kernel
theorem dX4_readSensor_56 : decode cX4_readSensor 56 = .ok (.aload_n 0, 1) := by decide +kernel
theorem dX4_readSensor_57 : decode cX4_readSensor 57 = .ok (.bipush 44, 2) := by decide +kernel
theorem dX4_readSensor_59 : decode cX4_readSensor 59 = .ok (.invokevirtual 48, 3) := by decide +kernel
theorem dX4_readSensor_62 : decode cX4_readSensor 62 = .ok (.ifCond .ne 5, 3) := by decide +kernel
theorem dX4_readSensor_65 : decode cX4_readSensor 65 = .ok (.iconst 0, 1) := by decide +kernel
theorem dX4_readSensor_66 : decode cX4_readSensor 66 = .ok (.ireturn, 1) := by decide +kernel
theorem dX4_readSensor_67 : decode cX4_readSensor 67 = .ok (.aload_n 0, 1) := by decide +kernel
theorem dX4_readSensor_68 : decode cX4_readSensor 68 = .ok (.iconst 0, 1) := by decide +kernel
theorem dX4_readSensor_69 : decode cX4_readSensor 69 = .ok (.bipush 7, 2) := by decide +kernel
theorem dX4_readSensor_71 : decode cX4_readSensor 71 = .ok (.invokevirtual 71, 3) := by decide +kernel
theorem dX4_readSensor_74 : decode cX4_readSensor 74 = .ok (.istore_n 2, 1) := by decide +kernel
theorem dX4_readSensor_75 : decode cX4_readSensor 75 = .ok (.iload_n 2, 1) := by decide +kernel
theorem dX4_readSensor_76 : decode cX4_readSensor 76 = .ok (.iconst (-1), 1) := by decide +kernel
theorem dX4_readSensor_77 : decode cX4_readSensor 77 = .ok (.if_icmp .eq 12, 3) := by decide +kernel
theorem dX4_readSensor_80 : decode cX4_readSensor 80 = .ok (.aload_n 0, 1) := by decide +kernel
theorem dX4_readSensor_81 : decode cX4_readSensor 81 = .ok (.bipush 61, 2) := by decide +kernel
theorem dX4_readSensor_83 : decode cX4_readSensor 83 = .ok (.invokevirtual 48, 3) := by decide +kernel
theorem dX4_readSensor_86 : decode cX4_readSensor 86 = .ok (.ifCond .ne 5, 3) := by decide +kernel
theorem dX4_readSensor_89 : decode cX4_readSensor 89 = .ok (.iconst 0, 1) := by decide +kernel
theorem dX4_readSensor_90 : decode cX4_readSensor 90 = .ok (.ireturn, 1) := by decide +kernel
theorem dX4_readSensor_91 : decode cX4_readSensor 91 = .ok (.aload_n 0, 1) := by decide +kernel
theorem dX4_readSensor_92 : decode cX4_readSensor 92 = .ok (.invokevirtual 44, 3) := by decide +kernel
theorem dX4_readSensor_95 : decode cX4_readSensor 95 = .ok (.bipush 45, 2) := by decide +kernel
theorem dX4_readSensor_97 : decode cX4_readSensor 97 = .ok (.if_icmp .ne 16, 3) := by decide +kernel
theorem dX4_readSensor_100 : decode cX4_readSensor 100 = .ok (.aload_n 0, 1) := by decide +kernel
theorem dX4_readSensor_101 : decode cX4_readSensor 101 = .ok (.bipush 45, 2) := by decide +kernel
theorem dX4_readSensor_103 : decode cX4_readSensor 103 = .ok (.invokevirtual 48, 3) := by decide +kernel
theorem dX4_readSensor_106 : decode cX4_readSensor 106 = .ok (.ifCond .eq 7, 3) := by decide +kernel
theorem dX4_readSensor_109 : decode cX4_readSensor 109 = .ok (.iconst 1, 1) := by decide +kernel
theorem dX4_readSensor_110 : decode cX4_readSensor 110 = .ok (.goto 4, 3) := by decide +kernel
theorem dX4_readSensor_113 : decode cX4_readSensor 113 = .ok (.iconst 0, 1) := by decide +kernel
theorem dX4_readSensor_114 : decode cX4_readSensor 114 = .ok (.istore_n 3, 1) := by decide +kernel
theorem dX4_readSensor_115 : decode cX4_readSensor 115 = .ok (.aload_n 0, 1) := by decide +kernel
theorem dX4_readSensor_116 : decode cX4_readSensor 116 = .ok (.iconst 0, 1) := by decide +kernel
theorem dX4_readSensor_117 : decode cX4_readSensor 117 = .ok (.bipush 100, 2) := by decide +kernel
theorem dX4_readSensor_119 : decode cX4_readSensor 119 = .ok (.invokevirtual 71, 3) := by decide +kernel
theorem dX4_readSensor_122 : decode cX4_readSensor 122 = .ok (.istore 4, 2) := by decide +kernel
theorem dX4_readSensor_124 : decode cX4_readSensor 124 = .ok (.iload 4, 2) := by decide +kernel
theorem dX4_readSensor_126 : decode cX4_readSensor 126 = .ok (.iconst (-1), 1) := by decide +kernel
theorem dX4_readSensor_127 : decode cX4_readSensor 127 = .ok (.if_icmp .ne 5, 3) := by decide +kernel
theorem dX4_readSensor_130 : decode cX4_readSensor 130 = .ok (.iconst 0, 1) := by decide +kernel
theorem dX4_readSensor_131 : decode cX4_readSensor 131 = .ok (.ireturn, 1) := by decide +kernel
theorem dX4_readSensor_132 : decode cX4_readSensor 132 = .ok (.aload_n 0, 1) := by decide +kernel
theorem dX4_readSensor_133 : decode cX4_readSensor 133 = .ok (.getfield 12, 3) := by decide +kernel
theorem dX4_readSensor_136 : decode cX4_readSensor 136 = .ok (.iload_n 1, 1) := by decide +kernel
theorem dX4_readSensor_137 : decode cX4_readSensor 137 = .ok (.iload_n 2, 1) := by decide +kernel
theorem dX4_readSensor_138 : decode cX4_readSensor 138 = .ok (.iload_n 3, 1) := by decide +kernel
theorem dX4_readSensor_139 : decode cX4_readSensor 139 = .ok (.ifCond .eq 9, 3) := by decide +kernel
theorem dX4_readSensor_142 : decode cX4_readSensor 142 = .ok (.iload 4, 2) := by decide +kernel
theorem dX4_readSensor_144 : decode cX4_readSensor 144 = .ok (.ineg, 1) := by decide +kernel
theorem dX4_readSensor_145 : decode cX4_readSensor 145 = .ok (.goto 5, 3) := by decide +kernel
theorem dX4_readSensor_148 : decode cX4_readSensor 148 = .ok (.iload 4, 2) := by decide +kernel
theorem dX4_readSensor_150 : decode cX4_readSensor 150 = .ok (.invokevirtual 89, 3) := by decide +kernel
theorem dX4_readSensor_153 : decode cX4_readSensor 153 = .ok (.pop, 1) := by decide +kernel
theorem dX4_readSensor_154 : decode cX4_readSensor 154 = .ok (.iconst 1, 1) := by decide +kernel
theorem dX4_readSensor_155 : decode cX4_readSensor 155 = .ok (.ireturn, 1) := by decide +kernel
set_option maxRecDepth 20000 in
theorem ggX4_readNumber_X4_nextCode : GoodIn wsX4_readNumber wsX4_nextCode := goodIn_r _ [9, 1, 3, 4, 10, 11, 12, 23, 24, 25, 26, 27, 28, 29] (by decide +kernel) (by decide +kernel)
set_option maxRecDepth 20000 in
theorem gX4_readNumber_X4_nextCode : GoodIn wsX4_readNumber (wsV RX4 44 RX4 yX4_nextCode wsX4_nextCode) := goodIn_app (goodIn_of _ (by decide +kernel)) ggX4_readNumber_X4_nextCode
set_option maxRecDepth 20000 in
theorem ggX4_readNumber_X5_at : GoodIn wsX4_readNumber wsX5_at := goodIn_r _ [12] (by decide +kernel) (by decide +kernel)
set_option maxRecDepth 20000 in
theorem gX4_readNumber_X5_at_n92 : GoodIn wsX4_readNumber (wsX5_at) := ggX4_readNumber_X5_at
set_option maxRecDepth 20000 in
theorem ggX4_readNumber_X4_isDigit : GoodIn wsX4_readNumber wsX4_isDigit := goodIn_r _ [15] (by decide +kernel) (by decide +kernel)
set_option maxRecDepth 20000 in
theorem gX4_readNumber_X4_isDigit : GoodIn wsX4_readNumber (va_wsS RX4 61 yX4_isDigit wsX4_isDigit) := goodIn_app (goodIn_of _ (by decide +kernel)) ggX4_readNumber_X4_isDigit
set_option maxRecDepth 20000 in
theorem ggX4_readNumber_X5_isWithin : GoodIn wsX4_readNumber wsX5_isWithin := goodIn_r _ [17] (by decide +kernel) (by decide +kernel)
set_option maxRecDepth 20000 in
theorem gX4_readNumber_X5_isWithin_n96 : GoodIn wsX4_readNumber (wsX5_isWithin) := ggX4_readNumber_X5_isWithin
set_option maxRecDepth 20000 in
theorem ggX4_readNumber_X4_refuse : GoodIn wsX4_readNumber wsX4_refuse := goodIn_r _ [21, 22, 23, 24, 25, 26, 27, 28, 29] (by decide +kernel) (by decide +kernel)
set_option maxRecDepth 20000 in
theorem gX4_readNumber_X4_refuse : GoodIn wsX4_readNumber (wsV RX4 52 RX4 yX4_refuse wsX4_refuse) := goodIn_app (goodIn_of _ (by decide +kernel)) ggX4_readNumber_X4_refuse
theorem dX4_readNumber_0 : decode cX4_readNumber 0 = .ok (.aload_n 0, 1) := by decide +kernel
theorem dX4_readNumber_1 : decode cX4_readNumber 1 = .ok (.invokevirtual 44, 3) := by decide +kernel
theorem dX4_readNumber_4 : decode cX4_readNumber 4 = .ok (.pop, 1) := by decide +kernel
theorem dX4_readNumber_5 : decode cX4_readNumber 5 = .ok (.aload_n 0, 1) := by decide +kernel
theorem dX4_readNumber_6 : decode cX4_readNumber 6 = .ok (.aload_n 0, 1) := by decide +kernel
theorem dX4_readNumber_7 : decode cX4_readNumber 7 = .ok (.getfield 34, 3) := by decide +kernel
theorem dX4_readNumber_10 : decode cX4_readNumber 10 = .ok (.putfield 82, 3) := by decide +kernel
theorem dX4_readNumber_13 : decode cX4_readNumber 13 = .ok (.iconst 0, 1) := by decide +kernel
theorem dX4_readNumber_14 : decode cX4_readNumber 14 = .ok (.istore_n 3, 1) := by decide +kernel
theorem dX4_readNumber_15 : decode cX4_readNumber 15 = .ok (.aload_n 0, 1) := by decide +kernel
theorem dX4_readNumber_16 : decode cX4_readNumber 16 = .ok (.getfield 34, 3) := by decide +kernel
theorem dX4_readNumber_19 : decode cX4_readNumber 19 = .ok (.aload_n 0, 1) := by decide +kernel
theorem dX4_readNumber_20 : decode cX4_readNumber 20 = .ok (.getfield 22, 3) := by decide +kernel
theorem dX4_readNumber_23 : decode cX4_readNumber 23 = .ok (.if_icmp .ge 53, 3) := by decide +kernel
theorem dX4_readNumber_26 : decode cX4_readNumber 26 = .ok (.aload_n 0, 1) := by decide +kernel
theorem dX4_readNumber_27 : decode cX4_readNumber 27 = .ok (.getfield 18, 3) := by decide +kernel
theorem dX4_readNumber_30 : decode cX4_readNumber 30 = .ok (.aload_n 0, 1) := by decide +kernel
theorem dX4_readNumber_31 : decode cX4_readNumber 31 = .ok (.getfield 34, 3) := by decide +kernel
theorem dX4_readNumber_34 : decode cX4_readNumber 34 = .ok (.invokestatic 92, 3) := by decide +kernel
theorem dX4_readNumber_37 : decode cX4_readNumber 37 = .ok (.invokestatic 61, 3) := by decide +kernel
theorem dX4_readNumber_40 : decode cX4_readNumber 40 = .ok (.ifCond .eq 36, 3) := by decide +kernel
theorem dX4_readNumber_43 : decode cX4_readNumber 43 = .ok (.bipush 10, 2) := by decide +kernel
theorem dX4_readNumber_45 : decode cX4_readNumber 45 = .ok (.iload_n 3, 1) := by decide +kernel
theorem dX4_readNumber_46 : decode cX4_readNumber 46 = .ok (.imul, 1) := by decide +kernel
theorem dX4_readNumber_47 : decode cX4_readNumber 47 = .ok (.aload_n 0, 1) := by decide +kernel
theorem dX4_readNumber_48 : decode cX4_readNumber 48 = .ok (.getfield 18, 3) := by decide +kernel
theorem dX4_readNumber_51 : decode cX4_readNumber 51 = .ok (.aload_n 0, 1) := by decide +kernel
theorem dX4_readNumber_52 : decode cX4_readNumber 52 = .ok (.getfield 34, 3) := by decide +kernel
theorem dX4_readNumber_55 : decode cX4_readNumber 55 = .ok (.invokestatic 92, 3) := by decide +kernel
theorem dX4_readNumber_58 : decode cX4_readNumber 58 = .ok (.iadd, 1) := by decide +kernel
theorem dX4_readNumber_59 : decode cX4_readNumber 59 = .ok (.bipush 48, 2) := by decide +kernel
theorem dX4_readNumber_61 : decode cX4_readNumber 61 = .ok (.isub, 1) := by decide +kernel
theorem dX4_readNumber_62 : decode cX4_readNumber 62 = .ok (.istore_n 3, 1) := by decide +kernel
theorem dX4_readNumber_63 : decode cX4_readNumber 63 = .ok (.aload_n 0, 1) := by decide +kernel
theorem dX4_readNumber_64 : decode cX4_readNumber 64 = .ok (.dup, 1) := by decide +kernel
theorem dX4_readNumber_65 : decode cX4_readNumber 65 = .ok (.getfield 34, 3) := by decide +kernel
theorem dX4_readNumber_68 : decode cX4_readNumber 68 = .ok (.iconst 1, 1) := by decide +kernel
theorem dX4_readNumber_69 : decode cX4_readNumber 69 = .ok (.iadd, 1) := by decide +kernel
theorem dX4_readNumber_70 : decode cX4_readNumber 70 = .ok (.putfield 34, 3) := by decide +kernel
theorem dX4_readNumber_73 : decode cX4_readNumber 73 = .ok (.goto (-58), 3) := by decide +kernel
theorem dX4_readNumber_76 : decode cX4_readNumber 76 = .ok (.aload_n 0, 1) := by decide +kernel
theorem dX4_readNumber_77 : decode cX4_readNumber 77 = .ok (.getfield 34, 3) := by decide +kernel
theorem dX4_readNumber_80 : decode cX4_readNumber 80 = .ok (.aload_n 0, 1) := by decide +kernel
theorem dX4_readNumber_81 : decode cX4_readNumber 81 = .ok (.getfield 82, 3) := by decide +kernel
theorem dX4_readNumber_84 : decode cX4_readNumber 84 = .ok (.isub, 1) := by decide +kernel
theorem dX4_readNumber_85 : decode cX4_readNumber 85 = .ok (.istore 4, 2) := by decide +kernel
theorem dX4_readNumber_87 : decode cX4_readNumber 87 = .ok (.iload 4, 2) := by decide +kernel
theorem dX4_readNumber_89 : decode cX4_readNumber 89 = .ok (.iconst 1, 1) := by decide +kernel
theorem dX4_readNumber_90 : decode cX4_readNumber 90 = .ok (.iconst 5, 1) := by decide +kernel
theorem dX4_readNumber_91 : decode cX4_readNumber 91 = .ok (.invokestatic 96, 3) := by decide +kernel
theorem dX4_readNumber_94 : decode cX4_readNumber 94 = .ok (.ifCond .eq 12, 3) := by decide +kernel
theorem dX4_readNumber_97 : decode cX4_readNumber 97 = .ok (.iload_n 3, 1) := by decide +kernel
theorem dX4_readNumber_98 : decode cX4_readNumber 98 = .ok (.iload_n 1, 1) := by decide +kernel
theorem dX4_readNumber_99 : decode cX4_readNumber 99 = .ok (.iload_n 2, 1) := by decide +kernel
theorem dX4_readNumber_100 : decode cX4_readNumber 100 = .ok (.invokestatic 96, 3) := by decide +kernel
theorem dX4_readNumber_103 : decode cX4_readNumber 103 = .ok (.ifCond .ne 14, 3) := by decide +kernel
theorem dX4_readNumber_106 : decode cX4_readNumber 106 = .ok (.aload_n 0, 1) := by decide +kernel
theorem dX4_readNumber_107 : decode cX4_readNumber 107 = .ok (.aload_n 0, 1) := by decide +kernel
theorem dX4_readNumber_108 : decode cX4_readNumber 108 = .ok (.getfield 82, 3) := by decide +kernel
theorem dX4_readNumber_111 : decode cX4_readNumber 111 = .ok (.invokevirtual 52, 3) := by decide +kernel
theorem dX4_readNumber_114 : decode cX4_readNumber 114 = .ok (.pop, 1) := by decide +kernel
theorem dX4_readNumber_115 : decode cX4_readNumber 115 = .ok (.iconst (-1), 1) := by decide +kernel
theorem dX4_readNumber_116 : decode cX4_readNumber 116 = .ok (.ireturn, 1) := by decide +kernel
theorem dX4_readNumber_117 : decode cX4_readNumber 117 = .ok (.iload_n 3, 1) := by decide +kernel
theorem dX4_readNumber_118 : decode cX4_readNumber 118 = .ok (.ireturn, 1) := by decide +kernel
set_option maxRecDepth 20000 in
theorem ggX4_readSign_X4_nextCode : GoodIn wsX4_readSign wsX4_nextCode := goodIn_r _ [6, 1, 7, 8, 9, 10, 11, 17, 18, 19, 20, 21, 22, 23] (by decide +kernel) (by decide +kernel)
set_option maxRecDepth 20000 in
theorem gX4_readSign_X4_nextCode : GoodIn wsX4_readSign (wsV RX4 44 RX4 yX4_nextCode wsX4_nextCode) := goodIn_app (goodIn_of _ (by decide +kernel)) ggX4_readSign_X4_nextCode
set_option maxRecDepth 20000 in
theorem ggX4_readSign_X4_refuse : GoodIn wsX4_readSign wsX4_refuse := goodIn_r _ [15, 16, 17, 18, 19, 20, 21, 22, 23] (by decide +kernel) (by decide +kernel)
set_option maxRecDepth 20000 in
theorem gX4_readSign_X4_refuse : GoodIn wsX4_readSign (wsV RX4 52 RX4 yX4_refuse wsX4_refuse) := goodIn_app (goodIn_of _ (by decide +kernel)) ggX4_readSign_X4_refuse
theorem dX4_readSign_0 : decode cX4_readSign 0 = .ok (.aload_n 0, 1) := by decide +kernel
theorem dX4_readSign_1 : decode cX4_readSign 1 = .ok (.invokevirtual 44, 3) := by decide +kernel
theorem dX4_readSign_4 : decode cX4_readSign 4 = .ok (.iload_n 1, 1) := by decide +kernel
theorem dX4_readSign_5 : decode cX4_readSign 5 = .ok (.if_icmp .eq 12, 3) := by decide +kernel
theorem dX4_readSign_8 : decode cX4_readSign 8 = .ok (.aload_n 0, 1) := by decide +kernel
theorem dX4_readSign_9 : decode cX4_readSign 9 = .ok (.aload_n 0, 1) := by decide +kernel
theorem dX4_readSign_10 : decode cX4_readSign 10 = .ok (.getfield 34, 3) := by decide +kernel
theorem dX4_readSign_13 : decode cX4_readSign 13 = .ok (.invokevirtual 52, 3) := by decide +kernel
theorem dX4_readSign_16 : decode cX4_readSign 16 = .ok (.ireturn, 1) := by decide +kernel
theorem dX4_readSign_17 : decode cX4_readSign 17 = .ok (.aload_n 0, 1) := by decide +kernel
theorem dX4_readSign_18 : decode cX4_readSign 18 = .ok (.dup, 1) := by decide +kernel
theorem dX4_readSign_19 : decode cX4_readSign 19 = .ok (.getfield 34, 3) := by decide +kernel
theorem dX4_readSign_22 : decode cX4_readSign 22 = .ok (.iconst 1, 1) := by decide +kernel
theorem dX4_readSign_23 : decode cX4_readSign 23 = .ok (.iadd, 1) := by decide +kernel
theorem dX4_readSign_24 : decode cX4_readSign 24 = .ok (.putfield 34, 3) := by decide +kernel
theorem dX4_readSign_27 : decode cX4_readSign 27 = .ok (.iconst 1, 1) := by decide +kernel
theorem dX4_readSign_28 : decode cX4_readSign 28 = .ok (.ireturn, 1) := by decide +kernel
set_option maxRecDepth 20000 in
theorem ggX4_nextCode_X5_at : GoodIn wsX4_nextCode wsX5_at := goodIn_r _ [6] (by decide +kernel) (by decide +kernel)
set_option maxRecDepth 20000 in
theorem gX4_nextCode_X5_at_n92 : GoodIn wsX4_nextCode (wsX5_at) := ggX4_nextCode_X5_at
theorem dX4_nextCode_0 : decode cX4_nextCode 0 = .ok (.aload_n 0, 1) := by decide +kernel
theorem dX4_nextCode_1 : decode cX4_nextCode 1 = .ok (.getfield 34, 3) := by decide +kernel
theorem dX4_nextCode_4 : decode cX4_nextCode 4 = .ok (.aload_n 0, 1) := by decide +kernel
theorem dX4_nextCode_5 : decode cX4_nextCode 5 = .ok (.getfield 22, 3) := by decide +kernel
theorem dX4_nextCode_8 : decode cX4_nextCode 8 = .ok (.if_icmp .ge 32, 3) := by decide +kernel
theorem dX4_nextCode_11 : decode cX4_nextCode 11 = .ok (.aload_n 0, 1) := by decide +kernel
theorem dX4_nextCode_12 : decode cX4_nextCode 12 = .ok (.getfield 18, 3) := by decide +kernel
theorem dX4_nextCode_15 : decode cX4_nextCode 15 = .ok (.aload_n 0, 1) := by decide +kernel
theorem dX4_nextCode_16 : decode cX4_nextCode 16 = .ok (.getfield 34, 3) := by decide +kernel
theorem dX4_nextCode_19 : decode cX4_nextCode 19 = .ok (.invokestatic 92, 3) := by decide +kernel
theorem dX4_nextCode_22 : decode cX4_nextCode 22 = .ok (.bipush 32, 2) := by decide +kernel
theorem dX4_nextCode_24 : decode cX4_nextCode 24 = .ok (.if_icmp .ne 16, 3) := by decide +kernel
theorem dX4_nextCode_27 : decode cX4_nextCode 27 = .ok (.aload_n 0, 1) := by decide +kernel
theorem dX4_nextCode_28 : decode cX4_nextCode 28 = .ok (.dup, 1) := by decide +kernel
theorem dX4_nextCode_29 : decode cX4_nextCode 29 = .ok (.getfield 34, 3) := by decide +kernel
theorem dX4_nextCode_32 : decode cX4_nextCode 32 = .ok (.iconst 1, 1) := by decide +kernel
theorem dX4_nextCode_33 : decode cX4_nextCode 33 = .ok (.iadd, 1) := by decide +kernel
theorem dX4_nextCode_34 : decode cX4_nextCode 34 = .ok (.putfield 34, 3) := by decide +kernel
theorem dX4_nextCode_37 : decode cX4_nextCode 37 = .ok (.goto (-37), 3) := by decide +kernel
theorem dX4_nextCode_40 : decode cX4_nextCode 40 = .ok (.aload_n 0, 1) := by decide +kernel
theorem dX4_nextCode_41 : decode cX4_nextCode 41 = .ok (.getfield 34, 3) := by decide +kernel
theorem dX4_nextCode_44 : decode cX4_nextCode 44 = .ok (.aload_n 0, 1) := by decide +kernel
theorem dX4_nextCode_45 : decode cX4_nextCode 45 = .ok (.getfield 22, 3) := by decide +kernel
theorem dX4_nextCode_48 : decode cX4_nextCode 48 = .ok (.if_icmp .ge 17, 3) := by decide +kernel
theorem dX4_nextCode_51 : decode cX4_nextCode 51 = .ok (.aload_n 0, 1) := by decide +kernel
theorem dX4_nextCode_52 : decode cX4_nextCode 52 = .ok (.getfield 18, 3) := by decide +kernel
theorem dX4_nextCode_55 : decode cX4_nextCode 55 = .ok (.aload_n 0, 1) := by decide +kernel
theorem dX4_nextCode_56 : decode cX4_nextCode 56 = .ok (.getfield 34, 3) := by decide +kernel
theorem dX4_nextCode_59 : decode cX4_nextCode 59 = .ok (.invokestatic 92, 3) := by decide +kernel
theorem dX4_nextCode_62 : decode cX4_nextCode 62 = .ok (.goto 4, 3) := by decide +kernel
theorem dX4_nextCode_65 : decode cX4_nextCode 65 = .ok (.iconst (-1), 1) := by decide +kernel
theorem dX4_nextCode_66 : decode cX4_nextCode 66 = .ok (.ireturn, 1) := by decide +kernel
theorem dX4_isDigit_0 : decode cX4_isDigit 0 = .ok (.iload_n 0, 1) := by decide +kernel
theorem dX4_isDigit_1 : decode cX4_isDigit 1 = .ok (.bipush 48, 2) := by decide +kernel
theorem dX4_isDigit_3 : decode cX4_isDigit 3 = .ok (.if_icmp .lt 13, 3) := by decide +kernel
theorem dX4_isDigit_6 : decode cX4_isDigit 6 = .ok (.iload_n 0, 1) := by decide +kernel
theorem dX4_isDigit_7 : decode cX4_isDigit 7 = .ok (.bipush 57, 2) := by decide +kernel
theorem dX4_isDigit_9 : decode cX4_isDigit 9 = .ok (.if_icmp .gt 7, 3) := by decide +kernel
theorem dX4_isDigit_12 : decode cX4_isDigit 12 = .ok (.iconst 1, 1) := by decide +kernel
theorem dX4_isDigit_13 : decode cX4_isDigit 13 = .ok (.goto 4, 3) := by decide +kernel
theorem dX4_isDigit_16 : decode cX4_isDigit 16 = .ok (.iconst 0, 1) := by decide +kernel
theorem dX4_isDigit_17 : decode cX4_isDigit 17 = .ok (.ireturn, 1) := by decide +kernel
theorem dX4_refuse_0 : decode cX4_refuse 0 = .ok (.aload_n 0, 1) := by decide +kernel
theorem dX4_refuse_1 : decode cX4_refuse 1 = .ok (.iload_n 1, 1) := by decide +kernel
theorem dX4_refuse_2 : decode cX4_refuse 2 = .ok (.putfield 100, 3) := by decide +kernel
theorem dX4_refuse_5 : decode cX4_refuse 5 = .ok (.iconst 0, 1) := by decide +kernel
theorem dX4_refuse_6 : decode cX4_refuse 6 = .ok (.ireturn, 1) := by decide +kernel
set_option maxRecDepth 20000 in
theorem ggX5_init_X1_init : GoodIn wsX5_init wsX1_init := goodIn_r _ [26, 27, 2, 3, 28, 29, 30, 31, 32, 33, 34, 35, 36, 37, 38, 71, 72, 73, 74, 75, 76, 77] (by decide +kernel) (by decide +kernel)
set_option maxRecDepth 20000 in
theorem gX5_init_X1_init : GoodIn wsX5_init (wsX1_init) := ggX5_init_X1_init
set_option maxRecDepth 20000 in
theorem ggX5_init_X3_init : GoodIn wsX5_init wsX3_init := goodIn_r _ [40, 41, 2, 3, 42, 5, 6, 43, 44, 13, 14, 45, 28, 46, 47, 48, 25, 26, 27, 29, 30, 31, 32, 33, 34, 35, 36, 37, 38, 49, 50, 51, 52, 53, 54, 55, 56, 71, 72, 73, 74, 75, 76, 77, 83, 84, 85, 86, 87, 88, 89, 90, 91] (by decide +kernel) (by decide +kernel)
set_option maxRecDepth 20000 in
theorem gX5_init_X3_init_n18 : GoodIn wsX5_init (wsX3_init) := ggX5_init_X3_init
set_option maxRecDepth 20000 in
theorem ggX5_init_X2_init : GoodIn wsX5_init wsX2_init := goodIn_r _ [50, 51, 2, 3, 28, 52, 53, 54, 55, 56, 87, 88, 89, 90, 91] (by decide +kernel) (by decide +kernel)
set_option maxRecDepth 20000 in
theorem gX5_init_X2_init_n25 : GoodIn wsX5_init (wsX2_init) := ggX5_init_X2_init
set_option maxRecDepth 20000 in
theorem ggX5_init_X0_init : GoodIn wsX5_init wsX0_init := goodIn_r _ [59, 60, 2, 3, 61, 62, 5, 6, 63, 25, 26, 27, 28, 29, 30, 31, 32, 33, 34, 35, 36, 37, 38, 92, 93, 94, 71, 72, 73, 74, 75, 76, 77] (by decide +kernel) (by decide +kernel)
set_option maxRecDepth 20000 in
theorem gX5_init_X0_init : GoodIn wsX5_init (wsX0_init) := ggX5_init_X0_init
set_option maxRecDepth 20000 in
theorem ggX5_init_X4_init : GoodIn wsX5_init wsX4_init := goodIn_r _ [65, 66, 2, 3, 67, 5, 6, 68, 28, 69, 70, 25, 26, 27, 29, 30, 31, 32, 33, 34, 35, 36, 37, 38, 71, 72, 73, 74, 75, 76, 77, 95, 96, 97, 98, 99, 100, 101] (by decide +kernel) (by decide +kernel)
set_option maxRecDepth 20000 in
theorem gX5_init_X4_init_n39 : GoodIn wsX5_init (wsX4_init) := ggX5_init_X4_init
theorem dX5_init_0 : decode cX5_init 0 = .ok (.aload_n 0, 1) := by decide +kernel
theorem dX5_init_1 : decode cX5_init 1 = .ok (.invokespecial 1, 3) := by decide +kernel
theorem dX5_init_4 : decode cX5_init 4 = .ok (.aload_n 0, 1) := by decide +kernel
theorem dX5_init_5 : decode cX5_init 5 = .ok (.new 7, 3) := by decide +kernel
theorem dX5_init_8 : decode cX5_init 8 = .ok (.dup, 1) := by decide +kernel
theorem dX5_init_9 : decode cX5_init 9 = .ok (.invokespecial 9, 3) := by decide +kernel
theorem dX5_init_12 : decode cX5_init 12 = .ok (.putfield 10, 3) := by decide +kernel
theorem dX5_init_15 : decode cX5_init 15 = .ok (.aload_n 0, 1) := by decide +kernel
theorem dX5_init_16 : decode cX5_init 16 = .ok (.new 16, 3) := by decide +kernel
theorem dX5_init_19 : decode cX5_init 19 = .ok (.dup, 1) := by decide +kernel
theorem dX5_init_20 : decode cX5_init 20 = .ok (.invokespecial 18, 3) := by decide +kernel
theorem dX5_init_23 : decode cX5_init 23 = .ok (.putfield 19, 3) := by decide +kernel
theorem dX5_init_26 : decode cX5_init 26 = .ok (.aload_n 0, 1) := by decide +kernel
theorem dX5_init_27 : decode cX5_init 27 = .ok (.new 23, 3) := by decide +kernel
theorem dX5_init_30 : decode cX5_init 30 = .ok (.dup, 1) := by decide +kernel
theorem dX5_init_31 : decode cX5_init 31 = .ok (.invokespecial 25, 3) := by decide +kernel
theorem dX5_init_34 : decode cX5_init 34 = .ok (.putfield 26, 3) := by decide +kernel
theorem dX5_init_37 : decode cX5_init 37 = .ok (.aload_n 0, 1) := by decide +kernel
theorem dX5_init_38 : decode cX5_init 38 = .ok (.new 30, 3) := by decide +kernel
theorem dX5_init_41 : decode cX5_init 41 = .ok (.dup, 1) := by decide +kernel
theorem dX5_init_42 : decode cX5_init 42 = .ok (.invokespecial 32, 3) := by decide +kernel
theorem dX5_init_45 : decode cX5_init 45 = .ok (.putfield 33, 3) := by decide +kernel
theorem dX5_init_48 : decode cX5_init 48 = .ok (.aload_n 0, 1) := by decide +kernel
