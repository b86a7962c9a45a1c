theorem dX6_sends_2 : decode cX6_sends 2 = .ok (.iconst 1, 1) := by decide +kernel
theorem dX6_sends_3 : decode cX6_sends 3 = .ok (.istore 4, 2) := by decide +kernel
theorem dX6_sends_5 : decode cX6_sends 5 = .ok (.iload 4, 2) := by decide +kernel
theorem dX6_sends_7 : decode cX6_sends 7 = .ok (.aload_n 0, 1) := by decide +kernel
theorem dX6_sends_8 : decode cX6_sends 8 = .ok (.iload_n 1, 1) := by decide +kernel
theorem dX6_sends_9 : decode cX6_sends 9 = .ok (.iload_n 2, 1) := by decide +kernel
theorem dX6_sends_10 : decode cX6_sends 10 = .ok (.invokevirtual 107, 3) := by decide +kernel
theorem dX6_sends_13 : decode cX6_sends 13 = .ok (.if_icmp .ge 101, 3) := by decide +kernel
theorem dX6_sends_16 : decode cX6_sends 16 = .ok (.aload_n 0, 1) := by decide +kernel
theorem dX6_sends_17 : decode cX6_sends 17 = .ok (.iload_n 1, 1) := by decide +kernel
theorem dX6_sends_18 : decode cX6_sends 18 = .ok (.iload_n 2, 1) := by decide +kernel
theorem dX6_sends_19 : decode cX6_sends 19 = .ok (.iload 4, 2) := by decide +kernel
theorem dX6_sends_21 : decode cX6_sends 21 = .ok (.iconst 1, 1) := by decide +kernel
theorem dX6_sends_22 : decode cX6_sends 22 = .ok (.isub, 1) := by decide +kernel
theorem dX6_sends_23 : decode cX6_sends 23 = .ok (.invokevirtual 113, 3) := by decide +kernel
theorem dX6_sends_26 : decode cX6_sends 26 = .ok (.istore 5, 2) := by decide +kernel
theorem dX6_sends_28 : decode cX6_sends 28 = .ok (.aload_n 0, 1) := by decide +kernel
theorem dX6_sends_29 : decode cX6_sends 29 = .ok (.iload_n 1, 1) := by decide +kernel
theorem dX6_sends_30 : decode cX6_sends 30 = .ok (.iload_n 2, 1) := by decide +kernel
theorem dX6_sends_31 : decode cX6_sends 31 = .ok (.iload 4, 2) := by decide +kernel
theorem dX6_sends_33 : decode cX6_sends 33 = .ok (.invokevirtual 113, 3) := by decide +kernel
theorem dX6_sends_36 : decode cX6_sends 36 = .ok (.istore 6, 2) := by decide +kernel
theorem dX6_sends_38 : decode cX6_sends 38 = .ok (.iload_n 3, 1) := by decide +kernel
theorem dX6_sends_39 : decode cX6_sends 39 = .ok (.aload_n 0, 1) := by decide +kernel
theorem dX6_sends_40 : decode cX6_sends 40 = .ok (.aload_n 0, 1) := by decide +kernel
theorem dX6_sends_41 : decode cX6_sends 41 = .ok (.iload 5, 2) := by decide +kernel
theorem dX6_sends_43 : decode cX6_sends 43 = .ok (.iload 6, 2) := by decide +kernel
theorem dX6_sends_45 : decode cX6_sends 45 = .ok (.invokevirtual 65, 3) := by decide +kernel
theorem dX6_sends_48 : decode cX6_sends 48 = .ok (.iconst 2, 1) := by decide +kernel
theorem dX6_sends_49 : decode cX6_sends 49 = .ok (.invokevirtual 47, 3) := by decide +kernel
theorem dX6_sends_52 : decode cX6_sends 52 = .ok (.iadd, 1) := by decide +kernel
theorem dX6_sends_53 : decode cX6_sends 53 = .ok (.istore_n 3, 1) := by decide +kernel
theorem dX6_sends_54 : decode cX6_sends 54 = .ok (.aload_n 0, 1) := by decide +kernel
theorem dX6_sends_55 : decode cX6_sends 55 = .ok (.getfield 29, 3) := by decide +kernel
theorem dX6_sends_58 : decode cX6_sends 58 = .ok (.bipush 100, 2) := by decide +kernel
theorem dX6_sends_60 : decode cX6_sends 60 = .ok (.iload_n 2, 1) := by decide +kernel
theorem dX6_sends_61 : decode cX6_sends 61 = .ok (.imul, 1) := by decide +kernel
theorem dX6_sends_62 : decode cX6_sends 62 = .ok (.bipush 10, 2) := by decide +kernel
theorem dX6_sends_64 : decode cX6_sends 64 = .ok (.iload 5, 2) := by decide +kernel
theorem dX6_sends_66 : decode cX6_sends 66 = .ok (.imul, 1) := by decide +kernel
theorem dX6_sends_67 : decode cX6_sends 67 = .ok (.iadd, 1) := by decide +kernel
theorem dX6_sends_68 : decode cX6_sends 68 = .ok (.iload 6, 2) := by decide +kernel
theorem dX6_sends_70 : decode cX6_sends 70 = .ok (.iadd, 1) := by decide +kernel
theorem dX6_sends_71 : decode cX6_sends 71 = .ok (.baload, 1) := by decide +kernel
theorem dX6_sends_72 : decode cX6_sends 72 = .ok (.ifCond .ne 36, 3) := by decide +kernel
theorem dX6_sends_75 : decode cX6_sends 75 = .ok (.aload_n 0, 1) := by decide +kernel
theorem dX6_sends_76 : decode cX6_sends 76 = .ok (.getfield 29, 3) := by decide +kernel
theorem dX6_sends_79 : decode cX6_sends 79 = .ok (.bipush 100, 2) := by decide +kernel
theorem dX6_sends_81 : decode cX6_sends 81 = .ok (.iload_n 2, 1) := by decide +kernel
theorem dX6_sends_82 : decode cX6_sends 82 = .ok (.imul, 1) := by decide +kernel
theorem dX6_sends_83 : decode cX6_sends 83 = .ok (.bipush 10, 2) := by decide +kernel
theorem dX6_sends_85 : decode cX6_sends 85 = .ok (.iload 5, 2) := by decide +kernel
theorem dX6_sends_87 : decode cX6_sends 87 = .ok (.imul, 1) := by decide +kernel
theorem dX6_sends_88 : decode cX6_sends 88 = .ok (.iadd, 1) := by decide +kernel
theorem dX6_sends_89 : decode cX6_sends 89 = .ok (.iload 6, 2) := by decide +kernel
theorem dX6_sends_91 : decode cX6_sends 91 = .ok (.iadd, 1) := by decide +kernel
theorem dX6_sends_92 : decode cX6_sends 92 = .ok (.iconst 1, 1) := by decide +kernel
theorem dX6_sends_93 : decode cX6_sends 93 = .ok (.bastore, 1) := by decide +kernel
theorem dX6_sends_94 : decode cX6_sends 94 = .ok (.aload_n 0, 1) := by decide +kernel
theorem dX6_sends_95 : decode cX6_sends 95 = .ok (.iload 5, 2) := by decide +kernel
theorem dX6_sends_97 : decode cX6_sends 97 = .ok (.iconst 2, 1) := by decide +kernel
theorem dX6_sends_98 : decode cX6_sends 98 = .ok (.invokevirtual 126, 3) := by decide +kernel
theorem dX6_sends_101 : decode cX6_sends 101 = .ok (.aload_n 0, 1) := by decide +kernel
theorem dX6_sends_102 : decode cX6_sends 102 = .ok (.iload 6, 2) := by decide +kernel
theorem dX6_sends_104 : decode cX6_sends 104 = .ok (.iconst 1, 1) := by decide +kernel
theorem dX6_sends_105 : decode cX6_sends 105 = .ok (.invokevirtual 126, 3) := by decide +kernel
theorem dX6_sends_108 : decode cX6_sends 108 = .ok (.iinc 4 1, 3) := by decide +kernel
theorem dX6_sends_111 : decode cX6_sends 111 = .ok (.goto (-106), 3) := by decide +kernel
theorem dX6_sends_114 : decode cX6_sends 114 = .ok (.aload_n 0, 1) := by decide +kernel
theorem dX6_sends_115 : decode cX6_sends 115 = .ok (.getfield 7, 3) := by decide +kernel
theorem dX6_sends_118 : decode cX6_sends 118 = .ok (.bipush 100, 2) := by decide +kernel
theorem dX6_sends_120 : decode cX6_sends 120 = .ok (.bipush 7, 2) := by decide +kernel
theorem dX6_sends_122 : decode cX6_sends 122 = .ok (.iload_n 1, 1) := by decide +kernel
theorem dX6_sends_123 : decode cX6_sends 123 = .ok (.imul, 1) := by decide +kernel
theorem dX6_sends_124 : decode cX6_sends 124 = .ok (.iadd, 1) := by decide +kernel
theorem dX6_sends_125 : decode cX6_sends 125 = .ok (.iconst 5, 1) := by decide +kernel
theorem dX6_sends_126 : decode cX6_sends 126 = .ok (.iadd, 1) := by decide +kernel
theorem dX6_sends_127 : decode cX6_sends 127 = .ok (.dup2, 1) := by decide +kernel
theorem dX6_sends_128 : decode cX6_sends 128 = .ok (.iaload, 1) := by decide +kernel
theorem dX6_sends_129 : decode cX6_sends 129 = .ok (.iconst 1, 1) := by decide +kernel
theorem dX6_sends_130 : decode cX6_sends 130 = .ok (.iadd, 1) := by decide +kernel
theorem dX6_sends_131 : decode cX6_sends 131 = .ok (.iastore, 1) := by decide +kernel
theorem dX6_sends_132 : decode cX6_sends 132 = .ok (.aload_n 0, 1) := by decide +kernel
theorem dX6_sends_133 : decode cX6_sends 133 = .ok (.getfield 7, 3) := by decide +kernel
theorem dX6_sends_136 : decode cX6_sends 136 = .ok (.bipush 100, 2) := by decide +kernel
theorem dX6_sends_138 : decode cX6_sends 138 = .ok (.bipush 7, 2) := by decide +kernel
theorem dX6_sends_140 : decode cX6_sends 140 = .ok (.iload_n 1, 1) := by decide +kernel
theorem dX6_sends_141 : decode cX6_sends 141 = .ok (.imul, 1) := by decide +kernel
theorem dX6_sends_142 : decode cX6_sends 142 = .ok (.iadd, 1) := by decide +kernel
theorem dX6_sends_143 : decode cX6_sends 143 = .ok (.bipush 6, 2) := by decide +kernel
theorem dX6_sends_145 : decode cX6_sends 145 = .ok (.iadd, 1) := by decide +kernel
theorem dX6_sends_146 : decode cX6_sends 146 = .ok (.dup2, 1) := by decide +kernel
theorem dX6_sends_147 : decode cX6_sends 147 = .ok (.iaload, 1) := by decide +kernel
theorem dX6_sends_148 : decode cX6_sends 148 = .ok (.iload_n 3, 1) := by decide +kernel
theorem dX6_sends_149 : decode cX6_sends 149 = .ok (.iadd, 1) := by decide +kernel
theorem dX6_sends_150 : decode cX6_sends 150 = .ok (.iastore, 1) := by decide +kernel
theorem dX6_sends_151 : decode cX6_sends 151 = .ok (.return_, 1) := by decide +kernel
set_option maxRecDepth 20000 in
theorem ggX6_matches_X6_ofInterest : GoodIn wsX6_matches wsX6_ofInterest := goodIn_r _ [5, 6, 14, 15, 16, 17, 18, 19, 20, 21, 22, 23, 24, 25, 26, 27, 28, 29] (by decide +kernel) (by decide +kernel)
set_option maxRecDepth 20000 in
theorem gX6_matches_X6_ofInterest : GoodIn wsX6_matches (wsV RX6 104 RX6 yX6_ofInterest wsX6_ofInterest) := goodIn_app (goodIn_of _ (by decide +kernel)) ggX6_matches_X6_ofInterest
set_option maxRecDepth 20000 in
theorem ggX6_matches_X6_ofSensor : GoodIn wsX6_matches wsX6_ofSensor := goodIn_r _ [10, 6, 14, 15, 16, 17, 18, 19, 20, 21, 22, 23, 24, 25, 26, 27, 28, 29] (by decide +kernel) (by decide +kernel)
set_option maxRecDepth 20000 in
theorem gX6_matches_X6_ofSensor : GoodIn wsX6_matches (wsV RX6 87 RX6 yX6_ofSensor wsX6_ofSensor) := goodIn_app (goodIn_of _ (by decide +kernel)) ggX6_matches_X6_ofSensor
set_option maxRecDepth 20000 in
theorem ggX6_matches_X6_in : GoodIn wsX6_matches wsX6_in := goodIn_r _ [13] (by decide +kernel) (by decide +kernel)
set_option maxRecDepth 20000 in
theorem gX6_matches_X6_in : GoodIn wsX6_matches (va_wsS RX6 43 yX6_in wsX6_in) := goodIn_app (goodIn_of _ (by decide +kernel)) ggX6_matches_X6_in
theorem dX6_matches_0 : decode cX6_matches 0 = .ok (.aload_n 0, 1) := by decide +kernel
theorem dX6_matches_1 : decode cX6_matches 1 = .ok (.iload_n 1, 1) := by decide +kernel
theorem dX6_matches_2 : decode cX6_matches 2 = .ok (.iconst 1, 1) := by decide +kernel
theorem dX6_matches_3 : decode cX6_matches 3 = .ok (.invokevirtual 104, 3) := by decide +kernel
theorem dX6_matches_6 : decode cX6_matches 6 = .ok (.aload_n 0, 1) := by decide +kernel
theorem dX6_matches_7 : decode cX6_matches 7 = .ok (.iload_n 2, 1) := by decide +kernel
theorem dX6_matches_8 : decode cX6_matches 8 = .ok (.iconst 1, 1) := by decide +kernel
theorem dX6_matches_9 : decode cX6_matches 9 = .ok (.invokevirtual 87, 3) := by decide +kernel
theorem dX6_matches_12 : decode cX6_matches 12 = .ok (.if_icmp .ne 31, 3) := by decide +kernel
theorem dX6_matches_15 : decode cX6_matches 15 = .ok (.aload_n 0, 1) := by decide +kernel
theorem dX6_matches_16 : decode cX6_matches 16 = .ok (.iload_n 2, 1) := by decide +kernel
theorem dX6_matches_17 : decode cX6_matches 17 = .ok (.iconst 2, 1) := by decide +kernel
theorem dX6_matches_18 : decode cX6_matches 18 = .ok (.invokevirtual 87, 3) := by decide +kernel
theorem dX6_matches_21 : decode cX6_matches 21 = .ok (.aload_n 0, 1) := by decide +kernel
theorem dX6_matches_22 : decode cX6_matches 22 = .ok (.iload_n 1, 1) := by decide +kernel
theorem dX6_matches_23 : decode cX6_matches 23 = .ok (.iconst 2, 1) := by decide +kernel
theorem dX6_matches_24 : decode cX6_matches 24 = .ok (.invokevirtual 104, 3) := by decide +kernel
theorem dX6_matches_27 : decode cX6_matches 27 = .ok (.aload_n 0, 1) := by decide +kernel
theorem dX6_matches_28 : decode cX6_matches 28 = .ok (.iload_n 1, 1) := by decide +kernel
theorem dX6_matches_29 : decode cX6_matches 29 = .ok (.iconst 3, 1) := by decide +kernel
theorem dX6_matches_30 : decode cX6_matches 30 = .ok (.invokevirtual 104, 3) := by decide +kernel
theorem dX6_matches_33 : decode cX6_matches 33 = .ok (.invokestatic 43, 3) := by decide +kernel
theorem dX6_matches_36 : decode cX6_matches 36 = .ok (.ifCond .eq 7, 3) := by decide +kernel
theorem dX6_matches_39 : decode cX6_matches 39 = .ok (.iconst 1, 1) := by decide +kernel
theorem dX6_matches_40 : decode cX6_matches 40 = .ok (.goto 4, 3) := by decide +kernel
theorem dX6_matches_43 : decode cX6_matches 43 = .ok (.iconst 0, 1) := by decide +kernel
theorem dX6_matches_44 : decode cX6_matches 44 = .ok (.ireturn, 1) := by decide +kernel
set_option maxRecDepth 20000 in
theorem ggX6_turns_X6_looksAlive : GoodIn wsX6_turns wsX6_looksAlive := goodIn_r _ [7, 1, 2, 8, 9, 10, 6, 11, 81, 82, 83, 84, 85, 86, 87, 88, 89, 90, 91, 92, 93, 94, 95, 96] (by decide +kernel) (by decide +kernel)
set_option maxRecDepth 20000 in
theorem gX6_turns_X6_looksAlive : GoodIn wsX6_turns (wsV RX6 136 RX6 yX6_looksAlive wsX6_looksAlive) := goodIn_app (goodIn_of _ (by decide +kernel)) ggX6_turns_X6_looksAlive
set_option maxRecDepth 20000 in
theorem ggX6_turns_X6_matches : GoodIn wsX6_turns wsX6_matches := goodIn_r _ [15, 16, 17, 18, 6, 19, 2, 20, 21, 22, 23, 24, 25, 26, 81, 82, 83, 84, 85, 86, 87, 88, 89, 90, 91, 92, 93, 94, 95, 96] (by decide +kernel) (by decide +kernel)
set_option maxRecDepth 20000 in
theorem gX6_turns_X6_matches : GoodIn wsX6_turns (wsV RX6 139 RX6 yX6_matches wsX6_matches) := goodIn_app (goodIn_of _ (by decide +kernel)) ggX6_turns_X6_matches
set_option maxRecDepth 20000 in
theorem ggX6_turns_X6_ofSensor : GoodIn wsX6_turns wsX6_ofSensor := goodIn_r _ [23, 2, 81, 82, 83, 84, 85, 86, 87, 88, 89, 90, 91, 92, 93, 94, 95, 96] (by decide +kernel) (by decide +kernel)
set_option maxRecDepth 20000 in
theorem gX6_turns_X6_ofSensor : GoodIn wsX6_turns (wsV RX6 87 RX6 yX6_ofSensor wsX6_ofSensor) := goodIn_app (goodIn_of _ (by decide +kernel)) ggX6_turns_X6_ofSensor
set_option maxRecDepth 20000 in
theorem ggX6_turns_X6_ofInterest : GoodIn wsX6_turns wsX6_ofInterest := goodIn_r _ [19, 2, 81, 82, 83, 84, 85, 86, 87, 88, 89, 90, 91, 92, 93, 94, 95, 96] (by decide +kernel) (by decide +kernel)
set_option maxRecDepth 20000 in
theorem gX6_turns_X6_ofInterest : GoodIn wsX6_turns (wsV RX6 104 RX6 yX6_ofInterest wsX6_ofInterest) := goodIn_app (goodIn_of _ (by decide +kernel)) ggX6_turns_X6_ofInterest
set_option maxRecDepth 20000 in
theorem ggX6_turns_X6_wayAt : GoodIn wsX6_turns wsX6_wayAt := goodIn_r _ [30] (by decide +kernel) (by decide +kernel)
set_option maxRecDepth 20000 in
theorem gX6_turns_X6_wayAt : GoodIn wsX6_turns (wsV RX6 51 RX6 yX6_wayAt wsX6_wayAt) := goodIn_app (goodIn_of _ (by decide +kernel)) ggX6_turns_X6_wayAt
set_option maxRecDepth 20000 in
theorem ggX6_turns_X6_isWholeWay : GoodIn wsX6_turns wsX6_isWholeWay := goodIn_r _ [34, 35, 36, 37, 6, 38, 2, 27, 28, 29, 30, 39, 40, 41, 42, 8, 9, 10, 11, 43, 44, 45, 46, 47, 48, 49, 50, 81, 82, 83, 84, 85, 86, 87, 88, 89, 90, 91, 92, 93, 94, 95, 96] (by decide +kernel) (by decide +kernel)
set_option maxRecDepth 20000 in
theorem gX6_turns_X6_isWholeWay : GoodIn wsX6_turns (wsV RX6 143 RX6 yX6_isWholeWay wsX6_isWholeWay) := goodIn_app (goodIn_of _ (by decide +kernel)) ggX6_turns_X6_isWholeWay
set_option maxRecDepth 20000 in
theorem ggX6_turns_X6_explores : GoodIn wsX6_turns wsX6_explores := goodIn_r _ [54, 2, 55, 56, 57, 58, 59, 20, 21, 22, 6, 23, 60, 61, 62, 63, 1, 64, 47, 48, 49, 50, 16, 17, 18, 19, 65, 66, 67, 68, 43, 44, 45, 46, 69, 70, 71, 72, 35, 36, 37, 38, 27, 28, 29, 30, 39, 40, 41, 42, 73, 74, 75, 81, 82, 83, 84, 85, 86, 87, 88, 89, 90, 91, 92, 93, 94, 95, 96] (by decide +kernel) (by decide +kernel)
set_option maxRecDepth 20000 in
theorem gX6_turns_X6_explores : GoodIn wsX6_turns (wsV RX6 146 RX6 yX6_explores wsX6_explores) := goodIn_app (goodIn_of _ (by decide +kernel)) ggX6_turns_X6_explores
set_option maxRecDepth 20000 in
theorem ggX6_turns_X6_lengthOf : GoodIn wsX6_turns wsX6_lengthOf := goodIn_r _ [38, 2, 27, 28, 29, 6, 30, 81, 82, 83, 84, 85, 86, 87, 88, 89, 90, 91, 92, 93, 94, 95, 96] (by decide +kernel) (by decide +kernel)
set_option maxRecDepth 20000 in
theorem gX6_turns_X6_lengthOf : GoodIn wsX6_turns (wsV RX6 107 RX6 yX6_lengthOf wsX6_lengthOf) := goodIn_app (goodIn_of _ (by decide +kernel)) ggX6_turns_X6_lengthOf
set_option maxRecDepth 20000 in
theorem ggX6_turns_X6_sends : GoodIn wsX6_turns wsX6_sends := goodIn_r _ [79, 80, 2, 35, 36, 37, 6, 38, 27, 28, 29, 30, 39, 40, 41, 42, 43, 44, 45, 46, 47, 48, 49, 50, 69, 70, 71, 72, 81, 82, 83, 84, 85, 86, 87, 88, 89, 90, 91, 92, 93, 94, 95, 96] (by decide +kernel) (by decide +kernel)
set_option maxRecDepth 20000 in
theorem gX6_turns_X6_sends : GoodIn wsX6_turns (wsV RX6 149 RX6 yX6_sends wsX6_sends) := goodIn_app (goodIn_of _ (by decide +kernel)) ggX6_turns_X6_sends
theorem dX6_turns_0 : decode cX6_turns 0 = .ok (.aload_n 0, 1) := by decide +kernel
theorem dX6_turns_1 : decode cX6_turns 1 = .ok (.invokevirtual 136, 3) := by decide +kernel
theorem dX6_turns_4 : decode cX6_turns 4 = .ok (.aload_n 0, 1) := by decide +kernel
theorem dX6_turns_5 : decode cX6_turns 5 = .ok (.iload_n 1, 1) := by decide +kernel
theorem dX6_turns_6 : decode cX6_turns 6 = .ok (.iload_n 2, 1) := by decide +kernel
theorem dX6_turns_7 : decode cX6_turns 7 = .ok (.invokevirtual 139, 3) := by decide +kernel
theorem dX6_turns_10 : decode cX6_turns 10 = .ok (.ifCond .eq 31, 3) := by decide +kernel
theorem dX6_turns_13 : decode cX6_turns 13 = .ok (.aload_n 0, 1) := by decide +kernel
theorem dX6_turns_14 : decode cX6_turns 14 = .ok (.getfield 16, 3) := by decide +kernel
theorem dX6_turns_17 : decode cX6_turns 17 = .ok (.aload_n 0, 1) := by decide +kernel
theorem dX6_turns_18 : decode cX6_turns 18 = .ok (.iload_n 2, 1) := by decide +kernel
theorem dX6_turns_19 : decode cX6_turns 19 = .ok (.iconst 0, 1) := by decide +kernel
theorem dX6_turns_20 : decode cX6_turns 20 = .ok (.invokevirtual 87, 3) := by decide +kernel
theorem dX6_turns_23 : decode cX6_turns 23 = .ok (.baload, 1) := by decide +kernel
theorem dX6_turns_24 : decode cX6_turns 24 = .ok (.ifCond .eq 17, 3) := by decide +kernel
theorem dX6_turns_27 : decode cX6_turns 27 = .ok (.aload_n 0, 1) := by decide +kernel
theorem dX6_turns_28 : decode cX6_turns 28 = .ok (.getfield 16, 3) := by decide +kernel
theorem dX6_turns_31 : decode cX6_turns 31 = .ok (.aload_n 0, 1) := by decide +kernel
theorem dX6_turns_32 : decode cX6_turns 32 = .ok (.iload_n 1, 1) := by decide +kernel
theorem dX6_turns_33 : decode cX6_turns 33 = .ok (.iconst 0, 1) := by decide +kernel
theorem dX6_turns_34 : decode cX6_turns 34 = .ok (.invokevirtual 104, 3) := by decide +kernel
theorem dX6_turns_37 : decode cX6_turns 37 = .ok (.baload, 1) := by decide +kernel
theorem dX6_turns_38 : decode cX6_turns 38 = .ok (.ifCond .ne 17, 3) := by decide +kernel
theorem dX6_turns_41 : decode cX6_turns 41 = .ok (.aload_n 0, 1) := by decide +kernel
theorem dX6_turns_42 : decode cX6_turns 42 = .ok (.getfield 7, 3) := by decide +kernel
theorem dX6_turns_45 : decode cX6_turns 45 = .ok (.aload_n 0, 1) := by decide +kernel
theorem dX6_turns_46 : decode cX6_turns 46 = .ok (.iload_n 1, 1) := by decide +kernel
theorem dX6_turns_47 : decode cX6_turns 47 = .ok (.iload_n 2, 1) := by decide +kernel
theorem dX6_turns_48 : decode cX6_turns 48 = .ok (.invokevirtual 51, 3) := by decide +kernel
theorem dX6_turns_51 : decode cX6_turns 51 = .ok (.iconst 0, 1) := by decide +kernel
theorem dX6_turns_52 : decode cX6_turns 52 = .ok (.iastore, 1) := by decide +kernel
theorem dX6_turns_53 : decode cX6_turns 53 = .ok (.iconst 0, 1) := by decide +kernel
theorem dX6_turns_54 : decode cX6_turns 54 = .ok (.ireturn, 1) := by decide +kernel
theorem dX6_turns_55 : decode cX6_turns 55 = .ok (.aload_n 0, 1) := by decide +kernel
theorem dX6_turns_56 : decode cX6_turns 56 = .ok (.getfield 7, 3) := by decide +kernel
theorem dX6_turns_59 : decode cX6_turns 59 = .ok (.iconst 5, 1) := by decide +kernel
theorem dX6_turns_60 : decode cX6_turns 60 = .ok (.iaload, 1) := by decide +kernel
theorem dX6_turns_61 : decode cX6_turns 61 = .ok (.aload_n 0, 1) := by decide +kernel
theorem dX6_turns_62 : decode cX6_turns 62 = .ok (.getfield 7, 3) := by decide +kernel
theorem dX6_turns_65 : decode cX6_turns 65 = .ok (.iconst 4, 1) := by decide +kernel
theorem dX6_turns_66 : decode cX6_turns 66 = .ok (.iaload, 1) := by decide +kernel
theorem dX6_turns_67 : decode cX6_turns 67 = .ok (.irem, 1) := by decide +kernel
theorem dX6_turns_68 : decode cX6_turns 68 = .ok (.ifCond .eq 12, 3) := by decide +kernel
theorem dX6_turns_71 : decode cX6_turns 71 = .ok (.aload_n 0, 1) := by decide +kernel
theorem dX6_turns_72 : decode cX6_turns 72 = .ok (.iload_n 1, 1) := by decide +kernel
theorem dX6_turns_73 : decode cX6_turns 73 = .ok (.iload_n 2, 1) := by decide +kernel
theorem dX6_turns_74 : decode cX6_turns 74 = .ok (.invokevirtual 143, 3) := by decide +kernel
theorem dX6_turns_77 : decode cX6_turns 77 = .ok (.ifCond .ne 9, 3) := by decide +kernel
theorem dX6_turns_80 : decode cX6_turns 80 = .ok (.aload_n 0, 1) := by decide +kernel
theorem dX6_turns_81 : decode cX6_turns 81 = .ok (.iload_n 1, 1) := by decide +kernel
theorem dX6_turns_82 : decode cX6_turns 82 = .ok (.iload_n 2, 1) := by decide +kernel
theorem dX6_turns_83 : decode cX6_turns 83 = .ok (.invokevirtual 146, 3) := by decide +kernel
theorem dX6_turns_86 : decode cX6_turns 86 = .ok (.aload_n 0, 1) := by decide +kernel
theorem dX6_turns_87 : decode cX6_turns 87 = .ok (.iload_n 1, 1) := by decide +kernel
theorem dX6_turns_88 : decode cX6_turns 88 = .ok (.iload_n 2, 1) := by decide +kernel
theorem dX6_turns_89 : decode cX6_turns 89 = .ok (.invokevirtual 107, 3) := by decide +kernel
theorem dX6_turns_92 : decode cX6_turns 92 = .ok (.ifCond .ne 5, 3) := by decide +kernel
theorem dX6_turns_95 : decode cX6_turns 95 = .ok (.iconst 0, 1) := by decide +kernel
theorem dX6_turns_96 : decode cX6_turns 96 = .ok (.ireturn, 1) := by decide +kernel
theorem dX6_turns_97 : decode cX6_turns 97 = .ok (.aload_n 0, 1) := by decide +kernel
theorem dX6_turns_98 : decode cX6_turns 98 = .ok (.iload_n 1, 1) := by decide +kernel
theorem dX6_turns_99 : decode cX6_turns 99 = .ok (.iload_n 2, 1) := by decide +kernel
theorem dX6_turns_100 : decode cX6_turns 100 = .ok (.invokevirtual 149, 3) := by decide +kernel
theorem dX6_turns_103 : decode cX6_turns 103 = .ok (.iconst 1, 1) := by decide +kernel
theorem dX6_turns_104 : decode cX6_turns 104 = .ok (.ireturn, 1) := by decide +kernel
set_option maxRecDepth 20000 in
theorem ggX6_goesOn_X6_ofInterest : GoodIn wsX6_goesOn wsX6_ofInterest := goodIn_r _ [7, 1, 89, 90, 91, 92, 93, 94, 95, 96, 97, 98, 99, 100, 101, 102, 103, 104] (by decide +kernel) (by decide +kernel)
set_option maxRecDepth 20000 in
theorem gX6_goesOn_X6_ofInterest : GoodIn wsX6_goesOn (wsV RX6 104 RX6 yX6_ofInterest wsX6_ofInterest) := goodIn_app (goodIn_of _ (by decide +kernel)) ggX6_goesOn_X6_ofInterest
set_option maxRecDepth 20000 in
theorem ggX6_goesOn_X6_removes : GoodIn wsX6_goesOn wsX6_removes := goodIn_r _ [11, 1, 12, 13, 14, 6, 15, 89, 90, 91, 92, 93, 94, 95, 96, 97, 98, 99, 100, 101, 102, 103, 104] (by decide +kernel) (by decide +kernel)
set_option maxRecDepth 20000 in
theorem gX6_goesOn_X6_removes : GoodIn wsX6_goesOn (wsV RX6 94 RX6 yX6_removes wsX6_removes) := goodIn_app (goodIn_of _ (by decide +kernel)) ggX6_goesOn_X6_removes
set_option maxRecDepth 20000 in
theorem ggX6_goesOn_X6_turns : GoodIn wsX6_goesOn wsX6_turns := goodIn_r _ [19, 20, 1, 21, 22, 23, 6, 24, 25, 26, 27, 28, 29, 30, 31, 32, 3, 4, 5, 7, 33, 34, 35, 36, 37, 38, 39, 12, 13, 14, 15, 40, 41, 42, 43, 44, 45, 46, 47, 48, 49, 50, 51, 52, 53, 54, 55, 56, 57, 58, 59, 60, 61, 62, 63, 64, 65, 66, 67, 68, 69, 70, 71, 72, 73, 74, 75, 76, 77, 78, 79, 80, 81, 82, 83, 84, 85, 86, 87, 88, 2, 89, 90, 91, 92, 93, 94, 95, 96, 97, 98, 99, 100, 101, 102, 103, 104] (by decide +kernel) (by decide +kernel)
set_option maxRecDepth 20000 in
theorem gX6_goesOn_X6_turns : GoodIn wsX6_goesOn (wsV RX6 152 RX6 yX6_turns wsX6_turns) := goodIn_app (goodIn_of _ (by decide +kernel)) ggX6_goesOn_X6_turns
theorem dX6_goesOn_0 : decode cX6_goesOn 0 = .ok (.aload_n 0, 1) := by decide +kernel
theorem dX6_goesOn_1 : decode cX6_goesOn 1 = .ok (.getfield 7, 3) := by decide +kernel
theorem dX6_goesOn_4 : decode cX6_goesOn 4 = .ok (.iconst 3, 1) := by decide +kernel
theorem dX6_goesOn_5 : decode cX6_goesOn 5 = .ok (.iaload, 1) := by decide +kernel
theorem dX6_goesOn_6 : decode cX6_goesOn 6 = .ok (.iconst 1, 1) := by decide +kernel
theorem dX6_goesOn_7 : decode cX6_goesOn 7 = .ok (.isub, 1) := by decide +kernel
theorem dX6_goesOn_8 : decode cX6_goesOn 8 = .ok (.istore_n 1, 1) := by decide +kernel
theorem dX6_goesOn_9 : decode cX6_goesOn 9 = .ok (.iload_n 1, 1) := by decide +kernel
theorem dX6_goesOn_10 : decode cX6_goesOn 10 = .ok (.ifCond .lt 40, 3) := by decide +kernel
theorem dX6_goesOn_13 : decode cX6_goesOn 13 = .ok (.aload_n 0, 1) := by decide +kernel
theorem dX6_goesOn_14 : decode cX6_goesOn 14 = .ok (.iload_n 1, 1) := by decide +kernel
theorem dX6_goesOn_15 : decode cX6_goesOn 15 = .ok (.iconst 4, 1) := by decide +kernel
theorem dX6_goesOn_16 : decode cX6_goesOn 16 = .ok (.invokevirtual 104, 3) := by decide +kernel
theorem dX6_goesOn_19 : decode cX6_goesOn 19 = .ok (.aload_n 0, 1) := by decide +kernel
theorem dX6_goesOn_20 : decode cX6_goesOn 20 = .ok (.getfield 7, 3) := by decide +kernel
theorem dX6_goesOn_23 : decode cX6_goesOn 23 = .ok (.iconst 5, 1) := by decide +kernel
theorem dX6_goesOn_24 : decode cX6_goesOn 24 = .ok (.iaload, 1) := by decide +kernel
theorem dX6_goesOn_25 : decode cX6_goesOn 25 = .ok (.if_icmp .ge 19, 3) := by decide +kernel
theorem dX6_goesOn_28 : decode cX6_goesOn 28 = .ok (.aload_n 0, 1) := by decide +kernel
theorem dX6_goesOn_29 : decode cX6_goesOn 29 = .ok (.iload_n 1, 1) := by decide +kernel
theorem dX6_goesOn_30 : decode cX6_goesOn 30 = .ok (.invokevirtual 94, 3) := by decide +kernel
theorem dX6_goesOn_33 : decode cX6_goesOn 33 = .ok (.aload_n 0, 1) := by decide +kernel
theorem dX6_goesOn_34 : decode cX6_goesOn 34 = .ok (.getfield 7, 3) := by decide +kernel
theorem dX6_goesOn_37 : decode cX6_goesOn 37 = .ok (.bipush 11, 2) := by decide +kernel
theorem dX6_goesOn_39 : decode cX6_goesOn 39 = .ok (.dup2, 1) := by decide +kernel
theorem dX6_goesOn_40 : decode cX6_goesOn 40 = .ok (.iaload, 1) := by decide +kernel
theorem dX6_goesOn_41 : decode cX6_goesOn 41 = .ok (.iconst 1, 1) := by decide +kernel
theorem dX6_goesOn_42 : decode cX6_goesOn 42 = .ok (.iadd, 1) := by decide +kernel
theorem dX6_goesOn_43 : decode cX6_goesOn 43 = .ok (.iastore, 1) := by decide +kernel
theorem dX6_goesOn_44 : decode cX6_goesOn 44 = .ok (.iinc 1 (-1), 3) := by decide +kernel
theorem dX6_goesOn_47 : decode cX6_goesOn 47 = .ok (.goto (-38), 3) := by decide +kernel
theorem dX6_goesOn_50 : decode cX6_goesOn 50 = .ok (.iconst 0, 1) := by decide +kernel
theorem dX6_goesOn_51 : decode cX6_goesOn 51 = .ok (.istore_n 1, 1) := by decide +kernel
theorem dX6_goesOn_52 : decode cX6_goesOn 52 = .ok (.iload_n 1, 1) := by decide +kernel
theorem dX6_goesOn_53 : decode cX6_goesOn 53 = .ok (.sipush 600, 3) := by decide +kernel
theorem dX6_goesOn_56 : decode cX6_goesOn 56 = .ok (.if_icmp .ge 16, 3) := by decide +kernel
theorem dX6_goesOn_59 : decode cX6_goesOn 59 = .ok (.aload_n 0, 1) := by decide +kernel
theorem dX6_goesOn_60 : decode cX6_goesOn 60 = .ok (.getfield 29, 3) := by decide +kernel
theorem dX6_goesOn_63 : decode cX6_goesOn 63 = .ok (.iload_n 1, 1) := by decide +kernel
theorem dX6_goesOn_64 : decode cX6_goesOn 64 = .ok (.iconst 0, 1) := by decide +kernel
theorem dX6_goesOn_65 : decode cX6_goesOn 65 = .ok (.bastore, 1) := by decide +kernel
theorem dX6_goesOn_66 : decode cX6_goesOn 66 = .ok (.iinc 1 1, 3) := by decide +kernel
theorem dX6_goesOn_69 : decode cX6_goesOn 69 = .ok (.goto (-17), 3) := by decide +kernel
theorem dX6_goesOn_72 : decode cX6_goesOn 72 = .ok (.iconst 0, 1) := by decide +kernel
theorem dX6_goesOn_73 : decode cX6_goesOn 73 = .ok (.istore_n 1, 1) := by decide +kernel
theorem dX6_goesOn_74 : decode cX6_goesOn 74 = .ok (.iconst 0, 1) := by decide +kernel
theorem dX6_goesOn_75 : decode cX6_goesOn 75 = .ok (.istore_n 2, 1) := by decide +kernel
theorem dX6_goesOn_76 : decode cX6_goesOn 76 = .ok (.iload_n 2, 1) := by decide +kernel
theorem dX6_goesOn_77 : decode cX6_goesOn 77 = .ok (.aload_n 0, 1) := by decide +kernel
theorem dX6_goesOn_78 : decode cX6_goesOn 78 = .ok (.getfield 7, 3) := by decide +kernel
theorem dX6_goesOn_81 : decode cX6_goesOn 81 = .ok (.iconst 3, 1) := by decide +kernel
theorem dX6_goesOn_82 : decode cX6_goesOn 82 = .ok (.iaload, 1) := by decide +kernel
theorem dX6_goesOn_83 : decode cX6_goesOn 83 = .ok (.if_icmp .ge 44, 3) := by decide +kernel
theorem dX6_goesOn_86 : decode cX6_goesOn 86 = .ok (.iconst 0, 1) := by decide +kernel
theorem dX6_goesOn_87 : decode cX6_goesOn 87 = .ok (.istore_n 3, 1) := by decide +kernel
theorem dX6_goesOn_88 : decode cX6_goesOn 88 = .ok (.iload_n 3, 1) := by decide +kernel
theorem dX6_goesOn_89 : decode cX6_goesOn 89 = .ok (.aload_n 0, 1) := by decide +kernel
theorem dX6_goesOn_90 : decode cX6_goesOn 90 = .ok (.getfield 7, 3) := by decide +kernel
theorem dX6_goesOn_93 : decode cX6_goesOn 93 = .ok (.iconst 2, 1) := by decide +kernel
theorem dX6_goesOn_94 : decode cX6_goesOn 94 = .ok (.iaload, 1) := by decide +kernel
theorem dX6_goesOn_95 : decode cX6_goesOn 95 = .ok (.if_icmp .ge 26, 3) := by decide +kernel
theorem dX6_goesOn_98 : decode cX6_goesOn 98 = .ok (.iload_n 1, 1) := by decide +kernel
theorem dX6_goesOn_99 : decode cX6_goesOn 99 = .ok (.aload_n 0, 1) := by decide +kernel
theorem dX6_goesOn_100 : decode cX6_goesOn 100 = .ok (.iload_n 2, 1) := by decide +kernel
theorem dX6_goesOn_101 : decode cX6_goesOn 101 = .ok (.iload_n 3, 1) := by decide +kernel
theorem dX6_goesOn_102 : decode cX6_goesOn 102 = .ok (.invokevirtual 152, 3) := by decide +kernel
theorem dX6_goesOn_105 : decode cX6_goesOn 105 = .ok (.ifCond .eq 7, 3) := by decide +kernel
theorem dX6_goesOn_108 : decode cX6_goesOn 108 = .ok (.iconst 1, 1) := by decide +kernel
theorem dX6_goesOn_109 : decode cX6_goesOn 109 = .ok (.goto 4, 3) := by decide +kernel
theorem dX6_goesOn_112 : decode cX6_goesOn 112 = .ok (.iconst 0, 1) := by decide +kernel
theorem dX6_goesOn_113 : decode cX6_goesOn 113 = .ok (.iadd, 1) := by decide +kernel
theorem dX6_goesOn_114 : decode cX6_goesOn 114 = .ok (.istore_n 1, 1) := by decide +kernel
theorem dX6_goesOn_115 : decode cX6_goesOn 115 = .ok (.iinc 3 1, 3) := by decide +kernel
theorem dX6_goesOn_118 : decode cX6_goesOn 118 = .ok (.goto (-30), 3) := by decide +kernel
theorem dX6_goesOn_121 : decode cX6_goesOn 121 = .ok (.iinc 2 1, 3) := by decide +kernel
theorem dX6_goesOn_124 : decode cX6_goesOn 124 = .ok (.goto (-48), 3) := by decide +kernel
theorem dX6_goesOn_127 : decode cX6_goesOn 127 = .ok (.aload_n 0, 1) := by decide +kernel
theorem dX6_goesOn_128 : decode cX6_goesOn 128 = .ok (.getfield 7, 3) := by decide +kernel
theorem dX6_goesOn_131 : decode cX6_goesOn 131 = .ok (.iconst 5, 1) := by decide +kernel
theorem dX6_goesOn_132 : decode cX6_goesOn 132 = .ok (.dup2, 1) := by decide +kernel
theorem dX6_goesOn_133 : decode cX6_goesOn 133 = .ok (.iaload, 1) := by decide +kernel
theorem dX6_goesOn_134 : decode cX6_goesOn 134 = .ok (.iconst 1, 1) := by decide +kernel
theorem dX6_goesOn_135 : decode cX6_goesOn 135 = .ok (.iadd, 1) := by decide +kernel
theorem dX6_goesOn_136 : decode cX6_goesOn 136 = .ok (.iastore, 1) := by decide +kernel
theorem dX6_goesOn_137 : decode cX6_goesOn 137 = .ok (.iload_n 1, 1) := by decide +kernel
theorem dX6_goesOn_138 : decode cX6_goesOn 138 = .ok (.ireturn, 1) := by decide +kernel
set_option maxRecDepth 20000 in
theorem ggX6_goesFor_X6_goesOn : GoodIn wsX6_goesFor wsX6_goesOn := goodIn_r _ [5, 6, 7, 8, 9, 10, 4, 11, 12, 13, 14, 15, 16, 17, 18, 19, 20, 21, 22, 23, 24, 25, 26, 27, 28, 29, 30, 31, 32, 33, 34, 35, 36, 37, 38, 39, 40, 41, 42, 43, 44, 45, 46, 47, 48, 49, 50, 51, 52, 53, 54, 55, 56, 57, 58, 59, 60, 61, 62, 63, 64, 65, 66, 67, 68, 69, 70, 71, 72, 73, 74, 75, 76, 77, 78, 79, 80, 81, 82, 83, 84, 85, 86, 87, 88, 89, 90, 91, 92, 93, 94, 95, 96, 97, 98, 99, 100, 101, 102, 103, 104, 105, 106, 107, 108] (by decide +kernel) (by decide +kernel)
set_option maxRecDepth 20000 in
theorem gX6_goesFor_X6_goesOn : GoodIn wsX6_goesFor (wsV RX6 155 RX6 yX6_goesOn wsX6_goesOn) := goodIn_app (goodIn_of _ (by decide +kernel)) ggX6_goesFor_X6_goesOn
theorem dX6_goesFor_0 : decode cX6_goesFor 0 = .ok (.iconst 0, 1) := by decide +kernel
theorem dX6_goesFor_1 : decode cX6_goesFor 1 = .ok (.istore_n 2, 1) := by decide +kernel
theorem dX6_goesFor_2 : decode cX6_goesFor 2 = .ok (.iconst 0, 1) := by decide +kernel
theorem dX6_goesFor_3 : decode cX6_goesFor 3 = .ok (.istore_n 3, 1) := by decide +kernel
theorem dX6_goesFor_4 : decode cX6_goesFor 4 = .ok (.iload_n 3, 1) := by decide +kernel
theorem dX6_goesFor_5 : decode cX6_goesFor 5 = .ok (.iload_n 1, 1) := by decide +kernel
theorem dX6_goesFor_6 : decode cX6_goesFor 6 = .ok (.if_icmp .ge 16, 3) := by decide +kernel
theorem dX6_goesFor_9 : decode cX6_goesFor 9 = .ok (.iload_n 2, 1) := by decide +kernel
theorem dX6_goesFor_10 : decode cX6_goesFor 10 = .ok (.aload_n 0, 1) := by decide +kernel
theorem dX6_goesFor_11 : decode cX6_goesFor 11 = .ok (.invokevirtual 155, 3) := by decide +kernel
theorem dX6_goesFor_14 : decode cX6_goesFor 14 = .ok (.iadd, 1) := by decide +kernel
theorem dX6_goesFor_15 : decode cX6_goesFor 15 = .ok (.istore_n 2, 1) := by decide +kernel
theorem dX6_goesFor_16 : decode cX6_goesFor 16 = .ok (.iinc 3 1, 3) := by decide +kernel
theorem dX6_goesFor_19 : decode cX6_goesFor 19 = .ok (.goto (-15), 3) := by decide +kernel
theorem dX6_goesFor_22 : decode cX6_goesFor 22 = .ok (.iload_n 2, 1) := by decide +kernel
theorem dX6_goesFor_23 : decode cX6_goesFor 23 = .ok (.ireturn, 1) := by decide +kernel
set_option maxRecDepth 20000 in
theorem ggX6_rounds_X6_in : GoodIn wsX6_rounds wsX6_in := goodIn_r _ [6] (by decide +kernel) (by decide +kernel)
set_option maxRecDepth 20000 in
theorem gX6_rounds_X6_in : GoodIn wsX6_rounds (va_wsS RX6 43 yX6_in wsX6_in) := goodIn_app (goodIn_of _ (by decide +kernel)) ggX6_rounds_X6_in
set_option maxRecDepth 20000 in
theorem ggX6_rounds_X6_saves : GoodIn wsX6_rounds wsX6_saves := goodIn_r _ [10, 11, 12, 13, 14, 5, 15, 1, 107, 108, 109, 110, 111, 112, 113, 114, 115, 116, 117, 118, 119, 120, 121, 122] (by decide +kernel) (by decide +kernel)
set_option maxRecDepth 20000 in
theorem gX6_rounds_X6_saves : GoodIn wsX6_rounds (wsV RX6 54 RX6 yX6_saves wsX6_saves) := goodIn_app (goodIn_of _ (by decide +kernel)) ggX6_rounds_X6_saves
set_option maxRecDepth 20000 in
theorem ggX6_rounds_X6_goesFor : GoodIn wsX6_rounds wsX6_goesFor := goodIn_r _ [19, 20, 21, 22, 5, 23, 1, 24, 25, 26, 27, 28, 29, 30, 31, 32, 33, 34, 35, 36, 37, 38, 39, 40, 41, 42, 43, 44, 45, 46, 47, 48, 49, 50, 51, 52, 53, 54, 55, 56, 57, 3, 4, 6, 58, 59, 60, 61, 62, 63, 64, 65, 66, 67, 68, 69, 70, 71, 72, 73, 74, 75, 76, 77, 78, 79, 80, 81, 82, 83, 84, 85, 86, 87, 88, 89, 90, 91, 92, 93, 94, 95, 96, 97, 98, 99, 100, 101, 102, 103, 104, 105, 106, 107, 108, 109, 110, 111, 112, 113, 114, 115, 116, 117, 118, 119, 120, 121, 122] (by decide +kernel) (by decide +kernel)
set_option maxRecDepth 20000 in
theorem gX6_rounds_X6_goesFor : GoodIn wsX6_rounds (wsV RX6 158 RX6 yX6_goesFor wsX6_goesFor) := goodIn_app (goodIn_of _ (by decide +kernel)) ggX6_rounds_X6_goesFor
theorem dX6_rounds_0 : decode cX6_rounds 0 = .ok (.iload_n 1, 1) := by decide +kernel
theorem dX6_rounds_1 : decode cX6_rounds 1 = .ok (.iconst 1, 1) := by decide +kernel
theorem dX6_rounds_2 : decode cX6_rounds 2 = .ok (.bipush 100, 2) := by decide +kernel
theorem dX6_rounds_4 : decode cX6_rounds 4 = .ok (.invokestatic 43, 3) := by decide +kernel
theorem dX6_rounds_7 : decode cX6_rounds 7 = .ok (.ifCond .ne 7, 3) := by decide +kernel
theorem dX6_rounds_10 : decode cX6_rounds 10 = .ok (.sipush (-1002), 3) := by decide +kernel
theorem dX6_rounds_13 : decode cX6_rounds 13 = .ok (.ireturn, 1) := by decide +kernel
theorem dX6_rounds_14 : decode cX6_rounds 14 = .ok (.aload_n 0, 1) := by decide +kernel
theorem dX6_rounds_15 : decode cX6_rounds 15 = .ok (.getfield 7, 3) := by decide +kernel
theorem dX6_rounds_18 : decode cX6_rounds 18 = .ok (.iconst 5, 1) := by decide +kernel
theorem dX6_rounds_19 : decode cX6_rounds 19 = .ok (.iaload, 1) := by decide +kernel
theorem dX6_rounds_20 : decode cX6_rounds 20 = .ok (.iload_n 1, 1) := by decide +kernel
theorem dX6_rounds_21 : decode cX6_rounds 21 = .ok (.iadd, 1) := by decide +kernel
theorem dX6_rounds_22 : decode cX6_rounds 22 = .ok (.ldc 90, 2) := by decide +kernel
theorem dX6_rounds_24 : decode cX6_rounds 24 = .ok (.if_icmp .le 7, 3) := by decide +kernel
theorem dX6_rounds_27 : decode cX6_rounds 27 = .ok (.sipush (-1004), 3) := by decide +kernel
theorem dX6_rounds_30 : decode cX6_rounds 30 = .ok (.ireturn, 1) := by decide +kernel
theorem dX6_rounds_31 : decode cX6_rounds 31 = .ok (.aload_n 0, 1) := by decide +kernel
theorem dX6_rounds_32 : decode cX6_rounds 32 = .ok (.invokevirtual 54, 3) := by decide +kernel
theorem dX6_rounds_35 : decode cX6_rounds 35 = .ok (.aload_n 0, 1) := by decide +kernel
theorem dX6_rounds_36 : decode cX6_rounds 36 = .ok (.iload_n 1, 1) := by decide +kernel
theorem dX6_rounds_37 : decode cX6_rounds 37 = .ok (.invokevirtual 158, 3) := by decide +kernel
theorem dX6_rounds_40 : decode cX6_rounds 40 = .ok (.ireturn, 1) := by decide +kernel
set_option maxRecDepth 20000 in
theorem ggX6_wayLength_X6_isInterest : GoodIn wsX6_wayLength wsX6_isInterest := goodIn_r _ [5, 6, 7, 8, 4, 9, 22, 23, 24, 25, 26, 27, 28, 29, 30, 31, 32, 33, 34, 35, 36, 37] (by decide +kernel) (by decide +kernel)
set_option maxRecDepth 20000 in
theorem gX6_wayLength_X6_isInterest : GoodIn wsX6_wayLength (wsV RX6 91 RX6 yX6_isInterest wsX6_isInterest) := goodIn_app (goodIn_of _ (by decide +kernel)) ggX6_wayLength_X6_isInterest
set_option maxRecDepth 20000 in
theorem ggX6_wayLength_X6_isSensor : GoodIn wsX6_wayLength wsX6_isSensor := goodIn_r _ [13, 6, 7, 8, 4, 9, 22, 23, 24, 25, 26, 27, 28, 29, 30, 31, 32, 33, 34, 35, 36, 37] (by decide +kernel) (by decide +kernel)
set_option maxRecDepth 20000 in
theorem gX6_wayLength_X6_isSensor : GoodIn wsX6_wayLength (wsV RX6 84 RX6 yX6_isSensor wsX6_isSensor) := goodIn_app (goodIn_of _ (by decide +kernel)) ggX6_wayLength_X6_isSensor
set_option maxRecDepth 20000 in
theorem ggX6_wayLength_X6_lengthOf : GoodIn wsX6_wayLength wsX6_lengthOf := goodIn_r _ [17, 6, 18, 19, 20, 4, 21, 22, 23, 24, 25, 26, 27, 28, 29, 30, 31, 32, 33, 34, 35, 36, 37] (by decide +kernel) (by decide +kernel)
set_option maxRecDepth 20000 in
theorem gX6_wayLength_X6_lengthOf : GoodIn wsX6_wayLength (wsV RX6 107 RX6 yX6_lengthOf wsX6_lengthOf) := goodIn_app (goodIn_of _ (by decide +kernel)) ggX6_wayLength_X6_lengthOf
theorem dX6_wayLength_0 : decode cX6_wayLength 0 = .ok (.aload_n 0, 1) := by decide +kernel
theorem dX6_wayLength_1 : decode cX6_wayLength 1 = .ok (.iload_n 1, 1) := by decide +kernel
theorem dX6_wayLength_2 : decode cX6_wayLength 2 = .ok (.invokevirtual 91, 3) := by decide +kernel
theorem dX6_wayLength_5 : decode cX6_wayLength 5 = .ok (.ifCond .eq 20, 3) := by decide +kernel
theorem dX6_wayLength_8 : decode cX6_wayLength 8 = .ok (.aload_n 0, 1) := by decide +kernel
theorem dX6_wayLength_9 : decode cX6_wayLength 9 = .ok (.iload_n 2, 1) := by decide +kernel
theorem dX6_wayLength_10 : decode cX6_wayLength 10 = .ok (.invokevirtual 84, 3) := by decide +kernel
theorem dX6_wayLength_13 : decode cX6_wayLength 13 = .ok (.ifCond .eq 12, 3) := by decide +kernel
theorem dX6_wayLength_16 : decode cX6_wayLength 16 = .ok (.aload_n 0, 1) := by decide +kernel
theorem dX6_wayLength_17 : decode cX6_wayLength 17 = .ok (.iload_n 1, 1) := by decide +kernel
theorem dX6_wayLength_18 : decode cX6_wayLength 18 = .ok (.iload_n 2, 1) := by decide +kernel
theorem dX6_wayLength_19 : decode cX6_wayLength 19 = .ok (.invokevirtual 107, 3) := by decide +kernel
theorem dX6_wayLength_22 : decode cX6_wayLength 22 = .ok (.goto 6, 3) := by decide +kernel
theorem dX6_wayLength_25 : decode cX6_wayLength 25 = .ok (.sipush (-1001), 3) := by decide +kernel
theorem dX6_wayLength_28 : decode cX6_wayLength 28 = .ok (.ireturn, 1) := by decide +kernel
set_option maxRecDepth 20000 in
theorem ggX6_wayNode_X6_isInterest : GoodIn wsX6_wayNode wsX6_isInterest := goodIn_r _ [5, 6, 7, 8, 4, 9, 26, 27, 28, 29, 30, 31, 32, 33, 34, 35, 36, 37, 38, 39, 40, 41] (by decide +kernel) (by decide +kernel)
set_option maxRecDepth 20000 in
theorem gX6_wayNode_X6_isInterest : GoodIn wsX6_wayNode (wsV RX6 91 RX6 yX6_isInterest wsX6_isInterest) := goodIn_app (goodIn_of _ (by decide +kernel)) ggX6_wayNode_X6_isInterest
set_option maxRecDepth 20000 in
theorem ggX6_wayNode_X6_isSensor : GoodIn wsX6_wayNode wsX6_isSensor := goodIn_r _ [13, 6, 7, 8, 4, 9, 26, 27, 28, 29, 30, 31, 32, 33, 34, 35, 36, 37, 38, 39, 40, 41] (by decide +kernel) (by decide +kernel)
set_option maxRecDepth 20000 in
theorem gX6_wayNode_X6_isSensor : GoodIn wsX6_wayNode (wsV RX6 84 RX6 yX6_isSensor wsX6_isSensor) := goodIn_app (goodIn_of _ (by decide +kernel)) ggX6_wayNode_X6_isSensor
set_option maxRecDepth 20000 in
theorem ggX6_wayNode_X6_lengthOf : GoodIn wsX6_wayNode wsX6_lengthOf := goodIn_r _ [17, 6, 18, 19, 20, 4, 21, 26, 27, 28, 29, 30, 31, 32, 33, 34, 35, 36, 37, 38, 39, 40, 41] (by decide +kernel) (by decide +kernel)
set_option maxRecDepth 20000 in
theorem gX6_wayNode_X6_lengthOf : GoodIn wsX6_wayNode (wsV RX6 107 RX6 yX6_lengthOf wsX6_lengthOf) := goodIn_app (goodIn_of _ (by decide +kernel)) ggX6_wayNode_X6_lengthOf
set_option maxRecDepth 20000 in
theorem ggX6_wayNode_X6_nodeOf : GoodIn wsX6_wayNode wsX6_nodeOf := goodIn_r _ [25, 6, 18, 19, 20, 4, 21, 26, 27, 28, 29, 30, 31, 32, 33, 34, 35, 36, 37, 38, 39, 40, 41] (by decide +kernel) (by decide +kernel)
set_option maxRecDepth 20000 in
theorem gX6_wayNode_X6_nodeOf : GoodIn wsX6_wayNode (wsV RX6 113 RX6 yX6_nodeOf wsX6_nodeOf) := goodIn_app (goodIn_of _ (by decide +kernel)) ggX6_wayNode_X6_nodeOf
theorem dX6_wayNode_0 : decode cX6_wayNode 0 = .ok (.aload_n 0, 1) := by decide +kernel
theorem dX6_wayNode_1 : decode cX6_wayNode 1 = .ok (.iload_n 1, 1) := by decide +kernel
theorem dX6_wayNode_2 : decode cX6_wayNode 2 = .ok (.invokevirtual 91, 3) := by decide +kernel
theorem dX6_wayNode_5 : decode cX6_wayNode 5 = .ok (.ifCond .eq 11, 3) := by decide +kernel
theorem dX6_wayNode_8 : decode cX6_wayNode 8 = .ok (.aload_n 0, 1) := by decide +kernel
theorem dX6_wayNode_9 : decode cX6_wayNode 9 = .ok (.iload_n 2, 1) := by decide +kernel
theorem dX6_wayNode_10 : decode cX6_wayNode 10 = .ok (.invokevirtual 84, 3) := by decide +kernel
theorem dX6_wayNode_13 : decode cX6_wayNode 13 = .ok (.ifCond .ne 7, 3) := by decide +kernel
theorem dX6_wayNode_16 : decode cX6_wayNode 16 = .ok (.sipush (-1001), 3) := by decide +kernel
theorem dX6_wayNode_19 : decode cX6_wayNode 19 = .ok (.ireturn, 1) := by decide +kernel
theorem dX6_wayNode_20 : decode cX6_wayNode 20 = .ok (.iload_n 3, 1) := by decide +kernel
theorem dX6_wayNode_21 : decode cX6_wayNode 21 = .ok (.ifCond .ge 7, 3) := by decide +kernel
theorem dX6_wayNode_24 : decode cX6_wayNode 24 = .ok (.sipush (-1002), 3) := by decide +kernel
theorem dX6_wayNode_27 : decode cX6_wayNode 27 = .ok (.ireturn, 1) := by decide +kernel
theorem dX6_wayNode_28 : decode cX6_wayNode 28 = .ok (.iload_n 3, 1) := by decide +kernel
theorem dX6_wayNode_29 : decode cX6_wayNode 29 = .ok (.aload_n 0, 1) := by decide +kernel
theorem dX6_wayNode_30 : decode cX6_wayNode 30 = .ok (.iload_n 1, 1) := by decide +kernel
theorem dX6_wayNode_31 : decode cX6_wayNode 31 = .ok (.iload_n 2, 1) := by decide +kernel
theorem dX6_wayNode_32 : decode cX6_wayNode 32 = .ok (.invokevirtual 107, 3) := by decide +kernel
theorem dX6_wayNode_35 : decode cX6_wayNode 35 = .ok (.if_icmp .ge 13, 3) := by decide +kernel
theorem dX6_wayNode_38 : decode cX6_wayNode 38 = .ok (.aload_n 0, 1) := by decide +kernel
theorem dX6_wayNode_39 : decode cX6_wayNode 39 = .ok (.iload_n 1, 1) := by decide +kernel
theorem dX6_wayNode_40 : decode cX6_wayNode 40 = .ok (.iload_n 2, 1) := by decide +kernel
theorem dX6_wayNode_41 : decode cX6_wayNode 41 = .ok (.iload_n 3, 1) := by decide +kernel
theorem dX6_wayNode_42 : decode cX6_wayNode 42 = .ok (.invokevirtual 113, 3) := by decide +kernel
theorem dX6_wayNode_45 : decode cX6_wayNode 45 = .ok (.goto 6, 3) := by decide +kernel
theorem dX6_wayNode_48 : decode cX6_wayNode 48 = .ok (.sipush (-1000), 3) := by decide +kernel
theorem dX6_wayNode_51 : decode cX6_wayNode 51 = .ok (.ireturn, 1) := by decide +kernel
set_option maxRecDepth 20000 in
theorem ggX6_isWhole_X6_isInterest : GoodIn wsX6_isWhole wsX6_isInterest := goodIn_r _ [5, 6, 7, 8, 4, 9, 42, 43, 44, 45, 46, 47, 48, 49, 50, 51, 52, 53, 54, 55, 56, 57] (by decide +kernel) (by decide +kernel)
set_option maxRecDepth 20000 in
theorem gX6_isWhole_X6_isInterest : GoodIn wsX6_isWhole (wsV RX6 91 RX6 yX6_isInterest wsX6_isInterest) := goodIn_app (goodIn_of _ (by decide +kernel)) ggX6_isWhole_X6_isInterest
set_option maxRecDepth 20000 in
theorem ggX6_isWhole_X6_isSensor : GoodIn wsX6_isWhole wsX6_isSensor := goodIn_r _ [13, 6, 7, 8, 4, 9, 42, 43, 44, 45, 46, 47, 48, 49, 50, 51, 52, 53, 54, 55, 56, 57] (by decide +kernel) (by decide +kernel)
set_option maxRecDepth 20000 in
theorem gX6_isWhole_X6_isSensor : GoodIn wsX6_isWhole (wsV RX6 84 RX6 yX6_isSensor wsX6_isSensor) := goodIn_app (goodIn_of _ (by decide +kernel)) ggX6_isWhole_X6_isSensor
set_option maxRecDepth 20000 in
theorem ggX6_isWhole_X6_isWholeWay : GoodIn wsX6_isWhole wsX6_isWholeWay := goodIn_r _ [17, 18, 19, 20, 4, 21, 6, 22, 23, 24, 25, 26, 27, 28, 29, 30, 31, 32, 33, 34, 35, 36, 37, 38, 39, 40, 41, 42, 43, 44, 45, 46, 47, 48, 49, 50, 51, 52, 53, 54, 55, 56, 57] (by decide +kernel) (by decide +kernel)
set_option maxRecDepth 20000 in
theorem gX6_isWhole_X6_isWholeWay : GoodIn wsX6_isWhole (wsV RX6 143 RX6 yX6_isWholeWay wsX6_isWholeWay) := goodIn_app (goodIn_of _ (by decide +kernel)) ggX6_isWhole_X6_isWholeWay
theorem dX6_isWhole_0 : decode cX6_isWhole 0 = .ok (.aload_n 0, 1) := by decide +kernel
theorem dX6_isWhole_1 : decode cX6_isWhole 1 = .ok (.iload_n 1, 1) := by decide +kernel
theorem dX6_isWhole_2 : decode cX6_isWhole 2 = .ok (.invokevirtual 91, 3) := by decide +kernel
theorem dX6_isWhole_5 : decode cX6_isWhole 5 = .ok (.ifCond .eq 11, 3) := by decide +kernel
theorem dX6_isWhole_8 : decode cX6_isWhole 8 = .ok (.aload_n 0, 1) := by decide +kernel
theorem dX6_isWhole_9 : decode cX6_isWhole 9 = .ok (.iload_n 2, 1) := by decide +kernel
theorem dX6_isWhole_10 : decode cX6_isWhole 10 = .ok (.invokevirtual 84, 3) := by decide +kernel
theorem dX6_isWhole_13 : decode cX6_isWhole 13 = .ok (.ifCond .ne 7, 3) := by decide +kernel
theorem dX6_isWhole_16 : decode cX6_isWhole 16 = .ok (.sipush (-1001), 3) := by decide +kernel
theorem dX6_isWhole_19 : decode cX6_isWhole 19 = .ok (.ireturn, 1) := by decide +kernel
theorem dX6_isWhole_20 : decode cX6_isWhole 20 = .ok (.aload_n 0, 1) := by decide +kernel
theorem dX6_isWhole_21 : decode cX6_isWhole 21 = .ok (.iload_n 1, 1) := by decide +kernel
theorem dX6_isWhole_22 : decode cX6_isWhole 22 = .ok (.iload_n 2, 1) := by decide +kernel
theorem dX6_isWhole_23 : decode cX6_isWhole 23 = .ok (.invokevirtual 143, 3) := by decide +kernel
theorem dX6_isWhole_26 : decode cX6_isWhole 26 = .ok (.ifCond .eq 7, 3) := by decide +kernel
theorem dX6_isWhole_29 : decode cX6_isWhole 29 = .ok (.iconst 1, 1) := by decide +kernel
theorem dX6_isWhole_30 : decode cX6_isWhole 30 = .ok (.goto 4, 3) := by decide +kernel
theorem dX6_isWhole_33 : decode cX6_isWhole 33 = .ok (.iconst 0, 1) := by decide +kernel
theorem dX6_isWhole_34 : decode cX6_isWhole 34 = .ok (.ireturn, 1) := by decide +kernel
set_option maxRecDepth 20000 in
theorem ggX6_quickest_X6_isNode : GoodIn wsX6_quickest wsX6_isNode := goodIn_r _ [6, 7, 8, 9, 5, 10, 29, 30, 31, 32, 33, 34, 35, 36, 37, 38, 39, 40, 41, 42, 43, 44] (by decide +kernel) (by decide +kernel)
set_option maxRecDepth 20000 in
theorem gX6_quickest_X6_isNode : GoodIn wsX6_quickest (wsV RX6 61 RX6 yX6_isNode wsX6_isNode) := goodIn_app (goodIn_of _ (by decide +kernel)) ggX6_quickest_X6_isNode
set_option maxRecDepth 20000 in
theorem ggX6_quickest_X6_looksAlive : GoodIn wsX6_quickest wsX6_looksAlive := goodIn_r _ [14, 15, 7, 16, 17, 18, 5, 19, 29, 30, 31, 32, 33, 34, 35, 36, 37, 38, 39, 40, 41, 42, 43, 44] (by decide +kernel) (by decide +kernel)
set_option maxRecDepth 20000 in
theorem gX6_quickest_X6_looksAlive : GoodIn wsX6_quickest (wsV RX6 136 RX6 yX6_looksAlive wsX6_looksAlive) := goodIn_app (goodIn_of _ (by decide +kernel)) ggX6_quickest_X6_looksAlive
set_option maxRecDepth 20000 in
theorem ggX6_quickest_X6_reaches : GoodIn wsX6_quickest wsX6_reaches := goodIn_r _ [23, 1, 15, 24, 7, 25, 26, 27, 5, 28, 29, 30, 31, 32, 33, 34, 35, 36, 37, 38, 39, 40, 41, 42, 43, 44] (by decide +kernel) (by decide +kernel)
set_option maxRecDepth 20000 in
theorem gX6_quickest_X6_reaches : GoodIn wsX6_quickest (wsV RX6 120 RX6 yX6_reaches wsX6_reaches) := goodIn_app (goodIn_of _ (by decide +kernel)) ggX6_quickest_X6_reaches
theorem dX6_quickest_0 : decode cX6_quickest 0 = .ok (.aload_n 0, 1) := by decide +kernel
theorem dX6_quickest_1 : decode cX6_quickest 1 = .ok (.iload_n 1, 1) := by decide +kernel
theorem dX6_quickest_2 : decode cX6_quickest 2 = .ok (.invokevirtual 61, 3) := by decide +kernel
theorem dX6_quickest_5 : decode cX6_quickest 5 = .ok (.ifCond .eq 11, 3) := by decide +kernel
theorem dX6_quickest_8 : decode cX6_quickest 8 = .ok (.aload_n 0, 1) := by decide +kernel
theorem dX6_quickest_9 : decode cX6_quickest 9 = .ok (.iload_n 2, 1) := by decide +kernel
theorem dX6_quickest_10 : decode cX6_quickest 10 = .ok (.invokevirtual 61, 3) := by decide +kernel
theorem dX6_quickest_13 : decode cX6_quickest 13 = .ok (.ifCond .ne 7, 3) := by decide +kernel
theorem dX6_quickest_16 : decode cX6_quickest 16 = .ok (.sipush (-1001), 3) := by decide +kernel
theorem dX6_quickest_19 : decode cX6_quickest 19 = .ok (.ireturn, 1) := by decide +kernel
theorem dX6_quickest_20 : decode cX6_quickest 20 = .ok (.aload_n 0, 1) := by decide +kernel
theorem dX6_quickest_21 : decode cX6_quickest 21 = .ok (.invokevirtual 136, 3) := by decide +kernel
theorem dX6_quickest_24 : decode cX6_quickest 24 = .ok (.aload_n 0, 1) := by decide +kernel
theorem dX6_quickest_25 : decode cX6_quickest 25 = .ok (.iload_n 1, 1) := by decide +kernel
theorem dX6_quickest_26 : decode cX6_quickest 26 = .ok (.invokevirtual 120, 3) := by decide +kernel
theorem dX6_quickest_29 : decode cX6_quickest 29 = .ok (.aload_n 0, 1) := by decide +kernel
theorem dX6_quickest_30 : decode cX6_quickest 30 = .ok (.getfield 13, 3) := by decide +kernel
theorem dX6_quickest_33 : decode cX6_quickest 33 = .ok (.iload_n 2, 1) := by decide +kernel
theorem dX6_quickest_34 : decode cX6_quickest 34 = .ok (.iaload, 1) := by decide +kernel
theorem dX6_quickest_35 : decode cX6_quickest 35 = .ok (.ireturn, 1) := by decide +kernel
set_option maxRecDepth 20000 in
theorem ggX6_load_X6_isLink : GoodIn wsX6_load wsX6_isLink := goodIn_r _ [6, 1, 7, 8, 5, 9, 30, 31, 32, 33, 34, 35, 36, 37, 38, 39, 40, 41, 42, 43, 44, 45] (by decide +kernel) (by decide +kernel)
set_option maxRecDepth 20000 in
theorem gX6_load_X6_isLink : GoodIn wsX6_load (wsV RX6 72 RX6 yX6_isLink wsX6_isLink) := goodIn_app (goodIn_of _ (by decide +kernel)) ggX6_load_X6_isLink
set_option maxRecDepth 20000 in
theorem ggX6_load_X6_lengthOf : GoodIn wsX6_load wsX6_lengthOf := goodIn_r _ [13, 1, 14, 15, 16, 5, 17, 30, 31, 32, 33, 34, 35, 36, 37, 38, 39, 40, 41, 42, 43, 44, 45] (by decide +kernel) (by decide +kernel)
set_option maxRecDepth 20000 in
theorem gX6_load_X6_lengthOf : GoodIn wsX6_load (wsV RX6 107 RX6 yX6_lengthOf wsX6_lengthOf) := goodIn_app (goodIn_of _ (by decide +kernel)) ggX6_load_X6_lengthOf
set_option maxRecDepth 20000 in
theorem ggX6_load_X6_nodeOf : GoodIn wsX6_load wsX6_nodeOf := goodIn_r _ [21, 1, 14, 15, 16, 5, 17, 30, 31, 32, 33, 34, 35, 36, 37, 38, 39, 40, 41, 42, 43, 44, 45] (by decide +kernel) (by decide +kernel)
set_option maxRecDepth 20000 in
theorem gX6_load_X6_nodeOf : GoodIn wsX6_load (wsV RX6 113 RX6 yX6_nodeOf wsX6_nodeOf) := goodIn_app (goodIn_of _ (by decide +kernel)) ggX6_load_X6_nodeOf
set_option maxRecDepth 20000 in
theorem ggX6_load_X6_linkOf : GoodIn wsX6_load wsX6_linkOf := goodIn_r _ [25, 1, 26, 27, 28, 5, 29, 30, 31, 32, 33, 34, 35, 36, 37, 38, 39, 40, 41, 42, 43, 44, 45] (by decide +kernel) (by decide +kernel)
set_option maxRecDepth 20000 in
theorem gX6_load_X6_linkOf : GoodIn wsX6_load (wsV RX6 65 RX6 yX6_linkOf wsX6_linkOf) := goodIn_app (goodIn_of _ (by decide +kernel)) ggX6_load_X6_linkOf
theorem dX6_load_0 : decode cX6_load 0 = .ok (.aload_n 0, 1) := by decide +kernel
theorem dX6_load_1 : decode cX6_load 1 = .ok (.iload_n 1, 1) := by decide +kernel
theorem dX6_load_2 : decode cX6_load 2 = .ok (.invokevirtual 72, 3) := by decide +kernel
theorem dX6_load_5 : decode cX6_load 5 = .ok (.ifCond .ne 7, 3) := by decide +kernel
theorem dX6_load_8 : decode cX6_load 8 = .ok (.sipush (-1001), 3) := by decide +kernel
theorem dX6_load_11 : decode cX6_load 11 = .ok (.ireturn, 1) := by decide +kernel
theorem dX6_load_12 : decode cX6_load 12 = .ok (.iconst 0, 1) := by decide +kernel
theorem dX6_load_13 : decode cX6_load 13 = .ok (.istore_n 2, 1) := by decide +kernel
theorem dX6_load_14 : decode cX6_load 14 = .ok (.iconst 0, 1) := by decide +kernel
theorem dX6_load_15 : decode cX6_load 15 = .ok (.istore_n 3, 1) := by decide +kernel
theorem dX6_load_16 : decode cX6_load 16 = .ok (.iload_n 3, 1) := by decide +kernel
theorem dX6_load_17 : decode cX6_load 17 = .ok (.aload_n 0, 1) := by decide +kernel
theorem dX6_load_18 : decode cX6_load 18 = .ok (.getfield 7, 3) := by decide +kernel
theorem dX6_load_21 : decode cX6_load 21 = .ok (.iconst 3, 1) := by decide +kernel
theorem dX6_load_22 : decode cX6_load 22 = .ok (.iaload, 1) := by decide +kernel
theorem dX6_load_23 : decode cX6_load 23 = .ok (.if_icmp .ge 86, 3) := by decide +kernel
theorem dX6_load_26 : decode cX6_load 26 = .ok (.iconst 0, 1) := by decide +kernel
theorem dX6_load_27 : decode cX6_load 27 = .ok (.istore 4, 2) := by decide +kernel
theorem dX6_load_29 : decode cX6_load 29 = .ok (.iload 4, 2) := by decide +kernel
theorem dX6_load_31 : decode cX6_load 31 = .ok (.aload_n 0, 1) := by decide +kernel
theorem dX6_load_32 : decode cX6_load 32 = .ok (.getfield 7, 3) := by decide +kernel
theorem dX6_load_35 : decode cX6_load 35 = .ok (.iconst 2, 1) := by decide +kernel
theorem dX6_load_36 : decode cX6_load 36 = .ok (.iaload, 1) := by decide +kernel
theorem dX6_load_37 : decode cX6_load 37 = .ok (.if_icmp .ge 66, 3) := by decide +kernel
theorem dX6_load_40 : decode cX6_load 40 = .ok (.iconst 1, 1) := by decide +kernel
theorem dX6_load_41 : decode cX6_load 41 = .ok (.istore 5, 2) := by decide +kernel
theorem dX6_load_43 : decode cX6_load 43 = .ok (.iload 5, 2) := by decide +kernel
theorem dX6_load_45 : decode cX6_load 45 = .ok (.aload_n 0, 1) := by decide +kernel
theorem dX6_load_46 : decode cX6_load 46 = .ok (.iload_n 3, 1) := by decide +kernel
theorem dX6_load_47 : decode cX6_load 47 = .ok (.iload 4, 2) := by decide +kernel
theorem dX6_load_49 : decode cX6_load 49 = .ok (.invokevirtual 107, 3) := by decide +kernel
theorem dX6_load_52 : decode cX6_load 52 = .ok (.if_icmp .ge 45, 3) := by decide +kernel
theorem dX6_load_55 : decode cX6_load 55 = .ok (.iload_n 2, 1) := by decide +kernel
theorem dX6_load_56 : decode cX6_load 56 = .ok (.aload_n 0, 1) := by decide +kernel
theorem dX6_load_57 : decode cX6_load 57 = .ok (.aload_n 0, 1) := by decide +kernel
theorem dX6_load_58 : decode cX6_load 58 = .ok (.iload_n 3, 1) := by decide +kernel
theorem dX6_load_59 : decode cX6_load 59 = .ok (.iload 4, 2) := by decide +kernel
theorem dX6_load_61 : decode cX6_load 61 = .ok (.iload 5, 2) := by decide +kernel
theorem dX6_load_63 : decode cX6_load 63 = .ok (.iconst 1, 1) := by decide +kernel
theorem dX6_load_64 : decode cX6_load 64 = .ok (.isub, 1) := by decide +kernel
theorem dX6_load_65 : decode cX6_load 65 = .ok (.invokevirtual 113, 3) := by decide +kernel
theorem dX6_load_68 : decode cX6_load 68 = .ok (.aload_n 0, 1) := by decide +kernel
theorem dX6_load_69 : decode cX6_load 69 = .ok (.iload_n 3, 1) := by decide +kernel
theorem dX6_load_70 : decode cX6_load 70 = .ok (.iload 4, 2) := by decide +kernel
theorem dX6_load_72 : decode cX6_load 72 = .ok (.iload 5, 2) := by decide +kernel
theorem dX6_load_74 : decode cX6_load 74 = .ok (.invokevirtual 113, 3) := by decide +kernel
theorem dX6_load_77 : decode cX6_load 77 = .ok (.invokevirtual 65, 3) := by decide +kernel
theorem dX6_load_80 : decode cX6_load 80 = .ok (.iload_n 1, 1) := by decide +kernel
theorem dX6_load_81 : decode cX6_load 81 = .ok (.if_icmp .ne 7, 3) := by decide +kernel
theorem dX6_load_84 : decode cX6_load 84 = .ok (.iconst 1, 1) := by decide +kernel
theorem dX6_load_85 : decode cX6_load 85 = .ok (.goto 4, 3) := by decide +kernel
theorem dX6_load_88 : decode cX6_load 88 = .ok (.iconst 0, 1) := by decide +kernel
theorem dX6_load_89 : decode cX6_load 89 = .ok (.iadd, 1) := by decide +kernel
theorem dX6_load_90 : decode cX6_load 90 = .ok (.istore_n 2, 1) := by decide +kernel
theorem dX6_load_91 : decode cX6_load 91 = .ok (.iinc 5 1, 3) := by decide +kernel
theorem dX6_load_94 : decode cX6_load 94 = .ok (.goto (-51), 3) := by decide +kernel
theorem dX6_load_97 : decode cX6_load 97 = .ok (.iinc 4 1, 3) := by decide +kernel
theorem dX6_load_100 : decode cX6_load 100 = .ok (.goto (-71), 3) := by decide +kernel
theorem dX6_load_103 : decode cX6_load 103 = .ok (.iinc 3 1, 3) := by decide +kernel
theorem dX6_load_106 : decode cX6_load 106 = .ok (.goto (-90), 3) := by decide +kernel
theorem dX6_load_109 : decode cX6_load 109 = .ok (.iload_n 2, 1) := by decide +kernel
theorem dX6_load_110 : decode cX6_load 110 = .ok (.ireturn, 1) := by decide +kernel
set_option maxRecDepth 20000 in
theorem ggX6_firstDeath_X6_copies : GoodIn wsX6_firstDeath wsX6_copies := goodIn_r _ [5, 6, 101, 102, 103, 104, 105, 106, 107, 108, 109, 110, 111, 112, 113, 114, 115, 116] (by decide +kernel) (by decide +kernel)
set_option maxRecDepth 20000 in
theorem gX6_firstDeath_X6_copies : GoodIn wsX6_firstDeath (wsV RX6 39 RX6 yX6_copies wsX6_copies) := goodIn_app (goodIn_of _ (by decide +kernel)) ggX6_firstDeath_X6_copies
set_option maxRecDepth 20000 in
theorem ggX6_firstDeath_X6_living : GoodIn wsX6_firstDeath wsX6_living := goodIn_r _ [10, 6, 11, 12, 13, 4, 14, 101, 102, 103, 104, 105, 106, 107, 108, 109, 110, 111, 112, 113, 114, 115, 116] (by decide +kernel) (by decide +kernel)
set_option maxRecDepth 20000 in
theorem gX6_firstDeath_X6_living : GoodIn wsX6_firstDeath (wsV RX6 100 RX6 yX6_living wsX6_living) := goodIn_app (goodIn_of _ (by decide +kernel)) ggX6_firstDeath_X6_living
set_option maxRecDepth 20000 in
theorem ggX6_firstDeath_X6_goesOn : GoodIn wsX6_firstDeath wsX6_goesOn := goodIn_r _ [18, 6, 19, 20, 21, 22, 4, 23, 24, 25, 26, 27, 28, 29, 30, 31, 32, 33, 34, 35, 36, 37, 38, 39, 40, 11, 12, 13, 14, 41, 42, 43, 44, 45, 46, 47, 48, 49, 50, 51, 52, 53, 54, 55, 56, 57, 58, 59, 60, 61, 62, 63, 64, 65, 66, 67, 68, 69, 70, 71, 72, 73, 74, 75, 76, 77, 78, 79, 80, 81, 82, 83, 84, 85, 86, 87, 88, 89, 90, 91, 92, 93, 94, 95, 96, 97, 98, 99, 100, 101, 102, 103, 104, 105, 106, 107, 108, 109, 110, 111, 112, 113, 114, 115, 116] (by decide +kernel) (by decide +kernel)
set_option maxRecDepth 20000 in
theorem gX6_firstDeath_X6_goesOn : GoodIn wsX6_firstDeath (wsV RX6 155 RX6 yX6_goesOn wsX6_goesOn) := goodIn_app (goodIn_of _ (by decide +kernel)) ggX6_firstDeath_X6_goesOn
theorem dX6_firstDeath_0 : decode cX6_firstDeath 0 = .ok (.aload_n 0, 1) := by decide +kernel
theorem dX6_firstDeath_1 : decode cX6_firstDeath 1 = .ok (.iconst 0, 1) := by decide +kernel
theorem dX6_firstDeath_2 : decode cX6_firstDeath 2 = .ok (.bipush 6, 2) := by decide +kernel
theorem dX6_firstDeath_4 : decode cX6_firstDeath 4 = .ok (.invokevirtual 39, 3) := by decide +kernel
theorem dX6_firstDeath_7 : decode cX6_firstDeath 7 = .ok (.aload_n 0, 1) := by decide +kernel
theorem dX6_firstDeath_8 : decode cX6_firstDeath 8 = .ok (.invokevirtual 100, 3) := by decide +kernel
theorem dX6_firstDeath_11 : decode cX6_firstDeath 11 = .ok (.istore_n 1, 1) := by decide +kernel
theorem dX6_firstDeath_12 : decode cX6_firstDeath 12 = .ok (.iconst 0, 1) := by decide +kernel
theorem dX6_firstDeath_13 : decode cX6_firstDeath 13 = .ok (.istore_n 2, 1) := by decide +kernel
theorem dX6_firstDeath_14 : decode cX6_firstDeath 14 = .ok (.sipush (-1000), 3) := by decide +kernel
theorem dX6_firstDeath_17 : decode cX6_firstDeath 17 = .ok (.istore_n 3, 1) := by decide +kernel
theorem dX6_firstDeath_18 : decode cX6_firstDeath 18 = .ok (.iload_n 2, 1) := by decide +kernel
theorem dX6_firstDeath_19 : decode cX6_firstDeath 19 = .ok (.sipush 500, 3) := by decide +kernel
theorem dX6_firstDeath_22 : decode cX6_firstDeath 22 = .ok (.if_icmp .ge 38, 3) := by decide +kernel
theorem dX6_firstDeath_25 : decode cX6_firstDeath 25 = .ok (.iload_n 3, 1) := by decide +kernel
theorem dX6_firstDeath_26 : decode cX6_firstDeath 26 = .ok (.sipush (-1000), 3) := by decide +kernel
theorem dX6_firstDeath_29 : decode cX6_firstDeath 29 = .ok (.if_icmp .ne 31, 3) := by decide +kernel
theorem dX6_firstDeath_32 : decode cX6_firstDeath 32 = .ok (.aload_n 0, 1) := by decide +kernel
theorem dX6_firstDeath_33 : decode cX6_firstDeath 33 = .ok (.invokevirtual 155, 3) := by decide +kernel
theorem dX6_firstDeath_36 : decode cX6_firstDeath 36 = .ok (.istore 4, 2) := by decide +kernel
theorem dX6_firstDeath_38 : decode cX6_firstDeath 38 = .ok (.iinc 2 1, 3) := by decide +kernel
theorem dX6_firstDeath_41 : decode cX6_firstDeath 41 = .ok (.aload_n 0, 1) := by decide +kernel
theorem dX6_firstDeath_42 : decode cX6_firstDeath 42 = .ok (.invokevirtual 100, 3) := by decide +kernel
theorem dX6_firstDeath_45 : decode cX6_firstDeath 45 = .ok (.iload_n 1, 1) := by decide +kernel
theorem dX6_firstDeath_46 : decode cX6_firstDeath 46 = .ok (.if_icmp .ge 7, 3) := by decide +kernel
theorem dX6_firstDeath_49 : decode cX6_firstDeath 49 = .ok (.iload_n 2, 1) := by decide +kernel
theorem dX6_firstDeath_50 : decode cX6_firstDeath 50 = .ok (.goto 6, 3) := by decide +kernel
theorem dX6_firstDeath_53 : decode cX6_firstDeath 53 = .ok (.sipush (-1000), 3) := by decide +kernel
theorem dX6_firstDeath_56 : decode cX6_firstDeath 56 = .ok (.istore_n 3, 1) := by decide +kernel
theorem dX6_firstDeath_57 : decode cX6_firstDeath 57 = .ok (.goto (-39), 3) := by decide +kernel
theorem dX6_firstDeath_60 : decode cX6_firstDeath 60 = .ok (.aload_n 0, 1) := by decide +kernel
theorem dX6_firstDeath_61 : decode cX6_firstDeath 61 = .ok (.bipush 6, 2) := by decide +kernel
theorem dX6_firstDeath_63 : decode cX6_firstDeath 63 = .ok (.iconst 0, 1) := by decide +kernel
theorem dX6_firstDeath_64 : decode cX6_firstDeath 64 = .ok (.invokevirtual 39, 3) := by decide +kernel
theorem dX6_firstDeath_67 : decode cX6_firstDeath 67 = .ok (.iload_n 3, 1) := by decide +kernel
theorem dX6_firstDeath_68 : decode cX6_firstDeath 68 = .ok (.ireturn, 1) := by decide +kernel
set_option maxRecDepth 20000 in
theorem ggX6_willDeliver_X6_in : GoodIn wsX6_willDeliver wsX6_in := goodIn_r _ [4] (by decide +kernel) (by decide +kernel)
set_option maxRecDepth 20000 in
theorem gX6_willDeliver_X6_in : GoodIn wsX6_willDeliver (va_wsS RX6 43 yX6_in wsX6_in) := goodIn_app (goodIn_of _ (by decide +kernel)) ggX6_willDeliver_X6_in
set_option maxRecDepth 20000 in
theorem ggX6_willDeliver_X6_copies : GoodIn wsX6_willDeliver wsX6_copies := goodIn_r _ [8, 9, 101, 102, 103, 104, 105, 106, 107, 108, 109, 110, 111, 112, 113, 114, 115, 116] (by decide +kernel) (by decide +kernel)
set_option maxRecDepth 20000 in
theorem gX6_willDeliver_X6_copies : GoodIn wsX6_willDeliver (wsV RX6 39 RX6 yX6_copies wsX6_copies) := goodIn_app (goodIn_of _ (by decide +kernel)) ggX6_willDeliver_X6_copies
set_option maxRecDepth 20000 in
theorem ggX6_willDeliver_X6_goesFor : GoodIn wsX6_willDeliver wsX6_goesFor := goodIn_r _ [13, 14, 15, 16, 3, 17, 9, 18, 19, 20, 21, 22, 23, 24, 25, 26, 27, 28, 29, 30, 31, 32, 33, 34, 35, 36, 37, 38, 39, 40, 41, 42, 43, 44, 45, 46, 47, 48, 49, 50, 51, 1, 2, 4, 52, 53, 54, 55, 56, 57, 58, 59, 60, 61, 62, 63, 64, 65, 66, 67, 68, 69, 70, 71, 72, 73, 74, 75, 76, 77, 78, 79, 80, 81, 82, 83, 84, 85, 86, 87, 88, 89, 90, 91, 92, 93, 94, 95, 96, 97, 98, 99, 100, 101, 102, 103, 104, 105, 106, 107, 108, 109, 110, 111, 112, 113, 114, 115, 116] (by decide +kernel) (by decide +kernel)
set_option maxRecDepth 20000 in
theorem gX6_willDeliver_X6_goesFor : GoodIn wsX6_willDeliver (wsV RX6 158 RX6 yX6_goesFor wsX6_goesFor) := goodIn_app (goodIn_of _ (by decide +kernel)) ggX6_willDeliver_X6_goesFor
theorem dX6_willDeliver_0 : decode cX6_willDeliver 0 = .ok (.iload_n 1, 1) := by decide +kernel
theorem dX6_willDeliver_1 : decode cX6_willDeliver 1 = .ok (.iconst 1, 1) := by decide +kernel
theorem dX6_willDeliver_2 : decode cX6_willDeliver 2 = .ok (.sipush 500, 3) := by decide +kernel
theorem dX6_willDeliver_5 : decode cX6_willDeliver 5 = .ok (.invokestatic 43, 3) := by decide +kernel
theorem dX6_willDeliver_8 : decode cX6_willDeliver 8 = .ok (.ifCond .ne 7, 3) := by decide +kernel
theorem dX6_willDeliver_11 : decode cX6_willDeliver 11 = .ok (.sipush (-1002), 3) := by decide +kernel
theorem dX6_willDeliver_14 : decode cX6_willDeliver 14 = .ok (.ireturn, 1) := by decide +kernel
theorem dX6_willDeliver_15 : decode cX6_willDeliver 15 = .ok (.aload_n 0, 1) := by decide +kernel
theorem dX6_willDeliver_16 : decode cX6_willDeliver 16 = .ok (.iconst 0, 1) := by decide +kernel
theorem dX6_willDeliver_17 : decode cX6_willDeliver 17 = .ok (.bipush 6, 2) := by decide +kernel
theorem dX6_willDeliver_19 : decode cX6_willDeliver 19 = .ok (.invokevirtual 39, 3) := by decide +kernel
theorem dX6_willDeliver_22 : decode cX6_willDeliver 22 = .ok (.aload_n 0, 1) := by decide +kernel
theorem dX6_willDeliver_23 : decode cX6_willDeliver 23 = .ok (.iload_n 1, 1) := by decide +kernel
theorem dX6_willDeliver_24 : decode cX6_willDeliver 24 = .ok (.invokevirtual 158, 3) := by decide +kernel
theorem dX6_willDeliver_27 : decode cX6_willDeliver 27 = .ok (.istore_n 2, 1) := by decide +kernel
theorem dX6_willDeliver_28 : decode cX6_willDeliver 28 = .ok (.aload_n 0, 1) := by decide +kernel
theorem dX6_willDeliver_29 : decode cX6_willDeliver 29 = .ok (.bipush 6, 2) := by decide +kernel
theorem dX6_willDeliver_31 : decode cX6_willDeliver 31 = .ok (.iconst 0, 1) := by decide +kernel
theorem dX6_willDeliver_32 : decode cX6_willDeliver 32 = .ok (.invokevirtual 39, 3) := by decide +kernel
theorem dX6_willDeliver_35 : decode cX6_willDeliver 35 = .ok (.iload_n 2, 1) := by decide +kernel
theorem dX6_willDeliver_36 : decode cX6_willDeliver 36 = .ok (.ireturn, 1) := by decide +kernel
set_option maxRecDepth 20000 in
theorem ggX6_bestPeriod_X6_in : GoodIn wsX6_bestPeriod wsX6_in := goodIn_r _ [5] (by decide +kernel) (by decide +kernel)
set_option maxRecDepth 20000 in
theorem gX6_bestPeriod_X6_in : GoodIn wsX6_bestPeriod (va_wsS RX6 43 yX6_in wsX6_in) := goodIn_app (goodIn_of _ (by decide +kernel)) ggX6_bestPeriod_X6_in
set_option maxRecDepth 20000 in
theorem ggX6_bestPeriod_X6_copies : GoodIn wsX6_bestPeriod wsX6_copies := goodIn_r _ [9, 1, 101, 102, 103, 104, 105, 106, 107, 108, 109, 110, 111, 112, 113, 114, 115, 116] (by decide +kernel) (by decide +kernel)
set_option maxRecDepth 20000 in
theorem gX6_bestPeriod_X6_copies : GoodIn wsX6_bestPeriod (wsV RX6 39 RX6 yX6_copies wsX6_copies) := goodIn_app (goodIn_of _ (by decide +kernel)) ggX6_bestPeriod_X6_copies
set_option maxRecDepth 20000 in
theorem ggX6_bestPeriod_X6_goesFor : GoodIn wsX6_bestPeriod wsX6_goesFor := goodIn_r _ [13, 14, 15, 16, 4, 17, 1, 18, 19, 20, 21, 22, 23, 24, 25, 26, 27, 28, 29, 30, 31, 32, 33, 34, 35, 36, 37, 38, 39, 40, 41, 42, 43, 44, 45, 46, 47, 48, 49, 50, 51, 2, 3, 5, 52, 53, 54, 55, 56, 57, 58, 59, 60, 61, 62, 63, 64, 65, 66, 67, 68, 69, 70, 71, 72, 73, 74, 75, 76, 77, 78, 79, 80, 81, 82, 83, 84, 85, 86, 87, 88, 89, 90, 91, 92, 93, 94, 95, 96, 97, 98, 99, 100, 101, 102, 103, 104, 105, 106, 107, 108, 109, 110, 111, 112, 113, 114, 115, 116] (by decide +kernel) (by decide +kernel)
set_option maxRecDepth 20000 in
theorem gX6_bestPeriod_X6_goesFor : GoodIn wsX6_bestPeriod (wsV RX6 158 RX6 yX6_goesFor wsX6_goesFor) := goodIn_app (goodIn_of _ (by decide +kernel)) ggX6_bestPeriod_X6_goesFor
theorem dX6_bestPeriod_0 : decode cX6_bestPeriod 0 = .ok (.iload_n 1, 1) := by decide +kernel
theorem dX6_bestPeriod_1 : decode cX6_bestPeriod 1 = .ok (.iconst 1, 1) := by decide +kernel
theorem dX6_bestPeriod_2 : decode cX6_bestPeriod 2 = .ok (.sipush 200, 3) := by decide +kernel
theorem dX6_bestPeriod_5 : decode cX6_bestPeriod 5 = .ok (.invokestatic 43, 3) := by decide +kernel
theorem dX6_bestPeriod_8 : decode cX6_bestPeriod 8 = .ok (.ifCond .ne 7, 3) := by decide +kernel
theorem dX6_bestPeriod_11 : decode cX6_bestPeriod 11 = .ok (.sipush (-1002), 3) := by decide +kernel
theorem dX6_bestPeriod_14 : decode cX6_bestPeriod 14 = .ok (.ireturn, 1) := by decide +kernel
theorem dX6_bestPeriod_15 : decode cX6_bestPeriod 15 = .ok (.aload_n 0, 1) := by decide +kernel
theorem dX6_bestPeriod_16 : decode cX6_bestPeriod 16 = .ok (.iconst 0, 1) := by decide +kernel
theorem dX6_bestPeriod_17 : decode cX6_bestPeriod 17 = .ok (.bipush 6, 2) := by decide +kernel
theorem dX6_bestPeriod_19 : decode cX6_bestPeriod 19 = .ok (.invokevirtual 39, 3) := by decide +kernel
theorem dX6_bestPeriod_22 : decode cX6_bestPeriod 22 = .ok (.iconst 1, 1) := by decide +kernel
theorem dX6_bestPeriod_23 : decode cX6_bestPeriod 23 = .ok (.istore_n 2, 1) := by decide +kernel
theorem dX6_bestPeriod_24 : decode cX6_bestPeriod 24 = .ok (.sipush (-1000), 3) := by decide +kernel
theorem dX6_bestPeriod_27 : decode cX6_bestPeriod 27 = .ok (.istore_n 3, 1) := by decide +kernel
theorem dX6_bestPeriod_28 : decode cX6_bestPeriod 28 = .ok (.iconst 1, 1) := by decide +kernel
theorem dX6_bestPeriod_29 : decode cX6_bestPeriod 29 = .ok (.istore 4, 2) := by decide +kernel
theorem dX6_bestPeriod_31 : decode cX6_bestPeriod 31 = .ok (.iload 4, 2) := by decide +kernel
theorem dX6_bestPeriod_33 : decode cX6_bestPeriod 33 = .ok (.bipush 50, 2) := by decide +kernel
theorem dX6_bestPeriod_35 : decode cX6_bestPeriod 35 = .ok (.if_icmp .gt 57, 3) := by decide +kernel
theorem dX6_bestPeriod_38 : decode cX6_bestPeriod 38 = .ok (.aload_n 0, 1) := by decide +kernel
theorem dX6_bestPeriod_39 : decode cX6_bestPeriod 39 = .ok (.bipush 6, 2) := by decide +kernel
theorem dX6_bestPeriod_41 : decode cX6_bestPeriod 41 = .ok (.iconst 0, 1) := by decide +kernel
theorem dX6_bestPeriod_42 : decode cX6_bestPeriod 42 = .ok (.invokevirtual 39, 3) := by decide +kernel
theorem dX6_bestPeriod_45 : decode cX6_bestPeriod 45 = .ok (.aload_n 0, 1) := by decide +kernel
theorem dX6_bestPeriod_46 : decode cX6_bestPeriod 46 = .ok (.getfield 7, 3) := by decide +kernel
theorem dX6_bestPeriod_49 : decode cX6_bestPeriod 49 = .ok (.iconst 4, 1) := by decide +kernel
theorem dX6_bestPeriod_50 : decode cX6_bestPeriod 50 = .ok (.iload 4, 2) := by decide +kernel
theorem dX6_bestPeriod_52 : decode cX6_bestPeriod 52 = .ok (.iastore, 1) := by decide +kernel
theorem dX6_bestPeriod_53 : decode cX6_bestPeriod 53 = .ok (.aload_n 0, 1) := by decide +kernel
theorem dX6_bestPeriod_54 : decode cX6_bestPeriod 54 = .ok (.iload_n 1, 1) := by decide +kernel
theorem dX6_bestPeriod_55 : decode cX6_bestPeriod 55 = .ok (.invokevirtual 158, 3) := by decide +kernel
theorem dX6_bestPeriod_58 : decode cX6_bestPeriod 58 = .ok (.istore 5, 2) := by decide +kernel
theorem dX6_bestPeriod_60 : decode cX6_bestPeriod 60 = .ok (.iload 5, 2) := by decide +kernel
theorem dX6_bestPeriod_62 : decode cX6_bestPeriod 62 = .ok (.iload_n 3, 1) := by decide +kernel
theorem dX6_bestPeriod_63 : decode cX6_bestPeriod 63 = .ok (.if_icmp .le 8, 3) := by decide +kernel
theorem dX6_bestPeriod_66 : decode cX6_bestPeriod 66 = .ok (.iload 4, 2) := by decide +kernel
theorem dX6_bestPeriod_68 : decode cX6_bestPeriod 68 = .ok (.goto 4, 3) := by decide +kernel
theorem dX6_bestPeriod_71 : decode cX6_bestPeriod 71 = .ok (.iload_n 2, 1) := by decide +kernel
theorem dX6_bestPeriod_72 : decode cX6_bestPeriod 72 = .ok (.istore_n 2, 1) := by decide +kernel
theorem dX6_bestPeriod_73 : decode cX6_bestPeriod 73 = .ok (.iload 5, 2) := by decide +kernel
theorem dX6_bestPeriod_75 : decode cX6_bestPeriod 75 = .ok (.iload_n 3, 1) := by decide +kernel
theorem dX6_bestPeriod_76 : decode cX6_bestPeriod 76 = .ok (.if_icmp .le 8, 3) := by decide +kernel
theorem dX6_bestPeriod_79 : decode cX6_bestPeriod 79 = .ok (.iload 5, 2) := by decide +kernel
theorem dX6_bestPeriod_81 : decode cX6_bestPeriod 81 = .ok (.goto 4, 3) := by decide +kernel
theorem dX6_bestPeriod_84 : decode cX6_bestPeriod 84 = .ok (.iload_n 3, 1) := by decide +kernel
theorem dX6_bestPeriod_85 : decode cX6_bestPeriod 85 = .ok (.istore_n 3, 1) := by decide +kernel
theorem dX6_bestPeriod_86 : decode cX6_bestPeriod 86 = .ok (.iinc 4 1, 3) := by decide +kernel
theorem dX6_bestPeriod_89 : decode cX6_bestPeriod 89 = .ok (.goto (-58), 3) := by decide +kernel
theorem dX6_bestPeriod_92 : decode cX6_bestPeriod 92 = .ok (.aload_n 0, 1) := by decide +kernel
theorem dX6_bestPeriod_93 : decode cX6_bestPeriod 93 = .ok (.bipush 6, 2) := by decide +kernel
theorem dX6_bestPeriod_95 : decode cX6_bestPeriod 95 = .ok (.iconst 0, 1) := by decide +kernel
theorem dX6_bestPeriod_96 : decode cX6_bestPeriod 96 = .ok (.invokevirtual 39, 3) := by decide +kernel
theorem dX6_bestPeriod_99 : decode cX6_bestPeriod 99 = .ok (.iload_n 2, 1) := by decide +kernel
theorem dX6_bestPeriod_100 : decode cX6_bestPeriod 100 = .ok (.ireturn, 1) := by decide +kernel
set_option maxRecDepth 20000 in
theorem ggX6_undo_X6_copies : GoodIn wsX6_undo wsX6_copies := goodIn_r _ [6, 7, 8, 9, 10, 11, 12, 13, 14, 15, 16, 17, 18, 19, 20, 21, 22, 23] (by decide +kernel) (by decide +kernel)
set_option maxRecDepth 20000 in
theorem gX6_undo_X6_copies : GoodIn wsX6_undo (wsV RX6 39 RX6 yX6_copies wsX6_copies) := goodIn_app (goodIn_of _ (by decide +kernel)) ggX6_undo_X6_copies
theorem dX6_undo_0 : decode cX6_undo 0 = .ok (.aload_n 0, 1) := by decide +kernel
theorem dX6_undo_1 : decode cX6_undo 1 = .ok (.getfield 35, 3) := by decide +kernel
theorem dX6_undo_4 : decode cX6_undo 4 = .ok (.ifCond .ne 7, 3) := by decide +kernel
theorem dX6_undo_7 : decode cX6_undo 7 = .ok (.sipush (-1003), 3) := by decide +kernel
theorem dX6_undo_10 : decode cX6_undo 10 = .ok (.ireturn, 1) := by decide +kernel
theorem dX6_undo_11 : decode cX6_undo 11 = .ok (.aload_n 0, 1) := by decide +kernel
theorem dX6_undo_12 : decode cX6_undo 12 = .ok (.aload_n 0, 1) := by decide +kernel
theorem dX6_undo_13 : decode cX6_undo 13 = .ok (.getfield 35, 3) := by decide +kernel
theorem dX6_undo_16 : decode cX6_undo 16 = .ok (.iconst 0, 1) := by decide +kernel
theorem dX6_undo_17 : decode cX6_undo 17 = .ok (.invokevirtual 39, 3) := by decide +kernel
theorem dX6_undo_20 : decode cX6_undo 20 = .ok (.aload_n 0, 1) := by decide +kernel
theorem dX6_undo_21 : decode cX6_undo 21 = .ok (.dup, 1) := by decide +kernel
theorem dX6_undo_22 : decode cX6_undo 22 = .ok (.getfield 35, 3) := by decide +kernel
theorem dX6_undo_25 : decode cX6_undo 25 = .ok (.iconst 1, 1) := by decide +kernel
theorem dX6_undo_26 : decode cX6_undo 26 = .ok (.isub, 1) := by decide +kernel
theorem dX6_undo_27 : decode cX6_undo 27 = .ok (.putfield 35, 3) := by decide +kernel
theorem dX6_undo_30 : decode cX6_undo 30 = .ok (.aload_n 0, 1) := by decide +kernel
theorem dX6_undo_31 : decode cX6_undo 31 = .ok (.getfield 35, 3) := by decide +kernel
theorem dX6_undo_34 : decode cX6_undo 34 = .ok (.ireturn, 1) := by decide +kernel
set_option maxRecDepth 20000 in
theorem ggX6_type_X6_in : GoodIn wsX6_type wsX6_in := goodIn_r _ [6] (by decide +kernel) (by decide +kernel)
set_option maxRecDepth 20000 in
theorem gX6_type_X6_in : GoodIn wsX6_type (va_wsS RX6 43 yX6_in wsX6_in) := goodIn_app (goodIn_of _ (by decide +kernel)) ggX6_type_X6_in
theorem dX6_type_0 : decode cX6_type 0 = .ok (.iload_n 1, 1) := by decide +kernel
theorem dX6_type_1 : decode cX6_type 1 = .ok (.iconst 0, 1) := by decide +kernel
theorem dX6_type_2 : decode cX6_type 2 = .ok (.sipush 255, 3) := by decide +kernel
theorem dX6_type_5 : decode cX6_type 5 = .ok (.invokestatic 43, 3) := by decide +kernel
theorem dX6_type_8 : decode cX6_type 8 = .ok (.ifCond .ne 7, 3) := by decide +kernel
theorem dX6_type_11 : decode cX6_type 11 = .ok (.sipush (-1002), 3) := by decide +kernel
theorem dX6_type_14 : decode cX6_type 14 = .ok (.ireturn, 1) := by decide +kernel
theorem dX6_type_15 : decode cX6_type 15 = .ok (.aload_n 0, 1) := by decide +kernel
theorem dX6_type_16 : decode cX6_type 16 = .ok (.getfield 162, 3) := by decide +kernel
theorem dX6_type_19 : decode cX6_type 19 = .ok (.bipush 120, 2) := by decide +kernel
theorem dX6_type_21 : decode cX6_type 21 = .ok (.if_icmp .ne 7, 3) := by decide +kernel
theorem dX6_type_24 : decode cX6_type 24 = .ok (.sipush (-1004), 3) := by decide +kernel
theorem dX6_type_27 : decode cX6_type 27 = .ok (.ireturn, 1) := by decide +kernel
theorem dX6_type_28 : decode cX6_type 28 = .ok (.aload_n 0, 1) := by decide +kernel
theorem dX6_type_29 : decode cX6_type 29 = .ok (.getfield 32, 3) := by decide +kernel
theorem dX6_type_32 : decode cX6_type 32 = .ok (.aload_n 0, 1) := by decide +kernel
theorem dX6_type_33 : decode cX6_type 33 = .ok (.getfield 162, 3) := by decide +kernel
theorem dX6_type_36 : decode cX6_type 36 = .ok (.iload_n 1, 1) := by decide +kernel
theorem dX6_type_37 : decode cX6_type 37 = .ok (.iastore, 1) := by decide +kernel
theorem dX6_type_38 : decode cX6_type 38 = .ok (.aload_n 0, 1) := by decide +kernel
theorem dX6_type_39 : decode cX6_type 39 = .ok (.dup, 1) := by decide +kernel
theorem dX6_type_40 : decode cX6_type 40 = .ok (.getfield 162, 3) := by decide +kernel
theorem dX6_type_43 : decode cX6_type 43 = .ok (.iconst 1, 1) := by decide +kernel
theorem dX6_type_44 : decode cX6_type 44 = .ok (.iadd, 1) := by decide +kernel
theorem dX6_type_45 : decode cX6_type 45 = .ok (.putfield 162, 3) := by decide +kernel
theorem dX6_type_48 : decode cX6_type 48 = .ok (.aload_n 0, 1) := by decide +kernel
theorem dX6_type_49 : decode cX6_type 49 = .ok (.getfield 162, 3) := by decide +kernel
theorem dX6_type_52 : decode cX6_type 52 = .ok (.ireturn, 1) := by decide +kernel
theorem dX6_clearText_0 : decode cX6_clearText 0 = .ok (.aload_n 0, 1) := by decide +kernel
theorem dX6_clearText_1 : decode cX6_clearText 1 = .ok (.getfield 162, 3) := by decide +kernel
theorem dX6_clearText_4 : decode cX6_clearText 4 = .ok (.istore_n 1, 1) := by decide +kernel
theorem dX6_clearText_5 : decode cX6_clearText 5 = .ok (.aload_n 0, 1) := by decide +kernel
theorem dX6_clearText_6 : decode cX6_clearText 6 = .ok (.iconst 0, 1) := by decide +kernel
theorem dX6_clearText_7 : decode cX6_clearText 7 = .ok (.putfield 162, 3) := by decide +kernel
theorem dX6_clearText_10 : decode cX6_clearText 10 = .ok (.iload_n 1, 1) := by decide +kernel
theorem dX6_clearText_11 : decode cX6_clearText 11 = .ok (.ireturn, 1) := by decide +kernel
theorem dX6_here_0 : decode cX6_here 0 = .ok (.aload_n 0, 1) := by decide +kernel
theorem dX6_here_1 : decode cX6_here 1 = .ok (.getfield 165, 3) := by decide +kernel
theorem dX6_here_4 : decode cX6_here 4 = .ok (.aload_n 0, 1) := by decide +kernel
theorem dX6_here_5 : decode cX6_here 5 = .ok (.getfield 162, 3) := by decide +kernel
theorem dX6_here_8 : decode cX6_here 8 = .ok (.if_icmp .ge 30, 3) := by decide +kernel
theorem dX6_here_11 : decode cX6_here 11 = .ok (.aload_n 0, 1) := by decide +kernel
theorem dX6_here_12 : decode cX6_here 12 = .ok (.getfield 32, 3) := by decide +kernel
theorem dX6_here_15 : decode cX6_here 15 = .ok (.aload_n 0, 1) := by decide +kernel
theorem dX6_here_16 : decode cX6_here 16 = .ok (.getfield 165, 3) := by decide +kernel
theorem dX6_here_19 : decode cX6_here 19 = .ok (.iaload, 1) := by decide +kernel
theorem dX6_here_20 : decode cX6_here 20 = .ok (.bipush 32, 2) := by decide +kernel
theorem dX6_here_22 : decode cX6_here 22 = .ok (.if_icmp .ne 16, 3) := by decide +kernel
theorem dX6_here_25 : decode cX6_here 25 = .ok (.aload_n 0, 1) := by decide +kernel
theorem dX6_here_26 : decode cX6_here 26 = .ok (.dup, 1) := by decide +kernel
theorem dX6_here_27 : decode cX6_here 27 = .ok (.getfield 165, 3) := by decide +kernel
theorem dX6_here_30 : decode cX6_here 30 = .ok (.iconst 1, 1) := by decide +kernel
theorem dX6_here_31 : decode cX6_here 31 = .ok (.iadd, 1) := by decide +kernel
theorem dX6_here_32 : decode cX6_here 32 = .ok (.putfield 165, 3) := by decide +kernel
theorem dX6_here_35 : decode cX6_here 35 = .ok (.goto (-35), 3) := by decide +kernel
theorem dX6_here_38 : decode cX6_here 38 = .ok (.aload_n 0, 1) := by decide +kernel
theorem dX6_here_39 : decode cX6_here 39 = .ok (.getfield 165, 3) := by decide +kernel
theorem dX6_here_42 : decode cX6_here 42 = .ok (.aload_n 0, 1) := by decide +kernel
theorem dX6_here_43 : decode cX6_here 43 = .ok (.getfield 162, 3) := by decide +kernel
theorem dX6_here_46 : decode cX6_here 46 = .ok (.if_icmp .ge 15, 3) := by decide +kernel
theorem dX6_here_49 : decode cX6_here 49 = .ok (.aload_n 0, 1) := by decide +kernel
theorem dX6_here_50 : decode cX6_here 50 = .ok (.getfield 32, 3) := by decide +kernel
theorem dX6_here_53 : decode cX6_here 53 = .ok (.aload_n 0, 1) := by decide +kernel
theorem dX6_here_54 : decode cX6_here 54 = .ok (.getfield 165, 3) := by decide +kernel
theorem dX6_here_57 : decode cX6_here 57 = .ok (.iaload, 1) := by decide +kernel
theorem dX6_here_58 : decode cX6_here 58 = .ok (.goto 4, 3) := by decide +kernel
theorem dX6_here_61 : decode cX6_here 61 = .ok (.iconst (-1), 1) := by decide +kernel
theorem dX6_here_62 : decode cX6_here 62 = .ok (.ireturn, 1) := by decide +kernel
set_option maxRecDepth 20000 in
theorem ggX6_sign_X6_here : GoodIn wsX6_sign wsX6_here := goodIn_r _ [6, 1, 7, 8, 9, 10, 11, 12, 13, 14, 15, 16, 17, 18, 19, 20, 21, 22, 23, 24] (by decide +kernel) (by decide +kernel)
set_option maxRecDepth 20000 in
theorem gX6_sign_X6_here : GoodIn wsX6_sign (wsV RX6 168 RX6 yX6_here wsX6_here) := goodIn_app (goodIn_of _ (by decide +kernel)) ggX6_sign_X6_here
theorem dX6_sign_0 : decode cX6_sign 0 = .ok (.aload_n 0, 1) := by decide +kernel
theorem dX6_sign_1 : decode cX6_sign 1 = .ok (.invokevirtual 168, 3) := by decide +kernel
theorem dX6_sign_4 : decode cX6_sign 4 = .ok (.iload_n 1, 1) := by decide +kernel
theorem dX6_sign_5 : decode cX6_sign 5 = .ok (.if_icmp .ne 7, 3) := by decide +kernel
theorem dX6_sign_8 : decode cX6_sign 8 = .ok (.iconst 1, 1) := by decide +kernel
theorem dX6_sign_9 : decode cX6_sign 9 = .ok (.goto 4, 3) := by decide +kernel
theorem dX6_sign_12 : decode cX6_sign 12 = .ok (.iconst 0, 1) := by decide +kernel
theorem dX6_sign_13 : decode cX6_sign 13 = .ok (.istore_n 2, 1) := by decide +kernel
theorem dX6_sign_14 : decode cX6_sign 14 = .ok (.aload_n 0, 1) := by decide +kernel
theorem dX6_sign_15 : decode cX6_sign 15 = .ok (.dup, 1) := by decide +kernel
theorem dX6_sign_16 : decode cX6_sign 16 = .ok (.getfield 165, 3) := by decide +kernel
theorem dX6_sign_19 : decode cX6_sign 19 = .ok (.iload_n 2, 1) := by decide +kernel
theorem dX6_sign_20 : decode cX6_sign 20 = .ok (.ifCond .eq 7, 3) := by decide +kernel
theorem dX6_sign_23 : decode cX6_sign 23 = .ok (.iconst 1, 1) := by decide +kernel
theorem dX6_sign_24 : decode cX6_sign 24 = .ok (.goto 4, 3) := by decide +kernel
theorem dX6_sign_27 : decode cX6_sign 27 = .ok (.iconst 0, 1) := by decide +kernel
theorem dX6_sign_28 : decode cX6_sign 28 = .ok (.iadd, 1) := by decide +kernel
theorem dX6_sign_29 : decode cX6_sign 29 = .ok (.putfield 165, 3) := by decide +kernel
theorem dX6_sign_32 : decode cX6_sign 32 = .ok (.iload_n 2, 1) := by decide +kernel
theorem dX6_sign_33 : decode cX6_sign 33 = .ok (.ireturn, 1) := by decide +kernel
set_option maxRecDepth 20000 in
theorem ggX6_finds_X6_here : GoodIn wsX6_finds wsX6_here := goodIn_r _ [9, 1, 2, 3, 13, 14, 15, 16, 17, 18, 19, 20, 21, 22, 23, 24, 25, 26, 27, 28] (by decide +kernel) (by decide +kernel)
set_option maxRecDepth 20000 in
theorem gX6_finds_X6_here : GoodIn wsX6_finds (wsV RX6 168 RX6 yX6_here wsX6_here) := goodIn_app (goodIn_of _ (by decide +kernel)) ggX6_finds_X6_here
set_option maxRecDepth 20000 in
theorem ggX6_finds_X6_in : GoodIn wsX6_finds wsX6_in := goodIn_r _ [12] (by decide +kernel) (by decide +kernel)
set_option maxRecDepth 20000 in
theorem gX6_finds_X6_in : GoodIn wsX6_finds (va_wsS RX6 43 yX6_in wsX6_in) := goodIn_app (goodIn_of _ (by decide +kernel)) ggX6_finds_X6_in
theorem dX6_finds_0 : decode cX6_finds 0 = .ok (.aload_n 0, 1) := by decide +kernel
theorem dX6_finds_1 : decode cX6_finds 1 = .ok (.invokevirtual 168, 3) := by decide +kernel
theorem dX6_finds_4 : decode cX6_finds 4 = .ok (.istore 4, 2) := by decide +kernel
theorem dX6_finds_6 : decode cX6_finds 6 = .ok (.aload_n 0, 1) := by decide +kernel
theorem dX6_finds_7 : decode cX6_finds 7 = .ok (.getfield 165, 3) := by decide +kernel
theorem dX6_finds_10 : decode cX6_finds 10 = .ok (.istore 5, 2) := by decide +kernel
theorem dX6_finds_12 : decode cX6_finds 12 = .ok (.iconst 0, 1) := by decide +kernel
theorem dX6_finds_13 : decode cX6_finds 13 = .ok (.istore 6, 2) := by decide +kernel
theorem dX6_finds_15 : decode cX6_finds 15 = .ok (.iload 4, 2) := by decide +kernel
theorem dX6_finds_17 : decode cX6_finds 17 = .ok (.ifCond .lt 70, 3) := by decide +kernel
theorem dX6_finds_20 : decode cX6_finds 20 = .ok (.iload 5, 2) := by decide +kernel
theorem dX6_finds_22 : decode cX6_finds 22 = .ok (.aload_n 0, 1) := by decide +kernel
theorem dX6_finds_23 : decode cX6_finds 23 = .ok (.getfield 162, 3) := by decide +kernel
theorem dX6_finds_26 : decode cX6_finds 26 = .ok (.if_icmp .ge 61, 3) := by decide +kernel
theorem dX6_finds_29 : decode cX6_finds 29 = .ok (.aload_n 0, 1) := by decide +kernel
theorem dX6_finds_30 : decode cX6_finds 30 = .ok (.getfield 32, 3) := by decide +kernel
theorem dX6_finds_33 : decode cX6_finds 33 = .ok (.iload 5, 2) := by decide +kernel
theorem dX6_finds_35 : decode cX6_finds 35 = .ok (.iaload, 1) := by decide +kernel
theorem dX6_finds_36 : decode cX6_finds 36 = .ok (.bipush 48, 2) := by decide +kernel
theorem dX6_finds_38 : decode cX6_finds 38 = .ok (.bipush 57, 2) := by decide +kernel
theorem dX6_finds_40 : decode cX6_finds 40 = .ok (.invokestatic 43, 3) := by decide +kernel
theorem dX6_finds_43 : decode cX6_finds 43 = .ok (.ifCond .eq 44, 3) := by decide +kernel
theorem dX6_finds_46 : decode cX6_finds 46 = .ok (.iload 5, 2) := by decide +kernel
theorem dX6_finds_48 : decode cX6_finds 48 = .ok (.aload_n 0, 1) := by decide +kernel
theorem dX6_finds_49 : decode cX6_finds 49 = .ok (.getfield 165, 3) := by decide +kernel
theorem dX6_finds_52 : decode cX6_finds 52 = .ok (.isub, 1) := by decide +kernel
theorem dX6_finds_53 : decode cX6_finds 53 = .ok (.bipush 6, 2) := by decide +kernel
theorem dX6_finds_55 : decode cX6_finds 55 = .ok (.if_icmp .ge 22, 3) := by decide +kernel
theorem dX6_finds_58 : decode cX6_finds 58 = .ok (.bipush 10, 2) := by decide +kernel
theorem dX6_finds_60 : decode cX6_finds 60 = .ok (.iload 6, 2) := by decide +kernel
theorem dX6_finds_62 : decode cX6_finds 62 = .ok (.imul, 1) := by decide +kernel
theorem dX6_finds_63 : decode cX6_finds 63 = .ok (.aload_n 0, 1) := by decide +kernel
theorem dX6_finds_64 : decode cX6_finds 64 = .ok (.getfield 32, 3) := by decide +kernel
theorem dX6_finds_67 : decode cX6_finds 67 = .ok (.iload 5, 2) := by decide +kernel
theorem dX6_finds_69 : decode cX6_finds 69 = .ok (.iaload, 1) := by decide +kernel
theorem dX6_finds_70 : decode cX6_finds 70 = .ok (.iadd, 1) := by decide +kernel
theorem dX6_finds_71 : decode cX6_finds 71 = .ok (.bipush 48, 2) := by decide +kernel
theorem dX6_finds_73 : decode cX6_finds 73 = .ok (.isub, 1) := by decide +kernel
theorem dX6_finds_74 : decode cX6_finds 74 = .ok (.goto 5, 3) := by decide +kernel
theorem dX6_finds_77 : decode cX6_finds 77 = .ok (.iload 6, 2) := by decide +kernel
theorem dX6_finds_79 : decode cX6_finds 79 = .ok (.istore 6, 2) := by decide +kernel
theorem dX6_finds_81 : decode cX6_finds 81 = .ok (.iinc 5 1, 3) := by decide +kernel
theorem dX6_finds_84 : decode cX6_finds 84 = .ok (.goto (-69), 3) := by decide +kernel
theorem dX6_finds_87 : decode cX6_finds 87 = .ok (.aload_n 0, 1) := by decide +kernel
theorem dX6_finds_88 : decode cX6_finds 88 = .ok (.iload_n 3, 1) := by decide +kernel
theorem dX6_finds_89 : decode cX6_finds 89 = .ok (.ifCond .eq 9, 3) := by decide +kernel
theorem dX6_finds_92 : decode cX6_finds 92 = .ok (.iload 6, 2) := by decide +kernel
theorem dX6_finds_94 : decode cX6_finds 94 = .ok (.ineg, 1) := by decide +kernel
theorem dX6_finds_95 : decode cX6_finds 95 = .ok (.goto 5, 3) := by decide +kernel
theorem dX6_finds_98 : decode cX6_finds 98 = .ok (.iload 6, 2) := by decide +kernel
theorem dX6_finds_100 : decode cX6_finds 100 = .ok (.putfield 171, 3) := by decide +kernel
theorem dX6_finds_103 : decode cX6_finds 103 = .ok (.iload 5, 2) := by decide +kernel
theorem dX6_finds_105 : decode cX6_finds 105 = .ok (.aload_n 0, 1) := by decide +kernel
theorem dX6_finds_106 : decode cX6_finds 106 = .ok (.getfield 165, 3) := by decide +kernel
theorem dX6_finds_109 : decode cX6_finds 109 = .ok (.if_icmp .le 32, 3) := by decide +kernel
theorem dX6_finds_112 : decode cX6_finds 112 = .ok (.iload 5, 2) := by decide +kernel
theorem dX6_finds_114 : decode cX6_finds 114 = .ok (.aload_n 0, 1) := by decide +kernel
theorem dX6_finds_115 : decode cX6_finds 115 = .ok (.getfield 165, 3) := by decide +kernel
theorem dX6_finds_118 : decode cX6_finds 118 = .ok (.isub, 1) := by decide +kernel
theorem dX6_finds_119 : decode cX6_finds 119 = .ok (.bipush 6, 2) := by decide +kernel
theorem dX6_finds_121 : decode cX6_finds 121 = .ok (.if_icmp .ge 20, 3) := by decide +kernel
theorem dX6_finds_124 : decode cX6_finds 124 = .ok (.aload_n 0, 1) := by decide +kernel
theorem dX6_finds_125 : decode cX6_finds 125 = .ok (.getfield 171, 3) := by decide +kernel
theorem dX6_finds_128 : decode cX6_finds 128 = .ok (.iload_n 1, 1) := by decide +kernel
theorem dX6_finds_129 : decode cX6_finds 129 = .ok (.iload_n 2, 1) := by decide +kernel
theorem dX6_finds_130 : decode cX6_finds 130 = .ok (.invokestatic 43, 3) := by decide +kernel
theorem dX6_finds_133 : decode cX6_finds 133 = .ok (.ifCond .eq 8, 3) := by decide +kernel
theorem dX6_finds_136 : decode cX6_finds 136 = .ok (.iload 5, 2) := by decide +kernel
theorem dX6_finds_138 : decode cX6_finds 138 = .ok (.goto 6, 3) := by decide +kernel
theorem dX6_finds_141 : decode cX6_finds 141 = .ok (.sipush (-1000), 3) := by decide +kernel
theorem dX6_finds_144 : decode cX6_finds 144 = .ok (.ireturn, 1) := by decide +kernel
set_option maxRecDepth 20000 in
theorem ggX6_reads_X6_finds : GoodIn wsX6_reads wsX6_finds := goodIn_r _ [6, 1, 7, 8, 9, 10, 11, 12, 5, 13, 14, 15, 16, 17, 18, 19, 20, 21, 22, 23, 24, 25, 26, 27, 28, 29, 30, 31, 32] (by decide +kernel) (by decide +kernel)
set_option maxRecDepth 20000 in
theorem gX6_reads_X6_finds : GoodIn wsX6_reads (wsV RX6 174 RX6 yX6_finds wsX6_finds) := goodIn_app (goodIn_of _ (by decide +kernel)) ggX6_reads_X6_finds
theorem dX6_reads_0 : decode cX6_reads 0 = .ok (.aload_n 0, 1) := by decide +kernel
theorem dX6_reads_1 : decode cX6_reads 1 = .ok (.iload_n 1, 1) := by decide +kernel
theorem dX6_reads_2 : decode cX6_reads 2 = .ok (.iload_n 2, 1) := by decide +kernel
theorem dX6_reads_3 : decode cX6_reads 3 = .ok (.iconst 0, 1) := by decide +kernel
theorem dX6_reads_4 : decode cX6_reads 4 = .ok (.invokevirtual 174, 3) := by decide +kernel
theorem dX6_reads_7 : decode cX6_reads 7 = .ok (.istore_n 3, 1) := by decide +kernel
theorem dX6_reads_8 : decode cX6_reads 8 = .ok (.aload_n 0, 1) := by decide +kernel
theorem dX6_reads_9 : decode cX6_reads 9 = .ok (.iload_n 3, 1) := by decide +kernel
theorem dX6_reads_10 : decode cX6_reads 10 = .ok (.sipush (-1000), 3) := by decide +kernel
theorem dX6_reads_13 : decode cX6_reads 13 = .ok (.if_icmp .ne 10, 3) := by decide +kernel
theorem dX6_reads_16 : decode cX6_reads 16 = .ok (.aload_n 0, 1) := by decide +kernel
theorem dX6_reads_17 : decode cX6_reads 17 = .ok (.getfield 165, 3) := by decide +kernel
theorem dX6_reads_20 : decode cX6_reads 20 = .ok (.goto 4, 3) := by decide +kernel
theorem dX6_reads_23 : decode cX6_reads 23 = .ok (.iload_n 3, 1) := by decide +kernel
theorem dX6_reads_24 : decode cX6_reads 24 = .ok (.putfield 165, 3) := by decide +kernel
theorem dX6_reads_27 : decode cX6_reads 27 = .ok (.iload_n 3, 1) := by decide +kernel
theorem dX6_reads_28 : decode cX6_reads 28 = .ok (.sipush (-1000), 3) := by decide +kernel
theorem dX6_reads_31 : decode cX6_reads 31 = .ok (.if_icmp .eq 7, 3) := by decide +kernel
theorem dX6_reads_34 : decode cX6_reads 34 = .ok (.iconst 1, 1) := by decide +kernel
theorem dX6_reads_35 : decode cX6_reads 35 = .ok (.goto 4, 3) := by decide +kernel
theorem dX6_reads_38 : decode cX6_reads 38 = .ok (.iconst 0, 1) := by decide +kernel
theorem dX6_reads_39 : decode cX6_reads 39 = .ok (.ireturn, 1) := by decide +kernel
set_option maxRecDepth 20000 in
theorem ggX6_readsNode_X6_reads : GoodIn wsX6_readsNode wsX6_reads := goodIn_r _ [8, 2, 9, 10, 11, 7, 12, 13, 14, 3, 15, 16, 17, 18, 19, 20, 21, 26, 27, 28, 29, 30, 31, 32, 33, 34, 35, 36, 37, 38, 39, 40, 41] (by decide +kernel) (by decide +kernel)
set_option maxRecDepth 20000 in
theorem gX6_readsNode_X6_reads : GoodIn wsX6_readsNode (wsV RX6 178 RX6 yX6_reads wsX6_reads) := goodIn_app (goodIn_of _ (by decide +kernel)) ggX6_readsNode_X6_reads
set_option maxRecDepth 20000 in
theorem ggX6_readsNode_X6_laysNode : GoodIn wsX6_readsNode wsX6_laysNode := goodIn_r _ [25, 1, 26, 27, 28, 29, 30, 31, 32, 33, 34, 35, 36, 37, 38, 39, 40, 41] (by decide +kernel) (by decide +kernel)
set_option maxRecDepth 20000 in
theorem gX6_readsNode_X6_laysNode : GoodIn wsX6_readsNode (wsV RX6 57 RX6 yX6_laysNode wsX6_laysNode) := goodIn_app (goodIn_of _ (by decide +kernel)) ggX6_readsNode_X6_laysNode
theorem dX6_readsNode_0 : decode cX6_readsNode 0 = .ok (.aload_n 0, 1) := by decide +kernel
theorem dX6_readsNode_1 : decode cX6_readsNode 1 = .ok (.getfield 7, 3) := by decide +kernel
theorem dX6_readsNode_4 : decode cX6_readsNode 4 = .ok (.iconst 0, 1) := by decide +kernel
theorem dX6_readsNode_5 : decode cX6_readsNode 5 = .ok (.iaload, 1) := by decide +kernel
theorem dX6_readsNode_6 : decode cX6_readsNode 6 = .ok (.bipush 10, 2) := by decide +kernel
theorem dX6_readsNode_8 : decode cX6_readsNode 8 = .ok (.if_icmp .ne 5, 3) := by decide +kernel
theorem dX6_readsNode_11 : decode cX6_readsNode 11 = .ok (.iconst 0, 1) := by decide +kernel
theorem dX6_readsNode_12 : decode cX6_readsNode 12 = .ok (.ireturn, 1) := by decide +kernel
theorem dX6_readsNode_13 : decode cX6_readsNode 13 = .ok (.aload_n 0, 1) := by decide +kernel
theorem dX6_readsNode_14 : decode cX6_readsNode 14 = .ok (.dup, 1) := by decide +kernel
theorem dX6_readsNode_15 : decode cX6_readsNode 15 = .ok (.getfield 165, 3) := by decide +kernel
theorem dX6_readsNode_18 : decode cX6_readsNode 18 = .ok (.iconst 1, 1) := by decide +kernel
theorem dX6_readsNode_19 : decode cX6_readsNode 19 = .ok (.iadd, 1) := by decide +kernel
theorem dX6_readsNode_20 : decode cX6_readsNode 20 = .ok (.putfield 165, 3) := by decide +kernel
theorem dX6_readsNode_23 : decode cX6_readsNode 23 = .ok (.aload_n 0, 1) := by decide +kernel
theorem dX6_readsNode_24 : decode cX6_readsNode 24 = .ok (.iconst 1, 1) := by decide +kernel
theorem dX6_readsNode_25 : decode cX6_readsNode 25 = .ok (.sipush 10000, 3) := by decide +kernel
theorem dX6_readsNode_28 : decode cX6_readsNode 28 = .ok (.invokevirtual 178, 3) := by decide +kernel
theorem dX6_readsNode_31 : decode cX6_readsNode 31 = .ok (.ifCond .ne 5, 3) := by decide +kernel
theorem dX6_readsNode_34 : decode cX6_readsNode 34 = .ok (.iconst 0, 1) := by decide +kernel
theorem dX6_readsNode_35 : decode cX6_readsNode 35 = .ok (.ireturn, 1) := by decide +kernel
theorem dX6_readsNode_36 : decode cX6_readsNode 36 = .ok (.aload_n 0, 1) := by decide +kernel
theorem dX6_readsNode_37 : decode cX6_readsNode 37 = .ok (.aload_n 0, 1) := by decide +kernel
theorem dX6_readsNode_38 : decode cX6_readsNode 38 = .ok (.getfield 171, 3) := by decide +kernel
theorem dX6_readsNode_41 : decode cX6_readsNode 41 = .ok (.invokevirtual 57, 3) := by decide +kernel
theorem dX6_readsNode_44 : decode cX6_readsNode 44 = .ok (.iconst 1, 1) := by decide +kernel
theorem dX6_readsNode_45 : decode cX6_readsNode 45 = .ok (.ireturn, 1) := by decide +kernel
set_option maxRecDepth 20000 in
theorem ggX6_readsLink_X6_reads : GoodIn wsX6_readsLink wsX6_reads := goodIn_r _ [8, 3, 9, 10, 11, 7, 12, 13, 14, 2, 15, 16, 17, 18, 19, 20, 21, 38, 39, 40, 41, 42, 43, 44, 45, 46, 47, 48, 49, 50, 51, 52, 53] (by decide +kernel) (by decide +kernel)
set_option maxRecDepth 20000 in
theorem gX6_readsLink_X6_reads : GoodIn wsX6_readsLink (wsV RX6 178 RX6 yX6_reads wsX6_reads) := goodIn_app (goodIn_of _ (by decide +kernel)) ggX6_readsLink_X6_reads
set_option maxRecDepth 20000 in
theorem ggX6_readsLink_X6_sign : GoodIn wsX6_readsLink wsX6_sign := goodIn_r _ [25, 3, 15, 16, 17, 7, 18, 13, 14, 38, 39, 40, 41, 42, 43, 44, 45, 46, 47, 48, 49, 50, 51, 52, 53] (by decide +kernel) (by decide +kernel)
set_option maxRecDepth 20000 in
theorem gX6_readsLink_X6_sign : GoodIn wsX6_readsLink (wsV RX6 181 RX6 yX6_sign wsX6_sign) := goodIn_app (goodIn_of _ (by decide +kernel)) ggX6_readsLink_X6_sign
set_option maxRecDepth 20000 in
theorem ggX6_readsLink_X6_finds : GoodIn wsX6_readsLink wsX6_finds := goodIn_r _ [12, 3, 13, 14, 2, 15, 16, 17, 7, 18, 19, 20, 21, 38, 39, 40, 41, 42, 43, 44, 45, 46, 47, 48, 49, 50, 51, 52, 53] (by decide +kernel) (by decide +kernel)
set_option maxRecDepth 20000 in
theorem gX6_readsLink_X6_finds : GoodIn wsX6_readsLink (wsV RX6 174 RX6 yX6_finds wsX6_finds) := goodIn_app (goodIn_of _ (by decide +kernel)) ggX6_readsLink_X6_finds
set_option maxRecDepth 20000 in
theorem ggX6_readsLink_X6_linkOf : GoodIn wsX6_readsLink wsX6_linkOf := goodIn_r _ [29, 1, 30, 31, 32, 7, 33, 38, 39, 40, 41, 42, 43, 44, 45, 46, 47, 48, 49, 50, 51, 52, 53] (by decide +kernel) (by decide +kernel)
set_option maxRecDepth 20000 in
theorem gX6_readsLink_X6_linkOf : GoodIn wsX6_readsLink (wsV RX6 65 RX6 yX6_linkOf wsX6_linkOf) := goodIn_app (goodIn_of _ (by decide +kernel)) ggX6_readsLink_X6_linkOf
set_option maxRecDepth 20000 in
theorem ggX6_readsLink_X6_laysLink : GoodIn wsX6_readsLink wsX6_laysLink := goodIn_r _ [37, 1, 38, 39, 40, 41, 42, 43, 44, 45, 46, 47, 48, 49, 50, 51, 52, 53] (by decide +kernel) (by decide +kernel)
set_option maxRecDepth 20000 in
theorem gX6_readsLink_X6_laysLink : GoodIn wsX6_readsLink (wsV RX6 68 RX6 yX6_laysLink wsX6_laysLink) := goodIn_app (goodIn_of _ (by decide +kernel)) ggX6_readsLink_X6_laysLink
theorem dX6_readsLink_0 : decode cX6_readsLink 0 = .ok (.aload_n 0, 1) := by decide +kernel
theorem dX6_readsLink_1 : decode cX6_readsLink 1 = .ok (.getfield 7, 3) := by decide +kernel
theorem dX6_readsLink_4 : decode cX6_readsLink 4 = .ok (.iconst 1, 1) := by decide +kernel
theorem dX6_readsLink_5 : decode cX6_readsLink 5 = .ok (.iaload, 1) := by decide +kernel
theorem dX6_readsLink_6 : decode cX6_readsLink 6 = .ok (.bipush 20, 2) := by decide +kernel
theorem dX6_readsLink_8 : decode cX6_readsLink 8 = .ok (.if_icmp .eq 19, 3) := by decide +kernel
theorem dX6_readsLink_11 : decode cX6_readsLink 11 = .ok (.aload_n 0, 1) := by decide +kernel
theorem dX6_readsLink_12 : decode cX6_readsLink 12 = .ok (.iconst 0, 1) := by decide +kernel
theorem dX6_readsLink_13 : decode cX6_readsLink 13 = .ok (.aload_n 0, 1) := by decide +kernel
theorem dX6_readsLink_14 : decode cX6_readsLink 14 = .ok (.getfield 7, 3) := by decide +kernel
theorem dX6_readsLink_17 : decode cX6_readsLink 17 = .ok (.iconst 0, 1) := by decide +kernel
theorem dX6_readsLink_18 : decode cX6_readsLink 18 = .ok (.iaload, 1) := by decide +kernel
theorem dX6_readsLink_19 : decode cX6_readsLink 19 = .ok (.iconst 1, 1) := by decide +kernel
theorem dX6_readsLink_20 : decode cX6_readsLink 20 = .ok (.isub, 1) := by decide +kernel
theorem dX6_readsLink_21 : decode cX6_readsLink 21 = .ok (.invokevirtual 178, 3) := by decide +kernel
theorem dX6_readsLink_24 : decode cX6_readsLink 24 = .ok (.ifCond .ne 5, 3) := by decide +kernel
theorem dX6_readsLink_27 : decode cX6_readsLink 27 = .ok (.iconst 0, 1) := by decide +kernel
theorem dX6_readsLink_28 : decode cX6_readsLink 28 = .ok (.ireturn, 1) := by decide +kernel
theorem dX6_readsLink_29 : decode cX6_readsLink 29 = .ok (.aload_n 0, 1) := by decide +kernel
theorem dX6_readsLink_30 : decode cX6_readsLink 30 = .ok (.getfield 171, 3) := by decide +kernel
theorem dX6_readsLink_33 : decode cX6_readsLink 33 = .ok (.istore_n 1, 1) := by decide +kernel
theorem dX6_readsLink_34 : decode cX6_readsLink 34 = .ok (.aload_n 0, 1) := by decide +kernel
theorem dX6_readsLink_35 : decode cX6_readsLink 35 = .ok (.bipush 45, 2) := by decide +kernel
theorem dX6_readsLink_37 : decode cX6_readsLink 37 = .ok (.invokevirtual 181, 3) := by decide +kernel
theorem dX6_readsLink_40 : decode cX6_readsLink 40 = .ok (.ifCond .ne 5, 3) := by decide +kernel
theorem dX6_readsLink_43 : decode cX6_readsLink 43 = .ok (.iconst 0, 1) := by decide +kernel
theorem dX6_readsLink_44 : decode cX6_readsLink 44 = .ok (.ireturn, 1) := by decide +kernel
theorem dX6_readsLink_45 : decode cX6_readsLink 45 = .ok (.aload_n 0, 1) := by decide +kernel
theorem dX6_readsLink_46 : decode cX6_readsLink 46 = .ok (.iconst 0, 1) := by decide +kernel
theorem dX6_readsLink_47 : decode cX6_readsLink 47 = .ok (.aload_n 0, 1) := by decide +kernel
theorem dX6_readsLink_48 : decode cX6_readsLink 48 = .ok (.getfield 7, 3) := by decide +kernel
theorem dX6_readsLink_51 : decode cX6_readsLink 51 = .ok (.iconst 0, 1) := by decide +kernel
theorem dX6_readsLink_52 : decode cX6_readsLink 52 = .ok (.iaload, 1) := by decide +kernel
theorem dX6_readsLink_53 : decode cX6_readsLink 53 = .ok (.iconst 1, 1) := by decide +kernel
theorem dX6_readsLink_54 : decode cX6_readsLink 54 = .ok (.isub, 1) := by decide +kernel
theorem dX6_readsLink_55 : decode cX6_readsLink 55 = .ok (.iconst 0, 1) := by decide +kernel
theorem dX6_readsLink_56 : decode cX6_readsLink 56 = .ok (.invokevirtual 174, 3) := by decide +kernel
theorem dX6_readsLink_59 : decode cX6_readsLink 59 = .ok (.istore_n 2, 1) := by decide +kernel
theorem dX6_readsLink_60 : decode cX6_readsLink 60 = .ok (.iload_n 2, 1) := by decide +kernel
theorem dX6_readsLink_61 : decode cX6_readsLink 61 = .ok (.sipush (-1000), 3) := by decide +kernel
theorem dX6_readsLink_64 : decode cX6_readsLink 64 = .ok (.if_icmp .eq 26, 3) := by decide +kernel
theorem dX6_readsLink_67 : decode cX6_readsLink 67 = .ok (.aload_n 0, 1) := by decide +kernel
theorem dX6_readsLink_68 : decode cX6_readsLink 68 = .ok (.getfield 171, 3) := by decide +kernel
theorem dX6_readsLink_71 : decode cX6_readsLink 71 = .ok (.iload_n 1, 1) := by decide +kernel
theorem dX6_readsLink_72 : decode cX6_readsLink 72 = .ok (.if_icmp .eq 18, 3) := by decide +kernel
theorem dX6_readsLink_75 : decode cX6_readsLink 75 = .ok (.aload_n 0, 1) := by decide +kernel
theorem dX6_readsLink_76 : decode cX6_readsLink 76 = .ok (.iload_n 1, 1) := by decide +kernel
theorem dX6_readsLink_77 : decode cX6_readsLink 77 = .ok (.aload_n 0, 1) := by decide +kernel
theorem dX6_readsLink_78 : decode cX6_readsLink 78 = .ok (.getfield 171, 3) := by decide +kernel
theorem dX6_readsLink_81 : decode cX6_readsLink 81 = .ok (.invokevirtual 65, 3) := by decide +kernel
theorem dX6_readsLink_84 : decode cX6_readsLink 84 = .ok (.sipush (-1000), 3) := by decide +kernel
theorem dX6_readsLink_87 : decode cX6_readsLink 87 = .ok (.if_icmp .eq 5, 3) := by decide +kernel
theorem dX6_readsLink_90 : decode cX6_readsLink 90 = .ok (.iconst 0, 1) := by decide +kernel
theorem dX6_readsLink_91 : decode cX6_readsLink 91 = .ok (.ireturn, 1) := by decide +kernel
theorem dX6_readsLink_92 : decode cX6_readsLink 92 = .ok (.aload_n 0, 1) := by decide +kernel
theorem dX6_readsLink_93 : decode cX6_readsLink 93 = .ok (.getfield 171, 3) := by decide +kernel
theorem dX6_readsLink_96 : decode cX6_readsLink 96 = .ok (.istore_n 3, 1) := by decide +kernel
theorem dX6_readsLink_97 : decode cX6_readsLink 97 = .ok (.aload_n 0, 1) := by decide +kernel
theorem dX6_readsLink_98 : decode cX6_readsLink 98 = .ok (.iload_n 2, 1) := by decide +kernel
theorem dX6_readsLink_99 : decode cX6_readsLink 99 = .ok (.putfield 165, 3) := by decide +kernel
theorem dX6_readsLink_102 : decode cX6_readsLink 102 = .ok (.aload_n 0, 1) := by decide +kernel
theorem dX6_readsLink_103 : decode cX6_readsLink 103 = .ok (.bipush 58, 2) := by decide +kernel
theorem dX6_readsLink_105 : decode cX6_readsLink 105 = .ok (.invokevirtual 181, 3) := by decide +kernel
theorem dX6_readsLink_108 : decode cX6_readsLink 108 = .ok (.ifCond .eq 13, 3) := by decide +kernel
theorem dX6_readsLink_111 : decode cX6_readsLink 111 = .ok (.aload_n 0, 1) := by decide +kernel
theorem dX6_readsLink_112 : decode cX6_readsLink 112 = .ok (.iconst 1, 1) := by decide +kernel
theorem dX6_readsLink_113 : decode cX6_readsLink 113 = .ok (.bipush 20, 2) := by decide +kernel
theorem dX6_readsLink_115 : decode cX6_readsLink 115 = .ok (.invokevirtual 178, 3) := by decide +kernel
theorem dX6_readsLink_118 : decode cX6_readsLink 118 = .ok (.ifCond .ne 5, 3) := by decide +kernel
theorem dX6_readsLink_121 : decode cX6_readsLink 121 = .ok (.iconst 0, 1) := by decide +kernel
theorem dX6_readsLink_122 : decode cX6_readsLink 122 = .ok (.ireturn, 1) := by decide +kernel
theorem dX6_readsLink_123 : decode cX6_readsLink 123 = .ok (.aload_n 0, 1) := by decide +kernel
theorem dX6_readsLink_124 : decode cX6_readsLink 124 = .ok (.iload_n 1, 1) := by decide +kernel
theorem dX6_readsLink_125 : decode cX6_readsLink 125 = .ok (.iload_n 3, 1) := by decide +kernel
theorem dX6_readsLink_126 : decode cX6_readsLink 126 = .ok (.aload_n 0, 1) := by decide +kernel
theorem dX6_readsLink_127 : decode cX6_readsLink 127 = .ok (.getfield 171, 3) := by decide +kernel
theorem dX6_readsLink_130 : decode cX6_readsLink 130 = .ok (.invokevirtual 68, 3) := by decide +kernel
theorem dX6_readsLink_133 : decode cX6_readsLink 133 = .ok (.iconst 1, 1) := by decide +kernel
theorem dX6_readsLink_134 : decode cX6_readsLink 134 = .ok (.ireturn, 1) := by decide +kernel
set_option maxRecDepth 20000 in
theorem ggX6_readsSensor_X6_reads : GoodIn wsX6_readsSensor wsX6_reads := goodIn_r _ [8, 2, 9, 10, 11, 7, 12, 13, 14, 3, 15, 16, 17, 18, 19, 20, 21, 34, 35, 36, 37, 38, 39, 40, 41, 42, 43, 44, 45, 46, 47, 48, 49] (by decide +kernel) (by decide +kernel)
set_option maxRecDepth 20000 in
theorem gX6_readsSensor_X6_reads : GoodIn wsX6_readsSensor (wsV RX6 178 RX6 yX6_reads wsX6_reads) := goodIn_app (goodIn_of _ (by decide +kernel)) ggX6_readsSensor_X6_reads
set_option maxRecDepth 20000 in
theorem ggX6_readsSensor_X6_sign : GoodIn wsX6_readsSensor wsX6_sign := goodIn_r _ [25, 2, 15, 16, 17, 7, 18, 13, 14, 34, 35, 36, 37, 38, 39, 40, 41, 42, 43, 44, 45, 46, 47, 48, 49] (by decide +kernel) (by decide +kernel)
set_option maxRecDepth 20000 in
theorem gX6_readsSensor_X6_sign : GoodIn wsX6_readsSensor (wsV RX6 181 RX6 yX6_sign wsX6_sign) := goodIn_app (goodIn_of _ (by decide +kernel)) ggX6_readsSensor_X6_sign
set_option maxRecDepth 20000 in
theorem ggX6_readsSensor_X6_finds : GoodIn wsX6_readsSensor wsX6_finds := goodIn_r _ [12, 2, 13, 14, 3, 15, 16, 17, 7, 18, 19, 20, 21, 34, 35, 36, 37, 38, 39, 40, 41, 42, 43, 44, 45, 46, 47, 48, 49] (by decide +kernel) (by decide +kernel)
set_option maxRecDepth 20000 in
theorem gX6_readsSensor_X6_finds : GoodIn wsX6_readsSensor (wsV RX6 174 RX6 yX6_finds wsX6_finds) := goodIn_app (goodIn_of _ (by decide +kernel)) ggX6_readsSensor_X6_finds
set_option maxRecDepth 20000 in
theorem ggX6_readsSensor_X6_laysSensor : GoodIn wsX6_readsSensor wsX6_laysSensor := goodIn_r _ [29, 1, 30, 31, 32, 7, 33, 34, 35, 36, 37, 38, 39, 40, 41, 42, 43, 44, 45, 46, 47, 48, 49] (by decide +kernel) (by decide +kernel)
set_option maxRecDepth 20000 in
theorem gX6_readsSensor_X6_laysSensor : GoodIn wsX6_readsSensor (wsV RX6 81 RX6 yX6_laysSensor wsX6_laysSensor) := goodIn_app (goodIn_of _ (by decide +kernel)) ggX6_readsSensor_X6_laysSensor
theorem dX6_readsSensor_0 : decode cX6_readsSensor 0 = .ok (.aload_n 0, 1) := by decide +kernel
theorem dX6_readsSensor_1 : decode cX6_readsSensor 1 = .ok (.getfield 7, 3) := by decide +kernel
theorem dX6_readsSensor_4 : decode cX6_readsSensor 4 = .ok (.iconst 2, 1) := by decide +kernel
theorem dX6_readsSensor_5 : decode cX6_readsSensor 5 = .ok (.iaload, 1) := by decide +kernel
theorem dX6_readsSensor_6 : decode cX6_readsSensor 6 = .ok (.bipush 6, 2) := by decide +kernel
theorem dX6_readsSensor_8 : decode cX6_readsSensor 8 = .ok (.if_icmp .ne 5, 3) := by decide +kernel
theorem dX6_readsSensor_11 : decode cX6_readsSensor 11 = .ok (.iconst 0, 1) := by decide +kernel
theorem dX6_readsSensor_12 : decode cX6_readsSensor 12 = .ok (.ireturn, 1) := by decide +kernel
theorem dX6_readsSensor_13 : decode cX6_readsSensor 13 = .ok (.aload_n 0, 1) := by decide +kernel
theorem dX6_readsSensor_14 : decode cX6_readsSensor 14 = .ok (.dup, 1) := by decide +kernel
theorem dX6_readsSensor_15 : decode cX6_readsSensor 15 = .ok (.getfield 165, 3) := by decide +kernel
theorem dX6_readsSensor_18 : decode cX6_readsSensor 18 = .ok (.iconst 1, 1) := by decide +kernel
theorem dX6_readsSensor_19 : decode cX6_readsSensor 19 = .ok (.iadd, 1) := by decide +kernel
theorem dX6_readsSensor_20 : decode cX6_readsSensor 20 = .ok (.putfield 165, 3) := by decide +kernel
theorem dX6_readsSensor_23 : decode cX6_readsSensor 23 = .ok (.aload_n 0, 1) := by decide +kernel
theorem dX6_readsSensor_24 : decode cX6_readsSensor 24 = .ok (.iconst 0, 1) := by decide +kernel
theorem dX6_readsSensor_25 : decode cX6_readsSensor 25 = .ok (.aload_n 0, 1) := by decide +kernel
theorem dX6_readsSensor_26 : decode cX6_readsSensor 26 = .ok (.getfield 7, 3) := by decide +kernel
theorem dX6_readsSensor_29 : decode cX6_readsSensor 29 = .ok (.iconst 0, 1) := by decide +kernel
theorem dX6_readsSensor_30 : decode cX6_readsSensor 30 = .ok (.iaload, 1) := by decide +kernel
theorem dX6_readsSensor_31 : decode cX6_readsSensor 31 = .ok (.iconst 1, 1) := by decide +kernel
theorem dX6_readsSensor_32 : decode cX6_readsSensor 32 = .ok (.isub, 1) := by decide +kernel
theorem dX6_readsSensor_33 : decode cX6_readsSensor 33 = .ok (.invokevirtual 178, 3) := by decide +kernel
theorem dX6_readsSensor_36 : decode cX6_readsSensor 36 = .ok (.ifCond .ne 5, 3) := by decide +kernel
theorem dX6_readsSensor_39 : decode cX6_readsSensor 39 = .ok (.iconst 0, 1) := by decide +kernel
theorem dX6_readsSensor_40 : decode cX6_readsSensor 40 = .ok (.ireturn, 1) := by decide +kernel
theorem dX6_readsSensor_41 : decode cX6_readsSensor 41 = .ok (.aload_n 0, 1) := by decide +kernel
theorem dX6_readsSensor_42 : decode cX6_readsSensor 42 = .ok (.getfield 171, 3) := by decide +kernel
theorem dX6_readsSensor_45 : decode cX6_readsSensor 45 = .ok (.istore_n 1, 1) := by decide +kernel
theorem dX6_readsSensor_46 : decode cX6_readsSensor 46 = .ok (.aload_n 0, 1) := by decide +kernel
theorem dX6_readsSensor_47 : decode cX6_readsSensor 47 = .ok (.bipush 44, 2) := by decide +kernel
theorem dX6_readsSensor_49 : decode cX6_readsSensor 49 = .ok (.invokevirtual 181, 3) := by decide +kernel
theorem dX6_readsSensor_52 : decode cX6_readsSensor 52 = .ok (.ifCond .eq 13, 3) := by decide +kernel
theorem dX6_readsSensor_55 : decode cX6_readsSensor 55 = .ok (.aload_n 0, 1) := by decide +kernel
theorem dX6_readsSensor_56 : decode cX6_readsSensor 56 = .ok (.iconst 0, 1) := by decide +kernel
theorem dX6_readsSensor_57 : decode cX6_readsSensor 57 = .ok (.bipush 7, 2) := by decide +kernel
theorem dX6_readsSensor_59 : decode cX6_readsSensor 59 = .ok (.invokevirtual 178, 3) := by decide +kernel
theorem dX6_readsSensor_62 : decode cX6_readsSensor 62 = .ok (.ifCond .ne 5, 3) := by decide +kernel
theorem dX6_readsSensor_65 : decode cX6_readsSensor 65 = .ok (.iconst 0, 1) := by decide +kernel
theorem dX6_readsSensor_66 : decode cX6_readsSensor 66 = .ok (.ireturn, 1) := by decide +kernel
theorem dX6_readsSensor_67 : decode cX6_readsSensor 67 = .ok (.aload_n 0, 1) := by decide +kernel
theorem dX6_readsSensor_68 : decode cX6_readsSensor 68 = .ok (.getfield 171, 3) := by decide +kernel
theorem dX6_readsSensor_71 : decode cX6_readsSensor 71 = .ok (.istore_n 2, 1) := by decide +kernel
theorem dX6_readsSensor_72 : decode cX6_readsSensor 72 = .ok (.aload_n 0, 1) := by decide +kernel
theorem dX6_readsSensor_73 : decode cX6_readsSensor 73 = .ok (.bipush 61, 2) := by decide +kernel
theorem dX6_readsSensor_75 : decode cX6_readsSensor 75 = .ok (.invokevirtual 181, 3) := by decide +kernel
theorem dX6_readsSensor_78 : decode cX6_readsSensor 78 = .ok (.ifCond .ne 5, 3) := by decide +kernel
theorem dX6_readsSensor_81 : decode cX6_readsSensor 81 = .ok (.iconst 0, 1) := by decide +kernel
theorem dX6_readsSensor_82 : decode cX6_readsSensor 82 = .ok (.ireturn, 1) := by decide +kernel
theorem dX6_readsSensor_83 : decode cX6_readsSensor 83 = .ok (.aload_n 0, 1) := by decide +kernel
theorem dX6_readsSensor_84 : decode cX6_readsSensor 84 = .ok (.bipush 45, 2) := by decide +kernel
theorem dX6_readsSensor_86 : decode cX6_readsSensor 86 = .ok (.invokevirtual 181, 3) := by decide +kernel
theorem dX6_readsSensor_89 : decode cX6_readsSensor 89 = .ok (.istore_n 3, 1) := by decide +kernel
theorem dX6_readsSensor_90 : decode cX6_readsSensor 90 = .ok (.aload_n 0, 1) := by decide +kernel
theorem dX6_readsSensor_91 : decode cX6_readsSensor 91 = .ok (.bipush (-100), 2) := by decide +kernel
theorem dX6_readsSensor_93 : decode cX6_readsSensor 93 = .ok (.bipush 100, 2) := by decide +kernel
theorem dX6_readsSensor_95 : decode cX6_readsSensor 95 = .ok (.iload_n 3, 1) := by decide +kernel
theorem dX6_readsSensor_96 : decode cX6_readsSensor 96 = .ok (.invokevirtual 174, 3) := by decide +kernel
theorem dX6_readsSensor_99 : decode cX6_readsSensor 99 = .ok (.istore 4, 2) := by decide +kernel
theorem dX6_readsSensor_101 : decode cX6_readsSensor 101 = .ok (.aload_n 0, 1) := by decide +kernel
theorem dX6_readsSensor_102 : decode cX6_readsSensor 102 = .ok (.iload 4, 2) := by decide +kernel
theorem dX6_readsSensor_104 : decode cX6_readsSensor 104 = .ok (.sipush (-1000), 3) := by decide +kernel
theorem dX6_readsSensor_107 : decode cX6_readsSensor 107 = .ok (.if_icmp .ne 10, 3) := by decide +kernel
theorem dX6_readsSensor_110 : decode cX6_readsSensor 110 = .ok (.aload_n 0, 1) := by decide +kernel
theorem dX6_readsSensor_111 : decode cX6_readsSensor 111 = .ok (.getfield 165, 3) := by decide +kernel
theorem dX6_readsSensor_114 : decode cX6_readsSensor 114 = .ok (.goto 5, 3) := by decide +kernel
theorem dX6_readsSensor_117 : decode cX6_readsSensor 117 = .ok (.iload 4, 2) := by decide +kernel
theorem dX6_readsSensor_119 : decode cX6_readsSensor 119 = .ok (.putfield 165, 3) := by decide +kernel
theorem dX6_readsSensor_122 : decode cX6_readsSensor 122 = .ok (.iload 4, 2) := by decide +kernel
theorem dX6_readsSensor_124 : decode cX6_readsSensor 124 = .ok (.sipush (-1000), 3) := by decide +kernel
theorem dX6_readsSensor_127 : decode cX6_readsSensor 127 = .ok (.if_icmp .eq 13, 3) := by decide +kernel
theorem dX6_readsSensor_130 : decode cX6_readsSensor 130 = .ok (.aload_n 0, 1) := by decide +kernel
theorem dX6_readsSensor_131 : decode cX6_readsSensor 131 = .ok (.iload_n 1, 1) := by decide +kernel
theorem dX6_readsSensor_132 : decode cX6_readsSensor 132 = .ok (.iload_n 2, 1) := by decide +kernel
theorem dX6_readsSensor_133 : decode cX6_readsSensor 133 = .ok (.aload_n 0, 1) := by decide +kernel
theorem dX6_readsSensor_134 : decode cX6_readsSensor 134 = .ok (.getfield 171, 3) := by decide +kernel
theorem dX6_readsSensor_137 : decode cX6_readsSensor 137 = .ok (.invokevirtual 81, 3) := by decide +kernel
theorem dX6_readsSensor_140 : decode cX6_readsSensor 140 = .ok (.iload 4, 2) := by decide +kernel
theorem dX6_readsSensor_142 : decode cX6_readsSensor 142 = .ok (.sipush (-1000), 3) := by decide +kernel
theorem dX6_readsSensor_145 : decode cX6_readsSensor 145 = .ok (.if_icmp .eq 7, 3) := by decide +kernel
theorem dX6_readsSensor_148 : decode cX6_readsSensor 148 = .ok (.iconst 1, 1) := by decide +kernel
theorem dX6_readsSensor_149 : decode cX6_readsSensor 149 = .ok (.goto 4, 3) := by decide +kernel
theorem dX6_readsSensor_152 : decode cX6_readsSensor 152 = .ok (.iconst 0, 1) := by decide +kernel
theorem dX6_readsSensor_153 : decode cX6_readsSensor 153 = .ok (.ireturn, 1) := by decide +kernel
set_option maxRecDepth 20000 in
theorem ggX6_readsItem_X6_here : GoodIn wsX6_readsItem wsX6_here := goodIn_r _ [6, 7, 8, 9, 63, 64, 65, 66, 67, 68, 69, 70, 71, 72, 73, 74, 75, 76, 77, 78] (by decide +kernel) (by decide +kernel)
set_option maxRecDepth 20000 in
theorem gX6_readsItem_X6_here : GoodIn wsX6_readsItem (wsV RX6 168 RX6 yX6_here wsX6_here) := goodIn_app (goodIn_of _ (by decide +kernel)) ggX6_readsItem_X6_here
set_option maxRecDepth 20000 in
theorem ggX6_readsItem_X6_readsNode : GoodIn wsX6_readsItem wsX6_readsNode := goodIn_r _ [13, 14, 7, 15, 16, 17, 18, 5, 19, 20, 21, 22, 23, 8, 9, 2, 3, 4, 6, 24, 25, 26, 27, 28, 29, 30, 63, 64, 65, 66, 67, 68, 69, 70, 71, 72, 73, 74, 75, 76, 77, 78] (by decide +kernel) (by decide +kernel)
set_option maxRecDepth 20000 in
theorem gX6_readsItem_X6_readsNode : GoodIn wsX6_readsItem (wsV RX6 187 RX6 yX6_readsNode wsX6_readsNode) := goodIn_app (goodIn_of _ (by decide +kernel)) ggX6_readsItem_X6_readsNode
set_option maxRecDepth 20000 in
theorem ggX6_readsItem_X6_readsSensor : GoodIn wsX6_readsItem wsX6_readsSensor := goodIn_r _ [34, 14, 7, 15, 16, 17, 18, 5, 19, 20, 21, 22, 23, 8, 9, 2, 3, 4, 6, 24, 25, 26, 35, 36, 37, 38, 39, 40, 41, 42, 43, 44, 45, 46, 63, 64, 65, 66, 67, 68, 69, 70, 71, 72, 73, 74, 75, 76, 77, 78] (by decide +kernel) (by decide +kernel)
set_option maxRecDepth 20000 in
theorem gX6_readsItem_X6_readsSensor : GoodIn wsX6_readsItem (wsV RX6 191 RX6 yX6_readsSensor wsX6_readsSensor) := goodIn_app (goodIn_of _ (by decide +kernel)) ggX6_readsItem_X6_readsSensor
set_option maxRecDepth 20000 in
theorem ggX6_readsItem_X6_readsLink : GoodIn wsX6_readsItem wsX6_readsLink := goodIn_r _ [50, 14, 15, 7, 16, 17, 18, 5, 19, 20, 21, 22, 23, 8, 9, 2, 3, 4, 6, 24, 25, 26, 35, 36, 37, 38, 51, 52, 53, 54, 55, 56, 57, 58, 59, 60, 61, 62, 63, 64, 65, 66, 67, 68, 69, 70, 71, 72, 73, 74, 75, 76, 77, 78] (by decide +kernel) (by decide +kernel)
set_option maxRecDepth 20000 in
theorem gX6_readsItem_X6_readsLink : GoodIn wsX6_readsItem (wsV RX6 194 RX6 yX6_readsLink wsX6_readsLink) := goodIn_app (goodIn_of _ (by decide +kernel)) ggX6_readsItem_X6_readsLink
theorem dX6_readsItem_0 : decode cX6_readsItem 0 = .ok (.aload_n 0, 1) := by decide +kernel
theorem dX6_readsItem_1 : decode cX6_readsItem 1 = .ok (.invokevirtual 168, 3) := by decide +kernel
theorem dX6_readsItem_4 : decode cX6_readsItem 4 = .ok (.istore_n 1, 1) := by decide +kernel
theorem dX6_readsItem_5 : decode cX6_readsItem 5 = .ok (.aload_n 0, 1) := by decide +kernel
theorem dX6_readsItem_6 : decode cX6_readsItem 6 = .ok (.dup, 1) := by decide +kernel
theorem dX6_readsItem_7 : decode cX6_readsItem 7 = .ok (.getfield 184, 3) := by decide +kernel
theorem dX6_readsItem_10 : decode cX6_readsItem 10 = .ok (.iconst 1, 1) := by decide +kernel
theorem dX6_readsItem_11 : decode cX6_readsItem 11 = .ok (.iadd, 1) := by decide +kernel
theorem dX6_readsItem_12 : decode cX6_readsItem 12 = .ok (.putfield 184, 3) := by decide +kernel
theorem dX6_readsItem_15 : decode cX6_readsItem 15 = .ok (.iload_n 1, 1) := by decide +kernel
theorem dX6_readsItem_16 : decode cX6_readsItem 16 = .ok (.bipush 110, 2) := by decide +kernel
theorem dX6_readsItem_18 : decode cX6_readsItem 18 = .ok (.if_icmp .ne 10, 3) := by decide +kernel
theorem dX6_readsItem_21 : decode cX6_readsItem 21 = .ok (.aload_n 0, 1) := by decide +kernel
theorem dX6_readsItem_22 : decode cX6_readsItem 22 = .ok (.invokevirtual 187, 3) := by decide +kernel
theorem dX6_readsItem_25 : decode cX6_readsItem 25 = .ok (.goto 20, 3) := by decide +kernel
theorem dX6_readsItem_28 : decode cX6_readsItem 28 = .ok (.iload_n 1, 1) := by decide +kernel
theorem dX6_readsItem_29 : decode cX6_readsItem 29 = .ok (.bipush 115, 2) := by decide +kernel
theorem dX6_readsItem_31 : decode cX6_readsItem 31 = .ok (.if_icmp .ne 10, 3) := by decide +kernel
theorem dX6_readsItem_34 : decode cX6_readsItem 34 = .ok (.aload_n 0, 1) := by decide +kernel
theorem dX6_readsItem_35 : decode cX6_readsItem 35 = .ok (.invokevirtual 191, 3) := by decide +kernel
theorem dX6_readsItem_38 : decode cX6_readsItem 38 = .ok (.goto 7, 3) := by decide +kernel
theorem dX6_readsItem_41 : decode cX6_readsItem 41 = .ok (.aload_n 0, 1) := by decide +kernel
theorem dX6_readsItem_42 : decode cX6_readsItem 42 = .ok (.invokevirtual 194, 3) := by decide +kernel
theorem dX6_readsItem_45 : decode cX6_readsItem 45 = .ok (.ireturn, 1) := by decide +kernel
set_option maxRecDepth 20000 in
theorem ggX6_readsText_X6_readsItem : GoodIn wsX6_readsText wsX6_readsItem := goodIn_r _ [7, 2, 8, 9, 10, 6, 11, 1, 12, 13, 14, 15, 16, 17, 18, 19, 20, 21, 22, 23, 24, 25, 26, 27, 28, 29, 30, 31, 32, 33, 34, 35, 36, 37, 38, 39, 40, 41, 42, 43, 44, 45, 46, 47, 48, 49, 50, 51, 52, 53, 54, 55, 56, 57, 58, 59, 60, 61, 62, 63, 64, 65, 66, 67, 68, 69, 70, 71, 72, 73, 74, 75, 76, 77, 78, 79, 80, 81, 82] (by decide +kernel) (by decide +kernel)
set_option maxRecDepth 20000 in
theorem gX6_readsText_X6_readsItem : GoodIn wsX6_readsText (wsV RX6 197 RX6 yX6_readsItem wsX6_readsItem) := goodIn_app (goodIn_of _ (by decide +kernel)) ggX6_readsText_X6_readsItem
set_option maxRecDepth 20000 in
theorem ggX6_readsText_X6_here : GoodIn wsX6_readsText wsX6_here := goodIn_r _ [11, 1, 12, 13, 67, 68, 69, 70, 71, 72, 73, 74, 75, 76, 77, 78, 79, 80, 81, 82] (by decide +kernel) (by decide +kernel)
set_option maxRecDepth 20000 in
theorem gX6_readsText_X6_here : GoodIn wsX6_readsText (wsV RX6 168 RX6 yX6_here wsX6_here) := goodIn_app (goodIn_of _ (by decide +kernel)) ggX6_readsText_X6_here
set_option maxRecDepth 20000 in
theorem ggX6_readsText_X6_sign : GoodIn wsX6_readsText wsX6_sign := goodIn_r _ [42, 1, 8, 9, 10, 6, 11, 12, 13, 67, 68, 69, 70, 71, 72, 73, 74, 75, 76, 77, 78, 79, 80, 81, 82] (by decide +kernel) (by decide +kernel)
set_option maxRecDepth 20000 in
theorem gX6_readsText_X6_sign : GoodIn wsX6_readsText (wsV RX6 181 RX6 yX6_sign wsX6_sign) := goodIn_app (goodIn_of _ (by decide +kernel)) ggX6_readsText_X6_sign
theorem dX6_readsText_0 : decode cX6_readsText 0 = .ok (.aload_n 0, 1) := by decide +kernel
theorem dX6_readsText_1 : decode cX6_readsText 1 = .ok (.iconst 0, 1) := by decide +kernel
theorem dX6_readsText_2 : decode cX6_readsText 2 = .ok (.putfield 165, 3) := by decide +kernel
theorem dX6_readsText_5 : decode cX6_readsText 5 = .ok (.aload_n 0, 1) := by decide +kernel
theorem dX6_readsText_6 : decode cX6_readsText 6 = .ok (.iconst 0, 1) := by decide +kernel
theorem dX6_readsText_7 : decode cX6_readsText 7 = .ok (.putfield 184, 3) := by decide +kernel
theorem dX6_readsText_10 : decode cX6_readsText 10 = .ok (.aload_n 0, 1) := by decide +kernel
theorem dX6_readsText_11 : decode cX6_readsText 11 = .ok (.invokevirtual 197, 3) := by decide +kernel
theorem dX6_readsText_14 : decode cX6_readsText 14 = .ok (.istore_n 1, 1) := by decide +kernel
theorem dX6_readsText_15 : decode cX6_readsText 15 = .ok (.aload_n 0, 1) := by decide +kernel
theorem dX6_readsText_16 : decode cX6_readsText 16 = .ok (.invokevirtual 168, 3) := by decide +kernel
theorem dX6_readsText_19 : decode cX6_readsText 19 = .ok (.istore_n 2, 1) := by decide +kernel
theorem dX6_readsText_20 : decode cX6_readsText 20 = .ok (.iload_n 1, 1) := by decide +kernel
theorem dX6_readsText_21 : decode cX6_readsText 21 = .ok (.ifCond .eq 38, 3) := by decide +kernel
theorem dX6_readsText_24 : decode cX6_readsText 24 = .ok (.iload_n 2, 1) := by decide +kernel
theorem dX6_readsText_25 : decode cX6_readsText 25 = .ok (.iconst (-1), 1) := by decide +kernel
theorem dX6_readsText_26 : decode cX6_readsText 26 = .ok (.if_icmp .eq 33, 3) := by decide +kernel
theorem dX6_readsText_29 : decode cX6_readsText 29 = .ok (.aload_n 0, 1) := by decide +kernel
theorem dX6_readsText_30 : decode cX6_readsText 30 = .ok (.bipush 59, 2) := by decide +kernel
theorem dX6_readsText_32 : decode cX6_readsText 32 = .ok (.invokevirtual 181, 3) := by decide +kernel
theorem dX6_readsText_35 : decode cX6_readsText 35 = .ok (.ifCond .eq 14, 3) := by decide +kernel
theorem dX6_readsText_38 : decode cX6_readsText 38 = .ok (.aload_n 0, 1) := by decide +kernel
theorem dX6_readsText_39 : decode cX6_readsText 39 = .ok (.invokevirtual 197, 3) := by decide +kernel
theorem dX6_readsText_42 : decode cX6_readsText 42 = .ok (.ifCond .eq 7, 3) := by decide +kernel
theorem dX6_readsText_45 : decode cX6_readsText 45 = .ok (.iconst 1, 1) := by decide +kernel
theorem dX6_readsText_46 : decode cX6_readsText 46 = .ok (.goto 4, 3) := by decide +kernel
theorem dX6_readsText_49 : decode cX6_readsText 49 = .ok (.iconst 0, 1) := by decide +kernel
theorem dX6_readsText_50 : decode cX6_readsText 50 = .ok (.istore_n 1, 1) := by decide +kernel
theorem dX6_readsText_51 : decode cX6_readsText 51 = .ok (.aload_n 0, 1) := by decide +kernel
theorem dX6_readsText_52 : decode cX6_readsText 52 = .ok (.invokevirtual 168, 3) := by decide +kernel
theorem dX6_readsText_55 : decode cX6_readsText 55 = .ok (.istore_n 2, 1) := by decide +kernel
theorem dX6_readsText_56 : decode cX6_readsText 56 = .ok (.goto (-36), 3) := by decide +kernel
theorem dX6_readsText_59 : decode cX6_readsText 59 = .ok (.iload_n 1, 1) := by decide +kernel
theorem dX6_readsText_60 : decode cX6_readsText 60 = .ok (.ireturn, 1) := by decide +kernel
set_option maxRecDepth 20000 in
theorem ggX6_textFault_X6_copies : GoodIn wsX6_textFault wsX6_copies := goodIn_r _ [6, 7, 75, 76, 77, 78, 79, 80, 81, 82, 83, 84, 85, 86, 87, 88, 89, 90] (by decide +kernel) (by decide +kernel)
set_option maxRecDepth 20000 in
theorem gX6_textFault_X6_copies : GoodIn wsX6_textFault (wsV RX6 39 RX6 yX6_copies wsX6_copies) := goodIn_app (goodIn_of _ (by decide +kernel)) ggX6_textFault_X6_copies
set_option maxRecDepth 20000 in
theorem ggX6_textFault_X6_readsText : GoodIn wsX6_textFault wsX6_readsText := goodIn_r _ [11, 1, 12, 13, 14, 15, 5, 16, 17, 18, 19, 20, 21, 22, 23, 24, 25, 26, 7, 27, 28, 29, 30, 31, 32, 33, 34, 35, 36, 37, 38, 39, 40, 41, 42, 43, 44, 45, 46, 47, 48, 49, 50, 51, 52, 53, 54, 55, 56, 57, 58, 59, 60, 61, 62, 63, 64, 65, 66, 67, 68, 69, 70, 71, 72, 73, 74, 75, 76, 77, 78, 79, 80, 81, 82, 83, 84, 85, 86, 87, 88, 89, 90] (by decide +kernel) (by decide +kernel)
set_option maxRecDepth 20000 in
theorem gX6_textFault_X6_readsText : GoodIn wsX6_textFault (wsV RX6 200 RX6 yX6_readsText wsX6_readsText) := goodIn_app (goodIn_of _ (by decide +kernel)) ggX6_textFault_X6_readsText
theorem dX6_textFault_0 : decode cX6_textFault 0 = .ok (.aload_n 0, 1) := by decide +kernel
theorem dX6_textFault_1 : decode cX6_textFault 1 = .ok (.iconst 0, 1) := by decide +kernel
theorem dX6_textFault_2 : decode cX6_textFault 2 = .ok (.bipush 6, 2) := by decide +kernel
theorem dX6_textFault_4 : decode cX6_textFault 4 = .ok (.invokevirtual 39, 3) := by decide +kernel
theorem dX6_textFault_7 : decode cX6_textFault 7 = .ok (.aload_n 0, 1) := by decide +kernel
theorem dX6_textFault_8 : decode cX6_textFault 8 = .ok (.invokevirtual 200, 3) := by decide +kernel
theorem dX6_textFault_11 : decode cX6_textFault 11 = .ok (.istore_n 1, 1) := by decide +kernel
theorem dX6_textFault_12 : decode cX6_textFault 12 = .ok (.aload_n 0, 1) := by decide +kernel
theorem dX6_textFault_13 : decode cX6_textFault 13 = .ok (.bipush 6, 2) := by decide +kernel
theorem dX6_textFault_15 : decode cX6_textFault 15 = .ok (.iconst 0, 1) := by decide +kernel
theorem dX6_textFault_16 : decode cX6_textFault 16 = .ok (.invokevirtual 39, 3) := by decide +kernel
theorem dX6_textFault_19 : decode cX6_textFault 19 = .ok (.iload_n 1, 1) := by decide +kernel
theorem dX6_textFault_20 : decode cX6_textFault 20 = .ok (.ifCond .eq 9, 3) := by decide +kernel
theorem dX6_textFault_23 : decode cX6_textFault 23 = .ok (.sipush (-1000), 3) := by decide +kernel
theorem dX6_textFault_26 : decode cX6_textFault 26 = .ok (.goto 7, 3) := by decide +kernel
theorem dX6_textFault_29 : decode cX6_textFault 29 = .ok (.aload_n 0, 1) := by decide +kernel
theorem dX6_textFault_30 : decode cX6_textFault 30 = .ok (.getfield 165, 3) := by decide +kernel
theorem dX6_textFault_33 : decode cX6_textFault 33 = .ok (.ireturn, 1) := by decide +kernel
set_option maxRecDepth 20000 in
theorem ggX6_build_X6_textFault : GoodIn wsX6_build wsX6_textFault := goodIn_r _ [6, 7, 8, 9, 10, 5, 11, 12, 13, 14, 15, 16, 1, 17, 18, 19, 20, 21, 22, 23, 24, 25, 26, 27, 28, 29, 30, 31, 32, 33, 34, 35, 36, 37, 38, 39, 40, 41, 42, 43, 44, 45, 46, 47, 48, 49, 50, 51, 52, 53, 54, 55, 56, 57, 58, 59, 60, 61, 62, 63, 64, 65, 66, 67, 68, 69, 70, 71, 72, 73, 74, 75, 76, 77, 78, 84, 85, 86, 87, 88, 89, 90, 91, 92, 93, 94, 95, 96, 97, 98, 99] (by decide +kernel) (by decide +kernel)
set_option maxRecDepth 20000 in
theorem gX6_build_X6_textFault : GoodIn wsX6_build (wsV RX6 203 RX6 yX6_textFault wsX6_textFault) := goodIn_app (goodIn_of _ (by decide +kernel)) ggX6_build_X6_textFault
set_option maxRecDepth 20000 in
theorem ggX6_build_X6_saves : GoodIn wsX6_build wsX6_saves := goodIn_r _ [82, 83, 8, 9, 10, 5, 11, 12, 84, 85, 86, 87, 88, 89, 90, 91, 92, 93, 94, 95, 96, 97, 98, 99] (by decide +kernel) (by decide +kernel)
set_option maxRecDepth 20000 in
theorem gX6_build_X6_saves : GoodIn wsX6_build (wsV RX6 54 RX6 yX6_saves wsX6_saves) := goodIn_app (goodIn_of _ (by decide +kernel)) ggX6_build_X6_saves
set_option maxRecDepth 20000 in
theorem ggX6_build_X6_readsText : GoodIn wsX6_build wsX6_readsText := goodIn_r _ [16, 7, 1, 17, 18, 19, 5, 20, 21, 22, 23, 24, 25, 26, 27, 28, 29, 30, 12, 31, 32, 33, 34, 35, 36, 37, 38, 39, 40, 41, 42, 43, 44, 45, 46, 47, 48, 49, 50, 51, 52, 53, 54, 55, 56, 57, 58, 59, 60, 61, 62, 63, 64, 65, 66, 67, 68, 69, 70, 71, 72, 73, 74, 75, 76, 77, 78, 84, 85, 86, 87, 88, 89, 90, 91, 92, 93, 94, 95, 96, 97, 98, 99] (by decide +kernel) (by decide +kernel)
set_option maxRecDepth 20000 in
theorem gX6_build_X6_readsText : GoodIn wsX6_build (wsV RX6 200 RX6 yX6_readsText wsX6_readsText) := goodIn_app (goodIn_of _ (by decide +kernel)) ggX6_build_X6_readsText
theorem dX6_build_0 : decode cX6_build 0 = .ok (.aload_n 0, 1) := by decide +kernel
theorem dX6_build_1 : decode cX6_build 1 = .ok (.invokevirtual 203, 3) := by decide +kernel
theorem dX6_build_4 : decode cX6_build 4 = .ok (.sipush (-1000), 3) := by decide +kernel
theorem dX6_build_7 : decode cX6_build 7 = .ok (.if_icmp .eq 7, 3) := by decide +kernel
theorem dX6_build_10 : decode cX6_build 10 = .ok (.sipush (-1003), 3) := by decide +kernel
theorem dX6_build_13 : decode cX6_build 13 = .ok (.ireturn, 1) := by decide +kernel
theorem dX6_build_14 : decode cX6_build 14 = .ok (.aload_n 0, 1) := by decide +kernel
theorem dX6_build_15 : decode cX6_build 15 = .ok (.invokevirtual 54, 3) := by decide +kernel
theorem dX6_build_18 : decode cX6_build 18 = .ok (.aload_n 0, 1) := by decide +kernel
theorem dX6_build_19 : decode cX6_build 19 = .ok (.invokevirtual 200, 3) := by decide +kernel
theorem dX6_build_22 : decode cX6_build 22 = .ok (.istore_n 1, 1) := by decide +kernel
theorem dX6_build_23 : decode cX6_build 23 = .ok (.aload_n 0, 1) := by decide +kernel
theorem dX6_build_24 : decode cX6_build 24 = .ok (.getfield 184, 3) := by decide +kernel
theorem dX6_build_27 : decode cX6_build 27 = .ok (.ireturn, 1) := by decide +kernel
theorem dX6_note_0 : decode cX6_note 0 = .ok (.aload_n 0, 1) := by decide +kernel
theorem dX6_note_1 : decode cX6_note 1 = .ok (.ldc2_w 206, 3) := by decide +kernel
theorem dX6_note_4 : decode cX6_note 4 = .ok (.aload_n 0, 1) := by decide +kernel
theorem dX6_note_5 : decode cX6_note 5 = .ok (.getfield 208, 3) := by decide +kernel
theorem dX6_note_8 : decode cX6_note 8 = .ok (.lmul, 1) := by decide +kernel
theorem dX6_note_9 : decode cX6_note 9 = .ok (.iload_n 1, 1) := by decide +kernel
theorem dX6_note_10 : decode cX6_note 10 = .ok (.i2l, 1) := by decide +kernel
theorem dX6_note_11 : decode cX6_note 11 = .ok (.ladd, 1) := by decide +kernel
theorem dX6_note_12 : decode cX6_note 12 = .ok (.putfield 208, 3) := by decide +kernel
theorem dX6_note_15 : decode cX6_note 15 = .ok (.return_, 1) := by decide +kernel
set_option maxRecDepth 20000 in
theorem ggX6_digest_X6_living : GoodIn wsX6_digest wsX6_living := goodIn_r _ [8, 3, 9, 10, 11, 7, 12, 38, 39, 40, 41, 42, 43, 44, 45, 46, 47, 48, 49, 50, 51, 52, 53] (by decide +kernel) (by decide +kernel)
set_option maxRecDepth 20000 in
theorem gX6_digest_X6_living : GoodIn wsX6_digest (wsV RX6 100 RX6 yX6_living wsX6_living) := goodIn_app (goodIn_of _ (by decide +kernel)) ggX6_digest_X6_living
set_option maxRecDepth 20000 in
theorem ggX6_digest_X6_note : GoodIn wsX6_digest wsX6_note := goodIn_r _ [16, 17, 2, 38, 39, 40, 41, 42, 43, 44, 45, 46, 47, 48, 49, 50, 51, 52, 53] (by decide +kernel) (by decide +kernel)
set_option maxRecDepth 20000 in
theorem gX6_digest_X6_note : GoodIn wsX6_digest (wsV RX6 214 RX6 yX6_note wsX6_note) := goodIn_app (goodIn_of _ (by decide +kernel)) ggX6_digest_X6_note
set_option maxRecDepth 20000 in
theorem ggX6_digest_X6_part : GoodIn wsX6_digest wsX6_part := goodIn_r _ [21, 3, 22, 23, 24, 7, 25, 26, 27, 28, 29, 30, 31, 32, 33, 38, 39, 40, 41, 42, 43, 44, 45, 46, 47, 48, 49, 50, 51, 52, 53] (by decide +kernel) (by decide +kernel)
set_option maxRecDepth 20000 in
theorem gX6_digest_X6_part : GoodIn wsX6_digest (wsV RX6 110 RX6 yX6_part wsX6_part) := goodIn_app (goodIn_of _ (by decide +kernel)) ggX6_digest_X6_part
set_option maxRecDepth 20000 in
theorem ggX6_digest_X6_lengthOf : GoodIn wsX6_digest wsX6_lengthOf := goodIn_r _ [29, 3, 30, 31, 32, 7, 33, 38, 39, 40, 41, 42, 43, 44, 45, 46, 47, 48, 49, 50, 51, 52, 53] (by decide +kernel) (by decide +kernel)
set_option maxRecDepth 20000 in
theorem gX6_digest_X6_lengthOf : GoodIn wsX6_digest (wsV RX6 107 RX6 yX6_lengthOf wsX6_lengthOf) := goodIn_app (goodIn_of _ (by decide +kernel)) ggX6_digest_X6_lengthOf
set_option maxRecDepth 20000 in
theorem ggX6_digest_X6_nodeOf : GoodIn wsX6_digest wsX6_nodeOf := goodIn_r _ [37, 3, 30, 31, 32, 7, 33, 38, 39, 40, 41, 42, 43, 44, 45, 46, 47, 48, 49, 50, 51, 52, 53] (by decide +kernel) (by decide +kernel)
set_option maxRecDepth 20000 in
theorem gX6_digest_X6_nodeOf : GoodIn wsX6_digest (wsV RX6 113 RX6 yX6_nodeOf wsX6_nodeOf) := goodIn_app (goodIn_of _ (by decide +kernel)) ggX6_digest_X6_nodeOf
theorem dX6_digest_0 : decode cX6_digest 0 = .ok (.aload_n 0, 1) := by decide +kernel
theorem dX6_digest_1 : decode cX6_digest 1 = .ok (.ldc2_w 212, 3) := by decide +kernel
theorem dX6_digest_4 : decode cX6_digest 4 = .ok (.putfield 208, 3) := by decide +kernel
theorem dX6_digest_7 : decode cX6_digest 7 = .ok (.iconst 0, 1) := by decide +kernel
theorem dX6_digest_8 : decode cX6_digest 8 = .ok (.istore_n 1, 1) := by decide +kernel
theorem dX6_digest_9 : decode cX6_digest 9 = .ok (.iload_n 1, 1) := by decide +kernel
theorem dX6_digest_10 : decode cX6_digest 10 = .ok (.bipush 12, 2) := by decide +kernel
theorem dX6_digest_12 : decode cX6_digest 12 = .ok (.if_icmp .ge 32, 3) := by decide +kernel
theorem dX6_digest_15 : decode cX6_digest 15 = .ok (.aload_n 0, 1) := by decide +kernel
theorem dX6_digest_16 : decode cX6_digest 16 = .ok (.iload_n 1, 1) := by decide +kernel
theorem dX6_digest_17 : decode cX6_digest 17 = .ok (.bipush 6, 2) := by decide +kernel
theorem dX6_digest_19 : decode cX6_digest 19 = .ok (.if_icmp .ne 10, 3) := by decide +kernel
theorem dX6_digest_22 : decode cX6_digest 22 = .ok (.aload_n 0, 1) := by decide +kernel
theorem dX6_digest_23 : decode cX6_digest 23 = .ok (.invokevirtual 100, 3) := by decide +kernel
theorem dX6_digest_26 : decode cX6_digest 26 = .ok (.goto 9, 3) := by decide +kernel
theorem dX6_digest_29 : decode cX6_digest 29 = .ok (.aload_n 0, 1) := by decide +kernel
theorem dX6_digest_30 : decode cX6_digest 30 = .ok (.getfield 7, 3) := by decide +kernel
theorem dX6_digest_33 : decode cX6_digest 33 = .ok (.iload_n 1, 1) := by decide +kernel
theorem dX6_digest_34 : decode cX6_digest 34 = .ok (.iaload, 1) := by decide +kernel
theorem dX6_digest_35 : decode cX6_digest 35 = .ok (.invokevirtual 214, 3) := by decide +kernel
theorem dX6_digest_38 : decode cX6_digest 38 = .ok (.iinc 1 1, 3) := by decide +kernel
theorem dX6_digest_41 : decode cX6_digest 41 = .ok (.goto (-32), 3) := by decide +kernel
theorem dX6_digest_44 : decode cX6_digest 44 = .ok (.iconst 0, 1) := by decide +kernel
theorem dX6_digest_45 : decode cX6_digest 45 = .ok (.istore_n 1, 1) := by decide +kernel
theorem dX6_digest_46 : decode cX6_digest 46 = .ok (.iload_n 1, 1) := by decide +kernel
theorem dX6_digest_47 : decode cX6_digest 47 = .ok (.aload_n 0, 1) := by decide +kernel
theorem dX6_digest_48 : decode cX6_digest 48 = .ok (.getfield 7, 3) := by decide +kernel
theorem dX6_digest_51 : decode cX6_digest 51 = .ok (.iconst 0, 1) := by decide +kernel
theorem dX6_digest_52 : decode cX6_digest 52 = .ok (.iaload, 1) := by decide +kernel
theorem dX6_digest_53 : decode cX6_digest 53 = .ok (.if_icmp .ge 22, 3) := by decide +kernel
theorem dX6_digest_56 : decode cX6_digest 56 = .ok (.aload_n 0, 1) := by decide +kernel
theorem dX6_digest_57 : decode cX6_digest 57 = .ok (.aload_n 0, 1) := by decide +kernel
theorem dX6_digest_58 : decode cX6_digest 58 = .ok (.getfield 7, 3) := by decide +kernel
theorem dX6_digest_61 : decode cX6_digest 61 = .ok (.bipush 12, 2) := by decide +kernel
theorem dX6_digest_63 : decode cX6_digest 63 = .ok (.iload_n 1, 1) := by decide +kernel
theorem dX6_digest_64 : decode cX6_digest 64 = .ok (.iadd, 1) := by decide +kernel
theorem dX6_digest_65 : decode cX6_digest 65 = .ok (.iaload, 1) := by decide +kernel
theorem dX6_digest_66 : decode cX6_digest 66 = .ok (.invokevirtual 214, 3) := by decide +kernel
theorem dX6_digest_69 : decode cX6_digest 69 = .ok (.iinc 1 1, 3) := by decide +kernel
theorem dX6_digest_72 : decode cX6_digest 72 = .ok (.goto (-26), 3) := by decide +kernel
theorem dX6_digest_75 : decode cX6_digest 75 = .ok (.iconst 0, 1) := by decide +kernel
theorem dX6_digest_76 : decode cX6_digest 76 = .ok (.istore_n 1, 1) := by decide +kernel
theorem dX6_digest_77 : decode cX6_digest 77 = .ok (.iload_n 1, 1) := by decide +kernel
theorem dX6_digest_78 : decode cX6_digest 78 = .ok (.iconst 3, 1) := by decide +kernel
theorem dX6_digest_79 : decode cX6_digest 79 = .ok (.aload_n 0, 1) := by decide +kernel
theorem dX6_digest_80 : decode cX6_digest 80 = .ok (.getfield 7, 3) := by decide +kernel
theorem dX6_digest_83 : decode cX6_digest 83 = .ok (.iconst 1, 1) := by decide +kernel
theorem dX6_digest_84 : decode cX6_digest 84 = .ok (.iaload, 1) := by decide +kernel
theorem dX6_digest_85 : decode cX6_digest 85 = .ok (.imul, 1) := by decide +kernel
theorem dX6_digest_86 : decode cX6_digest 86 = .ok (.if_icmp .ge 22, 3) := by decide +kernel
theorem dX6_digest_89 : decode cX6_digest 89 = .ok (.aload_n 0, 1) := by decide +kernel
theorem dX6_digest_90 : decode cX6_digest 90 = .ok (.aload_n 0, 1) := by decide +kernel
theorem dX6_digest_91 : decode cX6_digest 91 = .ok (.getfield 7, 3) := by decide +kernel
theorem dX6_digest_94 : decode cX6_digest 94 = .ok (.bipush 22, 2) := by decide +kernel
theorem dX6_digest_96 : decode cX6_digest 96 = .ok (.iload_n 1, 1) := by decide +kernel
theorem dX6_digest_97 : decode cX6_digest 97 = .ok (.iadd, 1) := by decide +kernel
theorem dX6_digest_98 : decode cX6_digest 98 = .ok (.iaload, 1) := by decide +kernel
theorem dX6_digest_99 : decode cX6_digest 99 = .ok (.invokevirtual 214, 3) := by decide +kernel
theorem dX6_digest_102 : decode cX6_digest 102 = .ok (.iinc 1 1, 3) := by decide +kernel
theorem dX6_digest_105 : decode cX6_digest 105 = .ok (.goto (-28), 3) := by decide +kernel
theorem dX6_digest_108 : decode cX6_digest 108 = .ok (.iconst 0, 1) := by decide +kernel
theorem dX6_digest_109 : decode cX6_digest 109 = .ok (.istore_n 1, 1) := by decide +kernel
theorem dX6_digest_110 : decode cX6_digest 110 = .ok (.iload_n 1, 1) := by decide +kernel
theorem dX6_digest_111 : decode cX6_digest 111 = .ok (.iconst 3, 1) := by decide +kernel
theorem dX6_digest_112 : decode cX6_digest 112 = .ok (.aload_n 0, 1) := by decide +kernel
theorem dX6_digest_113 : decode cX6_digest 113 = .ok (.getfield 7, 3) := by decide +kernel
theorem dX6_digest_116 : decode cX6_digest 116 = .ok (.iconst 2, 1) := by decide +kernel
theorem dX6_digest_117 : decode cX6_digest 117 = .ok (.iaload, 1) := by decide +kernel
theorem dX6_digest_118 : decode cX6_digest 118 = .ok (.imul, 1) := by decide +kernel
theorem dX6_digest_119 : decode cX6_digest 119 = .ok (.if_icmp .ge 22, 3) := by decide +kernel
theorem dX6_digest_122 : decode cX6_digest 122 = .ok (.aload_n 0, 1) := by decide +kernel
theorem dX6_digest_123 : decode cX6_digest 123 = .ok (.aload_n 0, 1) := by decide +kernel
theorem dX6_digest_124 : decode cX6_digest 124 = .ok (.getfield 7, 3) := by decide +kernel
theorem dX6_digest_127 : decode cX6_digest 127 = .ok (.bipush 82, 2) := by decide +kernel
theorem dX6_digest_129 : decode cX6_digest 129 = .ok (.iload_n 1, 1) := by decide +kernel
theorem dX6_digest_130 : decode cX6_digest 130 = .ok (.iadd, 1) := by decide +kernel
theorem dX6_digest_131 : decode cX6_digest 131 = .ok (.iaload, 1) := by decide +kernel
theorem dX6_digest_132 : decode cX6_digest 132 = .ok (.invokevirtual 214, 3) := by decide +kernel
theorem dX6_digest_135 : decode cX6_digest 135 = .ok (.iinc 1 1, 3) := by decide +kernel
theorem dX6_digest_138 : decode cX6_digest 138 = .ok (.goto (-28), 3) := by decide +kernel
theorem dX6_digest_141 : decode cX6_digest 141 = .ok (.iconst 0, 1) := by decide +kernel
theorem dX6_digest_142 : decode cX6_digest 142 = .ok (.istore_n 1, 1) := by decide +kernel
theorem dX6_digest_143 : decode cX6_digest 143 = .ok (.iload_n 1, 1) := by decide +kernel
theorem dX6_digest_144 : decode cX6_digest 144 = .ok (.aload_n 0, 1) := by decide +kernel
theorem dX6_digest_145 : decode cX6_digest 145 = .ok (.getfield 7, 3) := by decide +kernel
theorem dX6_digest_148 : decode cX6_digest 148 = .ok (.iconst 3, 1) := by decide +kernel
theorem dX6_digest_149 : decode cX6_digest 149 = .ok (.iaload, 1) := by decide +kernel
theorem dX6_digest_150 : decode cX6_digest 150 = .ok (.if_icmp .ge 90, 3) := by decide +kernel
theorem dX6_digest_153 : decode cX6_digest 153 = .ok (.iconst 0, 1) := by decide +kernel
theorem dX6_digest_154 : decode cX6_digest 154 = .ok (.istore_n 2, 1) := by decide +kernel
theorem dX6_digest_155 : decode cX6_digest 155 = .ok (.iload_n 2, 1) := by decide +kernel
theorem dX6_digest_156 : decode cX6_digest 156 = .ok (.bipush 8, 2) := by decide +kernel
theorem dX6_digest_158 : decode cX6_digest 158 = .ok (.if_icmp .ge 19, 3) := by decide +kernel
theorem dX6_digest_161 : decode cX6_digest 161 = .ok (.aload_n 0, 1) := by decide +kernel
theorem dX6_digest_162 : decode cX6_digest 162 = .ok (.aload_n 0, 1) := by decide +kernel
theorem dX6_digest_163 : decode cX6_digest 163 = .ok (.iload_n 1, 1) := by decide +kernel
theorem dX6_digest_164 : decode cX6_digest 164 = .ok (.iload_n 2, 1) := by decide +kernel
theorem dX6_digest_165 : decode cX6_digest 165 = .ok (.invokevirtual 110, 3) := by decide +kernel
theorem dX6_digest_168 : decode cX6_digest 168 = .ok (.invokevirtual 214, 3) := by decide +kernel
theorem dX6_digest_171 : decode cX6_digest 171 = .ok (.iinc 2 1, 3) := by decide +kernel
theorem dX6_digest_174 : decode cX6_digest 174 = .ok (.goto (-19), 3) := by decide +kernel
theorem dX6_digest_177 : decode cX6_digest 177 = .ok (.iconst 0, 1) := by decide +kernel
theorem dX6_digest_178 : decode cX6_digest 178 = .ok (.istore_n 2, 1) := by decide +kernel
theorem dX6_digest_179 : decode cX6_digest 179 = .ok (.iload_n 2, 1) := by decide +kernel
theorem dX6_digest_180 : decode cX6_digest 180 = .ok (.aload_n 0, 1) := by decide +kernel
theorem dX6_digest_181 : decode cX6_digest 181 = .ok (.getfield 7, 3) := by decide +kernel
theorem dX6_digest_184 : decode cX6_digest 184 = .ok (.iconst 2, 1) := by decide +kernel
theorem dX6_digest_185 : decode cX6_digest 185 = .ok (.iaload, 1) := by decide +kernel
theorem dX6_digest_186 : decode cX6_digest 186 = .ok (.if_icmp .ge 48, 3) := by decide +kernel
theorem dX6_digest_189 : decode cX6_digest 189 = .ok (.aload_n 0, 1) := by decide +kernel
theorem dX6_digest_190 : decode cX6_digest 190 = .ok (.aload_n 0, 1) := by decide +kernel
theorem dX6_digest_191 : decode cX6_digest 191 = .ok (.iload_n 1, 1) := by decide +kernel
theorem dX6_digest_192 : decode cX6_digest 192 = .ok (.iload_n 2, 1) := by decide +kernel
theorem dX6_digest_193 : decode cX6_digest 193 = .ok (.invokevirtual 107, 3) := by decide +kernel
theorem dX6_digest_196 : decode cX6_digest 196 = .ok (.invokevirtual 214, 3) := by decide +kernel
theorem dX6_digest_199 : decode cX6_digest 199 = .ok (.iconst 0, 1) := by decide +kernel
theorem dX6_digest_200 : decode cX6_digest 200 = .ok (.istore_n 3, 1) := by decide +kernel
theorem dX6_digest_201 : decode cX6_digest 201 = .ok (.iload_n 3, 1) := by decide +kernel
theorem dX6_digest_202 : decode cX6_digest 202 = .ok (.aload_n 0, 1) := by decide +kernel
theorem dX6_digest_203 : decode cX6_digest 203 = .ok (.iload_n 1, 1) := by decide +kernel
theorem dX6_digest_204 : decode cX6_digest 204 = .ok (.iload_n 2, 1) := by decide +kernel
theorem dX6_digest_205 : decode cX6_digest 205 = .ok (.invokevirtual 107, 3) := by decide +kernel
theorem dX6_digest_208 : decode cX6_digest 208 = .ok (.if_icmp .ge 20, 3) := by decide +kernel
theorem dX6_digest_211 : decode cX6_digest 211 = .ok (.aload_n 0, 1) := by decide +kernel
