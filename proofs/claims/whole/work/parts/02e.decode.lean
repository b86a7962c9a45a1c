theorem dX6_laysSensor_8 : decode cX6_laysSensor 8 = .ok (.iaload, 1) := by decide +kernel
theorem dX6_laysSensor_9 : decode cX6_laysSensor 9 = .ok (.imul, 1) := by decide +kernel
theorem dX6_laysSensor_10 : decode cX6_laysSensor 10 = .ok (.iadd, 1) := by decide +kernel
theorem dX6_laysSensor_11 : decode cX6_laysSensor 11 = .ok (.istore 4, 2) := by decide +kernel
theorem dX6_laysSensor_13 : decode cX6_laysSensor 13 = .ok (.aload_n 0, 1) := by decide +kernel
theorem dX6_laysSensor_14 : decode cX6_laysSensor 14 = .ok (.getfield 7, 3) := by decide +kernel
theorem dX6_laysSensor_17 : decode cX6_laysSensor 17 = .ok (.iload 4, 2) := by decide +kernel
theorem dX6_laysSensor_19 : decode cX6_laysSensor 19 = .ok (.iload_n 1, 1) := by decide +kernel
theorem dX6_laysSensor_20 : decode cX6_laysSensor 20 = .ok (.iastore, 1) := by decide +kernel
theorem dX6_laysSensor_21 : decode cX6_laysSensor 21 = .ok (.aload_n 0, 1) := by decide +kernel
theorem dX6_laysSensor_22 : decode cX6_laysSensor 22 = .ok (.getfield 7, 3) := by decide +kernel
theorem dX6_laysSensor_25 : decode cX6_laysSensor 25 = .ok (.iload 4, 2) := by decide +kernel
theorem dX6_laysSensor_27 : decode cX6_laysSensor 27 = .ok (.iconst 1, 1) := by decide +kernel
theorem dX6_laysSensor_28 : decode cX6_laysSensor 28 = .ok (.iadd, 1) := by decide +kernel
theorem dX6_laysSensor_29 : decode cX6_laysSensor 29 = .ok (.iload_n 2, 1) := by decide +kernel
theorem dX6_laysSensor_30 : decode cX6_laysSensor 30 = .ok (.iastore, 1) := by decide +kernel
theorem dX6_laysSensor_31 : decode cX6_laysSensor 31 = .ok (.aload_n 0, 1) := by decide +kernel
theorem dX6_laysSensor_32 : decode cX6_laysSensor 32 = .ok (.getfield 7, 3) := by decide +kernel
theorem dX6_laysSensor_35 : decode cX6_laysSensor 35 = .ok (.iload 4, 2) := by decide +kernel
theorem dX6_laysSensor_37 : decode cX6_laysSensor 37 = .ok (.iconst 2, 1) := by decide +kernel
theorem dX6_laysSensor_38 : decode cX6_laysSensor 38 = .ok (.iadd, 1) := by decide +kernel
theorem dX6_laysSensor_39 : decode cX6_laysSensor 39 = .ok (.iload_n 3, 1) := by decide +kernel
theorem dX6_laysSensor_40 : decode cX6_laysSensor 40 = .ok (.iastore, 1) := by decide +kernel
theorem dX6_laysSensor_41 : decode cX6_laysSensor 41 = .ok (.iconst 0, 1) := by decide +kernel
theorem dX6_laysSensor_42 : decode cX6_laysSensor 42 = .ok (.istore 5, 2) := by decide +kernel
theorem dX6_laysSensor_44 : decode cX6_laysSensor 44 = .ok (.iload 5, 2) := by decide +kernel
theorem dX6_laysSensor_46 : decode cX6_laysSensor 46 = .ok (.iconst 5, 1) := by decide +kernel
theorem dX6_laysSensor_47 : decode cX6_laysSensor 47 = .ok (.if_icmp .ge 27, 3) := by decide +kernel
theorem dX6_laysSensor_50 : decode cX6_laysSensor 50 = .ok (.aload_n 0, 1) := by decide +kernel
theorem dX6_laysSensor_51 : decode cX6_laysSensor 51 = .ok (.getfield 7, 3) := by decide +kernel
theorem dX6_laysSensor_54 : decode cX6_laysSensor 54 = .ok (.aload_n 0, 1) := by decide +kernel
theorem dX6_laysSensor_55 : decode cX6_laysSensor 55 = .ok (.iload 5, 2) := by decide +kernel
theorem dX6_laysSensor_57 : decode cX6_laysSensor 57 = .ok (.aload_n 0, 1) := by decide +kernel
theorem dX6_laysSensor_58 : decode cX6_laysSensor 58 = .ok (.getfield 7, 3) := by decide +kernel
theorem dX6_laysSensor_61 : decode cX6_laysSensor 61 = .ok (.iconst 2, 1) := by decide +kernel
theorem dX6_laysSensor_62 : decode cX6_laysSensor 62 = .ok (.iaload, 1) := by decide +kernel
theorem dX6_laysSensor_63 : decode cX6_laysSensor 63 = .ok (.invokevirtual 51, 3) := by decide +kernel
theorem dX6_laysSensor_66 : decode cX6_laysSensor 66 = .ok (.iconst 0, 1) := by decide +kernel
theorem dX6_laysSensor_67 : decode cX6_laysSensor 67 = .ok (.iastore, 1) := by decide +kernel
theorem dX6_laysSensor_68 : decode cX6_laysSensor 68 = .ok (.iinc 5 1, 3) := by decide +kernel
theorem dX6_laysSensor_71 : decode cX6_laysSensor 71 = .ok (.goto (-27), 3) := by decide +kernel
theorem dX6_laysSensor_74 : decode cX6_laysSensor 74 = .ok (.aload_n 0, 1) := by decide +kernel
theorem dX6_laysSensor_75 : decode cX6_laysSensor 75 = .ok (.getfield 7, 3) := by decide +kernel
theorem dX6_laysSensor_78 : decode cX6_laysSensor 78 = .ok (.iconst 2, 1) := by decide +kernel
theorem dX6_laysSensor_79 : decode cX6_laysSensor 79 = .ok (.dup2, 1) := by decide +kernel
theorem dX6_laysSensor_80 : decode cX6_laysSensor 80 = .ok (.iaload, 1) := by decide +kernel
theorem dX6_laysSensor_81 : decode cX6_laysSensor 81 = .ok (.iconst 1, 1) := by decide +kernel
theorem dX6_laysSensor_82 : decode cX6_laysSensor 82 = .ok (.iadd, 1) := by decide +kernel
theorem dX6_laysSensor_83 : decode cX6_laysSensor 83 = .ok (.iastore, 1) := by decide +kernel
theorem dX6_laysSensor_84 : decode cX6_laysSensor 84 = .ok (.return_, 1) := by decide +kernel
set_option maxRecDepth 20000 in
theorem ggX6_addNode_X6_in : GoodIn wsX6_addNode wsX6_in := goodIn_r _ [5] (by decide +kernel) (by decide +kernel)
set_option maxRecDepth 20000 in
theorem gX6_addNode_X6_in : GoodIn wsX6_addNode (va_wsS RX6 43 yX6_in wsX6_in) := goodIn_app (goodIn_of _ (by decide +kernel)) ggX6_addNode_X6_in
set_option maxRecDepth 20000 in
theorem ggX6_addNode_X6_saves : GoodIn wsX6_addNode wsX6_saves := goodIn_r _ [9, 10, 11, 12, 13, 4, 14, 1, 19, 20, 21, 22, 23, 24, 25, 26, 27, 28, 29, 30, 31, 32, 33, 34] (by decide +kernel) (by decide +kernel)
set_option maxRecDepth 20000 in
theorem gX6_addNode_X6_saves : GoodIn wsX6_addNode (wsV RX6 54 RX6 yX6_saves wsX6_saves) := goodIn_app (goodIn_of _ (by decide +kernel)) ggX6_addNode_X6_saves
set_option maxRecDepth 20000 in
theorem ggX6_addNode_X6_laysNode : GoodIn wsX6_addNode wsX6_laysNode := goodIn_r _ [18, 1, 19, 20, 21, 22, 23, 24, 25, 26, 27, 28, 29, 30, 31, 32, 33, 34] (by decide +kernel) (by decide +kernel)
set_option maxRecDepth 20000 in
theorem gX6_addNode_X6_laysNode : GoodIn wsX6_addNode (wsV RX6 57 RX6 yX6_laysNode wsX6_laysNode) := goodIn_app (goodIn_of _ (by decide +kernel)) ggX6_addNode_X6_laysNode
theorem dX6_addNode_0 : decode cX6_addNode 0 = .ok (.iload_n 1, 1) := by decide +kernel
theorem dX6_addNode_1 : decode cX6_addNode 1 = .ok (.iconst 1, 1) := by decide +kernel
theorem dX6_addNode_2 : decode cX6_addNode 2 = .ok (.sipush 10000, 3) := by decide +kernel
theorem dX6_addNode_5 : decode cX6_addNode 5 = .ok (.invokestatic 43, 3) := by decide +kernel
theorem dX6_addNode_8 : decode cX6_addNode 8 = .ok (.ifCond .ne 7, 3) := by decide +kernel
theorem dX6_addNode_11 : decode cX6_addNode 11 = .ok (.sipush (-1002), 3) := by decide +kernel
theorem dX6_addNode_14 : decode cX6_addNode 14 = .ok (.ireturn, 1) := by decide +kernel
theorem dX6_addNode_15 : decode cX6_addNode 15 = .ok (.aload_n 0, 1) := by decide +kernel
theorem dX6_addNode_16 : decode cX6_addNode 16 = .ok (.getfield 7, 3) := by decide +kernel
theorem dX6_addNode_19 : decode cX6_addNode 19 = .ok (.iconst 0, 1) := by decide +kernel
theorem dX6_addNode_20 : decode cX6_addNode 20 = .ok (.iaload, 1) := by decide +kernel
theorem dX6_addNode_21 : decode cX6_addNode 21 = .ok (.bipush 10, 2) := by decide +kernel
theorem dX6_addNode_23 : decode cX6_addNode 23 = .ok (.if_icmp .ne 7, 3) := by decide +kernel
theorem dX6_addNode_26 : decode cX6_addNode 26 = .ok (.sipush (-1004), 3) := by decide +kernel
theorem dX6_addNode_29 : decode cX6_addNode 29 = .ok (.ireturn, 1) := by decide +kernel
theorem dX6_addNode_30 : decode cX6_addNode 30 = .ok (.aload_n 0, 1) := by decide +kernel
theorem dX6_addNode_31 : decode cX6_addNode 31 = .ok (.invokevirtual 54, 3) := by decide +kernel
theorem dX6_addNode_34 : decode cX6_addNode 34 = .ok (.aload_n 0, 1) := by decide +kernel
theorem dX6_addNode_35 : decode cX6_addNode 35 = .ok (.iload_n 1, 1) := by decide +kernel
theorem dX6_addNode_36 : decode cX6_addNode 36 = .ok (.invokevirtual 57, 3) := by decide +kernel
theorem dX6_addNode_39 : decode cX6_addNode 39 = .ok (.aload_n 0, 1) := by decide +kernel
theorem dX6_addNode_40 : decode cX6_addNode 40 = .ok (.getfield 7, 3) := by decide +kernel
theorem dX6_addNode_43 : decode cX6_addNode 43 = .ok (.iconst 0, 1) := by decide +kernel
theorem dX6_addNode_44 : decode cX6_addNode 44 = .ok (.iaload, 1) := by decide +kernel
theorem dX6_addNode_45 : decode cX6_addNode 45 = .ok (.iconst 1, 1) := by decide +kernel
theorem dX6_addNode_46 : decode cX6_addNode 46 = .ok (.isub, 1) := by decide +kernel
theorem dX6_addNode_47 : decode cX6_addNode 47 = .ok (.ireturn, 1) := by decide +kernel
set_option maxRecDepth 20000 in
theorem ggX6_charge_X6_isNode : GoodIn wsX6_charge wsX6_isNode := goodIn_r _ [6, 1, 7, 8, 5, 9, 19, 20, 21, 22, 23, 24, 25, 26, 27, 28, 29, 30, 31, 32, 33, 34] (by decide +kernel) (by decide +kernel)
set_option maxRecDepth 20000 in
theorem gX6_charge_X6_isNode : GoodIn wsX6_charge (wsV RX6 61 RX6 yX6_isNode wsX6_isNode) := goodIn_app (goodIn_of _ (by decide +kernel)) ggX6_charge_X6_isNode
set_option maxRecDepth 20000 in
theorem ggX6_charge_X6_in : GoodIn wsX6_charge wsX6_in := goodIn_r _ [9] (by decide +kernel) (by decide +kernel)
set_option maxRecDepth 20000 in
theorem gX6_charge_X6_in : GoodIn wsX6_charge (va_wsS RX6 43 yX6_in wsX6_in) := goodIn_app (goodIn_of _ (by decide +kernel)) ggX6_charge_X6_in
set_option maxRecDepth 20000 in
theorem ggX6_charge_X6_saves : GoodIn wsX6_charge wsX6_saves := goodIn_r _ [13, 14, 15, 16, 17, 5, 18, 1, 19, 20, 21, 22, 23, 24, 25, 26, 27, 28, 29, 30, 31, 32, 33, 34] (by decide +kernel) (by decide +kernel)
set_option maxRecDepth 20000 in
theorem gX6_charge_X6_saves : GoodIn wsX6_charge (wsV RX6 54 RX6 yX6_saves wsX6_saves) := goodIn_app (goodIn_of _ (by decide +kernel)) ggX6_charge_X6_saves
theorem dX6_charge_0 : decode cX6_charge 0 = .ok (.aload_n 0, 1) := by decide +kernel
theorem dX6_charge_1 : decode cX6_charge 1 = .ok (.iload_n 1, 1) := by decide +kernel
theorem dX6_charge_2 : decode cX6_charge 2 = .ok (.invokevirtual 61, 3) := by decide +kernel
theorem dX6_charge_5 : decode cX6_charge 5 = .ok (.ifCond .ne 7, 3) := by decide +kernel
theorem dX6_charge_8 : decode cX6_charge 8 = .ok (.sipush (-1001), 3) := by decide +kernel
theorem dX6_charge_11 : decode cX6_charge 11 = .ok (.ireturn, 1) := by decide +kernel
theorem dX6_charge_12 : decode cX6_charge 12 = .ok (.iload_n 2, 1) := by decide +kernel
theorem dX6_charge_13 : decode cX6_charge 13 = .ok (.iconst 0, 1) := by decide +kernel
theorem dX6_charge_14 : decode cX6_charge 14 = .ok (.sipush 10000, 3) := by decide +kernel
theorem dX6_charge_17 : decode cX6_charge 17 = .ok (.invokestatic 43, 3) := by decide +kernel
theorem dX6_charge_20 : decode cX6_charge 20 = .ok (.ifCond .ne 7, 3) := by decide +kernel
theorem dX6_charge_23 : decode cX6_charge 23 = .ok (.sipush (-1002), 3) := by decide +kernel
theorem dX6_charge_26 : decode cX6_charge 26 = .ok (.ireturn, 1) := by decide +kernel
theorem dX6_charge_27 : decode cX6_charge 27 = .ok (.aload_n 0, 1) := by decide +kernel
theorem dX6_charge_28 : decode cX6_charge 28 = .ok (.invokevirtual 54, 3) := by decide +kernel
theorem dX6_charge_31 : decode cX6_charge 31 = .ok (.aload_n 0, 1) := by decide +kernel
theorem dX6_charge_32 : decode cX6_charge 32 = .ok (.getfield 7, 3) := by decide +kernel
theorem dX6_charge_35 : decode cX6_charge 35 = .ok (.bipush 12, 2) := by decide +kernel
theorem dX6_charge_37 : decode cX6_charge 37 = .ok (.iload_n 1, 1) := by decide +kernel
theorem dX6_charge_38 : decode cX6_charge 38 = .ok (.iadd, 1) := by decide +kernel
theorem dX6_charge_39 : decode cX6_charge 39 = .ok (.iaload, 1) := by decide +kernel
theorem dX6_charge_40 : decode cX6_charge 40 = .ok (.istore_n 3, 1) := by decide +kernel
theorem dX6_charge_41 : decode cX6_charge 41 = .ok (.aload_n 0, 1) := by decide +kernel
theorem dX6_charge_42 : decode cX6_charge 42 = .ok (.getfield 7, 3) := by decide +kernel
theorem dX6_charge_45 : decode cX6_charge 45 = .ok (.bipush 12, 2) := by decide +kernel
theorem dX6_charge_47 : decode cX6_charge 47 = .ok (.iload_n 1, 1) := by decide +kernel
theorem dX6_charge_48 : decode cX6_charge 48 = .ok (.iadd, 1) := by decide +kernel
theorem dX6_charge_49 : decode cX6_charge 49 = .ok (.iload_n 2, 1) := by decide +kernel
theorem dX6_charge_50 : decode cX6_charge 50 = .ok (.iastore, 1) := by decide +kernel
theorem dX6_charge_51 : decode cX6_charge 51 = .ok (.iload_n 3, 1) := by decide +kernel
theorem dX6_charge_52 : decode cX6_charge 52 = .ok (.ireturn, 1) := by decide +kernel
set_option maxRecDepth 20000 in
theorem ggX6_link_X6_isNode : GoodIn wsX6_link wsX6_isNode := goodIn_r _ [6, 1, 7, 8, 5, 9, 31, 32, 33, 34, 35, 36, 37, 38, 39, 40, 41, 42, 43, 44, 45, 46] (by decide +kernel) (by decide +kernel)
set_option maxRecDepth 20000 in
theorem gX6_link_X6_isNode : GoodIn wsX6_link (wsV RX6 61 RX6 yX6_isNode wsX6_isNode) := goodIn_app (goodIn_of _ (by decide +kernel)) ggX6_link_X6_isNode
set_option maxRecDepth 20000 in
theorem ggX6_link_X6_in : GoodIn wsX6_link wsX6_in := goodIn_r _ [9] (by decide +kernel) (by decide +kernel)
set_option maxRecDepth 20000 in
theorem gX6_link_X6_in : GoodIn wsX6_link (va_wsS RX6 43 yX6_in wsX6_in) := goodIn_app (goodIn_of _ (by decide +kernel)) ggX6_link_X6_in
set_option maxRecDepth 20000 in
theorem ggX6_link_X6_linkOf : GoodIn wsX6_link wsX6_linkOf := goodIn_r _ [13, 1, 14, 15, 16, 5, 17, 31, 32, 33, 34, 35, 36, 37, 38, 39, 40, 41, 42, 43, 44, 45, 46] (by decide +kernel) (by decide +kernel)
set_option maxRecDepth 20000 in
theorem gX6_link_X6_linkOf : GoodIn wsX6_link (wsV RX6 65 RX6 yX6_linkOf wsX6_linkOf) := goodIn_app (goodIn_of _ (by decide +kernel)) ggX6_link_X6_linkOf
set_option maxRecDepth 20000 in
theorem ggX6_link_X6_saves : GoodIn wsX6_link wsX6_saves := goodIn_r _ [21, 22, 23, 24, 25, 5, 26, 1, 31, 32, 33, 34, 35, 36, 37, 38, 39, 40, 41, 42, 43, 44, 45, 46] (by decide +kernel) (by decide +kernel)
set_option maxRecDepth 20000 in
theorem gX6_link_X6_saves : GoodIn wsX6_link (wsV RX6 54 RX6 yX6_saves wsX6_saves) := goodIn_app (goodIn_of _ (by decide +kernel)) ggX6_link_X6_saves
set_option maxRecDepth 20000 in
theorem ggX6_link_X6_laysLink : GoodIn wsX6_link wsX6_laysLink := goodIn_r _ [30, 1, 31, 32, 33, 34, 35, 36, 37, 38, 39, 40, 41, 42, 43, 44, 45, 46] (by decide +kernel) (by decide +kernel)
set_option maxRecDepth 20000 in
theorem gX6_link_X6_laysLink : GoodIn wsX6_link (wsV RX6 68 RX6 yX6_laysLink wsX6_laysLink) := goodIn_app (goodIn_of _ (by decide +kernel)) ggX6_link_X6_laysLink
theorem dX6_link_0 : decode cX6_link 0 = .ok (.aload_n 0, 1) := by decide +kernel
theorem dX6_link_1 : decode cX6_link 1 = .ok (.iload_n 1, 1) := by decide +kernel
theorem dX6_link_2 : decode cX6_link 2 = .ok (.invokevirtual 61, 3) := by decide +kernel
theorem dX6_link_5 : decode cX6_link 5 = .ok (.ifCond .eq 11, 3) := by decide +kernel
theorem dX6_link_8 : decode cX6_link 8 = .ok (.aload_n 0, 1) := by decide +kernel
theorem dX6_link_9 : decode cX6_link 9 = .ok (.iload_n 2, 1) := by decide +kernel
theorem dX6_link_10 : decode cX6_link 10 = .ok (.invokevirtual 61, 3) := by decide +kernel
theorem dX6_link_13 : decode cX6_link 13 = .ok (.ifCond .ne 7, 3) := by decide +kernel
theorem dX6_link_16 : decode cX6_link 16 = .ok (.sipush (-1001), 3) := by decide +kernel
theorem dX6_link_19 : decode cX6_link 19 = .ok (.ireturn, 1) := by decide +kernel
theorem dX6_link_20 : decode cX6_link 20 = .ok (.iload_n 3, 1) := by decide +kernel
theorem dX6_link_21 : decode cX6_link 21 = .ok (.iconst 1, 1) := by decide +kernel
theorem dX6_link_22 : decode cX6_link 22 = .ok (.bipush 20, 2) := by decide +kernel
theorem dX6_link_24 : decode cX6_link 24 = .ok (.invokestatic 43, 3) := by decide +kernel
theorem dX6_link_27 : decode cX6_link 27 = .ok (.ifCond .ne 7, 3) := by decide +kernel
theorem dX6_link_30 : decode cX6_link 30 = .ok (.sipush (-1002), 3) := by decide +kernel
theorem dX6_link_33 : decode cX6_link 33 = .ok (.ireturn, 1) := by decide +kernel
theorem dX6_link_34 : decode cX6_link 34 = .ok (.iload_n 1, 1) := by decide +kernel
theorem dX6_link_35 : decode cX6_link 35 = .ok (.iload_n 2, 1) := by decide +kernel
theorem dX6_link_36 : decode cX6_link 36 = .ok (.if_icmp .eq 15, 3) := by decide +kernel
theorem dX6_link_39 : decode cX6_link 39 = .ok (.aload_n 0, 1) := by decide +kernel
theorem dX6_link_40 : decode cX6_link 40 = .ok (.iload_n 1, 1) := by decide +kernel
theorem dX6_link_41 : decode cX6_link 41 = .ok (.iload_n 2, 1) := by decide +kernel
theorem dX6_link_42 : decode cX6_link 42 = .ok (.invokevirtual 65, 3) := by decide +kernel
theorem dX6_link_45 : decode cX6_link 45 = .ok (.sipush (-1000), 3) := by decide +kernel
theorem dX6_link_48 : decode cX6_link 48 = .ok (.if_icmp .eq 7, 3) := by decide +kernel
theorem dX6_link_51 : decode cX6_link 51 = .ok (.sipush (-1003), 3) := by decide +kernel
theorem dX6_link_54 : decode cX6_link 54 = .ok (.ireturn, 1) := by decide +kernel
theorem dX6_link_55 : decode cX6_link 55 = .ok (.aload_n 0, 1) := by decide +kernel
theorem dX6_link_56 : decode cX6_link 56 = .ok (.getfield 7, 3) := by decide +kernel
theorem dX6_link_59 : decode cX6_link 59 = .ok (.iconst 1, 1) := by decide +kernel
theorem dX6_link_60 : decode cX6_link 60 = .ok (.iaload, 1) := by decide +kernel
theorem dX6_link_61 : decode cX6_link 61 = .ok (.bipush 20, 2) := by decide +kernel
theorem dX6_link_63 : decode cX6_link 63 = .ok (.if_icmp .ne 7, 3) := by decide +kernel
theorem dX6_link_66 : decode cX6_link 66 = .ok (.sipush (-1004), 3) := by decide +kernel
theorem dX6_link_69 : decode cX6_link 69 = .ok (.ireturn, 1) := by decide +kernel
theorem dX6_link_70 : decode cX6_link 70 = .ok (.aload_n 0, 1) := by decide +kernel
theorem dX6_link_71 : decode cX6_link 71 = .ok (.invokevirtual 54, 3) := by decide +kernel
theorem dX6_link_74 : decode cX6_link 74 = .ok (.aload_n 0, 1) := by decide +kernel
theorem dX6_link_75 : decode cX6_link 75 = .ok (.iload_n 1, 1) := by decide +kernel
theorem dX6_link_76 : decode cX6_link 76 = .ok (.iload_n 2, 1) := by decide +kernel
theorem dX6_link_77 : decode cX6_link 77 = .ok (.iload_n 3, 1) := by decide +kernel
theorem dX6_link_78 : decode cX6_link 78 = .ok (.invokevirtual 68, 3) := by decide +kernel
theorem dX6_link_81 : decode cX6_link 81 = .ok (.aload_n 0, 1) := by decide +kernel
theorem dX6_link_82 : decode cX6_link 82 = .ok (.getfield 7, 3) := by decide +kernel
theorem dX6_link_85 : decode cX6_link 85 = .ok (.iconst 1, 1) := by decide +kernel
theorem dX6_link_86 : decode cX6_link 86 = .ok (.iaload, 1) := by decide +kernel
theorem dX6_link_87 : decode cX6_link 87 = .ok (.iconst 1, 1) := by decide +kernel
theorem dX6_link_88 : decode cX6_link 88 = .ok (.isub, 1) := by decide +kernel
theorem dX6_link_89 : decode cX6_link 89 = .ok (.ireturn, 1) := by decide +kernel
set_option maxRecDepth 20000 in
theorem ggX6_cut_X6_isLink : GoodIn wsX6_cut wsX6_isLink := goodIn_r _ [6, 1, 7, 8, 5, 9, 19, 20, 21, 22, 23, 24, 25, 26, 27, 28, 29, 30, 31, 32, 33, 34] (by decide +kernel) (by decide +kernel)
set_option maxRecDepth 20000 in
theorem gX6_cut_X6_isLink : GoodIn wsX6_cut (wsV RX6 72 RX6 yX6_isLink wsX6_isLink) := goodIn_app (goodIn_of _ (by decide +kernel)) ggX6_cut_X6_isLink
set_option maxRecDepth 20000 in
theorem ggX6_cut_X6_saves : GoodIn wsX6_cut wsX6_saves := goodIn_r _ [13, 14, 15, 16, 17, 5, 18, 1, 19, 20, 21, 22, 23, 24, 25, 26, 27, 28, 29, 30, 31, 32, 33, 34] (by decide +kernel) (by decide +kernel)
set_option maxRecDepth 20000 in
theorem gX6_cut_X6_saves : GoodIn wsX6_cut (wsV RX6 54 RX6 yX6_saves wsX6_saves) := goodIn_app (goodIn_of _ (by decide +kernel)) ggX6_cut_X6_saves
theorem dX6_cut_0 : decode cX6_cut 0 = .ok (.aload_n 0, 1) := by decide +kernel
theorem dX6_cut_1 : decode cX6_cut 1 = .ok (.iload_n 1, 1) := by decide +kernel
theorem dX6_cut_2 : decode cX6_cut 2 = .ok (.invokevirtual 72, 3) := by decide +kernel
theorem dX6_cut_5 : decode cX6_cut 5 = .ok (.ifCond .ne 7, 3) := by decide +kernel
theorem dX6_cut_8 : decode cX6_cut 8 = .ok (.sipush (-1001), 3) := by decide +kernel
theorem dX6_cut_11 : decode cX6_cut 11 = .ok (.ireturn, 1) := by decide +kernel
theorem dX6_cut_12 : decode cX6_cut 12 = .ok (.aload_n 0, 1) := by decide +kernel
theorem dX6_cut_13 : decode cX6_cut 13 = .ok (.invokevirtual 54, 3) := by decide +kernel
theorem dX6_cut_16 : decode cX6_cut 16 = .ok (.aload_n 0, 1) := by decide +kernel
theorem dX6_cut_17 : decode cX6_cut 17 = .ok (.getfield 7, 3) := by decide +kernel
theorem dX6_cut_20 : decode cX6_cut 20 = .ok (.iconst 1, 1) := by decide +kernel
theorem dX6_cut_21 : decode cX6_cut 21 = .ok (.dup2, 1) := by decide +kernel
theorem dX6_cut_22 : decode cX6_cut 22 = .ok (.iaload, 1) := by decide +kernel
theorem dX6_cut_23 : decode cX6_cut 23 = .ok (.iconst 1, 1) := by decide +kernel
theorem dX6_cut_24 : decode cX6_cut 24 = .ok (.isub, 1) := by decide +kernel
theorem dX6_cut_25 : decode cX6_cut 25 = .ok (.iastore, 1) := by decide +kernel
theorem dX6_cut_26 : decode cX6_cut 26 = .ok (.iconst 3, 1) := by decide +kernel
theorem dX6_cut_27 : decode cX6_cut 27 = .ok (.iload_n 1, 1) := by decide +kernel
theorem dX6_cut_28 : decode cX6_cut 28 = .ok (.imul, 1) := by decide +kernel
theorem dX6_cut_29 : decode cX6_cut 29 = .ok (.istore_n 2, 1) := by decide +kernel
theorem dX6_cut_30 : decode cX6_cut 30 = .ok (.iload_n 2, 1) := by decide +kernel
theorem dX6_cut_31 : decode cX6_cut 31 = .ok (.iconst 3, 1) := by decide +kernel
theorem dX6_cut_32 : decode cX6_cut 32 = .ok (.aload_n 0, 1) := by decide +kernel
theorem dX6_cut_33 : decode cX6_cut 33 = .ok (.getfield 7, 3) := by decide +kernel
theorem dX6_cut_36 : decode cX6_cut 36 = .ok (.iconst 1, 1) := by decide +kernel
theorem dX6_cut_37 : decode cX6_cut 37 = .ok (.iaload, 1) := by decide +kernel
theorem dX6_cut_38 : decode cX6_cut 38 = .ok (.imul, 1) := by decide +kernel
theorem dX6_cut_39 : decode cX6_cut 39 = .ok (.if_icmp .ge 29, 3) := by decide +kernel
theorem dX6_cut_42 : decode cX6_cut 42 = .ok (.aload_n 0, 1) := by decide +kernel
theorem dX6_cut_43 : decode cX6_cut 43 = .ok (.getfield 7, 3) := by decide +kernel
theorem dX6_cut_46 : decode cX6_cut 46 = .ok (.bipush 22, 2) := by decide +kernel
theorem dX6_cut_48 : decode cX6_cut 48 = .ok (.iload_n 2, 1) := by decide +kernel
theorem dX6_cut_49 : decode cX6_cut 49 = .ok (.iadd, 1) := by decide +kernel
theorem dX6_cut_50 : decode cX6_cut 50 = .ok (.aload_n 0, 1) := by decide +kernel
theorem dX6_cut_51 : decode cX6_cut 51 = .ok (.getfield 7, 3) := by decide +kernel
theorem dX6_cut_54 : decode cX6_cut 54 = .ok (.bipush 22, 2) := by decide +kernel
theorem dX6_cut_56 : decode cX6_cut 56 = .ok (.iload_n 2, 1) := by decide +kernel
theorem dX6_cut_57 : decode cX6_cut 57 = .ok (.iadd, 1) := by decide +kernel
theorem dX6_cut_58 : decode cX6_cut 58 = .ok (.iconst 3, 1) := by decide +kernel
theorem dX6_cut_59 : decode cX6_cut 59 = .ok (.iadd, 1) := by decide +kernel
theorem dX6_cut_60 : decode cX6_cut 60 = .ok (.iaload, 1) := by decide +kernel
theorem dX6_cut_61 : decode cX6_cut 61 = .ok (.iastore, 1) := by decide +kernel
theorem dX6_cut_62 : decode cX6_cut 62 = .ok (.iinc 2 1, 3) := by decide +kernel
theorem dX6_cut_65 : decode cX6_cut 65 = .ok (.goto (-35), 3) := by decide +kernel
theorem dX6_cut_68 : decode cX6_cut 68 = .ok (.aload_n 0, 1) := by decide +kernel
theorem dX6_cut_69 : decode cX6_cut 69 = .ok (.getfield 7, 3) := by decide +kernel
theorem dX6_cut_72 : decode cX6_cut 72 = .ok (.iconst 1, 1) := by decide +kernel
theorem dX6_cut_73 : decode cX6_cut 73 = .ok (.iaload, 1) := by decide +kernel
theorem dX6_cut_74 : decode cX6_cut 74 = .ok (.ireturn, 1) := by decide +kernel
set_option maxRecDepth 20000 in
theorem ggX6_isKind_X6_in : GoodIn wsX6_isKind wsX6_in := goodIn_r _ [4] (by decide +kernel) (by decide +kernel)
set_option maxRecDepth 20000 in
theorem gX6_isKind_X6_in : GoodIn wsX6_isKind (va_wsS RX6 43 yX6_in wsX6_in) := goodIn_app (goodIn_of _ (by decide +kernel)) ggX6_isKind_X6_in
theorem dX6_isKind_0 : decode cX6_isKind 0 = .ok (.iload_n 0, 1) := by decide +kernel
theorem dX6_isKind_1 : decode cX6_isKind 1 = .ok (.iconst 0, 1) := by decide +kernel
theorem dX6_isKind_2 : decode cX6_isKind 2 = .ok (.bipush 7, 2) := by decide +kernel
theorem dX6_isKind_4 : decode cX6_isKind 4 = .ok (.invokestatic 43, 3) := by decide +kernel
theorem dX6_isKind_7 : decode cX6_isKind 7 = .ok (.ireturn, 1) := by decide +kernel
set_option maxRecDepth 20000 in
theorem ggX6_isMeasure_X6_in : GoodIn wsX6_isMeasure wsX6_in := goodIn_r _ [4] (by decide +kernel) (by decide +kernel)
set_option maxRecDepth 20000 in
theorem gX6_isMeasure_X6_in : GoodIn wsX6_isMeasure (va_wsS RX6 43 yX6_in wsX6_in) := goodIn_app (goodIn_of _ (by decide +kernel)) ggX6_isMeasure_X6_in
theorem dX6_isMeasure_0 : decode cX6_isMeasure 0 = .ok (.iload_n 0, 1) := by decide +kernel
theorem dX6_isMeasure_1 : decode cX6_isMeasure 1 = .ok (.bipush (-100), 2) := by decide +kernel
theorem dX6_isMeasure_3 : decode cX6_isMeasure 3 = .ok (.bipush 100, 2) := by decide +kernel
theorem dX6_isMeasure_5 : decode cX6_isMeasure 5 = .ok (.invokestatic 43, 3) := by decide +kernel
theorem dX6_isMeasure_8 : decode cX6_isMeasure 8 = .ok (.ireturn, 1) := by decide +kernel
set_option maxRecDepth 20000 in
theorem ggX6_addSensor_X6_isNode : GoodIn wsX6_addSensor wsX6_isNode := goodIn_r _ [6, 1, 7, 8, 5, 9, 33, 34, 35, 36, 37, 38, 39, 40, 41, 42, 43, 44, 45, 46, 47, 48] (by decide +kernel) (by decide +kernel)
set_option maxRecDepth 20000 in
theorem gX6_addSensor_X6_isNode : GoodIn wsX6_addSensor (wsV RX6 61 RX6 yX6_isNode wsX6_isNode) := goodIn_app (goodIn_of _ (by decide +kernel)) ggX6_addSensor_X6_isNode
set_option maxRecDepth 20000 in
theorem ggX6_addSensor_X6_isKind : GoodIn wsX6_addSensor wsX6_isKind := goodIn_r _ [12, 7, 8, 5, 9] (by decide +kernel) (by decide +kernel)
set_option maxRecDepth 20000 in
theorem gX6_addSensor_X6_isKind : GoodIn wsX6_addSensor (va_wsS RX6 75 yX6_isKind wsX6_isKind) := goodIn_app (goodIn_of _ (by decide +kernel)) ggX6_addSensor_X6_isKind
set_option maxRecDepth 20000 in
theorem ggX6_addSensor_X6_isMeasure : GoodIn wsX6_addSensor wsX6_isMeasure := goodIn_r _ [15, 7, 8, 5, 9] (by decide +kernel) (by decide +kernel)
set_option maxRecDepth 20000 in
theorem gX6_addSensor_X6_isMeasure : GoodIn wsX6_addSensor (va_wsS RX6 78 yX6_isMeasure wsX6_isMeasure) := goodIn_app (goodIn_of _ (by decide +kernel)) ggX6_addSensor_X6_isMeasure
set_option maxRecDepth 20000 in
theorem ggX6_addSensor_X6_saves : GoodIn wsX6_addSensor wsX6_saves := goodIn_r _ [19, 20, 21, 22, 23, 5, 24, 1, 33, 34, 35, 36, 37, 38, 39, 40, 41, 42, 43, 44, 45, 46, 47, 48] (by decide +kernel) (by decide +kernel)
set_option maxRecDepth 20000 in
theorem gX6_addSensor_X6_saves : GoodIn wsX6_addSensor (wsV RX6 54 RX6 yX6_saves wsX6_saves) := goodIn_app (goodIn_of _ (by decide +kernel)) ggX6_addSensor_X6_saves
set_option maxRecDepth 20000 in
theorem ggX6_addSensor_X6_laysSensor : GoodIn wsX6_addSensor wsX6_laysSensor := goodIn_r _ [28, 1, 29, 30, 31, 5, 32, 33, 34, 35, 36, 37, 38, 39, 40, 41, 42, 43, 44, 45, 46, 47, 48] (by decide +kernel) (by decide +kernel)
set_option maxRecDepth 20000 in
theorem gX6_addSensor_X6_laysSensor : GoodIn wsX6_addSensor (wsV RX6 81 RX6 yX6_laysSensor wsX6_laysSensor) := goodIn_app (goodIn_of _ (by decide +kernel)) ggX6_addSensor_X6_laysSensor
theorem dX6_addSensor_0 : decode cX6_addSensor 0 = .ok (.aload_n 0, 1) := by decide +kernel
theorem dX6_addSensor_1 : decode cX6_addSensor 1 = .ok (.iload_n 1, 1) := by decide +kernel
theorem dX6_addSensor_2 : decode cX6_addSensor 2 = .ok (.invokevirtual 61, 3) := by decide +kernel
theorem dX6_addSensor_5 : decode cX6_addSensor 5 = .ok (.ifCond .ne 7, 3) := by decide +kernel
theorem dX6_addSensor_8 : decode cX6_addSensor 8 = .ok (.sipush (-1001), 3) := by decide +kernel
theorem dX6_addSensor_11 : decode cX6_addSensor 11 = .ok (.ireturn, 1) := by decide +kernel
theorem dX6_addSensor_12 : decode cX6_addSensor 12 = .ok (.iload_n 2, 1) := by decide +kernel
theorem dX6_addSensor_13 : decode cX6_addSensor 13 = .ok (.invokestatic 75, 3) := by decide +kernel
theorem dX6_addSensor_16 : decode cX6_addSensor 16 = .ok (.ifCond .eq 10, 3) := by decide +kernel
theorem dX6_addSensor_19 : decode cX6_addSensor 19 = .ok (.iload_n 3, 1) := by decide +kernel
theorem dX6_addSensor_20 : decode cX6_addSensor 20 = .ok (.invokestatic 78, 3) := by decide +kernel
theorem dX6_addSensor_23 : decode cX6_addSensor 23 = .ok (.ifCond .ne 7, 3) := by decide +kernel
theorem dX6_addSensor_26 : decode cX6_addSensor 26 = .ok (.sipush (-1002), 3) := by decide +kernel
theorem dX6_addSensor_29 : decode cX6_addSensor 29 = .ok (.ireturn, 1) := by decide +kernel
theorem dX6_addSensor_30 : decode cX6_addSensor 30 = .ok (.aload_n 0, 1) := by decide +kernel
theorem dX6_addSensor_31 : decode cX6_addSensor 31 = .ok (.getfield 7, 3) := by decide +kernel
theorem dX6_addSensor_34 : decode cX6_addSensor 34 = .ok (.iconst 2, 1) := by decide +kernel
theorem dX6_addSensor_35 : decode cX6_addSensor 35 = .ok (.iaload, 1) := by decide +kernel
theorem dX6_addSensor_36 : decode cX6_addSensor 36 = .ok (.bipush 6, 2) := by decide +kernel
theorem dX6_addSensor_38 : decode cX6_addSensor 38 = .ok (.if_icmp .ne 7, 3) := by decide +kernel
theorem dX6_addSensor_41 : decode cX6_addSensor 41 = .ok (.sipush (-1004), 3) := by decide +kernel
theorem dX6_addSensor_44 : decode cX6_addSensor 44 = .ok (.ireturn, 1) := by decide +kernel
theorem dX6_addSensor_45 : decode cX6_addSensor 45 = .ok (.aload_n 0, 1) := by decide +kernel
theorem dX6_addSensor_46 : decode cX6_addSensor 46 = .ok (.invokevirtual 54, 3) := by decide +kernel
theorem dX6_addSensor_49 : decode cX6_addSensor 49 = .ok (.aload_n 0, 1) := by decide +kernel
theorem dX6_addSensor_50 : decode cX6_addSensor 50 = .ok (.iload_n 1, 1) := by decide +kernel
theorem dX6_addSensor_51 : decode cX6_addSensor 51 = .ok (.iload_n 2, 1) := by decide +kernel
theorem dX6_addSensor_52 : decode cX6_addSensor 52 = .ok (.iload_n 3, 1) := by decide +kernel
theorem dX6_addSensor_53 : decode cX6_addSensor 53 = .ok (.invokevirtual 81, 3) := by decide +kernel
theorem dX6_addSensor_56 : decode cX6_addSensor 56 = .ok (.aload_n 0, 1) := by decide +kernel
theorem dX6_addSensor_57 : decode cX6_addSensor 57 = .ok (.getfield 7, 3) := by decide +kernel
theorem dX6_addSensor_60 : decode cX6_addSensor 60 = .ok (.iconst 2, 1) := by decide +kernel
theorem dX6_addSensor_61 : decode cX6_addSensor 61 = .ok (.iaload, 1) := by decide +kernel
theorem dX6_addSensor_62 : decode cX6_addSensor 62 = .ok (.iconst 1, 1) := by decide +kernel
theorem dX6_addSensor_63 : decode cX6_addSensor 63 = .ok (.isub, 1) := by decide +kernel
theorem dX6_addSensor_64 : decode cX6_addSensor 64 = .ok (.ireturn, 1) := by decide +kernel
set_option maxRecDepth 20000 in
theorem ggX6_measure_X6_isSensor : GoodIn wsX6_measure wsX6_isSensor := goodIn_r _ [6, 1, 7, 8, 5, 9, 26, 27, 28, 29, 30, 31, 32, 33, 34, 35, 36, 37, 38, 39, 40, 41] (by decide +kernel) (by decide +kernel)
set_option maxRecDepth 20000 in
theorem gX6_measure_X6_isSensor : GoodIn wsX6_measure (wsV RX6 84 RX6 yX6_isSensor wsX6_isSensor) := goodIn_app (goodIn_of _ (by decide +kernel)) ggX6_measure_X6_isSensor
set_option maxRecDepth 20000 in
theorem ggX6_measure_X6_isMeasure : GoodIn wsX6_measure wsX6_isMeasure := goodIn_r _ [12, 7, 8, 5, 9] (by decide +kernel) (by decide +kernel)
set_option maxRecDepth 20000 in
theorem gX6_measure_X6_isMeasure : GoodIn wsX6_measure (va_wsS RX6 78 yX6_isMeasure wsX6_isMeasure) := goodIn_app (goodIn_of _ (by decide +kernel)) ggX6_measure_X6_isMeasure
set_option maxRecDepth 20000 in
theorem ggX6_measure_X6_saves : GoodIn wsX6_measure wsX6_saves := goodIn_r _ [16, 17, 18, 19, 20, 5, 21, 1, 26, 27, 28, 29, 30, 31, 32, 33, 34, 35, 36, 37, 38, 39, 40, 41] (by decide +kernel) (by decide +kernel)
set_option maxRecDepth 20000 in
theorem gX6_measure_X6_saves : GoodIn wsX6_measure (wsV RX6 54 RX6 yX6_saves wsX6_saves) := goodIn_app (goodIn_of _ (by decide +kernel)) ggX6_measure_X6_saves
set_option maxRecDepth 20000 in
theorem ggX6_measure_X6_ofSensor : GoodIn wsX6_measure wsX6_ofSensor := goodIn_r _ [25, 1, 26, 27, 28, 29, 30, 31, 32, 33, 34, 35, 36, 37, 38, 39, 40, 41] (by decide +kernel) (by decide +kernel)
set_option maxRecDepth 20000 in
theorem gX6_measure_X6_ofSensor : GoodIn wsX6_measure (wsV RX6 87 RX6 yX6_ofSensor wsX6_ofSensor) := goodIn_app (goodIn_of _ (by decide +kernel)) ggX6_measure_X6_ofSensor
theorem dX6_measure_0 : decode cX6_measure 0 = .ok (.aload_n 0, 1) := by decide +kernel
theorem dX6_measure_1 : decode cX6_measure 1 = .ok (.iload_n 1, 1) := by decide +kernel
theorem dX6_measure_2 : decode cX6_measure 2 = .ok (.invokevirtual 84, 3) := by decide +kernel
theorem dX6_measure_5 : decode cX6_measure 5 = .ok (.ifCond .ne 7, 3) := by decide +kernel
theorem dX6_measure_8 : decode cX6_measure 8 = .ok (.sipush (-1001), 3) := by decide +kernel
theorem dX6_measure_11 : decode cX6_measure 11 = .ok (.ireturn, 1) := by decide +kernel
theorem dX6_measure_12 : decode cX6_measure 12 = .ok (.iload_n 2, 1) := by decide +kernel
theorem dX6_measure_13 : decode cX6_measure 13 = .ok (.invokestatic 78, 3) := by decide +kernel
theorem dX6_measure_16 : decode cX6_measure 16 = .ok (.ifCond .ne 7, 3) := by decide +kernel
theorem dX6_measure_19 : decode cX6_measure 19 = .ok (.sipush (-1002), 3) := by decide +kernel
theorem dX6_measure_22 : decode cX6_measure 22 = .ok (.ireturn, 1) := by decide +kernel
theorem dX6_measure_23 : decode cX6_measure 23 = .ok (.aload_n 0, 1) := by decide +kernel
theorem dX6_measure_24 : decode cX6_measure 24 = .ok (.invokevirtual 54, 3) := by decide +kernel
theorem dX6_measure_27 : decode cX6_measure 27 = .ok (.aload_n 0, 1) := by decide +kernel
theorem dX6_measure_28 : decode cX6_measure 28 = .ok (.iload_n 1, 1) := by decide +kernel
theorem dX6_measure_29 : decode cX6_measure 29 = .ok (.iconst 2, 1) := by decide +kernel
theorem dX6_measure_30 : decode cX6_measure 30 = .ok (.invokevirtual 87, 3) := by decide +kernel
theorem dX6_measure_33 : decode cX6_measure 33 = .ok (.istore_n 3, 1) := by decide +kernel
theorem dX6_measure_34 : decode cX6_measure 34 = .ok (.aload_n 0, 1) := by decide +kernel
theorem dX6_measure_35 : decode cX6_measure 35 = .ok (.getfield 7, 3) := by decide +kernel
theorem dX6_measure_38 : decode cX6_measure 38 = .ok (.bipush 82, 2) := by decide +kernel
theorem dX6_measure_40 : decode cX6_measure 40 = .ok (.iconst 3, 1) := by decide +kernel
theorem dX6_measure_41 : decode cX6_measure 41 = .ok (.iload_n 1, 1) := by decide +kernel
theorem dX6_measure_42 : decode cX6_measure 42 = .ok (.imul, 1) := by decide +kernel
theorem dX6_measure_43 : decode cX6_measure 43 = .ok (.iadd, 1) := by decide +kernel
theorem dX6_measure_44 : decode cX6_measure 44 = .ok (.iconst 2, 1) := by decide +kernel
theorem dX6_measure_45 : decode cX6_measure 45 = .ok (.iadd, 1) := by decide +kernel
theorem dX6_measure_46 : decode cX6_measure 46 = .ok (.iload_n 2, 1) := by decide +kernel
theorem dX6_measure_47 : decode cX6_measure 47 = .ok (.iastore, 1) := by decide +kernel
theorem dX6_measure_48 : decode cX6_measure 48 = .ok (.iload_n 3, 1) := by decide +kernel
theorem dX6_measure_49 : decode cX6_measure 49 = .ok (.ireturn, 1) := by decide +kernel
set_option maxRecDepth 20000 in
theorem ggX6_ask_X6_isNode : GoodIn wsX6_ask wsX6_isNode := goodIn_r _ [7, 1, 8, 9, 6, 10, 30, 31, 32, 33, 34, 35, 36, 37, 38, 39, 40, 41, 42, 43, 44, 45] (by decide +kernel) (by decide +kernel)
set_option maxRecDepth 20000 in
theorem gX6_ask_X6_isNode : GoodIn wsX6_ask (wsV RX6 61 RX6 yX6_isNode wsX6_isNode) := goodIn_app (goodIn_of _ (by decide +kernel)) ggX6_ask_X6_isNode
set_option maxRecDepth 20000 in
theorem ggX6_ask_X6_isKind : GoodIn wsX6_ask wsX6_isKind := goodIn_r _ [13, 8, 9, 6, 10] (by decide +kernel) (by decide +kernel)
set_option maxRecDepth 20000 in
theorem gX6_ask_X6_isKind : GoodIn wsX6_ask (va_wsS RX6 75 yX6_isKind wsX6_isKind) := goodIn_app (goodIn_of _ (by decide +kernel)) ggX6_ask_X6_isKind
set_option maxRecDepth 20000 in
theorem ggX6_ask_X6_isMeasure : GoodIn wsX6_ask wsX6_isMeasure := goodIn_r _ [16, 8, 9, 6, 10] (by decide +kernel) (by decide +kernel)
set_option maxRecDepth 20000 in
theorem gX6_ask_X6_isMeasure : GoodIn wsX6_ask (va_wsS RX6 78 yX6_isMeasure wsX6_isMeasure) := goodIn_app (goodIn_of _ (by decide +kernel)) ggX6_ask_X6_isMeasure
set_option maxRecDepth 20000 in
theorem ggX6_ask_X6_in : GoodIn wsX6_ask wsX6_in := goodIn_r _ [10] (by decide +kernel) (by decide +kernel)
set_option maxRecDepth 20000 in
theorem gX6_ask_X6_in : GoodIn wsX6_ask (va_wsS RX6 43 yX6_in wsX6_in) := goodIn_app (goodIn_of _ (by decide +kernel)) ggX6_ask_X6_in
set_option maxRecDepth 20000 in
theorem ggX6_ask_X6_saves : GoodIn wsX6_ask wsX6_saves := goodIn_r _ [20, 21, 22, 23, 24, 6, 25, 1, 30, 31, 32, 33, 34, 35, 36, 37, 38, 39, 40, 41, 42, 43, 44, 45] (by decide +kernel) (by decide +kernel)
set_option maxRecDepth 20000 in
theorem gX6_ask_X6_saves : GoodIn wsX6_ask (wsV RX6 54 RX6 yX6_saves wsX6_saves) := goodIn_app (goodIn_of _ (by decide +kernel)) ggX6_ask_X6_saves
set_option maxRecDepth 20000 in
theorem ggX6_ask_X6_wayAt : GoodIn wsX6_ask wsX6_wayAt := goodIn_r _ [29] (by decide +kernel) (by decide +kernel)
set_option maxRecDepth 20000 in
theorem gX6_ask_X6_wayAt : GoodIn wsX6_ask (wsV RX6 51 RX6 yX6_wayAt wsX6_wayAt) := goodIn_app (goodIn_of _ (by decide +kernel)) ggX6_ask_X6_wayAt
theorem dX6_ask_0 : decode cX6_ask 0 = .ok (.aload_n 0, 1) := by decide +kernel
theorem dX6_ask_1 : decode cX6_ask 1 = .ok (.iload_n 1, 1) := by decide +kernel
theorem dX6_ask_2 : decode cX6_ask 2 = .ok (.invokevirtual 61, 3) := by decide +kernel
theorem dX6_ask_5 : decode cX6_ask 5 = .ok (.ifCond .ne 7, 3) := by decide +kernel
theorem dX6_ask_8 : decode cX6_ask 8 = .ok (.sipush (-1001), 3) := by decide +kernel
theorem dX6_ask_11 : decode cX6_ask 11 = .ok (.ireturn, 1) := by decide +kernel
theorem dX6_ask_12 : decode cX6_ask 12 = .ok (.iload_n 2, 1) := by decide +kernel
theorem dX6_ask_13 : decode cX6_ask 13 = .ok (.invokestatic 75, 3) := by decide +kernel
theorem dX6_ask_16 : decode cX6_ask 16 = .ok (.ifCond .eq 37, 3) := by decide +kernel
theorem dX6_ask_19 : decode cX6_ask 19 = .ok (.iload_n 3, 1) := by decide +kernel
theorem dX6_ask_20 : decode cX6_ask 20 = .ok (.invokestatic 78, 3) := by decide +kernel
theorem dX6_ask_23 : decode cX6_ask 23 = .ok (.ifCond .eq 30, 3) := by decide +kernel
theorem dX6_ask_26 : decode cX6_ask 26 = .ok (.iload 4, 2) := by decide +kernel
theorem dX6_ask_28 : decode cX6_ask 28 = .ok (.iload_n 3, 1) := by decide +kernel
theorem dX6_ask_29 : decode cX6_ask 29 = .ok (.bipush 100, 2) := by decide +kernel
theorem dX6_ask_31 : decode cX6_ask 31 = .ok (.invokestatic 43, 3) := by decide +kernel
theorem dX6_ask_34 : decode cX6_ask 34 = .ok (.ifCond .eq 19, 3) := by decide +kernel
theorem dX6_ask_37 : decode cX6_ask 37 = .ok (.iload 5, 2) := by decide +kernel
theorem dX6_ask_39 : decode cX6_ask 39 = .ok (.aload_n 0, 1) := by decide +kernel
theorem dX6_ask_40 : decode cX6_ask 40 = .ok (.getfield 7, 3) := by decide +kernel
theorem dX6_ask_43 : decode cX6_ask 43 = .ok (.iconst 5, 1) := by decide +kernel
theorem dX6_ask_44 : decode cX6_ask 44 = .ok (.iaload, 1) := by decide +kernel
theorem dX6_ask_45 : decode cX6_ask 45 = .ok (.ldc 90, 2) := by decide +kernel
theorem dX6_ask_47 : decode cX6_ask 47 = .ok (.invokestatic 43, 3) := by decide +kernel
theorem dX6_ask_50 : decode cX6_ask 50 = .ok (.ifCond .ne 7, 3) := by decide +kernel
theorem dX6_ask_53 : decode cX6_ask 53 = .ok (.sipush (-1002), 3) := by decide +kernel
theorem dX6_ask_56 : decode cX6_ask 56 = .ok (.ireturn, 1) := by decide +kernel
theorem dX6_ask_57 : decode cX6_ask 57 = .ok (.aload_n 0, 1) := by decide +kernel
theorem dX6_ask_58 : decode cX6_ask 58 = .ok (.getfield 7, 3) := by decide +kernel
theorem dX6_ask_61 : decode cX6_ask 61 = .ok (.iconst 3, 1) := by decide +kernel
theorem dX6_ask_62 : decode cX6_ask 62 = .ok (.iaload, 1) := by decide +kernel
theorem dX6_ask_63 : decode cX6_ask 63 = .ok (.iconst 5, 1) := by decide +kernel
theorem dX6_ask_64 : decode cX6_ask 64 = .ok (.if_icmp .ne 7, 3) := by decide +kernel
theorem dX6_ask_67 : decode cX6_ask 67 = .ok (.sipush (-1004), 3) := by decide +kernel
theorem dX6_ask_70 : decode cX6_ask 70 = .ok (.ireturn, 1) := by decide +kernel
theorem dX6_ask_71 : decode cX6_ask 71 = .ok (.aload_n 0, 1) := by decide +kernel
theorem dX6_ask_72 : decode cX6_ask 72 = .ok (.invokevirtual 54, 3) := by decide +kernel
theorem dX6_ask_75 : decode cX6_ask 75 = .ok (.aload_n 0, 1) := by decide +kernel
theorem dX6_ask_76 : decode cX6_ask 76 = .ok (.getfield 7, 3) := by decide +kernel
theorem dX6_ask_79 : decode cX6_ask 79 = .ok (.iconst 3, 1) := by decide +kernel
theorem dX6_ask_80 : decode cX6_ask 80 = .ok (.iaload, 1) := by decide +kernel
theorem dX6_ask_81 : decode cX6_ask 81 = .ok (.istore 6, 2) := by decide +kernel
theorem dX6_ask_83 : decode cX6_ask 83 = .ok (.bipush 100, 2) := by decide +kernel
theorem dX6_ask_85 : decode cX6_ask 85 = .ok (.bipush 7, 2) := by decide +kernel
theorem dX6_ask_87 : decode cX6_ask 87 = .ok (.iload 6, 2) := by decide +kernel
theorem dX6_ask_89 : decode cX6_ask 89 = .ok (.imul, 1) := by decide +kernel
theorem dX6_ask_90 : decode cX6_ask 90 = .ok (.iadd, 1) := by decide +kernel
theorem dX6_ask_91 : decode cX6_ask 91 = .ok (.istore 7, 2) := by decide +kernel
theorem dX6_ask_93 : decode cX6_ask 93 = .ok (.aload_n 0, 1) := by decide +kernel
theorem dX6_ask_94 : decode cX6_ask 94 = .ok (.getfield 7, 3) := by decide +kernel
theorem dX6_ask_97 : decode cX6_ask 97 = .ok (.iload 7, 2) := by decide +kernel
theorem dX6_ask_99 : decode cX6_ask 99 = .ok (.iload_n 1, 1) := by decide +kernel
theorem dX6_ask_100 : decode cX6_ask 100 = .ok (.iastore, 1) := by decide +kernel
theorem dX6_ask_101 : decode cX6_ask 101 = .ok (.aload_n 0, 1) := by decide +kernel
theorem dX6_ask_102 : decode cX6_ask 102 = .ok (.getfield 7, 3) := by decide +kernel
theorem dX6_ask_105 : decode cX6_ask 105 = .ok (.iload 7, 2) := by decide +kernel
theorem dX6_ask_107 : decode cX6_ask 107 = .ok (.iconst 1, 1) := by decide +kernel
theorem dX6_ask_108 : decode cX6_ask 108 = .ok (.iadd, 1) := by decide +kernel
theorem dX6_ask_109 : decode cX6_ask 109 = .ok (.iload_n 2, 1) := by decide +kernel
theorem dX6_ask_110 : decode cX6_ask 110 = .ok (.iastore, 1) := by decide +kernel
theorem dX6_ask_111 : decode cX6_ask 111 = .ok (.aload_n 0, 1) := by decide +kernel
theorem dX6_ask_112 : decode cX6_ask 112 = .ok (.getfield 7, 3) := by decide +kernel
theorem dX6_ask_115 : decode cX6_ask 115 = .ok (.iload 7, 2) := by decide +kernel
theorem dX6_ask_117 : decode cX6_ask 117 = .ok (.iconst 2, 1) := by decide +kernel
theorem dX6_ask_118 : decode cX6_ask 118 = .ok (.iadd, 1) := by decide +kernel
theorem dX6_ask_119 : decode cX6_ask 119 = .ok (.iload_n 3, 1) := by decide +kernel
theorem dX6_ask_120 : decode cX6_ask 120 = .ok (.iastore, 1) := by decide +kernel
theorem dX6_ask_121 : decode cX6_ask 121 = .ok (.aload_n 0, 1) := by decide +kernel
theorem dX6_ask_122 : decode cX6_ask 122 = .ok (.getfield 7, 3) := by decide +kernel
theorem dX6_ask_125 : decode cX6_ask 125 = .ok (.iload 7, 2) := by decide +kernel
theorem dX6_ask_127 : decode cX6_ask 127 = .ok (.iconst 3, 1) := by decide +kernel
theorem dX6_ask_128 : decode cX6_ask 128 = .ok (.iadd, 1) := by decide +kernel
theorem dX6_ask_129 : decode cX6_ask 129 = .ok (.iload 4, 2) := by decide +kernel
theorem dX6_ask_131 : decode cX6_ask 131 = .ok (.iastore, 1) := by decide +kernel
theorem dX6_ask_132 : decode cX6_ask 132 = .ok (.aload_n 0, 1) := by decide +kernel
theorem dX6_ask_133 : decode cX6_ask 133 = .ok (.getfield 7, 3) := by decide +kernel
theorem dX6_ask_136 : decode cX6_ask 136 = .ok (.iload 7, 2) := by decide +kernel
theorem dX6_ask_138 : decode cX6_ask 138 = .ok (.iconst 4, 1) := by decide +kernel
theorem dX6_ask_139 : decode cX6_ask 139 = .ok (.iadd, 1) := by decide +kernel
theorem dX6_ask_140 : decode cX6_ask 140 = .ok (.iload 5, 2) := by decide +kernel
theorem dX6_ask_142 : decode cX6_ask 142 = .ok (.iastore, 1) := by decide +kernel
theorem dX6_ask_143 : decode cX6_ask 143 = .ok (.aload_n 0, 1) := by decide +kernel
theorem dX6_ask_144 : decode cX6_ask 144 = .ok (.getfield 7, 3) := by decide +kernel
theorem dX6_ask_147 : decode cX6_ask 147 = .ok (.iload 7, 2) := by decide +kernel
theorem dX6_ask_149 : decode cX6_ask 149 = .ok (.iconst 5, 1) := by decide +kernel
theorem dX6_ask_150 : decode cX6_ask 150 = .ok (.iadd, 1) := by decide +kernel
theorem dX6_ask_151 : decode cX6_ask 151 = .ok (.iconst 0, 1) := by decide +kernel
theorem dX6_ask_152 : decode cX6_ask 152 = .ok (.iastore, 1) := by decide +kernel
theorem dX6_ask_153 : decode cX6_ask 153 = .ok (.aload_n 0, 1) := by decide +kernel
theorem dX6_ask_154 : decode cX6_ask 154 = .ok (.getfield 7, 3) := by decide +kernel
theorem dX6_ask_157 : decode cX6_ask 157 = .ok (.iload 7, 2) := by decide +kernel
theorem dX6_ask_159 : decode cX6_ask 159 = .ok (.bipush 6, 2) := by decide +kernel
theorem dX6_ask_161 : decode cX6_ask 161 = .ok (.iadd, 1) := by decide +kernel
theorem dX6_ask_162 : decode cX6_ask 162 = .ok (.iconst 0, 1) := by decide +kernel
theorem dX6_ask_163 : decode cX6_ask 163 = .ok (.iastore, 1) := by decide +kernel
theorem dX6_ask_164 : decode cX6_ask 164 = .ok (.iconst 0, 1) := by decide +kernel
theorem dX6_ask_165 : decode cX6_ask 165 = .ok (.istore 8, 2) := by decide +kernel
theorem dX6_ask_167 : decode cX6_ask 167 = .ok (.iload 8, 2) := by decide +kernel
theorem dX6_ask_169 : decode cX6_ask 169 = .ok (.bipush 6, 2) := by decide +kernel
theorem dX6_ask_171 : decode cX6_ask 171 = .ok (.if_icmp .ge 23, 3) := by decide +kernel
theorem dX6_ask_174 : decode cX6_ask 174 = .ok (.aload_n 0, 1) := by decide +kernel
theorem dX6_ask_175 : decode cX6_ask 175 = .ok (.getfield 7, 3) := by decide +kernel
theorem dX6_ask_178 : decode cX6_ask 178 = .ok (.aload_n 0, 1) := by decide +kernel
theorem dX6_ask_179 : decode cX6_ask 179 = .ok (.iload 6, 2) := by decide +kernel
theorem dX6_ask_181 : decode cX6_ask 181 = .ok (.iload 8, 2) := by decide +kernel
theorem dX6_ask_183 : decode cX6_ask 183 = .ok (.invokevirtual 51, 3) := by decide +kernel
theorem dX6_ask_186 : decode cX6_ask 186 = .ok (.iconst 0, 1) := by decide +kernel
theorem dX6_ask_187 : decode cX6_ask 187 = .ok (.iastore, 1) := by decide +kernel
theorem dX6_ask_188 : decode cX6_ask 188 = .ok (.iinc 8 1, 3) := by decide +kernel
theorem dX6_ask_191 : decode cX6_ask 191 = .ok (.goto (-24), 3) := by decide +kernel
theorem dX6_ask_194 : decode cX6_ask 194 = .ok (.aload_n 0, 1) := by decide +kernel
theorem dX6_ask_195 : decode cX6_ask 195 = .ok (.getfield 7, 3) := by decide +kernel
theorem dX6_ask_198 : decode cX6_ask 198 = .ok (.iconst 3, 1) := by decide +kernel
theorem dX6_ask_199 : decode cX6_ask 199 = .ok (.dup2, 1) := by decide +kernel
theorem dX6_ask_200 : decode cX6_ask 200 = .ok (.iaload, 1) := by decide +kernel
theorem dX6_ask_201 : decode cX6_ask 201 = .ok (.iconst 1, 1) := by decide +kernel
theorem dX6_ask_202 : decode cX6_ask 202 = .ok (.iadd, 1) := by decide +kernel
theorem dX6_ask_203 : decode cX6_ask 203 = .ok (.iastore, 1) := by decide +kernel
theorem dX6_ask_204 : decode cX6_ask 204 = .ok (.iload 6, 2) := by decide +kernel
theorem dX6_ask_206 : decode cX6_ask 206 = .ok (.ireturn, 1) := by decide +kernel
set_option maxRecDepth 20000 in
theorem ggX6_removes_X6_wayAt : GoodIn wsX6_removes wsX6_wayAt := goodIn_r _ [6] (by decide +kernel) (by decide +kernel)
set_option maxRecDepth 20000 in
theorem gX6_removes_X6_wayAt : GoodIn wsX6_removes (wsV RX6 51 RX6 yX6_wayAt wsX6_wayAt) := goodIn_app (goodIn_of _ (by decide +kernel)) ggX6_removes_X6_wayAt
theorem dX6_removes_0 : decode cX6_removes 0 = .ok (.aload_n 0, 1) := by decide +kernel
theorem dX6_removes_1 : decode cX6_removes 1 = .ok (.getfield 7, 3) := by decide +kernel
theorem dX6_removes_4 : decode cX6_removes 4 = .ok (.iconst 3, 1) := by decide +kernel
theorem dX6_removes_5 : decode cX6_removes 5 = .ok (.dup2, 1) := by decide +kernel
theorem dX6_removes_6 : decode cX6_removes 6 = .ok (.iaload, 1) := by decide +kernel
theorem dX6_removes_7 : decode cX6_removes 7 = .ok (.iconst 1, 1) := by decide +kernel
theorem dX6_removes_8 : decode cX6_removes 8 = .ok (.isub, 1) := by decide +kernel
theorem dX6_removes_9 : decode cX6_removes 9 = .ok (.iastore, 1) := by decide +kernel
theorem dX6_removes_10 : decode cX6_removes 10 = .ok (.bipush 7, 2) := by decide +kernel
theorem dX6_removes_12 : decode cX6_removes 12 = .ok (.iload_n 1, 1) := by decide +kernel
theorem dX6_removes_13 : decode cX6_removes 13 = .ok (.imul, 1) := by decide +kernel
theorem dX6_removes_14 : decode cX6_removes 14 = .ok (.istore_n 2, 1) := by decide +kernel
theorem dX6_removes_15 : decode cX6_removes 15 = .ok (.iload_n 2, 1) := by decide +kernel
theorem dX6_removes_16 : decode cX6_removes 16 = .ok (.bipush 7, 2) := by decide +kernel
theorem dX6_removes_18 : decode cX6_removes 18 = .ok (.aload_n 0, 1) := by decide +kernel
theorem dX6_removes_19 : decode cX6_removes 19 = .ok (.getfield 7, 3) := by decide +kernel
theorem dX6_removes_22 : decode cX6_removes 22 = .ok (.iconst 3, 1) := by decide +kernel
theorem dX6_removes_23 : decode cX6_removes 23 = .ok (.iaload, 1) := by decide +kernel
theorem dX6_removes_24 : decode cX6_removes 24 = .ok (.imul, 1) := by decide +kernel
theorem dX6_removes_25 : decode cX6_removes 25 = .ok (.if_icmp .ge 30, 3) := by decide +kernel
theorem dX6_removes_28 : decode cX6_removes 28 = .ok (.aload_n 0, 1) := by decide +kernel
theorem dX6_removes_29 : decode cX6_removes 29 = .ok (.getfield 7, 3) := by decide +kernel
theorem dX6_removes_32 : decode cX6_removes 32 = .ok (.bipush 100, 2) := by decide +kernel
theorem dX6_removes_34 : decode cX6_removes 34 = .ok (.iload_n 2, 1) := by decide +kernel
theorem dX6_removes_35 : decode cX6_removes 35 = .ok (.iadd, 1) := by decide +kernel
theorem dX6_removes_36 : decode cX6_removes 36 = .ok (.aload_n 0, 1) := by decide +kernel
theorem dX6_removes_37 : decode cX6_removes 37 = .ok (.getfield 7, 3) := by decide +kernel
theorem dX6_removes_40 : decode cX6_removes 40 = .ok (.bipush 100, 2) := by decide +kernel
theorem dX6_removes_42 : decode cX6_removes 42 = .ok (.iload_n 2, 1) := by decide +kernel
theorem dX6_removes_43 : decode cX6_removes 43 = .ok (.iadd, 1) := by decide +kernel
theorem dX6_removes_44 : decode cX6_removes 44 = .ok (.bipush 7, 2) := by decide +kernel
theorem dX6_removes_46 : decode cX6_removes 46 = .ok (.iadd, 1) := by decide +kernel
theorem dX6_removes_47 : decode cX6_removes 47 = .ok (.iaload, 1) := by decide +kernel
theorem dX6_removes_48 : decode cX6_removes 48 = .ok (.iastore, 1) := by decide +kernel
theorem dX6_removes_49 : decode cX6_removes 49 = .ok (.iinc 2 1, 3) := by decide +kernel
theorem dX6_removes_52 : decode cX6_removes 52 = .ok (.goto (-37), 3) := by decide +kernel
theorem dX6_removes_55 : decode cX6_removes 55 = .ok (.aload_n 0, 1) := by decide +kernel
theorem dX6_removes_56 : decode cX6_removes 56 = .ok (.iload_n 1, 1) := by decide +kernel
theorem dX6_removes_57 : decode cX6_removes 57 = .ok (.iconst 0, 1) := by decide +kernel
theorem dX6_removes_58 : decode cX6_removes 58 = .ok (.invokevirtual 51, 3) := by decide +kernel
theorem dX6_removes_61 : decode cX6_removes 61 = .ok (.istore_n 2, 1) := by decide +kernel
theorem dX6_removes_62 : decode cX6_removes 62 = .ok (.iload_n 2, 1) := by decide +kernel
theorem dX6_removes_63 : decode cX6_removes 63 = .ok (.aload_n 0, 1) := by decide +kernel
theorem dX6_removes_64 : decode cX6_removes 64 = .ok (.aload_n 0, 1) := by decide +kernel
theorem dX6_removes_65 : decode cX6_removes 65 = .ok (.getfield 7, 3) := by decide +kernel
theorem dX6_removes_68 : decode cX6_removes 68 = .ok (.iconst 3, 1) := by decide +kernel
theorem dX6_removes_69 : decode cX6_removes 69 = .ok (.iaload, 1) := by decide +kernel
theorem dX6_removes_70 : decode cX6_removes 70 = .ok (.iconst 0, 1) := by decide +kernel
theorem dX6_removes_71 : decode cX6_removes 71 = .ok (.invokevirtual 51, 3) := by decide +kernel
theorem dX6_removes_74 : decode cX6_removes 74 = .ok (.if_icmp .ge 24, 3) := by decide +kernel
theorem dX6_removes_77 : decode cX6_removes 77 = .ok (.aload_n 0, 1) := by decide +kernel
theorem dX6_removes_78 : decode cX6_removes 78 = .ok (.getfield 7, 3) := by decide +kernel
theorem dX6_removes_81 : decode cX6_removes 81 = .ok (.iload_n 2, 1) := by decide +kernel
theorem dX6_removes_82 : decode cX6_removes 82 = .ok (.aload_n 0, 1) := by decide +kernel
theorem dX6_removes_83 : decode cX6_removes 83 = .ok (.getfield 7, 3) := by decide +kernel
theorem dX6_removes_86 : decode cX6_removes 86 = .ok (.iload_n 2, 1) := by decide +kernel
theorem dX6_removes_87 : decode cX6_removes 87 = .ok (.bipush 66, 2) := by decide +kernel
theorem dX6_removes_89 : decode cX6_removes 89 = .ok (.iadd, 1) := by decide +kernel
theorem dX6_removes_90 : decode cX6_removes 90 = .ok (.iaload, 1) := by decide +kernel
theorem dX6_removes_91 : decode cX6_removes 91 = .ok (.iastore, 1) := by decide +kernel
theorem dX6_removes_92 : decode cX6_removes 92 = .ok (.iinc 2 1, 3) := by decide +kernel
theorem dX6_removes_95 : decode cX6_removes 95 = .ok (.goto (-33), 3) := by decide +kernel
theorem dX6_removes_98 : decode cX6_removes 98 = .ok (.return_, 1) := by decide +kernel
set_option maxRecDepth 20000 in
theorem ggX6_withdraw_X6_isInterest : GoodIn wsX6_withdraw wsX6_isInterest := goodIn_r _ [6, 1, 7, 8, 5, 9, 27, 28, 29, 30, 31, 32, 33, 34, 35, 36, 37, 38, 39, 40, 41, 42] (by decide +kernel) (by decide +kernel)
set_option maxRecDepth 20000 in
theorem gX6_withdraw_X6_isInterest : GoodIn wsX6_withdraw (wsV RX6 91 RX6 yX6_isInterest wsX6_isInterest) := goodIn_app (goodIn_of _ (by decide +kernel)) ggX6_withdraw_X6_isInterest
set_option maxRecDepth 20000 in
theorem ggX6_withdraw_X6_saves : GoodIn wsX6_withdraw wsX6_saves := goodIn_r _ [13, 14, 15, 16, 17, 5, 18, 1, 27, 28, 29, 30, 31, 32, 33, 34, 35, 36, 37, 38, 39, 40, 41, 42] (by decide +kernel) (by decide +kernel)
set_option maxRecDepth 20000 in
theorem gX6_withdraw_X6_saves : GoodIn wsX6_withdraw (wsV RX6 54 RX6 yX6_saves wsX6_saves) := goodIn_app (goodIn_of _ (by decide +kernel)) ggX6_withdraw_X6_saves
set_option maxRecDepth 20000 in
theorem ggX6_withdraw_X6_removes : GoodIn wsX6_withdraw wsX6_removes := goodIn_r _ [22, 1, 23, 24, 25, 5, 26, 27, 28, 29, 30, 31, 32, 33, 34, 35, 36, 37, 38, 39, 40, 41, 42] (by decide +kernel) (by decide +kernel)
set_option maxRecDepth 20000 in
theorem gX6_withdraw_X6_removes : GoodIn wsX6_withdraw (wsV RX6 94 RX6 yX6_removes wsX6_removes) := goodIn_app (goodIn_of _ (by decide +kernel)) ggX6_withdraw_X6_removes
theorem dX6_withdraw_0 : decode cX6_withdraw 0 = .ok (.aload_n 0, 1) := by decide +kernel
theorem dX6_withdraw_1 : decode cX6_withdraw 1 = .ok (.iload_n 1, 1) := by decide +kernel
theorem dX6_withdraw_2 : decode cX6_withdraw 2 = .ok (.invokevirtual 91, 3) := by decide +kernel
theorem dX6_withdraw_5 : decode cX6_withdraw 5 = .ok (.ifCond .ne 7, 3) := by decide +kernel
theorem dX6_withdraw_8 : decode cX6_withdraw 8 = .ok (.sipush (-1001), 3) := by decide +kernel
theorem dX6_withdraw_11 : decode cX6_withdraw 11 = .ok (.ireturn, 1) := by decide +kernel
theorem dX6_withdraw_12 : decode cX6_withdraw 12 = .ok (.aload_n 0, 1) := by decide +kernel
theorem dX6_withdraw_13 : decode cX6_withdraw 13 = .ok (.invokevirtual 54, 3) := by decide +kernel
theorem dX6_withdraw_16 : decode cX6_withdraw 16 = .ok (.aload_n 0, 1) := by decide +kernel
theorem dX6_withdraw_17 : decode cX6_withdraw 17 = .ok (.iload_n 1, 1) := by decide +kernel
theorem dX6_withdraw_18 : decode cX6_withdraw 18 = .ok (.invokevirtual 94, 3) := by decide +kernel
theorem dX6_withdraw_21 : decode cX6_withdraw 21 = .ok (.aload_n 0, 1) := by decide +kernel
theorem dX6_withdraw_22 : decode cX6_withdraw 22 = .ok (.getfield 7, 3) := by decide +kernel
theorem dX6_withdraw_25 : decode cX6_withdraw 25 = .ok (.iconst 3, 1) := by decide +kernel
theorem dX6_withdraw_26 : decode cX6_withdraw 26 = .ok (.iaload, 1) := by decide +kernel
theorem dX6_withdraw_27 : decode cX6_withdraw 27 = .ok (.ireturn, 1) := by decide +kernel
set_option maxRecDepth 20000 in
theorem ggX6_setPeriod_X6_in : GoodIn wsX6_setPeriod wsX6_in := goodIn_r _ [5] (by decide +kernel) (by decide +kernel)
set_option maxRecDepth 20000 in
theorem gX6_setPeriod_X6_in : GoodIn wsX6_setPeriod (va_wsS RX6 43 yX6_in wsX6_in) := goodIn_app (goodIn_of _ (by decide +kernel)) ggX6_setPeriod_X6_in
set_option maxRecDepth 20000 in
theorem ggX6_setPeriod_X6_saves : GoodIn wsX6_setPeriod wsX6_saves := goodIn_r _ [9, 10, 11, 12, 13, 4, 14, 1, 15, 16, 17, 18, 19, 20, 21, 22, 23, 24, 25, 26, 27, 28, 29, 30] (by decide +kernel) (by decide +kernel)
set_option maxRecDepth 20000 in
theorem gX6_setPeriod_X6_saves : GoodIn wsX6_setPeriod (wsV RX6 54 RX6 yX6_saves wsX6_saves) := goodIn_app (goodIn_of _ (by decide +kernel)) ggX6_setPeriod_X6_saves
theorem dX6_setPeriod_0 : decode cX6_setPeriod 0 = .ok (.iload_n 1, 1) := by decide +kernel
theorem dX6_setPeriod_1 : decode cX6_setPeriod 1 = .ok (.iconst 1, 1) := by decide +kernel
theorem dX6_setPeriod_2 : decode cX6_setPeriod 2 = .ok (.bipush 50, 2) := by decide +kernel
theorem dX6_setPeriod_4 : decode cX6_setPeriod 4 = .ok (.invokestatic 43, 3) := by decide +kernel
theorem dX6_setPeriod_7 : decode cX6_setPeriod 7 = .ok (.ifCond .ne 7, 3) := by decide +kernel
theorem dX6_setPeriod_10 : decode cX6_setPeriod 10 = .ok (.sipush (-1002), 3) := by decide +kernel
theorem dX6_setPeriod_13 : decode cX6_setPeriod 13 = .ok (.ireturn, 1) := by decide +kernel
theorem dX6_setPeriod_14 : decode cX6_setPeriod 14 = .ok (.aload_n 0, 1) := by decide +kernel
theorem dX6_setPeriod_15 : decode cX6_setPeriod 15 = .ok (.invokevirtual 54, 3) := by decide +kernel
theorem dX6_setPeriod_18 : decode cX6_setPeriod 18 = .ok (.aload_n 0, 1) := by decide +kernel
theorem dX6_setPeriod_19 : decode cX6_setPeriod 19 = .ok (.getfield 7, 3) := by decide +kernel
theorem dX6_setPeriod_22 : decode cX6_setPeriod 22 = .ok (.iconst 4, 1) := by decide +kernel
theorem dX6_setPeriod_23 : decode cX6_setPeriod 23 = .ok (.iaload, 1) := by decide +kernel
theorem dX6_setPeriod_24 : decode cX6_setPeriod 24 = .ok (.istore_n 2, 1) := by decide +kernel
theorem dX6_setPeriod_25 : decode cX6_setPeriod 25 = .ok (.aload_n 0, 1) := by decide +kernel
theorem dX6_setPeriod_26 : decode cX6_setPeriod 26 = .ok (.getfield 7, 3) := by decide +kernel
theorem dX6_setPeriod_29 : decode cX6_setPeriod 29 = .ok (.iconst 4, 1) := by decide +kernel
theorem dX6_setPeriod_30 : decode cX6_setPeriod 30 = .ok (.iload_n 1, 1) := by decide +kernel
theorem dX6_setPeriod_31 : decode cX6_setPeriod 31 = .ok (.iastore, 1) := by decide +kernel
theorem dX6_setPeriod_32 : decode cX6_setPeriod 32 = .ok (.iload_n 2, 1) := by decide +kernel
theorem dX6_setPeriod_33 : decode cX6_setPeriod 33 = .ok (.ireturn, 1) := by decide +kernel
set_option maxRecDepth 20000 in
theorem ggX6_living_X6_isAlive : GoodIn wsX6_living wsX6_isAlive := goodIn_r _ [6, 1, 7, 8, 9, 10, 11, 12, 13, 14, 15, 16, 17, 18, 19, 20, 21, 22] (by decide +kernel) (by decide +kernel)
set_option maxRecDepth 20000 in
theorem gX6_living_X6_isAlive : GoodIn wsX6_living (wsV RX6 97 RX6 yX6_isAlive wsX6_isAlive) := goodIn_app (goodIn_of _ (by decide +kernel)) ggX6_living_X6_isAlive
theorem dX6_living_0 : decode cX6_living 0 = .ok (.iconst 0, 1) := by decide +kernel
theorem dX6_living_1 : decode cX6_living 1 = .ok (.istore_n 1, 1) := by decide +kernel
theorem dX6_living_2 : decode cX6_living 2 = .ok (.iconst 0, 1) := by decide +kernel
theorem dX6_living_3 : decode cX6_living 3 = .ok (.istore_n 2, 1) := by decide +kernel
theorem dX6_living_4 : decode cX6_living 4 = .ok (.iload_n 2, 1) := by decide +kernel
theorem dX6_living_5 : decode cX6_living 5 = .ok (.aload_n 0, 1) := by decide +kernel
theorem dX6_living_6 : decode cX6_living 6 = .ok (.getfield 7, 3) := by decide +kernel
theorem dX6_living_9 : decode cX6_living 9 = .ok (.iconst 0, 1) := by decide +kernel
theorem dX6_living_10 : decode cX6_living 10 = .ok (.iaload, 1) := by decide +kernel
theorem dX6_living_11 : decode cX6_living 11 = .ok (.if_icmp .ge 25, 3) := by decide +kernel
theorem dX6_living_14 : decode cX6_living 14 = .ok (.iload_n 1, 1) := by decide +kernel
theorem dX6_living_15 : decode cX6_living 15 = .ok (.aload_n 0, 1) := by decide +kernel
theorem dX6_living_16 : decode cX6_living 16 = .ok (.iload_n 2, 1) := by decide +kernel
theorem dX6_living_17 : decode cX6_living 17 = .ok (.invokevirtual 97, 3) := by decide +kernel
theorem dX6_living_20 : decode cX6_living 20 = .ok (.ifCond .eq 7, 3) := by decide +kernel
theorem dX6_living_23 : decode cX6_living 23 = .ok (.iconst 1, 1) := by decide +kernel
theorem dX6_living_24 : decode cX6_living 24 = .ok (.goto 4, 3) := by decide +kernel
theorem dX6_living_27 : decode cX6_living 27 = .ok (.iconst 0, 1) := by decide +kernel
theorem dX6_living_28 : decode cX6_living 28 = .ok (.iadd, 1) := by decide +kernel
theorem dX6_living_29 : decode cX6_living 29 = .ok (.istore_n 1, 1) := by decide +kernel
theorem dX6_living_30 : decode cX6_living 30 = .ok (.iinc 2 1, 3) := by decide +kernel
theorem dX6_living_33 : decode cX6_living 33 = .ok (.goto (-29), 3) := by decide +kernel
theorem dX6_living_36 : decode cX6_living 36 = .ok (.iload_n 1, 1) := by decide +kernel
theorem dX6_living_37 : decode cX6_living 37 = .ok (.ireturn, 1) := by decide +kernel
set_option maxRecDepth 20000 in
theorem ggX6_count_X6_in : GoodIn wsX6_count wsX6_in := goodIn_r _ [5] (by decide +kernel) (by decide +kernel)
set_option maxRecDepth 20000 in
theorem gX6_count_X6_in : GoodIn wsX6_count (va_wsS RX6 43 yX6_in wsX6_in) := goodIn_app (goodIn_of _ (by decide +kernel)) ggX6_count_X6_in
set_option maxRecDepth 20000 in
theorem ggX6_count_X6_living : GoodIn wsX6_count wsX6_living := goodIn_r _ [9, 1, 10, 11, 12, 4, 13, 14, 15, 16, 17, 18, 19, 20, 21, 22, 23, 24, 25, 26, 27, 28, 29] (by decide +kernel) (by decide +kernel)
set_option maxRecDepth 20000 in
theorem gX6_count_X6_living : GoodIn wsX6_count (wsV RX6 100 RX6 yX6_living wsX6_living) := goodIn_app (goodIn_of _ (by decide +kernel)) ggX6_count_X6_living
theorem dX6_count_0 : decode cX6_count 0 = .ok (.iload_n 1, 1) := by decide +kernel
theorem dX6_count_1 : decode cX6_count 1 = .ok (.iconst 0, 1) := by decide +kernel
theorem dX6_count_2 : decode cX6_count 2 = .ok (.bipush 11, 2) := by decide +kernel
theorem dX6_count_4 : decode cX6_count 4 = .ok (.invokestatic 43, 3) := by decide +kernel
theorem dX6_count_7 : decode cX6_count 7 = .ok (.ifCond .ne 9, 3) := by decide +kernel
theorem dX6_count_10 : decode cX6_count 10 = .ok (.sipush (-1002), 3) := by decide +kernel
theorem dX6_count_13 : decode cX6_count 13 = .ok (.goto 22, 3) := by decide +kernel
theorem dX6_count_16 : decode cX6_count 16 = .ok (.iload_n 1, 1) := by decide +kernel
theorem dX6_count_17 : decode cX6_count 17 = .ok (.bipush 6, 2) := by decide +kernel
theorem dX6_count_19 : decode cX6_count 19 = .ok (.if_icmp .ne 10, 3) := by decide +kernel
theorem dX6_count_22 : decode cX6_count 22 = .ok (.aload_n 0, 1) := by decide +kernel
theorem dX6_count_23 : decode cX6_count 23 = .ok (.invokevirtual 100, 3) := by decide +kernel
theorem dX6_count_26 : decode cX6_count 26 = .ok (.goto 9, 3) := by decide +kernel
theorem dX6_count_29 : decode cX6_count 29 = .ok (.aload_n 0, 1) := by decide +kernel
theorem dX6_count_30 : decode cX6_count 30 = .ok (.getfield 7, 3) := by decide +kernel
theorem dX6_count_33 : decode cX6_count 33 = .ok (.iload_n 1, 1) := by decide +kernel
theorem dX6_count_34 : decode cX6_count 34 = .ok (.iaload, 1) := by decide +kernel
theorem dX6_count_35 : decode cX6_count 35 = .ok (.ireturn, 1) := by decide +kernel
set_option maxRecDepth 20000 in
theorem ggX6_energy_X6_isNode : GoodIn wsX6_energy wsX6_isNode := goodIn_r _ [6, 1, 7, 8, 5, 9, 10, 11, 12, 13, 14, 15, 16, 17, 18, 19, 20, 21, 22, 23, 24, 25] (by decide +kernel) (by decide +kernel)
set_option maxRecDepth 20000 in
theorem gX6_energy_X6_isNode : GoodIn wsX6_energy (wsV RX6 61 RX6 yX6_isNode wsX6_isNode) := goodIn_app (goodIn_of _ (by decide +kernel)) ggX6_energy_X6_isNode
theorem dX6_energy_0 : decode cX6_energy 0 = .ok (.aload_n 0, 1) := by decide +kernel
theorem dX6_energy_1 : decode cX6_energy 1 = .ok (.iload_n 1, 1) := by decide +kernel
theorem dX6_energy_2 : decode cX6_energy 2 = .ok (.invokevirtual 61, 3) := by decide +kernel
theorem dX6_energy_5 : decode cX6_energy 5 = .ok (.ifCond .eq 15, 3) := by decide +kernel
theorem dX6_energy_8 : decode cX6_energy 8 = .ok (.aload_n 0, 1) := by decide +kernel
theorem dX6_energy_9 : decode cX6_energy 9 = .ok (.getfield 7, 3) := by decide +kernel
theorem dX6_energy_12 : decode cX6_energy 12 = .ok (.bipush 12, 2) := by decide +kernel
theorem dX6_energy_14 : decode cX6_energy 14 = .ok (.iload_n 1, 1) := by decide +kernel
theorem dX6_energy_15 : decode cX6_energy 15 = .ok (.iadd, 1) := by decide +kernel
theorem dX6_energy_16 : decode cX6_energy 16 = .ok (.iaload, 1) := by decide +kernel
theorem dX6_energy_17 : decode cX6_energy 17 = .ok (.goto 6, 3) := by decide +kernel
theorem dX6_energy_20 : decode cX6_energy 20 = .ok (.sipush (-1001), 3) := by decide +kernel
theorem dX6_energy_23 : decode cX6_energy 23 = .ok (.ireturn, 1) := by decide +kernel
set_option maxRecDepth 20000 in
theorem ggX6_linkPart_X6_isLink : GoodIn wsX6_linkPart wsX6_isLink := goodIn_r _ [5, 6, 7, 8, 4, 9, 14, 15, 16, 17, 18, 19, 20, 21, 22, 23, 24, 25, 26, 27, 28, 29] (by decide +kernel) (by decide +kernel)
set_option maxRecDepth 20000 in
theorem gX6_linkPart_X6_isLink : GoodIn wsX6_linkPart (wsV RX6 72 RX6 yX6_isLink wsX6_isLink) := goodIn_app (goodIn_of _ (by decide +kernel)) ggX6_linkPart_X6_isLink
set_option maxRecDepth 20000 in
theorem ggX6_linkPart_X6_in : GoodIn wsX6_linkPart wsX6_in := goodIn_r _ [9] (by decide +kernel) (by decide +kernel)
set_option maxRecDepth 20000 in
theorem gX6_linkPart_X6_in : GoodIn wsX6_linkPart (va_wsS RX6 43 yX6_in wsX6_in) := goodIn_app (goodIn_of _ (by decide +kernel)) ggX6_linkPart_X6_in
set_option maxRecDepth 20000 in
theorem ggX6_linkPart_X6_ofLink : GoodIn wsX6_linkPart wsX6_ofLink := goodIn_r _ [13, 6, 14, 15, 16, 17, 18, 19, 20, 21, 22, 23, 24, 25, 26, 27, 28, 29] (by decide +kernel) (by decide +kernel)
set_option maxRecDepth 20000 in
theorem gX6_linkPart_X6_ofLink : GoodIn wsX6_linkPart (wsV RX6 47 RX6 yX6_ofLink wsX6_ofLink) := goodIn_app (goodIn_of _ (by decide +kernel)) ggX6_linkPart_X6_ofLink
theorem dX6_linkPart_0 : decode cX6_linkPart 0 = .ok (.aload_n 0, 1) := by decide +kernel
theorem dX6_linkPart_1 : decode cX6_linkPart 1 = .ok (.iload_n 1, 1) := by decide +kernel
theorem dX6_linkPart_2 : decode cX6_linkPart 2 = .ok (.invokevirtual 72, 3) := by decide +kernel
theorem dX6_linkPart_5 : decode cX6_linkPart 5 = .ok (.ifCond .ne 7, 3) := by decide +kernel
theorem dX6_linkPart_8 : decode cX6_linkPart 8 = .ok (.sipush (-1001), 3) := by decide +kernel
theorem dX6_linkPart_11 : decode cX6_linkPart 11 = .ok (.ireturn, 1) := by decide +kernel
theorem dX6_linkPart_12 : decode cX6_linkPart 12 = .ok (.iload_n 2, 1) := by decide +kernel
theorem dX6_linkPart_13 : decode cX6_linkPart 13 = .ok (.iconst 0, 1) := by decide +kernel
theorem dX6_linkPart_14 : decode cX6_linkPart 14 = .ok (.iconst 2, 1) := by decide +kernel
theorem dX6_linkPart_15 : decode cX6_linkPart 15 = .ok (.invokestatic 43, 3) := by decide +kernel
theorem dX6_linkPart_18 : decode cX6_linkPart 18 = .ok (.ifCond .eq 12, 3) := by decide +kernel
theorem dX6_linkPart_21 : decode cX6_linkPart 21 = .ok (.aload_n 0, 1) := by decide +kernel
theorem dX6_linkPart_22 : decode cX6_linkPart 22 = .ok (.iload_n 1, 1) := by decide +kernel
theorem dX6_linkPart_23 : decode cX6_linkPart 23 = .ok (.iload_n 2, 1) := by decide +kernel
theorem dX6_linkPart_24 : decode cX6_linkPart 24 = .ok (.invokevirtual 47, 3) := by decide +kernel
theorem dX6_linkPart_27 : decode cX6_linkPart 27 = .ok (.goto 6, 3) := by decide +kernel
theorem dX6_linkPart_30 : decode cX6_linkPart 30 = .ok (.sipush (-1002), 3) := by decide +kernel
theorem dX6_linkPart_33 : decode cX6_linkPart 33 = .ok (.ireturn, 1) := by decide +kernel
set_option maxRecDepth 20000 in
theorem ggX6_sensor_X6_isSensor : GoodIn wsX6_sensor wsX6_isSensor := goodIn_r _ [5, 6, 7, 8, 4, 9, 14, 15, 16, 17, 18, 19, 20, 21, 22, 23, 24, 25, 26, 27, 28, 29] (by decide +kernel) (by decide +kernel)
set_option maxRecDepth 20000 in
theorem gX6_sensor_X6_isSensor : GoodIn wsX6_sensor (wsV RX6 84 RX6 yX6_isSensor wsX6_isSensor) := goodIn_app (goodIn_of _ (by decide +kernel)) ggX6_sensor_X6_isSensor
set_option maxRecDepth 20000 in
theorem ggX6_sensor_X6_in : GoodIn wsX6_sensor wsX6_in := goodIn_r _ [9] (by decide +kernel) (by decide +kernel)
set_option maxRecDepth 20000 in
theorem gX6_sensor_X6_in : GoodIn wsX6_sensor (va_wsS RX6 43 yX6_in wsX6_in) := goodIn_app (goodIn_of _ (by decide +kernel)) ggX6_sensor_X6_in
set_option maxRecDepth 20000 in
theorem ggX6_sensor_X6_ofSensor : GoodIn wsX6_sensor wsX6_ofSensor := goodIn_r _ [13, 6, 14, 15, 16, 17, 18, 19, 20, 21, 22, 23, 24, 25, 26, 27, 28, 29] (by decide +kernel) (by decide +kernel)
set_option maxRecDepth 20000 in
theorem gX6_sensor_X6_ofSensor : GoodIn wsX6_sensor (wsV RX6 87 RX6 yX6_ofSensor wsX6_ofSensor) := goodIn_app (goodIn_of _ (by decide +kernel)) ggX6_sensor_X6_ofSensor
theorem dX6_sensor_0 : decode cX6_sensor 0 = .ok (.aload_n 0, 1) := by decide +kernel
theorem dX6_sensor_1 : decode cX6_sensor 1 = .ok (.iload_n 1, 1) := by decide +kernel
theorem dX6_sensor_2 : decode cX6_sensor 2 = .ok (.invokevirtual 84, 3) := by decide +kernel
theorem dX6_sensor_5 : decode cX6_sensor 5 = .ok (.ifCond .ne 7, 3) := by decide +kernel
theorem dX6_sensor_8 : decode cX6_sensor 8 = .ok (.sipush (-1001), 3) := by decide +kernel
theorem dX6_sensor_11 : decode cX6_sensor 11 = .ok (.ireturn, 1) := by decide +kernel
theorem dX6_sensor_12 : decode cX6_sensor 12 = .ok (.iload_n 2, 1) := by decide +kernel
theorem dX6_sensor_13 : decode cX6_sensor 13 = .ok (.iconst 0, 1) := by decide +kernel
theorem dX6_sensor_14 : decode cX6_sensor 14 = .ok (.iconst 2, 1) := by decide +kernel
theorem dX6_sensor_15 : decode cX6_sensor 15 = .ok (.invokestatic 43, 3) := by decide +kernel
theorem dX6_sensor_18 : decode cX6_sensor 18 = .ok (.ifCond .eq 12, 3) := by decide +kernel
theorem dX6_sensor_21 : decode cX6_sensor 21 = .ok (.aload_n 0, 1) := by decide +kernel
theorem dX6_sensor_22 : decode cX6_sensor 22 = .ok (.iload_n 1, 1) := by decide +kernel
theorem dX6_sensor_23 : decode cX6_sensor 23 = .ok (.iload_n 2, 1) := by decide +kernel
theorem dX6_sensor_24 : decode cX6_sensor 24 = .ok (.invokevirtual 87, 3) := by decide +kernel
theorem dX6_sensor_27 : decode cX6_sensor 27 = .ok (.goto 6, 3) := by decide +kernel
theorem dX6_sensor_30 : decode cX6_sensor 30 = .ok (.sipush (-1002), 3) := by decide +kernel
theorem dX6_sensor_33 : decode cX6_sensor 33 = .ok (.ireturn, 1) := by decide +kernel
set_option maxRecDepth 20000 in
theorem ggX6_part_X6_ofInterest : GoodIn wsX6_part wsX6_ofInterest := goodIn_r _ [6, 1, 15, 16, 17, 18, 19, 20, 21, 22, 23, 24, 25, 26, 27, 28, 29, 30] (by decide +kernel) (by decide +kernel)
set_option maxRecDepth 20000 in
theorem gX6_part_X6_ofInterest : GoodIn wsX6_part (wsV RX6 104 RX6 yX6_ofInterest wsX6_ofInterest) := goodIn_app (goodIn_of _ (by decide +kernel)) ggX6_part_X6_ofInterest
set_option maxRecDepth 20000 in
theorem ggX6_part_X6_lengthOf : GoodIn wsX6_part wsX6_lengthOf := goodIn_r _ [10, 1, 11, 12, 13, 5, 14, 15, 16, 17, 18, 19, 20, 21, 22, 23, 24, 25, 26, 27, 28, 29, 30] (by decide +kernel) (by decide +kernel)
set_option maxRecDepth 20000 in
theorem gX6_part_X6_lengthOf : GoodIn wsX6_part (wsV RX6 107 RX6 yX6_lengthOf wsX6_lengthOf) := goodIn_app (goodIn_of _ (by decide +kernel)) ggX6_part_X6_lengthOf
theorem dX6_part_0 : decode cX6_part 0 = .ok (.iload_n 2, 1) := by decide +kernel
theorem dX6_part_1 : decode cX6_part 1 = .ok (.bipush 7, 2) := by decide +kernel
theorem dX6_part_3 : decode cX6_part 3 = .ok (.if_icmp .ge 10, 3) := by decide +kernel
theorem dX6_part_6 : decode cX6_part 6 = .ok (.aload_n 0, 1) := by decide +kernel
theorem dX6_part_7 : decode cX6_part 7 = .ok (.iload_n 1, 1) := by decide +kernel
theorem dX6_part_8 : decode cX6_part 8 = .ok (.iload_n 2, 1) := by decide +kernel
theorem dX6_part_9 : decode cX6_part 9 = .ok (.invokevirtual 104, 3) := by decide +kernel
theorem dX6_part_12 : decode cX6_part 12 = .ok (.ireturn, 1) := by decide +kernel
theorem dX6_part_13 : decode cX6_part 13 = .ok (.iconst 0, 1) := by decide +kernel
theorem dX6_part_14 : decode cX6_part 14 = .ok (.istore_n 3, 1) := by decide +kernel
theorem dX6_part_15 : decode cX6_part 15 = .ok (.iconst 0, 1) := by decide +kernel
theorem dX6_part_16 : decode cX6_part 16 = .ok (.istore 4, 2) := by decide +kernel
theorem dX6_part_18 : decode cX6_part 18 = .ok (.iload 4, 2) := by decide +kernel
theorem dX6_part_20 : decode cX6_part 20 = .ok (.aload_n 0, 1) := by decide +kernel
theorem dX6_part_21 : decode cX6_part 21 = .ok (.getfield 7, 3) := by decide +kernel
theorem dX6_part_24 : decode cX6_part 24 = .ok (.iconst 2, 1) := by decide +kernel
theorem dX6_part_25 : decode cX6_part 25 = .ok (.iaload, 1) := by decide +kernel
theorem dX6_part_26 : decode cX6_part 26 = .ok (.if_icmp .ge 27, 3) := by decide +kernel
theorem dX6_part_29 : decode cX6_part 29 = .ok (.iload_n 3, 1) := by decide +kernel
theorem dX6_part_30 : decode cX6_part 30 = .ok (.aload_n 0, 1) := by decide +kernel
theorem dX6_part_31 : decode cX6_part 31 = .ok (.iload_n 1, 1) := by decide +kernel
theorem dX6_part_32 : decode cX6_part 32 = .ok (.iload 4, 2) := by decide +kernel
theorem dX6_part_34 : decode cX6_part 34 = .ok (.invokevirtual 107, 3) := by decide +kernel
theorem dX6_part_37 : decode cX6_part 37 = .ok (.ifCond .le 7, 3) := by decide +kernel
theorem dX6_part_40 : decode cX6_part 40 = .ok (.iconst 1, 1) := by decide +kernel
theorem dX6_part_41 : decode cX6_part 41 = .ok (.goto 4, 3) := by decide +kernel
theorem dX6_part_44 : decode cX6_part 44 = .ok (.iconst 0, 1) := by decide +kernel
theorem dX6_part_45 : decode cX6_part 45 = .ok (.iadd, 1) := by decide +kernel
theorem dX6_part_46 : decode cX6_part 46 = .ok (.istore_n 3, 1) := by decide +kernel
theorem dX6_part_47 : decode cX6_part 47 = .ok (.iinc 4 1, 3) := by decide +kernel
theorem dX6_part_50 : decode cX6_part 50 = .ok (.goto (-32), 3) := by decide +kernel
theorem dX6_part_53 : decode cX6_part 53 = .ok (.iload_n 3, 1) := by decide +kernel
theorem dX6_part_54 : decode cX6_part 54 = .ok (.ireturn, 1) := by decide +kernel
set_option maxRecDepth 20000 in
theorem ggX6_interest_X6_isInterest : GoodIn wsX6_interest wsX6_isInterest := goodIn_r _ [5, 6, 7, 8, 4, 9, 26, 27, 28, 29, 30, 31, 32, 33, 34, 35, 36, 37, 38, 39, 40, 41] (by decide +kernel) (by decide +kernel)
set_option maxRecDepth 20000 in
theorem gX6_interest_X6_isInterest : GoodIn wsX6_interest (wsV RX6 91 RX6 yX6_isInterest wsX6_isInterest) := goodIn_app (goodIn_of _ (by decide +kernel)) ggX6_interest_X6_isInterest
set_option maxRecDepth 20000 in
theorem ggX6_interest_X6_in : GoodIn wsX6_interest wsX6_in := goodIn_r _ [9] (by decide +kernel) (by decide +kernel)
set_option maxRecDepth 20000 in
theorem gX6_interest_X6_in : GoodIn wsX6_interest (va_wsS RX6 43 yX6_in wsX6_in) := goodIn_app (goodIn_of _ (by decide +kernel)) ggX6_interest_X6_in
set_option maxRecDepth 20000 in
theorem ggX6_interest_X6_part : GoodIn wsX6_interest wsX6_part := goodIn_r _ [13, 6, 14, 15, 16, 4, 17, 18, 19, 20, 21, 22, 23, 24, 25, 26, 27, 28, 29, 30, 31, 32, 33, 34, 35, 36, 37, 38, 39, 40, 41] (by decide +kernel) (by decide +kernel)
set_option maxRecDepth 20000 in
theorem gX6_interest_X6_part : GoodIn wsX6_interest (wsV RX6 110 RX6 yX6_part wsX6_part) := goodIn_app (goodIn_of _ (by decide +kernel)) ggX6_interest_X6_part
theorem dX6_interest_0 : decode cX6_interest 0 = .ok (.aload_n 0, 1) := by decide +kernel
theorem dX6_interest_1 : decode cX6_interest 1 = .ok (.iload_n 1, 1) := by decide +kernel
theorem dX6_interest_2 : decode cX6_interest 2 = .ok (.invokevirtual 91, 3) := by decide +kernel
theorem dX6_interest_5 : decode cX6_interest 5 = .ok (.ifCond .ne 7, 3) := by decide +kernel
theorem dX6_interest_8 : decode cX6_interest 8 = .ok (.sipush (-1001), 3) := by decide +kernel
theorem dX6_interest_11 : decode cX6_interest 11 = .ok (.ireturn, 1) := by decide +kernel
theorem dX6_interest_12 : decode cX6_interest 12 = .ok (.iload_n 2, 1) := by decide +kernel
theorem dX6_interest_13 : decode cX6_interest 13 = .ok (.iconst 0, 1) := by decide +kernel
theorem dX6_interest_14 : decode cX6_interest 14 = .ok (.bipush 7, 2) := by decide +kernel
theorem dX6_interest_16 : decode cX6_interest 16 = .ok (.invokestatic 43, 3) := by decide +kernel
theorem dX6_interest_19 : decode cX6_interest 19 = .ok (.ifCond .eq 12, 3) := by decide +kernel
theorem dX6_interest_22 : decode cX6_interest 22 = .ok (.aload_n 0, 1) := by decide +kernel
theorem dX6_interest_23 : decode cX6_interest 23 = .ok (.iload_n 1, 1) := by decide +kernel
theorem dX6_interest_24 : decode cX6_interest 24 = .ok (.iload_n 2, 1) := by decide +kernel
theorem dX6_interest_25 : decode cX6_interest 25 = .ok (.invokevirtual 110, 3) := by decide +kernel
theorem dX6_interest_28 : decode cX6_interest 28 = .ok (.goto 6, 3) := by decide +kernel
theorem dX6_interest_31 : decode cX6_interest 31 = .ok (.sipush (-1002), 3) := by decide +kernel
theorem dX6_interest_34 : decode cX6_interest 34 = .ok (.ireturn, 1) := by decide +kernel
set_option maxRecDepth 20000 in
theorem ggX6_looksAlive_X6_isAlive : GoodIn wsX6_looksAlive wsX6_isAlive := goodIn_r _ [7, 2, 8, 9, 10, 11, 12, 13, 14, 15, 16, 17, 18, 19, 20, 21, 22, 23] (by decide +kernel) (by decide +kernel)
set_option maxRecDepth 20000 in
theorem gX6_looksAlive_X6_isAlive : GoodIn wsX6_looksAlive (wsV RX6 97 RX6 yX6_isAlive wsX6_isAlive) := goodIn_app (goodIn_of _ (by decide +kernel)) ggX6_looksAlive_X6_isAlive
theorem dX6_looksAlive_0 : decode cX6_looksAlive 0 = .ok (.iconst 0, 1) := by decide +kernel
theorem dX6_looksAlive_1 : decode cX6_looksAlive 1 = .ok (.istore_n 1, 1) := by decide +kernel
theorem dX6_looksAlive_2 : decode cX6_looksAlive 2 = .ok (.iload_n 1, 1) := by decide +kernel
theorem dX6_looksAlive_3 : decode cX6_looksAlive 3 = .ok (.bipush 10, 2) := by decide +kernel
theorem dX6_looksAlive_5 : decode cX6_looksAlive 5 = .ok (.if_icmp .ge 38, 3) := by decide +kernel
theorem dX6_looksAlive_8 : decode cX6_looksAlive 8 = .ok (.aload_n 0, 1) := by decide +kernel
theorem dX6_looksAlive_9 : decode cX6_looksAlive 9 = .ok (.getfield 16, 3) := by decide +kernel
theorem dX6_looksAlive_12 : decode cX6_looksAlive 12 = .ok (.iload_n 1, 1) := by decide +kernel
theorem dX6_looksAlive_13 : decode cX6_looksAlive 13 = .ok (.iload_n 1, 1) := by decide +kernel
theorem dX6_looksAlive_14 : decode cX6_looksAlive 14 = .ok (.aload_n 0, 1) := by decide +kernel
theorem dX6_looksAlive_15 : decode cX6_looksAlive 15 = .ok (.getfield 7, 3) := by decide +kernel
theorem dX6_looksAlive_18 : decode cX6_looksAlive 18 = .ok (.iconst 0, 1) := by decide +kernel
theorem dX6_looksAlive_19 : decode cX6_looksAlive 19 = .ok (.iaload, 1) := by decide +kernel
theorem dX6_looksAlive_20 : decode cX6_looksAlive 20 = .ok (.if_icmp .ge 15, 3) := by decide +kernel
theorem dX6_looksAlive_23 : decode cX6_looksAlive 23 = .ok (.aload_n 0, 1) := by decide +kernel
theorem dX6_looksAlive_24 : decode cX6_looksAlive 24 = .ok (.iload_n 1, 1) := by decide +kernel
theorem dX6_looksAlive_25 : decode cX6_looksAlive 25 = .ok (.invokevirtual 97, 3) := by decide +kernel
theorem dX6_looksAlive_28 : decode cX6_looksAlive 28 = .ok (.ifCond .eq 7, 3) := by decide +kernel
theorem dX6_looksAlive_31 : decode cX6_looksAlive 31 = .ok (.iconst 1, 1) := by decide +kernel
theorem dX6_looksAlive_32 : decode cX6_looksAlive 32 = .ok (.goto 4, 3) := by decide +kernel
theorem dX6_looksAlive_35 : decode cX6_looksAlive 35 = .ok (.iconst 0, 1) := by decide +kernel
theorem dX6_looksAlive_36 : decode cX6_looksAlive 36 = .ok (.bastore, 1) := by decide +kernel
theorem dX6_looksAlive_37 : decode cX6_looksAlive 37 = .ok (.iinc 1 1, 3) := by decide +kernel
theorem dX6_looksAlive_40 : decode cX6_looksAlive 40 = .ok (.goto (-38), 3) := by decide +kernel
theorem dX6_looksAlive_43 : decode cX6_looksAlive 43 = .ok (.return_, 1) := by decide +kernel
set_option maxRecDepth 20000 in
theorem ggX6_reaches_X6_ofLink : GoodIn wsX6_reaches wsX6_ofLink := goodIn_r _ [9, 4, 10, 11, 12, 13, 14, 15, 16, 17, 18, 19, 20, 21, 22, 23, 24, 25] (by decide +kernel) (by decide +kernel)
set_option maxRecDepth 20000 in
theorem gX6_reaches_X6_ofLink : GoodIn wsX6_reaches (wsV RX6 47 RX6 yX6_ofLink wsX6_ofLink) := goodIn_app (goodIn_of _ (by decide +kernel)) ggX6_reaches_X6_ofLink
theorem dX6_reaches_0 : decode cX6_reaches 0 = .ok (.iconst 0, 1) := by decide +kernel
theorem dX6_reaches_1 : decode cX6_reaches 1 = .ok (.istore_n 2, 1) := by decide +kernel
theorem dX6_reaches_2 : decode cX6_reaches 2 = .ok (.iload_n 2, 1) := by decide +kernel
theorem dX6_reaches_3 : decode cX6_reaches 3 = .ok (.bipush 10, 2) := by decide +kernel
theorem dX6_reaches_5 : decode cX6_reaches 5 = .ok (.if_icmp .ge 43, 3) := by decide +kernel
theorem dX6_reaches_8 : decode cX6_reaches 8 = .ok (.aload_n 0, 1) := by decide +kernel
theorem dX6_reaches_9 : decode cX6_reaches 9 = .ok (.getfield 13, 3) := by decide +kernel
theorem dX6_reaches_12 : decode cX6_reaches 12 = .ok (.iload_n 2, 1) := by decide +kernel
theorem dX6_reaches_13 : decode cX6_reaches 13 = .ok (.iload_n 2, 1) := by decide +kernel
theorem dX6_reaches_14 : decode cX6_reaches 14 = .ok (.iload_n 1, 1) := by decide +kernel
theorem dX6_reaches_15 : decode cX6_reaches 15 = .ok (.if_icmp .ne 16, 3) := by decide +kernel
theorem dX6_reaches_18 : decode cX6_reaches 18 = .ok (.aload_n 0, 1) := by decide +kernel
theorem dX6_reaches_19 : decode cX6_reaches 19 = .ok (.getfield 16, 3) := by decide +kernel
theorem dX6_reaches_22 : decode cX6_reaches 22 = .ok (.iload_n 2, 1) := by decide +kernel
theorem dX6_reaches_23 : decode cX6_reaches 23 = .ok (.baload, 1) := by decide +kernel
theorem dX6_reaches_24 : decode cX6_reaches 24 = .ok (.ifCond .eq 7, 3) := by decide +kernel
theorem dX6_reaches_27 : decode cX6_reaches 27 = .ok (.iconst 0, 1) := by decide +kernel
theorem dX6_reaches_28 : decode cX6_reaches 28 = .ok (.goto 6, 3) := by decide +kernel
theorem dX6_reaches_31 : decode cX6_reaches 31 = .ok (.sipush (-1000), 3) := by decide +kernel
theorem dX6_reaches_34 : decode cX6_reaches 34 = .ok (.iastore, 1) := by decide +kernel
theorem dX6_reaches_35 : decode cX6_reaches 35 = .ok (.aload_n 0, 1) := by decide +kernel
theorem dX6_reaches_36 : decode cX6_reaches 36 = .ok (.getfield 20, 3) := by decide +kernel
theorem dX6_reaches_39 : decode cX6_reaches 39 = .ok (.iload_n 2, 1) := by decide +kernel
theorem dX6_reaches_40 : decode cX6_reaches 40 = .ok (.iconst 0, 1) := by decide +kernel
theorem dX6_reaches_41 : decode cX6_reaches 41 = .ok (.bastore, 1) := by decide +kernel
theorem dX6_reaches_42 : decode cX6_reaches 42 = .ok (.iinc 2 1, 3) := by decide +kernel
theorem dX6_reaches_45 : decode cX6_reaches 45 = .ok (.goto (-43), 3) := by decide +kernel
theorem dX6_reaches_48 : decode cX6_reaches 48 = .ok (.aload_n 0, 1) := by decide +kernel
theorem dX6_reaches_49 : decode cX6_reaches 49 = .ok (.getfield 16, 3) := by decide +kernel
theorem dX6_reaches_52 : decode cX6_reaches 52 = .ok (.iload_n 1, 1) := by decide +kernel
theorem dX6_reaches_53 : decode cX6_reaches 53 = .ok (.baload, 1) := by decide +kernel
theorem dX6_reaches_54 : decode cX6_reaches 54 = .ok (.ifCond .eq 7, 3) := by decide +kernel
theorem dX6_reaches_57 : decode cX6_reaches 57 = .ok (.iload_n 1, 1) := by decide +kernel
theorem dX6_reaches_58 : decode cX6_reaches 58 = .ok (.goto 6, 3) := by decide +kernel
theorem dX6_reaches_61 : decode cX6_reaches 61 = .ok (.sipush (-1000), 3) := by decide +kernel
theorem dX6_reaches_64 : decode cX6_reaches 64 = .ok (.istore_n 2, 1) := by decide +kernel
theorem dX6_reaches_65 : decode cX6_reaches 65 = .ok (.iload_n 2, 1) := by decide +kernel
theorem dX6_reaches_66 : decode cX6_reaches 66 = .ok (.sipush (-1000), 3) := by decide +kernel
theorem dX6_reaches_69 : decode cX6_reaches 69 = .ok (.if_icmp .eq 218, 3) := by decide +kernel
theorem dX6_reaches_72 : decode cX6_reaches 72 = .ok (.aload_n 0, 1) := by decide +kernel
theorem dX6_reaches_73 : decode cX6_reaches 73 = .ok (.getfield 20, 3) := by decide +kernel
theorem dX6_reaches_76 : decode cX6_reaches 76 = .ok (.iload_n 2, 1) := by decide +kernel
theorem dX6_reaches_77 : decode cX6_reaches 77 = .ok (.iconst 1, 1) := by decide +kernel
theorem dX6_reaches_78 : decode cX6_reaches 78 = .ok (.bastore, 1) := by decide +kernel
theorem dX6_reaches_79 : decode cX6_reaches 79 = .ok (.iconst 0, 1) := by decide +kernel
theorem dX6_reaches_80 : decode cX6_reaches 80 = .ok (.istore_n 3, 1) := by decide +kernel
theorem dX6_reaches_81 : decode cX6_reaches 81 = .ok (.iload_n 3, 1) := by decide +kernel
theorem dX6_reaches_82 : decode cX6_reaches 82 = .ok (.aload_n 0, 1) := by decide +kernel
theorem dX6_reaches_83 : decode cX6_reaches 83 = .ok (.getfield 7, 3) := by decide +kernel
theorem dX6_reaches_86 : decode cX6_reaches 86 = .ok (.iconst 1, 1) := by decide +kernel
theorem dX6_reaches_87 : decode cX6_reaches 87 = .ok (.iaload, 1) := by decide +kernel
theorem dX6_reaches_88 : decode cX6_reaches 88 = .ok (.if_icmp .ge 125, 3) := by decide +kernel
theorem dX6_reaches_91 : decode cX6_reaches 91 = .ok (.aload_n 0, 1) := by decide +kernel
theorem dX6_reaches_92 : decode cX6_reaches 92 = .ok (.iload_n 3, 1) := by decide +kernel
theorem dX6_reaches_93 : decode cX6_reaches 93 = .ok (.iconst 0, 1) := by decide +kernel
theorem dX6_reaches_94 : decode cX6_reaches 94 = .ok (.invokevirtual 47, 3) := by decide +kernel
theorem dX6_reaches_97 : decode cX6_reaches 97 = .ok (.iload_n 2, 1) := by decide +kernel
theorem dX6_reaches_98 : decode cX6_reaches 98 = .ok (.if_icmp .ne 12, 3) := by decide +kernel
theorem dX6_reaches_101 : decode cX6_reaches 101 = .ok (.aload_n 0, 1) := by decide +kernel
theorem dX6_reaches_102 : decode cX6_reaches 102 = .ok (.iload_n 3, 1) := by decide +kernel
theorem dX6_reaches_103 : decode cX6_reaches 103 = .ok (.iconst 1, 1) := by decide +kernel
theorem dX6_reaches_104 : decode cX6_reaches 104 = .ok (.invokevirtual 47, 3) := by decide +kernel
theorem dX6_reaches_107 : decode cX6_reaches 107 = .ok (.goto 23, 3) := by decide +kernel
theorem dX6_reaches_110 : decode cX6_reaches 110 = .ok (.aload_n 0, 1) := by decide +kernel
theorem dX6_reaches_111 : decode cX6_reaches 111 = .ok (.iload_n 3, 1) := by decide +kernel
theorem dX6_reaches_112 : decode cX6_reaches 112 = .ok (.iconst 1, 1) := by decide +kernel
theorem dX6_reaches_113 : decode cX6_reaches 113 = .ok (.invokevirtual 47, 3) := by decide +kernel
theorem dX6_reaches_116 : decode cX6_reaches 116 = .ok (.iload_n 2, 1) := by decide +kernel
theorem dX6_reaches_117 : decode cX6_reaches 117 = .ok (.if_icmp .ne 12, 3) := by decide +kernel
theorem dX6_reaches_120 : decode cX6_reaches 120 = .ok (.aload_n 0, 1) := by decide +kernel
theorem dX6_reaches_121 : decode cX6_reaches 121 = .ok (.iload_n 3, 1) := by decide +kernel
theorem dX6_reaches_122 : decode cX6_reaches 122 = .ok (.iconst 0, 1) := by decide +kernel
theorem dX6_reaches_123 : decode cX6_reaches 123 = .ok (.invokevirtual 47, 3) := by decide +kernel
theorem dX6_reaches_126 : decode cX6_reaches 126 = .ok (.goto 4, 3) := by decide +kernel
theorem dX6_reaches_129 : decode cX6_reaches 129 = .ok (.iload_n 2, 1) := by decide +kernel
theorem dX6_reaches_130 : decode cX6_reaches 130 = .ok (.istore 4, 2) := by decide +kernel
theorem dX6_reaches_132 : decode cX6_reaches 132 = .ok (.aload_n 0, 1) := by decide +kernel
theorem dX6_reaches_133 : decode cX6_reaches 133 = .ok (.getfield 13, 3) := by decide +kernel
theorem dX6_reaches_136 : decode cX6_reaches 136 = .ok (.iload_n 2, 1) := by decide +kernel
theorem dX6_reaches_137 : decode cX6_reaches 137 = .ok (.iaload, 1) := by decide +kernel
theorem dX6_reaches_138 : decode cX6_reaches 138 = .ok (.aload_n 0, 1) := by decide +kernel
theorem dX6_reaches_139 : decode cX6_reaches 139 = .ok (.iload_n 3, 1) := by decide +kernel
theorem dX6_reaches_140 : decode cX6_reaches 140 = .ok (.iconst 2, 1) := by decide +kernel
theorem dX6_reaches_141 : decode cX6_reaches 141 = .ok (.invokevirtual 47, 3) := by decide +kernel
theorem dX6_reaches_144 : decode cX6_reaches 144 = .ok (.iadd, 1) := by decide +kernel
theorem dX6_reaches_145 : decode cX6_reaches 145 = .ok (.istore 5, 2) := by decide +kernel
theorem dX6_reaches_147 : decode cX6_reaches 147 = .ok (.aload_n 0, 1) := by decide +kernel
theorem dX6_reaches_148 : decode cX6_reaches 148 = .ok (.getfield 13, 3) := by decide +kernel
theorem dX6_reaches_151 : decode cX6_reaches 151 = .ok (.iload 4, 2) := by decide +kernel
theorem dX6_reaches_153 : decode cX6_reaches 153 = .ok (.iload 4, 2) := by decide +kernel
theorem dX6_reaches_155 : decode cX6_reaches 155 = .ok (.iload_n 2, 1) := by decide +kernel
theorem dX6_reaches_156 : decode cX6_reaches 156 = .ok (.if_icmp .eq 43, 3) := by decide +kernel
theorem dX6_reaches_159 : decode cX6_reaches 159 = .ok (.aload_n 0, 1) := by decide +kernel
theorem dX6_reaches_160 : decode cX6_reaches 160 = .ok (.getfield 16, 3) := by decide +kernel
theorem dX6_reaches_163 : decode cX6_reaches 163 = .ok (.iload 4, 2) := by decide +kernel
theorem dX6_reaches_165 : decode cX6_reaches 165 = .ok (.baload, 1) := by decide +kernel
theorem dX6_reaches_166 : decode cX6_reaches 166 = .ok (.ifCond .eq 33, 3) := by decide +kernel
theorem dX6_reaches_169 : decode cX6_reaches 169 = .ok (.aload_n 0, 1) := by decide +kernel
theorem dX6_reaches_170 : decode cX6_reaches 170 = .ok (.getfield 13, 3) := by decide +kernel
theorem dX6_reaches_173 : decode cX6_reaches 173 = .ok (.iload 4, 2) := by decide +kernel
theorem dX6_reaches_175 : decode cX6_reaches 175 = .ok (.iaload, 1) := by decide +kernel
theorem dX6_reaches_176 : decode cX6_reaches 176 = .ok (.sipush (-1000), 3) := by decide +kernel
theorem dX6_reaches_179 : decode cX6_reaches 179 = .ok (.if_icmp .eq 15, 3) := by decide +kernel
theorem dX6_reaches_182 : decode cX6_reaches 182 = .ok (.iload 5, 2) := by decide +kernel
theorem dX6_reaches_184 : decode cX6_reaches 184 = .ok (.aload_n 0, 1) := by decide +kernel
theorem dX6_reaches_185 : decode cX6_reaches 185 = .ok (.getfield 13, 3) := by decide +kernel
theorem dX6_reaches_188 : decode cX6_reaches 188 = .ok (.iload 4, 2) := by decide +kernel
theorem dX6_reaches_190 : decode cX6_reaches 190 = .ok (.iaload, 1) := by decide +kernel
theorem dX6_reaches_191 : decode cX6_reaches 191 = .ok (.if_icmp .ge 8, 3) := by decide +kernel
theorem dX6_reaches_194 : decode cX6_reaches 194 = .ok (.iload 5, 2) := by decide +kernel
theorem dX6_reaches_196 : decode cX6_reaches 196 = .ok (.goto 10, 3) := by decide +kernel
theorem dX6_reaches_199 : decode cX6_reaches 199 = .ok (.aload_n 0, 1) := by decide +kernel
theorem dX6_reaches_200 : decode cX6_reaches 200 = .ok (.getfield 13, 3) := by decide +kernel
theorem dX6_reaches_203 : decode cX6_reaches 203 = .ok (.iload 4, 2) := by decide +kernel
theorem dX6_reaches_205 : decode cX6_reaches 205 = .ok (.iaload, 1) := by decide +kernel
theorem dX6_reaches_206 : decode cX6_reaches 206 = .ok (.iastore, 1) := by decide +kernel
theorem dX6_reaches_207 : decode cX6_reaches 207 = .ok (.iinc 3 1, 3) := by decide +kernel
theorem dX6_reaches_210 : decode cX6_reaches 210 = .ok (.goto (-129), 3) := by decide +kernel
theorem dX6_reaches_213 : decode cX6_reaches 213 = .ok (.sipush (-1000), 3) := by decide +kernel
theorem dX6_reaches_216 : decode cX6_reaches 216 = .ok (.istore_n 2, 1) := by decide +kernel
theorem dX6_reaches_217 : decode cX6_reaches 217 = .ok (.iconst 0, 1) := by decide +kernel
theorem dX6_reaches_218 : decode cX6_reaches 218 = .ok (.istore_n 3, 1) := by decide +kernel
theorem dX6_reaches_219 : decode cX6_reaches 219 = .ok (.iload_n 3, 1) := by decide +kernel
theorem dX6_reaches_220 : decode cX6_reaches 220 = .ok (.aload_n 0, 1) := by decide +kernel
theorem dX6_reaches_221 : decode cX6_reaches 221 = .ok (.getfield 7, 3) := by decide +kernel
theorem dX6_reaches_224 : decode cX6_reaches 224 = .ok (.iconst 0, 1) := by decide +kernel
theorem dX6_reaches_225 : decode cX6_reaches 225 = .ok (.iaload, 1) := by decide +kernel
theorem dX6_reaches_226 : decode cX6_reaches 226 = .ok (.if_icmp .ge 58, 3) := by decide +kernel
theorem dX6_reaches_229 : decode cX6_reaches 229 = .ok (.aload_n 0, 1) := by decide +kernel
theorem dX6_reaches_230 : decode cX6_reaches 230 = .ok (.getfield 20, 3) := by decide +kernel
theorem dX6_reaches_233 : decode cX6_reaches 233 = .ok (.iload_n 3, 1) := by decide +kernel
theorem dX6_reaches_234 : decode cX6_reaches 234 = .ok (.baload, 1) := by decide +kernel
theorem dX6_reaches_235 : decode cX6_reaches 235 = .ok (.ifCond .ne 41, 3) := by decide +kernel
theorem dX6_reaches_238 : decode cX6_reaches 238 = .ok (.aload_n 0, 1) := by decide +kernel
theorem dX6_reaches_239 : decode cX6_reaches 239 = .ok (.getfield 13, 3) := by decide +kernel
theorem dX6_reaches_242 : decode cX6_reaches 242 = .ok (.iload_n 3, 1) := by decide +kernel
theorem dX6_reaches_243 : decode cX6_reaches 243 = .ok (.iaload, 1) := by decide +kernel
theorem dX6_reaches_244 : decode cX6_reaches 244 = .ok (.sipush (-1000), 3) := by decide +kernel
theorem dX6_reaches_247 : decode cX6_reaches 247 = .ok (.if_icmp .eq 29, 3) := by decide +kernel
theorem dX6_reaches_250 : decode cX6_reaches 250 = .ok (.iload_n 2, 1) := by decide +kernel
theorem dX6_reaches_251 : decode cX6_reaches 251 = .ok (.sipush (-1000), 3) := by decide +kernel
theorem dX6_reaches_254 : decode cX6_reaches 254 = .ok (.if_icmp .eq 18, 3) := by decide +kernel
theorem dX6_reaches_257 : decode cX6_reaches 257 = .ok (.aload_n 0, 1) := by decide +kernel
theorem dX6_reaches_258 : decode cX6_reaches 258 = .ok (.getfield 13, 3) := by decide +kernel
theorem dX6_reaches_261 : decode cX6_reaches 261 = .ok (.iload_n 3, 1) := by decide +kernel
theorem dX6_reaches_262 : decode cX6_reaches 262 = .ok (.iaload, 1) := by decide +kernel
theorem dX6_reaches_263 : decode cX6_reaches 263 = .ok (.aload_n 0, 1) := by decide +kernel
theorem dX6_reaches_264 : decode cX6_reaches 264 = .ok (.getfield 13, 3) := by decide +kernel
theorem dX6_reaches_267 : decode cX6_reaches 267 = .ok (.iload_n 2, 1) := by decide +kernel
theorem dX6_reaches_268 : decode cX6_reaches 268 = .ok (.iaload, 1) := by decide +kernel
theorem dX6_reaches_269 : decode cX6_reaches 269 = .ok (.if_icmp .ge 7, 3) := by decide +kernel
theorem dX6_reaches_272 : decode cX6_reaches 272 = .ok (.iload_n 3, 1) := by decide +kernel
theorem dX6_reaches_273 : decode cX6_reaches 273 = .ok (.goto 4, 3) := by decide +kernel
theorem dX6_reaches_276 : decode cX6_reaches 276 = .ok (.iload_n 2, 1) := by decide +kernel
theorem dX6_reaches_277 : decode cX6_reaches 277 = .ok (.istore_n 2, 1) := by decide +kernel
theorem dX6_reaches_278 : decode cX6_reaches 278 = .ok (.iinc 3 1, 3) := by decide +kernel
theorem dX6_reaches_281 : decode cX6_reaches 281 = .ok (.goto (-62), 3) := by decide +kernel
theorem dX6_reaches_284 : decode cX6_reaches 284 = .ok (.goto (-219), 3) := by decide +kernel
theorem dX6_reaches_287 : decode cX6_reaches 287 = .ok (.return_, 1) := by decide +kernel
set_option maxRecDepth 20000 in
theorem ggX6_isWholeWay_X6_lengthOf : GoodIn wsX6_isWholeWay wsX6_lengthOf := goodIn_r _ [5, 6, 7, 8, 9, 4, 10, 27, 28, 29, 30, 31, 32, 33, 34, 35, 36, 37, 38, 39, 40, 41, 42] (by decide +kernel) (by decide +kernel)
set_option maxRecDepth 20000 in
theorem gX6_isWholeWay_X6_lengthOf : GoodIn wsX6_isWholeWay (wsV RX6 107 RX6 yX6_lengthOf wsX6_lengthOf) := goodIn_app (goodIn_of _ (by decide +kernel)) ggX6_isWholeWay_X6_lengthOf
set_option maxRecDepth 20000 in
theorem ggX6_isWholeWay_X6_nodeOf : GoodIn wsX6_isWholeWay wsX6_nodeOf := goodIn_r _ [14, 6, 7, 8, 9, 4, 10, 27, 28, 29, 30, 31, 32, 33, 34, 35, 36, 37, 38, 39, 40, 41, 42] (by decide +kernel) (by decide +kernel)
set_option maxRecDepth 20000 in
theorem gX6_isWholeWay_X6_nodeOf : GoodIn wsX6_isWholeWay (wsV RX6 113 RX6 yX6_nodeOf wsX6_nodeOf) := goodIn_app (goodIn_of _ (by decide +kernel)) ggX6_isWholeWay_X6_nodeOf
set_option maxRecDepth 20000 in
theorem ggX6_isWholeWay_X6_isAlive : GoodIn wsX6_isWholeWay wsX6_isAlive := goodIn_r _ [18, 6, 27, 28, 29, 30, 31, 32, 33, 34, 35, 36, 37, 38, 39, 40, 41, 42] (by decide +kernel) (by decide +kernel)
set_option maxRecDepth 20000 in
theorem gX6_isWholeWay_X6_isAlive : GoodIn wsX6_isWholeWay (wsV RX6 97 RX6 yX6_isAlive wsX6_isAlive) := goodIn_app (goodIn_of _ (by decide +kernel)) ggX6_isWholeWay_X6_isAlive
set_option maxRecDepth 20000 in
theorem ggX6_isWholeWay_X6_linkOf : GoodIn wsX6_isWholeWay wsX6_linkOf := goodIn_r _ [22, 6, 23, 24, 25, 4, 26, 27, 28, 29, 30, 31, 32, 33, 34, 35, 36, 37, 38, 39, 40, 41, 42] (by decide +kernel) (by decide +kernel)
set_option maxRecDepth 20000 in
theorem gX6_isWholeWay_X6_linkOf : GoodIn wsX6_isWholeWay (wsV RX6 65 RX6 yX6_linkOf wsX6_linkOf) := goodIn_app (goodIn_of _ (by decide +kernel)) ggX6_isWholeWay_X6_linkOf
theorem dX6_isWholeWay_0 : decode cX6_isWholeWay 0 = .ok (.aload_n 0, 1) := by decide +kernel
theorem dX6_isWholeWay_1 : decode cX6_isWholeWay 1 = .ok (.iload_n 1, 1) := by decide +kernel
theorem dX6_isWholeWay_2 : decode cX6_isWholeWay 2 = .ok (.iload_n 2, 1) := by decide +kernel
theorem dX6_isWholeWay_3 : decode cX6_isWholeWay 3 = .ok (.invokevirtual 107, 3) := by decide +kernel
theorem dX6_isWholeWay_6 : decode cX6_isWholeWay 6 = .ok (.ifCond .le 7, 3) := by decide +kernel
theorem dX6_isWholeWay_9 : decode cX6_isWholeWay 9 = .ok (.iconst 1, 1) := by decide +kernel
theorem dX6_isWholeWay_10 : decode cX6_isWholeWay 10 = .ok (.goto 4, 3) := by decide +kernel
theorem dX6_isWholeWay_13 : decode cX6_isWholeWay 13 = .ok (.iconst 0, 1) := by decide +kernel
theorem dX6_isWholeWay_14 : decode cX6_isWholeWay 14 = .ok (.istore_n 3, 1) := by decide +kernel
theorem dX6_isWholeWay_15 : decode cX6_isWholeWay 15 = .ok (.iconst 0, 1) := by decide +kernel
theorem dX6_isWholeWay_16 : decode cX6_isWholeWay 16 = .ok (.istore 4, 2) := by decide +kernel
theorem dX6_isWholeWay_18 : decode cX6_isWholeWay 18 = .ok (.iload 4, 2) := by decide +kernel
theorem dX6_isWholeWay_20 : decode cX6_isWholeWay 20 = .ok (.aload_n 0, 1) := by decide +kernel
theorem dX6_isWholeWay_21 : decode cX6_isWholeWay 21 = .ok (.iload_n 1, 1) := by decide +kernel
theorem dX6_isWholeWay_22 : decode cX6_isWholeWay 22 = .ok (.iload_n 2, 1) := by decide +kernel
theorem dX6_isWholeWay_23 : decode cX6_isWholeWay 23 = .ok (.invokevirtual 107, 3) := by decide +kernel
theorem dX6_isWholeWay_26 : decode cX6_isWholeWay 26 = .ok (.if_icmp .ge 67, 3) := by decide +kernel
theorem dX6_isWholeWay_29 : decode cX6_isWholeWay 29 = .ok (.iload_n 3, 1) := by decide +kernel
theorem dX6_isWholeWay_30 : decode cX6_isWholeWay 30 = .ok (.ifCond .eq 55, 3) := by decide +kernel
theorem dX6_isWholeWay_33 : decode cX6_isWholeWay 33 = .ok (.aload_n 0, 1) := by decide +kernel
theorem dX6_isWholeWay_34 : decode cX6_isWholeWay 34 = .ok (.aload_n 0, 1) := by decide +kernel
theorem dX6_isWholeWay_35 : decode cX6_isWholeWay 35 = .ok (.iload_n 1, 1) := by decide +kernel
theorem dX6_isWholeWay_36 : decode cX6_isWholeWay 36 = .ok (.iload_n 2, 1) := by decide +kernel
theorem dX6_isWholeWay_37 : decode cX6_isWholeWay 37 = .ok (.iload 4, 2) := by decide +kernel
theorem dX6_isWholeWay_39 : decode cX6_isWholeWay 39 = .ok (.invokevirtual 113, 3) := by decide +kernel
theorem dX6_isWholeWay_42 : decode cX6_isWholeWay 42 = .ok (.invokevirtual 97, 3) := by decide +kernel
theorem dX6_isWholeWay_45 : decode cX6_isWholeWay 45 = .ok (.ifCond .eq 40, 3) := by decide +kernel
theorem dX6_isWholeWay_48 : decode cX6_isWholeWay 48 = .ok (.iload 4, 2) := by decide +kernel
theorem dX6_isWholeWay_50 : decode cX6_isWholeWay 50 = .ok (.ifCond .eq 31, 3) := by decide +kernel
theorem dX6_isWholeWay_53 : decode cX6_isWholeWay 53 = .ok (.aload_n 0, 1) := by decide +kernel
theorem dX6_isWholeWay_54 : decode cX6_isWholeWay 54 = .ok (.aload_n 0, 1) := by decide +kernel
theorem dX6_isWholeWay_55 : decode cX6_isWholeWay 55 = .ok (.iload_n 1, 1) := by decide +kernel
theorem dX6_isWholeWay_56 : decode cX6_isWholeWay 56 = .ok (.iload_n 2, 1) := by decide +kernel
theorem dX6_isWholeWay_57 : decode cX6_isWholeWay 57 = .ok (.iload 4, 2) := by decide +kernel
theorem dX6_isWholeWay_59 : decode cX6_isWholeWay 59 = .ok (.iconst 1, 1) := by decide +kernel
theorem dX6_isWholeWay_60 : decode cX6_isWholeWay 60 = .ok (.isub, 1) := by decide +kernel
theorem dX6_isWholeWay_61 : decode cX6_isWholeWay 61 = .ok (.invokevirtual 113, 3) := by decide +kernel
theorem dX6_isWholeWay_64 : decode cX6_isWholeWay 64 = .ok (.aload_n 0, 1) := by decide +kernel
theorem dX6_isWholeWay_65 : decode cX6_isWholeWay 65 = .ok (.iload_n 1, 1) := by decide +kernel
theorem dX6_isWholeWay_66 : decode cX6_isWholeWay 66 = .ok (.iload_n 2, 1) := by decide +kernel
theorem dX6_isWholeWay_67 : decode cX6_isWholeWay 67 = .ok (.iload 4, 2) := by decide +kernel
theorem dX6_isWholeWay_69 : decode cX6_isWholeWay 69 = .ok (.invokevirtual 113, 3) := by decide +kernel
theorem dX6_isWholeWay_72 : decode cX6_isWholeWay 72 = .ok (.invokevirtual 65, 3) := by decide +kernel
theorem dX6_isWholeWay_75 : decode cX6_isWholeWay 75 = .ok (.sipush (-1000), 3) := by decide +kernel
theorem dX6_isWholeWay_78 : decode cX6_isWholeWay 78 = .ok (.if_icmp .eq 7, 3) := by decide +kernel
theorem dX6_isWholeWay_81 : decode cX6_isWholeWay 81 = .ok (.iconst 1, 1) := by decide +kernel
theorem dX6_isWholeWay_82 : decode cX6_isWholeWay 82 = .ok (.goto 4, 3) := by decide +kernel
theorem dX6_isWholeWay_85 : decode cX6_isWholeWay 85 = .ok (.iconst 0, 1) := by decide +kernel
theorem dX6_isWholeWay_86 : decode cX6_isWholeWay 86 = .ok (.istore_n 3, 1) := by decide +kernel
theorem dX6_isWholeWay_87 : decode cX6_isWholeWay 87 = .ok (.iinc 4 1, 3) := by decide +kernel
theorem dX6_isWholeWay_90 : decode cX6_isWholeWay 90 = .ok (.goto (-72), 3) := by decide +kernel
theorem dX6_isWholeWay_93 : decode cX6_isWholeWay 93 = .ok (.iload_n 3, 1) := by decide +kernel
theorem dX6_isWholeWay_94 : decode cX6_isWholeWay 94 = .ok (.ireturn, 1) := by decide +kernel
theorem dX6_spends_0 : decode cX6_spends 0 = .ok (.aload_n 0, 1) := by decide +kernel
theorem dX6_spends_1 : decode cX6_spends 1 = .ok (.getfield 7, 3) := by decide +kernel
theorem dX6_spends_4 : decode cX6_spends 4 = .ok (.bipush 12, 2) := by decide +kernel
theorem dX6_spends_6 : decode cX6_spends 6 = .ok (.iload_n 1, 1) := by decide +kernel
theorem dX6_spends_7 : decode cX6_spends 7 = .ok (.iadd, 1) := by decide +kernel
theorem dX6_spends_8 : decode cX6_spends 8 = .ok (.iaload, 1) := by decide +kernel
theorem dX6_spends_9 : decode cX6_spends 9 = .ok (.iload_n 2, 1) := by decide +kernel
theorem dX6_spends_10 : decode cX6_spends 10 = .ok (.if_icmp .ge 15, 3) := by decide +kernel
theorem dX6_spends_13 : decode cX6_spends 13 = .ok (.aload_n 0, 1) := by decide +kernel
theorem dX6_spends_14 : decode cX6_spends 14 = .ok (.getfield 7, 3) := by decide +kernel
theorem dX6_spends_17 : decode cX6_spends 17 = .ok (.bipush 12, 2) := by decide +kernel
theorem dX6_spends_19 : decode cX6_spends 19 = .ok (.iload_n 1, 1) := by decide +kernel
theorem dX6_spends_20 : decode cX6_spends 20 = .ok (.iadd, 1) := by decide +kernel
theorem dX6_spends_21 : decode cX6_spends 21 = .ok (.iaload, 1) := by decide +kernel
theorem dX6_spends_22 : decode cX6_spends 22 = .ok (.goto 4, 3) := by decide +kernel
theorem dX6_spends_25 : decode cX6_spends 25 = .ok (.iload_n 2, 1) := by decide +kernel
theorem dX6_spends_26 : decode cX6_spends 26 = .ok (.istore_n 3, 1) := by decide +kernel
theorem dX6_spends_27 : decode cX6_spends 27 = .ok (.aload_n 0, 1) := by decide +kernel
theorem dX6_spends_28 : decode cX6_spends 28 = .ok (.getfield 7, 3) := by decide +kernel
theorem dX6_spends_31 : decode cX6_spends 31 = .ok (.bipush 12, 2) := by decide +kernel
theorem dX6_spends_33 : decode cX6_spends 33 = .ok (.iload_n 1, 1) := by decide +kernel
theorem dX6_spends_34 : decode cX6_spends 34 = .ok (.iadd, 1) := by decide +kernel
theorem dX6_spends_35 : decode cX6_spends 35 = .ok (.dup2, 1) := by decide +kernel
theorem dX6_spends_36 : decode cX6_spends 36 = .ok (.iaload, 1) := by decide +kernel
theorem dX6_spends_37 : decode cX6_spends 37 = .ok (.iload_n 3, 1) := by decide +kernel
theorem dX6_spends_38 : decode cX6_spends 38 = .ok (.isub, 1) := by decide +kernel
theorem dX6_spends_39 : decode cX6_spends 39 = .ok (.iastore, 1) := by decide +kernel
theorem dX6_spends_40 : decode cX6_spends 40 = .ok (.aload_n 0, 1) := by decide +kernel
theorem dX6_spends_41 : decode cX6_spends 41 = .ok (.getfield 7, 3) := by decide +kernel
theorem dX6_spends_44 : decode cX6_spends 44 = .ok (.bipush 10, 2) := by decide +kernel
theorem dX6_spends_46 : decode cX6_spends 46 = .ok (.dup2, 1) := by decide +kernel
theorem dX6_spends_47 : decode cX6_spends 47 = .ok (.iaload, 1) := by decide +kernel
theorem dX6_spends_48 : decode cX6_spends 48 = .ok (.iload_n 3, 1) := by decide +kernel
theorem dX6_spends_49 : decode cX6_spends 49 = .ok (.iadd, 1) := by decide +kernel
theorem dX6_spends_50 : decode cX6_spends 50 = .ok (.iastore, 1) := by decide +kernel
theorem dX6_spends_51 : decode cX6_spends 51 = .ok (.return_, 1) := by decide +kernel
set_option maxRecDepth 20000 in
theorem ggX6_traces_X6_linkOf : GoodIn wsX6_traces wsX6_linkOf := goodIn_r _ [9, 4, 10, 11, 12, 8, 13, 14, 15, 16, 17, 18, 19, 20, 21, 22, 23, 24, 25, 26, 27, 28, 29] (by decide +kernel) (by decide +kernel)
set_option maxRecDepth 20000 in
theorem gX6_traces_X6_linkOf : GoodIn wsX6_traces (wsV RX6 65 RX6 yX6_linkOf wsX6_linkOf) := goodIn_app (goodIn_of _ (by decide +kernel)) ggX6_traces_X6_linkOf
set_option maxRecDepth 20000 in
theorem ggX6_traces_X6_ofLink : GoodIn wsX6_traces wsX6_ofLink := goodIn_r _ [13, 4, 14, 15, 16, 17, 18, 19, 20, 21, 22, 23, 24, 25, 26, 27, 28, 29] (by decide +kernel) (by decide +kernel)
set_option maxRecDepth 20000 in
theorem gX6_traces_X6_ofLink : GoodIn wsX6_traces (wsV RX6 47 RX6 yX6_ofLink wsX6_ofLink) := goodIn_app (goodIn_of _ (by decide +kernel)) ggX6_traces_X6_ofLink
theorem dX6_traces_0 : decode cX6_traces 0 = .ok (.aload_n 0, 1) := by decide +kernel
theorem dX6_traces_1 : decode cX6_traces 1 = .ok (.iconst 0, 1) := by decide +kernel
theorem dX6_traces_2 : decode cX6_traces 2 = .ok (.putfield 117, 3) := by decide +kernel
theorem dX6_traces_5 : decode cX6_traces 5 = .ok (.aload_n 0, 1) := by decide +kernel
theorem dX6_traces_6 : decode cX6_traces 6 = .ok (.getfield 13, 3) := by decide +kernel
theorem dX6_traces_9 : decode cX6_traces 9 = .ok (.iload_n 1, 1) := by decide +kernel
theorem dX6_traces_10 : decode cX6_traces 10 = .ok (.iaload, 1) := by decide +kernel
theorem dX6_traces_11 : decode cX6_traces 11 = .ok (.sipush (-1000), 3) := by decide +kernel
theorem dX6_traces_14 : decode cX6_traces 14 = .ok (.if_icmp .ne 9, 3) := by decide +kernel
theorem dX6_traces_17 : decode cX6_traces 17 = .ok (.sipush (-1000), 3) := by decide +kernel
theorem dX6_traces_20 : decode cX6_traces 20 = .ok (.goto 4, 3) := by decide +kernel
theorem dX6_traces_23 : decode cX6_traces 23 = .ok (.iload_n 1, 1) := by decide +kernel
theorem dX6_traces_24 : decode cX6_traces 24 = .ok (.istore_n 2, 1) := by decide +kernel
theorem dX6_traces_25 : decode cX6_traces 25 = .ok (.iload_n 2, 1) := by decide +kernel
theorem dX6_traces_26 : decode cX6_traces 26 = .ok (.sipush (-1000), 3) := by decide +kernel
theorem dX6_traces_29 : decode cX6_traces 29 = .ok (.if_icmp .eq 114, 3) := by decide +kernel
theorem dX6_traces_32 : decode cX6_traces 32 = .ok (.aload_n 0, 1) := by decide +kernel
theorem dX6_traces_33 : decode cX6_traces 33 = .ok (.getfield 23, 3) := by decide +kernel
theorem dX6_traces_36 : decode cX6_traces 36 = .ok (.aload_n 0, 1) := by decide +kernel
theorem dX6_traces_37 : decode cX6_traces 37 = .ok (.getfield 117, 3) := by decide +kernel
theorem dX6_traces_40 : decode cX6_traces 40 = .ok (.iload_n 2, 1) := by decide +kernel
theorem dX6_traces_41 : decode cX6_traces 41 = .ok (.iastore, 1) := by decide +kernel
theorem dX6_traces_42 : decode cX6_traces 42 = .ok (.aload_n 0, 1) := by decide +kernel
theorem dX6_traces_43 : decode cX6_traces 43 = .ok (.dup, 1) := by decide +kernel
theorem dX6_traces_44 : decode cX6_traces 44 = .ok (.getfield 117, 3) := by decide +kernel
theorem dX6_traces_47 : decode cX6_traces 47 = .ok (.iconst 1, 1) := by decide +kernel
theorem dX6_traces_48 : decode cX6_traces 48 = .ok (.iadd, 1) := by decide +kernel
theorem dX6_traces_49 : decode cX6_traces 49 = .ok (.putfield 117, 3) := by decide +kernel
theorem dX6_traces_52 : decode cX6_traces 52 = .ok (.sipush (-1000), 3) := by decide +kernel
theorem dX6_traces_55 : decode cX6_traces 55 = .ok (.istore_n 3, 1) := by decide +kernel
theorem dX6_traces_56 : decode cX6_traces 56 = .ok (.aload_n 0, 1) := by decide +kernel
theorem dX6_traces_57 : decode cX6_traces 57 = .ok (.getfield 7, 3) := by decide +kernel
theorem dX6_traces_60 : decode cX6_traces 60 = .ok (.iconst 0, 1) := by decide +kernel
theorem dX6_traces_61 : decode cX6_traces 61 = .ok (.iaload, 1) := by decide +kernel
theorem dX6_traces_62 : decode cX6_traces 62 = .ok (.iconst 1, 1) := by decide +kernel
theorem dX6_traces_63 : decode cX6_traces 63 = .ok (.isub, 1) := by decide +kernel
theorem dX6_traces_64 : decode cX6_traces 64 = .ok (.istore 4, 2) := by decide +kernel
theorem dX6_traces_66 : decode cX6_traces 66 = .ok (.iload 4, 2) := by decide +kernel
theorem dX6_traces_68 : decode cX6_traces 68 = .ok (.ifCond .lt 70, 3) := by decide +kernel
theorem dX6_traces_71 : decode cX6_traces 71 = .ok (.aload_n 0, 1) := by decide +kernel
theorem dX6_traces_72 : decode cX6_traces 72 = .ok (.iload 4, 2) := by decide +kernel
theorem dX6_traces_74 : decode cX6_traces 74 = .ok (.iload_n 2, 1) := by decide +kernel
theorem dX6_traces_75 : decode cX6_traces 75 = .ok (.invokevirtual 65, 3) := by decide +kernel
theorem dX6_traces_78 : decode cX6_traces 78 = .ok (.istore 5, 2) := by decide +kernel
theorem dX6_traces_80 : decode cX6_traces 80 = .ok (.iload 5, 2) := by decide +kernel
theorem dX6_traces_82 : decode cX6_traces 82 = .ok (.sipush (-1000), 3) := by decide +kernel
theorem dX6_traces_85 : decode cX6_traces 85 = .ok (.if_icmp .eq 45, 3) := by decide +kernel
theorem dX6_traces_88 : decode cX6_traces 88 = .ok (.aload_n 0, 1) := by decide +kernel
theorem dX6_traces_89 : decode cX6_traces 89 = .ok (.getfield 13, 3) := by decide +kernel
theorem dX6_traces_92 : decode cX6_traces 92 = .ok (.iload 4, 2) := by decide +kernel
theorem dX6_traces_94 : decode cX6_traces 94 = .ok (.iaload, 1) := by decide +kernel
theorem dX6_traces_95 : decode cX6_traces 95 = .ok (.sipush (-1000), 3) := by decide +kernel
theorem dX6_traces_98 : decode cX6_traces 98 = .ok (.if_icmp .eq 32, 3) := by decide +kernel
theorem dX6_traces_101 : decode cX6_traces 101 = .ok (.aload_n 0, 1) := by decide +kernel
theorem dX6_traces_102 : decode cX6_traces 102 = .ok (.getfield 13, 3) := by decide +kernel
theorem dX6_traces_105 : decode cX6_traces 105 = .ok (.iload 4, 2) := by decide +kernel
theorem dX6_traces_107 : decode cX6_traces 107 = .ok (.iaload, 1) := by decide +kernel
theorem dX6_traces_108 : decode cX6_traces 108 = .ok (.aload_n 0, 1) := by decide +kernel
theorem dX6_traces_109 : decode cX6_traces 109 = .ok (.iload 5, 2) := by decide +kernel
theorem dX6_traces_111 : decode cX6_traces 111 = .ok (.iconst 2, 1) := by decide +kernel
theorem dX6_traces_112 : decode cX6_traces 112 = .ok (.invokevirtual 47, 3) := by decide +kernel
theorem dX6_traces_115 : decode cX6_traces 115 = .ok (.iadd, 1) := by decide +kernel
theorem dX6_traces_116 : decode cX6_traces 116 = .ok (.aload_n 0, 1) := by decide +kernel
theorem dX6_traces_117 : decode cX6_traces 117 = .ok (.getfield 13, 3) := by decide +kernel
theorem dX6_traces_120 : decode cX6_traces 120 = .ok (.iload_n 2, 1) := by decide +kernel
theorem dX6_traces_121 : decode cX6_traces 121 = .ok (.iaload, 1) := by decide +kernel
theorem dX6_traces_122 : decode cX6_traces 122 = .ok (.if_icmp .ne 8, 3) := by decide +kernel
theorem dX6_traces_125 : decode cX6_traces 125 = .ok (.iload 4, 2) := by decide +kernel
theorem dX6_traces_127 : decode cX6_traces 127 = .ok (.goto 4, 3) := by decide +kernel
theorem dX6_traces_130 : decode cX6_traces 130 = .ok (.iload_n 3, 1) := by decide +kernel
theorem dX6_traces_131 : decode cX6_traces 131 = .ok (.istore_n 3, 1) := by decide +kernel
theorem dX6_traces_132 : decode cX6_traces 132 = .ok (.iinc 4 (-1), 3) := by decide +kernel
theorem dX6_traces_135 : decode cX6_traces 135 = .ok (.goto (-69), 3) := by decide +kernel
theorem dX6_traces_138 : decode cX6_traces 138 = .ok (.iload_n 3, 1) := by decide +kernel
theorem dX6_traces_139 : decode cX6_traces 139 = .ok (.istore_n 2, 1) := by decide +kernel
theorem dX6_traces_140 : decode cX6_traces 140 = .ok (.goto (-115), 3) := by decide +kernel
theorem dX6_traces_143 : decode cX6_traces 143 = .ok (.return_, 1) := by decide +kernel
theorem dX6_goesOver_0 : decode cX6_goesOver 0 = .ok (.iconst 0, 1) := by decide +kernel
theorem dX6_goesOver_1 : decode cX6_goesOver 1 = .ok (.istore 4, 2) := by decide +kernel
theorem dX6_goesOver_3 : decode cX6_goesOver 3 = .ok (.iconst 1, 1) := by decide +kernel
theorem dX6_goesOver_4 : decode cX6_goesOver 4 = .ok (.istore 5, 2) := by decide +kernel
theorem dX6_goesOver_6 : decode cX6_goesOver 6 = .ok (.iload 5, 2) := by decide +kernel
theorem dX6_goesOver_8 : decode cX6_goesOver 8 = .ok (.iload_n 1, 1) := by decide +kernel
theorem dX6_goesOver_9 : decode cX6_goesOver 9 = .ok (.if_icmp .ge 57, 3) := by decide +kernel
theorem dX6_goesOver_12 : decode cX6_goesOver 12 = .ok (.iload 4, 2) := by decide +kernel
theorem dX6_goesOver_14 : decode cX6_goesOver 14 = .ok (.ifCond .ne 39, 3) := by decide +kernel
theorem dX6_goesOver_17 : decode cX6_goesOver 17 = .ok (.aload_n 0, 1) := by decide +kernel
theorem dX6_goesOver_18 : decode cX6_goesOver 18 = .ok (.iload 5, 2) := by decide +kernel
theorem dX6_goesOver_20 : decode cX6_goesOver 20 = .ok (.iconst 1, 1) := by decide +kernel
theorem dX6_goesOver_21 : decode cX6_goesOver 21 = .ok (.isub, 1) := by decide +kernel
theorem dX6_goesOver_22 : decode cX6_goesOver 22 = .ok (.iaload, 1) := by decide +kernel
theorem dX6_goesOver_23 : decode cX6_goesOver 23 = .ok (.iload_n 2, 1) := by decide +kernel
theorem dX6_goesOver_24 : decode cX6_goesOver 24 = .ok (.if_icmp .ne 11, 3) := by decide +kernel
theorem dX6_goesOver_27 : decode cX6_goesOver 27 = .ok (.aload_n 0, 1) := by decide +kernel
theorem dX6_goesOver_28 : decode cX6_goesOver 28 = .ok (.iload 5, 2) := by decide +kernel
theorem dX6_goesOver_30 : decode cX6_goesOver 30 = .ok (.iaload, 1) := by decide +kernel
theorem dX6_goesOver_31 : decode cX6_goesOver 31 = .ok (.iload_n 3, 1) := by decide +kernel
theorem dX6_goesOver_32 : decode cX6_goesOver 32 = .ok (.if_icmp .eq 21, 3) := by decide +kernel
theorem dX6_goesOver_35 : decode cX6_goesOver 35 = .ok (.aload_n 0, 1) := by decide +kernel
theorem dX6_goesOver_36 : decode cX6_goesOver 36 = .ok (.iload 5, 2) := by decide +kernel
theorem dX6_goesOver_38 : decode cX6_goesOver 38 = .ok (.iconst 1, 1) := by decide +kernel
theorem dX6_goesOver_39 : decode cX6_goesOver 39 = .ok (.isub, 1) := by decide +kernel
theorem dX6_goesOver_40 : decode cX6_goesOver 40 = .ok (.iaload, 1) := by decide +kernel
theorem dX6_goesOver_41 : decode cX6_goesOver 41 = .ok (.iload_n 3, 1) := by decide +kernel
theorem dX6_goesOver_42 : decode cX6_goesOver 42 = .ok (.if_icmp .ne 15, 3) := by decide +kernel
theorem dX6_goesOver_45 : decode cX6_goesOver 45 = .ok (.aload_n 0, 1) := by decide +kernel
theorem dX6_goesOver_46 : decode cX6_goesOver 46 = .ok (.iload 5, 2) := by decide +kernel
theorem dX6_goesOver_48 : decode cX6_goesOver 48 = .ok (.iaload, 1) := by decide +kernel
theorem dX6_goesOver_49 : decode cX6_goesOver 49 = .ok (.iload_n 2, 1) := by decide +kernel
theorem dX6_goesOver_50 : decode cX6_goesOver 50 = .ok (.if_icmp .ne 7, 3) := by decide +kernel
theorem dX6_goesOver_53 : decode cX6_goesOver 53 = .ok (.iconst 1, 1) := by decide +kernel
theorem dX6_goesOver_54 : decode cX6_goesOver 54 = .ok (.goto 4, 3) := by decide +kernel
theorem dX6_goesOver_57 : decode cX6_goesOver 57 = .ok (.iconst 0, 1) := by decide +kernel
theorem dX6_goesOver_58 : decode cX6_goesOver 58 = .ok (.istore 4, 2) := by decide +kernel
theorem dX6_goesOver_60 : decode cX6_goesOver 60 = .ok (.iinc 5 1, 3) := by decide +kernel
theorem dX6_goesOver_63 : decode cX6_goesOver 63 = .ok (.goto (-57), 3) := by decide +kernel
theorem dX6_goesOver_66 : decode cX6_goesOver 66 = .ok (.iload 4, 2) := by decide +kernel
theorem dX6_goesOver_68 : decode cX6_goesOver 68 = .ok (.ireturn, 1) := by decide +kernel
set_option maxRecDepth 20000 in
theorem ggX6_explores_X6_ofSensor : GoodIn wsX6_explores wsX6_ofSensor := goodIn_r _ [11, 1, 53, 54, 55, 56, 57, 58, 59, 60, 61, 62, 63, 64, 65, 66, 67, 68] (by decide +kernel) (by decide +kernel)
set_option maxRecDepth 20000 in
theorem gX6_explores_X6_ofSensor : GoodIn wsX6_explores (wsV RX6 87 RX6 yX6_ofSensor wsX6_ofSensor) := goodIn_app (goodIn_of _ (by decide +kernel)) ggX6_explores_X6_ofSensor
set_option maxRecDepth 20000 in
theorem ggX6_explores_X6_reaches : GoodIn wsX6_explores wsX6_reaches := goodIn_r _ [15, 2, 16, 17, 1, 18, 19, 20, 10, 21, 53, 54, 55, 56, 57, 58, 59, 60, 61, 62, 63, 64, 65, 66, 67, 68] (by decide +kernel) (by decide +kernel)
set_option maxRecDepth 20000 in
theorem gX6_explores_X6_reaches : GoodIn wsX6_explores (wsV RX6 120 RX6 yX6_reaches wsX6_reaches) := goodIn_app (goodIn_of _ (by decide +kernel)) ggX6_explores_X6_reaches
set_option maxRecDepth 20000 in
theorem ggX6_explores_X6_ofInterest : GoodIn wsX6_explores wsX6_ofInterest := goodIn_r _ [25, 1, 53, 54, 55, 56, 57, 58, 59, 60, 61, 62, 63, 64, 65, 66, 67, 68] (by decide +kernel) (by decide +kernel)
set_option maxRecDepth 20000 in
theorem gX6_explores_X6_ofInterest : GoodIn wsX6_explores (wsV RX6 104 RX6 yX6_ofInterest wsX6_ofInterest) := goodIn_app (goodIn_of _ (by decide +kernel)) ggX6_explores_X6_ofInterest
set_option maxRecDepth 20000 in
theorem ggX6_explores_X6_traces : GoodIn wsX6_explores wsX6_traces := goodIn_r _ [29, 5, 2, 6, 1, 30, 31, 32, 10, 33, 18, 19, 20, 21, 53, 54, 55, 56, 57, 58, 59, 60, 61, 62, 63, 64, 65, 66, 67, 68] (by decide +kernel) (by decide +kernel)
set_option maxRecDepth 20000 in
theorem gX6_explores_X6_traces : GoodIn wsX6_explores (wsV RX6 123 RX6 yX6_traces wsX6_traces) := goodIn_app (goodIn_of _ (by decide +kernel)) ggX6_explores_X6_traces
set_option maxRecDepth 20000 in
theorem ggX6_explores_X6_spends : GoodIn wsX6_explores wsX6_spends := goodIn_r _ [37, 1, 53, 54, 55, 56, 57, 58, 59, 60, 61, 62, 63, 64, 65, 66, 67, 68] (by decide +kernel) (by decide +kernel)
set_option maxRecDepth 20000 in
theorem gX6_explores_X6_spends : GoodIn wsX6_explores (wsV RX6 126 RX6 yX6_spends wsX6_spends) := goodIn_app (goodIn_of _ (by decide +kernel)) ggX6_explores_X6_spends
set_option maxRecDepth 20000 in
theorem ggX6_explores_X6_lengthOf : GoodIn wsX6_explores wsX6_lengthOf := goodIn_r _ [41, 1, 42, 43, 44, 10, 45, 53, 54, 55, 56, 57, 58, 59, 60, 61, 62, 63, 64, 65, 66, 67, 68] (by decide +kernel) (by decide +kernel)
set_option maxRecDepth 20000 in
theorem gX6_explores_X6_lengthOf : GoodIn wsX6_explores (wsV RX6 107 RX6 yX6_lengthOf wsX6_lengthOf) := goodIn_app (goodIn_of _ (by decide +kernel)) ggX6_explores_X6_lengthOf
set_option maxRecDepth 20000 in
theorem ggX6_explores_X6_nodeOf : GoodIn wsX6_explores wsX6_nodeOf := goodIn_r _ [49, 1, 42, 43, 44, 10, 45, 53, 54, 55, 56, 57, 58, 59, 60, 61, 62, 63, 64, 65, 66, 67, 68] (by decide +kernel) (by decide +kernel)
set_option maxRecDepth 20000 in
theorem gX6_explores_X6_nodeOf : GoodIn wsX6_explores (wsV RX6 113 RX6 yX6_nodeOf wsX6_nodeOf) := goodIn_app (goodIn_of _ (by decide +kernel)) ggX6_explores_X6_nodeOf
set_option maxRecDepth 20000 in
theorem ggX6_explores_X6_goesOver : GoodIn wsX6_explores wsX6_goesOver := goodIn_r _ [52] (by decide +kernel) (by decide +kernel)
set_option maxRecDepth 20000 in
theorem gX6_explores_X6_goesOver : GoodIn wsX6_explores (va_wsS RX6 132 yX6_goesOver wsX6_goesOver) := goodIn_app (goodIn_of _ (by decide +kernel)) ggX6_explores_X6_goesOver
set_option maxRecDepth 20000 in
theorem ggX6_explores_X6_wayAt : GoodIn wsX6_explores wsX6_wayAt := goodIn_r _ [45] (by decide +kernel) (by decide +kernel)
set_option maxRecDepth 20000 in
theorem gX6_explores_X6_wayAt : GoodIn wsX6_explores (wsV RX6 51 RX6 yX6_wayAt wsX6_wayAt) := goodIn_app (goodIn_of _ (by decide +kernel)) ggX6_explores_X6_wayAt
theorem dX6_explores_0 : decode cX6_explores 0 = .ok (.aload_n 0, 1) := by decide +kernel
theorem dX6_explores_1 : decode cX6_explores 1 = .ok (.getfield 7, 3) := by decide +kernel
theorem dX6_explores_4 : decode cX6_explores 4 = .ok (.bipush 7, 2) := by decide +kernel
theorem dX6_explores_6 : decode cX6_explores 6 = .ok (.dup2, 1) := by decide +kernel
theorem dX6_explores_7 : decode cX6_explores 7 = .ok (.iaload, 1) := by decide +kernel
theorem dX6_explores_8 : decode cX6_explores 8 = .ok (.iconst 1, 1) := by decide +kernel
theorem dX6_explores_9 : decode cX6_explores 9 = .ok (.iadd, 1) := by decide +kernel
theorem dX6_explores_10 : decode cX6_explores 10 = .ok (.iastore, 1) := by decide +kernel
theorem dX6_explores_11 : decode cX6_explores 11 = .ok (.aload_n 0, 1) := by decide +kernel
theorem dX6_explores_12 : decode cX6_explores 12 = .ok (.aload_n 0, 1) := by decide +kernel
theorem dX6_explores_13 : decode cX6_explores 13 = .ok (.iload_n 2, 1) := by decide +kernel
theorem dX6_explores_14 : decode cX6_explores 14 = .ok (.iconst 0, 1) := by decide +kernel
theorem dX6_explores_15 : decode cX6_explores 15 = .ok (.invokevirtual 87, 3) := by decide +kernel
theorem dX6_explores_18 : decode cX6_explores 18 = .ok (.invokevirtual 120, 3) := by decide +kernel
theorem dX6_explores_21 : decode cX6_explores 21 = .ok (.aload_n 0, 1) := by decide +kernel
theorem dX6_explores_22 : decode cX6_explores 22 = .ok (.aload_n 0, 1) := by decide +kernel
theorem dX6_explores_23 : decode cX6_explores 23 = .ok (.iload_n 1, 1) := by decide +kernel
theorem dX6_explores_24 : decode cX6_explores 24 = .ok (.iconst 0, 1) := by decide +kernel
theorem dX6_explores_25 : decode cX6_explores 25 = .ok (.invokevirtual 104, 3) := by decide +kernel
theorem dX6_explores_28 : decode cX6_explores 28 = .ok (.invokevirtual 123, 3) := by decide +kernel
theorem dX6_explores_31 : decode cX6_explores 31 = .ok (.iconst 0, 1) := by decide +kernel
theorem dX6_explores_32 : decode cX6_explores 32 = .ok (.istore_n 3, 1) := by decide +kernel
theorem dX6_explores_33 : decode cX6_explores 33 = .ok (.iload_n 3, 1) := by decide +kernel
theorem dX6_explores_34 : decode cX6_explores 34 = .ok (.aload_n 0, 1) := by decide +kernel
theorem dX6_explores_35 : decode cX6_explores 35 = .ok (.getfield 7, 3) := by decide +kernel
theorem dX6_explores_38 : decode cX6_explores 38 = .ok (.iconst 0, 1) := by decide +kernel
theorem dX6_explores_39 : decode cX6_explores 39 = .ok (.iaload, 1) := by decide +kernel
theorem dX6_explores_40 : decode cX6_explores 40 = .ok (.if_icmp .ge 27, 3) := by decide +kernel
theorem dX6_explores_43 : decode cX6_explores 43 = .ok (.aload_n 0, 1) := by decide +kernel
theorem dX6_explores_44 : decode cX6_explores 44 = .ok (.getfield 13, 3) := by decide +kernel
theorem dX6_explores_47 : decode cX6_explores 47 = .ok (.iload_n 3, 1) := by decide +kernel
theorem dX6_explores_48 : decode cX6_explores 48 = .ok (.iaload, 1) := by decide +kernel
theorem dX6_explores_49 : decode cX6_explores 49 = .ok (.sipush (-1000), 3) := by decide +kernel
theorem dX6_explores_52 : decode cX6_explores 52 = .ok (.if_icmp .eq 9, 3) := by decide +kernel
theorem dX6_explores_55 : decode cX6_explores 55 = .ok (.aload_n 0, 1) := by decide +kernel
theorem dX6_explores_56 : decode cX6_explores 56 = .ok (.iload_n 3, 1) := by decide +kernel
theorem dX6_explores_57 : decode cX6_explores 57 = .ok (.iconst 1, 1) := by decide +kernel
theorem dX6_explores_58 : decode cX6_explores 58 = .ok (.invokevirtual 126, 3) := by decide +kernel
theorem dX6_explores_61 : decode cX6_explores 61 = .ok (.iinc 3 1, 3) := by decide +kernel
theorem dX6_explores_64 : decode cX6_explores 64 = .ok (.goto (-31), 3) := by decide +kernel
theorem dX6_explores_67 : decode cX6_explores 67 = .ok (.aload_n 0, 1) := by decide +kernel
theorem dX6_explores_68 : decode cX6_explores 68 = .ok (.aload_n 0, 1) := by decide +kernel
theorem dX6_explores_69 : decode cX6_explores 69 = .ok (.iload_n 1, 1) := by decide +kernel
theorem dX6_explores_70 : decode cX6_explores 70 = .ok (.iload_n 2, 1) := by decide +kernel
theorem dX6_explores_71 : decode cX6_explores 71 = .ok (.invokevirtual 107, 3) := by decide +kernel
theorem dX6_explores_74 : decode cX6_explores 74 = .ok (.putfield 129, 3) := by decide +kernel
theorem dX6_explores_77 : decode cX6_explores 77 = .ok (.iconst 0, 1) := by decide +kernel
theorem dX6_explores_78 : decode cX6_explores 78 = .ok (.istore_n 3, 1) := by decide +kernel
theorem dX6_explores_79 : decode cX6_explores 79 = .ok (.iload_n 3, 1) := by decide +kernel
theorem dX6_explores_80 : decode cX6_explores 80 = .ok (.aload_n 0, 1) := by decide +kernel
theorem dX6_explores_81 : decode cX6_explores 81 = .ok (.getfield 129, 3) := by decide +kernel
theorem dX6_explores_84 : decode cX6_explores 84 = .ok (.if_icmp .ge 22, 3) := by decide +kernel
theorem dX6_explores_87 : decode cX6_explores 87 = .ok (.aload_n 0, 1) := by decide +kernel
theorem dX6_explores_88 : decode cX6_explores 88 = .ok (.getfield 26, 3) := by decide +kernel
theorem dX6_explores_91 : decode cX6_explores 91 = .ok (.iload_n 3, 1) := by decide +kernel
theorem dX6_explores_92 : decode cX6_explores 92 = .ok (.aload_n 0, 1) := by decide +kernel
theorem dX6_explores_93 : decode cX6_explores 93 = .ok (.iload_n 1, 1) := by decide +kernel
theorem dX6_explores_94 : decode cX6_explores 94 = .ok (.iload_n 2, 1) := by decide +kernel
theorem dX6_explores_95 : decode cX6_explores 95 = .ok (.iload_n 3, 1) := by decide +kernel
theorem dX6_explores_96 : decode cX6_explores 96 = .ok (.invokevirtual 113, 3) := by decide +kernel
theorem dX6_explores_99 : decode cX6_explores 99 = .ok (.iastore, 1) := by decide +kernel
theorem dX6_explores_100 : decode cX6_explores 100 = .ok (.iinc 3 1, 3) := by decide +kernel
theorem dX6_explores_103 : decode cX6_explores 103 = .ok (.goto (-24), 3) := by decide +kernel
theorem dX6_explores_106 : decode cX6_explores 106 = .ok (.iconst 1, 1) := by decide +kernel
theorem dX6_explores_107 : decode cX6_explores 107 = .ok (.istore_n 3, 1) := by decide +kernel
theorem dX6_explores_108 : decode cX6_explores 108 = .ok (.iload_n 3, 1) := by decide +kernel
theorem dX6_explores_109 : decode cX6_explores 109 = .ok (.aload_n 0, 1) := by decide +kernel
theorem dX6_explores_110 : decode cX6_explores 110 = .ok (.getfield 117, 3) := by decide +kernel
theorem dX6_explores_113 : decode cX6_explores 113 = .ok (.if_icmp .ge 52, 3) := by decide +kernel
theorem dX6_explores_116 : decode cX6_explores 116 = .ok (.aload_n 0, 1) := by decide +kernel
theorem dX6_explores_117 : decode cX6_explores 117 = .ok (.getfield 7, 3) := by decide +kernel
theorem dX6_explores_120 : decode cX6_explores 120 = .ok (.bipush 8, 2) := by decide +kernel
theorem dX6_explores_122 : decode cX6_explores 122 = .ok (.dup2, 1) := by decide +kernel
theorem dX6_explores_123 : decode cX6_explores 123 = .ok (.iaload, 1) := by decide +kernel
theorem dX6_explores_124 : decode cX6_explores 124 = .ok (.aload_n 0, 1) := by decide +kernel
theorem dX6_explores_125 : decode cX6_explores 125 = .ok (.getfield 26, 3) := by decide +kernel
theorem dX6_explores_128 : decode cX6_explores 128 = .ok (.aload_n 0, 1) := by decide +kernel
theorem dX6_explores_129 : decode cX6_explores 129 = .ok (.getfield 129, 3) := by decide +kernel
theorem dX6_explores_132 : decode cX6_explores 132 = .ok (.aload_n 0, 1) := by decide +kernel
theorem dX6_explores_133 : decode cX6_explores 133 = .ok (.getfield 23, 3) := by decide +kernel
theorem dX6_explores_136 : decode cX6_explores 136 = .ok (.iload_n 3, 1) := by decide +kernel
theorem dX6_explores_137 : decode cX6_explores 137 = .ok (.iconst 1, 1) := by decide +kernel
theorem dX6_explores_138 : decode cX6_explores 138 = .ok (.isub, 1) := by decide +kernel
theorem dX6_explores_139 : decode cX6_explores 139 = .ok (.iaload, 1) := by decide +kernel
theorem dX6_explores_140 : decode cX6_explores 140 = .ok (.aload_n 0, 1) := by decide +kernel
theorem dX6_explores_141 : decode cX6_explores 141 = .ok (.getfield 23, 3) := by decide +kernel
theorem dX6_explores_144 : decode cX6_explores 144 = .ok (.iload_n 3, 1) := by decide +kernel
theorem dX6_explores_145 : decode cX6_explores 145 = .ok (.iaload, 1) := by decide +kernel
theorem dX6_explores_146 : decode cX6_explores 146 = .ok (.invokestatic 132, 3) := by decide +kernel
theorem dX6_explores_149 : decode cX6_explores 149 = .ok (.ifCond .eq 7, 3) := by decide +kernel
theorem dX6_explores_152 : decode cX6_explores 152 = .ok (.iconst 0, 1) := by decide +kernel
theorem dX6_explores_153 : decode cX6_explores 153 = .ok (.goto 4, 3) := by decide +kernel
theorem dX6_explores_156 : decode cX6_explores 156 = .ok (.iconst 1, 1) := by decide +kernel
theorem dX6_explores_157 : decode cX6_explores 157 = .ok (.iadd, 1) := by decide +kernel
theorem dX6_explores_158 : decode cX6_explores 158 = .ok (.iastore, 1) := by decide +kernel
theorem dX6_explores_159 : decode cX6_explores 159 = .ok (.iinc 3 1, 3) := by decide +kernel
theorem dX6_explores_162 : decode cX6_explores 162 = .ok (.goto (-54), 3) := by decide +kernel
theorem dX6_explores_165 : decode cX6_explores 165 = .ok (.iconst 1, 1) := by decide +kernel
theorem dX6_explores_166 : decode cX6_explores 166 = .ok (.istore_n 3, 1) := by decide +kernel
theorem dX6_explores_167 : decode cX6_explores 167 = .ok (.iload_n 3, 1) := by decide +kernel
theorem dX6_explores_168 : decode cX6_explores 168 = .ok (.aload_n 0, 1) := by decide +kernel
theorem dX6_explores_169 : decode cX6_explores 169 = .ok (.getfield 129, 3) := by decide +kernel
theorem dX6_explores_172 : decode cX6_explores 172 = .ok (.if_icmp .ge 52, 3) := by decide +kernel
theorem dX6_explores_175 : decode cX6_explores 175 = .ok (.aload_n 0, 1) := by decide +kernel
theorem dX6_explores_176 : decode cX6_explores 176 = .ok (.getfield 7, 3) := by decide +kernel
theorem dX6_explores_179 : decode cX6_explores 179 = .ok (.bipush 9, 2) := by decide +kernel
theorem dX6_explores_181 : decode cX6_explores 181 = .ok (.dup2, 1) := by decide +kernel
theorem dX6_explores_182 : decode cX6_explores 182 = .ok (.iaload, 1) := by decide +kernel
theorem dX6_explores_183 : decode cX6_explores 183 = .ok (.aload_n 0, 1) := by decide +kernel
theorem dX6_explores_184 : decode cX6_explores 184 = .ok (.getfield 23, 3) := by decide +kernel
theorem dX6_explores_187 : decode cX6_explores 187 = .ok (.aload_n 0, 1) := by decide +kernel
theorem dX6_explores_188 : decode cX6_explores 188 = .ok (.getfield 117, 3) := by decide +kernel
theorem dX6_explores_191 : decode cX6_explores 191 = .ok (.aload_n 0, 1) := by decide +kernel
theorem dX6_explores_192 : decode cX6_explores 192 = .ok (.getfield 26, 3) := by decide +kernel
theorem dX6_explores_195 : decode cX6_explores 195 = .ok (.iload_n 3, 1) := by decide +kernel
theorem dX6_explores_196 : decode cX6_explores 196 = .ok (.iconst 1, 1) := by decide +kernel
theorem dX6_explores_197 : decode cX6_explores 197 = .ok (.isub, 1) := by decide +kernel
theorem dX6_explores_198 : decode cX6_explores 198 = .ok (.iaload, 1) := by decide +kernel
theorem dX6_explores_199 : decode cX6_explores 199 = .ok (.aload_n 0, 1) := by decide +kernel
theorem dX6_explores_200 : decode cX6_explores 200 = .ok (.getfield 26, 3) := by decide +kernel
theorem dX6_explores_203 : decode cX6_explores 203 = .ok (.iload_n 3, 1) := by decide +kernel
theorem dX6_explores_204 : decode cX6_explores 204 = .ok (.iaload, 1) := by decide +kernel
theorem dX6_explores_205 : decode cX6_explores 205 = .ok (.invokestatic 132, 3) := by decide +kernel
theorem dX6_explores_208 : decode cX6_explores 208 = .ok (.ifCond .eq 7, 3) := by decide +kernel
theorem dX6_explores_211 : decode cX6_explores 211 = .ok (.iconst 0, 1) := by decide +kernel
theorem dX6_explores_212 : decode cX6_explores 212 = .ok (.goto 4, 3) := by decide +kernel
theorem dX6_explores_215 : decode cX6_explores 215 = .ok (.iconst 1, 1) := by decide +kernel
theorem dX6_explores_216 : decode cX6_explores 216 = .ok (.iadd, 1) := by decide +kernel
theorem dX6_explores_217 : decode cX6_explores 217 = .ok (.iastore, 1) := by decide +kernel
theorem dX6_explores_218 : decode cX6_explores 218 = .ok (.iinc 3 1, 3) := by decide +kernel
theorem dX6_explores_221 : decode cX6_explores 221 = .ok (.goto (-54), 3) := by decide +kernel
theorem dX6_explores_224 : decode cX6_explores 224 = .ok (.aload_n 0, 1) := by decide +kernel
theorem dX6_explores_225 : decode cX6_explores 225 = .ok (.getfield 7, 3) := by decide +kernel
theorem dX6_explores_228 : decode cX6_explores 228 = .ok (.aload_n 0, 1) := by decide +kernel
theorem dX6_explores_229 : decode cX6_explores 229 = .ok (.iload_n 1, 1) := by decide +kernel
theorem dX6_explores_230 : decode cX6_explores 230 = .ok (.iload_n 2, 1) := by decide +kernel
theorem dX6_explores_231 : decode cX6_explores 231 = .ok (.invokevirtual 51, 3) := by decide +kernel
theorem dX6_explores_234 : decode cX6_explores 234 = .ok (.aload_n 0, 1) := by decide +kernel
theorem dX6_explores_235 : decode cX6_explores 235 = .ok (.getfield 117, 3) := by decide +kernel
theorem dX6_explores_238 : decode cX6_explores 238 = .ok (.iastore, 1) := by decide +kernel
theorem dX6_explores_239 : decode cX6_explores 239 = .ok (.iconst 0, 1) := by decide +kernel
theorem dX6_explores_240 : decode cX6_explores 240 = .ok (.istore_n 3, 1) := by decide +kernel
theorem dX6_explores_241 : decode cX6_explores 241 = .ok (.iload_n 3, 1) := by decide +kernel
theorem dX6_explores_242 : decode cX6_explores 242 = .ok (.aload_n 0, 1) := by decide +kernel
theorem dX6_explores_243 : decode cX6_explores 243 = .ok (.getfield 117, 3) := by decide +kernel
theorem dX6_explores_246 : decode cX6_explores 246 = .ok (.if_icmp .ge 37, 3) := by decide +kernel
theorem dX6_explores_249 : decode cX6_explores 249 = .ok (.aload_n 0, 1) := by decide +kernel
theorem dX6_explores_250 : decode cX6_explores 250 = .ok (.getfield 7, 3) := by decide +kernel
theorem dX6_explores_253 : decode cX6_explores 253 = .ok (.aload_n 0, 1) := by decide +kernel
theorem dX6_explores_254 : decode cX6_explores 254 = .ok (.iload_n 1, 1) := by decide +kernel
theorem dX6_explores_255 : decode cX6_explores 255 = .ok (.iload_n 2, 1) := by decide +kernel
theorem dX6_explores_256 : decode cX6_explores 256 = .ok (.invokevirtual 51, 3) := by decide +kernel
theorem dX6_explores_259 : decode cX6_explores 259 = .ok (.iconst 1, 1) := by decide +kernel
theorem dX6_explores_260 : decode cX6_explores 260 = .ok (.iadd, 1) := by decide +kernel
theorem dX6_explores_261 : decode cX6_explores 261 = .ok (.iload_n 3, 1) := by decide +kernel
theorem dX6_explores_262 : decode cX6_explores 262 = .ok (.iadd, 1) := by decide +kernel
theorem dX6_explores_263 : decode cX6_explores 263 = .ok (.aload_n 0, 1) := by decide +kernel
theorem dX6_explores_264 : decode cX6_explores 264 = .ok (.getfield 23, 3) := by decide +kernel
theorem dX6_explores_267 : decode cX6_explores 267 = .ok (.aload_n 0, 1) := by decide +kernel
theorem dX6_explores_268 : decode cX6_explores 268 = .ok (.getfield 117, 3) := by decide +kernel
theorem dX6_explores_271 : decode cX6_explores 271 = .ok (.iconst 1, 1) := by decide +kernel
theorem dX6_explores_272 : decode cX6_explores 272 = .ok (.isub, 1) := by decide +kernel
theorem dX6_explores_273 : decode cX6_explores 273 = .ok (.iload_n 3, 1) := by decide +kernel
theorem dX6_explores_274 : decode cX6_explores 274 = .ok (.isub, 1) := by decide +kernel
theorem dX6_explores_275 : decode cX6_explores 275 = .ok (.iaload, 1) := by decide +kernel
theorem dX6_explores_276 : decode cX6_explores 276 = .ok (.iastore, 1) := by decide +kernel
theorem dX6_explores_277 : decode cX6_explores 277 = .ok (.iinc 3 1, 3) := by decide +kernel
theorem dX6_explores_280 : decode cX6_explores 280 = .ok (.goto (-39), 3) := by decide +kernel
theorem dX6_explores_283 : decode cX6_explores 283 = .ok (.return_, 1) := by decide +kernel
set_option maxRecDepth 20000 in
theorem ggX6_sends_X6_lengthOf : GoodIn wsX6_sends wsX6_lengthOf := goodIn_r _ [7, 2, 8, 9, 10, 6, 11, 28, 29, 30, 31, 32, 33, 34, 35, 36, 37, 38, 39, 40, 41, 42, 43] (by decide +kernel) (by decide +kernel)
set_option maxRecDepth 20000 in
theorem gX6_sends_X6_lengthOf : GoodIn wsX6_sends (wsV RX6 107 RX6 yX6_lengthOf wsX6_lengthOf) := goodIn_app (goodIn_of _ (by decide +kernel)) ggX6_sends_X6_lengthOf
set_option maxRecDepth 20000 in
theorem ggX6_sends_X6_nodeOf : GoodIn wsX6_sends wsX6_nodeOf := goodIn_r _ [15, 2, 8, 9, 10, 6, 11, 28, 29, 30, 31, 32, 33, 34, 35, 36, 37, 38, 39, 40, 41, 42, 43] (by decide +kernel) (by decide +kernel)
set_option maxRecDepth 20000 in
theorem gX6_sends_X6_nodeOf : GoodIn wsX6_sends (wsV RX6 113 RX6 yX6_nodeOf wsX6_nodeOf) := goodIn_app (goodIn_of _ (by decide +kernel)) ggX6_sends_X6_nodeOf
set_option maxRecDepth 20000 in
theorem ggX6_sends_X6_linkOf : GoodIn wsX6_sends wsX6_linkOf := goodIn_r _ [19, 2, 20, 21, 22, 6, 23, 28, 29, 30, 31, 32, 33, 34, 35, 36, 37, 38, 39, 40, 41, 42, 43] (by decide +kernel) (by decide +kernel)
set_option maxRecDepth 20000 in
theorem gX6_sends_X6_linkOf : GoodIn wsX6_sends (wsV RX6 65 RX6 yX6_linkOf wsX6_linkOf) := goodIn_app (goodIn_of _ (by decide +kernel)) ggX6_sends_X6_linkOf
set_option maxRecDepth 20000 in
theorem ggX6_sends_X6_ofLink : GoodIn wsX6_sends wsX6_ofLink := goodIn_r _ [23, 2, 28, 29, 30, 31, 32, 33, 34, 35, 36, 37, 38, 39, 40, 41, 42, 43] (by decide +kernel) (by decide +kernel)
set_option maxRecDepth 20000 in
theorem gX6_sends_X6_ofLink : GoodIn wsX6_sends (wsV RX6 47 RX6 yX6_ofLink wsX6_ofLink) := goodIn_app (goodIn_of _ (by decide +kernel)) ggX6_sends_X6_ofLink
set_option maxRecDepth 20000 in
theorem ggX6_sends_X6_spends : GoodIn wsX6_sends wsX6_spends := goodIn_r _ [27, 2, 28, 29, 30, 31, 32, 33, 34, 35, 36, 37, 38, 39, 40, 41, 42, 43] (by decide +kernel) (by decide +kernel)
set_option maxRecDepth 20000 in
theorem gX6_sends_X6_spends : GoodIn wsX6_sends (wsV RX6 126 RX6 yX6_spends wsX6_spends) := goodIn_app (goodIn_of _ (by decide +kernel)) ggX6_sends_X6_spends
theorem dX6_sends_0 : decode cX6_sends 0 = .ok (.iconst 0, 1) := by decide +kernel
theorem dX6_sends_1 : decode cX6_sends 1 = .ok (.istore_n 3, 1) := by decide +kernel
