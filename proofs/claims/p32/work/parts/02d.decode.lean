theorem dX5_init_49 : decode cX5_init 49 = .ok (.new 37, 3) := by decide +kernel
theorem dX5_init_52 : decode cX5_init 52 = .ok (.dup, 1) := by decide +kernel
theorem dX5_init_53 : decode cX5_init 53 = .ok (.invokespecial 39, 3) := by decide +kernel
theorem dX5_init_56 : decode cX5_init 56 = .ok (.putfield 40, 3) := by decide +kernel
theorem dX5_init_59 : decode cX5_init 59 = .ok (.return_, 1) := by decide +kernel
set_option maxRecDepth 20000 in
theorem ggX5_addNode_X5_isWithin : GoodIn wsX5_addNode wsX5_isWithin := goodIn_r _ [6] (by decide +kernel) (by decide +kernel)
set_option maxRecDepth 20000 in
theorem gX5_addNode_X5_isWithin : GoodIn wsX5_addNode (va_wsS RX5 44 yX5_isWithin wsX5_isWithin) := goodIn_app (goodIn_of _ (by decide +kernel)) ggX5_addNode_X5_isWithin
set_option maxRecDepth 20000 in
theorem ggX5_addNode_X1_number : GoodIn wsX5_addNode wsX1_number := goodIn_r _ [11, 12, 13, 14, 15, 10, 16, 17, 18, 5, 19, 20, 21, 22, 23, 24, 25, 26, 69, 70, 71, 72, 73, 74, 75] (by decide +kernel) (by decide +kernel)
set_option maxRecDepth 20000 in
theorem gX5_addNode_X1_number : GoodIn wsX5_addNode (wsV RX5 48 RX1 yX1_number wsX1_number) := goodIn_app (goodIn_of _ (by decide +kernel)) ggX5_addNode_X1_number
set_option maxRecDepth 20000 in
theorem ggX5_addNode_X0_record : GoodIn wsX5_addNode wsX0_record := goodIn_r _ [31, 32, 33, 34, 35, 36, 30, 37, 38, 39, 40, 41, 10, 42, 12, 17, 43, 44, 45, 46, 47, 48, 5, 49, 50, 51, 52, 53, 54, 55, 56, 57, 76, 77, 78, 69, 70, 71, 72, 73, 74, 75] (by decide +kernel) (by decide +kernel)
set_option maxRecDepth 20000 in
theorem gX5_addNode_X0_record : GoodIn wsX5_addNode (wsV RX5 52 RX0 yX0_record wsX0_record) := goodIn_app (goodIn_of _ (by decide +kernel)) ggX5_addNode_X0_record
set_option maxRecDepth 20000 in
theorem ggX5_addNode_X1_appendNode : GoodIn wsX5_addNode wsX1_appendNode := goodIn_r _ [61, 12, 17, 18, 5, 19, 62, 63, 69, 70, 71, 72, 73, 74, 75] (by decide +kernel) (by decide +kernel)
set_option maxRecDepth 20000 in
theorem gX5_addNode_X1_appendNode : GoodIn wsX5_addNode (wsV RX5 56 RX1 yX1_appendNode wsX1_appendNode) := goodIn_app (goodIn_of _ (by decide +kernel)) ggX5_addNode_X1_appendNode
theorem dX5_addNode_0 : decode cX5_addNode 0 = .ok (.iload_n 1, 1) := by decide +kernel
theorem dX5_addNode_1 : decode cX5_addNode 1 = .ok (.iconst 1, 1) := by decide +kernel
theorem dX5_addNode_2 : decode cX5_addNode 2 = .ok (.sipush 10000, 3) := by decide +kernel
theorem dX5_addNode_5 : decode cX5_addNode 5 = .ok (.invokestatic 44, 3) := by decide +kernel
theorem dX5_addNode_8 : decode cX5_addNode 8 = .ok (.ifCond .ne 7, 3) := by decide +kernel
theorem dX5_addNode_11 : decode cX5_addNode 11 = .ok (.sipush (-1002), 3) := by decide +kernel
theorem dX5_addNode_14 : decode cX5_addNode 14 = .ok (.ireturn, 1) := by decide +kernel
theorem dX5_addNode_15 : decode cX5_addNode 15 = .ok (.aload_n 0, 1) := by decide +kernel
theorem dX5_addNode_16 : decode cX5_addNode 16 = .ok (.getfield 10, 3) := by decide +kernel
theorem dX5_addNode_19 : decode cX5_addNode 19 = .ok (.iconst 0, 1) := by decide +kernel
theorem dX5_addNode_20 : decode cX5_addNode 20 = .ok (.invokevirtual 48, 3) := by decide +kernel
theorem dX5_addNode_23 : decode cX5_addNode 23 = .ok (.bipush 10, 2) := by decide +kernel
theorem dX5_addNode_25 : decode cX5_addNode 25 = .ok (.if_icmp .lt 7, 3) := by decide +kernel
theorem dX5_addNode_28 : decode cX5_addNode 28 = .ok (.sipush (-1004), 3) := by decide +kernel
theorem dX5_addNode_31 : decode cX5_addNode 31 = .ok (.ireturn, 1) := by decide +kernel
theorem dX5_addNode_32 : decode cX5_addNode 32 = .ok (.aload_n 0, 1) := by decide +kernel
theorem dX5_addNode_33 : decode cX5_addNode 33 = .ok (.getfield 33, 3) := by decide +kernel
theorem dX5_addNode_36 : decode cX5_addNode 36 = .ok (.aload_n 0, 1) := by decide +kernel
theorem dX5_addNode_37 : decode cX5_addNode 37 = .ok (.getfield 10, 3) := by decide +kernel
theorem dX5_addNode_40 : decode cX5_addNode 40 = .ok (.invokevirtual 52, 3) := by decide +kernel
theorem dX5_addNode_43 : decode cX5_addNode 43 = .ok (.aload_n 0, 1) := by decide +kernel
theorem dX5_addNode_44 : decode cX5_addNode 44 = .ok (.getfield 10, 3) := by decide +kernel
theorem dX5_addNode_47 : decode cX5_addNode 47 = .ok (.iload_n 1, 1) := by decide +kernel
theorem dX5_addNode_48 : decode cX5_addNode 48 = .ok (.invokevirtual 56, 3) := by decide +kernel
theorem dX5_addNode_51 : decode cX5_addNode 51 = .ok (.ireturn, 1) := by decide +kernel
set_option maxRecDepth 20000 in
theorem ggX5_charge_X1_has : GoodIn wsX5_charge wsX1_has := goodIn_r _ [7, 8, 9, 10, 11, 62, 63, 64, 65, 66, 67, 68] (by decide +kernel) (by decide +kernel)
set_option maxRecDepth 20000 in
theorem gX5_charge_X1_has : GoodIn wsX5_charge (wsV RX5 59 RX1 yX1_has wsX1_has) := goodIn_app (goodIn_of _ (by decide +kernel)) ggX5_charge_X1_has
set_option maxRecDepth 20000 in
theorem ggX5_charge_X5_isWithin : GoodIn wsX5_charge wsX5_isWithin := goodIn_r _ [14] (by decide +kernel) (by decide +kernel)
set_option maxRecDepth 20000 in
theorem gX5_charge_X5_isWithin : GoodIn wsX5_charge (va_wsS RX5 44 yX5_isWithin wsX5_isWithin) := goodIn_app (goodIn_of _ (by decide +kernel)) ggX5_charge_X5_isWithin
set_option maxRecDepth 20000 in
theorem ggX5_charge_X0_record : GoodIn wsX5_charge wsX0_record := goodIn_r _ [19, 20, 21, 22, 23, 24, 18, 25, 26, 27, 28, 29, 6, 30, 8, 31, 32, 33, 34, 35, 36, 37, 10, 38, 39, 40, 41, 42, 43, 44, 45, 46, 69, 70, 71, 62, 63, 64, 65, 66, 67, 68] (by decide +kernel) (by decide +kernel)
set_option maxRecDepth 20000 in
theorem gX5_charge_X0_record : GoodIn wsX5_charge (wsV RX5 52 RX0 yX0_record wsX0_record) := goodIn_app (goodIn_of _ (by decide +kernel)) ggX5_charge_X0_record
set_option maxRecDepth 20000 in
theorem ggX5_charge_X1_energyOf : GoodIn wsX5_charge wsX1_energyOf := goodIn_r _ [50, 31, 9, 10, 11, 62, 63, 64, 65, 66, 67, 68] (by decide +kernel) (by decide +kernel)
set_option maxRecDepth 20000 in
theorem gX5_charge_X1_energyOf : GoodIn wsX5_charge (wsV RX5 63 RX1 yX1_energyOf wsX1_energyOf) := goodIn_app (goodIn_of _ (by decide +kernel)) ggX5_charge_X1_energyOf
set_option maxRecDepth 20000 in
theorem ggX5_charge_X1_setEnergy : GoodIn wsX5_charge wsX1_setEnergy := goodIn_r _ [54, 31, 55, 10, 56, 62, 63, 64, 65, 66, 67, 68] (by decide +kernel) (by decide +kernel)
set_option maxRecDepth 20000 in
theorem gX5_charge_X1_setEnergy : GoodIn wsX5_charge (wsV RX5 66 RX1 yX1_setEnergy wsX1_setEnergy) := goodIn_app (goodIn_of _ (by decide +kernel)) ggX5_charge_X1_setEnergy
theorem dX5_charge_0 : decode cX5_charge 0 = .ok (.aload_n 0, 1) := by decide +kernel
theorem dX5_charge_1 : decode cX5_charge 1 = .ok (.getfield 10, 3) := by decide +kernel
theorem dX5_charge_4 : decode cX5_charge 4 = .ok (.iconst 0, 1) := by decide +kernel
theorem dX5_charge_5 : decode cX5_charge 5 = .ok (.iload_n 1, 1) := by decide +kernel
theorem dX5_charge_6 : decode cX5_charge 6 = .ok (.invokevirtual 59, 3) := by decide +kernel
theorem dX5_charge_9 : decode cX5_charge 9 = .ok (.ifCond .ne 7, 3) := by decide +kernel
theorem dX5_charge_12 : decode cX5_charge 12 = .ok (.sipush (-1001), 3) := by decide +kernel
theorem dX5_charge_15 : decode cX5_charge 15 = .ok (.ireturn, 1) := by decide +kernel
theorem dX5_charge_16 : decode cX5_charge 16 = .ok (.iload_n 2, 1) := by decide +kernel
theorem dX5_charge_17 : decode cX5_charge 17 = .ok (.iconst 0, 1) := by decide +kernel
theorem dX5_charge_18 : decode cX5_charge 18 = .ok (.sipush 10000, 3) := by decide +kernel
theorem dX5_charge_21 : decode cX5_charge 21 = .ok (.invokestatic 44, 3) := by decide +kernel
theorem dX5_charge_24 : decode cX5_charge 24 = .ok (.ifCond .ne 7, 3) := by decide +kernel
theorem dX5_charge_27 : decode cX5_charge 27 = .ok (.sipush (-1002), 3) := by decide +kernel
theorem dX5_charge_30 : decode cX5_charge 30 = .ok (.ireturn, 1) := by decide +kernel
theorem dX5_charge_31 : decode cX5_charge 31 = .ok (.aload_n 0, 1) := by decide +kernel
theorem dX5_charge_32 : decode cX5_charge 32 = .ok (.getfield 33, 3) := by decide +kernel
theorem dX5_charge_35 : decode cX5_charge 35 = .ok (.aload_n 0, 1) := by decide +kernel
theorem dX5_charge_36 : decode cX5_charge 36 = .ok (.getfield 10, 3) := by decide +kernel
theorem dX5_charge_39 : decode cX5_charge 39 = .ok (.invokevirtual 52, 3) := by decide +kernel
theorem dX5_charge_42 : decode cX5_charge 42 = .ok (.aload_n 0, 1) := by decide +kernel
theorem dX5_charge_43 : decode cX5_charge 43 = .ok (.getfield 10, 3) := by decide +kernel
theorem dX5_charge_46 : decode cX5_charge 46 = .ok (.iload_n 1, 1) := by decide +kernel
theorem dX5_charge_47 : decode cX5_charge 47 = .ok (.invokevirtual 63, 3) := by decide +kernel
theorem dX5_charge_50 : decode cX5_charge 50 = .ok (.istore_n 3, 1) := by decide +kernel
theorem dX5_charge_51 : decode cX5_charge 51 = .ok (.aload_n 0, 1) := by decide +kernel
theorem dX5_charge_52 : decode cX5_charge 52 = .ok (.getfield 10, 3) := by decide +kernel
theorem dX5_charge_55 : decode cX5_charge 55 = .ok (.iload_n 1, 1) := by decide +kernel
theorem dX5_charge_56 : decode cX5_charge 56 = .ok (.iload_n 2, 1) := by decide +kernel
theorem dX5_charge_57 : decode cX5_charge 57 = .ok (.invokevirtual 66, 3) := by decide +kernel
theorem dX5_charge_60 : decode cX5_charge 60 = .ok (.iload_n 3, 1) := by decide +kernel
theorem dX5_charge_61 : decode cX5_charge 61 = .ok (.ireturn, 1) := by decide +kernel
set_option maxRecDepth 20000 in
theorem ggX5_link_X1_has : GoodIn wsX5_link wsX1_has := goodIn_r _ [7, 8, 9, 10, 11, 84, 85, 86, 87, 88, 89, 90] (by decide +kernel) (by decide +kernel)
set_option maxRecDepth 20000 in
theorem gX5_link_X1_has : GoodIn wsX5_link (wsV RX5 59 RX1 yX1_has wsX1_has) := goodIn_app (goodIn_of _ (by decide +kernel)) ggX5_link_X1_has
set_option maxRecDepth 20000 in
theorem ggX5_link_X5_isWithin : GoodIn wsX5_link wsX5_isWithin := goodIn_r _ [14] (by decide +kernel) (by decide +kernel)
set_option maxRecDepth 20000 in
theorem gX5_link_X5_isWithin : GoodIn wsX5_link (va_wsS RX5 44 yX5_isWithin wsX5_isWithin) := goodIn_app (goodIn_of _ (by decide +kernel)) ggX5_link_X5_isWithin
set_option maxRecDepth 20000 in
theorem ggX5_link_X1_areLinked : GoodIn wsX5_link wsX1_areLinked := goodIn_r _ [18, 8, 9, 10, 11, 19, 20, 21, 6, 22, 23, 24, 25, 26, 84, 85, 86, 87, 88, 89, 90] (by decide +kernel) (by decide +kernel)
set_option maxRecDepth 20000 in
theorem gX5_link_X1_areLinked : GoodIn wsX5_link (wsV RX5 70 RX1 yX1_areLinked wsX1_areLinked) := goodIn_app (goodIn_of _ (by decide +kernel)) ggX5_link_X1_areLinked
set_option maxRecDepth 20000 in
theorem ggX5_link_X1_number : GoodIn wsX5_link wsX1_number := goodIn_r _ [30, 8, 31, 32, 33, 6, 34, 35, 9, 10, 11, 36, 37, 38, 39, 40, 41, 42, 84, 85, 86, 87, 88, 89, 90] (by decide +kernel) (by decide +kernel)
set_option maxRecDepth 20000 in
theorem gX5_link_X1_number : GoodIn wsX5_link (wsV RX5 48 RX1 yX1_number wsX1_number) := goodIn_app (goodIn_of _ (by decide +kernel)) ggX5_link_X1_number
set_option maxRecDepth 20000 in
theorem ggX5_link_X0_record : GoodIn wsX5_link wsX0_record := goodIn_r _ [47, 48, 49, 50, 51, 52, 46, 53, 54, 55, 56, 57, 6, 58, 8, 35, 23, 59, 60, 61, 62, 63, 10, 64, 65, 66, 67, 68, 69, 70, 71, 72, 91, 92, 93, 84, 85, 86, 87, 88, 89, 90] (by decide +kernel) (by decide +kernel)
set_option maxRecDepth 20000 in
theorem gX5_link_X0_record : GoodIn wsX5_link (wsV RX5 52 RX0 yX0_record wsX0_record) := goodIn_app (goodIn_of _ (by decide +kernel)) ggX5_link_X0_record
set_option maxRecDepth 20000 in
theorem ggX5_link_X1_appendLink : GoodIn wsX5_link wsX1_appendLink := goodIn_r _ [76, 8, 23, 9, 10, 11, 77, 78, 84, 85, 86, 87, 88, 89, 90] (by decide +kernel) (by decide +kernel)
set_option maxRecDepth 20000 in
theorem gX5_link_X1_appendLink : GoodIn wsX5_link (wsV RX5 73 RX1 yX1_appendLink wsX1_appendLink) := goodIn_app (goodIn_of _ (by decide +kernel)) ggX5_link_X1_appendLink
theorem dX5_link_0 : decode cX5_link 0 = .ok (.aload_n 0, 1) := by decide +kernel
theorem dX5_link_1 : decode cX5_link 1 = .ok (.getfield 10, 3) := by decide +kernel
theorem dX5_link_4 : decode cX5_link 4 = .ok (.iconst 0, 1) := by decide +kernel
theorem dX5_link_5 : decode cX5_link 5 = .ok (.iload_n 1, 1) := by decide +kernel
theorem dX5_link_6 : decode cX5_link 6 = .ok (.invokevirtual 59, 3) := by decide +kernel
theorem dX5_link_9 : decode cX5_link 9 = .ok (.ifCond .eq 15, 3) := by decide +kernel
theorem dX5_link_12 : decode cX5_link 12 = .ok (.aload_n 0, 1) := by decide +kernel
theorem dX5_link_13 : decode cX5_link 13 = .ok (.getfield 10, 3) := by decide +kernel
theorem dX5_link_16 : decode cX5_link 16 = .ok (.iconst 0, 1) := by decide +kernel
theorem dX5_link_17 : decode cX5_link 17 = .ok (.iload_n 2, 1) := by decide +kernel
theorem dX5_link_18 : decode cX5_link 18 = .ok (.invokevirtual 59, 3) := by decide +kernel
theorem dX5_link_21 : decode cX5_link 21 = .ok (.ifCond .ne 7, 3) := by decide +kernel
theorem dX5_link_24 : decode cX5_link 24 = .ok (.sipush (-1001), 3) := by decide +kernel
theorem dX5_link_27 : decode cX5_link 27 = .ok (.ireturn, 1) := by decide +kernel
theorem dX5_link_28 : decode cX5_link 28 = .ok (.iload_n 3, 1) := by decide +kernel
theorem dX5_link_29 : decode cX5_link 29 = .ok (.iconst 1, 1) := by decide +kernel
theorem dX5_link_30 : decode cX5_link 30 = .ok (.bipush 20, 2) := by decide +kernel
theorem dX5_link_32 : decode cX5_link 32 = .ok (.invokestatic 44, 3) := by decide +kernel
theorem dX5_link_35 : decode cX5_link 35 = .ok (.ifCond .ne 7, 3) := by decide +kernel
theorem dX5_link_38 : decode cX5_link 38 = .ok (.sipush (-1002), 3) := by decide +kernel
theorem dX5_link_41 : decode cX5_link 41 = .ok (.ireturn, 1) := by decide +kernel
theorem dX5_link_42 : decode cX5_link 42 = .ok (.iload_n 1, 1) := by decide +kernel
theorem dX5_link_43 : decode cX5_link 43 = .ok (.iload_n 2, 1) := by decide +kernel
theorem dX5_link_44 : decode cX5_link 44 = .ok (.if_icmp .eq 15, 3) := by decide +kernel
theorem dX5_link_47 : decode cX5_link 47 = .ok (.aload_n 0, 1) := by decide +kernel
theorem dX5_link_48 : decode cX5_link 48 = .ok (.getfield 10, 3) := by decide +kernel
theorem dX5_link_51 : decode cX5_link 51 = .ok (.iload_n 1, 1) := by decide +kernel
theorem dX5_link_52 : decode cX5_link 52 = .ok (.iload_n 2, 1) := by decide +kernel
theorem dX5_link_53 : decode cX5_link 53 = .ok (.invokevirtual 70, 3) := by decide +kernel
theorem dX5_link_56 : decode cX5_link 56 = .ok (.ifCond .eq 7, 3) := by decide +kernel
theorem dX5_link_59 : decode cX5_link 59 = .ok (.sipush (-1003), 3) := by decide +kernel
theorem dX5_link_62 : decode cX5_link 62 = .ok (.ireturn, 1) := by decide +kernel
theorem dX5_link_63 : decode cX5_link 63 = .ok (.aload_n 0, 1) := by decide +kernel
theorem dX5_link_64 : decode cX5_link 64 = .ok (.getfield 10, 3) := by decide +kernel
theorem dX5_link_67 : decode cX5_link 67 = .ok (.iconst 1, 1) := by decide +kernel
theorem dX5_link_68 : decode cX5_link 68 = .ok (.invokevirtual 48, 3) := by decide +kernel
theorem dX5_link_71 : decode cX5_link 71 = .ok (.bipush 20, 2) := by decide +kernel
theorem dX5_link_73 : decode cX5_link 73 = .ok (.if_icmp .lt 7, 3) := by decide +kernel
theorem dX5_link_76 : decode cX5_link 76 = .ok (.sipush (-1004), 3) := by decide +kernel
theorem dX5_link_79 : decode cX5_link 79 = .ok (.ireturn, 1) := by decide +kernel
theorem dX5_link_80 : decode cX5_link 80 = .ok (.aload_n 0, 1) := by decide +kernel
theorem dX5_link_81 : decode cX5_link 81 = .ok (.getfield 33, 3) := by decide +kernel
theorem dX5_link_84 : decode cX5_link 84 = .ok (.aload_n 0, 1) := by decide +kernel
theorem dX5_link_85 : decode cX5_link 85 = .ok (.getfield 10, 3) := by decide +kernel
theorem dX5_link_88 : decode cX5_link 88 = .ok (.invokevirtual 52, 3) := by decide +kernel
theorem dX5_link_91 : decode cX5_link 91 = .ok (.aload_n 0, 1) := by decide +kernel
theorem dX5_link_92 : decode cX5_link 92 = .ok (.getfield 10, 3) := by decide +kernel
theorem dX5_link_95 : decode cX5_link 95 = .ok (.iload_n 1, 1) := by decide +kernel
theorem dX5_link_96 : decode cX5_link 96 = .ok (.iload_n 2, 1) := by decide +kernel
theorem dX5_link_97 : decode cX5_link 97 = .ok (.iload_n 3, 1) := by decide +kernel
theorem dX5_link_98 : decode cX5_link 98 = .ok (.invokevirtual 73, 3) := by decide +kernel
theorem dX5_link_101 : decode cX5_link 101 = .ok (.ireturn, 1) := by decide +kernel
set_option maxRecDepth 20000 in
theorem ggX5_cut_X1_has : GoodIn wsX5_cut wsX1_has := goodIn_r _ [7, 8, 9, 10, 11, 61, 62, 63, 64, 65, 66, 67] (by decide +kernel) (by decide +kernel)
set_option maxRecDepth 20000 in
theorem gX5_cut_X1_has : GoodIn wsX5_cut (wsV RX5 59 RX1 yX1_has wsX1_has) := goodIn_app (goodIn_of _ (by decide +kernel)) ggX5_cut_X1_has
set_option maxRecDepth 20000 in
theorem ggX5_cut_X0_record : GoodIn wsX5_cut wsX0_record := goodIn_r _ [16, 17, 18, 19, 20, 21, 15, 22, 23, 24, 25, 26, 6, 27, 8, 28, 29, 30, 31, 32, 33, 34, 10, 35, 36, 37, 38, 39, 40, 41, 42, 43, 68, 69, 70, 61, 62, 63, 64, 65, 66, 67] (by decide +kernel) (by decide +kernel)
set_option maxRecDepth 20000 in
theorem gX5_cut_X0_record : GoodIn wsX5_cut (wsV RX5 52 RX0 yX0_record wsX0_record) := goodIn_app (goodIn_of _ (by decide +kernel)) ggX5_cut_X0_record
set_option maxRecDepth 20000 in
theorem ggX5_cut_X1_removeLink : GoodIn wsX5_cut wsX1_removeLink := goodIn_r _ [47, 29, 8, 48, 10, 49, 50, 9, 11, 51, 52, 53, 54, 55, 61, 62, 63, 64, 65, 66, 67] (by decide +kernel) (by decide +kernel)
set_option maxRecDepth 20000 in
theorem gX5_cut_X1_removeLink : GoodIn wsX5_cut (wsV RX5 77 RX1 yX1_removeLink wsX1_removeLink) := goodIn_app (goodIn_of _ (by decide +kernel)) ggX5_cut_X1_removeLink
theorem dX5_cut_0 : decode cX5_cut 0 = .ok (.aload_n 0, 1) := by decide +kernel
theorem dX5_cut_1 : decode cX5_cut 1 = .ok (.getfield 10, 3) := by decide +kernel
theorem dX5_cut_4 : decode cX5_cut 4 = .ok (.iconst 1, 1) := by decide +kernel
theorem dX5_cut_5 : decode cX5_cut 5 = .ok (.iload_n 1, 1) := by decide +kernel
theorem dX5_cut_6 : decode cX5_cut 6 = .ok (.invokevirtual 59, 3) := by decide +kernel
theorem dX5_cut_9 : decode cX5_cut 9 = .ok (.ifCond .ne 7, 3) := by decide +kernel
theorem dX5_cut_12 : decode cX5_cut 12 = .ok (.sipush (-1001), 3) := by decide +kernel
theorem dX5_cut_15 : decode cX5_cut 15 = .ok (.ireturn, 1) := by decide +kernel
theorem dX5_cut_16 : decode cX5_cut 16 = .ok (.aload_n 0, 1) := by decide +kernel
theorem dX5_cut_17 : decode cX5_cut 17 = .ok (.getfield 33, 3) := by decide +kernel
theorem dX5_cut_20 : decode cX5_cut 20 = .ok (.aload_n 0, 1) := by decide +kernel
theorem dX5_cut_21 : decode cX5_cut 21 = .ok (.getfield 10, 3) := by decide +kernel
theorem dX5_cut_24 : decode cX5_cut 24 = .ok (.invokevirtual 52, 3) := by decide +kernel
theorem dX5_cut_27 : decode cX5_cut 27 = .ok (.aload_n 0, 1) := by decide +kernel
theorem dX5_cut_28 : decode cX5_cut 28 = .ok (.getfield 10, 3) := by decide +kernel
theorem dX5_cut_31 : decode cX5_cut 31 = .ok (.iload_n 1, 1) := by decide +kernel
theorem dX5_cut_32 : decode cX5_cut 32 = .ok (.invokevirtual 77, 3) := by decide +kernel
theorem dX5_cut_35 : decode cX5_cut 35 = .ok (.ireturn, 1) := by decide +kernel
set_option maxRecDepth 20000 in
theorem ggX5_addSensor_X1_has : GoodIn wsX5_addSensor wsX1_has := goodIn_r _ [7, 8, 9, 10, 11, 73, 74, 75, 76, 77, 78, 79] (by decide +kernel) (by decide +kernel)
set_option maxRecDepth 20000 in
theorem gX5_addSensor_X1_has : GoodIn wsX5_addSensor (wsV RX5 59 RX1 yX1_has wsX1_has) := goodIn_app (goodIn_of _ (by decide +kernel)) ggX5_addSensor_X1_has
set_option maxRecDepth 20000 in
theorem ggX5_addSensor_X5_isWithin : GoodIn wsX5_addSensor wsX5_isWithin := goodIn_r _ [14] (by decide +kernel) (by decide +kernel)
set_option maxRecDepth 20000 in
theorem gX5_addSensor_X5_isWithin : GoodIn wsX5_addSensor (va_wsS RX5 44 yX5_isWithin wsX5_isWithin) := goodIn_app (goodIn_of _ (by decide +kernel)) ggX5_addSensor_X5_isWithin
set_option maxRecDepth 20000 in
theorem ggX5_addSensor_X1_number : GoodIn wsX5_addSensor wsX1_number := goodIn_r _ [18, 8, 19, 20, 21, 6, 22, 23, 9, 10, 11, 24, 25, 26, 27, 28, 29, 30, 73, 74, 75, 76, 77, 78, 79] (by decide +kernel) (by decide +kernel)
set_option maxRecDepth 20000 in
theorem gX5_addSensor_X1_number : GoodIn wsX5_addSensor (wsV RX5 48 RX1 yX1_number wsX1_number) := goodIn_app (goodIn_of _ (by decide +kernel)) ggX5_addSensor_X1_number
set_option maxRecDepth 20000 in
theorem ggX5_addSensor_X0_record : GoodIn wsX5_addSensor wsX0_record := goodIn_r _ [35, 36, 37, 38, 39, 40, 34, 41, 42, 43, 44, 45, 6, 46, 8, 23, 47, 48, 49, 50, 51, 52, 10, 53, 54, 55, 56, 57, 58, 59, 60, 61, 80, 81, 82, 73, 74, 75, 76, 77, 78, 79] (by decide +kernel) (by decide +kernel)
set_option maxRecDepth 20000 in
theorem gX5_addSensor_X0_record : GoodIn wsX5_addSensor (wsV RX5 52 RX0 yX0_record wsX0_record) := goodIn_app (goodIn_of _ (by decide +kernel)) ggX5_addSensor_X0_record
set_option maxRecDepth 20000 in
theorem ggX5_addSensor_X1_appendSensor : GoodIn wsX5_addSensor wsX1_appendSensor := goodIn_r _ [65, 8, 48, 9, 10, 11, 66, 67, 73, 74, 75, 76, 77, 78, 79] (by decide +kernel) (by decide +kernel)
set_option maxRecDepth 20000 in
theorem gX5_addSensor_X1_appendSensor : GoodIn wsX5_addSensor (wsV RX5 80 RX1 yX1_appendSensor wsX1_appendSensor) := goodIn_app (goodIn_of _ (by decide +kernel)) ggX5_addSensor_X1_appendSensor
theorem dX5_addSensor_0 : decode cX5_addSensor 0 = .ok (.aload_n 0, 1) := by decide +kernel
theorem dX5_addSensor_1 : decode cX5_addSensor 1 = .ok (.getfield 10, 3) := by decide +kernel
theorem dX5_addSensor_4 : decode cX5_addSensor 4 = .ok (.iconst 0, 1) := by decide +kernel
theorem dX5_addSensor_5 : decode cX5_addSensor 5 = .ok (.iload_n 1, 1) := by decide +kernel
theorem dX5_addSensor_6 : decode cX5_addSensor 6 = .ok (.invokevirtual 59, 3) := by decide +kernel
theorem dX5_addSensor_9 : decode cX5_addSensor 9 = .ok (.ifCond .ne 7, 3) := by decide +kernel
theorem dX5_addSensor_12 : decode cX5_addSensor 12 = .ok (.sipush (-1001), 3) := by decide +kernel
theorem dX5_addSensor_15 : decode cX5_addSensor 15 = .ok (.ireturn, 1) := by decide +kernel
theorem dX5_addSensor_16 : decode cX5_addSensor 16 = .ok (.iload_n 2, 1) := by decide +kernel
theorem dX5_addSensor_17 : decode cX5_addSensor 17 = .ok (.iconst 0, 1) := by decide +kernel
theorem dX5_addSensor_18 : decode cX5_addSensor 18 = .ok (.bipush 7, 2) := by decide +kernel
theorem dX5_addSensor_20 : decode cX5_addSensor 20 = .ok (.invokestatic 44, 3) := by decide +kernel
theorem dX5_addSensor_23 : decode cX5_addSensor 23 = .ok (.ifCond .eq 14, 3) := by decide +kernel
theorem dX5_addSensor_26 : decode cX5_addSensor 26 = .ok (.iload_n 3, 1) := by decide +kernel
theorem dX5_addSensor_27 : decode cX5_addSensor 27 = .ok (.bipush (-100), 2) := by decide +kernel
theorem dX5_addSensor_29 : decode cX5_addSensor 29 = .ok (.bipush 100, 2) := by decide +kernel
theorem dX5_addSensor_31 : decode cX5_addSensor 31 = .ok (.invokestatic 44, 3) := by decide +kernel
theorem dX5_addSensor_34 : decode cX5_addSensor 34 = .ok (.ifCond .ne 7, 3) := by decide +kernel
theorem dX5_addSensor_37 : decode cX5_addSensor 37 = .ok (.sipush (-1002), 3) := by decide +kernel
theorem dX5_addSensor_40 : decode cX5_addSensor 40 = .ok (.ireturn, 1) := by decide +kernel
theorem dX5_addSensor_41 : decode cX5_addSensor 41 = .ok (.aload_n 0, 1) := by decide +kernel
theorem dX5_addSensor_42 : decode cX5_addSensor 42 = .ok (.getfield 10, 3) := by decide +kernel
theorem dX5_addSensor_45 : decode cX5_addSensor 45 = .ok (.iconst 2, 1) := by decide +kernel
theorem dX5_addSensor_46 : decode cX5_addSensor 46 = .ok (.invokevirtual 48, 3) := by decide +kernel
theorem dX5_addSensor_49 : decode cX5_addSensor 49 = .ok (.bipush 6, 2) := by decide +kernel
theorem dX5_addSensor_51 : decode cX5_addSensor 51 = .ok (.if_icmp .lt 7, 3) := by decide +kernel
theorem dX5_addSensor_54 : decode cX5_addSensor 54 = .ok (.sipush (-1004), 3) := by decide +kernel
theorem dX5_addSensor_57 : decode cX5_addSensor 57 = .ok (.ireturn, 1) := by decide +kernel
theorem dX5_addSensor_58 : decode cX5_addSensor 58 = .ok (.aload_n 0, 1) := by decide +kernel
theorem dX5_addSensor_59 : decode cX5_addSensor 59 = .ok (.getfield 33, 3) := by decide +kernel
theorem dX5_addSensor_62 : decode cX5_addSensor 62 = .ok (.aload_n 0, 1) := by decide +kernel
theorem dX5_addSensor_63 : decode cX5_addSensor 63 = .ok (.getfield 10, 3) := by decide +kernel
theorem dX5_addSensor_66 : decode cX5_addSensor 66 = .ok (.invokevirtual 52, 3) := by decide +kernel
theorem dX5_addSensor_69 : decode cX5_addSensor 69 = .ok (.aload_n 0, 1) := by decide +kernel
theorem dX5_addSensor_70 : decode cX5_addSensor 70 = .ok (.getfield 10, 3) := by decide +kernel
theorem dX5_addSensor_73 : decode cX5_addSensor 73 = .ok (.iload_n 1, 1) := by decide +kernel
theorem dX5_addSensor_74 : decode cX5_addSensor 74 = .ok (.iload_n 2, 1) := by decide +kernel
theorem dX5_addSensor_75 : decode cX5_addSensor 75 = .ok (.iload_n 3, 1) := by decide +kernel
theorem dX5_addSensor_76 : decode cX5_addSensor 76 = .ok (.invokevirtual 80, 3) := by decide +kernel
theorem dX5_addSensor_79 : decode cX5_addSensor 79 = .ok (.ireturn, 1) := by decide +kernel
set_option maxRecDepth 20000 in
theorem ggX5_measure_X1_has : GoodIn wsX5_measure wsX1_has := goodIn_r _ [7, 8, 9, 10, 11, 62, 63, 64, 65, 66, 67, 68] (by decide +kernel) (by decide +kernel)
set_option maxRecDepth 20000 in
theorem gX5_measure_X1_has : GoodIn wsX5_measure (wsV RX5 59 RX1 yX1_has wsX1_has) := goodIn_app (goodIn_of _ (by decide +kernel)) ggX5_measure_X1_has
set_option maxRecDepth 20000 in
theorem ggX5_measure_X5_isWithin : GoodIn wsX5_measure wsX5_isWithin := goodIn_r _ [14] (by decide +kernel) (by decide +kernel)
set_option maxRecDepth 20000 in
theorem gX5_measure_X5_isWithin : GoodIn wsX5_measure (va_wsS RX5 44 yX5_isWithin wsX5_isWithin) := goodIn_app (goodIn_of _ (by decide +kernel)) ggX5_measure_X5_isWithin
set_option maxRecDepth 20000 in
theorem ggX5_measure_X0_record : GoodIn wsX5_measure wsX0_record := goodIn_r _ [19, 20, 21, 22, 23, 24, 18, 25, 26, 27, 28, 29, 6, 30, 8, 31, 32, 33, 34, 35, 36, 37, 10, 38, 39, 40, 41, 42, 43, 44, 45, 46, 69, 70, 71, 62, 63, 64, 65, 66, 67, 68] (by decide +kernel) (by decide +kernel)
set_option maxRecDepth 20000 in
theorem gX5_measure_X0_record : GoodIn wsX5_measure (wsV RX5 52 RX0 yX0_record wsX0_record) := goodIn_app (goodIn_of _ (by decide +kernel)) ggX5_measure_X0_record
set_option maxRecDepth 20000 in
theorem ggX5_measure_X1_sensorPart : GoodIn wsX5_measure wsX1_sensorPart := goodIn_r _ [50, 33, 9, 10, 11, 62, 63, 64, 65, 66, 67, 68] (by decide +kernel) (by decide +kernel)
set_option maxRecDepth 20000 in
theorem gX5_measure_X1_sensorPart : GoodIn wsX5_measure (wsV RX5 83 RX1 yX1_sensorPart wsX1_sensorPart) := goodIn_app (goodIn_of _ (by decide +kernel)) ggX5_measure_X1_sensorPart
set_option maxRecDepth 20000 in
theorem ggX5_measure_X1_setValue : GoodIn wsX5_measure wsX1_setValue := goodIn_r _ [54, 33, 55, 10, 56, 62, 63, 64, 65, 66, 67, 68] (by decide +kernel) (by decide +kernel)
set_option maxRecDepth 20000 in
theorem gX5_measure_X1_setValue : GoodIn wsX5_measure (wsV RX5 87 RX1 yX1_setValue wsX1_setValue) := goodIn_app (goodIn_of _ (by decide +kernel)) ggX5_measure_X1_setValue
theorem dX5_measure_0 : decode cX5_measure 0 = .ok (.aload_n 0, 1) := by decide +kernel
theorem dX5_measure_1 : decode cX5_measure 1 = .ok (.getfield 10, 3) := by decide +kernel
theorem dX5_measure_4 : decode cX5_measure 4 = .ok (.iconst 2, 1) := by decide +kernel
theorem dX5_measure_5 : decode cX5_measure 5 = .ok (.iload_n 1, 1) := by decide +kernel
theorem dX5_measure_6 : decode cX5_measure 6 = .ok (.invokevirtual 59, 3) := by decide +kernel
theorem dX5_measure_9 : decode cX5_measure 9 = .ok (.ifCond .ne 7, 3) := by decide +kernel
theorem dX5_measure_12 : decode cX5_measure 12 = .ok (.sipush (-1001), 3) := by decide +kernel
theorem dX5_measure_15 : decode cX5_measure 15 = .ok (.ireturn, 1) := by decide +kernel
theorem dX5_measure_16 : decode cX5_measure 16 = .ok (.iload_n 2, 1) := by decide +kernel
theorem dX5_measure_17 : decode cX5_measure 17 = .ok (.bipush (-100), 2) := by decide +kernel
theorem dX5_measure_19 : decode cX5_measure 19 = .ok (.bipush 100, 2) := by decide +kernel
theorem dX5_measure_21 : decode cX5_measure 21 = .ok (.invokestatic 44, 3) := by decide +kernel
theorem dX5_measure_24 : decode cX5_measure 24 = .ok (.ifCond .ne 7, 3) := by decide +kernel
theorem dX5_measure_27 : decode cX5_measure 27 = .ok (.sipush (-1002), 3) := by decide +kernel
theorem dX5_measure_30 : decode cX5_measure 30 = .ok (.ireturn, 1) := by decide +kernel
theorem dX5_measure_31 : decode cX5_measure 31 = .ok (.aload_n 0, 1) := by decide +kernel
theorem dX5_measure_32 : decode cX5_measure 32 = .ok (.getfield 33, 3) := by decide +kernel
theorem dX5_measure_35 : decode cX5_measure 35 = .ok (.aload_n 0, 1) := by decide +kernel
theorem dX5_measure_36 : decode cX5_measure 36 = .ok (.getfield 10, 3) := by decide +kernel
theorem dX5_measure_39 : decode cX5_measure 39 = .ok (.invokevirtual 52, 3) := by decide +kernel
theorem dX5_measure_42 : decode cX5_measure 42 = .ok (.aload_n 0, 1) := by decide +kernel
theorem dX5_measure_43 : decode cX5_measure 43 = .ok (.getfield 10, 3) := by decide +kernel
theorem dX5_measure_46 : decode cX5_measure 46 = .ok (.iload_n 1, 1) := by decide +kernel
theorem dX5_measure_47 : decode cX5_measure 47 = .ok (.iconst 2, 1) := by decide +kernel
theorem dX5_measure_48 : decode cX5_measure 48 = .ok (.invokevirtual 83, 3) := by decide +kernel
theorem dX5_measure_51 : decode cX5_measure 51 = .ok (.istore_n 3, 1) := by decide +kernel
theorem dX5_measure_52 : decode cX5_measure 52 = .ok (.aload_n 0, 1) := by decide +kernel
theorem dX5_measure_53 : decode cX5_measure 53 = .ok (.getfield 10, 3) := by decide +kernel
theorem dX5_measure_56 : decode cX5_measure 56 = .ok (.iload_n 1, 1) := by decide +kernel
theorem dX5_measure_57 : decode cX5_measure 57 = .ok (.iload_n 2, 1) := by decide +kernel
theorem dX5_measure_58 : decode cX5_measure 58 = .ok (.invokevirtual 87, 3) := by decide +kernel
theorem dX5_measure_61 : decode cX5_measure 61 = .ok (.iload_n 3, 1) := by decide +kernel
theorem dX5_measure_62 : decode cX5_measure 62 = .ok (.ireturn, 1) := by decide +kernel
set_option maxRecDepth 20000 in
theorem ggX5_ask_X1_has : GoodIn wsX5_ask wsX1_has := goodIn_r _ [8, 9, 10, 11, 12, 76, 77, 78, 79, 80, 81, 82] (by decide +kernel) (by decide +kernel)
set_option maxRecDepth 20000 in
theorem gX5_ask_X1_has : GoodIn wsX5_ask (wsV RX5 59 RX1 yX1_has wsX1_has) := goodIn_app (goodIn_of _ (by decide +kernel)) ggX5_ask_X1_has
set_option maxRecDepth 20000 in
theorem ggX5_ask_X5_isWithin : GoodIn wsX5_ask wsX5_isWithin := goodIn_r _ [15] (by decide +kernel) (by decide +kernel)
set_option maxRecDepth 20000 in
theorem gX5_ask_X5_isWithin : GoodIn wsX5_ask (va_wsS RX5 44 yX5_isWithin wsX5_isWithin) := goodIn_app (goodIn_of _ (by decide +kernel)) ggX5_ask_X5_isWithin
set_option maxRecDepth 20000 in
theorem ggX5_ask_X1_number : GoodIn wsX5_ask wsX1_number := goodIn_r _ [19, 9, 20, 21, 22, 7, 23, 24, 10, 11, 12, 25, 26, 27, 28, 29, 30, 31, 76, 77, 78, 79, 80, 81, 82] (by decide +kernel) (by decide +kernel)
set_option maxRecDepth 20000 in
theorem gX5_ask_X1_number : GoodIn wsX5_ask (wsV RX5 48 RX1 yX1_number wsX1_number) := goodIn_app (goodIn_of _ (by decide +kernel)) ggX5_ask_X1_number
set_option maxRecDepth 20000 in
theorem ggX5_ask_X0_record : GoodIn wsX5_ask wsX0_record := goodIn_r _ [36, 37, 38, 39, 40, 41, 35, 42, 43, 44, 45, 46, 7, 47, 9, 24, 48, 49, 50, 51, 52, 53, 11, 54, 55, 56, 57, 58, 59, 60, 61, 62, 83, 84, 85, 76, 77, 78, 79, 80, 81, 82] (by decide +kernel) (by decide +kernel)
set_option maxRecDepth 20000 in
theorem gX5_ask_X0_record : GoodIn wsX5_ask (wsV RX5 52 RX0 yX0_record wsX0_record) := goodIn_app (goodIn_of _ (by decide +kernel)) ggX5_ask_X0_record
set_option maxRecDepth 20000 in
theorem ggX5_ask_X1_appendInterest : GoodIn wsX5_ask wsX1_appendInterest := goodIn_r _ [66, 9, 50, 51, 10, 11, 12, 67, 68, 69, 70, 76, 77, 78, 79, 80, 81, 82] (by decide +kernel) (by decide +kernel)
set_option maxRecDepth 20000 in
theorem gX5_ask_X1_appendInterest : GoodIn wsX5_ask (wsV RX5 91 RX1 yX1_appendInterest wsX1_appendInterest) := goodIn_app (goodIn_of _ (by decide +kernel)) ggX5_ask_X1_appendInterest
theorem dX5_ask_0 : decode cX5_ask 0 = .ok (.aload_n 0, 1) := by decide +kernel
theorem dX5_ask_1 : decode cX5_ask 1 = .ok (.getfield 10, 3) := by decide +kernel
theorem dX5_ask_4 : decode cX5_ask 4 = .ok (.iconst 0, 1) := by decide +kernel
theorem dX5_ask_5 : decode cX5_ask 5 = .ok (.iload_n 1, 1) := by decide +kernel
theorem dX5_ask_6 : decode cX5_ask 6 = .ok (.invokevirtual 59, 3) := by decide +kernel
theorem dX5_ask_9 : decode cX5_ask 9 = .ok (.ifCond .ne 7, 3) := by decide +kernel
theorem dX5_ask_12 : decode cX5_ask 12 = .ok (.sipush (-1001), 3) := by decide +kernel
theorem dX5_ask_15 : decode cX5_ask 15 = .ok (.ireturn, 1) := by decide +kernel
theorem dX5_ask_16 : decode cX5_ask 16 = .ok (.iload_n 2, 1) := by decide +kernel
theorem dX5_ask_17 : decode cX5_ask 17 = .ok (.iconst 0, 1) := by decide +kernel
theorem dX5_ask_18 : decode cX5_ask 18 = .ok (.bipush 7, 2) := by decide +kernel
theorem dX5_ask_20 : decode cX5_ask 20 = .ok (.invokestatic 44, 3) := by decide +kernel
theorem dX5_ask_23 : decode cX5_ask 23 = .ok (.ifCond .eq 43, 3) := by decide +kernel
theorem dX5_ask_26 : decode cX5_ask 26 = .ok (.iload_n 3, 1) := by decide +kernel
theorem dX5_ask_27 : decode cX5_ask 27 = .ok (.bipush (-100), 2) := by decide +kernel
theorem dX5_ask_29 : decode cX5_ask 29 = .ok (.bipush 100, 2) := by decide +kernel
theorem dX5_ask_31 : decode cX5_ask 31 = .ok (.invokestatic 44, 3) := by decide +kernel
theorem dX5_ask_34 : decode cX5_ask 34 = .ok (.ifCond .eq 32, 3) := by decide +kernel
theorem dX5_ask_37 : decode cX5_ask 37 = .ok (.iload 4, 2) := by decide +kernel
theorem dX5_ask_39 : decode cX5_ask 39 = .ok (.iload_n 3, 1) := by decide +kernel
theorem dX5_ask_40 : decode cX5_ask 40 = .ok (.bipush 100, 2) := by decide +kernel
theorem dX5_ask_42 : decode cX5_ask 42 = .ok (.invokestatic 44, 3) := by decide +kernel
theorem dX5_ask_45 : decode cX5_ask 45 = .ok (.ifCond .eq 21, 3) := by decide +kernel
theorem dX5_ask_48 : decode cX5_ask 48 = .ok (.iload 5, 2) := by decide +kernel
theorem dX5_ask_50 : decode cX5_ask 50 = .ok (.aload_n 0, 1) := by decide +kernel
theorem dX5_ask_51 : decode cX5_ask 51 = .ok (.getfield 10, 3) := by decide +kernel
theorem dX5_ask_54 : decode cX5_ask 54 = .ok (.iconst 5, 1) := by decide +kernel
theorem dX5_ask_55 : decode cX5_ask 55 = .ok (.invokevirtual 48, 3) := by decide +kernel
theorem dX5_ask_58 : decode cX5_ask 58 = .ok (.ldc 90, 2) := by decide +kernel
theorem dX5_ask_60 : decode cX5_ask 60 = .ok (.invokestatic 44, 3) := by decide +kernel
theorem dX5_ask_63 : decode cX5_ask 63 = .ok (.ifCond .ne 7, 3) := by decide +kernel
theorem dX5_ask_66 : decode cX5_ask 66 = .ok (.sipush (-1002), 3) := by decide +kernel
theorem dX5_ask_69 : decode cX5_ask 69 = .ok (.ireturn, 1) := by decide +kernel
theorem dX5_ask_70 : decode cX5_ask 70 = .ok (.aload_n 0, 1) := by decide +kernel
theorem dX5_ask_71 : decode cX5_ask 71 = .ok (.getfield 10, 3) := by decide +kernel
theorem dX5_ask_74 : decode cX5_ask 74 = .ok (.iconst 3, 1) := by decide +kernel
theorem dX5_ask_75 : decode cX5_ask 75 = .ok (.invokevirtual 48, 3) := by decide +kernel
theorem dX5_ask_78 : decode cX5_ask 78 = .ok (.iconst 5, 1) := by decide +kernel
theorem dX5_ask_79 : decode cX5_ask 79 = .ok (.if_icmp .lt 7, 3) := by decide +kernel
theorem dX5_ask_82 : decode cX5_ask 82 = .ok (.sipush (-1004), 3) := by decide +kernel
theorem dX5_ask_85 : decode cX5_ask 85 = .ok (.ireturn, 1) := by decide +kernel
theorem dX5_ask_86 : decode cX5_ask 86 = .ok (.aload_n 0, 1) := by decide +kernel
theorem dX5_ask_87 : decode cX5_ask 87 = .ok (.getfield 33, 3) := by decide +kernel
theorem dX5_ask_90 : decode cX5_ask 90 = .ok (.aload_n 0, 1) := by decide +kernel
theorem dX5_ask_91 : decode cX5_ask 91 = .ok (.getfield 10, 3) := by decide +kernel
theorem dX5_ask_94 : decode cX5_ask 94 = .ok (.invokevirtual 52, 3) := by decide +kernel
theorem dX5_ask_97 : decode cX5_ask 97 = .ok (.aload_n 0, 1) := by decide +kernel
theorem dX5_ask_98 : decode cX5_ask 98 = .ok (.getfield 10, 3) := by decide +kernel
theorem dX5_ask_101 : decode cX5_ask 101 = .ok (.iload_n 1, 1) := by decide +kernel
theorem dX5_ask_102 : decode cX5_ask 102 = .ok (.iload_n 2, 1) := by decide +kernel
theorem dX5_ask_103 : decode cX5_ask 103 = .ok (.iload_n 3, 1) := by decide +kernel
theorem dX5_ask_104 : decode cX5_ask 104 = .ok (.iload 4, 2) := by decide +kernel
theorem dX5_ask_106 : decode cX5_ask 106 = .ok (.iload 5, 2) := by decide +kernel
theorem dX5_ask_108 : decode cX5_ask 108 = .ok (.invokevirtual 91, 3) := by decide +kernel
theorem dX5_ask_111 : decode cX5_ask 111 = .ok (.ireturn, 1) := by decide +kernel
set_option maxRecDepth 20000 in
theorem ggX5_withdraw_X1_has : GoodIn wsX5_withdraw wsX1_has := goodIn_r _ [7, 8, 9, 10, 11, 76, 77, 78, 79, 80, 81, 82] (by decide +kernel) (by decide +kernel)
set_option maxRecDepth 20000 in
theorem gX5_withdraw_X1_has : GoodIn wsX5_withdraw (wsV RX5 59 RX1 yX1_has wsX1_has) := goodIn_app (goodIn_of _ (by decide +kernel)) ggX5_withdraw_X1_has
set_option maxRecDepth 20000 in
theorem ggX5_withdraw_X0_record : GoodIn wsX5_withdraw wsX0_record := goodIn_r _ [16, 17, 18, 19, 20, 21, 15, 22, 23, 24, 25, 26, 6, 27, 8, 28, 29, 30, 31, 32, 33, 34, 10, 35, 36, 37, 38, 39, 40, 41, 42, 43, 83, 84, 85, 76, 77, 78, 79, 80, 81, 82] (by decide +kernel) (by decide +kernel)
set_option maxRecDepth 20000 in
theorem gX5_withdraw_X0_record : GoodIn wsX5_withdraw (wsV RX5 52 RX0 yX0_record wsX0_record) := goodIn_app (goodIn_of _ (by decide +kernel)) ggX5_withdraw_X0_record
set_option maxRecDepth 20000 in
theorem ggX5_withdraw_X1_removeInterest : GoodIn wsX5_withdraw wsX1_removeInterest := goodIn_r _ [47, 31, 32, 33, 8, 48, 10, 49, 50, 9, 11, 51, 52, 53, 54, 55, 76, 77, 78, 79, 80, 81, 82] (by decide +kernel) (by decide +kernel)
set_option maxRecDepth 20000 in
theorem gX5_withdraw_X1_removeInterest : GoodIn wsX5_withdraw (wsV RX5 95 RX1 yX1_removeInterest wsX1_removeInterest) := goodIn_app (goodIn_of _ (by decide +kernel)) ggX5_withdraw_X1_removeInterest
set_option maxRecDepth 20000 in
theorem ggX5_withdraw_X1_number : GoodIn wsX5_withdraw wsX1_number := goodIn_r _ [59, 8, 60, 61, 62, 6, 63, 28, 9, 10, 11, 64, 65, 66, 67, 68, 69, 70, 76, 77, 78, 79, 80, 81, 82] (by decide +kernel) (by decide +kernel)
set_option maxRecDepth 20000 in
theorem gX5_withdraw_X1_number : GoodIn wsX5_withdraw (wsV RX5 48 RX1 yX1_number wsX1_number) := goodIn_app (goodIn_of _ (by decide +kernel)) ggX5_withdraw_X1_number
theorem dX5_withdraw_0 : decode cX5_withdraw 0 = .ok (.aload_n 0, 1) := by decide +kernel
theorem dX5_withdraw_1 : decode cX5_withdraw 1 = .ok (.getfield 10, 3) := by decide +kernel
theorem dX5_withdraw_4 : decode cX5_withdraw 4 = .ok (.iconst 3, 1) := by decide +kernel
theorem dX5_withdraw_5 : decode cX5_withdraw 5 = .ok (.iload_n 1, 1) := by decide +kernel
theorem dX5_withdraw_6 : decode cX5_withdraw 6 = .ok (.invokevirtual 59, 3) := by decide +kernel
theorem dX5_withdraw_9 : decode cX5_withdraw 9 = .ok (.ifCond .ne 7, 3) := by decide +kernel
theorem dX5_withdraw_12 : decode cX5_withdraw 12 = .ok (.sipush (-1001), 3) := by decide +kernel
theorem dX5_withdraw_15 : decode cX5_withdraw 15 = .ok (.ireturn, 1) := by decide +kernel
theorem dX5_withdraw_16 : decode cX5_withdraw 16 = .ok (.aload_n 0, 1) := by decide +kernel
theorem dX5_withdraw_17 : decode cX5_withdraw 17 = .ok (.getfield 33, 3) := by decide +kernel
theorem dX5_withdraw_20 : decode cX5_withdraw 20 = .ok (.aload_n 0, 1) := by decide +kernel
theorem dX5_withdraw_21 : decode cX5_withdraw 21 = .ok (.getfield 10, 3) := by decide +kernel
theorem dX5_withdraw_24 : decode cX5_withdraw 24 = .ok (.invokevirtual 52, 3) := by decide +kernel
theorem dX5_withdraw_27 : decode cX5_withdraw 27 = .ok (.aload_n 0, 1) := by decide +kernel
theorem dX5_withdraw_28 : decode cX5_withdraw 28 = .ok (.getfield 10, 3) := by decide +kernel
theorem dX5_withdraw_31 : decode cX5_withdraw 31 = .ok (.iload_n 1, 1) := by decide +kernel
theorem dX5_withdraw_32 : decode cX5_withdraw 32 = .ok (.invokevirtual 95, 3) := by decide +kernel
theorem dX5_withdraw_35 : decode cX5_withdraw 35 = .ok (.aload_n 0, 1) := by decide +kernel
theorem dX5_withdraw_36 : decode cX5_withdraw 36 = .ok (.getfield 10, 3) := by decide +kernel
theorem dX5_withdraw_39 : decode cX5_withdraw 39 = .ok (.iconst 3, 1) := by decide +kernel
theorem dX5_withdraw_40 : decode cX5_withdraw 40 = .ok (.invokevirtual 48, 3) := by decide +kernel
theorem dX5_withdraw_43 : decode cX5_withdraw 43 = .ok (.ireturn, 1) := by decide +kernel
set_option maxRecDepth 20000 in
theorem ggX5_setPeriod_X5_isWithin : GoodIn wsX5_setPeriod wsX5_isWithin := goodIn_r _ [6] (by decide +kernel) (by decide +kernel)
set_option maxRecDepth 20000 in
theorem gX5_setPeriod_X5_isWithin : GoodIn wsX5_setPeriod (va_wsS RX5 44 yX5_isWithin wsX5_isWithin) := goodIn_app (goodIn_of _ (by decide +kernel)) ggX5_setPeriod_X5_isWithin
set_option maxRecDepth 20000 in
theorem ggX5_setPeriod_X0_record : GoodIn wsX5_setPeriod wsX0_record := goodIn_r _ [11, 12, 13, 14, 15, 16, 10, 17, 18, 19, 20, 21, 22, 23, 24, 25, 26, 27, 28, 29, 30, 31, 5, 32, 33, 34, 35, 36, 37, 38, 39, 40, 69, 70, 71, 72, 73, 74, 75, 76, 77, 78] (by decide +kernel) (by decide +kernel)
set_option maxRecDepth 20000 in
theorem gX5_setPeriod_X0_record : GoodIn wsX5_setPeriod (wsV RX5 52 RX0 yX0_record wsX0_record) := goodIn_app (goodIn_of _ (by decide +kernel)) ggX5_setPeriod_X0_record
set_option maxRecDepth 20000 in
theorem ggX5_setPeriod_X1_number : GoodIn wsX5_setPeriod wsX1_number := goodIn_r _ [44, 24, 45, 46, 47, 22, 48, 25, 49, 5, 50, 51, 52, 53, 54, 55, 56, 57, 72, 73, 74, 75, 76, 77, 78] (by decide +kernel) (by decide +kernel)
set_option maxRecDepth 20000 in
theorem gX5_setPeriod_X1_number : GoodIn wsX5_setPeriod (wsV RX5 48 RX1 yX1_number wsX1_number) := goodIn_app (goodIn_of _ (by decide +kernel)) ggX5_setPeriod_X1_number
set_option maxRecDepth 20000 in
theorem ggX5_setPeriod_X1_setNumber : GoodIn wsX5_setPeriod wsX1_setNumber := goodIn_r _ [61, 24, 62, 5, 63, 72, 73, 74, 75, 76, 77, 78] (by decide +kernel) (by decide +kernel)
set_option maxRecDepth 20000 in
theorem gX5_setPeriod_X1_setNumber : GoodIn wsX5_setPeriod (wsV RX5 99 RX1 yX1_setNumber wsX1_setNumber) := goodIn_app (goodIn_of _ (by decide +kernel)) ggX5_setPeriod_X1_setNumber
theorem dX5_setPeriod_0 : decode cX5_setPeriod 0 = .ok (.iload_n 1, 1) := by decide +kernel
theorem dX5_setPeriod_1 : decode cX5_setPeriod 1 = .ok (.iconst 1, 1) := by decide +kernel
theorem dX5_setPeriod_2 : decode cX5_setPeriod 2 = .ok (.bipush 50, 2) := by decide +kernel
theorem dX5_setPeriod_4 : decode cX5_setPeriod 4 = .ok (.invokestatic 44, 3) := by decide +kernel
theorem dX5_setPeriod_7 : decode cX5_setPeriod 7 = .ok (.ifCond .ne 7, 3) := by decide +kernel
theorem dX5_setPeriod_10 : decode cX5_setPeriod 10 = .ok (.sipush (-1002), 3) := by decide +kernel
theorem dX5_setPeriod_13 : decode cX5_setPeriod 13 = .ok (.ireturn, 1) := by decide +kernel
theorem dX5_setPeriod_14 : decode cX5_setPeriod 14 = .ok (.aload_n 0, 1) := by decide +kernel
theorem dX5_setPeriod_15 : decode cX5_setPeriod 15 = .ok (.getfield 33, 3) := by decide +kernel
theorem dX5_setPeriod_18 : decode cX5_setPeriod 18 = .ok (.aload_n 0, 1) := by decide +kernel
theorem dX5_setPeriod_19 : decode cX5_setPeriod 19 = .ok (.getfield 10, 3) := by decide +kernel
theorem dX5_setPeriod_22 : decode cX5_setPeriod 22 = .ok (.invokevirtual 52, 3) := by decide +kernel
theorem dX5_setPeriod_25 : decode cX5_setPeriod 25 = .ok (.aload_n 0, 1) := by decide +kernel
theorem dX5_setPeriod_26 : decode cX5_setPeriod 26 = .ok (.getfield 10, 3) := by decide +kernel
theorem dX5_setPeriod_29 : decode cX5_setPeriod 29 = .ok (.iconst 4, 1) := by decide +kernel
theorem dX5_setPeriod_30 : decode cX5_setPeriod 30 = .ok (.invokevirtual 48, 3) := by decide +kernel
theorem dX5_setPeriod_33 : decode cX5_setPeriod 33 = .ok (.istore_n 2, 1) := by decide +kernel
theorem dX5_setPeriod_34 : decode cX5_setPeriod 34 = .ok (.aload_n 0, 1) := by decide +kernel
theorem dX5_setPeriod_35 : decode cX5_setPeriod 35 = .ok (.getfield 10, 3) := by decide +kernel
theorem dX5_setPeriod_38 : decode cX5_setPeriod 38 = .ok (.iconst 4, 1) := by decide +kernel
theorem dX5_setPeriod_39 : decode cX5_setPeriod 39 = .ok (.iload_n 1, 1) := by decide +kernel
theorem dX5_setPeriod_40 : decode cX5_setPeriod 40 = .ok (.invokevirtual 99, 3) := by decide +kernel
theorem dX5_setPeriod_43 : decode cX5_setPeriod 43 = .ok (.iload_n 2, 1) := by decide +kernel
theorem dX5_setPeriod_44 : decode cX5_setPeriod 44 = .ok (.ireturn, 1) := by decide +kernel
set_option maxRecDepth 20000 in
theorem ggX5_count_X5_isWithin : GoodIn wsX5_count wsX5_isWithin := goodIn_r _ [5] (by decide +kernel) (by decide +kernel)
set_option maxRecDepth 20000 in
theorem gX5_count_X5_isWithin : GoodIn wsX5_count (va_wsS RX5 44 yX5_isWithin wsX5_isWithin) := goodIn_app (goodIn_of _ (by decide +kernel)) ggX5_count_X5_isWithin
set_option maxRecDepth 20000 in
theorem ggX5_count_X1_number : GoodIn wsX5_count wsX1_number := goodIn_r _ [10, 11, 12, 13, 14, 9, 15, 16, 17, 4, 18, 19, 20, 21, 22, 23, 24, 25, 31, 32, 33, 34, 35, 36, 37] (by decide +kernel) (by decide +kernel)
set_option maxRecDepth 20000 in
theorem gX5_count_X1_number : GoodIn wsX5_count (wsV RX5 48 RX1 yX1_number wsX1_number) := goodIn_app (goodIn_of _ (by decide +kernel)) ggX5_count_X1_number
theorem dX5_count_0 : decode cX5_count 0 = .ok (.iload_n 1, 1) := by decide +kernel
theorem dX5_count_1 : decode cX5_count 1 = .ok (.iconst 0, 1) := by decide +kernel
theorem dX5_count_2 : decode cX5_count 2 = .ok (.bipush 11, 2) := by decide +kernel
theorem dX5_count_4 : decode cX5_count 4 = .ok (.invokestatic 44, 3) := by decide +kernel
theorem dX5_count_7 : decode cX5_count 7 = .ok (.ifCond .eq 14, 3) := by decide +kernel
theorem dX5_count_10 : decode cX5_count 10 = .ok (.aload_n 0, 1) := by decide +kernel
theorem dX5_count_11 : decode cX5_count 11 = .ok (.getfield 10, 3) := by decide +kernel
theorem dX5_count_14 : decode cX5_count 14 = .ok (.iload_n 1, 1) := by decide +kernel
theorem dX5_count_15 : decode cX5_count 15 = .ok (.invokevirtual 48, 3) := by decide +kernel
theorem dX5_count_18 : decode cX5_count 18 = .ok (.goto 6, 3) := by decide +kernel
theorem dX5_count_21 : decode cX5_count 21 = .ok (.sipush (-1002), 3) := by decide +kernel
theorem dX5_count_24 : decode cX5_count 24 = .ok (.ireturn, 1) := by decide +kernel
set_option maxRecDepth 20000 in
theorem ggX5_energy_X1_has : GoodIn wsX5_energy wsX1_has := goodIn_r _ [6, 7, 8, 9, 10, 21, 22, 23, 24, 25, 26, 27] (by decide +kernel) (by decide +kernel)
set_option maxRecDepth 20000 in
theorem gX5_energy_X1_has : GoodIn wsX5_energy (wsV RX5 59 RX1 yX1_has wsX1_has) := goodIn_app (goodIn_of _ (by decide +kernel)) ggX5_energy_X1_has
set_option maxRecDepth 20000 in
theorem ggX5_energy_X1_energyOf : GoodIn wsX5_energy wsX1_energyOf := goodIn_r _ [14, 15, 8, 9, 10, 21, 22, 23, 24, 25, 26, 27] (by decide +kernel) (by decide +kernel)
set_option maxRecDepth 20000 in
theorem gX5_energy_X1_energyOf : GoodIn wsX5_energy (wsV RX5 63 RX1 yX1_energyOf wsX1_energyOf) := goodIn_app (goodIn_of _ (by decide +kernel)) ggX5_energy_X1_energyOf
theorem dX5_energy_0 : decode cX5_energy 0 = .ok (.aload_n 0, 1) := by decide +kernel
theorem dX5_energy_1 : decode cX5_energy 1 = .ok (.getfield 10, 3) := by decide +kernel
theorem dX5_energy_4 : decode cX5_energy 4 = .ok (.iconst 0, 1) := by decide +kernel
theorem dX5_energy_5 : decode cX5_energy 5 = .ok (.iload_n 1, 1) := by decide +kernel
theorem dX5_energy_6 : decode cX5_energy 6 = .ok (.invokevirtual 59, 3) := by decide +kernel
theorem dX5_energy_9 : decode cX5_energy 9 = .ok (.ifCond .eq 14, 3) := by decide +kernel
theorem dX5_energy_12 : decode cX5_energy 12 = .ok (.aload_n 0, 1) := by decide +kernel
theorem dX5_energy_13 : decode cX5_energy 13 = .ok (.getfield 10, 3) := by decide +kernel
theorem dX5_energy_16 : decode cX5_energy 16 = .ok (.iload_n 1, 1) := by decide +kernel
theorem dX5_energy_17 : decode cX5_energy 17 = .ok (.invokevirtual 63, 3) := by decide +kernel
theorem dX5_energy_20 : decode cX5_energy 20 = .ok (.goto 6, 3) := by decide +kernel
theorem dX5_energy_23 : decode cX5_energy 23 = .ok (.sipush (-1001), 3) := by decide +kernel
theorem dX5_energy_26 : decode cX5_energy 26 = .ok (.ireturn, 1) := by decide +kernel
set_option maxRecDepth 20000 in
theorem ggX5_linkPart_X1_has : GoodIn wsX5_linkPart wsX1_has := goodIn_r _ [6, 7, 8, 9, 10, 24, 25, 26, 27, 28, 29, 30] (by decide +kernel) (by decide +kernel)
set_option maxRecDepth 20000 in
theorem gX5_linkPart_X1_has : GoodIn wsX5_linkPart (wsV RX5 59 RX1 yX1_has wsX1_has) := goodIn_app (goodIn_of _ (by decide +kernel)) ggX5_linkPart_X1_has
set_option maxRecDepth 20000 in
theorem ggX5_linkPart_X5_isWithin : GoodIn wsX5_linkPart wsX5_isWithin := goodIn_r _ [13] (by decide +kernel) (by decide +kernel)
set_option maxRecDepth 20000 in
theorem gX5_linkPart_X5_isWithin : GoodIn wsX5_linkPart (va_wsS RX5 44 yX5_isWithin wsX5_isWithin) := goodIn_app (goodIn_of _ (by decide +kernel)) ggX5_linkPart_X5_isWithin
set_option maxRecDepth 20000 in
theorem ggX5_linkPart_X1_partOfLink : GoodIn wsX5_linkPart wsX1_partOfLink := goodIn_r _ [17, 18, 8, 9, 10, 24, 25, 26, 27, 28, 29, 30] (by decide +kernel) (by decide +kernel)
set_option maxRecDepth 20000 in
theorem gX5_linkPart_X1_partOfLink : GoodIn wsX5_linkPart (wsV RX5 102 RX1 yX1_partOfLink wsX1_partOfLink) := goodIn_app (goodIn_of _ (by decide +kernel)) ggX5_linkPart_X1_partOfLink
theorem dX5_linkPart_0 : decode cX5_linkPart 0 = .ok (.aload_n 0, 1) := by decide +kernel
theorem dX5_linkPart_1 : decode cX5_linkPart 1 = .ok (.getfield 10, 3) := by decide +kernel
theorem dX5_linkPart_4 : decode cX5_linkPart 4 = .ok (.iconst 1, 1) := by decide +kernel
theorem dX5_linkPart_5 : decode cX5_linkPart 5 = .ok (.iload_n 1, 1) := by decide +kernel
theorem dX5_linkPart_6 : decode cX5_linkPart 6 = .ok (.invokevirtual 59, 3) := by decide +kernel
theorem dX5_linkPart_9 : decode cX5_linkPart 9 = .ok (.ifCond .ne 7, 3) := by decide +kernel
theorem dX5_linkPart_12 : decode cX5_linkPart 12 = .ok (.sipush (-1001), 3) := by decide +kernel
theorem dX5_linkPart_15 : decode cX5_linkPart 15 = .ok (.ireturn, 1) := by decide +kernel
theorem dX5_linkPart_16 : decode cX5_linkPart 16 = .ok (.iload_n 2, 1) := by decide +kernel
theorem dX5_linkPart_17 : decode cX5_linkPart 17 = .ok (.iconst 0, 1) := by decide +kernel
theorem dX5_linkPart_18 : decode cX5_linkPart 18 = .ok (.iconst 2, 1) := by decide +kernel
theorem dX5_linkPart_19 : decode cX5_linkPart 19 = .ok (.invokestatic 44, 3) := by decide +kernel
theorem dX5_linkPart_22 : decode cX5_linkPart 22 = .ok (.ifCond .eq 15, 3) := by decide +kernel
theorem dX5_linkPart_25 : decode cX5_linkPart 25 = .ok (.aload_n 0, 1) := by decide +kernel
theorem dX5_linkPart_26 : decode cX5_linkPart 26 = .ok (.getfield 10, 3) := by decide +kernel
theorem dX5_linkPart_29 : decode cX5_linkPart 29 = .ok (.iload_n 1, 1) := by decide +kernel
theorem dX5_linkPart_30 : decode cX5_linkPart 30 = .ok (.iload_n 2, 1) := by decide +kernel
theorem dX5_linkPart_31 : decode cX5_linkPart 31 = .ok (.invokevirtual 102, 3) := by decide +kernel
theorem dX5_linkPart_34 : decode cX5_linkPart 34 = .ok (.goto 6, 3) := by decide +kernel
theorem dX5_linkPart_37 : decode cX5_linkPart 37 = .ok (.sipush (-1002), 3) := by decide +kernel
theorem dX5_linkPart_40 : decode cX5_linkPart 40 = .ok (.ireturn, 1) := by decide +kernel
set_option maxRecDepth 20000 in
theorem ggX5_sensor_X1_has : GoodIn wsX5_sensor wsX1_has := goodIn_r _ [6, 7, 8, 9, 10, 24, 25, 26, 27, 28, 29, 30] (by decide +kernel) (by decide +kernel)
set_option maxRecDepth 20000 in
theorem gX5_sensor_X1_has : GoodIn wsX5_sensor (wsV RX5 59 RX1 yX1_has wsX1_has) := goodIn_app (goodIn_of _ (by decide +kernel)) ggX5_sensor_X1_has
set_option maxRecDepth 20000 in
theorem ggX5_sensor_X5_isWithin : GoodIn wsX5_sensor wsX5_isWithin := goodIn_r _ [13] (by decide +kernel) (by decide +kernel)
set_option maxRecDepth 20000 in
theorem gX5_sensor_X5_isWithin : GoodIn wsX5_sensor (va_wsS RX5 44 yX5_isWithin wsX5_isWithin) := goodIn_app (goodIn_of _ (by decide +kernel)) ggX5_sensor_X5_isWithin
set_option maxRecDepth 20000 in
theorem ggX5_sensor_X1_sensorPart : GoodIn wsX5_sensor wsX1_sensorPart := goodIn_r _ [17, 18, 8, 9, 10, 24, 25, 26, 27, 28, 29, 30] (by decide +kernel) (by decide +kernel)
set_option maxRecDepth 20000 in
theorem gX5_sensor_X1_sensorPart : GoodIn wsX5_sensor (wsV RX5 83 RX1 yX1_sensorPart wsX1_sensorPart) := goodIn_app (goodIn_of _ (by decide +kernel)) ggX5_sensor_X1_sensorPart
theorem dX5_sensor_0 : decode cX5_sensor 0 = .ok (.aload_n 0, 1) := by decide +kernel
theorem dX5_sensor_1 : decode cX5_sensor 1 = .ok (.getfield 10, 3) := by decide +kernel
theorem dX5_sensor_4 : decode cX5_sensor 4 = .ok (.iconst 2, 1) := by decide +kernel
theorem dX5_sensor_5 : decode cX5_sensor 5 = .ok (.iload_n 1, 1) := by decide +kernel
theorem dX5_sensor_6 : decode cX5_sensor 6 = .ok (.invokevirtual 59, 3) := by decide +kernel
theorem dX5_sensor_9 : decode cX5_sensor 9 = .ok (.ifCond .ne 7, 3) := by decide +kernel
theorem dX5_sensor_12 : decode cX5_sensor 12 = .ok (.sipush (-1001), 3) := by decide +kernel
theorem dX5_sensor_15 : decode cX5_sensor 15 = .ok (.ireturn, 1) := by decide +kernel
theorem dX5_sensor_16 : decode cX5_sensor 16 = .ok (.iload_n 2, 1) := by decide +kernel
theorem dX5_sensor_17 : decode cX5_sensor 17 = .ok (.iconst 0, 1) := by decide +kernel
theorem dX5_sensor_18 : decode cX5_sensor 18 = .ok (.iconst 2, 1) := by decide +kernel
theorem dX5_sensor_19 : decode cX5_sensor 19 = .ok (.invokestatic 44, 3) := by decide +kernel
theorem dX5_sensor_22 : decode cX5_sensor 22 = .ok (.ifCond .eq 15, 3) := by decide +kernel
theorem dX5_sensor_25 : decode cX5_sensor 25 = .ok (.aload_n 0, 1) := by decide +kernel
theorem dX5_sensor_26 : decode cX5_sensor 26 = .ok (.getfield 10, 3) := by decide +kernel
theorem dX5_sensor_29 : decode cX5_sensor 29 = .ok (.iload_n 1, 1) := by decide +kernel
theorem dX5_sensor_30 : decode cX5_sensor 30 = .ok (.iload_n 2, 1) := by decide +kernel
theorem dX5_sensor_31 : decode cX5_sensor 31 = .ok (.invokevirtual 83, 3) := by decide +kernel
theorem dX5_sensor_34 : decode cX5_sensor 34 = .ok (.goto 6, 3) := by decide +kernel
theorem dX5_sensor_37 : decode cX5_sensor 37 = .ok (.sipush (-1002), 3) := by decide +kernel
theorem dX5_sensor_40 : decode cX5_sensor 40 = .ok (.ireturn, 1) := by decide +kernel
set_option maxRecDepth 20000 in
theorem ggX5_interest_X1_has : GoodIn wsX5_interest wsX1_has := goodIn_r _ [6, 7, 8, 9, 10, 31, 32, 33, 34, 35, 36, 37] (by decide +kernel) (by decide +kernel)
set_option maxRecDepth 20000 in
theorem gX5_interest_X1_has : GoodIn wsX5_interest (wsV RX5 59 RX1 yX1_has wsX1_has) := goodIn_app (goodIn_of _ (by decide +kernel)) ggX5_interest_X1_has
set_option maxRecDepth 20000 in
theorem ggX5_interest_X5_isWithin : GoodIn wsX5_interest wsX5_isWithin := goodIn_r _ [13] (by decide +kernel) (by decide +kernel)
set_option maxRecDepth 20000 in
theorem gX5_interest_X5_isWithin : GoodIn wsX5_interest (va_wsS RX5 44 yX5_isWithin wsX5_isWithin) := goodIn_app (goodIn_of _ (by decide +kernel)) ggX5_interest_X5_isWithin
set_option maxRecDepth 20000 in
theorem ggX5_interest_X1_interestPart : GoodIn wsX5_interest wsX1_interestPart := goodIn_r _ [17, 18, 19, 20, 21, 5, 22, 7, 23, 8, 9, 10, 24, 25, 31, 32, 33, 34, 35, 36, 37] (by decide +kernel) (by decide +kernel)
set_option maxRecDepth 20000 in
theorem gX5_interest_X1_interestPart : GoodIn wsX5_interest (wsV RX5 105 RX1 yX1_interestPart wsX1_interestPart) := goodIn_app (goodIn_of _ (by decide +kernel)) ggX5_interest_X1_interestPart
theorem dX5_interest_0 : decode cX5_interest 0 = .ok (.aload_n 0, 1) := by decide +kernel
theorem dX5_interest_1 : decode cX5_interest 1 = .ok (.getfield 10, 3) := by decide +kernel
theorem dX5_interest_4 : decode cX5_interest 4 = .ok (.iconst 3, 1) := by decide +kernel
theorem dX5_interest_5 : decode cX5_interest 5 = .ok (.iload_n 1, 1) := by decide +kernel
theorem dX5_interest_6 : decode cX5_interest 6 = .ok (.invokevirtual 59, 3) := by decide +kernel
theorem dX5_interest_9 : decode cX5_interest 9 = .ok (.ifCond .ne 7, 3) := by decide +kernel
theorem dX5_interest_12 : decode cX5_interest 12 = .ok (.sipush (-1001), 3) := by decide +kernel
theorem dX5_interest_15 : decode cX5_interest 15 = .ok (.ireturn, 1) := by decide +kernel
theorem dX5_interest_16 : decode cX5_interest 16 = .ok (.iload_n 2, 1) := by decide +kernel
theorem dX5_interest_17 : decode cX5_interest 17 = .ok (.iconst 0, 1) := by decide +kernel
theorem dX5_interest_18 : decode cX5_interest 18 = .ok (.bipush 7, 2) := by decide +kernel
theorem dX5_interest_20 : decode cX5_interest 20 = .ok (.invokestatic 44, 3) := by decide +kernel
theorem dX5_interest_23 : decode cX5_interest 23 = .ok (.ifCond .eq 15, 3) := by decide +kernel
theorem dX5_interest_26 : decode cX5_interest 26 = .ok (.aload_n 0, 1) := by decide +kernel
theorem dX5_interest_27 : decode cX5_interest 27 = .ok (.getfield 10, 3) := by decide +kernel
theorem dX5_interest_30 : decode cX5_interest 30 = .ok (.iload_n 1, 1) := by decide +kernel
theorem dX5_interest_31 : decode cX5_interest 31 = .ok (.iload_n 2, 1) := by decide +kernel
theorem dX5_interest_32 : decode cX5_interest 32 = .ok (.invokevirtual 105, 3) := by decide +kernel
theorem dX5_interest_35 : decode cX5_interest 35 = .ok (.goto 6, 3) := by decide +kernel
theorem dX5_interest_38 : decode cX5_interest 38 = .ok (.sipush (-1002), 3) := by decide +kernel
theorem dX5_interest_41 : decode cX5_interest 41 = .ok (.ireturn, 1) := by decide +kernel
set_option maxRecDepth 20000 in
theorem ggX5_rounds_X5_isWithin : GoodIn wsX5_rounds wsX5_isWithin := goodIn_r _ [8] (by decide +kernel) (by decide +kernel)
set_option maxRecDepth 20000 in
theorem gX5_rounds_X5_isWithin : GoodIn wsX5_rounds (va_wsS RX5 44 yX5_isWithin wsX5_isWithin) := goodIn_app (goodIn_of _ (by decide +kernel)) ggX5_rounds_X5_isWithin
set_option maxRecDepth 20000 in
theorem ggX5_rounds_X1_number : GoodIn wsX5_rounds wsX1_number := goodIn_r _ [13, 14, 15, 16, 17, 12, 18, 19, 20, 7, 21, 22, 23, 24, 25, 26, 27, 28, 246, 247, 248, 249, 250, 251, 252] (by decide +kernel) (by decide +kernel)
set_option maxRecDepth 20000 in
theorem gX5_rounds_X1_number : GoodIn wsX5_rounds (wsV RX5 48 RX1 yX1_number wsX1_number) := goodIn_app (goodIn_of _ (by decide +kernel)) ggX5_rounds_X1_number
set_option maxRecDepth 20000 in
theorem ggX5_rounds_X0_record : GoodIn wsX5_rounds wsX0_record := goodIn_r _ [33, 34, 35, 36, 37, 38, 32, 39, 40, 41, 42, 43, 12, 44, 14, 19, 45, 46, 47, 48, 49, 50, 7, 51, 52, 53, 54, 55, 56, 57, 58, 59, 253, 254, 255, 246, 247, 248, 249, 250, 251, 252] (by decide +kernel) (by decide +kernel)
set_option maxRecDepth 20000 in
theorem gX5_rounds_X0_record : GoodIn wsX5_rounds (wsV RX5 52 RX0 yX0_record wsX0_record) := goodIn_app (goodIn_of _ (by decide +kernel)) ggX5_rounds_X0_record
set_option maxRecDepth 20000 in
theorem ggX5_rounds_X3_start : GoodIn wsX5_rounds wsX3_start := goodIn_r _ [64, 65, 66, 67, 42, 43, 12, 44, 14, 19, 45, 46, 47, 48, 49, 50, 7, 51, 52, 53, 54, 55, 56, 57, 58, 59, 68, 69, 70, 71, 72, 73, 74, 75, 76, 77, 78, 79, 10, 11, 13, 15, 16, 17, 18, 20, 21, 22, 23, 24, 25, 26, 27, 28, 80, 81, 82, 83, 84, 85, 242, 243, 244, 245, 246, 247, 248, 249, 250, 251, 252, 256, 257, 258, 259, 260] (by decide +kernel) (by decide +kernel)
set_option maxRecDepth 20000 in
theorem gX5_rounds_X3_start : GoodIn wsX5_rounds (wsV RX5 108 RX3 yX3_start wsX3_start) := goodIn_app (goodIn_of _ (by decide +kernel)) ggX5_rounds_X3_start
set_option maxRecDepth 20000 in
theorem ggX5_rounds_X3_run : GoodIn wsX5_rounds wsX3_run := goodIn_r _ [89, 65, 90, 91, 92, 93, 12, 94, 14, 20, 7, 21, 95, 96, 97, 98, 47, 99, 100, 101, 102, 48, 103, 104, 105, 106, 107, 108, 49, 109, 110, 111, 112, 84, 85, 113, 114, 115, 76, 77, 78, 116, 10, 11, 13, 15, 16, 17, 18, 19, 22, 23, 24, 25, 26, 27, 28, 117, 118, 119, 63, 120, 66, 121, 122, 123, 124, 46, 125, 126, 127, 128, 129, 130, 131, 6, 8, 132, 133, 134, 135, 136, 137, 138, 139, 140, 141, 142, 143, 144, 71, 145, 146, 147, 148, 149, 150, 151, 152, 153, 154, 155, 156, 157, 73, 158, 159, 160, 161, 162, 163, 54, 164, 165, 166, 167, 168, 169, 74, 170, 171, 172, 173, 174, 175, 176, 177, 178, 179, 180, 181, 182, 183, 184, 185, 186, 187, 188, 189, 190, 191, 192, 193, 194, 53, 55, 195, 196, 197, 198, 199, 200, 201, 202, 203, 204, 205, 206, 207, 208, 209, 210, 211, 212, 213, 214, 215, 216, 217, 218, 219, 220, 221, 222, 223, 224, 225, 226, 227, 228, 229, 230, 231, 232, 233, 234, 235, 242, 243, 244, 245, 246, 247, 248, 249, 250, 251, 252, 256, 257, 258, 259, 260] (by decide +kernel) (by decide +kernel)
set_option maxRecDepth 20000 in
theorem gX5_rounds_X3_run : GoodIn wsX5_rounds (wsV RX5 111 RX3 yX3_run wsX3_run) := goodIn_app (goodIn_of _ (by decide +kernel)) ggX5_rounds_X3_run
set_option maxRecDepth 20000 in
theorem ggX5_rounds_X1_copyFrom : GoodIn wsX5_rounds wsX1_copyFrom := goodIn_r _ [44, 14, 19, 45, 46, 47, 48, 49, 50, 7, 51, 52, 53, 54, 55, 56, 57, 58, 59, 246, 247, 248, 249, 250, 251, 252] (by decide +kernel) (by decide +kernel)
set_option maxRecDepth 20000 in
theorem gX5_rounds_X1_copyFrom : GoodIn wsX5_rounds (wsV RX5 117 RX1 yX1_copyFrom wsX1_copyFrom) := goodIn_app (goodIn_of _ (by decide +kernel)) ggX5_rounds_X1_copyFrom
theorem dX5_rounds_0 : decode cX5_rounds 0 = .ok (.iload_n 1, 1) := by decide +kernel
theorem dX5_rounds_1 : decode cX5_rounds 1 = .ok (.iconst 1, 1) := by decide +kernel
theorem dX5_rounds_2 : decode cX5_rounds 2 = .ok (.bipush 100, 2) := by decide +kernel
theorem dX5_rounds_4 : decode cX5_rounds 4 = .ok (.invokestatic 44, 3) := by decide +kernel
theorem dX5_rounds_7 : decode cX5_rounds 7 = .ok (.ifCond .ne 7, 3) := by decide +kernel
theorem dX5_rounds_10 : decode cX5_rounds 10 = .ok (.sipush (-1002), 3) := by decide +kernel
theorem dX5_rounds_13 : decode cX5_rounds 13 = .ok (.ireturn, 1) := by decide +kernel
theorem dX5_rounds_14 : decode cX5_rounds 14 = .ok (.aload_n 0, 1) := by decide +kernel
theorem dX5_rounds_15 : decode cX5_rounds 15 = .ok (.getfield 10, 3) := by decide +kernel
theorem dX5_rounds_18 : decode cX5_rounds 18 = .ok (.iconst 5, 1) := by decide +kernel
theorem dX5_rounds_19 : decode cX5_rounds 19 = .ok (.invokevirtual 48, 3) := by decide +kernel
theorem dX5_rounds_22 : decode cX5_rounds 22 = .ok (.iload_n 1, 1) := by decide +kernel
theorem dX5_rounds_23 : decode cX5_rounds 23 = .ok (.iadd, 1) := by decide +kernel
theorem dX5_rounds_24 : decode cX5_rounds 24 = .ok (.ldc 90, 2) := by decide +kernel
theorem dX5_rounds_26 : decode cX5_rounds 26 = .ok (.if_icmp .le 7, 3) := by decide +kernel
theorem dX5_rounds_29 : decode cX5_rounds 29 = .ok (.sipush (-1004), 3) := by decide +kernel
theorem dX5_rounds_32 : decode cX5_rounds 32 = .ok (.ireturn, 1) := by decide +kernel
theorem dX5_rounds_33 : decode cX5_rounds 33 = .ok (.aload_n 0, 1) := by decide +kernel
theorem dX5_rounds_34 : decode cX5_rounds 34 = .ok (.getfield 33, 3) := by decide +kernel
theorem dX5_rounds_37 : decode cX5_rounds 37 = .ok (.aload_n 0, 1) := by decide +kernel
theorem dX5_rounds_38 : decode cX5_rounds 38 = .ok (.getfield 10, 3) := by decide +kernel
theorem dX5_rounds_41 : decode cX5_rounds 41 = .ok (.invokevirtual 52, 3) := by decide +kernel
theorem dX5_rounds_44 : decode cX5_rounds 44 = .ok (.aload_n 0, 1) := by decide +kernel
theorem dX5_rounds_45 : decode cX5_rounds 45 = .ok (.getfield 19, 3) := by decide +kernel
theorem dX5_rounds_48 : decode cX5_rounds 48 = .ok (.aload_n 0, 1) := by decide +kernel
theorem dX5_rounds_49 : decode cX5_rounds 49 = .ok (.getfield 10, 3) := by decide +kernel
theorem dX5_rounds_52 : decode cX5_rounds 52 = .ok (.invokevirtual 108, 3) := by decide +kernel
theorem dX5_rounds_55 : decode cX5_rounds 55 = .ok (.aload_n 0, 1) := by decide +kernel
theorem dX5_rounds_56 : decode cX5_rounds 56 = .ok (.getfield 19, 3) := by decide +kernel
theorem dX5_rounds_59 : decode cX5_rounds 59 = .ok (.iload_n 1, 1) := by decide +kernel
theorem dX5_rounds_60 : decode cX5_rounds 60 = .ok (.invokevirtual 111, 3) := by decide +kernel
theorem dX5_rounds_63 : decode cX5_rounds 63 = .ok (.istore_n 2, 1) := by decide +kernel
theorem dX5_rounds_64 : decode cX5_rounds 64 = .ok (.aload_n 0, 1) := by decide +kernel
theorem dX5_rounds_65 : decode cX5_rounds 65 = .ok (.getfield 10, 3) := by decide +kernel
theorem dX5_rounds_68 : decode cX5_rounds 68 = .ok (.aload_n 0, 1) := by decide +kernel
theorem dX5_rounds_69 : decode cX5_rounds 69 = .ok (.getfield 19, 3) := by decide +kernel
theorem dX5_rounds_72 : decode cX5_rounds 72 = .ok (.getfield 114, 3) := by decide +kernel
theorem dX5_rounds_75 : decode cX5_rounds 75 = .ok (.invokevirtual 117, 3) := by decide +kernel
theorem dX5_rounds_78 : decode cX5_rounds 78 = .ok (.iload_n 2, 1) := by decide +kernel
theorem dX5_rounds_79 : decode cX5_rounds 79 = .ok (.ireturn, 1) := by decide +kernel
set_option maxRecDepth 20000 in
theorem ggX5_wayLength_X5_hasWay : GoodIn wsX5_wayLength wsX5_hasWay := goodIn_r _ [6, 1, 7, 8, 9, 10, 11, 12, 13, 5, 14, 23, 24, 25, 26, 27, 28, 29, 30, 31, 32, 33, 34] (by decide +kernel) (by decide +kernel)
set_option maxRecDepth 20000 in
theorem gX5_wayLength_X5_hasWay : GoodIn wsX5_wayLength (wsV RX5 120 RX5 yX5_hasWay wsX5_hasWay) := goodIn_app (goodIn_of _ (by decide +kernel)) ggX5_wayLength_X5_hasWay
set_option maxRecDepth 20000 in
theorem ggX5_wayLength_X5_wayOf : GoodIn wsX5_wayLength wsX5_wayOf := goodIn_r _ [17] (by decide +kernel) (by decide +kernel)
set_option maxRecDepth 20000 in
theorem gX5_wayLength_X5_wayOf : GoodIn wsX5_wayLength (va_wsS RX5 123 yX5_wayOf wsX5_wayOf) := goodIn_app (goodIn_of _ (by decide +kernel)) ggX5_wayLength_X5_wayOf
set_option maxRecDepth 20000 in
theorem ggX5_wayLength_X1_lengthOf : GoodIn wsX5_wayLength wsX1_lengthOf := goodIn_r _ [21, 22, 13, 5, 14, 28, 29, 30, 31, 32, 33, 34] (by decide +kernel) (by decide +kernel)
set_option maxRecDepth 20000 in
theorem gX5_wayLength_X1_lengthOf : GoodIn wsX5_wayLength (wsV RX5 126 RX1 yX1_lengthOf wsX1_lengthOf) := goodIn_app (goodIn_of _ (by decide +kernel)) ggX5_wayLength_X1_lengthOf
theorem dX5_wayLength_0 : decode cX5_wayLength 0 = .ok (.aload_n 0, 1) := by decide +kernel
theorem dX5_wayLength_1 : decode cX5_wayLength 1 = .ok (.iload_n 1, 1) := by decide +kernel
theorem dX5_wayLength_2 : decode cX5_wayLength 2 = .ok (.iload_n 2, 1) := by decide +kernel
theorem dX5_wayLength_3 : decode cX5_wayLength 3 = .ok (.invokevirtual 120, 3) := by decide +kernel
theorem dX5_wayLength_6 : decode cX5_wayLength 6 = .ok (.ifCond .eq 18, 3) := by decide +kernel
theorem dX5_wayLength_9 : decode cX5_wayLength 9 = .ok (.aload_n 0, 1) := by decide +kernel
theorem dX5_wayLength_10 : decode cX5_wayLength 10 = .ok (.getfield 10, 3) := by decide +kernel
theorem dX5_wayLength_13 : decode cX5_wayLength 13 = .ok (.iload_n 1, 1) := by decide +kernel
theorem dX5_wayLength_14 : decode cX5_wayLength 14 = .ok (.iload_n 2, 1) := by decide +kernel
theorem dX5_wayLength_15 : decode cX5_wayLength 15 = .ok (.invokestatic 123, 3) := by decide +kernel
theorem dX5_wayLength_18 : decode cX5_wayLength 18 = .ok (.invokevirtual 126, 3) := by decide +kernel
theorem dX5_wayLength_21 : decode cX5_wayLength 21 = .ok (.goto 6, 3) := by decide +kernel
theorem dX5_wayLength_24 : decode cX5_wayLength 24 = .ok (.sipush (-1001), 3) := by decide +kernel
theorem dX5_wayLength_27 : decode cX5_wayLength 27 = .ok (.ireturn, 1) := by decide +kernel
set_option maxRecDepth 20000 in
theorem ggX5_wayNode_X5_hasWay : GoodIn wsX5_wayNode wsX5_hasWay := goodIn_r _ [6, 1, 7, 8, 9, 10, 11, 12, 13, 5, 14, 28, 29, 30, 31, 32, 33, 34, 35, 36, 37, 38, 39] (by decide +kernel) (by decide +kernel)
set_option maxRecDepth 20000 in
theorem gX5_wayNode_X5_hasWay : GoodIn wsX5_wayNode (wsV RX5 120 RX5 yX5_hasWay wsX5_hasWay) := goodIn_app (goodIn_of _ (by decide +kernel)) ggX5_wayNode_X5_hasWay
set_option maxRecDepth 20000 in
theorem ggX5_wayNode_X5_wayOf : GoodIn wsX5_wayNode wsX5_wayOf := goodIn_r _ [17] (by decide +kernel) (by decide +kernel)
set_option maxRecDepth 20000 in
theorem gX5_wayNode_X5_wayOf : GoodIn wsX5_wayNode (va_wsS RX5 123 yX5_wayOf wsX5_wayOf) := goodIn_app (goodIn_of _ (by decide +kernel)) ggX5_wayNode_X5_wayOf
set_option maxRecDepth 20000 in
theorem ggX5_wayNode_X1_lengthOf : GoodIn wsX5_wayNode wsX1_lengthOf := goodIn_r _ [21, 22, 13, 5, 14, 33, 34, 35, 36, 37, 38, 39] (by decide +kernel) (by decide +kernel)
set_option maxRecDepth 20000 in
theorem gX5_wayNode_X1_lengthOf : GoodIn wsX5_wayNode (wsV RX5 126 RX1 yX1_lengthOf wsX1_lengthOf) := goodIn_app (goodIn_of _ (by decide +kernel)) ggX5_wayNode_X1_lengthOf
set_option maxRecDepth 20000 in
theorem ggX5_wayNode_X1_nodeOf : GoodIn wsX5_wayNode wsX1_nodeOf := goodIn_r _ [26, 27, 13, 5, 14, 33, 34, 35, 36, 37, 38, 39] (by decide +kernel) (by decide +kernel)
set_option maxRecDepth 20000 in
theorem gX5_wayNode_X1_nodeOf : GoodIn wsX5_wayNode (wsV RX5 129 RX1 yX1_nodeOf wsX1_nodeOf) := goodIn_app (goodIn_of _ (by decide +kernel)) ggX5_wayNode_X1_nodeOf
theorem dX5_wayNode_0 : decode cX5_wayNode 0 = .ok (.aload_n 0, 1) := by decide +kernel
theorem dX5_wayNode_1 : decode cX5_wayNode 1 = .ok (.iload_n 1, 1) := by decide +kernel
theorem dX5_wayNode_2 : decode cX5_wayNode 2 = .ok (.iload_n 2, 1) := by decide +kernel
theorem dX5_wayNode_3 : decode cX5_wayNode 3 = .ok (.invokevirtual 120, 3) := by decide +kernel
theorem dX5_wayNode_6 : decode cX5_wayNode 6 = .ok (.ifCond .ne 7, 3) := by decide +kernel
theorem dX5_wayNode_9 : decode cX5_wayNode 9 = .ok (.sipush (-1001), 3) := by decide +kernel
theorem dX5_wayNode_12 : decode cX5_wayNode 12 = .ok (.ireturn, 1) := by decide +kernel
theorem dX5_wayNode_13 : decode cX5_wayNode 13 = .ok (.iload_n 3, 1) := by decide +kernel
theorem dX5_wayNode_14 : decode cX5_wayNode 14 = .ok (.ifCond .ge 7, 3) := by decide +kernel
theorem dX5_wayNode_17 : decode cX5_wayNode 17 = .ok (.sipush (-1002), 3) := by decide +kernel
theorem dX5_wayNode_20 : decode cX5_wayNode 20 = .ok (.ireturn, 1) := by decide +kernel
theorem dX5_wayNode_21 : decode cX5_wayNode 21 = .ok (.iload_n 1, 1) := by decide +kernel
theorem dX5_wayNode_22 : decode cX5_wayNode 22 = .ok (.iload_n 2, 1) := by decide +kernel
theorem dX5_wayNode_23 : decode cX5_wayNode 23 = .ok (.invokestatic 123, 3) := by decide +kernel
theorem dX5_wayNode_26 : decode cX5_wayNode 26 = .ok (.istore 4, 2) := by decide +kernel
theorem dX5_wayNode_28 : decode cX5_wayNode 28 = .ok (.iload_n 3, 1) := by decide +kernel
theorem dX5_wayNode_29 : decode cX5_wayNode 29 = .ok (.aload_n 0, 1) := by decide +kernel
theorem dX5_wayNode_30 : decode cX5_wayNode 30 = .ok (.getfield 10, 3) := by decide +kernel
theorem dX5_wayNode_33 : decode cX5_wayNode 33 = .ok (.iload 4, 2) := by decide +kernel
theorem dX5_wayNode_35 : decode cX5_wayNode 35 = .ok (.invokevirtual 126, 3) := by decide +kernel
theorem dX5_wayNode_38 : decode cX5_wayNode 38 = .ok (.if_icmp .ge 16, 3) := by decide +kernel
theorem dX5_wayNode_41 : decode cX5_wayNode 41 = .ok (.aload_n 0, 1) := by decide +kernel
theorem dX5_wayNode_42 : decode cX5_wayNode 42 = .ok (.getfield 10, 3) := by decide +kernel
theorem dX5_wayNode_45 : decode cX5_wayNode 45 = .ok (.iload 4, 2) := by decide +kernel
theorem dX5_wayNode_47 : decode cX5_wayNode 47 = .ok (.iload_n 3, 1) := by decide +kernel
theorem dX5_wayNode_48 : decode cX5_wayNode 48 = .ok (.invokevirtual 129, 3) := by decide +kernel
theorem dX5_wayNode_51 : decode cX5_wayNode 51 = .ok (.goto 6, 3) := by decide +kernel
theorem dX5_wayNode_54 : decode cX5_wayNode 54 = .ok (.sipush (-1000), 3) := by decide +kernel
theorem dX5_wayNode_57 : decode cX5_wayNode 57 = .ok (.ireturn, 1) := by decide +kernel
set_option maxRecDepth 20000 in
theorem ggX5_isWhole_X5_hasWay : GoodIn wsX5_isWhole wsX5_hasWay := goodIn_r _ [7, 2, 8, 9, 10, 11, 12, 13, 14, 6, 15, 74, 75, 76, 77, 78, 79, 80, 81, 82, 83, 84, 85] (by decide +kernel) (by decide +kernel)
set_option maxRecDepth 20000 in
theorem gX5_isWhole_X5_hasWay : GoodIn wsX5_isWhole (wsV RX5 120 RX5 yX5_hasWay wsX5_hasWay) := goodIn_app (goodIn_of _ (by decide +kernel)) ggX5_isWhole_X5_hasWay
set_option maxRecDepth 20000 in
theorem ggX5_isWhole_X2_learn : GoodIn wsX5_isWhole wsX2_learn := goodIn_r _ [20, 21, 22, 23, 24, 25, 26, 27, 28, 29, 11, 30, 13, 31, 32, 33, 34, 35, 14, 6, 15, 36, 37, 38, 39, 40, 41, 42, 43, 44, 45, 46, 47, 48, 49, 86, 87, 88, 89, 90, 79, 80, 81, 82, 83, 84, 85] (by decide +kernel) (by decide +kernel)
set_option maxRecDepth 20000 in
theorem gX5_isWhole_X2_learn : GoodIn wsX5_isWhole (wsV RX5 132 RX2 yX2_learn wsX2_learn) := goodIn_app (goodIn_of _ (by decide +kernel)) ggX5_isWhole_X2_learn
set_option maxRecDepth 20000 in
theorem ggX5_isWhole_X5_wayOf : GoodIn wsX5_isWhole wsX5_wayOf := goodIn_r _ [52] (by decide +kernel) (by decide +kernel)
set_option maxRecDepth 20000 in
theorem gX5_isWhole_X5_wayOf : GoodIn wsX5_isWhole (va_wsS RX5 123 yX5_wayOf wsX5_wayOf) := goodIn_app (goodIn_of _ (by decide +kernel)) ggX5_isWhole_X5_wayOf
set_option maxRecDepth 20000 in
theorem ggX5_isWhole_X1_aliveNodes : GoodIn wsX5_isWhole wsX1_aliveNodes := goodIn_r _ [34, 13, 35, 14, 6, 15, 79, 80, 81, 82, 83, 84, 85] (by decide +kernel) (by decide +kernel)
set_option maxRecDepth 20000 in
theorem gX5_isWhole_X1_aliveNodes : GoodIn wsX5_isWhole (wsV RX5 135 RX1 yX1_aliveNodes wsX1_aliveNodes) := goodIn_app (goodIn_of _ (by decide +kernel)) ggX5_isWhole_X1_aliveNodes
set_option maxRecDepth 20000 in
theorem ggX5_isWhole_X2_carry : GoodIn wsX5_isWhole wsX2_carry := goodIn_r _ [57, 58, 59, 60, 11, 61, 62, 14, 6, 15, 63, 64, 65, 66, 67, 68, 69, 70, 71, 72, 19, 73, 21, 79, 80, 81, 82, 83, 84, 85, 86, 87, 88, 89, 90] (by decide +kernel) (by decide +kernel)
set_option maxRecDepth 20000 in
theorem gX5_isWhole_X2_carry : GoodIn wsX5_isWhole (wsV RX5 139 RX2 yX2_carry wsX2_carry) := goodIn_app (goodIn_of _ (by decide +kernel)) ggX5_isWhole_X2_carry
theorem dX5_isWhole_0 : decode cX5_isWhole 0 = .ok (.aload_n 0, 1) := by decide +kernel
theorem dX5_isWhole_1 : decode cX5_isWhole 1 = .ok (.iload_n 1, 1) := by decide +kernel
theorem dX5_isWhole_2 : decode cX5_isWhole 2 = .ok (.iload_n 2, 1) := by decide +kernel
theorem dX5_isWhole_3 : decode cX5_isWhole 3 = .ok (.invokevirtual 120, 3) := by decide +kernel
theorem dX5_isWhole_6 : decode cX5_isWhole 6 = .ok (.ifCond .ne 7, 3) := by decide +kernel
theorem dX5_isWhole_9 : decode cX5_isWhole 9 = .ok (.sipush (-1001), 3) := by decide +kernel
theorem dX5_isWhole_12 : decode cX5_isWhole 12 = .ok (.ireturn, 1) := by decide +kernel
theorem dX5_isWhole_13 : decode cX5_isWhole 13 = .ok (.aload_n 0, 1) := by decide +kernel
theorem dX5_isWhole_14 : decode cX5_isWhole 14 = .ok (.getfield 26, 3) := by decide +kernel
theorem dX5_isWhole_17 : decode cX5_isWhole 17 = .ok (.aload_n 0, 1) := by decide +kernel
theorem dX5_isWhole_18 : decode cX5_isWhole 18 = .ok (.getfield 10, 3) := by decide +kernel
theorem dX5_isWhole_21 : decode cX5_isWhole 21 = .ok (.invokevirtual 132, 3) := by decide +kernel
theorem dX5_isWhole_24 : decode cX5_isWhole 24 = .ok (.aload_n 0, 1) := by decide +kernel
theorem dX5_isWhole_25 : decode cX5_isWhole 25 = .ok (.getfield 26, 3) := by decide +kernel
theorem dX5_isWhole_28 : decode cX5_isWhole 28 = .ok (.aload_n 0, 1) := by decide +kernel
theorem dX5_isWhole_29 : decode cX5_isWhole 29 = .ok (.getfield 10, 3) := by decide +kernel
theorem dX5_isWhole_32 : decode cX5_isWhole 32 = .ok (.iload_n 1, 1) := by decide +kernel
theorem dX5_isWhole_33 : decode cX5_isWhole 33 = .ok (.iload_n 2, 1) := by decide +kernel
theorem dX5_isWhole_34 : decode cX5_isWhole 34 = .ok (.invokestatic 123, 3) := by decide +kernel
theorem dX5_isWhole_37 : decode cX5_isWhole 37 = .ok (.aload_n 0, 1) := by decide +kernel
theorem dX5_isWhole_38 : decode cX5_isWhole 38 = .ok (.getfield 10, 3) := by decide +kernel
theorem dX5_isWhole_41 : decode cX5_isWhole 41 = .ok (.invokevirtual 135, 3) := by decide +kernel
theorem dX5_isWhole_44 : decode cX5_isWhole 44 = .ok (.invokevirtual 139, 3) := by decide +kernel
theorem dX5_isWhole_47 : decode cX5_isWhole 47 = .ok (.ifCond .eq 7, 3) := by decide +kernel
theorem dX5_isWhole_50 : decode cX5_isWhole 50 = .ok (.iconst 1, 1) := by decide +kernel
theorem dX5_isWhole_51 : decode cX5_isWhole 51 = .ok (.goto 4, 3) := by decide +kernel
theorem dX5_isWhole_54 : decode cX5_isWhole 54 = .ok (.iconst 0, 1) := by decide +kernel
theorem dX5_isWhole_55 : decode cX5_isWhole 55 = .ok (.ireturn, 1) := by decide +kernel
set_option maxRecDepth 20000 in
theorem ggX5_quickest_X1_has : GoodIn wsX5_quickest wsX1_has := goodIn_r _ [7, 8, 9, 10, 11, 80, 81, 82, 83, 84, 85, 86] (by decide +kernel) (by decide +kernel)
set_option maxRecDepth 20000 in
theorem gX5_quickest_X1_has : GoodIn wsX5_quickest (wsV RX5 59 RX1 yX1_has wsX1_has) := goodIn_app (goodIn_of _ (by decide +kernel)) ggX5_quickest_X1_has
set_option maxRecDepth 20000 in
theorem ggX5_quickest_X1_aliveNodes : GoodIn wsX5_quickest wsX1_aliveNodes := goodIn_r _ [15, 8, 16, 9, 10, 11, 80, 81, 82, 83, 84, 85, 86] (by decide +kernel) (by decide +kernel)
set_option maxRecDepth 20000 in
theorem gX5_quickest_X1_aliveNodes : GoodIn wsX5_quickest (wsV RX5 135 RX1 yX1_aliveNodes wsX1_aliveNodes) := goodIn_app (goodIn_of _ (by decide +kernel)) ggX5_quickest_X1_aliveNodes
set_option maxRecDepth 20000 in
theorem ggX5_quickest_X5_holds : GoodIn wsX5_quickest wsX5_holds := goodIn_r _ [19] (by decide +kernel) (by decide +kernel)
set_option maxRecDepth 20000 in
theorem gX5_quickest_X5_holds : GoodIn wsX5_quickest (va_wsS RX5 143 yX5_holds wsX5_holds) := goodIn_app (goodIn_of _ (by decide +kernel)) ggX5_quickest_X5_holds
set_option maxRecDepth 20000 in
theorem ggX5_quickest_X2_learn : GoodIn wsX5_quickest wsX2_learn := goodIn_r _ [24, 25, 26, 27, 28, 29, 30, 31, 32, 33, 6, 34, 8, 35, 13, 14, 15, 16, 9, 10, 11, 36, 37, 38, 39, 40, 41, 42, 43, 44, 45, 46, 47, 48, 49, 87, 88, 89, 90, 91, 80, 81, 82, 83, 84, 85, 86] (by decide +kernel) (by decide +kernel)
set_option maxRecDepth 20000 in
theorem gX5_quickest_X2_learn : GoodIn wsX5_quickest (wsV RX5 132 RX2 yX2_learn wsX2_learn) := goodIn_app (goodIn_of _ (by decide +kernel)) ggX5_quickest_X2_learn
set_option maxRecDepth 20000 in
theorem ggX5_quickest_X2_explore : GoodIn wsX5_quickest wsX2_explore := goodIn_r _ [53, 26, 54, 55, 56, 9, 10, 11, 48, 49, 57, 58, 59, 23, 60, 61, 25, 18, 19, 62, 63, 64, 65, 66, 67, 68, 69, 87, 88, 89, 90, 91] (by decide +kernel) (by decide +kernel)
set_option maxRecDepth 20000 in
theorem gX5_quickest_X2_explore : GoodIn wsX5_quickest (wsV RX5 146 RX2 yX2_explore wsX2_explore) := goodIn_app (goodIn_of _ (by decide +kernel)) ggX5_quickest_X2_explore
set_option maxRecDepth 20000 in
theorem ggX5_quickest_X2_reachedFrom : GoodIn wsX5_quickest wsX2_reachedFrom := goodIn_r _ [73, 56, 9, 10, 11, 87, 88, 89, 90, 91] (by decide +kernel) (by decide +kernel)
set_option maxRecDepth 20000 in
theorem gX5_quickest_X2_reachedFrom : GoodIn wsX5_quickest (wsV RX5 149 RX2 yX2_reachedFrom wsX2_reachedFrom) := goodIn_app (goodIn_of _ (by decide +kernel)) ggX5_quickest_X2_reachedFrom
set_option maxRecDepth 20000 in
theorem ggX5_quickest_X2_timeOf : GoodIn wsX5_quickest wsX2_timeOf := goodIn_r _ [69, 61, 9, 10, 11, 87, 88, 89, 90, 91] (by decide +kernel) (by decide +kernel)
set_option maxRecDepth 20000 in
theorem gX5_quickest_X2_timeOf : GoodIn wsX5_quickest (wsV RX5 152 RX2 yX2_timeOf wsX2_timeOf) := goodIn_app (goodIn_of _ (by decide +kernel)) ggX5_quickest_X2_timeOf
theorem dX5_quickest_0 : decode cX5_quickest 0 = .ok (.aload_n 0, 1) := by decide +kernel
theorem dX5_quickest_1 : decode cX5_quickest 1 = .ok (.getfield 10, 3) := by decide +kernel
theorem dX5_quickest_4 : decode cX5_quickest 4 = .ok (.iconst 0, 1) := by decide +kernel
theorem dX5_quickest_5 : decode cX5_quickest 5 = .ok (.iload_n 1, 1) := by decide +kernel
theorem dX5_quickest_6 : decode cX5_quickest 6 = .ok (.invokevirtual 59, 3) := by decide +kernel
theorem dX5_quickest_9 : decode cX5_quickest 9 = .ok (.ifCond .eq 15, 3) := by decide +kernel
theorem dX5_quickest_12 : decode cX5_quickest 12 = .ok (.aload_n 0, 1) := by decide +kernel
theorem dX5_quickest_13 : decode cX5_quickest 13 = .ok (.getfield 10, 3) := by decide +kernel
theorem dX5_quickest_16 : decode cX5_quickest 16 = .ok (.iconst 0, 1) := by decide +kernel
theorem dX5_quickest_17 : decode cX5_quickest 17 = .ok (.iload_n 2, 1) := by decide +kernel
theorem dX5_quickest_18 : decode cX5_quickest 18 = .ok (.invokevirtual 59, 3) := by decide +kernel
theorem dX5_quickest_21 : decode cX5_quickest 21 = .ok (.ifCond .ne 7, 3) := by decide +kernel
theorem dX5_quickest_24 : decode cX5_quickest 24 = .ok (.sipush (-1001), 3) := by decide +kernel
theorem dX5_quickest_27 : decode cX5_quickest 27 = .ok (.ireturn, 1) := by decide +kernel
theorem dX5_quickest_28 : decode cX5_quickest 28 = .ok (.aload_n 0, 1) := by decide +kernel
theorem dX5_quickest_29 : decode cX5_quickest 29 = .ok (.getfield 10, 3) := by decide +kernel
theorem dX5_quickest_32 : decode cX5_quickest 32 = .ok (.invokevirtual 135, 3) := by decide +kernel
theorem dX5_quickest_35 : decode cX5_quickest 35 = .ok (.istore_n 3, 1) := by decide +kernel
theorem dX5_quickest_36 : decode cX5_quickest 36 = .ok (.iload_n 3, 1) := by decide +kernel
theorem dX5_quickest_37 : decode cX5_quickest 37 = .ok (.iload_n 1, 1) := by decide +kernel
theorem dX5_quickest_38 : decode cX5_quickest 38 = .ok (.invokestatic 143, 3) := by decide +kernel
theorem dX5_quickest_41 : decode cX5_quickest 41 = .ok (.ifCond .eq 11, 3) := by decide +kernel
theorem dX5_quickest_44 : decode cX5_quickest 44 = .ok (.iload_n 3, 1) := by decide +kernel
theorem dX5_quickest_45 : decode cX5_quickest 45 = .ok (.iload_n 2, 1) := by decide +kernel
theorem dX5_quickest_46 : decode cX5_quickest 46 = .ok (.invokestatic 143, 3) := by decide +kernel
theorem dX5_quickest_49 : decode cX5_quickest 49 = .ok (.ifCond .ne 7, 3) := by decide +kernel
theorem dX5_quickest_52 : decode cX5_quickest 52 = .ok (.sipush (-1000), 3) := by decide +kernel
theorem dX5_quickest_55 : decode cX5_quickest 55 = .ok (.ireturn, 1) := by decide +kernel
theorem dX5_quickest_56 : decode cX5_quickest 56 = .ok (.aload_n 0, 1) := by decide +kernel
theorem dX5_quickest_57 : decode cX5_quickest 57 = .ok (.getfield 26, 3) := by decide +kernel
theorem dX5_quickest_60 : decode cX5_quickest 60 = .ok (.aload_n 0, 1) := by decide +kernel
theorem dX5_quickest_61 : decode cX5_quickest 61 = .ok (.getfield 10, 3) := by decide +kernel
theorem dX5_quickest_64 : decode cX5_quickest 64 = .ok (.invokevirtual 132, 3) := by decide +kernel
theorem dX5_quickest_67 : decode cX5_quickest 67 = .ok (.aload_n 0, 1) := by decide +kernel
theorem dX5_quickest_68 : decode cX5_quickest 68 = .ok (.getfield 26, 3) := by decide +kernel
theorem dX5_quickest_71 : decode cX5_quickest 71 = .ok (.iload_n 1, 1) := by decide +kernel
theorem dX5_quickest_72 : decode cX5_quickest 72 = .ok (.iload_n 3, 1) := by decide +kernel
theorem dX5_quickest_73 : decode cX5_quickest 73 = .ok (.invokevirtual 146, 3) := by decide +kernel
theorem dX5_quickest_76 : decode cX5_quickest 76 = .ok (.aload_n 0, 1) := by decide +kernel
theorem dX5_quickest_77 : decode cX5_quickest 77 = .ok (.getfield 26, 3) := by decide +kernel
theorem dX5_quickest_80 : decode cX5_quickest 80 = .ok (.iload_n 1, 1) := by decide +kernel
theorem dX5_quickest_81 : decode cX5_quickest 81 = .ok (.invokevirtual 149, 3) := by decide +kernel
theorem dX5_quickest_84 : decode cX5_quickest 84 = .ok (.iload_n 2, 1) := by decide +kernel
theorem dX5_quickest_85 : decode cX5_quickest 85 = .ok (.invokestatic 143, 3) := by decide +kernel
theorem dX5_quickest_88 : decode cX5_quickest 88 = .ok (.ifCond .eq 15, 3) := by decide +kernel
theorem dX5_quickest_91 : decode cX5_quickest 91 = .ok (.aload_n 0, 1) := by decide +kernel
theorem dX5_quickest_92 : decode cX5_quickest 92 = .ok (.getfield 26, 3) := by decide +kernel
theorem dX5_quickest_95 : decode cX5_quickest 95 = .ok (.iload_n 1, 1) := by decide +kernel
theorem dX5_quickest_96 : decode cX5_quickest 96 = .ok (.iload_n 2, 1) := by decide +kernel
theorem dX5_quickest_97 : decode cX5_quickest 97 = .ok (.invokevirtual 152, 3) := by decide +kernel
theorem dX5_quickest_100 : decode cX5_quickest 100 = .ok (.goto 6, 3) := by decide +kernel
theorem dX5_quickest_103 : decode cX5_quickest 103 = .ok (.sipush (-1000), 3) := by decide +kernel
theorem dX5_quickest_106 : decode cX5_quickest 106 = .ok (.ireturn, 1) := by decide +kernel
set_option maxRecDepth 20000 in
theorem ggX5_load_X1_has : GoodIn wsX5_load wsX1_has := goodIn_r _ [6, 7, 8, 9, 10, 36, 37, 38, 39, 40, 41, 42] (by decide +kernel) (by decide +kernel)
set_option maxRecDepth 20000 in
theorem gX5_load_X1_has : GoodIn wsX5_load (wsV RX5 59 RX1 yX1_has wsX1_has) := goodIn_app (goodIn_of _ (by decide +kernel)) ggX5_load_X1_has
set_option maxRecDepth 20000 in
theorem ggX5_load_X1_partOfLink : GoodIn wsX5_load wsX1_partOfLink := goodIn_r _ [14, 15, 8, 9, 10, 36, 37, 38, 39, 40, 41, 42] (by decide +kernel) (by decide +kernel)
set_option maxRecDepth 20000 in
theorem gX5_load_X1_partOfLink : GoodIn wsX5_load (wsV RX5 102 RX1 yX1_partOfLink wsX1_partOfLink) := goodIn_app (goodIn_of _ (by decide +kernel)) ggX5_load_X1_partOfLink
set_option maxRecDepth 20000 in
theorem ggX5_load_X1_waysOver : GoodIn wsX5_load wsX1_waysOver := goodIn_r _ [19, 7, 8, 9, 10, 20, 21, 22, 23, 24, 5, 25, 26, 27, 28, 29, 30, 36, 37, 38, 39, 40, 41, 42] (by decide +kernel) (by decide +kernel)
set_option maxRecDepth 20000 in
theorem gX5_load_X1_waysOver : GoodIn wsX5_load (wsV RX5 155 RX1 yX1_waysOver wsX1_waysOver) := goodIn_app (goodIn_of _ (by decide +kernel)) ggX5_load_X1_waysOver
theorem dX5_load_0 : decode cX5_load 0 = .ok (.aload_n 0, 1) := by decide +kernel
theorem dX5_load_1 : decode cX5_load 1 = .ok (.getfield 10, 3) := by decide +kernel
theorem dX5_load_4 : decode cX5_load 4 = .ok (.iconst 1, 1) := by decide +kernel
theorem dX5_load_5 : decode cX5_load 5 = .ok (.iload_n 1, 1) := by decide +kernel
theorem dX5_load_6 : decode cX5_load 6 = .ok (.invokevirtual 59, 3) := by decide +kernel
theorem dX5_load_9 : decode cX5_load 9 = .ok (.ifCond .ne 7, 3) := by decide +kernel
theorem dX5_load_12 : decode cX5_load 12 = .ok (.sipush (-1001), 3) := by decide +kernel
theorem dX5_load_15 : decode cX5_load 15 = .ok (.ireturn, 1) := by decide +kernel
theorem dX5_load_16 : decode cX5_load 16 = .ok (.aload_n 0, 1) := by decide +kernel
theorem dX5_load_17 : decode cX5_load 17 = .ok (.getfield 10, 3) := by decide +kernel
theorem dX5_load_20 : decode cX5_load 20 = .ok (.aload_n 0, 1) := by decide +kernel
theorem dX5_load_21 : decode cX5_load 21 = .ok (.getfield 10, 3) := by decide +kernel
theorem dX5_load_24 : decode cX5_load 24 = .ok (.iload_n 1, 1) := by decide +kernel
theorem dX5_load_25 : decode cX5_load 25 = .ok (.iconst 0, 1) := by decide +kernel
theorem dX5_load_26 : decode cX5_load 26 = .ok (.invokevirtual 102, 3) := by decide +kernel
theorem dX5_load_29 : decode cX5_load 29 = .ok (.aload_n 0, 1) := by decide +kernel
theorem dX5_load_30 : decode cX5_load 30 = .ok (.getfield 10, 3) := by decide +kernel
theorem dX5_load_33 : decode cX5_load 33 = .ok (.iload_n 1, 1) := by decide +kernel
theorem dX5_load_34 : decode cX5_load 34 = .ok (.iconst 1, 1) := by decide +kernel
theorem dX5_load_35 : decode cX5_load 35 = .ok (.invokevirtual 102, 3) := by decide +kernel
theorem dX5_load_38 : decode cX5_load 38 = .ok (.invokevirtual 155, 3) := by decide +kernel
theorem dX5_load_41 : decode cX5_load 41 = .ok (.ireturn, 1) := by decide +kernel
set_option maxRecDepth 20000 in
theorem ggX5_firstDeath_X1_number : GoodIn wsX5_firstDeath wsX1_number := goodIn_r _ [7, 8, 9, 10, 11, 6, 12, 13, 14, 15, 16, 17, 18, 19, 20, 21, 22, 23, 229, 230, 231, 232, 233, 234, 235] (by decide +kernel) (by decide +kernel)
set_option maxRecDepth 20000 in
theorem gX5_firstDeath_X1_number : GoodIn wsX5_firstDeath (wsV RX5 48 RX1 yX1_number wsX1_number) := goodIn_app (goodIn_of _ (by decide +kernel)) ggX5_firstDeath_X1_number
set_option maxRecDepth 20000 in
theorem ggX5_firstDeath_X3_start : GoodIn wsX5_firstDeath wsX3_start := goodIn_r _ [28, 29, 30, 31, 32, 33, 6, 34, 8, 13, 35, 36, 37, 38, 39, 40, 15, 41, 42, 43, 44, 45, 46, 47, 48, 49, 50, 51, 52, 53, 54, 55, 56, 57, 58, 59, 60, 61, 4, 5, 7, 9, 10, 11, 12, 14, 16, 17, 18, 19, 20, 21, 22, 23, 62, 63, 64, 65, 66, 67, 225, 226, 227, 228, 229, 230, 231, 232, 233, 234, 235, 236, 237, 238, 239, 240] (by decide +kernel) (by decide +kernel)
set_option maxRecDepth 20000 in
theorem gX5_firstDeath_X3_start : GoodIn wsX5_firstDeath (wsV RX5 108 RX3 yX3_start wsX3_start) := goodIn_app (goodIn_of _ (by decide +kernel)) ggX5_firstDeath_X3_start
set_option maxRecDepth 20000 in
theorem ggX5_firstDeath_X3_run : GoodIn wsX5_firstDeath wsX3_run := goodIn_r _ [71, 29, 72, 73, 74, 75, 6, 76, 8, 14, 15, 16, 77, 78, 79, 80, 37, 81, 82, 83, 84, 38, 85, 86, 87, 88, 89, 90, 39, 91, 92, 93, 94, 66, 67, 95, 96, 97, 58, 59, 60, 98, 4, 5, 7, 9, 10, 11, 12, 13, 17, 18, 19, 20, 21, 22, 23, 99, 100, 101, 27, 102, 30, 103, 104, 105, 106, 36, 107, 108, 109, 110, 111, 112, 113, 114, 115, 116, 117, 118, 119, 120, 121, 122, 123, 124, 125, 126, 127, 128, 53, 129, 130, 131, 132, 133, 134, 135, 136, 137, 138, 139, 140, 141, 55, 142, 143, 144, 145, 146, 147, 44, 148, 149, 150, 151, 152, 153, 56, 154, 155, 156, 157, 158, 159, 160, 161, 162, 163, 164, 165, 166, 167, 168, 169, 170, 171, 172, 173, 174, 175, 176, 177, 178, 43, 45, 179, 180, 181, 182, 183, 184, 185, 186, 187, 188, 189, 190, 191, 192, 193, 194, 195, 196, 197, 198, 199, 200, 201, 202, 203, 204, 205, 206, 207, 208, 209, 210, 211, 212, 213, 214, 215, 216, 217, 218, 219, 225, 226, 227, 228, 229, 230, 231, 232, 233, 234, 235, 236, 237, 238, 239, 240] (by decide +kernel) (by decide +kernel)
set_option maxRecDepth 20000 in
theorem gX5_firstDeath_X3_run : GoodIn wsX5_firstDeath (wsV RX5 111 RX3 yX3_run wsX3_run) := goodIn_app (goodIn_of _ (by decide +kernel)) ggX5_firstDeath_X3_run
theorem dX5_firstDeath_0 : decode cX5_firstDeath 0 = .ok (.aload_n 0, 1) := by decide +kernel
theorem dX5_firstDeath_1 : decode cX5_firstDeath 1 = .ok (.getfield 10, 3) := by decide +kernel
theorem dX5_firstDeath_4 : decode cX5_firstDeath 4 = .ok (.bipush 6, 2) := by decide +kernel
theorem dX5_firstDeath_6 : decode cX5_firstDeath 6 = .ok (.invokevirtual 48, 3) := by decide +kernel
theorem dX5_firstDeath_9 : decode cX5_firstDeath 9 = .ok (.istore_n 1, 1) := by decide +kernel
theorem dX5_firstDeath_10 : decode cX5_firstDeath 10 = .ok (.aload_n 0, 1) := by decide +kernel
theorem dX5_firstDeath_11 : decode cX5_firstDeath 11 = .ok (.getfield 19, 3) := by decide +kernel
theorem dX5_firstDeath_14 : decode cX5_firstDeath 14 = .ok (.aload_n 0, 1) := by decide +kernel
theorem dX5_firstDeath_15 : decode cX5_firstDeath 15 = .ok (.getfield 10, 3) := by decide +kernel
theorem dX5_firstDeath_18 : decode cX5_firstDeath 18 = .ok (.invokevirtual 108, 3) := by decide +kernel
theorem dX5_firstDeath_21 : decode cX5_firstDeath 21 = .ok (.iconst 1, 1) := by decide +kernel
theorem dX5_firstDeath_22 : decode cX5_firstDeath 22 = .ok (.istore_n 2, 1) := by decide +kernel
theorem dX5_firstDeath_23 : decode cX5_firstDeath 23 = .ok (.iload_n 2, 1) := by decide +kernel
theorem dX5_firstDeath_24 : decode cX5_firstDeath 24 = .ok (.sipush 500, 3) := by decide +kernel
theorem dX5_firstDeath_27 : decode cX5_firstDeath 27 = .ok (.if_icmp .gt 36, 3) := by decide +kernel
theorem dX5_firstDeath_30 : decode cX5_firstDeath 30 = .ok (.aload_n 0, 1) := by decide +kernel
theorem dX5_firstDeath_31 : decode cX5_firstDeath 31 = .ok (.getfield 19, 3) := by decide +kernel
theorem dX5_firstDeath_34 : decode cX5_firstDeath 34 = .ok (.iconst 1, 1) := by decide +kernel
theorem dX5_firstDeath_35 : decode cX5_firstDeath 35 = .ok (.invokevirtual 111, 3) := by decide +kernel
theorem dX5_firstDeath_38 : decode cX5_firstDeath 38 = .ok (.pop, 1) := by decide +kernel
theorem dX5_firstDeath_39 : decode cX5_firstDeath 39 = .ok (.aload_n 0, 1) := by decide +kernel
theorem dX5_firstDeath_40 : decode cX5_firstDeath 40 = .ok (.getfield 19, 3) := by decide +kernel
theorem dX5_firstDeath_43 : decode cX5_firstDeath 43 = .ok (.getfield 114, 3) := by decide +kernel
theorem dX5_firstDeath_46 : decode cX5_firstDeath 46 = .ok (.bipush 6, 2) := by decide +kernel
theorem dX5_firstDeath_48 : decode cX5_firstDeath 48 = .ok (.invokevirtual 48, 3) := by decide +kernel
theorem dX5_firstDeath_51 : decode cX5_firstDeath 51 = .ok (.iload_n 1, 1) := by decide +kernel
theorem dX5_firstDeath_52 : decode cX5_firstDeath 52 = .ok (.if_icmp .ge 5, 3) := by decide +kernel
theorem dX5_firstDeath_55 : decode cX5_firstDeath 55 = .ok (.iload_n 2, 1) := by decide +kernel
theorem dX5_firstDeath_56 : decode cX5_firstDeath 56 = .ok (.ireturn, 1) := by decide +kernel
theorem dX5_firstDeath_57 : decode cX5_firstDeath 57 = .ok (.iinc 2 1, 3) := by decide +kernel
theorem dX5_firstDeath_60 : decode cX5_firstDeath 60 = .ok (.goto (-37), 3) := by decide +kernel
theorem dX5_firstDeath_63 : decode cX5_firstDeath 63 = .ok (.sipush (-1000), 3) := by decide +kernel
theorem dX5_firstDeath_66 : decode cX5_firstDeath 66 = .ok (.ireturn, 1) := by decide +kernel
set_option maxRecDepth 20000 in
theorem ggX5_willDeliver_X5_isWithin : GoodIn wsX5_willDeliver wsX5_isWithin := goodIn_r _ [6] (by decide +kernel) (by decide +kernel)
set_option maxRecDepth 20000 in
theorem gX5_willDeliver_X5_isWithin : GoodIn wsX5_willDeliver (va_wsS RX5 44 yX5_isWithin wsX5_isWithin) := goodIn_app (goodIn_of _ (by decide +kernel)) ggX5_willDeliver_X5_isWithin
set_option maxRecDepth 20000 in
theorem ggX5_willDeliver_X3_start : GoodIn wsX5_willDeliver wsX3_start := goodIn_r _ [11, 12, 13, 14, 15, 16, 17, 18, 19, 20, 21, 22, 23, 24, 25, 26, 5, 27, 28, 29, 30, 31, 32, 33, 34, 35, 36, 37, 38, 39, 40, 41, 42, 43, 44, 45, 46, 47, 48, 49, 50, 51, 52, 53, 54, 55, 56, 57, 58, 59, 60, 61, 62, 63, 64, 65, 66, 67, 68, 69, 225, 226, 227, 228, 229, 230, 231, 232, 233, 234, 235, 236, 237, 238, 239, 240] (by decide +kernel) (by decide +kernel)
set_option maxRecDepth 20000 in
theorem gX5_willDeliver_X3_start : GoodIn wsX5_willDeliver (wsV RX5 108 RX3 yX3_start wsX3_start) := goodIn_app (goodIn_of _ (by decide +kernel)) ggX5_willDeliver_X3_start
set_option maxRecDepth 20000 in
theorem ggX5_willDeliver_X3_run : GoodIn wsX5_willDeliver wsX3_run := goodIn_r _ [73, 12, 74, 75, 76, 77, 17, 78, 19, 55, 5, 56, 79, 80, 81, 82, 23, 83, 84, 85, 86, 24, 87, 88, 89, 90, 91, 92, 25, 93, 94, 95, 96, 68, 69, 97, 98, 99, 44, 45, 46, 100, 48, 49, 50, 51, 52, 53, 54, 20, 57, 58, 59, 60, 61, 62, 63, 101, 102, 103, 10, 104, 13, 105, 106, 107, 108, 22, 109, 110, 111, 112, 113, 114, 115, 4, 6, 116, 117, 118, 119, 120, 121, 122, 123, 124, 125, 126, 127, 128, 39, 129, 130, 131, 132, 133, 134, 135, 136, 137, 138, 139, 140, 141, 41, 142, 143, 144, 145, 146, 147, 30, 148, 149, 150, 151, 152, 153, 42, 154, 155, 156, 157, 158, 159, 160, 161, 162, 163, 164, 165, 166, 167, 168, 169, 170, 171, 172, 173, 174, 175, 176, 177, 178, 29, 31, 179, 180, 181, 182, 183, 184, 185, 186, 187, 188, 189, 190, 191, 192, 193, 194, 195, 196, 197, 198, 199, 200, 201, 202, 203, 204, 205, 206, 207, 208, 209, 210, 211, 212, 213, 214, 215, 216, 217, 218, 219, 225, 226, 227, 228, 229, 230, 231, 232, 233, 234, 235, 236, 237, 238, 239, 240] (by decide +kernel) (by decide +kernel)
set_option maxRecDepth 20000 in
theorem gX5_willDeliver_X3_run : GoodIn wsX5_willDeliver (wsV RX5 111 RX3 yX3_run wsX3_run) := goodIn_app (goodIn_of _ (by decide +kernel)) ggX5_willDeliver_X3_run
theorem dX5_willDeliver_0 : decode cX5_willDeliver 0 = .ok (.iload_n 1, 1) := by decide +kernel
theorem dX5_willDeliver_1 : decode cX5_willDeliver 1 = .ok (.iconst 1, 1) := by decide +kernel
theorem dX5_willDeliver_2 : decode cX5_willDeliver 2 = .ok (.sipush 500, 3) := by decide +kernel
theorem dX5_willDeliver_5 : decode cX5_willDeliver 5 = .ok (.invokestatic 44, 3) := by decide +kernel
theorem dX5_willDeliver_8 : decode cX5_willDeliver 8 = .ok (.ifCond .ne 7, 3) := by decide +kernel
theorem dX5_willDeliver_11 : decode cX5_willDeliver 11 = .ok (.sipush (-1002), 3) := by decide +kernel
theorem dX5_willDeliver_14 : decode cX5_willDeliver 14 = .ok (.ireturn, 1) := by decide +kernel
theorem dX5_willDeliver_15 : decode cX5_willDeliver 15 = .ok (.aload_n 0, 1) := by decide +kernel
theorem dX5_willDeliver_16 : decode cX5_willDeliver 16 = .ok (.getfield 19, 3) := by decide +kernel
theorem dX5_willDeliver_19 : decode cX5_willDeliver 19 = .ok (.aload_n 0, 1) := by decide +kernel
theorem dX5_willDeliver_20 : decode cX5_willDeliver 20 = .ok (.getfield 10, 3) := by decide +kernel
theorem dX5_willDeliver_23 : decode cX5_willDeliver 23 = .ok (.invokevirtual 108, 3) := by decide +kernel
theorem dX5_willDeliver_26 : decode cX5_willDeliver 26 = .ok (.aload_n 0, 1) := by decide +kernel
theorem dX5_willDeliver_27 : decode cX5_willDeliver 27 = .ok (.getfield 19, 3) := by decide +kernel
theorem dX5_willDeliver_30 : decode cX5_willDeliver 30 = .ok (.iload_n 1, 1) := by decide +kernel
theorem dX5_willDeliver_31 : decode cX5_willDeliver 31 = .ok (.invokevirtual 111, 3) := by decide +kernel
theorem dX5_willDeliver_34 : decode cX5_willDeliver 34 = .ok (.ireturn, 1) := by decide +kernel
set_option maxRecDepth 20000 in
theorem ggX5_bestPeriod_X5_isWithin : GoodIn wsX5_bestPeriod wsX5_isWithin := goodIn_r _ [6] (by decide +kernel) (by decide +kernel)
set_option maxRecDepth 20000 in
theorem gX5_bestPeriod_X5_isWithin : GoodIn wsX5_bestPeriod (va_wsS RX5 44 yX5_isWithin wsX5_isWithin) := goodIn_app (goodIn_of _ (by decide +kernel)) ggX5_bestPeriod_X5_isWithin
set_option maxRecDepth 20000 in
theorem ggX5_bestPeriod_X3_start : GoodIn wsX5_bestPeriod wsX3_start := goodIn_r _ [11, 12, 13, 14, 15, 16, 17, 18, 19, 20, 21, 22, 23, 24, 25, 26, 5, 27, 28, 29, 30, 31, 32, 33, 34, 35, 36, 37, 38, 39, 40, 41, 42, 43, 44, 45, 46, 47, 48, 49, 50, 51, 52, 53, 54, 55, 56, 57, 58, 59, 60, 61, 62, 63, 64, 65, 66, 67, 68, 69, 229, 230, 231, 232, 233, 234, 235, 236, 237, 238, 239, 240, 241, 242, 243, 244] (by decide +kernel) (by decide +kernel)
set_option maxRecDepth 20000 in
theorem gX5_bestPeriod_X3_start : GoodIn wsX5_bestPeriod (wsV RX5 108 RX3 yX3_start wsX3_start) := goodIn_app (goodIn_of _ (by decide +kernel)) ggX5_bestPeriod_X3_start
set_option maxRecDepth 20000 in
theorem ggX5_bestPeriod_X1_setNumber : GoodIn wsX5_bestPeriod wsX1_setNumber := goodIn_r _ [73, 19, 68, 5, 69, 233, 234, 235, 236, 237, 238, 239] (by decide +kernel) (by decide +kernel)
set_option maxRecDepth 20000 in
theorem gX5_bestPeriod_X1_setNumber : GoodIn wsX5_bestPeriod (wsV RX5 99 RX1 yX1_setNumber wsX1_setNumber) := goodIn_app (goodIn_of _ (by decide +kernel)) ggX5_bestPeriod_X1_setNumber
set_option maxRecDepth 20000 in
theorem ggX5_bestPeriod_X3_run : GoodIn wsX5_bestPeriod wsX3_run := goodIn_r _ [77, 12, 78, 79, 80, 81, 17, 82, 19, 55, 5, 56, 83, 84, 85, 86, 23, 87, 88, 89, 90, 24, 91, 92, 93, 94, 95, 96, 25, 97, 98, 99, 100, 68, 69, 101, 102, 103, 44, 45, 46, 104, 48, 49, 50, 51, 52, 53, 54, 20, 57, 58, 59, 60, 61, 62, 63, 105, 106, 107, 10, 108, 13, 109, 110, 111, 112, 22, 113, 114, 115, 116, 117, 118, 119, 4, 6, 120, 121, 122, 123, 124, 125, 126, 127, 128, 129, 130, 131, 132, 39, 133, 134, 135, 136, 137, 138, 139, 140, 141, 142, 143, 144, 145, 41, 146, 147, 148, 149, 150, 151, 30, 152, 153, 154, 155, 156, 157, 42, 158, 159, 160, 161, 162, 163, 164, 165, 166, 167, 168, 169, 170, 171, 172, 173, 174, 175, 176, 177, 178, 179, 180, 181, 182, 29, 31, 183, 184, 185, 186, 187, 188, 189, 190, 191, 192, 193, 194, 195, 196, 197, 198, 199, 200, 201, 202, 203, 204, 205, 206, 207, 208, 209, 210, 211, 212, 213, 214, 215, 216, 217, 218, 219, 220, 221, 222, 223, 229, 230, 231, 232, 233, 234, 235, 236, 237, 238, 239, 240, 241, 242, 243, 244] (by decide +kernel) (by decide +kernel)
set_option maxRecDepth 20000 in
theorem gX5_bestPeriod_X3_run : GoodIn wsX5_bestPeriod (wsV RX5 111 RX3 yX3_run wsX3_run) := goodIn_app (goodIn_of _ (by decide +kernel)) ggX5_bestPeriod_X3_run
theorem dX5_bestPeriod_0 : decode cX5_bestPeriod 0 = .ok (.iload_n 1, 1) := by decide +kernel
theorem dX5_bestPeriod_1 : decode cX5_bestPeriod 1 = .ok (.iconst 1, 1) := by decide +kernel
theorem dX5_bestPeriod_2 : decode cX5_bestPeriod 2 = .ok (.sipush 200, 3) := by decide +kernel
theorem dX5_bestPeriod_5 : decode cX5_bestPeriod 5 = .ok (.invokestatic 44, 3) := by decide +kernel
theorem dX5_bestPeriod_8 : decode cX5_bestPeriod 8 = .ok (.ifCond .ne 7, 3) := by decide +kernel
theorem dX5_bestPeriod_11 : decode cX5_bestPeriod 11 = .ok (.sipush (-1002), 3) := by decide +kernel
theorem dX5_bestPeriod_14 : decode cX5_bestPeriod 14 = .ok (.ireturn, 1) := by decide +kernel
theorem dX5_bestPeriod_15 : decode cX5_bestPeriod 15 = .ok (.iconst 1, 1) := by decide +kernel
theorem dX5_bestPeriod_16 : decode cX5_bestPeriod 16 = .ok (.istore_n 2, 1) := by decide +kernel
theorem dX5_bestPeriod_17 : decode cX5_bestPeriod 17 = .ok (.iconst (-1), 1) := by decide +kernel
theorem dX5_bestPeriod_18 : decode cX5_bestPeriod 18 = .ok (.istore_n 3, 1) := by decide +kernel
theorem dX5_bestPeriod_19 : decode cX5_bestPeriod 19 = .ok (.iconst 1, 1) := by decide +kernel
theorem dX5_bestPeriod_20 : decode cX5_bestPeriod 20 = .ok (.istore 4, 2) := by decide +kernel
theorem dX5_bestPeriod_22 : decode cX5_bestPeriod 22 = .ok (.iload 4, 2) := by decide +kernel
theorem dX5_bestPeriod_24 : decode cX5_bestPeriod 24 = .ok (.bipush 50, 2) := by decide +kernel
theorem dX5_bestPeriod_26 : decode cX5_bestPeriod 26 = .ok (.if_icmp .gt 55, 3) := by decide +kernel
theorem dX5_bestPeriod_29 : decode cX5_bestPeriod 29 = .ok (.aload_n 0, 1) := by decide +kernel
theorem dX5_bestPeriod_30 : decode cX5_bestPeriod 30 = .ok (.getfield 19, 3) := by decide +kernel
theorem dX5_bestPeriod_33 : decode cX5_bestPeriod 33 = .ok (.aload_n 0, 1) := by decide +kernel
theorem dX5_bestPeriod_34 : decode cX5_bestPeriod 34 = .ok (.getfield 10, 3) := by decide +kernel
theorem dX5_bestPeriod_37 : decode cX5_bestPeriod 37 = .ok (.invokevirtual 108, 3) := by decide +kernel
theorem dX5_bestPeriod_40 : decode cX5_bestPeriod 40 = .ok (.aload_n 0, 1) := by decide +kernel
theorem dX5_bestPeriod_41 : decode cX5_bestPeriod 41 = .ok (.getfield 19, 3) := by decide +kernel
theorem dX5_bestPeriod_44 : decode cX5_bestPeriod 44 = .ok (.getfield 114, 3) := by decide +kernel
theorem dX5_bestPeriod_47 : decode cX5_bestPeriod 47 = .ok (.iconst 4, 1) := by decide +kernel
theorem dX5_bestPeriod_48 : decode cX5_bestPeriod 48 = .ok (.iload 4, 2) := by decide +kernel
theorem dX5_bestPeriod_50 : decode cX5_bestPeriod 50 = .ok (.invokevirtual 99, 3) := by decide +kernel
theorem dX5_bestPeriod_53 : decode cX5_bestPeriod 53 = .ok (.aload_n 0, 1) := by decide +kernel
theorem dX5_bestPeriod_54 : decode cX5_bestPeriod 54 = .ok (.getfield 19, 3) := by decide +kernel
theorem dX5_bestPeriod_57 : decode cX5_bestPeriod 57 = .ok (.iload_n 1, 1) := by decide +kernel
theorem dX5_bestPeriod_58 : decode cX5_bestPeriod 58 = .ok (.invokevirtual 111, 3) := by decide +kernel
theorem dX5_bestPeriod_61 : decode cX5_bestPeriod 61 = .ok (.istore 5, 2) := by decide +kernel
theorem dX5_bestPeriod_63 : decode cX5_bestPeriod 63 = .ok (.iload 5, 2) := by decide +kernel
theorem dX5_bestPeriod_65 : decode cX5_bestPeriod 65 = .ok (.iload_n 3, 1) := by decide +kernel
theorem dX5_bestPeriod_66 : decode cX5_bestPeriod 66 = .ok (.if_icmp .le 9, 3) := by decide +kernel
theorem dX5_bestPeriod_69 : decode cX5_bestPeriod 69 = .ok (.iload 4, 2) := by decide +kernel
theorem dX5_bestPeriod_71 : decode cX5_bestPeriod 71 = .ok (.istore_n 2, 1) := by decide +kernel
theorem dX5_bestPeriod_72 : decode cX5_bestPeriod 72 = .ok (.iload 5, 2) := by decide +kernel
theorem dX5_bestPeriod_74 : decode cX5_bestPeriod 74 = .ok (.istore_n 3, 1) := by decide +kernel
theorem dX5_bestPeriod_75 : decode cX5_bestPeriod 75 = .ok (.iinc 4 1, 3) := by decide +kernel
theorem dX5_bestPeriod_78 : decode cX5_bestPeriod 78 = .ok (.goto (-56), 3) := by decide +kernel
theorem dX5_bestPeriod_81 : decode cX5_bestPeriod 81 = .ok (.iload_n 2, 1) := by decide +kernel
theorem dX5_bestPeriod_82 : decode cX5_bestPeriod 82 = .ok (.ireturn, 1) := by decide +kernel
set_option maxRecDepth 20000 in
theorem ggX5_undo_X0_restore : GoodIn wsX5_undo wsX0_restore := goodIn_r _ [7, 8, 9, 10, 11, 6, 12, 13, 14, 15, 16, 17, 18, 19, 20, 21, 22, 23, 24, 25, 26, 27, 28, 29, 30, 31, 32, 33, 34, 35, 36, 37, 43, 44, 45, 46, 47, 48, 49, 50, 51, 52] (by decide +kernel) (by decide +kernel)
set_option maxRecDepth 20000 in
theorem gX5_undo_X0_restore : GoodIn wsX5_undo (wsV RX5 158 RX0 yX0_restore wsX0_restore) := goodIn_app (goodIn_of _ (by decide +kernel)) ggX5_undo_X0_restore
theorem dX5_undo_0 : decode cX5_undo 0 = .ok (.aload_n 0, 1) := by decide +kernel
theorem dX5_undo_1 : decode cX5_undo 1 = .ok (.getfield 33, 3) := by decide +kernel
theorem dX5_undo_4 : decode cX5_undo 4 = .ok (.aload_n 0, 1) := by decide +kernel
theorem dX5_undo_5 : decode cX5_undo 5 = .ok (.getfield 10, 3) := by decide +kernel
theorem dX5_undo_8 : decode cX5_undo 8 = .ok (.invokevirtual 158, 3) := by decide +kernel
theorem dX5_undo_11 : decode cX5_undo 11 = .ok (.ifCond .eq 13, 3) := by decide +kernel
theorem dX5_undo_14 : decode cX5_undo 14 = .ok (.aload_n 0, 1) := by decide +kernel
theorem dX5_undo_15 : decode cX5_undo 15 = .ok (.getfield 33, 3) := by decide +kernel
theorem dX5_undo_18 : decode cX5_undo 18 = .ok (.getfield 162, 3) := by decide +kernel
theorem dX5_undo_21 : decode cX5_undo 21 = .ok (.goto 6, 3) := by decide +kernel
theorem dX5_undo_24 : decode cX5_undo 24 = .ok (.sipush (-1003), 3) := by decide +kernel
theorem dX5_undo_27 : decode cX5_undo 27 = .ok (.ireturn, 1) := by decide +kernel
set_option maxRecDepth 20000 in
theorem ggX5_build_X4_read : GoodIn wsX5_build wsX4_read := goodIn_r _ [8, 9, 10, 11, 12, 13, 14, 15, 16, 17, 18, 19, 20, 21, 22, 23, 24, 25, 26, 27, 28, 29, 30, 31, 32, 33, 34, 35, 36, 37, 7, 38, 39, 40, 41, 42, 43, 44, 45, 46, 47, 48, 49, 50, 51, 52, 53, 54, 55, 56, 57, 58, 59, 60, 61, 62, 63, 64, 65, 66, 67, 68, 69, 70, 71, 72, 73, 74, 75, 76, 77, 78, 79, 80, 81, 82, 83, 84, 85, 86, 87, 88, 89, 90, 91, 92, 93, 94, 95, 96, 97, 98, 99, 100, 101, 102, 103, 104, 105, 106, 107, 108, 109, 110, 111, 112, 113, 114, 115, 116, 117, 137, 138, 139, 140, 141, 142, 143, 144, 145, 146, 147, 148, 149, 150] (by decide +kernel) (by decide +kernel)
set_option maxRecDepth 20000 in
theorem gX5_build_X4_read : GoodIn wsX5_build (wsV RX5 173 RX4 yX4_read wsX4_read) := goodIn_app (goodIn_of _ (by decide +kernel)) ggX5_build_X4_read
set_option maxRecDepth 20000 in
theorem ggX5_build_X0_record : GoodIn wsX5_build wsX0_record := goodIn_r _ [122, 123, 124, 125, 126, 127, 121, 128, 129, 130, 13, 14, 15, 16, 17, 18, 19, 20, 21, 22, 23, 24, 25, 26, 27, 28, 29, 30, 31, 32, 33, 34, 151, 152, 153, 144, 145, 146, 147, 148, 149, 150] (by decide +kernel) (by decide +kernel)
set_option maxRecDepth 20000 in
theorem gX5_build_X0_record : GoodIn wsX5_build (wsV RX5 52 RX0 yX0_record wsX0_record) := goodIn_app (goodIn_of _ (by decide +kernel)) ggX5_build_X0_record
set_option maxRecDepth 20000 in
theorem ggX5_build_X1_copyFrom : GoodIn wsX5_build wsX1_copyFrom := goodIn_r _ [16, 17, 18, 19, 20, 21, 22, 23, 24, 25, 26, 27, 28, 29, 30, 31, 32, 33, 34, 144, 145, 146, 147, 148, 149, 150] (by decide +kernel) (by decide +kernel)
set_option maxRecDepth 20000 in
theorem gX5_build_X1_copyFrom : GoodIn wsX5_build (wsV RX5 117 RX1 yX1_copyFrom wsX1_copyFrom) := goodIn_app (goodIn_of _ (by decide +kernel)) ggX5_build_X1_copyFrom
theorem dX5_build_0 : decode cX5_build 0 = .ok (.aload_n 0, 1) := by decide +kernel
theorem dX5_build_1 : decode cX5_build 1 = .ok (.getfield 40, 3) := by decide +kernel
theorem dX5_build_4 : decode cX5_build 4 = .ok (.aload_n 0, 1) := by decide +kernel
theorem dX5_build_5 : decode cX5_build 5 = .ok (.getfield 10, 3) := by decide +kernel
theorem dX5_build_8 : decode cX5_build 8 = .ok (.invokevirtual 173, 3) := by decide +kernel
theorem dX5_build_11 : decode cX5_build 11 = .ok (.ifCond .ne 7, 3) := by decide +kernel
theorem dX5_build_14 : decode cX5_build 14 = .ok (.sipush (-1003), 3) := by decide +kernel
theorem dX5_build_17 : decode cX5_build 17 = .ok (.ireturn, 1) := by decide +kernel
theorem dX5_build_18 : decode cX5_build 18 = .ok (.aload_n 0, 1) := by decide +kernel
theorem dX5_build_19 : decode cX5_build 19 = .ok (.getfield 33, 3) := by decide +kernel
theorem dX5_build_22 : decode cX5_build 22 = .ok (.aload_n 0, 1) := by decide +kernel
theorem dX5_build_23 : decode cX5_build 23 = .ok (.getfield 10, 3) := by decide +kernel
theorem dX5_build_26 : decode cX5_build 26 = .ok (.invokevirtual 52, 3) := by decide +kernel
theorem dX5_build_29 : decode cX5_build 29 = .ok (.aload_n 0, 1) := by decide +kernel
theorem dX5_build_30 : decode cX5_build 30 = .ok (.getfield 10, 3) := by decide +kernel
theorem dX5_build_33 : decode cX5_build 33 = .ok (.aload_n 0, 1) := by decide +kernel
theorem dX5_build_34 : decode cX5_build 34 = .ok (.getfield 40, 3) := by decide +kernel
theorem dX5_build_37 : decode cX5_build 37 = .ok (.getfield 179, 3) := by decide +kernel
theorem dX5_build_40 : decode cX5_build 40 = .ok (.invokevirtual 117, 3) := by decide +kernel
theorem dX5_build_43 : decode cX5_build 43 = .ok (.aload_n 0, 1) := by decide +kernel
theorem dX5_build_44 : decode cX5_build 44 = .ok (.getfield 40, 3) := by decide +kernel
theorem dX5_build_47 : decode cX5_build 47 = .ok (.getfield 180, 3) := by decide +kernel
theorem dX5_build_50 : decode cX5_build 50 = .ok (.ireturn, 1) := by decide +kernel
set_option maxRecDepth 20000 in
theorem ggX5_digest_X1_hash : GoodIn wsX5_digest wsX1_hash := goodIn_r _ [6, 7, 8, 9, 10, 11, 12, 13, 14, 15, 16, 5, 17, 18, 19, 20, 21, 22, 23, 24, 25, 26, 27, 28, 29, 30, 31, 32, 33, 34, 35, 36, 37, 38, 39, 40, 41, 42, 43, 44, 45, 46, 47, 48, 49, 50, 51, 57, 58, 59, 60, 61, 62, 63] (by decide +kernel) (by decide +kernel)
set_option maxRecDepth 20000 in
theorem gX5_digest_X1_hash : GoodIn wsX5_digest (wsV RX5 183 RX1 yX1_hash wsX1_hash) := goodIn_app (goodIn_of _ (by decide +kernel)) ggX5_digest_X1_hash
theorem dX5_digest_0 : decode cX5_digest 0 = .ok (.aload_n 0, 1) := by decide +kernel
theorem dX5_digest_1 : decode cX5_digest 1 = .ok (.getfield 10, 3) := by decide +kernel
theorem dX5_digest_4 : decode cX5_digest 4 = .ok (.invokevirtual 183, 3) := by decide +kernel
theorem dX5_digest_7 : decode cX5_digest 7 = .ok (.lreturn, 1) := by decide +kernel
set_option maxRecDepth 20000 in
theorem ggX5_hasWay_X1_has : GoodIn wsX5_hasWay wsX1_has := goodIn_r _ [6, 7, 8, 9, 10, 16, 17, 18, 19, 20, 21, 22] (by decide +kernel) (by decide +kernel)
set_option maxRecDepth 20000 in
theorem gX5_hasWay_X1_has : GoodIn wsX5_hasWay (wsV RX5 59 RX1 yX1_has wsX1_has) := goodIn_app (goodIn_of _ (by decide +kernel)) ggX5_hasWay_X1_has
theorem dX5_hasWay_0 : decode cX5_hasWay 0 = .ok (.aload_n 0, 1) := by decide +kernel
theorem dX5_hasWay_1 : decode cX5_hasWay 1 = .ok (.getfield 10, 3) := by decide +kernel
theorem dX5_hasWay_4 : decode cX5_hasWay 4 = .ok (.iconst 3, 1) := by decide +kernel
theorem dX5_hasWay_5 : decode cX5_hasWay 5 = .ok (.iload_n 1, 1) := by decide +kernel
theorem dX5_hasWay_6 : decode cX5_hasWay 6 = .ok (.invokevirtual 59, 3) := by decide +kernel
theorem dX5_hasWay_9 : decode cX5_hasWay 9 = .ok (.ifCond .eq 19, 3) := by decide +kernel
theorem dX5_hasWay_12 : decode cX5_hasWay 12 = .ok (.aload_n 0, 1) := by decide +kernel
theorem dX5_hasWay_13 : decode cX5_hasWay 13 = .ok (.getfield 10, 3) := by decide +kernel
theorem dX5_hasWay_16 : decode cX5_hasWay 16 = .ok (.iconst 2, 1) := by decide +kernel
theorem dX5_hasWay_17 : decode cX5_hasWay 17 = .ok (.iload_n 2, 1) := by decide +kernel
theorem dX5_hasWay_18 : decode cX5_hasWay 18 = .ok (.invokevirtual 59, 3) := by decide +kernel
theorem dX5_hasWay_21 : decode cX5_hasWay 21 = .ok (.ifCond .eq 7, 3) := by decide +kernel
theorem dX5_hasWay_24 : decode cX5_hasWay 24 = .ok (.iconst 1, 1) := by decide +kernel
theorem dX5_hasWay_25 : decode cX5_hasWay 25 = .ok (.goto 4, 3) := by decide +kernel
theorem dX5_hasWay_28 : decode cX5_hasWay 28 = .ok (.iconst 0, 1) := by decide +kernel
theorem dX5_hasWay_29 : decode cX5_hasWay 29 = .ok (.ireturn, 1) := by decide +kernel
theorem dX5_wayOf_0 : decode cX5_wayOf 0 = .ok (.iload_n 0, 1) := by decide +kernel
theorem dX5_wayOf_1 : decode cX5_wayOf 1 = .ok (.bipush 6, 2) := by decide +kernel
theorem dX5_wayOf_3 : decode cX5_wayOf 3 = .ok (.imul, 1) := by decide +kernel
theorem dX5_wayOf_4 : decode cX5_wayOf 4 = .ok (.iload_n 1, 1) := by decide +kernel
theorem dX5_wayOf_5 : decode cX5_wayOf 5 = .ok (.iadd, 1) := by decide +kernel
theorem dX5_wayOf_6 : decode cX5_wayOf 6 = .ok (.ireturn, 1) := by decide +kernel
theorem dX5_isWithin_0 : decode cX5_isWithin 0 = .ok (.iload_n 0, 1) := by decide +kernel
theorem dX5_isWithin_1 : decode cX5_isWithin 1 = .ok (.iload_n 1, 1) := by decide +kernel
theorem dX5_isWithin_2 : decode cX5_isWithin 2 = .ok (.if_icmp .lt 12, 3) := by decide +kernel
theorem dX5_isWithin_5 : decode cX5_isWithin 5 = .ok (.iload_n 0, 1) := by decide +kernel
theorem dX5_isWithin_6 : decode cX5_isWithin 6 = .ok (.iload_n 2, 1) := by decide +kernel
theorem dX5_isWithin_7 : decode cX5_isWithin 7 = .ok (.if_icmp .gt 7, 3) := by decide +kernel
theorem dX5_isWithin_10 : decode cX5_isWithin 10 = .ok (.iconst 1, 1) := by decide +kernel
theorem dX5_isWithin_11 : decode cX5_isWithin 11 = .ok (.goto 4, 3) := by decide +kernel
theorem dX5_isWithin_14 : decode cX5_isWithin 14 = .ok (.iconst 0, 1) := by decide +kernel
theorem dX5_isWithin_15 : decode cX5_isWithin 15 = .ok (.ireturn, 1) := by decide +kernel
theorem dX5_holds_0 : decode cX5_holds 0 = .ok (.iload_n 1, 1) := by decide +kernel
theorem dX5_holds_1 : decode cX5_holds 1 = .ok (.ifCond .lt 22, 3) := by decide +kernel
theorem dX5_holds_4 : decode cX5_holds 4 = .ok (.iload_n 1, 1) := by decide +kernel
theorem dX5_holds_5 : decode cX5_holds 5 = .ok (.bipush 10, 2) := by decide +kernel
theorem dX5_holds_7 : decode cX5_holds 7 = .ok (.if_icmp .ge 16, 3) := by decide +kernel
theorem dX5_holds_10 : decode cX5_holds 10 = .ok (.iload_n 0, 1) := by decide +kernel
theorem dX5_holds_11 : decode cX5_holds 11 = .ok (.iload_n 1, 1) := by decide +kernel
theorem dX5_holds_12 : decode cX5_holds 12 = .ok (.ishr, 1) := by decide +kernel
theorem dX5_holds_13 : decode cX5_holds 13 = .ok (.iconst 1, 1) := by decide +kernel
theorem dX5_holds_14 : decode cX5_holds 14 = .ok (.iand, 1) := by decide +kernel
theorem dX5_holds_15 : decode cX5_holds 15 = .ok (.iconst 1, 1) := by decide +kernel
theorem dX5_holds_16 : decode cX5_holds 16 = .ok (.if_icmp .ne 7, 3) := by decide +kernel
theorem dX5_holds_19 : decode cX5_holds 19 = .ok (.iconst 1, 1) := by decide +kernel
theorem dX5_holds_20 : decode cX5_holds 20 = .ok (.goto 4, 3) := by decide +kernel
theorem dX5_holds_23 : decode cX5_holds 23 = .ok (.iconst 0, 1) := by decide +kernel
theorem dX5_holds_24 : decode cX5_holds 24 = .ok (.ireturn, 1) := by decide +kernel
theorem dX5_at_0 : decode cX5_at 0 = .ok (.iload_n 1, 1) := by decide +kernel
theorem dX5_at_1 : decode cX5_at 1 = .ok (.ifCond .lt 15, 3) := by decide +kernel
theorem dX5_at_4 : decode cX5_at 4 = .ok (.iload_n 1, 1) := by decide +kernel
theorem dX5_at_5 : decode cX5_at 5 = .ok (.aload_n 0, 1) := by decide +kernel
theorem dX5_at_6 : decode cX5_at 6 = .ok (.arraylength, 1) := by decide +kernel
theorem dX5_at_7 : decode cX5_at 7 = .ok (.if_icmp .ge 9, 3) := by decide +kernel
theorem dX5_at_10 : decode cX5_at 10 = .ok (.aload_n 0, 1) := by decide +kernel
theorem dX5_at_11 : decode cX5_at 11 = .ok (.iload_n 1, 1) := by decide +kernel
theorem dX5_at_12 : decode cX5_at 12 = .ok (.iaload, 1) := by decide +kernel
theorem dX5_at_13 : decode cX5_at 13 = .ok (.goto 4, 3) := by decide +kernel
theorem dX5_at_16 : decode cX5_at 16 = .ok (.iconst 0, 1) := by decide +kernel
theorem dX5_at_17 : decode cX5_at 17 = .ok (.ireturn, 1) := by decide +kernel
theorem dX5_put_0 : decode cX5_put 0 = .ok (.iload_n 1, 1) := by decide +kernel
theorem dX5_put_1 : decode cX5_put 1 = .ok (.ifCond .lt 13, 3) := by decide +kernel
theorem dX5_put_4 : decode cX5_put 4 = .ok (.iload_n 1, 1) := by decide +kernel
theorem dX5_put_5 : decode cX5_put 5 = .ok (.aload_n 0, 1) := by decide +kernel
theorem dX5_put_6 : decode cX5_put 6 = .ok (.arraylength, 1) := by decide +kernel
theorem dX5_put_7 : decode cX5_put 7 = .ok (.if_icmp .ge 7, 3) := by decide +kernel
theorem dX5_put_10 : decode cX5_put 10 = .ok (.aload_n 0, 1) := by decide +kernel
theorem dX5_put_11 : decode cX5_put 11 = .ok (.iload_n 1, 1) := by decide +kernel
theorem dX5_put_12 : decode cX5_put 12 = .ok (.iload_n 2, 1) := by decide +kernel
theorem dX5_put_13 : decode cX5_put 13 = .ok (.iastore, 1) := by decide +kernel
theorem dX5_put_14 : decode cX5_put 14 = .ok (.return_, 1) := by decide +kernel
set_option maxRecDepth 20000 in
theorem ggX5_increase_X5_at : GoodIn wsX5_increase wsX5_at := goodIn_r _ [4] (by decide +kernel) (by decide +kernel)
set_option maxRecDepth 20000 in
theorem gX5_increase_X5_at : GoodIn wsX5_increase (va_wsS RX5 187 yX5_at wsX5_at) := goodIn_app (goodIn_of _ (by decide +kernel)) ggX5_increase_X5_at
set_option maxRecDepth 20000 in
theorem ggX5_increase_X5_put : GoodIn wsX5_increase wsX5_put := goodIn_r _ [7] (by decide +kernel) (by decide +kernel)
set_option maxRecDepth 20000 in
theorem gX5_increase_X5_put : GoodIn wsX5_increase (va_wsS RX5 191 yX5_put wsX5_put) := goodIn_app (goodIn_of _ (by decide +kernel)) ggX5_increase_X5_put
theorem dX5_increase_0 : decode cX5_increase 0 = .ok (.aload_n 0, 1) := by decide +kernel
theorem dX5_increase_1 : decode cX5_increase 1 = .ok (.iload_n 1, 1) := by decide +kernel
theorem dX5_increase_2 : decode cX5_increase 2 = .ok (.aload_n 0, 1) := by decide +kernel
theorem dX5_increase_3 : decode cX5_increase 3 = .ok (.iload_n 1, 1) := by decide +kernel
theorem dX5_increase_4 : decode cX5_increase 4 = .ok (.invokestatic 187, 3) := by decide +kernel
theorem dX5_increase_7 : decode cX5_increase 7 = .ok (.iload_n 2, 1) := by decide +kernel
theorem dX5_increase_8 : decode cX5_increase 8 = .ok (.iadd, 1) := by decide +kernel
theorem dX5_increase_9 : decode cX5_increase 9 = .ok (.invokestatic 191, 3) := by decide +kernel
theorem dX5_increase_12 : decode cX5_increase 12 = .ok (.return_, 1) := by decide +kernel
theorem dX5_copy_0 : decode cX5_copy 0 = .ok (.aload_n 0, 1) := by decide +kernel
theorem dX5_copy_1 : decode cX5_copy 1 = .ok (.iconst 0, 1) := by decide +kernel
theorem dX5_copy_2 : decode cX5_copy 2 = .ok (.aload_n 1, 1) := by decide +kernel
theorem dX5_copy_3 : decode cX5_copy 3 = .ok (.iconst 0, 1) := by decide +kernel
theorem dX5_copy_4 : decode cX5_copy 4 = .ok (.aload_n 0, 1) := by decide +kernel
theorem dX5_copy_5 : decode cX5_copy 5 = .ok (.arraylength, 1) := by decide +kernel
theorem dX5_copy_6 : decode cX5_copy 6 = .ok (.aload_n 1, 1) := by decide +kernel
theorem dX5_copy_7 : decode cX5_copy 7 = .ok (.arraylength, 1) := by decide +kernel
theorem dX5_copy_8 : decode cX5_copy 8 = .ok (.invokestatic 195, 3) := by decide +kernel
theorem dX5_copy_11 : decode cX5_copy 11 = .ok (.invokestatic 200, 3) := by decide +kernel
theorem dX5_copy_14 : decode cX5_copy 14 = .ok (.return_, 1) := by decide +kernel
set_option maxRecDepth 20000 in
theorem ggX5_removePiece_X5_at : GoodIn wsX5_removePiece wsX5_at := goodIn_r _ [4] (by decide +kernel) (by decide +kernel)
set_option maxRecDepth 20000 in
theorem gX5_removePiece_X5_at : GoodIn wsX5_removePiece (va_wsS RX5 187 yX5_at wsX5_at) := goodIn_app (goodIn_of _ (by decide +kernel)) ggX5_removePiece_X5_at
set_option maxRecDepth 20000 in
theorem ggX5_removePiece_X5_put : GoodIn wsX5_removePiece wsX5_put := goodIn_r _ [7] (by decide +kernel) (by decide +kernel)
set_option maxRecDepth 20000 in
theorem gX5_removePiece_X5_put : GoodIn wsX5_removePiece (va_wsS RX5 191 yX5_put wsX5_put) := goodIn_app (goodIn_of _ (by decide +kernel)) ggX5_removePiece_X5_put
theorem dX5_removePiece_0 : decode cX5_removePiece 0 = .ok (.iload_n 2, 1) := by decide +kernel
theorem dX5_removePiece_1 : decode cX5_removePiece 1 = .ok (.iload_n 1, 1) := by decide +kernel
theorem dX5_removePiece_2 : decode cX5_removePiece 2 = .ok (.imul, 1) := by decide +kernel
theorem dX5_removePiece_3 : decode cX5_removePiece 3 = .ok (.istore_n 3, 1) := by decide +kernel
theorem dX5_removePiece_4 : decode cX5_removePiece 4 = .ok (.iload_n 3, 1) := by decide +kernel
theorem dX5_removePiece_5 : decode cX5_removePiece 5 = .ok (.aload_n 0, 1) := by decide +kernel
theorem dX5_removePiece_6 : decode cX5_removePiece 6 = .ok (.arraylength, 1) := by decide +kernel
theorem dX5_removePiece_7 : decode cX5_removePiece 7 = .ok (.iload_n 1, 1) := by decide +kernel
theorem dX5_removePiece_8 : decode cX5_removePiece 8 = .ok (.isub, 1) := by decide +kernel
theorem dX5_removePiece_9 : decode cX5_removePiece 9 = .ok (.if_icmp .ge 21, 3) := by decide +kernel
theorem dX5_removePiece_12 : decode cX5_removePiece 12 = .ok (.aload_n 0, 1) := by decide +kernel
theorem dX5_removePiece_13 : decode cX5_removePiece 13 = .ok (.iload_n 3, 1) := by decide +kernel
theorem dX5_removePiece_14 : decode cX5_removePiece 14 = .ok (.aload_n 0, 1) := by decide +kernel
theorem dX5_removePiece_15 : decode cX5_removePiece 15 = .ok (.iload_n 3, 1) := by decide +kernel
theorem dX5_removePiece_16 : decode cX5_removePiece 16 = .ok (.iload_n 1, 1) := by decide +kernel
theorem dX5_removePiece_17 : decode cX5_removePiece 17 = .ok (.iadd, 1) := by decide +kernel
theorem dX5_removePiece_18 : decode cX5_removePiece 18 = .ok (.invokestatic 187, 3) := by decide +kernel
theorem dX5_removePiece_21 : decode cX5_removePiece 21 = .ok (.invokestatic 191, 3) := by decide +kernel
theorem dX5_removePiece_24 : decode cX5_removePiece 24 = .ok (.iinc 3 1, 3) := by decide +kernel
theorem dX5_removePiece_27 : decode cX5_removePiece 27 = .ok (.goto (-23), 3) := by decide +kernel
theorem dX5_removePiece_30 : decode cX5_removePiece 30 = .ok (.return_, 1) := by decide +kernel
set_option maxRecDepth 20000 in
theorem ggX5_hashOf_X5_at : GoodIn wsX5_hashOf wsX5_at := goodIn_r _ [5] (by decide +kernel) (by decide +kernel)
set_option maxRecDepth 20000 in
theorem gX5_hashOf_X5_at : GoodIn wsX5_hashOf (va_wsS RX5 187 yX5_at wsX5_at) := goodIn_app (goodIn_of _ (by decide +kernel)) ggX5_hashOf_X5_at
theorem dX5_hashOf_0 : decode cX5_hashOf 0 = .ok (.lload_n 0, 1) := by decide +kernel
theorem dX5_hashOf_1 : decode cX5_hashOf 1 = .ok (.lstore 5, 2) := by decide +kernel
theorem dX5_hashOf_3 : decode cX5_hashOf 3 = .ok (.iload_n 3, 1) := by decide +kernel
theorem dX5_hashOf_4 : decode cX5_hashOf 4 = .ok (.istore 7, 2) := by decide +kernel
theorem dX5_hashOf_6 : decode cX5_hashOf 6 = .ok (.iload 7, 2) := by decide +kernel
theorem dX5_hashOf_8 : decode cX5_hashOf 8 = .ok (.iload_n 3, 1) := by decide +kernel
theorem dX5_hashOf_9 : decode cX5_hashOf 9 = .ok (.iload 4, 2) := by decide +kernel
theorem dX5_hashOf_11 : decode cX5_hashOf 11 = .ok (.iadd, 1) := by decide +kernel
theorem dX5_hashOf_12 : decode cX5_hashOf 12 = .ok (.if_icmp .ge 25, 3) := by decide +kernel
theorem dX5_hashOf_15 : decode cX5_hashOf 15 = .ok (.ldc2_w 206, 3) := by decide +kernel
theorem dX5_hashOf_18 : decode cX5_hashOf 18 = .ok (.lload 5, 2) := by decide +kernel
theorem dX5_hashOf_20 : decode cX5_hashOf 20 = .ok (.lmul, 1) := by decide +kernel
theorem dX5_hashOf_21 : decode cX5_hashOf 21 = .ok (.aload_n 2, 1) := by decide +kernel
theorem dX5_hashOf_22 : decode cX5_hashOf 22 = .ok (.iload 7, 2) := by decide +kernel
theorem dX5_hashOf_24 : decode cX5_hashOf 24 = .ok (.invokestatic 187, 3) := by decide +kernel
theorem dX5_hashOf_27 : decode cX5_hashOf 27 = .ok (.i2l, 1) := by decide +kernel
theorem dX5_hashOf_28 : decode cX5_hashOf 28 = .ok (.ladd, 1) := by decide +kernel
theorem dX5_hashOf_29 : decode cX5_hashOf 29 = .ok (.lstore 5, 2) := by decide +kernel
theorem dX5_hashOf_31 : decode cX5_hashOf 31 = .ok (.iinc 7 1, 3) := by decide +kernel
theorem dX5_hashOf_34 : decode cX5_hashOf 34 = .ok (.goto (-28), 3) := by decide +kernel
theorem dX5_hashOf_37 : decode cX5_hashOf 37 = .ok (.lload 5, 2) := by decide +kernel
theorem dX5_hashOf_39 : decode cX5_hashOf 39 = .ok (.lreturn, 1) := by decide +kernel
theorem dJ6_bitCount_0f7a4_0 : decode cJ6_bitCount_0f7a4 0 = .ok (.iload_n 0, 1) := by decide +kernel
theorem dJ6_bitCount_0f7a4_1 : decode cJ6_bitCount_0f7a4 1 = .ok (.iload_n 0, 1) := by decide +kernel
theorem dJ6_bitCount_0f7a4_2 : decode cJ6_bitCount_0f7a4 2 = .ok (.iconst 1, 1) := by decide +kernel
theorem dJ6_bitCount_0f7a4_3 : decode cJ6_bitCount_0f7a4 3 = .ok (.iushr, 1) := by decide +kernel
theorem dJ6_bitCount_0f7a4_4 : decode cJ6_bitCount_0f7a4 4 = .ok (.ldc_w 265, 3) := by decide +kernel
theorem dJ6_bitCount_0f7a4_7 : decode cJ6_bitCount_0f7a4 7 = .ok (.iand, 1) := by decide +kernel
theorem dJ6_bitCount_0f7a4_8 : decode cJ6_bitCount_0f7a4 8 = .ok (.isub, 1) := by decide +kernel
theorem dJ6_bitCount_0f7a4_9 : decode cJ6_bitCount_0f7a4 9 = .ok (.istore_n 0, 1) := by decide +kernel
theorem dJ6_bitCount_0f7a4_10 : decode cJ6_bitCount_0f7a4 10 = .ok (.iload_n 0, 1) := by decide +kernel
theorem dJ6_bitCount_0f7a4_11 : decode cJ6_bitCount_0f7a4 11 = .ok (.ldc_w 266, 3) := by decide +kernel
theorem dJ6_bitCount_0f7a4_14 : decode cJ6_bitCount_0f7a4 14 = .ok (.iand, 1) := by decide +kernel
theorem dJ6_bitCount_0f7a4_15 : decode cJ6_bitCount_0f7a4 15 = .ok (.iload_n 0, 1) := by decide +kernel
theorem dJ6_bitCount_0f7a4_16 : decode cJ6_bitCount_0f7a4 16 = .ok (.iconst 2, 1) := by decide +kernel
theorem dJ6_bitCount_0f7a4_17 : decode cJ6_bitCount_0f7a4 17 = .ok (.iushr, 1) := by decide +kernel
theorem dJ6_bitCount_0f7a4_18 : decode cJ6_bitCount_0f7a4 18 = .ok (.ldc_w 266, 3) := by decide +kernel
theorem dJ6_bitCount_0f7a4_21 : decode cJ6_bitCount_0f7a4 21 = .ok (.iand, 1) := by decide +kernel
theorem dJ6_bitCount_0f7a4_22 : decode cJ6_bitCount_0f7a4 22 = .ok (.iadd, 1) := by decide +kernel
theorem dJ6_bitCount_0f7a4_23 : decode cJ6_bitCount_0f7a4 23 = .ok (.istore_n 0, 1) := by decide +kernel
theorem dJ6_bitCount_0f7a4_24 : decode cJ6_bitCount_0f7a4 24 = .ok (.iload_n 0, 1) := by decide +kernel
theorem dJ6_bitCount_0f7a4_25 : decode cJ6_bitCount_0f7a4 25 = .ok (.iload_n 0, 1) := by decide +kernel
theorem dJ6_bitCount_0f7a4_26 : decode cJ6_bitCount_0f7a4 26 = .ok (.iconst 4, 1) := by decide +kernel
theorem dJ6_bitCount_0f7a4_27 : decode cJ6_bitCount_0f7a4 27 = .ok (.iushr, 1) := by decide +kernel
theorem dJ6_bitCount_0f7a4_28 : decode cJ6_bitCount_0f7a4 28 = .ok (.iadd, 1) := by decide +kernel
theorem dJ6_bitCount_0f7a4_29 : decode cJ6_bitCount_0f7a4 29 = .ok (.ldc_w 267, 3) := by decide +kernel
theorem dJ6_bitCount_0f7a4_32 : decode cJ6_bitCount_0f7a4 32 = .ok (.iand, 1) := by decide +kernel
theorem dJ6_bitCount_0f7a4_33 : decode cJ6_bitCount_0f7a4 33 = .ok (.istore_n 0, 1) := by decide +kernel
theorem dJ6_bitCount_0f7a4_34 : decode cJ6_bitCount_0f7a4 34 = .ok (.iload_n 0, 1) := by decide +kernel
theorem dJ6_bitCount_0f7a4_35 : decode cJ6_bitCount_0f7a4 35 = .ok (.iload_n 0, 1) := by decide +kernel
theorem dJ6_bitCount_0f7a4_36 : decode cJ6_bitCount_0f7a4 36 = .ok (.bipush 8, 2) := by decide +kernel
theorem dJ6_bitCount_0f7a4_38 : decode cJ6_bitCount_0f7a4 38 = .ok (.iushr, 1) := by decide +kernel
theorem dJ6_bitCount_0f7a4_39 : decode cJ6_bitCount_0f7a4 39 = .ok (.iadd, 1) := by decide +kernel
theorem dJ6_bitCount_0f7a4_40 : decode cJ6_bitCount_0f7a4 40 = .ok (.istore_n 0, 1) := by decide +kernel
theorem dJ6_bitCount_0f7a4_41 : decode cJ6_bitCount_0f7a4 41 = .ok (.iload_n 0, 1) := by decide +kernel
theorem dJ6_bitCount_0f7a4_42 : decode cJ6_bitCount_0f7a4 42 = .ok (.iload_n 0, 1) := by decide +kernel
theorem dJ6_bitCount_0f7a4_43 : decode cJ6_bitCount_0f7a4 43 = .ok (.bipush 16, 2) := by decide +kernel
theorem dJ6_bitCount_0f7a4_45 : decode cJ6_bitCount_0f7a4 45 = .ok (.iushr, 1) := by decide +kernel
theorem dJ6_bitCount_0f7a4_46 : decode cJ6_bitCount_0f7a4 46 = .ok (.iadd, 1) := by decide +kernel
theorem dJ6_bitCount_0f7a4_47 : decode cJ6_bitCount_0f7a4 47 = .ok (.istore_n 0, 1) := by decide +kernel
theorem dJ6_bitCount_0f7a4_48 : decode cJ6_bitCount_0f7a4 48 = .ok (.iload_n 0, 1) := by decide +kernel
theorem dJ6_bitCount_0f7a4_49 : decode cJ6_bitCount_0f7a4 49 = .ok (.bipush 63, 2) := by decide +kernel
theorem dJ6_bitCount_0f7a4_51 : decode cJ6_bitCount_0f7a4 51 = .ok (.iand, 1) := by decide +kernel
theorem dJ6_bitCount_0f7a4_52 : decode cJ6_bitCount_0f7a4 52 = .ok (.ireturn, 1) := by decide +kernel
theorem dJ9_max_7cf53_0 : decode cJ9_max_7cf53 0 = .ok (.iload_n 0, 1) := by decide +kernel
theorem dJ9_max_7cf53_1 : decode cJ9_max_7cf53 1 = .ok (.iload_n 1, 1) := by decide +kernel
theorem dJ9_max_7cf53_2 : decode cJ9_max_7cf53 2 = .ok (.if_icmp .lt 7, 3) := by decide +kernel
theorem dJ9_max_7cf53_5 : decode cJ9_max_7cf53 5 = .ok (.iload_n 0, 1) := by decide +kernel
theorem dJ9_max_7cf53_6 : decode cJ9_max_7cf53 6 = .ok (.goto 4, 3) := by decide +kernel
theorem dJ9_max_7cf53_9 : decode cJ9_max_7cf53 9 = .ok (.iload_n 1, 1) := by decide +kernel
theorem dJ9_max_7cf53_10 : decode cJ9_max_7cf53 10 = .ok (.ireturn, 1) := by decide +kernel
theorem dJ9_min_7cf53_0 : decode cJ9_min_7cf53 0 = .ok (.iload_n 0, 1) := by decide +kernel
theorem dJ9_min_7cf53_1 : decode cJ9_min_7cf53 1 = .ok (.iload_n 1, 1) := by decide +kernel
theorem dJ9_min_7cf53_2 : decode cJ9_min_7cf53 2 = .ok (.if_icmp .gt 7, 3) := by decide +kernel
theorem dJ9_min_7cf53_5 : decode cJ9_min_7cf53 5 = .ok (.iload_n 0, 1) := by decide +kernel
theorem dJ9_min_7cf53_6 : decode cJ9_min_7cf53 6 = .ok (.goto 4, 3) := by decide +kernel
theorem dJ9_min_7cf53_9 : decode cJ9_min_7cf53 9 = .ok (.iload_n 1, 1) := by decide +kernel
theorem dJ9_min_7cf53_10 : decode cJ9_min_7cf53 10 = .ok (.ireturn, 1) := by decide +kernel
theorem dJ7_fill_53178_0 : decode cJ7_fill_53178 0 = .ok (.iconst 0, 1) := by decide +kernel
theorem dJ7_fill_53178_1 : decode cJ7_fill_53178 1 = .ok (.istore_n 2, 1) := by decide +kernel
theorem dJ7_fill_53178_2 : decode cJ7_fill_53178 2 = .ok (.aload_n 0, 1) := by decide +kernel
theorem dJ7_fill_53178_3 : decode cJ7_fill_53178 3 = .ok (.arraylength, 1) := by decide +kernel
theorem dJ7_fill_53178_4 : decode cJ7_fill_53178 4 = .ok (.istore_n 3, 1) := by decide +kernel
theorem dJ7_fill_53178_5 : decode cJ7_fill_53178 5 = .ok (.iload_n 2, 1) := by decide +kernel
theorem dJ7_fill_53178_6 : decode cJ7_fill_53178 6 = .ok (.iload_n 3, 1) := by decide +kernel
theorem dJ7_fill_53178_7 : decode cJ7_fill_53178 7 = .ok (.if_icmp .ge 13, 3) := by decide +kernel
theorem dJ7_fill_53178_10 : decode cJ7_fill_53178 10 = .ok (.aload_n 0, 1) := by decide +kernel
theorem dJ7_fill_53178_11 : decode cJ7_fill_53178 11 = .ok (.iload_n 2, 1) := by decide +kernel
theorem dJ7_fill_53178_12 : decode cJ7_fill_53178 12 = .ok (.iload_n 1, 1) := by decide +kernel
theorem dJ7_fill_53178_13 : decode cJ7_fill_53178 13 = .ok (.iastore, 1) := by decide +kernel
theorem dJ7_fill_53178_14 : decode cJ7_fill_53178 14 = .ok (.iinc 2 1, 3) := by decide +kernel
theorem dJ7_fill_53178_17 : decode cJ7_fill_53178 17 = .ok (.goto (-12), 3) := by decide +kernel
theorem dJ7_fill_53178_20 : decode cJ7_fill_53178 20 = .ok (.return_, 1) := by decide +kernel
theorem dL_cell_0 : decode cL_cell 0 = .ok (.iload_n 1, 1) := by decide +kernel
theorem dL_cell_1 : decode cL_cell 1 = .ok (.aload_n 0, 1) := by decide +kernel
theorem dL_cell_2 : decode cL_cell 2 = .ok (.arraylength, 1) := by decide +kernel
theorem dL_cell_3 : decode cL_cell 3 = .ok (.if_icmp .ge 9, 3) := by decide +kernel
theorem dL_cell_6 : decode cL_cell 6 = .ok (.aload_n 0, 1) := by decide +kernel
theorem dL_cell_7 : decode cL_cell 7 = .ok (.iload_n 1, 1) := by decide +kernel
theorem dL_cell_8 : decode cL_cell 8 = .ok (.iaload, 1) := by decide +kernel
theorem dL_cell_9 : decode cL_cell 9 = .ok (.goto 15, 3) := by decide +kernel
theorem dL_cell_12 : decode cL_cell 12 = .ok (.sipush 7919, 3) := by decide +kernel
theorem dL_cell_15 : decode cL_cell 15 = .ok (.iload_n 1, 1) := by decide +kernel
theorem dL_cell_16 : decode cL_cell 16 = .ok (.iconst 3, 1) := by decide +kernel
theorem dL_cell_17 : decode cL_cell 17 = .ok (.iadd, 1) := by decide +kernel
theorem dL_cell_18 : decode cL_cell 18 = .ok (.imul, 1) := by decide +kernel
theorem dL_cell_19 : decode cL_cell 19 = .ok (.iload_n 1, 1) := by decide +kernel
theorem dL_cell_20 : decode cL_cell 20 = .ok (.bipush 11, 2) := by decide +kernel
theorem dL_cell_22 : decode cL_cell 22 = .ok (.iadd, 1) := by decide +kernel
theorem dL_cell_23 : decode cL_cell 23 = .ok (.imul, 1) := by decide +kernel
theorem dL_cell_24 : decode cL_cell 24 = .ok (.ireturn, 1) := by decide +kernel
theorem dL_low_0 : decode cL_low 0 = .ok (.iload_n 0, 1) := by decide +kernel
theorem dL_low_1 : decode cL_low 1 = .ok (.ldc 7, 2) := by decide +kernel
theorem dL_low_3 : decode cL_low 3 = .ok (.iand, 1) := by decide +kernel
theorem dL_low_4 : decode cL_low 4 = .ok (.iload_n 1, 1) := by decide +kernel
theorem dL_low_5 : decode cL_low 5 = .ok (.irem, 1) := by decide +kernel
theorem dL_low_6 : decode cL_low 6 = .ok (.ireturn, 1) := by decide +kernel
set_option maxRecDepth 20000 in
theorem ggL_linkOf_X5_count : GoodIn wsL_linkOf wsX5_count := goodIn_r _ [5, 6, 7, 8, 4, 9, 10, 11, 12, 13, 14, 15, 16, 17, 18, 19, 20, 21, 22, 23, 24, 25, 26, 27, 28, 29, 43, 44, 45, 46, 47, 48, 49, 50, 51, 52, 53, 54] (by decide +kernel) (by decide +kernel)
set_option maxRecDepth 20000 in
theorem gL_linkOf_X5_count : GoodIn wsL_linkOf (wsV RL 8 RX5 yX5_count wsX5_count) := goodIn_app (goodIn_of _ (by decide +kernel)) ggL_linkOf_X5_count
set_option maxRecDepth 20000 in
theorem ggL_linkOf_X5_linkPart : GoodIn wsL_linkOf wsX5_linkPart := goodIn_r _ [33, 6, 34, 35, 36, 13, 37, 15, 21, 4, 22, 7, 8, 9, 38, 39, 40, 41, 42, 43, 44, 45, 46, 47, 48, 49, 50, 51, 52, 53, 54] (by decide +kernel) (by decide +kernel)
set_option maxRecDepth 20000 in
theorem gL_linkOf_X5_linkPart : GoodIn wsL_linkOf (wsV RL 14 RX5 yX5_linkPart wsX5_linkPart) := goodIn_app (goodIn_of _ (by decide +kernel)) ggL_linkOf_X5_linkPart
theorem dL_linkOf_0 : decode cL_linkOf 0 = .ok (.iconst 0, 1) := by decide +kernel
theorem dL_linkOf_1 : decode cL_linkOf 1 = .ok (.istore_n 3, 1) := by decide +kernel
theorem dL_linkOf_2 : decode cL_linkOf 2 = .ok (.iload_n 3, 1) := by decide +kernel
theorem dL_linkOf_3 : decode cL_linkOf 3 = .ok (.aload_n 0, 1) := by decide +kernel
theorem dL_linkOf_4 : decode cL_linkOf 4 = .ok (.iconst 1, 1) := by decide +kernel
theorem dL_linkOf_5 : decode cL_linkOf 5 = .ok (.invokevirtual 8, 3) := by decide +kernel
theorem dL_linkOf_8 : decode cL_linkOf 8 = .ok (.if_icmp .ge 51, 3) := by decide +kernel
theorem dL_linkOf_11 : decode cL_linkOf 11 = .ok (.aload_n 0, 1) := by decide +kernel
theorem dL_linkOf_12 : decode cL_linkOf 12 = .ok (.iload_n 3, 1) := by decide +kernel
theorem dL_linkOf_13 : decode cL_linkOf 13 = .ok (.iconst 0, 1) := by decide +kernel
theorem dL_linkOf_14 : decode cL_linkOf 14 = .ok (.invokevirtual 14, 3) := by decide +kernel
theorem dL_linkOf_17 : decode cL_linkOf 17 = .ok (.istore 4, 2) := by decide +kernel
theorem dL_linkOf_19 : decode cL_linkOf 19 = .ok (.aload_n 0, 1) := by decide +kernel
theorem dL_linkOf_20 : decode cL_linkOf 20 = .ok (.iload_n 3, 1) := by decide +kernel
theorem dL_linkOf_21 : decode cL_linkOf 21 = .ok (.iconst 1, 1) := by decide +kernel
theorem dL_linkOf_22 : decode cL_linkOf 22 = .ok (.invokevirtual 14, 3) := by decide +kernel
theorem dL_linkOf_25 : decode cL_linkOf 25 = .ok (.istore 5, 2) := by decide +kernel
theorem dL_linkOf_27 : decode cL_linkOf 27 = .ok (.iload 4, 2) := by decide +kernel
theorem dL_linkOf_29 : decode cL_linkOf 29 = .ok (.iload_n 1, 1) := by decide +kernel
theorem dL_linkOf_30 : decode cL_linkOf 30 = .ok (.if_icmp .ne 9, 3) := by decide +kernel
theorem dL_linkOf_33 : decode cL_linkOf 33 = .ok (.iload 5, 2) := by decide +kernel
theorem dL_linkOf_35 : decode cL_linkOf 35 = .ok (.iload_n 2, 1) := by decide +kernel
theorem dL_linkOf_36 : decode cL_linkOf 36 = .ok (.if_icmp .eq 15, 3) := by decide +kernel
theorem dL_linkOf_39 : decode cL_linkOf 39 = .ok (.iload 4, 2) := by decide +kernel
theorem dL_linkOf_41 : decode cL_linkOf 41 = .ok (.iload_n 2, 1) := by decide +kernel
theorem dL_linkOf_42 : decode cL_linkOf 42 = .ok (.if_icmp .ne 11, 3) := by decide +kernel
theorem dL_linkOf_45 : decode cL_linkOf 45 = .ok (.iload 5, 2) := by decide +kernel
theorem dL_linkOf_47 : decode cL_linkOf 47 = .ok (.iload_n 1, 1) := by decide +kernel
theorem dL_linkOf_48 : decode cL_linkOf 48 = .ok (.if_icmp .ne 5, 3) := by decide +kernel
theorem dL_linkOf_51 : decode cL_linkOf 51 = .ok (.iload_n 3, 1) := by decide +kernel
theorem dL_linkOf_52 : decode cL_linkOf 52 = .ok (.ireturn, 1) := by decide +kernel
theorem dL_linkOf_53 : decode cL_linkOf 53 = .ok (.iinc 3 1, 3) := by decide +kernel
theorem dL_linkOf_56 : decode cL_linkOf 56 = .ok (.goto (-54), 3) := by decide +kernel
theorem dL_linkOf_59 : decode cL_linkOf 59 = .ok (.iconst (-1), 1) := by decide +kernel
theorem dL_linkOf_60 : decode cL_linkOf 60 = .ok (.ireturn, 1) := by decide +kernel
set_option maxRecDepth 20000 in
theorem ggL_isSound_X5_count : GoodIn wsL_isSound wsX5_count := goodIn_r _ [5, 6, 7, 8, 4, 9, 10, 11, 12, 13, 14, 15, 16, 17, 18, 19, 20, 21, 22, 23, 24, 25, 26, 27, 28, 29, 150, 151, 152, 153, 154, 155, 156, 157, 158, 159, 160, 161] (by decide +kernel) (by decide +kernel)
set_option maxRecDepth 20000 in
theorem gL_isSound_X5_count : GoodIn wsL_isSound (wsV RL 8 RX5 yX5_count wsX5_count) := goodIn_app (goodIn_of _ (by decide +kernel)) ggL_isSound_X5_count
