set_option maxRecDepth 20000 in
theorem gX5_cut_X1_has : GoodIn wsX5_cut (wsV RX5 59 RX1 yX1_has wsX1_has) := goodIn_app (goodIn_of _ (by decide +kernel)) ggX5_cut_X1_has
set_option maxRecDepth 20000 in
theorem ggX5_cut_X0_record : GoodIn wsX5_cut wsX0_record := goodIn_r _ [16, 17, 18, 19, 20, 21, 15, 22, 23, 24, 25, 26, 6, 27, 8, 28, 29, 30, 31, 32, 33, 34, 10, 35, 36, 37, 38, 39, 40, 41, 42, 43, 68, 69, 70, 61, 62, 63, 64, 65, 66, 67] (by decide +kernel) (by decide +kernel)
set_option maxRecDepth 20000 in
theorem gX5_cut_X0_record : GoodIn wsX5_cut (wsV RX5 52 RX0 yX0_record wsX0_record) := goodIn_app (goodIn_of _ (by decide +kernel)) ggX5_cut_X0_record
set_option maxRecDepth 20000 in
theorem ggX5_cut_X1_removeLink : GoodIn wsX5_cut wsX1_removeLink := goodIn_r _ [47, 29, 8, 48, 10, 49, 50, 9, 11, 51, 52, 53, 54, 55, 61, 62, 63, 64, 65, 66, 67] (by decide +kernel) (by decide +kernel)
set_option maxRecDepth 20000 in
theorem gX5_cut_X1_removeLink : GoodIn wsX5_cut (wsV RX5 77 RX1 yX1_removeLink wsX1_removeLink) := goodIn_app (goodIn_of _ (by decide +kernel)) ggX5_cut_X1_removeLink
theorem dX5_cut_0 : decode cX5_cut 0 = .ok (.aload_n 0, 1) := by decide +kernel
theorem dX5_cut_1 : decode cX5_cut 1 = .ok (.getfield 10, 3) := by decide +kernel
theorem dX5_cut_4 : decode cX5_cut 4 = .ok (.iconst 1, 1) := by decide +kernel
theorem dX5_cut_5 : decode cX5_cut 5 = .ok (.iload_n 1, 1) := by decide +kernel
theorem dX5_cut_6 : decode cX5_cut 6 = .ok (.invokevirtual 59, 3) := by decide +kernel
theorem dX5_cut_9 : decode cX5_cut 9 = .ok (.ifCond .ne 7, 3) := by decide +kernel
theorem dX5_cut_12 : decode cX5_cut 12 = .ok (.sipush (-1001), 3) := by decide +kernel
theorem dX5_cut_15 : decode cX5_cut 15 = .ok (.ireturn, 1) := by decide +kernel
theorem dX5_cut_16 : decode cX5_cut 16 = .ok (.aload_n 0, 1) := by decide +kernel
theorem dX5_cut_17 : decode cX5_cut 17 = .ok (.getfield 33, 3) := by decide +kernel
theorem dX5_cut_20 : decode cX5_cut 20 = .ok (.aload_n 0, 1) := by decide +kernel
theorem dX5_cut_21 : decode cX5_cut 21 = .ok (.getfield 10, 3) := by decide +kernel
theorem dX5_cut_24 : decode cX5_cut 24 = .ok (.invokevirtual 52, 3) := by decide +kernel
theorem dX5_cut_27 : decode cX5_cut 27 = .ok (.aload_n 0, 1) := by decide +kernel
theorem dX5_cut_28 : decode cX5_cut 28 = .ok (.getfield 10, 3) := by decide +kernel
theorem dX5_cut_31 : decode cX5_cut 31 = .ok (.iload_n 1, 1) := by decide +kernel
theorem dX5_cut_32 : decode cX5_cut 32 = .ok (.invokevirtual 77, 3) := by decide +kernel
theorem dX5_cut_35 : decode cX5_cut 35 = .ok (.ireturn, 1) := by decide +kernel
set_option maxRecDepth 20000 in
theorem ggX5_addSensor_X1_has : GoodIn wsX5_addSensor wsX1_has := goodIn_r _ [7, 8, 9, 10, 11, 73, 74, 75, 76, 77, 78, 79] (by decide +kernel) (by decide +kernel)
set_option maxRecDepth 20000 in
theorem gX5_addSensor_X1_has : GoodIn wsX5_addSensor (wsV RX5 59 RX1 yX1_has wsX1_has) := goodIn_app (goodIn_of _ (by decide +kernel)) ggX5_addSensor_X1_has
set_option maxRecDepth 20000 in
theorem ggX5_addSensor_X5_isWithin : GoodIn wsX5_addSensor wsX5_isWithin := goodIn_r _ [14] (by decide +kernel) (by decide +kernel)
set_option maxRecDepth 20000 in
theorem gX5_addSensor_X5_isWithin : GoodIn wsX5_addSensor (va_wsS RX5 44 yX5_isWithin wsX5_isWithin) := goodIn_app (goodIn_of _ (by decide +kernel)) ggX5_addSensor_X5_isWithin
set_option maxRecDepth 20000 in
theorem ggX5_addSensor_X1_number : GoodIn wsX5_addSensor wsX1_number := goodIn_r _ [18, 8, 19, 20, 21, 6, 22, 23, 9, 10, 11, 24, 25, 26, 27, 28, 29, 30, 73, 74, 75, 76, 77, 78, 79] (by decide +kernel) (by decide +kernel)
set_option maxRecDepth 20000 in
theorem gX5_addSensor_X1_number : GoodIn wsX5_addSensor (wsV RX5 48 RX1 yX1_number wsX1_number) := goodIn_app (goodIn_of _ (by decide +kernel)) ggX5_addSensor_X1_number
set_option maxRecDepth 20000 in
theorem ggX5_addSensor_X0_record : GoodIn wsX5_addSensor wsX0_record := goodIn_r _ [35, 36, 37, 38, 39, 40, 34, 41, 42, 43, 44, 45, 6, 46, 8, 23, 47, 48, 49, 50, 51, 52, 10, 53, 54, 55, 56, 57, 58, 59, 60, 61, 80, 81, 82, 73, 74, 75, 76, 77, 78, 79] (by decide +kernel) (by decide +kernel)
set_option maxRecDepth 20000 in
theorem gX5_addSensor_X0_record : GoodIn wsX5_addSensor (wsV RX5 52 RX0 yX0_record wsX0_record) := goodIn_app (goodIn_of _ (by decide +kernel)) ggX5_addSensor_X0_record
set_option maxRecDepth 20000 in
theorem ggX5_addSensor_X1_appendSensor : GoodIn wsX5_addSensor wsX1_appendSensor := goodIn_r _ [65, 8, 48, 9, 10, 11, 66, 67, 73, 74, 75, 76, 77, 78, 79] (by decide +kernel) (by decide +kernel)
set_option maxRecDepth 20000 in
theorem gX5_addSensor_X1_appendSensor : GoodIn wsX5_addSensor (wsV RX5 80 RX1 yX1_appendSensor wsX1_appendSensor) := goodIn_app (goodIn_of _ (by decide +kernel)) ggX5_addSensor_X1_appendSensor
theorem dX5_addSensor_0 : decode cX5_addSensor 0 = .ok (.aload_n 0, 1) := by decide +kernel
theorem dX5_addSensor_1 : decode cX5_addSensor 1 = .ok (.getfield 10, 3) := by decide +kernel
theorem dX5_addSensor_4 : decode cX5_addSensor 4 = .ok (.iconst 0, 1) := by decide +kernel
theorem dX5_addSensor_5 : decode cX5_addSensor 5 = .ok (.iload_n 1, 1) := by decide +kernel
theorem dX5_addSensor_6 : decode cX5_addSensor 6 = .ok (.invokevirtual 59, 3) := by decide +kernel
theorem dX5_addSensor_9 : decode cX5_addSensor 9 = .ok (.ifCond .ne 7, 3) := by decide +kernel
theorem dX5_addSensor_12 : decode cX5_addSensor 12 = .ok (.sipush (-1001), 3) := by decide +kernel
theorem dX5_addSensor_15 : decode cX5_addSensor 15 = .ok (.ireturn, 1) := by decide +kernel
theorem dX5_addSensor_16 : decode cX5_addSensor 16 = .ok (.iload_n 2, 1) := by decide +kernel
theorem dX5_addSensor_17 : decode cX5_addSensor 17 = .ok (.iconst 0, 1) := by decide +kernel
theorem dX5_addSensor_18 : decode cX5_addSensor 18 = .ok (.bipush 7, 2) := by decide +kernel
theorem dX5_addSensor_20 : decode cX5_addSensor 20 = .ok (.invokestatic 44, 3) := by decide +kernel
theorem dX5_addSensor_23 : decode cX5_addSensor 23 = .ok (.ifCond .eq 14, 3) := by decide +kernel
theorem dX5_addSensor_26 : decode cX5_addSensor 26 = .ok (.iload_n 3, 1) := by decide +kernel
theorem dX5_addSensor_27 : decode cX5_addSensor 27 = .ok (.bipush (-100), 2) := by decide +kernel
theorem dX5_addSensor_29 : decode cX5_addSensor 29 = .ok (.bipush 100, 2) := by decide +kernel
theorem dX5_addSensor_31 : decode cX5_addSensor 31 = .ok (.invokestatic 44, 3) := by decide +kernel
theorem dX5_addSensor_34 : decode cX5_addSensor 34 = .ok (.ifCond .ne 7, 3) := by decide +kernel
theorem dX5_addSensor_37 : decode cX5_addSensor 37 = .ok (.sipush (-1002), 3) := by decide +kernel
theorem dX5_addSensor_40 : decode cX5_addSensor 40 = .ok (.ireturn, 1) := by decide +kernel
theorem dX5_addSensor_41 : decode cX5_addSensor 41 = .ok (.aload_n 0, 1) := by decide +kernel
theorem dX5_addSensor_42 : decode cX5_addSensor 42 = .ok (.getfield 10, 3) := by decide +kernel
theorem dX5_addSensor_45 : decode cX5_addSensor 45 = .ok (.iconst 2, 1) := by decide +kernel
theorem dX5_addSensor_46 : decode cX5_addSensor 46 = .ok (.invokevirtual 48, 3) := by decide +kernel
theorem dX5_addSensor_49 : decode cX5_addSensor 49 = .ok (.bipush 6, 2) := by decide +kernel
theorem dX5_addSensor_51 : decode cX5_addSensor 51 = .ok (.if_icmp .lt 7, 3) := by decide +kernel
theorem dX5_addSensor_54 : decode cX5_addSensor 54 = .ok (.sipush (-1004), 3) := by decide +kernel
theorem dX5_addSensor_57 : decode cX5_addSensor 57 = .ok (.ireturn, 1) := by decide +kernel
theorem dX5_addSensor_58 : decode cX5_addSensor 58 = .ok (.aload_n 0, 1) := by decide +kernel
theorem dX5_addSensor_59 : decode cX5_addSensor 59 = .ok (.getfield 33, 3) := by decide +kernel
theorem dX5_addSensor_62 : decode cX5_addSensor 62 = .ok (.aload_n 0, 1) := by decide +kernel
theorem dX5_addSensor_63 : decode cX5_addSensor 63 = .ok (.getfield 10, 3) := by decide +kernel
theorem dX5_addSensor_66 : decode cX5_addSensor 66 = .ok (.invokevirtual 52, 3) := by decide +kernel
theorem dX5_addSensor_69 : decode cX5_addSensor 69 = .ok (.aload_n 0, 1) := by decide +kernel
theorem dX5_addSensor_70 : decode cX5_addSensor 70 = .ok (.getfield 10, 3) := by decide +kernel
theorem dX5_addSensor_73 : decode cX5_addSensor 73 = .ok (.iload_n 1, 1) := by decide +kernel
theorem dX5_addSensor_74 : decode cX5_addSensor 74 = .ok (.iload_n 2, 1) := by decide +kernel
theorem dX5_addSensor_75 : decode cX5_addSensor 75 = .ok (.iload_n 3, 1) := by decide +kernel
theorem dX5_addSensor_76 : decode cX5_addSensor 76 = .ok (.invokevirtual 80, 3) := by decide +kernel
theorem dX5_addSensor_79 : decode cX5_addSensor 79 = .ok (.ireturn, 1) := by decide +kernel
set_option maxRecDepth 20000 in
theorem ggX5_measure_X1_has : GoodIn wsX5_measure wsX1_has := goodIn_r _ [7, 8, 9, 10, 11, 62, 63, 64, 65, 66, 67, 68] (by decide +kernel) (by decide +kernel)
set_option maxRecDepth 20000 in
theorem gX5_measure_X1_has : GoodIn wsX5_measure (wsV RX5 59 RX1 yX1_has wsX1_has) := goodIn_app (goodIn_of _ (by decide +kernel)) ggX5_measure_X1_has
set_option maxRecDepth 20000 in
theorem ggX5_measure_X5_isWithin : GoodIn wsX5_measure wsX5_isWithin := goodIn_r _ [14] (by decide +kernel) (by decide +kernel)
set_option maxRecDepth 20000 in
theorem gX5_measure_X5_isWithin : GoodIn wsX5_measure (va_wsS RX5 44 yX5_isWithin wsX5_isWithin) := goodIn_app (goodIn_of _ (by decide +kernel)) ggX5_measure_X5_isWithin
set_option maxRecDepth 20000 in
theorem ggX5_measure_X0_record : GoodIn wsX5_measure wsX0_record := goodIn_r _ [19, 20, 21, 22, 23, 24, 18, 25, 26, 27, 28, 29, 6, 30, 8, 31, 32, 33, 34, 35, 36, 37, 10, 38, 39, 40, 41, 42, 43, 44, 45, 46, 69, 70, 71, 62, 63, 64, 65, 66, 67, 68] (by decide +kernel) (by decide +kernel)
set_option maxRecDepth 20000 in
theorem gX5_measure_X0_record : GoodIn wsX5_measure (wsV RX5 52 RX0 yX0_record wsX0_record) := goodIn_app (goodIn_of _ (by decide +kernel)) ggX5_measure_X0_record
set_option maxRecDepth 20000 in
theorem ggX5_measure_X1_sensorPart : GoodIn wsX5_measure wsX1_sensorPart := goodIn_r _ [50, 33, 9, 10, 11, 62, 63, 64, 65, 66, 67, 68] (by decide +kernel) (by decide +kernel)
set_option maxRecDepth 20000 in
theorem gX5_measure_X1_sensorPart : GoodIn wsX5_measure (wsV RX5 83 RX1 yX1_sensorPart wsX1_sensorPart) := goodIn_app (goodIn_of _ (by decide +kernel)) ggX5_measure_X1_sensorPart
set_option maxRecDepth 20000 in
theorem ggX5_measure_X1_setValue : GoodIn wsX5_measure wsX1_setValue := goodIn_r _ [54, 33, 55, 10, 56, 62, 63, 64, 65, 66, 67, 68] (by decide +kernel) (by decide +kernel)
set_option maxRecDepth 20000 in
theorem gX5_measure_X1_setValue : GoodIn wsX5_measure (wsV RX5 87 RX1 yX1_setValue wsX1_setValue) := goodIn_app (goodIn_of _ (by decide +kernel)) ggX5_measure_X1_setValue
theorem dX5_measure_0 : decode cX5_measure 0 = .ok (.aload_n 0, 1) := by decide +kernel
theorem dX5_measure_1 : decode cX5_measure 1 = .ok (.getfield 10, 3) := by decide +kernel
theorem dX5_measure_4 : decode cX5_measure 4 = .ok (.iconst 2, 1) := by decide +kernel
theorem dX5_measure_5 : decode cX5_measure 5 = .ok (.iload_n 1, 1) := by decide +kernel
theorem dX5_measure_6 : decode cX5_measure 6 = .ok (.invokevirtual 59, 3) := by decide +kernel
theorem dX5_measure_9 : decode cX5_measure 9 = .ok (.ifCond .ne 7, 3) := by decide +kernel
theorem dX5_measure_12 : decode cX5_measure 12 = .ok (.sipush (-1001), 3) := by decide +kernel
theorem dX5_measure_15 : decode cX5_measure 15 = .ok (.ireturn, 1) := by decide +kernel
theorem dX5_measure_16 : decode cX5_measure 16 = .ok (.iload_n 2, 1) := by decide +kernel
theorem dX5_measure_17 : decode cX5_measure 17 = .ok (.bipush (-100), 2) := by decide +kernel
theorem dX5_measure_19 : decode cX5_measure 19 = .ok (.bipush 100, 2) := by decide +kernel
theorem dX5_measure_21 : decode cX5_measure 21 = .ok (.invokestatic 44, 3) := by decide +kernel
theorem dX5_measure_24 : decode cX5_measure 24 = .ok (.ifCond .ne 7, 3) := by decide +kernel
theorem dX5_measure_27 : decode cX5_measure 27 = .ok (.sipush (-1002), 3) := by decide +kernel
theorem dX5_measure_30 : decode cX5_measure 30 = .ok (.ireturn, 1) := by decide +kernel
theorem dX5_measure_31 : decode cX5_measure 31 = .ok (.aload_n 0, 1) := by decide +kernel
theorem dX5_measure_32 : decode cX5_measure 32 = .ok (.getfield 33, 3) := by decide +kernel
theorem dX5_measure_35 : decode cX5_measure 35 = .ok (.aload_n 0, 1) := by decide +kernel
theorem dX5_measure_36 : decode cX5_measure 36 = .ok (.getfield 10, 3) := by decide +kernel
theorem dX5_measure_39 : decode cX5_measure 39 = .ok (.invokevirtual 52, 3) := by decide +kernel
theorem dX5_measure_42 : decode cX5_measure 42 = .ok (.aload_n 0, 1) := by decide +kernel
theorem dX5_measure_43 : decode cX5_measure 43 = .ok (.getfield 10, 3) := by decide +kernel
theorem dX5_measure_46 : decode cX5_measure 46 = .ok (.iload_n 1, 1) := by decide +kernel
theorem dX5_measure_47 : decode cX5_measure 47 = .ok (.iconst 2, 1) := by decide +kernel
theorem dX5_measure_48 : decode cX5_measure 48 = .ok (.invokevirtual 83, 3) := by decide +kernel
theorem dX5_measure_51 : decode cX5_measure 51 = .ok (.istore_n 3, 1) := by decide +kernel
theorem dX5_measure_52 : decode cX5_measure 52 = .ok (.aload_n 0, 1) := by decide +kernel
theorem dX5_measure_53 : decode cX5_measure 53 = .ok (.getfield 10, 3) := by decide +kernel
theorem dX5_measure_56 : decode cX5_measure 56 = .ok (.iload_n 1, 1) := by decide +kernel
theorem dX5_measure_57 : decode cX5_measure 57 = .ok (.iload_n 2, 1) := by decide +kernel
theorem dX5_measure_58 : decode cX5_measure 58 = .ok (.invokevirtual 87, 3) := by decide +kernel
theorem dX5_measure_61 : decode cX5_measure 61 = .ok (.iload_n 3, 1) := by decide +kernel
theorem dX5_measure_62 : decode cX5_measure 62 = .ok (.ireturn, 1) := by decide +kernel
set_option maxRecDepth 20000 in
theorem ggX5_ask_X1_has : GoodIn wsX5_ask wsX1_has := goodIn_r _ [8, 9, 10, 11, 12, 76, 77, 78, 79, 80, 81, 82] (by decide +kernel) (by decide +kernel)
set_option maxRecDepth 20000 in
theorem gX5_ask_X1_has : GoodIn wsX5_ask (wsV RX5 59 RX1 yX1_has wsX1_has) := goodIn_app (goodIn_of _ (by decide +kernel)) ggX5_ask_X1_has
set_option maxRecDepth 20000 in
theorem ggX5_ask_X5_isWithin : GoodIn wsX5_ask wsX5_isWithin := goodIn_r _ [15] (by decide +kernel) (by decide +kernel)
set_option maxRecDepth 20000 in
theorem gX5_ask_X5_isWithin : GoodIn wsX5_ask (va_wsS RX5 44 yX5_isWithin wsX5_isWithin) := goodIn_app (goodIn_of _ (by decide +kernel)) ggX5_ask_X5_isWithin
set_option maxRecDepth 20000 in
theorem ggX5_ask_X1_number : GoodIn wsX5_ask wsX1_number := goodIn_r _ [19, 9, 20, 21, 22, 7, 23, 24, 10, 11, 12, 25, 26, 27, 28, 29, 30, 31, 76, 77, 78, 79, 80, 81, 82] (by decide +kernel) (by decide +kernel)
set_option maxRecDepth 20000 in
theorem gX5_ask_X1_number : GoodIn wsX5_ask (wsV RX5 48 RX1 yX1_number wsX1_number) := goodIn_app (goodIn_of _ (by decide +kernel)) ggX5_ask_X1_number
set_option maxRecDepth 20000 in
theorem ggX5_ask_X0_record : GoodIn wsX5_ask wsX0_record := goodIn_r _ [36, 37, 38, 39, 40, 41, 35, 42, 43, 44, 45, 46, 7, 47, 9, 24, 48, 49, 50, 51, 52, 53, 11, 54, 55, 56, 57, 58, 59, 60, 61, 62, 83, 84, 85, 76, 77, 78, 79, 80, 81, 82] (by decide +kernel) (by decide +kernel)
set_option maxRecDepth 20000 in
theorem gX5_ask_X0_record : GoodIn wsX5_ask (wsV RX5 52 RX0 yX0_record wsX0_record) := goodIn_app (goodIn_of _ (by decide +kernel)) ggX5_ask_X0_record
set_option maxRecDepth 20000 in
theorem ggX5_ask_X1_appendInterest : GoodIn wsX5_ask wsX1_appendInterest := goodIn_r _ [66, 9, 50, 51, 10, 11, 12, 67, 68, 69, 70, 76, 77, 78, 79, 80, 81, 82] (by decide +kernel) (by decide +kernel)
set_option maxRecDepth 20000 in
theorem gX5_ask_X1_appendInterest : GoodIn wsX5_ask (wsV RX5 91 RX1 yX1_appendInterest wsX1_appendInterest) := goodIn_app (goodIn_of _ (by decide +kernel)) ggX5_ask_X1_appendInterest
theorem dX5_ask_0 : decode cX5_ask 0 = .ok (.aload_n 0, 1) := by decide +kernel
theorem dX5_ask_1 : decode cX5_ask 1 = .ok (.getfield 10, 3) := by decide +kernel
theorem dX5_ask_4 : decode cX5_ask 4 = .ok (.iconst 0, 1) := by decide +kernel
theorem dX5_ask_5 : decode cX5_ask 5 = .ok (.iload_n 1, 1) := by decide +kernel
theorem dX5_ask_6 : decode cX5_ask 6 = .ok (.invokevirtual 59, 3) := by decide +kernel
theorem dX5_ask_9 : decode cX5_ask 9 = .ok (.ifCond .ne 7, 3) := by decide +kernel
theorem dX5_ask_12 : decode cX5_ask 12 = .ok (.sipush (-1001), 3) := by decide +kernel
theorem dX5_ask_15 : decode cX5_ask 15 = .ok (.ireturn, 1) := by decide +kernel
theorem dX5_ask_16 : decode cX5_ask 16 = .ok (.iload_n 2, 1) := by decide +kernel
theorem dX5_ask_17 : decode cX5_ask 17 = .ok (.iconst 0, 1) := by decide +kernel
theorem dX5_ask_18 : decode cX5_ask 18 = .ok (.bipush 7, 2) := by decide +kernel
theorem dX5_ask_20 : decode cX5_ask 20 = .ok (.invokestatic 44, 3) := by decide +kernel
theorem dX5_ask_23 : decode cX5_ask 23 = .ok (.ifCond .eq 43, 3) := by decide +kernel
theorem dX5_ask_26 : decode cX5_ask 26 = .ok (.iload_n 3, 1) := by decide +kernel
theorem dX5_ask_27 : decode cX5_ask 27 = .ok (.bipush (-100), 2) := by decide +kernel
theorem dX5_ask_29 : decode cX5_ask 29 = .ok (.bipush 100, 2) := by decide +kernel
theorem dX5_ask_31 : decode cX5_ask 31 = .ok (.invokestatic 44, 3) := by decide +kernel
theorem dX5_ask_34 : decode cX5_ask 34 = .ok (.ifCond .eq 32, 3) := by decide +kernel
theorem dX5_ask_37 : decode cX5_ask 37 = .ok (.iload 4, 2) := by decide +kernel
theorem dX5_ask_39 : decode cX5_ask 39 = .ok (.iload_n 3, 1) := by decide +kernel
theorem dX5_ask_40 : decode cX5_ask 40 = .ok (.bipush 100, 2) := by decide +kernel
theorem dX5_ask_42 : decode cX5_ask 42 = .ok (.invokestatic 44, 3) := by decide +kernel
theorem dX5_ask_45 : decode cX5_ask 45 = .ok (.ifCond .eq 21, 3) := by decide +kernel
theorem dX5_ask_48 : decode cX5_ask 48 = .ok (.iload 5, 2) := by decide +kernel
theorem dX5_ask_50 : decode cX5_ask 50 = .ok (.aload_n 0, 1) := by decide +kernel
theorem dX5_ask_51 : decode cX5_ask 51 = .ok (.getfield 10, 3) := by decide +kernel
theorem dX5_ask_54 : decode cX5_ask 54 = .ok (.iconst 5, 1) := by decide +kernel
theorem dX5_ask_55 : decode cX5_ask 55 = .ok (.invokevirtual 48, 3) := by decide +kernel
theorem dX5_ask_58 : decode cX5_ask 58 = .ok (.ldc 90, 2) := by decide +kernel
theorem dX5_ask_60 : decode cX5_ask 60 = .ok (.invokestatic 44, 3) := by decide +kernel
theorem dX5_ask_63 : decode cX5_ask 63 = .ok (.ifCond .ne 7, 3) := by decide +kernel
theorem dX5_ask_66 : decode cX5_ask 66 = .ok (.sipush (-1002), 3) := by decide +kernel
theorem dX5_ask_69 : decode cX5_ask 69 = .ok (.ireturn, 1) := by decide +kernel
theorem dX5_ask_70 : decode cX5_ask 70 = .ok (.aload_n 0, 1) := by decide +kernel
theorem dX5_ask_71 : decode cX5_ask 71 = .ok (.getfield 10, 3) := by decide +kernel
theorem dX5_ask_74 : decode cX5_ask 74 = .ok (.iconst 3, 1) := by decide +kernel
theorem dX5_ask_75 : decode cX5_ask 75 = .ok (.invokevirtual 48, 3) := by decide +kernel
theorem dX5_ask_78 : decode cX5_ask 78 = .ok (.iconst 5, 1) := by decide +kernel
theorem dX5_ask_79 : decode cX5_ask 79 = .ok (.if_icmp .lt 7, 3) := by decide +kernel
theorem dX5_ask_82 : decode cX5_ask 82 = .ok (.sipush (-1004), 3) := by decide +kernel
theorem dX5_ask_85 : decode cX5_ask 85 = .ok (.ireturn, 1) := by decide +kernel
theorem dX5_ask_86 : decode cX5_ask 86 = .ok (.aload_n 0, 1) := by decide +kernel
theorem dX5_ask_87 : decode cX5_ask 87 = .ok (.getfield 33, 3) := by decide +kernel
theorem dX5_ask_90 : decode cX5_ask 90 = .ok (.aload_n 0, 1) := by decide +kernel
theorem dX5_ask_91 : decode cX5_ask 91 = .ok (.getfield 10, 3) := by decide +kernel
theorem dX5_ask_94 : decode cX5_ask 94 = .ok (.invokevirtual 52, 3) := by decide +kernel
theorem dX5_ask_97 : decode cX5_ask 97 = .ok (.aload_n 0, 1) := by decide +kernel
theorem dX5_ask_98 : decode cX5_ask 98 = .ok (.getfield 10, 3) := by decide +kernel
theorem dX5_ask_101 : decode cX5_ask 101 = .ok (.iload_n 1, 1) := by decide +kernel
theorem dX5_ask_102 : decode cX5_ask 102 = .ok (.iload_n 2, 1) := by decide +kernel
theorem dX5_ask_103 : decode cX5_ask 103 = .ok (.iload_n 3, 1) := by decide +kernel
theorem dX5_ask_104 : decode cX5_ask 104 = .ok (.iload 4, 2) := by decide +kernel
theorem dX5_ask_106 : decode cX5_ask 106 = .ok (.iload 5, 2) := by decide +kernel
theorem dX5_ask_108 : decode cX5_ask 108 = .ok (.invokevirtual 91, 3) := by decide +kernel
theorem dX5_ask_111 : decode cX5_ask 111 = .ok (.ireturn, 1) := by decide +kernel
set_option maxRecDepth 20000 in
theorem ggX5_withdraw_X1_has : GoodIn wsX5_withdraw wsX1_has := goodIn_r _ [7, 8, 9, 10, 11, 76, 77, 78, 79, 80, 81, 82] (by decide +kernel) (by decide +kernel)
set_option maxRecDepth 20000 in
theorem gX5_withdraw_X1_has : GoodIn wsX5_withdraw (wsV RX5 59 RX1 yX1_has wsX1_has) := goodIn_app (goodIn_of _ (by decide +kernel)) ggX5_withdraw_X1_has
set_option maxRecDepth 20000 in
theorem ggX5_withdraw_X0_record : GoodIn wsX5_withdraw wsX0_record := goodIn_r _ [16, 17, 18, 19, 20, 21, 15, 22, 23, 24, 25, 26, 6, 27, 8, 28, 29, 30, 31, 32, 33, 34, 10, 35, 36, 37, 38, 39, 40, 41, 42, 43, 83, 84, 85, 76, 77, 78, 79, 80, 81, 82] (by decide +kernel) (by decide +kernel)
set_option maxRecDepth 20000 in
theorem gX5_withdraw_X0_record : GoodIn wsX5_withdraw (wsV RX5 52 RX0 yX0_record wsX0_record) := goodIn_app (goodIn_of _ (by decide +kernel)) ggX5_withdraw_X0_record
set_option maxRecDepth 20000 in
theorem ggX5_withdraw_X1_removeInterest : GoodIn wsX5_withdraw wsX1_removeInterest := goodIn_r _ [47, 31, 32, 33, 8, 48, 10, 49, 50, 9, 11, 51, 52, 53, 54, 55, 76, 77, 78, 79, 80, 81, 82] (by decide +kernel) (by decide +kernel)
set_option maxRecDepth 20000 in
theorem gX5_withdraw_X1_removeInterest : GoodIn wsX5_withdraw (wsV RX5 95 RX1 yX1_removeInterest wsX1_removeInterest) := goodIn_app (goodIn_of _ (by decide +kernel)) ggX5_withdraw_X1_removeInterest
set_option maxRecDepth 20000 in
theorem ggX5_withdraw_X1_number : GoodIn wsX5_withdraw wsX1_number := goodIn_r _ [59, 8, 60, 61, 62, 6, 63, 28, 9, 10, 11, 64, 65, 66, 67, 68, 69, 70, 76, 77, 78, 79, 80, 81, 82] (by decide +kernel) (by decide +kernel)
set_option maxRecDepth 20000 in
theorem gX5_withdraw_X1_number : GoodIn wsX5_withdraw (wsV RX5 48 RX1 yX1_number wsX1_number) := goodIn_app (goodIn_of _ (by decide +kernel)) ggX5_withdraw_X1_number
theorem dX5_withdraw_0 : decode cX5_withdraw 0 = .ok (.aload_n 0, 1) := by decide +kernel
theorem dX5_withdraw_1 : decode cX5_withdraw 1 = .ok (.getfield 10, 3) := by decide +kernel
theorem dX5_withdraw_4 : decode cX5_withdraw 4 = .ok (.iconst 3, 1) := by decide +kernel
theorem dX5_withdraw_5 : decode cX5_withdraw 5 = .ok (.iload_n 1, 1) := by decide +kernel
theorem dX5_withdraw_6 : decode cX5_withdraw 6 = .ok (.invokevirtual 59, 3) := by decide +kernel
theorem dX5_withdraw_9 : decode cX5_withdraw 9 = .ok (.ifCond .ne 7, 3) := by decide +kernel
theorem dX5_withdraw_12 : decode cX5_withdraw 12 = .ok (.sipush (-1001), 3) := by decide +kernel
theorem dX5_withdraw_15 : decode cX5_withdraw 15 = .ok (.ireturn, 1) := by decide +kernel
theorem dX5_withdraw_16 : decode cX5_withdraw 16 = .ok (.aload_n 0, 1) := by decide +kernel
theorem dX5_withdraw_17 : decode cX5_withdraw 17 = .ok (.getfield 33, 3) := by decide +kernel
theorem dX5_withdraw_20 : decode cX5_withdraw 20 = .ok (.aload_n 0, 1) := by decide +kernel
theorem dX5_withdraw_21 : decode cX5_withdraw 21 = .ok (.getfield 10, 3) := by decide +kernel
theorem dX5_withdraw_24 : decode cX5_withdraw 24 = .ok (.invokevirtual 52, 3) := by decide +kernel
theorem dX5_withdraw_27 : decode cX5_withdraw 27 = .ok (.aload_n 0, 1) := by decide +kernel
theorem dX5_withdraw_28 : decode cX5_withdraw 28 = .ok (.getfield 10, 3) := by decide +kernel
theorem dX5_withdraw_31 : decode cX5_withdraw 31 = .ok (.iload_n 1, 1) := by decide +kernel
theorem dX5_withdraw_32 : decode cX5_withdraw 32 = .ok (.invokevirtual 95, 3) := by decide +kernel
theorem dX5_withdraw_35 : decode cX5_withdraw 35 = .ok (.aload_n 0, 1) := by decide +kernel
theorem dX5_withdraw_36 : decode cX5_withdraw 36 = .ok (.getfield 10, 3) := by decide +kernel
theorem dX5_withdraw_39 : decode cX5_withdraw 39 = .ok (.iconst 3, 1) := by decide +kernel
theorem dX5_withdraw_40 : decode cX5_withdraw 40 = .ok (.invokevirtual 48, 3) := by decide +kernel
theorem dX5_withdraw_43 : decode cX5_withdraw 43 = .ok (.ireturn, 1) := by decide +kernel
set_option maxRecDepth 20000 in
theorem ggX5_setPeriod_X5_isWithin : GoodIn wsX5_setPeriod wsX5_isWithin := goodIn_r _ [6] (by decide +kernel) (by decide +kernel)
set_option maxRecDepth 20000 in
theorem gX5_setPeriod_X5_isWithin : GoodIn wsX5_setPeriod (va_wsS RX5 44 yX5_isWithin wsX5_isWithin) := goodIn_app (goodIn_of _ (by decide +kernel)) ggX5_setPeriod_X5_isWithin
set_option maxRecDepth 20000 in
theorem ggX5_setPeriod_X0_record : GoodIn wsX5_setPeriod wsX0_record := goodIn_r _ [11, 12, 13, 14, 15, 16, 10, 17, 18, 19, 20, 21, 22, 23, 24, 25, 26, 27, 28, 29, 30, 31, 5, 32, 33, 34, 35, 36, 37, 38, 39, 40, 69, 70, 71, 72, 73, 74, 75, 76, 77, 78] (by decide +kernel) (by decide +kernel)
set_option maxRecDepth 20000 in
theorem gX5_setPeriod_X0_record : GoodIn wsX5_setPeriod (wsV RX5 52 RX0 yX0_record wsX0_record) := goodIn_app (goodIn_of _ (by decide +kernel)) ggX5_setPeriod_X0_record
set_option maxRecDepth 20000 in
theorem ggX5_setPeriod_X1_number : GoodIn wsX5_setPeriod wsX1_number := goodIn_r _ [44, 24, 45, 46, 47, 22, 48, 25, 49, 5, 50, 51, 52, 53, 54, 55, 56, 57, 72, 73, 74, 75, 76, 77, 78] (by decide +kernel) (by decide +kernel)
set_option maxRecDepth 20000 in
theorem gX5_setPeriod_X1_number : GoodIn wsX5_setPeriod (wsV RX5 48 RX1 yX1_number wsX1_number) := goodIn_app (goodIn_of _ (by decide +kernel)) ggX5_setPeriod_X1_number
set_option maxRecDepth 20000 in
theorem ggX5_setPeriod_X1_setNumber : GoodIn wsX5_setPeriod wsX1_setNumber := goodIn_r _ [61, 24, 62, 5, 63, 72, 73, 74, 75, 76, 77, 78] (by decide +kernel) (by decide +kernel)
set_option maxRecDepth 20000 in
theorem gX5_setPeriod_X1_setNumber : GoodIn wsX5_setPeriod (wsV RX5 99 RX1 yX1_setNumber wsX1_setNumber) := goodIn_app (goodIn_of _ (by decide +kernel)) ggX5_setPeriod_X1_setNumber
theorem dX5_setPeriod_0 : decode cX5_setPeriod 0 = .ok (.iload_n 1, 1) := by decide +kernel
theorem dX5_setPeriod_1 : decode cX5_setPeriod 1 = .ok (.iconst 1, 1) := by decide +kernel
theorem dX5_setPeriod_2 : decode cX5_setPeriod 2 = .ok (.bipush 50, 2) := by decide +kernel
theorem dX5_setPeriod_4 : decode cX5_setPeriod 4 = .ok (.invokestatic 44, 3) := by decide +kernel
theorem dX5_setPeriod_7 : decode cX5_setPeriod 7 = .ok (.ifCond .ne 7, 3) := by decide +kernel
theorem dX5_setPeriod_10 : decode cX5_setPeriod 10 = .ok (.sipush (-1002), 3) := by decide +kernel
theorem dX5_setPeriod_13 : decode cX5_setPeriod 13 = .ok (.ireturn, 1) := by decide +kernel
theorem dX5_setPeriod_14 : decode cX5_setPeriod 14 = .ok (.aload_n 0, 1) := by decide +kernel
theorem dX5_setPeriod_15 : decode cX5_setPeriod 15 = .ok (.getfield 33, 3) := by decide +kernel
theorem dX5_setPeriod_18 : decode cX5_setPeriod 18 = .ok (.aload_n 0, 1) := by decide +kernel
theorem dX5_setPeriod_19 : decode cX5_setPeriod 19 = .ok (.getfield 10, 3) := by decide +kernel
theorem dX5_setPeriod_22 : decode cX5_setPeriod 22 = .ok (.invokevirtual 52, 3) := by decide +kernel
theorem dX5_setPeriod_25 : decode cX5_setPeriod 25 = .ok (.aload_n 0, 1) := by decide +kernel
theorem dX5_setPeriod_26 : decode cX5_setPeriod 26 = .ok (.getfield 10, 3) := by decide +kernel
theorem dX5_setPeriod_29 : decode cX5_setPeriod 29 = .ok (.iconst 4, 1) := by decide +kernel
theorem dX5_setPeriod_30 : decode cX5_setPeriod 30 = .ok (.invokevirtual 48, 3) := by decide +kernel
theorem dX5_setPeriod_33 : decode cX5_setPeriod 33 = .ok (.istore_n 2, 1) := by decide +kernel
theorem dX5_setPeriod_34 : decode cX5_setPeriod 34 = .ok (.aload_n 0, 1) := by decide +kernel
theorem dX5_setPeriod_35 : decode cX5_setPeriod 35 = .ok (.getfield 10, 3) := by decide +kernel
theorem dX5_setPeriod_38 : decode cX5_setPeriod 38 = .ok (.iconst 4, 1) := by decide +kernel
theorem dX5_setPeriod_39 : decode cX5_setPeriod 39 = .ok (.iload_n 1, 1) := by decide +kernel
theorem dX5_setPeriod_40 : decode cX5_setPeriod 40 = .ok (.invokevirtual 99, 3) := by decide +kernel
theorem dX5_setPeriod_43 : decode cX5_setPeriod 43 = .ok (.iload_n 2, 1) := by decide +kernel
theorem dX5_setPeriod_44 : decode cX5_setPeriod 44 = .ok (.ireturn, 1) := by decide +kernel
set_option maxRecDepth 20000 in
theorem ggX5_count_X5_isWithin : GoodIn wsX5_count wsX5_isWithin := goodIn_r _ [5] (by decide +kernel) (by decide +kernel)
set_option maxRecDepth 20000 in
theorem gX5_count_X5_isWithin : GoodIn wsX5_count (va_wsS RX5 44 yX5_isWithin wsX5_isWithin) := goodIn_app (goodIn_of _ (by decide +kernel)) ggX5_count_X5_isWithin
set_option maxRecDepth 20000 in
theorem ggX5_count_X1_number : GoodIn wsX5_count wsX1_number := goodIn_r _ [10, 11, 12, 13, 14, 9, 15, 16, 17, 4, 18, 19, 20, 21, 22, 23, 24, 25, 31, 32, 33, 34, 35, 36, 37] (by decide +kernel) (by decide +kernel)
set_option maxRecDepth 20000 in
theorem gX5_count_X1_number : GoodIn wsX5_count (wsV RX5 48 RX1 yX1_number wsX1_number) := goodIn_app (goodIn_of _ (by decide +kernel)) ggX5_count_X1_number
theorem dX5_count_0 : decode cX5_count 0 = .ok (.iload_n 1, 1) := by decide +kernel
theorem dX5_count_1 : decode cX5_count 1 = .ok (.iconst 0, 1) := by decide +kernel
theorem dX5_count_2 : decode cX5_count 2 = .ok (.bipush 11, 2) := by decide +kernel
theorem dX5_count_4 : decode cX5_count 4 = .ok (.invokestatic 44, 3) := by decide +kernel
theorem dX5_count_7 : decode cX5_count 7 = .ok (.ifCond .eq 14, 3) := by decide +kernel
theorem dX5_count_10 : decode cX5_count 10 = .ok (.aload_n 0, 1) := by decide +kernel
theorem dX5_count_11 : decode cX5_count 11 = .ok (.getfield 10, 3) := by decide +kernel
theorem dX5_count_14 : decode cX5_count 14 = .ok (.iload_n 1, 1) := by decide +kernel
theorem dX5_count_15 : decode cX5_count 15 = .ok (.invokevirtual 48, 3) := by decide +kernel
theorem dX5_count_18 : decode cX5_count 18 = .ok (.goto 6, 3) := by decide +kernel
theorem dX5_count_21 : decode cX5_count 21 = .ok (.sipush (-1002), 3) := by decide +kernel
theorem dX5_count_24 : decode cX5_count 24 = .ok (.ireturn, 1) := by decide +kernel
set_option maxRecDepth 20000 in
theorem ggX5_energy_X1_has : GoodIn wsX5_energy wsX1_has := goodIn_r _ [6, 7, 8, 9, 10, 21, 22, 23, 24, 25, 26, 27] (by decide +kernel) (by decide +kernel)
set_option maxRecDepth 20000 in
theorem gX5_energy_X1_has : GoodIn wsX5_energy (wsV RX5 59 RX1 yX1_has wsX1_has) := goodIn_app (goodIn_of _ (by decide +kernel)) ggX5_energy_X1_has
set_option maxRecDepth 20000 in
theorem ggX5_energy_X1_energyOf : GoodIn wsX5_energy wsX1_energyOf := goodIn_r _ [14, 15, 8, 9, 10, 21, 22, 23, 24, 25, 26, 27] (by decide +kernel) (by decide +kernel)
set_option maxRecDepth 20000 in
theorem gX5_energy_X1_energyOf : GoodIn wsX5_energy (wsV RX5 63 RX1 yX1_energyOf wsX1_energyOf) := goodIn_app (goodIn_of _ (by decide +kernel)) ggX5_energy_X1_energyOf
theorem dX5_energy_0 : decode cX5_energy 0 = .ok (.aload_n 0, 1) := by decide +kernel
theorem dX5_energy_1 : decode cX5_energy 1 = .ok (.getfield 10, 3) := by decide +kernel
theorem dX5_energy_4 : decode cX5_energy 4 = .ok (.iconst 0, 1) := by decide +kernel
theorem dX5_energy_5 : decode cX5_energy 5 = .ok (.iload_n 1, 1) := by decide +kernel
theorem dX5_energy_6 : decode cX5_energy 6 = .ok (.invokevirtual 59, 3) := by decide +kernel
theorem dX5_energy_9 : decode cX5_energy 9 = .ok (.ifCond .eq 14, 3) := by decide +kernel
theorem dX5_energy_12 : decode cX5_energy 12 = .ok (.aload_n 0, 1) := by decide +kernel
theorem dX5_energy_13 : decode cX5_energy 13 = .ok (.getfield 10, 3) := by decide +kernel
theorem dX5_energy_16 : decode cX5_energy 16 = .ok (.iload_n 1, 1) := by decide +kernel
theorem dX5_energy_17 : decode cX5_energy 17 = .ok (.invokevirtual 63, 3) := by decide +kernel
theorem dX5_energy_20 : decode cX5_energy 20 = .ok (.goto 6, 3) := by decide +kernel
theorem dX5_energy_23 : decode cX5_energy 23 = .ok (.sipush (-1001), 3) := by decide +kernel
theorem dX5_energy_26 : decode cX5_energy 26 = .ok (.ireturn, 1) := by decide +kernel
set_option maxRecDepth 20000 in
theorem ggX5_linkPart_X1_has : GoodIn wsX5_linkPart wsX1_has := goodIn_r _ [6, 7, 8, 9, 10, 24, 25, 26, 27, 28, 29, 30] (by decide +kernel) (by decide +kernel)
set_option maxRecDepth 20000 in
theorem gX5_linkPart_X1_has : GoodIn wsX5_linkPart (wsV RX5 59 RX1 yX1_has wsX1_has) := goodIn_app (goodIn_of _ (by decide +kernel)) ggX5_linkPart_X1_has
set_option maxRecDepth 20000 in
theorem ggX5_linkPart_X5_isWithin : GoodIn wsX5_linkPart wsX5_isWithin := goodIn_r _ [13] (by decide +kernel) (by decide +kernel)
set_option maxRecDepth 20000 in
theorem gX5_linkPart_X5_isWithin : GoodIn wsX5_linkPart (va_wsS RX5 44 yX5_isWithin wsX5_isWithin) := goodIn_app (goodIn_of _ (by decide +kernel)) ggX5_linkPart_X5_isWithin
set_option maxRecDepth 20000 in
theorem ggX5_linkPart_X1_partOfLink : GoodIn wsX5_linkPart wsX1_partOfLink := goodIn_r _ [17, 18, 8, 9, 10, 24, 25, 26, 27, 28, 29, 30] (by decide +kernel) (by decide +kernel)
set_option maxRecDepth 20000 in
theorem gX5_linkPart_X1_partOfLink : GoodIn wsX5_linkPart (wsV RX5 102 RX1 yX1_partOfLink wsX1_partOfLink) := goodIn_app (goodIn_of _ (by decide +kernel)) ggX5_linkPart_X1_partOfLink
theorem dX5_linkPart_0 : decode cX5_linkPart 0 = .ok (.aload_n 0, 1) := by decide +kernel
theorem dX5_linkPart_1 : decode cX5_linkPart 1 = .ok (.getfield 10, 3) := by decide +kernel
theorem dX5_linkPart_4 : decode cX5_linkPart 4 = .ok (.iconst 1, 1) := by decide +kernel
theorem dX5_linkPart_5 : decode cX5_linkPart 5 = .ok (.iload_n 1, 1) := by decide +kernel
theorem dX5_linkPart_6 : decode cX5_linkPart 6 = .ok (.invokevirtual 59, 3) := by decide +kernel
theorem dX5_linkPart_9 : decode cX5_linkPart 9 = .ok (.ifCond .ne 7, 3) := by decide +kernel
theorem dX5_linkPart_12 : decode cX5_linkPart 12 = .ok (.sipush (-1001), 3) := by decide +kernel
theorem dX5_linkPart_15 : decode cX5_linkPart 15 = .ok (.ireturn, 1) := by decide +kernel
theorem dX5_linkPart_16 : decode cX5_linkPart 16 = .ok (.iload_n 2, 1) := by decide +kernel
theorem dX5_linkPart_17 : decode cX5_linkPart 17 = .ok (.iconst 0, 1) := by decide +kernel
theorem dX5_linkPart_18 : decode cX5_linkPart 18 = .ok (.iconst 2, 1) := by decide +kernel
theorem dX5_linkPart_19 : decode cX5_linkPart 19 = .ok (.invokestatic 44, 3) := by decide +kernel
theorem dX5_linkPart_22 : decode cX5_linkPart 22 = .ok (.ifCond .eq 15, 3) := by decide +kernel
theorem dX5_linkPart_25 : decode cX5_linkPart 25 = .ok (.aload_n 0, 1) := by decide +kernel
theorem dX5_linkPart_26 : decode cX5_linkPart 26 = .ok (.getfield 10, 3) := by decide +kernel
theorem dX5_linkPart_29 : decode cX5_linkPart 29 = .ok (.iload_n 1, 1) := by decide +kernel
theorem dX5_linkPart_30 : decode cX5_linkPart 30 = .ok (.iload_n 2, 1) := by decide +kernel
theorem dX5_linkPart_31 : decode cX5_linkPart 31 = .ok (.invokevirtual 102, 3) := by decide +kernel
theorem dX5_linkPart_34 : decode cX5_linkPart 34 = .ok (.goto 6, 3) := by decide +kernel
theorem dX5_linkPart_37 : decode cX5_linkPart 37 = .ok (.sipush (-1002), 3) := by decide +kernel
theorem dX5_linkPart_40 : decode cX5_linkPart 40 = .ok (.ireturn, 1) := by decide +kernel
set_option maxRecDepth 20000 in
theorem ggX5_sensor_X1_has : GoodIn wsX5_sensor wsX1_has := goodIn_r _ [6, 7, 8, 9, 10, 24, 25, 26, 27, 28, 29, 30] (by decide +kernel) (by decide +kernel)
set_option maxRecDepth 20000 in
theorem gX5_sensor_X1_has : GoodIn wsX5_sensor (wsV RX5 59 RX1 yX1_has wsX1_has) := goodIn_app (goodIn_of _ (by decide +kernel)) ggX5_sensor_X1_has
set_option maxRecDepth 20000 in
theorem ggX5_sensor_X5_isWithin : GoodIn wsX5_sensor wsX5_isWithin := goodIn_r _ [13] (by decide +kernel) (by decide +kernel)
set_option maxRecDepth 20000 in
theorem gX5_sensor_X5_isWithin : GoodIn wsX5_sensor (va_wsS RX5 44 yX5_isWithin wsX5_isWithin) := goodIn_app (goodIn_of _ (by decide +kernel)) ggX5_sensor_X5_isWithin
set_option maxRecDepth 20000 in
theorem ggX5_sensor_X1_sensorPart : GoodIn wsX5_sensor wsX1_sensorPart := goodIn_r _ [17, 18, 8, 9, 10, 24, 25, 26, 27, 28, 29, 30] (by decide +kernel) (by decide +kernel)
set_option maxRecDepth 20000 in
theorem gX5_sensor_X1_sensorPart : GoodIn wsX5_sensor (wsV RX5 83 RX1 yX1_sensorPart wsX1_sensorPart) := goodIn_app (goodIn_of _ (by decide +kernel)) ggX5_sensor_X1_sensorPart
theorem dX5_sensor_0 : decode cX5_sensor 0 = .ok (.aload_n 0, 1) := by decide +kernel
theorem dX5_sensor_1 : decode cX5_sensor 1 = .ok (.getfield 10, 3) := by decide +kernel
theorem dX5_sensor_4 : decode cX5_sensor 4 = .ok (.iconst 2, 1) := by decide +kernel
theorem dX5_sensor_5 : decode cX5_sensor 5 = .ok (.iload_n 1, 1) := by decide +kernel
theorem dX5_sensor_6 : decode cX5_sensor 6 = .ok (.invokevirtual 59, 3) := by decide +kernel
theorem dX5_sensor_9 : decode cX5_sensor 9 = .ok (.ifCond .ne 7, 3) := by decide +kernel
theorem dX5_sensor_12 : decode cX5_sensor 12 = .ok (.sipush (-1001), 3) := by decide +kernel
theorem dX5_sensor_15 : decode cX5_sensor 15 = .ok (.ireturn, 1) := by decide +kernel
theorem dX5_sensor_16 : decode cX5_sensor 16 = .ok (.iload_n 2, 1) := by decide +kernel
theorem dX5_sensor_17 : decode cX5_sensor 17 = .ok (.iconst 0, 1) := by decide +kernel
theorem dX5_sensor_18 : decode cX5_sensor 18 = .ok (.iconst 2, 1) := by decide +kernel
theorem dX5_sensor_19 : decode cX5_sensor 19 = .ok (.invokestatic 44, 3) := by decide +kernel
theorem dX5_sensor_22 : decode cX5_sensor 22 = .ok (.ifCond .eq 15, 3) := by decide +kernel
theorem dX5_sensor_25 : decode cX5_sensor 25 = .ok (.aload_n 0, 1) := by decide +kernel
theorem dX5_sensor_26 : decode cX5_sensor 26 = .ok (.getfield 10, 3) := by decide +kernel
theorem dX5_sensor_29 : decode cX5_sensor 29 = .ok (.iload_n 1, 1) := by decide +kernel
theorem dX5_sensor_30 : decode cX5_sensor 30 = .ok (.iload_n 2, 1) := by decide +kernel
theorem dX5_sensor_31 : decode cX5_sensor 31 = .ok (.invokevirtual 83, 3) := by decide +kernel
theorem dX5_sensor_34 : decode cX5_sensor 34 = .ok (.goto 6, 3) := by decide +kernel
theorem dX5_sensor_37 : decode cX5_sensor 37 = .ok (.sipush (-1002), 3) := by decide +kernel
theorem dX5_sensor_40 : decode cX5_sensor 40 = .ok (.ireturn, 1) := by decide +kernel
set_option maxRecDepth 20000 in
theorem ggX5_interest_X1_has : GoodIn wsX5_interest wsX1_has := goodIn_r _ [6, 7, 8, 9, 10, 31, 32, 33, 34, 35, 36, 37] (by decide +kernel) (by decide +kernel)
set_option maxRecDepth 20000 in
theorem gX5_interest_X1_has : GoodIn wsX5_interest (wsV RX5 59 RX1 yX1_has wsX1_has) := goodIn_app (goodIn_of _ (by decide +kernel)) ggX5_interest_X1_has
set_option maxRecDepth 20000 in
theorem ggX5_interest_X5_isWithin : GoodIn wsX5_interest wsX5_isWithin := goodIn_r _ [13] (by decide +kernel) (by decide +kernel)
set_option maxRecDepth 20000 in
theorem gX5_interest_X5_isWithin : GoodIn wsX5_interest (va_wsS RX5 44 yX5_isWithin wsX5_isWithin) := goodIn_app (goodIn_of _ (by decide +kernel)) ggX5_interest_X5_isWithin
set_option maxRecDepth 20000 in
theorem ggX5_interest_X1_interestPart : GoodIn wsX5_interest wsX1_interestPart := goodIn_r _ [17, 18, 19, 20, 21, 5, 22, 7, 23, 8, 9, 10, 24, 25, 31, 32, 33, 34, 35, 36, 37] (by decide +kernel) (by decide +kernel)
set_option maxRecDepth 20000 in
theorem gX5_interest_X1_interestPart : GoodIn wsX5_interest (wsV RX5 105 RX1 yX1_interestPart wsX1_interestPart) := goodIn_app (goodIn_of _ (by decide +kernel)) ggX5_interest_X1_interestPart
theorem dX5_interest_0 : decode cX5_interest 0 = .ok (.aload_n 0, 1) := by decide +kernel
theorem dX5_interest_1 : decode cX5_interest 1 = .ok (.getfield 10, 3) := by decide +kernel
theorem dX5_interest_4 : decode cX5_interest 4 = .ok (.iconst 3, 1) := by decide +kernel
theorem dX5_interest_5 : decode cX5_interest 5 = .ok (.iload_n 1, 1) := by decide +kernel
theorem dX5_interest_6 : decode cX5_interest 6 = .ok (.invokevirtual 59, 3) := by decide +kernel
theorem dX5_interest_9 : decode cX5_interest 9 = .ok (.ifCond .ne 7, 3) := by decide +kernel
theorem dX5_interest_12 : decode cX5_interest 12 = .ok (.sipush (-1001), 3) := by decide +kernel
theorem dX5_interest_15 : decode cX5_interest 15 = .ok (.ireturn, 1) := by decide +kernel
theorem dX5_interest_16 : decode cX5_interest 16 = .ok (.iload_n 2, 1) := by decide +kernel
theorem dX5_interest_17 : decode cX5_interest 17 = .ok (.iconst 0, 1) := by decide +kernel
theorem dX5_interest_18 : decode cX5_interest 18 = .ok (.bipush 7, 2) := by decide +kernel
theorem dX5_interest_20 : decode cX5_interest 20 = .ok (.invokestatic 44, 3) := by decide +kernel
theorem dX5_interest_23 : decode cX5_interest 23 = .ok (.ifCond .eq 15, 3) := by decide +kernel
theorem dX5_interest_26 : decode cX5_interest 26 = .ok (.aload_n 0, 1) := by decide +kernel
theorem dX5_interest_27 : decode cX5_interest 27 = .ok (.getfield 10, 3) := by decide +kernel
theorem dX5_interest_30 : decode cX5_interest 30 = .ok (.iload_n 1, 1) := by decide +kernel
theorem dX5_interest_31 : decode cX5_interest 31 = .ok (.iload_n 2, 1) := by decide +kernel
theorem dX5_interest_32 : decode cX5_interest 32 = .ok (.invokevirtual 105, 3) := by decide +kernel
theorem dX5_interest_35 : decode cX5_interest 35 = .ok (.goto 6, 3) := by decide +kernel
theorem dX5_interest_38 : decode cX5_interest 38 = .ok (.sipush (-1002), 3) := by decide +kernel
theorem dX5_interest_41 : decode cX5_interest 41 = .ok (.ireturn, 1) := by decide +kernel
set_option maxRecDepth 20000 in
theorem ggX5_rounds_X5_isWithin : GoodIn wsX5_rounds wsX5_isWithin := goodIn_r _ [8] (by decide +kernel) (by decide +kernel)
set_option maxRecDepth 20000 in
theorem gX5_rounds_X5_isWithin : GoodIn wsX5_rounds (va_wsS RX5 44 yX5_isWithin wsX5_isWithin) := goodIn_app (goodIn_of _ (by decide +kernel)) ggX5_rounds_X5_isWithin
set_option maxRecDepth 20000 in
theorem ggX5_rounds_X1_number : GoodIn wsX5_rounds wsX1_number := goodIn_r _ [13, 14, 15, 16, 17, 12, 18, 19, 20, 7, 21, 22, 23, 24, 25, 26, 27, 28, 246, 247, 248, 249, 250, 251, 252] (by decide +kernel) (by decide +kernel)
set_option maxRecDepth 20000 in
theorem gX5_rounds_X1_number : GoodIn wsX5_rounds (wsV RX5 48 RX1 yX1_number wsX1_number) := goodIn_app (goodIn_of _ (by decide +kernel)) ggX5_rounds_X1_number
set_option maxRecDepth 20000 in
theorem ggX5_rounds_X0_record : GoodIn wsX5_rounds wsX0_record := goodIn_r _ [33, 34, 35, 36, 37, 38, 32, 39, 40, 41, 42, 43, 12, 44, 14, 19, 45, 46, 47, 48, 49, 50, 7, 51, 52, 53, 54, 55, 56, 57, 58, 59, 253, 254, 255, 246, 247, 248, 249, 250, 251, 252] (by decide +kernel) (by decide +kernel)
set_option maxRecDepth 20000 in
theorem gX5_rounds_X0_record : GoodIn wsX5_rounds (wsV RX5 52 RX0 yX0_record wsX0_record) := goodIn_app (goodIn_of _ (by decide +kernel)) ggX5_rounds_X0_record
set_option maxRecDepth 20000 in
theorem ggX5_rounds_X3_start : GoodIn wsX5_rounds wsX3_start := goodIn_r _ [64, 65, 66, 67, 42, 43, 12, 44, 14, 19, 45, 46, 47, 48, 49, 50, 7, 51, 52, 53, 54, 55, 56, 57, 58, 59, 68, 69, 70, 71, 72, 73, 74, 75, 76, 77, 78, 79, 10, 11, 13, 15, 16, 17, 18, 20, 21, 22, 23, 24, 25, 26, 27, 28, 80, 81, 82, 83, 84, 85, 242, 243, 244, 245, 246, 247, 248, 249, 250, 251, 252, 256, 257, 258, 259, 260] (by decide +kernel) (by decide +kernel)
set_option maxRecDepth 20000 in
theorem gX5_rounds_X3_start : GoodIn wsX5_rounds (wsV RX5 108 RX3 yX3_start wsX3_start) := goodIn_app (goodIn_of _ (by decide +kernel)) ggX5_rounds_X3_start
set_option maxRecDepth 20000 in
theorem ggX5_rounds_X3_run : GoodIn wsX5_rounds wsX3_run := goodIn_r _ [89, 65, 90, 91, 92, 93, 12, 94, 14, 20, 7, 21, 95, 96, 97, 98, 47, 99, 100, 101, 102, 48, 103, 104, 105, 106, 107, 108, 49, 109, 110, 111, 112, 84, 85, 113, 114, 115, 76, 77, 78, 116, 10, 11, 13, 15, 16, 17, 18, 19, 22, 23, 24, 25, 26, 27, 28, 117, 118, 119, 63, 120, 66, 121, 122, 123, 124, 46, 125, 126, 127, 128, 129, 130, 131, 6, 8, 132, 133, 134, 135, 136, 137, 138, 139, 140, 141, 142, 143, 144, 71, 145, 146, 147, 148, 149, 150, 151, 152, 153, 154, 155, 156, 157, 73, 158, 159, 160, 161, 162, 163, 54, 164, 165, 166, 167, 168, 169, 74, 170, 171, 172, 173, 174, 175, 176, 177, 178, 179, 180, 181, 182, 183, 184, 185, 186, 187, 188, 189, 190, 191, 192, 193, 194, 53, 55, 195, 196, 197, 198, 199, 200, 201, 202, 203, 204, 205, 206, 207, 208, 209, 210, 211, 212, 213, 214, 215, 216, 217, 218, 219, 220, 221, 222, 223, 224, 225, 226, 227, 228, 229, 230, 231, 232, 233, 234, 235, 242, 243, 244, 245, 246, 247, 248, 249, 250, 251, 252, 256, 257, 258, 259, 260] (by decide +kernel) (by decide +kernel)
set_option maxRecDepth 20000 in
theorem gX5_rounds_X3_run : GoodIn wsX5_rounds (wsV RX5 111 RX3 yX3_run wsX3_run) := goodIn_app (goodIn_of _ (by decide +kernel)) ggX5_rounds_X3_run
set_option maxRecDepth 20000 in
theorem ggX5_rounds_X1_copyFrom : GoodIn wsX5_rounds wsX1_copyFrom := goodIn_r _ [44, 14, 19, 45, 46, 47, 48, 49, 50, 7, 51, 52, 53, 54, 55, 56, 57, 58, 59, 246, 247, 248, 249, 250, 251, 252] (by decide +kernel) (by decide +kernel)
set_option maxRecDepth 20000 in
theorem gX5_rounds_X1_copyFrom : GoodIn wsX5_rounds (wsV RX5 117 RX1 yX1_copyFrom wsX1_copyFrom) := goodIn_app (goodIn_of _ (by decide +kernel)) ggX5_rounds_X1_copyFrom
theorem dX5_rounds_0 : decode cX5_rounds 0 = .ok (.iload_n 1, 1) := by decide +kernel
theorem dX5_rounds_1 : decode cX5_rounds 1 = .ok (.iconst 1, 1) := by decide +kernel
theorem dX5_rounds_2 : decode cX5_rounds 2 = .ok (.bipush 100, 2) := by decide +kernel
theorem dX5_rounds_4 : decode cX5_rounds 4 = .ok (.invokestatic 44, 3) := by decide +kernel
theorem dX5_rounds_7 : decode cX5_rounds 7 = .ok (.ifCond .ne 7, 3) := by decide +kernel
theorem dX5_rounds_10 : decode cX5_rounds 10 = .ok (.sipush (-1002), 3) := by decide +kernel
theorem dX5_rounds_13 : decode cX5_rounds 13 = .ok (.ireturn, 1) := by decide +kernel
theorem dX5_rounds_14 : decode cX5_rounds 14 = .ok (.aload_n 0, 1) := by decide +kernel
theorem dX5_rounds_15 : decode cX5_rounds 15 = .ok (.getfield 10, 3) := by decide +kernel
theorem dX5_rounds_18 : decode cX5_rounds 18 = .ok (.iconst 5, 1) := by decide +kernel
theorem dX5_rounds_19 : decode cX5_rounds 19 = .ok (.invokevirtual 48, 3) := by decide +kernel
theorem dX5_rounds_22 : decode cX5_rounds 22 = .ok (.iload_n 1, 1) := by decide +kernel
theorem dX5_rounds_23 : decode cX5_rounds 23 = .ok (.iadd, 1) := by decide +kernel
theorem dX5_rounds_24 : decode cX5_rounds 24 = .ok (.ldc 90, 2) := by decide +kernel
theorem dX5_rounds_26 : decode cX5_rounds 26 = .ok (.if_icmp .le 7, 3) := by decide +kernel
theorem dX5_rounds_29 : decode cX5_rounds 29 = .ok (.sipush (-1004), 3) := by decide +kernel
theorem dX5_rounds_32 : decode cX5_rounds 32 = .ok (.ireturn, 1) := by decide +kernel
theorem dX5_rounds_33 : decode cX5_rounds 33 = .ok (.aload_n 0, 1) := by decide +kernel
theorem dX5_rounds_34 : decode cX5_rounds 34 = .ok (.getfield 33, 3) := by decide +kernel
theorem dX5_rounds_37 : decode cX5_rounds 37 = .ok (.aload_n 0, 1) := by decide +kernel
theorem dX5_rounds_38 : decode cX5_rounds 38 = .ok (.getfield 10, 3) := by decide +kernel
theorem dX5_rounds_41 : decode cX5_rounds 41 = .ok (.invokevirtual 52, 3) := by decide +kernel
theorem dX5_rounds_44 : decode cX5_rounds 44 = .ok (.aload_n 0, 1) := by decide +kernel
theorem dX5_rounds_45 : decode cX5_rounds 45 = .ok (.getfield 19, 3) := by decide +kernel
theorem dX5_rounds_48 : decode cX5_rounds 48 = .ok (.aload_n 0, 1) := by decide +kernel
theorem dX5_rounds_49 : decode cX5_rounds 49 = .ok (.getfield 10, 3) := by decide +kernel
theorem dX5_rounds_52 : decode cX5_rounds 52 = .ok (.invokevirtual 108, 3) := by decide +kernel
theorem dX5_rounds_55 : decode cX5_rounds 55 = .ok (.aload_n 0, 1) := by decide +kernel
theorem dX5_rounds_56 : decode cX5_rounds 56 = .ok (.getfield 19, 3) := by decide +kernel
theorem dX5_rounds_59 : decode cX5_rounds 59 = .ok (.iload_n 1, 1) := by decide +kernel
theorem dX5_rounds_60 : decode cX5_rounds 60 = .ok (.invokevirtual 111, 3) := by decide +kernel
theorem dX5_rounds_63 : decode cX5_rounds 63 = .ok (.istore_n 2, 1) := by decide +kernel
theorem dX5_rounds_64 : decode cX5_rounds 64 = .ok (.aload_n 0, 1) := by decide +kernel
theorem dX5_rounds_65 : decode cX5_rounds 65 = .ok (.getfield 10, 3) := by decide +kernel
theorem dX5_rounds_68 : decode cX5_rounds 68 = .ok (.aload_n 0, 1) := by decide +kernel
theorem dX5_rounds_69 : decode cX5_rounds 69 = .ok (.getfield 19, 3) := by decide +kernel
theorem dX5_rounds_72 : decode cX5_rounds 72 = .ok (.getfield 114, 3) := by decide +kernel
theorem dX5_rounds_75 : decode cX5_rounds 75 = .ok (.invokevirtual 117, 3) := by decide +kernel
theorem dX5_rounds_78 : decode cX5_rounds 78 = .ok (.iload_n 2, 1) := by decide +kernel
theorem dX5_rounds_79 : decode cX5_rounds 79 = .ok (.ireturn, 1) := by decide +kernel
set_option maxRecDepth 20000 in
theorem ggX5_wayLength_X5_hasWay : GoodIn wsX5_wayLength wsX5_hasWay := goodIn_r _ [6, 1, 7, 8, 9, 10, 11, 12, 13, 5, 14, 23, 24, 25, 26, 27, 28, 29, 30, 31, 32, 33, 34] (by decide +kernel) (by decide +kernel)
set_option maxRecDepth 20000 in
theorem gX5_wayLength_X5_hasWay : GoodIn wsX5_wayLength (wsV RX5 120 RX5 yX5_hasWay wsX5_hasWay) := goodIn_app (goodIn_of _ (by decide +kernel)) ggX5_wayLength_X5_hasWay
set_option maxRecDepth 20000 in
theorem ggX5_wayLength_X5_wayOf : GoodIn wsX5_wayLength wsX5_wayOf := goodIn_r _ [17] (by decide +kernel) (by decide +kernel)
set_option maxRecDepth 20000 in
theorem gX5_wayLength_X5_wayOf : GoodIn wsX5_wayLength (va_wsS RX5 123 yX5_wayOf wsX5_wayOf) := goodIn_app (goodIn_of _ (by decide +kernel)) ggX5_wayLength_X5_wayOf
set_option maxRecDepth 20000 in
theorem ggX5_wayLength_X1_lengthOf : GoodIn wsX5_wayLength wsX1_lengthOf := goodIn_r _ [21, 22, 13, 5, 14, 28, 29, 30, 31, 32, 33, 34] (by decide +kernel) (by decide +kernel)
set_option maxRecDepth 20000 in
theorem gX5_wayLength_X1_lengthOf : GoodIn wsX5_wayLength (wsV RX5 126 RX1 yX1_lengthOf wsX1_lengthOf) := goodIn_app (goodIn_of _ (by decide +kernel)) ggX5_wayLength_X1_lengthOf
theorem dX5_wayLength_0 : decode cX5_wayLength 0 = .ok (.aload_n 0, 1) := by decide +kernel
theorem dX5_wayLength_1 : decode cX5_wayLength 1 = .ok (.iload_n 1, 1) := by decide +kernel
theorem dX5_wayLength_2 : decode cX5_wayLength 2 = .ok (.iload_n 2, 1) := by decide +kernel
theorem dX5_wayLength_3 : decode cX5_wayLength 3 = .ok (.invokevirtual 120, 3) := by decide +kernel
theorem dX5_wayLength_6 : decode cX5_wayLength 6 = .ok (.ifCond .eq 18, 3) := by decide +kernel
theorem dX5_wayLength_9 : decode cX5_wayLength 9 = .ok (.aload_n 0, 1) := by decide +kernel
theorem dX5_wayLength_10 : decode cX5_wayLength 10 = .ok (.getfield 10, 3) := by decide +kernel
theorem dX5_wayLength_13 : decode cX5_wayLength 13 = .ok (.iload_n 1, 1) := by decide +kernel
theorem dX5_wayLength_14 : decode cX5_wayLength 14 = .ok (.iload_n 2, 1) := by decide +kernel
theorem dX5_wayLength_15 : decode cX5_wayLength 15 = .ok (.invokestatic 123, 3) := by decide +kernel
theorem dX5_wayLength_18 : decode cX5_wayLength 18 = .ok (.invokevirtual 126, 3) := by decide +kernel
theorem dX5_wayLength_21 : decode cX5_wayLength 21 = .ok (.goto 6, 3) := by decide +kernel
theorem dX5_wayLength_24 : decode cX5_wayLength 24 = .ok (.sipush (-1001), 3) := by decide +kernel
theorem dX5_wayLength_27 : decode cX5_wayLength 27 = .ok (.ireturn, 1) := by decide +kernel
set_option maxRecDepth 20000 in
theorem ggX5_wayNode_X5_hasWay : GoodIn wsX5_wayNode wsX5_hasWay := goodIn_r _ [6, 1, 7, 8, 9, 10, 11, 12, 13, 5, 14, 28, 29, 30, 31, 32, 33, 34, 35, 36, 37, 38, 39] (by decide +kernel) (by decide +kernel)
set_option maxRecDepth 20000 in
theorem gX5_wayNode_X5_hasWay : GoodIn wsX5_wayNode (wsV RX5 120 RX5 yX5_hasWay wsX5_hasWay) := goodIn_app (goodIn_of _ (by decide +kernel)) ggX5_wayNode_X5_hasWay
set_option maxRecDepth 20000 in
theorem ggX5_wayNode_X5_wayOf : GoodIn wsX5_wayNode wsX5_wayOf := goodIn_r _ [17] (by decide +kernel) (by decide +kernel)
set_option maxRecDepth 20000 in
theorem gX5_wayNode_X5_wayOf : GoodIn wsX5_wayNode (va_wsS RX5 123 yX5_wayOf wsX5_wayOf) := goodIn_app (goodIn_of _ (by decide +kernel)) ggX5_wayNode_X5_wayOf
set_option maxRecDepth 20000 in
theorem ggX5_wayNode_X1_lengthOf : GoodIn wsX5_wayNode wsX1_lengthOf := goodIn_r _ [21, 22, 13, 5, 14, 33, 34, 35, 36, 37, 38, 39] (by decide +kernel) (by decide +kernel)
set_option maxRecDepth 20000 in
theorem gX5_wayNode_X1_lengthOf : GoodIn wsX5_wayNode (wsV RX5 126 RX1 yX1_lengthOf wsX1_lengthOf) := goodIn_app (goodIn_of _ (by decide +kernel)) ggX5_wayNode_X1_lengthOf
set_option maxRecDepth 20000 in
theorem ggX5_wayNode_X1_nodeOf : GoodIn wsX5_wayNode wsX1_nodeOf := goodIn_r _ [26, 27, 13, 5, 14, 33, 34, 35, 36, 37, 38, 39] (by decide +kernel) (by decide +kernel)
set_option maxRecDepth 20000 in
theorem gX5_wayNode_X1_nodeOf : GoodIn wsX5_wayNode (wsV RX5 129 RX1 yX1_nodeOf wsX1_nodeOf) := goodIn_app (goodIn_of _ (by decide +kernel)) ggX5_wayNode_X1_nodeOf
theorem dX5_wayNode_0 : decode cX5_wayNode 0 = .ok (.aload_n 0, 1) := by decide +kernel
theorem dX5_wayNode_1 : decode cX5_wayNode 1 = .ok (.iload_n 1, 1) := by decide +kernel
theorem dX5_wayNode_2 : decode cX5_wayNode 2 = .ok (.iload_n 2, 1) := by decide +kernel
theorem dX5_wayNode_3 : decode cX5_wayNode 3 = .ok (.invokevirtual 120, 3) := by decide +kernel
theorem dX5_wayNode_6 : decode cX5_wayNode 6 = .ok (.ifCond .ne 7, 3) := by decide +kernel
theorem dX5_wayNode_9 : decode cX5_wayNode 9 = .ok (.sipush (-1001), 3) := by decide +kernel
theorem dX5_wayNode_12 : decode cX5_wayNode 12 = .ok (.ireturn, 1) := by decide +kernel
theorem dX5_wayNode_13 : decode cX5_wayNode 13 = .ok (.iload_n 3, 1) := by decide +kernel
theorem dX5_wayNode_14 : decode cX5_wayNode 14 = .ok (.ifCond .ge 7, 3) := by decide +kernel
theorem dX5_wayNode_17 : decode cX5_wayNode 17 = .ok (.sipush (-1002), 3) := by decide +kernel
theorem dX5_wayNode_20 : decode cX5_wayNode 20 = .ok (.ireturn, 1) := by decide +kernel
theorem dX5_wayNode_21 : decode cX5_wayNode 21 = .ok (.iload_n 1, 1) := by decide +kernel
theorem dX5_wayNode_22 : decode cX5_wayNode 22 = .ok (.iload_n 2, 1) := by decide +kernel
theorem dX5_wayNode_23 : decode cX5_wayNode 23 = .ok (.invokestatic 123, 3) := by decide +kernel
theorem dX5_wayNode_26 : decode cX5_wayNode 26 = .ok (.istore 4, 2) := by decide +kernel
theorem dX5_wayNode_28 : decode cX5_wayNode 28 = .ok (.iload_n 3, 1) := by decide +kernel
theorem dX5_wayNode_29 : decode cX5_wayNode 29 = .ok (.aload_n 0, 1) := by decide +kernel
theorem dX5_wayNode_30 : decode cX5_wayNode 30 = .ok (.getfield 10, 3) := by decide +kernel
theorem dX5_wayNode_33 : decode cX5_wayNode 33 = .ok (.iload 4, 2) := by decide +kernel
theorem dX5_wayNode_35 : decode cX5_wayNode 35 = .ok (.invokevirtual 126, 3) := by decide +kernel
theorem dX5_wayNode_38 : decode cX5_wayNode 38 = .ok (.if_icmp .ge 16, 3) := by decide +kernel
theorem dX5_wayNode_41 : decode cX5_wayNode 41 = .ok (.aload_n 0, 1) := by decide +kernel
theorem dX5_wayNode_42 : decode cX5_wayNode 42 = .ok (.getfield 10, 3) := by decide +kernel
theorem dX5_wayNode_45 : decode cX5_wayNode 45 = .ok (.iload 4, 2) := by decide +kernel
theorem dX5_wayNode_47 : decode cX5_wayNode 47 = .ok (.iload_n 3, 1) := by decide +kernel
theorem dX5_wayNode_48 : decode cX5_wayNode 48 = .ok (.invokevirtual 129, 3) := by decide +kernel
theorem dX5_wayNode_51 : decode cX5_wayNode 51 = .ok (.goto 6, 3) := by decide +kernel
theorem dX5_wayNode_54 : decode cX5_wayNode 54 = .ok (.sipush (-1000), 3) := by decide +kernel
theorem dX5_wayNode_57 : decode cX5_wayNode 57 = .ok (.ireturn, 1) := by decide +kernel
set_option maxRecDepth 20000 in
theorem ggX5_isWhole_X5_hasWay : GoodIn wsX5_isWhole wsX5_hasWay := goodIn_r _ [7, 2, 8, 9, 10, 11, 12, 13, 14, 6, 15, 74, 75, 76, 77, 78, 79, 80, 81, 82, 83, 84, 85] (by decide +kernel) (by decide +kernel)
set_option maxRecDepth 20000 in
theorem gX5_isWhole_X5_hasWay : GoodIn wsX5_isWhole (wsV RX5 120 RX5 yX5_hasWay wsX5_hasWay) := goodIn_app (goodIn_of _ (by decide +kernel)) ggX5_isWhole_X5_hasWay
set_option maxRecDepth 20000 in
theorem ggX5_isWhole_X2_learn : GoodIn wsX5_isWhole wsX2_learn := goodIn_r _ [20, 21, 22, 23, 24, 25, 26, 27, 28, 29, 11, 30, 13, 31, 32, 33, 34, 35, 14, 6, 15, 36, 37, 38, 39, 40, 41, 42, 43, 44, 45, 46, 47, 48, 49, 86, 87, 88, 89, 90, 79, 80, 81, 82, 83, 84, 85] (by decide +kernel) (by decide +kernel)
set_option maxRecDepth 20000 in
theorem gX5_isWhole_X2_learn : GoodIn wsX5_isWhole (wsV RX5 132 RX2 yX2_learn wsX2_learn) := goodIn_app (goodIn_of _ (by decide +kernel)) ggX5_isWhole_X2_learn
set_option maxRecDepth 20000 in
theorem ggX5_isWhole_X5_wayOf : GoodIn wsX5_isWhole wsX5_wayOf := goodIn_r _ [52] (by decide +kernel) (by decide +kernel)
set_option maxRecDepth 20000 in
theorem gX5_isWhole_X5_wayOf : GoodIn wsX5_isWhole (va_wsS RX5 123 yX5_wayOf wsX5_wayOf) := goodIn_app (goodIn_of _ (by decide +kernel)) ggX5_isWhole_X5_wayOf
set_option maxRecDepth 20000 in
theorem ggX5_isWhole_X1_aliveNodes : GoodIn wsX5_isWhole wsX1_aliveNodes := goodIn_r _ [34, 13, 35, 14, 6, 15, 79, 80, 81, 82, 83, 84, 85] (by decide +kernel) (by decide +kernel)
set_option maxRecDepth 20000 in
theorem gX5_isWhole_X1_aliveNodes : GoodIn wsX5_isWhole (wsV RX5 135 RX1 yX1_aliveNodes wsX1_aliveNodes) := goodIn_app (goodIn_of _ (by decide +kernel)) ggX5_isWhole_X1_aliveNodes
set_option maxRecDepth 20000 in
theorem ggX5_isWhole_X2_carry : GoodIn wsX5_isWhole wsX2_carry := goodIn_r _ [57, 58, 59, 60, 11, 61, 62, 14, 6, 15, 63, 64, 65, 66, 67, 68, 69, 70, 71, 72, 19, 73, 21, 79, 80, 81, 82, 83, 84, 85, 86, 87, 88, 89, 90] (by decide +kernel) (by decide +kernel)
set_option maxRecDepth 20000 in
theorem gX5_isWhole_X2_carry : GoodIn wsX5_isWhole (wsV RX5 139 RX2 yX2_carry wsX2_carry) := goodIn_app (goodIn_of _ (by decide +kernel)) ggX5_isWhole_X2_carry
theorem dX5_isWhole_0 : decode cX5_isWhole 0 = .ok (.aload_n 0, 1) := by decide +kernel
theorem dX5_isWhole_1 : decode cX5_isWhole 1 = .ok (.iload_n 1, 1) := by decide +kernel
theorem dX5_isWhole_2 : decode cX5_isWhole 2 = .ok (.iload_n 2, 1) := by decide +kernel
theorem dX5_isWhole_3 : decode cX5_isWhole 3 = .ok (.invokevirtual 120, 3) := by decide +kernel
theorem dX5_isWhole_6 : decode cX5_isWhole 6 = .ok (.ifCond .ne 7, 3) := by decide +kernel
theorem dX5_isWhole_9 : decode cX5_isWhole 9 = .ok (.sipush (-1001), 3) := by decide +kernel
theorem dX5_isWhole_12 : decode cX5_isWhole 12 = .ok (.ireturn, 1) := by decide +kernel
theorem dX5_isWhole_13 : decode cX5_isWhole 13 = .ok (.aload_n 0, 1) := by decide +kernel
theorem dX5_isWhole_14 : decode cX5_isWhole 14 = .ok (.getfield 26, 3) := by decide +kernel
theorem dX5_isWhole_17 : decode cX5_isWhole 17 = .ok (.aload_n 0, 1) := by decide +kernel
theorem dX5_isWhole_18 : decode cX5_isWhole 18 = .ok (.getfield 10, 3) := by decide +kernel
theorem dX5_isWhole_21 : decode cX5_isWhole 21 = .ok (.invokevirtual 132, 3) := by decide +kernel
theorem dX5_isWhole_24 : decode cX5_isWhole 24 = .ok (.aload_n 0, 1) := by decide +kernel
theorem dX5_isWhole_25 : decode cX5_isWhole 25 = .ok (.getfield 26, 3) := by decide +kernel
theorem dX5_isWhole_28 : decode cX5_isWhole 28 = .ok (.aload_n 0, 1) := by decide +kernel
theorem dX5_isWhole_29 : decode cX5_isWhole 29 = .ok (.getfield 10, 3) := by decide +kernel
theorem dX5_isWhole_32 : decode cX5_isWhole 32 = .ok (.iload_n 1, 1) := by decide +kernel
theorem dX5_isWhole_33 : decode cX5_isWhole 33 = .ok (.iload_n 2, 1) := by decide +kernel
theorem dX5_isWhole_34 : decode cX5_isWhole 34 = .ok (.invokestatic 123, 3) := by decide +kernel
theorem dX5_isWhole_37 : decode cX5_isWhole 37 = .ok (.aload_n 0, 1) := by decide +kernel
theorem dX5_isWhole_38 : decode cX5_isWhole 38 = .ok (.getfield 10, 3) := by decide +kernel
theorem dX5_isWhole_41 : decode cX5_isWhole 41 = .ok (.invokevirtual 135, 3) := by decide +kernel
theorem dX5_isWhole_44 : decode cX5_isWhole 44 = .ok (.invokevirtual 139, 3) := by decide +kernel
theorem dX5_isWhole_47 : decode cX5_isWhole 47 = .ok (.ifCond .eq 7, 3) := by decide +kernel
theorem dX5_isWhole_50 : decode cX5_isWhole 50 = .ok (.iconst 1, 1) := by decide +kernel
theorem dX5_isWhole_51 : decode cX5_isWhole 51 = .ok (.goto 4, 3) := by decide +kernel
theorem dX5_isWhole_54 : decode cX5_isWhole 54 = .ok (.iconst 0, 1) := by decide +kernel
theorem dX5_isWhole_55 : decode cX5_isWhole 55 = .ok (.ireturn, 1) := by decide +kernel
set_option maxRecDepth 20000 in
theorem ggX5_quickest_X1_has : GoodIn wsX5_quickest wsX1_has := goodIn_r _ [7, 8, 9, 10, 11, 80, 81, 82, 83, 84, 85, 86] (by decide +kernel) (by decide +kernel)
set_option maxRecDepth 20000 in
theorem gX5_quickest_X1_has : GoodIn wsX5_quickest (wsV RX5 59 RX1 yX1_has wsX1_has) := goodIn_app (goodIn_of _ (by decide +kernel)) ggX5_quickest_X1_has
set_option maxRecDepth 20000 in
theorem ggX5_quickest_X1_aliveNodes : GoodIn wsX5_quickest wsX1_aliveNodes := goodIn_r _ [15, 8, 16, 9, 10, 11, 80, 81, 82, 83, 84, 85, 86] (by decide +kernel) (by decide +kernel)
set_option maxRecDepth 20000 in
theorem gX5_quickest_X1_aliveNodes : GoodIn wsX5_quickest (wsV RX5 135 RX1 yX1_aliveNodes wsX1_aliveNodes) := goodIn_app (goodIn_of _ (by decide +kernel)) ggX5_quickest_X1_aliveNodes
set_option maxRecDepth 20000 in
theorem ggX5_quickest_X5_holds : GoodIn wsX5_quickest wsX5_holds := goodIn_r _ [19] (by decide +kernel) (by decide +kernel)
set_option maxRecDepth 20000 in
theorem gX5_quickest_X5_holds : GoodIn wsX5_quickest (va_wsS RX5 143 yX5_holds wsX5_holds) := goodIn_app (goodIn_of _ (by decide +kernel)) ggX5_quickest_X5_holds
set_option maxRecDepth 20000 in
theorem ggX5_quickest_X2_learn : GoodIn wsX5_quickest wsX2_learn := goodIn_r _ [24, 25, 26, 27, 28, 29, 30, 31, 32, 33, 6, 34, 8, 35, 13, 14, 15, 16, 9, 10, 11, 36, 37, 38, 39, 40, 41, 42, 43, 44, 45, 46, 47, 48, 49, 87, 88, 89, 90, 91, 80, 81, 82, 83, 84, 85, 86] (by decide +kernel) (by decide +kernel)
set_option maxRecDepth 20000 in
theorem gX5_quickest_X2_learn : GoodIn wsX5_quickest (wsV RX5 132 RX2 yX2_learn wsX2_learn) := goodIn_app (goodIn_of _ (by decide +kernel)) ggX5_quickest_X2_learn
set_option maxRecDepth 20000 in
theorem ggX5_quickest_X2_explore : GoodIn wsX5_quickest wsX2_explore := goodIn_r _ [53, 26, 54, 55, 56, 9, 10, 11, 48, 49, 57, 58, 59, 23, 60, 61, 25, 18, 19, 62, 63, 64, 65, 66, 67, 68, 69, 87, 88, 89, 90, 91] (by decide +kernel) (by decide +kernel)
set_option maxRecDepth 20000 in
theorem gX5_quickest_X2_explore : GoodIn wsX5_quickest (wsV RX5 146 RX2 yX2_explore wsX2_explore) := goodIn_app (goodIn_of _ (by decide +kernel)) ggX5_quickest_X2_explore
set_option maxRecDepth 20000 in
theorem ggX5_quickest_X2_reachedFrom : GoodIn wsX5_quickest wsX2_reachedFrom := goodIn_r _ [73, 56, 9, 10, 11, 87, 88, 89, 90, 91] (by decide +kernel) (by decide +kernel)
set_option maxRecDepth 20000 in
theorem gX5_quickest_X2_reachedFrom : GoodIn wsX5_quickest (wsV RX5 149 RX2 yX2_reachedFrom wsX2_reachedFrom) := goodIn_app (goodIn_of _ (by decide +kernel)) ggX5_quickest_X2_reachedFrom
set_option maxRecDepth 20000 in
theorem ggX5_quickest_X2_timeOf : GoodIn wsX5_quickest wsX2_timeOf := goodIn_r _ [69, 61, 9, 10, 11, 87, 88, 89, 90, 91] (by decide +kernel) (by decide +kernel)
set_option maxRecDepth 20000 in
theorem gX5_quickest_X2_timeOf : GoodIn wsX5_quickest (wsV RX5 152 RX2 yX2_timeOf wsX2_timeOf) := goodIn_app (goodIn_of _ (by decide +kernel)) ggX5_quickest_X2_timeOf
theorem dX5_quickest_0 : decode cX5_quickest 0 = .ok (.aload_n 0, 1) := by decide +kernel
theorem dX5_quickest_1 : decode cX5_quickest 1 = .ok (.getfield 10, 3) := by decide +kernel
theorem dX5_quickest_4 : decode cX5_quickest 4 = .ok (.iconst 0, 1) := by decide +kernel
theorem dX5_quickest_5 : decode cX5_quickest 5 = .ok (.iload_n 1, 1) := by decide +kernel
theorem dX5_quickest_6 : decode cX5_quickest 6 = .ok (.invokevirtual 59, 3) := by decide +kernel
theorem dX5_quickest_9 : decode cX5_quickest 9 = .ok (.ifCond .eq 15, 3) := by decide +kernel
theorem dX5_quickest_12 : decode cX5_quickest 12 = .ok (.aload_n 0, 1) := by decide +kernel
theorem dX5_quickest_13 : decode cX5_quickest 13 = .ok (.getfield 10, 3) := by decide +kernel
theorem dX5_quickest_16 : decode cX5_quickest 16 = .ok (.iconst 0, 1) := by decide +kernel
theorem dX5_quickest_17 : decode cX5_quickest 17 = .ok (.iload_n 2, 1) := by decide +kernel
theorem dX5_quickest_18 : decode cX5_quickest 18 = .ok (.invokevirtual 59, 3) := by decide +kernel
theorem dX5_quickest_21 : decode cX5_quickest 21 = .ok (.ifCond .ne 7, 3) := by decide +kernel
theorem dX5_quickest_24 : decode cX5_quickest 24 = .ok (.sipush (-1001), 3) := by decide +kernel
theorem dX5_quickest_27 : decode cX5_quickest 27 = .ok (.ireturn, 1) := by decide +kernel
theorem dX5_quickest_28 : decode cX5_quickest 28 = .ok (.aload_n 0, 1) := by decide +kernel
theorem dX5_quickest_29 : decode cX5_quickest 29 = .ok (.getfield 10, 3) := by decide +kernel
theorem dX5_quickest_32 : decode cX5_quickest 32 = .ok (.invokevirtual 135, 3) := by decide +kernel
theorem dX5_quickest_35 : decode cX5_quickest 35 = .ok (.istore_n 3, 1) := by decide +kernel
theorem dX5_quickest_36 : decode cX5_quickest 36 = .ok (.iload_n 3, 1) := by decide +kernel
theorem dX5_quickest_37 : decode cX5_quickest 37 = .ok (.iload_n 1, 1) := by decide +kernel
theorem dX5_quickest_38 : decode cX5_quickest 38 = .ok (.invokestatic 143, 3) := by decide +kernel
theorem dX5_quickest_41 : decode cX5_quickest 41 = .ok (.ifCond .eq 11, 3) := by decide +kernel
theorem dX5_quickest_44 : decode cX5_quickest 44 = .ok (.iload_n 3, 1) := by decide +kernel
theorem dX5_quickest_45 : decode cX5_quickest 45 = .ok (.iload_n 2, 1) := by decide +kernel
theorem dX5_quickest_46 : decode cX5_quickest 46 = .ok (.invokestatic 143, 3) := by decide +kernel
theorem dX5_quickest_49 : decode cX5_quickest 49 = .ok (.ifCond .ne 7, 3) := by decide +kernel
theorem dX5_quickest_52 : decode cX5_quickest 52 = .ok (.sipush (-1000), 3) := by decide +kernel
theorem dX5_quickest_55 : decode cX5_quickest 55 = .ok (.ireturn, 1) := by decide +kernel
theorem dX5_quickest_56 : decode cX5_quickest 56 = .ok (.aload_n 0, 1) := by decide +kernel
theorem dX5_quickest_57 : decode cX5_quickest 57 = .ok (.getfield 26, 3) := by decide +kernel
theorem dX5_quickest_60 : decode cX5_quickest 60 = .ok (.aload_n 0, 1) := by decide +kernel
theorem dX5_quickest_61 : decode cX5_quickest 61 = .ok (.getfield 10, 3) := by decide +kernel
theorem dX5_quickest_64 : decode cX5_quickest 64 = .ok (.invokevirtual 132, 3) := by decide +kernel
theorem dX5_quickest_67 : decode cX5_quickest 67 = .ok (.aload_n 0, 1) := by decide +kernel
theorem dX5_quickest_68 : decode cX5_quickest 68 = .ok (.getfield 26, 3) := by decide +kernel
theorem dX5_quickest_71 : decode cX5_quickest 71 = .ok (.iload_n 1, 1) := by decide +kernel
theorem dX5_quickest_72 : decode cX5_quickest 72 = .ok (.iload_n 3, 1) := by decide +kernel
theorem dX5_quickest_73 : decode cX5_quickest 73 = .ok (.invokevirtual 146, 3) := by decide +kernel
theorem dX5_quickest_76 : decode cX5_quickest 76 = .ok (.aload_n 0, 1) := by decide +kernel
theorem dX5_quickest_77 : decode cX5_quickest 77 = .ok (.getfield 26, 3) := by decide +kernel
theorem dX5_quickest_80 : decode cX5_quickest 80 = .ok (.iload_n 1, 1) := by decide +kernel
theorem dX5_quickest_81 : decode cX5_quickest 81 = .ok (.invokevirtual 149, 3) := by decide +kernel
theorem dX5_quickest_84 : decode cX5_quickest 84 = .ok (.iload_n 2, 1) := by decide +kernel
theorem dX5_quickest_85 : decode cX5_quickest 85 = .ok (.invokestatic 143, 3) := by decide +kernel
theorem dX5_quickest_88 : decode cX5_quickest 88 = .ok (.ifCond .eq 15, 3) := by decide +kernel
theorem dX5_quickest_91 : decode cX5_quickest 91 = .ok (.aload_n 0, 1) := by decide +kernel
theorem dX5_quickest_92 : decode cX5_quickest 92 = .ok (.getfield 26, 3) := by decide +kernel
theorem dX5_quickest_95 : decode cX5_quickest 95 = .ok (.iload_n 1, 1) := by decide +kernel
theorem dX5_quickest_96 : decode cX5_quickest 96 = .ok (.iload_n 2, 1) := by decide +kernel
theorem dX5_quickest_97 : decode cX5_quickest 97 = .ok (.invokevirtual 152, 3) := by decide +kernel
theorem dX5_quickest_100 : decode cX5_quickest 100 = .ok (.goto 6, 3) := by decide +kernel
theorem dX5_quickest_103 : decode cX5_quickest 103 = .ok (.sipush (-1000), 3) := by decide +kernel
theorem dX5_quickest_106 : decode cX5_quickest 106 = .ok (.ireturn, 1) := by decide +kernel
set_option maxRecDepth 20000 in
theorem ggX5_load_X1_has : GoodIn wsX5_load wsX1_has := goodIn_r _ [6, 7, 8, 9, 10, 36, 37, 38, 39, 40, 41, 42] (by decide +kernel) (by decide +kernel)
set_option maxRecDepth 20000 in
theorem gX5_load_X1_has : GoodIn wsX5_load (wsV RX5 59 RX1 yX1_has wsX1_has) := goodIn_app (goodIn_of _ (by decide +kernel)) ggX5_load_X1_has
set_option maxRecDepth 20000 in
theorem ggX5_load_X1_partOfLink : GoodIn wsX5_load wsX1_partOfLink := goodIn_r _ [14, 15, 8, 9, 10, 36, 37, 38, 39, 40, 41, 42] (by decide +kernel) (by decide +kernel)
set_option maxRecDepth 20000 in
theorem gX5_load_X1_partOfLink : GoodIn wsX5_load (wsV RX5 102 RX1 yX1_partOfLink wsX1_partOfLink) := goodIn_app (goodIn_of _ (by decide +kernel)) ggX5_load_X1_partOfLink
set_option maxRecDepth 20000 in
theorem ggX5_load_X1_waysOver : GoodIn wsX5_load wsX1_waysOver := goodIn_r _ [19, 7, 8, 9, 10, 20, 21, 22, 23, 24, 5, 25, 26, 27, 28, 29, 30, 36, 37, 38, 39, 40, 41, 42] (by decide +kernel) (by decide +kernel)
set_option maxRecDepth 20000 in
theorem gX5_load_X1_waysOver : GoodIn wsX5_load (wsV RX5 155 RX1 yX1_waysOver wsX1_waysOver) := goodIn_app (goodIn_of _ (by decide +kernel)) ggX5_load_X1_waysOver
theorem dX5_load_0 : decode cX5_load 0 = .ok (.aload_n 0, 1) := by decide +kernel
theorem dX5_load_1 : decode cX5_load 1 = .ok (.getfield 10, 3) := by decide +kernel
theorem dX5_load_4 : decode cX5_load 4 = .ok (.iconst 1, 1) := by decide +kernel
theorem dX5_load_5 : decode cX5_load 5 = .ok (.iload_n 1, 1) := by decide +kernel
theorem dX5_load_6 : decode cX5_load 6 = .ok (.invokevirtual 59, 3) := by decide +kernel
theorem dX5_load_9 : decode cX5_load 9 = .ok (.ifCond .ne 7, 3) := by decide +kernel
theorem dX5_load_12 : decode cX5_load 12 = .ok (.sipush (-1001), 3) := by decide +kernel
theorem dX5_load_15 : decode cX5_load 15 = .ok (.ireturn, 1) := by decide +kernel
theorem dX5_load_16 : decode cX5_load 16 = .ok (.aload_n 0, 1) := by decide +kernel
theorem dX5_load_17 : decode cX5_load 17 = .ok (.getfield 10, 3) := by decide +kernel
theorem dX5_load_20 : decode cX5_load 20 = .ok (.aload_n 0, 1) := by decide +kernel
theorem dX5_load_21 : decode cX5_load 21 = .ok (.getfield 10, 3) := by decide +kernel
theorem dX5_load_24 : decode cX5_load 24 = .ok (.iload_n 1, 1) := by decide +kernel
theorem dX5_load_25 : decode cX5_load 25 = .ok (.iconst 0, 1) := by decide +kernel
theorem dX5_load_26 : decode cX5_load 26 = .ok (.invokevirtual 102, 3) := by decide +kernel
theorem dX5_load_29 : decode cX5_load 29 = .ok (.aload_n 0, 1) := by decide +kernel
theorem dX5_load_30 : decode cX5_load 30 = .ok (.getfield 10, 3) := by decide +kernel
theorem dX5_load_33 : decode cX5_load 33 = .ok (.iload_n 1, 1) := by decide +kernel
theorem dX5_load_34 : decode cX5_load 34 = .ok (.iconst 1, 1) := by decide +kernel
theorem dX5_load_35 : decode cX5_load 35 = .ok (.invokevirtual 102, 3) := by decide +kernel
theorem dX5_load_38 : decode cX5_load 38 = .ok (.invokevirtual 155, 3) := by decide +kernel
theorem dX5_load_41 : decode cX5_load 41 = .ok (.ireturn, 1) := by decide +kernel
set_option maxRecDepth 20000 in
theorem ggX5_firstDeath_X1_number : GoodIn wsX5_firstDeath wsX1_number := goodIn_r _ [7, 8, 9, 10, 11, 6, 12, 13, 14, 15, 16, 17, 18, 19, 20, 21, 22, 23, 229, 230, 231, 232, 233, 234, 235] (by decide +kernel) (by decide +kernel)
set_option maxRecDepth 20000 in
theorem gX5_firstDeath_X1_number : GoodIn wsX5_firstDeath (wsV RX5 48 RX1 yX1_number wsX1_number) := goodIn_app (goodIn_of _ (by decide +kernel)) ggX5_firstDeath_X1_number
set_option maxRecDepth 20000 in
theorem ggX5_firstDeath_X3_start : GoodIn wsX5_firstDeath wsX3_start := goodIn_r _ [28, 29, 30, 31, 32, 33, 6, 34, 8, 13, 35, 36, 37, 38, 39, 40, 15, 41, 42, 43, 44, 45, 46, 47, 48, 49, 50, 51, 52, 53, 54, 55, 56, 57, 58, 59, 60, 61, 4, 5, 7, 9, 10, 11, 12, 14, 16, 17, 18, 19, 20, 21, 22, 23, 62, 63, 64, 65, 66, 67, 225, 226, 227, 228, 229, 230, 231, 232, 233, 234, 235, 236, 237, 238, 239, 240] (by decide +kernel) (by decide +kernel)
set_option maxRecDepth 20000 in
theorem gX5_firstDeath_X3_start : GoodIn wsX5_firstDeath (wsV RX5 108 RX3 yX3_start wsX3_start) := goodIn_app (goodIn_of _ (by decide +kernel)) ggX5_firstDeath_X3_start
set_option maxRecDepth 20000 in
theorem ggX5_firstDeath_X3_run : GoodIn wsX5_firstDeath wsX3_run := goodIn_r _ [71, 29, 72, 73, 74, 75, 6, 76, 8, 14, 15, 16, 77, 78, 79, 80, 37, 81, 82, 83, 84, 38, 85, 86, 87, 88, 89, 90, 39, 91, 92, 93, 94, 66, 67, 95, 96, 97, 58, 59, 60, 98, 4, 5, 7, 9, 10, 11, 12, 13, 17, 18, 19, 20, 21, 22, 23, 99, 100, 101, 27, 102, 30, 103, 104, 105, 106, 36, 107, 108, 109, 110, 111, 112, 113, 114, 115, 116, 117, 118, 119, 120, 121, 122, 123, 124, 125, 126, 127, 128, 53, 129, 130, 131, 132, 133, 134, 135, 136, 137, 138, 139, 140, 141, 55, 142, 143, 144, 145, 146, 147, 44, 148, 149, 150, 151, 152, 153, 56, 154, 155, 156, 157, 158, 159, 160, 161, 162, 163, 164, 165, 166, 167, 168, 169, 170, 171, 172, 173, 174, 175, 176, 177, 178, 43, 45, 179, 180, 181, 182, 183, 184, 185, 186, 187, 188, 189, 190, 191, 192, 193, 194, 195, 196, 197, 198, 199, 200, 201, 202, 203, 204, 205, 206, 207, 208, 209, 210, 211, 212, 213, 214, 215, 216, 217, 218, 219, 225, 226, 227, 228, 229, 230, 231, 232, 233, 234, 235, 236, 237, 238, 239, 240] (by decide +kernel) (by decide +kernel)
set_option maxRecDepth 20000 in
theorem gX5_firstDeath_X3_run : GoodIn wsX5_firstDeath (wsV RX5 111 RX3 yX3_run wsX3_run) := goodIn_app (goodIn_of _ (by decide +kernel)) ggX5_firstDeath_X3_run
theorem dX5_firstDeath_0 : decode cX5_firstDeath 0 = .ok (.aload_n 0, 1) := by decide +kernel
theorem dX5_firstDeath_1 : decode cX5_firstDeath 1 = .ok (.getfield 10, 3) := by decide +kernel
theorem dX5_firstDeath_4 : decode cX5_firstDeath 4 = .ok (.bipush 6, 2) := by decide +kernel
theorem dX5_firstDeath_6 : decode cX5_firstDeath 6 = .ok (.invokevirtual 48, 3) := by decide +kernel
theorem dX5_firstDeath_9 : decode cX5_firstDeath 9 = .ok (.istore_n 1, 1) := by decide +kernel
theorem dX5_firstDeath_10 : decode cX5_firstDeath 10 = .ok (.aload_n 0, 1) := by decide +kernel
theorem dX5_firstDeath_11 : decode cX5_firstDeath 11 = .ok (.getfield 19, 3) := by decide +kernel
theorem dX5_firstDeath_14 : decode cX5_firstDeath 14 = .ok (.aload_n 0, 1) := by decide +kernel
theorem dX5_firstDeath_15 : decode cX5_firstDeath 15 = .ok (.getfield 10, 3) := by decide +kernel
theorem dX5_firstDeath_18 : decode cX5_firstDeath 18 = .ok (.invokevirtual 108, 3) := by decide +kernel
theorem dX5_firstDeath_21 : decode cX5_firstDeath 21 = .ok (.iconst 1, 1) := by decide +kernel
theorem dX5_firstDeath_22 : decode cX5_firstDeath 22 = .ok (.istore_n 2, 1) := by decide +kernel
theorem dX5_firstDeath_23 : decode cX5_firstDeath 23 = .ok (.iload_n 2, 1) := by decide +kernel
theorem dX5_firstDeath_24 : decode cX5_firstDeath 24 = .ok (.sipush 500, 3) := by decide +kernel
theorem dX5_firstDeath_27 : decode cX5_firstDeath 27 = .ok (.if_icmp .gt 36, 3) := by decide +kernel
theorem dX5_firstDeath_30 : decode cX5_firstDeath 30 = .ok (.aload_n 0, 1) := by decide +kernel
theorem dX5_firstDeath_31 : decode cX5_firstDeath 31 = .ok (.getfield 19, 3) := by decide +kernel
theorem dX5_firstDeath_34 : decode cX5_firstDeath 34 = .ok (.iconst 1, 1) := by decide +kernel
theorem dX5_firstDeath_35 : decode cX5_firstDeath 35 = .ok (.invokevirtual 111, 3) := by decide +kernel
theorem dX5_firstDeath_38 : decode cX5_firstDeath 38 = .ok (.pop, 1) := by decide +kernel
theorem dX5_firstDeath_39 : decode cX5_firstDeath 39 = .ok (.aload_n 0, 1) := by decide +kernel
theorem dX5_firstDeath_40 : decode cX5_firstDeath 40 = .ok (.getfield 19, 3) := by decide +kernel
theorem dX5_firstDeath_43 : decode cX5_firstDeath 43 = .ok (.getfield 114, 3) := by decide +kernel
theorem dX5_firstDeath_46 : decode cX5_firstDeath 46 = .ok (.bipush 6, 2) := by decide +kernel
theorem dX5_firstDeath_48 : decode cX5_firstDeath 48 = .ok (.invokevirtual 48, 3) := by decide +kernel
theorem dX5_firstDeath_51 : decode cX5_firstDeath 51 = .ok (.iload_n 1, 1) := by decide +kernel
theorem dX5_firstDeath_52 : decode cX5_firstDeath 52 = .ok (.if_icmp .ge 5, 3) := by decide +kernel
theorem dX5_firstDeath_55 : decode cX5_firstDeath 55 = .ok (.iload_n 2, 1) := by decide +kernel
theorem dX5_firstDeath_56 : decode cX5_firstDeath 56 = .ok (.ireturn, 1) := by decide +kernel
theorem dX5_firstDeath_57 : decode cX5_firstDeath 57 = .ok (.iinc 2 1, 3) := by decide +kernel
theorem dX5_firstDeath_60 : decode cX5_firstDeath 60 = .ok (.goto (-37), 3) := by decide +kernel
theorem dX5_firstDeath_63 : decode cX5_firstDeath 63 = .ok (.sipush (-1000), 3) := by decide +kernel
theorem dX5_firstDeath_66 : decode cX5_firstDeath 66 = .ok (.ireturn, 1) := by decide +kernel
set_option maxRecDepth 20000 in
theorem ggX5_willDeliver_X5_isWithin : GoodIn wsX5_willDeliver wsX5_isWithin := goodIn_r _ [6] (by decide +kernel) (by decide +kernel)
set_option maxRecDepth 20000 in
theorem gX5_willDeliver_X5_isWithin : GoodIn wsX5_willDeliver (va_wsS RX5 44 yX5_isWithin wsX5_isWithin) := goodIn_app (goodIn_of _ (by decide +kernel)) ggX5_willDeliver_X5_isWithin
set_option maxRecDepth 20000 in
theorem ggX5_willDeliver_X3_start : GoodIn wsX5_willDeliver wsX3_start := goodIn_r _ [11, 12, 13, 14, 15, 16, 17, 18, 19, 20, 21, 22, 23, 24, 25, 26, 5, 27, 28, 29, 30, 31, 32, 33, 34, 35, 36, 37, 38, 39, 40, 41, 42, 43, 44, 45, 46, 47, 48, 49, 50, 51, 52, 53, 54, 55, 56, 57, 58, 59, 60, 61, 62, 63, 64, 65, 66, 67, 68, 69, 225, 226, 227, 228, 229, 230, 231, 232, 233, 234, 235, 236, 237, 238, 239, 240] (by decide +kernel) (by decide +kernel)
set_option maxRecDepth 20000 in
theorem gX5_willDeliver_X3_start : GoodIn wsX5_willDeliver (wsV RX5 108 RX3 yX3_start wsX3_start) := goodIn_app (goodIn_of _ (by decide +kernel)) ggX5_willDeliver_X3_start
set_option maxRecDepth 20000 in
theorem ggX5_willDeliver_X3_run : GoodIn wsX5_willDeliver wsX3_run := goodIn_r _ [73, 12, 74, 75, 76, 77, 17, 78, 19, 55, 5, 56, 79, 80, 81, 82, 23, 83, 84, 85, 86, 24, 87, 88, 89, 90, 91, 92, 25, 93, 94, 95, 96, 68, 69, 97, 98, 99, 44, 45, 46, 100, 48, 49, 50, 51, 52, 53, 54, 20, 57, 58, 59, 60, 61, 62, 63, 101, 102, 103, 10, 104, 13, 105, 106, 107, 108, 22, 109, 110, 111, 112, 113, 114, 115, 4, 6, 116, 117, 118, 119, 120, 121, 122, 123, 124, 125, 126, 127, 128, 39, 129, 130, 131, 132, 133, 134, 135, 136, 137, 138, 139, 140, 141, 41, 142, 143, 144, 145, 146, 147, 30, 148, 149, 150, 151, 152, 153, 42, 154, 155, 156, 157, 158, 159, 160, 161, 162, 163, 164, 165, 166, 167, 168, 169, 170, 171, 172, 173, 174, 175, 176, 177, 178, 29, 31, 179, 180, 181, 182, 183, 184, 185, 186, 187, 188, 189, 190, 191, 192, 193, 194, 195, 196, 197, 198, 199, 200, 201, 202, 203, 204, 205, 206, 207, 208, 209, 210, 211, 212, 213, 214, 215, 216, 217, 218, 219, 225, 226, 227, 228, 229, 230, 231, 232, 233, 234, 235, 236, 237, 238, 239, 240] (by decide +kernel) (by decide +kernel)
set_option maxRecDepth 20000 in
theorem gX5_willDeliver_X3_run : GoodIn wsX5_willDeliver (wsV RX5 111 RX3 yX3_run wsX3_run) := goodIn_app (goodIn_of _ (by decide +kernel)) ggX5_willDeliver_X3_run
theorem dX5_willDeliver_0 : decode cX5_willDeliver 0 = .ok (.iload_n 1, 1) := by decide +kernel
theorem dX5_willDeliver_1 : decode cX5_willDeliver 1 = .ok (.iconst 1, 1) := by decide +kernel
theorem dX5_willDeliver_2 : decode cX5_willDeliver 2 = .ok (.sipush 500, 3) := by decide +kernel
theorem dX5_willDeliver_5 : decode cX5_willDeliver 5 = .ok (.invokestatic 44, 3) := by decide +kernel
theorem dX5_willDeliver_8 : decode cX5_willDeliver 8 = .ok (.ifCond .ne 7, 3) := by decide +kernel
theorem dX5_willDeliver_11 : decode cX5_willDeliver 11 = .ok (.sipush (-1002), 3) := by decide +kernel
theorem dX5_willDeliver_14 : decode cX5_willDeliver 14 = .ok (.ireturn, 1) := by decide +kernel
theorem dX5_willDeliver_15 : decode cX5_willDeliver 15 = .ok (.aload_n 0, 1) := by decide +kernel
theorem dX5_willDeliver_16 : decode cX5_willDeliver 16 = .ok (.getfield 19, 3) := by decide +kernel
theorem dX5_willDeliver_19 : decode cX5_willDeliver 19 = .ok (.aload_n 0, 1) := by decide +kernel
theorem dX5_willDeliver_20 : decode cX5_willDeliver 20 = .ok (.getfield 10, 3) := by decide +kernel
theorem dX5_willDeliver_23 : decode cX5_willDeliver 23 = .ok (.invokevirtual 108, 3) := by decide +kernel
theorem dX5_willDeliver_26 : decode cX5_willDeliver 26 = .ok (.aload_n 0, 1) := by decide +kernel
theorem dX5_willDeliver_27 : decode cX5_willDeliver 27 = .ok (.getfield 19, 3) := by decide +kernel
theorem dX5_willDeliver_30 : decode cX5_willDeliver 30 = .ok (.iload_n 1, 1) := by decide +kernel
theorem dX5_willDeliver_31 : decode cX5_willDeliver 31 = .ok (.invokevirtual 111, 3) := by decide +kernel
theorem dX5_willDeliver_34 : decode cX5_willDeliver 34 = .ok (.ireturn, 1) := by decide +kernel
set_option maxRecDepth 20000 in
theorem ggX5_bestPeriod_X5_isWithin : GoodIn wsX5_bestPeriod wsX5_isWithin := goodIn_r _ [6] (by decide +kernel) (by decide +kernel)
set_option maxRecDepth 20000 in
theorem gX5_bestPeriod_X5_isWithin : GoodIn wsX5_bestPeriod (va_wsS RX5 44 yX5_isWithin wsX5_isWithin) := goodIn_app (goodIn_of _ (by decide +kernel)) ggX5_bestPeriod_X5_isWithin
set_option maxRecDepth 20000 in
theorem ggX5_bestPeriod_X3_start : GoodIn wsX5_bestPeriod wsX3_start := goodIn_r _ [11, 12, 13, 14, 15, 16, 17, 18, 19, 20, 21, 22, 23, 24, 25, 26, 5, 27, 28, 29, 30, 31, 32, 33, 34, 35, 36, 37, 38, 39, 40, 41, 42, 43, 44, 45, 46, 47, 48, 49, 50, 51, 52, 53, 54, 55, 56, 57, 58, 59, 60, 61, 62, 63, 64, 65, 66, 67, 68, 69, 229, 230, 231, 232, 233, 234, 235, 236, 237, 238, 239, 240, 241, 242, 243, 244] (by decide +kernel) (by decide +kernel)
set_option maxRecDepth 20000 in
theorem gX5_bestPeriod_X3_start : GoodIn wsX5_bestPeriod (wsV RX5 108 RX3 yX3_start wsX3_start) := goodIn_app (goodIn_of _ (by decide +kernel)) ggX5_bestPeriod_X3_start
set_option maxRecDepth 20000 in
theorem ggX5_bestPeriod_X1_setNumber : GoodIn wsX5_bestPeriod wsX1_setNumber := goodIn_r _ [73, 19, 68, 5, 69, 233, 234, 235, 236, 237, 238, 239] (by decide +kernel) (by decide +kernel)
set_option maxRecDepth 20000 in
theorem gX5_bestPeriod_X1_setNumber : GoodIn wsX5_bestPeriod (wsV RX5 99 RX1 yX1_setNumber wsX1_setNumber) := goodIn_app (goodIn_of _ (by decide +kernel)) ggX5_bestPeriod_X1_setNumber
set_option maxRecDepth 20000 in
theorem ggX5_bestPeriod_X3_run : GoodIn wsX5_bestPeriod wsX3_run := goodIn_r _ [77, 12, 78, 79, 80, 81, 17, 82, 19, 55, 5, 56, 83, 84, 85, 86, 23, 87, 88, 89, 90, 24, 91, 92, 93, 94, 95, 96, 25, 97, 98, 99, 100, 68, 69, 101, 102, 103, 44, 45, 46, 104, 48, 49, 50, 51, 52, 53, 54, 20, 57, 58, 59, 60, 61, 62, 63, 105, 106, 107, 10, 108, 13, 109, 110, 111, 112, 22, 113, 114, 115, 116, 117, 118, 119, 4, 6, 120, 121, 122, 123, 124, 125, 126, 127, 128, 129, 130, 131, 132, 39, 133, 134, 135, 136, 137, 138, 139, 140, 141, 142, 143, 144, 145, 41, 146, 147, 148, 149, 150, 151, 30, 152, 153, 154, 155, 156, 157, 42, 158, 159, 160, 161, 162, 163, 164, 165, 166, 167, 168, 169, 170, 171, 172, 173, 174, 175, 176, 177, 178, 179, 180, 181, 182, 29, 31, 183, 184, 185, 186, 187, 188, 189, 190, 191, 192, 193, 194, 195, 196, 197, 198, 199, 200, 201, 202, 203, 204, 205, 206, 207, 208, 209, 210, 211, 212, 213, 214, 215, 216, 217, 218, 219, 220, 221, 222, 223, 229, 230, 231, 232, 233, 234, 235, 236, 237, 238, 239, 240, 241, 242, 243, 244] (by decide +kernel) (by decide +kernel)
set_option maxRecDepth 20000 in
theorem gX5_bestPeriod_X3_run : GoodIn wsX5_bestPeriod (wsV RX5 111 RX3 yX3_run wsX3_run) := goodIn_app (goodIn_of _ (by decide +kernel)) ggX5_bestPeriod_X3_run
theorem dX5_bestPeriod_0 : decode cX5_bestPeriod 0 = .ok (.iload_n 1, 1) := by decide +kernel
theorem dX5_bestPeriod_1 : decode cX5_bestPeriod 1 = .ok (.iconst 1, 1) := by decide +kernel
theorem dX5_bestPeriod_2 : decode cX5_bestPeriod 2 = .ok (.sipush 200, 3) := by decide +kernel
theorem dX5_bestPeriod_5 : decode cX5_bestPeriod 5 = .ok (.invokestatic 44, 3) := by decide +kernel
theorem dX5_bestPeriod_8 : decode cX5_bestPeriod 8 = .ok (.ifCond .ne 7, 3) := by decide +kernel
theorem dX5_bestPeriod_11 : decode cX5_bestPeriod 11 = .ok (.sipush (-1002), 3) := by decide +kernel
theorem dX5_bestPeriod_14 : decode cX5_bestPeriod 14 = .ok (.ireturn, 1) := by decide +kernel
theorem dX5_bestPeriod_15 : decode cX5_bestPeriod 15 = .ok (.iconst 1, 1) := by decide +kernel
theorem dX5_bestPeriod_16 : decode cX5_bestPeriod 16 = .ok (.istore_n 2, 1) := by decide +kernel
theorem dX5_bestPeriod_17 : decode cX5_bestPeriod 17 = .ok (.iconst (-1), 1) := by decide +kernel
theorem dX5_bestPeriod_18 : decode cX5_bestPeriod 18 = .ok (.istore_n 3, 1) := by decide +kernel
theorem dX5_bestPeriod_19 : decode cX5_bestPeriod 19 = .ok (.iconst 1, 1) := by decide +kernel
theorem dX5_bestPeriod_20 : decode cX5_bestPeriod 20 = .ok (.istore 4, 2) := by decide +kernel
theorem dX5_bestPeriod_22 : decode cX5_bestPeriod 22 = .ok (.iload 4, 2) := by decide +kernel
theorem dX5_bestPeriod_24 : decode cX5_bestPeriod 24 = .ok (.bipush 50, 2) := by decide +kernel
theorem dX5_bestPeriod_26 : decode cX5_bestPeriod 26 = .ok (.if_icmp .gt 55, 3) := by decide +kernel
theorem dX5_bestPeriod_29 : decode cX5_bestPeriod 29 = .ok (.aload_n 0, 1) := by decide +kernel
theorem dX5_bestPeriod_30 : decode cX5_bestPeriod 30 = .ok (.getfield 19, 3) := by decide +kernel
theorem dX5_bestPeriod_33 : decode cX5_bestPeriod 33 = .ok (.aload_n 0, 1) := by decide +kernel
theorem dX5_bestPeriod_34 : decode cX5_bestPeriod 34 = .ok (.getfield 10, 3) := by decide +kernel
theorem dX5_bestPeriod_37 : decode cX5_bestPeriod 37 = .ok (.invokevirtual 108, 3) := by decide +kernel
theorem dX5_bestPeriod_40 : decode cX5_bestPeriod 40 = .ok (.aload_n 0, 1) := by decide +kernel
theorem dX5_bestPeriod_41 : decode cX5_bestPeriod 41 = .ok (.getfield 19, 3) := by decide +kernel
theorem dX5_bestPeriod_44 : decode cX5_bestPeriod 44 = .ok (.getfield 114, 3) := by decide +kernel
theorem dX5_bestPeriod_47 : decode cX5_bestPeriod 47 = .ok (.iconst 4, 1) := by decide +kernel
theorem dX5_bestPeriod_48 : decode cX5_bestPeriod 48 = .ok (.iload 4, 2) := by decide +kernel
theorem dX5_bestPeriod_50 : decode cX5_bestPeriod 50 = .ok (.invokevirtual 99, 3) := by decide +kernel
theorem dX5_bestPeriod_53 : decode cX5_bestPeriod 53 = .ok (.aload_n 0, 1) := by decide +kernel
theorem dX5_bestPeriod_54 : decode cX5_bestPeriod 54 = .ok (.getfield 19, 3) := by decide +kernel
theorem dX5_bestPeriod_57 : decode cX5_bestPeriod 57 = .ok (.iload_n 1, 1) := by decide +kernel
theorem dX5_bestPeriod_58 : decode cX5_bestPeriod 58 = .ok (.invokevirtual 111, 3) := by decide +kernel
theorem dX5_bestPeriod_61 : decode cX5_bestPeriod 61 = .ok (.istore 5, 2) := by decide +kernel
theorem dX5_bestPeriod_63 : decode cX5_bestPeriod 63 = .ok (.iload 5, 2) := by decide +kernel
theorem dX5_bestPeriod_65 : decode cX5_bestPeriod 65 = .ok (.iload_n 3, 1) := by decide +kernel
theorem dX5_bestPeriod_66 : decode cX5_bestPeriod 66 = .ok (.if_icmp .le 9, 3) := by decide +kernel
theorem dX5_bestPeriod_69 : decode cX5_bestPeriod 69 = .ok (.iload 4, 2) := by decide +kernel
theorem dX5_bestPeriod_71 : decode cX5_bestPeriod 71 = .ok (.istore_n 2, 1) := by decide +kernel
theorem dX5_bestPeriod_72 : decode cX5_bestPeriod 72 = .ok (.iload 5, 2) := by decide +kernel
theorem dX5_bestPeriod_74 : decode cX5_bestPeriod 74 = .ok (.istore_n 3, 1) := by decide +kernel
theorem dX5_bestPeriod_75 : decode cX5_bestPeriod 75 = .ok (.iinc 4 1, 3) := by decide +kernel
theorem dX5_bestPeriod_78 : decode cX5_bestPeriod 78 = .ok (.goto (-56), 3) := by decide +kernel
theorem dX5_bestPeriod_81 : decode cX5_bestPeriod 81 = .ok (.iload_n 2, 1) := by decide +kernel
theorem dX5_bestPeriod_82 : decode cX5_bestPeriod 82 = .ok (.ireturn, 1) := by decide +kernel
set_option maxRecDepth 20000 in
theorem ggX5_undo_X0_restore : GoodIn wsX5_undo wsX0_restore := goodIn_r _ [7, 8, 9, 10, 11, 6, 12, 13, 14, 15, 16, 17, 18, 19, 20, 21, 22, 23, 24, 25, 26, 27, 28, 29, 30, 31, 32, 33, 34, 35, 36, 37, 43, 44, 45, 46, 47, 48, 49, 50, 51, 52] (by decide +kernel) (by decide +kernel)
set_option maxRecDepth 20000 in
theorem gX5_undo_X0_restore : GoodIn wsX5_undo (wsV RX5 158 RX0 yX0_restore wsX0_restore) := goodIn_app (goodIn_of _ (by decide +kernel)) ggX5_undo_X0_restore
theorem dX5_undo_0 : decode cX5_undo 0 = .ok (.aload_n 0, 1) := by decide +kernel
theorem dX5_undo_1 : decode cX5_undo 1 = .ok (.getfield 33, 3) := by decide +kernel
theorem dX5_undo_4 : decode cX5_undo 4 = .ok (.aload_n 0, 1) := by decide +kernel
theorem dX5_undo_5 : decode cX5_undo 5 = .ok (.getfield 10, 3) := by decide +kernel
theorem dX5_undo_8 : decode cX5_undo 8 = .ok (.invokevirtual 158, 3) := by decide +kernel
theorem dX5_undo_11 : decode cX5_undo 11 = .ok (.ifCond .eq 13, 3) := by decide +kernel
theorem dX5_undo_14 : decode cX5_undo 14 = .ok (.aload_n 0, 1) := by decide +kernel
theorem dX5_undo_15 : decode cX5_undo 15 = .ok (.getfield 33, 3) := by decide +kernel
theorem dX5_undo_18 : decode cX5_undo 18 = .ok (.getfield 162, 3) := by decide +kernel
theorem dX5_undo_21 : decode cX5_undo 21 = .ok (.goto 6, 3) := by decide +kernel
theorem dX5_undo_24 : decode cX5_undo 24 = .ok (.sipush (-1003), 3) := by decide +kernel
theorem dX5_undo_27 : decode cX5_undo 27 = .ok (.ireturn, 1) := by decide +kernel
set_option maxRecDepth 20000 in
theorem ggX5_type_X5_isWithin : GoodIn wsX5_type wsX5_isWithin := goodIn_r _ [5] (by decide +kernel) (by decide +kernel)
set_option maxRecDepth 20000 in
theorem gX5_type_X5_isWithin : GoodIn wsX5_type (va_wsS RX5 44 yX5_isWithin wsX5_isWithin) := goodIn_app (goodIn_of _ (by decide +kernel)) ggX5_type_X5_isWithin
set_option maxRecDepth 20000 in
theorem ggX5_type_X4_append : GoodIn wsX5_type wsX4_append := goodIn_r _ [10, 11, 12, 13, 4, 14, 20, 21, 22, 23, 24, 25, 26] (by decide +kernel) (by decide +kernel)
set_option maxRecDepth 20000 in
theorem gX5_type_X4_append : GoodIn wsX5_type (wsV RX5 166 RX4 yX4_append wsX4_append) := goodIn_app (goodIn_of _ (by decide +kernel)) ggX5_type_X4_append
theorem dX5_type_0 : decode cX5_type 0 = .ok (.iload_n 1, 1) := by decide +kernel
theorem dX5_type_1 : decode cX5_type 1 = .ok (.iconst 0, 1) := by decide +kernel
theorem dX5_type_2 : decode cX5_type 2 = .ok (.sipush 255, 3) := by decide +kernel
theorem dX5_type_5 : decode cX5_type 5 = .ok (.invokestatic 44, 3) := by decide +kernel
theorem dX5_type_8 : decode cX5_type 8 = .ok (.ifCond .ne 7, 3) := by decide +kernel
theorem dX5_type_11 : decode cX5_type 11 = .ok (.sipush (-1002), 3) := by decide +kernel
theorem dX5_type_14 : decode cX5_type 14 = .ok (.ireturn, 1) := by decide +kernel
theorem dX5_type_15 : decode cX5_type 15 = .ok (.aload_n 0, 1) := by decide +kernel
theorem dX5_type_16 : decode cX5_type 16 = .ok (.getfield 40, 3) := by decide +kernel
theorem dX5_type_19 : decode cX5_type 19 = .ok (.iload_n 1, 1) := by decide +kernel
theorem dX5_type_20 : decode cX5_type 20 = .ok (.invokevirtual 166, 3) := by decide +kernel
theorem dX5_type_23 : decode cX5_type 23 = .ok (.ifCond .eq 13, 3) := by decide +kernel
theorem dX5_type_26 : decode cX5_type 26 = .ok (.aload_n 0, 1) := by decide +kernel
theorem dX5_type_27 : decode cX5_type 27 = .ok (.getfield 40, 3) := by decide +kernel
theorem dX5_type_30 : decode cX5_type 30 = .ok (.getfield 170, 3) := by decide +kernel
theorem dX5_type_33 : decode cX5_type 33 = .ok (.goto 6, 3) := by decide +kernel
theorem dX5_type_36 : decode cX5_type 36 = .ok (.sipush (-1004), 3) := by decide +kernel
theorem dX5_type_39 : decode cX5_type 39 = .ok (.ireturn, 1) := by decide +kernel
theorem dX5_clearText_0 : decode cX5_clearText 0 = .ok (.aload_n 0, 1) := by decide +kernel
theorem dX5_clearText_1 : decode cX5_clearText 1 = .ok (.getfield 40, 3) := by decide +kernel
theorem dX5_clearText_4 : decode cX5_clearText 4 = .ok (.getfield 170, 3) := by decide +kernel
theorem dX5_clearText_7 : decode cX5_clearText 7 = .ok (.istore_n 1, 1) := by decide +kernel
theorem dX5_clearText_8 : decode cX5_clearText 8 = .ok (.aload_n 0, 1) := by decide +kernel
theorem dX5_clearText_9 : decode cX5_clearText 9 = .ok (.getfield 40, 3) := by decide +kernel
theorem dX5_clearText_12 : decode cX5_clearText 12 = .ok (.iconst 0, 1) := by decide +kernel
theorem dX5_clearText_13 : decode cX5_clearText 13 = .ok (.putfield 170, 3) := by decide +kernel
theorem dX5_clearText_16 : decode cX5_clearText 16 = .ok (.iload_n 1, 1) := by decide +kernel
theorem dX5_clearText_17 : decode cX5_clearText 17 = .ok (.ireturn, 1) := by decide +kernel
set_option maxRecDepth 20000 in
theorem ggX5_textFault_X4_read : GoodIn wsX5_textFault wsX4_read := goodIn_r _ [7, 8, 9, 10, 11, 12, 13, 14, 15, 16, 17, 18, 19, 20, 21, 22, 23, 24, 25, 26, 27, 28, 29, 30, 31, 32, 33, 34, 35, 36, 6, 37, 38, 39, 40, 41, 42, 43, 44, 45, 46, 47, 48, 49, 50, 51, 52, 53, 54, 55, 56, 57, 58, 59, 60, 61, 62, 63, 64, 65, 66, 67, 68, 69, 70, 71, 72, 73, 74, 75, 76, 77, 78, 79, 80, 81, 82, 83, 84, 85, 86, 87, 88, 89, 90, 91, 92, 93, 94, 95, 96, 97, 98, 99, 100, 101, 102, 103, 104, 105, 106, 107, 108, 109, 110, 111, 112, 113, 114, 115, 116, 122, 123, 124, 125, 126, 127, 128, 129, 130, 131, 132, 133, 134, 135] (by decide +kernel) (by decide +kernel)
set_option maxRecDepth 20000 in
theorem gX5_textFault_X4_read : GoodIn wsX5_textFault (wsV RX5 173 RX4 yX4_read wsX4_read) := goodIn_app (goodIn_of _ (by decide +kernel)) ggX5_textFault_X4_read
theorem dX5_textFault_0 : decode cX5_textFault 0 = .ok (.aload_n 0, 1) := by decide +kernel
theorem dX5_textFault_1 : decode cX5_textFault 1 = .ok (.getfield 40, 3) := by decide +kernel
theorem dX5_textFault_4 : decode cX5_textFault 4 = .ok (.aload_n 0, 1) := by decide +kernel
theorem dX5_textFault_5 : decode cX5_textFault 5 = .ok (.getfield 10, 3) := by decide +kernel
theorem dX5_textFault_8 : decode cX5_textFault 8 = .ok (.invokevirtual 173, 3) := by decide +kernel
theorem dX5_textFault_11 : decode cX5_textFault 11 = .ok (.ifCond .eq 9, 3) := by decide +kernel
theorem dX5_textFault_14 : decode cX5_textFault 14 = .ok (.sipush (-1000), 3) := by decide +kernel
theorem dX5_textFault_17 : decode cX5_textFault 17 = .ok (.goto 10, 3) := by decide +kernel
theorem dX5_textFault_20 : decode cX5_textFault 20 = .ok (.aload_n 0, 1) := by decide +kernel
theorem dX5_textFault_21 : decode cX5_textFault 21 = .ok (.getfield 40, 3) := by decide +kernel
theorem dX5_textFault_24 : decode cX5_textFault 24 = .ok (.getfield 176, 3) := by decide +kernel
theorem dX5_textFault_27 : decode cX5_textFault 27 = .ok (.ireturn, 1) := by decide +kernel
set_option maxRecDepth 20000 in
theorem ggX5_build_X4_read : GoodIn wsX5_build wsX4_read := goodIn_r _ [8, 9, 10, 11, 12, 13, 14, 15, 16, 17, 18, 19, 20, 21, 22, 23, 24, 25, 26, 27, 28, 29, 30, 31, 32, 33, 34, 35, 36, 37, 7, 38, 39, 40, 41, 42, 43, 44, 45, 46, 47, 48, 49, 50, 51, 52, 53, 54, 55, 56, 57, 58, 59, 60, 61, 62, 63, 64, 65, 66, 67, 68, 69, 70, 71, 72, 73, 74, 75, 76, 77, 78, 79, 80, 81, 82, 83, 84, 85, 86, 87, 88, 89, 90, 91, 92, 93, 94, 95, 96, 97, 98, 99, 100, 101, 102, 103, 104, 105, 106, 107, 108, 109, 110, 111, 112, 113, 114, 115, 116, 117, 137, 138, 139, 140, 141, 142, 143, 144, 145, 146, 147, 148, 149, 150] (by decide +kernel) (by decide +kernel)
set_option maxRecDepth 20000 in
theorem gX5_build_X4_read : GoodIn wsX5_build (wsV RX5 173 RX4 yX4_read wsX4_read) := goodIn_app (goodIn_of _ (by decide +kernel)) ggX5_build_X4_read
set_option maxRecDepth 20000 in
theorem ggX5_build_X0_record : GoodIn wsX5_build wsX0_record := goodIn_r _ [122, 123, 124, 125, 126, 127, 121, 128, 129, 130, 13, 14, 15, 16, 17, 18, 19, 20, 21, 22, 23, 24, 25, 26, 27, 28, 29, 30, 31, 32, 33, 34, 151, 152, 153, 144, 145, 146, 147, 148, 149, 150] (by decide +kernel) (by decide +kernel)
set_option maxRecDepth 20000 in
theorem gX5_build_X0_record : GoodIn wsX5_build (wsV RX5 52 RX0 yX0_record wsX0_record) := goodIn_app (goodIn_of _ (by decide +kernel)) ggX5_build_X0_record
set_option maxRecDepth 20000 in
theorem ggX5_build_X1_copyFrom : GoodIn wsX5_build wsX1_copyFrom := goodIn_r _ [16, 17, 18, 19, 20, 21, 22, 23, 24, 25, 26, 27, 28, 29, 30, 31, 32, 33, 34, 144, 145, 146, 147, 148, 149, 150] (by decide +kernel) (by decide +kernel)
set_option maxRecDepth 20000 in
theorem gX5_build_X1_copyFrom : GoodIn wsX5_build (wsV RX5 117 RX1 yX1_copyFrom wsX1_copyFrom) := goodIn_app (goodIn_of _ (by decide +kernel)) ggX5_build_X1_copyFrom
theorem dX5_build_0 : decode cX5_build 0 = .ok (.aload_n 0, 1) := by decide +kernel
theorem dX5_build_1 : decode cX5_build 1 = .ok (.getfield 40, 3) := by decide +kernel
theorem dX5_build_4 : decode cX5_build 4 = .ok (.aload_n 0, 1) := by decide +kernel
theorem dX5_build_5 : decode cX5_build 5 = .ok (.getfield 10, 3) := by decide +kernel
theorem dX5_build_8 : decode cX5_build 8 = .ok (.invokevirtual 173, 3) := by decide +kernel
theorem dX5_build_11 : decode cX5_build 11 = .ok (.ifCond .ne 7, 3) := by decide +kernel
theorem dX5_build_14 : decode cX5_build 14 = .ok (.sipush (-1003), 3) := by decide +kernel
theorem dX5_build_17 : decode cX5_build 17 = .ok (.ireturn, 1) := by decide +kernel
theorem dX5_build_18 : decode cX5_build 18 = .ok (.aload_n 0, 1) := by decide +kernel
theorem dX5_build_19 : decode cX5_build 19 = .ok (.getfield 33, 3) := by decide +kernel
theorem dX5_build_22 : decode cX5_build 22 = .ok (.aload_n 0, 1) := by decide +kernel
theorem dX5_build_23 : decode cX5_build 23 = .ok (.getfield 10, 3) := by decide +kernel
theorem dX5_build_26 : decode cX5_build 26 = .ok (.invokevirtual 52, 3) := by decide +kernel
theorem dX5_build_29 : decode cX5_build 29 = .ok (.aload_n 0, 1) := by decide +kernel
theorem dX5_build_30 : decode cX5_build 30 = .ok (.getfield 10, 3) := by decide +kernel
theorem dX5_build_33 : decode cX5_build 33 = .ok (.aload_n 0, 1) := by decide +kernel
theorem dX5_build_34 : decode cX5_build 34 = .ok (.getfield 40, 3) := by decide +kernel
theorem dX5_build_37 : decode cX5_build 37 = .ok (.getfield 179, 3) := by decide +kernel
theorem dX5_build_40 : decode cX5_build 40 = .ok (.invokevirtual 117, 3) := by decide +kernel
theorem dX5_build_43 : decode cX5_build 43 = .ok (.aload_n 0, 1) := by decide +kernel
theorem dX5_build_44 : decode cX5_build 44 = .ok (.getfield 40, 3) := by decide +kernel
theorem dX5_build_47 : decode cX5_build 47 = .ok (.getfield 180, 3) := by decide +kernel
theorem dX5_build_50 : decode cX5_build 50 = .ok (.ireturn, 1) := by decide +kernel
set_option maxRecDepth 20000 in
theorem ggX5_digest_X1_hash : GoodIn wsX5_digest wsX1_hash := goodIn_r _ [6, 7, 8, 9, 10, 11, 12, 13, 14, 15, 16, 5, 17, 18, 19, 20, 21, 22, 23, 24, 25, 26, 27, 28, 29, 30, 31, 32, 33, 34, 35, 36, 37, 38, 39, 40, 41, 42, 43, 44, 45, 46, 47, 48, 49, 50, 51, 57, 58, 59, 60, 61, 62, 63] (by decide +kernel) (by decide +kernel)
set_option maxRecDepth 20000 in
theorem gX5_digest_X1_hash : GoodIn wsX5_digest (wsV RX5 183 RX1 yX1_hash wsX1_hash) := goodIn_app (goodIn_of _ (by decide +kernel)) ggX5_digest_X1_hash
theorem dX5_digest_0 : decode cX5_digest 0 = .ok (.aload_n 0, 1) := by decide +kernel
theorem dX5_digest_1 : decode cX5_digest 1 = .ok (.getfield 10, 3) := by decide +kernel
theorem dX5_digest_4 : decode cX5_digest 4 = .ok (.invokevirtual 183, 3) := by decide +kernel
theorem dX5_digest_7 : decode cX5_digest 7 = .ok (.lreturn, 1) := by decide +kernel
set_option maxRecDepth 20000 in
theorem ggX5_hasWay_X1_has : GoodIn wsX5_hasWay wsX1_has := goodIn_r _ [6, 7, 8, 9, 10, 16, 17, 18, 19, 20, 21, 22] (by decide +kernel) (by decide +kernel)
set_option maxRecDepth 20000 in
theorem gX5_hasWay_X1_has : GoodIn wsX5_hasWay (wsV RX5 59 RX1 yX1_has wsX1_has) := goodIn_app (goodIn_of _ (by decide +kernel)) ggX5_hasWay_X1_has
theorem dX5_hasWay_0 : decode cX5_hasWay 0 = .ok (.aload_n 0, 1) := by decide +kernel
theorem dX5_hasWay_1 : decode cX5_hasWay 1 = .ok (.getfield 10, 3) := by decide +kernel
theorem dX5_hasWay_4 : decode cX5_hasWay 4 = .ok (.iconst 3, 1) := by decide +kernel
theorem dX5_hasWay_5 : decode cX5_hasWay 5 = .ok (.iload_n 1, 1) := by decide +kernel
theorem dX5_hasWay_6 : decode cX5_hasWay 6 = .ok (.invokevirtual 59, 3) := by decide +kernel
theorem dX5_hasWay_9 : decode cX5_hasWay 9 = .ok (.ifCond .eq 19, 3) := by decide +kernel
theorem dX5_hasWay_12 : decode cX5_hasWay 12 = .ok (.aload_n 0, 1) := by decide +kernel
theorem dX5_hasWay_13 : decode cX5_hasWay 13 = .ok (.getfield 10, 3) := by decide +kernel
theorem dX5_hasWay_16 : decode cX5_hasWay 16 = .ok (.iconst 2, 1) := by decide +kernel
theorem dX5_hasWay_17 : decode cX5_hasWay 17 = .ok (.iload_n 2, 1) := by decide +kernel
theorem dX5_hasWay_18 : decode cX5_hasWay 18 = .ok (.invokevirtual 59, 3) := by decide +kernel
theorem dX5_hasWay_21 : decode cX5_hasWay 21 = .ok (.ifCond .eq 7, 3) := by decide +kernel
theorem dX5_hasWay_24 : decode cX5_hasWay 24 = .ok (.iconst 1, 1) := by decide +kernel
theorem dX5_hasWay_25 : decode cX5_hasWay 25 = .ok (.goto 4, 3) := by decide +kernel
theorem dX5_hasWay_28 : decode cX5_hasWay 28 = .ok (.iconst 0, 1) := by decide +kernel
theorem dX5_hasWay_29 : decode cX5_hasWay 29 = .ok (.ireturn, 1) := by decide +kernel
theorem dX5_wayOf_0 : decode cX5_wayOf 0 = .ok (.iload_n 0, 1) := by decide +kernel
theorem dX5_wayOf_1 : decode cX5_wayOf 1 = .ok (.bipush 6, 2) := by decide +kernel
theorem dX5_wayOf_3 : decode cX5_wayOf 3 = .ok (.imul, 1) := by decide +kernel
theorem dX5_wayOf_4 : decode cX5_wayOf 4 = .ok (.iload_n 1, 1) := by decide +kernel
theorem dX5_wayOf_5 : decode cX5_wayOf 5 = .ok (.iadd, 1) := by decide +kernel
theorem dX5_wayOf_6 : decode cX5_wayOf 6 = .ok (.ireturn, 1) := by decide +kernel
theorem dX5_isWithin_0 : decode cX5_isWithin 0 = .ok (.iload_n 0, 1) := by decide +kernel
theorem dX5_isWithin_1 : decode cX5_isWithin 1 = .ok (.iload_n 1, 1) := by decide +kernel
theorem dX5_isWithin_2 : decode cX5_isWithin 2 = .ok (.if_icmp .lt 12, 3) := by decide +kernel
theorem dX5_isWithin_5 : decode cX5_isWithin 5 = .ok (.iload_n 0, 1) := by decide +kernel
theorem dX5_isWithin_6 : decode cX5_isWithin 6 = .ok (.iload_n 2, 1) := by decide +kernel
theorem dX5_isWithin_7 : decode cX5_isWithin 7 = .ok (.if_icmp .gt 7, 3) := by decide +kernel
theorem dX5_isWithin_10 : decode cX5_isWithin 10 = .ok (.iconst 1, 1) := by decide +kernel
theorem dX5_isWithin_11 : decode cX5_isWithin 11 = .ok (.goto 4, 3) := by decide +kernel
theorem dX5_isWithin_14 : decode cX5_isWithin 14 = .ok (.iconst 0, 1) := by decide +kernel
theorem dX5_isWithin_15 : decode cX5_isWithin 15 = .ok (.ireturn, 1) := by decide +kernel
theorem dX5_holds_0 : decode cX5_holds 0 = .ok (.iload_n 1, 1) := by decide +kernel
theorem dX5_holds_1 : decode cX5_holds 1 = .ok (.ifCond .lt 22, 3) := by decide +kernel
theorem dX5_holds_4 : decode cX5_holds 4 = .ok (.iload_n 1, 1) := by decide +kernel
theorem dX5_holds_5 : decode cX5_holds 5 = .ok (.bipush 10, 2) := by decide +kernel
theorem dX5_holds_7 : decode cX5_holds 7 = .ok (.if_icmp .ge 16, 3) := by decide +kernel
theorem dX5_holds_10 : decode cX5_holds 10 = .ok (.iload_n 0, 1) := by decide +kernel
theorem dX5_holds_11 : decode cX5_holds 11 = .ok (.iload_n 1, 1) := by decide +kernel
theorem dX5_holds_12 : decode cX5_holds 12 = .ok (.ishr, 1) := by decide +kernel
theorem dX5_holds_13 : decode cX5_holds 13 = .ok (.iconst 1, 1) := by decide +kernel
theorem dX5_holds_14 : decode cX5_holds 14 = .ok (.iand, 1) := by decide +kernel
theorem dX5_holds_15 : decode cX5_holds 15 = .ok (.iconst 1, 1) := by decide +kernel
theorem dX5_holds_16 : decode cX5_holds 16 = .ok (.if_icmp .ne 7, 3) := by decide +kernel
theorem dX5_holds_19 : decode cX5_holds 19 = .ok (.iconst 1, 1) := by decide +kernel
theorem dX5_holds_20 : decode cX5_holds 20 = .ok (.goto 4, 3) := by decide +kernel
theorem dX5_holds_23 : decode cX5_holds 23 = .ok (.iconst 0, 1) := by decide +kernel
theorem dX5_holds_24 : decode cX5_holds 24 = .ok (.ireturn, 1) := by decide +kernel
theorem dX5_at_0 : decode cX5_at 0 = .ok (.iload_n 1, 1) := by decide +kernel
theorem dX5_at_1 : decode cX5_at 1 = .ok (.ifCond .lt 15, 3) := by decide +kernel
theorem dX5_at_4 : decode cX5_at 4 = .ok (.iload_n 1, 1) := by decide +kernel
theorem dX5_at_5 : decode cX5_at 5 = .ok (.aload_n 0, 1) := by decide +kernel
theorem dX5_at_6 : decode cX5_at 6 = .ok (.arraylength, 1) := by decide +kernel
theorem dX5_at_7 : decode cX5_at 7 = .ok (.if_icmp .ge 9, 3) := by decide +kernel
theorem dX5_at_10 : decode cX5_at 10 = .ok (.aload_n 0, 1) := by decide +kernel
theorem dX5_at_11 : decode cX5_at 11 = .ok (.iload_n 1, 1) := by decide +kernel
theorem dX5_at_12 : decode cX5_at 12 = .ok (.iaload, 1) := by decide +kernel
theorem dX5_at_13 : decode cX5_at 13 = .ok (.goto 4, 3) := by decide +kernel
theorem dX5_at_16 : decode cX5_at 16 = .ok (.iconst 0, 1) := by decide +kernel
theorem dX5_at_17 : decode cX5_at 17 = .ok (.ireturn, 1) := by decide +kernel
theorem dX5_put_0 : decode cX5_put 0 = .ok (.iload_n 1, 1) := by decide +kernel
theorem dX5_put_1 : decode cX5_put 1 = .ok (.ifCond .lt 13, 3) := by decide +kernel
theorem dX5_put_4 : decode cX5_put 4 = .ok (.iload_n 1, 1) := by decide +kernel
theorem dX5_put_5 : decode cX5_put 5 = .ok (.aload_n 0, 1) := by decide +kernel
theorem dX5_put_6 : decode cX5_put 6 = .ok (.arraylength, 1) := by decide +kernel
theorem dX5_put_7 : decode cX5_put 7 = .ok (.if_icmp .ge 7, 3) := by decide +kernel
theorem dX5_put_10 : decode cX5_put 10 = .ok (.aload_n 0, 1) := by decide +kernel
theorem dX5_put_11 : decode cX5_put 11 = .ok (.iload_n 1, 1) := by decide +kernel
theorem dX5_put_12 : decode cX5_put 12 = .ok (.iload_n 2, 1) := by decide +kernel
theorem dX5_put_13 : decode cX5_put 13 = .ok (.iastore, 1) := by decide +kernel
theorem dX5_put_14 : decode cX5_put 14 = .ok (.return_, 1) := by decide +kernel
set_option maxRecDepth 20000 in
theorem ggX5_increase_X5_at : GoodIn wsX5_increase wsX5_at := goodIn_r _ [4] (by decide +kernel) (by decide +kernel)
set_option maxRecDepth 20000 in
theorem gX5_increase_X5_at : GoodIn wsX5_increase (va_wsS RX5 187 yX5_at wsX5_at) := goodIn_app (goodIn_of _ (by decide +kernel)) ggX5_increase_X5_at
set_option maxRecDepth 20000 in
theorem ggX5_increase_X5_put : GoodIn wsX5_increase wsX5_put := goodIn_r _ [7] (by decide +kernel) (by decide +kernel)
set_option maxRecDepth 20000 in
theorem gX5_increase_X5_put : GoodIn wsX5_increase (va_wsS RX5 191 yX5_put wsX5_put) := goodIn_app (goodIn_of _ (by decide +kernel)) ggX5_increase_X5_put
theorem dX5_increase_0 : decode cX5_increase 0 = .ok (.aload_n 0, 1) := by decide +kernel
theorem dX5_increase_1 : decode cX5_increase 1 = .ok (.iload_n 1, 1) := by decide +kernel
theorem dX5_increase_2 : decode cX5_increase 2 = .ok (.aload_n 0, 1) := by decide +kernel
theorem dX5_increase_3 : decode cX5_increase 3 = .ok (.iload_n 1, 1) := by decide +kernel
theorem dX5_increase_4 : decode cX5_increase 4 = .ok (.invokestatic 187, 3) := by decide +kernel
theorem dX5_increase_7 : decode cX5_increase 7 = .ok (.iload_n 2, 1) := by decide +kernel
theorem dX5_increase_8 : decode cX5_increase 8 = .ok (.iadd, 1) := by decide +kernel
theorem dX5_increase_9 : decode cX5_increase 9 = .ok (.invokestatic 191, 3) := by decide +kernel
theorem dX5_increase_12 : decode cX5_increase 12 = .ok (.return_, 1) := by decide +kernel
theorem dX5_copy_0 : decode cX5_copy 0 = .ok (.aload_n 0, 1) := by decide +kernel
theorem dX5_copy_1 : decode cX5_copy 1 = .ok (.iconst 0, 1) := by decide +kernel
theorem dX5_copy_2 : decode cX5_copy 2 = .ok (.aload_n 1, 1) := by decide +kernel
theorem dX5_copy_3 : decode cX5_copy 3 = .ok (.iconst 0, 1) := by decide +kernel
theorem dX5_copy_4 : decode cX5_copy 4 = .ok (.aload_n 0, 1) := by decide +kernel
theorem dX5_copy_5 : decode cX5_copy 5 = .ok (.arraylength, 1) := by decide +kernel
theorem dX5_copy_6 : decode cX5_copy 6 = .ok (.aload_n 1, 1) := by decide +kernel
theorem dX5_copy_7 : decode cX5_copy 7 = .ok (.arraylength, 1) := by decide +kernel
theorem dX5_copy_8 : decode cX5_copy 8 = .ok (.invokestatic 195, 3) := by decide +kernel
theorem dX5_copy_11 : decode cX5_copy 11 = .ok (.invokestatic 200, 3) := by decide +kernel
theorem dX5_copy_14 : decode cX5_copy 14 = .ok (.return_, 1) := by decide +kernel
set_option maxRecDepth 20000 in
theorem ggX5_removePiece_X5_at : GoodIn wsX5_removePiece wsX5_at := goodIn_r _ [4] (by decide +kernel) (by decide +kernel)
set_option maxRecDepth 20000 in
theorem gX5_removePiece_X5_at : GoodIn wsX5_removePiece (va_wsS RX5 187 yX5_at wsX5_at) := goodIn_app (goodIn_of _ (by decide +kernel)) ggX5_removePiece_X5_at
set_option maxRecDepth 20000 in
theorem ggX5_removePiece_X5_put : GoodIn wsX5_removePiece wsX5_put := goodIn_r _ [7] (by decide +kernel) (by decide +kernel)
set_option maxRecDepth 20000 in
theorem gX5_removePiece_X5_put : GoodIn wsX5_removePiece (va_wsS RX5 191 yX5_put wsX5_put) := goodIn_app (goodIn_of _ (by decide +kernel)) ggX5_removePiece_X5_put
theorem dX5_removePiece_0 : decode cX5_removePiece 0 = .ok (.iload_n 2, 1) := by decide +kernel
theorem dX5_removePiece_1 : decode cX5_removePiece 1 = .ok (.iload_n 1, 1) := by decide +kernel
theorem dX5_removePiece_2 : decode cX5_removePiece 2 = .ok (.imul, 1) := by decide +kernel
theorem dX5_removePiece_3 : decode cX5_removePiece 3 = .ok (.istore_n 3, 1) := by decide +kernel
theorem dX5_removePiece_4 : decode cX5_removePiece 4 = .ok (.iload_n 3, 1) := by decide +kernel
theorem dX5_removePiece_5 : decode cX5_removePiece 5 = .ok (.aload_n 0, 1) := by decide +kernel
theorem dX5_removePiece_6 : decode cX5_removePiece 6 = .ok (.arraylength, 1) := by decide +kernel
theorem dX5_removePiece_7 : decode cX5_removePiece 7 = .ok (.iload_n 1, 1) := by decide +kernel
theorem dX5_removePiece_8 : decode cX5_removePiece 8 = .ok (.isub, 1) := by decide +kernel
theorem dX5_removePiece_9 : decode cX5_removePiece 9 = .ok (.if_icmp .ge 21, 3) := by decide +kernel
theorem dX5_removePiece_12 : decode cX5_removePiece 12 = .ok (.aload_n 0, 1) := by decide +kernel
theorem dX5_removePiece_13 : decode cX5_removePiece 13 = .ok (.iload_n 3, 1) := by decide +kernel
theorem dX5_removePiece_14 : decode cX5_removePiece 14 = .ok (.aload_n 0, 1) := by decide +kernel
theorem dX5_removePiece_15 : decode cX5_removePiece 15 = .ok (.iload_n 3, 1) := by decide +kernel
theorem dX5_removePiece_16 : decode cX5_removePiece 16 = .ok (.iload_n 1, 1) := by decide +kernel
theorem dX5_removePiece_17 : decode cX5_removePiece 17 = .ok (.iadd, 1) := by decide +kernel
theorem dX5_removePiece_18 : decode cX5_removePiece 18 = .ok (.invokestatic 187, 3) := by decide +kernel
theorem dX5_removePiece_21 : decode cX5_removePiece 21 = .ok (.invokestatic 191, 3) := by decide +kernel
theorem dX5_removePiece_24 : decode cX5_removePiece 24 = .ok (.iinc 3 1, 3) := by decide +kernel
theorem dX5_removePiece_27 : decode cX5_removePiece 27 = .ok (.goto (-23), 3) := by decide +kernel
theorem dX5_removePiece_30 : decode cX5_removePiece 30 = .ok (.return_, 1) := by decide +kernel
set_option maxRecDepth 20000 in
theorem ggX5_hashOf_X5_at : GoodIn wsX5_hashOf wsX5_at := goodIn_r _ [5] (by decide +kernel) (by decide +kernel)
set_option maxRecDepth 20000 in
theorem gX5_hashOf_X5_at : GoodIn wsX5_hashOf (va_wsS RX5 187 yX5_at wsX5_at) := goodIn_app (goodIn_of _ (by decide +kernel)) ggX5_hashOf_X5_at
theorem dX5_hashOf_0 : decode cX5_hashOf 0 = .ok (.lload_n 0, 1) := by decide +kernel
theorem dX5_hashOf_1 : decode cX5_hashOf 1 = .ok (.lstore 5, 2) := by decide +kernel
theorem dX5_hashOf_3 : decode cX5_hashOf 3 = .ok (.iload_n 3, 1) := by decide +kernel
theorem dX5_hashOf_4 : decode cX5_hashOf 4 = .ok (.istore 7, 2) := by decide +kernel
theorem dX5_hashOf_6 : decode cX5_hashOf 6 = .ok (.iload 7, 2) := by decide +kernel
theorem dX5_hashOf_8 : decode cX5_hashOf 8 = .ok (.iload_n 3, 1) := by decide +kernel
theorem dX5_hashOf_9 : decode cX5_hashOf 9 = .ok (.iload 4, 2) := by decide +kernel
theorem dX5_hashOf_11 : decode cX5_hashOf 11 = .ok (.iadd, 1) := by decide +kernel
theorem dX5_hashOf_12 : decode cX5_hashOf 12 = .ok (.if_icmp .ge 25, 3) := by decide +kernel
theorem dX5_hashOf_15 : decode cX5_hashOf 15 = .ok (.ldc2_w 206, 3) := by decide +kernel
theorem dX5_hashOf_18 : decode cX5_hashOf 18 = .ok (.lload 5, 2) := by decide +kernel
theorem dX5_hashOf_20 : decode cX5_hashOf 20 = .ok (.lmul, 1) := by decide +kernel
theorem dX5_hashOf_21 : decode cX5_hashOf 21 = .ok (.aload_n 2, 1) := by decide +kernel
theorem dX5_hashOf_22 : decode cX5_hashOf 22 = .ok (.iload 7, 2) := by decide +kernel
theorem dX5_hashOf_24 : decode cX5_hashOf 24 = .ok (.invokestatic 187, 3) := by decide +kernel
theorem dX5_hashOf_27 : decode cX5_hashOf 27 = .ok (.i2l, 1) := by decide +kernel
theorem dX5_hashOf_28 : decode cX5_hashOf 28 = .ok (.ladd, 1) := by decide +kernel
theorem dX5_hashOf_29 : decode cX5_hashOf 29 = .ok (.lstore 5, 2) := by decide +kernel
theorem dX5_hashOf_31 : decode cX5_hashOf 31 = .ok (.iinc 7 1, 3) := by decide +kernel
theorem dX5_hashOf_34 : decode cX5_hashOf 34 = .ok (.goto (-28), 3) := by decide +kernel
theorem dX5_hashOf_37 : decode cX5_hashOf 37 = .ok (.lload 5, 2) := by decide +kernel
theorem dX5_hashOf_39 : decode cX5_hashOf 39 = .ok (.lreturn, 1) := by decide +kernel
theorem dX6_init_0 : decode cX6_init 0 = .ok (.aload_n 0, 1) := by decide +kernel
theorem dX6_init_1 : decode cX6_init 1 = .ok (.invokespecial 1, 3) := by decide +kernel
theorem dX6_init_4 : decode cX6_init 4 = .ok (.aload_n 0, 1) := by decide +kernel
theorem dX6_init_5 : decode cX6_init 5 = .ok (.sipush 3255, 3) := by decide +kernel
theorem dX6_init_8 : decode cX6_init 8 = .ok (.newarray .int, 2) := by decide +kernel
theorem dX6_init_10 : decode cX6_init 10 = .ok (.putfield 7, 3) := by decide +kernel
theorem dX6_init_13 : decode cX6_init 13 = .ok (.aload_n 0, 1) := by decide +kernel
theorem dX6_init_14 : decode cX6_init 14 = .ok (.bipush 10, 2) := by decide +kernel
theorem dX6_init_16 : decode cX6_init 16 = .ok (.newarray .int, 2) := by decide +kernel
theorem dX6_init_18 : decode cX6_init 18 = .ok (.putfield 13, 3) := by decide +kernel
theorem dX6_init_21 : decode cX6_init 21 = .ok (.aload_n 0, 1) := by decide +kernel
theorem dX6_init_22 : decode cX6_init 22 = .ok (.bipush 10, 2) := by decide +kernel
theorem dX6_init_24 : decode cX6_init 24 = .ok (.newarray .boolean, 2) := by decide +kernel
theorem dX6_init_26 : decode cX6_init 26 = .ok (.putfield 16, 3) := by decide +kernel
theorem dX6_init_29 : decode cX6_init 29 = .ok (.aload_n 0, 1) := by decide +kernel
theorem dX6_init_30 : decode cX6_init 30 = .ok (.bipush 10, 2) := by decide +kernel
theorem dX6_init_32 : decode cX6_init 32 = .ok (.newarray .boolean, 2) := by decide +kernel
theorem dX6_init_34 : decode cX6_init 34 = .ok (.putfield 20, 3) := by decide +kernel
theorem dX6_init_37 : decode cX6_init 37 = .ok (.aload_n 0, 1) := by decide +kernel
theorem dX6_init_38 : decode cX6_init 38 = .ok (.bipush 10, 2) := by decide +kernel
theorem dX6_init_40 : decode cX6_init 40 = .ok (.newarray .int, 2) := by decide +kernel
theorem dX6_init_42 : decode cX6_init 42 = .ok (.putfield 23, 3) := by decide +kernel
theorem dX6_init_45 : decode cX6_init 45 = .ok (.aload_n 0, 1) := by decide +kernel
theorem dX6_init_46 : decode cX6_init 46 = .ok (.bipush 10, 2) := by decide +kernel
theorem dX6_init_48 : decode cX6_init 48 = .ok (.newarray .int, 2) := by decide +kernel
theorem dX6_init_50 : decode cX6_init 50 = .ok (.putfield 26, 3) := by decide +kernel
theorem dX6_init_53 : decode cX6_init 53 = .ok (.aload_n 0, 1) := by decide +kernel
theorem dX6_init_54 : decode cX6_init 54 = .ok (.sipush 600, 3) := by decide +kernel
theorem dX6_init_57 : decode cX6_init 57 = .ok (.newarray .boolean, 2) := by decide +kernel
theorem dX6_init_59 : decode cX6_init 59 = .ok (.putfield 29, 3) := by decide +kernel
theorem dX6_init_62 : decode cX6_init 62 = .ok (.aload_n 0, 1) := by decide +kernel
theorem dX6_init_63 : decode cX6_init 63 = .ok (.bipush 120, 2) := by decide +kernel
theorem dX6_init_65 : decode cX6_init 65 = .ok (.newarray .int, 2) := by decide +kernel
theorem dX6_init_67 : decode cX6_init 67 = .ok (.putfield 32, 3) := by decide +kernel
theorem dX6_init_70 : decode cX6_init 70 = .ok (.aload_n 0, 1) := by decide +kernel
theorem dX6_init_71 : decode cX6_init 71 = .ok (.getfield 7, 3) := by decide +kernel
theorem dX6_init_74 : decode cX6_init 74 = .ok (.iconst 4, 1) := by decide +kernel
theorem dX6_init_75 : decode cX6_init 75 = .ok (.bipush 10, 2) := by decide +kernel
theorem dX6_init_77 : decode cX6_init 77 = .ok (.iastore, 1) := by decide +kernel
theorem dX6_init_78 : decode cX6_init 78 = .ok (.return_, 1) := by decide +kernel
theorem dX6_in_0 : decode cX6_in 0 = .ok (.iload_n 0, 1) := by decide +kernel
theorem dX6_in_1 : decode cX6_in 1 = .ok (.iload_n 1, 1) := by decide +kernel
theorem dX6_in_2 : decode cX6_in 2 = .ok (.if_icmp .lt 12, 3) := by decide +kernel
theorem dX6_in_5 : decode cX6_in 5 = .ok (.iload_n 0, 1) := by decide +kernel
theorem dX6_in_6 : decode cX6_in 6 = .ok (.iload_n 2, 1) := by decide +kernel
theorem dX6_in_7 : decode cX6_in 7 = .ok (.if_icmp .gt 7, 3) := by decide +kernel
theorem dX6_in_10 : decode cX6_in 10 = .ok (.iconst 1, 1) := by decide +kernel
theorem dX6_in_11 : decode cX6_in 11 = .ok (.goto 4, 3) := by decide +kernel
theorem dX6_in_14 : decode cX6_in 14 = .ok (.iconst 0, 1) := by decide +kernel
theorem dX6_in_15 : decode cX6_in 15 = .ok (.ireturn, 1) := by decide +kernel
theorem dX6_copies_0 : decode cX6_copies 0 = .ok (.iconst 0, 1) := by decide +kernel
theorem dX6_copies_1 : decode cX6_copies 1 = .ok (.istore_n 3, 1) := by decide +kernel
theorem dX6_copies_2 : decode cX6_copies 2 = .ok (.iload_n 3, 1) := by decide +kernel
theorem dX6_copies_3 : decode cX6_copies 3 = .ok (.sipush 465, 3) := by decide +kernel
theorem dX6_copies_6 : decode cX6_copies 6 = .ok (.if_icmp .ge 33, 3) := by decide +kernel
theorem dX6_copies_9 : decode cX6_copies 9 = .ok (.aload_n 0, 1) := by decide +kernel
theorem dX6_copies_10 : decode cX6_copies 10 = .ok (.getfield 7, 3) := by decide +kernel
theorem dX6_copies_13 : decode cX6_copies 13 = .ok (.sipush 465, 3) := by decide +kernel
theorem dX6_copies_16 : decode cX6_copies 16 = .ok (.iload_n 2, 1) := by decide +kernel
theorem dX6_copies_17 : decode cX6_copies 17 = .ok (.imul, 1) := by decide +kernel
theorem dX6_copies_18 : decode cX6_copies 18 = .ok (.iload_n 3, 1) := by decide +kernel
theorem dX6_copies_19 : decode cX6_copies 19 = .ok (.iadd, 1) := by decide +kernel
theorem dX6_copies_20 : decode cX6_copies 20 = .ok (.aload_n 0, 1) := by decide +kernel
theorem dX6_copies_21 : decode cX6_copies 21 = .ok (.getfield 7, 3) := by decide +kernel
theorem dX6_copies_24 : decode cX6_copies 24 = .ok (.sipush 465, 3) := by decide +kernel
theorem dX6_copies_27 : decode cX6_copies 27 = .ok (.iload_n 1, 1) := by decide +kernel
theorem dX6_copies_28 : decode cX6_copies 28 = .ok (.imul, 1) := by decide +kernel
theorem dX6_copies_29 : decode cX6_copies 29 = .ok (.iload_n 3, 1) := by decide +kernel
theorem dX6_copies_30 : decode cX6_copies 30 = .ok (.iadd, 1) := by decide +kernel
theorem dX6_copies_31 : decode cX6_copies 31 = .ok (.iaload, 1) := by decide +kernel
theorem dX6_copies_32 : decode cX6_copies 32 = .ok (.iastore, 1) := by decide +kernel
theorem dX6_copies_33 : decode cX6_copies 33 = .ok (.iinc 3 1, 3) := by decide +kernel
theorem dX6_copies_36 : decode cX6_copies 36 = .ok (.goto (-34), 3) := by decide +kernel
theorem dX6_copies_39 : decode cX6_copies 39 = .ok (.return_, 1) := by decide +kernel
set_option maxRecDepth 20000 in
theorem ggX6_saves_X6_copies : GoodIn wsX6_saves wsX6_copies := goodIn_r _ [6, 7, 8, 9, 10, 11, 12, 13, 14, 15, 16, 17, 18, 19, 20, 21, 22, 23] (by decide +kernel) (by decide +kernel)
set_option maxRecDepth 20000 in
theorem gX6_saves_X6_copies : GoodIn wsX6_saves (wsV RX6 39 RX6 yX6_copies wsX6_copies) := goodIn_app (goodIn_of _ (by decide +kernel)) ggX6_saves_X6_copies
theorem dX6_saves_0 : decode cX6_saves 0 = .ok (.iconst 1, 1) := by decide +kernel
theorem dX6_saves_1 : decode cX6_saves 1 = .ok (.istore_n 1, 1) := by decide +kernel
theorem dX6_saves_2 : decode cX6_saves 2 = .ok (.iload_n 1, 1) := by decide +kernel
theorem dX6_saves_3 : decode cX6_saves 3 = .ok (.iconst 5, 1) := by decide +kernel
theorem dX6_saves_4 : decode cX6_saves 4 = .ok (.if_icmp .ge 25, 3) := by decide +kernel
theorem dX6_saves_7 : decode cX6_saves 7 = .ok (.aload_n 0, 1) := by decide +kernel
theorem dX6_saves_8 : decode cX6_saves 8 = .ok (.getfield 35, 3) := by decide +kernel
theorem dX6_saves_11 : decode cX6_saves 11 = .ok (.iconst 5, 1) := by decide +kernel
theorem dX6_saves_12 : decode cX6_saves 12 = .ok (.if_icmp .ne 17, 3) := by decide +kernel
theorem dX6_saves_15 : decode cX6_saves 15 = .ok (.aload_n 0, 1) := by decide +kernel
theorem dX6_saves_16 : decode cX6_saves 16 = .ok (.iload_n 1, 1) := by decide +kernel
theorem dX6_saves_17 : decode cX6_saves 17 = .ok (.iconst 1, 1) := by decide +kernel
theorem dX6_saves_18 : decode cX6_saves 18 = .ok (.iadd, 1) := by decide +kernel
theorem dX6_saves_19 : decode cX6_saves 19 = .ok (.iload_n 1, 1) := by decide +kernel
theorem dX6_saves_20 : decode cX6_saves 20 = .ok (.invokevirtual 39, 3) := by decide +kernel
theorem dX6_saves_23 : decode cX6_saves 23 = .ok (.iinc 1 1, 3) := by decide +kernel
theorem dX6_saves_26 : decode cX6_saves 26 = .ok (.goto (-24), 3) := by decide +kernel
theorem dX6_saves_29 : decode cX6_saves 29 = .ok (.aload_n 0, 1) := by decide +kernel
theorem dX6_saves_30 : decode cX6_saves 30 = .ok (.dup, 1) := by decide +kernel
theorem dX6_saves_31 : decode cX6_saves 31 = .ok (.getfield 35, 3) := by decide +kernel
theorem dX6_saves_34 : decode cX6_saves 34 = .ok (.aload_n 0, 1) := by decide +kernel
theorem dX6_saves_35 : decode cX6_saves 35 = .ok (.getfield 35, 3) := by decide +kernel
theorem dX6_saves_38 : decode cX6_saves 38 = .ok (.iconst 5, 1) := by decide +kernel
theorem dX6_saves_39 : decode cX6_saves 39 = .ok (.if_icmp .ne 7, 3) := by decide +kernel
theorem dX6_saves_42 : decode cX6_saves 42 = .ok (.iconst 1, 1) := by decide +kernel
theorem dX6_saves_43 : decode cX6_saves 43 = .ok (.goto 4, 3) := by decide +kernel
theorem dX6_saves_46 : decode cX6_saves 46 = .ok (.iconst 0, 1) := by decide +kernel
theorem dX6_saves_47 : decode cX6_saves 47 = .ok (.isub, 1) := by decide +kernel
theorem dX6_saves_48 : decode cX6_saves 48 = .ok (.putfield 35, 3) := by decide +kernel
theorem dX6_saves_51 : decode cX6_saves 51 = .ok (.aload_n 0, 1) := by decide +kernel
theorem dX6_saves_52 : decode cX6_saves 52 = .ok (.dup, 1) := by decide +kernel
theorem dX6_saves_53 : decode cX6_saves 53 = .ok (.getfield 35, 3) := by decide +kernel
theorem dX6_saves_56 : decode cX6_saves 56 = .ok (.iconst 1, 1) := by decide +kernel
theorem dX6_saves_57 : decode cX6_saves 57 = .ok (.iadd, 1) := by decide +kernel
theorem dX6_saves_58 : decode cX6_saves 58 = .ok (.putfield 35, 3) := by decide +kernel
theorem dX6_saves_61 : decode cX6_saves 61 = .ok (.aload_n 0, 1) := by decide +kernel
theorem dX6_saves_62 : decode cX6_saves 62 = .ok (.iconst 0, 1) := by decide +kernel
theorem dX6_saves_63 : decode cX6_saves 63 = .ok (.aload_n 0, 1) := by decide +kernel
theorem dX6_saves_64 : decode cX6_saves 64 = .ok (.getfield 35, 3) := by decide +kernel
theorem dX6_saves_67 : decode cX6_saves 67 = .ok (.invokevirtual 39, 3) := by decide +kernel
theorem dX6_saves_70 : decode cX6_saves 70 = .ok (.return_, 1) := by decide +kernel
set_option maxRecDepth 20000 in
theorem ggX6_isNode_X6_in : GoodIn wsX6_isNode wsX6_in := goodIn_r _ [5] (by decide +kernel) (by decide +kernel)
set_option maxRecDepth 20000 in
theorem gX6_isNode_X6_in : GoodIn wsX6_isNode (va_wsS RX6 43 yX6_in wsX6_in) := goodIn_app (goodIn_of _ (by decide +kernel)) ggX6_isNode_X6_in
theorem dX6_isNode_0 : decode cX6_isNode 0 = .ok (.iload_n 1, 1) := by decide +kernel
theorem dX6_isNode_1 : decode cX6_isNode 1 = .ok (.iconst 0, 1) := by decide +kernel
theorem dX6_isNode_2 : decode cX6_isNode 2 = .ok (.aload_n 0, 1) := by decide +kernel
theorem dX6_isNode_3 : decode cX6_isNode 3 = .ok (.getfield 7, 3) := by decide +kernel
theorem dX6_isNode_6 : decode cX6_isNode 6 = .ok (.iconst 0, 1) := by decide +kernel
theorem dX6_isNode_7 : decode cX6_isNode 7 = .ok (.iaload, 1) := by decide +kernel
theorem dX6_isNode_8 : decode cX6_isNode 8 = .ok (.iconst 1, 1) := by decide +kernel
theorem dX6_isNode_9 : decode cX6_isNode 9 = .ok (.isub, 1) := by decide +kernel
theorem dX6_isNode_10 : decode cX6_isNode 10 = .ok (.invokestatic 43, 3) := by decide +kernel
theorem dX6_isNode_13 : decode cX6_isNode 13 = .ok (.ireturn, 1) := by decide +kernel
set_option maxRecDepth 20000 in
theorem ggX6_isLink_X6_in : GoodIn wsX6_isLink wsX6_in := goodIn_r _ [5] (by decide +kernel) (by decide +kernel)
set_option maxRecDepth 20000 in
theorem gX6_isLink_X6_in : GoodIn wsX6_isLink (va_wsS RX6 43 yX6_in wsX6_in) := goodIn_app (goodIn_of _ (by decide +kernel)) ggX6_isLink_X6_in
theorem dX6_isLink_0 : decode cX6_isLink 0 = .ok (.iload_n 1, 1) := by decide +kernel
theorem dX6_isLink_1 : decode cX6_isLink 1 = .ok (.iconst 0, 1) := by decide +kernel
theorem dX6_isLink_2 : decode cX6_isLink 2 = .ok (.aload_n 0, 1) := by decide +kernel
theorem dX6_isLink_3 : decode cX6_isLink 3 = .ok (.getfield 7, 3) := by decide +kernel
theorem dX6_isLink_6 : decode cX6_isLink 6 = .ok (.iconst 1, 1) := by decide +kernel
theorem dX6_isLink_7 : decode cX6_isLink 7 = .ok (.iaload, 1) := by decide +kernel
theorem dX6_isLink_8 : decode cX6_isLink 8 = .ok (.iconst 1, 1) := by decide +kernel
theorem dX6_isLink_9 : decode cX6_isLink 9 = .ok (.isub, 1) := by decide +kernel
theorem dX6_isLink_10 : decode cX6_isLink 10 = .ok (.invokestatic 43, 3) := by decide +kernel
theorem dX6_isLink_13 : decode cX6_isLink 13 = .ok (.ireturn, 1) := by decide +kernel
set_option maxRecDepth 20000 in
theorem ggX6_isSensor_X6_in : GoodIn wsX6_isSensor wsX6_in := goodIn_r _ [5] (by decide +kernel) (by decide +kernel)
set_option maxRecDepth 20000 in
theorem gX6_isSensor_X6_in : GoodIn wsX6_isSensor (va_wsS RX6 43 yX6_in wsX6_in) := goodIn_app (goodIn_of _ (by decide +kernel)) ggX6_isSensor_X6_in
theorem dX6_isSensor_0 : decode cX6_isSensor 0 = .ok (.iload_n 1, 1) := by decide +kernel
theorem dX6_isSensor_1 : decode cX6_isSensor 1 = .ok (.iconst 0, 1) := by decide +kernel
theorem dX6_isSensor_2 : decode cX6_isSensor 2 = .ok (.aload_n 0, 1) := by decide +kernel
theorem dX6_isSensor_3 : decode cX6_isSensor 3 = .ok (.getfield 7, 3) := by decide +kernel
theorem dX6_isSensor_6 : decode cX6_isSensor 6 = .ok (.iconst 2, 1) := by decide +kernel
theorem dX6_isSensor_7 : decode cX6_isSensor 7 = .ok (.iaload, 1) := by decide +kernel
theorem dX6_isSensor_8 : decode cX6_isSensor 8 = .ok (.iconst 1, 1) := by decide +kernel
theorem dX6_isSensor_9 : decode cX6_isSensor 9 = .ok (.isub, 1) := by decide +kernel
theorem dX6_isSensor_10 : decode cX6_isSensor 10 = .ok (.invokestatic 43, 3) := by decide +kernel
theorem dX6_isSensor_13 : decode cX6_isSensor 13 = .ok (.ireturn, 1) := by decide +kernel
set_option maxRecDepth 20000 in
theorem ggX6_isInterest_X6_in : GoodIn wsX6_isInterest wsX6_in := goodIn_r _ [5] (by decide +kernel) (by decide +kernel)
set_option maxRecDepth 20000 in
theorem gX6_isInterest_X6_in : GoodIn wsX6_isInterest (va_wsS RX6 43 yX6_in wsX6_in) := goodIn_app (goodIn_of _ (by decide +kernel)) ggX6_isInterest_X6_in
theorem dX6_isInterest_0 : decode cX6_isInterest 0 = .ok (.iload_n 1, 1) := by decide +kernel
theorem dX6_isInterest_1 : decode cX6_isInterest 1 = .ok (.iconst 0, 1) := by decide +kernel
theorem dX6_isInterest_2 : decode cX6_isInterest 2 = .ok (.aload_n 0, 1) := by decide +kernel
theorem dX6_isInterest_3 : decode cX6_isInterest 3 = .ok (.getfield 7, 3) := by decide +kernel
theorem dX6_isInterest_6 : decode cX6_isInterest 6 = .ok (.iconst 3, 1) := by decide +kernel
theorem dX6_isInterest_7 : decode cX6_isInterest 7 = .ok (.iaload, 1) := by decide +kernel
theorem dX6_isInterest_8 : decode cX6_isInterest 8 = .ok (.iconst 1, 1) := by decide +kernel
theorem dX6_isInterest_9 : decode cX6_isInterest 9 = .ok (.isub, 1) := by decide +kernel
theorem dX6_isInterest_10 : decode cX6_isInterest 10 = .ok (.invokestatic 43, 3) := by decide +kernel
theorem dX6_isInterest_13 : decode cX6_isInterest 13 = .ok (.ireturn, 1) := by decide +kernel
theorem dX6_ofLink_0 : decode cX6_ofLink 0 = .ok (.aload_n 0, 1) := by decide +kernel
theorem dX6_ofLink_1 : decode cX6_ofLink 1 = .ok (.getfield 7, 3) := by decide +kernel
theorem dX6_ofLink_4 : decode cX6_ofLink 4 = .ok (.bipush 22, 2) := by decide +kernel
theorem dX6_ofLink_6 : decode cX6_ofLink 6 = .ok (.iconst 3, 1) := by decide +kernel
theorem dX6_ofLink_7 : decode cX6_ofLink 7 = .ok (.iload_n 1, 1) := by decide +kernel
theorem dX6_ofLink_8 : decode cX6_ofLink 8 = .ok (.imul, 1) := by decide +kernel
theorem dX6_ofLink_9 : decode cX6_ofLink 9 = .ok (.iadd, 1) := by decide +kernel
theorem dX6_ofLink_10 : decode cX6_ofLink 10 = .ok (.iload_n 2, 1) := by decide +kernel
theorem dX6_ofLink_11 : decode cX6_ofLink 11 = .ok (.iadd, 1) := by decide +kernel
theorem dX6_ofLink_12 : decode cX6_ofLink 12 = .ok (.iaload, 1) := by decide +kernel
theorem dX6_ofLink_13 : decode cX6_ofLink 13 = .ok (.ireturn, 1) := by decide +kernel
theorem dX6_ofSensor_0 : decode cX6_ofSensor 0 = .ok (.aload_n 0, 1) := by decide +kernel
theorem dX6_ofSensor_1 : decode cX6_ofSensor 1 = .ok (.getfield 7, 3) := by decide +kernel
theorem dX6_ofSensor_4 : decode cX6_ofSensor 4 = .ok (.bipush 82, 2) := by decide +kernel
theorem dX6_ofSensor_6 : decode cX6_ofSensor 6 = .ok (.iconst 3, 1) := by decide +kernel
theorem dX6_ofSensor_7 : decode cX6_ofSensor 7 = .ok (.iload_n 1, 1) := by decide +kernel
theorem dX6_ofSensor_8 : decode cX6_ofSensor 8 = .ok (.imul, 1) := by decide +kernel
theorem dX6_ofSensor_9 : decode cX6_ofSensor 9 = .ok (.iadd, 1) := by decide +kernel
theorem dX6_ofSensor_10 : decode cX6_ofSensor 10 = .ok (.iload_n 2, 1) := by decide +kernel
theorem dX6_ofSensor_11 : decode cX6_ofSensor 11 = .ok (.iadd, 1) := by decide +kernel
theorem dX6_ofSensor_12 : decode cX6_ofSensor 12 = .ok (.iaload, 1) := by decide +kernel
theorem dX6_ofSensor_13 : decode cX6_ofSensor 13 = .ok (.ireturn, 1) := by decide +kernel
theorem dX6_ofInterest_0 : decode cX6_ofInterest 0 = .ok (.aload_n 0, 1) := by decide +kernel
theorem dX6_ofInterest_1 : decode cX6_ofInterest 1 = .ok (.getfield 7, 3) := by decide +kernel
theorem dX6_ofInterest_4 : decode cX6_ofInterest 4 = .ok (.bipush 100, 2) := by decide +kernel
theorem dX6_ofInterest_6 : decode cX6_ofInterest 6 = .ok (.bipush 7, 2) := by decide +kernel
theorem dX6_ofInterest_8 : decode cX6_ofInterest 8 = .ok (.iload_n 1, 1) := by decide +kernel
theorem dX6_ofInterest_9 : decode cX6_ofInterest 9 = .ok (.imul, 1) := by decide +kernel
theorem dX6_ofInterest_10 : decode cX6_ofInterest 10 = .ok (.iadd, 1) := by decide +kernel
theorem dX6_ofInterest_11 : decode cX6_ofInterest 11 = .ok (.iload_n 2, 1) := by decide +kernel
theorem dX6_ofInterest_12 : decode cX6_ofInterest 12 = .ok (.iadd, 1) := by decide +kernel
theorem dX6_ofInterest_13 : decode cX6_ofInterest 13 = .ok (.iaload, 1) := by decide +kernel
theorem dX6_ofInterest_14 : decode cX6_ofInterest 14 = .ok (.ireturn, 1) := by decide +kernel
theorem dX6_isAlive_0 : decode cX6_isAlive 0 = .ok (.aload_n 0, 1) := by decide +kernel
theorem dX6_isAlive_1 : decode cX6_isAlive 1 = .ok (.getfield 7, 3) := by decide +kernel
theorem dX6_isAlive_4 : decode cX6_isAlive 4 = .ok (.bipush 12, 2) := by decide +kernel
theorem dX6_isAlive_6 : decode cX6_isAlive 6 = .ok (.iload_n 1, 1) := by decide +kernel
theorem dX6_isAlive_7 : decode cX6_isAlive 7 = .ok (.iadd, 1) := by decide +kernel
theorem dX6_isAlive_8 : decode cX6_isAlive 8 = .ok (.iaload, 1) := by decide +kernel
theorem dX6_isAlive_9 : decode cX6_isAlive 9 = .ok (.ifCond .le 7, 3) := by decide +kernel
theorem dX6_isAlive_12 : decode cX6_isAlive 12 = .ok (.iconst 1, 1) := by decide +kernel
theorem dX6_isAlive_13 : decode cX6_isAlive 13 = .ok (.goto 4, 3) := by decide +kernel
theorem dX6_isAlive_16 : decode cX6_isAlive 16 = .ok (.iconst 0, 1) := by decide +kernel
theorem dX6_isAlive_17 : decode cX6_isAlive 17 = .ok (.ireturn, 1) := by decide +kernel
set_option maxRecDepth 20000 in
theorem ggX6_linkOf_X6_ofLink : GoodIn wsX6_linkOf wsX6_ofLink := goodIn_r _ [6, 1, 7, 8, 9, 10, 11, 12, 13, 14, 15, 16, 17, 18, 19, 20, 21, 22] (by decide +kernel) (by decide +kernel)
set_option maxRecDepth 20000 in
theorem gX6_linkOf_X6_ofLink : GoodIn wsX6_linkOf (wsV RX6 47 RX6 yX6_ofLink wsX6_ofLink) := goodIn_app (goodIn_of _ (by decide +kernel)) ggX6_linkOf_X6_ofLink
theorem dX6_linkOf_0 : decode cX6_linkOf 0 = .ok (.sipush (-1000), 3) := by decide +kernel
theorem dX6_linkOf_3 : decode cX6_linkOf 3 = .ok (.istore_n 3, 1) := by decide +kernel
theorem dX6_linkOf_4 : decode cX6_linkOf 4 = .ok (.iconst 0, 1) := by decide +kernel
theorem dX6_linkOf_5 : decode cX6_linkOf 5 = .ok (.istore 4, 2) := by decide +kernel
theorem dX6_linkOf_7 : decode cX6_linkOf 7 = .ok (.iload 4, 2) := by decide +kernel
theorem dX6_linkOf_9 : decode cX6_linkOf 9 = .ok (.aload_n 0, 1) := by decide +kernel
theorem dX6_linkOf_10 : decode cX6_linkOf 10 = .ok (.getfield 7, 3) := by decide +kernel
theorem dX6_linkOf_13 : decode cX6_linkOf 13 = .ok (.iconst 1, 1) := by decide +kernel
theorem dX6_linkOf_14 : decode cX6_linkOf 14 = .ok (.iaload, 1) := by decide +kernel
theorem dX6_linkOf_15 : decode cX6_linkOf 15 = .ok (.if_icmp .ge 58, 3) := by decide +kernel
theorem dX6_linkOf_18 : decode cX6_linkOf 18 = .ok (.aload_n 0, 1) := by decide +kernel
theorem dX6_linkOf_19 : decode cX6_linkOf 19 = .ok (.iload 4, 2) := by decide +kernel
theorem dX6_linkOf_21 : decode cX6_linkOf 21 = .ok (.iconst 0, 1) := by decide +kernel
theorem dX6_linkOf_22 : decode cX6_linkOf 22 = .ok (.invokevirtual 47, 3) := by decide +kernel
theorem dX6_linkOf_25 : decode cX6_linkOf 25 = .ok (.istore 5, 2) := by decide +kernel
theorem dX6_linkOf_27 : decode cX6_linkOf 27 = .ok (.aload_n 0, 1) := by decide +kernel
theorem dX6_linkOf_28 : decode cX6_linkOf 28 = .ok (.iload 4, 2) := by decide +kernel
theorem dX6_linkOf_30 : decode cX6_linkOf 30 = .ok (.iconst 1, 1) := by decide +kernel
theorem dX6_linkOf_31 : decode cX6_linkOf 31 = .ok (.invokevirtual 47, 3) := by decide +kernel
theorem dX6_linkOf_34 : decode cX6_linkOf 34 = .ok (.istore 6, 2) := by decide +kernel
theorem dX6_linkOf_36 : decode cX6_linkOf 36 = .ok (.iload 5, 2) := by decide +kernel
theorem dX6_linkOf_38 : decode cX6_linkOf 38 = .ok (.iload_n 1, 1) := by decide +kernel
theorem dX6_linkOf_39 : decode cX6_linkOf 39 = .ok (.if_icmp .ne 9, 3) := by decide +kernel
theorem dX6_linkOf_42 : decode cX6_linkOf 42 = .ok (.iload 6, 2) := by decide +kernel
theorem dX6_linkOf_44 : decode cX6_linkOf 44 = .ok (.iload_n 2, 1) := by decide +kernel
theorem dX6_linkOf_45 : decode cX6_linkOf 45 = .ok (.if_icmp .eq 15, 3) := by decide +kernel
theorem dX6_linkOf_48 : decode cX6_linkOf 48 = .ok (.iload 5, 2) := by decide +kernel
theorem dX6_linkOf_50 : decode cX6_linkOf 50 = .ok (.iload_n 2, 1) := by decide +kernel
theorem dX6_linkOf_51 : decode cX6_linkOf 51 = .ok (.if_icmp .ne 14, 3) := by decide +kernel
theorem dX6_linkOf_54 : decode cX6_linkOf 54 = .ok (.iload 6, 2) := by decide +kernel
theorem dX6_linkOf_56 : decode cX6_linkOf 56 = .ok (.iload_n 1, 1) := by decide +kernel
theorem dX6_linkOf_57 : decode cX6_linkOf 57 = .ok (.if_icmp .ne 8, 3) := by decide +kernel
theorem dX6_linkOf_60 : decode cX6_linkOf 60 = .ok (.iload 4, 2) := by decide +kernel
theorem dX6_linkOf_62 : decode cX6_linkOf 62 = .ok (.goto 4, 3) := by decide +kernel
theorem dX6_linkOf_65 : decode cX6_linkOf 65 = .ok (.iload_n 3, 1) := by decide +kernel
theorem dX6_linkOf_66 : decode cX6_linkOf 66 = .ok (.istore_n 3, 1) := by decide +kernel
theorem dX6_linkOf_67 : decode cX6_linkOf 67 = .ok (.iinc 4 1, 3) := by decide +kernel
theorem dX6_linkOf_70 : decode cX6_linkOf 70 = .ok (.goto (-63), 3) := by decide +kernel
theorem dX6_linkOf_73 : decode cX6_linkOf 73 = .ok (.iload_n 3, 1) := by decide +kernel
theorem dX6_linkOf_74 : decode cX6_linkOf 74 = .ok (.ireturn, 1) := by decide +kernel
theorem dX6_wayAt_0 : decode cX6_wayAt 0 = .ok (.sipush 135, 3) := by decide +kernel
theorem dX6_wayAt_3 : decode cX6_wayAt 3 = .ok (.bipush 11, 2) := by decide +kernel
theorem dX6_wayAt_5 : decode cX6_wayAt 5 = .ok (.bipush 6, 2) := by decide +kernel
theorem dX6_wayAt_7 : decode cX6_wayAt 7 = .ok (.iload_n 1, 1) := by decide +kernel
theorem dX6_wayAt_8 : decode cX6_wayAt 8 = .ok (.imul, 1) := by decide +kernel
theorem dX6_wayAt_9 : decode cX6_wayAt 9 = .ok (.iload_n 2, 1) := by decide +kernel
theorem dX6_wayAt_10 : decode cX6_wayAt 10 = .ok (.iadd, 1) := by decide +kernel
theorem dX6_wayAt_11 : decode cX6_wayAt 11 = .ok (.imul, 1) := by decide +kernel
theorem dX6_wayAt_12 : decode cX6_wayAt 12 = .ok (.iadd, 1) := by decide +kernel
theorem dX6_wayAt_13 : decode cX6_wayAt 13 = .ok (.ireturn, 1) := by decide +kernel
set_option maxRecDepth 20000 in
theorem ggX6_lengthOf_X6_wayAt : GoodIn wsX6_lengthOf wsX6_wayAt := goodIn_r _ [6] (by decide +kernel) (by decide +kernel)
set_option maxRecDepth 20000 in
theorem gX6_lengthOf_X6_wayAt : GoodIn wsX6_lengthOf (wsV RX6 51 RX6 yX6_wayAt wsX6_wayAt) := goodIn_app (goodIn_of _ (by decide +kernel)) ggX6_lengthOf_X6_wayAt
theorem dX6_lengthOf_0 : decode cX6_lengthOf 0 = .ok (.aload_n 0, 1) := by decide +kernel
theorem dX6_lengthOf_1 : decode cX6_lengthOf 1 = .ok (.getfield 7, 3) := by decide +kernel
theorem dX6_lengthOf_4 : decode cX6_lengthOf 4 = .ok (.aload_n 0, 1) := by decide +kernel
theorem dX6_lengthOf_5 : decode cX6_lengthOf 5 = .ok (.iload_n 1, 1) := by decide +kernel
theorem dX6_lengthOf_6 : decode cX6_lengthOf 6 = .ok (.iload_n 2, 1) := by decide +kernel
theorem dX6_lengthOf_7 : decode cX6_lengthOf 7 = .ok (.invokevirtual 51, 3) := by decide +kernel
theorem dX6_lengthOf_10 : decode cX6_lengthOf 10 = .ok (.iaload, 1) := by decide +kernel
theorem dX6_lengthOf_11 : decode cX6_lengthOf 11 = .ok (.ireturn, 1) := by decide +kernel
set_option maxRecDepth 20000 in
theorem ggX6_nodeOf_X6_wayAt : GoodIn wsX6_nodeOf wsX6_wayAt := goodIn_r _ [6] (by decide +kernel) (by decide +kernel)
set_option maxRecDepth 20000 in
theorem gX6_nodeOf_X6_wayAt : GoodIn wsX6_nodeOf (wsV RX6 51 RX6 yX6_wayAt wsX6_wayAt) := goodIn_app (goodIn_of _ (by decide +kernel)) ggX6_nodeOf_X6_wayAt
theorem dX6_nodeOf_0 : decode cX6_nodeOf 0 = .ok (.aload_n 0, 1) := by decide +kernel
theorem dX6_nodeOf_1 : decode cX6_nodeOf 1 = .ok (.getfield 7, 3) := by decide +kernel
theorem dX6_nodeOf_4 : decode cX6_nodeOf 4 = .ok (.aload_n 0, 1) := by decide +kernel
theorem dX6_nodeOf_5 : decode cX6_nodeOf 5 = .ok (.iload_n 1, 1) := by decide +kernel
theorem dX6_nodeOf_6 : decode cX6_nodeOf 6 = .ok (.iload_n 2, 1) := by decide +kernel
theorem dX6_nodeOf_7 : decode cX6_nodeOf 7 = .ok (.invokevirtual 51, 3) := by decide +kernel
theorem dX6_nodeOf_10 : decode cX6_nodeOf 10 = .ok (.iconst 1, 1) := by decide +kernel
theorem dX6_nodeOf_11 : decode cX6_nodeOf 11 = .ok (.iadd, 1) := by decide +kernel
theorem dX6_nodeOf_12 : decode cX6_nodeOf 12 = .ok (.iload_n 3, 1) := by decide +kernel
theorem dX6_nodeOf_13 : decode cX6_nodeOf 13 = .ok (.iadd, 1) := by decide +kernel
theorem dX6_nodeOf_14 : decode cX6_nodeOf 14 = .ok (.iaload, 1) := by decide +kernel
theorem dX6_nodeOf_15 : decode cX6_nodeOf 15 = .ok (.ireturn, 1) := by decide +kernel
theorem dX6_laysNode_0 : decode cX6_laysNode 0 = .ok (.aload_n 0, 1) := by decide +kernel
theorem dX6_laysNode_1 : decode cX6_laysNode 1 = .ok (.getfield 7, 3) := by decide +kernel
theorem dX6_laysNode_4 : decode cX6_laysNode 4 = .ok (.bipush 12, 2) := by decide +kernel
theorem dX6_laysNode_6 : decode cX6_laysNode 6 = .ok (.aload_n 0, 1) := by decide +kernel
theorem dX6_laysNode_7 : decode cX6_laysNode 7 = .ok (.getfield 7, 3) := by decide +kernel
theorem dX6_laysNode_10 : decode cX6_laysNode 10 = .ok (.iconst 0, 1) := by decide +kernel
theorem dX6_laysNode_11 : decode cX6_laysNode 11 = .ok (.iaload, 1) := by decide +kernel
theorem dX6_laysNode_12 : decode cX6_laysNode 12 = .ok (.iadd, 1) := by decide +kernel
theorem dX6_laysNode_13 : decode cX6_laysNode 13 = .ok (.iload_n 1, 1) := by decide +kernel
theorem dX6_laysNode_14 : decode cX6_laysNode 14 = .ok (.iastore, 1) := by decide +kernel
theorem dX6_laysNode_15 : decode cX6_laysNode 15 = .ok (.aload_n 0, 1) := by decide +kernel
theorem dX6_laysNode_16 : decode cX6_laysNode 16 = .ok (.getfield 7, 3) := by decide +kernel
theorem dX6_laysNode_19 : decode cX6_laysNode 19 = .ok (.iconst 0, 1) := by decide +kernel
theorem dX6_laysNode_20 : decode cX6_laysNode 20 = .ok (.dup2, 1) := by decide +kernel
theorem dX6_laysNode_21 : decode cX6_laysNode 21 = .ok (.iaload, 1) := by decide +kernel
theorem dX6_laysNode_22 : decode cX6_laysNode 22 = .ok (.iconst 1, 1) := by decide +kernel
theorem dX6_laysNode_23 : decode cX6_laysNode 23 = .ok (.iadd, 1) := by decide +kernel
theorem dX6_laysNode_24 : decode cX6_laysNode 24 = .ok (.iastore, 1) := by decide +kernel
theorem dX6_laysNode_25 : decode cX6_laysNode 25 = .ok (.return_, 1) := by decide +kernel
theorem dX6_laysLink_0 : decode cX6_laysLink 0 = .ok (.bipush 22, 2) := by decide +kernel
theorem dX6_laysLink_2 : decode cX6_laysLink 2 = .ok (.iconst 3, 1) := by decide +kernel
theorem dX6_laysLink_3 : decode cX6_laysLink 3 = .ok (.aload_n 0, 1) := by decide +kernel
theorem dX6_laysLink_4 : decode cX6_laysLink 4 = .ok (.getfield 7, 3) := by decide +kernel
theorem dX6_laysLink_7 : decode cX6_laysLink 7 = .ok (.iconst 1, 1) := by decide +kernel
theorem dX6_laysLink_8 : decode cX6_laysLink 8 = .ok (.iaload, 1) := by decide +kernel
theorem dX6_laysLink_9 : decode cX6_laysLink 9 = .ok (.imul, 1) := by decide +kernel
theorem dX6_laysLink_10 : decode cX6_laysLink 10 = .ok (.iadd, 1) := by decide +kernel
theorem dX6_laysLink_11 : decode cX6_laysLink 11 = .ok (.istore 4, 2) := by decide +kernel
theorem dX6_laysLink_13 : decode cX6_laysLink 13 = .ok (.aload_n 0, 1) := by decide +kernel
theorem dX6_laysLink_14 : decode cX6_laysLink 14 = .ok (.getfield 7, 3) := by decide +kernel
theorem dX6_laysLink_17 : decode cX6_laysLink 17 = .ok (.iload 4, 2) := by decide +kernel
theorem dX6_laysLink_19 : decode cX6_laysLink 19 = .ok (.iload_n 1, 1) := by decide +kernel
theorem dX6_laysLink_20 : decode cX6_laysLink 20 = .ok (.iastore, 1) := by decide +kernel
theorem dX6_laysLink_21 : decode cX6_laysLink 21 = .ok (.aload_n 0, 1) := by decide +kernel
theorem dX6_laysLink_22 : decode cX6_laysLink 22 = .ok (.getfield 7, 3) := by decide +kernel
theorem dX6_laysLink_25 : decode cX6_laysLink 25 = .ok (.iload 4, 2) := by decide +kernel
theorem dX6_laysLink_27 : decode cX6_laysLink 27 = .ok (.iconst 1, 1) := by decide +kernel
theorem dX6_laysLink_28 : decode cX6_laysLink 28 = .ok (.iadd, 1) := by decide +kernel
theorem dX6_laysLink_29 : decode cX6_laysLink 29 = .ok (.iload_n 2, 1) := by decide +kernel
theorem dX6_laysLink_30 : decode cX6_laysLink 30 = .ok (.iastore, 1) := by decide +kernel
theorem dX6_laysLink_31 : decode cX6_laysLink 31 = .ok (.aload_n 0, 1) := by decide +kernel
theorem dX6_laysLink_32 : decode cX6_laysLink 32 = .ok (.getfield 7, 3) := by decide +kernel
theorem dX6_laysLink_35 : decode cX6_laysLink 35 = .ok (.iload 4, 2) := by decide +kernel
theorem dX6_laysLink_37 : decode cX6_laysLink 37 = .ok (.iconst 2, 1) := by decide +kernel
theorem dX6_laysLink_38 : decode cX6_laysLink 38 = .ok (.iadd, 1) := by decide +kernel
theorem dX6_laysLink_39 : decode cX6_laysLink 39 = .ok (.iload_n 3, 1) := by decide +kernel
theorem dX6_laysLink_40 : decode cX6_laysLink 40 = .ok (.iastore, 1) := by decide +kernel
theorem dX6_laysLink_41 : decode cX6_laysLink 41 = .ok (.aload_n 0, 1) := by decide +kernel
theorem dX6_laysLink_42 : decode cX6_laysLink 42 = .ok (.getfield 7, 3) := by decide +kernel
theorem dX6_laysLink_45 : decode cX6_laysLink 45 = .ok (.iconst 1, 1) := by decide +kernel
theorem dX6_laysLink_46 : decode cX6_laysLink 46 = .ok (.dup2, 1) := by decide +kernel
theorem dX6_laysLink_47 : decode cX6_laysLink 47 = .ok (.iaload, 1) := by decide +kernel
theorem dX6_laysLink_48 : decode cX6_laysLink 48 = .ok (.iconst 1, 1) := by decide +kernel
theorem dX6_laysLink_49 : decode cX6_laysLink 49 = .ok (.iadd, 1) := by decide +kernel
theorem dX6_laysLink_50 : decode cX6_laysLink 50 = .ok (.iastore, 1) := by decide +kernel
theorem dX6_laysLink_51 : decode cX6_laysLink 51 = .ok (.return_, 1) := by decide +kernel
set_option maxRecDepth 20000 in
theorem ggX6_laysSensor_X6_wayAt : GoodIn wsX6_laysSensor wsX6_wayAt := goodIn_r _ [6] (by decide +kernel) (by decide +kernel)
set_option maxRecDepth 20000 in
theorem gX6_laysSensor_X6_wayAt : GoodIn wsX6_laysSensor (wsV RX6 51 RX6 yX6_wayAt wsX6_wayAt) := goodIn_app (goodIn_of _ (by decide +kernel)) ggX6_laysSensor_X6_wayAt
theorem dX6_laysSensor_0 : decode cX6_laysSensor 0 = .ok (.bipush 82, 2) := by decide +kernel
theorem dX6_laysSensor_2 : decode cX6_laysSensor 2 = .ok (.iconst 3, 1) := by decide +kernel
theorem dX6_laysSensor_3 : decode cX6_laysSensor 3 = .ok (.aload_n 0, 1) := by decide +kernel
theorem dX6_laysSensor_4 : decode cX6_laysSensor 4 = .ok (.getfield 7, 3) := by decide +kernel
theorem dX6_laysSensor_7 : decode cX6_laysSensor 7 = .ok (.iconst 2, 1) := by decide +kernel
