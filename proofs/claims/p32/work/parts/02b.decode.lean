set_option maxRecDepth 20000 in
theorem ggX0_init_X1_init : GoodIn wsX0_init wsX1_init := goodIn_r _ [10, 11, 2, 3, 12, 13, 14, 15, 16, 17, 18, 19, 20, 21, 22, 26, 27, 28, 29, 30, 31, 32] (by decide +kernel) (by decide +kernel)
set_option maxRecDepth 20000 in
theorem gX0_init_X1_init : GoodIn wsX0_init (wsX1_init) := ggX0_init_X1_init
theorem dX0_init_0 : decode cX0_init 0 = .ok (.aload_n 0, 1) := by decide +kernel
theorem dX0_init_1 : decode cX0_init 1 = .ok (.invokespecial 3, 3) := by decide +kernel
theorem dX0_init_4 : decode cX0_init 4 = .ok (.aload_n 0, 1) := by decide +kernel
theorem dX0_init_5 : decode cX0_init 5 = .ok (.iconst 5, 1) := by decide +kernel
theorem dX0_init_6 : decode cX0_init 6 = .ok (.anewarray 9, 3) := by decide +kernel
theorem dX0_init_9 : decode cX0_init 9 = .ok (.putfield 11, 3) := by decide +kernel
theorem dX0_init_12 : decode cX0_init 12 = .ok (.iconst 0, 1) := by decide +kernel
theorem dX0_init_13 : decode cX0_init 13 = .ok (.istore_n 1, 1) := by decide +kernel
theorem dX0_init_14 : decode cX0_init 14 = .ok (.iload_n 1, 1) := by decide +kernel
theorem dX0_init_15 : decode cX0_init 15 = .ok (.aload_n 0, 1) := by decide +kernel
theorem dX0_init_16 : decode cX0_init 16 = .ok (.getfield 11, 3) := by decide +kernel
theorem dX0_init_19 : decode cX0_init 19 = .ok (.arraylength, 1) := by decide +kernel
theorem dX0_init_20 : decode cX0_init 20 = .ok (.if_icmp .ge 22, 3) := by decide +kernel
theorem dX0_init_23 : decode cX0_init 23 = .ok (.aload_n 0, 1) := by decide +kernel
theorem dX0_init_24 : decode cX0_init 24 = .ok (.getfield 11, 3) := by decide +kernel
theorem dX0_init_27 : decode cX0_init 27 = .ok (.iload_n 1, 1) := by decide +kernel
theorem dX0_init_28 : decode cX0_init 28 = .ok (.new 9, 3) := by decide +kernel
theorem dX0_init_31 : decode cX0_init 31 = .ok (.dup, 1) := by decide +kernel
theorem dX0_init_32 : decode cX0_init 32 = .ok (.invokespecial 17, 3) := by decide +kernel
theorem dX0_init_35 : decode cX0_init 35 = .ok (.aastore, 1) := by decide +kernel
theorem dX0_init_36 : decode cX0_init 36 = .ok (.iinc 1 1, 3) := by decide +kernel
theorem dX0_init_39 : decode cX0_init 39 = .ok (.goto (-25), 3) := by decide +kernel
theorem dX0_init_42 : decode cX0_init 42 = .ok (.return_, 1) := by decide +kernel
set_option maxRecDepth 20000 in
theorem ggX0_record_X0_stateAt : GoodIn wsX0_record wsX0_stateAt := goodIn_r _ [7, 2, 8, 32, 33, 34] (by decide +kernel) (by decide +kernel)
set_option maxRecDepth 20000 in
theorem gX0_record_X0_stateAt : GoodIn wsX0_record (wsV RX0 25 RX0 yX0_stateAt wsX0_stateAt) := goodIn_app (goodIn_of _ (by decide +kernel)) ggX0_record_X0_stateAt
set_option maxRecDepth 20000 in
theorem ggX0_record_X1_copyFrom : GoodIn wsX0_record wsX1_copyFrom := goodIn_r _ [13, 14, 15, 16, 17, 18, 19, 20, 21, 22, 23, 24, 25, 26, 27, 28, 29, 30, 31, 35, 36, 37, 38, 39, 40, 41] (by decide +kernel) (by decide +kernel)
set_option maxRecDepth 20000 in
theorem gX0_record_X1_copyFrom : GoodIn wsX0_record (wsV RX0 29 RX1 yX1_copyFrom wsX1_copyFrom) := goodIn_app (goodIn_of _ (by decide +kernel)) ggX0_record_X1_copyFrom
theorem dX0_record_0 : decode cX0_record 0 = .ok (.aload_n 0, 1) := by decide +kernel
theorem dX0_record_1 : decode cX0_record 1 = .ok (.getfield 18, 3) := by decide +kernel
theorem dX0_record_4 : decode cX0_record 4 = .ok (.iconst 5, 1) := by decide +kernel
theorem dX0_record_5 : decode cX0_record 5 = .ok (.if_icmp .ne 25, 3) := by decide +kernel
theorem dX0_record_8 : decode cX0_record 8 = .ok (.aload_n 0, 1) := by decide +kernel
theorem dX0_record_9 : decode cX0_record 9 = .ok (.aload_n 0, 1) := by decide +kernel
theorem dX0_record_10 : decode cX0_record 10 = .ok (.getfield 22, 3) := by decide +kernel
theorem dX0_record_13 : decode cX0_record 13 = .ok (.iconst 1, 1) := by decide +kernel
theorem dX0_record_14 : decode cX0_record 14 = .ok (.iadd, 1) := by decide +kernel
theorem dX0_record_15 : decode cX0_record 15 = .ok (.iconst 5, 1) := by decide +kernel
theorem dX0_record_16 : decode cX0_record 16 = .ok (.irem, 1) := by decide +kernel
theorem dX0_record_17 : decode cX0_record 17 = .ok (.putfield 22, 3) := by decide +kernel
theorem dX0_record_20 : decode cX0_record 20 = .ok (.aload_n 0, 1) := by decide +kernel
theorem dX0_record_21 : decode cX0_record 21 = .ok (.dup, 1) := by decide +kernel
theorem dX0_record_22 : decode cX0_record 22 = .ok (.getfield 18, 3) := by decide +kernel
theorem dX0_record_25 : decode cX0_record 25 = .ok (.iconst 1, 1) := by decide +kernel
theorem dX0_record_26 : decode cX0_record 26 = .ok (.isub, 1) := by decide +kernel
theorem dX0_record_27 : decode cX0_record 27 = .ok (.putfield 18, 3) := by decide +kernel
theorem dX0_record_30 : decode cX0_record 30 = .ok (.aload_n 0, 1) := by decide +kernel
theorem dX0_record_31 : decode cX0_record 31 = .ok (.aload_n 0, 1) := by decide +kernel
theorem dX0_record_32 : decode cX0_record 32 = .ok (.getfield 18, 3) := by decide +kernel
theorem dX0_record_35 : decode cX0_record 35 = .ok (.invokevirtual 25, 3) := by decide +kernel
theorem dX0_record_38 : decode cX0_record 38 = .ok (.astore_n 2, 1) := by decide +kernel
theorem dX0_record_39 : decode cX0_record 39 = .ok (.aload_n 2, 1) := by decide +kernel
theorem dX0_record_40 : decode cX0_record 40 = .ok (.ifnull 18, 3) := by decide +kernel
theorem dX0_record_43 : decode cX0_record 43 = .ok (.aload_n 2, 1) := by decide +kernel
theorem dX0_record_44 : decode cX0_record 44 = .ok (.aload_n 1, 1) := by decide +kernel
theorem dX0_record_45 : decode cX0_record 45 = .ok (.invokevirtual 29, 3) := by decide +kernel
theorem dX0_record_48 : decode cX0_record 48 = .ok (.aload_n 0, 1) := by decide +kernel
theorem dX0_record_49 : decode cX0_record 49 = .ok (.dup, 1) := by decide +kernel
theorem dX0_record_50 : decode cX0_record 50 = .ok (.getfield 18, 3) := by decide +kernel
theorem dX0_record_53 : decode cX0_record 53 = .ok (.iconst 1, 1) := by decide +kernel
theorem dX0_record_54 : decode cX0_record 54 = .ok (.iadd, 1) := by decide +kernel
theorem dX0_record_55 : decode cX0_record 55 = .ok (.putfield 18, 3) := by decide +kernel
theorem dX0_record_58 : decode cX0_record 58 = .ok (.return_, 1) := by decide +kernel
set_option maxRecDepth 20000 in
theorem ggX0_restore_X0_stateAt : GoodIn wsX0_restore wsX0_stateAt := goodIn_r _ [6, 7, 8, 32, 33, 34] (by decide +kernel) (by decide +kernel)
set_option maxRecDepth 20000 in
theorem gX0_restore_X0_stateAt : GoodIn wsX0_restore (wsV RX0 25 RX0 yX0_stateAt wsX0_stateAt) := goodIn_app (goodIn_of _ (by decide +kernel)) ggX0_restore_X0_stateAt
set_option maxRecDepth 20000 in
theorem ggX0_restore_X1_copyFrom : GoodIn wsX0_restore wsX1_copyFrom := goodIn_r _ [13, 14, 15, 16, 17, 18, 19, 20, 21, 22, 23, 24, 25, 26, 27, 28, 29, 30, 31, 35, 36, 37, 38, 39, 40, 41] (by decide +kernel) (by decide +kernel)
set_option maxRecDepth 20000 in
theorem gX0_restore_X1_copyFrom : GoodIn wsX0_restore (wsV RX0 29 RX1 yX1_copyFrom wsX1_copyFrom) := goodIn_app (goodIn_of _ (by decide +kernel)) ggX0_restore_X1_copyFrom
theorem dX0_restore_0 : decode cX0_restore 0 = .ok (.aload_n 0, 1) := by decide +kernel
theorem dX0_restore_1 : decode cX0_restore 1 = .ok (.getfield 18, 3) := by decide +kernel
theorem dX0_restore_4 : decode cX0_restore 4 = .ok (.ifCond .le 16, 3) := by decide +kernel
theorem dX0_restore_7 : decode cX0_restore 7 = .ok (.aload_n 0, 1) := by decide +kernel
theorem dX0_restore_8 : decode cX0_restore 8 = .ok (.aload_n 0, 1) := by decide +kernel
theorem dX0_restore_9 : decode cX0_restore 9 = .ok (.getfield 18, 3) := by decide +kernel
theorem dX0_restore_12 : decode cX0_restore 12 = .ok (.iconst 1, 1) := by decide +kernel
theorem dX0_restore_13 : decode cX0_restore 13 = .ok (.isub, 1) := by decide +kernel
theorem dX0_restore_14 : decode cX0_restore 14 = .ok (.invokevirtual 25, 3) := by decide +kernel
theorem dX0_restore_17 : decode cX0_restore 17 = .ok (.goto 4, 3) := by decide +kernel
theorem dX0_restore_20 : decode cX0_restore 20 = .ok (.aconst_null, 1) := by decide +kernel
theorem dX0_restore_21 : decode cX0_restore 21 = .ok (.astore_n 2, 1) := by decide +kernel
theorem dX0_restore_22 : decode cX0_restore 22 = .ok (.aload_n 2, 1) := by decide +kernel
theorem dX0_restore_23 : decode cX0_restore 23 = .ok (.ifnonnull 5, 3) := by decide +kernel
theorem dX0_restore_26 : decode cX0_restore 26 = .ok (.iconst 0, 1) := by decide +kernel
theorem dX0_restore_27 : decode cX0_restore 27 = .ok (.ireturn, 1) := by decide +kernel
theorem dX0_restore_28 : decode cX0_restore 28 = .ok (.aload_n 1, 1) := by decide +kernel
theorem dX0_restore_29 : decode cX0_restore 29 = .ok (.aload_n 2, 1) := by decide +kernel
theorem dX0_restore_30 : decode cX0_restore 30 = .ok (.invokevirtual 29, 3) := by decide +kernel
theorem dX0_restore_33 : decode cX0_restore 33 = .ok (.aload_n 0, 1) := by decide +kernel
theorem dX0_restore_34 : decode cX0_restore 34 = .ok (.dup, 1) := by decide +kernel
theorem dX0_restore_35 : decode cX0_restore 35 = .ok (.getfield 18, 3) := by decide +kernel
theorem dX0_restore_38 : decode cX0_restore 38 = .ok (.iconst 1, 1) := by decide +kernel
theorem dX0_restore_39 : decode cX0_restore 39 = .ok (.isub, 1) := by decide +kernel
theorem dX0_restore_40 : decode cX0_restore 40 = .ok (.putfield 18, 3) := by decide +kernel
theorem dX0_restore_43 : decode cX0_restore 43 = .ok (.iconst 1, 1) := by decide +kernel
theorem dX0_restore_44 : decode cX0_restore 44 = .ok (.ireturn, 1) := by decide +kernel
theorem dX0_stateAt_0 : decode cX0_stateAt 0 = .ok (.aload_n 0, 1) := by decide +kernel
theorem dX0_stateAt_1 : decode cX0_stateAt 1 = .ok (.getfield 22, 3) := by decide +kernel
theorem dX0_stateAt_4 : decode cX0_stateAt 4 = .ok (.iload_n 1, 1) := by decide +kernel
theorem dX0_stateAt_5 : decode cX0_stateAt 5 = .ok (.iadd, 1) := by decide +kernel
theorem dX0_stateAt_6 : decode cX0_stateAt 6 = .ok (.iconst 5, 1) := by decide +kernel
theorem dX0_stateAt_7 : decode cX0_stateAt 7 = .ok (.irem, 1) := by decide +kernel
theorem dX0_stateAt_8 : decode cX0_stateAt 8 = .ok (.istore_n 2, 1) := by decide +kernel
theorem dX0_stateAt_9 : decode cX0_stateAt 9 = .ok (.iload_n 2, 1) := by decide +kernel
theorem dX0_stateAt_10 : decode cX0_stateAt 10 = .ok (.ifCond .lt 21, 3) := by decide +kernel
theorem dX0_stateAt_13 : decode cX0_stateAt 13 = .ok (.iload_n 2, 1) := by decide +kernel
theorem dX0_stateAt_14 : decode cX0_stateAt 14 = .ok (.aload_n 0, 1) := by decide +kernel
theorem dX0_stateAt_15 : decode cX0_stateAt 15 = .ok (.getfield 11, 3) := by decide +kernel
theorem dX0_stateAt_18 : decode cX0_stateAt 18 = .ok (.arraylength, 1) := by decide +kernel
theorem dX0_stateAt_19 : decode cX0_stateAt 19 = .ok (.if_icmp .ge 12, 3) := by decide +kernel
theorem dX0_stateAt_22 : decode cX0_stateAt 22 = .ok (.aload_n 0, 1) := by decide +kernel
theorem dX0_stateAt_23 : decode cX0_stateAt 23 = .ok (.getfield 11, 3) := by decide +kernel
theorem dX0_stateAt_26 : decode cX0_stateAt 26 = .ok (.iload_n 2, 1) := by decide +kernel
theorem dX0_stateAt_27 : decode cX0_stateAt 27 = .ok (.aaload, 1) := by decide +kernel
theorem dX0_stateAt_28 : decode cX0_stateAt 28 = .ok (.goto 4, 3) := by decide +kernel
theorem dX0_stateAt_31 : decode cX0_stateAt 31 = .ok (.aconst_null, 1) := by decide +kernel
theorem dX0_stateAt_32 : decode cX0_stateAt 32 = .ok (.areturn, 1) := by decide +kernel
set_option maxRecDepth 20000 in
theorem ggX1_init_X5_put : GoodIn wsX1_init wsX5_put := goodIn_r _ [14] (by decide +kernel) (by decide +kernel)
set_option maxRecDepth 20000 in
theorem gX1_init_X5_put_n33 : GoodIn wsX1_init (wsX5_put) := ggX1_init_X5_put
theorem dX1_init_0 : decode cX1_init 0 = .ok (.aload_n 0, 1) := by decide +kernel
theorem dX1_init_1 : decode cX1_init 1 = .ok (.invokespecial 3, 3) := by decide +kernel
theorem dX1_init_4 : decode cX1_init 4 = .ok (.aload_n 0, 1) := by decide +kernel
theorem dX1_init_5 : decode cX1_init 5 = .ok (.bipush 12, 2) := by decide +kernel
theorem dX1_init_7 : decode cX1_init 7 = .ok (.newarray .int, 2) := by decide +kernel
theorem dX1_init_9 : decode cX1_init 9 = .ok (.putfield 9, 3) := by decide +kernel
theorem dX1_init_12 : decode cX1_init 12 = .ok (.aload_n 0, 1) := by decide +kernel
theorem dX1_init_13 : decode cX1_init 13 = .ok (.bipush 10, 2) := by decide +kernel
theorem dX1_init_15 : decode cX1_init 15 = .ok (.newarray .int, 2) := by decide +kernel
theorem dX1_init_17 : decode cX1_init 17 = .ok (.putfield 15, 3) := by decide +kernel
theorem dX1_init_20 : decode cX1_init 20 = .ok (.aload_n 0, 1) := by decide +kernel
theorem dX1_init_21 : decode cX1_init 21 = .ok (.bipush 60, 2) := by decide +kernel
theorem dX1_init_23 : decode cX1_init 23 = .ok (.newarray .int, 2) := by decide +kernel
theorem dX1_init_25 : decode cX1_init 25 = .ok (.putfield 18, 3) := by decide +kernel
theorem dX1_init_28 : decode cX1_init 28 = .ok (.aload_n 0, 1) := by decide +kernel
theorem dX1_init_29 : decode cX1_init 29 = .ok (.bipush 18, 2) := by decide +kernel
theorem dX1_init_31 : decode cX1_init 31 = .ok (.newarray .int, 2) := by decide +kernel
theorem dX1_init_33 : decode cX1_init 33 = .ok (.putfield 21, 3) := by decide +kernel
theorem dX1_init_36 : decode cX1_init 36 = .ok (.aload_n 0, 1) := by decide +kernel
theorem dX1_init_37 : decode cX1_init 37 = .ok (.bipush 35, 2) := by decide +kernel
theorem dX1_init_39 : decode cX1_init 39 = .ok (.newarray .int, 2) := by decide +kernel
theorem dX1_init_41 : decode cX1_init 41 = .ok (.putfield 24, 3) := by decide +kernel
theorem dX1_init_44 : decode cX1_init 44 = .ok (.aload_n 0, 1) := by decide +kernel
theorem dX1_init_45 : decode cX1_init 45 = .ok (.bipush 30, 2) := by decide +kernel
theorem dX1_init_47 : decode cX1_init 47 = .ok (.newarray .int, 2) := by decide +kernel
theorem dX1_init_49 : decode cX1_init 49 = .ok (.putfield 27, 3) := by decide +kernel
theorem dX1_init_52 : decode cX1_init 52 = .ok (.aload_n 0, 1) := by decide +kernel
theorem dX1_init_53 : decode cX1_init 53 = .ok (.sipush 300, 3) := by decide +kernel
theorem dX1_init_56 : decode cX1_init 56 = .ok (.newarray .int, 2) := by decide +kernel
theorem dX1_init_58 : decode cX1_init 58 = .ok (.putfield 30, 3) := by decide +kernel
theorem dX1_init_61 : decode cX1_init 61 = .ok (.aload_n 0, 1) := by decide +kernel
theorem dX1_init_62 : decode cX1_init 62 = .ok (.getfield 9, 3) := by decide +kernel
theorem dX1_init_65 : decode cX1_init 65 = .ok (.iconst 4, 1) := by decide +kernel
theorem dX1_init_66 : decode cX1_init 66 = .ok (.bipush 10, 2) := by decide +kernel
theorem dX1_init_68 : decode cX1_init 68 = .ok (.invokestatic 33, 3) := by decide +kernel
theorem dX1_init_71 : decode cX1_init 71 = .ok (.return_, 1) := by decide +kernel
set_option maxRecDepth 20000 in
theorem ggX1_copyFrom_X5_copy : GoodIn wsX1_copyFrom wsX5_copy := goodIn_r _ [10, 11, 12, 13, 14, 15, 16, 17, 18] (by decide +kernel) (by decide +kernel)
set_option maxRecDepth 20000 in
theorem gX1_copyFrom_X5_copy_n37 : GoodIn wsX1_copyFrom (wsX5_copy) := ggX1_copyFrom_X5_copy
theorem dX1_copyFrom_0 : decode cX1_copyFrom 0 = .ok (.aload_n 1, 1) := by decide +kernel
theorem dX1_copyFrom_1 : decode cX1_copyFrom 1 = .ok (.getfield 9, 3) := by decide +kernel
theorem dX1_copyFrom_4 : decode cX1_copyFrom 4 = .ok (.aload_n 0, 1) := by decide +kernel
theorem dX1_copyFrom_5 : decode cX1_copyFrom 5 = .ok (.getfield 9, 3) := by decide +kernel
theorem dX1_copyFrom_8 : decode cX1_copyFrom 8 = .ok (.invokestatic 37, 3) := by decide +kernel
theorem dX1_copyFrom_11 : decode cX1_copyFrom 11 = .ok (.aload_n 1, 1) := by decide +kernel
theorem dX1_copyFrom_12 : decode cX1_copyFrom 12 = .ok (.getfield 15, 3) := by decide +kernel
theorem dX1_copyFrom_15 : decode cX1_copyFrom 15 = .ok (.aload_n 0, 1) := by decide +kernel
theorem dX1_copyFrom_16 : decode cX1_copyFrom 16 = .ok (.getfield 15, 3) := by decide +kernel
theorem dX1_copyFrom_19 : decode cX1_copyFrom 19 = .ok (.invokestatic 37, 3) := by decide +kernel
theorem dX1_copyFrom_22 : decode cX1_copyFrom 22 = .ok (.aload_n 1, 1) := by decide +kernel
theorem dX1_copyFrom_23 : decode cX1_copyFrom 23 = .ok (.getfield 18, 3) := by decide +kernel
theorem dX1_copyFrom_26 : decode cX1_copyFrom 26 = .ok (.aload_n 0, 1) := by decide +kernel
theorem dX1_copyFrom_27 : decode cX1_copyFrom 27 = .ok (.getfield 18, 3) := by decide +kernel
theorem dX1_copyFrom_30 : decode cX1_copyFrom 30 = .ok (.invokestatic 37, 3) := by decide +kernel
theorem dX1_copyFrom_33 : decode cX1_copyFrom 33 = .ok (.aload_n 1, 1) := by decide +kernel
theorem dX1_copyFrom_34 : decode cX1_copyFrom 34 = .ok (.getfield 21, 3) := by decide +kernel
theorem dX1_copyFrom_37 : decode cX1_copyFrom 37 = .ok (.aload_n 0, 1) := by decide +kernel
theorem dX1_copyFrom_38 : decode cX1_copyFrom 38 = .ok (.getfield 21, 3) := by decide +kernel
theorem dX1_copyFrom_41 : decode cX1_copyFrom 41 = .ok (.invokestatic 37, 3) := by decide +kernel
theorem dX1_copyFrom_44 : decode cX1_copyFrom 44 = .ok (.aload_n 1, 1) := by decide +kernel
theorem dX1_copyFrom_45 : decode cX1_copyFrom 45 = .ok (.getfield 24, 3) := by decide +kernel
theorem dX1_copyFrom_48 : decode cX1_copyFrom 48 = .ok (.aload_n 0, 1) := by decide +kernel
theorem dX1_copyFrom_49 : decode cX1_copyFrom 49 = .ok (.getfield 24, 3) := by decide +kernel
theorem dX1_copyFrom_52 : decode cX1_copyFrom 52 = .ok (.invokestatic 37, 3) := by decide +kernel
theorem dX1_copyFrom_55 : decode cX1_copyFrom 55 = .ok (.aload_n 1, 1) := by decide +kernel
theorem dX1_copyFrom_56 : decode cX1_copyFrom 56 = .ok (.getfield 27, 3) := by decide +kernel
theorem dX1_copyFrom_59 : decode cX1_copyFrom 59 = .ok (.aload_n 0, 1) := by decide +kernel
theorem dX1_copyFrom_60 : decode cX1_copyFrom 60 = .ok (.getfield 27, 3) := by decide +kernel
theorem dX1_copyFrom_63 : decode cX1_copyFrom 63 = .ok (.invokestatic 37, 3) := by decide +kernel
theorem dX1_copyFrom_66 : decode cX1_copyFrom 66 = .ok (.aload_n 1, 1) := by decide +kernel
theorem dX1_copyFrom_67 : decode cX1_copyFrom 67 = .ok (.getfield 30, 3) := by decide +kernel
theorem dX1_copyFrom_70 : decode cX1_copyFrom 70 = .ok (.aload_n 0, 1) := by decide +kernel
theorem dX1_copyFrom_71 : decode cX1_copyFrom 71 = .ok (.getfield 30, 3) := by decide +kernel
theorem dX1_copyFrom_74 : decode cX1_copyFrom 74 = .ok (.invokestatic 37, 3) := by decide +kernel
theorem dX1_copyFrom_77 : decode cX1_copyFrom 77 = .ok (.return_, 1) := by decide +kernel
set_option maxRecDepth 20000 in
theorem ggX1_number_X1_aliveNodes : GoodIn wsX1_number wsX1_aliveNodes := goodIn_r _ [6, 1, 7, 8, 9, 10, 18, 19, 20, 21, 22, 23, 24] (by decide +kernel) (by decide +kernel)
set_option maxRecDepth 20000 in
theorem gX1_number_X1_aliveNodes : GoodIn wsX1_number (wsV RX1 41 RX1 yX1_aliveNodes wsX1_aliveNodes) := goodIn_app (goodIn_of _ (by decide +kernel)) ggX1_number_X1_aliveNodes
set_option maxRecDepth 20000 in
theorem ggX1_number_J6_bitCount_0f7a4 : GoodIn wsX1_number wsJ6_bitCount_0f7a4 := goodIn_r _ [14, 15, 16, 17] (by decide +kernel) (by decide +kernel)
set_option maxRecDepth 20000 in
theorem gX1_number_J6_bitCount_0f7a4 : GoodIn wsX1_number (va_wsS RX1 45 yJ6_bitCount_0f7a4 wsJ6_bitCount_0f7a4) := goodIn_app (goodIn_of _ (by decide +kernel)) ggX1_number_J6_bitCount_0f7a4
set_option maxRecDepth 20000 in
theorem ggX1_number_X5_at : GoodIn wsX1_number wsX5_at := goodIn_r _ [10] (by decide +kernel) (by decide +kernel)
set_option maxRecDepth 20000 in
theorem gX1_number_X5_at_n51 : GoodIn wsX1_number (wsX5_at) := ggX1_number_X5_at
theorem dX1_number_0 : decode cX1_number 0 = .ok (.iload_n 1, 1) := by decide +kernel
theorem dX1_number_1 : decode cX1_number 1 = .ok (.bipush 6, 2) := by decide +kernel
theorem dX1_number_3 : decode cX1_number 3 = .ok (.if_icmp .ne 13, 3) := by decide +kernel
theorem dX1_number_6 : decode cX1_number 6 = .ok (.aload_n 0, 1) := by decide +kernel
theorem dX1_number_7 : decode cX1_number 7 = .ok (.invokevirtual 41, 3) := by decide +kernel
theorem dX1_number_10 : decode cX1_number 10 = .ok (.invokestatic 45, 3) := by decide +kernel
theorem dX1_number_13 : decode cX1_number 13 = .ok (.goto 11, 3) := by decide +kernel
theorem dX1_number_16 : decode cX1_number 16 = .ok (.aload_n 0, 1) := by decide +kernel
theorem dX1_number_17 : decode cX1_number 17 = .ok (.getfield 9, 3) := by decide +kernel
theorem dX1_number_20 : decode cX1_number 20 = .ok (.iload_n 1, 1) := by decide +kernel
theorem dX1_number_21 : decode cX1_number 21 = .ok (.invokestatic 51, 3) := by decide +kernel
theorem dX1_number_24 : decode cX1_number 24 = .ok (.ireturn, 1) := by decide +kernel
set_option maxRecDepth 20000 in
theorem ggX1_setNumber_X5_put : GoodIn wsX1_setNumber wsX5_put := goodIn_r _ [4] (by decide +kernel) (by decide +kernel)
set_option maxRecDepth 20000 in
theorem gX1_setNumber_X5_put_n33 : GoodIn wsX1_setNumber (wsX5_put) := ggX1_setNumber_X5_put
theorem dX1_setNumber_0 : decode cX1_setNumber 0 = .ok (.aload_n 0, 1) := by decide +kernel
theorem dX1_setNumber_1 : decode cX1_setNumber 1 = .ok (.getfield 9, 3) := by decide +kernel
theorem dX1_setNumber_4 : decode cX1_setNumber 4 = .ok (.iload_n 1, 1) := by decide +kernel
theorem dX1_setNumber_5 : decode cX1_setNumber 5 = .ok (.iload_n 2, 1) := by decide +kernel
theorem dX1_setNumber_6 : decode cX1_setNumber 6 = .ok (.invokestatic 33, 3) := by decide +kernel
theorem dX1_setNumber_9 : decode cX1_setNumber 9 = .ok (.return_, 1) := by decide +kernel
set_option maxRecDepth 20000 in
theorem ggX1_raise_X5_increase : GoodIn wsX1_raise wsX5_increase := goodIn_r _ [4, 5, 6, 3, 7, 8, 9, 10] (by decide +kernel) (by decide +kernel)
set_option maxRecDepth 20000 in
theorem gX1_raise_X5_increase_n55 : GoodIn wsX1_raise (wsX5_increase) := ggX1_raise_X5_increase
theorem dX1_raise_0 : decode cX1_raise 0 = .ok (.aload_n 0, 1) := by decide +kernel
theorem dX1_raise_1 : decode cX1_raise 1 = .ok (.getfield 9, 3) := by decide +kernel
theorem dX1_raise_4 : decode cX1_raise 4 = .ok (.iload_n 1, 1) := by decide +kernel
theorem dX1_raise_5 : decode cX1_raise 5 = .ok (.iload_n 2, 1) := by decide +kernel
theorem dX1_raise_6 : decode cX1_raise 6 = .ok (.invokestatic 55, 3) := by decide +kernel
theorem dX1_raise_9 : decode cX1_raise 9 = .ok (.return_, 1) := by decide +kernel
set_option maxRecDepth 20000 in
theorem ggX1_has_X5_at : GoodIn wsX1_has wsX5_at := goodIn_r _ [4] (by decide +kernel) (by decide +kernel)
set_option maxRecDepth 20000 in
theorem gX1_has_X5_at_n51 : GoodIn wsX1_has (wsX5_at) := ggX1_has_X5_at
theorem dX1_has_0 : decode cX1_has 0 = .ok (.iload_n 2, 1) := by decide +kernel
theorem dX1_has_1 : decode cX1_has 1 = .ok (.ifCond .lt 19, 3) := by decide +kernel
theorem dX1_has_4 : decode cX1_has 4 = .ok (.iload_n 2, 1) := by decide +kernel
theorem dX1_has_5 : decode cX1_has 5 = .ok (.aload_n 0, 1) := by decide +kernel
theorem dX1_has_6 : decode cX1_has 6 = .ok (.getfield 9, 3) := by decide +kernel
theorem dX1_has_9 : decode cX1_has 9 = .ok (.iload_n 1, 1) := by decide +kernel
theorem dX1_has_10 : decode cX1_has 10 = .ok (.invokestatic 51, 3) := by decide +kernel
theorem dX1_has_13 : decode cX1_has 13 = .ok (.if_icmp .ge 7, 3) := by decide +kernel
theorem dX1_has_16 : decode cX1_has 16 = .ok (.iconst 1, 1) := by decide +kernel
theorem dX1_has_17 : decode cX1_has 17 = .ok (.goto 4, 3) := by decide +kernel
theorem dX1_has_20 : decode cX1_has 20 = .ok (.iconst 0, 1) := by decide +kernel
theorem dX1_has_21 : decode cX1_has 21 = .ok (.ireturn, 1) := by decide +kernel
set_option maxRecDepth 20000 in
theorem ggX1_energyOf_X5_at : GoodIn wsX1_energyOf wsX5_at := goodIn_r _ [4] (by decide +kernel) (by decide +kernel)
set_option maxRecDepth 20000 in
theorem gX1_energyOf_X5_at_n51 : GoodIn wsX1_energyOf (wsX5_at) := ggX1_energyOf_X5_at
theorem dX1_energyOf_0 : decode cX1_energyOf 0 = .ok (.aload_n 0, 1) := by decide +kernel
theorem dX1_energyOf_1 : decode cX1_energyOf 1 = .ok (.getfield 15, 3) := by decide +kernel
theorem dX1_energyOf_4 : decode cX1_energyOf 4 = .ok (.iload_n 1, 1) := by decide +kernel
theorem dX1_energyOf_5 : decode cX1_energyOf 5 = .ok (.invokestatic 51, 3) := by decide +kernel
theorem dX1_energyOf_8 : decode cX1_energyOf 8 = .ok (.ireturn, 1) := by decide +kernel
set_option maxRecDepth 20000 in
theorem ggX1_setEnergy_X5_put : GoodIn wsX1_setEnergy wsX5_put := goodIn_r _ [4] (by decide +kernel) (by decide +kernel)
set_option maxRecDepth 20000 in
theorem gX1_setEnergy_X5_put_n33 : GoodIn wsX1_setEnergy (wsX5_put) := ggX1_setEnergy_X5_put
theorem dX1_setEnergy_0 : decode cX1_setEnergy 0 = .ok (.aload_n 0, 1) := by decide +kernel
theorem dX1_setEnergy_1 : decode cX1_setEnergy 1 = .ok (.getfield 15, 3) := by decide +kernel
theorem dX1_setEnergy_4 : decode cX1_setEnergy 4 = .ok (.iload_n 1, 1) := by decide +kernel
theorem dX1_setEnergy_5 : decode cX1_setEnergy 5 = .ok (.iload_n 2, 1) := by decide +kernel
theorem dX1_setEnergy_6 : decode cX1_setEnergy 6 = .ok (.invokestatic 33, 3) := by decide +kernel
theorem dX1_setEnergy_9 : decode cX1_setEnergy 9 = .ok (.return_, 1) := by decide +kernel
set_option maxRecDepth 20000 in
theorem ggX1_aliveNodes_X5_at : GoodIn wsX1_aliveNodes wsX5_at := goodIn_r _ [5] (by decide +kernel) (by decide +kernel)
set_option maxRecDepth 20000 in
theorem gX1_aliveNodes_X5_at_n51 : GoodIn wsX1_aliveNodes (wsX5_at) := ggX1_aliveNodes_X5_at
theorem dX1_aliveNodes_0 : decode cX1_aliveNodes 0 = .ok (.iconst 0, 1) := by decide +kernel
theorem dX1_aliveNodes_1 : decode cX1_aliveNodes 1 = .ok (.istore_n 1, 1) := by decide +kernel
theorem dX1_aliveNodes_2 : decode cX1_aliveNodes 2 = .ok (.iconst 0, 1) := by decide +kernel
theorem dX1_aliveNodes_3 : decode cX1_aliveNodes 3 = .ok (.istore_n 2, 1) := by decide +kernel
theorem dX1_aliveNodes_4 : decode cX1_aliveNodes 4 = .ok (.iload_n 2, 1) := by decide +kernel
theorem dX1_aliveNodes_5 : decode cX1_aliveNodes 5 = .ok (.aload_n 0, 1) := by decide +kernel
theorem dX1_aliveNodes_6 : decode cX1_aliveNodes 6 = .ok (.getfield 9, 3) := by decide +kernel
theorem dX1_aliveNodes_9 : decode cX1_aliveNodes 9 = .ok (.iconst 0, 1) := by decide +kernel
theorem dX1_aliveNodes_10 : decode cX1_aliveNodes 10 = .ok (.invokestatic 51, 3) := by decide +kernel
theorem dX1_aliveNodes_13 : decode cX1_aliveNodes 13 = .ok (.if_icmp .ge 26, 3) := by decide +kernel
theorem dX1_aliveNodes_16 : decode cX1_aliveNodes 16 = .ok (.aload_n 0, 1) := by decide +kernel
theorem dX1_aliveNodes_17 : decode cX1_aliveNodes 17 = .ok (.getfield 15, 3) := by decide +kernel
theorem dX1_aliveNodes_20 : decode cX1_aliveNodes 20 = .ok (.iload_n 2, 1) := by decide +kernel
theorem dX1_aliveNodes_21 : decode cX1_aliveNodes 21 = .ok (.invokestatic 51, 3) := by decide +kernel
theorem dX1_aliveNodes_24 : decode cX1_aliveNodes 24 = .ok (.ifCond .le 9, 3) := by decide +kernel
theorem dX1_aliveNodes_27 : decode cX1_aliveNodes 27 = .ok (.iload_n 1, 1) := by decide +kernel
theorem dX1_aliveNodes_28 : decode cX1_aliveNodes 28 = .ok (.iconst 1, 1) := by decide +kernel
theorem dX1_aliveNodes_29 : decode cX1_aliveNodes 29 = .ok (.iload_n 2, 1) := by decide +kernel
theorem dX1_aliveNodes_30 : decode cX1_aliveNodes 30 = .ok (.ishl, 1) := by decide +kernel
theorem dX1_aliveNodes_31 : decode cX1_aliveNodes 31 = .ok (.ior, 1) := by decide +kernel
theorem dX1_aliveNodes_32 : decode cX1_aliveNodes 32 = .ok (.istore_n 1, 1) := by decide +kernel
theorem dX1_aliveNodes_33 : decode cX1_aliveNodes 33 = .ok (.iinc 2 1, 3) := by decide +kernel
theorem dX1_aliveNodes_36 : decode cX1_aliveNodes 36 = .ok (.goto (-32), 3) := by decide +kernel
theorem dX1_aliveNodes_39 : decode cX1_aliveNodes 39 = .ok (.iload_n 1, 1) := by decide +kernel
theorem dX1_aliveNodes_40 : decode cX1_aliveNodes 40 = .ok (.ireturn, 1) := by decide +kernel
set_option maxRecDepth 20000 in
theorem ggX1_spend_X5_at : GoodIn wsX1_spend wsX5_at := goodIn_r _ [9] (by decide +kernel) (by decide +kernel)
set_option maxRecDepth 20000 in
theorem gX1_spend_X5_at_n51 : GoodIn wsX1_spend (wsX5_at) := ggX1_spend_X5_at
set_option maxRecDepth 20000 in
theorem ggX1_spend_X5_increase : GoodIn wsX1_spend wsX5_increase := goodIn_r _ [11, 12, 7, 8, 9, 13, 14, 15] (by decide +kernel) (by decide +kernel)
set_option maxRecDepth 20000 in
theorem gX1_spend_X5_increase_n55 : GoodIn wsX1_spend (wsX5_increase) := ggX1_spend_X5_increase
theorem dX1_spend_0 : decode cX1_spend 0 = .ok (.iload_n 2, 1) := by decide +kernel
theorem dX1_spend_1 : decode cX1_spend 1 = .ok (.aload_n 0, 1) := by decide +kernel
theorem dX1_spend_2 : decode cX1_spend 2 = .ok (.getfield 15, 3) := by decide +kernel
theorem dX1_spend_5 : decode cX1_spend 5 = .ok (.iload_n 1, 1) := by decide +kernel
theorem dX1_spend_6 : decode cX1_spend 6 = .ok (.invokestatic 51, 3) := by decide +kernel
theorem dX1_spend_9 : decode cX1_spend 9 = .ok (.invokestatic 58, 3) := by decide +kernel
theorem dX1_spend_12 : decode cX1_spend 12 = .ok (.istore_n 3, 1) := by decide +kernel
theorem dX1_spend_13 : decode cX1_spend 13 = .ok (.aload_n 0, 1) := by decide +kernel
theorem dX1_spend_14 : decode cX1_spend 14 = .ok (.getfield 15, 3) := by decide +kernel
theorem dX1_spend_17 : decode cX1_spend 17 = .ok (.iload_n 1, 1) := by decide +kernel
theorem dX1_spend_18 : decode cX1_spend 18 = .ok (.iload_n 3, 1) := by decide +kernel
theorem dX1_spend_19 : decode cX1_spend 19 = .ok (.ineg, 1) := by decide +kernel
theorem dX1_spend_20 : decode cX1_spend 20 = .ok (.invokestatic 55, 3) := by decide +kernel
theorem dX1_spend_23 : decode cX1_spend 23 = .ok (.aload_n 0, 1) := by decide +kernel
theorem dX1_spend_24 : decode cX1_spend 24 = .ok (.getfield 9, 3) := by decide +kernel
theorem dX1_spend_27 : decode cX1_spend 27 = .ok (.bipush 10, 2) := by decide +kernel
theorem dX1_spend_29 : decode cX1_spend 29 = .ok (.iload_n 3, 1) := by decide +kernel
theorem dX1_spend_30 : decode cX1_spend 30 = .ok (.invokestatic 55, 3) := by decide +kernel
theorem dX1_spend_33 : decode cX1_spend 33 = .ok (.return_, 1) := by decide +kernel
set_option maxRecDepth 20000 in
theorem ggX1_appendNode_X5_at : GoodIn wsX1_appendNode wsX5_at := goodIn_r _ [5] (by decide +kernel) (by decide +kernel)
set_option maxRecDepth 20000 in
theorem gX1_appendNode_X5_at_n51 : GoodIn wsX1_appendNode (wsX5_at) := ggX1_appendNode_X5_at
set_option maxRecDepth 20000 in
theorem ggX1_appendNode_X5_put : GoodIn wsX1_appendNode wsX5_put := goodIn_r _ [7] (by decide +kernel) (by decide +kernel)
set_option maxRecDepth 20000 in
theorem gX1_appendNode_X5_put_n33 : GoodIn wsX1_appendNode (wsX5_put) := ggX1_appendNode_X5_put
theorem dX1_appendNode_0 : decode cX1_appendNode 0 = .ok (.aload_n 0, 1) := by decide +kernel
theorem dX1_appendNode_1 : decode cX1_appendNode 1 = .ok (.getfield 9, 3) := by decide +kernel
theorem dX1_appendNode_4 : decode cX1_appendNode 4 = .ok (.iconst 0, 1) := by decide +kernel
theorem dX1_appendNode_5 : decode cX1_appendNode 5 = .ok (.invokestatic 51, 3) := by decide +kernel
theorem dX1_appendNode_8 : decode cX1_appendNode 8 = .ok (.istore_n 2, 1) := by decide +kernel
theorem dX1_appendNode_9 : decode cX1_appendNode 9 = .ok (.aload_n 0, 1) := by decide +kernel
theorem dX1_appendNode_10 : decode cX1_appendNode 10 = .ok (.getfield 15, 3) := by decide +kernel
theorem dX1_appendNode_13 : decode cX1_appendNode 13 = .ok (.iload_n 2, 1) := by decide +kernel
theorem dX1_appendNode_14 : decode cX1_appendNode 14 = .ok (.iload_n 1, 1) := by decide +kernel
theorem dX1_appendNode_15 : decode cX1_appendNode 15 = .ok (.invokestatic 33, 3) := by decide +kernel
theorem dX1_appendNode_18 : decode cX1_appendNode 18 = .ok (.aload_n 0, 1) := by decide +kernel
theorem dX1_appendNode_19 : decode cX1_appendNode 19 = .ok (.getfield 9, 3) := by decide +kernel
theorem dX1_appendNode_22 : decode cX1_appendNode 22 = .ok (.iconst 0, 1) := by decide +kernel
theorem dX1_appendNode_23 : decode cX1_appendNode 23 = .ok (.iload_n 2, 1) := by decide +kernel
theorem dX1_appendNode_24 : decode cX1_appendNode 24 = .ok (.iconst 1, 1) := by decide +kernel
theorem dX1_appendNode_25 : decode cX1_appendNode 25 = .ok (.iadd, 1) := by decide +kernel
theorem dX1_appendNode_26 : decode cX1_appendNode 26 = .ok (.invokestatic 33, 3) := by decide +kernel
theorem dX1_appendNode_29 : decode cX1_appendNode 29 = .ok (.iload_n 2, 1) := by decide +kernel
theorem dX1_appendNode_30 : decode cX1_appendNode 30 = .ok (.ireturn, 1) := by decide +kernel
set_option maxRecDepth 20000 in
theorem ggX1_appendLink_X5_at : GoodIn wsX1_appendLink wsX5_at := goodIn_r _ [5] (by decide +kernel) (by decide +kernel)
set_option maxRecDepth 20000 in
theorem gX1_appendLink_X5_at_n51 : GoodIn wsX1_appendLink (wsX5_at) := ggX1_appendLink_X5_at
set_option maxRecDepth 20000 in
theorem ggX1_appendLink_X5_put : GoodIn wsX1_appendLink wsX5_put := goodIn_r _ [7] (by decide +kernel) (by decide +kernel)
set_option maxRecDepth 20000 in
theorem gX1_appendLink_X5_put_n33 : GoodIn wsX1_appendLink (wsX5_put) := ggX1_appendLink_X5_put
theorem dX1_appendLink_0 : decode cX1_appendLink 0 = .ok (.aload_n 0, 1) := by decide +kernel
theorem dX1_appendLink_1 : decode cX1_appendLink 1 = .ok (.getfield 9, 3) := by decide +kernel
theorem dX1_appendLink_4 : decode cX1_appendLink 4 = .ok (.iconst 1, 1) := by decide +kernel
theorem dX1_appendLink_5 : decode cX1_appendLink 5 = .ok (.invokestatic 51, 3) := by decide +kernel
theorem dX1_appendLink_8 : decode cX1_appendLink 8 = .ok (.istore 4, 2) := by decide +kernel
theorem dX1_appendLink_10 : decode cX1_appendLink 10 = .ok (.aload_n 0, 1) := by decide +kernel
theorem dX1_appendLink_11 : decode cX1_appendLink 11 = .ok (.getfield 18, 3) := by decide +kernel
theorem dX1_appendLink_14 : decode cX1_appendLink 14 = .ok (.iload 4, 2) := by decide +kernel
theorem dX1_appendLink_16 : decode cX1_appendLink 16 = .ok (.iconst 3, 1) := by decide +kernel
theorem dX1_appendLink_17 : decode cX1_appendLink 17 = .ok (.imul, 1) := by decide +kernel
theorem dX1_appendLink_18 : decode cX1_appendLink 18 = .ok (.iconst 0, 1) := by decide +kernel
theorem dX1_appendLink_19 : decode cX1_appendLink 19 = .ok (.iadd, 1) := by decide +kernel
theorem dX1_appendLink_20 : decode cX1_appendLink 20 = .ok (.iload_n 1, 1) := by decide +kernel
theorem dX1_appendLink_21 : decode cX1_appendLink 21 = .ok (.invokestatic 33, 3) := by decide +kernel
theorem dX1_appendLink_24 : decode cX1_appendLink 24 = .ok (.aload_n 0, 1) := by decide +kernel
theorem dX1_appendLink_25 : decode cX1_appendLink 25 = .ok (.getfield 18, 3) := by decide +kernel
theorem dX1_appendLink_28 : decode cX1_appendLink 28 = .ok (.iload 4, 2) := by decide +kernel
theorem dX1_appendLink_30 : decode cX1_appendLink 30 = .ok (.iconst 3, 1) := by decide +kernel
theorem dX1_appendLink_31 : decode cX1_appendLink 31 = .ok (.imul, 1) := by decide +kernel
theorem dX1_appendLink_32 : decode cX1_appendLink 32 = .ok (.iconst 1, 1) := by decide +kernel
theorem dX1_appendLink_33 : decode cX1_appendLink 33 = .ok (.iadd, 1) := by decide +kernel
theorem dX1_appendLink_34 : decode cX1_appendLink 34 = .ok (.iload_n 2, 1) := by decide +kernel
theorem dX1_appendLink_35 : decode cX1_appendLink 35 = .ok (.invokestatic 33, 3) := by decide +kernel
theorem dX1_appendLink_38 : decode cX1_appendLink 38 = .ok (.aload_n 0, 1) := by decide +kernel
theorem dX1_appendLink_39 : decode cX1_appendLink 39 = .ok (.getfield 18, 3) := by decide +kernel
theorem dX1_appendLink_42 : decode cX1_appendLink 42 = .ok (.iload 4, 2) := by decide +kernel
theorem dX1_appendLink_44 : decode cX1_appendLink 44 = .ok (.iconst 3, 1) := by decide +kernel
theorem dX1_appendLink_45 : decode cX1_appendLink 45 = .ok (.imul, 1) := by decide +kernel
theorem dX1_appendLink_46 : decode cX1_appendLink 46 = .ok (.iconst 2, 1) := by decide +kernel
theorem dX1_appendLink_47 : decode cX1_appendLink 47 = .ok (.iadd, 1) := by decide +kernel
theorem dX1_appendLink_48 : decode cX1_appendLink 48 = .ok (.iload_n 3, 1) := by decide +kernel
theorem dX1_appendLink_49 : decode cX1_appendLink 49 = .ok (.invokestatic 33, 3) := by decide +kernel
theorem dX1_appendLink_52 : decode cX1_appendLink 52 = .ok (.aload_n 0, 1) := by decide +kernel
theorem dX1_appendLink_53 : decode cX1_appendLink 53 = .ok (.getfield 9, 3) := by decide +kernel
theorem dX1_appendLink_56 : decode cX1_appendLink 56 = .ok (.iconst 1, 1) := by decide +kernel
theorem dX1_appendLink_57 : decode cX1_appendLink 57 = .ok (.iload 4, 2) := by decide +kernel
theorem dX1_appendLink_59 : decode cX1_appendLink 59 = .ok (.iconst 1, 1) := by decide +kernel
theorem dX1_appendLink_60 : decode cX1_appendLink 60 = .ok (.iadd, 1) := by decide +kernel
theorem dX1_appendLink_61 : decode cX1_appendLink 61 = .ok (.invokestatic 33, 3) := by decide +kernel
theorem dX1_appendLink_64 : decode cX1_appendLink 64 = .ok (.iload 4, 2) := by decide +kernel
theorem dX1_appendLink_66 : decode cX1_appendLink 66 = .ok (.ireturn, 1) := by decide +kernel
set_option maxRecDepth 20000 in
theorem ggX1_removeLink_X5_removePiece : GoodIn wsX1_removeLink wsX5_removePiece := goodIn_r _ [5, 6, 7, 4, 8, 9, 10, 11] (by decide +kernel) (by decide +kernel)
set_option maxRecDepth 20000 in
theorem gX1_removeLink_X5_removePiece_n64 : GoodIn wsX1_removeLink (wsX5_removePiece) := ggX1_removeLink_X5_removePiece
set_option maxRecDepth 20000 in
theorem ggX1_removeLink_X5_increase : GoodIn wsX1_removeLink wsX5_increase := goodIn_r _ [13, 6, 7, 4, 8, 9, 10, 11] (by decide +kernel) (by decide +kernel)
set_option maxRecDepth 20000 in
theorem gX1_removeLink_X5_increase_n55 : GoodIn wsX1_removeLink (wsX5_increase) := ggX1_removeLink_X5_increase
set_option maxRecDepth 20000 in
theorem ggX1_removeLink_X5_at : GoodIn wsX1_removeLink wsX5_at := goodIn_r _ [8] (by decide +kernel) (by decide +kernel)
set_option maxRecDepth 20000 in
theorem gX1_removeLink_X5_at_n51 : GoodIn wsX1_removeLink (wsX5_at) := ggX1_removeLink_X5_at
theorem dX1_removeLink_0 : decode cX1_removeLink 0 = .ok (.aload_n 0, 1) := by decide +kernel
theorem dX1_removeLink_1 : decode cX1_removeLink 1 = .ok (.getfield 18, 3) := by decide +kernel
theorem dX1_removeLink_4 : decode cX1_removeLink 4 = .ok (.iconst 3, 1) := by decide +kernel
theorem dX1_removeLink_5 : decode cX1_removeLink 5 = .ok (.iload_n 1, 1) := by decide +kernel
theorem dX1_removeLink_6 : decode cX1_removeLink 6 = .ok (.invokestatic 64, 3) := by decide +kernel
theorem dX1_removeLink_9 : decode cX1_removeLink 9 = .ok (.aload_n 0, 1) := by decide +kernel
theorem dX1_removeLink_10 : decode cX1_removeLink 10 = .ok (.getfield 9, 3) := by decide +kernel
theorem dX1_removeLink_13 : decode cX1_removeLink 13 = .ok (.iconst 1, 1) := by decide +kernel
theorem dX1_removeLink_14 : decode cX1_removeLink 14 = .ok (.iconst (-1), 1) := by decide +kernel
theorem dX1_removeLink_15 : decode cX1_removeLink 15 = .ok (.invokestatic 55, 3) := by decide +kernel
theorem dX1_removeLink_18 : decode cX1_removeLink 18 = .ok (.aload_n 0, 1) := by decide +kernel
theorem dX1_removeLink_19 : decode cX1_removeLink 19 = .ok (.getfield 9, 3) := by decide +kernel
theorem dX1_removeLink_22 : decode cX1_removeLink 22 = .ok (.iconst 1, 1) := by decide +kernel
theorem dX1_removeLink_23 : decode cX1_removeLink 23 = .ok (.invokestatic 51, 3) := by decide +kernel
theorem dX1_removeLink_26 : decode cX1_removeLink 26 = .ok (.ireturn, 1) := by decide +kernel
set_option maxRecDepth 20000 in
theorem ggX1_partOfLink_X5_at : GoodIn wsX1_partOfLink wsX5_at := goodIn_r _ [4] (by decide +kernel) (by decide +kernel)
set_option maxRecDepth 20000 in
theorem gX1_partOfLink_X5_at_n51 : GoodIn wsX1_partOfLink (wsX5_at) := ggX1_partOfLink_X5_at
theorem dX1_partOfLink_0 : decode cX1_partOfLink 0 = .ok (.aload_n 0, 1) := by decide +kernel
theorem dX1_partOfLink_1 : decode cX1_partOfLink 1 = .ok (.getfield 18, 3) := by decide +kernel
theorem dX1_partOfLink_4 : decode cX1_partOfLink 4 = .ok (.iload_n 1, 1) := by decide +kernel
theorem dX1_partOfLink_5 : decode cX1_partOfLink 5 = .ok (.iconst 3, 1) := by decide +kernel
theorem dX1_partOfLink_6 : decode cX1_partOfLink 6 = .ok (.imul, 1) := by decide +kernel
theorem dX1_partOfLink_7 : decode cX1_partOfLink 7 = .ok (.iload_n 2, 1) := by decide +kernel
theorem dX1_partOfLink_8 : decode cX1_partOfLink 8 = .ok (.iadd, 1) := by decide +kernel
theorem dX1_partOfLink_9 : decode cX1_partOfLink 9 = .ok (.invokestatic 51, 3) := by decide +kernel
theorem dX1_partOfLink_12 : decode cX1_partOfLink 12 = .ok (.ireturn, 1) := by decide +kernel
set_option maxRecDepth 20000 in
theorem ggX1_areLinked_X5_at : GoodIn wsX1_areLinked wsX5_at := goodIn_r _ [4] (by decide +kernel) (by decide +kernel)
set_option maxRecDepth 20000 in
theorem gX1_areLinked_X5_at_n51 : GoodIn wsX1_areLinked (wsX5_at) := ggX1_areLinked_X5_at
set_option maxRecDepth 20000 in
theorem ggX1_areLinked_X1_partOfLink : GoodIn wsX1_areLinked wsX1_partOfLink := goodIn_r _ [9, 10, 2, 3, 4, 14, 15, 16, 17, 18, 19, 20] (by decide +kernel) (by decide +kernel)
set_option maxRecDepth 20000 in
theorem gX1_areLinked_X1_partOfLink : GoodIn wsX1_areLinked (wsV RX1 67 RX1 yX1_partOfLink wsX1_partOfLink) := goodIn_app (goodIn_of _ (by decide +kernel)) ggX1_areLinked_X1_partOfLink
set_option maxRecDepth 20000 in
theorem ggX1_areLinked_X1_isPair : GoodIn wsX1_areLinked wsX1_isPair := goodIn_r _ [13] (by decide +kernel) (by decide +kernel)
set_option maxRecDepth 20000 in
theorem gX1_areLinked_X1_isPair : GoodIn wsX1_areLinked (va_wsS RX1 70 yX1_isPair wsX1_isPair) := goodIn_app (goodIn_of _ (by decide +kernel)) ggX1_areLinked_X1_isPair
theorem dX1_areLinked_0 : decode cX1_areLinked 0 = .ok (.iconst 0, 1) := by decide +kernel
theorem dX1_areLinked_1 : decode cX1_areLinked 1 = .ok (.istore_n 3, 1) := by decide +kernel
theorem dX1_areLinked_2 : decode cX1_areLinked 2 = .ok (.iload_n 3, 1) := by decide +kernel
theorem dX1_areLinked_3 : decode cX1_areLinked 3 = .ok (.aload_n 0, 1) := by decide +kernel
theorem dX1_areLinked_4 : decode cX1_areLinked 4 = .ok (.getfield 9, 3) := by decide +kernel
theorem dX1_areLinked_7 : decode cX1_areLinked 7 = .ok (.iconst 1, 1) := by decide +kernel
theorem dX1_areLinked_8 : decode cX1_areLinked 8 = .ok (.invokestatic 51, 3) := by decide +kernel
theorem dX1_areLinked_11 : decode cX1_areLinked 11 = .ok (.if_icmp .ge 31, 3) := by decide +kernel
theorem dX1_areLinked_14 : decode cX1_areLinked 14 = .ok (.aload_n 0, 1) := by decide +kernel
theorem dX1_areLinked_15 : decode cX1_areLinked 15 = .ok (.iload_n 3, 1) := by decide +kernel
theorem dX1_areLinked_16 : decode cX1_areLinked 16 = .ok (.iconst 0, 1) := by decide +kernel
theorem dX1_areLinked_17 : decode cX1_areLinked 17 = .ok (.invokevirtual 67, 3) := by decide +kernel
theorem dX1_areLinked_20 : decode cX1_areLinked 20 = .ok (.aload_n 0, 1) := by decide +kernel
theorem dX1_areLinked_21 : decode cX1_areLinked 21 = .ok (.iload_n 3, 1) := by decide +kernel
theorem dX1_areLinked_22 : decode cX1_areLinked 22 = .ok (.iconst 1, 1) := by decide +kernel
theorem dX1_areLinked_23 : decode cX1_areLinked 23 = .ok (.invokevirtual 67, 3) := by decide +kernel
theorem dX1_areLinked_26 : decode cX1_areLinked 26 = .ok (.iload_n 1, 1) := by decide +kernel
theorem dX1_areLinked_27 : decode cX1_areLinked 27 = .ok (.iload_n 2, 1) := by decide +kernel
theorem dX1_areLinked_28 : decode cX1_areLinked 28 = .ok (.invokestatic 70, 3) := by decide +kernel
theorem dX1_areLinked_31 : decode cX1_areLinked 31 = .ok (.ifCond .eq 5, 3) := by decide +kernel
theorem dX1_areLinked_34 : decode cX1_areLinked 34 = .ok (.iconst 1, 1) := by decide +kernel
theorem dX1_areLinked_35 : decode cX1_areLinked 35 = .ok (.ireturn, 1) := by decide +kernel
theorem dX1_areLinked_36 : decode cX1_areLinked 36 = .ok (.iinc 3 1, 3) := by decide +kernel
theorem dX1_areLinked_39 : decode cX1_areLinked 39 = .ok (.goto (-37), 3) := by decide +kernel
theorem dX1_areLinked_42 : decode cX1_areLinked 42 = .ok (.iconst 0, 1) := by decide +kernel
theorem dX1_areLinked_43 : decode cX1_areLinked 43 = .ok (.ireturn, 1) := by decide +kernel
theorem dX1_isPair_0 : decode cX1_isPair 0 = .ok (.iload_n 0, 1) := by decide +kernel
theorem dX1_isPair_1 : decode cX1_isPair 1 = .ok (.iload_n 2, 1) := by decide +kernel
theorem dX1_isPair_2 : decode cX1_isPair 2 = .ok (.if_icmp .ne 8, 3) := by decide +kernel
theorem dX1_isPair_5 : decode cX1_isPair 5 = .ok (.iload_n 1, 1) := by decide +kernel
theorem dX1_isPair_6 : decode cX1_isPair 6 = .ok (.iload_n 3, 1) := by decide +kernel
theorem dX1_isPair_7 : decode cX1_isPair 7 = .ok (.if_icmp .eq 13, 3) := by decide +kernel
theorem dX1_isPair_10 : decode cX1_isPair 10 = .ok (.iload_n 0, 1) := by decide +kernel
theorem dX1_isPair_11 : decode cX1_isPair 11 = .ok (.iload_n 3, 1) := by decide +kernel
theorem dX1_isPair_12 : decode cX1_isPair 12 = .ok (.if_icmp .ne 12, 3) := by decide +kernel
theorem dX1_isPair_15 : decode cX1_isPair 15 = .ok (.iload_n 1, 1) := by decide +kernel
theorem dX1_isPair_16 : decode cX1_isPair 16 = .ok (.iload_n 2, 1) := by decide +kernel
theorem dX1_isPair_17 : decode cX1_isPair 17 = .ok (.if_icmp .ne 7, 3) := by decide +kernel
theorem dX1_isPair_20 : decode cX1_isPair 20 = .ok (.iconst 1, 1) := by decide +kernel
theorem dX1_isPair_21 : decode cX1_isPair 21 = .ok (.goto 4, 3) := by decide +kernel
theorem dX1_isPair_24 : decode cX1_isPair 24 = .ok (.iconst 0, 1) := by decide +kernel
theorem dX1_isPair_25 : decode cX1_isPair 25 = .ok (.ireturn, 1) := by decide +kernel
set_option maxRecDepth 20000 in
theorem ggX1_appendSensor_X5_at : GoodIn wsX1_appendSensor wsX5_at := goodIn_r _ [5] (by decide +kernel) (by decide +kernel)
set_option maxRecDepth 20000 in
theorem gX1_appendSensor_X5_at_n51 : GoodIn wsX1_appendSensor (wsX5_at) := ggX1_appendSensor_X5_at
set_option maxRecDepth 20000 in
theorem ggX1_appendSensor_X5_put : GoodIn wsX1_appendSensor wsX5_put := goodIn_r _ [7] (by decide +kernel) (by decide +kernel)
set_option maxRecDepth 20000 in
theorem gX1_appendSensor_X5_put_n33 : GoodIn wsX1_appendSensor (wsX5_put) := ggX1_appendSensor_X5_put
theorem dX1_appendSensor_0 : decode cX1_appendSensor 0 = .ok (.aload_n 0, 1) := by decide +kernel
theorem dX1_appendSensor_1 : decode cX1_appendSensor 1 = .ok (.getfield 9, 3) := by decide +kernel
theorem dX1_appendSensor_4 : decode cX1_appendSensor 4 = .ok (.iconst 2, 1) := by decide +kernel
theorem dX1_appendSensor_5 : decode cX1_appendSensor 5 = .ok (.invokestatic 51, 3) := by decide +kernel
theorem dX1_appendSensor_8 : decode cX1_appendSensor 8 = .ok (.istore 4, 2) := by decide +kernel
theorem dX1_appendSensor_10 : decode cX1_appendSensor 10 = .ok (.aload_n 0, 1) := by decide +kernel
theorem dX1_appendSensor_11 : decode cX1_appendSensor 11 = .ok (.getfield 21, 3) := by decide +kernel
theorem dX1_appendSensor_14 : decode cX1_appendSensor 14 = .ok (.iload 4, 2) := by decide +kernel
theorem dX1_appendSensor_16 : decode cX1_appendSensor 16 = .ok (.iconst 3, 1) := by decide +kernel
theorem dX1_appendSensor_17 : decode cX1_appendSensor 17 = .ok (.imul, 1) := by decide +kernel
theorem dX1_appendSensor_18 : decode cX1_appendSensor 18 = .ok (.iconst 0, 1) := by decide +kernel
theorem dX1_appendSensor_19 : decode cX1_appendSensor 19 = .ok (.iadd, 1) := by decide +kernel
theorem dX1_appendSensor_20 : decode cX1_appendSensor 20 = .ok (.iload_n 1, 1) := by decide +kernel
theorem dX1_appendSensor_21 : decode cX1_appendSensor 21 = .ok (.invokestatic 33, 3) := by decide +kernel
theorem dX1_appendSensor_24 : decode cX1_appendSensor 24 = .ok (.aload_n 0, 1) := by decide +kernel
theorem dX1_appendSensor_25 : decode cX1_appendSensor 25 = .ok (.getfield 21, 3) := by decide +kernel
theorem dX1_appendSensor_28 : decode cX1_appendSensor 28 = .ok (.iload 4, 2) := by decide +kernel
theorem dX1_appendSensor_30 : decode cX1_appendSensor 30 = .ok (.iconst 3, 1) := by decide +kernel
theorem dX1_appendSensor_31 : decode cX1_appendSensor 31 = .ok (.imul, 1) := by decide +kernel
theorem dX1_appendSensor_32 : decode cX1_appendSensor 32 = .ok (.iconst 1, 1) := by decide +kernel
theorem dX1_appendSensor_33 : decode cX1_appendSensor 33 = .ok (.iadd, 1) := by decide +kernel
theorem dX1_appendSensor_34 : decode cX1_appendSensor 34 = .ok (.iload_n 2, 1) := by decide +kernel
theorem dX1_appendSensor_35 : decode cX1_appendSensor 35 = .ok (.invokestatic 33, 3) := by decide +kernel
theorem dX1_appendSensor_38 : decode cX1_appendSensor 38 = .ok (.aload_n 0, 1) := by decide +kernel
theorem dX1_appendSensor_39 : decode cX1_appendSensor 39 = .ok (.getfield 21, 3) := by decide +kernel
theorem dX1_appendSensor_42 : decode cX1_appendSensor 42 = .ok (.iload 4, 2) := by decide +kernel
theorem dX1_appendSensor_44 : decode cX1_appendSensor 44 = .ok (.iconst 3, 1) := by decide +kernel
theorem dX1_appendSensor_45 : decode cX1_appendSensor 45 = .ok (.imul, 1) := by decide +kernel
theorem dX1_appendSensor_46 : decode cX1_appendSensor 46 = .ok (.iconst 2, 1) := by decide +kernel
theorem dX1_appendSensor_47 : decode cX1_appendSensor 47 = .ok (.iadd, 1) := by decide +kernel
theorem dX1_appendSensor_48 : decode cX1_appendSensor 48 = .ok (.iload_n 3, 1) := by decide +kernel
theorem dX1_appendSensor_49 : decode cX1_appendSensor 49 = .ok (.invokestatic 33, 3) := by decide +kernel
theorem dX1_appendSensor_52 : decode cX1_appendSensor 52 = .ok (.aload_n 0, 1) := by decide +kernel
theorem dX1_appendSensor_53 : decode cX1_appendSensor 53 = .ok (.getfield 9, 3) := by decide +kernel
theorem dX1_appendSensor_56 : decode cX1_appendSensor 56 = .ok (.iconst 2, 1) := by decide +kernel
theorem dX1_appendSensor_57 : decode cX1_appendSensor 57 = .ok (.iload 4, 2) := by decide +kernel
theorem dX1_appendSensor_59 : decode cX1_appendSensor 59 = .ok (.iconst 1, 1) := by decide +kernel
theorem dX1_appendSensor_60 : decode cX1_appendSensor 60 = .ok (.iadd, 1) := by decide +kernel
theorem dX1_appendSensor_61 : decode cX1_appendSensor 61 = .ok (.invokestatic 33, 3) := by decide +kernel
theorem dX1_appendSensor_64 : decode cX1_appendSensor 64 = .ok (.iload 4, 2) := by decide +kernel
theorem dX1_appendSensor_66 : decode cX1_appendSensor 66 = .ok (.ireturn, 1) := by decide +kernel
set_option maxRecDepth 20000 in
theorem ggX1_sensorPart_X5_at : GoodIn wsX1_sensorPart wsX5_at := goodIn_r _ [4] (by decide +kernel) (by decide +kernel)
set_option maxRecDepth 20000 in
theorem gX1_sensorPart_X5_at_n51 : GoodIn wsX1_sensorPart (wsX5_at) := ggX1_sensorPart_X5_at
theorem dX1_sensorPart_0 : decode cX1_sensorPart 0 = .ok (.aload_n 0, 1) := by decide +kernel
theorem dX1_sensorPart_1 : decode cX1_sensorPart 1 = .ok (.getfield 21, 3) := by decide +kernel
theorem dX1_sensorPart_4 : decode cX1_sensorPart 4 = .ok (.iload_n 1, 1) := by decide +kernel
theorem dX1_sensorPart_5 : decode cX1_sensorPart 5 = .ok (.iconst 3, 1) := by decide +kernel
theorem dX1_sensorPart_6 : decode cX1_sensorPart 6 = .ok (.imul, 1) := by decide +kernel
theorem dX1_sensorPart_7 : decode cX1_sensorPart 7 = .ok (.iload_n 2, 1) := by decide +kernel
theorem dX1_sensorPart_8 : decode cX1_sensorPart 8 = .ok (.iadd, 1) := by decide +kernel
theorem dX1_sensorPart_9 : decode cX1_sensorPart 9 = .ok (.invokestatic 51, 3) := by decide +kernel
theorem dX1_sensorPart_12 : decode cX1_sensorPart 12 = .ok (.ireturn, 1) := by decide +kernel
set_option maxRecDepth 20000 in
theorem ggX1_setValue_X5_put : GoodIn wsX1_setValue wsX5_put := goodIn_r _ [4] (by decide +kernel) (by decide +kernel)
set_option maxRecDepth 20000 in
theorem gX1_setValue_X5_put_n33 : GoodIn wsX1_setValue (wsX5_put) := ggX1_setValue_X5_put
theorem dX1_setValue_0 : decode cX1_setValue 0 = .ok (.aload_n 0, 1) := by decide +kernel
theorem dX1_setValue_1 : decode cX1_setValue 1 = .ok (.getfield 21, 3) := by decide +kernel
theorem dX1_setValue_4 : decode cX1_setValue 4 = .ok (.iload_n 1, 1) := by decide +kernel
theorem dX1_setValue_5 : decode cX1_setValue 5 = .ok (.iconst 3, 1) := by decide +kernel
theorem dX1_setValue_6 : decode cX1_setValue 6 = .ok (.imul, 1) := by decide +kernel
theorem dX1_setValue_7 : decode cX1_setValue 7 = .ok (.iconst 2, 1) := by decide +kernel
theorem dX1_setValue_8 : decode cX1_setValue 8 = .ok (.iadd, 1) := by decide +kernel
theorem dX1_setValue_9 : decode cX1_setValue 9 = .ok (.iload_n 2, 1) := by decide +kernel
theorem dX1_setValue_10 : decode cX1_setValue 10 = .ok (.invokestatic 33, 3) := by decide +kernel
theorem dX1_setValue_13 : decode cX1_setValue 13 = .ok (.return_, 1) := by decide +kernel
set_option maxRecDepth 20000 in
theorem ggX1_appendInterest_X5_at : GoodIn wsX1_appendInterest wsX5_at := goodIn_r _ [6] (by decide +kernel) (by decide +kernel)
set_option maxRecDepth 20000 in
theorem gX1_appendInterest_X5_at_n51 : GoodIn wsX1_appendInterest (wsX5_at) := ggX1_appendInterest_X5_at
set_option maxRecDepth 20000 in
theorem ggX1_appendInterest_X5_put : GoodIn wsX1_appendInterest wsX5_put := goodIn_r _ [8] (by decide +kernel) (by decide +kernel)
set_option maxRecDepth 20000 in
theorem gX1_appendInterest_X5_put_n33 : GoodIn wsX1_appendInterest (wsX5_put) := ggX1_appendInterest_X5_put
set_option maxRecDepth 20000 in
theorem ggX1_appendInterest_X5_wayOf : GoodIn wsX1_appendInterest wsX5_wayOf := goodIn_r _ [10] (by decide +kernel) (by decide +kernel)
set_option maxRecDepth 20000 in
theorem gX1_appendInterest_X5_wayOf_n74 : GoodIn wsX1_appendInterest (wsX5_wayOf) := ggX1_appendInterest_X5_wayOf
theorem dX1_appendInterest_0 : decode cX1_appendInterest 0 = .ok (.aload_n 0, 1) := by decide +kernel
theorem dX1_appendInterest_1 : decode cX1_appendInterest 1 = .ok (.getfield 9, 3) := by decide +kernel
theorem dX1_appendInterest_4 : decode cX1_appendInterest 4 = .ok (.iconst 3, 1) := by decide +kernel
theorem dX1_appendInterest_5 : decode cX1_appendInterest 5 = .ok (.invokestatic 51, 3) := by decide +kernel
theorem dX1_appendInterest_8 : decode cX1_appendInterest 8 = .ok (.istore 6, 2) := by decide +kernel
theorem dX1_appendInterest_10 : decode cX1_appendInterest 10 = .ok (.aload_n 0, 1) := by decide +kernel
theorem dX1_appendInterest_11 : decode cX1_appendInterest 11 = .ok (.getfield 24, 3) := by decide +kernel
theorem dX1_appendInterest_14 : decode cX1_appendInterest 14 = .ok (.iload 6, 2) := by decide +kernel
theorem dX1_appendInterest_16 : decode cX1_appendInterest 16 = .ok (.bipush 7, 2) := by decide +kernel
theorem dX1_appendInterest_18 : decode cX1_appendInterest 18 = .ok (.imul, 1) := by decide +kernel
theorem dX1_appendInterest_19 : decode cX1_appendInterest 19 = .ok (.iconst 0, 1) := by decide +kernel
theorem dX1_appendInterest_20 : decode cX1_appendInterest 20 = .ok (.iadd, 1) := by decide +kernel
theorem dX1_appendInterest_21 : decode cX1_appendInterest 21 = .ok (.iload_n 1, 1) := by decide +kernel
theorem dX1_appendInterest_22 : decode cX1_appendInterest 22 = .ok (.invokestatic 33, 3) := by decide +kernel
theorem dX1_appendInterest_25 : decode cX1_appendInterest 25 = .ok (.aload_n 0, 1) := by decide +kernel
theorem dX1_appendInterest_26 : decode cX1_appendInterest 26 = .ok (.getfield 24, 3) := by decide +kernel
theorem dX1_appendInterest_29 : decode cX1_appendInterest 29 = .ok (.iload 6, 2) := by decide +kernel
theorem dX1_appendInterest_31 : decode cX1_appendInterest 31 = .ok (.bipush 7, 2) := by decide +kernel
theorem dX1_appendInterest_33 : decode cX1_appendInterest 33 = .ok (.imul, 1) := by decide +kernel
theorem dX1_appendInterest_34 : decode cX1_appendInterest 34 = .ok (.iconst 1, 1) := by decide +kernel
theorem dX1_appendInterest_35 : decode cX1_appendInterest 35 = .ok (.iadd, 1) := by decide +kernel
theorem dX1_appendInterest_36 : decode cX1_appendInterest 36 = .ok (.iload_n 2, 1) := by decide +kernel
theorem dX1_appendInterest_37 : decode cX1_appendInterest 37 = .ok (.invokestatic 33, 3) := by decide +kernel
theorem dX1_appendInterest_40 : decode cX1_appendInterest 40 = .ok (.aload_n 0, 1) := by decide +kernel
theorem dX1_appendInterest_41 : decode cX1_appendInterest 41 = .ok (.getfield 24, 3) := by decide +kernel
theorem dX1_appendInterest_44 : decode cX1_appendInterest 44 = .ok (.iload 6, 2) := by decide +kernel
theorem dX1_appendInterest_46 : decode cX1_appendInterest 46 = .ok (.bipush 7, 2) := by decide +kernel
theorem dX1_appendInterest_48 : decode cX1_appendInterest 48 = .ok (.imul, 1) := by decide +kernel
theorem dX1_appendInterest_49 : decode cX1_appendInterest 49 = .ok (.iconst 2, 1) := by decide +kernel
theorem dX1_appendInterest_50 : decode cX1_appendInterest 50 = .ok (.iadd, 1) := by decide +kernel
theorem dX1_appendInterest_51 : decode cX1_appendInterest 51 = .ok (.iload_n 3, 1) := by decide +kernel
theorem dX1_appendInterest_52 : decode cX1_appendInterest 52 = .ok (.invokestatic 33, 3) := by decide +kernel
theorem dX1_appendInterest_55 : decode cX1_appendInterest 55 = .ok (.aload_n 0, 1) := by decide +kernel
theorem dX1_appendInterest_56 : decode cX1_appendInterest 56 = .ok (.getfield 24, 3) := by decide +kernel
theorem dX1_appendInterest_59 : decode cX1_appendInterest 59 = .ok (.iload 6, 2) := by decide +kernel
theorem dX1_appendInterest_61 : decode cX1_appendInterest 61 = .ok (.bipush 7, 2) := by decide +kernel
theorem dX1_appendInterest_63 : decode cX1_appendInterest 63 = .ok (.imul, 1) := by decide +kernel
theorem dX1_appendInterest_64 : decode cX1_appendInterest 64 = .ok (.iconst 3, 1) := by decide +kernel
theorem dX1_appendInterest_65 : decode cX1_appendInterest 65 = .ok (.iadd, 1) := by decide +kernel
theorem dX1_appendInterest_66 : decode cX1_appendInterest 66 = .ok (.iload 4, 2) := by decide +kernel
theorem dX1_appendInterest_68 : decode cX1_appendInterest 68 = .ok (.invokestatic 33, 3) := by decide +kernel
theorem dX1_appendInterest_71 : decode cX1_appendInterest 71 = .ok (.aload_n 0, 1) := by decide +kernel
theorem dX1_appendInterest_72 : decode cX1_appendInterest 72 = .ok (.getfield 24, 3) := by decide +kernel
theorem dX1_appendInterest_75 : decode cX1_appendInterest 75 = .ok (.iload 6, 2) := by decide +kernel
theorem dX1_appendInterest_77 : decode cX1_appendInterest 77 = .ok (.bipush 7, 2) := by decide +kernel
theorem dX1_appendInterest_79 : decode cX1_appendInterest 79 = .ok (.imul, 1) := by decide +kernel
theorem dX1_appendInterest_80 : decode cX1_appendInterest 80 = .ok (.iconst 4, 1) := by decide +kernel
theorem dX1_appendInterest_81 : decode cX1_appendInterest 81 = .ok (.iadd, 1) := by decide +kernel
theorem dX1_appendInterest_82 : decode cX1_appendInterest 82 = .ok (.iload 5, 2) := by decide +kernel
theorem dX1_appendInterest_84 : decode cX1_appendInterest 84 = .ok (.invokestatic 33, 3) := by decide +kernel
theorem dX1_appendInterest_87 : decode cX1_appendInterest 87 = .ok (.aload_n 0, 1) := by decide +kernel
theorem dX1_appendInterest_88 : decode cX1_appendInterest 88 = .ok (.getfield 24, 3) := by decide +kernel
theorem dX1_appendInterest_91 : decode cX1_appendInterest 91 = .ok (.iload 6, 2) := by decide +kernel
theorem dX1_appendInterest_93 : decode cX1_appendInterest 93 = .ok (.bipush 7, 2) := by decide +kernel
theorem dX1_appendInterest_95 : decode cX1_appendInterest 95 = .ok (.imul, 1) := by decide +kernel
theorem dX1_appendInterest_96 : decode cX1_appendInterest 96 = .ok (.iconst 5, 1) := by decide +kernel
theorem dX1_appendInterest_97 : decode cX1_appendInterest 97 = .ok (.iadd, 1) := by decide +kernel
theorem dX1_appendInterest_98 : decode cX1_appendInterest 98 = .ok (.iconst 0, 1) := by decide +kernel
theorem dX1_appendInterest_99 : decode cX1_appendInterest 99 = .ok (.invokestatic 33, 3) := by decide +kernel
theorem dX1_appendInterest_102 : decode cX1_appendInterest 102 = .ok (.aload_n 0, 1) := by decide +kernel
theorem dX1_appendInterest_103 : decode cX1_appendInterest 103 = .ok (.getfield 24, 3) := by decide +kernel
theorem dX1_appendInterest_106 : decode cX1_appendInterest 106 = .ok (.iload 6, 2) := by decide +kernel
theorem dX1_appendInterest_108 : decode cX1_appendInterest 108 = .ok (.bipush 7, 2) := by decide +kernel
theorem dX1_appendInterest_110 : decode cX1_appendInterest 110 = .ok (.imul, 1) := by decide +kernel
theorem dX1_appendInterest_111 : decode cX1_appendInterest 111 = .ok (.bipush 6, 2) := by decide +kernel
theorem dX1_appendInterest_113 : decode cX1_appendInterest 113 = .ok (.iadd, 1) := by decide +kernel
theorem dX1_appendInterest_114 : decode cX1_appendInterest 114 = .ok (.iconst 0, 1) := by decide +kernel
theorem dX1_appendInterest_115 : decode cX1_appendInterest 115 = .ok (.invokestatic 33, 3) := by decide +kernel
theorem dX1_appendInterest_118 : decode cX1_appendInterest 118 = .ok (.iconst 0, 1) := by decide +kernel
theorem dX1_appendInterest_119 : decode cX1_appendInterest 119 = .ok (.istore 7, 2) := by decide +kernel
theorem dX1_appendInterest_121 : decode cX1_appendInterest 121 = .ok (.iload 7, 2) := by decide +kernel
theorem dX1_appendInterest_123 : decode cX1_appendInterest 123 = .ok (.bipush 6, 2) := by decide +kernel
theorem dX1_appendInterest_125 : decode cX1_appendInterest 125 = .ok (.if_icmp .ge 24, 3) := by decide +kernel
theorem dX1_appendInterest_128 : decode cX1_appendInterest 128 = .ok (.aload_n 0, 1) := by decide +kernel
theorem dX1_appendInterest_129 : decode cX1_appendInterest 129 = .ok (.getfield 27, 3) := by decide +kernel
theorem dX1_appendInterest_132 : decode cX1_appendInterest 132 = .ok (.iload 6, 2) := by decide +kernel
theorem dX1_appendInterest_134 : decode cX1_appendInterest 134 = .ok (.iload 7, 2) := by decide +kernel
theorem dX1_appendInterest_136 : decode cX1_appendInterest 136 = .ok (.invokestatic 74, 3) := by decide +kernel
theorem dX1_appendInterest_139 : decode cX1_appendInterest 139 = .ok (.iconst 0, 1) := by decide +kernel
theorem dX1_appendInterest_140 : decode cX1_appendInterest 140 = .ok (.invokestatic 33, 3) := by decide +kernel
theorem dX1_appendInterest_143 : decode cX1_appendInterest 143 = .ok (.iinc 7 1, 3) := by decide +kernel
theorem dX1_appendInterest_146 : decode cX1_appendInterest 146 = .ok (.goto (-25), 3) := by decide +kernel
theorem dX1_appendInterest_149 : decode cX1_appendInterest 149 = .ok (.aload_n 0, 1) := by decide +kernel
theorem dX1_appendInterest_150 : decode cX1_appendInterest 150 = .ok (.getfield 9, 3) := by decide +kernel
theorem dX1_appendInterest_153 : decode cX1_appendInterest 153 = .ok (.iconst 3, 1) := by decide +kernel
theorem dX1_appendInterest_154 : decode cX1_appendInterest 154 = .ok (.iload 6, 2) := by decide +kernel
theorem dX1_appendInterest_156 : decode cX1_appendInterest 156 = .ok (.iconst 1, 1) := by decide +kernel
theorem dX1_appendInterest_157 : decode cX1_appendInterest 157 = .ok (.iadd, 1) := by decide +kernel
theorem dX1_appendInterest_158 : decode cX1_appendInterest 158 = .ok (.invokestatic 33, 3) := by decide +kernel
theorem dX1_appendInterest_161 : decode cX1_appendInterest 161 = .ok (.iload 6, 2) := by decide +kernel
theorem dX1_appendInterest_163 : decode cX1_appendInterest 163 = .ok (.ireturn, 1) := by decide +kernel
set_option maxRecDepth 20000 in
theorem ggX1_removeInterest_X5_removePiece : GoodIn wsX1_removeInterest wsX5_removePiece := goodIn_r _ [7, 8, 9, 6, 10, 11, 12, 13] (by decide +kernel) (by decide +kernel)
set_option maxRecDepth 20000 in
theorem gX1_removeInterest_X5_removePiece_n64 : GoodIn wsX1_removeInterest (wsX5_removePiece) := ggX1_removeInterest_X5_removePiece
set_option maxRecDepth 20000 in
theorem ggX1_removeInterest_X5_increase : GoodIn wsX1_removeInterest wsX5_increase := goodIn_r _ [15, 8, 9, 6, 10, 11, 12, 13] (by decide +kernel) (by decide +kernel)
set_option maxRecDepth 20000 in
theorem gX1_removeInterest_X5_increase_n55 : GoodIn wsX1_removeInterest (wsX5_increase) := ggX1_removeInterest_X5_increase
theorem dX1_removeInterest_0 : decode cX1_removeInterest 0 = .ok (.aload_n 0, 1) := by decide +kernel
theorem dX1_removeInterest_1 : decode cX1_removeInterest 1 = .ok (.getfield 24, 3) := by decide +kernel
theorem dX1_removeInterest_4 : decode cX1_removeInterest 4 = .ok (.bipush 7, 2) := by decide +kernel
theorem dX1_removeInterest_6 : decode cX1_removeInterest 6 = .ok (.iload_n 1, 1) := by decide +kernel
theorem dX1_removeInterest_7 : decode cX1_removeInterest 7 = .ok (.invokestatic 64, 3) := by decide +kernel
theorem dX1_removeInterest_10 : decode cX1_removeInterest 10 = .ok (.aload_n 0, 1) := by decide +kernel
theorem dX1_removeInterest_11 : decode cX1_removeInterest 11 = .ok (.getfield 27, 3) := by decide +kernel
theorem dX1_removeInterest_14 : decode cX1_removeInterest 14 = .ok (.bipush 6, 2) := by decide +kernel
theorem dX1_removeInterest_16 : decode cX1_removeInterest 16 = .ok (.iload_n 1, 1) := by decide +kernel
theorem dX1_removeInterest_17 : decode cX1_removeInterest 17 = .ok (.invokestatic 64, 3) := by decide +kernel
theorem dX1_removeInterest_20 : decode cX1_removeInterest 20 = .ok (.aload_n 0, 1) := by decide +kernel
theorem dX1_removeInterest_21 : decode cX1_removeInterest 21 = .ok (.getfield 30, 3) := by decide +kernel
theorem dX1_removeInterest_24 : decode cX1_removeInterest 24 = .ok (.bipush 60, 2) := by decide +kernel
theorem dX1_removeInterest_26 : decode cX1_removeInterest 26 = .ok (.iload_n 1, 1) := by decide +kernel
theorem dX1_removeInterest_27 : decode cX1_removeInterest 27 = .ok (.invokestatic 64, 3) := by decide +kernel
theorem dX1_removeInterest_30 : decode cX1_removeInterest 30 = .ok (.aload_n 0, 1) := by decide +kernel
theorem dX1_removeInterest_31 : decode cX1_removeInterest 31 = .ok (.getfield 9, 3) := by decide +kernel
theorem dX1_removeInterest_34 : decode cX1_removeInterest 34 = .ok (.iconst 3, 1) := by decide +kernel
theorem dX1_removeInterest_35 : decode cX1_removeInterest 35 = .ok (.iconst (-1), 1) := by decide +kernel
theorem dX1_removeInterest_36 : decode cX1_removeInterest 36 = .ok (.invokestatic 55, 3) := by decide +kernel
theorem dX1_removeInterest_39 : decode cX1_removeInterest 39 = .ok (.return_, 1) := by decide +kernel
set_option maxRecDepth 20000 in
theorem ggX1_endInterests_X5_at : GoodIn wsX1_endInterests wsX5_at := goodIn_r _ [4] (by decide +kernel) (by decide +kernel)
set_option maxRecDepth 20000 in
theorem gX1_endInterests_X5_at_n51 : GoodIn wsX1_endInterests (wsX5_at) := ggX1_endInterests_X5_at
set_option maxRecDepth 20000 in
theorem ggX1_endInterests_X1_interestPart : GoodIn wsX1_endInterests wsX1_interestPart := goodIn_r _ [9, 10, 11, 12, 13, 8, 14, 1, 15, 2, 3, 4, 16, 17, 31, 32, 33, 34, 35, 36, 37] (by decide +kernel) (by decide +kernel)
set_option maxRecDepth 20000 in
theorem gX1_endInterests_X1_interestPart : GoodIn wsX1_endInterests (wsV RX1 77 RX1 yX1_interestPart wsX1_interestPart) := goodIn_app (goodIn_of _ (by decide +kernel)) ggX1_endInterests_X1_interestPart
set_option maxRecDepth 20000 in
theorem ggX1_endInterests_X1_removeInterest : GoodIn wsX1_endInterests wsX1_removeInterest := goodIn_r _ [21, 10, 15, 22, 1, 23, 3, 24, 25, 2, 4, 26, 27, 28, 29, 30, 31, 32, 33, 34, 35, 36, 37] (by decide +kernel) (by decide +kernel)
set_option maxRecDepth 20000 in
theorem gX1_endInterests_X1_removeInterest : GoodIn wsX1_endInterests (wsV RX1 80 RX1 yX1_removeInterest wsX1_removeInterest) := goodIn_app (goodIn_of _ (by decide +kernel)) ggX1_endInterests_X1_removeInterest
set_option maxRecDepth 20000 in
theorem ggX1_endInterests_X5_increase : GoodIn wsX1_endInterests wsX5_increase := goodIn_r _ [30, 25, 2, 3, 4, 26, 27, 28] (by decide +kernel) (by decide +kernel)
set_option maxRecDepth 20000 in
theorem gX1_endInterests_X5_increase_n55 : GoodIn wsX1_endInterests (wsX5_increase) := ggX1_endInterests_X5_increase
theorem dX1_endInterests_0 : decode cX1_endInterests 0 = .ok (.aload_n 0, 1) := by decide +kernel
theorem dX1_endInterests_1 : decode cX1_endInterests 1 = .ok (.getfield 9, 3) := by decide +kernel
theorem dX1_endInterests_4 : decode cX1_endInterests 4 = .ok (.iconst 3, 1) := by decide +kernel
theorem dX1_endInterests_5 : decode cX1_endInterests 5 = .ok (.invokestatic 51, 3) := by decide +kernel
theorem dX1_endInterests_8 : decode cX1_endInterests 8 = .ok (.iconst 1, 1) := by decide +kernel
theorem dX1_endInterests_9 : decode cX1_endInterests 9 = .ok (.isub, 1) := by decide +kernel
theorem dX1_endInterests_10 : decode cX1_endInterests 10 = .ok (.istore_n 1, 1) := by decide +kernel
theorem dX1_endInterests_11 : decode cX1_endInterests 11 = .ok (.iload_n 1, 1) := by decide +kernel
theorem dX1_endInterests_12 : decode cX1_endInterests 12 = .ok (.ifCond .lt 41, 3) := by decide +kernel
theorem dX1_endInterests_15 : decode cX1_endInterests 15 = .ok (.aload_n 0, 1) := by decide +kernel
theorem dX1_endInterests_16 : decode cX1_endInterests 16 = .ok (.iload_n 1, 1) := by decide +kernel
theorem dX1_endInterests_17 : decode cX1_endInterests 17 = .ok (.iconst 4, 1) := by decide +kernel
theorem dX1_endInterests_18 : decode cX1_endInterests 18 = .ok (.invokevirtual 77, 3) := by decide +kernel
theorem dX1_endInterests_21 : decode cX1_endInterests 21 = .ok (.aload_n 0, 1) := by decide +kernel
theorem dX1_endInterests_22 : decode cX1_endInterests 22 = .ok (.getfield 9, 3) := by decide +kernel
theorem dX1_endInterests_25 : decode cX1_endInterests 25 = .ok (.iconst 5, 1) := by decide +kernel
theorem dX1_endInterests_26 : decode cX1_endInterests 26 = .ok (.invokestatic 51, 3) := by decide +kernel
theorem dX1_endInterests_29 : decode cX1_endInterests 29 = .ok (.if_icmp .ge 18, 3) := by decide +kernel
theorem dX1_endInterests_32 : decode cX1_endInterests 32 = .ok (.aload_n 0, 1) := by decide +kernel
theorem dX1_endInterests_33 : decode cX1_endInterests 33 = .ok (.iload_n 1, 1) := by decide +kernel
theorem dX1_endInterests_34 : decode cX1_endInterests 34 = .ok (.invokevirtual 80, 3) := by decide +kernel
theorem dX1_endInterests_37 : decode cX1_endInterests 37 = .ok (.aload_n 0, 1) := by decide +kernel
theorem dX1_endInterests_38 : decode cX1_endInterests 38 = .ok (.getfield 9, 3) := by decide +kernel
theorem dX1_endInterests_41 : decode cX1_endInterests 41 = .ok (.bipush 11, 2) := by decide +kernel
theorem dX1_endInterests_43 : decode cX1_endInterests 43 = .ok (.iconst 1, 1) := by decide +kernel
theorem dX1_endInterests_44 : decode cX1_endInterests 44 = .ok (.invokestatic 55, 3) := by decide +kernel
theorem dX1_endInterests_47 : decode cX1_endInterests 47 = .ok (.iinc 1 (-1), 3) := by decide +kernel
theorem dX1_endInterests_50 : decode cX1_endInterests 50 = .ok (.goto (-39), 3) := by decide +kernel
theorem dX1_endInterests_53 : decode cX1_endInterests 53 = .ok (.return_, 1) := by decide +kernel
set_option maxRecDepth 20000 in
theorem ggX1_interestPart_X1_waysOf : GoodIn wsX1_interestPart wsX1_waysOf := goodIn_r _ [6, 7, 8, 9, 10, 11, 12, 13, 14, 15, 16, 17, 18, 19, 20] (by decide +kernel) (by decide +kernel)
set_option maxRecDepth 20000 in
theorem gX1_interestPart_X1_waysOf : GoodIn wsX1_interestPart (wsV RX1 84 RX1 yX1_waysOf wsX1_waysOf) := goodIn_app (goodIn_of _ (by decide +kernel)) ggX1_interestPart_X1_waysOf
set_option maxRecDepth 20000 in
theorem ggX1_interestPart_X5_at : GoodIn wsX1_interestPart wsX5_at := goodIn_r _ [11] (by decide +kernel) (by decide +kernel)
set_option maxRecDepth 20000 in
theorem gX1_interestPart_X5_at_n51 : GoodIn wsX1_interestPart (wsX5_at) := ggX1_interestPart_X5_at
theorem dX1_interestPart_0 : decode cX1_interestPart 0 = .ok (.iload_n 2, 1) := by decide +kernel
theorem dX1_interestPart_1 : decode cX1_interestPart 1 = .ok (.bipush 7, 2) := by decide +kernel
theorem dX1_interestPart_3 : decode cX1_interestPart 3 = .ok (.if_icmp .ne 11, 3) := by decide +kernel
theorem dX1_interestPart_6 : decode cX1_interestPart 6 = .ok (.aload_n 0, 1) := by decide +kernel
theorem dX1_interestPart_7 : decode cX1_interestPart 7 = .ok (.iload_n 1, 1) := by decide +kernel
theorem dX1_interestPart_8 : decode cX1_interestPart 8 = .ok (.invokevirtual 84, 3) := by decide +kernel
theorem dX1_interestPart_11 : decode cX1_interestPart 11 = .ok (.goto 16, 3) := by decide +kernel
theorem dX1_interestPart_14 : decode cX1_interestPart 14 = .ok (.aload_n 0, 1) := by decide +kernel
theorem dX1_interestPart_15 : decode cX1_interestPart 15 = .ok (.getfield 24, 3) := by decide +kernel
theorem dX1_interestPart_18 : decode cX1_interestPart 18 = .ok (.iload_n 1, 1) := by decide +kernel
theorem dX1_interestPart_19 : decode cX1_interestPart 19 = .ok (.bipush 7, 2) := by decide +kernel
theorem dX1_interestPart_21 : decode cX1_interestPart 21 = .ok (.imul, 1) := by decide +kernel
theorem dX1_interestPart_22 : decode cX1_interestPart 22 = .ok (.iload_n 2, 1) := by decide +kernel
theorem dX1_interestPart_23 : decode cX1_interestPart 23 = .ok (.iadd, 1) := by decide +kernel
theorem dX1_interestPart_24 : decode cX1_interestPart 24 = .ok (.invokestatic 51, 3) := by decide +kernel
theorem dX1_interestPart_27 : decode cX1_interestPart 27 = .ok (.ireturn, 1) := by decide +kernel
set_option maxRecDepth 20000 in
theorem ggX1_waysOf_X5_at : GoodIn wsX1_waysOf wsX5_at := goodIn_r _ [5] (by decide +kernel) (by decide +kernel)
set_option maxRecDepth 20000 in
theorem gX1_waysOf_X5_at_n51 : GoodIn wsX1_waysOf (wsX5_at) := ggX1_waysOf_X5_at
set_option maxRecDepth 20000 in
theorem ggX1_waysOf_X5_wayOf : GoodIn wsX1_waysOf wsX5_wayOf := goodIn_r _ [7] (by decide +kernel) (by decide +kernel)
set_option maxRecDepth 20000 in
theorem gX1_waysOf_X5_wayOf_n74 : GoodIn wsX1_waysOf (wsX5_wayOf) := ggX1_waysOf_X5_wayOf
theorem dX1_waysOf_0 : decode cX1_waysOf 0 = .ok (.iconst 0, 1) := by decide +kernel
theorem dX1_waysOf_1 : decode cX1_waysOf 1 = .ok (.istore_n 2, 1) := by decide +kernel
theorem dX1_waysOf_2 : decode cX1_waysOf 2 = .ok (.iconst 0, 1) := by decide +kernel
theorem dX1_waysOf_3 : decode cX1_waysOf 3 = .ok (.istore_n 3, 1) := by decide +kernel
theorem dX1_waysOf_4 : decode cX1_waysOf 4 = .ok (.iload_n 3, 1) := by decide +kernel
theorem dX1_waysOf_5 : decode cX1_waysOf 5 = .ok (.aload_n 0, 1) := by decide +kernel
theorem dX1_waysOf_6 : decode cX1_waysOf 6 = .ok (.getfield 9, 3) := by decide +kernel
theorem dX1_waysOf_9 : decode cX1_waysOf 9 = .ok (.iconst 2, 1) := by decide +kernel
theorem dX1_waysOf_10 : decode cX1_waysOf 10 = .ok (.invokestatic 51, 3) := by decide +kernel
theorem dX1_waysOf_13 : decode cX1_waysOf 13 = .ok (.if_icmp .ge 27, 3) := by decide +kernel
theorem dX1_waysOf_16 : decode cX1_waysOf 16 = .ok (.aload_n 0, 1) := by decide +kernel
theorem dX1_waysOf_17 : decode cX1_waysOf 17 = .ok (.getfield 27, 3) := by decide +kernel
theorem dX1_waysOf_20 : decode cX1_waysOf 20 = .ok (.iload_n 1, 1) := by decide +kernel
theorem dX1_waysOf_21 : decode cX1_waysOf 21 = .ok (.iload_n 3, 1) := by decide +kernel
theorem dX1_waysOf_22 : decode cX1_waysOf 22 = .ok (.invokestatic 74, 3) := by decide +kernel
theorem dX1_waysOf_25 : decode cX1_waysOf 25 = .ok (.invokestatic 51, 3) := by decide +kernel
theorem dX1_waysOf_28 : decode cX1_waysOf 28 = .ok (.ifCond .le 6, 3) := by decide +kernel
theorem dX1_waysOf_31 : decode cX1_waysOf 31 = .ok (.iinc 2 1, 3) := by decide +kernel
theorem dX1_waysOf_34 : decode cX1_waysOf 34 = .ok (.iinc 3 1, 3) := by decide +kernel
theorem dX1_waysOf_37 : decode cX1_waysOf 37 = .ok (.goto (-33), 3) := by decide +kernel
theorem dX1_waysOf_40 : decode cX1_waysOf 40 = .ok (.iload_n 2, 1) := by decide +kernel
theorem dX1_waysOf_41 : decode cX1_waysOf 41 = .ok (.ireturn, 1) := by decide +kernel
set_option maxRecDepth 20000 in
theorem ggX1_deliver_X5_increase : GoodIn wsX1_deliver wsX5_increase := goodIn_r _ [4, 5, 6, 3, 7, 8, 9, 10] (by decide +kernel) (by decide +kernel)
set_option maxRecDepth 20000 in
theorem gX1_deliver_X5_increase_n55 : GoodIn wsX1_deliver (wsX5_increase) := ggX1_deliver_X5_increase
theorem dX1_deliver_0 : decode cX1_deliver 0 = .ok (.aload_n 0, 1) := by decide +kernel
theorem dX1_deliver_1 : decode cX1_deliver 1 = .ok (.getfield 24, 3) := by decide +kernel
theorem dX1_deliver_4 : decode cX1_deliver 4 = .ok (.iload_n 1, 1) := by decide +kernel
theorem dX1_deliver_5 : decode cX1_deliver 5 = .ok (.bipush 7, 2) := by decide +kernel
theorem dX1_deliver_7 : decode cX1_deliver 7 = .ok (.imul, 1) := by decide +kernel
theorem dX1_deliver_8 : decode cX1_deliver 8 = .ok (.iconst 5, 1) := by decide +kernel
theorem dX1_deliver_9 : decode cX1_deliver 9 = .ok (.iadd, 1) := by decide +kernel
theorem dX1_deliver_10 : decode cX1_deliver 10 = .ok (.iconst 1, 1) := by decide +kernel
theorem dX1_deliver_11 : decode cX1_deliver 11 = .ok (.invokestatic 55, 3) := by decide +kernel
theorem dX1_deliver_14 : decode cX1_deliver 14 = .ok (.aload_n 0, 1) := by decide +kernel
theorem dX1_deliver_15 : decode cX1_deliver 15 = .ok (.getfield 24, 3) := by decide +kernel
theorem dX1_deliver_18 : decode cX1_deliver 18 = .ok (.iload_n 1, 1) := by decide +kernel
theorem dX1_deliver_19 : decode cX1_deliver 19 = .ok (.bipush 7, 2) := by decide +kernel
theorem dX1_deliver_21 : decode cX1_deliver 21 = .ok (.imul, 1) := by decide +kernel
theorem dX1_deliver_22 : decode cX1_deliver 22 = .ok (.bipush 6, 2) := by decide +kernel
theorem dX1_deliver_24 : decode cX1_deliver 24 = .ok (.iadd, 1) := by decide +kernel
theorem dX1_deliver_25 : decode cX1_deliver 25 = .ok (.iload_n 2, 1) := by decide +kernel
theorem dX1_deliver_26 : decode cX1_deliver 26 = .ok (.invokestatic 55, 3) := by decide +kernel
theorem dX1_deliver_29 : decode cX1_deliver 29 = .ok (.return_, 1) := by decide +kernel
set_option maxRecDepth 20000 in
theorem ggX1_matches_X1_sensorPart : GoodIn wsX1_matches wsX1_sensorPart := goodIn_r _ [5, 6, 7, 8, 9, 25, 26, 27, 28, 29, 30, 31] (by decide +kernel) (by decide +kernel)
set_option maxRecDepth 20000 in
theorem gX1_matches_X1_sensorPart : GoodIn wsX1_matches (wsV RX1 87 RX1 yX1_sensorPart wsX1_sensorPart) := goodIn_app (goodIn_of _ (by decide +kernel)) ggX1_matches_X1_sensorPart
set_option maxRecDepth 20000 in
theorem ggX1_matches_X1_interestPart : GoodIn wsX1_matches wsX1_interestPart := goodIn_r _ [13, 14, 15, 16, 17, 4, 18, 19, 20, 7, 8, 9, 21, 22, 25, 26, 27, 28, 29, 30, 31] (by decide +kernel) (by decide +kernel)
set_option maxRecDepth 20000 in
theorem gX1_matches_X1_interestPart : GoodIn wsX1_matches (wsV RX1 77 RX1 yX1_interestPart wsX1_interestPart) := goodIn_app (goodIn_of _ (by decide +kernel)) ggX1_matches_X1_interestPart
set_option maxRecDepth 20000 in
theorem ggX1_matches_X5_isWithin : GoodIn wsX1_matches wsX5_isWithin := goodIn_r _ [24] (by decide +kernel) (by decide +kernel)
set_option maxRecDepth 20000 in
theorem gX1_matches_X5_isWithin_n90 : GoodIn wsX1_matches (wsX5_isWithin) := ggX1_matches_X5_isWithin
theorem dX1_matches_0 : decode cX1_matches 0 = .ok (.aload_n 0, 1) := by decide +kernel
theorem dX1_matches_1 : decode cX1_matches 1 = .ok (.iload_n 1, 1) := by decide +kernel
theorem dX1_matches_2 : decode cX1_matches 2 = .ok (.iconst 1, 1) := by decide +kernel
theorem dX1_matches_3 : decode cX1_matches 3 = .ok (.invokevirtual 87, 3) := by decide +kernel
theorem dX1_matches_6 : decode cX1_matches 6 = .ok (.aload_n 0, 1) := by decide +kernel
theorem dX1_matches_7 : decode cX1_matches 7 = .ok (.iload_n 2, 1) := by decide +kernel
theorem dX1_matches_8 : decode cX1_matches 8 = .ok (.iconst 1, 1) := by decide +kernel
theorem dX1_matches_9 : decode cX1_matches 9 = .ok (.invokevirtual 77, 3) := by decide +kernel
theorem dX1_matches_12 : decode cX1_matches 12 = .ok (.if_icmp .ne 31, 3) := by decide +kernel
theorem dX1_matches_15 : decode cX1_matches 15 = .ok (.aload_n 0, 1) := by decide +kernel
theorem dX1_matches_16 : decode cX1_matches 16 = .ok (.iload_n 1, 1) := by decide +kernel
theorem dX1_matches_17 : decode cX1_matches 17 = .ok (.iconst 2, 1) := by decide +kernel
theorem dX1_matches_18 : decode cX1_matches 18 = .ok (.invokevirtual 87, 3) := by decide +kernel
theorem dX1_matches_21 : decode cX1_matches 21 = .ok (.aload_n 0, 1) := by decide +kernel
theorem dX1_matches_22 : decode cX1_matches 22 = .ok (.iload_n 2, 1) := by decide +kernel
theorem dX1_matches_23 : decode cX1_matches 23 = .ok (.iconst 2, 1) := by decide +kernel
theorem dX1_matches_24 : decode cX1_matches 24 = .ok (.invokevirtual 77, 3) := by decide +kernel
theorem dX1_matches_27 : decode cX1_matches 27 = .ok (.aload_n 0, 1) := by decide +kernel
theorem dX1_matches_28 : decode cX1_matches 28 = .ok (.iload_n 2, 1) := by decide +kernel
theorem dX1_matches_29 : decode cX1_matches 29 = .ok (.iconst 3, 1) := by decide +kernel
theorem dX1_matches_30 : decode cX1_matches 30 = .ok (.invokevirtual 77, 3) := by decide +kernel
theorem dX1_matches_33 : decode cX1_matches 33 = .ok (.invokestatic 90, 3) := by decide +kernel
theorem dX1_matches_36 : decode cX1_matches 36 = .ok (.ifCond .eq 7, 3) := by decide +kernel
theorem dX1_matches_39 : decode cX1_matches 39 = .ok (.iconst 1, 1) := by decide +kernel
theorem dX1_matches_40 : decode cX1_matches 40 = .ok (.goto 4, 3) := by decide +kernel
theorem dX1_matches_43 : decode cX1_matches 43 = .ok (.iconst 0, 1) := by decide +kernel
theorem dX1_matches_44 : decode cX1_matches 44 = .ok (.ireturn, 1) := by decide +kernel
set_option maxRecDepth 20000 in
theorem ggX1_lengthOf_X5_at : GoodIn wsX1_lengthOf wsX5_at := goodIn_r _ [4] (by decide +kernel) (by decide +kernel)
set_option maxRecDepth 20000 in
theorem gX1_lengthOf_X5_at_n51 : GoodIn wsX1_lengthOf (wsX5_at) := ggX1_lengthOf_X5_at
theorem dX1_lengthOf_0 : decode cX1_lengthOf 0 = .ok (.aload_n 0, 1) := by decide +kernel
theorem dX1_lengthOf_1 : decode cX1_lengthOf 1 = .ok (.getfield 27, 3) := by decide +kernel
theorem dX1_lengthOf_4 : decode cX1_lengthOf 4 = .ok (.iload_n 1, 1) := by decide +kernel
theorem dX1_lengthOf_5 : decode cX1_lengthOf 5 = .ok (.invokestatic 51, 3) := by decide +kernel
theorem dX1_lengthOf_8 : decode cX1_lengthOf 8 = .ok (.ireturn, 1) := by decide +kernel
set_option maxRecDepth 20000 in
theorem ggX1_nodeOf_X5_at : GoodIn wsX1_nodeOf wsX5_at := goodIn_r _ [4] (by decide +kernel) (by decide +kernel)
set_option maxRecDepth 20000 in
theorem gX1_nodeOf_X5_at_n51 : GoodIn wsX1_nodeOf (wsX5_at) := ggX1_nodeOf_X5_at
theorem dX1_nodeOf_0 : decode cX1_nodeOf 0 = .ok (.aload_n 0, 1) := by decide +kernel
theorem dX1_nodeOf_1 : decode cX1_nodeOf 1 = .ok (.getfield 30, 3) := by decide +kernel
theorem dX1_nodeOf_4 : decode cX1_nodeOf 4 = .ok (.iload_n 1, 1) := by decide +kernel
theorem dX1_nodeOf_5 : decode cX1_nodeOf 5 = .ok (.bipush 10, 2) := by decide +kernel
theorem dX1_nodeOf_7 : decode cX1_nodeOf 7 = .ok (.imul, 1) := by decide +kernel
theorem dX1_nodeOf_8 : decode cX1_nodeOf 8 = .ok (.iload_n 2, 1) := by decide +kernel
theorem dX1_nodeOf_9 : decode cX1_nodeOf 9 = .ok (.iadd, 1) := by decide +kernel
theorem dX1_nodeOf_10 : decode cX1_nodeOf 10 = .ok (.invokestatic 51, 3) := by decide +kernel
theorem dX1_nodeOf_13 : decode cX1_nodeOf 13 = .ok (.ireturn, 1) := by decide +kernel
set_option maxRecDepth 20000 in
theorem ggX1_setWay_X5_put : GoodIn wsX1_setWay wsX5_put := goodIn_r _ [5] (by decide +kernel) (by decide +kernel)
set_option maxRecDepth 20000 in
theorem gX1_setWay_X5_put_n33 : GoodIn wsX1_setWay (wsX5_put) := ggX1_setWay_X5_put
set_option maxRecDepth 20000 in
theorem ggX1_setWay_X5_at : GoodIn wsX1_setWay wsX5_at := goodIn_r _ [7] (by decide +kernel) (by decide +kernel)
set_option maxRecDepth 20000 in
theorem gX1_setWay_X5_at_n51 : GoodIn wsX1_setWay (wsX5_at) := ggX1_setWay_X5_at
theorem dX1_setWay_0 : decode cX1_setWay 0 = .ok (.aload_n 0, 1) := by decide +kernel
theorem dX1_setWay_1 : decode cX1_setWay 1 = .ok (.getfield 27, 3) := by decide +kernel
theorem dX1_setWay_4 : decode cX1_setWay 4 = .ok (.iload_n 1, 1) := by decide +kernel
theorem dX1_setWay_5 : decode cX1_setWay 5 = .ok (.iload_n 3, 1) := by decide +kernel
theorem dX1_setWay_6 : decode cX1_setWay 6 = .ok (.invokestatic 33, 3) := by decide +kernel
theorem dX1_setWay_9 : decode cX1_setWay 9 = .ok (.iconst 0, 1) := by decide +kernel
theorem dX1_setWay_10 : decode cX1_setWay 10 = .ok (.istore 4, 2) := by decide +kernel
theorem dX1_setWay_12 : decode cX1_setWay 12 = .ok (.iload 4, 2) := by decide +kernel
theorem dX1_setWay_14 : decode cX1_setWay 14 = .ok (.iload_n 3, 1) := by decide +kernel
theorem dX1_setWay_15 : decode cX1_setWay 15 = .ok (.if_icmp .ge 33, 3) := by decide +kernel
theorem dX1_setWay_18 : decode cX1_setWay 18 = .ok (.aload_n 0, 1) := by decide +kernel
theorem dX1_setWay_19 : decode cX1_setWay 19 = .ok (.getfield 30, 3) := by decide +kernel
theorem dX1_setWay_22 : decode cX1_setWay 22 = .ok (.iload_n 1, 1) := by decide +kernel
theorem dX1_setWay_23 : decode cX1_setWay 23 = .ok (.bipush 10, 2) := by decide +kernel
theorem dX1_setWay_25 : decode cX1_setWay 25 = .ok (.imul, 1) := by decide +kernel
theorem dX1_setWay_26 : decode cX1_setWay 26 = .ok (.iload 4, 2) := by decide +kernel
theorem dX1_setWay_28 : decode cX1_setWay 28 = .ok (.iadd, 1) := by decide +kernel
theorem dX1_setWay_29 : decode cX1_setWay 29 = .ok (.aload_n 2, 1) := by decide +kernel
theorem dX1_setWay_30 : decode cX1_setWay 30 = .ok (.iload_n 3, 1) := by decide +kernel
theorem dX1_setWay_31 : decode cX1_setWay 31 = .ok (.iconst 1, 1) := by decide +kernel
theorem dX1_setWay_32 : decode cX1_setWay 32 = .ok (.isub, 1) := by decide +kernel
theorem dX1_setWay_33 : decode cX1_setWay 33 = .ok (.iload 4, 2) := by decide +kernel
theorem dX1_setWay_35 : decode cX1_setWay 35 = .ok (.isub, 1) := by decide +kernel
theorem dX1_setWay_36 : decode cX1_setWay 36 = .ok (.invokestatic 51, 3) := by decide +kernel
theorem dX1_setWay_39 : decode cX1_setWay 39 = .ok (.invokestatic 33, 3) := by decide +kernel
theorem dX1_setWay_42 : decode cX1_setWay 42 = .ok (.iinc 4 1, 3) := by decide +kernel
theorem dX1_setWay_45 : decode cX1_setWay 45 = .ok (.goto (-33), 3) := by decide +kernel
theorem dX1_setWay_48 : decode cX1_setWay 48 = .ok (.return_, 1) := by decide +kernel
set_option maxRecDepth 20000 in
theorem ggX1_dropWay_X5_put : GoodIn wsX1_dropWay wsX5_put := goodIn_r _ [4] (by decide +kernel) (by decide +kernel)
set_option maxRecDepth 20000 in
theorem gX1_dropWay_X5_put_n33 : GoodIn wsX1_dropWay (wsX5_put) := ggX1_dropWay_X5_put
theorem dX1_dropWay_0 : decode cX1_dropWay 0 = .ok (.aload_n 0, 1) := by decide +kernel
theorem dX1_dropWay_1 : decode cX1_dropWay 1 = .ok (.getfield 27, 3) := by decide +kernel
theorem dX1_dropWay_4 : decode cX1_dropWay 4 = .ok (.iload_n 1, 1) := by decide +kernel
theorem dX1_dropWay_5 : decode cX1_dropWay 5 = .ok (.iconst 0, 1) := by decide +kernel
theorem dX1_dropWay_6 : decode cX1_dropWay 6 = .ok (.invokestatic 33, 3) := by decide +kernel
theorem dX1_dropWay_9 : decode cX1_dropWay 9 = .ok (.return_, 1) := by decide +kernel
set_option maxRecDepth 20000 in
theorem ggX1_goesOver_X5_at : GoodIn wsX1_goesOver wsX5_at := goodIn_r _ [5] (by decide +kernel) (by decide +kernel)
set_option maxRecDepth 20000 in
theorem gX1_goesOver_X5_at_n51 : GoodIn wsX1_goesOver (wsX5_at) := ggX1_goesOver_X5_at
set_option maxRecDepth 20000 in
theorem ggX1_goesOver_X1_isPair : GoodIn wsX1_goesOver wsX1_isPair := goodIn_r _ [9] (by decide +kernel) (by decide +kernel)
set_option maxRecDepth 20000 in
theorem gX1_goesOver_X1_isPair : GoodIn wsX1_goesOver (va_wsS RX1 70 yX1_isPair wsX1_isPair) := goodIn_app (goodIn_of _ (by decide +kernel)) ggX1_goesOver_X1_isPair
theorem dX1_goesOver_0 : decode cX1_goesOver 0 = .ok (.iload_n 1, 1) := by decide +kernel
theorem dX1_goesOver_1 : decode cX1_goesOver 1 = .ok (.bipush 10, 2) := by decide +kernel
theorem dX1_goesOver_3 : decode cX1_goesOver 3 = .ok (.imul, 1) := by decide +kernel
theorem dX1_goesOver_4 : decode cX1_goesOver 4 = .ok (.istore 4, 2) := by decide +kernel
theorem dX1_goesOver_6 : decode cX1_goesOver 6 = .ok (.iconst 1, 1) := by decide +kernel
theorem dX1_goesOver_7 : decode cX1_goesOver 7 = .ok (.istore 5, 2) := by decide +kernel
theorem dX1_goesOver_9 : decode cX1_goesOver 9 = .ok (.iload 5, 2) := by decide +kernel
theorem dX1_goesOver_11 : decode cX1_goesOver 11 = .ok (.aload_n 0, 1) := by decide +kernel
theorem dX1_goesOver_12 : decode cX1_goesOver 12 = .ok (.getfield 27, 3) := by decide +kernel
theorem dX1_goesOver_15 : decode cX1_goesOver 15 = .ok (.iload_n 1, 1) := by decide +kernel
theorem dX1_goesOver_16 : decode cX1_goesOver 16 = .ok (.invokestatic 51, 3) := by decide +kernel
theorem dX1_goesOver_19 : decode cX1_goesOver 19 = .ok (.if_icmp .ge 45, 3) := by decide +kernel
theorem dX1_goesOver_22 : decode cX1_goesOver 22 = .ok (.aload_n 0, 1) := by decide +kernel
theorem dX1_goesOver_23 : decode cX1_goesOver 23 = .ok (.getfield 30, 3) := by decide +kernel
theorem dX1_goesOver_26 : decode cX1_goesOver 26 = .ok (.iload 4, 2) := by decide +kernel
theorem dX1_goesOver_28 : decode cX1_goesOver 28 = .ok (.iload 5, 2) := by decide +kernel
theorem dX1_goesOver_30 : decode cX1_goesOver 30 = .ok (.iadd, 1) := by decide +kernel
theorem dX1_goesOver_31 : decode cX1_goesOver 31 = .ok (.iconst 1, 1) := by decide +kernel
theorem dX1_goesOver_32 : decode cX1_goesOver 32 = .ok (.isub, 1) := by decide +kernel
theorem dX1_goesOver_33 : decode cX1_goesOver 33 = .ok (.invokestatic 51, 3) := by decide +kernel
theorem dX1_goesOver_36 : decode cX1_goesOver 36 = .ok (.aload_n 0, 1) := by decide +kernel
theorem dX1_goesOver_37 : decode cX1_goesOver 37 = .ok (.getfield 30, 3) := by decide +kernel
theorem dX1_goesOver_40 : decode cX1_goesOver 40 = .ok (.iload 4, 2) := by decide +kernel
theorem dX1_goesOver_42 : decode cX1_goesOver 42 = .ok (.iload 5, 2) := by decide +kernel
theorem dX1_goesOver_44 : decode cX1_goesOver 44 = .ok (.iadd, 1) := by decide +kernel
theorem dX1_goesOver_45 : decode cX1_goesOver 45 = .ok (.invokestatic 51, 3) := by decide +kernel
theorem dX1_goesOver_48 : decode cX1_goesOver 48 = .ok (.iload_n 2, 1) := by decide +kernel
theorem dX1_goesOver_49 : decode cX1_goesOver 49 = .ok (.iload_n 3, 1) := by decide +kernel
theorem dX1_goesOver_50 : decode cX1_goesOver 50 = .ok (.invokestatic 70, 3) := by decide +kernel
theorem dX1_goesOver_53 : decode cX1_goesOver 53 = .ok (.ifCond .eq 5, 3) := by decide +kernel
theorem dX1_goesOver_56 : decode cX1_goesOver 56 = .ok (.iconst 1, 1) := by decide +kernel
theorem dX1_goesOver_57 : decode cX1_goesOver 57 = .ok (.ireturn, 1) := by decide +kernel
theorem dX1_goesOver_58 : decode cX1_goesOver 58 = .ok (.iinc 5 1, 3) := by decide +kernel
theorem dX1_goesOver_61 : decode cX1_goesOver 61 = .ok (.goto (-52), 3) := by decide +kernel
theorem dX1_goesOver_64 : decode cX1_goesOver 64 = .ok (.iconst 0, 1) := by decide +kernel
theorem dX1_goesOver_65 : decode cX1_goesOver 65 = .ok (.ireturn, 1) := by decide +kernel
set_option maxRecDepth 20000 in
theorem ggX1_waysOver_X5_at : GoodIn wsX1_waysOver wsX5_at := goodIn_r _ [4] (by decide +kernel) (by decide +kernel)
set_option maxRecDepth 20000 in
theorem gX1_waysOver_X5_at_n51 : GoodIn wsX1_waysOver (wsX5_at) := ggX1_waysOver_X5_at
set_option maxRecDepth 20000 in
theorem ggX1_waysOver_X5_wayOf : GoodIn wsX1_waysOver wsX5_wayOf := goodIn_r _ [6] (by decide +kernel) (by decide +kernel)
set_option maxRecDepth 20000 in
theorem gX1_waysOver_X5_wayOf_n74 : GoodIn wsX1_waysOver (wsX5_wayOf) := ggX1_waysOver_X5_wayOf
set_option maxRecDepth 20000 in
theorem ggX1_waysOver_X1_goesOver : GoodIn wsX1_waysOver wsX1_goesOver := goodIn_r _ [11, 12, 13, 2, 3, 4, 14, 15, 10, 16, 17, 18, 19, 20, 21, 22, 23] (by decide +kernel) (by decide +kernel)
set_option maxRecDepth 20000 in
theorem gX1_waysOver_X1_goesOver : GoodIn wsX1_waysOver (wsV RX1 94 RX1 yX1_goesOver wsX1_goesOver) := goodIn_app (goodIn_of _ (by decide +kernel)) ggX1_waysOver_X1_goesOver
theorem dX1_waysOver_0 : decode cX1_waysOver 0 = .ok (.iconst 0, 1) := by decide +kernel
theorem dX1_waysOver_1 : decode cX1_waysOver 1 = .ok (.istore_n 3, 1) := by decide +kernel
theorem dX1_waysOver_2 : decode cX1_waysOver 2 = .ok (.iconst 0, 1) := by decide +kernel
theorem dX1_waysOver_3 : decode cX1_waysOver 3 = .ok (.istore 4, 2) := by decide +kernel
theorem dX1_waysOver_5 : decode cX1_waysOver 5 = .ok (.iload 4, 2) := by decide +kernel
theorem dX1_waysOver_7 : decode cX1_waysOver 7 = .ok (.aload_n 0, 1) := by decide +kernel
theorem dX1_waysOver_8 : decode cX1_waysOver 8 = .ok (.getfield 9, 3) := by decide +kernel
theorem dX1_waysOver_11 : decode cX1_waysOver 11 = .ok (.iconst 3, 1) := by decide +kernel
theorem dX1_waysOver_12 : decode cX1_waysOver 12 = .ok (.invokestatic 51, 3) := by decide +kernel
theorem dX1_waysOver_15 : decode cX1_waysOver 15 = .ok (.if_icmp .ge 50, 3) := by decide +kernel
theorem dX1_waysOver_18 : decode cX1_waysOver 18 = .ok (.iconst 0, 1) := by decide +kernel
theorem dX1_waysOver_19 : decode cX1_waysOver 19 = .ok (.istore 5, 2) := by decide +kernel
theorem dX1_waysOver_21 : decode cX1_waysOver 21 = .ok (.iload 5, 2) := by decide +kernel
theorem dX1_waysOver_23 : decode cX1_waysOver 23 = .ok (.aload_n 0, 1) := by decide +kernel
theorem dX1_waysOver_24 : decode cX1_waysOver 24 = .ok (.getfield 9, 3) := by decide +kernel
theorem dX1_waysOver_27 : decode cX1_waysOver 27 = .ok (.iconst 2, 1) := by decide +kernel
theorem dX1_waysOver_28 : decode cX1_waysOver 28 = .ok (.invokestatic 51, 3) := by decide +kernel
theorem dX1_waysOver_31 : decode cX1_waysOver 31 = .ok (.if_icmp .ge 28, 3) := by decide +kernel
theorem dX1_waysOver_34 : decode cX1_waysOver 34 = .ok (.aload_n 0, 1) := by decide +kernel
theorem dX1_waysOver_35 : decode cX1_waysOver 35 = .ok (.iload 4, 2) := by decide +kernel
theorem dX1_waysOver_37 : decode cX1_waysOver 37 = .ok (.iload 5, 2) := by decide +kernel
theorem dX1_waysOver_39 : decode cX1_waysOver 39 = .ok (.invokestatic 74, 3) := by decide +kernel
theorem dX1_waysOver_42 : decode cX1_waysOver 42 = .ok (.iload_n 1, 1) := by decide +kernel
theorem dX1_waysOver_43 : decode cX1_waysOver 43 = .ok (.iload_n 2, 1) := by decide +kernel
theorem dX1_waysOver_44 : decode cX1_waysOver 44 = .ok (.invokevirtual 94, 3) := by decide +kernel
theorem dX1_waysOver_47 : decode cX1_waysOver 47 = .ok (.ifCond .eq 6, 3) := by decide +kernel
theorem dX1_waysOver_50 : decode cX1_waysOver 50 = .ok (.iinc 3 1, 3) := by decide +kernel
theorem dX1_waysOver_53 : decode cX1_waysOver 53 = .ok (.iinc 5 1, 3) := by decide +kernel
theorem dX1_waysOver_56 : decode cX1_waysOver 56 = .ok (.goto (-35), 3) := by decide +kernel
theorem dX1_waysOver_59 : decode cX1_waysOver 59 = .ok (.iinc 4 1, 3) := by decide +kernel
theorem dX1_waysOver_62 : decode cX1_waysOver 62 = .ok (.goto (-57), 3) := by decide +kernel
theorem dX1_waysOver_65 : decode cX1_waysOver 65 = .ok (.iload_n 3, 1) := by decide +kernel
theorem dX1_waysOver_66 : decode cX1_waysOver 66 = .ok (.ireturn, 1) := by decide +kernel
set_option maxRecDepth 20000 in
theorem ggX1_hash_X1_number : GoodIn wsX1_hash wsX1_number := goodIn_r _ [12, 4, 13, 14, 15, 11, 16, 3, 17, 18, 19, 20, 21, 22, 23, 24, 25, 26, 47, 48, 49, 50, 51, 52, 53] (by decide +kernel) (by decide +kernel)
set_option maxRecDepth 20000 in
theorem gX1_hash_X1_number : GoodIn wsX1_hash (wsV RX1 101 RX1 yX1_number wsX1_number) := goodIn_app (goodIn_of _ (by decide +kernel)) ggX1_hash_X1_number
set_option maxRecDepth 20000 in
theorem ggX1_hash_X5_at : GoodIn wsX1_hash wsX5_at := goodIn_r _ [19] (by decide +kernel) (by decide +kernel)
set_option maxRecDepth 20000 in
theorem gX1_hash_X5_at_n51 : GoodIn wsX1_hash (wsX5_at) := ggX1_hash_X5_at
set_option maxRecDepth 20000 in
theorem ggX1_hash_X5_hashOf : GoodIn wsX1_hash wsX5_hashOf := goodIn_r _ [28, 29, 30, 17, 18, 19] (by decide +kernel) (by decide +kernel)
set_option maxRecDepth 20000 in
theorem gX1_hash_X5_hashOf_n104 : GoodIn wsX1_hash (wsX5_hashOf) := ggX1_hash_X5_hashOf
set_option maxRecDepth 20000 in
theorem ggX1_hash_X1_waysOf : GoodIn wsX1_hash wsX1_waysOf := goodIn_r _ [34, 4, 35, 17, 18, 19, 36, 37, 47, 48, 49, 50, 51, 52, 53] (by decide +kernel) (by decide +kernel)
set_option maxRecDepth 20000 in
theorem gX1_hash_X1_waysOf : GoodIn wsX1_hash (wsV RX1 84 RX1 yX1_waysOf wsX1_waysOf) := goodIn_app (goodIn_of _ (by decide +kernel)) ggX1_hash_X1_waysOf
set_option maxRecDepth 20000 in
theorem ggX1_hash_X1_hashOfWays : GoodIn wsX1_hash wsX1_hashOfWays := goodIn_r _ [41, 4, 2, 42, 17, 18, 19, 36, 37, 43, 44, 45, 11, 46, 35, 27, 28, 29, 30, 47, 48, 49, 50, 51, 52, 53] (by decide +kernel) (by decide +kernel)
set_option maxRecDepth 20000 in
theorem gX1_hash_X1_hashOfWays : GoodIn wsX1_hash (wsV RX1 108 RX1 yX1_hashOfWays wsX1_hashOfWays) := goodIn_app (goodIn_of _ (by decide +kernel)) ggX1_hash_X1_hashOfWays
theorem dX1_hash_0 : decode cX1_hash 0 = .ok (.ldc2_w 97, 3) := by decide +kernel
theorem dX1_hash_3 : decode cX1_hash 3 = .ok (.lstore_n 1, 1) := by decide +kernel
theorem dX1_hash_4 : decode cX1_hash 4 = .ok (.iconst 0, 1) := by decide +kernel
theorem dX1_hash_5 : decode cX1_hash 5 = .ok (.istore_n 3, 1) := by decide +kernel
theorem dX1_hash_6 : decode cX1_hash 6 = .ok (.iload_n 3, 1) := by decide +kernel
theorem dX1_hash_7 : decode cX1_hash 7 = .ok (.bipush 12, 2) := by decide +kernel
theorem dX1_hash_9 : decode cX1_hash 9 = .ok (.if_icmp .ge 22, 3) := by decide +kernel
theorem dX1_hash_12 : decode cX1_hash 12 = .ok (.ldc2_w 99, 3) := by decide +kernel
theorem dX1_hash_15 : decode cX1_hash 15 = .ok (.lload_n 1, 1) := by decide +kernel
theorem dX1_hash_16 : decode cX1_hash 16 = .ok (.lmul, 1) := by decide +kernel
theorem dX1_hash_17 : decode cX1_hash 17 = .ok (.aload_n 0, 1) := by decide +kernel
theorem dX1_hash_18 : decode cX1_hash 18 = .ok (.iload_n 3, 1) := by decide +kernel
theorem dX1_hash_19 : decode cX1_hash 19 = .ok (.invokevirtual 101, 3) := by decide +kernel
theorem dX1_hash_22 : decode cX1_hash 22 = .ok (.i2l, 1) := by decide +kernel
theorem dX1_hash_23 : decode cX1_hash 23 = .ok (.ladd, 1) := by decide +kernel
theorem dX1_hash_24 : decode cX1_hash 24 = .ok (.lstore_n 1, 1) := by decide +kernel
theorem dX1_hash_25 : decode cX1_hash 25 = .ok (.iinc 3 1, 3) := by decide +kernel
theorem dX1_hash_28 : decode cX1_hash 28 = .ok (.goto (-22), 3) := by decide +kernel
theorem dX1_hash_31 : decode cX1_hash 31 = .ok (.lload_n 1, 1) := by decide +kernel
theorem dX1_hash_32 : decode cX1_hash 32 = .ok (.aload_n 0, 1) := by decide +kernel
theorem dX1_hash_33 : decode cX1_hash 33 = .ok (.getfield 15, 3) := by decide +kernel
theorem dX1_hash_36 : decode cX1_hash 36 = .ok (.iconst 0, 1) := by decide +kernel
theorem dX1_hash_37 : decode cX1_hash 37 = .ok (.aload_n 0, 1) := by decide +kernel
theorem dX1_hash_38 : decode cX1_hash 38 = .ok (.getfield 9, 3) := by decide +kernel
theorem dX1_hash_41 : decode cX1_hash 41 = .ok (.iconst 0, 1) := by decide +kernel
theorem dX1_hash_42 : decode cX1_hash 42 = .ok (.invokestatic 51, 3) := by decide +kernel
theorem dX1_hash_45 : decode cX1_hash 45 = .ok (.invokestatic 104, 3) := by decide +kernel
theorem dX1_hash_48 : decode cX1_hash 48 = .ok (.lstore_n 1, 1) := by decide +kernel
theorem dX1_hash_49 : decode cX1_hash 49 = .ok (.lload_n 1, 1) := by decide +kernel
theorem dX1_hash_50 : decode cX1_hash 50 = .ok (.aload_n 0, 1) := by decide +kernel
theorem dX1_hash_51 : decode cX1_hash 51 = .ok (.getfield 18, 3) := by decide +kernel
theorem dX1_hash_54 : decode cX1_hash 54 = .ok (.iconst 0, 1) := by decide +kernel
theorem dX1_hash_55 : decode cX1_hash 55 = .ok (.aload_n 0, 1) := by decide +kernel
theorem dX1_hash_56 : decode cX1_hash 56 = .ok (.getfield 9, 3) := by decide +kernel
theorem dX1_hash_59 : decode cX1_hash 59 = .ok (.iconst 1, 1) := by decide +kernel
theorem dX1_hash_60 : decode cX1_hash 60 = .ok (.invokestatic 51, 3) := by decide +kernel
theorem dX1_hash_63 : decode cX1_hash 63 = .ok (.iconst 3, 1) := by decide +kernel
theorem dX1_hash_64 : decode cX1_hash 64 = .ok (.imul, 1) := by decide +kernel
theorem dX1_hash_65 : decode cX1_hash 65 = .ok (.invokestatic 104, 3) := by decide +kernel
theorem dX1_hash_68 : decode cX1_hash 68 = .ok (.lstore_n 1, 1) := by decide +kernel
theorem dX1_hash_69 : decode cX1_hash 69 = .ok (.lload_n 1, 1) := by decide +kernel
theorem dX1_hash_70 : decode cX1_hash 70 = .ok (.aload_n 0, 1) := by decide +kernel
theorem dX1_hash_71 : decode cX1_hash 71 = .ok (.getfield 21, 3) := by decide +kernel
theorem dX1_hash_74 : decode cX1_hash 74 = .ok (.iconst 0, 1) := by decide +kernel
theorem dX1_hash_75 : decode cX1_hash 75 = .ok (.aload_n 0, 1) := by decide +kernel
theorem dX1_hash_76 : decode cX1_hash 76 = .ok (.getfield 9, 3) := by decide +kernel
theorem dX1_hash_79 : decode cX1_hash 79 = .ok (.iconst 2, 1) := by decide +kernel
theorem dX1_hash_80 : decode cX1_hash 80 = .ok (.invokestatic 51, 3) := by decide +kernel
theorem dX1_hash_83 : decode cX1_hash 83 = .ok (.iconst 3, 1) := by decide +kernel
theorem dX1_hash_84 : decode cX1_hash 84 = .ok (.imul, 1) := by decide +kernel
theorem dX1_hash_85 : decode cX1_hash 85 = .ok (.invokestatic 104, 3) := by decide +kernel
theorem dX1_hash_88 : decode cX1_hash 88 = .ok (.lstore_n 1, 1) := by decide +kernel
theorem dX1_hash_89 : decode cX1_hash 89 = .ok (.iconst 0, 1) := by decide +kernel
theorem dX1_hash_90 : decode cX1_hash 90 = .ok (.istore_n 3, 1) := by decide +kernel
theorem dX1_hash_91 : decode cX1_hash 91 = .ok (.iload_n 3, 1) := by decide +kernel
theorem dX1_hash_92 : decode cX1_hash 92 = .ok (.aload_n 0, 1) := by decide +kernel
theorem dX1_hash_93 : decode cX1_hash 93 = .ok (.getfield 9, 3) := by decide +kernel
theorem dX1_hash_96 : decode cX1_hash 96 = .ok (.iconst 3, 1) := by decide +kernel
theorem dX1_hash_97 : decode cX1_hash 97 = .ok (.invokestatic 51, 3) := by decide +kernel
theorem dX1_hash_100 : decode cX1_hash 100 = .ok (.if_icmp .ge 44, 3) := by decide +kernel
theorem dX1_hash_103 : decode cX1_hash 103 = .ok (.lload_n 1, 1) := by decide +kernel
theorem dX1_hash_104 : decode cX1_hash 104 = .ok (.aload_n 0, 1) := by decide +kernel
theorem dX1_hash_105 : decode cX1_hash 105 = .ok (.getfield 24, 3) := by decide +kernel
theorem dX1_hash_108 : decode cX1_hash 108 = .ok (.iload_n 3, 1) := by decide +kernel
theorem dX1_hash_109 : decode cX1_hash 109 = .ok (.bipush 7, 2) := by decide +kernel
theorem dX1_hash_111 : decode cX1_hash 111 = .ok (.imul, 1) := by decide +kernel
theorem dX1_hash_112 : decode cX1_hash 112 = .ok (.bipush 7, 2) := by decide +kernel
theorem dX1_hash_114 : decode cX1_hash 114 = .ok (.invokestatic 104, 3) := by decide +kernel
theorem dX1_hash_117 : decode cX1_hash 117 = .ok (.lstore_n 1, 1) := by decide +kernel
theorem dX1_hash_118 : decode cX1_hash 118 = .ok (.ldc2_w 99, 3) := by decide +kernel
theorem dX1_hash_121 : decode cX1_hash 121 = .ok (.lload_n 1, 1) := by decide +kernel
theorem dX1_hash_122 : decode cX1_hash 122 = .ok (.lmul, 1) := by decide +kernel
theorem dX1_hash_123 : decode cX1_hash 123 = .ok (.aload_n 0, 1) := by decide +kernel
theorem dX1_hash_124 : decode cX1_hash 124 = .ok (.iload_n 3, 1) := by decide +kernel
theorem dX1_hash_125 : decode cX1_hash 125 = .ok (.invokevirtual 84, 3) := by decide +kernel
theorem dX1_hash_128 : decode cX1_hash 128 = .ok (.i2l, 1) := by decide +kernel
theorem dX1_hash_129 : decode cX1_hash 129 = .ok (.ladd, 1) := by decide +kernel
theorem dX1_hash_130 : decode cX1_hash 130 = .ok (.lstore_n 1, 1) := by decide +kernel
theorem dX1_hash_131 : decode cX1_hash 131 = .ok (.aload_n 0, 1) := by decide +kernel
theorem dX1_hash_132 : decode cX1_hash 132 = .ok (.lload_n 1, 1) := by decide +kernel
theorem dX1_hash_133 : decode cX1_hash 133 = .ok (.iload_n 3, 1) := by decide +kernel
theorem dX1_hash_134 : decode cX1_hash 134 = .ok (.invokevirtual 108, 3) := by decide +kernel
theorem dX1_hash_137 : decode cX1_hash 137 = .ok (.lstore_n 1, 1) := by decide +kernel
theorem dX1_hash_138 : decode cX1_hash 138 = .ok (.iinc 3 1, 3) := by decide +kernel
theorem dX1_hash_141 : decode cX1_hash 141 = .ok (.goto (-50), 3) := by decide +kernel
theorem dX1_hash_144 : decode cX1_hash 144 = .ok (.lload_n 1, 1) := by decide +kernel
theorem dX1_hash_145 : decode cX1_hash 145 = .ok (.lreturn, 1) := by decide +kernel
set_option maxRecDepth 20000 in
theorem ggX1_hashOfWays_X5_at : GoodIn wsX1_hashOfWays wsX5_at := goodIn_r _ [6] (by decide +kernel) (by decide +kernel)
set_option maxRecDepth 20000 in
theorem gX1_hashOfWays_X5_at_n51 : GoodIn wsX1_hashOfWays (wsX5_at) := ggX1_hashOfWays_X5_at
set_option maxRecDepth 20000 in
theorem ggX1_hashOfWays_X5_wayOf : GoodIn wsX1_hashOfWays wsX5_wayOf := goodIn_r _ [8] (by decide +kernel) (by decide +kernel)
set_option maxRecDepth 20000 in
theorem gX1_hashOfWays_X5_wayOf_n74 : GoodIn wsX1_hashOfWays (wsX5_wayOf) := ggX1_hashOfWays_X5_wayOf
set_option maxRecDepth 20000 in
theorem ggX1_hashOfWays_X1_lengthOf : GoodIn wsX1_hashOfWays wsX1_lengthOf := goodIn_r _ [13, 14, 4, 5, 6, 19, 20, 21, 22, 23, 24, 25] (by decide +kernel) (by decide +kernel)
set_option maxRecDepth 20000 in
theorem gX1_hashOfWays_X1_lengthOf : GoodIn wsX1_hashOfWays (wsV RX1 112 RX1 yX1_lengthOf wsX1_lengthOf) := goodIn_app (goodIn_of _ (by decide +kernel)) ggX1_hashOfWays_X1_lengthOf
set_option maxRecDepth 20000 in
theorem ggX1_hashOfWays_X5_hashOf : GoodIn wsX1_hashOfWays wsX5_hashOf := goodIn_r _ [16, 17, 18, 4, 5, 6] (by decide +kernel) (by decide +kernel)
set_option maxRecDepth 20000 in
theorem gX1_hashOfWays_X5_hashOf_n104 : GoodIn wsX1_hashOfWays (wsX5_hashOf) := ggX1_hashOfWays_X5_hashOf
theorem dX1_hashOfWays_0 : decode cX1_hashOfWays 0 = .ok (.lload_n 1, 1) := by decide +kernel
theorem dX1_hashOfWays_1 : decode cX1_hashOfWays 1 = .ok (.lstore 4, 2) := by decide +kernel
theorem dX1_hashOfWays_3 : decode cX1_hashOfWays 3 = .ok (.iconst 0, 1) := by decide +kernel
theorem dX1_hashOfWays_4 : decode cX1_hashOfWays 4 = .ok (.istore 6, 2) := by decide +kernel
theorem dX1_hashOfWays_6 : decode cX1_hashOfWays 6 = .ok (.iload 6, 2) := by decide +kernel
theorem dX1_hashOfWays_8 : decode cX1_hashOfWays 8 = .ok (.aload_n 0, 1) := by decide +kernel
theorem dX1_hashOfWays_9 : decode cX1_hashOfWays 9 = .ok (.getfield 9, 3) := by decide +kernel
theorem dX1_hashOfWays_12 : decode cX1_hashOfWays 12 = .ok (.iconst 2, 1) := by decide +kernel
theorem dX1_hashOfWays_13 : decode cX1_hashOfWays 13 = .ok (.invokestatic 51, 3) := by decide +kernel
theorem dX1_hashOfWays_16 : decode cX1_hashOfWays 16 = .ok (.if_icmp .ge 55, 3) := by decide +kernel
theorem dX1_hashOfWays_19 : decode cX1_hashOfWays 19 = .ok (.iload_n 3, 1) := by decide +kernel
theorem dX1_hashOfWays_20 : decode cX1_hashOfWays 20 = .ok (.iload 6, 2) := by decide +kernel
theorem dX1_hashOfWays_22 : decode cX1_hashOfWays 22 = .ok (.invokestatic 74, 3) := by decide +kernel
theorem dX1_hashOfWays_25 : decode cX1_hashOfWays 25 = .ok (.istore 7, 2) := by decide +kernel
theorem dX1_hashOfWays_27 : decode cX1_hashOfWays 27 = .ok (.ldc2_w 99, 3) := by decide +kernel
theorem dX1_hashOfWays_30 : decode cX1_hashOfWays 30 = .ok (.lload 4, 2) := by decide +kernel
theorem dX1_hashOfWays_32 : decode cX1_hashOfWays 32 = .ok (.lmul, 1) := by decide +kernel
theorem dX1_hashOfWays_33 : decode cX1_hashOfWays 33 = .ok (.aload_n 0, 1) := by decide +kernel
theorem dX1_hashOfWays_34 : decode cX1_hashOfWays 34 = .ok (.iload 7, 2) := by decide +kernel
theorem dX1_hashOfWays_36 : decode cX1_hashOfWays 36 = .ok (.invokevirtual 112, 3) := by decide +kernel
theorem dX1_hashOfWays_39 : decode cX1_hashOfWays 39 = .ok (.i2l, 1) := by decide +kernel
theorem dX1_hashOfWays_40 : decode cX1_hashOfWays 40 = .ok (.ladd, 1) := by decide +kernel
theorem dX1_hashOfWays_41 : decode cX1_hashOfWays 41 = .ok (.lstore 4, 2) := by decide +kernel
theorem dX1_hashOfWays_43 : decode cX1_hashOfWays 43 = .ok (.lload 4, 2) := by decide +kernel
theorem dX1_hashOfWays_45 : decode cX1_hashOfWays 45 = .ok (.aload_n 0, 1) := by decide +kernel
theorem dX1_hashOfWays_46 : decode cX1_hashOfWays 46 = .ok (.getfield 30, 3) := by decide +kernel
theorem dX1_hashOfWays_49 : decode cX1_hashOfWays 49 = .ok (.iload 7, 2) := by decide +kernel
theorem dX1_hashOfWays_51 : decode cX1_hashOfWays 51 = .ok (.bipush 10, 2) := by decide +kernel
theorem dX1_hashOfWays_53 : decode cX1_hashOfWays 53 = .ok (.imul, 1) := by decide +kernel
theorem dX1_hashOfWays_54 : decode cX1_hashOfWays 54 = .ok (.aload_n 0, 1) := by decide +kernel
theorem dX1_hashOfWays_55 : decode cX1_hashOfWays 55 = .ok (.iload 7, 2) := by decide +kernel
theorem dX1_hashOfWays_57 : decode cX1_hashOfWays 57 = .ok (.invokevirtual 112, 3) := by decide +kernel
theorem dX1_hashOfWays_60 : decode cX1_hashOfWays 60 = .ok (.invokestatic 104, 3) := by decide +kernel
theorem dX1_hashOfWays_63 : decode cX1_hashOfWays 63 = .ok (.lstore 4, 2) := by decide +kernel
theorem dX1_hashOfWays_65 : decode cX1_hashOfWays 65 = .ok (.iinc 6 1, 3) := by decide +kernel
theorem dX1_hashOfWays_68 : decode cX1_hashOfWays 68 = .ok (.goto (-62), 3) := by decide +kernel
theorem dX1_hashOfWays_71 : decode cX1_hashOfWays 71 = .ok (.lload 4, 2) := by decide +kernel
theorem dX1_hashOfWays_73 : decode cX1_hashOfWays 73 = .ok (.lreturn, 1) := by decide +kernel
theorem dX2_init_0 : decode cX2_init 0 = .ok (.aload_n 0, 1) := by decide +kernel
theorem dX2_init_1 : decode cX2_init 1 = .ok (.invokespecial 3, 3) := by decide +kernel
theorem dX2_init_4 : decode cX2_init 4 = .ok (.aload_n 0, 1) := by decide +kernel
theorem dX2_init_5 : decode cX2_init 5 = .ok (.bipush 100, 2) := by decide +kernel
theorem dX2_init_7 : decode cX2_init 7 = .ok (.newarray .int, 2) := by decide +kernel
theorem dX2_init_9 : decode cX2_init 9 = .ok (.putfield 9, 3) := by decide +kernel
theorem dX2_init_12 : decode cX2_init 12 = .ok (.aload_n 0, 1) := by decide +kernel
theorem dX2_init_13 : decode cX2_init 13 = .ok (.bipush 10, 2) := by decide +kernel
theorem dX2_init_15 : decode cX2_init 15 = .ok (.newarray .int, 2) := by decide +kernel
theorem dX2_init_17 : decode cX2_init 17 = .ok (.putfield 15, 3) := by decide +kernel
theorem dX2_init_20 : decode cX2_init 20 = .ok (.aload_n 0, 1) := by decide +kernel
theorem dX2_init_21 : decode cX2_init 21 = .ok (.bipush 10, 2) := by decide +kernel
theorem dX2_init_23 : decode cX2_init 23 = .ok (.newarray .int, 2) := by decide +kernel
theorem dX2_init_25 : decode cX2_init 25 = .ok (.putfield 18, 3) := by decide +kernel
theorem dX2_init_28 : decode cX2_init 28 = .ok (.aload_n 0, 1) := by decide +kernel
theorem dX2_init_29 : decode cX2_init 29 = .ok (.bipush 100, 2) := by decide +kernel
theorem dX2_init_31 : decode cX2_init 31 = .ok (.newarray .int, 2) := by decide +kernel
theorem dX2_init_33 : decode cX2_init 33 = .ok (.putfield 21, 3) := by decide +kernel
theorem dX2_init_36 : decode cX2_init 36 = .ok (.aload_n 0, 1) := by decide +kernel
theorem dX2_init_37 : decode cX2_init 37 = .ok (.bipush 100, 2) := by decide +kernel
theorem dX2_init_39 : decode cX2_init 39 = .ok (.newarray .int, 2) := by decide +kernel
theorem dX2_init_41 : decode cX2_init 41 = .ok (.putfield 24, 3) := by decide +kernel
theorem dX2_init_44 : decode cX2_init 44 = .ok (.return_, 1) := by decide +kernel
set_option maxRecDepth 20000 in
theorem ggX2_learn_J7_fill_53178 : GoodIn wsX2_learn wsJ7_fill_53178 := goodIn_r _ [6] (by decide +kernel) (by decide +kernel)
set_option maxRecDepth 20000 in
theorem gX2_learn_J7_fill_53178 : GoodIn wsX2_learn (va_wsS RX2 27 yJ7_fill_53178 wsJ7_fill_53178) := goodIn_app (goodIn_of _ (by decide +kernel)) ggX2_learn_J7_fill_53178
set_option maxRecDepth 20000 in
theorem ggX2_learn_X1_number : GoodIn wsX2_learn wsX1_number := goodIn_r _ [11, 12, 13, 14, 15, 10, 16, 17, 18, 19, 20, 21, 22, 23, 24, 25, 26, 27, 40, 41, 42, 43, 44, 45, 46] (by decide +kernel) (by decide +kernel)
set_option maxRecDepth 20000 in
theorem gX2_learn_X1_number : GoodIn wsX2_learn (wsV RX2 33 RX1 yX1_number wsX1_number) := goodIn_app (goodIn_of _ (by decide +kernel)) ggX2_learn_X1_number
set_option maxRecDepth 20000 in
theorem ggX2_learn_X1_partOfLink : GoodIn wsX2_learn wsX1_partOfLink := goodIn_r _ [31, 32, 18, 19, 20, 40, 41, 42, 43, 44, 45, 46] (by decide +kernel) (by decide +kernel)
set_option maxRecDepth 20000 in
theorem gX2_learn_X1_partOfLink : GoodIn wsX2_learn (wsV RX2 39 RX1 yX1_partOfLink wsX1_partOfLink) := goodIn_app (goodIn_of _ (by decide +kernel)) ggX2_learn_X1_partOfLink
set_option maxRecDepth 20000 in
theorem ggX2_learn_X5_put : GoodIn wsX2_learn wsX5_put := goodIn_r _ [34] (by decide +kernel) (by decide +kernel)
set_option maxRecDepth 20000 in
theorem gX2_learn_X5_put_n43 : GoodIn wsX2_learn (wsX5_put) := ggX2_learn_X5_put
theorem dX2_learn_0 : decode cX2_learn 0 = .ok (.aload_n 0, 1) := by decide +kernel
theorem dX2_learn_1 : decode cX2_learn 1 = .ok (.getfield 9, 3) := by decide +kernel
theorem dX2_learn_4 : decode cX2_learn 4 = .ok (.iconst 0, 1) := by decide +kernel
theorem dX2_learn_5 : decode cX2_learn 5 = .ok (.invokestatic 27, 3) := by decide +kernel
theorem dX2_learn_8 : decode cX2_learn 8 = .ok (.aload_n 0, 1) := by decide +kernel
theorem dX2_learn_9 : decode cX2_learn 9 = .ok (.getfield 15, 3) := by decide +kernel
theorem dX2_learn_12 : decode cX2_learn 12 = .ok (.iconst 0, 1) := by decide +kernel
theorem dX2_learn_13 : decode cX2_learn 13 = .ok (.invokestatic 27, 3) := by decide +kernel
theorem dX2_learn_16 : decode cX2_learn 16 = .ok (.iconst 0, 1) := by decide +kernel
theorem dX2_learn_17 : decode cX2_learn 17 = .ok (.istore_n 2, 1) := by decide +kernel
theorem dX2_learn_18 : decode cX2_learn 18 = .ok (.iload_n 2, 1) := by decide +kernel
theorem dX2_learn_19 : decode cX2_learn 19 = .ok (.aload_n 1, 1) := by decide +kernel
theorem dX2_learn_20 : decode cX2_learn 20 = .ok (.iconst 1, 1) := by decide +kernel
theorem dX2_learn_21 : decode cX2_learn 21 = .ok (.invokevirtual 33, 3) := by decide +kernel
theorem dX2_learn_24 : decode cX2_learn 24 = .ok (.if_icmp .ge 64, 3) := by decide +kernel
theorem dX2_learn_27 : decode cX2_learn 27 = .ok (.aload_n 1, 1) := by decide +kernel
theorem dX2_learn_28 : decode cX2_learn 28 = .ok (.iload_n 2, 1) := by decide +kernel
theorem dX2_learn_29 : decode cX2_learn 29 = .ok (.iconst 0, 1) := by decide +kernel
theorem dX2_learn_30 : decode cX2_learn 30 = .ok (.invokevirtual 39, 3) := by decide +kernel
theorem dX2_learn_33 : decode cX2_learn 33 = .ok (.istore_n 3, 1) := by decide +kernel
theorem dX2_learn_34 : decode cX2_learn 34 = .ok (.aload_n 1, 1) := by decide +kernel
theorem dX2_learn_35 : decode cX2_learn 35 = .ok (.iload_n 2, 1) := by decide +kernel
theorem dX2_learn_36 : decode cX2_learn 36 = .ok (.iconst 1, 1) := by decide +kernel
theorem dX2_learn_37 : decode cX2_learn 37 = .ok (.invokevirtual 39, 3) := by decide +kernel
theorem dX2_learn_40 : decode cX2_learn 40 = .ok (.istore 4, 2) := by decide +kernel
theorem dX2_learn_42 : decode cX2_learn 42 = .ok (.aload_n 0, 1) := by decide +kernel
theorem dX2_learn_43 : decode cX2_learn 43 = .ok (.getfield 9, 3) := by decide +kernel
theorem dX2_learn_46 : decode cX2_learn 46 = .ok (.iload_n 3, 1) := by decide +kernel
theorem dX2_learn_47 : decode cX2_learn 47 = .ok (.bipush 10, 2) := by decide +kernel
theorem dX2_learn_49 : decode cX2_learn 49 = .ok (.imul, 1) := by decide +kernel
theorem dX2_learn_50 : decode cX2_learn 50 = .ok (.iload 4, 2) := by decide +kernel
theorem dX2_learn_52 : decode cX2_learn 52 = .ok (.iadd, 1) := by decide +kernel
theorem dX2_learn_53 : decode cX2_learn 53 = .ok (.aload_n 1, 1) := by decide +kernel
theorem dX2_learn_54 : decode cX2_learn 54 = .ok (.iload_n 2, 1) := by decide +kernel
theorem dX2_learn_55 : decode cX2_learn 55 = .ok (.iconst 2, 1) := by decide +kernel
theorem dX2_learn_56 : decode cX2_learn 56 = .ok (.invokevirtual 39, 3) := by decide +kernel
theorem dX2_learn_59 : decode cX2_learn 59 = .ok (.invokestatic 43, 3) := by decide +kernel
theorem dX2_learn_62 : decode cX2_learn 62 = .ok (.aload_n 0, 1) := by decide +kernel
theorem dX2_learn_63 : decode cX2_learn 63 = .ok (.getfield 9, 3) := by decide +kernel
theorem dX2_learn_66 : decode cX2_learn 66 = .ok (.iload 4, 2) := by decide +kernel
theorem dX2_learn_68 : decode cX2_learn 68 = .ok (.bipush 10, 2) := by decide +kernel
theorem dX2_learn_70 : decode cX2_learn 70 = .ok (.imul, 1) := by decide +kernel
theorem dX2_learn_71 : decode cX2_learn 71 = .ok (.iload_n 3, 1) := by decide +kernel
theorem dX2_learn_72 : decode cX2_learn 72 = .ok (.iadd, 1) := by decide +kernel
theorem dX2_learn_73 : decode cX2_learn 73 = .ok (.aload_n 1, 1) := by decide +kernel
theorem dX2_learn_74 : decode cX2_learn 74 = .ok (.iload_n 2, 1) := by decide +kernel
theorem dX2_learn_75 : decode cX2_learn 75 = .ok (.iconst 2, 1) := by decide +kernel
theorem dX2_learn_76 : decode cX2_learn 76 = .ok (.invokevirtual 39, 3) := by decide +kernel
theorem dX2_learn_79 : decode cX2_learn 79 = .ok (.invokestatic 43, 3) := by decide +kernel
theorem dX2_learn_82 : decode cX2_learn 82 = .ok (.iinc 2 1, 3) := by decide +kernel
theorem dX2_learn_85 : decode cX2_learn 85 = .ok (.goto (-67), 3) := by decide +kernel
theorem dX2_learn_88 : decode cX2_learn 88 = .ok (.return_, 1) := by decide +kernel
set_option maxRecDepth 20000 in
theorem ggX2_delayBetween_X5_at : GoodIn wsX2_delayBetween wsX5_at := goodIn_r _ [4] (by decide +kernel) (by decide +kernel)
set_option maxRecDepth 20000 in
theorem gX2_delayBetween_X5_at_n47 : GoodIn wsX2_delayBetween (wsX5_at) := ggX2_delayBetween_X5_at
theorem dX2_delayBetween_0 : decode cX2_delayBetween 0 = .ok (.aload_n 0, 1) := by decide +kernel
theorem dX2_delayBetween_1 : decode cX2_delayBetween 1 = .ok (.getfield 9, 3) := by decide +kernel
theorem dX2_delayBetween_4 : decode cX2_delayBetween 4 = .ok (.iload_n 1, 1) := by decide +kernel
theorem dX2_delayBetween_5 : decode cX2_delayBetween 5 = .ok (.bipush 10, 2) := by decide +kernel
theorem dX2_delayBetween_7 : decode cX2_delayBetween 7 = .ok (.imul, 1) := by decide +kernel
theorem dX2_delayBetween_8 : decode cX2_delayBetween 8 = .ok (.iload_n 2, 1) := by decide +kernel
theorem dX2_delayBetween_9 : decode cX2_delayBetween 9 = .ok (.iadd, 1) := by decide +kernel
theorem dX2_delayBetween_10 : decode cX2_delayBetween 10 = .ok (.invokestatic 47, 3) := by decide +kernel
theorem dX2_delayBetween_13 : decode cX2_delayBetween 13 = .ok (.ireturn, 1) := by decide +kernel
set_option maxRecDepth 20000 in
theorem ggX2_carry_X1_lengthOf : GoodIn wsX2_carry wsX1_lengthOf := goodIn_r _ [5, 6, 7, 8, 9, 23, 24, 25, 26, 27, 28, 29] (by decide +kernel) (by decide +kernel)
set_option maxRecDepth 20000 in
theorem gX2_carry_X1_lengthOf : GoodIn wsX2_carry (wsV RX2 51 RX1 yX1_lengthOf wsX1_lengthOf) := goodIn_app (goodIn_of _ (by decide +kernel)) ggX2_carry_X1_lengthOf
set_option maxRecDepth 20000 in
theorem ggX2_carry_X1_nodeOf : GoodIn wsX2_carry wsX1_nodeOf := goodIn_r _ [13, 14, 7, 8, 9, 23, 24, 25, 26, 27, 28, 29] (by decide +kernel) (by decide +kernel)
set_option maxRecDepth 20000 in
theorem gX2_carry_X1_nodeOf : GoodIn wsX2_carry (wsV RX2 54 RX1 yX1_nodeOf wsX1_nodeOf) := goodIn_app (goodIn_of _ (by decide +kernel)) ggX2_carry_X1_nodeOf
set_option maxRecDepth 20000 in
theorem ggX2_carry_X5_holds : GoodIn wsX2_carry wsX5_holds := goodIn_r _ [16] (by decide +kernel) (by decide +kernel)
set_option maxRecDepth 20000 in
theorem gX2_carry_X5_holds_n57 : GoodIn wsX2_carry (wsX5_holds) := ggX2_carry_X5_holds
set_option maxRecDepth 20000 in
theorem ggX2_carry_X2_delayBetween : GoodIn wsX2_carry wsX2_delayBetween := goodIn_r _ [21, 22, 7, 8, 9, 30, 31, 32, 33, 34] (by decide +kernel) (by decide +kernel)
set_option maxRecDepth 20000 in
theorem gX2_carry_X2_delayBetween : GoodIn wsX2_carry (wsV RX2 61 RX2 yX2_delayBetween wsX2_delayBetween) := goodIn_app (goodIn_of _ (by decide +kernel)) ggX2_carry_X2_delayBetween
theorem dX2_carry_0 : decode cX2_carry 0 = .ok (.aload_n 1, 1) := by decide +kernel
theorem dX2_carry_1 : decode cX2_carry 1 = .ok (.iload_n 2, 1) := by decide +kernel
theorem dX2_carry_2 : decode cX2_carry 2 = .ok (.invokevirtual 51, 3) := by decide +kernel
theorem dX2_carry_5 : decode cX2_carry 5 = .ok (.istore 4, 2) := by decide +kernel
theorem dX2_carry_7 : decode cX2_carry 7 = .ok (.iconst 0, 1) := by decide +kernel
theorem dX2_carry_8 : decode cX2_carry 8 = .ok (.istore 5, 2) := by decide +kernel
theorem dX2_carry_10 : decode cX2_carry 10 = .ok (.iload 5, 2) := by decide +kernel
theorem dX2_carry_12 : decode cX2_carry 12 = .ok (.iload 4, 2) := by decide +kernel
theorem dX2_carry_14 : decode cX2_carry 14 = .ok (.if_icmp .ge 52, 3) := by decide +kernel
theorem dX2_carry_17 : decode cX2_carry 17 = .ok (.aload_n 1, 1) := by decide +kernel
theorem dX2_carry_18 : decode cX2_carry 18 = .ok (.iload_n 2, 1) := by decide +kernel
theorem dX2_carry_19 : decode cX2_carry 19 = .ok (.iload 5, 2) := by decide +kernel
theorem dX2_carry_21 : decode cX2_carry 21 = .ok (.invokevirtual 54, 3) := by decide +kernel
theorem dX2_carry_24 : decode cX2_carry 24 = .ok (.istore 6, 2) := by decide +kernel
theorem dX2_carry_26 : decode cX2_carry 26 = .ok (.iload_n 3, 1) := by decide +kernel
theorem dX2_carry_27 : decode cX2_carry 27 = .ok (.iload 6, 2) := by decide +kernel
theorem dX2_carry_29 : decode cX2_carry 29 = .ok (.invokestatic 57, 3) := by decide +kernel
theorem dX2_carry_32 : decode cX2_carry 32 = .ok (.ifCond .eq 26, 3) := by decide +kernel
theorem dX2_carry_35 : decode cX2_carry 35 = .ok (.iload 5, 2) := by decide +kernel
theorem dX2_carry_37 : decode cX2_carry 37 = .ok (.ifCond .le 23, 3) := by decide +kernel
theorem dX2_carry_40 : decode cX2_carry 40 = .ok (.aload_n 0, 1) := by decide +kernel
theorem dX2_carry_41 : decode cX2_carry 41 = .ok (.aload_n 1, 1) := by decide +kernel
theorem dX2_carry_42 : decode cX2_carry 42 = .ok (.iload_n 2, 1) := by decide +kernel
theorem dX2_carry_43 : decode cX2_carry 43 = .ok (.iload 5, 2) := by decide +kernel
theorem dX2_carry_45 : decode cX2_carry 45 = .ok (.iconst 1, 1) := by decide +kernel
theorem dX2_carry_46 : decode cX2_carry 46 = .ok (.isub, 1) := by decide +kernel
theorem dX2_carry_47 : decode cX2_carry 47 = .ok (.invokevirtual 54, 3) := by decide +kernel
theorem dX2_carry_50 : decode cX2_carry 50 = .ok (.iload 6, 2) := by decide +kernel
theorem dX2_carry_52 : decode cX2_carry 52 = .ok (.invokevirtual 61, 3) := by decide +kernel
theorem dX2_carry_55 : decode cX2_carry 55 = .ok (.ifCond .ne 5, 3) := by decide +kernel
theorem dX2_carry_58 : decode cX2_carry 58 = .ok (.iconst 0, 1) := by decide +kernel
theorem dX2_carry_59 : decode cX2_carry 59 = .ok (.ireturn, 1) := by decide +kernel
theorem dX2_carry_60 : decode cX2_carry 60 = .ok (.iinc 5 1, 3) := by decide +kernel
theorem dX2_carry_63 : decode cX2_carry 63 = .ok (.goto (-53), 3) := by decide +kernel
theorem dX2_carry_66 : decode cX2_carry 66 = .ok (.iload 4, 2) := by decide +kernel
theorem dX2_carry_68 : decode cX2_carry 68 = .ok (.ifCond .le 7, 3) := by decide +kernel
theorem dX2_carry_71 : decode cX2_carry 71 = .ok (.iconst 1, 1) := by decide +kernel
theorem dX2_carry_72 : decode cX2_carry 72 = .ok (.goto 4, 3) := by decide +kernel
theorem dX2_carry_75 : decode cX2_carry 75 = .ok (.iconst 0, 1) := by decide +kernel
theorem dX2_carry_76 : decode cX2_carry 76 = .ok (.ireturn, 1) := by decide +kernel
set_option maxRecDepth 20000 in
theorem ggX2_delayOf_X1_lengthOf : GoodIn wsX2_delayOf wsX1_lengthOf := goodIn_r _ [5, 6, 7, 8, 9, 21, 22, 23, 24, 25, 26, 27] (by decide +kernel) (by decide +kernel)
set_option maxRecDepth 20000 in
theorem gX2_delayOf_X1_lengthOf : GoodIn wsX2_delayOf (wsV RX2 51 RX1 yX1_lengthOf wsX1_lengthOf) := goodIn_app (goodIn_of _ (by decide +kernel)) ggX2_delayOf_X1_lengthOf
set_option maxRecDepth 20000 in
theorem ggX2_delayOf_X1_nodeOf : GoodIn wsX2_delayOf wsX1_nodeOf := goodIn_r _ [13, 14, 7, 8, 9, 21, 22, 23, 24, 25, 26, 27] (by decide +kernel) (by decide +kernel)
set_option maxRecDepth 20000 in
theorem gX2_delayOf_X1_nodeOf : GoodIn wsX2_delayOf (wsV RX2 54 RX1 yX1_nodeOf wsX1_nodeOf) := goodIn_app (goodIn_of _ (by decide +kernel)) ggX2_delayOf_X1_nodeOf
set_option maxRecDepth 20000 in
theorem ggX2_delayOf_X2_delayBetween : GoodIn wsX2_delayOf wsX2_delayBetween := goodIn_r _ [19, 20, 7, 8, 9, 28, 29, 30, 31, 32] (by decide +kernel) (by decide +kernel)
set_option maxRecDepth 20000 in
theorem gX2_delayOf_X2_delayBetween : GoodIn wsX2_delayOf (wsV RX2 61 RX2 yX2_delayBetween wsX2_delayBetween) := goodIn_app (goodIn_of _ (by decide +kernel)) ggX2_delayOf_X2_delayBetween
theorem dX2_delayOf_0 : decode cX2_delayOf 0 = .ok (.iconst 0, 1) := by decide +kernel
theorem dX2_delayOf_1 : decode cX2_delayOf 1 = .ok (.istore_n 3, 1) := by decide +kernel
theorem dX2_delayOf_2 : decode cX2_delayOf 2 = .ok (.iconst 1, 1) := by decide +kernel
theorem dX2_delayOf_3 : decode cX2_delayOf 3 = .ok (.istore 4, 2) := by decide +kernel
theorem dX2_delayOf_5 : decode cX2_delayOf 5 = .ok (.iload 4, 2) := by decide +kernel
theorem dX2_delayOf_7 : decode cX2_delayOf 7 = .ok (.aload_n 1, 1) := by decide +kernel
theorem dX2_delayOf_8 : decode cX2_delayOf 8 = .ok (.iload_n 2, 1) := by decide +kernel
theorem dX2_delayOf_9 : decode cX2_delayOf 9 = .ok (.invokevirtual 51, 3) := by decide +kernel
theorem dX2_delayOf_12 : decode cX2_delayOf 12 = .ok (.if_icmp .ge 32, 3) := by decide +kernel
theorem dX2_delayOf_15 : decode cX2_delayOf 15 = .ok (.iload_n 3, 1) := by decide +kernel
theorem dX2_delayOf_16 : decode cX2_delayOf 16 = .ok (.aload_n 0, 1) := by decide +kernel
theorem dX2_delayOf_17 : decode cX2_delayOf 17 = .ok (.aload_n 1, 1) := by decide +kernel
theorem dX2_delayOf_18 : decode cX2_delayOf 18 = .ok (.iload_n 2, 1) := by decide +kernel
theorem dX2_delayOf_19 : decode cX2_delayOf 19 = .ok (.iload 4, 2) := by decide +kernel
theorem dX2_delayOf_21 : decode cX2_delayOf 21 = .ok (.iconst 1, 1) := by decide +kernel
theorem dX2_delayOf_22 : decode cX2_delayOf 22 = .ok (.isub, 1) := by decide +kernel
theorem dX2_delayOf_23 : decode cX2_delayOf 23 = .ok (.invokevirtual 54, 3) := by decide +kernel
theorem dX2_delayOf_26 : decode cX2_delayOf 26 = .ok (.aload_n 1, 1) := by decide +kernel
theorem dX2_delayOf_27 : decode cX2_delayOf 27 = .ok (.iload_n 2, 1) := by decide +kernel
theorem dX2_delayOf_28 : decode cX2_delayOf 28 = .ok (.iload 4, 2) := by decide +kernel
theorem dX2_delayOf_30 : decode cX2_delayOf 30 = .ok (.invokevirtual 54, 3) := by decide +kernel
theorem dX2_delayOf_33 : decode cX2_delayOf 33 = .ok (.invokevirtual 61, 3) := by decide +kernel
theorem dX2_delayOf_36 : decode cX2_delayOf 36 = .ok (.iadd, 1) := by decide +kernel
theorem dX2_delayOf_37 : decode cX2_delayOf 37 = .ok (.istore_n 3, 1) := by decide +kernel
theorem dX2_delayOf_38 : decode cX2_delayOf 38 = .ok (.iinc 4 1, 3) := by decide +kernel
theorem dX2_delayOf_41 : decode cX2_delayOf 41 = .ok (.goto (-36), 3) := by decide +kernel
theorem dX2_delayOf_44 : decode cX2_delayOf 44 = .ok (.iload_n 3, 1) := by decide +kernel
theorem dX2_delayOf_45 : decode cX2_delayOf 45 = .ok (.ireturn, 1) := by decide +kernel
set_option maxRecDepth 20000 in
theorem ggX2_explore_X5_at : GoodIn wsX2_explore wsX5_at := goodIn_r _ [7] (by decide +kernel) (by decide +kernel)
