theorem s_X5_removePiece_4 (a1 : Nat) (p2 : Int32) (k4 : iw_M → Option (iw_M)) (nn : Nat) : f_X5_removePiece_L4 a1 p2 k4 (nn + 1) = f_X5_removePiece_B4 a1 p2 k4 (f_X5_removePiece_L4 a1 p2 k4 nn) := rfl
theorem s_X5_hashOf_6 (a2 : Nat) (p3 : Int32) (p4 : Int32) (σ : iw_M) (k6 : Int64 → Option (Int64)) (nn : Nat) : f_X5_hashOf_L6 a2 p3 p4 σ k6 (nn + 1) = f_X5_hashOf_B6 a2 p3 p4 σ k6 (f_X5_hashOf_L6 a2 p3 p4 σ k6 nn) := rfl
theorem s_J7_fill_53178_5 (a1 : Nat) (p2 : Int32) (v1 : Int32) (k5 : iw_M → Option (iw_M)) (nn : Nat) : f_J7_fill_53178_L5 a1 p2 v1 k5 (nn + 1) = f_J7_fill_53178_B5 a1 p2 v1 k5 (f_J7_fill_53178_L5 a1 p2 v1 k5 nn) := rfl
theorem s_X1_aliveNodes_4 (c : Nat) (σ : iw_M) (k4 : Int32 → Option (Int32)) (nn : Nat) : f_X1_aliveNodes_L4 c σ k4 (nn + 1) = f_X1_aliveNodes_B4 c σ k4 (f_X1_aliveNodes_L4 c σ k4 nn) := rfl
theorem s_X1_areLinked_2 (c : Nat) (p1 : Int32) (p2 : Int32) (σ : iw_M) (k2 : Option (Int32)) (nn : Nat) : f_X1_areLinked_L2 c p1 p2 σ k2 (nn + 1) = f_X1_areLinked_B2 c p1 p2 σ k2 (f_X1_areLinked_L2 c p1 p2 σ k2 nn) := rfl
theorem s_X1_appendInterest_121 (c : Nat) (v1 : Int32) (k121 : iw_M → Option (Int32 × iw_M)) (nn : Nat) : f_X1_appendInterest_L121 c v1 k121 (nn + 1) = f_X1_appendInterest_B121 c v1 k121 (f_X1_appendInterest_L121 c v1 k121 nn) := rfl
theorem s_X1_waysOf_4 (c : Nat) (p1 : Int32) (σ : iw_M) (k4 : Int32 → Option (Int32)) (nn : Nat) : f_X1_waysOf_L4 c p1 σ k4 (nn + 1) = f_X1_waysOf_B4 c p1 σ k4 (f_X1_waysOf_L4 c p1 σ k4 nn) := rfl
theorem s_X1_endInterests_11 (n : Nat) (c : Nat) (k11 : iw_M → Option (iw_M)) (nn : Nat) : f_X1_endInterests_L11 n c k11 (nn + 1) = f_X1_endInterests_B11 n c k11 (f_X1_endInterests_L11 n c k11 nn) := rfl
theorem s_X1_setWay_12 (c : Nat) (p1 : Int32) (a2 : Nat) (p3 : Int32) (k12 : iw_M → Option (iw_M)) (nn : Nat) : f_X1_setWay_L12 c p1 a2 p3 k12 (nn + 1) = f_X1_setWay_B12 c p1 a2 p3 k12 (f_X1_setWay_L12 c p1 a2 p3 k12 nn) := rfl
theorem s_X1_goesOver_9 (c : Nat) (p1 : Int32) (p2 : Int32) (p3 : Int32) (σ : iw_M) (v1 : Int32) (k9 : Option (Int32)) (nn : Nat) : f_X1_goesOver_L9 c p1 p2 p3 σ v1 k9 (nn + 1) = f_X1_goesOver_B9 c p1 p2 p3 σ v1 k9 (f_X1_goesOver_L9 c p1 p2 p3 σ v1 k9 nn) := rfl
theorem s_X1_waysOver_21 (n : Nat) (c : Nat) (p1 : Int32) (p2 : Int32) (σ : iw_M) (v3 : Int32) (k21 : Int32 → Option (Int32)) (nn : Nat) : f_X1_waysOver_L21 n c p1 p2 σ v3 k21 (nn + 1) = f_X1_waysOver_B21 n c p1 p2 σ v3 k21 (f_X1_waysOver_L21 n c p1 p2 σ v3 k21 nn) := rfl
theorem s_X1_waysOver_5 (n : Nat) (c : Nat) (p1 : Int32) (p2 : Int32) (σ : iw_M) (k5 : Int32 → Option (Int32)) (nn : Nat) : f_X1_waysOver_L5 n c p1 p2 σ k5 (nn + 1) = f_X1_waysOver_B5 n c p1 p2 σ k5 (f_X1_waysOver_L5 n c p1 p2 σ k5 nn) := rfl
theorem s_X1_hashOfWays_6 (n : Nat) (c : Nat) (p2 : Int32) (σ : iw_M) (k6 : Int64 → Option (Int64)) (nn : Nat) : f_X1_hashOfWays_L6 n c p2 σ k6 (nn + 1) = f_X1_hashOfWays_B6 n c p2 σ k6 (f_X1_hashOfWays_L6 n c p2 σ k6 nn) := rfl
theorem s_X1_hash_91 (n : Nat) (c : Nat) (σ : iw_M) (k91 : Int64 → Option (Int64)) (nn : Nat) : f_X1_hash_L91 n c σ k91 (nn + 1) = f_X1_hash_B91 n c σ k91 (f_X1_hash_L91 n c σ k91 nn) := rfl
theorem s_X1_hash_6 (n : Nat) (c : Nat) (σ : iw_M) (k6 : Int64 → Option (Int64)) (nn : Nat) : f_X1_hash_L6 n c σ k6 (nn + 1) = f_X1_hash_B6 n c σ k6 (f_X1_hash_L6 n c σ k6 nn) := rfl
theorem s_X2_learn_18 (n : Nat) (c : Nat) (c1 : Nat) (k18 : iw_M → Option (iw_M)) (nn : Nat) : f_X2_learn_L18 n c c1 k18 (nn + 1) = f_X2_learn_B18 n c c1 k18 (f_X2_learn_L18 n c c1 k18 nn) := rfl
theorem s_X2_carry_10 (c : Nat) (c1 : Nat) (p2 : Int32) (p3 : Int32) (σ : iw_M) (v1 : Int32) (k10 : Option (Int32)) (nn : Nat) : f_X2_carry_L10 c c1 p2 p3 σ v1 k10 (nn + 1) = f_X2_carry_B10 c c1 p2 p3 σ v1 k10 (f_X2_carry_L10 c c1 p2 p3 σ v1 k10 nn) := rfl
theorem s_X2_delayOf_5 (c : Nat) (c1 : Nat) (p2 : Int32) (σ : iw_M) (k5 : Int32 → Option (Int32)) (nn : Nat) : f_X2_delayOf_L5 c c1 p2 σ k5 (nn + 1) = f_X2_delayOf_B5 c c1 p2 σ k5 (f_X2_delayOf_L5 c c1 p2 σ k5 nn) := rfl
theorem s_X2_findTimes_67 (c : Nat) (p2 : Int32) (v1 : Int32) (v9 : Int32) (k67 : iw_M → Option (iw_M)) (nn : Nat) : f_X2_findTimes_L67 c p2 v1 v9 k67 (nn + 1) = f_X2_findTimes_B67 c p2 v1 v9 k67 (f_X2_findTimes_L67 c p2 v1 v9 k67 nn) := rfl
theorem s_X2_findTimes_57 (n : Nat) (c : Nat) (p2 : Int32) (v1 : Int32) (k57 : iw_M → Option (iw_M)) (nn : Nat) : f_X2_findTimes_L57 n c p2 v1 k57 (nn + 1) = f_X2_findTimes_B57 n c p2 v1 k57 (f_X2_findTimes_L57 n c p2 v1 k57 nn) := rfl
theorem s_X2_findTimes_47 (n : Nat) (c : Nat) (p2 : Int32) (v1 : Int32) (k47 : iw_M → Option (iw_M)) (nn : Nat) : f_X2_findTimes_L47 n c p2 v1 k47 (nn + 1) = f_X2_findTimes_B47 n c p2 v1 k47 (f_X2_findTimes_L47 n c p2 v1 k47 nn) := rfl
theorem s_X2_findTimes_8 (c : Nat) (p1 : Int32) (v1 : Int32) (k8 : iw_M → Option (iw_M)) (nn : Nat) : f_X2_findTimes_L8 c p1 v1 k8 (nn + 1) = f_X2_findTimes_B8 c p1 v1 k8 (f_X2_findTimes_L8 c p1 v1 k8 nn) := rfl
theorem s_X2_findNodeBefore_8 (c : Nat) (p2 : Int32) (σ : iw_M) (v1 : Int32) (k8 : Option (Int32)) (nn : Nat) : f_X2_findNodeBefore_L8 c p2 σ v1 k8 (nn + 1) = f_X2_findNodeBefore_B8 c p2 σ v1 k8 (f_X2_findNodeBefore_L8 c p2 σ v1 k8 nn) := rfl
theorem s_X2_explore_33 (n : Nat) (c : Nat) (p1 : Int32) (k33 : Int32 → iw_M → Option (iw_M)) (nn : Nat) : f_X2_explore_L33 n c p1 k33 (nn + 1) = f_X2_explore_B33 n c p1 k33 (f_X2_explore_L33 n c p1 k33 nn) := rfl
theorem s_X3_traceBack_14 (p1 : Int32) (k14 : Int32 → iw_M → Option (Int32 × iw_M)) (nn : Nat) : f_X3_traceBack_L14 p1 k14 (nn + 1) = f_X3_traceBack_B14 p1 k14 (f_X3_traceBack_L14 p1 k14 nn) := rfl
theorem s_X3_keptLinks_5 (n : Nat) (p1 : Int32) (p2 : Int32) (σ : iw_M) (k5 : Int32 → Option (Int32)) (nn : Nat) : f_X3_keptLinks_L5 n p1 p2 σ k5 (nn + 1) = f_X3_keptLinks_B5 n p1 p2 σ k5 (f_X3_keptLinks_L5 n p1 p2 σ k5 nn) := rfl
theorem s_X3_exploreWay_23 (v2 : Int32) (k23 : iw_M → Option (iw_M)) (nn : Nat) : f_X3_exploreWay_L23 v2 k23 (nn + 1) = f_X3_exploreWay_B23 v2 k23 (f_X3_exploreWay_L23 v2 k23 nn) := rfl
theorem s_X3_send_2 (p1 : Int32) (p2 : Int32) (k2 : iw_M → Option (iw_M)) (nn : Nat) : f_X3_send_L2 p1 p2 k2 (nn + 1) = f_X3_send_B2 p1 p2 k2 (f_X3_send_L2 p1 p2 k2 nn) := rfl
theorem s_X3_run_43 (n : Nat) (v14 : Int32) (k43 : Int32 → iw_M → Option (Int32 × iw_M)) (nn : Nat) : f_X3_run_L43 n v14 k43 (nn + 1) = f_X3_run_B43 n v14 k43 (f_X3_run_L43 n v14 k43 nn) := rfl
theorem s_X3_run_27 (n : Nat) (k27 : Int32 → iw_M → Option (Int32 × iw_M)) (nn : Nat) : f_X3_run_L27 n k27 (nn + 1) = f_X3_run_B27 n k27 (f_X3_run_L27 n k27 nn) := rfl
theorem s_X3_run_4 (n : Nat) (p1 : Int32) (k4 : Int32 → iw_M → Option (Int32 × iw_M)) (nn : Nat) : f_X3_run_L4 n p1 k4 (nn + 1) = f_X3_run_B4 n p1 k4 (f_X3_run_L4 n p1 k4 nn) := rfl
theorem s_X4_nextCode_0 (k0 : iw_M → Option (Int32 × iw_M)) (nn : Nat) : f_X4_nextCode_L0 k0 (nn + 1) = f_X4_nextCode_B0 k0 (f_X4_nextCode_L0 k0 nn) := rfl
theorem s_X4_readNumber_15 (k15 : Int32 → iw_M → Option (Int32 × iw_M)) (nn : Nat) : f_X4_readNumber_L15 k15 (nn + 1) = f_X4_readNumber_B15 k15 (f_X4_readNumber_L15 k15 nn) := rfl
theorem s_X4_read_20 (n : Nat) (k20 : iw_M → Option (Int32 × iw_M)) (nn : Nat) : f_X4_read_L20 n k20 (nn + 1) = f_X4_read_B20 n k20 (f_X4_read_L20 n k20 nn) := rfl
theorem s_X5_firstDeath_23 (n : Nat) (v1 : Int32) (k23 : iw_M → Option (Int32 × iw_M)) (nn : Nat) : f_X5_firstDeath_L23 n v1 k23 (nn + 1) = f_X5_firstDeath_B23 n v1 k23 (f_X5_firstDeath_L23 n v1 k23 nn) := rfl
theorem s_X5_bestPeriod_22 (n : Nat) (p1 : Int32) (k22 : Int32 → iw_M → Option (Int32 × iw_M)) (nn : Nat) : f_X5_bestPeriod_L22 n p1 k22 (nn + 1) = f_X5_bestPeriod_B22 n p1 k22 (f_X5_bestPeriod_L22 n p1 k22 nn) := rfl
theorem s_X6_copies_2 (p1 : Int32) (p2 : Int32) (k2 : iw_M → Option (iw_M)) (nn : Nat) : f_X6_copies_L2 p1 p2 k2 (nn + 1) = f_X6_copies_B2 p1 p2 k2 (f_X6_copies_L2 p1 p2 k2 nn) := rfl
theorem s_X6_saves_2 (n : Nat) (k2 : iw_M → Option (iw_M)) (nn : Nat) : f_X6_saves_L2 n k2 (nn + 1) = f_X6_saves_B2 n k2 (f_X6_saves_L2 n k2 nn) := rfl
theorem s_X6_linkOf_7 (p1 : Int32) (p2 : Int32) (σ : iw_M) (k7 : Int32 → Option (Int32)) (nn : Nat) : f_X6_linkOf_L7 p1 p2 σ k7 (nn + 1) = f_X6_linkOf_B7 p1 p2 σ k7 (f_X6_linkOf_L7 p1 p2 σ k7 nn) := rfl
theorem s_X6_laysSensor_44 (k44 : iw_M → Option (iw_M)) (nn : Nat) : f_X6_laysSensor_L44 k44 (nn + 1) = f_X6_laysSensor_B44 k44 (f_X6_laysSensor_L44 k44 nn) := rfl
theorem s_X6_cut_30 (k30 : iw_M → Option (Int32 × iw_M)) (nn : Nat) : f_X6_cut_L30 k30 (nn + 1) = f_X6_cut_B30 k30 (f_X6_cut_L30 k30 nn) := rfl
theorem s_X6_ask_167 (v11 : Int32) (k167 : iw_M → Option (Int32 × iw_M)) (nn : Nat) : f_X6_ask_L167 v11 k167 (nn + 1) = f_X6_ask_B167 v11 k167 (f_X6_ask_L167 v11 k167 nn) := rfl
theorem s_X6_removes_62 (k62 : iw_M → Option (iw_M)) (nn : Nat) : f_X6_removes_L62 k62 (nn + 1) = f_X6_removes_B62 k62 (f_X6_removes_L62 k62 nn) := rfl
theorem s_X6_removes_15 (k15 : iw_M → Option (iw_M)) (nn : Nat) : f_X6_removes_L15 k15 (nn + 1) = f_X6_removes_B15 k15 (f_X6_removes_L15 k15 nn) := rfl
theorem s_X6_living_4 (σ : iw_M) (k4 : Int32 → Option (Int32)) (nn : Nat) : f_X6_living_L4 σ k4 (nn + 1) = f_X6_living_B4 σ k4 (f_X6_living_L4 σ k4 nn) := rfl
theorem s_X6_part_18 (p1 : Int32) (σ : iw_M) (k18 : Int32 → Option (Int32)) (nn : Nat) : f_X6_part_L18 p1 σ k18 (nn + 1) = f_X6_part_B18 p1 σ k18 (f_X6_part_L18 p1 σ k18 nn) := rfl
theorem s_X6_looksAlive_2 (k2 : iw_M → Option (iw_M)) (nn : Nat) : f_X6_looksAlive_L2 k2 (nn + 1) = f_X6_looksAlive_B2 k2 (f_X6_looksAlive_L2 k2 nn) := rfl
theorem s_X6_reaches_219 (m9 : iw_M) (k219 : Int32 → Option (iw_M)) (nn : Nat) : f_X6_reaches_L219 m9 k219 (nn + 1) = f_X6_reaches_B219 m9 k219 (f_X6_reaches_L219 m9 k219 nn) := rfl
theorem s_X6_reaches_81 (v5 : Int32) (k81 : iw_M → Option (iw_M)) (nn : Nat) : f_X6_reaches_L81 v5 k81 (nn + 1) = f_X6_reaches_B81 v5 k81 (f_X6_reaches_L81 v5 k81 nn) := rfl
theorem s_X6_reaches_65 (n : Nat) (k65 : iw_M → Option (iw_M)) (nn : Nat) : f_X6_reaches_L65 n k65 (nn + 1) = f_X6_reaches_B65 n k65 (f_X6_reaches_L65 n k65 nn) := rfl
theorem s_X6_reaches_2 (p1 : Int32) (k2 : iw_M → Option (iw_M)) (nn : Nat) : f_X6_reaches_L2 p1 k2 (nn + 1) = f_X6_reaches_B2 p1 k2 (f_X6_reaches_L2 p1 k2 nn) := rfl
theorem s_X6_isWholeWay_18 (n : Nat) (p1 : Int32) (p2 : Int32) (σ : iw_M) (k18 : Int32 → Option (Int32)) (nn : Nat) : f_X6_isWholeWay_L18 n p1 p2 σ k18 (nn + 1) = f_X6_isWholeWay_B18 n p1 p2 σ k18 (f_X6_isWholeWay_L18 n p1 p2 σ k18 nn) := rfl
theorem s_X6_traces_66 (n : Nat) (v5 : Int32) (m9 : iw_M) (k66 : Int32 → Option (iw_M)) (nn : Nat) : f_X6_traces_L66 n v5 m9 k66 (nn + 1) = f_X6_traces_B66 n v5 m9 k66 (f_X6_traces_L66 n v5 m9 k66 nn) := rfl
theorem s_X6_traces_25 (n : Nat) (k25 : iw_M → Option (iw_M)) (nn : Nat) : f_X6_traces_L25 n k25 (nn + 1) = f_X6_traces_B25 n k25 (f_X6_traces_L25 n k25 nn) := rfl
theorem s_X6_goesOver_6 (a1 : Nat) (p2 : Int32) (p3 : Int32) (p4 : Int32) (σ : iw_M) (k6 : Int32 → Option (Int32)) (nn : Nat) : f_X6_goesOver_L6 a1 p2 p3 p4 σ k6 (nn + 1) = f_X6_goesOver_B6 a1 p2 p3 p4 σ k6 (f_X6_goesOver_L6 a1 p2 p3 p4 σ k6 nn) := rfl
theorem s_X6_explores_241 (p1 : Int32) (p2 : Int32) (k241 : iw_M → Option (iw_M)) (nn : Nat) : f_X6_explores_L241 p1 p2 k241 (nn + 1) = f_X6_explores_B241 p1 p2 k241 (f_X6_explores_L241 p1 p2 k241 nn) := rfl
theorem s_X6_explores_167 (n : Nat) (k167 : iw_M → Option (iw_M)) (nn : Nat) : f_X6_explores_L167 n k167 (nn + 1) = f_X6_explores_B167 n k167 (f_X6_explores_L167 n k167 nn) := rfl
theorem s_X6_explores_108 (n : Nat) (k108 : iw_M → Option (iw_M)) (nn : Nat) : f_X6_explores_L108 n k108 (nn + 1) = f_X6_explores_B108 n k108 (f_X6_explores_L108 n k108 nn) := rfl
theorem s_X6_explores_79 (p1 : Int32) (p2 : Int32) (k79 : iw_M → Option (iw_M)) (nn : Nat) : f_X6_explores_L79 p1 p2 k79 (nn + 1) = f_X6_explores_B79 p1 p2 k79 (f_X6_explores_L79 p1 p2 k79 nn) := rfl
theorem s_X6_explores_33 (k33 : iw_M → Option (iw_M)) (nn : Nat) : f_X6_explores_L33 k33 (nn + 1) = f_X6_explores_B33 k33 (f_X6_explores_L33 k33 nn) := rfl
theorem s_X6_sends_5 (n : Nat) (p1 : Int32) (p2 : Int32) (k5 : Int32 → iw_M → Option (iw_M)) (nn : Nat) : f_X6_sends_L5 n p1 p2 k5 (nn + 1) = f_X6_sends_B5 n p1 p2 k5 (f_X6_sends_L5 n p1 p2 k5 nn) := rfl
theorem s_X6_goesOn_88 (n : Nat) (v10 : Int32) (k88 : Int32 → iw_M → Option (Int32 × iw_M)) (nn : Nat) : f_X6_goesOn_L88 n v10 k88 (nn + 1) = f_X6_goesOn_B88 n v10 k88 (f_X6_goesOn_L88 n v10 k88 nn) := rfl
theorem s_X6_goesOn_76 (n : Nat) (k76 : Int32 → iw_M → Option (Int32 × iw_M)) (nn : Nat) : f_X6_goesOn_L76 n k76 (nn + 1) = f_X6_goesOn_B76 n k76 (f_X6_goesOn_L76 n k76 nn) := rfl
theorem s_X6_goesOn_52 (k52 : iw_M → Option (Int32 × iw_M)) (nn : Nat) : f_X6_goesOn_L52 k52 (nn + 1) = f_X6_goesOn_B52 k52 (f_X6_goesOn_L52 k52 nn) := rfl
theorem s_X6_goesOn_9 (n : Nat) (k9 : iw_M → Option (Int32 × iw_M)) (nn : Nat) : f_X6_goesOn_L9 n k9 (nn + 1) = f_X6_goesOn_B9 n k9 (f_X6_goesOn_L9 n k9 nn) := rfl
theorem s_X6_goesFor_4 (n : Nat) (p1 : Int32) (k4 : Int32 → iw_M → Option (Int32 × iw_M)) (nn : Nat) : f_X6_goesFor_L4 n p1 k4 (nn + 1) = f_X6_goesFor_B4 n p1 k4 (f_X6_goesFor_L4 n p1 k4 nn) := rfl
theorem s_X6_load_43 (n : Nat) (p1 : Int32) (σ : iw_M) (v5 : Int32) (v11 : Int32) (k43 : Int32 → Option (Int32)) (nn : Nat) : f_X6_load_L43 n p1 σ v5 v11 k43 (nn + 1) = f_X6_load_B43 n p1 σ v5 v11 k43 (f_X6_load_L43 n p1 σ v5 v11 k43 nn) := rfl
theorem s_X6_load_29 (n : Nat) (p1 : Int32) (σ : iw_M) (v5 : Int32) (k29 : Int32 → Option (Int32)) (nn : Nat) : f_X6_load_L29 n p1 σ v5 k29 (nn + 1) = f_X6_load_B29 n p1 σ v5 k29 (f_X6_load_L29 n p1 σ v5 k29 nn) := rfl
theorem s_X6_load_16 (n : Nat) (p1 : Int32) (σ : iw_M) (k16 : Int32 → Option (Int32)) (nn : Nat) : f_X6_load_L16 n p1 σ k16 (nn + 1) = f_X6_load_B16 n p1 σ k16 (f_X6_load_L16 n p1 σ k16 nn) := rfl
theorem s_X6_firstDeath_18 (n : Nat) (v2 : Int32) (k18 : Int32 → iw_M → Option (Int32 × iw_M)) (nn : Nat) : f_X6_firstDeath_L18 n v2 k18 (nn + 1) = f_X6_firstDeath_B18 n v2 k18 (f_X6_firstDeath_L18 n v2 k18 nn) := rfl
theorem s_X6_bestPeriod_31 (n : Nat) (p1 : Int32) (k31 : Int32 → iw_M → Option (Int32 × iw_M)) (nn : Nat) : f_X6_bestPeriod_L31 n p1 k31 (nn + 1) = f_X6_bestPeriod_B31 n p1 k31 (f_X6_bestPeriod_L31 n p1 k31 nn) := rfl
theorem s_X6_here_0 (k0 : iw_M → Option (Int32 × iw_M)) (nn : Nat) : f_X6_here_L0 k0 (nn + 1) = f_X6_here_B0 k0 (f_X6_here_L0 k0 nn) := rfl
theorem s_X6_finds_15 (v1 : Int32) (m2 : iw_M) (k15 : Int32 → Int32 → Option (Int32 × iw_M)) (nn : Nat) : f_X6_finds_L15 v1 m2 k15 (nn + 1) = f_X6_finds_B15 v1 m2 k15 (f_X6_finds_L15 v1 m2 k15 nn) := rfl
theorem s_X6_readsText_20 (n : Nat) (k20 : Int32 → iw_M → Option (Int32 × iw_M)) (nn : Nat) : f_X6_readsText_L20 n k20 (nn + 1) = f_X6_readsText_B20 n k20 (f_X6_readsText_L20 n k20 nn) := rfl
theorem s_X6_digest_201 (v7 : Int32) (v14 : Int32) (k201 : iw_M → Option (Int64 × iw_M)) (nn : Nat) : f_X6_digest_L201 v7 v14 k201 (nn + 1) = f_X6_digest_B201 v7 v14 k201 (f_X6_digest_L201 v7 v14 k201 nn) := rfl
theorem s_X6_digest_179 (n : Nat) (v7 : Int32) (k179 : iw_M → Option (Int64 × iw_M)) (nn : Nat) : f_X6_digest_L179 n v7 k179 (nn + 1) = f_X6_digest_B179 n v7 k179 (f_X6_digest_L179 n v7 k179 nn) := rfl
theorem s_X6_digest_155 (n : Nat) (v7 : Int32) (k155 : iw_M → Option (Int64 × iw_M)) (nn : Nat) : f_X6_digest_L155 n v7 k155 (nn + 1) = f_X6_digest_B155 n v7 k155 (f_X6_digest_L155 n v7 k155 nn) := rfl
theorem s_X6_digest_143 (n : Nat) (k143 : iw_M → Option (Int64 × iw_M)) (nn : Nat) : f_X6_digest_L143 n k143 (nn + 1) = f_X6_digest_B143 n k143 (f_X6_digest_L143 n k143 nn) := rfl
theorem s_X6_digest_110 (k110 : iw_M → Option (Int64 × iw_M)) (nn : Nat) : f_X6_digest_L110 k110 (nn + 1) = f_X6_digest_B110 k110 (f_X6_digest_L110 k110 nn) := rfl
theorem s_X6_digest_77 (k77 : iw_M → Option (Int64 × iw_M)) (nn : Nat) : f_X6_digest_L77 k77 (nn + 1) = f_X6_digest_B77 k77 (f_X6_digest_L77 k77 nn) := rfl
theorem s_X6_digest_46 (k46 : iw_M → Option (Int64 × iw_M)) (nn : Nat) : f_X6_digest_L46 k46 (nn + 1) = f_X6_digest_B46 k46 (f_X6_digest_L46 k46 nn) := rfl
theorem s_X6_digest_9 (n : Nat) (k9 : iw_M → Option (Int64 × iw_M)) (nn : Nat) : f_X6_digest_L9 n k9 (nn + 1) = f_X6_digest_B9 n k9 (f_X6_digest_L9 n k9 nn) := rfl
